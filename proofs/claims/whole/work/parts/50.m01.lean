theorem dX6_addFigures_0 : decode cX6_addFigures 0 = .ok (.lload_n 1, 1) := by decide +kernel
theorem dX6_addFigures_1 : decode cX6_addFigures 1 = .ok (.lconst 0, 1) := by decide +kernel
theorem dX6_addFigures_2 : decode cX6_addFigures 2 = .ok (.lcmp, 1) := by decide +kernel
theorem dX6_addFigures_3 : decode cX6_addFigures 3 = .ok (.ifCond .le 8, 3) := by decide +kernel
theorem dX6_addFigures_6 : decode cX6_addFigures 6 = .ok (.lload_n 1, 1) := by decide +kernel
theorem dX6_addFigures_7 : decode cX6_addFigures 7 = .ok (.lneg, 1) := by decide +kernel
theorem dX6_addFigures_8 : decode cX6_addFigures 8 = .ok (.goto 4, 3) := by decide +kernel
theorem dX6_addFigures_11 : decode cX6_addFigures 11 = .ok (.lload_n 1, 1) := by decide +kernel
theorem dX6_addFigures_12 : decode cX6_addFigures 12 = .ok (.lstore_n 3, 1) := by decide +kernel
theorem dX6_addFigures_13 : decode cX6_addFigures 13 = .ok (.iconst 0, 1) := by decide +kernel
theorem dX6_addFigures_14 : decode cX6_addFigures 14 = .ok (.istore 5, 2) := by decide +kernel
theorem dX6_addFigures_16 : decode cX6_addFigures 16 = .ok (.iconst 0, 1) := by decide +kernel
theorem dX6_addFigures_17 : decode cX6_addFigures 17 = .ok (.istore 6, 2) := by decide +kernel
theorem dX6_addFigures_19 : decode cX6_addFigures 19 = .ok (.iload 6, 2) := by decide +kernel
theorem dX6_addFigures_21 : decode cX6_addFigures 21 = .ok (.bipush 20, 2) := by decide +kernel
theorem dX6_addFigures_23 : decode cX6_addFigures 23 = .ok (.if_icmp .ge 50, 3) := by decide +kernel
theorem dX6_addFigures_26 : decode cX6_addFigures 26 = .ok (.lload_n 3, 1) := by decide +kernel
theorem dX6_addFigures_27 : decode cX6_addFigures 27 = .ok (.lconst 0, 1) := by decide +kernel
theorem dX6_addFigures_28 : decode cX6_addFigures 28 = .ok (.lcmp, 1) := by decide +kernel
theorem dX6_addFigures_29 : decode cX6_addFigures 29 = .ok (.ifCond .ne 8, 3) := by decide +kernel
theorem dX6_addFigures_32 : decode cX6_addFigures 32 = .ok (.iload 6, 2) := by decide +kernel
theorem dX6_addFigures_34 : decode cX6_addFigures 34 = .ok (.ifCond .ne 39, 3) := by decide +kernel
theorem dX6_addFigures_37 : decode cX6_addFigures 37 = .ok (.aload_n 0, 1) := by decide +kernel
theorem dX6_addFigures_38 : decode cX6_addFigures 38 = .ok (.getfield 13, 3) := by decide +kernel
theorem dX6_addFigures_41 : decode cX6_addFigures 41 = .ok (.iload 6, 2) := by decide +kernel
theorem dX6_addFigures_43 : decode cX6_addFigures 43 = .ok (.ldc2_w 46, 3) := by decide +kernel
theorem dX6_addFigures_46 : decode cX6_addFigures 46 = .ok (.lload_n 3, 1) := by decide +kernel
theorem dX6_addFigures_47 : decode cX6_addFigures 47 = .ok (.ldc2_w 48, 3) := by decide +kernel
theorem dX6_addFigures_50 : decode cX6_addFigures 50 = .ok (.lrem, 1) := by decide +kernel
theorem dX6_addFigures_51 : decode cX6_addFigures 51 = .ok (.lsub, 1) := by decide +kernel
theorem dX6_addFigures_52 : decode cX6_addFigures 52 = .ok (.l2i, 1) := by decide +kernel
theorem dX6_addFigures_53 : decode cX6_addFigures 53 = .ok (.i2c, 1) := by decide +kernel
theorem dX6_addFigures_54 : decode cX6_addFigures 54 = .ok (.castore, 1) := by decide +kernel
theorem dX6_addFigures_55 : decode cX6_addFigures 55 = .ok (.lload_n 3, 1) := by decide +kernel
theorem dX6_addFigures_56 : decode cX6_addFigures 56 = .ok (.ldc2_w 48, 3) := by decide +kernel
theorem dX6_addFigures_59 : decode cX6_addFigures 59 = .ok (.ldiv, 1) := by decide +kernel
theorem dX6_addFigures_60 : decode cX6_addFigures 60 = .ok (.lstore_n 3, 1) := by decide +kernel
theorem dX6_addFigures_61 : decode cX6_addFigures 61 = .ok (.iload 6, 2) := by decide +kernel
theorem dX6_addFigures_63 : decode cX6_addFigures 63 = .ok (.iconst 1, 1) := by decide +kernel
theorem dX6_addFigures_64 : decode cX6_addFigures 64 = .ok (.iadd, 1) := by decide +kernel
theorem dX6_addFigures_65 : decode cX6_addFigures 65 = .ok (.istore 5, 2) := by decide +kernel
theorem dX6_addFigures_67 : decode cX6_addFigures 67 = .ok (.iinc 6 1, 3) := by decide +kernel
theorem dX6_addFigures_70 : decode cX6_addFigures 70 = .ok (.goto (-51), 3) := by decide +kernel
theorem dX6_addFigures_73 : decode cX6_addFigures 73 = .ok (.iload 5, 2) := by decide +kernel
theorem dX6_addFigures_75 : decode cX6_addFigures 75 = .ok (.iconst 1, 1) := by decide +kernel
theorem dX6_addFigures_76 : decode cX6_addFigures 76 = .ok (.isub, 1) := by decide +kernel
theorem dX6_addFigures_77 : decode cX6_addFigures 77 = .ok (.istore 6, 2) := by decide +kernel
theorem dX6_addFigures_79 : decode cX6_addFigures 79 = .ok (.iload 6, 2) := by decide +kernel
theorem dX6_addFigures_81 : decode cX6_addFigures 81 = .ok (.ifCond .lt 20, 3) := by decide +kernel
theorem dX6_addFigures_84 : decode cX6_addFigures 84 = .ok (.aload_n 0, 1) := by decide +kernel
theorem dX6_addFigures_85 : decode cX6_addFigures 85 = .ok (.aload_n 0, 1) := by decide +kernel
theorem dX6_addFigures_86 : decode cX6_addFigures 86 = .ok (.getfield 13, 3) := by decide +kernel
theorem dX6_addFigures_89 : decode cX6_addFigures 89 = .ok (.iload 6, 2) := by decide +kernel
theorem dX6_addFigures_91 : decode cX6_addFigures 91 = .ok (.caload, 1) := by decide +kernel
theorem dX6_addFigures_92 : decode cX6_addFigures 92 = .ok (.invokevirtual 26, 3) := by decide +kernel
theorem dX6_addFigures_95 : decode cX6_addFigures 95 = .ok (.iinc 6 (-1), 3) := by decide +kernel
theorem dX6_addFigures_98 : decode cX6_addFigures 98 = .ok (.goto (-19), 3) := by decide +kernel
theorem dX6_addFigures_101 : decode cX6_addFigures 101 = .ok (.return_, 1) := by decide +kernel
set_option maxHeartbeats 4000000 in
set_option maxRecDepth 100000 in
theorem cn_X6_addFigures {l : Launch} {cA : Nat → ClassId} {ad : Nat → Nat} {D : va_G} {E : Nat → Nat} {A : Nat → Prop} {x1 : Int64} {s0 sr : SS} {rr : Unit} (hf : f_X6_addFigures x1 s0 = some (rr, sr)) : zCon Ox Nx cA ad D E l yX6_addFigures cX6_addFigures 7 none 1 A [.ref (ad 10), .long x1] s0 none sr := by
  refine zstart (own := RX6) hOx (by decide) rfl (Nat.le_of_ble_eq_true rfl) ?_
  intro p e s m args below meth c X hP ls hl
  have hx := X.1
  have hb := X.2.1
  have hl : lv_has ls 7 [(0, .ref (ad 10)), (1, .long x1)] := hl
  have hS : va_S A s.heap s.heap [] := va_S.rf
  have hc_19 : ∀ (n19 : Nat) (x3 : Int64) (x5 : Int32) (x6 : Int32) (s1 : SS) (H : Heap) (locs : List Loc) (ls : Array Slot), lv_has ls 7 [(0, .ref (ad 10)), (3, .long x3), (5, .int x5), (6, .int x6)] → va_P D ZCL (zw Ox Nx cA ad s1) H → va_S A s.heap H locs → f_X6_addFigures_c19 n19 x3 x5 x6 s1 = some (rr, sr) → W p l e (zrm 1) s m args below meth c H locs 0 0 (MQ below (zQc Ox Nx cA ad D A none sr) args s 0 0 A) (F0 m 19 ls []) := by
    intro n19
    induction n19 with
    | zero =>
      intro x3 x5 x6 s1 H locs ls hl hP hS hf
      rw [f_X6_addFigures_c19] at hf
      cases hf
    | succ n19 ih19 =>
      have hc_79 : ∀ (n79 : Nat) (x6 : Int32) (s1 : SS) (H : Heap) (locs : List Loc) (ls : Array Slot), lv_has ls 7 [(0, .ref (ad 10)), (6, .int x6)] → va_P D ZCL (zw Ox Nx cA ad s1) H → va_S A s.heap H locs → f_X6_addFigures_c79 n79 x6 s1 = some (rr, sr) → W p l e (zrm 1) s m args below meth c H locs 0 0 (MQ below (zQc Ox Nx cA ad D A none sr) args s 0 0 A) (F0 m 79 ls []) := by
        intro n79
        induction n79 with
        | zero =>
          intro x6 s1 H locs ls hl hP hS hf
          rw [f_X6_addFigures_c79] at hf
          cases hf
        | succ n79 ih79 =>
          intro x6 s1 H locs ls hl hP hS hf
          rw [f_X6_addFigures_c79] at hf
          refine lv_iload hx hb dX6_addFigures_79 (lv_at hl 1 rfl) ?_
          refine zif_lt (tgt := 101) hx hb dX6_addFigures_81 (by decide) hf (fun hf => ?_) (fun hf => ?_)
          · exact zret_v X hP hS hf dX6_addFigures_101
          · refine lv_aload_n hx hb dX6_addFigures_84 rfl (lv_at hl 0 rfl) ?_
            refine lv_aload_n hx hb dX6_addFigures_85 rfl (lv_at hl 0 rfl) ?_
            refine gf_X6_13 X hP (k := 10) (q := 81) rfl dX6_addFigures_86 rfl ?_
            refine lv_iload hx hb dX6_addFigures_89 (lv_at hl 1 rfl) ?_
            obtain ⟨g1, hf⟩ := zgd hf
            refine zald_c X hP (k := 81) (n := 20) (rs := []) rfl g1 dX6_addFigures_91 ?_
            obtain ⟨r2, s3, h4, hf⟩ := zbd_some hf
            refine zcallV X hP hS hl.1 (k := 10) (As := [.int (s1.1 81 (x6).toNatClampNeg)]) (rest := []) (cn_X6_add h4) cw_X6_add zp_6 rfl (by decide) rfl ml_X6_26 (by decide) rfl rfl (Nat.le_of_ble_eq_true rfl) dX6_addFigures_92 (fun H locs hP hS => ?_)
            refine lv_iinc (v := (x6 + (-1))) (lv' := [(6, .int (x6 + (-1))), (0, .ref (ad 10))]) hx hb dX6_addFigures_95 hl (k := 1) rfl rfl (by decide) rfl (fun ls hl => ?_)
            refine lv_goto (tgt := 79) hx hb dX6_addFigures_98 (by decide) ?_
            exact ih79 (x6 + (-1)) s3 _ _ _ (lv_sub hl [1, 0] rfl) hP hS hf
      have hc_73 : ∀ (x5 : Int32) (s1 : SS) (H : Heap) (locs : List Loc) (ls : Array Slot), lv_has ls 7 [(0, .ref (ad 10)), (5, .int x5)] → va_P D ZCL (zw Ox Nx cA ad s1) H → va_S A s.heap H locs → f_X6_addFigures_c73 x5 s1 = some (rr, sr) → W p l e (zrm 1) s m args below meth c H locs 0 0 (MQ below (zQc Ox Nx cA ad D A none sr) args s 0 0 A) (F0 m 73 ls []) := by
        intro x5 s1 H locs ls hl hP hS hf
        rw [f_X6_addFigures_c73] at hf
        refine lv_iload hx hb dX6_addFigures_73 (lv_at hl 1 rfl) ?_
        refine lv_iconst (v := 1) hx hb dX6_addFigures_75 (by decide) ?_
        refine lv_isub hx hb dX6_addFigures_76 ?_
        refine lv_istore (lv' := [(6, .int (x5 - (1 : Int32))), (0, .ref (ad 10)), (5, .int x5)]) hx hb dX6_addFigures_77 hl (by decide) rfl (fun ls hl => ?_)
        exact hc_79 ZF (x5 - (1 : Int32)) s1 _ _ _ (lv_sub hl [1, 0] rfl) hP hS hf
      have hc_37 : ∀ (x3 : Int64) (x6 : Int32) (s1 : SS) (H : Heap) (locs : List Loc) (ls : Array Slot), lv_has ls 7 [(0, .ref (ad 10)), (3, .long x3), (6, .int x6)] → va_P D ZCL (zw Ox Nx cA ad s1) H → va_S A s.heap H locs → f_X6_addFigures_c37 (f_X6_addFigures_c19 n19) x3 x6 s1 = some (rr, sr) → W p l e (zrm 1) s m args below meth c H locs 0 0 (MQ below (zQc Ox Nx cA ad D A none sr) args s 0 0 A) (F0 m 37 ls []) := by
        intro x3 x6 s1 H locs ls hl hP hS hf
        rw [f_X6_addFigures_c37] at hf
        refine lv_aload_n hx hb dX6_addFigures_37 rfl (lv_at hl 0 rfl) ?_
        refine gf_X6_13 X hP (k := 10) (q := 81) rfl dX6_addFigures_38 rfl ?_
        refine lv_iload hx hb dX6_addFigures_41 (lv_at hl 2 rfl) ?_
        refine zldc2 X co_X6_46 dX6_addFigures_43 ?_
        refine lv_lload_n hx hb dX6_addFigures_46 rfl (lv_at hl 1 rfl) ?_
        refine zldc2 X co_X6_48 dX6_addFigures_47 ?_
        refine lv_lrem hx hb dX6_addFigures_50 (by decide) ?_
        refine lv_lsub hx hb dX6_addFigures_51 ?_
        refine lv_l2i hx hb dX6_addFigures_52 rfl ?_
        refine lv_i2c hx hb dX6_addFigures_53 rfl ?_
        obtain ⟨g5, hf⟩ := zgd hf
        refine zast_c X hP hS (k := 81) (n := 20) (rs := []) rfl g5 dX6_addFigures_54 (fun H locs hP hS => ?_)
        refine lv_lload_n hx hb dX6_addFigures_55 rfl (lv_at hl 1 rfl) ?_
        refine zldc2 X co_X6_48 dX6_addFigures_56 ?_
        refine lv_ldiv hx hb dX6_addFigures_59 (by decide) ?_
        refine lv_lstore_n (lv' := [(3, .long (x3 / (10 : Int64))), (0, .ref (ad 10)), (6, .int x6)]) hx hb dX6_addFigures_60 rfl hl (by decide) rfl (fun ls hl => ?_)
        refine lv_iload hx hb dX6_addFigures_61 (lv_at hl 2 rfl) ?_
        refine lv_iconst (v := 1) hx hb dX6_addFigures_63 (by decide) ?_
        refine lv_iadd hx hb dX6_addFigures_64 ?_
        refine lv_istore (lv' := [(5, .int (x6 + (1 : Int32))), (3, .long (x3 / (10 : Int64))), (0, .ref (ad 10)), (6, .int x6)]) hx hb dX6_addFigures_65 hl (by decide) rfl (fun ls hl => ?_)
        refine lv_iinc (v := (x6 + 1)) (lv' := [(6, .int (x6 + 1)), (5, .int (x6 + (1 : Int32))), (3, .long (x3 / (10 : Int64))), (0, .ref (ad 10))]) hx hb dX6_addFigures_67 hl (k := 3) rfl rfl (by decide) rfl (fun ls hl => ?_)
        refine lv_goto (tgt := 19) hx hb dX6_addFigures_70 (by decide) ?_
        exact ih19 (x3 / (10 : Int64)) (x6 + (1 : Int32)) (x6 + 1) (zS s1 81 (x6).toNatClampNeg ((vp_nar .char ((((((48 : Int64) - (x3 - x3 / (10 : Int64) * (10 : Int64)))).toInt32).toUInt32 % 65536).toInt32)))) _ _ _ (lv_sub hl [3, 2, 1, 0] rfl) hP hS hf
      intro x3 x5 x6 s1 H locs ls hl hP hS hf
      rw [f_X6_addFigures_c19] at hf
      refine lv_iload hx hb dX6_addFigures_19 (lv_at hl 3 rfl) ?_
      refine lv_bipush (v := 20) hx hb dX6_addFigures_21 (by decide) ?_
      refine zicmp_ge (tgt := 73) hx hb dX6_addFigures_23 (by decide) hf (fun hf => ?_) (fun hf => ?_)
      · exact hc_73 x5 s1 _ _ _ (lv_sub hl [0, 2] rfl) hP hS hf
      · refine lv_lload_n hx hb dX6_addFigures_26 rfl (lv_at hl 1 rfl) ?_
        refine lv_lconst (v := 0) hx hb dX6_addFigures_27 (by decide) ?_
        refine W.lcmp hx hb dX6_addFigures_28 ?_
        refine zif_ne (tgt := 37) hx hb dX6_addFigures_29 (by decide) hf (fun hf => ?_) (fun hf => ?_)
        · exact hc_37 x3 x6 s1 _ _ _ (lv_sub hl [0, 1, 3] rfl) hP hS hf
        · refine lv_iload hx hb dX6_addFigures_32 (lv_at hl 3 rfl) ?_
          refine zif_ne (tgt := 73) hx hb dX6_addFigures_34 (by decide) hf (fun hf => ?_) (fun hf => ?_)
          · exact hc_73 x5 s1 _ _ _ (lv_sub hl [0, 2] rfl) hP hS hf
          · exact hc_37 x3 x6 s1 _ _ _ (lv_sub hl [0, 1, 3] rfl) hP hS hf
  have hc_12 : ∀ (t0 : Int64) (s1 : SS) (H : Heap) (locs : List Loc) (ls : Array Slot), lv_has ls 7 [(0, .ref (ad 10))] → va_P D ZCL (zw Ox Nx cA ad s1) H → va_S A s.heap H locs → f_X6_addFigures_c12 t0 s1 = some (rr, sr) → W p l e (zrm 1) s m args below meth c H locs 0 0 (MQ below (zQc Ox Nx cA ad D A none sr) args s 0 0 A) (F0 m 12 ls [.long t0]) := by
    intro t0 s1 H locs ls hl hP hS hf
    rw [f_X6_addFigures_c12] at hf
    refine lv_lstore_n (lv' := [(3, .long t0), (0, .ref (ad 10))]) hx hb dX6_addFigures_12 rfl hl (by decide) rfl (fun ls hl => ?_)
    refine lv_iconst (v := 0) hx hb dX6_addFigures_13 (by decide) ?_
    refine lv_istore (lv' := [(5, .int 0), (3, .long t0), (0, .ref (ad 10))]) hx hb dX6_addFigures_14 hl (by decide) rfl (fun ls hl => ?_)
    refine lv_iconst (v := 0) hx hb dX6_addFigures_16 (by decide) ?_
    refine lv_istore (lv' := [(6, .int 0), (5, .int 0), (3, .long t0), (0, .ref (ad 10))]) hx hb dX6_addFigures_17 hl (by decide) rfl (fun ls hl => ?_)
    exact hc_19 ZF t0 0 0 s1 _ _ _ (lv_sub hl [3, 2, 1, 0] rfl) hP hS hf
  rw [f_X6_addFigures] at hf
  refine lv_lload_n hx hb dX6_addFigures_0 rfl (lv_at hl 1 rfl) ?_
  refine lv_lconst (v := 0) hx hb dX6_addFigures_1 (by decide) ?_
  refine W.lcmp hx hb dX6_addFigures_2 ?_
  refine zif_le (tgt := 11) hx hb dX6_addFigures_3 (by decide) hf (fun hf => ?_) (fun hf => ?_)
  · refine lv_lload_n hx hb dX6_addFigures_11 rfl (lv_at hl 1 rfl) ?_
    exact hc_12 x1 s0 _ _ _ (lv_sub hl [0] rfl) hP hS hf
  · refine lv_lload_n hx hb dX6_addFigures_6 rfl (lv_at hl 1 rfl) ?_
    refine lv_lneg hx hb dX6_addFigures_7 ?_
    refine lv_goto (tgt := 12) hx hb dX6_addFigures_8 (by decide) ?_
    exact hc_12 (-x1) s0 _ _ _ (lv_sub hl [0] rfl) hP hS hf
theorem dX7_letterCount_0 : decode cX7_letterCount 0 = .ok (.aload_n 0, 1) := by decide +kernel
theorem dX7_letterCount_1 : decode cX7_letterCount 1 = .ok (.getfield 28, 3) := by decide +kernel
theorem dX7_letterCount_4 : decode cX7_letterCount 4 = .ok (.aload_n 0, 1) := by decide +kernel
theorem dX7_letterCount_5 : decode cX7_letterCount 5 = .ok (.getfield 25, 3) := by decide +kernel
theorem dX7_letterCount_8 : decode cX7_letterCount 8 = .ok (.iadd, 1) := by decide +kernel
theorem dX7_letterCount_9 : decode cX7_letterCount 9 = .ok (.aload_n 0, 1) := by decide +kernel
theorem dX7_letterCount_10 : decode cX7_letterCount 10 = .ok (.getfield 21, 3) := by decide +kernel
theorem dX7_letterCount_13 : decode cX7_letterCount 13 = .ok (.iconst 2, 1) := by decide +kernel
theorem dX7_letterCount_14 : decode cX7_letterCount 14 = .ok (.if_icmp .ne 7, 3) := by decide +kernel
theorem dX7_letterCount_17 : decode cX7_letterCount 17 = .ok (.iconst 1, 1) := by decide +kernel
theorem dX7_letterCount_18 : decode cX7_letterCount 18 = .ok (.goto 4, 3) := by decide +kernel
theorem dX7_letterCount_21 : decode cX7_letterCount 21 = .ok (.iconst 0, 1) := by decide +kernel
theorem dX7_letterCount_22 : decode cX7_letterCount 22 = .ok (.iadd, 1) := by decide +kernel
theorem dX7_letterCount_23 : decode cX7_letterCount 23 = .ok (.ireturn, 1) := by decide +kernel
set_option maxHeartbeats 4000000 in
set_option maxRecDepth 100000 in
theorem cn_X7_letterCount {l : Launch} {cA : Nat → ClassId} {ad : Nat → Nat} {D : va_G} {E : Nat → Nat} {A : Nat → Prop} {k0 : Nat} {s0 sr : SS} {rr : Int32} (hf : f_X7_letterCount k0 s0 = some (rr, sr)) : zCon Ox Nx cA ad D E l yX7_letterCount cX7_letterCount 1 (some .int) 0 A [.ref (ad k0)] s0 (some (.int rr)) sr := by
  refine zstart (own := RX7) hOx (by decide) rfl (Nat.le_of_ble_eq_true rfl) ?_
  intro p e s m args below meth c X hP ls hl
  have hx := X.1
  have hb := X.2.1
  have hl : lv_has ls 1 [(0, .ref (ad k0))] := hl
  have hS : va_S A s.heap s.heap [] := va_S.rf
  rw [f_X7_letterCount] at hf
  obtain ⟨gp0, hf⟩ := zgd hf
  refine lv_aload_n hx hb dX7_letterCount_0 rfl (lv_at hl 0 rfl) ?_
  refine gf_X7_28 X hP (k := k0) gp0 dX7_letterCount_1 ?_
  refine lv_aload_n hx hb dX7_letterCount_4 rfl (lv_at hl 0 rfl) ?_
  refine gf_X7_25 X hP (k := k0) gp0 dX7_letterCount_5 ?_
  refine lv_iadd hx hb dX7_letterCount_8 ?_
  refine lv_aload_n hx hb dX7_letterCount_9 rfl (lv_at hl 0 rfl) ?_
  refine gf_X7_21 X hP (k := k0) gp0 dX7_letterCount_10 ?_
  refine lv_iconst (v := 2) hx hb dX7_letterCount_13 (by decide) ?_
  refine zicmp_ne (tgt := 21) hx hb dX7_letterCount_14 (by decide) hf (fun hf => ?_) (fun hf => ?_)
  · refine lv_iconst (v := 0) hx hb dX7_letterCount_21 (by decide) ?_
    refine lv_iadd hx hb dX7_letterCount_22 ?_
    exact zret_i X hP hS hf rfl dX7_letterCount_23
  · refine lv_iconst (v := 1) hx hb dX7_letterCount_17 (by decide) ?_
    refine lv_goto (tgt := 22) hx hb dX7_letterCount_18 (by decide) ?_
    refine lv_iadd hx hb dX7_letterCount_22 ?_
    exact zret_i X hP hS hf rfl dX7_letterCount_23
theorem dX7_signOf_0 : decode cX7_signOf 0 = .ok (.iload_n 1, 1) := by decide +kernel
theorem dX7_signOf_1 : decode cX7_signOf 1 = .ok (.aload_n 0, 1) := by decide +kernel
theorem dX7_signOf_2 : decode cX7_signOf 2 = .ok (.getfield 28, 3) := by decide +kernel
theorem dX7_signOf_5 : decode cX7_signOf 5 = .ok (.if_icmp .ge 9, 3) := by decide +kernel
theorem dX7_signOf_8 : decode cX7_signOf 8 = .ok (.bipush 97, 2) := by decide +kernel
theorem dX7_signOf_10 : decode cX7_signOf 10 = .ok (.iload_n 1, 1) := by decide +kernel
theorem dX7_signOf_11 : decode cX7_signOf 11 = .ok (.iadd, 1) := by decide +kernel
theorem dX7_signOf_12 : decode cX7_signOf 12 = .ok (.i2c, 1) := by decide +kernel
theorem dX7_signOf_13 : decode cX7_signOf 13 = .ok (.ireturn, 1) := by decide +kernel
theorem dX7_signOf_14 : decode cX7_signOf 14 = .ok (.aload_n 0, 1) := by decide +kernel
theorem dX7_signOf_15 : decode cX7_signOf 15 = .ok (.getfield 21, 3) := by decide +kernel
theorem dX7_signOf_18 : decode cX7_signOf 18 = .ok (.iconst 2, 1) := by decide +kernel
theorem dX7_signOf_19 : decode cX7_signOf 19 = .ok (.if_icmp .ne 6, 3) := by decide +kernel
theorem dX7_signOf_22 : decode cX7_signOf 22 = .ok (.bipush 118, 2) := by decide +kernel
theorem dX7_signOf_24 : decode cX7_signOf 24 = .ok (.ireturn, 1) := by decide +kernel
theorem dX7_signOf_25 : decode cX7_signOf 25 = .ok (.aload_n 0, 1) := by decide +kernel
theorem dX7_signOf_26 : decode cX7_signOf 26 = .ok (.getfield 21, 3) := by decide +kernel
theorem dX7_signOf_29 : decode cX7_signOf 29 = .ok (.ifCond .ne 8, 3) := by decide +kernel
theorem dX7_signOf_32 : decode cX7_signOf 32 = .ok (.bipush 112, 2) := by decide +kernel
theorem dX7_signOf_34 : decode cX7_signOf 34 = .ok (.goto 5, 3) := by decide +kernel
theorem dX7_signOf_37 : decode cX7_signOf 37 = .ok (.bipush 117, 2) := by decide +kernel
theorem dX7_signOf_39 : decode cX7_signOf 39 = .ok (.iload_n 1, 1) := by decide +kernel
theorem dX7_signOf_40 : decode cX7_signOf 40 = .ok (.iadd, 1) := by decide +kernel
theorem dX7_signOf_41 : decode cX7_signOf 41 = .ok (.aload_n 0, 1) := by decide +kernel
theorem dX7_signOf_42 : decode cX7_signOf 42 = .ok (.getfield 28, 3) := by decide +kernel
theorem dX7_signOf_45 : decode cX7_signOf 45 = .ok (.isub, 1) := by decide +kernel
theorem dX7_signOf_46 : decode cX7_signOf 46 = .ok (.i2c, 1) := by decide +kernel
theorem dX7_signOf_47 : decode cX7_signOf 47 = .ok (.ireturn, 1) := by decide +kernel
set_option maxHeartbeats 4000000 in
set_option maxRecDepth 100000 in
theorem cn_X7_signOf {l : Launch} {cA : Nat → ClassId} {ad : Nat → Nat} {D : va_G} {E : Nat → Nat} {A : Nat → Prop} {k0 : Nat} {x1 : Int32} {s0 sr : SS} {rr : Int32} (hf : f_X7_signOf k0 x1 s0 = some (rr, sr)) : zCon Ox Nx cA ad D E l yX7_signOf cX7_signOf 2 (some .char) 0 A [.ref (ad k0), .int x1] s0 (some (.int rr)) sr := by
  refine zstart (own := RX7) hOx (by decide) rfl (Nat.le_of_ble_eq_true rfl) ?_
  intro p e s m args below meth c X hP ls hl
  have hx := X.1
  have hb := X.2.1
  have hl : lv_has ls 2 [(0, .ref (ad k0)), (1, .int x1)] := hl
  have hS : va_S A s.heap s.heap [] := va_S.rf
  rw [f_X7_signOf] at hf
  obtain ⟨gp0, hf⟩ := zgd hf
  refine lv_iload_n hx hb dX7_signOf_0 rfl (lv_at hl 1 rfl) ?_
  refine lv_aload_n hx hb dX7_signOf_1 rfl (lv_at hl 0 rfl) ?_
  refine gf_X7_28 X hP (k := k0) gp0 dX7_signOf_2 ?_
  refine zicmp_ge (tgt := 14) hx hb dX7_signOf_5 (by decide) hf (fun hf => ?_) (fun hf => ?_)
  · refine lv_aload_n hx hb dX7_signOf_14 rfl (lv_at hl 0 rfl) ?_
    refine gf_X7_21 X hP (k := k0) gp0 dX7_signOf_15 ?_
    refine lv_iconst (v := 2) hx hb dX7_signOf_18 (by decide) ?_
    refine zicmp_ne (tgt := 25) hx hb dX7_signOf_19 (by decide) hf (fun hf => ?_) (fun hf => ?_)
    · refine lv_aload_n hx hb dX7_signOf_25 rfl (lv_at hl 0 rfl) ?_
      refine gf_X7_21 X hP (k := k0) gp0 dX7_signOf_26 ?_
      refine zif_ne (tgt := 37) hx hb dX7_signOf_29 (by decide) hf (fun hf => ?_) (fun hf => ?_)
      · refine lv_bipush (v := 117) hx hb dX7_signOf_37 (by decide) ?_
        refine lv_iload_n hx hb dX7_signOf_39 rfl (lv_at hl 1 rfl) ?_
        refine lv_iadd hx hb dX7_signOf_40 ?_
        refine lv_aload_n hx hb dX7_signOf_41 rfl (lv_at hl 0 rfl) ?_
        refine gf_X7_28 X hP (k := k0) gp0 dX7_signOf_42 ?_
        refine lv_isub hx hb dX7_signOf_45 ?_
        refine lv_i2c hx hb dX7_signOf_46 rfl ?_
        obtain ⟨b1, hf⟩ := zgd hf
        exact zret_i X hP hS hf (znar_of (by decide) b1) dX7_signOf_47
      · refine lv_bipush (v := 112) hx hb dX7_signOf_32 (by decide) ?_
        refine lv_goto (tgt := 39) hx hb dX7_signOf_34 (by decide) ?_
        refine lv_iload_n hx hb dX7_signOf_39 rfl (lv_at hl 1 rfl) ?_
        refine lv_iadd hx hb dX7_signOf_40 ?_
        refine lv_aload_n hx hb dX7_signOf_41 rfl (lv_at hl 0 rfl) ?_
        refine gf_X7_28 X hP (k := k0) gp0 dX7_signOf_42 ?_
        refine lv_isub hx hb dX7_signOf_45 ?_
        refine lv_i2c hx hb dX7_signOf_46 rfl ?_
        obtain ⟨b2, hf⟩ := zgd hf
        exact zret_i X hP hS hf (znar_of (by decide) b2) dX7_signOf_47
    · refine lv_bipush (v := 118) hx hb dX7_signOf_22 (by decide) ?_
      obtain ⟨b3, hf⟩ := zgd hf
      exact zret_i X hP hS hf (znar_of (by decide) b3) dX7_signOf_24
  · refine lv_bipush (v := 97) hx hb dX7_signOf_8 (by decide) ?_
    refine lv_iload_n hx hb dX7_signOf_10 rfl (lv_at hl 1 rfl) ?_
    refine lv_iadd hx hb dX7_signOf_11 ?_
    refine lv_i2c hx hb dX7_signOf_12 rfl ?_
    obtain ⟨b4, hf⟩ := zgd hf
    exact zret_i X hP hS hf (znar_of (by decide) b4) dX7_signOf_13
theorem dX6_addMember_0 : decode cX6_addMember 0 = .ok (.lload_n 3, 1) := by decide +kernel
theorem dX6_addMember_1 : decode cX6_addMember 1 = .ok (.lconst 0, 1) := by decide +kernel
theorem dX6_addMember_2 : decode cX6_addMember 2 = .ok (.lcmp, 1) := by decide +kernel
theorem dX6_addMember_3 : decode cX6_addMember 3 = .ok (.ifCond .ge 12, 3) := by decide +kernel
theorem dX6_addMember_6 : decode cX6_addMember 6 = .ok (.aload_n 0, 1) := by decide +kernel
theorem dX6_addMember_7 : decode cX6_addMember 7 = .ok (.bipush 45, 2) := by decide +kernel
theorem dX6_addMember_9 : decode cX6_addMember 9 = .ok (.invokevirtual 26, 3) := by decide +kernel
theorem dX6_addMember_12 : decode cX6_addMember 12 = .ok (.goto 16, 3) := by decide +kernel
theorem dX6_addMember_15 : decode cX6_addMember 15 = .ok (.aload_n 0, 1) := by decide +kernel
theorem dX6_addMember_16 : decode cX6_addMember 16 = .ok (.getfield 16, 3) := by decide +kernel
theorem dX6_addMember_19 : decode cX6_addMember 19 = .ok (.ifCond .le 9, 3) := by decide +kernel
theorem dX6_addMember_22 : decode cX6_addMember 22 = .ok (.aload_n 0, 1) := by decide +kernel
theorem dX6_addMember_23 : decode cX6_addMember 23 = .ok (.bipush 43, 2) := by decide +kernel
theorem dX6_addMember_25 : decode cX6_addMember 25 = .ok (.invokevirtual 26, 3) := by decide +kernel
theorem dX6_addMember_28 : decode cX6_addMember 28 = .ok (.iload_n 2, 1) := by decide +kernel
theorem dX6_addMember_29 : decode cX6_addMember 29 = .ok (.ifCond .eq 17, 3) := by decide +kernel
theorem dX6_addMember_32 : decode cX6_addMember 32 = .ok (.lload_n 3, 1) := by decide +kernel
theorem dX6_addMember_33 : decode cX6_addMember 33 = .ok (.lconst 1, 1) := by decide +kernel
theorem dX6_addMember_34 : decode cX6_addMember 34 = .ok (.lcmp, 1) := by decide +kernel
theorem dX6_addMember_35 : decode cX6_addMember 35 = .ok (.ifCond .eq 16, 3) := by decide +kernel
theorem dX6_addMember_38 : decode cX6_addMember 38 = .ok (.lload_n 3, 1) := by decide +kernel
theorem dX6_addMember_39 : decode cX6_addMember 39 = .ok (.ldc2_w 30, 3) := by decide +kernel
theorem dX6_addMember_42 : decode cX6_addMember 42 = .ok (.lcmp, 1) := by decide +kernel
theorem dX6_addMember_43 : decode cX6_addMember 43 = .ok (.ifCond .eq 8, 3) := by decide +kernel
theorem dX6_addMember_46 : decode cX6_addMember 46 = .ok (.aload_n 0, 1) := by decide +kernel
theorem dX6_addMember_47 : decode cX6_addMember 47 = .ok (.lload_n 3, 1) := by decide +kernel
theorem dX6_addMember_48 : decode cX6_addMember 48 = .ok (.invokevirtual 32, 3) := by decide +kernel
theorem dX6_addMember_51 : decode cX6_addMember 51 = .ok (.iload_n 2, 1) := by decide +kernel
theorem dX6_addMember_52 : decode cX6_addMember 52 = .ok (.istore 5, 2) := by decide +kernel
theorem dX6_addMember_54 : decode cX6_addMember 54 = .ok (.iconst 0, 1) := by decide +kernel
theorem dX6_addMember_55 : decode cX6_addMember 55 = .ok (.istore 6, 2) := by decide +kernel
theorem dX6_addMember_57 : decode cX6_addMember 57 = .ok (.iload 6, 2) := by decide +kernel
theorem dX6_addMember_59 : decode cX6_addMember 59 = .ok (.aload_n 1, 1) := by decide +kernel
theorem dX6_addMember_60 : decode cX6_addMember 60 = .ok (.invokevirtual 36, 3) := by decide +kernel
theorem dX6_addMember_63 : decode cX6_addMember 63 = .ok (.if_icmp .ge 60, 3) := by decide +kernel
theorem dX6_addMember_66 : decode cX6_addMember 66 = .ok (.iload 5, 2) := by decide +kernel
theorem dX6_addMember_68 : decode cX6_addMember 68 = .ok (.bipush 10, 2) := by decide +kernel
theorem dX6_addMember_70 : decode cX6_addMember 70 = .ok (.irem, 1) := by decide +kernel
theorem dX6_addMember_71 : decode cX6_addMember 71 = .ok (.istore 7, 2) := by decide +kernel
theorem dX6_addMember_73 : decode cX6_addMember 73 = .ok (.iload 5, 2) := by decide +kernel
theorem dX6_addMember_75 : decode cX6_addMember 75 = .ok (.bipush 10, 2) := by decide +kernel
theorem dX6_addMember_77 : decode cX6_addMember 77 = .ok (.idiv, 1) := by decide +kernel
theorem dX6_addMember_78 : decode cX6_addMember 78 = .ok (.istore 5, 2) := by decide +kernel
theorem dX6_addMember_80 : decode cX6_addMember 80 = .ok (.iload 7, 2) := by decide +kernel
theorem dX6_addMember_82 : decode cX6_addMember 82 = .ok (.ifCond .le 13, 3) := by decide +kernel
theorem dX6_addMember_85 : decode cX6_addMember 85 = .ok (.aload_n 0, 1) := by decide +kernel
theorem dX6_addMember_86 : decode cX6_addMember 86 = .ok (.aload_n 1, 1) := by decide +kernel
theorem dX6_addMember_87 : decode cX6_addMember 87 = .ok (.iload 6, 2) := by decide +kernel
theorem dX6_addMember_89 : decode cX6_addMember 89 = .ok (.invokevirtual 42, 3) := by decide +kernel
theorem dX6_addMember_92 : decode cX6_addMember 92 = .ok (.invokevirtual 26, 3) := by decide +kernel
theorem dX6_addMember_95 : decode cX6_addMember 95 = .ok (.iload 7, 2) := by decide +kernel
theorem dX6_addMember_97 : decode cX6_addMember 97 = .ok (.iconst 1, 1) := by decide +kernel
theorem dX6_addMember_98 : decode cX6_addMember 98 = .ok (.if_icmp .le 19, 3) := by decide +kernel
theorem dX6_addMember_101 : decode cX6_addMember 101 = .ok (.aload_n 0, 1) := by decide +kernel
theorem dX6_addMember_102 : decode cX6_addMember 102 = .ok (.bipush 94, 2) := by decide +kernel
theorem dX6_addMember_104 : decode cX6_addMember 104 = .ok (.invokevirtual 26, 3) := by decide +kernel
theorem dX6_addMember_107 : decode cX6_addMember 107 = .ok (.aload_n 0, 1) := by decide +kernel
theorem dX6_addMember_108 : decode cX6_addMember 108 = .ok (.bipush 48, 2) := by decide +kernel
theorem dX6_addMember_110 : decode cX6_addMember 110 = .ok (.iload 7, 2) := by decide +kernel
theorem dX6_addMember_112 : decode cX6_addMember 112 = .ok (.iadd, 1) := by decide +kernel
theorem dX6_addMember_113 : decode cX6_addMember 113 = .ok (.i2c, 1) := by decide +kernel
theorem dX6_addMember_114 : decode cX6_addMember 114 = .ok (.invokevirtual 26, 3) := by decide +kernel
theorem dX6_addMember_117 : decode cX6_addMember 117 = .ok (.iinc 6 1, 3) := by decide +kernel
theorem dX6_addMember_120 : decode cX6_addMember 120 = .ok (.goto (-63), 3) := by decide +kernel
theorem dX6_addMember_123 : decode cX6_addMember 123 = .ok (.return_, 1) := by decide +kernel
set_option maxHeartbeats 4000000 in
set_option maxRecDepth 100000 in
theorem cn_X6_addMember {l : Launch} {cA : Nat → ClassId} {ad : Nat → Nat} {D : va_G} {E : Nat → Nat} {A : Nat → Prop} {k1 : Nat} {x2 : Int32} {x3 : Int64} {s0 sr : SS} {rr : Unit} (hf : f_X6_addMember k1 x2 x3 s0 = some (rr, sr)) : zCon Ox Nx cA ad D E l yX6_addMember cX6_addMember 8 none 2 A [.ref (ad 10), .ref (ad k1), .int x2, .long x3] s0 none sr := by
  refine zstart (own := RX6) hOx (by decide) rfl (Nat.le_of_ble_eq_true rfl) ?_
  intro p e s m args below meth c X hP ls hl
  have hx := X.1
  have hb := X.2.1
  have hl : lv_has ls 8 [(0, .ref (ad 10)), (1, .ref (ad k1)), (2, .int x2), (3, .long x3)] := hl
  have hS : va_S A s.heap s.heap [] := va_S.rf
  have hc_57 : ∀ (n57 : Nat) (k1 : Nat) (x5 : Int32) (x6 : Int32) (s1 : SS) (H : Heap) (locs : List Loc) (ls : Array Slot), lv_has ls 8 [(0, .ref (ad 10)), (1, .ref (ad k1)), (5, .int x5), (6, .int x6)] → va_P D ZCL (zw Ox Nx cA ad s1) H → va_S A s.heap H locs → f_X6_addMember_c57 n57 k1 x5 x6 s1 = some (rr, sr) → W p l e (zrm 2) s m args below meth c H locs 0 0 (MQ below (zQc Ox Nx cA ad D A none sr) args s 0 0 A) (F0 m 57 ls []) := by
    intro n57
    induction n57 with
    | zero =>
      intro k1 x5 x6 s1 H locs ls hl hP hS hf
      rw [f_X6_addMember_c57] at hf
      cases hf
    | succ n57 ih57 =>
      have hc_117 : ∀ (k1 : Nat) (x5 : Int32) (x6 : Int32) (s1 : SS) (H : Heap) (locs : List Loc) (ls : Array Slot), lv_has ls 8 [(0, .ref (ad 10)), (1, .ref (ad k1)), (5, .int x5), (6, .int x6)] → va_P D ZCL (zw Ox Nx cA ad s1) H → va_S A s.heap H locs → f_X6_addMember_c117 (f_X6_addMember_c57 n57) k1 x5 x6 s1 = some (rr, sr) → W p l e (zrm 2) s m args below meth c H locs 0 0 (MQ below (zQc Ox Nx cA ad D A none sr) args s 0 0 A) (F0 m 117 ls []) := by
        intro k1 x5 x6 s1 H locs ls hl hP hS hf
        rw [f_X6_addMember_c117] at hf
        obtain ⟨gp1, hf⟩ := zgd hf
        refine lv_iinc (v := (x6 + 1)) (lv' := [(6, .int (x6 + 1)), (0, .ref (ad 10)), (1, .ref (ad k1)), (5, .int x5)]) hx hb dX6_addMember_117 hl (k := 3) rfl rfl (by decide) rfl (fun ls hl => ?_)
        refine lv_goto (tgt := 57) hx hb dX6_addMember_120 (by decide) ?_
        exact ih57 k1 x5 (x6 + 1) s1 _ _ _ (lv_sub hl [1, 2, 3, 0] rfl) hP hS hf
      have hc_95 : ∀ (k1 : Nat) (x5 : Int32) (x6 : Int32) (x7 : Int32) (s1 : SS) (H : Heap) (locs : List Loc) (ls : Array Slot), lv_has ls 8 [(0, .ref (ad 10)), (1, .ref (ad k1)), (5, .int x5), (6, .int x6), (7, .int x7)] → va_P D ZCL (zw Ox Nx cA ad s1) H → va_S A s.heap H locs → f_X6_addMember_c95 (f_X6_addMember_c57 n57) k1 x5 x6 x7 s1 = some (rr, sr) → W p l e (zrm 2) s m args below meth c H locs 0 0 (MQ below (zQc Ox Nx cA ad D A none sr) args s 0 0 A) (F0 m 95 ls []) := by
        intro k1 x5 x6 x7 s1 H locs ls hl hP hS hf
        rw [f_X6_addMember_c95] at hf
        obtain ⟨gp1, hf⟩ := zgd hf
        refine lv_iload hx hb dX6_addMember_95 (lv_at hl 4 rfl) ?_
        refine lv_iconst (v := 1) hx hb dX6_addMember_97 (by decide) ?_
        refine zicmp_le (tgt := 117) hx hb dX6_addMember_98 (by decide) hf (fun hf => ?_) (fun hf => ?_)
        · exact hc_117 k1 x5 x6 s1 _ _ _ (lv_sub hl [0, 1, 2, 3] rfl) hP hS hf
        · refine lv_aload_n hx hb dX6_addMember_101 rfl (lv_at hl 0 rfl) ?_
          refine lv_bipush (v := 94) hx hb dX6_addMember_102 (by decide) ?_
          obtain ⟨r7, s8, h9, hf⟩ := zbd_some hf
          refine zcallV X hP hS hl.1 (k := 10) (As := [.int 94]) (rest := []) (cn_X6_add h9) cw_X6_add zp_6 rfl (by decide) rfl ml_X6_26 (by decide) rfl rfl (Nat.le_of_ble_eq_true rfl) dX6_addMember_104 (fun H locs hP hS => ?_)
          refine lv_aload_n hx hb dX6_addMember_107 rfl (lv_at hl 0 rfl) ?_
          refine lv_bipush (v := 48) hx hb dX6_addMember_108 (by decide) ?_
          refine lv_iload hx hb dX6_addMember_110 (lv_at hl 4 rfl) ?_
          refine lv_iadd hx hb dX6_addMember_112 ?_
          refine lv_i2c hx hb dX6_addMember_113 rfl ?_
          obtain ⟨r10, s11, h12, hf⟩ := zbd_some hf
          refine zcallV X hP hS hl.1 (k := 10) (As := [.int ((((48 : Int32) + x7)).toUInt32 % 65536).toInt32]) (rest := []) (cn_X6_add h12) cw_X6_add zp_6 rfl (by decide) rfl ml_X6_26 (by decide) rfl rfl (Nat.le_of_ble_eq_true rfl) dX6_addMember_114 (fun H locs hP hS => ?_)
          exact hc_117 k1 x5 x6 s11 _ _ _ (lv_sub hl [0, 1, 2, 3] rfl) hP hS hf
      intro k1 x5 x6 s1 H locs ls hl hP hS hf
      rw [f_X6_addMember_c57] at hf
      obtain ⟨gp1, hf⟩ := zgd hf
      refine lv_iload hx hb dX6_addMember_57 (lv_at hl 3 rfl) ?_
      refine lv_aload_n hx hb dX6_addMember_59 rfl (lv_at hl 1 rfl) ?_
      obtain ⟨r4, s5, h6, hf⟩ := zbd_some hf
      refine zcallV X hP hS hl.1 (k := k1) (As := []) (rest := [.int x6]) (cn_X7_letterCount h6) cw_X7_letterCount zp_7 gp1 (by decide) rfl ml_X6_36 (by decide) rfl rfl (Nat.le_of_ble_eq_true rfl) dX6_addMember_60 (fun H locs hP hS => ?_)
      refine zicmp_ge (tgt := 123) hx hb dX6_addMember_63 (by decide) hf (fun hf => ?_) (fun hf => ?_)
      · exact zret_v X hP hS hf dX6_addMember_123
      · refine lv_iload hx hb dX6_addMember_66 (lv_at hl 2 rfl) ?_
        refine lv_bipush (v := 10) hx hb dX6_addMember_68 (by decide) ?_
        refine lv_irem hx hb dX6_addMember_70 (by decide) ?_
        refine lv_istore (lv' := [(7, .int (x5 - x5 / (10 : Int32) * (10 : Int32))), (0, .ref (ad 10)), (1, .ref (ad k1)), (5, .int x5), (6, .int x6)]) hx hb dX6_addMember_71 hl (by decide) rfl (fun ls hl => ?_)
        refine lv_iload hx hb dX6_addMember_73 (lv_at hl 3 rfl) ?_
        refine lv_bipush (v := 10) hx hb dX6_addMember_75 (by decide) ?_
        refine lv_idiv hx hb dX6_addMember_77 (by decide) ?_
        refine lv_istore (lv' := [(5, .int (x5 / (10 : Int32))), (7, .int (x5 - x5 / (10 : Int32) * (10 : Int32))), (0, .ref (ad 10)), (1, .ref (ad k1)), (6, .int x6)]) hx hb dX6_addMember_78 hl (by decide) rfl (fun ls hl => ?_)
        refine lv_iload hx hb dX6_addMember_80 (lv_at hl 1 rfl) ?_
        refine zif_le (tgt := 95) hx hb dX6_addMember_82 (by decide) hf (fun hf => ?_) (fun hf => ?_)
        · exact hc_95 k1 (x5 / (10 : Int32)) x6 (x5 - x5 / (10 : Int32) * (10 : Int32)) s5 _ _ _ (lv_sub hl [2, 3, 0, 4, 1] rfl) hP hS hf
        · refine lv_aload_n hx hb dX6_addMember_85 rfl (lv_at hl 2 rfl) ?_
          refine lv_aload_n hx hb dX6_addMember_86 rfl (lv_at hl 3 rfl) ?_
          refine lv_iload hx hb dX6_addMember_87 (lv_at hl 4 rfl) ?_
          obtain ⟨r13, s14, h15, hf⟩ := zbd_some hf
          refine zcallV X hP hS hl.1 (k := k1) (As := [.int x6]) (rest := [.ref (ad 10)]) (cn_X7_signOf h15) cw_X7_signOf zp_7 gp1 (by decide) rfl ml_X6_42 (by decide) rfl rfl (Nat.le_of_ble_eq_true rfl) dX6_addMember_89 (fun H locs hP hS => ?_)
          obtain ⟨r16, s17, h18, hf⟩ := zbd_some hf
          refine zcallV X hP hS hl.1 (k := 10) (As := [.int r13]) (rest := []) (cn_X6_add h18) cw_X6_add zp_6 rfl (by decide) rfl ml_X6_26 (by decide) rfl rfl (Nat.le_of_ble_eq_true rfl) dX6_addMember_92 (fun H locs hP hS => ?_)
          exact hc_95 k1 (x5 / (10 : Int32)) x6 (x5 - x5 / (10 : Int32) * (10 : Int32)) s17 _ _ _ (lv_sub hl [2, 3, 0, 4, 1] rfl) hP hS hf
  have hc_51 : ∀ (k1 : Nat) (x2 : Int32) (s1 : SS) (H : Heap) (locs : List Loc) (ls : Array Slot), lv_has ls 8 [(0, .ref (ad 10)), (1, .ref (ad k1)), (2, .int x2)] → va_P D ZCL (zw Ox Nx cA ad s1) H → va_S A s.heap H locs → f_X6_addMember_c51 k1 x2 s1 = some (rr, sr) → W p l e (zrm 2) s m args below meth c H locs 0 0 (MQ below (zQc Ox Nx cA ad D A none sr) args s 0 0 A) (F0 m 51 ls []) := by
    intro k1 x2 s1 H locs ls hl hP hS hf
    rw [f_X6_addMember_c51] at hf
    obtain ⟨gp1, hf⟩ := zgd hf
    refine lv_iload_n hx hb dX6_addMember_51 rfl (lv_at hl 2 rfl) ?_
    refine lv_istore (lv' := [(5, .int x2), (0, .ref (ad 10)), (1, .ref (ad k1)), (2, .int x2)]) hx hb dX6_addMember_52 hl (by decide) rfl (fun ls hl => ?_)
    refine lv_iconst (v := 0) hx hb dX6_addMember_54 (by decide) ?_
    refine lv_istore (lv' := [(6, .int 0), (5, .int x2), (0, .ref (ad 10)), (1, .ref (ad k1)), (2, .int x2)]) hx hb dX6_addMember_55 hl (by decide) rfl (fun ls hl => ?_)
    exact hc_57 ZF k1 x2 0 s1 _ _ _ (lv_sub hl [2, 3, 1, 0] rfl) hP hS hf
  have hc_46 : ∀ (k1 : Nat) (x2 : Int32) (x3 : Int64) (s1 : SS) (H : Heap) (locs : List Loc) (ls : Array Slot), lv_has ls 8 [(0, .ref (ad 10)), (1, .ref (ad k1)), (2, .int x2), (3, .long x3)] → va_P D ZCL (zw Ox Nx cA ad s1) H → va_S A s.heap H locs → f_X6_addMember_c46 k1 x2 x3 s1 = some (rr, sr) → W p l e (zrm 2) s m args below meth c H locs 0 0 (MQ below (zQc Ox Nx cA ad D A none sr) args s 0 0 A) (F0 m 46 ls []) := by
    intro k1 x2 x3 s1 H locs ls hl hP hS hf
    rw [f_X6_addMember_c46] at hf
    obtain ⟨gp1, hf⟩ := zgd hf
    refine lv_aload_n hx hb dX6_addMember_46 rfl (lv_at hl 0 rfl) ?_
    refine lv_lload_n hx hb dX6_addMember_47 rfl (lv_at hl 3 rfl) ?_
    obtain ⟨r1, s2, h3, hf⟩ := zbd_some hf
    refine zcallV X hP hS hl.1 (k := 10) (As := [.long x3]) (rest := []) (cn_X6_addFigures h3) cw_X6_addFigures zp_6 rfl (by decide) rfl ml_X6_32 (by decide) rfl rfl (Nat.le_of_ble_eq_true rfl) dX6_addMember_48 (fun H locs hP hS => ?_)
    exact hc_51 k1 x2 s2 _ _ _ (lv_sub hl [0, 1, 2] rfl) hP hS hf
  have hc_28 : ∀ (k1 : Nat) (x2 : Int32) (x3 : Int64) (s1 : SS) (H : Heap) (locs : List Loc) (ls : Array Slot), lv_has ls 8 [(0, .ref (ad 10)), (1, .ref (ad k1)), (2, .int x2), (3, .long x3)] → va_P D ZCL (zw Ox Nx cA ad s1) H → va_S A s.heap H locs → f_X6_addMember_c28 k1 x2 x3 s1 = some (rr, sr) → W p l e (zrm 2) s m args below meth c H locs 0 0 (MQ below (zQc Ox Nx cA ad D A none sr) args s 0 0 A) (F0 m 28 ls []) := by
    intro k1 x2 x3 s1 H locs ls hl hP hS hf
    rw [f_X6_addMember_c28] at hf
    obtain ⟨gp1, hf⟩ := zgd hf
    refine lv_iload_n hx hb dX6_addMember_28 rfl (lv_at hl 2 rfl) ?_
    refine zif_eq (tgt := 46) hx hb dX6_addMember_29 (by decide) hf (fun hf => ?_) (fun hf => ?_)
    · exact hc_46 k1 x2 x3 s1 _ _ _ (lv_sub hl [0, 1, 2, 3] rfl) hP hS hf
    · refine lv_lload_n hx hb dX6_addMember_32 rfl (lv_at hl 3 rfl) ?_
      refine lv_lconst (v := 1) hx hb dX6_addMember_33 (by decide) ?_
      refine W.lcmp hx hb dX6_addMember_34 ?_
      refine zif_eq (tgt := 51) hx hb dX6_addMember_35 (by decide) hf (fun hf => ?_) (fun hf => ?_)
      · exact hc_51 k1 x2 s1 _ _ _ (lv_sub hl [0, 1, 2] rfl) hP hS hf
      · refine lv_lload_n hx hb dX6_addMember_38 rfl (lv_at hl 3 rfl) ?_
        refine zldc2 X co_X6_30 dX6_addMember_39 ?_
        refine W.lcmp hx hb dX6_addMember_42 ?_
        refine zif_eq (tgt := 51) hx hb dX6_addMember_43 (by decide) hf (fun hf => ?_) (fun hf => ?_)
        · exact hc_51 k1 x2 s1 _ _ _ (lv_sub hl [0, 1, 2] rfl) hP hS hf
        · exact hc_46 k1 x2 x3 s1 _ _ _ (lv_sub hl [0, 1, 2, 3] rfl) hP hS hf
  rw [f_X6_addMember] at hf
  obtain ⟨gp1, hf⟩ := zgd hf
  refine lv_lload_n hx hb dX6_addMember_0 rfl (lv_at hl 3 rfl) ?_
  refine lv_lconst (v := 0) hx hb dX6_addMember_1 (by decide) ?_
  refine W.lcmp hx hb dX6_addMember_2 ?_
  refine zif_ge (tgt := 15) hx hb dX6_addMember_3 (by decide) hf (fun hf => ?_) (fun hf => ?_)
  · refine lv_aload_n hx hb dX6_addMember_15 rfl (lv_at hl 0 rfl) ?_
    refine gf_X6_16 X hP (k := 10) rfl dX6_addMember_16 ?_
    refine zif_le (tgt := 28) hx hb dX6_addMember_19 (by decide) hf (fun hf => ?_) (fun hf => ?_)
    · exact hc_28 k1 x2 x3 s0 _ _ _ (lv_sub hl [0, 1, 2, 3] rfl) hP hS hf
    · refine lv_aload_n hx hb dX6_addMember_22 rfl (lv_at hl 0 rfl) ?_
      refine lv_bipush (v := 43) hx hb dX6_addMember_23 (by decide) ?_
      obtain ⟨r19, s20, h21, hf⟩ := zbd_some hf
      refine zcallV X hP hS hl.1 (k := 10) (As := [.int 43]) (rest := []) (cn_X6_add h21) cw_X6_add zp_6 rfl (by decide) rfl ml_X6_26 (by decide) rfl rfl (Nat.le_of_ble_eq_true rfl) dX6_addMember_25 (fun H locs hP hS => ?_)
      exact hc_28 k1 x2 x3 s20 _ _ _ (lv_sub hl [0, 1, 2, 3] rfl) hP hS hf
  · refine lv_aload_n hx hb dX6_addMember_6 rfl (lv_at hl 0 rfl) ?_
    refine lv_bipush (v := 45) hx hb dX6_addMember_7 (by decide) ?_
    obtain ⟨r22, s23, h24, hf⟩ := zbd_some hf
    refine zcallV X hP hS hl.1 (k := 10) (As := [.int 45]) (rest := []) (cn_X6_add h24) cw_X6_add zp_6 rfl (by decide) rfl ml_X6_26 (by decide) rfl rfl (Nat.le_of_ble_eq_true rfl) dX6_addMember_9 (fun H locs hP hS => ?_)
    refine lv_goto (tgt := 28) hx hb dX6_addMember_12 (by decide) ?_
    exact hc_28 k1 x2 x3 s23 _ _ _ (lv_sub hl [0, 1, 2, 3] rfl) hP hS hf
theorem dX7_become_0 : decode cX7_become 0 = .ok (.aload_n 0, 1) := by decide +kernel
theorem dX7_become_1 : decode cX7_become 1 = .ok (.iload_n 1, 1) := by decide +kernel
theorem dX7_become_2 : decode cX7_become 2 = .ok (.putfield 21, 3) := by decide +kernel
theorem dX7_become_5 : decode cX7_become 5 = .ok (.aload_n 0, 1) := by decide +kernel
theorem dX7_become_6 : decode cX7_become 6 = .ok (.iconst 0, 1) := by decide +kernel
theorem dX7_become_7 : decode cX7_become 7 = .ok (.putfield 25, 3) := by decide +kernel
theorem dX7_become_10 : decode cX7_become 10 = .ok (.aload_n 0, 1) := by decide +kernel
theorem dX7_become_11 : decode cX7_become 11 = .ok (.iconst 1, 1) := by decide +kernel
theorem dX7_become_12 : decode cX7_become 12 = .ok (.iload_n 3, 1) := by decide +kernel
theorem dX7_become_13 : decode cX7_become 13 = .ok (.ifCond .le 7, 3) := by decide +kernel
theorem dX7_become_16 : decode cX7_become 16 = .ok (.iconst 1, 1) := by decide +kernel
theorem dX7_become_17 : decode cX7_become 17 = .ok (.goto 4, 3) := by decide +kernel
theorem dX7_become_20 : decode cX7_become 20 = .ok (.iconst 0, 1) := by decide +kernel
theorem dX7_become_21 : decode cX7_become 21 = .ok (.iadd, 1) := by decide +kernel
theorem dX7_become_22 : decode cX7_become 22 = .ok (.iload 4, 2) := by decide +kernel
theorem dX7_become_24 : decode cX7_become 24 = .ok (.ifCond .le 7, 3) := by decide +kernel
theorem dX7_become_27 : decode cX7_become 27 = .ok (.iconst 1, 1) := by decide +kernel
theorem dX7_become_28 : decode cX7_become 28 = .ok (.goto 4, 3) := by decide +kernel
theorem dX7_become_31 : decode cX7_become 31 = .ok (.iconst 0, 1) := by decide +kernel
theorem dX7_become_32 : decode cX7_become 32 = .ok (.iadd, 1) := by decide +kernel
theorem dX7_become_33 : decode cX7_become 33 = .ok (.putfield 28, 3) := by decide +kernel
theorem dX7_become_36 : decode cX7_become 36 = .ok (.aload_n 0, 1) := by decide +kernel
theorem dX7_become_37 : decode cX7_become 37 = .ok (.getfield 9, 3) := by decide +kernel
theorem dX7_become_40 : decode cX7_become 40 = .ok (.iconst 0, 1) := by decide +kernel
theorem dX7_become_41 : decode cX7_become 41 = .ok (.iload_n 2, 1) := by decide +kernel
theorem dX7_become_42 : decode cX7_become 42 = .ok (.iastore, 1) := by decide +kernel
theorem dX7_become_43 : decode cX7_become 43 = .ok (.aload_n 0, 1) := by decide +kernel
theorem dX7_become_44 : decode cX7_become 44 = .ok (.getfield 9, 3) := by decide +kernel
theorem dX7_become_47 : decode cX7_become 47 = .ok (.iconst 1, 1) := by decide +kernel
theorem dX7_become_48 : decode cX7_become 48 = .ok (.iload_n 3, 1) := by decide +kernel
theorem dX7_become_49 : decode cX7_become 49 = .ok (.iastore, 1) := by decide +kernel
theorem dX7_become_50 : decode cX7_become 50 = .ok (.aload_n 0, 1) := by decide +kernel
theorem dX7_become_51 : decode cX7_become 51 = .ok (.getfield 9, 3) := by decide +kernel
theorem dX7_become_54 : decode cX7_become 54 = .ok (.iconst 2, 1) := by decide +kernel
theorem dX7_become_55 : decode cX7_become 55 = .ok (.iload 4, 2) := by decide +kernel
theorem dX7_become_57 : decode cX7_become 57 = .ok (.iastore, 1) := by decide +kernel
theorem dX7_become_58 : decode cX7_become 58 = .ok (.aload_n 0, 1) := by decide +kernel
theorem dX7_become_59 : decode cX7_become 59 = .ok (.getfield 15, 3) := by decide +kernel
theorem dX7_become_62 : decode cX7_become 62 = .ok (.iconst 0, 1) := by decide +kernel
theorem dX7_become_63 : decode cX7_become 63 = .ok (.invokestatic 31, 3) := by decide +kernel
theorem dX7_become_66 : decode cX7_become 66 = .ok (.aload_n 0, 1) := by decide +kernel
theorem dX7_become_67 : decode cX7_become 67 = .ok (.getfield 18, 3) := by decide +kernel
theorem dX7_become_70 : decode cX7_become 70 = .ok (.iconst 0, 1) := by decide +kernel
theorem dX7_become_71 : decode cX7_become 71 = .ok (.invokestatic 31, 3) := by decide +kernel
theorem dX7_become_74 : decode cX7_become 74 = .ok (.return_, 1) := by decide +kernel
set_option maxHeartbeats 4000000 in
set_option maxRecDepth 100000 in
theorem cn_X7_become {l : Launch} {cA : Nat → ClassId} {ad : Nat → Nat} {D : va_G} {E : Nat → Nat} {A : Nat → Prop} {k0 : Nat} {x1 : Int32} {x2 : Int32} {x3 : Int32} {x4 : Int32} {s0 sr : SS} {rr : Unit} (hf : f_X7_become k0 x1 x2 x3 x4 s0 = some (rr, sr)) : zCon Ox Nx cA ad D E l yX7_become cX7_become 5 none 1 A [.ref (ad k0), .int x1, .int x2, .int x3, .int x4] s0 none sr := by
  refine zstart (own := RX7) hOx (by decide) rfl (Nat.le_of_ble_eq_true rfl) ?_
  intro p e s m args below meth c X hP ls hl
  have hx := X.1
  have hb := X.2.1
  have hl : lv_has ls 5 [(0, .ref (ad k0)), (1, .int x1), (2, .int x2), (3, .int x3), (4, .int x4)] := hl
  have hS : va_S A s.heap s.heap [] := va_S.rf
  have hc_32 : ∀ (k0 : Nat) (x2 : Int32) (x3 : Int32) (x4 : Int32) (t0 : Int32) (t1 : Int32) (kt2 : Nat) (s1 : SS) (H : Heap) (locs : List Loc) (ls : Array Slot), lv_has ls 5 [(0, .ref (ad k0)), (2, .int x2), (3, .int x3), (4, .int x4)] → va_P D ZCL (zw Ox Nx cA ad s1) H → va_S A s.heap H locs → f_X7_become_c32 k0 x2 x3 x4 t0 t1 kt2 s1 = some (rr, sr) → W p l e (zrm 1) s m args below meth c H locs 0 0 (MQ below (zQc Ox Nx cA ad D A none sr) args s 0 0 A) (F0 m 32 ls [.int t0, .int t1, .ref (ad kt2)]) := by
    intro k0 x2 x3 x4 t0 t1 kt2 s1 H locs ls hl hP hS hf
    rw [f_X7_become_c32] at hf
    obtain ⟨gp0, hf⟩ := zgd hf
    obtain ⟨gt2, hf⟩ := zgd hf
    refine lv_iadd hx hb dX7_become_32 ?_
    refine pf_X7_28 X hP hS (k := kt2) gt2 dX7_become_33 (fun H locs hP hS => ?_)
    refine lv_aload_n hx hb dX7_become_36 rfl (lv_at hl 0 rfl) ?_
    refine gf_X7_9 X hP (k := k0) gp0 dX7_become_37 rfl ?_
    refine lv_iconst (v := 0) hx hb dX7_become_40 (by decide) ?_
    refine lv_iload_n hx hb dX7_become_41 rfl (lv_at hl 1 rfl) ?_
    obtain ⟨g1, hf⟩ := zgd hf
    obtain ⟨n12, rn12, on12, in12⟩ := zok_of g1
    refine zast_i X hP hS (k := (zrf Ox k0 3)) on12 in12 dX7_become_42 (fun H locs hP hS => ?_)
    refine lv_aload_n hx hb dX7_become_43 rfl (lv_at hl 0 rfl) ?_
    refine gf_X7_9 X hP (k := k0) gp0 dX7_become_44 rfl ?_
    refine lv_iconst (v := 1) hx hb dX7_become_47 (by decide) ?_
    refine lv_iload_n hx hb dX7_become_48 rfl (lv_at hl 2 rfl) ?_
    obtain ⟨g2, hf⟩ := zgd hf
    obtain ⟨n11, rn11, on11, in11⟩ := zok_of g2
    refine zast_i X hP hS (k := (zrf Ox k0 3)) on11 in11 dX7_become_49 (fun H locs hP hS => ?_)
    refine lv_aload_n hx hb dX7_become_50 rfl (lv_at hl 0 rfl) ?_
    refine gf_X7_9 X hP (k := k0) gp0 dX7_become_51 rfl ?_
    refine lv_iconst (v := 2) hx hb dX7_become_54 (by decide) ?_
    refine lv_iload hx hb dX7_become_55 (lv_at hl 3 rfl) ?_
    obtain ⟨g3, hf⟩ := zgd hf
    obtain ⟨n10, rn10, on10, in10⟩ := zok_of g3
    refine zast_i X hP hS (k := (zrf Ox k0 3)) on10 in10 dX7_become_57 (fun H locs hP hS => ?_)
    refine lv_aload_n hx hb dX7_become_58 rfl (lv_at hl 0 rfl) ?_
    refine gf_X7_15 X hP (k := k0) gp0 dX7_become_59 rfl ?_
    refine lv_iconst (v := 0) hx hb dX7_become_62 (by decide) ?_
    obtain ⟨r4, s5, h6, hf⟩ := zbd_some hf
    refine zcallS X hP hS hl.1 (As := [.ref (ad (zrf Ox k0 4)), .int 0]) (rest := []) (cn_J7_fill_53178 h6) cw_J7_fill_53178 ml_X7_31 (by decide) rfl rfl (Nat.le_of_ble_eq_true rfl) dX7_become_63 (fun H locs hP hS => ?_)
    refine lv_aload_n hx hb dX7_become_66 rfl (lv_at hl 0 rfl) ?_
    refine gf_X7_18 X hP (k := k0) gp0 dX7_become_67 rfl ?_
    refine lv_iconst (v := 0) hx hb dX7_become_70 (by decide) ?_
    obtain ⟨r7, s8, h9, hf⟩ := zbd_some hf
    refine zcallS X hP hS hl.1 (As := [.ref (ad (zrf Ox k0 5)), .int 0]) (rest := []) (cn_J7_fill_53178 h9) cw_J7_fill_53178 ml_X7_31 (by decide) rfl rfl (Nat.le_of_ble_eq_true rfl) dX7_become_71 (fun H locs hP hS => ?_)
    exact zret_v X hP hS hf dX7_become_74
  have hc_21 : ∀ (k0 : Nat) (x2 : Int32) (x3 : Int32) (x4 : Int32) (t0 : Int32) (t1 : Int32) (kt2 : Nat) (s1 : SS) (H : Heap) (locs : List Loc) (ls : Array Slot), lv_has ls 5 [(0, .ref (ad k0)), (2, .int x2), (3, .int x3), (4, .int x4)] → va_P D ZCL (zw Ox Nx cA ad s1) H → va_S A s.heap H locs → f_X7_become_c21 k0 x2 x3 x4 t0 t1 kt2 s1 = some (rr, sr) → W p l e (zrm 1) s m args below meth c H locs 0 0 (MQ below (zQc Ox Nx cA ad D A none sr) args s 0 0 A) (F0 m 21 ls [.int t0, .int t1, .ref (ad kt2)]) := by
    intro k0 x2 x3 x4 t0 t1 kt2 s1 H locs ls hl hP hS hf
    rw [f_X7_become_c21] at hf
    obtain ⟨gp0, hf⟩ := zgd hf
    obtain ⟨gt2, hf⟩ := zgd hf
    refine lv_iadd hx hb dX7_become_21 ?_
    refine lv_iload hx hb dX7_become_22 (lv_at hl 3 rfl) ?_
    refine zif_le (tgt := 31) hx hb dX7_become_24 (by decide) hf (fun hf => ?_) (fun hf => ?_)
    · refine lv_iconst (v := 0) hx hb dX7_become_31 (by decide) ?_
      exact hc_32 k0 x2 x3 x4 0 (t1 + t0) kt2 s1 _ _ _ (lv_sub hl [0, 1, 2, 3] rfl) hP hS hf
    · refine lv_iconst (v := 1) hx hb dX7_become_27 (by decide) ?_
      refine lv_goto (tgt := 32) hx hb dX7_become_28 (by decide) ?_
      exact hc_32 k0 x2 x3 x4 1 (t1 + t0) kt2 s1 _ _ _ (lv_sub hl [0, 1, 2, 3] rfl) hP hS hf
  rw [f_X7_become] at hf
  obtain ⟨gp0, hf⟩ := zgd hf
  refine lv_aload_n hx hb dX7_become_0 rfl (lv_at hl 0 rfl) ?_
  refine lv_iload_n hx hb dX7_become_1 rfl (lv_at hl 1 rfl) ?_
  refine pf_X7_21 X hP hS (k := k0) gp0 dX7_become_2 (fun H locs hP hS => ?_)
  refine lv_aload_n hx hb dX7_become_5 rfl (lv_at hl 0 rfl) ?_
  refine lv_iconst (v := 0) hx hb dX7_become_6 (by decide) ?_
  refine pf_X7_25 X hP hS (k := k0) gp0 dX7_become_7 (fun H locs hP hS => ?_)
  refine lv_aload_n hx hb dX7_become_10 rfl (lv_at hl 0 rfl) ?_
  refine lv_iconst (v := 1) hx hb dX7_become_11 (by decide) ?_
  refine lv_iload_n hx hb dX7_become_12 rfl (lv_at hl 3 rfl) ?_
  refine zif_le (tgt := 20) hx hb dX7_become_13 (by decide) hf (fun hf => ?_) (fun hf => ?_)
  · refine lv_iconst (v := 0) hx hb dX7_become_20 (by decide) ?_
    exact hc_21 k0 x2 x3 x4 0 1 k0 (zS (zS s0 k0 0 x1) k0 2 0) _ _ _ (lv_sub hl [0, 2, 3, 4] rfl) hP hS hf
  · refine lv_iconst (v := 1) hx hb dX7_become_16 (by decide) ?_
    refine lv_goto (tgt := 21) hx hb dX7_become_17 (by decide) ?_
    exact hc_21 k0 x2 x3 x4 1 1 k0 (zS (zS s0 k0 0 x1) k0 2 0) _ _ _ (lv_sub hl [0, 2, 3, 4] rfl) hP hS hf
theorem dX7_dimension_0 : decode cX7_dimension 0 = .ok (.aload_n 0, 1) := by decide +kernel
theorem dX7_dimension_1 : decode cX7_dimension 1 = .ok (.getfield 9, 3) := by decide +kernel
theorem dX7_dimension_4 : decode cX7_dimension 4 = .ok (.iconst 0, 1) := by decide +kernel
theorem dX7_dimension_5 : decode cX7_dimension 5 = .ok (.iaload, 1) := by decide +kernel
theorem dX7_dimension_6 : decode cX7_dimension 6 = .ok (.aload_n 0, 1) := by decide +kernel
theorem dX7_dimension_7 : decode cX7_dimension 7 = .ok (.getfield 9, 3) := by decide +kernel
theorem dX7_dimension_10 : decode cX7_dimension 10 = .ok (.iconst 1, 1) := by decide +kernel
theorem dX7_dimension_11 : decode cX7_dimension 11 = .ok (.iaload, 1) := by decide +kernel
theorem dX7_dimension_12 : decode cX7_dimension 12 = .ok (.iadd, 1) := by decide +kernel
theorem dX7_dimension_13 : decode cX7_dimension 13 = .ok (.aload_n 0, 1) := by decide +kernel
theorem dX7_dimension_14 : decode cX7_dimension 14 = .ok (.getfield 9, 3) := by decide +kernel
theorem dX7_dimension_17 : decode cX7_dimension 17 = .ok (.iconst 2, 1) := by decide +kernel
theorem dX7_dimension_18 : decode cX7_dimension 18 = .ok (.iaload, 1) := by decide +kernel
theorem dX7_dimension_19 : decode cX7_dimension 19 = .ok (.iadd, 1) := by decide +kernel
theorem dX7_dimension_20 : decode cX7_dimension 20 = .ok (.ireturn, 1) := by decide +kernel
set_option maxHeartbeats 4000000 in
set_option maxRecDepth 100000 in
theorem cn_X7_dimension {l : Launch} {cA : Nat → ClassId} {ad : Nat → Nat} {D : va_G} {E : Nat → Nat} {A : Nat → Prop} {k0 : Nat} {s0 sr : SS} {rr : Int32} (hf : f_X7_dimension k0 s0 = some (rr, sr)) : zCon Ox Nx cA ad D E l yX7_dimension cX7_dimension 1 (some .int) 0 A [.ref (ad k0)] s0 (some (.int rr)) sr := by
  refine zstart (own := RX7) hOx (by decide) rfl (Nat.le_of_ble_eq_true rfl) ?_
  intro p e s m args below meth c X hP ls hl
  have hx := X.1
  have hb := X.2.1
  have hl : lv_has ls 1 [(0, .ref (ad k0))] := hl
  have hS : va_S A s.heap s.heap [] := va_S.rf
  rw [f_X7_dimension] at hf
  obtain ⟨gp0, hf⟩ := zgd hf
  refine lv_aload_n hx hb dX7_dimension_0 rfl (lv_at hl 0 rfl) ?_
  refine gf_X7_9 X hP (k := k0) gp0 dX7_dimension_1 rfl ?_
  refine lv_iconst (v := 0) hx hb dX7_dimension_4 (by decide) ?_
  obtain ⟨g1, hf⟩ := zgd hf
  obtain ⟨n6, rn6, on6, in6⟩ := zok_of g1
  refine zald_i X hP (k := (zrf Ox k0 3)) on6 in6 dX7_dimension_5 ?_
  refine lv_aload_n hx hb dX7_dimension_6 rfl (lv_at hl 0 rfl) ?_
  refine gf_X7_9 X hP (k := k0) gp0 dX7_dimension_7 rfl ?_
  refine lv_iconst (v := 1) hx hb dX7_dimension_10 (by decide) ?_
  obtain ⟨g2, hf⟩ := zgd hf
  obtain ⟨n5, rn5, on5, in5⟩ := zok_of g2
  refine zald_i X hP (k := (zrf Ox k0 3)) on5 in5 dX7_dimension_11 ?_
  refine lv_iadd hx hb dX7_dimension_12 ?_
  refine lv_aload_n hx hb dX7_dimension_13 rfl (lv_at hl 0 rfl) ?_
  refine gf_X7_9 X hP (k := k0) gp0 dX7_dimension_14 rfl ?_
  refine lv_iconst (v := 2) hx hb dX7_dimension_17 (by decide) ?_
  obtain ⟨g3, hf⟩ := zgd hf
  obtain ⟨n4, rn4, on4, in4⟩ := zok_of g3
  refine zald_i X hP (k := (zrf Ox k0 3)) on4 in4 dX7_dimension_18 ?_
  refine lv_iadd hx hb dX7_dimension_19 ?_
  exact zret_i X hP hS hf rfl dX7_dimension_20
theorem dX7_isBareProduct_0 : decode cX7_isBareProduct 0 = .ok (.aload_n 0, 1) := by decide +kernel
theorem dX7_isBareProduct_1 : decode cX7_isBareProduct 1 = .ok (.getfield 21, 3) := by decide +kernel
theorem dX7_isBareProduct_4 : decode cX7_isBareProduct 4 = .ok (.ifCond .ne 14, 3) := by decide +kernel
theorem dX7_isBareProduct_7 : decode cX7_isBareProduct 7 = .ok (.aload_n 0, 1) := by decide +kernel
theorem dX7_isBareProduct_8 : decode cX7_isBareProduct 8 = .ok (.getfield 25, 3) := by decide +kernel
theorem dX7_isBareProduct_11 : decode cX7_isBareProduct 11 = .ok (.ifCond .ne 7, 3) := by decide +kernel
theorem dX7_isBareProduct_14 : decode cX7_isBareProduct 14 = .ok (.iconst 1, 1) := by decide +kernel
theorem dX7_isBareProduct_15 : decode cX7_isBareProduct 15 = .ok (.goto 4, 3) := by decide +kernel
theorem dX7_isBareProduct_18 : decode cX7_isBareProduct 18 = .ok (.iconst 0, 1) := by decide +kernel
theorem dX7_isBareProduct_19 : decode cX7_isBareProduct 19 = .ok (.ireturn, 1) := by decide +kernel
set_option maxHeartbeats 4000000 in
set_option maxRecDepth 100000 in
theorem cn_X7_isBareProduct {l : Launch} {cA : Nat → ClassId} {ad : Nat → Nat} {D : va_G} {E : Nat → Nat} {A : Nat → Prop} {k0 : Nat} {s0 sr : SS} {rr : Int32} (hf : f_X7_isBareProduct k0 s0 = some (rr, sr)) : zCon Ox Nx cA ad D E l yX7_isBareProduct cX7_isBareProduct 1 (some .boolean) 0 A [.ref (ad k0)] s0 (some (.int rr)) sr := by
  refine zstart (own := RX7) hOx (by decide) rfl (Nat.le_of_ble_eq_true rfl) ?_
  intro p e s m args below meth c X hP ls hl
  have hx := X.1
  have hb := X.2.1
  have hl : lv_has ls 1 [(0, .ref (ad k0))] := hl
  have hS : va_S A s.heap s.heap [] := va_S.rf
  rw [f_X7_isBareProduct] at hf
  obtain ⟨gp0, hf⟩ := zgd hf
  refine lv_aload_n hx hb dX7_isBareProduct_0 rfl (lv_at hl 0 rfl) ?_
  refine gf_X7_21 X hP (k := k0) gp0 dX7_isBareProduct_1 ?_
  refine zif_ne (tgt := 18) hx hb dX7_isBareProduct_4 (by decide) hf (fun hf => ?_) (fun hf => ?_)
  · refine lv_iconst (v := 0) hx hb dX7_isBareProduct_18 (by decide) ?_
    exact zret_i X hP hS hf rfl dX7_isBareProduct_19
  · refine lv_aload_n hx hb dX7_isBareProduct_7 rfl (lv_at hl 0 rfl) ?_
    refine gf_X7_25 X hP (k := k0) gp0 dX7_isBareProduct_8 ?_
    refine zif_ne (tgt := 18) hx hb dX7_isBareProduct_11 (by decide) hf (fun hf => ?_) (fun hf => ?_)
    · refine lv_iconst (v := 0) hx hb dX7_isBareProduct_18 (by decide) ?_
      exact zret_i X hP hS hf rfl dX7_isBareProduct_19
    · refine lv_iconst (v := 1) hx hb dX7_isBareProduct_14 (by decide) ?_
      refine lv_goto (tgt := 19) hx hb dX7_isBareProduct_15 (by decide) ?_
      exact zret_i X hP hS hf rfl dX7_isBareProduct_19
theorem dX7_letterOf_0 : decode cX7_letterOf 0 = .ok (.iconst 0, 1) := by decide +kernel
theorem dX7_letterOf_1 : decode cX7_letterOf 1 = .ok (.istore_n 2, 1) := by decide +kernel
theorem dX7_letterOf_2 : decode cX7_letterOf 2 = .ok (.iload_n 2, 1) := by decide +kernel
theorem dX7_letterOf_3 : decode cX7_letterOf 3 = .ok (.aload_n 0, 1) := by decide +kernel
theorem dX7_letterOf_4 : decode cX7_letterOf 4 = .ok (.invokevirtual 37, 3) := by decide +kernel
theorem dX7_letterOf_7 : decode cX7_letterOf 7 = .ok (.if_icmp .ge 20, 3) := by decide +kernel
theorem dX7_letterOf_10 : decode cX7_letterOf 10 = .ok (.aload_n 0, 1) := by decide +kernel
theorem dX7_letterOf_11 : decode cX7_letterOf 11 = .ok (.iload_n 2, 1) := by decide +kernel
theorem dX7_letterOf_12 : decode cX7_letterOf 12 = .ok (.invokevirtual 41, 3) := by decide +kernel
theorem dX7_letterOf_15 : decode cX7_letterOf 15 = .ok (.iload_n 1, 1) := by decide +kernel
theorem dX7_letterOf_16 : decode cX7_letterOf 16 = .ok (.if_icmp .ne 5, 3) := by decide +kernel
theorem dX7_letterOf_19 : decode cX7_letterOf 19 = .ok (.iload_n 2, 1) := by decide +kernel
theorem dX7_letterOf_20 : decode cX7_letterOf 20 = .ok (.ireturn, 1) := by decide +kernel
theorem dX7_letterOf_21 : decode cX7_letterOf 21 = .ok (.iinc 2 1, 3) := by decide +kernel
theorem dX7_letterOf_24 : decode cX7_letterOf 24 = .ok (.goto (-22), 3) := by decide +kernel
theorem dX7_letterOf_27 : decode cX7_letterOf 27 = .ok (.iconst (-1), 1) := by decide +kernel
theorem dX7_letterOf_28 : decode cX7_letterOf 28 = .ok (.ireturn, 1) := by decide +kernel
set_option maxHeartbeats 4000000 in
set_option maxRecDepth 100000 in
theorem cn_X7_letterOf {l : Launch} {cA : Nat → ClassId} {ad : Nat → Nat} {D : va_G} {E : Nat → Nat} {A : Nat → Prop} {k0 : Nat} {x1 : Int32} {s0 sr : SS} {rr : Int32} (hf : f_X7_letterOf k0 x1 s0 = some (rr, sr)) : zCon Ox Nx cA ad D E l yX7_letterOf cX7_letterOf 3 (some .int) 1 A [.ref (ad k0), .int x1] s0 (some (.int rr)) sr := by
  refine zstart (own := RX7) hOx (by decide) rfl (Nat.le_of_ble_eq_true rfl) ?_
  intro p e s m args below meth c X hP ls hl
  have hx := X.1
  have hb := X.2.1
  have hl : lv_has ls 3 [(0, .ref (ad k0)), (1, .int x1)] := hl
  have hS : va_S A s.heap s.heap [] := va_S.rf
  have hc_2 : ∀ (n2 : Nat) (k0 : Nat) (x1 : Int32) (x2 : Int32) (s1 : SS) (H : Heap) (locs : List Loc) (ls : Array Slot), lv_has ls 3 [(0, .ref (ad k0)), (1, .int x1), (2, .int x2)] → va_P D ZCL (zw Ox Nx cA ad s1) H → va_S A s.heap H locs → f_X7_letterOf_c2 n2 k0 x1 x2 s1 = some (rr, sr) → W p l e (zrm 1) s m args below meth c H locs 0 0 (MQ below (zQc Ox Nx cA ad D A (some (.int rr)) sr) args s 0 0 A) (F0 m 2 ls []) := by
    intro n2
    induction n2 with
    | zero =>
      intro k0 x1 x2 s1 H locs ls hl hP hS hf
      rw [f_X7_letterOf_c2] at hf
      cases hf
    | succ n2 ih2 =>
      intro k0 x1 x2 s1 H locs ls hl hP hS hf
      rw [f_X7_letterOf_c2] at hf
      obtain ⟨gp0, hf⟩ := zgd hf
      refine lv_iload_n hx hb dX7_letterOf_2 rfl (lv_at hl 2 rfl) ?_
      refine lv_aload_n hx hb dX7_letterOf_3 rfl (lv_at hl 0 rfl) ?_
      obtain ⟨r1, s2, h3, hf⟩ := zbd_some hf
      refine zcallV X hP hS hl.1 (k := k0) (As := []) (rest := [.int x2]) (cn_X7_letterCount h3) cw_X7_letterCount zp_7 gp0 (by decide) rfl ml_X7_37 (by decide) rfl rfl (Nat.le_of_ble_eq_true rfl) dX7_letterOf_4 (fun H locs hP hS => ?_)
      refine zicmp_ge (tgt := 27) hx hb dX7_letterOf_7 (by decide) hf (fun hf => ?_) (fun hf => ?_)
      · refine lv_iconst (v := (-1)) hx hb dX7_letterOf_27 (by decide) ?_
        exact zret_i X hP hS hf rfl dX7_letterOf_28
      · refine lv_aload_n hx hb dX7_letterOf_10 rfl (lv_at hl 0 rfl) ?_
        refine lv_iload_n hx hb dX7_letterOf_11 rfl (lv_at hl 2 rfl) ?_
        obtain ⟨r4, s5, h6, hf⟩ := zbd_some hf
        refine zcallV X hP hS hl.1 (k := k0) (As := [.int x2]) (rest := []) (cn_X7_signOf h6) cw_X7_signOf zp_7 gp0 (by decide) rfl ml_X7_41 (by decide) rfl rfl (Nat.le_of_ble_eq_true rfl) dX7_letterOf_12 (fun H locs hP hS => ?_)
        refine lv_iload_n hx hb dX7_letterOf_15 rfl (lv_at hl 1 rfl) ?_
        refine zicmp_ne (tgt := 21) hx hb dX7_letterOf_16 (by decide) hf (fun hf => ?_) (fun hf => ?_)
        · refine lv_iinc (v := (x2 + 1)) (lv' := [(2, .int (x2 + 1)), (0, .ref (ad k0)), (1, .int x1)]) hx hb dX7_letterOf_21 hl (k := 2) rfl rfl (by decide) rfl (fun ls hl => ?_)
          refine lv_goto (tgt := 2) hx hb dX7_letterOf_24 (by decide) ?_
          exact ih2 k0 x1 (x2 + 1) s5 _ _ _ (lv_sub hl [1, 2, 0] rfl) hP hS hf
        · refine lv_iload_n hx hb dX7_letterOf_19 rfl (lv_at hl 2 rfl) ?_
          exact zret_i X hP hS hf rfl dX7_letterOf_20
  rw [f_X7_letterOf] at hf
  obtain ⟨gp0, hf⟩ := zgd hf
  refine lv_iconst (v := 0) hx hb dX7_letterOf_0 (by decide) ?_
  refine lv_istore_n (lv' := [(2, .int 0), (0, .ref (ad k0)), (1, .int x1)]) hx hb dX7_letterOf_1 rfl hl (by decide) rfl (fun ls hl => ?_)
  exact hc_2 ZF k0 x1 0 s0 _ _ _ (lv_sub hl [1, 2, 0] rfl) hP hS hf
theorem dX7_eulerNumber_0 : decode cX7_eulerNumber 0 = .ok (.aload_n 0, 1) := by decide +kernel
theorem dX7_eulerNumber_1 : decode cX7_eulerNumber 1 = .ok (.getfield 21, 3) := by decide +kernel
theorem dX7_eulerNumber_4 : decode cX7_eulerNumber 4 = .ok (.iconst 2, 1) := by decide +kernel
theorem dX7_eulerNumber_5 : decode cX7_eulerNumber 5 = .ok (.if_icmp .ne 6, 3) := by decide +kernel
theorem dX7_eulerNumber_8 : decode cX7_eulerNumber 8 = .ok (.bipush 12, 2) := by decide +kernel
theorem dX7_eulerNumber_10 : decode cX7_eulerNumber 10 = .ok (.ireturn, 1) := by decide +kernel
theorem dX7_eulerNumber_11 : decode cX7_eulerNumber 11 = .ok (.aload_n 0, 1) := by decide +kernel
theorem dX7_eulerNumber_12 : decode cX7_eulerNumber 12 = .ok (.getfield 21, 3) := by decide +kernel
theorem dX7_eulerNumber_15 : decode cX7_eulerNumber 15 = .ok (.ifCond .ne 42, 3) := by decide +kernel
theorem dX7_eulerNumber_18 : decode cX7_eulerNumber 18 = .ok (.aload_n 0, 1) := by decide +kernel
theorem dX7_eulerNumber_19 : decode cX7_eulerNumber 19 = .ok (.getfield 9, 3) := by decide +kernel
theorem dX7_eulerNumber_22 : decode cX7_eulerNumber 22 = .ok (.iconst 0, 1) := by decide +kernel
theorem dX7_eulerNumber_23 : decode cX7_eulerNumber 23 = .ok (.iaload, 1) := by decide +kernel
theorem dX7_eulerNumber_24 : decode cX7_eulerNumber 24 = .ok (.iconst 1, 1) := by decide +kernel
theorem dX7_eulerNumber_25 : decode cX7_eulerNumber 25 = .ok (.iadd, 1) := by decide +kernel
theorem dX7_eulerNumber_26 : decode cX7_eulerNumber 26 = .ok (.aload_n 0, 1) := by decide +kernel
theorem dX7_eulerNumber_27 : decode cX7_eulerNumber 27 = .ok (.getfield 9, 3) := by decide +kernel
theorem dX7_eulerNumber_30 : decode cX7_eulerNumber 30 = .ok (.iconst 1, 1) := by decide +kernel
theorem dX7_eulerNumber_31 : decode cX7_eulerNumber 31 = .ok (.iaload, 1) := by decide +kernel
theorem dX7_eulerNumber_32 : decode cX7_eulerNumber 32 = .ok (.iconst 1, 1) := by decide +kernel
theorem dX7_eulerNumber_33 : decode cX7_eulerNumber 33 = .ok (.iadd, 1) := by decide +kernel
theorem dX7_eulerNumber_34 : decode cX7_eulerNumber 34 = .ok (.imul, 1) := by decide +kernel
theorem dX7_eulerNumber_35 : decode cX7_eulerNumber 35 = .ok (.aload_n 0, 1) := by decide +kernel
theorem dX7_eulerNumber_36 : decode cX7_eulerNumber 36 = .ok (.getfield 9, 3) := by decide +kernel
theorem dX7_eulerNumber_39 : decode cX7_eulerNumber 39 = .ok (.iconst 2, 1) := by decide +kernel
theorem dX7_eulerNumber_40 : decode cX7_eulerNumber 40 = .ok (.iaload, 1) := by decide +kernel
theorem dX7_eulerNumber_41 : decode cX7_eulerNumber 41 = .ok (.iconst 1, 1) := by decide +kernel
theorem dX7_eulerNumber_42 : decode cX7_eulerNumber 42 = .ok (.iadd, 1) := by decide +kernel
theorem dX7_eulerNumber_43 : decode cX7_eulerNumber 43 = .ok (.imul, 1) := by decide +kernel
theorem dX7_eulerNumber_44 : decode cX7_eulerNumber 44 = .ok (.aload_n 0, 1) := by decide +kernel
theorem dX7_eulerNumber_45 : decode cX7_eulerNumber 45 = .ok (.invokevirtual 45, 3) := by decide +kernel
theorem dX7_eulerNumber_48 : decode cX7_eulerNumber 48 = .ok (.iconst 1, 1) := by decide +kernel
theorem dX7_eulerNumber_49 : decode cX7_eulerNumber 49 = .ok (.isub, 1) := by decide +kernel
theorem dX7_eulerNumber_50 : decode cX7_eulerNumber 50 = .ok (.aload_n 0, 1) := by decide +kernel
theorem dX7_eulerNumber_51 : decode cX7_eulerNumber 51 = .ok (.getfield 25, 3) := by decide +kernel
theorem dX7_eulerNumber_54 : decode cX7_eulerNumber 54 = .ok (.imul, 1) := by decide +kernel
theorem dX7_eulerNumber_55 : decode cX7_eulerNumber 55 = .ok (.iadd, 1) := by decide +kernel
theorem dX7_eulerNumber_56 : decode cX7_eulerNumber 56 = .ok (.ireturn, 1) := by decide +kernel
theorem dX7_eulerNumber_57 : decode cX7_eulerNumber 57 = .ok (.iconst 4, 1) := by decide +kernel
theorem dX7_eulerNumber_58 : decode cX7_eulerNumber 58 = .ok (.istore_n 1, 1) := by decide +kernel
theorem dX7_eulerNumber_59 : decode cX7_eulerNumber 59 = .ok (.iconst 0, 1) := by decide +kernel
theorem dX7_eulerNumber_60 : decode cX7_eulerNumber 60 = .ok (.istore_n 2, 1) := by decide +kernel
theorem dX7_eulerNumber_61 : decode cX7_eulerNumber 61 = .ok (.iload_n 2, 1) := by decide +kernel
theorem dX7_eulerNumber_62 : decode cX7_eulerNumber 62 = .ok (.aload_n 0, 1) := by decide +kernel
theorem dX7_eulerNumber_63 : decode cX7_eulerNumber 63 = .ok (.getfield 25, 3) := by decide +kernel
theorem dX7_eulerNumber_66 : decode cX7_eulerNumber 66 = .ok (.if_icmp .ge 31, 3) := by decide +kernel
theorem dX7_eulerNumber_69 : decode cX7_eulerNumber 69 = .ok (.iload_n 2, 1) := by decide +kernel
theorem dX7_eulerNumber_70 : decode cX7_eulerNumber 70 = .ok (.aload_n 0, 1) := by decide +kernel
theorem dX7_eulerNumber_71 : decode cX7_eulerNumber 71 = .ok (.getfield 18, 3) := by decide +kernel
theorem dX7_eulerNumber_74 : decode cX7_eulerNumber 74 = .ok (.arraylength, 1) := by decide +kernel
theorem dX7_eulerNumber_75 : decode cX7_eulerNumber 75 = .ok (.if_icmp .ge 22, 3) := by decide +kernel
theorem dX7_eulerNumber_78 : decode cX7_eulerNumber 78 = .ok (.iload_n 1, 1) := by decide +kernel
theorem dX7_eulerNumber_79 : decode cX7_eulerNumber 79 = .ok (.iconst 2, 1) := by decide +kernel
theorem dX7_eulerNumber_80 : decode cX7_eulerNumber 80 = .ok (.iconst 2, 1) := by decide +kernel
theorem dX7_eulerNumber_81 : decode cX7_eulerNumber 81 = .ok (.aload_n 0, 1) := by decide +kernel
theorem dX7_eulerNumber_82 : decode cX7_eulerNumber 82 = .ok (.getfield 18, 3) := by decide +kernel
theorem dX7_eulerNumber_85 : decode cX7_eulerNumber 85 = .ok (.iload_n 2, 1) := by decide +kernel
theorem dX7_eulerNumber_86 : decode cX7_eulerNumber 86 = .ok (.iaload, 1) := by decide +kernel
theorem dX7_eulerNumber_87 : decode cX7_eulerNumber 87 = .ok (.imul, 1) := by decide +kernel
theorem dX7_eulerNumber_88 : decode cX7_eulerNumber 88 = .ok (.isub, 1) := by decide +kernel
theorem dX7_eulerNumber_89 : decode cX7_eulerNumber 89 = .ok (.iadd, 1) := by decide +kernel
theorem dX7_eulerNumber_90 : decode cX7_eulerNumber 90 = .ok (.istore_n 1, 1) := by decide +kernel
theorem dX7_eulerNumber_91 : decode cX7_eulerNumber 91 = .ok (.iinc 2 1, 3) := by decide +kernel
theorem dX7_eulerNumber_94 : decode cX7_eulerNumber 94 = .ok (.goto (-33), 3) := by decide +kernel
theorem dX7_eulerNumber_97 : decode cX7_eulerNumber 97 = .ok (.iload_n 1, 1) := by decide +kernel
theorem dX7_eulerNumber_98 : decode cX7_eulerNumber 98 = .ok (.ireturn, 1) := by decide +kernel
set_option maxHeartbeats 4000000 in
set_option maxRecDepth 100000 in
theorem cn_X7_eulerNumber {l : Launch} {cA : Nat → ClassId} {ad : Nat → Nat} {D : va_G} {E : Nat → Nat} {A : Nat → Prop} {k0 : Nat} {s0 sr : SS} {rr : Int32} (hf : f_X7_eulerNumber k0 s0 = some (rr, sr)) : zCon Ox Nx cA ad D E l yX7_eulerNumber cX7_eulerNumber 3 (some .int) 1 A [.ref (ad k0)] s0 (some (.int rr)) sr := by
  refine zstart (own := RX7) hOx (by decide) rfl (Nat.le_of_ble_eq_true rfl) ?_
  intro p e s m args below meth c X hP ls hl
  have hx := X.1
  have hb := X.2.1
  have hl : lv_has ls 3 [(0, .ref (ad k0))] := hl
  have hS : va_S A s.heap s.heap [] := va_S.rf
  have hc_61 : ∀ (n61 : Nat) (k0 : Nat) (x1 : Int32) (x2 : Int32) (s1 : SS) (H : Heap) (locs : List Loc) (ls : Array Slot), lv_has ls 3 [(0, .ref (ad k0)), (1, .int x1), (2, .int x2)] → va_P D ZCL (zw Ox Nx cA ad s1) H → va_S A s.heap H locs → f_X7_eulerNumber_c61 n61 k0 x1 x2 s1 = some (rr, sr) → W p l e (zrm 1) s m args below meth c H locs 0 0 (MQ below (zQc Ox Nx cA ad D A (some (.int rr)) sr) args s 0 0 A) (F0 m 61 ls []) := by
    intro n61
    induction n61 with
    | zero =>
      intro k0 x1 x2 s1 H locs ls hl hP hS hf
      rw [f_X7_eulerNumber_c61] at hf
      cases hf
    | succ n61 ih61 =>
      intro k0 x1 x2 s1 H locs ls hl hP hS hf
      rw [f_X7_eulerNumber_c61] at hf
      obtain ⟨gp0, hf⟩ := zgd hf
      refine lv_iload_n hx hb dX7_eulerNumber_61 rfl (lv_at hl 2 rfl) ?_
      refine lv_aload_n hx hb dX7_eulerNumber_62 rfl (lv_at hl 0 rfl) ?_
      refine gf_X7_25 X hP (k := k0) gp0 dX7_eulerNumber_63 ?_
      refine zicmp_ge (tgt := 97) hx hb dX7_eulerNumber_66 (by decide) hf (fun hf => ?_) (fun hf => ?_)
      · refine lv_iload_n hx hb dX7_eulerNumber_97 rfl (lv_at hl 1 rfl) ?_
        exact zret_i X hP hS hf rfl dX7_eulerNumber_98
      · refine lv_iload_n hx hb dX7_eulerNumber_69 rfl (lv_at hl 2 rfl) ?_
        refine lv_aload_n hx hb dX7_eulerNumber_70 rfl (lv_at hl 0 rfl) ?_
        refine gf_X7_18 X hP (k := k0) gp0 dX7_eulerNumber_71 rfl ?_
        obtain ⟨g1, hf⟩ := zgd hf
        obtain ⟨n2, on2⟩ := zia_of g1
        refine zalen X hP (k := (zrf Ox k0 5)) (t := 0) on2 (by decide) rfl dX7_eulerNumber_74 ?_
        refine zicmp_ge (tgt := 97) hx hb dX7_eulerNumber_75 (by decide) hf (fun hf => ?_) (fun hf => ?_)
        · refine lv_iload_n hx hb dX7_eulerNumber_97 rfl (lv_at hl 1 rfl) ?_
          exact zret_i X hP hS hf rfl dX7_eulerNumber_98
        · refine lv_iload_n hx hb dX7_eulerNumber_78 rfl (lv_at hl 1 rfl) ?_
          refine lv_iconst (v := 2) hx hb dX7_eulerNumber_79 (by decide) ?_
          refine lv_iconst (v := 2) hx hb dX7_eulerNumber_80 (by decide) ?_
          refine lv_aload_n hx hb dX7_eulerNumber_81 rfl (lv_at hl 0 rfl) ?_
          refine gf_X7_18 X hP (k := k0) gp0 dX7_eulerNumber_82 rfl ?_
          refine lv_iload_n hx hb dX7_eulerNumber_85 rfl (lv_at hl 2 rfl) ?_
          obtain ⟨g3, hf⟩ := zgd hf
          obtain ⟨n4, rn4, on4, in4⟩ := zok_of g3
          refine zald_i X hP (k := (zrf Ox k0 5)) on4 in4 dX7_eulerNumber_86 ?_
          refine lv_imul hx hb dX7_eulerNumber_87 ?_
          refine lv_isub hx hb dX7_eulerNumber_88 ?_
          refine lv_iadd hx hb dX7_eulerNumber_89 ?_
          refine lv_istore_n (lv' := [(1, .int (x1 + ((2 : Int32) - ((2 : Int32) * (s1.1 (zrf Ox k0 5) (x2).toNatClampNeg))))), (0, .ref (ad k0)), (2, .int x2)]) hx hb dX7_eulerNumber_90 rfl hl (by decide) rfl (fun ls hl => ?_)
          refine lv_iinc (v := (x2 + 1)) (lv' := [(2, .int (x2 + 1)), (1, .int (x1 + ((2 : Int32) - ((2 : Int32) * (s1.1 (zrf Ox k0 5) (x2).toNatClampNeg))))), (0, .ref (ad k0))]) hx hb dX7_eulerNumber_91 hl (k := 2) rfl rfl (by decide) rfl (fun ls hl => ?_)
          refine lv_goto (tgt := 61) hx hb dX7_eulerNumber_94 (by decide) ?_
          exact ih61 k0 (x1 + ((2 : Int32) - ((2 : Int32) * (s1.1 (zrf Ox k0 5) (x2).toNatClampNeg)))) (x2 + 1) s1 _ _ _ (lv_sub hl [2, 1, 0] rfl) hP hS hf
  rw [f_X7_eulerNumber] at hf
  obtain ⟨gp0, hf⟩ := zgd hf
  refine lv_aload_n hx hb dX7_eulerNumber_0 rfl (lv_at hl 0 rfl) ?_
  refine gf_X7_21 X hP (k := k0) gp0 dX7_eulerNumber_1 ?_
  refine lv_iconst (v := 2) hx hb dX7_eulerNumber_4 (by decide) ?_
  refine zicmp_ne (tgt := 11) hx hb dX7_eulerNumber_5 (by decide) hf (fun hf => ?_) (fun hf => ?_)
  · refine lv_aload_n hx hb dX7_eulerNumber_11 rfl (lv_at hl 0 rfl) ?_
    refine gf_X7_21 X hP (k := k0) gp0 dX7_eulerNumber_12 ?_
    refine zif_ne (tgt := 57) hx hb dX7_eulerNumber_15 (by decide) hf (fun hf => ?_) (fun hf => ?_)
    · refine lv_iconst (v := 4) hx hb dX7_eulerNumber_57 (by decide) ?_
      refine lv_istore_n (lv' := [(1, .int 4), (0, .ref (ad k0))]) hx hb dX7_eulerNumber_58 rfl hl (by decide) rfl (fun ls hl => ?_)
      refine lv_iconst (v := 0) hx hb dX7_eulerNumber_59 (by decide) ?_
      refine lv_istore_n (lv' := [(2, .int 0), (1, .int 4), (0, .ref (ad k0))]) hx hb dX7_eulerNumber_60 rfl hl (by decide) rfl (fun ls hl => ?_)
      exact hc_61 ZF k0 4 0 s0 _ _ _ (lv_sub hl [2, 1, 0] rfl) hP hS hf
    · refine lv_aload_n hx hb dX7_eulerNumber_18 rfl (lv_at hl 0 rfl) ?_
      refine gf_X7_9 X hP (k := k0) gp0 dX7_eulerNumber_19 rfl ?_
      refine lv_iconst (v := 0) hx hb dX7_eulerNumber_22 (by decide) ?_
      obtain ⟨g5, hf⟩ := zgd hf
      obtain ⟨n13, rn13, on13, in13⟩ := zok_of g5
      refine zald_i X hP (k := (zrf Ox k0 3)) on13 in13 dX7_eulerNumber_23 ?_
      refine lv_iconst (v := 1) hx hb dX7_eulerNumber_24 (by decide) ?_
      refine lv_iadd hx hb dX7_eulerNumber_25 ?_
      refine lv_aload_n hx hb dX7_eulerNumber_26 rfl (lv_at hl 0 rfl) ?_
      refine gf_X7_9 X hP (k := k0) gp0 dX7_eulerNumber_27 rfl ?_
      refine lv_iconst (v := 1) hx hb dX7_eulerNumber_30 (by decide) ?_
      obtain ⟨g6, hf⟩ := zgd hf
      obtain ⟨n12, rn12, on12, in12⟩ := zok_of g6
      refine zald_i X hP (k := (zrf Ox k0 3)) on12 in12 dX7_eulerNumber_31 ?_
      refine lv_iconst (v := 1) hx hb dX7_eulerNumber_32 (by decide) ?_
      refine lv_iadd hx hb dX7_eulerNumber_33 ?_
      refine lv_imul hx hb dX7_eulerNumber_34 ?_
      refine lv_aload_n hx hb dX7_eulerNumber_35 rfl (lv_at hl 0 rfl) ?_
      refine gf_X7_9 X hP (k := k0) gp0 dX7_eulerNumber_36 rfl ?_
      refine lv_iconst (v := 2) hx hb dX7_eulerNumber_39 (by decide) ?_
      obtain ⟨g7, hf⟩ := zgd hf
      obtain ⟨n11, rn11, on11, in11⟩ := zok_of g7
      refine zald_i X hP (k := (zrf Ox k0 3)) on11 in11 dX7_eulerNumber_40 ?_
      refine lv_iconst (v := 1) hx hb dX7_eulerNumber_41 (by decide) ?_
      refine lv_iadd hx hb dX7_eulerNumber_42 ?_
      refine lv_imul hx hb dX7_eulerNumber_43 ?_
      refine lv_aload_n hx hb dX7_eulerNumber_44 rfl (lv_at hl 0 rfl) ?_
      obtain ⟨r8, s9, h10, hf⟩ := zbd_some hf
      refine zcallV X hP hS hl.1 (k := k0) (As := []) (rest := [.int ((((s0.1 (zrf Ox k0 3) ((0 : Int32)).toNatClampNeg) + (1 : Int32)) * ((s0.1 (zrf Ox k0 3) ((1 : Int32)).toNatClampNeg) + (1 : Int32))) * ((s0.1 (zrf Ox k0 3) ((2 : Int32)).toNatClampNeg) + (1 : Int32)))]) (cn_X7_dimension h10) cw_X7_dimension zp_7 gp0 (by decide) rfl ml_X7_45 (by decide) rfl rfl (Nat.le_of_ble_eq_true rfl) dX7_eulerNumber_45 (fun H locs hP hS => ?_)
      refine lv_iconst (v := 1) hx hb dX7_eulerNumber_48 (by decide) ?_
      refine lv_isub hx hb dX7_eulerNumber_49 ?_
      refine lv_aload_n hx hb dX7_eulerNumber_50 rfl (lv_at hl 0 rfl) ?_
      refine gf_X7_25 X hP (k := k0) gp0 dX7_eulerNumber_51 ?_
      refine lv_imul hx hb dX7_eulerNumber_54 ?_
      refine lv_iadd hx hb dX7_eulerNumber_55 ?_
      exact zret_i X hP hS hf rfl dX7_eulerNumber_56
  · refine lv_bipush (v := 12) hx hb dX7_eulerNumber_8 (by decide) ?_
    exact zret_i X hP hS hf rfl dX7_eulerNumber_10
theorem dX7_canonicalAt_0 : decode cX7_canonicalAt 0 = .ok (.aload_n 0, 1) := by decide +kernel
theorem dX7_canonicalAt_1 : decode cX7_canonicalAt 1 = .ok (.getfield 21, 3) := by decide +kernel
theorem dX7_canonicalAt_4 : decode cX7_canonicalAt 4 = .ok (.iconst 2, 1) := by decide +kernel
theorem dX7_canonicalAt_5 : decode cX7_canonicalAt 5 = .ok (.if_icmp .ne 17, 3) := by decide +kernel
theorem dX7_canonicalAt_8 : decode cX7_canonicalAt 8 = .ok (.iload_n 1, 1) := by decide +kernel
theorem dX7_canonicalAt_9 : decode cX7_canonicalAt 9 = .ok (.ifCond .ne 9, 3) := by decide +kernel
theorem dX7_canonicalAt_12 : decode cX7_canonicalAt 12 = .ok (.ldc2_w 48, 3) := by decide +kernel
theorem dX7_canonicalAt_15 : decode cX7_canonicalAt 15 = .ok (.goto 6, 3) := by decide +kernel
theorem dX7_canonicalAt_18 : decode cX7_canonicalAt 18 = .ok (.ldc2_w 50, 3) := by decide +kernel
theorem dX7_canonicalAt_21 : decode cX7_canonicalAt 21 = .ok (.lreturn, 1) := by decide +kernel
theorem dX7_canonicalAt_22 : decode cX7_canonicalAt 22 = .ok (.iload_n 1, 1) := by decide +kernel
theorem dX7_canonicalAt_23 : decode cX7_canonicalAt 23 = .ok (.ifCond .lt 31, 3) := by decide +kernel
theorem dX7_canonicalAt_26 : decode cX7_canonicalAt 26 = .ok (.iload_n 1, 1) := by decide +kernel
theorem dX7_canonicalAt_27 : decode cX7_canonicalAt 27 = .ok (.aload_n 0, 1) := by decide +kernel
theorem dX7_canonicalAt_28 : decode cX7_canonicalAt 28 = .ok (.getfield 28, 3) := by decide +kernel
theorem dX7_canonicalAt_31 : decode cX7_canonicalAt 31 = .ok (.if_icmp .ge 23, 3) := by decide +kernel
theorem dX7_canonicalAt_34 : decode cX7_canonicalAt 34 = .ok (.iload_n 1, 1) := by decide +kernel
theorem dX7_canonicalAt_35 : decode cX7_canonicalAt 35 = .ok (.aload_n 0, 1) := by decide +kernel
theorem dX7_canonicalAt_36 : decode cX7_canonicalAt 36 = .ok (.getfield 9, 3) := by decide +kernel
theorem dX7_canonicalAt_39 : decode cX7_canonicalAt 39 = .ok (.arraylength, 1) := by decide +kernel
theorem dX7_canonicalAt_40 : decode cX7_canonicalAt 40 = .ok (.if_icmp .ge 14, 3) := by decide +kernel
theorem dX7_canonicalAt_43 : decode cX7_canonicalAt 43 = .ok (.aload_n 0, 1) := by decide +kernel
theorem dX7_canonicalAt_44 : decode cX7_canonicalAt 44 = .ok (.getfield 9, 3) := by decide +kernel
theorem dX7_canonicalAt_47 : decode cX7_canonicalAt 47 = .ok (.iload_n 1, 1) := by decide +kernel
theorem dX7_canonicalAt_48 : decode cX7_canonicalAt 48 = .ok (.iaload, 1) := by decide +kernel
theorem dX7_canonicalAt_49 : decode cX7_canonicalAt 49 = .ok (.i2l, 1) := by decide +kernel
theorem dX7_canonicalAt_50 : decode cX7_canonicalAt 50 = .ok (.lconst 1, 1) := by decide +kernel
theorem dX7_canonicalAt_51 : decode cX7_canonicalAt 51 = .ok (.ladd, 1) := by decide +kernel
theorem dX7_canonicalAt_52 : decode cX7_canonicalAt 52 = .ok (.lneg, 1) := by decide +kernel
theorem dX7_canonicalAt_53 : decode cX7_canonicalAt 53 = .ok (.lreturn, 1) := by decide +kernel
theorem dX7_canonicalAt_54 : decode cX7_canonicalAt 54 = .ok (.aload_n 0, 1) := by decide +kernel
theorem dX7_canonicalAt_55 : decode cX7_canonicalAt 55 = .ok (.getfield 21, 3) := by decide +kernel
theorem dX7_canonicalAt_58 : decode cX7_canonicalAt 58 = .ok (.ifCond .ne 13, 3) := by decide +kernel
theorem dX7_canonicalAt_61 : decode cX7_canonicalAt 61 = .ok (.aload_n 0, 1) := by decide +kernel
theorem dX7_canonicalAt_62 : decode cX7_canonicalAt 62 = .ok (.invokevirtual 45, 3) := by decide +kernel
theorem dX7_canonicalAt_65 : decode cX7_canonicalAt 65 = .ok (.i2l, 1) := by decide +kernel
theorem dX7_canonicalAt_66 : decode cX7_canonicalAt 66 = .ok (.lconst 1, 1) := by decide +kernel
theorem dX7_canonicalAt_67 : decode cX7_canonicalAt 67 = .ok (.lsub, 1) := by decide +kernel
theorem dX7_canonicalAt_68 : decode cX7_canonicalAt 68 = .ok (.goto 4, 3) := by decide +kernel
theorem dX7_canonicalAt_71 : decode cX7_canonicalAt 71 = .ok (.lconst 1, 1) := by decide +kernel
theorem dX7_canonicalAt_72 : decode cX7_canonicalAt 72 = .ok (.lreturn, 1) := by decide +kernel
set_option maxHeartbeats 4000000 in
set_option maxRecDepth 100000 in
theorem cn_X7_canonicalAt {l : Launch} {cA : Nat → ClassId} {ad : Nat → Nat} {D : va_G} {E : Nat → Nat} {A : Nat → Prop} {k0 : Nat} {x1 : Int32} {s0 sr : SS} {rr : Int64} (hf : f_X7_canonicalAt k0 x1 s0 = some (rr, sr)) : zCon Ox Nx cA ad D E l yX7_canonicalAt cX7_canonicalAt 2 (some .long) 1 A [.ref (ad k0), .int x1] s0 (some (.long rr)) sr := by
  refine zstart (own := RX7) hOx (by decide) rfl (Nat.le_of_ble_eq_true rfl) ?_
  intro p e s m args below meth c X hP ls hl
  have hx := X.1
  have hb := X.2.1
  have hl : lv_has ls 2 [(0, .ref (ad k0)), (1, .int x1)] := hl
  have hS : va_S A s.heap s.heap [] := va_S.rf
  have hc_54 : ∀ (k0 : Nat) (s1 : SS) (H : Heap) (locs : List Loc) (ls : Array Slot), lv_has ls 2 [(0, .ref (ad k0))] → va_P D ZCL (zw Ox Nx cA ad s1) H → va_S A s.heap H locs → f_X7_canonicalAt_c54 k0 s1 = some (rr, sr) → W p l e (zrm 1) s m args below meth c H locs 0 0 (MQ below (zQc Ox Nx cA ad D A (some (.long rr)) sr) args s 0 0 A) (F0 m 54 ls []) := by
    intro k0 s1 H locs ls hl hP hS hf
    rw [f_X7_canonicalAt_c54] at hf
    obtain ⟨gp0, hf⟩ := zgd hf
    refine lv_aload_n hx hb dX7_canonicalAt_54 rfl (lv_at hl 0 rfl) ?_
    refine gf_X7_21 X hP (k := k0) gp0 dX7_canonicalAt_55 ?_
    refine zif_ne (tgt := 71) hx hb dX7_canonicalAt_58 (by decide) hf (fun hf => ?_) (fun hf => ?_)
    · refine lv_lconst (v := 1) hx hb dX7_canonicalAt_71 (by decide) ?_
      exact zret_l X hP hS hf dX7_canonicalAt_72
    · refine lv_aload_n hx hb dX7_canonicalAt_61 rfl (lv_at hl 0 rfl) ?_
      obtain ⟨r1, s2, h3, hf⟩ := zbd_some hf
      refine zcallV X hP hS hl.1 (k := k0) (As := []) (rest := []) (cn_X7_dimension h3) cw_X7_dimension zp_7 gp0 (by decide) rfl ml_X7_45 (by decide) rfl rfl (Nat.le_of_ble_eq_true rfl) dX7_canonicalAt_62 (fun H locs hP hS => ?_)
      refine lv_i2l hx hb dX7_canonicalAt_65 rfl ?_
      refine lv_lconst (v := 1) hx hb dX7_canonicalAt_66 (by decide) ?_
      refine lv_lsub hx hb dX7_canonicalAt_67 ?_
      refine lv_goto (tgt := 72) hx hb dX7_canonicalAt_68 (by decide) ?_
      exact zret_l X hP hS hf dX7_canonicalAt_72
  rw [f_X7_canonicalAt] at hf
  obtain ⟨gp0, hf⟩ := zgd hf
  refine lv_aload_n hx hb dX7_canonicalAt_0 rfl (lv_at hl 0 rfl) ?_
  refine gf_X7_21 X hP (k := k0) gp0 dX7_canonicalAt_1 ?_
  refine lv_iconst (v := 2) hx hb dX7_canonicalAt_4 (by decide) ?_
  refine zicmp_ne (tgt := 22) hx hb dX7_canonicalAt_5 (by decide) hf (fun hf => ?_) (fun hf => ?_)
  · refine lv_iload_n hx hb dX7_canonicalAt_22 rfl (lv_at hl 1 rfl) ?_
    refine zif_lt (tgt := 54) hx hb dX7_canonicalAt_23 (by decide) hf (fun hf => ?_) (fun hf => ?_)
    · exact hc_54 k0 s0 _ _ _ (lv_sub hl [0] rfl) hP hS hf
    · refine lv_iload_n hx hb dX7_canonicalAt_26 rfl (lv_at hl 1 rfl) ?_
      refine lv_aload_n hx hb dX7_canonicalAt_27 rfl (lv_at hl 0 rfl) ?_
      refine gf_X7_28 X hP (k := k0) gp0 dX7_canonicalAt_28 ?_
      refine zicmp_ge (tgt := 54) hx hb dX7_canonicalAt_31 (by decide) hf (fun hf => ?_) (fun hf => ?_)
      · exact hc_54 k0 s0 _ _ _ (lv_sub hl [0] rfl) hP hS hf
      · refine lv_iload_n hx hb dX7_canonicalAt_34 rfl (lv_at hl 1 rfl) ?_
        refine lv_aload_n hx hb dX7_canonicalAt_35 rfl (lv_at hl 0 rfl) ?_
        refine gf_X7_9 X hP (k := k0) gp0 dX7_canonicalAt_36 rfl ?_
        obtain ⟨g4, hf⟩ := zgd hf
        obtain ⟨n5, on5⟩ := zia_of g4
        refine zalen X hP (k := (zrf Ox k0 3)) (t := 0) on5 (by decide) rfl dX7_canonicalAt_39 ?_
        refine zicmp_ge (tgt := 54) hx hb dX7_canonicalAt_40 (by decide) hf (fun hf => ?_) (fun hf => ?_)
        · exact hc_54 k0 s0 _ _ _ (lv_sub hl [0] rfl) hP hS hf
        · refine lv_aload_n hx hb dX7_canonicalAt_43 rfl (lv_at hl 0 rfl) ?_
          refine gf_X7_9 X hP (k := k0) gp0 dX7_canonicalAt_44 rfl ?_
          refine lv_iload_n hx hb dX7_canonicalAt_47 rfl (lv_at hl 1 rfl) ?_
          obtain ⟨g6, hf⟩ := zgd hf
          obtain ⟨n7, rn7, on7, in7⟩ := zok_of g6
          refine zald_i X hP (k := (zrf Ox k0 3)) on7 in7 dX7_canonicalAt_48 ?_
          refine lv_i2l hx hb dX7_canonicalAt_49 rfl ?_
          refine lv_lconst (v := 1) hx hb dX7_canonicalAt_50 (by decide) ?_
          refine lv_ladd hx hb dX7_canonicalAt_51 ?_
          refine lv_lneg hx hb dX7_canonicalAt_52 ?_
          exact zret_l X hP hS hf dX7_canonicalAt_53
  · refine lv_iload_n hx hb dX7_canonicalAt_8 rfl (lv_at hl 1 rfl) ?_
    refine zif_ne (tgt := 18) hx hb dX7_canonicalAt_9 (by decide) hf (fun hf => ?_) (fun hf => ?_)
    · refine zldc2 X co_X7_50 dX7_canonicalAt_18 ?_
      exact zret_l X hP hS hf dX7_canonicalAt_21
    · refine zldc2 X co_X7_48 dX7_canonicalAt_12 ?_
      refine lv_goto (tgt := 21) hx hb dX7_canonicalAt_15 (by decide) ?_
      exact zret_l X hP hS hf dX7_canonicalAt_21
theorem dX7_worthByPoints_0 : decode cX7_worthByPoints 0 = .ok (.aload_n 0, 1) := by decide +kernel
theorem dX7_worthByPoints_1 : decode cX7_worthByPoints 1 = .ok (.invokevirtual 45, 3) := by decide +kernel
theorem dX7_worthByPoints_4 : decode cX7_worthByPoints 4 = .ok (.istore_n 2, 1) := by decide +kernel
theorem dX7_worthByPoints_5 : decode cX7_worthByPoints 5 = .ok (.aload_n 0, 1) := by decide +kernel
theorem dX7_worthByPoints_6 : decode cX7_worthByPoints 6 = .ok (.getfield 28, 3) := by decide +kernel
theorem dX7_worthByPoints_9 : decode cX7_worthByPoints 9 = .ok (.istore_n 3, 1) := by decide +kernel
theorem dX7_worthByPoints_10 : decode cX7_worthByPoints 10 = .ok (.iload_n 3, 1) := by decide +kernel
theorem dX7_worthByPoints_11 : decode cX7_worthByPoints 11 = .ok (.aload_n 0, 1) := by decide +kernel
theorem dX7_worthByPoints_12 : decode cX7_worthByPoints 12 = .ok (.getfield 28, 3) := by decide +kernel
theorem dX7_worthByPoints_15 : decode cX7_worthByPoints 15 = .ok (.aload_n 0, 1) := by decide +kernel
theorem dX7_worthByPoints_16 : decode cX7_worthByPoints 16 = .ok (.getfield 25, 3) := by decide +kernel
theorem dX7_worthByPoints_19 : decode cX7_worthByPoints 19 = .ok (.iadd, 1) := by decide +kernel
theorem dX7_worthByPoints_20 : decode cX7_worthByPoints 20 = .ok (.if_icmp .ge 36, 3) := by decide +kernel
theorem dX7_worthByPoints_23 : decode cX7_worthByPoints 23 = .ok (.iload_n 3, 1) := by decide +kernel
theorem dX7_worthByPoints_24 : decode cX7_worthByPoints 24 = .ok (.aload_n 1, 1) := by decide +kernel
theorem dX7_worthByPoints_25 : decode cX7_worthByPoints 25 = .ok (.arraylength, 1) := by decide +kernel
theorem dX7_worthByPoints_26 : decode cX7_worthByPoints 26 = .ok (.if_icmp .ge 30, 3) := by decide +kernel
theorem dX7_worthByPoints_29 : decode cX7_worthByPoints 29 = .ok (.aload_n 1, 1) := by decide +kernel
theorem dX7_worthByPoints_30 : decode cX7_worthByPoints 30 = .ok (.iload_n 3, 1) := by decide +kernel
theorem dX7_worthByPoints_31 : decode cX7_worthByPoints 31 = .ok (.iaload, 1) := by decide +kernel
theorem dX7_worthByPoints_32 : decode cX7_worthByPoints 32 = .ok (.iload_n 2, 1) := by decide +kernel
theorem dX7_worthByPoints_33 : decode cX7_worthByPoints 33 = .ok (.if_icmp .ne 17, 3) := by decide +kernel
theorem dX7_worthByPoints_36 : decode cX7_worthByPoints 36 = .ok (.iload_n 2, 1) := by decide +kernel
theorem dX7_worthByPoints_37 : decode cX7_worthByPoints 37 = .ok (.iconst 2, 1) := by decide +kernel
theorem dX7_worthByPoints_38 : decode cX7_worthByPoints 38 = .ok (.irem, 1) := by decide +kernel
theorem dX7_worthByPoints_39 : decode cX7_worthByPoints 39 = .ok (.ifCond .eq 7, 3) := by decide +kernel
theorem dX7_worthByPoints_42 : decode cX7_worthByPoints 42 = .ok (.lconst 1, 1) := by decide +kernel
theorem dX7_worthByPoints_43 : decode cX7_worthByPoints 43 = .ok (.goto 6, 3) := by decide +kernel
theorem dX7_worthByPoints_46 : decode cX7_worthByPoints 46 = .ok (.ldc2_w 63, 3) := by decide +kernel
theorem dX7_worthByPoints_49 : decode cX7_worthByPoints 49 = .ok (.lreturn, 1) := by decide +kernel
theorem dX7_worthByPoints_50 : decode cX7_worthByPoints 50 = .ok (.iinc 3 1, 3) := by decide +kernel
theorem dX7_worthByPoints_53 : decode cX7_worthByPoints 53 = .ok (.goto (-43), 3) := by decide +kernel
theorem dX7_worthByPoints_56 : decode cX7_worthByPoints 56 = .ok (.lconst 0, 1) := by decide +kernel
theorem dX7_worthByPoints_57 : decode cX7_worthByPoints 57 = .ok (.lreturn, 1) := by decide +kernel
set_option maxHeartbeats 4000000 in
set_option maxRecDepth 100000 in
theorem cn_X7_worthByPoints {l : Launch} {cA : Nat → ClassId} {ad : Nat → Nat} {D : va_G} {E : Nat → Nat} {A : Nat → Prop} {k0 : Nat} {k1 : Nat} {s0 sr : SS} {rr : Int64} (hf : f_X7_worthByPoints k0 k1 s0 = some (rr, sr)) : zCon Ox Nx cA ad D E l yX7_worthByPoints cX7_worthByPoints 4 (some .long) 1 A [.ref (ad k0), .ref (ad k1)] s0 (some (.long rr)) sr := by
  refine zstart (own := RX7) hOx (by decide) rfl (Nat.le_of_ble_eq_true rfl) ?_
  intro p e s m args below meth c X hP ls hl
  have hx := X.1
  have hb := X.2.1
  have hl : lv_has ls 4 [(0, .ref (ad k0)), (1, .ref (ad k1))] := hl
  have hS : va_S A s.heap s.heap [] := va_S.rf
  have hc_10 : ∀ (n10 : Nat) (k0 : Nat) (k1 : Nat) (x2 : Int32) (x3 : Int32) (s1 : SS) (H : Heap) (locs : List Loc) (ls : Array Slot), lv_has ls 4 [(0, .ref (ad k0)), (1, .ref (ad k1)), (2, .int x2), (3, .int x3)] → va_P D ZCL (zw Ox Nx cA ad s1) H → va_S A s.heap H locs → f_X7_worthByPoints_c10 n10 k0 k1 x2 x3 s1 = some (rr, sr) → W p l e (zrm 1) s m args below meth c H locs 0 0 (MQ below (zQc Ox Nx cA ad D A (some (.long rr)) sr) args s 0 0 A) (F0 m 10 ls []) := by
    intro n10
    induction n10 with
    | zero =>
      intro k0 k1 x2 x3 s1 H locs ls hl hP hS hf
      rw [f_X7_worthByPoints_c10] at hf
      cases hf
    | succ n10 ih10 =>
      intro k0 k1 x2 x3 s1 H locs ls hl hP hS hf
      rw [f_X7_worthByPoints_c10] at hf
      obtain ⟨gp0, hf⟩ := zgd hf
      refine lv_iload_n hx hb dX7_worthByPoints_10 rfl (lv_at hl 3 rfl) ?_
      refine lv_aload_n hx hb dX7_worthByPoints_11 rfl (lv_at hl 0 rfl) ?_
      refine gf_X7_28 X hP (k := k0) gp0 dX7_worthByPoints_12 ?_
      refine lv_aload_n hx hb dX7_worthByPoints_15 rfl (lv_at hl 0 rfl) ?_
      refine gf_X7_25 X hP (k := k0) gp0 dX7_worthByPoints_16 ?_
      refine lv_iadd hx hb dX7_worthByPoints_19 ?_
      refine zicmp_ge (tgt := 56) hx hb dX7_worthByPoints_20 (by decide) hf (fun hf => ?_) (fun hf => ?_)
      · refine lv_lconst (v := 0) hx hb dX7_worthByPoints_56 (by decide) ?_
        exact zret_l X hP hS hf dX7_worthByPoints_57
      · refine lv_iload_n hx hb dX7_worthByPoints_23 rfl (lv_at hl 3 rfl) ?_
        refine lv_aload_n hx hb dX7_worthByPoints_24 rfl (lv_at hl 1 rfl) ?_
        obtain ⟨g4, hf⟩ := zgd hf
        obtain ⟨n5, on5⟩ := zia_of g4
        refine zalen X hP (k := k1) (t := 0) on5 (by decide) rfl dX7_worthByPoints_25 ?_
        refine zicmp_ge (tgt := 56) hx hb dX7_worthByPoints_26 (by decide) hf (fun hf => ?_) (fun hf => ?_)
        · refine lv_lconst (v := 0) hx hb dX7_worthByPoints_56 (by decide) ?_
          exact zret_l X hP hS hf dX7_worthByPoints_57
        · refine lv_aload_n hx hb dX7_worthByPoints_29 rfl (lv_at hl 1 rfl) ?_
          refine lv_iload_n hx hb dX7_worthByPoints_30 rfl (lv_at hl 3 rfl) ?_
          obtain ⟨g6, hf⟩ := zgd hf
          obtain ⟨n7, rn7, on7, in7⟩ := zok_of g6
          refine zald_i X hP (k := k1) on7 in7 dX7_worthByPoints_31 ?_
          refine lv_iload_n hx hb dX7_worthByPoints_32 rfl (lv_at hl 2 rfl) ?_
          refine zicmp_ne (tgt := 50) hx hb dX7_worthByPoints_33 (by decide) hf (fun hf => ?_) (fun hf => ?_)
          · refine lv_iinc (v := (x3 + 1)) (lv' := [(3, .int (x3 + 1)), (0, .ref (ad k0)), (1, .ref (ad k1)), (2, .int x2)]) hx hb dX7_worthByPoints_50 hl (k := 3) rfl rfl (by decide) rfl (fun ls hl => ?_)
            refine lv_goto (tgt := 10) hx hb dX7_worthByPoints_53 (by decide) ?_
            exact ih10 k0 k1 x2 (x3 + 1) s1 _ _ _ (lv_sub hl [1, 2, 3, 0] rfl) hP hS hf
          · refine lv_iload_n hx hb dX7_worthByPoints_36 rfl (lv_at hl 2 rfl) ?_
            refine lv_iconst (v := 2) hx hb dX7_worthByPoints_37 (by decide) ?_
            refine lv_irem hx hb dX7_worthByPoints_38 (by decide) ?_
            refine zif_eq (tgt := 46) hx hb dX7_worthByPoints_39 (by decide) hf (fun hf => ?_) (fun hf => ?_)
            · refine zldc2 X co_X7_63 dX7_worthByPoints_46 ?_
              exact zret_l X hP hS hf dX7_worthByPoints_49
            · refine lv_lconst (v := 1) hx hb dX7_worthByPoints_42 (by decide) ?_
              refine lv_goto (tgt := 49) hx hb dX7_worthByPoints_43 (by decide) ?_
              exact zret_l X hP hS hf dX7_worthByPoints_49
  rw [f_X7_worthByPoints] at hf
  obtain ⟨gp0, hf⟩ := zgd hf
  refine lv_aload_n hx hb dX7_worthByPoints_0 rfl (lv_at hl 0 rfl) ?_
  obtain ⟨r1, s2, h3, hf⟩ := zbd_some hf
  refine zcallV X hP hS hl.1 (k := k0) (As := []) (rest := []) (cn_X7_dimension h3) cw_X7_dimension zp_7 gp0 (by decide) rfl ml_X7_45 (by decide) rfl rfl (Nat.le_of_ble_eq_true rfl) dX7_worthByPoints_1 (fun H locs hP hS => ?_)
  refine lv_istore_n (lv' := [(2, .int r1), (0, .ref (ad k0)), (1, .ref (ad k1))]) hx hb dX7_worthByPoints_4 rfl hl (by decide) rfl (fun ls hl => ?_)
  refine lv_aload_n hx hb dX7_worthByPoints_5 rfl (lv_at hl 1 rfl) ?_
  refine gf_X7_28 X hP (k := k0) gp0 dX7_worthByPoints_6 ?_
  refine lv_istore_n (lv' := [(3, .int (s2.1 k0 1)), (2, .int r1), (0, .ref (ad k0)), (1, .ref (ad k1))]) hx hb dX7_worthByPoints_9 rfl hl (by decide) rfl (fun ls hl => ?_)
  exact hc_10 ZF k0 k1 r1 (s2.1 k0 1) s2 _ _ _ (lv_sub hl [2, 3, 1, 0] rfl) hP hS hf
theorem dX7_worthThrice_0 : decode cX7_worthThrice 0 = .ok (.ldc2_w 50, 3) := by decide +kernel
theorem dX7_worthThrice_3 : decode cX7_worthThrice 3 = .ok (.ldc2_w 50, 3) := by decide +kernel
theorem dX7_worthThrice_6 : decode cX7_worthThrice 6 = .ok (.iload_n 1, 1) := by decide +kernel
theorem dX7_worthThrice_7 : decode cX7_worthThrice 7 = .ok (.i2l, 1) := by decide +kernel
theorem dX7_worthThrice_8 : decode cX7_worthThrice 8 = .ok (.lmul, 1) := by decide +kernel
theorem dX7_worthThrice_9 : decode cX7_worthThrice 9 = .ok (.lsub, 1) := by decide +kernel
theorem dX7_worthThrice_10 : decode cX7_worthThrice 10 = .ok (.ldc2_w 72, 3) := by decide +kernel
theorem dX7_worthThrice_13 : decode cX7_worthThrice 13 = .ok (.iload_n 0, 1) := by decide +kernel
theorem dX7_worthThrice_14 : decode cX7_worthThrice 14 = .ok (.i2l, 1) := by decide +kernel
theorem dX7_worthThrice_15 : decode cX7_worthThrice 15 = .ok (.lmul, 1) := by decide +kernel
theorem dX7_worthThrice_16 : decode cX7_worthThrice 16 = .ok (.lsub, 1) := by decide +kernel
theorem dX7_worthThrice_17 : decode cX7_worthThrice 17 = .ok (.lreturn, 1) := by decide +kernel
set_option maxHeartbeats 4000000 in
set_option maxRecDepth 100000 in
theorem cn_X7_worthThrice {l : Launch} {cA : Nat → ClassId} {ad : Nat → Nat} {D : va_G} {E : Nat → Nat} {A : Nat → Prop} {x0 : Int32} {x1 : Int32} {s0 sr : SS} {rr : Int64} (hf : f_X7_worthThrice x0 x1 s0 = some (rr, sr)) : zCon Ox Nx cA ad D E l yX7_worthThrice cX7_worthThrice 2 (some .long) 0 A [.int x0, .int x1] s0 (some (.long rr)) sr := by
  refine zstart (own := RX7) hOx (by decide) rfl (Nat.le_of_ble_eq_true rfl) ?_
  intro p e s m args below meth c X hP ls hl
  have hx := X.1
  have hb := X.2.1
  have hl : lv_has ls 2 [(0, .int x0), (1, .int x1)] := hl
  have hS : va_S A s.heap s.heap [] := va_S.rf
  rw [f_X7_worthThrice] at hf
  refine zldc2 X co_X7_50 dX7_worthThrice_0 ?_
  refine zldc2 X co_X7_50 dX7_worthThrice_3 ?_
  refine lv_iload_n hx hb dX7_worthThrice_6 rfl (lv_at hl 1 rfl) ?_
  refine lv_i2l hx hb dX7_worthThrice_7 rfl ?_
  refine lv_lmul hx hb dX7_worthThrice_8 ?_
  refine lv_lsub hx hb dX7_worthThrice_9 ?_
  refine zldc2 X co_X7_72 dX7_worthThrice_10 ?_
  refine lv_iload_n hx hb dX7_worthThrice_13 rfl (lv_at hl 0 rfl) ?_
  refine lv_i2l hx hb dX7_worthThrice_14 rfl ?_
  refine lv_lmul hx hb dX7_worthThrice_15 ?_
  refine lv_lsub hx hb dX7_worthThrice_16 ?_
  exact zret_l X hP hS hf dX7_worthThrice_17
theorem dX7_worthTwice_0 : decode cX7_worthTwice 0 = .ok (.iload_n 0, 1) := by decide +kernel
theorem dX7_worthTwice_1 : decode cX7_worthTwice 1 = .ok (.i2l, 1) := by decide +kernel
theorem dX7_worthTwice_2 : decode cX7_worthTwice 2 = .ok (.lneg, 1) := by decide +kernel
theorem dX7_worthTwice_3 : decode cX7_worthTwice 3 = .ok (.lreturn, 1) := by decide +kernel
set_option maxHeartbeats 4000000 in
set_option maxRecDepth 100000 in
theorem cn_X7_worthTwice {l : Launch} {cA : Nat → ClassId} {ad : Nat → Nat} {D : va_G} {E : Nat → Nat} {A : Nat → Prop} {x0 : Int32} {s0 sr : SS} {rr : Int64} (hf : f_X7_worthTwice x0 s0 = some (rr, sr)) : zCon Ox Nx cA ad D E l yX7_worthTwice cX7_worthTwice 1 (some .long) 0 A [.int x0] s0 (some (.long rr)) sr := by
  refine zstart (own := RX7) hOx (by decide) rfl (Nat.le_of_ble_eq_true rfl) ?_
  intro p e s m args below meth c X hP ls hl
  have hx := X.1
  have hb := X.2.1
  have hl : lv_has ls 1 [(0, .int x0)] := hl
  have hS : va_S A s.heap s.heap [] := va_S.rf
  rw [f_X7_worthTwice] at hf
  refine lv_iload_n hx hb dX7_worthTwice_0 rfl (lv_at hl 0 rfl) ?_
  refine lv_i2l hx hb dX7_worthTwice_1 rfl ?_
  refine lv_lneg hx hb dX7_worthTwice_2 ?_
  exact zret_l X hP hS hf dX7_worthTwice_3
theorem dX7_worthByCurves_0 : decode cX7_worthByCurves 0 = .ok (.iconst 0, 1) := by decide +kernel
theorem dX7_worthByCurves_1 : decode cX7_worthByCurves 1 = .ok (.istore_n 2, 1) := by decide +kernel
theorem dX7_worthByCurves_2 : decode cX7_worthByCurves 2 = .ok (.iload_n 2, 1) := by decide +kernel
theorem dX7_worthByCurves_3 : decode cX7_worthByCurves 3 = .ok (.aload_n 0, 1) := by decide +kernel
theorem dX7_worthByCurves_4 : decode cX7_worthByCurves 4 = .ok (.getfield 25, 3) := by decide +kernel
theorem dX7_worthByCurves_7 : decode cX7_worthByCurves 7 = .ok (.if_icmp .ge 67, 3) := by decide +kernel
theorem dX7_worthByCurves_10 : decode cX7_worthByCurves 10 = .ok (.iload_n 2, 1) := by decide +kernel
theorem dX7_worthByCurves_11 : decode cX7_worthByCurves 11 = .ok (.aload_n 0, 1) := by decide +kernel
theorem dX7_worthByCurves_12 : decode cX7_worthByCurves 12 = .ok (.getfield 18, 3) := by decide +kernel
theorem dX7_worthByCurves_15 : decode cX7_worthByCurves 15 = .ok (.arraylength, 1) := by decide +kernel
theorem dX7_worthByCurves_16 : decode cX7_worthByCurves 16 = .ok (.if_icmp .ge 58, 3) := by decide +kernel
theorem dX7_worthByCurves_19 : decode cX7_worthByCurves 19 = .ok (.aload_n 1, 1) := by decide +kernel
theorem dX7_worthByCurves_20 : decode cX7_worthByCurves 20 = .ok (.iconst 1, 1) := by decide +kernel
theorem dX7_worthByCurves_21 : decode cX7_worthByCurves 21 = .ok (.iload_n 2, 1) := by decide +kernel
theorem dX7_worthByCurves_22 : decode cX7_worthByCurves 22 = .ok (.iadd, 1) := by decide +kernel
theorem dX7_worthByCurves_23 : decode cX7_worthByCurves 23 = .ok (.iaload, 1) := by decide +kernel
theorem dX7_worthByCurves_24 : decode cX7_worthByCurves 24 = .ok (.istore_n 3, 1) := by decide +kernel
theorem dX7_worthByCurves_25 : decode cX7_worthByCurves 25 = .ok (.iload_n 3, 1) := by decide +kernel
theorem dX7_worthByCurves_26 : decode cX7_worthByCurves 26 = .ok (.iconst 3, 1) := by decide +kernel
theorem dX7_worthByCurves_27 : decode cX7_worthByCurves 27 = .ok (.if_icmp .ne 19, 3) := by decide +kernel
theorem dX7_worthByCurves_30 : decode cX7_worthByCurves 30 = .ok (.aload_n 0, 1) := by decide +kernel
theorem dX7_worthByCurves_31 : decode cX7_worthByCurves 31 = .ok (.getfield 15, 3) := by decide +kernel
theorem dX7_worthByCurves_34 : decode cX7_worthByCurves 34 = .ok (.iload_n 2, 1) := by decide +kernel
theorem dX7_worthByCurves_35 : decode cX7_worthByCurves 35 = .ok (.iaload, 1) := by decide +kernel
theorem dX7_worthByCurves_36 : decode cX7_worthByCurves 36 = .ok (.aload_n 0, 1) := by decide +kernel
theorem dX7_worthByCurves_37 : decode cX7_worthByCurves 37 = .ok (.getfield 18, 3) := by decide +kernel
theorem dX7_worthByCurves_40 : decode cX7_worthByCurves 40 = .ok (.iload_n 2, 1) := by decide +kernel
theorem dX7_worthByCurves_41 : decode cX7_worthByCurves 41 = .ok (.iaload, 1) := by decide +kernel
theorem dX7_worthByCurves_42 : decode cX7_worthByCurves 42 = .ok (.invokestatic 65, 3) := by decide +kernel
theorem dX7_worthByCurves_45 : decode cX7_worthByCurves 45 = .ok (.lreturn, 1) := by decide +kernel
theorem dX7_worthByCurves_46 : decode cX7_worthByCurves 46 = .ok (.iload_n 3, 1) := by decide +kernel
theorem dX7_worthByCurves_47 : decode cX7_worthByCurves 47 = .ok (.iconst 2, 1) := by decide +kernel
theorem dX7_worthByCurves_48 : decode cX7_worthByCurves 48 = .ok (.if_icmp .ne 20, 3) := by decide +kernel
theorem dX7_worthByCurves_51 : decode cX7_worthByCurves 51 = .ok (.aload_n 1, 1) := by decide +kernel
theorem dX7_worthByCurves_52 : decode cX7_worthByCurves 52 = .ok (.iconst 0, 1) := by decide +kernel
theorem dX7_worthByCurves_53 : decode cX7_worthByCurves 53 = .ok (.iaload, 1) := by decide +kernel
theorem dX7_worthByCurves_54 : decode cX7_worthByCurves 54 = .ok (.iconst 1, 1) := by decide +kernel
theorem dX7_worthByCurves_55 : decode cX7_worthByCurves 55 = .ok (.if_icmp .ne 13, 3) := by decide +kernel
theorem dX7_worthByCurves_58 : decode cX7_worthByCurves 58 = .ok (.aload_n 0, 1) := by decide +kernel
theorem dX7_worthByCurves_59 : decode cX7_worthByCurves 59 = .ok (.getfield 15, 3) := by decide +kernel
theorem dX7_worthByCurves_62 : decode cX7_worthByCurves 62 = .ok (.iload_n 2, 1) := by decide +kernel
theorem dX7_worthByCurves_63 : decode cX7_worthByCurves 63 = .ok (.iaload, 1) := by decide +kernel
theorem dX7_worthByCurves_64 : decode cX7_worthByCurves 64 = .ok (.invokestatic 69, 3) := by decide +kernel
theorem dX7_worthByCurves_67 : decode cX7_worthByCurves 67 = .ok (.lreturn, 1) := by decide +kernel
theorem dX7_worthByCurves_68 : decode cX7_worthByCurves 68 = .ok (.iinc 2 1, 3) := by decide +kernel
theorem dX7_worthByCurves_71 : decode cX7_worthByCurves 71 = .ok (.goto (-69), 3) := by decide +kernel
theorem dX7_worthByCurves_74 : decode cX7_worthByCurves 74 = .ok (.lconst 0, 1) := by decide +kernel
theorem dX7_worthByCurves_75 : decode cX7_worthByCurves 75 = .ok (.lreturn, 1) := by decide +kernel
set_option maxHeartbeats 4000000 in
set_option maxRecDepth 100000 in
theorem cn_X7_worthByCurves {l : Launch} {cA : Nat → ClassId} {ad : Nat → Nat} {D : va_G} {E : Nat → Nat} {A : Nat → Prop} {k0 : Nat} {k1 : Nat} {s0 sr : SS} {rr : Int64} (hf : f_X7_worthByCurves k0 k1 s0 = some (rr, sr)) : zCon Ox Nx cA ad D E l yX7_worthByCurves cX7_worthByCurves 4 (some .long) 1 A [.ref (ad k0), .ref (ad k1)] s0 (some (.long rr)) sr := by
  refine zstart (own := RX7) hOx (by decide) rfl (Nat.le_of_ble_eq_true rfl) ?_
  intro p e s m args below meth c X hP ls hl
  have hx := X.1
  have hb := X.2.1
  have hl : lv_has ls 4 [(0, .ref (ad k0)), (1, .ref (ad k1))] := hl
  have hS : va_S A s.heap s.heap [] := va_S.rf
  have hc_2 : ∀ (n2 : Nat) (k0 : Nat) (k1 : Nat) (x2 : Int32) (s1 : SS) (H : Heap) (locs : List Loc) (ls : Array Slot), lv_has ls 4 [(0, .ref (ad k0)), (1, .ref (ad k1)), (2, .int x2)] → va_P D ZCL (zw Ox Nx cA ad s1) H → va_S A s.heap H locs → f_X7_worthByCurves_c2 n2 k0 k1 x2 s1 = some (rr, sr) → W p l e (zrm 1) s m args below meth c H locs 0 0 (MQ below (zQc Ox Nx cA ad D A (some (.long rr)) sr) args s 0 0 A) (F0 m 2 ls []) := by
    intro n2
    induction n2 with
    | zero =>
      intro k0 k1 x2 s1 H locs ls hl hP hS hf
      rw [f_X7_worthByCurves_c2] at hf
      cases hf
    | succ n2 ih2 =>
      have hc_68 : ∀ (k0 : Nat) (k1 : Nat) (x2 : Int32) (s1 : SS) (H : Heap) (locs : List Loc) (ls : Array Slot), lv_has ls 4 [(0, .ref (ad k0)), (1, .ref (ad k1)), (2, .int x2)] → va_P D ZCL (zw Ox Nx cA ad s1) H → va_S A s.heap H locs → f_X7_worthByCurves_c68 (f_X7_worthByCurves_c2 n2) k0 k1 x2 s1 = some (rr, sr) → W p l e (zrm 1) s m args below meth c H locs 0 0 (MQ below (zQc Ox Nx cA ad D A (some (.long rr)) sr) args s 0 0 A) (F0 m 68 ls []) := by
        intro k0 k1 x2 s1 H locs ls hl hP hS hf
        rw [f_X7_worthByCurves_c68] at hf
        obtain ⟨gp0, hf⟩ := zgd hf
        refine lv_iinc (v := (x2 + 1)) (lv' := [(2, .int (x2 + 1)), (0, .ref (ad k0)), (1, .ref (ad k1))]) hx hb dX7_worthByCurves_68 hl (k := 2) rfl rfl (by decide) rfl (fun ls hl => ?_)
        refine lv_goto (tgt := 2) hx hb dX7_worthByCurves_71 (by decide) ?_
        exact ih2 k0 k1 (x2 + 1) s1 _ _ _ (lv_sub hl [1, 2, 0] rfl) hP hS hf
      intro k0 k1 x2 s1 H locs ls hl hP hS hf
      rw [f_X7_worthByCurves_c2] at hf
      obtain ⟨gp0, hf⟩ := zgd hf
      refine lv_iload_n hx hb dX7_worthByCurves_2 rfl (lv_at hl 2 rfl) ?_
      refine lv_aload_n hx hb dX7_worthByCurves_3 rfl (lv_at hl 0 rfl) ?_
      refine gf_X7_25 X hP (k := k0) gp0 dX7_worthByCurves_4 ?_
      refine zicmp_ge (tgt := 74) hx hb dX7_worthByCurves_7 (by decide) hf (fun hf => ?_) (fun hf => ?_)
      · refine lv_lconst (v := 0) hx hb dX7_worthByCurves_74 (by decide) ?_
        exact zret_l X hP hS hf dX7_worthByCurves_75
      · refine lv_iload_n hx hb dX7_worthByCurves_10 rfl (lv_at hl 2 rfl) ?_
        refine lv_aload_n hx hb dX7_worthByCurves_11 rfl (lv_at hl 0 rfl) ?_
        refine gf_X7_18 X hP (k := k0) gp0 dX7_worthByCurves_12 rfl ?_
        obtain ⟨g1, hf⟩ := zgd hf
        obtain ⟨n2, on2⟩ := zia_of g1
        refine zalen X hP (k := (zrf Ox k0 5)) (t := 0) on2 (by decide) rfl dX7_worthByCurves_15 ?_
        refine zicmp_ge (tgt := 74) hx hb dX7_worthByCurves_16 (by decide) hf (fun hf => ?_) (fun hf => ?_)
        · refine lv_lconst (v := 0) hx hb dX7_worthByCurves_74 (by decide) ?_
          exact zret_l X hP hS hf dX7_worthByCurves_75
        · refine lv_aload_n hx hb dX7_worthByCurves_19 rfl (lv_at hl 1 rfl) ?_
          refine lv_iconst (v := 1) hx hb dX7_worthByCurves_20 (by decide) ?_
          refine lv_iload_n hx hb dX7_worthByCurves_21 rfl (lv_at hl 2 rfl) ?_
          refine lv_iadd hx hb dX7_worthByCurves_22 ?_
          obtain ⟨g3, hf⟩ := zgd hf
          obtain ⟨n18, rn18, on18, in18⟩ := zok_of g3
          refine zald_i X hP (k := k1) on18 in18 dX7_worthByCurves_23 ?_
          refine lv_istore_n (lv' := [(3, .int (s1.1 k1 (((1 : Int32) + x2)).toNatClampNeg)), (0, .ref (ad k0)), (1, .ref (ad k1)), (2, .int x2)]) hx hb dX7_worthByCurves_24 rfl hl (by decide) rfl (fun ls hl => ?_)
          refine lv_iload_n hx hb dX7_worthByCurves_25 rfl (lv_at hl 0 rfl) ?_
          refine lv_iconst (v := 3) hx hb dX7_worthByCurves_26 (by decide) ?_
          refine zicmp_ne (tgt := 46) hx hb dX7_worthByCurves_27 (by decide) hf (fun hf => ?_) (fun hf => ?_)
          · refine lv_iload_n hx hb dX7_worthByCurves_46 rfl (lv_at hl 0 rfl) ?_
            refine lv_iconst (v := 2) hx hb dX7_worthByCurves_47 (by decide) ?_
            refine zicmp_ne (tgt := 68) hx hb dX7_worthByCurves_48 (by decide) hf (fun hf => ?_) (fun hf => ?_)
            · exact hc_68 k0 k1 x2 s1 _ _ _ (lv_sub hl [1, 2, 3] rfl) hP hS hf
            · refine lv_aload_n hx hb dX7_worthByCurves_51 rfl (lv_at hl 2 rfl) ?_
              refine lv_iconst (v := 0) hx hb dX7_worthByCurves_52 (by decide) ?_
              obtain ⟨g4, hf⟩ := zgd hf
              obtain ⟨n10, rn10, on10, in10⟩ := zok_of g4
              refine zald_i X hP (k := k1) on10 in10 dX7_worthByCurves_53 ?_
              refine lv_iconst (v := 1) hx hb dX7_worthByCurves_54 (by decide) ?_
              refine zicmp_ne (tgt := 68) hx hb dX7_worthByCurves_55 (by decide) hf (fun hf => ?_) (fun hf => ?_)
              · exact hc_68 k0 k1 x2 s1 _ _ _ (lv_sub hl [1, 2, 3] rfl) hP hS hf
              · refine lv_aload_n hx hb dX7_worthByCurves_58 rfl (lv_at hl 1 rfl) ?_
                refine gf_X7_15 X hP (k := k0) gp0 dX7_worthByCurves_59 rfl ?_
                refine lv_iload_n hx hb dX7_worthByCurves_62 rfl (lv_at hl 3 rfl) ?_
                obtain ⟨g5, hf⟩ := zgd hf
                obtain ⟨n9, rn9, on9, in9⟩ := zok_of g5
                refine zald_i X hP (k := (zrf Ox k0 4)) on9 in9 dX7_worthByCurves_63 ?_
                obtain ⟨r6, s7, h8, hf⟩ := zbd_some hf
                refine zcallS X hP hS hl.1 (As := [.int (s1.1 (zrf Ox k0 4) (x2).toNatClampNeg)]) (rest := []) (cn_X7_worthTwice h8) cw_X7_worthTwice ml_X7_69 (by decide) rfl rfl (Nat.le_of_ble_eq_true rfl) dX7_worthByCurves_64 (fun H locs hP hS => ?_)
                exact zret_l X hP hS hf dX7_worthByCurves_67
          · refine lv_aload_n hx hb dX7_worthByCurves_30 rfl (lv_at hl 1 rfl) ?_
            refine gf_X7_15 X hP (k := k0) gp0 dX7_worthByCurves_31 rfl ?_
            refine lv_iload_n hx hb dX7_worthByCurves_34 rfl (lv_at hl 3 rfl) ?_
            obtain ⟨g11, hf⟩ := zgd hf
            obtain ⟨n17, rn17, on17, in17⟩ := zok_of g11
            refine zald_i X hP (k := (zrf Ox k0 4)) on17 in17 dX7_worthByCurves_35 ?_
            refine lv_aload_n hx hb dX7_worthByCurves_36 rfl (lv_at hl 1 rfl) ?_
            refine gf_X7_18 X hP (k := k0) gp0 dX7_worthByCurves_37 rfl ?_
            refine lv_iload_n hx hb dX7_worthByCurves_40 rfl (lv_at hl 3 rfl) ?_
            obtain ⟨g12, hf⟩ := zgd hf
            obtain ⟨n16, rn16, on16, in16⟩ := zok_of g12
            refine zald_i X hP (k := (zrf Ox k0 5)) on16 in16 dX7_worthByCurves_41 ?_
            obtain ⟨r13, s14, h15, hf⟩ := zbd_some hf
            refine zcallS X hP hS hl.1 (As := [.int (s1.1 (zrf Ox k0 4) (x2).toNatClampNeg), .int (s1.1 (zrf Ox k0 5) (x2).toNatClampNeg)]) (rest := []) (cn_X7_worthThrice h15) cw_X7_worthThrice ml_X7_65 (by decide) rfl rfl (Nat.le_of_ble_eq_true rfl) dX7_worthByCurves_42 (fun H locs hP hS => ?_)
            exact zret_l X hP hS hf dX7_worthByCurves_45
  rw [f_X7_worthByCurves] at hf
  obtain ⟨gp0, hf⟩ := zgd hf
  refine lv_iconst (v := 0) hx hb dX7_worthByCurves_0 (by decide) ?_
  refine lv_istore_n (lv' := [(2, .int 0), (0, .ref (ad k0)), (1, .ref (ad k1))]) hx hb dX7_worthByCurves_1 rfl hl (by decide) rfl (fun ls hl => ?_)
  exact hc_2 ZF k0 k1 0 s0 _ _ _ (lv_sub hl [1, 2, 0] rfl) hP hS hf
theorem dX7_worthByConics_0 : decode cX7_worthByConics 0 = .ok (.iload_n 0, 1) := by decide +kernel
theorem dX7_worthByConics_1 : decode cX7_worthByConics 1 = .ok (.tableswitch 39 3 5 #[27, 31, 35], 27) := by decide +kernel
theorem dX7_worthByConics_28 : decode cX7_worthByConics 28 = .ok (.ldc2_w 72, 3) := by decide +kernel
theorem dX7_worthByConics_31 : decode cX7_worthByConics 31 = .ok (.lreturn, 1) := by decide +kernel
theorem dX7_worthByConics_32 : decode cX7_worthByConics 32 = .ok (.ldc2_w 74, 3) := by decide +kernel
theorem dX7_worthByConics_35 : decode cX7_worthByConics 35 = .ok (.lreturn, 1) := by decide +kernel
theorem dX7_worthByConics_36 : decode cX7_worthByConics 36 = .ok (.ldc2_w 76, 3) := by decide +kernel
theorem dX7_worthByConics_39 : decode cX7_worthByConics 39 = .ok (.lreturn, 1) := by decide +kernel
theorem dX7_worthByConics_40 : decode cX7_worthByConics 40 = .ok (.lconst 0, 1) := by decide +kernel
theorem dX7_worthByConics_41 : decode cX7_worthByConics 41 = .ok (.lreturn, 1) := by decide +kernel
set_option maxHeartbeats 4000000 in
set_option maxRecDepth 100000 in
theorem cn_X7_worthByConics {l : Launch} {cA : Nat → ClassId} {ad : Nat → Nat} {D : va_G} {E : Nat → Nat} {A : Nat → Prop} {x0 : Int32} {s0 sr : SS} {rr : Int64} (hf : f_X7_worthByConics x0 s0 = some (rr, sr)) : zCon Ox Nx cA ad D E l yX7_worthByConics cX7_worthByConics 1 (some .long) 0 A [.int x0] s0 (some (.long rr)) sr := by
  refine zstart (own := RX7) hOx (by decide) rfl (Nat.le_of_ble_eq_true rfl) ?_
  intro p e s m args below meth c X hP ls hl
  have hx := X.1
  have hb := X.2.1
  have hl : lv_has ls 1 [(0, .int x0)] := hl
  have hS : va_S A s.heap s.heap [] := va_S.rf
  rw [f_X7_worthByConics] at hf
  refine lv_iload_n hx hb dX7_worthByConics_0 rfl (lv_at hl 0 rfl) ?_
  by_cases e1 : x0 = 3
  · rw [if_pos e1] at hf
    refine lv_tableIn (tgt := 28) (off := 27) hx hb dX7_worthByConics_1 (by rw [e1]; decide) (by rw [e1]; decide) (by rw [e1]; decide +kernel) (by decide) ?_
    refine zldc2 X co_X7_72 dX7_worthByConics_28 ?_
    exact zret_l X hP hS hf dX7_worthByConics_31
  · rw [if_neg e1] at hf
    by_cases e2 : x0 = 4
    · rw [if_pos e2] at hf
      refine lv_tableIn (tgt := 32) (off := 31) hx hb dX7_worthByConics_1 (by rw [e2]; decide) (by rw [e2]; decide) (by rw [e2]; decide +kernel) (by decide) ?_
      refine zldc2 X co_X7_74 dX7_worthByConics_32 ?_
      exact zret_l X hP hS hf dX7_worthByConics_35
    · rw [if_neg e2] at hf
      by_cases e3 : x0 = 5
      · rw [if_pos e3] at hf
        refine lv_tableIn (tgt := 36) (off := 35) hx hb dX7_worthByConics_1 (by rw [e3]; decide) (by rw [e3]; decide) (by rw [e3]; decide +kernel) (by decide) ?_
        refine zldc2 X co_X7_76 dX7_worthByConics_36 ?_
        exact zret_l X hP hS hf dX7_worthByConics_39
      · rw [if_neg e3] at hf
        have ye1 := zne e1 (v := 3) (by decide)
        have ye2 := zne e2 (v := 4) (by decide)
        have ye3 := zne e3 (v := 5) (by decide)
        refine lv_tableOut (tgt := 40) hx hb dX7_worthByConics_1 (by omega) (by decide) ?_
        refine lv_lconst (v := 0) hx hb dX7_worthByConics_40 (by decide) ?_
        exact zret_l X hP hS hf dX7_worthByConics_41
theorem dX7_worthOf_0 : decode cX7_worthOf 0 = .ok (.iconst 1, 1) := by decide +kernel
theorem dX7_worthOf_1 : decode cX7_worthOf 1 = .ok (.istore_n 2, 1) := by decide +kernel
theorem dX7_worthOf_2 : decode cX7_worthOf 2 = .ok (.iconst 0, 1) := by decide +kernel
theorem dX7_worthOf_3 : decode cX7_worthOf 3 = .ok (.istore_n 3, 1) := by decide +kernel
theorem dX7_worthOf_4 : decode cX7_worthOf 4 = .ok (.iload_n 3, 1) := by decide +kernel
theorem dX7_worthOf_5 : decode cX7_worthOf 5 = .ok (.aload_n 0, 1) := by decide +kernel
theorem dX7_worthOf_6 : decode cX7_worthOf 6 = .ok (.getfield 28, 3) := by decide +kernel
theorem dX7_worthOf_9 : decode cX7_worthOf 9 = .ok (.if_icmp .ge 40, 3) := by decide +kernel
theorem dX7_worthOf_12 : decode cX7_worthOf 12 = .ok (.iload_n 3, 1) := by decide +kernel
theorem dX7_worthOf_13 : decode cX7_worthOf 13 = .ok (.aload_n 0, 1) := by decide +kernel
theorem dX7_worthOf_14 : decode cX7_worthOf 14 = .ok (.getfield 9, 3) := by decide +kernel
theorem dX7_worthOf_17 : decode cX7_worthOf 17 = .ok (.arraylength, 1) := by decide +kernel
theorem dX7_worthOf_18 : decode cX7_worthOf 18 = .ok (.if_icmp .ge 31, 3) := by decide +kernel
theorem dX7_worthOf_21 : decode cX7_worthOf 21 = .ok (.iload_n 2, 1) := by decide +kernel
theorem dX7_worthOf_22 : decode cX7_worthOf 22 = .ok (.ifCond .eq 19, 3) := by decide +kernel
theorem dX7_worthOf_25 : decode cX7_worthOf 25 = .ok (.aload_n 1, 1) := by decide +kernel
theorem dX7_worthOf_26 : decode cX7_worthOf 26 = .ok (.iload_n 3, 1) := by decide +kernel
theorem dX7_worthOf_27 : decode cX7_worthOf 27 = .ok (.iaload, 1) := by decide +kernel
theorem dX7_worthOf_28 : decode cX7_worthOf 28 = .ok (.aload_n 0, 1) := by decide +kernel
theorem dX7_worthOf_29 : decode cX7_worthOf 29 = .ok (.getfield 9, 3) := by decide +kernel
theorem dX7_worthOf_32 : decode cX7_worthOf 32 = .ok (.iload_n 3, 1) := by decide +kernel
theorem dX7_worthOf_33 : decode cX7_worthOf 33 = .ok (.iaload, 1) := by decide +kernel
theorem dX7_worthOf_34 : decode cX7_worthOf 34 = .ok (.if_icmp .ne 7, 3) := by decide +kernel
theorem dX7_worthOf_37 : decode cX7_worthOf 37 = .ok (.iconst 1, 1) := by decide +kernel
theorem dX7_worthOf_38 : decode cX7_worthOf 38 = .ok (.goto 4, 3) := by decide +kernel
theorem dX7_worthOf_41 : decode cX7_worthOf 41 = .ok (.iconst 0, 1) := by decide +kernel
theorem dX7_worthOf_42 : decode cX7_worthOf 42 = .ok (.istore_n 2, 1) := by decide +kernel
theorem dX7_worthOf_43 : decode cX7_worthOf 43 = .ok (.iinc 3 1, 3) := by decide +kernel
theorem dX7_worthOf_46 : decode cX7_worthOf 46 = .ok (.goto (-42), 3) := by decide +kernel
theorem dX7_worthOf_49 : decode cX7_worthOf 49 = .ok (.iload_n 2, 1) := by decide +kernel
theorem dX7_worthOf_50 : decode cX7_worthOf 50 = .ok (.ifCond .eq 5, 3) := by decide +kernel
theorem dX7_worthOf_53 : decode cX7_worthOf 53 = .ok (.lconst 1, 1) := by decide +kernel
theorem dX7_worthOf_54 : decode cX7_worthOf 54 = .ok (.lreturn, 1) := by decide +kernel
theorem dX7_worthOf_55 : decode cX7_worthOf 55 = .ok (.aload_n 0, 1) := by decide +kernel
theorem dX7_worthOf_56 : decode cX7_worthOf 56 = .ok (.getfield 21, 3) := by decide +kernel
theorem dX7_worthOf_59 : decode cX7_worthOf 59 = .ok (.lookupswitch 37 #[(0, 25), (1, 31)], 25) := by decide +kernel
theorem dX7_worthOf_84 : decode cX7_worthOf 84 = .ok (.aload_n 0, 1) := by decide +kernel
theorem dX7_worthOf_85 : decode cX7_worthOf 85 = .ok (.aload_n 1, 1) := by decide +kernel
theorem dX7_worthOf_86 : decode cX7_worthOf 86 = .ok (.invokevirtual 52, 3) := by decide +kernel
theorem dX7_worthOf_89 : decode cX7_worthOf 89 = .ok (.lreturn, 1) := by decide +kernel
theorem dX7_worthOf_90 : decode cX7_worthOf 90 = .ok (.aload_n 0, 1) := by decide +kernel
theorem dX7_worthOf_91 : decode cX7_worthOf 91 = .ok (.aload_n 1, 1) := by decide +kernel
theorem dX7_worthOf_92 : decode cX7_worthOf 92 = .ok (.invokevirtual 56, 3) := by decide +kernel
theorem dX7_worthOf_95 : decode cX7_worthOf 95 = .ok (.lreturn, 1) := by decide +kernel
theorem dX7_worthOf_96 : decode cX7_worthOf 96 = .ok (.aload_n 1, 1) := by decide +kernel
theorem dX7_worthOf_97 : decode cX7_worthOf 97 = .ok (.iconst 1, 1) := by decide +kernel
theorem dX7_worthOf_98 : decode cX7_worthOf 98 = .ok (.iaload, 1) := by decide +kernel
theorem dX7_worthOf_99 : decode cX7_worthOf 99 = .ok (.invokestatic 59, 3) := by decide +kernel
theorem dX7_worthOf_102 : decode cX7_worthOf 102 = .ok (.lreturn, 1) := by decide +kernel
set_option maxHeartbeats 4000000 in
set_option maxRecDepth 100000 in
theorem cn_X7_worthOf {l : Launch} {cA : Nat → ClassId} {ad : Nat → Nat} {D : va_G} {E : Nat → Nat} {A : Nat → Prop} {k0 : Nat} {k1 : Nat} {s0 sr : SS} {rr : Int64} (hf : f_X7_worthOf k0 k1 s0 = some (rr, sr)) : zCon Ox Nx cA ad D E l yX7_worthOf cX7_worthOf 4 (some .long) 2 A [.ref (ad k0), .ref (ad k1)] s0 (some (.long rr)) sr := by
  refine zstart (own := RX7) hOx (by decide) rfl (Nat.le_of_ble_eq_true rfl) ?_
  intro p e s m args below meth c X hP ls hl
  have hx := X.1
  have hb := X.2.1
  have hl : lv_has ls 4 [(0, .ref (ad k0)), (1, .ref (ad k1))] := hl
  have hS : va_S A s.heap s.heap [] := va_S.rf
  have hc_4 : ∀ (n4 : Nat) (k0 : Nat) (k1 : Nat) (x2 : Int32) (x3 : Int32) (s1 : SS) (H : Heap) (locs : List Loc) (ls : Array Slot), lv_has ls 4 [(0, .ref (ad k0)), (1, .ref (ad k1)), (2, .int x2), (3, .int x3)] → va_P D ZCL (zw Ox Nx cA ad s1) H → va_S A s.heap H locs → f_X7_worthOf_c4 n4 k0 k1 x2 x3 s1 = some (rr, sr) → W p l e (zrm 2) s m args below meth c H locs 0 0 (MQ below (zQc Ox Nx cA ad D A (some (.long rr)) sr) args s 0 0 A) (F0 m 4 ls []) := by
    intro n4
    induction n4 with
    | zero =>
      intro k0 k1 x2 x3 s1 H locs ls hl hP hS hf
      rw [f_X7_worthOf_c4] at hf
      cases hf
    | succ n4 ih4 =>
      have hc_49 : ∀ (k0 : Nat) (k1 : Nat) (x2 : Int32) (s1 : SS) (H : Heap) (locs : List Loc) (ls : Array Slot), lv_has ls 4 [(0, .ref (ad k0)), (1, .ref (ad k1)), (2, .int x2)] → va_P D ZCL (zw Ox Nx cA ad s1) H → va_S A s.heap H locs → f_X7_worthOf_c49 k0 k1 x2 s1 = some (rr, sr) → W p l e (zrm 2) s m args below meth c H locs 0 0 (MQ below (zQc Ox Nx cA ad D A (some (.long rr)) sr) args s 0 0 A) (F0 m 49 ls []) := by
        intro k0 k1 x2 s1 H locs ls hl hP hS hf
        rw [f_X7_worthOf_c49] at hf
        obtain ⟨gp0, hf⟩ := zgd hf
        refine lv_iload_n hx hb dX7_worthOf_49 rfl (lv_at hl 2 rfl) ?_
        refine zif_eq (tgt := 55) hx hb dX7_worthOf_50 (by decide) hf (fun hf => ?_) (fun hf => ?_)
        · refine lv_aload_n hx hb dX7_worthOf_55 rfl (lv_at hl 0 rfl) ?_
          refine gf_X7_21 X hP (k := k0) gp0 dX7_worthOf_56 ?_
          by_cases e1 : (s1.1 k0 0) = 0
          · rw [if_pos e1] at hf
            refine lv_lookup (tgt := 84) (off := 25) hx hb dX7_worthOf_59 (by decide) (by first | (rw [e1]; done) | (rw [e1]; decide +kernel)) (by decide) ?_
            refine lv_aload_n hx hb dX7_worthOf_84 rfl (lv_at hl 0 rfl) ?_
            refine lv_aload_n hx hb dX7_worthOf_85 rfl (lv_at hl 1 rfl) ?_
            obtain ⟨r2, s3, h4, hf⟩ := zbd_some hf
            refine zcallV X hP hS hl.1 (k := k0) (As := [.ref (ad k1)]) (rest := []) (cn_X7_worthByPoints h4) cw_X7_worthByPoints zp_7 gp0 (by decide) rfl ml_X7_52 (by decide) rfl rfl (Nat.le_of_ble_eq_true rfl) dX7_worthOf_86 (fun H locs hP hS => ?_)
            exact zret_l X hP hS hf dX7_worthOf_89
          · rw [if_neg e1] at hf
            by_cases e5 : (s1.1 k0 0) = 1
            · rw [if_pos e5] at hf
              refine lv_lookup (tgt := 90) (off := 31) hx hb dX7_worthOf_59 (by decide) (by first | (rw [e5]; done) | (rw [e5]; decide +kernel)) (by decide) ?_
              refine lv_aload_n hx hb dX7_worthOf_90 rfl (lv_at hl 0 rfl) ?_
              refine lv_aload_n hx hb dX7_worthOf_91 rfl (lv_at hl 1 rfl) ?_
              obtain ⟨r6, s7, h8, hf⟩ := zbd_some hf
              refine zcallV X hP hS hl.1 (k := k0) (As := [.ref (ad k1)]) (rest := []) (cn_X7_worthByCurves h8) cw_X7_worthByCurves zp_7 gp0 (by decide) rfl ml_X7_56 (by decide) rfl rfl (Nat.le_of_ble_eq_true rfl) dX7_worthOf_92 (fun H locs hP hS => ?_)
              exact zret_l X hP hS hf dX7_worthOf_95
            · rw [if_neg e5] at hf
              have ye1 := zne e1 (v := 0) (by decide)
              have ye5 := zne e5 (v := 1) (by decide)
              refine lv_lookup (tgt := 96) hx hb dX7_worthOf_59 (by decide) (off := 37) (by simp [Op.lookupswitch.offset, ye1, Ne.symm ye1, ye5, Ne.symm ye5]) (by decide) ?_
              refine lv_aload_n hx hb dX7_worthOf_96 rfl (lv_at hl 1 rfl) ?_
              refine lv_iconst (v := 1) hx hb dX7_worthOf_97 (by decide) ?_
              obtain ⟨g9, hf⟩ := zgd hf
              obtain ⟨n13, rn13, on13, in13⟩ := zok_of g9
              refine zald_i X hP (k := k1) on13 in13 dX7_worthOf_98 ?_
              obtain ⟨r10, s11, h12, hf⟩ := zbd_some hf
              refine zcallS X hP hS hl.1 (As := [.int (s1.1 k1 ((1 : Int32)).toNatClampNeg)]) (rest := []) (cn_X7_worthByConics h12) cw_X7_worthByConics ml_X7_59 (by decide) rfl rfl (Nat.le_of_ble_eq_true rfl) dX7_worthOf_99 (fun H locs hP hS => ?_)
              exact zret_l X hP hS hf dX7_worthOf_102
        · refine lv_lconst (v := 1) hx hb dX7_worthOf_53 (by decide) ?_
          exact zret_l X hP hS hf dX7_worthOf_54
      have hc_42 : ∀ (k0 : Nat) (k1 : Nat) (x3 : Int32) (t0 : Int32) (s1 : SS) (H : Heap) (locs : List Loc) (ls : Array Slot), lv_has ls 4 [(0, .ref (ad k0)), (1, .ref (ad k1)), (3, .int x3)] → va_P D ZCL (zw Ox Nx cA ad s1) H → va_S A s.heap H locs → f_X7_worthOf_c42 (f_X7_worthOf_c4 n4) k0 k1 x3 t0 s1 = some (rr, sr) → W p l e (zrm 2) s m args below meth c H locs 0 0 (MQ below (zQc Ox Nx cA ad D A (some (.long rr)) sr) args s 0 0 A) (F0 m 42 ls [.int t0]) := by
        intro k0 k1 x3 t0 s1 H locs ls hl hP hS hf
        rw [f_X7_worthOf_c42] at hf
        obtain ⟨gp0, hf⟩ := zgd hf
        refine lv_istore_n (lv' := [(2, .int t0), (0, .ref (ad k0)), (1, .ref (ad k1)), (3, .int x3)]) hx hb dX7_worthOf_42 rfl hl (by decide) rfl (fun ls hl => ?_)
        refine lv_iinc (v := (x3 + 1)) (lv' := [(3, .int (x3 + 1)), (2, .int t0), (0, .ref (ad k0)), (1, .ref (ad k1))]) hx hb dX7_worthOf_43 hl (k := 3) rfl rfl (by decide) rfl (fun ls hl => ?_)
        refine lv_goto (tgt := 4) hx hb dX7_worthOf_46 (by decide) ?_
        exact ih4 k0 k1 t0 (x3 + 1) s1 _ _ _ (lv_sub hl [2, 3, 1, 0] rfl) hP hS hf
      have hc_41 : ∀ (k0 : Nat) (k1 : Nat) (x3 : Int32) (s1 : SS) (H : Heap) (locs : List Loc) (ls : Array Slot), lv_has ls 4 [(0, .ref (ad k0)), (1, .ref (ad k1)), (3, .int x3)] → va_P D ZCL (zw Ox Nx cA ad s1) H → va_S A s.heap H locs → f_X7_worthOf_c41 (f_X7_worthOf_c4 n4) k0 k1 x3 s1 = some (rr, sr) → W p l e (zrm 2) s m args below meth c H locs 0 0 (MQ below (zQc Ox Nx cA ad D A (some (.long rr)) sr) args s 0 0 A) (F0 m 41 ls []) := by
        intro k0 k1 x3 s1 H locs ls hl hP hS hf
        rw [f_X7_worthOf_c41] at hf
        obtain ⟨gp0, hf⟩ := zgd hf
        refine lv_iconst (v := 0) hx hb dX7_worthOf_41 (by decide) ?_
        exact hc_42 k0 k1 x3 0 s1 _ _ _ (lv_sub hl [0, 1, 2] rfl) hP hS hf
      intro k0 k1 x2 x3 s1 H locs ls hl hP hS hf
      rw [f_X7_worthOf_c4] at hf
      obtain ⟨gp0, hf⟩ := zgd hf
      refine lv_iload_n hx hb dX7_worthOf_4 rfl (lv_at hl 3 rfl) ?_
      refine lv_aload_n hx hb dX7_worthOf_5 rfl (lv_at hl 0 rfl) ?_
      refine gf_X7_28 X hP (k := k0) gp0 dX7_worthOf_6 ?_
      refine zicmp_ge (tgt := 49) hx hb dX7_worthOf_9 (by decide) hf (fun hf => ?_) (fun hf => ?_)
      · exact hc_49 k0 k1 x2 s1 _ _ _ (lv_sub hl [0, 1, 2] rfl) hP hS hf
      · refine lv_iload_n hx hb dX7_worthOf_12 rfl (lv_at hl 3 rfl) ?_
        refine lv_aload_n hx hb dX7_worthOf_13 rfl (lv_at hl 0 rfl) ?_
        refine gf_X7_9 X hP (k := k0) gp0 dX7_worthOf_14 rfl ?_
        obtain ⟨g14, hf⟩ := zgd hf
        obtain ⟨n15, on15⟩ := zia_of g14
        refine zalen X hP (k := (zrf Ox k0 3)) (t := 0) on15 (by decide) rfl dX7_worthOf_17 ?_
        refine zicmp_ge (tgt := 49) hx hb dX7_worthOf_18 (by decide) hf (fun hf => ?_) (fun hf => ?_)
        · exact hc_49 k0 k1 x2 s1 _ _ _ (lv_sub hl [0, 1, 2] rfl) hP hS hf
        · refine lv_iload_n hx hb dX7_worthOf_21 rfl (lv_at hl 2 rfl) ?_
          refine zif_eq (tgt := 41) hx hb dX7_worthOf_22 (by decide) hf (fun hf => ?_) (fun hf => ?_)
          · exact hc_41 k0 k1 x3 s1 _ _ _ (lv_sub hl [0, 1, 3] rfl) hP hS hf
          · refine lv_aload_n hx hb dX7_worthOf_25 rfl (lv_at hl 1 rfl) ?_
            refine lv_iload_n hx hb dX7_worthOf_26 rfl (lv_at hl 3 rfl) ?_
            obtain ⟨g16, hf⟩ := zgd hf
            obtain ⟨n19, rn19, on19, in19⟩ := zok_of g16
            refine zald_i X hP (k := k1) on19 in19 dX7_worthOf_27 ?_
            refine lv_aload_n hx hb dX7_worthOf_28 rfl (lv_at hl 0 rfl) ?_
            refine gf_X7_9 X hP (k := k0) gp0 dX7_worthOf_29 rfl ?_
            refine lv_iload_n hx hb dX7_worthOf_32 rfl (lv_at hl 3 rfl) ?_
            obtain ⟨g17, hf⟩ := zgd hf
            obtain ⟨n18, rn18, on18, in18⟩ := zok_of g17
            refine zald_i X hP (k := (zrf Ox k0 3)) on18 in18 dX7_worthOf_33 ?_
            refine zicmp_ne (tgt := 41) hx hb dX7_worthOf_34 (by decide) hf (fun hf => ?_) (fun hf => ?_)
            · exact hc_41 k0 k1 x3 s1 _ _ _ (lv_sub hl [0, 1, 3] rfl) hP hS hf
            · refine lv_iconst (v := 1) hx hb dX7_worthOf_37 (by decide) ?_
              refine lv_goto (tgt := 42) hx hb dX7_worthOf_38 (by decide) ?_
              exact hc_42 k0 k1 x3 1 s1 _ _ _ (lv_sub hl [0, 1, 3] rfl) hP hS hf
  rw [f_X7_worthOf] at hf
  obtain ⟨gp0, hf⟩ := zgd hf
  refine lv_iconst (v := 1) hx hb dX7_worthOf_0 (by decide) ?_
  refine lv_istore_n (lv' := [(2, .int 1), (0, .ref (ad k0)), (1, .ref (ad k1))]) hx hb dX7_worthOf_1 rfl hl (by decide) rfl (fun ls hl => ?_)
  refine lv_iconst (v := 0) hx hb dX7_worthOf_2 (by decide) ?_
  refine lv_istore_n (lv' := [(3, .int 0), (2, .int 1), (0, .ref (ad k0)), (1, .ref (ad k1))]) hx hb dX7_worthOf_3 rfl hl (by decide) rfl (fun ls hl => ?_)
  exact hc_4 ZF k0 k1 1 0 s0 _ _ _ (lv_sub hl [2, 3, 1, 0] rfl) hP hS hf
theorem dX8_makeZero_0 : decode cX8_makeZero 0 = .ok (.aload_n 1, 1) := by decide +kernel
theorem dX8_makeZero_1 : decode cX8_makeZero 1 = .ok (.lconst 0, 1) := by decide +kernel
theorem dX8_makeZero_2 : decode cX8_makeZero 2 = .ok (.invokestatic 36, 3) := by decide +kernel
theorem dX8_makeZero_5 : decode cX8_makeZero 5 = .ok (.return_, 1) := by decide +kernel
set_option maxHeartbeats 4000000 in
set_option maxRecDepth 100000 in
theorem cn_X8_makeZero {l : Launch} {cA : Nat → ClassId} {ad : Nat → Nat} {D : va_G} {E : Nat → Nat} {A : Nat → Prop} {k1 : Nat} {s0 sr : SS} {rr : Unit} (hf : f_X8_makeZero k1 s0 = some (rr, sr)) : zCon Ox Nx cA ad D E l yX8_makeZero cX8_makeZero 2 none 1 A [.ref (ad 5), .ref (ad k1)] s0 none sr := by
  refine zstart (own := RX8) hOx (by decide) rfl (Nat.le_of_ble_eq_true rfl) ?_
  intro p e s m args below meth c X hP ls hl
  have hx := X.1
  have hb := X.2.1
  have hl : lv_has ls 2 [(0, .ref (ad 5)), (1, .ref (ad k1))] := hl
  have hS : va_S A s.heap s.heap [] := va_S.rf
  rw [f_X8_makeZero] at hf
  refine lv_aload_n hx hb dX8_makeZero_0 rfl (lv_at hl 1 rfl) ?_
  refine lv_lconst (v := 0) hx hb dX8_makeZero_1 (by decide) ?_
  obtain ⟨r1, s2, h3, hf⟩ := zbd_some hf
  refine zcallS X hP hS hl.1 (As := [.ref (ad k1), .long 0]) (rest := []) (cn_J7_fill_d0a16 h3) cw_J7_fill_d0a16 ml_X8_36 (by decide) rfl rfl (Nat.le_of_ble_eq_true rfl) dX8_makeZero_2 (fun H locs hP hS => ?_)
  exact zret_v X hP hS hf dX8_makeZero_5
theorem dX8_makeOne_0 : decode cX8_makeOne 0 = .ok (.aload_n 1, 1) := by decide +kernel
theorem dX8_makeOne_1 : decode cX8_makeOne 1 = .ok (.lconst 0, 1) := by decide +kernel
theorem dX8_makeOne_2 : decode cX8_makeOne 2 = .ok (.invokestatic 36, 3) := by decide +kernel
theorem dX8_makeOne_5 : decode cX8_makeOne 5 = .ok (.aload_n 0, 1) := by decide +kernel
theorem dX8_makeOne_6 : decode cX8_makeOne 6 = .ok (.getfield 10, 3) := by decide +kernel
theorem dX8_makeOne_9 : decode cX8_makeOne 9 = .ok (.getfield 42, 3) := by decide +kernel
theorem dX8_makeOne_12 : decode cX8_makeOne 12 = .ok (.ifCond .le 15, 3) := by decide +kernel
theorem dX8_makeOne_15 : decode cX8_makeOne 15 = .ok (.aload_n 1, 1) := by decide +kernel
theorem dX8_makeOne_16 : decode cX8_makeOne 16 = .ok (.aload_n 0, 1) := by decide +kernel
theorem dX8_makeOne_17 : decode cX8_makeOne 17 = .ok (.getfield 10, 3) := by decide +kernel
theorem dX8_makeOne_20 : decode cX8_makeOne 20 = .ok (.getfield 42, 3) := by decide +kernel
theorem dX8_makeOne_23 : decode cX8_makeOne 23 = .ok (.iconst 1, 1) := by decide +kernel
theorem dX8_makeOne_24 : decode cX8_makeOne 24 = .ok (.isub, 1) := by decide +kernel
theorem dX8_makeOne_25 : decode cX8_makeOne 25 = .ok (.lconst 1, 1) := by decide +kernel
theorem dX8_makeOne_26 : decode cX8_makeOne 26 = .ok (.lastore, 1) := by decide +kernel
theorem dX8_makeOne_27 : decode cX8_makeOne 27 = .ok (.return_, 1) := by decide +kernel
set_option maxHeartbeats 4000000 in
set_option maxRecDepth 100000 in
theorem cn_X8_makeOne {l : Launch} {cA : Nat → ClassId} {ad : Nat → Nat} {D : va_G} {E : Nat → Nat} {A : Nat → Prop} {k1 : Nat} {s0 sr : SS} {rr : Unit} (hf : f_X8_makeOne k1 s0 = some (rr, sr)) : zCon Ox Nx cA ad D E l yX8_makeOne cX8_makeOne 2 none 1 A [.ref (ad 5), .ref (ad k1)] s0 none sr := by
  refine zstart (own := RX8) hOx (by decide) rfl (Nat.le_of_ble_eq_true rfl) ?_
  intro p e s m args below meth c X hP ls hl
  have hx := X.1
  have hb := X.2.1
  have hl : lv_has ls 2 [(0, .ref (ad 5)), (1, .ref (ad k1))] := hl
  have hS : va_S A s.heap s.heap [] := va_S.rf
  rw [f_X8_makeOne] at hf
  refine lv_aload_n hx hb dX8_makeOne_0 rfl (lv_at hl 1 rfl) ?_
  refine lv_lconst (v := 0) hx hb dX8_makeOne_1 (by decide) ?_
  obtain ⟨r1, s2, h3, hf⟩ := zbd_some hf
  refine zcallS X hP hS hl.1 (As := [.ref (ad k1), .long 0]) (rest := []) (cn_J7_fill_d0a16 h3) cw_J7_fill_d0a16 ml_X8_36 (by decide) rfl rfl (Nat.le_of_ble_eq_true rfl) dX8_makeOne_2 (fun H locs hP hS => ?_)
  refine lv_aload_n hx hb dX8_makeOne_5 rfl (lv_at hl 0 rfl) ?_
  refine gf_X8_10 X hP (k := 5) (q := 6) rfl dX8_makeOne_6 rfl ?_
  refine gf_X8_42 X hP (k := 6) rfl dX8_makeOne_9 ?_
  refine zif_le (tgt := 27) hx hb dX8_makeOne_12 (by decide) hf (fun hf => ?_) (fun hf => ?_)
  · exact zret_v X hP hS hf dX8_makeOne_27
  · refine lv_aload_n hx hb dX8_makeOne_15 rfl (lv_at hl 1 rfl) ?_
    refine lv_aload_n hx hb dX8_makeOne_16 rfl (lv_at hl 0 rfl) ?_
    refine gf_X8_10 X hP (k := 5) (q := 6) rfl dX8_makeOne_17 rfl ?_
    refine gf_X8_42 X hP (k := 6) rfl dX8_makeOne_20 ?_
    refine lv_iconst (v := 1) hx hb dX8_makeOne_23 (by decide) ?_
    refine lv_isub hx hb dX8_makeOne_24 ?_
    refine lv_lconst (v := 1) hx hb dX8_makeOne_25 (by decide) ?_
    obtain ⟨g4, hf⟩ := zgd hf
    obtain ⟨n5, rn5, on5, in5⟩ := zok_of g4
    refine zast_l X hP hS (k := k1) on5 in5 dX8_makeOne_26 (fun H locs hP hS => ?_)
    exact zret_v X hP hS hf dX8_makeOne_27
theorem dX10_find_0 : decode cX10_find 0 = .ok (.iload_n 1, 1) := by decide +kernel
theorem dX10_find_1 : decode cX10_find 1 = .ok (.ifCond .ge 5, 3) := by decide +kernel
theorem dX10_find_4 : decode cX10_find 4 = .ok (.iconst (-1), 1) := by decide +kernel
theorem dX10_find_5 : decode cX10_find 5 = .ok (.ireturn, 1) := by decide +kernel
theorem dX10_find_6 : decode cX10_find 6 = .ok (.iload_n 1, 1) := by decide +kernel
theorem dX10_find_7 : decode cX10_find 7 = .ok (.istore_n 2, 1) := by decide +kernel
theorem dX10_find_8 : decode cX10_find 8 = .ok (.aload_n 0, 1) := by decide +kernel
theorem dX10_find_9 : decode cX10_find 9 = .ok (.getfield 39, 3) := by decide +kernel
theorem dX10_find_12 : decode cX10_find 12 = .ok (.istore_n 3, 1) := by decide +kernel
theorem dX10_find_13 : decode cX10_find 13 = .ok (.iconst 0, 1) := by decide +kernel
theorem dX10_find_14 : decode cX10_find 14 = .ok (.istore 4, 2) := by decide +kernel
theorem dX10_find_16 : decode cX10_find 16 = .ok (.iconst 0, 1) := by decide +kernel
theorem dX10_find_17 : decode cX10_find 17 = .ok (.istore 5, 2) := by decide +kernel
theorem dX10_find_19 : decode cX10_find 19 = .ok (.iload 5, 2) := by decide +kernel
theorem dX10_find_21 : decode cX10_find 21 = .ok (.aload_n 0, 1) := by decide +kernel
theorem dX10_find_22 : decode cX10_find 22 = .ok (.getfield 46, 3) := by decide +kernel
theorem dX10_find_25 : decode cX10_find 25 = .ok (.if_icmp .ge 48, 3) := by decide +kernel
theorem dX10_find_28 : decode cX10_find 28 = .ok (.iload_n 3, 1) := by decide +kernel
theorem dX10_find_29 : decode cX10_find 29 = .ok (.iload_n 2, 1) := by decide +kernel
theorem dX10_find_30 : decode cX10_find 30 = .ok (.bipush 10, 2) := by decide +kernel
theorem dX10_find_32 : decode cX10_find 32 = .ok (.irem, 1) := by decide +kernel
theorem dX10_find_33 : decode cX10_find 33 = .ok (.isub, 1) := by decide +kernel
theorem dX10_find_34 : decode cX10_find 34 = .ok (.istore_n 3, 1) := by decide +kernel
theorem dX10_find_35 : decode cX10_find 35 = .ok (.iload_n 2, 1) := by decide +kernel
theorem dX10_find_36 : decode cX10_find 36 = .ok (.bipush 10, 2) := by decide +kernel
theorem dX10_find_38 : decode cX10_find 38 = .ok (.idiv, 1) := by decide +kernel
theorem dX10_find_39 : decode cX10_find 39 = .ok (.istore_n 2, 1) := by decide +kernel
theorem dX10_find_40 : decode cX10_find 40 = .ok (.iload_n 3, 1) := by decide +kernel
theorem dX10_find_41 : decode cX10_find 41 = .ok (.ifCond .ge 5, 3) := by decide +kernel
theorem dX10_find_44 : decode cX10_find 44 = .ok (.iconst (-1), 1) := by decide +kernel
theorem dX10_find_45 : decode cX10_find 45 = .ok (.ireturn, 1) := by decide +kernel
theorem dX10_find_46 : decode cX10_find 46 = .ok (.iload 4, 2) := by decide +kernel
theorem dX10_find_48 : decode cX10_find 48 = .ok (.getstatic 81, 3) := by decide +kernel
theorem dX10_find_51 : decode cX10_find 51 = .ok (.bipush 6, 2) := by decide +kernel
theorem dX10_find_53 : decode cX10_find 53 = .ok (.aload_n 0, 1) := by decide +kernel
theorem dX10_find_54 : decode cX10_find 54 = .ok (.getfield 46, 3) := by decide +kernel
theorem dX10_find_57 : decode cX10_find 57 = .ok (.iload 5, 2) := by decide +kernel
theorem dX10_find_59 : decode cX10_find 59 = .ok (.isub, 1) := by decide +kernel
theorem dX10_find_60 : decode cX10_find 60 = .ok (.imul, 1) := by decide +kernel
theorem dX10_find_61 : decode cX10_find 61 = .ok (.iload_n 3, 1) := by decide +kernel
theorem dX10_find_62 : decode cX10_find 62 = .ok (.iadd, 1) := by decide +kernel
theorem dX10_find_63 : decode cX10_find 63 = .ok (.iaload, 1) := by decide +kernel
theorem dX10_find_64 : decode cX10_find 64 = .ok (.iadd, 1) := by decide +kernel
theorem dX10_find_65 : decode cX10_find 65 = .ok (.istore 4, 2) := by decide +kernel
theorem dX10_find_67 : decode cX10_find 67 = .ok (.iinc 5 1, 3) := by decide +kernel
theorem dX10_find_70 : decode cX10_find 70 = .ok (.goto (-51), 3) := by decide +kernel
theorem dX10_find_73 : decode cX10_find 73 = .ok (.iload_n 2, 1) := by decide +kernel
theorem dX10_find_74 : decode cX10_find 74 = .ok (.ifCond .ne 17, 3) := by decide +kernel
theorem dX10_find_77 : decode cX10_find 77 = .ok (.iload 4, 2) := by decide +kernel
theorem dX10_find_79 : decode cX10_find 79 = .ok (.aload_n 0, 1) := by decide +kernel
theorem dX10_find_80 : decode cX10_find 80 = .ok (.getfield 49, 3) := by decide +kernel
theorem dX10_find_83 : decode cX10_find 83 = .ok (.if_icmp .ge 8, 3) := by decide +kernel
theorem dX10_find_86 : decode cX10_find 86 = .ok (.iload 4, 2) := by decide +kernel
theorem dX10_find_88 : decode cX10_find 88 = .ok (.goto 4, 3) := by decide +kernel
theorem dX10_find_91 : decode cX10_find 91 = .ok (.iconst (-1), 1) := by decide +kernel
theorem dX10_find_92 : decode cX10_find 92 = .ok (.ireturn, 1) := by decide +kernel
set_option maxHeartbeats 4000000 in
set_option maxRecDepth 100000 in
theorem cn_X10_find {l : Launch} {cA : Nat → ClassId} {ad : Nat → Nat} {D : va_G} {E : Nat → Nat} {A : Nat → Prop} {x1 : Int32} {s0 sr : SS} {rr : Int32} (hf : f_X10_find x1 s0 = some (rr, sr)) : zCon Ox Nx cA ad D E l yX10_find cX10_find 6 (some .int) 0 A [.ref (ad 6), .int x1] s0 (some (.int rr)) sr := by
  refine zstart (own := RX10) hOx (by decide) rfl (Nat.le_of_ble_eq_true rfl) ?_
  intro p e s m args below meth c X hP ls hl
  have hx := X.1
  have hb := X.2.1
  have hl : lv_has ls 6 [(0, .ref (ad 6)), (1, .int x1)] := hl
  have hS : va_S A s.heap s.heap [] := va_S.rf
  have hc_19 : ∀ (n19 : Nat) (x2 : Int32) (x3 : Int32) (x4 : Int32) (x5 : Int32) (s1 : SS) (H : Heap) (locs : List Loc) (ls : Array Slot), lv_has ls 6 [(0, .ref (ad 6)), (2, .int x2), (3, .int x3), (4, .int x4), (5, .int x5)] → va_P D ZCL (zw Ox Nx cA ad s1) H → va_S A s.heap H locs → f_X10_find_c19 n19 x2 x3 x4 x5 s1 = some (rr, sr) → W p l e (zrm 0) s m args below meth c H locs 0 0 (MQ below (zQc Ox Nx cA ad D A (some (.int rr)) sr) args s 0 0 A) (F0 m 19 ls []) := by
    intro n19
    induction n19 with
    | zero =>
      intro x2 x3 x4 x5 s1 H locs ls hl hP hS hf
      rw [f_X10_find_c19] at hf
      cases hf
    | succ n19 ih19 =>
      intro x2 x3 x4 x5 s1 H locs ls hl hP hS hf
      rw [f_X10_find_c19] at hf
      refine lv_iload hx hb dX10_find_19 (lv_at hl 4 rfl) ?_
      refine lv_aload_n hx hb dX10_find_21 rfl (lv_at hl 0 rfl) ?_
      refine gf_X10_46 X hP (k := 6) rfl dX10_find_22 ?_
      refine zicmp_ge (tgt := 73) hx hb dX10_find_25 (by decide) hf (fun hf => ?_) (fun hf => ?_)
      · refine lv_iload_n hx hb dX10_find_73 rfl (lv_at hl 1 rfl) ?_
        refine zif_ne (tgt := 91) hx hb dX10_find_74 (by decide) hf (fun hf => ?_) (fun hf => ?_)
        · refine lv_iconst (v := (-1)) hx hb dX10_find_91 (by decide) ?_
          exact zret_i X hP hS hf rfl dX10_find_92
        · refine lv_iload hx hb dX10_find_77 (lv_at hl 3 rfl) ?_
          refine lv_aload_n hx hb dX10_find_79 rfl (lv_at hl 0 rfl) ?_
          refine gf_X10_49 X hP (k := 6) rfl dX10_find_80 ?_
          refine zicmp_ge (tgt := 91) hx hb dX10_find_83 (by decide) hf (fun hf => ?_) (fun hf => ?_)
          · refine lv_iconst (v := (-1)) hx hb dX10_find_91 (by decide) ?_
            exact zret_i X hP hS hf rfl dX10_find_92
          · refine lv_iload hx hb dX10_find_86 (lv_at hl 3 rfl) ?_
            refine lv_goto (tgt := 92) hx hb dX10_find_88 (by decide) ?_
            exact zret_i X hP hS hf rfl dX10_find_92
      · refine lv_iload_n hx hb dX10_find_28 rfl (lv_at hl 2 rfl) ?_
        refine lv_iload_n hx hb dX10_find_29 rfl (lv_at hl 1 rfl) ?_
        refine lv_bipush (v := 10) hx hb dX10_find_30 (by decide) ?_
        refine lv_irem hx hb dX10_find_32 (by decide) ?_
        refine lv_isub hx hb dX10_find_33 ?_
        refine lv_istore_n (lv' := [(3, .int (x3 - (x2 - x2 / (10 : Int32) * (10 : Int32)))), (0, .ref (ad 6)), (2, .int x2), (4, .int x4), (5, .int x5)]) hx hb dX10_find_34 rfl hl (by decide) rfl (fun ls hl => ?_)
        refine lv_iload_n hx hb dX10_find_35 rfl (lv_at hl 2 rfl) ?_
        refine lv_bipush (v := 10) hx hb dX10_find_36 (by decide) ?_
        refine lv_idiv hx hb dX10_find_38 (by decide) ?_
        refine lv_istore_n (lv' := [(2, .int (x2 / (10 : Int32))), (3, .int (x3 - (x2 - x2 / (10 : Int32) * (10 : Int32)))), (0, .ref (ad 6)), (4, .int x4), (5, .int x5)]) hx hb dX10_find_39 rfl hl (by decide) rfl (fun ls hl => ?_)
        refine lv_iload_n hx hb dX10_find_40 rfl (lv_at hl 1 rfl) ?_
        refine zif_ge (tgt := 46) hx hb dX10_find_41 (by decide) hf (fun hf => ?_) (fun hf => ?_)
        · refine lv_iload hx hb dX10_find_46 (lv_at hl 3 rfl) ?_
          refine zgsN X hS (i := 1) rfl nf_X10_81 dX10_find_48 ?_
          refine lv_bipush (v := 6) hx hb dX10_find_51 (by decide) ?_
          refine lv_aload_n hx hb dX10_find_53 rfl (lv_at hl 2 rfl) ?_
          refine gf_X10_46 X hP (k := 6) rfl dX10_find_54 ?_
          refine lv_iload hx hb dX10_find_57 (lv_at hl 4 rfl) ?_
          refine lv_isub hx hb dX10_find_59 ?_
          refine lv_imul hx hb dX10_find_60 ?_
          refine lv_iload_n hx hb dX10_find_61 rfl (lv_at hl 1 rfl) ?_
          refine lv_iadd hx hb dX10_find_62 ?_
          obtain ⟨g1, hf⟩ := zgd hf
          refine zst X hS (k := 1) (n := 42) rfl rfl g1 dX10_find_63 ?_
          refine lv_iadd hx hb dX10_find_64 ?_
          refine lv_istore (lv' := [(4, .int (x4 + (ztab 1 ((((6 : Int32) * ((s1.1 6 1) - x5)) + (x3 - (x2 - x2 / (10 : Int32) * (10 : Int32)))))))), (2, .int (x2 / (10 : Int32))), (3, .int (x3 - (x2 - x2 / (10 : Int32) * (10 : Int32)))), (0, .ref (ad 6)), (5, .int x5)]) hx hb dX10_find_65 hl (by decide) rfl (fun ls hl => ?_)
          refine lv_iinc (v := (x5 + 1)) (lv' := [(5, .int (x5 + 1)), (4, .int (x4 + (ztab 1 ((((6 : Int32) * ((s1.1 6 1) - x5)) + (x3 - (x2 - x2 / (10 : Int32) * (10 : Int32)))))))), (2, .int (x2 / (10 : Int32))), (3, .int (x3 - (x2 - x2 / (10 : Int32) * (10 : Int32)))), (0, .ref (ad 6))]) hx hb dX10_find_67 hl (k := 4) rfl rfl (by decide) rfl (fun ls hl => ?_)
          refine lv_goto (tgt := 19) hx hb dX10_find_70 (by decide) ?_
          exact ih19 (x2 / (10 : Int32)) (x3 - (x2 - x2 / (10 : Int32) * (10 : Int32))) (x4 + (ztab 1 ((((6 : Int32) * ((s1.1 6 1) - x5)) + (x3 - (x2 - x2 / (10 : Int32) * (10 : Int32))))))) (x5 + 1) s1 _ _ _ (lv_sub hl [4, 2, 3, 1, 0] rfl) hP hS hf
        · refine lv_iconst (v := (-1)) hx hb dX10_find_44 (by decide) ?_
          exact zret_i X hP hS hf rfl dX10_find_45
  rw [f_X10_find] at hf
  refine lv_iload_n hx hb dX10_find_0 rfl (lv_at hl 1 rfl) ?_
  refine zif_ge (tgt := 6) hx hb dX10_find_1 (by decide) hf (fun hf => ?_) (fun hf => ?_)
  · refine lv_iload_n hx hb dX10_find_6 rfl (lv_at hl 1 rfl) ?_
    refine lv_istore_n (lv' := [(2, .int x1), (0, .ref (ad 6)), (1, .int x1)]) hx hb dX10_find_7 rfl hl (by decide) rfl (fun ls hl => ?_)
    refine lv_aload_n hx hb dX10_find_8 rfl (lv_at hl 1 rfl) ?_
    refine gf_X10_39 X hP (k := 6) rfl dX10_find_9 ?_
    refine lv_istore_n (lv' := [(3, .int (s0.1 6 0)), (2, .int x1), (0, .ref (ad 6)), (1, .int x1)]) hx hb dX10_find_12 rfl hl (by decide) rfl (fun ls hl => ?_)
    refine lv_iconst (v := 0) hx hb dX10_find_13 (by decide) ?_
    refine lv_istore (lv' := [(4, .int 0), (3, .int (s0.1 6 0)), (2, .int x1), (0, .ref (ad 6)), (1, .int x1)]) hx hb dX10_find_14 hl (by decide) rfl (fun ls hl => ?_)
    refine lv_iconst (v := 0) hx hb dX10_find_16 (by decide) ?_
    refine lv_istore (lv' := [(5, .int 0), (4, .int 0), (3, .int (s0.1 6 0)), (2, .int x1), (0, .ref (ad 6)), (1, .int x1)]) hx hb dX10_find_17 hl (by decide) rfl (fun ls hl => ?_)
    exact hc_19 ZF x1 (s0.1 6 0) 0 0 s0 _ _ _ (lv_sub hl [4, 3, 2, 1, 0] rfl) hP hS hf
  · refine lv_iconst (v := (-1)) hx hb dX10_find_4 (by decide) ?_
    exact zret_i X hP hS hf rfl dX10_find_5
theorem dX8_putAtLetter_0 : decode cX8_putAtLetter 0 = .ok (.iload_n 2, 1) := by decide +kernel
theorem dX8_putAtLetter_1 : decode cX8_putAtLetter 1 = .ok (.ifCond .lt 14, 3) := by decide +kernel
theorem dX8_putAtLetter_4 : decode cX8_putAtLetter 4 = .ok (.iload_n 2, 1) := by decide +kernel
theorem dX8_putAtLetter_5 : decode cX8_putAtLetter 5 = .ok (.aload_n 0, 1) := by decide +kernel
theorem dX8_putAtLetter_6 : decode cX8_putAtLetter 6 = .ok (.getfield 10, 3) := by decide +kernel
theorem dX8_putAtLetter_9 : decode cX8_putAtLetter 9 = .ok (.getfield 46, 3) := by decide +kernel
theorem dX8_putAtLetter_12 : decode cX8_putAtLetter 12 = .ok (.if_icmp .lt 7, 3) := by decide +kernel
theorem dX8_putAtLetter_15 : decode cX8_putAtLetter 15 = .ok (.iconst (-1), 1) := by decide +kernel
theorem dX8_putAtLetter_16 : decode cX8_putAtLetter 16 = .ok (.goto 15, 3) := by decide +kernel
theorem dX8_putAtLetter_19 : decode cX8_putAtLetter 19 = .ok (.aload_n 0, 1) := by decide +kernel
theorem dX8_putAtLetter_20 : decode cX8_putAtLetter 20 = .ok (.getfield 10, 3) := by decide +kernel
theorem dX8_putAtLetter_23 : decode cX8_putAtLetter 23 = .ok (.getstatic 49, 3) := by decide +kernel
theorem dX8_putAtLetter_26 : decode cX8_putAtLetter 26 = .ok (.iload_n 2, 1) := by decide +kernel
theorem dX8_putAtLetter_27 : decode cX8_putAtLetter 27 = .ok (.iaload, 1) := by decide +kernel
theorem dX8_putAtLetter_28 : decode cX8_putAtLetter 28 = .ok (.invokevirtual 54, 3) := by decide +kernel
theorem dX8_putAtLetter_31 : decode cX8_putAtLetter 31 = .ok (.istore 5, 2) := by decide +kernel
theorem dX8_putAtLetter_33 : decode cX8_putAtLetter 33 = .ok (.iload 5, 2) := by decide +kernel
theorem dX8_putAtLetter_35 : decode cX8_putAtLetter 35 = .ok (.ifCond .lt 8, 3) := by decide +kernel
theorem dX8_putAtLetter_38 : decode cX8_putAtLetter 38 = .ok (.aload_n 1, 1) := by decide +kernel
theorem dX8_putAtLetter_39 : decode cX8_putAtLetter 39 = .ok (.iload 5, 2) := by decide +kernel
theorem dX8_putAtLetter_41 : decode cX8_putAtLetter 41 = .ok (.lload_n 3, 1) := by decide +kernel
theorem dX8_putAtLetter_42 : decode cX8_putAtLetter 42 = .ok (.lastore, 1) := by decide +kernel
theorem dX8_putAtLetter_43 : decode cX8_putAtLetter 43 = .ok (.return_, 1) := by decide +kernel
set_option maxHeartbeats 4000000 in
set_option maxRecDepth 100000 in
theorem cn_X8_putAtLetter {l : Launch} {cA : Nat → ClassId} {ad : Nat → Nat} {D : va_G} {E : Nat → Nat} {A : Nat → Prop} {k1 : Nat} {x2 : Int32} {x3 : Int64} {s0 sr : SS} {rr : Unit} (hf : f_X8_putAtLetter k1 x2 x3 s0 = some (rr, sr)) : zCon Ox Nx cA ad D E l yX8_putAtLetter cX8_putAtLetter 6 none 1 A [.ref (ad 5), .ref (ad k1), .int x2, .long x3] s0 none sr := by
  refine zstart (own := RX8) hOx (by decide) rfl (Nat.le_of_ble_eq_true rfl) ?_
  intro p e s m args below meth c X hP ls hl
  have hx := X.1
  have hb := X.2.1
  have hl : lv_has ls 6 [(0, .ref (ad 5)), (1, .ref (ad k1)), (2, .int x2), (3, .long x3)] := hl
  have hS : va_S A s.heap s.heap [] := va_S.rf
  have hc_31 : ∀ (k1 : Nat) (x3 : Int64) (t0 : Int32) (s1 : SS) (H : Heap) (locs : List Loc) (ls : Array Slot), lv_has ls 6 [(1, .ref (ad k1)), (3, .long x3)] → va_P D ZCL (zw Ox Nx cA ad s1) H → va_S A s.heap H locs → f_X8_putAtLetter_c31 k1 x3 t0 s1 = some (rr, sr) → W p l e (zrm 1) s m args below meth c H locs 0 0 (MQ below (zQc Ox Nx cA ad D A none sr) args s 0 0 A) (F0 m 31 ls [.int t0]) := by
    intro k1 x3 t0 s1 H locs ls hl hP hS hf
    rw [f_X8_putAtLetter_c31] at hf
    refine lv_istore (lv' := [(5, .int t0), (1, .ref (ad k1)), (3, .long x3)]) hx hb dX8_putAtLetter_31 hl (by decide) rfl (fun ls hl => ?_)
    refine lv_iload hx hb dX8_putAtLetter_33 (lv_at hl 0 rfl) ?_
    refine zif_lt (tgt := 43) hx hb dX8_putAtLetter_35 (by decide) hf (fun hf => ?_) (fun hf => ?_)
    · exact zret_v X hP hS hf dX8_putAtLetter_43
    · refine lv_aload_n hx hb dX8_putAtLetter_38 rfl (lv_at hl 1 rfl) ?_
      refine lv_iload hx hb dX8_putAtLetter_39 (lv_at hl 0 rfl) ?_
      refine lv_lload_n hx hb dX8_putAtLetter_41 rfl (lv_at hl 2 rfl) ?_
      obtain ⟨g1, hf⟩ := zgd hf
      obtain ⟨n2, rn2, on2, in2⟩ := zok_of g1
      refine zast_l X hP hS (k := k1) on2 in2 dX8_putAtLetter_42 (fun H locs hP hS => ?_)
      exact zret_v X hP hS hf dX8_putAtLetter_43
  have hc_15 : ∀ (k1 : Nat) (x3 : Int64) (s1 : SS) (H : Heap) (locs : List Loc) (ls : Array Slot), lv_has ls 6 [(1, .ref (ad k1)), (3, .long x3)] → va_P D ZCL (zw Ox Nx cA ad s1) H → va_S A s.heap H locs → f_X8_putAtLetter_c15 k1 x3 s1 = some (rr, sr) → W p l e (zrm 1) s m args below meth c H locs 0 0 (MQ below (zQc Ox Nx cA ad D A none sr) args s 0 0 A) (F0 m 15 ls []) := by
    intro k1 x3 s1 H locs ls hl hP hS hf
    rw [f_X8_putAtLetter_c15] at hf
    refine lv_iconst (v := (-1)) hx hb dX8_putAtLetter_15 (by decide) ?_
    refine lv_goto (tgt := 31) hx hb dX8_putAtLetter_16 (by decide) ?_
    exact hc_31 k1 x3 (-1) s1 _ _ _ (lv_sub hl [0, 1] rfl) hP hS hf
  rw [f_X8_putAtLetter] at hf
  refine lv_iload_n hx hb dX8_putAtLetter_0 rfl (lv_at hl 2 rfl) ?_
  refine zif_lt (tgt := 15) hx hb dX8_putAtLetter_1 (by decide) hf (fun hf => ?_) (fun hf => ?_)
  · exact hc_15 k1 x3 s0 _ _ _ (lv_sub hl [1, 3] rfl) hP hS hf
  · refine lv_iload_n hx hb dX8_putAtLetter_4 rfl (lv_at hl 2 rfl) ?_
    refine lv_aload_n hx hb dX8_putAtLetter_5 rfl (lv_at hl 0 rfl) ?_
    refine gf_X8_10 X hP (k := 5) (q := 6) rfl dX8_putAtLetter_6 rfl ?_
    refine gf_X8_46 X hP (k := 6) rfl dX8_putAtLetter_9 ?_
    refine zicmp_lt (tgt := 19) hx hb dX8_putAtLetter_12 (by decide) hf (fun hf => ?_) (fun hf => ?_)
    · refine lv_aload_n hx hb dX8_putAtLetter_19 rfl (lv_at hl 0 rfl) ?_
      refine gf_X8_10 X hP (k := 5) (q := 6) rfl dX8_putAtLetter_20 rfl ?_
      refine zgsN X hS (i := 0) rfl nf_X8_49 dX8_putAtLetter_23 ?_
      refine lv_iload_n hx hb dX8_putAtLetter_26 rfl (lv_at hl 2 rfl) ?_
      obtain ⟨g3, hf⟩ := zgd hf
      refine zst X hS (k := 0) (n := 6) rfl rfl g3 dX8_putAtLetter_27 ?_
      obtain ⟨r4, s5, h6, hf⟩ := zbd_some hf
      refine zcallV X hP hS hl.1 (k := 6) (As := [.int (ztab 0 x2)]) (rest := []) (cn_X10_find h6) cw_X10_find zp_10 rfl (by decide) rfl ml_X8_54 (by decide) rfl rfl (Nat.le_of_ble_eq_true rfl) dX8_putAtLetter_28 (fun H locs hP hS => ?_)
      exact hc_31 k1 x3 r4 s5 _ _ _ (lv_sub hl [1, 3] rfl) hP hS hf
    · exact hc_15 k1 x3 s0 _ _ _ (lv_sub hl [1, 3] rfl) hP hS hf
theorem dX8_takeNumbers_0 : decode cX8_takeNumbers 0 = .ok (.iconst 0, 1) := by decide +kernel
theorem dX8_takeNumbers_1 : decode cX8_takeNumbers 1 = .ok (.istore_n 3, 1) := by decide +kernel
theorem dX8_takeNumbers_2 : decode cX8_takeNumbers 2 = .ok (.iload_n 3, 1) := by decide +kernel
theorem dX8_takeNumbers_3 : decode cX8_takeNumbers 3 = .ok (.aload_n 0, 1) := by decide +kernel
theorem dX8_takeNumbers_4 : decode cX8_takeNumbers 4 = .ok (.getfield 10, 3) := by decide +kernel
theorem dX8_takeNumbers_7 : decode cX8_takeNumbers 7 = .ok (.getfield 42, 3) := by decide +kernel
theorem dX8_takeNumbers_10 : decode cX8_takeNumbers 10 = .ok (.if_icmp .ge 21, 3) := by decide +kernel
theorem dX8_takeNumbers_13 : decode cX8_takeNumbers 13 = .ok (.aload_n 2, 1) := by decide +kernel
theorem dX8_takeNumbers_14 : decode cX8_takeNumbers 14 = .ok (.iload_n 3, 1) := by decide +kernel
theorem dX8_takeNumbers_15 : decode cX8_takeNumbers 15 = .ok (.aload_n 1, 1) := by decide +kernel
theorem dX8_takeNumbers_16 : decode cX8_takeNumbers 16 = .ok (.aload_n 0, 1) := by decide +kernel
theorem dX8_takeNumbers_17 : decode cX8_takeNumbers 17 = .ok (.getfield 10, 3) := by decide +kernel
theorem dX8_takeNumbers_20 : decode cX8_takeNumbers 20 = .ok (.iload_n 3, 1) := by decide +kernel
theorem dX8_takeNumbers_21 : decode cX8_takeNumbers 21 = .ok (.invokevirtual 58, 3) := by decide +kernel
theorem dX8_takeNumbers_24 : decode cX8_takeNumbers 24 = .ok (.lastore, 1) := by decide +kernel
theorem dX8_takeNumbers_25 : decode cX8_takeNumbers 25 = .ok (.iinc 3 1, 3) := by decide +kernel
theorem dX8_takeNumbers_28 : decode cX8_takeNumbers 28 = .ok (.goto (-26), 3) := by decide +kernel
theorem dX8_takeNumbers_31 : decode cX8_takeNumbers 31 = .ok (.return_, 1) := by decide +kernel
set_option maxHeartbeats 4000000 in
set_option maxRecDepth 100000 in
theorem cn_X8_takeNumbers {l : Launch} {cA : Nat → ClassId} {ad : Nat → Nat} {D : va_G} {E : Nat → Nat} {A : Nat → Prop} {k1 : Nat} {k2 : Nat} {s0 sr : SS} {rr : Unit} (hf : f_X8_takeNumbers k1 k2 s0 = some (rr, sr)) : zCon Ox Nx cA ad D E l yX8_takeNumbers cX8_takeNumbers 4 none 1 A [.ref (ad 5), .ref (ad k1), .ref (ad k2)] s0 none sr := by
  refine zstart (own := RX8) hOx (by decide) rfl (Nat.le_of_ble_eq_true rfl) ?_
  intro p e s m args below meth c X hP ls hl
  have hx := X.1
  have hb := X.2.1
  have hl : lv_has ls 4 [(0, .ref (ad 5)), (1, .ref (ad k1)), (2, .ref (ad k2))] := hl
  have hS : va_S A s.heap s.heap [] := va_S.rf
  have hc_2 : ∀ (n2 : Nat) (k1 : Nat) (k2 : Nat) (x3 : Int32) (s1 : SS) (H : Heap) (locs : List Loc) (ls : Array Slot), lv_has ls 4 [(0, .ref (ad 5)), (1, .ref (ad k1)), (2, .ref (ad k2)), (3, .int x3)] → va_P D ZCL (zw Ox Nx cA ad s1) H → va_S A s.heap H locs → f_X8_takeNumbers_c2 n2 k1 k2 x3 s1 = some (rr, sr) → W p l e (zrm 1) s m args below meth c H locs 0 0 (MQ below (zQc Ox Nx cA ad D A none sr) args s 0 0 A) (F0 m 2 ls []) := by
    intro n2
    induction n2 with
    | zero =>
      intro k1 k2 x3 s1 H locs ls hl hP hS hf
      rw [f_X8_takeNumbers_c2] at hf
      cases hf
    | succ n2 ih2 =>
      intro k1 k2 x3 s1 H locs ls hl hP hS hf
      rw [f_X8_takeNumbers_c2] at hf
      obtain ⟨gp1, hf⟩ := zgd hf
      refine lv_iload_n hx hb dX8_takeNumbers_2 rfl (lv_at hl 3 rfl) ?_
      refine lv_aload_n hx hb dX8_takeNumbers_3 rfl (lv_at hl 0 rfl) ?_
      refine gf_X8_10 X hP (k := 5) (q := 6) rfl dX8_takeNumbers_4 rfl ?_
      refine gf_X8_42 X hP (k := 6) rfl dX8_takeNumbers_7 ?_
      refine zicmp_ge (tgt := 31) hx hb dX8_takeNumbers_10 (by decide) hf (fun hf => ?_) (fun hf => ?_)
      · exact zret_v X hP hS hf dX8_takeNumbers_31
      · refine lv_aload_n hx hb dX8_takeNumbers_13 rfl (lv_at hl 2 rfl) ?_
        refine lv_iload_n hx hb dX8_takeNumbers_14 rfl (lv_at hl 3 rfl) ?_
        refine lv_aload_n hx hb dX8_takeNumbers_15 rfl (lv_at hl 1 rfl) ?_
        refine lv_aload_n hx hb dX8_takeNumbers_16 rfl (lv_at hl 0 rfl) ?_
        refine gf_X8_10 X hP (k := 5) (q := 6) rfl dX8_takeNumbers_17 rfl ?_
        refine lv_iload_n hx hb dX8_takeNumbers_20 rfl (lv_at hl 3 rfl) ?_
        obtain ⟨r1, s2, h3, hf⟩ := zbd_some hf
        refine zcallV X hP hS hl.1 (k := k1) (As := [.ref (ad 6), .int x3]) (rest := [.int x3, .ref (ad k2)]) (cn_X4_numberAt h3) cw_X4_numberAt zp_4 gp1 (by decide) rfl ml_X8_58 (by decide) rfl rfl (Nat.le_of_ble_eq_true rfl) dX8_takeNumbers_21 (fun H locs hP hS => ?_)
        obtain ⟨g4, hf⟩ := zgd hf
        obtain ⟨n5, rn5, on5, in5⟩ := zok_of g4
        refine zast_l X hP hS (k := k2) on5 in5 dX8_takeNumbers_24 (fun H locs hP hS => ?_)
        refine lv_iinc (v := (x3 + 1)) (lv' := [(3, .int (x3 + 1)), (0, .ref (ad 5)), (1, .ref (ad k1)), (2, .ref (ad k2))]) hx hb dX8_takeNumbers_25 hl (k := 3) rfl rfl (by decide) rfl (fun ls hl => ?_)
        refine lv_goto (tgt := 2) hx hb dX8_takeNumbers_28 (by decide) ?_
        exact ih2 k1 k2 (x3 + 1) (zSL s2 k2 (x3).toNatClampNeg r1) _ _ _ (lv_sub hl [1, 2, 3, 0] rfl) hP hS hf
  rw [f_X8_takeNumbers] at hf
  obtain ⟨gp1, hf⟩ := zgd hf
  refine lv_iconst (v := 0) hx hb dX8_takeNumbers_0 (by decide) ?_
  refine lv_istore_n (lv' := [(3, .int 0), (0, .ref (ad 5)), (1, .ref (ad k1)), (2, .ref (ad k2))]) hx hb dX8_takeNumbers_1 rfl hl (by decide) rfl (fun ls hl => ?_)
  exact hc_2 ZF k1 k2 0 s0 _ _ _ (lv_sub hl [1, 2, 3, 0] rfl) hP hS hf
theorem dX8_addTimes_0 : decode cX8_addTimes 0 = .ok (.iconst 0, 1) := by decide +kernel
theorem dX8_addTimes_1 : decode cX8_addTimes 1 = .ok (.istore 5, 2) := by decide +kernel
theorem dX8_addTimes_3 : decode cX8_addTimes 3 = .ok (.iload 5, 2) := by decide +kernel
theorem dX8_addTimes_5 : decode cX8_addTimes 5 = .ok (.aload_n 0, 1) := by decide +kernel
theorem dX8_addTimes_6 : decode cX8_addTimes 6 = .ok (.getfield 10, 3) := by decide +kernel
theorem dX8_addTimes_9 : decode cX8_addTimes 9 = .ok (.getfield 42, 3) := by decide +kernel
theorem dX8_addTimes_12 : decode cX8_addTimes 12 = .ok (.if_icmp .ge 22, 3) := by decide +kernel
theorem dX8_addTimes_15 : decode cX8_addTimes 15 = .ok (.aload_n 1, 1) := by decide +kernel
theorem dX8_addTimes_16 : decode cX8_addTimes 16 = .ok (.iload 5, 2) := by decide +kernel
theorem dX8_addTimes_18 : decode cX8_addTimes 18 = .ok (.dup2, 1) := by decide +kernel
theorem dX8_addTimes_19 : decode cX8_addTimes 19 = .ok (.laload, 1) := by decide +kernel
theorem dX8_addTimes_20 : decode cX8_addTimes 20 = .ok (.aload_n 2, 1) := by decide +kernel
theorem dX8_addTimes_21 : decode cX8_addTimes 21 = .ok (.iload 5, 2) := by decide +kernel
theorem dX8_addTimes_23 : decode cX8_addTimes 23 = .ok (.laload, 1) := by decide +kernel
theorem dX8_addTimes_24 : decode cX8_addTimes 24 = .ok (.lload_n 3, 1) := by decide +kernel
theorem dX8_addTimes_25 : decode cX8_addTimes 25 = .ok (.lmul, 1) := by decide +kernel
theorem dX8_addTimes_26 : decode cX8_addTimes 26 = .ok (.ladd, 1) := by decide +kernel
theorem dX8_addTimes_27 : decode cX8_addTimes 27 = .ok (.lastore, 1) := by decide +kernel
theorem dX8_addTimes_28 : decode cX8_addTimes 28 = .ok (.iinc 5 1, 3) := by decide +kernel
theorem dX8_addTimes_31 : decode cX8_addTimes 31 = .ok (.goto (-28), 3) := by decide +kernel
theorem dX8_addTimes_34 : decode cX8_addTimes 34 = .ok (.return_, 1) := by decide +kernel
set_option maxHeartbeats 4000000 in
set_option maxRecDepth 100000 in
theorem cn_X8_addTimes {l : Launch} {cA : Nat → ClassId} {ad : Nat → Nat} {D : va_G} {E : Nat → Nat} {A : Nat → Prop} {k1 : Nat} {k2 : Nat} {x3 : Int64} {s0 sr : SS} {rr : Unit} (hf : f_X8_addTimes k1 k2 x3 s0 = some (rr, sr)) : zCon Ox Nx cA ad D E l yX8_addTimes cX8_addTimes 6 none 0 A [.ref (ad 5), .ref (ad k1), .ref (ad k2), .long x3] s0 none sr := by
  refine zstart (own := RX8) hOx (by decide) rfl (Nat.le_of_ble_eq_true rfl) ?_
  intro p e s m args below meth c X hP ls hl
  have hx := X.1
  have hb := X.2.1
  have hl : lv_has ls 6 [(0, .ref (ad 5)), (1, .ref (ad k1)), (2, .ref (ad k2)), (3, .long x3)] := hl
  have hS : va_S A s.heap s.heap [] := va_S.rf
  have hc_3 : ∀ (n3 : Nat) (k1 : Nat) (k2 : Nat) (x3 : Int64) (x5 : Int32) (s1 : SS) (H : Heap) (locs : List Loc) (ls : Array Slot), lv_has ls 6 [(0, .ref (ad 5)), (1, .ref (ad k1)), (2, .ref (ad k2)), (3, .long x3), (5, .int x5)] → va_P D ZCL (zw Ox Nx cA ad s1) H → va_S A s.heap H locs → f_X8_addTimes_c3 n3 k1 k2 x3 x5 s1 = some (rr, sr) → W p l e (zrm 0) s m args below meth c H locs 0 0 (MQ below (zQc Ox Nx cA ad D A none sr) args s 0 0 A) (F0 m 3 ls []) := by
    intro n3
    induction n3 with
    | zero =>
      intro k1 k2 x3 x5 s1 H locs ls hl hP hS hf
      rw [f_X8_addTimes_c3] at hf
      cases hf
    | succ n3 ih3 =>
      intro k1 k2 x3 x5 s1 H locs ls hl hP hS hf
      rw [f_X8_addTimes_c3] at hf
      refine lv_iload hx hb dX8_addTimes_3 (lv_at hl 4 rfl) ?_
      refine lv_aload_n hx hb dX8_addTimes_5 rfl (lv_at hl 0 rfl) ?_
      refine gf_X8_10 X hP (k := 5) (q := 6) rfl dX8_addTimes_6 rfl ?_
      refine gf_X8_42 X hP (k := 6) rfl dX8_addTimes_9 ?_
      refine zicmp_ge (tgt := 34) hx hb dX8_addTimes_12 (by decide) hf (fun hf => ?_) (fun hf => ?_)
      · exact zret_v X hP hS hf dX8_addTimes_34
      · refine lv_aload_n hx hb dX8_addTimes_15 rfl (lv_at hl 1 rfl) ?_
        refine lv_iload hx hb dX8_addTimes_16 (lv_at hl 4 rfl) ?_
        refine lv_dup2_11 hx hb dX8_addTimes_18 rfl rfl ?_
        obtain ⟨g1, hf⟩ := zgd hf
        obtain ⟨n6, rn6, on6, in6⟩ := zok_of g1
        refine zald_l X hP (k := k1) on6 in6 dX8_addTimes_19 ?_
        refine lv_aload_n hx hb dX8_addTimes_20 rfl (lv_at hl 2 rfl) ?_
        refine lv_iload hx hb dX8_addTimes_21 (lv_at hl 4 rfl) ?_
        obtain ⟨g2, hf⟩ := zgd hf
        obtain ⟨n5, rn5, on5, in5⟩ := zok_of g2
        refine zald_l X hP (k := k2) on5 in5 dX8_addTimes_23 ?_
        refine lv_lload_n hx hb dX8_addTimes_24 rfl (lv_at hl 3 rfl) ?_
        refine lv_lmul hx hb dX8_addTimes_25 ?_
        refine lv_ladd hx hb dX8_addTimes_26 ?_
        obtain ⟨g3, hf⟩ := zgd hf
        obtain ⟨n4, rn4, on4, in4⟩ := zok_of g3
        refine zast_l X hP hS (k := k1) on4 in4 dX8_addTimes_27 (fun H locs hP hS => ?_)
        refine lv_iinc (v := (x5 + 1)) (lv' := [(5, .int (x5 + 1)), (0, .ref (ad 5)), (1, .ref (ad k1)), (2, .ref (ad k2)), (3, .long x3)]) hx hb dX8_addTimes_28 hl (k := 4) rfl rfl (by decide) rfl (fun ls hl => ?_)
        refine lv_goto (tgt := 3) hx hb dX8_addTimes_31 (by decide) ?_
        exact ih3 k1 k2 x3 (x5 + 1) (zSL s1 k1 (x5).toNatClampNeg (((s1.2 k1 (x5).toNatClampNeg) + ((s1.2 k2 (x5).toNatClampNeg) * x3)))) _ _ _ (lv_sub hl [1, 2, 3, 4, 0] rfl) hP hS hf
  rw [f_X8_addTimes] at hf
  refine lv_iconst (v := 0) hx hb dX8_addTimes_0 (by decide) ?_
  refine lv_istore (lv' := [(5, .int 0), (0, .ref (ad 5)), (1, .ref (ad k1)), (2, .ref (ad k2)), (3, .long x3)]) hx hb dX8_addTimes_1 hl (by decide) rfl (fun ls hl => ?_)
  exact hc_3 ZF k1 k2 x3 0 s0 _ _ _ (lv_sub hl [1, 2, 3, 4, 0] rfl) hP hS hf
theorem dX8_keepSize_0 : decode cX8_keepSize 0 = .ok (.iconst 0, 1) := by decide +kernel
theorem dX8_keepSize_1 : decode cX8_keepSize 1 = .ok (.istore_n 3, 1) := by decide +kernel
theorem dX8_keepSize_2 : decode cX8_keepSize 2 = .ok (.iload_n 3, 1) := by decide +kernel
theorem dX8_keepSize_3 : decode cX8_keepSize 3 = .ok (.aload_n 0, 1) := by decide +kernel
theorem dX8_keepSize_4 : decode cX8_keepSize 4 = .ok (.getfield 10, 3) := by decide +kernel
theorem dX8_keepSize_7 : decode cX8_keepSize 7 = .ok (.getfield 42, 3) := by decide +kernel
theorem dX8_keepSize_10 : decode cX8_keepSize 10 = .ok (.if_icmp .ge 32, 3) := by decide +kernel
theorem dX8_keepSize_13 : decode cX8_keepSize 13 = .ok (.aload_n 1, 1) := by decide +kernel
theorem dX8_keepSize_14 : decode cX8_keepSize 14 = .ok (.iload_n 3, 1) := by decide +kernel
theorem dX8_keepSize_15 : decode cX8_keepSize 15 = .ok (.aload_n 0, 1) := by decide +kernel
theorem dX8_keepSize_16 : decode cX8_keepSize 16 = .ok (.getfield 10, 3) := by decide +kernel
theorem dX8_keepSize_19 : decode cX8_keepSize 19 = .ok (.getfield 64, 3) := by decide +kernel
theorem dX8_keepSize_22 : decode cX8_keepSize 22 = .ok (.iload_n 3, 1) := by decide +kernel
theorem dX8_keepSize_23 : decode cX8_keepSize 23 = .ok (.iaload, 1) := by decide +kernel
theorem dX8_keepSize_24 : decode cX8_keepSize 24 = .ok (.iload_n 2, 1) := by decide +kernel
theorem dX8_keepSize_25 : decode cX8_keepSize 25 = .ok (.if_icmp .ne 9, 3) := by decide +kernel
theorem dX8_keepSize_28 : decode cX8_keepSize 28 = .ok (.aload_n 1, 1) := by decide +kernel
theorem dX8_keepSize_29 : decode cX8_keepSize 29 = .ok (.iload_n 3, 1) := by decide +kernel
theorem dX8_keepSize_30 : decode cX8_keepSize 30 = .ok (.laload, 1) := by decide +kernel
theorem dX8_keepSize_31 : decode cX8_keepSize 31 = .ok (.goto 4, 3) := by decide +kernel
theorem dX8_keepSize_34 : decode cX8_keepSize 34 = .ok (.lconst 0, 1) := by decide +kernel
theorem dX8_keepSize_35 : decode cX8_keepSize 35 = .ok (.lastore, 1) := by decide +kernel
theorem dX8_keepSize_36 : decode cX8_keepSize 36 = .ok (.iinc 3 1, 3) := by decide +kernel
theorem dX8_keepSize_39 : decode cX8_keepSize 39 = .ok (.goto (-37), 3) := by decide +kernel
theorem dX8_keepSize_42 : decode cX8_keepSize 42 = .ok (.return_, 1) := by decide +kernel
set_option maxHeartbeats 4000000 in
set_option maxRecDepth 100000 in
theorem cn_X8_keepSize {l : Launch} {cA : Nat → ClassId} {ad : Nat → Nat} {D : va_G} {E : Nat → Nat} {A : Nat → Prop} {k1 : Nat} {x2 : Int32} {s0 sr : SS} {rr : Unit} (hf : f_X8_keepSize k1 x2 s0 = some (rr, sr)) : zCon Ox Nx cA ad D E l yX8_keepSize cX8_keepSize 4 none 0 A [.ref (ad 5), .ref (ad k1), .int x2] s0 none sr := by
  refine zstart (own := RX8) hOx (by decide) rfl (Nat.le_of_ble_eq_true rfl) ?_
  intro p e s m args below meth c X hP ls hl
  have hx := X.1
  have hb := X.2.1
  have hl : lv_has ls 4 [(0, .ref (ad 5)), (1, .ref (ad k1)), (2, .int x2)] := hl
  have hS : va_S A s.heap s.heap [] := va_S.rf
  have hc_2 : ∀ (n2 : Nat) (k1 : Nat) (x2 : Int32) (x3 : Int32) (s1 : SS) (H : Heap) (locs : List Loc) (ls : Array Slot), lv_has ls 4 [(0, .ref (ad 5)), (1, .ref (ad k1)), (2, .int x2), (3, .int x3)] → va_P D ZCL (zw Ox Nx cA ad s1) H → va_S A s.heap H locs → f_X8_keepSize_c2 n2 k1 x2 x3 s1 = some (rr, sr) → W p l e (zrm 0) s m args below meth c H locs 0 0 (MQ below (zQc Ox Nx cA ad D A none sr) args s 0 0 A) (F0 m 2 ls []) := by
    intro n2
    induction n2 with
    | zero =>
      intro k1 x2 x3 s1 H locs ls hl hP hS hf
      rw [f_X8_keepSize_c2] at hf
      cases hf
    | succ n2 ih2 =>
      have hc_35 : ∀ (k1 : Nat) (x2 : Int32) (x3 : Int32) (t0 : Int64) (t1 : Int32) (kt2 : Nat) (s1 : SS) (H : Heap) (locs : List Loc) (ls : Array Slot), lv_has ls 4 [(0, .ref (ad 5)), (1, .ref (ad k1)), (2, .int x2), (3, .int x3)] → va_P D ZCL (zw Ox Nx cA ad s1) H → va_S A s.heap H locs → f_X8_keepSize_c35 (f_X8_keepSize_c2 n2) k1 x2 x3 t0 t1 kt2 s1 = some (rr, sr) → W p l e (zrm 0) s m args below meth c H locs 0 0 (MQ below (zQc Ox Nx cA ad D A none sr) args s 0 0 A) (F0 m 35 ls [.long t0, .int t1, .ref (ad kt2)]) := by
        intro k1 x2 x3 t0 t1 kt2 s1 H locs ls hl hP hS hf
        rw [f_X8_keepSize_c35] at hf
        obtain ⟨g2, hf⟩ := zgd hf
        obtain ⟨n3, rn3, on3, in3⟩ := zok_of g2
        refine zast_l X hP hS (k := kt2) on3 in3 dX8_keepSize_35 (fun H locs hP hS => ?_)
        refine lv_iinc (v := (x3 + 1)) (lv' := [(3, .int (x3 + 1)), (0, .ref (ad 5)), (1, .ref (ad k1)), (2, .int x2)]) hx hb dX8_keepSize_36 hl (k := 3) rfl rfl (by decide) rfl (fun ls hl => ?_)
        refine lv_goto (tgt := 2) hx hb dX8_keepSize_39 (by decide) ?_
        exact ih2 k1 x2 (x3 + 1) (zSL s1 kt2 (t1).toNatClampNeg t0) _ _ _ (lv_sub hl [1, 2, 3, 0] rfl) hP hS hf
      intro k1 x2 x3 s1 H locs ls hl hP hS hf
      rw [f_X8_keepSize_c2] at hf
      refine lv_iload_n hx hb dX8_keepSize_2 rfl (lv_at hl 3 rfl) ?_
      refine lv_aload_n hx hb dX8_keepSize_3 rfl (lv_at hl 0 rfl) ?_
      refine gf_X8_10 X hP (k := 5) (q := 6) rfl dX8_keepSize_4 rfl ?_
      refine gf_X8_42 X hP (k := 6) rfl dX8_keepSize_7 ?_
      refine zicmp_ge (tgt := 42) hx hb dX8_keepSize_10 (by decide) hf (fun hf => ?_) (fun hf => ?_)
      · exact zret_v X hP hS hf dX8_keepSize_42
      · refine lv_aload_n hx hb dX8_keepSize_13 rfl (lv_at hl 1 rfl) ?_
        refine lv_iload_n hx hb dX8_keepSize_14 rfl (lv_at hl 3 rfl) ?_
        refine lv_aload_n hx hb dX8_keepSize_15 rfl (lv_at hl 0 rfl) ?_
        refine gf_X8_10 X hP (k := 5) (q := 6) rfl dX8_keepSize_16 rfl ?_
        refine gf_X8_64 X hP (k := 6) (q := 63) rfl dX8_keepSize_19 rfl ?_
        refine lv_iload_n hx hb dX8_keepSize_22 rfl (lv_at hl 3 rfl) ?_
        obtain ⟨g1, hf⟩ := zgd hf
        refine zald_i X hP (k := 63) (n := 462) (rs := []) rfl g1 dX8_keepSize_23 ?_
        refine lv_iload_n hx hb dX8_keepSize_24 rfl (lv_at hl 2 rfl) ?_
        refine zicmp_ne (tgt := 34) hx hb dX8_keepSize_25 (by decide) hf (fun hf => ?_) (fun hf => ?_)
        · refine lv_lconst (v := 0) hx hb dX8_keepSize_34 (by decide) ?_
          exact hc_35 k1 x2 x3 0 x3 k1 s1 _ _ _ (lv_sub hl [0, 1, 2, 3] rfl) hP hS hf
        · refine lv_aload_n hx hb dX8_keepSize_28 rfl (lv_at hl 1 rfl) ?_
          refine lv_iload_n hx hb dX8_keepSize_29 rfl (lv_at hl 3 rfl) ?_
          obtain ⟨g4, hf⟩ := zgd hf
          obtain ⟨n5, rn5, on5, in5⟩ := zok_of g4
          refine zald_l X hP (k := k1) on5 in5 dX8_keepSize_30 ?_
          refine lv_goto (tgt := 35) hx hb dX8_keepSize_31 (by decide) ?_
          exact hc_35 k1 x2 x3 (s1.2 k1 (x3).toNatClampNeg) x3 k1 s1 _ _ _ (lv_sub hl [0, 1, 2, 3] rfl) hP hS hf
  rw [f_X8_keepSize] at hf
  refine lv_iconst (v := 0) hx hb dX8_keepSize_0 (by decide) ?_
  refine lv_istore_n (lv' := [(3, .int 0), (0, .ref (ad 5)), (1, .ref (ad k1)), (2, .int x2)]) hx hb dX8_keepSize_1 rfl hl (by decide) rfl (fun ls hl => ?_)
  exact hc_2 ZF k1 x2 0 s0 _ _ _ (lv_sub hl [1, 2, 3, 0] rfl) hP hS hf
theorem dX8_hold_0 : decode cX8_hold 0 = .ok (.iconst 0, 1) := by decide +kernel
theorem dX8_hold_1 : decode cX8_hold 1 = .ok (.istore_n 2, 1) := by decide +kernel
theorem dX8_hold_2 : decode cX8_hold 2 = .ok (.iconst 0, 1) := by decide +kernel
theorem dX8_hold_3 : decode cX8_hold 3 = .ok (.istore_n 3, 1) := by decide +kernel
theorem dX8_hold_4 : decode cX8_hold 4 = .ok (.iload_n 3, 1) := by decide +kernel
theorem dX8_hold_5 : decode cX8_hold 5 = .ok (.aload_n 0, 1) := by decide +kernel
theorem dX8_hold_6 : decode cX8_hold 6 = .ok (.getfield 10, 3) := by decide +kernel
theorem dX8_hold_9 : decode cX8_hold 9 = .ok (.getfield 42, 3) := by decide +kernel
theorem dX8_hold_12 : decode cX8_hold 12 = .ok (.if_icmp .ge 43, 3) := by decide +kernel
theorem dX8_hold_15 : decode cX8_hold 15 = .ok (.aload_n 1, 1) := by decide +kernel
theorem dX8_hold_16 : decode cX8_hold 16 = .ok (.aload_n 0, 1) := by decide +kernel
theorem dX8_hold_17 : decode cX8_hold 17 = .ok (.getfield 10, 3) := by decide +kernel
theorem dX8_hold_20 : decode cX8_hold 20 = .ok (.getfield 84, 3) := by decide +kernel
theorem dX8_hold_23 : decode cX8_hold 23 = .ok (.iload_n 3, 1) := by decide +kernel
theorem dX8_hold_24 : decode cX8_hold 24 = .ok (.iaload, 1) := by decide +kernel
theorem dX8_hold_25 : decode cX8_hold 25 = .ok (.laload, 1) := by decide +kernel
theorem dX8_hold_26 : decode cX8_hold 26 = .ok (.lconst 0, 1) := by decide +kernel
theorem dX8_hold_27 : decode cX8_hold 27 = .ok (.lcmp, 1) := by decide +kernel
theorem dX8_hold_28 : decode cX8_hold 28 = .ok (.ifCond .eq 21, 3) := by decide +kernel
theorem dX8_hold_31 : decode cX8_hold 31 = .ok (.aload_n 0, 1) := by decide +kernel
theorem dX8_hold_32 : decode cX8_hold 32 = .ok (.getfield 32, 3) := by decide +kernel
theorem dX8_hold_35 : decode cX8_hold 35 = .ok (.iload_n 2, 1) := by decide +kernel
theorem dX8_hold_36 : decode cX8_hold 36 = .ok (.aload_n 0, 1) := by decide +kernel
theorem dX8_hold_37 : decode cX8_hold 37 = .ok (.getfield 10, 3) := by decide +kernel
theorem dX8_hold_40 : decode cX8_hold 40 = .ok (.getfield 84, 3) := by decide +kernel
theorem dX8_hold_43 : decode cX8_hold 43 = .ok (.iload_n 3, 1) := by decide +kernel
theorem dX8_hold_44 : decode cX8_hold 44 = .ok (.iaload, 1) := by decide +kernel
theorem dX8_hold_45 : decode cX8_hold 45 = .ok (.iastore, 1) := by decide +kernel
theorem dX8_hold_46 : decode cX8_hold 46 = .ok (.iinc 2 1, 3) := by decide +kernel
theorem dX8_hold_49 : decode cX8_hold 49 = .ok (.iinc 3 1, 3) := by decide +kernel
theorem dX8_hold_52 : decode cX8_hold 52 = .ok (.goto (-48), 3) := by decide +kernel
theorem dX8_hold_55 : decode cX8_hold 55 = .ok (.iload_n 2, 1) := by decide +kernel
theorem dX8_hold_56 : decode cX8_hold 56 = .ok (.ireturn, 1) := by decide +kernel
set_option maxHeartbeats 4000000 in
set_option maxRecDepth 100000 in
theorem cn_X8_hold {l : Launch} {cA : Nat → ClassId} {ad : Nat → Nat} {D : va_G} {E : Nat → Nat} {A : Nat → Prop} {k1 : Nat} {s0 sr : SS} {rr : Int32} (hf : f_X8_hold k1 s0 = some (rr, sr)) : zCon Ox Nx cA ad D E l yX8_hold cX8_hold 4 (some .int) 0 A [.ref (ad 5), .ref (ad k1)] s0 (some (.int rr)) sr := by
  refine zstart (own := RX8) hOx (by decide) rfl (Nat.le_of_ble_eq_true rfl) ?_
  intro p e s m args below meth c X hP ls hl
  have hx := X.1
  have hb := X.2.1
  have hl : lv_has ls 4 [(0, .ref (ad 5)), (1, .ref (ad k1))] := hl
  have hS : va_S A s.heap s.heap [] := va_S.rf
  have hc_4 : ∀ (n4 : Nat) (k1 : Nat) (x2 : Int32) (x3 : Int32) (s1 : SS) (H : Heap) (locs : List Loc) (ls : Array Slot), lv_has ls 4 [(0, .ref (ad 5)), (1, .ref (ad k1)), (2, .int x2), (3, .int x3)] → va_P D ZCL (zw Ox Nx cA ad s1) H → va_S A s.heap H locs → f_X8_hold_c4 n4 k1 x2 x3 s1 = some (rr, sr) → W p l e (zrm 0) s m args below meth c H locs 0 0 (MQ below (zQc Ox Nx cA ad D A (some (.int rr)) sr) args s 0 0 A) (F0 m 4 ls []) := by
    intro n4
    induction n4 with
    | zero =>
      intro k1 x2 x3 s1 H locs ls hl hP hS hf
      rw [f_X8_hold_c4] at hf
      cases hf
    | succ n4 ih4 =>
      have hc_49 : ∀ (k1 : Nat) (x2 : Int32) (x3 : Int32) (s1 : SS) (H : Heap) (locs : List Loc) (ls : Array Slot), lv_has ls 4 [(0, .ref (ad 5)), (1, .ref (ad k1)), (2, .int x2), (3, .int x3)] → va_P D ZCL (zw Ox Nx cA ad s1) H → va_S A s.heap H locs → f_X8_hold_c49 (f_X8_hold_c4 n4) k1 x2 x3 s1 = some (rr, sr) → W p l e (zrm 0) s m args below meth c H locs 0 0 (MQ below (zQc Ox Nx cA ad D A (some (.int rr)) sr) args s 0 0 A) (F0 m 49 ls []) := by
        intro k1 x2 x3 s1 H locs ls hl hP hS hf
        rw [f_X8_hold_c49] at hf
        refine lv_iinc (v := (x3 + 1)) (lv' := [(3, .int (x3 + 1)), (0, .ref (ad 5)), (1, .ref (ad k1)), (2, .int x2)]) hx hb dX8_hold_49 hl (k := 3) rfl rfl (by decide) rfl (fun ls hl => ?_)
        refine lv_goto (tgt := 4) hx hb dX8_hold_52 (by decide) ?_
        exact ih4 k1 x2 (x3 + 1) s1 _ _ _ (lv_sub hl [1, 2, 3, 0] rfl) hP hS hf
      intro k1 x2 x3 s1 H locs ls hl hP hS hf
      rw [f_X8_hold_c4] at hf
      refine lv_iload_n hx hb dX8_hold_4 rfl (lv_at hl 3 rfl) ?_
      refine lv_aload_n hx hb dX8_hold_5 rfl (lv_at hl 0 rfl) ?_
      refine gf_X8_10 X hP (k := 5) (q := 6) rfl dX8_hold_6 rfl ?_
      refine gf_X8_42 X hP (k := 6) rfl dX8_hold_9 ?_
      refine zicmp_ge (tgt := 55) hx hb dX8_hold_12 (by decide) hf (fun hf => ?_) (fun hf => ?_)
      · refine lv_iload_n hx hb dX8_hold_55 rfl (lv_at hl 2 rfl) ?_
        exact zret_i X hP hS hf rfl dX8_hold_56
      · refine lv_aload_n hx hb dX8_hold_15 rfl (lv_at hl 1 rfl) ?_
        refine lv_aload_n hx hb dX8_hold_16 rfl (lv_at hl 0 rfl) ?_
        refine gf_X8_10 X hP (k := 5) (q := 6) rfl dX8_hold_17 rfl ?_
        refine gf_X8_84 X hP (k := 6) (q := 66) rfl dX8_hold_20 rfl ?_
        refine lv_iload_n hx hb dX8_hold_23 rfl (lv_at hl 3 rfl) ?_
        obtain ⟨g1, hf⟩ := zgd hf
        refine zald_i X hP (k := 66) (n := 462) (rs := []) rfl g1 dX8_hold_24 ?_
        obtain ⟨g2, hf⟩ := zgd hf
        obtain ⟨n5, rn5, on5, in5⟩ := zok_of g2
        refine zald_l X hP (k := k1) on5 in5 dX8_hold_25 ?_
        refine lv_lconst (v := 0) hx hb dX8_hold_26 (by decide) ?_
        refine W.lcmp hx hb dX8_hold_27 ?_
        refine zif_eq (tgt := 49) hx hb dX8_hold_28 (by decide) hf (fun hf => ?_) (fun hf => ?_)
        · exact hc_49 k1 x2 x3 s1 _ _ _ (lv_sub hl [0, 1, 2, 3] rfl) hP hS hf
        · refine lv_aload_n hx hb dX8_hold_31 rfl (lv_at hl 0 rfl) ?_
          refine gf_X8_32 X hP (k := 5) (q := 26) rfl dX8_hold_32 rfl ?_
          refine lv_iload_n hx hb dX8_hold_35 rfl (lv_at hl 2 rfl) ?_
          refine lv_aload_n hx hb dX8_hold_36 rfl (lv_at hl 0 rfl) ?_
          refine gf_X8_10 X hP (k := 5) (q := 6) rfl dX8_hold_37 rfl ?_
          refine gf_X8_84 X hP (k := 6) (q := 66) rfl dX8_hold_40 rfl ?_
          refine lv_iload_n hx hb dX8_hold_43 rfl (lv_at hl 3 rfl) ?_
          obtain ⟨g3, hf⟩ := zgd hf
          refine zald_i X hP (k := 66) (n := 462) (rs := []) rfl g3 dX8_hold_44 ?_
          obtain ⟨g4, hf⟩ := zgd hf
          refine zast_i X hP hS (k := 26) (n := 462) (rs := []) rfl g4 dX8_hold_45 (fun H locs hP hS => ?_)
          refine lv_iinc (v := (x2 + 1)) (lv' := [(2, .int (x2 + 1)), (0, .ref (ad 5)), (1, .ref (ad k1)), (3, .int x3)]) hx hb dX8_hold_46 hl (k := 2) rfl rfl (by decide) rfl (fun ls hl => ?_)
          exact hc_49 k1 (x2 + 1) x3 (zS s1 26 (x2).toNatClampNeg (s1.1 66 (x3).toNatClampNeg)) _ _ _ (lv_sub hl [1, 2, 0, 3] rfl) hP hS hf
  rw [f_X8_hold] at hf
  refine lv_iconst (v := 0) hx hb dX8_hold_0 (by decide) ?_
  refine lv_istore_n (lv' := [(2, .int 0), (0, .ref (ad 5)), (1, .ref (ad k1))]) hx hb dX8_hold_1 rfl hl (by decide) rfl (fun ls hl => ?_)
  refine lv_iconst (v := 0) hx hb dX8_hold_2 (by decide) ?_
  refine lv_istore_n (lv' := [(3, .int 0), (2, .int 0), (0, .ref (ad 5)), (1, .ref (ad k1))]) hx hb dX8_hold_3 rfl hl (by decide) rfl (fun ls hl => ?_)
  exact hc_4 ZF k1 0 0 s0 _ _ _ (lv_sub hl [2, 3, 1, 0] rfl) hP hS hf
theorem dX8_addShifted_0 : decode cX8_addShifted 0 = .ok (.aload_n 0, 1) := by decide +kernel
theorem dX8_addShifted_1 : decode cX8_addShifted 1 = .ok (.getfield 10, 3) := by decide +kernel
theorem dX8_addShifted_4 : decode cX8_addShifted 4 = .ok (.getfield 87, 3) := by decide +kernel
theorem dX8_addShifted_7 : decode cX8_addShifted 7 = .ok (.aload_n 0, 1) := by decide +kernel
theorem dX8_addShifted_8 : decode cX8_addShifted 8 = .ok (.getfield 10, 3) := by decide +kernel
theorem dX8_addShifted_11 : decode cX8_addShifted 11 = .ok (.getfield 64, 3) := by decide +kernel
theorem dX8_addShifted_14 : decode cX8_addShifted 14 = .ok (.iload_n 1, 1) := by decide +kernel
theorem dX8_addShifted_15 : decode cX8_addShifted 15 = .ok (.iaload, 1) := by decide +kernel
theorem dX8_addShifted_16 : decode cX8_addShifted 16 = .ok (.isub, 1) := by decide +kernel
theorem dX8_addShifted_17 : decode cX8_addShifted 17 = .ok (.istore 6, 2) := by decide +kernel
theorem dX8_addShifted_19 : decode cX8_addShifted 19 = .ok (.aload_n 0, 1) := by decide +kernel
theorem dX8_addShifted_20 : decode cX8_addShifted 20 = .ok (.getfield 10, 3) := by decide +kernel
theorem dX8_addShifted_23 : decode cX8_addShifted 23 = .ok (.getfield 90, 3) := by decide +kernel
theorem dX8_addShifted_26 : decode cX8_addShifted 26 = .ok (.iload_n 1, 1) := by decide +kernel
theorem dX8_addShifted_27 : decode cX8_addShifted 27 = .ok (.iaload, 1) := by decide +kernel
theorem dX8_addShifted_28 : decode cX8_addShifted 28 = .ok (.istore 7, 2) := by decide +kernel
theorem dX8_addShifted_30 : decode cX8_addShifted 30 = .ok (.iconst 0, 1) := by decide +kernel
theorem dX8_addShifted_31 : decode cX8_addShifted 31 = .ok (.istore 8, 2) := by decide +kernel
theorem dX8_addShifted_33 : decode cX8_addShifted 33 = .ok (.iload 8, 2) := by decide +kernel
theorem dX8_addShifted_35 : decode cX8_addShifted 35 = .ok (.iload 5, 2) := by decide +kernel
theorem dX8_addShifted_37 : decode cX8_addShifted 37 = .ok (.if_icmp .ge 83, 3) := by decide +kernel
theorem dX8_addShifted_40 : decode cX8_addShifted 40 = .ok (.aload_n 0, 1) := by decide +kernel
theorem dX8_addShifted_41 : decode cX8_addShifted 41 = .ok (.getfield 10, 3) := by decide +kernel
theorem dX8_addShifted_44 : decode cX8_addShifted 44 = .ok (.getfield 64, 3) := by decide +kernel
theorem dX8_addShifted_47 : decode cX8_addShifted 47 = .ok (.aload_n 0, 1) := by decide +kernel
theorem dX8_addShifted_48 : decode cX8_addShifted 48 = .ok (.getfield 32, 3) := by decide +kernel
theorem dX8_addShifted_51 : decode cX8_addShifted 51 = .ok (.iload 8, 2) := by decide +kernel
theorem dX8_addShifted_53 : decode cX8_addShifted 53 = .ok (.iaload, 1) := by decide +kernel
theorem dX8_addShifted_54 : decode cX8_addShifted 54 = .ok (.iaload, 1) := by decide +kernel
theorem dX8_addShifted_55 : decode cX8_addShifted 55 = .ok (.iload 6, 2) := by decide +kernel
theorem dX8_addShifted_57 : decode cX8_addShifted 57 = .ok (.if_icmp .gt 63, 3) := by decide +kernel
theorem dX8_addShifted_60 : decode cX8_addShifted 60 = .ok (.aload_n 0, 1) := by decide +kernel
theorem dX8_addShifted_61 : decode cX8_addShifted 61 = .ok (.getfield 10, 3) := by decide +kernel
theorem dX8_addShifted_64 : decode cX8_addShifted 64 = .ok (.iload 7, 2) := by decide +kernel
theorem dX8_addShifted_66 : decode cX8_addShifted 66 = .ok (.aload_n 0, 1) := by decide +kernel
theorem dX8_addShifted_67 : decode cX8_addShifted 67 = .ok (.getfield 10, 3) := by decide +kernel
theorem dX8_addShifted_70 : decode cX8_addShifted 70 = .ok (.getfield 90, 3) := by decide +kernel
theorem dX8_addShifted_73 : decode cX8_addShifted 73 = .ok (.aload_n 0, 1) := by decide +kernel
theorem dX8_addShifted_74 : decode cX8_addShifted 74 = .ok (.getfield 32, 3) := by decide +kernel
theorem dX8_addShifted_77 : decode cX8_addShifted 77 = .ok (.iload 8, 2) := by decide +kernel
theorem dX8_addShifted_79 : decode cX8_addShifted 79 = .ok (.iaload, 1) := by decide +kernel
theorem dX8_addShifted_80 : decode cX8_addShifted 80 = .ok (.iaload, 1) := by decide +kernel
theorem dX8_addShifted_81 : decode cX8_addShifted 81 = .ok (.iadd, 1) := by decide +kernel
theorem dX8_addShifted_82 : decode cX8_addShifted 82 = .ok (.invokevirtual 54, 3) := by decide +kernel
theorem dX8_addShifted_85 : decode cX8_addShifted 85 = .ok (.istore 9, 2) := by decide +kernel
theorem dX8_addShifted_87 : decode cX8_addShifted 87 = .ok (.iload 9, 2) := by decide +kernel
theorem dX8_addShifted_89 : decode cX8_addShifted 89 = .ok (.ifCond .lt 25, 3) := by decide +kernel
theorem dX8_addShifted_92 : decode cX8_addShifted 92 = .ok (.aload_n 0, 1) := by decide +kernel
theorem dX8_addShifted_93 : decode cX8_addShifted 93 = .ok (.getfield 29, 3) := by decide +kernel
theorem dX8_addShifted_96 : decode cX8_addShifted 96 = .ok (.iload 9, 2) := by decide +kernel
theorem dX8_addShifted_98 : decode cX8_addShifted 98 = .ok (.dup2, 1) := by decide +kernel
theorem dX8_addShifted_99 : decode cX8_addShifted 99 = .ok (.laload, 1) := by decide +kernel
theorem dX8_addShifted_100 : decode cX8_addShifted 100 = .ok (.lload_n 2, 1) := by decide +kernel
theorem dX8_addShifted_101 : decode cX8_addShifted 101 = .ok (.aload 4, 2) := by decide +kernel
theorem dX8_addShifted_103 : decode cX8_addShifted 103 = .ok (.aload_n 0, 1) := by decide +kernel
theorem dX8_addShifted_104 : decode cX8_addShifted 104 = .ok (.getfield 32, 3) := by decide +kernel
theorem dX8_addShifted_107 : decode cX8_addShifted 107 = .ok (.iload 8, 2) := by decide +kernel
theorem dX8_addShifted_109 : decode cX8_addShifted 109 = .ok (.iaload, 1) := by decide +kernel
theorem dX8_addShifted_110 : decode cX8_addShifted 110 = .ok (.laload, 1) := by decide +kernel
theorem dX8_addShifted_111 : decode cX8_addShifted 111 = .ok (.lmul, 1) := by decide +kernel
theorem dX8_addShifted_112 : decode cX8_addShifted 112 = .ok (.ladd, 1) := by decide +kernel
theorem dX8_addShifted_113 : decode cX8_addShifted 113 = .ok (.lastore, 1) := by decide +kernel
theorem dX8_addShifted_114 : decode cX8_addShifted 114 = .ok (.iinc 8 1, 3) := by decide +kernel
theorem dX8_addShifted_117 : decode cX8_addShifted 117 = .ok (.goto (-84), 3) := by decide +kernel
theorem dX8_addShifted_120 : decode cX8_addShifted 120 = .ok (.return_, 1) := by decide +kernel
set_option maxHeartbeats 4000000 in
set_option maxRecDepth 100000 in
theorem cn_X8_addShifted {l : Launch} {cA : Nat → ClassId} {ad : Nat → Nat} {D : va_G} {E : Nat → Nat} {A : Nat → Prop} {x1 : Int32} {x2 : Int64} {k4 : Nat} {x5 : Int32} {s0 sr : SS} {rr : Unit} (hf : f_X8_addShifted x1 x2 k4 x5 s0 = some (rr, sr)) : zCon Ox Nx cA ad D E l yX8_addShifted cX8_addShifted 10 none 1 A [.ref (ad 5), .int x1, .long x2, .ref (ad k4), .int x5] s0 none sr := by
  refine zstart (own := RX8) hOx (by decide) rfl (Nat.le_of_ble_eq_true rfl) ?_
  intro p e s m args below meth c X hP ls hl
  have hx := X.1
  have hb := X.2.1
  have hl : lv_has ls 10 [(0, .ref (ad 5)), (1, .int x1), (2, .long x2), (4, .ref (ad k4)), (5, .int x5)] := hl
  have hS : va_S A s.heap s.heap [] := va_S.rf
  have hc_33 : ∀ (n33 : Nat) (x2 : Int64) (k4 : Nat) (x5 : Int32) (x6 : Int32) (x7 : Int32) (x8 : Int32) (s1 : SS) (H : Heap) (locs : List Loc) (ls : Array Slot), lv_has ls 10 [(0, .ref (ad 5)), (2, .long x2), (4, .ref (ad k4)), (5, .int x5), (6, .int x6), (7, .int x7), (8, .int x8)] → va_P D ZCL (zw Ox Nx cA ad s1) H → va_S A s.heap H locs → f_X8_addShifted_c33 n33 x2 k4 x5 x6 x7 x8 s1 = some (rr, sr) → W p l e (zrm 1) s m args below meth c H locs 0 0 (MQ below (zQc Ox Nx cA ad D A none sr) args s 0 0 A) (F0 m 33 ls []) := by
    intro n33
    induction n33 with
    | zero =>
      intro x2 k4 x5 x6 x7 x8 s1 H locs ls hl hP hS hf
      rw [f_X8_addShifted_c33] at hf
      cases hf
    | succ n33 ih33 =>
      have hc_114 : ∀ (x2 : Int64) (k4 : Nat) (x5 : Int32) (x6 : Int32) (x7 : Int32) (x8 : Int32) (s1 : SS) (H : Heap) (locs : List Loc) (ls : Array Slot), lv_has ls 10 [(0, .ref (ad 5)), (2, .long x2), (4, .ref (ad k4)), (5, .int x5), (6, .int x6), (7, .int x7), (8, .int x8)] → va_P D ZCL (zw Ox Nx cA ad s1) H → va_S A s.heap H locs → f_X8_addShifted_c114 (f_X8_addShifted_c33 n33) x2 k4 x5 x6 x7 x8 s1 = some (rr, sr) → W p l e (zrm 1) s m args below meth c H locs 0 0 (MQ below (zQc Ox Nx cA ad D A none sr) args s 0 0 A) (F0 m 114 ls []) := by
        intro x2 k4 x5 x6 x7 x8 s1 H locs ls hl hP hS hf
        rw [f_X8_addShifted_c114] at hf
        refine lv_iinc (v := (x8 + 1)) (lv' := [(8, .int (x8 + 1)), (0, .ref (ad 5)), (2, .long x2), (4, .ref (ad k4)), (5, .int x5), (6, .int x6), (7, .int x7)]) hx hb dX8_addShifted_114 hl (k := 6) rfl rfl (by decide) rfl (fun ls hl => ?_)
        refine lv_goto (tgt := 33) hx hb dX8_addShifted_117 (by decide) ?_
        exact ih33 x2 k4 x5 x6 x7 (x8 + 1) s1 _ _ _ (lv_sub hl [1, 2, 3, 4, 5, 6, 0] rfl) hP hS hf
      intro x2 k4 x5 x6 x7 x8 s1 H locs ls hl hP hS hf
      rw [f_X8_addShifted_c33] at hf
      refine lv_iload hx hb dX8_addShifted_33 (lv_at hl 6 rfl) ?_
      refine lv_iload hx hb dX8_addShifted_35 (lv_at hl 3 rfl) ?_
      refine zicmp_ge (tgt := 120) hx hb dX8_addShifted_37 (by decide) hf (fun hf => ?_) (fun hf => ?_)
      · exact zret_v X hP hS hf dX8_addShifted_120
      · refine lv_aload_n hx hb dX8_addShifted_40 rfl (lv_at hl 0 rfl) ?_
        refine gf_X8_10 X hP (k := 5) (q := 6) rfl dX8_addShifted_41 rfl ?_
        refine gf_X8_64 X hP (k := 6) (q := 63) rfl dX8_addShifted_44 rfl ?_
        refine lv_aload_n hx hb dX8_addShifted_47 rfl (lv_at hl 0 rfl) ?_
        refine gf_X8_32 X hP (k := 5) (q := 26) rfl dX8_addShifted_48 rfl ?_
        refine lv_iload hx hb dX8_addShifted_51 (lv_at hl 6 rfl) ?_
        obtain ⟨g3, hf⟩ := zgd hf
        refine zald_i X hP (k := 26) (n := 462) (rs := []) rfl g3 dX8_addShifted_53 ?_
        obtain ⟨g4, hf⟩ := zgd hf
        refine zald_i X hP (k := 63) (n := 462) (rs := []) rfl g4 dX8_addShifted_54 ?_
        refine lv_iload hx hb dX8_addShifted_55 (lv_at hl 4 rfl) ?_
        refine zicmp_gt (tgt := 120) hx hb dX8_addShifted_57 (by decide) hf (fun hf => ?_) (fun hf => ?_)
        · exact zret_v X hP hS hf dX8_addShifted_120
        · refine lv_aload_n hx hb dX8_addShifted_60 rfl (lv_at hl 0 rfl) ?_
          refine gf_X8_10 X hP (k := 5) (q := 6) rfl dX8_addShifted_61 rfl ?_
          refine lv_iload hx hb dX8_addShifted_64 (lv_at hl 5 rfl) ?_
          refine lv_aload_n hx hb dX8_addShifted_66 rfl (lv_at hl 0 rfl) ?_
          refine gf_X8_10 X hP (k := 5) (q := 6) rfl dX8_addShifted_67 rfl ?_
          refine gf_X8_90 X hP (k := 6) (q := 62) rfl dX8_addShifted_70 rfl ?_
          refine lv_aload_n hx hb dX8_addShifted_73 rfl (lv_at hl 0 rfl) ?_
          refine gf_X8_32 X hP (k := 5) (q := 26) rfl dX8_addShifted_74 rfl ?_
          refine lv_iload hx hb dX8_addShifted_77 (lv_at hl 6 rfl) ?_
          obtain ⟨g5, hf⟩ := zgd hf
          refine zald_i X hP (k := 26) (n := 462) (rs := []) rfl g5 dX8_addShifted_79 ?_
          obtain ⟨g6, hf⟩ := zgd hf
          refine zald_i X hP (k := 62) (n := 462) (rs := []) rfl g6 dX8_addShifted_80 ?_
          refine lv_iadd hx hb dX8_addShifted_81 ?_
          obtain ⟨r7, s8, h9, hf⟩ := zbd_some hf
          refine zcallV X hP hS hl.1 (k := 6) (As := [.int (x7 + (s1.1 62 ((s1.1 26 (x8).toNatClampNeg)).toNatClampNeg))]) (rest := []) (cn_X10_find h9) cw_X10_find zp_10 rfl (by decide) rfl ml_X8_54 (by decide) rfl rfl (Nat.le_of_ble_eq_true rfl) dX8_addShifted_82 (fun H locs hP hS => ?_)
          refine lv_istore (lv' := [(9, .int r7), (0, .ref (ad 5)), (2, .long x2), (4, .ref (ad k4)), (5, .int x5), (6, .int x6), (7, .int x7), (8, .int x8)]) hx hb dX8_addShifted_85 hl (by decide) rfl (fun ls hl => ?_)
          refine lv_iload hx hb dX8_addShifted_87 (lv_at hl 0 rfl) ?_
          refine zif_lt (tgt := 114) hx hb dX8_addShifted_89 (by decide) hf (fun hf => ?_) (fun hf => ?_)
          · exact hc_114 x2 k4 x5 x6 x7 x8 s8 _ _ _ (lv_sub hl [1, 2, 3, 4, 5, 6, 7] rfl) hP hS hf
          · refine lv_aload_n hx hb dX8_addShifted_92 rfl (lv_at hl 1 rfl) ?_
            refine gf_X8_29 X hP (k := 5) (q := 25) rfl dX8_addShifted_93 rfl ?_
            refine lv_iload hx hb dX8_addShifted_96 (lv_at hl 0 rfl) ?_
            refine lv_dup2_11 hx hb dX8_addShifted_98 rfl rfl ?_
            obtain ⟨g10, hf⟩ := zgd hf
            refine zald_l X hP (k := 25) (n := 462) (rs := []) rfl g10 dX8_addShifted_99 ?_
            refine lv_lload_n hx hb dX8_addShifted_100 rfl (lv_at hl 2 rfl) ?_
            refine lv_aload hx hb dX8_addShifted_101 (lv_at hl 3 rfl) ?_
            refine lv_aload_n hx hb dX8_addShifted_103 rfl (lv_at hl 1 rfl) ?_
            refine gf_X8_32 X hP (k := 5) (q := 26) rfl dX8_addShifted_104 rfl ?_
            refine lv_iload hx hb dX8_addShifted_107 (lv_at hl 7 rfl) ?_
            obtain ⟨g11, hf⟩ := zgd hf
            refine zald_i X hP (k := 26) (n := 462) (rs := []) rfl g11 dX8_addShifted_109 ?_
            obtain ⟨g12, hf⟩ := zgd hf
            obtain ⟨n14, rn14, on14, in14⟩ := zok_of g12
            refine zald_l X hP (k := k4) on14 in14 dX8_addShifted_110 ?_
            refine lv_lmul hx hb dX8_addShifted_111 ?_
            refine lv_ladd hx hb dX8_addShifted_112 ?_
            obtain ⟨g13, hf⟩ := zgd hf
            refine zast_l X hP hS (k := 25) (n := 462) (rs := []) rfl g13 dX8_addShifted_113 (fun H locs hP hS => ?_)
            exact hc_114 x2 k4 x5 x6 x7 x8 (zSL s8 25 (r7).toNatClampNeg (((s8.2 25 (r7).toNatClampNeg) + (x2 * (s8.2 k4 ((s8.1 26 (x8).toNatClampNeg)).toNatClampNeg))))) _ _ _ (lv_sub hl [1, 2, 3, 4, 5, 6, 7] rfl) hP hS hf
  rw [f_X8_addShifted] at hf
  refine lv_aload_n hx hb dX8_addShifted_0 rfl (lv_at hl 0 rfl) ?_
  refine gf_X8_10 X hP (k := 5) (q := 6) rfl dX8_addShifted_1 rfl ?_
  refine gf_X8_87 X hP (k := 6) rfl dX8_addShifted_4 ?_
  refine lv_aload_n hx hb dX8_addShifted_7 rfl (lv_at hl 0 rfl) ?_
  refine gf_X8_10 X hP (k := 5) (q := 6) rfl dX8_addShifted_8 rfl ?_
  refine gf_X8_64 X hP (k := 6) (q := 63) rfl dX8_addShifted_11 rfl ?_
  refine lv_iload_n hx hb dX8_addShifted_14 rfl (lv_at hl 1 rfl) ?_
  obtain ⟨g1, hf⟩ := zgd hf
  refine zald_i X hP (k := 63) (n := 462) (rs := []) rfl g1 dX8_addShifted_15 ?_
  refine lv_isub hx hb dX8_addShifted_16 ?_
  refine lv_istore (lv' := [(6, .int ((s0.1 6 0) - (s0.1 63 (x1).toNatClampNeg))), (0, .ref (ad 5)), (1, .int x1), (2, .long x2), (4, .ref (ad k4)), (5, .int x5)]) hx hb dX8_addShifted_17 hl (by decide) rfl (fun ls hl => ?_)
  refine lv_aload_n hx hb dX8_addShifted_19 rfl (lv_at hl 1 rfl) ?_
  refine gf_X8_10 X hP (k := 5) (q := 6) rfl dX8_addShifted_20 rfl ?_
  refine gf_X8_90 X hP (k := 6) (q := 62) rfl dX8_addShifted_23 rfl ?_
  refine lv_iload_n hx hb dX8_addShifted_26 rfl (lv_at hl 2 rfl) ?_
  obtain ⟨g2, hf⟩ := zgd hf
  refine zald_i X hP (k := 62) (n := 462) (rs := []) rfl g2 dX8_addShifted_27 ?_
  refine lv_istore (lv' := [(7, .int (s0.1 62 (x1).toNatClampNeg)), (6, .int ((s0.1 6 0) - (s0.1 63 (x1).toNatClampNeg))), (0, .ref (ad 5)), (1, .int x1), (2, .long x2), (4, .ref (ad k4)), (5, .int x5)]) hx hb dX8_addShifted_28 hl (by decide) rfl (fun ls hl => ?_)
  refine lv_iconst (v := 0) hx hb dX8_addShifted_30 (by decide) ?_
  refine lv_istore (lv' := [(8, .int 0), (7, .int (s0.1 62 (x1).toNatClampNeg)), (6, .int ((s0.1 6 0) - (s0.1 63 (x1).toNatClampNeg))), (0, .ref (ad 5)), (1, .int x1), (2, .long x2), (4, .ref (ad k4)), (5, .int x5)]) hx hb dX8_addShifted_31 hl (by decide) rfl (fun ls hl => ?_)
  exact hc_33 ZF x2 k4 x5 ((s0.1 6 0) - (s0.1 63 (x1).toNatClampNeg)) (s0.1 62 (x1).toNatClampNeg) 0 s0 _ _ _ (lv_sub hl [3, 5, 6, 7, 2, 1, 0] rfl) hP hS hf
theorem dX8_multiply_0 : decode cX8_multiply 0 = .ok (.aload_n 0, 1) := by decide +kernel
theorem dX8_multiply_1 : decode cX8_multiply 1 = .ok (.aload_n 2, 1) := by decide +kernel
theorem dX8_multiply_2 : decode cX8_multiply 2 = .ok (.invokevirtual 67, 3) := by decide +kernel
theorem dX8_multiply_5 : decode cX8_multiply 5 = .ok (.istore_n 3, 1) := by decide +kernel
theorem dX8_multiply_6 : decode cX8_multiply 6 = .ok (.aload_n 0, 1) := by decide +kernel
theorem dX8_multiply_7 : decode cX8_multiply 7 = .ok (.getfield 29, 3) := by decide +kernel
theorem dX8_multiply_10 : decode cX8_multiply 10 = .ok (.iconst 0, 1) := by decide +kernel
theorem dX8_multiply_11 : decode cX8_multiply 11 = .ok (.aload_n 0, 1) := by decide +kernel
theorem dX8_multiply_12 : decode cX8_multiply 12 = .ok (.getfield 10, 3) := by decide +kernel
theorem dX8_multiply_15 : decode cX8_multiply 15 = .ok (.getfield 42, 3) := by decide +kernel
theorem dX8_multiply_18 : decode cX8_multiply 18 = .ok (.lconst 0, 1) := by decide +kernel
theorem dX8_multiply_19 : decode cX8_multiply 19 = .ok (.invokestatic 71, 3) := by decide +kernel
theorem dX8_multiply_22 : decode cX8_multiply 22 = .ok (.iconst 0, 1) := by decide +kernel
theorem dX8_multiply_23 : decode cX8_multiply 23 = .ok (.istore 4, 2) := by decide +kernel
theorem dX8_multiply_25 : decode cX8_multiply 25 = .ok (.iload 4, 2) := by decide +kernel
theorem dX8_multiply_27 : decode cX8_multiply 27 = .ok (.aload_n 0, 1) := by decide +kernel
theorem dX8_multiply_28 : decode cX8_multiply 28 = .ok (.getfield 10, 3) := by decide +kernel
theorem dX8_multiply_31 : decode cX8_multiply 31 = .ok (.getfield 42, 3) := by decide +kernel
theorem dX8_multiply_34 : decode cX8_multiply 34 = .ok (.if_icmp .ge 30, 3) := by decide +kernel
theorem dX8_multiply_37 : decode cX8_multiply 37 = .ok (.aload_n 1, 1) := by decide +kernel
theorem dX8_multiply_38 : decode cX8_multiply 38 = .ok (.iload 4, 2) := by decide +kernel
theorem dX8_multiply_40 : decode cX8_multiply 40 = .ok (.laload, 1) := by decide +kernel
theorem dX8_multiply_41 : decode cX8_multiply 41 = .ok (.lconst 0, 1) := by decide +kernel
theorem dX8_multiply_42 : decode cX8_multiply 42 = .ok (.lcmp, 1) := by decide +kernel
theorem dX8_multiply_43 : decode cX8_multiply 43 = .ok (.ifCond .eq 15, 3) := by decide +kernel
theorem dX8_multiply_46 : decode cX8_multiply 46 = .ok (.aload_n 0, 1) := by decide +kernel
theorem dX8_multiply_47 : decode cX8_multiply 47 = .ok (.iload 4, 2) := by decide +kernel
theorem dX8_multiply_49 : decode cX8_multiply 49 = .ok (.aload_n 1, 1) := by decide +kernel
theorem dX8_multiply_50 : decode cX8_multiply 50 = .ok (.iload 4, 2) := by decide +kernel
theorem dX8_multiply_52 : decode cX8_multiply 52 = .ok (.laload, 1) := by decide +kernel
theorem dX8_multiply_53 : decode cX8_multiply 53 = .ok (.aload_n 2, 1) := by decide +kernel
theorem dX8_multiply_54 : decode cX8_multiply 54 = .ok (.iload_n 3, 1) := by decide +kernel
theorem dX8_multiply_55 : decode cX8_multiply 55 = .ok (.invokevirtual 74, 3) := by decide +kernel
theorem dX8_multiply_58 : decode cX8_multiply 58 = .ok (.iinc 4 1, 3) := by decide +kernel
theorem dX8_multiply_61 : decode cX8_multiply 61 = .ok (.goto (-36), 3) := by decide +kernel
theorem dX8_multiply_64 : decode cX8_multiply 64 = .ok (.aload_n 0, 1) := by decide +kernel
theorem dX8_multiply_65 : decode cX8_multiply 65 = .ok (.getfield 29, 3) := by decide +kernel
theorem dX8_multiply_68 : decode cX8_multiply 68 = .ok (.iconst 0, 1) := by decide +kernel
theorem dX8_multiply_69 : decode cX8_multiply 69 = .ok (.aload_n 1, 1) := by decide +kernel
theorem dX8_multiply_70 : decode cX8_multiply 70 = .ok (.iconst 0, 1) := by decide +kernel
theorem dX8_multiply_71 : decode cX8_multiply 71 = .ok (.aload_n 0, 1) := by decide +kernel
theorem dX8_multiply_72 : decode cX8_multiply 72 = .ok (.getfield 10, 3) := by decide +kernel
theorem dX8_multiply_75 : decode cX8_multiply 75 = .ok (.getfield 42, 3) := by decide +kernel
theorem dX8_multiply_78 : decode cX8_multiply 78 = .ok (.invokestatic 78, 3) := by decide +kernel
theorem dX8_multiply_81 : decode cX8_multiply 81 = .ok (.return_, 1) := by decide +kernel
set_option maxHeartbeats 4000000 in
set_option maxRecDepth 100000 in
theorem cn_X8_multiply {l : Launch} {cA : Nat → ClassId} {ad : Nat → Nat} {D : va_G} {E : Nat → Nat} {A : Nat → Prop} {k1 : Nat} {k2 : Nat} {s0 sr : SS} {rr : Unit} (hf : f_X8_multiply k1 k2 s0 = some (rr, sr)) : zCon Ox Nx cA ad D E l yX8_multiply cX8_multiply 5 none 2 A [.ref (ad 5), .ref (ad k1), .ref (ad k2)] s0 none sr := by
  refine zstart (own := RX8) hOx (by decide) rfl (Nat.le_of_ble_eq_true rfl) ?_
  intro p e s m args below meth c X hP ls hl
  have hx := X.1
  have hb := X.2.1
  have hl : lv_has ls 5 [(0, .ref (ad 5)), (1, .ref (ad k1)), (2, .ref (ad k2))] := hl
  have hS : va_S A s.heap s.heap [] := va_S.rf
  have hc_25 : ∀ (n25 : Nat) (k1 : Nat) (k2 : Nat) (x3 : Int32) (x4 : Int32) (s1 : SS) (H : Heap) (locs : List Loc) (ls : Array Slot), lv_has ls 5 [(0, .ref (ad 5)), (1, .ref (ad k1)), (2, .ref (ad k2)), (3, .int x3), (4, .int x4)] → va_P D ZCL (zw Ox Nx cA ad s1) H → va_S A s.heap H locs → f_X8_multiply_c25 n25 k1 k2 x3 x4 s1 = some (rr, sr) → W p l e (zrm 2) s m args below meth c H locs 0 0 (MQ below (zQc Ox Nx cA ad D A none sr) args s 0 0 A) (F0 m 25 ls []) := by
    intro n25
    induction n25 with
    | zero =>
      intro k1 k2 x3 x4 s1 H locs ls hl hP hS hf
      rw [f_X8_multiply_c25] at hf
      cases hf
    | succ n25 ih25 =>
      have hc_58 : ∀ (k1 : Nat) (k2 : Nat) (x3 : Int32) (x4 : Int32) (s1 : SS) (H : Heap) (locs : List Loc) (ls : Array Slot), lv_has ls 5 [(0, .ref (ad 5)), (1, .ref (ad k1)), (2, .ref (ad k2)), (3, .int x3), (4, .int x4)] → va_P D ZCL (zw Ox Nx cA ad s1) H → va_S A s.heap H locs → f_X8_multiply_c58 (f_X8_multiply_c25 n25) k1 k2 x3 x4 s1 = some (rr, sr) → W p l e (zrm 2) s m args below meth c H locs 0 0 (MQ below (zQc Ox Nx cA ad D A none sr) args s 0 0 A) (F0 m 58 ls []) := by
        intro k1 k2 x3 x4 s1 H locs ls hl hP hS hf
        rw [f_X8_multiply_c58] at hf
        refine lv_iinc (v := (x4 + 1)) (lv' := [(4, .int (x4 + 1)), (0, .ref (ad 5)), (1, .ref (ad k1)), (2, .ref (ad k2)), (3, .int x3)]) hx hb dX8_multiply_58 hl (k := 4) rfl rfl (by decide) rfl (fun ls hl => ?_)
        refine lv_goto (tgt := 25) hx hb dX8_multiply_61 (by decide) ?_
        exact ih25 k1 k2 x3 (x4 + 1) s1 _ _ _ (lv_sub hl [1, 2, 3, 4, 0] rfl) hP hS hf
      intro k1 k2 x3 x4 s1 H locs ls hl hP hS hf
      rw [f_X8_multiply_c25] at hf
      refine lv_iload hx hb dX8_multiply_25 (lv_at hl 4 rfl) ?_
      refine lv_aload_n hx hb dX8_multiply_27 rfl (lv_at hl 0 rfl) ?_
      refine gf_X8_10 X hP (k := 5) (q := 6) rfl dX8_multiply_28 rfl ?_
      refine gf_X8_42 X hP (k := 6) rfl dX8_multiply_31 ?_
      refine zicmp_ge (tgt := 64) hx hb dX8_multiply_34 (by decide) hf (fun hf => ?_) (fun hf => ?_)
      · refine lv_aload_n hx hb dX8_multiply_64 rfl (lv_at hl 0 rfl) ?_
        refine gf_X8_29 X hP (k := 5) (q := 25) rfl dX8_multiply_65 rfl ?_
        refine lv_iconst (v := 0) hx hb dX8_multiply_68 (by decide) ?_
        refine lv_aload_n hx hb dX8_multiply_69 rfl (lv_at hl 1 rfl) ?_
        refine lv_iconst (v := 0) hx hb dX8_multiply_70 (by decide) ?_
        refine lv_aload_n hx hb dX8_multiply_71 rfl (lv_at hl 0 rfl) ?_
        refine gf_X8_10 X hP (k := 5) (q := 6) rfl dX8_multiply_72 rfl ?_
        refine gf_X8_42 X hP (k := 6) rfl dX8_multiply_75 ?_
        obtain ⟨g7, hf⟩ := zgd hf
        refine zcp_l X hP hS hl.1 (k0 := 25) (k1 := k1) ml_X8_78 nt_copy.1 nt_copy.2.1 nt_copy.2.2 g7 ⟨Nat.le_of_ble_eq_true rfl, Nat.le_of_ble_eq_true rfl⟩ dX8_multiply_78 (fun H locs hP hS => ?_)
        exact zret_v X hP hS hf dX8_multiply_81
      · refine lv_aload_n hx hb dX8_multiply_37 rfl (lv_at hl 1 rfl) ?_
        refine lv_iload hx hb dX8_multiply_38 (lv_at hl 4 rfl) ?_
        obtain ⟨g8, hf⟩ := zgd hf
        obtain ⟨n14, rn14, on14, in14⟩ := zok_of g8
        refine zald_l X hP (k := k1) on14 in14 dX8_multiply_40 ?_
        refine lv_lconst (v := 0) hx hb dX8_multiply_41 (by decide) ?_
        refine W.lcmp hx hb dX8_multiply_42 ?_
        refine zif_eq (tgt := 58) hx hb dX8_multiply_43 (by decide) hf (fun hf => ?_) (fun hf => ?_)
        · exact hc_58 k1 k2 x3 x4 s1 _ _ _ (lv_sub hl [0, 1, 2, 3, 4] rfl) hP hS hf
        · refine lv_aload_n hx hb dX8_multiply_46 rfl (lv_at hl 0 rfl) ?_
          refine lv_iload hx hb dX8_multiply_47 (lv_at hl 4 rfl) ?_
          refine lv_aload_n hx hb dX8_multiply_49 rfl (lv_at hl 1 rfl) ?_
          refine lv_iload hx hb dX8_multiply_50 (lv_at hl 4 rfl) ?_
          obtain ⟨g9, hf⟩ := zgd hf
          obtain ⟨n13, rn13, on13, in13⟩ := zok_of g9
          refine zald_l X hP (k := k1) on13 in13 dX8_multiply_52 ?_
          refine lv_aload_n hx hb dX8_multiply_53 rfl (lv_at hl 2 rfl) ?_
          refine lv_iload_n hx hb dX8_multiply_54 rfl (lv_at hl 3 rfl) ?_
          obtain ⟨r10, s11, h12, hf⟩ := zbd_some hf
          refine zcallV X hP hS hl.1 (k := 5) (As := [.int x4, .long (s1.2 k1 (x4).toNatClampNeg), .ref (ad k2), .int x3]) (rest := []) (cn_X8_addShifted h12) cw_X8_addShifted zp_8 rfl (by decide) rfl ml_X8_74 (by decide) rfl rfl (Nat.le_of_ble_eq_true rfl) dX8_multiply_55 (fun H locs hP hS => ?_)
          exact hc_58 k1 k2 x3 x4 s11 _ _ _ (lv_sub hl [0, 1, 2, 3, 4] rfl) hP hS hf
  rw [f_X8_multiply] at hf
  refine lv_aload_n hx hb dX8_multiply_0 rfl (lv_at hl 0 rfl) ?_
  refine lv_aload_n hx hb dX8_multiply_1 rfl (lv_at hl 2 rfl) ?_
  obtain ⟨r1, s2, h3, hf⟩ := zbd_some hf
  refine zcallV X hP hS hl.1 (k := 5) (As := [.ref (ad k2)]) (rest := []) (cn_X8_hold h3) cw_X8_hold zp_8 rfl (by decide) rfl ml_X8_67 (by decide) rfl rfl (Nat.le_of_ble_eq_true rfl) dX8_multiply_2 (fun H locs hP hS => ?_)
  refine lv_istore_n (lv' := [(3, .int r1), (0, .ref (ad 5)), (1, .ref (ad k1)), (2, .ref (ad k2))]) hx hb dX8_multiply_5 rfl hl (by decide) rfl (fun ls hl => ?_)
  refine lv_aload_n hx hb dX8_multiply_6 rfl (lv_at hl 1 rfl) ?_
  refine gf_X8_29 X hP (k := 5) (q := 25) rfl dX8_multiply_7 rfl ?_
  refine lv_iconst (v := 0) hx hb dX8_multiply_10 (by decide) ?_
  refine lv_aload_n hx hb dX8_multiply_11 rfl (lv_at hl 1 rfl) ?_
  refine gf_X8_10 X hP (k := 5) (q := 6) rfl dX8_multiply_12 rfl ?_
  refine gf_X8_42 X hP (k := 6) rfl dX8_multiply_15 ?_
  refine lv_lconst (v := 0) hx hb dX8_multiply_18 (by decide) ?_
  obtain ⟨r4, s5, h6, hf⟩ := zbd_some hf
  refine zcallS X hP hS hl.1 (As := [.ref (ad 25), .int 0, .int (s2.1 6 2), .long 0]) (rest := []) (cn_J7_fill_bad5a h6) cw_J7_fill_bad5a ml_X8_71 (by decide) rfl rfl (Nat.le_of_ble_eq_true rfl) dX8_multiply_19 (fun H locs hP hS => ?_)
  refine lv_iconst (v := 0) hx hb dX8_multiply_22 (by decide) ?_
  refine lv_istore (lv' := [(4, .int 0), (3, .int r1), (0, .ref (ad 5)), (1, .ref (ad k1)), (2, .ref (ad k2))]) hx hb dX8_multiply_23 hl (by decide) rfl (fun ls hl => ?_)
  exact hc_25 ZF k1 k2 r1 0 s5 _ _ _ (lv_sub hl [2, 3, 4, 1, 0] rfl) hP hS hf
theorem dX8_multiplyBy_0 : decode cX8_multiplyBy 0 = .ok (.aload_n 0, 1) := by decide +kernel
theorem dX8_multiplyBy_1 : decode cX8_multiplyBy 1 = .ok (.aload_n 1, 1) := by decide +kernel
theorem dX8_multiplyBy_2 : decode cX8_multiplyBy 2 = .ok (.aload_n 0, 1) := by decide +kernel
theorem dX8_multiplyBy_3 : decode cX8_multiplyBy 3 = .ok (.getfield 20, 3) := by decide +kernel
theorem dX8_multiplyBy_6 : decode cX8_multiplyBy 6 = .ok (.invokevirtual 93, 3) := by decide +kernel
theorem dX8_multiplyBy_9 : decode cX8_multiplyBy 9 = .ok (.aload_n 0, 1) := by decide +kernel
theorem dX8_multiplyBy_10 : decode cX8_multiplyBy 10 = .ok (.aload_n 0, 1) := by decide +kernel
theorem dX8_multiplyBy_11 : decode cX8_multiplyBy 11 = .ok (.getfield 16, 3) := by decide +kernel
theorem dX8_multiplyBy_14 : decode cX8_multiplyBy 14 = .ok (.aload_n 0, 1) := by decide +kernel
theorem dX8_multiplyBy_15 : decode cX8_multiplyBy 15 = .ok (.getfield 20, 3) := by decide +kernel
theorem dX8_multiplyBy_18 : decode cX8_multiplyBy 18 = .ok (.invokevirtual 97, 3) := by decide +kernel
theorem dX8_multiplyBy_21 : decode cX8_multiplyBy 21 = .ok (.return_, 1) := by decide +kernel
set_option maxHeartbeats 4000000 in
set_option maxRecDepth 100000 in
theorem cn_X8_multiplyBy {l : Launch} {cA : Nat → ClassId} {ad : Nat → Nat} {D : va_G} {E : Nat → Nat} {A : Nat → Prop} {k1 : Nat} {s0 sr : SS} {rr : Unit} (hf : f_X8_multiplyBy k1 s0 = some (rr, sr)) : zCon Ox Nx cA ad D E l yX8_multiplyBy cX8_multiplyBy 2 none 3 A [.ref (ad 5), .ref (ad k1)] s0 none sr := by
  refine zstart (own := RX8) hOx (by decide) rfl (Nat.le_of_ble_eq_true rfl) ?_
  intro p e s m args below meth c X hP ls hl
  have hx := X.1
  have hb := X.2.1
  have hl : lv_has ls 2 [(0, .ref (ad 5)), (1, .ref (ad k1))] := hl
  have hS : va_S A s.heap s.heap [] := va_S.rf
  rw [f_X8_multiplyBy] at hf
  obtain ⟨gp1, hf⟩ := zgd hf
  refine lv_aload_n hx hb dX8_multiplyBy_0 rfl (lv_at hl 0 rfl) ?_
  refine lv_aload_n hx hb dX8_multiplyBy_1 rfl (lv_at hl 1 rfl) ?_
  refine lv_aload_n hx hb dX8_multiplyBy_2 rfl (lv_at hl 0 rfl) ?_
  refine gf_X8_20 X hP (k := 5) (q := 22) rfl dX8_multiplyBy_3 rfl ?_
  obtain ⟨r1, s2, h3, hf⟩ := zbd_some hf
  refine zcallV X hP hS hl.1 (k := 5) (As := [.ref (ad k1), .ref (ad 22)]) (rest := []) (cn_X8_takeNumbers h3) cw_X8_takeNumbers zp_8 rfl (by decide) rfl ml_X8_93 (by decide) rfl rfl (Nat.le_of_ble_eq_true rfl) dX8_multiplyBy_6 (fun H locs hP hS => ?_)
  refine lv_aload_n hx hb dX8_multiplyBy_9 rfl (lv_at hl 0 rfl) ?_
  refine lv_aload_n hx hb dX8_multiplyBy_10 rfl (lv_at hl 0 rfl) ?_
  refine gf_X8_16 X hP (k := 5) (q := 21) rfl dX8_multiplyBy_11 rfl ?_
  refine lv_aload_n hx hb dX8_multiplyBy_14 rfl (lv_at hl 0 rfl) ?_
  refine gf_X8_20 X hP (k := 5) (q := 22) rfl dX8_multiplyBy_15 rfl ?_
  obtain ⟨r4, s5, h6, hf⟩ := zbd_some hf
  refine zcallV X hP hS hl.1 (k := 5) (As := [.ref (ad 21), .ref (ad 22)]) (rest := []) (cn_X8_multiply h6) cw_X8_multiply zp_8 rfl (by decide) rfl ml_X8_97 (by decide) rfl rfl (Nat.le_of_ble_eq_true rfl) dX8_multiplyBy_18 (fun H locs hP hS => ?_)
  exact zret_v X hP hS hf dX8_multiplyBy_21
theorem dX8_makePower_0 : decode cX8_makePower 0 = .ok (.aload_n 0, 1) := by decide +kernel
theorem dX8_makePower_1 : decode cX8_makePower 1 = .ok (.aload_n 0, 1) := by decide +kernel
theorem dX8_makePower_2 : decode cX8_makePower 2 = .ok (.getfield 16, 3) := by decide +kernel
theorem dX8_makePower_5 : decode cX8_makePower 5 = .ok (.invokevirtual 101, 3) := by decide +kernel
theorem dX8_makePower_8 : decode cX8_makePower 8 = .ok (.aload_n 0, 1) := by decide +kernel
theorem dX8_makePower_9 : decode cX8_makePower 9 = .ok (.aload_n 1, 1) := by decide +kernel
theorem dX8_makePower_10 : decode cX8_makePower 10 = .ok (.aload_n 0, 1) := by decide +kernel
theorem dX8_makePower_11 : decode cX8_makePower 11 = .ok (.getfield 20, 3) := by decide +kernel
theorem dX8_makePower_14 : decode cX8_makePower 14 = .ok (.invokevirtual 93, 3) := by decide +kernel
theorem dX8_makePower_17 : decode cX8_makePower 17 = .ok (.iconst 0, 1) := by decide +kernel
theorem dX8_makePower_18 : decode cX8_makePower 18 = .ok (.istore_n 3, 1) := by decide +kernel
theorem dX8_makePower_19 : decode cX8_makePower 19 = .ok (.iload_n 3, 1) := by decide +kernel
theorem dX8_makePower_20 : decode cX8_makePower 20 = .ok (.iload_n 2, 1) := by decide +kernel
theorem dX8_makePower_21 : decode cX8_makePower 21 = .ok (.if_icmp .ge 21, 3) := by decide +kernel
theorem dX8_makePower_24 : decode cX8_makePower 24 = .ok (.aload_n 0, 1) := by decide +kernel
theorem dX8_makePower_25 : decode cX8_makePower 25 = .ok (.aload_n 0, 1) := by decide +kernel
theorem dX8_makePower_26 : decode cX8_makePower 26 = .ok (.getfield 16, 3) := by decide +kernel
theorem dX8_makePower_29 : decode cX8_makePower 29 = .ok (.aload_n 0, 1) := by decide +kernel
theorem dX8_makePower_30 : decode cX8_makePower 30 = .ok (.getfield 20, 3) := by decide +kernel
theorem dX8_makePower_33 : decode cX8_makePower 33 = .ok (.invokevirtual 97, 3) := by decide +kernel
theorem dX8_makePower_36 : decode cX8_makePower 36 = .ok (.iinc 3 1, 3) := by decide +kernel
theorem dX8_makePower_39 : decode cX8_makePower 39 = .ok (.goto (-20), 3) := by decide +kernel
theorem dX8_makePower_42 : decode cX8_makePower 42 = .ok (.return_, 1) := by decide +kernel
set_option maxHeartbeats 4000000 in
set_option maxRecDepth 100000 in
theorem cn_X8_makePower {l : Launch} {cA : Nat → ClassId} {ad : Nat → Nat} {D : va_G} {E : Nat → Nat} {A : Nat → Prop} {k1 : Nat} {x2 : Int32} {s0 sr : SS} {rr : Unit} (hf : f_X8_makePower k1 x2 s0 = some (rr, sr)) : zCon Ox Nx cA ad D E l yX8_makePower cX8_makePower 4 none 3 A [.ref (ad 5), .ref (ad k1), .int x2] s0 none sr := by
  refine zstart (own := RX8) hOx (by decide) rfl (Nat.le_of_ble_eq_true rfl) ?_
  intro p e s m args below meth c X hP ls hl
  have hx := X.1
  have hb := X.2.1
  have hl : lv_has ls 4 [(0, .ref (ad 5)), (1, .ref (ad k1)), (2, .int x2)] := hl
  have hS : va_S A s.heap s.heap [] := va_S.rf
  have hc_19 : ∀ (n19 : Nat) (x2 : Int32) (x3 : Int32) (s1 : SS) (H : Heap) (locs : List Loc) (ls : Array Slot), lv_has ls 4 [(0, .ref (ad 5)), (2, .int x2), (3, .int x3)] → va_P D ZCL (zw Ox Nx cA ad s1) H → va_S A s.heap H locs → f_X8_makePower_c19 n19 x2 x3 s1 = some (rr, sr) → W p l e (zrm 3) s m args below meth c H locs 0 0 (MQ below (zQc Ox Nx cA ad D A none sr) args s 0 0 A) (F0 m 19 ls []) := by
    intro n19
    induction n19 with
    | zero =>
      intro x2 x3 s1 H locs ls hl hP hS hf
      rw [f_X8_makePower_c19] at hf
      cases hf
    | succ n19 ih19 =>
      intro x2 x3 s1 H locs ls hl hP hS hf
      rw [f_X8_makePower_c19] at hf
      refine lv_iload_n hx hb dX8_makePower_19 rfl (lv_at hl 2 rfl) ?_
      refine lv_iload_n hx hb dX8_makePower_20 rfl (lv_at hl 1 rfl) ?_
      refine zicmp_ge (tgt := 42) hx hb dX8_makePower_21 (by decide) hf (fun hf => ?_) (fun hf => ?_)
      · exact zret_v X hP hS hf dX8_makePower_42
      · refine lv_aload_n hx hb dX8_makePower_24 rfl (lv_at hl 0 rfl) ?_
        refine lv_aload_n hx hb dX8_makePower_25 rfl (lv_at hl 0 rfl) ?_
        refine gf_X8_16 X hP (k := 5) (q := 21) rfl dX8_makePower_26 rfl ?_
        refine lv_aload_n hx hb dX8_makePower_29 rfl (lv_at hl 0 rfl) ?_
        refine gf_X8_20 X hP (k := 5) (q := 22) rfl dX8_makePower_30 rfl ?_
        obtain ⟨r7, s8, h9, hf⟩ := zbd_some hf
        refine zcallV X hP hS hl.1 (k := 5) (As := [.ref (ad 21), .ref (ad 22)]) (rest := []) (cn_X8_multiply h9) cw_X8_multiply zp_8 rfl (by decide) rfl ml_X8_97 (by decide) rfl rfl (Nat.le_of_ble_eq_true rfl) dX8_makePower_33 (fun H locs hP hS => ?_)
        refine lv_iinc (v := (x3 + 1)) (lv' := [(3, .int (x3 + 1)), (0, .ref (ad 5)), (2, .int x2)]) hx hb dX8_makePower_36 hl (k := 2) rfl rfl (by decide) rfl (fun ls hl => ?_)
        refine lv_goto (tgt := 19) hx hb dX8_makePower_39 (by decide) ?_
        exact ih19 x2 (x3 + 1) s8 _ _ _ (lv_sub hl [1, 2, 0] rfl) hP hS hf
  rw [f_X8_makePower] at hf
  obtain ⟨gp1, hf⟩ := zgd hf
  refine lv_aload_n hx hb dX8_makePower_0 rfl (lv_at hl 0 rfl) ?_
  refine lv_aload_n hx hb dX8_makePower_1 rfl (lv_at hl 0 rfl) ?_
  refine gf_X8_16 X hP (k := 5) (q := 21) rfl dX8_makePower_2 rfl ?_
  obtain ⟨r1, s2, h3, hf⟩ := zbd_some hf
  refine zcallV X hP hS hl.1 (k := 5) (As := [.ref (ad 21)]) (rest := []) (cn_X8_makeOne h3) cw_X8_makeOne zp_8 rfl (by decide) rfl ml_X8_101 (by decide) rfl rfl (Nat.le_of_ble_eq_true rfl) dX8_makePower_5 (fun H locs hP hS => ?_)
  refine lv_aload_n hx hb dX8_makePower_8 rfl (lv_at hl 0 rfl) ?_
  refine lv_aload_n hx hb dX8_makePower_9 rfl (lv_at hl 1 rfl) ?_
  refine lv_aload_n hx hb dX8_makePower_10 rfl (lv_at hl 0 rfl) ?_
  refine gf_X8_20 X hP (k := 5) (q := 22) rfl dX8_makePower_11 rfl ?_
  obtain ⟨r4, s5, h6, hf⟩ := zbd_some hf
  refine zcallV X hP hS hl.1 (k := 5) (As := [.ref (ad k1), .ref (ad 22)]) (rest := []) (cn_X8_takeNumbers h6) cw_X8_takeNumbers zp_8 rfl (by decide) rfl ml_X8_93 (by decide) rfl rfl (Nat.le_of_ble_eq_true rfl) dX8_makePower_14 (fun H locs hP hS => ?_)
  refine lv_iconst (v := 0) hx hb dX8_makePower_17 (by decide) ?_
  refine lv_istore_n (lv' := [(3, .int 0), (0, .ref (ad 5)), (1, .ref (ad k1)), (2, .int x2)]) hx hb dX8_makePower_18 rfl hl (by decide) rfl (fun ls hl => ?_)
  exact hc_19 ZF x2 0 s5 _ _ _ (lv_sub hl [1, 3, 0] rfl) hP hS hf
theorem dX8_metOf_0 : decode cX8_metOf 0 = .ok (.lconst 0, 1) := by decide +kernel
theorem dX8_metOf_1 : decode cX8_metOf 1 = .ok (.lstore_n 2, 1) := by decide +kernel
theorem dX8_metOf_2 : decode cX8_metOf 2 = .ok (.aload_n 0, 1) := by decide +kernel
theorem dX8_metOf_3 : decode cX8_metOf 3 = .ok (.getfield 10, 3) := by decide +kernel
theorem dX8_metOf_6 : decode cX8_metOf 6 = .ok (.getfield 105, 3) := by decide +kernel
theorem dX8_metOf_9 : decode cX8_metOf 9 = .ok (.aload_n 0, 1) := by decide +kernel
theorem dX8_metOf_10 : decode cX8_metOf 10 = .ok (.getfield 10, 3) := by decide +kernel
theorem dX8_metOf_13 : decode cX8_metOf 13 = .ok (.getfield 87, 3) := by decide +kernel
theorem dX8_metOf_16 : decode cX8_metOf 16 = .ok (.iaload, 1) := by decide +kernel
theorem dX8_metOf_17 : decode cX8_metOf 17 = .ok (.istore 4, 2) := by decide +kernel
theorem dX8_metOf_19 : decode cX8_metOf 19 = .ok (.iload 4, 2) := by decide +kernel
theorem dX8_metOf_21 : decode cX8_metOf 21 = .ok (.aload_n 0, 1) := by decide +kernel
theorem dX8_metOf_22 : decode cX8_metOf 22 = .ok (.getfield 10, 3) := by decide +kernel
theorem dX8_metOf_25 : decode cX8_metOf 25 = .ok (.getfield 42, 3) := by decide +kernel
theorem dX8_metOf_28 : decode cX8_metOf 28 = .ok (.if_icmp .ge 39, 3) := by decide +kernel
theorem dX8_metOf_31 : decode cX8_metOf 31 = .ok (.aload_n 0, 1) := by decide +kernel
theorem dX8_metOf_32 : decode cX8_metOf 32 = .ok (.getfield 10, 3) := by decide +kernel
theorem dX8_metOf_35 : decode cX8_metOf 35 = .ok (.getfield 84, 3) := by decide +kernel
theorem dX8_metOf_38 : decode cX8_metOf 38 = .ok (.iload 4, 2) := by decide +kernel
theorem dX8_metOf_40 : decode cX8_metOf 40 = .ok (.iaload, 1) := by decide +kernel
theorem dX8_metOf_41 : decode cX8_metOf 41 = .ok (.istore 5, 2) := by decide +kernel
theorem dX8_metOf_43 : decode cX8_metOf 43 = .ok (.lload_n 2, 1) := by decide +kernel
theorem dX8_metOf_44 : decode cX8_metOf 44 = .ok (.aload_n 1, 1) := by decide +kernel
theorem dX8_metOf_45 : decode cX8_metOf 45 = .ok (.iload 5, 2) := by decide +kernel
theorem dX8_metOf_47 : decode cX8_metOf 47 = .ok (.laload, 1) := by decide +kernel
theorem dX8_metOf_48 : decode cX8_metOf 48 = .ok (.aload_n 0, 1) := by decide +kernel
theorem dX8_metOf_49 : decode cX8_metOf 49 = .ok (.getfield 10, 3) := by decide +kernel
theorem dX8_metOf_52 : decode cX8_metOf 52 = .ok (.getfield 108, 3) := by decide +kernel
theorem dX8_metOf_55 : decode cX8_metOf 55 = .ok (.iload 5, 2) := by decide +kernel
theorem dX8_metOf_57 : decode cX8_metOf 57 = .ok (.laload, 1) := by decide +kernel
theorem dX8_metOf_58 : decode cX8_metOf 58 = .ok (.lmul, 1) := by decide +kernel
theorem dX8_metOf_59 : decode cX8_metOf 59 = .ok (.ladd, 1) := by decide +kernel
theorem dX8_metOf_60 : decode cX8_metOf 60 = .ok (.lstore_n 2, 1) := by decide +kernel
theorem dX8_metOf_61 : decode cX8_metOf 61 = .ok (.iinc 4 1, 3) := by decide +kernel
theorem dX8_metOf_64 : decode cX8_metOf 64 = .ok (.goto (-45), 3) := by decide +kernel
theorem dX8_metOf_67 : decode cX8_metOf 67 = .ok (.lload_n 2, 1) := by decide +kernel
theorem dX8_metOf_68 : decode cX8_metOf 68 = .ok (.lreturn, 1) := by decide +kernel
set_option maxHeartbeats 4000000 in
set_option maxRecDepth 100000 in
theorem cn_X8_metOf {l : Launch} {cA : Nat → ClassId} {ad : Nat → Nat} {D : va_G} {E : Nat → Nat} {A : Nat → Prop} {k1 : Nat} {s0 sr : SS} {rr : Int64} (hf : f_X8_metOf k1 s0 = some (rr, sr)) : zCon Ox Nx cA ad D E l yX8_metOf cX8_metOf 6 (some .long) 0 A [.ref (ad 5), .ref (ad k1)] s0 (some (.long rr)) sr := by
  refine zstart (own := RX8) hOx (by decide) rfl (Nat.le_of_ble_eq_true rfl) ?_
  intro p e s m args below meth c X hP ls hl
  have hx := X.1
  have hb := X.2.1
  have hl : lv_has ls 6 [(0, .ref (ad 5)), (1, .ref (ad k1))] := hl
  have hS : va_S A s.heap s.heap [] := va_S.rf
  have hc_19 : ∀ (n19 : Nat) (k1 : Nat) (x2 : Int64) (x4 : Int32) (s1 : SS) (H : Heap) (locs : List Loc) (ls : Array Slot), lv_has ls 6 [(0, .ref (ad 5)), (1, .ref (ad k1)), (2, .long x2), (4, .int x4)] → va_P D ZCL (zw Ox Nx cA ad s1) H → va_S A s.heap H locs → f_X8_metOf_c19 n19 k1 x2 x4 s1 = some (rr, sr) → W p l e (zrm 0) s m args below meth c H locs 0 0 (MQ below (zQc Ox Nx cA ad D A (some (.long rr)) sr) args s 0 0 A) (F0 m 19 ls []) := by
    intro n19
    induction n19 with
    | zero =>
      intro k1 x2 x4 s1 H locs ls hl hP hS hf
      rw [f_X8_metOf_c19] at hf
      cases hf
    | succ n19 ih19 =>
      intro k1 x2 x4 s1 H locs ls hl hP hS hf
      rw [f_X8_metOf_c19] at hf
      refine lv_iload hx hb dX8_metOf_19 (lv_at hl 3 rfl) ?_
      refine lv_aload_n hx hb dX8_metOf_21 rfl (lv_at hl 0 rfl) ?_
      refine gf_X8_10 X hP (k := 5) (q := 6) rfl dX8_metOf_22 rfl ?_
      refine gf_X8_42 X hP (k := 6) rfl dX8_metOf_25 ?_
      refine zicmp_ge (tgt := 67) hx hb dX8_metOf_28 (by decide) hf (fun hf => ?_) (fun hf => ?_)
      · refine lv_lload_n hx hb dX8_metOf_67 rfl (lv_at hl 2 rfl) ?_
        exact zret_l X hP hS hf dX8_metOf_68
      · refine lv_aload_n hx hb dX8_metOf_31 rfl (lv_at hl 0 rfl) ?_
        refine gf_X8_10 X hP (k := 5) (q := 6) rfl dX8_metOf_32 rfl ?_
        refine gf_X8_84 X hP (k := 6) (q := 66) rfl dX8_metOf_35 rfl ?_
        refine lv_iload hx hb dX8_metOf_38 (lv_at hl 3 rfl) ?_
        obtain ⟨g2, hf⟩ := zgd hf
        refine zald_i X hP (k := 66) (n := 462) (rs := []) rfl g2 dX8_metOf_40 ?_
        refine lv_istore (lv' := [(5, .int (s1.1 66 (x4).toNatClampNeg)), (0, .ref (ad 5)), (1, .ref (ad k1)), (2, .long x2), (4, .int x4)]) hx hb dX8_metOf_41 hl (by decide) rfl (fun ls hl => ?_)
        refine lv_lload_n hx hb dX8_metOf_43 rfl (lv_at hl 3 rfl) ?_
        refine lv_aload_n hx hb dX8_metOf_44 rfl (lv_at hl 2 rfl) ?_
        refine lv_iload hx hb dX8_metOf_45 (lv_at hl 0 rfl) ?_
        obtain ⟨g3, hf⟩ := zgd hf
        obtain ⟨n5, rn5, on5, in5⟩ := zok_of g3
        refine zald_l X hP (k := k1) on5 in5 dX8_metOf_47 ?_
        refine lv_aload_n hx hb dX8_metOf_48 rfl (lv_at hl 1 rfl) ?_
        refine gf_X8_10 X hP (k := 5) (q := 6) rfl dX8_metOf_49 rfl ?_
        refine gf_X8_108 X hP (k := 6) (q := 64) rfl dX8_metOf_52 rfl ?_
        refine lv_iload hx hb dX8_metOf_55 (lv_at hl 0 rfl) ?_
        obtain ⟨g4, hf⟩ := zgd hf
        refine zald_l X hP (k := 64) (n := 462) (rs := []) rfl g4 dX8_metOf_57 ?_
        refine lv_lmul hx hb dX8_metOf_58 ?_
        refine lv_ladd hx hb dX8_metOf_59 ?_
        refine lv_lstore_n (lv' := [(2, .long (x2 + ((s1.2 k1 ((s1.1 66 (x4).toNatClampNeg)).toNatClampNeg) * (s1.2 64 ((s1.1 66 (x4).toNatClampNeg)).toNatClampNeg)))), (5, .int (s1.1 66 (x4).toNatClampNeg)), (0, .ref (ad 5)), (1, .ref (ad k1)), (4, .int x4)]) hx hb dX8_metOf_60 rfl hl (by decide) rfl (fun ls hl => ?_)
        refine lv_iinc (v := (x4 + 1)) (lv' := [(4, .int (x4 + 1)), (2, .long (x2 + ((s1.2 k1 ((s1.1 66 (x4).toNatClampNeg)).toNatClampNeg) * (s1.2 64 ((s1.1 66 (x4).toNatClampNeg)).toNatClampNeg)))), (5, .int (s1.1 66 (x4).toNatClampNeg)), (0, .ref (ad 5)), (1, .ref (ad k1))]) hx hb dX8_metOf_61 hl (k := 4) rfl rfl (by decide) rfl (fun ls hl => ?_)
        refine lv_goto (tgt := 19) hx hb dX8_metOf_64 (by decide) ?_
        exact ih19 k1 (x2 + ((s1.2 k1 ((s1.1 66 (x4).toNatClampNeg)).toNatClampNeg) * (s1.2 64 ((s1.1 66 (x4).toNatClampNeg)).toNatClampNeg))) (x4 + 1) s1 _ _ _ (lv_sub hl [3, 4, 1, 0] rfl) hP hS hf
  rw [f_X8_metOf] at hf
  refine lv_lconst (v := 0) hx hb dX8_metOf_0 (by decide) ?_
  refine lv_lstore_n (lv' := [(2, .long 0), (0, .ref (ad 5)), (1, .ref (ad k1))]) hx hb dX8_metOf_1 rfl hl (by decide) rfl (fun ls hl => ?_)
  refine lv_aload_n hx hb dX8_metOf_2 rfl (lv_at hl 1 rfl) ?_
  refine gf_X8_10 X hP (k := 5) (q := 6) rfl dX8_metOf_3 rfl ?_
  refine gf_X8_105 X hP (k := 6) (q := 67) rfl dX8_metOf_6 rfl ?_
  refine lv_aload_n hx hb dX8_metOf_9 rfl (lv_at hl 1 rfl) ?_
  refine gf_X8_10 X hP (k := 5) (q := 6) rfl dX8_metOf_10 rfl ?_
  refine gf_X8_87 X hP (k := 6) rfl dX8_metOf_13 ?_
  obtain ⟨g1, hf⟩ := zgd hf
  refine zald_i X hP (k := 67) (n := 7) (rs := []) rfl g1 dX8_metOf_16 ?_
  refine lv_istore (lv' := [(4, .int (s0.1 67 ((s0.1 6 0)).toNatClampNeg)), (2, .long 0), (0, .ref (ad 5)), (1, .ref (ad k1))]) hx hb dX8_metOf_17 hl (by decide) rfl (fun ls hl => ?_)
  exact hc_19 ZF k1 0 (s0.1 67 ((s0.1 6 0)).toNatClampNeg) s0 _ _ _ (lv_sub hl [2, 3, 1, 0] rfl) hP hS hf
theorem dX8_metWith_0 : decode cX8_metWith 0 = .ok (.aload_n 0, 1) := by decide +kernel
theorem dX8_metWith_1 : decode cX8_metWith 1 = .ok (.getfield 10, 3) := by decide +kernel
theorem dX8_metWith_4 : decode cX8_metWith 4 = .ok (.getfield 87, 3) := by decide +kernel
theorem dX8_metWith_7 : decode cX8_metWith 7 = .ok (.aload_n 0, 1) := by decide +kernel
theorem dX8_metWith_8 : decode cX8_metWith 8 = .ok (.getfield 10, 3) := by decide +kernel
theorem dX8_metWith_11 : decode cX8_metWith 11 = .ok (.getfield 64, 3) := by decide +kernel
theorem dX8_metWith_14 : decode cX8_metWith 14 = .ok (.iload_n 2, 1) := by decide +kernel
theorem dX8_metWith_15 : decode cX8_metWith 15 = .ok (.iaload, 1) := by decide +kernel
theorem dX8_metWith_16 : decode cX8_metWith 16 = .ok (.isub, 1) := by decide +kernel
theorem dX8_metWith_17 : decode cX8_metWith 17 = .ok (.istore_n 3, 1) := by decide +kernel
theorem dX8_metWith_18 : decode cX8_metWith 18 = .ok (.lconst 0, 1) := by decide +kernel
theorem dX8_metWith_19 : decode cX8_metWith 19 = .ok (.lstore 4, 2) := by decide +kernel
theorem dX8_metWith_21 : decode cX8_metWith 21 = .ok (.aload_n 0, 1) := by decide +kernel
theorem dX8_metWith_22 : decode cX8_metWith 22 = .ok (.getfield 10, 3) := by decide +kernel
theorem dX8_metWith_25 : decode cX8_metWith 25 = .ok (.getfield 105, 3) := by decide +kernel
theorem dX8_metWith_28 : decode cX8_metWith 28 = .ok (.iload_n 3, 1) := by decide +kernel
theorem dX8_metWith_29 : decode cX8_metWith 29 = .ok (.iaload, 1) := by decide +kernel
theorem dX8_metWith_30 : decode cX8_metWith 30 = .ok (.istore 6, 2) := by decide +kernel
theorem dX8_metWith_32 : decode cX8_metWith 32 = .ok (.iload 6, 2) := by decide +kernel
theorem dX8_metWith_34 : decode cX8_metWith 34 = .ok (.aload_n 0, 1) := by decide +kernel
theorem dX8_metWith_35 : decode cX8_metWith 35 = .ok (.getfield 10, 3) := by decide +kernel
theorem dX8_metWith_38 : decode cX8_metWith 38 = .ok (.getfield 105, 3) := by decide +kernel
theorem dX8_metWith_41 : decode cX8_metWith 41 = .ok (.iload_n 3, 1) := by decide +kernel
theorem dX8_metWith_42 : decode cX8_metWith 42 = .ok (.iconst 1, 1) := by decide +kernel
theorem dX8_metWith_43 : decode cX8_metWith 43 = .ok (.iadd, 1) := by decide +kernel
theorem dX8_metWith_44 : decode cX8_metWith 44 = .ok (.iaload, 1) := by decide +kernel
theorem dX8_metWith_45 : decode cX8_metWith 45 = .ok (.if_icmp .ge 88, 3) := by decide +kernel
theorem dX8_metWith_48 : decode cX8_metWith 48 = .ok (.aload_n 0, 1) := by decide +kernel
theorem dX8_metWith_49 : decode cX8_metWith 49 = .ok (.getfield 10, 3) := by decide +kernel
theorem dX8_metWith_52 : decode cX8_metWith 52 = .ok (.getfield 84, 3) := by decide +kernel
theorem dX8_metWith_55 : decode cX8_metWith 55 = .ok (.iload 6, 2) := by decide +kernel
theorem dX8_metWith_57 : decode cX8_metWith 57 = .ok (.iaload, 1) := by decide +kernel
theorem dX8_metWith_58 : decode cX8_metWith 58 = .ok (.istore 7, 2) := by decide +kernel
theorem dX8_metWith_60 : decode cX8_metWith 60 = .ok (.aload_n 1, 1) := by decide +kernel
theorem dX8_metWith_61 : decode cX8_metWith 61 = .ok (.iload 7, 2) := by decide +kernel
theorem dX8_metWith_63 : decode cX8_metWith 63 = .ok (.laload, 1) := by decide +kernel
theorem dX8_metWith_64 : decode cX8_metWith 64 = .ok (.lconst 0, 1) := by decide +kernel
theorem dX8_metWith_65 : decode cX8_metWith 65 = .ok (.lcmp, 1) := by decide +kernel
theorem dX8_metWith_66 : decode cX8_metWith 66 = .ok (.ifCond .ne 7, 3) := by decide +kernel
theorem dX8_metWith_69 : decode cX8_metWith 69 = .ok (.iconst (-1), 1) := by decide +kernel
theorem dX8_metWith_70 : decode cX8_metWith 70 = .ok (.goto 30, 3) := by decide +kernel
theorem dX8_metWith_73 : decode cX8_metWith 73 = .ok (.aload_n 0, 1) := by decide +kernel
theorem dX8_metWith_74 : decode cX8_metWith 74 = .ok (.getfield 10, 3) := by decide +kernel
theorem dX8_metWith_77 : decode cX8_metWith 77 = .ok (.aload_n 0, 1) := by decide +kernel
theorem dX8_metWith_78 : decode cX8_metWith 78 = .ok (.getfield 10, 3) := by decide +kernel
theorem dX8_metWith_81 : decode cX8_metWith 81 = .ok (.getfield 90, 3) := by decide +kernel
theorem dX8_metWith_84 : decode cX8_metWith 84 = .ok (.iload_n 2, 1) := by decide +kernel
theorem dX8_metWith_85 : decode cX8_metWith 85 = .ok (.iaload, 1) := by decide +kernel
theorem dX8_metWith_86 : decode cX8_metWith 86 = .ok (.aload_n 0, 1) := by decide +kernel
theorem dX8_metWith_87 : decode cX8_metWith 87 = .ok (.getfield 10, 3) := by decide +kernel
theorem dX8_metWith_90 : decode cX8_metWith 90 = .ok (.getfield 90, 3) := by decide +kernel
theorem dX8_metWith_93 : decode cX8_metWith 93 = .ok (.iload 7, 2) := by decide +kernel
theorem dX8_metWith_95 : decode cX8_metWith 95 = .ok (.iaload, 1) := by decide +kernel
theorem dX8_metWith_96 : decode cX8_metWith 96 = .ok (.iadd, 1) := by decide +kernel
theorem dX8_metWith_97 : decode cX8_metWith 97 = .ok (.invokevirtual 54, 3) := by decide +kernel
theorem dX8_metWith_100 : decode cX8_metWith 100 = .ok (.istore 8, 2) := by decide +kernel
theorem dX8_metWith_102 : decode cX8_metWith 102 = .ok (.iload 8, 2) := by decide +kernel
theorem dX8_metWith_104 : decode cX8_metWith 104 = .ok (.ifCond .lt 23, 3) := by decide +kernel
theorem dX8_metWith_107 : decode cX8_metWith 107 = .ok (.lload 4, 2) := by decide +kernel
theorem dX8_metWith_109 : decode cX8_metWith 109 = .ok (.aload_n 1, 1) := by decide +kernel
theorem dX8_metWith_110 : decode cX8_metWith 110 = .ok (.iload 7, 2) := by decide +kernel
theorem dX8_metWith_112 : decode cX8_metWith 112 = .ok (.laload, 1) := by decide +kernel
theorem dX8_metWith_113 : decode cX8_metWith 113 = .ok (.aload_n 0, 1) := by decide +kernel
theorem dX8_metWith_114 : decode cX8_metWith 114 = .ok (.getfield 10, 3) := by decide +kernel
theorem dX8_metWith_117 : decode cX8_metWith 117 = .ok (.getfield 108, 3) := by decide +kernel
theorem dX8_metWith_120 : decode cX8_metWith 120 = .ok (.iload 8, 2) := by decide +kernel
theorem dX8_metWith_122 : decode cX8_metWith 122 = .ok (.laload, 1) := by decide +kernel
theorem dX8_metWith_123 : decode cX8_metWith 123 = .ok (.lmul, 1) := by decide +kernel
theorem dX8_metWith_124 : decode cX8_metWith 124 = .ok (.ladd, 1) := by decide +kernel
theorem dX8_metWith_125 : decode cX8_metWith 125 = .ok (.lstore 4, 2) := by decide +kernel
theorem dX8_metWith_127 : decode cX8_metWith 127 = .ok (.iinc 6 1, 3) := by decide +kernel
theorem dX8_metWith_130 : decode cX8_metWith 130 = .ok (.goto (-98), 3) := by decide +kernel
theorem dX8_metWith_133 : decode cX8_metWith 133 = .ok (.lload 4, 2) := by decide +kernel
theorem dX8_metWith_135 : decode cX8_metWith 135 = .ok (.lreturn, 1) := by decide +kernel
set_option maxHeartbeats 4000000 in
set_option maxRecDepth 100000 in
theorem cn_X8_metWith {l : Launch} {cA : Nat → ClassId} {ad : Nat → Nat} {D : va_G} {E : Nat → Nat} {A : Nat → Prop} {k1 : Nat} {x2 : Int32} {s0 sr : SS} {rr : Int64} (hf : f_X8_metWith k1 x2 s0 = some (rr, sr)) : zCon Ox Nx cA ad D E l yX8_metWith cX8_metWith 9 (some .long) 1 A [.ref (ad 5), .ref (ad k1), .int x2] s0 (some (.long rr)) sr := by
  refine zstart (own := RX8) hOx (by decide) rfl (Nat.le_of_ble_eq_true rfl) ?_
  intro p e s m args below meth c X hP ls hl
  have hx := X.1
  have hb := X.2.1
  have hl : lv_has ls 9 [(0, .ref (ad 5)), (1, .ref (ad k1)), (2, .int x2)] := hl
  have hS : va_S A s.heap s.heap [] := va_S.rf
  have hc_32 : ∀ (n32 : Nat) (k1 : Nat) (x2 : Int32) (x3 : Int32) (x4 : Int64) (x6 : Int32) (s1 : SS) (H : Heap) (locs : List Loc) (ls : Array Slot), lv_has ls 9 [(0, .ref (ad 5)), (1, .ref (ad k1)), (2, .int x2), (3, .int x3), (4, .long x4), (6, .int x6)] → va_P D ZCL (zw Ox Nx cA ad s1) H → va_S A s.heap H locs → f_X8_metWith_c32 n32 k1 x2 x3 x4 x6 s1 = some (rr, sr) → W p l e (zrm 1) s m args below meth c H locs 0 0 (MQ below (zQc Ox Nx cA ad D A (some (.long rr)) sr) args s 0 0 A) (F0 m 32 ls []) := by
    intro n32
    induction n32 with
    | zero =>
      intro k1 x2 x3 x4 x6 s1 H locs ls hl hP hS hf
      rw [f_X8_metWith_c32] at hf
      cases hf
    | succ n32 ih32 =>
      have hc_127 : ∀ (k1 : Nat) (x2 : Int32) (x3 : Int32) (x4 : Int64) (x6 : Int32) (s1 : SS) (H : Heap) (locs : List Loc) (ls : Array Slot), lv_has ls 9 [(0, .ref (ad 5)), (1, .ref (ad k1)), (2, .int x2), (3, .int x3), (4, .long x4), (6, .int x6)] → va_P D ZCL (zw Ox Nx cA ad s1) H → va_S A s.heap H locs → f_X8_metWith_c127 (f_X8_metWith_c32 n32) k1 x2 x3 x4 x6 s1 = some (rr, sr) → W p l e (zrm 1) s m args below meth c H locs 0 0 (MQ below (zQc Ox Nx cA ad D A (some (.long rr)) sr) args s 0 0 A) (F0 m 127 ls []) := by
        intro k1 x2 x3 x4 x6 s1 H locs ls hl hP hS hf
        rw [f_X8_metWith_c127] at hf
        refine lv_iinc (v := (x6 + 1)) (lv' := [(6, .int (x6 + 1)), (0, .ref (ad 5)), (1, .ref (ad k1)), (2, .int x2), (3, .int x3), (4, .long x4)]) hx hb dX8_metWith_127 hl (k := 5) rfl rfl (by decide) rfl (fun ls hl => ?_)
        refine lv_goto (tgt := 32) hx hb dX8_metWith_130 (by decide) ?_
        exact ih32 k1 x2 x3 x4 (x6 + 1) s1 _ _ _ (lv_sub hl [1, 2, 3, 4, 5, 0] rfl) hP hS hf
      have hc_100 : ∀ (k1 : Nat) (x2 : Int32) (x3 : Int32) (x4 : Int64) (x6 : Int32) (x7 : Int32) (t0 : Int32) (s1 : SS) (H : Heap) (locs : List Loc) (ls : Array Slot), lv_has ls 9 [(0, .ref (ad 5)), (1, .ref (ad k1)), (2, .int x2), (3, .int x3), (4, .long x4), (6, .int x6), (7, .int x7)] → va_P D ZCL (zw Ox Nx cA ad s1) H → va_S A s.heap H locs → f_X8_metWith_c100 (f_X8_metWith_c32 n32) k1 x2 x3 x4 x6 x7 t0 s1 = some (rr, sr) → W p l e (zrm 1) s m args below meth c H locs 0 0 (MQ below (zQc Ox Nx cA ad D A (some (.long rr)) sr) args s 0 0 A) (F0 m 100 ls [.int t0]) := by
        intro k1 x2 x3 x4 x6 x7 t0 s1 H locs ls hl hP hS hf
        rw [f_X8_metWith_c100] at hf
        refine lv_istore (lv' := [(8, .int t0), (0, .ref (ad 5)), (1, .ref (ad k1)), (2, .int x2), (3, .int x3), (4, .long x4), (6, .int x6), (7, .int x7)]) hx hb dX8_metWith_100 hl (by decide) rfl (fun ls hl => ?_)
        refine lv_iload hx hb dX8_metWith_102 (lv_at hl 0 rfl) ?_
        refine zif_lt (tgt := 127) hx hb dX8_metWith_104 (by decide) hf (fun hf => ?_) (fun hf => ?_)
        · exact hc_127 k1 x2 x3 x4 x6 s1 _ _ _ (lv_sub hl [1, 2, 3, 4, 5, 6] rfl) hP hS hf
        · refine lv_lload hx hb dX8_metWith_107 (lv_at hl 5 rfl) ?_
          refine lv_aload_n hx hb dX8_metWith_109 rfl (lv_at hl 2 rfl) ?_
          refine lv_iload hx hb dX8_metWith_110 (lv_at hl 7 rfl) ?_
          obtain ⟨g11, hf⟩ := zgd hf
          obtain ⟨n13, rn13, on13, in13⟩ := zok_of g11
          refine zald_l X hP (k := k1) on13 in13 dX8_metWith_112 ?_
          refine lv_aload_n hx hb dX8_metWith_113 rfl (lv_at hl 1 rfl) ?_
          refine gf_X8_10 X hP (k := 5) (q := 6) rfl dX8_metWith_114 rfl ?_
          refine gf_X8_108 X hP (k := 6) (q := 64) rfl dX8_metWith_117 rfl ?_
          refine lv_iload hx hb dX8_metWith_120 (lv_at hl 0 rfl) ?_
          obtain ⟨g12, hf⟩ := zgd hf
          refine zald_l X hP (k := 64) (n := 462) (rs := []) rfl g12 dX8_metWith_122 ?_
          refine lv_lmul hx hb dX8_metWith_123 ?_
          refine lv_ladd hx hb dX8_metWith_124 ?_
          refine lv_lstore (lv' := [(4, .long (x4 + ((s1.2 k1 (x7).toNatClampNeg) * (s1.2 64 (t0).toNatClampNeg)))), (8, .int t0), (0, .ref (ad 5)), (1, .ref (ad k1)), (2, .int x2), (3, .int x3), (6, .int x6), (7, .int x7)]) hx hb dX8_metWith_125 hl (by decide) rfl (fun ls hl => ?_)
          exact hc_127 k1 x2 x3 (x4 + ((s1.2 k1 (x7).toNatClampNeg) * (s1.2 64 (t0).toNatClampNeg))) x6 s1 _ _ _ (lv_sub hl [2, 3, 4, 5, 0, 6] rfl) hP hS hf
      intro k1 x2 x3 x4 x6 s1 H locs ls hl hP hS hf
      rw [f_X8_metWith_c32] at hf
      refine lv_iload hx hb dX8_metWith_32 (lv_at hl 5 rfl) ?_
      refine lv_aload_n hx hb dX8_metWith_34 rfl (lv_at hl 0 rfl) ?_
      refine gf_X8_10 X hP (k := 5) (q := 6) rfl dX8_metWith_35 rfl ?_
      refine gf_X8_105 X hP (k := 6) (q := 67) rfl dX8_metWith_38 rfl ?_
      refine lv_iload_n hx hb dX8_metWith_41 rfl (lv_at hl 3 rfl) ?_
      refine lv_iconst (v := 1) hx hb dX8_metWith_42 (by decide) ?_
      refine lv_iadd hx hb dX8_metWith_43 ?_
      obtain ⟨g3, hf⟩ := zgd hf
      refine zald_i X hP (k := 67) (n := 7) (rs := []) rfl g3 dX8_metWith_44 ?_
      refine zicmp_ge (tgt := 133) hx hb dX8_metWith_45 (by decide) hf (fun hf => ?_) (fun hf => ?_)
      · refine lv_lload hx hb dX8_metWith_133 (lv_at hl 4 rfl) ?_
        exact zret_l X hP hS hf dX8_metWith_135
      · refine lv_aload_n hx hb dX8_metWith_48 rfl (lv_at hl 0 rfl) ?_
        refine gf_X8_10 X hP (k := 5) (q := 6) rfl dX8_metWith_49 rfl ?_
        refine gf_X8_84 X hP (k := 6) (q := 66) rfl dX8_metWith_52 rfl ?_
        refine lv_iload hx hb dX8_metWith_55 (lv_at hl 5 rfl) ?_
        obtain ⟨g4, hf⟩ := zgd hf
        refine zald_i X hP (k := 66) (n := 462) (rs := []) rfl g4 dX8_metWith_57 ?_
        refine lv_istore (lv' := [(7, .int (s1.1 66 (x6).toNatClampNeg)), (0, .ref (ad 5)), (1, .ref (ad k1)), (2, .int x2), (3, .int x3), (4, .long x4), (6, .int x6)]) hx hb dX8_metWith_58 hl (by decide) rfl (fun ls hl => ?_)
        refine lv_aload_n hx hb dX8_metWith_60 rfl (lv_at hl 2 rfl) ?_
        refine lv_iload hx hb dX8_metWith_61 (lv_at hl 0 rfl) ?_
        obtain ⟨g5, hf⟩ := zgd hf
        obtain ⟨n14, rn14, on14, in14⟩ := zok_of g5
        refine zald_l X hP (k := k1) on14 in14 dX8_metWith_63 ?_
        refine lv_lconst (v := 0) hx hb dX8_metWith_64 (by decide) ?_
        refine W.lcmp hx hb dX8_metWith_65 ?_
        refine zif_ne (tgt := 73) hx hb dX8_metWith_66 (by decide) hf (fun hf => ?_) (fun hf => ?_)
        · refine lv_aload_n hx hb dX8_metWith_73 rfl (lv_at hl 1 rfl) ?_
          refine gf_X8_10 X hP (k := 5) (q := 6) rfl dX8_metWith_74 rfl ?_
          refine lv_aload_n hx hb dX8_metWith_77 rfl (lv_at hl 1 rfl) ?_
          refine gf_X8_10 X hP (k := 5) (q := 6) rfl dX8_metWith_78 rfl ?_
          refine gf_X8_90 X hP (k := 6) (q := 62) rfl dX8_metWith_81 rfl ?_
          refine lv_iload_n hx hb dX8_metWith_84 rfl (lv_at hl 3 rfl) ?_
          obtain ⟨g6, hf⟩ := zgd hf
          refine zald_i X hP (k := 62) (n := 462) (rs := []) rfl g6 dX8_metWith_85 ?_
          refine lv_aload_n hx hb dX8_metWith_86 rfl (lv_at hl 1 rfl) ?_
          refine gf_X8_10 X hP (k := 5) (q := 6) rfl dX8_metWith_87 rfl ?_
          refine gf_X8_90 X hP (k := 6) (q := 62) rfl dX8_metWith_90 rfl ?_
          refine lv_iload hx hb dX8_metWith_93 (lv_at hl 0 rfl) ?_
          obtain ⟨g7, hf⟩ := zgd hf
          refine zald_i X hP (k := 62) (n := 462) (rs := []) rfl g7 dX8_metWith_95 ?_
          refine lv_iadd hx hb dX8_metWith_96 ?_
          obtain ⟨r8, s9, h10, hf⟩ := zbd_some hf
          refine zcallV X hP hS hl.1 (k := 6) (As := [.int ((s1.1 62 (x2).toNatClampNeg) + (s1.1 62 ((s1.1 66 (x6).toNatClampNeg)).toNatClampNeg))]) (rest := []) (cn_X10_find h10) cw_X10_find zp_10 rfl (by decide) rfl ml_X8_54 (by decide) rfl rfl (Nat.le_of_ble_eq_true rfl) dX8_metWith_97 (fun H locs hP hS => ?_)
          exact hc_100 k1 x2 x3 x4 x6 (s1.1 66 (x6).toNatClampNeg) r8 s9 _ _ _ (lv_sub hl [1, 2, 3, 4, 5, 6, 0] rfl) hP hS hf
        · refine lv_iconst (v := (-1)) hx hb dX8_metWith_69 (by decide) ?_
          refine lv_goto (tgt := 100) hx hb dX8_metWith_70 (by decide) ?_
          exact hc_100 k1 x2 x3 x4 x6 (s1.1 66 (x6).toNatClampNeg) (-1) s1 _ _ _ (lv_sub hl [1, 2, 3, 4, 5, 6, 0] rfl) hP hS hf
  rw [f_X8_metWith] at hf
  refine lv_aload_n hx hb dX8_metWith_0 rfl (lv_at hl 0 rfl) ?_
  refine gf_X8_10 X hP (k := 5) (q := 6) rfl dX8_metWith_1 rfl ?_
  refine gf_X8_87 X hP (k := 6) rfl dX8_metWith_4 ?_
  refine lv_aload_n hx hb dX8_metWith_7 rfl (lv_at hl 0 rfl) ?_
  refine gf_X8_10 X hP (k := 5) (q := 6) rfl dX8_metWith_8 rfl ?_
  refine gf_X8_64 X hP (k := 6) (q := 63) rfl dX8_metWith_11 rfl ?_
  refine lv_iload_n hx hb dX8_metWith_14 rfl (lv_at hl 2 rfl) ?_
  obtain ⟨g1, hf⟩ := zgd hf
  refine zald_i X hP (k := 63) (n := 462) (rs := []) rfl g1 dX8_metWith_15 ?_
  refine lv_isub hx hb dX8_metWith_16 ?_
  refine lv_istore_n (lv' := [(3, .int ((s0.1 6 0) - (s0.1 63 (x2).toNatClampNeg))), (0, .ref (ad 5)), (1, .ref (ad k1)), (2, .int x2)]) hx hb dX8_metWith_17 rfl hl (by decide) rfl (fun ls hl => ?_)
  refine lv_lconst (v := 0) hx hb dX8_metWith_18 (by decide) ?_
  refine lv_lstore (lv' := [(4, .long 0), (3, .int ((s0.1 6 0) - (s0.1 63 (x2).toNatClampNeg))), (0, .ref (ad 5)), (1, .ref (ad k1)), (2, .int x2)]) hx hb dX8_metWith_19 hl (by decide) rfl (fun ls hl => ?_)
  refine lv_aload_n hx hb dX8_metWith_21 rfl (lv_at hl 2 rfl) ?_
  refine gf_X8_10 X hP (k := 5) (q := 6) rfl dX8_metWith_22 rfl ?_
  refine gf_X8_105 X hP (k := 6) (q := 67) rfl dX8_metWith_25 rfl ?_
  refine lv_iload_n hx hb dX8_metWith_28 rfl (lv_at hl 1 rfl) ?_
  obtain ⟨g2, hf⟩ := zgd hf
  refine zald_i X hP (k := 67) (n := 7) (rs := []) rfl g2 dX8_metWith_29 ?_
  refine lv_istore (lv' := [(6, .int (s0.1 67 (((s0.1 6 0) - (s0.1 63 (x2).toNatClampNeg))).toNatClampNeg)), (4, .long 0), (3, .int ((s0.1 6 0) - (s0.1 63 (x2).toNatClampNeg))), (0, .ref (ad 5)), (1, .ref (ad k1)), (2, .int x2)]) hx hb dX8_metWith_30 hl (by decide) rfl (fun ls hl => ?_)
  exact hc_32 ZF k1 x2 ((s0.1 6 0) - (s0.1 63 (x2).toNatClampNeg)) 0 (s0.1 67 (((s0.1 6 0) - (s0.1 63 (x2).toNatClampNeg))).toNatClampNeg) s0 _ _ _ (lv_sub hl [3, 4, 5, 2, 1, 0] rfl) hP hS hf
theorem dX8_areLike_0 : decode cX8_areLike 0 = .ok (.iconst 0, 1) := by decide +kernel
theorem dX8_areLike_1 : decode cX8_areLike 1 = .ok (.istore_n 3, 1) := by decide +kernel
theorem dX8_areLike_2 : decode cX8_areLike 2 = .ok (.iload_n 3, 1) := by decide +kernel
theorem dX8_areLike_3 : decode cX8_areLike 3 = .ok (.aload_n 0, 1) := by decide +kernel
theorem dX8_areLike_4 : decode cX8_areLike 4 = .ok (.getfield 10, 3) := by decide +kernel
theorem dX8_areLike_7 : decode cX8_areLike 7 = .ok (.getfield 42, 3) := by decide +kernel
theorem dX8_areLike_10 : decode cX8_areLike 10 = .ok (.if_icmp .ge 27, 3) := by decide +kernel
theorem dX8_areLike_13 : decode cX8_areLike 13 = .ok (.aload_n 0, 1) := by decide +kernel
theorem dX8_areLike_14 : decode cX8_areLike 14 = .ok (.aload_n 1, 1) := by decide +kernel
theorem dX8_areLike_15 : decode cX8_areLike 15 = .ok (.iload_n 3, 1) := by decide +kernel
theorem dX8_areLike_16 : decode cX8_areLike 16 = .ok (.invokevirtual 111, 3) := by decide +kernel
theorem dX8_areLike_19 : decode cX8_areLike 19 = .ok (.aload_n 0, 1) := by decide +kernel
theorem dX8_areLike_20 : decode cX8_areLike 20 = .ok (.aload_n 2, 1) := by decide +kernel
theorem dX8_areLike_21 : decode cX8_areLike 21 = .ok (.iload_n 3, 1) := by decide +kernel
theorem dX8_areLike_22 : decode cX8_areLike 22 = .ok (.invokevirtual 111, 3) := by decide +kernel
theorem dX8_areLike_25 : decode cX8_areLike 25 = .ok (.lcmp, 1) := by decide +kernel
theorem dX8_areLike_26 : decode cX8_areLike 26 = .ok (.ifCond .eq 5, 3) := by decide +kernel
theorem dX8_areLike_29 : decode cX8_areLike 29 = .ok (.iconst 0, 1) := by decide +kernel
theorem dX8_areLike_30 : decode cX8_areLike 30 = .ok (.ireturn, 1) := by decide +kernel
theorem dX8_areLike_31 : decode cX8_areLike 31 = .ok (.iinc 3 1, 3) := by decide +kernel
theorem dX8_areLike_34 : decode cX8_areLike 34 = .ok (.goto (-32), 3) := by decide +kernel
theorem dX8_areLike_37 : decode cX8_areLike 37 = .ok (.iconst 1, 1) := by decide +kernel
theorem dX8_areLike_38 : decode cX8_areLike 38 = .ok (.ireturn, 1) := by decide +kernel
set_option maxHeartbeats 4000000 in
set_option maxRecDepth 100000 in
theorem cn_X8_areLike {l : Launch} {cA : Nat → ClassId} {ad : Nat → Nat} {D : va_G} {E : Nat → Nat} {A : Nat → Prop} {k1 : Nat} {k2 : Nat} {s0 sr : SS} {rr : Int32} (hf : f_X8_areLike k1 k2 s0 = some (rr, sr)) : zCon Ox Nx cA ad D E l yX8_areLike cX8_areLike 4 (some .boolean) 2 A [.ref (ad 5), .ref (ad k1), .ref (ad k2)] s0 (some (.int rr)) sr := by
  refine zstart (own := RX8) hOx (by decide) rfl (Nat.le_of_ble_eq_true rfl) ?_
  intro p e s m args below meth c X hP ls hl
  have hx := X.1
  have hb := X.2.1
  have hl : lv_has ls 4 [(0, .ref (ad 5)), (1, .ref (ad k1)), (2, .ref (ad k2))] := hl
  have hS : va_S A s.heap s.heap [] := va_S.rf
  have hc_2 : ∀ (n2 : Nat) (k1 : Nat) (k2 : Nat) (x3 : Int32) (s1 : SS) (H : Heap) (locs : List Loc) (ls : Array Slot), lv_has ls 4 [(0, .ref (ad 5)), (1, .ref (ad k1)), (2, .ref (ad k2)), (3, .int x3)] → va_P D ZCL (zw Ox Nx cA ad s1) H → va_S A s.heap H locs → f_X8_areLike_c2 n2 k1 k2 x3 s1 = some (rr, sr) → W p l e (zrm 2) s m args below meth c H locs 0 0 (MQ below (zQc Ox Nx cA ad D A (some (.int rr)) sr) args s 0 0 A) (F0 m 2 ls []) := by
    intro n2
    induction n2 with
    | zero =>
      intro k1 k2 x3 s1 H locs ls hl hP hS hf
      rw [f_X8_areLike_c2] at hf
      cases hf
    | succ n2 ih2 =>
      intro k1 k2 x3 s1 H locs ls hl hP hS hf
      rw [f_X8_areLike_c2] at hf
      refine lv_iload_n hx hb dX8_areLike_2 rfl (lv_at hl 3 rfl) ?_
      refine lv_aload_n hx hb dX8_areLike_3 rfl (lv_at hl 0 rfl) ?_
      refine gf_X8_10 X hP (k := 5) (q := 6) rfl dX8_areLike_4 rfl ?_
      refine gf_X8_42 X hP (k := 6) rfl dX8_areLike_7 ?_
      refine zicmp_ge (tgt := 37) hx hb dX8_areLike_10 (by decide) hf (fun hf => ?_) (fun hf => ?_)
      · refine lv_iconst (v := 1) hx hb dX8_areLike_37 (by decide) ?_
        exact zret_i X hP hS hf rfl dX8_areLike_38
      · refine lv_aload_n hx hb dX8_areLike_13 rfl (lv_at hl 0 rfl) ?_
        refine lv_aload_n hx hb dX8_areLike_14 rfl (lv_at hl 1 rfl) ?_
        refine lv_iload_n hx hb dX8_areLike_15 rfl (lv_at hl 3 rfl) ?_
        obtain ⟨r1, s2, h3, hf⟩ := zbd_some hf
        refine zcallV X hP hS hl.1 (k := 5) (As := [.ref (ad k1), .int x3]) (rest := []) (cn_X8_metWith h3) cw_X8_metWith zp_8 rfl (by decide) rfl ml_X8_111 (by decide) rfl rfl (Nat.le_of_ble_eq_true rfl) dX8_areLike_16 (fun H locs hP hS => ?_)
        refine lv_aload_n hx hb dX8_areLike_19 rfl (lv_at hl 0 rfl) ?_
        refine lv_aload_n hx hb dX8_areLike_20 rfl (lv_at hl 2 rfl) ?_
        refine lv_iload_n hx hb dX8_areLike_21 rfl (lv_at hl 3 rfl) ?_
        obtain ⟨r4, s5, h6, hf⟩ := zbd_some hf
        refine zcallV X hP hS hl.1 (k := 5) (As := [.ref (ad k2), .int x3]) (rest := [.long r1]) (cn_X8_metWith h6) cw_X8_metWith zp_8 rfl (by decide) rfl ml_X8_111 (by decide) rfl rfl (Nat.le_of_ble_eq_true rfl) dX8_areLike_22 (fun H locs hP hS => ?_)
        refine W.lcmp hx hb dX8_areLike_25 ?_
        refine zif_eq (tgt := 31) hx hb dX8_areLike_26 (by decide) hf (fun hf => ?_) (fun hf => ?_)
        · refine lv_iinc (v := (x3 + 1)) (lv' := [(3, .int (x3 + 1)), (0, .ref (ad 5)), (1, .ref (ad k1)), (2, .ref (ad k2))]) hx hb dX8_areLike_31 hl (k := 3) rfl rfl (by decide) rfl (fun ls hl => ?_)
          refine lv_goto (tgt := 2) hx hb dX8_areLike_34 (by decide) ?_
          exact ih2 k1 k2 (x3 + 1) s5 _ _ _ (lv_sub hl [1, 2, 3, 0] rfl) hP hS hf
        · refine lv_iconst (v := 0) hx hb dX8_areLike_29 (by decide) ?_
          exact zret_i X hP hS hf rfl dX8_areLike_30
  rw [f_X8_areLike] at hf
  refine lv_iconst (v := 0) hx hb dX8_areLike_0 (by decide) ?_
  refine lv_istore_n (lv' := [(3, .int 0), (0, .ref (ad 5)), (1, .ref (ad k1)), (2, .ref (ad k2))]) hx hb dX8_areLike_1 rfl hl (by decide) rfl (fun ls hl => ?_)
  exact hc_2 ZF k1 k2 0 s0 _ _ _ (lv_sub hl [1, 2, 3, 0] rfl) hP hS hf
