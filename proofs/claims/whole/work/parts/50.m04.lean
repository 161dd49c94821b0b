theorem dX11_numberOfCode_0 : decode cX11_numberOfCode 0 = .ok (.aload_n 0, 1) := by decide +kernel
theorem dX11_numberOfCode_1 : decode cX11_numberOfCode 1 = .ok (.getfield 28, 3) := by decide +kernel
theorem dX11_numberOfCode_4 : decode cX11_numberOfCode 4 = .ok (.getfield 84, 3) := by decide +kernel
theorem dX11_numberOfCode_7 : decode cX11_numberOfCode 7 = .ok (.iload_n 2, 1) := by decide +kernel
theorem dX11_numberOfCode_8 : decode cX11_numberOfCode 8 = .ok (.invokevirtual 128, 3) := by decide +kernel
theorem dX11_numberOfCode_11 : decode cX11_numberOfCode 11 = .ok (.istore_n 3, 1) := by decide +kernel
theorem dX11_numberOfCode_12 : decode cX11_numberOfCode 12 = .ok (.iload_n 3, 1) := by decide +kernel
theorem dX11_numberOfCode_13 : decode cX11_numberOfCode 13 = .ok (.ifCond .ge 7, 3) := by decide +kernel
theorem dX11_numberOfCode_16 : decode cX11_numberOfCode 16 = .ok (.lconst 0, 1) := by decide +kernel
theorem dX11_numberOfCode_17 : decode cX11_numberOfCode 17 = .ok (.goto 15, 3) := by decide +kernel
theorem dX11_numberOfCode_20 : decode cX11_numberOfCode 20 = .ok (.aload_n 1, 1) := by decide +kernel
theorem dX11_numberOfCode_21 : decode cX11_numberOfCode 21 = .ok (.aload_n 0, 1) := by decide +kernel
theorem dX11_numberOfCode_22 : decode cX11_numberOfCode 22 = .ok (.getfield 28, 3) := by decide +kernel
theorem dX11_numberOfCode_25 : decode cX11_numberOfCode 25 = .ok (.getfield 84, 3) := by decide +kernel
theorem dX11_numberOfCode_28 : decode cX11_numberOfCode 28 = .ok (.iload_n 3, 1) := by decide +kernel
theorem dX11_numberOfCode_29 : decode cX11_numberOfCode 29 = .ok (.invokevirtual 184, 3) := by decide +kernel
theorem dX11_numberOfCode_32 : decode cX11_numberOfCode 32 = .ok (.lreturn, 1) := by decide +kernel
set_option maxHeartbeats 4000000 in
set_option maxRecDepth 100000 in
theorem cn_X11_numberOfCode {l : Launch} {cA : Nat → ClassId} {ad : Nat → Nat} {D : va_G} {E : Nat → Nat} {A : Nat → Prop} {k1 : Nat} {x2 : Int32} {s0 sr : SS} {rr : Int64} (hf : f_X11_numberOfCode k1 x2 s0 = some (rr, sr)) : zCon Ox Nx cA ad D E l yX11_numberOfCode cX11_numberOfCode 4 (some .long) 1 A [.ref (ad 0), .ref (ad k1), .int x2] s0 (some (.long rr)) sr := by
  refine zstart (own := RX11) hOx (by decide) rfl (Nat.le_of_ble_eq_true rfl) ?_
  intro p e s m args below meth c X hP ls hl
  have hx := X.1
  have hb := X.2.1
  have hl : lv_has ls 4 [(0, .ref (ad 0)), (1, .ref (ad k1)), (2, .int x2)] := hl
  have hS : va_S A s.heap s.heap [] := va_S.rf
  rw [f_X11_numberOfCode] at hf
  obtain ⟨gp1, hf⟩ := zgd hf
  refine lv_aload_n hx hb dX11_numberOfCode_0 rfl (lv_at hl 0 rfl) ?_
  refine gf_X11_28 X hP (k := 0) (q := 5) rfl dX11_numberOfCode_1 rfl ?_
  refine gf_X11_84 X hP (k := 5) (q := 6) rfl dX11_numberOfCode_4 rfl ?_
  refine lv_iload_n hx hb dX11_numberOfCode_7 rfl (lv_at hl 2 rfl) ?_
  obtain ⟨r1, s2, h3, hf⟩ := zbd_some hf
  refine zcallV X hP hS hl.1 (k := 6) (As := [.int x2]) (rest := []) (cn_X10_find h3) cw_X10_find zp_10 rfl (by decide) rfl ml_X11_128 (by decide) rfl rfl (Nat.le_of_ble_eq_true rfl) dX11_numberOfCode_8 (fun H locs hP hS => ?_)
  refine lv_istore_n (lv' := [(3, .int r1), (0, .ref (ad 0)), (1, .ref (ad k1)), (2, .int x2)]) hx hb dX11_numberOfCode_11 rfl hl (by decide) rfl (fun ls hl => ?_)
  refine lv_iload_n hx hb dX11_numberOfCode_12 rfl (lv_at hl 0 rfl) ?_
  refine zif_ge (tgt := 20) hx hb dX11_numberOfCode_13 (by decide) hf (fun hf => ?_) (fun hf => ?_)
  · refine lv_aload_n hx hb dX11_numberOfCode_20 rfl (lv_at hl 2 rfl) ?_
    refine lv_aload_n hx hb dX11_numberOfCode_21 rfl (lv_at hl 1 rfl) ?_
    refine gf_X11_28 X hP (k := 0) (q := 5) rfl dX11_numberOfCode_22 rfl ?_
    refine gf_X11_84 X hP (k := 5) (q := 6) rfl dX11_numberOfCode_25 rfl ?_
    refine lv_iload_n hx hb dX11_numberOfCode_28 rfl (lv_at hl 0 rfl) ?_
    obtain ⟨r4, s5, h6, hf⟩ := zbd_some hf
    refine zcallV X hP hS hl.1 (k := k1) (As := [.ref (ad 6), .int r1]) (rest := []) (cn_X4_numberAt h6) cw_X4_numberAt zp_4 gp1 (by decide) rfl ml_X11_184 (by decide) rfl rfl (Nat.le_of_ble_eq_true rfl) dX11_numberOfCode_29 (fun H locs hP hS => ?_)
    exact zret_l X hP hS hf dX11_numberOfCode_32
  · refine lv_lconst (v := 0) hx hb dX11_numberOfCode_16 (by decide) ?_
    refine lv_goto (tgt := 32) hx hb dX11_numberOfCode_17 (by decide) ?_
    exact zret_l X hP hS hf dX11_numberOfCode_32
theorem dX11_countFits_0 : decode cX11_countFits 0 = .ok (.iconst 0, 1) := by decide +kernel
theorem dX11_countFits_1 : decode cX11_countFits 1 = .ok (.istore 7, 2) := by decide +kernel
theorem dX11_countFits_3 : decode cX11_countFits 3 = .ok (.bipush (-2), 2) := by decide +kernel
theorem dX11_countFits_5 : decode cX11_countFits 5 = .ok (.istore 8, 2) := by decide +kernel
theorem dX11_countFits_7 : decode cX11_countFits 7 = .ok (.iconst 1, 1) := by decide +kernel
theorem dX11_countFits_8 : decode cX11_countFits 8 = .ok (.istore 9, 2) := by decide +kernel
theorem dX11_countFits_10 : decode cX11_countFits 10 = .ok (.iload 9, 2) := by decide +kernel
theorem dX11_countFits_12 : decode cX11_countFits 12 = .ok (.bipush 9, 2) := by decide +kernel
theorem dX11_countFits_14 : decode cX11_countFits 14 = .ok (.if_icmp .gt 71, 3) := by decide +kernel
theorem dX11_countFits_17 : decode cX11_countFits 17 = .ok (.iconst 0, 1) := by decide +kernel
theorem dX11_countFits_18 : decode cX11_countFits 18 = .ok (.istore 10, 2) := by decide +kernel
theorem dX11_countFits_20 : decode cX11_countFits 20 = .ok (.iload 10, 2) := by decide +kernel
theorem dX11_countFits_22 : decode cX11_countFits 22 = .ok (.bipush 9, 2) := by decide +kernel
theorem dX11_countFits_24 : decode cX11_countFits 24 = .ok (.if_icmp .gt 55, 3) := by decide +kernel
theorem dX11_countFits_27 : decode cX11_countFits 27 = .ok (.lload_n 0, 1) := by decide +kernel
theorem dX11_countFits_28 : decode cX11_countFits 28 = .ok (.iload 9, 2) := by decide +kernel
theorem dX11_countFits_30 : decode cX11_countFits 30 = .ok (.invokestatic 309, 3) := by decide +kernel
theorem dX11_countFits_33 : decode cX11_countFits 33 = .ok (.lmul, 1) := by decide +kernel
theorem dX11_countFits_34 : decode cX11_countFits 34 = .ok (.lload_n 2, 1) := by decide +kernel
theorem dX11_countFits_35 : decode cX11_countFits 35 = .ok (.iload 9, 2) := by decide +kernel
theorem dX11_countFits_37 : decode cX11_countFits 37 = .ok (.iload 10, 2) := by decide +kernel
theorem dX11_countFits_39 : decode cX11_countFits 39 = .ok (.invokestatic 313, 3) := by decide +kernel
theorem dX11_countFits_42 : decode cX11_countFits 42 = .ok (.lmul, 1) := by decide +kernel
theorem dX11_countFits_43 : decode cX11_countFits 43 = .ok (.ladd, 1) := by decide +kernel
theorem dX11_countFits_44 : decode cX11_countFits 44 = .ok (.lload 4, 2) := by decide +kernel
theorem dX11_countFits_46 : decode cX11_countFits 46 = .ok (.lcmp, 1) := by decide +kernel
theorem dX11_countFits_47 : decode cX11_countFits 47 = .ok (.ifCond .ne 26, 3) := by decide +kernel
theorem dX11_countFits_50 : decode cX11_countFits 50 = .ok (.iload 7, 2) := by decide +kernel
theorem dX11_countFits_52 : decode cX11_countFits 52 = .ok (.ifCond .ne 14, 3) := by decide +kernel
theorem dX11_countFits_55 : decode cX11_countFits 55 = .ok (.bipush 10, 2) := by decide +kernel
theorem dX11_countFits_57 : decode cX11_countFits 57 = .ok (.iload 9, 2) := by decide +kernel
theorem dX11_countFits_59 : decode cX11_countFits 59 = .ok (.imul, 1) := by decide +kernel
theorem dX11_countFits_60 : decode cX11_countFits 60 = .ok (.iload 10, 2) := by decide +kernel
theorem dX11_countFits_62 : decode cX11_countFits 62 = .ok (.iadd, 1) := by decide +kernel
theorem dX11_countFits_63 : decode cX11_countFits 63 = .ok (.goto 5, 3) := by decide +kernel
theorem dX11_countFits_66 : decode cX11_countFits 66 = .ok (.iload 8, 2) := by decide +kernel
theorem dX11_countFits_68 : decode cX11_countFits 68 = .ok (.istore 8, 2) := by decide +kernel
theorem dX11_countFits_70 : decode cX11_countFits 70 = .ok (.iinc 7 1, 3) := by decide +kernel
theorem dX11_countFits_73 : decode cX11_countFits 73 = .ok (.iinc 10 1, 3) := by decide +kernel
theorem dX11_countFits_76 : decode cX11_countFits 76 = .ok (.goto (-56), 3) := by decide +kernel
theorem dX11_countFits_79 : decode cX11_countFits 79 = .ok (.iinc 9 1, 3) := by decide +kernel
theorem dX11_countFits_82 : decode cX11_countFits 82 = .ok (.goto (-72), 3) := by decide +kernel
theorem dX11_countFits_85 : decode cX11_countFits 85 = .ok (.iload 6, 2) := by decide +kernel
theorem dX11_countFits_87 : decode cX11_countFits 87 = .ok (.ifCond .ne 8, 3) := by decide +kernel
theorem dX11_countFits_90 : decode cX11_countFits 90 = .ok (.iload 7, 2) := by decide +kernel
theorem dX11_countFits_92 : decode cX11_countFits 92 = .ok (.goto 5, 3) := by decide +kernel
theorem dX11_countFits_95 : decode cX11_countFits 95 = .ok (.iload 8, 2) := by decide +kernel
theorem dX11_countFits_97 : decode cX11_countFits 97 = .ok (.ireturn, 1) := by decide +kernel
set_option maxHeartbeats 4000000 in
set_option maxRecDepth 100000 in
theorem cn_X11_countFits {l : Launch} {cA : Nat → ClassId} {ad : Nat → Nat} {D : va_G} {E : Nat → Nat} {A : Nat → Prop} {x0 : Int64} {x2 : Int64} {x4 : Int64} {x6 : Int32} {s0 sr : SS} {rr : Int32} (hf : f_X11_countFits x0 x2 x4 x6 s0 = some (rr, sr)) : zCon Ox Nx cA ad D E l yX11_countFits cX11_countFits 11 (some .int) 1 A [.long x0, .long x2, .long x4, .int x6] s0 (some (.int rr)) sr := by
  refine zstart (own := RX11) hOx (by decide) rfl (Nat.le_of_ble_eq_true rfl) ?_
  intro p e s m args below meth c X hP ls hl
  have hx := X.1
  have hb := X.2.1
  have hl : lv_has ls 11 [(0, .long x0), (2, .long x2), (4, .long x4), (6, .int x6)] := hl
  have hS : va_S A s.heap s.heap [] := va_S.rf
  have hc_10 : ∀ (n10 : Nat) (x0 : Int64) (x2 : Int64) (x4 : Int64) (x6 : Int32) (x7 : Int32) (x8 : Int32) (x9 : Int32) (s1 : SS) (H : Heap) (locs : List Loc) (ls : Array Slot), lv_has ls 11 [(0, .long x0), (2, .long x2), (4, .long x4), (6, .int x6), (7, .int x7), (8, .int x8), (9, .int x9)] → va_P D ZCL (zw Ox Nx cA ad s1) H → va_S A s.heap H locs → f_X11_countFits_c10 n10 x0 x2 x4 x6 x7 x8 x9 s1 = some (rr, sr) → W p l e (zrm 1) s m args below meth c H locs 0 0 (MQ below (zQc Ox Nx cA ad D A (some (.int rr)) sr) args s 0 0 A) (F0 m 10 ls []) := by
    intro n10
    induction n10 with
    | zero =>
      intro x0 x2 x4 x6 x7 x8 x9 s1 H locs ls hl hP hS hf
      rw [f_X11_countFits_c10] at hf
      cases hf
    | succ n10 ih10 =>
      have hc_20 : ∀ (n20 : Nat) (x0 : Int64) (x2 : Int64) (x4 : Int64) (x6 : Int32) (x7 : Int32) (x8 : Int32) (x9 : Int32) (x10 : Int32) (s1 : SS) (H : Heap) (locs : List Loc) (ls : Array Slot), lv_has ls 11 [(0, .long x0), (2, .long x2), (4, .long x4), (6, .int x6), (7, .int x7), (8, .int x8), (9, .int x9), (10, .int x10)] → va_P D ZCL (zw Ox Nx cA ad s1) H → va_S A s.heap H locs → f_X11_countFits_c20 (f_X11_countFits_c10 n10) n20 x0 x2 x4 x6 x7 x8 x9 x10 s1 = some (rr, sr) → W p l e (zrm 1) s m args below meth c H locs 0 0 (MQ below (zQc Ox Nx cA ad D A (some (.int rr)) sr) args s 0 0 A) (F0 m 20 ls []) := by
        intro n20
        induction n20 with
        | zero =>
          intro x0 x2 x4 x6 x7 x8 x9 x10 s1 H locs ls hl hP hS hf
          rw [f_X11_countFits_c20] at hf
          cases hf
        | succ n20 ih20 =>
          have hc_73 : ∀ (x0 : Int64) (x2 : Int64) (x4 : Int64) (x6 : Int32) (x7 : Int32) (x8 : Int32) (x9 : Int32) (x10 : Int32) (s1 : SS) (H : Heap) (locs : List Loc) (ls : Array Slot), lv_has ls 11 [(0, .long x0), (2, .long x2), (4, .long x4), (6, .int x6), (7, .int x7), (8, .int x8), (9, .int x9), (10, .int x10)] → va_P D ZCL (zw Ox Nx cA ad s1) H → va_S A s.heap H locs → f_X11_countFits_c73 (f_X11_countFits_c20 (f_X11_countFits_c10 n10) n20) (f_X11_countFits_c10 n10) x0 x2 x4 x6 x7 x8 x9 x10 s1 = some (rr, sr) → W p l e (zrm 1) s m args below meth c H locs 0 0 (MQ below (zQc Ox Nx cA ad D A (some (.int rr)) sr) args s 0 0 A) (F0 m 73 ls []) := by
            intro x0 x2 x4 x6 x7 x8 x9 x10 s1 H locs ls hl hP hS hf
            rw [f_X11_countFits_c73] at hf
            refine lv_iinc (v := (x10 + 1)) (lv' := [(10, .int (x10 + 1)), (0, .long x0), (2, .long x2), (4, .long x4), (6, .int x6), (7, .int x7), (8, .int x8), (9, .int x9)]) hx hb dX11_countFits_73 hl (k := 7) rfl rfl (by decide) rfl (fun ls hl => ?_)
            refine lv_goto (tgt := 20) hx hb dX11_countFits_76 (by decide) ?_
            exact ih20 x0 x2 x4 x6 x7 x8 x9 (x10 + 1) s1 _ _ _ (lv_sub hl [1, 2, 3, 4, 5, 6, 7, 0] rfl) hP hS hf
          have hc_68 : ∀ (x0 : Int64) (x2 : Int64) (x4 : Int64) (x6 : Int32) (x7 : Int32) (x9 : Int32) (x10 : Int32) (t0 : Int32) (s1 : SS) (H : Heap) (locs : List Loc) (ls : Array Slot), lv_has ls 11 [(0, .long x0), (2, .long x2), (4, .long x4), (6, .int x6), (7, .int x7), (9, .int x9), (10, .int x10)] → va_P D ZCL (zw Ox Nx cA ad s1) H → va_S A s.heap H locs → f_X11_countFits_c68 (f_X11_countFits_c20 (f_X11_countFits_c10 n10) n20) (f_X11_countFits_c10 n10) x0 x2 x4 x6 x7 x9 x10 t0 s1 = some (rr, sr) → W p l e (zrm 1) s m args below meth c H locs 0 0 (MQ below (zQc Ox Nx cA ad D A (some (.int rr)) sr) args s 0 0 A) (F0 m 68 ls [.int t0]) := by
            intro x0 x2 x4 x6 x7 x9 x10 t0 s1 H locs ls hl hP hS hf
            rw [f_X11_countFits_c68] at hf
            refine lv_istore (lv' := [(8, .int t0), (0, .long x0), (2, .long x2), (4, .long x4), (6, .int x6), (7, .int x7), (9, .int x9), (10, .int x10)]) hx hb dX11_countFits_68 hl (by decide) rfl (fun ls hl => ?_)
            refine lv_iinc (v := (x7 + 1)) (lv' := [(7, .int (x7 + 1)), (8, .int t0), (0, .long x0), (2, .long x2), (4, .long x4), (6, .int x6), (9, .int x9), (10, .int x10)]) hx hb dX11_countFits_70 hl (k := 5) rfl rfl (by decide) rfl (fun ls hl => ?_)
            exact hc_73 x0 x2 x4 x6 (x7 + 1) t0 x9 x10 s1 _ _ _ (lv_sub hl [2, 3, 4, 5, 0, 1, 6, 7] rfl) hP hS hf
          intro x0 x2 x4 x6 x7 x8 x9 x10 s1 H locs ls hl hP hS hf
          rw [f_X11_countFits_c20] at hf
          refine lv_iload hx hb dX11_countFits_20 (lv_at hl 7 rfl) ?_
          refine lv_bipush (v := 9) hx hb dX11_countFits_22 (by decide) ?_
          refine zicmp_gt (tgt := 79) hx hb dX11_countFits_24 (by decide) hf (fun hf => ?_) (fun hf => ?_)
          · refine lv_iinc (v := (x9 + 1)) (lv' := [(9, .int (x9 + 1)), (0, .long x0), (2, .long x2), (4, .long x4), (6, .int x6), (7, .int x7), (8, .int x8), (10, .int x10)]) hx hb dX11_countFits_79 hl (k := 6) rfl rfl (by decide) rfl (fun ls hl => ?_)
            refine lv_goto (tgt := 10) hx hb dX11_countFits_82 (by decide) ?_
            exact ih10 x0 x2 x4 x6 x7 x8 (x9 + 1) s1 _ _ _ (lv_sub hl [1, 2, 3, 4, 5, 6, 0] rfl) hP hS hf
          · refine lv_lload_n hx hb dX11_countFits_27 rfl (lv_at hl 0 rfl) ?_
            refine lv_iload hx hb dX11_countFits_28 (lv_at hl 6 rfl) ?_
            obtain ⟨r1, s2, h3, hf⟩ := zbd_some hf
            refine zcallS X hP hS hl.1 (As := [.int x9]) (rest := [.long x0]) (cn_X7_worthTwice h3) cw_X7_worthTwice ml_X11_309 (by decide) rfl rfl (Nat.le_of_ble_eq_true rfl) dX11_countFits_30 (fun H locs hP hS => ?_)
            refine lv_lmul hx hb dX11_countFits_33 ?_
            refine lv_lload_n hx hb dX11_countFits_34 rfl (lv_at hl 1 rfl) ?_
            refine lv_iload hx hb dX11_countFits_35 (lv_at hl 6 rfl) ?_
            refine lv_iload hx hb dX11_countFits_37 (lv_at hl 7 rfl) ?_
            obtain ⟨r4, s5, h6, hf⟩ := zbd_some hf
            refine zcallS X hP hS hl.1 (As := [.int x9, .int x10]) (rest := [.long x2, .long (x0 * r1)]) (cn_X7_worthThrice h6) cw_X7_worthThrice ml_X11_313 (by decide) rfl rfl (Nat.le_of_ble_eq_true rfl) dX11_countFits_39 (fun H locs hP hS => ?_)
            refine lv_lmul hx hb dX11_countFits_42 ?_
            refine lv_ladd hx hb dX11_countFits_43 ?_
            refine lv_lload hx hb dX11_countFits_44 (lv_at hl 2 rfl) ?_
            refine W.lcmp hx hb dX11_countFits_46 ?_
            refine zif_ne (tgt := 73) hx hb dX11_countFits_47 (by decide) hf (fun hf => ?_) (fun hf => ?_)
            · exact hc_73 x0 x2 x4 x6 x7 x8 x9 x10 s5 _ _ _ (lv_sub hl [0, 1, 2, 3, 4, 5, 6, 7] rfl) hP hS hf
            · refine lv_iload hx hb dX11_countFits_50 (lv_at hl 4 rfl) ?_
              refine zif_ne (tgt := 66) hx hb dX11_countFits_52 (by decide) hf (fun hf => ?_) (fun hf => ?_)
              · refine lv_iload hx hb dX11_countFits_66 (lv_at hl 5 rfl) ?_
                exact hc_68 x0 x2 x4 x6 x7 x9 x10 x8 s5 _ _ _ (lv_sub hl [0, 1, 2, 3, 4, 6, 7] rfl) hP hS hf
              · refine lv_bipush (v := 10) hx hb dX11_countFits_55 (by decide) ?_
                refine lv_iload hx hb dX11_countFits_57 (lv_at hl 6 rfl) ?_
                refine lv_imul hx hb dX11_countFits_59 ?_
                refine lv_iload hx hb dX11_countFits_60 (lv_at hl 7 rfl) ?_
                refine lv_iadd hx hb dX11_countFits_62 ?_
                refine lv_goto (tgt := 68) hx hb dX11_countFits_63 (by decide) ?_
                exact hc_68 x0 x2 x4 x6 x7 x9 x10 (((10 : Int32) * x9) + x10) s5 _ _ _ (lv_sub hl [0, 1, 2, 3, 4, 6, 7] rfl) hP hS hf
      intro x0 x2 x4 x6 x7 x8 x9 s1 H locs ls hl hP hS hf
      rw [f_X11_countFits_c10] at hf
      refine lv_iload hx hb dX11_countFits_10 (lv_at hl 6 rfl) ?_
      refine lv_bipush (v := 9) hx hb dX11_countFits_12 (by decide) ?_
      refine zicmp_gt (tgt := 85) hx hb dX11_countFits_14 (by decide) hf (fun hf => ?_) (fun hf => ?_)
      · refine lv_iload hx hb dX11_countFits_85 (lv_at hl 3 rfl) ?_
        refine zif_ne (tgt := 95) hx hb dX11_countFits_87 (by decide) hf (fun hf => ?_) (fun hf => ?_)
        · refine lv_iload hx hb dX11_countFits_95 (lv_at hl 5 rfl) ?_
          exact zret_i X hP hS hf rfl dX11_countFits_97
        · refine lv_iload hx hb dX11_countFits_90 (lv_at hl 4 rfl) ?_
          refine lv_goto (tgt := 97) hx hb dX11_countFits_92 (by decide) ?_
          exact zret_i X hP hS hf rfl dX11_countFits_97
      · refine lv_iconst (v := 0) hx hb dX11_countFits_17 (by decide) ?_
        refine lv_istore (lv' := [(10, .int 0), (0, .long x0), (2, .long x2), (4, .long x4), (6, .int x6), (7, .int x7), (8, .int x8), (9, .int x9)]) hx hb dX11_countFits_18 hl (by decide) rfl (fun ls hl => ?_)
        exact hc_20 ZF x0 x2 x4 x6 x7 x8 x9 0 s1 _ _ _ (lv_sub hl [1, 2, 3, 4, 5, 6, 7, 0] rfl) hP hS hf
  rw [f_X11_countFits] at hf
  refine lv_iconst (v := 0) hx hb dX11_countFits_0 (by decide) ?_
  refine lv_istore (lv' := [(7, .int 0), (0, .long x0), (2, .long x2), (4, .long x4), (6, .int x6)]) hx hb dX11_countFits_1 hl (by decide) rfl (fun ls hl => ?_)
  refine lv_bipush (v := (-2)) hx hb dX11_countFits_3 (by decide) ?_
  refine lv_istore (lv' := [(8, .int (-2)), (7, .int 0), (0, .long x0), (2, .long x2), (4, .long x4), (6, .int x6)]) hx hb dX11_countFits_5 hl (by decide) rfl (fun ls hl => ?_)
  refine lv_iconst (v := 1) hx hb dX11_countFits_7 (by decide) ?_
  refine lv_istore (lv' := [(9, .int 1), (8, .int (-2)), (7, .int 0), (0, .long x0), (2, .long x2), (4, .long x4), (6, .int x6)]) hx hb dX11_countFits_8 hl (by decide) rfl (fun ls hl => ?_)
  exact hc_10 ZF x0 x2 x4 x6 0 (-2) 1 s0 _ _ _ (lv_sub hl [3, 4, 5, 6, 2, 1, 0] rfl) hP hS hf
theorem dX11_fits_0 : decode cX11_fits 0 = .ok (.aload_n 0, 1) := by decide +kernel
theorem dX11_fits_1 : decode cX11_fits 1 = .ok (.getfield 12, 3) := by decide +kernel
theorem dX11_fits_4 : decode cX11_fits 4 = .ok (.iload_n 1, 1) := by decide +kernel
theorem dX11_fits_5 : decode cX11_fits 5 = .ok (.i2l, 1) := by decide +kernel
theorem dX11_fits_6 : decode cX11_fits 6 = .ok (.invokevirtual 155, 3) := by decide +kernel
theorem dX11_fits_9 : decode cX11_fits 9 = .ok (.astore 6, 2) := by decide +kernel
theorem dX11_fits_11 : decode cX11_fits 11 = .ok (.aload 6, 2) := by decide +kernel
theorem dX11_fits_13 : decode cX11_fits 13 = .ok (.ifnonnull 5, 3) := by decide +kernel
theorem dX11_fits_16 : decode cX11_fits 16 = .ok (.iconst (-1), 1) := by decide +kernel
theorem dX11_fits_17 : decode cX11_fits 17 = .ok (.ireturn, 1) := by decide +kernel
theorem dX11_fits_18 : decode cX11_fits 18 = .ok (.aload_n 0, 1) := by decide +kernel
theorem dX11_fits_19 : decode cX11_fits 19 = .ok (.getfield 12, 3) := by decide +kernel
theorem dX11_fits_22 : decode cX11_fits 22 = .ok (.getfield 74, 3) := by decide +kernel
theorem dX11_fits_25 : decode cX11_fits 25 = .ok (.getfield 98, 3) := by decide +kernel
theorem dX11_fits_28 : decode cX11_fits 28 = .ok (.iconst 1, 1) := by decide +kernel
theorem dX11_fits_29 : decode cX11_fits 29 = .ok (.if_icmp .eq 6, 3) := by decide +kernel
theorem dX11_fits_32 : decode cX11_fits 32 = .ok (.bipush (-5), 2) := by decide +kernel
theorem dX11_fits_34 : decode cX11_fits 34 = .ok (.ireturn, 1) := by decide +kernel
theorem dX11_fits_35 : decode cX11_fits 35 = .ok (.iload_n 2, 1) := by decide +kernel
theorem dX11_fits_36 : decode cX11_fits 36 = .ok (.ifCond .lt 28, 3) := by decide +kernel
theorem dX11_fits_39 : decode cX11_fits 39 = .ok (.iload_n 2, 1) := by decide +kernel
theorem dX11_fits_40 : decode cX11_fits 40 = .ok (.aload_n 0, 1) := by decide +kernel
theorem dX11_fits_41 : decode cX11_fits 41 = .ok (.getfield 12, 3) := by decide +kernel
theorem dX11_fits_44 : decode cX11_fits 44 = .ok (.getfield 74, 3) := by decide +kernel
theorem dX11_fits_47 : decode cX11_fits 47 = .ok (.getfield 102, 3) := by decide +kernel
theorem dX11_fits_50 : decode cX11_fits 50 = .ok (.if_icmp .ge 14, 3) := by decide +kernel
theorem dX11_fits_53 : decode cX11_fits 53 = .ok (.iload 5, 2) := by decide +kernel
theorem dX11_fits_55 : decode cX11_fits 55 = .ok (.ifCond .lt 9, 3) := by decide +kernel
theorem dX11_fits_58 : decode cX11_fits 58 = .ok (.iload 5, 2) := by decide +kernel
theorem dX11_fits_60 : decode cX11_fits 60 = .ok (.iconst 1, 1) := by decide +kernel
theorem dX11_fits_61 : decode cX11_fits 61 = .ok (.if_icmp .le 5, 3) := by decide +kernel
theorem dX11_fits_64 : decode cX11_fits 64 = .ok (.iconst (-1), 1) := by decide +kernel
theorem dX11_fits_65 : decode cX11_fits 65 = .ok (.ireturn, 1) := by decide +kernel
theorem dX11_fits_66 : decode cX11_fits 66 = .ok (.getstatic 302, 3) := by decide +kernel
theorem dX11_fits_69 : decode cX11_fits 69 = .ok (.iconst 1, 1) := by decide +kernel
theorem dX11_fits_70 : decode cX11_fits 70 = .ok (.iload_n 2, 1) := by decide +kernel
theorem dX11_fits_71 : decode cX11_fits 71 = .ok (.iadd, 1) := by decide +kernel
theorem dX11_fits_72 : decode cX11_fits 72 = .ok (.iaload, 1) := by decide +kernel
theorem dX11_fits_73 : decode cX11_fits 73 = .ok (.istore 7, 2) := by decide +kernel
theorem dX11_fits_75 : decode cX11_fits 75 = .ok (.aload_n 0, 1) := by decide +kernel
theorem dX11_fits_76 : decode cX11_fits 76 = .ok (.aload 6, 2) := by decide +kernel
theorem dX11_fits_78 : decode cX11_fits 78 = .ok (.iconst 1, 1) := by decide +kernel
theorem dX11_fits_79 : decode cX11_fits 79 = .ok (.iconst 2, 1) := by decide +kernel
theorem dX11_fits_80 : decode cX11_fits 80 = .ok (.iload 7, 2) := by decide +kernel
theorem dX11_fits_82 : decode cX11_fits 82 = .ok (.imul, 1) := by decide +kernel
theorem dX11_fits_83 : decode cX11_fits 83 = .ok (.iadd, 1) := by decide +kernel
theorem dX11_fits_84 : decode cX11_fits 84 = .ok (.invokevirtual 305, 3) := by decide +kernel
theorem dX11_fits_87 : decode cX11_fits 87 = .ok (.lstore 8, 2) := by decide +kernel
theorem dX11_fits_89 : decode cX11_fits 89 = .ok (.aload_n 0, 1) := by decide +kernel
theorem dX11_fits_90 : decode cX11_fits 90 = .ok (.aload 6, 2) := by decide +kernel
theorem dX11_fits_92 : decode cX11_fits 92 = .ok (.iconst 3, 1) := by decide +kernel
theorem dX11_fits_93 : decode cX11_fits 93 = .ok (.iload 7, 2) := by decide +kernel
theorem dX11_fits_95 : decode cX11_fits 95 = .ok (.imul, 1) := by decide +kernel
theorem dX11_fits_96 : decode cX11_fits 96 = .ok (.invokevirtual 305, 3) := by decide +kernel
theorem dX11_fits_99 : decode cX11_fits 99 = .ok (.lstore 10, 2) := by decide +kernel
theorem dX11_fits_101 : decode cX11_fits 101 = .ok (.aload_n 0, 1) := by decide +kernel
theorem dX11_fits_102 : decode cX11_fits 102 = .ok (.getfield 12, 3) := by decide +kernel
theorem dX11_fits_105 : decode cX11_fits 105 = .ok (.getfield 74, 3) := by decide +kernel
theorem dX11_fits_108 : decode cX11_fits 108 = .ok (.getfield 108, 3) := by decide +kernel
theorem dX11_fits_111 : decode cX11_fits 111 = .ok (.iload_n 2, 1) := by decide +kernel
theorem dX11_fits_112 : decode cX11_fits 112 = .ok (.iaload, 1) := by decide +kernel
theorem dX11_fits_113 : decode cX11_fits 113 = .ok (.istore 12, 2) := by decide +kernel
theorem dX11_fits_115 : decode cX11_fits 115 = .ok (.aload_n 0, 1) := by decide +kernel
theorem dX11_fits_116 : decode cX11_fits 116 = .ok (.getfield 12, 3) := by decide +kernel
theorem dX11_fits_119 : decode cX11_fits 119 = .ok (.getfield 74, 3) := by decide +kernel
theorem dX11_fits_122 : decode cX11_fits 122 = .ok (.getfield 112, 3) := by decide +kernel
theorem dX11_fits_125 : decode cX11_fits 125 = .ok (.iload_n 2, 1) := by decide +kernel
theorem dX11_fits_126 : decode cX11_fits 126 = .ok (.iaload, 1) := by decide +kernel
theorem dX11_fits_127 : decode cX11_fits 127 = .ok (.istore 13, 2) := by decide +kernel
theorem dX11_fits_129 : decode cX11_fits 129 = .ok (.aload_n 0, 1) := by decide +kernel
theorem dX11_fits_130 : decode cX11_fits 130 = .ok (.getfield 28, 3) := by decide +kernel
theorem dX11_fits_133 : decode cX11_fits 133 = .ok (.aload 6, 2) := by decide +kernel
theorem dX11_fits_135 : decode cX11_fits 135 = .ok (.aload_n 0, 1) := by decide +kernel
theorem dX11_fits_136 : decode cX11_fits 136 = .ok (.getfield 28, 3) := by decide +kernel
theorem dX11_fits_139 : decode cX11_fits 139 = .ok (.getfield 188, 3) := by decide +kernel
theorem dX11_fits_142 : decode cX11_fits 142 = .ok (.invokevirtual 208, 3) := by decide +kernel
theorem dX11_fits_145 : decode cX11_fits 145 = .ok (.aload_n 0, 1) := by decide +kernel
theorem dX11_fits_146 : decode cX11_fits 146 = .ok (.getfield 28, 3) := by decide +kernel
theorem dX11_fits_149 : decode cX11_fits 149 = .ok (.aload_n 0, 1) := by decide +kernel
theorem dX11_fits_150 : decode cX11_fits 150 = .ok (.getfield 28, 3) := by decide +kernel
theorem dX11_fits_153 : decode cX11_fits 153 = .ok (.getfield 188, 3) := by decide +kernel
theorem dX11_fits_156 : decode cX11_fits 156 = .ok (.invokevirtual 212, 3) := by decide +kernel
theorem dX11_fits_159 : decode cX11_fits 159 = .ok (.lload 8, 2) := by decide +kernel
theorem dX11_fits_161 : decode cX11_fits 161 = .ok (.iload 12, 2) := by decide +kernel
theorem dX11_fits_163 : decode cX11_fits 163 = .ok (.invokestatic 309, 3) := by decide +kernel
theorem dX11_fits_166 : decode cX11_fits 166 = .ok (.lmul, 1) := by decide +kernel
theorem dX11_fits_167 : decode cX11_fits 167 = .ok (.lsub, 1) := by decide +kernel
theorem dX11_fits_168 : decode cX11_fits 168 = .ok (.lload 10, 2) := by decide +kernel
theorem dX11_fits_170 : decode cX11_fits 170 = .ok (.iload 12, 2) := by decide +kernel
theorem dX11_fits_172 : decode cX11_fits 172 = .ok (.iload 13, 2) := by decide +kernel
theorem dX11_fits_174 : decode cX11_fits 174 = .ok (.invokestatic 313, 3) := by decide +kernel
theorem dX11_fits_177 : decode cX11_fits 177 = .ok (.lmul, 1) := by decide +kernel
theorem dX11_fits_178 : decode cX11_fits 178 = .ok (.lsub, 1) := by decide +kernel
theorem dX11_fits_179 : decode cX11_fits 179 = .ok (.lstore 14, 2) := by decide +kernel
theorem dX11_fits_181 : decode cX11_fits 181 = .ok (.lload 8, 2) := by decide +kernel
theorem dX11_fits_183 : decode cX11_fits 183 = .ok (.lload 10, 2) := by decide +kernel
theorem dX11_fits_185 : decode cX11_fits 185 = .ok (.lload_n 3, 1) := by decide +kernel
theorem dX11_fits_186 : decode cX11_fits 186 = .ok (.lload 14, 2) := by decide +kernel
theorem dX11_fits_188 : decode cX11_fits 188 = .ok (.lsub, 1) := by decide +kernel
theorem dX11_fits_189 : decode cX11_fits 189 = .ok (.iload 5, 2) := by decide +kernel
theorem dX11_fits_191 : decode cX11_fits 191 = .ok (.invokestatic 316, 3) := by decide +kernel
theorem dX11_fits_194 : decode cX11_fits 194 = .ok (.ireturn, 1) := by decide +kernel
set_option maxHeartbeats 4000000 in
set_option maxRecDepth 100000 in
theorem cn_X11_fits {l : Launch} {cA : Nat → ClassId} {ad : Nat → Nat} {D : va_G} {E : Nat → Nat} {A : Nat → Prop} {x1 : Int32} {x2 : Int32} {x3 : Int64} {x5 : Int32} {s0 sr : SS} {rr : Int32} (hf : f_X11_fits x1 x2 x3 x5 s0 = some (rr, sr)) : zCon Ox Nx cA ad D E l yX11_fits cX11_fits 16 (some .int) 2 A [.ref (ad 0), .int x1, .int x2, .long x3, .int x5] s0 (some (.int rr)) sr := by
  refine zstart (own := RX11) hOx (by decide) rfl (Nat.le_of_ble_eq_true rfl) ?_
  intro p e s m args below meth c X hP ls hl
  have hx := X.1
  have hb := X.2.1
  have hl : lv_has ls 16 [(0, .ref (ad 0)), (1, .int x1), (2, .int x2), (3, .long x3), (5, .int x5)] := hl
  have hS : va_S A s.heap s.heap [] := va_S.rf
  rw [f_X11_fits] at hf
  refine lv_aload_n hx hb dX11_fits_0 rfl (lv_at hl 0 rfl) ?_
  refine gf_X11_12 X hP (k := 0) (q := 1) rfl dX11_fits_1 rfl ?_
  refine lv_iload_n hx hb dX11_fits_4 rfl (lv_at hl 1 rfl) ?_
  refine lv_i2l hx hb dX11_fits_5 rfl ?_
  obtain ⟨r1, s2, h3, hf⟩ := zbd_some hf
  refine zcallV X hP hS hl.1 (k := 1) (As := [.long (x1).toInt64]) (rest := []) (cn_X3_classAt h3) cw_X3_classAt zp_3 rfl (by decide) rfl ml_X11_155 (by decide) rfl rfl (Nat.le_of_ble_eq_true rfl) dX11_fits_6 (fun H locs hP hS => ?_)
  rcases r1 with _ | k4
  · have hf := zbn_none hf
    refine lv_astoreN (lv' := [(6, .null), (0, .ref (ad 0)), (1, .int x1), (2, .int x2), (3, .long x3), (5, .int x5)]) hx hb dX11_fits_9 hl (by decide) rfl (fun ls hl => ?_)
    refine lv_aloadN hx hb dX11_fits_11 (lv_at hl 0 rfl) ?_
    refine lv_ifnonnullN hx hb dX11_fits_13 ?_
    refine lv_iconst (v := (-1)) hx hb dX11_fits_16 (by decide) ?_
    exact zret_i X hP hS hf rfl dX11_fits_17
  · have hf := zbn_some hf
    obtain ⟨g5, hf⟩ := zgd hf
    refine lv_astore (lv' := [(6, .ref (ad k4)), (0, .ref (ad 0)), (1, .int x1), (2, .int x2), (3, .long x3), (5, .int x5)]) hx hb dX11_fits_9 hl (by decide) rfl (fun ls hl => ?_)
    refine lv_aload hx hb dX11_fits_11 (lv_at hl 0 rfl) ?_
    refine lv_ifnonnull (tgt := 18) hx hb dX11_fits_13 (by decide) ?_
    refine lv_aload_n hx hb dX11_fits_18 rfl (lv_at hl 1 rfl) ?_
    refine gf_X11_12 X hP (k := 0) (q := 1) rfl dX11_fits_19 rfl ?_
    refine gf_X11_74 X hP (k := 1) (q := 3) rfl dX11_fits_22 rfl ?_
    refine gf_X11_98 X hP (k := 3) rfl dX11_fits_25 ?_
    refine lv_iconst (v := 1) hx hb dX11_fits_28 (by decide) ?_
    refine zicmp_eq (tgt := 35) hx hb dX11_fits_29 (by decide) hf (fun hf => ?_) (fun hf => ?_)
    · refine lv_iload_n hx hb dX11_fits_35 rfl (lv_at hl 3 rfl) ?_
      refine zif_lt (tgt := 64) hx hb dX11_fits_36 (by decide) hf (fun hf => ?_) (fun hf => ?_)
      · refine lv_iconst (v := (-1)) hx hb dX11_fits_64 (by decide) ?_
        exact zret_i X hP hS hf rfl dX11_fits_65
      · refine lv_iload_n hx hb dX11_fits_39 rfl (lv_at hl 3 rfl) ?_
        refine lv_aload_n hx hb dX11_fits_40 rfl (lv_at hl 1 rfl) ?_
        refine gf_X11_12 X hP (k := 0) (q := 1) rfl dX11_fits_41 rfl ?_
        refine gf_X11_74 X hP (k := 1) (q := 3) rfl dX11_fits_44 rfl ?_
        refine gf_X11_102 X hP (k := 3) rfl dX11_fits_47 ?_
        refine zicmp_ge (tgt := 64) hx hb dX11_fits_50 (by decide) hf (fun hf => ?_) (fun hf => ?_)
        · refine lv_iconst (v := (-1)) hx hb dX11_fits_64 (by decide) ?_
          exact zret_i X hP hS hf rfl dX11_fits_65
        · refine lv_iload hx hb dX11_fits_53 (lv_at hl 5 rfl) ?_
          refine zif_lt (tgt := 64) hx hb dX11_fits_55 (by decide) hf (fun hf => ?_) (fun hf => ?_)
          · refine lv_iconst (v := (-1)) hx hb dX11_fits_64 (by decide) ?_
            exact zret_i X hP hS hf rfl dX11_fits_65
          · refine lv_iload hx hb dX11_fits_58 (lv_at hl 5 rfl) ?_
            refine lv_iconst (v := 1) hx hb dX11_fits_60 (by decide) ?_
            refine zicmp_le (tgt := 66) hx hb dX11_fits_61 (by decide) hf (fun hf => ?_) (fun hf => ?_)
            · refine zgs X hS (i := 0) rfl fl_X11_302 dX11_fits_66 ?_
              refine lv_iconst (v := 1) hx hb dX11_fits_69 (by decide) ?_
              refine lv_iload_n hx hb dX11_fits_70 rfl (lv_at hl 3 rfl) ?_
              refine lv_iadd hx hb dX11_fits_71 ?_
              obtain ⟨g6, hf⟩ := zgd hf
              refine zst X hS (k := 0) (n := 6) rfl rfl g6 dX11_fits_72 ?_
              refine lv_istore (lv' := [(7, .int (ztab 0 ((1 : Int32) + x2))), (6, .ref (ad k4)), (0, .ref (ad 0)), (1, .int x1), (2, .int x2), (3, .long x3), (5, .int x5)]) hx hb dX11_fits_73 hl (by decide) rfl (fun ls hl => ?_)
              refine lv_aload_n hx hb dX11_fits_75 rfl (lv_at hl 2 rfl) ?_
              refine lv_aload hx hb dX11_fits_76 (lv_at hl 1 rfl) ?_
              refine lv_iconst (v := 1) hx hb dX11_fits_78 (by decide) ?_
              refine lv_iconst (v := 2) hx hb dX11_fits_79 (by decide) ?_
              refine lv_iload hx hb dX11_fits_80 (lv_at hl 0 rfl) ?_
              refine lv_imul hx hb dX11_fits_82 ?_
              refine lv_iadd hx hb dX11_fits_83 ?_
              obtain ⟨r7, s8, h9, hf⟩ := zbd_some hf
              refine zcallV X hP hS hl.1 (k := 0) (As := [.ref (ad k4), .int ((1 : Int32) + ((2 : Int32) * (ztab 0 ((1 : Int32) + x2))))]) (rest := []) (cn_X11_numberOfCode h9) cw_X11_numberOfCode zp_11 rfl (by decide) rfl ml_X11_305 (by decide) rfl rfl (Nat.le_of_ble_eq_true rfl) dX11_fits_84 (fun H locs hP hS => ?_)
              refine lv_lstore (lv' := [(8, .long r7), (7, .int (ztab 0 ((1 : Int32) + x2))), (6, .ref (ad k4)), (0, .ref (ad 0)), (1, .int x1), (2, .int x2), (3, .long x3), (5, .int x5)]) hx hb dX11_fits_87 hl (by decide) rfl (fun ls hl => ?_)
              refine lv_aload_n hx hb dX11_fits_89 rfl (lv_at hl 3 rfl) ?_
              refine lv_aload hx hb dX11_fits_90 (lv_at hl 2 rfl) ?_
              refine lv_iconst (v := 3) hx hb dX11_fits_92 (by decide) ?_
              refine lv_iload hx hb dX11_fits_93 (lv_at hl 1 rfl) ?_
              refine lv_imul hx hb dX11_fits_95 ?_
              obtain ⟨r10, s11, h12, hf⟩ := zbd_some hf
              refine zcallV X hP hS hl.1 (k := 0) (As := [.ref (ad k4), .int ((3 : Int32) * (ztab 0 ((1 : Int32) + x2)))]) (rest := []) (cn_X11_numberOfCode h12) cw_X11_numberOfCode zp_11 rfl (by decide) rfl ml_X11_305 (by decide) rfl rfl (Nat.le_of_ble_eq_true rfl) dX11_fits_96 (fun H locs hP hS => ?_)
              refine lv_lstore (lv' := [(10, .long r10), (8, .long r7), (7, .int (ztab 0 ((1 : Int32) + x2))), (6, .ref (ad k4)), (0, .ref (ad 0)), (1, .int x1), (2, .int x2), (3, .long x3), (5, .int x5)]) hx hb dX11_fits_99 hl (by decide) rfl (fun ls hl => ?_)
              refine lv_aload_n hx hb dX11_fits_101 rfl (lv_at hl 4 rfl) ?_
              refine gf_X11_12 X hP (k := 0) (q := 1) rfl dX11_fits_102 rfl ?_
              refine gf_X11_74 X hP (k := 1) (q := 3) rfl dX11_fits_105 rfl ?_
              refine gf_X11_108 X hP (k := 3) (q := 16) rfl dX11_fits_108 rfl ?_
              refine lv_iload_n hx hb dX11_fits_111 rfl (lv_at hl 6 rfl) ?_
              obtain ⟨g13, hf⟩ := zgd hf
              refine zald_i X hP (k := 16) (n := 3) (rs := []) rfl g13 dX11_fits_112 ?_
              refine lv_istore (lv' := [(12, .int (s11.1 16 (x2).toNatClampNeg)), (10, .long r10), (8, .long r7), (7, .int (ztab 0 ((1 : Int32) + x2))), (6, .ref (ad k4)), (0, .ref (ad 0)), (1, .int x1), (2, .int x2), (3, .long x3), (5, .int x5)]) hx hb dX11_fits_113 hl (by decide) rfl (fun ls hl => ?_)
              refine lv_aload_n hx hb dX11_fits_115 rfl (lv_at hl 5 rfl) ?_
              refine gf_X11_12 X hP (k := 0) (q := 1) rfl dX11_fits_116 rfl ?_
              refine gf_X11_74 X hP (k := 1) (q := 3) rfl dX11_fits_119 rfl ?_
              refine gf_X11_112 X hP (k := 3) (q := 17) rfl dX11_fits_122 rfl ?_
              refine lv_iload_n hx hb dX11_fits_125 rfl (lv_at hl 7 rfl) ?_
              obtain ⟨g14, hf⟩ := zgd hf
              refine zald_i X hP (k := 17) (n := 3) (rs := []) rfl g14 dX11_fits_126 ?_
              refine lv_istore (lv' := [(13, .int (s11.1 17 (x2).toNatClampNeg)), (12, .int (s11.1 16 (x2).toNatClampNeg)), (10, .long r10), (8, .long r7), (7, .int (ztab 0 ((1 : Int32) + x2))), (6, .ref (ad k4)), (0, .ref (ad 0)), (1, .int x1), (2, .int x2), (3, .long x3), (5, .int x5)]) hx hb dX11_fits_127 hl (by decide) rfl (fun ls hl => ?_)
              refine lv_aload_n hx hb dX11_fits_129 rfl (lv_at hl 6 rfl) ?_
              refine gf_X11_28 X hP (k := 0) (q := 5) rfl dX11_fits_130 rfl ?_
              refine lv_aload hx hb dX11_fits_133 (lv_at hl 5 rfl) ?_
              refine lv_aload_n hx hb dX11_fits_135 rfl (lv_at hl 6 rfl) ?_
              refine gf_X11_28 X hP (k := 0) (q := 5) rfl dX11_fits_136 rfl ?_
              refine gf_X11_188 X hP (k := 5) (q := 21) rfl dX11_fits_139 rfl ?_
              obtain ⟨r15, s16, h17, hf⟩ := zbd_some hf
              refine zcallV X hP hS hl.1 (k := 5) (As := [.ref (ad k4), .ref (ad 21)]) (rest := []) (cn_X8_takeNumbers h17) cw_X8_takeNumbers zp_8 rfl (by decide) rfl ml_X11_208 (by decide) rfl rfl (Nat.le_of_ble_eq_true rfl) dX11_fits_142 (fun H locs hP hS => ?_)
              refine lv_aload_n hx hb dX11_fits_145 rfl (lv_at hl 6 rfl) ?_
              refine gf_X11_28 X hP (k := 0) (q := 5) rfl dX11_fits_146 rfl ?_
              refine lv_aload_n hx hb dX11_fits_149 rfl (lv_at hl 6 rfl) ?_
              refine gf_X11_28 X hP (k := 0) (q := 5) rfl dX11_fits_150 rfl ?_
              refine gf_X11_188 X hP (k := 5) (q := 21) rfl dX11_fits_153 rfl ?_
              obtain ⟨r18, s19, h20, hf⟩ := zbd_some hf
              refine zcallV X hP hS hl.1 (k := 5) (As := [.ref (ad 21)]) (rest := []) (cn_X8_metOf h20) cw_X8_metOf zp_8 rfl (by decide) rfl ml_X11_212 (by decide) rfl rfl (Nat.le_of_ble_eq_true rfl) dX11_fits_156 (fun H locs hP hS => ?_)
              refine lv_lload hx hb dX11_fits_159 (lv_at hl 3 rfl) ?_
              refine lv_iload hx hb dX11_fits_161 (lv_at hl 1 rfl) ?_
              obtain ⟨r21, s22, h23, hf⟩ := zbd_some hf
              refine zcallS X hP hS hl.1 (As := [.int (s11.1 16 (x2).toNatClampNeg)]) (rest := [.long r7, .long r18]) (cn_X7_worthTwice h23) cw_X7_worthTwice ml_X11_309 (by decide) rfl rfl (Nat.le_of_ble_eq_true rfl) dX11_fits_163 (fun H locs hP hS => ?_)
              refine lv_lmul hx hb dX11_fits_166 ?_
              refine lv_lsub hx hb dX11_fits_167 ?_
              refine lv_lload hx hb dX11_fits_168 (lv_at hl 2 rfl) ?_
              refine lv_iload hx hb dX11_fits_170 (lv_at hl 1 rfl) ?_
              refine lv_iload hx hb dX11_fits_172 (lv_at hl 0 rfl) ?_
              obtain ⟨r24, s25, h26, hf⟩ := zbd_some hf
              refine zcallS X hP hS hl.1 (As := [.int (s11.1 16 (x2).toNatClampNeg), .int (s11.1 17 (x2).toNatClampNeg)]) (rest := [.long r10, .long (r18 - (r7 * r21))]) (cn_X7_worthThrice h26) cw_X7_worthThrice ml_X11_313 (by decide) rfl rfl (Nat.le_of_ble_eq_true rfl) dX11_fits_174 (fun H locs hP hS => ?_)
              refine lv_lmul hx hb dX11_fits_177 ?_
              refine lv_lsub hx hb dX11_fits_178 ?_
              refine lv_lstore (lv' := [(14, .long ((r18 - (r7 * r21)) - (r10 * r24))), (13, .int (s11.1 17 (x2).toNatClampNeg)), (12, .int (s11.1 16 (x2).toNatClampNeg)), (10, .long r10), (8, .long r7), (7, .int (ztab 0 ((1 : Int32) + x2))), (6, .ref (ad k4)), (0, .ref (ad 0)), (1, .int x1), (2, .int x2), (3, .long x3), (5, .int x5)]) hx hb dX11_fits_179 hl (by decide) rfl (fun ls hl => ?_)
              refine lv_lload hx hb dX11_fits_181 (lv_at hl 4 rfl) ?_
              refine lv_lload hx hb dX11_fits_183 (lv_at hl 3 rfl) ?_
              refine lv_lload_n hx hb dX11_fits_185 rfl (lv_at hl 10 rfl) ?_
              refine lv_lload hx hb dX11_fits_186 (lv_at hl 0 rfl) ?_
              refine lv_lsub hx hb dX11_fits_188 ?_
              refine lv_iload hx hb dX11_fits_189 (lv_at hl 11 rfl) ?_
              obtain ⟨r27, s28, h29, hf⟩ := zbd_some hf
              refine zcallS X hP hS hl.1 (As := [.long r7, .long r10, .long (x3 - ((r18 - (r7 * r21)) - (r10 * r24))), .int x5]) (rest := []) (cn_X11_countFits h29) cw_X11_countFits ml_X11_316 (by decide) rfl rfl (Nat.le_of_ble_eq_true rfl) dX11_fits_191 (fun H locs hP hS => ?_)
              exact zret_i X hP hS hf rfl dX11_fits_194
            · refine lv_iconst (v := (-1)) hx hb dX11_fits_64 (by decide) ?_
              exact zret_i X hP hS hf rfl dX11_fits_65
    · refine lv_bipush (v := (-5)) hx hb dX11_fits_32 (by decide) ?_
      exact zret_i X hP hS hf rfl dX11_fits_34
theorem dX11_judge_0 : decode cX11_judge 0 = .ok (.aload_n 0, 1) := by decide +kernel
theorem dX11_judge_1 : decode cX11_judge 1 = .ok (.getfield 63, 3) := by decide +kernel
theorem dX11_judge_4 : decode cX11_judge 4 = .ok (.iload_n 1, 1) := by decide +kernel
theorem dX11_judge_5 : decode cX11_judge 5 = .ok (.invokevirtual 320, 3) := by decide +kernel
theorem dX11_judge_8 : decode cX11_judge 8 = .ok (.ifCond .ne 5, 3) := by decide +kernel
theorem dX11_judge_11 : decode cX11_judge 11 = .ok (.iconst (-1), 1) := by decide +kernel
theorem dX11_judge_12 : decode cX11_judge 12 = .ok (.ireturn, 1) := by decide +kernel
theorem dX11_judge_13 : decode cX11_judge 13 = .ok (.aload_n 0, 1) := by decide +kernel
theorem dX11_judge_14 : decode cX11_judge 14 = .ok (.getfield 63, 3) := by decide +kernel
theorem dX11_judge_17 : decode cX11_judge 17 = .ok (.iload_n 1, 1) := by decide +kernel
theorem dX11_judge_18 : decode cX11_judge 18 = .ok (.invokevirtual 220, 3) := by decide +kernel
theorem dX11_judge_21 : decode cX11_judge 21 = .ok (.ifCond .ne 6, 3) := by decide +kernel
theorem dX11_judge_24 : decode cX11_judge 24 = .ok (.bipush (-11), 2) := by decide +kernel
theorem dX11_judge_26 : decode cX11_judge 26 = .ok (.ireturn, 1) := by decide +kernel
theorem dX11_judge_27 : decode cX11_judge 27 = .ok (.aload_n 0, 1) := by decide +kernel
theorem dX11_judge_28 : decode cX11_judge 28 = .ok (.getfield 63, 3) := by decide +kernel
theorem dX11_judge_31 : decode cX11_judge 31 = .ok (.iload_n 1, 1) := by decide +kernel
theorem dX11_judge_32 : decode cX11_judge 32 = .ok (.invokevirtual 244, 3) := by decide +kernel
theorem dX11_judge_35 : decode cX11_judge 35 = .ok (.istore_n 2, 1) := by decide +kernel
theorem dX11_judge_36 : decode cX11_judge 36 = .ok (.iconst 0, 1) := by decide +kernel
theorem dX11_judge_37 : decode cX11_judge 37 = .ok (.istore_n 3, 1) := by decide +kernel
theorem dX11_judge_38 : decode cX11_judge 38 = .ok (.iload_n 3, 1) := by decide +kernel
theorem dX11_judge_39 : decode cX11_judge 39 = .ok (.iload_n 2, 1) := by decide +kernel
theorem dX11_judge_40 : decode cX11_judge 40 = .ok (.if_icmp .ge 72, 3) := by decide +kernel
theorem dX11_judge_43 : decode cX11_judge 43 = .ok (.iload_n 3, 1) := by decide +kernel
theorem dX11_judge_44 : decode cX11_judge 44 = .ok (.aload_n 0, 1) := by decide +kernel
theorem dX11_judge_45 : decode cX11_judge 45 = .ok (.getfield 12, 3) := by decide +kernel
theorem dX11_judge_48 : decode cX11_judge 48 = .ok (.getfield 141, 3) := by decide +kernel
theorem dX11_judge_51 : decode cX11_judge 51 = .ok (.if_icmp .ge 61, 3) := by decide +kernel
theorem dX11_judge_54 : decode cX11_judge 54 = .ok (.aload_n 0, 1) := by decide +kernel
theorem dX11_judge_55 : decode cX11_judge 55 = .ok (.getfield 28, 3) := by decide +kernel
theorem dX11_judge_58 : decode cX11_judge 58 = .ok (.aload_n 0, 1) := by decide +kernel
theorem dX11_judge_59 : decode cX11_judge 59 = .ok (.getfield 12, 3) := by decide +kernel
theorem dX11_judge_62 : decode cX11_judge 62 = .ok (.getfield 145, 3) := by decide +kernel
theorem dX11_judge_65 : decode cX11_judge 65 = .ok (.iload_n 3, 1) := by decide +kernel
theorem dX11_judge_66 : decode cX11_judge 66 = .ok (.aaload, 1) := by decide +kernel
theorem dX11_judge_67 : decode cX11_judge 67 = .ok (.aload_n 0, 1) := by decide +kernel
theorem dX11_judge_68 : decode cX11_judge 68 = .ok (.getfield 28, 3) := by decide +kernel
theorem dX11_judge_71 : decode cX11_judge 71 = .ok (.getfield 188, 3) := by decide +kernel
theorem dX11_judge_74 : decode cX11_judge 74 = .ok (.invokevirtual 208, 3) := by decide +kernel
theorem dX11_judge_77 : decode cX11_judge 77 = .ok (.aload_n 0, 1) := by decide +kernel
theorem dX11_judge_78 : decode cX11_judge 78 = .ok (.getfield 28, 3) := by decide +kernel
theorem dX11_judge_81 : decode cX11_judge 81 = .ok (.aload_n 0, 1) := by decide +kernel
theorem dX11_judge_82 : decode cX11_judge 82 = .ok (.getfield 28, 3) := by decide +kernel
theorem dX11_judge_85 : decode cX11_judge 85 = .ok (.getfield 188, 3) := by decide +kernel
theorem dX11_judge_88 : decode cX11_judge 88 = .ok (.invokevirtual 212, 3) := by decide +kernel
theorem dX11_judge_91 : decode cX11_judge 91 = .ok (.aload_n 0, 1) := by decide +kernel
theorem dX11_judge_92 : decode cX11_judge 92 = .ok (.getfield 63, 3) := by decide +kernel
theorem dX11_judge_95 : decode cX11_judge 95 = .ok (.iload_n 1, 1) := by decide +kernel
theorem dX11_judge_96 : decode cX11_judge 96 = .ok (.iload_n 3, 1) := by decide +kernel
theorem dX11_judge_97 : decode cX11_judge 97 = .ok (.invokevirtual 247, 3) := by decide +kernel
theorem dX11_judge_100 : decode cX11_judge 100 = .ok (.lcmp, 1) := by decide +kernel
theorem dX11_judge_101 : decode cX11_judge 101 = .ok (.ifCond .eq 5, 3) := by decide +kernel
theorem dX11_judge_104 : decode cX11_judge 104 = .ok (.iload_n 3, 1) := by decide +kernel
theorem dX11_judge_105 : decode cX11_judge 105 = .ok (.ireturn, 1) := by decide +kernel
theorem dX11_judge_106 : decode cX11_judge 106 = .ok (.iinc 3 1, 3) := by decide +kernel
theorem dX11_judge_109 : decode cX11_judge 109 = .ok (.goto (-71), 3) := by decide +kernel
theorem dX11_judge_112 : decode cX11_judge 112 = .ok (.iload_n 2, 1) := by decide +kernel
theorem dX11_judge_113 : decode cX11_judge 113 = .ok (.aload_n 0, 1) := by decide +kernel
theorem dX11_judge_114 : decode cX11_judge 114 = .ok (.getfield 12, 3) := by decide +kernel
theorem dX11_judge_117 : decode cX11_judge 117 = .ok (.getfield 141, 3) := by decide +kernel
theorem dX11_judge_120 : decode cX11_judge 120 = .ok (.if_icmp .ge 10, 3) := by decide +kernel
theorem dX11_judge_123 : decode cX11_judge 123 = .ok (.bipush 100, 2) := by decide +kernel
theorem dX11_judge_125 : decode cX11_judge 125 = .ok (.iload_n 2, 1) := by decide +kernel
theorem dX11_judge_126 : decode cX11_judge 126 = .ok (.iadd, 1) := by decide +kernel
theorem dX11_judge_127 : decode cX11_judge 127 = .ok (.goto 5, 3) := by decide +kernel
theorem dX11_judge_130 : decode cX11_judge 130 = .ok (.bipush (-2), 2) := by decide +kernel
theorem dX11_judge_132 : decode cX11_judge 132 = .ok (.ireturn, 1) := by decide +kernel
set_option maxHeartbeats 4000000 in
set_option maxRecDepth 100000 in
theorem cn_X11_judge {l : Launch} {cA : Nat → ClassId} {ad : Nat → Nat} {D : va_G} {E : Nat → Nat} {A : Nat → Prop} {x1 : Int32} {s0 sr : SS} {rr : Int32} (hf : f_X11_judge x1 s0 = some (rr, sr)) : zCon Ox Nx cA ad D E l yX11_judge cX11_judge 4 (some .int) 4 A [.ref (ad 0), .int x1] s0 (some (.int rr)) sr := by
  refine zstart (own := RX11) hOx (by decide) rfl (Nat.le_of_ble_eq_true rfl) ?_
  intro p e s m args below meth c X hP ls hl
  have hx := X.1
  have hb := X.2.1
  have hl : lv_has ls 4 [(0, .ref (ad 0)), (1, .int x1)] := hl
  have hS : va_S A s.heap s.heap [] := va_S.rf
  have hc_38 : ∀ (n38 : Nat) (x1 : Int32) (x2 : Int32) (x3 : Int32) (s1 : SS) (H : Heap) (locs : List Loc) (ls : Array Slot), lv_has ls 4 [(0, .ref (ad 0)), (1, .int x1), (2, .int x2), (3, .int x3)] → va_P D ZCL (zw Ox Nx cA ad s1) H → va_S A s.heap H locs → f_X11_judge_c38 n38 x1 x2 x3 s1 = some (rr, sr) → W p l e (zrm 4) s m args below meth c H locs 0 0 (MQ below (zQc Ox Nx cA ad D A (some (.int rr)) sr) args s 0 0 A) (F0 m 38 ls []) := by
    intro n38
    induction n38 with
    | zero =>
      intro x1 x2 x3 s1 H locs ls hl hP hS hf
      rw [f_X11_judge_c38] at hf
      cases hf
    | succ n38 ih38 =>
      have hc_112 : ∀ (x2 : Int32) (s1 : SS) (H : Heap) (locs : List Loc) (ls : Array Slot), lv_has ls 4 [(0, .ref (ad 0)), (2, .int x2)] → va_P D ZCL (zw Ox Nx cA ad s1) H → va_S A s.heap H locs → f_X11_judge_c112 x2 s1 = some (rr, sr) → W p l e (zrm 4) s m args below meth c H locs 0 0 (MQ below (zQc Ox Nx cA ad D A (some (.int rr)) sr) args s 0 0 A) (F0 m 112 ls []) := by
        intro x2 s1 H locs ls hl hP hS hf
        rw [f_X11_judge_c112] at hf
        refine lv_iload_n hx hb dX11_judge_112 rfl (lv_at hl 1 rfl) ?_
        refine lv_aload_n hx hb dX11_judge_113 rfl (lv_at hl 0 rfl) ?_
        refine gf_X11_12 X hP (k := 0) (q := 1) rfl dX11_judge_114 rfl ?_
        refine gf_X11_141 X hP (k := 1) rfl dX11_judge_117 ?_
        refine zicmp_ge (tgt := 130) hx hb dX11_judge_120 (by decide) hf (fun hf => ?_) (fun hf => ?_)
        · refine lv_bipush (v := (-2)) hx hb dX11_judge_130 (by decide) ?_
          exact zret_i X hP hS hf rfl dX11_judge_132
        · refine lv_bipush (v := 100) hx hb dX11_judge_123 (by decide) ?_
          refine lv_iload_n hx hb dX11_judge_125 rfl (lv_at hl 1 rfl) ?_
          refine lv_iadd hx hb dX11_judge_126 ?_
          refine lv_goto (tgt := 132) hx hb dX11_judge_127 (by decide) ?_
          exact zret_i X hP hS hf rfl dX11_judge_132
      intro x1 x2 x3 s1 H locs ls hl hP hS hf
      rw [f_X11_judge_c38] at hf
      refine lv_iload_n hx hb dX11_judge_38 rfl (lv_at hl 3 rfl) ?_
      refine lv_iload_n hx hb dX11_judge_39 rfl (lv_at hl 2 rfl) ?_
      refine zicmp_ge (tgt := 112) hx hb dX11_judge_40 (by decide) hf (fun hf => ?_) (fun hf => ?_)
      · exact hc_112 x2 s1 _ _ _ (lv_sub hl [0, 2] rfl) hP hS hf
      · refine lv_iload_n hx hb dX11_judge_43 rfl (lv_at hl 3 rfl) ?_
        refine lv_aload_n hx hb dX11_judge_44 rfl (lv_at hl 0 rfl) ?_
        refine gf_X11_12 X hP (k := 0) (q := 1) rfl dX11_judge_45 rfl ?_
        refine gf_X11_141 X hP (k := 1) rfl dX11_judge_48 ?_
        refine zicmp_ge (tgt := 112) hx hb dX11_judge_51 (by decide) hf (fun hf => ?_) (fun hf => ?_)
        · exact hc_112 x2 s1 _ _ _ (lv_sub hl [0, 2] rfl) hP hS hf
        · refine lv_aload_n hx hb dX11_judge_54 rfl (lv_at hl 0 rfl) ?_
          refine gf_X11_28 X hP (k := 0) (q := 5) rfl dX11_judge_55 rfl ?_
          refine lv_aload_n hx hb dX11_judge_58 rfl (lv_at hl 0 rfl) ?_
          refine gf_X11_12 X hP (k := 0) (q := 1) rfl dX11_judge_59 rfl ?_
          refine gf_X11_145 X hP (k := 1) (q := 13) rfl dX11_judge_62 rfl ?_
          refine lv_iload_n hx hb dX11_judge_65 rfl (lv_at hl 3 rfl) ?_
          obtain ⟨g10, hf⟩ := zgd hf
          obtain ⟨g12, hf⟩ := zgd hf
          obtain ⟨n11, rn11, on11, in11⟩ := zok_of g10
          refine zald_q X hP zlr_x (k := 13) on11 in11 dX11_judge_66 rfl ?_
          refine lv_aload_n hx hb dX11_judge_67 rfl (lv_at hl 0 rfl) ?_
          refine gf_X11_28 X hP (k := 0) (q := 5) rfl dX11_judge_68 rfl ?_
          refine gf_X11_188 X hP (k := 5) (q := 21) rfl dX11_judge_71 rfl ?_
          obtain ⟨r13, s14, h15, hf⟩ := zbd_some hf
          refine zcallV X hP hS hl.1 (k := 5) (As := [.ref (ad (zrr Ox 13 x3)), .ref (ad 21)]) (rest := []) (cn_X8_takeNumbers h15) cw_X8_takeNumbers zp_8 rfl (by decide) rfl ml_X11_208 (by decide) rfl rfl (Nat.le_of_ble_eq_true rfl) dX11_judge_74 (fun H locs hP hS => ?_)
          refine lv_aload_n hx hb dX11_judge_77 rfl (lv_at hl 0 rfl) ?_
          refine gf_X11_28 X hP (k := 0) (q := 5) rfl dX11_judge_78 rfl ?_
          refine lv_aload_n hx hb dX11_judge_81 rfl (lv_at hl 0 rfl) ?_
          refine gf_X11_28 X hP (k := 0) (q := 5) rfl dX11_judge_82 rfl ?_
          refine gf_X11_188 X hP (k := 5) (q := 21) rfl dX11_judge_85 rfl ?_
          obtain ⟨r16, s17, h18, hf⟩ := zbd_some hf
          refine zcallV X hP hS hl.1 (k := 5) (As := [.ref (ad 21)]) (rest := []) (cn_X8_metOf h18) cw_X8_metOf zp_8 rfl (by decide) rfl ml_X11_212 (by decide) rfl rfl (Nat.le_of_ble_eq_true rfl) dX11_judge_88 (fun H locs hP hS => ?_)
          refine lv_aload_n hx hb dX11_judge_91 rfl (lv_at hl 0 rfl) ?_
          refine gf_X11_63 X hP (k := 0) (q := 11) rfl dX11_judge_92 rfl ?_
          refine lv_iload_n hx hb dX11_judge_95 rfl (lv_at hl 1 rfl) ?_
          refine lv_iload_n hx hb dX11_judge_96 rfl (lv_at hl 3 rfl) ?_
          obtain ⟨r19, s20, h21, hf⟩ := zbd_some hf
          refine zcallV X hP hS hl.1 (k := 11) (As := [.int x1, .int x3]) (rest := [.long r16]) (cn_X5_valueAt h21) cw_X5_valueAt zp_5 rfl (by decide) rfl ml_X11_247 (by decide) rfl rfl (Nat.le_of_ble_eq_true rfl) dX11_judge_97 (fun H locs hP hS => ?_)
          refine W.lcmp hx hb dX11_judge_100 ?_
          refine zif_eq (tgt := 106) hx hb dX11_judge_101 (by decide) hf (fun hf => ?_) (fun hf => ?_)
          · refine lv_iinc (v := (x3 + 1)) (lv' := [(3, .int (x3 + 1)), (0, .ref (ad 0)), (1, .int x1), (2, .int x2)]) hx hb dX11_judge_106 hl (k := 3) rfl rfl (by decide) rfl (fun ls hl => ?_)
            refine lv_goto (tgt := 38) hx hb dX11_judge_109 (by decide) ?_
            exact ih38 x1 x2 (x3 + 1) s20 _ _ _ (lv_sub hl [1, 2, 3, 0] rfl) hP hS hf
          · refine lv_iload_n hx hb dX11_judge_104 rfl (lv_at hl 3 rfl) ?_
            exact zret_i X hP hS hf rfl dX11_judge_105
  rw [f_X11_judge] at hf
  refine lv_aload_n hx hb dX11_judge_0 rfl (lv_at hl 0 rfl) ?_
  refine gf_X11_63 X hP (k := 0) (q := 11) rfl dX11_judge_1 rfl ?_
  refine lv_iload_n hx hb dX11_judge_4 rfl (lv_at hl 1 rfl) ?_
  obtain ⟨r1, s2, h3, hf⟩ := zbd_some hf
  refine zcallV X hP hS hl.1 (k := 11) (As := [.int x1]) (rest := []) (cn_X5_isOne h3) cw_X5_isOne zp_5 rfl (by decide) rfl ml_X11_320 (by decide) rfl rfl (Nat.le_of_ble_eq_true rfl) dX11_judge_5 (fun H locs hP hS => ?_)
  refine zif_ne (tgt := 13) hx hb dX11_judge_8 (by decide) hf (fun hf => ?_) (fun hf => ?_)
  · refine lv_aload_n hx hb dX11_judge_13 rfl (lv_at hl 0 rfl) ?_
    refine gf_X11_63 X hP (k := 0) (q := 11) rfl dX11_judge_14 rfl ?_
    refine lv_iload_n hx hb dX11_judge_17 rfl (lv_at hl 1 rfl) ?_
    obtain ⟨r4, s5, h6, hf⟩ := zbd_some hf
    refine zcallV X hP hS hl.1 (k := 11) (As := [.int x1]) (rest := []) (cn_X5_isThere h6) cw_X5_isThere zp_5 rfl (by decide) rfl ml_X11_220 (by decide) rfl rfl (Nat.le_of_ble_eq_true rfl) dX11_judge_18 (fun H locs hP hS => ?_)
    refine zif_ne (tgt := 27) hx hb dX11_judge_21 (by decide) hf (fun hf => ?_) (fun hf => ?_)
    · refine lv_aload_n hx hb dX11_judge_27 rfl (lv_at hl 0 rfl) ?_
      refine gf_X11_63 X hP (k := 0) (q := 11) rfl dX11_judge_28 rfl ?_
      refine lv_iload_n hx hb dX11_judge_31 rfl (lv_at hl 1 rfl) ?_
      obtain ⟨r7, s8, h9, hf⟩ := zbd_some hf
      refine zcallV X hP hS hl.1 (k := 11) (As := [.int x1]) (rest := []) (cn_X5_sizeOf h9) cw_X5_sizeOf zp_5 rfl (by decide) rfl ml_X11_244 (by decide) rfl rfl (Nat.le_of_ble_eq_true rfl) dX11_judge_32 (fun H locs hP hS => ?_)
      refine lv_istore_n (lv' := [(2, .int r7), (0, .ref (ad 0)), (1, .int x1)]) hx hb dX11_judge_35 rfl hl (by decide) rfl (fun ls hl => ?_)
      refine lv_iconst (v := 0) hx hb dX11_judge_36 (by decide) ?_
      refine lv_istore_n (lv' := [(3, .int 0), (2, .int r7), (0, .ref (ad 0)), (1, .int x1)]) hx hb dX11_judge_37 rfl hl (by decide) rfl (fun ls hl => ?_)
      exact hc_38 ZF x1 r7 0 s8 _ _ _ (lv_sub hl [2, 3, 1, 0] rfl) hP hS hf
    · refine lv_bipush (v := (-11)) hx hb dX11_judge_24 (by decide) ?_
      exact zret_i X hP hS hf rfl dX11_judge_26
  · refine lv_iconst (v := (-1)) hx hb dX11_judge_11 (by decide) ?_
    exact zret_i X hP hS hf rfl dX11_judge_12
theorem dX11_lots_0 : decode cX11_lots 0 = .ok (.iload_n 1, 1) := by decide +kernel
theorem dX11_lots_1 : decode cX11_lots 1 = .ok (.iconst 1, 1) := by decide +kernel
theorem dX11_lots_2 : decode cX11_lots 2 = .ok (.if_icmp .lt 18, 3) := by decide +kernel
theorem dX11_lots_5 : decode cX11_lots 5 = .ok (.iload_n 1, 1) := by decide +kernel
theorem dX11_lots_6 : decode cX11_lots 6 = .ok (.bipush 50, 2) := by decide +kernel
theorem dX11_lots_8 : decode cX11_lots 8 = .ok (.if_icmp .gt 12, 3) := by decide +kernel
theorem dX11_lots_11 : decode cX11_lots 11 = .ok (.iload_n 3, 1) := by decide +kernel
theorem dX11_lots_12 : decode cX11_lots 12 = .ok (.ifCond .lt 8, 3) := by decide +kernel
theorem dX11_lots_15 : decode cX11_lots 15 = .ok (.iload_n 3, 1) := by decide +kernel
theorem dX11_lots_16 : decode cX11_lots 16 = .ok (.iconst 1, 1) := by decide +kernel
theorem dX11_lots_17 : decode cX11_lots 17 = .ok (.if_icmp .le 7, 3) := by decide +kernel
theorem dX11_lots_20 : decode cX11_lots 20 = .ok (.ldc2_w 132, 3) := by decide +kernel
theorem dX11_lots_23 : decode cX11_lots 23 = .ok (.lreturn, 1) := by decide +kernel
theorem dX11_lots_24 : decode cX11_lots 24 = .ok (.aload_n 0, 1) := by decide +kernel
theorem dX11_lots_25 : decode cX11_lots 25 = .ok (.getfield 12, 3) := by decide +kernel
theorem dX11_lots_28 : decode cX11_lots 28 = .ok (.getfield 141, 3) := by decide +kernel
theorem dX11_lots_31 : decode cX11_lots 31 = .ok (.ifCond .ne 7, 3) := by decide +kernel
theorem dX11_lots_34 : decode cX11_lots 34 = .ok (.ldc2_w 227, 3) := by decide +kernel
theorem dX11_lots_37 : decode cX11_lots 37 = .ok (.lreturn, 1) := by decide +kernel
theorem dX11_lots_38 : decode cX11_lots 38 = .ok (.iload_n 2, 1) := by decide +kernel
theorem dX11_lots_39 : decode cX11_lots 39 = .ok (.istore 4, 2) := by decide +kernel
theorem dX11_lots_41 : decode cX11_lots 41 = .ok (.lconst 0, 1) := by decide +kernel
theorem dX11_lots_42 : decode cX11_lots 42 = .ok (.lstore 5, 2) := by decide +kernel
theorem dX11_lots_44 : decode cX11_lots 44 = .ok (.lconst 0, 1) := by decide +kernel
theorem dX11_lots_45 : decode cX11_lots 45 = .ok (.lstore 7, 2) := by decide +kernel
theorem dX11_lots_47 : decode cX11_lots 47 = .ok (.iconst 0, 1) := by decide +kernel
theorem dX11_lots_48 : decode cX11_lots 48 = .ok (.istore 9, 2) := by decide +kernel
theorem dX11_lots_50 : decode cX11_lots 50 = .ok (.iload 9, 2) := by decide +kernel
theorem dX11_lots_52 : decode cX11_lots 52 = .ok (.iload_n 1, 1) := by decide +kernel
theorem dX11_lots_53 : decode cX11_lots 53 = .ok (.if_icmp .ge 132, 3) := by decide +kernel
theorem dX11_lots_56 : decode cX11_lots 56 = .ok (.aload_n 0, 1) := by decide +kernel
theorem dX11_lots_57 : decode cX11_lots 57 = .ok (.getfield 28, 3) := by decide +kernel
theorem dX11_lots_60 : decode cX11_lots 60 = .ok (.aload_n 0, 1) := by decide +kernel
theorem dX11_lots_61 : decode cX11_lots 61 = .ok (.getfield 28, 3) := by decide +kernel
theorem dX11_lots_64 : decode cX11_lots 64 = .ok (.getfield 188, 3) := by decide +kernel
theorem dX11_lots_67 : decode cX11_lots 67 = .ok (.invokevirtual 240, 3) := by decide +kernel
theorem dX11_lots_70 : decode cX11_lots 70 = .ok (.iconst 0, 1) := by decide +kernel
theorem dX11_lots_71 : decode cX11_lots 71 = .ok (.istore 10, 2) := by decide +kernel
theorem dX11_lots_73 : decode cX11_lots 73 = .ok (.iload 10, 2) := by decide +kernel
theorem dX11_lots_75 : decode cX11_lots 75 = .ok (.aload_n 0, 1) := by decide +kernel
theorem dX11_lots_76 : decode cX11_lots 76 = .ok (.getfield 12, 3) := by decide +kernel
theorem dX11_lots_79 : decode cX11_lots 79 = .ok (.getfield 74, 3) := by decide +kernel
theorem dX11_lots_82 : decode cX11_lots 82 = .ok (.invokevirtual 115, 3) := by decide +kernel
theorem dX11_lots_85 : decode cX11_lots 85 = .ok (.if_icmp .ge 54, 3) := by decide +kernel
theorem dX11_lots_88 : decode cX11_lots 88 = .ok (.iload 4, 2) := by decide +kernel
theorem dX11_lots_90 : decode cX11_lots 90 = .ok (.ldc_w 323, 3) := by decide +kernel
theorem dX11_lots_93 : decode cX11_lots 93 = .ok (.imul, 1) := by decide +kernel
theorem dX11_lots_94 : decode cX11_lots 94 = .ok (.sipush 12345, 3) := by decide +kernel
theorem dX11_lots_97 : decode cX11_lots 97 = .ok (.iadd, 1) := by decide +kernel
theorem dX11_lots_98 : decode cX11_lots 98 = .ok (.istore 4, 2) := by decide +kernel
theorem dX11_lots_100 : decode cX11_lots 100 = .ok (.aload_n 0, 1) := by decide +kernel
theorem dX11_lots_101 : decode cX11_lots 101 = .ok (.getfield 28, 3) := by decide +kernel
theorem dX11_lots_104 : decode cX11_lots 104 = .ok (.aload_n 0, 1) := by decide +kernel
theorem dX11_lots_105 : decode cX11_lots 105 = .ok (.getfield 12, 3) := by decide +kernel
theorem dX11_lots_108 : decode cX11_lots 108 = .ok (.getfield 145, 3) := by decide +kernel
theorem dX11_lots_111 : decode cX11_lots 111 = .ok (.iload 4, 2) := by decide +kernel
theorem dX11_lots_113 : decode cX11_lots 113 = .ok (.ldc_w 324, 3) := by decide +kernel
theorem dX11_lots_116 : decode cX11_lots 116 = .ok (.iand, 1) := by decide +kernel
theorem dX11_lots_117 : decode cX11_lots 117 = .ok (.ldc_w 325, 3) := by decide +kernel
theorem dX11_lots_120 : decode cX11_lots 120 = .ok (.idiv, 1) := by decide +kernel
theorem dX11_lots_121 : decode cX11_lots 121 = .ok (.aload_n 0, 1) := by decide +kernel
theorem dX11_lots_122 : decode cX11_lots 122 = .ok (.getfield 12, 3) := by decide +kernel
theorem dX11_lots_125 : decode cX11_lots 125 = .ok (.getfield 141, 3) := by decide +kernel
theorem dX11_lots_128 : decode cX11_lots 128 = .ok (.irem, 1) := by decide +kernel
theorem dX11_lots_129 : decode cX11_lots 129 = .ok (.aaload, 1) := by decide +kernel
theorem dX11_lots_130 : decode cX11_lots 130 = .ok (.invokevirtual 216, 3) := by decide +kernel
theorem dX11_lots_133 : decode cX11_lots 133 = .ok (.iinc 10 1, 3) := by decide +kernel
theorem dX11_lots_136 : decode cX11_lots 136 = .ok (.goto (-63), 3) := by decide +kernel
theorem dX11_lots_139 : decode cX11_lots 139 = .ok (.aload_n 0, 1) := by decide +kernel
theorem dX11_lots_140 : decode cX11_lots 140 = .ok (.getfield 28, 3) := by decide +kernel
theorem dX11_lots_143 : decode cX11_lots 143 = .ok (.aload_n 0, 1) := by decide +kernel
theorem dX11_lots_144 : decode cX11_lots 144 = .ok (.getfield 28, 3) := by decide +kernel
theorem dX11_lots_147 : decode cX11_lots 147 = .ok (.getfield 188, 3) := by decide +kernel
theorem dX11_lots_150 : decode cX11_lots 150 = .ok (.invokevirtual 212, 3) := by decide +kernel
theorem dX11_lots_153 : decode cX11_lots 153 = .ok (.lstore 10, 2) := by decide +kernel
theorem dX11_lots_155 : decode cX11_lots 155 = .ok (.lload 5, 2) := by decide +kernel
theorem dX11_lots_157 : decode cX11_lots 157 = .ok (.lload 10, 2) := by decide +kernel
theorem dX11_lots_159 : decode cX11_lots 159 = .ok (.ladd, 1) := by decide +kernel
theorem dX11_lots_160 : decode cX11_lots 160 = .ok (.lstore 5, 2) := by decide +kernel
theorem dX11_lots_162 : decode cX11_lots 162 = .ok (.lload 7, 2) := by decide +kernel
theorem dX11_lots_164 : decode cX11_lots 164 = .ok (.lload 10, 2) := by decide +kernel
theorem dX11_lots_166 : decode cX11_lots 166 = .ok (.lconst 0, 1) := by decide +kernel
theorem dX11_lots_167 : decode cX11_lots 167 = .ok (.lcmp, 1) := by decide +kernel
theorem dX11_lots_168 : decode cX11_lots 168 = .ok (.ifCond .ne 7, 3) := by decide +kernel
theorem dX11_lots_171 : decode cX11_lots 171 = .ok (.lconst 1, 1) := by decide +kernel
theorem dX11_lots_172 : decode cX11_lots 172 = .ok (.goto 4, 3) := by decide +kernel
theorem dX11_lots_175 : decode cX11_lots 175 = .ok (.lconst 0, 1) := by decide +kernel
theorem dX11_lots_176 : decode cX11_lots 176 = .ok (.ladd, 1) := by decide +kernel
theorem dX11_lots_177 : decode cX11_lots 177 = .ok (.lstore 7, 2) := by decide +kernel
theorem dX11_lots_179 : decode cX11_lots 179 = .ok (.iinc 9 1, 3) := by decide +kernel
theorem dX11_lots_182 : decode cX11_lots 182 = .ok (.goto (-132), 3) := by decide +kernel
theorem dX11_lots_185 : decode cX11_lots 185 = .ok (.iload_n 3, 1) := by decide +kernel
theorem dX11_lots_186 : decode cX11_lots 186 = .ok (.ifCond .ne 8, 3) := by decide +kernel
theorem dX11_lots_189 : decode cX11_lots 189 = .ok (.lload 5, 2) := by decide +kernel
theorem dX11_lots_191 : decode cX11_lots 191 = .ok (.goto 5, 3) := by decide +kernel
theorem dX11_lots_194 : decode cX11_lots 194 = .ok (.lload 7, 2) := by decide +kernel
theorem dX11_lots_196 : decode cX11_lots 196 = .ok (.lreturn, 1) := by decide +kernel
set_option maxHeartbeats 4000000 in
set_option maxRecDepth 100000 in
theorem cn_X11_lots {l : Launch} {cA : Nat → ClassId} {ad : Nat → Nat} {D : va_G} {E : Nat → Nat} {A : Nat → Prop} {x1 : Int32} {x2 : Int32} {x3 : Int32} {s0 sr : SS} {rr : Int64} (hf : f_X11_lots x1 x2 x3 s0 = some (rr, sr)) : zCon Ox Nx cA ad D E l yX11_lots cX11_lots 12 (some .long) 4 A [.ref (ad 0), .int x1, .int x2, .int x3] s0 (some (.long rr)) sr := by
  refine zstart (own := RX11) hOx (by decide) rfl (Nat.le_of_ble_eq_true rfl) ?_
  intro p e s m args below meth c X hP ls hl
  have hx := X.1
  have hb := X.2.1
  have hl : lv_has ls 12 [(0, .ref (ad 0)), (1, .int x1), (2, .int x2), (3, .int x3)] := hl
  have hS : va_S A s.heap s.heap [] := va_S.rf
  have hc_50 : ∀ (n50 : Nat) (x1 : Int32) (x3 : Int32) (x4 : Int32) (x5 : Int64) (x7 : Int64) (x9 : Int32) (s1 : SS) (H : Heap) (locs : List Loc) (ls : Array Slot), lv_has ls 12 [(0, .ref (ad 0)), (1, .int x1), (3, .int x3), (4, .int x4), (5, .long x5), (7, .long x7), (9, .int x9)] → va_P D ZCL (zw Ox Nx cA ad s1) H → va_S A s.heap H locs → f_X11_lots_c50 n50 x1 x3 x4 x5 x7 x9 s1 = some (rr, sr) → W p l e (zrm 4) s m args below meth c H locs 0 0 (MQ below (zQc Ox Nx cA ad D A (some (.long rr)) sr) args s 0 0 A) (F0 m 50 ls []) := by
    intro n50
    induction n50 with
    | zero =>
      intro x1 x3 x4 x5 x7 x9 s1 H locs ls hl hP hS hf
      rw [f_X11_lots_c50] at hf
      cases hf
    | succ n50 ih50 =>
      have hc_73 : ∀ (n73 : Nat) (x1 : Int32) (x3 : Int32) (x4 : Int32) (x5 : Int64) (x7 : Int64) (x9 : Int32) (x10 : Int32) (s1 : SS) (H : Heap) (locs : List Loc) (ls : Array Slot), lv_has ls 12 [(0, .ref (ad 0)), (1, .int x1), (3, .int x3), (4, .int x4), (5, .long x5), (7, .long x7), (9, .int x9), (10, .int x10)] → va_P D ZCL (zw Ox Nx cA ad s1) H → va_S A s.heap H locs → f_X11_lots_c73 (f_X11_lots_c50 n50) n73 x1 x3 x4 x5 x7 x9 x10 s1 = some (rr, sr) → W p l e (zrm 4) s m args below meth c H locs 0 0 (MQ below (zQc Ox Nx cA ad D A (some (.long rr)) sr) args s 0 0 A) (F0 m 73 ls []) := by
        intro n73
        induction n73 with
        | zero =>
          intro x1 x3 x4 x5 x7 x9 x10 s1 H locs ls hl hP hS hf
          rw [f_X11_lots_c73] at hf
          cases hf
        | succ n73 ih73 =>
          have hc_176 : ∀ (x1 : Int32) (x3 : Int32) (x4 : Int32) (x5 : Int64) (x9 : Int32) (t0 : Int64) (t1 : Int64) (s1 : SS) (H : Heap) (locs : List Loc) (ls : Array Slot), lv_has ls 12 [(0, .ref (ad 0)), (1, .int x1), (3, .int x3), (4, .int x4), (5, .long x5), (9, .int x9)] → va_P D ZCL (zw Ox Nx cA ad s1) H → va_S A s.heap H locs → f_X11_lots_c176 (f_X11_lots_c50 n50) x1 x3 x4 x5 x9 t0 t1 s1 = some (rr, sr) → W p l e (zrm 4) s m args below meth c H locs 0 0 (MQ below (zQc Ox Nx cA ad D A (some (.long rr)) sr) args s 0 0 A) (F0 m 176 ls [.long t0, .long t1]) := by
            intro x1 x3 x4 x5 x9 t0 t1 s1 H locs ls hl hP hS hf
            rw [f_X11_lots_c176] at hf
            refine lv_ladd hx hb dX11_lots_176 ?_
            refine lv_lstore (lv' := [(7, .long (t1 + t0)), (0, .ref (ad 0)), (1, .int x1), (3, .int x3), (4, .int x4), (5, .long x5), (9, .int x9)]) hx hb dX11_lots_177 hl (by decide) rfl (fun ls hl => ?_)
            refine lv_iinc (v := (x9 + 1)) (lv' := [(9, .int (x9 + 1)), (7, .long (t1 + t0)), (0, .ref (ad 0)), (1, .int x1), (3, .int x3), (4, .int x4), (5, .long x5)]) hx hb dX11_lots_179 hl (k := 6) rfl rfl (by decide) rfl (fun ls hl => ?_)
            refine lv_goto (tgt := 50) hx hb dX11_lots_182 (by decide) ?_
            exact ih50 x1 x3 x4 x5 (t1 + t0) (x9 + 1) s1 _ _ _ (lv_sub hl [2, 3, 4, 5, 6, 1, 0] rfl) hP hS hf
          intro x1 x3 x4 x5 x7 x9 x10 s1 H locs ls hl hP hS hf
          rw [f_X11_lots_c73] at hf
          refine lv_iload hx hb dX11_lots_73 (lv_at hl 7 rfl) ?_
          refine lv_aload_n hx hb dX11_lots_75 rfl (lv_at hl 0 rfl) ?_
          refine gf_X11_12 X hP (k := 0) (q := 1) rfl dX11_lots_76 rfl ?_
          refine gf_X11_74 X hP (k := 1) (q := 3) rfl dX11_lots_79 rfl ?_
          obtain ⟨r4, s5, h6, hf⟩ := zbd_some hf
          refine zcallV X hP hS hl.1 (k := 3) (As := []) (rest := [.int x10]) (cn_X7_dimension h6) cw_X7_dimension zp_7 rfl (by decide) rfl ml_X11_115 (by decide) rfl rfl (Nat.le_of_ble_eq_true rfl) dX11_lots_82 (fun H locs hP hS => ?_)
          refine zicmp_ge (tgt := 139) hx hb dX11_lots_85 (by decide) hf (fun hf => ?_) (fun hf => ?_)
          · refine lv_aload_n hx hb dX11_lots_139 rfl (lv_at hl 0 rfl) ?_
            refine gf_X11_28 X hP (k := 0) (q := 5) rfl dX11_lots_140 rfl ?_
            refine lv_aload_n hx hb dX11_lots_143 rfl (lv_at hl 0 rfl) ?_
            refine gf_X11_28 X hP (k := 0) (q := 5) rfl dX11_lots_144 rfl ?_
            refine gf_X11_188 X hP (k := 5) (q := 21) rfl dX11_lots_147 rfl ?_
            obtain ⟨r7, s8, h9, hf⟩ := zbd_some hf
            refine zcallV X hP hS hl.1 (k := 5) (As := [.ref (ad 21)]) (rest := []) (cn_X8_metOf h9) cw_X8_metOf zp_8 rfl (by decide) rfl ml_X11_212 (by decide) rfl rfl (Nat.le_of_ble_eq_true rfl) dX11_lots_150 (fun H locs hP hS => ?_)
            refine lv_lstore (lv' := [(10, .long r7), (0, .ref (ad 0)), (1, .int x1), (3, .int x3), (4, .int x4), (5, .long x5), (7, .long x7), (9, .int x9)]) hx hb dX11_lots_153 hl (by decide) rfl (fun ls hl => ?_)
            refine lv_lload hx hb dX11_lots_155 (lv_at hl 5 rfl) ?_
            refine lv_lload hx hb dX11_lots_157 (lv_at hl 0 rfl) ?_
            refine lv_ladd hx hb dX11_lots_159 ?_
            refine lv_lstore (lv' := [(5, .long (x5 + r7)), (10, .long r7), (0, .ref (ad 0)), (1, .int x1), (3, .int x3), (4, .int x4), (7, .long x7), (9, .int x9)]) hx hb dX11_lots_160 hl (by decide) rfl (fun ls hl => ?_)
            refine lv_lload hx hb dX11_lots_162 (lv_at hl 6 rfl) ?_
            refine lv_lload hx hb dX11_lots_164 (lv_at hl 1 rfl) ?_
            refine lv_lconst (v := 0) hx hb dX11_lots_166 (by decide) ?_
            refine W.lcmp hx hb dX11_lots_167 ?_
            refine zif_ne (tgt := 175) hx hb dX11_lots_168 (by decide) hf (fun hf => ?_) (fun hf => ?_)
            · refine lv_lconst (v := 0) hx hb dX11_lots_175 (by decide) ?_
              exact hc_176 x1 x3 x4 (x5 + r7) x9 0 x7 s8 _ _ _ (lv_sub hl [2, 3, 4, 5, 0, 7] rfl) hP hS hf
            · refine lv_lconst (v := 1) hx hb dX11_lots_171 (by decide) ?_
              refine lv_goto (tgt := 176) hx hb dX11_lots_172 (by decide) ?_
              exact hc_176 x1 x3 x4 (x5 + r7) x9 1 x7 s8 _ _ _ (lv_sub hl [2, 3, 4, 5, 0, 7] rfl) hP hS hf
          · refine lv_iload hx hb dX11_lots_88 (lv_at hl 3 rfl) ?_
            refine zldcw X co_X11_323 dX11_lots_90 ?_
            refine lv_imul hx hb dX11_lots_93 ?_
            refine lv_sipush (v := 12345) hx hb dX11_lots_94 (by decide) ?_
            refine lv_iadd hx hb dX11_lots_97 ?_
            refine lv_istore (lv' := [(4, .int ((x4 * (1103515245 : Int32)) + (12345 : Int32))), (0, .ref (ad 0)), (1, .int x1), (3, .int x3), (5, .long x5), (7, .long x7), (9, .int x9), (10, .int x10)]) hx hb dX11_lots_98 hl (by decide) rfl (fun ls hl => ?_)
            refine lv_aload_n hx hb dX11_lots_100 rfl (lv_at hl 1 rfl) ?_
            refine gf_X11_28 X hP (k := 0) (q := 5) rfl dX11_lots_101 rfl ?_
            refine lv_aload_n hx hb dX11_lots_104 rfl (lv_at hl 1 rfl) ?_
            refine gf_X11_12 X hP (k := 0) (q := 1) rfl dX11_lots_105 rfl ?_
            refine gf_X11_145 X hP (k := 1) (q := 13) rfl dX11_lots_108 rfl ?_
            refine lv_iload hx hb dX11_lots_111 (lv_at hl 0 rfl) ?_
            refine zldcw X co_X11_324 dX11_lots_113 ?_
            refine lv_iand hx hb dX11_lots_116 ?_
            refine zldcw X co_X11_325 dX11_lots_117 ?_
            refine lv_idiv hx hb dX11_lots_120 (by decide) ?_
            refine lv_aload_n hx hb dX11_lots_121 rfl (lv_at hl 1 rfl) ?_
            refine gf_X11_12 X hP (k := 0) (q := 1) rfl dX11_lots_122 rfl ?_
            refine gf_X11_141 X hP (k := 1) rfl dX11_lots_125 ?_
            obtain ⟨z10, hf⟩ := zgp hf
            refine lv_irem hx hb dX11_lots_128 z10 ?_
            obtain ⟨g11, hf⟩ := zgd hf
            obtain ⟨g13, hf⟩ := zgd hf
            obtain ⟨n12, rn12, on12, in12⟩ := zok_of g11
            refine zald_q X hP zlr_x (k := 13) on12 in12 dX11_lots_129 rfl ?_
            obtain ⟨r14, s15, h16, hf⟩ := zbd_some hf
            refine zcallV X hP hS hl.1 (k := 5) (As := [.ref (ad (zrr Ox 13 ((((((x4 * (1103515245 : Int32)) + (12345 : Int32)) &&& (2147483647 : Int32)) / (65536 : Int32)) - ((((x4 * (1103515245 : Int32)) + (12345 : Int32)) &&& (2147483647 : Int32)) / (65536 : Int32)) / (s5.1 1 2) * (s5.1 1 2)))))]) (rest := []) (cn_X8_multiplyBy h16) cw_X8_multiplyBy zp_8 rfl (by decide) rfl ml_X11_216 (by decide) rfl rfl (Nat.le_of_ble_eq_true rfl) dX11_lots_130 (fun H locs hP hS => ?_)
            refine lv_iinc (v := (x10 + 1)) (lv' := [(10, .int (x10 + 1)), (4, .int ((x4 * (1103515245 : Int32)) + (12345 : Int32))), (0, .ref (ad 0)), (1, .int x1), (3, .int x3), (5, .long x5), (7, .long x7), (9, .int x9)]) hx hb dX11_lots_133 hl (k := 7) rfl rfl (by decide) rfl (fun ls hl => ?_)
            refine lv_goto (tgt := 73) hx hb dX11_lots_136 (by decide) ?_
            exact ih73 x1 x3 ((x4 * (1103515245 : Int32)) + (12345 : Int32)) x5 x7 x9 (x10 + 1) s15 _ _ _ (lv_sub hl [2, 3, 4, 1, 5, 6, 7, 0] rfl) hP hS hf
      intro x1 x3 x4 x5 x7 x9 s1 H locs ls hl hP hS hf
      rw [f_X11_lots_c50] at hf
      refine lv_iload hx hb dX11_lots_50 (lv_at hl 6 rfl) ?_
      refine lv_iload_n hx hb dX11_lots_52 rfl (lv_at hl 1 rfl) ?_
      refine zicmp_ge (tgt := 185) hx hb dX11_lots_53 (by decide) hf (fun hf => ?_) (fun hf => ?_)
      · refine lv_iload_n hx hb dX11_lots_185 rfl (lv_at hl 2 rfl) ?_
        refine zif_ne (tgt := 194) hx hb dX11_lots_186 (by decide) hf (fun hf => ?_) (fun hf => ?_)
        · refine lv_lload hx hb dX11_lots_194 (lv_at hl 5 rfl) ?_
          exact zret_l X hP hS hf dX11_lots_196
        · refine lv_lload hx hb dX11_lots_189 (lv_at hl 4 rfl) ?_
          refine lv_goto (tgt := 196) hx hb dX11_lots_191 (by decide) ?_
          exact zret_l X hP hS hf dX11_lots_196
      · refine lv_aload_n hx hb dX11_lots_56 rfl (lv_at hl 0 rfl) ?_
        refine gf_X11_28 X hP (k := 0) (q := 5) rfl dX11_lots_57 rfl ?_
        refine lv_aload_n hx hb dX11_lots_60 rfl (lv_at hl 0 rfl) ?_
        refine gf_X11_28 X hP (k := 0) (q := 5) rfl dX11_lots_61 rfl ?_
        refine gf_X11_188 X hP (k := 5) (q := 21) rfl dX11_lots_64 rfl ?_
        obtain ⟨r1, s2, h3, hf⟩ := zbd_some hf
        refine zcallV X hP hS hl.1 (k := 5) (As := [.ref (ad 21)]) (rest := []) (cn_X8_makeOne h3) cw_X8_makeOne zp_8 rfl (by decide) rfl ml_X11_240 (by decide) rfl rfl (Nat.le_of_ble_eq_true rfl) dX11_lots_67 (fun H locs hP hS => ?_)
        refine lv_iconst (v := 0) hx hb dX11_lots_70 (by decide) ?_
        refine lv_istore (lv' := [(10, .int 0), (0, .ref (ad 0)), (1, .int x1), (3, .int x3), (4, .int x4), (5, .long x5), (7, .long x7), (9, .int x9)]) hx hb dX11_lots_71 hl (by decide) rfl (fun ls hl => ?_)
        exact hc_73 ZF x1 x3 x4 x5 x7 x9 0 s2 _ _ _ (lv_sub hl [1, 2, 3, 4, 5, 6, 7, 0] rfl) hP hS hf
  rw [f_X11_lots] at hf
  refine lv_iload_n hx hb dX11_lots_0 rfl (lv_at hl 1 rfl) ?_
  refine lv_iconst (v := 1) hx hb dX11_lots_1 (by decide) ?_
  refine zicmp_lt (tgt := 20) hx hb dX11_lots_2 (by decide) hf (fun hf => ?_) (fun hf => ?_)
  · refine zldc2 X co_X11_132 dX11_lots_20 ?_
    exact zret_l X hP hS hf dX11_lots_23
  · refine lv_iload_n hx hb dX11_lots_5 rfl (lv_at hl 1 rfl) ?_
    refine lv_bipush (v := 50) hx hb dX11_lots_6 (by decide) ?_
    refine zicmp_gt (tgt := 20) hx hb dX11_lots_8 (by decide) hf (fun hf => ?_) (fun hf => ?_)
    · refine zldc2 X co_X11_132 dX11_lots_20 ?_
      exact zret_l X hP hS hf dX11_lots_23
    · refine lv_iload_n hx hb dX11_lots_11 rfl (lv_at hl 3 rfl) ?_
      refine zif_lt (tgt := 20) hx hb dX11_lots_12 (by decide) hf (fun hf => ?_) (fun hf => ?_)
      · refine zldc2 X co_X11_132 dX11_lots_20 ?_
        exact zret_l X hP hS hf dX11_lots_23
      · refine lv_iload_n hx hb dX11_lots_15 rfl (lv_at hl 3 rfl) ?_
        refine lv_iconst (v := 1) hx hb dX11_lots_16 (by decide) ?_
        refine zicmp_le (tgt := 24) hx hb dX11_lots_17 (by decide) hf (fun hf => ?_) (fun hf => ?_)
        · refine lv_aload_n hx hb dX11_lots_24 rfl (lv_at hl 0 rfl) ?_
          refine gf_X11_12 X hP (k := 0) (q := 1) rfl dX11_lots_25 rfl ?_
          refine gf_X11_141 X hP (k := 1) rfl dX11_lots_28 ?_
          refine zif_ne (tgt := 38) hx hb dX11_lots_31 (by decide) hf (fun hf => ?_) (fun hf => ?_)
          · refine lv_iload_n hx hb dX11_lots_38 rfl (lv_at hl 2 rfl) ?_
            refine lv_istore (lv' := [(4, .int x2), (0, .ref (ad 0)), (1, .int x1), (2, .int x2), (3, .int x3)]) hx hb dX11_lots_39 hl (by decide) rfl (fun ls hl => ?_)
            refine lv_lconst (v := 0) hx hb dX11_lots_41 (by decide) ?_
            refine lv_lstore (lv' := [(5, .long 0), (4, .int x2), (0, .ref (ad 0)), (1, .int x1), (2, .int x2), (3, .int x3)]) hx hb dX11_lots_42 hl (by decide) rfl (fun ls hl => ?_)
            refine lv_lconst (v := 0) hx hb dX11_lots_44 (by decide) ?_
            refine lv_lstore (lv' := [(7, .long 0), (5, .long 0), (4, .int x2), (0, .ref (ad 0)), (1, .int x1), (2, .int x2), (3, .int x3)]) hx hb dX11_lots_45 hl (by decide) rfl (fun ls hl => ?_)
            refine lv_iconst (v := 0) hx hb dX11_lots_47 (by decide) ?_
            refine lv_istore (lv' := [(9, .int 0), (7, .long 0), (5, .long 0), (4, .int x2), (0, .ref (ad 0)), (1, .int x1), (2, .int x2), (3, .int x3)]) hx hb dX11_lots_48 hl (by decide) rfl (fun ls hl => ?_)
            exact hc_50 ZF x1 x3 x2 0 0 0 s0 _ _ _ (lv_sub hl [4, 5, 7, 3, 2, 1, 0] rfl) hP hS hf
          · refine zldc2 X co_X11_227 dX11_lots_34 ?_
            exact zret_l X hP hS hf dX11_lots_37
        · refine zldc2 X co_X11_132 dX11_lots_20 ?_
          exact zret_l X hP hS hf dX11_lots_23
theorem dX11_feed_0 : decode cX11_feed 0 = .ok (.iload_n 1, 1) := by decide +kernel
theorem dX11_feed_1 : decode cX11_feed 1 = .ok (.bipush 32, 2) := by decide +kernel
theorem dX11_feed_3 : decode cX11_feed 3 = .ok (.if_icmp .lt 9, 3) := by decide +kernel
theorem dX11_feed_6 : decode cX11_feed 6 = .ok (.iload_n 1, 1) := by decide +kernel
theorem dX11_feed_7 : decode cX11_feed 7 = .ok (.bipush 126, 2) := by decide +kernel
theorem dX11_feed_9 : decode cX11_feed 9 = .ok (.if_icmp .le 5, 3) := by decide +kernel
theorem dX11_feed_12 : decode cX11_feed 12 = .ok (.iconst (-1), 1) := by decide +kernel
theorem dX11_feed_13 : decode cX11_feed 13 = .ok (.ireturn, 1) := by decide +kernel
theorem dX11_feed_14 : decode cX11_feed 14 = .ok (.aload_n 0, 1) := by decide +kernel
theorem dX11_feed_15 : decode cX11_feed 15 = .ok (.getfield 42, 3) := by decide +kernel
theorem dX11_feed_18 : decode cX11_feed 18 = .ok (.iload_n 1, 1) := by decide +kernel
theorem dX11_feed_19 : decode cX11_feed 19 = .ok (.i2c, 1) := by decide +kernel
theorem dX11_feed_20 : decode cX11_feed 20 = .ok (.invokevirtual 326, 3) := by decide +kernel
theorem dX11_feed_23 : decode cX11_feed 23 = .ok (.ifCond .eq 13, 3) := by decide +kernel
theorem dX11_feed_26 : decode cX11_feed 26 = .ok (.aload_n 0, 1) := by decide +kernel
theorem dX11_feed_27 : decode cX11_feed 27 = .ok (.getfield 42, 3) := by decide +kernel
theorem dX11_feed_30 : decode cX11_feed 30 = .ok (.getfield 330, 3) := by decide +kernel
theorem dX11_feed_33 : decode cX11_feed 33 = .ok (.goto 5, 3) := by decide +kernel
theorem dX11_feed_36 : decode cX11_feed 36 = .ok (.bipush (-3), 2) := by decide +kernel
theorem dX11_feed_38 : decode cX11_feed 38 = .ok (.ireturn, 1) := by decide +kernel
set_option maxHeartbeats 4000000 in
set_option maxRecDepth 100000 in
theorem cn_X11_feed {l : Launch} {cA : Nat → ClassId} {ad : Nat → Nat} {D : va_G} {E : Nat → Nat} {A : Nat → Prop} {x1 : Int32} {s0 sr : SS} {rr : Int32} (hf : f_X11_feed x1 s0 = some (rr, sr)) : zCon Ox Nx cA ad D E l yX11_feed cX11_feed 2 (some .int) 1 A [.ref (ad 0), .int x1] s0 (some (.int rr)) sr := by
  refine zstart (own := RX11) hOx (by decide) rfl (Nat.le_of_ble_eq_true rfl) ?_
  intro p e s m args below meth c X hP ls hl
  have hx := X.1
  have hb := X.2.1
  have hl : lv_has ls 2 [(0, .ref (ad 0)), (1, .int x1)] := hl
  have hS : va_S A s.heap s.heap [] := va_S.rf
  rw [f_X11_feed] at hf
  refine lv_iload_n hx hb dX11_feed_0 rfl (lv_at hl 1 rfl) ?_
  refine lv_bipush (v := 32) hx hb dX11_feed_1 (by decide) ?_
  refine zicmp_lt (tgt := 12) hx hb dX11_feed_3 (by decide) hf (fun hf => ?_) (fun hf => ?_)
  · refine lv_iconst (v := (-1)) hx hb dX11_feed_12 (by decide) ?_
    exact zret_i X hP hS hf rfl dX11_feed_13
  · refine lv_iload_n hx hb dX11_feed_6 rfl (lv_at hl 1 rfl) ?_
    refine lv_bipush (v := 126) hx hb dX11_feed_7 (by decide) ?_
    refine zicmp_le (tgt := 14) hx hb dX11_feed_9 (by decide) hf (fun hf => ?_) (fun hf => ?_)
    · refine lv_aload_n hx hb dX11_feed_14 rfl (lv_at hl 0 rfl) ?_
      refine gf_X11_42 X hP (k := 0) (q := 8) rfl dX11_feed_15 rfl ?_
      refine lv_iload_n hx hb dX11_feed_18 rfl (lv_at hl 1 rfl) ?_
      refine lv_i2c hx hb dX11_feed_19 rfl ?_
      obtain ⟨r1, s2, h3, hf⟩ := zbd_some hf
      refine zcallV X hP hS hl.1 (k := 8) (As := [.int ((x1).toUInt32 % 65536).toInt32]) (rest := []) (cn_X9_add h3) cw_X9_add zp_9 rfl (by decide) rfl ml_X11_326 (by decide) rfl rfl (Nat.le_of_ble_eq_true rfl) dX11_feed_20 (fun H locs hP hS => ?_)
      refine zif_eq (tgt := 36) hx hb dX11_feed_23 (by decide) hf (fun hf => ?_) (fun hf => ?_)
      · refine lv_bipush (v := (-3)) hx hb dX11_feed_36 (by decide) ?_
        exact zret_i X hP hS hf rfl dX11_feed_38
      · refine lv_aload_n hx hb dX11_feed_26 rfl (lv_at hl 0 rfl) ?_
        refine gf_X11_42 X hP (k := 0) (q := 8) rfl dX11_feed_27 rfl ?_
        refine gf_X11_330 X hP (k := 8) rfl dX11_feed_30 ?_
        refine lv_goto (tgt := 38) hx hb dX11_feed_33 (by decide) ?_
        exact zret_i X hP hS hf rfl dX11_feed_38
    · refine lv_iconst (v := (-1)) hx hb dX11_feed_12 (by decide) ?_
      exact zret_i X hP hS hf rfl dX11_feed_13
theorem dX11_wipe_0 : decode cX11_wipe 0 = .ok (.aload_n 0, 1) := by decide +kernel
theorem dX11_wipe_1 : decode cX11_wipe 1 = .ok (.getfield 42, 3) := by decide +kernel
theorem dX11_wipe_4 : decode cX11_wipe 4 = .ok (.getfield 330, 3) := by decide +kernel
theorem dX11_wipe_7 : decode cX11_wipe 7 = .ok (.istore_n 1, 1) := by decide +kernel
theorem dX11_wipe_8 : decode cX11_wipe 8 = .ok (.aload_n 0, 1) := by decide +kernel
theorem dX11_wipe_9 : decode cX11_wipe 9 = .ok (.getfield 42, 3) := by decide +kernel
theorem dX11_wipe_12 : decode cX11_wipe 12 = .ok (.iconst 0, 1) := by decide +kernel
theorem dX11_wipe_13 : decode cX11_wipe 13 = .ok (.putfield 330, 3) := by decide +kernel
theorem dX11_wipe_16 : decode cX11_wipe 16 = .ok (.iload_n 1, 1) := by decide +kernel
theorem dX11_wipe_17 : decode cX11_wipe 17 = .ok (.ireturn, 1) := by decide +kernel
set_option maxHeartbeats 4000000 in
set_option maxRecDepth 100000 in
theorem cn_X11_wipe {l : Launch} {cA : Nat → ClassId} {ad : Nat → Nat} {D : va_G} {E : Nat → Nat} {A : Nat → Prop}  {s0 sr : SS} {rr : Int32} (hf : f_X11_wipe s0 = some (rr, sr)) : zCon Ox Nx cA ad D E l yX11_wipe cX11_wipe 2 (some .int) 0 A [.ref (ad 0)] s0 (some (.int rr)) sr := by
  refine zstart (own := RX11) hOx (by decide) rfl (Nat.le_of_ble_eq_true rfl) ?_
  intro p e s m args below meth c X hP ls hl
  have hx := X.1
  have hb := X.2.1
  have hl : lv_has ls 2 [(0, .ref (ad 0))] := hl
  have hS : va_S A s.heap s.heap [] := va_S.rf
  rw [f_X11_wipe] at hf
  refine lv_aload_n hx hb dX11_wipe_0 rfl (lv_at hl 0 rfl) ?_
  refine gf_X11_42 X hP (k := 0) (q := 8) rfl dX11_wipe_1 rfl ?_
  refine gf_X11_330 X hP (k := 8) rfl dX11_wipe_4 ?_
  refine lv_istore_n (lv' := [(1, .int (s0.1 8 1)), (0, .ref (ad 0))]) hx hb dX11_wipe_7 rfl hl (by decide) rfl (fun ls hl => ?_)
  refine lv_aload_n hx hb dX11_wipe_8 rfl (lv_at hl 1 rfl) ?_
  refine gf_X11_42 X hP (k := 0) (q := 8) rfl dX11_wipe_9 rfl ?_
  refine lv_iconst (v := 0) hx hb dX11_wipe_12 (by decide) ?_
  refine pf_X11_330 X hP hS (k := 8) rfl dX11_wipe_13 (fun H locs hP hS => ?_)
  refine lv_iload_n hx hb dX11_wipe_16 rfl (lv_at hl 0 rfl) ?_
  exact zret_i X hP hS hf rfl dX11_wipe_17
theorem dX11_read_0 : decode cX11_read 0 = .ok (.aload_n 0, 1) := by decide +kernel
theorem dX11_read_1 : decode cX11_read 1 = .ok (.getfield 42, 3) := by decide +kernel
theorem dX11_read_4 : decode cX11_read 4 = .ok (.aload_n 0, 1) := by decide +kernel
theorem dX11_read_5 : decode cX11_read 5 = .ok (.getfield 12, 3) := by decide +kernel
theorem dX11_read_8 : decode cX11_read 8 = .ok (.getfield 74, 3) := by decide +kernel
theorem dX11_read_11 : decode cX11_read 11 = .ok (.aload_n 0, 1) := by decide +kernel
theorem dX11_read_12 : decode cX11_read 12 = .ok (.getfield 28, 3) := by decide +kernel
theorem dX11_read_15 : decode cX11_read 15 = .ok (.getfield 84, 3) := by decide +kernel
theorem dX11_read_18 : decode cX11_read 18 = .ok (.aload_n 0, 1) := by decide +kernel
theorem dX11_read_19 : decode cX11_read 19 = .ok (.getfield 28, 3) := by decide +kernel
theorem dX11_read_22 : decode cX11_read 22 = .ok (.getfield 188, 3) := by decide +kernel
theorem dX11_read_25 : decode cX11_read 25 = .ok (.invokevirtual 333, 3) := by decide +kernel
theorem dX11_read_28 : decode cX11_read 28 = .ok (.istore_n 1, 1) := by decide +kernel
theorem dX11_read_29 : decode cX11_read 29 = .ok (.aload_n 0, 1) := by decide +kernel
theorem dX11_read_30 : decode cX11_read 30 = .ok (.getfield 42, 3) := by decide +kernel
theorem dX11_read_33 : decode cX11_read 33 = .ok (.iconst 0, 1) := by decide +kernel
theorem dX11_read_34 : decode cX11_read 34 = .ok (.putfield 330, 3) := by decide +kernel
theorem dX11_read_37 : decode cX11_read 37 = .ok (.iload_n 1, 1) := by decide +kernel
theorem dX11_read_38 : decode cX11_read 38 = .ok (.iconst (-1), 1) := by decide +kernel
theorem dX11_read_39 : decode cX11_read 39 = .ok (.if_icmp .eq 8, 3) := by decide +kernel
theorem dX11_read_42 : decode cX11_read 42 = .ok (.bipush (-100), 2) := by decide +kernel
theorem dX11_read_44 : decode cX11_read 44 = .ok (.iload_n 1, 1) := by decide +kernel
theorem dX11_read_45 : decode cX11_read 45 = .ok (.isub, 1) := by decide +kernel
theorem dX11_read_46 : decode cX11_read 46 = .ok (.ireturn, 1) := by decide +kernel
theorem dX11_read_47 : decode cX11_read 47 = .ok (.aload_n 0, 1) := by decide +kernel
theorem dX11_read_48 : decode cX11_read 48 = .ok (.getfield 12, 3) := by decide +kernel
theorem dX11_read_51 : decode cX11_read 51 = .ok (.getfield 141, 3) := by decide +kernel
theorem dX11_read_54 : decode cX11_read 54 = .ok (.bipush 8, 2) := by decide +kernel
theorem dX11_read_56 : decode cX11_read 56 = .ok (.if_icmp .lt 6, 3) := by decide +kernel
theorem dX11_read_59 : decode cX11_read 59 = .ok (.bipush (-3), 2) := by decide +kernel
theorem dX11_read_61 : decode cX11_read 61 = .ok (.ireturn, 1) := by decide +kernel
theorem dX11_read_62 : decode cX11_read 62 = .ok (.aload_n 0, 1) := by decide +kernel
theorem dX11_read_63 : decode cX11_read 63 = .ok (.invokevirtual 195, 3) := by decide +kernel
theorem dX11_read_66 : decode cX11_read 66 = .ok (.aload_n 0, 1) := by decide +kernel
theorem dX11_read_67 : decode cX11_read 67 = .ok (.getfield 35, 3) := by decide +kernel
theorem dX11_read_70 : decode cX11_read 70 = .ok (.invokevirtual 142, 3) := by decide +kernel
theorem dX11_read_73 : decode cX11_read 73 = .ok (.aload_n 0, 1) := by decide +kernel
theorem dX11_read_74 : decode cX11_read 74 = .ok (.getfield 12, 3) := by decide +kernel
theorem dX11_read_77 : decode cX11_read 77 = .ok (.getfield 141, 3) := by decide +kernel
theorem dX11_read_80 : decode cX11_read 80 = .ok (.iconst 1, 1) := by decide +kernel
theorem dX11_read_81 : decode cX11_read 81 = .ok (.isub, 1) := by decide +kernel
theorem dX11_read_82 : decode cX11_read 82 = .ok (.ireturn, 1) := by decide +kernel
set_option maxHeartbeats 4000000 in
set_option maxRecDepth 100000 in
theorem cn_X11_read {l : Launch} {cA : Nat → ClassId} {ad : Nat → Nat} {D : va_G} {E : Nat → Nat} {A : Nat → Prop}  {s0 sr : SS} {rr : Int32} (hf : f_X11_read s0 = some (rr, sr)) : zCon Ox Nx cA ad D E l yX11_read cX11_read 2 (some .int) 5 A [.ref (ad 0)] s0 (some (.int rr)) sr := by
  refine zstart (own := RX11) hOx (by decide) rfl (Nat.le_of_ble_eq_true rfl) ?_
  intro p e s m args below meth c X hP ls hl
  have hx := X.1
  have hb := X.2.1
  have hl : lv_has ls 2 [(0, .ref (ad 0))] := hl
  have hS : va_S A s.heap s.heap [] := va_S.rf
  rw [f_X11_read] at hf
  refine lv_aload_n hx hb dX11_read_0 rfl (lv_at hl 0 rfl) ?_
  refine gf_X11_42 X hP (k := 0) (q := 8) rfl dX11_read_1 rfl ?_
  refine lv_aload_n hx hb dX11_read_4 rfl (lv_at hl 0 rfl) ?_
  refine gf_X11_12 X hP (k := 0) (q := 1) rfl dX11_read_5 rfl ?_
  refine gf_X11_74 X hP (k := 1) (q := 3) rfl dX11_read_8 rfl ?_
  refine lv_aload_n hx hb dX11_read_11 rfl (lv_at hl 0 rfl) ?_
  refine gf_X11_28 X hP (k := 0) (q := 5) rfl dX11_read_12 rfl ?_
  refine gf_X11_84 X hP (k := 5) (q := 6) rfl dX11_read_15 rfl ?_
  refine lv_aload_n hx hb dX11_read_18 rfl (lv_at hl 0 rfl) ?_
  refine gf_X11_28 X hP (k := 0) (q := 5) rfl dX11_read_19 rfl ?_
  refine gf_X11_188 X hP (k := 5) (q := 21) rfl dX11_read_22 rfl ?_
  obtain ⟨r1, s2, h3, hf⟩ := zbd_some hf
  refine zcallV X hP hS hl.1 (k := 8) (As := [.ref (ad 3), .ref (ad 6), .ref (ad 21)]) (rest := []) (cn_X9_readClass h3) cw_X9_readClass zp_9 rfl (by decide) rfl ml_X11_333 (by decide) rfl rfl (Nat.le_of_ble_eq_true rfl) dX11_read_25 (fun H locs hP hS => ?_)
  refine lv_istore_n (lv' := [(1, .int r1), (0, .ref (ad 0))]) hx hb dX11_read_28 rfl hl (by decide) rfl (fun ls hl => ?_)
  refine lv_aload_n hx hb dX11_read_29 rfl (lv_at hl 1 rfl) ?_
  refine gf_X11_42 X hP (k := 0) (q := 8) rfl dX11_read_30 rfl ?_
  refine lv_iconst (v := 0) hx hb dX11_read_33 (by decide) ?_
  refine pf_X11_330 X hP hS (k := 8) rfl dX11_read_34 (fun H locs hP hS => ?_)
  refine lv_iload_n hx hb dX11_read_37 rfl (lv_at hl 0 rfl) ?_
  refine lv_iconst (v := (-1)) hx hb dX11_read_38 (by decide) ?_
  refine zicmp_eq (tgt := 47) hx hb dX11_read_39 (by decide) hf (fun hf => ?_) (fun hf => ?_)
  · refine lv_aload_n hx hb dX11_read_47 rfl (lv_at hl 1 rfl) ?_
    refine gf_X11_12 X hP (k := 0) (q := 1) rfl dX11_read_48 rfl ?_
    refine gf_X11_141 X hP (k := 1) rfl dX11_read_51 ?_
    refine lv_bipush (v := 8) hx hb dX11_read_54 (by decide) ?_
    refine zicmp_lt (tgt := 62) hx hb dX11_read_56 (by decide) hf (fun hf => ?_) (fun hf => ?_)
    · refine lv_aload_n hx hb dX11_read_62 rfl (lv_at hl 1 rfl) ?_
      obtain ⟨r4, s5, h6, hf⟩ := zbd_some hf
      refine zcallV X hP hS hl.1 (k := 0) (As := []) (rest := []) (cn_X11_bringAll h6) cw_X11_bringAll zp_11 rfl (by decide) rfl ml_X11_195 (by decide) rfl rfl (Nat.le_of_ble_eq_true rfl) dX11_read_63 (fun H locs hP hS => ?_)
      refine lv_aload_n hx hb dX11_read_66 rfl (lv_at hl 1 rfl) ?_
      refine gf_X11_35 X hP (k := 0) (q := 7) rfl dX11_read_67 rfl ?_
      obtain ⟨r7, s8, h9, hf⟩ := zbd_some hf
      refine zcallV X hP hS hl.1 (k := 7) (As := []) (rest := []) (cn_X1_forget h9) cw_X1_forget zp_1 rfl (by decide) rfl ml_X11_142 (by decide) rfl rfl (Nat.le_of_ble_eq_true rfl) dX11_read_70 (fun H locs hP hS => ?_)
      refine lv_aload_n hx hb dX11_read_73 rfl (lv_at hl 1 rfl) ?_
      refine gf_X11_12 X hP (k := 0) (q := 1) rfl dX11_read_74 rfl ?_
      refine gf_X11_141 X hP (k := 1) rfl dX11_read_77 ?_
      refine lv_iconst (v := 1) hx hb dX11_read_80 (by decide) ?_
      refine lv_isub hx hb dX11_read_81 ?_
      exact zret_i X hP hS hf rfl dX11_read_82
    · refine lv_bipush (v := (-3)) hx hb dX11_read_59 (by decide) ?_
      exact zret_i X hP hS hf rfl dX11_read_61
  · refine lv_bipush (v := (-100)) hx hb dX11_read_42 (by decide) ?_
    refine lv_iload_n hx hb dX11_read_44 rfl (lv_at hl 0 rfl) ?_
    refine lv_isub hx hb dX11_read_45 ?_
    exact zret_i X hP hS hf rfl dX11_read_46
theorem dX11_canDo_0 : decode cX11_canDo 0 = .ok (.aload_n 0, 1) := by decide +kernel
theorem dX11_canDo_1 : decode cX11_canDo 1 = .ok (.getfield 12, 3) := by decide +kernel
theorem dX11_canDo_4 : decode cX11_canDo 4 = .ok (.getfield 141, 3) := by decide +kernel
theorem dX11_canDo_7 : decode cX11_canDo 7 = .ok (.bipush 8, 2) := by decide +kernel
theorem dX11_canDo_9 : decode cX11_canDo 9 = .ok (.if_icmp .ge 15, 3) := by decide +kernel
theorem dX11_canDo_12 : decode cX11_canDo 12 = .ok (.aload_n 0, 1) := by decide +kernel
theorem dX11_canDo_13 : decode cX11_canDo 13 = .ok (.getfield 12, 3) := by decide +kernel
theorem dX11_canDo_16 : decode cX11_canDo 16 = .ok (.iload_n 2, 1) := by decide +kernel
theorem dX11_canDo_17 : decode cX11_canDo 17 = .ok (.i2l, 1) := by decide +kernel
theorem dX11_canDo_18 : decode cX11_canDo 18 = .ok (.invokevirtual 155, 3) := by decide +kernel
theorem dX11_canDo_21 : decode cX11_canDo 21 = .ok (.ifnonnull 5, 3) := by decide +kernel
theorem dX11_canDo_24 : decode cX11_canDo 24 = .ok (.iconst 0, 1) := by decide +kernel
theorem dX11_canDo_25 : decode cX11_canDo 25 = .ok (.ireturn, 1) := by decide +kernel
theorem dX11_canDo_26 : decode cX11_canDo 26 = .ok (.iload_n 1, 1) := by decide +kernel
theorem dX11_canDo_27 : decode cX11_canDo 27 = .ok (.iconst 3, 1) := by decide +kernel
theorem dX11_canDo_28 : decode cX11_canDo 28 = .ok (.if_icmp .eq 8, 3) := by decide +kernel
theorem dX11_canDo_31 : decode cX11_canDo 31 = .ok (.iload_n 1, 1) := by decide +kernel
theorem dX11_canDo_32 : decode cX11_canDo 32 = .ok (.iconst 4, 1) := by decide +kernel
theorem dX11_canDo_33 : decode cX11_canDo 33 = .ok (.if_icmp .ne 15, 3) := by decide +kernel
theorem dX11_canDo_36 : decode cX11_canDo 36 = .ok (.iload_n 3, 1) := by decide +kernel
theorem dX11_canDo_37 : decode cX11_canDo 37 = .ok (.bipush 6, 2) := by decide +kernel
theorem dX11_canDo_39 : decode cX11_canDo 39 = .ok (.if_icmp .gt 7, 3) := by decide +kernel
theorem dX11_canDo_42 : decode cX11_canDo 42 = .ok (.iconst 1, 1) := by decide +kernel
theorem dX11_canDo_43 : decode cX11_canDo 43 = .ok (.goto 4, 3) := by decide +kernel
theorem dX11_canDo_46 : decode cX11_canDo 46 = .ok (.iconst 0, 1) := by decide +kernel
theorem dX11_canDo_47 : decode cX11_canDo 47 = .ok (.ireturn, 1) := by decide +kernel
theorem dX11_canDo_48 : decode cX11_canDo 48 = .ok (.aload_n 0, 1) := by decide +kernel
theorem dX11_canDo_49 : decode cX11_canDo 49 = .ok (.getfield 12, 3) := by decide +kernel
theorem dX11_canDo_52 : decode cX11_canDo 52 = .ok (.iload_n 3, 1) := by decide +kernel
theorem dX11_canDo_53 : decode cX11_canDo 53 = .ok (.i2l, 1) := by decide +kernel
theorem dX11_canDo_54 : decode cX11_canDo 54 = .ok (.invokevirtual 155, 3) := by decide +kernel
theorem dX11_canDo_57 : decode cX11_canDo 57 = .ok (.ifnull 7, 3) := by decide +kernel
theorem dX11_canDo_60 : decode cX11_canDo 60 = .ok (.iconst 1, 1) := by decide +kernel
theorem dX11_canDo_61 : decode cX11_canDo 61 = .ok (.goto 4, 3) := by decide +kernel
theorem dX11_canDo_64 : decode cX11_canDo 64 = .ok (.iconst 0, 1) := by decide +kernel
theorem dX11_canDo_65 : decode cX11_canDo 65 = .ok (.ireturn, 1) := by decide +kernel
set_option maxHeartbeats 4000000 in
set_option maxRecDepth 100000 in
theorem cn_X11_canDo {l : Launch} {cA : Nat → ClassId} {ad : Nat → Nat} {D : va_G} {E : Nat → Nat} {A : Nat → Prop} {x1 : Int32} {x2 : Int32} {x3 : Int32} {s0 sr : SS} {rr : Int32} (hf : f_X11_canDo x1 x2 x3 s0 = some (rr, sr)) : zCon Ox Nx cA ad D E l yX11_canDo cX11_canDo 4 (some .boolean) 1 A [.ref (ad 0), .int x1, .int x2, .int x3] s0 (some (.int rr)) sr := by
  refine zstart (own := RX11) hOx (by decide) rfl (Nat.le_of_ble_eq_true rfl) ?_
  intro p e s m args below meth c X hP ls hl
  have hx := X.1
  have hb := X.2.1
  have hl : lv_has ls 4 [(0, .ref (ad 0)), (1, .int x1), (2, .int x2), (3, .int x3)] := hl
  have hS : va_S A s.heap s.heap [] := va_S.rf
  have hc_36 : ∀ (x3 : Int32) (s1 : SS) (H : Heap) (locs : List Loc) (ls : Array Slot), lv_has ls 4 [(3, .int x3)] → va_P D ZCL (zw Ox Nx cA ad s1) H → va_S A s.heap H locs → f_X11_canDo_c36 x3 s1 = some (rr, sr) → W p l e (zrm 1) s m args below meth c H locs 0 0 (MQ below (zQc Ox Nx cA ad D A (some (.int rr)) sr) args s 0 0 A) (F0 m 36 ls []) := by
    intro x3 s1 H locs ls hl hP hS hf
    rw [f_X11_canDo_c36] at hf
    refine lv_iload_n hx hb dX11_canDo_36 rfl (lv_at hl 0 rfl) ?_
    refine lv_bipush (v := 6) hx hb dX11_canDo_37 (by decide) ?_
    refine zicmp_gt (tgt := 46) hx hb dX11_canDo_39 (by decide) hf (fun hf => ?_) (fun hf => ?_)
    · refine lv_iconst (v := 0) hx hb dX11_canDo_46 (by decide) ?_
      exact zret_i X hP hS hf rfl dX11_canDo_47
    · refine lv_iconst (v := 1) hx hb dX11_canDo_42 (by decide) ?_
      refine lv_goto (tgt := 47) hx hb dX11_canDo_43 (by decide) ?_
      exact zret_i X hP hS hf rfl dX11_canDo_47
  rw [f_X11_canDo] at hf
  refine lv_aload_n hx hb dX11_canDo_0 rfl (lv_at hl 0 rfl) ?_
  refine gf_X11_12 X hP (k := 0) (q := 1) rfl dX11_canDo_1 rfl ?_
  refine gf_X11_141 X hP (k := 1) rfl dX11_canDo_4 ?_
  refine lv_bipush (v := 8) hx hb dX11_canDo_7 (by decide) ?_
  refine zicmp_ge (tgt := 24) hx hb dX11_canDo_9 (by decide) hf (fun hf => ?_) (fun hf => ?_)
  · refine lv_iconst (v := 0) hx hb dX11_canDo_24 (by decide) ?_
    exact zret_i X hP hS hf rfl dX11_canDo_25
  · refine lv_aload_n hx hb dX11_canDo_12 rfl (lv_at hl 0 rfl) ?_
    refine gf_X11_12 X hP (k := 0) (q := 1) rfl dX11_canDo_13 rfl ?_
    refine lv_iload_n hx hb dX11_canDo_16 rfl (lv_at hl 2 rfl) ?_
    refine lv_i2l hx hb dX11_canDo_17 rfl ?_
    obtain ⟨r1, s2, h3, hf⟩ := zbd_some hf
    refine zcallV X hP hS hl.1 (k := 1) (As := [.long (x2).toInt64]) (rest := []) (cn_X3_classAt h3) cw_X3_classAt zp_3 rfl (by decide) rfl ml_X11_155 (by decide) rfl rfl (Nat.le_of_ble_eq_true rfl) dX11_canDo_18 (fun H locs hP hS => ?_)
    rcases r1 with _ | k4
    · have hf := zbn_none hf
      refine lv_ifnonnullN hx hb dX11_canDo_21 ?_
      refine lv_iconst (v := 0) hx hb dX11_canDo_24 (by decide) ?_
      exact zret_i X hP hS hf rfl dX11_canDo_25
    · have hf := zbn_some hf
      obtain ⟨g5, hf⟩ := zgd hf
      refine lv_ifnonnull (tgt := 26) hx hb dX11_canDo_21 (by decide) ?_
      refine lv_iload_n hx hb dX11_canDo_26 rfl (lv_at hl 1 rfl) ?_
      refine lv_iconst (v := 3) hx hb dX11_canDo_27 (by decide) ?_
      refine zicmp_eq (tgt := 36) hx hb dX11_canDo_28 (by decide) hf (fun hf => ?_) (fun hf => ?_)
      · exact hc_36 x3 s2 _ _ _ (lv_sub hl [3] rfl) hP hS hf
      · refine lv_iload_n hx hb dX11_canDo_31 rfl (lv_at hl 1 rfl) ?_
        refine lv_iconst (v := 4) hx hb dX11_canDo_32 (by decide) ?_
        refine zicmp_ne (tgt := 48) hx hb dX11_canDo_33 (by decide) hf (fun hf => ?_) (fun hf => ?_)
        · refine lv_aload_n hx hb dX11_canDo_48 rfl (lv_at hl 0 rfl) ?_
          refine gf_X11_12 X hP (k := 0) (q := 1) rfl dX11_canDo_49 rfl ?_
          refine lv_iload_n hx hb dX11_canDo_52 rfl (lv_at hl 3 rfl) ?_
          refine lv_i2l hx hb dX11_canDo_53 rfl ?_
          obtain ⟨r6, s7, h8, hf⟩ := zbd_some hf
          refine zcallV X hP hS hl.1 (k := 1) (As := [.long (x3).toInt64]) (rest := []) (cn_X3_classAt h8) cw_X3_classAt zp_3 rfl (by decide) rfl ml_X11_155 (by decide) rfl rfl (Nat.le_of_ble_eq_true rfl) dX11_canDo_54 (fun H locs hP hS => ?_)
          rcases r6 with _ | k9
          · have hf := zbn_none hf
            refine lv_ifnullN (tgt := 64) hx hb dX11_canDo_57 (by decide) ?_
            refine lv_iconst (v := 0) hx hb dX11_canDo_64 (by decide) ?_
            exact zret_i X hP hS hf rfl dX11_canDo_65
          · have hf := zbn_some hf
            obtain ⟨g10, hf⟩ := zgd hf
            refine lv_ifnull hx hb dX11_canDo_57 ?_
            refine lv_iconst (v := 1) hx hb dX11_canDo_60 (by decide) ?_
            refine lv_goto (tgt := 65) hx hb dX11_canDo_61 (by decide) ?_
            exact zret_i X hP hS hf rfl dX11_canDo_65
        · exact hc_36 x3 s2 _ _ _ (lv_sub hl [3] rfl) hP hS hf
theorem dX11_doOne_0 : decode cX11_doOne 0 = .ok (.aload_n 0, 1) := by decide +kernel
theorem dX11_doOne_1 : decode cX11_doOne 1 = .ok (.getfield 12, 3) := by decide +kernel
theorem dX11_doOne_4 : decode cX11_doOne 4 = .ok (.iload_n 3, 1) := by decide +kernel
theorem dX11_doOne_5 : decode cX11_doOne 5 = .ok (.i2l, 1) := by decide +kernel
theorem dX11_doOne_6 : decode cX11_doOne 6 = .ok (.invokevirtual 155, 3) := by decide +kernel
theorem dX11_doOne_9 : decode cX11_doOne 9 = .ok (.astore 4, 2) := by decide +kernel
theorem dX11_doOne_11 : decode cX11_doOne 11 = .ok (.aload_n 0, 1) := by decide +kernel
theorem dX11_doOne_12 : decode cX11_doOne 12 = .ok (.getfield 28, 3) := by decide +kernel
theorem dX11_doOne_15 : decode cX11_doOne 15 = .ok (.aload_n 2, 1) := by decide +kernel
theorem dX11_doOne_16 : decode cX11_doOne 16 = .ok (.aload_n 0, 1) := by decide +kernel
theorem dX11_doOne_17 : decode cX11_doOne 17 = .ok (.getfield 28, 3) := by decide +kernel
theorem dX11_doOne_20 : decode cX11_doOne 20 = .ok (.getfield 188, 3) := by decide +kernel
theorem dX11_doOne_23 : decode cX11_doOne 23 = .ok (.invokevirtual 208, 3) := by decide +kernel
theorem dX11_doOne_26 : decode cX11_doOne 26 = .ok (.iload_n 1, 1) := by decide +kernel
theorem dX11_doOne_27 : decode cX11_doOne 27 = .ok (.iconst 3, 1) := by decide +kernel
theorem dX11_doOne_28 : decode cX11_doOne 28 = .ok (.if_icmp .ne 15, 3) := by decide +kernel
theorem dX11_doOne_31 : decode cX11_doOne 31 = .ok (.aload_n 0, 1) := by decide +kernel
theorem dX11_doOne_32 : decode cX11_doOne 32 = .ok (.getfield 28, 3) := by decide +kernel
theorem dX11_doOne_35 : decode cX11_doOne 35 = .ok (.aload_n 2, 1) := by decide +kernel
theorem dX11_doOne_36 : decode cX11_doOne 36 = .ok (.iload_n 3, 1) := by decide +kernel
theorem dX11_doOne_37 : decode cX11_doOne 37 = .ok (.invokevirtual 229, 3) := by decide +kernel
theorem dX11_doOne_40 : decode cX11_doOne 40 = .ok (.goto 101, 3) := by decide +kernel
theorem dX11_doOne_43 : decode cX11_doOne 43 = .ok (.iload_n 1, 1) := by decide +kernel
theorem dX11_doOne_44 : decode cX11_doOne 44 = .ok (.iconst 4, 1) := by decide +kernel
theorem dX11_doOne_45 : decode cX11_doOne 45 = .ok (.if_icmp .ne 21, 3) := by decide +kernel
theorem dX11_doOne_48 : decode cX11_doOne 48 = .ok (.aload_n 0, 1) := by decide +kernel
theorem dX11_doOne_49 : decode cX11_doOne 49 = .ok (.getfield 28, 3) := by decide +kernel
theorem dX11_doOne_52 : decode cX11_doOne 52 = .ok (.aload_n 0, 1) := by decide +kernel
theorem dX11_doOne_53 : decode cX11_doOne 53 = .ok (.getfield 28, 3) := by decide +kernel
theorem dX11_doOne_56 : decode cX11_doOne 56 = .ok (.getfield 188, 3) := by decide +kernel
theorem dX11_doOne_59 : decode cX11_doOne 59 = .ok (.iload_n 3, 1) := by decide +kernel
theorem dX11_doOne_60 : decode cX11_doOne 60 = .ok (.invokevirtual 283, 3) := by decide +kernel
theorem dX11_doOne_63 : decode cX11_doOne 63 = .ok (.goto 78, 3) := by decide +kernel
theorem dX11_doOne_66 : decode cX11_doOne 66 = .ok (.aload 4, 2) := by decide +kernel
theorem dX11_doOne_68 : decode cX11_doOne 68 = .ok (.ifnull 20, 3) := by decide +kernel
theorem dX11_doOne_71 : decode cX11_doOne 71 = .ok (.iload_n 1, 1) := by decide +kernel
theorem dX11_doOne_72 : decode cX11_doOne 72 = .ok (.iconst 1, 1) := by decide +kernel
theorem dX11_doOne_73 : decode cX11_doOne 73 = .ok (.if_icmp .ne 15, 3) := by decide +kernel
theorem dX11_doOne_76 : decode cX11_doOne 76 = .ok (.aload_n 0, 1) := by decide +kernel
theorem dX11_doOne_77 : decode cX11_doOne 77 = .ok (.getfield 28, 3) := by decide +kernel
theorem dX11_doOne_80 : decode cX11_doOne 80 = .ok (.aload 4, 2) := by decide +kernel
theorem dX11_doOne_82 : decode cX11_doOne 82 = .ok (.invokevirtual 216, 3) := by decide +kernel
theorem dX11_doOne_85 : decode cX11_doOne 85 = .ok (.goto 56, 3) := by decide +kernel
theorem dX11_doOne_88 : decode cX11_doOne 88 = .ok (.aload 4, 2) := by decide +kernel
theorem dX11_doOne_90 : decode cX11_doOne 90 = .ok (.ifnull 51, 3) := by decide +kernel
theorem dX11_doOne_93 : decode cX11_doOne 93 = .ok (.aload_n 0, 1) := by decide +kernel
theorem dX11_doOne_94 : decode cX11_doOne 94 = .ok (.getfield 28, 3) := by decide +kernel
theorem dX11_doOne_97 : decode cX11_doOne 97 = .ok (.aload 4, 2) := by decide +kernel
theorem dX11_doOne_99 : decode cX11_doOne 99 = .ok (.aload_n 0, 1) := by decide +kernel
theorem dX11_doOne_100 : decode cX11_doOne 100 = .ok (.getfield 28, 3) := by decide +kernel
theorem dX11_doOne_103 : decode cX11_doOne 103 = .ok (.getfield 233, 3) := by decide +kernel
theorem dX11_doOne_106 : decode cX11_doOne 106 = .ok (.invokevirtual 208, 3) := by decide +kernel
theorem dX11_doOne_109 : decode cX11_doOne 109 = .ok (.aload_n 0, 1) := by decide +kernel
theorem dX11_doOne_110 : decode cX11_doOne 110 = .ok (.getfield 28, 3) := by decide +kernel
theorem dX11_doOne_113 : decode cX11_doOne 113 = .ok (.aload_n 0, 1) := by decide +kernel
theorem dX11_doOne_114 : decode cX11_doOne 114 = .ok (.getfield 28, 3) := by decide +kernel
theorem dX11_doOne_117 : decode cX11_doOne 117 = .ok (.getfield 188, 3) := by decide +kernel
theorem dX11_doOne_120 : decode cX11_doOne 120 = .ok (.aload_n 0, 1) := by decide +kernel
theorem dX11_doOne_121 : decode cX11_doOne 121 = .ok (.getfield 28, 3) := by decide +kernel
theorem dX11_doOne_124 : decode cX11_doOne 124 = .ok (.getfield 233, 3) := by decide +kernel
theorem dX11_doOne_127 : decode cX11_doOne 127 = .ok (.iload_n 1, 1) := by decide +kernel
theorem dX11_doOne_128 : decode cX11_doOne 128 = .ok (.ifCond .ne 7, 3) := by decide +kernel
theorem dX11_doOne_131 : decode cX11_doOne 131 = .ok (.lconst 1, 1) := by decide +kernel
theorem dX11_doOne_132 : decode cX11_doOne 132 = .ok (.goto 6, 3) := by decide +kernel
theorem dX11_doOne_135 : decode cX11_doOne 135 = .ok (.ldc2_w 293, 3) := by decide +kernel
theorem dX11_doOne_138 : decode cX11_doOne 138 = .ok (.invokevirtual 359, 3) := by decide +kernel
theorem dX11_doOne_141 : decode cX11_doOne 141 = .ok (.aload_n 0, 1) := by decide +kernel
theorem dX11_doOne_142 : decode cX11_doOne 142 = .ok (.invokevirtual 195, 3) := by decide +kernel
theorem dX11_doOne_145 : decode cX11_doOne 145 = .ok (.return_, 1) := by decide +kernel
set_option maxHeartbeats 4000000 in
set_option maxRecDepth 100000 in
theorem cn_X11_doOne {l : Launch} {cA : Nat → ClassId} {ad : Nat → Nat} {D : va_G} {E : Nat → Nat} {A : Nat → Prop} {x1 : Int32} {k2 : Nat} {x3 : Int32} {s0 sr : SS} {rr : Unit} (hf : f_X11_doOne x1 k2 x3 s0 = some (rr, sr)) : zCon Ox Nx cA ad D E l yX11_doOne cX11_doOne 5 none 4 A [.ref (ad 0), .int x1, .ref (ad k2), .int x3] s0 none sr := by
  refine zstart (own := RX11) hOx (by decide) rfl (Nat.le_of_ble_eq_true rfl) ?_
  intro p e s m args below meth c X hP ls hl
  have hx := X.1
  have hb := X.2.1
  have hl : lv_has ls 5 [(0, .ref (ad 0)), (1, .int x1), (2, .ref (ad k2)), (3, .int x3)] := hl
  have hS : va_S A s.heap s.heap [] := va_S.rf
  have hc_141 : ∀  (s1 : SS) (H : Heap) (locs : List Loc) (ls : Array Slot), lv_has ls 5 [(0, .ref (ad 0))] → va_P D ZCL (zw Ox Nx cA ad s1) H → va_S A s.heap H locs → f_X11_doOne_c141  s1 = some (rr, sr) → W p l e (zrm 4) s m args below meth c H locs 0 0 (MQ below (zQc Ox Nx cA ad D A none sr) args s 0 0 A) (F0 m 141 ls []) := by
    intro  s1 H locs ls hl hP hS hf
    rw [f_X11_doOne_c141] at hf
    refine lv_aload_n hx hb dX11_doOne_141 rfl (lv_at hl 0 rfl) ?_
    obtain ⟨r9, s10, h11, hf⟩ := zbd_some hf
    refine zcallV X hP hS hl.1 (k := 0) (As := []) (rest := []) (cn_X11_bringAll h11) cw_X11_bringAll zp_11 rfl (by decide) rfl ml_X11_195 (by decide) rfl rfl (Nat.le_of_ble_eq_true rfl) dX11_doOne_142 (fun H locs hP hS => ?_)
    exact zret_v X hP hS hf dX11_doOne_145
  have hc_138 : ∀ (t0 : Int64) (s1 : SS) (H : Heap) (locs : List Loc) (ls : Array Slot), lv_has ls 5 [(0, .ref (ad 0))] → va_P D ZCL (zw Ox Nx cA ad s1) H → va_S A s.heap H locs → f_X11_doOne_c138 t0 s1 = some (rr, sr) → W p l e (zrm 4) s m args below meth c H locs 0 0 (MQ below (zQc Ox Nx cA ad D A none sr) args s 0 0 A) (F0 m 138 ls [.long t0, .ref (ad 22), .ref (ad 21), .ref (ad 5)]) := by
    intro t0 s1 H locs ls hl hP hS hf
    rw [f_X11_doOne_c138] at hf
    obtain ⟨r24, s25, h26, hf⟩ := zbd_some hf
    refine zcallV X hP hS hl.1 (k := 5) (As := [.ref (ad 21), .ref (ad 22), .long t0]) (rest := []) (cn_X8_addTimes h26) cw_X8_addTimes zp_8 rfl (by decide) rfl ml_X11_359 (by decide) rfl rfl (Nat.le_of_ble_eq_true rfl) dX11_doOne_138 (fun H locs hP hS => ?_)
    exact hc_141  s25 _ _ _ (lv_sub hl [0] rfl) hP hS hf
  have hc_88 : ∀ (x1 : Int32) (s1 : SS) (H : Heap) (locs : List Loc) (ls : Array Slot), lv_has ls 5 [(0, .ref (ad 0)), (1, .int x1), (4, .null)] → va_P D ZCL (zw Ox Nx cA ad s1) H → va_S A s.heap H locs → f_X11_doOne_c88 x1 s1 = some (rr, sr) → W p l e (zrm 4) s m args below meth c H locs 0 0 (MQ below (zQc Ox Nx cA ad D A none sr) args s 0 0 A) (F0 m 88 ls []) := by
    intro x1 s1 H locs ls hl hP hS hf
    rw [f_X11_doOne_c88] at hf
    refine lv_aloadN hx hb dX11_doOne_88 (lv_at hl 2 rfl) ?_
    refine lv_ifnullN (tgt := 141) hx hb dX11_doOne_90 (by decide) ?_
    exact hc_141  s1 _ _ _ (lv_sub hl [0] rfl) hP hS hf
  have hc_88v1 : ∀ (x1 : Int32) (k4 : Nat) (s1 : SS) (H : Heap) (locs : List Loc) (ls : Array Slot), lv_has ls 5 [(0, .ref (ad 0)), (1, .int x1), (4, .ref (ad k4))] → va_P D ZCL (zw Ox Nx cA ad s1) H → va_S A s.heap H locs → f_X11_doOne_c88v1 x1 k4 s1 = some (rr, sr) → W p l e (zrm 4) s m args below meth c H locs 0 0 (MQ below (zQc Ox Nx cA ad D A none sr) args s 0 0 A) (F0 m 88 ls []) := by
    intro x1 k4 s1 H locs ls hl hP hS hf
    rw [f_X11_doOne_c88v1] at hf
    obtain ⟨gp4, hf⟩ := zgd hf
    refine lv_aload hx hb dX11_doOne_88 (lv_at hl 2 rfl) ?_
    refine lv_ifnull hx hb dX11_doOne_90 ?_
    refine lv_aload_n hx hb dX11_doOne_93 rfl (lv_at hl 0 rfl) ?_
    refine gf_X11_28 X hP (k := 0) (q := 5) rfl dX11_doOne_94 rfl ?_
    refine lv_aload hx hb dX11_doOne_97 (lv_at hl 2 rfl) ?_
    refine lv_aload_n hx hb dX11_doOne_99 rfl (lv_at hl 0 rfl) ?_
    refine gf_X11_28 X hP (k := 0) (q := 5) rfl dX11_doOne_100 rfl ?_
    refine gf_X11_233 X hP (k := 5) (q := 22) rfl dX11_doOne_103 rfl ?_
    obtain ⟨r21, s22, h23, hf⟩ := zbd_some hf
    refine zcallV X hP hS hl.1 (k := 5) (As := [.ref (ad k4), .ref (ad 22)]) (rest := []) (cn_X8_takeNumbers h23) cw_X8_takeNumbers zp_8 rfl (by decide) rfl ml_X11_208 (by decide) rfl rfl (Nat.le_of_ble_eq_true rfl) dX11_doOne_106 (fun H locs hP hS => ?_)
    refine lv_aload_n hx hb dX11_doOne_109 rfl (lv_at hl 0 rfl) ?_
    refine gf_X11_28 X hP (k := 0) (q := 5) rfl dX11_doOne_110 rfl ?_
    refine lv_aload_n hx hb dX11_doOne_113 rfl (lv_at hl 0 rfl) ?_
    refine gf_X11_28 X hP (k := 0) (q := 5) rfl dX11_doOne_114 rfl ?_
    refine gf_X11_188 X hP (k := 5) (q := 21) rfl dX11_doOne_117 rfl ?_
    refine lv_aload_n hx hb dX11_doOne_120 rfl (lv_at hl 0 rfl) ?_
    refine gf_X11_28 X hP (k := 0) (q := 5) rfl dX11_doOne_121 rfl ?_
    refine gf_X11_233 X hP (k := 5) (q := 22) rfl dX11_doOne_124 rfl ?_
    refine lv_iload_n hx hb dX11_doOne_127 rfl (lv_at hl 1 rfl) ?_
    refine zif_ne (tgt := 135) hx hb dX11_doOne_128 (by decide) hf (fun hf => ?_) (fun hf => ?_)
    · refine zldc2 X co_X11_293 dX11_doOne_135 ?_
      exact hc_138 (-1) s22 _ _ _ (lv_sub hl [0] rfl) hP hS hf
    · refine lv_lconst (v := 1) hx hb dX11_doOne_131 (by decide) ?_
      refine lv_goto (tgt := 138) hx hb dX11_doOne_132 (by decide) ?_
      exact hc_138 1 s22 _ _ _ (lv_sub hl [0] rfl) hP hS hf
  rw [f_X11_doOne] at hf
  obtain ⟨gp2, hf⟩ := zgd hf
  refine lv_aload_n hx hb dX11_doOne_0 rfl (lv_at hl 0 rfl) ?_
  refine gf_X11_12 X hP (k := 0) (q := 1) rfl dX11_doOne_1 rfl ?_
  refine lv_iload_n hx hb dX11_doOne_4 rfl (lv_at hl 3 rfl) ?_
  refine lv_i2l hx hb dX11_doOne_5 rfl ?_
  obtain ⟨r1, s2, h3, hf⟩ := zbd_some hf
  refine zcallV X hP hS hl.1 (k := 1) (As := [.long (x3).toInt64]) (rest := []) (cn_X3_classAt h3) cw_X3_classAt zp_3 rfl (by decide) rfl ml_X11_155 (by decide) rfl rfl (Nat.le_of_ble_eq_true rfl) dX11_doOne_6 (fun H locs hP hS => ?_)
  rcases r1 with _ | k4
  · have hf := zbn_none hf
    refine lv_astoreN (lv' := [(4, .null), (0, .ref (ad 0)), (1, .int x1), (2, .ref (ad k2)), (3, .int x3)]) hx hb dX11_doOne_9 hl (by decide) rfl (fun ls hl => ?_)
    refine lv_aload_n hx hb dX11_doOne_11 rfl (lv_at hl 1 rfl) ?_
    refine gf_X11_28 X hP (k := 0) (q := 5) rfl dX11_doOne_12 rfl ?_
    refine lv_aload_n hx hb dX11_doOne_15 rfl (lv_at hl 3 rfl) ?_
    refine lv_aload_n hx hb dX11_doOne_16 rfl (lv_at hl 1 rfl) ?_
    refine gf_X11_28 X hP (k := 0) (q := 5) rfl dX11_doOne_17 rfl ?_
    refine gf_X11_188 X hP (k := 5) (q := 21) rfl dX11_doOne_20 rfl ?_
    obtain ⟨r6, s7, h8, hf⟩ := zbd_some hf
    refine zcallV X hP hS hl.1 (k := 5) (As := [.ref (ad k2), .ref (ad 21)]) (rest := []) (cn_X8_takeNumbers h8) cw_X8_takeNumbers zp_8 rfl (by decide) rfl ml_X11_208 (by decide) rfl rfl (Nat.le_of_ble_eq_true rfl) dX11_doOne_23 (fun H locs hP hS => ?_)
    refine lv_iload_n hx hb dX11_doOne_26 rfl (lv_at hl 2 rfl) ?_
    refine lv_iconst (v := 3) hx hb dX11_doOne_27 (by decide) ?_
    refine zicmp_ne (tgt := 43) hx hb dX11_doOne_28 (by decide) hf (fun hf => ?_) (fun hf => ?_)
    · refine lv_iload_n hx hb dX11_doOne_43 rfl (lv_at hl 2 rfl) ?_
      refine lv_iconst (v := 4) hx hb dX11_doOne_44 (by decide) ?_
      refine zicmp_ne (tgt := 66) hx hb dX11_doOne_45 (by decide) hf (fun hf => ?_) (fun hf => ?_)
      · refine lv_aloadN hx hb dX11_doOne_66 (lv_at hl 0 rfl) ?_
        refine lv_ifnullN (tgt := 88) hx hb dX11_doOne_68 (by decide) ?_
        exact hc_88 x1 s7 _ _ _ (lv_sub hl [1, 2, 0] rfl) hP hS hf
      · refine lv_aload_n hx hb dX11_doOne_48 rfl (lv_at hl 1 rfl) ?_
        refine gf_X11_28 X hP (k := 0) (q := 5) rfl dX11_doOne_49 rfl ?_
        refine lv_aload_n hx hb dX11_doOne_52 rfl (lv_at hl 1 rfl) ?_
        refine gf_X11_28 X hP (k := 0) (q := 5) rfl dX11_doOne_53 rfl ?_
        refine gf_X11_188 X hP (k := 5) (q := 21) rfl dX11_doOne_56 rfl ?_
        refine lv_iload_n hx hb dX11_doOne_59 rfl (lv_at hl 4 rfl) ?_
        obtain ⟨r12, s13, h14, hf⟩ := zbd_some hf
        refine zcallV X hP hS hl.1 (k := 5) (As := [.ref (ad 21), .int x3]) (rest := []) (cn_X8_keepSize h14) cw_X8_keepSize zp_8 rfl (by decide) rfl ml_X11_283 (by decide) rfl rfl (Nat.le_of_ble_eq_true rfl) dX11_doOne_60 (fun H locs hP hS => ?_)
        refine lv_goto (tgt := 141) hx hb dX11_doOne_63 (by decide) ?_
        exact hc_141  s13 _ _ _ (lv_sub hl [1] rfl) hP hS hf
    · refine lv_aload_n hx hb dX11_doOne_31 rfl (lv_at hl 1 rfl) ?_
      refine gf_X11_28 X hP (k := 0) (q := 5) rfl dX11_doOne_32 rfl ?_
      refine lv_aload_n hx hb dX11_doOne_35 rfl (lv_at hl 3 rfl) ?_
      refine lv_iload_n hx hb dX11_doOne_36 rfl (lv_at hl 4 rfl) ?_
      obtain ⟨r15, s16, h17, hf⟩ := zbd_some hf
      refine zcallV X hP hS hl.1 (k := 5) (As := [.ref (ad k2), .int x3]) (rest := []) (cn_X8_makePower h17) cw_X8_makePower zp_8 rfl (by decide) rfl ml_X11_229 (by decide) rfl rfl (Nat.le_of_ble_eq_true rfl) dX11_doOne_37 (fun H locs hP hS => ?_)
      refine lv_goto (tgt := 141) hx hb dX11_doOne_40 (by decide) ?_
      exact hc_141  s16 _ _ _ (lv_sub hl [1] rfl) hP hS hf
  · have hf := zbn_some hf
    obtain ⟨g5, hf⟩ := zgd hf
    refine lv_astore (lv' := [(4, .ref (ad k4)), (0, .ref (ad 0)), (1, .int x1), (2, .ref (ad k2)), (3, .int x3)]) hx hb dX11_doOne_9 hl (by decide) rfl (fun ls hl => ?_)
    refine lv_aload_n hx hb dX11_doOne_11 rfl (lv_at hl 1 rfl) ?_
    refine gf_X11_28 X hP (k := 0) (q := 5) rfl dX11_doOne_12 rfl ?_
    refine lv_aload_n hx hb dX11_doOne_15 rfl (lv_at hl 3 rfl) ?_
    refine lv_aload_n hx hb dX11_doOne_16 rfl (lv_at hl 1 rfl) ?_
    refine gf_X11_28 X hP (k := 0) (q := 5) rfl dX11_doOne_17 rfl ?_
    refine gf_X11_188 X hP (k := 5) (q := 21) rfl dX11_doOne_20 rfl ?_
    obtain ⟨r18, s19, h20, hf⟩ := zbd_some hf
    refine zcallV X hP hS hl.1 (k := 5) (As := [.ref (ad k2), .ref (ad 21)]) (rest := []) (cn_X8_takeNumbers h20) cw_X8_takeNumbers zp_8 rfl (by decide) rfl ml_X11_208 (by decide) rfl rfl (Nat.le_of_ble_eq_true rfl) dX11_doOne_23 (fun H locs hP hS => ?_)
    refine lv_iload_n hx hb dX11_doOne_26 rfl (lv_at hl 2 rfl) ?_
    refine lv_iconst (v := 3) hx hb dX11_doOne_27 (by decide) ?_
    refine zicmp_ne (tgt := 43) hx hb dX11_doOne_28 (by decide) hf (fun hf => ?_) (fun hf => ?_)
    · refine lv_iload_n hx hb dX11_doOne_43 rfl (lv_at hl 2 rfl) ?_
      refine lv_iconst (v := 4) hx hb dX11_doOne_44 (by decide) ?_
      refine zicmp_ne (tgt := 66) hx hb dX11_doOne_45 (by decide) hf (fun hf => ?_) (fun hf => ?_)
      · refine lv_aload hx hb dX11_doOne_66 (lv_at hl 0 rfl) ?_
        refine lv_ifnull hx hb dX11_doOne_68 ?_
        refine lv_iload_n hx hb dX11_doOne_71 rfl (lv_at hl 2 rfl) ?_
        refine lv_iconst (v := 1) hx hb dX11_doOne_72 (by decide) ?_
        refine zicmp_ne (tgt := 88) hx hb dX11_doOne_73 (by decide) hf (fun hf => ?_) (fun hf => ?_)
        · exact hc_88v1 x1 k4 s19 _ _ _ (lv_sub hl [1, 2, 0] rfl) hP hS hf
        · refine lv_aload_n hx hb dX11_doOne_76 rfl (lv_at hl 1 rfl) ?_
          refine gf_X11_28 X hP (k := 0) (q := 5) rfl dX11_doOne_77 rfl ?_
          refine lv_aload hx hb dX11_doOne_80 (lv_at hl 0 rfl) ?_
          obtain ⟨r27, s28, h29, hf⟩ := zbd_some hf
          refine zcallV X hP hS hl.1 (k := 5) (As := [.ref (ad k4)]) (rest := []) (cn_X8_multiplyBy h29) cw_X8_multiplyBy zp_8 rfl (by decide) rfl ml_X11_216 (by decide) rfl rfl (Nat.le_of_ble_eq_true rfl) dX11_doOne_82 (fun H locs hP hS => ?_)
          refine lv_goto (tgt := 141) hx hb dX11_doOne_85 (by decide) ?_
          exact hc_141  s28 _ _ _ (lv_sub hl [1] rfl) hP hS hf
      · refine lv_aload_n hx hb dX11_doOne_48 rfl (lv_at hl 1 rfl) ?_
        refine gf_X11_28 X hP (k := 0) (q := 5) rfl dX11_doOne_49 rfl ?_
        refine lv_aload_n hx hb dX11_doOne_52 rfl (lv_at hl 1 rfl) ?_
        refine gf_X11_28 X hP (k := 0) (q := 5) rfl dX11_doOne_53 rfl ?_
        refine gf_X11_188 X hP (k := 5) (q := 21) rfl dX11_doOne_56 rfl ?_
        refine lv_iload_n hx hb dX11_doOne_59 rfl (lv_at hl 4 rfl) ?_
        obtain ⟨r30, s31, h32, hf⟩ := zbd_some hf
        refine zcallV X hP hS hl.1 (k := 5) (As := [.ref (ad 21), .int x3]) (rest := []) (cn_X8_keepSize h32) cw_X8_keepSize zp_8 rfl (by decide) rfl ml_X11_283 (by decide) rfl rfl (Nat.le_of_ble_eq_true rfl) dX11_doOne_60 (fun H locs hP hS => ?_)
        refine lv_goto (tgt := 141) hx hb dX11_doOne_63 (by decide) ?_
        exact hc_141  s31 _ _ _ (lv_sub hl [1] rfl) hP hS hf
    · refine lv_aload_n hx hb dX11_doOne_31 rfl (lv_at hl 1 rfl) ?_
      refine gf_X11_28 X hP (k := 0) (q := 5) rfl dX11_doOne_32 rfl ?_
      refine lv_aload_n hx hb dX11_doOne_35 rfl (lv_at hl 3 rfl) ?_
      refine lv_iload_n hx hb dX11_doOne_36 rfl (lv_at hl 4 rfl) ?_
      obtain ⟨r33, s34, h35, hf⟩ := zbd_some hf
      refine zcallV X hP hS hl.1 (k := 5) (As := [.ref (ad k2), .int x3]) (rest := []) (cn_X8_makePower h35) cw_X8_makePower zp_8 rfl (by decide) rfl ml_X11_229 (by decide) rfl rfl (Nat.le_of_ble_eq_true rfl) dX11_doOne_37 (fun H locs hP hS => ?_)
      refine lv_goto (tgt := 141) hx hb dX11_doOne_40 (by decide) ?_
      exact hc_141  s34 _ _ _ (lv_sub hl [1] rfl) hP hS hf
theorem dX11_acts_0 : decode cX11_acts 0 = .ok (.aload_n 0, 1) := by decide +kernel
theorem dX11_acts_1 : decode cX11_acts 1 = .ok (.getfield 49, 3) := by decide +kernel
theorem dX11_acts_4 : decode cX11_acts 4 = .ok (.aload_n 0, 1) := by decide +kernel
theorem dX11_acts_5 : decode cX11_acts 5 = .ok (.getfield 42, 3) := by decide +kernel
theorem dX11_acts_8 : decode cX11_acts 8 = .ok (.invokevirtual 337, 3) := by decide +kernel
theorem dX11_acts_11 : decode cX11_acts 11 = .ok (.istore_n 1, 1) := by decide +kernel
theorem dX11_acts_12 : decode cX11_acts 12 = .ok (.aload_n 0, 1) := by decide +kernel
theorem dX11_acts_13 : decode cX11_acts 13 = .ok (.getfield 42, 3) := by decide +kernel
theorem dX11_acts_16 : decode cX11_acts 16 = .ok (.iconst 0, 1) := by decide +kernel
theorem dX11_acts_17 : decode cX11_acts 17 = .ok (.putfield 330, 3) := by decide +kernel
theorem dX11_acts_20 : decode cX11_acts 20 = .ok (.iload_n 1, 1) := by decide +kernel
theorem dX11_acts_21 : decode cX11_acts 21 = .ok (.iconst (-1), 1) := by decide +kernel
theorem dX11_acts_22 : decode cX11_acts 22 = .ok (.if_icmp .eq 8, 3) := by decide +kernel
theorem dX11_acts_25 : decode cX11_acts 25 = .ok (.bipush (-100), 2) := by decide +kernel
theorem dX11_acts_27 : decode cX11_acts 27 = .ok (.iload_n 1, 1) := by decide +kernel
theorem dX11_acts_28 : decode cX11_acts 28 = .ok (.isub, 1) := by decide +kernel
theorem dX11_acts_29 : decode cX11_acts 29 = .ok (.ireturn, 1) := by decide +kernel
theorem dX11_acts_30 : decode cX11_acts 30 = .ok (.aload_n 0, 1) := by decide +kernel
theorem dX11_acts_31 : decode cX11_acts 31 = .ok (.getfield 12, 3) := by decide +kernel
theorem dX11_acts_34 : decode cX11_acts 34 = .ok (.getfield 141, 3) := by decide +kernel
theorem dX11_acts_37 : decode cX11_acts 37 = .ok (.istore_n 2, 1) := by decide +kernel
theorem dX11_acts_38 : decode cX11_acts 38 = .ok (.iconst 0, 1) := by decide +kernel
theorem dX11_acts_39 : decode cX11_acts 39 = .ok (.istore_n 3, 1) := by decide +kernel
theorem dX11_acts_40 : decode cX11_acts 40 = .ok (.iload_n 3, 1) := by decide +kernel
theorem dX11_acts_41 : decode cX11_acts 41 = .ok (.aload_n 0, 1) := by decide +kernel
theorem dX11_acts_42 : decode cX11_acts 42 = .ok (.getfield 49, 3) := by decide +kernel
theorem dX11_acts_45 : decode cX11_acts 45 = .ok (.getfield 341, 3) := by decide +kernel
theorem dX11_acts_48 : decode cX11_acts 48 = .ok (.if_icmp .ge 96, 3) := by decide +kernel
theorem dX11_acts_51 : decode cX11_acts 51 = .ok (.aload_n 0, 1) := by decide +kernel
theorem dX11_acts_52 : decode cX11_acts 52 = .ok (.aload_n 0, 1) := by decide +kernel
theorem dX11_acts_53 : decode cX11_acts 53 = .ok (.getfield 49, 3) := by decide +kernel
theorem dX11_acts_56 : decode cX11_acts 56 = .ok (.getfield 342, 3) := by decide +kernel
theorem dX11_acts_59 : decode cX11_acts 59 = .ok (.iload_n 3, 1) := by decide +kernel
theorem dX11_acts_60 : decode cX11_acts 60 = .ok (.iaload, 1) := by decide +kernel
theorem dX11_acts_61 : decode cX11_acts 61 = .ok (.aload_n 0, 1) := by decide +kernel
theorem dX11_acts_62 : decode cX11_acts 62 = .ok (.getfield 49, 3) := by decide +kernel
theorem dX11_acts_65 : decode cX11_acts 65 = .ok (.getfield 345, 3) := by decide +kernel
theorem dX11_acts_68 : decode cX11_acts 68 = .ok (.iload_n 3, 1) := by decide +kernel
theorem dX11_acts_69 : decode cX11_acts 69 = .ok (.iaload, 1) := by decide +kernel
theorem dX11_acts_70 : decode cX11_acts 70 = .ok (.aload_n 0, 1) := by decide +kernel
theorem dX11_acts_71 : decode cX11_acts 71 = .ok (.getfield 49, 3) := by decide +kernel
theorem dX11_acts_74 : decode cX11_acts 74 = .ok (.getfield 348, 3) := by decide +kernel
theorem dX11_acts_77 : decode cX11_acts 77 = .ok (.iload_n 3, 1) := by decide +kernel
theorem dX11_acts_78 : decode cX11_acts 78 = .ok (.iaload, 1) := by decide +kernel
theorem dX11_acts_79 : decode cX11_acts 79 = .ok (.invokevirtual 351, 3) := by decide +kernel
theorem dX11_acts_82 : decode cX11_acts 82 = .ok (.ifCond .ne 17, 3) := by decide +kernel
theorem dX11_acts_85 : decode cX11_acts 85 = .ok (.aload_n 0, 1) := by decide +kernel
theorem dX11_acts_86 : decode cX11_acts 86 = .ok (.getfield 12, 3) := by decide +kernel
theorem dX11_acts_89 : decode cX11_acts 89 = .ok (.iload_n 2, 1) := by decide +kernel
theorem dX11_acts_90 : decode cX11_acts 90 = .ok (.putfield 141, 3) := by decide +kernel
theorem dX11_acts_93 : decode cX11_acts 93 = .ok (.sipush (-200), 3) := by decide +kernel
theorem dX11_acts_96 : decode cX11_acts 96 = .ok (.iload_n 3, 1) := by decide +kernel
theorem dX11_acts_97 : decode cX11_acts 97 = .ok (.isub, 1) := by decide +kernel
theorem dX11_acts_98 : decode cX11_acts 98 = .ok (.ireturn, 1) := by decide +kernel
theorem dX11_acts_99 : decode cX11_acts 99 = .ok (.aload_n 0, 1) := by decide +kernel
theorem dX11_acts_100 : decode cX11_acts 100 = .ok (.aload_n 0, 1) := by decide +kernel
theorem dX11_acts_101 : decode cX11_acts 101 = .ok (.getfield 49, 3) := by decide +kernel
theorem dX11_acts_104 : decode cX11_acts 104 = .ok (.getfield 342, 3) := by decide +kernel
theorem dX11_acts_107 : decode cX11_acts 107 = .ok (.iload_n 3, 1) := by decide +kernel
theorem dX11_acts_108 : decode cX11_acts 108 = .ok (.iaload, 1) := by decide +kernel
theorem dX11_acts_109 : decode cX11_acts 109 = .ok (.aload_n 0, 1) := by decide +kernel
theorem dX11_acts_110 : decode cX11_acts 110 = .ok (.getfield 12, 3) := by decide +kernel
theorem dX11_acts_113 : decode cX11_acts 113 = .ok (.getfield 145, 3) := by decide +kernel
theorem dX11_acts_116 : decode cX11_acts 116 = .ok (.aload_n 0, 1) := by decide +kernel
theorem dX11_acts_117 : decode cX11_acts 117 = .ok (.getfield 49, 3) := by decide +kernel
theorem dX11_acts_120 : decode cX11_acts 120 = .ok (.getfield 345, 3) := by decide +kernel
theorem dX11_acts_123 : decode cX11_acts 123 = .ok (.iload_n 3, 1) := by decide +kernel
theorem dX11_acts_124 : decode cX11_acts 124 = .ok (.iaload, 1) := by decide +kernel
theorem dX11_acts_125 : decode cX11_acts 125 = .ok (.aaload, 1) := by decide +kernel
theorem dX11_acts_126 : decode cX11_acts 126 = .ok (.aload_n 0, 1) := by decide +kernel
theorem dX11_acts_127 : decode cX11_acts 127 = .ok (.getfield 49, 3) := by decide +kernel
theorem dX11_acts_130 : decode cX11_acts 130 = .ok (.getfield 348, 3) := by decide +kernel
theorem dX11_acts_133 : decode cX11_acts 133 = .ok (.iload_n 3, 1) := by decide +kernel
theorem dX11_acts_134 : decode cX11_acts 134 = .ok (.iaload, 1) := by decide +kernel
theorem dX11_acts_135 : decode cX11_acts 135 = .ok (.invokevirtual 355, 3) := by decide +kernel
theorem dX11_acts_138 : decode cX11_acts 138 = .ok (.iinc 3 1, 3) := by decide +kernel
theorem dX11_acts_141 : decode cX11_acts 141 = .ok (.goto (-101), 3) := by decide +kernel
theorem dX11_acts_144 : decode cX11_acts 144 = .ok (.aload_n 0, 1) := by decide +kernel
theorem dX11_acts_145 : decode cX11_acts 145 = .ok (.getfield 35, 3) := by decide +kernel
theorem dX11_acts_148 : decode cX11_acts 148 = .ok (.invokevirtual 142, 3) := by decide +kernel
theorem dX11_acts_151 : decode cX11_acts 151 = .ok (.aload_n 0, 1) := by decide +kernel
theorem dX11_acts_152 : decode cX11_acts 152 = .ok (.getfield 49, 3) := by decide +kernel
theorem dX11_acts_155 : decode cX11_acts 155 = .ok (.getfield 341, 3) := by decide +kernel
theorem dX11_acts_158 : decode cX11_acts 158 = .ok (.ireturn, 1) := by decide +kernel
set_option maxHeartbeats 4000000 in
set_option maxRecDepth 100000 in
theorem cn_X11_acts {l : Launch} {cA : Nat → ClassId} {ad : Nat → Nat} {D : va_G} {E : Nat → Nat} {A : Nat → Prop}  {s0 sr : SS} {rr : Int32} (hf : f_X11_acts s0 = some (rr, sr)) : zCon Ox Nx cA ad D E l yX11_acts cX11_acts 4 (some .int) 7 A [.ref (ad 0)] s0 (some (.int rr)) sr := by
  refine zstart (own := RX11) hOx (by decide) rfl (Nat.le_of_ble_eq_true rfl) ?_
  intro p e s m args below meth c X hP ls hl
  have hx := X.1
  have hb := X.2.1
  have hl : lv_has ls 4 [(0, .ref (ad 0))] := hl
  have hS : va_S A s.heap s.heap [] := va_S.rf
  have hc_40 : ∀ (n40 : Nat) (x2 : Int32) (x3 : Int32) (s1 : SS) (H : Heap) (locs : List Loc) (ls : Array Slot), lv_has ls 4 [(0, .ref (ad 0)), (2, .int x2), (3, .int x3)] → va_P D ZCL (zw Ox Nx cA ad s1) H → va_S A s.heap H locs → f_X11_acts_c40 n40 x2 x3 s1 = some (rr, sr) → W p l e (zrm 7) s m args below meth c H locs 0 0 (MQ below (zQc Ox Nx cA ad D A (some (.int rr)) sr) args s 0 0 A) (F0 m 40 ls []) := by
    intro n40
    induction n40 with
    | zero =>
      intro x2 x3 s1 H locs ls hl hP hS hf
      rw [f_X11_acts_c40] at hf
      cases hf
    | succ n40 ih40 =>
      intro x2 x3 s1 H locs ls hl hP hS hf
      rw [f_X11_acts_c40] at hf
      refine lv_iload_n hx hb dX11_acts_40 rfl (lv_at hl 2 rfl) ?_
      refine lv_aload_n hx hb dX11_acts_41 rfl (lv_at hl 0 rfl) ?_
      refine gf_X11_49 X hP (k := 0) (q := 9) rfl dX11_acts_42 rfl ?_
      refine gf_X11_341 X hP (k := 9) rfl dX11_acts_45 ?_
      refine zicmp_ge (tgt := 144) hx hb dX11_acts_48 (by decide) hf (fun hf => ?_) (fun hf => ?_)
      · refine lv_aload_n hx hb dX11_acts_144 rfl (lv_at hl 0 rfl) ?_
        refine gf_X11_35 X hP (k := 0) (q := 7) rfl dX11_acts_145 rfl ?_
        obtain ⟨r4, s5, h6, hf⟩ := zbd_some hf
        refine zcallV X hP hS hl.1 (k := 7) (As := []) (rest := []) (cn_X1_forget h6) cw_X1_forget zp_1 rfl (by decide) rfl ml_X11_142 (by decide) rfl rfl (Nat.le_of_ble_eq_true rfl) dX11_acts_148 (fun H locs hP hS => ?_)
        refine lv_aload_n hx hb dX11_acts_151 rfl (lv_at hl 0 rfl) ?_
        refine gf_X11_49 X hP (k := 0) (q := 9) rfl dX11_acts_152 rfl ?_
        refine gf_X11_341 X hP (k := 9) rfl dX11_acts_155 ?_
        exact zret_i X hP hS hf rfl dX11_acts_158
      · refine lv_aload_n hx hb dX11_acts_51 rfl (lv_at hl 0 rfl) ?_
        refine lv_aload_n hx hb dX11_acts_52 rfl (lv_at hl 0 rfl) ?_
        refine gf_X11_49 X hP (k := 0) (q := 9) rfl dX11_acts_53 rfl ?_
        refine gf_X11_342 X hP (k := 9) (q := 74) rfl dX11_acts_56 rfl ?_
        refine lv_iload_n hx hb dX11_acts_59 rfl (lv_at hl 2 rfl) ?_
        obtain ⟨g7, hf⟩ := zgd hf
        refine zald_i X hP (k := 74) (n := 12) (rs := []) rfl g7 dX11_acts_60 ?_
        refine lv_aload_n hx hb dX11_acts_61 rfl (lv_at hl 0 rfl) ?_
        refine gf_X11_49 X hP (k := 0) (q := 9) rfl dX11_acts_62 rfl ?_
        refine gf_X11_345 X hP (k := 9) (q := 75) rfl dX11_acts_65 rfl ?_
        refine lv_iload_n hx hb dX11_acts_68 rfl (lv_at hl 2 rfl) ?_
        obtain ⟨g8, hf⟩ := zgd hf
        refine zald_i X hP (k := 75) (n := 12) (rs := []) rfl g8 dX11_acts_69 ?_
        refine lv_aload_n hx hb dX11_acts_70 rfl (lv_at hl 0 rfl) ?_
        refine gf_X11_49 X hP (k := 0) (q := 9) rfl dX11_acts_71 rfl ?_
        refine gf_X11_348 X hP (k := 9) (q := 76) rfl dX11_acts_74 rfl ?_
        refine lv_iload_n hx hb dX11_acts_77 rfl (lv_at hl 2 rfl) ?_
        obtain ⟨g9, hf⟩ := zgd hf
        refine zald_i X hP (k := 76) (n := 12) (rs := []) rfl g9 dX11_acts_78 ?_
        obtain ⟨r10, s11, h12, hf⟩ := zbd_some hf
        refine zcallV X hP hS hl.1 (k := 0) (As := [.int (s1.1 74 (x3).toNatClampNeg), .int (s1.1 75 (x3).toNatClampNeg), .int (s1.1 76 (x3).toNatClampNeg)]) (rest := []) (cn_X11_canDo h12) cw_X11_canDo zp_11 rfl (by decide) rfl ml_X11_351 (by decide) rfl rfl (Nat.le_of_ble_eq_true rfl) dX11_acts_79 (fun H locs hP hS => ?_)
        refine zif_ne (tgt := 99) hx hb dX11_acts_82 (by decide) hf (fun hf => ?_) (fun hf => ?_)
        · refine lv_aload_n hx hb dX11_acts_99 rfl (lv_at hl 0 rfl) ?_
          refine lv_aload_n hx hb dX11_acts_100 rfl (lv_at hl 0 rfl) ?_
          refine gf_X11_49 X hP (k := 0) (q := 9) rfl dX11_acts_101 rfl ?_
          refine gf_X11_342 X hP (k := 9) (q := 74) rfl dX11_acts_104 rfl ?_
          refine lv_iload_n hx hb dX11_acts_107 rfl (lv_at hl 2 rfl) ?_
          obtain ⟨g13, hf⟩ := zgd hf
          refine zald_i X hP (k := 74) (n := 12) (rs := []) rfl g13 dX11_acts_108 ?_
          refine lv_aload_n hx hb dX11_acts_109 rfl (lv_at hl 0 rfl) ?_
          refine gf_X11_12 X hP (k := 0) (q := 1) rfl dX11_acts_110 rfl ?_
          refine gf_X11_145 X hP (k := 1) (q := 13) rfl dX11_acts_113 rfl ?_
          refine lv_aload_n hx hb dX11_acts_116 rfl (lv_at hl 0 rfl) ?_
          refine gf_X11_49 X hP (k := 0) (q := 9) rfl dX11_acts_117 rfl ?_
          refine gf_X11_345 X hP (k := 9) (q := 75) rfl dX11_acts_120 rfl ?_
          refine lv_iload_n hx hb dX11_acts_123 rfl (lv_at hl 2 rfl) ?_
          obtain ⟨g14, hf⟩ := zgd hf
          refine zald_i X hP (k := 75) (n := 12) (rs := []) rfl g14 dX11_acts_124 ?_
          obtain ⟨g15, hf⟩ := zgd hf
          obtain ⟨g17, hf⟩ := zgd hf
          obtain ⟨n16, rn16, on16, in16⟩ := zok_of g15
          refine zald_q X hP zlr_x (k := 13) on16 in16 dX11_acts_125 rfl ?_
          refine lv_aload_n hx hb dX11_acts_126 rfl (lv_at hl 0 rfl) ?_
          refine gf_X11_49 X hP (k := 0) (q := 9) rfl dX11_acts_127 rfl ?_
          refine gf_X11_348 X hP (k := 9) (q := 76) rfl dX11_acts_130 rfl ?_
          refine lv_iload_n hx hb dX11_acts_133 rfl (lv_at hl 2 rfl) ?_
          obtain ⟨g18, hf⟩ := zgd hf
          refine zald_i X hP (k := 76) (n := 12) (rs := []) rfl g18 dX11_acts_134 ?_
          obtain ⟨r19, s20, h21, hf⟩ := zbd_some hf
          refine zcallV X hP hS hl.1 (k := 0) (As := [.int (s11.1 74 (x3).toNatClampNeg), .ref (ad (zrr Ox 13 (s11.1 75 (x3).toNatClampNeg))), .int (s11.1 76 (x3).toNatClampNeg)]) (rest := []) (cn_X11_doOne h21) cw_X11_doOne zp_11 rfl (by decide) rfl ml_X11_355 (by decide) rfl rfl (Nat.le_of_ble_eq_true rfl) dX11_acts_135 (fun H locs hP hS => ?_)
          refine lv_iinc (v := (x3 + 1)) (lv' := [(3, .int (x3 + 1)), (0, .ref (ad 0)), (2, .int x2)]) hx hb dX11_acts_138 hl (k := 2) rfl rfl (by decide) rfl (fun ls hl => ?_)
          refine lv_goto (tgt := 40) hx hb dX11_acts_141 (by decide) ?_
          exact ih40 x2 (x3 + 1) s20 _ _ _ (lv_sub hl [1, 2, 0] rfl) hP hS hf
        · refine lv_aload_n hx hb dX11_acts_85 rfl (lv_at hl 0 rfl) ?_
          refine gf_X11_12 X hP (k := 0) (q := 1) rfl dX11_acts_86 rfl ?_
          refine lv_iload_n hx hb dX11_acts_89 rfl (lv_at hl 1 rfl) ?_
          refine pf_X11_141 X hP hS (k := 1) rfl dX11_acts_90 (fun H locs hP hS => ?_)
          refine lv_sipush (v := (-200)) hx hb dX11_acts_93 (by decide) ?_
          refine lv_iload_n hx hb dX11_acts_96 rfl (lv_at hl 2 rfl) ?_
          refine lv_isub hx hb dX11_acts_97 ?_
          exact zret_i X hP hS hf rfl dX11_acts_98
  rw [f_X11_acts] at hf
  refine lv_aload_n hx hb dX11_acts_0 rfl (lv_at hl 0 rfl) ?_
  refine gf_X11_49 X hP (k := 0) (q := 9) rfl dX11_acts_1 rfl ?_
  refine lv_aload_n hx hb dX11_acts_4 rfl (lv_at hl 0 rfl) ?_
  refine gf_X11_42 X hP (k := 0) (q := 8) rfl dX11_acts_5 rfl ?_
  obtain ⟨r1, s2, h3, hf⟩ := zbd_some hf
  refine zcallV X hP hS hl.1 (k := 9) (As := [.ref (ad 8)]) (rest := []) (cn_X2_readFrom h3) cw_X2_readFrom zp_2 rfl (by decide) rfl ml_X11_337 (by decide) rfl rfl (Nat.le_of_ble_eq_true rfl) dX11_acts_8 (fun H locs hP hS => ?_)
  refine lv_istore_n (lv' := [(1, .int r1), (0, .ref (ad 0))]) hx hb dX11_acts_11 rfl hl (by decide) rfl (fun ls hl => ?_)
  refine lv_aload_n hx hb dX11_acts_12 rfl (lv_at hl 1 rfl) ?_
  refine gf_X11_42 X hP (k := 0) (q := 8) rfl dX11_acts_13 rfl ?_
  refine lv_iconst (v := 0) hx hb dX11_acts_16 (by decide) ?_
  refine pf_X11_330 X hP hS (k := 8) rfl dX11_acts_17 (fun H locs hP hS => ?_)
  refine lv_iload_n hx hb dX11_acts_20 rfl (lv_at hl 0 rfl) ?_
  refine lv_iconst (v := (-1)) hx hb dX11_acts_21 (by decide) ?_
  refine zicmp_eq (tgt := 30) hx hb dX11_acts_22 (by decide) hf (fun hf => ?_) (fun hf => ?_)
  · refine lv_aload_n hx hb dX11_acts_30 rfl (lv_at hl 1 rfl) ?_
    refine gf_X11_12 X hP (k := 0) (q := 1) rfl dX11_acts_31 rfl ?_
    refine gf_X11_141 X hP (k := 1) rfl dX11_acts_34 ?_
    refine lv_istore_n (lv' := [(2, .int ((zS s2 8 1 0).1 1 2)), (1, .int r1), (0, .ref (ad 0))]) hx hb dX11_acts_37 rfl hl (by decide) rfl (fun ls hl => ?_)
    refine lv_iconst (v := 0) hx hb dX11_acts_38 (by decide) ?_
    refine lv_istore_n (lv' := [(3, .int 0), (2, .int ((zS s2 8 1 0).1 1 2)), (1, .int r1), (0, .ref (ad 0))]) hx hb dX11_acts_39 rfl hl (by decide) rfl (fun ls hl => ?_)
    exact hc_40 ZF ((zS s2 8 1 0).1 1 2) 0 (zS s2 8 1 0) _ _ _ (lv_sub hl [3, 1, 0] rfl) hP hS hf
  · refine lv_bipush (v := (-100)) hx hb dX11_acts_25 (by decide) ?_
    refine lv_iload_n hx hb dX11_acts_27 rfl (lv_at hl 0 rfl) ?_
    refine lv_isub hx hb dX11_acts_28 ?_
    exact zret_i X hP hS hf rfl dX11_acts_29
theorem dX11_write_0 : decode cX11_write 0 = .ok (.aload_n 0, 1) := by decide +kernel
theorem dX11_write_1 : decode cX11_write 1 = .ok (.getfield 12, 3) := by decide +kernel
theorem dX11_write_4 : decode cX11_write 4 = .ok (.iload_n 1, 1) := by decide +kernel
theorem dX11_write_5 : decode cX11_write 5 = .ok (.i2l, 1) := by decide +kernel
theorem dX11_write_6 : decode cX11_write 6 = .ok (.invokevirtual 155, 3) := by decide +kernel
theorem dX11_write_9 : decode cX11_write 9 = .ok (.astore_n 2, 1) := by decide +kernel
theorem dX11_write_10 : decode cX11_write 10 = .ok (.aload_n 2, 1) := by decide +kernel
theorem dX11_write_11 : decode cX11_write 11 = .ok (.ifnonnull 5, 3) := by decide +kernel
theorem dX11_write_14 : decode cX11_write 14 = .ok (.iconst (-1), 1) := by decide +kernel
theorem dX11_write_15 : decode cX11_write 15 = .ok (.ireturn, 1) := by decide +kernel
theorem dX11_write_16 : decode cX11_write 16 = .ok (.aload_n 0, 1) := by decide +kernel
theorem dX11_write_17 : decode cX11_write 17 = .ok (.getfield 28, 3) := by decide +kernel
theorem dX11_write_20 : decode cX11_write 20 = .ok (.aload_n 2, 1) := by decide +kernel
theorem dX11_write_21 : decode cX11_write 21 = .ok (.aload_n 0, 1) := by decide +kernel
theorem dX11_write_22 : decode cX11_write 22 = .ok (.getfield 28, 3) := by decide +kernel
theorem dX11_write_25 : decode cX11_write 25 = .ok (.getfield 188, 3) := by decide +kernel
theorem dX11_write_28 : decode cX11_write 28 = .ok (.invokevirtual 208, 3) := by decide +kernel
theorem dX11_write_31 : decode cX11_write 31 = .ok (.aload_n 0, 1) := by decide +kernel
theorem dX11_write_32 : decode cX11_write 32 = .ok (.getfield 56, 3) := by decide +kernel
theorem dX11_write_35 : decode cX11_write 35 = .ok (.iconst 0, 1) := by decide +kernel
theorem dX11_write_36 : decode cX11_write 36 = .ok (.putfield 363, 3) := by decide +kernel
theorem dX11_write_39 : decode cX11_write 39 = .ok (.iconst 0, 1) := by decide +kernel
theorem dX11_write_40 : decode cX11_write 40 = .ok (.istore_n 3, 1) := by decide +kernel
theorem dX11_write_41 : decode cX11_write 41 = .ok (.iload_n 3, 1) := by decide +kernel
theorem dX11_write_42 : decode cX11_write 42 = .ok (.aload_n 0, 1) := by decide +kernel
theorem dX11_write_43 : decode cX11_write 43 = .ok (.getfield 28, 3) := by decide +kernel
theorem dX11_write_46 : decode cX11_write 46 = .ok (.getfield 84, 3) := by decide +kernel
theorem dX11_write_49 : decode cX11_write 49 = .ok (.getfield 125, 3) := by decide +kernel
theorem dX11_write_52 : decode cX11_write 52 = .ok (.if_icmp .ge 58, 3) := by decide +kernel
theorem dX11_write_55 : decode cX11_write 55 = .ok (.aload_n 0, 1) := by decide +kernel
theorem dX11_write_56 : decode cX11_write 56 = .ok (.getfield 28, 3) := by decide +kernel
theorem dX11_write_59 : decode cX11_write 59 = .ok (.getfield 188, 3) := by decide +kernel
theorem dX11_write_62 : decode cX11_write 62 = .ok (.iload_n 3, 1) := by decide +kernel
theorem dX11_write_63 : decode cX11_write 63 = .ok (.laload, 1) := by decide +kernel
theorem dX11_write_64 : decode cX11_write 64 = .ok (.lconst 0, 1) := by decide +kernel
theorem dX11_write_65 : decode cX11_write 65 = .ok (.lcmp, 1) := by decide +kernel
theorem dX11_write_66 : decode cX11_write 66 = .ok (.ifCond .eq 38, 3) := by decide +kernel
theorem dX11_write_69 : decode cX11_write 69 = .ok (.aload_n 0, 1) := by decide +kernel
theorem dX11_write_70 : decode cX11_write 70 = .ok (.getfield 56, 3) := by decide +kernel
theorem dX11_write_73 : decode cX11_write 73 = .ok (.aload_n 0, 1) := by decide +kernel
theorem dX11_write_74 : decode cX11_write 74 = .ok (.getfield 12, 3) := by decide +kernel
theorem dX11_write_77 : decode cX11_write 77 = .ok (.getfield 74, 3) := by decide +kernel
theorem dX11_write_80 : decode cX11_write 80 = .ok (.aload_n 0, 1) := by decide +kernel
theorem dX11_write_81 : decode cX11_write 81 = .ok (.getfield 28, 3) := by decide +kernel
theorem dX11_write_84 : decode cX11_write 84 = .ok (.getfield 84, 3) := by decide +kernel
theorem dX11_write_87 : decode cX11_write 87 = .ok (.getfield 138, 3) := by decide +kernel
theorem dX11_write_90 : decode cX11_write 90 = .ok (.iload_n 3, 1) := by decide +kernel
theorem dX11_write_91 : decode cX11_write 91 = .ok (.iaload, 1) := by decide +kernel
theorem dX11_write_92 : decode cX11_write 92 = .ok (.aload_n 0, 1) := by decide +kernel
theorem dX11_write_93 : decode cX11_write 93 = .ok (.getfield 28, 3) := by decide +kernel
theorem dX11_write_96 : decode cX11_write 96 = .ok (.getfield 188, 3) := by decide +kernel
theorem dX11_write_99 : decode cX11_write 99 = .ok (.iload_n 3, 1) := by decide +kernel
theorem dX11_write_100 : decode cX11_write 100 = .ok (.laload, 1) := by decide +kernel
theorem dX11_write_101 : decode cX11_write 101 = .ok (.invokevirtual 364, 3) := by decide +kernel
theorem dX11_write_104 : decode cX11_write 104 = .ok (.iinc 3 1, 3) := by decide +kernel
theorem dX11_write_107 : decode cX11_write 107 = .ok (.goto (-66), 3) := by decide +kernel
theorem dX11_write_110 : decode cX11_write 110 = .ok (.aload_n 0, 1) := by decide +kernel
theorem dX11_write_111 : decode cX11_write 111 = .ok (.getfield 56, 3) := by decide +kernel
theorem dX11_write_114 : decode cX11_write 114 = .ok (.getfield 363, 3) := by decide +kernel
theorem dX11_write_117 : decode cX11_write 117 = .ok (.ifCond .ne 12, 3) := by decide +kernel
theorem dX11_write_120 : decode cX11_write 120 = .ok (.aload_n 0, 1) := by decide +kernel
theorem dX11_write_121 : decode cX11_write 121 = .ok (.getfield 56, 3) := by decide +kernel
theorem dX11_write_124 : decode cX11_write 124 = .ok (.bipush 48, 2) := by decide +kernel
theorem dX11_write_126 : decode cX11_write 126 = .ok (.invokevirtual 368, 3) := by decide +kernel
theorem dX11_write_129 : decode cX11_write 129 = .ok (.aload_n 0, 1) := by decide +kernel
theorem dX11_write_130 : decode cX11_write 130 = .ok (.getfield 56, 3) := by decide +kernel
theorem dX11_write_133 : decode cX11_write 133 = .ok (.getfield 363, 3) := by decide +kernel
theorem dX11_write_136 : decode cX11_write 136 = .ok (.ireturn, 1) := by decide +kernel
set_option maxHeartbeats 4000000 in
set_option maxRecDepth 100000 in
theorem cn_X11_write {l : Launch} {cA : Nat → ClassId} {ad : Nat → Nat} {D : va_G} {E : Nat → Nat} {A : Nat → Prop} {x1 : Int32} {s0 sr : SS} {rr : Int32} (hf : f_X11_write x1 s0 = some (rr, sr)) : zCon Ox Nx cA ad D E l yX11_write cX11_write 4 (some .int) 3 A [.ref (ad 0), .int x1] s0 (some (.int rr)) sr := by
  refine zstart (own := RX11) hOx (by decide) rfl (Nat.le_of_ble_eq_true rfl) ?_
  intro p e s m args below meth c X hP ls hl
  have hx := X.1
  have hb := X.2.1
  have hl : lv_has ls 4 [(0, .ref (ad 0)), (1, .int x1)] := hl
  have hS : va_S A s.heap s.heap [] := va_S.rf
  have hc_41 : ∀ (n41 : Nat) (x3 : Int32) (s1 : SS) (H : Heap) (locs : List Loc) (ls : Array Slot), lv_has ls 4 [(0, .ref (ad 0)), (3, .int x3)] → va_P D ZCL (zw Ox Nx cA ad s1) H → va_S A s.heap H locs → f_X11_write_c41 n41 x3 s1 = some (rr, sr) → W p l e (zrm 3) s m args below meth c H locs 0 0 (MQ below (zQc Ox Nx cA ad D A (some (.int rr)) sr) args s 0 0 A) (F0 m 41 ls []) := by
    intro n41
    induction n41 with
    | zero =>
      intro x3 s1 H locs ls hl hP hS hf
      rw [f_X11_write_c41] at hf
      cases hf
    | succ n41 ih41 =>
      have hc_104 : ∀ (x3 : Int32) (s1 : SS) (H : Heap) (locs : List Loc) (ls : Array Slot), lv_has ls 4 [(0, .ref (ad 0)), (3, .int x3)] → va_P D ZCL (zw Ox Nx cA ad s1) H → va_S A s.heap H locs → f_X11_write_c104 (f_X11_write_c41 n41) x3 s1 = some (rr, sr) → W p l e (zrm 3) s m args below meth c H locs 0 0 (MQ below (zQc Ox Nx cA ad D A (some (.int rr)) sr) args s 0 0 A) (F0 m 104 ls []) := by
        intro x3 s1 H locs ls hl hP hS hf
        rw [f_X11_write_c104] at hf
        refine lv_iinc (v := (x3 + 1)) (lv' := [(3, .int (x3 + 1)), (0, .ref (ad 0))]) hx hb dX11_write_104 hl (k := 1) rfl rfl (by decide) rfl (fun ls hl => ?_)
        refine lv_goto (tgt := 41) hx hb dX11_write_107 (by decide) ?_
        exact ih41 (x3 + 1) s1 _ _ _ (lv_sub hl [1, 0] rfl) hP hS hf
      intro x3 s1 H locs ls hl hP hS hf
      rw [f_X11_write_c41] at hf
      refine lv_iload_n hx hb dX11_write_41 rfl (lv_at hl 1 rfl) ?_
      refine lv_aload_n hx hb dX11_write_42 rfl (lv_at hl 0 rfl) ?_
      refine gf_X11_28 X hP (k := 0) (q := 5) rfl dX11_write_43 rfl ?_
      refine gf_X11_84 X hP (k := 5) (q := 6) rfl dX11_write_46 rfl ?_
      refine gf_X11_125 X hP (k := 6) rfl dX11_write_49 ?_
      refine zicmp_ge (tgt := 110) hx hb dX11_write_52 (by decide) hf (fun hf => ?_) (fun hf => ?_)
      · refine lv_aload_n hx hb dX11_write_110 rfl (lv_at hl 0 rfl) ?_
        refine gf_X11_56 X hP (k := 0) (q := 10) rfl dX11_write_111 rfl ?_
        refine gf_X11_363 X hP (k := 10) rfl dX11_write_114 ?_
        refine zif_ne (tgt := 129) hx hb dX11_write_117 (by decide) hf (fun hf => ?_) (fun hf => ?_)
        · refine lv_aload_n hx hb dX11_write_129 rfl (lv_at hl 0 rfl) ?_
          refine gf_X11_56 X hP (k := 0) (q := 10) rfl dX11_write_130 rfl ?_
          refine gf_X11_363 X hP (k := 10) rfl dX11_write_133 ?_
          exact zret_i X hP hS hf rfl dX11_write_136
        · refine lv_aload_n hx hb dX11_write_120 rfl (lv_at hl 0 rfl) ?_
          refine gf_X11_56 X hP (k := 0) (q := 10) rfl dX11_write_121 rfl ?_
          refine lv_bipush (v := 48) hx hb dX11_write_124 (by decide) ?_
          obtain ⟨r9, s10, h11, hf⟩ := zbd_some hf
          refine zcallV X hP hS hl.1 (k := 10) (As := [.int 48]) (rest := []) (cn_X6_add h11) cw_X6_add zp_6 rfl (by decide) rfl ml_X11_368 (by decide) rfl rfl (Nat.le_of_ble_eq_true rfl) dX11_write_126 (fun H locs hP hS => ?_)
          refine lv_aload_n hx hb dX11_write_129 rfl (lv_at hl 0 rfl) ?_
          refine gf_X11_56 X hP (k := 0) (q := 10) rfl dX11_write_130 rfl ?_
          refine gf_X11_363 X hP (k := 10) rfl dX11_write_133 ?_
          exact zret_i X hP hS hf rfl dX11_write_136
      · refine lv_aload_n hx hb dX11_write_55 rfl (lv_at hl 0 rfl) ?_
        refine gf_X11_28 X hP (k := 0) (q := 5) rfl dX11_write_56 rfl ?_
        refine gf_X11_188 X hP (k := 5) (q := 21) rfl dX11_write_59 rfl ?_
        refine lv_iload_n hx hb dX11_write_62 rfl (lv_at hl 1 rfl) ?_
        obtain ⟨g12, hf⟩ := zgd hf
        refine zald_l X hP (k := 21) (n := 462) (rs := []) rfl g12 dX11_write_63 ?_
        refine lv_lconst (v := 0) hx hb dX11_write_64 (by decide) ?_
        refine W.lcmp hx hb dX11_write_65 ?_
        refine zif_eq (tgt := 104) hx hb dX11_write_66 (by decide) hf (fun hf => ?_) (fun hf => ?_)
        · exact hc_104 x3 s1 _ _ _ (lv_sub hl [0, 1] rfl) hP hS hf
        · refine lv_aload_n hx hb dX11_write_69 rfl (lv_at hl 0 rfl) ?_
          refine gf_X11_56 X hP (k := 0) (q := 10) rfl dX11_write_70 rfl ?_
          refine lv_aload_n hx hb dX11_write_73 rfl (lv_at hl 0 rfl) ?_
          refine gf_X11_12 X hP (k := 0) (q := 1) rfl dX11_write_74 rfl ?_
          refine gf_X11_74 X hP (k := 1) (q := 3) rfl dX11_write_77 rfl ?_
          refine lv_aload_n hx hb dX11_write_80 rfl (lv_at hl 0 rfl) ?_
          refine gf_X11_28 X hP (k := 0) (q := 5) rfl dX11_write_81 rfl ?_
          refine gf_X11_84 X hP (k := 5) (q := 6) rfl dX11_write_84 rfl ?_
          refine gf_X11_138 X hP (k := 6) (q := 62) rfl dX11_write_87 rfl ?_
          refine lv_iload_n hx hb dX11_write_90 rfl (lv_at hl 1 rfl) ?_
          obtain ⟨g13, hf⟩ := zgd hf
          refine zald_i X hP (k := 62) (n := 462) (rs := []) rfl g13 dX11_write_91 ?_
          refine lv_aload_n hx hb dX11_write_92 rfl (lv_at hl 0 rfl) ?_
          refine gf_X11_28 X hP (k := 0) (q := 5) rfl dX11_write_93 rfl ?_
          refine gf_X11_188 X hP (k := 5) (q := 21) rfl dX11_write_96 rfl ?_
          refine lv_iload_n hx hb dX11_write_99 rfl (lv_at hl 1 rfl) ?_
          obtain ⟨g14, hf⟩ := zgd hf
          refine zald_l X hP (k := 21) (n := 462) (rs := []) rfl g14 dX11_write_100 ?_
          obtain ⟨r15, s16, h17, hf⟩ := zbd_some hf
          refine zcallV X hP hS hl.1 (k := 10) (As := [.ref (ad 3), .int (s1.1 62 (x3).toNatClampNeg), .long (s1.2 21 (x3).toNatClampNeg)]) (rest := []) (cn_X6_addMember h17) cw_X6_addMember zp_6 rfl (by decide) rfl ml_X11_364 (by decide) rfl rfl (Nat.le_of_ble_eq_true rfl) dX11_write_101 (fun H locs hP hS => ?_)
          exact hc_104 x3 s16 _ _ _ (lv_sub hl [0, 1] rfl) hP hS hf
  rw [f_X11_write] at hf
  refine lv_aload_n hx hb dX11_write_0 rfl (lv_at hl 0 rfl) ?_
  refine gf_X11_12 X hP (k := 0) (q := 1) rfl dX11_write_1 rfl ?_
  refine lv_iload_n hx hb dX11_write_4 rfl (lv_at hl 1 rfl) ?_
  refine lv_i2l hx hb dX11_write_5 rfl ?_
  obtain ⟨r1, s2, h3, hf⟩ := zbd_some hf
  refine zcallV X hP hS hl.1 (k := 1) (As := [.long (x1).toInt64]) (rest := []) (cn_X3_classAt h3) cw_X3_classAt zp_3 rfl (by decide) rfl ml_X11_155 (by decide) rfl rfl (Nat.le_of_ble_eq_true rfl) dX11_write_6 (fun H locs hP hS => ?_)
  rcases r1 with _ | k4
  · have hf := zbn_none hf
    refine lv_astore_nN (lv' := [(2, .null), (0, .ref (ad 0)), (1, .int x1)]) hx hb dX11_write_9 rfl hl (by decide) rfl (fun ls hl => ?_)
    refine lv_aload_nN hx hb dX11_write_10 rfl (lv_at hl 0 rfl) ?_
    refine lv_ifnonnullN hx hb dX11_write_11 ?_
    refine lv_iconst (v := (-1)) hx hb dX11_write_14 (by decide) ?_
    exact zret_i X hP hS hf rfl dX11_write_15
  · have hf := zbn_some hf
    obtain ⟨g5, hf⟩ := zgd hf
    refine lv_astore_n (lv' := [(2, .ref (ad k4)), (0, .ref (ad 0)), (1, .int x1)]) hx hb dX11_write_9 rfl hl (by decide) rfl (fun ls hl => ?_)
    refine lv_aload_n hx hb dX11_write_10 rfl (lv_at hl 0 rfl) ?_
    refine lv_ifnonnull (tgt := 16) hx hb dX11_write_11 (by decide) ?_
    refine lv_aload_n hx hb dX11_write_16 rfl (lv_at hl 1 rfl) ?_
    refine gf_X11_28 X hP (k := 0) (q := 5) rfl dX11_write_17 rfl ?_
    refine lv_aload_n hx hb dX11_write_20 rfl (lv_at hl 0 rfl) ?_
    refine lv_aload_n hx hb dX11_write_21 rfl (lv_at hl 1 rfl) ?_
    refine gf_X11_28 X hP (k := 0) (q := 5) rfl dX11_write_22 rfl ?_
    refine gf_X11_188 X hP (k := 5) (q := 21) rfl dX11_write_25 rfl ?_
    obtain ⟨r6, s7, h8, hf⟩ := zbd_some hf
    refine zcallV X hP hS hl.1 (k := 5) (As := [.ref (ad k4), .ref (ad 21)]) (rest := []) (cn_X8_takeNumbers h8) cw_X8_takeNumbers zp_8 rfl (by decide) rfl ml_X11_208 (by decide) rfl rfl (Nat.le_of_ble_eq_true rfl) dX11_write_28 (fun H locs hP hS => ?_)
    refine lv_aload_n hx hb dX11_write_31 rfl (lv_at hl 1 rfl) ?_
    refine gf_X11_56 X hP (k := 0) (q := 10) rfl dX11_write_32 rfl ?_
    refine lv_iconst (v := 0) hx hb dX11_write_35 (by decide) ?_
    refine pf_X11_363 X hP hS (k := 10) rfl dX11_write_36 (fun H locs hP hS => ?_)
    refine lv_iconst (v := 0) hx hb dX11_write_39 (by decide) ?_
    refine lv_istore_n (lv' := [(3, .int 0), (2, .ref (ad k4)), (0, .ref (ad 0)), (1, .int x1)]) hx hb dX11_write_40 rfl hl (by decide) rfl (fun ls hl => ?_)
    exact hc_41 ZF 0 (zS s7 10 1 0) _ _ _ (lv_sub hl [2, 0] rfl) hP hS hf
theorem dX11_paper_0 : decode cX11_paper 0 = .ok (.iload_n 1, 1) := by decide +kernel
theorem dX11_paper_1 : decode cX11_paper 1 = .ok (.ifCond .lt 14, 3) := by decide +kernel
theorem dX11_paper_4 : decode cX11_paper 4 = .ok (.iload_n 1, 1) := by decide +kernel
theorem dX11_paper_5 : decode cX11_paper 5 = .ok (.aload_n 0, 1) := by decide +kernel
theorem dX11_paper_6 : decode cX11_paper 6 = .ok (.getfield 56, 3) := by decide +kernel
theorem dX11_paper_9 : decode cX11_paper 9 = .ok (.invokevirtual 371, 3) := by decide +kernel
theorem dX11_paper_12 : decode cX11_paper 12 = .ok (.if_icmp .lt 8, 3) := by decide +kernel
theorem dX11_paper_15 : decode cX11_paper 15 = .ok (.bipush (-2), 2) := by decide +kernel
theorem dX11_paper_17 : decode cX11_paper 17 = .ok (.goto 12, 3) := by decide +kernel
theorem dX11_paper_20 : decode cX11_paper 20 = .ok (.aload_n 0, 1) := by decide +kernel
theorem dX11_paper_21 : decode cX11_paper 21 = .ok (.getfield 56, 3) := by decide +kernel
theorem dX11_paper_24 : decode cX11_paper 24 = .ok (.getfield 373, 3) := by decide +kernel
theorem dX11_paper_27 : decode cX11_paper 27 = .ok (.iload_n 1, 1) := by decide +kernel
theorem dX11_paper_28 : decode cX11_paper 28 = .ok (.caload, 1) := by decide +kernel
theorem dX11_paper_29 : decode cX11_paper 29 = .ok (.ireturn, 1) := by decide +kernel
set_option maxHeartbeats 4000000 in
set_option maxRecDepth 100000 in
theorem cn_X11_paper {l : Launch} {cA : Nat → ClassId} {ad : Nat → Nat} {D : va_G} {E : Nat → Nat} {A : Nat → Prop} {x1 : Int32} {s0 sr : SS} {rr : Int32} (hf : f_X11_paper x1 s0 = some (rr, sr)) : zCon Ox Nx cA ad D E l yX11_paper cX11_paper 2 (some .int) 2 A [.ref (ad 0), .int x1] s0 (some (.int rr)) sr := by
  refine zstart (own := RX11) hOx (by decide) rfl (Nat.le_of_ble_eq_true rfl) ?_
  intro p e s m args below meth c X hP ls hl
  have hx := X.1
  have hb := X.2.1
  have hl : lv_has ls 2 [(0, .ref (ad 0)), (1, .int x1)] := hl
  have hS : va_S A s.heap s.heap [] := va_S.rf
  rw [f_X11_paper] at hf
  refine lv_iload_n hx hb dX11_paper_0 rfl (lv_at hl 1 rfl) ?_
  refine zif_lt (tgt := 15) hx hb dX11_paper_1 (by decide) hf (fun hf => ?_) (fun hf => ?_)
  · refine lv_bipush (v := (-2)) hx hb dX11_paper_15 (by decide) ?_
    refine lv_goto (tgt := 29) hx hb dX11_paper_17 (by decide) ?_
    exact zret_i X hP hS hf rfl dX11_paper_29
  · refine lv_iload_n hx hb dX11_paper_4 rfl (lv_at hl 1 rfl) ?_
    refine lv_aload_n hx hb dX11_paper_5 rfl (lv_at hl 0 rfl) ?_
    refine gf_X11_56 X hP (k := 0) (q := 10) rfl dX11_paper_6 rfl ?_
    obtain ⟨r1, s2, h3, hf⟩ := zbd_some hf
    refine zcallV X hP hS hl.1 (k := 10) (As := []) (rest := [.int x1]) (cn_X6_kept h3) cw_X6_kept zp_6 rfl (by decide) rfl ml_X11_371 (by decide) rfl rfl (Nat.le_of_ble_eq_true rfl) dX11_paper_9 (fun H locs hP hS => ?_)
    refine zicmp_lt (tgt := 20) hx hb dX11_paper_12 (by decide) hf (fun hf => ?_) (fun hf => ?_)
    · refine lv_aload_n hx hb dX11_paper_20 rfl (lv_at hl 0 rfl) ?_
      refine gf_X11_56 X hP (k := 0) (q := 10) rfl dX11_paper_21 rfl ?_
      refine gf_X11_373 X hP (k := 10) (q := 80) rfl dX11_paper_24 rfl ?_
      refine lv_iload_n hx hb dX11_paper_27 rfl (lv_at hl 1 rfl) ?_
      obtain ⟨g4, hf⟩ := zgd hf
      refine zald_c X hP (k := 80) (n := 200) (rs := []) rfl g4 dX11_paper_28 ?_
      exact zret_i X hP hS hf rfl dX11_paper_29
    · refine lv_bipush (v := (-2)) hx hb dX11_paper_15 (by decide) ?_
      refine lv_goto (tgt := 29) hx hb dX11_paper_17 (by decide) ?_
      exact zret_i X hP hS hf rfl dX11_paper_29
theorem dX11_list_0 : decode cX11_list 0 = .ok (.aload_n 0, 1) := by decide +kernel
theorem dX11_list_1 : decode cX11_list 1 = .ok (.getfield 63, 3) := by decide +kernel
theorem dX11_list_4 : decode cX11_list 4 = .ok (.iload_n 1, 1) := by decide +kernel
theorem dX11_list_5 : decode cX11_list 5 = .ok (.invokevirtual 320, 3) := by decide +kernel
theorem dX11_list_8 : decode cX11_list 8 = .ok (.ifCond .eq 13, 3) := by decide +kernel
theorem dX11_list_11 : decode cX11_list 11 = .ok (.iload_n 2, 1) := by decide +kernel
theorem dX11_list_12 : decode cX11_list 12 = .ok (.iconst (-1), 1) := by decide +kernel
theorem dX11_list_13 : decode cX11_list 13 = .ok (.if_icmp .lt 8, 3) := by decide +kernel
theorem dX11_list_16 : decode cX11_list 16 = .ok (.iload_n 2, 1) := by decide +kernel
theorem dX11_list_17 : decode cX11_list 17 = .ok (.iconst 1, 1) := by decide +kernel
theorem dX11_list_18 : decode cX11_list 18 = .ok (.if_icmp .le 5, 3) := by decide +kernel
theorem dX11_list_21 : decode cX11_list 21 = .ok (.iconst (-1), 1) := by decide +kernel
theorem dX11_list_22 : decode cX11_list 22 = .ok (.ireturn, 1) := by decide +kernel
theorem dX11_list_23 : decode cX11_list 23 = .ok (.iload_n 2, 1) := by decide +kernel
theorem dX11_list_24 : decode cX11_list 24 = .ok (.iconst (-1), 1) := by decide +kernel
theorem dX11_list_25 : decode cX11_list 25 = .ok (.if_icmp .eq 11, 3) := by decide +kernel
theorem dX11_list_28 : decode cX11_list 28 = .ok (.iload_n 3, 1) := by decide +kernel
theorem dX11_list_29 : decode cX11_list 29 = .ok (.bipush 20, 2) := by decide +kernel
theorem dX11_list_31 : decode cX11_list 31 = .ok (.if_icmp .le 5, 3) := by decide +kernel
theorem dX11_list_34 : decode cX11_list 34 = .ok (.iconst (-1), 1) := by decide +kernel
theorem dX11_list_35 : decode cX11_list 35 = .ok (.ireturn, 1) := by decide +kernel
theorem dX11_list_36 : decode cX11_list 36 = .ok (.iload_n 2, 1) := by decide +kernel
theorem dX11_list_37 : decode cX11_list 37 = .ok (.iconst (-1), 1) := by decide +kernel
theorem dX11_list_38 : decode cX11_list 38 = .ok (.if_icmp .eq 10, 3) := by decide +kernel
theorem dX11_list_41 : decode cX11_list 41 = .ok (.iload_n 3, 1) := by decide +kernel
theorem dX11_list_42 : decode cX11_list 42 = .ok (.ifCond .ge 6, 3) := by decide +kernel
theorem dX11_list_45 : decode cX11_list 45 = .ok (.bipush (-14), 2) := by decide +kernel
theorem dX11_list_47 : decode cX11_list 47 = .ok (.ireturn, 1) := by decide +kernel
theorem dX11_list_48 : decode cX11_list 48 = .ok (.aload_n 0, 1) := by decide +kernel
theorem dX11_list_49 : decode cX11_list 49 = .ok (.getfield 63, 3) := by decide +kernel
theorem dX11_list_52 : decode cX11_list 52 = .ok (.iload_n 1, 1) := by decide +kernel
theorem dX11_list_53 : decode cX11_list 53 = .ok (.iload_n 2, 1) := by decide +kernel
theorem dX11_list_54 : decode cX11_list 54 = .ok (.iload_n 2, 1) := by decide +kernel
theorem dX11_list_55 : decode cX11_list 55 = .ok (.iconst (-1), 1) := by decide +kernel
theorem dX11_list_56 : decode cX11_list 56 = .ok (.if_icmp .ne 7, 3) := by decide +kernel
theorem dX11_list_59 : decode cX11_list 59 = .ok (.iconst 0, 1) := by decide +kernel
theorem dX11_list_60 : decode cX11_list 60 = .ok (.goto 4, 3) := by decide +kernel
theorem dX11_list_63 : decode cX11_list 63 = .ok (.iload_n 3, 1) := by decide +kernel
theorem dX11_list_64 : decode cX11_list 64 = .ok (.invokevirtual 377, 3) := by decide +kernel
theorem dX11_list_67 : decode cX11_list 67 = .ok (.iconst 1, 1) := by decide +kernel
theorem dX11_list_68 : decode cX11_list 68 = .ok (.ireturn, 1) := by decide +kernel
set_option maxHeartbeats 4000000 in
set_option maxRecDepth 100000 in
theorem cn_X11_list {l : Launch} {cA : Nat → ClassId} {ad : Nat → Nat} {D : va_G} {E : Nat → Nat} {A : Nat → Prop} {x1 : Int32} {x2 : Int32} {x3 : Int32} {s0 sr : SS} {rr : Int32} (hf : f_X11_list x1 x2 x3 s0 = some (rr, sr)) : zCon Ox Nx cA ad D E l yX11_list cX11_list 4 (some .int) 2 A [.ref (ad 0), .int x1, .int x2, .int x3] s0 (some (.int rr)) sr := by
  refine zstart (own := RX11) hOx (by decide) rfl (Nat.le_of_ble_eq_true rfl) ?_
  intro p e s m args below meth c X hP ls hl
  have hx := X.1
  have hb := X.2.1
  have hl : lv_has ls 4 [(0, .ref (ad 0)), (1, .int x1), (2, .int x2), (3, .int x3)] := hl
  have hS : va_S A s.heap s.heap [] := va_S.rf
  have hc_64 : ∀ (t0 : Int32) (t1 : Int32) (t2 : Int32) (s1 : SS) (H : Heap) (locs : List Loc) (ls : Array Slot), lv_has ls 4 [] → va_P D ZCL (zw Ox Nx cA ad s1) H → va_S A s.heap H locs → f_X11_list_c64 t0 t1 t2 s1 = some (rr, sr) → W p l e (zrm 2) s m args below meth c H locs 0 0 (MQ below (zQc Ox Nx cA ad D A (some (.int rr)) sr) args s 0 0 A) (F0 m 64 ls [.int t0, .int t1, .int t2, .ref (ad 11)]) := by
    intro t0 t1 t2 s1 H locs ls hl hP hS hf
    rw [f_X11_list_c64] at hf
    obtain ⟨r4, s5, h6, hf⟩ := zbd_some hf
    refine zcallV X hP hS hl.1 (k := 11) (As := [.int t2, .int t1, .int t0]) (rest := []) (cn_X5_become h6) cw_X5_become zp_5 rfl (by decide) rfl ml_X11_377 (by decide) rfl rfl (Nat.le_of_ble_eq_true rfl) dX11_list_64 (fun H locs hP hS => ?_)
    refine lv_iconst (v := 1) hx hb dX11_list_67 (by decide) ?_
    exact zret_i X hP hS hf rfl dX11_list_68
  have hc_48 : ∀ (x1 : Int32) (x2 : Int32) (x3 : Int32) (s1 : SS) (H : Heap) (locs : List Loc) (ls : Array Slot), lv_has ls 4 [(0, .ref (ad 0)), (1, .int x1), (2, .int x2), (3, .int x3)] → va_P D ZCL (zw Ox Nx cA ad s1) H → va_S A s.heap H locs → f_X11_list_c48 x1 x2 x3 s1 = some (rr, sr) → W p l e (zrm 2) s m args below meth c H locs 0 0 (MQ below (zQc Ox Nx cA ad D A (some (.int rr)) sr) args s 0 0 A) (F0 m 48 ls []) := by
    intro x1 x2 x3 s1 H locs ls hl hP hS hf
    rw [f_X11_list_c48] at hf
    refine lv_aload_n hx hb dX11_list_48 rfl (lv_at hl 0 rfl) ?_
    refine gf_X11_63 X hP (k := 0) (q := 11) rfl dX11_list_49 rfl ?_
    refine lv_iload_n hx hb dX11_list_52 rfl (lv_at hl 1 rfl) ?_
    refine lv_iload_n hx hb dX11_list_53 rfl (lv_at hl 2 rfl) ?_
    refine lv_iload_n hx hb dX11_list_54 rfl (lv_at hl 2 rfl) ?_
    refine lv_iconst (v := (-1)) hx hb dX11_list_55 (by decide) ?_
    refine zicmp_ne (tgt := 63) hx hb dX11_list_56 (by decide) hf (fun hf => ?_) (fun hf => ?_)
    · refine lv_iload_n hx hb dX11_list_63 rfl (lv_at hl 3 rfl) ?_
      exact hc_64 x3 x2 x1 s1 _ _ _ (lv_sub hl [] rfl) hP hS hf
    · refine lv_iconst (v := 0) hx hb dX11_list_59 (by decide) ?_
      refine lv_goto (tgt := 64) hx hb dX11_list_60 (by decide) ?_
      exact hc_64 0 x2 x1 s1 _ _ _ (lv_sub hl [] rfl) hP hS hf
  have hc_36 : ∀ (x1 : Int32) (x2 : Int32) (x3 : Int32) (s1 : SS) (H : Heap) (locs : List Loc) (ls : Array Slot), lv_has ls 4 [(0, .ref (ad 0)), (1, .int x1), (2, .int x2), (3, .int x3)] → va_P D ZCL (zw Ox Nx cA ad s1) H → va_S A s.heap H locs → f_X11_list_c36 x1 x2 x3 s1 = some (rr, sr) → W p l e (zrm 2) s m args below meth c H locs 0 0 (MQ below (zQc Ox Nx cA ad D A (some (.int rr)) sr) args s 0 0 A) (F0 m 36 ls []) := by
    intro x1 x2 x3 s1 H locs ls hl hP hS hf
    rw [f_X11_list_c36] at hf
    refine lv_iload_n hx hb dX11_list_36 rfl (lv_at hl 2 rfl) ?_
    refine lv_iconst (v := (-1)) hx hb dX11_list_37 (by decide) ?_
    refine zicmp_eq (tgt := 48) hx hb dX11_list_38 (by decide) hf (fun hf => ?_) (fun hf => ?_)
    · exact hc_48 x1 x2 x3 s1 _ _ _ (lv_sub hl [0, 1, 2, 3] rfl) hP hS hf
    · refine lv_iload_n hx hb dX11_list_41 rfl (lv_at hl 3 rfl) ?_
      refine zif_ge (tgt := 48) hx hb dX11_list_42 (by decide) hf (fun hf => ?_) (fun hf => ?_)
      · exact hc_48 x1 x2 x3 s1 _ _ _ (lv_sub hl [0, 1, 2, 3] rfl) hP hS hf
      · refine lv_bipush (v := (-14)) hx hb dX11_list_45 (by decide) ?_
        exact zret_i X hP hS hf rfl dX11_list_47
  rw [f_X11_list] at hf
  refine lv_aload_n hx hb dX11_list_0 rfl (lv_at hl 0 rfl) ?_
  refine gf_X11_63 X hP (k := 0) (q := 11) rfl dX11_list_1 rfl ?_
  refine lv_iload_n hx hb dX11_list_4 rfl (lv_at hl 1 rfl) ?_
  obtain ⟨r1, s2, h3, hf⟩ := zbd_some hf
  refine zcallV X hP hS hl.1 (k := 11) (As := [.int x1]) (rest := []) (cn_X5_isOne h3) cw_X5_isOne zp_5 rfl (by decide) rfl ml_X11_320 (by decide) rfl rfl (Nat.le_of_ble_eq_true rfl) dX11_list_5 (fun H locs hP hS => ?_)
  refine zif_eq (tgt := 21) hx hb dX11_list_8 (by decide) hf (fun hf => ?_) (fun hf => ?_)
  · refine lv_iconst (v := (-1)) hx hb dX11_list_21 (by decide) ?_
    exact zret_i X hP hS hf rfl dX11_list_22
  · refine lv_iload_n hx hb dX11_list_11 rfl (lv_at hl 2 rfl) ?_
    refine lv_iconst (v := (-1)) hx hb dX11_list_12 (by decide) ?_
    refine zicmp_lt (tgt := 21) hx hb dX11_list_13 (by decide) hf (fun hf => ?_) (fun hf => ?_)
    · refine lv_iconst (v := (-1)) hx hb dX11_list_21 (by decide) ?_
      exact zret_i X hP hS hf rfl dX11_list_22
    · refine lv_iload_n hx hb dX11_list_16 rfl (lv_at hl 2 rfl) ?_
      refine lv_iconst (v := 1) hx hb dX11_list_17 (by decide) ?_
      refine zicmp_le (tgt := 23) hx hb dX11_list_18 (by decide) hf (fun hf => ?_) (fun hf => ?_)
      · refine lv_iload_n hx hb dX11_list_23 rfl (lv_at hl 2 rfl) ?_
        refine lv_iconst (v := (-1)) hx hb dX11_list_24 (by decide) ?_
        refine zicmp_eq (tgt := 36) hx hb dX11_list_25 (by decide) hf (fun hf => ?_) (fun hf => ?_)
        · exact hc_36 x1 x2 x3 s2 _ _ _ (lv_sub hl [0, 1, 2, 3] rfl) hP hS hf
        · refine lv_iload_n hx hb dX11_list_28 rfl (lv_at hl 3 rfl) ?_
          refine lv_bipush (v := 20) hx hb dX11_list_29 (by decide) ?_
          refine zicmp_le (tgt := 36) hx hb dX11_list_31 (by decide) hf (fun hf => ?_) (fun hf => ?_)
          · exact hc_36 x1 x2 x3 s2 _ _ _ (lv_sub hl [0, 1, 2, 3] rfl) hP hS hf
          · refine lv_iconst (v := (-1)) hx hb dX11_list_34 (by decide) ?_
            exact zret_i X hP hS hf rfl dX11_list_35
      · refine lv_iconst (v := (-1)) hx hb dX11_list_21 (by decide) ?_
        exact zret_i X hP hS hf rfl dX11_list_22
theorem dX11_put_0 : decode cX11_put 0 = .ok (.aload_n 0, 1) := by decide +kernel
theorem dX11_put_1 : decode cX11_put 1 = .ok (.getfield 63, 3) := by decide +kernel
theorem dX11_put_4 : decode cX11_put 4 = .ok (.iload_n 1, 1) := by decide +kernel
theorem dX11_put_5 : decode cX11_put 5 = .ok (.invokevirtual 320, 3) := by decide +kernel
theorem dX11_put_8 : decode cX11_put 8 = .ok (.ifCond .ne 5, 3) := by decide +kernel
theorem dX11_put_11 : decode cX11_put 11 = .ok (.iconst (-1), 1) := by decide +kernel
theorem dX11_put_12 : decode cX11_put 12 = .ok (.ireturn, 1) := by decide +kernel
theorem dX11_put_13 : decode cX11_put 13 = .ok (.aload_n 0, 1) := by decide +kernel
theorem dX11_put_14 : decode cX11_put 14 = .ok (.getfield 63, 3) := by decide +kernel
theorem dX11_put_17 : decode cX11_put 17 = .ok (.iload_n 1, 1) := by decide +kernel
theorem dX11_put_18 : decode cX11_put 18 = .ok (.invokevirtual 220, 3) := by decide +kernel
theorem dX11_put_21 : decode cX11_put 21 = .ok (.ifCond .ne 6, 3) := by decide +kernel
theorem dX11_put_24 : decode cX11_put 24 = .ok (.bipush (-11), 2) := by decide +kernel
theorem dX11_put_26 : decode cX11_put 26 = .ok (.ireturn, 1) := by decide +kernel
theorem dX11_put_27 : decode cX11_put 27 = .ok (.aload_n 0, 1) := by decide +kernel
theorem dX11_put_28 : decode cX11_put 28 = .ok (.getfield 63, 3) := by decide +kernel
theorem dX11_put_31 : decode cX11_put 31 = .ok (.iload_n 1, 1) := by decide +kernel
theorem dX11_put_32 : decode cX11_put 32 = .ok (.iload_n 2, 1) := by decide +kernel
theorem dX11_put_33 : decode cX11_put 33 = .ok (.invokevirtual 380, 3) := by decide +kernel
theorem dX11_put_36 : decode cX11_put 36 = .ok (.ifCond .ne 6, 3) := by decide +kernel
theorem dX11_put_39 : decode cX11_put 39 = .ok (.bipush (-13), 2) := by decide +kernel
theorem dX11_put_41 : decode cX11_put 41 = .ok (.ireturn, 1) := by decide +kernel
theorem dX11_put_42 : decode cX11_put 42 = .ok (.aload_n 0, 1) := by decide +kernel
theorem dX11_put_43 : decode cX11_put 43 = .ok (.getfield 63, 3) := by decide +kernel
theorem dX11_put_46 : decode cX11_put 46 = .ok (.iload_n 1, 1) := by decide +kernel
theorem dX11_put_47 : decode cX11_put 47 = .ok (.iload_n 2, 1) := by decide +kernel
theorem dX11_put_48 : decode cX11_put 48 = .ok (.lload_n 3, 1) := by decide +kernel
theorem dX11_put_49 : decode cX11_put 49 = .ok (.invokevirtual 384, 3) := by decide +kernel
theorem dX11_put_52 : decode cX11_put 52 = .ok (.iconst 1, 1) := by decide +kernel
theorem dX11_put_53 : decode cX11_put 53 = .ok (.ireturn, 1) := by decide +kernel
set_option maxHeartbeats 4000000 in
set_option maxRecDepth 100000 in
theorem cn_X11_put {l : Launch} {cA : Nat → ClassId} {ad : Nat → Nat} {D : va_G} {E : Nat → Nat} {A : Nat → Prop} {x1 : Int32} {x2 : Int32} {x3 : Int64} {s0 sr : SS} {rr : Int32} (hf : f_X11_put x1 x2 x3 s0 = some (rr, sr)) : zCon Ox Nx cA ad D E l yX11_put cX11_put 5 (some .int) 4 A [.ref (ad 0), .int x1, .int x2, .long x3] s0 (some (.int rr)) sr := by
  refine zstart (own := RX11) hOx (by decide) rfl (Nat.le_of_ble_eq_true rfl) ?_
  intro p e s m args below meth c X hP ls hl
  have hx := X.1
  have hb := X.2.1
  have hl : lv_has ls 5 [(0, .ref (ad 0)), (1, .int x1), (2, .int x2), (3, .long x3)] := hl
  have hS : va_S A s.heap s.heap [] := va_S.rf
  rw [f_X11_put] at hf
  refine lv_aload_n hx hb dX11_put_0 rfl (lv_at hl 0 rfl) ?_
  refine gf_X11_63 X hP (k := 0) (q := 11) rfl dX11_put_1 rfl ?_
  refine lv_iload_n hx hb dX11_put_4 rfl (lv_at hl 1 rfl) ?_
  obtain ⟨r1, s2, h3, hf⟩ := zbd_some hf
  refine zcallV X hP hS hl.1 (k := 11) (As := [.int x1]) (rest := []) (cn_X5_isOne h3) cw_X5_isOne zp_5 rfl (by decide) rfl ml_X11_320 (by decide) rfl rfl (Nat.le_of_ble_eq_true rfl) dX11_put_5 (fun H locs hP hS => ?_)
  refine zif_ne (tgt := 13) hx hb dX11_put_8 (by decide) hf (fun hf => ?_) (fun hf => ?_)
  · refine lv_aload_n hx hb dX11_put_13 rfl (lv_at hl 0 rfl) ?_
    refine gf_X11_63 X hP (k := 0) (q := 11) rfl dX11_put_14 rfl ?_
    refine lv_iload_n hx hb dX11_put_17 rfl (lv_at hl 1 rfl) ?_
    obtain ⟨r4, s5, h6, hf⟩ := zbd_some hf
    refine zcallV X hP hS hl.1 (k := 11) (As := [.int x1]) (rest := []) (cn_X5_isThere h6) cw_X5_isThere zp_5 rfl (by decide) rfl ml_X11_220 (by decide) rfl rfl (Nat.le_of_ble_eq_true rfl) dX11_put_18 (fun H locs hP hS => ?_)
    refine zif_ne (tgt := 27) hx hb dX11_put_21 (by decide) hf (fun hf => ?_) (fun hf => ?_)
    · refine lv_aload_n hx hb dX11_put_27 rfl (lv_at hl 0 rfl) ?_
      refine gf_X11_63 X hP (k := 0) (q := 11) rfl dX11_put_28 rfl ?_
      refine lv_iload_n hx hb dX11_put_31 rfl (lv_at hl 1 rfl) ?_
      refine lv_iload_n hx hb dX11_put_32 rfl (lv_at hl 2 rfl) ?_
      obtain ⟨r7, s8, h9, hf⟩ := zbd_some hf
      refine zcallV X hP hS hl.1 (k := 11) (As := [.int x1, .int x2]) (rest := []) (cn_X5_hasPlace h9) cw_X5_hasPlace zp_5 rfl (by decide) rfl ml_X11_380 (by decide) rfl rfl (Nat.le_of_ble_eq_true rfl) dX11_put_33 (fun H locs hP hS => ?_)
      refine zif_ne (tgt := 42) hx hb dX11_put_36 (by decide) hf (fun hf => ?_) (fun hf => ?_)
      · refine lv_aload_n hx hb dX11_put_42 rfl (lv_at hl 0 rfl) ?_
        refine gf_X11_63 X hP (k := 0) (q := 11) rfl dX11_put_43 rfl ?_
        refine lv_iload_n hx hb dX11_put_46 rfl (lv_at hl 1 rfl) ?_
        refine lv_iload_n hx hb dX11_put_47 rfl (lv_at hl 2 rfl) ?_
        refine lv_lload_n hx hb dX11_put_48 rfl (lv_at hl 3 rfl) ?_
        obtain ⟨r10, s11, h12, hf⟩ := zbd_some hf
        refine zcallV X hP hS hl.1 (k := 11) (As := [.int x1, .int x2, .long x3]) (rest := []) (cn_X5_place h12) cw_X5_place zp_5 rfl (by decide) rfl ml_X11_384 (by decide) rfl rfl (Nat.le_of_ble_eq_true rfl) dX11_put_49 (fun H locs hP hS => ?_)
        refine lv_iconst (v := 1) hx hb dX11_put_52 (by decide) ?_
        exact zret_i X hP hS hf rfl dX11_put_53
      · refine lv_bipush (v := (-13)) hx hb dX11_put_39 (by decide) ?_
        exact zret_i X hP hS hf rfl dX11_put_41
    · refine lv_bipush (v := (-11)) hx hb dX11_put_24 (by decide) ?_
      exact zret_i X hP hS hf rfl dX11_put_26
  · refine lv_iconst (v := (-1)) hx hb dX11_put_11 (by decide) ?_
    exact zret_i X hP hS hf rfl dX11_put_12
theorem dX11_get_0 : decode cX11_get 0 = .ok (.aload_n 0, 1) := by decide +kernel
theorem dX11_get_1 : decode cX11_get 1 = .ok (.getfield 63, 3) := by decide +kernel
theorem dX11_get_4 : decode cX11_get 4 = .ok (.iload_n 1, 1) := by decide +kernel
theorem dX11_get_5 : decode cX11_get 5 = .ok (.invokevirtual 220, 3) := by decide +kernel
theorem dX11_get_8 : decode cX11_get 8 = .ok (.ifCond .eq 27, 3) := by decide +kernel
theorem dX11_get_11 : decode cX11_get 11 = .ok (.aload_n 0, 1) := by decide +kernel
theorem dX11_get_12 : decode cX11_get 12 = .ok (.getfield 63, 3) := by decide +kernel
theorem dX11_get_15 : decode cX11_get 15 = .ok (.iload_n 1, 1) := by decide +kernel
theorem dX11_get_16 : decode cX11_get 16 = .ok (.iload_n 2, 1) := by decide +kernel
theorem dX11_get_17 : decode cX11_get 17 = .ok (.invokevirtual 380, 3) := by decide +kernel
theorem dX11_get_20 : decode cX11_get 20 = .ok (.ifCond .eq 15, 3) := by decide +kernel
theorem dX11_get_23 : decode cX11_get 23 = .ok (.aload_n 0, 1) := by decide +kernel
theorem dX11_get_24 : decode cX11_get 24 = .ok (.getfield 63, 3) := by decide +kernel
theorem dX11_get_27 : decode cX11_get 27 = .ok (.iload_n 1, 1) := by decide +kernel
theorem dX11_get_28 : decode cX11_get 28 = .ok (.iload_n 2, 1) := by decide +kernel
theorem dX11_get_29 : decode cX11_get 29 = .ok (.invokevirtual 247, 3) := by decide +kernel
theorem dX11_get_32 : decode cX11_get 32 = .ok (.goto 6, 3) := by decide +kernel
theorem dX11_get_35 : decode cX11_get 35 = .ok (.ldc2_w 132, 3) := by decide +kernel
theorem dX11_get_38 : decode cX11_get 38 = .ok (.lreturn, 1) := by decide +kernel
set_option maxHeartbeats 4000000 in
set_option maxRecDepth 100000 in
theorem cn_X11_get {l : Launch} {cA : Nat → ClassId} {ad : Nat → Nat} {D : va_G} {E : Nat → Nat} {A : Nat → Prop} {x1 : Int32} {x2 : Int32} {s0 sr : SS} {rr : Int64} (hf : f_X11_get x1 x2 s0 = some (rr, sr)) : zCon Ox Nx cA ad D E l yX11_get cX11_get 3 (some .long) 4 A [.ref (ad 0), .int x1, .int x2] s0 (some (.long rr)) sr := by
  refine zstart (own := RX11) hOx (by decide) rfl (Nat.le_of_ble_eq_true rfl) ?_
  intro p e s m args below meth c X hP ls hl
  have hx := X.1
  have hb := X.2.1
  have hl : lv_has ls 3 [(0, .ref (ad 0)), (1, .int x1), (2, .int x2)] := hl
  have hS : va_S A s.heap s.heap [] := va_S.rf
  rw [f_X11_get] at hf
  refine lv_aload_n hx hb dX11_get_0 rfl (lv_at hl 0 rfl) ?_
  refine gf_X11_63 X hP (k := 0) (q := 11) rfl dX11_get_1 rfl ?_
  refine lv_iload_n hx hb dX11_get_4 rfl (lv_at hl 1 rfl) ?_
  obtain ⟨r1, s2, h3, hf⟩ := zbd_some hf
  refine zcallV X hP hS hl.1 (k := 11) (As := [.int x1]) (rest := []) (cn_X5_isThere h3) cw_X5_isThere zp_5 rfl (by decide) rfl ml_X11_220 (by decide) rfl rfl (Nat.le_of_ble_eq_true rfl) dX11_get_5 (fun H locs hP hS => ?_)
  refine zif_eq (tgt := 35) hx hb dX11_get_8 (by decide) hf (fun hf => ?_) (fun hf => ?_)
  · refine zldc2 X co_X11_132 dX11_get_35 ?_
    exact zret_l X hP hS hf dX11_get_38
  · refine lv_aload_n hx hb dX11_get_11 rfl (lv_at hl 0 rfl) ?_
    refine gf_X11_63 X hP (k := 0) (q := 11) rfl dX11_get_12 rfl ?_
    refine lv_iload_n hx hb dX11_get_15 rfl (lv_at hl 1 rfl) ?_
    refine lv_iload_n hx hb dX11_get_16 rfl (lv_at hl 2 rfl) ?_
    obtain ⟨r4, s5, h6, hf⟩ := zbd_some hf
    refine zcallV X hP hS hl.1 (k := 11) (As := [.int x1, .int x2]) (rest := []) (cn_X5_hasPlace h6) cw_X5_hasPlace zp_5 rfl (by decide) rfl ml_X11_380 (by decide) rfl rfl (Nat.le_of_ble_eq_true rfl) dX11_get_17 (fun H locs hP hS => ?_)
    refine zif_eq (tgt := 35) hx hb dX11_get_20 (by decide) hf (fun hf => ?_) (fun hf => ?_)
    · refine zldc2 X co_X11_132 dX11_get_35 ?_
      exact zret_l X hP hS hf dX11_get_38
    · refine lv_aload_n hx hb dX11_get_23 rfl (lv_at hl 0 rfl) ?_
      refine gf_X11_63 X hP (k := 0) (q := 11) rfl dX11_get_24 rfl ?_
      refine lv_iload_n hx hb dX11_get_27 rfl (lv_at hl 1 rfl) ?_
      refine lv_iload_n hx hb dX11_get_28 rfl (lv_at hl 2 rfl) ?_
      obtain ⟨r7, s8, h9, hf⟩ := zbd_some hf
      refine zcallV X hP hS hl.1 (k := 11) (As := [.int x1, .int x2]) (rest := []) (cn_X5_valueAt h9) cw_X5_valueAt zp_5 rfl (by decide) rfl ml_X11_247 (by decide) rfl rfl (Nat.le_of_ble_eq_true rfl) dX11_get_29 (fun H locs hP hS => ?_)
      refine lv_goto (tgt := 38) hx hb dX11_get_32 (by decide) ?_
      exact zret_l X hP hS hf dX11_get_38
theorem dX11_copy_0 : decode cX11_copy 0 = .ok (.aload_n 0, 1) := by decide +kernel
theorem dX11_copy_1 : decode cX11_copy 1 = .ok (.getfield 63, 3) := by decide +kernel
theorem dX11_copy_4 : decode cX11_copy 4 = .ok (.iload_n 1, 1) := by decide +kernel
theorem dX11_copy_5 : decode cX11_copy 5 = .ok (.invokevirtual 320, 3) := by decide +kernel
theorem dX11_copy_8 : decode cX11_copy 8 = .ok (.ifCond .eq 14, 3) := by decide +kernel
theorem dX11_copy_11 : decode cX11_copy 11 = .ok (.aload_n 0, 1) := by decide +kernel
theorem dX11_copy_12 : decode cX11_copy 12 = .ok (.getfield 63, 3) := by decide +kernel
theorem dX11_copy_15 : decode cX11_copy 15 = .ok (.iload_n 3, 1) := by decide +kernel
theorem dX11_copy_16 : decode cX11_copy 16 = .ok (.invokevirtual 320, 3) := by decide +kernel
theorem dX11_copy_19 : decode cX11_copy 19 = .ok (.ifCond .ne 5, 3) := by decide +kernel
theorem dX11_copy_22 : decode cX11_copy 22 = .ok (.iconst (-1), 1) := by decide +kernel
theorem dX11_copy_23 : decode cX11_copy 23 = .ok (.ireturn, 1) := by decide +kernel
theorem dX11_copy_24 : decode cX11_copy 24 = .ok (.aload_n 0, 1) := by decide +kernel
theorem dX11_copy_25 : decode cX11_copy 25 = .ok (.getfield 63, 3) := by decide +kernel
theorem dX11_copy_28 : decode cX11_copy 28 = .ok (.iload_n 1, 1) := by decide +kernel
theorem dX11_copy_29 : decode cX11_copy 29 = .ok (.invokevirtual 220, 3) := by decide +kernel
theorem dX11_copy_32 : decode cX11_copy 32 = .ok (.ifCond .eq 14, 3) := by decide +kernel
theorem dX11_copy_35 : decode cX11_copy 35 = .ok (.aload_n 0, 1) := by decide +kernel
theorem dX11_copy_36 : decode cX11_copy 36 = .ok (.getfield 63, 3) := by decide +kernel
theorem dX11_copy_39 : decode cX11_copy 39 = .ok (.iload_n 3, 1) := by decide +kernel
theorem dX11_copy_40 : decode cX11_copy 40 = .ok (.invokevirtual 220, 3) := by decide +kernel
theorem dX11_copy_43 : decode cX11_copy 43 = .ok (.ifCond .ne 6, 3) := by decide +kernel
theorem dX11_copy_46 : decode cX11_copy 46 = .ok (.bipush (-11), 2) := by decide +kernel
theorem dX11_copy_48 : decode cX11_copy 48 = .ok (.ireturn, 1) := by decide +kernel
theorem dX11_copy_49 : decode cX11_copy 49 = .ok (.aload_n 0, 1) := by decide +kernel
theorem dX11_copy_50 : decode cX11_copy 50 = .ok (.getfield 63, 3) := by decide +kernel
theorem dX11_copy_53 : decode cX11_copy 53 = .ok (.getfield 388, 3) := by decide +kernel
theorem dX11_copy_56 : decode cX11_copy 56 = .ok (.iload_n 1, 1) := by decide +kernel
theorem dX11_copy_57 : decode cX11_copy 57 = .ok (.iaload, 1) := by decide +kernel
theorem dX11_copy_58 : decode cX11_copy 58 = .ok (.aload_n 0, 1) := by decide +kernel
theorem dX11_copy_59 : decode cX11_copy 59 = .ok (.getfield 63, 3) := by decide +kernel
theorem dX11_copy_62 : decode cX11_copy 62 = .ok (.getfield 388, 3) := by decide +kernel
theorem dX11_copy_65 : decode cX11_copy 65 = .ok (.iload_n 3, 1) := by decide +kernel
theorem dX11_copy_66 : decode cX11_copy 66 = .ok (.iaload, 1) := by decide +kernel
theorem dX11_copy_67 : decode cX11_copy 67 = .ok (.if_icmp .eq 6, 3) := by decide +kernel
theorem dX11_copy_70 : decode cX11_copy 70 = .ok (.bipush (-12), 2) := by decide +kernel
theorem dX11_copy_72 : decode cX11_copy 72 = .ok (.ireturn, 1) := by decide +kernel
theorem dX11_copy_73 : decode cX11_copy 73 = .ok (.aload_n 0, 1) := by decide +kernel
theorem dX11_copy_74 : decode cX11_copy 74 = .ok (.getfield 63, 3) := by decide +kernel
theorem dX11_copy_77 : decode cX11_copy 77 = .ok (.iload_n 1, 1) := by decide +kernel
theorem dX11_copy_78 : decode cX11_copy 78 = .ok (.iload_n 2, 1) := by decide +kernel
theorem dX11_copy_79 : decode cX11_copy 79 = .ok (.iload 5, 2) := by decide +kernel
theorem dX11_copy_81 : decode cX11_copy 81 = .ok (.invokevirtual 391, 3) := by decide +kernel
theorem dX11_copy_84 : decode cX11_copy 84 = .ok (.ifCond .eq 18, 3) := by decide +kernel
theorem dX11_copy_87 : decode cX11_copy 87 = .ok (.aload_n 0, 1) := by decide +kernel
theorem dX11_copy_88 : decode cX11_copy 88 = .ok (.getfield 63, 3) := by decide +kernel
theorem dX11_copy_91 : decode cX11_copy 91 = .ok (.iload_n 3, 1) := by decide +kernel
theorem dX11_copy_92 : decode cX11_copy 92 = .ok (.iload 4, 2) := by decide +kernel
theorem dX11_copy_94 : decode cX11_copy 94 = .ok (.iload 5, 2) := by decide +kernel
theorem dX11_copy_96 : decode cX11_copy 96 = .ok (.invokevirtual 391, 3) := by decide +kernel
theorem dX11_copy_99 : decode cX11_copy 99 = .ok (.ifCond .ne 6, 3) := by decide +kernel
theorem dX11_copy_102 : decode cX11_copy 102 = .ok (.bipush (-13), 2) := by decide +kernel
theorem dX11_copy_104 : decode cX11_copy 104 = .ok (.ireturn, 1) := by decide +kernel
theorem dX11_copy_105 : decode cX11_copy 105 = .ok (.aload_n 0, 1) := by decide +kernel
theorem dX11_copy_106 : decode cX11_copy 106 = .ok (.getfield 63, 3) := by decide +kernel
theorem dX11_copy_109 : decode cX11_copy 109 = .ok (.getfield 394, 3) := by decide +kernel
theorem dX11_copy_112 : decode cX11_copy 112 = .ok (.iload_n 1, 1) := by decide +kernel
theorem dX11_copy_113 : decode cX11_copy 113 = .ok (.aaload, 1) := by decide +kernel
theorem dX11_copy_114 : decode cX11_copy 114 = .ok (.iload_n 2, 1) := by decide +kernel
theorem dX11_copy_115 : decode cX11_copy 115 = .ok (.aload_n 0, 1) := by decide +kernel
theorem dX11_copy_116 : decode cX11_copy 116 = .ok (.getfield 63, 3) := by decide +kernel
theorem dX11_copy_119 : decode cX11_copy 119 = .ok (.getfield 394, 3) := by decide +kernel
theorem dX11_copy_122 : decode cX11_copy 122 = .ok (.iload_n 3, 1) := by decide +kernel
theorem dX11_copy_123 : decode cX11_copy 123 = .ok (.aaload, 1) := by decide +kernel
theorem dX11_copy_124 : decode cX11_copy 124 = .ok (.iload 4, 2) := by decide +kernel
theorem dX11_copy_126 : decode cX11_copy 126 = .ok (.iload 5, 2) := by decide +kernel
theorem dX11_copy_128 : decode cX11_copy 128 = .ok (.invokestatic 202, 3) := by decide +kernel
theorem dX11_copy_131 : decode cX11_copy 131 = .ok (.iload 5, 2) := by decide +kernel
theorem dX11_copy_133 : decode cX11_copy 133 = .ok (.ireturn, 1) := by decide +kernel
set_option maxHeartbeats 4000000 in
set_option maxRecDepth 100000 in
theorem cn_X11_copy {l : Launch} {cA : Nat → ClassId} {ad : Nat → Nat} {D : va_G} {E : Nat → Nat} {A : Nat → Prop} {x1 : Int32} {x2 : Int32} {x3 : Int32} {x4 : Int32} {x5 : Int32} {s0 sr : SS} {rr : Int32} (hf : f_X11_copy x1 x2 x3 x4 x5 s0 = some (rr, sr)) : zCon Ox Nx cA ad D E l yX11_copy cX11_copy 6 (some .int) 3 A [.ref (ad 0), .int x1, .int x2, .int x3, .int x4, .int x5] s0 (some (.int rr)) sr := by
  refine zstart (own := RX11) hOx (by decide) rfl (Nat.le_of_ble_eq_true rfl) ?_
  intro p e s m args below meth c X hP ls hl
  have hx := X.1
  have hb := X.2.1
  have hl : lv_has ls 6 [(0, .ref (ad 0)), (1, .int x1), (2, .int x2), (3, .int x3), (4, .int x4), (5, .int x5)] := hl
  have hS : va_S A s.heap s.heap [] := va_S.rf
  rw [f_X11_copy] at hf
  refine lv_aload_n hx hb dX11_copy_0 rfl (lv_at hl 0 rfl) ?_
  refine gf_X11_63 X hP (k := 0) (q := 11) rfl dX11_copy_1 rfl ?_
  refine lv_iload_n hx hb dX11_copy_4 rfl (lv_at hl 1 rfl) ?_
  obtain ⟨r1, s2, h3, hf⟩ := zbd_some hf
  refine zcallV X hP hS hl.1 (k := 11) (As := [.int x1]) (rest := []) (cn_X5_isOne h3) cw_X5_isOne zp_5 rfl (by decide) rfl ml_X11_320 (by decide) rfl rfl (Nat.le_of_ble_eq_true rfl) dX11_copy_5 (fun H locs hP hS => ?_)
  refine zif_eq (tgt := 22) hx hb dX11_copy_8 (by decide) hf (fun hf => ?_) (fun hf => ?_)
  · refine lv_iconst (v := (-1)) hx hb dX11_copy_22 (by decide) ?_
    exact zret_i X hP hS hf rfl dX11_copy_23
  · refine lv_aload_n hx hb dX11_copy_11 rfl (lv_at hl 0 rfl) ?_
    refine gf_X11_63 X hP (k := 0) (q := 11) rfl dX11_copy_12 rfl ?_
    refine lv_iload_n hx hb dX11_copy_15 rfl (lv_at hl 3 rfl) ?_
    obtain ⟨r4, s5, h6, hf⟩ := zbd_some hf
    refine zcallV X hP hS hl.1 (k := 11) (As := [.int x3]) (rest := []) (cn_X5_isOne h6) cw_X5_isOne zp_5 rfl (by decide) rfl ml_X11_320 (by decide) rfl rfl (Nat.le_of_ble_eq_true rfl) dX11_copy_16 (fun H locs hP hS => ?_)
    refine zif_ne (tgt := 24) hx hb dX11_copy_19 (by decide) hf (fun hf => ?_) (fun hf => ?_)
    · refine lv_aload_n hx hb dX11_copy_24 rfl (lv_at hl 0 rfl) ?_
      refine gf_X11_63 X hP (k := 0) (q := 11) rfl dX11_copy_25 rfl ?_
      refine lv_iload_n hx hb dX11_copy_28 rfl (lv_at hl 1 rfl) ?_
      obtain ⟨r7, s8, h9, hf⟩ := zbd_some hf
      refine zcallV X hP hS hl.1 (k := 11) (As := [.int x1]) (rest := []) (cn_X5_isThere h9) cw_X5_isThere zp_5 rfl (by decide) rfl ml_X11_220 (by decide) rfl rfl (Nat.le_of_ble_eq_true rfl) dX11_copy_29 (fun H locs hP hS => ?_)
      refine zif_eq (tgt := 46) hx hb dX11_copy_32 (by decide) hf (fun hf => ?_) (fun hf => ?_)
      · refine lv_bipush (v := (-11)) hx hb dX11_copy_46 (by decide) ?_
        exact zret_i X hP hS hf rfl dX11_copy_48
      · refine lv_aload_n hx hb dX11_copy_35 rfl (lv_at hl 0 rfl) ?_
        refine gf_X11_63 X hP (k := 0) (q := 11) rfl dX11_copy_36 rfl ?_
        refine lv_iload_n hx hb dX11_copy_39 rfl (lv_at hl 3 rfl) ?_
        obtain ⟨r10, s11, h12, hf⟩ := zbd_some hf
        refine zcallV X hP hS hl.1 (k := 11) (As := [.int x3]) (rest := []) (cn_X5_isThere h12) cw_X5_isThere zp_5 rfl (by decide) rfl ml_X11_220 (by decide) rfl rfl (Nat.le_of_ble_eq_true rfl) dX11_copy_40 (fun H locs hP hS => ?_)
        refine zif_ne (tgt := 49) hx hb dX11_copy_43 (by decide) hf (fun hf => ?_) (fun hf => ?_)
        · refine lv_aload_n hx hb dX11_copy_49 rfl (lv_at hl 0 rfl) ?_
          refine gf_X11_63 X hP (k := 0) (q := 11) rfl dX11_copy_50 rfl ?_
          refine gf_X11_388 X hP (k := 11) (q := 27) rfl dX11_copy_53 rfl ?_
          refine lv_iload_n hx hb dX11_copy_56 rfl (lv_at hl 1 rfl) ?_
          obtain ⟨g13, hf⟩ := zgd hf
          refine zald_i X hP (k := 27) (n := 3) (rs := []) rfl g13 dX11_copy_57 ?_
          refine lv_aload_n hx hb dX11_copy_58 rfl (lv_at hl 0 rfl) ?_
          refine gf_X11_63 X hP (k := 0) (q := 11) rfl dX11_copy_59 rfl ?_
          refine gf_X11_388 X hP (k := 11) (q := 27) rfl dX11_copy_62 rfl ?_
          refine lv_iload_n hx hb dX11_copy_65 rfl (lv_at hl 3 rfl) ?_
          obtain ⟨g14, hf⟩ := zgd hf
          refine zald_i X hP (k := 27) (n := 3) (rs := []) rfl g14 dX11_copy_66 ?_
          refine zicmp_eq (tgt := 73) hx hb dX11_copy_67 (by decide) hf (fun hf => ?_) (fun hf => ?_)
          · refine lv_aload_n hx hb dX11_copy_73 rfl (lv_at hl 0 rfl) ?_
            refine gf_X11_63 X hP (k := 0) (q := 11) rfl dX11_copy_74 rfl ?_
            refine lv_iload_n hx hb dX11_copy_77 rfl (lv_at hl 1 rfl) ?_
            refine lv_iload_n hx hb dX11_copy_78 rfl (lv_at hl 2 rfl) ?_
            refine lv_iload hx hb dX11_copy_79 (lv_at hl 5 rfl) ?_
            obtain ⟨r15, s16, h17, hf⟩ := zbd_some hf
            refine zcallV X hP hS hl.1 (k := 11) (As := [.int x1, .int x2, .int x5]) (rest := []) (cn_X5_hasRoom h17) cw_X5_hasRoom zp_5 rfl (by decide) rfl ml_X11_391 (by decide) rfl rfl (Nat.le_of_ble_eq_true rfl) dX11_copy_81 (fun H locs hP hS => ?_)
            refine zif_eq (tgt := 102) hx hb dX11_copy_84 (by decide) hf (fun hf => ?_) (fun hf => ?_)
            · refine lv_bipush (v := (-13)) hx hb dX11_copy_102 (by decide) ?_
              exact zret_i X hP hS hf rfl dX11_copy_104
            · refine lv_aload_n hx hb dX11_copy_87 rfl (lv_at hl 0 rfl) ?_
              refine gf_X11_63 X hP (k := 0) (q := 11) rfl dX11_copy_88 rfl ?_
              refine lv_iload_n hx hb dX11_copy_91 rfl (lv_at hl 3 rfl) ?_
              refine lv_iload hx hb dX11_copy_92 (lv_at hl 4 rfl) ?_
              refine lv_iload hx hb dX11_copy_94 (lv_at hl 5 rfl) ?_
              obtain ⟨r18, s19, h20, hf⟩ := zbd_some hf
              refine zcallV X hP hS hl.1 (k := 11) (As := [.int x3, .int x4, .int x5]) (rest := []) (cn_X5_hasRoom h20) cw_X5_hasRoom zp_5 rfl (by decide) rfl ml_X11_391 (by decide) rfl rfl (Nat.le_of_ble_eq_true rfl) dX11_copy_96 (fun H locs hP hS => ?_)
              refine zif_ne (tgt := 105) hx hb dX11_copy_99 (by decide) hf (fun hf => ?_) (fun hf => ?_)
              · refine lv_aload_n hx hb dX11_copy_105 rfl (lv_at hl 0 rfl) ?_
                refine gf_X11_63 X hP (k := 0) (q := 11) rfl dX11_copy_106 rfl ?_
                refine gf_X11_394 X hP (k := 11) (q := 29) rfl dX11_copy_109 rfl ?_
                refine lv_iload_n hx hb dX11_copy_112 rfl (lv_at hl 1 rfl) ?_
                obtain ⟨g21, hf⟩ := zgd hf
                obtain ⟨n22, rn22, on22, in22⟩ := zok_of g21
                refine zald_g X hP zlr_x (k := 29) on22 in22 dX11_copy_113 rfl ?_
                refine lv_iload_n hx hb dX11_copy_114 rfl (lv_at hl 2 rfl) ?_
                refine lv_aload_n hx hb dX11_copy_115 rfl (lv_at hl 0 rfl) ?_
                refine gf_X11_63 X hP (k := 0) (q := 11) rfl dX11_copy_116 rfl ?_
                refine gf_X11_394 X hP (k := 11) (q := 29) rfl dX11_copy_119 rfl ?_
                refine lv_iload_n hx hb dX11_copy_122 rfl (lv_at hl 3 rfl) ?_
                obtain ⟨g23, hf⟩ := zgd hf
                obtain ⟨n24, rn24, on24, in24⟩ := zok_of g23
                refine zald_g X hP zlr_x (k := 29) on24 in24 dX11_copy_123 rfl ?_
                refine lv_iload hx hb dX11_copy_124 (lv_at hl 4 rfl) ?_
                refine lv_iload hx hb dX11_copy_126 (lv_at hl 5 rfl) ?_
                obtain ⟨g25, hf⟩ := zgd hf
                refine zcp_l X hP hS hl.1 (k0 := (zrr Ox 29 x1)) (k1 := (zrr Ox 29 x3)) ml_X11_202 nt_copy.1 nt_copy.2.1 nt_copy.2.2 g25 ⟨Nat.le_of_ble_eq_true rfl, Nat.le_of_ble_eq_true rfl⟩ dX11_copy_128 (fun H locs hP hS => ?_)
                refine lv_iload hx hb dX11_copy_131 (lv_at hl 5 rfl) ?_
                exact zret_i X hP hS hf rfl dX11_copy_133
              · refine lv_bipush (v := (-13)) hx hb dX11_copy_102 (by decide) ?_
                exact zret_i X hP hS hf rfl dX11_copy_104
          · refine lv_bipush (v := (-12)) hx hb dX11_copy_70 (by decide) ?_
            exact zret_i X hP hS hf rfl dX11_copy_72
        · refine lv_bipush (v := (-11)) hx hb dX11_copy_46 (by decide) ?_
          exact zret_i X hP hS hf rfl dX11_copy_48
    · refine lv_iconst (v := (-1)) hx hb dX11_copy_22 (by decide) ?_
      exact zret_i X hP hS hf rfl dX11_copy_23
theorem dX11_act_0 : decode cX11_act 0 = .ok (.aload_n 0, 1) := by decide +kernel
theorem dX11_act_1 : decode cX11_act 1 = .ok (.getfield 12, 3) := by decide +kernel
theorem dX11_act_4 : decode cX11_act 4 = .ok (.iload_n 1, 1) := by decide +kernel
theorem dX11_act_5 : decode cX11_act 5 = .ok (.i2l, 1) := by decide +kernel
theorem dX11_act_6 : decode cX11_act 6 = .ok (.invokevirtual 155, 3) := by decide +kernel
theorem dX11_act_9 : decode cX11_act 9 = .ok (.astore 4, 2) := by decide +kernel
theorem dX11_act_11 : decode cX11_act 11 = .ok (.aload 4, 2) := by decide +kernel
theorem dX11_act_13 : decode cX11_act 13 = .ok (.ifnull 12, 3) := by decide +kernel
theorem dX11_act_16 : decode cX11_act 16 = .ok (.iload_n 2, 1) := by decide +kernel
theorem dX11_act_17 : decode cX11_act 17 = .ok (.ifCond .lt 8, 3) := by decide +kernel
theorem dX11_act_20 : decode cX11_act 20 = .ok (.iload_n 2, 1) := by decide +kernel
theorem dX11_act_21 : decode cX11_act 21 = .ok (.iconst 2, 1) := by decide +kernel
theorem dX11_act_22 : decode cX11_act 22 = .ok (.if_icmp .le 5, 3) := by decide +kernel
theorem dX11_act_25 : decode cX11_act 25 = .ok (.iconst 0, 1) := by decide +kernel
theorem dX11_act_26 : decode cX11_act 26 = .ok (.ireturn, 1) := by decide +kernel
theorem dX11_act_27 : decode cX11_act 27 = .ok (.aload_n 0, 1) := by decide +kernel
theorem dX11_act_28 : decode cX11_act 28 = .ok (.getfield 70, 3) := by decide +kernel
theorem dX11_act_31 : decode cX11_act 31 = .ok (.aload 4, 2) := by decide +kernel
theorem dX11_act_33 : decode cX11_act 33 = .ok (.iload_n 1, 1) := by decide +kernel
theorem dX11_act_34 : decode cX11_act 34 = .ok (.iload_n 2, 1) := by decide +kernel
theorem dX11_act_35 : decode cX11_act 35 = .ok (.iload_n 3, 1) := by decide +kernel
theorem dX11_act_36 : decode cX11_act 36 = .ok (.invokevirtual 398, 3) := by decide +kernel
theorem dX11_act_39 : decode cX11_act 39 = .ok (.ireturn, 1) := by decide +kernel
set_option maxHeartbeats 4000000 in
set_option maxRecDepth 100000 in
theorem cn_X11_act {l : Launch} {cA : Nat → ClassId} {ad : Nat → Nat} {D : va_G} {E : Nat → Nat} {A : Nat → Prop} {x1 : Int32} {x2 : Int32} {x3 : Int32} {s0 sr : SS} {rr : Int32} (hf : f_X11_act x1 x2 x3 s0 = some (rr, sr)) : zCon Ox Nx cA ad D E l yX11_act cX11_act 5 (some .int) 12 A [.ref (ad 0), .int x1, .int x2, .int x3] s0 (some (.int rr)) sr := by
  refine zstart (own := RX11) hOx (by decide) rfl (Nat.le_of_ble_eq_true rfl) ?_
  intro p e s m args below meth c X hP ls hl
  have hx := X.1
  have hb := X.2.1
  have hl : lv_has ls 5 [(0, .ref (ad 0)), (1, .int x1), (2, .int x2), (3, .int x3)] := hl
  have hS : va_S A s.heap s.heap [] := va_S.rf
  rw [f_X11_act] at hf
  refine lv_aload_n hx hb dX11_act_0 rfl (lv_at hl 0 rfl) ?_
  refine gf_X11_12 X hP (k := 0) (q := 1) rfl dX11_act_1 rfl ?_
  refine lv_iload_n hx hb dX11_act_4 rfl (lv_at hl 1 rfl) ?_
  refine lv_i2l hx hb dX11_act_5 rfl ?_
  obtain ⟨r1, s2, h3, hf⟩ := zbd_some hf
  refine zcallV X hP hS hl.1 (k := 1) (As := [.long (x1).toInt64]) (rest := []) (cn_X3_classAt h3) cw_X3_classAt zp_3 rfl (by decide) rfl ml_X11_155 (by decide) rfl rfl (Nat.le_of_ble_eq_true rfl) dX11_act_6 (fun H locs hP hS => ?_)
  rcases r1 with _ | k4
  · have hf := zbn_none hf
    refine lv_astoreN (lv' := [(4, .null), (0, .ref (ad 0)), (1, .int x1), (2, .int x2), (3, .int x3)]) hx hb dX11_act_9 hl (by decide) rfl (fun ls hl => ?_)
    refine lv_aloadN hx hb dX11_act_11 (lv_at hl 0 rfl) ?_
    refine lv_ifnullN (tgt := 25) hx hb dX11_act_13 (by decide) ?_
    refine lv_iconst (v := 0) hx hb dX11_act_25 (by decide) ?_
    exact zret_i X hP hS hf rfl dX11_act_26
  · have hf := zbn_some hf
    obtain ⟨g5, hf⟩ := zgd hf
    refine lv_astore (lv' := [(4, .ref (ad k4)), (0, .ref (ad 0)), (1, .int x1), (2, .int x2), (3, .int x3)]) hx hb dX11_act_9 hl (by decide) rfl (fun ls hl => ?_)
    refine lv_aload hx hb dX11_act_11 (lv_at hl 0 rfl) ?_
    refine lv_ifnull hx hb dX11_act_13 ?_
    refine lv_iload_n hx hb dX11_act_16 rfl (lv_at hl 3 rfl) ?_
    refine zif_lt (tgt := 25) hx hb dX11_act_17 (by decide) hf (fun hf => ?_) (fun hf => ?_)
    · refine lv_iconst (v := 0) hx hb dX11_act_25 (by decide) ?_
      exact zret_i X hP hS hf rfl dX11_act_26
    · refine lv_iload_n hx hb dX11_act_20 rfl (lv_at hl 3 rfl) ?_
      refine lv_iconst (v := 2) hx hb dX11_act_21 (by decide) ?_
      refine zicmp_le (tgt := 27) hx hb dX11_act_22 (by decide) hf (fun hf => ?_) (fun hf => ?_)
      · refine lv_aload_n hx hb dX11_act_27 rfl (lv_at hl 1 rfl) ?_
        refine gf_X11_70 X hP (k := 0) (q := 12) rfl dX11_act_28 rfl ?_
        refine lv_aload hx hb dX11_act_31 (lv_at hl 0 rfl) ?_
        refine lv_iload_n hx hb dX11_act_33 rfl (lv_at hl 2 rfl) ?_
        refine lv_iload_n hx hb dX11_act_34 rfl (lv_at hl 3 rfl) ?_
        refine lv_iload_n hx hb dX11_act_35 rfl (lv_at hl 4 rfl) ?_
        obtain ⟨r6, s7, h8, hf⟩ := zbd_some hf
        refine zcallV X hP hS hl.1 (k := 12) (As := [.ref (ad k4), .int x1, .int x2, .int x3]) (rest := []) (cn_X0_begin h8) cw_X0_begin zp_0 rfl (by decide) rfl ml_X11_398 (by decide) rfl rfl (Nat.le_of_ble_eq_true rfl) dX11_act_36 (fun H locs hP hS => ?_)
        exact zret_i X hP hS hf rfl dX11_act_39
      · refine lv_iconst (v := 0) hx hb dX11_act_25 (by decide) ?_
        exact zret_i X hP hS hf rfl dX11_act_26
theorem dX11_trace_0 : decode cX11_trace 0 = .ok (.iload_n 1, 1) := by decide +kernel
theorem dX11_trace_1 : decode cX11_trace 1 = .ok (.ifCond .lt 14, 3) := by decide +kernel
theorem dX11_trace_4 : decode cX11_trace 4 = .ok (.iload_n 1, 1) := by decide +kernel
theorem dX11_trace_5 : decode cX11_trace 5 = .ok (.aload_n 0, 1) := by decide +kernel
theorem dX11_trace_6 : decode cX11_trace 6 = .ok (.getfield 70, 3) := by decide +kernel
theorem dX11_trace_9 : decode cX11_trace 9 = .ok (.getfield 402, 3) := by decide +kernel
theorem dX11_trace_12 : decode cX11_trace 12 = .ok (.if_icmp .lt 8, 3) := by decide +kernel
theorem dX11_trace_15 : decode cX11_trace 15 = .ok (.bipush (-2), 2) := by decide +kernel
theorem dX11_trace_17 : decode cX11_trace 17 = .ok (.goto 12, 3) := by decide +kernel
theorem dX11_trace_20 : decode cX11_trace 20 = .ok (.aload_n 0, 1) := by decide +kernel
theorem dX11_trace_21 : decode cX11_trace 21 = .ok (.getfield 70, 3) := by decide +kernel
theorem dX11_trace_24 : decode cX11_trace 24 = .ok (.getfield 403, 3) := by decide +kernel
theorem dX11_trace_27 : decode cX11_trace 27 = .ok (.iload_n 1, 1) := by decide +kernel
theorem dX11_trace_28 : decode cX11_trace 28 = .ok (.iaload, 1) := by decide +kernel
theorem dX11_trace_29 : decode cX11_trace 29 = .ok (.ireturn, 1) := by decide +kernel
set_option maxHeartbeats 4000000 in
set_option maxRecDepth 100000 in
theorem cn_X11_trace {l : Launch} {cA : Nat → ClassId} {ad : Nat → Nat} {D : va_G} {E : Nat → Nat} {A : Nat → Prop} {x1 : Int32} {s0 sr : SS} {rr : Int32} (hf : f_X11_trace x1 s0 = some (rr, sr)) : zCon Ox Nx cA ad D E l yX11_trace cX11_trace 2 (some .int) 0 A [.ref (ad 0), .int x1] s0 (some (.int rr)) sr := by
  refine zstart (own := RX11) hOx (by decide) rfl (Nat.le_of_ble_eq_true rfl) ?_
  intro p e s m args below meth c X hP ls hl
  have hx := X.1
  have hb := X.2.1
  have hl : lv_has ls 2 [(0, .ref (ad 0)), (1, .int x1)] := hl
  have hS : va_S A s.heap s.heap [] := va_S.rf
  rw [f_X11_trace] at hf
  refine lv_iload_n hx hb dX11_trace_0 rfl (lv_at hl 1 rfl) ?_
  refine zif_lt (tgt := 15) hx hb dX11_trace_1 (by decide) hf (fun hf => ?_) (fun hf => ?_)
  · refine lv_bipush (v := (-2)) hx hb dX11_trace_15 (by decide) ?_
    refine lv_goto (tgt := 29) hx hb dX11_trace_17 (by decide) ?_
    exact zret_i X hP hS hf rfl dX11_trace_29
  · refine lv_iload_n hx hb dX11_trace_4 rfl (lv_at hl 1 rfl) ?_
    refine lv_aload_n hx hb dX11_trace_5 rfl (lv_at hl 0 rfl) ?_
    refine gf_X11_70 X hP (k := 0) (q := 12) rfl dX11_trace_6 rfl ?_
    refine gf_X11_402 X hP (k := 12) rfl dX11_trace_9 ?_
    refine zicmp_lt (tgt := 20) hx hb dX11_trace_12 (by decide) hf (fun hf => ?_) (fun hf => ?_)
    · refine lv_aload_n hx hb dX11_trace_20 rfl (lv_at hl 0 rfl) ?_
      refine gf_X11_70 X hP (k := 0) (q := 12) rfl dX11_trace_21 rfl ?_
      refine gf_X11_403 X hP (k := 12) (q := 82) rfl dX11_trace_24 rfl ?_
      refine lv_iload_n hx hb dX11_trace_27 rfl (lv_at hl 1 rfl) ?_
      obtain ⟨g1, hf⟩ := zgd hf
      refine zald_i X hP (k := 82) (n := 24) (rs := []) rfl g1 dX11_trace_28 ?_
      exact zret_i X hP hS hf rfl dX11_trace_29
    · refine lv_bipush (v := (-2)) hx hb dX11_trace_15 (by decide) ?_
      refine lv_goto (tgt := 29) hx hb dX11_trace_17 (by decide) ?_
      exact zret_i X hP hS hf rfl dX11_trace_29
theorem dX11_taken_0 : decode cX11_taken 0 = .ok (.aload_n 0, 1) := by decide +kernel
theorem dX11_taken_1 : decode cX11_taken 1 = .ok (.getfield 12, 3) := by decide +kernel
theorem dX11_taken_4 : decode cX11_taken 4 = .ok (.iload_n 1, 1) := by decide +kernel
theorem dX11_taken_5 : decode cX11_taken 5 = .ok (.i2l, 1) := by decide +kernel
theorem dX11_taken_6 : decode cX11_taken 6 = .ok (.invokevirtual 155, 3) := by decide +kernel
theorem dX11_taken_9 : decode cX11_taken 9 = .ok (.astore_n 3, 1) := by decide +kernel
theorem dX11_taken_10 : decode cX11_taken 10 = .ok (.aload_n 3, 1) := by decide +kernel
theorem dX11_taken_11 : decode cX11_taken 11 = .ok (.ifnull 12, 3) := by decide +kernel
theorem dX11_taken_14 : decode cX11_taken 14 = .ok (.iload_n 2, 1) := by decide +kernel
theorem dX11_taken_15 : decode cX11_taken 15 = .ok (.ifCond .lt 8, 3) := by decide +kernel
theorem dX11_taken_18 : decode cX11_taken 18 = .ok (.iload_n 2, 1) := by decide +kernel
theorem dX11_taken_19 : decode cX11_taken 19 = .ok (.iconst 5, 1) := by decide +kernel
theorem dX11_taken_20 : decode cX11_taken 20 = .ok (.if_icmp .le 5, 3) := by decide +kernel
theorem dX11_taken_23 : decode cX11_taken 23 = .ok (.iconst (-1), 1) := by decide +kernel
theorem dX11_taken_24 : decode cX11_taken 24 = .ok (.ireturn, 1) := by decide +kernel
theorem dX11_taken_25 : decode cX11_taken 25 = .ok (.aload_n 3, 1) := by decide +kernel
theorem dX11_taken_26 : decode cX11_taken 26 = .ok (.iload_n 2, 1) := by decide +kernel
theorem dX11_taken_27 : decode cX11_taken 27 = .ok (.invokevirtual 406, 3) := by decide +kernel
theorem dX11_taken_30 : decode cX11_taken 30 = .ok (.ifCond .ne 6, 3) := by decide +kernel
theorem dX11_taken_33 : decode cX11_taken 33 = .ok (.bipush (-5), 2) := by decide +kernel
theorem dX11_taken_35 : decode cX11_taken 35 = .ok (.ireturn, 1) := by decide +kernel
theorem dX11_taken_36 : decode cX11_taken 36 = .ok (.iload_n 2, 1) := by decide +kernel
theorem dX11_taken_37 : decode cX11_taken 37 = .ok (.iconst 2, 1) := by decide +kernel
theorem dX11_taken_38 : decode cX11_taken 38 = .ok (.if_icmp .lt 15, 3) := by decide +kernel
theorem dX11_taken_41 : decode cX11_taken 41 = .ok (.iload_n 2, 1) := by decide +kernel
theorem dX11_taken_42 : decode cX11_taken 42 = .ok (.iconst 4, 1) := by decide +kernel
theorem dX11_taken_43 : decode cX11_taken 43 = .ok (.if_icmp .gt 10, 3) := by decide +kernel
theorem dX11_taken_46 : decode cX11_taken 46 = .ok (.aload_n 3, 1) := by decide +kernel
theorem dX11_taken_47 : decode cX11_taken 47 = .ok (.getfield 171, 3) := by decide +kernel
theorem dX11_taken_50 : decode cX11_taken 50 = .ok (.goto 4, 3) := by decide +kernel
theorem dX11_taken_53 : decode cX11_taken 53 = .ok (.iload_n 1, 1) := by decide +kernel
theorem dX11_taken_54 : decode cX11_taken 54 = .ok (.ireturn, 1) := by decide +kernel
set_option maxHeartbeats 4000000 in
set_option maxRecDepth 100000 in
theorem cn_X11_taken {l : Launch} {cA : Nat → ClassId} {ad : Nat → Nat} {D : va_G} {E : Nat → Nat} {A : Nat → Prop} {x1 : Int32} {x2 : Int32} {s0 sr : SS} {rr : Int32} (hf : f_X11_taken x1 x2 s0 = some (rr, sr)) : zCon Ox Nx cA ad D E l yX11_taken cX11_taken 4 (some .int) 1 A [.ref (ad 0), .int x1, .int x2] s0 (some (.int rr)) sr := by
  refine zstart (own := RX11) hOx (by decide) rfl (Nat.le_of_ble_eq_true rfl) ?_
  intro p e s m args below meth c X hP ls hl
  have hx := X.1
  have hb := X.2.1
  have hl : lv_has ls 4 [(0, .ref (ad 0)), (1, .int x1), (2, .int x2)] := hl
  have hS : va_S A s.heap s.heap [] := va_S.rf
  rw [f_X11_taken] at hf
  refine lv_aload_n hx hb dX11_taken_0 rfl (lv_at hl 0 rfl) ?_
  refine gf_X11_12 X hP (k := 0) (q := 1) rfl dX11_taken_1 rfl ?_
  refine lv_iload_n hx hb dX11_taken_4 rfl (lv_at hl 1 rfl) ?_
  refine lv_i2l hx hb dX11_taken_5 rfl ?_
  obtain ⟨r1, s2, h3, hf⟩ := zbd_some hf
  refine zcallV X hP hS hl.1 (k := 1) (As := [.long (x1).toInt64]) (rest := []) (cn_X3_classAt h3) cw_X3_classAt zp_3 rfl (by decide) rfl ml_X11_155 (by decide) rfl rfl (Nat.le_of_ble_eq_true rfl) dX11_taken_6 (fun H locs hP hS => ?_)
  rcases r1 with _ | k4
  · have hf := zbn_none hf
    refine lv_astore_nN (lv' := [(3, .null), (0, .ref (ad 0)), (1, .int x1), (2, .int x2)]) hx hb dX11_taken_9 rfl hl (by decide) rfl (fun ls hl => ?_)
    refine lv_aload_nN hx hb dX11_taken_10 rfl (lv_at hl 0 rfl) ?_
    refine lv_ifnullN (tgt := 23) hx hb dX11_taken_11 (by decide) ?_
    refine lv_iconst (v := (-1)) hx hb dX11_taken_23 (by decide) ?_
    exact zret_i X hP hS hf rfl dX11_taken_24
  · have hf := zbn_some hf
    obtain ⟨g5, hf⟩ := zgd hf
    refine lv_astore_n (lv' := [(3, .ref (ad k4)), (0, .ref (ad 0)), (1, .int x1), (2, .int x2)]) hx hb dX11_taken_9 rfl hl (by decide) rfl (fun ls hl => ?_)
    refine lv_aload_n hx hb dX11_taken_10 rfl (lv_at hl 0 rfl) ?_
    refine lv_ifnull hx hb dX11_taken_11 ?_
    refine lv_iload_n hx hb dX11_taken_14 rfl (lv_at hl 3 rfl) ?_
    refine zif_lt (tgt := 23) hx hb dX11_taken_15 (by decide) hf (fun hf => ?_) (fun hf => ?_)
    · refine lv_iconst (v := (-1)) hx hb dX11_taken_23 (by decide) ?_
      exact zret_i X hP hS hf rfl dX11_taken_24
    · refine lv_iload_n hx hb dX11_taken_18 rfl (lv_at hl 3 rfl) ?_
      refine lv_iconst (v := 5) hx hb dX11_taken_19 (by decide) ?_
      refine zicmp_le (tgt := 25) hx hb dX11_taken_20 (by decide) hf (fun hf => ?_) (fun hf => ?_)
      · refine lv_aload_n hx hb dX11_taken_25 rfl (lv_at hl 0 rfl) ?_
        refine lv_iload_n hx hb dX11_taken_26 rfl (lv_at hl 3 rfl) ?_
        obtain ⟨r6, s7, h8, hf⟩ := zbd_some hf
        refine zcallV X hP hS hl.1 (k := k4) (As := [.int x2]) (rest := []) (cn_X4_isUnder h8) cw_X4_isUnder zp_4 g5 (by decide) rfl ml_X11_406 (by decide) rfl rfl (Nat.le_of_ble_eq_true rfl) dX11_taken_27 (fun H locs hP hS => ?_)
        refine zif_ne (tgt := 36) hx hb dX11_taken_30 (by decide) hf (fun hf => ?_) (fun hf => ?_)
        · refine lv_iload_n hx hb dX11_taken_36 rfl (lv_at hl 3 rfl) ?_
          refine lv_iconst (v := 2) hx hb dX11_taken_37 (by decide) ?_
          refine zicmp_lt (tgt := 53) hx hb dX11_taken_38 (by decide) hf (fun hf => ?_) (fun hf => ?_)
          · refine lv_iload_n hx hb dX11_taken_53 rfl (lv_at hl 2 rfl) ?_
            exact zret_i X hP hS hf rfl dX11_taken_54
          · refine lv_iload_n hx hb dX11_taken_41 rfl (lv_at hl 3 rfl) ?_
            refine lv_iconst (v := 4) hx hb dX11_taken_42 (by decide) ?_
            refine zicmp_gt (tgt := 53) hx hb dX11_taken_43 (by decide) hf (fun hf => ?_) (fun hf => ?_)
            · refine lv_iload_n hx hb dX11_taken_53 rfl (lv_at hl 2 rfl) ?_
              exact zret_i X hP hS hf rfl dX11_taken_54
            · refine lv_aload_n hx hb dX11_taken_46 rfl (lv_at hl 0 rfl) ?_
              refine gf_X11_171 X hP (k := k4) g5 dX11_taken_47 ?_
              refine lv_goto (tgt := 54) hx hb dX11_taken_50 (by decide) ?_
              exact zret_i X hP hS hf rfl dX11_taken_54
        · refine lv_bipush (v := (-5)) hx hb dX11_taken_33 (by decide) ?_
          exact zret_i X hP hS hf rfl dX11_taken_35
      · refine lv_iconst (v := (-1)) hx hb dX11_taken_23 (by decide) ?_
        exact zret_i X hP hS hf rfl dX11_taken_24
theorem dX11_tellChange_0 : decode cX11_tellChange 0 = .ok (.iload_n 1, 1) := by decide +kernel
theorem dX11_tellChange_1 : decode cX11_tellChange 1 = .ok (.ifCond .lt 9, 3) := by decide +kernel
theorem dX11_tellChange_4 : decode cX11_tellChange 4 = .ok (.iload_n 1, 1) := by decide +kernel
theorem dX11_tellChange_5 : decode cX11_tellChange 5 = .ok (.aload_n 2, 1) := by decide +kernel
theorem dX11_tellChange_6 : decode cX11_tellChange 6 = .ok (.arraylength, 1) := by decide +kernel
theorem dX11_tellChange_7 : decode cX11_tellChange 7 = .ok (.if_icmp .lt 4, 3) := by decide +kernel
theorem dX11_tellChange_10 : decode cX11_tellChange 10 = .ok (.return_, 1) := by decide +kernel
theorem dX11_tellChange_11 : decode cX11_tellChange 11 = .ok (.aload_n 0, 1) := by decide +kernel
theorem dX11_tellChange_12 : decode cX11_tellChange 12 = .ok (.getfield 12, 3) := by decide +kernel
theorem dX11_tellChange_15 : decode cX11_tellChange 15 = .ok (.aload_n 0, 1) := by decide +kernel
theorem dX11_tellChange_16 : decode cX11_tellChange 16 = .ok (.getfield 35, 3) := by decide +kernel
theorem dX11_tellChange_19 : decode cX11_tellChange 19 = .ok (.getfield 425, 3) := by decide +kernel
theorem dX11_tellChange_22 : decode cX11_tellChange 22 = .ok (.iload_n 1, 1) := by decide +kernel
theorem dX11_tellChange_23 : decode cX11_tellChange 23 = .ok (.iaload, 1) := by decide +kernel
theorem dX11_tellChange_24 : decode cX11_tellChange 24 = .ok (.i2l, 1) := by decide +kernel
theorem dX11_tellChange_25 : decode cX11_tellChange 25 = .ok (.invokevirtual 155, 3) := by decide +kernel
theorem dX11_tellChange_28 : decode cX11_tellChange 28 = .ok (.astore_n 3, 1) := by decide +kernel
theorem dX11_tellChange_29 : decode cX11_tellChange 29 = .ok (.aload_n 3, 1) := by decide +kernel
theorem dX11_tellChange_30 : decode cX11_tellChange 30 = .ok (.ifnull 20, 3) := by decide +kernel
theorem dX11_tellChange_33 : decode cX11_tellChange 33 = .ok (.aload_n 3, 1) := by decide +kernel
theorem dX11_tellChange_34 : decode cX11_tellChange 34 = .ok (.aload_n 0, 1) := by decide +kernel
theorem dX11_tellChange_35 : decode cX11_tellChange 35 = .ok (.getfield 35, 3) := by decide +kernel
theorem dX11_tellChange_38 : decode cX11_tellChange 38 = .ok (.getfield 428, 3) := by decide +kernel
theorem dX11_tellChange_41 : decode cX11_tellChange 41 = .ok (.iload_n 1, 1) := by decide +kernel
theorem dX11_tellChange_42 : decode cX11_tellChange 42 = .ok (.iaload, 1) := by decide +kernel
theorem dX11_tellChange_43 : decode cX11_tellChange 43 = .ok (.aload_n 2, 1) := by decide +kernel
theorem dX11_tellChange_44 : decode cX11_tellChange 44 = .ok (.iload_n 1, 1) := by decide +kernel
theorem dX11_tellChange_45 : decode cX11_tellChange 45 = .ok (.iaload, 1) := by decide +kernel
theorem dX11_tellChange_46 : decode cX11_tellChange 46 = .ok (.invokevirtual 159, 3) := by decide +kernel
theorem dX11_tellChange_49 : decode cX11_tellChange 49 = .ok (.pop, 1) := by decide +kernel
theorem dX11_tellChange_50 : decode cX11_tellChange 50 = .ok (.return_, 1) := by decide +kernel
set_option maxHeartbeats 4000000 in
set_option maxRecDepth 100000 in
theorem cn_X11_tellChange {l : Launch} {cA : Nat → ClassId} {ad : Nat → Nat} {D : va_G} {E : Nat → Nat} {A : Nat → Prop} {x1 : Int32} {k2 : Nat} {s0 sr : SS} {rr : Unit} (hf : f_X11_tellChange x1 k2 s0 = some (rr, sr)) : zCon Ox Nx cA ad D E l yX11_tellChange cX11_tellChange 4 none 1 A [.ref (ad 0), .int x1, .ref (ad k2)] s0 none sr := by
  refine zstart (own := RX11) hOx (by decide) rfl (Nat.le_of_ble_eq_true rfl) ?_
  intro p e s m args below meth c X hP ls hl
  have hx := X.1
  have hb := X.2.1
  have hl : lv_has ls 4 [(0, .ref (ad 0)), (1, .int x1), (2, .ref (ad k2))] := hl
  have hS : va_S A s.heap s.heap [] := va_S.rf
  rw [f_X11_tellChange] at hf
  refine lv_iload_n hx hb dX11_tellChange_0 rfl (lv_at hl 1 rfl) ?_
  refine zif_lt (tgt := 10) hx hb dX11_tellChange_1 (by decide) hf (fun hf => ?_) (fun hf => ?_)
  · exact zret_v X hP hS hf dX11_tellChange_10
  · refine lv_iload_n hx hb dX11_tellChange_4 rfl (lv_at hl 1 rfl) ?_
    refine lv_aload_n hx hb dX11_tellChange_5 rfl (lv_at hl 2 rfl) ?_
    obtain ⟨g1, hf⟩ := zgd hf
    obtain ⟨n2, on2⟩ := zia_of g1
    refine zalen X hP (k := k2) (t := 0) on2 (by decide) rfl dX11_tellChange_6 ?_
    refine zicmp_lt (tgt := 11) hx hb dX11_tellChange_7 (by decide) hf (fun hf => ?_) (fun hf => ?_)
    · refine lv_aload_n hx hb dX11_tellChange_11 rfl (lv_at hl 0 rfl) ?_
      refine gf_X11_12 X hP (k := 0) (q := 1) rfl dX11_tellChange_12 rfl ?_
      refine lv_aload_n hx hb dX11_tellChange_15 rfl (lv_at hl 0 rfl) ?_
      refine gf_X11_35 X hP (k := 0) (q := 7) rfl dX11_tellChange_16 rfl ?_
      refine gf_X11_425 X hP (k := 7) (q := 69) rfl dX11_tellChange_19 rfl ?_
      refine lv_iload_n hx hb dX11_tellChange_22 rfl (lv_at hl 1 rfl) ?_
      obtain ⟨g3, hf⟩ := zgd hf
      refine zald_i X hP (k := 69) (n := 12) (rs := []) rfl g3 dX11_tellChange_23 ?_
      refine lv_i2l hx hb dX11_tellChange_24 rfl ?_
      obtain ⟨r4, s5, h6, hf⟩ := zbd_some hf
      refine zcallV X hP hS hl.1 (k := 1) (As := [.long ((s0.1 69 (x1).toNatClampNeg)).toInt64]) (rest := []) (cn_X3_classAt h6) cw_X3_classAt zp_3 rfl (by decide) rfl ml_X11_155 (by decide) rfl rfl (Nat.le_of_ble_eq_true rfl) dX11_tellChange_25 (fun H locs hP hS => ?_)
      rcases r4 with _ | k7
      · have hf := zbn_none hf
        refine lv_astore_nN (lv' := [(3, .null), (0, .ref (ad 0)), (1, .int x1), (2, .ref (ad k2))]) hx hb dX11_tellChange_28 rfl hl (by decide) rfl (fun ls hl => ?_)
        refine lv_aload_nN hx hb dX11_tellChange_29 rfl (lv_at hl 0 rfl) ?_
        refine lv_ifnullN (tgt := 50) hx hb dX11_tellChange_30 (by decide) ?_
        exact zret_v X hP hS hf dX11_tellChange_50
      · have hf := zbn_some hf
        obtain ⟨g8, hf⟩ := zgd hf
        refine lv_astore_n (lv' := [(3, .ref (ad k7)), (0, .ref (ad 0)), (1, .int x1), (2, .ref (ad k2))]) hx hb dX11_tellChange_28 rfl hl (by decide) rfl (fun ls hl => ?_)
        refine lv_aload_n hx hb dX11_tellChange_29 rfl (lv_at hl 0 rfl) ?_
        refine lv_ifnull hx hb dX11_tellChange_30 ?_
        refine lv_aload_n hx hb dX11_tellChange_33 rfl (lv_at hl 0 rfl) ?_
        refine lv_aload_n hx hb dX11_tellChange_34 rfl (lv_at hl 1 rfl) ?_
        refine gf_X11_35 X hP (k := 0) (q := 7) rfl dX11_tellChange_35 rfl ?_
        refine gf_X11_428 X hP (k := 7) (q := 70) rfl dX11_tellChange_38 rfl ?_
        refine lv_iload_n hx hb dX11_tellChange_41 rfl (lv_at hl 2 rfl) ?_
        obtain ⟨g9, hf⟩ := zgd hf
        refine zald_i X hP (k := 70) (n := 12) (rs := []) rfl g9 dX11_tellChange_42 ?_
        refine lv_aload_n hx hb dX11_tellChange_43 rfl (lv_at hl 3 rfl) ?_
        refine lv_iload_n hx hb dX11_tellChange_44 rfl (lv_at hl 2 rfl) ?_
        obtain ⟨g10, hf⟩ := zgd hf
        obtain ⟨n14, rn14, on14, in14⟩ := zok_of g10
        refine zald_i X hP (k := k2) on14 in14 dX11_tellChange_45 ?_
        obtain ⟨r11, s12, h13, hf⟩ := zbd_some hf
        refine zcallV X hP hS hl.1 (k := k7) (As := [.int (s5.1 70 (x1).toNatClampNeg), .int (s5.1 k2 (x1).toNatClampNeg)]) (rest := []) (cn_X4_become h13) cw_X4_become zp_4 g8 (by decide) rfl ml_X11_159 (by decide) rfl rfl (Nat.le_of_ble_eq_true rfl) dX11_tellChange_46 (fun H locs hP hS => ?_)
        refine lv_pop hx hb dX11_tellChange_49 rfl ?_
        exact zret_v X hP hS hf dX11_tellChange_50
    · exact zret_v X hP hS hf dX11_tellChange_10
theorem dX11_undo_0 : decode cX11_undo 0 = .ok (.aload_n 0, 1) := by decide +kernel
theorem dX11_undo_1 : decode cX11_undo 1 = .ok (.getfield 35, 3) := by decide +kernel
theorem dX11_undo_4 : decode cX11_undo 4 = .ok (.getfield 409, 3) := by decide +kernel
theorem dX11_undo_7 : decode cX11_undo 7 = .ok (.ifCond .ne 6, 3) := by decide +kernel
theorem dX11_undo_10 : decode cX11_undo 10 = .ok (.bipush (-5), 2) := by decide +kernel
theorem dX11_undo_12 : decode cX11_undo 12 = .ok (.ireturn, 1) := by decide +kernel
theorem dX11_undo_13 : decode cX11_undo 13 = .ok (.aload_n 0, 1) := by decide +kernel
theorem dX11_undo_14 : decode cX11_undo 14 = .ok (.getfield 35, 3) := by decide +kernel
theorem dX11_undo_17 : decode cX11_undo 17 = .ok (.dup, 1) := by decide +kernel
theorem dX11_undo_18 : decode cX11_undo 18 = .ok (.getfield 409, 3) := by decide +kernel
theorem dX11_undo_21 : decode cX11_undo 21 = .ok (.iconst 1, 1) := by decide +kernel
theorem dX11_undo_22 : decode cX11_undo 22 = .ok (.isub, 1) := by decide +kernel
theorem dX11_undo_23 : decode cX11_undo 23 = .ok (.putfield 409, 3) := by decide +kernel
theorem dX11_undo_26 : decode cX11_undo 26 = .ok (.aload_n 0, 1) := by decide +kernel
theorem dX11_undo_27 : decode cX11_undo 27 = .ok (.getfield 35, 3) := by decide +kernel
theorem dX11_undo_30 : decode cX11_undo 30 = .ok (.dup, 1) := by decide +kernel
theorem dX11_undo_31 : decode cX11_undo 31 = .ok (.getfield 412, 3) := by decide +kernel
theorem dX11_undo_34 : decode cX11_undo 34 = .ok (.iconst 1, 1) := by decide +kernel
theorem dX11_undo_35 : decode cX11_undo 35 = .ok (.iadd, 1) := by decide +kernel
theorem dX11_undo_36 : decode cX11_undo 36 = .ok (.putfield 412, 3) := by decide +kernel
theorem dX11_undo_39 : decode cX11_undo 39 = .ok (.aload_n 0, 1) := by decide +kernel
theorem dX11_undo_40 : decode cX11_undo 40 = .ok (.aload_n 0, 1) := by decide +kernel
theorem dX11_undo_41 : decode cX11_undo 41 = .ok (.getfield 35, 3) := by decide +kernel
theorem dX11_undo_44 : decode cX11_undo 44 = .ok (.getfield 409, 3) := by decide +kernel
theorem dX11_undo_47 : decode cX11_undo 47 = .ok (.aload_n 0, 1) := by decide +kernel
theorem dX11_undo_48 : decode cX11_undo 48 = .ok (.getfield 35, 3) := by decide +kernel
theorem dX11_undo_51 : decode cX11_undo 51 = .ok (.getfield 415, 3) := by decide +kernel
theorem dX11_undo_54 : decode cX11_undo 54 = .ok (.invokevirtual 418, 3) := by decide +kernel
theorem dX11_undo_57 : decode cX11_undo 57 = .ok (.aload_n 0, 1) := by decide +kernel
theorem dX11_undo_58 : decode cX11_undo 58 = .ok (.getfield 35, 3) := by decide +kernel
theorem dX11_undo_61 : decode cX11_undo 61 = .ok (.getfield 409, 3) := by decide +kernel
theorem dX11_undo_64 : decode cX11_undo 64 = .ok (.ireturn, 1) := by decide +kernel
set_option maxHeartbeats 4000000 in
set_option maxRecDepth 100000 in
theorem cn_X11_undo {l : Launch} {cA : Nat → ClassId} {ad : Nat → Nat} {D : va_G} {E : Nat → Nat} {A : Nat → Prop}  {s0 sr : SS} {rr : Int32} (hf : f_X11_undo s0 = some (rr, sr)) : zCon Ox Nx cA ad D E l yX11_undo cX11_undo 1 (some .int) 2 A [.ref (ad 0)] s0 (some (.int rr)) sr := by
  refine zstart (own := RX11) hOx (by decide) rfl (Nat.le_of_ble_eq_true rfl) ?_
  intro p e s m args below meth c X hP ls hl
  have hx := X.1
  have hb := X.2.1
  have hl : lv_has ls 1 [(0, .ref (ad 0))] := hl
  have hS : va_S A s.heap s.heap [] := va_S.rf
  rw [f_X11_undo] at hf
  refine lv_aload_n hx hb dX11_undo_0 rfl (lv_at hl 0 rfl) ?_
  refine gf_X11_35 X hP (k := 0) (q := 7) rfl dX11_undo_1 rfl ?_
  refine gf_X11_409 X hP (k := 7) rfl dX11_undo_4 ?_
  refine zif_ne (tgt := 13) hx hb dX11_undo_7 (by decide) hf (fun hf => ?_) (fun hf => ?_)
  · refine lv_aload_n hx hb dX11_undo_13 rfl (lv_at hl 0 rfl) ?_
    refine gf_X11_35 X hP (k := 0) (q := 7) rfl dX11_undo_14 rfl ?_
    refine lv_dup hx hb dX11_undo_17 rfl ?_
    refine gf_X11_409 X hP (k := 7) rfl dX11_undo_18 ?_
    refine lv_iconst (v := 1) hx hb dX11_undo_21 (by decide) ?_
    refine lv_isub hx hb dX11_undo_22 ?_
    refine pf_X11_409 X hP hS (k := 7) rfl dX11_undo_23 (fun H locs hP hS => ?_)
    refine lv_aload_n hx hb dX11_undo_26 rfl (lv_at hl 0 rfl) ?_
    refine gf_X11_35 X hP (k := 0) (q := 7) rfl dX11_undo_27 rfl ?_
    refine lv_dup hx hb dX11_undo_30 rfl ?_
    refine gf_X11_412 X hP (k := 7) rfl dX11_undo_31 ?_
    refine lv_iconst (v := 1) hx hb dX11_undo_34 (by decide) ?_
    refine lv_iadd hx hb dX11_undo_35 ?_
    refine pf_X11_412 X hP hS (k := 7) rfl dX11_undo_36 (fun H locs hP hS => ?_)
    refine lv_aload_n hx hb dX11_undo_39 rfl (lv_at hl 0 rfl) ?_
    refine lv_aload_n hx hb dX11_undo_40 rfl (lv_at hl 0 rfl) ?_
    refine gf_X11_35 X hP (k := 0) (q := 7) rfl dX11_undo_41 rfl ?_
    refine gf_X11_409 X hP (k := 7) rfl dX11_undo_44 ?_
    refine lv_aload_n hx hb dX11_undo_47 rfl (lv_at hl 0 rfl) ?_
    refine gf_X11_35 X hP (k := 0) (q := 7) rfl dX11_undo_48 rfl ?_
    refine gf_X11_415 X hP (k := 7) (q := 71) rfl dX11_undo_51 rfl ?_
    obtain ⟨r1, s2, h3, hf⟩ := zbd_some hf
    refine zcallV X hP hS hl.1 (k := 0) (As := [.int ((zS (zS s0 7 4 ((s0.1 7 4) - (1 : Int32))) 7 5 (((zS s0 7 4 ((s0.1 7 4) - (1 : Int32))).1 7 5) + (1 : Int32))).1 7 4), .ref (ad 71)]) (rest := []) (cn_X11_tellChange h3) cw_X11_tellChange zp_11 rfl (by decide) rfl ml_X11_418 (by decide) rfl rfl (Nat.le_of_ble_eq_true rfl) dX11_undo_54 (fun H locs hP hS => ?_)
    refine lv_aload_n hx hb dX11_undo_57 rfl (lv_at hl 0 rfl) ?_
    refine gf_X11_35 X hP (k := 0) (q := 7) rfl dX11_undo_58 rfl ?_
    refine gf_X11_409 X hP (k := 7) rfl dX11_undo_61 ?_
    exact zret_i X hP hS hf rfl dX11_undo_64
  · refine lv_bipush (v := (-5)) hx hb dX11_undo_10 (by decide) ?_
    exact zret_i X hP hS hf rfl dX11_undo_12
theorem dX11_redo_0 : decode cX11_redo 0 = .ok (.aload_n 0, 1) := by decide +kernel
theorem dX11_redo_1 : decode cX11_redo 1 = .ok (.getfield 35, 3) := by decide +kernel
theorem dX11_redo_4 : decode cX11_redo 4 = .ok (.getfield 412, 3) := by decide +kernel
theorem dX11_redo_7 : decode cX11_redo 7 = .ok (.ifCond .ne 6, 3) := by decide +kernel
theorem dX11_redo_10 : decode cX11_redo 10 = .ok (.bipush (-5), 2) := by decide +kernel
theorem dX11_redo_12 : decode cX11_redo 12 = .ok (.ireturn, 1) := by decide +kernel
theorem dX11_redo_13 : decode cX11_redo 13 = .ok (.aload_n 0, 1) := by decide +kernel
theorem dX11_redo_14 : decode cX11_redo 14 = .ok (.aload_n 0, 1) := by decide +kernel
theorem dX11_redo_15 : decode cX11_redo 15 = .ok (.getfield 35, 3) := by decide +kernel
theorem dX11_redo_18 : decode cX11_redo 18 = .ok (.getfield 409, 3) := by decide +kernel
theorem dX11_redo_21 : decode cX11_redo 21 = .ok (.aload_n 0, 1) := by decide +kernel
theorem dX11_redo_22 : decode cX11_redo 22 = .ok (.getfield 35, 3) := by decide +kernel
theorem dX11_redo_25 : decode cX11_redo 25 = .ok (.getfield 422, 3) := by decide +kernel
theorem dX11_redo_28 : decode cX11_redo 28 = .ok (.invokevirtual 418, 3) := by decide +kernel
theorem dX11_redo_31 : decode cX11_redo 31 = .ok (.aload_n 0, 1) := by decide +kernel
theorem dX11_redo_32 : decode cX11_redo 32 = .ok (.getfield 35, 3) := by decide +kernel
theorem dX11_redo_35 : decode cX11_redo 35 = .ok (.dup, 1) := by decide +kernel
theorem dX11_redo_36 : decode cX11_redo 36 = .ok (.getfield 409, 3) := by decide +kernel
theorem dX11_redo_39 : decode cX11_redo 39 = .ok (.iconst 1, 1) := by decide +kernel
theorem dX11_redo_40 : decode cX11_redo 40 = .ok (.iadd, 1) := by decide +kernel
theorem dX11_redo_41 : decode cX11_redo 41 = .ok (.putfield 409, 3) := by decide +kernel
theorem dX11_redo_44 : decode cX11_redo 44 = .ok (.aload_n 0, 1) := by decide +kernel
theorem dX11_redo_45 : decode cX11_redo 45 = .ok (.getfield 35, 3) := by decide +kernel
theorem dX11_redo_48 : decode cX11_redo 48 = .ok (.dup, 1) := by decide +kernel
theorem dX11_redo_49 : decode cX11_redo 49 = .ok (.getfield 412, 3) := by decide +kernel
theorem dX11_redo_52 : decode cX11_redo 52 = .ok (.iconst 1, 1) := by decide +kernel
theorem dX11_redo_53 : decode cX11_redo 53 = .ok (.isub, 1) := by decide +kernel
theorem dX11_redo_54 : decode cX11_redo 54 = .ok (.putfield 412, 3) := by decide +kernel
theorem dX11_redo_57 : decode cX11_redo 57 = .ok (.aload_n 0, 1) := by decide +kernel
theorem dX11_redo_58 : decode cX11_redo 58 = .ok (.getfield 35, 3) := by decide +kernel
theorem dX11_redo_61 : decode cX11_redo 61 = .ok (.getfield 412, 3) := by decide +kernel
theorem dX11_redo_64 : decode cX11_redo 64 = .ok (.ireturn, 1) := by decide +kernel
set_option maxHeartbeats 4000000 in
set_option maxRecDepth 100000 in
theorem cn_X11_redo {l : Launch} {cA : Nat → ClassId} {ad : Nat → Nat} {D : va_G} {E : Nat → Nat} {A : Nat → Prop}  {s0 sr : SS} {rr : Int32} (hf : f_X11_redo s0 = some (rr, sr)) : zCon Ox Nx cA ad D E l yX11_redo cX11_redo 1 (some .int) 2 A [.ref (ad 0)] s0 (some (.int rr)) sr := by
  refine zstart (own := RX11) hOx (by decide) rfl (Nat.le_of_ble_eq_true rfl) ?_
  intro p e s m args below meth c X hP ls hl
  have hx := X.1
  have hb := X.2.1
  have hl : lv_has ls 1 [(0, .ref (ad 0))] := hl
  have hS : va_S A s.heap s.heap [] := va_S.rf
  rw [f_X11_redo] at hf
  refine lv_aload_n hx hb dX11_redo_0 rfl (lv_at hl 0 rfl) ?_
  refine gf_X11_35 X hP (k := 0) (q := 7) rfl dX11_redo_1 rfl ?_
  refine gf_X11_412 X hP (k := 7) rfl dX11_redo_4 ?_
  refine zif_ne (tgt := 13) hx hb dX11_redo_7 (by decide) hf (fun hf => ?_) (fun hf => ?_)
  · refine lv_aload_n hx hb dX11_redo_13 rfl (lv_at hl 0 rfl) ?_
    refine lv_aload_n hx hb dX11_redo_14 rfl (lv_at hl 0 rfl) ?_
    refine gf_X11_35 X hP (k := 0) (q := 7) rfl dX11_redo_15 rfl ?_
    refine gf_X11_409 X hP (k := 7) rfl dX11_redo_18 ?_
    refine lv_aload_n hx hb dX11_redo_21 rfl (lv_at hl 0 rfl) ?_
    refine gf_X11_35 X hP (k := 0) (q := 7) rfl dX11_redo_22 rfl ?_
    refine gf_X11_422 X hP (k := 7) (q := 72) rfl dX11_redo_25 rfl ?_
    obtain ⟨r1, s2, h3, hf⟩ := zbd_some hf
    refine zcallV X hP hS hl.1 (k := 0) (As := [.int (s0.1 7 4), .ref (ad 72)]) (rest := []) (cn_X11_tellChange h3) cw_X11_tellChange zp_11 rfl (by decide) rfl ml_X11_418 (by decide) rfl rfl (Nat.le_of_ble_eq_true rfl) dX11_redo_28 (fun H locs hP hS => ?_)
    refine lv_aload_n hx hb dX11_redo_31 rfl (lv_at hl 0 rfl) ?_
    refine gf_X11_35 X hP (k := 0) (q := 7) rfl dX11_redo_32 rfl ?_
    refine lv_dup hx hb dX11_redo_35 rfl ?_
    refine gf_X11_409 X hP (k := 7) rfl dX11_redo_36 ?_
    refine lv_iconst (v := 1) hx hb dX11_redo_39 (by decide) ?_
    refine lv_iadd hx hb dX11_redo_40 ?_
    refine pf_X11_409 X hP hS (k := 7) rfl dX11_redo_41 (fun H locs hP hS => ?_)
    refine lv_aload_n hx hb dX11_redo_44 rfl (lv_at hl 0 rfl) ?_
    refine gf_X11_35 X hP (k := 0) (q := 7) rfl dX11_redo_45 rfl ?_
    refine lv_dup hx hb dX11_redo_48 rfl ?_
    refine gf_X11_412 X hP (k := 7) rfl dX11_redo_49 ?_
    refine lv_iconst (v := 1) hx hb dX11_redo_52 (by decide) ?_
    refine lv_isub hx hb dX11_redo_53 ?_
    refine pf_X11_412 X hP hS (k := 7) rfl dX11_redo_54 (fun H locs hP hS => ?_)
    refine lv_aload_n hx hb dX11_redo_57 rfl (lv_at hl 0 rfl) ?_
    refine gf_X11_35 X hP (k := 0) (q := 7) rfl dX11_redo_58 rfl ?_
    refine gf_X11_412 X hP (k := 7) rfl dX11_redo_61 ?_
    exact zret_i X hP hS hf rfl dX11_redo_64
  · refine lv_bipush (v := (-5)) hx hb dX11_redo_10 (by decide) ?_
    exact zret_i X hP hS hf rfl dX11_redo_12
