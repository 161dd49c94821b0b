theorem dX8_hold_0 : decode cX8_hold 0 = .ok (.iconst 0, 1) := by decide +kernel
theorem dX8_hold_1 : decode cX8_hold 1 = .ok (.istore_n 2, 1) := by decide +kernel
theorem dX8_hold_2 : decode cX8_hold 2 = .ok (.iconst 0, 1) := by decide +kernel
theorem dX8_hold_3 : decode cX8_hold 3 = .ok (.istore_n 3, 1) := by decide +kernel
theorem dX8_hold_4 : decode cX8_hold 4 = .ok (.iload_n 3, 1) := by decide +kernel
theorem dX8_hold_5 : decode cX8_hold 5 = .ok (.aload_n 0, 1) := by decide +kernel
theorem dX8_hold_6 : decode cX8_hold 6 = .ok (.getfield 10, 3) := by decide +kernel
theorem dX8_hold_9 : decode cX8_hold 9 = .ok (.getfield 42, 3) := by decide +kernel
theorem dX8_hold_12 : decode cX8_hold 12 = .ok (.if_icmp .ge 43, 3) := by decide +kernel
theorem dX8_hold_15 : decode cX8_hold 15 = .ok (.aload_n 1, 1) := by decide +kernel
theorem dX8_hold_16 : decode cX8_hold 16 = .ok (.aload_n 0, 1) := by decide +kernel
theorem dX8_hold_17 : decode cX8_hold 17 = .ok (.getfield 10, 3) := by decide +kernel
theorem dX8_hold_20 : decode cX8_hold 20 = .ok (.getfield 84, 3) := by decide +kernel
theorem dX8_hold_23 : decode cX8_hold 23 = .ok (.iload_n 3, 1) := by decide +kernel
theorem dX8_hold_24 : decode cX8_hold 24 = .ok (.iaload, 1) := by decide +kernel
theorem dX8_hold_25 : decode cX8_hold 25 = .ok (.laload, 1) := by decide +kernel
theorem dX8_hold_26 : decode cX8_hold 26 = .ok (.lconst 0, 1) := by decide +kernel
theorem dX8_hold_27 : decode cX8_hold 27 = .ok (.lcmp, 1) := by decide +kernel
theorem dX8_hold_28 : decode cX8_hold 28 = .ok (.ifCond .eq 21, 3) := by decide +kernel
theorem dX8_hold_31 : decode cX8_hold 31 = .ok (.aload_n 0, 1) := by decide +kernel
theorem dX8_hold_32 : decode cX8_hold 32 = .ok (.getfield 32, 3) := by decide +kernel
theorem dX8_hold_35 : decode cX8_hold 35 = .ok (.iload_n 2, 1) := by decide +kernel
theorem dX8_hold_36 : decode cX8_hold 36 = .ok (.aload_n 0, 1) := by decide +kernel
theorem dX8_hold_37 : decode cX8_hold 37 = .ok (.getfield 10, 3) := by decide +kernel
theorem dX8_hold_40 : decode cX8_hold 40 = .ok (.getfield 84, 3) := by decide +kernel
theorem dX8_hold_43 : decode cX8_hold 43 = .ok (.iload_n 3, 1) := by decide +kernel
theorem dX8_hold_44 : decode cX8_hold 44 = .ok (.iaload, 1) := by decide +kernel
theorem dX8_hold_45 : decode cX8_hold 45 = .ok (.iastore, 1) := by decide +kernel
theorem dX8_hold_46 : decode cX8_hold 46 = .ok (.iinc 2 1, 3) := by decide +kernel
theorem dX8_hold_49 : decode cX8_hold 49 = .ok (.iinc 3 1, 3) := by decide +kernel
theorem dX8_hold_52 : decode cX8_hold 52 = .ok (.goto (-48), 3) := by decide +kernel
theorem dX8_hold_55 : decode cX8_hold 55 = .ok (.iload_n 2, 1) := by decide +kernel
theorem dX8_hold_56 : decode cX8_hold 56 = .ok (.ireturn, 1) := by decide +kernel
set_option maxHeartbeats 4000000 in
set_option maxRecDepth 100000 in
theorem cn_X8_hold {l : Launch} {cA : Nat → ClassId} {ad : Nat → Nat} {D : va_G} {E : Nat → Nat} {A : Nat → Prop} {k1 : Nat} {s0 sr : SS} {rr : Int32} (hf : f_X8_hold k1 s0 = some (rr, sr)) : zCon Ox Nx cA ad D E l yX8_hold cX8_hold 4 (some .int) 0 A [.ref (ad 5), .ref (ad k1)] s0 (some (.int rr)) sr := by
  refine zstart (own := RX8) hOx (by decide) rfl (Nat.le_of_ble_eq_true rfl) ?_
  intro p e s m args below meth c X hP ls hl
  have hx := X.1
  have hb := X.2.1
  have hl : lv_has ls 4 [(0, .ref (ad 5)), (1, .ref (ad k1))] := hl
  have hS : va_S A s.heap s.heap [] := va_S.rf
  have hc_4 : ∀ (n4 : Nat) (k1 : Nat) (x2 : Int32) (x3 : Int32) (s1 : SS) (H : Heap) (locs : List Loc) (ls : Array Slot), lv_has ls 4 [(0, .ref (ad 5)), (1, .ref (ad k1)), (2, .int x2), (3, .int x3)] → va_P D ZCL (zw Ox Nx cA ad s1) H → va_S A s.heap H locs → f_X8_hold_c4 n4 k1 x2 x3 s1 = some (rr, sr) → W p l e (zrm 0) s m args below meth c H locs 0 0 (MQ below (zQc Ox Nx cA ad D A (some (.int rr)) sr) args s 0 0 A) (F0 m 4 ls []) := by
    intro n4
    induction n4 with
    | zero =>
      intro k1 x2 x3 s1 H locs ls hl hP hS hf
      rw [f_X8_hold_c4] at hf
      cases hf
    | succ n4 ih4 =>
      have hc_49 : ∀ (k1 : Nat) (x2 : Int32) (x3 : Int32) (s1 : SS) (H : Heap) (locs : List Loc) (ls : Array Slot), lv_has ls 4 [(0, .ref (ad 5)), (1, .ref (ad k1)), (2, .int x2), (3, .int x3)] → va_P D ZCL (zw Ox Nx cA ad s1) H → va_S A s.heap H locs → f_X8_hold_c49 (f_X8_hold_c4 n4) k1 x2 x3 s1 = some (rr, sr) → W p l e (zrm 0) s m args below meth c H locs 0 0 (MQ below (zQc Ox Nx cA ad D A (some (.int rr)) sr) args s 0 0 A) (F0 m 49 ls []) := by
        intro k1 x2 x3 s1 H locs ls hl hP hS hf
        rw [f_X8_hold_c49] at hf
        refine lv_iinc (v := (x3 + 1)) (lv' := [(3, .int (x3 + 1)), (0, .ref (ad 5)), (1, .ref (ad k1)), (2, .int x2)]) hx hb dX8_hold_49 hl (k := 3) rfl rfl (by decide) rfl (fun ls hl => ?_)
        refine lv_goto (tgt := 4) hx hb dX8_hold_52 (by decide) ?_
        exact ih4 k1 x2 (x3 + 1) s1 _ _ _ (lv_sub hl [1, 2, 3, 0] rfl) hP hS hf
      intro k1 x2 x3 s1 H locs ls hl hP hS hf
      rw [f_X8_hold_c4] at hf
      refine lv_iload_n hx hb dX8_hold_4 rfl (lv_at hl 3 rfl) ?_
      refine lv_aload_n hx hb dX8_hold_5 rfl (lv_at hl 0 rfl) ?_
      refine gf_X8_10 X hP (k := 5) (q := 6) rfl dX8_hold_6 rfl ?_
      refine gf_X8_42 X hP (k := 6) rfl dX8_hold_9 ?_
      refine zicmp_ge (tgt := 55) hx hb dX8_hold_12 (by decide) hf (fun hf => ?_) (fun hf => ?_)
      · refine lv_iload_n hx hb dX8_hold_55 rfl (lv_at hl 2 rfl) ?_
        exact zret_i X hP hS hf rfl dX8_hold_56
      · refine lv_aload_n hx hb dX8_hold_15 rfl (lv_at hl 1 rfl) ?_
        refine lv_aload_n hx hb dX8_hold_16 rfl (lv_at hl 0 rfl) ?_
        refine gf_X8_10 X hP (k := 5) (q := 6) rfl dX8_hold_17 rfl ?_
        refine gf_X8_84 X hP (k := 6) (q := 66) rfl dX8_hold_20 rfl ?_
        refine lv_iload_n hx hb dX8_hold_23 rfl (lv_at hl 3 rfl) ?_
        obtain ⟨g1, hf⟩ := zgd hf
        refine zald_i X hP (k := 66) (n := 462) (rs := []) rfl g1 dX8_hold_24 ?_
        obtain ⟨g2, hf⟩ := zgd hf
        obtain ⟨n5, rn5, on5, in5⟩ := zok_of g2
        refine zald_l X hP (k := k1) on5 in5 dX8_hold_25 ?_
        refine lv_lconst (v := 0) hx hb dX8_hold_26 (by decide) ?_
        refine W.lcmp hx hb dX8_hold_27 ?_
        refine zif_eq (tgt := 49) hx hb dX8_hold_28 (by decide) hf (fun hf => ?_) (fun hf => ?_)
        · exact hc_49 k1 x2 x3 s1 _ _ _ (lv_sub hl [0, 1, 2, 3] rfl) hP hS hf
        · refine lv_aload_n hx hb dX8_hold_31 rfl (lv_at hl 0 rfl) ?_
          refine gf_X8_32 X hP (k := 5) (q := 26) rfl dX8_hold_32 rfl ?_
          refine lv_iload_n hx hb dX8_hold_35 rfl (lv_at hl 2 rfl) ?_
          refine lv_aload_n hx hb dX8_hold_36 rfl (lv_at hl 0 rfl) ?_
          refine gf_X8_10 X hP (k := 5) (q := 6) rfl dX8_hold_37 rfl ?_
          refine gf_X8_84 X hP (k := 6) (q := 66) rfl dX8_hold_40 rfl ?_
          refine lv_iload_n hx hb dX8_hold_43 rfl (lv_at hl 3 rfl) ?_
          obtain ⟨g3, hf⟩ := zgd hf
          refine zald_i X hP (k := 66) (n := 462) (rs := []) rfl g3 dX8_hold_44 ?_
          obtain ⟨g4, hf⟩ := zgd hf
          refine zast_i X hP hS (k := 26) (n := 462) (rs := []) rfl g4 dX8_hold_45 (fun H locs hP hS => ?_)
          refine lv_iinc (v := (x2 + 1)) (lv' := [(2, .int (x2 + 1)), (0, .ref (ad 5)), (1, .ref (ad k1)), (3, .int x3)]) hx hb dX8_hold_46 hl (k := 2) rfl rfl (by decide) rfl (fun ls hl => ?_)
          exact hc_49 k1 (x2 + 1) x3 (zS s1 26 (x2).toNatClampNeg (s1.1 66 (x3).toNatClampNeg)) _ _ _ (lv_sub hl [1, 2, 0, 3] rfl) hP hS hf
  rw [f_X8_hold] at hf
  refine lv_iconst (v := 0) hx hb dX8_hold_0 (by decide) ?_
  refine lv_istore_n (lv' := [(2, .int 0), (0, .ref (ad 5)), (1, .ref (ad k1))]) hx hb dX8_hold_1 rfl hl (by decide) rfl (fun ls hl => ?_)
  refine lv_iconst (v := 0) hx hb dX8_hold_2 (by decide) ?_
  refine lv_istore_n (lv' := [(3, .int 0), (2, .int 0), (0, .ref (ad 5)), (1, .ref (ad k1))]) hx hb dX8_hold_3 rfl hl (by decide) rfl (fun ls hl => ?_)
  exact hc_4 ZF k1 0 0 s0 _ _ _ (lv_sub hl [2, 3, 1, 0] rfl) hP hS hf
theorem dX8_addShifted_0 : decode cX8_addShifted 0 = .ok (.aload_n 0, 1) := by decide +kernel
theorem dX8_addShifted_1 : decode cX8_addShifted 1 = .ok (.getfield 10, 3) := by decide +kernel
theorem dX8_addShifted_4 : decode cX8_addShifted 4 = .ok (.getfield 87, 3) := by decide +kernel
theorem dX8_addShifted_7 : decode cX8_addShifted 7 = .ok (.aload_n 0, 1) := by decide +kernel
theorem dX8_addShifted_8 : decode cX8_addShifted 8 = .ok (.getfield 10, 3) := by decide +kernel
theorem dX8_addShifted_11 : decode cX8_addShifted 11 = .ok (.getfield 64, 3) := by decide +kernel
theorem dX8_addShifted_14 : decode cX8_addShifted 14 = .ok (.iload_n 1, 1) := by decide +kernel
theorem dX8_addShifted_15 : decode cX8_addShifted 15 = .ok (.iaload, 1) := by decide +kernel
theorem dX8_addShifted_16 : decode cX8_addShifted 16 = .ok (.isub, 1) := by decide +kernel
theorem dX8_addShifted_17 : decode cX8_addShifted 17 = .ok (.istore 6, 2) := by decide +kernel
theorem dX8_addShifted_19 : decode cX8_addShifted 19 = .ok (.aload_n 0, 1) := by decide +kernel
theorem dX8_addShifted_20 : decode cX8_addShifted 20 = .ok (.getfield 10, 3) := by decide +kernel
theorem dX8_addShifted_23 : decode cX8_addShifted 23 = .ok (.getfield 90, 3) := by decide +kernel
theorem dX8_addShifted_26 : decode cX8_addShifted 26 = .ok (.iload_n 1, 1) := by decide +kernel
theorem dX8_addShifted_27 : decode cX8_addShifted 27 = .ok (.iaload, 1) := by decide +kernel
theorem dX8_addShifted_28 : decode cX8_addShifted 28 = .ok (.istore 7, 2) := by decide +kernel
theorem dX8_addShifted_30 : decode cX8_addShifted 30 = .ok (.iconst 0, 1) := by decide +kernel
theorem dX8_addShifted_31 : decode cX8_addShifted 31 = .ok (.istore 8, 2) := by decide +kernel
theorem dX8_addShifted_33 : decode cX8_addShifted 33 = .ok (.iload 8, 2) := by decide +kernel
theorem dX8_addShifted_35 : decode cX8_addShifted 35 = .ok (.iload 5, 2) := by decide +kernel
theorem dX8_addShifted_37 : decode cX8_addShifted 37 = .ok (.if_icmp .ge 83, 3) := by decide +kernel
theorem dX8_addShifted_40 : decode cX8_addShifted 40 = .ok (.aload_n 0, 1) := by decide +kernel
theorem dX8_addShifted_41 : decode cX8_addShifted 41 = .ok (.getfield 10, 3) := by decide +kernel
theorem dX8_addShifted_44 : decode cX8_addShifted 44 = .ok (.getfield 64, 3) := by decide +kernel
theorem dX8_addShifted_47 : decode cX8_addShifted 47 = .ok (.aload_n 0, 1) := by decide +kernel
theorem dX8_addShifted_48 : decode cX8_addShifted 48 = .ok (.getfield 32, 3) := by decide +kernel
theorem dX8_addShifted_51 : decode cX8_addShifted 51 = .ok (.iload 8, 2) := by decide +kernel
theorem dX8_addShifted_53 : decode cX8_addShifted 53 = .ok (.iaload, 1) := by decide +kernel
theorem dX8_addShifted_54 : decode cX8_addShifted 54 = .ok (.iaload, 1) := by decide +kernel
theorem dX8_addShifted_55 : decode cX8_addShifted 55 = .ok (.iload 6, 2) := by decide +kernel
theorem dX8_addShifted_57 : decode cX8_addShifted 57 = .ok (.if_icmp .gt 63, 3) := by decide +kernel
theorem dX8_addShifted_60 : decode cX8_addShifted 60 = .ok (.aload_n 0, 1) := by decide +kernel
theorem dX8_addShifted_61 : decode cX8_addShifted 61 = .ok (.getfield 10, 3) := by decide +kernel
theorem dX8_addShifted_64 : decode cX8_addShifted 64 = .ok (.iload 7, 2) := by decide +kernel
theorem dX8_addShifted_66 : decode cX8_addShifted 66 = .ok (.aload_n 0, 1) := by decide +kernel
theorem dX8_addShifted_67 : decode cX8_addShifted 67 = .ok (.getfield 10, 3) := by decide +kernel
theorem dX8_addShifted_70 : decode cX8_addShifted 70 = .ok (.getfield 90, 3) := by decide +kernel
theorem dX8_addShifted_73 : decode cX8_addShifted 73 = .ok (.aload_n 0, 1) := by decide +kernel
theorem dX8_addShifted_74 : decode cX8_addShifted 74 = .ok (.getfield 32, 3) := by decide +kernel
theorem dX8_addShifted_77 : decode cX8_addShifted 77 = .ok (.iload 8, 2) := by decide +kernel
theorem dX8_addShifted_79 : decode cX8_addShifted 79 = .ok (.iaload, 1) := by decide +kernel
theorem dX8_addShifted_80 : decode cX8_addShifted 80 = .ok (.iaload, 1) := by decide +kernel
theorem dX8_addShifted_81 : decode cX8_addShifted 81 = .ok (.iadd, 1) := by decide +kernel
theorem dX8_addShifted_82 : decode cX8_addShifted 82 = .ok (.invokevirtual 54, 3) := by decide +kernel
theorem dX8_addShifted_85 : decode cX8_addShifted 85 = .ok (.istore 9, 2) := by decide +kernel
theorem dX8_addShifted_87 : decode cX8_addShifted 87 = .ok (.iload 9, 2) := by decide +kernel
theorem dX8_addShifted_89 : decode cX8_addShifted 89 = .ok (.ifCond .lt 25, 3) := by decide +kernel
theorem dX8_addShifted_92 : decode cX8_addShifted 92 = .ok (.aload_n 0, 1) := by decide +kernel
theorem dX8_addShifted_93 : decode cX8_addShifted 93 = .ok (.getfield 29, 3) := by decide +kernel
theorem dX8_addShifted_96 : decode cX8_addShifted 96 = .ok (.iload 9, 2) := by decide +kernel
theorem dX8_addShifted_98 : decode cX8_addShifted 98 = .ok (.dup2, 1) := by decide +kernel
theorem dX8_addShifted_99 : decode cX8_addShifted 99 = .ok (.laload, 1) := by decide +kernel
theorem dX8_addShifted_100 : decode cX8_addShifted 100 = .ok (.lload_n 2, 1) := by decide +kernel
theorem dX8_addShifted_101 : decode cX8_addShifted 101 = .ok (.aload 4, 2) := by decide +kernel
theorem dX8_addShifted_103 : decode cX8_addShifted 103 = .ok (.aload_n 0, 1) := by decide +kernel
theorem dX8_addShifted_104 : decode cX8_addShifted 104 = .ok (.getfield 32, 3) := by decide +kernel
theorem dX8_addShifted_107 : decode cX8_addShifted 107 = .ok (.iload 8, 2) := by decide +kernel
theorem dX8_addShifted_109 : decode cX8_addShifted 109 = .ok (.iaload, 1) := by decide +kernel
theorem dX8_addShifted_110 : decode cX8_addShifted 110 = .ok (.laload, 1) := by decide +kernel
theorem dX8_addShifted_111 : decode cX8_addShifted 111 = .ok (.lmul, 1) := by decide +kernel
theorem dX8_addShifted_112 : decode cX8_addShifted 112 = .ok (.ladd, 1) := by decide +kernel
theorem dX8_addShifted_113 : decode cX8_addShifted 113 = .ok (.lastore, 1) := by decide +kernel
theorem dX8_addShifted_114 : decode cX8_addShifted 114 = .ok (.iinc 8 1, 3) := by decide +kernel
theorem dX8_addShifted_117 : decode cX8_addShifted 117 = .ok (.goto (-84), 3) := by decide +kernel
theorem dX8_addShifted_120 : decode cX8_addShifted 120 = .ok (.return_, 1) := by decide +kernel
set_option maxHeartbeats 4000000 in
set_option maxRecDepth 100000 in
theorem cn_X8_addShifted {l : Launch} {cA : Nat → ClassId} {ad : Nat → Nat} {D : va_G} {E : Nat → Nat} {A : Nat → Prop} {x1 : Int32} {x2 : Int64} {k4 : Nat} {x5 : Int32} {s0 sr : SS} {rr : Unit} (hf : f_X8_addShifted x1 x2 k4 x5 s0 = some (rr, sr)) : zCon Ox Nx cA ad D E l yX8_addShifted cX8_addShifted 10 none 1 A [.ref (ad 5), .int x1, .long x2, .ref (ad k4), .int x5] s0 none sr := by
  refine zstart (own := RX8) hOx (by decide) rfl (Nat.le_of_ble_eq_true rfl) ?_
  intro p e s m args below meth c X hP ls hl
  have hx := X.1
  have hb := X.2.1
  have hl : lv_has ls 10 [(0, .ref (ad 5)), (1, .int x1), (2, .long x2), (4, .ref (ad k4)), (5, .int x5)] := hl
  have hS : va_S A s.heap s.heap [] := va_S.rf
  have hc_33 : ∀ (n33 : Nat) (x2 : Int64) (k4 : Nat) (x5 : Int32) (x6 : Int32) (x7 : Int32) (x8 : Int32) (s1 : SS) (H : Heap) (locs : List Loc) (ls : Array Slot), lv_has ls 10 [(0, .ref (ad 5)), (2, .long x2), (4, .ref (ad k4)), (5, .int x5), (6, .int x6), (7, .int x7), (8, .int x8)] → va_P D ZCL (zw Ox Nx cA ad s1) H → va_S A s.heap H locs → f_X8_addShifted_c33 n33 x2 k4 x5 x6 x7 x8 s1 = some (rr, sr) → W p l e (zrm 1) s m args below meth c H locs 0 0 (MQ below (zQc Ox Nx cA ad D A none sr) args s 0 0 A) (F0 m 33 ls []) := by
    intro n33
    induction n33 with
    | zero =>
      intro x2 k4 x5 x6 x7 x8 s1 H locs ls hl hP hS hf
      rw [f_X8_addShifted_c33] at hf
      cases hf
    | succ n33 ih33 =>
      have hc_114 : ∀ (x2 : Int64) (k4 : Nat) (x5 : Int32) (x6 : Int32) (x7 : Int32) (x8 : Int32) (s1 : SS) (H : Heap) (locs : List Loc) (ls : Array Slot), lv_has ls 10 [(0, .ref (ad 5)), (2, .long x2), (4, .ref (ad k4)), (5, .int x5), (6, .int x6), (7, .int x7), (8, .int x8)] → va_P D ZCL (zw Ox Nx cA ad s1) H → va_S A s.heap H locs → f_X8_addShifted_c114 (f_X8_addShifted_c33 n33) x2 k4 x5 x6 x7 x8 s1 = some (rr, sr) → W p l e (zrm 1) s m args below meth c H locs 0 0 (MQ below (zQc Ox Nx cA ad D A none sr) args s 0 0 A) (F0 m 114 ls []) := by
        intro x2 k4 x5 x6 x7 x8 s1 H locs ls hl hP hS hf
        rw [f_X8_addShifted_c114] at hf
        refine lv_iinc (v := (x8 + 1)) (lv' := [(8, .int (x8 + 1)), (0, .ref (ad 5)), (2, .long x2), (4, .ref (ad k4)), (5, .int x5), (6, .int x6), (7, .int x7)]) hx hb dX8_addShifted_114 hl (k := 6) rfl rfl (by decide) rfl (fun ls hl => ?_)
        refine lv_goto (tgt := 33) hx hb dX8_addShifted_117 (by decide) ?_
        exact ih33 x2 k4 x5 x6 x7 (x8 + 1) s1 _ _ _ (lv_sub hl [1, 2, 3, 4, 5, 6, 0] rfl) hP hS hf
      intro x2 k4 x5 x6 x7 x8 s1 H locs ls hl hP hS hf
      rw [f_X8_addShifted_c33] at hf
      refine lv_iload hx hb dX8_addShifted_33 (lv_at hl 6 rfl) ?_
      refine lv_iload hx hb dX8_addShifted_35 (lv_at hl 3 rfl) ?_
      refine zicmp_ge (tgt := 120) hx hb dX8_addShifted_37 (by decide) hf (fun hf => ?_) (fun hf => ?_)
      · exact zret_v X hP hS hf dX8_addShifted_120
      · refine lv_aload_n hx hb dX8_addShifted_40 rfl (lv_at hl 0 rfl) ?_
        refine gf_X8_10 X hP (k := 5) (q := 6) rfl dX8_addShifted_41 rfl ?_
        refine gf_X8_64 X hP (k := 6) (q := 63) rfl dX8_addShifted_44 rfl ?_
        refine lv_aload_n hx hb dX8_addShifted_47 rfl (lv_at hl 0 rfl) ?_
        refine gf_X8_32 X hP (k := 5) (q := 26) rfl dX8_addShifted_48 rfl ?_
        refine lv_iload hx hb dX8_addShifted_51 (lv_at hl 6 rfl) ?_
        obtain ⟨g3, hf⟩ := zgd hf
        refine zald_i X hP (k := 26) (n := 462) (rs := []) rfl g3 dX8_addShifted_53 ?_
        obtain ⟨g4, hf⟩ := zgd hf
        refine zald_i X hP (k := 63) (n := 462) (rs := []) rfl g4 dX8_addShifted_54 ?_
        refine lv_iload hx hb dX8_addShifted_55 (lv_at hl 4 rfl) ?_
        refine zicmp_gt (tgt := 120) hx hb dX8_addShifted_57 (by decide) hf (fun hf => ?_) (fun hf => ?_)
        · exact zret_v X hP hS hf dX8_addShifted_120
        · refine lv_aload_n hx hb dX8_addShifted_60 rfl (lv_at hl 0 rfl) ?_
          refine gf_X8_10 X hP (k := 5) (q := 6) rfl dX8_addShifted_61 rfl ?_
          refine lv_iload hx hb dX8_addShifted_64 (lv_at hl 5 rfl) ?_
          refine lv_aload_n hx hb dX8_addShifted_66 rfl (lv_at hl 0 rfl) ?_
          refine gf_X8_10 X hP (k := 5) (q := 6) rfl dX8_addShifted_67 rfl ?_
          refine gf_X8_90 X hP (k := 6) (q := 62) rfl dX8_addShifted_70 rfl ?_
          refine lv_aload_n hx hb dX8_addShifted_73 rfl (lv_at hl 0 rfl) ?_
          refine gf_X8_32 X hP (k := 5) (q := 26) rfl dX8_addShifted_74 rfl ?_
          refine lv_iload hx hb dX8_addShifted_77 (lv_at hl 6 rfl) ?_
          obtain ⟨g5, hf⟩ := zgd hf
          refine zald_i X hP (k := 26) (n := 462) (rs := []) rfl g5 dX8_addShifted_79 ?_
          obtain ⟨g6, hf⟩ := zgd hf
          refine zald_i X hP (k := 62) (n := 462) (rs := []) rfl g6 dX8_addShifted_80 ?_
          refine lv_iadd hx hb dX8_addShifted_81 ?_
          obtain ⟨r7, s8, h9, hf⟩ := zbd_some hf
          refine zcallV X hP hS hl.1 (k := 6) (As := [.int (x7 + (s1.1 62 ((s1.1 26 (x8).toNatClampNeg)).toNatClampNeg))]) (rest := []) (cn_X10_find h9) cw_X10_find zp_10 rfl (by decide) rfl ml_X8_54 (by decide) rfl rfl (Nat.le_of_ble_eq_true rfl) dX8_addShifted_82 (fun H locs hP hS => ?_)
          refine lv_istore (lv' := [(9, .int r7), (0, .ref (ad 5)), (2, .long x2), (4, .ref (ad k4)), (5, .int x5), (6, .int x6), (7, .int x7), (8, .int x8)]) hx hb dX8_addShifted_85 hl (by decide) rfl (fun ls hl => ?_)
          refine lv_iload hx hb dX8_addShifted_87 (lv_at hl 0 rfl) ?_
          refine zif_lt (tgt := 114) hx hb dX8_addShifted_89 (by decide) hf (fun hf => ?_) (fun hf => ?_)
          · exact hc_114 x2 k4 x5 x6 x7 x8 s8 _ _ _ (lv_sub hl [1, 2, 3, 4, 5, 6, 7] rfl) hP hS hf
          · refine lv_aload_n hx hb dX8_addShifted_92 rfl (lv_at hl 1 rfl) ?_
            refine gf_X8_29 X hP (k := 5) (q := 25) rfl dX8_addShifted_93 rfl ?_
            refine lv_iload hx hb dX8_addShifted_96 (lv_at hl 0 rfl) ?_
            refine lv_dup2_11 hx hb dX8_addShifted_98 rfl rfl ?_
            obtain ⟨g10, hf⟩ := zgd hf
            refine zald_l X hP (k := 25) (n := 462) (rs := []) rfl g10 dX8_addShifted_99 ?_
            refine lv_lload_n hx hb dX8_addShifted_100 rfl (lv_at hl 2 rfl) ?_
            refine lv_aload hx hb dX8_addShifted_101 (lv_at hl 3 rfl) ?_
            refine lv_aload_n hx hb dX8_addShifted_103 rfl (lv_at hl 1 rfl) ?_
            refine gf_X8_32 X hP (k := 5) (q := 26) rfl dX8_addShifted_104 rfl ?_
            refine lv_iload hx hb dX8_addShifted_107 (lv_at hl 7 rfl) ?_
            obtain ⟨g11, hf⟩ := zgd hf
            refine zald_i X hP (k := 26) (n := 462) (rs := []) rfl g11 dX8_addShifted_109 ?_
            obtain ⟨g12, hf⟩ := zgd hf
            obtain ⟨n14, rn14, on14, in14⟩ := zok_of g12
            refine zald_l X hP (k := k4) on14 in14 dX8_addShifted_110 ?_
            refine lv_lmul hx hb dX8_addShifted_111 ?_
            refine lv_ladd hx hb dX8_addShifted_112 ?_
            obtain ⟨g13, hf⟩ := zgd hf
            refine zast_l X hP hS (k := 25) (n := 462) (rs := []) rfl g13 dX8_addShifted_113 (fun H locs hP hS => ?_)
            exact hc_114 x2 k4 x5 x6 x7 x8 (zSL s8 25 (r7).toNatClampNeg (((s8.2 25 (r7).toNatClampNeg) + (x2 * (s8.2 k4 ((s8.1 26 (x8).toNatClampNeg)).toNatClampNeg))))) _ _ _ (lv_sub hl [1, 2, 3, 4, 5, 6, 7] rfl) hP hS hf
  rw [f_X8_addShifted] at hf
  refine lv_aload_n hx hb dX8_addShifted_0 rfl (lv_at hl 0 rfl) ?_
  refine gf_X8_10 X hP (k := 5) (q := 6) rfl dX8_addShifted_1 rfl ?_
  refine gf_X8_87 X hP (k := 6) rfl dX8_addShifted_4 ?_
  refine lv_aload_n hx hb dX8_addShifted_7 rfl (lv_at hl 0 rfl) ?_
  refine gf_X8_10 X hP (k := 5) (q := 6) rfl dX8_addShifted_8 rfl ?_
  refine gf_X8_64 X hP (k := 6) (q := 63) rfl dX8_addShifted_11 rfl ?_
  refine lv_iload_n hx hb dX8_addShifted_14 rfl (lv_at hl 1 rfl) ?_
  obtain ⟨g1, hf⟩ := zgd hf
  refine zald_i X hP (k := 63) (n := 462) (rs := []) rfl g1 dX8_addShifted_15 ?_
  refine lv_isub hx hb dX8_addShifted_16 ?_
  refine lv_istore (lv' := [(6, .int ((s0.1 6 0) - (s0.1 63 (x1).toNatClampNeg))), (0, .ref (ad 5)), (1, .int x1), (2, .long x2), (4, .ref (ad k4)), (5, .int x5)]) hx hb dX8_addShifted_17 hl (by decide) rfl (fun ls hl => ?_)
  refine lv_aload_n hx hb dX8_addShifted_19 rfl (lv_at hl 1 rfl) ?_
  refine gf_X8_10 X hP (k := 5) (q := 6) rfl dX8_addShifted_20 rfl ?_
  refine gf_X8_90 X hP (k := 6) (q := 62) rfl dX8_addShifted_23 rfl ?_
  refine lv_iload_n hx hb dX8_addShifted_26 rfl (lv_at hl 2 rfl) ?_
  obtain ⟨g2, hf⟩ := zgd hf
  refine zald_i X hP (k := 62) (n := 462) (rs := []) rfl g2 dX8_addShifted_27 ?_
  refine lv_istore (lv' := [(7, .int (s0.1 62 (x1).toNatClampNeg)), (6, .int ((s0.1 6 0) - (s0.1 63 (x1).toNatClampNeg))), (0, .ref (ad 5)), (1, .int x1), (2, .long x2), (4, .ref (ad k4)), (5, .int x5)]) hx hb dX8_addShifted_28 hl (by decide) rfl (fun ls hl => ?_)
  refine lv_iconst (v := 0) hx hb dX8_addShifted_30 (by decide) ?_
  refine lv_istore (lv' := [(8, .int 0), (7, .int (s0.1 62 (x1).toNatClampNeg)), (6, .int ((s0.1 6 0) - (s0.1 63 (x1).toNatClampNeg))), (0, .ref (ad 5)), (1, .int x1), (2, .long x2), (4, .ref (ad k4)), (5, .int x5)]) hx hb dX8_addShifted_31 hl (by decide) rfl (fun ls hl => ?_)
  exact hc_33 ZF x2 k4 x5 ((s0.1 6 0) - (s0.1 63 (x1).toNatClampNeg)) (s0.1 62 (x1).toNatClampNeg) 0 s0 _ _ _ (lv_sub hl [3, 5, 6, 7, 2, 1, 0] rfl) hP hS hf
theorem dX8_multiply_0 : decode cX8_multiply 0 = .ok (.aload_n 0, 1) := by decide +kernel
theorem dX8_multiply_1 : decode cX8_multiply 1 = .ok (.aload_n 2, 1) := by decide +kernel
theorem dX8_multiply_2 : decode cX8_multiply 2 = .ok (.invokevirtual 67, 3) := by decide +kernel
theorem dX8_multiply_5 : decode cX8_multiply 5 = .ok (.istore_n 3, 1) := by decide +kernel
theorem dX8_multiply_6 : decode cX8_multiply 6 = .ok (.aload_n 0, 1) := by decide +kernel
theorem dX8_multiply_7 : decode cX8_multiply 7 = .ok (.getfield 29, 3) := by decide +kernel
theorem dX8_multiply_10 : decode cX8_multiply 10 = .ok (.iconst 0, 1) := by decide +kernel
theorem dX8_multiply_11 : decode cX8_multiply 11 = .ok (.aload_n 0, 1) := by decide +kernel
theorem dX8_multiply_12 : decode cX8_multiply 12 = .ok (.getfield 10, 3) := by decide +kernel
theorem dX8_multiply_15 : decode cX8_multiply 15 = .ok (.getfield 42, 3) := by decide +kernel
theorem dX8_multiply_18 : decode cX8_multiply 18 = .ok (.lconst 0, 1) := by decide +kernel
theorem dX8_multiply_19 : decode cX8_multiply 19 = .ok (.invokestatic 71, 3) := by decide +kernel
theorem dX8_multiply_22 : decode cX8_multiply 22 = .ok (.iconst 0, 1) := by decide +kernel
theorem dX8_multiply_23 : decode cX8_multiply 23 = .ok (.istore 4, 2) := by decide +kernel
theorem dX8_multiply_25 : decode cX8_multiply 25 = .ok (.iload 4, 2) := by decide +kernel
theorem dX8_multiply_27 : decode cX8_multiply 27 = .ok (.aload_n 0, 1) := by decide +kernel
theorem dX8_multiply_28 : decode cX8_multiply 28 = .ok (.getfield 10, 3) := by decide +kernel
theorem dX8_multiply_31 : decode cX8_multiply 31 = .ok (.getfield 42, 3) := by decide +kernel
theorem dX8_multiply_34 : decode cX8_multiply 34 = .ok (.if_icmp .ge 30, 3) := by decide +kernel
theorem dX8_multiply_37 : decode cX8_multiply 37 = .ok (.aload_n 1, 1) := by decide +kernel
theorem dX8_multiply_38 : decode cX8_multiply 38 = .ok (.iload 4, 2) := by decide +kernel
theorem dX8_multiply_40 : decode cX8_multiply 40 = .ok (.laload, 1) := by decide +kernel
theorem dX8_multiply_41 : decode cX8_multiply 41 = .ok (.lconst 0, 1) := by decide +kernel
theorem dX8_multiply_42 : decode cX8_multiply 42 = .ok (.lcmp, 1) := by decide +kernel
theorem dX8_multiply_43 : decode cX8_multiply 43 = .ok (.ifCond .eq 15, 3) := by decide +kernel
theorem dX8_multiply_46 : decode cX8_multiply 46 = .ok (.aload_n 0, 1) := by decide +kernel
theorem dX8_multiply_47 : decode cX8_multiply 47 = .ok (.iload 4, 2) := by decide +kernel
theorem dX8_multiply_49 : decode cX8_multiply 49 = .ok (.aload_n 1, 1) := by decide +kernel
theorem dX8_multiply_50 : decode cX8_multiply 50 = .ok (.iload 4, 2) := by decide +kernel
theorem dX8_multiply_52 : decode cX8_multiply 52 = .ok (.laload, 1) := by decide +kernel
theorem dX8_multiply_53 : decode cX8_multiply 53 = .ok (.aload_n 2, 1) := by decide +kernel
theorem dX8_multiply_54 : decode cX8_multiply 54 = .ok (.iload_n 3, 1) := by decide +kernel
theorem dX8_multiply_55 : decode cX8_multiply 55 = .ok (.invokevirtual 74, 3) := by decide +kernel
theorem dX8_multiply_58 : decode cX8_multiply 58 = .ok (.iinc 4 1, 3) := by decide +kernel
theorem dX8_multiply_61 : decode cX8_multiply 61 = .ok (.goto (-36), 3) := by decide +kernel
theorem dX8_multiply_64 : decode cX8_multiply 64 = .ok (.aload_n 0, 1) := by decide +kernel
theorem dX8_multiply_65 : decode cX8_multiply 65 = .ok (.getfield 29, 3) := by decide +kernel
theorem dX8_multiply_68 : decode cX8_multiply 68 = .ok (.iconst 0, 1) := by decide +kernel
theorem dX8_multiply_69 : decode cX8_multiply 69 = .ok (.aload_n 1, 1) := by decide +kernel
theorem dX8_multiply_70 : decode cX8_multiply 70 = .ok (.iconst 0, 1) := by decide +kernel
theorem dX8_multiply_71 : decode cX8_multiply 71 = .ok (.aload_n 0, 1) := by decide +kernel
theorem dX8_multiply_72 : decode cX8_multiply 72 = .ok (.getfield 10, 3) := by decide +kernel
theorem dX8_multiply_75 : decode cX8_multiply 75 = .ok (.getfield 42, 3) := by decide +kernel
theorem dX8_multiply_78 : decode cX8_multiply 78 = .ok (.invokestatic 78, 3) := by decide +kernel
theorem dX8_multiply_81 : decode cX8_multiply 81 = .ok (.return_, 1) := by decide +kernel
set_option maxHeartbeats 4000000 in
set_option maxRecDepth 100000 in
theorem cn_X8_multiply {l : Launch} {cA : Nat → ClassId} {ad : Nat → Nat} {D : va_G} {E : Nat → Nat} {A : Nat → Prop} {k1 : Nat} {k2 : Nat} {s0 sr : SS} {rr : Unit} (hf : f_X8_multiply k1 k2 s0 = some (rr, sr)) : zCon Ox Nx cA ad D E l yX8_multiply cX8_multiply 5 none 2 A [.ref (ad 5), .ref (ad k1), .ref (ad k2)] s0 none sr := by
  refine zstart (own := RX8) hOx (by decide) rfl (Nat.le_of_ble_eq_true rfl) ?_
  intro p e s m args below meth c X hP ls hl
  have hx := X.1
  have hb := X.2.1
  have hl : lv_has ls 5 [(0, .ref (ad 5)), (1, .ref (ad k1)), (2, .ref (ad k2))] := hl
  have hS : va_S A s.heap s.heap [] := va_S.rf
  have hc_25 : ∀ (n25 : Nat) (k1 : Nat) (k2 : Nat) (x3 : Int32) (x4 : Int32) (s1 : SS) (H : Heap) (locs : List Loc) (ls : Array Slot), lv_has ls 5 [(0, .ref (ad 5)), (1, .ref (ad k1)), (2, .ref (ad k2)), (3, .int x3), (4, .int x4)] → va_P D ZCL (zw Ox Nx cA ad s1) H → va_S A s.heap H locs → f_X8_multiply_c25 n25 k1 k2 x3 x4 s1 = some (rr, sr) → W p l e (zrm 2) s m args below meth c H locs 0 0 (MQ below (zQc Ox Nx cA ad D A none sr) args s 0 0 A) (F0 m 25 ls []) := by
    intro n25
    induction n25 with
    | zero =>
      intro k1 k2 x3 x4 s1 H locs ls hl hP hS hf
      rw [f_X8_multiply_c25] at hf
      cases hf
    | succ n25 ih25 =>
      have hc_58 : ∀ (k1 : Nat) (k2 : Nat) (x3 : Int32) (x4 : Int32) (s1 : SS) (H : Heap) (locs : List Loc) (ls : Array Slot), lv_has ls 5 [(0, .ref (ad 5)), (1, .ref (ad k1)), (2, .ref (ad k2)), (3, .int x3), (4, .int x4)] → va_P D ZCL (zw Ox Nx cA ad s1) H → va_S A s.heap H locs → f_X8_multiply_c58 (f_X8_multiply_c25 n25) k1 k2 x3 x4 s1 = some (rr, sr) → W p l e (zrm 2) s m args below meth c H locs 0 0 (MQ below (zQc Ox Nx cA ad D A none sr) args s 0 0 A) (F0 m 58 ls []) := by
        intro k1 k2 x3 x4 s1 H locs ls hl hP hS hf
        rw [f_X8_multiply_c58] at hf
        refine lv_iinc (v := (x4 + 1)) (lv' := [(4, .int (x4 + 1)), (0, .ref (ad 5)), (1, .ref (ad k1)), (2, .ref (ad k2)), (3, .int x3)]) hx hb dX8_multiply_58 hl (k := 4) rfl rfl (by decide) rfl (fun ls hl => ?_)
        refine lv_goto (tgt := 25) hx hb dX8_multiply_61 (by decide) ?_
        exact ih25 k1 k2 x3 (x4 + 1) s1 _ _ _ (lv_sub hl [1, 2, 3, 4, 0] rfl) hP hS hf
      intro k1 k2 x3 x4 s1 H locs ls hl hP hS hf
      rw [f_X8_multiply_c25] at hf
      refine lv_iload hx hb dX8_multiply_25 (lv_at hl 4 rfl) ?_
      refine lv_aload_n hx hb dX8_multiply_27 rfl (lv_at hl 0 rfl) ?_
      refine gf_X8_10 X hP (k := 5) (q := 6) rfl dX8_multiply_28 rfl ?_
      refine gf_X8_42 X hP (k := 6) rfl dX8_multiply_31 ?_
      refine zicmp_ge (tgt := 64) hx hb dX8_multiply_34 (by decide) hf (fun hf => ?_) (fun hf => ?_)
      · refine lv_aload_n hx hb dX8_multiply_64 rfl (lv_at hl 0 rfl) ?_
        refine gf_X8_29 X hP (k := 5) (q := 25) rfl dX8_multiply_65 rfl ?_
        refine lv_iconst (v := 0) hx hb dX8_multiply_68 (by decide) ?_
        refine lv_aload_n hx hb dX8_multiply_69 rfl (lv_at hl 1 rfl) ?_
        refine lv_iconst (v := 0) hx hb dX8_multiply_70 (by decide) ?_
        refine lv_aload_n hx hb dX8_multiply_71 rfl (lv_at hl 0 rfl) ?_
        refine gf_X8_10 X hP (k := 5) (q := 6) rfl dX8_multiply_72 rfl ?_
        refine gf_X8_42 X hP (k := 6) rfl dX8_multiply_75 ?_
        obtain ⟨g7, hf⟩ := zgd hf
        refine zcp_l X hP hS hl.1 (k0 := 25) (k1 := k1) ml_X8_78 nt_copy.1 nt_copy.2.1 nt_copy.2.2 g7 ⟨Nat.le_of_ble_eq_true rfl, Nat.le_of_ble_eq_true rfl⟩ dX8_multiply_78 (fun H locs hP hS => ?_)
        exact zret_v X hP hS hf dX8_multiply_81
      · refine lv_aload_n hx hb dX8_multiply_37 rfl (lv_at hl 1 rfl) ?_
        refine lv_iload hx hb dX8_multiply_38 (lv_at hl 4 rfl) ?_
        obtain ⟨g8, hf⟩ := zgd hf
        obtain ⟨n14, rn14, on14, in14⟩ := zok_of g8
        refine zald_l X hP (k := k1) on14 in14 dX8_multiply_40 ?_
        refine lv_lconst (v := 0) hx hb dX8_multiply_41 (by decide) ?_
        refine W.lcmp hx hb dX8_multiply_42 ?_
        refine zif_eq (tgt := 58) hx hb dX8_multiply_43 (by decide) hf (fun hf => ?_) (fun hf => ?_)
        · exact hc_58 k1 k2 x3 x4 s1 _ _ _ (lv_sub hl [0, 1, 2, 3, 4] rfl) hP hS hf
        · refine lv_aload_n hx hb dX8_multiply_46 rfl (lv_at hl 0 rfl) ?_
          refine lv_iload hx hb dX8_multiply_47 (lv_at hl 4 rfl) ?_
          refine lv_aload_n hx hb dX8_multiply_49 rfl (lv_at hl 1 rfl) ?_
          refine lv_iload hx hb dX8_multiply_50 (lv_at hl 4 rfl) ?_
          obtain ⟨g9, hf⟩ := zgd hf
          obtain ⟨n13, rn13, on13, in13⟩ := zok_of g9
          refine zald_l X hP (k := k1) on13 in13 dX8_multiply_52 ?_
          refine lv_aload_n hx hb dX8_multiply_53 rfl (lv_at hl 2 rfl) ?_
          refine lv_iload_n hx hb dX8_multiply_54 rfl (lv_at hl 3 rfl) ?_
          obtain ⟨r10, s11, h12, hf⟩ := zbd_some hf
          refine zcallV X hP hS hl.1 (k := 5) (As := [.int x4, .long (s1.2 k1 (x4).toNatClampNeg), .ref (ad k2), .int x3]) (rest := []) (cn_X8_addShifted h12) cw_X8_addShifted zp_8 rfl (by decide) rfl ml_X8_74 (by decide) rfl rfl (Nat.le_of_ble_eq_true rfl) dX8_multiply_55 (fun H locs hP hS => ?_)
          exact hc_58 k1 k2 x3 x4 s11 _ _ _ (lv_sub hl [0, 1, 2, 3, 4] rfl) hP hS hf
  rw [f_X8_multiply] at hf
  refine lv_aload_n hx hb dX8_multiply_0 rfl (lv_at hl 0 rfl) ?_
  refine lv_aload_n hx hb dX8_multiply_1 rfl (lv_at hl 2 rfl) ?_
  obtain ⟨r1, s2, h3, hf⟩ := zbd_some hf
  refine zcallV X hP hS hl.1 (k := 5) (As := [.ref (ad k2)]) (rest := []) (cn_X8_hold h3) cw_X8_hold zp_8 rfl (by decide) rfl ml_X8_67 (by decide) rfl rfl (Nat.le_of_ble_eq_true rfl) dX8_multiply_2 (fun H locs hP hS => ?_)
  refine lv_istore_n (lv' := [(3, .int r1), (0, .ref (ad 5)), (1, .ref (ad k1)), (2, .ref (ad k2))]) hx hb dX8_multiply_5 rfl hl (by decide) rfl (fun ls hl => ?_)
  refine lv_aload_n hx hb dX8_multiply_6 rfl (lv_at hl 1 rfl) ?_
  refine gf_X8_29 X hP (k := 5) (q := 25) rfl dX8_multiply_7 rfl ?_
  refine lv_iconst (v := 0) hx hb dX8_multiply_10 (by decide) ?_
  refine lv_aload_n hx hb dX8_multiply_11 rfl (lv_at hl 1 rfl) ?_
  refine gf_X8_10 X hP (k := 5) (q := 6) rfl dX8_multiply_12 rfl ?_
  refine gf_X8_42 X hP (k := 6) rfl dX8_multiply_15 ?_
  refine lv_lconst (v := 0) hx hb dX8_multiply_18 (by decide) ?_
  obtain ⟨r4, s5, h6, hf⟩ := zbd_some hf
  refine zcallS X hP hS hl.1 (As := [.ref (ad 25), .int 0, .int (s2.1 6 2), .long 0]) (rest := []) (cn_J7_fill_bad5a hOx h6) cw_J7_fill_bad5a ml_X8_71 (by decide) rfl rfl (Nat.le_of_ble_eq_true rfl) dX8_multiply_19 (fun H locs hP hS => ?_)
  refine lv_iconst (v := 0) hx hb dX8_multiply_22 (by decide) ?_
  refine lv_istore (lv' := [(4, .int 0), (3, .int r1), (0, .ref (ad 5)), (1, .ref (ad k1)), (2, .ref (ad k2))]) hx hb dX8_multiply_23 hl (by decide) rfl (fun ls hl => ?_)
  exact hc_25 ZF k1 k2 r1 0 s5 _ _ _ (lv_sub hl [2, 3, 4, 1, 0] rfl) hP hS hf
theorem dX8_multiplyBy_0 : decode cX8_multiplyBy 0 = .ok (.aload_n 0, 1) := by decide +kernel
theorem dX8_multiplyBy_1 : decode cX8_multiplyBy 1 = .ok (.aload_n 1, 1) := by decide +kernel
theorem dX8_multiplyBy_2 : decode cX8_multiplyBy 2 = .ok (.aload_n 0, 1) := by decide +kernel
theorem dX8_multiplyBy_3 : decode cX8_multiplyBy 3 = .ok (.getfield 20, 3) := by decide +kernel
theorem dX8_multiplyBy_6 : decode cX8_multiplyBy 6 = .ok (.invokevirtual 93, 3) := by decide +kernel
theorem dX8_multiplyBy_9 : decode cX8_multiplyBy 9 = .ok (.aload_n 0, 1) := by decide +kernel
theorem dX8_multiplyBy_10 : decode cX8_multiplyBy 10 = .ok (.aload_n 0, 1) := by decide +kernel
theorem dX8_multiplyBy_11 : decode cX8_multiplyBy 11 = .ok (.getfield 16, 3) := by decide +kernel
theorem dX8_multiplyBy_14 : decode cX8_multiplyBy 14 = .ok (.aload_n 0, 1) := by decide +kernel
theorem dX8_multiplyBy_15 : decode cX8_multiplyBy 15 = .ok (.getfield 20, 3) := by decide +kernel
theorem dX8_multiplyBy_18 : decode cX8_multiplyBy 18 = .ok (.invokevirtual 97, 3) := by decide +kernel
theorem dX8_multiplyBy_21 : decode cX8_multiplyBy 21 = .ok (.return_, 1) := by decide +kernel
set_option maxHeartbeats 4000000 in
set_option maxRecDepth 100000 in
theorem cn_X8_multiplyBy {l : Launch} {cA : Nat → ClassId} {ad : Nat → Nat} {D : va_G} {E : Nat → Nat} {A : Nat → Prop} {k1 : Nat} {s0 sr : SS} {rr : Unit} (hf : f_X8_multiplyBy k1 s0 = some (rr, sr)) : zCon Ox Nx cA ad D E l yX8_multiplyBy cX8_multiplyBy 2 none 3 A [.ref (ad 5), .ref (ad k1)] s0 none sr := by
  refine zstart (own := RX8) hOx (by decide) rfl (Nat.le_of_ble_eq_true rfl) ?_
  intro p e s m args below meth c X hP ls hl
  have hx := X.1
  have hb := X.2.1
  have hl : lv_has ls 2 [(0, .ref (ad 5)), (1, .ref (ad k1))] := hl
  have hS : va_S A s.heap s.heap [] := va_S.rf
  rw [f_X8_multiplyBy] at hf
  obtain ⟨gp1, hf⟩ := zgd hf
  refine lv_aload_n hx hb dX8_multiplyBy_0 rfl (lv_at hl 0 rfl) ?_
  refine lv_aload_n hx hb dX8_multiplyBy_1 rfl (lv_at hl 1 rfl) ?_
  refine lv_aload_n hx hb dX8_multiplyBy_2 rfl (lv_at hl 0 rfl) ?_
  refine gf_X8_20 X hP (k := 5) (q := 22) rfl dX8_multiplyBy_3 rfl ?_
  obtain ⟨r1, s2, h3, hf⟩ := zbd_some hf
  refine zcallV X hP hS hl.1 (k := 5) (As := [.ref (ad k1), .ref (ad 22)]) (rest := []) (cn_X8_takeNumbers h3) cw_X8_takeNumbers zp_8 rfl (by decide) rfl ml_X8_93 (by decide) rfl rfl (Nat.le_of_ble_eq_true rfl) dX8_multiplyBy_6 (fun H locs hP hS => ?_)
  refine lv_aload_n hx hb dX8_multiplyBy_9 rfl (lv_at hl 0 rfl) ?_
  refine lv_aload_n hx hb dX8_multiplyBy_10 rfl (lv_at hl 0 rfl) ?_
  refine gf_X8_16 X hP (k := 5) (q := 21) rfl dX8_multiplyBy_11 rfl ?_
  refine lv_aload_n hx hb dX8_multiplyBy_14 rfl (lv_at hl 0 rfl) ?_
  refine gf_X8_20 X hP (k := 5) (q := 22) rfl dX8_multiplyBy_15 rfl ?_
  obtain ⟨r4, s5, h6, hf⟩ := zbd_some hf
  refine zcallV X hP hS hl.1 (k := 5) (As := [.ref (ad 21), .ref (ad 22)]) (rest := []) (cn_X8_multiply h6) cw_X8_multiply zp_8 rfl (by decide) rfl ml_X8_97 (by decide) rfl rfl (Nat.le_of_ble_eq_true rfl) dX8_multiplyBy_18 (fun H locs hP hS => ?_)
  exact zret_v X hP hS hf dX8_multiplyBy_21
theorem dX8_makePower_0 : decode cX8_makePower 0 = .ok (.aload_n 0, 1) := by decide +kernel
theorem dX8_makePower_1 : decode cX8_makePower 1 = .ok (.aload_n 0, 1) := by decide +kernel
theorem dX8_makePower_2 : decode cX8_makePower 2 = .ok (.getfield 16, 3) := by decide +kernel
theorem dX8_makePower_5 : decode cX8_makePower 5 = .ok (.invokevirtual 101, 3) := by decide +kernel
theorem dX8_makePower_8 : decode cX8_makePower 8 = .ok (.aload_n 0, 1) := by decide +kernel
theorem dX8_makePower_9 : decode cX8_makePower 9 = .ok (.aload_n 1, 1) := by decide +kernel
theorem dX8_makePower_10 : decode cX8_makePower 10 = .ok (.aload_n 0, 1) := by decide +kernel
theorem dX8_makePower_11 : decode cX8_makePower 11 = .ok (.getfield 20, 3) := by decide +kernel
theorem dX8_makePower_14 : decode cX8_makePower 14 = .ok (.invokevirtual 93, 3) := by decide +kernel
theorem dX8_makePower_17 : decode cX8_makePower 17 = .ok (.iconst 0, 1) := by decide +kernel
theorem dX8_makePower_18 : decode cX8_makePower 18 = .ok (.istore_n 3, 1) := by decide +kernel
theorem dX8_makePower_19 : decode cX8_makePower 19 = .ok (.iload_n 3, 1) := by decide +kernel
theorem dX8_makePower_20 : decode cX8_makePower 20 = .ok (.iload_n 2, 1) := by decide +kernel
theorem dX8_makePower_21 : decode cX8_makePower 21 = .ok (.if_icmp .ge 21, 3) := by decide +kernel
theorem dX8_makePower_24 : decode cX8_makePower 24 = .ok (.aload_n 0, 1) := by decide +kernel
theorem dX8_makePower_25 : decode cX8_makePower 25 = .ok (.aload_n 0, 1) := by decide +kernel
theorem dX8_makePower_26 : decode cX8_makePower 26 = .ok (.getfield 16, 3) := by decide +kernel
theorem dX8_makePower_29 : decode cX8_makePower 29 = .ok (.aload_n 0, 1) := by decide +kernel
theorem dX8_makePower_30 : decode cX8_makePower 30 = .ok (.getfield 20, 3) := by decide +kernel
theorem dX8_makePower_33 : decode cX8_makePower 33 = .ok (.invokevirtual 97, 3) := by decide +kernel
theorem dX8_makePower_36 : decode cX8_makePower 36 = .ok (.iinc 3 1, 3) := by decide +kernel
theorem dX8_makePower_39 : decode cX8_makePower 39 = .ok (.goto (-20), 3) := by decide +kernel
theorem dX8_makePower_42 : decode cX8_makePower 42 = .ok (.return_, 1) := by decide +kernel
set_option maxHeartbeats 4000000 in
set_option maxRecDepth 100000 in
theorem cn_X8_makePower {l : Launch} {cA : Nat → ClassId} {ad : Nat → Nat} {D : va_G} {E : Nat → Nat} {A : Nat → Prop} {k1 : Nat} {x2 : Int32} {s0 sr : SS} {rr : Unit} (hf : f_X8_makePower k1 x2 s0 = some (rr, sr)) : zCon Ox Nx cA ad D E l yX8_makePower cX8_makePower 4 none 3 A [.ref (ad 5), .ref (ad k1), .int x2] s0 none sr := by
  refine zstart (own := RX8) hOx (by decide) rfl (Nat.le_of_ble_eq_true rfl) ?_
  intro p e s m args below meth c X hP ls hl
  have hx := X.1
  have hb := X.2.1
  have hl : lv_has ls 4 [(0, .ref (ad 5)), (1, .ref (ad k1)), (2, .int x2)] := hl
  have hS : va_S A s.heap s.heap [] := va_S.rf
  have hc_19 : ∀ (n19 : Nat) (x2 : Int32) (x3 : Int32) (s1 : SS) (H : Heap) (locs : List Loc) (ls : Array Slot), lv_has ls 4 [(0, .ref (ad 5)), (2, .int x2), (3, .int x3)] → va_P D ZCL (zw Ox Nx cA ad s1) H → va_S A s.heap H locs → f_X8_makePower_c19 n19 x2 x3 s1 = some (rr, sr) → W p l e (zrm 3) s m args below meth c H locs 0 0 (MQ below (zQc Ox Nx cA ad D A none sr) args s 0 0 A) (F0 m 19 ls []) := by
    intro n19
    induction n19 with
    | zero =>
      intro x2 x3 s1 H locs ls hl hP hS hf
      rw [f_X8_makePower_c19] at hf
      cases hf
    | succ n19 ih19 =>
      intro x2 x3 s1 H locs ls hl hP hS hf
      rw [f_X8_makePower_c19] at hf
      refine lv_iload_n hx hb dX8_makePower_19 rfl (lv_at hl 2 rfl) ?_
      refine lv_iload_n hx hb dX8_makePower_20 rfl (lv_at hl 1 rfl) ?_
      refine zicmp_ge (tgt := 42) hx hb dX8_makePower_21 (by decide) hf (fun hf => ?_) (fun hf => ?_)
      · exact zret_v X hP hS hf dX8_makePower_42
      · refine lv_aload_n hx hb dX8_makePower_24 rfl (lv_at hl 0 rfl) ?_
        refine lv_aload_n hx hb dX8_makePower_25 rfl (lv_at hl 0 rfl) ?_
        refine gf_X8_16 X hP (k := 5) (q := 21) rfl dX8_makePower_26 rfl ?_
        refine lv_aload_n hx hb dX8_makePower_29 rfl (lv_at hl 0 rfl) ?_
        refine gf_X8_20 X hP (k := 5) (q := 22) rfl dX8_makePower_30 rfl ?_
        obtain ⟨r7, s8, h9, hf⟩ := zbd_some hf
        refine zcallV X hP hS hl.1 (k := 5) (As := [.ref (ad 21), .ref (ad 22)]) (rest := []) (cn_X8_multiply h9) cw_X8_multiply zp_8 rfl (by decide) rfl ml_X8_97 (by decide) rfl rfl (Nat.le_of_ble_eq_true rfl) dX8_makePower_33 (fun H locs hP hS => ?_)
        refine lv_iinc (v := (x3 + 1)) (lv' := [(3, .int (x3 + 1)), (0, .ref (ad 5)), (2, .int x2)]) hx hb dX8_makePower_36 hl (k := 2) rfl rfl (by decide) rfl (fun ls hl => ?_)
        refine lv_goto (tgt := 19) hx hb dX8_makePower_39 (by decide) ?_
        exact ih19 x2 (x3 + 1) s8 _ _ _ (lv_sub hl [1, 2, 0] rfl) hP hS hf
  rw [f_X8_makePower] at hf
  obtain ⟨gp1, hf⟩ := zgd hf
  refine lv_aload_n hx hb dX8_makePower_0 rfl (lv_at hl 0 rfl) ?_
  refine lv_aload_n hx hb dX8_makePower_1 rfl (lv_at hl 0 rfl) ?_
  refine gf_X8_16 X hP (k := 5) (q := 21) rfl dX8_makePower_2 rfl ?_
  obtain ⟨r1, s2, h3, hf⟩ := zbd_some hf
  refine zcallV X hP hS hl.1 (k := 5) (As := [.ref (ad 21)]) (rest := []) (cn_X8_makeOne h3) cw_X8_makeOne zp_8 rfl (by decide) rfl ml_X8_101 (by decide) rfl rfl (Nat.le_of_ble_eq_true rfl) dX8_makePower_5 (fun H locs hP hS => ?_)
  refine lv_aload_n hx hb dX8_makePower_8 rfl (lv_at hl 0 rfl) ?_
  refine lv_aload_n hx hb dX8_makePower_9 rfl (lv_at hl 1 rfl) ?_
  refine lv_aload_n hx hb dX8_makePower_10 rfl (lv_at hl 0 rfl) ?_
  refine gf_X8_20 X hP (k := 5) (q := 22) rfl dX8_makePower_11 rfl ?_
  obtain ⟨r4, s5, h6, hf⟩ := zbd_some hf
  refine zcallV X hP hS hl.1 (k := 5) (As := [.ref (ad k1), .ref (ad 22)]) (rest := []) (cn_X8_takeNumbers h6) cw_X8_takeNumbers zp_8 rfl (by decide) rfl ml_X8_93 (by decide) rfl rfl (Nat.le_of_ble_eq_true rfl) dX8_makePower_14 (fun H locs hP hS => ?_)
  refine lv_iconst (v := 0) hx hb dX8_makePower_17 (by decide) ?_
  refine lv_istore_n (lv' := [(3, .int 0), (0, .ref (ad 5)), (1, .ref (ad k1)), (2, .int x2)]) hx hb dX8_makePower_18 rfl hl (by decide) rfl (fun ls hl => ?_)
  exact hc_19 ZF x2 0 s5 _ _ _ (lv_sub hl [1, 3, 0] rfl) hP hS hf
theorem dX8_metOf_0 : decode cX8_metOf 0 = .ok (.lconst 0, 1) := by decide +kernel
theorem dX8_metOf_1 : decode cX8_metOf 1 = .ok (.lstore_n 2, 1) := by decide +kernel
theorem dX8_metOf_2 : decode cX8_metOf 2 = .ok (.aload_n 0, 1) := by decide +kernel
theorem dX8_metOf_3 : decode cX8_metOf 3 = .ok (.getfield 10, 3) := by decide +kernel
theorem dX8_metOf_6 : decode cX8_metOf 6 = .ok (.getfield 105, 3) := by decide +kernel
theorem dX8_metOf_9 : decode cX8_metOf 9 = .ok (.aload_n 0, 1) := by decide +kernel
theorem dX8_metOf_10 : decode cX8_metOf 10 = .ok (.getfield 10, 3) := by decide +kernel
theorem dX8_metOf_13 : decode cX8_metOf 13 = .ok (.getfield 87, 3) := by decide +kernel
theorem dX8_metOf_16 : decode cX8_metOf 16 = .ok (.iaload, 1) := by decide +kernel
theorem dX8_metOf_17 : decode cX8_metOf 17 = .ok (.istore 4, 2) := by decide +kernel
theorem dX8_metOf_19 : decode cX8_metOf 19 = .ok (.iload 4, 2) := by decide +kernel
theorem dX8_metOf_21 : decode cX8_metOf 21 = .ok (.aload_n 0, 1) := by decide +kernel
theorem dX8_metOf_22 : decode cX8_metOf 22 = .ok (.getfield 10, 3) := by decide +kernel
theorem dX8_metOf_25 : decode cX8_metOf 25 = .ok (.getfield 42, 3) := by decide +kernel
theorem dX8_metOf_28 : decode cX8_metOf 28 = .ok (.if_icmp .ge 39, 3) := by decide +kernel
theorem dX8_metOf_31 : decode cX8_metOf 31 = .ok (.aload_n 0, 1) := by decide +kernel
theorem dX8_metOf_32 : decode cX8_metOf 32 = .ok (.getfield 10, 3) := by decide +kernel
theorem dX8_metOf_35 : decode cX8_metOf 35 = .ok (.getfield 84, 3) := by decide +kernel
theorem dX8_metOf_38 : decode cX8_metOf 38 = .ok (.iload 4, 2) := by decide +kernel
theorem dX8_metOf_40 : decode cX8_metOf 40 = .ok (.iaload, 1) := by decide +kernel
theorem dX8_metOf_41 : decode cX8_metOf 41 = .ok (.istore 5, 2) := by decide +kernel
theorem dX8_metOf_43 : decode cX8_metOf 43 = .ok (.lload_n 2, 1) := by decide +kernel
theorem dX8_metOf_44 : decode cX8_metOf 44 = .ok (.aload_n 1, 1) := by decide +kernel
theorem dX8_metOf_45 : decode cX8_metOf 45 = .ok (.iload 5, 2) := by decide +kernel
theorem dX8_metOf_47 : decode cX8_metOf 47 = .ok (.laload, 1) := by decide +kernel
theorem dX8_metOf_48 : decode cX8_metOf 48 = .ok (.aload_n 0, 1) := by decide +kernel
theorem dX8_metOf_49 : decode cX8_metOf 49 = .ok (.getfield 10, 3) := by decide +kernel
theorem dX8_metOf_52 : decode cX8_metOf 52 = .ok (.getfield 108, 3) := by decide +kernel
theorem dX8_metOf_55 : decode cX8_metOf 55 = .ok (.iload 5, 2) := by decide +kernel
theorem dX8_metOf_57 : decode cX8_metOf 57 = .ok (.laload, 1) := by decide +kernel
theorem dX8_metOf_58 : decode cX8_metOf 58 = .ok (.lmul, 1) := by decide +kernel
theorem dX8_metOf_59 : decode cX8_metOf 59 = .ok (.ladd, 1) := by decide +kernel
theorem dX8_metOf_60 : decode cX8_metOf 60 = .ok (.lstore_n 2, 1) := by decide +kernel
theorem dX8_metOf_61 : decode cX8_metOf 61 = .ok (.iinc 4 1, 3) := by decide +kernel
theorem dX8_metOf_64 : decode cX8_metOf 64 = .ok (.goto (-45), 3) := by decide +kernel
theorem dX8_metOf_67 : decode cX8_metOf 67 = .ok (.lload_n 2, 1) := by decide +kernel
theorem dX8_metOf_68 : decode cX8_metOf 68 = .ok (.lreturn, 1) := by decide +kernel
set_option maxHeartbeats 4000000 in
set_option maxRecDepth 100000 in
theorem cn_X8_metOf {l : Launch} {cA : Nat → ClassId} {ad : Nat → Nat} {D : va_G} {E : Nat → Nat} {A : Nat → Prop} {k1 : Nat} {s0 sr : SS} {rr : Int64} (hf : f_X8_metOf k1 s0 = some (rr, sr)) : zCon Ox Nx cA ad D E l yX8_metOf cX8_metOf 6 (some .long) 0 A [.ref (ad 5), .ref (ad k1)] s0 (some (.long rr)) sr := by
  refine zstart (own := RX8) hOx (by decide) rfl (Nat.le_of_ble_eq_true rfl) ?_
  intro p e s m args below meth c X hP ls hl
  have hx := X.1
  have hb := X.2.1
  have hl : lv_has ls 6 [(0, .ref (ad 5)), (1, .ref (ad k1))] := hl
  have hS : va_S A s.heap s.heap [] := va_S.rf
  have hc_19 : ∀ (n19 : Nat) (k1 : Nat) (x2 : Int64) (x4 : Int32) (s1 : SS) (H : Heap) (locs : List Loc) (ls : Array Slot), lv_has ls 6 [(0, .ref (ad 5)), (1, .ref (ad k1)), (2, .long x2), (4, .int x4)] → va_P D ZCL (zw Ox Nx cA ad s1) H → va_S A s.heap H locs → f_X8_metOf_c19 n19 k1 x2 x4 s1 = some (rr, sr) → W p l e (zrm 0) s m args below meth c H locs 0 0 (MQ below (zQc Ox Nx cA ad D A (some (.long rr)) sr) args s 0 0 A) (F0 m 19 ls []) := by
    intro n19
    induction n19 with
    | zero =>
      intro k1 x2 x4 s1 H locs ls hl hP hS hf
      rw [f_X8_metOf_c19] at hf
      cases hf
    | succ n19 ih19 =>
      intro k1 x2 x4 s1 H locs ls hl hP hS hf
      rw [f_X8_metOf_c19] at hf
      refine lv_iload hx hb dX8_metOf_19 (lv_at hl 3 rfl) ?_
      refine lv_aload_n hx hb dX8_metOf_21 rfl (lv_at hl 0 rfl) ?_
      refine gf_X8_10 X hP (k := 5) (q := 6) rfl dX8_metOf_22 rfl ?_
      refine gf_X8_42 X hP (k := 6) rfl dX8_metOf_25 ?_
      refine zicmp_ge (tgt := 67) hx hb dX8_metOf_28 (by decide) hf (fun hf => ?_) (fun hf => ?_)
      · refine lv_lload_n hx hb dX8_metOf_67 rfl (lv_at hl 2 rfl) ?_
        exact zret_l X hP hS hf dX8_metOf_68
      · refine lv_aload_n hx hb dX8_metOf_31 rfl (lv_at hl 0 rfl) ?_
        refine gf_X8_10 X hP (k := 5) (q := 6) rfl dX8_metOf_32 rfl ?_
        refine gf_X8_84 X hP (k := 6) (q := 66) rfl dX8_metOf_35 rfl ?_
        refine lv_iload hx hb dX8_metOf_38 (lv_at hl 3 rfl) ?_
        obtain ⟨g2, hf⟩ := zgd hf
        refine zald_i X hP (k := 66) (n := 462) (rs := []) rfl g2 dX8_metOf_40 ?_
        refine lv_istore (lv' := [(5, .int (s1.1 66 (x4).toNatClampNeg)), (0, .ref (ad 5)), (1, .ref (ad k1)), (2, .long x2), (4, .int x4)]) hx hb dX8_metOf_41 hl (by decide) rfl (fun ls hl => ?_)
        refine lv_lload_n hx hb dX8_metOf_43 rfl (lv_at hl 3 rfl) ?_
        refine lv_aload_n hx hb dX8_metOf_44 rfl (lv_at hl 2 rfl) ?_
        refine lv_iload hx hb dX8_metOf_45 (lv_at hl 0 rfl) ?_
        obtain ⟨g3, hf⟩ := zgd hf
        obtain ⟨n5, rn5, on5, in5⟩ := zok_of g3
        refine zald_l X hP (k := k1) on5 in5 dX8_metOf_47 ?_
        refine lv_aload_n hx hb dX8_metOf_48 rfl (lv_at hl 1 rfl) ?_
        refine gf_X8_10 X hP (k := 5) (q := 6) rfl dX8_metOf_49 rfl ?_
        refine gf_X8_108 X hP (k := 6) (q := 64) rfl dX8_metOf_52 rfl ?_
        refine lv_iload hx hb dX8_metOf_55 (lv_at hl 0 rfl) ?_
        obtain ⟨g4, hf⟩ := zgd hf
        refine zald_l X hP (k := 64) (n := 462) (rs := []) rfl g4 dX8_metOf_57 ?_
        refine lv_lmul hx hb dX8_metOf_58 ?_
        refine lv_ladd hx hb dX8_metOf_59 ?_
        refine lv_lstore_n (lv' := [(2, .long (x2 + ((s1.2 k1 ((s1.1 66 (x4).toNatClampNeg)).toNatClampNeg) * (s1.2 64 ((s1.1 66 (x4).toNatClampNeg)).toNatClampNeg)))), (5, .int (s1.1 66 (x4).toNatClampNeg)), (0, .ref (ad 5)), (1, .ref (ad k1)), (4, .int x4)]) hx hb dX8_metOf_60 rfl hl (by decide) rfl (fun ls hl => ?_)
        refine lv_iinc (v := (x4 + 1)) (lv' := [(4, .int (x4 + 1)), (2, .long (x2 + ((s1.2 k1 ((s1.1 66 (x4).toNatClampNeg)).toNatClampNeg) * (s1.2 64 ((s1.1 66 (x4).toNatClampNeg)).toNatClampNeg)))), (5, .int (s1.1 66 (x4).toNatClampNeg)), (0, .ref (ad 5)), (1, .ref (ad k1))]) hx hb dX8_metOf_61 hl (k := 4) rfl rfl (by decide) rfl (fun ls hl => ?_)
        refine lv_goto (tgt := 19) hx hb dX8_metOf_64 (by decide) ?_
        exact ih19 k1 (x2 + ((s1.2 k1 ((s1.1 66 (x4).toNatClampNeg)).toNatClampNeg) * (s1.2 64 ((s1.1 66 (x4).toNatClampNeg)).toNatClampNeg))) (x4 + 1) s1 _ _ _ (lv_sub hl [3, 4, 1, 0] rfl) hP hS hf
  rw [f_X8_metOf] at hf
  refine lv_lconst (v := 0) hx hb dX8_metOf_0 (by decide) ?_
  refine lv_lstore_n (lv' := [(2, .long 0), (0, .ref (ad 5)), (1, .ref (ad k1))]) hx hb dX8_metOf_1 rfl hl (by decide) rfl (fun ls hl => ?_)
  refine lv_aload_n hx hb dX8_metOf_2 rfl (lv_at hl 1 rfl) ?_
  refine gf_X8_10 X hP (k := 5) (q := 6) rfl dX8_metOf_3 rfl ?_
  refine gf_X8_105 X hP (k := 6) (q := 67) rfl dX8_metOf_6 rfl ?_
  refine lv_aload_n hx hb dX8_metOf_9 rfl (lv_at hl 1 rfl) ?_
  refine gf_X8_10 X hP (k := 5) (q := 6) rfl dX8_metOf_10 rfl ?_
  refine gf_X8_87 X hP (k := 6) rfl dX8_metOf_13 ?_
  obtain ⟨g1, hf⟩ := zgd hf
  refine zald_i X hP (k := 67) (n := 7) (rs := []) rfl g1 dX8_metOf_16 ?_
  refine lv_istore (lv' := [(4, .int (s0.1 67 ((s0.1 6 0)).toNatClampNeg)), (2, .long 0), (0, .ref (ad 5)), (1, .ref (ad k1))]) hx hb dX8_metOf_17 hl (by decide) rfl (fun ls hl => ?_)
  exact hc_19 ZF k1 0 (s0.1 67 ((s0.1 6 0)).toNatClampNeg) s0 _ _ _ (lv_sub hl [2, 3, 1, 0] rfl) hP hS hf
theorem dX8_metWith_0 : decode cX8_metWith 0 = .ok (.aload_n 0, 1) := by decide +kernel
theorem dX8_metWith_1 : decode cX8_metWith 1 = .ok (.getfield 10, 3) := by decide +kernel
theorem dX8_metWith_4 : decode cX8_metWith 4 = .ok (.getfield 87, 3) := by decide +kernel
theorem dX8_metWith_7 : decode cX8_metWith 7 = .ok (.aload_n 0, 1) := by decide +kernel
theorem dX8_metWith_8 : decode cX8_metWith 8 = .ok (.getfield 10, 3) := by decide +kernel
theorem dX8_metWith_11 : decode cX8_metWith 11 = .ok (.getfield 64, 3) := by decide +kernel
theorem dX8_metWith_14 : decode cX8_metWith 14 = .ok (.iload_n 2, 1) := by decide +kernel
theorem dX8_metWith_15 : decode cX8_metWith 15 = .ok (.iaload, 1) := by decide +kernel
theorem dX8_metWith_16 : decode cX8_metWith 16 = .ok (.isub, 1) := by decide +kernel
theorem dX8_metWith_17 : decode cX8_metWith 17 = .ok (.istore_n 3, 1) := by decide +kernel
theorem dX8_metWith_18 : decode cX8_metWith 18 = .ok (.lconst 0, 1) := by decide +kernel
theorem dX8_metWith_19 : decode cX8_metWith 19 = .ok (.lstore 4, 2) := by decide +kernel
theorem dX8_metWith_21 : decode cX8_metWith 21 = .ok (.aload_n 0, 1) := by decide +kernel
theorem dX8_metWith_22 : decode cX8_metWith 22 = .ok (.getfield 10, 3) := by decide +kernel
theorem dX8_metWith_25 : decode cX8_metWith 25 = .ok (.getfield 105, 3) := by decide +kernel
theorem dX8_metWith_28 : decode cX8_metWith 28 = .ok (.iload_n 3, 1) := by decide +kernel
theorem dX8_metWith_29 : decode cX8_metWith 29 = .ok (.iaload, 1) := by decide +kernel
theorem dX8_metWith_30 : decode cX8_metWith 30 = .ok (.istore 6, 2) := by decide +kernel
theorem dX8_metWith_32 : decode cX8_metWith 32 = .ok (.iload 6, 2) := by decide +kernel
theorem dX8_metWith_34 : decode cX8_metWith 34 = .ok (.aload_n 0, 1) := by decide +kernel
theorem dX8_metWith_35 : decode cX8_metWith 35 = .ok (.getfield 10, 3) := by decide +kernel
theorem dX8_metWith_38 : decode cX8_metWith 38 = .ok (.getfield 105, 3) := by decide +kernel
theorem dX8_metWith_41 : decode cX8_metWith 41 = .ok (.iload_n 3, 1) := by decide +kernel
theorem dX8_metWith_42 : decode cX8_metWith 42 = .ok (.iconst 1, 1) := by decide +kernel
theorem dX8_metWith_43 : decode cX8_metWith 43 = .ok (.iadd, 1) := by decide +kernel
theorem dX8_metWith_44 : decode cX8_metWith 44 = .ok (.iaload, 1) := by decide +kernel
theorem dX8_metWith_45 : decode cX8_metWith 45 = .ok (.if_icmp .ge 88, 3) := by decide +kernel
theorem dX8_metWith_48 : decode cX8_metWith 48 = .ok (.aload_n 0, 1) := by decide +kernel
theorem dX8_metWith_49 : decode cX8_metWith 49 = .ok (.getfield 10, 3) := by decide +kernel
theorem dX8_metWith_52 : decode cX8_metWith 52 = .ok (.getfield 84, 3) := by decide +kernel
theorem dX8_metWith_55 : decode cX8_metWith 55 = .ok (.iload 6, 2) := by decide +kernel
theorem dX8_metWith_57 : decode cX8_metWith 57 = .ok (.iaload, 1) := by decide +kernel
theorem dX8_metWith_58 : decode cX8_metWith 58 = .ok (.istore 7, 2) := by decide +kernel
theorem dX8_metWith_60 : decode cX8_metWith 60 = .ok (.aload_n 1, 1) := by decide +kernel
theorem dX8_metWith_61 : decode cX8_metWith 61 = .ok (.iload 7, 2) := by decide +kernel
theorem dX8_metWith_63 : decode cX8_metWith 63 = .ok (.laload, 1) := by decide +kernel
theorem dX8_metWith_64 : decode cX8_metWith 64 = .ok (.lconst 0, 1) := by decide +kernel
theorem dX8_metWith_65 : decode cX8_metWith 65 = .ok (.lcmp, 1) := by decide +kernel
theorem dX8_metWith_66 : decode cX8_metWith 66 = .ok (.ifCond .ne 7, 3) := by decide +kernel
theorem dX8_metWith_69 : decode cX8_metWith 69 = .ok (.iconst (-1), 1) := by decide +kernel
theorem dX8_metWith_70 : decode cX8_metWith 70 = .ok (.goto 30, 3) := by decide +kernel
theorem dX8_metWith_73 : decode cX8_metWith 73 = .ok (.aload_n 0, 1) := by decide +kernel
theorem dX8_metWith_74 : decode cX8_metWith 74 = .ok (.getfield 10, 3) := by decide +kernel
theorem dX8_metWith_77 : decode cX8_metWith 77 = .ok (.aload_n 0, 1) := by decide +kernel
theorem dX8_metWith_78 : decode cX8_metWith 78 = .ok (.getfield 10, 3) := by decide +kernel
theorem dX8_metWith_81 : decode cX8_metWith 81 = .ok (.getfield 90, 3) := by decide +kernel
theorem dX8_metWith_84 : decode cX8_metWith 84 = .ok (.iload_n 2, 1) := by decide +kernel
theorem dX8_metWith_85 : decode cX8_metWith 85 = .ok (.iaload, 1) := by decide +kernel
theorem dX8_metWith_86 : decode cX8_metWith 86 = .ok (.aload_n 0, 1) := by decide +kernel
theorem dX8_metWith_87 : decode cX8_metWith 87 = .ok (.getfield 10, 3) := by decide +kernel
theorem dX8_metWith_90 : decode cX8_metWith 90 = .ok (.getfield 90, 3) := by decide +kernel
theorem dX8_metWith_93 : decode cX8_metWith 93 = .ok (.iload 7, 2) := by decide +kernel
theorem dX8_metWith_95 : decode cX8_metWith 95 = .ok (.iaload, 1) := by decide +kernel
theorem dX8_metWith_96 : decode cX8_metWith 96 = .ok (.iadd, 1) := by decide +kernel
theorem dX8_metWith_97 : decode cX8_metWith 97 = .ok (.invokevirtual 54, 3) := by decide +kernel
theorem dX8_metWith_100 : decode cX8_metWith 100 = .ok (.istore 8, 2) := by decide +kernel
theorem dX8_metWith_102 : decode cX8_metWith 102 = .ok (.iload 8, 2) := by decide +kernel
theorem dX8_metWith_104 : decode cX8_metWith 104 = .ok (.ifCond .lt 23, 3) := by decide +kernel
theorem dX8_metWith_107 : decode cX8_metWith 107 = .ok (.lload 4, 2) := by decide +kernel
theorem dX8_metWith_109 : decode cX8_metWith 109 = .ok (.aload_n 1, 1) := by decide +kernel
theorem dX8_metWith_110 : decode cX8_metWith 110 = .ok (.iload 7, 2) := by decide +kernel
theorem dX8_metWith_112 : decode cX8_metWith 112 = .ok (.laload, 1) := by decide +kernel
theorem dX8_metWith_113 : decode cX8_metWith 113 = .ok (.aload_n 0, 1) := by decide +kernel
theorem dX8_metWith_114 : decode cX8_metWith 114 = .ok (.getfield 10, 3) := by decide +kernel
theorem dX8_metWith_117 : decode cX8_metWith 117 = .ok (.getfield 108, 3) := by decide +kernel
theorem dX8_metWith_120 : decode cX8_metWith 120 = .ok (.iload 8, 2) := by decide +kernel
theorem dX8_metWith_122 : decode cX8_metWith 122 = .ok (.laload, 1) := by decide +kernel
theorem dX8_metWith_123 : decode cX8_metWith 123 = .ok (.lmul, 1) := by decide +kernel
theorem dX8_metWith_124 : decode cX8_metWith 124 = .ok (.ladd, 1) := by decide +kernel
theorem dX8_metWith_125 : decode cX8_metWith 125 = .ok (.lstore 4, 2) := by decide +kernel
theorem dX8_metWith_127 : decode cX8_metWith 127 = .ok (.iinc 6 1, 3) := by decide +kernel
theorem dX8_metWith_130 : decode cX8_metWith 130 = .ok (.goto (-98), 3) := by decide +kernel
theorem dX8_metWith_133 : decode cX8_metWith 133 = .ok (.lload 4, 2) := by decide +kernel
theorem dX8_metWith_135 : decode cX8_metWith 135 = .ok (.lreturn, 1) := by decide +kernel
set_option maxHeartbeats 4000000 in
set_option maxRecDepth 100000 in
theorem cn_X8_metWith {l : Launch} {cA : Nat → ClassId} {ad : Nat → Nat} {D : va_G} {E : Nat → Nat} {A : Nat → Prop} {k1 : Nat} {x2 : Int32} {s0 sr : SS} {rr : Int64} (hf : f_X8_metWith k1 x2 s0 = some (rr, sr)) : zCon Ox Nx cA ad D E l yX8_metWith cX8_metWith 9 (some .long) 1 A [.ref (ad 5), .ref (ad k1), .int x2] s0 (some (.long rr)) sr := by
  refine zstart (own := RX8) hOx (by decide) rfl (Nat.le_of_ble_eq_true rfl) ?_
  intro p e s m args below meth c X hP ls hl
  have hx := X.1
  have hb := X.2.1
  have hl : lv_has ls 9 [(0, .ref (ad 5)), (1, .ref (ad k1)), (2, .int x2)] := hl
  have hS : va_S A s.heap s.heap [] := va_S.rf
  have hc_32 : ∀ (n32 : Nat) (k1 : Nat) (x2 : Int32) (x3 : Int32) (x4 : Int64) (x6 : Int32) (s1 : SS) (H : Heap) (locs : List Loc) (ls : Array Slot), lv_has ls 9 [(0, .ref (ad 5)), (1, .ref (ad k1)), (2, .int x2), (3, .int x3), (4, .long x4), (6, .int x6)] → va_P D ZCL (zw Ox Nx cA ad s1) H → va_S A s.heap H locs → f_X8_metWith_c32 n32 k1 x2 x3 x4 x6 s1 = some (rr, sr) → W p l e (zrm 1) s m args below meth c H locs 0 0 (MQ below (zQc Ox Nx cA ad D A (some (.long rr)) sr) args s 0 0 A) (F0 m 32 ls []) := by
    intro n32
    induction n32 with
    | zero =>
      intro k1 x2 x3 x4 x6 s1 H locs ls hl hP hS hf
      rw [f_X8_metWith_c32] at hf
      cases hf
    | succ n32 ih32 =>
      have hc_127 : ∀ (k1 : Nat) (x2 : Int32) (x3 : Int32) (x4 : Int64) (x6 : Int32) (s1 : SS) (H : Heap) (locs : List Loc) (ls : Array Slot), lv_has ls 9 [(0, .ref (ad 5)), (1, .ref (ad k1)), (2, .int x2), (3, .int x3), (4, .long x4), (6, .int x6)] → va_P D ZCL (zw Ox Nx cA ad s1) H → va_S A s.heap H locs → f_X8_metWith_c127 (f_X8_metWith_c32 n32) k1 x2 x3 x4 x6 s1 = some (rr, sr) → W p l e (zrm 1) s m args below meth c H locs 0 0 (MQ below (zQc Ox Nx cA ad D A (some (.long rr)) sr) args s 0 0 A) (F0 m 127 ls []) := by
        intro k1 x2 x3 x4 x6 s1 H locs ls hl hP hS hf
        rw [f_X8_metWith_c127] at hf
        refine lv_iinc (v := (x6 + 1)) (lv' := [(6, .int (x6 + 1)), (0, .ref (ad 5)), (1, .ref (ad k1)), (2, .int x2), (3, .int x3), (4, .long x4)]) hx hb dX8_metWith_127 hl (k := 5) rfl rfl (by decide) rfl (fun ls hl => ?_)
        refine lv_goto (tgt := 32) hx hb dX8_metWith_130 (by decide) ?_
        exact ih32 k1 x2 x3 x4 (x6 + 1) s1 _ _ _ (lv_sub hl [1, 2, 3, 4, 5, 0] rfl) hP hS hf
      have hc_100 : ∀ (k1 : Nat) (x2 : Int32) (x3 : Int32) (x4 : Int64) (x6 : Int32) (x7 : Int32) (t0 : Int32) (s1 : SS) (H : Heap) (locs : List Loc) (ls : Array Slot), lv_has ls 9 [(0, .ref (ad 5)), (1, .ref (ad k1)), (2, .int x2), (3, .int x3), (4, .long x4), (6, .int x6), (7, .int x7)] → va_P D ZCL (zw Ox Nx cA ad s1) H → va_S A s.heap H locs → f_X8_metWith_c100 (f_X8_metWith_c32 n32) k1 x2 x3 x4 x6 x7 t0 s1 = some (rr, sr) → W p l e (zrm 1) s m args below meth c H locs 0 0 (MQ below (zQc Ox Nx cA ad D A (some (.long rr)) sr) args s 0 0 A) (F0 m 100 ls [.int t0]) := by
        intro k1 x2 x3 x4 x6 x7 t0 s1 H locs ls hl hP hS hf
        rw [f_X8_metWith_c100] at hf
        refine lv_istore (lv' := [(8, .int t0), (0, .ref (ad 5)), (1, .ref (ad k1)), (2, .int x2), (3, .int x3), (4, .long x4), (6, .int x6), (7, .int x7)]) hx hb dX8_metWith_100 hl (by decide) rfl (fun ls hl => ?_)
        refine lv_iload hx hb dX8_metWith_102 (lv_at hl 0 rfl) ?_
        refine zif_lt (tgt := 127) hx hb dX8_metWith_104 (by decide) hf (fun hf => ?_) (fun hf => ?_)
        · exact hc_127 k1 x2 x3 x4 x6 s1 _ _ _ (lv_sub hl [1, 2, 3, 4, 5, 6] rfl) hP hS hf
        · refine lv_lload hx hb dX8_metWith_107 (lv_at hl 5 rfl) ?_
          refine lv_aload_n hx hb dX8_metWith_109 rfl (lv_at hl 2 rfl) ?_
          refine lv_iload hx hb dX8_metWith_110 (lv_at hl 7 rfl) ?_
          obtain ⟨g11, hf⟩ := zgd hf
          obtain ⟨n13, rn13, on13, in13⟩ := zok_of g11
          refine zald_l X hP (k := k1) on13 in13 dX8_metWith_112 ?_
          refine lv_aload_n hx hb dX8_metWith_113 rfl (lv_at hl 1 rfl) ?_
          refine gf_X8_10 X hP (k := 5) (q := 6) rfl dX8_metWith_114 rfl ?_
          refine gf_X8_108 X hP (k := 6) (q := 64) rfl dX8_metWith_117 rfl ?_
          refine lv_iload hx hb dX8_metWith_120 (lv_at hl 0 rfl) ?_
          obtain ⟨g12, hf⟩ := zgd hf
          refine zald_l X hP (k := 64) (n := 462) (rs := []) rfl g12 dX8_metWith_122 ?_
          refine lv_lmul hx hb dX8_metWith_123 ?_
          refine lv_ladd hx hb dX8_metWith_124 ?_
          refine lv_lstore (lv' := [(4, .long (x4 + ((s1.2 k1 (x7).toNatClampNeg) * (s1.2 64 (t0).toNatClampNeg)))), (8, .int t0), (0, .ref (ad 5)), (1, .ref (ad k1)), (2, .int x2), (3, .int x3), (6, .int x6), (7, .int x7)]) hx hb dX8_metWith_125 hl (by decide) rfl (fun ls hl => ?_)
          exact hc_127 k1 x2 x3 (x4 + ((s1.2 k1 (x7).toNatClampNeg) * (s1.2 64 (t0).toNatClampNeg))) x6 s1 _ _ _ (lv_sub hl [2, 3, 4, 5, 0, 6] rfl) hP hS hf
      intro k1 x2 x3 x4 x6 s1 H locs ls hl hP hS hf
      rw [f_X8_metWith_c32] at hf
      refine lv_iload hx hb dX8_metWith_32 (lv_at hl 5 rfl) ?_
      refine lv_aload_n hx hb dX8_metWith_34 rfl (lv_at hl 0 rfl) ?_
      refine gf_X8_10 X hP (k := 5) (q := 6) rfl dX8_metWith_35 rfl ?_
      refine gf_X8_105 X hP (k := 6) (q := 67) rfl dX8_metWith_38 rfl ?_
      refine lv_iload_n hx hb dX8_metWith_41 rfl (lv_at hl 3 rfl) ?_
      refine lv_iconst (v := 1) hx hb dX8_metWith_42 (by decide) ?_
      refine lv_iadd hx hb dX8_metWith_43 ?_
      obtain ⟨g3, hf⟩ := zgd hf
      refine zald_i X hP (k := 67) (n := 7) (rs := []) rfl g3 dX8_metWith_44 ?_
      refine zicmp_ge (tgt := 133) hx hb dX8_metWith_45 (by decide) hf (fun hf => ?_) (fun hf => ?_)
      · refine lv_lload hx hb dX8_metWith_133 (lv_at hl 4 rfl) ?_
        exact zret_l X hP hS hf dX8_metWith_135
      · refine lv_aload_n hx hb dX8_metWith_48 rfl (lv_at hl 0 rfl) ?_
        refine gf_X8_10 X hP (k := 5) (q := 6) rfl dX8_metWith_49 rfl ?_
        refine gf_X8_84 X hP (k := 6) (q := 66) rfl dX8_metWith_52 rfl ?_
        refine lv_iload hx hb dX8_metWith_55 (lv_at hl 5 rfl) ?_
        obtain ⟨g4, hf⟩ := zgd hf
        refine zald_i X hP (k := 66) (n := 462) (rs := []) rfl g4 dX8_metWith_57 ?_
        refine lv_istore (lv' := [(7, .int (s1.1 66 (x6).toNatClampNeg)), (0, .ref (ad 5)), (1, .ref (ad k1)), (2, .int x2), (3, .int x3), (4, .long x4), (6, .int x6)]) hx hb dX8_metWith_58 hl (by decide) rfl (fun ls hl => ?_)
        refine lv_aload_n hx hb dX8_metWith_60 rfl (lv_at hl 2 rfl) ?_
        refine lv_iload hx hb dX8_metWith_61 (lv_at hl 0 rfl) ?_
        obtain ⟨g5, hf⟩ := zgd hf
        obtain ⟨n14, rn14, on14, in14⟩ := zok_of g5
        refine zald_l X hP (k := k1) on14 in14 dX8_metWith_63 ?_
        refine lv_lconst (v := 0) hx hb dX8_metWith_64 (by decide) ?_
        refine W.lcmp hx hb dX8_metWith_65 ?_
        refine zif_ne (tgt := 73) hx hb dX8_metWith_66 (by decide) hf (fun hf => ?_) (fun hf => ?_)
        · refine lv_aload_n hx hb dX8_metWith_73 rfl (lv_at hl 1 rfl) ?_
          refine gf_X8_10 X hP (k := 5) (q := 6) rfl dX8_metWith_74 rfl ?_
          refine lv_aload_n hx hb dX8_metWith_77 rfl (lv_at hl 1 rfl) ?_
          refine gf_X8_10 X hP (k := 5) (q := 6) rfl dX8_metWith_78 rfl ?_
          refine gf_X8_90 X hP (k := 6) (q := 62) rfl dX8_metWith_81 rfl ?_
          refine lv_iload_n hx hb dX8_metWith_84 rfl (lv_at hl 3 rfl) ?_
          obtain ⟨g6, hf⟩ := zgd hf
          refine zald_i X hP (k := 62) (n := 462) (rs := []) rfl g6 dX8_metWith_85 ?_
          refine lv_aload_n hx hb dX8_metWith_86 rfl (lv_at hl 1 rfl) ?_
          refine gf_X8_10 X hP (k := 5) (q := 6) rfl dX8_metWith_87 rfl ?_
          refine gf_X8_90 X hP (k := 6) (q := 62) rfl dX8_metWith_90 rfl ?_
          refine lv_iload hx hb dX8_metWith_93 (lv_at hl 0 rfl) ?_
          obtain ⟨g7, hf⟩ := zgd hf
          refine zald_i X hP (k := 62) (n := 462) (rs := []) rfl g7 dX8_metWith_95 ?_
          refine lv_iadd hx hb dX8_metWith_96 ?_
          obtain ⟨r8, s9, h10, hf⟩ := zbd_some hf
          refine zcallV X hP hS hl.1 (k := 6) (As := [.int ((s1.1 62 (x2).toNatClampNeg) + (s1.1 62 ((s1.1 66 (x6).toNatClampNeg)).toNatClampNeg))]) (rest := []) (cn_X10_find h10) cw_X10_find zp_10 rfl (by decide) rfl ml_X8_54 (by decide) rfl rfl (Nat.le_of_ble_eq_true rfl) dX8_metWith_97 (fun H locs hP hS => ?_)
          exact hc_100 k1 x2 x3 x4 x6 (s1.1 66 (x6).toNatClampNeg) r8 s9 _ _ _ (lv_sub hl [1, 2, 3, 4, 5, 6, 0] rfl) hP hS hf
        · refine lv_iconst (v := (-1)) hx hb dX8_metWith_69 (by decide) ?_
          refine lv_goto (tgt := 100) hx hb dX8_metWith_70 (by decide) ?_
          exact hc_100 k1 x2 x3 x4 x6 (s1.1 66 (x6).toNatClampNeg) (-1) s1 _ _ _ (lv_sub hl [1, 2, 3, 4, 5, 6, 0] rfl) hP hS hf
  rw [f_X8_metWith] at hf
  refine lv_aload_n hx hb dX8_metWith_0 rfl (lv_at hl 0 rfl) ?_
  refine gf_X8_10 X hP (k := 5) (q := 6) rfl dX8_metWith_1 rfl ?_
  refine gf_X8_87 X hP (k := 6) rfl dX8_metWith_4 ?_
  refine lv_aload_n hx hb dX8_metWith_7 rfl (lv_at hl 0 rfl) ?_
  refine gf_X8_10 X hP (k := 5) (q := 6) rfl dX8_metWith_8 rfl ?_
  refine gf_X8_64 X hP (k := 6) (q := 63) rfl dX8_metWith_11 rfl ?_
  refine lv_iload_n hx hb dX8_metWith_14 rfl (lv_at hl 2 rfl) ?_
  obtain ⟨g1, hf⟩ := zgd hf
  refine zald_i X hP (k := 63) (n := 462) (rs := []) rfl g1 dX8_metWith_15 ?_
  refine lv_isub hx hb dX8_metWith_16 ?_
  refine lv_istore_n (lv' := [(3, .int ((s0.1 6 0) - (s0.1 63 (x2).toNatClampNeg))), (0, .ref (ad 5)), (1, .ref (ad k1)), (2, .int x2)]) hx hb dX8_metWith_17 rfl hl (by decide) rfl (fun ls hl => ?_)
  refine lv_lconst (v := 0) hx hb dX8_metWith_18 (by decide) ?_
  refine lv_lstore (lv' := [(4, .long 0), (3, .int ((s0.1 6 0) - (s0.1 63 (x2).toNatClampNeg))), (0, .ref (ad 5)), (1, .ref (ad k1)), (2, .int x2)]) hx hb dX8_metWith_19 hl (by decide) rfl (fun ls hl => ?_)
  refine lv_aload_n hx hb dX8_metWith_21 rfl (lv_at hl 2 rfl) ?_
  refine gf_X8_10 X hP (k := 5) (q := 6) rfl dX8_metWith_22 rfl ?_
  refine gf_X8_105 X hP (k := 6) (q := 67) rfl dX8_metWith_25 rfl ?_
  refine lv_iload_n hx hb dX8_metWith_28 rfl (lv_at hl 1 rfl) ?_
  obtain ⟨g2, hf⟩ := zgd hf
  refine zald_i X hP (k := 67) (n := 7) (rs := []) rfl g2 dX8_metWith_29 ?_
  refine lv_istore (lv' := [(6, .int (s0.1 67 (((s0.1 6 0) - (s0.1 63 (x2).toNatClampNeg))).toNatClampNeg)), (4, .long 0), (3, .int ((s0.1 6 0) - (s0.1 63 (x2).toNatClampNeg))), (0, .ref (ad 5)), (1, .ref (ad k1)), (2, .int x2)]) hx hb dX8_metWith_30 hl (by decide) rfl (fun ls hl => ?_)
  exact hc_32 ZF k1 x2 ((s0.1 6 0) - (s0.1 63 (x2).toNatClampNeg)) 0 (s0.1 67 (((s0.1 6 0) - (s0.1 63 (x2).toNatClampNeg))).toNatClampNeg) s0 _ _ _ (lv_sub hl [3, 4, 5, 2, 1, 0] rfl) hP hS hf
theorem dX8_areLike_0 : decode cX8_areLike 0 = .ok (.iconst 0, 1) := by decide +kernel
theorem dX8_areLike_1 : decode cX8_areLike 1 = .ok (.istore_n 3, 1) := by decide +kernel
theorem dX8_areLike_2 : decode cX8_areLike 2 = .ok (.iload_n 3, 1) := by decide +kernel
theorem dX8_areLike_3 : decode cX8_areLike 3 = .ok (.aload_n 0, 1) := by decide +kernel
theorem dX8_areLike_4 : decode cX8_areLike 4 = .ok (.getfield 10, 3) := by decide +kernel
theorem dX8_areLike_7 : decode cX8_areLike 7 = .ok (.getfield 42, 3) := by decide +kernel
theorem dX8_areLike_10 : decode cX8_areLike 10 = .ok (.if_icmp .ge 27, 3) := by decide +kernel
theorem dX8_areLike_13 : decode cX8_areLike 13 = .ok (.aload_n 0, 1) := by decide +kernel
theorem dX8_areLike_14 : decode cX8_areLike 14 = .ok (.aload_n 1, 1) := by decide +kernel
theorem dX8_areLike_15 : decode cX8_areLike 15 = .ok (.iload_n 3, 1) := by decide +kernel
theorem dX8_areLike_16 : decode cX8_areLike 16 = .ok (.invokevirtual 111, 3) := by decide +kernel
theorem dX8_areLike_19 : decode cX8_areLike 19 = .ok (.aload_n 0, 1) := by decide +kernel
theorem dX8_areLike_20 : decode cX8_areLike 20 = .ok (.aload_n 2, 1) := by decide +kernel
theorem dX8_areLike_21 : decode cX8_areLike 21 = .ok (.iload_n 3, 1) := by decide +kernel
theorem dX8_areLike_22 : decode cX8_areLike 22 = .ok (.invokevirtual 111, 3) := by decide +kernel
theorem dX8_areLike_25 : decode cX8_areLike 25 = .ok (.lcmp, 1) := by decide +kernel
theorem dX8_areLike_26 : decode cX8_areLike 26 = .ok (.ifCond .eq 5, 3) := by decide +kernel
theorem dX8_areLike_29 : decode cX8_areLike 29 = .ok (.iconst 0, 1) := by decide +kernel
theorem dX8_areLike_30 : decode cX8_areLike 30 = .ok (.ireturn, 1) := by decide +kernel
theorem dX8_areLike_31 : decode cX8_areLike 31 = .ok (.iinc 3 1, 3) := by decide +kernel
theorem dX8_areLike_34 : decode cX8_areLike 34 = .ok (.goto (-32), 3) := by decide +kernel
theorem dX8_areLike_37 : decode cX8_areLike 37 = .ok (.iconst 1, 1) := by decide +kernel
theorem dX8_areLike_38 : decode cX8_areLike 38 = .ok (.ireturn, 1) := by decide +kernel
set_option maxHeartbeats 4000000 in
set_option maxRecDepth 100000 in
theorem cn_X8_areLike {l : Launch} {cA : Nat → ClassId} {ad : Nat → Nat} {D : va_G} {E : Nat → Nat} {A : Nat → Prop} {k1 : Nat} {k2 : Nat} {s0 sr : SS} {rr : Int32} (hf : f_X8_areLike k1 k2 s0 = some (rr, sr)) : zCon Ox Nx cA ad D E l yX8_areLike cX8_areLike 4 (some .boolean) 2 A [.ref (ad 5), .ref (ad k1), .ref (ad k2)] s0 (some (.int rr)) sr := by
  refine zstart (own := RX8) hOx (by decide) rfl (Nat.le_of_ble_eq_true rfl) ?_
  intro p e s m args below meth c X hP ls hl
  have hx := X.1
  have hb := X.2.1
  have hl : lv_has ls 4 [(0, .ref (ad 5)), (1, .ref (ad k1)), (2, .ref (ad k2))] := hl
  have hS : va_S A s.heap s.heap [] := va_S.rf
  have hc_2 : ∀ (n2 : Nat) (k1 : Nat) (k2 : Nat) (x3 : Int32) (s1 : SS) (H : Heap) (locs : List Loc) (ls : Array Slot), lv_has ls 4 [(0, .ref (ad 5)), (1, .ref (ad k1)), (2, .ref (ad k2)), (3, .int x3)] → va_P D ZCL (zw Ox Nx cA ad s1) H → va_S A s.heap H locs → f_X8_areLike_c2 n2 k1 k2 x3 s1 = some (rr, sr) → W p l e (zrm 2) s m args below meth c H locs 0 0 (MQ below (zQc Ox Nx cA ad D A (some (.int rr)) sr) args s 0 0 A) (F0 m 2 ls []) := by
    intro n2
    induction n2 with
    | zero =>
      intro k1 k2 x3 s1 H locs ls hl hP hS hf
      rw [f_X8_areLike_c2] at hf
      cases hf
    | succ n2 ih2 =>
      intro k1 k2 x3 s1 H locs ls hl hP hS hf
      rw [f_X8_areLike_c2] at hf
      refine lv_iload_n hx hb dX8_areLike_2 rfl (lv_at hl 3 rfl) ?_
      refine lv_aload_n hx hb dX8_areLike_3 rfl (lv_at hl 0 rfl) ?_
      refine gf_X8_10 X hP (k := 5) (q := 6) rfl dX8_areLike_4 rfl ?_
      refine gf_X8_42 X hP (k := 6) rfl dX8_areLike_7 ?_
      refine zicmp_ge (tgt := 37) hx hb dX8_areLike_10 (by decide) hf (fun hf => ?_) (fun hf => ?_)
      · refine lv_iconst (v := 1) hx hb dX8_areLike_37 (by decide) ?_
        exact zret_i X hP hS hf rfl dX8_areLike_38
      · refine lv_aload_n hx hb dX8_areLike_13 rfl (lv_at hl 0 rfl) ?_
        refine lv_aload_n hx hb dX8_areLike_14 rfl (lv_at hl 1 rfl) ?_
        refine lv_iload_n hx hb dX8_areLike_15 rfl (lv_at hl 3 rfl) ?_
        obtain ⟨r1, s2, h3, hf⟩ := zbd_some hf
        refine zcallV X hP hS hl.1 (k := 5) (As := [.ref (ad k1), .int x3]) (rest := []) (cn_X8_metWith h3) cw_X8_metWith zp_8 rfl (by decide) rfl ml_X8_111 (by decide) rfl rfl (Nat.le_of_ble_eq_true rfl) dX8_areLike_16 (fun H locs hP hS => ?_)
        refine lv_aload_n hx hb dX8_areLike_19 rfl (lv_at hl 0 rfl) ?_
        refine lv_aload_n hx hb dX8_areLike_20 rfl (lv_at hl 2 rfl) ?_
        refine lv_iload_n hx hb dX8_areLike_21 rfl (lv_at hl 3 rfl) ?_
        obtain ⟨r4, s5, h6, hf⟩ := zbd_some hf
        refine zcallV X hP hS hl.1 (k := 5) (As := [.ref (ad k2), .int x3]) (rest := [.long r1]) (cn_X8_metWith h6) cw_X8_metWith zp_8 rfl (by decide) rfl ml_X8_111 (by decide) rfl rfl (Nat.le_of_ble_eq_true rfl) dX8_areLike_22 (fun H locs hP hS => ?_)
        refine W.lcmp hx hb dX8_areLike_25 ?_
        refine zif_eq (tgt := 31) hx hb dX8_areLike_26 (by decide) hf (fun hf => ?_) (fun hf => ?_)
        · refine lv_iinc (v := (x3 + 1)) (lv' := [(3, .int (x3 + 1)), (0, .ref (ad 5)), (1, .ref (ad k1)), (2, .ref (ad k2))]) hx hb dX8_areLike_31 hl (k := 3) rfl rfl (by decide) rfl (fun ls hl => ?_)
          refine lv_goto (tgt := 2) hx hb dX8_areLike_34 (by decide) ?_
          exact ih2 k1 k2 (x3 + 1) s5 _ _ _ (lv_sub hl [1, 2, 3, 0] rfl) hP hS hf
        · refine lv_iconst (v := 0) hx hb dX8_areLike_29 (by decide) ?_
          exact zret_i X hP hS hf rfl dX8_areLike_30
  rw [f_X8_areLike] at hf
  refine lv_iconst (v := 0) hx hb dX8_areLike_0 (by decide) ?_
  refine lv_istore_n (lv' := [(3, .int 0), (0, .ref (ad 5)), (1, .ref (ad k1)), (2, .ref (ad k2))]) hx hb dX8_areLike_1 rfl hl (by decide) rfl (fun ls hl => ?_)
  exact hc_2 ZF k1 k2 0 s0 _ _ _ (lv_sub hl [1, 2, 3, 0] rfl) hP hS hf
theorem dX8_makeCanonical_0 : decode cX8_makeCanonical 0 = .ok (.aload_n 0, 1) := by decide +kernel
theorem dX8_makeCanonical_1 : decode cX8_makeCanonical 1 = .ok (.aload_n 2, 1) := by decide +kernel
theorem dX8_makeCanonical_2 : decode cX8_makeCanonical 2 = .ok (.invokevirtual 115, 3) := by decide +kernel
theorem dX8_makeCanonical_5 : decode cX8_makeCanonical 5 = .ok (.iconst 0, 1) := by decide +kernel
theorem dX8_makeCanonical_6 : decode cX8_makeCanonical 6 = .ok (.istore_n 3, 1) := by decide +kernel
theorem dX8_makeCanonical_7 : decode cX8_makeCanonical 7 = .ok (.iload_n 3, 1) := by decide +kernel
theorem dX8_makeCanonical_8 : decode cX8_makeCanonical 8 = .ok (.aload_n 0, 1) := by decide +kernel
theorem dX8_makeCanonical_9 : decode cX8_makeCanonical 9 = .ok (.getfield 10, 3) := by decide +kernel
theorem dX8_makeCanonical_12 : decode cX8_makeCanonical 12 = .ok (.getfield 46, 3) := by decide +kernel
theorem dX8_makeCanonical_15 : decode cX8_makeCanonical 15 = .ok (.if_icmp .ge 20, 3) := by decide +kernel
theorem dX8_makeCanonical_18 : decode cX8_makeCanonical 18 = .ok (.aload_n 0, 1) := by decide +kernel
theorem dX8_makeCanonical_19 : decode cX8_makeCanonical 19 = .ok (.aload_n 2, 1) := by decide +kernel
theorem dX8_makeCanonical_20 : decode cX8_makeCanonical 20 = .ok (.iload_n 3, 1) := by decide +kernel
theorem dX8_makeCanonical_21 : decode cX8_makeCanonical 21 = .ok (.aload_n 1, 1) := by decide +kernel
theorem dX8_makeCanonical_22 : decode cX8_makeCanonical 22 = .ok (.iload_n 3, 1) := by decide +kernel
theorem dX8_makeCanonical_23 : decode cX8_makeCanonical 23 = .ok (.invokevirtual 118, 3) := by decide +kernel
theorem dX8_makeCanonical_26 : decode cX8_makeCanonical 26 = .ok (.invokevirtual 124, 3) := by decide +kernel
theorem dX8_makeCanonical_29 : decode cX8_makeCanonical 29 = .ok (.iinc 3 1, 3) := by decide +kernel
theorem dX8_makeCanonical_32 : decode cX8_makeCanonical 32 = .ok (.goto (-25), 3) := by decide +kernel
theorem dX8_makeCanonical_35 : decode cX8_makeCanonical 35 = .ok (.return_, 1) := by decide +kernel
set_option maxHeartbeats 4000000 in
set_option maxRecDepth 100000 in
theorem cn_X8_makeCanonical {l : Launch} {cA : Nat → ClassId} {ad : Nat → Nat} {D : va_G} {E : Nat → Nat} {A : Nat → Prop} {k1 : Nat} {k2 : Nat} {s0 sr : SS} {rr : Unit} (hf : f_X8_makeCanonical k1 k2 s0 = some (rr, sr)) : zCon Ox Nx cA ad D E l yX8_makeCanonical cX8_makeCanonical 4 none 2 A [.ref (ad 5), .ref (ad k1), .ref (ad k2)] s0 none sr := by
  refine zstart (own := RX8) hOx (by decide) rfl (Nat.le_of_ble_eq_true rfl) ?_
  intro p e s m args below meth c X hP ls hl
  have hx := X.1
  have hb := X.2.1
  have hl : lv_has ls 4 [(0, .ref (ad 5)), (1, .ref (ad k1)), (2, .ref (ad k2))] := hl
  have hS : va_S A s.heap s.heap [] := va_S.rf
  have hc_7 : ∀ (n7 : Nat) (k1 : Nat) (k2 : Nat) (x3 : Int32) (s1 : SS) (H : Heap) (locs : List Loc) (ls : Array Slot), lv_has ls 4 [(0, .ref (ad 5)), (1, .ref (ad k1)), (2, .ref (ad k2)), (3, .int x3)] → va_P D ZCL (zw Ox Nx cA ad s1) H → va_S A s.heap H locs → f_X8_makeCanonical_c7 n7 k1 k2 x3 s1 = some (rr, sr) → W p l e (zrm 2) s m args below meth c H locs 0 0 (MQ below (zQc Ox Nx cA ad D A none sr) args s 0 0 A) (F0 m 7 ls []) := by
    intro n7
    induction n7 with
    | zero =>
      intro k1 k2 x3 s1 H locs ls hl hP hS hf
      rw [f_X8_makeCanonical_c7] at hf
      cases hf
    | succ n7 ih7 =>
      intro k1 k2 x3 s1 H locs ls hl hP hS hf
      rw [f_X8_makeCanonical_c7] at hf
      obtain ⟨gp1, hf⟩ := zgd hf
      refine lv_iload_n hx hb dX8_makeCanonical_7 rfl (lv_at hl 3 rfl) ?_
      refine lv_aload_n hx hb dX8_makeCanonical_8 rfl (lv_at hl 0 rfl) ?_
      refine gf_X8_10 X hP (k := 5) (q := 6) rfl dX8_makeCanonical_9 rfl ?_
      refine gf_X8_46 X hP (k := 6) rfl dX8_makeCanonical_12 ?_
      refine zicmp_ge (tgt := 35) hx hb dX8_makeCanonical_15 (by decide) hf (fun hf => ?_) (fun hf => ?_)
      · exact zret_v X hP hS hf dX8_makeCanonical_35
      · refine lv_aload_n hx hb dX8_makeCanonical_18 rfl (lv_at hl 0 rfl) ?_
        refine lv_aload_n hx hb dX8_makeCanonical_19 rfl (lv_at hl 2 rfl) ?_
        refine lv_iload_n hx hb dX8_makeCanonical_20 rfl (lv_at hl 3 rfl) ?_
        refine lv_aload_n hx hb dX8_makeCanonical_21 rfl (lv_at hl 1 rfl) ?_
        refine lv_iload_n hx hb dX8_makeCanonical_22 rfl (lv_at hl 3 rfl) ?_
        obtain ⟨r4, s5, h6, hf⟩ := zbd_some hf
        refine zcallV X hP hS hl.1 (k := k1) (As := [.int x3]) (rest := [.int x3, .ref (ad k2), .ref (ad 5)]) (cn_X7_canonicalAt h6) cw_X7_canonicalAt zp_7 gp1 (by decide) rfl ml_X8_118 (by decide) rfl rfl (Nat.le_of_ble_eq_true rfl) dX8_makeCanonical_23 (fun H locs hP hS => ?_)
        obtain ⟨r7, s8, h9, hf⟩ := zbd_some hf
        refine zcallV X hP hS hl.1 (k := 5) (As := [.ref (ad k2), .int x3, .long r4]) (rest := []) (cn_X8_putAtLetter h9) cw_X8_putAtLetter zp_8 rfl (by decide) rfl ml_X8_124 (by decide) rfl rfl (Nat.le_of_ble_eq_true rfl) dX8_makeCanonical_26 (fun H locs hP hS => ?_)
        refine lv_iinc (v := (x3 + 1)) (lv' := [(3, .int (x3 + 1)), (0, .ref (ad 5)), (1, .ref (ad k1)), (2, .ref (ad k2))]) hx hb dX8_makeCanonical_29 hl (k := 3) rfl rfl (by decide) rfl (fun ls hl => ?_)
        refine lv_goto (tgt := 7) hx hb dX8_makeCanonical_32 (by decide) ?_
        exact ih7 k1 k2 (x3 + 1) s8 _ _ _ (lv_sub hl [1, 2, 3, 0] rfl) hP hS hf
  rw [f_X8_makeCanonical] at hf
  obtain ⟨gp1, hf⟩ := zgd hf
  refine lv_aload_n hx hb dX8_makeCanonical_0 rfl (lv_at hl 0 rfl) ?_
  refine lv_aload_n hx hb dX8_makeCanonical_1 rfl (lv_at hl 2 rfl) ?_
  obtain ⟨r1, s2, h3, hf⟩ := zbd_some hf
  refine zcallV X hP hS hl.1 (k := 5) (As := [.ref (ad k2)]) (rest := []) (cn_X8_makeZero h3) cw_X8_makeZero zp_8 rfl (by decide) rfl ml_X8_115 (by decide) rfl rfl (Nat.le_of_ble_eq_true rfl) dX8_makeCanonical_2 (fun H locs hP hS => ?_)
  refine lv_iconst (v := 0) hx hb dX8_makeCanonical_5 (by decide) ?_
  refine lv_istore_n (lv' := [(3, .int 0), (0, .ref (ad 5)), (1, .ref (ad k1)), (2, .ref (ad k2))]) hx hb dX8_makeCanonical_6 rfl hl (by decide) rfl (fun ls hl => ?_)
  exact hc_7 ZF k1 k2 0 s2 _ _ _ (lv_sub hl [1, 2, 3, 0] rfl) hP hS hf
theorem dX8_makeChern_0 : decode cX8_makeChern 0 = .ok (.aload_n 0, 1) := by decide +kernel
theorem dX8_makeChern_1 : decode cX8_makeChern 1 = .ok (.aload_n 0, 1) := by decide +kernel
theorem dX8_makeChern_2 : decode cX8_makeChern 2 = .ok (.getfield 23, 3) := by decide +kernel
theorem dX8_makeChern_5 : decode cX8_makeChern 5 = .ok (.invokevirtual 101, 3) := by decide +kernel
theorem dX8_makeChern_8 : decode cX8_makeChern 8 = .ok (.iconst 0, 1) := by decide +kernel
theorem dX8_makeChern_9 : decode cX8_makeChern 9 = .ok (.istore_n 2, 1) := by decide +kernel
theorem dX8_makeChern_10 : decode cX8_makeChern 10 = .ok (.iload_n 2, 1) := by decide +kernel
theorem dX8_makeChern_11 : decode cX8_makeChern 11 = .ok (.aload_n 1, 1) := by decide +kernel
theorem dX8_makeChern_12 : decode cX8_makeChern 12 = .ok (.getfield 128, 3) := by decide +kernel
theorem dX8_makeChern_15 : decode cX8_makeChern 15 = .ok (.if_icmp .ge 66, 3) := by decide +kernel
theorem dX8_makeChern_18 : decode cX8_makeChern 18 = .ok (.iload_n 2, 1) := by decide +kernel
theorem dX8_makeChern_19 : decode cX8_makeChern 19 = .ok (.aload_n 1, 1) := by decide +kernel
theorem dX8_makeChern_20 : decode cX8_makeChern 20 = .ok (.getfield 131, 3) := by decide +kernel
theorem dX8_makeChern_23 : decode cX8_makeChern 23 = .ok (.arraylength, 1) := by decide +kernel
theorem dX8_makeChern_24 : decode cX8_makeChern 24 = .ok (.if_icmp .ge 57, 3) := by decide +kernel
theorem dX8_makeChern_27 : decode cX8_makeChern 27 = .ok (.aload_n 0, 1) := by decide +kernel
theorem dX8_makeChern_28 : decode cX8_makeChern 28 = .ok (.aload_n 0, 1) := by decide +kernel
theorem dX8_makeChern_29 : decode cX8_makeChern 29 = .ok (.getfield 26, 3) := by decide +kernel
theorem dX8_makeChern_32 : decode cX8_makeChern 32 = .ok (.invokevirtual 101, 3) := by decide +kernel
theorem dX8_makeChern_35 : decode cX8_makeChern 35 = .ok (.aload_n 0, 1) := by decide +kernel
theorem dX8_makeChern_36 : decode cX8_makeChern 36 = .ok (.aload_n 0, 1) := by decide +kernel
theorem dX8_makeChern_37 : decode cX8_makeChern 37 = .ok (.getfield 26, 3) := by decide +kernel
theorem dX8_makeChern_40 : decode cX8_makeChern 40 = .ok (.iload_n 2, 1) := by decide +kernel
theorem dX8_makeChern_41 : decode cX8_makeChern 41 = .ok (.lconst 1, 1) := by decide +kernel
theorem dX8_makeChern_42 : decode cX8_makeChern 42 = .ok (.invokevirtual 124, 3) := by decide +kernel
theorem dX8_makeChern_45 : decode cX8_makeChern 45 = .ok (.iconst 0, 1) := by decide +kernel
theorem dX8_makeChern_46 : decode cX8_makeChern 46 = .ok (.istore_n 3, 1) := by decide +kernel
theorem dX8_makeChern_47 : decode cX8_makeChern 47 = .ok (.iload_n 3, 1) := by decide +kernel
theorem dX8_makeChern_48 : decode cX8_makeChern 48 = .ok (.aload_n 1, 1) := by decide +kernel
theorem dX8_makeChern_49 : decode cX8_makeChern 49 = .ok (.getfield 131, 3) := by decide +kernel
theorem dX8_makeChern_52 : decode cX8_makeChern 52 = .ok (.iload_n 2, 1) := by decide +kernel
theorem dX8_makeChern_53 : decode cX8_makeChern 53 = .ok (.iaload, 1) := by decide +kernel
theorem dX8_makeChern_54 : decode cX8_makeChern 54 = .ok (.if_icmp .gt 21, 3) := by decide +kernel
theorem dX8_makeChern_57 : decode cX8_makeChern 57 = .ok (.aload_n 0, 1) := by decide +kernel
theorem dX8_makeChern_58 : decode cX8_makeChern 58 = .ok (.aload_n 0, 1) := by decide +kernel
theorem dX8_makeChern_59 : decode cX8_makeChern 59 = .ok (.getfield 23, 3) := by decide +kernel
theorem dX8_makeChern_62 : decode cX8_makeChern 62 = .ok (.aload_n 0, 1) := by decide +kernel
theorem dX8_makeChern_63 : decode cX8_makeChern 63 = .ok (.getfield 26, 3) := by decide +kernel
theorem dX8_makeChern_66 : decode cX8_makeChern 66 = .ok (.invokevirtual 97, 3) := by decide +kernel
theorem dX8_makeChern_69 : decode cX8_makeChern 69 = .ok (.iinc 3 1, 3) := by decide +kernel
theorem dX8_makeChern_72 : decode cX8_makeChern 72 = .ok (.goto (-25), 3) := by decide +kernel
theorem dX8_makeChern_75 : decode cX8_makeChern 75 = .ok (.iinc 2 1, 3) := by decide +kernel
theorem dX8_makeChern_78 : decode cX8_makeChern 78 = .ok (.goto (-68), 3) := by decide +kernel
theorem dX8_makeChern_81 : decode cX8_makeChern 81 = .ok (.return_, 1) := by decide +kernel
set_option maxHeartbeats 4000000 in
set_option maxRecDepth 100000 in
theorem cn_X8_makeChern {l : Launch} {cA : Nat → ClassId} {ad : Nat → Nat} {D : va_G} {E : Nat → Nat} {A : Nat → Prop} {k1 : Nat} {s0 sr : SS} {rr : Unit} (hf : f_X8_makeChern k1 s0 = some (rr, sr)) : zCon Ox Nx cA ad D E l yX8_makeChern cX8_makeChern 4 none 3 A [.ref (ad 5), .ref (ad k1)] s0 none sr := by
  refine zstart (own := RX8) hOx (by decide) rfl (Nat.le_of_ble_eq_true rfl) ?_
  intro p e s m args below meth c X hP ls hl
  have hx := X.1
  have hb := X.2.1
  have hl : lv_has ls 4 [(0, .ref (ad 5)), (1, .ref (ad k1))] := hl
  have hS : va_S A s.heap s.heap [] := va_S.rf
  have hc_10 : ∀ (n10 : Nat) (k1 : Nat) (x2 : Int32) (s1 : SS) (H : Heap) (locs : List Loc) (ls : Array Slot), lv_has ls 4 [(0, .ref (ad 5)), (1, .ref (ad k1)), (2, .int x2)] → va_P D ZCL (zw Ox Nx cA ad s1) H → va_S A s.heap H locs → f_X8_makeChern_c10 n10 k1 x2 s1 = some (rr, sr) → W p l e (zrm 3) s m args below meth c H locs 0 0 (MQ below (zQc Ox Nx cA ad D A none sr) args s 0 0 A) (F0 m 10 ls []) := by
    intro n10
    induction n10 with
    | zero =>
      intro k1 x2 s1 H locs ls hl hP hS hf
      rw [f_X8_makeChern_c10] at hf
      cases hf
    | succ n10 ih10 =>
      have hc_47 : ∀ (n47 : Nat) (k1 : Nat) (x2 : Int32) (x3 : Int32) (s1 : SS) (H : Heap) (locs : List Loc) (ls : Array Slot), lv_has ls 4 [(0, .ref (ad 5)), (1, .ref (ad k1)), (2, .int x2), (3, .int x3)] → va_P D ZCL (zw Ox Nx cA ad s1) H → va_S A s.heap H locs → f_X8_makeChern_c47 (f_X8_makeChern_c10 n10) n47 k1 x2 x3 s1 = some (rr, sr) → W p l e (zrm 3) s m args below meth c H locs 0 0 (MQ below (zQc Ox Nx cA ad D A none sr) args s 0 0 A) (F0 m 47 ls []) := by
        intro n47
        induction n47 with
        | zero =>
          intro k1 x2 x3 s1 H locs ls hl hP hS hf
          rw [f_X8_makeChern_c47] at hf
          cases hf
        | succ n47 ih47 =>
          intro k1 x2 x3 s1 H locs ls hl hP hS hf
          rw [f_X8_makeChern_c47] at hf
          obtain ⟨gp1, hf⟩ := zgd hf
          refine lv_iload_n hx hb dX8_makeChern_47 rfl (lv_at hl 3 rfl) ?_
          refine lv_aload_n hx hb dX8_makeChern_48 rfl (lv_at hl 1 rfl) ?_
          refine gf_X8_131 X hP (k := k1) gp1 dX8_makeChern_49 rfl ?_
          refine lv_iload_n hx hb dX8_makeChern_52 rfl (lv_at hl 2 rfl) ?_
          obtain ⟨g12, hf⟩ := zgd hf
          obtain ⟨n16, rn16, on16, in16⟩ := zok_of g12
          refine zald_i X hP (k := (zrf Ox k1 3)) on16 in16 dX8_makeChern_53 ?_
          refine zicmp_gt (tgt := 75) hx hb dX8_makeChern_54 (by decide) hf (fun hf => ?_) (fun hf => ?_)
          · refine lv_iinc (v := (x2 + 1)) (lv' := [(2, .int (x2 + 1)), (0, .ref (ad 5)), (1, .ref (ad k1)), (3, .int x3)]) hx hb dX8_makeChern_75 hl (k := 2) rfl rfl (by decide) rfl (fun ls hl => ?_)
            refine lv_goto (tgt := 10) hx hb dX8_makeChern_78 (by decide) ?_
            exact ih10 k1 (x2 + 1) s1 _ _ _ (lv_sub hl [1, 2, 0] rfl) hP hS hf
          · refine lv_aload_n hx hb dX8_makeChern_57 rfl (lv_at hl 0 rfl) ?_
            refine lv_aload_n hx hb dX8_makeChern_58 rfl (lv_at hl 0 rfl) ?_
            refine gf_X8_23 X hP (k := 5) (q := 23) rfl dX8_makeChern_59 rfl ?_
            refine lv_aload_n hx hb dX8_makeChern_62 rfl (lv_at hl 0 rfl) ?_
            refine gf_X8_26 X hP (k := 5) (q := 24) rfl dX8_makeChern_63 rfl ?_
            obtain ⟨r13, s14, h15, hf⟩ := zbd_some hf
            refine zcallV X hP hS hl.1 (k := 5) (As := [.ref (ad 23), .ref (ad 24)]) (rest := []) (cn_X8_multiply h15) cw_X8_multiply zp_8 rfl (by decide) rfl ml_X8_97 (by decide) rfl rfl (Nat.le_of_ble_eq_true rfl) dX8_makeChern_66 (fun H locs hP hS => ?_)
            refine lv_iinc (v := (x3 + 1)) (lv' := [(3, .int (x3 + 1)), (0, .ref (ad 5)), (1, .ref (ad k1)), (2, .int x2)]) hx hb dX8_makeChern_69 hl (k := 3) rfl rfl (by decide) rfl (fun ls hl => ?_)
            refine lv_goto (tgt := 47) hx hb dX8_makeChern_72 (by decide) ?_
            exact ih47 k1 x2 (x3 + 1) s14 _ _ _ (lv_sub hl [1, 2, 3, 0] rfl) hP hS hf
      intro k1 x2 s1 H locs ls hl hP hS hf
      rw [f_X8_makeChern_c10] at hf
      obtain ⟨gp1, hf⟩ := zgd hf
      refine lv_iload_n hx hb dX8_makeChern_10 rfl (lv_at hl 2 rfl) ?_
      refine lv_aload_n hx hb dX8_makeChern_11 rfl (lv_at hl 1 rfl) ?_
      refine gf_X8_128 X hP (k := k1) gp1 dX8_makeChern_12 ?_
      refine zicmp_ge (tgt := 81) hx hb dX8_makeChern_15 (by decide) hf (fun hf => ?_) (fun hf => ?_)
      · exact zret_v X hP hS hf dX8_makeChern_81
      · refine lv_iload_n hx hb dX8_makeChern_18 rfl (lv_at hl 2 rfl) ?_
        refine lv_aload_n hx hb dX8_makeChern_19 rfl (lv_at hl 1 rfl) ?_
        refine gf_X8_131 X hP (k := k1) gp1 dX8_makeChern_20 rfl ?_
        obtain ⟨g4, hf⟩ := zgd hf
        obtain ⟨n5, on5⟩ := zia_of g4
        refine zalen X hP (k := (zrf Ox k1 3)) (t := 0) on5 (by decide) rfl dX8_makeChern_23 ?_
        refine zicmp_ge (tgt := 81) hx hb dX8_makeChern_24 (by decide) hf (fun hf => ?_) (fun hf => ?_)
        · exact zret_v X hP hS hf dX8_makeChern_81
        · refine lv_aload_n hx hb dX8_makeChern_27 rfl (lv_at hl 0 rfl) ?_
          refine lv_aload_n hx hb dX8_makeChern_28 rfl (lv_at hl 0 rfl) ?_
          refine gf_X8_26 X hP (k := 5) (q := 24) rfl dX8_makeChern_29 rfl ?_
          obtain ⟨r6, s7, h8, hf⟩ := zbd_some hf
          refine zcallV X hP hS hl.1 (k := 5) (As := [.ref (ad 24)]) (rest := []) (cn_X8_makeOne h8) cw_X8_makeOne zp_8 rfl (by decide) rfl ml_X8_101 (by decide) rfl rfl (Nat.le_of_ble_eq_true rfl) dX8_makeChern_32 (fun H locs hP hS => ?_)
          refine lv_aload_n hx hb dX8_makeChern_35 rfl (lv_at hl 0 rfl) ?_
          refine lv_aload_n hx hb dX8_makeChern_36 rfl (lv_at hl 0 rfl) ?_
          refine gf_X8_26 X hP (k := 5) (q := 24) rfl dX8_makeChern_37 rfl ?_
          refine lv_iload_n hx hb dX8_makeChern_40 rfl (lv_at hl 2 rfl) ?_
          refine lv_lconst (v := 1) hx hb dX8_makeChern_41 (by decide) ?_
          obtain ⟨r9, s10, h11, hf⟩ := zbd_some hf
          refine zcallV X hP hS hl.1 (k := 5) (As := [.ref (ad 24), .int x2, .long 1]) (rest := []) (cn_X8_putAtLetter h11) cw_X8_putAtLetter zp_8 rfl (by decide) rfl ml_X8_124 (by decide) rfl rfl (Nat.le_of_ble_eq_true rfl) dX8_makeChern_42 (fun H locs hP hS => ?_)
          refine lv_iconst (v := 0) hx hb dX8_makeChern_45 (by decide) ?_
          refine lv_istore_n (lv' := [(3, .int 0), (0, .ref (ad 5)), (1, .ref (ad k1)), (2, .int x2)]) hx hb dX8_makeChern_46 rfl hl (by decide) rfl (fun ls hl => ?_)
          exact hc_47 ZF k1 x2 0 s10 _ _ _ (lv_sub hl [1, 2, 3, 0] rfl) hP hS hf
  rw [f_X8_makeChern] at hf
  obtain ⟨gp1, hf⟩ := zgd hf
  refine lv_aload_n hx hb dX8_makeChern_0 rfl (lv_at hl 0 rfl) ?_
  refine lv_aload_n hx hb dX8_makeChern_1 rfl (lv_at hl 0 rfl) ?_
  refine gf_X8_23 X hP (k := 5) (q := 23) rfl dX8_makeChern_2 rfl ?_
  obtain ⟨r1, s2, h3, hf⟩ := zbd_some hf
  refine zcallV X hP hS hl.1 (k := 5) (As := [.ref (ad 23)]) (rest := []) (cn_X8_makeOne h3) cw_X8_makeOne zp_8 rfl (by decide) rfl ml_X8_101 (by decide) rfl rfl (Nat.le_of_ble_eq_true rfl) dX8_makeChern_5 (fun H locs hP hS => ?_)
  refine lv_iconst (v := 0) hx hb dX8_makeChern_8 (by decide) ?_
  refine lv_istore_n (lv' := [(2, .int 0), (0, .ref (ad 5)), (1, .ref (ad k1))]) hx hb dX8_makeChern_9 rfl hl (by decide) rfl (fun ls hl => ?_)
  exact hc_10 ZF k1 0 s2 _ _ _ (lv_sub hl [1, 2, 0] rfl) hP hS hf
theorem dX8_divideChern_0 : decode cX8_divideChern 0 = .ok (.aload_n 0, 1) := by decide +kernel
theorem dX8_divideChern_1 : decode cX8_divideChern 1 = .ok (.getfield 23, 3) := by decide +kernel
theorem dX8_divideChern_4 : decode cX8_divideChern 4 = .ok (.iconst 0, 1) := by decide +kernel
theorem dX8_divideChern_5 : decode cX8_divideChern 5 = .ok (.aload_n 0, 1) := by decide +kernel
theorem dX8_divideChern_6 : decode cX8_divideChern 6 = .ok (.getfield 26, 3) := by decide +kernel
theorem dX8_divideChern_9 : decode cX8_divideChern 9 = .ok (.iconst 0, 1) := by decide +kernel
theorem dX8_divideChern_10 : decode cX8_divideChern 10 = .ok (.aload_n 0, 1) := by decide +kernel
theorem dX8_divideChern_11 : decode cX8_divideChern 11 = .ok (.getfield 10, 3) := by decide +kernel
theorem dX8_divideChern_14 : decode cX8_divideChern 14 = .ok (.getfield 42, 3) := by decide +kernel
theorem dX8_divideChern_17 : decode cX8_divideChern 17 = .ok (.invokestatic 78, 3) := by decide +kernel
theorem dX8_divideChern_20 : decode cX8_divideChern 20 = .ok (.ldc2_w 134, 3) := by decide +kernel
theorem dX8_divideChern_23 : decode cX8_divideChern 23 = .ok (.lstore_n 2, 1) := by decide +kernel
theorem dX8_divideChern_24 : decode cX8_divideChern 24 = .ok (.iconst 1, 1) := by decide +kernel
theorem dX8_divideChern_25 : decode cX8_divideChern 25 = .ok (.istore 4, 2) := by decide +kernel
theorem dX8_divideChern_27 : decode cX8_divideChern 27 = .ok (.iload 4, 2) := by decide +kernel
theorem dX8_divideChern_29 : decode cX8_divideChern 29 = .ok (.aload_n 0, 1) := by decide +kernel
theorem dX8_divideChern_30 : decode cX8_divideChern 30 = .ok (.getfield 10, 3) := by decide +kernel
theorem dX8_divideChern_33 : decode cX8_divideChern 33 = .ok (.getfield 87, 3) := by decide +kernel
theorem dX8_divideChern_36 : decode cX8_divideChern 36 = .ok (.if_icmp .gt 34, 3) := by decide +kernel
theorem dX8_divideChern_39 : decode cX8_divideChern 39 = .ok (.aload_n 0, 1) := by decide +kernel
theorem dX8_divideChern_40 : decode cX8_divideChern 40 = .ok (.aload_n 0, 1) := by decide +kernel
theorem dX8_divideChern_41 : decode cX8_divideChern 41 = .ok (.getfield 26, 3) := by decide +kernel
theorem dX8_divideChern_44 : decode cX8_divideChern 44 = .ok (.aload_n 1, 1) := by decide +kernel
theorem dX8_divideChern_45 : decode cX8_divideChern 45 = .ok (.invokevirtual 97, 3) := by decide +kernel
theorem dX8_divideChern_48 : decode cX8_divideChern 48 = .ok (.aload_n 0, 1) := by decide +kernel
theorem dX8_divideChern_49 : decode cX8_divideChern 49 = .ok (.aload_n 0, 1) := by decide +kernel
theorem dX8_divideChern_50 : decode cX8_divideChern 50 = .ok (.getfield 23, 3) := by decide +kernel
theorem dX8_divideChern_53 : decode cX8_divideChern 53 = .ok (.aload_n 0, 1) := by decide +kernel
theorem dX8_divideChern_54 : decode cX8_divideChern 54 = .ok (.getfield 26, 3) := by decide +kernel
theorem dX8_divideChern_57 : decode cX8_divideChern 57 = .ok (.lload_n 2, 1) := by decide +kernel
theorem dX8_divideChern_58 : decode cX8_divideChern 58 = .ok (.invokevirtual 136, 3) := by decide +kernel
theorem dX8_divideChern_61 : decode cX8_divideChern 61 = .ok (.lload_n 2, 1) := by decide +kernel
theorem dX8_divideChern_62 : decode cX8_divideChern 62 = .ok (.lneg, 1) := by decide +kernel
theorem dX8_divideChern_63 : decode cX8_divideChern 63 = .ok (.lstore_n 2, 1) := by decide +kernel
theorem dX8_divideChern_64 : decode cX8_divideChern 64 = .ok (.iinc 4 1, 3) := by decide +kernel
theorem dX8_divideChern_67 : decode cX8_divideChern 67 = .ok (.goto (-40), 3) := by decide +kernel
theorem dX8_divideChern_70 : decode cX8_divideChern 70 = .ok (.return_, 1) := by decide +kernel
set_option maxHeartbeats 4000000 in
set_option maxRecDepth 100000 in
theorem cn_X8_divideChern {l : Launch} {cA : Nat → ClassId} {ad : Nat → Nat} {D : va_G} {E : Nat → Nat} {A : Nat → Prop} {k1 : Nat} {s0 sr : SS} {rr : Unit} (hf : f_X8_divideChern k1 s0 = some (rr, sr)) : zCon Ox Nx cA ad D E l yX8_divideChern cX8_divideChern 5 none 3 A [.ref (ad 5), .ref (ad k1)] s0 none sr := by
  refine zstart (own := RX8) hOx (by decide) rfl (Nat.le_of_ble_eq_true rfl) ?_
  intro p e s m args below meth c X hP ls hl
  have hx := X.1
  have hb := X.2.1
  have hl : lv_has ls 5 [(0, .ref (ad 5)), (1, .ref (ad k1))] := hl
  have hS : va_S A s.heap s.heap [] := va_S.rf
  have hc_27 : ∀ (n27 : Nat) (k1 : Nat) (x2 : Int64) (x4 : Int32) (s1 : SS) (H : Heap) (locs : List Loc) (ls : Array Slot), lv_has ls 5 [(0, .ref (ad 5)), (1, .ref (ad k1)), (2, .long x2), (4, .int x4)] → va_P D ZCL (zw Ox Nx cA ad s1) H → va_S A s.heap H locs → f_X8_divideChern_c27 n27 k1 x2 x4 s1 = some (rr, sr) → W p l e (zrm 3) s m args below meth c H locs 0 0 (MQ below (zQc Ox Nx cA ad D A none sr) args s 0 0 A) (F0 m 27 ls []) := by
    intro n27
    induction n27 with
    | zero =>
      intro k1 x2 x4 s1 H locs ls hl hP hS hf
      rw [f_X8_divideChern_c27] at hf
      cases hf
    | succ n27 ih27 =>
      intro k1 x2 x4 s1 H locs ls hl hP hS hf
      rw [f_X8_divideChern_c27] at hf
      refine lv_iload hx hb dX8_divideChern_27 (lv_at hl 3 rfl) ?_
      refine lv_aload_n hx hb dX8_divideChern_29 rfl (lv_at hl 0 rfl) ?_
      refine gf_X8_10 X hP (k := 5) (q := 6) rfl dX8_divideChern_30 rfl ?_
      refine gf_X8_87 X hP (k := 6) rfl dX8_divideChern_33 ?_
      refine zicmp_gt (tgt := 70) hx hb dX8_divideChern_36 (by decide) hf (fun hf => ?_) (fun hf => ?_)
      · exact zret_v X hP hS hf dX8_divideChern_70
      · refine lv_aload_n hx hb dX8_divideChern_39 rfl (lv_at hl 0 rfl) ?_
        refine lv_aload_n hx hb dX8_divideChern_40 rfl (lv_at hl 0 rfl) ?_
        refine gf_X8_26 X hP (k := 5) (q := 24) rfl dX8_divideChern_41 rfl ?_
        refine lv_aload_n hx hb dX8_divideChern_44 rfl (lv_at hl 1 rfl) ?_
        obtain ⟨r2, s3, h4, hf⟩ := zbd_some hf
        refine zcallV X hP hS hl.1 (k := 5) (As := [.ref (ad 24), .ref (ad k1)]) (rest := []) (cn_X8_multiply h4) cw_X8_multiply zp_8 rfl (by decide) rfl ml_X8_97 (by decide) rfl rfl (Nat.le_of_ble_eq_true rfl) dX8_divideChern_45 (fun H locs hP hS => ?_)
        refine lv_aload_n hx hb dX8_divideChern_48 rfl (lv_at hl 0 rfl) ?_
        refine lv_aload_n hx hb dX8_divideChern_49 rfl (lv_at hl 0 rfl) ?_
        refine gf_X8_23 X hP (k := 5) (q := 23) rfl dX8_divideChern_50 rfl ?_
        refine lv_aload_n hx hb dX8_divideChern_53 rfl (lv_at hl 0 rfl) ?_
        refine gf_X8_26 X hP (k := 5) (q := 24) rfl dX8_divideChern_54 rfl ?_
        refine lv_lload_n hx hb dX8_divideChern_57 rfl (lv_at hl 2 rfl) ?_
        obtain ⟨r5, s6, h7, hf⟩ := zbd_some hf
        refine zcallV X hP hS hl.1 (k := 5) (As := [.ref (ad 23), .ref (ad 24), .long x2]) (rest := []) (cn_X8_addTimes h7) cw_X8_addTimes zp_8 rfl (by decide) rfl ml_X8_136 (by decide) rfl rfl (Nat.le_of_ble_eq_true rfl) dX8_divideChern_58 (fun H locs hP hS => ?_)
        refine lv_lload_n hx hb dX8_divideChern_61 rfl (lv_at hl 2 rfl) ?_
        refine lv_lneg hx hb dX8_divideChern_62 ?_
        refine lv_lstore_n (lv' := [(2, .long (-x2)), (0, .ref (ad 5)), (1, .ref (ad k1)), (4, .int x4)]) hx hb dX8_divideChern_63 rfl hl (by decide) rfl (fun ls hl => ?_)
        refine lv_iinc (v := (x4 + 1)) (lv' := [(4, .int (x4 + 1)), (2, .long (-x2)), (0, .ref (ad 5)), (1, .ref (ad k1))]) hx hb dX8_divideChern_64 hl (k := 3) rfl rfl (by decide) rfl (fun ls hl => ?_)
        refine lv_goto (tgt := 27) hx hb dX8_divideChern_67 (by decide) ?_
        exact ih27 k1 (-x2) (x4 + 1) s6 _ _ _ (lv_sub hl [2, 3, 1, 0] rfl) hP hS hf
  rw [f_X8_divideChern] at hf
  refine lv_aload_n hx hb dX8_divideChern_0 rfl (lv_at hl 0 rfl) ?_
  refine gf_X8_23 X hP (k := 5) (q := 23) rfl dX8_divideChern_1 rfl ?_
  refine lv_iconst (v := 0) hx hb dX8_divideChern_4 (by decide) ?_
  refine lv_aload_n hx hb dX8_divideChern_5 rfl (lv_at hl 0 rfl) ?_
  refine gf_X8_26 X hP (k := 5) (q := 24) rfl dX8_divideChern_6 rfl ?_
  refine lv_iconst (v := 0) hx hb dX8_divideChern_9 (by decide) ?_
  refine lv_aload_n hx hb dX8_divideChern_10 rfl (lv_at hl 0 rfl) ?_
  refine gf_X8_10 X hP (k := 5) (q := 6) rfl dX8_divideChern_11 rfl ?_
  refine gf_X8_42 X hP (k := 6) rfl dX8_divideChern_14 ?_
  obtain ⟨g1, hf⟩ := zgd hf
  refine zcp_l X hP hS hl.1 (k0 := 23) (k1 := 24) ml_X8_78 nt_copy.1 nt_copy.2.1 nt_copy.2.2 g1 ⟨Nat.le_of_ble_eq_true rfl, Nat.le_of_ble_eq_true rfl⟩ dX8_divideChern_17 (fun H locs hP hS => ?_)
  refine zldc2 X co_X8_134 dX8_divideChern_20 ?_
  refine lv_lstore_n (lv' := [(2, .long (-1)), (0, .ref (ad 5)), (1, .ref (ad k1))]) hx hb dX8_divideChern_23 rfl hl (by decide) rfl (fun ls hl => ?_)
  refine lv_iconst (v := 1) hx hb dX8_divideChern_24 (by decide) ?_
  refine lv_istore (lv' := [(4, .int 1), (2, .long (-1)), (0, .ref (ad 5)), (1, .ref (ad k1))]) hx hb dX8_divideChern_25 hl (by decide) rfl (fun ls hl => ?_)
  exact hc_27 ZF k1 (-1) 1 (zL s0 24 (va_cpy (s0.2 23) (s0.2 24) ((0 : Int32)).toNatClampNeg ((0 : Int32)).toNatClampNeg ((s0.1 6 2)).toNatClampNeg)) _ _ _ (lv_sub hl [2, 3, 1, 0] rfl) hP hS hf
theorem dX9_add_0 : decode cX9_add 0 = .ok (.aload_n 0, 1) := by decide +kernel
theorem dX9_add_1 : decode cX9_add 1 = .ok (.getfield 15, 3) := by decide +kernel
theorem dX9_add_4 : decode cX9_add 4 = .ok (.bipush 80, 2) := by decide +kernel
theorem dX9_add_6 : decode cX9_add 6 = .ok (.if_icmp .lt 5, 3) := by decide +kernel
theorem dX9_add_9 : decode cX9_add 9 = .ok (.iconst 0, 1) := by decide +kernel
theorem dX9_add_10 : decode cX9_add 10 = .ok (.ireturn, 1) := by decide +kernel
theorem dX9_add_11 : decode cX9_add 11 = .ok (.aload_n 0, 1) := by decide +kernel
theorem dX9_add_12 : decode cX9_add 12 = .ok (.getfield 11, 3) := by decide +kernel
theorem dX9_add_15 : decode cX9_add 15 = .ok (.aload_n 0, 1) := by decide +kernel
theorem dX9_add_16 : decode cX9_add 16 = .ok (.getfield 15, 3) := by decide +kernel
theorem dX9_add_19 : decode cX9_add 19 = .ok (.iload_n 1, 1) := by decide +kernel
theorem dX9_add_20 : decode cX9_add 20 = .ok (.castore, 1) := by decide +kernel
theorem dX9_add_21 : decode cX9_add 21 = .ok (.aload_n 0, 1) := by decide +kernel
theorem dX9_add_22 : decode cX9_add 22 = .ok (.dup, 1) := by decide +kernel
theorem dX9_add_23 : decode cX9_add 23 = .ok (.getfield 15, 3) := by decide +kernel
theorem dX9_add_26 : decode cX9_add 26 = .ok (.iconst 1, 1) := by decide +kernel
theorem dX9_add_27 : decode cX9_add 27 = .ok (.iadd, 1) := by decide +kernel
theorem dX9_add_28 : decode cX9_add 28 = .ok (.putfield 15, 3) := by decide +kernel
theorem dX9_add_31 : decode cX9_add 31 = .ok (.iconst 1, 1) := by decide +kernel
theorem dX9_add_32 : decode cX9_add 32 = .ok (.ireturn, 1) := by decide +kernel
set_option maxHeartbeats 4000000 in
set_option maxRecDepth 100000 in
theorem cn_X9_add {l : Launch} {cA : Nat → ClassId} {ad : Nat → Nat} {D : va_G} {E : Nat → Nat} {A : Nat → Prop} {x1 : Int32} {s0 sr : SS} {rr : Int32} (hf : f_X9_add x1 s0 = some (rr, sr)) : zCon Ox Nx cA ad D E l yX9_add cX9_add 2 (some .boolean) 0 A [.ref (ad 8), .int x1] s0 (some (.int rr)) sr := by
  refine zstart (own := RX9) hOx (by decide) rfl (Nat.le_of_ble_eq_true rfl) ?_
  intro p e s m args below meth c X hP ls hl
  have hx := X.1
  have hb := X.2.1
  have hl : lv_has ls 2 [(0, .ref (ad 8)), (1, .int x1)] := hl
  have hS : va_S A s.heap s.heap [] := va_S.rf
  rw [f_X9_add] at hf
  refine lv_aload_n hx hb dX9_add_0 rfl (lv_at hl 0 rfl) ?_
  refine gf_X9_15 X hP (k := 8) rfl dX9_add_1 ?_
  refine lv_bipush (v := 80) hx hb dX9_add_4 (by decide) ?_
  refine zicmp_lt (tgt := 11) hx hb dX9_add_6 (by decide) hf (fun hf => ?_) (fun hf => ?_)
  · refine lv_aload_n hx hb dX9_add_11 rfl (lv_at hl 0 rfl) ?_
    refine gf_X9_11 X hP (k := 8) (q := 73) rfl dX9_add_12 rfl ?_
    refine lv_aload_n hx hb dX9_add_15 rfl (lv_at hl 0 rfl) ?_
    refine gf_X9_15 X hP (k := 8) rfl dX9_add_16 ?_
    refine lv_iload_n hx hb dX9_add_19 rfl (lv_at hl 1 rfl) ?_
    obtain ⟨g1, hf⟩ := zgd hf
    refine zast_c X hP hS (k := 73) (n := 80) (rs := []) rfl g1 dX9_add_20 (fun H locs hP hS => ?_)
    refine lv_aload_n hx hb dX9_add_21 rfl (lv_at hl 0 rfl) ?_
    refine lv_dup hx hb dX9_add_22 rfl ?_
    refine gf_X9_15 X hP (k := 8) rfl dX9_add_23 ?_
    refine lv_iconst (v := 1) hx hb dX9_add_26 (by decide) ?_
    refine lv_iadd hx hb dX9_add_27 ?_
    refine pf_X9_15 X hP hS (k := 8) rfl dX9_add_28 (fun H locs hP hS => ?_)
    refine lv_iconst (v := 1) hx hb dX9_add_31 (by decide) ?_
    exact zret_i X hP hS hf rfl dX9_add_32
  · refine lv_iconst (v := 0) hx hb dX9_add_9 (by decide) ?_
    exact zret_i X hP hS hf rfl dX9_add_10
theorem dX9_readPowers_0 : decode cX9_readPowers 0 = .ok (.iconst 0, 1) := by decide +kernel
theorem dX9_readPowers_1 : decode cX9_readPowers 1 = .ok (.istore_n 3, 1) := by decide +kernel
theorem dX9_readPowers_2 : decode cX9_readPowers 2 = .ok (.iconst 0, 1) := by decide +kernel
theorem dX9_readPowers_3 : decode cX9_readPowers 3 = .ok (.istore 4, 2) := by decide +kernel
theorem dX9_readPowers_5 : decode cX9_readPowers 5 = .ok (.iconst 0, 1) := by decide +kernel
theorem dX9_readPowers_6 : decode cX9_readPowers 6 = .ok (.istore 5, 2) := by decide +kernel
theorem dX9_readPowers_8 : decode cX9_readPowers 8 = .ok (.iconst 0, 1) := by decide +kernel
theorem dX9_readPowers_9 : decode cX9_readPowers 9 = .ok (.istore 6, 2) := by decide +kernel
theorem dX9_readPowers_11 : decode cX9_readPowers 11 = .ok (.iload 6, 2) := by decide +kernel
theorem dX9_readPowers_13 : decode cX9_readPowers 13 = .ok (.bipush 6, 2) := by decide +kernel
theorem dX9_readPowers_15 : decode cX9_readPowers 15 = .ok (.if_icmp .ge 154, 3) := by decide +kernel
theorem dX9_readPowers_18 : decode cX9_readPowers 18 = .ok (.aload_n 1, 1) := by decide +kernel
theorem dX9_readPowers_19 : decode cX9_readPowers 19 = .ok (.aload_n 0, 1) := by decide +kernel
theorem dX9_readPowers_20 : decode cX9_readPowers 20 = .ok (.aload_n 0, 1) := by decide +kernel
theorem dX9_readPowers_21 : decode cX9_readPowers 21 = .ok (.getfield 38, 3) := by decide +kernel
theorem dX9_readPowers_24 : decode cX9_readPowers 24 = .ok (.invokevirtual 19, 3) := by decide +kernel
theorem dX9_readPowers_27 : decode cX9_readPowers 27 = .ok (.invokevirtual 65, 3) := by decide +kernel
theorem dX9_readPowers_30 : decode cX9_readPowers 30 = .ok (.istore 7, 2) := by decide +kernel
theorem dX9_readPowers_32 : decode cX9_readPowers 32 = .ok (.iload 7, 2) := by decide +kernel
theorem dX9_readPowers_34 : decode cX9_readPowers 34 = .ok (.iload 5, 2) := by decide +kernel
theorem dX9_readPowers_36 : decode cX9_readPowers 36 = .ok (.if_icmp .lt 18, 3) := by decide +kernel
theorem dX9_readPowers_39 : decode cX9_readPowers 39 = .ok (.iload 7, 2) := by decide +kernel
theorem dX9_readPowers_41 : decode cX9_readPowers 41 = .ok (.getstatic 70, 3) := by decide +kernel
theorem dX9_readPowers_44 : decode cX9_readPowers 44 = .ok (.arraylength, 1) := by decide +kernel
theorem dX9_readPowers_45 : decode cX9_readPowers 45 = .ok (.if_icmp .ge 9, 3) := by decide +kernel
theorem dX9_readPowers_48 : decode cX9_readPowers 48 = .ok (.iload 4, 2) := by decide +kernel
theorem dX9_readPowers_50 : decode cX9_readPowers 50 = .ok (.iload_n 2, 1) := by decide +kernel
theorem dX9_readPowers_51 : decode cX9_readPowers 51 = .ok (.if_icmp .lt 5, 3) := by decide +kernel
theorem dX9_readPowers_54 : decode cX9_readPowers 54 = .ok (.iload_n 3, 1) := by decide +kernel
theorem dX9_readPowers_55 : decode cX9_readPowers 55 = .ok (.ireturn, 1) := by decide +kernel
theorem dX9_readPowers_56 : decode cX9_readPowers 56 = .ok (.aload_n 0, 1) := by decide +kernel
theorem dX9_readPowers_57 : decode cX9_readPowers 57 = .ok (.dup, 1) := by decide +kernel
theorem dX9_readPowers_58 : decode cX9_readPowers 58 = .ok (.getfield 38, 3) := by decide +kernel
theorem dX9_readPowers_61 : decode cX9_readPowers 61 = .ok (.iconst 1, 1) := by decide +kernel
theorem dX9_readPowers_62 : decode cX9_readPowers 62 = .ok (.iadd, 1) := by decide +kernel
theorem dX9_readPowers_63 : decode cX9_readPowers 63 = .ok (.putfield 38, 3) := by decide +kernel
theorem dX9_readPowers_66 : decode cX9_readPowers 66 = .ok (.iconst 1, 1) := by decide +kernel
theorem dX9_readPowers_67 : decode cX9_readPowers 67 = .ok (.istore 8, 2) := by decide +kernel
theorem dX9_readPowers_69 : decode cX9_readPowers 69 = .ok (.aload_n 0, 1) := by decide +kernel
theorem dX9_readPowers_70 : decode cX9_readPowers 70 = .ok (.aload_n 0, 1) := by decide +kernel
theorem dX9_readPowers_71 : decode cX9_readPowers 71 = .ok (.getfield 38, 3) := by decide +kernel
theorem dX9_readPowers_74 : decode cX9_readPowers 74 = .ok (.invokevirtual 19, 3) := by decide +kernel
theorem dX9_readPowers_77 : decode cX9_readPowers 77 = .ok (.bipush 94, 2) := by decide +kernel
theorem dX9_readPowers_79 : decode cX9_readPowers 79 = .ok (.if_icmp .ne 59, 3) := by decide +kernel
theorem dX9_readPowers_82 : decode cX9_readPowers 82 = .ok (.aload_n 0, 1) := by decide +kernel
theorem dX9_readPowers_83 : decode cX9_readPowers 83 = .ok (.dup, 1) := by decide +kernel
theorem dX9_readPowers_84 : decode cX9_readPowers 84 = .ok (.getfield 38, 3) := by decide +kernel
theorem dX9_readPowers_87 : decode cX9_readPowers 87 = .ok (.iconst 1, 1) := by decide +kernel
theorem dX9_readPowers_88 : decode cX9_readPowers 88 = .ok (.iadd, 1) := by decide +kernel
theorem dX9_readPowers_89 : decode cX9_readPowers 89 = .ok (.putfield 38, 3) := by decide +kernel
theorem dX9_readPowers_92 : decode cX9_readPowers 92 = .ok (.aload_n 0, 1) := by decide +kernel
theorem dX9_readPowers_93 : decode cX9_readPowers 93 = .ok (.aload_n 0, 1) := by decide +kernel
theorem dX9_readPowers_94 : decode cX9_readPowers 94 = .ok (.getfield 38, 3) := by decide +kernel
theorem dX9_readPowers_97 : decode cX9_readPowers 97 = .ok (.invokevirtual 19, 3) := by decide +kernel
theorem dX9_readPowers_100 : decode cX9_readPowers 100 = .ok (.bipush 48, 2) := by decide +kernel
theorem dX9_readPowers_102 : decode cX9_readPowers 102 = .ok (.isub, 1) := by decide +kernel
theorem dX9_readPowers_103 : decode cX9_readPowers 103 = .ok (.istore 8, 2) := by decide +kernel
theorem dX9_readPowers_105 : decode cX9_readPowers 105 = .ok (.iload 8, 2) := by decide +kernel
theorem dX9_readPowers_107 : decode cX9_readPowers 107 = .ok (.iconst 1, 1) := by decide +kernel
theorem dX9_readPowers_108 : decode cX9_readPowers 108 = .ok (.if_icmp .lt 18, 3) := by decide +kernel
theorem dX9_readPowers_111 : decode cX9_readPowers 111 = .ok (.iload 8, 2) := by decide +kernel
theorem dX9_readPowers_113 : decode cX9_readPowers 113 = .ok (.iconst 5, 1) := by decide +kernel
theorem dX9_readPowers_114 : decode cX9_readPowers 114 = .ok (.if_icmp .gt 12, 3) := by decide +kernel
theorem dX9_readPowers_117 : decode cX9_readPowers 117 = .ok (.iload 4, 2) := by decide +kernel
theorem dX9_readPowers_119 : decode cX9_readPowers 119 = .ok (.iload 8, 2) := by decide +kernel
theorem dX9_readPowers_121 : decode cX9_readPowers 121 = .ok (.iadd, 1) := by decide +kernel
theorem dX9_readPowers_122 : decode cX9_readPowers 122 = .ok (.iload_n 2, 1) := by decide +kernel
theorem dX9_readPowers_123 : decode cX9_readPowers 123 = .ok (.if_icmp .le 5, 3) := by decide +kernel
theorem dX9_readPowers_126 : decode cX9_readPowers 126 = .ok (.iconst (-1), 1) := by decide +kernel
theorem dX9_readPowers_127 : decode cX9_readPowers 127 = .ok (.ireturn, 1) := by decide +kernel
theorem dX9_readPowers_128 : decode cX9_readPowers 128 = .ok (.aload_n 0, 1) := by decide +kernel
theorem dX9_readPowers_129 : decode cX9_readPowers 129 = .ok (.dup, 1) := by decide +kernel
theorem dX9_readPowers_130 : decode cX9_readPowers 130 = .ok (.getfield 38, 3) := by decide +kernel
theorem dX9_readPowers_133 : decode cX9_readPowers 133 = .ok (.iconst 1, 1) := by decide +kernel
theorem dX9_readPowers_134 : decode cX9_readPowers 134 = .ok (.iadd, 1) := by decide +kernel
theorem dX9_readPowers_135 : decode cX9_readPowers 135 = .ok (.putfield 38, 3) := by decide +kernel
theorem dX9_readPowers_138 : decode cX9_readPowers 138 = .ok (.iload 4, 2) := by decide +kernel
theorem dX9_readPowers_140 : decode cX9_readPowers 140 = .ok (.iload 8, 2) := by decide +kernel
theorem dX9_readPowers_142 : decode cX9_readPowers 142 = .ok (.iadd, 1) := by decide +kernel
theorem dX9_readPowers_143 : decode cX9_readPowers 143 = .ok (.istore 4, 2) := by decide +kernel
theorem dX9_readPowers_145 : decode cX9_readPowers 145 = .ok (.iload_n 3, 1) := by decide +kernel
theorem dX9_readPowers_146 : decode cX9_readPowers 146 = .ok (.iload 8, 2) := by decide +kernel
theorem dX9_readPowers_148 : decode cX9_readPowers 148 = .ok (.getstatic 70, 3) := by decide +kernel
theorem dX9_readPowers_151 : decode cX9_readPowers 151 = .ok (.iload 7, 2) := by decide +kernel
theorem dX9_readPowers_153 : decode cX9_readPowers 153 = .ok (.iaload, 1) := by decide +kernel
theorem dX9_readPowers_154 : decode cX9_readPowers 154 = .ok (.imul, 1) := by decide +kernel
theorem dX9_readPowers_155 : decode cX9_readPowers 155 = .ok (.iadd, 1) := by decide +kernel
theorem dX9_readPowers_156 : decode cX9_readPowers 156 = .ok (.istore_n 3, 1) := by decide +kernel
theorem dX9_readPowers_157 : decode cX9_readPowers 157 = .ok (.iload 7, 2) := by decide +kernel
theorem dX9_readPowers_159 : decode cX9_readPowers 159 = .ok (.iconst 1, 1) := by decide +kernel
theorem dX9_readPowers_160 : decode cX9_readPowers 160 = .ok (.iadd, 1) := by decide +kernel
theorem dX9_readPowers_161 : decode cX9_readPowers 161 = .ok (.istore 5, 2) := by decide +kernel
theorem dX9_readPowers_163 : decode cX9_readPowers 163 = .ok (.iinc 6 1, 3) := by decide +kernel
theorem dX9_readPowers_166 : decode cX9_readPowers 166 = .ok (.goto (-155), 3) := by decide +kernel
theorem dX9_readPowers_169 : decode cX9_readPowers 169 = .ok (.iload_n 3, 1) := by decide +kernel
theorem dX9_readPowers_170 : decode cX9_readPowers 170 = .ok (.ireturn, 1) := by decide +kernel
set_option maxHeartbeats 4000000 in
set_option maxRecDepth 100000 in
theorem cn_X9_readPowers {l : Launch} {cA : Nat → ClassId} {ad : Nat → Nat} {D : va_G} {E : Nat → Nat} {A : Nat → Prop} {k1 : Nat} {x2 : Int32} {s0 sr : SS} {rr : Int32} (hf : f_X9_readPowers k1 x2 s0 = some (rr, sr)) : zCon Ox Nx cA ad D E l yX9_readPowers cX9_readPowers 9 (some .int) 2 A [.ref (ad 8), .ref (ad k1), .int x2] s0 (some (.int rr)) sr := by
  refine zstart (own := RX9) hOx (by decide) rfl (Nat.le_of_ble_eq_true rfl) ?_
  intro p e s m args below meth c X hP ls hl
  have hx := X.1
  have hb := X.2.1
  have hl : lv_has ls 9 [(0, .ref (ad 8)), (1, .ref (ad k1)), (2, .int x2)] := hl
  have hS : va_S A s.heap s.heap [] := va_S.rf
  have hc_11 : ∀ (n11 : Nat) (k1 : Nat) (x2 : Int32) (x3 : Int32) (x4 : Int32) (x5 : Int32) (x6 : Int32) (s1 : SS) (H : Heap) (locs : List Loc) (ls : Array Slot), lv_has ls 9 [(0, .ref (ad 8)), (1, .ref (ad k1)), (2, .int x2), (3, .int x3), (4, .int x4), (5, .int x5), (6, .int x6)] → va_P D ZCL (zw Ox Nx cA ad s1) H → va_S A s.heap H locs → f_X9_readPowers_c11 n11 k1 x2 x3 x4 x5 x6 s1 = some (rr, sr) → W p l e (zrm 2) s m args below meth c H locs 0 0 (MQ below (zQc Ox Nx cA ad D A (some (.int rr)) sr) args s 0 0 A) (F0 m 11 ls []) := by
    intro n11
    induction n11 with
    | zero =>
      intro k1 x2 x3 x4 x5 x6 s1 H locs ls hl hP hS hf
      rw [f_X9_readPowers_c11] at hf
      cases hf
    | succ n11 ih11 =>
      have hc_138 : ∀ (k1 : Nat) (x2 : Int32) (x3 : Int32) (x4 : Int32) (x6 : Int32) (x7 : Int32) (x8 : Int32) (s1 : SS) (H : Heap) (locs : List Loc) (ls : Array Slot), lv_has ls 9 [(0, .ref (ad 8)), (1, .ref (ad k1)), (2, .int x2), (3, .int x3), (4, .int x4), (6, .int x6), (7, .int x7), (8, .int x8)] → va_P D ZCL (zw Ox Nx cA ad s1) H → va_S A s.heap H locs → f_X9_readPowers_c138 (f_X9_readPowers_c11 n11) k1 x2 x3 x4 x6 x7 x8 s1 = some (rr, sr) → W p l e (zrm 2) s m args below meth c H locs 0 0 (MQ below (zQc Ox Nx cA ad D A (some (.int rr)) sr) args s 0 0 A) (F0 m 138 ls []) := by
        intro k1 x2 x3 x4 x6 x7 x8 s1 H locs ls hl hP hS hf
        rw [f_X9_readPowers_c138] at hf
        obtain ⟨gp1, hf⟩ := zgd hf
        refine lv_iload hx hb dX9_readPowers_138 (lv_at hl 4 rfl) ?_
        refine lv_iload hx hb dX9_readPowers_140 (lv_at hl 7 rfl) ?_
        refine lv_iadd hx hb dX9_readPowers_142 ?_
        refine lv_istore (lv' := [(4, .int (x4 + x8)), (0, .ref (ad 8)), (1, .ref (ad k1)), (2, .int x2), (3, .int x3), (6, .int x6), (7, .int x7), (8, .int x8)]) hx hb dX9_readPowers_143 hl (by decide) rfl (fun ls hl => ?_)
        refine lv_iload_n hx hb dX9_readPowers_145 rfl (lv_at hl 4 rfl) ?_
        refine lv_iload hx hb dX9_readPowers_146 (lv_at hl 7 rfl) ?_
        refine zgsN X hS (i := 0) rfl nf_X9_70 dX9_readPowers_148 ?_
        refine lv_iload hx hb dX9_readPowers_151 (lv_at hl 6 rfl) ?_
        obtain ⟨g10, hf⟩ := zgd hf
        refine zst X hS (k := 0) (n := 6) rfl rfl g10 dX9_readPowers_153 ?_
        refine lv_imul hx hb dX9_readPowers_154 ?_
        refine lv_iadd hx hb dX9_readPowers_155 ?_
        refine lv_istore_n (lv' := [(3, .int (x3 + (x8 * (ztab 0 x7)))), (4, .int (x4 + x8)), (0, .ref (ad 8)), (1, .ref (ad k1)), (2, .int x2), (6, .int x6), (7, .int x7), (8, .int x8)]) hx hb dX9_readPowers_156 rfl hl (by decide) rfl (fun ls hl => ?_)
        refine lv_iload hx hb dX9_readPowers_157 (lv_at hl 6 rfl) ?_
        refine lv_iconst (v := 1) hx hb dX9_readPowers_159 (by decide) ?_
        refine lv_iadd hx hb dX9_readPowers_160 ?_
        refine lv_istore (lv' := [(5, .int (x7 + (1 : Int32))), (3, .int (x3 + (x8 * (ztab 0 x7)))), (4, .int (x4 + x8)), (0, .ref (ad 8)), (1, .ref (ad k1)), (2, .int x2), (6, .int x6), (7, .int x7), (8, .int x8)]) hx hb dX9_readPowers_161 hl (by decide) rfl (fun ls hl => ?_)
        refine lv_iinc (v := (x6 + 1)) (lv' := [(6, .int (x6 + 1)), (5, .int (x7 + (1 : Int32))), (3, .int (x3 + (x8 * (ztab 0 x7)))), (4, .int (x4 + x8)), (0, .ref (ad 8)), (1, .ref (ad k1)), (2, .int x2), (7, .int x7), (8, .int x8)]) hx hb dX9_readPowers_163 hl (k := 6) rfl rfl (by decide) rfl (fun ls hl => ?_)
        refine lv_goto (tgt := 11) hx hb dX9_readPowers_166 (by decide) ?_
        exact ih11 k1 x2 (x3 + (x8 * (ztab 0 x7))) (x4 + x8) (x7 + (1 : Int32)) (x6 + 1) s1 _ _ _ (lv_sub hl [4, 5, 6, 2, 3, 1, 0] rfl) hP hS hf
      intro k1 x2 x3 x4 x5 x6 s1 H locs ls hl hP hS hf
      rw [f_X9_readPowers_c11] at hf
      obtain ⟨gp1, hf⟩ := zgd hf
      refine lv_iload hx hb dX9_readPowers_11 (lv_at hl 6 rfl) ?_
      refine lv_bipush (v := 6) hx hb dX9_readPowers_13 (by decide) ?_
      refine zicmp_ge (tgt := 169) hx hb dX9_readPowers_15 (by decide) hf (fun hf => ?_) (fun hf => ?_)
      · refine lv_iload_n hx hb dX9_readPowers_169 rfl (lv_at hl 3 rfl) ?_
        exact zret_i X hP hS hf rfl dX9_readPowers_170
      · refine lv_aload_n hx hb dX9_readPowers_18 rfl (lv_at hl 1 rfl) ?_
        refine lv_aload_n hx hb dX9_readPowers_19 rfl (lv_at hl 0 rfl) ?_
        refine lv_aload_n hx hb dX9_readPowers_20 rfl (lv_at hl 0 rfl) ?_
        refine gf_X9_38 X hP (k := 8) rfl dX9_readPowers_21 ?_
        obtain ⟨r1, s2, h3, hf⟩ := zbd_some hf
        refine zcallV X hP hS hl.1 (k := 8) (As := [.int (s1.1 8 2)]) (rest := [.ref (ad k1)]) (cn_X9_signAt h3) cw_X9_signAt zp_9 rfl (by decide) rfl ml_X9_19 (by decide) rfl rfl (Nat.le_of_ble_eq_true rfl) dX9_readPowers_24 (fun H locs hP hS => ?_)
        obtain ⟨r4, s5, h6, hf⟩ := zbd_some hf
        refine zcallV X hP hS hl.1 (k := k1) (As := [.int r1]) (rest := []) (cn_X7_letterOf h6) cw_X7_letterOf zp_7 gp1 (by decide) rfl ml_X9_65 (by decide) rfl rfl (Nat.le_of_ble_eq_true rfl) dX9_readPowers_27 (fun H locs hP hS => ?_)
        refine lv_istore (lv' := [(7, .int r4), (0, .ref (ad 8)), (1, .ref (ad k1)), (2, .int x2), (3, .int x3), (4, .int x4), (5, .int x5), (6, .int x6)]) hx hb dX9_readPowers_30 hl (by decide) rfl (fun ls hl => ?_)
        refine lv_iload hx hb dX9_readPowers_32 (lv_at hl 0 rfl) ?_
        refine lv_iload hx hb dX9_readPowers_34 (lv_at hl 6 rfl) ?_
        refine zicmp_lt (tgt := 54) hx hb dX9_readPowers_36 (by decide) hf (fun hf => ?_) (fun hf => ?_)
        · refine lv_iload_n hx hb dX9_readPowers_54 rfl (lv_at hl 4 rfl) ?_
          exact zret_i X hP hS hf rfl dX9_readPowers_55
        · refine lv_iload hx hb dX9_readPowers_39 (lv_at hl 0 rfl) ?_
          refine zgsN X hS (i := 0) rfl nf_X9_70 dX9_readPowers_41 ?_
          refine zstl X hS (k := 0) (v := 6) rfl (by decide) dX9_readPowers_44 ?_
          refine zicmp_ge (tgt := 54) hx hb dX9_readPowers_45 (by decide) hf (fun hf => ?_) (fun hf => ?_)
          · refine lv_iload_n hx hb dX9_readPowers_54 rfl (lv_at hl 4 rfl) ?_
            exact zret_i X hP hS hf rfl dX9_readPowers_55
          · refine lv_iload hx hb dX9_readPowers_48 (lv_at hl 5 rfl) ?_
            refine lv_iload_n hx hb dX9_readPowers_50 rfl (lv_at hl 3 rfl) ?_
            refine zicmp_lt (tgt := 56) hx hb dX9_readPowers_51 (by decide) hf (fun hf => ?_) (fun hf => ?_)
            · refine lv_aload_n hx hb dX9_readPowers_56 rfl (lv_at hl 1 rfl) ?_
              refine lv_dup hx hb dX9_readPowers_57 rfl ?_
              refine gf_X9_38 X hP (k := 8) rfl dX9_readPowers_58 ?_
              refine lv_iconst (v := 1) hx hb dX9_readPowers_61 (by decide) ?_
              refine lv_iadd hx hb dX9_readPowers_62 ?_
              refine pf_X9_38 X hP hS (k := 8) rfl dX9_readPowers_63 (fun H locs hP hS => ?_)
              refine lv_iconst (v := 1) hx hb dX9_readPowers_66 (by decide) ?_
              refine lv_istore (lv' := [(8, .int 1), (7, .int r4), (0, .ref (ad 8)), (1, .ref (ad k1)), (2, .int x2), (3, .int x3), (4, .int x4), (5, .int x5), (6, .int x6)]) hx hb dX9_readPowers_67 hl (by decide) rfl (fun ls hl => ?_)
              refine lv_aload_n hx hb dX9_readPowers_69 rfl (lv_at hl 2 rfl) ?_
              refine lv_aload_n hx hb dX9_readPowers_70 rfl (lv_at hl 2 rfl) ?_
              refine gf_X9_38 X hP (k := 8) rfl dX9_readPowers_71 ?_
              obtain ⟨r7, s8, h9, hf⟩ := zbd_some hf
              refine zcallV X hP hS hl.1 (k := 8) (As := [.int ((zS s5 8 2 ((s5.1 8 2) + (1 : Int32))).1 8 2)]) (rest := []) (cn_X9_signAt h9) cw_X9_signAt zp_9 rfl (by decide) rfl ml_X9_19 (by decide) rfl rfl (Nat.le_of_ble_eq_true rfl) dX9_readPowers_74 (fun H locs hP hS => ?_)
              refine lv_bipush (v := 94) hx hb dX9_readPowers_77 (by decide) ?_
              refine zicmp_ne (tgt := 138) hx hb dX9_readPowers_79 (by decide) hf (fun hf => ?_) (fun hf => ?_)
              · exact hc_138 k1 x2 x3 x4 x6 r4 1 s8 _ _ _ (lv_sub hl [2, 3, 4, 5, 6, 8, 1, 0] rfl) hP hS hf
              · refine lv_aload_n hx hb dX9_readPowers_82 rfl (lv_at hl 2 rfl) ?_
                refine lv_dup hx hb dX9_readPowers_83 rfl ?_
                refine gf_X9_38 X hP (k := 8) rfl dX9_readPowers_84 ?_
                refine lv_iconst (v := 1) hx hb dX9_readPowers_87 (by decide) ?_
                refine lv_iadd hx hb dX9_readPowers_88 ?_
                refine pf_X9_38 X hP hS (k := 8) rfl dX9_readPowers_89 (fun H locs hP hS => ?_)
                refine lv_aload_n hx hb dX9_readPowers_92 rfl (lv_at hl 2 rfl) ?_
                refine lv_aload_n hx hb dX9_readPowers_93 rfl (lv_at hl 2 rfl) ?_
                refine gf_X9_38 X hP (k := 8) rfl dX9_readPowers_94 ?_
                obtain ⟨r11, s12, h13, hf⟩ := zbd_some hf
                refine zcallV X hP hS hl.1 (k := 8) (As := [.int ((zS s8 8 2 ((s8.1 8 2) + (1 : Int32))).1 8 2)]) (rest := []) (cn_X9_signAt h13) cw_X9_signAt zp_9 rfl (by decide) rfl ml_X9_19 (by decide) rfl rfl (Nat.le_of_ble_eq_true rfl) dX9_readPowers_97 (fun H locs hP hS => ?_)
                refine lv_bipush (v := 48) hx hb dX9_readPowers_100 (by decide) ?_
                refine lv_isub hx hb dX9_readPowers_102 ?_
                refine lv_istore (lv' := [(8, .int (r11 - (48 : Int32))), (7, .int r4), (0, .ref (ad 8)), (1, .ref (ad k1)), (2, .int x2), (3, .int x3), (4, .int x4), (5, .int x5), (6, .int x6)]) hx hb dX9_readPowers_103 hl (by decide) rfl (fun ls hl => ?_)
                refine lv_iload hx hb dX9_readPowers_105 (lv_at hl 0 rfl) ?_
                refine lv_iconst (v := 1) hx hb dX9_readPowers_107 (by decide) ?_
                refine zicmp_lt (tgt := 126) hx hb dX9_readPowers_108 (by decide) hf (fun hf => ?_) (fun hf => ?_)
                · refine lv_iconst (v := (-1)) hx hb dX9_readPowers_126 (by decide) ?_
                  exact zret_i X hP hS hf rfl dX9_readPowers_127
                · refine lv_iload hx hb dX9_readPowers_111 (lv_at hl 0 rfl) ?_
                  refine lv_iconst (v := 5) hx hb dX9_readPowers_113 (by decide) ?_
                  refine zicmp_gt (tgt := 126) hx hb dX9_readPowers_114 (by decide) hf (fun hf => ?_) (fun hf => ?_)
                  · refine lv_iconst (v := (-1)) hx hb dX9_readPowers_126 (by decide) ?_
                    exact zret_i X hP hS hf rfl dX9_readPowers_127
                  · refine lv_iload hx hb dX9_readPowers_117 (lv_at hl 6 rfl) ?_
                    refine lv_iload hx hb dX9_readPowers_119 (lv_at hl 0 rfl) ?_
                    refine lv_iadd hx hb dX9_readPowers_121 ?_
                    refine lv_iload_n hx hb dX9_readPowers_122 rfl (lv_at hl 4 rfl) ?_
                    refine zicmp_le (tgt := 128) hx hb dX9_readPowers_123 (by decide) hf (fun hf => ?_) (fun hf => ?_)
                    · refine lv_aload_n hx hb dX9_readPowers_128 rfl (lv_at hl 2 rfl) ?_
                      refine lv_dup hx hb dX9_readPowers_129 rfl ?_
                      refine gf_X9_38 X hP (k := 8) rfl dX9_readPowers_130 ?_
                      refine lv_iconst (v := 1) hx hb dX9_readPowers_133 (by decide) ?_
                      refine lv_iadd hx hb dX9_readPowers_134 ?_
                      refine pf_X9_38 X hP hS (k := 8) rfl dX9_readPowers_135 (fun H locs hP hS => ?_)
                      exact hc_138 k1 x2 x3 x4 x6 r4 (r11 - (48 : Int32)) (zS s12 8 2 ((s12.1 8 2) + (1 : Int32))) _ _ _ (lv_sub hl [2, 3, 4, 5, 6, 8, 1, 0] rfl) hP hS hf
                    · refine lv_iconst (v := (-1)) hx hb dX9_readPowers_126 (by decide) ?_
                      exact zret_i X hP hS hf rfl dX9_readPowers_127
            · refine lv_iload_n hx hb dX9_readPowers_54 rfl (lv_at hl 4 rfl) ?_
              exact zret_i X hP hS hf rfl dX9_readPowers_55
  rw [f_X9_readPowers] at hf
  obtain ⟨gp1, hf⟩ := zgd hf
  refine lv_iconst (v := 0) hx hb dX9_readPowers_0 (by decide) ?_
  refine lv_istore_n (lv' := [(3, .int 0), (0, .ref (ad 8)), (1, .ref (ad k1)), (2, .int x2)]) hx hb dX9_readPowers_1 rfl hl (by decide) rfl (fun ls hl => ?_)
  refine lv_iconst (v := 0) hx hb dX9_readPowers_2 (by decide) ?_
  refine lv_istore (lv' := [(4, .int 0), (3, .int 0), (0, .ref (ad 8)), (1, .ref (ad k1)), (2, .int x2)]) hx hb dX9_readPowers_3 hl (by decide) rfl (fun ls hl => ?_)
  refine lv_iconst (v := 0) hx hb dX9_readPowers_5 (by decide) ?_
  refine lv_istore (lv' := [(5, .int 0), (4, .int 0), (3, .int 0), (0, .ref (ad 8)), (1, .ref (ad k1)), (2, .int x2)]) hx hb dX9_readPowers_6 hl (by decide) rfl (fun ls hl => ?_)
  refine lv_iconst (v := 0) hx hb dX9_readPowers_8 (by decide) ?_
  refine lv_istore (lv' := [(6, .int 0), (5, .int 0), (4, .int 0), (3, .int 0), (0, .ref (ad 8)), (1, .ref (ad k1)), (2, .int x2)]) hx hb dX9_readPowers_9 hl (by decide) rfl (fun ls hl => ?_)
  exact hc_11 ZF k1 x2 0 0 0 0 s0 _ _ _ (lv_sub hl [4, 5, 6, 3, 2, 1, 0] rfl) hP hS hf
theorem dX9_readMember_0 : decode cX9_readMember 0 = .ok (.aload_n 0, 1) := by decide +kernel
theorem dX9_readMember_1 : decode cX9_readMember 1 = .ok (.getfield 38, 3) := by decide +kernel
theorem dX9_readMember_4 : decode cX9_readMember 4 = .ok (.istore 5, 2) := by decide +kernel
theorem dX9_readMember_6 : decode cX9_readMember 6 = .ok (.lconst 0, 1) := by decide +kernel
theorem dX9_readMember_7 : decode cX9_readMember 7 = .ok (.lstore 6, 2) := by decide +kernel
theorem dX9_readMember_9 : decode cX9_readMember 9 = .ok (.iconst 0, 1) := by decide +kernel
theorem dX9_readMember_10 : decode cX9_readMember 10 = .ok (.istore 8, 2) := by decide +kernel
theorem dX9_readMember_12 : decode cX9_readMember 12 = .ok (.iload 8, 2) := by decide +kernel
theorem dX9_readMember_14 : decode cX9_readMember 14 = .ok (.iconst 4, 1) := by decide +kernel
theorem dX9_readMember_15 : decode cX9_readMember 15 = .ok (.if_icmp .ge 55, 3) := by decide +kernel
theorem dX9_readMember_18 : decode cX9_readMember 18 = .ok (.aload_n 0, 1) := by decide +kernel
theorem dX9_readMember_19 : decode cX9_readMember 19 = .ok (.aload_n 0, 1) := by decide +kernel
theorem dX9_readMember_20 : decode cX9_readMember 20 = .ok (.getfield 38, 3) := by decide +kernel
theorem dX9_readMember_23 : decode cX9_readMember 23 = .ok (.invokevirtual 19, 3) := by decide +kernel
theorem dX9_readMember_26 : decode cX9_readMember 26 = .ok (.invokestatic 45, 3) := by decide +kernel
theorem dX9_readMember_29 : decode cX9_readMember 29 = .ok (.ifCond .eq 41, 3) := by decide +kernel
theorem dX9_readMember_32 : decode cX9_readMember 32 = .ok (.lload 6, 2) := by decide +kernel
theorem dX9_readMember_34 : decode cX9_readMember 34 = .ok (.ldc2_w 49, 3) := by decide +kernel
theorem dX9_readMember_37 : decode cX9_readMember 37 = .ok (.lmul, 1) := by decide +kernel
theorem dX9_readMember_38 : decode cX9_readMember 38 = .ok (.aload_n 0, 1) := by decide +kernel
theorem dX9_readMember_39 : decode cX9_readMember 39 = .ok (.aload_n 0, 1) := by decide +kernel
theorem dX9_readMember_40 : decode cX9_readMember 40 = .ok (.getfield 38, 3) := by decide +kernel
theorem dX9_readMember_43 : decode cX9_readMember 43 = .ok (.invokevirtual 19, 3) := by decide +kernel
theorem dX9_readMember_46 : decode cX9_readMember 46 = .ok (.i2l, 1) := by decide +kernel
theorem dX9_readMember_47 : decode cX9_readMember 47 = .ok (.ladd, 1) := by decide +kernel
theorem dX9_readMember_48 : decode cX9_readMember 48 = .ok (.ldc2_w 51, 3) := by decide +kernel
theorem dX9_readMember_51 : decode cX9_readMember 51 = .ok (.lsub, 1) := by decide +kernel
theorem dX9_readMember_52 : decode cX9_readMember 52 = .ok (.lstore 6, 2) := by decide +kernel
theorem dX9_readMember_54 : decode cX9_readMember 54 = .ok (.aload_n 0, 1) := by decide +kernel
theorem dX9_readMember_55 : decode cX9_readMember 55 = .ok (.dup, 1) := by decide +kernel
theorem dX9_readMember_56 : decode cX9_readMember 56 = .ok (.getfield 38, 3) := by decide +kernel
theorem dX9_readMember_59 : decode cX9_readMember 59 = .ok (.iconst 1, 1) := by decide +kernel
theorem dX9_readMember_60 : decode cX9_readMember 60 = .ok (.iadd, 1) := by decide +kernel
theorem dX9_readMember_61 : decode cX9_readMember 61 = .ok (.putfield 38, 3) := by decide +kernel
theorem dX9_readMember_64 : decode cX9_readMember 64 = .ok (.iinc 8 1, 3) := by decide +kernel
theorem dX9_readMember_67 : decode cX9_readMember 67 = .ok (.goto (-55), 3) := by decide +kernel
theorem dX9_readMember_70 : decode cX9_readMember 70 = .ok (.aload_n 0, 1) := by decide +kernel
theorem dX9_readMember_71 : decode cX9_readMember 71 = .ok (.getfield 38, 3) := by decide +kernel
theorem dX9_readMember_74 : decode cX9_readMember 74 = .ok (.iload 5, 2) := by decide +kernel
theorem dX9_readMember_76 : decode cX9_readMember 76 = .ok (.if_icmp .ne 6, 3) := by decide +kernel
theorem dX9_readMember_79 : decode cX9_readMember 79 = .ok (.lconst 1, 1) := by decide +kernel
theorem dX9_readMember_80 : decode cX9_readMember 80 = .ok (.lstore 6, 2) := by decide +kernel
theorem dX9_readMember_82 : decode cX9_readMember 82 = .ok (.aload_n 0, 1) := by decide +kernel
theorem dX9_readMember_83 : decode cX9_readMember 83 = .ok (.aload_n 1, 1) := by decide +kernel
theorem dX9_readMember_84 : decode cX9_readMember 84 = .ok (.aload_n 2, 1) := by decide +kernel
theorem dX9_readMember_85 : decode cX9_readMember 85 = .ok (.getfield 53, 3) := by decide +kernel
theorem dX9_readMember_88 : decode cX9_readMember 88 = .ok (.invokevirtual 58, 3) := by decide +kernel
theorem dX9_readMember_91 : decode cX9_readMember 91 = .ok (.istore 8, 2) := by decide +kernel
theorem dX9_readMember_93 : decode cX9_readMember 93 = .ok (.iload 8, 2) := by decide +kernel
theorem dX9_readMember_95 : decode cX9_readMember 95 = .ok (.ifCond .lt 12, 3) := by decide +kernel
theorem dX9_readMember_98 : decode cX9_readMember 98 = .ok (.aload_n 0, 1) := by decide +kernel
theorem dX9_readMember_99 : decode cX9_readMember 99 = .ok (.getfield 38, 3) := by decide +kernel
theorem dX9_readMember_102 : decode cX9_readMember 102 = .ok (.iload 5, 2) := by decide +kernel
theorem dX9_readMember_104 : decode cX9_readMember 104 = .ok (.if_icmp .ne 5, 3) := by decide +kernel
theorem dX9_readMember_107 : decode cX9_readMember 107 = .ok (.iconst 0, 1) := by decide +kernel
theorem dX9_readMember_108 : decode cX9_readMember 108 = .ok (.ireturn, 1) := by decide +kernel
theorem dX9_readMember_109 : decode cX9_readMember 109 = .ok (.aload_n 2, 1) := by decide +kernel
theorem dX9_readMember_110 : decode cX9_readMember 110 = .ok (.iload 8, 2) := by decide +kernel
theorem dX9_readMember_112 : decode cX9_readMember 112 = .ok (.invokevirtual 62, 3) := by decide +kernel
theorem dX9_readMember_115 : decode cX9_readMember 115 = .ok (.istore 9, 2) := by decide +kernel
theorem dX9_readMember_117 : decode cX9_readMember 117 = .ok (.iload 9, 2) := by decide +kernel
theorem dX9_readMember_119 : decode cX9_readMember 119 = .ok (.ifCond .lt 23, 3) := by decide +kernel
theorem dX9_readMember_122 : decode cX9_readMember 122 = .ok (.aload 4, 2) := by decide +kernel
theorem dX9_readMember_124 : decode cX9_readMember 124 = .ok (.iload 9, 2) := by decide +kernel
theorem dX9_readMember_126 : decode cX9_readMember 126 = .ok (.dup2, 1) := by decide +kernel
theorem dX9_readMember_127 : decode cX9_readMember 127 = .ok (.laload, 1) := by decide +kernel
theorem dX9_readMember_128 : decode cX9_readMember 128 = .ok (.iload_n 3, 1) := by decide +kernel
theorem dX9_readMember_129 : decode cX9_readMember 129 = .ok (.ifCond .eq 9, 3) := by decide +kernel
theorem dX9_readMember_132 : decode cX9_readMember 132 = .ok (.lload 6, 2) := by decide +kernel
theorem dX9_readMember_134 : decode cX9_readMember 134 = .ok (.lneg, 1) := by decide +kernel
theorem dX9_readMember_135 : decode cX9_readMember 135 = .ok (.goto 5, 3) := by decide +kernel
theorem dX9_readMember_138 : decode cX9_readMember 138 = .ok (.lload 6, 2) := by decide +kernel
theorem dX9_readMember_140 : decode cX9_readMember 140 = .ok (.ladd, 1) := by decide +kernel
theorem dX9_readMember_141 : decode cX9_readMember 141 = .ok (.lastore, 1) := by decide +kernel
theorem dX9_readMember_142 : decode cX9_readMember 142 = .ok (.iconst 1, 1) := by decide +kernel
theorem dX9_readMember_143 : decode cX9_readMember 143 = .ok (.ireturn, 1) := by decide +kernel
set_option maxHeartbeats 4000000 in
set_option maxRecDepth 100000 in
theorem cn_X9_readMember {l : Launch} {cA : Nat → ClassId} {ad : Nat → Nat} {D : va_G} {E : Nat → Nat} {A : Nat → Prop} {k1 : Nat} {x3 : Int32} {k4 : Nat} {s0 sr : SS} {rr : Int32} (hf : f_X9_readMember k1 x3 k4 s0 = some (rr, sr)) : zCon Ox Nx cA ad D E l yX9_readMember cX9_readMember 10 (some .boolean) 3 A [.ref (ad 8), .ref (ad k1), .ref (ad 6), .int x3, .ref (ad k4)] s0 (some (.int rr)) sr := by
  refine zstart (own := RX9) hOx (by decide) rfl (Nat.le_of_ble_eq_true rfl) ?_
  intro p e s m args below meth c X hP ls hl
  have hx := X.1
  have hb := X.2.1
  have hl : lv_has ls 10 [(0, .ref (ad 8)), (1, .ref (ad k1)), (2, .ref (ad 6)), (3, .int x3), (4, .ref (ad k4))] := hl
  have hS : va_S A s.heap s.heap [] := va_S.rf
  have hc_12 : ∀ (n12 : Nat) (k1 : Nat) (x3 : Int32) (k4 : Nat) (x5 : Int32) (x6 : Int64) (x8 : Int32) (s1 : SS) (H : Heap) (locs : List Loc) (ls : Array Slot), lv_has ls 10 [(0, .ref (ad 8)), (1, .ref (ad k1)), (2, .ref (ad 6)), (3, .int x3), (4, .ref (ad k4)), (5, .int x5), (6, .long x6), (8, .int x8)] → va_P D ZCL (zw Ox Nx cA ad s1) H → va_S A s.heap H locs → f_X9_readMember_c12 n12 k1 x3 k4 x5 x6 x8 s1 = some (rr, sr) → W p l e (zrm 3) s m args below meth c H locs 0 0 (MQ below (zQc Ox Nx cA ad D A (some (.int rr)) sr) args s 0 0 A) (F0 m 12 ls []) := by
    intro n12
    induction n12 with
    | zero =>
      intro k1 x3 k4 x5 x6 x8 s1 H locs ls hl hP hS hf
      rw [f_X9_readMember_c12] at hf
      cases hf
    | succ n12 ih12 =>
      have hc_140 : ∀ (t0 : Int64) (t1 : Int64) (t2 : Int32) (kt3 : Nat) (s1 : SS) (H : Heap) (locs : List Loc) (ls : Array Slot), lv_has ls 10 [] → va_P D ZCL (zw Ox Nx cA ad s1) H → va_S A s.heap H locs → f_X9_readMember_c140 t0 t1 t2 kt3 s1 = some (rr, sr) → W p l e (zrm 3) s m args below meth c H locs 0 0 (MQ below (zQc Ox Nx cA ad D A (some (.int rr)) sr) args s 0 0 A) (F0 m 140 ls [.long t0, .long t1, .int t2, .ref (ad kt3)]) := by
        intro t0 t1 t2 kt3 s1 H locs ls hl hP hS hf
        rw [f_X9_readMember_c140] at hf
        refine lv_ladd hx hb dX9_readMember_140 ?_
        obtain ⟨g8, hf⟩ := zgd hf
        obtain ⟨n9, rn9, on9, in9⟩ := zok_of g8
        refine zast_l X hP hS (k := kt3) on9 in9 dX9_readMember_141 (fun H locs hP hS => ?_)
        refine lv_iconst (v := 1) hx hb dX9_readMember_142 (by decide) ?_
        exact zret_i X hP hS hf rfl dX9_readMember_143
      have hc_82 : ∀ (k1 : Nat) (x3 : Int32) (k4 : Nat) (x5 : Int32) (x6 : Int64) (s1 : SS) (H : Heap) (locs : List Loc) (ls : Array Slot), lv_has ls 10 [(0, .ref (ad 8)), (1, .ref (ad k1)), (2, .ref (ad 6)), (3, .int x3), (4, .ref (ad k4)), (5, .int x5), (6, .long x6)] → va_P D ZCL (zw Ox Nx cA ad s1) H → va_S A s.heap H locs → f_X9_readMember_c82 k1 x3 k4 x5 x6 s1 = some (rr, sr) → W p l e (zrm 3) s m args below meth c H locs 0 0 (MQ below (zQc Ox Nx cA ad D A (some (.int rr)) sr) args s 0 0 A) (F0 m 82 ls []) := by
        intro k1 x3 k4 x5 x6 s1 H locs ls hl hP hS hf
        rw [f_X9_readMember_c82] at hf
        obtain ⟨gp1, hf⟩ := zgd hf
        refine lv_aload_n hx hb dX9_readMember_82 rfl (lv_at hl 0 rfl) ?_
        refine lv_aload_n hx hb dX9_readMember_83 rfl (lv_at hl 1 rfl) ?_
        refine lv_aload_n hx hb dX9_readMember_84 rfl (lv_at hl 2 rfl) ?_
        refine gf_X9_53 X hP (k := 6) rfl dX9_readMember_85 ?_
        obtain ⟨r1, s2, h3, hf⟩ := zbd_some hf
        refine zcallV X hP hS hl.1 (k := 8) (As := [.ref (ad k1), .int (s1.1 6 0)]) (rest := []) (cn_X9_readPowers h3) cw_X9_readPowers zp_9 rfl (by decide) rfl ml_X9_58 (by decide) rfl rfl (Nat.le_of_ble_eq_true rfl) dX9_readMember_88 (fun H locs hP hS => ?_)
        refine lv_istore (lv' := [(8, .int r1), (0, .ref (ad 8)), (1, .ref (ad k1)), (2, .ref (ad 6)), (3, .int x3), (4, .ref (ad k4)), (5, .int x5), (6, .long x6)]) hx hb dX9_readMember_91 hl (by decide) rfl (fun ls hl => ?_)
        refine lv_iload hx hb dX9_readMember_93 (lv_at hl 0 rfl) ?_
        refine zif_lt (tgt := 107) hx hb dX9_readMember_95 (by decide) hf (fun hf => ?_) (fun hf => ?_)
        · refine lv_iconst (v := 0) hx hb dX9_readMember_107 (by decide) ?_
          exact zret_i X hP hS hf rfl dX9_readMember_108
        · refine lv_aload_n hx hb dX9_readMember_98 rfl (lv_at hl 1 rfl) ?_
          refine gf_X9_38 X hP (k := 8) rfl dX9_readMember_99 ?_
          refine lv_iload hx hb dX9_readMember_102 (lv_at hl 6 rfl) ?_
          refine zicmp_ne (tgt := 109) hx hb dX9_readMember_104 (by decide) hf (fun hf => ?_) (fun hf => ?_)
          · refine lv_aload_n hx hb dX9_readMember_109 rfl (lv_at hl 3 rfl) ?_
            refine lv_iload hx hb dX9_readMember_110 (lv_at hl 0 rfl) ?_
            obtain ⟨r4, s5, h6, hf⟩ := zbd_some hf
            refine zcallV X hP hS hl.1 (k := 6) (As := [.int r1]) (rest := []) (cn_X10_find h6) cw_X10_find zp_10 rfl (by decide) rfl ml_X9_62 (by decide) rfl rfl (Nat.le_of_ble_eq_true rfl) dX9_readMember_112 (fun H locs hP hS => ?_)
            refine lv_istore (lv' := [(9, .int r4), (8, .int r1), (0, .ref (ad 8)), (1, .ref (ad k1)), (2, .ref (ad 6)), (3, .int x3), (4, .ref (ad k4)), (5, .int x5), (6, .long x6)]) hx hb dX9_readMember_115 hl (by decide) rfl (fun ls hl => ?_)
            refine lv_iload hx hb dX9_readMember_117 (lv_at hl 0 rfl) ?_
            refine zif_lt (tgt := 142) hx hb dX9_readMember_119 (by decide) hf (fun hf => ?_) (fun hf => ?_)
            · refine lv_iconst (v := 1) hx hb dX9_readMember_142 (by decide) ?_
              exact zret_i X hP hS hf rfl dX9_readMember_143
            · refine lv_aload hx hb dX9_readMember_122 (lv_at hl 6 rfl) ?_
              refine lv_iload hx hb dX9_readMember_124 (lv_at hl 0 rfl) ?_
              refine lv_dup2_11 hx hb dX9_readMember_126 rfl rfl ?_
              obtain ⟨g7, hf⟩ := zgd hf
              obtain ⟨n10, rn10, on10, in10⟩ := zok_of g7
              refine zald_l X hP (k := k4) on10 in10 dX9_readMember_127 ?_
              refine lv_iload_n hx hb dX9_readMember_128 rfl (lv_at hl 5 rfl) ?_
              refine zif_eq (tgt := 138) hx hb dX9_readMember_129 (by decide) hf (fun hf => ?_) (fun hf => ?_)
              · refine lv_lload hx hb dX9_readMember_138 (lv_at hl 8 rfl) ?_
                exact hc_140 x6 (s5.2 k4 (r4).toNatClampNeg) r4 k4 s5 _ _ _ (lv_sub hl [] rfl) hP hS hf
              · refine lv_lload hx hb dX9_readMember_132 (lv_at hl 8 rfl) ?_
                refine lv_lneg hx hb dX9_readMember_134 ?_
                refine lv_goto (tgt := 140) hx hb dX9_readMember_135 (by decide) ?_
                exact hc_140 (-x6) (s5.2 k4 (r4).toNatClampNeg) r4 k4 s5 _ _ _ (lv_sub hl [] rfl) hP hS hf
          · refine lv_iconst (v := 0) hx hb dX9_readMember_107 (by decide) ?_
            exact zret_i X hP hS hf rfl dX9_readMember_108
      have hc_70 : ∀ (k1 : Nat) (x3 : Int32) (k4 : Nat) (x5 : Int32) (x6 : Int64) (s1 : SS) (H : Heap) (locs : List Loc) (ls : Array Slot), lv_has ls 10 [(0, .ref (ad 8)), (1, .ref (ad k1)), (2, .ref (ad 6)), (3, .int x3), (4, .ref (ad k4)), (5, .int x5), (6, .long x6)] → va_P D ZCL (zw Ox Nx cA ad s1) H → va_S A s.heap H locs → f_X9_readMember_c70 k1 x3 k4 x5 x6 s1 = some (rr, sr) → W p l e (zrm 3) s m args below meth c H locs 0 0 (MQ below (zQc Ox Nx cA ad D A (some (.int rr)) sr) args s 0 0 A) (F0 m 70 ls []) := by
        intro k1 x3 k4 x5 x6 s1 H locs ls hl hP hS hf
        rw [f_X9_readMember_c70] at hf
        obtain ⟨gp1, hf⟩ := zgd hf
        refine lv_aload_n hx hb dX9_readMember_70 rfl (lv_at hl 0 rfl) ?_
        refine gf_X9_38 X hP (k := 8) rfl dX9_readMember_71 ?_
        refine lv_iload hx hb dX9_readMember_74 (lv_at hl 5 rfl) ?_
        refine zicmp_ne (tgt := 82) hx hb dX9_readMember_76 (by decide) hf (fun hf => ?_) (fun hf => ?_)
        · exact hc_82 k1 x3 k4 x5 x6 s1 _ _ _ (lv_sub hl [0, 1, 2, 3, 4, 5, 6] rfl) hP hS hf
        · refine lv_lconst (v := 1) hx hb dX9_readMember_79 (by decide) ?_
          refine lv_lstore (lv' := [(6, .long 1), (0, .ref (ad 8)), (1, .ref (ad k1)), (2, .ref (ad 6)), (3, .int x3), (4, .ref (ad k4)), (5, .int x5)]) hx hb dX9_readMember_80 hl (by decide) rfl (fun ls hl => ?_)
          exact hc_82 k1 x3 k4 x5 1 s1 _ _ _ (lv_sub hl [1, 2, 3, 4, 5, 6, 0] rfl) hP hS hf
      intro k1 x3 k4 x5 x6 x8 s1 H locs ls hl hP hS hf
      rw [f_X9_readMember_c12] at hf
      obtain ⟨gp1, hf⟩ := zgd hf
      refine lv_iload hx hb dX9_readMember_12 (lv_at hl 7 rfl) ?_
      refine lv_iconst (v := 4) hx hb dX9_readMember_14 (by decide) ?_
      refine zicmp_ge (tgt := 70) hx hb dX9_readMember_15 (by decide) hf (fun hf => ?_) (fun hf => ?_)
      · exact hc_70 k1 x3 k4 x5 x6 s1 _ _ _ (lv_sub hl [0, 1, 2, 3, 4, 5, 6] rfl) hP hS hf
      · refine lv_aload_n hx hb dX9_readMember_18 rfl (lv_at hl 0 rfl) ?_
        refine lv_aload_n hx hb dX9_readMember_19 rfl (lv_at hl 0 rfl) ?_
        refine gf_X9_38 X hP (k := 8) rfl dX9_readMember_20 ?_
        obtain ⟨r11, s12, h13, hf⟩ := zbd_some hf
        refine zcallV X hP hS hl.1 (k := 8) (As := [.int (s1.1 8 2)]) (rest := []) (cn_X9_signAt h13) cw_X9_signAt zp_9 rfl (by decide) rfl ml_X9_19 (by decide) rfl rfl (Nat.le_of_ble_eq_true rfl) dX9_readMember_23 (fun H locs hP hS => ?_)
        obtain ⟨r14, s15, h16, hf⟩ := zbd_some hf
        refine zcallS X hP hS hl.1 (As := [.int r11]) (rest := []) (cn_X9_isFigure h16) cw_X9_isFigure ml_X9_45 (by decide) rfl rfl (Nat.le_of_ble_eq_true rfl) dX9_readMember_26 (fun H locs hP hS => ?_)
        refine zif_eq (tgt := 70) hx hb dX9_readMember_29 (by decide) hf (fun hf => ?_) (fun hf => ?_)
        · exact hc_70 k1 x3 k4 x5 x6 s15 _ _ _ (lv_sub hl [0, 1, 2, 3, 4, 5, 6] rfl) hP hS hf
        · refine lv_lload hx hb dX9_readMember_32 (lv_at hl 6 rfl) ?_
          refine zldc2 X co_X9_49 dX9_readMember_34 ?_
          refine lv_lmul hx hb dX9_readMember_37 ?_
          refine lv_aload_n hx hb dX9_readMember_38 rfl (lv_at hl 0 rfl) ?_
          refine lv_aload_n hx hb dX9_readMember_39 rfl (lv_at hl 0 rfl) ?_
          refine gf_X9_38 X hP (k := 8) rfl dX9_readMember_40 ?_
          obtain ⟨r17, s18, h19, hf⟩ := zbd_some hf
          refine zcallV X hP hS hl.1 (k := 8) (As := [.int (s15.1 8 2)]) (rest := [.long (x6 * (10 : Int64))]) (cn_X9_signAt h19) cw_X9_signAt zp_9 rfl (by decide) rfl ml_X9_19 (by decide) rfl rfl (Nat.le_of_ble_eq_true rfl) dX9_readMember_43 (fun H locs hP hS => ?_)
          refine lv_i2l hx hb dX9_readMember_46 rfl ?_
          refine lv_ladd hx hb dX9_readMember_47 ?_
          refine zldc2 X co_X9_51 dX9_readMember_48 ?_
          refine lv_lsub hx hb dX9_readMember_51 ?_
          refine lv_lstore (lv' := [(6, .long (((x6 * (10 : Int64)) + (r17).toInt64) - (48 : Int64))), (0, .ref (ad 8)), (1, .ref (ad k1)), (2, .ref (ad 6)), (3, .int x3), (4, .ref (ad k4)), (5, .int x5), (8, .int x8)]) hx hb dX9_readMember_52 hl (by decide) rfl (fun ls hl => ?_)
          refine lv_aload_n hx hb dX9_readMember_54 rfl (lv_at hl 1 rfl) ?_
          refine lv_dup hx hb dX9_readMember_55 rfl ?_
          refine gf_X9_38 X hP (k := 8) rfl dX9_readMember_56 ?_
          refine lv_iconst (v := 1) hx hb dX9_readMember_59 (by decide) ?_
          refine lv_iadd hx hb dX9_readMember_60 ?_
          refine pf_X9_38 X hP hS (k := 8) rfl dX9_readMember_61 (fun H locs hP hS => ?_)
          refine lv_iinc (v := (x8 + 1)) (lv' := [(8, .int (x8 + 1)), (6, .long (((x6 * (10 : Int64)) + (r17).toInt64) - (48 : Int64))), (0, .ref (ad 8)), (1, .ref (ad k1)), (2, .ref (ad 6)), (3, .int x3), (4, .ref (ad k4)), (5, .int x5)]) hx hb dX9_readMember_64 hl (k := 7) rfl rfl (by decide) rfl (fun ls hl => ?_)
          refine lv_goto (tgt := 12) hx hb dX9_readMember_67 (by decide) ?_
          exact ih12 k1 x3 k4 x5 (((x6 * (10 : Int64)) + (r17).toInt64) - (48 : Int64)) (x8 + 1) (zS s18 8 2 ((s18.1 8 2) + (1 : Int32))) _ _ _ (lv_sub hl [2, 3, 4, 5, 6, 7, 1, 0] rfl) hP hS hf
  rw [f_X9_readMember] at hf
  obtain ⟨gp1, hf⟩ := zgd hf
  refine lv_aload_n hx hb dX9_readMember_0 rfl (lv_at hl 0 rfl) ?_
  refine gf_X9_38 X hP (k := 8) rfl dX9_readMember_1 ?_
  refine lv_istore (lv' := [(5, .int (s0.1 8 2)), (0, .ref (ad 8)), (1, .ref (ad k1)), (2, .ref (ad 6)), (3, .int x3), (4, .ref (ad k4))]) hx hb dX9_readMember_4 hl (by decide) rfl (fun ls hl => ?_)
  refine lv_lconst (v := 0) hx hb dX9_readMember_6 (by decide) ?_
  refine lv_lstore (lv' := [(6, .long 0), (5, .int (s0.1 8 2)), (0, .ref (ad 8)), (1, .ref (ad k1)), (2, .ref (ad 6)), (3, .int x3), (4, .ref (ad k4))]) hx hb dX9_readMember_7 hl (by decide) rfl (fun ls hl => ?_)
  refine lv_iconst (v := 0) hx hb dX9_readMember_9 (by decide) ?_
  refine lv_istore (lv' := [(8, .int 0), (6, .long 0), (5, .int (s0.1 8 2)), (0, .ref (ad 8)), (1, .ref (ad k1)), (2, .ref (ad 6)), (3, .int x3), (4, .ref (ad k4))]) hx hb dX9_readMember_10 hl (by decide) rfl (fun ls hl => ?_)
  exact hc_12 ZF k1 x3 k4 (s0.1 8 2) 0 0 s0 _ _ _ (lv_sub hl [3, 4, 5, 6, 7, 2, 1, 0] rfl) hP hS hf
theorem dX9_readClass_0 : decode cX9_readClass 0 = .ok (.aload_n 3, 1) := by decide +kernel
theorem dX9_readClass_1 : decode cX9_readClass 1 = .ok (.lconst 0, 1) := by decide +kernel
theorem dX9_readClass_2 : decode cX9_readClass 2 = .ok (.invokestatic 32, 3) := by decide +kernel
theorem dX9_readClass_5 : decode cX9_readClass 5 = .ok (.aload_n 0, 1) := by decide +kernel
theorem dX9_readClass_6 : decode cX9_readClass 6 = .ok (.iconst 0, 1) := by decide +kernel
theorem dX9_readClass_7 : decode cX9_readClass 7 = .ok (.invokevirtual 19, 3) := by decide +kernel
theorem dX9_readClass_10 : decode cX9_readClass 10 = .ok (.bipush 45, 2) := by decide +kernel
theorem dX9_readClass_12 : decode cX9_readClass 12 = .ok (.if_icmp .ne 7, 3) := by decide +kernel
theorem dX9_readClass_15 : decode cX9_readClass 15 = .ok (.iconst 1, 1) := by decide +kernel
theorem dX9_readClass_16 : decode cX9_readClass 16 = .ok (.goto 4, 3) := by decide +kernel
theorem dX9_readClass_19 : decode cX9_readClass 19 = .ok (.iconst 0, 1) := by decide +kernel
theorem dX9_readClass_20 : decode cX9_readClass 20 = .ok (.istore 4, 2) := by decide +kernel
theorem dX9_readClass_22 : decode cX9_readClass 22 = .ok (.aload_n 0, 1) := by decide +kernel
theorem dX9_readClass_23 : decode cX9_readClass 23 = .ok (.iload 4, 2) := by decide +kernel
theorem dX9_readClass_25 : decode cX9_readClass 25 = .ok (.ifCond .eq 7, 3) := by decide +kernel
theorem dX9_readClass_28 : decode cX9_readClass 28 = .ok (.iconst 1, 1) := by decide +kernel
theorem dX9_readClass_29 : decode cX9_readClass 29 = .ok (.goto 4, 3) := by decide +kernel
theorem dX9_readClass_32 : decode cX9_readClass 32 = .ok (.iconst 0, 1) := by decide +kernel
theorem dX9_readClass_33 : decode cX9_readClass 33 = .ok (.putfield 38, 3) := by decide +kernel
theorem dX9_readClass_36 : decode cX9_readClass 36 = .ok (.iconst 0, 1) := by decide +kernel
theorem dX9_readClass_37 : decode cX9_readClass 37 = .ok (.istore 5, 2) := by decide +kernel
theorem dX9_readClass_39 : decode cX9_readClass 39 = .ok (.iload 5, 2) := by decide +kernel
theorem dX9_readClass_41 : decode cX9_readClass 41 = .ok (.bipush 80, 2) := by decide +kernel
theorem dX9_readClass_43 : decode cX9_readClass 43 = .ok (.if_icmp .gt 87, 3) := by decide +kernel
theorem dX9_readClass_46 : decode cX9_readClass 46 = .ok (.aload_n 0, 1) := by decide +kernel
theorem dX9_readClass_47 : decode cX9_readClass 47 = .ok (.aload_n 1, 1) := by decide +kernel
theorem dX9_readClass_48 : decode cX9_readClass 48 = .ok (.aload_n 2, 1) := by decide +kernel
theorem dX9_readClass_49 : decode cX9_readClass 49 = .ok (.iload 4, 2) := by decide +kernel
theorem dX9_readClass_51 : decode cX9_readClass 51 = .ok (.aload_n 3, 1) := by decide +kernel
theorem dX9_readClass_52 : decode cX9_readClass 52 = .ok (.invokevirtual 41, 3) := by decide +kernel
theorem dX9_readClass_55 : decode cX9_readClass 55 = .ok (.ifCond .ne 8, 3) := by decide +kernel
theorem dX9_readClass_58 : decode cX9_readClass 58 = .ok (.aload_n 0, 1) := by decide +kernel
theorem dX9_readClass_59 : decode cX9_readClass 59 = .ok (.getfield 38, 3) := by decide +kernel
theorem dX9_readClass_62 : decode cX9_readClass 62 = .ok (.ireturn, 1) := by decide +kernel
theorem dX9_readClass_63 : decode cX9_readClass 63 = .ok (.aload_n 0, 1) := by decide +kernel
theorem dX9_readClass_64 : decode cX9_readClass 64 = .ok (.aload_n 0, 1) := by decide +kernel
theorem dX9_readClass_65 : decode cX9_readClass 65 = .ok (.getfield 38, 3) := by decide +kernel
theorem dX9_readClass_68 : decode cX9_readClass 68 = .ok (.invokevirtual 19, 3) := by decide +kernel
theorem dX9_readClass_71 : decode cX9_readClass 71 = .ok (.istore 6, 2) := by decide +kernel
theorem dX9_readClass_73 : decode cX9_readClass 73 = .ok (.iload 6, 2) := by decide +kernel
theorem dX9_readClass_75 : decode cX9_readClass 75 = .ok (.iconst (-1), 1) := by decide +kernel
theorem dX9_readClass_76 : decode cX9_readClass 76 = .ok (.if_icmp .ne 5, 3) := by decide +kernel
theorem dX9_readClass_79 : decode cX9_readClass 79 = .ok (.iconst (-1), 1) := by decide +kernel
theorem dX9_readClass_80 : decode cX9_readClass 80 = .ok (.ireturn, 1) := by decide +kernel
theorem dX9_readClass_81 : decode cX9_readClass 81 = .ok (.iload 6, 2) := by decide +kernel
theorem dX9_readClass_83 : decode cX9_readClass 83 = .ok (.bipush 43, 2) := by decide +kernel
theorem dX9_readClass_85 : decode cX9_readClass 85 = .ok (.if_icmp .eq 15, 3) := by decide +kernel
theorem dX9_readClass_88 : decode cX9_readClass 88 = .ok (.iload 6, 2) := by decide +kernel
theorem dX9_readClass_90 : decode cX9_readClass 90 = .ok (.bipush 45, 2) := by decide +kernel
theorem dX9_readClass_92 : decode cX9_readClass 92 = .ok (.if_icmp .eq 8, 3) := by decide +kernel
theorem dX9_readClass_95 : decode cX9_readClass 95 = .ok (.aload_n 0, 1) := by decide +kernel
theorem dX9_readClass_96 : decode cX9_readClass 96 = .ok (.getfield 38, 3) := by decide +kernel
theorem dX9_readClass_99 : decode cX9_readClass 99 = .ok (.ireturn, 1) := by decide +kernel
theorem dX9_readClass_100 : decode cX9_readClass 100 = .ok (.iload 6, 2) := by decide +kernel
theorem dX9_readClass_102 : decode cX9_readClass 102 = .ok (.bipush 45, 2) := by decide +kernel
theorem dX9_readClass_104 : decode cX9_readClass 104 = .ok (.if_icmp .ne 7, 3) := by decide +kernel
theorem dX9_readClass_107 : decode cX9_readClass 107 = .ok (.iconst 1, 1) := by decide +kernel
theorem dX9_readClass_108 : decode cX9_readClass 108 = .ok (.goto 4, 3) := by decide +kernel
theorem dX9_readClass_111 : decode cX9_readClass 111 = .ok (.iconst 0, 1) := by decide +kernel
theorem dX9_readClass_112 : decode cX9_readClass 112 = .ok (.istore 4, 2) := by decide +kernel
theorem dX9_readClass_114 : decode cX9_readClass 114 = .ok (.aload_n 0, 1) := by decide +kernel
theorem dX9_readClass_115 : decode cX9_readClass 115 = .ok (.dup, 1) := by decide +kernel
theorem dX9_readClass_116 : decode cX9_readClass 116 = .ok (.getfield 38, 3) := by decide +kernel
theorem dX9_readClass_119 : decode cX9_readClass 119 = .ok (.iconst 1, 1) := by decide +kernel
theorem dX9_readClass_120 : decode cX9_readClass 120 = .ok (.iadd, 1) := by decide +kernel
theorem dX9_readClass_121 : decode cX9_readClass 121 = .ok (.putfield 38, 3) := by decide +kernel
theorem dX9_readClass_124 : decode cX9_readClass 124 = .ok (.iinc 5 1, 3) := by decide +kernel
theorem dX9_readClass_127 : decode cX9_readClass 127 = .ok (.goto (-88), 3) := by decide +kernel
theorem dX9_readClass_130 : decode cX9_readClass 130 = .ok (.aload_n 0, 1) := by decide +kernel
theorem dX9_readClass_131 : decode cX9_readClass 131 = .ok (.getfield 38, 3) := by decide +kernel
theorem dX9_readClass_134 : decode cX9_readClass 134 = .ok (.ireturn, 1) := by decide +kernel
set_option maxHeartbeats 4000000 in
set_option maxRecDepth 100000 in
theorem cn_X9_readClass {l : Launch} {cA : Nat → ClassId} {ad : Nat → Nat} {D : va_G} {E : Nat → Nat} {A : Nat → Prop} {k1 : Nat} {k3 : Nat} {s0 sr : SS} {rr : Int32} (hf : f_X9_readClass k1 k3 s0 = some (rr, sr)) : zCon Ox Nx cA ad D E l yX9_readClass cX9_readClass 7 (some .int) 4 A [.ref (ad 8), .ref (ad k1), .ref (ad 6), .ref (ad k3)] s0 (some (.int rr)) sr := by
  refine zstart (own := RX9) hOx (by decide) rfl (Nat.le_of_ble_eq_true rfl) ?_
  intro p e s m args below meth c X hP ls hl
  have hx := X.1
  have hb := X.2.1
  have hl : lv_has ls 7 [(0, .ref (ad 8)), (1, .ref (ad k1)), (2, .ref (ad 6)), (3, .ref (ad k3))] := hl
  have hS : va_S A s.heap s.heap [] := va_S.rf
  have hc_39 : ∀ (n39 : Nat) (k1 : Nat) (k3 : Nat) (x4 : Int32) (x5 : Int32) (s1 : SS) (H : Heap) (locs : List Loc) (ls : Array Slot), lv_has ls 7 [(0, .ref (ad 8)), (1, .ref (ad k1)), (2, .ref (ad 6)), (3, .ref (ad k3)), (4, .int x4), (5, .int x5)] → va_P D ZCL (zw Ox Nx cA ad s1) H → va_S A s.heap H locs → f_X9_readClass_c39 n39 k1 k3 x4 x5 s1 = some (rr, sr) → W p l e (zrm 4) s m args below meth c H locs 0 0 (MQ below (zQc Ox Nx cA ad D A (some (.int rr)) sr) args s 0 0 A) (F0 m 39 ls []) := by
    intro n39
    induction n39 with
    | zero =>
      intro k1 k3 x4 x5 s1 H locs ls hl hP hS hf
      rw [f_X9_readClass_c39] at hf
      cases hf
    | succ n39 ih39 =>
      have hc_112 : ∀ (k1 : Nat) (k3 : Nat) (x5 : Int32) (t0 : Int32) (s1 : SS) (H : Heap) (locs : List Loc) (ls : Array Slot), lv_has ls 7 [(0, .ref (ad 8)), (1, .ref (ad k1)), (2, .ref (ad 6)), (3, .ref (ad k3)), (5, .int x5)] → va_P D ZCL (zw Ox Nx cA ad s1) H → va_S A s.heap H locs → f_X9_readClass_c112 (f_X9_readClass_c39 n39) k1 k3 x5 t0 s1 = some (rr, sr) → W p l e (zrm 4) s m args below meth c H locs 0 0 (MQ below (zQc Ox Nx cA ad D A (some (.int rr)) sr) args s 0 0 A) (F0 m 112 ls [.int t0]) := by
        intro k1 k3 x5 t0 s1 H locs ls hl hP hS hf
        rw [f_X9_readClass_c112] at hf
        obtain ⟨gp1, hf⟩ := zgd hf
        refine lv_istore (lv' := [(4, .int t0), (0, .ref (ad 8)), (1, .ref (ad k1)), (2, .ref (ad 6)), (3, .ref (ad k3)), (5, .int x5)]) hx hb dX9_readClass_112 hl (by decide) rfl (fun ls hl => ?_)
        refine lv_aload_n hx hb dX9_readClass_114 rfl (lv_at hl 1 rfl) ?_
        refine lv_dup hx hb dX9_readClass_115 rfl ?_
        refine gf_X9_38 X hP (k := 8) rfl dX9_readClass_116 ?_
        refine lv_iconst (v := 1) hx hb dX9_readClass_119 (by decide) ?_
        refine lv_iadd hx hb dX9_readClass_120 ?_
        refine pf_X9_38 X hP hS (k := 8) rfl dX9_readClass_121 (fun H locs hP hS => ?_)
        refine lv_iinc (v := (x5 + 1)) (lv' := [(5, .int (x5 + 1)), (4, .int t0), (0, .ref (ad 8)), (1, .ref (ad k1)), (2, .ref (ad 6)), (3, .ref (ad k3))]) hx hb dX9_readClass_124 hl (k := 5) rfl rfl (by decide) rfl (fun ls hl => ?_)
        refine lv_goto (tgt := 39) hx hb dX9_readClass_127 (by decide) ?_
        exact ih39 k1 k3 t0 (x5 + 1) (zS s1 8 2 ((s1.1 8 2) + (1 : Int32))) _ _ _ (lv_sub hl [2, 3, 4, 5, 1, 0] rfl) hP hS hf
      have hc_100 : ∀ (k1 : Nat) (k3 : Nat) (x5 : Int32) (x6 : Int32) (s1 : SS) (H : Heap) (locs : List Loc) (ls : Array Slot), lv_has ls 7 [(0, .ref (ad 8)), (1, .ref (ad k1)), (2, .ref (ad 6)), (3, .ref (ad k3)), (5, .int x5), (6, .int x6)] → va_P D ZCL (zw Ox Nx cA ad s1) H → va_S A s.heap H locs → f_X9_readClass_c100 (f_X9_readClass_c39 n39) k1 k3 x5 x6 s1 = some (rr, sr) → W p l e (zrm 4) s m args below meth c H locs 0 0 (MQ below (zQc Ox Nx cA ad D A (some (.int rr)) sr) args s 0 0 A) (F0 m 100 ls []) := by
        intro k1 k3 x5 x6 s1 H locs ls hl hP hS hf
        rw [f_X9_readClass_c100] at hf
        obtain ⟨gp1, hf⟩ := zgd hf
        refine lv_iload hx hb dX9_readClass_100 (lv_at hl 5 rfl) ?_
        refine lv_bipush (v := 45) hx hb dX9_readClass_102 (by decide) ?_
        refine zicmp_ne (tgt := 111) hx hb dX9_readClass_104 (by decide) hf (fun hf => ?_) (fun hf => ?_)
        · refine lv_iconst (v := 0) hx hb dX9_readClass_111 (by decide) ?_
          exact hc_112 k1 k3 x5 0 s1 _ _ _ (lv_sub hl [0, 1, 2, 3, 4] rfl) hP hS hf
        · refine lv_iconst (v := 1) hx hb dX9_readClass_107 (by decide) ?_
          refine lv_goto (tgt := 112) hx hb dX9_readClass_108 (by decide) ?_
          exact hc_112 k1 k3 x5 1 s1 _ _ _ (lv_sub hl [0, 1, 2, 3, 4] rfl) hP hS hf
      intro k1 k3 x4 x5 s1 H locs ls hl hP hS hf
      rw [f_X9_readClass_c39] at hf
      obtain ⟨gp1, hf⟩ := zgd hf
      refine lv_iload hx hb dX9_readClass_39 (lv_at hl 5 rfl) ?_
      refine lv_bipush (v := 80) hx hb dX9_readClass_41 (by decide) ?_
      refine zicmp_gt (tgt := 130) hx hb dX9_readClass_43 (by decide) hf (fun hf => ?_) (fun hf => ?_)
      · refine lv_aload_n hx hb dX9_readClass_130 rfl (lv_at hl 0 rfl) ?_
        refine gf_X9_38 X hP (k := 8) rfl dX9_readClass_131 ?_
        exact zret_i X hP hS hf rfl dX9_readClass_134
      · refine lv_aload_n hx hb dX9_readClass_46 rfl (lv_at hl 0 rfl) ?_
        refine lv_aload_n hx hb dX9_readClass_47 rfl (lv_at hl 1 rfl) ?_
        refine lv_aload_n hx hb dX9_readClass_48 rfl (lv_at hl 2 rfl) ?_
        refine lv_iload hx hb dX9_readClass_49 (lv_at hl 4 rfl) ?_
        refine lv_aload_n hx hb dX9_readClass_51 rfl (lv_at hl 3 rfl) ?_
        obtain ⟨r7, s8, h9, hf⟩ := zbd_some hf
        refine zcallV X hP hS hl.1 (k := 8) (As := [.ref (ad k1), .ref (ad 6), .int x4, .ref (ad k3)]) (rest := []) (cn_X9_readMember h9) cw_X9_readMember zp_9 rfl (by decide) rfl ml_X9_41 (by decide) rfl rfl (Nat.le_of_ble_eq_true rfl) dX9_readClass_52 (fun H locs hP hS => ?_)
        refine zif_ne (tgt := 63) hx hb dX9_readClass_55 (by decide) hf (fun hf => ?_) (fun hf => ?_)
        · refine lv_aload_n hx hb dX9_readClass_63 rfl (lv_at hl 0 rfl) ?_
          refine lv_aload_n hx hb dX9_readClass_64 rfl (lv_at hl 0 rfl) ?_
          refine gf_X9_38 X hP (k := 8) rfl dX9_readClass_65 ?_
          obtain ⟨r10, s11, h12, hf⟩ := zbd_some hf
          refine zcallV X hP hS hl.1 (k := 8) (As := [.int (s8.1 8 2)]) (rest := []) (cn_X9_signAt h12) cw_X9_signAt zp_9 rfl (by decide) rfl ml_X9_19 (by decide) rfl rfl (Nat.le_of_ble_eq_true rfl) dX9_readClass_68 (fun H locs hP hS => ?_)
          refine lv_istore (lv' := [(6, .int r10), (0, .ref (ad 8)), (1, .ref (ad k1)), (2, .ref (ad 6)), (3, .ref (ad k3)), (4, .int x4), (5, .int x5)]) hx hb dX9_readClass_71 hl (by decide) rfl (fun ls hl => ?_)
          refine lv_iload hx hb dX9_readClass_73 (lv_at hl 0 rfl) ?_
          refine lv_iconst (v := (-1)) hx hb dX9_readClass_75 (by decide) ?_
          refine zicmp_ne (tgt := 81) hx hb dX9_readClass_76 (by decide) hf (fun hf => ?_) (fun hf => ?_)
          · refine lv_iload hx hb dX9_readClass_81 (lv_at hl 0 rfl) ?_
            refine lv_bipush (v := 43) hx hb dX9_readClass_83 (by decide) ?_
            refine zicmp_eq (tgt := 100) hx hb dX9_readClass_85 (by decide) hf (fun hf => ?_) (fun hf => ?_)
            · exact hc_100 k1 k3 x5 r10 s11 _ _ _ (lv_sub hl [1, 2, 3, 4, 6, 0] rfl) hP hS hf
            · refine lv_iload hx hb dX9_readClass_88 (lv_at hl 0 rfl) ?_
              refine lv_bipush (v := 45) hx hb dX9_readClass_90 (by decide) ?_
              refine zicmp_eq (tgt := 100) hx hb dX9_readClass_92 (by decide) hf (fun hf => ?_) (fun hf => ?_)
              · exact hc_100 k1 k3 x5 r10 s11 _ _ _ (lv_sub hl [1, 2, 3, 4, 6, 0] rfl) hP hS hf
              · refine lv_aload_n hx hb dX9_readClass_95 rfl (lv_at hl 1 rfl) ?_
                refine gf_X9_38 X hP (k := 8) rfl dX9_readClass_96 ?_
                exact zret_i X hP hS hf rfl dX9_readClass_99
          · refine lv_iconst (v := (-1)) hx hb dX9_readClass_79 (by decide) ?_
            exact zret_i X hP hS hf rfl dX9_readClass_80
        · refine lv_aload_n hx hb dX9_readClass_58 rfl (lv_at hl 0 rfl) ?_
          refine gf_X9_38 X hP (k := 8) rfl dX9_readClass_59 ?_
          exact zret_i X hP hS hf rfl dX9_readClass_62
  have hc_33 : ∀ (k1 : Nat) (k3 : Nat) (x4 : Int32) (t0 : Int32) (s1 : SS) (H : Heap) (locs : List Loc) (ls : Array Slot), lv_has ls 7 [(0, .ref (ad 8)), (1, .ref (ad k1)), (2, .ref (ad 6)), (3, .ref (ad k3)), (4, .int x4)] → va_P D ZCL (zw Ox Nx cA ad s1) H → va_S A s.heap H locs → f_X9_readClass_c33 k1 k3 x4 t0 s1 = some (rr, sr) → W p l e (zrm 4) s m args below meth c H locs 0 0 (MQ below (zQc Ox Nx cA ad D A (some (.int rr)) sr) args s 0 0 A) (F0 m 33 ls [.int t0, .ref (ad 8)]) := by
    intro k1 k3 x4 t0 s1 H locs ls hl hP hS hf
    rw [f_X9_readClass_c33] at hf
    obtain ⟨gp1, hf⟩ := zgd hf
    refine pf_X9_38 X hP hS (k := 8) rfl dX9_readClass_33 (fun H locs hP hS => ?_)
    refine lv_iconst (v := 0) hx hb dX9_readClass_36 (by decide) ?_
    refine lv_istore (lv' := [(5, .int 0), (0, .ref (ad 8)), (1, .ref (ad k1)), (2, .ref (ad 6)), (3, .ref (ad k3)), (4, .int x4)]) hx hb dX9_readClass_37 hl (by decide) rfl (fun ls hl => ?_)
    exact hc_39 ZF k1 k3 x4 0 (zS s1 8 2 t0) _ _ _ (lv_sub hl [1, 2, 3, 4, 5, 0] rfl) hP hS hf
  have hc_20 : ∀ (k1 : Nat) (k3 : Nat) (t0 : Int32) (s1 : SS) (H : Heap) (locs : List Loc) (ls : Array Slot), lv_has ls 7 [(0, .ref (ad 8)), (1, .ref (ad k1)), (2, .ref (ad 6)), (3, .ref (ad k3))] → va_P D ZCL (zw Ox Nx cA ad s1) H → va_S A s.heap H locs → f_X9_readClass_c20 k1 k3 t0 s1 = some (rr, sr) → W p l e (zrm 4) s m args below meth c H locs 0 0 (MQ below (zQc Ox Nx cA ad D A (some (.int rr)) sr) args s 0 0 A) (F0 m 20 ls [.int t0]) := by
    intro k1 k3 t0 s1 H locs ls hl hP hS hf
    rw [f_X9_readClass_c20] at hf
    obtain ⟨gp1, hf⟩ := zgd hf
    refine lv_istore (lv' := [(4, .int t0), (0, .ref (ad 8)), (1, .ref (ad k1)), (2, .ref (ad 6)), (3, .ref (ad k3))]) hx hb dX9_readClass_20 hl (by decide) rfl (fun ls hl => ?_)
    refine lv_aload_n hx hb dX9_readClass_22 rfl (lv_at hl 1 rfl) ?_
    refine lv_iload hx hb dX9_readClass_23 (lv_at hl 0 rfl) ?_
    refine zif_eq (tgt := 32) hx hb dX9_readClass_25 (by decide) hf (fun hf => ?_) (fun hf => ?_)
    · refine lv_iconst (v := 0) hx hb dX9_readClass_32 (by decide) ?_
      exact hc_33 k1 k3 t0 0 s1 _ _ _ (lv_sub hl [1, 2, 3, 4, 0] rfl) hP hS hf
    · refine lv_iconst (v := 1) hx hb dX9_readClass_28 (by decide) ?_
      refine lv_goto (tgt := 33) hx hb dX9_readClass_29 (by decide) ?_
      exact hc_33 k1 k3 t0 1 s1 _ _ _ (lv_sub hl [1, 2, 3, 4, 0] rfl) hP hS hf
  rw [f_X9_readClass] at hf
  obtain ⟨gp1, hf⟩ := zgd hf
  refine lv_aload_n hx hb dX9_readClass_0 rfl (lv_at hl 3 rfl) ?_
  refine lv_lconst (v := 0) hx hb dX9_readClass_1 (by decide) ?_
  obtain ⟨r1, s2, h3, hf⟩ := zbd_some hf
  refine zcallS X hP hS hl.1 (As := [.ref (ad k3), .long 0]) (rest := []) (cn_J7_fill_d0a16 hOx h3) cw_J7_fill_d0a16 ml_X9_32 (by decide) rfl rfl (Nat.le_of_ble_eq_true rfl) dX9_readClass_2 (fun H locs hP hS => ?_)
  refine lv_aload_n hx hb dX9_readClass_5 rfl (lv_at hl 0 rfl) ?_
  refine lv_iconst (v := 0) hx hb dX9_readClass_6 (by decide) ?_
  obtain ⟨r4, s5, h6, hf⟩ := zbd_some hf
  refine zcallV X hP hS hl.1 (k := 8) (As := [.int 0]) (rest := []) (cn_X9_signAt h6) cw_X9_signAt zp_9 rfl (by decide) rfl ml_X9_19 (by decide) rfl rfl (Nat.le_of_ble_eq_true rfl) dX9_readClass_7 (fun H locs hP hS => ?_)
  refine lv_bipush (v := 45) hx hb dX9_readClass_10 (by decide) ?_
  refine zicmp_ne (tgt := 19) hx hb dX9_readClass_12 (by decide) hf (fun hf => ?_) (fun hf => ?_)
  · refine lv_iconst (v := 0) hx hb dX9_readClass_19 (by decide) ?_
    exact hc_20 k1 k3 0 s5 _ _ _ (lv_sub hl [0, 1, 2, 3] rfl) hP hS hf
  · refine lv_iconst (v := 1) hx hb dX9_readClass_15 (by decide) ?_
    refine lv_goto (tgt := 20) hx hb dX9_readClass_16 (by decide) ?_
    exact hc_20 k1 k3 1 s5 _ _ _ (lv_sub hl [0, 1, 2, 3] rfl) hP hS hf
theorem dX10_addTerm_0 : decode cX10_addTerm 0 = .ok (.iconst 0, 1) := by decide +kernel
theorem dX10_addTerm_1 : decode cX10_addTerm 1 = .ok (.istore_n 2, 1) := by decide +kernel
theorem dX10_addTerm_2 : decode cX10_addTerm 2 = .ok (.iconst 0, 1) := by decide +kernel
theorem dX10_addTerm_3 : decode cX10_addTerm 3 = .ok (.istore_n 3, 1) := by decide +kernel
theorem dX10_addTerm_4 : decode cX10_addTerm 4 = .ok (.iconst 0, 1) := by decide +kernel
theorem dX10_addTerm_5 : decode cX10_addTerm 5 = .ok (.istore 4, 2) := by decide +kernel
theorem dX10_addTerm_7 : decode cX10_addTerm 7 = .ok (.iconst 0, 1) := by decide +kernel
theorem dX10_addTerm_8 : decode cX10_addTerm 8 = .ok (.istore 5, 2) := by decide +kernel
theorem dX10_addTerm_10 : decode cX10_addTerm 10 = .ok (.iload 5, 2) := by decide +kernel
theorem dX10_addTerm_12 : decode cX10_addTerm 12 = .ok (.aload_n 0, 1) := by decide +kernel
theorem dX10_addTerm_13 : decode cX10_addTerm 13 = .ok (.getfield 46, 3) := by decide +kernel
theorem dX10_addTerm_16 : decode cX10_addTerm 16 = .ok (.if_icmp .ge 68, 3) := by decide +kernel
theorem dX10_addTerm_19 : decode cX10_addTerm 19 = .ok (.iload 5, 2) := by decide +kernel
theorem dX10_addTerm_21 : decode cX10_addTerm 21 = .ok (.bipush 6, 2) := by decide +kernel
theorem dX10_addTerm_23 : decode cX10_addTerm 23 = .ok (.if_icmp .ge 61, 3) := by decide +kernel
theorem dX10_addTerm_26 : decode cX10_addTerm 26 = .ok (.iload_n 2, 1) := by decide +kernel
theorem dX10_addTerm_27 : decode cX10_addTerm 27 = .ok (.aload_n 0, 1) := by decide +kernel
theorem dX10_addTerm_28 : decode cX10_addTerm 28 = .ok (.getfield 30, 3) := by decide +kernel
theorem dX10_addTerm_31 : decode cX10_addTerm 31 = .ok (.iload 5, 2) := by decide +kernel
theorem dX10_addTerm_33 : decode cX10_addTerm 33 = .ok (.iaload, 1) := by decide +kernel
theorem dX10_addTerm_34 : decode cX10_addTerm 34 = .ok (.getstatic 69, 3) := by decide +kernel
theorem dX10_addTerm_37 : decode cX10_addTerm 37 = .ok (.iload 5, 2) := by decide +kernel
theorem dX10_addTerm_39 : decode cX10_addTerm 39 = .ok (.iaload, 1) := by decide +kernel
theorem dX10_addTerm_40 : decode cX10_addTerm 40 = .ok (.imul, 1) := by decide +kernel
theorem dX10_addTerm_41 : decode cX10_addTerm 41 = .ok (.iadd, 1) := by decide +kernel
theorem dX10_addTerm_42 : decode cX10_addTerm 42 = .ok (.istore_n 2, 1) := by decide +kernel
theorem dX10_addTerm_43 : decode cX10_addTerm 43 = .ok (.iload_n 3, 1) := by decide +kernel
theorem dX10_addTerm_44 : decode cX10_addTerm 44 = .ok (.aload_n 0, 1) := by decide +kernel
theorem dX10_addTerm_45 : decode cX10_addTerm 45 = .ok (.getfield 30, 3) := by decide +kernel
theorem dX10_addTerm_48 : decode cX10_addTerm 48 = .ok (.iload 5, 2) := by decide +kernel
theorem dX10_addTerm_50 : decode cX10_addTerm 50 = .ok (.iaload, 1) := by decide +kernel
theorem dX10_addTerm_51 : decode cX10_addTerm 51 = .ok (.iadd, 1) := by decide +kernel
theorem dX10_addTerm_52 : decode cX10_addTerm 52 = .ok (.istore_n 3, 1) := by decide +kernel
theorem dX10_addTerm_53 : decode cX10_addTerm 53 = .ok (.iload 4, 2) := by decide +kernel
theorem dX10_addTerm_55 : decode cX10_addTerm 55 = .ok (.iload 5, 2) := by decide +kernel
theorem dX10_addTerm_57 : decode cX10_addTerm 57 = .ok (.aload_n 1, 1) := by decide +kernel
theorem dX10_addTerm_58 : decode cX10_addTerm 58 = .ok (.getfield 74, 3) := by decide +kernel
theorem dX10_addTerm_61 : decode cX10_addTerm 61 = .ok (.if_icmp .ge 13, 3) := by decide +kernel
theorem dX10_addTerm_64 : decode cX10_addTerm 64 = .ok (.aload_n 0, 1) := by decide +kernel
theorem dX10_addTerm_65 : decode cX10_addTerm 65 = .ok (.getfield 30, 3) := by decide +kernel
theorem dX10_addTerm_68 : decode cX10_addTerm 68 = .ok (.iload 5, 2) := by decide +kernel
theorem dX10_addTerm_70 : decode cX10_addTerm 70 = .ok (.iaload, 1) := by decide +kernel
theorem dX10_addTerm_71 : decode cX10_addTerm 71 = .ok (.goto 4, 3) := by decide +kernel
theorem dX10_addTerm_74 : decode cX10_addTerm 74 = .ok (.iconst 0, 1) := by decide +kernel
theorem dX10_addTerm_75 : decode cX10_addTerm 75 = .ok (.iadd, 1) := by decide +kernel
theorem dX10_addTerm_76 : decode cX10_addTerm 76 = .ok (.istore 4, 2) := by decide +kernel
theorem dX10_addTerm_78 : decode cX10_addTerm 78 = .ok (.iinc 5 1, 3) := by decide +kernel
theorem dX10_addTerm_81 : decode cX10_addTerm 81 = .ok (.goto (-71), 3) := by decide +kernel
theorem dX10_addTerm_84 : decode cX10_addTerm 84 = .ok (.aload_n 0, 1) := by decide +kernel
theorem dX10_addTerm_85 : decode cX10_addTerm 85 = .ok (.getfield 9, 3) := by decide +kernel
theorem dX10_addTerm_88 : decode cX10_addTerm 88 = .ok (.aload_n 0, 1) := by decide +kernel
theorem dX10_addTerm_89 : decode cX10_addTerm 89 = .ok (.getfield 49, 3) := by decide +kernel
theorem dX10_addTerm_92 : decode cX10_addTerm 92 = .ok (.iload_n 2, 1) := by decide +kernel
theorem dX10_addTerm_93 : decode cX10_addTerm 93 = .ok (.iastore, 1) := by decide +kernel
theorem dX10_addTerm_94 : decode cX10_addTerm 94 = .ok (.aload_n 0, 1) := by decide +kernel
theorem dX10_addTerm_95 : decode cX10_addTerm 95 = .ok (.getfield 13, 3) := by decide +kernel
theorem dX10_addTerm_98 : decode cX10_addTerm 98 = .ok (.aload_n 0, 1) := by decide +kernel
theorem dX10_addTerm_99 : decode cX10_addTerm 99 = .ok (.getfield 49, 3) := by decide +kernel
theorem dX10_addTerm_102 : decode cX10_addTerm 102 = .ok (.iload_n 3, 1) := by decide +kernel
theorem dX10_addTerm_103 : decode cX10_addTerm 103 = .ok (.iastore, 1) := by decide +kernel
theorem dX10_addTerm_104 : decode cX10_addTerm 104 = .ok (.aload_n 0, 1) := by decide +kernel
theorem dX10_addTerm_105 : decode cX10_addTerm 105 = .ok (.getfield 20, 3) := by decide +kernel
theorem dX10_addTerm_108 : decode cX10_addTerm 108 = .ok (.aload_n 0, 1) := by decide +kernel
theorem dX10_addTerm_109 : decode cX10_addTerm 109 = .ok (.getfield 49, 3) := by decide +kernel
theorem dX10_addTerm_112 : decode cX10_addTerm 112 = .ok (.iload 4, 2) := by decide +kernel
theorem dX10_addTerm_114 : decode cX10_addTerm 114 = .ok (.iload_n 3, 1) := by decide +kernel
theorem dX10_addTerm_115 : decode cX10_addTerm 115 = .ok (.if_icmp .ne 7, 3) := by decide +kernel
theorem dX10_addTerm_118 : decode cX10_addTerm 118 = .ok (.iconst 1, 1) := by decide +kernel
theorem dX10_addTerm_119 : decode cX10_addTerm 119 = .ok (.goto 4, 3) := by decide +kernel
theorem dX10_addTerm_122 : decode cX10_addTerm 122 = .ok (.iconst 0, 1) := by decide +kernel
theorem dX10_addTerm_123 : decode cX10_addTerm 123 = .ok (.bastore, 1) := by decide +kernel
theorem dX10_addTerm_124 : decode cX10_addTerm 124 = .ok (.aload_n 0, 1) := by decide +kernel
theorem dX10_addTerm_125 : decode cX10_addTerm 125 = .ok (.getfield 16, 3) := by decide +kernel
theorem dX10_addTerm_128 : decode cX10_addTerm 128 = .ok (.aload_n 0, 1) := by decide +kernel
theorem dX10_addTerm_129 : decode cX10_addTerm 129 = .ok (.getfield 49, 3) := by decide +kernel
theorem dX10_addTerm_132 : decode cX10_addTerm 132 = .ok (.iload_n 3, 1) := by decide +kernel
theorem dX10_addTerm_133 : decode cX10_addTerm 133 = .ok (.aload_n 0, 1) := by decide +kernel
theorem dX10_addTerm_134 : decode cX10_addTerm 134 = .ok (.getfield 39, 3) := by decide +kernel
theorem dX10_addTerm_137 : decode cX10_addTerm 137 = .ok (.if_icmp .ne 14, 3) := by decide +kernel
theorem dX10_addTerm_140 : decode cX10_addTerm 140 = .ok (.aload_n 1, 1) := by decide +kernel
theorem dX10_addTerm_141 : decode cX10_addTerm 141 = .ok (.aload_n 0, 1) := by decide +kernel
theorem dX10_addTerm_142 : decode cX10_addTerm 142 = .ok (.getfield 30, 3) := by decide +kernel
theorem dX10_addTerm_145 : decode cX10_addTerm 145 = .ok (.invokevirtual 77, 3) := by decide +kernel
theorem dX10_addTerm_148 : decode cX10_addTerm 148 = .ok (.goto 4, 3) := by decide +kernel
theorem dX10_addTerm_151 : decode cX10_addTerm 151 = .ok (.lconst 0, 1) := by decide +kernel
theorem dX10_addTerm_152 : decode cX10_addTerm 152 = .ok (.lastore, 1) := by decide +kernel
theorem dX10_addTerm_153 : decode cX10_addTerm 153 = .ok (.aload_n 0, 1) := by decide +kernel
theorem dX10_addTerm_154 : decode cX10_addTerm 154 = .ok (.dup, 1) := by decide +kernel
theorem dX10_addTerm_155 : decode cX10_addTerm 155 = .ok (.getfield 49, 3) := by decide +kernel
theorem dX10_addTerm_158 : decode cX10_addTerm 158 = .ok (.iconst 1, 1) := by decide +kernel
theorem dX10_addTerm_159 : decode cX10_addTerm 159 = .ok (.iadd, 1) := by decide +kernel
theorem dX10_addTerm_160 : decode cX10_addTerm 160 = .ok (.putfield 49, 3) := by decide +kernel
theorem dX10_addTerm_163 : decode cX10_addTerm 163 = .ok (.return_, 1) := by decide +kernel
set_option maxHeartbeats 4000000 in
set_option maxRecDepth 100000 in
theorem cn_X10_addTerm {l : Launch} {cA : Nat → ClassId} {ad : Nat → Nat} {D : va_G} {E : Nat → Nat} {A : Nat → Prop} {k1 : Nat} {s0 sr : SS} {rr : Unit} (hf : f_X10_addTerm k1 s0 = some (rr, sr)) : zCon Ox Nx cA ad D E l yX10_addTerm cX10_addTerm 6 none 3 A [.ref (ad 6), .ref (ad k1)] s0 none sr := by
  refine zstart (own := RX10) hOx (by decide) rfl (Nat.le_of_ble_eq_true rfl) ?_
  intro p e s m args below meth c X hP ls hl
  have hx := X.1
  have hb := X.2.1
  have hl : lv_has ls 6 [(0, .ref (ad 6)), (1, .ref (ad k1))] := hl
  have hS : va_S A s.heap s.heap [] := va_S.rf
  have hc_10 : ∀ (n10 : Nat) (k1 : Nat) (x2 : Int32) (x3 : Int32) (x4 : Int32) (x5 : Int32) (s1 : SS) (H : Heap) (locs : List Loc) (ls : Array Slot), lv_has ls 6 [(0, .ref (ad 6)), (1, .ref (ad k1)), (2, .int x2), (3, .int x3), (4, .int x4), (5, .int x5)] → va_P D ZCL (zw Ox Nx cA ad s1) H → va_S A s.heap H locs → f_X10_addTerm_c10 n10 k1 x2 x3 x4 x5 s1 = some (rr, sr) → W p l e (zrm 3) s m args below meth c H locs 0 0 (MQ below (zQc Ox Nx cA ad D A none sr) args s 0 0 A) (F0 m 10 ls []) := by
    intro n10
    induction n10 with
    | zero =>
      intro k1 x2 x3 x4 x5 s1 H locs ls hl hP hS hf
      rw [f_X10_addTerm_c10] at hf
      cases hf
    | succ n10 ih10 =>
      have hc_152 : ∀ (t0 : Int64) (t1 : Int32) (s1 : SS) (H : Heap) (locs : List Loc) (ls : Array Slot), lv_has ls 6 [(0, .ref (ad 6))] → va_P D ZCL (zw Ox Nx cA ad s1) H → va_S A s.heap H locs → f_X10_addTerm_c152 t0 t1 s1 = some (rr, sr) → W p l e (zrm 3) s m args below meth c H locs 0 0 (MQ below (zQc Ox Nx cA ad D A none sr) args s 0 0 A) (F0 m 152 ls [.long t0, .int t1, .ref (ad 64)]) := by
        intro t0 t1 s1 H locs ls hl hP hS hf
        rw [f_X10_addTerm_c152] at hf
        obtain ⟨g4, hf⟩ := zgd hf
        refine zast_l X hP hS (k := 64) (n := 462) (rs := []) rfl g4 dX10_addTerm_152 (fun H locs hP hS => ?_)
        refine lv_aload_n hx hb dX10_addTerm_153 rfl (lv_at hl 0 rfl) ?_
        refine lv_dup hx hb dX10_addTerm_154 rfl ?_
        refine gf_X10_49 X hP (k := 6) rfl dX10_addTerm_155 ?_
        refine lv_iconst (v := 1) hx hb dX10_addTerm_158 (by decide) ?_
        refine lv_iadd hx hb dX10_addTerm_159 ?_
        refine pf_X10_49 X hP hS (k := 6) rfl dX10_addTerm_160 (fun H locs hP hS => ?_)
        exact zret_v X hP hS hf dX10_addTerm_163
      have hc_123 : ∀ (k1 : Nat) (x3 : Int32) (t0 : Int32) (t1 : Int32) (s1 : SS) (H : Heap) (locs : List Loc) (ls : Array Slot), lv_has ls 6 [(0, .ref (ad 6)), (1, .ref (ad k1)), (3, .int x3)] → va_P D ZCL (zw Ox Nx cA ad s1) H → va_S A s.heap H locs → f_X10_addTerm_c123 k1 x3 t0 t1 s1 = some (rr, sr) → W p l e (zrm 3) s m args below meth c H locs 0 0 (MQ below (zQc Ox Nx cA ad D A none sr) args s 0 0 A) (F0 m 123 ls [.int t0, .int t1, .ref (ad 65)]) := by
        intro k1 x3 t0 t1 s1 H locs ls hl hP hS hf
        rw [f_X10_addTerm_c123] at hf
        obtain ⟨gp1, hf⟩ := zgd hf
        obtain ⟨g3, hf⟩ := zgd hf
        refine zast_z X hP hS (k := 65) (n := 462) (rs := []) rfl g3 dX10_addTerm_123 (fun H locs hP hS => ?_)
        refine lv_aload_n hx hb dX10_addTerm_124 rfl (lv_at hl 0 rfl) ?_
        refine gf_X10_16 X hP (k := 6) (q := 64) rfl dX10_addTerm_125 rfl ?_
        refine lv_aload_n hx hb dX10_addTerm_128 rfl (lv_at hl 0 rfl) ?_
        refine gf_X10_49 X hP (k := 6) rfl dX10_addTerm_129 ?_
        refine lv_iload_n hx hb dX10_addTerm_132 rfl (lv_at hl 2 rfl) ?_
        refine lv_aload_n hx hb dX10_addTerm_133 rfl (lv_at hl 0 rfl) ?_
        refine gf_X10_39 X hP (k := 6) rfl dX10_addTerm_134 ?_
        refine zicmp_ne (tgt := 151) hx hb dX10_addTerm_137 (by decide) hf (fun hf => ?_) (fun hf => ?_)
        · refine lv_lconst (v := 0) hx hb dX10_addTerm_151 (by decide) ?_
          exact hc_152 0 ((zS s1 65 (t1).toNatClampNeg (vp_nar .boolean t0)).1 6 2) (zS s1 65 (t1).toNatClampNeg (vp_nar .boolean t0)) _ _ _ (lv_sub hl [0] rfl) hP hS hf
        · refine lv_aload_n hx hb dX10_addTerm_140 rfl (lv_at hl 1 rfl) ?_
          refine lv_aload_n hx hb dX10_addTerm_141 rfl (lv_at hl 0 rfl) ?_
          refine gf_X10_30 X hP (k := 6) (q := 68) rfl dX10_addTerm_142 rfl ?_
          obtain ⟨r5, s6, h7, hf⟩ := zbd_some hf
          refine zcallV X hP hS hl.1 (k := k1) (As := [.ref (ad 68)]) (rest := [.int ((zS s1 65 (t1).toNatClampNeg (vp_nar .boolean t0)).1 6 2), .ref (ad 64)]) (cn_X7_worthOf h7) cw_X7_worthOf zp_7 gp1 (by decide) rfl ml_X10_77 (by decide) rfl rfl (Nat.le_of_ble_eq_true rfl) dX10_addTerm_145 (fun H locs hP hS => ?_)
          refine lv_goto (tgt := 152) hx hb dX10_addTerm_148 (by decide) ?_
          exact hc_152 r5 ((zS s1 65 (t1).toNatClampNeg (vp_nar .boolean t0)).1 6 2) s6 _ _ _ (lv_sub hl [0] rfl) hP hS hf
      have hc_84 : ∀ (k1 : Nat) (x2 : Int32) (x3 : Int32) (x4 : Int32) (s1 : SS) (H : Heap) (locs : List Loc) (ls : Array Slot), lv_has ls 6 [(0, .ref (ad 6)), (1, .ref (ad k1)), (2, .int x2), (3, .int x3), (4, .int x4)] → va_P D ZCL (zw Ox Nx cA ad s1) H → va_S A s.heap H locs → f_X10_addTerm_c84 k1 x2 x3 x4 s1 = some (rr, sr) → W p l e (zrm 3) s m args below meth c H locs 0 0 (MQ below (zQc Ox Nx cA ad D A none sr) args s 0 0 A) (F0 m 84 ls []) := by
        intro k1 x2 x3 x4 s1 H locs ls hl hP hS hf
        rw [f_X10_addTerm_c84] at hf
        obtain ⟨gp1, hf⟩ := zgd hf
        refine lv_aload_n hx hb dX10_addTerm_84 rfl (lv_at hl 0 rfl) ?_
        refine gf_X10_9 X hP (k := 6) (q := 62) rfl dX10_addTerm_85 rfl ?_
        refine lv_aload_n hx hb dX10_addTerm_88 rfl (lv_at hl 0 rfl) ?_
        refine gf_X10_49 X hP (k := 6) rfl dX10_addTerm_89 ?_
        refine lv_iload_n hx hb dX10_addTerm_92 rfl (lv_at hl 2 rfl) ?_
        obtain ⟨g1, hf⟩ := zgd hf
        refine zast_i X hP hS (k := 62) (n := 462) (rs := []) rfl g1 dX10_addTerm_93 (fun H locs hP hS => ?_)
        refine lv_aload_n hx hb dX10_addTerm_94 rfl (lv_at hl 0 rfl) ?_
        refine gf_X10_13 X hP (k := 6) (q := 63) rfl dX10_addTerm_95 rfl ?_
        refine lv_aload_n hx hb dX10_addTerm_98 rfl (lv_at hl 0 rfl) ?_
        refine gf_X10_49 X hP (k := 6) rfl dX10_addTerm_99 ?_
        refine lv_iload_n hx hb dX10_addTerm_102 rfl (lv_at hl 3 rfl) ?_
        obtain ⟨g2, hf⟩ := zgd hf
        refine zast_i X hP hS (k := 63) (n := 462) (rs := []) rfl g2 dX10_addTerm_103 (fun H locs hP hS => ?_)
        refine lv_aload_n hx hb dX10_addTerm_104 rfl (lv_at hl 0 rfl) ?_
        refine gf_X10_20 X hP (k := 6) (q := 65) rfl dX10_addTerm_105 rfl ?_
        refine lv_aload_n hx hb dX10_addTerm_108 rfl (lv_at hl 0 rfl) ?_
        refine gf_X10_49 X hP (k := 6) rfl dX10_addTerm_109 ?_
        refine lv_iload hx hb dX10_addTerm_112 (lv_at hl 4 rfl) ?_
        refine lv_iload_n hx hb dX10_addTerm_114 rfl (lv_at hl 3 rfl) ?_
        refine zicmp_ne (tgt := 122) hx hb dX10_addTerm_115 (by decide) hf (fun hf => ?_) (fun hf => ?_)
        · refine lv_iconst (v := 0) hx hb dX10_addTerm_122 (by decide) ?_
          exact hc_123 k1 x3 0 ((zS (zS s1 62 ((s1.1 6 2)).toNatClampNeg x2) 63 (((zS s1 62 ((s1.1 6 2)).toNatClampNeg x2).1 6 2)).toNatClampNeg x3).1 6 2) (zS (zS s1 62 ((s1.1 6 2)).toNatClampNeg x2) 63 (((zS s1 62 ((s1.1 6 2)).toNatClampNeg x2).1 6 2)).toNatClampNeg x3) _ _ _ (lv_sub hl [0, 1, 3] rfl) hP hS hf
        · refine lv_iconst (v := 1) hx hb dX10_addTerm_118 (by decide) ?_
          refine lv_goto (tgt := 123) hx hb dX10_addTerm_119 (by decide) ?_
          exact hc_123 k1 x3 1 ((zS (zS s1 62 ((s1.1 6 2)).toNatClampNeg x2) 63 (((zS s1 62 ((s1.1 6 2)).toNatClampNeg x2).1 6 2)).toNatClampNeg x3).1 6 2) (zS (zS s1 62 ((s1.1 6 2)).toNatClampNeg x2) 63 (((zS s1 62 ((s1.1 6 2)).toNatClampNeg x2).1 6 2)).toNatClampNeg x3) _ _ _ (lv_sub hl [0, 1, 3] rfl) hP hS hf
      have hc_75 : ∀ (k1 : Nat) (x2 : Int32) (x3 : Int32) (x5 : Int32) (t0 : Int32) (t1 : Int32) (s1 : SS) (H : Heap) (locs : List Loc) (ls : Array Slot), lv_has ls 6 [(0, .ref (ad 6)), (1, .ref (ad k1)), (2, .int x2), (3, .int x3), (5, .int x5)] → va_P D ZCL (zw Ox Nx cA ad s1) H → va_S A s.heap H locs → f_X10_addTerm_c75 (f_X10_addTerm_c10 n10) k1 x2 x3 x5 t0 t1 s1 = some (rr, sr) → W p l e (zrm 3) s m args below meth c H locs 0 0 (MQ below (zQc Ox Nx cA ad D A none sr) args s 0 0 A) (F0 m 75 ls [.int t0, .int t1]) := by
        intro k1 x2 x3 x5 t0 t1 s1 H locs ls hl hP hS hf
        rw [f_X10_addTerm_c75] at hf
        obtain ⟨gp1, hf⟩ := zgd hf
        refine lv_iadd hx hb dX10_addTerm_75 ?_
        refine lv_istore (lv' := [(4, .int (t1 + t0)), (0, .ref (ad 6)), (1, .ref (ad k1)), (2, .int x2), (3, .int x3), (5, .int x5)]) hx hb dX10_addTerm_76 hl (by decide) rfl (fun ls hl => ?_)
        refine lv_iinc (v := (x5 + 1)) (lv' := [(5, .int (x5 + 1)), (4, .int (t1 + t0)), (0, .ref (ad 6)), (1, .ref (ad k1)), (2, .int x2), (3, .int x3)]) hx hb dX10_addTerm_78 hl (k := 5) rfl rfl (by decide) rfl (fun ls hl => ?_)
        refine lv_goto (tgt := 10) hx hb dX10_addTerm_81 (by decide) ?_
        exact ih10 k1 x2 x3 (t1 + t0) (x5 + 1) s1 _ _ _ (lv_sub hl [2, 3, 4, 5, 1, 0] rfl) hP hS hf
      intro k1 x2 x3 x4 x5 s1 H locs ls hl hP hS hf
      rw [f_X10_addTerm_c10] at hf
      obtain ⟨gp1, hf⟩ := zgd hf
      refine lv_iload hx hb dX10_addTerm_10 (lv_at hl 5 rfl) ?_
      refine lv_aload_n hx hb dX10_addTerm_12 rfl (lv_at hl 0 rfl) ?_
      refine gf_X10_46 X hP (k := 6) rfl dX10_addTerm_13 ?_
      refine zicmp_ge (tgt := 84) hx hb dX10_addTerm_16 (by decide) hf (fun hf => ?_) (fun hf => ?_)
      · exact hc_84 k1 x2 x3 x4 s1 _ _ _ (lv_sub hl [0, 1, 2, 3, 4] rfl) hP hS hf
      · refine lv_iload hx hb dX10_addTerm_19 (lv_at hl 5 rfl) ?_
        refine lv_bipush (v := 6) hx hb dX10_addTerm_21 (by decide) ?_
        refine zicmp_ge (tgt := 84) hx hb dX10_addTerm_23 (by decide) hf (fun hf => ?_) (fun hf => ?_)
        · exact hc_84 k1 x2 x3 x4 s1 _ _ _ (lv_sub hl [0, 1, 2, 3, 4] rfl) hP hS hf
        · refine lv_iload_n hx hb dX10_addTerm_26 rfl (lv_at hl 2 rfl) ?_
          refine lv_aload_n hx hb dX10_addTerm_27 rfl (lv_at hl 0 rfl) ?_
          refine gf_X10_30 X hP (k := 6) (q := 68) rfl dX10_addTerm_28 rfl ?_
          refine lv_iload hx hb dX10_addTerm_31 (lv_at hl 5 rfl) ?_
          obtain ⟨g8, hf⟩ := zgd hf
          refine zald_i X hP (k := 68) (n := 6) (rs := []) rfl g8 dX10_addTerm_33 ?_
          refine zgsN X hS (i := 0) rfl nf_X10_69 dX10_addTerm_34 ?_
          refine lv_iload hx hb dX10_addTerm_37 (lv_at hl 5 rfl) ?_
          obtain ⟨g9, hf⟩ := zgd hf
          refine zst X hS (k := 0) (n := 6) rfl rfl g9 dX10_addTerm_39 ?_
          refine lv_imul hx hb dX10_addTerm_40 ?_
          refine lv_iadd hx hb dX10_addTerm_41 ?_
          refine lv_istore_n (lv' := [(2, .int (x2 + ((s1.1 68 (x5).toNatClampNeg) * (ztab 0 x5)))), (0, .ref (ad 6)), (1, .ref (ad k1)), (3, .int x3), (4, .int x4), (5, .int x5)]) hx hb dX10_addTerm_42 rfl hl (by decide) rfl (fun ls hl => ?_)
          refine lv_iload_n hx hb dX10_addTerm_43 rfl (lv_at hl 3 rfl) ?_
          refine lv_aload_n hx hb dX10_addTerm_44 rfl (lv_at hl 1 rfl) ?_
          refine gf_X10_30 X hP (k := 6) (q := 68) rfl dX10_addTerm_45 rfl ?_
          refine lv_iload hx hb dX10_addTerm_48 (lv_at hl 5 rfl) ?_
          obtain ⟨g10, hf⟩ := zgd hf
          refine zald_i X hP (k := 68) (n := 6) (rs := []) rfl g10 dX10_addTerm_50 ?_
          refine lv_iadd hx hb dX10_addTerm_51 ?_
          refine lv_istore_n (lv' := [(3, .int (x3 + (s1.1 68 (x5).toNatClampNeg))), (2, .int (x2 + ((s1.1 68 (x5).toNatClampNeg) * (ztab 0 x5)))), (0, .ref (ad 6)), (1, .ref (ad k1)), (4, .int x4), (5, .int x5)]) hx hb dX10_addTerm_52 rfl hl (by decide) rfl (fun ls hl => ?_)
          refine lv_iload hx hb dX10_addTerm_53 (lv_at hl 4 rfl) ?_
          refine lv_iload hx hb dX10_addTerm_55 (lv_at hl 5 rfl) ?_
          refine lv_aload_n hx hb dX10_addTerm_57 rfl (lv_at hl 3 rfl) ?_
          refine gf_X10_74 X hP (k := k1) gp1 dX10_addTerm_58 ?_
          refine zicmp_ge (tgt := 74) hx hb dX10_addTerm_61 (by decide) hf (fun hf => ?_) (fun hf => ?_)
          · refine lv_iconst (v := 0) hx hb dX10_addTerm_74 (by decide) ?_
            exact hc_75 k1 (x2 + ((s1.1 68 (x5).toNatClampNeg) * (ztab 0 x5))) (x3 + (s1.1 68 (x5).toNatClampNeg)) x5 0 x4 s1 _ _ _ (lv_sub hl [2, 3, 1, 0, 5] rfl) hP hS hf
          · refine lv_aload_n hx hb dX10_addTerm_64 rfl (lv_at hl 2 rfl) ?_
            refine gf_X10_30 X hP (k := 6) (q := 68) rfl dX10_addTerm_65 rfl ?_
            refine lv_iload hx hb dX10_addTerm_68 (lv_at hl 5 rfl) ?_
            obtain ⟨g11, hf⟩ := zgd hf
            refine zald_i X hP (k := 68) (n := 6) (rs := []) rfl g11 dX10_addTerm_70 ?_
            refine lv_goto (tgt := 75) hx hb dX10_addTerm_71 (by decide) ?_
            exact hc_75 k1 (x2 + ((s1.1 68 (x5).toNatClampNeg) * (ztab 0 x5))) (x3 + (s1.1 68 (x5).toNatClampNeg)) x5 (s1.1 68 (x5).toNatClampNeg) x4 s1 _ _ _ (lv_sub hl [2, 3, 1, 0, 5] rfl) hP hS hf
  rw [f_X10_addTerm] at hf
  obtain ⟨gp1, hf⟩ := zgd hf
  refine lv_iconst (v := 0) hx hb dX10_addTerm_0 (by decide) ?_
  refine lv_istore_n (lv' := [(2, .int 0), (0, .ref (ad 6)), (1, .ref (ad k1))]) hx hb dX10_addTerm_1 rfl hl (by decide) rfl (fun ls hl => ?_)
  refine lv_iconst (v := 0) hx hb dX10_addTerm_2 (by decide) ?_
  refine lv_istore_n (lv' := [(3, .int 0), (2, .int 0), (0, .ref (ad 6)), (1, .ref (ad k1))]) hx hb dX10_addTerm_3 rfl hl (by decide) rfl (fun ls hl => ?_)
  refine lv_iconst (v := 0) hx hb dX10_addTerm_4 (by decide) ?_
  refine lv_istore (lv' := [(4, .int 0), (3, .int 0), (2, .int 0), (0, .ref (ad 6)), (1, .ref (ad k1))]) hx hb dX10_addTerm_5 hl (by decide) rfl (fun ls hl => ?_)
  refine lv_iconst (v := 0) hx hb dX10_addTerm_7 (by decide) ?_
  refine lv_istore (lv' := [(5, .int 0), (4, .int 0), (3, .int 0), (2, .int 0), (0, .ref (ad 6)), (1, .ref (ad k1))]) hx hb dX10_addTerm_8 hl (by decide) rfl (fun ls hl => ?_)
  exact hc_10 ZF k1 0 0 0 0 s0 _ _ _ (lv_sub hl [4, 5, 3, 2, 1, 0] rfl) hP hS hf
theorem dX10_stepOn_0 : decode cX10_stepOn 0 = .ok (.iconst (-1), 1) := by decide +kernel
theorem dX10_stepOn_1 : decode cX10_stepOn 1 = .ok (.istore_n 1, 1) := by decide +kernel
theorem dX10_stepOn_2 : decode cX10_stepOn 2 = .ok (.iconst 0, 1) := by decide +kernel
theorem dX10_stepOn_3 : decode cX10_stepOn 3 = .ok (.istore_n 2, 1) := by decide +kernel
theorem dX10_stepOn_4 : decode cX10_stepOn 4 = .ok (.iconst 0, 1) := by decide +kernel
theorem dX10_stepOn_5 : decode cX10_stepOn 5 = .ok (.istore_n 3, 1) := by decide +kernel
theorem dX10_stepOn_6 : decode cX10_stepOn 6 = .ok (.iload_n 3, 1) := by decide +kernel
theorem dX10_stepOn_7 : decode cX10_stepOn 7 = .ok (.aload_n 0, 1) := by decide +kernel
theorem dX10_stepOn_8 : decode cX10_stepOn 8 = .ok (.getfield 46, 3) := by decide +kernel
theorem dX10_stepOn_11 : decode cX10_stepOn 11 = .ok (.if_icmp .ge 39, 3) := by decide +kernel
theorem dX10_stepOn_14 : decode cX10_stepOn 14 = .ok (.iload_n 3, 1) := by decide +kernel
theorem dX10_stepOn_15 : decode cX10_stepOn 15 = .ok (.bipush 6, 2) := by decide +kernel
theorem dX10_stepOn_17 : decode cX10_stepOn 17 = .ok (.if_icmp .ge 33, 3) := by decide +kernel
theorem dX10_stepOn_20 : decode cX10_stepOn 20 = .ok (.iload_n 2, 1) := by decide +kernel
theorem dX10_stepOn_21 : decode cX10_stepOn 21 = .ok (.aload_n 0, 1) := by decide +kernel
theorem dX10_stepOn_22 : decode cX10_stepOn 22 = .ok (.getfield 30, 3) := by decide +kernel
theorem dX10_stepOn_25 : decode cX10_stepOn 25 = .ok (.iload_n 3, 1) := by decide +kernel
theorem dX10_stepOn_26 : decode cX10_stepOn 26 = .ok (.iaload, 1) := by decide +kernel
theorem dX10_stepOn_27 : decode cX10_stepOn 27 = .ok (.iadd, 1) := by decide +kernel
theorem dX10_stepOn_28 : decode cX10_stepOn 28 = .ok (.istore_n 2, 1) := by decide +kernel
theorem dX10_stepOn_29 : decode cX10_stepOn 29 = .ok (.aload_n 0, 1) := by decide +kernel
theorem dX10_stepOn_30 : decode cX10_stepOn 30 = .ok (.getfield 30, 3) := by decide +kernel
theorem dX10_stepOn_33 : decode cX10_stepOn 33 = .ok (.iload_n 3, 1) := by decide +kernel
theorem dX10_stepOn_34 : decode cX10_stepOn 34 = .ok (.iaload, 1) := by decide +kernel
theorem dX10_stepOn_35 : decode cX10_stepOn 35 = .ok (.ifCond .le 7, 3) := by decide +kernel
theorem dX10_stepOn_38 : decode cX10_stepOn 38 = .ok (.iload_n 3, 1) := by decide +kernel
theorem dX10_stepOn_39 : decode cX10_stepOn 39 = .ok (.goto 4, 3) := by decide +kernel
theorem dX10_stepOn_42 : decode cX10_stepOn 42 = .ok (.iload_n 1, 1) := by decide +kernel
theorem dX10_stepOn_43 : decode cX10_stepOn 43 = .ok (.istore_n 1, 1) := by decide +kernel
theorem dX10_stepOn_44 : decode cX10_stepOn 44 = .ok (.iinc 3 1, 3) := by decide +kernel
theorem dX10_stepOn_47 : decode cX10_stepOn 47 = .ok (.goto (-41), 3) := by decide +kernel
theorem dX10_stepOn_50 : decode cX10_stepOn 50 = .ok (.iload_n 1, 1) := by decide +kernel
theorem dX10_stepOn_51 : decode cX10_stepOn 51 = .ok (.ifCond .ge 5, 3) := by decide +kernel
theorem dX10_stepOn_54 : decode cX10_stepOn 54 = .ok (.iconst 0, 1) := by decide +kernel
theorem dX10_stepOn_55 : decode cX10_stepOn 55 = .ok (.ireturn, 1) := by decide +kernel
theorem dX10_stepOn_56 : decode cX10_stepOn 56 = .ok (.aload_n 0, 1) := by decide +kernel
theorem dX10_stepOn_57 : decode cX10_stepOn 57 = .ok (.getfield 30, 3) := by decide +kernel
theorem dX10_stepOn_60 : decode cX10_stepOn 60 = .ok (.iload_n 1, 1) := by decide +kernel
theorem dX10_stepOn_61 : decode cX10_stepOn 61 = .ok (.dup2, 1) := by decide +kernel
theorem dX10_stepOn_62 : decode cX10_stepOn 62 = .ok (.iaload, 1) := by decide +kernel
theorem dX10_stepOn_63 : decode cX10_stepOn 63 = .ok (.iconst 1, 1) := by decide +kernel
theorem dX10_stepOn_64 : decode cX10_stepOn 64 = .ok (.isub, 1) := by decide +kernel
theorem dX10_stepOn_65 : decode cX10_stepOn 65 = .ok (.iastore, 1) := by decide +kernel
theorem dX10_stepOn_66 : decode cX10_stepOn 66 = .ok (.iload_n 1, 1) := by decide +kernel
theorem dX10_stepOn_67 : decode cX10_stepOn 67 = .ok (.iconst 1, 1) := by decide +kernel
theorem dX10_stepOn_68 : decode cX10_stepOn 68 = .ok (.iadd, 1) := by decide +kernel
theorem dX10_stepOn_69 : decode cX10_stepOn 69 = .ok (.aload_n 0, 1) := by decide +kernel
theorem dX10_stepOn_70 : decode cX10_stepOn 70 = .ok (.getfield 46, 3) := by decide +kernel
theorem dX10_stepOn_73 : decode cX10_stepOn 73 = .ok (.if_icmp .ge 27, 3) := by decide +kernel
theorem dX10_stepOn_76 : decode cX10_stepOn 76 = .ok (.iload_n 1, 1) := by decide +kernel
theorem dX10_stepOn_77 : decode cX10_stepOn 77 = .ok (.iconst 1, 1) := by decide +kernel
theorem dX10_stepOn_78 : decode cX10_stepOn 78 = .ok (.iadd, 1) := by decide +kernel
theorem dX10_stepOn_79 : decode cX10_stepOn 79 = .ok (.bipush 6, 2) := by decide +kernel
theorem dX10_stepOn_81 : decode cX10_stepOn 81 = .ok (.if_icmp .ge 19, 3) := by decide +kernel
theorem dX10_stepOn_84 : decode cX10_stepOn 84 = .ok (.aload_n 0, 1) := by decide +kernel
theorem dX10_stepOn_85 : decode cX10_stepOn 85 = .ok (.getfield 30, 3) := by decide +kernel
theorem dX10_stepOn_88 : decode cX10_stepOn 88 = .ok (.iload_n 1, 1) := by decide +kernel
theorem dX10_stepOn_89 : decode cX10_stepOn 89 = .ok (.iconst 1, 1) := by decide +kernel
theorem dX10_stepOn_90 : decode cX10_stepOn 90 = .ok (.iadd, 1) := by decide +kernel
theorem dX10_stepOn_91 : decode cX10_stepOn 91 = .ok (.aload_n 0, 1) := by decide +kernel
theorem dX10_stepOn_92 : decode cX10_stepOn 92 = .ok (.getfield 39, 3) := by decide +kernel
theorem dX10_stepOn_95 : decode cX10_stepOn 95 = .ok (.iload_n 2, 1) := by decide +kernel
theorem dX10_stepOn_96 : decode cX10_stepOn 96 = .ok (.isub, 1) := by decide +kernel
theorem dX10_stepOn_97 : decode cX10_stepOn 97 = .ok (.iconst 1, 1) := by decide +kernel
theorem dX10_stepOn_98 : decode cX10_stepOn 98 = .ok (.iadd, 1) := by decide +kernel
theorem dX10_stepOn_99 : decode cX10_stepOn 99 = .ok (.iastore, 1) := by decide +kernel
theorem dX10_stepOn_100 : decode cX10_stepOn 100 = .ok (.iconst 1, 1) := by decide +kernel
theorem dX10_stepOn_101 : decode cX10_stepOn 101 = .ok (.ireturn, 1) := by decide +kernel
set_option maxHeartbeats 4000000 in
set_option maxRecDepth 100000 in
theorem cn_X10_stepOn {l : Launch} {cA : Nat → ClassId} {ad : Nat → Nat} {D : va_G} {E : Nat → Nat} {A : Nat → Prop}  {s0 sr : SS} {rr : Int32} (hf : f_X10_stepOn s0 = some (rr, sr)) : zCon Ox Nx cA ad D E l yX10_stepOn cX10_stepOn 4 (some .boolean) 0 A [.ref (ad 6)] s0 (some (.int rr)) sr := by
  refine zstart (own := RX10) hOx (by decide) rfl (Nat.le_of_ble_eq_true rfl) ?_
  intro p e s m args below meth c X hP ls hl
  have hx := X.1
  have hb := X.2.1
  have hl : lv_has ls 4 [(0, .ref (ad 6))] := hl
  have hS : va_S A s.heap s.heap [] := va_S.rf
  have hc_6 : ∀ (n6 : Nat) (x1 : Int32) (x2 : Int32) (x3 : Int32) (s1 : SS) (H : Heap) (locs : List Loc) (ls : Array Slot), lv_has ls 4 [(0, .ref (ad 6)), (1, .int x1), (2, .int x2), (3, .int x3)] → va_P D ZCL (zw Ox Nx cA ad s1) H → va_S A s.heap H locs → f_X10_stepOn_c6 n6 x1 x2 x3 s1 = some (rr, sr) → W p l e (zrm 0) s m args below meth c H locs 0 0 (MQ below (zQc Ox Nx cA ad D A (some (.int rr)) sr) args s 0 0 A) (F0 m 6 ls []) := by
    intro n6
    induction n6 with
    | zero =>
      intro x1 x2 x3 s1 H locs ls hl hP hS hf
      rw [f_X10_stepOn_c6] at hf
      cases hf
    | succ n6 ih6 =>
      have hc_50 : ∀ (x1 : Int32) (x2 : Int32) (s1 : SS) (H : Heap) (locs : List Loc) (ls : Array Slot), lv_has ls 4 [(0, .ref (ad 6)), (1, .int x1), (2, .int x2)] → va_P D ZCL (zw Ox Nx cA ad s1) H → va_S A s.heap H locs → f_X10_stepOn_c50 x1 x2 s1 = some (rr, sr) → W p l e (zrm 0) s m args below meth c H locs 0 0 (MQ below (zQc Ox Nx cA ad D A (some (.int rr)) sr) args s 0 0 A) (F0 m 50 ls []) := by
        intro x1 x2 s1 H locs ls hl hP hS hf
        rw [f_X10_stepOn_c50] at hf
        refine lv_iload_n hx hb dX10_stepOn_50 rfl (lv_at hl 1 rfl) ?_
        refine zif_ge (tgt := 56) hx hb dX10_stepOn_51 (by decide) hf (fun hf => ?_) (fun hf => ?_)
        · refine lv_aload_n hx hb dX10_stepOn_56 rfl (lv_at hl 0 rfl) ?_
          refine gf_X10_30 X hP (k := 6) (q := 68) rfl dX10_stepOn_57 rfl ?_
          refine lv_iload_n hx hb dX10_stepOn_60 rfl (lv_at hl 1 rfl) ?_
          refine lv_dup2_11 hx hb dX10_stepOn_61 rfl rfl ?_
          obtain ⟨g1, hf⟩ := zgd hf
          refine zald_i X hP (k := 68) (n := 6) (rs := []) rfl g1 dX10_stepOn_62 ?_
          refine lv_iconst (v := 1) hx hb dX10_stepOn_63 (by decide) ?_
          refine lv_isub hx hb dX10_stepOn_64 ?_
          obtain ⟨g2, hf⟩ := zgd hf
          refine zast_i X hP hS (k := 68) (n := 6) (rs := []) rfl g2 dX10_stepOn_65 (fun H locs hP hS => ?_)
          refine lv_iload_n hx hb dX10_stepOn_66 rfl (lv_at hl 1 rfl) ?_
          refine lv_iconst (v := 1) hx hb dX10_stepOn_67 (by decide) ?_
          refine lv_iadd hx hb dX10_stepOn_68 ?_
          refine lv_aload_n hx hb dX10_stepOn_69 rfl (lv_at hl 0 rfl) ?_
          refine gf_X10_46 X hP (k := 6) rfl dX10_stepOn_70 ?_
          refine zicmp_ge (tgt := 100) hx hb dX10_stepOn_73 (by decide) hf (fun hf => ?_) (fun hf => ?_)
          · refine lv_iconst (v := 1) hx hb dX10_stepOn_100 (by decide) ?_
            exact zret_i X hP hS hf rfl dX10_stepOn_101
          · refine lv_iload_n hx hb dX10_stepOn_76 rfl (lv_at hl 1 rfl) ?_
            refine lv_iconst (v := 1) hx hb dX10_stepOn_77 (by decide) ?_
            refine lv_iadd hx hb dX10_stepOn_78 ?_
            refine lv_bipush (v := 6) hx hb dX10_stepOn_79 (by decide) ?_
            refine zicmp_ge (tgt := 100) hx hb dX10_stepOn_81 (by decide) hf (fun hf => ?_) (fun hf => ?_)
            · refine lv_iconst (v := 1) hx hb dX10_stepOn_100 (by decide) ?_
              exact zret_i X hP hS hf rfl dX10_stepOn_101
            · refine lv_aload_n hx hb dX10_stepOn_84 rfl (lv_at hl 0 rfl) ?_
              refine gf_X10_30 X hP (k := 6) (q := 68) rfl dX10_stepOn_85 rfl ?_
              refine lv_iload_n hx hb dX10_stepOn_88 rfl (lv_at hl 1 rfl) ?_
              refine lv_iconst (v := 1) hx hb dX10_stepOn_89 (by decide) ?_
              refine lv_iadd hx hb dX10_stepOn_90 ?_
              refine lv_aload_n hx hb dX10_stepOn_91 rfl (lv_at hl 0 rfl) ?_
              refine gf_X10_39 X hP (k := 6) rfl dX10_stepOn_92 ?_
              refine lv_iload_n hx hb dX10_stepOn_95 rfl (lv_at hl 2 rfl) ?_
              refine lv_isub hx hb dX10_stepOn_96 ?_
              refine lv_iconst (v := 1) hx hb dX10_stepOn_97 (by decide) ?_
              refine lv_iadd hx hb dX10_stepOn_98 ?_
              obtain ⟨g3, hf⟩ := zgd hf
              refine zast_i X hP hS (k := 68) (n := 6) (rs := []) rfl g3 dX10_stepOn_99 (fun H locs hP hS => ?_)
              refine lv_iconst (v := 1) hx hb dX10_stepOn_100 (by decide) ?_
              exact zret_i X hP hS hf rfl dX10_stepOn_101
        · refine lv_iconst (v := 0) hx hb dX10_stepOn_54 (by decide) ?_
          exact zret_i X hP hS hf rfl dX10_stepOn_55
      have hc_43 : ∀ (x2 : Int32) (x3 : Int32) (t0 : Int32) (s1 : SS) (H : Heap) (locs : List Loc) (ls : Array Slot), lv_has ls 4 [(0, .ref (ad 6)), (2, .int x2), (3, .int x3)] → va_P D ZCL (zw Ox Nx cA ad s1) H → va_S A s.heap H locs → f_X10_stepOn_c43 (f_X10_stepOn_c6 n6) x2 x3 t0 s1 = some (rr, sr) → W p l e (zrm 0) s m args below meth c H locs 0 0 (MQ below (zQc Ox Nx cA ad D A (some (.int rr)) sr) args s 0 0 A) (F0 m 43 ls [.int t0]) := by
        intro x2 x3 t0 s1 H locs ls hl hP hS hf
        rw [f_X10_stepOn_c43] at hf
        refine lv_istore_n (lv' := [(1, .int t0), (0, .ref (ad 6)), (2, .int x2), (3, .int x3)]) hx hb dX10_stepOn_43 rfl hl (by decide) rfl (fun ls hl => ?_)
        refine lv_iinc (v := (x3 + 1)) (lv' := [(3, .int (x3 + 1)), (1, .int t0), (0, .ref (ad 6)), (2, .int x2)]) hx hb dX10_stepOn_44 hl (k := 3) rfl rfl (by decide) rfl (fun ls hl => ?_)
        refine lv_goto (tgt := 6) hx hb dX10_stepOn_47 (by decide) ?_
        exact ih6 t0 x2 (x3 + 1) s1 _ _ _ (lv_sub hl [2, 1, 3, 0] rfl) hP hS hf
      intro x1 x2 x3 s1 H locs ls hl hP hS hf
      rw [f_X10_stepOn_c6] at hf
      refine lv_iload_n hx hb dX10_stepOn_6 rfl (lv_at hl 3 rfl) ?_
      refine lv_aload_n hx hb dX10_stepOn_7 rfl (lv_at hl 0 rfl) ?_
      refine gf_X10_46 X hP (k := 6) rfl dX10_stepOn_8 ?_
      refine zicmp_ge (tgt := 50) hx hb dX10_stepOn_11 (by decide) hf (fun hf => ?_) (fun hf => ?_)
      · exact hc_50 x1 x2 s1 _ _ _ (lv_sub hl [0, 1, 2] rfl) hP hS hf
      · refine lv_iload_n hx hb dX10_stepOn_14 rfl (lv_at hl 3 rfl) ?_
        refine lv_bipush (v := 6) hx hb dX10_stepOn_15 (by decide) ?_
        refine zicmp_ge (tgt := 50) hx hb dX10_stepOn_17 (by decide) hf (fun hf => ?_) (fun hf => ?_)
        · exact hc_50 x1 x2 s1 _ _ _ (lv_sub hl [0, 1, 2] rfl) hP hS hf
        · refine lv_iload_n hx hb dX10_stepOn_20 rfl (lv_at hl 2 rfl) ?_
          refine lv_aload_n hx hb dX10_stepOn_21 rfl (lv_at hl 0 rfl) ?_
          refine gf_X10_30 X hP (k := 6) (q := 68) rfl dX10_stepOn_22 rfl ?_
          refine lv_iload_n hx hb dX10_stepOn_25 rfl (lv_at hl 3 rfl) ?_
          obtain ⟨g4, hf⟩ := zgd hf
          refine zald_i X hP (k := 68) (n := 6) (rs := []) rfl g4 dX10_stepOn_26 ?_
          refine lv_iadd hx hb dX10_stepOn_27 ?_
          refine lv_istore_n (lv' := [(2, .int (x2 + (s1.1 68 (x3).toNatClampNeg))), (0, .ref (ad 6)), (1, .int x1), (3, .int x3)]) hx hb dX10_stepOn_28 rfl hl (by decide) rfl (fun ls hl => ?_)
          refine lv_aload_n hx hb dX10_stepOn_29 rfl (lv_at hl 1 rfl) ?_
          refine gf_X10_30 X hP (k := 6) (q := 68) rfl dX10_stepOn_30 rfl ?_
          refine lv_iload_n hx hb dX10_stepOn_33 rfl (lv_at hl 3 rfl) ?_
          obtain ⟨g5, hf⟩ := zgd hf
          refine zald_i X hP (k := 68) (n := 6) (rs := []) rfl g5 dX10_stepOn_34 ?_
          refine zif_le (tgt := 42) hx hb dX10_stepOn_35 (by decide) hf (fun hf => ?_) (fun hf => ?_)
          · refine lv_iload_n hx hb dX10_stepOn_42 rfl (lv_at hl 2 rfl) ?_
            exact hc_43 (x2 + (s1.1 68 (x3).toNatClampNeg)) x3 x1 s1 _ _ _ (lv_sub hl [1, 0, 3] rfl) hP hS hf
          · refine lv_iload_n hx hb dX10_stepOn_38 rfl (lv_at hl 3 rfl) ?_
            refine lv_goto (tgt := 43) hx hb dX10_stepOn_39 (by decide) ?_
            exact hc_43 (x2 + (s1.1 68 (x3).toNatClampNeg)) x3 x3 s1 _ _ _ (lv_sub hl [1, 0, 3] rfl) hP hS hf
  rw [f_X10_stepOn] at hf
  refine lv_iconst (v := (-1)) hx hb dX10_stepOn_0 (by decide) ?_
  refine lv_istore_n (lv' := [(1, .int (-1)), (0, .ref (ad 6))]) hx hb dX10_stepOn_1 rfl hl (by decide) rfl (fun ls hl => ?_)
  refine lv_iconst (v := 0) hx hb dX10_stepOn_2 (by decide) ?_
  refine lv_istore_n (lv' := [(2, .int 0), (1, .int (-1)), (0, .ref (ad 6))]) hx hb dX10_stepOn_3 rfl hl (by decide) rfl (fun ls hl => ?_)
  refine lv_iconst (v := 0) hx hb dX10_stepOn_4 (by decide) ?_
  refine lv_istore_n (lv' := [(3, .int 0), (2, .int 0), (1, .int (-1)), (0, .ref (ad 6))]) hx hb dX10_stepOn_5 rfl hl (by decide) rfl (fun ls hl => ?_)
  exact hc_6 ZF (-1) 0 0 s0 _ _ _ (lv_sub hl [3, 2, 1, 0] rfl) hP hS hf
theorem dX10_orderBySize_0 : decode cX10_orderBySize 0 = .ok (.iconst 0, 1) := by decide +kernel
theorem dX10_orderBySize_1 : decode cX10_orderBySize 1 = .ok (.istore_n 1, 1) := by decide +kernel
theorem dX10_orderBySize_2 : decode cX10_orderBySize 2 = .ok (.iconst 0, 1) := by decide +kernel
theorem dX10_orderBySize_3 : decode cX10_orderBySize 3 = .ok (.istore_n 2, 1) := by decide +kernel
theorem dX10_orderBySize_4 : decode cX10_orderBySize 4 = .ok (.iload_n 2, 1) := by decide +kernel
theorem dX10_orderBySize_5 : decode cX10_orderBySize 5 = .ok (.iconst 5, 1) := by decide +kernel
theorem dX10_orderBySize_6 : decode cX10_orderBySize 6 = .ok (.if_icmp .gt 52, 3) := by decide +kernel
theorem dX10_orderBySize_9 : decode cX10_orderBySize 9 = .ok (.aload_n 0, 1) := by decide +kernel
theorem dX10_orderBySize_10 : decode cX10_orderBySize 10 = .ok (.getfield 27, 3) := by decide +kernel
theorem dX10_orderBySize_13 : decode cX10_orderBySize 13 = .ok (.iload_n 2, 1) := by decide +kernel
theorem dX10_orderBySize_14 : decode cX10_orderBySize 14 = .ok (.iload_n 1, 1) := by decide +kernel
theorem dX10_orderBySize_15 : decode cX10_orderBySize 15 = .ok (.iastore, 1) := by decide +kernel
theorem dX10_orderBySize_16 : decode cX10_orderBySize 16 = .ok (.iconst 0, 1) := by decide +kernel
theorem dX10_orderBySize_17 : decode cX10_orderBySize 17 = .ok (.istore_n 3, 1) := by decide +kernel
theorem dX10_orderBySize_18 : decode cX10_orderBySize 18 = .ok (.iload_n 3, 1) := by decide +kernel
theorem dX10_orderBySize_19 : decode cX10_orderBySize 19 = .ok (.aload_n 0, 1) := by decide +kernel
theorem dX10_orderBySize_20 : decode cX10_orderBySize 20 = .ok (.getfield 49, 3) := by decide +kernel
theorem dX10_orderBySize_23 : decode cX10_orderBySize 23 = .ok (.if_icmp .ge 29, 3) := by decide +kernel
theorem dX10_orderBySize_26 : decode cX10_orderBySize 26 = .ok (.aload_n 0, 1) := by decide +kernel
theorem dX10_orderBySize_27 : decode cX10_orderBySize 27 = .ok (.getfield 13, 3) := by decide +kernel
theorem dX10_orderBySize_30 : decode cX10_orderBySize 30 = .ok (.iload_n 3, 1) := by decide +kernel
theorem dX10_orderBySize_31 : decode cX10_orderBySize 31 = .ok (.iaload, 1) := by decide +kernel
theorem dX10_orderBySize_32 : decode cX10_orderBySize 32 = .ok (.iload_n 2, 1) := by decide +kernel
theorem dX10_orderBySize_33 : decode cX10_orderBySize 33 = .ok (.if_icmp .ne 13, 3) := by decide +kernel
theorem dX10_orderBySize_36 : decode cX10_orderBySize 36 = .ok (.aload_n 0, 1) := by decide +kernel
theorem dX10_orderBySize_37 : decode cX10_orderBySize 37 = .ok (.getfield 24, 3) := by decide +kernel
theorem dX10_orderBySize_40 : decode cX10_orderBySize 40 = .ok (.iload_n 1, 1) := by decide +kernel
theorem dX10_orderBySize_41 : decode cX10_orderBySize 41 = .ok (.iload_n 3, 1) := by decide +kernel
theorem dX10_orderBySize_42 : decode cX10_orderBySize 42 = .ok (.iastore, 1) := by decide +kernel
theorem dX10_orderBySize_43 : decode cX10_orderBySize 43 = .ok (.iinc 1 1, 3) := by decide +kernel
theorem dX10_orderBySize_46 : decode cX10_orderBySize 46 = .ok (.iinc 3 1, 3) := by decide +kernel
theorem dX10_orderBySize_49 : decode cX10_orderBySize 49 = .ok (.goto (-31), 3) := by decide +kernel
theorem dX10_orderBySize_52 : decode cX10_orderBySize 52 = .ok (.iinc 2 1, 3) := by decide +kernel
theorem dX10_orderBySize_55 : decode cX10_orderBySize 55 = .ok (.goto (-51), 3) := by decide +kernel
theorem dX10_orderBySize_58 : decode cX10_orderBySize 58 = .ok (.aload_n 0, 1) := by decide +kernel
theorem dX10_orderBySize_59 : decode cX10_orderBySize 59 = .ok (.getfield 27, 3) := by decide +kernel
theorem dX10_orderBySize_62 : decode cX10_orderBySize 62 = .ok (.bipush 6, 2) := by decide +kernel
theorem dX10_orderBySize_64 : decode cX10_orderBySize 64 = .ok (.iload_n 1, 1) := by decide +kernel
theorem dX10_orderBySize_65 : decode cX10_orderBySize 65 = .ok (.iastore, 1) := by decide +kernel
theorem dX10_orderBySize_66 : decode cX10_orderBySize 66 = .ok (.return_, 1) := by decide +kernel
set_option maxHeartbeats 4000000 in
set_option maxRecDepth 100000 in
theorem cn_X10_orderBySize {l : Launch} {cA : Nat → ClassId} {ad : Nat → Nat} {D : va_G} {E : Nat → Nat} {A : Nat → Prop}  {s0 sr : SS} {rr : Unit} (hf : f_X10_orderBySize s0 = some (rr, sr)) : zCon Ox Nx cA ad D E l yX10_orderBySize cX10_orderBySize 4 none 0 A [.ref (ad 6)] s0 none sr := by
  refine zstart (own := RX10) hOx (by decide) rfl (Nat.le_of_ble_eq_true rfl) ?_
  intro p e s m args below meth c X hP ls hl
  have hx := X.1
  have hb := X.2.1
  have hl : lv_has ls 4 [(0, .ref (ad 6))] := hl
  have hS : va_S A s.heap s.heap [] := va_S.rf
  have hc_4 : ∀ (n4 : Nat) (x1 : Int32) (x2 : Int32) (s1 : SS) (H : Heap) (locs : List Loc) (ls : Array Slot), lv_has ls 4 [(0, .ref (ad 6)), (1, .int x1), (2, .int x2)] → va_P D ZCL (zw Ox Nx cA ad s1) H → va_S A s.heap H locs → f_X10_orderBySize_c4 n4 x1 x2 s1 = some (rr, sr) → W p l e (zrm 0) s m args below meth c H locs 0 0 (MQ below (zQc Ox Nx cA ad D A none sr) args s 0 0 A) (F0 m 4 ls []) := by
    intro n4
    induction n4 with
    | zero =>
      intro x1 x2 s1 H locs ls hl hP hS hf
      rw [f_X10_orderBySize_c4] at hf
      cases hf
    | succ n4 ih4 =>
      have hc_18 : ∀ (n18 : Nat) (x1 : Int32) (x2 : Int32) (x3 : Int32) (s1 : SS) (H : Heap) (locs : List Loc) (ls : Array Slot), lv_has ls 4 [(0, .ref (ad 6)), (1, .int x1), (2, .int x2), (3, .int x3)] → va_P D ZCL (zw Ox Nx cA ad s1) H → va_S A s.heap H locs → f_X10_orderBySize_c18 (f_X10_orderBySize_c4 n4) n18 x1 x2 x3 s1 = some (rr, sr) → W p l e (zrm 0) s m args below meth c H locs 0 0 (MQ below (zQc Ox Nx cA ad D A none sr) args s 0 0 A) (F0 m 18 ls []) := by
        intro n18
        induction n18 with
        | zero =>
          intro x1 x2 x3 s1 H locs ls hl hP hS hf
          rw [f_X10_orderBySize_c18] at hf
          cases hf
        | succ n18 ih18 =>
          have hc_46 : ∀ (x1 : Int32) (x2 : Int32) (x3 : Int32) (s1 : SS) (H : Heap) (locs : List Loc) (ls : Array Slot), lv_has ls 4 [(0, .ref (ad 6)), (1, .int x1), (2, .int x2), (3, .int x3)] → va_P D ZCL (zw Ox Nx cA ad s1) H → va_S A s.heap H locs → f_X10_orderBySize_c46 (f_X10_orderBySize_c18 (f_X10_orderBySize_c4 n4) n18) (f_X10_orderBySize_c4 n4) x1 x2 x3 s1 = some (rr, sr) → W p l e (zrm 0) s m args below meth c H locs 0 0 (MQ below (zQc Ox Nx cA ad D A none sr) args s 0 0 A) (F0 m 46 ls []) := by
            intro x1 x2 x3 s1 H locs ls hl hP hS hf
            rw [f_X10_orderBySize_c46] at hf
            refine lv_iinc (v := (x3 + 1)) (lv' := [(3, .int (x3 + 1)), (0, .ref (ad 6)), (1, .int x1), (2, .int x2)]) hx hb dX10_orderBySize_46 hl (k := 3) rfl rfl (by decide) rfl (fun ls hl => ?_)
            refine lv_goto (tgt := 18) hx hb dX10_orderBySize_49 (by decide) ?_
            exact ih18 x1 x2 (x3 + 1) s1 _ _ _ (lv_sub hl [1, 2, 3, 0] rfl) hP hS hf
          intro x1 x2 x3 s1 H locs ls hl hP hS hf
          rw [f_X10_orderBySize_c18] at hf
          refine lv_iload_n hx hb dX10_orderBySize_18 rfl (lv_at hl 3 rfl) ?_
          refine lv_aload_n hx hb dX10_orderBySize_19 rfl (lv_at hl 0 rfl) ?_
          refine gf_X10_49 X hP (k := 6) rfl dX10_orderBySize_20 ?_
          refine zicmp_ge (tgt := 52) hx hb dX10_orderBySize_23 (by decide) hf (fun hf => ?_) (fun hf => ?_)
          · refine lv_iinc (v := (x2 + 1)) (lv' := [(2, .int (x2 + 1)), (0, .ref (ad 6)), (1, .int x1), (3, .int x3)]) hx hb dX10_orderBySize_52 hl (k := 2) rfl rfl (by decide) rfl (fun ls hl => ?_)
            refine lv_goto (tgt := 4) hx hb dX10_orderBySize_55 (by decide) ?_
            exact ih4 x1 (x2 + 1) s1 _ _ _ (lv_sub hl [1, 2, 0] rfl) hP hS hf
          · refine lv_aload_n hx hb dX10_orderBySize_26 rfl (lv_at hl 0 rfl) ?_
            refine gf_X10_13 X hP (k := 6) (q := 63) rfl dX10_orderBySize_27 rfl ?_
            refine lv_iload_n hx hb dX10_orderBySize_30 rfl (lv_at hl 3 rfl) ?_
            obtain ⟨g3, hf⟩ := zgd hf
            refine zald_i X hP (k := 63) (n := 462) (rs := []) rfl g3 dX10_orderBySize_31 ?_
            refine lv_iload_n hx hb dX10_orderBySize_32 rfl (lv_at hl 2 rfl) ?_
            refine zicmp_ne (tgt := 46) hx hb dX10_orderBySize_33 (by decide) hf (fun hf => ?_) (fun hf => ?_)
            · exact hc_46 x1 x2 x3 s1 _ _ _ (lv_sub hl [0, 1, 2, 3] rfl) hP hS hf
            · refine lv_aload_n hx hb dX10_orderBySize_36 rfl (lv_at hl 0 rfl) ?_
              refine gf_X10_24 X hP (k := 6) (q := 66) rfl dX10_orderBySize_37 rfl ?_
              refine lv_iload_n hx hb dX10_orderBySize_40 rfl (lv_at hl 1 rfl) ?_
              refine lv_iload_n hx hb dX10_orderBySize_41 rfl (lv_at hl 3 rfl) ?_
              obtain ⟨g4, hf⟩ := zgd hf
              refine zast_i X hP hS (k := 66) (n := 462) (rs := []) rfl g4 dX10_orderBySize_42 (fun H locs hP hS => ?_)
              refine lv_iinc (v := (x1 + 1)) (lv' := [(1, .int (x1 + 1)), (0, .ref (ad 6)), (2, .int x2), (3, .int x3)]) hx hb dX10_orderBySize_43 hl (k := 1) rfl rfl (by decide) rfl (fun ls hl => ?_)
              exact hc_46 (x1 + 1) x2 x3 (zS s1 66 (x1).toNatClampNeg x3) _ _ _ (lv_sub hl [1, 0, 2, 3] rfl) hP hS hf
      intro x1 x2 s1 H locs ls hl hP hS hf
      rw [f_X10_orderBySize_c4] at hf
      refine lv_iload_n hx hb dX10_orderBySize_4 rfl (lv_at hl 2 rfl) ?_
      refine lv_iconst (v := 5) hx hb dX10_orderBySize_5 (by decide) ?_
      refine zicmp_gt (tgt := 58) hx hb dX10_orderBySize_6 (by decide) hf (fun hf => ?_) (fun hf => ?_)
      · refine lv_aload_n hx hb dX10_orderBySize_58 rfl (lv_at hl 0 rfl) ?_
        refine gf_X10_27 X hP (k := 6) (q := 67) rfl dX10_orderBySize_59 rfl ?_
        refine lv_bipush (v := 6) hx hb dX10_orderBySize_62 (by decide) ?_
        refine lv_iload_n hx hb dX10_orderBySize_64 rfl (lv_at hl 1 rfl) ?_
        obtain ⟨g1, hf⟩ := zgd hf
        refine zast_i X hP hS (k := 67) (n := 7) (rs := []) rfl g1 dX10_orderBySize_65 (fun H locs hP hS => ?_)
        exact zret_v X hP hS hf dX10_orderBySize_66
      · refine lv_aload_n hx hb dX10_orderBySize_9 rfl (lv_at hl 0 rfl) ?_
        refine gf_X10_27 X hP (k := 6) (q := 67) rfl dX10_orderBySize_10 rfl ?_
        refine lv_iload_n hx hb dX10_orderBySize_13 rfl (lv_at hl 2 rfl) ?_
        refine lv_iload_n hx hb dX10_orderBySize_14 rfl (lv_at hl 1 rfl) ?_
        obtain ⟨g2, hf⟩ := zgd hf
        refine zast_i X hP hS (k := 67) (n := 7) (rs := []) rfl g2 dX10_orderBySize_15 (fun H locs hP hS => ?_)
        refine lv_iconst (v := 0) hx hb dX10_orderBySize_16 (by decide) ?_
        refine lv_istore_n (lv' := [(3, .int 0), (0, .ref (ad 6)), (1, .int x1), (2, .int x2)]) hx hb dX10_orderBySize_17 rfl hl (by decide) rfl (fun ls hl => ?_)
        exact hc_18 ZF x1 x2 0 (zS s1 67 (x2).toNatClampNeg x1) _ _ _ (lv_sub hl [1, 2, 3, 0] rfl) hP hS hf
  rw [f_X10_orderBySize] at hf
  refine lv_iconst (v := 0) hx hb dX10_orderBySize_0 (by decide) ?_
  refine lv_istore_n (lv' := [(1, .int 0), (0, .ref (ad 6))]) hx hb dX10_orderBySize_1 rfl hl (by decide) rfl (fun ls hl => ?_)
  refine lv_iconst (v := 0) hx hb dX10_orderBySize_2 (by decide) ?_
  refine lv_istore_n (lv' := [(2, .int 0), (1, .int 0), (0, .ref (ad 6))]) hx hb dX10_orderBySize_3 rfl hl (by decide) rfl (fun ls hl => ?_)
  exact hc_4 ZF 0 0 s0 _ _ _ (lv_sub hl [2, 1, 0] rfl) hP hS hf
theorem dX10_layOut_0 : decode cX10_layOut 0 = .ok (.aload_n 0, 1) := by decide +kernel
theorem dX10_layOut_1 : decode cX10_layOut 1 = .ok (.aload_n 1, 1) := by decide +kernel
theorem dX10_layOut_2 : decode cX10_layOut 2 = .ok (.invokevirtual 33, 3) := by decide +kernel
theorem dX10_layOut_5 : decode cX10_layOut 5 = .ok (.putfield 39, 3) := by decide +kernel
theorem dX10_layOut_8 : decode cX10_layOut 8 = .ok (.aload_n 0, 1) := by decide +kernel
theorem dX10_layOut_9 : decode cX10_layOut 9 = .ok (.aload_n 1, 1) := by decide +kernel
theorem dX10_layOut_10 : decode cX10_layOut 10 = .ok (.invokevirtual 43, 3) := by decide +kernel
theorem dX10_layOut_13 : decode cX10_layOut 13 = .ok (.putfield 46, 3) := by decide +kernel
theorem dX10_layOut_16 : decode cX10_layOut 16 = .ok (.aload_n 0, 1) := by decide +kernel
theorem dX10_layOut_17 : decode cX10_layOut 17 = .ok (.iconst 0, 1) := by decide +kernel
theorem dX10_layOut_18 : decode cX10_layOut 18 = .ok (.putfield 49, 3) := by decide +kernel
theorem dX10_layOut_21 : decode cX10_layOut 21 = .ok (.aload_n 0, 1) := by decide +kernel
theorem dX10_layOut_22 : decode cX10_layOut 22 = .ok (.getfield 30, 3) := by decide +kernel
theorem dX10_layOut_25 : decode cX10_layOut 25 = .ok (.iconst 0, 1) := by decide +kernel
theorem dX10_layOut_26 : decode cX10_layOut 26 = .ok (.invokestatic 52, 3) := by decide +kernel
theorem dX10_layOut_29 : decode cX10_layOut 29 = .ok (.aload_n 0, 1) := by decide +kernel
theorem dX10_layOut_30 : decode cX10_layOut 30 = .ok (.getfield 30, 3) := by decide +kernel
theorem dX10_layOut_33 : decode cX10_layOut 33 = .ok (.iconst 0, 1) := by decide +kernel
theorem dX10_layOut_34 : decode cX10_layOut 34 = .ok (.aload_n 0, 1) := by decide +kernel
theorem dX10_layOut_35 : decode cX10_layOut 35 = .ok (.getfield 39, 3) := by decide +kernel
theorem dX10_layOut_38 : decode cX10_layOut 38 = .ok (.iastore, 1) := by decide +kernel
theorem dX10_layOut_39 : decode cX10_layOut 39 = .ok (.iconst 1, 1) := by decide +kernel
theorem dX10_layOut_40 : decode cX10_layOut 40 = .ok (.istore_n 2, 1) := by decide +kernel
theorem dX10_layOut_41 : decode cX10_layOut 41 = .ok (.iconst 0, 1) := by decide +kernel
theorem dX10_layOut_42 : decode cX10_layOut 42 = .ok (.istore_n 3, 1) := by decide +kernel
theorem dX10_layOut_43 : decode cX10_layOut 43 = .ok (.iload_n 3, 1) := by decide +kernel
theorem dX10_layOut_44 : decode cX10_layOut 44 = .ok (.sipush 462, 3) := by decide +kernel
theorem dX10_layOut_47 : decode cX10_layOut 47 = .ok (.if_icmp .ge 23, 3) := by decide +kernel
theorem dX10_layOut_50 : decode cX10_layOut 50 = .ok (.iload_n 2, 1) := by decide +kernel
theorem dX10_layOut_51 : decode cX10_layOut 51 = .ok (.ifCond .eq 19, 3) := by decide +kernel
theorem dX10_layOut_54 : decode cX10_layOut 54 = .ok (.aload_n 0, 1) := by decide +kernel
theorem dX10_layOut_55 : decode cX10_layOut 55 = .ok (.aload_n 1, 1) := by decide +kernel
theorem dX10_layOut_56 : decode cX10_layOut 56 = .ok (.invokevirtual 58, 3) := by decide +kernel
theorem dX10_layOut_59 : decode cX10_layOut 59 = .ok (.aload_n 0, 1) := by decide +kernel
theorem dX10_layOut_60 : decode cX10_layOut 60 = .ok (.invokevirtual 62, 3) := by decide +kernel
theorem dX10_layOut_63 : decode cX10_layOut 63 = .ok (.istore_n 2, 1) := by decide +kernel
theorem dX10_layOut_64 : decode cX10_layOut 64 = .ok (.iinc 3 1, 3) := by decide +kernel
theorem dX10_layOut_67 : decode cX10_layOut 67 = .ok (.goto (-24), 3) := by decide +kernel
theorem dX10_layOut_70 : decode cX10_layOut 70 = .ok (.aload_n 0, 1) := by decide +kernel
theorem dX10_layOut_71 : decode cX10_layOut 71 = .ok (.invokevirtual 66, 3) := by decide +kernel
theorem dX10_layOut_74 : decode cX10_layOut 74 = .ok (.return_, 1) := by decide +kernel
set_option maxHeartbeats 4000000 in
set_option maxRecDepth 100000 in
theorem cn_X10_layOut {l : Launch} {cA : Nat → ClassId} {ad : Nat → Nat} {D : va_G} {E : Nat → Nat} {A : Nat → Prop} {k1 : Nat} {s0 sr : SS} {rr : Unit} (hf : f_X10_layOut k1 s0 = some (rr, sr)) : zCon Ox Nx cA ad D E l yX10_layOut cX10_layOut 4 none 4 A [.ref (ad 6), .ref (ad k1)] s0 none sr := by
  refine zstart (own := RX10) hOx (by decide) rfl (Nat.le_of_ble_eq_true rfl) ?_
  intro p e s m args below meth c X hP ls hl
  have hx := X.1
  have hb := X.2.1
  have hl : lv_has ls 4 [(0, .ref (ad 6)), (1, .ref (ad k1))] := hl
  have hS : va_S A s.heap s.heap [] := va_S.rf
  have hc_43 : ∀ (n43 : Nat) (k1 : Nat) (x2 : Int32) (x3 : Int32) (s1 : SS) (H : Heap) (locs : List Loc) (ls : Array Slot), lv_has ls 4 [(0, .ref (ad 6)), (1, .ref (ad k1)), (2, .int x2), (3, .int x3)] → va_P D ZCL (zw Ox Nx cA ad s1) H → va_S A s.heap H locs → f_X10_layOut_c43 n43 k1 x2 x3 s1 = some (rr, sr) → W p l e (zrm 4) s m args below meth c H locs 0 0 (MQ below (zQc Ox Nx cA ad D A none sr) args s 0 0 A) (F0 m 43 ls []) := by
    intro n43
    induction n43 with
    | zero =>
      intro k1 x2 x3 s1 H locs ls hl hP hS hf
      rw [f_X10_layOut_c43] at hf
      cases hf
    | succ n43 ih43 =>
      have hc_70 : ∀  (s1 : SS) (H : Heap) (locs : List Loc) (ls : Array Slot), lv_has ls 4 [(0, .ref (ad 6))] → va_P D ZCL (zw Ox Nx cA ad s1) H → va_S A s.heap H locs → f_X10_layOut_c70  s1 = some (rr, sr) → W p l e (zrm 4) s m args below meth c H locs 0 0 (MQ below (zQc Ox Nx cA ad D A none sr) args s 0 0 A) (F0 m 70 ls []) := by
        intro  s1 H locs ls hl hP hS hf
        rw [f_X10_layOut_c70] at hf
        refine lv_aload_n hx hb dX10_layOut_70 rfl (lv_at hl 0 rfl) ?_
        obtain ⟨r11, s12, h13, hf⟩ := zbd_some hf
        refine zcallV X hP hS hl.1 (k := 6) (As := []) (rest := []) (cn_X10_orderBySize h13) cw_X10_orderBySize zp_10 rfl (by decide) rfl ml_X10_66 (by decide) rfl rfl (Nat.le_of_ble_eq_true rfl) dX10_layOut_71 (fun H locs hP hS => ?_)
        exact zret_v X hP hS hf dX10_layOut_74
      intro k1 x2 x3 s1 H locs ls hl hP hS hf
      rw [f_X10_layOut_c43] at hf
      obtain ⟨gp1, hf⟩ := zgd hf
      refine lv_iload_n hx hb dX10_layOut_43 rfl (lv_at hl 3 rfl) ?_
      refine lv_sipush (v := 462) hx hb dX10_layOut_44 (by decide) ?_
      refine zicmp_ge (tgt := 70) hx hb dX10_layOut_47 (by decide) hf (fun hf => ?_) (fun hf => ?_)
      · exact hc_70  s1 _ _ _ (lv_sub hl [0] rfl) hP hS hf
      · refine lv_iload_n hx hb dX10_layOut_50 rfl (lv_at hl 2 rfl) ?_
        refine zif_eq (tgt := 70) hx hb dX10_layOut_51 (by decide) hf (fun hf => ?_) (fun hf => ?_)
        · exact hc_70  s1 _ _ _ (lv_sub hl [0] rfl) hP hS hf
        · refine lv_aload_n hx hb dX10_layOut_54 rfl (lv_at hl 0 rfl) ?_
          refine lv_aload_n hx hb dX10_layOut_55 rfl (lv_at hl 1 rfl) ?_
          obtain ⟨r14, s15, h16, hf⟩ := zbd_some hf
          refine zcallV X hP hS hl.1 (k := 6) (As := [.ref (ad k1)]) (rest := []) (cn_X10_addTerm h16) cw_X10_addTerm zp_10 rfl (by decide) rfl ml_X10_58 (by decide) rfl rfl (Nat.le_of_ble_eq_true rfl) dX10_layOut_56 (fun H locs hP hS => ?_)
          refine lv_aload_n hx hb dX10_layOut_59 rfl (lv_at hl 0 rfl) ?_
          obtain ⟨r17, s18, h19, hf⟩ := zbd_some hf
          refine zcallV X hP hS hl.1 (k := 6) (As := []) (rest := []) (cn_X10_stepOn h19) cw_X10_stepOn zp_10 rfl (by decide) rfl ml_X10_62 (by decide) rfl rfl (Nat.le_of_ble_eq_true rfl) dX10_layOut_60 (fun H locs hP hS => ?_)
          refine lv_istore_n (lv' := [(2, .int r17), (0, .ref (ad 6)), (1, .ref (ad k1)), (3, .int x3)]) hx hb dX10_layOut_63 rfl hl (by decide) rfl (fun ls hl => ?_)
          refine lv_iinc (v := (x3 + 1)) (lv' := [(3, .int (x3 + 1)), (2, .int r17), (0, .ref (ad 6)), (1, .ref (ad k1))]) hx hb dX10_layOut_64 hl (k := 3) rfl rfl (by decide) rfl (fun ls hl => ?_)
          refine lv_goto (tgt := 43) hx hb dX10_layOut_67 (by decide) ?_
          exact ih43 k1 r17 (x3 + 1) s18 _ _ _ (lv_sub hl [2, 3, 1, 0] rfl) hP hS hf
  rw [f_X10_layOut] at hf
  obtain ⟨gp1, hf⟩ := zgd hf
  refine lv_aload_n hx hb dX10_layOut_0 rfl (lv_at hl 0 rfl) ?_
  refine lv_aload_n hx hb dX10_layOut_1 rfl (lv_at hl 1 rfl) ?_
  obtain ⟨r1, s2, h3, hf⟩ := zbd_some hf
  refine zcallV X hP hS hl.1 (k := k1) (As := []) (rest := [.ref (ad 6)]) (cn_X7_dimension h3) cw_X7_dimension zp_7 gp1 (by decide) rfl ml_X10_33 (by decide) rfl rfl (Nat.le_of_ble_eq_true rfl) dX10_layOut_2 (fun H locs hP hS => ?_)
  refine pf_X10_39 X hP hS (k := 6) rfl dX10_layOut_5 (fun H locs hP hS => ?_)
  refine lv_aload_n hx hb dX10_layOut_8 rfl (lv_at hl 0 rfl) ?_
  refine lv_aload_n hx hb dX10_layOut_9 rfl (lv_at hl 1 rfl) ?_
  obtain ⟨r4, s5, h6, hf⟩ := zbd_some hf
  refine zcallV X hP hS hl.1 (k := k1) (As := []) (rest := [.ref (ad 6)]) (cn_X7_letterCount h6) cw_X7_letterCount zp_7 gp1 (by decide) rfl ml_X10_43 (by decide) rfl rfl (Nat.le_of_ble_eq_true rfl) dX10_layOut_10 (fun H locs hP hS => ?_)
  refine pf_X10_46 X hP hS (k := 6) rfl dX10_layOut_13 (fun H locs hP hS => ?_)
  refine lv_aload_n hx hb dX10_layOut_16 rfl (lv_at hl 0 rfl) ?_
  refine lv_iconst (v := 0) hx hb dX10_layOut_17 (by decide) ?_
  refine pf_X10_49 X hP hS (k := 6) rfl dX10_layOut_18 (fun H locs hP hS => ?_)
  refine lv_aload_n hx hb dX10_layOut_21 rfl (lv_at hl 0 rfl) ?_
  refine gf_X10_30 X hP (k := 6) (q := 68) rfl dX10_layOut_22 rfl ?_
  refine lv_iconst (v := 0) hx hb dX10_layOut_25 (by decide) ?_
  obtain ⟨r7, s8, h9, hf⟩ := zbd_some hf
  refine zcallS X hP hS hl.1 (As := [.ref (ad 68), .int 0]) (rest := []) (cn_J7_fill_53178 hOx h9) cw_J7_fill_53178 ml_X10_52 (by decide) rfl rfl (Nat.le_of_ble_eq_true rfl) dX10_layOut_26 (fun H locs hP hS => ?_)
  refine lv_aload_n hx hb dX10_layOut_29 rfl (lv_at hl 0 rfl) ?_
  refine gf_X10_30 X hP (k := 6) (q := 68) rfl dX10_layOut_30 rfl ?_
  refine lv_iconst (v := 0) hx hb dX10_layOut_33 (by decide) ?_
  refine lv_aload_n hx hb dX10_layOut_34 rfl (lv_at hl 0 rfl) ?_
  refine gf_X10_39 X hP (k := 6) rfl dX10_layOut_35 ?_
  obtain ⟨g10, hf⟩ := zgd hf
  refine zast_i X hP hS (k := 68) (n := 6) (rs := []) rfl g10 dX10_layOut_38 (fun H locs hP hS => ?_)
  refine lv_iconst (v := 1) hx hb dX10_layOut_39 (by decide) ?_
  refine lv_istore_n (lv' := [(2, .int 1), (0, .ref (ad 6)), (1, .ref (ad k1))]) hx hb dX10_layOut_40 rfl hl (by decide) rfl (fun ls hl => ?_)
  refine lv_iconst (v := 0) hx hb dX10_layOut_41 (by decide) ?_
  refine lv_istore_n (lv' := [(3, .int 0), (2, .int 1), (0, .ref (ad 6)), (1, .ref (ad k1))]) hx hb dX10_layOut_42 rfl hl (by decide) rfl (fun ls hl => ?_)
  exact hc_43 ZF k1 1 0 (zS s8 68 ((0 : Int32)).toNatClampNeg (s8.1 6 0)) _ _ _ (lv_sub hl [2, 3, 1, 0] rfl) hP hS hf
theorem dX11_makeAnew_0 : decode cX11_makeAnew 0 = .ok (.aload_n 0, 1) := by decide +kernel
theorem dX11_makeAnew_1 : decode cX11_makeAnew 1 = .ok (.getfield 12, 3) := by decide +kernel
theorem dX11_makeAnew_4 : decode cX11_makeAnew 4 = .ok (.getfield 74, 3) := by decide +kernel
theorem dX11_makeAnew_7 : decode cX11_makeAnew 7 = .ok (.iload_n 1, 1) := by decide +kernel
theorem dX11_makeAnew_8 : decode cX11_makeAnew 8 = .ok (.iload_n 2, 1) := by decide +kernel
theorem dX11_makeAnew_9 : decode cX11_makeAnew 9 = .ok (.iload_n 3, 1) := by decide +kernel
theorem dX11_makeAnew_10 : decode cX11_makeAnew 10 = .ok (.iload 4, 2) := by decide +kernel
theorem dX11_makeAnew_12 : decode cX11_makeAnew 12 = .ok (.invokevirtual 78, 3) := by decide +kernel
theorem dX11_makeAnew_15 : decode cX11_makeAnew 15 = .ok (.aload_n 0, 1) := by decide +kernel
theorem dX11_makeAnew_16 : decode cX11_makeAnew 16 = .ok (.getfield 12, 3) := by decide +kernel
theorem dX11_makeAnew_19 : decode cX11_makeAnew 19 = .ok (.iconst 0, 1) := by decide +kernel
theorem dX11_makeAnew_20 : decode cX11_makeAnew 20 = .ok (.putfield 141, 3) := by decide +kernel
theorem dX11_makeAnew_23 : decode cX11_makeAnew 23 = .ok (.aload_n 0, 1) := by decide +kernel
theorem dX11_makeAnew_24 : decode cX11_makeAnew 24 = .ok (.getfield 28, 3) := by decide +kernel
theorem dX11_makeAnew_27 : decode cX11_makeAnew 27 = .ok (.getfield 84, 3) := by decide +kernel
theorem dX11_makeAnew_30 : decode cX11_makeAnew 30 = .ok (.aload_n 0, 1) := by decide +kernel
theorem dX11_makeAnew_31 : decode cX11_makeAnew 31 = .ok (.getfield 12, 3) := by decide +kernel
theorem dX11_makeAnew_34 : decode cX11_makeAnew 34 = .ok (.getfield 74, 3) := by decide +kernel
theorem dX11_makeAnew_37 : decode cX11_makeAnew 37 = .ok (.invokevirtual 88, 3) := by decide +kernel
theorem dX11_makeAnew_40 : decode cX11_makeAnew 40 = .ok (.aload_n 0, 1) := by decide +kernel
theorem dX11_makeAnew_41 : decode cX11_makeAnew 41 = .ok (.getfield 35, 3) := by decide +kernel
theorem dX11_makeAnew_44 : decode cX11_makeAnew 44 = .ok (.invokevirtual 142, 3) := by decide +kernel
theorem dX11_makeAnew_47 : decode cX11_makeAnew 47 = .ok (.aload_n 0, 1) := by decide +kernel
theorem dX11_makeAnew_48 : decode cX11_makeAnew 48 = .ok (.getfield 12, 3) := by decide +kernel
theorem dX11_makeAnew_51 : decode cX11_makeAnew 51 = .ok (.getfield 74, 3) := by decide +kernel
theorem dX11_makeAnew_54 : decode cX11_makeAnew 54 = .ok (.invokevirtual 115, 3) := by decide +kernel
theorem dX11_makeAnew_57 : decode cX11_makeAnew 57 = .ok (.ireturn, 1) := by decide +kernel
set_option maxHeartbeats 4000000 in
set_option maxRecDepth 100000 in
theorem cn_X11_makeAnew {l : Launch} {cA : Nat → ClassId} {ad : Nat → Nat} {D : va_G} {E : Nat → Nat} {A : Nat → Prop} {x1 : Int32} {x2 : Int32} {x3 : Int32} {x4 : Int32} {s0 sr : SS} {rr : Int32} (hf : f_X11_makeAnew x1 x2 x3 x4 s0 = some (rr, sr)) : zCon Ox Nx cA ad D E l yX11_makeAnew cX11_makeAnew 5 (some .int) 5 A [.ref (ad 0), .int x1, .int x2, .int x3, .int x4] s0 (some (.int rr)) sr := by
  refine zstart (own := RX11) hOx (by decide) rfl (Nat.le_of_ble_eq_true rfl) ?_
  intro p e s m args below meth c X hP ls hl
  have hx := X.1
  have hb := X.2.1
  have hl : lv_has ls 5 [(0, .ref (ad 0)), (1, .int x1), (2, .int x2), (3, .int x3), (4, .int x4)] := hl
  have hS : va_S A s.heap s.heap [] := va_S.rf
  rw [f_X11_makeAnew] at hf
  refine lv_aload_n hx hb dX11_makeAnew_0 rfl (lv_at hl 0 rfl) ?_
  refine gf_X11_12 X hP (k := 0) (q := 1) rfl dX11_makeAnew_1 rfl ?_
  refine gf_X11_74 X hP (k := 1) (q := 3) rfl dX11_makeAnew_4 rfl ?_
  refine lv_iload_n hx hb dX11_makeAnew_7 rfl (lv_at hl 1 rfl) ?_
  refine lv_iload_n hx hb dX11_makeAnew_8 rfl (lv_at hl 2 rfl) ?_
  refine lv_iload_n hx hb dX11_makeAnew_9 rfl (lv_at hl 3 rfl) ?_
  refine lv_iload hx hb dX11_makeAnew_10 (lv_at hl 4 rfl) ?_
  obtain ⟨r1, s2, h3, hf⟩ := zbd_some hf
  refine zcallV X hP hS hl.1 (k := 3) (As := [.int x1, .int x2, .int x3, .int x4]) (rest := []) (cn_X7_become h3) cw_X7_become zp_7 rfl (by decide) rfl ml_X11_78 (by decide) rfl rfl (Nat.le_of_ble_eq_true rfl) dX11_makeAnew_12 (fun H locs hP hS => ?_)
  refine lv_aload_n hx hb dX11_makeAnew_15 rfl (lv_at hl 0 rfl) ?_
  refine gf_X11_12 X hP (k := 0) (q := 1) rfl dX11_makeAnew_16 rfl ?_
  refine lv_iconst (v := 0) hx hb dX11_makeAnew_19 (by decide) ?_
  refine pf_X11_141 X hP hS (k := 1) rfl dX11_makeAnew_20 (fun H locs hP hS => ?_)
  refine lv_aload_n hx hb dX11_makeAnew_23 rfl (lv_at hl 0 rfl) ?_
  refine gf_X11_28 X hP (k := 0) (q := 5) rfl dX11_makeAnew_24 rfl ?_
  refine gf_X11_84 X hP (k := 5) (q := 6) rfl dX11_makeAnew_27 rfl ?_
  refine lv_aload_n hx hb dX11_makeAnew_30 rfl (lv_at hl 0 rfl) ?_
  refine gf_X11_12 X hP (k := 0) (q := 1) rfl dX11_makeAnew_31 rfl ?_
  refine gf_X11_74 X hP (k := 1) (q := 3) rfl dX11_makeAnew_34 rfl ?_
  obtain ⟨r4, s5, h6, hf⟩ := zbd_some hf
  refine zcallV X hP hS hl.1 (k := 6) (As := [.ref (ad 3)]) (rest := []) (cn_X10_layOut h6) cw_X10_layOut zp_10 rfl (by decide) rfl ml_X11_88 (by decide) rfl rfl (Nat.le_of_ble_eq_true rfl) dX11_makeAnew_37 (fun H locs hP hS => ?_)
  refine lv_aload_n hx hb dX11_makeAnew_40 rfl (lv_at hl 0 rfl) ?_
  refine gf_X11_35 X hP (k := 0) (q := 7) rfl dX11_makeAnew_41 rfl ?_
  obtain ⟨r7, s8, h9, hf⟩ := zbd_some hf
  refine zcallV X hP hS hl.1 (k := 7) (As := []) (rest := []) (cn_X1_forget h9) cw_X1_forget zp_1 rfl (by decide) rfl ml_X11_142 (by decide) rfl rfl (Nat.le_of_ble_eq_true rfl) dX11_makeAnew_44 (fun H locs hP hS => ?_)
  refine lv_aload_n hx hb dX11_makeAnew_47 rfl (lv_at hl 0 rfl) ?_
  refine gf_X11_12 X hP (k := 0) (q := 1) rfl dX11_makeAnew_48 rfl ?_
  refine gf_X11_74 X hP (k := 1) (q := 3) rfl dX11_makeAnew_51 rfl ?_
  obtain ⟨r10, s11, h12, hf⟩ := zbd_some hf
  refine zcallV X hP hS hl.1 (k := 3) (As := []) (rest := []) (cn_X7_dimension h12) cw_X7_dimension zp_7 rfl (by decide) rfl ml_X11_115 (by decide) rfl rfl (Nat.le_of_ble_eq_true rfl) dX11_makeAnew_54 (fun H locs hP hS => ?_)
  exact zret_i X hP hS hf rfl dX11_makeAnew_57
theorem dX11_product_0 : decode cX11_product 0 = .ok (.iload_n 1, 1) := by decide +kernel
theorem dX11_product_1 : decode cX11_product 1 = .ok (.iconst 1, 1) := by decide +kernel
theorem dX11_product_2 : decode cX11_product 2 = .ok (.if_icmp .lt 17, 3) := by decide +kernel
theorem dX11_product_5 : decode cX11_product 5 = .ok (.iload_n 1, 1) := by decide +kernel
theorem dX11_product_6 : decode cX11_product 6 = .ok (.iconst 5, 1) := by decide +kernel
theorem dX11_product_7 : decode cX11_product 7 = .ok (.if_icmp .gt 12, 3) := by decide +kernel
theorem dX11_product_10 : decode cX11_product 10 = .ok (.iload_n 2, 1) := by decide +kernel
theorem dX11_product_11 : decode cX11_product 11 = .ok (.ifCond .lt 8, 3) := by decide +kernel
theorem dX11_product_14 : decode cX11_product 14 = .ok (.iload_n 2, 1) := by decide +kernel
theorem dX11_product_15 : decode cX11_product 15 = .ok (.iconst 5, 1) := by decide +kernel
theorem dX11_product_16 : decode cX11_product 16 = .ok (.if_icmp .le 5, 3) := by decide +kernel
theorem dX11_product_19 : decode cX11_product 19 = .ok (.iconst (-1), 1) := by decide +kernel
theorem dX11_product_20 : decode cX11_product 20 = .ok (.ireturn, 1) := by decide +kernel
theorem dX11_product_21 : decode cX11_product 21 = .ok (.iload_n 2, 1) := by decide +kernel
theorem dX11_product_22 : decode cX11_product 22 = .ok (.ifCond .ne 7, 3) := by decide +kernel
theorem dX11_product_25 : decode cX11_product 25 = .ok (.iconst 0, 1) := by decide +kernel
theorem dX11_product_26 : decode cX11_product 26 = .ok (.goto 4, 3) := by decide +kernel
theorem dX11_product_29 : decode cX11_product 29 = .ok (.iload_n 3, 1) := by decide +kernel
theorem dX11_product_30 : decode cX11_product 30 = .ok (.istore 4, 2) := by decide +kernel
theorem dX11_product_32 : decode cX11_product 32 = .ok (.iload 4, 2) := by decide +kernel
theorem dX11_product_34 : decode cX11_product 34 = .ok (.ifCond .lt 19, 3) := by decide +kernel
theorem dX11_product_37 : decode cX11_product 37 = .ok (.iload 4, 2) := by decide +kernel
theorem dX11_product_39 : decode cX11_product 39 = .ok (.iconst 5, 1) := by decide +kernel
theorem dX11_product_40 : decode cX11_product 40 = .ok (.if_icmp .gt 13, 3) := by decide +kernel
theorem dX11_product_43 : decode cX11_product 43 = .ok (.iload_n 1, 1) := by decide +kernel
theorem dX11_product_44 : decode cX11_product 44 = .ok (.iload_n 2, 1) := by decide +kernel
theorem dX11_product_45 : decode cX11_product 45 = .ok (.iadd, 1) := by decide +kernel
theorem dX11_product_46 : decode cX11_product 46 = .ok (.iload 4, 2) := by decide +kernel
theorem dX11_product_48 : decode cX11_product 48 = .ok (.iadd, 1) := by decide +kernel
theorem dX11_product_49 : decode cX11_product 49 = .ok (.iconst 5, 1) := by decide +kernel
theorem dX11_product_50 : decode cX11_product 50 = .ok (.if_icmp .le 5, 3) := by decide +kernel
theorem dX11_product_53 : decode cX11_product 53 = .ok (.iconst (-1), 1) := by decide +kernel
theorem dX11_product_54 : decode cX11_product 54 = .ok (.ireturn, 1) := by decide +kernel
theorem dX11_product_55 : decode cX11_product 55 = .ok (.aload_n 0, 1) := by decide +kernel
theorem dX11_product_56 : decode cX11_product 56 = .ok (.iconst 0, 1) := by decide +kernel
theorem dX11_product_57 : decode cX11_product 57 = .ok (.iload_n 1, 1) := by decide +kernel
theorem dX11_product_58 : decode cX11_product 58 = .ok (.iload_n 2, 1) := by decide +kernel
theorem dX11_product_59 : decode cX11_product 59 = .ok (.iload 4, 2) := by decide +kernel
theorem dX11_product_61 : decode cX11_product 61 = .ok (.invokevirtual 94, 3) := by decide +kernel
theorem dX11_product_64 : decode cX11_product 64 = .ok (.ireturn, 1) := by decide +kernel
set_option maxHeartbeats 4000000 in
set_option maxRecDepth 100000 in
theorem cn_X11_product {l : Launch} {cA : Nat → ClassId} {ad : Nat → Nat} {D : va_G} {E : Nat → Nat} {A : Nat → Prop} {x1 : Int32} {x2 : Int32} {x3 : Int32} {s0 sr : SS} {rr : Int32} (hf : f_X11_product x1 x2 x3 s0 = some (rr, sr)) : zCon Ox Nx cA ad D E l yX11_product cX11_product 5 (some .int) 6 A [.ref (ad 0), .int x1, .int x2, .int x3] s0 (some (.int rr)) sr := by
  refine zstart (own := RX11) hOx (by decide) rfl (Nat.le_of_ble_eq_true rfl) ?_
  intro p e s m args below meth c X hP ls hl
  have hx := X.1
  have hb := X.2.1
  have hl : lv_has ls 5 [(0, .ref (ad 0)), (1, .int x1), (2, .int x2), (3, .int x3)] := hl
  have hS : va_S A s.heap s.heap [] := va_S.rf
  have hc_30 : ∀ (x1 : Int32) (x2 : Int32) (t0 : Int32) (s1 : SS) (H : Heap) (locs : List Loc) (ls : Array Slot), lv_has ls 5 [(0, .ref (ad 0)), (1, .int x1), (2, .int x2)] → va_P D ZCL (zw Ox Nx cA ad s1) H → va_S A s.heap H locs → f_X11_product_c30 x1 x2 t0 s1 = some (rr, sr) → W p l e (zrm 6) s m args below meth c H locs 0 0 (MQ below (zQc Ox Nx cA ad D A (some (.int rr)) sr) args s 0 0 A) (F0 m 30 ls [.int t0]) := by
    intro x1 x2 t0 s1 H locs ls hl hP hS hf
    rw [f_X11_product_c30] at hf
    refine lv_istore (lv' := [(4, .int t0), (0, .ref (ad 0)), (1, .int x1), (2, .int x2)]) hx hb dX11_product_30 hl (by decide) rfl (fun ls hl => ?_)
    refine lv_iload hx hb dX11_product_32 (lv_at hl 0 rfl) ?_
    refine zif_lt (tgt := 53) hx hb dX11_product_34 (by decide) hf (fun hf => ?_) (fun hf => ?_)
    · refine lv_iconst (v := (-1)) hx hb dX11_product_53 (by decide) ?_
      exact zret_i X hP hS hf rfl dX11_product_54
    · refine lv_iload hx hb dX11_product_37 (lv_at hl 0 rfl) ?_
      refine lv_iconst (v := 5) hx hb dX11_product_39 (by decide) ?_
      refine zicmp_gt (tgt := 53) hx hb dX11_product_40 (by decide) hf (fun hf => ?_) (fun hf => ?_)
      · refine lv_iconst (v := (-1)) hx hb dX11_product_53 (by decide) ?_
        exact zret_i X hP hS hf rfl dX11_product_54
      · refine lv_iload_n hx hb dX11_product_43 rfl (lv_at hl 2 rfl) ?_
        refine lv_iload_n hx hb dX11_product_44 rfl (lv_at hl 3 rfl) ?_
        refine lv_iadd hx hb dX11_product_45 ?_
        refine lv_iload hx hb dX11_product_46 (lv_at hl 0 rfl) ?_
        refine lv_iadd hx hb dX11_product_48 ?_
        refine lv_iconst (v := 5) hx hb dX11_product_49 (by decide) ?_
        refine zicmp_le (tgt := 55) hx hb dX11_product_50 (by decide) hf (fun hf => ?_) (fun hf => ?_)
        · refine lv_aload_n hx hb dX11_product_55 rfl (lv_at hl 1 rfl) ?_
          refine lv_iconst (v := 0) hx hb dX11_product_56 (by decide) ?_
          refine lv_iload_n hx hb dX11_product_57 rfl (lv_at hl 2 rfl) ?_
          refine lv_iload_n hx hb dX11_product_58 rfl (lv_at hl 3 rfl) ?_
          refine lv_iload hx hb dX11_product_59 (lv_at hl 0 rfl) ?_
          obtain ⟨r1, s2, h3, hf⟩ := zbd_some hf
          refine zcallV X hP hS hl.1 (k := 0) (As := [.int 0, .int x1, .int x2, .int t0]) (rest := []) (cn_X11_makeAnew h3) cw_X11_makeAnew zp_11 rfl (by decide) rfl ml_X11_94 (by decide) rfl rfl (Nat.le_of_ble_eq_true rfl) dX11_product_61 (fun H locs hP hS => ?_)
          exact zret_i X hP hS hf rfl dX11_product_64
        · refine lv_iconst (v := (-1)) hx hb dX11_product_53 (by decide) ?_
          exact zret_i X hP hS hf rfl dX11_product_54
  rw [f_X11_product] at hf
  refine lv_iload_n hx hb dX11_product_0 rfl (lv_at hl 1 rfl) ?_
  refine lv_iconst (v := 1) hx hb dX11_product_1 (by decide) ?_
  refine zicmp_lt (tgt := 19) hx hb dX11_product_2 (by decide) hf (fun hf => ?_) (fun hf => ?_)
  · refine lv_iconst (v := (-1)) hx hb dX11_product_19 (by decide) ?_
    exact zret_i X hP hS hf rfl dX11_product_20
  · refine lv_iload_n hx hb dX11_product_5 rfl (lv_at hl 1 rfl) ?_
    refine lv_iconst (v := 5) hx hb dX11_product_6 (by decide) ?_
    refine zicmp_gt (tgt := 19) hx hb dX11_product_7 (by decide) hf (fun hf => ?_) (fun hf => ?_)
    · refine lv_iconst (v := (-1)) hx hb dX11_product_19 (by decide) ?_
      exact zret_i X hP hS hf rfl dX11_product_20
    · refine lv_iload_n hx hb dX11_product_10 rfl (lv_at hl 2 rfl) ?_
      refine zif_lt (tgt := 19) hx hb dX11_product_11 (by decide) hf (fun hf => ?_) (fun hf => ?_)
      · refine lv_iconst (v := (-1)) hx hb dX11_product_19 (by decide) ?_
        exact zret_i X hP hS hf rfl dX11_product_20
      · refine lv_iload_n hx hb dX11_product_14 rfl (lv_at hl 2 rfl) ?_
        refine lv_iconst (v := 5) hx hb dX11_product_15 (by decide) ?_
        refine zicmp_le (tgt := 21) hx hb dX11_product_16 (by decide) hf (fun hf => ?_) (fun hf => ?_)
        · refine lv_iload_n hx hb dX11_product_21 rfl (lv_at hl 2 rfl) ?_
          refine zif_ne (tgt := 29) hx hb dX11_product_22 (by decide) hf (fun hf => ?_) (fun hf => ?_)
          · refine lv_iload_n hx hb dX11_product_29 rfl (lv_at hl 3 rfl) ?_
            exact hc_30 x1 x2 x3 s0 _ _ _ (lv_sub hl [0, 1, 2] rfl) hP hS hf
          · refine lv_iconst (v := 0) hx hb dX11_product_25 (by decide) ?_
            refine lv_goto (tgt := 30) hx hb dX11_product_26 (by decide) ?_
            exact hc_30 x1 x2 0 s0 _ _ _ (lv_sub hl [0, 1, 2] rfl) hP hS hf
        · refine lv_iconst (v := (-1)) hx hb dX11_product_19 (by decide) ?_
          exact zret_i X hP hS hf rfl dX11_product_20
