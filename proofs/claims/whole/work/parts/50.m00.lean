theorem dJ7_rangeCheck_23922_0 : decode cJ7_rangeCheck_23922 0 = .ok (.iload_n 1, 1) := by decide +kernel
theorem dJ7_rangeCheck_23922_1 : decode cJ7_rangeCheck_23922 1 = .ok (.iload_n 2, 1) := by decide +kernel
theorem dJ7_rangeCheck_23922_2 : decode cJ7_rangeCheck_23922 2 = .ok (.if_icmp .le 44, 3) := by decide +kernel
theorem dJ7_rangeCheck_23922_5 : decode cJ7_rangeCheck_23922 5 = .ok (.new 43, 3) := by decide +kernel
theorem dJ7_rangeCheck_23922_8 : decode cJ7_rangeCheck_23922 8 = .ok (.dup, 1) := by decide +kernel
theorem dJ7_rangeCheck_23922_9 : decode cJ7_rangeCheck_23922 9 = .ok (.new 45, 3) := by decide +kernel
theorem dJ7_rangeCheck_23922_12 : decode cJ7_rangeCheck_23922 12 = .ok (.dup, 1) := by decide +kernel
theorem dJ7_rangeCheck_23922_13 : decode cJ7_rangeCheck_23922 13 = .ok (.invokespecial 47, 3) := by decide +kernel
theorem dJ7_rangeCheck_23922_16 : decode cJ7_rangeCheck_23922 16 = .ok (.ldc 48, 2) := by decide +kernel
theorem dJ7_rangeCheck_23922_18 : decode cJ7_rangeCheck_23922 18 = .ok (.invokevirtual 50, 3) := by decide +kernel
theorem dJ7_rangeCheck_23922_21 : decode cJ7_rangeCheck_23922 21 = .ok (.iload_n 1, 1) := by decide +kernel
theorem dJ7_rangeCheck_23922_22 : decode cJ7_rangeCheck_23922 22 = .ok (.invokevirtual 54, 3) := by decide +kernel
theorem dJ7_rangeCheck_23922_25 : decode cJ7_rangeCheck_23922 25 = .ok (.ldc 57, 2) := by decide +kernel
theorem dJ7_rangeCheck_23922_27 : decode cJ7_rangeCheck_23922 27 = .ok (.invokevirtual 50, 3) := by decide +kernel
theorem dJ7_rangeCheck_23922_30 : decode cJ7_rangeCheck_23922 30 = .ok (.iload_n 2, 1) := by decide +kernel
theorem dJ7_rangeCheck_23922_31 : decode cJ7_rangeCheck_23922 31 = .ok (.invokevirtual 54, 3) := by decide +kernel
theorem dJ7_rangeCheck_23922_34 : decode cJ7_rangeCheck_23922 34 = .ok (.ldc 59, 2) := by decide +kernel
theorem dJ7_rangeCheck_23922_36 : decode cJ7_rangeCheck_23922 36 = .ok (.invokevirtual 50, 3) := by decide +kernel
theorem dJ7_rangeCheck_23922_39 : decode cJ7_rangeCheck_23922 39 = .ok (.invokevirtual 61, 3) := by decide +kernel
theorem dJ7_rangeCheck_23922_42 : decode cJ7_rangeCheck_23922 42 = .ok (.invokespecial 65, 3) := by decide +kernel
theorem dJ7_rangeCheck_23922_45 : decode cJ7_rangeCheck_23922 45 = .ok (.athrow, 1) := by decide +kernel
theorem dJ7_rangeCheck_23922_46 : decode cJ7_rangeCheck_23922 46 = .ok (.iload_n 1, 1) := by decide +kernel
theorem dJ7_rangeCheck_23922_47 : decode cJ7_rangeCheck_23922 47 = .ok (.ifCond .ge 12, 3) := by decide +kernel
theorem dJ7_rangeCheck_23922_50 : decode cJ7_rangeCheck_23922 50 = .ok (.new 68, 3) := by decide +kernel
theorem dJ7_rangeCheck_23922_53 : decode cJ7_rangeCheck_23922 53 = .ok (.dup, 1) := by decide +kernel
theorem dJ7_rangeCheck_23922_54 : decode cJ7_rangeCheck_23922 54 = .ok (.iload_n 1, 1) := by decide +kernel
theorem dJ7_rangeCheck_23922_55 : decode cJ7_rangeCheck_23922 55 = .ok (.invokespecial 70, 3) := by decide +kernel
theorem dJ7_rangeCheck_23922_58 : decode cJ7_rangeCheck_23922 58 = .ok (.athrow, 1) := by decide +kernel
theorem dJ7_rangeCheck_23922_59 : decode cJ7_rangeCheck_23922 59 = .ok (.iload_n 2, 1) := by decide +kernel
theorem dJ7_rangeCheck_23922_60 : decode cJ7_rangeCheck_23922 60 = .ok (.iload_n 0, 1) := by decide +kernel
theorem dJ7_rangeCheck_23922_61 : decode cJ7_rangeCheck_23922 61 = .ok (.if_icmp .le 12, 3) := by decide +kernel
theorem dJ7_rangeCheck_23922_64 : decode cJ7_rangeCheck_23922 64 = .ok (.new 68, 3) := by decide +kernel
theorem dJ7_rangeCheck_23922_67 : decode cJ7_rangeCheck_23922 67 = .ok (.dup, 1) := by decide +kernel
theorem dJ7_rangeCheck_23922_68 : decode cJ7_rangeCheck_23922 68 = .ok (.iload_n 2, 1) := by decide +kernel
theorem dJ7_rangeCheck_23922_69 : decode cJ7_rangeCheck_23922 69 = .ok (.invokespecial 70, 3) := by decide +kernel
theorem dJ7_rangeCheck_23922_72 : decode cJ7_rangeCheck_23922 72 = .ok (.athrow, 1) := by decide +kernel
theorem dJ7_rangeCheck_23922_73 : decode cJ7_rangeCheck_23922 73 = .ok (.return_, 1) := by decide +kernel
set_option maxHeartbeats 4000000 in
set_option maxRecDepth 100000 in
theorem cn_J7_rangeCheck_23922 {l : Launch} {cA : Nat → ClassId} {ad : Nat → Nat} {D : va_G} {E : Nat → Nat} {A : Nat → Prop} {x0 : Int32} {x1 : Int32} {x2 : Int32} {s0 sr : SS} {rr : Unit} (hf : f_J7_rangeCheck_23922 x0 x1 x2 s0 = some (rr, sr)) : zCon Ox Nx cA ad D E l yJ7_rangeCheck_23922 cJ7_rangeCheck_23922 3 none 0 A [.int x0, .int x1, .int x2] s0 none sr := by
  refine zstart (own := RJ7) hOx (by decide) rfl (Nat.le_of_ble_eq_true rfl) ?_
  intro p e s m args below meth c X hP ls hl
  have hx := X.1
  have hb := X.2.1
  have hl : lv_has ls 3 [(0, .int x0), (1, .int x1), (2, .int x2)] := hl
  have hS : va_S A s.heap s.heap [] := va_S.rf
  rw [f_J7_rangeCheck_23922] at hf
  refine lv_iload_n hx hb dJ7_rangeCheck_23922_0 rfl (lv_at hl 1 rfl) ?_
  refine lv_iload_n hx hb dJ7_rangeCheck_23922_1 rfl (lv_at hl 2 rfl) ?_
  refine zicmp_le (tgt := 46) hx hb dJ7_rangeCheck_23922_2 (by decide) hf (fun hf => ?_) (fun hf => ?_)
  · refine lv_iload_n hx hb dJ7_rangeCheck_23922_46 rfl (lv_at hl 1 rfl) ?_
    refine zif_ge (tgt := 59) hx hb dJ7_rangeCheck_23922_47 (by decide) hf (fun hf => ?_) (fun hf => ?_)
    · refine lv_iload_n hx hb dJ7_rangeCheck_23922_59 rfl (lv_at hl 2 rfl) ?_
      refine lv_iload_n hx hb dJ7_rangeCheck_23922_60 rfl (lv_at hl 0 rfl) ?_
      refine zicmp_le (tgt := 73) hx hb dJ7_rangeCheck_23922_61 (by decide) hf (fun hf => ?_) (fun hf => ?_)
      · exact zret_v X hP hS hf dJ7_rangeCheck_23922_73
      · cases hf
    · cases hf
  · cases hf
theorem dJ7_fill_d0a16_0 : decode cJ7_fill_d0a16 0 = .ok (.iconst 0, 1) := by decide +kernel
theorem dJ7_fill_d0a16_1 : decode cJ7_fill_d0a16 1 = .ok (.istore_n 3, 1) := by decide +kernel
theorem dJ7_fill_d0a16_2 : decode cJ7_fill_d0a16 2 = .ok (.aload_n 0, 1) := by decide +kernel
theorem dJ7_fill_d0a16_3 : decode cJ7_fill_d0a16 3 = .ok (.arraylength, 1) := by decide +kernel
theorem dJ7_fill_d0a16_4 : decode cJ7_fill_d0a16 4 = .ok (.istore 4, 2) := by decide +kernel
theorem dJ7_fill_d0a16_6 : decode cJ7_fill_d0a16 6 = .ok (.iload_n 3, 1) := by decide +kernel
theorem dJ7_fill_d0a16_7 : decode cJ7_fill_d0a16 7 = .ok (.iload 4, 2) := by decide +kernel
theorem dJ7_fill_d0a16_9 : decode cJ7_fill_d0a16 9 = .ok (.if_icmp .ge 13, 3) := by decide +kernel
theorem dJ7_fill_d0a16_12 : decode cJ7_fill_d0a16 12 = .ok (.aload_n 0, 1) := by decide +kernel
theorem dJ7_fill_d0a16_13 : decode cJ7_fill_d0a16 13 = .ok (.iload_n 3, 1) := by decide +kernel
theorem dJ7_fill_d0a16_14 : decode cJ7_fill_d0a16 14 = .ok (.lload_n 1, 1) := by decide +kernel
theorem dJ7_fill_d0a16_15 : decode cJ7_fill_d0a16 15 = .ok (.lastore, 1) := by decide +kernel
theorem dJ7_fill_d0a16_16 : decode cJ7_fill_d0a16 16 = .ok (.iinc 3 1, 3) := by decide +kernel
theorem dJ7_fill_d0a16_19 : decode cJ7_fill_d0a16 19 = .ok (.goto (-13), 3) := by decide +kernel
theorem dJ7_fill_d0a16_22 : decode cJ7_fill_d0a16 22 = .ok (.return_, 1) := by decide +kernel
set_option maxHeartbeats 4000000 in
set_option maxRecDepth 100000 in
theorem cn_J7_fill_d0a16 {l : Launch} {cA : Nat → ClassId} {ad : Nat → Nat} {D : va_G} {E : Nat → Nat} {A : Nat → Prop} {k0 : Nat} {x1 : Int64} {s0 sr : SS} {rr : Unit} (hf : f_J7_fill_d0a16 k0 x1 s0 = some (rr, sr)) : zCon Ox Nx cA ad D E l yJ7_fill_d0a16 cJ7_fill_d0a16 5 none 0 A [.ref (ad k0), .long x1] s0 none sr := by
  refine zstart (own := RJ7) hOx (by decide) rfl (Nat.le_of_ble_eq_true rfl) ?_
  intro p e s m args below meth c X hP ls hl
  have hx := X.1
  have hb := X.2.1
  have hl : lv_has ls 5 [(0, .ref (ad k0)), (1, .long x1)] := hl
  have hS : va_S A s.heap s.heap [] := va_S.rf
  have hc_6 : ∀ (n6 : Nat) (k0 : Nat) (x1 : Int64) (x3 : Int32) (x4 : Int32) (s1 : SS) (H : Heap) (locs : List Loc) (ls : Array Slot), lv_has ls 5 [(0, .ref (ad k0)), (1, .long x1), (3, .int x3), (4, .int x4)] → va_P D ZCL (zw Ox Nx cA ad s1) H → va_S A s.heap H locs → f_J7_fill_d0a16_c6 n6 k0 x1 x3 x4 s1 = some (rr, sr) → W p l e (zrm 0) s m args below meth c H locs 0 0 (MQ below (zQc Ox Nx cA ad D A none sr) args s 0 0 A) (F0 m 6 ls []) := by
    intro n6
    induction n6 with
    | zero =>
      intro k0 x1 x3 x4 s1 H locs ls hl hP hS hf
      rw [f_J7_fill_d0a16_c6] at hf
      cases hf
    | succ n6 ih6 =>
      intro k0 x1 x3 x4 s1 H locs ls hl hP hS hf
      rw [f_J7_fill_d0a16_c6] at hf
      refine lv_iload_n hx hb dJ7_fill_d0a16_6 rfl (lv_at hl 2 rfl) ?_
      refine lv_iload hx hb dJ7_fill_d0a16_7 (lv_at hl 3 rfl) ?_
      refine zicmp_ge (tgt := 22) hx hb dJ7_fill_d0a16_9 (by decide) hf (fun hf => ?_) (fun hf => ?_)
      · exact zret_v X hP hS hf dJ7_fill_d0a16_22
      · refine lv_aload_n hx hb dJ7_fill_d0a16_12 rfl (lv_at hl 0 rfl) ?_
        refine lv_iload_n hx hb dJ7_fill_d0a16_13 rfl (lv_at hl 2 rfl) ?_
        refine lv_lload_n hx hb dJ7_fill_d0a16_14 rfl (lv_at hl 1 rfl) ?_
        obtain ⟨g3, hf⟩ := zgd hf
        obtain ⟨n4, rn4, on4, in4⟩ := zok_of g3
        refine zast_l X hP hS (k := k0) on4 in4 dJ7_fill_d0a16_15 (fun H locs hP hS => ?_)
        refine lv_iinc (v := (x3 + 1)) (lv' := [(3, .int (x3 + 1)), (0, .ref (ad k0)), (1, .long x1), (4, .int x4)]) hx hb dJ7_fill_d0a16_16 hl (k := 2) rfl rfl (by decide) rfl (fun ls hl => ?_)
        refine lv_goto (tgt := 6) hx hb dJ7_fill_d0a16_19 (by decide) ?_
        exact ih6 k0 x1 (x3 + 1) x4 (zSL s1 k0 (x3).toNatClampNeg x1) _ _ _ (lv_sub hl [1, 2, 0, 3] rfl) hP hS hf
  rw [f_J7_fill_d0a16] at hf
  refine lv_iconst (v := 0) hx hb dJ7_fill_d0a16_0 (by decide) ?_
  refine lv_istore_n (lv' := [(3, .int 0), (0, .ref (ad k0)), (1, .long x1)]) hx hb dJ7_fill_d0a16_1 rfl hl (by decide) rfl (fun ls hl => ?_)
  refine lv_aload_n hx hb dJ7_fill_d0a16_2 rfl (lv_at hl 1 rfl) ?_
  obtain ⟨g1, hf⟩ := zgd hf
  obtain ⟨n2, on2⟩ := zia_of g1
  refine zalen X hP (k := k0) (t := 1) on2 (by decide) rfl dJ7_fill_d0a16_3 ?_
  refine lv_istore (lv' := [(4, .int (nI (zlen Ox k0))), (3, .int 0), (0, .ref (ad k0)), (1, .long x1)]) hx hb dJ7_fill_d0a16_4 hl (by decide) rfl (fun ls hl => ?_)
  exact hc_6 ZF k0 x1 0 (nI (zlen Ox k0)) s0 _ _ _ (lv_sub hl [2, 3, 1, 0] rfl) hP hS hf
theorem dJ7_fill_bad5a_0 : decode cJ7_fill_bad5a 0 = .ok (.aload_n 0, 1) := by decide +kernel
theorem dJ7_fill_bad5a_1 : decode cJ7_fill_bad5a 1 = .ok (.arraylength, 1) := by decide +kernel
theorem dJ7_fill_bad5a_2 : decode cJ7_fill_bad5a 2 = .ok (.iload_n 1, 1) := by decide +kernel
theorem dJ7_fill_bad5a_3 : decode cJ7_fill_bad5a 3 = .ok (.iload_n 2, 1) := by decide +kernel
theorem dJ7_fill_bad5a_4 : decode cJ7_fill_bad5a 4 = .ok (.invokestatic 13, 3) := by decide +kernel
theorem dJ7_fill_bad5a_7 : decode cJ7_fill_bad5a 7 = .ok (.iload_n 1, 1) := by decide +kernel
theorem dJ7_fill_bad5a_8 : decode cJ7_fill_bad5a 8 = .ok (.istore 5, 2) := by decide +kernel
theorem dJ7_fill_bad5a_10 : decode cJ7_fill_bad5a 10 = .ok (.iload 5, 2) := by decide +kernel
theorem dJ7_fill_bad5a_12 : decode cJ7_fill_bad5a 12 = .ok (.iload_n 2, 1) := by decide +kernel
theorem dJ7_fill_bad5a_13 : decode cJ7_fill_bad5a 13 = .ok (.if_icmp .ge 14, 3) := by decide +kernel
theorem dJ7_fill_bad5a_16 : decode cJ7_fill_bad5a 16 = .ok (.aload_n 0, 1) := by decide +kernel
theorem dJ7_fill_bad5a_17 : decode cJ7_fill_bad5a 17 = .ok (.iload 5, 2) := by decide +kernel
theorem dJ7_fill_bad5a_19 : decode cJ7_fill_bad5a 19 = .ok (.lload_n 3, 1) := by decide +kernel
theorem dJ7_fill_bad5a_20 : decode cJ7_fill_bad5a 20 = .ok (.lastore, 1) := by decide +kernel
theorem dJ7_fill_bad5a_21 : decode cJ7_fill_bad5a 21 = .ok (.iinc 5 1, 3) := by decide +kernel
theorem dJ7_fill_bad5a_24 : decode cJ7_fill_bad5a 24 = .ok (.goto (-14), 3) := by decide +kernel
theorem dJ7_fill_bad5a_27 : decode cJ7_fill_bad5a 27 = .ok (.return_, 1) := by decide +kernel
set_option maxHeartbeats 4000000 in
set_option maxRecDepth 100000 in
theorem cn_J7_fill_bad5a {l : Launch} {cA : Nat → ClassId} {ad : Nat → Nat} {D : va_G} {E : Nat → Nat} {A : Nat → Prop} {k0 : Nat} {x1 : Int32} {x2 : Int32} {x3 : Int64} {s0 sr : SS} {rr : Unit} (hf : f_J7_fill_bad5a k0 x1 x2 x3 s0 = some (rr, sr)) : zCon Ox Nx cA ad D E l yJ7_fill_bad5a cJ7_fill_bad5a 6 none 1 A [.ref (ad k0), .int x1, .int x2, .long x3] s0 none sr := by
  refine zstart (own := RJ7) hOx (by decide) rfl (Nat.le_of_ble_eq_true rfl) ?_
  intro p e s m args below meth c X hP ls hl
  have hx := X.1
  have hb := X.2.1
  have hl : lv_has ls 6 [(0, .ref (ad k0)), (1, .int x1), (2, .int x2), (3, .long x3)] := hl
  have hS : va_S A s.heap s.heap [] := va_S.rf
  have hc_10 : ∀ (n10 : Nat) (k0 : Nat) (x2 : Int32) (x3 : Int64) (x5 : Int32) (s1 : SS) (H : Heap) (locs : List Loc) (ls : Array Slot), lv_has ls 6 [(0, .ref (ad k0)), (2, .int x2), (3, .long x3), (5, .int x5)] → va_P D ZCL (zw Ox Nx cA ad s1) H → va_S A s.heap H locs → f_J7_fill_bad5a_c10 n10 k0 x2 x3 x5 s1 = some (rr, sr) → W p l e (zrm 1) s m args below meth c H locs 0 0 (MQ below (zQc Ox Nx cA ad D A none sr) args s 0 0 A) (F0 m 10 ls []) := by
    intro n10
    induction n10 with
    | zero =>
      intro k0 x2 x3 x5 s1 H locs ls hl hP hS hf
      rw [f_J7_fill_bad5a_c10] at hf
      cases hf
    | succ n10 ih10 =>
      intro k0 x2 x3 x5 s1 H locs ls hl hP hS hf
      rw [f_J7_fill_bad5a_c10] at hf
      refine lv_iload hx hb dJ7_fill_bad5a_10 (lv_at hl 3 rfl) ?_
      refine lv_iload_n hx hb dJ7_fill_bad5a_12 rfl (lv_at hl 1 rfl) ?_
      refine zicmp_ge (tgt := 27) hx hb dJ7_fill_bad5a_13 (by decide) hf (fun hf => ?_) (fun hf => ?_)
      · exact zret_v X hP hS hf dJ7_fill_bad5a_27
      · refine lv_aload_n hx hb dJ7_fill_bad5a_16 rfl (lv_at hl 0 rfl) ?_
        refine lv_iload hx hb dJ7_fill_bad5a_17 (lv_at hl 3 rfl) ?_
        refine lv_lload_n hx hb dJ7_fill_bad5a_19 rfl (lv_at hl 2 rfl) ?_
        obtain ⟨g6, hf⟩ := zgd hf
        obtain ⟨n7, rn7, on7, in7⟩ := zok_of g6
        refine zast_l X hP hS (k := k0) on7 in7 dJ7_fill_bad5a_20 (fun H locs hP hS => ?_)
        refine lv_iinc (v := (x5 + 1)) (lv' := [(5, .int (x5 + 1)), (0, .ref (ad k0)), (2, .int x2), (3, .long x3)]) hx hb dJ7_fill_bad5a_21 hl (k := 3) rfl rfl (by decide) rfl (fun ls hl => ?_)
        refine lv_goto (tgt := 10) hx hb dJ7_fill_bad5a_24 (by decide) ?_
        exact ih10 k0 x2 x3 (x5 + 1) (zSL s1 k0 (x5).toNatClampNeg x3) _ _ _ (lv_sub hl [1, 2, 3, 0] rfl) hP hS hf
  rw [f_J7_fill_bad5a] at hf
  refine lv_aload_n hx hb dJ7_fill_bad5a_0 rfl (lv_at hl 0 rfl) ?_
  obtain ⟨g1, hf⟩ := zgd hf
  obtain ⟨n2, on2⟩ := zia_of g1
  refine zalen X hP (k := k0) (t := 1) on2 (by decide) rfl dJ7_fill_bad5a_1 ?_
  refine lv_iload_n hx hb dJ7_fill_bad5a_2 rfl (lv_at hl 1 rfl) ?_
  refine lv_iload_n hx hb dJ7_fill_bad5a_3 rfl (lv_at hl 2 rfl) ?_
  obtain ⟨r3, s4, h5, hf⟩ := zbd_some hf
  refine zcallS X hP hS hl.1 (As := [.int (nI (zlen Ox k0)), .int x1, .int x2]) (rest := []) (cn_J7_rangeCheck_23922 h5) cw_J7_rangeCheck_23922 ml_J7_13 (by decide) rfl rfl (Nat.le_of_ble_eq_true rfl) dJ7_fill_bad5a_4 (fun H locs hP hS => ?_)
  refine lv_iload_n hx hb dJ7_fill_bad5a_7 rfl (lv_at hl 1 rfl) ?_
  refine lv_istore (lv' := [(5, .int x1), (0, .ref (ad k0)), (1, .int x1), (2, .int x2), (3, .long x3)]) hx hb dJ7_fill_bad5a_8 hl (by decide) rfl (fun ls hl => ?_)
  exact hc_10 ZF k0 x2 x3 x1 s4 _ _ _ (lv_sub hl [1, 3, 4, 0] rfl) hP hS hf
theorem dJ7_fill_53178_0 : decode cJ7_fill_53178 0 = .ok (.iconst 0, 1) := by decide +kernel
theorem dJ7_fill_53178_1 : decode cJ7_fill_53178 1 = .ok (.istore_n 2, 1) := by decide +kernel
theorem dJ7_fill_53178_2 : decode cJ7_fill_53178 2 = .ok (.aload_n 0, 1) := by decide +kernel
theorem dJ7_fill_53178_3 : decode cJ7_fill_53178 3 = .ok (.arraylength, 1) := by decide +kernel
theorem dJ7_fill_53178_4 : decode cJ7_fill_53178 4 = .ok (.istore_n 3, 1) := by decide +kernel
theorem dJ7_fill_53178_5 : decode cJ7_fill_53178 5 = .ok (.iload_n 2, 1) := by decide +kernel
theorem dJ7_fill_53178_6 : decode cJ7_fill_53178 6 = .ok (.iload_n 3, 1) := by decide +kernel
theorem dJ7_fill_53178_7 : decode cJ7_fill_53178 7 = .ok (.if_icmp .ge 13, 3) := by decide +kernel
theorem dJ7_fill_53178_10 : decode cJ7_fill_53178 10 = .ok (.aload_n 0, 1) := by decide +kernel
theorem dJ7_fill_53178_11 : decode cJ7_fill_53178 11 = .ok (.iload_n 2, 1) := by decide +kernel
theorem dJ7_fill_53178_12 : decode cJ7_fill_53178 12 = .ok (.iload_n 1, 1) := by decide +kernel
theorem dJ7_fill_53178_13 : decode cJ7_fill_53178 13 = .ok (.iastore, 1) := by decide +kernel
theorem dJ7_fill_53178_14 : decode cJ7_fill_53178 14 = .ok (.iinc 2 1, 3) := by decide +kernel
theorem dJ7_fill_53178_17 : decode cJ7_fill_53178 17 = .ok (.goto (-12), 3) := by decide +kernel
theorem dJ7_fill_53178_20 : decode cJ7_fill_53178 20 = .ok (.return_, 1) := by decide +kernel
set_option maxHeartbeats 4000000 in
set_option maxRecDepth 100000 in
theorem cn_J7_fill_53178 {l : Launch} {cA : Nat → ClassId} {ad : Nat → Nat} {D : va_G} {E : Nat → Nat} {A : Nat → Prop} {k0 : Nat} {x1 : Int32} {s0 sr : SS} {rr : Unit} (hf : f_J7_fill_53178 k0 x1 s0 = some (rr, sr)) : zCon Ox Nx cA ad D E l yJ7_fill_53178 cJ7_fill_53178 4 none 0 A [.ref (ad k0), .int x1] s0 none sr := by
  refine zstart (own := RJ7) hOx (by decide) rfl (Nat.le_of_ble_eq_true rfl) ?_
  intro p e s m args below meth c X hP ls hl
  have hx := X.1
  have hb := X.2.1
  have hl : lv_has ls 4 [(0, .ref (ad k0)), (1, .int x1)] := hl
  have hS : va_S A s.heap s.heap [] := va_S.rf
  have hc_5 : ∀ (n5 : Nat) (k0 : Nat) (x1 : Int32) (x2 : Int32) (x3 : Int32) (s1 : SS) (H : Heap) (locs : List Loc) (ls : Array Slot), lv_has ls 4 [(0, .ref (ad k0)), (1, .int x1), (2, .int x2), (3, .int x3)] → va_P D ZCL (zw Ox Nx cA ad s1) H → va_S A s.heap H locs → f_J7_fill_53178_c5 n5 k0 x1 x2 x3 s1 = some (rr, sr) → W p l e (zrm 0) s m args below meth c H locs 0 0 (MQ below (zQc Ox Nx cA ad D A none sr) args s 0 0 A) (F0 m 5 ls []) := by
    intro n5
    induction n5 with
    | zero =>
      intro k0 x1 x2 x3 s1 H locs ls hl hP hS hf
      rw [f_J7_fill_53178_c5] at hf
      cases hf
    | succ n5 ih5 =>
      intro k0 x1 x2 x3 s1 H locs ls hl hP hS hf
      rw [f_J7_fill_53178_c5] at hf
      refine lv_iload_n hx hb dJ7_fill_53178_5 rfl (lv_at hl 2 rfl) ?_
      refine lv_iload_n hx hb dJ7_fill_53178_6 rfl (lv_at hl 3 rfl) ?_
      refine zicmp_ge (tgt := 20) hx hb dJ7_fill_53178_7 (by decide) hf (fun hf => ?_) (fun hf => ?_)
      · exact zret_v X hP hS hf dJ7_fill_53178_20
      · refine lv_aload_n hx hb dJ7_fill_53178_10 rfl (lv_at hl 0 rfl) ?_
        refine lv_iload_n hx hb dJ7_fill_53178_11 rfl (lv_at hl 2 rfl) ?_
        refine lv_iload_n hx hb dJ7_fill_53178_12 rfl (lv_at hl 1 rfl) ?_
        obtain ⟨g3, hf⟩ := zgd hf
        obtain ⟨n4, rn4, on4, in4⟩ := zok_of g3
        refine zast_i X hP hS (k := k0) on4 in4 dJ7_fill_53178_13 (fun H locs hP hS => ?_)
        refine lv_iinc (v := (x2 + 1)) (lv' := [(2, .int (x2 + 1)), (0, .ref (ad k0)), (1, .int x1), (3, .int x3)]) hx hb dJ7_fill_53178_14 hl (k := 2) rfl rfl (by decide) rfl (fun ls hl => ?_)
        refine lv_goto (tgt := 5) hx hb dJ7_fill_53178_17 (by decide) ?_
        exact ih5 k0 x1 (x2 + 1) x3 (zS s1 k0 (x2).toNatClampNeg x1) _ _ _ (lv_sub hl [1, 2, 0, 3] rfl) hP hS hf
  rw [f_J7_fill_53178] at hf
  refine lv_iconst (v := 0) hx hb dJ7_fill_53178_0 (by decide) ?_
  refine lv_istore_n (lv' := [(2, .int 0), (0, .ref (ad k0)), (1, .int x1)]) hx hb dJ7_fill_53178_1 rfl hl (by decide) rfl (fun ls hl => ?_)
  refine lv_aload_n hx hb dJ7_fill_53178_2 rfl (lv_at hl 1 rfl) ?_
  obtain ⟨g1, hf⟩ := zgd hf
  obtain ⟨n2, on2⟩ := zia_of g1
  refine zalen X hP (k := k0) (t := 0) on2 (by decide) rfl dJ7_fill_53178_3 ?_
  refine lv_istore_n (lv' := [(3, .int (nI (zlen Ox k0))), (2, .int 0), (0, .ref (ad k0)), (1, .int x1)]) hx hb dJ7_fill_53178_4 rfl hl (by decide) rfl (fun ls hl => ?_)
  exact hc_5 ZF k0 x1 0 (nI (zlen Ox k0)) s0 _ _ _ (lv_sub hl [2, 3, 1, 0] rfl) hP hS hf
theorem dX0_note_0 : decode cX0_note 0 = .ok (.aload_n 0, 1) := by decide +kernel
theorem dX0_note_1 : decode cX0_note 1 = .ok (.getfield 15, 3) := by decide +kernel
theorem dX0_note_4 : decode cX0_note 4 = .ok (.bipush 24, 2) := by decide +kernel
theorem dX0_note_6 : decode cX0_note 6 = .ok (.if_icmp .ge 23, 3) := by decide +kernel
theorem dX0_note_9 : decode cX0_note 9 = .ok (.aload_n 0, 1) := by decide +kernel
theorem dX0_note_10 : decode cX0_note 10 = .ok (.getfield 11, 3) := by decide +kernel
theorem dX0_note_13 : decode cX0_note 13 = .ok (.aload_n 0, 1) := by decide +kernel
theorem dX0_note_14 : decode cX0_note 14 = .ok (.getfield 15, 3) := by decide +kernel
theorem dX0_note_17 : decode cX0_note 17 = .ok (.iload_n 1, 1) := by decide +kernel
theorem dX0_note_18 : decode cX0_note 18 = .ok (.iastore, 1) := by decide +kernel
theorem dX0_note_19 : decode cX0_note 19 = .ok (.aload_n 0, 1) := by decide +kernel
theorem dX0_note_20 : decode cX0_note 20 = .ok (.dup, 1) := by decide +kernel
theorem dX0_note_21 : decode cX0_note 21 = .ok (.getfield 15, 3) := by decide +kernel
theorem dX0_note_24 : decode cX0_note 24 = .ok (.iconst 1, 1) := by decide +kernel
theorem dX0_note_25 : decode cX0_note 25 = .ok (.iadd, 1) := by decide +kernel
theorem dX0_note_26 : decode cX0_note 26 = .ok (.putfield 15, 3) := by decide +kernel
theorem dX0_note_29 : decode cX0_note 29 = .ok (.return_, 1) := by decide +kernel
set_option maxHeartbeats 4000000 in
set_option maxRecDepth 100000 in
theorem cn_X0_note {l : Launch} {cA : Nat → ClassId} {ad : Nat → Nat} {D : va_G} {E : Nat → Nat} {A : Nat → Prop} {x1 : Int32} {s0 sr : SS} {rr : Unit} (hf : f_X0_note x1 s0 = some (rr, sr)) : zCon Ox Nx cA ad D E l yX0_note cX0_note 2 none 0 A [.ref (ad 12), .int x1] s0 none sr := by
  refine zstart (own := RX0) hOx (by decide) rfl (Nat.le_of_ble_eq_true rfl) ?_
  intro p e s m args below meth c X hP ls hl
  have hx := X.1
  have hb := X.2.1
  have hl : lv_has ls 2 [(0, .ref (ad 12)), (1, .int x1)] := hl
  have hS : va_S A s.heap s.heap [] := va_S.rf
  rw [f_X0_note] at hf
  refine lv_aload_n hx hb dX0_note_0 rfl (lv_at hl 0 rfl) ?_
  refine gf_X0_15 X hP (k := 12) rfl dX0_note_1 ?_
  refine lv_bipush (v := 24) hx hb dX0_note_4 (by decide) ?_
  refine zicmp_ge (tgt := 29) hx hb dX0_note_6 (by decide) hf (fun hf => ?_) (fun hf => ?_)
  · exact zret_v X hP hS hf dX0_note_29
  · refine lv_aload_n hx hb dX0_note_9 rfl (lv_at hl 0 rfl) ?_
    refine gf_X0_11 X hP (k := 12) (q := 82) rfl dX0_note_10 rfl ?_
    refine lv_aload_n hx hb dX0_note_13 rfl (lv_at hl 0 rfl) ?_
    refine gf_X0_15 X hP (k := 12) rfl dX0_note_14 ?_
    refine lv_iload_n hx hb dX0_note_17 rfl (lv_at hl 1 rfl) ?_
    obtain ⟨g1, hf⟩ := zgd hf
    refine zast_i X hP hS (k := 82) (n := 24) (rs := []) rfl g1 dX0_note_18 (fun H locs hP hS => ?_)
    refine lv_aload_n hx hb dX0_note_19 rfl (lv_at hl 0 rfl) ?_
    refine lv_dup hx hb dX0_note_20 rfl ?_
    refine gf_X0_15 X hP (k := 12) rfl dX0_note_21 ?_
    refine lv_iconst (v := 1) hx hb dX0_note_24 (by decide) ?_
    refine lv_iadd hx hb dX0_note_25 ?_
    refine pf_X0_15 X hP hS (k := 12) rfl dX0_note_26 (fun H locs hP hS => ?_)
    exact zret_v X hP hS hf dX0_note_29
theorem dX1_forget_0 : decode cX1_forget 0 = .ok (.aload_n 0, 1) := by decide +kernel
theorem dX1_forget_1 : decode cX1_forget 1 = .ok (.iconst 0, 1) := by decide +kernel
theorem dX1_forget_2 : decode cX1_forget 2 = .ok (.putfield 22, 3) := by decide +kernel
theorem dX1_forget_5 : decode cX1_forget 5 = .ok (.aload_n 0, 1) := by decide +kernel
theorem dX1_forget_6 : decode cX1_forget 6 = .ok (.iconst 0, 1) := by decide +kernel
theorem dX1_forget_7 : decode cX1_forget 7 = .ok (.putfield 26, 3) := by decide +kernel
theorem dX1_forget_10 : decode cX1_forget 10 = .ok (.return_, 1) := by decide +kernel
set_option maxHeartbeats 4000000 in
set_option maxRecDepth 100000 in
theorem cn_X1_forget {l : Launch} {cA : Nat → ClassId} {ad : Nat → Nat} {D : va_G} {E : Nat → Nat} {A : Nat → Prop}  {s0 sr : SS} {rr : Unit} (hf : f_X1_forget s0 = some (rr, sr)) : zCon Ox Nx cA ad D E l yX1_forget cX1_forget 1 none 0 A [.ref (ad 7)] s0 none sr := by
  refine zstart (own := RX1) hOx (by decide) rfl (Nat.le_of_ble_eq_true rfl) ?_
  intro p e s m args below meth c X hP ls hl
  have hx := X.1
  have hb := X.2.1
  have hl : lv_has ls 1 [(0, .ref (ad 7))] := hl
  have hS : va_S A s.heap s.heap [] := va_S.rf
  rw [f_X1_forget] at hf
  refine lv_aload_n hx hb dX1_forget_0 rfl (lv_at hl 0 rfl) ?_
  refine lv_iconst (v := 0) hx hb dX1_forget_1 (by decide) ?_
  refine pf_X1_22 X hP hS (k := 7) rfl dX1_forget_2 (fun H locs hP hS => ?_)
  refine lv_aload_n hx hb dX1_forget_5 rfl (lv_at hl 0 rfl) ?_
  refine lv_iconst (v := 0) hx hb dX1_forget_6 (by decide) ?_
  refine pf_X1_26 X hP hS (k := 7) rfl dX1_forget_7 (fun H locs hP hS => ?_)
  exact zret_v X hP hS hf dX1_forget_10
theorem dX1_dropEldest_0 : decode cX1_dropEldest 0 = .ok (.aload_n 0, 1) := by decide +kernel
theorem dX1_dropEldest_1 : decode cX1_dropEldest 1 = .ok (.getfield 9, 3) := by decide +kernel
theorem dX1_dropEldest_4 : decode cX1_dropEldest 4 = .ok (.iconst 1, 1) := by decide +kernel
theorem dX1_dropEldest_5 : decode cX1_dropEldest 5 = .ok (.aload_n 0, 1) := by decide +kernel
theorem dX1_dropEldest_6 : decode cX1_dropEldest 6 = .ok (.getfield 9, 3) := by decide +kernel
theorem dX1_dropEldest_9 : decode cX1_dropEldest 9 = .ok (.iconst 0, 1) := by decide +kernel
theorem dX1_dropEldest_10 : decode cX1_dropEldest 10 = .ok (.bipush 11, 2) := by decide +kernel
theorem dX1_dropEldest_12 : decode cX1_dropEldest 12 = .ok (.invokestatic 32, 3) := by decide +kernel
theorem dX1_dropEldest_15 : decode cX1_dropEldest 15 = .ok (.aload_n 0, 1) := by decide +kernel
theorem dX1_dropEldest_16 : decode cX1_dropEldest 16 = .ok (.getfield 13, 3) := by decide +kernel
theorem dX1_dropEldest_19 : decode cX1_dropEldest 19 = .ok (.iconst 1, 1) := by decide +kernel
theorem dX1_dropEldest_20 : decode cX1_dropEldest 20 = .ok (.aload_n 0, 1) := by decide +kernel
theorem dX1_dropEldest_21 : decode cX1_dropEldest 21 = .ok (.getfield 13, 3) := by decide +kernel
theorem dX1_dropEldest_24 : decode cX1_dropEldest 24 = .ok (.iconst 0, 1) := by decide +kernel
theorem dX1_dropEldest_25 : decode cX1_dropEldest 25 = .ok (.bipush 11, 2) := by decide +kernel
theorem dX1_dropEldest_27 : decode cX1_dropEldest 27 = .ok (.invokestatic 32, 3) := by decide +kernel
theorem dX1_dropEldest_30 : decode cX1_dropEldest 30 = .ok (.aload_n 0, 1) := by decide +kernel
theorem dX1_dropEldest_31 : decode cX1_dropEldest 31 = .ok (.getfield 16, 3) := by decide +kernel
theorem dX1_dropEldest_34 : decode cX1_dropEldest 34 = .ok (.iconst 1, 1) := by decide +kernel
theorem dX1_dropEldest_35 : decode cX1_dropEldest 35 = .ok (.aload_n 0, 1) := by decide +kernel
theorem dX1_dropEldest_36 : decode cX1_dropEldest 36 = .ok (.getfield 16, 3) := by decide +kernel
theorem dX1_dropEldest_39 : decode cX1_dropEldest 39 = .ok (.iconst 0, 1) := by decide +kernel
theorem dX1_dropEldest_40 : decode cX1_dropEldest 40 = .ok (.bipush 11, 2) := by decide +kernel
theorem dX1_dropEldest_42 : decode cX1_dropEldest 42 = .ok (.invokestatic 32, 3) := by decide +kernel
theorem dX1_dropEldest_45 : decode cX1_dropEldest 45 = .ok (.aload_n 0, 1) := by decide +kernel
theorem dX1_dropEldest_46 : decode cX1_dropEldest 46 = .ok (.getfield 19, 3) := by decide +kernel
theorem dX1_dropEldest_49 : decode cX1_dropEldest 49 = .ok (.iconst 1, 1) := by decide +kernel
theorem dX1_dropEldest_50 : decode cX1_dropEldest 50 = .ok (.aload_n 0, 1) := by decide +kernel
theorem dX1_dropEldest_51 : decode cX1_dropEldest 51 = .ok (.getfield 19, 3) := by decide +kernel
theorem dX1_dropEldest_54 : decode cX1_dropEldest 54 = .ok (.iconst 0, 1) := by decide +kernel
theorem dX1_dropEldest_55 : decode cX1_dropEldest 55 = .ok (.bipush 11, 2) := by decide +kernel
theorem dX1_dropEldest_57 : decode cX1_dropEldest 57 = .ok (.invokestatic 32, 3) := by decide +kernel
theorem dX1_dropEldest_60 : decode cX1_dropEldest 60 = .ok (.aload_n 0, 1) := by decide +kernel
theorem dX1_dropEldest_61 : decode cX1_dropEldest 61 = .ok (.bipush 11, 2) := by decide +kernel
theorem dX1_dropEldest_63 : decode cX1_dropEldest 63 = .ok (.putfield 22, 3) := by decide +kernel
theorem dX1_dropEldest_66 : decode cX1_dropEldest 66 = .ok (.return_, 1) := by decide +kernel
set_option maxHeartbeats 4000000 in
set_option maxRecDepth 100000 in
theorem cn_X1_dropEldest {l : Launch} {cA : Nat → ClassId} {ad : Nat → Nat} {D : va_G} {E : Nat → Nat} {A : Nat → Prop}  {s0 sr : SS} {rr : Unit} (hf : f_X1_dropEldest s0 = some (rr, sr)) : zCon Ox Nx cA ad D E l yX1_dropEldest cX1_dropEldest 1 none 1 A [.ref (ad 7)] s0 none sr := by
  refine zstart (own := RX1) hOx (by decide) rfl (Nat.le_of_ble_eq_true rfl) ?_
  intro p e s m args below meth c X hP ls hl
  have hx := X.1
  have hb := X.2.1
  have hl : lv_has ls 1 [(0, .ref (ad 7))] := hl
  have hS : va_S A s.heap s.heap [] := va_S.rf
  rw [f_X1_dropEldest] at hf
  refine lv_aload_n hx hb dX1_dropEldest_0 rfl (lv_at hl 0 rfl) ?_
  refine gf_X1_9 X hP (k := 7) (q := 69) rfl dX1_dropEldest_1 rfl ?_
  refine lv_iconst (v := 1) hx hb dX1_dropEldest_4 (by decide) ?_
  refine lv_aload_n hx hb dX1_dropEldest_5 rfl (lv_at hl 0 rfl) ?_
  refine gf_X1_9 X hP (k := 7) (q := 69) rfl dX1_dropEldest_6 rfl ?_
  refine lv_iconst (v := 0) hx hb dX1_dropEldest_9 (by decide) ?_
  refine lv_bipush (v := 11) hx hb dX1_dropEldest_10 (by decide) ?_
  obtain ⟨g1, hf⟩ := zgd hf
  refine zcp_i X hP hS hl.1 (k0 := 69) (k1 := 69) ml_X1_32 nt_copy.1 nt_copy.2.1 nt_copy.2.2 g1 ⟨Nat.le_of_ble_eq_true rfl, Nat.le_of_ble_eq_true rfl⟩ dX1_dropEldest_12 (fun H locs hP hS => ?_)
  refine lv_aload_n hx hb dX1_dropEldest_15 rfl (lv_at hl 0 rfl) ?_
  refine gf_X1_13 X hP (k := 7) (q := 70) rfl dX1_dropEldest_16 rfl ?_
  refine lv_iconst (v := 1) hx hb dX1_dropEldest_19 (by decide) ?_
  refine lv_aload_n hx hb dX1_dropEldest_20 rfl (lv_at hl 0 rfl) ?_
  refine gf_X1_13 X hP (k := 7) (q := 70) rfl dX1_dropEldest_21 rfl ?_
  refine lv_iconst (v := 0) hx hb dX1_dropEldest_24 (by decide) ?_
  refine lv_bipush (v := 11) hx hb dX1_dropEldest_25 (by decide) ?_
  obtain ⟨g2, hf⟩ := zgd hf
  refine zcp_i X hP hS hl.1 (k0 := 70) (k1 := 70) ml_X1_32 nt_copy.1 nt_copy.2.1 nt_copy.2.2 g2 ⟨Nat.le_of_ble_eq_true rfl, Nat.le_of_ble_eq_true rfl⟩ dX1_dropEldest_27 (fun H locs hP hS => ?_)
  refine lv_aload_n hx hb dX1_dropEldest_30 rfl (lv_at hl 0 rfl) ?_
  refine gf_X1_16 X hP (k := 7) (q := 71) rfl dX1_dropEldest_31 rfl ?_
  refine lv_iconst (v := 1) hx hb dX1_dropEldest_34 (by decide) ?_
  refine lv_aload_n hx hb dX1_dropEldest_35 rfl (lv_at hl 0 rfl) ?_
  refine gf_X1_16 X hP (k := 7) (q := 71) rfl dX1_dropEldest_36 rfl ?_
  refine lv_iconst (v := 0) hx hb dX1_dropEldest_39 (by decide) ?_
  refine lv_bipush (v := 11) hx hb dX1_dropEldest_40 (by decide) ?_
  obtain ⟨g3, hf⟩ := zgd hf
  refine zcp_i X hP hS hl.1 (k0 := 71) (k1 := 71) ml_X1_32 nt_copy.1 nt_copy.2.1 nt_copy.2.2 g3 ⟨Nat.le_of_ble_eq_true rfl, Nat.le_of_ble_eq_true rfl⟩ dX1_dropEldest_42 (fun H locs hP hS => ?_)
  refine lv_aload_n hx hb dX1_dropEldest_45 rfl (lv_at hl 0 rfl) ?_
  refine gf_X1_19 X hP (k := 7) (q := 72) rfl dX1_dropEldest_46 rfl ?_
  refine lv_iconst (v := 1) hx hb dX1_dropEldest_49 (by decide) ?_
  refine lv_aload_n hx hb dX1_dropEldest_50 rfl (lv_at hl 0 rfl) ?_
  refine gf_X1_19 X hP (k := 7) (q := 72) rfl dX1_dropEldest_51 rfl ?_
  refine lv_iconst (v := 0) hx hb dX1_dropEldest_54 (by decide) ?_
  refine lv_bipush (v := 11) hx hb dX1_dropEldest_55 (by decide) ?_
  obtain ⟨g4, hf⟩ := zgd hf
  refine zcp_i X hP hS hl.1 (k0 := 72) (k1 := 72) ml_X1_32 nt_copy.1 nt_copy.2.1 nt_copy.2.2 g4 ⟨Nat.le_of_ble_eq_true rfl, Nat.le_of_ble_eq_true rfl⟩ dX1_dropEldest_57 (fun H locs hP hS => ?_)
  refine lv_aload_n hx hb dX1_dropEldest_60 rfl (lv_at hl 0 rfl) ?_
  refine lv_bipush (v := 11) hx hb dX1_dropEldest_61 (by decide) ?_
  refine pf_X1_22 X hP hS (k := 7) rfl dX1_dropEldest_63 (fun H locs hP hS => ?_)
  exact zret_v X hP hS hf dX1_dropEldest_66
theorem dX1_remember_0 : decode cX1_remember 0 = .ok (.aload_n 0, 1) := by decide +kernel
theorem dX1_remember_1 : decode cX1_remember 1 = .ok (.getfield 22, 3) := by decide +kernel
theorem dX1_remember_4 : decode cX1_remember 4 = .ok (.bipush 12, 2) := by decide +kernel
theorem dX1_remember_6 : decode cX1_remember 6 = .ok (.if_icmp .lt 7, 3) := by decide +kernel
theorem dX1_remember_9 : decode cX1_remember 9 = .ok (.aload_n 0, 1) := by decide +kernel
theorem dX1_remember_10 : decode cX1_remember 10 = .ok (.invokevirtual 29, 3) := by decide +kernel
theorem dX1_remember_13 : decode cX1_remember 13 = .ok (.aload_n 0, 1) := by decide +kernel
theorem dX1_remember_14 : decode cX1_remember 14 = .ok (.getfield 9, 3) := by decide +kernel
theorem dX1_remember_17 : decode cX1_remember 17 = .ok (.aload_n 0, 1) := by decide +kernel
theorem dX1_remember_18 : decode cX1_remember 18 = .ok (.getfield 22, 3) := by decide +kernel
theorem dX1_remember_21 : decode cX1_remember 21 = .ok (.iload_n 1, 1) := by decide +kernel
theorem dX1_remember_22 : decode cX1_remember 22 = .ok (.iastore, 1) := by decide +kernel
theorem dX1_remember_23 : decode cX1_remember 23 = .ok (.aload_n 0, 1) := by decide +kernel
theorem dX1_remember_24 : decode cX1_remember 24 = .ok (.getfield 13, 3) := by decide +kernel
theorem dX1_remember_27 : decode cX1_remember 27 = .ok (.aload_n 0, 1) := by decide +kernel
theorem dX1_remember_28 : decode cX1_remember 28 = .ok (.getfield 22, 3) := by decide +kernel
theorem dX1_remember_31 : decode cX1_remember 31 = .ok (.iload_n 2, 1) := by decide +kernel
theorem dX1_remember_32 : decode cX1_remember 32 = .ok (.iastore, 1) := by decide +kernel
theorem dX1_remember_33 : decode cX1_remember 33 = .ok (.aload_n 0, 1) := by decide +kernel
theorem dX1_remember_34 : decode cX1_remember 34 = .ok (.getfield 16, 3) := by decide +kernel
theorem dX1_remember_37 : decode cX1_remember 37 = .ok (.aload_n 0, 1) := by decide +kernel
theorem dX1_remember_38 : decode cX1_remember 38 = .ok (.getfield 22, 3) := by decide +kernel
theorem dX1_remember_41 : decode cX1_remember 41 = .ok (.iload_n 3, 1) := by decide +kernel
theorem dX1_remember_42 : decode cX1_remember 42 = .ok (.iastore, 1) := by decide +kernel
theorem dX1_remember_43 : decode cX1_remember 43 = .ok (.aload_n 0, 1) := by decide +kernel
theorem dX1_remember_44 : decode cX1_remember 44 = .ok (.getfield 19, 3) := by decide +kernel
theorem dX1_remember_47 : decode cX1_remember 47 = .ok (.aload_n 0, 1) := by decide +kernel
theorem dX1_remember_48 : decode cX1_remember 48 = .ok (.getfield 22, 3) := by decide +kernel
theorem dX1_remember_51 : decode cX1_remember 51 = .ok (.iload 4, 2) := by decide +kernel
theorem dX1_remember_53 : decode cX1_remember 53 = .ok (.iastore, 1) := by decide +kernel
theorem dX1_remember_54 : decode cX1_remember 54 = .ok (.aload_n 0, 1) := by decide +kernel
theorem dX1_remember_55 : decode cX1_remember 55 = .ok (.dup, 1) := by decide +kernel
theorem dX1_remember_56 : decode cX1_remember 56 = .ok (.getfield 22, 3) := by decide +kernel
theorem dX1_remember_59 : decode cX1_remember 59 = .ok (.iconst 1, 1) := by decide +kernel
theorem dX1_remember_60 : decode cX1_remember 60 = .ok (.iadd, 1) := by decide +kernel
theorem dX1_remember_61 : decode cX1_remember 61 = .ok (.putfield 22, 3) := by decide +kernel
theorem dX1_remember_64 : decode cX1_remember 64 = .ok (.aload_n 0, 1) := by decide +kernel
theorem dX1_remember_65 : decode cX1_remember 65 = .ok (.iconst 0, 1) := by decide +kernel
theorem dX1_remember_66 : decode cX1_remember 66 = .ok (.putfield 26, 3) := by decide +kernel
theorem dX1_remember_69 : decode cX1_remember 69 = .ok (.return_, 1) := by decide +kernel
set_option maxHeartbeats 4000000 in
set_option maxRecDepth 100000 in
theorem cn_X1_remember {l : Launch} {cA : Nat → ClassId} {ad : Nat → Nat} {D : va_G} {E : Nat → Nat} {A : Nat → Prop} {x1 : Int32} {x2 : Int32} {x3 : Int32} {x4 : Int32} {s0 sr : SS} {rr : Unit} (hf : f_X1_remember x1 x2 x3 x4 s0 = some (rr, sr)) : zCon Ox Nx cA ad D E l yX1_remember cX1_remember 5 none 2 A [.ref (ad 7), .int x1, .int x2, .int x3, .int x4] s0 none sr := by
  refine zstart (own := RX1) hOx (by decide) rfl (Nat.le_of_ble_eq_true rfl) ?_
  intro p e s m args below meth c X hP ls hl
  have hx := X.1
  have hb := X.2.1
  have hl : lv_has ls 5 [(0, .ref (ad 7)), (1, .int x1), (2, .int x2), (3, .int x3), (4, .int x4)] := hl
  have hS : va_S A s.heap s.heap [] := va_S.rf
  have hc_13 : ∀ (x1 : Int32) (x2 : Int32) (x3 : Int32) (x4 : Int32) (s1 : SS) (H : Heap) (locs : List Loc) (ls : Array Slot), lv_has ls 5 [(0, .ref (ad 7)), (1, .int x1), (2, .int x2), (3, .int x3), (4, .int x4)] → va_P D ZCL (zw Ox Nx cA ad s1) H → va_S A s.heap H locs → f_X1_remember_c13 x1 x2 x3 x4 s1 = some (rr, sr) → W p l e (zrm 2) s m args below meth c H locs 0 0 (MQ below (zQc Ox Nx cA ad D A none sr) args s 0 0 A) (F0 m 13 ls []) := by
    intro x1 x2 x3 x4 s1 H locs ls hl hP hS hf
    rw [f_X1_remember_c13] at hf
    refine lv_aload_n hx hb dX1_remember_13 rfl (lv_at hl 0 rfl) ?_
    refine gf_X1_9 X hP (k := 7) (q := 69) rfl dX1_remember_14 rfl ?_
    refine lv_aload_n hx hb dX1_remember_17 rfl (lv_at hl 0 rfl) ?_
    refine gf_X1_22 X hP (k := 7) rfl dX1_remember_18 ?_
    refine lv_iload_n hx hb dX1_remember_21 rfl (lv_at hl 1 rfl) ?_
    obtain ⟨g1, hf⟩ := zgd hf
    refine zast_i X hP hS (k := 69) (n := 12) (rs := []) rfl g1 dX1_remember_22 (fun H locs hP hS => ?_)
    refine lv_aload_n hx hb dX1_remember_23 rfl (lv_at hl 0 rfl) ?_
    refine gf_X1_13 X hP (k := 7) (q := 70) rfl dX1_remember_24 rfl ?_
    refine lv_aload_n hx hb dX1_remember_27 rfl (lv_at hl 0 rfl) ?_
    refine gf_X1_22 X hP (k := 7) rfl dX1_remember_28 ?_
    refine lv_iload_n hx hb dX1_remember_31 rfl (lv_at hl 2 rfl) ?_
    obtain ⟨g2, hf⟩ := zgd hf
    refine zast_i X hP hS (k := 70) (n := 12) (rs := []) rfl g2 dX1_remember_32 (fun H locs hP hS => ?_)
    refine lv_aload_n hx hb dX1_remember_33 rfl (lv_at hl 0 rfl) ?_
    refine gf_X1_16 X hP (k := 7) (q := 71) rfl dX1_remember_34 rfl ?_
    refine lv_aload_n hx hb dX1_remember_37 rfl (lv_at hl 0 rfl) ?_
    refine gf_X1_22 X hP (k := 7) rfl dX1_remember_38 ?_
    refine lv_iload_n hx hb dX1_remember_41 rfl (lv_at hl 3 rfl) ?_
    obtain ⟨g3, hf⟩ := zgd hf
    refine zast_i X hP hS (k := 71) (n := 12) (rs := []) rfl g3 dX1_remember_42 (fun H locs hP hS => ?_)
    refine lv_aload_n hx hb dX1_remember_43 rfl (lv_at hl 0 rfl) ?_
    refine gf_X1_19 X hP (k := 7) (q := 72) rfl dX1_remember_44 rfl ?_
    refine lv_aload_n hx hb dX1_remember_47 rfl (lv_at hl 0 rfl) ?_
    refine gf_X1_22 X hP (k := 7) rfl dX1_remember_48 ?_
    refine lv_iload hx hb dX1_remember_51 (lv_at hl 4 rfl) ?_
    obtain ⟨g4, hf⟩ := zgd hf
    refine zast_i X hP hS (k := 72) (n := 12) (rs := []) rfl g4 dX1_remember_53 (fun H locs hP hS => ?_)
    refine lv_aload_n hx hb dX1_remember_54 rfl (lv_at hl 0 rfl) ?_
    refine lv_dup hx hb dX1_remember_55 rfl ?_
    refine gf_X1_22 X hP (k := 7) rfl dX1_remember_56 ?_
    refine lv_iconst (v := 1) hx hb dX1_remember_59 (by decide) ?_
    refine lv_iadd hx hb dX1_remember_60 ?_
    refine pf_X1_22 X hP hS (k := 7) rfl dX1_remember_61 (fun H locs hP hS => ?_)
    refine lv_aload_n hx hb dX1_remember_64 rfl (lv_at hl 0 rfl) ?_
    refine lv_iconst (v := 0) hx hb dX1_remember_65 (by decide) ?_
    refine pf_X1_26 X hP hS (k := 7) rfl dX1_remember_66 (fun H locs hP hS => ?_)
    exact zret_v X hP hS hf dX1_remember_69
  rw [f_X1_remember] at hf
  refine lv_aload_n hx hb dX1_remember_0 rfl (lv_at hl 0 rfl) ?_
  refine gf_X1_22 X hP (k := 7) rfl dX1_remember_1 ?_
  refine lv_bipush (v := 12) hx hb dX1_remember_4 (by decide) ?_
  refine zicmp_lt (tgt := 13) hx hb dX1_remember_6 (by decide) hf (fun hf => ?_) (fun hf => ?_)
  · exact hc_13 x1 x2 x3 x4 s0 _ _ _ (lv_sub hl [0, 1, 2, 3, 4] rfl) hP hS hf
  · refine lv_aload_n hx hb dX1_remember_9 rfl (lv_at hl 0 rfl) ?_
    obtain ⟨r5, s6, h7, hf⟩ := zbd_some hf
    refine zcallV X hP hS hl.1 (k := 7) (As := []) (rest := []) (cn_X1_dropEldest h7) cw_X1_dropEldest zp_1 rfl (by decide) rfl ml_X1_29 (by decide) rfl rfl (Nat.le_of_ble_eq_true rfl) dX1_remember_10 (fun H locs hP hS => ?_)
    exact hc_13 x1 x2 x3 x4 s6 _ _ _ (lv_sub hl [0, 1, 2, 3, 4] rfl) hP hS hf
theorem dX9_signAt_0 : decode cX9_signAt 0 = .ok (.iload_n 1, 1) := by decide +kernel
theorem dX9_signAt_1 : decode cX9_signAt 1 = .ok (.ifCond .lt 11, 3) := by decide +kernel
theorem dX9_signAt_4 : decode cX9_signAt 4 = .ok (.iload_n 1, 1) := by decide +kernel
theorem dX9_signAt_5 : decode cX9_signAt 5 = .ok (.aload_n 0, 1) := by decide +kernel
theorem dX9_signAt_6 : decode cX9_signAt 6 = .ok (.getfield 15, 3) := by decide +kernel
theorem dX9_signAt_9 : decode cX9_signAt 9 = .ok (.if_icmp .lt 7, 3) := by decide +kernel
theorem dX9_signAt_12 : decode cX9_signAt 12 = .ok (.iconst (-1), 1) := by decide +kernel
theorem dX9_signAt_13 : decode cX9_signAt 13 = .ok (.goto 9, 3) := by decide +kernel
theorem dX9_signAt_16 : decode cX9_signAt 16 = .ok (.aload_n 0, 1) := by decide +kernel
theorem dX9_signAt_17 : decode cX9_signAt 17 = .ok (.getfield 11, 3) := by decide +kernel
theorem dX9_signAt_20 : decode cX9_signAt 20 = .ok (.iload_n 1, 1) := by decide +kernel
theorem dX9_signAt_21 : decode cX9_signAt 21 = .ok (.caload, 1) := by decide +kernel
theorem dX9_signAt_22 : decode cX9_signAt 22 = .ok (.ireturn, 1) := by decide +kernel
set_option maxHeartbeats 4000000 in
set_option maxRecDepth 100000 in
theorem cn_X9_signAt {l : Launch} {cA : Nat → ClassId} {ad : Nat → Nat} {D : va_G} {E : Nat → Nat} {A : Nat → Prop} {x1 : Int32} {s0 sr : SS} {rr : Int32} (hf : f_X9_signAt x1 s0 = some (rr, sr)) : zCon Ox Nx cA ad D E l yX9_signAt cX9_signAt 2 (some .int) 0 A [.ref (ad 8), .int x1] s0 (some (.int rr)) sr := by
  refine zstart (own := RX9) hOx (by decide) rfl (Nat.le_of_ble_eq_true rfl) ?_
  intro p e s m args below meth c X hP ls hl
  have hx := X.1
  have hb := X.2.1
  have hl : lv_has ls 2 [(0, .ref (ad 8)), (1, .int x1)] := hl
  have hS : va_S A s.heap s.heap [] := va_S.rf
  rw [f_X9_signAt] at hf
  refine lv_iload_n hx hb dX9_signAt_0 rfl (lv_at hl 1 rfl) ?_
  refine zif_lt (tgt := 12) hx hb dX9_signAt_1 (by decide) hf (fun hf => ?_) (fun hf => ?_)
  · refine lv_iconst (v := (-1)) hx hb dX9_signAt_12 (by decide) ?_
    refine lv_goto (tgt := 22) hx hb dX9_signAt_13 (by decide) ?_
    exact zret_i X hP hS hf rfl dX9_signAt_22
  · refine lv_iload_n hx hb dX9_signAt_4 rfl (lv_at hl 1 rfl) ?_
    refine lv_aload_n hx hb dX9_signAt_5 rfl (lv_at hl 0 rfl) ?_
    refine gf_X9_15 X hP (k := 8) rfl dX9_signAt_6 ?_
    refine zicmp_lt (tgt := 16) hx hb dX9_signAt_9 (by decide) hf (fun hf => ?_) (fun hf => ?_)
    · refine lv_aload_n hx hb dX9_signAt_16 rfl (lv_at hl 0 rfl) ?_
      refine gf_X9_11 X hP (k := 8) (q := 73) rfl dX9_signAt_17 rfl ?_
      refine lv_iload_n hx hb dX9_signAt_20 rfl (lv_at hl 1 rfl) ?_
      obtain ⟨g1, hf⟩ := zgd hf
      refine zald_c X hP (k := 73) (n := 80) (rs := []) rfl g1 dX9_signAt_21 ?_
      exact zret_i X hP hS hf rfl dX9_signAt_22
    · refine lv_iconst (v := (-1)) hx hb dX9_signAt_12 (by decide) ?_
      refine lv_goto (tgt := 22) hx hb dX9_signAt_13 (by decide) ?_
      exact zret_i X hP hS hf rfl dX9_signAt_22
theorem dX9_wordLength_0 : decode cX9_wordLength 0 = .ok (.iconst 0, 1) := by decide +kernel
theorem dX9_wordLength_1 : decode cX9_wordLength 1 = .ok (.istore_n 2, 1) := by decide +kernel
theorem dX9_wordLength_2 : decode cX9_wordLength 2 = .ok (.iload_n 2, 1) := by decide +kernel
theorem dX9_wordLength_3 : decode cX9_wordLength 3 = .ok (.bipush 80, 2) := by decide +kernel
theorem dX9_wordLength_5 : decode cX9_wordLength 5 = .ok (.if_icmp .ge 33, 3) := by decide +kernel
theorem dX9_wordLength_8 : decode cX9_wordLength 8 = .ok (.aload_n 0, 1) := by decide +kernel
theorem dX9_wordLength_9 : decode cX9_wordLength 9 = .ok (.iload_n 1, 1) := by decide +kernel
theorem dX9_wordLength_10 : decode cX9_wordLength 10 = .ok (.iload_n 2, 1) := by decide +kernel
theorem dX9_wordLength_11 : decode cX9_wordLength 11 = .ok (.iadd, 1) := by decide +kernel
theorem dX9_wordLength_12 : decode cX9_wordLength 12 = .ok (.invokevirtual 19, 3) := by decide +kernel
theorem dX9_wordLength_15 : decode cX9_wordLength 15 = .ok (.bipush 97, 2) := by decide +kernel
theorem dX9_wordLength_17 : decode cX9_wordLength 17 = .ok (.if_icmp .lt 21, 3) := by decide +kernel
theorem dX9_wordLength_20 : decode cX9_wordLength 20 = .ok (.aload_n 0, 1) := by decide +kernel
theorem dX9_wordLength_21 : decode cX9_wordLength 21 = .ok (.iload_n 1, 1) := by decide +kernel
theorem dX9_wordLength_22 : decode cX9_wordLength 22 = .ok (.iload_n 2, 1) := by decide +kernel
theorem dX9_wordLength_23 : decode cX9_wordLength 23 = .ok (.iadd, 1) := by decide +kernel
theorem dX9_wordLength_24 : decode cX9_wordLength 24 = .ok (.invokevirtual 19, 3) := by decide +kernel
theorem dX9_wordLength_27 : decode cX9_wordLength 27 = .ok (.bipush 122, 2) := by decide +kernel
theorem dX9_wordLength_29 : decode cX9_wordLength 29 = .ok (.if_icmp .gt 9, 3) := by decide +kernel
theorem dX9_wordLength_32 : decode cX9_wordLength 32 = .ok (.iinc 2 1, 3) := by decide +kernel
theorem dX9_wordLength_35 : decode cX9_wordLength 35 = .ok (.goto (-33), 3) := by decide +kernel
theorem dX9_wordLength_38 : decode cX9_wordLength 38 = .ok (.iload_n 2, 1) := by decide +kernel
theorem dX9_wordLength_39 : decode cX9_wordLength 39 = .ok (.ireturn, 1) := by decide +kernel
set_option maxHeartbeats 4000000 in
set_option maxRecDepth 100000 in
theorem cn_X9_wordLength {l : Launch} {cA : Nat → ClassId} {ad : Nat → Nat} {D : va_G} {E : Nat → Nat} {A : Nat → Prop} {x1 : Int32} {s0 sr : SS} {rr : Int32} (hf : f_X9_wordLength x1 s0 = some (rr, sr)) : zCon Ox Nx cA ad D E l yX9_wordLength cX9_wordLength 3 (some .int) 1 A [.ref (ad 8), .int x1] s0 (some (.int rr)) sr := by
  refine zstart (own := RX9) hOx (by decide) rfl (Nat.le_of_ble_eq_true rfl) ?_
  intro p e s m args below meth c X hP ls hl
  have hx := X.1
  have hb := X.2.1
  have hl : lv_has ls 3 [(0, .ref (ad 8)), (1, .int x1)] := hl
  have hS : va_S A s.heap s.heap [] := va_S.rf
  have hc_2 : ∀ (n2 : Nat) (x1 : Int32) (x2 : Int32) (s1 : SS) (H : Heap) (locs : List Loc) (ls : Array Slot), lv_has ls 3 [(0, .ref (ad 8)), (1, .int x1), (2, .int x2)] → va_P D ZCL (zw Ox Nx cA ad s1) H → va_S A s.heap H locs → f_X9_wordLength_c2 n2 x1 x2 s1 = some (rr, sr) → W p l e (zrm 1) s m args below meth c H locs 0 0 (MQ below (zQc Ox Nx cA ad D A (some (.int rr)) sr) args s 0 0 A) (F0 m 2 ls []) := by
    intro n2
    induction n2 with
    | zero =>
      intro x1 x2 s1 H locs ls hl hP hS hf
      rw [f_X9_wordLength_c2] at hf
      cases hf
    | succ n2 ih2 =>
      intro x1 x2 s1 H locs ls hl hP hS hf
      rw [f_X9_wordLength_c2] at hf
      refine lv_iload_n hx hb dX9_wordLength_2 rfl (lv_at hl 2 rfl) ?_
      refine lv_bipush (v := 80) hx hb dX9_wordLength_3 (by decide) ?_
      refine zicmp_ge (tgt := 38) hx hb dX9_wordLength_5 (by decide) hf (fun hf => ?_) (fun hf => ?_)
      · refine lv_iload_n hx hb dX9_wordLength_38 rfl (lv_at hl 2 rfl) ?_
        exact zret_i X hP hS hf rfl dX9_wordLength_39
      · refine lv_aload_n hx hb dX9_wordLength_8 rfl (lv_at hl 0 rfl) ?_
        refine lv_iload_n hx hb dX9_wordLength_9 rfl (lv_at hl 1 rfl) ?_
        refine lv_iload_n hx hb dX9_wordLength_10 rfl (lv_at hl 2 rfl) ?_
        refine lv_iadd hx hb dX9_wordLength_11 ?_
        obtain ⟨r1, s2, h3, hf⟩ := zbd_some hf
        refine zcallV X hP hS hl.1 (k := 8) (As := [.int (x1 + x2)]) (rest := []) (cn_X9_signAt h3) cw_X9_signAt zp_9 rfl (by decide) rfl ml_X9_19 (by decide) rfl rfl (Nat.le_of_ble_eq_true rfl) dX9_wordLength_12 (fun H locs hP hS => ?_)
        refine lv_bipush (v := 97) hx hb dX9_wordLength_15 (by decide) ?_
        refine zicmp_lt (tgt := 38) hx hb dX9_wordLength_17 (by decide) hf (fun hf => ?_) (fun hf => ?_)
        · refine lv_iload_n hx hb dX9_wordLength_38 rfl (lv_at hl 2 rfl) ?_
          exact zret_i X hP hS hf rfl dX9_wordLength_39
        · refine lv_aload_n hx hb dX9_wordLength_20 rfl (lv_at hl 0 rfl) ?_
          refine lv_iload_n hx hb dX9_wordLength_21 rfl (lv_at hl 1 rfl) ?_
          refine lv_iload_n hx hb dX9_wordLength_22 rfl (lv_at hl 2 rfl) ?_
          refine lv_iadd hx hb dX9_wordLength_23 ?_
          obtain ⟨r4, s5, h6, hf⟩ := zbd_some hf
          refine zcallV X hP hS hl.1 (k := 8) (As := [.int (x1 + x2)]) (rest := []) (cn_X9_signAt h6) cw_X9_signAt zp_9 rfl (by decide) rfl ml_X9_19 (by decide) rfl rfl (Nat.le_of_ble_eq_true rfl) dX9_wordLength_24 (fun H locs hP hS => ?_)
          refine lv_bipush (v := 122) hx hb dX9_wordLength_27 (by decide) ?_
          refine zicmp_gt (tgt := 38) hx hb dX9_wordLength_29 (by decide) hf (fun hf => ?_) (fun hf => ?_)
          · refine lv_iload_n hx hb dX9_wordLength_38 rfl (lv_at hl 2 rfl) ?_
            exact zret_i X hP hS hf rfl dX9_wordLength_39
          · refine lv_iinc (v := (x2 + 1)) (lv' := [(2, .int (x2 + 1)), (0, .ref (ad 8)), (1, .int x1)]) hx hb dX9_wordLength_32 hl (k := 2) rfl rfl (by decide) rfl (fun ls hl => ?_)
            refine lv_goto (tgt := 2) hx hb dX9_wordLength_35 (by decide) ?_
            exact ih2 x1 (x2 + 1) s5 _ _ _ (lv_sub hl [1, 2, 0] rfl) hP hS hf
  rw [f_X9_wordLength] at hf
  refine lv_iconst (v := 0) hx hb dX9_wordLength_0 (by decide) ?_
  refine lv_istore_n (lv' := [(2, .int 0), (0, .ref (ad 8)), (1, .int x1)]) hx hb dX9_wordLength_1 rfl hl (by decide) rfl (fun ls hl => ?_)
  exact hc_2 ZF x1 0 s0 _ _ _ (lv_sub hl [1, 2, 0] rfl) hP hS hf
theorem dX9_isFigure_0 : decode cX9_isFigure 0 = .ok (.iload_n 0, 1) := by decide +kernel
theorem dX9_isFigure_1 : decode cX9_isFigure 1 = .ok (.bipush 48, 2) := by decide +kernel
theorem dX9_isFigure_3 : decode cX9_isFigure 3 = .ok (.if_icmp .lt 13, 3) := by decide +kernel
theorem dX9_isFigure_6 : decode cX9_isFigure 6 = .ok (.iload_n 0, 1) := by decide +kernel
theorem dX9_isFigure_7 : decode cX9_isFigure 7 = .ok (.bipush 57, 2) := by decide +kernel
theorem dX9_isFigure_9 : decode cX9_isFigure 9 = .ok (.if_icmp .gt 7, 3) := by decide +kernel
theorem dX9_isFigure_12 : decode cX9_isFigure 12 = .ok (.iconst 1, 1) := by decide +kernel
theorem dX9_isFigure_13 : decode cX9_isFigure 13 = .ok (.goto 4, 3) := by decide +kernel
theorem dX9_isFigure_16 : decode cX9_isFigure 16 = .ok (.iconst 0, 1) := by decide +kernel
theorem dX9_isFigure_17 : decode cX9_isFigure 17 = .ok (.ireturn, 1) := by decide +kernel
set_option maxHeartbeats 4000000 in
set_option maxRecDepth 100000 in
theorem cn_X9_isFigure {l : Launch} {cA : Nat → ClassId} {ad : Nat → Nat} {D : va_G} {E : Nat → Nat} {A : Nat → Prop} {x0 : Int32} {s0 sr : SS} {rr : Int32} (hf : f_X9_isFigure x0 s0 = some (rr, sr)) : zCon Ox Nx cA ad D E l yX9_isFigure cX9_isFigure 1 (some .boolean) 0 A [.int x0] s0 (some (.int rr)) sr := by
  refine zstart (own := RX9) hOx (by decide) rfl (Nat.le_of_ble_eq_true rfl) ?_
  intro p e s m args below meth c X hP ls hl
  have hx := X.1
  have hb := X.2.1
  have hl : lv_has ls 1 [(0, .int x0)] := hl
  have hS : va_S A s.heap s.heap [] := va_S.rf
  rw [f_X9_isFigure] at hf
  refine lv_iload_n hx hb dX9_isFigure_0 rfl (lv_at hl 0 rfl) ?_
  refine lv_bipush (v := 48) hx hb dX9_isFigure_1 (by decide) ?_
  refine zicmp_lt (tgt := 16) hx hb dX9_isFigure_3 (by decide) hf (fun hf => ?_) (fun hf => ?_)
  · refine lv_iconst (v := 0) hx hb dX9_isFigure_16 (by decide) ?_
    exact zret_i X hP hS hf rfl dX9_isFigure_17
  · refine lv_iload_n hx hb dX9_isFigure_6 rfl (lv_at hl 0 rfl) ?_
    refine lv_bipush (v := 57) hx hb dX9_isFigure_7 (by decide) ?_
    refine zicmp_gt (tgt := 16) hx hb dX9_isFigure_9 (by decide) hf (fun hf => ?_) (fun hf => ?_)
    · refine lv_iconst (v := 0) hx hb dX9_isFigure_16 (by decide) ?_
      exact zret_i X hP hS hf rfl dX9_isFigure_17
    · refine lv_iconst (v := 1) hx hb dX9_isFigure_12 (by decide) ?_
      refine lv_goto (tgt := 17) hx hb dX9_isFigure_13 (by decide) ?_
      exact zret_i X hP hS hf rfl dX9_isFigure_17
theorem dX2_rightSigns_0 : decode cX2_rightSigns 0 = .ok (.iconst 0, 1) := by decide +kernel
theorem dX2_rightSigns_1 : decode cX2_rightSigns 1 = .ok (.istore_n 2, 1) := by decide +kernel
theorem dX2_rightSigns_2 : decode cX2_rightSigns 2 = .ok (.iload_n 2, 1) := by decide +kernel
theorem dX2_rightSigns_3 : decode cX2_rightSigns 3 = .ok (.iconst 4, 1) := by decide +kernel
theorem dX2_rightSigns_4 : decode cX2_rightSigns 4 = .ok (.if_icmp .ge 41, 3) := by decide +kernel
theorem dX2_rightSigns_7 : decode cX2_rightSigns 7 = .ok (.aload_n 0, 1) := by decide +kernel
theorem dX2_rightSigns_8 : decode cX2_rightSigns 8 = .ok (.iload_n 1, 1) := by decide +kernel
theorem dX2_rightSigns_9 : decode cX2_rightSigns 9 = .ok (.iload_n 2, 1) := by decide +kernel
theorem dX2_rightSigns_10 : decode cX2_rightSigns 10 = .ok (.iadd, 1) := by decide +kernel
theorem dX2_rightSigns_11 : decode cX2_rightSigns 11 = .ok (.invokevirtual 39, 3) := by decide +kernel
theorem dX2_rightSigns_14 : decode cX2_rightSigns 14 = .ok (.istore_n 3, 1) := by decide +kernel
theorem dX2_rightSigns_15 : decode cX2_rightSigns 15 = .ok (.iload_n 2, 1) := by decide +kernel
theorem dX2_rightSigns_16 : decode cX2_rightSigns 16 = .ok (.iconst 2, 1) := by decide +kernel
theorem dX2_rightSigns_17 : decode cX2_rightSigns 17 = .ok (.irem, 1) := by decide +kernel
theorem dX2_rightSigns_18 : decode cX2_rightSigns 18 = .ok (.ifCond .ne 12, 3) := by decide +kernel
theorem dX2_rightSigns_21 : decode cX2_rightSigns 21 = .ok (.iload_n 3, 1) := by decide +kernel
theorem dX2_rightSigns_22 : decode cX2_rightSigns 22 = .ok (.bipush 32, 2) := by decide +kernel
theorem dX2_rightSigns_24 : decode cX2_rightSigns 24 = .ok (.if_icmp .eq 15, 3) := by decide +kernel
theorem dX2_rightSigns_27 : decode cX2_rightSigns 27 = .ok (.goto 10, 3) := by decide +kernel
theorem dX2_rightSigns_30 : decode cX2_rightSigns 30 = .ok (.iload_n 3, 1) := by decide +kernel
theorem dX2_rightSigns_31 : decode cX2_rightSigns 31 = .ok (.invokestatic 56, 3) := by decide +kernel
theorem dX2_rightSigns_34 : decode cX2_rightSigns 34 = .ok (.ifCond .ne 5, 3) := by decide +kernel
theorem dX2_rightSigns_37 : decode cX2_rightSigns 37 = .ok (.iload_n 2, 1) := by decide +kernel
theorem dX2_rightSigns_38 : decode cX2_rightSigns 38 = .ok (.ireturn, 1) := by decide +kernel
theorem dX2_rightSigns_39 : decode cX2_rightSigns 39 = .ok (.iinc 2 1, 3) := by decide +kernel
theorem dX2_rightSigns_42 : decode cX2_rightSigns 42 = .ok (.goto (-40), 3) := by decide +kernel
theorem dX2_rightSigns_45 : decode cX2_rightSigns 45 = .ok (.iconst 4, 1) := by decide +kernel
theorem dX2_rightSigns_46 : decode cX2_rightSigns 46 = .ok (.ireturn, 1) := by decide +kernel
set_option maxHeartbeats 4000000 in
set_option maxRecDepth 100000 in
theorem cn_X2_rightSigns {l : Launch} {cA : Nat → ClassId} {ad : Nat → Nat} {D : va_G} {E : Nat → Nat} {A : Nat → Prop} {x1 : Int32} {s0 sr : SS} {rr : Int32} (hf : f_X2_rightSigns x1 s0 = some (rr, sr)) : zCon Ox Nx cA ad D E l yX2_rightSigns cX2_rightSigns 4 (some .int) 1 A [.ref (ad 8), .int x1] s0 (some (.int rr)) sr := by
  refine zstart (own := RX2) hOx (by decide) rfl (Nat.le_of_ble_eq_true rfl) ?_
  intro p e s m args below meth c X hP ls hl
  have hx := X.1
  have hb := X.2.1
  have hl : lv_has ls 4 [(0, .ref (ad 8)), (1, .int x1)] := hl
  have hS : va_S A s.heap s.heap [] := va_S.rf
  have hc_2 : ∀ (n2 : Nat) (x1 : Int32) (x2 : Int32) (s1 : SS) (H : Heap) (locs : List Loc) (ls : Array Slot), lv_has ls 4 [(0, .ref (ad 8)), (1, .int x1), (2, .int x2)] → va_P D ZCL (zw Ox Nx cA ad s1) H → va_S A s.heap H locs → f_X2_rightSigns_c2 n2 x1 x2 s1 = some (rr, sr) → W p l e (zrm 1) s m args below meth c H locs 0 0 (MQ below (zQc Ox Nx cA ad D A (some (.int rr)) sr) args s 0 0 A) (F0 m 2 ls []) := by
    intro n2
    induction n2 with
    | zero =>
      intro x1 x2 s1 H locs ls hl hP hS hf
      rw [f_X2_rightSigns_c2] at hf
      cases hf
    | succ n2 ih2 =>
      have hc_39 : ∀ (x1 : Int32) (x2 : Int32) (s1 : SS) (H : Heap) (locs : List Loc) (ls : Array Slot), lv_has ls 4 [(0, .ref (ad 8)), (1, .int x1), (2, .int x2)] → va_P D ZCL (zw Ox Nx cA ad s1) H → va_S A s.heap H locs → f_X2_rightSigns_c39 (f_X2_rightSigns_c2 n2) x1 x2 s1 = some (rr, sr) → W p l e (zrm 1) s m args below meth c H locs 0 0 (MQ below (zQc Ox Nx cA ad D A (some (.int rr)) sr) args s 0 0 A) (F0 m 39 ls []) := by
        intro x1 x2 s1 H locs ls hl hP hS hf
        rw [f_X2_rightSigns_c39] at hf
        refine lv_iinc (v := (x2 + 1)) (lv' := [(2, .int (x2 + 1)), (0, .ref (ad 8)), (1, .int x1)]) hx hb dX2_rightSigns_39 hl (k := 2) rfl rfl (by decide) rfl (fun ls hl => ?_)
        refine lv_goto (tgt := 2) hx hb dX2_rightSigns_42 (by decide) ?_
        exact ih2 x1 (x2 + 1) s1 _ _ _ (lv_sub hl [1, 2, 0] rfl) hP hS hf
      intro x1 x2 s1 H locs ls hl hP hS hf
      rw [f_X2_rightSigns_c2] at hf
      refine lv_iload_n hx hb dX2_rightSigns_2 rfl (lv_at hl 2 rfl) ?_
      refine lv_iconst (v := 4) hx hb dX2_rightSigns_3 (by decide) ?_
      refine zicmp_ge (tgt := 45) hx hb dX2_rightSigns_4 (by decide) hf (fun hf => ?_) (fun hf => ?_)
      · refine lv_iconst (v := 4) hx hb dX2_rightSigns_45 (by decide) ?_
        exact zret_i X hP hS hf rfl dX2_rightSigns_46
      · refine lv_aload_n hx hb dX2_rightSigns_7 rfl (lv_at hl 0 rfl) ?_
        refine lv_iload_n hx hb dX2_rightSigns_8 rfl (lv_at hl 1 rfl) ?_
        refine lv_iload_n hx hb dX2_rightSigns_9 rfl (lv_at hl 2 rfl) ?_
        refine lv_iadd hx hb dX2_rightSigns_10 ?_
        obtain ⟨r1, s2, h3, hf⟩ := zbd_some hf
        refine zcallV X hP hS hl.1 (k := 8) (As := [.int (x1 + x2)]) (rest := []) (cn_X9_signAt h3) cw_X9_signAt zp_9 rfl (by decide) rfl ml_X2_39 (by decide) rfl rfl (Nat.le_of_ble_eq_true rfl) dX2_rightSigns_11 (fun H locs hP hS => ?_)
        refine lv_istore_n (lv' := [(3, .int r1), (0, .ref (ad 8)), (1, .int x1), (2, .int x2)]) hx hb dX2_rightSigns_14 rfl hl (by decide) rfl (fun ls hl => ?_)
        refine lv_iload_n hx hb dX2_rightSigns_15 rfl (lv_at hl 3 rfl) ?_
        refine lv_iconst (v := 2) hx hb dX2_rightSigns_16 (by decide) ?_
        refine lv_irem hx hb dX2_rightSigns_17 (by decide) ?_
        refine zif_ne (tgt := 30) hx hb dX2_rightSigns_18 (by decide) hf (fun hf => ?_) (fun hf => ?_)
        · refine lv_iload_n hx hb dX2_rightSigns_30 rfl (lv_at hl 0 rfl) ?_
          obtain ⟨r4, s5, h6, hf⟩ := zbd_some hf
          refine zcallS X hP hS hl.1 (As := [.int r1]) (rest := []) (cn_X9_isFigure h6) cw_X9_isFigure ml_X2_56 (by decide) rfl rfl (Nat.le_of_ble_eq_true rfl) dX2_rightSigns_31 (fun H locs hP hS => ?_)
          refine zif_ne (tgt := 39) hx hb dX2_rightSigns_34 (by decide) hf (fun hf => ?_) (fun hf => ?_)
          · exact hc_39 x1 x2 s5 _ _ _ (lv_sub hl [1, 2, 3] rfl) hP hS hf
          · refine lv_iload_n hx hb dX2_rightSigns_37 rfl (lv_at hl 3 rfl) ?_
            exact zret_i X hP hS hf rfl dX2_rightSigns_38
        · refine lv_iload_n hx hb dX2_rightSigns_21 rfl (lv_at hl 0 rfl) ?_
          refine lv_bipush (v := 32) hx hb dX2_rightSigns_22 (by decide) ?_
          refine zicmp_eq (tgt := 39) hx hb dX2_rightSigns_24 (by decide) hf (fun hf => ?_) (fun hf => ?_)
          · exact hc_39 x1 x2 s2 _ _ _ (lv_sub hl [1, 2, 3] rfl) hP hS hf
          · refine lv_goto (tgt := 37) hx hb dX2_rightSigns_27 (by decide) ?_
            refine lv_iload_n hx hb dX2_rightSigns_37 rfl (lv_at hl 3 rfl) ?_
            exact zret_i X hP hS hf rfl dX2_rightSigns_38
  rw [f_X2_rightSigns] at hf
  refine lv_iconst (v := 0) hx hb dX2_rightSigns_0 (by decide) ?_
  refine lv_istore_n (lv' := [(2, .int 0), (0, .ref (ad 8)), (1, .int x1)]) hx hb dX2_rightSigns_1 rfl hl (by decide) rfl (fun ls hl => ?_)
  exact hc_2 ZF x1 0 s0 _ _ _ (lv_sub hl [1, 2, 0] rfl) hP hS hf
theorem dX3_classAt_0 : decode cX3_classAt 0 = .ok (.lload_n 1, 1) := by decide +kernel
theorem dX3_classAt_1 : decode cX3_classAt 1 = .ok (.lconst 0, 1) := by decide +kernel
theorem dX3_classAt_2 : decode cX3_classAt 2 = .ok (.lcmp, 1) := by decide +kernel
theorem dX3_classAt_3 : decode cX3_classAt 3 = .ok (.ifCond .lt 13, 3) := by decide +kernel
theorem dX3_classAt_6 : decode cX3_classAt 6 = .ok (.lload_n 1, 1) := by decide +kernel
theorem dX3_classAt_7 : decode cX3_classAt 7 = .ok (.aload_n 0, 1) := by decide +kernel
theorem dX3_classAt_8 : decode cX3_classAt 8 = .ok (.getfield 25, 3) := by decide +kernel
theorem dX3_classAt_11 : decode cX3_classAt 11 = .ok (.i2l, 1) := by decide +kernel
theorem dX3_classAt_12 : decode cX3_classAt 12 = .ok (.lcmp, 1) := by decide +kernel
theorem dX3_classAt_13 : decode cX3_classAt 13 = .ok (.ifCond .lt 7, 3) := by decide +kernel
theorem dX3_classAt_16 : decode cX3_classAt 16 = .ok (.aconst_null, 1) := by decide +kernel
theorem dX3_classAt_17 : decode cX3_classAt 17 = .ok (.goto 10, 3) := by decide +kernel
theorem dX3_classAt_20 : decode cX3_classAt 20 = .ok (.aload_n 0, 1) := by decide +kernel
theorem dX3_classAt_21 : decode cX3_classAt 21 = .ok (.getfield 20, 3) := by decide +kernel
theorem dX3_classAt_24 : decode cX3_classAt 24 = .ok (.lload_n 1, 1) := by decide +kernel
theorem dX3_classAt_25 : decode cX3_classAt 25 = .ok (.l2i, 1) := by decide +kernel
theorem dX3_classAt_26 : decode cX3_classAt 26 = .ok (.aaload, 1) := by decide +kernel
theorem dX3_classAt_27 : decode cX3_classAt 27 = .ok (.areturn, 1) := by decide +kernel
set_option maxHeartbeats 4000000 in
set_option maxRecDepth 100000 in
theorem cn_X3_classAt {l : Launch} {cA : Nat → ClassId} {ad : Nat → Nat} {D : va_G} {E : Nat → Nat} {A : Nat → Prop} {k0 : Nat} {x1 : Int64} {s0 sr : SS} {rr : Option Nat} (hf : f_X3_classAt k0 x1 s0 = some (rr, sr)) : zCon Ox Nx cA ad D E l yX3_classAt cX3_classAt 3 (some (.object "BlownSpaces$Klass")) 0 A [.ref (ad k0), .long x1] s0 (some (va_rf (rr.map ad))) sr := by
  refine zstart (own := RX3) hOx (by decide) rfl (Nat.le_of_ble_eq_true rfl) ?_
  intro p e s m args below meth c X hP ls hl
  have hx := X.1
  have hb := X.2.1
  have hl : lv_has ls 3 [(0, .ref (ad k0)), (1, .long x1)] := hl
  have hS : va_S A s.heap s.heap [] := va_S.rf
  rw [f_X3_classAt] at hf
  obtain ⟨gp0, hf⟩ := zgd hf
  refine lv_lload_n hx hb dX3_classAt_0 rfl (lv_at hl 1 rfl) ?_
  refine lv_lconst (v := 0) hx hb dX3_classAt_1 (by decide) ?_
  refine W.lcmp hx hb dX3_classAt_2 ?_
  refine zif_lt (tgt := 16) hx hb dX3_classAt_3 (by decide) hf (fun hf => ?_) (fun hf => ?_)
  · refine lv_null hx hb dX3_classAt_16 ?_
    refine lv_goto (tgt := 27) hx hb dX3_classAt_17 (by decide) ?_
    exact zret_n X hP hS hf dX3_classAt_27
  · refine lv_lload_n hx hb dX3_classAt_6 rfl (lv_at hl 1 rfl) ?_
    refine lv_aload_n hx hb dX3_classAt_7 rfl (lv_at hl 0 rfl) ?_
    refine gf_X3_25 X hP (k := k0) gp0 dX3_classAt_8 ?_
    refine lv_i2l hx hb dX3_classAt_11 rfl ?_
    refine W.lcmp hx hb dX3_classAt_12 ?_
    refine zif_lt (tgt := 20) hx hb dX3_classAt_13 (by decide) hf (fun hf => ?_) (fun hf => ?_)
    · refine lv_aload_n hx hb dX3_classAt_20 rfl (lv_at hl 0 rfl) ?_
      refine gf_X3_20 X hP (k := k0) gp0 dX3_classAt_21 rfl ?_
      refine lv_lload_n hx hb dX3_classAt_24 rfl (lv_at hl 1 rfl) ?_
      refine lv_l2i hx hb dX3_classAt_25 rfl ?_
      obtain ⟨g1, hf⟩ := zgd hf
      obtain ⟨g3, hf⟩ := zgd hf
      obtain ⟨n2, rn2, on2, in2⟩ := zok_of g1
      refine zald_q X hP zlr_x (k := (zrf Ox k0 1)) on2 in2 dX3_classAt_26 rfl ?_
      exact zret_r X hP hS hf dX3_classAt_27
    · refine lv_null hx hb dX3_classAt_16 ?_
      refine lv_goto (tgt := 27) hx hb dX3_classAt_17 (by decide) ?_
      exact zret_n X hP hS hf dX3_classAt_27
theorem dX4_clear_0 : decode cX4_clear 0 = .ok (.aload_n 0, 1) := by decide +kernel
theorem dX4_clear_1 : decode cX4_clear 1 = .ok (.iconst 0, 1) := by decide +kernel
theorem dX4_clear_2 : decode cX4_clear 2 = .ok (.putfield 17, 3) := by decide +kernel
theorem dX4_clear_5 : decode cX4_clear 5 = .ok (.aload_n 0, 1) := by decide +kernel
theorem dX4_clear_6 : decode cX4_clear 6 = .ok (.iconst 0, 1) := by decide +kernel
theorem dX4_clear_7 : decode cX4_clear 7 = .ok (.putfield 21, 3) := by decide +kernel
theorem dX4_clear_10 : decode cX4_clear 10 = .ok (.aload_n 0, 1) := by decide +kernel
theorem dX4_clear_11 : decode cX4_clear 11 = .ok (.getfield 11, 3) := by decide +kernel
theorem dX4_clear_14 : decode cX4_clear 14 = .ok (.lconst 0, 1) := by decide +kernel
theorem dX4_clear_15 : decode cX4_clear 15 = .ok (.invokestatic 24, 3) := by decide +kernel
theorem dX4_clear_18 : decode cX4_clear 18 = .ok (.return_, 1) := by decide +kernel
set_option maxHeartbeats 4000000 in
set_option maxRecDepth 100000 in
theorem cn_X4_clear {l : Launch} {cA : Nat → ClassId} {ad : Nat → Nat} {D : va_G} {E : Nat → Nat} {A : Nat → Prop} {k0 : Nat} {s0 sr : SS} {rr : Unit} (hf : f_X4_clear k0 s0 = some (rr, sr)) : zCon Ox Nx cA ad D E l yX4_clear cX4_clear 1 none 1 A [.ref (ad k0)] s0 none sr := by
  refine zstart (own := RX4) hOx (by decide) rfl (Nat.le_of_ble_eq_true rfl) ?_
  intro p e s m args below meth c X hP ls hl
  have hx := X.1
  have hb := X.2.1
  have hl : lv_has ls 1 [(0, .ref (ad k0))] := hl
  have hS : va_S A s.heap s.heap [] := va_S.rf
  rw [f_X4_clear] at hf
  obtain ⟨gp0, hf⟩ := zgd hf
  refine lv_aload_n hx hb dX4_clear_0 rfl (lv_at hl 0 rfl) ?_
  refine lv_iconst (v := 0) hx hb dX4_clear_1 (by decide) ?_
  refine pf_X4_17 X hP hS (k := k0) gp0 dX4_clear_2 (fun H locs hP hS => ?_)
  refine lv_aload_n hx hb dX4_clear_5 rfl (lv_at hl 0 rfl) ?_
  refine lv_iconst (v := 0) hx hb dX4_clear_6 (by decide) ?_
  refine pf_X4_21 X hP hS (k := k0) gp0 dX4_clear_7 (fun H locs hP hS => ?_)
  refine lv_aload_n hx hb dX4_clear_10 rfl (lv_at hl 0 rfl) ?_
  refine gf_X4_11 X hP (k := k0) gp0 dX4_clear_11 rfl ?_
  refine lv_lconst (v := 0) hx hb dX4_clear_14 (by decide) ?_
  obtain ⟨r1, s2, h3, hf⟩ := zbd_some hf
  refine zcallS X hP hS hl.1 (As := [.ref (ad (zrf Ox k0 2)), .long 0]) (rest := []) (cn_J7_fill_d0a16 h3) cw_J7_fill_d0a16 ml_X4_24 (by decide) rfl rfl (Nat.le_of_ble_eq_true rfl) dX4_clear_15 (fun H locs hP hS => ?_)
  exact zret_v X hP hS hf dX4_clear_18
theorem dX3_bring_0 : decode cX3_bring 0 = .ok (.aload_n 0, 1) := by decide +kernel
theorem dX3_bring_1 : decode cX3_bring 1 = .ok (.getfield 25, 3) := by decide +kernel
theorem dX3_bring_4 : decode cX3_bring 4 = .ok (.bipush 8, 2) := by decide +kernel
theorem dX3_bring_6 : decode cX3_bring 6 = .ok (.if_icmp .lt 5, 3) := by decide +kernel
theorem dX3_bring_9 : decode cX3_bring 9 = .ok (.aconst_null, 1) := by decide +kernel
theorem dX3_bring_10 : decode cX3_bring 10 = .ok (.areturn, 1) := by decide +kernel
theorem dX3_bring_11 : decode cX3_bring 11 = .ok (.aload_n 0, 1) := by decide +kernel
theorem dX3_bring_12 : decode cX3_bring 12 = .ok (.getfield 20, 3) := by decide +kernel
theorem dX3_bring_15 : decode cX3_bring 15 = .ok (.aload_n 0, 1) := by decide +kernel
theorem dX3_bring_16 : decode cX3_bring 16 = .ok (.getfield 25, 3) := by decide +kernel
theorem dX3_bring_19 : decode cX3_bring 19 = .ok (.aaload, 1) := by decide +kernel
theorem dX3_bring_20 : decode cX3_bring 20 = .ok (.astore_n 1, 1) := by decide +kernel
theorem dX3_bring_21 : decode cX3_bring 21 = .ok (.aload_n 1, 1) := by decide +kernel
theorem dX3_bring_22 : decode cX3_bring 22 = .ok (.invokevirtual 29, 3) := by decide +kernel
theorem dX3_bring_25 : decode cX3_bring 25 = .ok (.aload_n 0, 1) := by decide +kernel
theorem dX3_bring_26 : decode cX3_bring 26 = .ok (.dup, 1) := by decide +kernel
theorem dX3_bring_27 : decode cX3_bring 27 = .ok (.getfield 25, 3) := by decide +kernel
theorem dX3_bring_30 : decode cX3_bring 30 = .ok (.iconst 1, 1) := by decide +kernel
theorem dX3_bring_31 : decode cX3_bring 31 = .ok (.iadd, 1) := by decide +kernel
theorem dX3_bring_32 : decode cX3_bring 32 = .ok (.putfield 25, 3) := by decide +kernel
theorem dX3_bring_35 : decode cX3_bring 35 = .ok (.aload_n 1, 1) := by decide +kernel
theorem dX3_bring_36 : decode cX3_bring 36 = .ok (.areturn, 1) := by decide +kernel
set_option maxHeartbeats 4000000 in
set_option maxRecDepth 100000 in
theorem cn_X3_bring {l : Launch} {cA : Nat → ClassId} {ad : Nat → Nat} {D : va_G} {E : Nat → Nat} {A : Nat → Prop} {k0 : Nat} {s0 sr : SS} {rr : Option Nat} (hf : f_X3_bring k0 s0 = some (rr, sr)) : zCon Ox Nx cA ad D E l yX3_bring cX3_bring 2 (some (.object "BlownSpaces$Klass")) 2 A [.ref (ad k0)] s0 (some (va_rf (rr.map ad))) sr := by
  refine zstart (own := RX3) hOx (by decide) rfl (Nat.le_of_ble_eq_true rfl) ?_
  intro p e s m args below meth c X hP ls hl
  have hx := X.1
  have hb := X.2.1
  have hl : lv_has ls 2 [(0, .ref (ad k0))] := hl
  have hS : va_S A s.heap s.heap [] := va_S.rf
  rw [f_X3_bring] at hf
  obtain ⟨gp0, hf⟩ := zgd hf
  refine lv_aload_n hx hb dX3_bring_0 rfl (lv_at hl 0 rfl) ?_
  refine gf_X3_25 X hP (k := k0) gp0 dX3_bring_1 ?_
  refine lv_bipush (v := 8) hx hb dX3_bring_4 (by decide) ?_
  refine zicmp_lt (tgt := 11) hx hb dX3_bring_6 (by decide) hf (fun hf => ?_) (fun hf => ?_)
  · refine lv_aload_n hx hb dX3_bring_11 rfl (lv_at hl 0 rfl) ?_
    refine gf_X3_20 X hP (k := k0) gp0 dX3_bring_12 rfl ?_
    refine lv_aload_n hx hb dX3_bring_15 rfl (lv_at hl 0 rfl) ?_
    refine gf_X3_25 X hP (k := k0) gp0 dX3_bring_16 ?_
    obtain ⟨g1, hf⟩ := zgd hf
    obtain ⟨g3, hf⟩ := zgd hf
    obtain ⟨n2, rn2, on2, in2⟩ := zok_of g1
    refine zald_q X hP zlr_x (k := (zrf Ox k0 1)) on2 in2 dX3_bring_19 rfl ?_
    refine lv_astore_n (lv' := [(1, .ref (ad (zrr Ox (zrf Ox k0 1) (s0.1 k0 2)))), (0, .ref (ad k0))]) hx hb dX3_bring_20 rfl hl (by decide) rfl (fun ls hl => ?_)
    refine lv_aload_n hx hb dX3_bring_21 rfl (lv_at hl 0 rfl) ?_
    obtain ⟨r4, s5, h6, hf⟩ := zbd_some hf
    refine zcallV X hP hS hl.1 (k := (zrr Ox (zrf Ox k0 1) (s0.1 k0 2))) (As := []) (rest := []) (cn_X4_clear h6) cw_X4_clear zp_4 g3 (by decide) rfl ml_X3_29 (by decide) rfl rfl (Nat.le_of_ble_eq_true rfl) dX3_bring_22 (fun H locs hP hS => ?_)
    refine lv_aload_n hx hb dX3_bring_25 rfl (lv_at hl 1 rfl) ?_
    refine lv_dup hx hb dX3_bring_26 rfl ?_
    refine gf_X3_25 X hP (k := k0) gp0 dX3_bring_27 ?_
    refine lv_iconst (v := 1) hx hb dX3_bring_30 (by decide) ?_
    refine lv_iadd hx hb dX3_bring_31 ?_
    refine pf_X3_25 X hP hS (k := k0) gp0 dX3_bring_32 (fun H locs hP hS => ?_)
    refine lv_aload_n hx hb dX3_bring_35 rfl (lv_at hl 0 rfl) ?_
    exact zret_r X hP hS hf dX3_bring_36
  · refine lv_null hx hb dX3_bring_9 ?_
    exact zret_n X hP hS hf dX3_bring_10
theorem dX7_takeOver_0 : decode cX7_takeOver 0 = .ok (.aload_n 0, 1) := by decide +kernel
theorem dX7_takeOver_1 : decode cX7_takeOver 1 = .ok (.aload_n 1, 1) := by decide +kernel
theorem dX7_takeOver_2 : decode cX7_takeOver 2 = .ok (.getfield 21, 3) := by decide +kernel
theorem dX7_takeOver_5 : decode cX7_takeOver 5 = .ok (.putfield 21, 3) := by decide +kernel
theorem dX7_takeOver_8 : decode cX7_takeOver 8 = .ok (.aload_n 0, 1) := by decide +kernel
theorem dX7_takeOver_9 : decode cX7_takeOver 9 = .ok (.aload_n 1, 1) := by decide +kernel
theorem dX7_takeOver_10 : decode cX7_takeOver 10 = .ok (.getfield 28, 3) := by decide +kernel
theorem dX7_takeOver_13 : decode cX7_takeOver 13 = .ok (.putfield 28, 3) := by decide +kernel
theorem dX7_takeOver_16 : decode cX7_takeOver 16 = .ok (.aload_n 0, 1) := by decide +kernel
theorem dX7_takeOver_17 : decode cX7_takeOver 17 = .ok (.aload_n 1, 1) := by decide +kernel
theorem dX7_takeOver_18 : decode cX7_takeOver 18 = .ok (.getfield 25, 3) := by decide +kernel
theorem dX7_takeOver_21 : decode cX7_takeOver 21 = .ok (.putfield 25, 3) := by decide +kernel
theorem dX7_takeOver_24 : decode cX7_takeOver 24 = .ok (.aload_n 1, 1) := by decide +kernel
theorem dX7_takeOver_25 : decode cX7_takeOver 25 = .ok (.getfield 9, 3) := by decide +kernel
theorem dX7_takeOver_28 : decode cX7_takeOver 28 = .ok (.iconst 0, 1) := by decide +kernel
theorem dX7_takeOver_29 : decode cX7_takeOver 29 = .ok (.aload_n 0, 1) := by decide +kernel
theorem dX7_takeOver_30 : decode cX7_takeOver 30 = .ok (.getfield 9, 3) := by decide +kernel
theorem dX7_takeOver_33 : decode cX7_takeOver 33 = .ok (.iconst 0, 1) := by decide +kernel
theorem dX7_takeOver_34 : decode cX7_takeOver 34 = .ok (.iconst 3, 1) := by decide +kernel
theorem dX7_takeOver_35 : decode cX7_takeOver 35 = .ok (.invokestatic 78, 3) := by decide +kernel
theorem dX7_takeOver_38 : decode cX7_takeOver 38 = .ok (.aload_n 1, 1) := by decide +kernel
theorem dX7_takeOver_39 : decode cX7_takeOver 39 = .ok (.getfield 15, 3) := by decide +kernel
theorem dX7_takeOver_42 : decode cX7_takeOver 42 = .ok (.iconst 0, 1) := by decide +kernel
theorem dX7_takeOver_43 : decode cX7_takeOver 43 = .ok (.aload_n 0, 1) := by decide +kernel
theorem dX7_takeOver_44 : decode cX7_takeOver 44 = .ok (.getfield 15, 3) := by decide +kernel
theorem dX7_takeOver_47 : decode cX7_takeOver 47 = .ok (.iconst 0, 1) := by decide +kernel
theorem dX7_takeOver_48 : decode cX7_takeOver 48 = .ok (.iconst 3, 1) := by decide +kernel
theorem dX7_takeOver_49 : decode cX7_takeOver 49 = .ok (.invokestatic 78, 3) := by decide +kernel
theorem dX7_takeOver_52 : decode cX7_takeOver 52 = .ok (.aload_n 1, 1) := by decide +kernel
theorem dX7_takeOver_53 : decode cX7_takeOver 53 = .ok (.getfield 18, 3) := by decide +kernel
theorem dX7_takeOver_56 : decode cX7_takeOver 56 = .ok (.iconst 0, 1) := by decide +kernel
theorem dX7_takeOver_57 : decode cX7_takeOver 57 = .ok (.aload_n 0, 1) := by decide +kernel
theorem dX7_takeOver_58 : decode cX7_takeOver 58 = .ok (.getfield 18, 3) := by decide +kernel
theorem dX7_takeOver_61 : decode cX7_takeOver 61 = .ok (.iconst 0, 1) := by decide +kernel
theorem dX7_takeOver_62 : decode cX7_takeOver 62 = .ok (.iconst 3, 1) := by decide +kernel
theorem dX7_takeOver_63 : decode cX7_takeOver 63 = .ok (.invokestatic 78, 3) := by decide +kernel
theorem dX7_takeOver_66 : decode cX7_takeOver 66 = .ok (.return_, 1) := by decide +kernel
set_option maxHeartbeats 4000000 in
set_option maxRecDepth 100000 in
theorem cn_X7_takeOver {l : Launch} {cA : Nat → ClassId} {ad : Nat → Nat} {D : va_G} {E : Nat → Nat} {A : Nat → Prop} {k0 : Nat} {k1 : Nat} {s0 sr : SS} {rr : Unit} (hf : f_X7_takeOver k0 k1 s0 = some (rr, sr)) : zCon Ox Nx cA ad D E l yX7_takeOver cX7_takeOver 2 none 1 A [.ref (ad k0), .ref (ad k1)] s0 none sr := by
  refine zstart (own := RX7) hOx (by decide) rfl (Nat.le_of_ble_eq_true rfl) ?_
  intro p e s m args below meth c X hP ls hl
  have hx := X.1
  have hb := X.2.1
  have hl : lv_has ls 2 [(0, .ref (ad k0)), (1, .ref (ad k1))] := hl
  have hS : va_S A s.heap s.heap [] := va_S.rf
  rw [f_X7_takeOver] at hf
  obtain ⟨gp0, hf⟩ := zgd hf
  obtain ⟨gp1, hf⟩ := zgd hf
  refine lv_aload_n hx hb dX7_takeOver_0 rfl (lv_at hl 0 rfl) ?_
  refine lv_aload_n hx hb dX7_takeOver_1 rfl (lv_at hl 1 rfl) ?_
  refine gf_X7_21 X hP (k := k1) gp1 dX7_takeOver_2 ?_
  refine pf_X7_21 X hP hS (k := k0) gp0 dX7_takeOver_5 (fun H locs hP hS => ?_)
  refine lv_aload_n hx hb dX7_takeOver_8 rfl (lv_at hl 0 rfl) ?_
  refine lv_aload_n hx hb dX7_takeOver_9 rfl (lv_at hl 1 rfl) ?_
  refine gf_X7_28 X hP (k := k1) gp1 dX7_takeOver_10 ?_
  refine pf_X7_28 X hP hS (k := k0) gp0 dX7_takeOver_13 (fun H locs hP hS => ?_)
  refine lv_aload_n hx hb dX7_takeOver_16 rfl (lv_at hl 0 rfl) ?_
  refine lv_aload_n hx hb dX7_takeOver_17 rfl (lv_at hl 1 rfl) ?_
  refine gf_X7_25 X hP (k := k1) gp1 dX7_takeOver_18 ?_
  refine pf_X7_25 X hP hS (k := k0) gp0 dX7_takeOver_21 (fun H locs hP hS => ?_)
  refine lv_aload_n hx hb dX7_takeOver_24 rfl (lv_at hl 1 rfl) ?_
  refine gf_X7_9 X hP (k := k1) gp1 dX7_takeOver_25 rfl ?_
  refine lv_iconst (v := 0) hx hb dX7_takeOver_28 (by decide) ?_
  refine lv_aload_n hx hb dX7_takeOver_29 rfl (lv_at hl 0 rfl) ?_
  refine gf_X7_9 X hP (k := k0) gp0 dX7_takeOver_30 rfl ?_
  refine lv_iconst (v := 0) hx hb dX7_takeOver_33 (by decide) ?_
  refine lv_iconst (v := 3) hx hb dX7_takeOver_34 (by decide) ?_
  obtain ⟨g1, hf⟩ := zgd hf
  refine zcp_i X hP hS hl.1 (k0 := (zrf Ox k1 3)) (k1 := (zrf Ox k0 3)) ml_X7_78 nt_copy.1 nt_copy.2.1 nt_copy.2.2 g1 ⟨Nat.le_of_ble_eq_true rfl, Nat.le_of_ble_eq_true rfl⟩ dX7_takeOver_35 (fun H locs hP hS => ?_)
  refine lv_aload_n hx hb dX7_takeOver_38 rfl (lv_at hl 1 rfl) ?_
  refine gf_X7_15 X hP (k := k1) gp1 dX7_takeOver_39 rfl ?_
  refine lv_iconst (v := 0) hx hb dX7_takeOver_42 (by decide) ?_
  refine lv_aload_n hx hb dX7_takeOver_43 rfl (lv_at hl 0 rfl) ?_
  refine gf_X7_15 X hP (k := k0) gp0 dX7_takeOver_44 rfl ?_
  refine lv_iconst (v := 0) hx hb dX7_takeOver_47 (by decide) ?_
  refine lv_iconst (v := 3) hx hb dX7_takeOver_48 (by decide) ?_
  obtain ⟨g2, hf⟩ := zgd hf
  refine zcp_i X hP hS hl.1 (k0 := (zrf Ox k1 4)) (k1 := (zrf Ox k0 4)) ml_X7_78 nt_copy.1 nt_copy.2.1 nt_copy.2.2 g2 ⟨Nat.le_of_ble_eq_true rfl, Nat.le_of_ble_eq_true rfl⟩ dX7_takeOver_49 (fun H locs hP hS => ?_)
  refine lv_aload_n hx hb dX7_takeOver_52 rfl (lv_at hl 1 rfl) ?_
  refine gf_X7_18 X hP (k := k1) gp1 dX7_takeOver_53 rfl ?_
  refine lv_iconst (v := 0) hx hb dX7_takeOver_56 (by decide) ?_
  refine lv_aload_n hx hb dX7_takeOver_57 rfl (lv_at hl 0 rfl) ?_
  refine gf_X7_18 X hP (k := k0) gp0 dX7_takeOver_58 rfl ?_
  refine lv_iconst (v := 0) hx hb dX7_takeOver_61 (by decide) ?_
  refine lv_iconst (v := 3) hx hb dX7_takeOver_62 (by decide) ?_
  obtain ⟨g3, hf⟩ := zgd hf
  refine zcp_i X hP hS hl.1 (k0 := (zrf Ox k1 5)) (k1 := (zrf Ox k0 5)) ml_X7_78 nt_copy.1 nt_copy.2.1 nt_copy.2.2 g3 ⟨Nat.le_of_ble_eq_true rfl, Nat.le_of_ble_eq_true rfl⟩ dX7_takeOver_63 (fun H locs hP hS => ?_)
  exact zret_v X hP hS hf dX7_takeOver_66
theorem dX3_takeOver_0 : decode cX3_takeOver 0 = .ok (.aload_n 0, 1) := by decide +kernel
theorem dX3_takeOver_1 : decode cX3_takeOver 1 = .ok (.getfield 12, 3) := by decide +kernel
theorem dX3_takeOver_4 : decode cX3_takeOver 4 = .ok (.aload_n 1, 1) := by decide +kernel
theorem dX3_takeOver_5 : decode cX3_takeOver 5 = .ok (.getfield 12, 3) := by decide +kernel
theorem dX3_takeOver_8 : decode cX3_takeOver 8 = .ok (.invokevirtual 32, 3) := by decide +kernel
theorem dX3_takeOver_11 : decode cX3_takeOver 11 = .ok (.aload_n 0, 1) := by decide +kernel
theorem dX3_takeOver_12 : decode cX3_takeOver 12 = .ok (.aload_n 1, 1) := by decide +kernel
theorem dX3_takeOver_13 : decode cX3_takeOver 13 = .ok (.getfield 25, 3) := by decide +kernel
theorem dX3_takeOver_16 : decode cX3_takeOver 16 = .ok (.putfield 25, 3) := by decide +kernel
theorem dX3_takeOver_19 : decode cX3_takeOver 19 = .ok (.iconst 0, 1) := by decide +kernel
theorem dX3_takeOver_20 : decode cX3_takeOver 20 = .ok (.istore_n 2, 1) := by decide +kernel
theorem dX3_takeOver_21 : decode cX3_takeOver 21 = .ok (.iload_n 2, 1) := by decide +kernel
theorem dX3_takeOver_22 : decode cX3_takeOver 22 = .ok (.aload_n 0, 1) := by decide +kernel
theorem dX3_takeOver_23 : decode cX3_takeOver 23 = .ok (.getfield 25, 3) := by decide +kernel
theorem dX3_takeOver_26 : decode cX3_takeOver 26 = .ok (.if_icmp .ge 71, 3) := by decide +kernel
theorem dX3_takeOver_29 : decode cX3_takeOver 29 = .ok (.aload_n 0, 1) := by decide +kernel
theorem dX3_takeOver_30 : decode cX3_takeOver 30 = .ok (.getfield 20, 3) := by decide +kernel
theorem dX3_takeOver_33 : decode cX3_takeOver 33 = .ok (.iload_n 2, 1) := by decide +kernel
theorem dX3_takeOver_34 : decode cX3_takeOver 34 = .ok (.aaload, 1) := by decide +kernel
theorem dX3_takeOver_35 : decode cX3_takeOver 35 = .ok (.aload_n 1, 1) := by decide +kernel
theorem dX3_takeOver_36 : decode cX3_takeOver 36 = .ok (.getfield 20, 3) := by decide +kernel
theorem dX3_takeOver_39 : decode cX3_takeOver 39 = .ok (.iload_n 2, 1) := by decide +kernel
theorem dX3_takeOver_40 : decode cX3_takeOver 40 = .ok (.aaload, 1) := by decide +kernel
theorem dX3_takeOver_41 : decode cX3_takeOver 41 = .ok (.getfield 36, 3) := by decide +kernel
theorem dX3_takeOver_44 : decode cX3_takeOver 44 = .ok (.putfield 36, 3) := by decide +kernel
theorem dX3_takeOver_47 : decode cX3_takeOver 47 = .ok (.aload_n 0, 1) := by decide +kernel
theorem dX3_takeOver_48 : decode cX3_takeOver 48 = .ok (.getfield 20, 3) := by decide +kernel
theorem dX3_takeOver_51 : decode cX3_takeOver 51 = .ok (.iload_n 2, 1) := by decide +kernel
theorem dX3_takeOver_52 : decode cX3_takeOver 52 = .ok (.aaload, 1) := by decide +kernel
theorem dX3_takeOver_53 : decode cX3_takeOver 53 = .ok (.aload_n 1, 1) := by decide +kernel
theorem dX3_takeOver_54 : decode cX3_takeOver 54 = .ok (.getfield 20, 3) := by decide +kernel
theorem dX3_takeOver_57 : decode cX3_takeOver 57 = .ok (.iload_n 2, 1) := by decide +kernel
theorem dX3_takeOver_58 : decode cX3_takeOver 58 = .ok (.aaload, 1) := by decide +kernel
theorem dX3_takeOver_59 : decode cX3_takeOver 59 = .ok (.getfield 39, 3) := by decide +kernel
theorem dX3_takeOver_62 : decode cX3_takeOver 62 = .ok (.putfield 39, 3) := by decide +kernel
theorem dX3_takeOver_65 : decode cX3_takeOver 65 = .ok (.aload_n 1, 1) := by decide +kernel
theorem dX3_takeOver_66 : decode cX3_takeOver 66 = .ok (.getfield 20, 3) := by decide +kernel
theorem dX3_takeOver_69 : decode cX3_takeOver 69 = .ok (.iload_n 2, 1) := by decide +kernel
theorem dX3_takeOver_70 : decode cX3_takeOver 70 = .ok (.aaload, 1) := by decide +kernel
theorem dX3_takeOver_71 : decode cX3_takeOver 71 = .ok (.getfield 42, 3) := by decide +kernel
theorem dX3_takeOver_74 : decode cX3_takeOver 74 = .ok (.iconst 0, 1) := by decide +kernel
theorem dX3_takeOver_75 : decode cX3_takeOver 75 = .ok (.aload_n 0, 1) := by decide +kernel
theorem dX3_takeOver_76 : decode cX3_takeOver 76 = .ok (.getfield 20, 3) := by decide +kernel
theorem dX3_takeOver_79 : decode cX3_takeOver 79 = .ok (.iload_n 2, 1) := by decide +kernel
theorem dX3_takeOver_80 : decode cX3_takeOver 80 = .ok (.aaload, 1) := by decide +kernel
theorem dX3_takeOver_81 : decode cX3_takeOver 81 = .ok (.getfield 42, 3) := by decide +kernel
theorem dX3_takeOver_84 : decode cX3_takeOver 84 = .ok (.iconst 0, 1) := by decide +kernel
theorem dX3_takeOver_85 : decode cX3_takeOver 85 = .ok (.sipush 462, 3) := by decide +kernel
theorem dX3_takeOver_88 : decode cX3_takeOver 88 = .ok (.invokestatic 48, 3) := by decide +kernel
theorem dX3_takeOver_91 : decode cX3_takeOver 91 = .ok (.iinc 2 1, 3) := by decide +kernel
theorem dX3_takeOver_94 : decode cX3_takeOver 94 = .ok (.goto (-73), 3) := by decide +kernel
theorem dX3_takeOver_97 : decode cX3_takeOver 97 = .ok (.return_, 1) := by decide +kernel
set_option maxHeartbeats 4000000 in
set_option maxRecDepth 100000 in
theorem cn_X3_takeOver {l : Launch} {cA : Nat → ClassId} {ad : Nat → Nat} {D : va_G} {E : Nat → Nat} {A : Nat → Prop} {k0 : Nat} {k1 : Nat} {s0 sr : SS} {rr : Unit} (hf : f_X3_takeOver k0 k1 s0 = some (rr, sr)) : zCon Ox Nx cA ad D E l yX3_takeOver cX3_takeOver 3 none 2 A [.ref (ad k0), .ref (ad k1)] s0 none sr := by
  refine zstart (own := RX3) hOx (by decide) rfl (Nat.le_of_ble_eq_true rfl) ?_
  intro p e s m args below meth c X hP ls hl
  have hx := X.1
  have hb := X.2.1
  have hl : lv_has ls 3 [(0, .ref (ad k0)), (1, .ref (ad k1))] := hl
  have hS : va_S A s.heap s.heap [] := va_S.rf
  have hc_21 : ∀ (n21 : Nat) (k0 : Nat) (k1 : Nat) (x2 : Int32) (s1 : SS) (H : Heap) (locs : List Loc) (ls : Array Slot), lv_has ls 3 [(0, .ref (ad k0)), (1, .ref (ad k1)), (2, .int x2)] → va_P D ZCL (zw Ox Nx cA ad s1) H → va_S A s.heap H locs → f_X3_takeOver_c21 n21 k0 k1 x2 s1 = some (rr, sr) → W p l e (zrm 2) s m args below meth c H locs 0 0 (MQ below (zQc Ox Nx cA ad D A none sr) args s 0 0 A) (F0 m 21 ls []) := by
    intro n21
    induction n21 with
    | zero =>
      intro k0 k1 x2 s1 H locs ls hl hP hS hf
      rw [f_X3_takeOver_c21] at hf
      cases hf
    | succ n21 ih21 =>
      intro k0 k1 x2 s1 H locs ls hl hP hS hf
      rw [f_X3_takeOver_c21] at hf
      obtain ⟨gp0, hf⟩ := zgd hf
      obtain ⟨gp1, hf⟩ := zgd hf
      refine lv_iload_n hx hb dX3_takeOver_21 rfl (lv_at hl 2 rfl) ?_
      refine lv_aload_n hx hb dX3_takeOver_22 rfl (lv_at hl 0 rfl) ?_
      refine gf_X3_25 X hP (k := k0) gp0 dX3_takeOver_23 ?_
      refine zicmp_ge (tgt := 97) hx hb dX3_takeOver_26 (by decide) hf (fun hf => ?_) (fun hf => ?_)
      · exact zret_v X hP hS hf dX3_takeOver_97
      · refine lv_aload_n hx hb dX3_takeOver_29 rfl (lv_at hl 0 rfl) ?_
        refine gf_X3_20 X hP (k := k0) gp0 dX3_takeOver_30 rfl ?_
        refine lv_iload_n hx hb dX3_takeOver_33 rfl (lv_at hl 2 rfl) ?_
        obtain ⟨g6, hf⟩ := zgd hf
        obtain ⟨g8, hf⟩ := zgd hf
        obtain ⟨n7, rn7, on7, in7⟩ := zok_of g6
        refine zald_q X hP zlr_x (k := (zrf Ox k0 1)) on7 in7 dX3_takeOver_34 rfl ?_
        refine lv_aload_n hx hb dX3_takeOver_35 rfl (lv_at hl 1 rfl) ?_
        refine gf_X3_20 X hP (k := k1) gp1 dX3_takeOver_36 rfl ?_
        refine lv_iload_n hx hb dX3_takeOver_39 rfl (lv_at hl 2 rfl) ?_
        obtain ⟨g9, hf⟩ := zgd hf
        obtain ⟨g11, hf⟩ := zgd hf
        obtain ⟨n10, rn10, on10, in10⟩ := zok_of g9
        refine zald_q X hP zlr_x (k := (zrf Ox k1 1)) on10 in10 dX3_takeOver_40 rfl ?_
        refine gf_X3_36 X hP (k := (zrr Ox (zrf Ox k1 1) x2)) g11 dX3_takeOver_41 ?_
        refine pf_X3_36 X hP hS (k := (zrr Ox (zrf Ox k0 1) x2)) g8 dX3_takeOver_44 (fun H locs hP hS => ?_)
        refine lv_aload_n hx hb dX3_takeOver_47 rfl (lv_at hl 0 rfl) ?_
        refine gf_X3_20 X hP (k := k0) gp0 dX3_takeOver_48 rfl ?_
        refine lv_iload_n hx hb dX3_takeOver_51 rfl (lv_at hl 2 rfl) ?_
        obtain ⟨g12, hf⟩ := zgd hf
        obtain ⟨g14, hf⟩ := zgd hf
        obtain ⟨n13, rn13, on13, in13⟩ := zok_of g12
        refine zald_q X hP zlr_x (k := (zrf Ox k0 1)) on13 in13 dX3_takeOver_52 rfl ?_
        refine lv_aload_n hx hb dX3_takeOver_53 rfl (lv_at hl 1 rfl) ?_
        refine gf_X3_20 X hP (k := k1) gp1 dX3_takeOver_54 rfl ?_
        refine lv_iload_n hx hb dX3_takeOver_57 rfl (lv_at hl 2 rfl) ?_
        obtain ⟨g15, hf⟩ := zgd hf
        obtain ⟨g17, hf⟩ := zgd hf
        obtain ⟨n16, rn16, on16, in16⟩ := zok_of g15
        refine zald_q X hP zlr_x (k := (zrf Ox k1 1)) on16 in16 dX3_takeOver_58 rfl ?_
        refine gf_X3_39 X hP (k := (zrr Ox (zrf Ox k1 1) x2)) g17 dX3_takeOver_59 ?_
        refine pf_X3_39 X hP hS (k := (zrr Ox (zrf Ox k0 1) x2)) g14 dX3_takeOver_62 (fun H locs hP hS => ?_)
        refine lv_aload_n hx hb dX3_takeOver_65 rfl (lv_at hl 1 rfl) ?_
        refine gf_X3_20 X hP (k := k1) gp1 dX3_takeOver_66 rfl ?_
        refine lv_iload_n hx hb dX3_takeOver_69 rfl (lv_at hl 2 rfl) ?_
        obtain ⟨g18, hf⟩ := zgd hf
        obtain ⟨g20, hf⟩ := zgd hf
        obtain ⟨n19, rn19, on19, in19⟩ := zok_of g18
        refine zald_q X hP zlr_x (k := (zrf Ox k1 1)) on19 in19 dX3_takeOver_70 rfl ?_
        refine gf_X3_42 X hP (k := (zrr Ox (zrf Ox k1 1) x2)) g20 dX3_takeOver_71 rfl ?_
        refine lv_iconst (v := 0) hx hb dX3_takeOver_74 (by decide) ?_
        refine lv_aload_n hx hb dX3_takeOver_75 rfl (lv_at hl 0 rfl) ?_
        refine gf_X3_20 X hP (k := k0) gp0 dX3_takeOver_76 rfl ?_
        refine lv_iload_n hx hb dX3_takeOver_79 rfl (lv_at hl 2 rfl) ?_
        obtain ⟨g21, hf⟩ := zgd hf
        obtain ⟨g23, hf⟩ := zgd hf
        obtain ⟨n22, rn22, on22, in22⟩ := zok_of g21
        refine zald_q X hP zlr_x (k := (zrf Ox k0 1)) on22 in22 dX3_takeOver_80 rfl ?_
        refine gf_X3_42 X hP (k := (zrr Ox (zrf Ox k0 1) x2)) g23 dX3_takeOver_81 rfl ?_
        refine lv_iconst (v := 0) hx hb dX3_takeOver_84 (by decide) ?_
        refine lv_sipush (v := 462) hx hb dX3_takeOver_85 (by decide) ?_
        obtain ⟨g24, hf⟩ := zgd hf
        refine zcp_l X hP hS hl.1 (k0 := (zrf Ox (zrr Ox (zrf Ox k1 1) x2) 2)) (k1 := (zrf Ox (zrr Ox (zrf Ox k0 1) x2) 2)) ml_X3_48 nt_copy.1 nt_copy.2.1 nt_copy.2.2 g24 ⟨Nat.le_of_ble_eq_true rfl, Nat.le_of_ble_eq_true rfl⟩ dX3_takeOver_88 (fun H locs hP hS => ?_)
        refine lv_iinc (v := (x2 + 1)) (lv' := [(2, .int (x2 + 1)), (0, .ref (ad k0)), (1, .ref (ad k1))]) hx hb dX3_takeOver_91 hl (k := 2) rfl rfl (by decide) rfl (fun ls hl => ?_)
        refine lv_goto (tgt := 21) hx hb dX3_takeOver_94 (by decide) ?_
        exact ih21 k0 k1 (x2 + 1) (zL (zS (zS s1 (zrr Ox (zrf Ox k0 1) x2) 0 (s1.1 (zrr Ox (zrf Ox k1 1) x2) 0)) (zrr Ox (zrf Ox k0 1) x2) 1 ((zS s1 (zrr Ox (zrf Ox k0 1) x2) 0 (s1.1 (zrr Ox (zrf Ox k1 1) x2) 0)).1 (zrr Ox (zrf Ox k1 1) x2) 1)) (zrf Ox (zrr Ox (zrf Ox k0 1) x2) 2) (va_cpy ((zS (zS s1 (zrr Ox (zrf Ox k0 1) x2) 0 (s1.1 (zrr Ox (zrf Ox k1 1) x2) 0)) (zrr Ox (zrf Ox k0 1) x2) 1 ((zS s1 (zrr Ox (zrf Ox k0 1) x2) 0 (s1.1 (zrr Ox (zrf Ox k1 1) x2) 0)).1 (zrr Ox (zrf Ox k1 1) x2) 1)).2 (zrf Ox (zrr Ox (zrf Ox k1 1) x2) 2)) ((zS (zS s1 (zrr Ox (zrf Ox k0 1) x2) 0 (s1.1 (zrr Ox (zrf Ox k1 1) x2) 0)) (zrr Ox (zrf Ox k0 1) x2) 1 ((zS s1 (zrr Ox (zrf Ox k0 1) x2) 0 (s1.1 (zrr Ox (zrf Ox k1 1) x2) 0)).1 (zrr Ox (zrf Ox k1 1) x2) 1)).2 (zrf Ox (zrr Ox (zrf Ox k0 1) x2) 2)) ((0 : Int32)).toNatClampNeg ((0 : Int32)).toNatClampNeg ((462 : Int32)).toNatClampNeg)) _ _ _ (lv_sub hl [1, 2, 0] rfl) hP hS hf
  rw [f_X3_takeOver] at hf
  obtain ⟨gp0, hf⟩ := zgd hf
  obtain ⟨gp1, hf⟩ := zgd hf
  refine lv_aload_n hx hb dX3_takeOver_0 rfl (lv_at hl 0 rfl) ?_
  obtain ⟨g1, hf⟩ := zgd hf
  refine gf_X3_12 X hP (k := k0) gp0 dX3_takeOver_1 rfl ?_
  refine lv_aload_n hx hb dX3_takeOver_4 rfl (lv_at hl 1 rfl) ?_
  obtain ⟨g2, hf⟩ := zgd hf
  refine gf_X3_12 X hP (k := k1) gp1 dX3_takeOver_5 rfl ?_
  obtain ⟨r3, s4, h5, hf⟩ := zbd_some hf
  refine zcallV X hP hS hl.1 (k := (zrf Ox k0 0)) (As := [.ref (ad (zrf Ox k1 0))]) (rest := []) (cn_X7_takeOver h5) cw_X7_takeOver zp_7 g1 (by decide) rfl ml_X3_32 (by decide) rfl rfl (Nat.le_of_ble_eq_true rfl) dX3_takeOver_8 (fun H locs hP hS => ?_)
  refine lv_aload_n hx hb dX3_takeOver_11 rfl (lv_at hl 0 rfl) ?_
  refine lv_aload_n hx hb dX3_takeOver_12 rfl (lv_at hl 1 rfl) ?_
  refine gf_X3_25 X hP (k := k1) gp1 dX3_takeOver_13 ?_
  refine pf_X3_25 X hP hS (k := k0) gp0 dX3_takeOver_16 (fun H locs hP hS => ?_)
  refine lv_iconst (v := 0) hx hb dX3_takeOver_19 (by decide) ?_
  refine lv_istore_n (lv' := [(2, .int 0), (0, .ref (ad k0)), (1, .ref (ad k1))]) hx hb dX3_takeOver_20 rfl hl (by decide) rfl (fun ls hl => ?_)
  exact hc_21 ZF k0 k1 0 (zS s4 k0 2 (s4.1 k1 2)) _ _ _ (lv_sub hl [1, 2, 0] rfl) hP hS hf
theorem dX7_isAs_0 : decode cX7_isAs 0 = .ok (.aload_n 0, 1) := by decide +kernel
theorem dX7_isAs_1 : decode cX7_isAs 1 = .ok (.getfield 21, 3) := by decide +kernel
theorem dX7_isAs_4 : decode cX7_isAs 4 = .ok (.aload_n 1, 1) := by decide +kernel
theorem dX7_isAs_5 : decode cX7_isAs 5 = .ok (.getfield 21, 3) := by decide +kernel
theorem dX7_isAs_8 : decode cX7_isAs 8 = .ok (.if_icmp .ne 29, 3) := by decide +kernel
theorem dX7_isAs_11 : decode cX7_isAs 11 = .ok (.aload_n 0, 1) := by decide +kernel
theorem dX7_isAs_12 : decode cX7_isAs 12 = .ok (.getfield 28, 3) := by decide +kernel
theorem dX7_isAs_15 : decode cX7_isAs 15 = .ok (.aload_n 1, 1) := by decide +kernel
theorem dX7_isAs_16 : decode cX7_isAs 16 = .ok (.getfield 28, 3) := by decide +kernel
theorem dX7_isAs_19 : decode cX7_isAs 19 = .ok (.if_icmp .ne 18, 3) := by decide +kernel
theorem dX7_isAs_22 : decode cX7_isAs 22 = .ok (.aload_n 0, 1) := by decide +kernel
theorem dX7_isAs_23 : decode cX7_isAs 23 = .ok (.getfield 25, 3) := by decide +kernel
theorem dX7_isAs_26 : decode cX7_isAs 26 = .ok (.aload_n 1, 1) := by decide +kernel
theorem dX7_isAs_27 : decode cX7_isAs 27 = .ok (.getfield 25, 3) := by decide +kernel
theorem dX7_isAs_30 : decode cX7_isAs 30 = .ok (.if_icmp .ne 7, 3) := by decide +kernel
theorem dX7_isAs_33 : decode cX7_isAs 33 = .ok (.iconst 1, 1) := by decide +kernel
theorem dX7_isAs_34 : decode cX7_isAs 34 = .ok (.goto 4, 3) := by decide +kernel
theorem dX7_isAs_37 : decode cX7_isAs 37 = .ok (.iconst 0, 1) := by decide +kernel
theorem dX7_isAs_38 : decode cX7_isAs 38 = .ok (.istore_n 2, 1) := by decide +kernel
theorem dX7_isAs_39 : decode cX7_isAs 39 = .ok (.iconst 0, 1) := by decide +kernel
theorem dX7_isAs_40 : decode cX7_isAs 40 = .ok (.istore_n 3, 1) := by decide +kernel
theorem dX7_isAs_41 : decode cX7_isAs 41 = .ok (.iload_n 3, 1) := by decide +kernel
theorem dX7_isAs_42 : decode cX7_isAs 42 = .ok (.iconst 3, 1) := by decide +kernel
theorem dX7_isAs_43 : decode cX7_isAs 43 = .ok (.if_icmp .ge 64, 3) := by decide +kernel
theorem dX7_isAs_46 : decode cX7_isAs 46 = .ok (.iload_n 2, 1) := by decide +kernel
theorem dX7_isAs_47 : decode cX7_isAs 47 = .ok (.ifCond .eq 52, 3) := by decide +kernel
theorem dX7_isAs_50 : decode cX7_isAs 50 = .ok (.aload_n 0, 1) := by decide +kernel
theorem dX7_isAs_51 : decode cX7_isAs 51 = .ok (.getfield 9, 3) := by decide +kernel
theorem dX7_isAs_54 : decode cX7_isAs 54 = .ok (.iload_n 3, 1) := by decide +kernel
theorem dX7_isAs_55 : decode cX7_isAs 55 = .ok (.iaload, 1) := by decide +kernel
theorem dX7_isAs_56 : decode cX7_isAs 56 = .ok (.aload_n 1, 1) := by decide +kernel
theorem dX7_isAs_57 : decode cX7_isAs 57 = .ok (.getfield 9, 3) := by decide +kernel
theorem dX7_isAs_60 : decode cX7_isAs 60 = .ok (.iload_n 3, 1) := by decide +kernel
theorem dX7_isAs_61 : decode cX7_isAs 61 = .ok (.iaload, 1) := by decide +kernel
theorem dX7_isAs_62 : decode cX7_isAs 62 = .ok (.if_icmp .ne 37, 3) := by decide +kernel
theorem dX7_isAs_65 : decode cX7_isAs 65 = .ok (.aload_n 0, 1) := by decide +kernel
theorem dX7_isAs_66 : decode cX7_isAs 66 = .ok (.getfield 15, 3) := by decide +kernel
theorem dX7_isAs_69 : decode cX7_isAs 69 = .ok (.iload_n 3, 1) := by decide +kernel
theorem dX7_isAs_70 : decode cX7_isAs 70 = .ok (.iaload, 1) := by decide +kernel
theorem dX7_isAs_71 : decode cX7_isAs 71 = .ok (.aload_n 1, 1) := by decide +kernel
theorem dX7_isAs_72 : decode cX7_isAs 72 = .ok (.getfield 15, 3) := by decide +kernel
theorem dX7_isAs_75 : decode cX7_isAs 75 = .ok (.iload_n 3, 1) := by decide +kernel
theorem dX7_isAs_76 : decode cX7_isAs 76 = .ok (.iaload, 1) := by decide +kernel
theorem dX7_isAs_77 : decode cX7_isAs 77 = .ok (.if_icmp .ne 22, 3) := by decide +kernel
theorem dX7_isAs_80 : decode cX7_isAs 80 = .ok (.aload_n 0, 1) := by decide +kernel
theorem dX7_isAs_81 : decode cX7_isAs 81 = .ok (.getfield 18, 3) := by decide +kernel
theorem dX7_isAs_84 : decode cX7_isAs 84 = .ok (.iload_n 3, 1) := by decide +kernel
theorem dX7_isAs_85 : decode cX7_isAs 85 = .ok (.iaload, 1) := by decide +kernel
theorem dX7_isAs_86 : decode cX7_isAs 86 = .ok (.aload_n 1, 1) := by decide +kernel
theorem dX7_isAs_87 : decode cX7_isAs 87 = .ok (.getfield 18, 3) := by decide +kernel
theorem dX7_isAs_90 : decode cX7_isAs 90 = .ok (.iload_n 3, 1) := by decide +kernel
theorem dX7_isAs_91 : decode cX7_isAs 91 = .ok (.iaload, 1) := by decide +kernel
theorem dX7_isAs_92 : decode cX7_isAs 92 = .ok (.if_icmp .ne 7, 3) := by decide +kernel
theorem dX7_isAs_95 : decode cX7_isAs 95 = .ok (.iconst 1, 1) := by decide +kernel
theorem dX7_isAs_96 : decode cX7_isAs 96 = .ok (.goto 4, 3) := by decide +kernel
theorem dX7_isAs_99 : decode cX7_isAs 99 = .ok (.iconst 0, 1) := by decide +kernel
theorem dX7_isAs_100 : decode cX7_isAs 100 = .ok (.istore_n 2, 1) := by decide +kernel
theorem dX7_isAs_101 : decode cX7_isAs 101 = .ok (.iinc 3 1, 3) := by decide +kernel
theorem dX7_isAs_104 : decode cX7_isAs 104 = .ok (.goto (-63), 3) := by decide +kernel
theorem dX7_isAs_107 : decode cX7_isAs 107 = .ok (.iload_n 2, 1) := by decide +kernel
theorem dX7_isAs_108 : decode cX7_isAs 108 = .ok (.ireturn, 1) := by decide +kernel
set_option maxHeartbeats 4000000 in
set_option maxRecDepth 100000 in
theorem cn_X7_isAs {l : Launch} {cA : Nat → ClassId} {ad : Nat → Nat} {D : va_G} {E : Nat → Nat} {A : Nat → Prop} {k0 : Nat} {k1 : Nat} {s0 sr : SS} {rr : Int32} (hf : f_X7_isAs k0 k1 s0 = some (rr, sr)) : zCon Ox Nx cA ad D E l yX7_isAs cX7_isAs 4 (some .boolean) 0 A [.ref (ad k0), .ref (ad k1)] s0 (some (.int rr)) sr := by
  refine zstart (own := RX7) hOx (by decide) rfl (Nat.le_of_ble_eq_true rfl) ?_
  intro p e s m args below meth c X hP ls hl
  have hx := X.1
  have hb := X.2.1
  have hl : lv_has ls 4 [(0, .ref (ad k0)), (1, .ref (ad k1))] := hl
  have hS : va_S A s.heap s.heap [] := va_S.rf
  have hc_41 : ∀ (n41 : Nat) (k0 : Nat) (k1 : Nat) (x2 : Int32) (x3 : Int32) (s1 : SS) (H : Heap) (locs : List Loc) (ls : Array Slot), lv_has ls 4 [(0, .ref (ad k0)), (1, .ref (ad k1)), (2, .int x2), (3, .int x3)] → va_P D ZCL (zw Ox Nx cA ad s1) H → va_S A s.heap H locs → f_X7_isAs_c41 n41 k0 k1 x2 x3 s1 = some (rr, sr) → W p l e (zrm 0) s m args below meth c H locs 0 0 (MQ below (zQc Ox Nx cA ad D A (some (.int rr)) sr) args s 0 0 A) (F0 m 41 ls []) := by
    intro n41
    induction n41 with
    | zero =>
      intro k0 k1 x2 x3 s1 H locs ls hl hP hS hf
      rw [f_X7_isAs_c41] at hf
      cases hf
    | succ n41 ih41 =>
      have hc_100 : ∀ (k0 : Nat) (k1 : Nat) (x3 : Int32) (t0 : Int32) (s1 : SS) (H : Heap) (locs : List Loc) (ls : Array Slot), lv_has ls 4 [(0, .ref (ad k0)), (1, .ref (ad k1)), (3, .int x3)] → va_P D ZCL (zw Ox Nx cA ad s1) H → va_S A s.heap H locs → f_X7_isAs_c100 (f_X7_isAs_c41 n41) k0 k1 x3 t0 s1 = some (rr, sr) → W p l e (zrm 0) s m args below meth c H locs 0 0 (MQ below (zQc Ox Nx cA ad D A (some (.int rr)) sr) args s 0 0 A) (F0 m 100 ls [.int t0]) := by
        intro k0 k1 x3 t0 s1 H locs ls hl hP hS hf
        rw [f_X7_isAs_c100] at hf
        obtain ⟨gp0, hf⟩ := zgd hf
        obtain ⟨gp1, hf⟩ := zgd hf
        refine lv_istore_n (lv' := [(2, .int t0), (0, .ref (ad k0)), (1, .ref (ad k1)), (3, .int x3)]) hx hb dX7_isAs_100 rfl hl (by decide) rfl (fun ls hl => ?_)
        refine lv_iinc (v := (x3 + 1)) (lv' := [(3, .int (x3 + 1)), (2, .int t0), (0, .ref (ad k0)), (1, .ref (ad k1))]) hx hb dX7_isAs_101 hl (k := 3) rfl rfl (by decide) rfl (fun ls hl => ?_)
        refine lv_goto (tgt := 41) hx hb dX7_isAs_104 (by decide) ?_
        exact ih41 k0 k1 t0 (x3 + 1) s1 _ _ _ (lv_sub hl [2, 3, 1, 0] rfl) hP hS hf
      have hc_99 : ∀ (k0 : Nat) (k1 : Nat) (x3 : Int32) (s1 : SS) (H : Heap) (locs : List Loc) (ls : Array Slot), lv_has ls 4 [(0, .ref (ad k0)), (1, .ref (ad k1)), (3, .int x3)] → va_P D ZCL (zw Ox Nx cA ad s1) H → va_S A s.heap H locs → f_X7_isAs_c99 (f_X7_isAs_c41 n41) k0 k1 x3 s1 = some (rr, sr) → W p l e (zrm 0) s m args below meth c H locs 0 0 (MQ below (zQc Ox Nx cA ad D A (some (.int rr)) sr) args s 0 0 A) (F0 m 99 ls []) := by
        intro k0 k1 x3 s1 H locs ls hl hP hS hf
        rw [f_X7_isAs_c99] at hf
        obtain ⟨gp0, hf⟩ := zgd hf
        obtain ⟨gp1, hf⟩ := zgd hf
        refine lv_iconst (v := 0) hx hb dX7_isAs_99 (by decide) ?_
        exact hc_100 k0 k1 x3 0 s1 _ _ _ (lv_sub hl [0, 1, 2] rfl) hP hS hf
      intro k0 k1 x2 x3 s1 H locs ls hl hP hS hf
      rw [f_X7_isAs_c41] at hf
      obtain ⟨gp0, hf⟩ := zgd hf
      obtain ⟨gp1, hf⟩ := zgd hf
      refine lv_iload_n hx hb dX7_isAs_41 rfl (lv_at hl 3 rfl) ?_
      refine lv_iconst (v := 3) hx hb dX7_isAs_42 (by decide) ?_
      refine zicmp_ge (tgt := 107) hx hb dX7_isAs_43 (by decide) hf (fun hf => ?_) (fun hf => ?_)
      · refine lv_iload_n hx hb dX7_isAs_107 rfl (lv_at hl 2 rfl) ?_
        obtain ⟨b1, hf⟩ := zgd hf
        exact zret_i X hP hS hf (znar_of (by decide) b1) dX7_isAs_108
      · refine lv_iload_n hx hb dX7_isAs_46 rfl (lv_at hl 2 rfl) ?_
        refine zif_eq (tgt := 99) hx hb dX7_isAs_47 (by decide) hf (fun hf => ?_) (fun hf => ?_)
        · exact hc_99 k0 k1 x3 s1 _ _ _ (lv_sub hl [0, 1, 3] rfl) hP hS hf
        · refine lv_aload_n hx hb dX7_isAs_50 rfl (lv_at hl 0 rfl) ?_
          refine gf_X7_9 X hP (k := k0) gp0 dX7_isAs_51 rfl ?_
          refine lv_iload_n hx hb dX7_isAs_54 rfl (lv_at hl 3 rfl) ?_
          obtain ⟨g2, hf⟩ := zgd hf
          obtain ⟨n13, rn13, on13, in13⟩ := zok_of g2
          refine zald_i X hP (k := (zrf Ox k0 3)) on13 in13 dX7_isAs_55 ?_
          refine lv_aload_n hx hb dX7_isAs_56 rfl (lv_at hl 1 rfl) ?_
          refine gf_X7_9 X hP (k := k1) gp1 dX7_isAs_57 rfl ?_
          refine lv_iload_n hx hb dX7_isAs_60 rfl (lv_at hl 3 rfl) ?_
          obtain ⟨g3, hf⟩ := zgd hf
          obtain ⟨n12, rn12, on12, in12⟩ := zok_of g3
          refine zald_i X hP (k := (zrf Ox k1 3)) on12 in12 dX7_isAs_61 ?_
          refine zicmp_ne (tgt := 99) hx hb dX7_isAs_62 (by decide) hf (fun hf => ?_) (fun hf => ?_)
          · exact hc_99 k0 k1 x3 s1 _ _ _ (lv_sub hl [0, 1, 3] rfl) hP hS hf
          · refine lv_aload_n hx hb dX7_isAs_65 rfl (lv_at hl 0 rfl) ?_
            refine gf_X7_15 X hP (k := k0) gp0 dX7_isAs_66 rfl ?_
            refine lv_iload_n hx hb dX7_isAs_69 rfl (lv_at hl 3 rfl) ?_
            obtain ⟨g4, hf⟩ := zgd hf
            obtain ⟨n11, rn11, on11, in11⟩ := zok_of g4
            refine zald_i X hP (k := (zrf Ox k0 4)) on11 in11 dX7_isAs_70 ?_
            refine lv_aload_n hx hb dX7_isAs_71 rfl (lv_at hl 1 rfl) ?_
            refine gf_X7_15 X hP (k := k1) gp1 dX7_isAs_72 rfl ?_
            refine lv_iload_n hx hb dX7_isAs_75 rfl (lv_at hl 3 rfl) ?_
            obtain ⟨g5, hf⟩ := zgd hf
            obtain ⟨n10, rn10, on10, in10⟩ := zok_of g5
            refine zald_i X hP (k := (zrf Ox k1 4)) on10 in10 dX7_isAs_76 ?_
            refine zicmp_ne (tgt := 99) hx hb dX7_isAs_77 (by decide) hf (fun hf => ?_) (fun hf => ?_)
            · exact hc_99 k0 k1 x3 s1 _ _ _ (lv_sub hl [0, 1, 3] rfl) hP hS hf
            · refine lv_aload_n hx hb dX7_isAs_80 rfl (lv_at hl 0 rfl) ?_
              refine gf_X7_18 X hP (k := k0) gp0 dX7_isAs_81 rfl ?_
              refine lv_iload_n hx hb dX7_isAs_84 rfl (lv_at hl 3 rfl) ?_
              obtain ⟨g6, hf⟩ := zgd hf
              obtain ⟨n9, rn9, on9, in9⟩ := zok_of g6
              refine zald_i X hP (k := (zrf Ox k0 5)) on9 in9 dX7_isAs_85 ?_
              refine lv_aload_n hx hb dX7_isAs_86 rfl (lv_at hl 1 rfl) ?_
              refine gf_X7_18 X hP (k := k1) gp1 dX7_isAs_87 rfl ?_
              refine lv_iload_n hx hb dX7_isAs_90 rfl (lv_at hl 3 rfl) ?_
              obtain ⟨g7, hf⟩ := zgd hf
              obtain ⟨n8, rn8, on8, in8⟩ := zok_of g7
              refine zald_i X hP (k := (zrf Ox k1 5)) on8 in8 dX7_isAs_91 ?_
              refine zicmp_ne (tgt := 99) hx hb dX7_isAs_92 (by decide) hf (fun hf => ?_) (fun hf => ?_)
              · exact hc_99 k0 k1 x3 s1 _ _ _ (lv_sub hl [0, 1, 3] rfl) hP hS hf
              · refine lv_iconst (v := 1) hx hb dX7_isAs_95 (by decide) ?_
                refine lv_goto (tgt := 100) hx hb dX7_isAs_96 (by decide) ?_
                exact hc_100 k0 k1 x3 1 s1 _ _ _ (lv_sub hl [0, 1, 3] rfl) hP hS hf
  have hc_38 : ∀ (k0 : Nat) (k1 : Nat) (t0 : Int32) (s1 : SS) (H : Heap) (locs : List Loc) (ls : Array Slot), lv_has ls 4 [(0, .ref (ad k0)), (1, .ref (ad k1))] → va_P D ZCL (zw Ox Nx cA ad s1) H → va_S A s.heap H locs → f_X7_isAs_c38 k0 k1 t0 s1 = some (rr, sr) → W p l e (zrm 0) s m args below meth c H locs 0 0 (MQ below (zQc Ox Nx cA ad D A (some (.int rr)) sr) args s 0 0 A) (F0 m 38 ls [.int t0]) := by
    intro k0 k1 t0 s1 H locs ls hl hP hS hf
    rw [f_X7_isAs_c38] at hf
    obtain ⟨gp0, hf⟩ := zgd hf
    obtain ⟨gp1, hf⟩ := zgd hf
    refine lv_istore_n (lv' := [(2, .int t0), (0, .ref (ad k0)), (1, .ref (ad k1))]) hx hb dX7_isAs_38 rfl hl (by decide) rfl (fun ls hl => ?_)
    refine lv_iconst (v := 0) hx hb dX7_isAs_39 (by decide) ?_
    refine lv_istore_n (lv' := [(3, .int 0), (2, .int t0), (0, .ref (ad k0)), (1, .ref (ad k1))]) hx hb dX7_isAs_40 rfl hl (by decide) rfl (fun ls hl => ?_)
    exact hc_41 ZF k0 k1 t0 0 s1 _ _ _ (lv_sub hl [2, 3, 1, 0] rfl) hP hS hf
  have hc_37 : ∀ (k0 : Nat) (k1 : Nat) (s1 : SS) (H : Heap) (locs : List Loc) (ls : Array Slot), lv_has ls 4 [(0, .ref (ad k0)), (1, .ref (ad k1))] → va_P D ZCL (zw Ox Nx cA ad s1) H → va_S A s.heap H locs → f_X7_isAs_c37 k0 k1 s1 = some (rr, sr) → W p l e (zrm 0) s m args below meth c H locs 0 0 (MQ below (zQc Ox Nx cA ad D A (some (.int rr)) sr) args s 0 0 A) (F0 m 37 ls []) := by
    intro k0 k1 s1 H locs ls hl hP hS hf
    rw [f_X7_isAs_c37] at hf
    obtain ⟨gp0, hf⟩ := zgd hf
    obtain ⟨gp1, hf⟩ := zgd hf
    refine lv_iconst (v := 0) hx hb dX7_isAs_37 (by decide) ?_
    exact hc_38 k0 k1 0 s1 _ _ _ (lv_sub hl [0, 1] rfl) hP hS hf
  rw [f_X7_isAs] at hf
  obtain ⟨gp0, hf⟩ := zgd hf
  obtain ⟨gp1, hf⟩ := zgd hf
  refine lv_aload_n hx hb dX7_isAs_0 rfl (lv_at hl 0 rfl) ?_
  refine gf_X7_21 X hP (k := k0) gp0 dX7_isAs_1 ?_
  refine lv_aload_n hx hb dX7_isAs_4 rfl (lv_at hl 1 rfl) ?_
  refine gf_X7_21 X hP (k := k1) gp1 dX7_isAs_5 ?_
  refine zicmp_ne (tgt := 37) hx hb dX7_isAs_8 (by decide) hf (fun hf => ?_) (fun hf => ?_)
  · exact hc_37 k0 k1 s0 _ _ _ (lv_sub hl [0, 1] rfl) hP hS hf
  · refine lv_aload_n hx hb dX7_isAs_11 rfl (lv_at hl 0 rfl) ?_
    refine gf_X7_28 X hP (k := k0) gp0 dX7_isAs_12 ?_
    refine lv_aload_n hx hb dX7_isAs_15 rfl (lv_at hl 1 rfl) ?_
    refine gf_X7_28 X hP (k := k1) gp1 dX7_isAs_16 ?_
    refine zicmp_ne (tgt := 37) hx hb dX7_isAs_19 (by decide) hf (fun hf => ?_) (fun hf => ?_)
    · exact hc_37 k0 k1 s0 _ _ _ (lv_sub hl [0, 1] rfl) hP hS hf
    · refine lv_aload_n hx hb dX7_isAs_22 rfl (lv_at hl 0 rfl) ?_
      refine gf_X7_25 X hP (k := k0) gp0 dX7_isAs_23 ?_
      refine lv_aload_n hx hb dX7_isAs_26 rfl (lv_at hl 1 rfl) ?_
      refine gf_X7_25 X hP (k := k1) gp1 dX7_isAs_27 ?_
      refine zicmp_ne (tgt := 37) hx hb dX7_isAs_30 (by decide) hf (fun hf => ?_) (fun hf => ?_)
      · exact hc_37 k0 k1 s0 _ _ _ (lv_sub hl [0, 1] rfl) hP hS hf
      · refine lv_iconst (v := 1) hx hb dX7_isAs_33 (by decide) ?_
        refine lv_goto (tgt := 38) hx hb dX7_isAs_34 (by decide) ?_
        exact hc_38 k0 k1 1 s0 _ _ _ (lv_sub hl [0, 1] rfl) hP hS hf
theorem dX3_isAs_0 : decode cX3_isAs 0 = .ok (.aload_n 0, 1) := by decide +kernel
theorem dX3_isAs_1 : decode cX3_isAs 1 = .ok (.getfield 25, 3) := by decide +kernel
theorem dX3_isAs_4 : decode cX3_isAs 4 = .ok (.aload_n 1, 1) := by decide +kernel
theorem dX3_isAs_5 : decode cX3_isAs 5 = .ok (.getfield 25, 3) := by decide +kernel
theorem dX3_isAs_8 : decode cX3_isAs 8 = .ok (.if_icmp .ne 17, 3) := by decide +kernel
theorem dX3_isAs_11 : decode cX3_isAs 11 = .ok (.aload_n 0, 1) := by decide +kernel
theorem dX3_isAs_12 : decode cX3_isAs 12 = .ok (.getfield 12, 3) := by decide +kernel
theorem dX3_isAs_15 : decode cX3_isAs 15 = .ok (.aload_n 1, 1) := by decide +kernel
theorem dX3_isAs_16 : decode cX3_isAs 16 = .ok (.getfield 12, 3) := by decide +kernel
theorem dX3_isAs_19 : decode cX3_isAs 19 = .ok (.invokevirtual 54, 3) := by decide +kernel
theorem dX3_isAs_22 : decode cX3_isAs 22 = .ok (.ifCond .ne 5, 3) := by decide +kernel
theorem dX3_isAs_25 : decode cX3_isAs 25 = .ok (.iconst 0, 1) := by decide +kernel
theorem dX3_isAs_26 : decode cX3_isAs 26 = .ok (.ireturn, 1) := by decide +kernel
theorem dX3_isAs_27 : decode cX3_isAs 27 = .ok (.iconst 0, 1) := by decide +kernel
theorem dX3_isAs_28 : decode cX3_isAs 28 = .ok (.istore_n 3, 1) := by decide +kernel
theorem dX3_isAs_29 : decode cX3_isAs 29 = .ok (.iload_n 3, 1) := by decide +kernel
theorem dX3_isAs_30 : decode cX3_isAs 30 = .ok (.aload_n 0, 1) := by decide +kernel
theorem dX3_isAs_31 : decode cX3_isAs 31 = .ok (.getfield 25, 3) := by decide +kernel
theorem dX3_isAs_34 : decode cX3_isAs 34 = .ok (.if_icmp .ge 90, 3) := by decide +kernel
theorem dX3_isAs_37 : decode cX3_isAs 37 = .ok (.aload_n 0, 1) := by decide +kernel
theorem dX3_isAs_38 : decode cX3_isAs 38 = .ok (.getfield 20, 3) := by decide +kernel
theorem dX3_isAs_41 : decode cX3_isAs 41 = .ok (.iload_n 3, 1) := by decide +kernel
theorem dX3_isAs_42 : decode cX3_isAs 42 = .ok (.aaload, 1) := by decide +kernel
theorem dX3_isAs_43 : decode cX3_isAs 43 = .ok (.astore 4, 2) := by decide +kernel
theorem dX3_isAs_45 : decode cX3_isAs 45 = .ok (.aload_n 1, 1) := by decide +kernel
theorem dX3_isAs_46 : decode cX3_isAs 46 = .ok (.getfield 20, 3) := by decide +kernel
theorem dX3_isAs_49 : decode cX3_isAs 49 = .ok (.iload_n 3, 1) := by decide +kernel
theorem dX3_isAs_50 : decode cX3_isAs 50 = .ok (.aaload, 1) := by decide +kernel
theorem dX3_isAs_51 : decode cX3_isAs 51 = .ok (.astore 5, 2) := by decide +kernel
theorem dX3_isAs_53 : decode cX3_isAs 53 = .ok (.aload 4, 2) := by decide +kernel
theorem dX3_isAs_55 : decode cX3_isAs 55 = .ok (.getfield 36, 3) := by decide +kernel
theorem dX3_isAs_58 : decode cX3_isAs 58 = .ok (.aload 5, 2) := by decide +kernel
theorem dX3_isAs_60 : decode cX3_isAs 60 = .ok (.getfield 36, 3) := by decide +kernel
theorem dX3_isAs_63 : decode cX3_isAs 63 = .ok (.if_icmp .ne 16, 3) := by decide +kernel
theorem dX3_isAs_66 : decode cX3_isAs 66 = .ok (.aload 4, 2) := by decide +kernel
theorem dX3_isAs_68 : decode cX3_isAs 68 = .ok (.getfield 39, 3) := by decide +kernel
theorem dX3_isAs_71 : decode cX3_isAs 71 = .ok (.aload 5, 2) := by decide +kernel
theorem dX3_isAs_73 : decode cX3_isAs 73 = .ok (.getfield 39, 3) := by decide +kernel
theorem dX3_isAs_76 : decode cX3_isAs 76 = .ok (.if_icmp .eq 5, 3) := by decide +kernel
theorem dX3_isAs_79 : decode cX3_isAs 79 = .ok (.iconst 0, 1) := by decide +kernel
theorem dX3_isAs_80 : decode cX3_isAs 80 = .ok (.ireturn, 1) := by decide +kernel
theorem dX3_isAs_81 : decode cX3_isAs 81 = .ok (.iconst 0, 1) := by decide +kernel
theorem dX3_isAs_82 : decode cX3_isAs 82 = .ok (.istore 6, 2) := by decide +kernel
theorem dX3_isAs_84 : decode cX3_isAs 84 = .ok (.iload 6, 2) := by decide +kernel
theorem dX3_isAs_86 : decode cX3_isAs 86 = .ok (.iload_n 2, 1) := by decide +kernel
theorem dX3_isAs_87 : decode cX3_isAs 87 = .ok (.if_icmp .ge 31, 3) := by decide +kernel
theorem dX3_isAs_90 : decode cX3_isAs 90 = .ok (.aload 4, 2) := by decide +kernel
theorem dX3_isAs_92 : decode cX3_isAs 92 = .ok (.getfield 42, 3) := by decide +kernel
theorem dX3_isAs_95 : decode cX3_isAs 95 = .ok (.iload 6, 2) := by decide +kernel
theorem dX3_isAs_97 : decode cX3_isAs 97 = .ok (.laload, 1) := by decide +kernel
theorem dX3_isAs_98 : decode cX3_isAs 98 = .ok (.aload 5, 2) := by decide +kernel
theorem dX3_isAs_100 : decode cX3_isAs 100 = .ok (.getfield 42, 3) := by decide +kernel
theorem dX3_isAs_103 : decode cX3_isAs 103 = .ok (.iload 6, 2) := by decide +kernel
theorem dX3_isAs_105 : decode cX3_isAs 105 = .ok (.laload, 1) := by decide +kernel
theorem dX3_isAs_106 : decode cX3_isAs 106 = .ok (.lcmp, 1) := by decide +kernel
theorem dX3_isAs_107 : decode cX3_isAs 107 = .ok (.ifCond .eq 5, 3) := by decide +kernel
theorem dX3_isAs_110 : decode cX3_isAs 110 = .ok (.iconst 0, 1) := by decide +kernel
theorem dX3_isAs_111 : decode cX3_isAs 111 = .ok (.ireturn, 1) := by decide +kernel
theorem dX3_isAs_112 : decode cX3_isAs 112 = .ok (.iinc 6 1, 3) := by decide +kernel
theorem dX3_isAs_115 : decode cX3_isAs 115 = .ok (.goto (-31), 3) := by decide +kernel
theorem dX3_isAs_118 : decode cX3_isAs 118 = .ok (.iinc 3 1, 3) := by decide +kernel
theorem dX3_isAs_121 : decode cX3_isAs 121 = .ok (.goto (-92), 3) := by decide +kernel
theorem dX3_isAs_124 : decode cX3_isAs 124 = .ok (.iconst 1, 1) := by decide +kernel
theorem dX3_isAs_125 : decode cX3_isAs 125 = .ok (.ireturn, 1) := by decide +kernel
set_option maxHeartbeats 4000000 in
set_option maxRecDepth 100000 in
theorem cn_X3_isAs {l : Launch} {cA : Nat → ClassId} {ad : Nat → Nat} {D : va_G} {E : Nat → Nat} {A : Nat → Prop} {k0 : Nat} {k1 : Nat} {x2 : Int32} {s0 sr : SS} {rr : Int32} (hf : f_X3_isAs k0 k1 x2 s0 = some (rr, sr)) : zCon Ox Nx cA ad D E l yX3_isAs cX3_isAs 7 (some .boolean) 1 A [.ref (ad k0), .ref (ad k1), .int x2] s0 (some (.int rr)) sr := by
  refine zstart (own := RX3) hOx (by decide) rfl (Nat.le_of_ble_eq_true rfl) ?_
  intro p e s m args below meth c X hP ls hl
  have hx := X.1
  have hb := X.2.1
  have hl : lv_has ls 7 [(0, .ref (ad k0)), (1, .ref (ad k1)), (2, .int x2)] := hl
  have hS : va_S A s.heap s.heap [] := va_S.rf
  have hc_29 : ∀ (n29 : Nat) (k0 : Nat) (k1 : Nat) (x2 : Int32) (x3 : Int32) (s1 : SS) (H : Heap) (locs : List Loc) (ls : Array Slot), lv_has ls 7 [(0, .ref (ad k0)), (1, .ref (ad k1)), (2, .int x2), (3, .int x3)] → va_P D ZCL (zw Ox Nx cA ad s1) H → va_S A s.heap H locs → f_X3_isAs_c29 n29 k0 k1 x2 x3 s1 = some (rr, sr) → W p l e (zrm 1) s m args below meth c H locs 0 0 (MQ below (zQc Ox Nx cA ad D A (some (.int rr)) sr) args s 0 0 A) (F0 m 29 ls []) := by
    intro n29
    induction n29 with
    | zero =>
      intro k0 k1 x2 x3 s1 H locs ls hl hP hS hf
      rw [f_X3_isAs_c29] at hf
      cases hf
    | succ n29 ih29 =>
      have hc_84 : ∀ (n84 : Nat) (k0 : Nat) (k1 : Nat) (x2 : Int32) (x3 : Int32) (k4 : Nat) (k5 : Nat) (x6 : Int32) (s1 : SS) (H : Heap) (locs : List Loc) (ls : Array Slot), lv_has ls 7 [(0, .ref (ad k0)), (1, .ref (ad k1)), (2, .int x2), (3, .int x3), (4, .ref (ad k4)), (5, .ref (ad k5)), (6, .int x6)] → va_P D ZCL (zw Ox Nx cA ad s1) H → va_S A s.heap H locs → f_X3_isAs_c84 (f_X3_isAs_c29 n29) n84 k0 k1 x2 x3 k4 k5 x6 s1 = some (rr, sr) → W p l e (zrm 1) s m args below meth c H locs 0 0 (MQ below (zQc Ox Nx cA ad D A (some (.int rr)) sr) args s 0 0 A) (F0 m 84 ls []) := by
        intro n84
        induction n84 with
        | zero =>
          intro k0 k1 x2 x3 k4 k5 x6 s1 H locs ls hl hP hS hf
          rw [f_X3_isAs_c84] at hf
          cases hf
        | succ n84 ih84 =>
          intro k0 k1 x2 x3 k4 k5 x6 s1 H locs ls hl hP hS hf
          rw [f_X3_isAs_c84] at hf
          obtain ⟨gp0, hf⟩ := zgd hf
          obtain ⟨gp1, hf⟩ := zgd hf
          obtain ⟨gp4, hf⟩ := zgd hf
          obtain ⟨gp5, hf⟩ := zgd hf
          refine lv_iload hx hb dX3_isAs_84 (lv_at hl 6 rfl) ?_
          refine lv_iload_n hx hb dX3_isAs_86 rfl (lv_at hl 2 rfl) ?_
          refine zicmp_ge (tgt := 118) hx hb dX3_isAs_87 (by decide) hf (fun hf => ?_) (fun hf => ?_)
          · refine lv_iinc (v := (x3 + 1)) (lv' := [(3, .int (x3 + 1)), (0, .ref (ad k0)), (1, .ref (ad k1)), (2, .int x2), (4, .ref (ad k4)), (5, .ref (ad k5)), (6, .int x6)]) hx hb dX3_isAs_118 hl (k := 3) rfl rfl (by decide) rfl (fun ls hl => ?_)
            refine lv_goto (tgt := 29) hx hb dX3_isAs_121 (by decide) ?_
            exact ih29 k0 k1 x2 (x3 + 1) s1 _ _ _ (lv_sub hl [1, 2, 3, 0] rfl) hP hS hf
          · refine lv_aload hx hb dX3_isAs_90 (lv_at hl 4 rfl) ?_
            refine gf_X3_42 X hP (k := k4) gp4 dX3_isAs_92 rfl ?_
            refine lv_iload hx hb dX3_isAs_95 (lv_at hl 6 rfl) ?_
            obtain ⟨g12, hf⟩ := zgd hf
            obtain ⟨n15, rn15, on15, in15⟩ := zok_of g12
            refine zald_l X hP (k := (zrf Ox k4 2)) on15 in15 dX3_isAs_97 ?_
            refine lv_aload hx hb dX3_isAs_98 (lv_at hl 5 rfl) ?_
            refine gf_X3_42 X hP (k := k5) gp5 dX3_isAs_100 rfl ?_
            refine lv_iload hx hb dX3_isAs_103 (lv_at hl 6 rfl) ?_
            obtain ⟨g13, hf⟩ := zgd hf
            obtain ⟨n14, rn14, on14, in14⟩ := zok_of g13
            refine zald_l X hP (k := (zrf Ox k5 2)) on14 in14 dX3_isAs_105 ?_
            refine W.lcmp hx hb dX3_isAs_106 ?_
            refine zif_eq (tgt := 112) hx hb dX3_isAs_107 (by decide) hf (fun hf => ?_) (fun hf => ?_)
            · refine lv_iinc (v := (x6 + 1)) (lv' := [(6, .int (x6 + 1)), (0, .ref (ad k0)), (1, .ref (ad k1)), (2, .int x2), (3, .int x3), (4, .ref (ad k4)), (5, .ref (ad k5))]) hx hb dX3_isAs_112 hl (k := 6) rfl rfl (by decide) rfl (fun ls hl => ?_)
              refine lv_goto (tgt := 84) hx hb dX3_isAs_115 (by decide) ?_
              exact ih84 k0 k1 x2 x3 k4 k5 (x6 + 1) s1 _ _ _ (lv_sub hl [1, 2, 3, 4, 5, 6, 0] rfl) hP hS hf
            · refine lv_iconst (v := 0) hx hb dX3_isAs_110 (by decide) ?_
              exact zret_i X hP hS hf rfl dX3_isAs_111
      intro k0 k1 x2 x3 s1 H locs ls hl hP hS hf
      rw [f_X3_isAs_c29] at hf
      obtain ⟨gp0, hf⟩ := zgd hf
      obtain ⟨gp1, hf⟩ := zgd hf
      refine lv_iload_n hx hb dX3_isAs_29 rfl (lv_at hl 3 rfl) ?_
      refine lv_aload_n hx hb dX3_isAs_30 rfl (lv_at hl 0 rfl) ?_
      refine gf_X3_25 X hP (k := k0) gp0 dX3_isAs_31 ?_
      refine zicmp_ge (tgt := 124) hx hb dX3_isAs_34 (by decide) hf (fun hf => ?_) (fun hf => ?_)
      · refine lv_iconst (v := 1) hx hb dX3_isAs_124 (by decide) ?_
        exact zret_i X hP hS hf rfl dX3_isAs_125
      · refine lv_aload_n hx hb dX3_isAs_37 rfl (lv_at hl 0 rfl) ?_
        refine gf_X3_20 X hP (k := k0) gp0 dX3_isAs_38 rfl ?_
        refine lv_iload_n hx hb dX3_isAs_41 rfl (lv_at hl 3 rfl) ?_
        obtain ⟨g6, hf⟩ := zgd hf
        obtain ⟨g8, hf⟩ := zgd hf
        obtain ⟨n7, rn7, on7, in7⟩ := zok_of g6
        refine zald_q X hP zlr_x (k := (zrf Ox k0 1)) on7 in7 dX3_isAs_42 rfl ?_
        refine lv_astore (lv' := [(4, .ref (ad (zrr Ox (zrf Ox k0 1) x3))), (0, .ref (ad k0)), (1, .ref (ad k1)), (2, .int x2), (3, .int x3)]) hx hb dX3_isAs_43 hl (by decide) rfl (fun ls hl => ?_)
        refine lv_aload_n hx hb dX3_isAs_45 rfl (lv_at hl 2 rfl) ?_
        refine gf_X3_20 X hP (k := k1) gp1 dX3_isAs_46 rfl ?_
        refine lv_iload_n hx hb dX3_isAs_49 rfl (lv_at hl 4 rfl) ?_
        obtain ⟨g9, hf⟩ := zgd hf
        obtain ⟨g11, hf⟩ := zgd hf
        obtain ⟨n10, rn10, on10, in10⟩ := zok_of g9
        refine zald_q X hP zlr_x (k := (zrf Ox k1 1)) on10 in10 dX3_isAs_50 rfl ?_
        refine lv_astore (lv' := [(5, .ref (ad (zrr Ox (zrf Ox k1 1) x3))), (4, .ref (ad (zrr Ox (zrf Ox k0 1) x3))), (0, .ref (ad k0)), (1, .ref (ad k1)), (2, .int x2), (3, .int x3)]) hx hb dX3_isAs_51 hl (by decide) rfl (fun ls hl => ?_)
        refine lv_aload hx hb dX3_isAs_53 (lv_at hl 1 rfl) ?_
        refine gf_X3_36 X hP (k := (zrr Ox (zrf Ox k0 1) x3)) g8 dX3_isAs_55 ?_
        refine lv_aload hx hb dX3_isAs_58 (lv_at hl 0 rfl) ?_
        refine gf_X3_36 X hP (k := (zrr Ox (zrf Ox k1 1) x3)) g11 dX3_isAs_60 ?_
        refine zicmp_ne (tgt := 79) hx hb dX3_isAs_63 (by decide) hf (fun hf => ?_) (fun hf => ?_)
        · refine lv_iconst (v := 0) hx hb dX3_isAs_79 (by decide) ?_
          exact zret_i X hP hS hf rfl dX3_isAs_80
        · refine lv_aload hx hb dX3_isAs_66 (lv_at hl 1 rfl) ?_
          refine gf_X3_39 X hP (k := (zrr Ox (zrf Ox k0 1) x3)) g8 dX3_isAs_68 ?_
          refine lv_aload hx hb dX3_isAs_71 (lv_at hl 0 rfl) ?_
          refine gf_X3_39 X hP (k := (zrr Ox (zrf Ox k1 1) x3)) g11 dX3_isAs_73 ?_
          refine zicmp_eq (tgt := 81) hx hb dX3_isAs_76 (by decide) hf (fun hf => ?_) (fun hf => ?_)
          · refine lv_iconst (v := 0) hx hb dX3_isAs_81 (by decide) ?_
            refine lv_istore (lv' := [(6, .int 0), (5, .ref (ad (zrr Ox (zrf Ox k1 1) x3))), (4, .ref (ad (zrr Ox (zrf Ox k0 1) x3))), (0, .ref (ad k0)), (1, .ref (ad k1)), (2, .int x2), (3, .int x3)]) hx hb dX3_isAs_82 hl (by decide) rfl (fun ls hl => ?_)
            exact hc_84 ZF k0 k1 x2 x3 (zrr Ox (zrf Ox k0 1) x3) (zrr Ox (zrf Ox k1 1) x3) 0 s1 _ _ _ (lv_sub hl [3, 4, 5, 6, 2, 1, 0] rfl) hP hS hf
          · refine lv_iconst (v := 0) hx hb dX3_isAs_79 (by decide) ?_
            exact zret_i X hP hS hf rfl dX3_isAs_80
  rw [f_X3_isAs] at hf
  obtain ⟨gp0, hf⟩ := zgd hf
  obtain ⟨gp1, hf⟩ := zgd hf
  refine lv_aload_n hx hb dX3_isAs_0 rfl (lv_at hl 0 rfl) ?_
  refine gf_X3_25 X hP (k := k0) gp0 dX3_isAs_1 ?_
  refine lv_aload_n hx hb dX3_isAs_4 rfl (lv_at hl 1 rfl) ?_
  refine gf_X3_25 X hP (k := k1) gp1 dX3_isAs_5 ?_
  refine zicmp_ne (tgt := 25) hx hb dX3_isAs_8 (by decide) hf (fun hf => ?_) (fun hf => ?_)
  · refine lv_iconst (v := 0) hx hb dX3_isAs_25 (by decide) ?_
    exact zret_i X hP hS hf rfl dX3_isAs_26
  · refine lv_aload_n hx hb dX3_isAs_11 rfl (lv_at hl 0 rfl) ?_
    obtain ⟨g1, hf⟩ := zgd hf
    refine gf_X3_12 X hP (k := k0) gp0 dX3_isAs_12 rfl ?_
    refine lv_aload_n hx hb dX3_isAs_15 rfl (lv_at hl 1 rfl) ?_
    obtain ⟨g2, hf⟩ := zgd hf
    refine gf_X3_12 X hP (k := k1) gp1 dX3_isAs_16 rfl ?_
    obtain ⟨r3, s4, h5, hf⟩ := zbd_some hf
    refine zcallV X hP hS hl.1 (k := (zrf Ox k0 0)) (As := [.ref (ad (zrf Ox k1 0))]) (rest := []) (cn_X7_isAs h5) cw_X7_isAs zp_7 g1 (by decide) rfl ml_X3_54 (by decide) rfl rfl (Nat.le_of_ble_eq_true rfl) dX3_isAs_19 (fun H locs hP hS => ?_)
    refine zif_ne (tgt := 27) hx hb dX3_isAs_22 (by decide) hf (fun hf => ?_) (fun hf => ?_)
    · refine lv_iconst (v := 0) hx hb dX3_isAs_27 (by decide) ?_
      refine lv_istore_n (lv' := [(3, .int 0), (0, .ref (ad k0)), (1, .ref (ad k1)), (2, .int x2)]) hx hb dX3_isAs_28 rfl hl (by decide) rfl (fun ls hl => ?_)
      exact hc_29 ZF k0 k1 x2 0 s4 _ _ _ (lv_sub hl [1, 2, 3, 0] rfl) hP hS hf
    · refine lv_iconst (v := 0) hx hb dX3_isAs_25 (by decide) ?_
      exact zret_i X hP hS hf rfl dX3_isAs_26
theorem dX4_become_0 : decode cX4_become 0 = .ok (.iload_n 1, 1) := by decide +kernel
theorem dX4_become_1 : decode cX4_become 1 = .ok (.ifCond .ne 10, 3) := by decide +kernel
theorem dX4_become_4 : decode cX4_become 4 = .ok (.aload_n 0, 1) := by decide +kernel
theorem dX4_become_5 : decode cX4_become 5 = .ok (.getfield 17, 3) := by decide +kernel
theorem dX4_become_8 : decode cX4_become 8 = .ok (.goto 7, 3) := by decide +kernel
theorem dX4_become_11 : decode cX4_become 11 = .ok (.aload_n 0, 1) := by decide +kernel
theorem dX4_become_12 : decode cX4_become 12 = .ok (.getfield 21, 3) := by decide +kernel
theorem dX4_become_15 : decode cX4_become 15 = .ok (.istore_n 3, 1) := by decide +kernel
theorem dX4_become_16 : decode cX4_become 16 = .ok (.iload_n 1, 1) := by decide +kernel
theorem dX4_become_17 : decode cX4_become 17 = .ok (.ifCond .ne 11, 3) := by decide +kernel
theorem dX4_become_20 : decode cX4_become 20 = .ok (.aload_n 0, 1) := by decide +kernel
theorem dX4_become_21 : decode cX4_become 21 = .ok (.iload_n 2, 1) := by decide +kernel
theorem dX4_become_22 : decode cX4_become 22 = .ok (.putfield 17, 3) := by decide +kernel
theorem dX4_become_25 : decode cX4_become 25 = .ok (.goto 8, 3) := by decide +kernel
theorem dX4_become_28 : decode cX4_become 28 = .ok (.aload_n 0, 1) := by decide +kernel
theorem dX4_become_29 : decode cX4_become 29 = .ok (.iload_n 2, 1) := by decide +kernel
theorem dX4_become_30 : decode cX4_become 30 = .ok (.putfield 21, 3) := by decide +kernel
theorem dX4_become_33 : decode cX4_become 33 = .ok (.iload_n 3, 1) := by decide +kernel
theorem dX4_become_34 : decode cX4_become 34 = .ok (.ireturn, 1) := by decide +kernel
set_option maxHeartbeats 4000000 in
set_option maxRecDepth 100000 in
theorem cn_X4_become {l : Launch} {cA : Nat → ClassId} {ad : Nat → Nat} {D : va_G} {E : Nat → Nat} {A : Nat → Prop} {k0 : Nat} {x1 : Int32} {x2 : Int32} {s0 sr : SS} {rr : Int32} (hf : f_X4_become k0 x1 x2 s0 = some (rr, sr)) : zCon Ox Nx cA ad D E l yX4_become cX4_become 4 (some .int) 0 A [.ref (ad k0), .int x1, .int x2] s0 (some (.int rr)) sr := by
  refine zstart (own := RX4) hOx (by decide) rfl (Nat.le_of_ble_eq_true rfl) ?_
  intro p e s m args below meth c X hP ls hl
  have hx := X.1
  have hb := X.2.1
  have hl : lv_has ls 4 [(0, .ref (ad k0)), (1, .int x1), (2, .int x2)] := hl
  have hS : va_S A s.heap s.heap [] := va_S.rf
  have hc_15 : ∀ (k0 : Nat) (x1 : Int32) (x2 : Int32) (t0 : Int32) (s1 : SS) (H : Heap) (locs : List Loc) (ls : Array Slot), lv_has ls 4 [(0, .ref (ad k0)), (1, .int x1), (2, .int x2)] → va_P D ZCL (zw Ox Nx cA ad s1) H → va_S A s.heap H locs → f_X4_become_c15 k0 x1 x2 t0 s1 = some (rr, sr) → W p l e (zrm 0) s m args below meth c H locs 0 0 (MQ below (zQc Ox Nx cA ad D A (some (.int rr)) sr) args s 0 0 A) (F0 m 15 ls [.int t0]) := by
    intro k0 x1 x2 t0 s1 H locs ls hl hP hS hf
    rw [f_X4_become_c15] at hf
    obtain ⟨gp0, hf⟩ := zgd hf
    refine lv_istore_n (lv' := [(3, .int t0), (0, .ref (ad k0)), (1, .int x1), (2, .int x2)]) hx hb dX4_become_15 rfl hl (by decide) rfl (fun ls hl => ?_)
    refine lv_iload_n hx hb dX4_become_16 rfl (lv_at hl 2 rfl) ?_
    refine zif_ne (tgt := 28) hx hb dX4_become_17 (by decide) hf (fun hf => ?_) (fun hf => ?_)
    · refine lv_aload_n hx hb dX4_become_28 rfl (lv_at hl 1 rfl) ?_
      refine lv_iload_n hx hb dX4_become_29 rfl (lv_at hl 3 rfl) ?_
      refine pf_X4_21 X hP hS (k := k0) gp0 dX4_become_30 (fun H locs hP hS => ?_)
      refine lv_iload_n hx hb dX4_become_33 rfl (lv_at hl 0 rfl) ?_
      exact zret_i X hP hS hf rfl dX4_become_34
    · refine lv_aload_n hx hb dX4_become_20 rfl (lv_at hl 1 rfl) ?_
      refine lv_iload_n hx hb dX4_become_21 rfl (lv_at hl 3 rfl) ?_
      refine pf_X4_17 X hP hS (k := k0) gp0 dX4_become_22 (fun H locs hP hS => ?_)
      refine lv_goto (tgt := 33) hx hb dX4_become_25 (by decide) ?_
      refine lv_iload_n hx hb dX4_become_33 rfl (lv_at hl 0 rfl) ?_
      exact zret_i X hP hS hf rfl dX4_become_34
  rw [f_X4_become] at hf
  obtain ⟨gp0, hf⟩ := zgd hf
  refine lv_iload_n hx hb dX4_become_0 rfl (lv_at hl 1 rfl) ?_
  refine zif_ne (tgt := 11) hx hb dX4_become_1 (by decide) hf (fun hf => ?_) (fun hf => ?_)
  · refine lv_aload_n hx hb dX4_become_11 rfl (lv_at hl 0 rfl) ?_
    refine gf_X4_21 X hP (k := k0) gp0 dX4_become_12 ?_
    exact hc_15 k0 x1 x2 (s0.1 k0 1) s0 _ _ _ (lv_sub hl [0, 1, 2] rfl) hP hS hf
  · refine lv_aload_n hx hb dX4_become_4 rfl (lv_at hl 0 rfl) ?_
    refine gf_X4_17 X hP (k := k0) gp0 dX4_become_5 ?_
    refine lv_goto (tgt := 15) hx hb dX4_become_8 (by decide) ?_
    exact hc_15 k0 x1 x2 (s0.1 k0 0) s0 _ _ _ (lv_sub hl [0, 1, 2] rfl) hP hS hf
theorem dX4_isUnder_0 : decode cX4_isUnder 0 = .ok (.aload_n 0, 1) := by decide +kernel
theorem dX4_isUnder_1 : decode cX4_isUnder 1 = .ok (.getfield 17, 3) := by decide +kernel
theorem dX4_isUnder_4 : decode cX4_isUnder 4 = .ok (.istore_n 2, 1) := by decide +kernel
theorem dX4_isUnder_5 : decode cX4_isUnder 5 = .ok (.iconst 0, 1) := by decide +kernel
theorem dX4_isUnder_6 : decode cX4_isUnder 6 = .ok (.istore_n 3, 1) := by decide +kernel
theorem dX4_isUnder_7 : decode cX4_isUnder 7 = .ok (.iload_n 3, 1) := by decide +kernel
theorem dX4_isUnder_8 : decode cX4_isUnder 8 = .ok (.getstatic 30, 3) := by decide +kernel
theorem dX4_isUnder_11 : decode cX4_isUnder 11 = .ok (.arraylength, 1) := by decide +kernel
theorem dX4_isUnder_12 : decode cX4_isUnder 12 = .ok (.if_icmp .ge 34, 3) := by decide +kernel
theorem dX4_isUnder_15 : decode cX4_isUnder 15 = .ok (.iload_n 2, 1) := by decide +kernel
theorem dX4_isUnder_16 : decode cX4_isUnder 16 = .ok (.ifCond .lt 30, 3) := by decide +kernel
theorem dX4_isUnder_19 : decode cX4_isUnder 19 = .ok (.iload_n 2, 1) := by decide +kernel
theorem dX4_isUnder_20 : decode cX4_isUnder 20 = .ok (.getstatic 30, 3) := by decide +kernel
theorem dX4_isUnder_23 : decode cX4_isUnder 23 = .ok (.arraylength, 1) := by decide +kernel
theorem dX4_isUnder_24 : decode cX4_isUnder 24 = .ok (.if_icmp .ge 22, 3) := by decide +kernel
theorem dX4_isUnder_27 : decode cX4_isUnder 27 = .ok (.iload_n 2, 1) := by decide +kernel
theorem dX4_isUnder_28 : decode cX4_isUnder 28 = .ok (.iload_n 1, 1) := by decide +kernel
theorem dX4_isUnder_29 : decode cX4_isUnder 29 = .ok (.if_icmp .ne 5, 3) := by decide +kernel
theorem dX4_isUnder_32 : decode cX4_isUnder 32 = .ok (.iconst 1, 1) := by decide +kernel
theorem dX4_isUnder_33 : decode cX4_isUnder 33 = .ok (.ireturn, 1) := by decide +kernel
theorem dX4_isUnder_34 : decode cX4_isUnder 34 = .ok (.getstatic 30, 3) := by decide +kernel
theorem dX4_isUnder_37 : decode cX4_isUnder 37 = .ok (.iload_n 2, 1) := by decide +kernel
theorem dX4_isUnder_38 : decode cX4_isUnder 38 = .ok (.iaload, 1) := by decide +kernel
theorem dX4_isUnder_39 : decode cX4_isUnder 39 = .ok (.istore_n 2, 1) := by decide +kernel
theorem dX4_isUnder_40 : decode cX4_isUnder 40 = .ok (.iinc 3 1, 3) := by decide +kernel
theorem dX4_isUnder_43 : decode cX4_isUnder 43 = .ok (.goto (-36), 3) := by decide +kernel
theorem dX4_isUnder_46 : decode cX4_isUnder 46 = .ok (.iconst 0, 1) := by decide +kernel
theorem dX4_isUnder_47 : decode cX4_isUnder 47 = .ok (.ireturn, 1) := by decide +kernel
set_option maxHeartbeats 4000000 in
set_option maxRecDepth 100000 in
theorem cn_X4_isUnder {l : Launch} {cA : Nat → ClassId} {ad : Nat → Nat} {D : va_G} {E : Nat → Nat} {A : Nat → Prop} {k0 : Nat} {x1 : Int32} {s0 sr : SS} {rr : Int32} (hf : f_X4_isUnder k0 x1 s0 = some (rr, sr)) : zCon Ox Nx cA ad D E l yX4_isUnder cX4_isUnder 4 (some .boolean) 0 A [.ref (ad k0), .int x1] s0 (some (.int rr)) sr := by
  refine zstart (own := RX4) hOx (by decide) rfl (Nat.le_of_ble_eq_true rfl) ?_
  intro p e s m args below meth c X hP ls hl
  have hx := X.1
  have hb := X.2.1
  have hl : lv_has ls 4 [(0, .ref (ad k0)), (1, .int x1)] := hl
  have hS : va_S A s.heap s.heap [] := va_S.rf
  have hc_7 : ∀ (n7 : Nat) (x1 : Int32) (x2 : Int32) (x3 : Int32) (s1 : SS) (H : Heap) (locs : List Loc) (ls : Array Slot), lv_has ls 4 [(1, .int x1), (2, .int x2), (3, .int x3)] → va_P D ZCL (zw Ox Nx cA ad s1) H → va_S A s.heap H locs → f_X4_isUnder_c7 n7 x1 x2 x3 s1 = some (rr, sr) → W p l e (zrm 0) s m args below meth c H locs 0 0 (MQ below (zQc Ox Nx cA ad D A (some (.int rr)) sr) args s 0 0 A) (F0 m 7 ls []) := by
    intro n7
    induction n7 with
    | zero =>
      intro x1 x2 x3 s1 H locs ls hl hP hS hf
      rw [f_X4_isUnder_c7] at hf
      cases hf
    | succ n7 ih7 =>
      intro x1 x2 x3 s1 H locs ls hl hP hS hf
      rw [f_X4_isUnder_c7] at hf
      refine lv_iload_n hx hb dX4_isUnder_7 rfl (lv_at hl 2 rfl) ?_
      refine zgsN X hS (i := 2) rfl nf_X4_30 dX4_isUnder_8 ?_
      refine zstl X hS (k := 2) (v := 6) rfl (by decide) dX4_isUnder_11 ?_
      refine zicmp_ge (tgt := 46) hx hb dX4_isUnder_12 (by decide) hf (fun hf => ?_) (fun hf => ?_)
      · refine lv_iconst (v := 0) hx hb dX4_isUnder_46 (by decide) ?_
        exact zret_i X hP hS hf rfl dX4_isUnder_47
      · refine lv_iload_n hx hb dX4_isUnder_15 rfl (lv_at hl 1 rfl) ?_
        refine zif_lt (tgt := 46) hx hb dX4_isUnder_16 (by decide) hf (fun hf => ?_) (fun hf => ?_)
        · refine lv_iconst (v := 0) hx hb dX4_isUnder_46 (by decide) ?_
          exact zret_i X hP hS hf rfl dX4_isUnder_47
        · refine lv_iload_n hx hb dX4_isUnder_19 rfl (lv_at hl 1 rfl) ?_
          refine zgsN X hS (i := 2) rfl nf_X4_30 dX4_isUnder_20 ?_
          refine zstl X hS (k := 2) (v := 6) rfl (by decide) dX4_isUnder_23 ?_
          refine zicmp_ge (tgt := 46) hx hb dX4_isUnder_24 (by decide) hf (fun hf => ?_) (fun hf => ?_)
          · refine lv_iconst (v := 0) hx hb dX4_isUnder_46 (by decide) ?_
            exact zret_i X hP hS hf rfl dX4_isUnder_47
          · refine lv_iload_n hx hb dX4_isUnder_27 rfl (lv_at hl 1 rfl) ?_
            refine lv_iload_n hx hb dX4_isUnder_28 rfl (lv_at hl 0 rfl) ?_
            refine zicmp_ne (tgt := 34) hx hb dX4_isUnder_29 (by decide) hf (fun hf => ?_) (fun hf => ?_)
            · refine zgsN X hS (i := 2) rfl nf_X4_30 dX4_isUnder_34 ?_
              refine lv_iload_n hx hb dX4_isUnder_37 rfl (lv_at hl 1 rfl) ?_
              obtain ⟨g1, hf⟩ := zgd hf
              refine zst X hS (k := 2) (n := 6) rfl rfl g1 dX4_isUnder_38 ?_
              refine lv_istore_n (lv' := [(2, .int (ztab 2 x2)), (1, .int x1), (3, .int x3)]) hx hb dX4_isUnder_39 rfl hl (by decide) rfl (fun ls hl => ?_)
              refine lv_iinc (v := (x3 + 1)) (lv' := [(3, .int (x3 + 1)), (2, .int (ztab 2 x2)), (1, .int x1)]) hx hb dX4_isUnder_40 hl (k := 2) rfl rfl (by decide) rfl (fun ls hl => ?_)
              refine lv_goto (tgt := 7) hx hb dX4_isUnder_43 (by decide) ?_
              exact ih7 x1 (ztab 2 x2) (x3 + 1) s1 _ _ _ (lv_sub hl [2, 1, 0] rfl) hP hS hf
            · refine lv_iconst (v := 1) hx hb dX4_isUnder_32 (by decide) ?_
              exact zret_i X hP hS hf rfl dX4_isUnder_33
  rw [f_X4_isUnder] at hf
  obtain ⟨gp0, hf⟩ := zgd hf
  refine lv_aload_n hx hb dX4_isUnder_0 rfl (lv_at hl 0 rfl) ?_
  refine gf_X4_17 X hP (k := k0) gp0 dX4_isUnder_1 ?_
  refine lv_istore_n (lv' := [(2, .int (s0.1 k0 0)), (0, .ref (ad k0)), (1, .int x1)]) hx hb dX4_isUnder_4 rfl hl (by decide) rfl (fun ls hl => ?_)
  refine lv_iconst (v := 0) hx hb dX4_isUnder_5 (by decide) ?_
  refine lv_istore_n (lv' := [(3, .int 0), (2, .int (s0.1 k0 0)), (0, .ref (ad k0)), (1, .int x1)]) hx hb dX4_isUnder_6 rfl hl (by decide) rfl (fun ls hl => ?_)
  exact hc_7 ZF x1 (s0.1 k0 0) 0 s0 _ _ _ (lv_sub hl [3, 1, 0] rfl) hP hS hf
theorem dX4_numberAt_0 : decode cX4_numberAt 0 = .ok (.aload_n 0, 1) := by decide +kernel
theorem dX4_numberAt_1 : decode cX4_numberAt 1 = .ok (.getfield 11, 3) := by decide +kernel
theorem dX4_numberAt_4 : decode cX4_numberAt 4 = .ok (.iload_n 2, 1) := by decide +kernel
theorem dX4_numberAt_5 : decode cX4_numberAt 5 = .ok (.laload, 1) := by decide +kernel
theorem dX4_numberAt_6 : decode cX4_numberAt 6 = .ok (.lstore_n 3, 1) := by decide +kernel
theorem dX4_numberAt_7 : decode cX4_numberAt 7 = .ok (.aload_n 0, 1) := by decide +kernel
theorem dX4_numberAt_8 : decode cX4_numberAt 8 = .ok (.getfield 17, 3) := by decide +kernel
theorem dX4_numberAt_11 : decode cX4_numberAt 11 = .ok (.tableswitch 106 1 5 #[33, 36, 46, 65, 88], 33) := by decide +kernel
theorem dX4_numberAt_44 : decode cX4_numberAt 44 = .ok (.lload_n 3, 1) := by decide +kernel
theorem dX4_numberAt_45 : decode cX4_numberAt 45 = .ok (.lneg, 1) := by decide +kernel
theorem dX4_numberAt_46 : decode cX4_numberAt 46 = .ok (.lreturn, 1) := by decide +kernel
theorem dX4_numberAt_47 : decode cX4_numberAt 47 = .ok (.lload_n 3, 1) := by decide +kernel
theorem dX4_numberAt_48 : decode cX4_numberAt 48 = .ok (.aload_n 0, 1) := by decide +kernel
theorem dX4_numberAt_49 : decode cX4_numberAt 49 = .ok (.getfield 21, 3) := by decide +kernel
theorem dX4_numberAt_52 : decode cX4_numberAt 52 = .ok (.i2l, 1) := by decide +kernel
theorem dX4_numberAt_53 : decode cX4_numberAt 53 = .ok (.lconst 1, 1) := by decide +kernel
theorem dX4_numberAt_54 : decode cX4_numberAt 54 = .ok (.ladd, 1) := by decide +kernel
theorem dX4_numberAt_55 : decode cX4_numberAt 55 = .ok (.lmul, 1) := by decide +kernel
theorem dX4_numberAt_56 : decode cX4_numberAt 56 = .ok (.lreturn, 1) := by decide +kernel
theorem dX4_numberAt_57 : decode cX4_numberAt 57 = .ok (.aload_n 1, 1) := by decide +kernel
theorem dX4_numberAt_58 : decode cX4_numberAt 58 = .ok (.getfield 34, 3) := by decide +kernel
theorem dX4_numberAt_61 : decode cX4_numberAt 61 = .ok (.iload_n 2, 1) := by decide +kernel
theorem dX4_numberAt_62 : decode cX4_numberAt 62 = .ok (.iaload, 1) := by decide +kernel
theorem dX4_numberAt_63 : decode cX4_numberAt 63 = .ok (.aload_n 0, 1) := by decide +kernel
theorem dX4_numberAt_64 : decode cX4_numberAt 64 = .ok (.getfield 21, 3) := by decide +kernel
theorem dX4_numberAt_67 : decode cX4_numberAt 67 = .ok (.if_icmp .ne 7, 3) := by decide +kernel
theorem dX4_numberAt_70 : decode cX4_numberAt 70 = .ok (.lload_n 3, 1) := by decide +kernel
theorem dX4_numberAt_71 : decode cX4_numberAt 71 = .ok (.goto 4, 3) := by decide +kernel
theorem dX4_numberAt_74 : decode cX4_numberAt 74 = .ok (.lconst 0, 1) := by decide +kernel
theorem dX4_numberAt_75 : decode cX4_numberAt 75 = .ok (.lreturn, 1) := by decide +kernel
theorem dX4_numberAt_76 : decode cX4_numberAt 76 = .ok (.aload_n 1, 1) := by decide +kernel
theorem dX4_numberAt_77 : decode cX4_numberAt 77 = .ok (.getfield 37, 3) := by decide +kernel
theorem dX4_numberAt_80 : decode cX4_numberAt 80 = .ok (.iload_n 2, 1) := by decide +kernel
theorem dX4_numberAt_81 : decode cX4_numberAt 81 = .ok (.baload, 1) := by decide +kernel
theorem dX4_numberAt_82 : decode cX4_numberAt 82 = .ok (.ifCond .eq 15, 3) := by decide +kernel
theorem dX4_numberAt_85 : decode cX4_numberAt 85 = .ok (.lload_n 3, 1) := by decide +kernel
theorem dX4_numberAt_86 : decode cX4_numberAt 86 = .ok (.aload_n 0, 1) := by decide +kernel
theorem dX4_numberAt_87 : decode cX4_numberAt 87 = .ok (.getfield 21, 3) := by decide +kernel
theorem dX4_numberAt_90 : decode cX4_numberAt 90 = .ok (.i2l, 1) := by decide +kernel
theorem dX4_numberAt_91 : decode cX4_numberAt 91 = .ok (.lconst 1, 1) := by decide +kernel
theorem dX4_numberAt_92 : decode cX4_numberAt 92 = .ok (.ladd, 1) := by decide +kernel
theorem dX4_numberAt_93 : decode cX4_numberAt 93 = .ok (.lmul, 1) := by decide +kernel
theorem dX4_numberAt_94 : decode cX4_numberAt 94 = .ok (.goto 4, 3) := by decide +kernel
theorem dX4_numberAt_97 : decode cX4_numberAt 97 = .ok (.lconst 0, 1) := by decide +kernel
theorem dX4_numberAt_98 : decode cX4_numberAt 98 = .ok (.lreturn, 1) := by decide +kernel
theorem dX4_numberAt_99 : decode cX4_numberAt 99 = .ok (.aload_n 1, 1) := by decide +kernel
theorem dX4_numberAt_100 : decode cX4_numberAt 100 = .ok (.getfield 34, 3) := by decide +kernel
theorem dX4_numberAt_103 : decode cX4_numberAt 103 = .ok (.iload_n 2, 1) := by decide +kernel
theorem dX4_numberAt_104 : decode cX4_numberAt 104 = .ok (.iaload, 1) := by decide +kernel
theorem dX4_numberAt_105 : decode cX4_numberAt 105 = .ok (.iconst 2, 1) := by decide +kernel
theorem dX4_numberAt_106 : decode cX4_numberAt 106 = .ok (.irem, 1) := by decide +kernel
theorem dX4_numberAt_107 : decode cX4_numberAt 107 = .ok (.ifCond .eq 8, 3) := by decide +kernel
theorem dX4_numberAt_110 : decode cX4_numberAt 110 = .ok (.lload_n 3, 1) := by decide +kernel
theorem dX4_numberAt_111 : decode cX4_numberAt 111 = .ok (.lneg, 1) := by decide +kernel
theorem dX4_numberAt_112 : decode cX4_numberAt 112 = .ok (.goto 4, 3) := by decide +kernel
theorem dX4_numberAt_115 : decode cX4_numberAt 115 = .ok (.lload_n 3, 1) := by decide +kernel
theorem dX4_numberAt_116 : decode cX4_numberAt 116 = .ok (.lreturn, 1) := by decide +kernel
theorem dX4_numberAt_117 : decode cX4_numberAt 117 = .ok (.lload_n 3, 1) := by decide +kernel
theorem dX4_numberAt_118 : decode cX4_numberAt 118 = .ok (.lreturn, 1) := by decide +kernel
set_option maxHeartbeats 4000000 in
set_option maxRecDepth 100000 in
theorem cn_X4_numberAt {l : Launch} {cA : Nat → ClassId} {ad : Nat → Nat} {D : va_G} {E : Nat → Nat} {A : Nat → Prop} {k0 : Nat} {x2 : Int32} {s0 sr : SS} {rr : Int64} (hf : f_X4_numberAt k0 x2 s0 = some (rr, sr)) : zCon Ox Nx cA ad D E l yX4_numberAt cX4_numberAt 5 (some .long) 0 A [.ref (ad k0), .ref (ad 6), .int x2] s0 (some (.long rr)) sr := by
  refine zstart (own := RX4) hOx (by decide) rfl (Nat.le_of_ble_eq_true rfl) ?_
  intro p e s m args below meth c X hP ls hl
  have hx := X.1
  have hb := X.2.1
  have hl : lv_has ls 5 [(0, .ref (ad k0)), (1, .ref (ad 6)), (2, .int x2)] := hl
  have hS : va_S A s.heap s.heap [] := va_S.rf
  rw [f_X4_numberAt] at hf
  obtain ⟨gp0, hf⟩ := zgd hf
  refine lv_aload_n hx hb dX4_numberAt_0 rfl (lv_at hl 0 rfl) ?_
  refine gf_X4_11 X hP (k := k0) gp0 dX4_numberAt_1 rfl ?_
  refine lv_iload_n hx hb dX4_numberAt_4 rfl (lv_at hl 2 rfl) ?_
  obtain ⟨g1, hf⟩ := zgd hf
  obtain ⟨n10, rn10, on10, in10⟩ := zok_of g1
  refine zald_l X hP (k := (zrf Ox k0 2)) on10 in10 dX4_numberAt_5 ?_
  refine lv_lstore_n (lv' := [(3, .long (s0.2 (zrf Ox k0 2) (x2).toNatClampNeg)), (0, .ref (ad k0)), (1, .ref (ad 6)), (2, .int x2)]) hx hb dX4_numberAt_6 rfl hl (by decide) rfl (fun ls hl => ?_)
  refine lv_aload_n hx hb dX4_numberAt_7 rfl (lv_at hl 1 rfl) ?_
  refine gf_X4_17 X hP (k := k0) gp0 dX4_numberAt_8 ?_
  by_cases e2 : (s0.1 k0 0) = 1
  · rw [if_pos e2] at hf
    refine lv_tableIn (tgt := 44) (off := 33) hx hb dX4_numberAt_11 (by rw [e2]; decide) (by rw [e2]; decide) (by rw [e2]; decide +kernel) (by decide) ?_
    refine lv_lload_n hx hb dX4_numberAt_44 rfl (lv_at hl 0 rfl) ?_
    refine lv_lneg hx hb dX4_numberAt_45 ?_
    exact zret_l X hP hS hf dX4_numberAt_46
  · rw [if_neg e2] at hf
    by_cases e3 : (s0.1 k0 0) = 2
    · rw [if_pos e3] at hf
      refine lv_tableIn (tgt := 47) (off := 36) hx hb dX4_numberAt_11 (by rw [e3]; decide) (by rw [e3]; decide) (by rw [e3]; decide +kernel) (by decide) ?_
      refine lv_lload_n hx hb dX4_numberAt_47 rfl (lv_at hl 0 rfl) ?_
      refine lv_aload_n hx hb dX4_numberAt_48 rfl (lv_at hl 1 rfl) ?_
      refine gf_X4_21 X hP (k := k0) gp0 dX4_numberAt_49 ?_
      refine lv_i2l hx hb dX4_numberAt_52 rfl ?_
      refine lv_lconst (v := 1) hx hb dX4_numberAt_53 (by decide) ?_
      refine lv_ladd hx hb dX4_numberAt_54 ?_
      refine lv_lmul hx hb dX4_numberAt_55 ?_
      exact zret_l X hP hS hf dX4_numberAt_56
    · rw [if_neg e3] at hf
      by_cases e4 : (s0.1 k0 0) = 3
      · rw [if_pos e4] at hf
        refine lv_tableIn (tgt := 57) (off := 46) hx hb dX4_numberAt_11 (by rw [e4]; decide) (by rw [e4]; decide) (by rw [e4]; decide +kernel) (by decide) ?_
        refine lv_aload_n hx hb dX4_numberAt_57 rfl (lv_at hl 2 rfl) ?_
        refine gf_X4_34 X hP (k := 6) (q := 63) rfl dX4_numberAt_58 rfl ?_
        refine lv_iload_n hx hb dX4_numberAt_61 rfl (lv_at hl 3 rfl) ?_
        obtain ⟨g5, hf⟩ := zgd hf
        refine zald_i X hP (k := 63) (n := 462) (rs := []) rfl g5 dX4_numberAt_62 ?_
        refine lv_aload_n hx hb dX4_numberAt_63 rfl (lv_at hl 1 rfl) ?_
        refine gf_X4_21 X hP (k := k0) gp0 dX4_numberAt_64 ?_
        refine zicmp_ne (tgt := 74) hx hb dX4_numberAt_67 (by decide) hf (fun hf => ?_) (fun hf => ?_)
        · refine lv_lconst (v := 0) hx hb dX4_numberAt_74 (by decide) ?_
          exact zret_l X hP hS hf dX4_numberAt_75
        · refine lv_lload_n hx hb dX4_numberAt_70 rfl (lv_at hl 0 rfl) ?_
          refine lv_goto (tgt := 75) hx hb dX4_numberAt_71 (by decide) ?_
          exact zret_l X hP hS hf dX4_numberAt_75
      · rw [if_neg e4] at hf
        by_cases e6 : (s0.1 k0 0) = 4
        · rw [if_pos e6] at hf
          refine lv_tableIn (tgt := 76) (off := 65) hx hb dX4_numberAt_11 (by rw [e6]; decide) (by rw [e6]; decide) (by rw [e6]; decide +kernel) (by decide) ?_
          refine lv_aload_n hx hb dX4_numberAt_76 rfl (lv_at hl 2 rfl) ?_
          refine gf_X4_37 X hP (k := 6) (q := 65) rfl dX4_numberAt_77 rfl ?_
          refine lv_iload_n hx hb dX4_numberAt_80 rfl (lv_at hl 3 rfl) ?_
          obtain ⟨g7, hf⟩ := zgd hf
          refine zald_z X hP (k := 65) (n := 462) (rs := []) rfl g7 dX4_numberAt_81 ?_
          refine zif_eq (tgt := 97) hx hb dX4_numberAt_82 (by decide) hf (fun hf => ?_) (fun hf => ?_)
          · refine lv_lconst (v := 0) hx hb dX4_numberAt_97 (by decide) ?_
            exact zret_l X hP hS hf dX4_numberAt_98
          · refine lv_lload_n hx hb dX4_numberAt_85 rfl (lv_at hl 0 rfl) ?_
            refine lv_aload_n hx hb dX4_numberAt_86 rfl (lv_at hl 1 rfl) ?_
            refine gf_X4_21 X hP (k := k0) gp0 dX4_numberAt_87 ?_
            refine lv_i2l hx hb dX4_numberAt_90 rfl ?_
            refine lv_lconst (v := 1) hx hb dX4_numberAt_91 (by decide) ?_
            refine lv_ladd hx hb dX4_numberAt_92 ?_
            refine lv_lmul hx hb dX4_numberAt_93 ?_
            refine lv_goto (tgt := 98) hx hb dX4_numberAt_94 (by decide) ?_
            exact zret_l X hP hS hf dX4_numberAt_98
        · rw [if_neg e6] at hf
          by_cases e8 : (s0.1 k0 0) = 5
          · rw [if_pos e8] at hf
            refine lv_tableIn (tgt := 99) (off := 88) hx hb dX4_numberAt_11 (by rw [e8]; decide) (by rw [e8]; decide) (by rw [e8]; decide +kernel) (by decide) ?_
            refine lv_aload_n hx hb dX4_numberAt_99 rfl (lv_at hl 2 rfl) ?_
            refine gf_X4_34 X hP (k := 6) (q := 63) rfl dX4_numberAt_100 rfl ?_
            refine lv_iload_n hx hb dX4_numberAt_103 rfl (lv_at hl 3 rfl) ?_
            obtain ⟨g9, hf⟩ := zgd hf
            refine zald_i X hP (k := 63) (n := 462) (rs := []) rfl g9 dX4_numberAt_104 ?_
            refine lv_iconst (v := 2) hx hb dX4_numberAt_105 (by decide) ?_
            refine lv_irem hx hb dX4_numberAt_106 (by decide) ?_
            refine zif_eq (tgt := 115) hx hb dX4_numberAt_107 (by decide) hf (fun hf => ?_) (fun hf => ?_)
            · refine lv_lload_n hx hb dX4_numberAt_115 rfl (lv_at hl 0 rfl) ?_
              exact zret_l X hP hS hf dX4_numberAt_116
            · refine lv_lload_n hx hb dX4_numberAt_110 rfl (lv_at hl 0 rfl) ?_
              refine lv_lneg hx hb dX4_numberAt_111 ?_
              refine lv_goto (tgt := 116) hx hb dX4_numberAt_112 (by decide) ?_
              exact zret_l X hP hS hf dX4_numberAt_116
          · rw [if_neg e8] at hf
            have ye2 := zne e2 (v := 1) (by decide)
            have ye3 := zne e3 (v := 2) (by decide)
            have ye4 := zne e4 (v := 3) (by decide)
            have ye6 := zne e6 (v := 4) (by decide)
            have ye8 := zne e8 (v := 5) (by decide)
            refine lv_tableOut (tgt := 117) hx hb dX4_numberAt_11 (by omega) (by decide) ?_
            refine lv_lload_n hx hb dX4_numberAt_117 rfl (lv_at hl 0 rfl) ?_
            exact zret_l X hP hS hf dX4_numberAt_118
theorem dX4_shown_0 : decode cX4_shown 0 = .ok (.iconst 0, 1) := by decide +kernel
theorem dX4_shown_1 : decode cX4_shown 1 = .ok (.istore_n 2, 1) := by decide +kernel
theorem dX4_shown_2 : decode cX4_shown 2 = .ok (.iconst 0, 1) := by decide +kernel
theorem dX4_shown_3 : decode cX4_shown 3 = .ok (.istore_n 3, 1) := by decide +kernel
theorem dX4_shown_4 : decode cX4_shown 4 = .ok (.iload_n 3, 1) := by decide +kernel
theorem dX4_shown_5 : decode cX4_shown 5 = .ok (.aload_n 1, 1) := by decide +kernel
theorem dX4_shown_6 : decode cX4_shown 6 = .ok (.getfield 41, 3) := by decide +kernel
theorem dX4_shown_9 : decode cX4_shown 9 = .ok (.if_icmp .ge 28, 3) := by decide +kernel
theorem dX4_shown_12 : decode cX4_shown 12 = .ok (.iload_n 2, 1) := by decide +kernel
theorem dX4_shown_13 : decode cX4_shown 13 = .ok (.aload_n 0, 1) := by decide +kernel
theorem dX4_shown_14 : decode cX4_shown 14 = .ok (.aload_n 1, 1) := by decide +kernel
theorem dX4_shown_15 : decode cX4_shown 15 = .ok (.iload_n 3, 1) := by decide +kernel
theorem dX4_shown_16 : decode cX4_shown 16 = .ok (.invokevirtual 44, 3) := by decide +kernel
theorem dX4_shown_19 : decode cX4_shown 19 = .ok (.lconst 0, 1) := by decide +kernel
theorem dX4_shown_20 : decode cX4_shown 20 = .ok (.lcmp, 1) := by decide +kernel
theorem dX4_shown_21 : decode cX4_shown 21 = .ok (.ifCond .eq 7, 3) := by decide +kernel
theorem dX4_shown_24 : decode cX4_shown 24 = .ok (.iconst 1, 1) := by decide +kernel
theorem dX4_shown_25 : decode cX4_shown 25 = .ok (.goto 4, 3) := by decide +kernel
theorem dX4_shown_28 : decode cX4_shown 28 = .ok (.iconst 0, 1) := by decide +kernel
theorem dX4_shown_29 : decode cX4_shown 29 = .ok (.iadd, 1) := by decide +kernel
theorem dX4_shown_30 : decode cX4_shown 30 = .ok (.istore_n 2, 1) := by decide +kernel
theorem dX4_shown_31 : decode cX4_shown 31 = .ok (.iinc 3 1, 3) := by decide +kernel
theorem dX4_shown_34 : decode cX4_shown 34 = .ok (.goto (-30), 3) := by decide +kernel
theorem dX4_shown_37 : decode cX4_shown 37 = .ok (.iload_n 2, 1) := by decide +kernel
theorem dX4_shown_38 : decode cX4_shown 38 = .ok (.ireturn, 1) := by decide +kernel
set_option maxHeartbeats 4000000 in
set_option maxRecDepth 100000 in
theorem cn_X4_shown {l : Launch} {cA : Nat → ClassId} {ad : Nat → Nat} {D : va_G} {E : Nat → Nat} {A : Nat → Prop} {k0 : Nat} {s0 sr : SS} {rr : Int32} (hf : f_X4_shown k0 s0 = some (rr, sr)) : zCon Ox Nx cA ad D E l yX4_shown cX4_shown 4 (some .int) 1 A [.ref (ad k0), .ref (ad 6)] s0 (some (.int rr)) sr := by
  refine zstart (own := RX4) hOx (by decide) rfl (Nat.le_of_ble_eq_true rfl) ?_
  intro p e s m args below meth c X hP ls hl
  have hx := X.1
  have hb := X.2.1
  have hl : lv_has ls 4 [(0, .ref (ad k0)), (1, .ref (ad 6))] := hl
  have hS : va_S A s.heap s.heap [] := va_S.rf
  have hc_4 : ∀ (n4 : Nat) (k0 : Nat) (x2 : Int32) (x3 : Int32) (s1 : SS) (H : Heap) (locs : List Loc) (ls : Array Slot), lv_has ls 4 [(0, .ref (ad k0)), (1, .ref (ad 6)), (2, .int x2), (3, .int x3)] → va_P D ZCL (zw Ox Nx cA ad s1) H → va_S A s.heap H locs → f_X4_shown_c4 n4 k0 x2 x3 s1 = some (rr, sr) → W p l e (zrm 1) s m args below meth c H locs 0 0 (MQ below (zQc Ox Nx cA ad D A (some (.int rr)) sr) args s 0 0 A) (F0 m 4 ls []) := by
    intro n4
    induction n4 with
    | zero =>
      intro k0 x2 x3 s1 H locs ls hl hP hS hf
      rw [f_X4_shown_c4] at hf
      cases hf
    | succ n4 ih4 =>
      have hc_29 : ∀ (k0 : Nat) (x3 : Int32) (t0 : Int32) (t1 : Int32) (s1 : SS) (H : Heap) (locs : List Loc) (ls : Array Slot), lv_has ls 4 [(0, .ref (ad k0)), (1, .ref (ad 6)), (3, .int x3)] → va_P D ZCL (zw Ox Nx cA ad s1) H → va_S A s.heap H locs → f_X4_shown_c29 (f_X4_shown_c4 n4) k0 x3 t0 t1 s1 = some (rr, sr) → W p l e (zrm 1) s m args below meth c H locs 0 0 (MQ below (zQc Ox Nx cA ad D A (some (.int rr)) sr) args s 0 0 A) (F0 m 29 ls [.int t0, .int t1]) := by
        intro k0 x3 t0 t1 s1 H locs ls hl hP hS hf
        rw [f_X4_shown_c29] at hf
        obtain ⟨gp0, hf⟩ := zgd hf
        refine lv_iadd hx hb dX4_shown_29 ?_
        refine lv_istore_n (lv' := [(2, .int (t1 + t0)), (0, .ref (ad k0)), (1, .ref (ad 6)), (3, .int x3)]) hx hb dX4_shown_30 rfl hl (by decide) rfl (fun ls hl => ?_)
        refine lv_iinc (v := (x3 + 1)) (lv' := [(3, .int (x3 + 1)), (2, .int (t1 + t0)), (0, .ref (ad k0)), (1, .ref (ad 6))]) hx hb dX4_shown_31 hl (k := 3) rfl rfl (by decide) rfl (fun ls hl => ?_)
        refine lv_goto (tgt := 4) hx hb dX4_shown_34 (by decide) ?_
        exact ih4 k0 (t1 + t0) (x3 + 1) s1 _ _ _ (lv_sub hl [2, 3, 1, 0] rfl) hP hS hf
      intro k0 x2 x3 s1 H locs ls hl hP hS hf
      rw [f_X4_shown_c4] at hf
      obtain ⟨gp0, hf⟩ := zgd hf
      refine lv_iload_n hx hb dX4_shown_4 rfl (lv_at hl 3 rfl) ?_
      refine lv_aload_n hx hb dX4_shown_5 rfl (lv_at hl 1 rfl) ?_
      refine gf_X4_41 X hP (k := 6) rfl dX4_shown_6 ?_
      refine zicmp_ge (tgt := 37) hx hb dX4_shown_9 (by decide) hf (fun hf => ?_) (fun hf => ?_)
      · refine lv_iload_n hx hb dX4_shown_37 rfl (lv_at hl 2 rfl) ?_
        exact zret_i X hP hS hf rfl dX4_shown_38
      · refine lv_iload_n hx hb dX4_shown_12 rfl (lv_at hl 2 rfl) ?_
        refine lv_aload_n hx hb dX4_shown_13 rfl (lv_at hl 0 rfl) ?_
        refine lv_aload_n hx hb dX4_shown_14 rfl (lv_at hl 1 rfl) ?_
        refine lv_iload_n hx hb dX4_shown_15 rfl (lv_at hl 3 rfl) ?_
        obtain ⟨r1, s2, h3, hf⟩ := zbd_some hf
        refine zcallV X hP hS hl.1 (k := k0) (As := [.ref (ad 6), .int x3]) (rest := [.int x2]) (cn_X4_numberAt h3) cw_X4_numberAt zp_4 gp0 (by decide) rfl ml_X4_44 (by decide) rfl rfl (Nat.le_of_ble_eq_true rfl) dX4_shown_16 (fun H locs hP hS => ?_)
        refine lv_lconst (v := 0) hx hb dX4_shown_19 (by decide) ?_
        refine W.lcmp hx hb dX4_shown_20 ?_
        refine zif_eq (tgt := 28) hx hb dX4_shown_21 (by decide) hf (fun hf => ?_) (fun hf => ?_)
        · refine lv_iconst (v := 0) hx hb dX4_shown_28 (by decide) ?_
          exact hc_29 k0 x3 0 x2 s2 _ _ _ (lv_sub hl [0, 1, 3] rfl) hP hS hf
        · refine lv_iconst (v := 1) hx hb dX4_shown_24 (by decide) ?_
          refine lv_goto (tgt := 29) hx hb dX4_shown_25 (by decide) ?_
          exact hc_29 k0 x3 1 x2 s2 _ _ _ (lv_sub hl [0, 1, 3] rfl) hP hS hf
  rw [f_X4_shown] at hf
  obtain ⟨gp0, hf⟩ := zgd hf
  refine lv_iconst (v := 0) hx hb dX4_shown_0 (by decide) ?_
  refine lv_istore_n (lv' := [(2, .int 0), (0, .ref (ad k0)), (1, .ref (ad 6))]) hx hb dX4_shown_1 rfl hl (by decide) rfl (fun ls hl => ?_)
  refine lv_iconst (v := 0) hx hb dX4_shown_2 (by decide) ?_
  refine lv_istore_n (lv' := [(3, .int 0), (2, .int 0), (0, .ref (ad k0)), (1, .ref (ad 6))]) hx hb dX4_shown_3 rfl hl (by decide) rfl (fun ls hl => ?_)
  exact hc_4 ZF k0 0 0 s0 _ _ _ (lv_sub hl [2, 3, 1, 0] rfl) hP hS hf
theorem dX4_greatestSize_0 : decode cX4_greatestSize 0 = .ok (.bipush (-2), 2) := by decide +kernel
theorem dX4_greatestSize_2 : decode cX4_greatestSize 2 = .ok (.istore_n 2, 1) := by decide +kernel
theorem dX4_greatestSize_3 : decode cX4_greatestSize 3 = .ok (.iconst 0, 1) := by decide +kernel
theorem dX4_greatestSize_4 : decode cX4_greatestSize 4 = .ok (.istore_n 3, 1) := by decide +kernel
theorem dX4_greatestSize_5 : decode cX4_greatestSize 5 = .ok (.iload_n 3, 1) := by decide +kernel
theorem dX4_greatestSize_6 : decode cX4_greatestSize 6 = .ok (.aload_n 1, 1) := by decide +kernel
theorem dX4_greatestSize_7 : decode cX4_greatestSize 7 = .ok (.getfield 41, 3) := by decide +kernel
theorem dX4_greatestSize_10 : decode cX4_greatestSize 10 = .ok (.if_icmp .ge 31, 3) := by decide +kernel
theorem dX4_greatestSize_13 : decode cX4_greatestSize 13 = .ok (.aload_n 0, 1) := by decide +kernel
theorem dX4_greatestSize_14 : decode cX4_greatestSize 14 = .ok (.aload_n 1, 1) := by decide +kernel
theorem dX4_greatestSize_15 : decode cX4_greatestSize 15 = .ok (.iload_n 3, 1) := by decide +kernel
theorem dX4_greatestSize_16 : decode cX4_greatestSize 16 = .ok (.invokevirtual 44, 3) := by decide +kernel
theorem dX4_greatestSize_19 : decode cX4_greatestSize 19 = .ok (.lconst 0, 1) := by decide +kernel
theorem dX4_greatestSize_20 : decode cX4_greatestSize 20 = .ok (.lcmp, 1) := by decide +kernel
theorem dX4_greatestSize_21 : decode cX4_greatestSize 21 = .ok (.ifCond .eq 14, 3) := by decide +kernel
theorem dX4_greatestSize_24 : decode cX4_greatestSize 24 = .ok (.iload_n 2, 1) := by decide +kernel
theorem dX4_greatestSize_25 : decode cX4_greatestSize 25 = .ok (.aload_n 1, 1) := by decide +kernel
theorem dX4_greatestSize_26 : decode cX4_greatestSize 26 = .ok (.getfield 34, 3) := by decide +kernel
theorem dX4_greatestSize_29 : decode cX4_greatestSize 29 = .ok (.iload_n 3, 1) := by decide +kernel
theorem dX4_greatestSize_30 : decode cX4_greatestSize 30 = .ok (.iaload, 1) := by decide +kernel
theorem dX4_greatestSize_31 : decode cX4_greatestSize 31 = .ok (.invokestatic 48, 3) := by decide +kernel
theorem dX4_greatestSize_34 : decode cX4_greatestSize 34 = .ok (.istore_n 2, 1) := by decide +kernel
theorem dX4_greatestSize_35 : decode cX4_greatestSize 35 = .ok (.iinc 3 1, 3) := by decide +kernel
theorem dX4_greatestSize_38 : decode cX4_greatestSize 38 = .ok (.goto (-33), 3) := by decide +kernel
theorem dX4_greatestSize_41 : decode cX4_greatestSize 41 = .ok (.iload_n 2, 1) := by decide +kernel
theorem dX4_greatestSize_42 : decode cX4_greatestSize 42 = .ok (.ireturn, 1) := by decide +kernel
set_option maxHeartbeats 4000000 in
set_option maxRecDepth 100000 in
theorem cn_X4_greatestSize {l : Launch} {cA : Nat → ClassId} {ad : Nat → Nat} {D : va_G} {E : Nat → Nat} {A : Nat → Prop} {k0 : Nat} {s0 sr : SS} {rr : Int32} (hf : f_X4_greatestSize k0 s0 = some (rr, sr)) : zCon Ox Nx cA ad D E l yX4_greatestSize cX4_greatestSize 4 (some .int) 1 A [.ref (ad k0), .ref (ad 6)] s0 (some (.int rr)) sr := by
  refine zstart (own := RX4) hOx (by decide) rfl (Nat.le_of_ble_eq_true rfl) ?_
  intro p e s m args below meth c X hP ls hl
  have hx := X.1
  have hb := X.2.1
  have hl : lv_has ls 4 [(0, .ref (ad k0)), (1, .ref (ad 6))] := hl
  have hS : va_S A s.heap s.heap [] := va_S.rf
  have hc_5 : ∀ (n5 : Nat) (k0 : Nat) (x2 : Int32) (x3 : Int32) (s1 : SS) (H : Heap) (locs : List Loc) (ls : Array Slot), lv_has ls 4 [(0, .ref (ad k0)), (1, .ref (ad 6)), (2, .int x2), (3, .int x3)] → va_P D ZCL (zw Ox Nx cA ad s1) H → va_S A s.heap H locs → f_X4_greatestSize_c5 n5 k0 x2 x3 s1 = some (rr, sr) → W p l e (zrm 1) s m args below meth c H locs 0 0 (MQ below (zQc Ox Nx cA ad D A (some (.int rr)) sr) args s 0 0 A) (F0 m 5 ls []) := by
    intro n5
    induction n5 with
    | zero =>
      intro k0 x2 x3 s1 H locs ls hl hP hS hf
      rw [f_X4_greatestSize_c5] at hf
      cases hf
    | succ n5 ih5 =>
      have hc_35 : ∀ (k0 : Nat) (x2 : Int32) (x3 : Int32) (s1 : SS) (H : Heap) (locs : List Loc) (ls : Array Slot), lv_has ls 4 [(0, .ref (ad k0)), (1, .ref (ad 6)), (2, .int x2), (3, .int x3)] → va_P D ZCL (zw Ox Nx cA ad s1) H → va_S A s.heap H locs → f_X4_greatestSize_c35 (f_X4_greatestSize_c5 n5) k0 x2 x3 s1 = some (rr, sr) → W p l e (zrm 1) s m args below meth c H locs 0 0 (MQ below (zQc Ox Nx cA ad D A (some (.int rr)) sr) args s 0 0 A) (F0 m 35 ls []) := by
        intro k0 x2 x3 s1 H locs ls hl hP hS hf
        rw [f_X4_greatestSize_c35] at hf
        obtain ⟨gp0, hf⟩ := zgd hf
        refine lv_iinc (v := (x3 + 1)) (lv' := [(3, .int (x3 + 1)), (0, .ref (ad k0)), (1, .ref (ad 6)), (2, .int x2)]) hx hb dX4_greatestSize_35 hl (k := 3) rfl rfl (by decide) rfl (fun ls hl => ?_)
        refine lv_goto (tgt := 5) hx hb dX4_greatestSize_38 (by decide) ?_
        exact ih5 k0 x2 (x3 + 1) s1 _ _ _ (lv_sub hl [1, 2, 3, 0] rfl) hP hS hf
      intro k0 x2 x3 s1 H locs ls hl hP hS hf
      rw [f_X4_greatestSize_c5] at hf
      obtain ⟨gp0, hf⟩ := zgd hf
      refine lv_iload_n hx hb dX4_greatestSize_5 rfl (lv_at hl 3 rfl) ?_
      refine lv_aload_n hx hb dX4_greatestSize_6 rfl (lv_at hl 1 rfl) ?_
      refine gf_X4_41 X hP (k := 6) rfl dX4_greatestSize_7 ?_
      refine zicmp_ge (tgt := 41) hx hb dX4_greatestSize_10 (by decide) hf (fun hf => ?_) (fun hf => ?_)
      · refine lv_iload_n hx hb dX4_greatestSize_41 rfl (lv_at hl 2 rfl) ?_
        exact zret_i X hP hS hf rfl dX4_greatestSize_42
      · refine lv_aload_n hx hb dX4_greatestSize_13 rfl (lv_at hl 0 rfl) ?_
        refine lv_aload_n hx hb dX4_greatestSize_14 rfl (lv_at hl 1 rfl) ?_
        refine lv_iload_n hx hb dX4_greatestSize_15 rfl (lv_at hl 3 rfl) ?_
        obtain ⟨r1, s2, h3, hf⟩ := zbd_some hf
        refine zcallV X hP hS hl.1 (k := k0) (As := [.ref (ad 6), .int x3]) (rest := []) (cn_X4_numberAt h3) cw_X4_numberAt zp_4 gp0 (by decide) rfl ml_X4_44 (by decide) rfl rfl (Nat.le_of_ble_eq_true rfl) dX4_greatestSize_16 (fun H locs hP hS => ?_)
        refine lv_lconst (v := 0) hx hb dX4_greatestSize_19 (by decide) ?_
        refine W.lcmp hx hb dX4_greatestSize_20 ?_
        refine zif_eq (tgt := 35) hx hb dX4_greatestSize_21 (by decide) hf (fun hf => ?_) (fun hf => ?_)
        · exact hc_35 k0 x2 x3 s2 _ _ _ (lv_sub hl [0, 1, 2, 3] rfl) hP hS hf
        · refine lv_iload_n hx hb dX4_greatestSize_24 rfl (lv_at hl 2 rfl) ?_
          refine lv_aload_n hx hb dX4_greatestSize_25 rfl (lv_at hl 1 rfl) ?_
          refine gf_X4_34 X hP (k := 6) (q := 63) rfl dX4_greatestSize_26 rfl ?_
          refine lv_iload_n hx hb dX4_greatestSize_29 rfl (lv_at hl 3 rfl) ?_
          obtain ⟨g4, hf⟩ := zgd hf
          refine zald_i X hP (k := 63) (n := 462) (rs := []) rfl g4 dX4_greatestSize_30 ?_
          refine zmax X hl.1 ml_X4_48 nt_max.1 nt_max.2.1 nt_max.2.2 ⟨Nat.le_of_ble_eq_true rfl, Nat.le_of_ble_eq_true rfl⟩ dX4_greatestSize_31 ?_
          refine lv_istore_n (lv' := [(2, .int (if x2 < (s2.1 63 (x3).toNatClampNeg) then (s2.1 63 (x3).toNatClampNeg) else x2)), (0, .ref (ad k0)), (1, .ref (ad 6)), (3, .int x3)]) hx hb dX4_greatestSize_34 rfl hl (by decide) rfl (fun ls hl => ?_)
          exact hc_35 k0 (if x2 < (s2.1 63 (x3).toNatClampNeg) then (s2.1 63 (x3).toNatClampNeg) else x2) x3 s2 _ _ _ (lv_sub hl [1, 2, 0, 3] rfl) hP hS hf
  rw [f_X4_greatestSize] at hf
  obtain ⟨gp0, hf⟩ := zgd hf
  refine lv_bipush (v := (-2)) hx hb dX4_greatestSize_0 (by decide) ?_
  refine lv_istore_n (lv' := [(2, .int (-2)), (0, .ref (ad k0)), (1, .ref (ad 6))]) hx hb dX4_greatestSize_2 rfl hl (by decide) rfl (fun ls hl => ?_)
  refine lv_iconst (v := 0) hx hb dX4_greatestSize_3 (by decide) ?_
  refine lv_istore_n (lv' := [(3, .int 0), (2, .int (-2)), (0, .ref (ad k0)), (1, .ref (ad 6))]) hx hb dX4_greatestSize_4 rfl hl (by decide) rfl (fun ls hl => ?_)
  exact hc_5 ZF k0 (-2) 0 s0 _ _ _ (lv_sub hl [2, 3, 1, 0] rfl) hP hS hf
theorem dX4_leastSize_0 : decode cX4_leastSize 0 = .ok (.bipush (-2), 2) := by decide +kernel
theorem dX4_leastSize_2 : decode cX4_leastSize 2 = .ok (.istore_n 2, 1) := by decide +kernel
theorem dX4_leastSize_3 : decode cX4_leastSize 3 = .ok (.iconst 0, 1) := by decide +kernel
theorem dX4_leastSize_4 : decode cX4_leastSize 4 = .ok (.istore_n 3, 1) := by decide +kernel
theorem dX4_leastSize_5 : decode cX4_leastSize 5 = .ok (.iload_n 3, 1) := by decide +kernel
theorem dX4_leastSize_6 : decode cX4_leastSize 6 = .ok (.aload_n 1, 1) := by decide +kernel
theorem dX4_leastSize_7 : decode cX4_leastSize 7 = .ok (.getfield 41, 3) := by decide +kernel
theorem dX4_leastSize_10 : decode cX4_leastSize 10 = .ok (.if_icmp .ge 43, 3) := by decide +kernel
theorem dX4_leastSize_13 : decode cX4_leastSize 13 = .ok (.aload_n 0, 1) := by decide +kernel
theorem dX4_leastSize_14 : decode cX4_leastSize 14 = .ok (.aload_n 1, 1) := by decide +kernel
theorem dX4_leastSize_15 : decode cX4_leastSize 15 = .ok (.iload_n 3, 1) := by decide +kernel
theorem dX4_leastSize_16 : decode cX4_leastSize 16 = .ok (.invokevirtual 44, 3) := by decide +kernel
theorem dX4_leastSize_19 : decode cX4_leastSize 19 = .ok (.lconst 0, 1) := by decide +kernel
theorem dX4_leastSize_20 : decode cX4_leastSize 20 = .ok (.lcmp, 1) := by decide +kernel
theorem dX4_leastSize_21 : decode cX4_leastSize 21 = .ok (.ifCond .eq 26, 3) := by decide +kernel
theorem dX4_leastSize_24 : decode cX4_leastSize 24 = .ok (.iload_n 2, 1) := by decide +kernel
theorem dX4_leastSize_25 : decode cX4_leastSize 25 = .ok (.bipush (-2), 2) := by decide +kernel
theorem dX4_leastSize_27 : decode cX4_leastSize 27 = .ok (.if_icmp .eq 13, 3) := by decide +kernel
theorem dX4_leastSize_30 : decode cX4_leastSize 30 = .ok (.aload_n 1, 1) := by decide +kernel
theorem dX4_leastSize_31 : decode cX4_leastSize 31 = .ok (.getfield 34, 3) := by decide +kernel
theorem dX4_leastSize_34 : decode cX4_leastSize 34 = .ok (.iload_n 3, 1) := by decide +kernel
theorem dX4_leastSize_35 : decode cX4_leastSize 35 = .ok (.iaload, 1) := by decide +kernel
theorem dX4_leastSize_36 : decode cX4_leastSize 36 = .ok (.iload_n 2, 1) := by decide +kernel
theorem dX4_leastSize_37 : decode cX4_leastSize 37 = .ok (.if_icmp .ge 10, 3) := by decide +kernel
theorem dX4_leastSize_40 : decode cX4_leastSize 40 = .ok (.aload_n 1, 1) := by decide +kernel
theorem dX4_leastSize_41 : decode cX4_leastSize 41 = .ok (.getfield 34, 3) := by decide +kernel
theorem dX4_leastSize_44 : decode cX4_leastSize 44 = .ok (.iload_n 3, 1) := by decide +kernel
theorem dX4_leastSize_45 : decode cX4_leastSize 45 = .ok (.iaload, 1) := by decide +kernel
theorem dX4_leastSize_46 : decode cX4_leastSize 46 = .ok (.istore_n 2, 1) := by decide +kernel
theorem dX4_leastSize_47 : decode cX4_leastSize 47 = .ok (.iinc 3 1, 3) := by decide +kernel
theorem dX4_leastSize_50 : decode cX4_leastSize 50 = .ok (.goto (-45), 3) := by decide +kernel
theorem dX4_leastSize_53 : decode cX4_leastSize 53 = .ok (.iload_n 2, 1) := by decide +kernel
theorem dX4_leastSize_54 : decode cX4_leastSize 54 = .ok (.ireturn, 1) := by decide +kernel
set_option maxHeartbeats 4000000 in
set_option maxRecDepth 100000 in
theorem cn_X4_leastSize {l : Launch} {cA : Nat → ClassId} {ad : Nat → Nat} {D : va_G} {E : Nat → Nat} {A : Nat → Prop} {k0 : Nat} {s0 sr : SS} {rr : Int32} (hf : f_X4_leastSize k0 s0 = some (rr, sr)) : zCon Ox Nx cA ad D E l yX4_leastSize cX4_leastSize 4 (some .int) 1 A [.ref (ad k0), .ref (ad 6)] s0 (some (.int rr)) sr := by
  refine zstart (own := RX4) hOx (by decide) rfl (Nat.le_of_ble_eq_true rfl) ?_
  intro p e s m args below meth c X hP ls hl
  have hx := X.1
  have hb := X.2.1
  have hl : lv_has ls 4 [(0, .ref (ad k0)), (1, .ref (ad 6))] := hl
  have hS : va_S A s.heap s.heap [] := va_S.rf
  have hc_5 : ∀ (n5 : Nat) (k0 : Nat) (x2 : Int32) (x3 : Int32) (s1 : SS) (H : Heap) (locs : List Loc) (ls : Array Slot), lv_has ls 4 [(0, .ref (ad k0)), (1, .ref (ad 6)), (2, .int x2), (3, .int x3)] → va_P D ZCL (zw Ox Nx cA ad s1) H → va_S A s.heap H locs → f_X4_leastSize_c5 n5 k0 x2 x3 s1 = some (rr, sr) → W p l e (zrm 1) s m args below meth c H locs 0 0 (MQ below (zQc Ox Nx cA ad D A (some (.int rr)) sr) args s 0 0 A) (F0 m 5 ls []) := by
    intro n5
    induction n5 with
    | zero =>
      intro k0 x2 x3 s1 H locs ls hl hP hS hf
      rw [f_X4_leastSize_c5] at hf
      cases hf
    | succ n5 ih5 =>
      have hc_47 : ∀ (k0 : Nat) (x2 : Int32) (x3 : Int32) (s1 : SS) (H : Heap) (locs : List Loc) (ls : Array Slot), lv_has ls 4 [(0, .ref (ad k0)), (1, .ref (ad 6)), (2, .int x2), (3, .int x3)] → va_P D ZCL (zw Ox Nx cA ad s1) H → va_S A s.heap H locs → f_X4_leastSize_c47 (f_X4_leastSize_c5 n5) k0 x2 x3 s1 = some (rr, sr) → W p l e (zrm 1) s m args below meth c H locs 0 0 (MQ below (zQc Ox Nx cA ad D A (some (.int rr)) sr) args s 0 0 A) (F0 m 47 ls []) := by
        intro k0 x2 x3 s1 H locs ls hl hP hS hf
        rw [f_X4_leastSize_c47] at hf
        obtain ⟨gp0, hf⟩ := zgd hf
        refine lv_iinc (v := (x3 + 1)) (lv' := [(3, .int (x3 + 1)), (0, .ref (ad k0)), (1, .ref (ad 6)), (2, .int x2)]) hx hb dX4_leastSize_47 hl (k := 3) rfl rfl (by decide) rfl (fun ls hl => ?_)
        refine lv_goto (tgt := 5) hx hb dX4_leastSize_50 (by decide) ?_
        exact ih5 k0 x2 (x3 + 1) s1 _ _ _ (lv_sub hl [1, 2, 3, 0] rfl) hP hS hf
      have hc_40 : ∀ (k0 : Nat) (x3 : Int32) (s1 : SS) (H : Heap) (locs : List Loc) (ls : Array Slot), lv_has ls 4 [(0, .ref (ad k0)), (1, .ref (ad 6)), (3, .int x3)] → va_P D ZCL (zw Ox Nx cA ad s1) H → va_S A s.heap H locs → f_X4_leastSize_c40 (f_X4_leastSize_c5 n5) k0 x3 s1 = some (rr, sr) → W p l e (zrm 1) s m args below meth c H locs 0 0 (MQ below (zQc Ox Nx cA ad D A (some (.int rr)) sr) args s 0 0 A) (F0 m 40 ls []) := by
        intro k0 x3 s1 H locs ls hl hP hS hf
        rw [f_X4_leastSize_c40] at hf
        obtain ⟨gp0, hf⟩ := zgd hf
        refine lv_aload_n hx hb dX4_leastSize_40 rfl (lv_at hl 1 rfl) ?_
        refine gf_X4_34 X hP (k := 6) (q := 63) rfl dX4_leastSize_41 rfl ?_
        refine lv_iload_n hx hb dX4_leastSize_44 rfl (lv_at hl 2 rfl) ?_
        obtain ⟨g4, hf⟩ := zgd hf
        refine zald_i X hP (k := 63) (n := 462) (rs := []) rfl g4 dX4_leastSize_45 ?_
        refine lv_istore_n (lv' := [(2, .int (s1.1 63 (x3).toNatClampNeg)), (0, .ref (ad k0)), (1, .ref (ad 6)), (3, .int x3)]) hx hb dX4_leastSize_46 rfl hl (by decide) rfl (fun ls hl => ?_)
        exact hc_47 k0 (s1.1 63 (x3).toNatClampNeg) x3 s1 _ _ _ (lv_sub hl [1, 2, 0, 3] rfl) hP hS hf
      intro k0 x2 x3 s1 H locs ls hl hP hS hf
      rw [f_X4_leastSize_c5] at hf
      obtain ⟨gp0, hf⟩ := zgd hf
      refine lv_iload_n hx hb dX4_leastSize_5 rfl (lv_at hl 3 rfl) ?_
      refine lv_aload_n hx hb dX4_leastSize_6 rfl (lv_at hl 1 rfl) ?_
      refine gf_X4_41 X hP (k := 6) rfl dX4_leastSize_7 ?_
      refine zicmp_ge (tgt := 53) hx hb dX4_leastSize_10 (by decide) hf (fun hf => ?_) (fun hf => ?_)
      · refine lv_iload_n hx hb dX4_leastSize_53 rfl (lv_at hl 2 rfl) ?_
        exact zret_i X hP hS hf rfl dX4_leastSize_54
      · refine lv_aload_n hx hb dX4_leastSize_13 rfl (lv_at hl 0 rfl) ?_
        refine lv_aload_n hx hb dX4_leastSize_14 rfl (lv_at hl 1 rfl) ?_
        refine lv_iload_n hx hb dX4_leastSize_15 rfl (lv_at hl 3 rfl) ?_
        obtain ⟨r1, s2, h3, hf⟩ := zbd_some hf
        refine zcallV X hP hS hl.1 (k := k0) (As := [.ref (ad 6), .int x3]) (rest := []) (cn_X4_numberAt h3) cw_X4_numberAt zp_4 gp0 (by decide) rfl ml_X4_44 (by decide) rfl rfl (Nat.le_of_ble_eq_true rfl) dX4_leastSize_16 (fun H locs hP hS => ?_)
        refine lv_lconst (v := 0) hx hb dX4_leastSize_19 (by decide) ?_
        refine W.lcmp hx hb dX4_leastSize_20 ?_
        refine zif_eq (tgt := 47) hx hb dX4_leastSize_21 (by decide) hf (fun hf => ?_) (fun hf => ?_)
        · exact hc_47 k0 x2 x3 s2 _ _ _ (lv_sub hl [0, 1, 2, 3] rfl) hP hS hf
        · refine lv_iload_n hx hb dX4_leastSize_24 rfl (lv_at hl 2 rfl) ?_
          refine lv_bipush (v := (-2)) hx hb dX4_leastSize_25 (by decide) ?_
          refine zicmp_eq (tgt := 40) hx hb dX4_leastSize_27 (by decide) hf (fun hf => ?_) (fun hf => ?_)
          · exact hc_40 k0 x3 s2 _ _ _ (lv_sub hl [0, 1, 3] rfl) hP hS hf
          · refine lv_aload_n hx hb dX4_leastSize_30 rfl (lv_at hl 1 rfl) ?_
            refine gf_X4_34 X hP (k := 6) (q := 63) rfl dX4_leastSize_31 rfl ?_
            refine lv_iload_n hx hb dX4_leastSize_34 rfl (lv_at hl 3 rfl) ?_
            obtain ⟨g5, hf⟩ := zgd hf
            refine zald_i X hP (k := 63) (n := 462) (rs := []) rfl g5 dX4_leastSize_35 ?_
            refine lv_iload_n hx hb dX4_leastSize_36 rfl (lv_at hl 2 rfl) ?_
            refine zicmp_ge (tgt := 47) hx hb dX4_leastSize_37 (by decide) hf (fun hf => ?_) (fun hf => ?_)
            · exact hc_47 k0 x2 x3 s2 _ _ _ (lv_sub hl [0, 1, 2, 3] rfl) hP hS hf
            · exact hc_40 k0 x3 s2 _ _ _ (lv_sub hl [0, 1, 3] rfl) hP hS hf
  rw [f_X4_leastSize] at hf
  obtain ⟨gp0, hf⟩ := zgd hf
  refine lv_bipush (v := (-2)) hx hb dX4_leastSize_0 (by decide) ?_
  refine lv_istore_n (lv' := [(2, .int (-2)), (0, .ref (ad k0)), (1, .ref (ad 6))]) hx hb dX4_leastSize_2 rfl hl (by decide) rfl (fun ls hl => ?_)
  refine lv_iconst (v := 0) hx hb dX4_leastSize_3 (by decide) ?_
  refine lv_istore_n (lv' := [(3, .int 0), (2, .int (-2)), (0, .ref (ad k0)), (1, .ref (ad 6))]) hx hb dX4_leastSize_4 rfl hl (by decide) rfl (fun ls hl => ?_)
  exact hc_5 ZF k0 (-2) 0 s0 _ _ _ (lv_sub hl [2, 3, 1, 0] rfl) hP hS hf
theorem dX4_isOfSizeOne_0 : decode cX4_isOfSizeOne 0 = .ok (.iconst 0, 1) := by decide +kernel
theorem dX4_isOfSizeOne_1 : decode cX4_isOfSizeOne 1 = .ok (.istore_n 2, 1) := by decide +kernel
theorem dX4_isOfSizeOne_2 : decode cX4_isOfSizeOne 2 = .ok (.iload_n 2, 1) := by decide +kernel
theorem dX4_isOfSizeOne_3 : decode cX4_isOfSizeOne 3 = .ok (.aload_n 1, 1) := by decide +kernel
theorem dX4_isOfSizeOne_4 : decode cX4_isOfSizeOne 4 = .ok (.getfield 41, 3) := by decide +kernel
theorem dX4_isOfSizeOne_7 : decode cX4_isOfSizeOne 7 = .ok (.if_icmp .ge 32, 3) := by decide +kernel
theorem dX4_isOfSizeOne_10 : decode cX4_isOfSizeOne 10 = .ok (.aload_n 1, 1) := by decide +kernel
theorem dX4_isOfSizeOne_11 : decode cX4_isOfSizeOne 11 = .ok (.getfield 34, 3) := by decide +kernel
theorem dX4_isOfSizeOne_14 : decode cX4_isOfSizeOne 14 = .ok (.iload_n 2, 1) := by decide +kernel
theorem dX4_isOfSizeOne_15 : decode cX4_isOfSizeOne 15 = .ok (.iaload, 1) := by decide +kernel
theorem dX4_isOfSizeOne_16 : decode cX4_isOfSizeOne 16 = .ok (.iconst 1, 1) := by decide +kernel
theorem dX4_isOfSizeOne_17 : decode cX4_isOfSizeOne 17 = .ok (.if_icmp .eq 16, 3) := by decide +kernel
theorem dX4_isOfSizeOne_20 : decode cX4_isOfSizeOne 20 = .ok (.aload_n 0, 1) := by decide +kernel
theorem dX4_isOfSizeOne_21 : decode cX4_isOfSizeOne 21 = .ok (.aload_n 1, 1) := by decide +kernel
theorem dX4_isOfSizeOne_22 : decode cX4_isOfSizeOne 22 = .ok (.iload_n 2, 1) := by decide +kernel
theorem dX4_isOfSizeOne_23 : decode cX4_isOfSizeOne 23 = .ok (.invokevirtual 44, 3) := by decide +kernel
theorem dX4_isOfSizeOne_26 : decode cX4_isOfSizeOne 26 = .ok (.lconst 0, 1) := by decide +kernel
theorem dX4_isOfSizeOne_27 : decode cX4_isOfSizeOne 27 = .ok (.lcmp, 1) := by decide +kernel
theorem dX4_isOfSizeOne_28 : decode cX4_isOfSizeOne 28 = .ok (.ifCond .eq 5, 3) := by decide +kernel
theorem dX4_isOfSizeOne_31 : decode cX4_isOfSizeOne 31 = .ok (.iconst 0, 1) := by decide +kernel
theorem dX4_isOfSizeOne_32 : decode cX4_isOfSizeOne 32 = .ok (.ireturn, 1) := by decide +kernel
theorem dX4_isOfSizeOne_33 : decode cX4_isOfSizeOne 33 = .ok (.iinc 2 1, 3) := by decide +kernel
theorem dX4_isOfSizeOne_36 : decode cX4_isOfSizeOne 36 = .ok (.goto (-34), 3) := by decide +kernel
theorem dX4_isOfSizeOne_39 : decode cX4_isOfSizeOne 39 = .ok (.iconst 1, 1) := by decide +kernel
theorem dX4_isOfSizeOne_40 : decode cX4_isOfSizeOne 40 = .ok (.ireturn, 1) := by decide +kernel
set_option maxHeartbeats 4000000 in
set_option maxRecDepth 100000 in
theorem cn_X4_isOfSizeOne {l : Launch} {cA : Nat → ClassId} {ad : Nat → Nat} {D : va_G} {E : Nat → Nat} {A : Nat → Prop} {k0 : Nat} {s0 sr : SS} {rr : Int32} (hf : f_X4_isOfSizeOne k0 s0 = some (rr, sr)) : zCon Ox Nx cA ad D E l yX4_isOfSizeOne cX4_isOfSizeOne 3 (some .boolean) 1 A [.ref (ad k0), .ref (ad 6)] s0 (some (.int rr)) sr := by
  refine zstart (own := RX4) hOx (by decide) rfl (Nat.le_of_ble_eq_true rfl) ?_
  intro p e s m args below meth c X hP ls hl
  have hx := X.1
  have hb := X.2.1
  have hl : lv_has ls 3 [(0, .ref (ad k0)), (1, .ref (ad 6))] := hl
  have hS : va_S A s.heap s.heap [] := va_S.rf
  have hc_2 : ∀ (n2 : Nat) (k0 : Nat) (x2 : Int32) (s1 : SS) (H : Heap) (locs : List Loc) (ls : Array Slot), lv_has ls 3 [(0, .ref (ad k0)), (1, .ref (ad 6)), (2, .int x2)] → va_P D ZCL (zw Ox Nx cA ad s1) H → va_S A s.heap H locs → f_X4_isOfSizeOne_c2 n2 k0 x2 s1 = some (rr, sr) → W p l e (zrm 1) s m args below meth c H locs 0 0 (MQ below (zQc Ox Nx cA ad D A (some (.int rr)) sr) args s 0 0 A) (F0 m 2 ls []) := by
    intro n2
    induction n2 with
    | zero =>
      intro k0 x2 s1 H locs ls hl hP hS hf
      rw [f_X4_isOfSizeOne_c2] at hf
      cases hf
    | succ n2 ih2 =>
      have hc_33 : ∀ (k0 : Nat) (x2 : Int32) (s1 : SS) (H : Heap) (locs : List Loc) (ls : Array Slot), lv_has ls 3 [(0, .ref (ad k0)), (1, .ref (ad 6)), (2, .int x2)] → va_P D ZCL (zw Ox Nx cA ad s1) H → va_S A s.heap H locs → f_X4_isOfSizeOne_c33 (f_X4_isOfSizeOne_c2 n2) k0 x2 s1 = some (rr, sr) → W p l e (zrm 1) s m args below meth c H locs 0 0 (MQ below (zQc Ox Nx cA ad D A (some (.int rr)) sr) args s 0 0 A) (F0 m 33 ls []) := by
        intro k0 x2 s1 H locs ls hl hP hS hf
        rw [f_X4_isOfSizeOne_c33] at hf
        obtain ⟨gp0, hf⟩ := zgd hf
        refine lv_iinc (v := (x2 + 1)) (lv' := [(2, .int (x2 + 1)), (0, .ref (ad k0)), (1, .ref (ad 6))]) hx hb dX4_isOfSizeOne_33 hl (k := 2) rfl rfl (by decide) rfl (fun ls hl => ?_)
        refine lv_goto (tgt := 2) hx hb dX4_isOfSizeOne_36 (by decide) ?_
        exact ih2 k0 (x2 + 1) s1 _ _ _ (lv_sub hl [1, 2, 0] rfl) hP hS hf
      intro k0 x2 s1 H locs ls hl hP hS hf
      rw [f_X4_isOfSizeOne_c2] at hf
      obtain ⟨gp0, hf⟩ := zgd hf
      refine lv_iload_n hx hb dX4_isOfSizeOne_2 rfl (lv_at hl 2 rfl) ?_
      refine lv_aload_n hx hb dX4_isOfSizeOne_3 rfl (lv_at hl 1 rfl) ?_
      refine gf_X4_41 X hP (k := 6) rfl dX4_isOfSizeOne_4 ?_
      refine zicmp_ge (tgt := 39) hx hb dX4_isOfSizeOne_7 (by decide) hf (fun hf => ?_) (fun hf => ?_)
      · refine lv_iconst (v := 1) hx hb dX4_isOfSizeOne_39 (by decide) ?_
        exact zret_i X hP hS hf rfl dX4_isOfSizeOne_40
      · refine lv_aload_n hx hb dX4_isOfSizeOne_10 rfl (lv_at hl 1 rfl) ?_
        refine gf_X4_34 X hP (k := 6) (q := 63) rfl dX4_isOfSizeOne_11 rfl ?_
        refine lv_iload_n hx hb dX4_isOfSizeOne_14 rfl (lv_at hl 2 rfl) ?_
        obtain ⟨g1, hf⟩ := zgd hf
        refine zald_i X hP (k := 63) (n := 462) (rs := []) rfl g1 dX4_isOfSizeOne_15 ?_
        refine lv_iconst (v := 1) hx hb dX4_isOfSizeOne_16 (by decide) ?_
        refine zicmp_eq (tgt := 33) hx hb dX4_isOfSizeOne_17 (by decide) hf (fun hf => ?_) (fun hf => ?_)
        · exact hc_33 k0 x2 s1 _ _ _ (lv_sub hl [0, 1, 2] rfl) hP hS hf
        · refine lv_aload_n hx hb dX4_isOfSizeOne_20 rfl (lv_at hl 0 rfl) ?_
          refine lv_aload_n hx hb dX4_isOfSizeOne_21 rfl (lv_at hl 1 rfl) ?_
          refine lv_iload_n hx hb dX4_isOfSizeOne_22 rfl (lv_at hl 2 rfl) ?_
          obtain ⟨r2, s3, h4, hf⟩ := zbd_some hf
          refine zcallV X hP hS hl.1 (k := k0) (As := [.ref (ad 6), .int x2]) (rest := []) (cn_X4_numberAt h4) cw_X4_numberAt zp_4 gp0 (by decide) rfl ml_X4_44 (by decide) rfl rfl (Nat.le_of_ble_eq_true rfl) dX4_isOfSizeOne_23 (fun H locs hP hS => ?_)
          refine lv_lconst (v := 0) hx hb dX4_isOfSizeOne_26 (by decide) ?_
          refine W.lcmp hx hb dX4_isOfSizeOne_27 ?_
          refine zif_eq (tgt := 33) hx hb dX4_isOfSizeOne_28 (by decide) hf (fun hf => ?_) (fun hf => ?_)
          · exact hc_33 k0 x2 s3 _ _ _ (lv_sub hl [0, 1, 2] rfl) hP hS hf
          · refine lv_iconst (v := 0) hx hb dX4_isOfSizeOne_31 (by decide) ?_
            exact zret_i X hP hS hf rfl dX4_isOfSizeOne_32
  rw [f_X4_isOfSizeOne] at hf
  obtain ⟨gp0, hf⟩ := zgd hf
  refine lv_iconst (v := 0) hx hb dX4_isOfSizeOne_0 (by decide) ?_
  refine lv_istore_n (lv' := [(2, .int 0), (0, .ref (ad k0)), (1, .ref (ad 6))]) hx hb dX4_isOfSizeOne_1 rfl hl (by decide) rfl (fun ls hl => ?_)
  exact hc_2 ZF k0 0 s0 _ _ _ (lv_sub hl [1, 2, 0] rfl) hP hS hf
theorem dX4_widen_0 : decode cX4_widen 0 = .ok (.iload_n 2, 1) := by decide +kernel
theorem dX4_widen_1 : decode cX4_widen 1 = .ok (.aload_n 1, 1) := by decide +kernel
theorem dX4_widen_2 : decode cX4_widen 2 = .ok (.getfield 41, 3) := by decide +kernel
theorem dX4_widen_5 : decode cX4_widen 5 = .ok (.invokestatic 54, 3) := by decide +kernel
theorem dX4_widen_8 : decode cX4_widen 8 = .ok (.istore_n 3, 1) := by decide +kernel
theorem dX4_widen_9 : decode cX4_widen 9 = .ok (.getstatic 57, 3) := by decide +kernel
theorem dX4_widen_12 : decode cX4_widen 12 = .ok (.aload_n 1, 1) := by decide +kernel
theorem dX4_widen_13 : decode cX4_widen 13 = .ok (.getfield 60, 3) := by decide +kernel
theorem dX4_widen_16 : decode cX4_widen 16 = .ok (.iconst 1, 1) := by decide +kernel
theorem dX4_widen_17 : decode cX4_widen 17 = .ok (.isub, 1) := by decide +kernel
theorem dX4_widen_18 : decode cX4_widen 18 = .ok (.iaload, 1) := by decide +kernel
theorem dX4_widen_19 : decode cX4_widen 19 = .ok (.istore 4, 2) := by decide +kernel
theorem dX4_widen_21 : decode cX4_widen 21 = .ok (.aload_n 1, 1) := by decide +kernel
theorem dX4_widen_22 : decode cX4_widen 22 = .ok (.getfield 41, 3) := by decide +kernel
theorem dX4_widen_25 : decode cX4_widen 25 = .ok (.iconst 1, 1) := by decide +kernel
theorem dX4_widen_26 : decode cX4_widen 26 = .ok (.isub, 1) := by decide +kernel
theorem dX4_widen_27 : decode cX4_widen 27 = .ok (.istore 5, 2) := by decide +kernel
theorem dX4_widen_29 : decode cX4_widen 29 = .ok (.iload 5, 2) := by decide +kernel
theorem dX4_widen_31 : decode cX4_widen 31 = .ok (.ifCond .lt 48, 3) := by decide +kernel
theorem dX4_widen_34 : decode cX4_widen 34 = .ok (.lconst 0, 1) := by decide +kernel
theorem dX4_widen_35 : decode cX4_widen 35 = .ok (.lstore 6, 2) := by decide +kernel
theorem dX4_widen_37 : decode cX4_widen 37 = .ok (.aload_n 1, 1) := by decide +kernel
theorem dX4_widen_38 : decode cX4_widen 38 = .ok (.getfield 63, 3) := by decide +kernel
theorem dX4_widen_41 : decode cX4_widen 41 = .ok (.iload 5, 2) := by decide +kernel
theorem dX4_widen_43 : decode cX4_widen 43 = .ok (.iaload, 1) := by decide +kernel
theorem dX4_widen_44 : decode cX4_widen 44 = .ok (.iload 4, 2) := by decide +kernel
theorem dX4_widen_46 : decode cX4_widen 46 = .ok (.if_icmp .ge 18, 3) := by decide +kernel
theorem dX4_widen_49 : decode cX4_widen 49 = .ok (.iload_n 3, 1) := by decide +kernel
theorem dX4_widen_50 : decode cX4_widen 50 = .ok (.ifCond .le 14, 3) := by decide +kernel
theorem dX4_widen_53 : decode cX4_widen 53 = .ok (.iinc 3 (-1), 3) := by decide +kernel
theorem dX4_widen_56 : decode cX4_widen 56 = .ok (.aload_n 0, 1) := by decide +kernel
theorem dX4_widen_57 : decode cX4_widen 57 = .ok (.getfield 11, 3) := by decide +kernel
theorem dX4_widen_60 : decode cX4_widen 60 = .ok (.iload_n 3, 1) := by decide +kernel
theorem dX4_widen_61 : decode cX4_widen 61 = .ok (.laload, 1) := by decide +kernel
theorem dX4_widen_62 : decode cX4_widen 62 = .ok (.lstore 6, 2) := by decide +kernel
theorem dX4_widen_64 : decode cX4_widen 64 = .ok (.aload_n 0, 1) := by decide +kernel
theorem dX4_widen_65 : decode cX4_widen 65 = .ok (.getfield 11, 3) := by decide +kernel
theorem dX4_widen_68 : decode cX4_widen 68 = .ok (.iload 5, 2) := by decide +kernel
theorem dX4_widen_70 : decode cX4_widen 70 = .ok (.lload 6, 2) := by decide +kernel
theorem dX4_widen_72 : decode cX4_widen 72 = .ok (.lastore, 1) := by decide +kernel
theorem dX4_widen_73 : decode cX4_widen 73 = .ok (.iinc 5 (-1), 3) := by decide +kernel
theorem dX4_widen_76 : decode cX4_widen 76 = .ok (.goto (-47), 3) := by decide +kernel
theorem dX4_widen_79 : decode cX4_widen 79 = .ok (.return_, 1) := by decide +kernel
set_option maxHeartbeats 4000000 in
set_option maxRecDepth 100000 in
theorem cn_X4_widen {l : Launch} {cA : Nat → ClassId} {ad : Nat → Nat} {D : va_G} {E : Nat → Nat} {A : Nat → Prop} {k0 : Nat} {x2 : Int32} {s0 sr : SS} {rr : Unit} (hf : f_X4_widen k0 x2 s0 = some (rr, sr)) : zCon Ox Nx cA ad D E l yX4_widen cX4_widen 8 none 1 A [.ref (ad k0), .ref (ad 6), .int x2] s0 none sr := by
  refine zstart (own := RX4) hOx (by decide) rfl (Nat.le_of_ble_eq_true rfl) ?_
  intro p e s m args below meth c X hP ls hl
  have hx := X.1
  have hb := X.2.1
  have hl : lv_has ls 8 [(0, .ref (ad k0)), (1, .ref (ad 6)), (2, .int x2)] := hl
  have hS : va_S A s.heap s.heap [] := va_S.rf
  have hc_29 : ∀ (n29 : Nat) (k0 : Nat) (x3 : Int32) (x4 : Int32) (x5 : Int32) (s1 : SS) (H : Heap) (locs : List Loc) (ls : Array Slot), lv_has ls 8 [(0, .ref (ad k0)), (1, .ref (ad 6)), (3, .int x3), (4, .int x4), (5, .int x5)] → va_P D ZCL (zw Ox Nx cA ad s1) H → va_S A s.heap H locs → f_X4_widen_c29 n29 k0 x3 x4 x5 s1 = some (rr, sr) → W p l e (zrm 1) s m args below meth c H locs 0 0 (MQ below (zQc Ox Nx cA ad D A none sr) args s 0 0 A) (F0 m 29 ls []) := by
    intro n29
    induction n29 with
    | zero =>
      intro k0 x3 x4 x5 s1 H locs ls hl hP hS hf
      rw [f_X4_widen_c29] at hf
      cases hf
    | succ n29 ih29 =>
      have hc_64 : ∀ (k0 : Nat) (x3 : Int32) (x4 : Int32) (x5 : Int32) (x6 : Int64) (s1 : SS) (H : Heap) (locs : List Loc) (ls : Array Slot), lv_has ls 8 [(0, .ref (ad k0)), (1, .ref (ad 6)), (3, .int x3), (4, .int x4), (5, .int x5), (6, .long x6)] → va_P D ZCL (zw Ox Nx cA ad s1) H → va_S A s.heap H locs → f_X4_widen_c64 (f_X4_widen_c29 n29) k0 x3 x4 x5 x6 s1 = some (rr, sr) → W p l e (zrm 1) s m args below meth c H locs 0 0 (MQ below (zQc Ox Nx cA ad D A none sr) args s 0 0 A) (F0 m 64 ls []) := by
        intro k0 x3 x4 x5 x6 s1 H locs ls hl hP hS hf
        rw [f_X4_widen_c64] at hf
        obtain ⟨gp0, hf⟩ := zgd hf
        refine lv_aload_n hx hb dX4_widen_64 rfl (lv_at hl 0 rfl) ?_
        refine gf_X4_11 X hP (k := k0) gp0 dX4_widen_65 rfl ?_
        refine lv_iload hx hb dX4_widen_68 (lv_at hl 4 rfl) ?_
        refine lv_lload hx hb dX4_widen_70 (lv_at hl 5 rfl) ?_
        obtain ⟨g3, hf⟩ := zgd hf
        obtain ⟨n4, rn4, on4, in4⟩ := zok_of g3
        refine zast_l X hP hS (k := (zrf Ox k0 2)) on4 in4 dX4_widen_72 (fun H locs hP hS => ?_)
        refine lv_iinc (v := (x5 + (-1))) (lv' := [(5, .int (x5 + (-1))), (0, .ref (ad k0)), (1, .ref (ad 6)), (3, .int x3), (4, .int x4), (6, .long x6)]) hx hb dX4_widen_73 hl (k := 4) rfl rfl (by decide) rfl (fun ls hl => ?_)
        refine lv_goto (tgt := 29) hx hb dX4_widen_76 (by decide) ?_
        exact ih29 k0 x3 x4 (x5 + (-1)) (zSL s1 (zrf Ox k0 2) (x5).toNatClampNeg x6) _ _ _ (lv_sub hl [1, 2, 3, 4, 0] rfl) hP hS hf
      intro k0 x3 x4 x5 s1 H locs ls hl hP hS hf
      rw [f_X4_widen_c29] at hf
      obtain ⟨gp0, hf⟩ := zgd hf
      refine lv_iload hx hb dX4_widen_29 (lv_at hl 4 rfl) ?_
      refine zif_lt (tgt := 79) hx hb dX4_widen_31 (by decide) hf (fun hf => ?_) (fun hf => ?_)
      · exact zret_v X hP hS hf dX4_widen_79
      · refine lv_lconst (v := 0) hx hb dX4_widen_34 (by decide) ?_
        refine lv_lstore (lv' := [(6, .long 0), (0, .ref (ad k0)), (1, .ref (ad 6)), (3, .int x3), (4, .int x4), (5, .int x5)]) hx hb dX4_widen_35 hl (by decide) rfl (fun ls hl => ?_)
        refine lv_aload_n hx hb dX4_widen_37 rfl (lv_at hl 2 rfl) ?_
        refine gf_X4_63 X hP (k := 6) (q := 62) rfl dX4_widen_38 rfl ?_
        refine lv_iload hx hb dX4_widen_41 (lv_at hl 5 rfl) ?_
        obtain ⟨g2, hf⟩ := zgd hf
        refine zald_i X hP (k := 62) (n := 462) (rs := []) rfl g2 dX4_widen_43 ?_
        refine lv_iload hx hb dX4_widen_44 (lv_at hl 4 rfl) ?_
        refine zicmp_ge (tgt := 64) hx hb dX4_widen_46 (by decide) hf (fun hf => ?_) (fun hf => ?_)
        · exact hc_64 k0 x3 x4 x5 0 s1 _ _ _ (lv_sub hl [1, 2, 3, 4, 5, 0] rfl) hP hS hf
        · refine lv_iload_n hx hb dX4_widen_49 rfl (lv_at hl 3 rfl) ?_
          refine zif_le (tgt := 64) hx hb dX4_widen_50 (by decide) hf (fun hf => ?_) (fun hf => ?_)
          · exact hc_64 k0 x3 x4 x5 0 s1 _ _ _ (lv_sub hl [1, 2, 3, 4, 5, 0] rfl) hP hS hf
          · refine lv_iinc (v := (x3 + (-1))) (lv' := [(3, .int (x3 + (-1))), (6, .long 0), (0, .ref (ad k0)), (1, .ref (ad 6)), (4, .int x4), (5, .int x5)]) hx hb dX4_widen_53 hl (k := 3) rfl rfl (by decide) rfl (fun ls hl => ?_)
            refine lv_aload_n hx hb dX4_widen_56 rfl (lv_at hl 2 rfl) ?_
            refine gf_X4_11 X hP (k := k0) gp0 dX4_widen_57 rfl ?_
            refine lv_iload_n hx hb dX4_widen_60 rfl (lv_at hl 0 rfl) ?_
            obtain ⟨g5, hf⟩ := zgd hf
            obtain ⟨n6, rn6, on6, in6⟩ := zok_of g5
            refine zald_l X hP (k := (zrf Ox k0 2)) on6 in6 dX4_widen_61 ?_
            refine lv_lstore (lv' := [(6, .long (s1.2 (zrf Ox k0 2) ((x3 + (-1))).toNatClampNeg)), (3, .int (x3 + (-1))), (0, .ref (ad k0)), (1, .ref (ad 6)), (4, .int x4), (5, .int x5)]) hx hb dX4_widen_62 hl (by decide) rfl (fun ls hl => ?_)
            exact hc_64 k0 (x3 + (-1)) x4 x5 (s1.2 (zrf Ox k0 2) ((x3 + (-1))).toNatClampNeg) s1 _ _ _ (lv_sub hl [2, 3, 1, 4, 5, 0] rfl) hP hS hf
  rw [f_X4_widen] at hf
  obtain ⟨gp0, hf⟩ := zgd hf
  refine lv_iload_n hx hb dX4_widen_0 rfl (lv_at hl 2 rfl) ?_
  refine lv_aload_n hx hb dX4_widen_1 rfl (lv_at hl 1 rfl) ?_
  refine gf_X4_41 X hP (k := 6) rfl dX4_widen_2 ?_
  refine zmin X hl.1 ml_X4_54 nt_min.1 nt_min.2.1 nt_min.2.2 ⟨Nat.le_of_ble_eq_true rfl, Nat.le_of_ble_eq_true rfl⟩ dX4_widen_5 ?_
  refine lv_istore_n (lv' := [(3, .int (if (s0.1 6 2) < x2 then (s0.1 6 2) else x2)), (0, .ref (ad k0)), (1, .ref (ad 6)), (2, .int x2)]) hx hb dX4_widen_8 rfl hl (by decide) rfl (fun ls hl => ?_)
  refine zgsN X hS (i := 0) rfl nf_X4_57 dX4_widen_9 ?_
  refine lv_aload_n hx hb dX4_widen_12 rfl (lv_at hl 2 rfl) ?_
  refine gf_X4_60 X hP (k := 6) rfl dX4_widen_13 ?_
  refine lv_iconst (v := 1) hx hb dX4_widen_16 (by decide) ?_
  refine lv_isub hx hb dX4_widen_17 ?_
  obtain ⟨g1, hf⟩ := zgd hf
  refine zst X hS (k := 0) (n := 6) rfl rfl g1 dX4_widen_18 ?_
  refine lv_istore (lv' := [(4, .int (ztab 0 (((s0.1 6 1) - (1 : Int32))))), (3, .int (if (s0.1 6 2) < x2 then (s0.1 6 2) else x2)), (0, .ref (ad k0)), (1, .ref (ad 6)), (2, .int x2)]) hx hb dX4_widen_19 hl (by decide) rfl (fun ls hl => ?_)
  refine lv_aload_n hx hb dX4_widen_21 rfl (lv_at hl 3 rfl) ?_
  refine gf_X4_41 X hP (k := 6) rfl dX4_widen_22 ?_
  refine lv_iconst (v := 1) hx hb dX4_widen_25 (by decide) ?_
  refine lv_isub hx hb dX4_widen_26 ?_
  refine lv_istore (lv' := [(5, .int ((s0.1 6 2) - (1 : Int32))), (4, .int (ztab 0 (((s0.1 6 1) - (1 : Int32))))), (3, .int (if (s0.1 6 2) < x2 then (s0.1 6 2) else x2)), (0, .ref (ad k0)), (1, .ref (ad 6)), (2, .int x2)]) hx hb dX4_widen_27 hl (by decide) rfl (fun ls hl => ?_)
  exact hc_29 ZF k0 (if (s0.1 6 2) < x2 then (s0.1 6 2) else x2) (ztab 0 (((s0.1 6 1) - (1 : Int32)))) ((s0.1 6 2) - (1 : Int32)) s0 _ _ _ (lv_sub hl [3, 4, 2, 1, 0] rfl) hP hS hf
theorem dX5_isOne_0 : decode cX5_isOne 0 = .ok (.iload_n 1, 1) := by decide +kernel
theorem dX5_isOne_1 : decode cX5_isOne 1 = .ok (.ifCond .lt 12, 3) := by decide +kernel
theorem dX5_isOne_4 : decode cX5_isOne 4 = .ok (.iload_n 1, 1) := by decide +kernel
theorem dX5_isOne_5 : decode cX5_isOne 5 = .ok (.iconst 3, 1) := by decide +kernel
theorem dX5_isOne_6 : decode cX5_isOne 6 = .ok (.if_icmp .ge 7, 3) := by decide +kernel
theorem dX5_isOne_9 : decode cX5_isOne 9 = .ok (.iconst 1, 1) := by decide +kernel
theorem dX5_isOne_10 : decode cX5_isOne 10 = .ok (.goto 4, 3) := by decide +kernel
theorem dX5_isOne_13 : decode cX5_isOne 13 = .ok (.iconst 0, 1) := by decide +kernel
theorem dX5_isOne_14 : decode cX5_isOne 14 = .ok (.ireturn, 1) := by decide +kernel
set_option maxHeartbeats 4000000 in
set_option maxRecDepth 100000 in
theorem cn_X5_isOne {l : Launch} {cA : Nat → ClassId} {ad : Nat → Nat} {D : va_G} {E : Nat → Nat} {A : Nat → Prop} {x1 : Int32} {s0 sr : SS} {rr : Int32} (hf : f_X5_isOne x1 s0 = some (rr, sr)) : zCon Ox Nx cA ad D E l yX5_isOne cX5_isOne 2 (some .boolean) 0 A [.ref (ad 11), .int x1] s0 (some (.int rr)) sr := by
  refine zstart (own := RX5) hOx (by decide) rfl (Nat.le_of_ble_eq_true rfl) ?_
  intro p e s m args below meth c X hP ls hl
  have hx := X.1
  have hb := X.2.1
  have hl : lv_has ls 2 [(0, .ref (ad 11)), (1, .int x1)] := hl
  have hS : va_S A s.heap s.heap [] := va_S.rf
  rw [f_X5_isOne] at hf
  refine lv_iload_n hx hb dX5_isOne_0 rfl (lv_at hl 1 rfl) ?_
  refine zif_lt (tgt := 13) hx hb dX5_isOne_1 (by decide) hf (fun hf => ?_) (fun hf => ?_)
  · refine lv_iconst (v := 0) hx hb dX5_isOne_13 (by decide) ?_
    exact zret_i X hP hS hf rfl dX5_isOne_14
  · refine lv_iload_n hx hb dX5_isOne_4 rfl (lv_at hl 1 rfl) ?_
    refine lv_iconst (v := 3) hx hb dX5_isOne_5 (by decide) ?_
    refine zicmp_ge (tgt := 13) hx hb dX5_isOne_6 (by decide) hf (fun hf => ?_) (fun hf => ?_)
    · refine lv_iconst (v := 0) hx hb dX5_isOne_13 (by decide) ?_
      exact zret_i X hP hS hf rfl dX5_isOne_14
    · refine lv_iconst (v := 1) hx hb dX5_isOne_9 (by decide) ?_
      refine lv_goto (tgt := 14) hx hb dX5_isOne_10 (by decide) ?_
      exact zret_i X hP hS hf rfl dX5_isOne_14
theorem dX5_isThere_0 : decode cX5_isThere 0 = .ok (.aload_n 0, 1) := by decide +kernel
theorem dX5_isThere_1 : decode cX5_isThere 1 = .ok (.iload_n 1, 1) := by decide +kernel
theorem dX5_isThere_2 : decode cX5_isThere 2 = .ok (.invokevirtual 27, 3) := by decide +kernel
theorem dX5_isThere_5 : decode cX5_isThere 5 = .ok (.ifCond .eq 17, 3) := by decide +kernel
theorem dX5_isThere_8 : decode cX5_isThere 8 = .ok (.aload_n 0, 1) := by decide +kernel
theorem dX5_isThere_9 : decode cX5_isThere 9 = .ok (.getfield 9, 3) := by decide +kernel
theorem dX5_isThere_12 : decode cX5_isThere 12 = .ok (.iload_n 1, 1) := by decide +kernel
theorem dX5_isThere_13 : decode cX5_isThere 13 = .ok (.iaload, 1) := by decide +kernel
theorem dX5_isThere_14 : decode cX5_isThere 14 = .ok (.iconst (-1), 1) := by decide +kernel
theorem dX5_isThere_15 : decode cX5_isThere 15 = .ok (.if_icmp .eq 7, 3) := by decide +kernel
theorem dX5_isThere_18 : decode cX5_isThere 18 = .ok (.iconst 1, 1) := by decide +kernel
theorem dX5_isThere_19 : decode cX5_isThere 19 = .ok (.goto 4, 3) := by decide +kernel
theorem dX5_isThere_22 : decode cX5_isThere 22 = .ok (.iconst 0, 1) := by decide +kernel
theorem dX5_isThere_23 : decode cX5_isThere 23 = .ok (.ireturn, 1) := by decide +kernel
set_option maxHeartbeats 4000000 in
set_option maxRecDepth 100000 in
theorem cn_X5_isThere {l : Launch} {cA : Nat → ClassId} {ad : Nat → Nat} {D : va_G} {E : Nat → Nat} {A : Nat → Prop} {x1 : Int32} {s0 sr : SS} {rr : Int32} (hf : f_X5_isThere x1 s0 = some (rr, sr)) : zCon Ox Nx cA ad D E l yX5_isThere cX5_isThere 2 (some .boolean) 1 A [.ref (ad 11), .int x1] s0 (some (.int rr)) sr := by
  refine zstart (own := RX5) hOx (by decide) rfl (Nat.le_of_ble_eq_true rfl) ?_
  intro p e s m args below meth c X hP ls hl
  have hx := X.1
  have hb := X.2.1
  have hl : lv_has ls 2 [(0, .ref (ad 11)), (1, .int x1)] := hl
  have hS : va_S A s.heap s.heap [] := va_S.rf
  rw [f_X5_isThere] at hf
  refine lv_aload_n hx hb dX5_isThere_0 rfl (lv_at hl 0 rfl) ?_
  refine lv_iload_n hx hb dX5_isThere_1 rfl (lv_at hl 1 rfl) ?_
  obtain ⟨r1, s2, h3, hf⟩ := zbd_some hf
  refine zcallV X hP hS hl.1 (k := 11) (As := [.int x1]) (rest := []) (cn_X5_isOne h3) cw_X5_isOne zp_5 rfl (by decide) rfl ml_X5_27 (by decide) rfl rfl (Nat.le_of_ble_eq_true rfl) dX5_isThere_2 (fun H locs hP hS => ?_)
  refine zif_eq (tgt := 22) hx hb dX5_isThere_5 (by decide) hf (fun hf => ?_) (fun hf => ?_)
  · refine lv_iconst (v := 0) hx hb dX5_isThere_22 (by decide) ?_
    exact zret_i X hP hS hf rfl dX5_isThere_23
  · refine lv_aload_n hx hb dX5_isThere_8 rfl (lv_at hl 0 rfl) ?_
    refine gf_X5_9 X hP (k := 11) (q := 27) rfl dX5_isThere_9 rfl ?_
    refine lv_iload_n hx hb dX5_isThere_12 rfl (lv_at hl 1 rfl) ?_
    obtain ⟨g4, hf⟩ := zgd hf
    refine zald_i X hP (k := 27) (n := 3) (rs := []) rfl g4 dX5_isThere_13 ?_
    refine lv_iconst (v := (-1)) hx hb dX5_isThere_14 (by decide) ?_
    refine zicmp_eq (tgt := 22) hx hb dX5_isThere_15 (by decide) hf (fun hf => ?_) (fun hf => ?_)
    · refine lv_iconst (v := 0) hx hb dX5_isThere_22 (by decide) ?_
      exact zret_i X hP hS hf rfl dX5_isThere_23
    · refine lv_iconst (v := 1) hx hb dX5_isThere_18 (by decide) ?_
      refine lv_goto (tgt := 23) hx hb dX5_isThere_19 (by decide) ?_
      exact zret_i X hP hS hf rfl dX5_isThere_23
theorem dX5_sizeOf_0 : decode cX5_sizeOf 0 = .ok (.aload_n 0, 1) := by decide +kernel
theorem dX5_sizeOf_1 : decode cX5_sizeOf 1 = .ok (.iload_n 1, 1) := by decide +kernel
theorem dX5_sizeOf_2 : decode cX5_sizeOf 2 = .ok (.invokevirtual 27, 3) := by decide +kernel
theorem dX5_sizeOf_5 : decode cX5_sizeOf 5 = .ok (.ifCond .eq 12, 3) := by decide +kernel
theorem dX5_sizeOf_8 : decode cX5_sizeOf 8 = .ok (.aload_n 0, 1) := by decide +kernel
theorem dX5_sizeOf_9 : decode cX5_sizeOf 9 = .ok (.getfield 13, 3) := by decide +kernel
theorem dX5_sizeOf_12 : decode cX5_sizeOf 12 = .ok (.iload_n 1, 1) := by decide +kernel
theorem dX5_sizeOf_13 : decode cX5_sizeOf 13 = .ok (.iaload, 1) := by decide +kernel
theorem dX5_sizeOf_14 : decode cX5_sizeOf 14 = .ok (.goto 4, 3) := by decide +kernel
theorem dX5_sizeOf_17 : decode cX5_sizeOf 17 = .ok (.iconst 0, 1) := by decide +kernel
theorem dX5_sizeOf_18 : decode cX5_sizeOf 18 = .ok (.ireturn, 1) := by decide +kernel
set_option maxHeartbeats 4000000 in
set_option maxRecDepth 100000 in
theorem cn_X5_sizeOf {l : Launch} {cA : Nat → ClassId} {ad : Nat → Nat} {D : va_G} {E : Nat → Nat} {A : Nat → Prop} {x1 : Int32} {s0 sr : SS} {rr : Int32} (hf : f_X5_sizeOf x1 s0 = some (rr, sr)) : zCon Ox Nx cA ad D E l yX5_sizeOf cX5_sizeOf 2 (some .int) 1 A [.ref (ad 11), .int x1] s0 (some (.int rr)) sr := by
  refine zstart (own := RX5) hOx (by decide) rfl (Nat.le_of_ble_eq_true rfl) ?_
  intro p e s m args below meth c X hP ls hl
  have hx := X.1
  have hb := X.2.1
  have hl : lv_has ls 2 [(0, .ref (ad 11)), (1, .int x1)] := hl
  have hS : va_S A s.heap s.heap [] := va_S.rf
  rw [f_X5_sizeOf] at hf
  refine lv_aload_n hx hb dX5_sizeOf_0 rfl (lv_at hl 0 rfl) ?_
  refine lv_iload_n hx hb dX5_sizeOf_1 rfl (lv_at hl 1 rfl) ?_
  obtain ⟨r1, s2, h3, hf⟩ := zbd_some hf
  refine zcallV X hP hS hl.1 (k := 11) (As := [.int x1]) (rest := []) (cn_X5_isOne h3) cw_X5_isOne zp_5 rfl (by decide) rfl ml_X5_27 (by decide) rfl rfl (Nat.le_of_ble_eq_true rfl) dX5_sizeOf_2 (fun H locs hP hS => ?_)
  refine zif_eq (tgt := 17) hx hb dX5_sizeOf_5 (by decide) hf (fun hf => ?_) (fun hf => ?_)
  · refine lv_iconst (v := 0) hx hb dX5_sizeOf_17 (by decide) ?_
    exact zret_i X hP hS hf rfl dX5_sizeOf_18
  · refine lv_aload_n hx hb dX5_sizeOf_8 rfl (lv_at hl 0 rfl) ?_
    refine gf_X5_13 X hP (k := 11) (q := 28) rfl dX5_sizeOf_9 rfl ?_
    refine lv_iload_n hx hb dX5_sizeOf_12 rfl (lv_at hl 1 rfl) ?_
    obtain ⟨g4, hf⟩ := zgd hf
    refine zald_i X hP (k := 28) (n := 3) (rs := []) rfl g4 dX5_sizeOf_13 ?_
    refine lv_goto (tgt := 18) hx hb dX5_sizeOf_14 (by decide) ?_
    exact zret_i X hP hS hf rfl dX5_sizeOf_18
theorem dX5_hasPlace_0 : decode cX5_hasPlace 0 = .ok (.iload_n 2, 1) := by decide +kernel
theorem dX5_hasPlace_1 : decode cX5_hasPlace 1 = .ok (.ifCond .lt 16, 3) := by decide +kernel
theorem dX5_hasPlace_4 : decode cX5_hasPlace 4 = .ok (.iload_n 2, 1) := by decide +kernel
theorem dX5_hasPlace_5 : decode cX5_hasPlace 5 = .ok (.aload_n 0, 1) := by decide +kernel
theorem dX5_hasPlace_6 : decode cX5_hasPlace 6 = .ok (.iload_n 1, 1) := by decide +kernel
theorem dX5_hasPlace_7 : decode cX5_hasPlace 7 = .ok (.invokevirtual 31, 3) := by decide +kernel
theorem dX5_hasPlace_10 : decode cX5_hasPlace 10 = .ok (.if_icmp .ge 7, 3) := by decide +kernel
theorem dX5_hasPlace_13 : decode cX5_hasPlace 13 = .ok (.iconst 1, 1) := by decide +kernel
theorem dX5_hasPlace_14 : decode cX5_hasPlace 14 = .ok (.goto 4, 3) := by decide +kernel
theorem dX5_hasPlace_17 : decode cX5_hasPlace 17 = .ok (.iconst 0, 1) := by decide +kernel
theorem dX5_hasPlace_18 : decode cX5_hasPlace 18 = .ok (.ireturn, 1) := by decide +kernel
set_option maxHeartbeats 4000000 in
set_option maxRecDepth 100000 in
theorem cn_X5_hasPlace {l : Launch} {cA : Nat → ClassId} {ad : Nat → Nat} {D : va_G} {E : Nat → Nat} {A : Nat → Prop} {x1 : Int32} {x2 : Int32} {s0 sr : SS} {rr : Int32} (hf : f_X5_hasPlace x1 x2 s0 = some (rr, sr)) : zCon Ox Nx cA ad D E l yX5_hasPlace cX5_hasPlace 3 (some .boolean) 2 A [.ref (ad 11), .int x1, .int x2] s0 (some (.int rr)) sr := by
  refine zstart (own := RX5) hOx (by decide) rfl (Nat.le_of_ble_eq_true rfl) ?_
  intro p e s m args below meth c X hP ls hl
  have hx := X.1
  have hb := X.2.1
  have hl : lv_has ls 3 [(0, .ref (ad 11)), (1, .int x1), (2, .int x2)] := hl
  have hS : va_S A s.heap s.heap [] := va_S.rf
  rw [f_X5_hasPlace] at hf
  refine lv_iload_n hx hb dX5_hasPlace_0 rfl (lv_at hl 2 rfl) ?_
  refine zif_lt (tgt := 17) hx hb dX5_hasPlace_1 (by decide) hf (fun hf => ?_) (fun hf => ?_)
  · refine lv_iconst (v := 0) hx hb dX5_hasPlace_17 (by decide) ?_
    exact zret_i X hP hS hf rfl dX5_hasPlace_18
  · refine lv_iload_n hx hb dX5_hasPlace_4 rfl (lv_at hl 2 rfl) ?_
    refine lv_aload_n hx hb dX5_hasPlace_5 rfl (lv_at hl 0 rfl) ?_
    refine lv_iload_n hx hb dX5_hasPlace_6 rfl (lv_at hl 1 rfl) ?_
    obtain ⟨r1, s2, h3, hf⟩ := zbd_some hf
    refine zcallV X hP hS hl.1 (k := 11) (As := [.int x1]) (rest := [.int x2]) (cn_X5_sizeOf h3) cw_X5_sizeOf zp_5 rfl (by decide) rfl ml_X5_31 (by decide) rfl rfl (Nat.le_of_ble_eq_true rfl) dX5_hasPlace_7 (fun H locs hP hS => ?_)
    refine zicmp_ge (tgt := 17) hx hb dX5_hasPlace_10 (by decide) hf (fun hf => ?_) (fun hf => ?_)
    · refine lv_iconst (v := 0) hx hb dX5_hasPlace_17 (by decide) ?_
      exact zret_i X hP hS hf rfl dX5_hasPlace_18
    · refine lv_iconst (v := 1) hx hb dX5_hasPlace_13 (by decide) ?_
      refine lv_goto (tgt := 18) hx hb dX5_hasPlace_14 (by decide) ?_
      exact zret_i X hP hS hf rfl dX5_hasPlace_18
theorem dX5_hasRoom_0 : decode cX5_hasRoom 0 = .ok (.iload_n 3, 1) := by decide +kernel
theorem dX5_hasRoom_1 : decode cX5_hasRoom 1 = .ok (.ifCond .lt 31, 3) := by decide +kernel
theorem dX5_hasRoom_4 : decode cX5_hasRoom 4 = .ok (.iload_n 2, 1) := by decide +kernel
theorem dX5_hasRoom_5 : decode cX5_hasRoom 5 = .ok (.ifCond .lt 27, 3) := by decide +kernel
theorem dX5_hasRoom_8 : decode cX5_hasRoom 8 = .ok (.iload_n 2, 1) := by decide +kernel
theorem dX5_hasRoom_9 : decode cX5_hasRoom 9 = .ok (.aload_n 0, 1) := by decide +kernel
theorem dX5_hasRoom_10 : decode cX5_hasRoom 10 = .ok (.iload_n 1, 1) := by decide +kernel
theorem dX5_hasRoom_11 : decode cX5_hasRoom 11 = .ok (.invokevirtual 31, 3) := by decide +kernel
theorem dX5_hasRoom_14 : decode cX5_hasRoom 14 = .ok (.if_icmp .gt 18, 3) := by decide +kernel
theorem dX5_hasRoom_17 : decode cX5_hasRoom 17 = .ok (.iload_n 3, 1) := by decide +kernel
theorem dX5_hasRoom_18 : decode cX5_hasRoom 18 = .ok (.aload_n 0, 1) := by decide +kernel
theorem dX5_hasRoom_19 : decode cX5_hasRoom 19 = .ok (.iload_n 1, 1) := by decide +kernel
theorem dX5_hasRoom_20 : decode cX5_hasRoom 20 = .ok (.invokevirtual 31, 3) := by decide +kernel
theorem dX5_hasRoom_23 : decode cX5_hasRoom 23 = .ok (.iload_n 2, 1) := by decide +kernel
theorem dX5_hasRoom_24 : decode cX5_hasRoom 24 = .ok (.isub, 1) := by decide +kernel
theorem dX5_hasRoom_25 : decode cX5_hasRoom 25 = .ok (.if_icmp .gt 7, 3) := by decide +kernel
theorem dX5_hasRoom_28 : decode cX5_hasRoom 28 = .ok (.iconst 1, 1) := by decide +kernel
theorem dX5_hasRoom_29 : decode cX5_hasRoom 29 = .ok (.goto 4, 3) := by decide +kernel
theorem dX5_hasRoom_32 : decode cX5_hasRoom 32 = .ok (.iconst 0, 1) := by decide +kernel
theorem dX5_hasRoom_33 : decode cX5_hasRoom 33 = .ok (.ireturn, 1) := by decide +kernel
set_option maxHeartbeats 4000000 in
set_option maxRecDepth 100000 in
theorem cn_X5_hasRoom {l : Launch} {cA : Nat → ClassId} {ad : Nat → Nat} {D : va_G} {E : Nat → Nat} {A : Nat → Prop} {x1 : Int32} {x2 : Int32} {x3 : Int32} {s0 sr : SS} {rr : Int32} (hf : f_X5_hasRoom x1 x2 x3 s0 = some (rr, sr)) : zCon Ox Nx cA ad D E l yX5_hasRoom cX5_hasRoom 4 (some .boolean) 2 A [.ref (ad 11), .int x1, .int x2, .int x3] s0 (some (.int rr)) sr := by
  refine zstart (own := RX5) hOx (by decide) rfl (Nat.le_of_ble_eq_true rfl) ?_
  intro p e s m args below meth c X hP ls hl
  have hx := X.1
  have hb := X.2.1
  have hl : lv_has ls 4 [(0, .ref (ad 11)), (1, .int x1), (2, .int x2), (3, .int x3)] := hl
  have hS : va_S A s.heap s.heap [] := va_S.rf
  rw [f_X5_hasRoom] at hf
  refine lv_iload_n hx hb dX5_hasRoom_0 rfl (lv_at hl 3 rfl) ?_
  refine zif_lt (tgt := 32) hx hb dX5_hasRoom_1 (by decide) hf (fun hf => ?_) (fun hf => ?_)
  · refine lv_iconst (v := 0) hx hb dX5_hasRoom_32 (by decide) ?_
    exact zret_i X hP hS hf rfl dX5_hasRoom_33
  · refine lv_iload_n hx hb dX5_hasRoom_4 rfl (lv_at hl 2 rfl) ?_
    refine zif_lt (tgt := 32) hx hb dX5_hasRoom_5 (by decide) hf (fun hf => ?_) (fun hf => ?_)
    · refine lv_iconst (v := 0) hx hb dX5_hasRoom_32 (by decide) ?_
      exact zret_i X hP hS hf rfl dX5_hasRoom_33
    · refine lv_iload_n hx hb dX5_hasRoom_8 rfl (lv_at hl 2 rfl) ?_
      refine lv_aload_n hx hb dX5_hasRoom_9 rfl (lv_at hl 0 rfl) ?_
      refine lv_iload_n hx hb dX5_hasRoom_10 rfl (lv_at hl 1 rfl) ?_
      obtain ⟨r1, s2, h3, hf⟩ := zbd_some hf
      refine zcallV X hP hS hl.1 (k := 11) (As := [.int x1]) (rest := [.int x2]) (cn_X5_sizeOf h3) cw_X5_sizeOf zp_5 rfl (by decide) rfl ml_X5_31 (by decide) rfl rfl (Nat.le_of_ble_eq_true rfl) dX5_hasRoom_11 (fun H locs hP hS => ?_)
      refine zicmp_gt (tgt := 32) hx hb dX5_hasRoom_14 (by decide) hf (fun hf => ?_) (fun hf => ?_)
      · refine lv_iconst (v := 0) hx hb dX5_hasRoom_32 (by decide) ?_
        exact zret_i X hP hS hf rfl dX5_hasRoom_33
      · refine lv_iload_n hx hb dX5_hasRoom_17 rfl (lv_at hl 3 rfl) ?_
        refine lv_aload_n hx hb dX5_hasRoom_18 rfl (lv_at hl 0 rfl) ?_
        refine lv_iload_n hx hb dX5_hasRoom_19 rfl (lv_at hl 1 rfl) ?_
        obtain ⟨r4, s5, h6, hf⟩ := zbd_some hf
        refine zcallV X hP hS hl.1 (k := 11) (As := [.int x1]) (rest := [.int x3]) (cn_X5_sizeOf h6) cw_X5_sizeOf zp_5 rfl (by decide) rfl ml_X5_31 (by decide) rfl rfl (Nat.le_of_ble_eq_true rfl) dX5_hasRoom_20 (fun H locs hP hS => ?_)
        refine lv_iload_n hx hb dX5_hasRoom_23 rfl (lv_at hl 2 rfl) ?_
        refine lv_isub hx hb dX5_hasRoom_24 ?_
        refine zicmp_gt (tgt := 32) hx hb dX5_hasRoom_25 (by decide) hf (fun hf => ?_) (fun hf => ?_)
        · refine lv_iconst (v := 0) hx hb dX5_hasRoom_32 (by decide) ?_
          exact zret_i X hP hS hf rfl dX5_hasRoom_33
        · refine lv_iconst (v := 1) hx hb dX5_hasRoom_28 (by decide) ?_
          refine lv_goto (tgt := 33) hx hb dX5_hasRoom_29 (by decide) ?_
          exact zret_i X hP hS hf rfl dX5_hasRoom_33
theorem dX5_valueAt_0 : decode cX5_valueAt 0 = .ok (.aload_n 0, 1) := by decide +kernel
theorem dX5_valueAt_1 : decode cX5_valueAt 1 = .ok (.iload_n 1, 1) := by decide +kernel
theorem dX5_valueAt_2 : decode cX5_valueAt 2 = .ok (.iload_n 2, 1) := by decide +kernel
theorem dX5_valueAt_3 : decode cX5_valueAt 3 = .ok (.invokevirtual 35, 3) := by decide +kernel
theorem dX5_valueAt_6 : decode cX5_valueAt 6 = .ok (.ifCond .eq 14, 3) := by decide +kernel
theorem dX5_valueAt_9 : decode cX5_valueAt 9 = .ok (.aload_n 0, 1) := by decide +kernel
theorem dX5_valueAt_10 : decode cX5_valueAt 10 = .ok (.getfield 18, 3) := by decide +kernel
theorem dX5_valueAt_13 : decode cX5_valueAt 13 = .ok (.iload_n 1, 1) := by decide +kernel
theorem dX5_valueAt_14 : decode cX5_valueAt 14 = .ok (.aaload, 1) := by decide +kernel
theorem dX5_valueAt_15 : decode cX5_valueAt 15 = .ok (.iload_n 2, 1) := by decide +kernel
theorem dX5_valueAt_16 : decode cX5_valueAt 16 = .ok (.laload, 1) := by decide +kernel
theorem dX5_valueAt_17 : decode cX5_valueAt 17 = .ok (.goto 4, 3) := by decide +kernel
theorem dX5_valueAt_20 : decode cX5_valueAt 20 = .ok (.lconst 0, 1) := by decide +kernel
theorem dX5_valueAt_21 : decode cX5_valueAt 21 = .ok (.lreturn, 1) := by decide +kernel
set_option maxHeartbeats 4000000 in
set_option maxRecDepth 100000 in
theorem cn_X5_valueAt {l : Launch} {cA : Nat → ClassId} {ad : Nat → Nat} {D : va_G} {E : Nat → Nat} {A : Nat → Prop} {x1 : Int32} {x2 : Int32} {s0 sr : SS} {rr : Int64} (hf : f_X5_valueAt x1 x2 s0 = some (rr, sr)) : zCon Ox Nx cA ad D E l yX5_valueAt cX5_valueAt 3 (some .long) 3 A [.ref (ad 11), .int x1, .int x2] s0 (some (.long rr)) sr := by
  refine zstart (own := RX5) hOx (by decide) rfl (Nat.le_of_ble_eq_true rfl) ?_
  intro p e s m args below meth c X hP ls hl
  have hx := X.1
  have hb := X.2.1
  have hl : lv_has ls 3 [(0, .ref (ad 11)), (1, .int x1), (2, .int x2)] := hl
  have hS : va_S A s.heap s.heap [] := va_S.rf
  rw [f_X5_valueAt] at hf
  refine lv_aload_n hx hb dX5_valueAt_0 rfl (lv_at hl 0 rfl) ?_
  refine lv_iload_n hx hb dX5_valueAt_1 rfl (lv_at hl 1 rfl) ?_
  refine lv_iload_n hx hb dX5_valueAt_2 rfl (lv_at hl 2 rfl) ?_
  obtain ⟨r1, s2, h3, hf⟩ := zbd_some hf
  refine zcallV X hP hS hl.1 (k := 11) (As := [.int x1, .int x2]) (rest := []) (cn_X5_hasPlace h3) cw_X5_hasPlace zp_5 rfl (by decide) rfl ml_X5_35 (by decide) rfl rfl (Nat.le_of_ble_eq_true rfl) dX5_valueAt_3 (fun H locs hP hS => ?_)
  refine zif_eq (tgt := 20) hx hb dX5_valueAt_6 (by decide) hf (fun hf => ?_) (fun hf => ?_)
  · refine lv_lconst (v := 0) hx hb dX5_valueAt_20 (by decide) ?_
    exact zret_l X hP hS hf dX5_valueAt_21
  · refine lv_aload_n hx hb dX5_valueAt_9 rfl (lv_at hl 0 rfl) ?_
    refine gf_X5_18 X hP (k := 11) (q := 29) rfl dX5_valueAt_10 rfl ?_
    refine lv_iload_n hx hb dX5_valueAt_13 rfl (lv_at hl 1 rfl) ?_
    obtain ⟨g4, hf⟩ := zgd hf
    obtain ⟨n5, rn5, on5, in5⟩ := zok_of g4
    refine zald_g X hP zlr_x (k := 29) on5 in5 dX5_valueAt_14 rfl ?_
    refine lv_iload_n hx hb dX5_valueAt_15 rfl (lv_at hl 2 rfl) ?_
    obtain ⟨g6, hf⟩ := zgd hf
    obtain ⟨n7, rn7, on7, in7⟩ := zok_of g6
    refine zald_l X hP (k := (zrr Ox 29 x1)) on7 in7 dX5_valueAt_16 ?_
    refine lv_goto (tgt := 21) hx hb dX5_valueAt_17 (by decide) ?_
    exact zret_l X hP hS hf dX5_valueAt_21
theorem dX5_become_0 : decode cX5_become 0 = .ok (.aload_n 0, 1) := by decide +kernel
theorem dX5_become_1 : decode cX5_become 1 = .ok (.iload_n 1, 1) := by decide +kernel
theorem dX5_become_2 : decode cX5_become 2 = .ok (.invokevirtual 27, 3) := by decide +kernel
theorem dX5_become_5 : decode cX5_become 5 = .ok (.ifCond .eq 27, 3) := by decide +kernel
theorem dX5_become_8 : decode cX5_become 8 = .ok (.aload_n 0, 1) := by decide +kernel
theorem dX5_become_9 : decode cX5_become 9 = .ok (.getfield 9, 3) := by decide +kernel
theorem dX5_become_12 : decode cX5_become 12 = .ok (.iload_n 1, 1) := by decide +kernel
theorem dX5_become_13 : decode cX5_become 13 = .ok (.iload_n 2, 1) := by decide +kernel
theorem dX5_become_14 : decode cX5_become 14 = .ok (.iastore, 1) := by decide +kernel
theorem dX5_become_15 : decode cX5_become 15 = .ok (.aload_n 0, 1) := by decide +kernel
theorem dX5_become_16 : decode cX5_become 16 = .ok (.getfield 13, 3) := by decide +kernel
theorem dX5_become_19 : decode cX5_become 19 = .ok (.iload_n 1, 1) := by decide +kernel
theorem dX5_become_20 : decode cX5_become 20 = .ok (.iload_n 3, 1) := by decide +kernel
theorem dX5_become_21 : decode cX5_become 21 = .ok (.iastore, 1) := by decide +kernel
theorem dX5_become_22 : decode cX5_become 22 = .ok (.aload_n 0, 1) := by decide +kernel
theorem dX5_become_23 : decode cX5_become 23 = .ok (.getfield 18, 3) := by decide +kernel
theorem dX5_become_26 : decode cX5_become 26 = .ok (.iload_n 1, 1) := by decide +kernel
theorem dX5_become_27 : decode cX5_become 27 = .ok (.aaload, 1) := by decide +kernel
theorem dX5_become_28 : decode cX5_become 28 = .ok (.lconst 0, 1) := by decide +kernel
theorem dX5_become_29 : decode cX5_become 29 = .ok (.invokestatic 39, 3) := by decide +kernel
theorem dX5_become_32 : decode cX5_become 32 = .ok (.return_, 1) := by decide +kernel
set_option maxHeartbeats 4000000 in
set_option maxRecDepth 100000 in
theorem cn_X5_become {l : Launch} {cA : Nat → ClassId} {ad : Nat → Nat} {D : va_G} {E : Nat → Nat} {A : Nat → Prop} {x1 : Int32} {x2 : Int32} {x3 : Int32} {s0 sr : SS} {rr : Unit} (hf : f_X5_become x1 x2 x3 s0 = some (rr, sr)) : zCon Ox Nx cA ad D E l yX5_become cX5_become 4 none 1 A [.ref (ad 11), .int x1, .int x2, .int x3] s0 none sr := by
  refine zstart (own := RX5) hOx (by decide) rfl (Nat.le_of_ble_eq_true rfl) ?_
  intro p e s m args below meth c X hP ls hl
  have hx := X.1
  have hb := X.2.1
  have hl : lv_has ls 4 [(0, .ref (ad 11)), (1, .int x1), (2, .int x2), (3, .int x3)] := hl
  have hS : va_S A s.heap s.heap [] := va_S.rf
  rw [f_X5_become] at hf
  refine lv_aload_n hx hb dX5_become_0 rfl (lv_at hl 0 rfl) ?_
  refine lv_iload_n hx hb dX5_become_1 rfl (lv_at hl 1 rfl) ?_
  obtain ⟨r1, s2, h3, hf⟩ := zbd_some hf
  refine zcallV X hP hS hl.1 (k := 11) (As := [.int x1]) (rest := []) (cn_X5_isOne h3) cw_X5_isOne zp_5 rfl (by decide) rfl ml_X5_27 (by decide) rfl rfl (Nat.le_of_ble_eq_true rfl) dX5_become_2 (fun H locs hP hS => ?_)
  refine zif_eq (tgt := 32) hx hb dX5_become_5 (by decide) hf (fun hf => ?_) (fun hf => ?_)
  · exact zret_v X hP hS hf dX5_become_32
  · refine lv_aload_n hx hb dX5_become_8 rfl (lv_at hl 0 rfl) ?_
    refine gf_X5_9 X hP (k := 11) (q := 27) rfl dX5_become_9 rfl ?_
    refine lv_iload_n hx hb dX5_become_12 rfl (lv_at hl 1 rfl) ?_
    refine lv_iload_n hx hb dX5_become_13 rfl (lv_at hl 2 rfl) ?_
    obtain ⟨g4, hf⟩ := zgd hf
    refine zast_i X hP hS (k := 27) (n := 3) (rs := []) rfl g4 dX5_become_14 (fun H locs hP hS => ?_)
    refine lv_aload_n hx hb dX5_become_15 rfl (lv_at hl 0 rfl) ?_
    refine gf_X5_13 X hP (k := 11) (q := 28) rfl dX5_become_16 rfl ?_
    refine lv_iload_n hx hb dX5_become_19 rfl (lv_at hl 1 rfl) ?_
    refine lv_iload_n hx hb dX5_become_20 rfl (lv_at hl 3 rfl) ?_
    obtain ⟨g5, hf⟩ := zgd hf
    refine zast_i X hP hS (k := 28) (n := 3) (rs := []) rfl g5 dX5_become_21 (fun H locs hP hS => ?_)
    refine lv_aload_n hx hb dX5_become_22 rfl (lv_at hl 0 rfl) ?_
    refine gf_X5_18 X hP (k := 11) (q := 29) rfl dX5_become_23 rfl ?_
    refine lv_iload_n hx hb dX5_become_26 rfl (lv_at hl 1 rfl) ?_
    obtain ⟨g6, hf⟩ := zgd hf
    obtain ⟨n7, rn7, on7, in7⟩ := zok_of g6
    refine zald_g X hP zlr_x (k := 29) on7 in7 dX5_become_27 rfl ?_
    refine lv_lconst (v := 0) hx hb dX5_become_28 (by decide) ?_
    obtain ⟨r8, s9, h10, hf⟩ := zbd_some hf
    refine zcallS X hP hS hl.1 (As := [.ref (ad (zrr Ox 29 x1)), .long 0]) (rest := []) (cn_J7_fill_d0a16 h10) cw_J7_fill_d0a16 ml_X5_39 (by decide) rfl rfl (Nat.le_of_ble_eq_true rfl) dX5_become_29 (fun H locs hP hS => ?_)
    exact zret_v X hP hS hf dX5_become_32
theorem dX5_place_0 : decode cX5_place 0 = .ok (.aload_n 0, 1) := by decide +kernel
theorem dX5_place_1 : decode cX5_place 1 = .ok (.iload_n 1, 1) := by decide +kernel
theorem dX5_place_2 : decode cX5_place 2 = .ok (.iload_n 2, 1) := by decide +kernel
theorem dX5_place_3 : decode cX5_place 3 = .ok (.invokevirtual 35, 3) := by decide +kernel
theorem dX5_place_6 : decode cX5_place 6 = .ok (.ifCond .eq 27, 3) := by decide +kernel
theorem dX5_place_9 : decode cX5_place 9 = .ok (.aload_n 0, 1) := by decide +kernel
theorem dX5_place_10 : decode cX5_place 10 = .ok (.getfield 18, 3) := by decide +kernel
theorem dX5_place_13 : decode cX5_place 13 = .ok (.iload_n 1, 1) := by decide +kernel
theorem dX5_place_14 : decode cX5_place 14 = .ok (.aaload, 1) := by decide +kernel
theorem dX5_place_15 : decode cX5_place 15 = .ok (.iload_n 2, 1) := by decide +kernel
theorem dX5_place_16 : decode cX5_place 16 = .ok (.aload_n 0, 1) := by decide +kernel
theorem dX5_place_17 : decode cX5_place 17 = .ok (.getfield 9, 3) := by decide +kernel
theorem dX5_place_20 : decode cX5_place 20 = .ok (.iload_n 1, 1) := by decide +kernel
theorem dX5_place_21 : decode cX5_place 21 = .ok (.iaload, 1) := by decide +kernel
theorem dX5_place_22 : decode cX5_place 22 = .ok (.ifCond .ne 9, 3) := by decide +kernel
theorem dX5_place_25 : decode cX5_place 25 = .ok (.lload_n 3, 1) := by decide +kernel
theorem dX5_place_26 : decode cX5_place 26 = .ok (.l2i, 1) := by decide +kernel
theorem dX5_place_27 : decode cX5_place 27 = .ok (.i2l, 1) := by decide +kernel
theorem dX5_place_28 : decode cX5_place 28 = .ok (.goto 4, 3) := by decide +kernel
theorem dX5_place_31 : decode cX5_place 31 = .ok (.lload_n 3, 1) := by decide +kernel
theorem dX5_place_32 : decode cX5_place 32 = .ok (.lastore, 1) := by decide +kernel
theorem dX5_place_33 : decode cX5_place 33 = .ok (.return_, 1) := by decide +kernel
set_option maxHeartbeats 4000000 in
set_option maxRecDepth 100000 in
theorem cn_X5_place {l : Launch} {cA : Nat → ClassId} {ad : Nat → Nat} {D : va_G} {E : Nat → Nat} {A : Nat → Prop} {x1 : Int32} {x2 : Int32} {x3 : Int64} {s0 sr : SS} {rr : Unit} (hf : f_X5_place x1 x2 x3 s0 = some (rr, sr)) : zCon Ox Nx cA ad D E l yX5_place cX5_place 5 none 3 A [.ref (ad 11), .int x1, .int x2, .long x3] s0 none sr := by
  refine zstart (own := RX5) hOx (by decide) rfl (Nat.le_of_ble_eq_true rfl) ?_
  intro p e s m args below meth c X hP ls hl
  have hx := X.1
  have hb := X.2.1
  have hl : lv_has ls 5 [(0, .ref (ad 11)), (1, .int x1), (2, .int x2), (3, .long x3)] := hl
  have hS : va_S A s.heap s.heap [] := va_S.rf
  have hc_32 : ∀ (t0 : Int64) (t1 : Int32) (kt2 : Nat) (s1 : SS) (H : Heap) (locs : List Loc) (ls : Array Slot), lv_has ls 5 [] → va_P D ZCL (zw Ox Nx cA ad s1) H → va_S A s.heap H locs → f_X5_place_c32 t0 t1 kt2 s1 = some (rr, sr) → W p l e (zrm 3) s m args below meth c H locs 0 0 (MQ below (zQc Ox Nx cA ad D A none sr) args s 0 0 A) (F0 m 32 ls [.long t0, .int t1, .ref (ad kt2)]) := by
    intro t0 t1 kt2 s1 H locs ls hl hP hS hf
    rw [f_X5_place_c32] at hf
    obtain ⟨g7, hf⟩ := zgd hf
    obtain ⟨n8, rn8, on8, in8⟩ := zok_of g7
    refine zast_l X hP hS (k := kt2) on8 in8 dX5_place_32 (fun H locs hP hS => ?_)
    exact zret_v X hP hS hf dX5_place_33
  rw [f_X5_place] at hf
  refine lv_aload_n hx hb dX5_place_0 rfl (lv_at hl 0 rfl) ?_
  refine lv_iload_n hx hb dX5_place_1 rfl (lv_at hl 1 rfl) ?_
  refine lv_iload_n hx hb dX5_place_2 rfl (lv_at hl 2 rfl) ?_
  obtain ⟨r1, s2, h3, hf⟩ := zbd_some hf
  refine zcallV X hP hS hl.1 (k := 11) (As := [.int x1, .int x2]) (rest := []) (cn_X5_hasPlace h3) cw_X5_hasPlace zp_5 rfl (by decide) rfl ml_X5_35 (by decide) rfl rfl (Nat.le_of_ble_eq_true rfl) dX5_place_3 (fun H locs hP hS => ?_)
  refine zif_eq (tgt := 33) hx hb dX5_place_6 (by decide) hf (fun hf => ?_) (fun hf => ?_)
  · exact zret_v X hP hS hf dX5_place_33
  · refine lv_aload_n hx hb dX5_place_9 rfl (lv_at hl 0 rfl) ?_
    refine gf_X5_18 X hP (k := 11) (q := 29) rfl dX5_place_10 rfl ?_
    refine lv_iload_n hx hb dX5_place_13 rfl (lv_at hl 1 rfl) ?_
    obtain ⟨g4, hf⟩ := zgd hf
    obtain ⟨n5, rn5, on5, in5⟩ := zok_of g4
    refine zald_g X hP zlr_x (k := 29) on5 in5 dX5_place_14 rfl ?_
    refine lv_iload_n hx hb dX5_place_15 rfl (lv_at hl 2 rfl) ?_
    refine lv_aload_n hx hb dX5_place_16 rfl (lv_at hl 0 rfl) ?_
    refine gf_X5_9 X hP (k := 11) (q := 27) rfl dX5_place_17 rfl ?_
    refine lv_iload_n hx hb dX5_place_20 rfl (lv_at hl 1 rfl) ?_
    obtain ⟨g6, hf⟩ := zgd hf
    refine zald_i X hP (k := 27) (n := 3) (rs := []) rfl g6 dX5_place_21 ?_
    refine zif_ne (tgt := 31) hx hb dX5_place_22 (by decide) hf (fun hf => ?_) (fun hf => ?_)
    · refine lv_lload_n hx hb dX5_place_31 rfl (lv_at hl 3 rfl) ?_
      exact hc_32 x3 x2 (zrr Ox 29 x1) s2 _ _ _ (lv_sub hl [] rfl) hP hS hf
    · refine lv_lload_n hx hb dX5_place_25 rfl (lv_at hl 3 rfl) ?_
      refine lv_l2i hx hb dX5_place_26 rfl ?_
      refine lv_i2l hx hb dX5_place_27 rfl ?_
      refine lv_goto (tgt := 32) hx hb dX5_place_28 (by decide) ?_
      exact hc_32 ((x3).toInt32).toInt64 x2 (zrr Ox 29 x1) s2 _ _ _ (lv_sub hl [] rfl) hP hS hf
theorem dX5_howManyThere_0 : decode cX5_howManyThere 0 = .ok (.iconst 0, 1) := by decide +kernel
theorem dX5_howManyThere_1 : decode cX5_howManyThere 1 = .ok (.istore_n 1, 1) := by decide +kernel
theorem dX5_howManyThere_2 : decode cX5_howManyThere 2 = .ok (.iconst 0, 1) := by decide +kernel
theorem dX5_howManyThere_3 : decode cX5_howManyThere 3 = .ok (.istore_n 2, 1) := by decide +kernel
theorem dX5_howManyThere_4 : decode cX5_howManyThere 4 = .ok (.iload_n 2, 1) := by decide +kernel
theorem dX5_howManyThere_5 : decode cX5_howManyThere 5 = .ok (.iconst 3, 1) := by decide +kernel
theorem dX5_howManyThere_6 : decode cX5_howManyThere 6 = .ok (.if_icmp .ge 25, 3) := by decide +kernel
theorem dX5_howManyThere_9 : decode cX5_howManyThere 9 = .ok (.iload_n 1, 1) := by decide +kernel
theorem dX5_howManyThere_10 : decode cX5_howManyThere 10 = .ok (.aload_n 0, 1) := by decide +kernel
theorem dX5_howManyThere_11 : decode cX5_howManyThere 11 = .ok (.iload_n 2, 1) := by decide +kernel
theorem dX5_howManyThere_12 : decode cX5_howManyThere 12 = .ok (.invokevirtual 42, 3) := by decide +kernel
theorem dX5_howManyThere_15 : decode cX5_howManyThere 15 = .ok (.ifCond .eq 7, 3) := by decide +kernel
theorem dX5_howManyThere_18 : decode cX5_howManyThere 18 = .ok (.iconst 1, 1) := by decide +kernel
theorem dX5_howManyThere_19 : decode cX5_howManyThere 19 = .ok (.goto 4, 3) := by decide +kernel
theorem dX5_howManyThere_22 : decode cX5_howManyThere 22 = .ok (.iconst 0, 1) := by decide +kernel
theorem dX5_howManyThere_23 : decode cX5_howManyThere 23 = .ok (.iadd, 1) := by decide +kernel
theorem dX5_howManyThere_24 : decode cX5_howManyThere 24 = .ok (.istore_n 1, 1) := by decide +kernel
theorem dX5_howManyThere_25 : decode cX5_howManyThere 25 = .ok (.iinc 2 1, 3) := by decide +kernel
theorem dX5_howManyThere_28 : decode cX5_howManyThere 28 = .ok (.goto (-24), 3) := by decide +kernel
theorem dX5_howManyThere_31 : decode cX5_howManyThere 31 = .ok (.iload_n 1, 1) := by decide +kernel
theorem dX5_howManyThere_32 : decode cX5_howManyThere 32 = .ok (.ireturn, 1) := by decide +kernel
set_option maxHeartbeats 4000000 in
set_option maxRecDepth 100000 in
theorem cn_X5_howManyThere {l : Launch} {cA : Nat → ClassId} {ad : Nat → Nat} {D : va_G} {E : Nat → Nat} {A : Nat → Prop}  {s0 sr : SS} {rr : Int32} (hf : f_X5_howManyThere s0 = some (rr, sr)) : zCon Ox Nx cA ad D E l yX5_howManyThere cX5_howManyThere 3 (some .int) 2 A [.ref (ad 11)] s0 (some (.int rr)) sr := by
  refine zstart (own := RX5) hOx (by decide) rfl (Nat.le_of_ble_eq_true rfl) ?_
  intro p e s m args below meth c X hP ls hl
  have hx := X.1
  have hb := X.2.1
  have hl : lv_has ls 3 [(0, .ref (ad 11))] := hl
  have hS : va_S A s.heap s.heap [] := va_S.rf
  have hc_4 : ∀ (n4 : Nat) (x1 : Int32) (x2 : Int32) (s1 : SS) (H : Heap) (locs : List Loc) (ls : Array Slot), lv_has ls 3 [(0, .ref (ad 11)), (1, .int x1), (2, .int x2)] → va_P D ZCL (zw Ox Nx cA ad s1) H → va_S A s.heap H locs → f_X5_howManyThere_c4 n4 x1 x2 s1 = some (rr, sr) → W p l e (zrm 2) s m args below meth c H locs 0 0 (MQ below (zQc Ox Nx cA ad D A (some (.int rr)) sr) args s 0 0 A) (F0 m 4 ls []) := by
    intro n4
    induction n4 with
    | zero =>
      intro x1 x2 s1 H locs ls hl hP hS hf
      rw [f_X5_howManyThere_c4] at hf
      cases hf
    | succ n4 ih4 =>
      have hc_23 : ∀ (x2 : Int32) (t0 : Int32) (t1 : Int32) (s1 : SS) (H : Heap) (locs : List Loc) (ls : Array Slot), lv_has ls 3 [(0, .ref (ad 11)), (2, .int x2)] → va_P D ZCL (zw Ox Nx cA ad s1) H → va_S A s.heap H locs → f_X5_howManyThere_c23 (f_X5_howManyThere_c4 n4) x2 t0 t1 s1 = some (rr, sr) → W p l e (zrm 2) s m args below meth c H locs 0 0 (MQ below (zQc Ox Nx cA ad D A (some (.int rr)) sr) args s 0 0 A) (F0 m 23 ls [.int t0, .int t1]) := by
        intro x2 t0 t1 s1 H locs ls hl hP hS hf
        rw [f_X5_howManyThere_c23] at hf
        refine lv_iadd hx hb dX5_howManyThere_23 ?_
        refine lv_istore_n (lv' := [(1, .int (t1 + t0)), (0, .ref (ad 11)), (2, .int x2)]) hx hb dX5_howManyThere_24 rfl hl (by decide) rfl (fun ls hl => ?_)
        refine lv_iinc (v := (x2 + 1)) (lv' := [(2, .int (x2 + 1)), (1, .int (t1 + t0)), (0, .ref (ad 11))]) hx hb dX5_howManyThere_25 hl (k := 2) rfl rfl (by decide) rfl (fun ls hl => ?_)
        refine lv_goto (tgt := 4) hx hb dX5_howManyThere_28 (by decide) ?_
        exact ih4 (t1 + t0) (x2 + 1) s1 _ _ _ (lv_sub hl [2, 1, 0] rfl) hP hS hf
      intro x1 x2 s1 H locs ls hl hP hS hf
      rw [f_X5_howManyThere_c4] at hf
      refine lv_iload_n hx hb dX5_howManyThere_4 rfl (lv_at hl 2 rfl) ?_
      refine lv_iconst (v := 3) hx hb dX5_howManyThere_5 (by decide) ?_
      refine zicmp_ge (tgt := 31) hx hb dX5_howManyThere_6 (by decide) hf (fun hf => ?_) (fun hf => ?_)
      · refine lv_iload_n hx hb dX5_howManyThere_31 rfl (lv_at hl 1 rfl) ?_
        exact zret_i X hP hS hf rfl dX5_howManyThere_32
      · refine lv_iload_n hx hb dX5_howManyThere_9 rfl (lv_at hl 1 rfl) ?_
        refine lv_aload_n hx hb dX5_howManyThere_10 rfl (lv_at hl 0 rfl) ?_
        refine lv_iload_n hx hb dX5_howManyThere_11 rfl (lv_at hl 2 rfl) ?_
        obtain ⟨r1, s2, h3, hf⟩ := zbd_some hf
        refine zcallV X hP hS hl.1 (k := 11) (As := [.int x2]) (rest := [.int x1]) (cn_X5_isThere h3) cw_X5_isThere zp_5 rfl (by decide) rfl ml_X5_42 (by decide) rfl rfl (Nat.le_of_ble_eq_true rfl) dX5_howManyThere_12 (fun H locs hP hS => ?_)
        refine zif_eq (tgt := 22) hx hb dX5_howManyThere_15 (by decide) hf (fun hf => ?_) (fun hf => ?_)
        · refine lv_iconst (v := 0) hx hb dX5_howManyThere_22 (by decide) ?_
          exact hc_23 x2 0 x1 s2 _ _ _ (lv_sub hl [0, 2] rfl) hP hS hf
        · refine lv_iconst (v := 1) hx hb dX5_howManyThere_18 (by decide) ?_
          refine lv_goto (tgt := 23) hx hb dX5_howManyThere_19 (by decide) ?_
          exact hc_23 x2 1 x1 s2 _ _ _ (lv_sub hl [0, 2] rfl) hP hS hf
  rw [f_X5_howManyThere] at hf
  refine lv_iconst (v := 0) hx hb dX5_howManyThere_0 (by decide) ?_
  refine lv_istore_n (lv' := [(1, .int 0), (0, .ref (ad 11))]) hx hb dX5_howManyThere_1 rfl hl (by decide) rfl (fun ls hl => ?_)
  refine lv_iconst (v := 0) hx hb dX5_howManyThere_2 (by decide) ?_
  refine lv_istore_n (lv' := [(2, .int 0), (1, .int 0), (0, .ref (ad 11))]) hx hb dX5_howManyThere_3 rfl hl (by decide) rfl (fun ls hl => ?_)
  exact hc_4 ZF 0 0 s0 _ _ _ (lv_sub hl [2, 1, 0] rfl) hP hS hf
theorem dX6_kept_0 : decode cX6_kept 0 = .ok (.aload_n 0, 1) := by decide +kernel
theorem dX6_kept_1 : decode cX6_kept 1 = .ok (.getfield 16, 3) := by decide +kernel
theorem dX6_kept_4 : decode cX6_kept 4 = .ok (.sipush 200, 3) := by decide +kernel
theorem dX6_kept_7 : decode cX6_kept 7 = .ok (.invokestatic 20, 3) := by decide +kernel
theorem dX6_kept_10 : decode cX6_kept 10 = .ok (.ireturn, 1) := by decide +kernel
set_option maxHeartbeats 4000000 in
set_option maxRecDepth 100000 in
theorem cn_X6_kept {l : Launch} {cA : Nat → ClassId} {ad : Nat → Nat} {D : va_G} {E : Nat → Nat} {A : Nat → Prop}  {s0 sr : SS} {rr : Int32} (hf : f_X6_kept s0 = some (rr, sr)) : zCon Ox Nx cA ad D E l yX6_kept cX6_kept 1 (some .int) 1 A [.ref (ad 10)] s0 (some (.int rr)) sr := by
  refine zstart (own := RX6) hOx (by decide) rfl (Nat.le_of_ble_eq_true rfl) ?_
  intro p e s m args below meth c X hP ls hl
  have hx := X.1
  have hb := X.2.1
  have hl : lv_has ls 1 [(0, .ref (ad 10))] := hl
  have hS : va_S A s.heap s.heap [] := va_S.rf
  rw [f_X6_kept] at hf
  refine lv_aload_n hx hb dX6_kept_0 rfl (lv_at hl 0 rfl) ?_
  refine gf_X6_16 X hP (k := 10) rfl dX6_kept_1 ?_
  refine lv_sipush (v := 200) hx hb dX6_kept_4 (by decide) ?_
  refine zmin X hl.1 ml_X6_20 nt_min.1 nt_min.2.1 nt_min.2.2 ⟨Nat.le_of_ble_eq_true rfl, Nat.le_of_ble_eq_true rfl⟩ dX6_kept_7 ?_
  exact zret_i X hP hS hf rfl dX6_kept_10
theorem dX6_add_0 : decode cX6_add 0 = .ok (.aload_n 0, 1) := by decide +kernel
theorem dX6_add_1 : decode cX6_add 1 = .ok (.getfield 16, 3) := by decide +kernel
theorem dX6_add_4 : decode cX6_add 4 = .ok (.ifCond .lt 23, 3) := by decide +kernel
theorem dX6_add_7 : decode cX6_add 7 = .ok (.aload_n 0, 1) := by decide +kernel
theorem dX6_add_8 : decode cX6_add 8 = .ok (.getfield 16, 3) := by decide +kernel
theorem dX6_add_11 : decode cX6_add 11 = .ok (.sipush 200, 3) := by decide +kernel
theorem dX6_add_14 : decode cX6_add 14 = .ok (.if_icmp .ge 13, 3) := by decide +kernel
theorem dX6_add_17 : decode cX6_add 17 = .ok (.aload_n 0, 1) := by decide +kernel
theorem dX6_add_18 : decode cX6_add 18 = .ok (.getfield 9, 3) := by decide +kernel
theorem dX6_add_21 : decode cX6_add 21 = .ok (.aload_n 0, 1) := by decide +kernel
theorem dX6_add_22 : decode cX6_add 22 = .ok (.getfield 16, 3) := by decide +kernel
theorem dX6_add_25 : decode cX6_add 25 = .ok (.iload_n 1, 1) := by decide +kernel
theorem dX6_add_26 : decode cX6_add 26 = .ok (.castore, 1) := by decide +kernel
theorem dX6_add_27 : decode cX6_add 27 = .ok (.aload_n 0, 1) := by decide +kernel
theorem dX6_add_28 : decode cX6_add 28 = .ok (.dup, 1) := by decide +kernel
theorem dX6_add_29 : decode cX6_add 29 = .ok (.getfield 16, 3) := by decide +kernel
theorem dX6_add_32 : decode cX6_add 32 = .ok (.iconst 1, 1) := by decide +kernel
theorem dX6_add_33 : decode cX6_add 33 = .ok (.iadd, 1) := by decide +kernel
theorem dX6_add_34 : decode cX6_add 34 = .ok (.putfield 16, 3) := by decide +kernel
theorem dX6_add_37 : decode cX6_add 37 = .ok (.return_, 1) := by decide +kernel
set_option maxHeartbeats 4000000 in
set_option maxRecDepth 100000 in
theorem cn_X6_add {l : Launch} {cA : Nat → ClassId} {ad : Nat → Nat} {D : va_G} {E : Nat → Nat} {A : Nat → Prop} {x1 : Int32} {s0 sr : SS} {rr : Unit} (hf : f_X6_add x1 s0 = some (rr, sr)) : zCon Ox Nx cA ad D E l yX6_add cX6_add 2 none 0 A [.ref (ad 10), .int x1] s0 none sr := by
  refine zstart (own := RX6) hOx (by decide) rfl (Nat.le_of_ble_eq_true rfl) ?_
  intro p e s m args below meth c X hP ls hl
  have hx := X.1
  have hb := X.2.1
  have hl : lv_has ls 2 [(0, .ref (ad 10)), (1, .int x1)] := hl
  have hS : va_S A s.heap s.heap [] := va_S.rf
  rw [f_X6_add] at hf
  refine lv_aload_n hx hb dX6_add_0 rfl (lv_at hl 0 rfl) ?_
  refine gf_X6_16 X hP (k := 10) rfl dX6_add_1 ?_
  refine zif_lt (tgt := 27) hx hb dX6_add_4 (by decide) hf (fun hf => ?_) (fun hf => ?_)
  · refine lv_aload_n hx hb dX6_add_27 rfl (lv_at hl 0 rfl) ?_
    refine lv_dup hx hb dX6_add_28 rfl ?_
    refine gf_X6_16 X hP (k := 10) rfl dX6_add_29 ?_
    refine lv_iconst (v := 1) hx hb dX6_add_32 (by decide) ?_
    refine lv_iadd hx hb dX6_add_33 ?_
    refine pf_X6_16 X hP hS (k := 10) rfl dX6_add_34 (fun H locs hP hS => ?_)
    exact zret_v X hP hS hf dX6_add_37
  · refine lv_aload_n hx hb dX6_add_7 rfl (lv_at hl 0 rfl) ?_
    refine gf_X6_16 X hP (k := 10) rfl dX6_add_8 ?_
    refine lv_sipush (v := 200) hx hb dX6_add_11 (by decide) ?_
    refine zicmp_ge (tgt := 27) hx hb dX6_add_14 (by decide) hf (fun hf => ?_) (fun hf => ?_)
    · refine lv_aload_n hx hb dX6_add_27 rfl (lv_at hl 0 rfl) ?_
      refine lv_dup hx hb dX6_add_28 rfl ?_
      refine gf_X6_16 X hP (k := 10) rfl dX6_add_29 ?_
      refine lv_iconst (v := 1) hx hb dX6_add_32 (by decide) ?_
      refine lv_iadd hx hb dX6_add_33 ?_
      refine pf_X6_16 X hP hS (k := 10) rfl dX6_add_34 (fun H locs hP hS => ?_)
      exact zret_v X hP hS hf dX6_add_37
    · refine lv_aload_n hx hb dX6_add_17 rfl (lv_at hl 0 rfl) ?_
      refine gf_X6_9 X hP (k := 10) (q := 80) rfl dX6_add_18 rfl ?_
      refine lv_aload_n hx hb dX6_add_21 rfl (lv_at hl 0 rfl) ?_
      refine gf_X6_16 X hP (k := 10) rfl dX6_add_22 ?_
      refine lv_iload_n hx hb dX6_add_25 rfl (lv_at hl 1 rfl) ?_
      obtain ⟨g1, hf⟩ := zgd hf
      refine zast_c X hP hS (k := 80) (n := 200) (rs := []) rfl g1 dX6_add_26 (fun H locs hP hS => ?_)
      refine lv_aload_n hx hb dX6_add_27 rfl (lv_at hl 0 rfl) ?_
      refine lv_dup hx hb dX6_add_28 rfl ?_
      refine gf_X6_16 X hP (k := 10) rfl dX6_add_29 ?_
      refine lv_iconst (v := 1) hx hb dX6_add_32 (by decide) ?_
      refine lv_iadd hx hb dX6_add_33 ?_
      refine pf_X6_16 X hP hS (k := 10) rfl dX6_add_34 (fun H locs hP hS => ?_)
      exact zret_v X hP hS hf dX6_add_37
