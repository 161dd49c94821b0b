theorem dJ7_fill_53178_0 : decode cJ7_fill_53178 0 = .ok (.iconst 0, 1) := by decide +kernel
theorem dJ7_fill_53178_1 : decode cJ7_fill_53178 1 = .ok (.istore_n 2, 1) := by decide +kernel
theorem dJ7_fill_53178_2 : decode cJ7_fill_53178 2 = .ok (.aload_n 0, 1) := by decide +kernel
theorem dJ7_fill_53178_3 : decode cJ7_fill_53178 3 = .ok (.arraylength, 1) := by decide +kernel
theorem dJ7_fill_53178_4 : decode cJ7_fill_53178 4 = .ok (.istore_n 3, 1) := by decide +kernel
theorem dJ7_fill_53178_5 : decode cJ7_fill_53178 5 = .ok (.iload_n 2, 1) := by decide +kernel
theorem dJ7_fill_53178_6 : decode cJ7_fill_53178 6 = .ok (.iload_n 3, 1) := by decide +kernel
theorem dJ7_fill_53178_7 : decode cJ7_fill_53178 7 = .ok (.if_icmp .ge 13, 3) := by decide +kernel
theorem dJ7_fill_53178_10 : decode cJ7_fill_53178 10 = .ok (.aload_n 0, 1) := by decide +kernel
theorem dJ7_fill_53178_11 : decode cJ7_fill_53178 11 = .ok (.iload_n 2, 1) := by decide +kernel
theorem dJ7_fill_53178_12 : decode cJ7_fill_53178 12 = .ok (.iload_n 1, 1) := by decide +kernel
theorem dJ7_fill_53178_13 : decode cJ7_fill_53178 13 = .ok (.iastore, 1) := by decide +kernel
theorem dJ7_fill_53178_14 : decode cJ7_fill_53178 14 = .ok (.iinc 2 1, 3) := by decide +kernel
theorem dJ7_fill_53178_17 : decode cJ7_fill_53178 17 = .ok (.goto (-12), 3) := by decide +kernel
theorem dJ7_fill_53178_20 : decode cJ7_fill_53178 20 = .ok (.return_, 1) := by decide +kernel
set_option maxHeartbeats 4000000 in
set_option maxRecDepth 100000 in
theorem cn_J7_fill_53178 {l : Launch} {cA : Nat → ClassId} {ad : Nat → Nat} {D : va_G} {E : Nat → Nat} {A : Nat → Prop} {k0 : Nat} {x1 : Int32} {s0 sr : SS} {rr : Unit} (hf : f_J7_fill_53178 k0 x1 s0 = some (rr, sr)) : zCon Ox Nx cA ad D E l yJ7_fill_53178 cJ7_fill_53178 4 none 0 A [.ref (ad k0), .int x1] s0 none sr := by
  refine zstart (own := RJ7) hOx (by decide) rfl (Nat.le_of_ble_eq_true rfl) ?_
  intro p e s m args below meth c X hP ls hl
  have hx := X.1
  have hb := X.2.1
  have hl : lv_has ls 4 [(0, .ref (ad k0)), (1, .int x1)] := hl
  have hS : va_S A s.heap s.heap [] := va_S.rf
  have hc_5 : ∀ (n5 : Nat) (k0 : Nat) (x1 : Int32) (x2 : Int32) (x3 : Int32) (s1 : SS) (H : Heap) (locs : List Loc) (ls : Array Slot), lv_has ls 4 [(0, .ref (ad k0)), (1, .int x1), (2, .int x2), (3, .int x3)] → va_P D ZCL (zw Ox Nx cA ad s1) H → va_S A s.heap H locs → f_J7_fill_53178_c5 n5 k0 x1 x2 x3 s1 = some (rr, sr) → W p l e (zrm 0) s m args below meth c H locs 0 0 (MQ below (zQc Ox Nx cA ad D A none sr) args s 0 0 A) (F0 m 5 ls []) := by
    intro n5
    induction n5 with
    | zero =>
      intro k0 x1 x2 x3 s1 H locs ls hl hP hS hf
      rw [f_J7_fill_53178_c5] at hf
      cases hf
    | succ n5 ih5 =>
      intro k0 x1 x2 x3 s1 H locs ls hl hP hS hf
      rw [f_J7_fill_53178_c5] at hf
      refine lv_iload_n hx hb dJ7_fill_53178_5 rfl (lv_at hl 2 rfl) ?_
      refine lv_iload_n hx hb dJ7_fill_53178_6 rfl (lv_at hl 3 rfl) ?_
      refine zicmp_ge (tgt := 20) hx hb dJ7_fill_53178_7 (by decide) hf (fun hf => ?_) (fun hf => ?_)
      · exact zret_v X hP hS hf dJ7_fill_53178_20
      · refine lv_aload_n hx hb dJ7_fill_53178_10 rfl (lv_at hl 0 rfl) ?_
        refine lv_iload_n hx hb dJ7_fill_53178_11 rfl (lv_at hl 2 rfl) ?_
        refine lv_iload_n hx hb dJ7_fill_53178_12 rfl (lv_at hl 1 rfl) ?_
        obtain ⟨g3, hf⟩ := zgd hf
        obtain ⟨n4, rn4, on4, in4⟩ := zok_of g3
        refine zast_i X hP hS (k := k0) on4 in4 dJ7_fill_53178_13 (fun H locs hP hS => ?_)
        refine lv_iinc (v := (x2 + 1)) (lv' := [(2, .int (x2 + 1)), (0, .ref (ad k0)), (1, .int x1), (3, .int x3)]) hx hb dJ7_fill_53178_14 hl (k := 2) rfl rfl (by decide) rfl (fun ls hl => ?_)
        refine lv_goto (tgt := 5) hx hb dJ7_fill_53178_17 (by decide) ?_
        exact ih5 k0 x1 (x2 + 1) x3 (zS s1 k0 (x2).toNatClampNeg x1) _ _ _ (lv_sub hl [1, 2, 0, 3] rfl) hP hS hf
  rw [f_J7_fill_53178] at hf
  refine lv_iconst (v := 0) hx hb dJ7_fill_53178_0 (by decide) ?_
  refine lv_istore_n (lv' := [(2, .int 0), (0, .ref (ad k0)), (1, .int x1)]) hx hb dJ7_fill_53178_1 rfl hl (by decide) rfl (fun ls hl => ?_)
  refine lv_aload_n hx hb dJ7_fill_53178_2 rfl (lv_at hl 1 rfl) ?_
  obtain ⟨g1, hf⟩ := zgd hf
  obtain ⟨n2, on2⟩ := zia_of g1
  refine zalen X hP (k := k0) (t := 0) on2 (by decide) rfl dJ7_fill_53178_3 ?_
  refine lv_istore_n (lv' := [(3, .int (nI (zlen Ox k0))), (2, .int 0), (0, .ref (ad k0)), (1, .int x1)]) hx hb dJ7_fill_53178_4 rfl hl (by decide) rfl (fun ls hl => ?_)
  exact hc_5 ZF k0 x1 0 (nI (zlen Ox k0)) s0 _ _ _ (lv_sub hl [2, 3, 1, 0] rfl) hP hS hf
theorem dX7_letterCount_0 : decode cX7_letterCount 0 = .ok (.aload_n 0, 1) := by decide +kernel
theorem dX7_letterCount_1 : decode cX7_letterCount 1 = .ok (.getfield 28, 3) := by decide +kernel
theorem dX7_letterCount_4 : decode cX7_letterCount 4 = .ok (.aload_n 0, 1) := by decide +kernel
theorem dX7_letterCount_5 : decode cX7_letterCount 5 = .ok (.getfield 25, 3) := by decide +kernel
theorem dX7_letterCount_8 : decode cX7_letterCount 8 = .ok (.iadd, 1) := by decide +kernel
theorem dX7_letterCount_9 : decode cX7_letterCount 9 = .ok (.aload_n 0, 1) := by decide +kernel
theorem dX7_letterCount_10 : decode cX7_letterCount 10 = .ok (.getfield 21, 3) := by decide +kernel
theorem dX7_letterCount_13 : decode cX7_letterCount 13 = .ok (.iconst 2, 1) := by decide +kernel
theorem dX7_letterCount_14 : decode cX7_letterCount 14 = .ok (.if_icmp .ne 7, 3) := by decide +kernel
theorem dX7_letterCount_17 : decode cX7_letterCount 17 = .ok (.iconst 1, 1) := by decide +kernel
theorem dX7_letterCount_18 : decode cX7_letterCount 18 = .ok (.goto 4, 3) := by decide +kernel
theorem dX7_letterCount_21 : decode cX7_letterCount 21 = .ok (.iconst 0, 1) := by decide +kernel
theorem dX7_letterCount_22 : decode cX7_letterCount 22 = .ok (.iadd, 1) := by decide +kernel
theorem dX7_letterCount_23 : decode cX7_letterCount 23 = .ok (.ireturn, 1) := by decide +kernel
set_option maxHeartbeats 4000000 in
set_option maxRecDepth 100000 in
theorem cn_X7_letterCount {l : Launch} {cA : Nat → ClassId} {ad : Nat → Nat} {D : va_G} {E : Nat → Nat} {A : Nat → Prop} {k0 : Nat} {s0 sr : SS} {rr : Int32} (hf : f_X7_letterCount k0 s0 = some (rr, sr)) : zCon Ox Nx cA ad D E l yX7_letterCount cX7_letterCount 1 (some .int) 0 A [.ref (ad k0)] s0 (some (.int rr)) sr := by
  refine zstart (own := RX7) hOx (by decide) rfl (Nat.le_of_ble_eq_true rfl) ?_
  intro p e s m args below meth c X hP ls hl
  have hx := X.1
  have hb := X.2.1
  have hl : lv_has ls 1 [(0, .ref (ad k0))] := hl
  have hS : va_S A s.heap s.heap [] := va_S.rf
  rw [f_X7_letterCount] at hf
  obtain ⟨g0, hf⟩ := zgd hf
  refine lv_aload_n hx hb dX7_letterCount_0 rfl (lv_at hl 0 rfl) ?_
  refine gf_X7_28 X hP (k := k0) g0 dX7_letterCount_1 ?_
  refine lv_aload_n hx hb dX7_letterCount_4 rfl (lv_at hl 0 rfl) ?_
  refine gf_X7_25 X hP (k := k0) g0 dX7_letterCount_5 ?_
  refine lv_iadd hx hb dX7_letterCount_8 ?_
  refine lv_aload_n hx hb dX7_letterCount_9 rfl (lv_at hl 0 rfl) ?_
  refine gf_X7_21 X hP (k := k0) g0 dX7_letterCount_10 ?_
  refine lv_iconst (v := 2) hx hb dX7_letterCount_13 (by decide) ?_
  refine zicmp_ne (tgt := 21) hx hb dX7_letterCount_14 (by decide) hf (fun hf => ?_) (fun hf => ?_)
  · refine lv_iconst (v := 0) hx hb dX7_letterCount_21 (by decide) ?_
    refine lv_iadd hx hb dX7_letterCount_22 ?_
    exact zret_i X hP hS hf rfl dX7_letterCount_23
  · refine lv_iconst (v := 1) hx hb dX7_letterCount_17 (by decide) ?_
    refine lv_goto (tgt := 22) hx hb dX7_letterCount_18 (by decide) ?_
    refine lv_iadd hx hb dX7_letterCount_22 ?_
    exact zret_i X hP hS hf rfl dX7_letterCount_23
theorem dX7_dimension_0 : decode cX7_dimension 0 = .ok (.aload_n 0, 1) := by decide +kernel
theorem dX7_dimension_1 : decode cX7_dimension 1 = .ok (.getfield 9, 3) := by decide +kernel
theorem dX7_dimension_4 : decode cX7_dimension 4 = .ok (.iconst 0, 1) := by decide +kernel
theorem dX7_dimension_5 : decode cX7_dimension 5 = .ok (.iaload, 1) := by decide +kernel
theorem dX7_dimension_6 : decode cX7_dimension 6 = .ok (.aload_n 0, 1) := by decide +kernel
theorem dX7_dimension_7 : decode cX7_dimension 7 = .ok (.getfield 9, 3) := by decide +kernel
theorem dX7_dimension_10 : decode cX7_dimension 10 = .ok (.iconst 1, 1) := by decide +kernel
theorem dX7_dimension_11 : decode cX7_dimension 11 = .ok (.iaload, 1) := by decide +kernel
theorem dX7_dimension_12 : decode cX7_dimension 12 = .ok (.iadd, 1) := by decide +kernel
theorem dX7_dimension_13 : decode cX7_dimension 13 = .ok (.aload_n 0, 1) := by decide +kernel
theorem dX7_dimension_14 : decode cX7_dimension 14 = .ok (.getfield 9, 3) := by decide +kernel
theorem dX7_dimension_17 : decode cX7_dimension 17 = .ok (.iconst 2, 1) := by decide +kernel
theorem dX7_dimension_18 : decode cX7_dimension 18 = .ok (.iaload, 1) := by decide +kernel
theorem dX7_dimension_19 : decode cX7_dimension 19 = .ok (.iadd, 1) := by decide +kernel
theorem dX7_dimension_20 : decode cX7_dimension 20 = .ok (.ireturn, 1) := by decide +kernel
set_option maxHeartbeats 4000000 in
set_option maxRecDepth 100000 in
theorem cn_X7_dimension {l : Launch} {cA : Nat → ClassId} {ad : Nat → Nat} {D : va_G} {E : Nat → Nat} {A : Nat → Prop} {k0 : Nat} {s0 sr : SS} {rr : Int32} (hf : f_X7_dimension k0 s0 = some (rr, sr)) : zCon Ox Nx cA ad D E l yX7_dimension cX7_dimension 1 (some .int) 0 A [.ref (ad k0)] s0 (some (.int rr)) sr := by
  refine zstart (own := RX7) hOx (by decide) rfl (Nat.le_of_ble_eq_true rfl) ?_
  intro p e s m args below meth c X hP ls hl
  have hx := X.1
  have hb := X.2.1
  have hl : lv_has ls 1 [(0, .ref (ad k0))] := hl
  have hS : va_S A s.heap s.heap [] := va_S.rf
  rw [f_X7_dimension] at hf
  obtain ⟨g0, hf⟩ := zgd hf
  refine lv_aload_n hx hb dX7_dimension_0 rfl (lv_at hl 0 rfl) ?_
  refine gf_X7_9 X hP (k := k0) g0 dX7_dimension_1 rfl ?_
  refine lv_iconst (v := 0) hx hb dX7_dimension_4 (by decide) ?_
  obtain ⟨g1, hf⟩ := zgd hf
  obtain ⟨n6, rn6, on6, in6⟩ := zok_of g1
  refine zald_i X hP (k := (zrf Ox k0 3)) on6 in6 dX7_dimension_5 ?_
  refine lv_aload_n hx hb dX7_dimension_6 rfl (lv_at hl 0 rfl) ?_
  refine gf_X7_9 X hP (k := k0) g0 dX7_dimension_7 rfl ?_
  refine lv_iconst (v := 1) hx hb dX7_dimension_10 (by decide) ?_
  obtain ⟨g2, hf⟩ := zgd hf
  obtain ⟨n5, rn5, on5, in5⟩ := zok_of g2
  refine zald_i X hP (k := (zrf Ox k0 3)) on5 in5 dX7_dimension_11 ?_
  refine lv_iadd hx hb dX7_dimension_12 ?_
  refine lv_aload_n hx hb dX7_dimension_13 rfl (lv_at hl 0 rfl) ?_
  refine gf_X7_9 X hP (k := k0) g0 dX7_dimension_14 rfl ?_
  refine lv_iconst (v := 2) hx hb dX7_dimension_17 (by decide) ?_
  obtain ⟨g3, hf⟩ := zgd hf
  obtain ⟨n4, rn4, on4, in4⟩ := zok_of g3
  refine zald_i X hP (k := (zrf Ox k0 3)) on4 in4 dX7_dimension_18 ?_
  refine lv_iadd hx hb dX7_dimension_19 ?_
  exact zret_i X hP hS hf rfl dX7_dimension_20
theorem dX7_worthByPoints_0 : decode cX7_worthByPoints 0 = .ok (.aload_n 0, 1) := by decide +kernel
theorem dX7_worthByPoints_1 : decode cX7_worthByPoints 1 = .ok (.invokevirtual 45, 3) := by decide +kernel
theorem dX7_worthByPoints_4 : decode cX7_worthByPoints 4 = .ok (.istore_n 2, 1) := by decide +kernel
theorem dX7_worthByPoints_5 : decode cX7_worthByPoints 5 = .ok (.aload_n 0, 1) := by decide +kernel
theorem dX7_worthByPoints_6 : decode cX7_worthByPoints 6 = .ok (.getfield 28, 3) := by decide +kernel
theorem dX7_worthByPoints_9 : decode cX7_worthByPoints 9 = .ok (.istore_n 3, 1) := by decide +kernel
theorem dX7_worthByPoints_10 : decode cX7_worthByPoints 10 = .ok (.iload_n 3, 1) := by decide +kernel
theorem dX7_worthByPoints_11 : decode cX7_worthByPoints 11 = .ok (.aload_n 0, 1) := by decide +kernel
theorem dX7_worthByPoints_12 : decode cX7_worthByPoints 12 = .ok (.getfield 28, 3) := by decide +kernel
theorem dX7_worthByPoints_15 : decode cX7_worthByPoints 15 = .ok (.aload_n 0, 1) := by decide +kernel
theorem dX7_worthByPoints_16 : decode cX7_worthByPoints 16 = .ok (.getfield 25, 3) := by decide +kernel
theorem dX7_worthByPoints_19 : decode cX7_worthByPoints 19 = .ok (.iadd, 1) := by decide +kernel
theorem dX7_worthByPoints_20 : decode cX7_worthByPoints 20 = .ok (.if_icmp .ge 36, 3) := by decide +kernel
theorem dX7_worthByPoints_23 : decode cX7_worthByPoints 23 = .ok (.iload_n 3, 1) := by decide +kernel
theorem dX7_worthByPoints_24 : decode cX7_worthByPoints 24 = .ok (.aload_n 1, 1) := by decide +kernel
theorem dX7_worthByPoints_25 : decode cX7_worthByPoints 25 = .ok (.arraylength, 1) := by decide +kernel
theorem dX7_worthByPoints_26 : decode cX7_worthByPoints 26 = .ok (.if_icmp .ge 30, 3) := by decide +kernel
theorem dX7_worthByPoints_29 : decode cX7_worthByPoints 29 = .ok (.aload_n 1, 1) := by decide +kernel
theorem dX7_worthByPoints_30 : decode cX7_worthByPoints 30 = .ok (.iload_n 3, 1) := by decide +kernel
theorem dX7_worthByPoints_31 : decode cX7_worthByPoints 31 = .ok (.iaload, 1) := by decide +kernel
theorem dX7_worthByPoints_32 : decode cX7_worthByPoints 32 = .ok (.iload_n 2, 1) := by decide +kernel
theorem dX7_worthByPoints_33 : decode cX7_worthByPoints 33 = .ok (.if_icmp .ne 17, 3) := by decide +kernel
theorem dX7_worthByPoints_36 : decode cX7_worthByPoints 36 = .ok (.iload_n 2, 1) := by decide +kernel
theorem dX7_worthByPoints_37 : decode cX7_worthByPoints 37 = .ok (.iconst 2, 1) := by decide +kernel
theorem dX7_worthByPoints_38 : decode cX7_worthByPoints 38 = .ok (.irem, 1) := by decide +kernel
theorem dX7_worthByPoints_39 : decode cX7_worthByPoints 39 = .ok (.ifCond .eq 7, 3) := by decide +kernel
theorem dX7_worthByPoints_42 : decode cX7_worthByPoints 42 = .ok (.lconst 1, 1) := by decide +kernel
theorem dX7_worthByPoints_43 : decode cX7_worthByPoints 43 = .ok (.goto 6, 3) := by decide +kernel
theorem dX7_worthByPoints_46 : decode cX7_worthByPoints 46 = .ok (.ldc2_w 63, 3) := by decide +kernel
theorem dX7_worthByPoints_49 : decode cX7_worthByPoints 49 = .ok (.lreturn, 1) := by decide +kernel
theorem dX7_worthByPoints_50 : decode cX7_worthByPoints 50 = .ok (.iinc 3 1, 3) := by decide +kernel
theorem dX7_worthByPoints_53 : decode cX7_worthByPoints 53 = .ok (.goto (-43), 3) := by decide +kernel
theorem dX7_worthByPoints_56 : decode cX7_worthByPoints 56 = .ok (.lconst 0, 1) := by decide +kernel
theorem dX7_worthByPoints_57 : decode cX7_worthByPoints 57 = .ok (.lreturn, 1) := by decide +kernel
set_option maxHeartbeats 4000000 in
set_option maxRecDepth 100000 in
theorem cn_X7_worthByPoints {l : Launch} {cA : Nat → ClassId} {ad : Nat → Nat} {D : va_G} {E : Nat → Nat} {A : Nat → Prop} {k0 : Nat} {k1 : Nat} {s0 sr : SS} {rr : Int64} (hf : f_X7_worthByPoints k0 k1 s0 = some (rr, sr)) : zCon Ox Nx cA ad D E l yX7_worthByPoints cX7_worthByPoints 4 (some .long) 1 A [.ref (ad k0), .ref (ad k1)] s0 (some (.long rr)) sr := by
  refine zstart (own := RX7) hOx (by decide) rfl (Nat.le_of_ble_eq_true rfl) ?_
  intro p e s m args below meth c X hP ls hl
  have hx := X.1
  have hb := X.2.1
  have hl : lv_has ls 4 [(0, .ref (ad k0)), (1, .ref (ad k1))] := hl
  have hS : va_S A s.heap s.heap [] := va_S.rf
  have hc_10 : ∀ (n10 : Nat) (k0 : Nat) (k1 : Nat) (x2 : Int32) (x3 : Int32) (s1 : SS) (H : Heap) (locs : List Loc) (ls : Array Slot), lv_has ls 4 [(0, .ref (ad k0)), (1, .ref (ad k1)), (2, .int x2), (3, .int x3)] → va_P D ZCL (zw Ox Nx cA ad s1) H → va_S A s.heap H locs → f_X7_worthByPoints_c10 n10 k0 k1 x2 x3 s1 = some (rr, sr) → W p l e (zrm 1) s m args below meth c H locs 0 0 (MQ below (zQc Ox Nx cA ad D A (some (.long rr)) sr) args s 0 0 A) (F0 m 10 ls []) := by
    intro n10
    induction n10 with
    | zero =>
      intro k0 k1 x2 x3 s1 H locs ls hl hP hS hf
      rw [f_X7_worthByPoints_c10] at hf
      cases hf
    | succ n10 ih10 =>
      intro k0 k1 x2 x3 s1 H locs ls hl hP hS hf
      rw [f_X7_worthByPoints_c10] at hf
      obtain ⟨g0, hf⟩ := zgd hf
      refine lv_iload_n hx hb dX7_worthByPoints_10 rfl (lv_at hl 3 rfl) ?_
      refine lv_aload_n hx hb dX7_worthByPoints_11 rfl (lv_at hl 0 rfl) ?_
      refine gf_X7_28 X hP (k := k0) g0 dX7_worthByPoints_12 ?_
      refine lv_aload_n hx hb dX7_worthByPoints_15 rfl (lv_at hl 0 rfl) ?_
      refine gf_X7_25 X hP (k := k0) g0 dX7_worthByPoints_16 ?_
      refine lv_iadd hx hb dX7_worthByPoints_19 ?_
      refine zicmp_ge (tgt := 56) hx hb dX7_worthByPoints_20 (by decide) hf (fun hf => ?_) (fun hf => ?_)
      · refine lv_lconst (v := 0) hx hb dX7_worthByPoints_56 (by decide) ?_
        exact zret_l X hP hS hf dX7_worthByPoints_57
      · refine lv_iload_n hx hb dX7_worthByPoints_23 rfl (lv_at hl 3 rfl) ?_
        refine lv_aload_n hx hb dX7_worthByPoints_24 rfl (lv_at hl 1 rfl) ?_
        obtain ⟨g4, hf⟩ := zgd hf
        obtain ⟨n5, on5⟩ := zia_of g4
        refine zalen X hP (k := k1) (t := 0) on5 (by decide) rfl dX7_worthByPoints_25 ?_
        refine zicmp_ge (tgt := 56) hx hb dX7_worthByPoints_26 (by decide) hf (fun hf => ?_) (fun hf => ?_)
        · refine lv_lconst (v := 0) hx hb dX7_worthByPoints_56 (by decide) ?_
          exact zret_l X hP hS hf dX7_worthByPoints_57
        · refine lv_aload_n hx hb dX7_worthByPoints_29 rfl (lv_at hl 1 rfl) ?_
          refine lv_iload_n hx hb dX7_worthByPoints_30 rfl (lv_at hl 3 rfl) ?_
          obtain ⟨g6, hf⟩ := zgd hf
          obtain ⟨n7, rn7, on7, in7⟩ := zok_of g6
          refine zald_i X hP (k := k1) on7 in7 dX7_worthByPoints_31 ?_
          refine lv_iload_n hx hb dX7_worthByPoints_32 rfl (lv_at hl 2 rfl) ?_
          refine zicmp_ne (tgt := 50) hx hb dX7_worthByPoints_33 (by decide) hf (fun hf => ?_) (fun hf => ?_)
          · refine lv_iinc (v := (x3 + 1)) (lv' := [(3, .int (x3 + 1)), (0, .ref (ad k0)), (1, .ref (ad k1)), (2, .int x2)]) hx hb dX7_worthByPoints_50 hl (k := 3) rfl rfl (by decide) rfl (fun ls hl => ?_)
            refine lv_goto (tgt := 10) hx hb dX7_worthByPoints_53 (by decide) ?_
            exact ih10 k0 k1 x2 (x3 + 1) s1 _ _ _ (lv_sub hl [1, 2, 3, 0] rfl) hP hS hf
          · refine lv_iload_n hx hb dX7_worthByPoints_36 rfl (lv_at hl 2 rfl) ?_
            refine lv_iconst (v := 2) hx hb dX7_worthByPoints_37 (by decide) ?_
            refine lv_irem hx hb dX7_worthByPoints_38 (by decide) ?_
            refine zif_eq (tgt := 46) hx hb dX7_worthByPoints_39 (by decide) hf (fun hf => ?_) (fun hf => ?_)
            · refine zldc2 X co_X7_63 dX7_worthByPoints_46 ?_
              exact zret_l X hP hS hf dX7_worthByPoints_49
            · refine lv_lconst (v := 1) hx hb dX7_worthByPoints_42 (by decide) ?_
              refine lv_goto (tgt := 49) hx hb dX7_worthByPoints_43 (by decide) ?_
              exact zret_l X hP hS hf dX7_worthByPoints_49
  rw [f_X7_worthByPoints] at hf
  obtain ⟨g0, hf⟩ := zgd hf
  refine lv_aload_n hx hb dX7_worthByPoints_0 rfl (lv_at hl 0 rfl) ?_
  obtain ⟨r1, s2, h3, hf⟩ := zbd_some hf
  refine zcallV X hP hS hl.1 (k := k0) (As := []) (rest := []) (cn_X7_dimension h3) cw_X7_dimension zp_7 g0 (by decide) rfl ml_X7_45 (by decide) rfl rfl (Nat.le_of_ble_eq_true rfl) dX7_worthByPoints_1 (fun H locs hP hS => ?_)
  refine lv_istore_n (lv' := [(2, .int r1), (0, .ref (ad k0)), (1, .ref (ad k1))]) hx hb dX7_worthByPoints_4 rfl hl (by decide) rfl (fun ls hl => ?_)
  refine lv_aload_n hx hb dX7_worthByPoints_5 rfl (lv_at hl 1 rfl) ?_
  refine gf_X7_28 X hP (k := k0) g0 dX7_worthByPoints_6 ?_
  refine lv_istore_n (lv' := [(3, .int (s2.1 k0 1)), (2, .int r1), (0, .ref (ad k0)), (1, .ref (ad k1))]) hx hb dX7_worthByPoints_9 rfl hl (by decide) rfl (fun ls hl => ?_)
  exact hc_10 ZF k0 k1 r1 (s2.1 k0 1) s2 _ _ _ (lv_sub hl [2, 3, 1, 0] rfl) hP hS hf
theorem dX7_worthThrice_0 : decode cX7_worthThrice 0 = .ok (.ldc2_w 50, 3) := by decide +kernel
theorem dX7_worthThrice_3 : decode cX7_worthThrice 3 = .ok (.ldc2_w 50, 3) := by decide +kernel
theorem dX7_worthThrice_6 : decode cX7_worthThrice 6 = .ok (.iload_n 1, 1) := by decide +kernel
theorem dX7_worthThrice_7 : decode cX7_worthThrice 7 = .ok (.i2l, 1) := by decide +kernel
theorem dX7_worthThrice_8 : decode cX7_worthThrice 8 = .ok (.lmul, 1) := by decide +kernel
theorem dX7_worthThrice_9 : decode cX7_worthThrice 9 = .ok (.lsub, 1) := by decide +kernel
theorem dX7_worthThrice_10 : decode cX7_worthThrice 10 = .ok (.ldc2_w 72, 3) := by decide +kernel
theorem dX7_worthThrice_13 : decode cX7_worthThrice 13 = .ok (.iload_n 0, 1) := by decide +kernel
theorem dX7_worthThrice_14 : decode cX7_worthThrice 14 = .ok (.i2l, 1) := by decide +kernel
theorem dX7_worthThrice_15 : decode cX7_worthThrice 15 = .ok (.lmul, 1) := by decide +kernel
theorem dX7_worthThrice_16 : decode cX7_worthThrice 16 = .ok (.lsub, 1) := by decide +kernel
theorem dX7_worthThrice_17 : decode cX7_worthThrice 17 = .ok (.lreturn, 1) := by decide +kernel
set_option maxHeartbeats 4000000 in
set_option maxRecDepth 100000 in
theorem cn_X7_worthThrice {l : Launch} {cA : Nat → ClassId} {ad : Nat → Nat} {D : va_G} {E : Nat → Nat} {A : Nat → Prop} {x0 : Int32} {x1 : Int32} {s0 sr : SS} {rr : Int64} (hf : f_X7_worthThrice x0 x1 s0 = some (rr, sr)) : zCon Ox Nx cA ad D E l yX7_worthThrice cX7_worthThrice 2 (some .long) 0 A [.int x0, .int x1] s0 (some (.long rr)) sr := by
  refine zstart (own := RX7) hOx (by decide) rfl (Nat.le_of_ble_eq_true rfl) ?_
  intro p e s m args below meth c X hP ls hl
  have hx := X.1
  have hb := X.2.1
  have hl : lv_has ls 2 [(0, .int x0), (1, .int x1)] := hl
  have hS : va_S A s.heap s.heap [] := va_S.rf
  rw [f_X7_worthThrice] at hf
  refine zldc2 X co_X7_50 dX7_worthThrice_0 ?_
  refine zldc2 X co_X7_50 dX7_worthThrice_3 ?_
  refine lv_iload_n hx hb dX7_worthThrice_6 rfl (lv_at hl 1 rfl) ?_
  refine lv_i2l hx hb dX7_worthThrice_7 rfl ?_
  refine lv_lmul hx hb dX7_worthThrice_8 ?_
  refine lv_lsub hx hb dX7_worthThrice_9 ?_
  refine zldc2 X co_X7_72 dX7_worthThrice_10 ?_
  refine lv_iload_n hx hb dX7_worthThrice_13 rfl (lv_at hl 0 rfl) ?_
  refine lv_i2l hx hb dX7_worthThrice_14 rfl ?_
  refine lv_lmul hx hb dX7_worthThrice_15 ?_
  refine lv_lsub hx hb dX7_worthThrice_16 ?_
  exact zret_l X hP hS hf dX7_worthThrice_17
theorem dX7_worthTwice_0 : decode cX7_worthTwice 0 = .ok (.iload_n 0, 1) := by decide +kernel
theorem dX7_worthTwice_1 : decode cX7_worthTwice 1 = .ok (.i2l, 1) := by decide +kernel
theorem dX7_worthTwice_2 : decode cX7_worthTwice 2 = .ok (.lneg, 1) := by decide +kernel
theorem dX7_worthTwice_3 : decode cX7_worthTwice 3 = .ok (.lreturn, 1) := by decide +kernel
set_option maxHeartbeats 4000000 in
set_option maxRecDepth 100000 in
theorem cn_X7_worthTwice {l : Launch} {cA : Nat → ClassId} {ad : Nat → Nat} {D : va_G} {E : Nat → Nat} {A : Nat → Prop} {x0 : Int32} {s0 sr : SS} {rr : Int64} (hf : f_X7_worthTwice x0 s0 = some (rr, sr)) : zCon Ox Nx cA ad D E l yX7_worthTwice cX7_worthTwice 1 (some .long) 0 A [.int x0] s0 (some (.long rr)) sr := by
  refine zstart (own := RX7) hOx (by decide) rfl (Nat.le_of_ble_eq_true rfl) ?_
  intro p e s m args below meth c X hP ls hl
  have hx := X.1
  have hb := X.2.1
  have hl : lv_has ls 1 [(0, .int x0)] := hl
  have hS : va_S A s.heap s.heap [] := va_S.rf
  rw [f_X7_worthTwice] at hf
  refine lv_iload_n hx hb dX7_worthTwice_0 rfl (lv_at hl 0 rfl) ?_
  refine lv_i2l hx hb dX7_worthTwice_1 rfl ?_
  refine lv_lneg hx hb dX7_worthTwice_2 ?_
  exact zret_l X hP hS hf dX7_worthTwice_3
theorem dX7_worthByCurves_0 : decode cX7_worthByCurves 0 = .ok (.iconst 0, 1) := by decide +kernel
theorem dX7_worthByCurves_1 : decode cX7_worthByCurves 1 = .ok (.istore_n 2, 1) := by decide +kernel
theorem dX7_worthByCurves_2 : decode cX7_worthByCurves 2 = .ok (.iload_n 2, 1) := by decide +kernel
theorem dX7_worthByCurves_3 : decode cX7_worthByCurves 3 = .ok (.aload_n 0, 1) := by decide +kernel
theorem dX7_worthByCurves_4 : decode cX7_worthByCurves 4 = .ok (.getfield 25, 3) := by decide +kernel
theorem dX7_worthByCurves_7 : decode cX7_worthByCurves 7 = .ok (.if_icmp .ge 67, 3) := by decide +kernel
theorem dX7_worthByCurves_10 : decode cX7_worthByCurves 10 = .ok (.iload_n 2, 1) := by decide +kernel
theorem dX7_worthByCurves_11 : decode cX7_worthByCurves 11 = .ok (.aload_n 0, 1) := by decide +kernel
theorem dX7_worthByCurves_12 : decode cX7_worthByCurves 12 = .ok (.getfield 18, 3) := by decide +kernel
theorem dX7_worthByCurves_15 : decode cX7_worthByCurves 15 = .ok (.arraylength, 1) := by decide +kernel
theorem dX7_worthByCurves_16 : decode cX7_worthByCurves 16 = .ok (.if_icmp .ge 58, 3) := by decide +kernel
theorem dX7_worthByCurves_19 : decode cX7_worthByCurves 19 = .ok (.aload_n 1, 1) := by decide +kernel
theorem dX7_worthByCurves_20 : decode cX7_worthByCurves 20 = .ok (.iconst 1, 1) := by decide +kernel
theorem dX7_worthByCurves_21 : decode cX7_worthByCurves 21 = .ok (.iload_n 2, 1) := by decide +kernel
theorem dX7_worthByCurves_22 : decode cX7_worthByCurves 22 = .ok (.iadd, 1) := by decide +kernel
theorem dX7_worthByCurves_23 : decode cX7_worthByCurves 23 = .ok (.iaload, 1) := by decide +kernel
theorem dX7_worthByCurves_24 : decode cX7_worthByCurves 24 = .ok (.istore_n 3, 1) := by decide +kernel
theorem dX7_worthByCurves_25 : decode cX7_worthByCurves 25 = .ok (.iload_n 3, 1) := by decide +kernel
theorem dX7_worthByCurves_26 : decode cX7_worthByCurves 26 = .ok (.iconst 3, 1) := by decide +kernel
theorem dX7_worthByCurves_27 : decode cX7_worthByCurves 27 = .ok (.if_icmp .ne 19, 3) := by decide +kernel
theorem dX7_worthByCurves_30 : decode cX7_worthByCurves 30 = .ok (.aload_n 0, 1) := by decide +kernel
theorem dX7_worthByCurves_31 : decode cX7_worthByCurves 31 = .ok (.getfield 15, 3) := by decide +kernel
theorem dX7_worthByCurves_34 : decode cX7_worthByCurves 34 = .ok (.iload_n 2, 1) := by decide +kernel
theorem dX7_worthByCurves_35 : decode cX7_worthByCurves 35 = .ok (.iaload, 1) := by decide +kernel
theorem dX7_worthByCurves_36 : decode cX7_worthByCurves 36 = .ok (.aload_n 0, 1) := by decide +kernel
theorem dX7_worthByCurves_37 : decode cX7_worthByCurves 37 = .ok (.getfield 18, 3) := by decide +kernel
theorem dX7_worthByCurves_40 : decode cX7_worthByCurves 40 = .ok (.iload_n 2, 1) := by decide +kernel
theorem dX7_worthByCurves_41 : decode cX7_worthByCurves 41 = .ok (.iaload, 1) := by decide +kernel
theorem dX7_worthByCurves_42 : decode cX7_worthByCurves 42 = .ok (.invokestatic 65, 3) := by decide +kernel
theorem dX7_worthByCurves_45 : decode cX7_worthByCurves 45 = .ok (.lreturn, 1) := by decide +kernel
theorem dX7_worthByCurves_46 : decode cX7_worthByCurves 46 = .ok (.iload_n 3, 1) := by decide +kernel
theorem dX7_worthByCurves_47 : decode cX7_worthByCurves 47 = .ok (.iconst 2, 1) := by decide +kernel
theorem dX7_worthByCurves_48 : decode cX7_worthByCurves 48 = .ok (.if_icmp .ne 20, 3) := by decide +kernel
theorem dX7_worthByCurves_51 : decode cX7_worthByCurves 51 = .ok (.aload_n 1, 1) := by decide +kernel
theorem dX7_worthByCurves_52 : decode cX7_worthByCurves 52 = .ok (.iconst 0, 1) := by decide +kernel
theorem dX7_worthByCurves_53 : decode cX7_worthByCurves 53 = .ok (.iaload, 1) := by decide +kernel
theorem dX7_worthByCurves_54 : decode cX7_worthByCurves 54 = .ok (.iconst 1, 1) := by decide +kernel
theorem dX7_worthByCurves_55 : decode cX7_worthByCurves 55 = .ok (.if_icmp .ne 13, 3) := by decide +kernel
theorem dX7_worthByCurves_58 : decode cX7_worthByCurves 58 = .ok (.aload_n 0, 1) := by decide +kernel
theorem dX7_worthByCurves_59 : decode cX7_worthByCurves 59 = .ok (.getfield 15, 3) := by decide +kernel
theorem dX7_worthByCurves_62 : decode cX7_worthByCurves 62 = .ok (.iload_n 2, 1) := by decide +kernel
theorem dX7_worthByCurves_63 : decode cX7_worthByCurves 63 = .ok (.iaload, 1) := by decide +kernel
theorem dX7_worthByCurves_64 : decode cX7_worthByCurves 64 = .ok (.invokestatic 69, 3) := by decide +kernel
theorem dX7_worthByCurves_67 : decode cX7_worthByCurves 67 = .ok (.lreturn, 1) := by decide +kernel
theorem dX7_worthByCurves_68 : decode cX7_worthByCurves 68 = .ok (.iinc 2 1, 3) := by decide +kernel
theorem dX7_worthByCurves_71 : decode cX7_worthByCurves 71 = .ok (.goto (-69), 3) := by decide +kernel
theorem dX7_worthByCurves_74 : decode cX7_worthByCurves 74 = .ok (.lconst 0, 1) := by decide +kernel
theorem dX7_worthByCurves_75 : decode cX7_worthByCurves 75 = .ok (.lreturn, 1) := by decide +kernel
set_option maxHeartbeats 4000000 in
set_option maxRecDepth 100000 in
theorem cn_X7_worthByCurves {l : Launch} {cA : Nat → ClassId} {ad : Nat → Nat} {D : va_G} {E : Nat → Nat} {A : Nat → Prop} {k0 : Nat} {k1 : Nat} {s0 sr : SS} {rr : Int64} (hf : f_X7_worthByCurves k0 k1 s0 = some (rr, sr)) : zCon Ox Nx cA ad D E l yX7_worthByCurves cX7_worthByCurves 4 (some .long) 1 A [.ref (ad k0), .ref (ad k1)] s0 (some (.long rr)) sr := by
  refine zstart (own := RX7) hOx (by decide) rfl (Nat.le_of_ble_eq_true rfl) ?_
  intro p e s m args below meth c X hP ls hl
  have hx := X.1
  have hb := X.2.1
  have hl : lv_has ls 4 [(0, .ref (ad k0)), (1, .ref (ad k1))] := hl
  have hS : va_S A s.heap s.heap [] := va_S.rf
  have hc_2 : ∀ (n2 : Nat) (k0 : Nat) (k1 : Nat) (x2 : Int32) (s1 : SS) (H : Heap) (locs : List Loc) (ls : Array Slot), lv_has ls 4 [(0, .ref (ad k0)), (1, .ref (ad k1)), (2, .int x2)] → va_P D ZCL (zw Ox Nx cA ad s1) H → va_S A s.heap H locs → f_X7_worthByCurves_c2 n2 k0 k1 x2 s1 = some (rr, sr) → W p l e (zrm 1) s m args below meth c H locs 0 0 (MQ below (zQc Ox Nx cA ad D A (some (.long rr)) sr) args s 0 0 A) (F0 m 2 ls []) := by
    intro n2
    induction n2 with
    | zero =>
      intro k0 k1 x2 s1 H locs ls hl hP hS hf
      rw [f_X7_worthByCurves_c2] at hf
      cases hf
    | succ n2 ih2 =>
      have hc_68 : ∀ (k0 : Nat) (k1 : Nat) (x2 : Int32) (s1 : SS) (H : Heap) (locs : List Loc) (ls : Array Slot), lv_has ls 4 [(0, .ref (ad k0)), (1, .ref (ad k1)), (2, .int x2)] → va_P D ZCL (zw Ox Nx cA ad s1) H → va_S A s.heap H locs → f_X7_worthByCurves_c68 (f_X7_worthByCurves_c2 n2) k0 k1 x2 s1 = some (rr, sr) → W p l e (zrm 1) s m args below meth c H locs 0 0 (MQ below (zQc Ox Nx cA ad D A (some (.long rr)) sr) args s 0 0 A) (F0 m 68 ls []) := by
        intro k0 k1 x2 s1 H locs ls hl hP hS hf
        rw [f_X7_worthByCurves_c68] at hf
        obtain ⟨g0, hf⟩ := zgd hf
        refine lv_iinc (v := (x2 + 1)) (lv' := [(2, .int (x2 + 1)), (0, .ref (ad k0)), (1, .ref (ad k1))]) hx hb dX7_worthByCurves_68 hl (k := 2) rfl rfl (by decide) rfl (fun ls hl => ?_)
        refine lv_goto (tgt := 2) hx hb dX7_worthByCurves_71 (by decide) ?_
        exact ih2 k0 k1 (x2 + 1) s1 _ _ _ (lv_sub hl [1, 2, 0] rfl) hP hS hf
      intro k0 k1 x2 s1 H locs ls hl hP hS hf
      rw [f_X7_worthByCurves_c2] at hf
      obtain ⟨g0, hf⟩ := zgd hf
      refine lv_iload_n hx hb dX7_worthByCurves_2 rfl (lv_at hl 2 rfl) ?_
      refine lv_aload_n hx hb dX7_worthByCurves_3 rfl (lv_at hl 0 rfl) ?_
      refine gf_X7_25 X hP (k := k0) g0 dX7_worthByCurves_4 ?_
      refine zicmp_ge (tgt := 74) hx hb dX7_worthByCurves_7 (by decide) hf (fun hf => ?_) (fun hf => ?_)
      · refine lv_lconst (v := 0) hx hb dX7_worthByCurves_74 (by decide) ?_
        exact zret_l X hP hS hf dX7_worthByCurves_75
      · refine lv_iload_n hx hb dX7_worthByCurves_10 rfl (lv_at hl 2 rfl) ?_
        refine lv_aload_n hx hb dX7_worthByCurves_11 rfl (lv_at hl 0 rfl) ?_
        refine gf_X7_18 X hP (k := k0) g0 dX7_worthByCurves_12 rfl ?_
        obtain ⟨g1, hf⟩ := zgd hf
        obtain ⟨n2, on2⟩ := zia_of g1
        refine zalen X hP (k := (zrf Ox k0 5)) (t := 0) on2 (by decide) rfl dX7_worthByCurves_15 ?_
        refine zicmp_ge (tgt := 74) hx hb dX7_worthByCurves_16 (by decide) hf (fun hf => ?_) (fun hf => ?_)
        · refine lv_lconst (v := 0) hx hb dX7_worthByCurves_74 (by decide) ?_
          exact zret_l X hP hS hf dX7_worthByCurves_75
        · refine lv_aload_n hx hb dX7_worthByCurves_19 rfl (lv_at hl 1 rfl) ?_
          refine lv_iconst (v := 1) hx hb dX7_worthByCurves_20 (by decide) ?_
          refine lv_iload_n hx hb dX7_worthByCurves_21 rfl (lv_at hl 2 rfl) ?_
          refine lv_iadd hx hb dX7_worthByCurves_22 ?_
          obtain ⟨g3, hf⟩ := zgd hf
          obtain ⟨n18, rn18, on18, in18⟩ := zok_of g3
          refine zald_i X hP (k := k1) on18 in18 dX7_worthByCurves_23 ?_
          refine lv_istore_n (lv' := [(3, .int (s1.1 k1 (((1 : Int32) + x2)).toNatClampNeg)), (0, .ref (ad k0)), (1, .ref (ad k1)), (2, .int x2)]) hx hb dX7_worthByCurves_24 rfl hl (by decide) rfl (fun ls hl => ?_)
          refine lv_iload_n hx hb dX7_worthByCurves_25 rfl (lv_at hl 0 rfl) ?_
          refine lv_iconst (v := 3) hx hb dX7_worthByCurves_26 (by decide) ?_
          refine zicmp_ne (tgt := 46) hx hb dX7_worthByCurves_27 (by decide) hf (fun hf => ?_) (fun hf => ?_)
          · refine lv_iload_n hx hb dX7_worthByCurves_46 rfl (lv_at hl 0 rfl) ?_
            refine lv_iconst (v := 2) hx hb dX7_worthByCurves_47 (by decide) ?_
            refine zicmp_ne (tgt := 68) hx hb dX7_worthByCurves_48 (by decide) hf (fun hf => ?_) (fun hf => ?_)
            · exact hc_68 k0 k1 x2 s1 _ _ _ (lv_sub hl [1, 2, 3] rfl) hP hS hf
            · refine lv_aload_n hx hb dX7_worthByCurves_51 rfl (lv_at hl 2 rfl) ?_
              refine lv_iconst (v := 0) hx hb dX7_worthByCurves_52 (by decide) ?_
              obtain ⟨g4, hf⟩ := zgd hf
              obtain ⟨n10, rn10, on10, in10⟩ := zok_of g4
              refine zald_i X hP (k := k1) on10 in10 dX7_worthByCurves_53 ?_
              refine lv_iconst (v := 1) hx hb dX7_worthByCurves_54 (by decide) ?_
              refine zicmp_ne (tgt := 68) hx hb dX7_worthByCurves_55 (by decide) hf (fun hf => ?_) (fun hf => ?_)
              · exact hc_68 k0 k1 x2 s1 _ _ _ (lv_sub hl [1, 2, 3] rfl) hP hS hf
              · refine lv_aload_n hx hb dX7_worthByCurves_58 rfl (lv_at hl 1 rfl) ?_
                refine gf_X7_15 X hP (k := k0) g0 dX7_worthByCurves_59 rfl ?_
                refine lv_iload_n hx hb dX7_worthByCurves_62 rfl (lv_at hl 3 rfl) ?_
                obtain ⟨g5, hf⟩ := zgd hf
                obtain ⟨n9, rn9, on9, in9⟩ := zok_of g5
                refine zald_i X hP (k := (zrf Ox k0 4)) on9 in9 dX7_worthByCurves_63 ?_
                obtain ⟨r6, s7, h8, hf⟩ := zbd_some hf
                refine zcallS X hP hS hl.1 (As := [.int (s1.1 (zrf Ox k0 4) (x2).toNatClampNeg)]) (rest := []) (cn_X7_worthTwice h8) cw_X7_worthTwice ml_X7_69 (by decide) rfl rfl (Nat.le_of_ble_eq_true rfl) dX7_worthByCurves_64 (fun H locs hP hS => ?_)
                exact zret_l X hP hS hf dX7_worthByCurves_67
          · refine lv_aload_n hx hb dX7_worthByCurves_30 rfl (lv_at hl 1 rfl) ?_
            refine gf_X7_15 X hP (k := k0) g0 dX7_worthByCurves_31 rfl ?_
            refine lv_iload_n hx hb dX7_worthByCurves_34 rfl (lv_at hl 3 rfl) ?_
            obtain ⟨g11, hf⟩ := zgd hf
            obtain ⟨n17, rn17, on17, in17⟩ := zok_of g11
            refine zald_i X hP (k := (zrf Ox k0 4)) on17 in17 dX7_worthByCurves_35 ?_
            refine lv_aload_n hx hb dX7_worthByCurves_36 rfl (lv_at hl 1 rfl) ?_
            refine gf_X7_18 X hP (k := k0) g0 dX7_worthByCurves_37 rfl ?_
            refine lv_iload_n hx hb dX7_worthByCurves_40 rfl (lv_at hl 3 rfl) ?_
            obtain ⟨g12, hf⟩ := zgd hf
            obtain ⟨n16, rn16, on16, in16⟩ := zok_of g12
            refine zald_i X hP (k := (zrf Ox k0 5)) on16 in16 dX7_worthByCurves_41 ?_
            obtain ⟨r13, s14, h15, hf⟩ := zbd_some hf
            refine zcallS X hP hS hl.1 (As := [.int (s1.1 (zrf Ox k0 4) (x2).toNatClampNeg), .int (s1.1 (zrf Ox k0 5) (x2).toNatClampNeg)]) (rest := []) (cn_X7_worthThrice h15) cw_X7_worthThrice ml_X7_65 (by decide) rfl rfl (Nat.le_of_ble_eq_true rfl) dX7_worthByCurves_42 (fun H locs hP hS => ?_)
            exact zret_l X hP hS hf dX7_worthByCurves_45
  rw [f_X7_worthByCurves] at hf
  obtain ⟨g0, hf⟩ := zgd hf
  refine lv_iconst (v := 0) hx hb dX7_worthByCurves_0 (by decide) ?_
  refine lv_istore_n (lv' := [(2, .int 0), (0, .ref (ad k0)), (1, .ref (ad k1))]) hx hb dX7_worthByCurves_1 rfl hl (by decide) rfl (fun ls hl => ?_)
  exact hc_2 ZF k0 k1 0 s0 _ _ _ (lv_sub hl [1, 2, 0] rfl) hP hS hf
theorem dX7_worthByConics_0 : decode cX7_worthByConics 0 = .ok (.iload_n 0, 1) := by decide +kernel
theorem dX7_worthByConics_1 : decode cX7_worthByConics 1 = .ok (.tableswitch 39 3 5 #[27, 31, 35], 27) := by decide +kernel
theorem dX7_worthByConics_28 : decode cX7_worthByConics 28 = .ok (.ldc2_w 72, 3) := by decide +kernel
theorem dX7_worthByConics_31 : decode cX7_worthByConics 31 = .ok (.lreturn, 1) := by decide +kernel
theorem dX7_worthByConics_32 : decode cX7_worthByConics 32 = .ok (.ldc2_w 74, 3) := by decide +kernel
theorem dX7_worthByConics_35 : decode cX7_worthByConics 35 = .ok (.lreturn, 1) := by decide +kernel
theorem dX7_worthByConics_36 : decode cX7_worthByConics 36 = .ok (.ldc2_w 76, 3) := by decide +kernel
theorem dX7_worthByConics_39 : decode cX7_worthByConics 39 = .ok (.lreturn, 1) := by decide +kernel
theorem dX7_worthByConics_40 : decode cX7_worthByConics 40 = .ok (.lconst 0, 1) := by decide +kernel
theorem dX7_worthByConics_41 : decode cX7_worthByConics 41 = .ok (.lreturn, 1) := by decide +kernel
set_option maxHeartbeats 4000000 in
set_option maxRecDepth 100000 in
theorem cn_X7_worthByConics {l : Launch} {cA : Nat → ClassId} {ad : Nat → Nat} {D : va_G} {E : Nat → Nat} {A : Nat → Prop} {x0 : Int32} {s0 sr : SS} {rr : Int64} (hf : f_X7_worthByConics x0 s0 = some (rr, sr)) : zCon Ox Nx cA ad D E l yX7_worthByConics cX7_worthByConics 1 (some .long) 0 A [.int x0] s0 (some (.long rr)) sr := by
  refine zstart (own := RX7) hOx (by decide) rfl (Nat.le_of_ble_eq_true rfl) ?_
  intro p e s m args below meth c X hP ls hl
  have hx := X.1
  have hb := X.2.1
  have hl : lv_has ls 1 [(0, .int x0)] := hl
  have hS : va_S A s.heap s.heap [] := va_S.rf
  rw [f_X7_worthByConics] at hf
  refine lv_iload_n hx hb dX7_worthByConics_0 rfl (lv_at hl 0 rfl) ?_
  by_cases e1 : x0 = 3
  · rw [if_pos e1] at hf
    refine lv_tableIn (tgt := 28) (off := 27) hx hb dX7_worthByConics_1 (by rw [e1]; decide) (by rw [e1]; decide) (by rw [e1]; decide +kernel) (by decide) ?_
    refine zldc2 X co_X7_72 dX7_worthByConics_28 ?_
    exact zret_l X hP hS hf dX7_worthByConics_31
  · rw [if_neg e1] at hf
    by_cases e2 : x0 = 4
    · rw [if_pos e2] at hf
      refine lv_tableIn (tgt := 32) (off := 31) hx hb dX7_worthByConics_1 (by rw [e2]; decide) (by rw [e2]; decide) (by rw [e2]; decide +kernel) (by decide) ?_
      refine zldc2 X co_X7_74 dX7_worthByConics_32 ?_
      exact zret_l X hP hS hf dX7_worthByConics_35
    · rw [if_neg e2] at hf
      by_cases e3 : x0 = 5
      · rw [if_pos e3] at hf
        refine lv_tableIn (tgt := 36) (off := 35) hx hb dX7_worthByConics_1 (by rw [e3]; decide) (by rw [e3]; decide) (by rw [e3]; decide +kernel) (by decide) ?_
        refine zldc2 X co_X7_76 dX7_worthByConics_36 ?_
        exact zret_l X hP hS hf dX7_worthByConics_39
      · rw [if_neg e3] at hf
        have ye1 := zne e1 (v := 3) (by decide)
        have ye2 := zne e2 (v := 4) (by decide)
        have ye3 := zne e3 (v := 5) (by decide)
        refine lv_tableOut (tgt := 40) hx hb dX7_worthByConics_1 (by omega) (by decide) ?_
        refine lv_lconst (v := 0) hx hb dX7_worthByConics_40 (by decide) ?_
        exact zret_l X hP hS hf dX7_worthByConics_41
theorem dX7_worthOf_0 : decode cX7_worthOf 0 = .ok (.iconst 1, 1) := by decide +kernel
theorem dX7_worthOf_1 : decode cX7_worthOf 1 = .ok (.istore_n 2, 1) := by decide +kernel
theorem dX7_worthOf_2 : decode cX7_worthOf 2 = .ok (.iconst 0, 1) := by decide +kernel
theorem dX7_worthOf_3 : decode cX7_worthOf 3 = .ok (.istore_n 3, 1) := by decide +kernel
theorem dX7_worthOf_4 : decode cX7_worthOf 4 = .ok (.iload_n 3, 1) := by decide +kernel
theorem dX7_worthOf_5 : decode cX7_worthOf 5 = .ok (.aload_n 0, 1) := by decide +kernel
theorem dX7_worthOf_6 : decode cX7_worthOf 6 = .ok (.getfield 28, 3) := by decide +kernel
theorem dX7_worthOf_9 : decode cX7_worthOf 9 = .ok (.if_icmp .ge 40, 3) := by decide +kernel
theorem dX7_worthOf_12 : decode cX7_worthOf 12 = .ok (.iload_n 3, 1) := by decide +kernel
theorem dX7_worthOf_13 : decode cX7_worthOf 13 = .ok (.aload_n 0, 1) := by decide +kernel
theorem dX7_worthOf_14 : decode cX7_worthOf 14 = .ok (.getfield 9, 3) := by decide +kernel
theorem dX7_worthOf_17 : decode cX7_worthOf 17 = .ok (.arraylength, 1) := by decide +kernel
theorem dX7_worthOf_18 : decode cX7_worthOf 18 = .ok (.if_icmp .ge 31, 3) := by decide +kernel
theorem dX7_worthOf_21 : decode cX7_worthOf 21 = .ok (.iload_n 2, 1) := by decide +kernel
theorem dX7_worthOf_22 : decode cX7_worthOf 22 = .ok (.ifCond .eq 19, 3) := by decide +kernel
theorem dX7_worthOf_25 : decode cX7_worthOf 25 = .ok (.aload_n 1, 1) := by decide +kernel
theorem dX7_worthOf_26 : decode cX7_worthOf 26 = .ok (.iload_n 3, 1) := by decide +kernel
theorem dX7_worthOf_27 : decode cX7_worthOf 27 = .ok (.iaload, 1) := by decide +kernel
theorem dX7_worthOf_28 : decode cX7_worthOf 28 = .ok (.aload_n 0, 1) := by decide +kernel
theorem dX7_worthOf_29 : decode cX7_worthOf 29 = .ok (.getfield 9, 3) := by decide +kernel
theorem dX7_worthOf_32 : decode cX7_worthOf 32 = .ok (.iload_n 3, 1) := by decide +kernel
theorem dX7_worthOf_33 : decode cX7_worthOf 33 = .ok (.iaload, 1) := by decide +kernel
theorem dX7_worthOf_34 : decode cX7_worthOf 34 = .ok (.if_icmp .ne 7, 3) := by decide +kernel
theorem dX7_worthOf_37 : decode cX7_worthOf 37 = .ok (.iconst 1, 1) := by decide +kernel
theorem dX7_worthOf_38 : decode cX7_worthOf 38 = .ok (.goto 4, 3) := by decide +kernel
theorem dX7_worthOf_41 : decode cX7_worthOf 41 = .ok (.iconst 0, 1) := by decide +kernel
theorem dX7_worthOf_42 : decode cX7_worthOf 42 = .ok (.istore_n 2, 1) := by decide +kernel
theorem dX7_worthOf_43 : decode cX7_worthOf 43 = .ok (.iinc 3 1, 3) := by decide +kernel
theorem dX7_worthOf_46 : decode cX7_worthOf 46 = .ok (.goto (-42), 3) := by decide +kernel
theorem dX7_worthOf_49 : decode cX7_worthOf 49 = .ok (.iload_n 2, 1) := by decide +kernel
theorem dX7_worthOf_50 : decode cX7_worthOf 50 = .ok (.ifCond .eq 5, 3) := by decide +kernel
theorem dX7_worthOf_53 : decode cX7_worthOf 53 = .ok (.lconst 1, 1) := by decide +kernel
theorem dX7_worthOf_54 : decode cX7_worthOf 54 = .ok (.lreturn, 1) := by decide +kernel
theorem dX7_worthOf_55 : decode cX7_worthOf 55 = .ok (.aload_n 0, 1) := by decide +kernel
theorem dX7_worthOf_56 : decode cX7_worthOf 56 = .ok (.getfield 21, 3) := by decide +kernel
theorem dX7_worthOf_59 : decode cX7_worthOf 59 = .ok (.lookupswitch 37 #[(0, 25), (1, 31)], 25) := by decide +kernel
theorem dX7_worthOf_84 : decode cX7_worthOf 84 = .ok (.aload_n 0, 1) := by decide +kernel
theorem dX7_worthOf_85 : decode cX7_worthOf 85 = .ok (.aload_n 1, 1) := by decide +kernel
theorem dX7_worthOf_86 : decode cX7_worthOf 86 = .ok (.invokevirtual 52, 3) := by decide +kernel
theorem dX7_worthOf_89 : decode cX7_worthOf 89 = .ok (.lreturn, 1) := by decide +kernel
theorem dX7_worthOf_90 : decode cX7_worthOf 90 = .ok (.aload_n 0, 1) := by decide +kernel
theorem dX7_worthOf_91 : decode cX7_worthOf 91 = .ok (.aload_n 1, 1) := by decide +kernel
theorem dX7_worthOf_92 : decode cX7_worthOf 92 = .ok (.invokevirtual 56, 3) := by decide +kernel
theorem dX7_worthOf_95 : decode cX7_worthOf 95 = .ok (.lreturn, 1) := by decide +kernel
theorem dX7_worthOf_96 : decode cX7_worthOf 96 = .ok (.aload_n 1, 1) := by decide +kernel
theorem dX7_worthOf_97 : decode cX7_worthOf 97 = .ok (.iconst 1, 1) := by decide +kernel
theorem dX7_worthOf_98 : decode cX7_worthOf 98 = .ok (.iaload, 1) := by decide +kernel
theorem dX7_worthOf_99 : decode cX7_worthOf 99 = .ok (.invokestatic 59, 3) := by decide +kernel
theorem dX7_worthOf_102 : decode cX7_worthOf 102 = .ok (.lreturn, 1) := by decide +kernel
set_option maxHeartbeats 4000000 in
set_option maxRecDepth 100000 in
theorem cn_X7_worthOf {l : Launch} {cA : Nat → ClassId} {ad : Nat → Nat} {D : va_G} {E : Nat → Nat} {A : Nat → Prop} {k0 : Nat} {k1 : Nat} {s0 sr : SS} {rr : Int64} (hf : f_X7_worthOf k0 k1 s0 = some (rr, sr)) : zCon Ox Nx cA ad D E l yX7_worthOf cX7_worthOf 4 (some .long) 2 A [.ref (ad k0), .ref (ad k1)] s0 (some (.long rr)) sr := by
  refine zstart (own := RX7) hOx (by decide) rfl (Nat.le_of_ble_eq_true rfl) ?_
  intro p e s m args below meth c X hP ls hl
  have hx := X.1
  have hb := X.2.1
  have hl : lv_has ls 4 [(0, .ref (ad k0)), (1, .ref (ad k1))] := hl
  have hS : va_S A s.heap s.heap [] := va_S.rf
  have hc_4 : ∀ (n4 : Nat) (k0 : Nat) (k1 : Nat) (x2 : Int32) (x3 : Int32) (s1 : SS) (H : Heap) (locs : List Loc) (ls : Array Slot), lv_has ls 4 [(0, .ref (ad k0)), (1, .ref (ad k1)), (2, .int x2), (3, .int x3)] → va_P D ZCL (zw Ox Nx cA ad s1) H → va_S A s.heap H locs → f_X7_worthOf_c4 n4 k0 k1 x2 x3 s1 = some (rr, sr) → W p l e (zrm 2) s m args below meth c H locs 0 0 (MQ below (zQc Ox Nx cA ad D A (some (.long rr)) sr) args s 0 0 A) (F0 m 4 ls []) := by
    intro n4
    induction n4 with
    | zero =>
      intro k0 k1 x2 x3 s1 H locs ls hl hP hS hf
      rw [f_X7_worthOf_c4] at hf
      cases hf
    | succ n4 ih4 =>
      have hc_49 : ∀ (k0 : Nat) (k1 : Nat) (x2 : Int32) (s1 : SS) (H : Heap) (locs : List Loc) (ls : Array Slot), lv_has ls 4 [(0, .ref (ad k0)), (1, .ref (ad k1)), (2, .int x2)] → va_P D ZCL (zw Ox Nx cA ad s1) H → va_S A s.heap H locs → f_X7_worthOf_c49 k0 k1 x2 s1 = some (rr, sr) → W p l e (zrm 2) s m args below meth c H locs 0 0 (MQ below (zQc Ox Nx cA ad D A (some (.long rr)) sr) args s 0 0 A) (F0 m 49 ls []) := by
        intro k0 k1 x2 s1 H locs ls hl hP hS hf
        rw [f_X7_worthOf_c49] at hf
        obtain ⟨g0, hf⟩ := zgd hf
        refine lv_iload_n hx hb dX7_worthOf_49 rfl (lv_at hl 2 rfl) ?_
        refine zif_eq (tgt := 55) hx hb dX7_worthOf_50 (by decide) hf (fun hf => ?_) (fun hf => ?_)
        · refine lv_aload_n hx hb dX7_worthOf_55 rfl (lv_at hl 0 rfl) ?_
          refine gf_X7_21 X hP (k := k0) g0 dX7_worthOf_56 ?_
          by_cases e1 : (s1.1 k0 0) = 0
          · rw [if_pos e1] at hf
            refine lv_lookup (tgt := 84) (off := 25) hx hb dX7_worthOf_59 (by decide) (by first | (rw [e1]; done) | (rw [e1]; decide +kernel)) (by decide) ?_
            refine lv_aload_n hx hb dX7_worthOf_84 rfl (lv_at hl 0 rfl) ?_
            refine lv_aload_n hx hb dX7_worthOf_85 rfl (lv_at hl 1 rfl) ?_
            obtain ⟨r2, s3, h4, hf⟩ := zbd_some hf
            refine zcallV X hP hS hl.1 (k := k0) (As := [.ref (ad k1)]) (rest := []) (cn_X7_worthByPoints h4) cw_X7_worthByPoints zp_7 g0 (by decide) rfl ml_X7_52 (by decide) rfl rfl (Nat.le_of_ble_eq_true rfl) dX7_worthOf_86 (fun H locs hP hS => ?_)
            exact zret_l X hP hS hf dX7_worthOf_89
          · rw [if_neg e1] at hf
            by_cases e5 : (s1.1 k0 0) = 1
            · rw [if_pos e5] at hf
              refine lv_lookup (tgt := 90) (off := 31) hx hb dX7_worthOf_59 (by decide) (by first | (rw [e5]; done) | (rw [e5]; decide +kernel)) (by decide) ?_
              refine lv_aload_n hx hb dX7_worthOf_90 rfl (lv_at hl 0 rfl) ?_
              refine lv_aload_n hx hb dX7_worthOf_91 rfl (lv_at hl 1 rfl) ?_
              obtain ⟨r6, s7, h8, hf⟩ := zbd_some hf
              refine zcallV X hP hS hl.1 (k := k0) (As := [.ref (ad k1)]) (rest := []) (cn_X7_worthByCurves h8) cw_X7_worthByCurves zp_7 g0 (by decide) rfl ml_X7_56 (by decide) rfl rfl (Nat.le_of_ble_eq_true rfl) dX7_worthOf_92 (fun H locs hP hS => ?_)
              exact zret_l X hP hS hf dX7_worthOf_95
            · rw [if_neg e5] at hf
              have ye1 := zne e1 (v := 0) (by decide)
              have ye5 := zne e5 (v := 1) (by decide)
              refine lv_lookup (tgt := 96) hx hb dX7_worthOf_59 (by decide) (off := 37) (by simp [Op.lookupswitch.offset, ye1, Ne.symm ye1, ye5, Ne.symm ye5]) (by decide) ?_
              refine lv_aload_n hx hb dX7_worthOf_96 rfl (lv_at hl 1 rfl) ?_
              refine lv_iconst (v := 1) hx hb dX7_worthOf_97 (by decide) ?_
              obtain ⟨g9, hf⟩ := zgd hf
              obtain ⟨n13, rn13, on13, in13⟩ := zok_of g9
              refine zald_i X hP (k := k1) on13 in13 dX7_worthOf_98 ?_
              obtain ⟨r10, s11, h12, hf⟩ := zbd_some hf
              refine zcallS X hP hS hl.1 (As := [.int (s1.1 k1 ((1 : Int32)).toNatClampNeg)]) (rest := []) (cn_X7_worthByConics h12) cw_X7_worthByConics ml_X7_59 (by decide) rfl rfl (Nat.le_of_ble_eq_true rfl) dX7_worthOf_99 (fun H locs hP hS => ?_)
              exact zret_l X hP hS hf dX7_worthOf_102
        · refine lv_lconst (v := 1) hx hb dX7_worthOf_53 (by decide) ?_
          exact zret_l X hP hS hf dX7_worthOf_54
      have hc_42 : ∀ (k0 : Nat) (k1 : Nat) (x3 : Int32) (t0 : Int32) (s1 : SS) (H : Heap) (locs : List Loc) (ls : Array Slot), lv_has ls 4 [(0, .ref (ad k0)), (1, .ref (ad k1)), (3, .int x3)] → va_P D ZCL (zw Ox Nx cA ad s1) H → va_S A s.heap H locs → f_X7_worthOf_c42 (f_X7_worthOf_c4 n4) k0 k1 x3 t0 s1 = some (rr, sr) → W p l e (zrm 2) s m args below meth c H locs 0 0 (MQ below (zQc Ox Nx cA ad D A (some (.long rr)) sr) args s 0 0 A) (F0 m 42 ls [.int t0]) := by
        intro k0 k1 x3 t0 s1 H locs ls hl hP hS hf
        rw [f_X7_worthOf_c42] at hf
        obtain ⟨g0, hf⟩ := zgd hf
        refine lv_istore_n (lv' := [(2, .int t0), (0, .ref (ad k0)), (1, .ref (ad k1)), (3, .int x3)]) hx hb dX7_worthOf_42 rfl hl (by decide) rfl (fun ls hl => ?_)
        refine lv_iinc (v := (x3 + 1)) (lv' := [(3, .int (x3 + 1)), (2, .int t0), (0, .ref (ad k0)), (1, .ref (ad k1))]) hx hb dX7_worthOf_43 hl (k := 3) rfl rfl (by decide) rfl (fun ls hl => ?_)
        refine lv_goto (tgt := 4) hx hb dX7_worthOf_46 (by decide) ?_
        exact ih4 k0 k1 t0 (x3 + 1) s1 _ _ _ (lv_sub hl [2, 3, 1, 0] rfl) hP hS hf
      have hc_41 : ∀ (k0 : Nat) (k1 : Nat) (x3 : Int32) (s1 : SS) (H : Heap) (locs : List Loc) (ls : Array Slot), lv_has ls 4 [(0, .ref (ad k0)), (1, .ref (ad k1)), (3, .int x3)] → va_P D ZCL (zw Ox Nx cA ad s1) H → va_S A s.heap H locs → f_X7_worthOf_c41 (f_X7_worthOf_c4 n4) k0 k1 x3 s1 = some (rr, sr) → W p l e (zrm 2) s m args below meth c H locs 0 0 (MQ below (zQc Ox Nx cA ad D A (some (.long rr)) sr) args s 0 0 A) (F0 m 41 ls []) := by
        intro k0 k1 x3 s1 H locs ls hl hP hS hf
        rw [f_X7_worthOf_c41] at hf
        obtain ⟨g0, hf⟩ := zgd hf
        refine lv_iconst (v := 0) hx hb dX7_worthOf_41 (by decide) ?_
        exact hc_42 k0 k1 x3 0 s1 _ _ _ (lv_sub hl [0, 1, 2] rfl) hP hS hf
      intro k0 k1 x2 x3 s1 H locs ls hl hP hS hf
      rw [f_X7_worthOf_c4] at hf
      obtain ⟨g0, hf⟩ := zgd hf
      refine lv_iload_n hx hb dX7_worthOf_4 rfl (lv_at hl 3 rfl) ?_
      refine lv_aload_n hx hb dX7_worthOf_5 rfl (lv_at hl 0 rfl) ?_
      refine gf_X7_28 X hP (k := k0) g0 dX7_worthOf_6 ?_
      refine zicmp_ge (tgt := 49) hx hb dX7_worthOf_9 (by decide) hf (fun hf => ?_) (fun hf => ?_)
      · exact hc_49 k0 k1 x2 s1 _ _ _ (lv_sub hl [0, 1, 2] rfl) hP hS hf
      · refine lv_iload_n hx hb dX7_worthOf_12 rfl (lv_at hl 3 rfl) ?_
        refine lv_aload_n hx hb dX7_worthOf_13 rfl (lv_at hl 0 rfl) ?_
        refine gf_X7_9 X hP (k := k0) g0 dX7_worthOf_14 rfl ?_
        obtain ⟨g14, hf⟩ := zgd hf
        obtain ⟨n15, on15⟩ := zia_of g14
        refine zalen X hP (k := (zrf Ox k0 3)) (t := 0) on15 (by decide) rfl dX7_worthOf_17 ?_
        refine zicmp_ge (tgt := 49) hx hb dX7_worthOf_18 (by decide) hf (fun hf => ?_) (fun hf => ?_)
        · exact hc_49 k0 k1 x2 s1 _ _ _ (lv_sub hl [0, 1, 2] rfl) hP hS hf
        · refine lv_iload_n hx hb dX7_worthOf_21 rfl (lv_at hl 2 rfl) ?_
          refine zif_eq (tgt := 41) hx hb dX7_worthOf_22 (by decide) hf (fun hf => ?_) (fun hf => ?_)
          · exact hc_41 k0 k1 x3 s1 _ _ _ (lv_sub hl [0, 1, 3] rfl) hP hS hf
          · refine lv_aload_n hx hb dX7_worthOf_25 rfl (lv_at hl 1 rfl) ?_
            refine lv_iload_n hx hb dX7_worthOf_26 rfl (lv_at hl 3 rfl) ?_
            obtain ⟨g16, hf⟩ := zgd hf
            obtain ⟨n19, rn19, on19, in19⟩ := zok_of g16
            refine zald_i X hP (k := k1) on19 in19 dX7_worthOf_27 ?_
            refine lv_aload_n hx hb dX7_worthOf_28 rfl (lv_at hl 0 rfl) ?_
            refine gf_X7_9 X hP (k := k0) g0 dX7_worthOf_29 rfl ?_
            refine lv_iload_n hx hb dX7_worthOf_32 rfl (lv_at hl 3 rfl) ?_
            obtain ⟨g17, hf⟩ := zgd hf
            obtain ⟨n18, rn18, on18, in18⟩ := zok_of g17
            refine zald_i X hP (k := (zrf Ox k0 3)) on18 in18 dX7_worthOf_33 ?_
            refine zicmp_ne (tgt := 41) hx hb dX7_worthOf_34 (by decide) hf (fun hf => ?_) (fun hf => ?_)
            · exact hc_41 k0 k1 x3 s1 _ _ _ (lv_sub hl [0, 1, 3] rfl) hP hS hf
            · refine lv_iconst (v := 1) hx hb dX7_worthOf_37 (by decide) ?_
              refine lv_goto (tgt := 42) hx hb dX7_worthOf_38 (by decide) ?_
              exact hc_42 k0 k1 x3 1 s1 _ _ _ (lv_sub hl [0, 1, 3] rfl) hP hS hf
  rw [f_X7_worthOf] at hf
  obtain ⟨g0, hf⟩ := zgd hf
  refine lv_iconst (v := 1) hx hb dX7_worthOf_0 (by decide) ?_
  refine lv_istore_n (lv' := [(2, .int 1), (0, .ref (ad k0)), (1, .ref (ad k1))]) hx hb dX7_worthOf_1 rfl hl (by decide) rfl (fun ls hl => ?_)
  refine lv_iconst (v := 0) hx hb dX7_worthOf_2 (by decide) ?_
  refine lv_istore_n (lv' := [(3, .int 0), (2, .int 1), (0, .ref (ad k0)), (1, .ref (ad k1))]) hx hb dX7_worthOf_3 rfl hl (by decide) rfl (fun ls hl => ?_)
  exact hc_4 ZF k0 k1 1 0 s0 _ _ _ (lv_sub hl [2, 3, 1, 0] rfl) hP hS hf
theorem dX10_find_0 : decode cX10_find 0 = .ok (.iload_n 1, 1) := by decide +kernel
theorem dX10_find_1 : decode cX10_find 1 = .ok (.ifCond .ge 5, 3) := by decide +kernel
theorem dX10_find_4 : decode cX10_find 4 = .ok (.iconst (-1), 1) := by decide +kernel
theorem dX10_find_5 : decode cX10_find 5 = .ok (.ireturn, 1) := by decide +kernel
theorem dX10_find_6 : decode cX10_find 6 = .ok (.iload_n 1, 1) := by decide +kernel
theorem dX10_find_7 : decode cX10_find 7 = .ok (.istore_n 2, 1) := by decide +kernel
theorem dX10_find_8 : decode cX10_find 8 = .ok (.aload_n 0, 1) := by decide +kernel
theorem dX10_find_9 : decode cX10_find 9 = .ok (.getfield 39, 3) := by decide +kernel
theorem dX10_find_12 : decode cX10_find 12 = .ok (.istore_n 3, 1) := by decide +kernel
theorem dX10_find_13 : decode cX10_find 13 = .ok (.iconst 0, 1) := by decide +kernel
theorem dX10_find_14 : decode cX10_find 14 = .ok (.istore 4, 2) := by decide +kernel
theorem dX10_find_16 : decode cX10_find 16 = .ok (.iconst 0, 1) := by decide +kernel
theorem dX10_find_17 : decode cX10_find 17 = .ok (.istore 5, 2) := by decide +kernel
theorem dX10_find_19 : decode cX10_find 19 = .ok (.iload 5, 2) := by decide +kernel
theorem dX10_find_21 : decode cX10_find 21 = .ok (.aload_n 0, 1) := by decide +kernel
theorem dX10_find_22 : decode cX10_find 22 = .ok (.getfield 46, 3) := by decide +kernel
theorem dX10_find_25 : decode cX10_find 25 = .ok (.if_icmp .ge 48, 3) := by decide +kernel
theorem dX10_find_28 : decode cX10_find 28 = .ok (.iload_n 3, 1) := by decide +kernel
theorem dX10_find_29 : decode cX10_find 29 = .ok (.iload_n 2, 1) := by decide +kernel
theorem dX10_find_30 : decode cX10_find 30 = .ok (.bipush 10, 2) := by decide +kernel
theorem dX10_find_32 : decode cX10_find 32 = .ok (.irem, 1) := by decide +kernel
theorem dX10_find_33 : decode cX10_find 33 = .ok (.isub, 1) := by decide +kernel
theorem dX10_find_34 : decode cX10_find 34 = .ok (.istore_n 3, 1) := by decide +kernel
theorem dX10_find_35 : decode cX10_find 35 = .ok (.iload_n 2, 1) := by decide +kernel
theorem dX10_find_36 : decode cX10_find 36 = .ok (.bipush 10, 2) := by decide +kernel
theorem dX10_find_38 : decode cX10_find 38 = .ok (.idiv, 1) := by decide +kernel
theorem dX10_find_39 : decode cX10_find 39 = .ok (.istore_n 2, 1) := by decide +kernel
theorem dX10_find_40 : decode cX10_find 40 = .ok (.iload_n 3, 1) := by decide +kernel
theorem dX10_find_41 : decode cX10_find 41 = .ok (.ifCond .ge 5, 3) := by decide +kernel
theorem dX10_find_44 : decode cX10_find 44 = .ok (.iconst (-1), 1) := by decide +kernel
theorem dX10_find_45 : decode cX10_find 45 = .ok (.ireturn, 1) := by decide +kernel
theorem dX10_find_46 : decode cX10_find 46 = .ok (.iload 4, 2) := by decide +kernel
theorem dX10_find_48 : decode cX10_find 48 = .ok (.getstatic 81, 3) := by decide +kernel
theorem dX10_find_51 : decode cX10_find 51 = .ok (.bipush 6, 2) := by decide +kernel
theorem dX10_find_53 : decode cX10_find 53 = .ok (.aload_n 0, 1) := by decide +kernel
theorem dX10_find_54 : decode cX10_find 54 = .ok (.getfield 46, 3) := by decide +kernel
theorem dX10_find_57 : decode cX10_find 57 = .ok (.iload 5, 2) := by decide +kernel
theorem dX10_find_59 : decode cX10_find 59 = .ok (.isub, 1) := by decide +kernel
theorem dX10_find_60 : decode cX10_find 60 = .ok (.imul, 1) := by decide +kernel
theorem dX10_find_61 : decode cX10_find 61 = .ok (.iload_n 3, 1) := by decide +kernel
theorem dX10_find_62 : decode cX10_find 62 = .ok (.iadd, 1) := by decide +kernel
theorem dX10_find_63 : decode cX10_find 63 = .ok (.iaload, 1) := by decide +kernel
theorem dX10_find_64 : decode cX10_find 64 = .ok (.iadd, 1) := by decide +kernel
theorem dX10_find_65 : decode cX10_find 65 = .ok (.istore 4, 2) := by decide +kernel
theorem dX10_find_67 : decode cX10_find 67 = .ok (.iinc 5 1, 3) := by decide +kernel
theorem dX10_find_70 : decode cX10_find 70 = .ok (.goto (-51), 3) := by decide +kernel
theorem dX10_find_73 : decode cX10_find 73 = .ok (.iload_n 2, 1) := by decide +kernel
theorem dX10_find_74 : decode cX10_find 74 = .ok (.ifCond .ne 17, 3) := by decide +kernel
theorem dX10_find_77 : decode cX10_find 77 = .ok (.iload 4, 2) := by decide +kernel
theorem dX10_find_79 : decode cX10_find 79 = .ok (.aload_n 0, 1) := by decide +kernel
theorem dX10_find_80 : decode cX10_find 80 = .ok (.getfield 49, 3) := by decide +kernel
theorem dX10_find_83 : decode cX10_find 83 = .ok (.if_icmp .ge 8, 3) := by decide +kernel
theorem dX10_find_86 : decode cX10_find 86 = .ok (.iload 4, 2) := by decide +kernel
theorem dX10_find_88 : decode cX10_find 88 = .ok (.goto 4, 3) := by decide +kernel
theorem dX10_find_91 : decode cX10_find 91 = .ok (.iconst (-1), 1) := by decide +kernel
theorem dX10_find_92 : decode cX10_find 92 = .ok (.ireturn, 1) := by decide +kernel
set_option maxHeartbeats 4000000 in
set_option maxRecDepth 100000 in
theorem cn_X10_find {l : Launch} {cA : Nat → ClassId} {ad : Nat → Nat} {D : va_G} {E : Nat → Nat} {A : Nat → Prop} {x1 : Int32} {s0 sr : SS} {rr : Int32} (hf : f_X10_find x1 s0 = some (rr, sr)) : zCon Ox Nx cA ad D E l yX10_find cX10_find 6 (some .int) 0 A [.ref (ad 6), .int x1] s0 (some (.int rr)) sr := by
  refine zstart (own := RX10) hOx (by decide) rfl (Nat.le_of_ble_eq_true rfl) ?_
  intro p e s m args below meth c X hP ls hl
  have hx := X.1
  have hb := X.2.1
  have hl : lv_has ls 6 [(0, .ref (ad 6)), (1, .int x1)] := hl
  have hS : va_S A s.heap s.heap [] := va_S.rf
  have hc_19 : ∀ (n19 : Nat) (x2 : Int32) (x3 : Int32) (x4 : Int32) (x5 : Int32) (s1 : SS) (H : Heap) (locs : List Loc) (ls : Array Slot), lv_has ls 6 [(0, .ref (ad 6)), (2, .int x2), (3, .int x3), (4, .int x4), (5, .int x5)] → va_P D ZCL (zw Ox Nx cA ad s1) H → va_S A s.heap H locs → f_X10_find_c19 n19 x2 x3 x4 x5 s1 = some (rr, sr) → W p l e (zrm 0) s m args below meth c H locs 0 0 (MQ below (zQc Ox Nx cA ad D A (some (.int rr)) sr) args s 0 0 A) (F0 m 19 ls []) := by
    intro n19
    induction n19 with
    | zero =>
      intro x2 x3 x4 x5 s1 H locs ls hl hP hS hf
      rw [f_X10_find_c19] at hf
      cases hf
    | succ n19 ih19 =>
      intro x2 x3 x4 x5 s1 H locs ls hl hP hS hf
      rw [f_X10_find_c19] at hf
      refine lv_iload hx hb dX10_find_19 (lv_at hl 4 rfl) ?_
      refine lv_aload_n hx hb dX10_find_21 rfl (lv_at hl 0 rfl) ?_
      refine gf_X10_46 X hP (k := 6) rfl dX10_find_22 ?_
      refine zicmp_ge (tgt := 73) hx hb dX10_find_25 (by decide) hf (fun hf => ?_) (fun hf => ?_)
      · refine lv_iload_n hx hb dX10_find_73 rfl (lv_at hl 1 rfl) ?_
        refine zif_ne (tgt := 91) hx hb dX10_find_74 (by decide) hf (fun hf => ?_) (fun hf => ?_)
        · refine lv_iconst (v := (-1)) hx hb dX10_find_91 (by decide) ?_
          exact zret_i X hP hS hf rfl dX10_find_92
        · refine lv_iload hx hb dX10_find_77 (lv_at hl 3 rfl) ?_
          refine lv_aload_n hx hb dX10_find_79 rfl (lv_at hl 0 rfl) ?_
          refine gf_X10_49 X hP (k := 6) rfl dX10_find_80 ?_
          refine zicmp_ge (tgt := 91) hx hb dX10_find_83 (by decide) hf (fun hf => ?_) (fun hf => ?_)
          · refine lv_iconst (v := (-1)) hx hb dX10_find_91 (by decide) ?_
            exact zret_i X hP hS hf rfl dX10_find_92
          · refine lv_iload hx hb dX10_find_86 (lv_at hl 3 rfl) ?_
            refine lv_goto (tgt := 92) hx hb dX10_find_88 (by decide) ?_
            exact zret_i X hP hS hf rfl dX10_find_92
      · refine lv_iload_n hx hb dX10_find_28 rfl (lv_at hl 2 rfl) ?_
        refine lv_iload_n hx hb dX10_find_29 rfl (lv_at hl 1 rfl) ?_
        refine lv_bipush (v := 10) hx hb dX10_find_30 (by decide) ?_
        refine lv_irem hx hb dX10_find_32 (by decide) ?_
        refine lv_isub hx hb dX10_find_33 ?_
        refine lv_istore_n (lv' := [(3, .int (x3 - (x2 - x2 / (10 : Int32) * (10 : Int32)))), (0, .ref (ad 6)), (2, .int x2), (4, .int x4), (5, .int x5)]) hx hb dX10_find_34 rfl hl (by decide) rfl (fun ls hl => ?_)
        refine lv_iload_n hx hb dX10_find_35 rfl (lv_at hl 2 rfl) ?_
        refine lv_bipush (v := 10) hx hb dX10_find_36 (by decide) ?_
        refine lv_idiv hx hb dX10_find_38 (by decide) ?_
        refine lv_istore_n (lv' := [(2, .int (x2 / (10 : Int32))), (3, .int (x3 - (x2 - x2 / (10 : Int32) * (10 : Int32)))), (0, .ref (ad 6)), (4, .int x4), (5, .int x5)]) hx hb dX10_find_39 rfl hl (by decide) rfl (fun ls hl => ?_)
        refine lv_iload_n hx hb dX10_find_40 rfl (lv_at hl 1 rfl) ?_
        refine zif_ge (tgt := 46) hx hb dX10_find_41 (by decide) hf (fun hf => ?_) (fun hf => ?_)
        · refine lv_iload hx hb dX10_find_46 (lv_at hl 3 rfl) ?_
          refine zgsN X hS (i := 1) rfl nf_X10_81 dX10_find_48 ?_
          refine lv_bipush (v := 6) hx hb dX10_find_51 (by decide) ?_
          refine lv_aload_n hx hb dX10_find_53 rfl (lv_at hl 2 rfl) ?_
          refine gf_X10_46 X hP (k := 6) rfl dX10_find_54 ?_
          refine lv_iload hx hb dX10_find_57 (lv_at hl 4 rfl) ?_
          refine lv_isub hx hb dX10_find_59 ?_
          refine lv_imul hx hb dX10_find_60 ?_
          refine lv_iload_n hx hb dX10_find_61 rfl (lv_at hl 1 rfl) ?_
          refine lv_iadd hx hb dX10_find_62 ?_
          obtain ⟨g1, hf⟩ := zgd hf
          refine zst X hS (k := 1) (n := 42) rfl rfl g1 dX10_find_63 ?_
          refine lv_iadd hx hb dX10_find_64 ?_
          refine lv_istore (lv' := [(4, .int (x4 + (ztab 1 ((((6 : Int32) * ((s1.1 6 1) - x5)) + (x3 - (x2 - x2 / (10 : Int32) * (10 : Int32)))))))), (2, .int (x2 / (10 : Int32))), (3, .int (x3 - (x2 - x2 / (10 : Int32) * (10 : Int32)))), (0, .ref (ad 6)), (5, .int x5)]) hx hb dX10_find_65 hl (by decide) rfl (fun ls hl => ?_)
          refine lv_iinc (v := (x5 + 1)) (lv' := [(5, .int (x5 + 1)), (4, .int (x4 + (ztab 1 ((((6 : Int32) * ((s1.1 6 1) - x5)) + (x3 - (x2 - x2 / (10 : Int32) * (10 : Int32)))))))), (2, .int (x2 / (10 : Int32))), (3, .int (x3 - (x2 - x2 / (10 : Int32) * (10 : Int32)))), (0, .ref (ad 6))]) hx hb dX10_find_67 hl (k := 4) rfl rfl (by decide) rfl (fun ls hl => ?_)
          refine lv_goto (tgt := 19) hx hb dX10_find_70 (by decide) ?_
          exact ih19 (x2 / (10 : Int32)) (x3 - (x2 - x2 / (10 : Int32) * (10 : Int32))) (x4 + (ztab 1 ((((6 : Int32) * ((s1.1 6 1) - x5)) + (x3 - (x2 - x2 / (10 : Int32) * (10 : Int32))))))) (x5 + 1) s1 _ _ _ (lv_sub hl [4, 2, 3, 1, 0] rfl) hP hS hf
        · refine lv_iconst (v := (-1)) hx hb dX10_find_44 (by decide) ?_
          exact zret_i X hP hS hf rfl dX10_find_45
  rw [f_X10_find] at hf
  refine lv_iload_n hx hb dX10_find_0 rfl (lv_at hl 1 rfl) ?_
  refine zif_ge (tgt := 6) hx hb dX10_find_1 (by decide) hf (fun hf => ?_) (fun hf => ?_)
  · refine lv_iload_n hx hb dX10_find_6 rfl (lv_at hl 1 rfl) ?_
    refine lv_istore_n (lv' := [(2, .int x1), (0, .ref (ad 6)), (1, .int x1)]) hx hb dX10_find_7 rfl hl (by decide) rfl (fun ls hl => ?_)
    refine lv_aload_n hx hb dX10_find_8 rfl (lv_at hl 1 rfl) ?_
    refine gf_X10_39 X hP (k := 6) rfl dX10_find_9 ?_
    refine lv_istore_n (lv' := [(3, .int (s0.1 6 0)), (2, .int x1), (0, .ref (ad 6)), (1, .int x1)]) hx hb dX10_find_12 rfl hl (by decide) rfl (fun ls hl => ?_)
    refine lv_iconst (v := 0) hx hb dX10_find_13 (by decide) ?_
    refine lv_istore (lv' := [(4, .int 0), (3, .int (s0.1 6 0)), (2, .int x1), (0, .ref (ad 6)), (1, .int x1)]) hx hb dX10_find_14 hl (by decide) rfl (fun ls hl => ?_)
    refine lv_iconst (v := 0) hx hb dX10_find_16 (by decide) ?_
    refine lv_istore (lv' := [(5, .int 0), (4, .int 0), (3, .int (s0.1 6 0)), (2, .int x1), (0, .ref (ad 6)), (1, .int x1)]) hx hb dX10_find_17 hl (by decide) rfl (fun ls hl => ?_)
    exact hc_19 ZF x1 (s0.1 6 0) 0 0 s0 _ _ _ (lv_sub hl [4, 3, 2, 1, 0] rfl) hP hS hf
  · refine lv_iconst (v := (-1)) hx hb dX10_find_4 (by decide) ?_
    exact zret_i X hP hS hf rfl dX10_find_5
theorem dX10_addTerm_0 : decode cX10_addTerm 0 = .ok (.iconst 0, 1) := by decide +kernel
theorem dX10_addTerm_1 : decode cX10_addTerm 1 = .ok (.istore_n 2, 1) := by decide +kernel
theorem dX10_addTerm_2 : decode cX10_addTerm 2 = .ok (.iconst 0, 1) := by decide +kernel
theorem dX10_addTerm_3 : decode cX10_addTerm 3 = .ok (.istore_n 3, 1) := by decide +kernel
theorem dX10_addTerm_4 : decode cX10_addTerm 4 = .ok (.iconst 0, 1) := by decide +kernel
theorem dX10_addTerm_5 : decode cX10_addTerm 5 = .ok (.istore 4, 2) := by decide +kernel
theorem dX10_addTerm_7 : decode cX10_addTerm 7 = .ok (.iconst 0, 1) := by decide +kernel
theorem dX10_addTerm_8 : decode cX10_addTerm 8 = .ok (.istore 5, 2) := by decide +kernel
theorem dX10_addTerm_10 : decode cX10_addTerm 10 = .ok (.iload 5, 2) := by decide +kernel
theorem dX10_addTerm_12 : decode cX10_addTerm 12 = .ok (.aload_n 0, 1) := by decide +kernel
theorem dX10_addTerm_13 : decode cX10_addTerm 13 = .ok (.getfield 46, 3) := by decide +kernel
theorem dX10_addTerm_16 : decode cX10_addTerm 16 = .ok (.if_icmp .ge 68, 3) := by decide +kernel
theorem dX10_addTerm_19 : decode cX10_addTerm 19 = .ok (.iload 5, 2) := by decide +kernel
theorem dX10_addTerm_21 : decode cX10_addTerm 21 = .ok (.bipush 6, 2) := by decide +kernel
theorem dX10_addTerm_23 : decode cX10_addTerm 23 = .ok (.if_icmp .ge 61, 3) := by decide +kernel
theorem dX10_addTerm_26 : decode cX10_addTerm 26 = .ok (.iload_n 2, 1) := by decide +kernel
theorem dX10_addTerm_27 : decode cX10_addTerm 27 = .ok (.aload_n 0, 1) := by decide +kernel
theorem dX10_addTerm_28 : decode cX10_addTerm 28 = .ok (.getfield 30, 3) := by decide +kernel
theorem dX10_addTerm_31 : decode cX10_addTerm 31 = .ok (.iload 5, 2) := by decide +kernel
theorem dX10_addTerm_33 : decode cX10_addTerm 33 = .ok (.iaload, 1) := by decide +kernel
theorem dX10_addTerm_34 : decode cX10_addTerm 34 = .ok (.getstatic 69, 3) := by decide +kernel
theorem dX10_addTerm_37 : decode cX10_addTerm 37 = .ok (.iload 5, 2) := by decide +kernel
theorem dX10_addTerm_39 : decode cX10_addTerm 39 = .ok (.iaload, 1) := by decide +kernel
theorem dX10_addTerm_40 : decode cX10_addTerm 40 = .ok (.imul, 1) := by decide +kernel
theorem dX10_addTerm_41 : decode cX10_addTerm 41 = .ok (.iadd, 1) := by decide +kernel
theorem dX10_addTerm_42 : decode cX10_addTerm 42 = .ok (.istore_n 2, 1) := by decide +kernel
theorem dX10_addTerm_43 : decode cX10_addTerm 43 = .ok (.iload_n 3, 1) := by decide +kernel
theorem dX10_addTerm_44 : decode cX10_addTerm 44 = .ok (.aload_n 0, 1) := by decide +kernel
theorem dX10_addTerm_45 : decode cX10_addTerm 45 = .ok (.getfield 30, 3) := by decide +kernel
theorem dX10_addTerm_48 : decode cX10_addTerm 48 = .ok (.iload 5, 2) := by decide +kernel
theorem dX10_addTerm_50 : decode cX10_addTerm 50 = .ok (.iaload, 1) := by decide +kernel
theorem dX10_addTerm_51 : decode cX10_addTerm 51 = .ok (.iadd, 1) := by decide +kernel
theorem dX10_addTerm_52 : decode cX10_addTerm 52 = .ok (.istore_n 3, 1) := by decide +kernel
theorem dX10_addTerm_53 : decode cX10_addTerm 53 = .ok (.iload 4, 2) := by decide +kernel
theorem dX10_addTerm_55 : decode cX10_addTerm 55 = .ok (.iload 5, 2) := by decide +kernel
theorem dX10_addTerm_57 : decode cX10_addTerm 57 = .ok (.aload_n 1, 1) := by decide +kernel
theorem dX10_addTerm_58 : decode cX10_addTerm 58 = .ok (.getfield 74, 3) := by decide +kernel
theorem dX10_addTerm_61 : decode cX10_addTerm 61 = .ok (.if_icmp .ge 13, 3) := by decide +kernel
theorem dX10_addTerm_64 : decode cX10_addTerm 64 = .ok (.aload_n 0, 1) := by decide +kernel
theorem dX10_addTerm_65 : decode cX10_addTerm 65 = .ok (.getfield 30, 3) := by decide +kernel
theorem dX10_addTerm_68 : decode cX10_addTerm 68 = .ok (.iload 5, 2) := by decide +kernel
theorem dX10_addTerm_70 : decode cX10_addTerm 70 = .ok (.iaload, 1) := by decide +kernel
theorem dX10_addTerm_71 : decode cX10_addTerm 71 = .ok (.goto 4, 3) := by decide +kernel
theorem dX10_addTerm_74 : decode cX10_addTerm 74 = .ok (.iconst 0, 1) := by decide +kernel
theorem dX10_addTerm_75 : decode cX10_addTerm 75 = .ok (.iadd, 1) := by decide +kernel
theorem dX10_addTerm_76 : decode cX10_addTerm 76 = .ok (.istore 4, 2) := by decide +kernel
theorem dX10_addTerm_78 : decode cX10_addTerm 78 = .ok (.iinc 5 1, 3) := by decide +kernel
theorem dX10_addTerm_81 : decode cX10_addTerm 81 = .ok (.goto (-71), 3) := by decide +kernel
theorem dX10_addTerm_84 : decode cX10_addTerm 84 = .ok (.aload_n 0, 1) := by decide +kernel
theorem dX10_addTerm_85 : decode cX10_addTerm 85 = .ok (.getfield 9, 3) := by decide +kernel
theorem dX10_addTerm_88 : decode cX10_addTerm 88 = .ok (.aload_n 0, 1) := by decide +kernel
theorem dX10_addTerm_89 : decode cX10_addTerm 89 = .ok (.getfield 49, 3) := by decide +kernel
theorem dX10_addTerm_92 : decode cX10_addTerm 92 = .ok (.iload_n 2, 1) := by decide +kernel
theorem dX10_addTerm_93 : decode cX10_addTerm 93 = .ok (.iastore, 1) := by decide +kernel
theorem dX10_addTerm_94 : decode cX10_addTerm 94 = .ok (.aload_n 0, 1) := by decide +kernel
theorem dX10_addTerm_95 : decode cX10_addTerm 95 = .ok (.getfield 13, 3) := by decide +kernel
theorem dX10_addTerm_98 : decode cX10_addTerm 98 = .ok (.aload_n 0, 1) := by decide +kernel
theorem dX10_addTerm_99 : decode cX10_addTerm 99 = .ok (.getfield 49, 3) := by decide +kernel
theorem dX10_addTerm_102 : decode cX10_addTerm 102 = .ok (.iload_n 3, 1) := by decide +kernel
theorem dX10_addTerm_103 : decode cX10_addTerm 103 = .ok (.iastore, 1) := by decide +kernel
theorem dX10_addTerm_104 : decode cX10_addTerm 104 = .ok (.aload_n 0, 1) := by decide +kernel
theorem dX10_addTerm_105 : decode cX10_addTerm 105 = .ok (.getfield 20, 3) := by decide +kernel
theorem dX10_addTerm_108 : decode cX10_addTerm 108 = .ok (.aload_n 0, 1) := by decide +kernel
theorem dX10_addTerm_109 : decode cX10_addTerm 109 = .ok (.getfield 49, 3) := by decide +kernel
theorem dX10_addTerm_112 : decode cX10_addTerm 112 = .ok (.iload 4, 2) := by decide +kernel
theorem dX10_addTerm_114 : decode cX10_addTerm 114 = .ok (.iload_n 3, 1) := by decide +kernel
theorem dX10_addTerm_115 : decode cX10_addTerm 115 = .ok (.if_icmp .ne 7, 3) := by decide +kernel
theorem dX10_addTerm_118 : decode cX10_addTerm 118 = .ok (.iconst 1, 1) := by decide +kernel
theorem dX10_addTerm_119 : decode cX10_addTerm 119 = .ok (.goto 4, 3) := by decide +kernel
theorem dX10_addTerm_122 : decode cX10_addTerm 122 = .ok (.iconst 0, 1) := by decide +kernel
theorem dX10_addTerm_123 : decode cX10_addTerm 123 = .ok (.bastore, 1) := by decide +kernel
theorem dX10_addTerm_124 : decode cX10_addTerm 124 = .ok (.aload_n 0, 1) := by decide +kernel
theorem dX10_addTerm_125 : decode cX10_addTerm 125 = .ok (.getfield 16, 3) := by decide +kernel
theorem dX10_addTerm_128 : decode cX10_addTerm 128 = .ok (.aload_n 0, 1) := by decide +kernel
theorem dX10_addTerm_129 : decode cX10_addTerm 129 = .ok (.getfield 49, 3) := by decide +kernel
theorem dX10_addTerm_132 : decode cX10_addTerm 132 = .ok (.iload_n 3, 1) := by decide +kernel
theorem dX10_addTerm_133 : decode cX10_addTerm 133 = .ok (.aload_n 0, 1) := by decide +kernel
theorem dX10_addTerm_134 : decode cX10_addTerm 134 = .ok (.getfield 39, 3) := by decide +kernel
theorem dX10_addTerm_137 : decode cX10_addTerm 137 = .ok (.if_icmp .ne 14, 3) := by decide +kernel
theorem dX10_addTerm_140 : decode cX10_addTerm 140 = .ok (.aload_n 1, 1) := by decide +kernel
theorem dX10_addTerm_141 : decode cX10_addTerm 141 = .ok (.aload_n 0, 1) := by decide +kernel
theorem dX10_addTerm_142 : decode cX10_addTerm 142 = .ok (.getfield 30, 3) := by decide +kernel
theorem dX10_addTerm_145 : decode cX10_addTerm 145 = .ok (.invokevirtual 77, 3) := by decide +kernel
theorem dX10_addTerm_148 : decode cX10_addTerm 148 = .ok (.goto 4, 3) := by decide +kernel
theorem dX10_addTerm_151 : decode cX10_addTerm 151 = .ok (.lconst 0, 1) := by decide +kernel
theorem dX10_addTerm_152 : decode cX10_addTerm 152 = .ok (.lastore, 1) := by decide +kernel
theorem dX10_addTerm_153 : decode cX10_addTerm 153 = .ok (.aload_n 0, 1) := by decide +kernel
theorem dX10_addTerm_154 : decode cX10_addTerm 154 = .ok (.dup, 1) := by decide +kernel
theorem dX10_addTerm_155 : decode cX10_addTerm 155 = .ok (.getfield 49, 3) := by decide +kernel
theorem dX10_addTerm_158 : decode cX10_addTerm 158 = .ok (.iconst 1, 1) := by decide +kernel
theorem dX10_addTerm_159 : decode cX10_addTerm 159 = .ok (.iadd, 1) := by decide +kernel
theorem dX10_addTerm_160 : decode cX10_addTerm 160 = .ok (.putfield 49, 3) := by decide +kernel
theorem dX10_addTerm_163 : decode cX10_addTerm 163 = .ok (.return_, 1) := by decide +kernel
set_option maxHeartbeats 4000000 in
set_option maxRecDepth 100000 in
theorem cn_X10_addTerm {l : Launch} {cA : Nat → ClassId} {ad : Nat → Nat} {D : va_G} {E : Nat → Nat} {A : Nat → Prop} {k1 : Nat} {s0 sr : SS} {rr : Unit} (hf : f_X10_addTerm k1 s0 = some (rr, sr)) : zCon Ox Nx cA ad D E l yX10_addTerm cX10_addTerm 6 none 3 A [.ref (ad 6), .ref (ad k1)] s0 none sr := by
  refine zstart (own := RX10) hOx (by decide) rfl (Nat.le_of_ble_eq_true rfl) ?_
  intro p e s m args below meth c X hP ls hl
  have hx := X.1
  have hb := X.2.1
  have hl : lv_has ls 6 [(0, .ref (ad 6)), (1, .ref (ad k1))] := hl
  have hS : va_S A s.heap s.heap [] := va_S.rf
  have hc_10 : ∀ (n10 : Nat) (k1 : Nat) (x2 : Int32) (x3 : Int32) (x4 : Int32) (x5 : Int32) (s1 : SS) (H : Heap) (locs : List Loc) (ls : Array Slot), lv_has ls 6 [(0, .ref (ad 6)), (1, .ref (ad k1)), (2, .int x2), (3, .int x3), (4, .int x4), (5, .int x5)] → va_P D ZCL (zw Ox Nx cA ad s1) H → va_S A s.heap H locs → f_X10_addTerm_c10 n10 k1 x2 x3 x4 x5 s1 = some (rr, sr) → W p l e (zrm 3) s m args below meth c H locs 0 0 (MQ below (zQc Ox Nx cA ad D A none sr) args s 0 0 A) (F0 m 10 ls []) := by
    intro n10
    induction n10 with
    | zero =>
      intro k1 x2 x3 x4 x5 s1 H locs ls hl hP hS hf
      rw [f_X10_addTerm_c10] at hf
      cases hf
    | succ n10 ih10 =>
      have hc_152 : ∀ (t0 : Int64) (t1 : Int32) (s1 : SS) (H : Heap) (locs : List Loc) (ls : Array Slot), lv_has ls 6 [(0, .ref (ad 6))] → va_P D ZCL (zw Ox Nx cA ad s1) H → va_S A s.heap H locs → f_X10_addTerm_c152 t0 t1 s1 = some (rr, sr) → W p l e (zrm 3) s m args below meth c H locs 0 0 (MQ below (zQc Ox Nx cA ad D A none sr) args s 0 0 A) (F0 m 152 ls [.long t0, .int t1, .ref (ad 64)]) := by
        intro t0 t1 s1 H locs ls hl hP hS hf
        rw [f_X10_addTerm_c152] at hf
        obtain ⟨g4, hf⟩ := zgd hf
        refine zast_l X hP hS (k := 64) (n := 462) (rs := []) rfl g4 dX10_addTerm_152 (fun H locs hP hS => ?_)
        refine lv_aload_n hx hb dX10_addTerm_153 rfl (lv_at hl 0 rfl) ?_
        refine lv_dup hx hb dX10_addTerm_154 rfl ?_
        refine gf_X10_49 X hP (k := 6) rfl dX10_addTerm_155 ?_
        refine lv_iconst (v := 1) hx hb dX10_addTerm_158 (by decide) ?_
        refine lv_iadd hx hb dX10_addTerm_159 ?_
        refine pf_X10_49 X hP hS (k := 6) rfl dX10_addTerm_160 (fun H locs hP hS => ?_)
        exact zret_v X hP hS hf dX10_addTerm_163
      have hc_123 : ∀ (k1 : Nat) (x3 : Int32) (t0 : Int32) (t1 : Int32) (s1 : SS) (H : Heap) (locs : List Loc) (ls : Array Slot), lv_has ls 6 [(0, .ref (ad 6)), (1, .ref (ad k1)), (3, .int x3)] → va_P D ZCL (zw Ox Nx cA ad s1) H → va_S A s.heap H locs → f_X10_addTerm_c123 k1 x3 t0 t1 s1 = some (rr, sr) → W p l e (zrm 3) s m args below meth c H locs 0 0 (MQ below (zQc Ox Nx cA ad D A none sr) args s 0 0 A) (F0 m 123 ls [.int t0, .int t1, .ref (ad 65)]) := by
        intro k1 x3 t0 t1 s1 H locs ls hl hP hS hf
        rw [f_X10_addTerm_c123] at hf
        obtain ⟨g1, hf⟩ := zgd hf
        obtain ⟨g3, hf⟩ := zgd hf
        refine zast_z X hP hS (k := 65) (n := 462) (rs := []) rfl g3 dX10_addTerm_123 (fun H locs hP hS => ?_)
        refine lv_aload_n hx hb dX10_addTerm_124 rfl (lv_at hl 0 rfl) ?_
        refine gf_X10_16 X hP (k := 6) (q := 64) rfl dX10_addTerm_125 rfl ?_
        refine lv_aload_n hx hb dX10_addTerm_128 rfl (lv_at hl 0 rfl) ?_
        refine gf_X10_49 X hP (k := 6) rfl dX10_addTerm_129 ?_
        refine lv_iload_n hx hb dX10_addTerm_132 rfl (lv_at hl 2 rfl) ?_
        refine lv_aload_n hx hb dX10_addTerm_133 rfl (lv_at hl 0 rfl) ?_
        refine gf_X10_39 X hP (k := 6) rfl dX10_addTerm_134 ?_
        refine zicmp_ne (tgt := 151) hx hb dX10_addTerm_137 (by decide) hf (fun hf => ?_) (fun hf => ?_)
        · refine lv_lconst (v := 0) hx hb dX10_addTerm_151 (by decide) ?_
          exact hc_152 0 ((zS s1 65 (t1).toNatClampNeg (vp_nar .boolean t0)).1 6 2) (zS s1 65 (t1).toNatClampNeg (vp_nar .boolean t0)) _ _ _ (lv_sub hl [0] rfl) hP hS hf
        · refine lv_aload_n hx hb dX10_addTerm_140 rfl (lv_at hl 1 rfl) ?_
          refine lv_aload_n hx hb dX10_addTerm_141 rfl (lv_at hl 0 rfl) ?_
          refine gf_X10_30 X hP (k := 6) (q := 68) rfl dX10_addTerm_142 rfl ?_
          obtain ⟨r5, s6, h7, hf⟩ := zbd_some hf
          refine zcallV X hP hS hl.1 (k := k1) (As := [.ref (ad 68)]) (rest := [.int ((zS s1 65 (t1).toNatClampNeg (vp_nar .boolean t0)).1 6 2), .ref (ad 64)]) (cn_X7_worthOf h7) cw_X7_worthOf zp_7 g1 (by decide) rfl ml_X10_77 (by decide) rfl rfl (Nat.le_of_ble_eq_true rfl) dX10_addTerm_145 (fun H locs hP hS => ?_)
          refine lv_goto (tgt := 152) hx hb dX10_addTerm_148 (by decide) ?_
          exact hc_152 r5 ((zS s1 65 (t1).toNatClampNeg (vp_nar .boolean t0)).1 6 2) s6 _ _ _ (lv_sub hl [0] rfl) hP hS hf
      have hc_84 : ∀ (k1 : Nat) (x2 : Int32) (x3 : Int32) (x4 : Int32) (s1 : SS) (H : Heap) (locs : List Loc) (ls : Array Slot), lv_has ls 6 [(0, .ref (ad 6)), (1, .ref (ad k1)), (2, .int x2), (3, .int x3), (4, .int x4)] → va_P D ZCL (zw Ox Nx cA ad s1) H → va_S A s.heap H locs → f_X10_addTerm_c84 k1 x2 x3 x4 s1 = some (rr, sr) → W p l e (zrm 3) s m args below meth c H locs 0 0 (MQ below (zQc Ox Nx cA ad D A none sr) args s 0 0 A) (F0 m 84 ls []) := by
        intro k1 x2 x3 x4 s1 H locs ls hl hP hS hf
        rw [f_X10_addTerm_c84] at hf
        obtain ⟨g1, hf⟩ := zgd hf
        refine lv_aload_n hx hb dX10_addTerm_84 rfl (lv_at hl 0 rfl) ?_
        refine gf_X10_9 X hP (k := 6) (q := 62) rfl dX10_addTerm_85 rfl ?_
        refine lv_aload_n hx hb dX10_addTerm_88 rfl (lv_at hl 0 rfl) ?_
        refine gf_X10_49 X hP (k := 6) rfl dX10_addTerm_89 ?_
        refine lv_iload_n hx hb dX10_addTerm_92 rfl (lv_at hl 2 rfl) ?_
        obtain ⟨g1, hf⟩ := zgd hf
        refine zast_i X hP hS (k := 62) (n := 462) (rs := []) rfl g1 dX10_addTerm_93 (fun H locs hP hS => ?_)
        refine lv_aload_n hx hb dX10_addTerm_94 rfl (lv_at hl 0 rfl) ?_
        refine gf_X10_13 X hP (k := 6) (q := 63) rfl dX10_addTerm_95 rfl ?_
        refine lv_aload_n hx hb dX10_addTerm_98 rfl (lv_at hl 0 rfl) ?_
        refine gf_X10_49 X hP (k := 6) rfl dX10_addTerm_99 ?_
        refine lv_iload_n hx hb dX10_addTerm_102 rfl (lv_at hl 3 rfl) ?_
        obtain ⟨g2, hf⟩ := zgd hf
        refine zast_i X hP hS (k := 63) (n := 462) (rs := []) rfl g2 dX10_addTerm_103 (fun H locs hP hS => ?_)
        refine lv_aload_n hx hb dX10_addTerm_104 rfl (lv_at hl 0 rfl) ?_
        refine gf_X10_20 X hP (k := 6) (q := 65) rfl dX10_addTerm_105 rfl ?_
        refine lv_aload_n hx hb dX10_addTerm_108 rfl (lv_at hl 0 rfl) ?_
        refine gf_X10_49 X hP (k := 6) rfl dX10_addTerm_109 ?_
        refine lv_iload hx hb dX10_addTerm_112 (lv_at hl 4 rfl) ?_
        refine lv_iload_n hx hb dX10_addTerm_114 rfl (lv_at hl 3 rfl) ?_
        refine zicmp_ne (tgt := 122) hx hb dX10_addTerm_115 (by decide) hf (fun hf => ?_) (fun hf => ?_)
        · refine lv_iconst (v := 0) hx hb dX10_addTerm_122 (by decide) ?_
          exact hc_123 k1 x3 0 ((zS (zS s1 62 ((s1.1 6 2)).toNatClampNeg x2) 63 (((zS s1 62 ((s1.1 6 2)).toNatClampNeg x2).1 6 2)).toNatClampNeg x3).1 6 2) (zS (zS s1 62 ((s1.1 6 2)).toNatClampNeg x2) 63 (((zS s1 62 ((s1.1 6 2)).toNatClampNeg x2).1 6 2)).toNatClampNeg x3) _ _ _ (lv_sub hl [0, 1, 3] rfl) hP hS hf
        · refine lv_iconst (v := 1) hx hb dX10_addTerm_118 (by decide) ?_
          refine lv_goto (tgt := 123) hx hb dX10_addTerm_119 (by decide) ?_
          exact hc_123 k1 x3 1 ((zS (zS s1 62 ((s1.1 6 2)).toNatClampNeg x2) 63 (((zS s1 62 ((s1.1 6 2)).toNatClampNeg x2).1 6 2)).toNatClampNeg x3).1 6 2) (zS (zS s1 62 ((s1.1 6 2)).toNatClampNeg x2) 63 (((zS s1 62 ((s1.1 6 2)).toNatClampNeg x2).1 6 2)).toNatClampNeg x3) _ _ _ (lv_sub hl [0, 1, 3] rfl) hP hS hf
      have hc_75 : ∀ (k1 : Nat) (x2 : Int32) (x3 : Int32) (x5 : Int32) (t0 : Int32) (t1 : Int32) (s1 : SS) (H : Heap) (locs : List Loc) (ls : Array Slot), lv_has ls 6 [(0, .ref (ad 6)), (1, .ref (ad k1)), (2, .int x2), (3, .int x3), (5, .int x5)] → va_P D ZCL (zw Ox Nx cA ad s1) H → va_S A s.heap H locs → f_X10_addTerm_c75 (f_X10_addTerm_c10 n10) k1 x2 x3 x5 t0 t1 s1 = some (rr, sr) → W p l e (zrm 3) s m args below meth c H locs 0 0 (MQ below (zQc Ox Nx cA ad D A none sr) args s 0 0 A) (F0 m 75 ls [.int t0, .int t1]) := by
        intro k1 x2 x3 x5 t0 t1 s1 H locs ls hl hP hS hf
        rw [f_X10_addTerm_c75] at hf
        obtain ⟨g1, hf⟩ := zgd hf
        refine lv_iadd hx hb dX10_addTerm_75 ?_
        refine lv_istore (lv' := [(4, .int (t1 + t0)), (0, .ref (ad 6)), (1, .ref (ad k1)), (2, .int x2), (3, .int x3), (5, .int x5)]) hx hb dX10_addTerm_76 hl (by decide) rfl (fun ls hl => ?_)
        refine lv_iinc (v := (x5 + 1)) (lv' := [(5, .int (x5 + 1)), (4, .int (t1 + t0)), (0, .ref (ad 6)), (1, .ref (ad k1)), (2, .int x2), (3, .int x3)]) hx hb dX10_addTerm_78 hl (k := 5) rfl rfl (by decide) rfl (fun ls hl => ?_)
        refine lv_goto (tgt := 10) hx hb dX10_addTerm_81 (by decide) ?_
        exact ih10 k1 x2 x3 (t1 + t0) (x5 + 1) s1 _ _ _ (lv_sub hl [2, 3, 4, 5, 1, 0] rfl) hP hS hf
      intro k1 x2 x3 x4 x5 s1 H locs ls hl hP hS hf
      rw [f_X10_addTerm_c10] at hf
      obtain ⟨g1, hf⟩ := zgd hf
      refine lv_iload hx hb dX10_addTerm_10 (lv_at hl 5 rfl) ?_
      refine lv_aload_n hx hb dX10_addTerm_12 rfl (lv_at hl 0 rfl) ?_
      refine gf_X10_46 X hP (k := 6) rfl dX10_addTerm_13 ?_
      refine zicmp_ge (tgt := 84) hx hb dX10_addTerm_16 (by decide) hf (fun hf => ?_) (fun hf => ?_)
      · exact hc_84 k1 x2 x3 x4 s1 _ _ _ (lv_sub hl [0, 1, 2, 3, 4] rfl) hP hS hf
      · refine lv_iload hx hb dX10_addTerm_19 (lv_at hl 5 rfl) ?_
        refine lv_bipush (v := 6) hx hb dX10_addTerm_21 (by decide) ?_
        refine zicmp_ge (tgt := 84) hx hb dX10_addTerm_23 (by decide) hf (fun hf => ?_) (fun hf => ?_)
        · exact hc_84 k1 x2 x3 x4 s1 _ _ _ (lv_sub hl [0, 1, 2, 3, 4] rfl) hP hS hf
        · refine lv_iload_n hx hb dX10_addTerm_26 rfl (lv_at hl 2 rfl) ?_
          refine lv_aload_n hx hb dX10_addTerm_27 rfl (lv_at hl 0 rfl) ?_
          refine gf_X10_30 X hP (k := 6) (q := 68) rfl dX10_addTerm_28 rfl ?_
          refine lv_iload hx hb dX10_addTerm_31 (lv_at hl 5 rfl) ?_
          obtain ⟨g8, hf⟩ := zgd hf
          refine zald_i X hP (k := 68) (n := 6) (rs := []) rfl g8 dX10_addTerm_33 ?_
          refine zgsN X hS (i := 0) rfl nf_X10_69 dX10_addTerm_34 ?_
          refine lv_iload hx hb dX10_addTerm_37 (lv_at hl 5 rfl) ?_
          obtain ⟨g9, hf⟩ := zgd hf
          refine zst X hS (k := 0) (n := 6) rfl rfl g9 dX10_addTerm_39 ?_
          refine lv_imul hx hb dX10_addTerm_40 ?_
          refine lv_iadd hx hb dX10_addTerm_41 ?_
          refine lv_istore_n (lv' := [(2, .int (x2 + ((s1.1 68 (x5).toNatClampNeg) * (ztab 0 x5)))), (0, .ref (ad 6)), (1, .ref (ad k1)), (3, .int x3), (4, .int x4), (5, .int x5)]) hx hb dX10_addTerm_42 rfl hl (by decide) rfl (fun ls hl => ?_)
          refine lv_iload_n hx hb dX10_addTerm_43 rfl (lv_at hl 3 rfl) ?_
          refine lv_aload_n hx hb dX10_addTerm_44 rfl (lv_at hl 1 rfl) ?_
          refine gf_X10_30 X hP (k := 6) (q := 68) rfl dX10_addTerm_45 rfl ?_
          refine lv_iload hx hb dX10_addTerm_48 (lv_at hl 5 rfl) ?_
          obtain ⟨g10, hf⟩ := zgd hf
          refine zald_i X hP (k := 68) (n := 6) (rs := []) rfl g10 dX10_addTerm_50 ?_
          refine lv_iadd hx hb dX10_addTerm_51 ?_
          refine lv_istore_n (lv' := [(3, .int (x3 + (s1.1 68 (x5).toNatClampNeg))), (2, .int (x2 + ((s1.1 68 (x5).toNatClampNeg) * (ztab 0 x5)))), (0, .ref (ad 6)), (1, .ref (ad k1)), (4, .int x4), (5, .int x5)]) hx hb dX10_addTerm_52 rfl hl (by decide) rfl (fun ls hl => ?_)
          refine lv_iload hx hb dX10_addTerm_53 (lv_at hl 4 rfl) ?_
          refine lv_iload hx hb dX10_addTerm_55 (lv_at hl 5 rfl) ?_
          refine lv_aload_n hx hb dX10_addTerm_57 rfl (lv_at hl 3 rfl) ?_
          refine gf_X10_74 X hP (k := k1) g1 dX10_addTerm_58 ?_
          refine zicmp_ge (tgt := 74) hx hb dX10_addTerm_61 (by decide) hf (fun hf => ?_) (fun hf => ?_)
          · refine lv_iconst (v := 0) hx hb dX10_addTerm_74 (by decide) ?_
            exact hc_75 k1 (x2 + ((s1.1 68 (x5).toNatClampNeg) * (ztab 0 x5))) (x3 + (s1.1 68 (x5).toNatClampNeg)) x5 0 x4 s1 _ _ _ (lv_sub hl [2, 3, 1, 0, 5] rfl) hP hS hf
          · refine lv_aload_n hx hb dX10_addTerm_64 rfl (lv_at hl 2 rfl) ?_
            refine gf_X10_30 X hP (k := 6) (q := 68) rfl dX10_addTerm_65 rfl ?_
            refine lv_iload hx hb dX10_addTerm_68 (lv_at hl 5 rfl) ?_
            obtain ⟨g11, hf⟩ := zgd hf
            refine zald_i X hP (k := 68) (n := 6) (rs := []) rfl g11 dX10_addTerm_70 ?_
            refine lv_goto (tgt := 75) hx hb dX10_addTerm_71 (by decide) ?_
            exact hc_75 k1 (x2 + ((s1.1 68 (x5).toNatClampNeg) * (ztab 0 x5))) (x3 + (s1.1 68 (x5).toNatClampNeg)) x5 (s1.1 68 (x5).toNatClampNeg) x4 s1 _ _ _ (lv_sub hl [2, 3, 1, 0, 5] rfl) hP hS hf
  rw [f_X10_addTerm] at hf
  obtain ⟨g1, hf⟩ := zgd hf
  refine lv_iconst (v := 0) hx hb dX10_addTerm_0 (by decide) ?_
  refine lv_istore_n (lv' := [(2, .int 0), (0, .ref (ad 6)), (1, .ref (ad k1))]) hx hb dX10_addTerm_1 rfl hl (by decide) rfl (fun ls hl => ?_)
  refine lv_iconst (v := 0) hx hb dX10_addTerm_2 (by decide) ?_
  refine lv_istore_n (lv' := [(3, .int 0), (2, .int 0), (0, .ref (ad 6)), (1, .ref (ad k1))]) hx hb dX10_addTerm_3 rfl hl (by decide) rfl (fun ls hl => ?_)
  refine lv_iconst (v := 0) hx hb dX10_addTerm_4 (by decide) ?_
  refine lv_istore (lv' := [(4, .int 0), (3, .int 0), (2, .int 0), (0, .ref (ad 6)), (1, .ref (ad k1))]) hx hb dX10_addTerm_5 hl (by decide) rfl (fun ls hl => ?_)
  refine lv_iconst (v := 0) hx hb dX10_addTerm_7 (by decide) ?_
  refine lv_istore (lv' := [(5, .int 0), (4, .int 0), (3, .int 0), (2, .int 0), (0, .ref (ad 6)), (1, .ref (ad k1))]) hx hb dX10_addTerm_8 hl (by decide) rfl (fun ls hl => ?_)
  exact hc_10 ZF k1 0 0 0 0 s0 _ _ _ (lv_sub hl [4, 5, 3, 2, 1, 0] rfl) hP hS hf
theorem dX10_stepOn_0 : decode cX10_stepOn 0 = .ok (.iconst (-1), 1) := by decide +kernel
theorem dX10_stepOn_1 : decode cX10_stepOn 1 = .ok (.istore_n 1, 1) := by decide +kernel
theorem dX10_stepOn_2 : decode cX10_stepOn 2 = .ok (.iconst 0, 1) := by decide +kernel
theorem dX10_stepOn_3 : decode cX10_stepOn 3 = .ok (.istore_n 2, 1) := by decide +kernel
theorem dX10_stepOn_4 : decode cX10_stepOn 4 = .ok (.iconst 0, 1) := by decide +kernel
theorem dX10_stepOn_5 : decode cX10_stepOn 5 = .ok (.istore_n 3, 1) := by decide +kernel
theorem dX10_stepOn_6 : decode cX10_stepOn 6 = .ok (.iload_n 3, 1) := by decide +kernel
theorem dX10_stepOn_7 : decode cX10_stepOn 7 = .ok (.aload_n 0, 1) := by decide +kernel
theorem dX10_stepOn_8 : decode cX10_stepOn 8 = .ok (.getfield 46, 3) := by decide +kernel
theorem dX10_stepOn_11 : decode cX10_stepOn 11 = .ok (.if_icmp .ge 39, 3) := by decide +kernel
theorem dX10_stepOn_14 : decode cX10_stepOn 14 = .ok (.iload_n 3, 1) := by decide +kernel
theorem dX10_stepOn_15 : decode cX10_stepOn 15 = .ok (.bipush 6, 2) := by decide +kernel
theorem dX10_stepOn_17 : decode cX10_stepOn 17 = .ok (.if_icmp .ge 33, 3) := by decide +kernel
theorem dX10_stepOn_20 : decode cX10_stepOn 20 = .ok (.iload_n 2, 1) := by decide +kernel
theorem dX10_stepOn_21 : decode cX10_stepOn 21 = .ok (.aload_n 0, 1) := by decide +kernel
theorem dX10_stepOn_22 : decode cX10_stepOn 22 = .ok (.getfield 30, 3) := by decide +kernel
theorem dX10_stepOn_25 : decode cX10_stepOn 25 = .ok (.iload_n 3, 1) := by decide +kernel
theorem dX10_stepOn_26 : decode cX10_stepOn 26 = .ok (.iaload, 1) := by decide +kernel
theorem dX10_stepOn_27 : decode cX10_stepOn 27 = .ok (.iadd, 1) := by decide +kernel
theorem dX10_stepOn_28 : decode cX10_stepOn 28 = .ok (.istore_n 2, 1) := by decide +kernel
theorem dX10_stepOn_29 : decode cX10_stepOn 29 = .ok (.aload_n 0, 1) := by decide +kernel
theorem dX10_stepOn_30 : decode cX10_stepOn 30 = .ok (.getfield 30, 3) := by decide +kernel
theorem dX10_stepOn_33 : decode cX10_stepOn 33 = .ok (.iload_n 3, 1) := by decide +kernel
theorem dX10_stepOn_34 : decode cX10_stepOn 34 = .ok (.iaload, 1) := by decide +kernel
theorem dX10_stepOn_35 : decode cX10_stepOn 35 = .ok (.ifCond .le 7, 3) := by decide +kernel
theorem dX10_stepOn_38 : decode cX10_stepOn 38 = .ok (.iload_n 3, 1) := by decide +kernel
theorem dX10_stepOn_39 : decode cX10_stepOn 39 = .ok (.goto 4, 3) := by decide +kernel
theorem dX10_stepOn_42 : decode cX10_stepOn 42 = .ok (.iload_n 1, 1) := by decide +kernel
theorem dX10_stepOn_43 : decode cX10_stepOn 43 = .ok (.istore_n 1, 1) := by decide +kernel
theorem dX10_stepOn_44 : decode cX10_stepOn 44 = .ok (.iinc 3 1, 3) := by decide +kernel
theorem dX10_stepOn_47 : decode cX10_stepOn 47 = .ok (.goto (-41), 3) := by decide +kernel
theorem dX10_stepOn_50 : decode cX10_stepOn 50 = .ok (.iload_n 1, 1) := by decide +kernel
theorem dX10_stepOn_51 : decode cX10_stepOn 51 = .ok (.ifCond .ge 5, 3) := by decide +kernel
theorem dX10_stepOn_54 : decode cX10_stepOn 54 = .ok (.iconst 0, 1) := by decide +kernel
theorem dX10_stepOn_55 : decode cX10_stepOn 55 = .ok (.ireturn, 1) := by decide +kernel
theorem dX10_stepOn_56 : decode cX10_stepOn 56 = .ok (.aload_n 0, 1) := by decide +kernel
theorem dX10_stepOn_57 : decode cX10_stepOn 57 = .ok (.getfield 30, 3) := by decide +kernel
theorem dX10_stepOn_60 : decode cX10_stepOn 60 = .ok (.iload_n 1, 1) := by decide +kernel
theorem dX10_stepOn_61 : decode cX10_stepOn 61 = .ok (.dup2, 1) := by decide +kernel
theorem dX10_stepOn_62 : decode cX10_stepOn 62 = .ok (.iaload, 1) := by decide +kernel
theorem dX10_stepOn_63 : decode cX10_stepOn 63 = .ok (.iconst 1, 1) := by decide +kernel
theorem dX10_stepOn_64 : decode cX10_stepOn 64 = .ok (.isub, 1) := by decide +kernel
theorem dX10_stepOn_65 : decode cX10_stepOn 65 = .ok (.iastore, 1) := by decide +kernel
theorem dX10_stepOn_66 : decode cX10_stepOn 66 = .ok (.iload_n 1, 1) := by decide +kernel
theorem dX10_stepOn_67 : decode cX10_stepOn 67 = .ok (.iconst 1, 1) := by decide +kernel
theorem dX10_stepOn_68 : decode cX10_stepOn 68 = .ok (.iadd, 1) := by decide +kernel
theorem dX10_stepOn_69 : decode cX10_stepOn 69 = .ok (.aload_n 0, 1) := by decide +kernel
theorem dX10_stepOn_70 : decode cX10_stepOn 70 = .ok (.getfield 46, 3) := by decide +kernel
theorem dX10_stepOn_73 : decode cX10_stepOn 73 = .ok (.if_icmp .ge 27, 3) := by decide +kernel
theorem dX10_stepOn_76 : decode cX10_stepOn 76 = .ok (.iload_n 1, 1) := by decide +kernel
theorem dX10_stepOn_77 : decode cX10_stepOn 77 = .ok (.iconst 1, 1) := by decide +kernel
theorem dX10_stepOn_78 : decode cX10_stepOn 78 = .ok (.iadd, 1) := by decide +kernel
theorem dX10_stepOn_79 : decode cX10_stepOn 79 = .ok (.bipush 6, 2) := by decide +kernel
theorem dX10_stepOn_81 : decode cX10_stepOn 81 = .ok (.if_icmp .ge 19, 3) := by decide +kernel
theorem dX10_stepOn_84 : decode cX10_stepOn 84 = .ok (.aload_n 0, 1) := by decide +kernel
theorem dX10_stepOn_85 : decode cX10_stepOn 85 = .ok (.getfield 30, 3) := by decide +kernel
theorem dX10_stepOn_88 : decode cX10_stepOn 88 = .ok (.iload_n 1, 1) := by decide +kernel
theorem dX10_stepOn_89 : decode cX10_stepOn 89 = .ok (.iconst 1, 1) := by decide +kernel
theorem dX10_stepOn_90 : decode cX10_stepOn 90 = .ok (.iadd, 1) := by decide +kernel
theorem dX10_stepOn_91 : decode cX10_stepOn 91 = .ok (.aload_n 0, 1) := by decide +kernel
theorem dX10_stepOn_92 : decode cX10_stepOn 92 = .ok (.getfield 39, 3) := by decide +kernel
theorem dX10_stepOn_95 : decode cX10_stepOn 95 = .ok (.iload_n 2, 1) := by decide +kernel
theorem dX10_stepOn_96 : decode cX10_stepOn 96 = .ok (.isub, 1) := by decide +kernel
theorem dX10_stepOn_97 : decode cX10_stepOn 97 = .ok (.iconst 1, 1) := by decide +kernel
theorem dX10_stepOn_98 : decode cX10_stepOn 98 = .ok (.iadd, 1) := by decide +kernel
theorem dX10_stepOn_99 : decode cX10_stepOn 99 = .ok (.iastore, 1) := by decide +kernel
theorem dX10_stepOn_100 : decode cX10_stepOn 100 = .ok (.iconst 1, 1) := by decide +kernel
theorem dX10_stepOn_101 : decode cX10_stepOn 101 = .ok (.ireturn, 1) := by decide +kernel
set_option maxHeartbeats 4000000 in
set_option maxRecDepth 100000 in
theorem cn_X10_stepOn {l : Launch} {cA : Nat → ClassId} {ad : Nat → Nat} {D : va_G} {E : Nat → Nat} {A : Nat → Prop}  {s0 sr : SS} {rr : Int32} (hf : f_X10_stepOn s0 = some (rr, sr)) : zCon Ox Nx cA ad D E l yX10_stepOn cX10_stepOn 4 (some .boolean) 0 A [.ref (ad 6)] s0 (some (.int rr)) sr := by
  refine zstart (own := RX10) hOx (by decide) rfl (Nat.le_of_ble_eq_true rfl) ?_
  intro p e s m args below meth c X hP ls hl
  have hx := X.1
  have hb := X.2.1
  have hl : lv_has ls 4 [(0, .ref (ad 6))] := hl
  have hS : va_S A s.heap s.heap [] := va_S.rf
  have hc_6 : ∀ (n6 : Nat) (x1 : Int32) (x2 : Int32) (x3 : Int32) (s1 : SS) (H : Heap) (locs : List Loc) (ls : Array Slot), lv_has ls 4 [(0, .ref (ad 6)), (1, .int x1), (2, .int x2), (3, .int x3)] → va_P D ZCL (zw Ox Nx cA ad s1) H → va_S A s.heap H locs → f_X10_stepOn_c6 n6 x1 x2 x3 s1 = some (rr, sr) → W p l e (zrm 0) s m args below meth c H locs 0 0 (MQ below (zQc Ox Nx cA ad D A (some (.int rr)) sr) args s 0 0 A) (F0 m 6 ls []) := by
    intro n6
    induction n6 with
    | zero =>
      intro x1 x2 x3 s1 H locs ls hl hP hS hf
      rw [f_X10_stepOn_c6] at hf
      cases hf
    | succ n6 ih6 =>
      have hc_50 : ∀ (x1 : Int32) (x2 : Int32) (s1 : SS) (H : Heap) (locs : List Loc) (ls : Array Slot), lv_has ls 4 [(0, .ref (ad 6)), (1, .int x1), (2, .int x2)] → va_P D ZCL (zw Ox Nx cA ad s1) H → va_S A s.heap H locs → f_X10_stepOn_c50 x1 x2 s1 = some (rr, sr) → W p l e (zrm 0) s m args below meth c H locs 0 0 (MQ below (zQc Ox Nx cA ad D A (some (.int rr)) sr) args s 0 0 A) (F0 m 50 ls []) := by
        intro x1 x2 s1 H locs ls hl hP hS hf
        rw [f_X10_stepOn_c50] at hf
        refine lv_iload_n hx hb dX10_stepOn_50 rfl (lv_at hl 1 rfl) ?_
        refine zif_ge (tgt := 56) hx hb dX10_stepOn_51 (by decide) hf (fun hf => ?_) (fun hf => ?_)
        · refine lv_aload_n hx hb dX10_stepOn_56 rfl (lv_at hl 0 rfl) ?_
          refine gf_X10_30 X hP (k := 6) (q := 68) rfl dX10_stepOn_57 rfl ?_
          refine lv_iload_n hx hb dX10_stepOn_60 rfl (lv_at hl 1 rfl) ?_
          refine lv_dup2_11 hx hb dX10_stepOn_61 rfl rfl ?_
          obtain ⟨g1, hf⟩ := zgd hf
          refine zald_i X hP (k := 68) (n := 6) (rs := []) rfl g1 dX10_stepOn_62 ?_
          refine lv_iconst (v := 1) hx hb dX10_stepOn_63 (by decide) ?_
          refine lv_isub hx hb dX10_stepOn_64 ?_
          obtain ⟨g2, hf⟩ := zgd hf
          refine zast_i X hP hS (k := 68) (n := 6) (rs := []) rfl g2 dX10_stepOn_65 (fun H locs hP hS => ?_)
          refine lv_iload_n hx hb dX10_stepOn_66 rfl (lv_at hl 1 rfl) ?_
          refine lv_iconst (v := 1) hx hb dX10_stepOn_67 (by decide) ?_
          refine lv_iadd hx hb dX10_stepOn_68 ?_
          refine lv_aload_n hx hb dX10_stepOn_69 rfl (lv_at hl 0 rfl) ?_
          refine gf_X10_46 X hP (k := 6) rfl dX10_stepOn_70 ?_
          refine zicmp_ge (tgt := 100) hx hb dX10_stepOn_73 (by decide) hf (fun hf => ?_) (fun hf => ?_)
          · refine lv_iconst (v := 1) hx hb dX10_stepOn_100 (by decide) ?_
            exact zret_i X hP hS hf rfl dX10_stepOn_101
          · refine lv_iload_n hx hb dX10_stepOn_76 rfl (lv_at hl 1 rfl) ?_
            refine lv_iconst (v := 1) hx hb dX10_stepOn_77 (by decide) ?_
            refine lv_iadd hx hb dX10_stepOn_78 ?_
            refine lv_bipush (v := 6) hx hb dX10_stepOn_79 (by decide) ?_
            refine zicmp_ge (tgt := 100) hx hb dX10_stepOn_81 (by decide) hf (fun hf => ?_) (fun hf => ?_)
            · refine lv_iconst (v := 1) hx hb dX10_stepOn_100 (by decide) ?_
              exact zret_i X hP hS hf rfl dX10_stepOn_101
            · refine lv_aload_n hx hb dX10_stepOn_84 rfl (lv_at hl 0 rfl) ?_
              refine gf_X10_30 X hP (k := 6) (q := 68) rfl dX10_stepOn_85 rfl ?_
              refine lv_iload_n hx hb dX10_stepOn_88 rfl (lv_at hl 1 rfl) ?_
              refine lv_iconst (v := 1) hx hb dX10_stepOn_89 (by decide) ?_
              refine lv_iadd hx hb dX10_stepOn_90 ?_
              refine lv_aload_n hx hb dX10_stepOn_91 rfl (lv_at hl 0 rfl) ?_
              refine gf_X10_39 X hP (k := 6) rfl dX10_stepOn_92 ?_
              refine lv_iload_n hx hb dX10_stepOn_95 rfl (lv_at hl 2 rfl) ?_
              refine lv_isub hx hb dX10_stepOn_96 ?_
              refine lv_iconst (v := 1) hx hb dX10_stepOn_97 (by decide) ?_
              refine lv_iadd hx hb dX10_stepOn_98 ?_
              obtain ⟨g3, hf⟩ := zgd hf
              refine zast_i X hP hS (k := 68) (n := 6) (rs := []) rfl g3 dX10_stepOn_99 (fun H locs hP hS => ?_)
              refine lv_iconst (v := 1) hx hb dX10_stepOn_100 (by decide) ?_
              exact zret_i X hP hS hf rfl dX10_stepOn_101
        · refine lv_iconst (v := 0) hx hb dX10_stepOn_54 (by decide) ?_
          exact zret_i X hP hS hf rfl dX10_stepOn_55
      have hc_43 : ∀ (x2 : Int32) (x3 : Int32) (t0 : Int32) (s1 : SS) (H : Heap) (locs : List Loc) (ls : Array Slot), lv_has ls 4 [(0, .ref (ad 6)), (2, .int x2), (3, .int x3)] → va_P D ZCL (zw Ox Nx cA ad s1) H → va_S A s.heap H locs → f_X10_stepOn_c43 (f_X10_stepOn_c6 n6) x2 x3 t0 s1 = some (rr, sr) → W p l e (zrm 0) s m args below meth c H locs 0 0 (MQ below (zQc Ox Nx cA ad D A (some (.int rr)) sr) args s 0 0 A) (F0 m 43 ls [.int t0]) := by
        intro x2 x3 t0 s1 H locs ls hl hP hS hf
        rw [f_X10_stepOn_c43] at hf
        refine lv_istore_n (lv' := [(1, .int t0), (0, .ref (ad 6)), (2, .int x2), (3, .int x3)]) hx hb dX10_stepOn_43 rfl hl (by decide) rfl (fun ls hl => ?_)
        refine lv_iinc (v := (x3 + 1)) (lv' := [(3, .int (x3 + 1)), (1, .int t0), (0, .ref (ad 6)), (2, .int x2)]) hx hb dX10_stepOn_44 hl (k := 3) rfl rfl (by decide) rfl (fun ls hl => ?_)
        refine lv_goto (tgt := 6) hx hb dX10_stepOn_47 (by decide) ?_
        exact ih6 t0 x2 (x3 + 1) s1 _ _ _ (lv_sub hl [2, 1, 3, 0] rfl) hP hS hf
      intro x1 x2 x3 s1 H locs ls hl hP hS hf
      rw [f_X10_stepOn_c6] at hf
      refine lv_iload_n hx hb dX10_stepOn_6 rfl (lv_at hl 3 rfl) ?_
      refine lv_aload_n hx hb dX10_stepOn_7 rfl (lv_at hl 0 rfl) ?_
      refine gf_X10_46 X hP (k := 6) rfl dX10_stepOn_8 ?_
      refine zicmp_ge (tgt := 50) hx hb dX10_stepOn_11 (by decide) hf (fun hf => ?_) (fun hf => ?_)
      · exact hc_50 x1 x2 s1 _ _ _ (lv_sub hl [0, 1, 2] rfl) hP hS hf
      · refine lv_iload_n hx hb dX10_stepOn_14 rfl (lv_at hl 3 rfl) ?_
        refine lv_bipush (v := 6) hx hb dX10_stepOn_15 (by decide) ?_
        refine zicmp_ge (tgt := 50) hx hb dX10_stepOn_17 (by decide) hf (fun hf => ?_) (fun hf => ?_)
        · exact hc_50 x1 x2 s1 _ _ _ (lv_sub hl [0, 1, 2] rfl) hP hS hf
        · refine lv_iload_n hx hb dX10_stepOn_20 rfl (lv_at hl 2 rfl) ?_
          refine lv_aload_n hx hb dX10_stepOn_21 rfl (lv_at hl 0 rfl) ?_
          refine gf_X10_30 X hP (k := 6) (q := 68) rfl dX10_stepOn_22 rfl ?_
          refine lv_iload_n hx hb dX10_stepOn_25 rfl (lv_at hl 3 rfl) ?_
          obtain ⟨g4, hf⟩ := zgd hf
          refine zald_i X hP (k := 68) (n := 6) (rs := []) rfl g4 dX10_stepOn_26 ?_
          refine lv_iadd hx hb dX10_stepOn_27 ?_
          refine lv_istore_n (lv' := [(2, .int (x2 + (s1.1 68 (x3).toNatClampNeg))), (0, .ref (ad 6)), (1, .int x1), (3, .int x3)]) hx hb dX10_stepOn_28 rfl hl (by decide) rfl (fun ls hl => ?_)
          refine lv_aload_n hx hb dX10_stepOn_29 rfl (lv_at hl 1 rfl) ?_
          refine gf_X10_30 X hP (k := 6) (q := 68) rfl dX10_stepOn_30 rfl ?_
          refine lv_iload_n hx hb dX10_stepOn_33 rfl (lv_at hl 3 rfl) ?_
          obtain ⟨g5, hf⟩ := zgd hf
          refine zald_i X hP (k := 68) (n := 6) (rs := []) rfl g5 dX10_stepOn_34 ?_
          refine zif_le (tgt := 42) hx hb dX10_stepOn_35 (by decide) hf (fun hf => ?_) (fun hf => ?_)
          · refine lv_iload_n hx hb dX10_stepOn_42 rfl (lv_at hl 2 rfl) ?_
            exact hc_43 (x2 + (s1.1 68 (x3).toNatClampNeg)) x3 x1 s1 _ _ _ (lv_sub hl [1, 0, 3] rfl) hP hS hf
          · refine lv_iload_n hx hb dX10_stepOn_38 rfl (lv_at hl 3 rfl) ?_
            refine lv_goto (tgt := 43) hx hb dX10_stepOn_39 (by decide) ?_
            exact hc_43 (x2 + (s1.1 68 (x3).toNatClampNeg)) x3 x3 s1 _ _ _ (lv_sub hl [1, 0, 3] rfl) hP hS hf
  rw [f_X10_stepOn] at hf
  refine lv_iconst (v := (-1)) hx hb dX10_stepOn_0 (by decide) ?_
  refine lv_istore_n (lv' := [(1, .int (-1)), (0, .ref (ad 6))]) hx hb dX10_stepOn_1 rfl hl (by decide) rfl (fun ls hl => ?_)
  refine lv_iconst (v := 0) hx hb dX10_stepOn_2 (by decide) ?_
  refine lv_istore_n (lv' := [(2, .int 0), (1, .int (-1)), (0, .ref (ad 6))]) hx hb dX10_stepOn_3 rfl hl (by decide) rfl (fun ls hl => ?_)
  refine lv_iconst (v := 0) hx hb dX10_stepOn_4 (by decide) ?_
  refine lv_istore_n (lv' := [(3, .int 0), (2, .int 0), (1, .int (-1)), (0, .ref (ad 6))]) hx hb dX10_stepOn_5 rfl hl (by decide) rfl (fun ls hl => ?_)
  exact hc_6 ZF (-1) 0 0 s0 _ _ _ (lv_sub hl [3, 2, 1, 0] rfl) hP hS hf
theorem dX10_orderBySize_0 : decode cX10_orderBySize 0 = .ok (.iconst 0, 1) := by decide +kernel
theorem dX10_orderBySize_1 : decode cX10_orderBySize 1 = .ok (.istore_n 1, 1) := by decide +kernel
theorem dX10_orderBySize_2 : decode cX10_orderBySize 2 = .ok (.iconst 0, 1) := by decide +kernel
theorem dX10_orderBySize_3 : decode cX10_orderBySize 3 = .ok (.istore_n 2, 1) := by decide +kernel
theorem dX10_orderBySize_4 : decode cX10_orderBySize 4 = .ok (.iload_n 2, 1) := by decide +kernel
theorem dX10_orderBySize_5 : decode cX10_orderBySize 5 = .ok (.iconst 5, 1) := by decide +kernel
theorem dX10_orderBySize_6 : decode cX10_orderBySize 6 = .ok (.if_icmp .gt 52, 3) := by decide +kernel
theorem dX10_orderBySize_9 : decode cX10_orderBySize 9 = .ok (.aload_n 0, 1) := by decide +kernel
theorem dX10_orderBySize_10 : decode cX10_orderBySize 10 = .ok (.getfield 27, 3) := by decide +kernel
theorem dX10_orderBySize_13 : decode cX10_orderBySize 13 = .ok (.iload_n 2, 1) := by decide +kernel
theorem dX10_orderBySize_14 : decode cX10_orderBySize 14 = .ok (.iload_n 1, 1) := by decide +kernel
theorem dX10_orderBySize_15 : decode cX10_orderBySize 15 = .ok (.iastore, 1) := by decide +kernel
theorem dX10_orderBySize_16 : decode cX10_orderBySize 16 = .ok (.iconst 0, 1) := by decide +kernel
theorem dX10_orderBySize_17 : decode cX10_orderBySize 17 = .ok (.istore_n 3, 1) := by decide +kernel
theorem dX10_orderBySize_18 : decode cX10_orderBySize 18 = .ok (.iload_n 3, 1) := by decide +kernel
theorem dX10_orderBySize_19 : decode cX10_orderBySize 19 = .ok (.aload_n 0, 1) := by decide +kernel
theorem dX10_orderBySize_20 : decode cX10_orderBySize 20 = .ok (.getfield 49, 3) := by decide +kernel
theorem dX10_orderBySize_23 : decode cX10_orderBySize 23 = .ok (.if_icmp .ge 29, 3) := by decide +kernel
theorem dX10_orderBySize_26 : decode cX10_orderBySize 26 = .ok (.aload_n 0, 1) := by decide +kernel
theorem dX10_orderBySize_27 : decode cX10_orderBySize 27 = .ok (.getfield 13, 3) := by decide +kernel
theorem dX10_orderBySize_30 : decode cX10_orderBySize 30 = .ok (.iload_n 3, 1) := by decide +kernel
theorem dX10_orderBySize_31 : decode cX10_orderBySize 31 = .ok (.iaload, 1) := by decide +kernel
theorem dX10_orderBySize_32 : decode cX10_orderBySize 32 = .ok (.iload_n 2, 1) := by decide +kernel
theorem dX10_orderBySize_33 : decode cX10_orderBySize 33 = .ok (.if_icmp .ne 13, 3) := by decide +kernel
theorem dX10_orderBySize_36 : decode cX10_orderBySize 36 = .ok (.aload_n 0, 1) := by decide +kernel
theorem dX10_orderBySize_37 : decode cX10_orderBySize 37 = .ok (.getfield 24, 3) := by decide +kernel
theorem dX10_orderBySize_40 : decode cX10_orderBySize 40 = .ok (.iload_n 1, 1) := by decide +kernel
theorem dX10_orderBySize_41 : decode cX10_orderBySize 41 = .ok (.iload_n 3, 1) := by decide +kernel
theorem dX10_orderBySize_42 : decode cX10_orderBySize 42 = .ok (.iastore, 1) := by decide +kernel
theorem dX10_orderBySize_43 : decode cX10_orderBySize 43 = .ok (.iinc 1 1, 3) := by decide +kernel
theorem dX10_orderBySize_46 : decode cX10_orderBySize 46 = .ok (.iinc 3 1, 3) := by decide +kernel
theorem dX10_orderBySize_49 : decode cX10_orderBySize 49 = .ok (.goto (-31), 3) := by decide +kernel
theorem dX10_orderBySize_52 : decode cX10_orderBySize 52 = .ok (.iinc 2 1, 3) := by decide +kernel
theorem dX10_orderBySize_55 : decode cX10_orderBySize 55 = .ok (.goto (-51), 3) := by decide +kernel
theorem dX10_orderBySize_58 : decode cX10_orderBySize 58 = .ok (.aload_n 0, 1) := by decide +kernel
theorem dX10_orderBySize_59 : decode cX10_orderBySize 59 = .ok (.getfield 27, 3) := by decide +kernel
theorem dX10_orderBySize_62 : decode cX10_orderBySize 62 = .ok (.bipush 6, 2) := by decide +kernel
theorem dX10_orderBySize_64 : decode cX10_orderBySize 64 = .ok (.iload_n 1, 1) := by decide +kernel
theorem dX10_orderBySize_65 : decode cX10_orderBySize 65 = .ok (.iastore, 1) := by decide +kernel
theorem dX10_orderBySize_66 : decode cX10_orderBySize 66 = .ok (.return_, 1) := by decide +kernel
set_option maxHeartbeats 4000000 in
set_option maxRecDepth 100000 in
theorem cn_X10_orderBySize {l : Launch} {cA : Nat → ClassId} {ad : Nat → Nat} {D : va_G} {E : Nat → Nat} {A : Nat → Prop}  {s0 sr : SS} {rr : Unit} (hf : f_X10_orderBySize s0 = some (rr, sr)) : zCon Ox Nx cA ad D E l yX10_orderBySize cX10_orderBySize 4 none 0 A [.ref (ad 6)] s0 none sr := by
  refine zstart (own := RX10) hOx (by decide) rfl (Nat.le_of_ble_eq_true rfl) ?_
  intro p e s m args below meth c X hP ls hl
  have hx := X.1
  have hb := X.2.1
  have hl : lv_has ls 4 [(0, .ref (ad 6))] := hl
  have hS : va_S A s.heap s.heap [] := va_S.rf
  have hc_4 : ∀ (n4 : Nat) (x1 : Int32) (x2 : Int32) (s1 : SS) (H : Heap) (locs : List Loc) (ls : Array Slot), lv_has ls 4 [(0, .ref (ad 6)), (1, .int x1), (2, .int x2)] → va_P D ZCL (zw Ox Nx cA ad s1) H → va_S A s.heap H locs → f_X10_orderBySize_c4 n4 x1 x2 s1 = some (rr, sr) → W p l e (zrm 0) s m args below meth c H locs 0 0 (MQ below (zQc Ox Nx cA ad D A none sr) args s 0 0 A) (F0 m 4 ls []) := by
    intro n4
    induction n4 with
    | zero =>
      intro x1 x2 s1 H locs ls hl hP hS hf
      rw [f_X10_orderBySize_c4] at hf
      cases hf
    | succ n4 ih4 =>
      have hc_18 : ∀ (n18 : Nat) (x1 : Int32) (x2 : Int32) (x3 : Int32) (s1 : SS) (H : Heap) (locs : List Loc) (ls : Array Slot), lv_has ls 4 [(0, .ref (ad 6)), (1, .int x1), (2, .int x2), (3, .int x3)] → va_P D ZCL (zw Ox Nx cA ad s1) H → va_S A s.heap H locs → f_X10_orderBySize_c18 (f_X10_orderBySize_c4 n4) n18 x1 x2 x3 s1 = some (rr, sr) → W p l e (zrm 0) s m args below meth c H locs 0 0 (MQ below (zQc Ox Nx cA ad D A none sr) args s 0 0 A) (F0 m 18 ls []) := by
        intro n18
        induction n18 with
        | zero =>
          intro x1 x2 x3 s1 H locs ls hl hP hS hf
          rw [f_X10_orderBySize_c18] at hf
          cases hf
        | succ n18 ih18 =>
          have hc_46 : ∀ (x1 : Int32) (x2 : Int32) (x3 : Int32) (s1 : SS) (H : Heap) (locs : List Loc) (ls : Array Slot), lv_has ls 4 [(0, .ref (ad 6)), (1, .int x1), (2, .int x2), (3, .int x3)] → va_P D ZCL (zw Ox Nx cA ad s1) H → va_S A s.heap H locs → f_X10_orderBySize_c46 (f_X10_orderBySize_c18 (f_X10_orderBySize_c4 n4) n18) (f_X10_orderBySize_c4 n4) x1 x2 x3 s1 = some (rr, sr) → W p l e (zrm 0) s m args below meth c H locs 0 0 (MQ below (zQc Ox Nx cA ad D A none sr) args s 0 0 A) (F0 m 46 ls []) := by
            intro x1 x2 x3 s1 H locs ls hl hP hS hf
            rw [f_X10_orderBySize_c46] at hf
            refine lv_iinc (v := (x3 + 1)) (lv' := [(3, .int (x3 + 1)), (0, .ref (ad 6)), (1, .int x1), (2, .int x2)]) hx hb dX10_orderBySize_46 hl (k := 3) rfl rfl (by decide) rfl (fun ls hl => ?_)
            refine lv_goto (tgt := 18) hx hb dX10_orderBySize_49 (by decide) ?_
            exact ih18 x1 x2 (x3 + 1) s1 _ _ _ (lv_sub hl [1, 2, 3, 0] rfl) hP hS hf
          intro x1 x2 x3 s1 H locs ls hl hP hS hf
          rw [f_X10_orderBySize_c18] at hf
          refine lv_iload_n hx hb dX10_orderBySize_18 rfl (lv_at hl 3 rfl) ?_
          refine lv_aload_n hx hb dX10_orderBySize_19 rfl (lv_at hl 0 rfl) ?_
          refine gf_X10_49 X hP (k := 6) rfl dX10_orderBySize_20 ?_
          refine zicmp_ge (tgt := 52) hx hb dX10_orderBySize_23 (by decide) hf (fun hf => ?_) (fun hf => ?_)
          · refine lv_iinc (v := (x2 + 1)) (lv' := [(2, .int (x2 + 1)), (0, .ref (ad 6)), (1, .int x1), (3, .int x3)]) hx hb dX10_orderBySize_52 hl (k := 2) rfl rfl (by decide) rfl (fun ls hl => ?_)
            refine lv_goto (tgt := 4) hx hb dX10_orderBySize_55 (by decide) ?_
            exact ih4 x1 (x2 + 1) s1 _ _ _ (lv_sub hl [1, 2, 0] rfl) hP hS hf
          · refine lv_aload_n hx hb dX10_orderBySize_26 rfl (lv_at hl 0 rfl) ?_
            refine gf_X10_13 X hP (k := 6) (q := 63) rfl dX10_orderBySize_27 rfl ?_
            refine lv_iload_n hx hb dX10_orderBySize_30 rfl (lv_at hl 3 rfl) ?_
            obtain ⟨g3, hf⟩ := zgd hf
            refine zald_i X hP (k := 63) (n := 462) (rs := []) rfl g3 dX10_orderBySize_31 ?_
            refine lv_iload_n hx hb dX10_orderBySize_32 rfl (lv_at hl 2 rfl) ?_
            refine zicmp_ne (tgt := 46) hx hb dX10_orderBySize_33 (by decide) hf (fun hf => ?_) (fun hf => ?_)
            · exact hc_46 x1 x2 x3 s1 _ _ _ (lv_sub hl [0, 1, 2, 3] rfl) hP hS hf
            · refine lv_aload_n hx hb dX10_orderBySize_36 rfl (lv_at hl 0 rfl) ?_
              refine gf_X10_24 X hP (k := 6) (q := 66) rfl dX10_orderBySize_37 rfl ?_
              refine lv_iload_n hx hb dX10_orderBySize_40 rfl (lv_at hl 1 rfl) ?_
              refine lv_iload_n hx hb dX10_orderBySize_41 rfl (lv_at hl 3 rfl) ?_
              obtain ⟨g4, hf⟩ := zgd hf
              refine zast_i X hP hS (k := 66) (n := 462) (rs := []) rfl g4 dX10_orderBySize_42 (fun H locs hP hS => ?_)
              refine lv_iinc (v := (x1 + 1)) (lv' := [(1, .int (x1 + 1)), (0, .ref (ad 6)), (2, .int x2), (3, .int x3)]) hx hb dX10_orderBySize_43 hl (k := 1) rfl rfl (by decide) rfl (fun ls hl => ?_)
              exact hc_46 (x1 + 1) x2 x3 (zS s1 66 (x1).toNatClampNeg x3) _ _ _ (lv_sub hl [1, 0, 2, 3] rfl) hP hS hf
      intro x1 x2 s1 H locs ls hl hP hS hf
      rw [f_X10_orderBySize_c4] at hf
      refine lv_iload_n hx hb dX10_orderBySize_4 rfl (lv_at hl 2 rfl) ?_
      refine lv_iconst (v := 5) hx hb dX10_orderBySize_5 (by decide) ?_
      refine zicmp_gt (tgt := 58) hx hb dX10_orderBySize_6 (by decide) hf (fun hf => ?_) (fun hf => ?_)
      · refine lv_aload_n hx hb dX10_orderBySize_58 rfl (lv_at hl 0 rfl) ?_
        refine gf_X10_27 X hP (k := 6) (q := 67) rfl dX10_orderBySize_59 rfl ?_
        refine lv_bipush (v := 6) hx hb dX10_orderBySize_62 (by decide) ?_
        refine lv_iload_n hx hb dX10_orderBySize_64 rfl (lv_at hl 1 rfl) ?_
        obtain ⟨g1, hf⟩ := zgd hf
        refine zast_i X hP hS (k := 67) (n := 7) (rs := []) rfl g1 dX10_orderBySize_65 (fun H locs hP hS => ?_)
        exact zret_v X hP hS hf dX10_orderBySize_66
      · refine lv_aload_n hx hb dX10_orderBySize_9 rfl (lv_at hl 0 rfl) ?_
        refine gf_X10_27 X hP (k := 6) (q := 67) rfl dX10_orderBySize_10 rfl ?_
        refine lv_iload_n hx hb dX10_orderBySize_13 rfl (lv_at hl 2 rfl) ?_
        refine lv_iload_n hx hb dX10_orderBySize_14 rfl (lv_at hl 1 rfl) ?_
        obtain ⟨g2, hf⟩ := zgd hf
        refine zast_i X hP hS (k := 67) (n := 7) (rs := []) rfl g2 dX10_orderBySize_15 (fun H locs hP hS => ?_)
        refine lv_iconst (v := 0) hx hb dX10_orderBySize_16 (by decide) ?_
        refine lv_istore_n (lv' := [(3, .int 0), (0, .ref (ad 6)), (1, .int x1), (2, .int x2)]) hx hb dX10_orderBySize_17 rfl hl (by decide) rfl (fun ls hl => ?_)
        exact hc_18 ZF x1 x2 0 (zS s1 67 (x2).toNatClampNeg x1) _ _ _ (lv_sub hl [1, 2, 3, 0] rfl) hP hS hf
  rw [f_X10_orderBySize] at hf
  refine lv_iconst (v := 0) hx hb dX10_orderBySize_0 (by decide) ?_
  refine lv_istore_n (lv' := [(1, .int 0), (0, .ref (ad 6))]) hx hb dX10_orderBySize_1 rfl hl (by decide) rfl (fun ls hl => ?_)
  refine lv_iconst (v := 0) hx hb dX10_orderBySize_2 (by decide) ?_
  refine lv_istore_n (lv' := [(2, .int 0), (1, .int 0), (0, .ref (ad 6))]) hx hb dX10_orderBySize_3 rfl hl (by decide) rfl (fun ls hl => ?_)
  exact hc_4 ZF 0 0 s0 _ _ _ (lv_sub hl [2, 1, 0] rfl) hP hS hf
theorem dX10_layOut_0 : decode cX10_layOut 0 = .ok (.aload_n 0, 1) := by decide +kernel
theorem dX10_layOut_1 : decode cX10_layOut 1 = .ok (.aload_n 1, 1) := by decide +kernel
theorem dX10_layOut_2 : decode cX10_layOut 2 = .ok (.invokevirtual 33, 3) := by decide +kernel
theorem dX10_layOut_5 : decode cX10_layOut 5 = .ok (.putfield 39, 3) := by decide +kernel
theorem dX10_layOut_8 : decode cX10_layOut 8 = .ok (.aload_n 0, 1) := by decide +kernel
theorem dX10_layOut_9 : decode cX10_layOut 9 = .ok (.aload_n 1, 1) := by decide +kernel
theorem dX10_layOut_10 : decode cX10_layOut 10 = .ok (.invokevirtual 43, 3) := by decide +kernel
theorem dX10_layOut_13 : decode cX10_layOut 13 = .ok (.putfield 46, 3) := by decide +kernel
theorem dX10_layOut_16 : decode cX10_layOut 16 = .ok (.aload_n 0, 1) := by decide +kernel
theorem dX10_layOut_17 : decode cX10_layOut 17 = .ok (.iconst 0, 1) := by decide +kernel
theorem dX10_layOut_18 : decode cX10_layOut 18 = .ok (.putfield 49, 3) := by decide +kernel
theorem dX10_layOut_21 : decode cX10_layOut 21 = .ok (.aload_n 0, 1) := by decide +kernel
theorem dX10_layOut_22 : decode cX10_layOut 22 = .ok (.getfield 30, 3) := by decide +kernel
theorem dX10_layOut_25 : decode cX10_layOut 25 = .ok (.iconst 0, 1) := by decide +kernel
theorem dX10_layOut_26 : decode cX10_layOut 26 = .ok (.invokestatic 52, 3) := by decide +kernel
theorem dX10_layOut_29 : decode cX10_layOut 29 = .ok (.aload_n 0, 1) := by decide +kernel
theorem dX10_layOut_30 : decode cX10_layOut 30 = .ok (.getfield 30, 3) := by decide +kernel
theorem dX10_layOut_33 : decode cX10_layOut 33 = .ok (.iconst 0, 1) := by decide +kernel
theorem dX10_layOut_34 : decode cX10_layOut 34 = .ok (.aload_n 0, 1) := by decide +kernel
theorem dX10_layOut_35 : decode cX10_layOut 35 = .ok (.getfield 39, 3) := by decide +kernel
theorem dX10_layOut_38 : decode cX10_layOut 38 = .ok (.iastore, 1) := by decide +kernel
theorem dX10_layOut_39 : decode cX10_layOut 39 = .ok (.iconst 1, 1) := by decide +kernel
theorem dX10_layOut_40 : decode cX10_layOut 40 = .ok (.istore_n 2, 1) := by decide +kernel
theorem dX10_layOut_41 : decode cX10_layOut 41 = .ok (.iconst 0, 1) := by decide +kernel
theorem dX10_layOut_42 : decode cX10_layOut 42 = .ok (.istore_n 3, 1) := by decide +kernel
theorem dX10_layOut_43 : decode cX10_layOut 43 = .ok (.iload_n 3, 1) := by decide +kernel
theorem dX10_layOut_44 : decode cX10_layOut 44 = .ok (.sipush 462, 3) := by decide +kernel
theorem dX10_layOut_47 : decode cX10_layOut 47 = .ok (.if_icmp .ge 23, 3) := by decide +kernel
theorem dX10_layOut_50 : decode cX10_layOut 50 = .ok (.iload_n 2, 1) := by decide +kernel
theorem dX10_layOut_51 : decode cX10_layOut 51 = .ok (.ifCond .eq 19, 3) := by decide +kernel
theorem dX10_layOut_54 : decode cX10_layOut 54 = .ok (.aload_n 0, 1) := by decide +kernel
theorem dX10_layOut_55 : decode cX10_layOut 55 = .ok (.aload_n 1, 1) := by decide +kernel
theorem dX10_layOut_56 : decode cX10_layOut 56 = .ok (.invokevirtual 58, 3) := by decide +kernel
theorem dX10_layOut_59 : decode cX10_layOut 59 = .ok (.aload_n 0, 1) := by decide +kernel
theorem dX10_layOut_60 : decode cX10_layOut 60 = .ok (.invokevirtual 62, 3) := by decide +kernel
theorem dX10_layOut_63 : decode cX10_layOut 63 = .ok (.istore_n 2, 1) := by decide +kernel
theorem dX10_layOut_64 : decode cX10_layOut 64 = .ok (.iinc 3 1, 3) := by decide +kernel
theorem dX10_layOut_67 : decode cX10_layOut 67 = .ok (.goto (-24), 3) := by decide +kernel
theorem dX10_layOut_70 : decode cX10_layOut 70 = .ok (.aload_n 0, 1) := by decide +kernel
theorem dX10_layOut_71 : decode cX10_layOut 71 = .ok (.invokevirtual 66, 3) := by decide +kernel
theorem dX10_layOut_74 : decode cX10_layOut 74 = .ok (.return_, 1) := by decide +kernel
set_option maxHeartbeats 4000000 in
set_option maxRecDepth 100000 in
theorem cn_X10_layOut {l : Launch} {cA : Nat → ClassId} {ad : Nat → Nat} {D : va_G} {E : Nat → Nat} {A : Nat → Prop} {k1 : Nat} {s0 sr : SS} {rr : Unit} (hf : f_X10_layOut k1 s0 = some (rr, sr)) : zCon Ox Nx cA ad D E l yX10_layOut cX10_layOut 4 none 4 A [.ref (ad 6), .ref (ad k1)] s0 none sr := by
  refine zstart (own := RX10) hOx (by decide) rfl (Nat.le_of_ble_eq_true rfl) ?_
  intro p e s m args below meth c X hP ls hl
  have hx := X.1
  have hb := X.2.1
  have hl : lv_has ls 4 [(0, .ref (ad 6)), (1, .ref (ad k1))] := hl
  have hS : va_S A s.heap s.heap [] := va_S.rf
  have hc_43 : ∀ (n43 : Nat) (k1 : Nat) (x2 : Int32) (x3 : Int32) (s1 : SS) (H : Heap) (locs : List Loc) (ls : Array Slot), lv_has ls 4 [(0, .ref (ad 6)), (1, .ref (ad k1)), (2, .int x2), (3, .int x3)] → va_P D ZCL (zw Ox Nx cA ad s1) H → va_S A s.heap H locs → f_X10_layOut_c43 n43 k1 x2 x3 s1 = some (rr, sr) → W p l e (zrm 4) s m args below meth c H locs 0 0 (MQ below (zQc Ox Nx cA ad D A none sr) args s 0 0 A) (F0 m 43 ls []) := by
    intro n43
    induction n43 with
    | zero =>
      intro k1 x2 x3 s1 H locs ls hl hP hS hf
      rw [f_X10_layOut_c43] at hf
      cases hf
    | succ n43 ih43 =>
      have hc_70 : ∀  (s1 : SS) (H : Heap) (locs : List Loc) (ls : Array Slot), lv_has ls 4 [(0, .ref (ad 6))] → va_P D ZCL (zw Ox Nx cA ad s1) H → va_S A s.heap H locs → f_X10_layOut_c70  s1 = some (rr, sr) → W p l e (zrm 4) s m args below meth c H locs 0 0 (MQ below (zQc Ox Nx cA ad D A none sr) args s 0 0 A) (F0 m 70 ls []) := by
        intro  s1 H locs ls hl hP hS hf
        rw [f_X10_layOut_c70] at hf
        refine lv_aload_n hx hb dX10_layOut_70 rfl (lv_at hl 0 rfl) ?_
        obtain ⟨r11, s12, h13, hf⟩ := zbd_some hf
        refine zcallV X hP hS hl.1 (k := 6) (As := []) (rest := []) (cn_X10_orderBySize h13) cw_X10_orderBySize zp_10 rfl (by decide) rfl ml_X10_66 (by decide) rfl rfl (Nat.le_of_ble_eq_true rfl) dX10_layOut_71 (fun H locs hP hS => ?_)
        exact zret_v X hP hS hf dX10_layOut_74
      intro k1 x2 x3 s1 H locs ls hl hP hS hf
      rw [f_X10_layOut_c43] at hf
      obtain ⟨g1, hf⟩ := zgd hf
      refine lv_iload_n hx hb dX10_layOut_43 rfl (lv_at hl 3 rfl) ?_
      refine lv_sipush (v := 462) hx hb dX10_layOut_44 (by decide) ?_
      refine zicmp_ge (tgt := 70) hx hb dX10_layOut_47 (by decide) hf (fun hf => ?_) (fun hf => ?_)
      · exact hc_70  s1 _ _ _ (lv_sub hl [0] rfl) hP hS hf
      · refine lv_iload_n hx hb dX10_layOut_50 rfl (lv_at hl 2 rfl) ?_
        refine zif_eq (tgt := 70) hx hb dX10_layOut_51 (by decide) hf (fun hf => ?_) (fun hf => ?_)
        · exact hc_70  s1 _ _ _ (lv_sub hl [0] rfl) hP hS hf
        · refine lv_aload_n hx hb dX10_layOut_54 rfl (lv_at hl 0 rfl) ?_
          refine lv_aload_n hx hb dX10_layOut_55 rfl (lv_at hl 1 rfl) ?_
          obtain ⟨r14, s15, h16, hf⟩ := zbd_some hf
          refine zcallV X hP hS hl.1 (k := 6) (As := [.ref (ad k1)]) (rest := []) (cn_X10_addTerm h16) cw_X10_addTerm zp_10 rfl (by decide) rfl ml_X10_58 (by decide) rfl rfl (Nat.le_of_ble_eq_true rfl) dX10_layOut_56 (fun H locs hP hS => ?_)
          refine lv_aload_n hx hb dX10_layOut_59 rfl (lv_at hl 0 rfl) ?_
          obtain ⟨r17, s18, h19, hf⟩ := zbd_some hf
          refine zcallV X hP hS hl.1 (k := 6) (As := []) (rest := []) (cn_X10_stepOn h19) cw_X10_stepOn zp_10 rfl (by decide) rfl ml_X10_62 (by decide) rfl rfl (Nat.le_of_ble_eq_true rfl) dX10_layOut_60 (fun H locs hP hS => ?_)
          refine lv_istore_n (lv' := [(2, .int r17), (0, .ref (ad 6)), (1, .ref (ad k1)), (3, .int x3)]) hx hb dX10_layOut_63 rfl hl (by decide) rfl (fun ls hl => ?_)
          refine lv_iinc (v := (x3 + 1)) (lv' := [(3, .int (x3 + 1)), (2, .int r17), (0, .ref (ad 6)), (1, .ref (ad k1))]) hx hb dX10_layOut_64 hl (k := 3) rfl rfl (by decide) rfl (fun ls hl => ?_)
          refine lv_goto (tgt := 43) hx hb dX10_layOut_67 (by decide) ?_
          exact ih43 k1 r17 (x3 + 1) s18 _ _ _ (lv_sub hl [2, 3, 1, 0] rfl) hP hS hf
  rw [f_X10_layOut] at hf
  obtain ⟨g1, hf⟩ := zgd hf
  refine lv_aload_n hx hb dX10_layOut_0 rfl (lv_at hl 0 rfl) ?_
  refine lv_aload_n hx hb dX10_layOut_1 rfl (lv_at hl 1 rfl) ?_
  obtain ⟨r1, s2, h3, hf⟩ := zbd_some hf
  refine zcallV X hP hS hl.1 (k := k1) (As := []) (rest := [.ref (ad 6)]) (cn_X7_dimension h3) cw_X7_dimension zp_7 g1 (by decide) rfl ml_X10_33 (by decide) rfl rfl (Nat.le_of_ble_eq_true rfl) dX10_layOut_2 (fun H locs hP hS => ?_)
  refine pf_X10_39 X hP hS (k := 6) rfl dX10_layOut_5 (fun H locs hP hS => ?_)
  refine lv_aload_n hx hb dX10_layOut_8 rfl (lv_at hl 0 rfl) ?_
  refine lv_aload_n hx hb dX10_layOut_9 rfl (lv_at hl 1 rfl) ?_
  obtain ⟨r4, s5, h6, hf⟩ := zbd_some hf
  refine zcallV X hP hS hl.1 (k := k1) (As := []) (rest := [.ref (ad 6)]) (cn_X7_letterCount h6) cw_X7_letterCount zp_7 g1 (by decide) rfl ml_X10_43 (by decide) rfl rfl (Nat.le_of_ble_eq_true rfl) dX10_layOut_10 (fun H locs hP hS => ?_)
  refine pf_X10_46 X hP hS (k := 6) rfl dX10_layOut_13 (fun H locs hP hS => ?_)
  refine lv_aload_n hx hb dX10_layOut_16 rfl (lv_at hl 0 rfl) ?_
  refine lv_iconst (v := 0) hx hb dX10_layOut_17 (by decide) ?_
  refine pf_X10_49 X hP hS (k := 6) rfl dX10_layOut_18 (fun H locs hP hS => ?_)
  refine lv_aload_n hx hb dX10_layOut_21 rfl (lv_at hl 0 rfl) ?_
  refine gf_X10_30 X hP (k := 6) (q := 68) rfl dX10_layOut_22 rfl ?_
  refine lv_iconst (v := 0) hx hb dX10_layOut_25 (by decide) ?_
  obtain ⟨r7, s8, h9, hf⟩ := zbd_some hf
  refine zcallS X hP hS hl.1 (As := [.ref (ad 68), .int 0]) (rest := []) (cn_J7_fill_53178 h9) cw_J7_fill_53178 ml_X10_52 (by decide) rfl rfl (Nat.le_of_ble_eq_true rfl) dX10_layOut_26 (fun H locs hP hS => ?_)
  refine lv_aload_n hx hb dX10_layOut_29 rfl (lv_at hl 0 rfl) ?_
  refine gf_X10_30 X hP (k := 6) (q := 68) rfl dX10_layOut_30 rfl ?_
  refine lv_iconst (v := 0) hx hb dX10_layOut_33 (by decide) ?_
  refine lv_aload_n hx hb dX10_layOut_34 rfl (lv_at hl 0 rfl) ?_
  refine gf_X10_39 X hP (k := 6) rfl dX10_layOut_35 ?_
  obtain ⟨g10, hf⟩ := zgd hf
  refine zast_i X hP hS (k := 68) (n := 6) (rs := []) rfl g10 dX10_layOut_38 (fun H locs hP hS => ?_)
  refine lv_iconst (v := 1) hx hb dX10_layOut_39 (by decide) ?_
  refine lv_istore_n (lv' := [(2, .int 1), (0, .ref (ad 6)), (1, .ref (ad k1))]) hx hb dX10_layOut_40 rfl hl (by decide) rfl (fun ls hl => ?_)
  refine lv_iconst (v := 0) hx hb dX10_layOut_41 (by decide) ?_
  refine lv_istore_n (lv' := [(3, .int 0), (2, .int 1), (0, .ref (ad 6)), (1, .ref (ad k1))]) hx hb dX10_layOut_42 rfl hl (by decide) rfl (fun ls hl => ?_)
  exact hc_43 ZF k1 1 0 (zS s8 68 ((0 : Int32)).toNatClampNeg (s8.1 6 0)) _ _ _ (lv_sub hl [2, 3, 1, 0] rfl) hP hS hf
