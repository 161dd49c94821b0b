theorem dX4_shown_0 : decode cX4_shown 0 = .ok (.iconst 0, 1) := by decide +kernel
theorem dX4_shown_1 : decode cX4_shown 1 = .ok (.istore_n 2, 1) := by decide +kernel
theorem dX4_shown_2 : decode cX4_shown 2 = .ok (.iconst 0, 1) := by decide +kernel
theorem dX4_shown_3 : decode cX4_shown 3 = .ok (.istore_n 3, 1) := by decide +kernel
theorem dX4_shown_4 : decode cX4_shown 4 = .ok (.iload_n 3, 1) := by decide +kernel
theorem dX4_shown_5 : decode cX4_shown 5 = .ok (.aload_n 1, 1) := by decide +kernel
theorem dX4_shown_6 : decode cX4_shown 6 = .ok (.getfield 41, 3) := by decide +kernel
theorem dX4_shown_9 : decode cX4_shown 9 = .ok (.if_icmp .ge 28, 3) := by decide +kernel
theorem dX4_shown_12 : decode cX4_shown 12 = .ok (.iload_n 2, 1) := by decide +kernel
theorem dX4_shown_13 : decode cX4_shown 13 = .ok (.aload_n 0, 1) := by decide +kernel
theorem dX4_shown_14 : decode cX4_shown 14 = .ok (.aload_n 1, 1) := by decide +kernel
theorem dX4_shown_15 : decode cX4_shown 15 = .ok (.iload_n 3, 1) := by decide +kernel
theorem dX4_shown_16 : decode cX4_shown 16 = .ok (.invokevirtual 44, 3) := by decide +kernel
theorem dX4_shown_19 : decode cX4_shown 19 = .ok (.lconst 0, 1) := by decide +kernel
theorem dX4_shown_20 : decode cX4_shown 20 = .ok (.lcmp, 1) := by decide +kernel
theorem dX4_shown_21 : decode cX4_shown 21 = .ok (.ifCond .eq 7, 3) := by decide +kernel
theorem dX4_shown_24 : decode cX4_shown 24 = .ok (.iconst 1, 1) := by decide +kernel
theorem dX4_shown_25 : decode cX4_shown 25 = .ok (.goto 4, 3) := by decide +kernel
theorem dX4_shown_28 : decode cX4_shown 28 = .ok (.iconst 0, 1) := by decide +kernel
theorem dX4_shown_29 : decode cX4_shown 29 = .ok (.iadd, 1) := by decide +kernel
theorem dX4_shown_30 : decode cX4_shown 30 = .ok (.istore_n 2, 1) := by decide +kernel
theorem dX4_shown_31 : decode cX4_shown 31 = .ok (.iinc 3 1, 3) := by decide +kernel
theorem dX4_shown_34 : decode cX4_shown 34 = .ok (.goto (-30), 3) := by decide +kernel
theorem dX4_shown_37 : decode cX4_shown 37 = .ok (.iload_n 2, 1) := by decide +kernel
theorem dX4_shown_38 : decode cX4_shown 38 = .ok (.ireturn, 1) := by decide +kernel
set_option maxHeartbeats 4000000 in
set_option maxRecDepth 100000 in
theorem cn_X4_shown {l : Launch} {cA : Nat → ClassId} {ad : Nat → Nat} {D : va_G} {E : Nat → Nat} {A : Nat → Prop} {k0 : Nat} {s0 sr : SS} {rr : Int32} (hf : f_X4_shown k0 s0 = some (rr, sr)) : zCon Ox Nx cA ad D E l yX4_shown cX4_shown 4 (some .int) 1 A [.ref (ad k0), .ref (ad 6)] s0 (some (.int rr)) sr := by
  refine zstart (own := RX4) hOx (by decide) rfl (Nat.le_of_ble_eq_true rfl) ?_
  intro p e s m args below meth c X hP ls hl
  have hx := X.1
  have hb := X.2.1
  have hl : lv_has ls 4 [(0, .ref (ad k0)), (1, .ref (ad 6))] := hl
  have hS : va_S A s.heap s.heap [] := va_S.rf
  have hc_4 : ∀ (n4 : Nat) (k0 : Nat) (x2 : Int32) (x3 : Int32) (s1 : SS) (H : Heap) (locs : List Loc) (ls : Array Slot), lv_has ls 4 [(0, .ref (ad k0)), (1, .ref (ad 6)), (2, .int x2), (3, .int x3)] → va_P D ZCL (zw Ox Nx cA ad s1) H → va_S A s.heap H locs → f_X4_shown_c4 n4 k0 x2 x3 s1 = some (rr, sr) → W p l e (zrm 1) s m args below meth c H locs 0 0 (MQ below (zQc Ox Nx cA ad D A (some (.int rr)) sr) args s 0 0 A) (F0 m 4 ls []) := by
    intro n4
    induction n4 with
    | zero =>
      intro k0 x2 x3 s1 H locs ls hl hP hS hf
      rw [f_X4_shown_c4] at hf
      cases hf
    | succ n4 ih4 =>
      have hc_29 : ∀ (k0 : Nat) (x3 : Int32) (t0 : Int32) (t1 : Int32) (s1 : SS) (H : Heap) (locs : List Loc) (ls : Array Slot), lv_has ls 4 [(0, .ref (ad k0)), (1, .ref (ad 6)), (3, .int x3)] → va_P D ZCL (zw Ox Nx cA ad s1) H → va_S A s.heap H locs → f_X4_shown_c29 (f_X4_shown_c4 n4) k0 x3 t0 t1 s1 = some (rr, sr) → W p l e (zrm 1) s m args below meth c H locs 0 0 (MQ below (zQc Ox Nx cA ad D A (some (.int rr)) sr) args s 0 0 A) (F0 m 29 ls [.int t0, .int t1]) := by
        intro k0 x3 t0 t1 s1 H locs ls hl hP hS hf
        rw [f_X4_shown_c29] at hf
        obtain ⟨gp0, hf⟩ := zgd hf
        refine lv_iadd hx hb dX4_shown_29 ?_
        refine lv_istore_n (lv' := [(2, .int (t1 + t0)), (0, .ref (ad k0)), (1, .ref (ad 6)), (3, .int x3)]) hx hb dX4_shown_30 rfl hl (by decide) rfl (fun ls hl => ?_)
        refine lv_iinc (v := (x3 + 1)) (lv' := [(3, .int (x3 + 1)), (2, .int (t1 + t0)), (0, .ref (ad k0)), (1, .ref (ad 6))]) hx hb dX4_shown_31 hl (k := 3) rfl rfl (by decide) rfl (fun ls hl => ?_)
        refine lv_goto (tgt := 4) hx hb dX4_shown_34 (by decide) ?_
        exact ih4 k0 (t1 + t0) (x3 + 1) s1 _ _ _ (lv_sub hl [2, 3, 1, 0] rfl) hP hS hf
      intro k0 x2 x3 s1 H locs ls hl hP hS hf
      rw [f_X4_shown_c4] at hf
      obtain ⟨gp0, hf⟩ := zgd hf
      refine lv_iload_n hx hb dX4_shown_4 rfl (lv_at hl 3 rfl) ?_
      refine lv_aload_n hx hb dX4_shown_5 rfl (lv_at hl 1 rfl) ?_
      refine gf_X4_41 X hP (k := 6) rfl dX4_shown_6 ?_
      refine zicmp_ge (tgt := 37) hx hb dX4_shown_9 (by decide) hf (fun hf => ?_) (fun hf => ?_)
      · refine lv_iload_n hx hb dX4_shown_37 rfl (lv_at hl 2 rfl) ?_
        exact zret_i X hP hS hf rfl dX4_shown_38
      · refine lv_iload_n hx hb dX4_shown_12 rfl (lv_at hl 2 rfl) ?_
        refine lv_aload_n hx hb dX4_shown_13 rfl (lv_at hl 0 rfl) ?_
        refine lv_aload_n hx hb dX4_shown_14 rfl (lv_at hl 1 rfl) ?_
        refine lv_iload_n hx hb dX4_shown_15 rfl (lv_at hl 3 rfl) ?_
        obtain ⟨r1, s2, h3, hf⟩ := zbd_some hf
        refine zcallV X hP hS hl.1 (k := k0) (As := [.ref (ad 6), .int x3]) (rest := [.int x2]) (cn_X4_numberAt h3) cw_X4_numberAt zp_4 gp0 (by decide) rfl ml_X4_44 (by decide) rfl rfl (Nat.le_of_ble_eq_true rfl) dX4_shown_16 (fun H locs hP hS => ?_)
        refine lv_lconst (v := 0) hx hb dX4_shown_19 (by decide) ?_
        refine W.lcmp hx hb dX4_shown_20 ?_
        refine zif_eq (tgt := 28) hx hb dX4_shown_21 (by decide) hf (fun hf => ?_) (fun hf => ?_)
        · refine lv_iconst (v := 0) hx hb dX4_shown_28 (by decide) ?_
          exact hc_29 k0 x3 0 x2 s2 _ _ _ (lv_sub hl [0, 1, 3] rfl) hP hS hf
        · refine lv_iconst (v := 1) hx hb dX4_shown_24 (by decide) ?_
          refine lv_goto (tgt := 29) hx hb dX4_shown_25 (by decide) ?_
          exact hc_29 k0 x3 1 x2 s2 _ _ _ (lv_sub hl [0, 1, 3] rfl) hP hS hf
  rw [f_X4_shown] at hf
  obtain ⟨gp0, hf⟩ := zgd hf
  refine lv_iconst (v := 0) hx hb dX4_shown_0 (by decide) ?_
  refine lv_istore_n (lv' := [(2, .int 0), (0, .ref (ad k0)), (1, .ref (ad 6))]) hx hb dX4_shown_1 rfl hl (by decide) rfl (fun ls hl => ?_)
  refine lv_iconst (v := 0) hx hb dX4_shown_2 (by decide) ?_
  refine lv_istore_n (lv' := [(3, .int 0), (2, .int 0), (0, .ref (ad k0)), (1, .ref (ad 6))]) hx hb dX4_shown_3 rfl hl (by decide) rfl (fun ls hl => ?_)
  exact hc_4 ZF k0 0 0 s0 _ _ _ (lv_sub hl [2, 3, 1, 0] rfl) hP hS hf
theorem dX4_greatestSize_0 : decode cX4_greatestSize 0 = .ok (.bipush (-2), 2) := by decide +kernel
theorem dX4_greatestSize_2 : decode cX4_greatestSize 2 = .ok (.istore_n 2, 1) := by decide +kernel
theorem dX4_greatestSize_3 : decode cX4_greatestSize 3 = .ok (.iconst 0, 1) := by decide +kernel
theorem dX4_greatestSize_4 : decode cX4_greatestSize 4 = .ok (.istore_n 3, 1) := by decide +kernel
theorem dX4_greatestSize_5 : decode cX4_greatestSize 5 = .ok (.iload_n 3, 1) := by decide +kernel
theorem dX4_greatestSize_6 : decode cX4_greatestSize 6 = .ok (.aload_n 1, 1) := by decide +kernel
theorem dX4_greatestSize_7 : decode cX4_greatestSize 7 = .ok (.getfield 41, 3) := by decide +kernel
theorem dX4_greatestSize_10 : decode cX4_greatestSize 10 = .ok (.if_icmp .ge 31, 3) := by decide +kernel
theorem dX4_greatestSize_13 : decode cX4_greatestSize 13 = .ok (.aload_n 0, 1) := by decide +kernel
theorem dX4_greatestSize_14 : decode cX4_greatestSize 14 = .ok (.aload_n 1, 1) := by decide +kernel
theorem dX4_greatestSize_15 : decode cX4_greatestSize 15 = .ok (.iload_n 3, 1) := by decide +kernel
theorem dX4_greatestSize_16 : decode cX4_greatestSize 16 = .ok (.invokevirtual 44, 3) := by decide +kernel
theorem dX4_greatestSize_19 : decode cX4_greatestSize 19 = .ok (.lconst 0, 1) := by decide +kernel
theorem dX4_greatestSize_20 : decode cX4_greatestSize 20 = .ok (.lcmp, 1) := by decide +kernel
theorem dX4_greatestSize_21 : decode cX4_greatestSize 21 = .ok (.ifCond .eq 14, 3) := by decide +kernel
theorem dX4_greatestSize_24 : decode cX4_greatestSize 24 = .ok (.iload_n 2, 1) := by decide +kernel
theorem dX4_greatestSize_25 : decode cX4_greatestSize 25 = .ok (.aload_n 1, 1) := by decide +kernel
theorem dX4_greatestSize_26 : decode cX4_greatestSize 26 = .ok (.getfield 34, 3) := by decide +kernel
theorem dX4_greatestSize_29 : decode cX4_greatestSize 29 = .ok (.iload_n 3, 1) := by decide +kernel
theorem dX4_greatestSize_30 : decode cX4_greatestSize 30 = .ok (.iaload, 1) := by decide +kernel
theorem dX4_greatestSize_31 : decode cX4_greatestSize 31 = .ok (.invokestatic 48, 3) := by decide +kernel
theorem dX4_greatestSize_34 : decode cX4_greatestSize 34 = .ok (.istore_n 2, 1) := by decide +kernel
theorem dX4_greatestSize_35 : decode cX4_greatestSize 35 = .ok (.iinc 3 1, 3) := by decide +kernel
theorem dX4_greatestSize_38 : decode cX4_greatestSize 38 = .ok (.goto (-33), 3) := by decide +kernel
theorem dX4_greatestSize_41 : decode cX4_greatestSize 41 = .ok (.iload_n 2, 1) := by decide +kernel
theorem dX4_greatestSize_42 : decode cX4_greatestSize 42 = .ok (.ireturn, 1) := by decide +kernel
set_option maxHeartbeats 4000000 in
set_option maxRecDepth 100000 in
theorem cn_X4_greatestSize {l : Launch} {cA : Nat → ClassId} {ad : Nat → Nat} {D : va_G} {E : Nat → Nat} {A : Nat → Prop} {k0 : Nat} {s0 sr : SS} {rr : Int32} (hf : f_X4_greatestSize k0 s0 = some (rr, sr)) : zCon Ox Nx cA ad D E l yX4_greatestSize cX4_greatestSize 4 (some .int) 1 A [.ref (ad k0), .ref (ad 6)] s0 (some (.int rr)) sr := by
  refine zstart (own := RX4) hOx (by decide) rfl (Nat.le_of_ble_eq_true rfl) ?_
  intro p e s m args below meth c X hP ls hl
  have hx := X.1
  have hb := X.2.1
  have hl : lv_has ls 4 [(0, .ref (ad k0)), (1, .ref (ad 6))] := hl
  have hS : va_S A s.heap s.heap [] := va_S.rf
  have hc_5 : ∀ (n5 : Nat) (k0 : Nat) (x2 : Int32) (x3 : Int32) (s1 : SS) (H : Heap) (locs : List Loc) (ls : Array Slot), lv_has ls 4 [(0, .ref (ad k0)), (1, .ref (ad 6)), (2, .int x2), (3, .int x3)] → va_P D ZCL (zw Ox Nx cA ad s1) H → va_S A s.heap H locs → f_X4_greatestSize_c5 n5 k0 x2 x3 s1 = some (rr, sr) → W p l e (zrm 1) s m args below meth c H locs 0 0 (MQ below (zQc Ox Nx cA ad D A (some (.int rr)) sr) args s 0 0 A) (F0 m 5 ls []) := by
    intro n5
    induction n5 with
    | zero =>
      intro k0 x2 x3 s1 H locs ls hl hP hS hf
      rw [f_X4_greatestSize_c5] at hf
      cases hf
    | succ n5 ih5 =>
      have hc_35 : ∀ (k0 : Nat) (x2 : Int32) (x3 : Int32) (s1 : SS) (H : Heap) (locs : List Loc) (ls : Array Slot), lv_has ls 4 [(0, .ref (ad k0)), (1, .ref (ad 6)), (2, .int x2), (3, .int x3)] → va_P D ZCL (zw Ox Nx cA ad s1) H → va_S A s.heap H locs → f_X4_greatestSize_c35 (f_X4_greatestSize_c5 n5) k0 x2 x3 s1 = some (rr, sr) → W p l e (zrm 1) s m args below meth c H locs 0 0 (MQ below (zQc Ox Nx cA ad D A (some (.int rr)) sr) args s 0 0 A) (F0 m 35 ls []) := by
        intro k0 x2 x3 s1 H locs ls hl hP hS hf
        rw [f_X4_greatestSize_c35] at hf
        obtain ⟨gp0, hf⟩ := zgd hf
        refine lv_iinc (v := (x3 + 1)) (lv' := [(3, .int (x3 + 1)), (0, .ref (ad k0)), (1, .ref (ad 6)), (2, .int x2)]) hx hb dX4_greatestSize_35 hl (k := 3) rfl rfl (by decide) rfl (fun ls hl => ?_)
        refine lv_goto (tgt := 5) hx hb dX4_greatestSize_38 (by decide) ?_
        exact ih5 k0 x2 (x3 + 1) s1 _ _ _ (lv_sub hl [1, 2, 3, 0] rfl) hP hS hf
      intro k0 x2 x3 s1 H locs ls hl hP hS hf
      rw [f_X4_greatestSize_c5] at hf
      obtain ⟨gp0, hf⟩ := zgd hf
      refine lv_iload_n hx hb dX4_greatestSize_5 rfl (lv_at hl 3 rfl) ?_
      refine lv_aload_n hx hb dX4_greatestSize_6 rfl (lv_at hl 1 rfl) ?_
      refine gf_X4_41 X hP (k := 6) rfl dX4_greatestSize_7 ?_
      refine zicmp_ge (tgt := 41) hx hb dX4_greatestSize_10 (by decide) hf (fun hf => ?_) (fun hf => ?_)
      · refine lv_iload_n hx hb dX4_greatestSize_41 rfl (lv_at hl 2 rfl) ?_
        exact zret_i X hP hS hf rfl dX4_greatestSize_42
      · refine lv_aload_n hx hb dX4_greatestSize_13 rfl (lv_at hl 0 rfl) ?_
        refine lv_aload_n hx hb dX4_greatestSize_14 rfl (lv_at hl 1 rfl) ?_
        refine lv_iload_n hx hb dX4_greatestSize_15 rfl (lv_at hl 3 rfl) ?_
        obtain ⟨r1, s2, h3, hf⟩ := zbd_some hf
        refine zcallV X hP hS hl.1 (k := k0) (As := [.ref (ad 6), .int x3]) (rest := []) (cn_X4_numberAt h3) cw_X4_numberAt zp_4 gp0 (by decide) rfl ml_X4_44 (by decide) rfl rfl (Nat.le_of_ble_eq_true rfl) dX4_greatestSize_16 (fun H locs hP hS => ?_)
        refine lv_lconst (v := 0) hx hb dX4_greatestSize_19 (by decide) ?_
        refine W.lcmp hx hb dX4_greatestSize_20 ?_
        refine zif_eq (tgt := 35) hx hb dX4_greatestSize_21 (by decide) hf (fun hf => ?_) (fun hf => ?_)
        · exact hc_35 k0 x2 x3 s2 _ _ _ (lv_sub hl [0, 1, 2, 3] rfl) hP hS hf
        · refine lv_iload_n hx hb dX4_greatestSize_24 rfl (lv_at hl 2 rfl) ?_
          refine lv_aload_n hx hb dX4_greatestSize_25 rfl (lv_at hl 1 rfl) ?_
          refine gf_X4_34 X hP (k := 6) (q := 63) rfl dX4_greatestSize_26 rfl ?_
          refine lv_iload_n hx hb dX4_greatestSize_29 rfl (lv_at hl 3 rfl) ?_
          obtain ⟨g4, hf⟩ := zgd hf
          refine zald_i X hP (k := 63) (n := 462) (rs := []) rfl g4 dX4_greatestSize_30 ?_
          refine zmax X hl.1 ml_X4_48 nt_max.1 nt_max.2.1 nt_max.2.2 ⟨Nat.le_of_ble_eq_true rfl, Nat.le_of_ble_eq_true rfl⟩ dX4_greatestSize_31 ?_
          refine lv_istore_n (lv' := [(2, .int (if x2 < (s2.1 63 (x3).toNatClampNeg) then (s2.1 63 (x3).toNatClampNeg) else x2)), (0, .ref (ad k0)), (1, .ref (ad 6)), (3, .int x3)]) hx hb dX4_greatestSize_34 rfl hl (by decide) rfl (fun ls hl => ?_)
          exact hc_35 k0 (if x2 < (s2.1 63 (x3).toNatClampNeg) then (s2.1 63 (x3).toNatClampNeg) else x2) x3 s2 _ _ _ (lv_sub hl [1, 2, 0, 3] rfl) hP hS hf
  rw [f_X4_greatestSize] at hf
  obtain ⟨gp0, hf⟩ := zgd hf
  refine lv_bipush (v := (-2)) hx hb dX4_greatestSize_0 (by decide) ?_
  refine lv_istore_n (lv' := [(2, .int (-2)), (0, .ref (ad k0)), (1, .ref (ad 6))]) hx hb dX4_greatestSize_2 rfl hl (by decide) rfl (fun ls hl => ?_)
  refine lv_iconst (v := 0) hx hb dX4_greatestSize_3 (by decide) ?_
  refine lv_istore_n (lv' := [(3, .int 0), (2, .int (-2)), (0, .ref (ad k0)), (1, .ref (ad 6))]) hx hb dX4_greatestSize_4 rfl hl (by decide) rfl (fun ls hl => ?_)
  exact hc_5 ZF k0 (-2) 0 s0 _ _ _ (lv_sub hl [2, 3, 1, 0] rfl) hP hS hf
theorem dX4_leastSize_0 : decode cX4_leastSize 0 = .ok (.bipush (-2), 2) := by decide +kernel
theorem dX4_leastSize_2 : decode cX4_leastSize 2 = .ok (.istore_n 2, 1) := by decide +kernel
theorem dX4_leastSize_3 : decode cX4_leastSize 3 = .ok (.iconst 0, 1) := by decide +kernel
theorem dX4_leastSize_4 : decode cX4_leastSize 4 = .ok (.istore_n 3, 1) := by decide +kernel
theorem dX4_leastSize_5 : decode cX4_leastSize 5 = .ok (.iload_n 3, 1) := by decide +kernel
theorem dX4_leastSize_6 : decode cX4_leastSize 6 = .ok (.aload_n 1, 1) := by decide +kernel
theorem dX4_leastSize_7 : decode cX4_leastSize 7 = .ok (.getfield 41, 3) := by decide +kernel
theorem dX4_leastSize_10 : decode cX4_leastSize 10 = .ok (.if_icmp .ge 43, 3) := by decide +kernel
theorem dX4_leastSize_13 : decode cX4_leastSize 13 = .ok (.aload_n 0, 1) := by decide +kernel
theorem dX4_leastSize_14 : decode cX4_leastSize 14 = .ok (.aload_n 1, 1) := by decide +kernel
theorem dX4_leastSize_15 : decode cX4_leastSize 15 = .ok (.iload_n 3, 1) := by decide +kernel
theorem dX4_leastSize_16 : decode cX4_leastSize 16 = .ok (.invokevirtual 44, 3) := by decide +kernel
theorem dX4_leastSize_19 : decode cX4_leastSize 19 = .ok (.lconst 0, 1) := by decide +kernel
theorem dX4_leastSize_20 : decode cX4_leastSize 20 = .ok (.lcmp, 1) := by decide +kernel
theorem dX4_leastSize_21 : decode cX4_leastSize 21 = .ok (.ifCond .eq 26, 3) := by decide +kernel
theorem dX4_leastSize_24 : decode cX4_leastSize 24 = .ok (.iload_n 2, 1) := by decide +kernel
theorem dX4_leastSize_25 : decode cX4_leastSize 25 = .ok (.bipush (-2), 2) := by decide +kernel
theorem dX4_leastSize_27 : decode cX4_leastSize 27 = .ok (.if_icmp .eq 13, 3) := by decide +kernel
theorem dX4_leastSize_30 : decode cX4_leastSize 30 = .ok (.aload_n 1, 1) := by decide +kernel
theorem dX4_leastSize_31 : decode cX4_leastSize 31 = .ok (.getfield 34, 3) := by decide +kernel
theorem dX4_leastSize_34 : decode cX4_leastSize 34 = .ok (.iload_n 3, 1) := by decide +kernel
theorem dX4_leastSize_35 : decode cX4_leastSize 35 = .ok (.iaload, 1) := by decide +kernel
theorem dX4_leastSize_36 : decode cX4_leastSize 36 = .ok (.iload_n 2, 1) := by decide +kernel
theorem dX4_leastSize_37 : decode cX4_leastSize 37 = .ok (.if_icmp .ge 10, 3) := by decide +kernel
theorem dX4_leastSize_40 : decode cX4_leastSize 40 = .ok (.aload_n 1, 1) := by decide +kernel
theorem dX4_leastSize_41 : decode cX4_leastSize 41 = .ok (.getfield 34, 3) := by decide +kernel
theorem dX4_leastSize_44 : decode cX4_leastSize 44 = .ok (.iload_n 3, 1) := by decide +kernel
theorem dX4_leastSize_45 : decode cX4_leastSize 45 = .ok (.iaload, 1) := by decide +kernel
theorem dX4_leastSize_46 : decode cX4_leastSize 46 = .ok (.istore_n 2, 1) := by decide +kernel
theorem dX4_leastSize_47 : decode cX4_leastSize 47 = .ok (.iinc 3 1, 3) := by decide +kernel
theorem dX4_leastSize_50 : decode cX4_leastSize 50 = .ok (.goto (-45), 3) := by decide +kernel
theorem dX4_leastSize_53 : decode cX4_leastSize 53 = .ok (.iload_n 2, 1) := by decide +kernel
theorem dX4_leastSize_54 : decode cX4_leastSize 54 = .ok (.ireturn, 1) := by decide +kernel
set_option maxHeartbeats 4000000 in
set_option maxRecDepth 100000 in
theorem cn_X4_leastSize {l : Launch} {cA : Nat → ClassId} {ad : Nat → Nat} {D : va_G} {E : Nat → Nat} {A : Nat → Prop} {k0 : Nat} {s0 sr : SS} {rr : Int32} (hf : f_X4_leastSize k0 s0 = some (rr, sr)) : zCon Ox Nx cA ad D E l yX4_leastSize cX4_leastSize 4 (some .int) 1 A [.ref (ad k0), .ref (ad 6)] s0 (some (.int rr)) sr := by
  refine zstart (own := RX4) hOx (by decide) rfl (Nat.le_of_ble_eq_true rfl) ?_
  intro p e s m args below meth c X hP ls hl
  have hx := X.1
  have hb := X.2.1
  have hl : lv_has ls 4 [(0, .ref (ad k0)), (1, .ref (ad 6))] := hl
  have hS : va_S A s.heap s.heap [] := va_S.rf
  have hc_5 : ∀ (n5 : Nat) (k0 : Nat) (x2 : Int32) (x3 : Int32) (s1 : SS) (H : Heap) (locs : List Loc) (ls : Array Slot), lv_has ls 4 [(0, .ref (ad k0)), (1, .ref (ad 6)), (2, .int x2), (3, .int x3)] → va_P D ZCL (zw Ox Nx cA ad s1) H → va_S A s.heap H locs → f_X4_leastSize_c5 n5 k0 x2 x3 s1 = some (rr, sr) → W p l e (zrm 1) s m args below meth c H locs 0 0 (MQ below (zQc Ox Nx cA ad D A (some (.int rr)) sr) args s 0 0 A) (F0 m 5 ls []) := by
    intro n5
    induction n5 with
    | zero =>
      intro k0 x2 x3 s1 H locs ls hl hP hS hf
      rw [f_X4_leastSize_c5] at hf
      cases hf
    | succ n5 ih5 =>
      have hc_47 : ∀ (k0 : Nat) (x2 : Int32) (x3 : Int32) (s1 : SS) (H : Heap) (locs : List Loc) (ls : Array Slot), lv_has ls 4 [(0, .ref (ad k0)), (1, .ref (ad 6)), (2, .int x2), (3, .int x3)] → va_P D ZCL (zw Ox Nx cA ad s1) H → va_S A s.heap H locs → f_X4_leastSize_c47 (f_X4_leastSize_c5 n5) k0 x2 x3 s1 = some (rr, sr) → W p l e (zrm 1) s m args below meth c H locs 0 0 (MQ below (zQc Ox Nx cA ad D A (some (.int rr)) sr) args s 0 0 A) (F0 m 47 ls []) := by
        intro k0 x2 x3 s1 H locs ls hl hP hS hf
        rw [f_X4_leastSize_c47] at hf
        obtain ⟨gp0, hf⟩ := zgd hf
        refine lv_iinc (v := (x3 + 1)) (lv' := [(3, .int (x3 + 1)), (0, .ref (ad k0)), (1, .ref (ad 6)), (2, .int x2)]) hx hb dX4_leastSize_47 hl (k := 3) rfl rfl (by decide) rfl (fun ls hl => ?_)
        refine lv_goto (tgt := 5) hx hb dX4_leastSize_50 (by decide) ?_
        exact ih5 k0 x2 (x3 + 1) s1 _ _ _ (lv_sub hl [1, 2, 3, 0] rfl) hP hS hf
      have hc_40 : ∀ (k0 : Nat) (x3 : Int32) (s1 : SS) (H : Heap) (locs : List Loc) (ls : Array Slot), lv_has ls 4 [(0, .ref (ad k0)), (1, .ref (ad 6)), (3, .int x3)] → va_P D ZCL (zw Ox Nx cA ad s1) H → va_S A s.heap H locs → f_X4_leastSize_c40 (f_X4_leastSize_c5 n5) k0 x3 s1 = some (rr, sr) → W p l e (zrm 1) s m args below meth c H locs 0 0 (MQ below (zQc Ox Nx cA ad D A (some (.int rr)) sr) args s 0 0 A) (F0 m 40 ls []) := by
        intro k0 x3 s1 H locs ls hl hP hS hf
        rw [f_X4_leastSize_c40] at hf
        obtain ⟨gp0, hf⟩ := zgd hf
        refine lv_aload_n hx hb dX4_leastSize_40 rfl (lv_at hl 1 rfl) ?_
        refine gf_X4_34 X hP (k := 6) (q := 63) rfl dX4_leastSize_41 rfl ?_
        refine lv_iload_n hx hb dX4_leastSize_44 rfl (lv_at hl 2 rfl) ?_
        obtain ⟨g4, hf⟩ := zgd hf
        refine zald_i X hP (k := 63) (n := 462) (rs := []) rfl g4 dX4_leastSize_45 ?_
        refine lv_istore_n (lv' := [(2, .int (s1.1 63 (x3).toNatClampNeg)), (0, .ref (ad k0)), (1, .ref (ad 6)), (3, .int x3)]) hx hb dX4_leastSize_46 rfl hl (by decide) rfl (fun ls hl => ?_)
        exact hc_47 k0 (s1.1 63 (x3).toNatClampNeg) x3 s1 _ _ _ (lv_sub hl [1, 2, 0, 3] rfl) hP hS hf
      intro k0 x2 x3 s1 H locs ls hl hP hS hf
      rw [f_X4_leastSize_c5] at hf
      obtain ⟨gp0, hf⟩ := zgd hf
      refine lv_iload_n hx hb dX4_leastSize_5 rfl (lv_at hl 3 rfl) ?_
      refine lv_aload_n hx hb dX4_leastSize_6 rfl (lv_at hl 1 rfl) ?_
      refine gf_X4_41 X hP (k := 6) rfl dX4_leastSize_7 ?_
      refine zicmp_ge (tgt := 53) hx hb dX4_leastSize_10 (by decide) hf (fun hf => ?_) (fun hf => ?_)
      · refine lv_iload_n hx hb dX4_leastSize_53 rfl (lv_at hl 2 rfl) ?_
        exact zret_i X hP hS hf rfl dX4_leastSize_54
      · refine lv_aload_n hx hb dX4_leastSize_13 rfl (lv_at hl 0 rfl) ?_
        refine lv_aload_n hx hb dX4_leastSize_14 rfl (lv_at hl 1 rfl) ?_
        refine lv_iload_n hx hb dX4_leastSize_15 rfl (lv_at hl 3 rfl) ?_
        obtain ⟨r1, s2, h3, hf⟩ := zbd_some hf
        refine zcallV X hP hS hl.1 (k := k0) (As := [.ref (ad 6), .int x3]) (rest := []) (cn_X4_numberAt h3) cw_X4_numberAt zp_4 gp0 (by decide) rfl ml_X4_44 (by decide) rfl rfl (Nat.le_of_ble_eq_true rfl) dX4_leastSize_16 (fun H locs hP hS => ?_)
        refine lv_lconst (v := 0) hx hb dX4_leastSize_19 (by decide) ?_
        refine W.lcmp hx hb dX4_leastSize_20 ?_
        refine zif_eq (tgt := 47) hx hb dX4_leastSize_21 (by decide) hf (fun hf => ?_) (fun hf => ?_)
        · exact hc_47 k0 x2 x3 s2 _ _ _ (lv_sub hl [0, 1, 2, 3] rfl) hP hS hf
        · refine lv_iload_n hx hb dX4_leastSize_24 rfl (lv_at hl 2 rfl) ?_
          refine lv_bipush (v := (-2)) hx hb dX4_leastSize_25 (by decide) ?_
          refine zicmp_eq (tgt := 40) hx hb dX4_leastSize_27 (by decide) hf (fun hf => ?_) (fun hf => ?_)
          · exact hc_40 k0 x3 s2 _ _ _ (lv_sub hl [0, 1, 3] rfl) hP hS hf
          · refine lv_aload_n hx hb dX4_leastSize_30 rfl (lv_at hl 1 rfl) ?_
            refine gf_X4_34 X hP (k := 6) (q := 63) rfl dX4_leastSize_31 rfl ?_
            refine lv_iload_n hx hb dX4_leastSize_34 rfl (lv_at hl 3 rfl) ?_
            obtain ⟨g5, hf⟩ := zgd hf
            refine zald_i X hP (k := 63) (n := 462) (rs := []) rfl g5 dX4_leastSize_35 ?_
            refine lv_iload_n hx hb dX4_leastSize_36 rfl (lv_at hl 2 rfl) ?_
            refine zicmp_ge (tgt := 47) hx hb dX4_leastSize_37 (by decide) hf (fun hf => ?_) (fun hf => ?_)
            · exact hc_47 k0 x2 x3 s2 _ _ _ (lv_sub hl [0, 1, 2, 3] rfl) hP hS hf
            · exact hc_40 k0 x3 s2 _ _ _ (lv_sub hl [0, 1, 3] rfl) hP hS hf
  rw [f_X4_leastSize] at hf
  obtain ⟨gp0, hf⟩ := zgd hf
  refine lv_bipush (v := (-2)) hx hb dX4_leastSize_0 (by decide) ?_
  refine lv_istore_n (lv' := [(2, .int (-2)), (0, .ref (ad k0)), (1, .ref (ad 6))]) hx hb dX4_leastSize_2 rfl hl (by decide) rfl (fun ls hl => ?_)
  refine lv_iconst (v := 0) hx hb dX4_leastSize_3 (by decide) ?_
  refine lv_istore_n (lv' := [(3, .int 0), (2, .int (-2)), (0, .ref (ad k0)), (1, .ref (ad 6))]) hx hb dX4_leastSize_4 rfl hl (by decide) rfl (fun ls hl => ?_)
  exact hc_5 ZF k0 (-2) 0 s0 _ _ _ (lv_sub hl [2, 3, 1, 0] rfl) hP hS hf
theorem dX4_isOfSizeOne_0 : decode cX4_isOfSizeOne 0 = .ok (.iconst 0, 1) := by decide +kernel
theorem dX4_isOfSizeOne_1 : decode cX4_isOfSizeOne 1 = .ok (.istore_n 2, 1) := by decide +kernel
theorem dX4_isOfSizeOne_2 : decode cX4_isOfSizeOne 2 = .ok (.iload_n 2, 1) := by decide +kernel
theorem dX4_isOfSizeOne_3 : decode cX4_isOfSizeOne 3 = .ok (.aload_n 1, 1) := by decide +kernel
theorem dX4_isOfSizeOne_4 : decode cX4_isOfSizeOne 4 = .ok (.getfield 41, 3) := by decide +kernel
theorem dX4_isOfSizeOne_7 : decode cX4_isOfSizeOne 7 = .ok (.if_icmp .ge 32, 3) := by decide +kernel
theorem dX4_isOfSizeOne_10 : decode cX4_isOfSizeOne 10 = .ok (.aload_n 1, 1) := by decide +kernel
theorem dX4_isOfSizeOne_11 : decode cX4_isOfSizeOne 11 = .ok (.getfield 34, 3) := by decide +kernel
theorem dX4_isOfSizeOne_14 : decode cX4_isOfSizeOne 14 = .ok (.iload_n 2, 1) := by decide +kernel
theorem dX4_isOfSizeOne_15 : decode cX4_isOfSizeOne 15 = .ok (.iaload, 1) := by decide +kernel
theorem dX4_isOfSizeOne_16 : decode cX4_isOfSizeOne 16 = .ok (.iconst 1, 1) := by decide +kernel
theorem dX4_isOfSizeOne_17 : decode cX4_isOfSizeOne 17 = .ok (.if_icmp .eq 16, 3) := by decide +kernel
theorem dX4_isOfSizeOne_20 : decode cX4_isOfSizeOne 20 = .ok (.aload_n 0, 1) := by decide +kernel
theorem dX4_isOfSizeOne_21 : decode cX4_isOfSizeOne 21 = .ok (.aload_n 1, 1) := by decide +kernel
theorem dX4_isOfSizeOne_22 : decode cX4_isOfSizeOne 22 = .ok (.iload_n 2, 1) := by decide +kernel
theorem dX4_isOfSizeOne_23 : decode cX4_isOfSizeOne 23 = .ok (.invokevirtual 44, 3) := by decide +kernel
theorem dX4_isOfSizeOne_26 : decode cX4_isOfSizeOne 26 = .ok (.lconst 0, 1) := by decide +kernel
theorem dX4_isOfSizeOne_27 : decode cX4_isOfSizeOne 27 = .ok (.lcmp, 1) := by decide +kernel
theorem dX4_isOfSizeOne_28 : decode cX4_isOfSizeOne 28 = .ok (.ifCond .eq 5, 3) := by decide +kernel
theorem dX4_isOfSizeOne_31 : decode cX4_isOfSizeOne 31 = .ok (.iconst 0, 1) := by decide +kernel
theorem dX4_isOfSizeOne_32 : decode cX4_isOfSizeOne 32 = .ok (.ireturn, 1) := by decide +kernel
theorem dX4_isOfSizeOne_33 : decode cX4_isOfSizeOne 33 = .ok (.iinc 2 1, 3) := by decide +kernel
theorem dX4_isOfSizeOne_36 : decode cX4_isOfSizeOne 36 = .ok (.goto (-34), 3) := by decide +kernel
theorem dX4_isOfSizeOne_39 : decode cX4_isOfSizeOne 39 = .ok (.iconst 1, 1) := by decide +kernel
theorem dX4_isOfSizeOne_40 : decode cX4_isOfSizeOne 40 = .ok (.ireturn, 1) := by decide +kernel
set_option maxHeartbeats 4000000 in
set_option maxRecDepth 100000 in
theorem cn_X4_isOfSizeOne {l : Launch} {cA : Nat → ClassId} {ad : Nat → Nat} {D : va_G} {E : Nat → Nat} {A : Nat → Prop} {k0 : Nat} {s0 sr : SS} {rr : Int32} (hf : f_X4_isOfSizeOne k0 s0 = some (rr, sr)) : zCon Ox Nx cA ad D E l yX4_isOfSizeOne cX4_isOfSizeOne 3 (some .boolean) 1 A [.ref (ad k0), .ref (ad 6)] s0 (some (.int rr)) sr := by
  refine zstart (own := RX4) hOx (by decide) rfl (Nat.le_of_ble_eq_true rfl) ?_
  intro p e s m args below meth c X hP ls hl
  have hx := X.1
  have hb := X.2.1
  have hl : lv_has ls 3 [(0, .ref (ad k0)), (1, .ref (ad 6))] := hl
  have hS : va_S A s.heap s.heap [] := va_S.rf
  have hc_2 : ∀ (n2 : Nat) (k0 : Nat) (x2 : Int32) (s1 : SS) (H : Heap) (locs : List Loc) (ls : Array Slot), lv_has ls 3 [(0, .ref (ad k0)), (1, .ref (ad 6)), (2, .int x2)] → va_P D ZCL (zw Ox Nx cA ad s1) H → va_S A s.heap H locs → f_X4_isOfSizeOne_c2 n2 k0 x2 s1 = some (rr, sr) → W p l e (zrm 1) s m args below meth c H locs 0 0 (MQ below (zQc Ox Nx cA ad D A (some (.int rr)) sr) args s 0 0 A) (F0 m 2 ls []) := by
    intro n2
    induction n2 with
    | zero =>
      intro k0 x2 s1 H locs ls hl hP hS hf
      rw [f_X4_isOfSizeOne_c2] at hf
      cases hf
    | succ n2 ih2 =>
      have hc_33 : ∀ (k0 : Nat) (x2 : Int32) (s1 : SS) (H : Heap) (locs : List Loc) (ls : Array Slot), lv_has ls 3 [(0, .ref (ad k0)), (1, .ref (ad 6)), (2, .int x2)] → va_P D ZCL (zw Ox Nx cA ad s1) H → va_S A s.heap H locs → f_X4_isOfSizeOne_c33 (f_X4_isOfSizeOne_c2 n2) k0 x2 s1 = some (rr, sr) → W p l e (zrm 1) s m args below meth c H locs 0 0 (MQ below (zQc Ox Nx cA ad D A (some (.int rr)) sr) args s 0 0 A) (F0 m 33 ls []) := by
        intro k0 x2 s1 H locs ls hl hP hS hf
        rw [f_X4_isOfSizeOne_c33] at hf
        obtain ⟨gp0, hf⟩ := zgd hf
        refine lv_iinc (v := (x2 + 1)) (lv' := [(2, .int (x2 + 1)), (0, .ref (ad k0)), (1, .ref (ad 6))]) hx hb dX4_isOfSizeOne_33 hl (k := 2) rfl rfl (by decide) rfl (fun ls hl => ?_)
        refine lv_goto (tgt := 2) hx hb dX4_isOfSizeOne_36 (by decide) ?_
        exact ih2 k0 (x2 + 1) s1 _ _ _ (lv_sub hl [1, 2, 0] rfl) hP hS hf
      intro k0 x2 s1 H locs ls hl hP hS hf
      rw [f_X4_isOfSizeOne_c2] at hf
      obtain ⟨gp0, hf⟩ := zgd hf
      refine lv_iload_n hx hb dX4_isOfSizeOne_2 rfl (lv_at hl 2 rfl) ?_
      refine lv_aload_n hx hb dX4_isOfSizeOne_3 rfl (lv_at hl 1 rfl) ?_
      refine gf_X4_41 X hP (k := 6) rfl dX4_isOfSizeOne_4 ?_
      refine zicmp_ge (tgt := 39) hx hb dX4_isOfSizeOne_7 (by decide) hf (fun hf => ?_) (fun hf => ?_)
      · refine lv_iconst (v := 1) hx hb dX4_isOfSizeOne_39 (by decide) ?_
        exact zret_i X hP hS hf rfl dX4_isOfSizeOne_40
      · refine lv_aload_n hx hb dX4_isOfSizeOne_10 rfl (lv_at hl 1 rfl) ?_
        refine gf_X4_34 X hP (k := 6) (q := 63) rfl dX4_isOfSizeOne_11 rfl ?_
        refine lv_iload_n hx hb dX4_isOfSizeOne_14 rfl (lv_at hl 2 rfl) ?_
        obtain ⟨g1, hf⟩ := zgd hf
        refine zald_i X hP (k := 63) (n := 462) (rs := []) rfl g1 dX4_isOfSizeOne_15 ?_
        refine lv_iconst (v := 1) hx hb dX4_isOfSizeOne_16 (by decide) ?_
        refine zicmp_eq (tgt := 33) hx hb dX4_isOfSizeOne_17 (by decide) hf (fun hf => ?_) (fun hf => ?_)
        · exact hc_33 k0 x2 s1 _ _ _ (lv_sub hl [0, 1, 2] rfl) hP hS hf
        · refine lv_aload_n hx hb dX4_isOfSizeOne_20 rfl (lv_at hl 0 rfl) ?_
          refine lv_aload_n hx hb dX4_isOfSizeOne_21 rfl (lv_at hl 1 rfl) ?_
          refine lv_iload_n hx hb dX4_isOfSizeOne_22 rfl (lv_at hl 2 rfl) ?_
          obtain ⟨r2, s3, h4, hf⟩ := zbd_some hf
          refine zcallV X hP hS hl.1 (k := k0) (As := [.ref (ad 6), .int x2]) (rest := []) (cn_X4_numberAt h4) cw_X4_numberAt zp_4 gp0 (by decide) rfl ml_X4_44 (by decide) rfl rfl (Nat.le_of_ble_eq_true rfl) dX4_isOfSizeOne_23 (fun H locs hP hS => ?_)
          refine lv_lconst (v := 0) hx hb dX4_isOfSizeOne_26 (by decide) ?_
          refine W.lcmp hx hb dX4_isOfSizeOne_27 ?_
          refine zif_eq (tgt := 33) hx hb dX4_isOfSizeOne_28 (by decide) hf (fun hf => ?_) (fun hf => ?_)
          · exact hc_33 k0 x2 s3 _ _ _ (lv_sub hl [0, 1, 2] rfl) hP hS hf
          · refine lv_iconst (v := 0) hx hb dX4_isOfSizeOne_31 (by decide) ?_
            exact zret_i X hP hS hf rfl dX4_isOfSizeOne_32
  rw [f_X4_isOfSizeOne] at hf
  obtain ⟨gp0, hf⟩ := zgd hf
  refine lv_iconst (v := 0) hx hb dX4_isOfSizeOne_0 (by decide) ?_
  refine lv_istore_n (lv' := [(2, .int 0), (0, .ref (ad k0)), (1, .ref (ad 6))]) hx hb dX4_isOfSizeOne_1 rfl hl (by decide) rfl (fun ls hl => ?_)
  exact hc_2 ZF k0 0 s0 _ _ _ (lv_sub hl [1, 2, 0] rfl) hP hS hf
theorem dX4_widen_0 : decode cX4_widen 0 = .ok (.iload_n 2, 1) := by decide +kernel
theorem dX4_widen_1 : decode cX4_widen 1 = .ok (.aload_n 1, 1) := by decide +kernel
theorem dX4_widen_2 : decode cX4_widen 2 = .ok (.getfield 41, 3) := by decide +kernel
theorem dX4_widen_5 : decode cX4_widen 5 = .ok (.invokestatic 54, 3) := by decide +kernel
theorem dX4_widen_8 : decode cX4_widen 8 = .ok (.istore_n 3, 1) := by decide +kernel
theorem dX4_widen_9 : decode cX4_widen 9 = .ok (.getstatic 57, 3) := by decide +kernel
theorem dX4_widen_12 : decode cX4_widen 12 = .ok (.aload_n 1, 1) := by decide +kernel
theorem dX4_widen_13 : decode cX4_widen 13 = .ok (.getfield 60, 3) := by decide +kernel
theorem dX4_widen_16 : decode cX4_widen 16 = .ok (.iconst 1, 1) := by decide +kernel
theorem dX4_widen_17 : decode cX4_widen 17 = .ok (.isub, 1) := by decide +kernel
theorem dX4_widen_18 : decode cX4_widen 18 = .ok (.iaload, 1) := by decide +kernel
theorem dX4_widen_19 : decode cX4_widen 19 = .ok (.istore 4, 2) := by decide +kernel
theorem dX4_widen_21 : decode cX4_widen 21 = .ok (.aload_n 1, 1) := by decide +kernel
theorem dX4_widen_22 : decode cX4_widen 22 = .ok (.getfield 41, 3) := by decide +kernel
theorem dX4_widen_25 : decode cX4_widen 25 = .ok (.iconst 1, 1) := by decide +kernel
theorem dX4_widen_26 : decode cX4_widen 26 = .ok (.isub, 1) := by decide +kernel
theorem dX4_widen_27 : decode cX4_widen 27 = .ok (.istore 5, 2) := by decide +kernel
theorem dX4_widen_29 : decode cX4_widen 29 = .ok (.iload 5, 2) := by decide +kernel
theorem dX4_widen_31 : decode cX4_widen 31 = .ok (.ifCond .lt 48, 3) := by decide +kernel
theorem dX4_widen_34 : decode cX4_widen 34 = .ok (.lconst 0, 1) := by decide +kernel
theorem dX4_widen_35 : decode cX4_widen 35 = .ok (.lstore 6, 2) := by decide +kernel
theorem dX4_widen_37 : decode cX4_widen 37 = .ok (.aload_n 1, 1) := by decide +kernel
theorem dX4_widen_38 : decode cX4_widen 38 = .ok (.getfield 63, 3) := by decide +kernel
theorem dX4_widen_41 : decode cX4_widen 41 = .ok (.iload 5, 2) := by decide +kernel
theorem dX4_widen_43 : decode cX4_widen 43 = .ok (.iaload, 1) := by decide +kernel
theorem dX4_widen_44 : decode cX4_widen 44 = .ok (.iload 4, 2) := by decide +kernel
theorem dX4_widen_46 : decode cX4_widen 46 = .ok (.if_icmp .ge 18, 3) := by decide +kernel
theorem dX4_widen_49 : decode cX4_widen 49 = .ok (.iload_n 3, 1) := by decide +kernel
theorem dX4_widen_50 : decode cX4_widen 50 = .ok (.ifCond .le 14, 3) := by decide +kernel
theorem dX4_widen_53 : decode cX4_widen 53 = .ok (.iinc 3 (-1), 3) := by decide +kernel
theorem dX4_widen_56 : decode cX4_widen 56 = .ok (.aload_n 0, 1) := by decide +kernel
theorem dX4_widen_57 : decode cX4_widen 57 = .ok (.getfield 11, 3) := by decide +kernel
theorem dX4_widen_60 : decode cX4_widen 60 = .ok (.iload_n 3, 1) := by decide +kernel
theorem dX4_widen_61 : decode cX4_widen 61 = .ok (.laload, 1) := by decide +kernel
theorem dX4_widen_62 : decode cX4_widen 62 = .ok (.lstore 6, 2) := by decide +kernel
theorem dX4_widen_64 : decode cX4_widen 64 = .ok (.aload_n 0, 1) := by decide +kernel
theorem dX4_widen_65 : decode cX4_widen 65 = .ok (.getfield 11, 3) := by decide +kernel
theorem dX4_widen_68 : decode cX4_widen 68 = .ok (.iload 5, 2) := by decide +kernel
theorem dX4_widen_70 : decode cX4_widen 70 = .ok (.lload 6, 2) := by decide +kernel
theorem dX4_widen_72 : decode cX4_widen 72 = .ok (.lastore, 1) := by decide +kernel
theorem dX4_widen_73 : decode cX4_widen 73 = .ok (.iinc 5 (-1), 3) := by decide +kernel
theorem dX4_widen_76 : decode cX4_widen 76 = .ok (.goto (-47), 3) := by decide +kernel
theorem dX4_widen_79 : decode cX4_widen 79 = .ok (.return_, 1) := by decide +kernel
set_option maxHeartbeats 4000000 in
set_option maxRecDepth 100000 in
theorem cn_X4_widen {l : Launch} {cA : Nat → ClassId} {ad : Nat → Nat} {D : va_G} {E : Nat → Nat} {A : Nat → Prop} {k0 : Nat} {x2 : Int32} {s0 sr : SS} {rr : Unit} (hf : f_X4_widen k0 x2 s0 = some (rr, sr)) : zCon Ox Nx cA ad D E l yX4_widen cX4_widen 8 none 1 A [.ref (ad k0), .ref (ad 6), .int x2] s0 none sr := by
  refine zstart (own := RX4) hOx (by decide) rfl (Nat.le_of_ble_eq_true rfl) ?_
  intro p e s m args below meth c X hP ls hl
  have hx := X.1
  have hb := X.2.1
  have hl : lv_has ls 8 [(0, .ref (ad k0)), (1, .ref (ad 6)), (2, .int x2)] := hl
  have hS : va_S A s.heap s.heap [] := va_S.rf
  have hc_29 : ∀ (n29 : Nat) (k0 : Nat) (x3 : Int32) (x4 : Int32) (x5 : Int32) (s1 : SS) (H : Heap) (locs : List Loc) (ls : Array Slot), lv_has ls 8 [(0, .ref (ad k0)), (1, .ref (ad 6)), (3, .int x3), (4, .int x4), (5, .int x5)] → va_P D ZCL (zw Ox Nx cA ad s1) H → va_S A s.heap H locs → f_X4_widen_c29 n29 k0 x3 x4 x5 s1 = some (rr, sr) → W p l e (zrm 1) s m args below meth c H locs 0 0 (MQ below (zQc Ox Nx cA ad D A none sr) args s 0 0 A) (F0 m 29 ls []) := by
    intro n29
    induction n29 with
    | zero =>
      intro k0 x3 x4 x5 s1 H locs ls hl hP hS hf
      rw [f_X4_widen_c29] at hf
      cases hf
    | succ n29 ih29 =>
      have hc_64 : ∀ (k0 : Nat) (x3 : Int32) (x4 : Int32) (x5 : Int32) (x6 : Int64) (s1 : SS) (H : Heap) (locs : List Loc) (ls : Array Slot), lv_has ls 8 [(0, .ref (ad k0)), (1, .ref (ad 6)), (3, .int x3), (4, .int x4), (5, .int x5), (6, .long x6)] → va_P D ZCL (zw Ox Nx cA ad s1) H → va_S A s.heap H locs → f_X4_widen_c64 (f_X4_widen_c29 n29) k0 x3 x4 x5 x6 s1 = some (rr, sr) → W p l e (zrm 1) s m args below meth c H locs 0 0 (MQ below (zQc Ox Nx cA ad D A none sr) args s 0 0 A) (F0 m 64 ls []) := by
        intro k0 x3 x4 x5 x6 s1 H locs ls hl hP hS hf
        rw [f_X4_widen_c64] at hf
        obtain ⟨gp0, hf⟩ := zgd hf
        refine lv_aload_n hx hb dX4_widen_64 rfl (lv_at hl 0 rfl) ?_
        refine gf_X4_11 X hP (k := k0) gp0 dX4_widen_65 rfl ?_
        refine lv_iload hx hb dX4_widen_68 (lv_at hl 4 rfl) ?_
        refine lv_lload hx hb dX4_widen_70 (lv_at hl 5 rfl) ?_
        obtain ⟨g3, hf⟩ := zgd hf
        obtain ⟨n4, rn4, on4, in4⟩ := zok_of g3
        refine zast_l X hP hS (k := (zrf Ox k0 2)) on4 in4 dX4_widen_72 (fun H locs hP hS => ?_)
        refine lv_iinc (v := (x5 + (-1))) (lv' := [(5, .int (x5 + (-1))), (0, .ref (ad k0)), (1, .ref (ad 6)), (3, .int x3), (4, .int x4), (6, .long x6)]) hx hb dX4_widen_73 hl (k := 4) rfl rfl (by decide) rfl (fun ls hl => ?_)
        refine lv_goto (tgt := 29) hx hb dX4_widen_76 (by decide) ?_
        exact ih29 k0 x3 x4 (x5 + (-1)) (zSL s1 (zrf Ox k0 2) (x5).toNatClampNeg x6) _ _ _ (lv_sub hl [1, 2, 3, 4, 0] rfl) hP hS hf
      intro k0 x3 x4 x5 s1 H locs ls hl hP hS hf
      rw [f_X4_widen_c29] at hf
      obtain ⟨gp0, hf⟩ := zgd hf
      refine lv_iload hx hb dX4_widen_29 (lv_at hl 4 rfl) ?_
      refine zif_lt (tgt := 79) hx hb dX4_widen_31 (by decide) hf (fun hf => ?_) (fun hf => ?_)
      · exact zret_v X hP hS hf dX4_widen_79
      · refine lv_lconst (v := 0) hx hb dX4_widen_34 (by decide) ?_
        refine lv_lstore (lv' := [(6, .long 0), (0, .ref (ad k0)), (1, .ref (ad 6)), (3, .int x3), (4, .int x4), (5, .int x5)]) hx hb dX4_widen_35 hl (by decide) rfl (fun ls hl => ?_)
        refine lv_aload_n hx hb dX4_widen_37 rfl (lv_at hl 2 rfl) ?_
        refine gf_X4_63 X hP (k := 6) (q := 62) rfl dX4_widen_38 rfl ?_
        refine lv_iload hx hb dX4_widen_41 (lv_at hl 5 rfl) ?_
        obtain ⟨g2, hf⟩ := zgd hf
        refine zald_i X hP (k := 62) (n := 462) (rs := []) rfl g2 dX4_widen_43 ?_
        refine lv_iload hx hb dX4_widen_44 (lv_at hl 4 rfl) ?_
        refine zicmp_ge (tgt := 64) hx hb dX4_widen_46 (by decide) hf (fun hf => ?_) (fun hf => ?_)
        · exact hc_64 k0 x3 x4 x5 0 s1 _ _ _ (lv_sub hl [1, 2, 3, 4, 5, 0] rfl) hP hS hf
        · refine lv_iload_n hx hb dX4_widen_49 rfl (lv_at hl 3 rfl) ?_
          refine zif_le (tgt := 64) hx hb dX4_widen_50 (by decide) hf (fun hf => ?_) (fun hf => ?_)
          · exact hc_64 k0 x3 x4 x5 0 s1 _ _ _ (lv_sub hl [1, 2, 3, 4, 5, 0] rfl) hP hS hf
          · refine lv_iinc (v := (x3 + (-1))) (lv' := [(3, .int (x3 + (-1))), (6, .long 0), (0, .ref (ad k0)), (1, .ref (ad 6)), (4, .int x4), (5, .int x5)]) hx hb dX4_widen_53 hl (k := 3) rfl rfl (by decide) rfl (fun ls hl => ?_)
            refine lv_aload_n hx hb dX4_widen_56 rfl (lv_at hl 2 rfl) ?_
            refine gf_X4_11 X hP (k := k0) gp0 dX4_widen_57 rfl ?_
            refine lv_iload_n hx hb dX4_widen_60 rfl (lv_at hl 0 rfl) ?_
            obtain ⟨g5, hf⟩ := zgd hf
            obtain ⟨n6, rn6, on6, in6⟩ := zok_of g5
            refine zald_l X hP (k := (zrf Ox k0 2)) on6 in6 dX4_widen_61 ?_
            refine lv_lstore (lv' := [(6, .long (s1.2 (zrf Ox k0 2) ((x3 + (-1))).toNatClampNeg)), (3, .int (x3 + (-1))), (0, .ref (ad k0)), (1, .ref (ad 6)), (4, .int x4), (5, .int x5)]) hx hb dX4_widen_62 hl (by decide) rfl (fun ls hl => ?_)
            exact hc_64 k0 (x3 + (-1)) x4 x5 (s1.2 (zrf Ox k0 2) ((x3 + (-1))).toNatClampNeg) s1 _ _ _ (lv_sub hl [2, 3, 1, 4, 5, 0] rfl) hP hS hf
  rw [f_X4_widen] at hf
  obtain ⟨gp0, hf⟩ := zgd hf
  refine lv_iload_n hx hb dX4_widen_0 rfl (lv_at hl 2 rfl) ?_
  refine lv_aload_n hx hb dX4_widen_1 rfl (lv_at hl 1 rfl) ?_
  refine gf_X4_41 X hP (k := 6) rfl dX4_widen_2 ?_
  refine zmin X hl.1 ml_X4_54 nt_min.1 nt_min.2.1 nt_min.2.2 ⟨Nat.le_of_ble_eq_true rfl, Nat.le_of_ble_eq_true rfl⟩ dX4_widen_5 ?_
  refine lv_istore_n (lv' := [(3, .int (if (s0.1 6 2) < x2 then (s0.1 6 2) else x2)), (0, .ref (ad k0)), (1, .ref (ad 6)), (2, .int x2)]) hx hb dX4_widen_8 rfl hl (by decide) rfl (fun ls hl => ?_)
  refine zgsN X hS (i := 0) rfl nf_X4_57 dX4_widen_9 ?_
  refine lv_aload_n hx hb dX4_widen_12 rfl (lv_at hl 2 rfl) ?_
  refine gf_X4_60 X hP (k := 6) rfl dX4_widen_13 ?_
  refine lv_iconst (v := 1) hx hb dX4_widen_16 (by decide) ?_
  refine lv_isub hx hb dX4_widen_17 ?_
  obtain ⟨g1, hf⟩ := zgd hf
  refine zst X hS (k := 0) (n := 6) rfl rfl g1 dX4_widen_18 ?_
  refine lv_istore (lv' := [(4, .int (ztab 0 (((s0.1 6 1) - (1 : Int32))))), (3, .int (if (s0.1 6 2) < x2 then (s0.1 6 2) else x2)), (0, .ref (ad k0)), (1, .ref (ad 6)), (2, .int x2)]) hx hb dX4_widen_19 hl (by decide) rfl (fun ls hl => ?_)
  refine lv_aload_n hx hb dX4_widen_21 rfl (lv_at hl 3 rfl) ?_
  refine gf_X4_41 X hP (k := 6) rfl dX4_widen_22 ?_
  refine lv_iconst (v := 1) hx hb dX4_widen_25 (by decide) ?_
  refine lv_isub hx hb dX4_widen_26 ?_
  refine lv_istore (lv' := [(5, .int ((s0.1 6 2) - (1 : Int32))), (4, .int (ztab 0 (((s0.1 6 1) - (1 : Int32))))), (3, .int (if (s0.1 6 2) < x2 then (s0.1 6 2) else x2)), (0, .ref (ad k0)), (1, .ref (ad 6)), (2, .int x2)]) hx hb dX4_widen_27 hl (by decide) rfl (fun ls hl => ?_)
  exact hc_29 ZF k0 (if (s0.1 6 2) < x2 then (s0.1 6 2) else x2) (ztab 0 (((s0.1 6 1) - (1 : Int32)))) ((s0.1 6 2) - (1 : Int32)) s0 _ _ _ (lv_sub hl [3, 4, 2, 1, 0] rfl) hP hS hf
theorem dX5_isOne_0 : decode cX5_isOne 0 = .ok (.iload_n 1, 1) := by decide +kernel
theorem dX5_isOne_1 : decode cX5_isOne 1 = .ok (.ifCond .lt 12, 3) := by decide +kernel
theorem dX5_isOne_4 : decode cX5_isOne 4 = .ok (.iload_n 1, 1) := by decide +kernel
theorem dX5_isOne_5 : decode cX5_isOne 5 = .ok (.iconst 3, 1) := by decide +kernel
theorem dX5_isOne_6 : decode cX5_isOne 6 = .ok (.if_icmp .ge 7, 3) := by decide +kernel
theorem dX5_isOne_9 : decode cX5_isOne 9 = .ok (.iconst 1, 1) := by decide +kernel
theorem dX5_isOne_10 : decode cX5_isOne 10 = .ok (.goto 4, 3) := by decide +kernel
theorem dX5_isOne_13 : decode cX5_isOne 13 = .ok (.iconst 0, 1) := by decide +kernel
theorem dX5_isOne_14 : decode cX5_isOne 14 = .ok (.ireturn, 1) := by decide +kernel
set_option maxHeartbeats 4000000 in
set_option maxRecDepth 100000 in
theorem cn_X5_isOne {l : Launch} {cA : Nat → ClassId} {ad : Nat → Nat} {D : va_G} {E : Nat → Nat} {A : Nat → Prop} {x1 : Int32} {s0 sr : SS} {rr : Int32} (hf : f_X5_isOne x1 s0 = some (rr, sr)) : zCon Ox Nx cA ad D E l yX5_isOne cX5_isOne 2 (some .boolean) 0 A [.ref (ad 11), .int x1] s0 (some (.int rr)) sr := by
  refine zstart (own := RX5) hOx (by decide) rfl (Nat.le_of_ble_eq_true rfl) ?_
  intro p e s m args below meth c X hP ls hl
  have hx := X.1
  have hb := X.2.1
  have hl : lv_has ls 2 [(0, .ref (ad 11)), (1, .int x1)] := hl
  have hS : va_S A s.heap s.heap [] := va_S.rf
  rw [f_X5_isOne] at hf
  refine lv_iload_n hx hb dX5_isOne_0 rfl (lv_at hl 1 rfl) ?_
  refine zif_lt (tgt := 13) hx hb dX5_isOne_1 (by decide) hf (fun hf => ?_) (fun hf => ?_)
  · refine lv_iconst (v := 0) hx hb dX5_isOne_13 (by decide) ?_
    exact zret_i X hP hS hf rfl dX5_isOne_14
  · refine lv_iload_n hx hb dX5_isOne_4 rfl (lv_at hl 1 rfl) ?_
    refine lv_iconst (v := 3) hx hb dX5_isOne_5 (by decide) ?_
    refine zicmp_ge (tgt := 13) hx hb dX5_isOne_6 (by decide) hf (fun hf => ?_) (fun hf => ?_)
    · refine lv_iconst (v := 0) hx hb dX5_isOne_13 (by decide) ?_
      exact zret_i X hP hS hf rfl dX5_isOne_14
    · refine lv_iconst (v := 1) hx hb dX5_isOne_9 (by decide) ?_
      refine lv_goto (tgt := 14) hx hb dX5_isOne_10 (by decide) ?_
      exact zret_i X hP hS hf rfl dX5_isOne_14
theorem dX5_isThere_0 : decode cX5_isThere 0 = .ok (.aload_n 0, 1) := by decide +kernel
theorem dX5_isThere_1 : decode cX5_isThere 1 = .ok (.iload_n 1, 1) := by decide +kernel
theorem dX5_isThere_2 : decode cX5_isThere 2 = .ok (.invokevirtual 27, 3) := by decide +kernel
theorem dX5_isThere_5 : decode cX5_isThere 5 = .ok (.ifCond .eq 17, 3) := by decide +kernel
theorem dX5_isThere_8 : decode cX5_isThere 8 = .ok (.aload_n 0, 1) := by decide +kernel
theorem dX5_isThere_9 : decode cX5_isThere 9 = .ok (.getfield 9, 3) := by decide +kernel
theorem dX5_isThere_12 : decode cX5_isThere 12 = .ok (.iload_n 1, 1) := by decide +kernel
theorem dX5_isThere_13 : decode cX5_isThere 13 = .ok (.iaload, 1) := by decide +kernel
theorem dX5_isThere_14 : decode cX5_isThere 14 = .ok (.iconst (-1), 1) := by decide +kernel
theorem dX5_isThere_15 : decode cX5_isThere 15 = .ok (.if_icmp .eq 7, 3) := by decide +kernel
theorem dX5_isThere_18 : decode cX5_isThere 18 = .ok (.iconst 1, 1) := by decide +kernel
theorem dX5_isThere_19 : decode cX5_isThere 19 = .ok (.goto 4, 3) := by decide +kernel
theorem dX5_isThere_22 : decode cX5_isThere 22 = .ok (.iconst 0, 1) := by decide +kernel
theorem dX5_isThere_23 : decode cX5_isThere 23 = .ok (.ireturn, 1) := by decide +kernel
set_option maxHeartbeats 4000000 in
set_option maxRecDepth 100000 in
theorem cn_X5_isThere {l : Launch} {cA : Nat → ClassId} {ad : Nat → Nat} {D : va_G} {E : Nat → Nat} {A : Nat → Prop} {x1 : Int32} {s0 sr : SS} {rr : Int32} (hf : f_X5_isThere x1 s0 = some (rr, sr)) : zCon Ox Nx cA ad D E l yX5_isThere cX5_isThere 2 (some .boolean) 1 A [.ref (ad 11), .int x1] s0 (some (.int rr)) sr := by
  refine zstart (own := RX5) hOx (by decide) rfl (Nat.le_of_ble_eq_true rfl) ?_
  intro p e s m args below meth c X hP ls hl
  have hx := X.1
  have hb := X.2.1
  have hl : lv_has ls 2 [(0, .ref (ad 11)), (1, .int x1)] := hl
  have hS : va_S A s.heap s.heap [] := va_S.rf
  rw [f_X5_isThere] at hf
  refine lv_aload_n hx hb dX5_isThere_0 rfl (lv_at hl 0 rfl) ?_
  refine lv_iload_n hx hb dX5_isThere_1 rfl (lv_at hl 1 rfl) ?_
  obtain ⟨r1, s2, h3, hf⟩ := zbd_some hf
  refine zcallV X hP hS hl.1 (k := 11) (As := [.int x1]) (rest := []) (cn_X5_isOne h3) cw_X5_isOne zp_5 rfl (by decide) rfl ml_X5_27 (by decide) rfl rfl (Nat.le_of_ble_eq_true rfl) dX5_isThere_2 (fun H locs hP hS => ?_)
  refine zif_eq (tgt := 22) hx hb dX5_isThere_5 (by decide) hf (fun hf => ?_) (fun hf => ?_)
  · refine lv_iconst (v := 0) hx hb dX5_isThere_22 (by decide) ?_
    exact zret_i X hP hS hf rfl dX5_isThere_23
  · refine lv_aload_n hx hb dX5_isThere_8 rfl (lv_at hl 0 rfl) ?_
    refine gf_X5_9 X hP (k := 11) (q := 27) rfl dX5_isThere_9 rfl ?_
    refine lv_iload_n hx hb dX5_isThere_12 rfl (lv_at hl 1 rfl) ?_
    obtain ⟨g4, hf⟩ := zgd hf
    refine zald_i X hP (k := 27) (n := 3) (rs := []) rfl g4 dX5_isThere_13 ?_
    refine lv_iconst (v := (-1)) hx hb dX5_isThere_14 (by decide) ?_
    refine zicmp_eq (tgt := 22) hx hb dX5_isThere_15 (by decide) hf (fun hf => ?_) (fun hf => ?_)
    · refine lv_iconst (v := 0) hx hb dX5_isThere_22 (by decide) ?_
      exact zret_i X hP hS hf rfl dX5_isThere_23
    · refine lv_iconst (v := 1) hx hb dX5_isThere_18 (by decide) ?_
      refine lv_goto (tgt := 23) hx hb dX5_isThere_19 (by decide) ?_
      exact zret_i X hP hS hf rfl dX5_isThere_23
theorem dX5_sizeOf_0 : decode cX5_sizeOf 0 = .ok (.aload_n 0, 1) := by decide +kernel
theorem dX5_sizeOf_1 : decode cX5_sizeOf 1 = .ok (.iload_n 1, 1) := by decide +kernel
theorem dX5_sizeOf_2 : decode cX5_sizeOf 2 = .ok (.invokevirtual 27, 3) := by decide +kernel
theorem dX5_sizeOf_5 : decode cX5_sizeOf 5 = .ok (.ifCond .eq 12, 3) := by decide +kernel
theorem dX5_sizeOf_8 : decode cX5_sizeOf 8 = .ok (.aload_n 0, 1) := by decide +kernel
theorem dX5_sizeOf_9 : decode cX5_sizeOf 9 = .ok (.getfield 13, 3) := by decide +kernel
theorem dX5_sizeOf_12 : decode cX5_sizeOf 12 = .ok (.iload_n 1, 1) := by decide +kernel
theorem dX5_sizeOf_13 : decode cX5_sizeOf 13 = .ok (.iaload, 1) := by decide +kernel
theorem dX5_sizeOf_14 : decode cX5_sizeOf 14 = .ok (.goto 4, 3) := by decide +kernel
theorem dX5_sizeOf_17 : decode cX5_sizeOf 17 = .ok (.iconst 0, 1) := by decide +kernel
theorem dX5_sizeOf_18 : decode cX5_sizeOf 18 = .ok (.ireturn, 1) := by decide +kernel
set_option maxHeartbeats 4000000 in
set_option maxRecDepth 100000 in
theorem cn_X5_sizeOf {l : Launch} {cA : Nat → ClassId} {ad : Nat → Nat} {D : va_G} {E : Nat → Nat} {A : Nat → Prop} {x1 : Int32} {s0 sr : SS} {rr : Int32} (hf : f_X5_sizeOf x1 s0 = some (rr, sr)) : zCon Ox Nx cA ad D E l yX5_sizeOf cX5_sizeOf 2 (some .int) 1 A [.ref (ad 11), .int x1] s0 (some (.int rr)) sr := by
  refine zstart (own := RX5) hOx (by decide) rfl (Nat.le_of_ble_eq_true rfl) ?_
  intro p e s m args below meth c X hP ls hl
  have hx := X.1
  have hb := X.2.1
  have hl : lv_has ls 2 [(0, .ref (ad 11)), (1, .int x1)] := hl
  have hS : va_S A s.heap s.heap [] := va_S.rf
  rw [f_X5_sizeOf] at hf
  refine lv_aload_n hx hb dX5_sizeOf_0 rfl (lv_at hl 0 rfl) ?_
  refine lv_iload_n hx hb dX5_sizeOf_1 rfl (lv_at hl 1 rfl) ?_
  obtain ⟨r1, s2, h3, hf⟩ := zbd_some hf
  refine zcallV X hP hS hl.1 (k := 11) (As := [.int x1]) (rest := []) (cn_X5_isOne h3) cw_X5_isOne zp_5 rfl (by decide) rfl ml_X5_27 (by decide) rfl rfl (Nat.le_of_ble_eq_true rfl) dX5_sizeOf_2 (fun H locs hP hS => ?_)
  refine zif_eq (tgt := 17) hx hb dX5_sizeOf_5 (by decide) hf (fun hf => ?_) (fun hf => ?_)
  · refine lv_iconst (v := 0) hx hb dX5_sizeOf_17 (by decide) ?_
    exact zret_i X hP hS hf rfl dX5_sizeOf_18
  · refine lv_aload_n hx hb dX5_sizeOf_8 rfl (lv_at hl 0 rfl) ?_
    refine gf_X5_13 X hP (k := 11) (q := 28) rfl dX5_sizeOf_9 rfl ?_
    refine lv_iload_n hx hb dX5_sizeOf_12 rfl (lv_at hl 1 rfl) ?_
    obtain ⟨g4, hf⟩ := zgd hf
    refine zald_i X hP (k := 28) (n := 3) (rs := []) rfl g4 dX5_sizeOf_13 ?_
    refine lv_goto (tgt := 18) hx hb dX5_sizeOf_14 (by decide) ?_
    exact zret_i X hP hS hf rfl dX5_sizeOf_18
theorem dX5_hasPlace_0 : decode cX5_hasPlace 0 = .ok (.iload_n 2, 1) := by decide +kernel
theorem dX5_hasPlace_1 : decode cX5_hasPlace 1 = .ok (.ifCond .lt 16, 3) := by decide +kernel
theorem dX5_hasPlace_4 : decode cX5_hasPlace 4 = .ok (.iload_n 2, 1) := by decide +kernel
theorem dX5_hasPlace_5 : decode cX5_hasPlace 5 = .ok (.aload_n 0, 1) := by decide +kernel
theorem dX5_hasPlace_6 : decode cX5_hasPlace 6 = .ok (.iload_n 1, 1) := by decide +kernel
theorem dX5_hasPlace_7 : decode cX5_hasPlace 7 = .ok (.invokevirtual 31, 3) := by decide +kernel
theorem dX5_hasPlace_10 : decode cX5_hasPlace 10 = .ok (.if_icmp .ge 7, 3) := by decide +kernel
theorem dX5_hasPlace_13 : decode cX5_hasPlace 13 = .ok (.iconst 1, 1) := by decide +kernel
theorem dX5_hasPlace_14 : decode cX5_hasPlace 14 = .ok (.goto 4, 3) := by decide +kernel
theorem dX5_hasPlace_17 : decode cX5_hasPlace 17 = .ok (.iconst 0, 1) := by decide +kernel
theorem dX5_hasPlace_18 : decode cX5_hasPlace 18 = .ok (.ireturn, 1) := by decide +kernel
set_option maxHeartbeats 4000000 in
set_option maxRecDepth 100000 in
theorem cn_X5_hasPlace {l : Launch} {cA : Nat → ClassId} {ad : Nat → Nat} {D : va_G} {E : Nat → Nat} {A : Nat → Prop} {x1 : Int32} {x2 : Int32} {s0 sr : SS} {rr : Int32} (hf : f_X5_hasPlace x1 x2 s0 = some (rr, sr)) : zCon Ox Nx cA ad D E l yX5_hasPlace cX5_hasPlace 3 (some .boolean) 2 A [.ref (ad 11), .int x1, .int x2] s0 (some (.int rr)) sr := by
  refine zstart (own := RX5) hOx (by decide) rfl (Nat.le_of_ble_eq_true rfl) ?_
  intro p e s m args below meth c X hP ls hl
  have hx := X.1
  have hb := X.2.1
  have hl : lv_has ls 3 [(0, .ref (ad 11)), (1, .int x1), (2, .int x2)] := hl
  have hS : va_S A s.heap s.heap [] := va_S.rf
  rw [f_X5_hasPlace] at hf
  refine lv_iload_n hx hb dX5_hasPlace_0 rfl (lv_at hl 2 rfl) ?_
  refine zif_lt (tgt := 17) hx hb dX5_hasPlace_1 (by decide) hf (fun hf => ?_) (fun hf => ?_)
  · refine lv_iconst (v := 0) hx hb dX5_hasPlace_17 (by decide) ?_
    exact zret_i X hP hS hf rfl dX5_hasPlace_18
  · refine lv_iload_n hx hb dX5_hasPlace_4 rfl (lv_at hl 2 rfl) ?_
    refine lv_aload_n hx hb dX5_hasPlace_5 rfl (lv_at hl 0 rfl) ?_
    refine lv_iload_n hx hb dX5_hasPlace_6 rfl (lv_at hl 1 rfl) ?_
    obtain ⟨r1, s2, h3, hf⟩ := zbd_some hf
    refine zcallV X hP hS hl.1 (k := 11) (As := [.int x1]) (rest := [.int x2]) (cn_X5_sizeOf h3) cw_X5_sizeOf zp_5 rfl (by decide) rfl ml_X5_31 (by decide) rfl rfl (Nat.le_of_ble_eq_true rfl) dX5_hasPlace_7 (fun H locs hP hS => ?_)
    refine zicmp_ge (tgt := 17) hx hb dX5_hasPlace_10 (by decide) hf (fun hf => ?_) (fun hf => ?_)
    · refine lv_iconst (v := 0) hx hb dX5_hasPlace_17 (by decide) ?_
      exact zret_i X hP hS hf rfl dX5_hasPlace_18
    · refine lv_iconst (v := 1) hx hb dX5_hasPlace_13 (by decide) ?_
      refine lv_goto (tgt := 18) hx hb dX5_hasPlace_14 (by decide) ?_
      exact zret_i X hP hS hf rfl dX5_hasPlace_18
theorem dX5_hasRoom_0 : decode cX5_hasRoom 0 = .ok (.iload_n 3, 1) := by decide +kernel
theorem dX5_hasRoom_1 : decode cX5_hasRoom 1 = .ok (.ifCond .lt 31, 3) := by decide +kernel
theorem dX5_hasRoom_4 : decode cX5_hasRoom 4 = .ok (.iload_n 2, 1) := by decide +kernel
theorem dX5_hasRoom_5 : decode cX5_hasRoom 5 = .ok (.ifCond .lt 27, 3) := by decide +kernel
theorem dX5_hasRoom_8 : decode cX5_hasRoom 8 = .ok (.iload_n 2, 1) := by decide +kernel
theorem dX5_hasRoom_9 : decode cX5_hasRoom 9 = .ok (.aload_n 0, 1) := by decide +kernel
theorem dX5_hasRoom_10 : decode cX5_hasRoom 10 = .ok (.iload_n 1, 1) := by decide +kernel
theorem dX5_hasRoom_11 : decode cX5_hasRoom 11 = .ok (.invokevirtual 31, 3) := by decide +kernel
theorem dX5_hasRoom_14 : decode cX5_hasRoom 14 = .ok (.if_icmp .gt 18, 3) := by decide +kernel
theorem dX5_hasRoom_17 : decode cX5_hasRoom 17 = .ok (.iload_n 3, 1) := by decide +kernel
theorem dX5_hasRoom_18 : decode cX5_hasRoom 18 = .ok (.aload_n 0, 1) := by decide +kernel
theorem dX5_hasRoom_19 : decode cX5_hasRoom 19 = .ok (.iload_n 1, 1) := by decide +kernel
theorem dX5_hasRoom_20 : decode cX5_hasRoom 20 = .ok (.invokevirtual 31, 3) := by decide +kernel
theorem dX5_hasRoom_23 : decode cX5_hasRoom 23 = .ok (.iload_n 2, 1) := by decide +kernel
theorem dX5_hasRoom_24 : decode cX5_hasRoom 24 = .ok (.isub, 1) := by decide +kernel
theorem dX5_hasRoom_25 : decode cX5_hasRoom 25 = .ok (.if_icmp .gt 7, 3) := by decide +kernel
theorem dX5_hasRoom_28 : decode cX5_hasRoom 28 = .ok (.iconst 1, 1) := by decide +kernel
theorem dX5_hasRoom_29 : decode cX5_hasRoom 29 = .ok (.goto 4, 3) := by decide +kernel
theorem dX5_hasRoom_32 : decode cX5_hasRoom 32 = .ok (.iconst 0, 1) := by decide +kernel
theorem dX5_hasRoom_33 : decode cX5_hasRoom 33 = .ok (.ireturn, 1) := by decide +kernel
set_option maxHeartbeats 4000000 in
set_option maxRecDepth 100000 in
theorem cn_X5_hasRoom {l : Launch} {cA : Nat → ClassId} {ad : Nat → Nat} {D : va_G} {E : Nat → Nat} {A : Nat → Prop} {x1 : Int32} {x2 : Int32} {x3 : Int32} {s0 sr : SS} {rr : Int32} (hf : f_X5_hasRoom x1 x2 x3 s0 = some (rr, sr)) : zCon Ox Nx cA ad D E l yX5_hasRoom cX5_hasRoom 4 (some .boolean) 2 A [.ref (ad 11), .int x1, .int x2, .int x3] s0 (some (.int rr)) sr := by
  refine zstart (own := RX5) hOx (by decide) rfl (Nat.le_of_ble_eq_true rfl) ?_
  intro p e s m args below meth c X hP ls hl
  have hx := X.1
  have hb := X.2.1
  have hl : lv_has ls 4 [(0, .ref (ad 11)), (1, .int x1), (2, .int x2), (3, .int x3)] := hl
  have hS : va_S A s.heap s.heap [] := va_S.rf
  rw [f_X5_hasRoom] at hf
  refine lv_iload_n hx hb dX5_hasRoom_0 rfl (lv_at hl 3 rfl) ?_
  refine zif_lt (tgt := 32) hx hb dX5_hasRoom_1 (by decide) hf (fun hf => ?_) (fun hf => ?_)
  · refine lv_iconst (v := 0) hx hb dX5_hasRoom_32 (by decide) ?_
    exact zret_i X hP hS hf rfl dX5_hasRoom_33
  · refine lv_iload_n hx hb dX5_hasRoom_4 rfl (lv_at hl 2 rfl) ?_
    refine zif_lt (tgt := 32) hx hb dX5_hasRoom_5 (by decide) hf (fun hf => ?_) (fun hf => ?_)
    · refine lv_iconst (v := 0) hx hb dX5_hasRoom_32 (by decide) ?_
      exact zret_i X hP hS hf rfl dX5_hasRoom_33
    · refine lv_iload_n hx hb dX5_hasRoom_8 rfl (lv_at hl 2 rfl) ?_
      refine lv_aload_n hx hb dX5_hasRoom_9 rfl (lv_at hl 0 rfl) ?_
      refine lv_iload_n hx hb dX5_hasRoom_10 rfl (lv_at hl 1 rfl) ?_
      obtain ⟨r1, s2, h3, hf⟩ := zbd_some hf
      refine zcallV X hP hS hl.1 (k := 11) (As := [.int x1]) (rest := [.int x2]) (cn_X5_sizeOf h3) cw_X5_sizeOf zp_5 rfl (by decide) rfl ml_X5_31 (by decide) rfl rfl (Nat.le_of_ble_eq_true rfl) dX5_hasRoom_11 (fun H locs hP hS => ?_)
      refine zicmp_gt (tgt := 32) hx hb dX5_hasRoom_14 (by decide) hf (fun hf => ?_) (fun hf => ?_)
      · refine lv_iconst (v := 0) hx hb dX5_hasRoom_32 (by decide) ?_
        exact zret_i X hP hS hf rfl dX5_hasRoom_33
      · refine lv_iload_n hx hb dX5_hasRoom_17 rfl (lv_at hl 3 rfl) ?_
        refine lv_aload_n hx hb dX5_hasRoom_18 rfl (lv_at hl 0 rfl) ?_
        refine lv_iload_n hx hb dX5_hasRoom_19 rfl (lv_at hl 1 rfl) ?_
        obtain ⟨r4, s5, h6, hf⟩ := zbd_some hf
        refine zcallV X hP hS hl.1 (k := 11) (As := [.int x1]) (rest := [.int x3]) (cn_X5_sizeOf h6) cw_X5_sizeOf zp_5 rfl (by decide) rfl ml_X5_31 (by decide) rfl rfl (Nat.le_of_ble_eq_true rfl) dX5_hasRoom_20 (fun H locs hP hS => ?_)
        refine lv_iload_n hx hb dX5_hasRoom_23 rfl (lv_at hl 2 rfl) ?_
        refine lv_isub hx hb dX5_hasRoom_24 ?_
        refine zicmp_gt (tgt := 32) hx hb dX5_hasRoom_25 (by decide) hf (fun hf => ?_) (fun hf => ?_)
        · refine lv_iconst (v := 0) hx hb dX5_hasRoom_32 (by decide) ?_
          exact zret_i X hP hS hf rfl dX5_hasRoom_33
        · refine lv_iconst (v := 1) hx hb dX5_hasRoom_28 (by decide) ?_
          refine lv_goto (tgt := 33) hx hb dX5_hasRoom_29 (by decide) ?_
          exact zret_i X hP hS hf rfl dX5_hasRoom_33
theorem dX5_valueAt_0 : decode cX5_valueAt 0 = .ok (.aload_n 0, 1) := by decide +kernel
theorem dX5_valueAt_1 : decode cX5_valueAt 1 = .ok (.iload_n 1, 1) := by decide +kernel
theorem dX5_valueAt_2 : decode cX5_valueAt 2 = .ok (.iload_n 2, 1) := by decide +kernel
theorem dX5_valueAt_3 : decode cX5_valueAt 3 = .ok (.invokevirtual 35, 3) := by decide +kernel
theorem dX5_valueAt_6 : decode cX5_valueAt 6 = .ok (.ifCond .eq 14, 3) := by decide +kernel
theorem dX5_valueAt_9 : decode cX5_valueAt 9 = .ok (.aload_n 0, 1) := by decide +kernel
theorem dX5_valueAt_10 : decode cX5_valueAt 10 = .ok (.getfield 18, 3) := by decide +kernel
theorem dX5_valueAt_13 : decode cX5_valueAt 13 = .ok (.iload_n 1, 1) := by decide +kernel
theorem dX5_valueAt_14 : decode cX5_valueAt 14 = .ok (.aaload, 1) := by decide +kernel
theorem dX5_valueAt_15 : decode cX5_valueAt 15 = .ok (.iload_n 2, 1) := by decide +kernel
theorem dX5_valueAt_16 : decode cX5_valueAt 16 = .ok (.laload, 1) := by decide +kernel
theorem dX5_valueAt_17 : decode cX5_valueAt 17 = .ok (.goto 4, 3) := by decide +kernel
theorem dX5_valueAt_20 : decode cX5_valueAt 20 = .ok (.lconst 0, 1) := by decide +kernel
theorem dX5_valueAt_21 : decode cX5_valueAt 21 = .ok (.lreturn, 1) := by decide +kernel
set_option maxHeartbeats 4000000 in
set_option maxRecDepth 100000 in
theorem cn_X5_valueAt {l : Launch} {cA : Nat → ClassId} {ad : Nat → Nat} {D : va_G} {E : Nat → Nat} {A : Nat → Prop} {x1 : Int32} {x2 : Int32} {s0 sr : SS} {rr : Int64} (hf : f_X5_valueAt x1 x2 s0 = some (rr, sr)) : zCon Ox Nx cA ad D E l yX5_valueAt cX5_valueAt 3 (some .long) 3 A [.ref (ad 11), .int x1, .int x2] s0 (some (.long rr)) sr := by
  refine zstart (own := RX5) hOx (by decide) rfl (Nat.le_of_ble_eq_true rfl) ?_
  intro p e s m args below meth c X hP ls hl
  have hx := X.1
  have hb := X.2.1
  have hl : lv_has ls 3 [(0, .ref (ad 11)), (1, .int x1), (2, .int x2)] := hl
  have hS : va_S A s.heap s.heap [] := va_S.rf
  rw [f_X5_valueAt] at hf
  refine lv_aload_n hx hb dX5_valueAt_0 rfl (lv_at hl 0 rfl) ?_
  refine lv_iload_n hx hb dX5_valueAt_1 rfl (lv_at hl 1 rfl) ?_
  refine lv_iload_n hx hb dX5_valueAt_2 rfl (lv_at hl 2 rfl) ?_
  obtain ⟨r1, s2, h3, hf⟩ := zbd_some hf
  refine zcallV X hP hS hl.1 (k := 11) (As := [.int x1, .int x2]) (rest := []) (cn_X5_hasPlace h3) cw_X5_hasPlace zp_5 rfl (by decide) rfl ml_X5_35 (by decide) rfl rfl (Nat.le_of_ble_eq_true rfl) dX5_valueAt_3 (fun H locs hP hS => ?_)
  refine zif_eq (tgt := 20) hx hb dX5_valueAt_6 (by decide) hf (fun hf => ?_) (fun hf => ?_)
  · refine lv_lconst (v := 0) hx hb dX5_valueAt_20 (by decide) ?_
    exact zret_l X hP hS hf dX5_valueAt_21
  · refine lv_aload_n hx hb dX5_valueAt_9 rfl (lv_at hl 0 rfl) ?_
    refine gf_X5_18 X hP (k := 11) (q := 29) rfl dX5_valueAt_10 rfl ?_
    refine lv_iload_n hx hb dX5_valueAt_13 rfl (lv_at hl 1 rfl) ?_
    obtain ⟨g4, hf⟩ := zgd hf
    obtain ⟨n5, rn5, on5, in5⟩ := zok_of g4
    refine zald_g X hP zlr_x (k := 29) on5 in5 dX5_valueAt_14 rfl ?_
    refine lv_iload_n hx hb dX5_valueAt_15 rfl (lv_at hl 2 rfl) ?_
    obtain ⟨g6, hf⟩ := zgd hf
    obtain ⟨n7, rn7, on7, in7⟩ := zok_of g6
    refine zald_l X hP (k := (zrr Ox 29 x1)) on7 in7 dX5_valueAt_16 ?_
    refine lv_goto (tgt := 21) hx hb dX5_valueAt_17 (by decide) ?_
    exact zret_l X hP hS hf dX5_valueAt_21
theorem dX5_become_0 : decode cX5_become 0 = .ok (.aload_n 0, 1) := by decide +kernel
theorem dX5_become_1 : decode cX5_become 1 = .ok (.iload_n 1, 1) := by decide +kernel
theorem dX5_become_2 : decode cX5_become 2 = .ok (.invokevirtual 27, 3) := by decide +kernel
theorem dX5_become_5 : decode cX5_become 5 = .ok (.ifCond .eq 27, 3) := by decide +kernel
theorem dX5_become_8 : decode cX5_become 8 = .ok (.aload_n 0, 1) := by decide +kernel
theorem dX5_become_9 : decode cX5_become 9 = .ok (.getfield 9, 3) := by decide +kernel
theorem dX5_become_12 : decode cX5_become 12 = .ok (.iload_n 1, 1) := by decide +kernel
theorem dX5_become_13 : decode cX5_become 13 = .ok (.iload_n 2, 1) := by decide +kernel
theorem dX5_become_14 : decode cX5_become 14 = .ok (.iastore, 1) := by decide +kernel
theorem dX5_become_15 : decode cX5_become 15 = .ok (.aload_n 0, 1) := by decide +kernel
theorem dX5_become_16 : decode cX5_become 16 = .ok (.getfield 13, 3) := by decide +kernel
theorem dX5_become_19 : decode cX5_become 19 = .ok (.iload_n 1, 1) := by decide +kernel
theorem dX5_become_20 : decode cX5_become 20 = .ok (.iload_n 3, 1) := by decide +kernel
theorem dX5_become_21 : decode cX5_become 21 = .ok (.iastore, 1) := by decide +kernel
theorem dX5_become_22 : decode cX5_become 22 = .ok (.aload_n 0, 1) := by decide +kernel
theorem dX5_become_23 : decode cX5_become 23 = .ok (.getfield 18, 3) := by decide +kernel
theorem dX5_become_26 : decode cX5_become 26 = .ok (.iload_n 1, 1) := by decide +kernel
theorem dX5_become_27 : decode cX5_become 27 = .ok (.aaload, 1) := by decide +kernel
theorem dX5_become_28 : decode cX5_become 28 = .ok (.lconst 0, 1) := by decide +kernel
theorem dX5_become_29 : decode cX5_become 29 = .ok (.invokestatic 39, 3) := by decide +kernel
theorem dX5_become_32 : decode cX5_become 32 = .ok (.return_, 1) := by decide +kernel
set_option maxHeartbeats 4000000 in
set_option maxRecDepth 100000 in
theorem cn_X5_become {l : Launch} {cA : Nat → ClassId} {ad : Nat → Nat} {D : va_G} {E : Nat → Nat} {A : Nat → Prop} {x1 : Int32} {x2 : Int32} {x3 : Int32} {s0 sr : SS} {rr : Unit} (hf : f_X5_become x1 x2 x3 s0 = some (rr, sr)) : zCon Ox Nx cA ad D E l yX5_become cX5_become 4 none 1 A [.ref (ad 11), .int x1, .int x2, .int x3] s0 none sr := by
  refine zstart (own := RX5) hOx (by decide) rfl (Nat.le_of_ble_eq_true rfl) ?_
  intro p e s m args below meth c X hP ls hl
  have hx := X.1
  have hb := X.2.1
  have hl : lv_has ls 4 [(0, .ref (ad 11)), (1, .int x1), (2, .int x2), (3, .int x3)] := hl
  have hS : va_S A s.heap s.heap [] := va_S.rf
  rw [f_X5_become] at hf
  refine lv_aload_n hx hb dX5_become_0 rfl (lv_at hl 0 rfl) ?_
  refine lv_iload_n hx hb dX5_become_1 rfl (lv_at hl 1 rfl) ?_
  obtain ⟨r1, s2, h3, hf⟩ := zbd_some hf
  refine zcallV X hP hS hl.1 (k := 11) (As := [.int x1]) (rest := []) (cn_X5_isOne h3) cw_X5_isOne zp_5 rfl (by decide) rfl ml_X5_27 (by decide) rfl rfl (Nat.le_of_ble_eq_true rfl) dX5_become_2 (fun H locs hP hS => ?_)
  refine zif_eq (tgt := 32) hx hb dX5_become_5 (by decide) hf (fun hf => ?_) (fun hf => ?_)
  · exact zret_v X hP hS hf dX5_become_32
  · refine lv_aload_n hx hb dX5_become_8 rfl (lv_at hl 0 rfl) ?_
    refine gf_X5_9 X hP (k := 11) (q := 27) rfl dX5_become_9 rfl ?_
    refine lv_iload_n hx hb dX5_become_12 rfl (lv_at hl 1 rfl) ?_
    refine lv_iload_n hx hb dX5_become_13 rfl (lv_at hl 2 rfl) ?_
    obtain ⟨g4, hf⟩ := zgd hf
    refine zast_i X hP hS (k := 27) (n := 3) (rs := []) rfl g4 dX5_become_14 (fun H locs hP hS => ?_)
    refine lv_aload_n hx hb dX5_become_15 rfl (lv_at hl 0 rfl) ?_
    refine gf_X5_13 X hP (k := 11) (q := 28) rfl dX5_become_16 rfl ?_
    refine lv_iload_n hx hb dX5_become_19 rfl (lv_at hl 1 rfl) ?_
    refine lv_iload_n hx hb dX5_become_20 rfl (lv_at hl 3 rfl) ?_
    obtain ⟨g5, hf⟩ := zgd hf
    refine zast_i X hP hS (k := 28) (n := 3) (rs := []) rfl g5 dX5_become_21 (fun H locs hP hS => ?_)
    refine lv_aload_n hx hb dX5_become_22 rfl (lv_at hl 0 rfl) ?_
    refine gf_X5_18 X hP (k := 11) (q := 29) rfl dX5_become_23 rfl ?_
    refine lv_iload_n hx hb dX5_become_26 rfl (lv_at hl 1 rfl) ?_
    obtain ⟨g6, hf⟩ := zgd hf
    obtain ⟨n7, rn7, on7, in7⟩ := zok_of g6
    refine zald_g X hP zlr_x (k := 29) on7 in7 dX5_become_27 rfl ?_
    refine lv_lconst (v := 0) hx hb dX5_become_28 (by decide) ?_
    obtain ⟨r8, s9, h10, hf⟩ := zbd_some hf
    refine zcallS X hP hS hl.1 (As := [.ref (ad (zrr Ox 29 x1)), .long 0]) (rest := []) (cn_J7_fill_d0a16 hOx h10) cw_J7_fill_d0a16 ml_X5_39 (by decide) rfl rfl (Nat.le_of_ble_eq_true rfl) dX5_become_29 (fun H locs hP hS => ?_)
    exact zret_v X hP hS hf dX5_become_32
theorem dX5_place_0 : decode cX5_place 0 = .ok (.aload_n 0, 1) := by decide +kernel
theorem dX5_place_1 : decode cX5_place 1 = .ok (.iload_n 1, 1) := by decide +kernel
theorem dX5_place_2 : decode cX5_place 2 = .ok (.iload_n 2, 1) := by decide +kernel
theorem dX5_place_3 : decode cX5_place 3 = .ok (.invokevirtual 35, 3) := by decide +kernel
theorem dX5_place_6 : decode cX5_place 6 = .ok (.ifCond .eq 27, 3) := by decide +kernel
theorem dX5_place_9 : decode cX5_place 9 = .ok (.aload_n 0, 1) := by decide +kernel
theorem dX5_place_10 : decode cX5_place 10 = .ok (.getfield 18, 3) := by decide +kernel
theorem dX5_place_13 : decode cX5_place 13 = .ok (.iload_n 1, 1) := by decide +kernel
theorem dX5_place_14 : decode cX5_place 14 = .ok (.aaload, 1) := by decide +kernel
theorem dX5_place_15 : decode cX5_place 15 = .ok (.iload_n 2, 1) := by decide +kernel
theorem dX5_place_16 : decode cX5_place 16 = .ok (.aload_n 0, 1) := by decide +kernel
theorem dX5_place_17 : decode cX5_place 17 = .ok (.getfield 9, 3) := by decide +kernel
theorem dX5_place_20 : decode cX5_place 20 = .ok (.iload_n 1, 1) := by decide +kernel
theorem dX5_place_21 : decode cX5_place 21 = .ok (.iaload, 1) := by decide +kernel
theorem dX5_place_22 : decode cX5_place 22 = .ok (.ifCond .ne 9, 3) := by decide +kernel
theorem dX5_place_25 : decode cX5_place 25 = .ok (.lload_n 3, 1) := by decide +kernel
theorem dX5_place_26 : decode cX5_place 26 = .ok (.l2i, 1) := by decide +kernel
theorem dX5_place_27 : decode cX5_place 27 = .ok (.i2l, 1) := by decide +kernel
theorem dX5_place_28 : decode cX5_place 28 = .ok (.goto 4, 3) := by decide +kernel
theorem dX5_place_31 : decode cX5_place 31 = .ok (.lload_n 3, 1) := by decide +kernel
theorem dX5_place_32 : decode cX5_place 32 = .ok (.lastore, 1) := by decide +kernel
theorem dX5_place_33 : decode cX5_place 33 = .ok (.return_, 1) := by decide +kernel
set_option maxHeartbeats 4000000 in
set_option maxRecDepth 100000 in
theorem cn_X5_place {l : Launch} {cA : Nat → ClassId} {ad : Nat → Nat} {D : va_G} {E : Nat → Nat} {A : Nat → Prop} {x1 : Int32} {x2 : Int32} {x3 : Int64} {s0 sr : SS} {rr : Unit} (hf : f_X5_place x1 x2 x3 s0 = some (rr, sr)) : zCon Ox Nx cA ad D E l yX5_place cX5_place 5 none 3 A [.ref (ad 11), .int x1, .int x2, .long x3] s0 none sr := by
  refine zstart (own := RX5) hOx (by decide) rfl (Nat.le_of_ble_eq_true rfl) ?_
  intro p e s m args below meth c X hP ls hl
  have hx := X.1
  have hb := X.2.1
  have hl : lv_has ls 5 [(0, .ref (ad 11)), (1, .int x1), (2, .int x2), (3, .long x3)] := hl
  have hS : va_S A s.heap s.heap [] := va_S.rf
  have hc_32 : ∀ (t0 : Int64) (t1 : Int32) (kt2 : Nat) (s1 : SS) (H : Heap) (locs : List Loc) (ls : Array Slot), lv_has ls 5 [] → va_P D ZCL (zw Ox Nx cA ad s1) H → va_S A s.heap H locs → f_X5_place_c32 t0 t1 kt2 s1 = some (rr, sr) → W p l e (zrm 3) s m args below meth c H locs 0 0 (MQ below (zQc Ox Nx cA ad D A none sr) args s 0 0 A) (F0 m 32 ls [.long t0, .int t1, .ref (ad kt2)]) := by
    intro t0 t1 kt2 s1 H locs ls hl hP hS hf
    rw [f_X5_place_c32] at hf
    obtain ⟨g7, hf⟩ := zgd hf
    obtain ⟨n8, rn8, on8, in8⟩ := zok_of g7
    refine zast_l X hP hS (k := kt2) on8 in8 dX5_place_32 (fun H locs hP hS => ?_)
    exact zret_v X hP hS hf dX5_place_33
  rw [f_X5_place] at hf
  refine lv_aload_n hx hb dX5_place_0 rfl (lv_at hl 0 rfl) ?_
  refine lv_iload_n hx hb dX5_place_1 rfl (lv_at hl 1 rfl) ?_
  refine lv_iload_n hx hb dX5_place_2 rfl (lv_at hl 2 rfl) ?_
  obtain ⟨r1, s2, h3, hf⟩ := zbd_some hf
  refine zcallV X hP hS hl.1 (k := 11) (As := [.int x1, .int x2]) (rest := []) (cn_X5_hasPlace h3) cw_X5_hasPlace zp_5 rfl (by decide) rfl ml_X5_35 (by decide) rfl rfl (Nat.le_of_ble_eq_true rfl) dX5_place_3 (fun H locs hP hS => ?_)
  refine zif_eq (tgt := 33) hx hb dX5_place_6 (by decide) hf (fun hf => ?_) (fun hf => ?_)
  · exact zret_v X hP hS hf dX5_place_33
  · refine lv_aload_n hx hb dX5_place_9 rfl (lv_at hl 0 rfl) ?_
    refine gf_X5_18 X hP (k := 11) (q := 29) rfl dX5_place_10 rfl ?_
    refine lv_iload_n hx hb dX5_place_13 rfl (lv_at hl 1 rfl) ?_
    obtain ⟨g4, hf⟩ := zgd hf
    obtain ⟨n5, rn5, on5, in5⟩ := zok_of g4
    refine zald_g X hP zlr_x (k := 29) on5 in5 dX5_place_14 rfl ?_
    refine lv_iload_n hx hb dX5_place_15 rfl (lv_at hl 2 rfl) ?_
    refine lv_aload_n hx hb dX5_place_16 rfl (lv_at hl 0 rfl) ?_
    refine gf_X5_9 X hP (k := 11) (q := 27) rfl dX5_place_17 rfl ?_
    refine lv_iload_n hx hb dX5_place_20 rfl (lv_at hl 1 rfl) ?_
    obtain ⟨g6, hf⟩ := zgd hf
    refine zald_i X hP (k := 27) (n := 3) (rs := []) rfl g6 dX5_place_21 ?_
    refine zif_ne (tgt := 31) hx hb dX5_place_22 (by decide) hf (fun hf => ?_) (fun hf => ?_)
    · refine lv_lload_n hx hb dX5_place_31 rfl (lv_at hl 3 rfl) ?_
      exact hc_32 x3 x2 (zrr Ox 29 x1) s2 _ _ _ (lv_sub hl [] rfl) hP hS hf
    · refine lv_lload_n hx hb dX5_place_25 rfl (lv_at hl 3 rfl) ?_
      refine lv_l2i hx hb dX5_place_26 rfl ?_
      refine lv_i2l hx hb dX5_place_27 rfl ?_
      refine lv_goto (tgt := 32) hx hb dX5_place_28 (by decide) ?_
      exact hc_32 ((x3).toInt32).toInt64 x2 (zrr Ox 29 x1) s2 _ _ _ (lv_sub hl [] rfl) hP hS hf
theorem dX5_howManyThere_0 : decode cX5_howManyThere 0 = .ok (.iconst 0, 1) := by decide +kernel
theorem dX5_howManyThere_1 : decode cX5_howManyThere 1 = .ok (.istore_n 1, 1) := by decide +kernel
theorem dX5_howManyThere_2 : decode cX5_howManyThere 2 = .ok (.iconst 0, 1) := by decide +kernel
theorem dX5_howManyThere_3 : decode cX5_howManyThere 3 = .ok (.istore_n 2, 1) := by decide +kernel
theorem dX5_howManyThere_4 : decode cX5_howManyThere 4 = .ok (.iload_n 2, 1) := by decide +kernel
theorem dX5_howManyThere_5 : decode cX5_howManyThere 5 = .ok (.iconst 3, 1) := by decide +kernel
theorem dX5_howManyThere_6 : decode cX5_howManyThere 6 = .ok (.if_icmp .ge 25, 3) := by decide +kernel
theorem dX5_howManyThere_9 : decode cX5_howManyThere 9 = .ok (.iload_n 1, 1) := by decide +kernel
theorem dX5_howManyThere_10 : decode cX5_howManyThere 10 = .ok (.aload_n 0, 1) := by decide +kernel
theorem dX5_howManyThere_11 : decode cX5_howManyThere 11 = .ok (.iload_n 2, 1) := by decide +kernel
theorem dX5_howManyThere_12 : decode cX5_howManyThere 12 = .ok (.invokevirtual 42, 3) := by decide +kernel
theorem dX5_howManyThere_15 : decode cX5_howManyThere 15 = .ok (.ifCond .eq 7, 3) := by decide +kernel
theorem dX5_howManyThere_18 : decode cX5_howManyThere 18 = .ok (.iconst 1, 1) := by decide +kernel
theorem dX5_howManyThere_19 : decode cX5_howManyThere 19 = .ok (.goto 4, 3) := by decide +kernel
theorem dX5_howManyThere_22 : decode cX5_howManyThere 22 = .ok (.iconst 0, 1) := by decide +kernel
theorem dX5_howManyThere_23 : decode cX5_howManyThere 23 = .ok (.iadd, 1) := by decide +kernel
theorem dX5_howManyThere_24 : decode cX5_howManyThere 24 = .ok (.istore_n 1, 1) := by decide +kernel
theorem dX5_howManyThere_25 : decode cX5_howManyThere 25 = .ok (.iinc 2 1, 3) := by decide +kernel
theorem dX5_howManyThere_28 : decode cX5_howManyThere 28 = .ok (.goto (-24), 3) := by decide +kernel
theorem dX5_howManyThere_31 : decode cX5_howManyThere 31 = .ok (.iload_n 1, 1) := by decide +kernel
theorem dX5_howManyThere_32 : decode cX5_howManyThere 32 = .ok (.ireturn, 1) := by decide +kernel
set_option maxHeartbeats 4000000 in
set_option maxRecDepth 100000 in
theorem cn_X5_howManyThere {l : Launch} {cA : Nat → ClassId} {ad : Nat → Nat} {D : va_G} {E : Nat → Nat} {A : Nat → Prop}  {s0 sr : SS} {rr : Int32} (hf : f_X5_howManyThere s0 = some (rr, sr)) : zCon Ox Nx cA ad D E l yX5_howManyThere cX5_howManyThere 3 (some .int) 2 A [.ref (ad 11)] s0 (some (.int rr)) sr := by
  refine zstart (own := RX5) hOx (by decide) rfl (Nat.le_of_ble_eq_true rfl) ?_
  intro p e s m args below meth c X hP ls hl
  have hx := X.1
  have hb := X.2.1
  have hl : lv_has ls 3 [(0, .ref (ad 11))] := hl
  have hS : va_S A s.heap s.heap [] := va_S.rf
  have hc_4 : ∀ (n4 : Nat) (x1 : Int32) (x2 : Int32) (s1 : SS) (H : Heap) (locs : List Loc) (ls : Array Slot), lv_has ls 3 [(0, .ref (ad 11)), (1, .int x1), (2, .int x2)] → va_P D ZCL (zw Ox Nx cA ad s1) H → va_S A s.heap H locs → f_X5_howManyThere_c4 n4 x1 x2 s1 = some (rr, sr) → W p l e (zrm 2) s m args below meth c H locs 0 0 (MQ below (zQc Ox Nx cA ad D A (some (.int rr)) sr) args s 0 0 A) (F0 m 4 ls []) := by
    intro n4
    induction n4 with
    | zero =>
      intro x1 x2 s1 H locs ls hl hP hS hf
      rw [f_X5_howManyThere_c4] at hf
      cases hf
    | succ n4 ih4 =>
      have hc_23 : ∀ (x2 : Int32) (t0 : Int32) (t1 : Int32) (s1 : SS) (H : Heap) (locs : List Loc) (ls : Array Slot), lv_has ls 3 [(0, .ref (ad 11)), (2, .int x2)] → va_P D ZCL (zw Ox Nx cA ad s1) H → va_S A s.heap H locs → f_X5_howManyThere_c23 (f_X5_howManyThere_c4 n4) x2 t0 t1 s1 = some (rr, sr) → W p l e (zrm 2) s m args below meth c H locs 0 0 (MQ below (zQc Ox Nx cA ad D A (some (.int rr)) sr) args s 0 0 A) (F0 m 23 ls [.int t0, .int t1]) := by
        intro x2 t0 t1 s1 H locs ls hl hP hS hf
        rw [f_X5_howManyThere_c23] at hf
        refine lv_iadd hx hb dX5_howManyThere_23 ?_
        refine lv_istore_n (lv' := [(1, .int (t1 + t0)), (0, .ref (ad 11)), (2, .int x2)]) hx hb dX5_howManyThere_24 rfl hl (by decide) rfl (fun ls hl => ?_)
        refine lv_iinc (v := (x2 + 1)) (lv' := [(2, .int (x2 + 1)), (1, .int (t1 + t0)), (0, .ref (ad 11))]) hx hb dX5_howManyThere_25 hl (k := 2) rfl rfl (by decide) rfl (fun ls hl => ?_)
        refine lv_goto (tgt := 4) hx hb dX5_howManyThere_28 (by decide) ?_
        exact ih4 (t1 + t0) (x2 + 1) s1 _ _ _ (lv_sub hl [2, 1, 0] rfl) hP hS hf
      intro x1 x2 s1 H locs ls hl hP hS hf
      rw [f_X5_howManyThere_c4] at hf
      refine lv_iload_n hx hb dX5_howManyThere_4 rfl (lv_at hl 2 rfl) ?_
      refine lv_iconst (v := 3) hx hb dX5_howManyThere_5 (by decide) ?_
      refine zicmp_ge (tgt := 31) hx hb dX5_howManyThere_6 (by decide) hf (fun hf => ?_) (fun hf => ?_)
      · refine lv_iload_n hx hb dX5_howManyThere_31 rfl (lv_at hl 1 rfl) ?_
        exact zret_i X hP hS hf rfl dX5_howManyThere_32
      · refine lv_iload_n hx hb dX5_howManyThere_9 rfl (lv_at hl 1 rfl) ?_
        refine lv_aload_n hx hb dX5_howManyThere_10 rfl (lv_at hl 0 rfl) ?_
        refine lv_iload_n hx hb dX5_howManyThere_11 rfl (lv_at hl 2 rfl) ?_
        obtain ⟨r1, s2, h3, hf⟩ := zbd_some hf
        refine zcallV X hP hS hl.1 (k := 11) (As := [.int x2]) (rest := [.int x1]) (cn_X5_isThere h3) cw_X5_isThere zp_5 rfl (by decide) rfl ml_X5_42 (by decide) rfl rfl (Nat.le_of_ble_eq_true rfl) dX5_howManyThere_12 (fun H locs hP hS => ?_)
        refine zif_eq (tgt := 22) hx hb dX5_howManyThere_15 (by decide) hf (fun hf => ?_) (fun hf => ?_)
        · refine lv_iconst (v := 0) hx hb dX5_howManyThere_22 (by decide) ?_
          exact hc_23 x2 0 x1 s2 _ _ _ (lv_sub hl [0, 2] rfl) hP hS hf
        · refine lv_iconst (v := 1) hx hb dX5_howManyThere_18 (by decide) ?_
          refine lv_goto (tgt := 23) hx hb dX5_howManyThere_19 (by decide) ?_
          exact hc_23 x2 1 x1 s2 _ _ _ (lv_sub hl [0, 2] rfl) hP hS hf
  rw [f_X5_howManyThere] at hf
  refine lv_iconst (v := 0) hx hb dX5_howManyThere_0 (by decide) ?_
  refine lv_istore_n (lv' := [(1, .int 0), (0, .ref (ad 11))]) hx hb dX5_howManyThere_1 rfl hl (by decide) rfl (fun ls hl => ?_)
  refine lv_iconst (v := 0) hx hb dX5_howManyThere_2 (by decide) ?_
  refine lv_istore_n (lv' := [(2, .int 0), (1, .int 0), (0, .ref (ad 11))]) hx hb dX5_howManyThere_3 rfl hl (by decide) rfl (fun ls hl => ?_)
  exact hc_4 ZF 0 0 s0 _ _ _ (lv_sub hl [2, 1, 0] rfl) hP hS hf
theorem dX6_kept_0 : decode cX6_kept 0 = .ok (.aload_n 0, 1) := by decide +kernel
theorem dX6_kept_1 : decode cX6_kept 1 = .ok (.getfield 16, 3) := by decide +kernel
theorem dX6_kept_4 : decode cX6_kept 4 = .ok (.sipush 200, 3) := by decide +kernel
theorem dX6_kept_7 : decode cX6_kept 7 = .ok (.invokestatic 20, 3) := by decide +kernel
theorem dX6_kept_10 : decode cX6_kept 10 = .ok (.ireturn, 1) := by decide +kernel
set_option maxHeartbeats 4000000 in
set_option maxRecDepth 100000 in
theorem cn_X6_kept {l : Launch} {cA : Nat → ClassId} {ad : Nat → Nat} {D : va_G} {E : Nat → Nat} {A : Nat → Prop}  {s0 sr : SS} {rr : Int32} (hf : f_X6_kept s0 = some (rr, sr)) : zCon Ox Nx cA ad D E l yX6_kept cX6_kept 1 (some .int) 1 A [.ref (ad 10)] s0 (some (.int rr)) sr := by
  refine zstart (own := RX6) hOx (by decide) rfl (Nat.le_of_ble_eq_true rfl) ?_
  intro p e s m args below meth c X hP ls hl
  have hx := X.1
  have hb := X.2.1
  have hl : lv_has ls 1 [(0, .ref (ad 10))] := hl
  have hS : va_S A s.heap s.heap [] := va_S.rf
  rw [f_X6_kept] at hf
  refine lv_aload_n hx hb dX6_kept_0 rfl (lv_at hl 0 rfl) ?_
  refine gf_X6_16 X hP (k := 10) rfl dX6_kept_1 ?_
  refine lv_sipush (v := 200) hx hb dX6_kept_4 (by decide) ?_
  refine zmin X hl.1 ml_X6_20 nt_min.1 nt_min.2.1 nt_min.2.2 ⟨Nat.le_of_ble_eq_true rfl, Nat.le_of_ble_eq_true rfl⟩ dX6_kept_7 ?_
  exact zret_i X hP hS hf rfl dX6_kept_10
theorem dX6_add_0 : decode cX6_add 0 = .ok (.aload_n 0, 1) := by decide +kernel
theorem dX6_add_1 : decode cX6_add 1 = .ok (.getfield 16, 3) := by decide +kernel
theorem dX6_add_4 : decode cX6_add 4 = .ok (.ifCond .lt 23, 3) := by decide +kernel
theorem dX6_add_7 : decode cX6_add 7 = .ok (.aload_n 0, 1) := by decide +kernel
theorem dX6_add_8 : decode cX6_add 8 = .ok (.getfield 16, 3) := by decide +kernel
theorem dX6_add_11 : decode cX6_add 11 = .ok (.sipush 200, 3) := by decide +kernel
theorem dX6_add_14 : decode cX6_add 14 = .ok (.if_icmp .ge 13, 3) := by decide +kernel
theorem dX6_add_17 : decode cX6_add 17 = .ok (.aload_n 0, 1) := by decide +kernel
theorem dX6_add_18 : decode cX6_add 18 = .ok (.getfield 9, 3) := by decide +kernel
theorem dX6_add_21 : decode cX6_add 21 = .ok (.aload_n 0, 1) := by decide +kernel
theorem dX6_add_22 : decode cX6_add 22 = .ok (.getfield 16, 3) := by decide +kernel
theorem dX6_add_25 : decode cX6_add 25 = .ok (.iload_n 1, 1) := by decide +kernel
theorem dX6_add_26 : decode cX6_add 26 = .ok (.castore, 1) := by decide +kernel
theorem dX6_add_27 : decode cX6_add 27 = .ok (.aload_n 0, 1) := by decide +kernel
theorem dX6_add_28 : decode cX6_add 28 = .ok (.dup, 1) := by decide +kernel
theorem dX6_add_29 : decode cX6_add 29 = .ok (.getfield 16, 3) := by decide +kernel
theorem dX6_add_32 : decode cX6_add 32 = .ok (.iconst 1, 1) := by decide +kernel
theorem dX6_add_33 : decode cX6_add 33 = .ok (.iadd, 1) := by decide +kernel
theorem dX6_add_34 : decode cX6_add 34 = .ok (.putfield 16, 3) := by decide +kernel
theorem dX6_add_37 : decode cX6_add 37 = .ok (.return_, 1) := by decide +kernel
set_option maxHeartbeats 4000000 in
set_option maxRecDepth 100000 in
theorem cn_X6_add {l : Launch} {cA : Nat → ClassId} {ad : Nat → Nat} {D : va_G} {E : Nat → Nat} {A : Nat → Prop} {x1 : Int32} {s0 sr : SS} {rr : Unit} (hf : f_X6_add x1 s0 = some (rr, sr)) : zCon Ox Nx cA ad D E l yX6_add cX6_add 2 none 0 A [.ref (ad 10), .int x1] s0 none sr := by
  refine zstart (own := RX6) hOx (by decide) rfl (Nat.le_of_ble_eq_true rfl) ?_
  intro p e s m args below meth c X hP ls hl
  have hx := X.1
  have hb := X.2.1
  have hl : lv_has ls 2 [(0, .ref (ad 10)), (1, .int x1)] := hl
  have hS : va_S A s.heap s.heap [] := va_S.rf
  rw [f_X6_add] at hf
  refine lv_aload_n hx hb dX6_add_0 rfl (lv_at hl 0 rfl) ?_
  refine gf_X6_16 X hP (k := 10) rfl dX6_add_1 ?_
  refine zif_lt (tgt := 27) hx hb dX6_add_4 (by decide) hf (fun hf => ?_) (fun hf => ?_)
  · refine lv_aload_n hx hb dX6_add_27 rfl (lv_at hl 0 rfl) ?_
    refine lv_dup hx hb dX6_add_28 rfl ?_
    refine gf_X6_16 X hP (k := 10) rfl dX6_add_29 ?_
    refine lv_iconst (v := 1) hx hb dX6_add_32 (by decide) ?_
    refine lv_iadd hx hb dX6_add_33 ?_
    refine pf_X6_16 X hP hS (k := 10) rfl dX6_add_34 (fun H locs hP hS => ?_)
    exact zret_v X hP hS hf dX6_add_37
  · refine lv_aload_n hx hb dX6_add_7 rfl (lv_at hl 0 rfl) ?_
    refine gf_X6_16 X hP (k := 10) rfl dX6_add_8 ?_
    refine lv_sipush (v := 200) hx hb dX6_add_11 (by decide) ?_
    refine zicmp_ge (tgt := 27) hx hb dX6_add_14 (by decide) hf (fun hf => ?_) (fun hf => ?_)
    · refine lv_aload_n hx hb dX6_add_27 rfl (lv_at hl 0 rfl) ?_
      refine lv_dup hx hb dX6_add_28 rfl ?_
      refine gf_X6_16 X hP (k := 10) rfl dX6_add_29 ?_
      refine lv_iconst (v := 1) hx hb dX6_add_32 (by decide) ?_
      refine lv_iadd hx hb dX6_add_33 ?_
      refine pf_X6_16 X hP hS (k := 10) rfl dX6_add_34 (fun H locs hP hS => ?_)
      exact zret_v X hP hS hf dX6_add_37
    · refine lv_aload_n hx hb dX6_add_17 rfl (lv_at hl 0 rfl) ?_
      refine gf_X6_9 X hP (k := 10) (q := 80) rfl dX6_add_18 rfl ?_
      refine lv_aload_n hx hb dX6_add_21 rfl (lv_at hl 0 rfl) ?_
      refine gf_X6_16 X hP (k := 10) rfl dX6_add_22 ?_
      refine lv_iload_n hx hb dX6_add_25 rfl (lv_at hl 1 rfl) ?_
      obtain ⟨g1, hf⟩ := zgd hf
      refine zast_c X hP hS (k := 80) (n := 200) (rs := []) rfl g1 dX6_add_26 (fun H locs hP hS => ?_)
      refine lv_aload_n hx hb dX6_add_27 rfl (lv_at hl 0 rfl) ?_
      refine lv_dup hx hb dX6_add_28 rfl ?_
      refine gf_X6_16 X hP (k := 10) rfl dX6_add_29 ?_
      refine lv_iconst (v := 1) hx hb dX6_add_32 (by decide) ?_
      refine lv_iadd hx hb dX6_add_33 ?_
      refine pf_X6_16 X hP hS (k := 10) rfl dX6_add_34 (fun H locs hP hS => ?_)
      exact zret_v X hP hS hf dX6_add_37
theorem dX6_addFigures_0 : decode cX6_addFigures 0 = .ok (.lload_n 1, 1) := by decide +kernel
theorem dX6_addFigures_1 : decode cX6_addFigures 1 = .ok (.lconst 0, 1) := by decide +kernel
theorem dX6_addFigures_2 : decode cX6_addFigures 2 = .ok (.lcmp, 1) := by decide +kernel
theorem dX6_addFigures_3 : decode cX6_addFigures 3 = .ok (.ifCond .le 8, 3) := by decide +kernel
theorem dX6_addFigures_6 : decode cX6_addFigures 6 = .ok (.lload_n 1, 1) := by decide +kernel
theorem dX6_addFigures_7 : decode cX6_addFigures 7 = .ok (.lneg, 1) := by decide +kernel
theorem dX6_addFigures_8 : decode cX6_addFigures 8 = .ok (.goto 4, 3) := by decide +kernel
theorem dX6_addFigures_11 : decode cX6_addFigures 11 = .ok (.lload_n 1, 1) := by decide +kernel
theorem dX6_addFigures_12 : decode cX6_addFigures 12 = .ok (.lstore_n 3, 1) := by decide +kernel
theorem dX6_addFigures_13 : decode cX6_addFigures 13 = .ok (.iconst 0, 1) := by decide +kernel
theorem dX6_addFigures_14 : decode cX6_addFigures 14 = .ok (.istore 5, 2) := by decide +kernel
theorem dX6_addFigures_16 : decode cX6_addFigures 16 = .ok (.iconst 0, 1) := by decide +kernel
theorem dX6_addFigures_17 : decode cX6_addFigures 17 = .ok (.istore 6, 2) := by decide +kernel
theorem dX6_addFigures_19 : decode cX6_addFigures 19 = .ok (.iload 6, 2) := by decide +kernel
theorem dX6_addFigures_21 : decode cX6_addFigures 21 = .ok (.bipush 20, 2) := by decide +kernel
theorem dX6_addFigures_23 : decode cX6_addFigures 23 = .ok (.if_icmp .ge 50, 3) := by decide +kernel
theorem dX6_addFigures_26 : decode cX6_addFigures 26 = .ok (.lload_n 3, 1) := by decide +kernel
theorem dX6_addFigures_27 : decode cX6_addFigures 27 = .ok (.lconst 0, 1) := by decide +kernel
theorem dX6_addFigures_28 : decode cX6_addFigures 28 = .ok (.lcmp, 1) := by decide +kernel
theorem dX6_addFigures_29 : decode cX6_addFigures 29 = .ok (.ifCond .ne 8, 3) := by decide +kernel
theorem dX6_addFigures_32 : decode cX6_addFigures 32 = .ok (.iload 6, 2) := by decide +kernel
theorem dX6_addFigures_34 : decode cX6_addFigures 34 = .ok (.ifCond .ne 39, 3) := by decide +kernel
theorem dX6_addFigures_37 : decode cX6_addFigures 37 = .ok (.aload_n 0, 1) := by decide +kernel
theorem dX6_addFigures_38 : decode cX6_addFigures 38 = .ok (.getfield 13, 3) := by decide +kernel
theorem dX6_addFigures_41 : decode cX6_addFigures 41 = .ok (.iload 6, 2) := by decide +kernel
theorem dX6_addFigures_43 : decode cX6_addFigures 43 = .ok (.ldc2_w 46, 3) := by decide +kernel
theorem dX6_addFigures_46 : decode cX6_addFigures 46 = .ok (.lload_n 3, 1) := by decide +kernel
theorem dX6_addFigures_47 : decode cX6_addFigures 47 = .ok (.ldc2_w 48, 3) := by decide +kernel
theorem dX6_addFigures_50 : decode cX6_addFigures 50 = .ok (.lrem, 1) := by decide +kernel
theorem dX6_addFigures_51 : decode cX6_addFigures 51 = .ok (.lsub, 1) := by decide +kernel
theorem dX6_addFigures_52 : decode cX6_addFigures 52 = .ok (.l2i, 1) := by decide +kernel
theorem dX6_addFigures_53 : decode cX6_addFigures 53 = .ok (.i2c, 1) := by decide +kernel
theorem dX6_addFigures_54 : decode cX6_addFigures 54 = .ok (.castore, 1) := by decide +kernel
theorem dX6_addFigures_55 : decode cX6_addFigures 55 = .ok (.lload_n 3, 1) := by decide +kernel
theorem dX6_addFigures_56 : decode cX6_addFigures 56 = .ok (.ldc2_w 48, 3) := by decide +kernel
theorem dX6_addFigures_59 : decode cX6_addFigures 59 = .ok (.ldiv, 1) := by decide +kernel
theorem dX6_addFigures_60 : decode cX6_addFigures 60 = .ok (.lstore_n 3, 1) := by decide +kernel
theorem dX6_addFigures_61 : decode cX6_addFigures 61 = .ok (.iload 6, 2) := by decide +kernel
theorem dX6_addFigures_63 : decode cX6_addFigures 63 = .ok (.iconst 1, 1) := by decide +kernel
theorem dX6_addFigures_64 : decode cX6_addFigures 64 = .ok (.iadd, 1) := by decide +kernel
theorem dX6_addFigures_65 : decode cX6_addFigures 65 = .ok (.istore 5, 2) := by decide +kernel
theorem dX6_addFigures_67 : decode cX6_addFigures 67 = .ok (.iinc 6 1, 3) := by decide +kernel
theorem dX6_addFigures_70 : decode cX6_addFigures 70 = .ok (.goto (-51), 3) := by decide +kernel
theorem dX6_addFigures_73 : decode cX6_addFigures 73 = .ok (.iload 5, 2) := by decide +kernel
theorem dX6_addFigures_75 : decode cX6_addFigures 75 = .ok (.iconst 1, 1) := by decide +kernel
theorem dX6_addFigures_76 : decode cX6_addFigures 76 = .ok (.isub, 1) := by decide +kernel
theorem dX6_addFigures_77 : decode cX6_addFigures 77 = .ok (.istore 6, 2) := by decide +kernel
theorem dX6_addFigures_79 : decode cX6_addFigures 79 = .ok (.iload 6, 2) := by decide +kernel
theorem dX6_addFigures_81 : decode cX6_addFigures 81 = .ok (.ifCond .lt 20, 3) := by decide +kernel
theorem dX6_addFigures_84 : decode cX6_addFigures 84 = .ok (.aload_n 0, 1) := by decide +kernel
theorem dX6_addFigures_85 : decode cX6_addFigures 85 = .ok (.aload_n 0, 1) := by decide +kernel
theorem dX6_addFigures_86 : decode cX6_addFigures 86 = .ok (.getfield 13, 3) := by decide +kernel
theorem dX6_addFigures_89 : decode cX6_addFigures 89 = .ok (.iload 6, 2) := by decide +kernel
theorem dX6_addFigures_91 : decode cX6_addFigures 91 = .ok (.caload, 1) := by decide +kernel
theorem dX6_addFigures_92 : decode cX6_addFigures 92 = .ok (.invokevirtual 26, 3) := by decide +kernel
theorem dX6_addFigures_95 : decode cX6_addFigures 95 = .ok (.iinc 6 (-1), 3) := by decide +kernel
theorem dX6_addFigures_98 : decode cX6_addFigures 98 = .ok (.goto (-19), 3) := by decide +kernel
theorem dX6_addFigures_101 : decode cX6_addFigures 101 = .ok (.return_, 1) := by decide +kernel
set_option maxHeartbeats 4000000 in
set_option maxRecDepth 100000 in
theorem cn_X6_addFigures {l : Launch} {cA : Nat → ClassId} {ad : Nat → Nat} {D : va_G} {E : Nat → Nat} {A : Nat → Prop} {x1 : Int64} {s0 sr : SS} {rr : Unit} (hf : f_X6_addFigures x1 s0 = some (rr, sr)) : zCon Ox Nx cA ad D E l yX6_addFigures cX6_addFigures 7 none 1 A [.ref (ad 10), .long x1] s0 none sr := by
  refine zstart (own := RX6) hOx (by decide) rfl (Nat.le_of_ble_eq_true rfl) ?_
  intro p e s m args below meth c X hP ls hl
  have hx := X.1
  have hb := X.2.1
  have hl : lv_has ls 7 [(0, .ref (ad 10)), (1, .long x1)] := hl
  have hS : va_S A s.heap s.heap [] := va_S.rf
  have hc_19 : ∀ (n19 : Nat) (x3 : Int64) (x5 : Int32) (x6 : Int32) (s1 : SS) (H : Heap) (locs : List Loc) (ls : Array Slot), lv_has ls 7 [(0, .ref (ad 10)), (3, .long x3), (5, .int x5), (6, .int x6)] → va_P D ZCL (zw Ox Nx cA ad s1) H → va_S A s.heap H locs → f_X6_addFigures_c19 n19 x3 x5 x6 s1 = some (rr, sr) → W p l e (zrm 1) s m args below meth c H locs 0 0 (MQ below (zQc Ox Nx cA ad D A none sr) args s 0 0 A) (F0 m 19 ls []) := by
    intro n19
    induction n19 with
    | zero =>
      intro x3 x5 x6 s1 H locs ls hl hP hS hf
      rw [f_X6_addFigures_c19] at hf
      cases hf
    | succ n19 ih19 =>
      have hc_79 : ∀ (n79 : Nat) (x6 : Int32) (s1 : SS) (H : Heap) (locs : List Loc) (ls : Array Slot), lv_has ls 7 [(0, .ref (ad 10)), (6, .int x6)] → va_P D ZCL (zw Ox Nx cA ad s1) H → va_S A s.heap H locs → f_X6_addFigures_c79 n79 x6 s1 = some (rr, sr) → W p l e (zrm 1) s m args below meth c H locs 0 0 (MQ below (zQc Ox Nx cA ad D A none sr) args s 0 0 A) (F0 m 79 ls []) := by
        intro n79
        induction n79 with
        | zero =>
          intro x6 s1 H locs ls hl hP hS hf
          rw [f_X6_addFigures_c79] at hf
          cases hf
        | succ n79 ih79 =>
          intro x6 s1 H locs ls hl hP hS hf
          rw [f_X6_addFigures_c79] at hf
          refine lv_iload hx hb dX6_addFigures_79 (lv_at hl 1 rfl) ?_
          refine zif_lt (tgt := 101) hx hb dX6_addFigures_81 (by decide) hf (fun hf => ?_) (fun hf => ?_)
          · exact zret_v X hP hS hf dX6_addFigures_101
          · refine lv_aload_n hx hb dX6_addFigures_84 rfl (lv_at hl 0 rfl) ?_
            refine lv_aload_n hx hb dX6_addFigures_85 rfl (lv_at hl 0 rfl) ?_
            refine gf_X6_13 X hP (k := 10) (q := 81) rfl dX6_addFigures_86 rfl ?_
            refine lv_iload hx hb dX6_addFigures_89 (lv_at hl 1 rfl) ?_
            obtain ⟨g1, hf⟩ := zgd hf
            refine zald_c X hP (k := 81) (n := 20) (rs := []) rfl g1 dX6_addFigures_91 ?_
            obtain ⟨r2, s3, h4, hf⟩ := zbd_some hf
            refine zcallV X hP hS hl.1 (k := 10) (As := [.int (s1.1 81 (x6).toNatClampNeg)]) (rest := []) (cn_X6_add h4) cw_X6_add zp_6 rfl (by decide) rfl ml_X6_26 (by decide) rfl rfl (Nat.le_of_ble_eq_true rfl) dX6_addFigures_92 (fun H locs hP hS => ?_)
            refine lv_iinc (v := (x6 + (-1))) (lv' := [(6, .int (x6 + (-1))), (0, .ref (ad 10))]) hx hb dX6_addFigures_95 hl (k := 1) rfl rfl (by decide) rfl (fun ls hl => ?_)
            refine lv_goto (tgt := 79) hx hb dX6_addFigures_98 (by decide) ?_
            exact ih79 (x6 + (-1)) s3 _ _ _ (lv_sub hl [1, 0] rfl) hP hS hf
      have hc_73 : ∀ (x5 : Int32) (s1 : SS) (H : Heap) (locs : List Loc) (ls : Array Slot), lv_has ls 7 [(0, .ref (ad 10)), (5, .int x5)] → va_P D ZCL (zw Ox Nx cA ad s1) H → va_S A s.heap H locs → f_X6_addFigures_c73 x5 s1 = some (rr, sr) → W p l e (zrm 1) s m args below meth c H locs 0 0 (MQ below (zQc Ox Nx cA ad D A none sr) args s 0 0 A) (F0 m 73 ls []) := by
        intro x5 s1 H locs ls hl hP hS hf
        rw [f_X6_addFigures_c73] at hf
        refine lv_iload hx hb dX6_addFigures_73 (lv_at hl 1 rfl) ?_
        refine lv_iconst (v := 1) hx hb dX6_addFigures_75 (by decide) ?_
        refine lv_isub hx hb dX6_addFigures_76 ?_
        refine lv_istore (lv' := [(6, .int (x5 - (1 : Int32))), (0, .ref (ad 10)), (5, .int x5)]) hx hb dX6_addFigures_77 hl (by decide) rfl (fun ls hl => ?_)
        exact hc_79 ZF (x5 - (1 : Int32)) s1 _ _ _ (lv_sub hl [1, 0] rfl) hP hS hf
      have hc_37 : ∀ (x3 : Int64) (x6 : Int32) (s1 : SS) (H : Heap) (locs : List Loc) (ls : Array Slot), lv_has ls 7 [(0, .ref (ad 10)), (3, .long x3), (6, .int x6)] → va_P D ZCL (zw Ox Nx cA ad s1) H → va_S A s.heap H locs → f_X6_addFigures_c37 (f_X6_addFigures_c19 n19) x3 x6 s1 = some (rr, sr) → W p l e (zrm 1) s m args below meth c H locs 0 0 (MQ below (zQc Ox Nx cA ad D A none sr) args s 0 0 A) (F0 m 37 ls []) := by
        intro x3 x6 s1 H locs ls hl hP hS hf
        rw [f_X6_addFigures_c37] at hf
        refine lv_aload_n hx hb dX6_addFigures_37 rfl (lv_at hl 0 rfl) ?_
        refine gf_X6_13 X hP (k := 10) (q := 81) rfl dX6_addFigures_38 rfl ?_
        refine lv_iload hx hb dX6_addFigures_41 (lv_at hl 2 rfl) ?_
        refine zldc2 X co_X6_46 dX6_addFigures_43 ?_
        refine lv_lload_n hx hb dX6_addFigures_46 rfl (lv_at hl 1 rfl) ?_
        refine zldc2 X co_X6_48 dX6_addFigures_47 ?_
        refine lv_lrem hx hb dX6_addFigures_50 (by decide) ?_
        refine lv_lsub hx hb dX6_addFigures_51 ?_
        refine lv_l2i hx hb dX6_addFigures_52 rfl ?_
        refine lv_i2c hx hb dX6_addFigures_53 rfl ?_
        obtain ⟨g5, hf⟩ := zgd hf
        refine zast_c X hP hS (k := 81) (n := 20) (rs := []) rfl g5 dX6_addFigures_54 (fun H locs hP hS => ?_)
        refine lv_lload_n hx hb dX6_addFigures_55 rfl (lv_at hl 1 rfl) ?_
        refine zldc2 X co_X6_48 dX6_addFigures_56 ?_
        refine lv_ldiv hx hb dX6_addFigures_59 (by decide) ?_
        refine lv_lstore_n (lv' := [(3, .long (x3 / (10 : Int64))), (0, .ref (ad 10)), (6, .int x6)]) hx hb dX6_addFigures_60 rfl hl (by decide) rfl (fun ls hl => ?_)
        refine lv_iload hx hb dX6_addFigures_61 (lv_at hl 2 rfl) ?_
        refine lv_iconst (v := 1) hx hb dX6_addFigures_63 (by decide) ?_
        refine lv_iadd hx hb dX6_addFigures_64 ?_
        refine lv_istore (lv' := [(5, .int (x6 + (1 : Int32))), (3, .long (x3 / (10 : Int64))), (0, .ref (ad 10)), (6, .int x6)]) hx hb dX6_addFigures_65 hl (by decide) rfl (fun ls hl => ?_)
        refine lv_iinc (v := (x6 + 1)) (lv' := [(6, .int (x6 + 1)), (5, .int (x6 + (1 : Int32))), (3, .long (x3 / (10 : Int64))), (0, .ref (ad 10))]) hx hb dX6_addFigures_67 hl (k := 3) rfl rfl (by decide) rfl (fun ls hl => ?_)
        refine lv_goto (tgt := 19) hx hb dX6_addFigures_70 (by decide) ?_
        exact ih19 (x3 / (10 : Int64)) (x6 + (1 : Int32)) (x6 + 1) (zS s1 81 (x6).toNatClampNeg ((vp_nar .char ((((((48 : Int64) - (x3 - x3 / (10 : Int64) * (10 : Int64)))).toInt32).toUInt32 % 65536).toInt32)))) _ _ _ (lv_sub hl [3, 2, 1, 0] rfl) hP hS hf
      intro x3 x5 x6 s1 H locs ls hl hP hS hf
      rw [f_X6_addFigures_c19] at hf
      refine lv_iload hx hb dX6_addFigures_19 (lv_at hl 3 rfl) ?_
      refine lv_bipush (v := 20) hx hb dX6_addFigures_21 (by decide) ?_
      refine zicmp_ge (tgt := 73) hx hb dX6_addFigures_23 (by decide) hf (fun hf => ?_) (fun hf => ?_)
      · exact hc_73 x5 s1 _ _ _ (lv_sub hl [0, 2] rfl) hP hS hf
      · refine lv_lload_n hx hb dX6_addFigures_26 rfl (lv_at hl 1 rfl) ?_
        refine lv_lconst (v := 0) hx hb dX6_addFigures_27 (by decide) ?_
        refine W.lcmp hx hb dX6_addFigures_28 ?_
        refine zif_ne (tgt := 37) hx hb dX6_addFigures_29 (by decide) hf (fun hf => ?_) (fun hf => ?_)
        · exact hc_37 x3 x6 s1 _ _ _ (lv_sub hl [0, 1, 3] rfl) hP hS hf
        · refine lv_iload hx hb dX6_addFigures_32 (lv_at hl 3 rfl) ?_
          refine zif_ne (tgt := 73) hx hb dX6_addFigures_34 (by decide) hf (fun hf => ?_) (fun hf => ?_)
          · exact hc_73 x5 s1 _ _ _ (lv_sub hl [0, 2] rfl) hP hS hf
          · exact hc_37 x3 x6 s1 _ _ _ (lv_sub hl [0, 1, 3] rfl) hP hS hf
  have hc_12 : ∀ (t0 : Int64) (s1 : SS) (H : Heap) (locs : List Loc) (ls : Array Slot), lv_has ls 7 [(0, .ref (ad 10))] → va_P D ZCL (zw Ox Nx cA ad s1) H → va_S A s.heap H locs → f_X6_addFigures_c12 t0 s1 = some (rr, sr) → W p l e (zrm 1) s m args below meth c H locs 0 0 (MQ below (zQc Ox Nx cA ad D A none sr) args s 0 0 A) (F0 m 12 ls [.long t0]) := by
    intro t0 s1 H locs ls hl hP hS hf
    rw [f_X6_addFigures_c12] at hf
    refine lv_lstore_n (lv' := [(3, .long t0), (0, .ref (ad 10))]) hx hb dX6_addFigures_12 rfl hl (by decide) rfl (fun ls hl => ?_)
    refine lv_iconst (v := 0) hx hb dX6_addFigures_13 (by decide) ?_
    refine lv_istore (lv' := [(5, .int 0), (3, .long t0), (0, .ref (ad 10))]) hx hb dX6_addFigures_14 hl (by decide) rfl (fun ls hl => ?_)
    refine lv_iconst (v := 0) hx hb dX6_addFigures_16 (by decide) ?_
    refine lv_istore (lv' := [(6, .int 0), (5, .int 0), (3, .long t0), (0, .ref (ad 10))]) hx hb dX6_addFigures_17 hl (by decide) rfl (fun ls hl => ?_)
    exact hc_19 ZF t0 0 0 s1 _ _ _ (lv_sub hl [3, 2, 1, 0] rfl) hP hS hf
  rw [f_X6_addFigures] at hf
  refine lv_lload_n hx hb dX6_addFigures_0 rfl (lv_at hl 1 rfl) ?_
  refine lv_lconst (v := 0) hx hb dX6_addFigures_1 (by decide) ?_
  refine W.lcmp hx hb dX6_addFigures_2 ?_
  refine zif_le (tgt := 11) hx hb dX6_addFigures_3 (by decide) hf (fun hf => ?_) (fun hf => ?_)
  · refine lv_lload_n hx hb dX6_addFigures_11 rfl (lv_at hl 1 rfl) ?_
    exact hc_12 x1 s0 _ _ _ (lv_sub hl [0] rfl) hP hS hf
  · refine lv_lload_n hx hb dX6_addFigures_6 rfl (lv_at hl 1 rfl) ?_
    refine lv_lneg hx hb dX6_addFigures_7 ?_
    refine lv_goto (tgt := 12) hx hb dX6_addFigures_8 (by decide) ?_
    exact hc_12 (-x1) s0 _ _ _ (lv_sub hl [0] rfl) hP hS hf
theorem dX7_letterCount_0 : decode cX7_letterCount 0 = .ok (.aload_n 0, 1) := by decide +kernel
theorem dX7_letterCount_1 : decode cX7_letterCount 1 = .ok (.getfield 28, 3) := by decide +kernel
theorem dX7_letterCount_4 : decode cX7_letterCount 4 = .ok (.aload_n 0, 1) := by decide +kernel
theorem dX7_letterCount_5 : decode cX7_letterCount 5 = .ok (.getfield 25, 3) := by decide +kernel
theorem dX7_letterCount_8 : decode cX7_letterCount 8 = .ok (.iadd, 1) := by decide +kernel
theorem dX7_letterCount_9 : decode cX7_letterCount 9 = .ok (.aload_n 0, 1) := by decide +kernel
theorem dX7_letterCount_10 : decode cX7_letterCount 10 = .ok (.getfield 21, 3) := by decide +kernel
theorem dX7_letterCount_13 : decode cX7_letterCount 13 = .ok (.iconst 2, 1) := by decide +kernel
theorem dX7_letterCount_14 : decode cX7_letterCount 14 = .ok (.if_icmp .ne 7, 3) := by decide +kernel
theorem dX7_letterCount_17 : decode cX7_letterCount 17 = .ok (.iconst 1, 1) := by decide +kernel
theorem dX7_letterCount_18 : decode cX7_letterCount 18 = .ok (.goto 4, 3) := by decide +kernel
theorem dX7_letterCount_21 : decode cX7_letterCount 21 = .ok (.iconst 0, 1) := by decide +kernel
theorem dX7_letterCount_22 : decode cX7_letterCount 22 = .ok (.iadd, 1) := by decide +kernel
theorem dX7_letterCount_23 : decode cX7_letterCount 23 = .ok (.ireturn, 1) := by decide +kernel
set_option maxHeartbeats 4000000 in
set_option maxRecDepth 100000 in
theorem cn_X7_letterCount {l : Launch} {cA : Nat → ClassId} {ad : Nat → Nat} {D : va_G} {E : Nat → Nat} {A : Nat → Prop} {k0 : Nat} {s0 sr : SS} {rr : Int32} (hf : f_X7_letterCount k0 s0 = some (rr, sr)) : zCon Ox Nx cA ad D E l yX7_letterCount cX7_letterCount 1 (some .int) 0 A [.ref (ad k0)] s0 (some (.int rr)) sr := by
  refine zstart (own := RX7) hOx (by decide) rfl (Nat.le_of_ble_eq_true rfl) ?_
  intro p e s m args below meth c X hP ls hl
  have hx := X.1
  have hb := X.2.1
  have hl : lv_has ls 1 [(0, .ref (ad k0))] := hl
  have hS : va_S A s.heap s.heap [] := va_S.rf
  rw [f_X7_letterCount] at hf
  obtain ⟨gp0, hf⟩ := zgd hf
  refine lv_aload_n hx hb dX7_letterCount_0 rfl (lv_at hl 0 rfl) ?_
  refine gf_X7_28 X hP (k := k0) gp0 dX7_letterCount_1 ?_
  refine lv_aload_n hx hb dX7_letterCount_4 rfl (lv_at hl 0 rfl) ?_
  refine gf_X7_25 X hP (k := k0) gp0 dX7_letterCount_5 ?_
  refine lv_iadd hx hb dX7_letterCount_8 ?_
  refine lv_aload_n hx hb dX7_letterCount_9 rfl (lv_at hl 0 rfl) ?_
  refine gf_X7_21 X hP (k := k0) gp0 dX7_letterCount_10 ?_
  refine lv_iconst (v := 2) hx hb dX7_letterCount_13 (by decide) ?_
  refine zicmp_ne (tgt := 21) hx hb dX7_letterCount_14 (by decide) hf (fun hf => ?_) (fun hf => ?_)
  · refine lv_iconst (v := 0) hx hb dX7_letterCount_21 (by decide) ?_
    refine lv_iadd hx hb dX7_letterCount_22 ?_
    exact zret_i X hP hS hf rfl dX7_letterCount_23
  · refine lv_iconst (v := 1) hx hb dX7_letterCount_17 (by decide) ?_
    refine lv_goto (tgt := 22) hx hb dX7_letterCount_18 (by decide) ?_
    refine lv_iadd hx hb dX7_letterCount_22 ?_
    exact zret_i X hP hS hf rfl dX7_letterCount_23
theorem dX7_signOf_0 : decode cX7_signOf 0 = .ok (.iload_n 1, 1) := by decide +kernel
theorem dX7_signOf_1 : decode cX7_signOf 1 = .ok (.aload_n 0, 1) := by decide +kernel
theorem dX7_signOf_2 : decode cX7_signOf 2 = .ok (.getfield 28, 3) := by decide +kernel
theorem dX7_signOf_5 : decode cX7_signOf 5 = .ok (.if_icmp .ge 9, 3) := by decide +kernel
theorem dX7_signOf_8 : decode cX7_signOf 8 = .ok (.bipush 97, 2) := by decide +kernel
theorem dX7_signOf_10 : decode cX7_signOf 10 = .ok (.iload_n 1, 1) := by decide +kernel
theorem dX7_signOf_11 : decode cX7_signOf 11 = .ok (.iadd, 1) := by decide +kernel
theorem dX7_signOf_12 : decode cX7_signOf 12 = .ok (.i2c, 1) := by decide +kernel
theorem dX7_signOf_13 : decode cX7_signOf 13 = .ok (.ireturn, 1) := by decide +kernel
theorem dX7_signOf_14 : decode cX7_signOf 14 = .ok (.aload_n 0, 1) := by decide +kernel
theorem dX7_signOf_15 : decode cX7_signOf 15 = .ok (.getfield 21, 3) := by decide +kernel
theorem dX7_signOf_18 : decode cX7_signOf 18 = .ok (.iconst 2, 1) := by decide +kernel
theorem dX7_signOf_19 : decode cX7_signOf 19 = .ok (.if_icmp .ne 6, 3) := by decide +kernel
theorem dX7_signOf_22 : decode cX7_signOf 22 = .ok (.bipush 118, 2) := by decide +kernel
theorem dX7_signOf_24 : decode cX7_signOf 24 = .ok (.ireturn, 1) := by decide +kernel
theorem dX7_signOf_25 : decode cX7_signOf 25 = .ok (.aload_n 0, 1) := by decide +kernel
theorem dX7_signOf_26 : decode cX7_signOf 26 = .ok (.getfield 21, 3) := by decide +kernel
theorem dX7_signOf_29 : decode cX7_signOf 29 = .ok (.ifCond .ne 8, 3) := by decide +kernel
theorem dX7_signOf_32 : decode cX7_signOf 32 = .ok (.bipush 112, 2) := by decide +kernel
theorem dX7_signOf_34 : decode cX7_signOf 34 = .ok (.goto 5, 3) := by decide +kernel
theorem dX7_signOf_37 : decode cX7_signOf 37 = .ok (.bipush 117, 2) := by decide +kernel
theorem dX7_signOf_39 : decode cX7_signOf 39 = .ok (.iload_n 1, 1) := by decide +kernel
theorem dX7_signOf_40 : decode cX7_signOf 40 = .ok (.iadd, 1) := by decide +kernel
theorem dX7_signOf_41 : decode cX7_signOf 41 = .ok (.aload_n 0, 1) := by decide +kernel
theorem dX7_signOf_42 : decode cX7_signOf 42 = .ok (.getfield 28, 3) := by decide +kernel
theorem dX7_signOf_45 : decode cX7_signOf 45 = .ok (.isub, 1) := by decide +kernel
theorem dX7_signOf_46 : decode cX7_signOf 46 = .ok (.i2c, 1) := by decide +kernel
theorem dX7_signOf_47 : decode cX7_signOf 47 = .ok (.ireturn, 1) := by decide +kernel
set_option maxHeartbeats 4000000 in
set_option maxRecDepth 100000 in
theorem cn_X7_signOf {l : Launch} {cA : Nat → ClassId} {ad : Nat → Nat} {D : va_G} {E : Nat → Nat} {A : Nat → Prop} {k0 : Nat} {x1 : Int32} {s0 sr : SS} {rr : Int32} (hf : f_X7_signOf k0 x1 s0 = some (rr, sr)) : zCon Ox Nx cA ad D E l yX7_signOf cX7_signOf 2 (some .char) 0 A [.ref (ad k0), .int x1] s0 (some (.int rr)) sr := by
  refine zstart (own := RX7) hOx (by decide) rfl (Nat.le_of_ble_eq_true rfl) ?_
  intro p e s m args below meth c X hP ls hl
  have hx := X.1
  have hb := X.2.1
  have hl : lv_has ls 2 [(0, .ref (ad k0)), (1, .int x1)] := hl
  have hS : va_S A s.heap s.heap [] := va_S.rf
  rw [f_X7_signOf] at hf
  obtain ⟨gp0, hf⟩ := zgd hf
  refine lv_iload_n hx hb dX7_signOf_0 rfl (lv_at hl 1 rfl) ?_
  refine lv_aload_n hx hb dX7_signOf_1 rfl (lv_at hl 0 rfl) ?_
  refine gf_X7_28 X hP (k := k0) gp0 dX7_signOf_2 ?_
  refine zicmp_ge (tgt := 14) hx hb dX7_signOf_5 (by decide) hf (fun hf => ?_) (fun hf => ?_)
  · refine lv_aload_n hx hb dX7_signOf_14 rfl (lv_at hl 0 rfl) ?_
    refine gf_X7_21 X hP (k := k0) gp0 dX7_signOf_15 ?_
    refine lv_iconst (v := 2) hx hb dX7_signOf_18 (by decide) ?_
    refine zicmp_ne (tgt := 25) hx hb dX7_signOf_19 (by decide) hf (fun hf => ?_) (fun hf => ?_)
    · refine lv_aload_n hx hb dX7_signOf_25 rfl (lv_at hl 0 rfl) ?_
      refine gf_X7_21 X hP (k := k0) gp0 dX7_signOf_26 ?_
      refine zif_ne (tgt := 37) hx hb dX7_signOf_29 (by decide) hf (fun hf => ?_) (fun hf => ?_)
      · refine lv_bipush (v := 117) hx hb dX7_signOf_37 (by decide) ?_
        refine lv_iload_n hx hb dX7_signOf_39 rfl (lv_at hl 1 rfl) ?_
        refine lv_iadd hx hb dX7_signOf_40 ?_
        refine lv_aload_n hx hb dX7_signOf_41 rfl (lv_at hl 0 rfl) ?_
        refine gf_X7_28 X hP (k := k0) gp0 dX7_signOf_42 ?_
        refine lv_isub hx hb dX7_signOf_45 ?_
        refine lv_i2c hx hb dX7_signOf_46 rfl ?_
        obtain ⟨b1, hf⟩ := zgd hf
        exact zret_i X hP hS hf (znar_of (by decide) b1) dX7_signOf_47
      · refine lv_bipush (v := 112) hx hb dX7_signOf_32 (by decide) ?_
        refine lv_goto (tgt := 39) hx hb dX7_signOf_34 (by decide) ?_
        refine lv_iload_n hx hb dX7_signOf_39 rfl (lv_at hl 1 rfl) ?_
        refine lv_iadd hx hb dX7_signOf_40 ?_
        refine lv_aload_n hx hb dX7_signOf_41 rfl (lv_at hl 0 rfl) ?_
        refine gf_X7_28 X hP (k := k0) gp0 dX7_signOf_42 ?_
        refine lv_isub hx hb dX7_signOf_45 ?_
        refine lv_i2c hx hb dX7_signOf_46 rfl ?_
        obtain ⟨b2, hf⟩ := zgd hf
        exact zret_i X hP hS hf (znar_of (by decide) b2) dX7_signOf_47
    · refine lv_bipush (v := 118) hx hb dX7_signOf_22 (by decide) ?_
      obtain ⟨b3, hf⟩ := zgd hf
      exact zret_i X hP hS hf (znar_of (by decide) b3) dX7_signOf_24
  · refine lv_bipush (v := 97) hx hb dX7_signOf_8 (by decide) ?_
    refine lv_iload_n hx hb dX7_signOf_10 rfl (lv_at hl 1 rfl) ?_
    refine lv_iadd hx hb dX7_signOf_11 ?_
    refine lv_i2c hx hb dX7_signOf_12 rfl ?_
    obtain ⟨b4, hf⟩ := zgd hf
    exact zret_i X hP hS hf (znar_of (by decide) b4) dX7_signOf_13
theorem dX6_addMember_0 : decode cX6_addMember 0 = .ok (.lload_n 3, 1) := by decide +kernel
theorem dX6_addMember_1 : decode cX6_addMember 1 = .ok (.lconst 0, 1) := by decide +kernel
theorem dX6_addMember_2 : decode cX6_addMember 2 = .ok (.lcmp, 1) := by decide +kernel
theorem dX6_addMember_3 : decode cX6_addMember 3 = .ok (.ifCond .ge 12, 3) := by decide +kernel
theorem dX6_addMember_6 : decode cX6_addMember 6 = .ok (.aload_n 0, 1) := by decide +kernel
theorem dX6_addMember_7 : decode cX6_addMember 7 = .ok (.bipush 45, 2) := by decide +kernel
theorem dX6_addMember_9 : decode cX6_addMember 9 = .ok (.invokevirtual 26, 3) := by decide +kernel
theorem dX6_addMember_12 : decode cX6_addMember 12 = .ok (.goto 16, 3) := by decide +kernel
theorem dX6_addMember_15 : decode cX6_addMember 15 = .ok (.aload_n 0, 1) := by decide +kernel
theorem dX6_addMember_16 : decode cX6_addMember 16 = .ok (.getfield 16, 3) := by decide +kernel
theorem dX6_addMember_19 : decode cX6_addMember 19 = .ok (.ifCond .le 9, 3) := by decide +kernel
theorem dX6_addMember_22 : decode cX6_addMember 22 = .ok (.aload_n 0, 1) := by decide +kernel
theorem dX6_addMember_23 : decode cX6_addMember 23 = .ok (.bipush 43, 2) := by decide +kernel
theorem dX6_addMember_25 : decode cX6_addMember 25 = .ok (.invokevirtual 26, 3) := by decide +kernel
theorem dX6_addMember_28 : decode cX6_addMember 28 = .ok (.iload_n 2, 1) := by decide +kernel
theorem dX6_addMember_29 : decode cX6_addMember 29 = .ok (.ifCond .eq 17, 3) := by decide +kernel
theorem dX6_addMember_32 : decode cX6_addMember 32 = .ok (.lload_n 3, 1) := by decide +kernel
theorem dX6_addMember_33 : decode cX6_addMember 33 = .ok (.lconst 1, 1) := by decide +kernel
theorem dX6_addMember_34 : decode cX6_addMember 34 = .ok (.lcmp, 1) := by decide +kernel
theorem dX6_addMember_35 : decode cX6_addMember 35 = .ok (.ifCond .eq 16, 3) := by decide +kernel
theorem dX6_addMember_38 : decode cX6_addMember 38 = .ok (.lload_n 3, 1) := by decide +kernel
theorem dX6_addMember_39 : decode cX6_addMember 39 = .ok (.ldc2_w 30, 3) := by decide +kernel
theorem dX6_addMember_42 : decode cX6_addMember 42 = .ok (.lcmp, 1) := by decide +kernel
theorem dX6_addMember_43 : decode cX6_addMember 43 = .ok (.ifCond .eq 8, 3) := by decide +kernel
theorem dX6_addMember_46 : decode cX6_addMember 46 = .ok (.aload_n 0, 1) := by decide +kernel
theorem dX6_addMember_47 : decode cX6_addMember 47 = .ok (.lload_n 3, 1) := by decide +kernel
theorem dX6_addMember_48 : decode cX6_addMember 48 = .ok (.invokevirtual 32, 3) := by decide +kernel
theorem dX6_addMember_51 : decode cX6_addMember 51 = .ok (.iload_n 2, 1) := by decide +kernel
theorem dX6_addMember_52 : decode cX6_addMember 52 = .ok (.istore 5, 2) := by decide +kernel
theorem dX6_addMember_54 : decode cX6_addMember 54 = .ok (.iconst 0, 1) := by decide +kernel
theorem dX6_addMember_55 : decode cX6_addMember 55 = .ok (.istore 6, 2) := by decide +kernel
theorem dX6_addMember_57 : decode cX6_addMember 57 = .ok (.iload 6, 2) := by decide +kernel
theorem dX6_addMember_59 : decode cX6_addMember 59 = .ok (.aload_n 1, 1) := by decide +kernel
theorem dX6_addMember_60 : decode cX6_addMember 60 = .ok (.invokevirtual 36, 3) := by decide +kernel
theorem dX6_addMember_63 : decode cX6_addMember 63 = .ok (.if_icmp .ge 60, 3) := by decide +kernel
theorem dX6_addMember_66 : decode cX6_addMember 66 = .ok (.iload 5, 2) := by decide +kernel
theorem dX6_addMember_68 : decode cX6_addMember 68 = .ok (.bipush 10, 2) := by decide +kernel
theorem dX6_addMember_70 : decode cX6_addMember 70 = .ok (.irem, 1) := by decide +kernel
theorem dX6_addMember_71 : decode cX6_addMember 71 = .ok (.istore 7, 2) := by decide +kernel
theorem dX6_addMember_73 : decode cX6_addMember 73 = .ok (.iload 5, 2) := by decide +kernel
theorem dX6_addMember_75 : decode cX6_addMember 75 = .ok (.bipush 10, 2) := by decide +kernel
theorem dX6_addMember_77 : decode cX6_addMember 77 = .ok (.idiv, 1) := by decide +kernel
theorem dX6_addMember_78 : decode cX6_addMember 78 = .ok (.istore 5, 2) := by decide +kernel
theorem dX6_addMember_80 : decode cX6_addMember 80 = .ok (.iload 7, 2) := by decide +kernel
theorem dX6_addMember_82 : decode cX6_addMember 82 = .ok (.ifCond .le 13, 3) := by decide +kernel
theorem dX6_addMember_85 : decode cX6_addMember 85 = .ok (.aload_n 0, 1) := by decide +kernel
theorem dX6_addMember_86 : decode cX6_addMember 86 = .ok (.aload_n 1, 1) := by decide +kernel
theorem dX6_addMember_87 : decode cX6_addMember 87 = .ok (.iload 6, 2) := by decide +kernel
theorem dX6_addMember_89 : decode cX6_addMember 89 = .ok (.invokevirtual 42, 3) := by decide +kernel
theorem dX6_addMember_92 : decode cX6_addMember 92 = .ok (.invokevirtual 26, 3) := by decide +kernel
theorem dX6_addMember_95 : decode cX6_addMember 95 = .ok (.iload 7, 2) := by decide +kernel
theorem dX6_addMember_97 : decode cX6_addMember 97 = .ok (.iconst 1, 1) := by decide +kernel
theorem dX6_addMember_98 : decode cX6_addMember 98 = .ok (.if_icmp .le 19, 3) := by decide +kernel
theorem dX6_addMember_101 : decode cX6_addMember 101 = .ok (.aload_n 0, 1) := by decide +kernel
theorem dX6_addMember_102 : decode cX6_addMember 102 = .ok (.bipush 94, 2) := by decide +kernel
theorem dX6_addMember_104 : decode cX6_addMember 104 = .ok (.invokevirtual 26, 3) := by decide +kernel
theorem dX6_addMember_107 : decode cX6_addMember 107 = .ok (.aload_n 0, 1) := by decide +kernel
theorem dX6_addMember_108 : decode cX6_addMember 108 = .ok (.bipush 48, 2) := by decide +kernel
theorem dX6_addMember_110 : decode cX6_addMember 110 = .ok (.iload 7, 2) := by decide +kernel
theorem dX6_addMember_112 : decode cX6_addMember 112 = .ok (.iadd, 1) := by decide +kernel
theorem dX6_addMember_113 : decode cX6_addMember 113 = .ok (.i2c, 1) := by decide +kernel
theorem dX6_addMember_114 : decode cX6_addMember 114 = .ok (.invokevirtual 26, 3) := by decide +kernel
theorem dX6_addMember_117 : decode cX6_addMember 117 = .ok (.iinc 6 1, 3) := by decide +kernel
theorem dX6_addMember_120 : decode cX6_addMember 120 = .ok (.goto (-63), 3) := by decide +kernel
theorem dX6_addMember_123 : decode cX6_addMember 123 = .ok (.return_, 1) := by decide +kernel
set_option maxHeartbeats 4000000 in
set_option maxRecDepth 100000 in
theorem cn_X6_addMember {l : Launch} {cA : Nat → ClassId} {ad : Nat → Nat} {D : va_G} {E : Nat → Nat} {A : Nat → Prop} {k1 : Nat} {x2 : Int32} {x3 : Int64} {s0 sr : SS} {rr : Unit} (hf : f_X6_addMember k1 x2 x3 s0 = some (rr, sr)) : zCon Ox Nx cA ad D E l yX6_addMember cX6_addMember 8 none 2 A [.ref (ad 10), .ref (ad k1), .int x2, .long x3] s0 none sr := by
  refine zstart (own := RX6) hOx (by decide) rfl (Nat.le_of_ble_eq_true rfl) ?_
  intro p e s m args below meth c X hP ls hl
  have hx := X.1
  have hb := X.2.1
  have hl : lv_has ls 8 [(0, .ref (ad 10)), (1, .ref (ad k1)), (2, .int x2), (3, .long x3)] := hl
  have hS : va_S A s.heap s.heap [] := va_S.rf
  have hc_57 : ∀ (n57 : Nat) (k1 : Nat) (x5 : Int32) (x6 : Int32) (s1 : SS) (H : Heap) (locs : List Loc) (ls : Array Slot), lv_has ls 8 [(0, .ref (ad 10)), (1, .ref (ad k1)), (5, .int x5), (6, .int x6)] → va_P D ZCL (zw Ox Nx cA ad s1) H → va_S A s.heap H locs → f_X6_addMember_c57 n57 k1 x5 x6 s1 = some (rr, sr) → W p l e (zrm 2) s m args below meth c H locs 0 0 (MQ below (zQc Ox Nx cA ad D A none sr) args s 0 0 A) (F0 m 57 ls []) := by
    intro n57
    induction n57 with
    | zero =>
      intro k1 x5 x6 s1 H locs ls hl hP hS hf
      rw [f_X6_addMember_c57] at hf
      cases hf
    | succ n57 ih57 =>
      have hc_117 : ∀ (k1 : Nat) (x5 : Int32) (x6 : Int32) (s1 : SS) (H : Heap) (locs : List Loc) (ls : Array Slot), lv_has ls 8 [(0, .ref (ad 10)), (1, .ref (ad k1)), (5, .int x5), (6, .int x6)] → va_P D ZCL (zw Ox Nx cA ad s1) H → va_S A s.heap H locs → f_X6_addMember_c117 (f_X6_addMember_c57 n57) k1 x5 x6 s1 = some (rr, sr) → W p l e (zrm 2) s m args below meth c H locs 0 0 (MQ below (zQc Ox Nx cA ad D A none sr) args s 0 0 A) (F0 m 117 ls []) := by
        intro k1 x5 x6 s1 H locs ls hl hP hS hf
        rw [f_X6_addMember_c117] at hf
        obtain ⟨gp1, hf⟩ := zgd hf
        refine lv_iinc (v := (x6 + 1)) (lv' := [(6, .int (x6 + 1)), (0, .ref (ad 10)), (1, .ref (ad k1)), (5, .int x5)]) hx hb dX6_addMember_117 hl (k := 3) rfl rfl (by decide) rfl (fun ls hl => ?_)
        refine lv_goto (tgt := 57) hx hb dX6_addMember_120 (by decide) ?_
        exact ih57 k1 x5 (x6 + 1) s1 _ _ _ (lv_sub hl [1, 2, 3, 0] rfl) hP hS hf
      have hc_95 : ∀ (k1 : Nat) (x5 : Int32) (x6 : Int32) (x7 : Int32) (s1 : SS) (H : Heap) (locs : List Loc) (ls : Array Slot), lv_has ls 8 [(0, .ref (ad 10)), (1, .ref (ad k1)), (5, .int x5), (6, .int x6), (7, .int x7)] → va_P D ZCL (zw Ox Nx cA ad s1) H → va_S A s.heap H locs → f_X6_addMember_c95 (f_X6_addMember_c57 n57) k1 x5 x6 x7 s1 = some (rr, sr) → W p l e (zrm 2) s m args below meth c H locs 0 0 (MQ below (zQc Ox Nx cA ad D A none sr) args s 0 0 A) (F0 m 95 ls []) := by
        intro k1 x5 x6 x7 s1 H locs ls hl hP hS hf
        rw [f_X6_addMember_c95] at hf
        obtain ⟨gp1, hf⟩ := zgd hf
        refine lv_iload hx hb dX6_addMember_95 (lv_at hl 4 rfl) ?_
        refine lv_iconst (v := 1) hx hb dX6_addMember_97 (by decide) ?_
        refine zicmp_le (tgt := 117) hx hb dX6_addMember_98 (by decide) hf (fun hf => ?_) (fun hf => ?_)
        · exact hc_117 k1 x5 x6 s1 _ _ _ (lv_sub hl [0, 1, 2, 3] rfl) hP hS hf
        · refine lv_aload_n hx hb dX6_addMember_101 rfl (lv_at hl 0 rfl) ?_
          refine lv_bipush (v := 94) hx hb dX6_addMember_102 (by decide) ?_
          obtain ⟨r7, s8, h9, hf⟩ := zbd_some hf
          refine zcallV X hP hS hl.1 (k := 10) (As := [.int 94]) (rest := []) (cn_X6_add h9) cw_X6_add zp_6 rfl (by decide) rfl ml_X6_26 (by decide) rfl rfl (Nat.le_of_ble_eq_true rfl) dX6_addMember_104 (fun H locs hP hS => ?_)
          refine lv_aload_n hx hb dX6_addMember_107 rfl (lv_at hl 0 rfl) ?_
          refine lv_bipush (v := 48) hx hb dX6_addMember_108 (by decide) ?_
          refine lv_iload hx hb dX6_addMember_110 (lv_at hl 4 rfl) ?_
          refine lv_iadd hx hb dX6_addMember_112 ?_
          refine lv_i2c hx hb dX6_addMember_113 rfl ?_
          obtain ⟨r10, s11, h12, hf⟩ := zbd_some hf
          refine zcallV X hP hS hl.1 (k := 10) (As := [.int ((((48 : Int32) + x7)).toUInt32 % 65536).toInt32]) (rest := []) (cn_X6_add h12) cw_X6_add zp_6 rfl (by decide) rfl ml_X6_26 (by decide) rfl rfl (Nat.le_of_ble_eq_true rfl) dX6_addMember_114 (fun H locs hP hS => ?_)
          exact hc_117 k1 x5 x6 s11 _ _ _ (lv_sub hl [0, 1, 2, 3] rfl) hP hS hf
      intro k1 x5 x6 s1 H locs ls hl hP hS hf
      rw [f_X6_addMember_c57] at hf
      obtain ⟨gp1, hf⟩ := zgd hf
      refine lv_iload hx hb dX6_addMember_57 (lv_at hl 3 rfl) ?_
      refine lv_aload_n hx hb dX6_addMember_59 rfl (lv_at hl 1 rfl) ?_
      obtain ⟨r4, s5, h6, hf⟩ := zbd_some hf
      refine zcallV X hP hS hl.1 (k := k1) (As := []) (rest := [.int x6]) (cn_X7_letterCount h6) cw_X7_letterCount zp_7 gp1 (by decide) rfl ml_X6_36 (by decide) rfl rfl (Nat.le_of_ble_eq_true rfl) dX6_addMember_60 (fun H locs hP hS => ?_)
      refine zicmp_ge (tgt := 123) hx hb dX6_addMember_63 (by decide) hf (fun hf => ?_) (fun hf => ?_)
      · exact zret_v X hP hS hf dX6_addMember_123
      · refine lv_iload hx hb dX6_addMember_66 (lv_at hl 2 rfl) ?_
        refine lv_bipush (v := 10) hx hb dX6_addMember_68 (by decide) ?_
        refine lv_irem hx hb dX6_addMember_70 (by decide) ?_
        refine lv_istore (lv' := [(7, .int (x5 - x5 / (10 : Int32) * (10 : Int32))), (0, .ref (ad 10)), (1, .ref (ad k1)), (5, .int x5), (6, .int x6)]) hx hb dX6_addMember_71 hl (by decide) rfl (fun ls hl => ?_)
        refine lv_iload hx hb dX6_addMember_73 (lv_at hl 3 rfl) ?_
        refine lv_bipush (v := 10) hx hb dX6_addMember_75 (by decide) ?_
        refine lv_idiv hx hb dX6_addMember_77 (by decide) ?_
        refine lv_istore (lv' := [(5, .int (x5 / (10 : Int32))), (7, .int (x5 - x5 / (10 : Int32) * (10 : Int32))), (0, .ref (ad 10)), (1, .ref (ad k1)), (6, .int x6)]) hx hb dX6_addMember_78 hl (by decide) rfl (fun ls hl => ?_)
        refine lv_iload hx hb dX6_addMember_80 (lv_at hl 1 rfl) ?_
        refine zif_le (tgt := 95) hx hb dX6_addMember_82 (by decide) hf (fun hf => ?_) (fun hf => ?_)
        · exact hc_95 k1 (x5 / (10 : Int32)) x6 (x5 - x5 / (10 : Int32) * (10 : Int32)) s5 _ _ _ (lv_sub hl [2, 3, 0, 4, 1] rfl) hP hS hf
        · refine lv_aload_n hx hb dX6_addMember_85 rfl (lv_at hl 2 rfl) ?_
          refine lv_aload_n hx hb dX6_addMember_86 rfl (lv_at hl 3 rfl) ?_
          refine lv_iload hx hb dX6_addMember_87 (lv_at hl 4 rfl) ?_
          obtain ⟨r13, s14, h15, hf⟩ := zbd_some hf
          refine zcallV X hP hS hl.1 (k := k1) (As := [.int x6]) (rest := [.ref (ad 10)]) (cn_X7_signOf h15) cw_X7_signOf zp_7 gp1 (by decide) rfl ml_X6_42 (by decide) rfl rfl (Nat.le_of_ble_eq_true rfl) dX6_addMember_89 (fun H locs hP hS => ?_)
          obtain ⟨r16, s17, h18, hf⟩ := zbd_some hf
          refine zcallV X hP hS hl.1 (k := 10) (As := [.int r13]) (rest := []) (cn_X6_add h18) cw_X6_add zp_6 rfl (by decide) rfl ml_X6_26 (by decide) rfl rfl (Nat.le_of_ble_eq_true rfl) dX6_addMember_92 (fun H locs hP hS => ?_)
          exact hc_95 k1 (x5 / (10 : Int32)) x6 (x5 - x5 / (10 : Int32) * (10 : Int32)) s17 _ _ _ (lv_sub hl [2, 3, 0, 4, 1] rfl) hP hS hf
  have hc_51 : ∀ (k1 : Nat) (x2 : Int32) (s1 : SS) (H : Heap) (locs : List Loc) (ls : Array Slot), lv_has ls 8 [(0, .ref (ad 10)), (1, .ref (ad k1)), (2, .int x2)] → va_P D ZCL (zw Ox Nx cA ad s1) H → va_S A s.heap H locs → f_X6_addMember_c51 k1 x2 s1 = some (rr, sr) → W p l e (zrm 2) s m args below meth c H locs 0 0 (MQ below (zQc Ox Nx cA ad D A none sr) args s 0 0 A) (F0 m 51 ls []) := by
    intro k1 x2 s1 H locs ls hl hP hS hf
    rw [f_X6_addMember_c51] at hf
    obtain ⟨gp1, hf⟩ := zgd hf
    refine lv_iload_n hx hb dX6_addMember_51 rfl (lv_at hl 2 rfl) ?_
    refine lv_istore (lv' := [(5, .int x2), (0, .ref (ad 10)), (1, .ref (ad k1)), (2, .int x2)]) hx hb dX6_addMember_52 hl (by decide) rfl (fun ls hl => ?_)
    refine lv_iconst (v := 0) hx hb dX6_addMember_54 (by decide) ?_
    refine lv_istore (lv' := [(6, .int 0), (5, .int x2), (0, .ref (ad 10)), (1, .ref (ad k1)), (2, .int x2)]) hx hb dX6_addMember_55 hl (by decide) rfl (fun ls hl => ?_)
    exact hc_57 ZF k1 x2 0 s1 _ _ _ (lv_sub hl [2, 3, 1, 0] rfl) hP hS hf
  have hc_46 : ∀ (k1 : Nat) (x2 : Int32) (x3 : Int64) (s1 : SS) (H : Heap) (locs : List Loc) (ls : Array Slot), lv_has ls 8 [(0, .ref (ad 10)), (1, .ref (ad k1)), (2, .int x2), (3, .long x3)] → va_P D ZCL (zw Ox Nx cA ad s1) H → va_S A s.heap H locs → f_X6_addMember_c46 k1 x2 x3 s1 = some (rr, sr) → W p l e (zrm 2) s m args below meth c H locs 0 0 (MQ below (zQc Ox Nx cA ad D A none sr) args s 0 0 A) (F0 m 46 ls []) := by
    intro k1 x2 x3 s1 H locs ls hl hP hS hf
    rw [f_X6_addMember_c46] at hf
    obtain ⟨gp1, hf⟩ := zgd hf
    refine lv_aload_n hx hb dX6_addMember_46 rfl (lv_at hl 0 rfl) ?_
    refine lv_lload_n hx hb dX6_addMember_47 rfl (lv_at hl 3 rfl) ?_
    obtain ⟨r1, s2, h3, hf⟩ := zbd_some hf
    refine zcallV X hP hS hl.1 (k := 10) (As := [.long x3]) (rest := []) (cn_X6_addFigures h3) cw_X6_addFigures zp_6 rfl (by decide) rfl ml_X6_32 (by decide) rfl rfl (Nat.le_of_ble_eq_true rfl) dX6_addMember_48 (fun H locs hP hS => ?_)
    exact hc_51 k1 x2 s2 _ _ _ (lv_sub hl [0, 1, 2] rfl) hP hS hf
  have hc_28 : ∀ (k1 : Nat) (x2 : Int32) (x3 : Int64) (s1 : SS) (H : Heap) (locs : List Loc) (ls : Array Slot), lv_has ls 8 [(0, .ref (ad 10)), (1, .ref (ad k1)), (2, .int x2), (3, .long x3)] → va_P D ZCL (zw Ox Nx cA ad s1) H → va_S A s.heap H locs → f_X6_addMember_c28 k1 x2 x3 s1 = some (rr, sr) → W p l e (zrm 2) s m args below meth c H locs 0 0 (MQ below (zQc Ox Nx cA ad D A none sr) args s 0 0 A) (F0 m 28 ls []) := by
    intro k1 x2 x3 s1 H locs ls hl hP hS hf
    rw [f_X6_addMember_c28] at hf
    obtain ⟨gp1, hf⟩ := zgd hf
    refine lv_iload_n hx hb dX6_addMember_28 rfl (lv_at hl 2 rfl) ?_
    refine zif_eq (tgt := 46) hx hb dX6_addMember_29 (by decide) hf (fun hf => ?_) (fun hf => ?_)
    · exact hc_46 k1 x2 x3 s1 _ _ _ (lv_sub hl [0, 1, 2, 3] rfl) hP hS hf
    · refine lv_lload_n hx hb dX6_addMember_32 rfl (lv_at hl 3 rfl) ?_
      refine lv_lconst (v := 1) hx hb dX6_addMember_33 (by decide) ?_
      refine W.lcmp hx hb dX6_addMember_34 ?_
      refine zif_eq (tgt := 51) hx hb dX6_addMember_35 (by decide) hf (fun hf => ?_) (fun hf => ?_)
      · exact hc_51 k1 x2 s1 _ _ _ (lv_sub hl [0, 1, 2] rfl) hP hS hf
      · refine lv_lload_n hx hb dX6_addMember_38 rfl (lv_at hl 3 rfl) ?_
        refine zldc2 X co_X6_30 dX6_addMember_39 ?_
        refine W.lcmp hx hb dX6_addMember_42 ?_
        refine zif_eq (tgt := 51) hx hb dX6_addMember_43 (by decide) hf (fun hf => ?_) (fun hf => ?_)
        · exact hc_51 k1 x2 s1 _ _ _ (lv_sub hl [0, 1, 2] rfl) hP hS hf
        · exact hc_46 k1 x2 x3 s1 _ _ _ (lv_sub hl [0, 1, 2, 3] rfl) hP hS hf
  rw [f_X6_addMember] at hf
  obtain ⟨gp1, hf⟩ := zgd hf
  refine lv_lload_n hx hb dX6_addMember_0 rfl (lv_at hl 3 rfl) ?_
  refine lv_lconst (v := 0) hx hb dX6_addMember_1 (by decide) ?_
  refine W.lcmp hx hb dX6_addMember_2 ?_
  refine zif_ge (tgt := 15) hx hb dX6_addMember_3 (by decide) hf (fun hf => ?_) (fun hf => ?_)
  · refine lv_aload_n hx hb dX6_addMember_15 rfl (lv_at hl 0 rfl) ?_
    refine gf_X6_16 X hP (k := 10) rfl dX6_addMember_16 ?_
    refine zif_le (tgt := 28) hx hb dX6_addMember_19 (by decide) hf (fun hf => ?_) (fun hf => ?_)
    · exact hc_28 k1 x2 x3 s0 _ _ _ (lv_sub hl [0, 1, 2, 3] rfl) hP hS hf
    · refine lv_aload_n hx hb dX6_addMember_22 rfl (lv_at hl 0 rfl) ?_
      refine lv_bipush (v := 43) hx hb dX6_addMember_23 (by decide) ?_
      obtain ⟨r19, s20, h21, hf⟩ := zbd_some hf
      refine zcallV X hP hS hl.1 (k := 10) (As := [.int 43]) (rest := []) (cn_X6_add h21) cw_X6_add zp_6 rfl (by decide) rfl ml_X6_26 (by decide) rfl rfl (Nat.le_of_ble_eq_true rfl) dX6_addMember_25 (fun H locs hP hS => ?_)
      exact hc_28 k1 x2 x3 s20 _ _ _ (lv_sub hl [0, 1, 2, 3] rfl) hP hS hf
  · refine lv_aload_n hx hb dX6_addMember_6 rfl (lv_at hl 0 rfl) ?_
    refine lv_bipush (v := 45) hx hb dX6_addMember_7 (by decide) ?_
    obtain ⟨r22, s23, h24, hf⟩ := zbd_some hf
    refine zcallV X hP hS hl.1 (k := 10) (As := [.int 45]) (rest := []) (cn_X6_add h24) cw_X6_add zp_6 rfl (by decide) rfl ml_X6_26 (by decide) rfl rfl (Nat.le_of_ble_eq_true rfl) dX6_addMember_9 (fun H locs hP hS => ?_)
    refine lv_goto (tgt := 28) hx hb dX6_addMember_12 (by decide) ?_
    exact hc_28 k1 x2 x3 s23 _ _ _ (lv_sub hl [0, 1, 2, 3] rfl) hP hS hf
theorem dX7_become_0 : decode cX7_become 0 = .ok (.aload_n 0, 1) := by decide +kernel
theorem dX7_become_1 : decode cX7_become 1 = .ok (.iload_n 1, 1) := by decide +kernel
theorem dX7_become_2 : decode cX7_become 2 = .ok (.putfield 21, 3) := by decide +kernel
theorem dX7_become_5 : decode cX7_become 5 = .ok (.aload_n 0, 1) := by decide +kernel
theorem dX7_become_6 : decode cX7_become 6 = .ok (.iconst 0, 1) := by decide +kernel
theorem dX7_become_7 : decode cX7_become 7 = .ok (.putfield 25, 3) := by decide +kernel
theorem dX7_become_10 : decode cX7_become 10 = .ok (.aload_n 0, 1) := by decide +kernel
theorem dX7_become_11 : decode cX7_become 11 = .ok (.iconst 1, 1) := by decide +kernel
theorem dX7_become_12 : decode cX7_become 12 = .ok (.iload_n 3, 1) := by decide +kernel
theorem dX7_become_13 : decode cX7_become 13 = .ok (.ifCond .le 7, 3) := by decide +kernel
theorem dX7_become_16 : decode cX7_become 16 = .ok (.iconst 1, 1) := by decide +kernel
theorem dX7_become_17 : decode cX7_become 17 = .ok (.goto 4, 3) := by decide +kernel
theorem dX7_become_20 : decode cX7_become 20 = .ok (.iconst 0, 1) := by decide +kernel
theorem dX7_become_21 : decode cX7_become 21 = .ok (.iadd, 1) := by decide +kernel
theorem dX7_become_22 : decode cX7_become 22 = .ok (.iload 4, 2) := by decide +kernel
theorem dX7_become_24 : decode cX7_become 24 = .ok (.ifCond .le 7, 3) := by decide +kernel
theorem dX7_become_27 : decode cX7_become 27 = .ok (.iconst 1, 1) := by decide +kernel
theorem dX7_become_28 : decode cX7_become 28 = .ok (.goto 4, 3) := by decide +kernel
theorem dX7_become_31 : decode cX7_become 31 = .ok (.iconst 0, 1) := by decide +kernel
theorem dX7_become_32 : decode cX7_become 32 = .ok (.iadd, 1) := by decide +kernel
theorem dX7_become_33 : decode cX7_become 33 = .ok (.putfield 28, 3) := by decide +kernel
theorem dX7_become_36 : decode cX7_become 36 = .ok (.aload_n 0, 1) := by decide +kernel
theorem dX7_become_37 : decode cX7_become 37 = .ok (.getfield 9, 3) := by decide +kernel
theorem dX7_become_40 : decode cX7_become 40 = .ok (.iconst 0, 1) := by decide +kernel
theorem dX7_become_41 : decode cX7_become 41 = .ok (.iload_n 2, 1) := by decide +kernel
theorem dX7_become_42 : decode cX7_become 42 = .ok (.iastore, 1) := by decide +kernel
theorem dX7_become_43 : decode cX7_become 43 = .ok (.aload_n 0, 1) := by decide +kernel
theorem dX7_become_44 : decode cX7_become 44 = .ok (.getfield 9, 3) := by decide +kernel
theorem dX7_become_47 : decode cX7_become 47 = .ok (.iconst 1, 1) := by decide +kernel
theorem dX7_become_48 : decode cX7_become 48 = .ok (.iload_n 3, 1) := by decide +kernel
theorem dX7_become_49 : decode cX7_become 49 = .ok (.iastore, 1) := by decide +kernel
theorem dX7_become_50 : decode cX7_become 50 = .ok (.aload_n 0, 1) := by decide +kernel
theorem dX7_become_51 : decode cX7_become 51 = .ok (.getfield 9, 3) := by decide +kernel
theorem dX7_become_54 : decode cX7_become 54 = .ok (.iconst 2, 1) := by decide +kernel
theorem dX7_become_55 : decode cX7_become 55 = .ok (.iload 4, 2) := by decide +kernel
theorem dX7_become_57 : decode cX7_become 57 = .ok (.iastore, 1) := by decide +kernel
theorem dX7_become_58 : decode cX7_become 58 = .ok (.aload_n 0, 1) := by decide +kernel
theorem dX7_become_59 : decode cX7_become 59 = .ok (.getfield 15, 3) := by decide +kernel
theorem dX7_become_62 : decode cX7_become 62 = .ok (.iconst 0, 1) := by decide +kernel
theorem dX7_become_63 : decode cX7_become 63 = .ok (.invokestatic 31, 3) := by decide +kernel
theorem dX7_become_66 : decode cX7_become 66 = .ok (.aload_n 0, 1) := by decide +kernel
theorem dX7_become_67 : decode cX7_become 67 = .ok (.getfield 18, 3) := by decide +kernel
theorem dX7_become_70 : decode cX7_become 70 = .ok (.iconst 0, 1) := by decide +kernel
theorem dX7_become_71 : decode cX7_become 71 = .ok (.invokestatic 31, 3) := by decide +kernel
theorem dX7_become_74 : decode cX7_become 74 = .ok (.return_, 1) := by decide +kernel
set_option maxHeartbeats 4000000 in
set_option maxRecDepth 100000 in
theorem cn_X7_become {l : Launch} {cA : Nat → ClassId} {ad : Nat → Nat} {D : va_G} {E : Nat → Nat} {A : Nat → Prop} {k0 : Nat} {x1 : Int32} {x2 : Int32} {x3 : Int32} {x4 : Int32} {s0 sr : SS} {rr : Unit} (hf : f_X7_become k0 x1 x2 x3 x4 s0 = some (rr, sr)) : zCon Ox Nx cA ad D E l yX7_become cX7_become 5 none 1 A [.ref (ad k0), .int x1, .int x2, .int x3, .int x4] s0 none sr := by
  refine zstart (own := RX7) hOx (by decide) rfl (Nat.le_of_ble_eq_true rfl) ?_
  intro p e s m args below meth c X hP ls hl
  have hx := X.1
  have hb := X.2.1
  have hl : lv_has ls 5 [(0, .ref (ad k0)), (1, .int x1), (2, .int x2), (3, .int x3), (4, .int x4)] := hl
  have hS : va_S A s.heap s.heap [] := va_S.rf
  have hc_32 : ∀ (k0 : Nat) (x2 : Int32) (x3 : Int32) (x4 : Int32) (t0 : Int32) (t1 : Int32) (kt2 : Nat) (s1 : SS) (H : Heap) (locs : List Loc) (ls : Array Slot), lv_has ls 5 [(0, .ref (ad k0)), (2, .int x2), (3, .int x3), (4, .int x4)] → va_P D ZCL (zw Ox Nx cA ad s1) H → va_S A s.heap H locs → f_X7_become_c32 k0 x2 x3 x4 t0 t1 kt2 s1 = some (rr, sr) → W p l e (zrm 1) s m args below meth c H locs 0 0 (MQ below (zQc Ox Nx cA ad D A none sr) args s 0 0 A) (F0 m 32 ls [.int t0, .int t1, .ref (ad kt2)]) := by
    intro k0 x2 x3 x4 t0 t1 kt2 s1 H locs ls hl hP hS hf
    rw [f_X7_become_c32] at hf
    obtain ⟨gp0, hf⟩ := zgd hf
    obtain ⟨gt2, hf⟩ := zgd hf
    refine lv_iadd hx hb dX7_become_32 ?_
    refine pf_X7_28 X hP hS (k := kt2) gt2 dX7_become_33 (fun H locs hP hS => ?_)
    refine lv_aload_n hx hb dX7_become_36 rfl (lv_at hl 0 rfl) ?_
    refine gf_X7_9 X hP (k := k0) gp0 dX7_become_37 rfl ?_
    refine lv_iconst (v := 0) hx hb dX7_become_40 (by decide) ?_
    refine lv_iload_n hx hb dX7_become_41 rfl (lv_at hl 1 rfl) ?_
    obtain ⟨g1, hf⟩ := zgd hf
    obtain ⟨n12, rn12, on12, in12⟩ := zok_of g1
    refine zast_i X hP hS (k := (zrf Ox k0 3)) on12 in12 dX7_become_42 (fun H locs hP hS => ?_)
    refine lv_aload_n hx hb dX7_become_43 rfl (lv_at hl 0 rfl) ?_
    refine gf_X7_9 X hP (k := k0) gp0 dX7_become_44 rfl ?_
    refine lv_iconst (v := 1) hx hb dX7_become_47 (by decide) ?_
    refine lv_iload_n hx hb dX7_become_48 rfl (lv_at hl 2 rfl) ?_
    obtain ⟨g2, hf⟩ := zgd hf
    obtain ⟨n11, rn11, on11, in11⟩ := zok_of g2
    refine zast_i X hP hS (k := (zrf Ox k0 3)) on11 in11 dX7_become_49 (fun H locs hP hS => ?_)
    refine lv_aload_n hx hb dX7_become_50 rfl (lv_at hl 0 rfl) ?_
    refine gf_X7_9 X hP (k := k0) gp0 dX7_become_51 rfl ?_
    refine lv_iconst (v := 2) hx hb dX7_become_54 (by decide) ?_
    refine lv_iload hx hb dX7_become_55 (lv_at hl 3 rfl) ?_
    obtain ⟨g3, hf⟩ := zgd hf
    obtain ⟨n10, rn10, on10, in10⟩ := zok_of g3
    refine zast_i X hP hS (k := (zrf Ox k0 3)) on10 in10 dX7_become_57 (fun H locs hP hS => ?_)
    refine lv_aload_n hx hb dX7_become_58 rfl (lv_at hl 0 rfl) ?_
    refine gf_X7_15 X hP (k := k0) gp0 dX7_become_59 rfl ?_
    refine lv_iconst (v := 0) hx hb dX7_become_62 (by decide) ?_
    obtain ⟨r4, s5, h6, hf⟩ := zbd_some hf
    refine zcallS X hP hS hl.1 (As := [.ref (ad (zrf Ox k0 4)), .int 0]) (rest := []) (cn_J7_fill_53178 hOx h6) cw_J7_fill_53178 ml_X7_31 (by decide) rfl rfl (Nat.le_of_ble_eq_true rfl) dX7_become_63 (fun H locs hP hS => ?_)
    refine lv_aload_n hx hb dX7_become_66 rfl (lv_at hl 0 rfl) ?_
    refine gf_X7_18 X hP (k := k0) gp0 dX7_become_67 rfl ?_
    refine lv_iconst (v := 0) hx hb dX7_become_70 (by decide) ?_
    obtain ⟨r7, s8, h9, hf⟩ := zbd_some hf
    refine zcallS X hP hS hl.1 (As := [.ref (ad (zrf Ox k0 5)), .int 0]) (rest := []) (cn_J7_fill_53178 hOx h9) cw_J7_fill_53178 ml_X7_31 (by decide) rfl rfl (Nat.le_of_ble_eq_true rfl) dX7_become_71 (fun H locs hP hS => ?_)
    exact zret_v X hP hS hf dX7_become_74
  have hc_21 : ∀ (k0 : Nat) (x2 : Int32) (x3 : Int32) (x4 : Int32) (t0 : Int32) (t1 : Int32) (kt2 : Nat) (s1 : SS) (H : Heap) (locs : List Loc) (ls : Array Slot), lv_has ls 5 [(0, .ref (ad k0)), (2, .int x2), (3, .int x3), (4, .int x4)] → va_P D ZCL (zw Ox Nx cA ad s1) H → va_S A s.heap H locs → f_X7_become_c21 k0 x2 x3 x4 t0 t1 kt2 s1 = some (rr, sr) → W p l e (zrm 1) s m args below meth c H locs 0 0 (MQ below (zQc Ox Nx cA ad D A none sr) args s 0 0 A) (F0 m 21 ls [.int t0, .int t1, .ref (ad kt2)]) := by
    intro k0 x2 x3 x4 t0 t1 kt2 s1 H locs ls hl hP hS hf
    rw [f_X7_become_c21] at hf
    obtain ⟨gp0, hf⟩ := zgd hf
    obtain ⟨gt2, hf⟩ := zgd hf
    refine lv_iadd hx hb dX7_become_21 ?_
    refine lv_iload hx hb dX7_become_22 (lv_at hl 3 rfl) ?_
    refine zif_le (tgt := 31) hx hb dX7_become_24 (by decide) hf (fun hf => ?_) (fun hf => ?_)
    · refine lv_iconst (v := 0) hx hb dX7_become_31 (by decide) ?_
      exact hc_32 k0 x2 x3 x4 0 (t1 + t0) kt2 s1 _ _ _ (lv_sub hl [0, 1, 2, 3] rfl) hP hS hf
    · refine lv_iconst (v := 1) hx hb dX7_become_27 (by decide) ?_
      refine lv_goto (tgt := 32) hx hb dX7_become_28 (by decide) ?_
      exact hc_32 k0 x2 x3 x4 1 (t1 + t0) kt2 s1 _ _ _ (lv_sub hl [0, 1, 2, 3] rfl) hP hS hf
  rw [f_X7_become] at hf
  obtain ⟨gp0, hf⟩ := zgd hf
  refine lv_aload_n hx hb dX7_become_0 rfl (lv_at hl 0 rfl) ?_
  refine lv_iload_n hx hb dX7_become_1 rfl (lv_at hl 1 rfl) ?_
  refine pf_X7_21 X hP hS (k := k0) gp0 dX7_become_2 (fun H locs hP hS => ?_)
  refine lv_aload_n hx hb dX7_become_5 rfl (lv_at hl 0 rfl) ?_
  refine lv_iconst (v := 0) hx hb dX7_become_6 (by decide) ?_
  refine pf_X7_25 X hP hS (k := k0) gp0 dX7_become_7 (fun H locs hP hS => ?_)
  refine lv_aload_n hx hb dX7_become_10 rfl (lv_at hl 0 rfl) ?_
  refine lv_iconst (v := 1) hx hb dX7_become_11 (by decide) ?_
  refine lv_iload_n hx hb dX7_become_12 rfl (lv_at hl 3 rfl) ?_
  refine zif_le (tgt := 20) hx hb dX7_become_13 (by decide) hf (fun hf => ?_) (fun hf => ?_)
  · refine lv_iconst (v := 0) hx hb dX7_become_20 (by decide) ?_
    exact hc_21 k0 x2 x3 x4 0 1 k0 (zS (zS s0 k0 0 x1) k0 2 0) _ _ _ (lv_sub hl [0, 2, 3, 4] rfl) hP hS hf
  · refine lv_iconst (v := 1) hx hb dX7_become_16 (by decide) ?_
    refine lv_goto (tgt := 21) hx hb dX7_become_17 (by decide) ?_
    exact hc_21 k0 x2 x3 x4 1 1 k0 (zS (zS s0 k0 0 x1) k0 2 0) _ _ _ (lv_sub hl [0, 2, 3, 4] rfl) hP hS hf
theorem dX7_dimension_0 : decode cX7_dimension 0 = .ok (.aload_n 0, 1) := by decide +kernel
theorem dX7_dimension_1 : decode cX7_dimension 1 = .ok (.getfield 9, 3) := by decide +kernel
theorem dX7_dimension_4 : decode cX7_dimension 4 = .ok (.iconst 0, 1) := by decide +kernel
theorem dX7_dimension_5 : decode cX7_dimension 5 = .ok (.iaload, 1) := by decide +kernel
theorem dX7_dimension_6 : decode cX7_dimension 6 = .ok (.aload_n 0, 1) := by decide +kernel
theorem dX7_dimension_7 : decode cX7_dimension 7 = .ok (.getfield 9, 3) := by decide +kernel
theorem dX7_dimension_10 : decode cX7_dimension 10 = .ok (.iconst 1, 1) := by decide +kernel
theorem dX7_dimension_11 : decode cX7_dimension 11 = .ok (.iaload, 1) := by decide +kernel
theorem dX7_dimension_12 : decode cX7_dimension 12 = .ok (.iadd, 1) := by decide +kernel
theorem dX7_dimension_13 : decode cX7_dimension 13 = .ok (.aload_n 0, 1) := by decide +kernel
theorem dX7_dimension_14 : decode cX7_dimension 14 = .ok (.getfield 9, 3) := by decide +kernel
theorem dX7_dimension_17 : decode cX7_dimension 17 = .ok (.iconst 2, 1) := by decide +kernel
theorem dX7_dimension_18 : decode cX7_dimension 18 = .ok (.iaload, 1) := by decide +kernel
theorem dX7_dimension_19 : decode cX7_dimension 19 = .ok (.iadd, 1) := by decide +kernel
theorem dX7_dimension_20 : decode cX7_dimension 20 = .ok (.ireturn, 1) := by decide +kernel
set_option maxHeartbeats 4000000 in
set_option maxRecDepth 100000 in
theorem cn_X7_dimension {l : Launch} {cA : Nat → ClassId} {ad : Nat → Nat} {D : va_G} {E : Nat → Nat} {A : Nat → Prop} {k0 : Nat} {s0 sr : SS} {rr : Int32} (hf : f_X7_dimension k0 s0 = some (rr, sr)) : zCon Ox Nx cA ad D E l yX7_dimension cX7_dimension 1 (some .int) 0 A [.ref (ad k0)] s0 (some (.int rr)) sr := by
  refine zstart (own := RX7) hOx (by decide) rfl (Nat.le_of_ble_eq_true rfl) ?_
  intro p e s m args below meth c X hP ls hl
  have hx := X.1
  have hb := X.2.1
  have hl : lv_has ls 1 [(0, .ref (ad k0))] := hl
  have hS : va_S A s.heap s.heap [] := va_S.rf
  rw [f_X7_dimension] at hf
  obtain ⟨gp0, hf⟩ := zgd hf
  refine lv_aload_n hx hb dX7_dimension_0 rfl (lv_at hl 0 rfl) ?_
  refine gf_X7_9 X hP (k := k0) gp0 dX7_dimension_1 rfl ?_
  refine lv_iconst (v := 0) hx hb dX7_dimension_4 (by decide) ?_
  obtain ⟨g1, hf⟩ := zgd hf
  obtain ⟨n6, rn6, on6, in6⟩ := zok_of g1
  refine zald_i X hP (k := (zrf Ox k0 3)) on6 in6 dX7_dimension_5 ?_
  refine lv_aload_n hx hb dX7_dimension_6 rfl (lv_at hl 0 rfl) ?_
  refine gf_X7_9 X hP (k := k0) gp0 dX7_dimension_7 rfl ?_
  refine lv_iconst (v := 1) hx hb dX7_dimension_10 (by decide) ?_
  obtain ⟨g2, hf⟩ := zgd hf
  obtain ⟨n5, rn5, on5, in5⟩ := zok_of g2
  refine zald_i X hP (k := (zrf Ox k0 3)) on5 in5 dX7_dimension_11 ?_
  refine lv_iadd hx hb dX7_dimension_12 ?_
  refine lv_aload_n hx hb dX7_dimension_13 rfl (lv_at hl 0 rfl) ?_
  refine gf_X7_9 X hP (k := k0) gp0 dX7_dimension_14 rfl ?_
  refine lv_iconst (v := 2) hx hb dX7_dimension_17 (by decide) ?_
  obtain ⟨g3, hf⟩ := zgd hf
  obtain ⟨n4, rn4, on4, in4⟩ := zok_of g3
  refine zald_i X hP (k := (zrf Ox k0 3)) on4 in4 dX7_dimension_18 ?_
  refine lv_iadd hx hb dX7_dimension_19 ?_
  exact zret_i X hP hS hf rfl dX7_dimension_20
theorem dX7_isBareProduct_0 : decode cX7_isBareProduct 0 = .ok (.aload_n 0, 1) := by decide +kernel
theorem dX7_isBareProduct_1 : decode cX7_isBareProduct 1 = .ok (.getfield 21, 3) := by decide +kernel
theorem dX7_isBareProduct_4 : decode cX7_isBareProduct 4 = .ok (.ifCond .ne 14, 3) := by decide +kernel
theorem dX7_isBareProduct_7 : decode cX7_isBareProduct 7 = .ok (.aload_n 0, 1) := by decide +kernel
theorem dX7_isBareProduct_8 : decode cX7_isBareProduct 8 = .ok (.getfield 25, 3) := by decide +kernel
theorem dX7_isBareProduct_11 : decode cX7_isBareProduct 11 = .ok (.ifCond .ne 7, 3) := by decide +kernel
theorem dX7_isBareProduct_14 : decode cX7_isBareProduct 14 = .ok (.iconst 1, 1) := by decide +kernel
theorem dX7_isBareProduct_15 : decode cX7_isBareProduct 15 = .ok (.goto 4, 3) := by decide +kernel
theorem dX7_isBareProduct_18 : decode cX7_isBareProduct 18 = .ok (.iconst 0, 1) := by decide +kernel
theorem dX7_isBareProduct_19 : decode cX7_isBareProduct 19 = .ok (.ireturn, 1) := by decide +kernel
set_option maxHeartbeats 4000000 in
set_option maxRecDepth 100000 in
theorem cn_X7_isBareProduct {l : Launch} {cA : Nat → ClassId} {ad : Nat → Nat} {D : va_G} {E : Nat → Nat} {A : Nat → Prop} {k0 : Nat} {s0 sr : SS} {rr : Int32} (hf : f_X7_isBareProduct k0 s0 = some (rr, sr)) : zCon Ox Nx cA ad D E l yX7_isBareProduct cX7_isBareProduct 1 (some .boolean) 0 A [.ref (ad k0)] s0 (some (.int rr)) sr := by
  refine zstart (own := RX7) hOx (by decide) rfl (Nat.le_of_ble_eq_true rfl) ?_
  intro p e s m args below meth c X hP ls hl
  have hx := X.1
  have hb := X.2.1
  have hl : lv_has ls 1 [(0, .ref (ad k0))] := hl
  have hS : va_S A s.heap s.heap [] := va_S.rf
  rw [f_X7_isBareProduct] at hf
  obtain ⟨gp0, hf⟩ := zgd hf
  refine lv_aload_n hx hb dX7_isBareProduct_0 rfl (lv_at hl 0 rfl) ?_
  refine gf_X7_21 X hP (k := k0) gp0 dX7_isBareProduct_1 ?_
  refine zif_ne (tgt := 18) hx hb dX7_isBareProduct_4 (by decide) hf (fun hf => ?_) (fun hf => ?_)
  · refine lv_iconst (v := 0) hx hb dX7_isBareProduct_18 (by decide) ?_
    exact zret_i X hP hS hf rfl dX7_isBareProduct_19
  · refine lv_aload_n hx hb dX7_isBareProduct_7 rfl (lv_at hl 0 rfl) ?_
    refine gf_X7_25 X hP (k := k0) gp0 dX7_isBareProduct_8 ?_
    refine zif_ne (tgt := 18) hx hb dX7_isBareProduct_11 (by decide) hf (fun hf => ?_) (fun hf => ?_)
    · refine lv_iconst (v := 0) hx hb dX7_isBareProduct_18 (by decide) ?_
      exact zret_i X hP hS hf rfl dX7_isBareProduct_19
    · refine lv_iconst (v := 1) hx hb dX7_isBareProduct_14 (by decide) ?_
      refine lv_goto (tgt := 19) hx hb dX7_isBareProduct_15 (by decide) ?_
      exact zret_i X hP hS hf rfl dX7_isBareProduct_19
theorem dX7_letterOf_0 : decode cX7_letterOf 0 = .ok (.iconst 0, 1) := by decide +kernel
theorem dX7_letterOf_1 : decode cX7_letterOf 1 = .ok (.istore_n 2, 1) := by decide +kernel
theorem dX7_letterOf_2 : decode cX7_letterOf 2 = .ok (.iload_n 2, 1) := by decide +kernel
theorem dX7_letterOf_3 : decode cX7_letterOf 3 = .ok (.aload_n 0, 1) := by decide +kernel
theorem dX7_letterOf_4 : decode cX7_letterOf 4 = .ok (.invokevirtual 37, 3) := by decide +kernel
theorem dX7_letterOf_7 : decode cX7_letterOf 7 = .ok (.if_icmp .ge 20, 3) := by decide +kernel
theorem dX7_letterOf_10 : decode cX7_letterOf 10 = .ok (.aload_n 0, 1) := by decide +kernel
theorem dX7_letterOf_11 : decode cX7_letterOf 11 = .ok (.iload_n 2, 1) := by decide +kernel
theorem dX7_letterOf_12 : decode cX7_letterOf 12 = .ok (.invokevirtual 41, 3) := by decide +kernel
theorem dX7_letterOf_15 : decode cX7_letterOf 15 = .ok (.iload_n 1, 1) := by decide +kernel
theorem dX7_letterOf_16 : decode cX7_letterOf 16 = .ok (.if_icmp .ne 5, 3) := by decide +kernel
theorem dX7_letterOf_19 : decode cX7_letterOf 19 = .ok (.iload_n 2, 1) := by decide +kernel
theorem dX7_letterOf_20 : decode cX7_letterOf 20 = .ok (.ireturn, 1) := by decide +kernel
theorem dX7_letterOf_21 : decode cX7_letterOf 21 = .ok (.iinc 2 1, 3) := by decide +kernel
theorem dX7_letterOf_24 : decode cX7_letterOf 24 = .ok (.goto (-22), 3) := by decide +kernel
theorem dX7_letterOf_27 : decode cX7_letterOf 27 = .ok (.iconst (-1), 1) := by decide +kernel
theorem dX7_letterOf_28 : decode cX7_letterOf 28 = .ok (.ireturn, 1) := by decide +kernel
set_option maxHeartbeats 4000000 in
set_option maxRecDepth 100000 in
theorem cn_X7_letterOf {l : Launch} {cA : Nat → ClassId} {ad : Nat → Nat} {D : va_G} {E : Nat → Nat} {A : Nat → Prop} {k0 : Nat} {x1 : Int32} {s0 sr : SS} {rr : Int32} (hf : f_X7_letterOf k0 x1 s0 = some (rr, sr)) : zCon Ox Nx cA ad D E l yX7_letterOf cX7_letterOf 3 (some .int) 1 A [.ref (ad k0), .int x1] s0 (some (.int rr)) sr := by
  refine zstart (own := RX7) hOx (by decide) rfl (Nat.le_of_ble_eq_true rfl) ?_
  intro p e s m args below meth c X hP ls hl
  have hx := X.1
  have hb := X.2.1
  have hl : lv_has ls 3 [(0, .ref (ad k0)), (1, .int x1)] := hl
  have hS : va_S A s.heap s.heap [] := va_S.rf
  have hc_2 : ∀ (n2 : Nat) (k0 : Nat) (x1 : Int32) (x2 : Int32) (s1 : SS) (H : Heap) (locs : List Loc) (ls : Array Slot), lv_has ls 3 [(0, .ref (ad k0)), (1, .int x1), (2, .int x2)] → va_P D ZCL (zw Ox Nx cA ad s1) H → va_S A s.heap H locs → f_X7_letterOf_c2 n2 k0 x1 x2 s1 = some (rr, sr) → W p l e (zrm 1) s m args below meth c H locs 0 0 (MQ below (zQc Ox Nx cA ad D A (some (.int rr)) sr) args s 0 0 A) (F0 m 2 ls []) := by
    intro n2
    induction n2 with
    | zero =>
      intro k0 x1 x2 s1 H locs ls hl hP hS hf
      rw [f_X7_letterOf_c2] at hf
      cases hf
    | succ n2 ih2 =>
      intro k0 x1 x2 s1 H locs ls hl hP hS hf
      rw [f_X7_letterOf_c2] at hf
      obtain ⟨gp0, hf⟩ := zgd hf
      refine lv_iload_n hx hb dX7_letterOf_2 rfl (lv_at hl 2 rfl) ?_
      refine lv_aload_n hx hb dX7_letterOf_3 rfl (lv_at hl 0 rfl) ?_
      obtain ⟨r1, s2, h3, hf⟩ := zbd_some hf
      refine zcallV X hP hS hl.1 (k := k0) (As := []) (rest := [.int x2]) (cn_X7_letterCount h3) cw_X7_letterCount zp_7 gp0 (by decide) rfl ml_X7_37 (by decide) rfl rfl (Nat.le_of_ble_eq_true rfl) dX7_letterOf_4 (fun H locs hP hS => ?_)
      refine zicmp_ge (tgt := 27) hx hb dX7_letterOf_7 (by decide) hf (fun hf => ?_) (fun hf => ?_)
      · refine lv_iconst (v := (-1)) hx hb dX7_letterOf_27 (by decide) ?_
        exact zret_i X hP hS hf rfl dX7_letterOf_28
      · refine lv_aload_n hx hb dX7_letterOf_10 rfl (lv_at hl 0 rfl) ?_
        refine lv_iload_n hx hb dX7_letterOf_11 rfl (lv_at hl 2 rfl) ?_
        obtain ⟨r4, s5, h6, hf⟩ := zbd_some hf
        refine zcallV X hP hS hl.1 (k := k0) (As := [.int x2]) (rest := []) (cn_X7_signOf h6) cw_X7_signOf zp_7 gp0 (by decide) rfl ml_X7_41 (by decide) rfl rfl (Nat.le_of_ble_eq_true rfl) dX7_letterOf_12 (fun H locs hP hS => ?_)
        refine lv_iload_n hx hb dX7_letterOf_15 rfl (lv_at hl 1 rfl) ?_
        refine zicmp_ne (tgt := 21) hx hb dX7_letterOf_16 (by decide) hf (fun hf => ?_) (fun hf => ?_)
        · refine lv_iinc (v := (x2 + 1)) (lv' := [(2, .int (x2 + 1)), (0, .ref (ad k0)), (1, .int x1)]) hx hb dX7_letterOf_21 hl (k := 2) rfl rfl (by decide) rfl (fun ls hl => ?_)
          refine lv_goto (tgt := 2) hx hb dX7_letterOf_24 (by decide) ?_
          exact ih2 k0 x1 (x2 + 1) s5 _ _ _ (lv_sub hl [1, 2, 0] rfl) hP hS hf
        · refine lv_iload_n hx hb dX7_letterOf_19 rfl (lv_at hl 2 rfl) ?_
          exact zret_i X hP hS hf rfl dX7_letterOf_20
  rw [f_X7_letterOf] at hf
  obtain ⟨gp0, hf⟩ := zgd hf
  refine lv_iconst (v := 0) hx hb dX7_letterOf_0 (by decide) ?_
  refine lv_istore_n (lv' := [(2, .int 0), (0, .ref (ad k0)), (1, .int x1)]) hx hb dX7_letterOf_1 rfl hl (by decide) rfl (fun ls hl => ?_)
  exact hc_2 ZF k0 x1 0 s0 _ _ _ (lv_sub hl [1, 2, 0] rfl) hP hS hf
theorem dX7_eulerNumber_0 : decode cX7_eulerNumber 0 = .ok (.aload_n 0, 1) := by decide +kernel
theorem dX7_eulerNumber_1 : decode cX7_eulerNumber 1 = .ok (.getfield 21, 3) := by decide +kernel
theorem dX7_eulerNumber_4 : decode cX7_eulerNumber 4 = .ok (.iconst 2, 1) := by decide +kernel
theorem dX7_eulerNumber_5 : decode cX7_eulerNumber 5 = .ok (.if_icmp .ne 6, 3) := by decide +kernel
theorem dX7_eulerNumber_8 : decode cX7_eulerNumber 8 = .ok (.bipush 12, 2) := by decide +kernel
theorem dX7_eulerNumber_10 : decode cX7_eulerNumber 10 = .ok (.ireturn, 1) := by decide +kernel
theorem dX7_eulerNumber_11 : decode cX7_eulerNumber 11 = .ok (.aload_n 0, 1) := by decide +kernel
theorem dX7_eulerNumber_12 : decode cX7_eulerNumber 12 = .ok (.getfield 21, 3) := by decide +kernel
theorem dX7_eulerNumber_15 : decode cX7_eulerNumber 15 = .ok (.ifCond .ne 42, 3) := by decide +kernel
theorem dX7_eulerNumber_18 : decode cX7_eulerNumber 18 = .ok (.aload_n 0, 1) := by decide +kernel
theorem dX7_eulerNumber_19 : decode cX7_eulerNumber 19 = .ok (.getfield 9, 3) := by decide +kernel
theorem dX7_eulerNumber_22 : decode cX7_eulerNumber 22 = .ok (.iconst 0, 1) := by decide +kernel
theorem dX7_eulerNumber_23 : decode cX7_eulerNumber 23 = .ok (.iaload, 1) := by decide +kernel
theorem dX7_eulerNumber_24 : decode cX7_eulerNumber 24 = .ok (.iconst 1, 1) := by decide +kernel
theorem dX7_eulerNumber_25 : decode cX7_eulerNumber 25 = .ok (.iadd, 1) := by decide +kernel
theorem dX7_eulerNumber_26 : decode cX7_eulerNumber 26 = .ok (.aload_n 0, 1) := by decide +kernel
theorem dX7_eulerNumber_27 : decode cX7_eulerNumber 27 = .ok (.getfield 9, 3) := by decide +kernel
theorem dX7_eulerNumber_30 : decode cX7_eulerNumber 30 = .ok (.iconst 1, 1) := by decide +kernel
theorem dX7_eulerNumber_31 : decode cX7_eulerNumber 31 = .ok (.iaload, 1) := by decide +kernel
theorem dX7_eulerNumber_32 : decode cX7_eulerNumber 32 = .ok (.iconst 1, 1) := by decide +kernel
theorem dX7_eulerNumber_33 : decode cX7_eulerNumber 33 = .ok (.iadd, 1) := by decide +kernel
theorem dX7_eulerNumber_34 : decode cX7_eulerNumber 34 = .ok (.imul, 1) := by decide +kernel
theorem dX7_eulerNumber_35 : decode cX7_eulerNumber 35 = .ok (.aload_n 0, 1) := by decide +kernel
theorem dX7_eulerNumber_36 : decode cX7_eulerNumber 36 = .ok (.getfield 9, 3) := by decide +kernel
theorem dX7_eulerNumber_39 : decode cX7_eulerNumber 39 = .ok (.iconst 2, 1) := by decide +kernel
theorem dX7_eulerNumber_40 : decode cX7_eulerNumber 40 = .ok (.iaload, 1) := by decide +kernel
theorem dX7_eulerNumber_41 : decode cX7_eulerNumber 41 = .ok (.iconst 1, 1) := by decide +kernel
theorem dX7_eulerNumber_42 : decode cX7_eulerNumber 42 = .ok (.iadd, 1) := by decide +kernel
theorem dX7_eulerNumber_43 : decode cX7_eulerNumber 43 = .ok (.imul, 1) := by decide +kernel
theorem dX7_eulerNumber_44 : decode cX7_eulerNumber 44 = .ok (.aload_n 0, 1) := by decide +kernel
theorem dX7_eulerNumber_45 : decode cX7_eulerNumber 45 = .ok (.invokevirtual 45, 3) := by decide +kernel
theorem dX7_eulerNumber_48 : decode cX7_eulerNumber 48 = .ok (.iconst 1, 1) := by decide +kernel
theorem dX7_eulerNumber_49 : decode cX7_eulerNumber 49 = .ok (.isub, 1) := by decide +kernel
theorem dX7_eulerNumber_50 : decode cX7_eulerNumber 50 = .ok (.aload_n 0, 1) := by decide +kernel
theorem dX7_eulerNumber_51 : decode cX7_eulerNumber 51 = .ok (.getfield 25, 3) := by decide +kernel
theorem dX7_eulerNumber_54 : decode cX7_eulerNumber 54 = .ok (.imul, 1) := by decide +kernel
theorem dX7_eulerNumber_55 : decode cX7_eulerNumber 55 = .ok (.iadd, 1) := by decide +kernel
theorem dX7_eulerNumber_56 : decode cX7_eulerNumber 56 = .ok (.ireturn, 1) := by decide +kernel
theorem dX7_eulerNumber_57 : decode cX7_eulerNumber 57 = .ok (.iconst 4, 1) := by decide +kernel
theorem dX7_eulerNumber_58 : decode cX7_eulerNumber 58 = .ok (.istore_n 1, 1) := by decide +kernel
theorem dX7_eulerNumber_59 : decode cX7_eulerNumber 59 = .ok (.iconst 0, 1) := by decide +kernel
theorem dX7_eulerNumber_60 : decode cX7_eulerNumber 60 = .ok (.istore_n 2, 1) := by decide +kernel
theorem dX7_eulerNumber_61 : decode cX7_eulerNumber 61 = .ok (.iload_n 2, 1) := by decide +kernel
theorem dX7_eulerNumber_62 : decode cX7_eulerNumber 62 = .ok (.aload_n 0, 1) := by decide +kernel
theorem dX7_eulerNumber_63 : decode cX7_eulerNumber 63 = .ok (.getfield 25, 3) := by decide +kernel
theorem dX7_eulerNumber_66 : decode cX7_eulerNumber 66 = .ok (.if_icmp .ge 31, 3) := by decide +kernel
theorem dX7_eulerNumber_69 : decode cX7_eulerNumber 69 = .ok (.iload_n 2, 1) := by decide +kernel
theorem dX7_eulerNumber_70 : decode cX7_eulerNumber 70 = .ok (.aload_n 0, 1) := by decide +kernel
theorem dX7_eulerNumber_71 : decode cX7_eulerNumber 71 = .ok (.getfield 18, 3) := by decide +kernel
theorem dX7_eulerNumber_74 : decode cX7_eulerNumber 74 = .ok (.arraylength, 1) := by decide +kernel
theorem dX7_eulerNumber_75 : decode cX7_eulerNumber 75 = .ok (.if_icmp .ge 22, 3) := by decide +kernel
theorem dX7_eulerNumber_78 : decode cX7_eulerNumber 78 = .ok (.iload_n 1, 1) := by decide +kernel
theorem dX7_eulerNumber_79 : decode cX7_eulerNumber 79 = .ok (.iconst 2, 1) := by decide +kernel
theorem dX7_eulerNumber_80 : decode cX7_eulerNumber 80 = .ok (.iconst 2, 1) := by decide +kernel
theorem dX7_eulerNumber_81 : decode cX7_eulerNumber 81 = .ok (.aload_n 0, 1) := by decide +kernel
theorem dX7_eulerNumber_82 : decode cX7_eulerNumber 82 = .ok (.getfield 18, 3) := by decide +kernel
theorem dX7_eulerNumber_85 : decode cX7_eulerNumber 85 = .ok (.iload_n 2, 1) := by decide +kernel
theorem dX7_eulerNumber_86 : decode cX7_eulerNumber 86 = .ok (.iaload, 1) := by decide +kernel
theorem dX7_eulerNumber_87 : decode cX7_eulerNumber 87 = .ok (.imul, 1) := by decide +kernel
theorem dX7_eulerNumber_88 : decode cX7_eulerNumber 88 = .ok (.isub, 1) := by decide +kernel
theorem dX7_eulerNumber_89 : decode cX7_eulerNumber 89 = .ok (.iadd, 1) := by decide +kernel
theorem dX7_eulerNumber_90 : decode cX7_eulerNumber 90 = .ok (.istore_n 1, 1) := by decide +kernel
theorem dX7_eulerNumber_91 : decode cX7_eulerNumber 91 = .ok (.iinc 2 1, 3) := by decide +kernel
theorem dX7_eulerNumber_94 : decode cX7_eulerNumber 94 = .ok (.goto (-33), 3) := by decide +kernel
theorem dX7_eulerNumber_97 : decode cX7_eulerNumber 97 = .ok (.iload_n 1, 1) := by decide +kernel
theorem dX7_eulerNumber_98 : decode cX7_eulerNumber 98 = .ok (.ireturn, 1) := by decide +kernel
set_option maxHeartbeats 4000000 in
set_option maxRecDepth 100000 in
theorem cn_X7_eulerNumber {l : Launch} {cA : Nat → ClassId} {ad : Nat → Nat} {D : va_G} {E : Nat → Nat} {A : Nat → Prop} {k0 : Nat} {s0 sr : SS} {rr : Int32} (hf : f_X7_eulerNumber k0 s0 = some (rr, sr)) : zCon Ox Nx cA ad D E l yX7_eulerNumber cX7_eulerNumber 3 (some .int) 1 A [.ref (ad k0)] s0 (some (.int rr)) sr := by
  refine zstart (own := RX7) hOx (by decide) rfl (Nat.le_of_ble_eq_true rfl) ?_
  intro p e s m args below meth c X hP ls hl
  have hx := X.1
  have hb := X.2.1
  have hl : lv_has ls 3 [(0, .ref (ad k0))] := hl
  have hS : va_S A s.heap s.heap [] := va_S.rf
  have hc_61 : ∀ (n61 : Nat) (k0 : Nat) (x1 : Int32) (x2 : Int32) (s1 : SS) (H : Heap) (locs : List Loc) (ls : Array Slot), lv_has ls 3 [(0, .ref (ad k0)), (1, .int x1), (2, .int x2)] → va_P D ZCL (zw Ox Nx cA ad s1) H → va_S A s.heap H locs → f_X7_eulerNumber_c61 n61 k0 x1 x2 s1 = some (rr, sr) → W p l e (zrm 1) s m args below meth c H locs 0 0 (MQ below (zQc Ox Nx cA ad D A (some (.int rr)) sr) args s 0 0 A) (F0 m 61 ls []) := by
    intro n61
    induction n61 with
    | zero =>
      intro k0 x1 x2 s1 H locs ls hl hP hS hf
      rw [f_X7_eulerNumber_c61] at hf
      cases hf
    | succ n61 ih61 =>
      intro k0 x1 x2 s1 H locs ls hl hP hS hf
      rw [f_X7_eulerNumber_c61] at hf
      obtain ⟨gp0, hf⟩ := zgd hf
      refine lv_iload_n hx hb dX7_eulerNumber_61 rfl (lv_at hl 2 rfl) ?_
      refine lv_aload_n hx hb dX7_eulerNumber_62 rfl (lv_at hl 0 rfl) ?_
      refine gf_X7_25 X hP (k := k0) gp0 dX7_eulerNumber_63 ?_
      refine zicmp_ge (tgt := 97) hx hb dX7_eulerNumber_66 (by decide) hf (fun hf => ?_) (fun hf => ?_)
      · refine lv_iload_n hx hb dX7_eulerNumber_97 rfl (lv_at hl 1 rfl) ?_
        exact zret_i X hP hS hf rfl dX7_eulerNumber_98
      · refine lv_iload_n hx hb dX7_eulerNumber_69 rfl (lv_at hl 2 rfl) ?_
        refine lv_aload_n hx hb dX7_eulerNumber_70 rfl (lv_at hl 0 rfl) ?_
        refine gf_X7_18 X hP (k := k0) gp0 dX7_eulerNumber_71 rfl ?_
        obtain ⟨g1, hf⟩ := zgd hf
        obtain ⟨n2, on2⟩ := zia_of g1
        refine zalen X hP (k := (zrf Ox k0 5)) (t := 0) on2 (by decide) rfl dX7_eulerNumber_74 ?_
        refine zicmp_ge (tgt := 97) hx hb dX7_eulerNumber_75 (by decide) hf (fun hf => ?_) (fun hf => ?_)
        · refine lv_iload_n hx hb dX7_eulerNumber_97 rfl (lv_at hl 1 rfl) ?_
          exact zret_i X hP hS hf rfl dX7_eulerNumber_98
        · refine lv_iload_n hx hb dX7_eulerNumber_78 rfl (lv_at hl 1 rfl) ?_
          refine lv_iconst (v := 2) hx hb dX7_eulerNumber_79 (by decide) ?_
          refine lv_iconst (v := 2) hx hb dX7_eulerNumber_80 (by decide) ?_
          refine lv_aload_n hx hb dX7_eulerNumber_81 rfl (lv_at hl 0 rfl) ?_
          refine gf_X7_18 X hP (k := k0) gp0 dX7_eulerNumber_82 rfl ?_
          refine lv_iload_n hx hb dX7_eulerNumber_85 rfl (lv_at hl 2 rfl) ?_
          obtain ⟨g3, hf⟩ := zgd hf
          obtain ⟨n4, rn4, on4, in4⟩ := zok_of g3
          refine zald_i X hP (k := (zrf Ox k0 5)) on4 in4 dX7_eulerNumber_86 ?_
          refine lv_imul hx hb dX7_eulerNumber_87 ?_
          refine lv_isub hx hb dX7_eulerNumber_88 ?_
          refine lv_iadd hx hb dX7_eulerNumber_89 ?_
          refine lv_istore_n (lv' := [(1, .int (x1 + ((2 : Int32) - ((2 : Int32) * (s1.1 (zrf Ox k0 5) (x2).toNatClampNeg))))), (0, .ref (ad k0)), (2, .int x2)]) hx hb dX7_eulerNumber_90 rfl hl (by decide) rfl (fun ls hl => ?_)
          refine lv_iinc (v := (x2 + 1)) (lv' := [(2, .int (x2 + 1)), (1, .int (x1 + ((2 : Int32) - ((2 : Int32) * (s1.1 (zrf Ox k0 5) (x2).toNatClampNeg))))), (0, .ref (ad k0))]) hx hb dX7_eulerNumber_91 hl (k := 2) rfl rfl (by decide) rfl (fun ls hl => ?_)
          refine lv_goto (tgt := 61) hx hb dX7_eulerNumber_94 (by decide) ?_
          exact ih61 k0 (x1 + ((2 : Int32) - ((2 : Int32) * (s1.1 (zrf Ox k0 5) (x2).toNatClampNeg)))) (x2 + 1) s1 _ _ _ (lv_sub hl [2, 1, 0] rfl) hP hS hf
  rw [f_X7_eulerNumber] at hf
  obtain ⟨gp0, hf⟩ := zgd hf
  refine lv_aload_n hx hb dX7_eulerNumber_0 rfl (lv_at hl 0 rfl) ?_
  refine gf_X7_21 X hP (k := k0) gp0 dX7_eulerNumber_1 ?_
  refine lv_iconst (v := 2) hx hb dX7_eulerNumber_4 (by decide) ?_
  refine zicmp_ne (tgt := 11) hx hb dX7_eulerNumber_5 (by decide) hf (fun hf => ?_) (fun hf => ?_)
  · refine lv_aload_n hx hb dX7_eulerNumber_11 rfl (lv_at hl 0 rfl) ?_
    refine gf_X7_21 X hP (k := k0) gp0 dX7_eulerNumber_12 ?_
    refine zif_ne (tgt := 57) hx hb dX7_eulerNumber_15 (by decide) hf (fun hf => ?_) (fun hf => ?_)
    · refine lv_iconst (v := 4) hx hb dX7_eulerNumber_57 (by decide) ?_
      refine lv_istore_n (lv' := [(1, .int 4), (0, .ref (ad k0))]) hx hb dX7_eulerNumber_58 rfl hl (by decide) rfl (fun ls hl => ?_)
      refine lv_iconst (v := 0) hx hb dX7_eulerNumber_59 (by decide) ?_
      refine lv_istore_n (lv' := [(2, .int 0), (1, .int 4), (0, .ref (ad k0))]) hx hb dX7_eulerNumber_60 rfl hl (by decide) rfl (fun ls hl => ?_)
      exact hc_61 ZF k0 4 0 s0 _ _ _ (lv_sub hl [2, 1, 0] rfl) hP hS hf
    · refine lv_aload_n hx hb dX7_eulerNumber_18 rfl (lv_at hl 0 rfl) ?_
      refine gf_X7_9 X hP (k := k0) gp0 dX7_eulerNumber_19 rfl ?_
      refine lv_iconst (v := 0) hx hb dX7_eulerNumber_22 (by decide) ?_
      obtain ⟨g5, hf⟩ := zgd hf
      obtain ⟨n13, rn13, on13, in13⟩ := zok_of g5
      refine zald_i X hP (k := (zrf Ox k0 3)) on13 in13 dX7_eulerNumber_23 ?_
      refine lv_iconst (v := 1) hx hb dX7_eulerNumber_24 (by decide) ?_
      refine lv_iadd hx hb dX7_eulerNumber_25 ?_
      refine lv_aload_n hx hb dX7_eulerNumber_26 rfl (lv_at hl 0 rfl) ?_
      refine gf_X7_9 X hP (k := k0) gp0 dX7_eulerNumber_27 rfl ?_
      refine lv_iconst (v := 1) hx hb dX7_eulerNumber_30 (by decide) ?_
      obtain ⟨g6, hf⟩ := zgd hf
      obtain ⟨n12, rn12, on12, in12⟩ := zok_of g6
      refine zald_i X hP (k := (zrf Ox k0 3)) on12 in12 dX7_eulerNumber_31 ?_
      refine lv_iconst (v := 1) hx hb dX7_eulerNumber_32 (by decide) ?_
      refine lv_iadd hx hb dX7_eulerNumber_33 ?_
      refine lv_imul hx hb dX7_eulerNumber_34 ?_
      refine lv_aload_n hx hb dX7_eulerNumber_35 rfl (lv_at hl 0 rfl) ?_
      refine gf_X7_9 X hP (k := k0) gp0 dX7_eulerNumber_36 rfl ?_
      refine lv_iconst (v := 2) hx hb dX7_eulerNumber_39 (by decide) ?_
      obtain ⟨g7, hf⟩ := zgd hf
      obtain ⟨n11, rn11, on11, in11⟩ := zok_of g7
      refine zald_i X hP (k := (zrf Ox k0 3)) on11 in11 dX7_eulerNumber_40 ?_
      refine lv_iconst (v := 1) hx hb dX7_eulerNumber_41 (by decide) ?_
      refine lv_iadd hx hb dX7_eulerNumber_42 ?_
      refine lv_imul hx hb dX7_eulerNumber_43 ?_
      refine lv_aload_n hx hb dX7_eulerNumber_44 rfl (lv_at hl 0 rfl) ?_
      obtain ⟨r8, s9, h10, hf⟩ := zbd_some hf
      refine zcallV X hP hS hl.1 (k := k0) (As := []) (rest := [.int ((((s0.1 (zrf Ox k0 3) ((0 : Int32)).toNatClampNeg) + (1 : Int32)) * ((s0.1 (zrf Ox k0 3) ((1 : Int32)).toNatClampNeg) + (1 : Int32))) * ((s0.1 (zrf Ox k0 3) ((2 : Int32)).toNatClampNeg) + (1 : Int32)))]) (cn_X7_dimension h10) cw_X7_dimension zp_7 gp0 (by decide) rfl ml_X7_45 (by decide) rfl rfl (Nat.le_of_ble_eq_true rfl) dX7_eulerNumber_45 (fun H locs hP hS => ?_)
      refine lv_iconst (v := 1) hx hb dX7_eulerNumber_48 (by decide) ?_
      refine lv_isub hx hb dX7_eulerNumber_49 ?_
      refine lv_aload_n hx hb dX7_eulerNumber_50 rfl (lv_at hl 0 rfl) ?_
      refine gf_X7_25 X hP (k := k0) gp0 dX7_eulerNumber_51 ?_
      refine lv_imul hx hb dX7_eulerNumber_54 ?_
      refine lv_iadd hx hb dX7_eulerNumber_55 ?_
      exact zret_i X hP hS hf rfl dX7_eulerNumber_56
  · refine lv_bipush (v := 12) hx hb dX7_eulerNumber_8 (by decide) ?_
    exact zret_i X hP hS hf rfl dX7_eulerNumber_10
theorem dX7_canonicalAt_0 : decode cX7_canonicalAt 0 = .ok (.aload_n 0, 1) := by decide +kernel
theorem dX7_canonicalAt_1 : decode cX7_canonicalAt 1 = .ok (.getfield 21, 3) := by decide +kernel
theorem dX7_canonicalAt_4 : decode cX7_canonicalAt 4 = .ok (.iconst 2, 1) := by decide +kernel
theorem dX7_canonicalAt_5 : decode cX7_canonicalAt 5 = .ok (.if_icmp .ne 17, 3) := by decide +kernel
theorem dX7_canonicalAt_8 : decode cX7_canonicalAt 8 = .ok (.iload_n 1, 1) := by decide +kernel
theorem dX7_canonicalAt_9 : decode cX7_canonicalAt 9 = .ok (.ifCond .ne 9, 3) := by decide +kernel
theorem dX7_canonicalAt_12 : decode cX7_canonicalAt 12 = .ok (.ldc2_w 48, 3) := by decide +kernel
theorem dX7_canonicalAt_15 : decode cX7_canonicalAt 15 = .ok (.goto 6, 3) := by decide +kernel
theorem dX7_canonicalAt_18 : decode cX7_canonicalAt 18 = .ok (.ldc2_w 50, 3) := by decide +kernel
theorem dX7_canonicalAt_21 : decode cX7_canonicalAt 21 = .ok (.lreturn, 1) := by decide +kernel
theorem dX7_canonicalAt_22 : decode cX7_canonicalAt 22 = .ok (.iload_n 1, 1) := by decide +kernel
theorem dX7_canonicalAt_23 : decode cX7_canonicalAt 23 = .ok (.ifCond .lt 31, 3) := by decide +kernel
theorem dX7_canonicalAt_26 : decode cX7_canonicalAt 26 = .ok (.iload_n 1, 1) := by decide +kernel
theorem dX7_canonicalAt_27 : decode cX7_canonicalAt 27 = .ok (.aload_n 0, 1) := by decide +kernel
theorem dX7_canonicalAt_28 : decode cX7_canonicalAt 28 = .ok (.getfield 28, 3) := by decide +kernel
theorem dX7_canonicalAt_31 : decode cX7_canonicalAt 31 = .ok (.if_icmp .ge 23, 3) := by decide +kernel
theorem dX7_canonicalAt_34 : decode cX7_canonicalAt 34 = .ok (.iload_n 1, 1) := by decide +kernel
theorem dX7_canonicalAt_35 : decode cX7_canonicalAt 35 = .ok (.aload_n 0, 1) := by decide +kernel
theorem dX7_canonicalAt_36 : decode cX7_canonicalAt 36 = .ok (.getfield 9, 3) := by decide +kernel
theorem dX7_canonicalAt_39 : decode cX7_canonicalAt 39 = .ok (.arraylength, 1) := by decide +kernel
theorem dX7_canonicalAt_40 : decode cX7_canonicalAt 40 = .ok (.if_icmp .ge 14, 3) := by decide +kernel
theorem dX7_canonicalAt_43 : decode cX7_canonicalAt 43 = .ok (.aload_n 0, 1) := by decide +kernel
theorem dX7_canonicalAt_44 : decode cX7_canonicalAt 44 = .ok (.getfield 9, 3) := by decide +kernel
theorem dX7_canonicalAt_47 : decode cX7_canonicalAt 47 = .ok (.iload_n 1, 1) := by decide +kernel
theorem dX7_canonicalAt_48 : decode cX7_canonicalAt 48 = .ok (.iaload, 1) := by decide +kernel
theorem dX7_canonicalAt_49 : decode cX7_canonicalAt 49 = .ok (.i2l, 1) := by decide +kernel
theorem dX7_canonicalAt_50 : decode cX7_canonicalAt 50 = .ok (.lconst 1, 1) := by decide +kernel
theorem dX7_canonicalAt_51 : decode cX7_canonicalAt 51 = .ok (.ladd, 1) := by decide +kernel
theorem dX7_canonicalAt_52 : decode cX7_canonicalAt 52 = .ok (.lneg, 1) := by decide +kernel
theorem dX7_canonicalAt_53 : decode cX7_canonicalAt 53 = .ok (.lreturn, 1) := by decide +kernel
theorem dX7_canonicalAt_54 : decode cX7_canonicalAt 54 = .ok (.aload_n 0, 1) := by decide +kernel
theorem dX7_canonicalAt_55 : decode cX7_canonicalAt 55 = .ok (.getfield 21, 3) := by decide +kernel
theorem dX7_canonicalAt_58 : decode cX7_canonicalAt 58 = .ok (.ifCond .ne 13, 3) := by decide +kernel
theorem dX7_canonicalAt_61 : decode cX7_canonicalAt 61 = .ok (.aload_n 0, 1) := by decide +kernel
theorem dX7_canonicalAt_62 : decode cX7_canonicalAt 62 = .ok (.invokevirtual 45, 3) := by decide +kernel
theorem dX7_canonicalAt_65 : decode cX7_canonicalAt 65 = .ok (.i2l, 1) := by decide +kernel
theorem dX7_canonicalAt_66 : decode cX7_canonicalAt 66 = .ok (.lconst 1, 1) := by decide +kernel
theorem dX7_canonicalAt_67 : decode cX7_canonicalAt 67 = .ok (.lsub, 1) := by decide +kernel
theorem dX7_canonicalAt_68 : decode cX7_canonicalAt 68 = .ok (.goto 4, 3) := by decide +kernel
theorem dX7_canonicalAt_71 : decode cX7_canonicalAt 71 = .ok (.lconst 1, 1) := by decide +kernel
theorem dX7_canonicalAt_72 : decode cX7_canonicalAt 72 = .ok (.lreturn, 1) := by decide +kernel
set_option maxHeartbeats 4000000 in
set_option maxRecDepth 100000 in
theorem cn_X7_canonicalAt {l : Launch} {cA : Nat → ClassId} {ad : Nat → Nat} {D : va_G} {E : Nat → Nat} {A : Nat → Prop} {k0 : Nat} {x1 : Int32} {s0 sr : SS} {rr : Int64} (hf : f_X7_canonicalAt k0 x1 s0 = some (rr, sr)) : zCon Ox Nx cA ad D E l yX7_canonicalAt cX7_canonicalAt 2 (some .long) 1 A [.ref (ad k0), .int x1] s0 (some (.long rr)) sr := by
  refine zstart (own := RX7) hOx (by decide) rfl (Nat.le_of_ble_eq_true rfl) ?_
  intro p e s m args below meth c X hP ls hl
  have hx := X.1
  have hb := X.2.1
  have hl : lv_has ls 2 [(0, .ref (ad k0)), (1, .int x1)] := hl
  have hS : va_S A s.heap s.heap [] := va_S.rf
  have hc_54 : ∀ (k0 : Nat) (s1 : SS) (H : Heap) (locs : List Loc) (ls : Array Slot), lv_has ls 2 [(0, .ref (ad k0))] → va_P D ZCL (zw Ox Nx cA ad s1) H → va_S A s.heap H locs → f_X7_canonicalAt_c54 k0 s1 = some (rr, sr) → W p l e (zrm 1) s m args below meth c H locs 0 0 (MQ below (zQc Ox Nx cA ad D A (some (.long rr)) sr) args s 0 0 A) (F0 m 54 ls []) := by
    intro k0 s1 H locs ls hl hP hS hf
    rw [f_X7_canonicalAt_c54] at hf
    obtain ⟨gp0, hf⟩ := zgd hf
    refine lv_aload_n hx hb dX7_canonicalAt_54 rfl (lv_at hl 0 rfl) ?_
    refine gf_X7_21 X hP (k := k0) gp0 dX7_canonicalAt_55 ?_
    refine zif_ne (tgt := 71) hx hb dX7_canonicalAt_58 (by decide) hf (fun hf => ?_) (fun hf => ?_)
    · refine lv_lconst (v := 1) hx hb dX7_canonicalAt_71 (by decide) ?_
      exact zret_l X hP hS hf dX7_canonicalAt_72
    · refine lv_aload_n hx hb dX7_canonicalAt_61 rfl (lv_at hl 0 rfl) ?_
      obtain ⟨r1, s2, h3, hf⟩ := zbd_some hf
      refine zcallV X hP hS hl.1 (k := k0) (As := []) (rest := []) (cn_X7_dimension h3) cw_X7_dimension zp_7 gp0 (by decide) rfl ml_X7_45 (by decide) rfl rfl (Nat.le_of_ble_eq_true rfl) dX7_canonicalAt_62 (fun H locs hP hS => ?_)
      refine lv_i2l hx hb dX7_canonicalAt_65 rfl ?_
      refine lv_lconst (v := 1) hx hb dX7_canonicalAt_66 (by decide) ?_
      refine lv_lsub hx hb dX7_canonicalAt_67 ?_
      refine lv_goto (tgt := 72) hx hb dX7_canonicalAt_68 (by decide) ?_
      exact zret_l X hP hS hf dX7_canonicalAt_72
  rw [f_X7_canonicalAt] at hf
  obtain ⟨gp0, hf⟩ := zgd hf
  refine lv_aload_n hx hb dX7_canonicalAt_0 rfl (lv_at hl 0 rfl) ?_
  refine gf_X7_21 X hP (k := k0) gp0 dX7_canonicalAt_1 ?_
  refine lv_iconst (v := 2) hx hb dX7_canonicalAt_4 (by decide) ?_
  refine zicmp_ne (tgt := 22) hx hb dX7_canonicalAt_5 (by decide) hf (fun hf => ?_) (fun hf => ?_)
  · refine lv_iload_n hx hb dX7_canonicalAt_22 rfl (lv_at hl 1 rfl) ?_
    refine zif_lt (tgt := 54) hx hb dX7_canonicalAt_23 (by decide) hf (fun hf => ?_) (fun hf => ?_)
    · exact hc_54 k0 s0 _ _ _ (lv_sub hl [0] rfl) hP hS hf
    · refine lv_iload_n hx hb dX7_canonicalAt_26 rfl (lv_at hl 1 rfl) ?_
      refine lv_aload_n hx hb dX7_canonicalAt_27 rfl (lv_at hl 0 rfl) ?_
      refine gf_X7_28 X hP (k := k0) gp0 dX7_canonicalAt_28 ?_
      refine zicmp_ge (tgt := 54) hx hb dX7_canonicalAt_31 (by decide) hf (fun hf => ?_) (fun hf => ?_)
      · exact hc_54 k0 s0 _ _ _ (lv_sub hl [0] rfl) hP hS hf
      · refine lv_iload_n hx hb dX7_canonicalAt_34 rfl (lv_at hl 1 rfl) ?_
        refine lv_aload_n hx hb dX7_canonicalAt_35 rfl (lv_at hl 0 rfl) ?_
        refine gf_X7_9 X hP (k := k0) gp0 dX7_canonicalAt_36 rfl ?_
        obtain ⟨g4, hf⟩ := zgd hf
        obtain ⟨n5, on5⟩ := zia_of g4
        refine zalen X hP (k := (zrf Ox k0 3)) (t := 0) on5 (by decide) rfl dX7_canonicalAt_39 ?_
        refine zicmp_ge (tgt := 54) hx hb dX7_canonicalAt_40 (by decide) hf (fun hf => ?_) (fun hf => ?_)
        · exact hc_54 k0 s0 _ _ _ (lv_sub hl [0] rfl) hP hS hf
        · refine lv_aload_n hx hb dX7_canonicalAt_43 rfl (lv_at hl 0 rfl) ?_
          refine gf_X7_9 X hP (k := k0) gp0 dX7_canonicalAt_44 rfl ?_
          refine lv_iload_n hx hb dX7_canonicalAt_47 rfl (lv_at hl 1 rfl) ?_
          obtain ⟨g6, hf⟩ := zgd hf
          obtain ⟨n7, rn7, on7, in7⟩ := zok_of g6
          refine zald_i X hP (k := (zrf Ox k0 3)) on7 in7 dX7_canonicalAt_48 ?_
          refine lv_i2l hx hb dX7_canonicalAt_49 rfl ?_
          refine lv_lconst (v := 1) hx hb dX7_canonicalAt_50 (by decide) ?_
          refine lv_ladd hx hb dX7_canonicalAt_51 ?_
          refine lv_lneg hx hb dX7_canonicalAt_52 ?_
          exact zret_l X hP hS hf dX7_canonicalAt_53
  · refine lv_iload_n hx hb dX7_canonicalAt_8 rfl (lv_at hl 1 rfl) ?_
    refine zif_ne (tgt := 18) hx hb dX7_canonicalAt_9 (by decide) hf (fun hf => ?_) (fun hf => ?_)
    · refine zldc2 X co_X7_50 dX7_canonicalAt_18 ?_
      exact zret_l X hP hS hf dX7_canonicalAt_21
    · refine zldc2 X co_X7_48 dX7_canonicalAt_12 ?_
      refine lv_goto (tgt := 21) hx hb dX7_canonicalAt_15 (by decide) ?_
      exact zret_l X hP hS hf dX7_canonicalAt_21
theorem dX7_worthByPoints_0 : decode cX7_worthByPoints 0 = .ok (.aload_n 0, 1) := by decide +kernel
theorem dX7_worthByPoints_1 : decode cX7_worthByPoints 1 = .ok (.invokevirtual 45, 3) := by decide +kernel
theorem dX7_worthByPoints_4 : decode cX7_worthByPoints 4 = .ok (.istore_n 2, 1) := by decide +kernel
theorem dX7_worthByPoints_5 : decode cX7_worthByPoints 5 = .ok (.aload_n 0, 1) := by decide +kernel
theorem dX7_worthByPoints_6 : decode cX7_worthByPoints 6 = .ok (.getfield 28, 3) := by decide +kernel
theorem dX7_worthByPoints_9 : decode cX7_worthByPoints 9 = .ok (.istore_n 3, 1) := by decide +kernel
theorem dX7_worthByPoints_10 : decode cX7_worthByPoints 10 = .ok (.iload_n 3, 1) := by decide +kernel
theorem dX7_worthByPoints_11 : decode cX7_worthByPoints 11 = .ok (.aload_n 0, 1) := by decide +kernel
theorem dX7_worthByPoints_12 : decode cX7_worthByPoints 12 = .ok (.getfield 28, 3) := by decide +kernel
theorem dX7_worthByPoints_15 : decode cX7_worthByPoints 15 = .ok (.aload_n 0, 1) := by decide +kernel
theorem dX7_worthByPoints_16 : decode cX7_worthByPoints 16 = .ok (.getfield 25, 3) := by decide +kernel
theorem dX7_worthByPoints_19 : decode cX7_worthByPoints 19 = .ok (.iadd, 1) := by decide +kernel
theorem dX7_worthByPoints_20 : decode cX7_worthByPoints 20 = .ok (.if_icmp .ge 36, 3) := by decide +kernel
theorem dX7_worthByPoints_23 : decode cX7_worthByPoints 23 = .ok (.iload_n 3, 1) := by decide +kernel
theorem dX7_worthByPoints_24 : decode cX7_worthByPoints 24 = .ok (.aload_n 1, 1) := by decide +kernel
theorem dX7_worthByPoints_25 : decode cX7_worthByPoints 25 = .ok (.arraylength, 1) := by decide +kernel
theorem dX7_worthByPoints_26 : decode cX7_worthByPoints 26 = .ok (.if_icmp .ge 30, 3) := by decide +kernel
theorem dX7_worthByPoints_29 : decode cX7_worthByPoints 29 = .ok (.aload_n 1, 1) := by decide +kernel
theorem dX7_worthByPoints_30 : decode cX7_worthByPoints 30 = .ok (.iload_n 3, 1) := by decide +kernel
theorem dX7_worthByPoints_31 : decode cX7_worthByPoints 31 = .ok (.iaload, 1) := by decide +kernel
theorem dX7_worthByPoints_32 : decode cX7_worthByPoints 32 = .ok (.iload_n 2, 1) := by decide +kernel
theorem dX7_worthByPoints_33 : decode cX7_worthByPoints 33 = .ok (.if_icmp .ne 17, 3) := by decide +kernel
theorem dX7_worthByPoints_36 : decode cX7_worthByPoints 36 = .ok (.iload_n 2, 1) := by decide +kernel
theorem dX7_worthByPoints_37 : decode cX7_worthByPoints 37 = .ok (.iconst 2, 1) := by decide +kernel
theorem dX7_worthByPoints_38 : decode cX7_worthByPoints 38 = .ok (.irem, 1) := by decide +kernel
theorem dX7_worthByPoints_39 : decode cX7_worthByPoints 39 = .ok (.ifCond .eq 7, 3) := by decide +kernel
theorem dX7_worthByPoints_42 : decode cX7_worthByPoints 42 = .ok (.lconst 1, 1) := by decide +kernel
theorem dX7_worthByPoints_43 : decode cX7_worthByPoints 43 = .ok (.goto 6, 3) := by decide +kernel
theorem dX7_worthByPoints_46 : decode cX7_worthByPoints 46 = .ok (.ldc2_w 63, 3) := by decide +kernel
theorem dX7_worthByPoints_49 : decode cX7_worthByPoints 49 = .ok (.lreturn, 1) := by decide +kernel
theorem dX7_worthByPoints_50 : decode cX7_worthByPoints 50 = .ok (.iinc 3 1, 3) := by decide +kernel
theorem dX7_worthByPoints_53 : decode cX7_worthByPoints 53 = .ok (.goto (-43), 3) := by decide +kernel
theorem dX7_worthByPoints_56 : decode cX7_worthByPoints 56 = .ok (.lconst 0, 1) := by decide +kernel
theorem dX7_worthByPoints_57 : decode cX7_worthByPoints 57 = .ok (.lreturn, 1) := by decide +kernel
set_option maxHeartbeats 4000000 in
set_option maxRecDepth 100000 in
theorem cn_X7_worthByPoints {l : Launch} {cA : Nat → ClassId} {ad : Nat → Nat} {D : va_G} {E : Nat → Nat} {A : Nat → Prop} {k0 : Nat} {k1 : Nat} {s0 sr : SS} {rr : Int64} (hf : f_X7_worthByPoints k0 k1 s0 = some (rr, sr)) : zCon Ox Nx cA ad D E l yX7_worthByPoints cX7_worthByPoints 4 (some .long) 1 A [.ref (ad k0), .ref (ad k1)] s0 (some (.long rr)) sr := by
  refine zstart (own := RX7) hOx (by decide) rfl (Nat.le_of_ble_eq_true rfl) ?_
  intro p e s m args below meth c X hP ls hl
  have hx := X.1
  have hb := X.2.1
  have hl : lv_has ls 4 [(0, .ref (ad k0)), (1, .ref (ad k1))] := hl
  have hS : va_S A s.heap s.heap [] := va_S.rf
  have hc_10 : ∀ (n10 : Nat) (k0 : Nat) (k1 : Nat) (x2 : Int32) (x3 : Int32) (s1 : SS) (H : Heap) (locs : List Loc) (ls : Array Slot), lv_has ls 4 [(0, .ref (ad k0)), (1, .ref (ad k1)), (2, .int x2), (3, .int x3)] → va_P D ZCL (zw Ox Nx cA ad s1) H → va_S A s.heap H locs → f_X7_worthByPoints_c10 n10 k0 k1 x2 x3 s1 = some (rr, sr) → W p l e (zrm 1) s m args below meth c H locs 0 0 (MQ below (zQc Ox Nx cA ad D A (some (.long rr)) sr) args s 0 0 A) (F0 m 10 ls []) := by
    intro n10
    induction n10 with
    | zero =>
      intro k0 k1 x2 x3 s1 H locs ls hl hP hS hf
      rw [f_X7_worthByPoints_c10] at hf
      cases hf
    | succ n10 ih10 =>
      intro k0 k1 x2 x3 s1 H locs ls hl hP hS hf
      rw [f_X7_worthByPoints_c10] at hf
      obtain ⟨gp0, hf⟩ := zgd hf
      refine lv_iload_n hx hb dX7_worthByPoints_10 rfl (lv_at hl 3 rfl) ?_
      refine lv_aload_n hx hb dX7_worthByPoints_11 rfl (lv_at hl 0 rfl) ?_
      refine gf_X7_28 X hP (k := k0) gp0 dX7_worthByPoints_12 ?_
      refine lv_aload_n hx hb dX7_worthByPoints_15 rfl (lv_at hl 0 rfl) ?_
      refine gf_X7_25 X hP (k := k0) gp0 dX7_worthByPoints_16 ?_
      refine lv_iadd hx hb dX7_worthByPoints_19 ?_
      refine zicmp_ge (tgt := 56) hx hb dX7_worthByPoints_20 (by decide) hf (fun hf => ?_) (fun hf => ?_)
      · refine lv_lconst (v := 0) hx hb dX7_worthByPoints_56 (by decide) ?_
        exact zret_l X hP hS hf dX7_worthByPoints_57
      · refine lv_iload_n hx hb dX7_worthByPoints_23 rfl (lv_at hl 3 rfl) ?_
        refine lv_aload_n hx hb dX7_worthByPoints_24 rfl (lv_at hl 1 rfl) ?_
        obtain ⟨g4, hf⟩ := zgd hf
        obtain ⟨n5, on5⟩ := zia_of g4
        refine zalen X hP (k := k1) (t := 0) on5 (by decide) rfl dX7_worthByPoints_25 ?_
        refine zicmp_ge (tgt := 56) hx hb dX7_worthByPoints_26 (by decide) hf (fun hf => ?_) (fun hf => ?_)
        · refine lv_lconst (v := 0) hx hb dX7_worthByPoints_56 (by decide) ?_
          exact zret_l X hP hS hf dX7_worthByPoints_57
        · refine lv_aload_n hx hb dX7_worthByPoints_29 rfl (lv_at hl 1 rfl) ?_
          refine lv_iload_n hx hb dX7_worthByPoints_30 rfl (lv_at hl 3 rfl) ?_
          obtain ⟨g6, hf⟩ := zgd hf
          obtain ⟨n7, rn7, on7, in7⟩ := zok_of g6
          refine zald_i X hP (k := k1) on7 in7 dX7_worthByPoints_31 ?_
          refine lv_iload_n hx hb dX7_worthByPoints_32 rfl (lv_at hl 2 rfl) ?_
          refine zicmp_ne (tgt := 50) hx hb dX7_worthByPoints_33 (by decide) hf (fun hf => ?_) (fun hf => ?_)
          · refine lv_iinc (v := (x3 + 1)) (lv' := [(3, .int (x3 + 1)), (0, .ref (ad k0)), (1, .ref (ad k1)), (2, .int x2)]) hx hb dX7_worthByPoints_50 hl (k := 3) rfl rfl (by decide) rfl (fun ls hl => ?_)
            refine lv_goto (tgt := 10) hx hb dX7_worthByPoints_53 (by decide) ?_
            exact ih10 k0 k1 x2 (x3 + 1) s1 _ _ _ (lv_sub hl [1, 2, 3, 0] rfl) hP hS hf
          · refine lv_iload_n hx hb dX7_worthByPoints_36 rfl (lv_at hl 2 rfl) ?_
            refine lv_iconst (v := 2) hx hb dX7_worthByPoints_37 (by decide) ?_
            refine lv_irem hx hb dX7_worthByPoints_38 (by decide) ?_
            refine zif_eq (tgt := 46) hx hb dX7_worthByPoints_39 (by decide) hf (fun hf => ?_) (fun hf => ?_)
            · refine zldc2 X co_X7_63 dX7_worthByPoints_46 ?_
              exact zret_l X hP hS hf dX7_worthByPoints_49
            · refine lv_lconst (v := 1) hx hb dX7_worthByPoints_42 (by decide) ?_
              refine lv_goto (tgt := 49) hx hb dX7_worthByPoints_43 (by decide) ?_
              exact zret_l X hP hS hf dX7_worthByPoints_49
  rw [f_X7_worthByPoints] at hf
  obtain ⟨gp0, hf⟩ := zgd hf
  refine lv_aload_n hx hb dX7_worthByPoints_0 rfl (lv_at hl 0 rfl) ?_
  obtain ⟨r1, s2, h3, hf⟩ := zbd_some hf
  refine zcallV X hP hS hl.1 (k := k0) (As := []) (rest := []) (cn_X7_dimension h3) cw_X7_dimension zp_7 gp0 (by decide) rfl ml_X7_45 (by decide) rfl rfl (Nat.le_of_ble_eq_true rfl) dX7_worthByPoints_1 (fun H locs hP hS => ?_)
  refine lv_istore_n (lv' := [(2, .int r1), (0, .ref (ad k0)), (1, .ref (ad k1))]) hx hb dX7_worthByPoints_4 rfl hl (by decide) rfl (fun ls hl => ?_)
  refine lv_aload_n hx hb dX7_worthByPoints_5 rfl (lv_at hl 1 rfl) ?_
  refine gf_X7_28 X hP (k := k0) gp0 dX7_worthByPoints_6 ?_
  refine lv_istore_n (lv' := [(3, .int (s2.1 k0 1)), (2, .int r1), (0, .ref (ad k0)), (1, .ref (ad k1))]) hx hb dX7_worthByPoints_9 rfl hl (by decide) rfl (fun ls hl => ?_)
  exact hc_10 ZF k0 k1 r1 (s2.1 k0 1) s2 _ _ _ (lv_sub hl [2, 3, 1, 0] rfl) hP hS hf
theorem dX7_worthThrice_0 : decode cX7_worthThrice 0 = .ok (.ldc2_w 50, 3) := by decide +kernel
theorem dX7_worthThrice_3 : decode cX7_worthThrice 3 = .ok (.ldc2_w 50, 3) := by decide +kernel
theorem dX7_worthThrice_6 : decode cX7_worthThrice 6 = .ok (.iload_n 1, 1) := by decide +kernel
theorem dX7_worthThrice_7 : decode cX7_worthThrice 7 = .ok (.i2l, 1) := by decide +kernel
theorem dX7_worthThrice_8 : decode cX7_worthThrice 8 = .ok (.lmul, 1) := by decide +kernel
theorem dX7_worthThrice_9 : decode cX7_worthThrice 9 = .ok (.lsub, 1) := by decide +kernel
theorem dX7_worthThrice_10 : decode cX7_worthThrice 10 = .ok (.ldc2_w 72, 3) := by decide +kernel
theorem dX7_worthThrice_13 : decode cX7_worthThrice 13 = .ok (.iload_n 0, 1) := by decide +kernel
theorem dX7_worthThrice_14 : decode cX7_worthThrice 14 = .ok (.i2l, 1) := by decide +kernel
theorem dX7_worthThrice_15 : decode cX7_worthThrice 15 = .ok (.lmul, 1) := by decide +kernel
theorem dX7_worthThrice_16 : decode cX7_worthThrice 16 = .ok (.lsub, 1) := by decide +kernel
theorem dX7_worthThrice_17 : decode cX7_worthThrice 17 = .ok (.lreturn, 1) := by decide +kernel
set_option maxHeartbeats 4000000 in
set_option maxRecDepth 100000 in
theorem cn_X7_worthThrice {l : Launch} {cA : Nat → ClassId} {ad : Nat → Nat} {D : va_G} {E : Nat → Nat} {A : Nat → Prop} {x0 : Int32} {x1 : Int32} {s0 sr : SS} {rr : Int64} (hf : f_X7_worthThrice x0 x1 s0 = some (rr, sr)) : zCon Ox Nx cA ad D E l yX7_worthThrice cX7_worthThrice 2 (some .long) 0 A [.int x0, .int x1] s0 (some (.long rr)) sr := by
  refine zstart (own := RX7) hOx (by decide) rfl (Nat.le_of_ble_eq_true rfl) ?_
  intro p e s m args below meth c X hP ls hl
  have hx := X.1
  have hb := X.2.1
  have hl : lv_has ls 2 [(0, .int x0), (1, .int x1)] := hl
  have hS : va_S A s.heap s.heap [] := va_S.rf
  rw [f_X7_worthThrice] at hf
  refine zldc2 X co_X7_50 dX7_worthThrice_0 ?_
  refine zldc2 X co_X7_50 dX7_worthThrice_3 ?_
  refine lv_iload_n hx hb dX7_worthThrice_6 rfl (lv_at hl 1 rfl) ?_
  refine lv_i2l hx hb dX7_worthThrice_7 rfl ?_
  refine lv_lmul hx hb dX7_worthThrice_8 ?_
  refine lv_lsub hx hb dX7_worthThrice_9 ?_
  refine zldc2 X co_X7_72 dX7_worthThrice_10 ?_
  refine lv_iload_n hx hb dX7_worthThrice_13 rfl (lv_at hl 0 rfl) ?_
  refine lv_i2l hx hb dX7_worthThrice_14 rfl ?_
  refine lv_lmul hx hb dX7_worthThrice_15 ?_
  refine lv_lsub hx hb dX7_worthThrice_16 ?_
  exact zret_l X hP hS hf dX7_worthThrice_17
theorem dX7_worthTwice_0 : decode cX7_worthTwice 0 = .ok (.iload_n 0, 1) := by decide +kernel
theorem dX7_worthTwice_1 : decode cX7_worthTwice 1 = .ok (.i2l, 1) := by decide +kernel
theorem dX7_worthTwice_2 : decode cX7_worthTwice 2 = .ok (.lneg, 1) := by decide +kernel
theorem dX7_worthTwice_3 : decode cX7_worthTwice 3 = .ok (.lreturn, 1) := by decide +kernel
set_option maxHeartbeats 4000000 in
set_option maxRecDepth 100000 in
theorem cn_X7_worthTwice {l : Launch} {cA : Nat → ClassId} {ad : Nat → Nat} {D : va_G} {E : Nat → Nat} {A : Nat → Prop} {x0 : Int32} {s0 sr : SS} {rr : Int64} (hf : f_X7_worthTwice x0 s0 = some (rr, sr)) : zCon Ox Nx cA ad D E l yX7_worthTwice cX7_worthTwice 1 (some .long) 0 A [.int x0] s0 (some (.long rr)) sr := by
  refine zstart (own := RX7) hOx (by decide) rfl (Nat.le_of_ble_eq_true rfl) ?_
  intro p e s m args below meth c X hP ls hl
  have hx := X.1
  have hb := X.2.1
  have hl : lv_has ls 1 [(0, .int x0)] := hl
  have hS : va_S A s.heap s.heap [] := va_S.rf
  rw [f_X7_worthTwice] at hf
  refine lv_iload_n hx hb dX7_worthTwice_0 rfl (lv_at hl 0 rfl) ?_
  refine lv_i2l hx hb dX7_worthTwice_1 rfl ?_
  refine lv_lneg hx hb dX7_worthTwice_2 ?_
  exact zret_l X hP hS hf dX7_worthTwice_3
theorem dX7_worthByCurves_0 : decode cX7_worthByCurves 0 = .ok (.iconst 0, 1) := by decide +kernel
theorem dX7_worthByCurves_1 : decode cX7_worthByCurves 1 = .ok (.istore_n 2, 1) := by decide +kernel
theorem dX7_worthByCurves_2 : decode cX7_worthByCurves 2 = .ok (.iload_n 2, 1) := by decide +kernel
theorem dX7_worthByCurves_3 : decode cX7_worthByCurves 3 = .ok (.aload_n 0, 1) := by decide +kernel
theorem dX7_worthByCurves_4 : decode cX7_worthByCurves 4 = .ok (.getfield 25, 3) := by decide +kernel
theorem dX7_worthByCurves_7 : decode cX7_worthByCurves 7 = .ok (.if_icmp .ge 67, 3) := by decide +kernel
theorem dX7_worthByCurves_10 : decode cX7_worthByCurves 10 = .ok (.iload_n 2, 1) := by decide +kernel
theorem dX7_worthByCurves_11 : decode cX7_worthByCurves 11 = .ok (.aload_n 0, 1) := by decide +kernel
theorem dX7_worthByCurves_12 : decode cX7_worthByCurves 12 = .ok (.getfield 18, 3) := by decide +kernel
theorem dX7_worthByCurves_15 : decode cX7_worthByCurves 15 = .ok (.arraylength, 1) := by decide +kernel
theorem dX7_worthByCurves_16 : decode cX7_worthByCurves 16 = .ok (.if_icmp .ge 58, 3) := by decide +kernel
theorem dX7_worthByCurves_19 : decode cX7_worthByCurves 19 = .ok (.aload_n 1, 1) := by decide +kernel
theorem dX7_worthByCurves_20 : decode cX7_worthByCurves 20 = .ok (.iconst 1, 1) := by decide +kernel
theorem dX7_worthByCurves_21 : decode cX7_worthByCurves 21 = .ok (.iload_n 2, 1) := by decide +kernel
theorem dX7_worthByCurves_22 : decode cX7_worthByCurves 22 = .ok (.iadd, 1) := by decide +kernel
theorem dX7_worthByCurves_23 : decode cX7_worthByCurves 23 = .ok (.iaload, 1) := by decide +kernel
theorem dX7_worthByCurves_24 : decode cX7_worthByCurves 24 = .ok (.istore_n 3, 1) := by decide +kernel
theorem dX7_worthByCurves_25 : decode cX7_worthByCurves 25 = .ok (.iload_n 3, 1) := by decide +kernel
theorem dX7_worthByCurves_26 : decode cX7_worthByCurves 26 = .ok (.iconst 3, 1) := by decide +kernel
theorem dX7_worthByCurves_27 : decode cX7_worthByCurves 27 = .ok (.if_icmp .ne 19, 3) := by decide +kernel
theorem dX7_worthByCurves_30 : decode cX7_worthByCurves 30 = .ok (.aload_n 0, 1) := by decide +kernel
theorem dX7_worthByCurves_31 : decode cX7_worthByCurves 31 = .ok (.getfield 15, 3) := by decide +kernel
theorem dX7_worthByCurves_34 : decode cX7_worthByCurves 34 = .ok (.iload_n 2, 1) := by decide +kernel
theorem dX7_worthByCurves_35 : decode cX7_worthByCurves 35 = .ok (.iaload, 1) := by decide +kernel
theorem dX7_worthByCurves_36 : decode cX7_worthByCurves 36 = .ok (.aload_n 0, 1) := by decide +kernel
theorem dX7_worthByCurves_37 : decode cX7_worthByCurves 37 = .ok (.getfield 18, 3) := by decide +kernel
theorem dX7_worthByCurves_40 : decode cX7_worthByCurves 40 = .ok (.iload_n 2, 1) := by decide +kernel
theorem dX7_worthByCurves_41 : decode cX7_worthByCurves 41 = .ok (.iaload, 1) := by decide +kernel
theorem dX7_worthByCurves_42 : decode cX7_worthByCurves 42 = .ok (.invokestatic 65, 3) := by decide +kernel
theorem dX7_worthByCurves_45 : decode cX7_worthByCurves 45 = .ok (.lreturn, 1) := by decide +kernel
theorem dX7_worthByCurves_46 : decode cX7_worthByCurves 46 = .ok (.iload_n 3, 1) := by decide +kernel
theorem dX7_worthByCurves_47 : decode cX7_worthByCurves 47 = .ok (.iconst 2, 1) := by decide +kernel
theorem dX7_worthByCurves_48 : decode cX7_worthByCurves 48 = .ok (.if_icmp .ne 20, 3) := by decide +kernel
theorem dX7_worthByCurves_51 : decode cX7_worthByCurves 51 = .ok (.aload_n 1, 1) := by decide +kernel
theorem dX7_worthByCurves_52 : decode cX7_worthByCurves 52 = .ok (.iconst 0, 1) := by decide +kernel
theorem dX7_worthByCurves_53 : decode cX7_worthByCurves 53 = .ok (.iaload, 1) := by decide +kernel
theorem dX7_worthByCurves_54 : decode cX7_worthByCurves 54 = .ok (.iconst 1, 1) := by decide +kernel
theorem dX7_worthByCurves_55 : decode cX7_worthByCurves 55 = .ok (.if_icmp .ne 13, 3) := by decide +kernel
theorem dX7_worthByCurves_58 : decode cX7_worthByCurves 58 = .ok (.aload_n 0, 1) := by decide +kernel
theorem dX7_worthByCurves_59 : decode cX7_worthByCurves 59 = .ok (.getfield 15, 3) := by decide +kernel
theorem dX7_worthByCurves_62 : decode cX7_worthByCurves 62 = .ok (.iload_n 2, 1) := by decide +kernel
theorem dX7_worthByCurves_63 : decode cX7_worthByCurves 63 = .ok (.iaload, 1) := by decide +kernel
theorem dX7_worthByCurves_64 : decode cX7_worthByCurves 64 = .ok (.invokestatic 69, 3) := by decide +kernel
theorem dX7_worthByCurves_67 : decode cX7_worthByCurves 67 = .ok (.lreturn, 1) := by decide +kernel
theorem dX7_worthByCurves_68 : decode cX7_worthByCurves 68 = .ok (.iinc 2 1, 3) := by decide +kernel
theorem dX7_worthByCurves_71 : decode cX7_worthByCurves 71 = .ok (.goto (-69), 3) := by decide +kernel
theorem dX7_worthByCurves_74 : decode cX7_worthByCurves 74 = .ok (.lconst 0, 1) := by decide +kernel
theorem dX7_worthByCurves_75 : decode cX7_worthByCurves 75 = .ok (.lreturn, 1) := by decide +kernel
set_option maxHeartbeats 4000000 in
set_option maxRecDepth 100000 in
theorem cn_X7_worthByCurves {l : Launch} {cA : Nat → ClassId} {ad : Nat → Nat} {D : va_G} {E : Nat → Nat} {A : Nat → Prop} {k0 : Nat} {k1 : Nat} {s0 sr : SS} {rr : Int64} (hf : f_X7_worthByCurves k0 k1 s0 = some (rr, sr)) : zCon Ox Nx cA ad D E l yX7_worthByCurves cX7_worthByCurves 4 (some .long) 1 A [.ref (ad k0), .ref (ad k1)] s0 (some (.long rr)) sr := by
  refine zstart (own := RX7) hOx (by decide) rfl (Nat.le_of_ble_eq_true rfl) ?_
  intro p e s m args below meth c X hP ls hl
  have hx := X.1
  have hb := X.2.1
  have hl : lv_has ls 4 [(0, .ref (ad k0)), (1, .ref (ad k1))] := hl
  have hS : va_S A s.heap s.heap [] := va_S.rf
  have hc_2 : ∀ (n2 : Nat) (k0 : Nat) (k1 : Nat) (x2 : Int32) (s1 : SS) (H : Heap) (locs : List Loc) (ls : Array Slot), lv_has ls 4 [(0, .ref (ad k0)), (1, .ref (ad k1)), (2, .int x2)] → va_P D ZCL (zw Ox Nx cA ad s1) H → va_S A s.heap H locs → f_X7_worthByCurves_c2 n2 k0 k1 x2 s1 = some (rr, sr) → W p l e (zrm 1) s m args below meth c H locs 0 0 (MQ below (zQc Ox Nx cA ad D A (some (.long rr)) sr) args s 0 0 A) (F0 m 2 ls []) := by
    intro n2
    induction n2 with
    | zero =>
      intro k0 k1 x2 s1 H locs ls hl hP hS hf
      rw [f_X7_worthByCurves_c2] at hf
      cases hf
    | succ n2 ih2 =>
      have hc_68 : ∀ (k0 : Nat) (k1 : Nat) (x2 : Int32) (s1 : SS) (H : Heap) (locs : List Loc) (ls : Array Slot), lv_has ls 4 [(0, .ref (ad k0)), (1, .ref (ad k1)), (2, .int x2)] → va_P D ZCL (zw Ox Nx cA ad s1) H → va_S A s.heap H locs → f_X7_worthByCurves_c68 (f_X7_worthByCurves_c2 n2) k0 k1 x2 s1 = some (rr, sr) → W p l e (zrm 1) s m args below meth c H locs 0 0 (MQ below (zQc Ox Nx cA ad D A (some (.long rr)) sr) args s 0 0 A) (F0 m 68 ls []) := by
        intro k0 k1 x2 s1 H locs ls hl hP hS hf
        rw [f_X7_worthByCurves_c68] at hf
        obtain ⟨gp0, hf⟩ := zgd hf
        refine lv_iinc (v := (x2 + 1)) (lv' := [(2, .int (x2 + 1)), (0, .ref (ad k0)), (1, .ref (ad k1))]) hx hb dX7_worthByCurves_68 hl (k := 2) rfl rfl (by decide) rfl (fun ls hl => ?_)
        refine lv_goto (tgt := 2) hx hb dX7_worthByCurves_71 (by decide) ?_
        exact ih2 k0 k1 (x2 + 1) s1 _ _ _ (lv_sub hl [1, 2, 0] rfl) hP hS hf
      intro k0 k1 x2 s1 H locs ls hl hP hS hf
      rw [f_X7_worthByCurves_c2] at hf
      obtain ⟨gp0, hf⟩ := zgd hf
      refine lv_iload_n hx hb dX7_worthByCurves_2 rfl (lv_at hl 2 rfl) ?_
      refine lv_aload_n hx hb dX7_worthByCurves_3 rfl (lv_at hl 0 rfl) ?_
      refine gf_X7_25 X hP (k := k0) gp0 dX7_worthByCurves_4 ?_
      refine zicmp_ge (tgt := 74) hx hb dX7_worthByCurves_7 (by decide) hf (fun hf => ?_) (fun hf => ?_)
      · refine lv_lconst (v := 0) hx hb dX7_worthByCurves_74 (by decide) ?_
        exact zret_l X hP hS hf dX7_worthByCurves_75
      · refine lv_iload_n hx hb dX7_worthByCurves_10 rfl (lv_at hl 2 rfl) ?_
        refine lv_aload_n hx hb dX7_worthByCurves_11 rfl (lv_at hl 0 rfl) ?_
        refine gf_X7_18 X hP (k := k0) gp0 dX7_worthByCurves_12 rfl ?_
        obtain ⟨g1, hf⟩ := zgd hf
        obtain ⟨n2, on2⟩ := zia_of g1
        refine zalen X hP (k := (zrf Ox k0 5)) (t := 0) on2 (by decide) rfl dX7_worthByCurves_15 ?_
        refine zicmp_ge (tgt := 74) hx hb dX7_worthByCurves_16 (by decide) hf (fun hf => ?_) (fun hf => ?_)
        · refine lv_lconst (v := 0) hx hb dX7_worthByCurves_74 (by decide) ?_
          exact zret_l X hP hS hf dX7_worthByCurves_75
        · refine lv_aload_n hx hb dX7_worthByCurves_19 rfl (lv_at hl 1 rfl) ?_
          refine lv_iconst (v := 1) hx hb dX7_worthByCurves_20 (by decide) ?_
          refine lv_iload_n hx hb dX7_worthByCurves_21 rfl (lv_at hl 2 rfl) ?_
          refine lv_iadd hx hb dX7_worthByCurves_22 ?_
          obtain ⟨g3, hf⟩ := zgd hf
          obtain ⟨n18, rn18, on18, in18⟩ := zok_of g3
          refine zald_i X hP (k := k1) on18 in18 dX7_worthByCurves_23 ?_
          refine lv_istore_n (lv' := [(3, .int (s1.1 k1 (((1 : Int32) + x2)).toNatClampNeg)), (0, .ref (ad k0)), (1, .ref (ad k1)), (2, .int x2)]) hx hb dX7_worthByCurves_24 rfl hl (by decide) rfl (fun ls hl => ?_)
          refine lv_iload_n hx hb dX7_worthByCurves_25 rfl (lv_at hl 0 rfl) ?_
          refine lv_iconst (v := 3) hx hb dX7_worthByCurves_26 (by decide) ?_
          refine zicmp_ne (tgt := 46) hx hb dX7_worthByCurves_27 (by decide) hf (fun hf => ?_) (fun hf => ?_)
          · refine lv_iload_n hx hb dX7_worthByCurves_46 rfl (lv_at hl 0 rfl) ?_
            refine lv_iconst (v := 2) hx hb dX7_worthByCurves_47 (by decide) ?_
            refine zicmp_ne (tgt := 68) hx hb dX7_worthByCurves_48 (by decide) hf (fun hf => ?_) (fun hf => ?_)
            · exact hc_68 k0 k1 x2 s1 _ _ _ (lv_sub hl [1, 2, 3] rfl) hP hS hf
            · refine lv_aload_n hx hb dX7_worthByCurves_51 rfl (lv_at hl 2 rfl) ?_
              refine lv_iconst (v := 0) hx hb dX7_worthByCurves_52 (by decide) ?_
              obtain ⟨g4, hf⟩ := zgd hf
              obtain ⟨n10, rn10, on10, in10⟩ := zok_of g4
              refine zald_i X hP (k := k1) on10 in10 dX7_worthByCurves_53 ?_
              refine lv_iconst (v := 1) hx hb dX7_worthByCurves_54 (by decide) ?_
              refine zicmp_ne (tgt := 68) hx hb dX7_worthByCurves_55 (by decide) hf (fun hf => ?_) (fun hf => ?_)
              · exact hc_68 k0 k1 x2 s1 _ _ _ (lv_sub hl [1, 2, 3] rfl) hP hS hf
              · refine lv_aload_n hx hb dX7_worthByCurves_58 rfl (lv_at hl 1 rfl) ?_
                refine gf_X7_15 X hP (k := k0) gp0 dX7_worthByCurves_59 rfl ?_
                refine lv_iload_n hx hb dX7_worthByCurves_62 rfl (lv_at hl 3 rfl) ?_
                obtain ⟨g5, hf⟩ := zgd hf
                obtain ⟨n9, rn9, on9, in9⟩ := zok_of g5
                refine zald_i X hP (k := (zrf Ox k0 4)) on9 in9 dX7_worthByCurves_63 ?_
                obtain ⟨r6, s7, h8, hf⟩ := zbd_some hf
                refine zcallS X hP hS hl.1 (As := [.int (s1.1 (zrf Ox k0 4) (x2).toNatClampNeg)]) (rest := []) (cn_X7_worthTwice h8) cw_X7_worthTwice ml_X7_69 (by decide) rfl rfl (Nat.le_of_ble_eq_true rfl) dX7_worthByCurves_64 (fun H locs hP hS => ?_)
                exact zret_l X hP hS hf dX7_worthByCurves_67
          · refine lv_aload_n hx hb dX7_worthByCurves_30 rfl (lv_at hl 1 rfl) ?_
            refine gf_X7_15 X hP (k := k0) gp0 dX7_worthByCurves_31 rfl ?_
            refine lv_iload_n hx hb dX7_worthByCurves_34 rfl (lv_at hl 3 rfl) ?_
            obtain ⟨g11, hf⟩ := zgd hf
            obtain ⟨n17, rn17, on17, in17⟩ := zok_of g11
            refine zald_i X hP (k := (zrf Ox k0 4)) on17 in17 dX7_worthByCurves_35 ?_
            refine lv_aload_n hx hb dX7_worthByCurves_36 rfl (lv_at hl 1 rfl) ?_
            refine gf_X7_18 X hP (k := k0) gp0 dX7_worthByCurves_37 rfl ?_
            refine lv_iload_n hx hb dX7_worthByCurves_40 rfl (lv_at hl 3 rfl) ?_
            obtain ⟨g12, hf⟩ := zgd hf
            obtain ⟨n16, rn16, on16, in16⟩ := zok_of g12
            refine zald_i X hP (k := (zrf Ox k0 5)) on16 in16 dX7_worthByCurves_41 ?_
            obtain ⟨r13, s14, h15, hf⟩ := zbd_some hf
            refine zcallS X hP hS hl.1 (As := [.int (s1.1 (zrf Ox k0 4) (x2).toNatClampNeg), .int (s1.1 (zrf Ox k0 5) (x2).toNatClampNeg)]) (rest := []) (cn_X7_worthThrice h15) cw_X7_worthThrice ml_X7_65 (by decide) rfl rfl (Nat.le_of_ble_eq_true rfl) dX7_worthByCurves_42 (fun H locs hP hS => ?_)
            exact zret_l X hP hS hf dX7_worthByCurves_45
  rw [f_X7_worthByCurves] at hf
  obtain ⟨gp0, hf⟩ := zgd hf
  refine lv_iconst (v := 0) hx hb dX7_worthByCurves_0 (by decide) ?_
  refine lv_istore_n (lv' := [(2, .int 0), (0, .ref (ad k0)), (1, .ref (ad k1))]) hx hb dX7_worthByCurves_1 rfl hl (by decide) rfl (fun ls hl => ?_)
  exact hc_2 ZF k0 k1 0 s0 _ _ _ (lv_sub hl [1, 2, 0] rfl) hP hS hf
theorem dX7_worthByConics_0 : decode cX7_worthByConics 0 = .ok (.iload_n 0, 1) := by decide +kernel
theorem dX7_worthByConics_1 : decode cX7_worthByConics 1 = .ok (.tableswitch 39 3 5 #[27, 31, 35], 27) := by decide +kernel
theorem dX7_worthByConics_28 : decode cX7_worthByConics 28 = .ok (.ldc2_w 72, 3) := by decide +kernel
theorem dX7_worthByConics_31 : decode cX7_worthByConics 31 = .ok (.lreturn, 1) := by decide +kernel
theorem dX7_worthByConics_32 : decode cX7_worthByConics 32 = .ok (.ldc2_w 74, 3) := by decide +kernel
theorem dX7_worthByConics_35 : decode cX7_worthByConics 35 = .ok (.lreturn, 1) := by decide +kernel
theorem dX7_worthByConics_36 : decode cX7_worthByConics 36 = .ok (.ldc2_w 76, 3) := by decide +kernel
theorem dX7_worthByConics_39 : decode cX7_worthByConics 39 = .ok (.lreturn, 1) := by decide +kernel
theorem dX7_worthByConics_40 : decode cX7_worthByConics 40 = .ok (.lconst 0, 1) := by decide +kernel
theorem dX7_worthByConics_41 : decode cX7_worthByConics 41 = .ok (.lreturn, 1) := by decide +kernel
set_option maxHeartbeats 4000000 in
set_option maxRecDepth 100000 in
theorem cn_X7_worthByConics {l : Launch} {cA : Nat → ClassId} {ad : Nat → Nat} {D : va_G} {E : Nat → Nat} {A : Nat → Prop} {x0 : Int32} {s0 sr : SS} {rr : Int64} (hf : f_X7_worthByConics x0 s0 = some (rr, sr)) : zCon Ox Nx cA ad D E l yX7_worthByConics cX7_worthByConics 1 (some .long) 0 A [.int x0] s0 (some (.long rr)) sr := by
  refine zstart (own := RX7) hOx (by decide) rfl (Nat.le_of_ble_eq_true rfl) ?_
  intro p e s m args below meth c X hP ls hl
  have hx := X.1
  have hb := X.2.1
  have hl : lv_has ls 1 [(0, .int x0)] := hl
  have hS : va_S A s.heap s.heap [] := va_S.rf
  rw [f_X7_worthByConics] at hf
  refine lv_iload_n hx hb dX7_worthByConics_0 rfl (lv_at hl 0 rfl) ?_
  by_cases e1 : x0 = 3
  · rw [if_pos e1] at hf
    refine lv_tableIn (tgt := 28) (off := 27) hx hb dX7_worthByConics_1 (by rw [e1]; decide) (by rw [e1]; decide) (by rw [e1]; decide +kernel) (by decide) ?_
    refine zldc2 X co_X7_72 dX7_worthByConics_28 ?_
    exact zret_l X hP hS hf dX7_worthByConics_31
  · rw [if_neg e1] at hf
    by_cases e2 : x0 = 4
    · rw [if_pos e2] at hf
      refine lv_tableIn (tgt := 32) (off := 31) hx hb dX7_worthByConics_1 (by rw [e2]; decide) (by rw [e2]; decide) (by rw [e2]; decide +kernel) (by decide) ?_
      refine zldc2 X co_X7_74 dX7_worthByConics_32 ?_
      exact zret_l X hP hS hf dX7_worthByConics_35
    · rw [if_neg e2] at hf
      by_cases e3 : x0 = 5
      · rw [if_pos e3] at hf
        refine lv_tableIn (tgt := 36) (off := 35) hx hb dX7_worthByConics_1 (by rw [e3]; decide) (by rw [e3]; decide) (by rw [e3]; decide +kernel) (by decide) ?_
        refine zldc2 X co_X7_76 dX7_worthByConics_36 ?_
        exact zret_l X hP hS hf dX7_worthByConics_39
      · rw [if_neg e3] at hf
        have ye1 := zne e1 (v := 3) (by decide)
        have ye2 := zne e2 (v := 4) (by decide)
        have ye3 := zne e3 (v := 5) (by decide)
        refine lv_tableOut (tgt := 40) hx hb dX7_worthByConics_1 (by omega) (by decide) ?_
        refine lv_lconst (v := 0) hx hb dX7_worthByConics_40 (by decide) ?_
        exact zret_l X hP hS hf dX7_worthByConics_41
theorem dX7_worthOf_0 : decode cX7_worthOf 0 = .ok (.iconst 1, 1) := by decide +kernel
theorem dX7_worthOf_1 : decode cX7_worthOf 1 = .ok (.istore_n 2, 1) := by decide +kernel
theorem dX7_worthOf_2 : decode cX7_worthOf 2 = .ok (.iconst 0, 1) := by decide +kernel
theorem dX7_worthOf_3 : decode cX7_worthOf 3 = .ok (.istore_n 3, 1) := by decide +kernel
theorem dX7_worthOf_4 : decode cX7_worthOf 4 = .ok (.iload_n 3, 1) := by decide +kernel
theorem dX7_worthOf_5 : decode cX7_worthOf 5 = .ok (.aload_n 0, 1) := by decide +kernel
theorem dX7_worthOf_6 : decode cX7_worthOf 6 = .ok (.getfield 28, 3) := by decide +kernel
theorem dX7_worthOf_9 : decode cX7_worthOf 9 = .ok (.if_icmp .ge 40, 3) := by decide +kernel
theorem dX7_worthOf_12 : decode cX7_worthOf 12 = .ok (.iload_n 3, 1) := by decide +kernel
theorem dX7_worthOf_13 : decode cX7_worthOf 13 = .ok (.aload_n 0, 1) := by decide +kernel
theorem dX7_worthOf_14 : decode cX7_worthOf 14 = .ok (.getfield 9, 3) := by decide +kernel
theorem dX7_worthOf_17 : decode cX7_worthOf 17 = .ok (.arraylength, 1) := by decide +kernel
theorem dX7_worthOf_18 : decode cX7_worthOf 18 = .ok (.if_icmp .ge 31, 3) := by decide +kernel
theorem dX7_worthOf_21 : decode cX7_worthOf 21 = .ok (.iload_n 2, 1) := by decide +kernel
theorem dX7_worthOf_22 : decode cX7_worthOf 22 = .ok (.ifCond .eq 19, 3) := by decide +kernel
theorem dX7_worthOf_25 : decode cX7_worthOf 25 = .ok (.aload_n 1, 1) := by decide +kernel
theorem dX7_worthOf_26 : decode cX7_worthOf 26 = .ok (.iload_n 3, 1) := by decide +kernel
theorem dX7_worthOf_27 : decode cX7_worthOf 27 = .ok (.iaload, 1) := by decide +kernel
theorem dX7_worthOf_28 : decode cX7_worthOf 28 = .ok (.aload_n 0, 1) := by decide +kernel
theorem dX7_worthOf_29 : decode cX7_worthOf 29 = .ok (.getfield 9, 3) := by decide +kernel
theorem dX7_worthOf_32 : decode cX7_worthOf 32 = .ok (.iload_n 3, 1) := by decide +kernel
theorem dX7_worthOf_33 : decode cX7_worthOf 33 = .ok (.iaload, 1) := by decide +kernel
theorem dX7_worthOf_34 : decode cX7_worthOf 34 = .ok (.if_icmp .ne 7, 3) := by decide +kernel
theorem dX7_worthOf_37 : decode cX7_worthOf 37 = .ok (.iconst 1, 1) := by decide +kernel
theorem dX7_worthOf_38 : decode cX7_worthOf 38 = .ok (.goto 4, 3) := by decide +kernel
theorem dX7_worthOf_41 : decode cX7_worthOf 41 = .ok (.iconst 0, 1) := by decide +kernel
theorem dX7_worthOf_42 : decode cX7_worthOf 42 = .ok (.istore_n 2, 1) := by decide +kernel
theorem dX7_worthOf_43 : decode cX7_worthOf 43 = .ok (.iinc 3 1, 3) := by decide +kernel
theorem dX7_worthOf_46 : decode cX7_worthOf 46 = .ok (.goto (-42), 3) := by decide +kernel
theorem dX7_worthOf_49 : decode cX7_worthOf 49 = .ok (.iload_n 2, 1) := by decide +kernel
theorem dX7_worthOf_50 : decode cX7_worthOf 50 = .ok (.ifCond .eq 5, 3) := by decide +kernel
theorem dX7_worthOf_53 : decode cX7_worthOf 53 = .ok (.lconst 1, 1) := by decide +kernel
theorem dX7_worthOf_54 : decode cX7_worthOf 54 = .ok (.lreturn, 1) := by decide +kernel
theorem dX7_worthOf_55 : decode cX7_worthOf 55 = .ok (.aload_n 0, 1) := by decide +kernel
theorem dX7_worthOf_56 : decode cX7_worthOf 56 = .ok (.getfield 21, 3) := by decide +kernel
theorem dX7_worthOf_59 : decode cX7_worthOf 59 = .ok (.lookupswitch 37 #[(0, 25), (1, 31)], 25) := by decide +kernel
theorem dX7_worthOf_84 : decode cX7_worthOf 84 = .ok (.aload_n 0, 1) := by decide +kernel
theorem dX7_worthOf_85 : decode cX7_worthOf 85 = .ok (.aload_n 1, 1) := by decide +kernel
theorem dX7_worthOf_86 : decode cX7_worthOf 86 = .ok (.invokevirtual 52, 3) := by decide +kernel
theorem dX7_worthOf_89 : decode cX7_worthOf 89 = .ok (.lreturn, 1) := by decide +kernel
theorem dX7_worthOf_90 : decode cX7_worthOf 90 = .ok (.aload_n 0, 1) := by decide +kernel
theorem dX7_worthOf_91 : decode cX7_worthOf 91 = .ok (.aload_n 1, 1) := by decide +kernel
theorem dX7_worthOf_92 : decode cX7_worthOf 92 = .ok (.invokevirtual 56, 3) := by decide +kernel
theorem dX7_worthOf_95 : decode cX7_worthOf 95 = .ok (.lreturn, 1) := by decide +kernel
theorem dX7_worthOf_96 : decode cX7_worthOf 96 = .ok (.aload_n 1, 1) := by decide +kernel
theorem dX7_worthOf_97 : decode cX7_worthOf 97 = .ok (.iconst 1, 1) := by decide +kernel
theorem dX7_worthOf_98 : decode cX7_worthOf 98 = .ok (.iaload, 1) := by decide +kernel
theorem dX7_worthOf_99 : decode cX7_worthOf 99 = .ok (.invokestatic 59, 3) := by decide +kernel
theorem dX7_worthOf_102 : decode cX7_worthOf 102 = .ok (.lreturn, 1) := by decide +kernel
set_option maxHeartbeats 4000000 in
set_option maxRecDepth 100000 in
theorem cn_X7_worthOf {l : Launch} {cA : Nat → ClassId} {ad : Nat → Nat} {D : va_G} {E : Nat → Nat} {A : Nat → Prop} {k0 : Nat} {k1 : Nat} {s0 sr : SS} {rr : Int64} (hf : f_X7_worthOf k0 k1 s0 = some (rr, sr)) : zCon Ox Nx cA ad D E l yX7_worthOf cX7_worthOf 4 (some .long) 2 A [.ref (ad k0), .ref (ad k1)] s0 (some (.long rr)) sr := by
  refine zstart (own := RX7) hOx (by decide) rfl (Nat.le_of_ble_eq_true rfl) ?_
  intro p e s m args below meth c X hP ls hl
  have hx := X.1
  have hb := X.2.1
  have hl : lv_has ls 4 [(0, .ref (ad k0)), (1, .ref (ad k1))] := hl
  have hS : va_S A s.heap s.heap [] := va_S.rf
  have hc_4 : ∀ (n4 : Nat) (k0 : Nat) (k1 : Nat) (x2 : Int32) (x3 : Int32) (s1 : SS) (H : Heap) (locs : List Loc) (ls : Array Slot), lv_has ls 4 [(0, .ref (ad k0)), (1, .ref (ad k1)), (2, .int x2), (3, .int x3)] → va_P D ZCL (zw Ox Nx cA ad s1) H → va_S A s.heap H locs → f_X7_worthOf_c4 n4 k0 k1 x2 x3 s1 = some (rr, sr) → W p l e (zrm 2) s m args below meth c H locs 0 0 (MQ below (zQc Ox Nx cA ad D A (some (.long rr)) sr) args s 0 0 A) (F0 m 4 ls []) := by
    intro n4
    induction n4 with
    | zero =>
      intro k0 k1 x2 x3 s1 H locs ls hl hP hS hf
      rw [f_X7_worthOf_c4] at hf
      cases hf
    | succ n4 ih4 =>
      have hc_49 : ∀ (k0 : Nat) (k1 : Nat) (x2 : Int32) (s1 : SS) (H : Heap) (locs : List Loc) (ls : Array Slot), lv_has ls 4 [(0, .ref (ad k0)), (1, .ref (ad k1)), (2, .int x2)] → va_P D ZCL (zw Ox Nx cA ad s1) H → va_S A s.heap H locs → f_X7_worthOf_c49 k0 k1 x2 s1 = some (rr, sr) → W p l e (zrm 2) s m args below meth c H locs 0 0 (MQ below (zQc Ox Nx cA ad D A (some (.long rr)) sr) args s 0 0 A) (F0 m 49 ls []) := by
        intro k0 k1 x2 s1 H locs ls hl hP hS hf
        rw [f_X7_worthOf_c49] at hf
        obtain ⟨gp0, hf⟩ := zgd hf
        refine lv_iload_n hx hb dX7_worthOf_49 rfl (lv_at hl 2 rfl) ?_
        refine zif_eq (tgt := 55) hx hb dX7_worthOf_50 (by decide) hf (fun hf => ?_) (fun hf => ?_)
        · refine lv_aload_n hx hb dX7_worthOf_55 rfl (lv_at hl 0 rfl) ?_
          refine gf_X7_21 X hP (k := k0) gp0 dX7_worthOf_56 ?_
          by_cases e1 : (s1.1 k0 0) = 0
          · rw [if_pos e1] at hf
            refine lv_lookup (tgt := 84) (off := 25) hx hb dX7_worthOf_59 (by decide) (by first | (rw [e1]; done) | (rw [e1]; decide +kernel)) (by decide) ?_
            refine lv_aload_n hx hb dX7_worthOf_84 rfl (lv_at hl 0 rfl) ?_
            refine lv_aload_n hx hb dX7_worthOf_85 rfl (lv_at hl 1 rfl) ?_
            obtain ⟨r2, s3, h4, hf⟩ := zbd_some hf
            refine zcallV X hP hS hl.1 (k := k0) (As := [.ref (ad k1)]) (rest := []) (cn_X7_worthByPoints h4) cw_X7_worthByPoints zp_7 gp0 (by decide) rfl ml_X7_52 (by decide) rfl rfl (Nat.le_of_ble_eq_true rfl) dX7_worthOf_86 (fun H locs hP hS => ?_)
            exact zret_l X hP hS hf dX7_worthOf_89
          · rw [if_neg e1] at hf
            by_cases e5 : (s1.1 k0 0) = 1
            · rw [if_pos e5] at hf
              refine lv_lookup (tgt := 90) (off := 31) hx hb dX7_worthOf_59 (by decide) (by first | (rw [e5]; done) | (rw [e5]; decide +kernel)) (by decide) ?_
              refine lv_aload_n hx hb dX7_worthOf_90 rfl (lv_at hl 0 rfl) ?_
              refine lv_aload_n hx hb dX7_worthOf_91 rfl (lv_at hl 1 rfl) ?_
              obtain ⟨r6, s7, h8, hf⟩ := zbd_some hf
              refine zcallV X hP hS hl.1 (k := k0) (As := [.ref (ad k1)]) (rest := []) (cn_X7_worthByCurves h8) cw_X7_worthByCurves zp_7 gp0 (by decide) rfl ml_X7_56 (by decide) rfl rfl (Nat.le_of_ble_eq_true rfl) dX7_worthOf_92 (fun H locs hP hS => ?_)
              exact zret_l X hP hS hf dX7_worthOf_95
            · rw [if_neg e5] at hf
              have ye1 := zne e1 (v := 0) (by decide)
              have ye5 := zne e5 (v := 1) (by decide)
              refine lv_lookup (tgt := 96) hx hb dX7_worthOf_59 (by decide) (off := 37) (by simp [Op.lookupswitch.offset, ye1, Ne.symm ye1, ye5, Ne.symm ye5]) (by decide) ?_
              refine lv_aload_n hx hb dX7_worthOf_96 rfl (lv_at hl 1 rfl) ?_
              refine lv_iconst (v := 1) hx hb dX7_worthOf_97 (by decide) ?_
              obtain ⟨g9, hf⟩ := zgd hf
              obtain ⟨n13, rn13, on13, in13⟩ := zok_of g9
              refine zald_i X hP (k := k1) on13 in13 dX7_worthOf_98 ?_
              obtain ⟨r10, s11, h12, hf⟩ := zbd_some hf
              refine zcallS X hP hS hl.1 (As := [.int (s1.1 k1 ((1 : Int32)).toNatClampNeg)]) (rest := []) (cn_X7_worthByConics h12) cw_X7_worthByConics ml_X7_59 (by decide) rfl rfl (Nat.le_of_ble_eq_true rfl) dX7_worthOf_99 (fun H locs hP hS => ?_)
              exact zret_l X hP hS hf dX7_worthOf_102
        · refine lv_lconst (v := 1) hx hb dX7_worthOf_53 (by decide) ?_
          exact zret_l X hP hS hf dX7_worthOf_54
      have hc_42 : ∀ (k0 : Nat) (k1 : Nat) (x3 : Int32) (t0 : Int32) (s1 : SS) (H : Heap) (locs : List Loc) (ls : Array Slot), lv_has ls 4 [(0, .ref (ad k0)), (1, .ref (ad k1)), (3, .int x3)] → va_P D ZCL (zw Ox Nx cA ad s1) H → va_S A s.heap H locs → f_X7_worthOf_c42 (f_X7_worthOf_c4 n4) k0 k1 x3 t0 s1 = some (rr, sr) → W p l e (zrm 2) s m args below meth c H locs 0 0 (MQ below (zQc Ox Nx cA ad D A (some (.long rr)) sr) args s 0 0 A) (F0 m 42 ls [.int t0]) := by
        intro k0 k1 x3 t0 s1 H locs ls hl hP hS hf
        rw [f_X7_worthOf_c42] at hf
        obtain ⟨gp0, hf⟩ := zgd hf
        refine lv_istore_n (lv' := [(2, .int t0), (0, .ref (ad k0)), (1, .ref (ad k1)), (3, .int x3)]) hx hb dX7_worthOf_42 rfl hl (by decide) rfl (fun ls hl => ?_)
        refine lv_iinc (v := (x3 + 1)) (lv' := [(3, .int (x3 + 1)), (2, .int t0), (0, .ref (ad k0)), (1, .ref (ad k1))]) hx hb dX7_worthOf_43 hl (k := 3) rfl rfl (by decide) rfl (fun ls hl => ?_)
        refine lv_goto (tgt := 4) hx hb dX7_worthOf_46 (by decide) ?_
        exact ih4 k0 k1 t0 (x3 + 1) s1 _ _ _ (lv_sub hl [2, 3, 1, 0] rfl) hP hS hf
      have hc_41 : ∀ (k0 : Nat) (k1 : Nat) (x3 : Int32) (s1 : SS) (H : Heap) (locs : List Loc) (ls : Array Slot), lv_has ls 4 [(0, .ref (ad k0)), (1, .ref (ad k1)), (3, .int x3)] → va_P D ZCL (zw Ox Nx cA ad s1) H → va_S A s.heap H locs → f_X7_worthOf_c41 (f_X7_worthOf_c4 n4) k0 k1 x3 s1 = some (rr, sr) → W p l e (zrm 2) s m args below meth c H locs 0 0 (MQ below (zQc Ox Nx cA ad D A (some (.long rr)) sr) args s 0 0 A) (F0 m 41 ls []) := by
        intro k0 k1 x3 s1 H locs ls hl hP hS hf
        rw [f_X7_worthOf_c41] at hf
        obtain ⟨gp0, hf⟩ := zgd hf
        refine lv_iconst (v := 0) hx hb dX7_worthOf_41 (by decide) ?_
        exact hc_42 k0 k1 x3 0 s1 _ _ _ (lv_sub hl [0, 1, 2] rfl) hP hS hf
      intro k0 k1 x2 x3 s1 H locs ls hl hP hS hf
      rw [f_X7_worthOf_c4] at hf
      obtain ⟨gp0, hf⟩ := zgd hf
      refine lv_iload_n hx hb dX7_worthOf_4 rfl (lv_at hl 3 rfl) ?_
      refine lv_aload_n hx hb dX7_worthOf_5 rfl (lv_at hl 0 rfl) ?_
      refine gf_X7_28 X hP (k := k0) gp0 dX7_worthOf_6 ?_
      refine zicmp_ge (tgt := 49) hx hb dX7_worthOf_9 (by decide) hf (fun hf => ?_) (fun hf => ?_)
      · exact hc_49 k0 k1 x2 s1 _ _ _ (lv_sub hl [0, 1, 2] rfl) hP hS hf
      · refine lv_iload_n hx hb dX7_worthOf_12 rfl (lv_at hl 3 rfl) ?_
        refine lv_aload_n hx hb dX7_worthOf_13 rfl (lv_at hl 0 rfl) ?_
        refine gf_X7_9 X hP (k := k0) gp0 dX7_worthOf_14 rfl ?_
        obtain ⟨g14, hf⟩ := zgd hf
        obtain ⟨n15, on15⟩ := zia_of g14
        refine zalen X hP (k := (zrf Ox k0 3)) (t := 0) on15 (by decide) rfl dX7_worthOf_17 ?_
        refine zicmp_ge (tgt := 49) hx hb dX7_worthOf_18 (by decide) hf (fun hf => ?_) (fun hf => ?_)
        · exact hc_49 k0 k1 x2 s1 _ _ _ (lv_sub hl [0, 1, 2] rfl) hP hS hf
        · refine lv_iload_n hx hb dX7_worthOf_21 rfl (lv_at hl 2 rfl) ?_
          refine zif_eq (tgt := 41) hx hb dX7_worthOf_22 (by decide) hf (fun hf => ?_) (fun hf => ?_)
          · exact hc_41 k0 k1 x3 s1 _ _ _ (lv_sub hl [0, 1, 3] rfl) hP hS hf
          · refine lv_aload_n hx hb dX7_worthOf_25 rfl (lv_at hl 1 rfl) ?_
            refine lv_iload_n hx hb dX7_worthOf_26 rfl (lv_at hl 3 rfl) ?_
            obtain ⟨g16, hf⟩ := zgd hf
            obtain ⟨n19, rn19, on19, in19⟩ := zok_of g16
            refine zald_i X hP (k := k1) on19 in19 dX7_worthOf_27 ?_
            refine lv_aload_n hx hb dX7_worthOf_28 rfl (lv_at hl 0 rfl) ?_
            refine gf_X7_9 X hP (k := k0) gp0 dX7_worthOf_29 rfl ?_
            refine lv_iload_n hx hb dX7_worthOf_32 rfl (lv_at hl 3 rfl) ?_
            obtain ⟨g17, hf⟩ := zgd hf
            obtain ⟨n18, rn18, on18, in18⟩ := zok_of g17
            refine zald_i X hP (k := (zrf Ox k0 3)) on18 in18 dX7_worthOf_33 ?_
            refine zicmp_ne (tgt := 41) hx hb dX7_worthOf_34 (by decide) hf (fun hf => ?_) (fun hf => ?_)
            · exact hc_41 k0 k1 x3 s1 _ _ _ (lv_sub hl [0, 1, 3] rfl) hP hS hf
            · refine lv_iconst (v := 1) hx hb dX7_worthOf_37 (by decide) ?_
              refine lv_goto (tgt := 42) hx hb dX7_worthOf_38 (by decide) ?_
              exact hc_42 k0 k1 x3 1 s1 _ _ _ (lv_sub hl [0, 1, 3] rfl) hP hS hf
  rw [f_X7_worthOf] at hf
  obtain ⟨gp0, hf⟩ := zgd hf
  refine lv_iconst (v := 1) hx hb dX7_worthOf_0 (by decide) ?_
  refine lv_istore_n (lv' := [(2, .int 1), (0, .ref (ad k0)), (1, .ref (ad k1))]) hx hb dX7_worthOf_1 rfl hl (by decide) rfl (fun ls hl => ?_)
  refine lv_iconst (v := 0) hx hb dX7_worthOf_2 (by decide) ?_
  refine lv_istore_n (lv' := [(3, .int 0), (2, .int 1), (0, .ref (ad k0)), (1, .ref (ad k1))]) hx hb dX7_worthOf_3 rfl hl (by decide) rfl (fun ls hl => ?_)
  exact hc_4 ZF k0 k1 1 0 s0 _ _ _ (lv_sub hl [2, 3, 1, 0] rfl) hP hS hf
theorem dX8_makeZero_0 : decode cX8_makeZero 0 = .ok (.aload_n 1, 1) := by decide +kernel
theorem dX8_makeZero_1 : decode cX8_makeZero 1 = .ok (.lconst 0, 1) := by decide +kernel
theorem dX8_makeZero_2 : decode cX8_makeZero 2 = .ok (.invokestatic 36, 3) := by decide +kernel
theorem dX8_makeZero_5 : decode cX8_makeZero 5 = .ok (.return_, 1) := by decide +kernel
set_option maxHeartbeats 4000000 in
set_option maxRecDepth 100000 in
theorem cn_X8_makeZero {l : Launch} {cA : Nat → ClassId} {ad : Nat → Nat} {D : va_G} {E : Nat → Nat} {A : Nat → Prop} {k1 : Nat} {s0 sr : SS} {rr : Unit} (hf : f_X8_makeZero k1 s0 = some (rr, sr)) : zCon Ox Nx cA ad D E l yX8_makeZero cX8_makeZero 2 none 1 A [.ref (ad 5), .ref (ad k1)] s0 none sr := by
  refine zstart (own := RX8) hOx (by decide) rfl (Nat.le_of_ble_eq_true rfl) ?_
  intro p e s m args below meth c X hP ls hl
  have hx := X.1
  have hb := X.2.1
  have hl : lv_has ls 2 [(0, .ref (ad 5)), (1, .ref (ad k1))] := hl
  have hS : va_S A s.heap s.heap [] := va_S.rf
  rw [f_X8_makeZero] at hf
  refine lv_aload_n hx hb dX8_makeZero_0 rfl (lv_at hl 1 rfl) ?_
  refine lv_lconst (v := 0) hx hb dX8_makeZero_1 (by decide) ?_
  obtain ⟨r1, s2, h3, hf⟩ := zbd_some hf
  refine zcallS X hP hS hl.1 (As := [.ref (ad k1), .long 0]) (rest := []) (cn_J7_fill_d0a16 hOx h3) cw_J7_fill_d0a16 ml_X8_36 (by decide) rfl rfl (Nat.le_of_ble_eq_true rfl) dX8_makeZero_2 (fun H locs hP hS => ?_)
  exact zret_v X hP hS hf dX8_makeZero_5
theorem dX8_makeOne_0 : decode cX8_makeOne 0 = .ok (.aload_n 1, 1) := by decide +kernel
theorem dX8_makeOne_1 : decode cX8_makeOne 1 = .ok (.lconst 0, 1) := by decide +kernel
theorem dX8_makeOne_2 : decode cX8_makeOne 2 = .ok (.invokestatic 36, 3) := by decide +kernel
theorem dX8_makeOne_5 : decode cX8_makeOne 5 = .ok (.aload_n 0, 1) := by decide +kernel
theorem dX8_makeOne_6 : decode cX8_makeOne 6 = .ok (.getfield 10, 3) := by decide +kernel
theorem dX8_makeOne_9 : decode cX8_makeOne 9 = .ok (.getfield 42, 3) := by decide +kernel
theorem dX8_makeOne_12 : decode cX8_makeOne 12 = .ok (.ifCond .le 15, 3) := by decide +kernel
theorem dX8_makeOne_15 : decode cX8_makeOne 15 = .ok (.aload_n 1, 1) := by decide +kernel
theorem dX8_makeOne_16 : decode cX8_makeOne 16 = .ok (.aload_n 0, 1) := by decide +kernel
theorem dX8_makeOne_17 : decode cX8_makeOne 17 = .ok (.getfield 10, 3) := by decide +kernel
theorem dX8_makeOne_20 : decode cX8_makeOne 20 = .ok (.getfield 42, 3) := by decide +kernel
theorem dX8_makeOne_23 : decode cX8_makeOne 23 = .ok (.iconst 1, 1) := by decide +kernel
theorem dX8_makeOne_24 : decode cX8_makeOne 24 = .ok (.isub, 1) := by decide +kernel
theorem dX8_makeOne_25 : decode cX8_makeOne 25 = .ok (.lconst 1, 1) := by decide +kernel
theorem dX8_makeOne_26 : decode cX8_makeOne 26 = .ok (.lastore, 1) := by decide +kernel
theorem dX8_makeOne_27 : decode cX8_makeOne 27 = .ok (.return_, 1) := by decide +kernel
set_option maxHeartbeats 4000000 in
set_option maxRecDepth 100000 in
theorem cn_X8_makeOne {l : Launch} {cA : Nat → ClassId} {ad : Nat → Nat} {D : va_G} {E : Nat → Nat} {A : Nat → Prop} {k1 : Nat} {s0 sr : SS} {rr : Unit} (hf : f_X8_makeOne k1 s0 = some (rr, sr)) : zCon Ox Nx cA ad D E l yX8_makeOne cX8_makeOne 2 none 1 A [.ref (ad 5), .ref (ad k1)] s0 none sr := by
  refine zstart (own := RX8) hOx (by decide) rfl (Nat.le_of_ble_eq_true rfl) ?_
  intro p e s m args below meth c X hP ls hl
  have hx := X.1
  have hb := X.2.1
  have hl : lv_has ls 2 [(0, .ref (ad 5)), (1, .ref (ad k1))] := hl
  have hS : va_S A s.heap s.heap [] := va_S.rf
  rw [f_X8_makeOne] at hf
  refine lv_aload_n hx hb dX8_makeOne_0 rfl (lv_at hl 1 rfl) ?_
  refine lv_lconst (v := 0) hx hb dX8_makeOne_1 (by decide) ?_
  obtain ⟨r1, s2, h3, hf⟩ := zbd_some hf
  refine zcallS X hP hS hl.1 (As := [.ref (ad k1), .long 0]) (rest := []) (cn_J7_fill_d0a16 hOx h3) cw_J7_fill_d0a16 ml_X8_36 (by decide) rfl rfl (Nat.le_of_ble_eq_true rfl) dX8_makeOne_2 (fun H locs hP hS => ?_)
  refine lv_aload_n hx hb dX8_makeOne_5 rfl (lv_at hl 0 rfl) ?_
  refine gf_X8_10 X hP (k := 5) (q := 6) rfl dX8_makeOne_6 rfl ?_
  refine gf_X8_42 X hP (k := 6) rfl dX8_makeOne_9 ?_
  refine zif_le (tgt := 27) hx hb dX8_makeOne_12 (by decide) hf (fun hf => ?_) (fun hf => ?_)
  · exact zret_v X hP hS hf dX8_makeOne_27
  · refine lv_aload_n hx hb dX8_makeOne_15 rfl (lv_at hl 1 rfl) ?_
    refine lv_aload_n hx hb dX8_makeOne_16 rfl (lv_at hl 0 rfl) ?_
    refine gf_X8_10 X hP (k := 5) (q := 6) rfl dX8_makeOne_17 rfl ?_
    refine gf_X8_42 X hP (k := 6) rfl dX8_makeOne_20 ?_
    refine lv_iconst (v := 1) hx hb dX8_makeOne_23 (by decide) ?_
    refine lv_isub hx hb dX8_makeOne_24 ?_
    refine lv_lconst (v := 1) hx hb dX8_makeOne_25 (by decide) ?_
    obtain ⟨g4, hf⟩ := zgd hf
    obtain ⟨n5, rn5, on5, in5⟩ := zok_of g4
    refine zast_l X hP hS (k := k1) on5 in5 dX8_makeOne_26 (fun H locs hP hS => ?_)
    exact zret_v X hP hS hf dX8_makeOne_27
theorem dX10_find_0 : decode cX10_find 0 = .ok (.iload_n 1, 1) := by decide +kernel
theorem dX10_find_1 : decode cX10_find 1 = .ok (.ifCond .ge 5, 3) := by decide +kernel
theorem dX10_find_4 : decode cX10_find 4 = .ok (.iconst (-1), 1) := by decide +kernel
theorem dX10_find_5 : decode cX10_find 5 = .ok (.ireturn, 1) := by decide +kernel
theorem dX10_find_6 : decode cX10_find 6 = .ok (.iload_n 1, 1) := by decide +kernel
theorem dX10_find_7 : decode cX10_find 7 = .ok (.istore_n 2, 1) := by decide +kernel
theorem dX10_find_8 : decode cX10_find 8 = .ok (.aload_n 0, 1) := by decide +kernel
theorem dX10_find_9 : decode cX10_find 9 = .ok (.getfield 39, 3) := by decide +kernel
theorem dX10_find_12 : decode cX10_find 12 = .ok (.istore_n 3, 1) := by decide +kernel
theorem dX10_find_13 : decode cX10_find 13 = .ok (.iconst 0, 1) := by decide +kernel
theorem dX10_find_14 : decode cX10_find 14 = .ok (.istore 4, 2) := by decide +kernel
theorem dX10_find_16 : decode cX10_find 16 = .ok (.iconst 0, 1) := by decide +kernel
theorem dX10_find_17 : decode cX10_find 17 = .ok (.istore 5, 2) := by decide +kernel
theorem dX10_find_19 : decode cX10_find 19 = .ok (.iload 5, 2) := by decide +kernel
theorem dX10_find_21 : decode cX10_find 21 = .ok (.aload_n 0, 1) := by decide +kernel
theorem dX10_find_22 : decode cX10_find 22 = .ok (.getfield 46, 3) := by decide +kernel
theorem dX10_find_25 : decode cX10_find 25 = .ok (.if_icmp .ge 48, 3) := by decide +kernel
theorem dX10_find_28 : decode cX10_find 28 = .ok (.iload_n 3, 1) := by decide +kernel
theorem dX10_find_29 : decode cX10_find 29 = .ok (.iload_n 2, 1) := by decide +kernel
theorem dX10_find_30 : decode cX10_find 30 = .ok (.bipush 10, 2) := by decide +kernel
theorem dX10_find_32 : decode cX10_find 32 = .ok (.irem, 1) := by decide +kernel
theorem dX10_find_33 : decode cX10_find 33 = .ok (.isub, 1) := by decide +kernel
theorem dX10_find_34 : decode cX10_find 34 = .ok (.istore_n 3, 1) := by decide +kernel
theorem dX10_find_35 : decode cX10_find 35 = .ok (.iload_n 2, 1) := by decide +kernel
theorem dX10_find_36 : decode cX10_find 36 = .ok (.bipush 10, 2) := by decide +kernel
theorem dX10_find_38 : decode cX10_find 38 = .ok (.idiv, 1) := by decide +kernel
theorem dX10_find_39 : decode cX10_find 39 = .ok (.istore_n 2, 1) := by decide +kernel
theorem dX10_find_40 : decode cX10_find 40 = .ok (.iload_n 3, 1) := by decide +kernel
theorem dX10_find_41 : decode cX10_find 41 = .ok (.ifCond .ge 5, 3) := by decide +kernel
theorem dX10_find_44 : decode cX10_find 44 = .ok (.iconst (-1), 1) := by decide +kernel
theorem dX10_find_45 : decode cX10_find 45 = .ok (.ireturn, 1) := by decide +kernel
theorem dX10_find_46 : decode cX10_find 46 = .ok (.iload 4, 2) := by decide +kernel
theorem dX10_find_48 : decode cX10_find 48 = .ok (.getstatic 81, 3) := by decide +kernel
theorem dX10_find_51 : decode cX10_find 51 = .ok (.bipush 6, 2) := by decide +kernel
theorem dX10_find_53 : decode cX10_find 53 = .ok (.aload_n 0, 1) := by decide +kernel
theorem dX10_find_54 : decode cX10_find 54 = .ok (.getfield 46, 3) := by decide +kernel
theorem dX10_find_57 : decode cX10_find 57 = .ok (.iload 5, 2) := by decide +kernel
theorem dX10_find_59 : decode cX10_find 59 = .ok (.isub, 1) := by decide +kernel
theorem dX10_find_60 : decode cX10_find 60 = .ok (.imul, 1) := by decide +kernel
theorem dX10_find_61 : decode cX10_find 61 = .ok (.iload_n 3, 1) := by decide +kernel
theorem dX10_find_62 : decode cX10_find 62 = .ok (.iadd, 1) := by decide +kernel
theorem dX10_find_63 : decode cX10_find 63 = .ok (.iaload, 1) := by decide +kernel
theorem dX10_find_64 : decode cX10_find 64 = .ok (.iadd, 1) := by decide +kernel
theorem dX10_find_65 : decode cX10_find 65 = .ok (.istore 4, 2) := by decide +kernel
theorem dX10_find_67 : decode cX10_find 67 = .ok (.iinc 5 1, 3) := by decide +kernel
theorem dX10_find_70 : decode cX10_find 70 = .ok (.goto (-51), 3) := by decide +kernel
theorem dX10_find_73 : decode cX10_find 73 = .ok (.iload_n 2, 1) := by decide +kernel
theorem dX10_find_74 : decode cX10_find 74 = .ok (.ifCond .ne 17, 3) := by decide +kernel
theorem dX10_find_77 : decode cX10_find 77 = .ok (.iload 4, 2) := by decide +kernel
theorem dX10_find_79 : decode cX10_find 79 = .ok (.aload_n 0, 1) := by decide +kernel
theorem dX10_find_80 : decode cX10_find 80 = .ok (.getfield 49, 3) := by decide +kernel
theorem dX10_find_83 : decode cX10_find 83 = .ok (.if_icmp .ge 8, 3) := by decide +kernel
theorem dX10_find_86 : decode cX10_find 86 = .ok (.iload 4, 2) := by decide +kernel
theorem dX10_find_88 : decode cX10_find 88 = .ok (.goto 4, 3) := by decide +kernel
theorem dX10_find_91 : decode cX10_find 91 = .ok (.iconst (-1), 1) := by decide +kernel
theorem dX10_find_92 : decode cX10_find 92 = .ok (.ireturn, 1) := by decide +kernel
set_option maxHeartbeats 4000000 in
set_option maxRecDepth 100000 in
theorem cn_X10_find {l : Launch} {cA : Nat → ClassId} {ad : Nat → Nat} {D : va_G} {E : Nat → Nat} {A : Nat → Prop} {x1 : Int32} {s0 sr : SS} {rr : Int32} (hf : f_X10_find x1 s0 = some (rr, sr)) : zCon Ox Nx cA ad D E l yX10_find cX10_find 6 (some .int) 0 A [.ref (ad 6), .int x1] s0 (some (.int rr)) sr := by
  refine zstart (own := RX10) hOx (by decide) rfl (Nat.le_of_ble_eq_true rfl) ?_
  intro p e s m args below meth c X hP ls hl
  have hx := X.1
  have hb := X.2.1
  have hl : lv_has ls 6 [(0, .ref (ad 6)), (1, .int x1)] := hl
  have hS : va_S A s.heap s.heap [] := va_S.rf
  have hc_19 : ∀ (n19 : Nat) (x2 : Int32) (x3 : Int32) (x4 : Int32) (x5 : Int32) (s1 : SS) (H : Heap) (locs : List Loc) (ls : Array Slot), lv_has ls 6 [(0, .ref (ad 6)), (2, .int x2), (3, .int x3), (4, .int x4), (5, .int x5)] → va_P D ZCL (zw Ox Nx cA ad s1) H → va_S A s.heap H locs → f_X10_find_c19 n19 x2 x3 x4 x5 s1 = some (rr, sr) → W p l e (zrm 0) s m args below meth c H locs 0 0 (MQ below (zQc Ox Nx cA ad D A (some (.int rr)) sr) args s 0 0 A) (F0 m 19 ls []) := by
    intro n19
    induction n19 with
    | zero =>
      intro x2 x3 x4 x5 s1 H locs ls hl hP hS hf
      rw [f_X10_find_c19] at hf
      cases hf
    | succ n19 ih19 =>
      intro x2 x3 x4 x5 s1 H locs ls hl hP hS hf
      rw [f_X10_find_c19] at hf
      refine lv_iload hx hb dX10_find_19 (lv_at hl 4 rfl) ?_
      refine lv_aload_n hx hb dX10_find_21 rfl (lv_at hl 0 rfl) ?_
      refine gf_X10_46 X hP (k := 6) rfl dX10_find_22 ?_
      refine zicmp_ge (tgt := 73) hx hb dX10_find_25 (by decide) hf (fun hf => ?_) (fun hf => ?_)
      · refine lv_iload_n hx hb dX10_find_73 rfl (lv_at hl 1 rfl) ?_
        refine zif_ne (tgt := 91) hx hb dX10_find_74 (by decide) hf (fun hf => ?_) (fun hf => ?_)
        · refine lv_iconst (v := (-1)) hx hb dX10_find_91 (by decide) ?_
          exact zret_i X hP hS hf rfl dX10_find_92
        · refine lv_iload hx hb dX10_find_77 (lv_at hl 3 rfl) ?_
          refine lv_aload_n hx hb dX10_find_79 rfl (lv_at hl 0 rfl) ?_
          refine gf_X10_49 X hP (k := 6) rfl dX10_find_80 ?_
          refine zicmp_ge (tgt := 91) hx hb dX10_find_83 (by decide) hf (fun hf => ?_) (fun hf => ?_)
          · refine lv_iconst (v := (-1)) hx hb dX10_find_91 (by decide) ?_
            exact zret_i X hP hS hf rfl dX10_find_92
          · refine lv_iload hx hb dX10_find_86 (lv_at hl 3 rfl) ?_
            refine lv_goto (tgt := 92) hx hb dX10_find_88 (by decide) ?_
            exact zret_i X hP hS hf rfl dX10_find_92
      · refine lv_iload_n hx hb dX10_find_28 rfl (lv_at hl 2 rfl) ?_
        refine lv_iload_n hx hb dX10_find_29 rfl (lv_at hl 1 rfl) ?_
        refine lv_bipush (v := 10) hx hb dX10_find_30 (by decide) ?_
        refine lv_irem hx hb dX10_find_32 (by decide) ?_
        refine lv_isub hx hb dX10_find_33 ?_
        refine lv_istore_n (lv' := [(3, .int (x3 - (x2 - x2 / (10 : Int32) * (10 : Int32)))), (0, .ref (ad 6)), (2, .int x2), (4, .int x4), (5, .int x5)]) hx hb dX10_find_34 rfl hl (by decide) rfl (fun ls hl => ?_)
        refine lv_iload_n hx hb dX10_find_35 rfl (lv_at hl 2 rfl) ?_
        refine lv_bipush (v := 10) hx hb dX10_find_36 (by decide) ?_
        refine lv_idiv hx hb dX10_find_38 (by decide) ?_
        refine lv_istore_n (lv' := [(2, .int (x2 / (10 : Int32))), (3, .int (x3 - (x2 - x2 / (10 : Int32) * (10 : Int32)))), (0, .ref (ad 6)), (4, .int x4), (5, .int x5)]) hx hb dX10_find_39 rfl hl (by decide) rfl (fun ls hl => ?_)
        refine lv_iload_n hx hb dX10_find_40 rfl (lv_at hl 1 rfl) ?_
        refine zif_ge (tgt := 46) hx hb dX10_find_41 (by decide) hf (fun hf => ?_) (fun hf => ?_)
        · refine lv_iload hx hb dX10_find_46 (lv_at hl 3 rfl) ?_
          refine zgsN X hS (i := 1) rfl nf_X10_81 dX10_find_48 ?_
          refine lv_bipush (v := 6) hx hb dX10_find_51 (by decide) ?_
          refine lv_aload_n hx hb dX10_find_53 rfl (lv_at hl 2 rfl) ?_
          refine gf_X10_46 X hP (k := 6) rfl dX10_find_54 ?_
          refine lv_iload hx hb dX10_find_57 (lv_at hl 4 rfl) ?_
          refine lv_isub hx hb dX10_find_59 ?_
          refine lv_imul hx hb dX10_find_60 ?_
          refine lv_iload_n hx hb dX10_find_61 rfl (lv_at hl 1 rfl) ?_
          refine lv_iadd hx hb dX10_find_62 ?_
          obtain ⟨g1, hf⟩ := zgd hf
          refine zst X hS (k := 1) (n := 42) rfl rfl g1 dX10_find_63 ?_
          refine lv_iadd hx hb dX10_find_64 ?_
          refine lv_istore (lv' := [(4, .int (x4 + (ztab 1 ((((6 : Int32) * ((s1.1 6 1) - x5)) + (x3 - (x2 - x2 / (10 : Int32) * (10 : Int32)))))))), (2, .int (x2 / (10 : Int32))), (3, .int (x3 - (x2 - x2 / (10 : Int32) * (10 : Int32)))), (0, .ref (ad 6)), (5, .int x5)]) hx hb dX10_find_65 hl (by decide) rfl (fun ls hl => ?_)
          refine lv_iinc (v := (x5 + 1)) (lv' := [(5, .int (x5 + 1)), (4, .int (x4 + (ztab 1 ((((6 : Int32) * ((s1.1 6 1) - x5)) + (x3 - (x2 - x2 / (10 : Int32) * (10 : Int32)))))))), (2, .int (x2 / (10 : Int32))), (3, .int (x3 - (x2 - x2 / (10 : Int32) * (10 : Int32)))), (0, .ref (ad 6))]) hx hb dX10_find_67 hl (k := 4) rfl rfl (by decide) rfl (fun ls hl => ?_)
          refine lv_goto (tgt := 19) hx hb dX10_find_70 (by decide) ?_
          exact ih19 (x2 / (10 : Int32)) (x3 - (x2 - x2 / (10 : Int32) * (10 : Int32))) (x4 + (ztab 1 ((((6 : Int32) * ((s1.1 6 1) - x5)) + (x3 - (x2 - x2 / (10 : Int32) * (10 : Int32))))))) (x5 + 1) s1 _ _ _ (lv_sub hl [4, 2, 3, 1, 0] rfl) hP hS hf
        · refine lv_iconst (v := (-1)) hx hb dX10_find_44 (by decide) ?_
          exact zret_i X hP hS hf rfl dX10_find_45
  rw [f_X10_find] at hf
  refine lv_iload_n hx hb dX10_find_0 rfl (lv_at hl 1 rfl) ?_
  refine zif_ge (tgt := 6) hx hb dX10_find_1 (by decide) hf (fun hf => ?_) (fun hf => ?_)
  · refine lv_iload_n hx hb dX10_find_6 rfl (lv_at hl 1 rfl) ?_
    refine lv_istore_n (lv' := [(2, .int x1), (0, .ref (ad 6)), (1, .int x1)]) hx hb dX10_find_7 rfl hl (by decide) rfl (fun ls hl => ?_)
    refine lv_aload_n hx hb dX10_find_8 rfl (lv_at hl 1 rfl) ?_
    refine gf_X10_39 X hP (k := 6) rfl dX10_find_9 ?_
    refine lv_istore_n (lv' := [(3, .int (s0.1 6 0)), (2, .int x1), (0, .ref (ad 6)), (1, .int x1)]) hx hb dX10_find_12 rfl hl (by decide) rfl (fun ls hl => ?_)
    refine lv_iconst (v := 0) hx hb dX10_find_13 (by decide) ?_
    refine lv_istore (lv' := [(4, .int 0), (3, .int (s0.1 6 0)), (2, .int x1), (0, .ref (ad 6)), (1, .int x1)]) hx hb dX10_find_14 hl (by decide) rfl (fun ls hl => ?_)
    refine lv_iconst (v := 0) hx hb dX10_find_16 (by decide) ?_
    refine lv_istore (lv' := [(5, .int 0), (4, .int 0), (3, .int (s0.1 6 0)), (2, .int x1), (0, .ref (ad 6)), (1, .int x1)]) hx hb dX10_find_17 hl (by decide) rfl (fun ls hl => ?_)
    exact hc_19 ZF x1 (s0.1 6 0) 0 0 s0 _ _ _ (lv_sub hl [4, 3, 2, 1, 0] rfl) hP hS hf
  · refine lv_iconst (v := (-1)) hx hb dX10_find_4 (by decide) ?_
    exact zret_i X hP hS hf rfl dX10_find_5
theorem dX8_putAtLetter_0 : decode cX8_putAtLetter 0 = .ok (.iload_n 2, 1) := by decide +kernel
theorem dX8_putAtLetter_1 : decode cX8_putAtLetter 1 = .ok (.ifCond .lt 14, 3) := by decide +kernel
theorem dX8_putAtLetter_4 : decode cX8_putAtLetter 4 = .ok (.iload_n 2, 1) := by decide +kernel
theorem dX8_putAtLetter_5 : decode cX8_putAtLetter 5 = .ok (.aload_n 0, 1) := by decide +kernel
theorem dX8_putAtLetter_6 : decode cX8_putAtLetter 6 = .ok (.getfield 10, 3) := by decide +kernel
theorem dX8_putAtLetter_9 : decode cX8_putAtLetter 9 = .ok (.getfield 46, 3) := by decide +kernel
theorem dX8_putAtLetter_12 : decode cX8_putAtLetter 12 = .ok (.if_icmp .lt 7, 3) := by decide +kernel
theorem dX8_putAtLetter_15 : decode cX8_putAtLetter 15 = .ok (.iconst (-1), 1) := by decide +kernel
theorem dX8_putAtLetter_16 : decode cX8_putAtLetter 16 = .ok (.goto 15, 3) := by decide +kernel
theorem dX8_putAtLetter_19 : decode cX8_putAtLetter 19 = .ok (.aload_n 0, 1) := by decide +kernel
theorem dX8_putAtLetter_20 : decode cX8_putAtLetter 20 = .ok (.getfield 10, 3) := by decide +kernel
theorem dX8_putAtLetter_23 : decode cX8_putAtLetter 23 = .ok (.getstatic 49, 3) := by decide +kernel
theorem dX8_putAtLetter_26 : decode cX8_putAtLetter 26 = .ok (.iload_n 2, 1) := by decide +kernel
theorem dX8_putAtLetter_27 : decode cX8_putAtLetter 27 = .ok (.iaload, 1) := by decide +kernel
theorem dX8_putAtLetter_28 : decode cX8_putAtLetter 28 = .ok (.invokevirtual 54, 3) := by decide +kernel
theorem dX8_putAtLetter_31 : decode cX8_putAtLetter 31 = .ok (.istore 5, 2) := by decide +kernel
theorem dX8_putAtLetter_33 : decode cX8_putAtLetter 33 = .ok (.iload 5, 2) := by decide +kernel
theorem dX8_putAtLetter_35 : decode cX8_putAtLetter 35 = .ok (.ifCond .lt 8, 3) := by decide +kernel
theorem dX8_putAtLetter_38 : decode cX8_putAtLetter 38 = .ok (.aload_n 1, 1) := by decide +kernel
theorem dX8_putAtLetter_39 : decode cX8_putAtLetter 39 = .ok (.iload 5, 2) := by decide +kernel
theorem dX8_putAtLetter_41 : decode cX8_putAtLetter 41 = .ok (.lload_n 3, 1) := by decide +kernel
theorem dX8_putAtLetter_42 : decode cX8_putAtLetter 42 = .ok (.lastore, 1) := by decide +kernel
theorem dX8_putAtLetter_43 : decode cX8_putAtLetter 43 = .ok (.return_, 1) := by decide +kernel
set_option maxHeartbeats 4000000 in
set_option maxRecDepth 100000 in
theorem cn_X8_putAtLetter {l : Launch} {cA : Nat → ClassId} {ad : Nat → Nat} {D : va_G} {E : Nat → Nat} {A : Nat → Prop} {k1 : Nat} {x2 : Int32} {x3 : Int64} {s0 sr : SS} {rr : Unit} (hf : f_X8_putAtLetter k1 x2 x3 s0 = some (rr, sr)) : zCon Ox Nx cA ad D E l yX8_putAtLetter cX8_putAtLetter 6 none 1 A [.ref (ad 5), .ref (ad k1), .int x2, .long x3] s0 none sr := by
  refine zstart (own := RX8) hOx (by decide) rfl (Nat.le_of_ble_eq_true rfl) ?_
  intro p e s m args below meth c X hP ls hl
  have hx := X.1
  have hb := X.2.1
  have hl : lv_has ls 6 [(0, .ref (ad 5)), (1, .ref (ad k1)), (2, .int x2), (3, .long x3)] := hl
  have hS : va_S A s.heap s.heap [] := va_S.rf
  have hc_31 : ∀ (k1 : Nat) (x3 : Int64) (t0 : Int32) (s1 : SS) (H : Heap) (locs : List Loc) (ls : Array Slot), lv_has ls 6 [(1, .ref (ad k1)), (3, .long x3)] → va_P D ZCL (zw Ox Nx cA ad s1) H → va_S A s.heap H locs → f_X8_putAtLetter_c31 k1 x3 t0 s1 = some (rr, sr) → W p l e (zrm 1) s m args below meth c H locs 0 0 (MQ below (zQc Ox Nx cA ad D A none sr) args s 0 0 A) (F0 m 31 ls [.int t0]) := by
    intro k1 x3 t0 s1 H locs ls hl hP hS hf
    rw [f_X8_putAtLetter_c31] at hf
    refine lv_istore (lv' := [(5, .int t0), (1, .ref (ad k1)), (3, .long x3)]) hx hb dX8_putAtLetter_31 hl (by decide) rfl (fun ls hl => ?_)
    refine lv_iload hx hb dX8_putAtLetter_33 (lv_at hl 0 rfl) ?_
    refine zif_lt (tgt := 43) hx hb dX8_putAtLetter_35 (by decide) hf (fun hf => ?_) (fun hf => ?_)
    · exact zret_v X hP hS hf dX8_putAtLetter_43
    · refine lv_aload_n hx hb dX8_putAtLetter_38 rfl (lv_at hl 1 rfl) ?_
      refine lv_iload hx hb dX8_putAtLetter_39 (lv_at hl 0 rfl) ?_
      refine lv_lload_n hx hb dX8_putAtLetter_41 rfl (lv_at hl 2 rfl) ?_
      obtain ⟨g1, hf⟩ := zgd hf
      obtain ⟨n2, rn2, on2, in2⟩ := zok_of g1
      refine zast_l X hP hS (k := k1) on2 in2 dX8_putAtLetter_42 (fun H locs hP hS => ?_)
      exact zret_v X hP hS hf dX8_putAtLetter_43
  have hc_15 : ∀ (k1 : Nat) (x3 : Int64) (s1 : SS) (H : Heap) (locs : List Loc) (ls : Array Slot), lv_has ls 6 [(1, .ref (ad k1)), (3, .long x3)] → va_P D ZCL (zw Ox Nx cA ad s1) H → va_S A s.heap H locs → f_X8_putAtLetter_c15 k1 x3 s1 = some (rr, sr) → W p l e (zrm 1) s m args below meth c H locs 0 0 (MQ below (zQc Ox Nx cA ad D A none sr) args s 0 0 A) (F0 m 15 ls []) := by
    intro k1 x3 s1 H locs ls hl hP hS hf
    rw [f_X8_putAtLetter_c15] at hf
    refine lv_iconst (v := (-1)) hx hb dX8_putAtLetter_15 (by decide) ?_
    refine lv_goto (tgt := 31) hx hb dX8_putAtLetter_16 (by decide) ?_
    exact hc_31 k1 x3 (-1) s1 _ _ _ (lv_sub hl [0, 1] rfl) hP hS hf
  rw [f_X8_putAtLetter] at hf
  refine lv_iload_n hx hb dX8_putAtLetter_0 rfl (lv_at hl 2 rfl) ?_
  refine zif_lt (tgt := 15) hx hb dX8_putAtLetter_1 (by decide) hf (fun hf => ?_) (fun hf => ?_)
  · exact hc_15 k1 x3 s0 _ _ _ (lv_sub hl [1, 3] rfl) hP hS hf
  · refine lv_iload_n hx hb dX8_putAtLetter_4 rfl (lv_at hl 2 rfl) ?_
    refine lv_aload_n hx hb dX8_putAtLetter_5 rfl (lv_at hl 0 rfl) ?_
    refine gf_X8_10 X hP (k := 5) (q := 6) rfl dX8_putAtLetter_6 rfl ?_
    refine gf_X8_46 X hP (k := 6) rfl dX8_putAtLetter_9 ?_
    refine zicmp_lt (tgt := 19) hx hb dX8_putAtLetter_12 (by decide) hf (fun hf => ?_) (fun hf => ?_)
    · refine lv_aload_n hx hb dX8_putAtLetter_19 rfl (lv_at hl 0 rfl) ?_
      refine gf_X8_10 X hP (k := 5) (q := 6) rfl dX8_putAtLetter_20 rfl ?_
      refine zgsN X hS (i := 0) rfl nf_X8_49 dX8_putAtLetter_23 ?_
      refine lv_iload_n hx hb dX8_putAtLetter_26 rfl (lv_at hl 2 rfl) ?_
      obtain ⟨g3, hf⟩ := zgd hf
      refine zst X hS (k := 0) (n := 6) rfl rfl g3 dX8_putAtLetter_27 ?_
      obtain ⟨r4, s5, h6, hf⟩ := zbd_some hf
      refine zcallV X hP hS hl.1 (k := 6) (As := [.int (ztab 0 x2)]) (rest := []) (cn_X10_find h6) cw_X10_find zp_10 rfl (by decide) rfl ml_X8_54 (by decide) rfl rfl (Nat.le_of_ble_eq_true rfl) dX8_putAtLetter_28 (fun H locs hP hS => ?_)
      exact hc_31 k1 x3 r4 s5 _ _ _ (lv_sub hl [1, 3] rfl) hP hS hf
    · exact hc_15 k1 x3 s0 _ _ _ (lv_sub hl [1, 3] rfl) hP hS hf
theorem dX8_takeNumbers_0 : decode cX8_takeNumbers 0 = .ok (.iconst 0, 1) := by decide +kernel
theorem dX8_takeNumbers_1 : decode cX8_takeNumbers 1 = .ok (.istore_n 3, 1) := by decide +kernel
theorem dX8_takeNumbers_2 : decode cX8_takeNumbers 2 = .ok (.iload_n 3, 1) := by decide +kernel
theorem dX8_takeNumbers_3 : decode cX8_takeNumbers 3 = .ok (.aload_n 0, 1) := by decide +kernel
theorem dX8_takeNumbers_4 : decode cX8_takeNumbers 4 = .ok (.getfield 10, 3) := by decide +kernel
theorem dX8_takeNumbers_7 : decode cX8_takeNumbers 7 = .ok (.getfield 42, 3) := by decide +kernel
theorem dX8_takeNumbers_10 : decode cX8_takeNumbers 10 = .ok (.if_icmp .ge 21, 3) := by decide +kernel
theorem dX8_takeNumbers_13 : decode cX8_takeNumbers 13 = .ok (.aload_n 2, 1) := by decide +kernel
theorem dX8_takeNumbers_14 : decode cX8_takeNumbers 14 = .ok (.iload_n 3, 1) := by decide +kernel
theorem dX8_takeNumbers_15 : decode cX8_takeNumbers 15 = .ok (.aload_n 1, 1) := by decide +kernel
theorem dX8_takeNumbers_16 : decode cX8_takeNumbers 16 = .ok (.aload_n 0, 1) := by decide +kernel
theorem dX8_takeNumbers_17 : decode cX8_takeNumbers 17 = .ok (.getfield 10, 3) := by decide +kernel
theorem dX8_takeNumbers_20 : decode cX8_takeNumbers 20 = .ok (.iload_n 3, 1) := by decide +kernel
theorem dX8_takeNumbers_21 : decode cX8_takeNumbers 21 = .ok (.invokevirtual 58, 3) := by decide +kernel
theorem dX8_takeNumbers_24 : decode cX8_takeNumbers 24 = .ok (.lastore, 1) := by decide +kernel
theorem dX8_takeNumbers_25 : decode cX8_takeNumbers 25 = .ok (.iinc 3 1, 3) := by decide +kernel
theorem dX8_takeNumbers_28 : decode cX8_takeNumbers 28 = .ok (.goto (-26), 3) := by decide +kernel
theorem dX8_takeNumbers_31 : decode cX8_takeNumbers 31 = .ok (.return_, 1) := by decide +kernel
set_option maxHeartbeats 4000000 in
set_option maxRecDepth 100000 in
theorem cn_X8_takeNumbers {l : Launch} {cA : Nat → ClassId} {ad : Nat → Nat} {D : va_G} {E : Nat → Nat} {A : Nat → Prop} {k1 : Nat} {k2 : Nat} {s0 sr : SS} {rr : Unit} (hf : f_X8_takeNumbers k1 k2 s0 = some (rr, sr)) : zCon Ox Nx cA ad D E l yX8_takeNumbers cX8_takeNumbers 4 none 1 A [.ref (ad 5), .ref (ad k1), .ref (ad k2)] s0 none sr := by
  refine zstart (own := RX8) hOx (by decide) rfl (Nat.le_of_ble_eq_true rfl) ?_
  intro p e s m args below meth c X hP ls hl
  have hx := X.1
  have hb := X.2.1
  have hl : lv_has ls 4 [(0, .ref (ad 5)), (1, .ref (ad k1)), (2, .ref (ad k2))] := hl
  have hS : va_S A s.heap s.heap [] := va_S.rf
  have hc_2 : ∀ (n2 : Nat) (k1 : Nat) (k2 : Nat) (x3 : Int32) (s1 : SS) (H : Heap) (locs : List Loc) (ls : Array Slot), lv_has ls 4 [(0, .ref (ad 5)), (1, .ref (ad k1)), (2, .ref (ad k2)), (3, .int x3)] → va_P D ZCL (zw Ox Nx cA ad s1) H → va_S A s.heap H locs → f_X8_takeNumbers_c2 n2 k1 k2 x3 s1 = some (rr, sr) → W p l e (zrm 1) s m args below meth c H locs 0 0 (MQ below (zQc Ox Nx cA ad D A none sr) args s 0 0 A) (F0 m 2 ls []) := by
    intro n2
    induction n2 with
    | zero =>
      intro k1 k2 x3 s1 H locs ls hl hP hS hf
      rw [f_X8_takeNumbers_c2] at hf
      cases hf
    | succ n2 ih2 =>
      intro k1 k2 x3 s1 H locs ls hl hP hS hf
      rw [f_X8_takeNumbers_c2] at hf
      obtain ⟨gp1, hf⟩ := zgd hf
      refine lv_iload_n hx hb dX8_takeNumbers_2 rfl (lv_at hl 3 rfl) ?_
      refine lv_aload_n hx hb dX8_takeNumbers_3 rfl (lv_at hl 0 rfl) ?_
      refine gf_X8_10 X hP (k := 5) (q := 6) rfl dX8_takeNumbers_4 rfl ?_
      refine gf_X8_42 X hP (k := 6) rfl dX8_takeNumbers_7 ?_
      refine zicmp_ge (tgt := 31) hx hb dX8_takeNumbers_10 (by decide) hf (fun hf => ?_) (fun hf => ?_)
      · exact zret_v X hP hS hf dX8_takeNumbers_31
      · refine lv_aload_n hx hb dX8_takeNumbers_13 rfl (lv_at hl 2 rfl) ?_
        refine lv_iload_n hx hb dX8_takeNumbers_14 rfl (lv_at hl 3 rfl) ?_
        refine lv_aload_n hx hb dX8_takeNumbers_15 rfl (lv_at hl 1 rfl) ?_
        refine lv_aload_n hx hb dX8_takeNumbers_16 rfl (lv_at hl 0 rfl) ?_
        refine gf_X8_10 X hP (k := 5) (q := 6) rfl dX8_takeNumbers_17 rfl ?_
        refine lv_iload_n hx hb dX8_takeNumbers_20 rfl (lv_at hl 3 rfl) ?_
        obtain ⟨r1, s2, h3, hf⟩ := zbd_some hf
        refine zcallV X hP hS hl.1 (k := k1) (As := [.ref (ad 6), .int x3]) (rest := [.int x3, .ref (ad k2)]) (cn_X4_numberAt h3) cw_X4_numberAt zp_4 gp1 (by decide) rfl ml_X8_58 (by decide) rfl rfl (Nat.le_of_ble_eq_true rfl) dX8_takeNumbers_21 (fun H locs hP hS => ?_)
        obtain ⟨g4, hf⟩ := zgd hf
        obtain ⟨n5, rn5, on5, in5⟩ := zok_of g4
        refine zast_l X hP hS (k := k2) on5 in5 dX8_takeNumbers_24 (fun H locs hP hS => ?_)
        refine lv_iinc (v := (x3 + 1)) (lv' := [(3, .int (x3 + 1)), (0, .ref (ad 5)), (1, .ref (ad k1)), (2, .ref (ad k2))]) hx hb dX8_takeNumbers_25 hl (k := 3) rfl rfl (by decide) rfl (fun ls hl => ?_)
        refine lv_goto (tgt := 2) hx hb dX8_takeNumbers_28 (by decide) ?_
        exact ih2 k1 k2 (x3 + 1) (zSL s2 k2 (x3).toNatClampNeg r1) _ _ _ (lv_sub hl [1, 2, 3, 0] rfl) hP hS hf
  rw [f_X8_takeNumbers] at hf
  obtain ⟨gp1, hf⟩ := zgd hf
  refine lv_iconst (v := 0) hx hb dX8_takeNumbers_0 (by decide) ?_
  refine lv_istore_n (lv' := [(3, .int 0), (0, .ref (ad 5)), (1, .ref (ad k1)), (2, .ref (ad k2))]) hx hb dX8_takeNumbers_1 rfl hl (by decide) rfl (fun ls hl => ?_)
  exact hc_2 ZF k1 k2 0 s0 _ _ _ (lv_sub hl [1, 2, 3, 0] rfl) hP hS hf
theorem dX8_addTimes_0 : decode cX8_addTimes 0 = .ok (.iconst 0, 1) := by decide +kernel
theorem dX8_addTimes_1 : decode cX8_addTimes 1 = .ok (.istore 5, 2) := by decide +kernel
theorem dX8_addTimes_3 : decode cX8_addTimes 3 = .ok (.iload 5, 2) := by decide +kernel
theorem dX8_addTimes_5 : decode cX8_addTimes 5 = .ok (.aload_n 0, 1) := by decide +kernel
theorem dX8_addTimes_6 : decode cX8_addTimes 6 = .ok (.getfield 10, 3) := by decide +kernel
theorem dX8_addTimes_9 : decode cX8_addTimes 9 = .ok (.getfield 42, 3) := by decide +kernel
theorem dX8_addTimes_12 : decode cX8_addTimes 12 = .ok (.if_icmp .ge 22, 3) := by decide +kernel
theorem dX8_addTimes_15 : decode cX8_addTimes 15 = .ok (.aload_n 1, 1) := by decide +kernel
theorem dX8_addTimes_16 : decode cX8_addTimes 16 = .ok (.iload 5, 2) := by decide +kernel
theorem dX8_addTimes_18 : decode cX8_addTimes 18 = .ok (.dup2, 1) := by decide +kernel
theorem dX8_addTimes_19 : decode cX8_addTimes 19 = .ok (.laload, 1) := by decide +kernel
theorem dX8_addTimes_20 : decode cX8_addTimes 20 = .ok (.aload_n 2, 1) := by decide +kernel
theorem dX8_addTimes_21 : decode cX8_addTimes 21 = .ok (.iload 5, 2) := by decide +kernel
theorem dX8_addTimes_23 : decode cX8_addTimes 23 = .ok (.laload, 1) := by decide +kernel
theorem dX8_addTimes_24 : decode cX8_addTimes 24 = .ok (.lload_n 3, 1) := by decide +kernel
theorem dX8_addTimes_25 : decode cX8_addTimes 25 = .ok (.lmul, 1) := by decide +kernel
theorem dX8_addTimes_26 : decode cX8_addTimes 26 = .ok (.ladd, 1) := by decide +kernel
theorem dX8_addTimes_27 : decode cX8_addTimes 27 = .ok (.lastore, 1) := by decide +kernel
theorem dX8_addTimes_28 : decode cX8_addTimes 28 = .ok (.iinc 5 1, 3) := by decide +kernel
theorem dX8_addTimes_31 : decode cX8_addTimes 31 = .ok (.goto (-28), 3) := by decide +kernel
theorem dX8_addTimes_34 : decode cX8_addTimes 34 = .ok (.return_, 1) := by decide +kernel
set_option maxHeartbeats 4000000 in
set_option maxRecDepth 100000 in
theorem cn_X8_addTimes {l : Launch} {cA : Nat → ClassId} {ad : Nat → Nat} {D : va_G} {E : Nat → Nat} {A : Nat → Prop} {k1 : Nat} {k2 : Nat} {x3 : Int64} {s0 sr : SS} {rr : Unit} (hf : f_X8_addTimes k1 k2 x3 s0 = some (rr, sr)) : zCon Ox Nx cA ad D E l yX8_addTimes cX8_addTimes 6 none 0 A [.ref (ad 5), .ref (ad k1), .ref (ad k2), .long x3] s0 none sr := by
  refine zstart (own := RX8) hOx (by decide) rfl (Nat.le_of_ble_eq_true rfl) ?_
  intro p e s m args below meth c X hP ls hl
  have hx := X.1
  have hb := X.2.1
  have hl : lv_has ls 6 [(0, .ref (ad 5)), (1, .ref (ad k1)), (2, .ref (ad k2)), (3, .long x3)] := hl
  have hS : va_S A s.heap s.heap [] := va_S.rf
  have hc_3 : ∀ (n3 : Nat) (k1 : Nat) (k2 : Nat) (x3 : Int64) (x5 : Int32) (s1 : SS) (H : Heap) (locs : List Loc) (ls : Array Slot), lv_has ls 6 [(0, .ref (ad 5)), (1, .ref (ad k1)), (2, .ref (ad k2)), (3, .long x3), (5, .int x5)] → va_P D ZCL (zw Ox Nx cA ad s1) H → va_S A s.heap H locs → f_X8_addTimes_c3 n3 k1 k2 x3 x5 s1 = some (rr, sr) → W p l e (zrm 0) s m args below meth c H locs 0 0 (MQ below (zQc Ox Nx cA ad D A none sr) args s 0 0 A) (F0 m 3 ls []) := by
    intro n3
    induction n3 with
    | zero =>
      intro k1 k2 x3 x5 s1 H locs ls hl hP hS hf
      rw [f_X8_addTimes_c3] at hf
      cases hf
    | succ n3 ih3 =>
      intro k1 k2 x3 x5 s1 H locs ls hl hP hS hf
      rw [f_X8_addTimes_c3] at hf
      refine lv_iload hx hb dX8_addTimes_3 (lv_at hl 4 rfl) ?_
      refine lv_aload_n hx hb dX8_addTimes_5 rfl (lv_at hl 0 rfl) ?_
      refine gf_X8_10 X hP (k := 5) (q := 6) rfl dX8_addTimes_6 rfl ?_
      refine gf_X8_42 X hP (k := 6) rfl dX8_addTimes_9 ?_
      refine zicmp_ge (tgt := 34) hx hb dX8_addTimes_12 (by decide) hf (fun hf => ?_) (fun hf => ?_)
      · exact zret_v X hP hS hf dX8_addTimes_34
      · refine lv_aload_n hx hb dX8_addTimes_15 rfl (lv_at hl 1 rfl) ?_
        refine lv_iload hx hb dX8_addTimes_16 (lv_at hl 4 rfl) ?_
        refine lv_dup2_11 hx hb dX8_addTimes_18 rfl rfl ?_
        obtain ⟨g1, hf⟩ := zgd hf
        obtain ⟨n6, rn6, on6, in6⟩ := zok_of g1
        refine zald_l X hP (k := k1) on6 in6 dX8_addTimes_19 ?_
        refine lv_aload_n hx hb dX8_addTimes_20 rfl (lv_at hl 2 rfl) ?_
        refine lv_iload hx hb dX8_addTimes_21 (lv_at hl 4 rfl) ?_
        obtain ⟨g2, hf⟩ := zgd hf
        obtain ⟨n5, rn5, on5, in5⟩ := zok_of g2
        refine zald_l X hP (k := k2) on5 in5 dX8_addTimes_23 ?_
        refine lv_lload_n hx hb dX8_addTimes_24 rfl (lv_at hl 3 rfl) ?_
        refine lv_lmul hx hb dX8_addTimes_25 ?_
        refine lv_ladd hx hb dX8_addTimes_26 ?_
        obtain ⟨g3, hf⟩ := zgd hf
        obtain ⟨n4, rn4, on4, in4⟩ := zok_of g3
        refine zast_l X hP hS (k := k1) on4 in4 dX8_addTimes_27 (fun H locs hP hS => ?_)
        refine lv_iinc (v := (x5 + 1)) (lv' := [(5, .int (x5 + 1)), (0, .ref (ad 5)), (1, .ref (ad k1)), (2, .ref (ad k2)), (3, .long x3)]) hx hb dX8_addTimes_28 hl (k := 4) rfl rfl (by decide) rfl (fun ls hl => ?_)
        refine lv_goto (tgt := 3) hx hb dX8_addTimes_31 (by decide) ?_
        exact ih3 k1 k2 x3 (x5 + 1) (zSL s1 k1 (x5).toNatClampNeg (((s1.2 k1 (x5).toNatClampNeg) + ((s1.2 k2 (x5).toNatClampNeg) * x3)))) _ _ _ (lv_sub hl [1, 2, 3, 4, 0] rfl) hP hS hf
  rw [f_X8_addTimes] at hf
  refine lv_iconst (v := 0) hx hb dX8_addTimes_0 (by decide) ?_
  refine lv_istore (lv' := [(5, .int 0), (0, .ref (ad 5)), (1, .ref (ad k1)), (2, .ref (ad k2)), (3, .long x3)]) hx hb dX8_addTimes_1 hl (by decide) rfl (fun ls hl => ?_)
  exact hc_3 ZF k1 k2 x3 0 s0 _ _ _ (lv_sub hl [1, 2, 3, 4, 0] rfl) hP hS hf
theorem dX8_keepSize_0 : decode cX8_keepSize 0 = .ok (.iconst 0, 1) := by decide +kernel
theorem dX8_keepSize_1 : decode cX8_keepSize 1 = .ok (.istore_n 3, 1) := by decide +kernel
theorem dX8_keepSize_2 : decode cX8_keepSize 2 = .ok (.iload_n 3, 1) := by decide +kernel
theorem dX8_keepSize_3 : decode cX8_keepSize 3 = .ok (.aload_n 0, 1) := by decide +kernel
theorem dX8_keepSize_4 : decode cX8_keepSize 4 = .ok (.getfield 10, 3) := by decide +kernel
theorem dX8_keepSize_7 : decode cX8_keepSize 7 = .ok (.getfield 42, 3) := by decide +kernel
theorem dX8_keepSize_10 : decode cX8_keepSize 10 = .ok (.if_icmp .ge 32, 3) := by decide +kernel
theorem dX8_keepSize_13 : decode cX8_keepSize 13 = .ok (.aload_n 1, 1) := by decide +kernel
theorem dX8_keepSize_14 : decode cX8_keepSize 14 = .ok (.iload_n 3, 1) := by decide +kernel
theorem dX8_keepSize_15 : decode cX8_keepSize 15 = .ok (.aload_n 0, 1) := by decide +kernel
theorem dX8_keepSize_16 : decode cX8_keepSize 16 = .ok (.getfield 10, 3) := by decide +kernel
theorem dX8_keepSize_19 : decode cX8_keepSize 19 = .ok (.getfield 64, 3) := by decide +kernel
theorem dX8_keepSize_22 : decode cX8_keepSize 22 = .ok (.iload_n 3, 1) := by decide +kernel
theorem dX8_keepSize_23 : decode cX8_keepSize 23 = .ok (.iaload, 1) := by decide +kernel
theorem dX8_keepSize_24 : decode cX8_keepSize 24 = .ok (.iload_n 2, 1) := by decide +kernel
theorem dX8_keepSize_25 : decode cX8_keepSize 25 = .ok (.if_icmp .ne 9, 3) := by decide +kernel
theorem dX8_keepSize_28 : decode cX8_keepSize 28 = .ok (.aload_n 1, 1) := by decide +kernel
theorem dX8_keepSize_29 : decode cX8_keepSize 29 = .ok (.iload_n 3, 1) := by decide +kernel
theorem dX8_keepSize_30 : decode cX8_keepSize 30 = .ok (.laload, 1) := by decide +kernel
theorem dX8_keepSize_31 : decode cX8_keepSize 31 = .ok (.goto 4, 3) := by decide +kernel
theorem dX8_keepSize_34 : decode cX8_keepSize 34 = .ok (.lconst 0, 1) := by decide +kernel
theorem dX8_keepSize_35 : decode cX8_keepSize 35 = .ok (.lastore, 1) := by decide +kernel
theorem dX8_keepSize_36 : decode cX8_keepSize 36 = .ok (.iinc 3 1, 3) := by decide +kernel
theorem dX8_keepSize_39 : decode cX8_keepSize 39 = .ok (.goto (-37), 3) := by decide +kernel
theorem dX8_keepSize_42 : decode cX8_keepSize 42 = .ok (.return_, 1) := by decide +kernel
set_option maxHeartbeats 4000000 in
set_option maxRecDepth 100000 in
theorem cn_X8_keepSize {l : Launch} {cA : Nat → ClassId} {ad : Nat → Nat} {D : va_G} {E : Nat → Nat} {A : Nat → Prop} {k1 : Nat} {x2 : Int32} {s0 sr : SS} {rr : Unit} (hf : f_X8_keepSize k1 x2 s0 = some (rr, sr)) : zCon Ox Nx cA ad D E l yX8_keepSize cX8_keepSize 4 none 0 A [.ref (ad 5), .ref (ad k1), .int x2] s0 none sr := by
  refine zstart (own := RX8) hOx (by decide) rfl (Nat.le_of_ble_eq_true rfl) ?_
  intro p e s m args below meth c X hP ls hl
  have hx := X.1
  have hb := X.2.1
  have hl : lv_has ls 4 [(0, .ref (ad 5)), (1, .ref (ad k1)), (2, .int x2)] := hl
  have hS : va_S A s.heap s.heap [] := va_S.rf
  have hc_2 : ∀ (n2 : Nat) (k1 : Nat) (x2 : Int32) (x3 : Int32) (s1 : SS) (H : Heap) (locs : List Loc) (ls : Array Slot), lv_has ls 4 [(0, .ref (ad 5)), (1, .ref (ad k1)), (2, .int x2), (3, .int x3)] → va_P D ZCL (zw Ox Nx cA ad s1) H → va_S A s.heap H locs → f_X8_keepSize_c2 n2 k1 x2 x3 s1 = some (rr, sr) → W p l e (zrm 0) s m args below meth c H locs 0 0 (MQ below (zQc Ox Nx cA ad D A none sr) args s 0 0 A) (F0 m 2 ls []) := by
    intro n2
    induction n2 with
    | zero =>
      intro k1 x2 x3 s1 H locs ls hl hP hS hf
      rw [f_X8_keepSize_c2] at hf
      cases hf
    | succ n2 ih2 =>
      have hc_35 : ∀ (k1 : Nat) (x2 : Int32) (x3 : Int32) (t0 : Int64) (t1 : Int32) (kt2 : Nat) (s1 : SS) (H : Heap) (locs : List Loc) (ls : Array Slot), lv_has ls 4 [(0, .ref (ad 5)), (1, .ref (ad k1)), (2, .int x2), (3, .int x3)] → va_P D ZCL (zw Ox Nx cA ad s1) H → va_S A s.heap H locs → f_X8_keepSize_c35 (f_X8_keepSize_c2 n2) k1 x2 x3 t0 t1 kt2 s1 = some (rr, sr) → W p l e (zrm 0) s m args below meth c H locs 0 0 (MQ below (zQc Ox Nx cA ad D A none sr) args s 0 0 A) (F0 m 35 ls [.long t0, .int t1, .ref (ad kt2)]) := by
        intro k1 x2 x3 t0 t1 kt2 s1 H locs ls hl hP hS hf
        rw [f_X8_keepSize_c35] at hf
        obtain ⟨g2, hf⟩ := zgd hf
        obtain ⟨n3, rn3, on3, in3⟩ := zok_of g2
        refine zast_l X hP hS (k := kt2) on3 in3 dX8_keepSize_35 (fun H locs hP hS => ?_)
        refine lv_iinc (v := (x3 + 1)) (lv' := [(3, .int (x3 + 1)), (0, .ref (ad 5)), (1, .ref (ad k1)), (2, .int x2)]) hx hb dX8_keepSize_36 hl (k := 3) rfl rfl (by decide) rfl (fun ls hl => ?_)
        refine lv_goto (tgt := 2) hx hb dX8_keepSize_39 (by decide) ?_
        exact ih2 k1 x2 (x3 + 1) (zSL s1 kt2 (t1).toNatClampNeg t0) _ _ _ (lv_sub hl [1, 2, 3, 0] rfl) hP hS hf
      intro k1 x2 x3 s1 H locs ls hl hP hS hf
      rw [f_X8_keepSize_c2] at hf
      refine lv_iload_n hx hb dX8_keepSize_2 rfl (lv_at hl 3 rfl) ?_
      refine lv_aload_n hx hb dX8_keepSize_3 rfl (lv_at hl 0 rfl) ?_
      refine gf_X8_10 X hP (k := 5) (q := 6) rfl dX8_keepSize_4 rfl ?_
      refine gf_X8_42 X hP (k := 6) rfl dX8_keepSize_7 ?_
      refine zicmp_ge (tgt := 42) hx hb dX8_keepSize_10 (by decide) hf (fun hf => ?_) (fun hf => ?_)
      · exact zret_v X hP hS hf dX8_keepSize_42
      · refine lv_aload_n hx hb dX8_keepSize_13 rfl (lv_at hl 1 rfl) ?_
        refine lv_iload_n hx hb dX8_keepSize_14 rfl (lv_at hl 3 rfl) ?_
        refine lv_aload_n hx hb dX8_keepSize_15 rfl (lv_at hl 0 rfl) ?_
        refine gf_X8_10 X hP (k := 5) (q := 6) rfl dX8_keepSize_16 rfl ?_
        refine gf_X8_64 X hP (k := 6) (q := 63) rfl dX8_keepSize_19 rfl ?_
        refine lv_iload_n hx hb dX8_keepSize_22 rfl (lv_at hl 3 rfl) ?_
        obtain ⟨g1, hf⟩ := zgd hf
        refine zald_i X hP (k := 63) (n := 462) (rs := []) rfl g1 dX8_keepSize_23 ?_
        refine lv_iload_n hx hb dX8_keepSize_24 rfl (lv_at hl 2 rfl) ?_
        refine zicmp_ne (tgt := 34) hx hb dX8_keepSize_25 (by decide) hf (fun hf => ?_) (fun hf => ?_)
        · refine lv_lconst (v := 0) hx hb dX8_keepSize_34 (by decide) ?_
          exact hc_35 k1 x2 x3 0 x3 k1 s1 _ _ _ (lv_sub hl [0, 1, 2, 3] rfl) hP hS hf
        · refine lv_aload_n hx hb dX8_keepSize_28 rfl (lv_at hl 1 rfl) ?_
          refine lv_iload_n hx hb dX8_keepSize_29 rfl (lv_at hl 3 rfl) ?_
          obtain ⟨g4, hf⟩ := zgd hf
          obtain ⟨n5, rn5, on5, in5⟩ := zok_of g4
          refine zald_l X hP (k := k1) on5 in5 dX8_keepSize_30 ?_
          refine lv_goto (tgt := 35) hx hb dX8_keepSize_31 (by decide) ?_
          exact hc_35 k1 x2 x3 (s1.2 k1 (x3).toNatClampNeg) x3 k1 s1 _ _ _ (lv_sub hl [0, 1, 2, 3] rfl) hP hS hf
  rw [f_X8_keepSize] at hf
  refine lv_iconst (v := 0) hx hb dX8_keepSize_0 (by decide) ?_
  refine lv_istore_n (lv' := [(3, .int 0), (0, .ref (ad 5)), (1, .ref (ad k1)), (2, .int x2)]) hx hb dX8_keepSize_1 rfl hl (by decide) rfl (fun ls hl => ?_)
  exact hc_2 ZF k1 x2 0 s0 _ _ _ (lv_sub hl [1, 2, 3, 0] rfl) hP hS hf
