theorem dX8_makeCanonical_0 : decode cX8_makeCanonical 0 = .ok (.aload_n 0, 1) := by decide +kernel
theorem dX8_makeCanonical_1 : decode cX8_makeCanonical 1 = .ok (.aload_n 2, 1) := by decide +kernel
theorem dX8_makeCanonical_2 : decode cX8_makeCanonical 2 = .ok (.invokevirtual 115, 3) := by decide +kernel
theorem dX8_makeCanonical_5 : decode cX8_makeCanonical 5 = .ok (.iconst 0, 1) := by decide +kernel
theorem dX8_makeCanonical_6 : decode cX8_makeCanonical 6 = .ok (.istore_n 3, 1) := by decide +kernel
theorem dX8_makeCanonical_7 : decode cX8_makeCanonical 7 = .ok (.iload_n 3, 1) := by decide +kernel
theorem dX8_makeCanonical_8 : decode cX8_makeCanonical 8 = .ok (.aload_n 0, 1) := by decide +kernel
theorem dX8_makeCanonical_9 : decode cX8_makeCanonical 9 = .ok (.getfield 10, 3) := by decide +kernel
theorem dX8_makeCanonical_12 : decode cX8_makeCanonical 12 = .ok (.getfield 46, 3) := by decide +kernel
theorem dX8_makeCanonical_15 : decode cX8_makeCanonical 15 = .ok (.if_icmp .ge 20, 3) := by decide +kernel
theorem dX8_makeCanonical_18 : decode cX8_makeCanonical 18 = .ok (.aload_n 0, 1) := by decide +kernel
theorem dX8_makeCanonical_19 : decode cX8_makeCanonical 19 = .ok (.aload_n 2, 1) := by decide +kernel
theorem dX8_makeCanonical_20 : decode cX8_makeCanonical 20 = .ok (.iload_n 3, 1) := by decide +kernel
theorem dX8_makeCanonical_21 : decode cX8_makeCanonical 21 = .ok (.aload_n 1, 1) := by decide +kernel
theorem dX8_makeCanonical_22 : decode cX8_makeCanonical 22 = .ok (.iload_n 3, 1) := by decide +kernel
theorem dX8_makeCanonical_23 : decode cX8_makeCanonical 23 = .ok (.invokevirtual 118, 3) := by decide +kernel
theorem dX8_makeCanonical_26 : decode cX8_makeCanonical 26 = .ok (.invokevirtual 124, 3) := by decide +kernel
theorem dX8_makeCanonical_29 : decode cX8_makeCanonical 29 = .ok (.iinc 3 1, 3) := by decide +kernel
theorem dX8_makeCanonical_32 : decode cX8_makeCanonical 32 = .ok (.goto (-25), 3) := by decide +kernel
theorem dX8_makeCanonical_35 : decode cX8_makeCanonical 35 = .ok (.return_, 1) := by decide +kernel
set_option maxHeartbeats 4000000 in
set_option maxRecDepth 100000 in
theorem cn_X8_makeCanonical {l : Launch} {cA : Nat → ClassId} {ad : Nat → Nat} {D : va_G} {E : Nat → Nat} {A : Nat → Prop} {k1 : Nat} {k2 : Nat} {s0 sr : SS} {rr : Unit} (hf : f_X8_makeCanonical k1 k2 s0 = some (rr, sr)) : zCon Ox Nx cA ad D E l yX8_makeCanonical cX8_makeCanonical 4 none 2 A [.ref (ad 5), .ref (ad k1), .ref (ad k2)] s0 none sr := by
  refine zstart (own := RX8) hOx (by decide) rfl (Nat.le_of_ble_eq_true rfl) ?_
  intro p e s m args below meth c X hP ls hl
  have hx := X.1
  have hb := X.2.1
  have hl : lv_has ls 4 [(0, .ref (ad 5)), (1, .ref (ad k1)), (2, .ref (ad k2))] := hl
  have hS : va_S A s.heap s.heap [] := va_S.rf
  have hc_7 : ∀ (n7 : Nat) (k1 : Nat) (k2 : Nat) (x3 : Int32) (s1 : SS) (H : Heap) (locs : List Loc) (ls : Array Slot), lv_has ls 4 [(0, .ref (ad 5)), (1, .ref (ad k1)), (2, .ref (ad k2)), (3, .int x3)] → va_P D ZCL (zw Ox Nx cA ad s1) H → va_S A s.heap H locs → f_X8_makeCanonical_c7 n7 k1 k2 x3 s1 = some (rr, sr) → W p l e (zrm 2) s m args below meth c H locs 0 0 (MQ below (zQc Ox Nx cA ad D A none sr) args s 0 0 A) (F0 m 7 ls []) := by
    intro n7
    induction n7 with
    | zero =>
      intro k1 k2 x3 s1 H locs ls hl hP hS hf
      rw [f_X8_makeCanonical_c7] at hf
      cases hf
    | succ n7 ih7 =>
      intro k1 k2 x3 s1 H locs ls hl hP hS hf
      rw [f_X8_makeCanonical_c7] at hf
      obtain ⟨gp1, hf⟩ := zgd hf
      refine lv_iload_n hx hb dX8_makeCanonical_7 rfl (lv_at hl 3 rfl) ?_
      refine lv_aload_n hx hb dX8_makeCanonical_8 rfl (lv_at hl 0 rfl) ?_
      refine gf_X8_10 X hP (k := 5) (q := 6) rfl dX8_makeCanonical_9 rfl ?_
      refine gf_X8_46 X hP (k := 6) rfl dX8_makeCanonical_12 ?_
      refine zicmp_ge (tgt := 35) hx hb dX8_makeCanonical_15 (by decide) hf (fun hf => ?_) (fun hf => ?_)
      · exact zret_v X hP hS hf dX8_makeCanonical_35
      · refine lv_aload_n hx hb dX8_makeCanonical_18 rfl (lv_at hl 0 rfl) ?_
        refine lv_aload_n hx hb dX8_makeCanonical_19 rfl (lv_at hl 2 rfl) ?_
        refine lv_iload_n hx hb dX8_makeCanonical_20 rfl (lv_at hl 3 rfl) ?_
        refine lv_aload_n hx hb dX8_makeCanonical_21 rfl (lv_at hl 1 rfl) ?_
        refine lv_iload_n hx hb dX8_makeCanonical_22 rfl (lv_at hl 3 rfl) ?_
        obtain ⟨r4, s5, h6, hf⟩ := zbd_some hf
        refine zcallV X hP hS hl.1 (k := k1) (As := [.int x3]) (rest := [.int x3, .ref (ad k2), .ref (ad 5)]) (cn_X7_canonicalAt h6) cw_X7_canonicalAt zp_7 gp1 (by decide) rfl ml_X8_118 (by decide) rfl rfl (Nat.le_of_ble_eq_true rfl) dX8_makeCanonical_23 (fun H locs hP hS => ?_)
        obtain ⟨r7, s8, h9, hf⟩ := zbd_some hf
        refine zcallV X hP hS hl.1 (k := 5) (As := [.ref (ad k2), .int x3, .long r4]) (rest := []) (cn_X8_putAtLetter h9) cw_X8_putAtLetter zp_8 rfl (by decide) rfl ml_X8_124 (by decide) rfl rfl (Nat.le_of_ble_eq_true rfl) dX8_makeCanonical_26 (fun H locs hP hS => ?_)
        refine lv_iinc (v := (x3 + 1)) (lv' := [(3, .int (x3 + 1)), (0, .ref (ad 5)), (1, .ref (ad k1)), (2, .ref (ad k2))]) hx hb dX8_makeCanonical_29 hl (k := 3) rfl rfl (by decide) rfl (fun ls hl => ?_)
        refine lv_goto (tgt := 7) hx hb dX8_makeCanonical_32 (by decide) ?_
        exact ih7 k1 k2 (x3 + 1) s8 _ _ _ (lv_sub hl [1, 2, 3, 0] rfl) hP hS hf
  rw [f_X8_makeCanonical] at hf
  obtain ⟨gp1, hf⟩ := zgd hf
  refine lv_aload_n hx hb dX8_makeCanonical_0 rfl (lv_at hl 0 rfl) ?_
  refine lv_aload_n hx hb dX8_makeCanonical_1 rfl (lv_at hl 2 rfl) ?_
  obtain ⟨r1, s2, h3, hf⟩ := zbd_some hf
  refine zcallV X hP hS hl.1 (k := 5) (As := [.ref (ad k2)]) (rest := []) (cn_X8_makeZero h3) cw_X8_makeZero zp_8 rfl (by decide) rfl ml_X8_115 (by decide) rfl rfl (Nat.le_of_ble_eq_true rfl) dX8_makeCanonical_2 (fun H locs hP hS => ?_)
  refine lv_iconst (v := 0) hx hb dX8_makeCanonical_5 (by decide) ?_
  refine lv_istore_n (lv' := [(3, .int 0), (0, .ref (ad 5)), (1, .ref (ad k1)), (2, .ref (ad k2))]) hx hb dX8_makeCanonical_6 rfl hl (by decide) rfl (fun ls hl => ?_)
  exact hc_7 ZF k1 k2 0 s2 _ _ _ (lv_sub hl [1, 2, 3, 0] rfl) hP hS hf
theorem dX8_makeChern_0 : decode cX8_makeChern 0 = .ok (.aload_n 0, 1) := by decide +kernel
theorem dX8_makeChern_1 : decode cX8_makeChern 1 = .ok (.aload_n 0, 1) := by decide +kernel
theorem dX8_makeChern_2 : decode cX8_makeChern 2 = .ok (.getfield 23, 3) := by decide +kernel
theorem dX8_makeChern_5 : decode cX8_makeChern 5 = .ok (.invokevirtual 101, 3) := by decide +kernel
theorem dX8_makeChern_8 : decode cX8_makeChern 8 = .ok (.iconst 0, 1) := by decide +kernel
theorem dX8_makeChern_9 : decode cX8_makeChern 9 = .ok (.istore_n 2, 1) := by decide +kernel
theorem dX8_makeChern_10 : decode cX8_makeChern 10 = .ok (.iload_n 2, 1) := by decide +kernel
theorem dX8_makeChern_11 : decode cX8_makeChern 11 = .ok (.aload_n 1, 1) := by decide +kernel
theorem dX8_makeChern_12 : decode cX8_makeChern 12 = .ok (.getfield 128, 3) := by decide +kernel
theorem dX8_makeChern_15 : decode cX8_makeChern 15 = .ok (.if_icmp .ge 66, 3) := by decide +kernel
theorem dX8_makeChern_18 : decode cX8_makeChern 18 = .ok (.iload_n 2, 1) := by decide +kernel
theorem dX8_makeChern_19 : decode cX8_makeChern 19 = .ok (.aload_n 1, 1) := by decide +kernel
theorem dX8_makeChern_20 : decode cX8_makeChern 20 = .ok (.getfield 131, 3) := by decide +kernel
theorem dX8_makeChern_23 : decode cX8_makeChern 23 = .ok (.arraylength, 1) := by decide +kernel
theorem dX8_makeChern_24 : decode cX8_makeChern 24 = .ok (.if_icmp .ge 57, 3) := by decide +kernel
theorem dX8_makeChern_27 : decode cX8_makeChern 27 = .ok (.aload_n 0, 1) := by decide +kernel
theorem dX8_makeChern_28 : decode cX8_makeChern 28 = .ok (.aload_n 0, 1) := by decide +kernel
theorem dX8_makeChern_29 : decode cX8_makeChern 29 = .ok (.getfield 26, 3) := by decide +kernel
theorem dX8_makeChern_32 : decode cX8_makeChern 32 = .ok (.invokevirtual 101, 3) := by decide +kernel
theorem dX8_makeChern_35 : decode cX8_makeChern 35 = .ok (.aload_n 0, 1) := by decide +kernel
theorem dX8_makeChern_36 : decode cX8_makeChern 36 = .ok (.aload_n 0, 1) := by decide +kernel
theorem dX8_makeChern_37 : decode cX8_makeChern 37 = .ok (.getfield 26, 3) := by decide +kernel
theorem dX8_makeChern_40 : decode cX8_makeChern 40 = .ok (.iload_n 2, 1) := by decide +kernel
theorem dX8_makeChern_41 : decode cX8_makeChern 41 = .ok (.lconst 1, 1) := by decide +kernel
theorem dX8_makeChern_42 : decode cX8_makeChern 42 = .ok (.invokevirtual 124, 3) := by decide +kernel
theorem dX8_makeChern_45 : decode cX8_makeChern 45 = .ok (.iconst 0, 1) := by decide +kernel
theorem dX8_makeChern_46 : decode cX8_makeChern 46 = .ok (.istore_n 3, 1) := by decide +kernel
theorem dX8_makeChern_47 : decode cX8_makeChern 47 = .ok (.iload_n 3, 1) := by decide +kernel
theorem dX8_makeChern_48 : decode cX8_makeChern 48 = .ok (.aload_n 1, 1) := by decide +kernel
theorem dX8_makeChern_49 : decode cX8_makeChern 49 = .ok (.getfield 131, 3) := by decide +kernel
theorem dX8_makeChern_52 : decode cX8_makeChern 52 = .ok (.iload_n 2, 1) := by decide +kernel
theorem dX8_makeChern_53 : decode cX8_makeChern 53 = .ok (.iaload, 1) := by decide +kernel
theorem dX8_makeChern_54 : decode cX8_makeChern 54 = .ok (.if_icmp .gt 21, 3) := by decide +kernel
theorem dX8_makeChern_57 : decode cX8_makeChern 57 = .ok (.aload_n 0, 1) := by decide +kernel
theorem dX8_makeChern_58 : decode cX8_makeChern 58 = .ok (.aload_n 0, 1) := by decide +kernel
theorem dX8_makeChern_59 : decode cX8_makeChern 59 = .ok (.getfield 23, 3) := by decide +kernel
theorem dX8_makeChern_62 : decode cX8_makeChern 62 = .ok (.aload_n 0, 1) := by decide +kernel
theorem dX8_makeChern_63 : decode cX8_makeChern 63 = .ok (.getfield 26, 3) := by decide +kernel
theorem dX8_makeChern_66 : decode cX8_makeChern 66 = .ok (.invokevirtual 97, 3) := by decide +kernel
theorem dX8_makeChern_69 : decode cX8_makeChern 69 = .ok (.iinc 3 1, 3) := by decide +kernel
theorem dX8_makeChern_72 : decode cX8_makeChern 72 = .ok (.goto (-25), 3) := by decide +kernel
theorem dX8_makeChern_75 : decode cX8_makeChern 75 = .ok (.iinc 2 1, 3) := by decide +kernel
theorem dX8_makeChern_78 : decode cX8_makeChern 78 = .ok (.goto (-68), 3) := by decide +kernel
theorem dX8_makeChern_81 : decode cX8_makeChern 81 = .ok (.return_, 1) := by decide +kernel
set_option maxHeartbeats 4000000 in
set_option maxRecDepth 100000 in
theorem cn_X8_makeChern {l : Launch} {cA : Nat → ClassId} {ad : Nat → Nat} {D : va_G} {E : Nat → Nat} {A : Nat → Prop} {k1 : Nat} {s0 sr : SS} {rr : Unit} (hf : f_X8_makeChern k1 s0 = some (rr, sr)) : zCon Ox Nx cA ad D E l yX8_makeChern cX8_makeChern 4 none 3 A [.ref (ad 5), .ref (ad k1)] s0 none sr := by
  refine zstart (own := RX8) hOx (by decide) rfl (Nat.le_of_ble_eq_true rfl) ?_
  intro p e s m args below meth c X hP ls hl
  have hx := X.1
  have hb := X.2.1
  have hl : lv_has ls 4 [(0, .ref (ad 5)), (1, .ref (ad k1))] := hl
  have hS : va_S A s.heap s.heap [] := va_S.rf
  have hc_10 : ∀ (n10 : Nat) (k1 : Nat) (x2 : Int32) (s1 : SS) (H : Heap) (locs : List Loc) (ls : Array Slot), lv_has ls 4 [(0, .ref (ad 5)), (1, .ref (ad k1)), (2, .int x2)] → va_P D ZCL (zw Ox Nx cA ad s1) H → va_S A s.heap H locs → f_X8_makeChern_c10 n10 k1 x2 s1 = some (rr, sr) → W p l e (zrm 3) s m args below meth c H locs 0 0 (MQ below (zQc Ox Nx cA ad D A none sr) args s 0 0 A) (F0 m 10 ls []) := by
    intro n10
    induction n10 with
    | zero =>
      intro k1 x2 s1 H locs ls hl hP hS hf
      rw [f_X8_makeChern_c10] at hf
      cases hf
    | succ n10 ih10 =>
      have hc_47 : ∀ (n47 : Nat) (k1 : Nat) (x2 : Int32) (x3 : Int32) (s1 : SS) (H : Heap) (locs : List Loc) (ls : Array Slot), lv_has ls 4 [(0, .ref (ad 5)), (1, .ref (ad k1)), (2, .int x2), (3, .int x3)] → va_P D ZCL (zw Ox Nx cA ad s1) H → va_S A s.heap H locs → f_X8_makeChern_c47 (f_X8_makeChern_c10 n10) n47 k1 x2 x3 s1 = some (rr, sr) → W p l e (zrm 3) s m args below meth c H locs 0 0 (MQ below (zQc Ox Nx cA ad D A none sr) args s 0 0 A) (F0 m 47 ls []) := by
        intro n47
        induction n47 with
        | zero =>
          intro k1 x2 x3 s1 H locs ls hl hP hS hf
          rw [f_X8_makeChern_c47] at hf
          cases hf
        | succ n47 ih47 =>
          intro k1 x2 x3 s1 H locs ls hl hP hS hf
          rw [f_X8_makeChern_c47] at hf
          obtain ⟨gp1, hf⟩ := zgd hf
          refine lv_iload_n hx hb dX8_makeChern_47 rfl (lv_at hl 3 rfl) ?_
          refine lv_aload_n hx hb dX8_makeChern_48 rfl (lv_at hl 1 rfl) ?_
          refine gf_X8_131 X hP (k := k1) gp1 dX8_makeChern_49 rfl ?_
          refine lv_iload_n hx hb dX8_makeChern_52 rfl (lv_at hl 2 rfl) ?_
          obtain ⟨g12, hf⟩ := zgd hf
          obtain ⟨n16, rn16, on16, in16⟩ := zok_of g12
          refine zald_i X hP (k := (zrf Ox k1 3)) on16 in16 dX8_makeChern_53 ?_
          refine zicmp_gt (tgt := 75) hx hb dX8_makeChern_54 (by decide) hf (fun hf => ?_) (fun hf => ?_)
          · refine lv_iinc (v := (x2 + 1)) (lv' := [(2, .int (x2 + 1)), (0, .ref (ad 5)), (1, .ref (ad k1)), (3, .int x3)]) hx hb dX8_makeChern_75 hl (k := 2) rfl rfl (by decide) rfl (fun ls hl => ?_)
            refine lv_goto (tgt := 10) hx hb dX8_makeChern_78 (by decide) ?_
            exact ih10 k1 (x2 + 1) s1 _ _ _ (lv_sub hl [1, 2, 0] rfl) hP hS hf
          · refine lv_aload_n hx hb dX8_makeChern_57 rfl (lv_at hl 0 rfl) ?_
            refine lv_aload_n hx hb dX8_makeChern_58 rfl (lv_at hl 0 rfl) ?_
            refine gf_X8_23 X hP (k := 5) (q := 23) rfl dX8_makeChern_59 rfl ?_
            refine lv_aload_n hx hb dX8_makeChern_62 rfl (lv_at hl 0 rfl) ?_
            refine gf_X8_26 X hP (k := 5) (q := 24) rfl dX8_makeChern_63 rfl ?_
            obtain ⟨r13, s14, h15, hf⟩ := zbd_some hf
            refine zcallV X hP hS hl.1 (k := 5) (As := [.ref (ad 23), .ref (ad 24)]) (rest := []) (cn_X8_multiply h15) cw_X8_multiply zp_8 rfl (by decide) rfl ml_X8_97 (by decide) rfl rfl (Nat.le_of_ble_eq_true rfl) dX8_makeChern_66 (fun H locs hP hS => ?_)
            refine lv_iinc (v := (x3 + 1)) (lv' := [(3, .int (x3 + 1)), (0, .ref (ad 5)), (1, .ref (ad k1)), (2, .int x2)]) hx hb dX8_makeChern_69 hl (k := 3) rfl rfl (by decide) rfl (fun ls hl => ?_)
            refine lv_goto (tgt := 47) hx hb dX8_makeChern_72 (by decide) ?_
            exact ih47 k1 x2 (x3 + 1) s14 _ _ _ (lv_sub hl [1, 2, 3, 0] rfl) hP hS hf
      intro k1 x2 s1 H locs ls hl hP hS hf
      rw [f_X8_makeChern_c10] at hf
      obtain ⟨gp1, hf⟩ := zgd hf
      refine lv_iload_n hx hb dX8_makeChern_10 rfl (lv_at hl 2 rfl) ?_
      refine lv_aload_n hx hb dX8_makeChern_11 rfl (lv_at hl 1 rfl) ?_
      refine gf_X8_128 X hP (k := k1) gp1 dX8_makeChern_12 ?_
      refine zicmp_ge (tgt := 81) hx hb dX8_makeChern_15 (by decide) hf (fun hf => ?_) (fun hf => ?_)
      · exact zret_v X hP hS hf dX8_makeChern_81
      · refine lv_iload_n hx hb dX8_makeChern_18 rfl (lv_at hl 2 rfl) ?_
        refine lv_aload_n hx hb dX8_makeChern_19 rfl (lv_at hl 1 rfl) ?_
        refine gf_X8_131 X hP (k := k1) gp1 dX8_makeChern_20 rfl ?_
        obtain ⟨g4, hf⟩ := zgd hf
        obtain ⟨n5, on5⟩ := zia_of g4
        refine zalen X hP (k := (zrf Ox k1 3)) (t := 0) on5 (by decide) rfl dX8_makeChern_23 ?_
        refine zicmp_ge (tgt := 81) hx hb dX8_makeChern_24 (by decide) hf (fun hf => ?_) (fun hf => ?_)
        · exact zret_v X hP hS hf dX8_makeChern_81
        · refine lv_aload_n hx hb dX8_makeChern_27 rfl (lv_at hl 0 rfl) ?_
          refine lv_aload_n hx hb dX8_makeChern_28 rfl (lv_at hl 0 rfl) ?_
          refine gf_X8_26 X hP (k := 5) (q := 24) rfl dX8_makeChern_29 rfl ?_
          obtain ⟨r6, s7, h8, hf⟩ := zbd_some hf
          refine zcallV X hP hS hl.1 (k := 5) (As := [.ref (ad 24)]) (rest := []) (cn_X8_makeOne h8) cw_X8_makeOne zp_8 rfl (by decide) rfl ml_X8_101 (by decide) rfl rfl (Nat.le_of_ble_eq_true rfl) dX8_makeChern_32 (fun H locs hP hS => ?_)
          refine lv_aload_n hx hb dX8_makeChern_35 rfl (lv_at hl 0 rfl) ?_
          refine lv_aload_n hx hb dX8_makeChern_36 rfl (lv_at hl 0 rfl) ?_
          refine gf_X8_26 X hP (k := 5) (q := 24) rfl dX8_makeChern_37 rfl ?_
          refine lv_iload_n hx hb dX8_makeChern_40 rfl (lv_at hl 2 rfl) ?_
          refine lv_lconst (v := 1) hx hb dX8_makeChern_41 (by decide) ?_
          obtain ⟨r9, s10, h11, hf⟩ := zbd_some hf
          refine zcallV X hP hS hl.1 (k := 5) (As := [.ref (ad 24), .int x2, .long 1]) (rest := []) (cn_X8_putAtLetter h11) cw_X8_putAtLetter zp_8 rfl (by decide) rfl ml_X8_124 (by decide) rfl rfl (Nat.le_of_ble_eq_true rfl) dX8_makeChern_42 (fun H locs hP hS => ?_)
          refine lv_iconst (v := 0) hx hb dX8_makeChern_45 (by decide) ?_
          refine lv_istore_n (lv' := [(3, .int 0), (0, .ref (ad 5)), (1, .ref (ad k1)), (2, .int x2)]) hx hb dX8_makeChern_46 rfl hl (by decide) rfl (fun ls hl => ?_)
          exact hc_47 ZF k1 x2 0 s10 _ _ _ (lv_sub hl [1, 2, 3, 0] rfl) hP hS hf
  rw [f_X8_makeChern] at hf
  obtain ⟨gp1, hf⟩ := zgd hf
  refine lv_aload_n hx hb dX8_makeChern_0 rfl (lv_at hl 0 rfl) ?_
  refine lv_aload_n hx hb dX8_makeChern_1 rfl (lv_at hl 0 rfl) ?_
  refine gf_X8_23 X hP (k := 5) (q := 23) rfl dX8_makeChern_2 rfl ?_
  obtain ⟨r1, s2, h3, hf⟩ := zbd_some hf
  refine zcallV X hP hS hl.1 (k := 5) (As := [.ref (ad 23)]) (rest := []) (cn_X8_makeOne h3) cw_X8_makeOne zp_8 rfl (by decide) rfl ml_X8_101 (by decide) rfl rfl (Nat.le_of_ble_eq_true rfl) dX8_makeChern_5 (fun H locs hP hS => ?_)
  refine lv_iconst (v := 0) hx hb dX8_makeChern_8 (by decide) ?_
  refine lv_istore_n (lv' := [(2, .int 0), (0, .ref (ad 5)), (1, .ref (ad k1))]) hx hb dX8_makeChern_9 rfl hl (by decide) rfl (fun ls hl => ?_)
  exact hc_10 ZF k1 0 s2 _ _ _ (lv_sub hl [1, 2, 0] rfl) hP hS hf
theorem dX8_divideChern_0 : decode cX8_divideChern 0 = .ok (.aload_n 0, 1) := by decide +kernel
theorem dX8_divideChern_1 : decode cX8_divideChern 1 = .ok (.getfield 23, 3) := by decide +kernel
theorem dX8_divideChern_4 : decode cX8_divideChern 4 = .ok (.iconst 0, 1) := by decide +kernel
theorem dX8_divideChern_5 : decode cX8_divideChern 5 = .ok (.aload_n 0, 1) := by decide +kernel
theorem dX8_divideChern_6 : decode cX8_divideChern 6 = .ok (.getfield 26, 3) := by decide +kernel
theorem dX8_divideChern_9 : decode cX8_divideChern 9 = .ok (.iconst 0, 1) := by decide +kernel
theorem dX8_divideChern_10 : decode cX8_divideChern 10 = .ok (.aload_n 0, 1) := by decide +kernel
theorem dX8_divideChern_11 : decode cX8_divideChern 11 = .ok (.getfield 10, 3) := by decide +kernel
theorem dX8_divideChern_14 : decode cX8_divideChern 14 = .ok (.getfield 42, 3) := by decide +kernel
theorem dX8_divideChern_17 : decode cX8_divideChern 17 = .ok (.invokestatic 78, 3) := by decide +kernel
theorem dX8_divideChern_20 : decode cX8_divideChern 20 = .ok (.ldc2_w 134, 3) := by decide +kernel
theorem dX8_divideChern_23 : decode cX8_divideChern 23 = .ok (.lstore_n 2, 1) := by decide +kernel
theorem dX8_divideChern_24 : decode cX8_divideChern 24 = .ok (.iconst 1, 1) := by decide +kernel
theorem dX8_divideChern_25 : decode cX8_divideChern 25 = .ok (.istore 4, 2) := by decide +kernel
theorem dX8_divideChern_27 : decode cX8_divideChern 27 = .ok (.iload 4, 2) := by decide +kernel
theorem dX8_divideChern_29 : decode cX8_divideChern 29 = .ok (.aload_n 0, 1) := by decide +kernel
theorem dX8_divideChern_30 : decode cX8_divideChern 30 = .ok (.getfield 10, 3) := by decide +kernel
theorem dX8_divideChern_33 : decode cX8_divideChern 33 = .ok (.getfield 87, 3) := by decide +kernel
theorem dX8_divideChern_36 : decode cX8_divideChern 36 = .ok (.if_icmp .gt 34, 3) := by decide +kernel
theorem dX8_divideChern_39 : decode cX8_divideChern 39 = .ok (.aload_n 0, 1) := by decide +kernel
theorem dX8_divideChern_40 : decode cX8_divideChern 40 = .ok (.aload_n 0, 1) := by decide +kernel
theorem dX8_divideChern_41 : decode cX8_divideChern 41 = .ok (.getfield 26, 3) := by decide +kernel
theorem dX8_divideChern_44 : decode cX8_divideChern 44 = .ok (.aload_n 1, 1) := by decide +kernel
theorem dX8_divideChern_45 : decode cX8_divideChern 45 = .ok (.invokevirtual 97, 3) := by decide +kernel
theorem dX8_divideChern_48 : decode cX8_divideChern 48 = .ok (.aload_n 0, 1) := by decide +kernel
theorem dX8_divideChern_49 : decode cX8_divideChern 49 = .ok (.aload_n 0, 1) := by decide +kernel
theorem dX8_divideChern_50 : decode cX8_divideChern 50 = .ok (.getfield 23, 3) := by decide +kernel
theorem dX8_divideChern_53 : decode cX8_divideChern 53 = .ok (.aload_n 0, 1) := by decide +kernel
theorem dX8_divideChern_54 : decode cX8_divideChern 54 = .ok (.getfield 26, 3) := by decide +kernel
theorem dX8_divideChern_57 : decode cX8_divideChern 57 = .ok (.lload_n 2, 1) := by decide +kernel
theorem dX8_divideChern_58 : decode cX8_divideChern 58 = .ok (.invokevirtual 136, 3) := by decide +kernel
theorem dX8_divideChern_61 : decode cX8_divideChern 61 = .ok (.lload_n 2, 1) := by decide +kernel
theorem dX8_divideChern_62 : decode cX8_divideChern 62 = .ok (.lneg, 1) := by decide +kernel
theorem dX8_divideChern_63 : decode cX8_divideChern 63 = .ok (.lstore_n 2, 1) := by decide +kernel
theorem dX8_divideChern_64 : decode cX8_divideChern 64 = .ok (.iinc 4 1, 3) := by decide +kernel
theorem dX8_divideChern_67 : decode cX8_divideChern 67 = .ok (.goto (-40), 3) := by decide +kernel
theorem dX8_divideChern_70 : decode cX8_divideChern 70 = .ok (.return_, 1) := by decide +kernel
set_option maxHeartbeats 4000000 in
set_option maxRecDepth 100000 in
theorem cn_X8_divideChern {l : Launch} {cA : Nat → ClassId} {ad : Nat → Nat} {D : va_G} {E : Nat → Nat} {A : Nat → Prop} {k1 : Nat} {s0 sr : SS} {rr : Unit} (hf : f_X8_divideChern k1 s0 = some (rr, sr)) : zCon Ox Nx cA ad D E l yX8_divideChern cX8_divideChern 5 none 3 A [.ref (ad 5), .ref (ad k1)] s0 none sr := by
  refine zstart (own := RX8) hOx (by decide) rfl (Nat.le_of_ble_eq_true rfl) ?_
  intro p e s m args below meth c X hP ls hl
  have hx := X.1
  have hb := X.2.1
  have hl : lv_has ls 5 [(0, .ref (ad 5)), (1, .ref (ad k1))] := hl
  have hS : va_S A s.heap s.heap [] := va_S.rf
  have hc_27 : ∀ (n27 : Nat) (k1 : Nat) (x2 : Int64) (x4 : Int32) (s1 : SS) (H : Heap) (locs : List Loc) (ls : Array Slot), lv_has ls 5 [(0, .ref (ad 5)), (1, .ref (ad k1)), (2, .long x2), (4, .int x4)] → va_P D ZCL (zw Ox Nx cA ad s1) H → va_S A s.heap H locs → f_X8_divideChern_c27 n27 k1 x2 x4 s1 = some (rr, sr) → W p l e (zrm 3) s m args below meth c H locs 0 0 (MQ below (zQc Ox Nx cA ad D A none sr) args s 0 0 A) (F0 m 27 ls []) := by
    intro n27
    induction n27 with
    | zero =>
      intro k1 x2 x4 s1 H locs ls hl hP hS hf
      rw [f_X8_divideChern_c27] at hf
      cases hf
    | succ n27 ih27 =>
      intro k1 x2 x4 s1 H locs ls hl hP hS hf
      rw [f_X8_divideChern_c27] at hf
      refine lv_iload hx hb dX8_divideChern_27 (lv_at hl 3 rfl) ?_
      refine lv_aload_n hx hb dX8_divideChern_29 rfl (lv_at hl 0 rfl) ?_
      refine gf_X8_10 X hP (k := 5) (q := 6) rfl dX8_divideChern_30 rfl ?_
      refine gf_X8_87 X hP (k := 6) rfl dX8_divideChern_33 ?_
      refine zicmp_gt (tgt := 70) hx hb dX8_divideChern_36 (by decide) hf (fun hf => ?_) (fun hf => ?_)
      · exact zret_v X hP hS hf dX8_divideChern_70
      · refine lv_aload_n hx hb dX8_divideChern_39 rfl (lv_at hl 0 rfl) ?_
        refine lv_aload_n hx hb dX8_divideChern_40 rfl (lv_at hl 0 rfl) ?_
        refine gf_X8_26 X hP (k := 5) (q := 24) rfl dX8_divideChern_41 rfl ?_
        refine lv_aload_n hx hb dX8_divideChern_44 rfl (lv_at hl 1 rfl) ?_
        obtain ⟨r2, s3, h4, hf⟩ := zbd_some hf
        refine zcallV X hP hS hl.1 (k := 5) (As := [.ref (ad 24), .ref (ad k1)]) (rest := []) (cn_X8_multiply h4) cw_X8_multiply zp_8 rfl (by decide) rfl ml_X8_97 (by decide) rfl rfl (Nat.le_of_ble_eq_true rfl) dX8_divideChern_45 (fun H locs hP hS => ?_)
        refine lv_aload_n hx hb dX8_divideChern_48 rfl (lv_at hl 0 rfl) ?_
        refine lv_aload_n hx hb dX8_divideChern_49 rfl (lv_at hl 0 rfl) ?_
        refine gf_X8_23 X hP (k := 5) (q := 23) rfl dX8_divideChern_50 rfl ?_
        refine lv_aload_n hx hb dX8_divideChern_53 rfl (lv_at hl 0 rfl) ?_
        refine gf_X8_26 X hP (k := 5) (q := 24) rfl dX8_divideChern_54 rfl ?_
        refine lv_lload_n hx hb dX8_divideChern_57 rfl (lv_at hl 2 rfl) ?_
        obtain ⟨r5, s6, h7, hf⟩ := zbd_some hf
        refine zcallV X hP hS hl.1 (k := 5) (As := [.ref (ad 23), .ref (ad 24), .long x2]) (rest := []) (cn_X8_addTimes h7) cw_X8_addTimes zp_8 rfl (by decide) rfl ml_X8_136 (by decide) rfl rfl (Nat.le_of_ble_eq_true rfl) dX8_divideChern_58 (fun H locs hP hS => ?_)
        refine lv_lload_n hx hb dX8_divideChern_61 rfl (lv_at hl 2 rfl) ?_
        refine lv_lneg hx hb dX8_divideChern_62 ?_
        refine lv_lstore_n (lv' := [(2, .long (-x2)), (0, .ref (ad 5)), (1, .ref (ad k1)), (4, .int x4)]) hx hb dX8_divideChern_63 rfl hl (by decide) rfl (fun ls hl => ?_)
        refine lv_iinc (v := (x4 + 1)) (lv' := [(4, .int (x4 + 1)), (2, .long (-x2)), (0, .ref (ad 5)), (1, .ref (ad k1))]) hx hb dX8_divideChern_64 hl (k := 3) rfl rfl (by decide) rfl (fun ls hl => ?_)
        refine lv_goto (tgt := 27) hx hb dX8_divideChern_67 (by decide) ?_
        exact ih27 k1 (-x2) (x4 + 1) s6 _ _ _ (lv_sub hl [2, 3, 1, 0] rfl) hP hS hf
  rw [f_X8_divideChern] at hf
  refine lv_aload_n hx hb dX8_divideChern_0 rfl (lv_at hl 0 rfl) ?_
  refine gf_X8_23 X hP (k := 5) (q := 23) rfl dX8_divideChern_1 rfl ?_
  refine lv_iconst (v := 0) hx hb dX8_divideChern_4 (by decide) ?_
  refine lv_aload_n hx hb dX8_divideChern_5 rfl (lv_at hl 0 rfl) ?_
  refine gf_X8_26 X hP (k := 5) (q := 24) rfl dX8_divideChern_6 rfl ?_
  refine lv_iconst (v := 0) hx hb dX8_divideChern_9 (by decide) ?_
  refine lv_aload_n hx hb dX8_divideChern_10 rfl (lv_at hl 0 rfl) ?_
  refine gf_X8_10 X hP (k := 5) (q := 6) rfl dX8_divideChern_11 rfl ?_
  refine gf_X8_42 X hP (k := 6) rfl dX8_divideChern_14 ?_
  obtain ⟨g1, hf⟩ := zgd hf
  refine zcp_l X hP hS hl.1 (k0 := 23) (k1 := 24) ml_X8_78 nt_copy.1 nt_copy.2.1 nt_copy.2.2 g1 ⟨Nat.le_of_ble_eq_true rfl, Nat.le_of_ble_eq_true rfl⟩ dX8_divideChern_17 (fun H locs hP hS => ?_)
  refine zldc2 X co_X8_134 dX8_divideChern_20 ?_
  refine lv_lstore_n (lv' := [(2, .long (-1)), (0, .ref (ad 5)), (1, .ref (ad k1))]) hx hb dX8_divideChern_23 rfl hl (by decide) rfl (fun ls hl => ?_)
  refine lv_iconst (v := 1) hx hb dX8_divideChern_24 (by decide) ?_
  refine lv_istore (lv' := [(4, .int 1), (2, .long (-1)), (0, .ref (ad 5)), (1, .ref (ad k1))]) hx hb dX8_divideChern_25 hl (by decide) rfl (fun ls hl => ?_)
  exact hc_27 ZF k1 (-1) 1 (zL s0 24 (va_cpy (s0.2 23) (s0.2 24) ((0 : Int32)).toNatClampNeg ((0 : Int32)).toNatClampNeg ((s0.1 6 2)).toNatClampNeg)) _ _ _ (lv_sub hl [2, 3, 1, 0] rfl) hP hS hf
theorem dX9_add_0 : decode cX9_add 0 = .ok (.aload_n 0, 1) := by decide +kernel
theorem dX9_add_1 : decode cX9_add 1 = .ok (.getfield 15, 3) := by decide +kernel
theorem dX9_add_4 : decode cX9_add 4 = .ok (.bipush 80, 2) := by decide +kernel
theorem dX9_add_6 : decode cX9_add 6 = .ok (.if_icmp .lt 5, 3) := by decide +kernel
theorem dX9_add_9 : decode cX9_add 9 = .ok (.iconst 0, 1) := by decide +kernel
theorem dX9_add_10 : decode cX9_add 10 = .ok (.ireturn, 1) := by decide +kernel
theorem dX9_add_11 : decode cX9_add 11 = .ok (.aload_n 0, 1) := by decide +kernel
theorem dX9_add_12 : decode cX9_add 12 = .ok (.getfield 11, 3) := by decide +kernel
theorem dX9_add_15 : decode cX9_add 15 = .ok (.aload_n 0, 1) := by decide +kernel
theorem dX9_add_16 : decode cX9_add 16 = .ok (.getfield 15, 3) := by decide +kernel
theorem dX9_add_19 : decode cX9_add 19 = .ok (.iload_n 1, 1) := by decide +kernel
theorem dX9_add_20 : decode cX9_add 20 = .ok (.castore, 1) := by decide +kernel
theorem dX9_add_21 : decode cX9_add 21 = .ok (.aload_n 0, 1) := by decide +kernel
theorem dX9_add_22 : decode cX9_add 22 = .ok (.dup, 1) := by decide +kernel
theorem dX9_add_23 : decode cX9_add 23 = .ok (.getfield 15, 3) := by decide +kernel
theorem dX9_add_26 : decode cX9_add 26 = .ok (.iconst 1, 1) := by decide +kernel
theorem dX9_add_27 : decode cX9_add 27 = .ok (.iadd, 1) := by decide +kernel
theorem dX9_add_28 : decode cX9_add 28 = .ok (.putfield 15, 3) := by decide +kernel
theorem dX9_add_31 : decode cX9_add 31 = .ok (.iconst 1, 1) := by decide +kernel
theorem dX9_add_32 : decode cX9_add 32 = .ok (.ireturn, 1) := by decide +kernel
set_option maxHeartbeats 4000000 in
set_option maxRecDepth 100000 in
theorem cn_X9_add {l : Launch} {cA : Nat → ClassId} {ad : Nat → Nat} {D : va_G} {E : Nat → Nat} {A : Nat → Prop} {x1 : Int32} {s0 sr : SS} {rr : Int32} (hf : f_X9_add x1 s0 = some (rr, sr)) : zCon Ox Nx cA ad D E l yX9_add cX9_add 2 (some .boolean) 0 A [.ref (ad 8), .int x1] s0 (some (.int rr)) sr := by
  refine zstart (own := RX9) hOx (by decide) rfl (Nat.le_of_ble_eq_true rfl) ?_
  intro p e s m args below meth c X hP ls hl
  have hx := X.1
  have hb := X.2.1
  have hl : lv_has ls 2 [(0, .ref (ad 8)), (1, .int x1)] := hl
  have hS : va_S A s.heap s.heap [] := va_S.rf
  rw [f_X9_add] at hf
  refine lv_aload_n hx hb dX9_add_0 rfl (lv_at hl 0 rfl) ?_
  refine gf_X9_15 X hP (k := 8) rfl dX9_add_1 ?_
  refine lv_bipush (v := 80) hx hb dX9_add_4 (by decide) ?_
  refine zicmp_lt (tgt := 11) hx hb dX9_add_6 (by decide) hf (fun hf => ?_) (fun hf => ?_)
  · refine lv_aload_n hx hb dX9_add_11 rfl (lv_at hl 0 rfl) ?_
    refine gf_X9_11 X hP (k := 8) (q := 73) rfl dX9_add_12 rfl ?_
    refine lv_aload_n hx hb dX9_add_15 rfl (lv_at hl 0 rfl) ?_
    refine gf_X9_15 X hP (k := 8) rfl dX9_add_16 ?_
    refine lv_iload_n hx hb dX9_add_19 rfl (lv_at hl 1 rfl) ?_
    obtain ⟨g1, hf⟩ := zgd hf
    refine zast_c X hP hS (k := 73) (n := 80) (rs := []) rfl g1 dX9_add_20 (fun H locs hP hS => ?_)
    refine lv_aload_n hx hb dX9_add_21 rfl (lv_at hl 0 rfl) ?_
    refine lv_dup hx hb dX9_add_22 rfl ?_
    refine gf_X9_15 X hP (k := 8) rfl dX9_add_23 ?_
    refine lv_iconst (v := 1) hx hb dX9_add_26 (by decide) ?_
    refine lv_iadd hx hb dX9_add_27 ?_
    refine pf_X9_15 X hP hS (k := 8) rfl dX9_add_28 (fun H locs hP hS => ?_)
    refine lv_iconst (v := 1) hx hb dX9_add_31 (by decide) ?_
    exact zret_i X hP hS hf rfl dX9_add_32
  · refine lv_iconst (v := 0) hx hb dX9_add_9 (by decide) ?_
    exact zret_i X hP hS hf rfl dX9_add_10
theorem dX9_readPowers_0 : decode cX9_readPowers 0 = .ok (.iconst 0, 1) := by decide +kernel
theorem dX9_readPowers_1 : decode cX9_readPowers 1 = .ok (.istore_n 3, 1) := by decide +kernel
theorem dX9_readPowers_2 : decode cX9_readPowers 2 = .ok (.iconst 0, 1) := by decide +kernel
theorem dX9_readPowers_3 : decode cX9_readPowers 3 = .ok (.istore 4, 2) := by decide +kernel
theorem dX9_readPowers_5 : decode cX9_readPowers 5 = .ok (.iconst 0, 1) := by decide +kernel
theorem dX9_readPowers_6 : decode cX9_readPowers 6 = .ok (.istore 5, 2) := by decide +kernel
theorem dX9_readPowers_8 : decode cX9_readPowers 8 = .ok (.iconst 0, 1) := by decide +kernel
theorem dX9_readPowers_9 : decode cX9_readPowers 9 = .ok (.istore 6, 2) := by decide +kernel
theorem dX9_readPowers_11 : decode cX9_readPowers 11 = .ok (.iload 6, 2) := by decide +kernel
theorem dX9_readPowers_13 : decode cX9_readPowers 13 = .ok (.bipush 6, 2) := by decide +kernel
theorem dX9_readPowers_15 : decode cX9_readPowers 15 = .ok (.if_icmp .ge 154, 3) := by decide +kernel
theorem dX9_readPowers_18 : decode cX9_readPowers 18 = .ok (.aload_n 1, 1) := by decide +kernel
theorem dX9_readPowers_19 : decode cX9_readPowers 19 = .ok (.aload_n 0, 1) := by decide +kernel
theorem dX9_readPowers_20 : decode cX9_readPowers 20 = .ok (.aload_n 0, 1) := by decide +kernel
theorem dX9_readPowers_21 : decode cX9_readPowers 21 = .ok (.getfield 38, 3) := by decide +kernel
theorem dX9_readPowers_24 : decode cX9_readPowers 24 = .ok (.invokevirtual 19, 3) := by decide +kernel
theorem dX9_readPowers_27 : decode cX9_readPowers 27 = .ok (.invokevirtual 65, 3) := by decide +kernel
theorem dX9_readPowers_30 : decode cX9_readPowers 30 = .ok (.istore 7, 2) := by decide +kernel
theorem dX9_readPowers_32 : decode cX9_readPowers 32 = .ok (.iload 7, 2) := by decide +kernel
theorem dX9_readPowers_34 : decode cX9_readPowers 34 = .ok (.iload 5, 2) := by decide +kernel
theorem dX9_readPowers_36 : decode cX9_readPowers 36 = .ok (.if_icmp .lt 18, 3) := by decide +kernel
theorem dX9_readPowers_39 : decode cX9_readPowers 39 = .ok (.iload 7, 2) := by decide +kernel
theorem dX9_readPowers_41 : decode cX9_readPowers 41 = .ok (.getstatic 70, 3) := by decide +kernel
theorem dX9_readPowers_44 : decode cX9_readPowers 44 = .ok (.arraylength, 1) := by decide +kernel
theorem dX9_readPowers_45 : decode cX9_readPowers 45 = .ok (.if_icmp .ge 9, 3) := by decide +kernel
theorem dX9_readPowers_48 : decode cX9_readPowers 48 = .ok (.iload 4, 2) := by decide +kernel
theorem dX9_readPowers_50 : decode cX9_readPowers 50 = .ok (.iload_n 2, 1) := by decide +kernel
theorem dX9_readPowers_51 : decode cX9_readPowers 51 = .ok (.if_icmp .lt 5, 3) := by decide +kernel
theorem dX9_readPowers_54 : decode cX9_readPowers 54 = .ok (.iload_n 3, 1) := by decide +kernel
theorem dX9_readPowers_55 : decode cX9_readPowers 55 = .ok (.ireturn, 1) := by decide +kernel
theorem dX9_readPowers_56 : decode cX9_readPowers 56 = .ok (.aload_n 0, 1) := by decide +kernel
theorem dX9_readPowers_57 : decode cX9_readPowers 57 = .ok (.dup, 1) := by decide +kernel
theorem dX9_readPowers_58 : decode cX9_readPowers 58 = .ok (.getfield 38, 3) := by decide +kernel
theorem dX9_readPowers_61 : decode cX9_readPowers 61 = .ok (.iconst 1, 1) := by decide +kernel
theorem dX9_readPowers_62 : decode cX9_readPowers 62 = .ok (.iadd, 1) := by decide +kernel
theorem dX9_readPowers_63 : decode cX9_readPowers 63 = .ok (.putfield 38, 3) := by decide +kernel
theorem dX9_readPowers_66 : decode cX9_readPowers 66 = .ok (.iconst 1, 1) := by decide +kernel
theorem dX9_readPowers_67 : decode cX9_readPowers 67 = .ok (.istore 8, 2) := by decide +kernel
theorem dX9_readPowers_69 : decode cX9_readPowers 69 = .ok (.aload_n 0, 1) := by decide +kernel
theorem dX9_readPowers_70 : decode cX9_readPowers 70 = .ok (.aload_n 0, 1) := by decide +kernel
theorem dX9_readPowers_71 : decode cX9_readPowers 71 = .ok (.getfield 38, 3) := by decide +kernel
theorem dX9_readPowers_74 : decode cX9_readPowers 74 = .ok (.invokevirtual 19, 3) := by decide +kernel
theorem dX9_readPowers_77 : decode cX9_readPowers 77 = .ok (.bipush 94, 2) := by decide +kernel
theorem dX9_readPowers_79 : decode cX9_readPowers 79 = .ok (.if_icmp .ne 59, 3) := by decide +kernel
theorem dX9_readPowers_82 : decode cX9_readPowers 82 = .ok (.aload_n 0, 1) := by decide +kernel
theorem dX9_readPowers_83 : decode cX9_readPowers 83 = .ok (.dup, 1) := by decide +kernel
theorem dX9_readPowers_84 : decode cX9_readPowers 84 = .ok (.getfield 38, 3) := by decide +kernel
theorem dX9_readPowers_87 : decode cX9_readPowers 87 = .ok (.iconst 1, 1) := by decide +kernel
theorem dX9_readPowers_88 : decode cX9_readPowers 88 = .ok (.iadd, 1) := by decide +kernel
theorem dX9_readPowers_89 : decode cX9_readPowers 89 = .ok (.putfield 38, 3) := by decide +kernel
theorem dX9_readPowers_92 : decode cX9_readPowers 92 = .ok (.aload_n 0, 1) := by decide +kernel
theorem dX9_readPowers_93 : decode cX9_readPowers 93 = .ok (.aload_n 0, 1) := by decide +kernel
theorem dX9_readPowers_94 : decode cX9_readPowers 94 = .ok (.getfield 38, 3) := by decide +kernel
theorem dX9_readPowers_97 : decode cX9_readPowers 97 = .ok (.invokevirtual 19, 3) := by decide +kernel
theorem dX9_readPowers_100 : decode cX9_readPowers 100 = .ok (.bipush 48, 2) := by decide +kernel
theorem dX9_readPowers_102 : decode cX9_readPowers 102 = .ok (.isub, 1) := by decide +kernel
theorem dX9_readPowers_103 : decode cX9_readPowers 103 = .ok (.istore 8, 2) := by decide +kernel
theorem dX9_readPowers_105 : decode cX9_readPowers 105 = .ok (.iload 8, 2) := by decide +kernel
theorem dX9_readPowers_107 : decode cX9_readPowers 107 = .ok (.iconst 1, 1) := by decide +kernel
theorem dX9_readPowers_108 : decode cX9_readPowers 108 = .ok (.if_icmp .lt 18, 3) := by decide +kernel
theorem dX9_readPowers_111 : decode cX9_readPowers 111 = .ok (.iload 8, 2) := by decide +kernel
theorem dX9_readPowers_113 : decode cX9_readPowers 113 = .ok (.iconst 5, 1) := by decide +kernel
theorem dX9_readPowers_114 : decode cX9_readPowers 114 = .ok (.if_icmp .gt 12, 3) := by decide +kernel
theorem dX9_readPowers_117 : decode cX9_readPowers 117 = .ok (.iload 4, 2) := by decide +kernel
theorem dX9_readPowers_119 : decode cX9_readPowers 119 = .ok (.iload 8, 2) := by decide +kernel
theorem dX9_readPowers_121 : decode cX9_readPowers 121 = .ok (.iadd, 1) := by decide +kernel
theorem dX9_readPowers_122 : decode cX9_readPowers 122 = .ok (.iload_n 2, 1) := by decide +kernel
theorem dX9_readPowers_123 : decode cX9_readPowers 123 = .ok (.if_icmp .le 5, 3) := by decide +kernel
theorem dX9_readPowers_126 : decode cX9_readPowers 126 = .ok (.iconst (-1), 1) := by decide +kernel
theorem dX9_readPowers_127 : decode cX9_readPowers 127 = .ok (.ireturn, 1) := by decide +kernel
theorem dX9_readPowers_128 : decode cX9_readPowers 128 = .ok (.aload_n 0, 1) := by decide +kernel
theorem dX9_readPowers_129 : decode cX9_readPowers 129 = .ok (.dup, 1) := by decide +kernel
theorem dX9_readPowers_130 : decode cX9_readPowers 130 = .ok (.getfield 38, 3) := by decide +kernel
theorem dX9_readPowers_133 : decode cX9_readPowers 133 = .ok (.iconst 1, 1) := by decide +kernel
theorem dX9_readPowers_134 : decode cX9_readPowers 134 = .ok (.iadd, 1) := by decide +kernel
theorem dX9_readPowers_135 : decode cX9_readPowers 135 = .ok (.putfield 38, 3) := by decide +kernel
theorem dX9_readPowers_138 : decode cX9_readPowers 138 = .ok (.iload 4, 2) := by decide +kernel
theorem dX9_readPowers_140 : decode cX9_readPowers 140 = .ok (.iload 8, 2) := by decide +kernel
theorem dX9_readPowers_142 : decode cX9_readPowers 142 = .ok (.iadd, 1) := by decide +kernel
theorem dX9_readPowers_143 : decode cX9_readPowers 143 = .ok (.istore 4, 2) := by decide +kernel
theorem dX9_readPowers_145 : decode cX9_readPowers 145 = .ok (.iload_n 3, 1) := by decide +kernel
theorem dX9_readPowers_146 : decode cX9_readPowers 146 = .ok (.iload 8, 2) := by decide +kernel
theorem dX9_readPowers_148 : decode cX9_readPowers 148 = .ok (.getstatic 70, 3) := by decide +kernel
theorem dX9_readPowers_151 : decode cX9_readPowers 151 = .ok (.iload 7, 2) := by decide +kernel
theorem dX9_readPowers_153 : decode cX9_readPowers 153 = .ok (.iaload, 1) := by decide +kernel
theorem dX9_readPowers_154 : decode cX9_readPowers 154 = .ok (.imul, 1) := by decide +kernel
theorem dX9_readPowers_155 : decode cX9_readPowers 155 = .ok (.iadd, 1) := by decide +kernel
theorem dX9_readPowers_156 : decode cX9_readPowers 156 = .ok (.istore_n 3, 1) := by decide +kernel
theorem dX9_readPowers_157 : decode cX9_readPowers 157 = .ok (.iload 7, 2) := by decide +kernel
theorem dX9_readPowers_159 : decode cX9_readPowers 159 = .ok (.iconst 1, 1) := by decide +kernel
theorem dX9_readPowers_160 : decode cX9_readPowers 160 = .ok (.iadd, 1) := by decide +kernel
theorem dX9_readPowers_161 : decode cX9_readPowers 161 = .ok (.istore 5, 2) := by decide +kernel
theorem dX9_readPowers_163 : decode cX9_readPowers 163 = .ok (.iinc 6 1, 3) := by decide +kernel
theorem dX9_readPowers_166 : decode cX9_readPowers 166 = .ok (.goto (-155), 3) := by decide +kernel
theorem dX9_readPowers_169 : decode cX9_readPowers 169 = .ok (.iload_n 3, 1) := by decide +kernel
theorem dX9_readPowers_170 : decode cX9_readPowers 170 = .ok (.ireturn, 1) := by decide +kernel
set_option maxHeartbeats 4000000 in
set_option maxRecDepth 100000 in
theorem cn_X9_readPowers {l : Launch} {cA : Nat → ClassId} {ad : Nat → Nat} {D : va_G} {E : Nat → Nat} {A : Nat → Prop} {k1 : Nat} {x2 : Int32} {s0 sr : SS} {rr : Int32} (hf : f_X9_readPowers k1 x2 s0 = some (rr, sr)) : zCon Ox Nx cA ad D E l yX9_readPowers cX9_readPowers 9 (some .int) 2 A [.ref (ad 8), .ref (ad k1), .int x2] s0 (some (.int rr)) sr := by
  refine zstart (own := RX9) hOx (by decide) rfl (Nat.le_of_ble_eq_true rfl) ?_
  intro p e s m args below meth c X hP ls hl
  have hx := X.1
  have hb := X.2.1
  have hl : lv_has ls 9 [(0, .ref (ad 8)), (1, .ref (ad k1)), (2, .int x2)] := hl
  have hS : va_S A s.heap s.heap [] := va_S.rf
  have hc_11 : ∀ (n11 : Nat) (k1 : Nat) (x2 : Int32) (x3 : Int32) (x4 : Int32) (x5 : Int32) (x6 : Int32) (s1 : SS) (H : Heap) (locs : List Loc) (ls : Array Slot), lv_has ls 9 [(0, .ref (ad 8)), (1, .ref (ad k1)), (2, .int x2), (3, .int x3), (4, .int x4), (5, .int x5), (6, .int x6)] → va_P D ZCL (zw Ox Nx cA ad s1) H → va_S A s.heap H locs → f_X9_readPowers_c11 n11 k1 x2 x3 x4 x5 x6 s1 = some (rr, sr) → W p l e (zrm 2) s m args below meth c H locs 0 0 (MQ below (zQc Ox Nx cA ad D A (some (.int rr)) sr) args s 0 0 A) (F0 m 11 ls []) := by
    intro n11
    induction n11 with
    | zero =>
      intro k1 x2 x3 x4 x5 x6 s1 H locs ls hl hP hS hf
      rw [f_X9_readPowers_c11] at hf
      cases hf
    | succ n11 ih11 =>
      have hc_138 : ∀ (k1 : Nat) (x2 : Int32) (x3 : Int32) (x4 : Int32) (x6 : Int32) (x7 : Int32) (x8 : Int32) (s1 : SS) (H : Heap) (locs : List Loc) (ls : Array Slot), lv_has ls 9 [(0, .ref (ad 8)), (1, .ref (ad k1)), (2, .int x2), (3, .int x3), (4, .int x4), (6, .int x6), (7, .int x7), (8, .int x8)] → va_P D ZCL (zw Ox Nx cA ad s1) H → va_S A s.heap H locs → f_X9_readPowers_c138 (f_X9_readPowers_c11 n11) k1 x2 x3 x4 x6 x7 x8 s1 = some (rr, sr) → W p l e (zrm 2) s m args below meth c H locs 0 0 (MQ below (zQc Ox Nx cA ad D A (some (.int rr)) sr) args s 0 0 A) (F0 m 138 ls []) := by
        intro k1 x2 x3 x4 x6 x7 x8 s1 H locs ls hl hP hS hf
        rw [f_X9_readPowers_c138] at hf
        obtain ⟨gp1, hf⟩ := zgd hf
        refine lv_iload hx hb dX9_readPowers_138 (lv_at hl 4 rfl) ?_
        refine lv_iload hx hb dX9_readPowers_140 (lv_at hl 7 rfl) ?_
        refine lv_iadd hx hb dX9_readPowers_142 ?_
        refine lv_istore (lv' := [(4, .int (x4 + x8)), (0, .ref (ad 8)), (1, .ref (ad k1)), (2, .int x2), (3, .int x3), (6, .int x6), (7, .int x7), (8, .int x8)]) hx hb dX9_readPowers_143 hl (by decide) rfl (fun ls hl => ?_)
        refine lv_iload_n hx hb dX9_readPowers_145 rfl (lv_at hl 4 rfl) ?_
        refine lv_iload hx hb dX9_readPowers_146 (lv_at hl 7 rfl) ?_
        refine zgsN X hS (i := 0) rfl nf_X9_70 dX9_readPowers_148 ?_
        refine lv_iload hx hb dX9_readPowers_151 (lv_at hl 6 rfl) ?_
        obtain ⟨g10, hf⟩ := zgd hf
        refine zst X hS (k := 0) (n := 6) rfl rfl g10 dX9_readPowers_153 ?_
        refine lv_imul hx hb dX9_readPowers_154 ?_
        refine lv_iadd hx hb dX9_readPowers_155 ?_
        refine lv_istore_n (lv' := [(3, .int (x3 + (x8 * (ztab 0 x7)))), (4, .int (x4 + x8)), (0, .ref (ad 8)), (1, .ref (ad k1)), (2, .int x2), (6, .int x6), (7, .int x7), (8, .int x8)]) hx hb dX9_readPowers_156 rfl hl (by decide) rfl (fun ls hl => ?_)
        refine lv_iload hx hb dX9_readPowers_157 (lv_at hl 6 rfl) ?_
        refine lv_iconst (v := 1) hx hb dX9_readPowers_159 (by decide) ?_
        refine lv_iadd hx hb dX9_readPowers_160 ?_
        refine lv_istore (lv' := [(5, .int (x7 + (1 : Int32))), (3, .int (x3 + (x8 * (ztab 0 x7)))), (4, .int (x4 + x8)), (0, .ref (ad 8)), (1, .ref (ad k1)), (2, .int x2), (6, .int x6), (7, .int x7), (8, .int x8)]) hx hb dX9_readPowers_161 hl (by decide) rfl (fun ls hl => ?_)
        refine lv_iinc (v := (x6 + 1)) (lv' := [(6, .int (x6 + 1)), (5, .int (x7 + (1 : Int32))), (3, .int (x3 + (x8 * (ztab 0 x7)))), (4, .int (x4 + x8)), (0, .ref (ad 8)), (1, .ref (ad k1)), (2, .int x2), (7, .int x7), (8, .int x8)]) hx hb dX9_readPowers_163 hl (k := 6) rfl rfl (by decide) rfl (fun ls hl => ?_)
        refine lv_goto (tgt := 11) hx hb dX9_readPowers_166 (by decide) ?_
        exact ih11 k1 x2 (x3 + (x8 * (ztab 0 x7))) (x4 + x8) (x7 + (1 : Int32)) (x6 + 1) s1 _ _ _ (lv_sub hl [4, 5, 6, 2, 3, 1, 0] rfl) hP hS hf
      intro k1 x2 x3 x4 x5 x6 s1 H locs ls hl hP hS hf
      rw [f_X9_readPowers_c11] at hf
      obtain ⟨gp1, hf⟩ := zgd hf
      refine lv_iload hx hb dX9_readPowers_11 (lv_at hl 6 rfl) ?_
      refine lv_bipush (v := 6) hx hb dX9_readPowers_13 (by decide) ?_
      refine zicmp_ge (tgt := 169) hx hb dX9_readPowers_15 (by decide) hf (fun hf => ?_) (fun hf => ?_)
      · refine lv_iload_n hx hb dX9_readPowers_169 rfl (lv_at hl 3 rfl) ?_
        exact zret_i X hP hS hf rfl dX9_readPowers_170
      · refine lv_aload_n hx hb dX9_readPowers_18 rfl (lv_at hl 1 rfl) ?_
        refine lv_aload_n hx hb dX9_readPowers_19 rfl (lv_at hl 0 rfl) ?_
        refine lv_aload_n hx hb dX9_readPowers_20 rfl (lv_at hl 0 rfl) ?_
        refine gf_X9_38 X hP (k := 8) rfl dX9_readPowers_21 ?_
        obtain ⟨r1, s2, h3, hf⟩ := zbd_some hf
        refine zcallV X hP hS hl.1 (k := 8) (As := [.int (s1.1 8 2)]) (rest := [.ref (ad k1)]) (cn_X9_signAt h3) cw_X9_signAt zp_9 rfl (by decide) rfl ml_X9_19 (by decide) rfl rfl (Nat.le_of_ble_eq_true rfl) dX9_readPowers_24 (fun H locs hP hS => ?_)
        obtain ⟨r4, s5, h6, hf⟩ := zbd_some hf
        refine zcallV X hP hS hl.1 (k := k1) (As := [.int r1]) (rest := []) (cn_X7_letterOf h6) cw_X7_letterOf zp_7 gp1 (by decide) rfl ml_X9_65 (by decide) rfl rfl (Nat.le_of_ble_eq_true rfl) dX9_readPowers_27 (fun H locs hP hS => ?_)
        refine lv_istore (lv' := [(7, .int r4), (0, .ref (ad 8)), (1, .ref (ad k1)), (2, .int x2), (3, .int x3), (4, .int x4), (5, .int x5), (6, .int x6)]) hx hb dX9_readPowers_30 hl (by decide) rfl (fun ls hl => ?_)
        refine lv_iload hx hb dX9_readPowers_32 (lv_at hl 0 rfl) ?_
        refine lv_iload hx hb dX9_readPowers_34 (lv_at hl 6 rfl) ?_
        refine zicmp_lt (tgt := 54) hx hb dX9_readPowers_36 (by decide) hf (fun hf => ?_) (fun hf => ?_)
        · refine lv_iload_n hx hb dX9_readPowers_54 rfl (lv_at hl 4 rfl) ?_
          exact zret_i X hP hS hf rfl dX9_readPowers_55
        · refine lv_iload hx hb dX9_readPowers_39 (lv_at hl 0 rfl) ?_
          refine zgsN X hS (i := 0) rfl nf_X9_70 dX9_readPowers_41 ?_
          refine zstl X hS (k := 0) (v := 6) rfl (by decide) dX9_readPowers_44 ?_
          refine zicmp_ge (tgt := 54) hx hb dX9_readPowers_45 (by decide) hf (fun hf => ?_) (fun hf => ?_)
          · refine lv_iload_n hx hb dX9_readPowers_54 rfl (lv_at hl 4 rfl) ?_
            exact zret_i X hP hS hf rfl dX9_readPowers_55
          · refine lv_iload hx hb dX9_readPowers_48 (lv_at hl 5 rfl) ?_
            refine lv_iload_n hx hb dX9_readPowers_50 rfl (lv_at hl 3 rfl) ?_
            refine zicmp_lt (tgt := 56) hx hb dX9_readPowers_51 (by decide) hf (fun hf => ?_) (fun hf => ?_)
            · refine lv_aload_n hx hb dX9_readPowers_56 rfl (lv_at hl 1 rfl) ?_
              refine lv_dup hx hb dX9_readPowers_57 rfl ?_
              refine gf_X9_38 X hP (k := 8) rfl dX9_readPowers_58 ?_
              refine lv_iconst (v := 1) hx hb dX9_readPowers_61 (by decide) ?_
              refine lv_iadd hx hb dX9_readPowers_62 ?_
              refine pf_X9_38 X hP hS (k := 8) rfl dX9_readPowers_63 (fun H locs hP hS => ?_)
              refine lv_iconst (v := 1) hx hb dX9_readPowers_66 (by decide) ?_
              refine lv_istore (lv' := [(8, .int 1), (7, .int r4), (0, .ref (ad 8)), (1, .ref (ad k1)), (2, .int x2), (3, .int x3), (4, .int x4), (5, .int x5), (6, .int x6)]) hx hb dX9_readPowers_67 hl (by decide) rfl (fun ls hl => ?_)
              refine lv_aload_n hx hb dX9_readPowers_69 rfl (lv_at hl 2 rfl) ?_
              refine lv_aload_n hx hb dX9_readPowers_70 rfl (lv_at hl 2 rfl) ?_
              refine gf_X9_38 X hP (k := 8) rfl dX9_readPowers_71 ?_
              obtain ⟨r7, s8, h9, hf⟩ := zbd_some hf
              refine zcallV X hP hS hl.1 (k := 8) (As := [.int ((zS s5 8 2 ((s5.1 8 2) + (1 : Int32))).1 8 2)]) (rest := []) (cn_X9_signAt h9) cw_X9_signAt zp_9 rfl (by decide) rfl ml_X9_19 (by decide) rfl rfl (Nat.le_of_ble_eq_true rfl) dX9_readPowers_74 (fun H locs hP hS => ?_)
              refine lv_bipush (v := 94) hx hb dX9_readPowers_77 (by decide) ?_
              refine zicmp_ne (tgt := 138) hx hb dX9_readPowers_79 (by decide) hf (fun hf => ?_) (fun hf => ?_)
              · exact hc_138 k1 x2 x3 x4 x6 r4 1 s8 _ _ _ (lv_sub hl [2, 3, 4, 5, 6, 8, 1, 0] rfl) hP hS hf
              · refine lv_aload_n hx hb dX9_readPowers_82 rfl (lv_at hl 2 rfl) ?_
                refine lv_dup hx hb dX9_readPowers_83 rfl ?_
                refine gf_X9_38 X hP (k := 8) rfl dX9_readPowers_84 ?_
                refine lv_iconst (v := 1) hx hb dX9_readPowers_87 (by decide) ?_
                refine lv_iadd hx hb dX9_readPowers_88 ?_
                refine pf_X9_38 X hP hS (k := 8) rfl dX9_readPowers_89 (fun H locs hP hS => ?_)
                refine lv_aload_n hx hb dX9_readPowers_92 rfl (lv_at hl 2 rfl) ?_
                refine lv_aload_n hx hb dX9_readPowers_93 rfl (lv_at hl 2 rfl) ?_
                refine gf_X9_38 X hP (k := 8) rfl dX9_readPowers_94 ?_
                obtain ⟨r11, s12, h13, hf⟩ := zbd_some hf
                refine zcallV X hP hS hl.1 (k := 8) (As := [.int ((zS s8 8 2 ((s8.1 8 2) + (1 : Int32))).1 8 2)]) (rest := []) (cn_X9_signAt h13) cw_X9_signAt zp_9 rfl (by decide) rfl ml_X9_19 (by decide) rfl rfl (Nat.le_of_ble_eq_true rfl) dX9_readPowers_97 (fun H locs hP hS => ?_)
                refine lv_bipush (v := 48) hx hb dX9_readPowers_100 (by decide) ?_
                refine lv_isub hx hb dX9_readPowers_102 ?_
                refine lv_istore (lv' := [(8, .int (r11 - (48 : Int32))), (7, .int r4), (0, .ref (ad 8)), (1, .ref (ad k1)), (2, .int x2), (3, .int x3), (4, .int x4), (5, .int x5), (6, .int x6)]) hx hb dX9_readPowers_103 hl (by decide) rfl (fun ls hl => ?_)
                refine lv_iload hx hb dX9_readPowers_105 (lv_at hl 0 rfl) ?_
                refine lv_iconst (v := 1) hx hb dX9_readPowers_107 (by decide) ?_
                refine zicmp_lt (tgt := 126) hx hb dX9_readPowers_108 (by decide) hf (fun hf => ?_) (fun hf => ?_)
                · refine lv_iconst (v := (-1)) hx hb dX9_readPowers_126 (by decide) ?_
                  exact zret_i X hP hS hf rfl dX9_readPowers_127
                · refine lv_iload hx hb dX9_readPowers_111 (lv_at hl 0 rfl) ?_
                  refine lv_iconst (v := 5) hx hb dX9_readPowers_113 (by decide) ?_
                  refine zicmp_gt (tgt := 126) hx hb dX9_readPowers_114 (by decide) hf (fun hf => ?_) (fun hf => ?_)
                  · refine lv_iconst (v := (-1)) hx hb dX9_readPowers_126 (by decide) ?_
                    exact zret_i X hP hS hf rfl dX9_readPowers_127
                  · refine lv_iload hx hb dX9_readPowers_117 (lv_at hl 6 rfl) ?_
                    refine lv_iload hx hb dX9_readPowers_119 (lv_at hl 0 rfl) ?_
                    refine lv_iadd hx hb dX9_readPowers_121 ?_
                    refine lv_iload_n hx hb dX9_readPowers_122 rfl (lv_at hl 4 rfl) ?_
                    refine zicmp_le (tgt := 128) hx hb dX9_readPowers_123 (by decide) hf (fun hf => ?_) (fun hf => ?_)
                    · refine lv_aload_n hx hb dX9_readPowers_128 rfl (lv_at hl 2 rfl) ?_
                      refine lv_dup hx hb dX9_readPowers_129 rfl ?_
                      refine gf_X9_38 X hP (k := 8) rfl dX9_readPowers_130 ?_
                      refine lv_iconst (v := 1) hx hb dX9_readPowers_133 (by decide) ?_
                      refine lv_iadd hx hb dX9_readPowers_134 ?_
                      refine pf_X9_38 X hP hS (k := 8) rfl dX9_readPowers_135 (fun H locs hP hS => ?_)
                      exact hc_138 k1 x2 x3 x4 x6 r4 (r11 - (48 : Int32)) (zS s12 8 2 ((s12.1 8 2) + (1 : Int32))) _ _ _ (lv_sub hl [2, 3, 4, 5, 6, 8, 1, 0] rfl) hP hS hf
                    · refine lv_iconst (v := (-1)) hx hb dX9_readPowers_126 (by decide) ?_
                      exact zret_i X hP hS hf rfl dX9_readPowers_127
            · refine lv_iload_n hx hb dX9_readPowers_54 rfl (lv_at hl 4 rfl) ?_
              exact zret_i X hP hS hf rfl dX9_readPowers_55
  rw [f_X9_readPowers] at hf
  obtain ⟨gp1, hf⟩ := zgd hf
  refine lv_iconst (v := 0) hx hb dX9_readPowers_0 (by decide) ?_
  refine lv_istore_n (lv' := [(3, .int 0), (0, .ref (ad 8)), (1, .ref (ad k1)), (2, .int x2)]) hx hb dX9_readPowers_1 rfl hl (by decide) rfl (fun ls hl => ?_)
  refine lv_iconst (v := 0) hx hb dX9_readPowers_2 (by decide) ?_
  refine lv_istore (lv' := [(4, .int 0), (3, .int 0), (0, .ref (ad 8)), (1, .ref (ad k1)), (2, .int x2)]) hx hb dX9_readPowers_3 hl (by decide) rfl (fun ls hl => ?_)
  refine lv_iconst (v := 0) hx hb dX9_readPowers_5 (by decide) ?_
  refine lv_istore (lv' := [(5, .int 0), (4, .int 0), (3, .int 0), (0, .ref (ad 8)), (1, .ref (ad k1)), (2, .int x2)]) hx hb dX9_readPowers_6 hl (by decide) rfl (fun ls hl => ?_)
  refine lv_iconst (v := 0) hx hb dX9_readPowers_8 (by decide) ?_
  refine lv_istore (lv' := [(6, .int 0), (5, .int 0), (4, .int 0), (3, .int 0), (0, .ref (ad 8)), (1, .ref (ad k1)), (2, .int x2)]) hx hb dX9_readPowers_9 hl (by decide) rfl (fun ls hl => ?_)
  exact hc_11 ZF k1 x2 0 0 0 0 s0 _ _ _ (lv_sub hl [4, 5, 6, 3, 2, 1, 0] rfl) hP hS hf
theorem dX9_readMember_0 : decode cX9_readMember 0 = .ok (.aload_n 0, 1) := by decide +kernel
theorem dX9_readMember_1 : decode cX9_readMember 1 = .ok (.getfield 38, 3) := by decide +kernel
theorem dX9_readMember_4 : decode cX9_readMember 4 = .ok (.istore 5, 2) := by decide +kernel
theorem dX9_readMember_6 : decode cX9_readMember 6 = .ok (.lconst 0, 1) := by decide +kernel
theorem dX9_readMember_7 : decode cX9_readMember 7 = .ok (.lstore 6, 2) := by decide +kernel
theorem dX9_readMember_9 : decode cX9_readMember 9 = .ok (.iconst 0, 1) := by decide +kernel
theorem dX9_readMember_10 : decode cX9_readMember 10 = .ok (.istore 8, 2) := by decide +kernel
theorem dX9_readMember_12 : decode cX9_readMember 12 = .ok (.iload 8, 2) := by decide +kernel
theorem dX9_readMember_14 : decode cX9_readMember 14 = .ok (.iconst 4, 1) := by decide +kernel
theorem dX9_readMember_15 : decode cX9_readMember 15 = .ok (.if_icmp .ge 55, 3) := by decide +kernel
theorem dX9_readMember_18 : decode cX9_readMember 18 = .ok (.aload_n 0, 1) := by decide +kernel
theorem dX9_readMember_19 : decode cX9_readMember 19 = .ok (.aload_n 0, 1) := by decide +kernel
theorem dX9_readMember_20 : decode cX9_readMember 20 = .ok (.getfield 38, 3) := by decide +kernel
theorem dX9_readMember_23 : decode cX9_readMember 23 = .ok (.invokevirtual 19, 3) := by decide +kernel
theorem dX9_readMember_26 : decode cX9_readMember 26 = .ok (.invokestatic 45, 3) := by decide +kernel
theorem dX9_readMember_29 : decode cX9_readMember 29 = .ok (.ifCond .eq 41, 3) := by decide +kernel
theorem dX9_readMember_32 : decode cX9_readMember 32 = .ok (.lload 6, 2) := by decide +kernel
theorem dX9_readMember_34 : decode cX9_readMember 34 = .ok (.ldc2_w 49, 3) := by decide +kernel
theorem dX9_readMember_37 : decode cX9_readMember 37 = .ok (.lmul, 1) := by decide +kernel
theorem dX9_readMember_38 : decode cX9_readMember 38 = .ok (.aload_n 0, 1) := by decide +kernel
theorem dX9_readMember_39 : decode cX9_readMember 39 = .ok (.aload_n 0, 1) := by decide +kernel
theorem dX9_readMember_40 : decode cX9_readMember 40 = .ok (.getfield 38, 3) := by decide +kernel
theorem dX9_readMember_43 : decode cX9_readMember 43 = .ok (.invokevirtual 19, 3) := by decide +kernel
theorem dX9_readMember_46 : decode cX9_readMember 46 = .ok (.i2l, 1) := by decide +kernel
theorem dX9_readMember_47 : decode cX9_readMember 47 = .ok (.ladd, 1) := by decide +kernel
theorem dX9_readMember_48 : decode cX9_readMember 48 = .ok (.ldc2_w 51, 3) := by decide +kernel
theorem dX9_readMember_51 : decode cX9_readMember 51 = .ok (.lsub, 1) := by decide +kernel
theorem dX9_readMember_52 : decode cX9_readMember 52 = .ok (.lstore 6, 2) := by decide +kernel
theorem dX9_readMember_54 : decode cX9_readMember 54 = .ok (.aload_n 0, 1) := by decide +kernel
theorem dX9_readMember_55 : decode cX9_readMember 55 = .ok (.dup, 1) := by decide +kernel
theorem dX9_readMember_56 : decode cX9_readMember 56 = .ok (.getfield 38, 3) := by decide +kernel
theorem dX9_readMember_59 : decode cX9_readMember 59 = .ok (.iconst 1, 1) := by decide +kernel
theorem dX9_readMember_60 : decode cX9_readMember 60 = .ok (.iadd, 1) := by decide +kernel
theorem dX9_readMember_61 : decode cX9_readMember 61 = .ok (.putfield 38, 3) := by decide +kernel
theorem dX9_readMember_64 : decode cX9_readMember 64 = .ok (.iinc 8 1, 3) := by decide +kernel
theorem dX9_readMember_67 : decode cX9_readMember 67 = .ok (.goto (-55), 3) := by decide +kernel
theorem dX9_readMember_70 : decode cX9_readMember 70 = .ok (.aload_n 0, 1) := by decide +kernel
theorem dX9_readMember_71 : decode cX9_readMember 71 = .ok (.getfield 38, 3) := by decide +kernel
theorem dX9_readMember_74 : decode cX9_readMember 74 = .ok (.iload 5, 2) := by decide +kernel
theorem dX9_readMember_76 : decode cX9_readMember 76 = .ok (.if_icmp .ne 6, 3) := by decide +kernel
theorem dX9_readMember_79 : decode cX9_readMember 79 = .ok (.lconst 1, 1) := by decide +kernel
theorem dX9_readMember_80 : decode cX9_readMember 80 = .ok (.lstore 6, 2) := by decide +kernel
theorem dX9_readMember_82 : decode cX9_readMember 82 = .ok (.aload_n 0, 1) := by decide +kernel
theorem dX9_readMember_83 : decode cX9_readMember 83 = .ok (.aload_n 1, 1) := by decide +kernel
theorem dX9_readMember_84 : decode cX9_readMember 84 = .ok (.aload_n 2, 1) := by decide +kernel
theorem dX9_readMember_85 : decode cX9_readMember 85 = .ok (.getfield 53, 3) := by decide +kernel
theorem dX9_readMember_88 : decode cX9_readMember 88 = .ok (.invokevirtual 58, 3) := by decide +kernel
theorem dX9_readMember_91 : decode cX9_readMember 91 = .ok (.istore 8, 2) := by decide +kernel
theorem dX9_readMember_93 : decode cX9_readMember 93 = .ok (.iload 8, 2) := by decide +kernel
theorem dX9_readMember_95 : decode cX9_readMember 95 = .ok (.ifCond .lt 12, 3) := by decide +kernel
theorem dX9_readMember_98 : decode cX9_readMember 98 = .ok (.aload_n 0, 1) := by decide +kernel
theorem dX9_readMember_99 : decode cX9_readMember 99 = .ok (.getfield 38, 3) := by decide +kernel
theorem dX9_readMember_102 : decode cX9_readMember 102 = .ok (.iload 5, 2) := by decide +kernel
theorem dX9_readMember_104 : decode cX9_readMember 104 = .ok (.if_icmp .ne 5, 3) := by decide +kernel
theorem dX9_readMember_107 : decode cX9_readMember 107 = .ok (.iconst 0, 1) := by decide +kernel
theorem dX9_readMember_108 : decode cX9_readMember 108 = .ok (.ireturn, 1) := by decide +kernel
theorem dX9_readMember_109 : decode cX9_readMember 109 = .ok (.aload_n 2, 1) := by decide +kernel
theorem dX9_readMember_110 : decode cX9_readMember 110 = .ok (.iload 8, 2) := by decide +kernel
theorem dX9_readMember_112 : decode cX9_readMember 112 = .ok (.invokevirtual 62, 3) := by decide +kernel
theorem dX9_readMember_115 : decode cX9_readMember 115 = .ok (.istore 9, 2) := by decide +kernel
theorem dX9_readMember_117 : decode cX9_readMember 117 = .ok (.iload 9, 2) := by decide +kernel
theorem dX9_readMember_119 : decode cX9_readMember 119 = .ok (.ifCond .lt 23, 3) := by decide +kernel
theorem dX9_readMember_122 : decode cX9_readMember 122 = .ok (.aload 4, 2) := by decide +kernel
theorem dX9_readMember_124 : decode cX9_readMember 124 = .ok (.iload 9, 2) := by decide +kernel
theorem dX9_readMember_126 : decode cX9_readMember 126 = .ok (.dup2, 1) := by decide +kernel
theorem dX9_readMember_127 : decode cX9_readMember 127 = .ok (.laload, 1) := by decide +kernel
theorem dX9_readMember_128 : decode cX9_readMember 128 = .ok (.iload_n 3, 1) := by decide +kernel
theorem dX9_readMember_129 : decode cX9_readMember 129 = .ok (.ifCond .eq 9, 3) := by decide +kernel
theorem dX9_readMember_132 : decode cX9_readMember 132 = .ok (.lload 6, 2) := by decide +kernel
theorem dX9_readMember_134 : decode cX9_readMember 134 = .ok (.lneg, 1) := by decide +kernel
theorem dX9_readMember_135 : decode cX9_readMember 135 = .ok (.goto 5, 3) := by decide +kernel
theorem dX9_readMember_138 : decode cX9_readMember 138 = .ok (.lload 6, 2) := by decide +kernel
theorem dX9_readMember_140 : decode cX9_readMember 140 = .ok (.ladd, 1) := by decide +kernel
theorem dX9_readMember_141 : decode cX9_readMember 141 = .ok (.lastore, 1) := by decide +kernel
theorem dX9_readMember_142 : decode cX9_readMember 142 = .ok (.iconst 1, 1) := by decide +kernel
theorem dX9_readMember_143 : decode cX9_readMember 143 = .ok (.ireturn, 1) := by decide +kernel
set_option maxHeartbeats 4000000 in
set_option maxRecDepth 100000 in
theorem cn_X9_readMember {l : Launch} {cA : Nat → ClassId} {ad : Nat → Nat} {D : va_G} {E : Nat → Nat} {A : Nat → Prop} {k1 : Nat} {x3 : Int32} {k4 : Nat} {s0 sr : SS} {rr : Int32} (hf : f_X9_readMember k1 x3 k4 s0 = some (rr, sr)) : zCon Ox Nx cA ad D E l yX9_readMember cX9_readMember 10 (some .boolean) 3 A [.ref (ad 8), .ref (ad k1), .ref (ad 6), .int x3, .ref (ad k4)] s0 (some (.int rr)) sr := by
  refine zstart (own := RX9) hOx (by decide) rfl (Nat.le_of_ble_eq_true rfl) ?_
  intro p e s m args below meth c X hP ls hl
  have hx := X.1
  have hb := X.2.1
  have hl : lv_has ls 10 [(0, .ref (ad 8)), (1, .ref (ad k1)), (2, .ref (ad 6)), (3, .int x3), (4, .ref (ad k4))] := hl
  have hS : va_S A s.heap s.heap [] := va_S.rf
  have hc_12 : ∀ (n12 : Nat) (k1 : Nat) (x3 : Int32) (k4 : Nat) (x5 : Int32) (x6 : Int64) (x8 : Int32) (s1 : SS) (H : Heap) (locs : List Loc) (ls : Array Slot), lv_has ls 10 [(0, .ref (ad 8)), (1, .ref (ad k1)), (2, .ref (ad 6)), (3, .int x3), (4, .ref (ad k4)), (5, .int x5), (6, .long x6), (8, .int x8)] → va_P D ZCL (zw Ox Nx cA ad s1) H → va_S A s.heap H locs → f_X9_readMember_c12 n12 k1 x3 k4 x5 x6 x8 s1 = some (rr, sr) → W p l e (zrm 3) s m args below meth c H locs 0 0 (MQ below (zQc Ox Nx cA ad D A (some (.int rr)) sr) args s 0 0 A) (F0 m 12 ls []) := by
    intro n12
    induction n12 with
    | zero =>
      intro k1 x3 k4 x5 x6 x8 s1 H locs ls hl hP hS hf
      rw [f_X9_readMember_c12] at hf
      cases hf
    | succ n12 ih12 =>
      have hc_140 : ∀ (t0 : Int64) (t1 : Int64) (t2 : Int32) (kt3 : Nat) (s1 : SS) (H : Heap) (locs : List Loc) (ls : Array Slot), lv_has ls 10 [] → va_P D ZCL (zw Ox Nx cA ad s1) H → va_S A s.heap H locs → f_X9_readMember_c140 t0 t1 t2 kt3 s1 = some (rr, sr) → W p l e (zrm 3) s m args below meth c H locs 0 0 (MQ below (zQc Ox Nx cA ad D A (some (.int rr)) sr) args s 0 0 A) (F0 m 140 ls [.long t0, .long t1, .int t2, .ref (ad kt3)]) := by
        intro t0 t1 t2 kt3 s1 H locs ls hl hP hS hf
        rw [f_X9_readMember_c140] at hf
        refine lv_ladd hx hb dX9_readMember_140 ?_
        obtain ⟨g8, hf⟩ := zgd hf
        obtain ⟨n9, rn9, on9, in9⟩ := zok_of g8
        refine zast_l X hP hS (k := kt3) on9 in9 dX9_readMember_141 (fun H locs hP hS => ?_)
        refine lv_iconst (v := 1) hx hb dX9_readMember_142 (by decide) ?_
        exact zret_i X hP hS hf rfl dX9_readMember_143
      have hc_82 : ∀ (k1 : Nat) (x3 : Int32) (k4 : Nat) (x5 : Int32) (x6 : Int64) (s1 : SS) (H : Heap) (locs : List Loc) (ls : Array Slot), lv_has ls 10 [(0, .ref (ad 8)), (1, .ref (ad k1)), (2, .ref (ad 6)), (3, .int x3), (4, .ref (ad k4)), (5, .int x5), (6, .long x6)] → va_P D ZCL (zw Ox Nx cA ad s1) H → va_S A s.heap H locs → f_X9_readMember_c82 k1 x3 k4 x5 x6 s1 = some (rr, sr) → W p l e (zrm 3) s m args below meth c H locs 0 0 (MQ below (zQc Ox Nx cA ad D A (some (.int rr)) sr) args s 0 0 A) (F0 m 82 ls []) := by
        intro k1 x3 k4 x5 x6 s1 H locs ls hl hP hS hf
        rw [f_X9_readMember_c82] at hf
        obtain ⟨gp1, hf⟩ := zgd hf
        refine lv_aload_n hx hb dX9_readMember_82 rfl (lv_at hl 0 rfl) ?_
        refine lv_aload_n hx hb dX9_readMember_83 rfl (lv_at hl 1 rfl) ?_
        refine lv_aload_n hx hb dX9_readMember_84 rfl (lv_at hl 2 rfl) ?_
        refine gf_X9_53 X hP (k := 6) rfl dX9_readMember_85 ?_
        obtain ⟨r1, s2, h3, hf⟩ := zbd_some hf
        refine zcallV X hP hS hl.1 (k := 8) (As := [.ref (ad k1), .int (s1.1 6 0)]) (rest := []) (cn_X9_readPowers h3) cw_X9_readPowers zp_9 rfl (by decide) rfl ml_X9_58 (by decide) rfl rfl (Nat.le_of_ble_eq_true rfl) dX9_readMember_88 (fun H locs hP hS => ?_)
        refine lv_istore (lv' := [(8, .int r1), (0, .ref (ad 8)), (1, .ref (ad k1)), (2, .ref (ad 6)), (3, .int x3), (4, .ref (ad k4)), (5, .int x5), (6, .long x6)]) hx hb dX9_readMember_91 hl (by decide) rfl (fun ls hl => ?_)
        refine lv_iload hx hb dX9_readMember_93 (lv_at hl 0 rfl) ?_
        refine zif_lt (tgt := 107) hx hb dX9_readMember_95 (by decide) hf (fun hf => ?_) (fun hf => ?_)
        · refine lv_iconst (v := 0) hx hb dX9_readMember_107 (by decide) ?_
          exact zret_i X hP hS hf rfl dX9_readMember_108
        · refine lv_aload_n hx hb dX9_readMember_98 rfl (lv_at hl 1 rfl) ?_
          refine gf_X9_38 X hP (k := 8) rfl dX9_readMember_99 ?_
          refine lv_iload hx hb dX9_readMember_102 (lv_at hl 6 rfl) ?_
          refine zicmp_ne (tgt := 109) hx hb dX9_readMember_104 (by decide) hf (fun hf => ?_) (fun hf => ?_)
          · refine lv_aload_n hx hb dX9_readMember_109 rfl (lv_at hl 3 rfl) ?_
            refine lv_iload hx hb dX9_readMember_110 (lv_at hl 0 rfl) ?_
            obtain ⟨r4, s5, h6, hf⟩ := zbd_some hf
            refine zcallV X hP hS hl.1 (k := 6) (As := [.int r1]) (rest := []) (cn_X10_find h6) cw_X10_find zp_10 rfl (by decide) rfl ml_X9_62 (by decide) rfl rfl (Nat.le_of_ble_eq_true rfl) dX9_readMember_112 (fun H locs hP hS => ?_)
            refine lv_istore (lv' := [(9, .int r4), (8, .int r1), (0, .ref (ad 8)), (1, .ref (ad k1)), (2, .ref (ad 6)), (3, .int x3), (4, .ref (ad k4)), (5, .int x5), (6, .long x6)]) hx hb dX9_readMember_115 hl (by decide) rfl (fun ls hl => ?_)
            refine lv_iload hx hb dX9_readMember_117 (lv_at hl 0 rfl) ?_
            refine zif_lt (tgt := 142) hx hb dX9_readMember_119 (by decide) hf (fun hf => ?_) (fun hf => ?_)
            · refine lv_iconst (v := 1) hx hb dX9_readMember_142 (by decide) ?_
              exact zret_i X hP hS hf rfl dX9_readMember_143
            · refine lv_aload hx hb dX9_readMember_122 (lv_at hl 6 rfl) ?_
              refine lv_iload hx hb dX9_readMember_124 (lv_at hl 0 rfl) ?_
              refine lv_dup2_11 hx hb dX9_readMember_126 rfl rfl ?_
              obtain ⟨g7, hf⟩ := zgd hf
              obtain ⟨n10, rn10, on10, in10⟩ := zok_of g7
              refine zald_l X hP (k := k4) on10 in10 dX9_readMember_127 ?_
              refine lv_iload_n hx hb dX9_readMember_128 rfl (lv_at hl 5 rfl) ?_
              refine zif_eq (tgt := 138) hx hb dX9_readMember_129 (by decide) hf (fun hf => ?_) (fun hf => ?_)
              · refine lv_lload hx hb dX9_readMember_138 (lv_at hl 8 rfl) ?_
                exact hc_140 x6 (s5.2 k4 (r4).toNatClampNeg) r4 k4 s5 _ _ _ (lv_sub hl [] rfl) hP hS hf
              · refine lv_lload hx hb dX9_readMember_132 (lv_at hl 8 rfl) ?_
                refine lv_lneg hx hb dX9_readMember_134 ?_
                refine lv_goto (tgt := 140) hx hb dX9_readMember_135 (by decide) ?_
                exact hc_140 (-x6) (s5.2 k4 (r4).toNatClampNeg) r4 k4 s5 _ _ _ (lv_sub hl [] rfl) hP hS hf
          · refine lv_iconst (v := 0) hx hb dX9_readMember_107 (by decide) ?_
            exact zret_i X hP hS hf rfl dX9_readMember_108
      have hc_70 : ∀ (k1 : Nat) (x3 : Int32) (k4 : Nat) (x5 : Int32) (x6 : Int64) (s1 : SS) (H : Heap) (locs : List Loc) (ls : Array Slot), lv_has ls 10 [(0, .ref (ad 8)), (1, .ref (ad k1)), (2, .ref (ad 6)), (3, .int x3), (4, .ref (ad k4)), (5, .int x5), (6, .long x6)] → va_P D ZCL (zw Ox Nx cA ad s1) H → va_S A s.heap H locs → f_X9_readMember_c70 k1 x3 k4 x5 x6 s1 = some (rr, sr) → W p l e (zrm 3) s m args below meth c H locs 0 0 (MQ below (zQc Ox Nx cA ad D A (some (.int rr)) sr) args s 0 0 A) (F0 m 70 ls []) := by
        intro k1 x3 k4 x5 x6 s1 H locs ls hl hP hS hf
        rw [f_X9_readMember_c70] at hf
        obtain ⟨gp1, hf⟩ := zgd hf
        refine lv_aload_n hx hb dX9_readMember_70 rfl (lv_at hl 0 rfl) ?_
        refine gf_X9_38 X hP (k := 8) rfl dX9_readMember_71 ?_
        refine lv_iload hx hb dX9_readMember_74 (lv_at hl 5 rfl) ?_
        refine zicmp_ne (tgt := 82) hx hb dX9_readMember_76 (by decide) hf (fun hf => ?_) (fun hf => ?_)
        · exact hc_82 k1 x3 k4 x5 x6 s1 _ _ _ (lv_sub hl [0, 1, 2, 3, 4, 5, 6] rfl) hP hS hf
        · refine lv_lconst (v := 1) hx hb dX9_readMember_79 (by decide) ?_
          refine lv_lstore (lv' := [(6, .long 1), (0, .ref (ad 8)), (1, .ref (ad k1)), (2, .ref (ad 6)), (3, .int x3), (4, .ref (ad k4)), (5, .int x5)]) hx hb dX9_readMember_80 hl (by decide) rfl (fun ls hl => ?_)
          exact hc_82 k1 x3 k4 x5 1 s1 _ _ _ (lv_sub hl [1, 2, 3, 4, 5, 6, 0] rfl) hP hS hf
      intro k1 x3 k4 x5 x6 x8 s1 H locs ls hl hP hS hf
      rw [f_X9_readMember_c12] at hf
      obtain ⟨gp1, hf⟩ := zgd hf
      refine lv_iload hx hb dX9_readMember_12 (lv_at hl 7 rfl) ?_
      refine lv_iconst (v := 4) hx hb dX9_readMember_14 (by decide) ?_
      refine zicmp_ge (tgt := 70) hx hb dX9_readMember_15 (by decide) hf (fun hf => ?_) (fun hf => ?_)
      · exact hc_70 k1 x3 k4 x5 x6 s1 _ _ _ (lv_sub hl [0, 1, 2, 3, 4, 5, 6] rfl) hP hS hf
      · refine lv_aload_n hx hb dX9_readMember_18 rfl (lv_at hl 0 rfl) ?_
        refine lv_aload_n hx hb dX9_readMember_19 rfl (lv_at hl 0 rfl) ?_
        refine gf_X9_38 X hP (k := 8) rfl dX9_readMember_20 ?_
        obtain ⟨r11, s12, h13, hf⟩ := zbd_some hf
        refine zcallV X hP hS hl.1 (k := 8) (As := [.int (s1.1 8 2)]) (rest := []) (cn_X9_signAt h13) cw_X9_signAt zp_9 rfl (by decide) rfl ml_X9_19 (by decide) rfl rfl (Nat.le_of_ble_eq_true rfl) dX9_readMember_23 (fun H locs hP hS => ?_)
        obtain ⟨r14, s15, h16, hf⟩ := zbd_some hf
        refine zcallS X hP hS hl.1 (As := [.int r11]) (rest := []) (cn_X9_isFigure h16) cw_X9_isFigure ml_X9_45 (by decide) rfl rfl (Nat.le_of_ble_eq_true rfl) dX9_readMember_26 (fun H locs hP hS => ?_)
        refine zif_eq (tgt := 70) hx hb dX9_readMember_29 (by decide) hf (fun hf => ?_) (fun hf => ?_)
        · exact hc_70 k1 x3 k4 x5 x6 s15 _ _ _ (lv_sub hl [0, 1, 2, 3, 4, 5, 6] rfl) hP hS hf
        · refine lv_lload hx hb dX9_readMember_32 (lv_at hl 6 rfl) ?_
          refine zldc2 X co_X9_49 dX9_readMember_34 ?_
          refine lv_lmul hx hb dX9_readMember_37 ?_
          refine lv_aload_n hx hb dX9_readMember_38 rfl (lv_at hl 0 rfl) ?_
          refine lv_aload_n hx hb dX9_readMember_39 rfl (lv_at hl 0 rfl) ?_
          refine gf_X9_38 X hP (k := 8) rfl dX9_readMember_40 ?_
          obtain ⟨r17, s18, h19, hf⟩ := zbd_some hf
          refine zcallV X hP hS hl.1 (k := 8) (As := [.int (s15.1 8 2)]) (rest := [.long (x6 * (10 : Int64))]) (cn_X9_signAt h19) cw_X9_signAt zp_9 rfl (by decide) rfl ml_X9_19 (by decide) rfl rfl (Nat.le_of_ble_eq_true rfl) dX9_readMember_43 (fun H locs hP hS => ?_)
          refine lv_i2l hx hb dX9_readMember_46 rfl ?_
          refine lv_ladd hx hb dX9_readMember_47 ?_
          refine zldc2 X co_X9_51 dX9_readMember_48 ?_
          refine lv_lsub hx hb dX9_readMember_51 ?_
          refine lv_lstore (lv' := [(6, .long (((x6 * (10 : Int64)) + (r17).toInt64) - (48 : Int64))), (0, .ref (ad 8)), (1, .ref (ad k1)), (2, .ref (ad 6)), (3, .int x3), (4, .ref (ad k4)), (5, .int x5), (8, .int x8)]) hx hb dX9_readMember_52 hl (by decide) rfl (fun ls hl => ?_)
          refine lv_aload_n hx hb dX9_readMember_54 rfl (lv_at hl 1 rfl) ?_
          refine lv_dup hx hb dX9_readMember_55 rfl ?_
          refine gf_X9_38 X hP (k := 8) rfl dX9_readMember_56 ?_
          refine lv_iconst (v := 1) hx hb dX9_readMember_59 (by decide) ?_
          refine lv_iadd hx hb dX9_readMember_60 ?_
          refine pf_X9_38 X hP hS (k := 8) rfl dX9_readMember_61 (fun H locs hP hS => ?_)
          refine lv_iinc (v := (x8 + 1)) (lv' := [(8, .int (x8 + 1)), (6, .long (((x6 * (10 : Int64)) + (r17).toInt64) - (48 : Int64))), (0, .ref (ad 8)), (1, .ref (ad k1)), (2, .ref (ad 6)), (3, .int x3), (4, .ref (ad k4)), (5, .int x5)]) hx hb dX9_readMember_64 hl (k := 7) rfl rfl (by decide) rfl (fun ls hl => ?_)
          refine lv_goto (tgt := 12) hx hb dX9_readMember_67 (by decide) ?_
          exact ih12 k1 x3 k4 x5 (((x6 * (10 : Int64)) + (r17).toInt64) - (48 : Int64)) (x8 + 1) (zS s18 8 2 ((s18.1 8 2) + (1 : Int32))) _ _ _ (lv_sub hl [2, 3, 4, 5, 6, 7, 1, 0] rfl) hP hS hf
  rw [f_X9_readMember] at hf
  obtain ⟨gp1, hf⟩ := zgd hf
  refine lv_aload_n hx hb dX9_readMember_0 rfl (lv_at hl 0 rfl) ?_
  refine gf_X9_38 X hP (k := 8) rfl dX9_readMember_1 ?_
  refine lv_istore (lv' := [(5, .int (s0.1 8 2)), (0, .ref (ad 8)), (1, .ref (ad k1)), (2, .ref (ad 6)), (3, .int x3), (4, .ref (ad k4))]) hx hb dX9_readMember_4 hl (by decide) rfl (fun ls hl => ?_)
  refine lv_lconst (v := 0) hx hb dX9_readMember_6 (by decide) ?_
  refine lv_lstore (lv' := [(6, .long 0), (5, .int (s0.1 8 2)), (0, .ref (ad 8)), (1, .ref (ad k1)), (2, .ref (ad 6)), (3, .int x3), (4, .ref (ad k4))]) hx hb dX9_readMember_7 hl (by decide) rfl (fun ls hl => ?_)
  refine lv_iconst (v := 0) hx hb dX9_readMember_9 (by decide) ?_
  refine lv_istore (lv' := [(8, .int 0), (6, .long 0), (5, .int (s0.1 8 2)), (0, .ref (ad 8)), (1, .ref (ad k1)), (2, .ref (ad 6)), (3, .int x3), (4, .ref (ad k4))]) hx hb dX9_readMember_10 hl (by decide) rfl (fun ls hl => ?_)
  exact hc_12 ZF k1 x3 k4 (s0.1 8 2) 0 0 s0 _ _ _ (lv_sub hl [3, 4, 5, 6, 7, 2, 1, 0] rfl) hP hS hf
theorem dX9_readClass_0 : decode cX9_readClass 0 = .ok (.aload_n 3, 1) := by decide +kernel
theorem dX9_readClass_1 : decode cX9_readClass 1 = .ok (.lconst 0, 1) := by decide +kernel
theorem dX9_readClass_2 : decode cX9_readClass 2 = .ok (.invokestatic 32, 3) := by decide +kernel
theorem dX9_readClass_5 : decode cX9_readClass 5 = .ok (.aload_n 0, 1) := by decide +kernel
theorem dX9_readClass_6 : decode cX9_readClass 6 = .ok (.iconst 0, 1) := by decide +kernel
theorem dX9_readClass_7 : decode cX9_readClass 7 = .ok (.invokevirtual 19, 3) := by decide +kernel
theorem dX9_readClass_10 : decode cX9_readClass 10 = .ok (.bipush 45, 2) := by decide +kernel
theorem dX9_readClass_12 : decode cX9_readClass 12 = .ok (.if_icmp .ne 7, 3) := by decide +kernel
theorem dX9_readClass_15 : decode cX9_readClass 15 = .ok (.iconst 1, 1) := by decide +kernel
theorem dX9_readClass_16 : decode cX9_readClass 16 = .ok (.goto 4, 3) := by decide +kernel
theorem dX9_readClass_19 : decode cX9_readClass 19 = .ok (.iconst 0, 1) := by decide +kernel
theorem dX9_readClass_20 : decode cX9_readClass 20 = .ok (.istore 4, 2) := by decide +kernel
theorem dX9_readClass_22 : decode cX9_readClass 22 = .ok (.aload_n 0, 1) := by decide +kernel
theorem dX9_readClass_23 : decode cX9_readClass 23 = .ok (.iload 4, 2) := by decide +kernel
theorem dX9_readClass_25 : decode cX9_readClass 25 = .ok (.ifCond .eq 7, 3) := by decide +kernel
theorem dX9_readClass_28 : decode cX9_readClass 28 = .ok (.iconst 1, 1) := by decide +kernel
theorem dX9_readClass_29 : decode cX9_readClass 29 = .ok (.goto 4, 3) := by decide +kernel
theorem dX9_readClass_32 : decode cX9_readClass 32 = .ok (.iconst 0, 1) := by decide +kernel
theorem dX9_readClass_33 : decode cX9_readClass 33 = .ok (.putfield 38, 3) := by decide +kernel
theorem dX9_readClass_36 : decode cX9_readClass 36 = .ok (.iconst 0, 1) := by decide +kernel
theorem dX9_readClass_37 : decode cX9_readClass 37 = .ok (.istore 5, 2) := by decide +kernel
theorem dX9_readClass_39 : decode cX9_readClass 39 = .ok (.iload 5, 2) := by decide +kernel
theorem dX9_readClass_41 : decode cX9_readClass 41 = .ok (.bipush 80, 2) := by decide +kernel
theorem dX9_readClass_43 : decode cX9_readClass 43 = .ok (.if_icmp .gt 87, 3) := by decide +kernel
theorem dX9_readClass_46 : decode cX9_readClass 46 = .ok (.aload_n 0, 1) := by decide +kernel
theorem dX9_readClass_47 : decode cX9_readClass 47 = .ok (.aload_n 1, 1) := by decide +kernel
theorem dX9_readClass_48 : decode cX9_readClass 48 = .ok (.aload_n 2, 1) := by decide +kernel
theorem dX9_readClass_49 : decode cX9_readClass 49 = .ok (.iload 4, 2) := by decide +kernel
theorem dX9_readClass_51 : decode cX9_readClass 51 = .ok (.aload_n 3, 1) := by decide +kernel
theorem dX9_readClass_52 : decode cX9_readClass 52 = .ok (.invokevirtual 41, 3) := by decide +kernel
theorem dX9_readClass_55 : decode cX9_readClass 55 = .ok (.ifCond .ne 8, 3) := by decide +kernel
theorem dX9_readClass_58 : decode cX9_readClass 58 = .ok (.aload_n 0, 1) := by decide +kernel
theorem dX9_readClass_59 : decode cX9_readClass 59 = .ok (.getfield 38, 3) := by decide +kernel
theorem dX9_readClass_62 : decode cX9_readClass 62 = .ok (.ireturn, 1) := by decide +kernel
theorem dX9_readClass_63 : decode cX9_readClass 63 = .ok (.aload_n 0, 1) := by decide +kernel
theorem dX9_readClass_64 : decode cX9_readClass 64 = .ok (.aload_n 0, 1) := by decide +kernel
theorem dX9_readClass_65 : decode cX9_readClass 65 = .ok (.getfield 38, 3) := by decide +kernel
theorem dX9_readClass_68 : decode cX9_readClass 68 = .ok (.invokevirtual 19, 3) := by decide +kernel
theorem dX9_readClass_71 : decode cX9_readClass 71 = .ok (.istore 6, 2) := by decide +kernel
theorem dX9_readClass_73 : decode cX9_readClass 73 = .ok (.iload 6, 2) := by decide +kernel
theorem dX9_readClass_75 : decode cX9_readClass 75 = .ok (.iconst (-1), 1) := by decide +kernel
theorem dX9_readClass_76 : decode cX9_readClass 76 = .ok (.if_icmp .ne 5, 3) := by decide +kernel
theorem dX9_readClass_79 : decode cX9_readClass 79 = .ok (.iconst (-1), 1) := by decide +kernel
theorem dX9_readClass_80 : decode cX9_readClass 80 = .ok (.ireturn, 1) := by decide +kernel
theorem dX9_readClass_81 : decode cX9_readClass 81 = .ok (.iload 6, 2) := by decide +kernel
theorem dX9_readClass_83 : decode cX9_readClass 83 = .ok (.bipush 43, 2) := by decide +kernel
theorem dX9_readClass_85 : decode cX9_readClass 85 = .ok (.if_icmp .eq 15, 3) := by decide +kernel
theorem dX9_readClass_88 : decode cX9_readClass 88 = .ok (.iload 6, 2) := by decide +kernel
theorem dX9_readClass_90 : decode cX9_readClass 90 = .ok (.bipush 45, 2) := by decide +kernel
theorem dX9_readClass_92 : decode cX9_readClass 92 = .ok (.if_icmp .eq 8, 3) := by decide +kernel
theorem dX9_readClass_95 : decode cX9_readClass 95 = .ok (.aload_n 0, 1) := by decide +kernel
theorem dX9_readClass_96 : decode cX9_readClass 96 = .ok (.getfield 38, 3) := by decide +kernel
theorem dX9_readClass_99 : decode cX9_readClass 99 = .ok (.ireturn, 1) := by decide +kernel
theorem dX9_readClass_100 : decode cX9_readClass 100 = .ok (.iload 6, 2) := by decide +kernel
theorem dX9_readClass_102 : decode cX9_readClass 102 = .ok (.bipush 45, 2) := by decide +kernel
theorem dX9_readClass_104 : decode cX9_readClass 104 = .ok (.if_icmp .ne 7, 3) := by decide +kernel
theorem dX9_readClass_107 : decode cX9_readClass 107 = .ok (.iconst 1, 1) := by decide +kernel
theorem dX9_readClass_108 : decode cX9_readClass 108 = .ok (.goto 4, 3) := by decide +kernel
theorem dX9_readClass_111 : decode cX9_readClass 111 = .ok (.iconst 0, 1) := by decide +kernel
theorem dX9_readClass_112 : decode cX9_readClass 112 = .ok (.istore 4, 2) := by decide +kernel
theorem dX9_readClass_114 : decode cX9_readClass 114 = .ok (.aload_n 0, 1) := by decide +kernel
theorem dX9_readClass_115 : decode cX9_readClass 115 = .ok (.dup, 1) := by decide +kernel
theorem dX9_readClass_116 : decode cX9_readClass 116 = .ok (.getfield 38, 3) := by decide +kernel
theorem dX9_readClass_119 : decode cX9_readClass 119 = .ok (.iconst 1, 1) := by decide +kernel
theorem dX9_readClass_120 : decode cX9_readClass 120 = .ok (.iadd, 1) := by decide +kernel
theorem dX9_readClass_121 : decode cX9_readClass 121 = .ok (.putfield 38, 3) := by decide +kernel
theorem dX9_readClass_124 : decode cX9_readClass 124 = .ok (.iinc 5 1, 3) := by decide +kernel
theorem dX9_readClass_127 : decode cX9_readClass 127 = .ok (.goto (-88), 3) := by decide +kernel
theorem dX9_readClass_130 : decode cX9_readClass 130 = .ok (.aload_n 0, 1) := by decide +kernel
theorem dX9_readClass_131 : decode cX9_readClass 131 = .ok (.getfield 38, 3) := by decide +kernel
theorem dX9_readClass_134 : decode cX9_readClass 134 = .ok (.ireturn, 1) := by decide +kernel
set_option maxHeartbeats 4000000 in
set_option maxRecDepth 100000 in
theorem cn_X9_readClass {l : Launch} {cA : Nat → ClassId} {ad : Nat → Nat} {D : va_G} {E : Nat → Nat} {A : Nat → Prop} {k1 : Nat} {k3 : Nat} {s0 sr : SS} {rr : Int32} (hf : f_X9_readClass k1 k3 s0 = some (rr, sr)) : zCon Ox Nx cA ad D E l yX9_readClass cX9_readClass 7 (some .int) 4 A [.ref (ad 8), .ref (ad k1), .ref (ad 6), .ref (ad k3)] s0 (some (.int rr)) sr := by
  refine zstart (own := RX9) hOx (by decide) rfl (Nat.le_of_ble_eq_true rfl) ?_
  intro p e s m args below meth c X hP ls hl
  have hx := X.1
  have hb := X.2.1
  have hl : lv_has ls 7 [(0, .ref (ad 8)), (1, .ref (ad k1)), (2, .ref (ad 6)), (3, .ref (ad k3))] := hl
  have hS : va_S A s.heap s.heap [] := va_S.rf
  have hc_39 : ∀ (n39 : Nat) (k1 : Nat) (k3 : Nat) (x4 : Int32) (x5 : Int32) (s1 : SS) (H : Heap) (locs : List Loc) (ls : Array Slot), lv_has ls 7 [(0, .ref (ad 8)), (1, .ref (ad k1)), (2, .ref (ad 6)), (3, .ref (ad k3)), (4, .int x4), (5, .int x5)] → va_P D ZCL (zw Ox Nx cA ad s1) H → va_S A s.heap H locs → f_X9_readClass_c39 n39 k1 k3 x4 x5 s1 = some (rr, sr) → W p l e (zrm 4) s m args below meth c H locs 0 0 (MQ below (zQc Ox Nx cA ad D A (some (.int rr)) sr) args s 0 0 A) (F0 m 39 ls []) := by
    intro n39
    induction n39 with
    | zero =>
      intro k1 k3 x4 x5 s1 H locs ls hl hP hS hf
      rw [f_X9_readClass_c39] at hf
      cases hf
    | succ n39 ih39 =>
      have hc_112 : ∀ (k1 : Nat) (k3 : Nat) (x5 : Int32) (t0 : Int32) (s1 : SS) (H : Heap) (locs : List Loc) (ls : Array Slot), lv_has ls 7 [(0, .ref (ad 8)), (1, .ref (ad k1)), (2, .ref (ad 6)), (3, .ref (ad k3)), (5, .int x5)] → va_P D ZCL (zw Ox Nx cA ad s1) H → va_S A s.heap H locs → f_X9_readClass_c112 (f_X9_readClass_c39 n39) k1 k3 x5 t0 s1 = some (rr, sr) → W p l e (zrm 4) s m args below meth c H locs 0 0 (MQ below (zQc Ox Nx cA ad D A (some (.int rr)) sr) args s 0 0 A) (F0 m 112 ls [.int t0]) := by
        intro k1 k3 x5 t0 s1 H locs ls hl hP hS hf
        rw [f_X9_readClass_c112] at hf
        obtain ⟨gp1, hf⟩ := zgd hf
        refine lv_istore (lv' := [(4, .int t0), (0, .ref (ad 8)), (1, .ref (ad k1)), (2, .ref (ad 6)), (3, .ref (ad k3)), (5, .int x5)]) hx hb dX9_readClass_112 hl (by decide) rfl (fun ls hl => ?_)
        refine lv_aload_n hx hb dX9_readClass_114 rfl (lv_at hl 1 rfl) ?_
        refine lv_dup hx hb dX9_readClass_115 rfl ?_
        refine gf_X9_38 X hP (k := 8) rfl dX9_readClass_116 ?_
        refine lv_iconst (v := 1) hx hb dX9_readClass_119 (by decide) ?_
        refine lv_iadd hx hb dX9_readClass_120 ?_
        refine pf_X9_38 X hP hS (k := 8) rfl dX9_readClass_121 (fun H locs hP hS => ?_)
        refine lv_iinc (v := (x5 + 1)) (lv' := [(5, .int (x5 + 1)), (4, .int t0), (0, .ref (ad 8)), (1, .ref (ad k1)), (2, .ref (ad 6)), (3, .ref (ad k3))]) hx hb dX9_readClass_124 hl (k := 5) rfl rfl (by decide) rfl (fun ls hl => ?_)
        refine lv_goto (tgt := 39) hx hb dX9_readClass_127 (by decide) ?_
        exact ih39 k1 k3 t0 (x5 + 1) (zS s1 8 2 ((s1.1 8 2) + (1 : Int32))) _ _ _ (lv_sub hl [2, 3, 4, 5, 1, 0] rfl) hP hS hf
      have hc_100 : ∀ (k1 : Nat) (k3 : Nat) (x5 : Int32) (x6 : Int32) (s1 : SS) (H : Heap) (locs : List Loc) (ls : Array Slot), lv_has ls 7 [(0, .ref (ad 8)), (1, .ref (ad k1)), (2, .ref (ad 6)), (3, .ref (ad k3)), (5, .int x5), (6, .int x6)] → va_P D ZCL (zw Ox Nx cA ad s1) H → va_S A s.heap H locs → f_X9_readClass_c100 (f_X9_readClass_c39 n39) k1 k3 x5 x6 s1 = some (rr, sr) → W p l e (zrm 4) s m args below meth c H locs 0 0 (MQ below (zQc Ox Nx cA ad D A (some (.int rr)) sr) args s 0 0 A) (F0 m 100 ls []) := by
        intro k1 k3 x5 x6 s1 H locs ls hl hP hS hf
        rw [f_X9_readClass_c100] at hf
        obtain ⟨gp1, hf⟩ := zgd hf
        refine lv_iload hx hb dX9_readClass_100 (lv_at hl 5 rfl) ?_
        refine lv_bipush (v := 45) hx hb dX9_readClass_102 (by decide) ?_
        refine zicmp_ne (tgt := 111) hx hb dX9_readClass_104 (by decide) hf (fun hf => ?_) (fun hf => ?_)
        · refine lv_iconst (v := 0) hx hb dX9_readClass_111 (by decide) ?_
          exact hc_112 k1 k3 x5 0 s1 _ _ _ (lv_sub hl [0, 1, 2, 3, 4] rfl) hP hS hf
        · refine lv_iconst (v := 1) hx hb dX9_readClass_107 (by decide) ?_
          refine lv_goto (tgt := 112) hx hb dX9_readClass_108 (by decide) ?_
          exact hc_112 k1 k3 x5 1 s1 _ _ _ (lv_sub hl [0, 1, 2, 3, 4] rfl) hP hS hf
      intro k1 k3 x4 x5 s1 H locs ls hl hP hS hf
      rw [f_X9_readClass_c39] at hf
      obtain ⟨gp1, hf⟩ := zgd hf
      refine lv_iload hx hb dX9_readClass_39 (lv_at hl 5 rfl) ?_
      refine lv_bipush (v := 80) hx hb dX9_readClass_41 (by decide) ?_
      refine zicmp_gt (tgt := 130) hx hb dX9_readClass_43 (by decide) hf (fun hf => ?_) (fun hf => ?_)
      · refine lv_aload_n hx hb dX9_readClass_130 rfl (lv_at hl 0 rfl) ?_
        refine gf_X9_38 X hP (k := 8) rfl dX9_readClass_131 ?_
        exact zret_i X hP hS hf rfl dX9_readClass_134
      · refine lv_aload_n hx hb dX9_readClass_46 rfl (lv_at hl 0 rfl) ?_
        refine lv_aload_n hx hb dX9_readClass_47 rfl (lv_at hl 1 rfl) ?_
        refine lv_aload_n hx hb dX9_readClass_48 rfl (lv_at hl 2 rfl) ?_
        refine lv_iload hx hb dX9_readClass_49 (lv_at hl 4 rfl) ?_
        refine lv_aload_n hx hb dX9_readClass_51 rfl (lv_at hl 3 rfl) ?_
        obtain ⟨r7, s8, h9, hf⟩ := zbd_some hf
        refine zcallV X hP hS hl.1 (k := 8) (As := [.ref (ad k1), .ref (ad 6), .int x4, .ref (ad k3)]) (rest := []) (cn_X9_readMember h9) cw_X9_readMember zp_9 rfl (by decide) rfl ml_X9_41 (by decide) rfl rfl (Nat.le_of_ble_eq_true rfl) dX9_readClass_52 (fun H locs hP hS => ?_)
        refine zif_ne (tgt := 63) hx hb dX9_readClass_55 (by decide) hf (fun hf => ?_) (fun hf => ?_)
        · refine lv_aload_n hx hb dX9_readClass_63 rfl (lv_at hl 0 rfl) ?_
          refine lv_aload_n hx hb dX9_readClass_64 rfl (lv_at hl 0 rfl) ?_
          refine gf_X9_38 X hP (k := 8) rfl dX9_readClass_65 ?_
          obtain ⟨r10, s11, h12, hf⟩ := zbd_some hf
          refine zcallV X hP hS hl.1 (k := 8) (As := [.int (s8.1 8 2)]) (rest := []) (cn_X9_signAt h12) cw_X9_signAt zp_9 rfl (by decide) rfl ml_X9_19 (by decide) rfl rfl (Nat.le_of_ble_eq_true rfl) dX9_readClass_68 (fun H locs hP hS => ?_)
          refine lv_istore (lv' := [(6, .int r10), (0, .ref (ad 8)), (1, .ref (ad k1)), (2, .ref (ad 6)), (3, .ref (ad k3)), (4, .int x4), (5, .int x5)]) hx hb dX9_readClass_71 hl (by decide) rfl (fun ls hl => ?_)
          refine lv_iload hx hb dX9_readClass_73 (lv_at hl 0 rfl) ?_
          refine lv_iconst (v := (-1)) hx hb dX9_readClass_75 (by decide) ?_
          refine zicmp_ne (tgt := 81) hx hb dX9_readClass_76 (by decide) hf (fun hf => ?_) (fun hf => ?_)
          · refine lv_iload hx hb dX9_readClass_81 (lv_at hl 0 rfl) ?_
            refine lv_bipush (v := 43) hx hb dX9_readClass_83 (by decide) ?_
            refine zicmp_eq (tgt := 100) hx hb dX9_readClass_85 (by decide) hf (fun hf => ?_) (fun hf => ?_)
            · exact hc_100 k1 k3 x5 r10 s11 _ _ _ (lv_sub hl [1, 2, 3, 4, 6, 0] rfl) hP hS hf
            · refine lv_iload hx hb dX9_readClass_88 (lv_at hl 0 rfl) ?_
              refine lv_bipush (v := 45) hx hb dX9_readClass_90 (by decide) ?_
              refine zicmp_eq (tgt := 100) hx hb dX9_readClass_92 (by decide) hf (fun hf => ?_) (fun hf => ?_)
              · exact hc_100 k1 k3 x5 r10 s11 _ _ _ (lv_sub hl [1, 2, 3, 4, 6, 0] rfl) hP hS hf
              · refine lv_aload_n hx hb dX9_readClass_95 rfl (lv_at hl 1 rfl) ?_
                refine gf_X9_38 X hP (k := 8) rfl dX9_readClass_96 ?_
                exact zret_i X hP hS hf rfl dX9_readClass_99
          · refine lv_iconst (v := (-1)) hx hb dX9_readClass_79 (by decide) ?_
            exact zret_i X hP hS hf rfl dX9_readClass_80
        · refine lv_aload_n hx hb dX9_readClass_58 rfl (lv_at hl 0 rfl) ?_
          refine gf_X9_38 X hP (k := 8) rfl dX9_readClass_59 ?_
          exact zret_i X hP hS hf rfl dX9_readClass_62
  have hc_33 : ∀ (k1 : Nat) (k3 : Nat) (x4 : Int32) (t0 : Int32) (s1 : SS) (H : Heap) (locs : List Loc) (ls : Array Slot), lv_has ls 7 [(0, .ref (ad 8)), (1, .ref (ad k1)), (2, .ref (ad 6)), (3, .ref (ad k3)), (4, .int x4)] → va_P D ZCL (zw Ox Nx cA ad s1) H → va_S A s.heap H locs → f_X9_readClass_c33 k1 k3 x4 t0 s1 = some (rr, sr) → W p l e (zrm 4) s m args below meth c H locs 0 0 (MQ below (zQc Ox Nx cA ad D A (some (.int rr)) sr) args s 0 0 A) (F0 m 33 ls [.int t0, .ref (ad 8)]) := by
    intro k1 k3 x4 t0 s1 H locs ls hl hP hS hf
    rw [f_X9_readClass_c33] at hf
    obtain ⟨gp1, hf⟩ := zgd hf
    refine pf_X9_38 X hP hS (k := 8) rfl dX9_readClass_33 (fun H locs hP hS => ?_)
    refine lv_iconst (v := 0) hx hb dX9_readClass_36 (by decide) ?_
    refine lv_istore (lv' := [(5, .int 0), (0, .ref (ad 8)), (1, .ref (ad k1)), (2, .ref (ad 6)), (3, .ref (ad k3)), (4, .int x4)]) hx hb dX9_readClass_37 hl (by decide) rfl (fun ls hl => ?_)
    exact hc_39 ZF k1 k3 x4 0 (zS s1 8 2 t0) _ _ _ (lv_sub hl [1, 2, 3, 4, 5, 0] rfl) hP hS hf
  have hc_20 : ∀ (k1 : Nat) (k3 : Nat) (t0 : Int32) (s1 : SS) (H : Heap) (locs : List Loc) (ls : Array Slot), lv_has ls 7 [(0, .ref (ad 8)), (1, .ref (ad k1)), (2, .ref (ad 6)), (3, .ref (ad k3))] → va_P D ZCL (zw Ox Nx cA ad s1) H → va_S A s.heap H locs → f_X9_readClass_c20 k1 k3 t0 s1 = some (rr, sr) → W p l e (zrm 4) s m args below meth c H locs 0 0 (MQ below (zQc Ox Nx cA ad D A (some (.int rr)) sr) args s 0 0 A) (F0 m 20 ls [.int t0]) := by
    intro k1 k3 t0 s1 H locs ls hl hP hS hf
    rw [f_X9_readClass_c20] at hf
    obtain ⟨gp1, hf⟩ := zgd hf
    refine lv_istore (lv' := [(4, .int t0), (0, .ref (ad 8)), (1, .ref (ad k1)), (2, .ref (ad 6)), (3, .ref (ad k3))]) hx hb dX9_readClass_20 hl (by decide) rfl (fun ls hl => ?_)
    refine lv_aload_n hx hb dX9_readClass_22 rfl (lv_at hl 1 rfl) ?_
    refine lv_iload hx hb dX9_readClass_23 (lv_at hl 0 rfl) ?_
    refine zif_eq (tgt := 32) hx hb dX9_readClass_25 (by decide) hf (fun hf => ?_) (fun hf => ?_)
    · refine lv_iconst (v := 0) hx hb dX9_readClass_32 (by decide) ?_
      exact hc_33 k1 k3 t0 0 s1 _ _ _ (lv_sub hl [1, 2, 3, 4, 0] rfl) hP hS hf
    · refine lv_iconst (v := 1) hx hb dX9_readClass_28 (by decide) ?_
      refine lv_goto (tgt := 33) hx hb dX9_readClass_29 (by decide) ?_
      exact hc_33 k1 k3 t0 1 s1 _ _ _ (lv_sub hl [1, 2, 3, 4, 0] rfl) hP hS hf
  rw [f_X9_readClass] at hf
  obtain ⟨gp1, hf⟩ := zgd hf
  refine lv_aload_n hx hb dX9_readClass_0 rfl (lv_at hl 3 rfl) ?_
  refine lv_lconst (v := 0) hx hb dX9_readClass_1 (by decide) ?_
  obtain ⟨r1, s2, h3, hf⟩ := zbd_some hf
  refine zcallS X hP hS hl.1 (As := [.ref (ad k3), .long 0]) (rest := []) (cn_J7_fill_d0a16 h3) cw_J7_fill_d0a16 ml_X9_32 (by decide) rfl rfl (Nat.le_of_ble_eq_true rfl) dX9_readClass_2 (fun H locs hP hS => ?_)
  refine lv_aload_n hx hb dX9_readClass_5 rfl (lv_at hl 0 rfl) ?_
  refine lv_iconst (v := 0) hx hb dX9_readClass_6 (by decide) ?_
  obtain ⟨r4, s5, h6, hf⟩ := zbd_some hf
  refine zcallV X hP hS hl.1 (k := 8) (As := [.int 0]) (rest := []) (cn_X9_signAt h6) cw_X9_signAt zp_9 rfl (by decide) rfl ml_X9_19 (by decide) rfl rfl (Nat.le_of_ble_eq_true rfl) dX9_readClass_7 (fun H locs hP hS => ?_)
  refine lv_bipush (v := 45) hx hb dX9_readClass_10 (by decide) ?_
  refine zicmp_ne (tgt := 19) hx hb dX9_readClass_12 (by decide) hf (fun hf => ?_) (fun hf => ?_)
  · refine lv_iconst (v := 0) hx hb dX9_readClass_19 (by decide) ?_
    exact hc_20 k1 k3 0 s5 _ _ _ (lv_sub hl [0, 1, 2, 3] rfl) hP hS hf
  · refine lv_iconst (v := 1) hx hb dX9_readClass_15 (by decide) ?_
    refine lv_goto (tgt := 20) hx hb dX9_readClass_16 (by decide) ?_
    exact hc_20 k1 k3 1 s5 _ _ _ (lv_sub hl [0, 1, 2, 3] rfl) hP hS hf
theorem dX10_addTerm_0 : decode cX10_addTerm 0 = .ok (.iconst 0, 1) := by decide +kernel
theorem dX10_addTerm_1 : decode cX10_addTerm 1 = .ok (.istore_n 2, 1) := by decide +kernel
theorem dX10_addTerm_2 : decode cX10_addTerm 2 = .ok (.iconst 0, 1) := by decide +kernel
theorem dX10_addTerm_3 : decode cX10_addTerm 3 = .ok (.istore_n 3, 1) := by decide +kernel
theorem dX10_addTerm_4 : decode cX10_addTerm 4 = .ok (.iconst 0, 1) := by decide +kernel
theorem dX10_addTerm_5 : decode cX10_addTerm 5 = .ok (.istore 4, 2) := by decide +kernel
theorem dX10_addTerm_7 : decode cX10_addTerm 7 = .ok (.iconst 0, 1) := by decide +kernel
theorem dX10_addTerm_8 : decode cX10_addTerm 8 = .ok (.istore 5, 2) := by decide +kernel
theorem dX10_addTerm_10 : decode cX10_addTerm 10 = .ok (.iload 5, 2) := by decide +kernel
theorem dX10_addTerm_12 : decode cX10_addTerm 12 = .ok (.aload_n 0, 1) := by decide +kernel
theorem dX10_addTerm_13 : decode cX10_addTerm 13 = .ok (.getfield 46, 3) := by decide +kernel
theorem dX10_addTerm_16 : decode cX10_addTerm 16 = .ok (.if_icmp .ge 68, 3) := by decide +kernel
theorem dX10_addTerm_19 : decode cX10_addTerm 19 = .ok (.iload 5, 2) := by decide +kernel
theorem dX10_addTerm_21 : decode cX10_addTerm 21 = .ok (.bipush 6, 2) := by decide +kernel
theorem dX10_addTerm_23 : decode cX10_addTerm 23 = .ok (.if_icmp .ge 61, 3) := by decide +kernel
theorem dX10_addTerm_26 : decode cX10_addTerm 26 = .ok (.iload_n 2, 1) := by decide +kernel
theorem dX10_addTerm_27 : decode cX10_addTerm 27 = .ok (.aload_n 0, 1) := by decide +kernel
theorem dX10_addTerm_28 : decode cX10_addTerm 28 = .ok (.getfield 30, 3) := by decide +kernel
theorem dX10_addTerm_31 : decode cX10_addTerm 31 = .ok (.iload 5, 2) := by decide +kernel
theorem dX10_addTerm_33 : decode cX10_addTerm 33 = .ok (.iaload, 1) := by decide +kernel
theorem dX10_addTerm_34 : decode cX10_addTerm 34 = .ok (.getstatic 69, 3) := by decide +kernel
theorem dX10_addTerm_37 : decode cX10_addTerm 37 = .ok (.iload 5, 2) := by decide +kernel
theorem dX10_addTerm_39 : decode cX10_addTerm 39 = .ok (.iaload, 1) := by decide +kernel
theorem dX10_addTerm_40 : decode cX10_addTerm 40 = .ok (.imul, 1) := by decide +kernel
theorem dX10_addTerm_41 : decode cX10_addTerm 41 = .ok (.iadd, 1) := by decide +kernel
theorem dX10_addTerm_42 : decode cX10_addTerm 42 = .ok (.istore_n 2, 1) := by decide +kernel
theorem dX10_addTerm_43 : decode cX10_addTerm 43 = .ok (.iload_n 3, 1) := by decide +kernel
theorem dX10_addTerm_44 : decode cX10_addTerm 44 = .ok (.aload_n 0, 1) := by decide +kernel
theorem dX10_addTerm_45 : decode cX10_addTerm 45 = .ok (.getfield 30, 3) := by decide +kernel
theorem dX10_addTerm_48 : decode cX10_addTerm 48 = .ok (.iload 5, 2) := by decide +kernel
theorem dX10_addTerm_50 : decode cX10_addTerm 50 = .ok (.iaload, 1) := by decide +kernel
theorem dX10_addTerm_51 : decode cX10_addTerm 51 = .ok (.iadd, 1) := by decide +kernel
theorem dX10_addTerm_52 : decode cX10_addTerm 52 = .ok (.istore_n 3, 1) := by decide +kernel
theorem dX10_addTerm_53 : decode cX10_addTerm 53 = .ok (.iload 4, 2) := by decide +kernel
theorem dX10_addTerm_55 : decode cX10_addTerm 55 = .ok (.iload 5, 2) := by decide +kernel
theorem dX10_addTerm_57 : decode cX10_addTerm 57 = .ok (.aload_n 1, 1) := by decide +kernel
theorem dX10_addTerm_58 : decode cX10_addTerm 58 = .ok (.getfield 74, 3) := by decide +kernel
theorem dX10_addTerm_61 : decode cX10_addTerm 61 = .ok (.if_icmp .ge 13, 3) := by decide +kernel
theorem dX10_addTerm_64 : decode cX10_addTerm 64 = .ok (.aload_n 0, 1) := by decide +kernel
theorem dX10_addTerm_65 : decode cX10_addTerm 65 = .ok (.getfield 30, 3) := by decide +kernel
theorem dX10_addTerm_68 : decode cX10_addTerm 68 = .ok (.iload 5, 2) := by decide +kernel
theorem dX10_addTerm_70 : decode cX10_addTerm 70 = .ok (.iaload, 1) := by decide +kernel
theorem dX10_addTerm_71 : decode cX10_addTerm 71 = .ok (.goto 4, 3) := by decide +kernel
theorem dX10_addTerm_74 : decode cX10_addTerm 74 = .ok (.iconst 0, 1) := by decide +kernel
theorem dX10_addTerm_75 : decode cX10_addTerm 75 = .ok (.iadd, 1) := by decide +kernel
theorem dX10_addTerm_76 : decode cX10_addTerm 76 = .ok (.istore 4, 2) := by decide +kernel
theorem dX10_addTerm_78 : decode cX10_addTerm 78 = .ok (.iinc 5 1, 3) := by decide +kernel
theorem dX10_addTerm_81 : decode cX10_addTerm 81 = .ok (.goto (-71), 3) := by decide +kernel
theorem dX10_addTerm_84 : decode cX10_addTerm 84 = .ok (.aload_n 0, 1) := by decide +kernel
theorem dX10_addTerm_85 : decode cX10_addTerm 85 = .ok (.getfield 9, 3) := by decide +kernel
theorem dX10_addTerm_88 : decode cX10_addTerm 88 = .ok (.aload_n 0, 1) := by decide +kernel
theorem dX10_addTerm_89 : decode cX10_addTerm 89 = .ok (.getfield 49, 3) := by decide +kernel
theorem dX10_addTerm_92 : decode cX10_addTerm 92 = .ok (.iload_n 2, 1) := by decide +kernel
theorem dX10_addTerm_93 : decode cX10_addTerm 93 = .ok (.iastore, 1) := by decide +kernel
theorem dX10_addTerm_94 : decode cX10_addTerm 94 = .ok (.aload_n 0, 1) := by decide +kernel
theorem dX10_addTerm_95 : decode cX10_addTerm 95 = .ok (.getfield 13, 3) := by decide +kernel
theorem dX10_addTerm_98 : decode cX10_addTerm 98 = .ok (.aload_n 0, 1) := by decide +kernel
theorem dX10_addTerm_99 : decode cX10_addTerm 99 = .ok (.getfield 49, 3) := by decide +kernel
theorem dX10_addTerm_102 : decode cX10_addTerm 102 = .ok (.iload_n 3, 1) := by decide +kernel
theorem dX10_addTerm_103 : decode cX10_addTerm 103 = .ok (.iastore, 1) := by decide +kernel
theorem dX10_addTerm_104 : decode cX10_addTerm 104 = .ok (.aload_n 0, 1) := by decide +kernel
theorem dX10_addTerm_105 : decode cX10_addTerm 105 = .ok (.getfield 20, 3) := by decide +kernel
theorem dX10_addTerm_108 : decode cX10_addTerm 108 = .ok (.aload_n 0, 1) := by decide +kernel
theorem dX10_addTerm_109 : decode cX10_addTerm 109 = .ok (.getfield 49, 3) := by decide +kernel
theorem dX10_addTerm_112 : decode cX10_addTerm 112 = .ok (.iload 4, 2) := by decide +kernel
theorem dX10_addTerm_114 : decode cX10_addTerm 114 = .ok (.iload_n 3, 1) := by decide +kernel
theorem dX10_addTerm_115 : decode cX10_addTerm 115 = .ok (.if_icmp .ne 7, 3) := by decide +kernel
theorem dX10_addTerm_118 : decode cX10_addTerm 118 = .ok (.iconst 1, 1) := by decide +kernel
theorem dX10_addTerm_119 : decode cX10_addTerm 119 = .ok (.goto 4, 3) := by decide +kernel
theorem dX10_addTerm_122 : decode cX10_addTerm 122 = .ok (.iconst 0, 1) := by decide +kernel
theorem dX10_addTerm_123 : decode cX10_addTerm 123 = .ok (.bastore, 1) := by decide +kernel
theorem dX10_addTerm_124 : decode cX10_addTerm 124 = .ok (.aload_n 0, 1) := by decide +kernel
theorem dX10_addTerm_125 : decode cX10_addTerm 125 = .ok (.getfield 16, 3) := by decide +kernel
theorem dX10_addTerm_128 : decode cX10_addTerm 128 = .ok (.aload_n 0, 1) := by decide +kernel
theorem dX10_addTerm_129 : decode cX10_addTerm 129 = .ok (.getfield 49, 3) := by decide +kernel
theorem dX10_addTerm_132 : decode cX10_addTerm 132 = .ok (.iload_n 3, 1) := by decide +kernel
theorem dX10_addTerm_133 : decode cX10_addTerm 133 = .ok (.aload_n 0, 1) := by decide +kernel
theorem dX10_addTerm_134 : decode cX10_addTerm 134 = .ok (.getfield 39, 3) := by decide +kernel
theorem dX10_addTerm_137 : decode cX10_addTerm 137 = .ok (.if_icmp .ne 14, 3) := by decide +kernel
theorem dX10_addTerm_140 : decode cX10_addTerm 140 = .ok (.aload_n 1, 1) := by decide +kernel
theorem dX10_addTerm_141 : decode cX10_addTerm 141 = .ok (.aload_n 0, 1) := by decide +kernel
theorem dX10_addTerm_142 : decode cX10_addTerm 142 = .ok (.getfield 30, 3) := by decide +kernel
theorem dX10_addTerm_145 : decode cX10_addTerm 145 = .ok (.invokevirtual 77, 3) := by decide +kernel
theorem dX10_addTerm_148 : decode cX10_addTerm 148 = .ok (.goto 4, 3) := by decide +kernel
theorem dX10_addTerm_151 : decode cX10_addTerm 151 = .ok (.lconst 0, 1) := by decide +kernel
theorem dX10_addTerm_152 : decode cX10_addTerm 152 = .ok (.lastore, 1) := by decide +kernel
theorem dX10_addTerm_153 : decode cX10_addTerm 153 = .ok (.aload_n 0, 1) := by decide +kernel
theorem dX10_addTerm_154 : decode cX10_addTerm 154 = .ok (.dup, 1) := by decide +kernel
theorem dX10_addTerm_155 : decode cX10_addTerm 155 = .ok (.getfield 49, 3) := by decide +kernel
theorem dX10_addTerm_158 : decode cX10_addTerm 158 = .ok (.iconst 1, 1) := by decide +kernel
theorem dX10_addTerm_159 : decode cX10_addTerm 159 = .ok (.iadd, 1) := by decide +kernel
theorem dX10_addTerm_160 : decode cX10_addTerm 160 = .ok (.putfield 49, 3) := by decide +kernel
theorem dX10_addTerm_163 : decode cX10_addTerm 163 = .ok (.return_, 1) := by decide +kernel
set_option maxHeartbeats 4000000 in
set_option maxRecDepth 100000 in
theorem cn_X10_addTerm {l : Launch} {cA : Nat → ClassId} {ad : Nat → Nat} {D : va_G} {E : Nat → Nat} {A : Nat → Prop} {k1 : Nat} {s0 sr : SS} {rr : Unit} (hf : f_X10_addTerm k1 s0 = some (rr, sr)) : zCon Ox Nx cA ad D E l yX10_addTerm cX10_addTerm 6 none 3 A [.ref (ad 6), .ref (ad k1)] s0 none sr := by
  refine zstart (own := RX10) hOx (by decide) rfl (Nat.le_of_ble_eq_true rfl) ?_
  intro p e s m args below meth c X hP ls hl
  have hx := X.1
  have hb := X.2.1
  have hl : lv_has ls 6 [(0, .ref (ad 6)), (1, .ref (ad k1))] := hl
  have hS : va_S A s.heap s.heap [] := va_S.rf
  have hc_10 : ∀ (n10 : Nat) (k1 : Nat) (x2 : Int32) (x3 : Int32) (x4 : Int32) (x5 : Int32) (s1 : SS) (H : Heap) (locs : List Loc) (ls : Array Slot), lv_has ls 6 [(0, .ref (ad 6)), (1, .ref (ad k1)), (2, .int x2), (3, .int x3), (4, .int x4), (5, .int x5)] → va_P D ZCL (zw Ox Nx cA ad s1) H → va_S A s.heap H locs → f_X10_addTerm_c10 n10 k1 x2 x3 x4 x5 s1 = some (rr, sr) → W p l e (zrm 3) s m args below meth c H locs 0 0 (MQ below (zQc Ox Nx cA ad D A none sr) args s 0 0 A) (F0 m 10 ls []) := by
    intro n10
    induction n10 with
    | zero =>
      intro k1 x2 x3 x4 x5 s1 H locs ls hl hP hS hf
      rw [f_X10_addTerm_c10] at hf
      cases hf
    | succ n10 ih10 =>
      have hc_152 : ∀ (t0 : Int64) (t1 : Int32) (s1 : SS) (H : Heap) (locs : List Loc) (ls : Array Slot), lv_has ls 6 [(0, .ref (ad 6))] → va_P D ZCL (zw Ox Nx cA ad s1) H → va_S A s.heap H locs → f_X10_addTerm_c152 t0 t1 s1 = some (rr, sr) → W p l e (zrm 3) s m args below meth c H locs 0 0 (MQ below (zQc Ox Nx cA ad D A none sr) args s 0 0 A) (F0 m 152 ls [.long t0, .int t1, .ref (ad 64)]) := by
        intro t0 t1 s1 H locs ls hl hP hS hf
        rw [f_X10_addTerm_c152] at hf
        obtain ⟨g4, hf⟩ := zgd hf
        refine zast_l X hP hS (k := 64) (n := 462) (rs := []) rfl g4 dX10_addTerm_152 (fun H locs hP hS => ?_)
        refine lv_aload_n hx hb dX10_addTerm_153 rfl (lv_at hl 0 rfl) ?_
        refine lv_dup hx hb dX10_addTerm_154 rfl ?_
        refine gf_X10_49 X hP (k := 6) rfl dX10_addTerm_155 ?_
        refine lv_iconst (v := 1) hx hb dX10_addTerm_158 (by decide) ?_
        refine lv_iadd hx hb dX10_addTerm_159 ?_
        refine pf_X10_49 X hP hS (k := 6) rfl dX10_addTerm_160 (fun H locs hP hS => ?_)
        exact zret_v X hP hS hf dX10_addTerm_163
      have hc_123 : ∀ (k1 : Nat) (x3 : Int32) (t0 : Int32) (t1 : Int32) (s1 : SS) (H : Heap) (locs : List Loc) (ls : Array Slot), lv_has ls 6 [(0, .ref (ad 6)), (1, .ref (ad k1)), (3, .int x3)] → va_P D ZCL (zw Ox Nx cA ad s1) H → va_S A s.heap H locs → f_X10_addTerm_c123 k1 x3 t0 t1 s1 = some (rr, sr) → W p l e (zrm 3) s m args below meth c H locs 0 0 (MQ below (zQc Ox Nx cA ad D A none sr) args s 0 0 A) (F0 m 123 ls [.int t0, .int t1, .ref (ad 65)]) := by
        intro k1 x3 t0 t1 s1 H locs ls hl hP hS hf
        rw [f_X10_addTerm_c123] at hf
        obtain ⟨gp1, hf⟩ := zgd hf
        obtain ⟨g3, hf⟩ := zgd hf
        refine zast_z X hP hS (k := 65) (n := 462) (rs := []) rfl g3 dX10_addTerm_123 (fun H locs hP hS => ?_)
        refine lv_aload_n hx hb dX10_addTerm_124 rfl (lv_at hl 0 rfl) ?_
        refine gf_X10_16 X hP (k := 6) (q := 64) rfl dX10_addTerm_125 rfl ?_
        refine lv_aload_n hx hb dX10_addTerm_128 rfl (lv_at hl 0 rfl) ?_
        refine gf_X10_49 X hP (k := 6) rfl dX10_addTerm_129 ?_
        refine lv_iload_n hx hb dX10_addTerm_132 rfl (lv_at hl 2 rfl) ?_
        refine lv_aload_n hx hb dX10_addTerm_133 rfl (lv_at hl 0 rfl) ?_
        refine gf_X10_39 X hP (k := 6) rfl dX10_addTerm_134 ?_
        refine zicmp_ne (tgt := 151) hx hb dX10_addTerm_137 (by decide) hf (fun hf => ?_) (fun hf => ?_)
        · refine lv_lconst (v := 0) hx hb dX10_addTerm_151 (by decide) ?_
          exact hc_152 0 ((zS s1 65 (t1).toNatClampNeg (vp_nar .boolean t0)).1 6 2) (zS s1 65 (t1).toNatClampNeg (vp_nar .boolean t0)) _ _ _ (lv_sub hl [0] rfl) hP hS hf
        · refine lv_aload_n hx hb dX10_addTerm_140 rfl (lv_at hl 1 rfl) ?_
          refine lv_aload_n hx hb dX10_addTerm_141 rfl (lv_at hl 0 rfl) ?_
          refine gf_X10_30 X hP (k := 6) (q := 68) rfl dX10_addTerm_142 rfl ?_
          obtain ⟨r5, s6, h7, hf⟩ := zbd_some hf
          refine zcallV X hP hS hl.1 (k := k1) (As := [.ref (ad 68)]) (rest := [.int ((zS s1 65 (t1).toNatClampNeg (vp_nar .boolean t0)).1 6 2), .ref (ad 64)]) (cn_X7_worthOf h7) cw_X7_worthOf zp_7 gp1 (by decide) rfl ml_X10_77 (by decide) rfl rfl (Nat.le_of_ble_eq_true rfl) dX10_addTerm_145 (fun H locs hP hS => ?_)
          refine lv_goto (tgt := 152) hx hb dX10_addTerm_148 (by decide) ?_
          exact hc_152 r5 ((zS s1 65 (t1).toNatClampNeg (vp_nar .boolean t0)).1 6 2) s6 _ _ _ (lv_sub hl [0] rfl) hP hS hf
      have hc_84 : ∀ (k1 : Nat) (x2 : Int32) (x3 : Int32) (x4 : Int32) (s1 : SS) (H : Heap) (locs : List Loc) (ls : Array Slot), lv_has ls 6 [(0, .ref (ad 6)), (1, .ref (ad k1)), (2, .int x2), (3, .int x3), (4, .int x4)] → va_P D ZCL (zw Ox Nx cA ad s1) H → va_S A s.heap H locs → f_X10_addTerm_c84 k1 x2 x3 x4 s1 = some (rr, sr) → W p l e (zrm 3) s m args below meth c H locs 0 0 (MQ below (zQc Ox Nx cA ad D A none sr) args s 0 0 A) (F0 m 84 ls []) := by
        intro k1 x2 x3 x4 s1 H locs ls hl hP hS hf
        rw [f_X10_addTerm_c84] at hf
        obtain ⟨gp1, hf⟩ := zgd hf
        refine lv_aload_n hx hb dX10_addTerm_84 rfl (lv_at hl 0 rfl) ?_
        refine gf_X10_9 X hP (k := 6) (q := 62) rfl dX10_addTerm_85 rfl ?_
        refine lv_aload_n hx hb dX10_addTerm_88 rfl (lv_at hl 0 rfl) ?_
        refine gf_X10_49 X hP (k := 6) rfl dX10_addTerm_89 ?_
        refine lv_iload_n hx hb dX10_addTerm_92 rfl (lv_at hl 2 rfl) ?_
        obtain ⟨g1, hf⟩ := zgd hf
        refine zast_i X hP hS (k := 62) (n := 462) (rs := []) rfl g1 dX10_addTerm_93 (fun H locs hP hS => ?_)
        refine lv_aload_n hx hb dX10_addTerm_94 rfl (lv_at hl 0 rfl) ?_
        refine gf_X10_13 X hP (k := 6) (q := 63) rfl dX10_addTerm_95 rfl ?_
        refine lv_aload_n hx hb dX10_addTerm_98 rfl (lv_at hl 0 rfl) ?_
        refine gf_X10_49 X hP (k := 6) rfl dX10_addTerm_99 ?_
        refine lv_iload_n hx hb dX10_addTerm_102 rfl (lv_at hl 3 rfl) ?_
        obtain ⟨g2, hf⟩ := zgd hf
        refine zast_i X hP hS (k := 63) (n := 462) (rs := []) rfl g2 dX10_addTerm_103 (fun H locs hP hS => ?_)
        refine lv_aload_n hx hb dX10_addTerm_104 rfl (lv_at hl 0 rfl) ?_
        refine gf_X10_20 X hP (k := 6) (q := 65) rfl dX10_addTerm_105 rfl ?_
        refine lv_aload_n hx hb dX10_addTerm_108 rfl (lv_at hl 0 rfl) ?_
        refine gf_X10_49 X hP (k := 6) rfl dX10_addTerm_109 ?_
        refine lv_iload hx hb dX10_addTerm_112 (lv_at hl 4 rfl) ?_
        refine lv_iload_n hx hb dX10_addTerm_114 rfl (lv_at hl 3 rfl) ?_
        refine zicmp_ne (tgt := 122) hx hb dX10_addTerm_115 (by decide) hf (fun hf => ?_) (fun hf => ?_)
        · refine lv_iconst (v := 0) hx hb dX10_addTerm_122 (by decide) ?_
          exact hc_123 k1 x3 0 ((zS (zS s1 62 ((s1.1 6 2)).toNatClampNeg x2) 63 (((zS s1 62 ((s1.1 6 2)).toNatClampNeg x2).1 6 2)).toNatClampNeg x3).1 6 2) (zS (zS s1 62 ((s1.1 6 2)).toNatClampNeg x2) 63 (((zS s1 62 ((s1.1 6 2)).toNatClampNeg x2).1 6 2)).toNatClampNeg x3) _ _ _ (lv_sub hl [0, 1, 3] rfl) hP hS hf
        · refine lv_iconst (v := 1) hx hb dX10_addTerm_118 (by decide) ?_
          refine lv_goto (tgt := 123) hx hb dX10_addTerm_119 (by decide) ?_
          exact hc_123 k1 x3 1 ((zS (zS s1 62 ((s1.1 6 2)).toNatClampNeg x2) 63 (((zS s1 62 ((s1.1 6 2)).toNatClampNeg x2).1 6 2)).toNatClampNeg x3).1 6 2) (zS (zS s1 62 ((s1.1 6 2)).toNatClampNeg x2) 63 (((zS s1 62 ((s1.1 6 2)).toNatClampNeg x2).1 6 2)).toNatClampNeg x3) _ _ _ (lv_sub hl [0, 1, 3] rfl) hP hS hf
      have hc_75 : ∀ (k1 : Nat) (x2 : Int32) (x3 : Int32) (x5 : Int32) (t0 : Int32) (t1 : Int32) (s1 : SS) (H : Heap) (locs : List Loc) (ls : Array Slot), lv_has ls 6 [(0, .ref (ad 6)), (1, .ref (ad k1)), (2, .int x2), (3, .int x3), (5, .int x5)] → va_P D ZCL (zw Ox Nx cA ad s1) H → va_S A s.heap H locs → f_X10_addTerm_c75 (f_X10_addTerm_c10 n10) k1 x2 x3 x5 t0 t1 s1 = some (rr, sr) → W p l e (zrm 3) s m args below meth c H locs 0 0 (MQ below (zQc Ox Nx cA ad D A none sr) args s 0 0 A) (F0 m 75 ls [.int t0, .int t1]) := by
        intro k1 x2 x3 x5 t0 t1 s1 H locs ls hl hP hS hf
        rw [f_X10_addTerm_c75] at hf
        obtain ⟨gp1, hf⟩ := zgd hf
        refine lv_iadd hx hb dX10_addTerm_75 ?_
        refine lv_istore (lv' := [(4, .int (t1 + t0)), (0, .ref (ad 6)), (1, .ref (ad k1)), (2, .int x2), (3, .int x3), (5, .int x5)]) hx hb dX10_addTerm_76 hl (by decide) rfl (fun ls hl => ?_)
        refine lv_iinc (v := (x5 + 1)) (lv' := [(5, .int (x5 + 1)), (4, .int (t1 + t0)), (0, .ref (ad 6)), (1, .ref (ad k1)), (2, .int x2), (3, .int x3)]) hx hb dX10_addTerm_78 hl (k := 5) rfl rfl (by decide) rfl (fun ls hl => ?_)
        refine lv_goto (tgt := 10) hx hb dX10_addTerm_81 (by decide) ?_
        exact ih10 k1 x2 x3 (t1 + t0) (x5 + 1) s1 _ _ _ (lv_sub hl [2, 3, 4, 5, 1, 0] rfl) hP hS hf
      intro k1 x2 x3 x4 x5 s1 H locs ls hl hP hS hf
      rw [f_X10_addTerm_c10] at hf
      obtain ⟨gp1, hf⟩ := zgd hf
      refine lv_iload hx hb dX10_addTerm_10 (lv_at hl 5 rfl) ?_
      refine lv_aload_n hx hb dX10_addTerm_12 rfl (lv_at hl 0 rfl) ?_
      refine gf_X10_46 X hP (k := 6) rfl dX10_addTerm_13 ?_
      refine zicmp_ge (tgt := 84) hx hb dX10_addTerm_16 (by decide) hf (fun hf => ?_) (fun hf => ?_)
      · exact hc_84 k1 x2 x3 x4 s1 _ _ _ (lv_sub hl [0, 1, 2, 3, 4] rfl) hP hS hf
      · refine lv_iload hx hb dX10_addTerm_19 (lv_at hl 5 rfl) ?_
        refine lv_bipush (v := 6) hx hb dX10_addTerm_21 (by decide) ?_
        refine zicmp_ge (tgt := 84) hx hb dX10_addTerm_23 (by decide) hf (fun hf => ?_) (fun hf => ?_)
        · exact hc_84 k1 x2 x3 x4 s1 _ _ _ (lv_sub hl [0, 1, 2, 3, 4] rfl) hP hS hf
        · refine lv_iload_n hx hb dX10_addTerm_26 rfl (lv_at hl 2 rfl) ?_
          refine lv_aload_n hx hb dX10_addTerm_27 rfl (lv_at hl 0 rfl) ?_
          refine gf_X10_30 X hP (k := 6) (q := 68) rfl dX10_addTerm_28 rfl ?_
          refine lv_iload hx hb dX10_addTerm_31 (lv_at hl 5 rfl) ?_
          obtain ⟨g8, hf⟩ := zgd hf
          refine zald_i X hP (k := 68) (n := 6) (rs := []) rfl g8 dX10_addTerm_33 ?_
          refine zgsN X hS (i := 0) rfl nf_X10_69 dX10_addTerm_34 ?_
          refine lv_iload hx hb dX10_addTerm_37 (lv_at hl 5 rfl) ?_
          obtain ⟨g9, hf⟩ := zgd hf
          refine zst X hS (k := 0) (n := 6) rfl rfl g9 dX10_addTerm_39 ?_
          refine lv_imul hx hb dX10_addTerm_40 ?_
          refine lv_iadd hx hb dX10_addTerm_41 ?_
          refine lv_istore_n (lv' := [(2, .int (x2 + ((s1.1 68 (x5).toNatClampNeg) * (ztab 0 x5)))), (0, .ref (ad 6)), (1, .ref (ad k1)), (3, .int x3), (4, .int x4), (5, .int x5)]) hx hb dX10_addTerm_42 rfl hl (by decide) rfl (fun ls hl => ?_)
          refine lv_iload_n hx hb dX10_addTerm_43 rfl (lv_at hl 3 rfl) ?_
          refine lv_aload_n hx hb dX10_addTerm_44 rfl (lv_at hl 1 rfl) ?_
          refine gf_X10_30 X hP (k := 6) (q := 68) rfl dX10_addTerm_45 rfl ?_
          refine lv_iload hx hb dX10_addTerm_48 (lv_at hl 5 rfl) ?_
          obtain ⟨g10, hf⟩ := zgd hf
          refine zald_i X hP (k := 68) (n := 6) (rs := []) rfl g10 dX10_addTerm_50 ?_
          refine lv_iadd hx hb dX10_addTerm_51 ?_
          refine lv_istore_n (lv' := [(3, .int (x3 + (s1.1 68 (x5).toNatClampNeg))), (2, .int (x2 + ((s1.1 68 (x5).toNatClampNeg) * (ztab 0 x5)))), (0, .ref (ad 6)), (1, .ref (ad k1)), (4, .int x4), (5, .int x5)]) hx hb dX10_addTerm_52 rfl hl (by decide) rfl (fun ls hl => ?_)
          refine lv_iload hx hb dX10_addTerm_53 (lv_at hl 4 rfl) ?_
          refine lv_iload hx hb dX10_addTerm_55 (lv_at hl 5 rfl) ?_
          refine lv_aload_n hx hb dX10_addTerm_57 rfl (lv_at hl 3 rfl) ?_
          refine gf_X10_74 X hP (k := k1) gp1 dX10_addTerm_58 ?_
          refine zicmp_ge (tgt := 74) hx hb dX10_addTerm_61 (by decide) hf (fun hf => ?_) (fun hf => ?_)
          · refine lv_iconst (v := 0) hx hb dX10_addTerm_74 (by decide) ?_
            exact hc_75 k1 (x2 + ((s1.1 68 (x5).toNatClampNeg) * (ztab 0 x5))) (x3 + (s1.1 68 (x5).toNatClampNeg)) x5 0 x4 s1 _ _ _ (lv_sub hl [2, 3, 1, 0, 5] rfl) hP hS hf
          · refine lv_aload_n hx hb dX10_addTerm_64 rfl (lv_at hl 2 rfl) ?_
            refine gf_X10_30 X hP (k := 6) (q := 68) rfl dX10_addTerm_65 rfl ?_
            refine lv_iload hx hb dX10_addTerm_68 (lv_at hl 5 rfl) ?_
            obtain ⟨g11, hf⟩ := zgd hf
            refine zald_i X hP (k := 68) (n := 6) (rs := []) rfl g11 dX10_addTerm_70 ?_
            refine lv_goto (tgt := 75) hx hb dX10_addTerm_71 (by decide) ?_
            exact hc_75 k1 (x2 + ((s1.1 68 (x5).toNatClampNeg) * (ztab 0 x5))) (x3 + (s1.1 68 (x5).toNatClampNeg)) x5 (s1.1 68 (x5).toNatClampNeg) x4 s1 _ _ _ (lv_sub hl [2, 3, 1, 0, 5] rfl) hP hS hf
  rw [f_X10_addTerm] at hf
  obtain ⟨gp1, hf⟩ := zgd hf
  refine lv_iconst (v := 0) hx hb dX10_addTerm_0 (by decide) ?_
  refine lv_istore_n (lv' := [(2, .int 0), (0, .ref (ad 6)), (1, .ref (ad k1))]) hx hb dX10_addTerm_1 rfl hl (by decide) rfl (fun ls hl => ?_)
  refine lv_iconst (v := 0) hx hb dX10_addTerm_2 (by decide) ?_
  refine lv_istore_n (lv' := [(3, .int 0), (2, .int 0), (0, .ref (ad 6)), (1, .ref (ad k1))]) hx hb dX10_addTerm_3 rfl hl (by decide) rfl (fun ls hl => ?_)
  refine lv_iconst (v := 0) hx hb dX10_addTerm_4 (by decide) ?_
  refine lv_istore (lv' := [(4, .int 0), (3, .int 0), (2, .int 0), (0, .ref (ad 6)), (1, .ref (ad k1))]) hx hb dX10_addTerm_5 hl (by decide) rfl (fun ls hl => ?_)
  refine lv_iconst (v := 0) hx hb dX10_addTerm_7 (by decide) ?_
  refine lv_istore (lv' := [(5, .int 0), (4, .int 0), (3, .int 0), (2, .int 0), (0, .ref (ad 6)), (1, .ref (ad k1))]) hx hb dX10_addTerm_8 hl (by decide) rfl (fun ls hl => ?_)
  exact hc_10 ZF k1 0 0 0 0 s0 _ _ _ (lv_sub hl [4, 5, 3, 2, 1, 0] rfl) hP hS hf
theorem dX10_stepOn_0 : decode cX10_stepOn 0 = .ok (.iconst (-1), 1) := by decide +kernel
theorem dX10_stepOn_1 : decode cX10_stepOn 1 = .ok (.istore_n 1, 1) := by decide +kernel
theorem dX10_stepOn_2 : decode cX10_stepOn 2 = .ok (.iconst 0, 1) := by decide +kernel
theorem dX10_stepOn_3 : decode cX10_stepOn 3 = .ok (.istore_n 2, 1) := by decide +kernel
theorem dX10_stepOn_4 : decode cX10_stepOn 4 = .ok (.iconst 0, 1) := by decide +kernel
theorem dX10_stepOn_5 : decode cX10_stepOn 5 = .ok (.istore_n 3, 1) := by decide +kernel
theorem dX10_stepOn_6 : decode cX10_stepOn 6 = .ok (.iload_n 3, 1) := by decide +kernel
theorem dX10_stepOn_7 : decode cX10_stepOn 7 = .ok (.aload_n 0, 1) := by decide +kernel
theorem dX10_stepOn_8 : decode cX10_stepOn 8 = .ok (.getfield 46, 3) := by decide +kernel
theorem dX10_stepOn_11 : decode cX10_stepOn 11 = .ok (.if_icmp .ge 39, 3) := by decide +kernel
theorem dX10_stepOn_14 : decode cX10_stepOn 14 = .ok (.iload_n 3, 1) := by decide +kernel
theorem dX10_stepOn_15 : decode cX10_stepOn 15 = .ok (.bipush 6, 2) := by decide +kernel
theorem dX10_stepOn_17 : decode cX10_stepOn 17 = .ok (.if_icmp .ge 33, 3) := by decide +kernel
theorem dX10_stepOn_20 : decode cX10_stepOn 20 = .ok (.iload_n 2, 1) := by decide +kernel
theorem dX10_stepOn_21 : decode cX10_stepOn 21 = .ok (.aload_n 0, 1) := by decide +kernel
theorem dX10_stepOn_22 : decode cX10_stepOn 22 = .ok (.getfield 30, 3) := by decide +kernel
theorem dX10_stepOn_25 : decode cX10_stepOn 25 = .ok (.iload_n 3, 1) := by decide +kernel
theorem dX10_stepOn_26 : decode cX10_stepOn 26 = .ok (.iaload, 1) := by decide +kernel
theorem dX10_stepOn_27 : decode cX10_stepOn 27 = .ok (.iadd, 1) := by decide +kernel
theorem dX10_stepOn_28 : decode cX10_stepOn 28 = .ok (.istore_n 2, 1) := by decide +kernel
theorem dX10_stepOn_29 : decode cX10_stepOn 29 = .ok (.aload_n 0, 1) := by decide +kernel
theorem dX10_stepOn_30 : decode cX10_stepOn 30 = .ok (.getfield 30, 3) := by decide +kernel
theorem dX10_stepOn_33 : decode cX10_stepOn 33 = .ok (.iload_n 3, 1) := by decide +kernel
theorem dX10_stepOn_34 : decode cX10_stepOn 34 = .ok (.iaload, 1) := by decide +kernel
theorem dX10_stepOn_35 : decode cX10_stepOn 35 = .ok (.ifCond .le 7, 3) := by decide +kernel
theorem dX10_stepOn_38 : decode cX10_stepOn 38 = .ok (.iload_n 3, 1) := by decide +kernel
theorem dX10_stepOn_39 : decode cX10_stepOn 39 = .ok (.goto 4, 3) := by decide +kernel
theorem dX10_stepOn_42 : decode cX10_stepOn 42 = .ok (.iload_n 1, 1) := by decide +kernel
theorem dX10_stepOn_43 : decode cX10_stepOn 43 = .ok (.istore_n 1, 1) := by decide +kernel
theorem dX10_stepOn_44 : decode cX10_stepOn 44 = .ok (.iinc 3 1, 3) := by decide +kernel
theorem dX10_stepOn_47 : decode cX10_stepOn 47 = .ok (.goto (-41), 3) := by decide +kernel
theorem dX10_stepOn_50 : decode cX10_stepOn 50 = .ok (.iload_n 1, 1) := by decide +kernel
theorem dX10_stepOn_51 : decode cX10_stepOn 51 = .ok (.ifCond .ge 5, 3) := by decide +kernel
theorem dX10_stepOn_54 : decode cX10_stepOn 54 = .ok (.iconst 0, 1) := by decide +kernel
theorem dX10_stepOn_55 : decode cX10_stepOn 55 = .ok (.ireturn, 1) := by decide +kernel
theorem dX10_stepOn_56 : decode cX10_stepOn 56 = .ok (.aload_n 0, 1) := by decide +kernel
theorem dX10_stepOn_57 : decode cX10_stepOn 57 = .ok (.getfield 30, 3) := by decide +kernel
theorem dX10_stepOn_60 : decode cX10_stepOn 60 = .ok (.iload_n 1, 1) := by decide +kernel
theorem dX10_stepOn_61 : decode cX10_stepOn 61 = .ok (.dup2, 1) := by decide +kernel
theorem dX10_stepOn_62 : decode cX10_stepOn 62 = .ok (.iaload, 1) := by decide +kernel
theorem dX10_stepOn_63 : decode cX10_stepOn 63 = .ok (.iconst 1, 1) := by decide +kernel
theorem dX10_stepOn_64 : decode cX10_stepOn 64 = .ok (.isub, 1) := by decide +kernel
theorem dX10_stepOn_65 : decode cX10_stepOn 65 = .ok (.iastore, 1) := by decide +kernel
theorem dX10_stepOn_66 : decode cX10_stepOn 66 = .ok (.iload_n 1, 1) := by decide +kernel
theorem dX10_stepOn_67 : decode cX10_stepOn 67 = .ok (.iconst 1, 1) := by decide +kernel
theorem dX10_stepOn_68 : decode cX10_stepOn 68 = .ok (.iadd, 1) := by decide +kernel
theorem dX10_stepOn_69 : decode cX10_stepOn 69 = .ok (.aload_n 0, 1) := by decide +kernel
theorem dX10_stepOn_70 : decode cX10_stepOn 70 = .ok (.getfield 46, 3) := by decide +kernel
theorem dX10_stepOn_73 : decode cX10_stepOn 73 = .ok (.if_icmp .ge 27, 3) := by decide +kernel
theorem dX10_stepOn_76 : decode cX10_stepOn 76 = .ok (.iload_n 1, 1) := by decide +kernel
theorem dX10_stepOn_77 : decode cX10_stepOn 77 = .ok (.iconst 1, 1) := by decide +kernel
theorem dX10_stepOn_78 : decode cX10_stepOn 78 = .ok (.iadd, 1) := by decide +kernel
theorem dX10_stepOn_79 : decode cX10_stepOn 79 = .ok (.bipush 6, 2) := by decide +kernel
theorem dX10_stepOn_81 : decode cX10_stepOn 81 = .ok (.if_icmp .ge 19, 3) := by decide +kernel
theorem dX10_stepOn_84 : decode cX10_stepOn 84 = .ok (.aload_n 0, 1) := by decide +kernel
theorem dX10_stepOn_85 : decode cX10_stepOn 85 = .ok (.getfield 30, 3) := by decide +kernel
theorem dX10_stepOn_88 : decode cX10_stepOn 88 = .ok (.iload_n 1, 1) := by decide +kernel
theorem dX10_stepOn_89 : decode cX10_stepOn 89 = .ok (.iconst 1, 1) := by decide +kernel
theorem dX10_stepOn_90 : decode cX10_stepOn 90 = .ok (.iadd, 1) := by decide +kernel
theorem dX10_stepOn_91 : decode cX10_stepOn 91 = .ok (.aload_n 0, 1) := by decide +kernel
theorem dX10_stepOn_92 : decode cX10_stepOn 92 = .ok (.getfield 39, 3) := by decide +kernel
theorem dX10_stepOn_95 : decode cX10_stepOn 95 = .ok (.iload_n 2, 1) := by decide +kernel
theorem dX10_stepOn_96 : decode cX10_stepOn 96 = .ok (.isub, 1) := by decide +kernel
theorem dX10_stepOn_97 : decode cX10_stepOn 97 = .ok (.iconst 1, 1) := by decide +kernel
theorem dX10_stepOn_98 : decode cX10_stepOn 98 = .ok (.iadd, 1) := by decide +kernel
theorem dX10_stepOn_99 : decode cX10_stepOn 99 = .ok (.iastore, 1) := by decide +kernel
theorem dX10_stepOn_100 : decode cX10_stepOn 100 = .ok (.iconst 1, 1) := by decide +kernel
theorem dX10_stepOn_101 : decode cX10_stepOn 101 = .ok (.ireturn, 1) := by decide +kernel
set_option maxHeartbeats 4000000 in
set_option maxRecDepth 100000 in
theorem cn_X10_stepOn {l : Launch} {cA : Nat → ClassId} {ad : Nat → Nat} {D : va_G} {E : Nat → Nat} {A : Nat → Prop}  {s0 sr : SS} {rr : Int32} (hf : f_X10_stepOn s0 = some (rr, sr)) : zCon Ox Nx cA ad D E l yX10_stepOn cX10_stepOn 4 (some .boolean) 0 A [.ref (ad 6)] s0 (some (.int rr)) sr := by
  refine zstart (own := RX10) hOx (by decide) rfl (Nat.le_of_ble_eq_true rfl) ?_
  intro p e s m args below meth c X hP ls hl
  have hx := X.1
  have hb := X.2.1
  have hl : lv_has ls 4 [(0, .ref (ad 6))] := hl
  have hS : va_S A s.heap s.heap [] := va_S.rf
  have hc_6 : ∀ (n6 : Nat) (x1 : Int32) (x2 : Int32) (x3 : Int32) (s1 : SS) (H : Heap) (locs : List Loc) (ls : Array Slot), lv_has ls 4 [(0, .ref (ad 6)), (1, .int x1), (2, .int x2), (3, .int x3)] → va_P D ZCL (zw Ox Nx cA ad s1) H → va_S A s.heap H locs → f_X10_stepOn_c6 n6 x1 x2 x3 s1 = some (rr, sr) → W p l e (zrm 0) s m args below meth c H locs 0 0 (MQ below (zQc Ox Nx cA ad D A (some (.int rr)) sr) args s 0 0 A) (F0 m 6 ls []) := by
    intro n6
    induction n6 with
    | zero =>
      intro x1 x2 x3 s1 H locs ls hl hP hS hf
      rw [f_X10_stepOn_c6] at hf
      cases hf
    | succ n6 ih6 =>
      have hc_50 : ∀ (x1 : Int32) (x2 : Int32) (s1 : SS) (H : Heap) (locs : List Loc) (ls : Array Slot), lv_has ls 4 [(0, .ref (ad 6)), (1, .int x1), (2, .int x2)] → va_P D ZCL (zw Ox Nx cA ad s1) H → va_S A s.heap H locs → f_X10_stepOn_c50 x1 x2 s1 = some (rr, sr) → W p l e (zrm 0) s m args below meth c H locs 0 0 (MQ below (zQc Ox Nx cA ad D A (some (.int rr)) sr) args s 0 0 A) (F0 m 50 ls []) := by
        intro x1 x2 s1 H locs ls hl hP hS hf
        rw [f_X10_stepOn_c50] at hf
        refine lv_iload_n hx hb dX10_stepOn_50 rfl (lv_at hl 1 rfl) ?_
        refine zif_ge (tgt := 56) hx hb dX10_stepOn_51 (by decide) hf (fun hf => ?_) (fun hf => ?_)
        · refine lv_aload_n hx hb dX10_stepOn_56 rfl (lv_at hl 0 rfl) ?_
          refine gf_X10_30 X hP (k := 6) (q := 68) rfl dX10_stepOn_57 rfl ?_
          refine lv_iload_n hx hb dX10_stepOn_60 rfl (lv_at hl 1 rfl) ?_
          refine lv_dup2_11 hx hb dX10_stepOn_61 rfl rfl ?_
          obtain ⟨g1, hf⟩ := zgd hf
          refine zald_i X hP (k := 68) (n := 6) (rs := []) rfl g1 dX10_stepOn_62 ?_
          refine lv_iconst (v := 1) hx hb dX10_stepOn_63 (by decide) ?_
          refine lv_isub hx hb dX10_stepOn_64 ?_
          obtain ⟨g2, hf⟩ := zgd hf
          refine zast_i X hP hS (k := 68) (n := 6) (rs := []) rfl g2 dX10_stepOn_65 (fun H locs hP hS => ?_)
          refine lv_iload_n hx hb dX10_stepOn_66 rfl (lv_at hl 1 rfl) ?_
          refine lv_iconst (v := 1) hx hb dX10_stepOn_67 (by decide) ?_
          refine lv_iadd hx hb dX10_stepOn_68 ?_
          refine lv_aload_n hx hb dX10_stepOn_69 rfl (lv_at hl 0 rfl) ?_
          refine gf_X10_46 X hP (k := 6) rfl dX10_stepOn_70 ?_
          refine zicmp_ge (tgt := 100) hx hb dX10_stepOn_73 (by decide) hf (fun hf => ?_) (fun hf => ?_)
          · refine lv_iconst (v := 1) hx hb dX10_stepOn_100 (by decide) ?_
            exact zret_i X hP hS hf rfl dX10_stepOn_101
          · refine lv_iload_n hx hb dX10_stepOn_76 rfl (lv_at hl 1 rfl) ?_
            refine lv_iconst (v := 1) hx hb dX10_stepOn_77 (by decide) ?_
            refine lv_iadd hx hb dX10_stepOn_78 ?_
            refine lv_bipush (v := 6) hx hb dX10_stepOn_79 (by decide) ?_
            refine zicmp_ge (tgt := 100) hx hb dX10_stepOn_81 (by decide) hf (fun hf => ?_) (fun hf => ?_)
            · refine lv_iconst (v := 1) hx hb dX10_stepOn_100 (by decide) ?_
              exact zret_i X hP hS hf rfl dX10_stepOn_101
            · refine lv_aload_n hx hb dX10_stepOn_84 rfl (lv_at hl 0 rfl) ?_
              refine gf_X10_30 X hP (k := 6) (q := 68) rfl dX10_stepOn_85 rfl ?_
              refine lv_iload_n hx hb dX10_stepOn_88 rfl (lv_at hl 1 rfl) ?_
              refine lv_iconst (v := 1) hx hb dX10_stepOn_89 (by decide) ?_
              refine lv_iadd hx hb dX10_stepOn_90 ?_
              refine lv_aload_n hx hb dX10_stepOn_91 rfl (lv_at hl 0 rfl) ?_
              refine gf_X10_39 X hP (k := 6) rfl dX10_stepOn_92 ?_
              refine lv_iload_n hx hb dX10_stepOn_95 rfl (lv_at hl 2 rfl) ?_
              refine lv_isub hx hb dX10_stepOn_96 ?_
              refine lv_iconst (v := 1) hx hb dX10_stepOn_97 (by decide) ?_
              refine lv_iadd hx hb dX10_stepOn_98 ?_
              obtain ⟨g3, hf⟩ := zgd hf
              refine zast_i X hP hS (k := 68) (n := 6) (rs := []) rfl g3 dX10_stepOn_99 (fun H locs hP hS => ?_)
              refine lv_iconst (v := 1) hx hb dX10_stepOn_100 (by decide) ?_
              exact zret_i X hP hS hf rfl dX10_stepOn_101
        · refine lv_iconst (v := 0) hx hb dX10_stepOn_54 (by decide) ?_
          exact zret_i X hP hS hf rfl dX10_stepOn_55
      have hc_43 : ∀ (x2 : Int32) (x3 : Int32) (t0 : Int32) (s1 : SS) (H : Heap) (locs : List Loc) (ls : Array Slot), lv_has ls 4 [(0, .ref (ad 6)), (2, .int x2), (3, .int x3)] → va_P D ZCL (zw Ox Nx cA ad s1) H → va_S A s.heap H locs → f_X10_stepOn_c43 (f_X10_stepOn_c6 n6) x2 x3 t0 s1 = some (rr, sr) → W p l e (zrm 0) s m args below meth c H locs 0 0 (MQ below (zQc Ox Nx cA ad D A (some (.int rr)) sr) args s 0 0 A) (F0 m 43 ls [.int t0]) := by
        intro x2 x3 t0 s1 H locs ls hl hP hS hf
        rw [f_X10_stepOn_c43] at hf
        refine lv_istore_n (lv' := [(1, .int t0), (0, .ref (ad 6)), (2, .int x2), (3, .int x3)]) hx hb dX10_stepOn_43 rfl hl (by decide) rfl (fun ls hl => ?_)
        refine lv_iinc (v := (x3 + 1)) (lv' := [(3, .int (x3 + 1)), (1, .int t0), (0, .ref (ad 6)), (2, .int x2)]) hx hb dX10_stepOn_44 hl (k := 3) rfl rfl (by decide) rfl (fun ls hl => ?_)
        refine lv_goto (tgt := 6) hx hb dX10_stepOn_47 (by decide) ?_
        exact ih6 t0 x2 (x3 + 1) s1 _ _ _ (lv_sub hl [2, 1, 3, 0] rfl) hP hS hf
      intro x1 x2 x3 s1 H locs ls hl hP hS hf
      rw [f_X10_stepOn_c6] at hf
      refine lv_iload_n hx hb dX10_stepOn_6 rfl (lv_at hl 3 rfl) ?_
      refine lv_aload_n hx hb dX10_stepOn_7 rfl (lv_at hl 0 rfl) ?_
      refine gf_X10_46 X hP (k := 6) rfl dX10_stepOn_8 ?_
      refine zicmp_ge (tgt := 50) hx hb dX10_stepOn_11 (by decide) hf (fun hf => ?_) (fun hf => ?_)
      · exact hc_50 x1 x2 s1 _ _ _ (lv_sub hl [0, 1, 2] rfl) hP hS hf
      · refine lv_iload_n hx hb dX10_stepOn_14 rfl (lv_at hl 3 rfl) ?_
        refine lv_bipush (v := 6) hx hb dX10_stepOn_15 (by decide) ?_
        refine zicmp_ge (tgt := 50) hx hb dX10_stepOn_17 (by decide) hf (fun hf => ?_) (fun hf => ?_)
        · exact hc_50 x1 x2 s1 _ _ _ (lv_sub hl [0, 1, 2] rfl) hP hS hf
        · refine lv_iload_n hx hb dX10_stepOn_20 rfl (lv_at hl 2 rfl) ?_
          refine lv_aload_n hx hb dX10_stepOn_21 rfl (lv_at hl 0 rfl) ?_
          refine gf_X10_30 X hP (k := 6) (q := 68) rfl dX10_stepOn_22 rfl ?_
          refine lv_iload_n hx hb dX10_stepOn_25 rfl (lv_at hl 3 rfl) ?_
          obtain ⟨g4, hf⟩ := zgd hf
          refine zald_i X hP (k := 68) (n := 6) (rs := []) rfl g4 dX10_stepOn_26 ?_
          refine lv_iadd hx hb dX10_stepOn_27 ?_
          refine lv_istore_n (lv' := [(2, .int (x2 + (s1.1 68 (x3).toNatClampNeg))), (0, .ref (ad 6)), (1, .int x1), (3, .int x3)]) hx hb dX10_stepOn_28 rfl hl (by decide) rfl (fun ls hl => ?_)
          refine lv_aload_n hx hb dX10_stepOn_29 rfl (lv_at hl 1 rfl) ?_
          refine gf_X10_30 X hP (k := 6) (q := 68) rfl dX10_stepOn_30 rfl ?_
          refine lv_iload_n hx hb dX10_stepOn_33 rfl (lv_at hl 3 rfl) ?_
          obtain ⟨g5, hf⟩ := zgd hf
          refine zald_i X hP (k := 68) (n := 6) (rs := []) rfl g5 dX10_stepOn_34 ?_
          refine zif_le (tgt := 42) hx hb dX10_stepOn_35 (by decide) hf (fun hf => ?_) (fun hf => ?_)
          · refine lv_iload_n hx hb dX10_stepOn_42 rfl (lv_at hl 2 rfl) ?_
            exact hc_43 (x2 + (s1.1 68 (x3).toNatClampNeg)) x3 x1 s1 _ _ _ (lv_sub hl [1, 0, 3] rfl) hP hS hf
          · refine lv_iload_n hx hb dX10_stepOn_38 rfl (lv_at hl 3 rfl) ?_
            refine lv_goto (tgt := 43) hx hb dX10_stepOn_39 (by decide) ?_
            exact hc_43 (x2 + (s1.1 68 (x3).toNatClampNeg)) x3 x3 s1 _ _ _ (lv_sub hl [1, 0, 3] rfl) hP hS hf
  rw [f_X10_stepOn] at hf
  refine lv_iconst (v := (-1)) hx hb dX10_stepOn_0 (by decide) ?_
  refine lv_istore_n (lv' := [(1, .int (-1)), (0, .ref (ad 6))]) hx hb dX10_stepOn_1 rfl hl (by decide) rfl (fun ls hl => ?_)
  refine lv_iconst (v := 0) hx hb dX10_stepOn_2 (by decide) ?_
  refine lv_istore_n (lv' := [(2, .int 0), (1, .int (-1)), (0, .ref (ad 6))]) hx hb dX10_stepOn_3 rfl hl (by decide) rfl (fun ls hl => ?_)
  refine lv_iconst (v := 0) hx hb dX10_stepOn_4 (by decide) ?_
  refine lv_istore_n (lv' := [(3, .int 0), (2, .int 0), (1, .int (-1)), (0, .ref (ad 6))]) hx hb dX10_stepOn_5 rfl hl (by decide) rfl (fun ls hl => ?_)
  exact hc_6 ZF (-1) 0 0 s0 _ _ _ (lv_sub hl [3, 2, 1, 0] rfl) hP hS hf
theorem dX10_orderBySize_0 : decode cX10_orderBySize 0 = .ok (.iconst 0, 1) := by decide +kernel
theorem dX10_orderBySize_1 : decode cX10_orderBySize 1 = .ok (.istore_n 1, 1) := by decide +kernel
theorem dX10_orderBySize_2 : decode cX10_orderBySize 2 = .ok (.iconst 0, 1) := by decide +kernel
theorem dX10_orderBySize_3 : decode cX10_orderBySize 3 = .ok (.istore_n 2, 1) := by decide +kernel
theorem dX10_orderBySize_4 : decode cX10_orderBySize 4 = .ok (.iload_n 2, 1) := by decide +kernel
theorem dX10_orderBySize_5 : decode cX10_orderBySize 5 = .ok (.iconst 5, 1) := by decide +kernel
theorem dX10_orderBySize_6 : decode cX10_orderBySize 6 = .ok (.if_icmp .gt 52, 3) := by decide +kernel
theorem dX10_orderBySize_9 : decode cX10_orderBySize 9 = .ok (.aload_n 0, 1) := by decide +kernel
theorem dX10_orderBySize_10 : decode cX10_orderBySize 10 = .ok (.getfield 27, 3) := by decide +kernel
theorem dX10_orderBySize_13 : decode cX10_orderBySize 13 = .ok (.iload_n 2, 1) := by decide +kernel
theorem dX10_orderBySize_14 : decode cX10_orderBySize 14 = .ok (.iload_n 1, 1) := by decide +kernel
theorem dX10_orderBySize_15 : decode cX10_orderBySize 15 = .ok (.iastore, 1) := by decide +kernel
theorem dX10_orderBySize_16 : decode cX10_orderBySize 16 = .ok (.iconst 0, 1) := by decide +kernel
theorem dX10_orderBySize_17 : decode cX10_orderBySize 17 = .ok (.istore_n 3, 1) := by decide +kernel
theorem dX10_orderBySize_18 : decode cX10_orderBySize 18 = .ok (.iload_n 3, 1) := by decide +kernel
theorem dX10_orderBySize_19 : decode cX10_orderBySize 19 = .ok (.aload_n 0, 1) := by decide +kernel
theorem dX10_orderBySize_20 : decode cX10_orderBySize 20 = .ok (.getfield 49, 3) := by decide +kernel
theorem dX10_orderBySize_23 : decode cX10_orderBySize 23 = .ok (.if_icmp .ge 29, 3) := by decide +kernel
theorem dX10_orderBySize_26 : decode cX10_orderBySize 26 = .ok (.aload_n 0, 1) := by decide +kernel
theorem dX10_orderBySize_27 : decode cX10_orderBySize 27 = .ok (.getfield 13, 3) := by decide +kernel
theorem dX10_orderBySize_30 : decode cX10_orderBySize 30 = .ok (.iload_n 3, 1) := by decide +kernel
theorem dX10_orderBySize_31 : decode cX10_orderBySize 31 = .ok (.iaload, 1) := by decide +kernel
theorem dX10_orderBySize_32 : decode cX10_orderBySize 32 = .ok (.iload_n 2, 1) := by decide +kernel
theorem dX10_orderBySize_33 : decode cX10_orderBySize 33 = .ok (.if_icmp .ne 13, 3) := by decide +kernel
theorem dX10_orderBySize_36 : decode cX10_orderBySize 36 = .ok (.aload_n 0, 1) := by decide +kernel
theorem dX10_orderBySize_37 : decode cX10_orderBySize 37 = .ok (.getfield 24, 3) := by decide +kernel
theorem dX10_orderBySize_40 : decode cX10_orderBySize 40 = .ok (.iload_n 1, 1) := by decide +kernel
theorem dX10_orderBySize_41 : decode cX10_orderBySize 41 = .ok (.iload_n 3, 1) := by decide +kernel
theorem dX10_orderBySize_42 : decode cX10_orderBySize 42 = .ok (.iastore, 1) := by decide +kernel
theorem dX10_orderBySize_43 : decode cX10_orderBySize 43 = .ok (.iinc 1 1, 3) := by decide +kernel
theorem dX10_orderBySize_46 : decode cX10_orderBySize 46 = .ok (.iinc 3 1, 3) := by decide +kernel
theorem dX10_orderBySize_49 : decode cX10_orderBySize 49 = .ok (.goto (-31), 3) := by decide +kernel
theorem dX10_orderBySize_52 : decode cX10_orderBySize 52 = .ok (.iinc 2 1, 3) := by decide +kernel
theorem dX10_orderBySize_55 : decode cX10_orderBySize 55 = .ok (.goto (-51), 3) := by decide +kernel
theorem dX10_orderBySize_58 : decode cX10_orderBySize 58 = .ok (.aload_n 0, 1) := by decide +kernel
theorem dX10_orderBySize_59 : decode cX10_orderBySize 59 = .ok (.getfield 27, 3) := by decide +kernel
theorem dX10_orderBySize_62 : decode cX10_orderBySize 62 = .ok (.bipush 6, 2) := by decide +kernel
theorem dX10_orderBySize_64 : decode cX10_orderBySize 64 = .ok (.iload_n 1, 1) := by decide +kernel
theorem dX10_orderBySize_65 : decode cX10_orderBySize 65 = .ok (.iastore, 1) := by decide +kernel
theorem dX10_orderBySize_66 : decode cX10_orderBySize 66 = .ok (.return_, 1) := by decide +kernel
set_option maxHeartbeats 4000000 in
set_option maxRecDepth 100000 in
theorem cn_X10_orderBySize {l : Launch} {cA : Nat → ClassId} {ad : Nat → Nat} {D : va_G} {E : Nat → Nat} {A : Nat → Prop}  {s0 sr : SS} {rr : Unit} (hf : f_X10_orderBySize s0 = some (rr, sr)) : zCon Ox Nx cA ad D E l yX10_orderBySize cX10_orderBySize 4 none 0 A [.ref (ad 6)] s0 none sr := by
  refine zstart (own := RX10) hOx (by decide) rfl (Nat.le_of_ble_eq_true rfl) ?_
  intro p e s m args below meth c X hP ls hl
  have hx := X.1
  have hb := X.2.1
  have hl : lv_has ls 4 [(0, .ref (ad 6))] := hl
  have hS : va_S A s.heap s.heap [] := va_S.rf
  have hc_4 : ∀ (n4 : Nat) (x1 : Int32) (x2 : Int32) (s1 : SS) (H : Heap) (locs : List Loc) (ls : Array Slot), lv_has ls 4 [(0, .ref (ad 6)), (1, .int x1), (2, .int x2)] → va_P D ZCL (zw Ox Nx cA ad s1) H → va_S A s.heap H locs → f_X10_orderBySize_c4 n4 x1 x2 s1 = some (rr, sr) → W p l e (zrm 0) s m args below meth c H locs 0 0 (MQ below (zQc Ox Nx cA ad D A none sr) args s 0 0 A) (F0 m 4 ls []) := by
    intro n4
    induction n4 with
    | zero =>
      intro x1 x2 s1 H locs ls hl hP hS hf
      rw [f_X10_orderBySize_c4] at hf
      cases hf
    | succ n4 ih4 =>
      have hc_18 : ∀ (n18 : Nat) (x1 : Int32) (x2 : Int32) (x3 : Int32) (s1 : SS) (H : Heap) (locs : List Loc) (ls : Array Slot), lv_has ls 4 [(0, .ref (ad 6)), (1, .int x1), (2, .int x2), (3, .int x3)] → va_P D ZCL (zw Ox Nx cA ad s1) H → va_S A s.heap H locs → f_X10_orderBySize_c18 (f_X10_orderBySize_c4 n4) n18 x1 x2 x3 s1 = some (rr, sr) → W p l e (zrm 0) s m args below meth c H locs 0 0 (MQ below (zQc Ox Nx cA ad D A none sr) args s 0 0 A) (F0 m 18 ls []) := by
        intro n18
        induction n18 with
        | zero =>
          intro x1 x2 x3 s1 H locs ls hl hP hS hf
          rw [f_X10_orderBySize_c18] at hf
          cases hf
        | succ n18 ih18 =>
          have hc_46 : ∀ (x1 : Int32) (x2 : Int32) (x3 : Int32) (s1 : SS) (H : Heap) (locs : List Loc) (ls : Array Slot), lv_has ls 4 [(0, .ref (ad 6)), (1, .int x1), (2, .int x2), (3, .int x3)] → va_P D ZCL (zw Ox Nx cA ad s1) H → va_S A s.heap H locs → f_X10_orderBySize_c46 (f_X10_orderBySize_c18 (f_X10_orderBySize_c4 n4) n18) (f_X10_orderBySize_c4 n4) x1 x2 x3 s1 = some (rr, sr) → W p l e (zrm 0) s m args below meth c H locs 0 0 (MQ below (zQc Ox Nx cA ad D A none sr) args s 0 0 A) (F0 m 46 ls []) := by
            intro x1 x2 x3 s1 H locs ls hl hP hS hf
            rw [f_X10_orderBySize_c46] at hf
            refine lv_iinc (v := (x3 + 1)) (lv' := [(3, .int (x3 + 1)), (0, .ref (ad 6)), (1, .int x1), (2, .int x2)]) hx hb dX10_orderBySize_46 hl (k := 3) rfl rfl (by decide) rfl (fun ls hl => ?_)
            refine lv_goto (tgt := 18) hx hb dX10_orderBySize_49 (by decide) ?_
            exact ih18 x1 x2 (x3 + 1) s1 _ _ _ (lv_sub hl [1, 2, 3, 0] rfl) hP hS hf
          intro x1 x2 x3 s1 H locs ls hl hP hS hf
          rw [f_X10_orderBySize_c18] at hf
          refine lv_iload_n hx hb dX10_orderBySize_18 rfl (lv_at hl 3 rfl) ?_
          refine lv_aload_n hx hb dX10_orderBySize_19 rfl (lv_at hl 0 rfl) ?_
          refine gf_X10_49 X hP (k := 6) rfl dX10_orderBySize_20 ?_
          refine zicmp_ge (tgt := 52) hx hb dX10_orderBySize_23 (by decide) hf (fun hf => ?_) (fun hf => ?_)
          · refine lv_iinc (v := (x2 + 1)) (lv' := [(2, .int (x2 + 1)), (0, .ref (ad 6)), (1, .int x1), (3, .int x3)]) hx hb dX10_orderBySize_52 hl (k := 2) rfl rfl (by decide) rfl (fun ls hl => ?_)
            refine lv_goto (tgt := 4) hx hb dX10_orderBySize_55 (by decide) ?_
            exact ih4 x1 (x2 + 1) s1 _ _ _ (lv_sub hl [1, 2, 0] rfl) hP hS hf
          · refine lv_aload_n hx hb dX10_orderBySize_26 rfl (lv_at hl 0 rfl) ?_
            refine gf_X10_13 X hP (k := 6) (q := 63) rfl dX10_orderBySize_27 rfl ?_
            refine lv_iload_n hx hb dX10_orderBySize_30 rfl (lv_at hl 3 rfl) ?_
            obtain ⟨g3, hf⟩ := zgd hf
            refine zald_i X hP (k := 63) (n := 462) (rs := []) rfl g3 dX10_orderBySize_31 ?_
            refine lv_iload_n hx hb dX10_orderBySize_32 rfl (lv_at hl 2 rfl) ?_
            refine zicmp_ne (tgt := 46) hx hb dX10_orderBySize_33 (by decide) hf (fun hf => ?_) (fun hf => ?_)
            · exact hc_46 x1 x2 x3 s1 _ _ _ (lv_sub hl [0, 1, 2, 3] rfl) hP hS hf
            · refine lv_aload_n hx hb dX10_orderBySize_36 rfl (lv_at hl 0 rfl) ?_
              refine gf_X10_24 X hP (k := 6) (q := 66) rfl dX10_orderBySize_37 rfl ?_
              refine lv_iload_n hx hb dX10_orderBySize_40 rfl (lv_at hl 1 rfl) ?_
              refine lv_iload_n hx hb dX10_orderBySize_41 rfl (lv_at hl 3 rfl) ?_
              obtain ⟨g4, hf⟩ := zgd hf
              refine zast_i X hP hS (k := 66) (n := 462) (rs := []) rfl g4 dX10_orderBySize_42 (fun H locs hP hS => ?_)
              refine lv_iinc (v := (x1 + 1)) (lv' := [(1, .int (x1 + 1)), (0, .ref (ad 6)), (2, .int x2), (3, .int x3)]) hx hb dX10_orderBySize_43 hl (k := 1) rfl rfl (by decide) rfl (fun ls hl => ?_)
              exact hc_46 (x1 + 1) x2 x3 (zS s1 66 (x1).toNatClampNeg x3) _ _ _ (lv_sub hl [1, 0, 2, 3] rfl) hP hS hf
      intro x1 x2 s1 H locs ls hl hP hS hf
      rw [f_X10_orderBySize_c4] at hf
      refine lv_iload_n hx hb dX10_orderBySize_4 rfl (lv_at hl 2 rfl) ?_
      refine lv_iconst (v := 5) hx hb dX10_orderBySize_5 (by decide) ?_
      refine zicmp_gt (tgt := 58) hx hb dX10_orderBySize_6 (by decide) hf (fun hf => ?_) (fun hf => ?_)
      · refine lv_aload_n hx hb dX10_orderBySize_58 rfl (lv_at hl 0 rfl) ?_
        refine gf_X10_27 X hP (k := 6) (q := 67) rfl dX10_orderBySize_59 rfl ?_
        refine lv_bipush (v := 6) hx hb dX10_orderBySize_62 (by decide) ?_
        refine lv_iload_n hx hb dX10_orderBySize_64 rfl (lv_at hl 1 rfl) ?_
        obtain ⟨g1, hf⟩ := zgd hf
        refine zast_i X hP hS (k := 67) (n := 7) (rs := []) rfl g1 dX10_orderBySize_65 (fun H locs hP hS => ?_)
        exact zret_v X hP hS hf dX10_orderBySize_66
      · refine lv_aload_n hx hb dX10_orderBySize_9 rfl (lv_at hl 0 rfl) ?_
        refine gf_X10_27 X hP (k := 6) (q := 67) rfl dX10_orderBySize_10 rfl ?_
        refine lv_iload_n hx hb dX10_orderBySize_13 rfl (lv_at hl 2 rfl) ?_
        refine lv_iload_n hx hb dX10_orderBySize_14 rfl (lv_at hl 1 rfl) ?_
        obtain ⟨g2, hf⟩ := zgd hf
        refine zast_i X hP hS (k := 67) (n := 7) (rs := []) rfl g2 dX10_orderBySize_15 (fun H locs hP hS => ?_)
        refine lv_iconst (v := 0) hx hb dX10_orderBySize_16 (by decide) ?_
        refine lv_istore_n (lv' := [(3, .int 0), (0, .ref (ad 6)), (1, .int x1), (2, .int x2)]) hx hb dX10_orderBySize_17 rfl hl (by decide) rfl (fun ls hl => ?_)
        exact hc_18 ZF x1 x2 0 (zS s1 67 (x2).toNatClampNeg x1) _ _ _ (lv_sub hl [1, 2, 3, 0] rfl) hP hS hf
  rw [f_X10_orderBySize] at hf
  refine lv_iconst (v := 0) hx hb dX10_orderBySize_0 (by decide) ?_
  refine lv_istore_n (lv' := [(1, .int 0), (0, .ref (ad 6))]) hx hb dX10_orderBySize_1 rfl hl (by decide) rfl (fun ls hl => ?_)
  refine lv_iconst (v := 0) hx hb dX10_orderBySize_2 (by decide) ?_
  refine lv_istore_n (lv' := [(2, .int 0), (1, .int 0), (0, .ref (ad 6))]) hx hb dX10_orderBySize_3 rfl hl (by decide) rfl (fun ls hl => ?_)
  exact hc_4 ZF 0 0 s0 _ _ _ (lv_sub hl [2, 1, 0] rfl) hP hS hf
theorem dX10_layOut_0 : decode cX10_layOut 0 = .ok (.aload_n 0, 1) := by decide +kernel
theorem dX10_layOut_1 : decode cX10_layOut 1 = .ok (.aload_n 1, 1) := by decide +kernel
theorem dX10_layOut_2 : decode cX10_layOut 2 = .ok (.invokevirtual 33, 3) := by decide +kernel
theorem dX10_layOut_5 : decode cX10_layOut 5 = .ok (.putfield 39, 3) := by decide +kernel
theorem dX10_layOut_8 : decode cX10_layOut 8 = .ok (.aload_n 0, 1) := by decide +kernel
theorem dX10_layOut_9 : decode cX10_layOut 9 = .ok (.aload_n 1, 1) := by decide +kernel
theorem dX10_layOut_10 : decode cX10_layOut 10 = .ok (.invokevirtual 43, 3) := by decide +kernel
theorem dX10_layOut_13 : decode cX10_layOut 13 = .ok (.putfield 46, 3) := by decide +kernel
theorem dX10_layOut_16 : decode cX10_layOut 16 = .ok (.aload_n 0, 1) := by decide +kernel
theorem dX10_layOut_17 : decode cX10_layOut 17 = .ok (.iconst 0, 1) := by decide +kernel
theorem dX10_layOut_18 : decode cX10_layOut 18 = .ok (.putfield 49, 3) := by decide +kernel
theorem dX10_layOut_21 : decode cX10_layOut 21 = .ok (.aload_n 0, 1) := by decide +kernel
theorem dX10_layOut_22 : decode cX10_layOut 22 = .ok (.getfield 30, 3) := by decide +kernel
theorem dX10_layOut_25 : decode cX10_layOut 25 = .ok (.iconst 0, 1) := by decide +kernel
theorem dX10_layOut_26 : decode cX10_layOut 26 = .ok (.invokestatic 52, 3) := by decide +kernel
theorem dX10_layOut_29 : decode cX10_layOut 29 = .ok (.aload_n 0, 1) := by decide +kernel
theorem dX10_layOut_30 : decode cX10_layOut 30 = .ok (.getfield 30, 3) := by decide +kernel
theorem dX10_layOut_33 : decode cX10_layOut 33 = .ok (.iconst 0, 1) := by decide +kernel
theorem dX10_layOut_34 : decode cX10_layOut 34 = .ok (.aload_n 0, 1) := by decide +kernel
theorem dX10_layOut_35 : decode cX10_layOut 35 = .ok (.getfield 39, 3) := by decide +kernel
theorem dX10_layOut_38 : decode cX10_layOut 38 = .ok (.iastore, 1) := by decide +kernel
theorem dX10_layOut_39 : decode cX10_layOut 39 = .ok (.iconst 1, 1) := by decide +kernel
theorem dX10_layOut_40 : decode cX10_layOut 40 = .ok (.istore_n 2, 1) := by decide +kernel
theorem dX10_layOut_41 : decode cX10_layOut 41 = .ok (.iconst 0, 1) := by decide +kernel
theorem dX10_layOut_42 : decode cX10_layOut 42 = .ok (.istore_n 3, 1) := by decide +kernel
theorem dX10_layOut_43 : decode cX10_layOut 43 = .ok (.iload_n 3, 1) := by decide +kernel
theorem dX10_layOut_44 : decode cX10_layOut 44 = .ok (.sipush 462, 3) := by decide +kernel
theorem dX10_layOut_47 : decode cX10_layOut 47 = .ok (.if_icmp .ge 23, 3) := by decide +kernel
theorem dX10_layOut_50 : decode cX10_layOut 50 = .ok (.iload_n 2, 1) := by decide +kernel
theorem dX10_layOut_51 : decode cX10_layOut 51 = .ok (.ifCond .eq 19, 3) := by decide +kernel
theorem dX10_layOut_54 : decode cX10_layOut 54 = .ok (.aload_n 0, 1) := by decide +kernel
theorem dX10_layOut_55 : decode cX10_layOut 55 = .ok (.aload_n 1, 1) := by decide +kernel
theorem dX10_layOut_56 : decode cX10_layOut 56 = .ok (.invokevirtual 58, 3) := by decide +kernel
theorem dX10_layOut_59 : decode cX10_layOut 59 = .ok (.aload_n 0, 1) := by decide +kernel
theorem dX10_layOut_60 : decode cX10_layOut 60 = .ok (.invokevirtual 62, 3) := by decide +kernel
theorem dX10_layOut_63 : decode cX10_layOut 63 = .ok (.istore_n 2, 1) := by decide +kernel
theorem dX10_layOut_64 : decode cX10_layOut 64 = .ok (.iinc 3 1, 3) := by decide +kernel
theorem dX10_layOut_67 : decode cX10_layOut 67 = .ok (.goto (-24), 3) := by decide +kernel
theorem dX10_layOut_70 : decode cX10_layOut 70 = .ok (.aload_n 0, 1) := by decide +kernel
theorem dX10_layOut_71 : decode cX10_layOut 71 = .ok (.invokevirtual 66, 3) := by decide +kernel
theorem dX10_layOut_74 : decode cX10_layOut 74 = .ok (.return_, 1) := by decide +kernel
set_option maxHeartbeats 4000000 in
set_option maxRecDepth 100000 in
theorem cn_X10_layOut {l : Launch} {cA : Nat → ClassId} {ad : Nat → Nat} {D : va_G} {E : Nat → Nat} {A : Nat → Prop} {k1 : Nat} {s0 sr : SS} {rr : Unit} (hf : f_X10_layOut k1 s0 = some (rr, sr)) : zCon Ox Nx cA ad D E l yX10_layOut cX10_layOut 4 none 4 A [.ref (ad 6), .ref (ad k1)] s0 none sr := by
  refine zstart (own := RX10) hOx (by decide) rfl (Nat.le_of_ble_eq_true rfl) ?_
  intro p e s m args below meth c X hP ls hl
  have hx := X.1
  have hb := X.2.1
  have hl : lv_has ls 4 [(0, .ref (ad 6)), (1, .ref (ad k1))] := hl
  have hS : va_S A s.heap s.heap [] := va_S.rf
  have hc_43 : ∀ (n43 : Nat) (k1 : Nat) (x2 : Int32) (x3 : Int32) (s1 : SS) (H : Heap) (locs : List Loc) (ls : Array Slot), lv_has ls 4 [(0, .ref (ad 6)), (1, .ref (ad k1)), (2, .int x2), (3, .int x3)] → va_P D ZCL (zw Ox Nx cA ad s1) H → va_S A s.heap H locs → f_X10_layOut_c43 n43 k1 x2 x3 s1 = some (rr, sr) → W p l e (zrm 4) s m args below meth c H locs 0 0 (MQ below (zQc Ox Nx cA ad D A none sr) args s 0 0 A) (F0 m 43 ls []) := by
    intro n43
    induction n43 with
    | zero =>
      intro k1 x2 x3 s1 H locs ls hl hP hS hf
      rw [f_X10_layOut_c43] at hf
      cases hf
    | succ n43 ih43 =>
      have hc_70 : ∀  (s1 : SS) (H : Heap) (locs : List Loc) (ls : Array Slot), lv_has ls 4 [(0, .ref (ad 6))] → va_P D ZCL (zw Ox Nx cA ad s1) H → va_S A s.heap H locs → f_X10_layOut_c70  s1 = some (rr, sr) → W p l e (zrm 4) s m args below meth c H locs 0 0 (MQ below (zQc Ox Nx cA ad D A none sr) args s 0 0 A) (F0 m 70 ls []) := by
        intro  s1 H locs ls hl hP hS hf
        rw [f_X10_layOut_c70] at hf
        refine lv_aload_n hx hb dX10_layOut_70 rfl (lv_at hl 0 rfl) ?_
        obtain ⟨r11, s12, h13, hf⟩ := zbd_some hf
        refine zcallV X hP hS hl.1 (k := 6) (As := []) (rest := []) (cn_X10_orderBySize h13) cw_X10_orderBySize zp_10 rfl (by decide) rfl ml_X10_66 (by decide) rfl rfl (Nat.le_of_ble_eq_true rfl) dX10_layOut_71 (fun H locs hP hS => ?_)
        exact zret_v X hP hS hf dX10_layOut_74
      intro k1 x2 x3 s1 H locs ls hl hP hS hf
      rw [f_X10_layOut_c43] at hf
      obtain ⟨gp1, hf⟩ := zgd hf
      refine lv_iload_n hx hb dX10_layOut_43 rfl (lv_at hl 3 rfl) ?_
      refine lv_sipush (v := 462) hx hb dX10_layOut_44 (by decide) ?_
      refine zicmp_ge (tgt := 70) hx hb dX10_layOut_47 (by decide) hf (fun hf => ?_) (fun hf => ?_)
      · exact hc_70  s1 _ _ _ (lv_sub hl [0] rfl) hP hS hf
      · refine lv_iload_n hx hb dX10_layOut_50 rfl (lv_at hl 2 rfl) ?_
        refine zif_eq (tgt := 70) hx hb dX10_layOut_51 (by decide) hf (fun hf => ?_) (fun hf => ?_)
        · exact hc_70  s1 _ _ _ (lv_sub hl [0] rfl) hP hS hf
        · refine lv_aload_n hx hb dX10_layOut_54 rfl (lv_at hl 0 rfl) ?_
          refine lv_aload_n hx hb dX10_layOut_55 rfl (lv_at hl 1 rfl) ?_
          obtain ⟨r14, s15, h16, hf⟩ := zbd_some hf
          refine zcallV X hP hS hl.1 (k := 6) (As := [.ref (ad k1)]) (rest := []) (cn_X10_addTerm h16) cw_X10_addTerm zp_10 rfl (by decide) rfl ml_X10_58 (by decide) rfl rfl (Nat.le_of_ble_eq_true rfl) dX10_layOut_56 (fun H locs hP hS => ?_)
          refine lv_aload_n hx hb dX10_layOut_59 rfl (lv_at hl 0 rfl) ?_
          obtain ⟨r17, s18, h19, hf⟩ := zbd_some hf
          refine zcallV X hP hS hl.1 (k := 6) (As := []) (rest := []) (cn_X10_stepOn h19) cw_X10_stepOn zp_10 rfl (by decide) rfl ml_X10_62 (by decide) rfl rfl (Nat.le_of_ble_eq_true rfl) dX10_layOut_60 (fun H locs hP hS => ?_)
          refine lv_istore_n (lv' := [(2, .int r17), (0, .ref (ad 6)), (1, .ref (ad k1)), (3, .int x3)]) hx hb dX10_layOut_63 rfl hl (by decide) rfl (fun ls hl => ?_)
          refine lv_iinc (v := (x3 + 1)) (lv' := [(3, .int (x3 + 1)), (2, .int r17), (0, .ref (ad 6)), (1, .ref (ad k1))]) hx hb dX10_layOut_64 hl (k := 3) rfl rfl (by decide) rfl (fun ls hl => ?_)
          refine lv_goto (tgt := 43) hx hb dX10_layOut_67 (by decide) ?_
          exact ih43 k1 r17 (x3 + 1) s18 _ _ _ (lv_sub hl [2, 3, 1, 0] rfl) hP hS hf
  rw [f_X10_layOut] at hf
  obtain ⟨gp1, hf⟩ := zgd hf
  refine lv_aload_n hx hb dX10_layOut_0 rfl (lv_at hl 0 rfl) ?_
  refine lv_aload_n hx hb dX10_layOut_1 rfl (lv_at hl 1 rfl) ?_
  obtain ⟨r1, s2, h3, hf⟩ := zbd_some hf
  refine zcallV X hP hS hl.1 (k := k1) (As := []) (rest := [.ref (ad 6)]) (cn_X7_dimension h3) cw_X7_dimension zp_7 gp1 (by decide) rfl ml_X10_33 (by decide) rfl rfl (Nat.le_of_ble_eq_true rfl) dX10_layOut_2 (fun H locs hP hS => ?_)
  refine pf_X10_39 X hP hS (k := 6) rfl dX10_layOut_5 (fun H locs hP hS => ?_)
  refine lv_aload_n hx hb dX10_layOut_8 rfl (lv_at hl 0 rfl) ?_
  refine lv_aload_n hx hb dX10_layOut_9 rfl (lv_at hl 1 rfl) ?_
  obtain ⟨r4, s5, h6, hf⟩ := zbd_some hf
  refine zcallV X hP hS hl.1 (k := k1) (As := []) (rest := [.ref (ad 6)]) (cn_X7_letterCount h6) cw_X7_letterCount zp_7 gp1 (by decide) rfl ml_X10_43 (by decide) rfl rfl (Nat.le_of_ble_eq_true rfl) dX10_layOut_10 (fun H locs hP hS => ?_)
  refine pf_X10_46 X hP hS (k := 6) rfl dX10_layOut_13 (fun H locs hP hS => ?_)
  refine lv_aload_n hx hb dX10_layOut_16 rfl (lv_at hl 0 rfl) ?_
  refine lv_iconst (v := 0) hx hb dX10_layOut_17 (by decide) ?_
  refine pf_X10_49 X hP hS (k := 6) rfl dX10_layOut_18 (fun H locs hP hS => ?_)
  refine lv_aload_n hx hb dX10_layOut_21 rfl (lv_at hl 0 rfl) ?_
  refine gf_X10_30 X hP (k := 6) (q := 68) rfl dX10_layOut_22 rfl ?_
  refine lv_iconst (v := 0) hx hb dX10_layOut_25 (by decide) ?_
  obtain ⟨r7, s8, h9, hf⟩ := zbd_some hf
  refine zcallS X hP hS hl.1 (As := [.ref (ad 68), .int 0]) (rest := []) (cn_J7_fill_53178 h9) cw_J7_fill_53178 ml_X10_52 (by decide) rfl rfl (Nat.le_of_ble_eq_true rfl) dX10_layOut_26 (fun H locs hP hS => ?_)
  refine lv_aload_n hx hb dX10_layOut_29 rfl (lv_at hl 0 rfl) ?_
  refine gf_X10_30 X hP (k := 6) (q := 68) rfl dX10_layOut_30 rfl ?_
  refine lv_iconst (v := 0) hx hb dX10_layOut_33 (by decide) ?_
  refine lv_aload_n hx hb dX10_layOut_34 rfl (lv_at hl 0 rfl) ?_
  refine gf_X10_39 X hP (k := 6) rfl dX10_layOut_35 ?_
  obtain ⟨g10, hf⟩ := zgd hf
  refine zast_i X hP hS (k := 68) (n := 6) (rs := []) rfl g10 dX10_layOut_38 (fun H locs hP hS => ?_)
  refine lv_iconst (v := 1) hx hb dX10_layOut_39 (by decide) ?_
  refine lv_istore_n (lv' := [(2, .int 1), (0, .ref (ad 6)), (1, .ref (ad k1))]) hx hb dX10_layOut_40 rfl hl (by decide) rfl (fun ls hl => ?_)
  refine lv_iconst (v := 0) hx hb dX10_layOut_41 (by decide) ?_
  refine lv_istore_n (lv' := [(3, .int 0), (2, .int 1), (0, .ref (ad 6)), (1, .ref (ad k1))]) hx hb dX10_layOut_42 rfl hl (by decide) rfl (fun ls hl => ?_)
  exact hc_43 ZF k1 1 0 (zS s8 68 ((0 : Int32)).toNatClampNeg (s8.1 6 0)) _ _ _ (lv_sub hl [2, 3, 1, 0] rfl) hP hS hf
theorem dX11_makeAnew_0 : decode cX11_makeAnew 0 = .ok (.aload_n 0, 1) := by decide +kernel
theorem dX11_makeAnew_1 : decode cX11_makeAnew 1 = .ok (.getfield 12, 3) := by decide +kernel
theorem dX11_makeAnew_4 : decode cX11_makeAnew 4 = .ok (.getfield 74, 3) := by decide +kernel
theorem dX11_makeAnew_7 : decode cX11_makeAnew 7 = .ok (.iload_n 1, 1) := by decide +kernel
theorem dX11_makeAnew_8 : decode cX11_makeAnew 8 = .ok (.iload_n 2, 1) := by decide +kernel
theorem dX11_makeAnew_9 : decode cX11_makeAnew 9 = .ok (.iload_n 3, 1) := by decide +kernel
theorem dX11_makeAnew_10 : decode cX11_makeAnew 10 = .ok (.iload 4, 2) := by decide +kernel
theorem dX11_makeAnew_12 : decode cX11_makeAnew 12 = .ok (.invokevirtual 78, 3) := by decide +kernel
theorem dX11_makeAnew_15 : decode cX11_makeAnew 15 = .ok (.aload_n 0, 1) := by decide +kernel
theorem dX11_makeAnew_16 : decode cX11_makeAnew 16 = .ok (.getfield 12, 3) := by decide +kernel
theorem dX11_makeAnew_19 : decode cX11_makeAnew 19 = .ok (.iconst 0, 1) := by decide +kernel
theorem dX11_makeAnew_20 : decode cX11_makeAnew 20 = .ok (.putfield 141, 3) := by decide +kernel
theorem dX11_makeAnew_23 : decode cX11_makeAnew 23 = .ok (.aload_n 0, 1) := by decide +kernel
theorem dX11_makeAnew_24 : decode cX11_makeAnew 24 = .ok (.getfield 28, 3) := by decide +kernel
theorem dX11_makeAnew_27 : decode cX11_makeAnew 27 = .ok (.getfield 84, 3) := by decide +kernel
theorem dX11_makeAnew_30 : decode cX11_makeAnew 30 = .ok (.aload_n 0, 1) := by decide +kernel
theorem dX11_makeAnew_31 : decode cX11_makeAnew 31 = .ok (.getfield 12, 3) := by decide +kernel
theorem dX11_makeAnew_34 : decode cX11_makeAnew 34 = .ok (.getfield 74, 3) := by decide +kernel
theorem dX11_makeAnew_37 : decode cX11_makeAnew 37 = .ok (.invokevirtual 88, 3) := by decide +kernel
theorem dX11_makeAnew_40 : decode cX11_makeAnew 40 = .ok (.aload_n 0, 1) := by decide +kernel
theorem dX11_makeAnew_41 : decode cX11_makeAnew 41 = .ok (.getfield 35, 3) := by decide +kernel
theorem dX11_makeAnew_44 : decode cX11_makeAnew 44 = .ok (.invokevirtual 142, 3) := by decide +kernel
theorem dX11_makeAnew_47 : decode cX11_makeAnew 47 = .ok (.aload_n 0, 1) := by decide +kernel
theorem dX11_makeAnew_48 : decode cX11_makeAnew 48 = .ok (.getfield 12, 3) := by decide +kernel
theorem dX11_makeAnew_51 : decode cX11_makeAnew 51 = .ok (.getfield 74, 3) := by decide +kernel
theorem dX11_makeAnew_54 : decode cX11_makeAnew 54 = .ok (.invokevirtual 115, 3) := by decide +kernel
theorem dX11_makeAnew_57 : decode cX11_makeAnew 57 = .ok (.ireturn, 1) := by decide +kernel
set_option maxHeartbeats 4000000 in
set_option maxRecDepth 100000 in
theorem cn_X11_makeAnew {l : Launch} {cA : Nat → ClassId} {ad : Nat → Nat} {D : va_G} {E : Nat → Nat} {A : Nat → Prop} {x1 : Int32} {x2 : Int32} {x3 : Int32} {x4 : Int32} {s0 sr : SS} {rr : Int32} (hf : f_X11_makeAnew x1 x2 x3 x4 s0 = some (rr, sr)) : zCon Ox Nx cA ad D E l yX11_makeAnew cX11_makeAnew 5 (some .int) 5 A [.ref (ad 0), .int x1, .int x2, .int x3, .int x4] s0 (some (.int rr)) sr := by
  refine zstart (own := RX11) hOx (by decide) rfl (Nat.le_of_ble_eq_true rfl) ?_
  intro p e s m args below meth c X hP ls hl
  have hx := X.1
  have hb := X.2.1
  have hl : lv_has ls 5 [(0, .ref (ad 0)), (1, .int x1), (2, .int x2), (3, .int x3), (4, .int x4)] := hl
  have hS : va_S A s.heap s.heap [] := va_S.rf
  rw [f_X11_makeAnew] at hf
  refine lv_aload_n hx hb dX11_makeAnew_0 rfl (lv_at hl 0 rfl) ?_
  refine gf_X11_12 X hP (k := 0) (q := 1) rfl dX11_makeAnew_1 rfl ?_
  refine gf_X11_74 X hP (k := 1) (q := 3) rfl dX11_makeAnew_4 rfl ?_
  refine lv_iload_n hx hb dX11_makeAnew_7 rfl (lv_at hl 1 rfl) ?_
  refine lv_iload_n hx hb dX11_makeAnew_8 rfl (lv_at hl 2 rfl) ?_
  refine lv_iload_n hx hb dX11_makeAnew_9 rfl (lv_at hl 3 rfl) ?_
  refine lv_iload hx hb dX11_makeAnew_10 (lv_at hl 4 rfl) ?_
  obtain ⟨r1, s2, h3, hf⟩ := zbd_some hf
  refine zcallV X hP hS hl.1 (k := 3) (As := [.int x1, .int x2, .int x3, .int x4]) (rest := []) (cn_X7_become h3) cw_X7_become zp_7 rfl (by decide) rfl ml_X11_78 (by decide) rfl rfl (Nat.le_of_ble_eq_true rfl) dX11_makeAnew_12 (fun H locs hP hS => ?_)
  refine lv_aload_n hx hb dX11_makeAnew_15 rfl (lv_at hl 0 rfl) ?_
  refine gf_X11_12 X hP (k := 0) (q := 1) rfl dX11_makeAnew_16 rfl ?_
  refine lv_iconst (v := 0) hx hb dX11_makeAnew_19 (by decide) ?_
  refine pf_X11_141 X hP hS (k := 1) rfl dX11_makeAnew_20 (fun H locs hP hS => ?_)
  refine lv_aload_n hx hb dX11_makeAnew_23 rfl (lv_at hl 0 rfl) ?_
  refine gf_X11_28 X hP (k := 0) (q := 5) rfl dX11_makeAnew_24 rfl ?_
  refine gf_X11_84 X hP (k := 5) (q := 6) rfl dX11_makeAnew_27 rfl ?_
  refine lv_aload_n hx hb dX11_makeAnew_30 rfl (lv_at hl 0 rfl) ?_
  refine gf_X11_12 X hP (k := 0) (q := 1) rfl dX11_makeAnew_31 rfl ?_
  refine gf_X11_74 X hP (k := 1) (q := 3) rfl dX11_makeAnew_34 rfl ?_
  obtain ⟨r4, s5, h6, hf⟩ := zbd_some hf
  refine zcallV X hP hS hl.1 (k := 6) (As := [.ref (ad 3)]) (rest := []) (cn_X10_layOut h6) cw_X10_layOut zp_10 rfl (by decide) rfl ml_X11_88 (by decide) rfl rfl (Nat.le_of_ble_eq_true rfl) dX11_makeAnew_37 (fun H locs hP hS => ?_)
  refine lv_aload_n hx hb dX11_makeAnew_40 rfl (lv_at hl 0 rfl) ?_
  refine gf_X11_35 X hP (k := 0) (q := 7) rfl dX11_makeAnew_41 rfl ?_
  obtain ⟨r7, s8, h9, hf⟩ := zbd_some hf
  refine zcallV X hP hS hl.1 (k := 7) (As := []) (rest := []) (cn_X1_forget h9) cw_X1_forget zp_1 rfl (by decide) rfl ml_X11_142 (by decide) rfl rfl (Nat.le_of_ble_eq_true rfl) dX11_makeAnew_44 (fun H locs hP hS => ?_)
  refine lv_aload_n hx hb dX11_makeAnew_47 rfl (lv_at hl 0 rfl) ?_
  refine gf_X11_12 X hP (k := 0) (q := 1) rfl dX11_makeAnew_48 rfl ?_
  refine gf_X11_74 X hP (k := 1) (q := 3) rfl dX11_makeAnew_51 rfl ?_
  obtain ⟨r10, s11, h12, hf⟩ := zbd_some hf
  refine zcallV X hP hS hl.1 (k := 3) (As := []) (rest := []) (cn_X7_dimension h12) cw_X7_dimension zp_7 rfl (by decide) rfl ml_X11_115 (by decide) rfl rfl (Nat.le_of_ble_eq_true rfl) dX11_makeAnew_54 (fun H locs hP hS => ?_)
  exact zret_i X hP hS hf rfl dX11_makeAnew_57
theorem dX11_product_0 : decode cX11_product 0 = .ok (.iload_n 1, 1) := by decide +kernel
theorem dX11_product_1 : decode cX11_product 1 = .ok (.iconst 1, 1) := by decide +kernel
theorem dX11_product_2 : decode cX11_product 2 = .ok (.if_icmp .lt 17, 3) := by decide +kernel
theorem dX11_product_5 : decode cX11_product 5 = .ok (.iload_n 1, 1) := by decide +kernel
theorem dX11_product_6 : decode cX11_product 6 = .ok (.iconst 5, 1) := by decide +kernel
theorem dX11_product_7 : decode cX11_product 7 = .ok (.if_icmp .gt 12, 3) := by decide +kernel
theorem dX11_product_10 : decode cX11_product 10 = .ok (.iload_n 2, 1) := by decide +kernel
theorem dX11_product_11 : decode cX11_product 11 = .ok (.ifCond .lt 8, 3) := by decide +kernel
theorem dX11_product_14 : decode cX11_product 14 = .ok (.iload_n 2, 1) := by decide +kernel
theorem dX11_product_15 : decode cX11_product 15 = .ok (.iconst 5, 1) := by decide +kernel
theorem dX11_product_16 : decode cX11_product 16 = .ok (.if_icmp .le 5, 3) := by decide +kernel
theorem dX11_product_19 : decode cX11_product 19 = .ok (.iconst (-1), 1) := by decide +kernel
theorem dX11_product_20 : decode cX11_product 20 = .ok (.ireturn, 1) := by decide +kernel
theorem dX11_product_21 : decode cX11_product 21 = .ok (.iload_n 2, 1) := by decide +kernel
theorem dX11_product_22 : decode cX11_product 22 = .ok (.ifCond .ne 7, 3) := by decide +kernel
theorem dX11_product_25 : decode cX11_product 25 = .ok (.iconst 0, 1) := by decide +kernel
theorem dX11_product_26 : decode cX11_product 26 = .ok (.goto 4, 3) := by decide +kernel
theorem dX11_product_29 : decode cX11_product 29 = .ok (.iload_n 3, 1) := by decide +kernel
theorem dX11_product_30 : decode cX11_product 30 = .ok (.istore 4, 2) := by decide +kernel
theorem dX11_product_32 : decode cX11_product 32 = .ok (.iload 4, 2) := by decide +kernel
theorem dX11_product_34 : decode cX11_product 34 = .ok (.ifCond .lt 19, 3) := by decide +kernel
theorem dX11_product_37 : decode cX11_product 37 = .ok (.iload 4, 2) := by decide +kernel
theorem dX11_product_39 : decode cX11_product 39 = .ok (.iconst 5, 1) := by decide +kernel
theorem dX11_product_40 : decode cX11_product 40 = .ok (.if_icmp .gt 13, 3) := by decide +kernel
theorem dX11_product_43 : decode cX11_product 43 = .ok (.iload_n 1, 1) := by decide +kernel
theorem dX11_product_44 : decode cX11_product 44 = .ok (.iload_n 2, 1) := by decide +kernel
theorem dX11_product_45 : decode cX11_product 45 = .ok (.iadd, 1) := by decide +kernel
theorem dX11_product_46 : decode cX11_product 46 = .ok (.iload 4, 2) := by decide +kernel
theorem dX11_product_48 : decode cX11_product 48 = .ok (.iadd, 1) := by decide +kernel
theorem dX11_product_49 : decode cX11_product 49 = .ok (.iconst 5, 1) := by decide +kernel
theorem dX11_product_50 : decode cX11_product 50 = .ok (.if_icmp .le 5, 3) := by decide +kernel
theorem dX11_product_53 : decode cX11_product 53 = .ok (.iconst (-1), 1) := by decide +kernel
theorem dX11_product_54 : decode cX11_product 54 = .ok (.ireturn, 1) := by decide +kernel
theorem dX11_product_55 : decode cX11_product 55 = .ok (.aload_n 0, 1) := by decide +kernel
theorem dX11_product_56 : decode cX11_product 56 = .ok (.iconst 0, 1) := by decide +kernel
theorem dX11_product_57 : decode cX11_product 57 = .ok (.iload_n 1, 1) := by decide +kernel
theorem dX11_product_58 : decode cX11_product 58 = .ok (.iload_n 2, 1) := by decide +kernel
theorem dX11_product_59 : decode cX11_product 59 = .ok (.iload 4, 2) := by decide +kernel
theorem dX11_product_61 : decode cX11_product 61 = .ok (.invokevirtual 94, 3) := by decide +kernel
theorem dX11_product_64 : decode cX11_product 64 = .ok (.ireturn, 1) := by decide +kernel
set_option maxHeartbeats 4000000 in
set_option maxRecDepth 100000 in
theorem cn_X11_product {l : Launch} {cA : Nat → ClassId} {ad : Nat → Nat} {D : va_G} {E : Nat → Nat} {A : Nat → Prop} {x1 : Int32} {x2 : Int32} {x3 : Int32} {s0 sr : SS} {rr : Int32} (hf : f_X11_product x1 x2 x3 s0 = some (rr, sr)) : zCon Ox Nx cA ad D E l yX11_product cX11_product 5 (some .int) 6 A [.ref (ad 0), .int x1, .int x2, .int x3] s0 (some (.int rr)) sr := by
  refine zstart (own := RX11) hOx (by decide) rfl (Nat.le_of_ble_eq_true rfl) ?_
  intro p e s m args below meth c X hP ls hl
  have hx := X.1
  have hb := X.2.1
  have hl : lv_has ls 5 [(0, .ref (ad 0)), (1, .int x1), (2, .int x2), (3, .int x3)] := hl
  have hS : va_S A s.heap s.heap [] := va_S.rf
  have hc_30 : ∀ (x1 : Int32) (x2 : Int32) (t0 : Int32) (s1 : SS) (H : Heap) (locs : List Loc) (ls : Array Slot), lv_has ls 5 [(0, .ref (ad 0)), (1, .int x1), (2, .int x2)] → va_P D ZCL (zw Ox Nx cA ad s1) H → va_S A s.heap H locs → f_X11_product_c30 x1 x2 t0 s1 = some (rr, sr) → W p l e (zrm 6) s m args below meth c H locs 0 0 (MQ below (zQc Ox Nx cA ad D A (some (.int rr)) sr) args s 0 0 A) (F0 m 30 ls [.int t0]) := by
    intro x1 x2 t0 s1 H locs ls hl hP hS hf
    rw [f_X11_product_c30] at hf
    refine lv_istore (lv' := [(4, .int t0), (0, .ref (ad 0)), (1, .int x1), (2, .int x2)]) hx hb dX11_product_30 hl (by decide) rfl (fun ls hl => ?_)
    refine lv_iload hx hb dX11_product_32 (lv_at hl 0 rfl) ?_
    refine zif_lt (tgt := 53) hx hb dX11_product_34 (by decide) hf (fun hf => ?_) (fun hf => ?_)
    · refine lv_iconst (v := (-1)) hx hb dX11_product_53 (by decide) ?_
      exact zret_i X hP hS hf rfl dX11_product_54
    · refine lv_iload hx hb dX11_product_37 (lv_at hl 0 rfl) ?_
      refine lv_iconst (v := 5) hx hb dX11_product_39 (by decide) ?_
      refine zicmp_gt (tgt := 53) hx hb dX11_product_40 (by decide) hf (fun hf => ?_) (fun hf => ?_)
      · refine lv_iconst (v := (-1)) hx hb dX11_product_53 (by decide) ?_
        exact zret_i X hP hS hf rfl dX11_product_54
      · refine lv_iload_n hx hb dX11_product_43 rfl (lv_at hl 2 rfl) ?_
        refine lv_iload_n hx hb dX11_product_44 rfl (lv_at hl 3 rfl) ?_
        refine lv_iadd hx hb dX11_product_45 ?_
        refine lv_iload hx hb dX11_product_46 (lv_at hl 0 rfl) ?_
        refine lv_iadd hx hb dX11_product_48 ?_
        refine lv_iconst (v := 5) hx hb dX11_product_49 (by decide) ?_
        refine zicmp_le (tgt := 55) hx hb dX11_product_50 (by decide) hf (fun hf => ?_) (fun hf => ?_)
        · refine lv_aload_n hx hb dX11_product_55 rfl (lv_at hl 1 rfl) ?_
          refine lv_iconst (v := 0) hx hb dX11_product_56 (by decide) ?_
          refine lv_iload_n hx hb dX11_product_57 rfl (lv_at hl 2 rfl) ?_
          refine lv_iload_n hx hb dX11_product_58 rfl (lv_at hl 3 rfl) ?_
          refine lv_iload hx hb dX11_product_59 (lv_at hl 0 rfl) ?_
          obtain ⟨r1, s2, h3, hf⟩ := zbd_some hf
          refine zcallV X hP hS hl.1 (k := 0) (As := [.int 0, .int x1, .int x2, .int t0]) (rest := []) (cn_X11_makeAnew h3) cw_X11_makeAnew zp_11 rfl (by decide) rfl ml_X11_94 (by decide) rfl rfl (Nat.le_of_ble_eq_true rfl) dX11_product_61 (fun H locs hP hS => ?_)
          exact zret_i X hP hS hf rfl dX11_product_64
        · refine lv_iconst (v := (-1)) hx hb dX11_product_53 (by decide) ?_
          exact zret_i X hP hS hf rfl dX11_product_54
  rw [f_X11_product] at hf
  refine lv_iload_n hx hb dX11_product_0 rfl (lv_at hl 1 rfl) ?_
  refine lv_iconst (v := 1) hx hb dX11_product_1 (by decide) ?_
  refine zicmp_lt (tgt := 19) hx hb dX11_product_2 (by decide) hf (fun hf => ?_) (fun hf => ?_)
  · refine lv_iconst (v := (-1)) hx hb dX11_product_19 (by decide) ?_
    exact zret_i X hP hS hf rfl dX11_product_20
  · refine lv_iload_n hx hb dX11_product_5 rfl (lv_at hl 1 rfl) ?_
    refine lv_iconst (v := 5) hx hb dX11_product_6 (by decide) ?_
    refine zicmp_gt (tgt := 19) hx hb dX11_product_7 (by decide) hf (fun hf => ?_) (fun hf => ?_)
    · refine lv_iconst (v := (-1)) hx hb dX11_product_19 (by decide) ?_
      exact zret_i X hP hS hf rfl dX11_product_20
    · refine lv_iload_n hx hb dX11_product_10 rfl (lv_at hl 2 rfl) ?_
      refine zif_lt (tgt := 19) hx hb dX11_product_11 (by decide) hf (fun hf => ?_) (fun hf => ?_)
      · refine lv_iconst (v := (-1)) hx hb dX11_product_19 (by decide) ?_
        exact zret_i X hP hS hf rfl dX11_product_20
      · refine lv_iload_n hx hb dX11_product_14 rfl (lv_at hl 2 rfl) ?_
        refine lv_iconst (v := 5) hx hb dX11_product_15 (by decide) ?_
        refine zicmp_le (tgt := 21) hx hb dX11_product_16 (by decide) hf (fun hf => ?_) (fun hf => ?_)
        · refine lv_iload_n hx hb dX11_product_21 rfl (lv_at hl 2 rfl) ?_
          refine zif_ne (tgt := 29) hx hb dX11_product_22 (by decide) hf (fun hf => ?_) (fun hf => ?_)
          · refine lv_iload_n hx hb dX11_product_29 rfl (lv_at hl 3 rfl) ?_
            exact hc_30 x1 x2 x3 s0 _ _ _ (lv_sub hl [0, 1, 2] rfl) hP hS hf
          · refine lv_iconst (v := 0) hx hb dX11_product_25 (by decide) ?_
            refine lv_goto (tgt := 30) hx hb dX11_product_26 (by decide) ?_
            exact hc_30 x1 x2 0 s0 _ _ _ (lv_sub hl [0, 1, 2] rfl) hP hS hf
        · refine lv_iconst (v := (-1)) hx hb dX11_product_19 (by decide) ?_
          exact zret_i X hP hS hf rfl dX11_product_20
theorem dX11_takeOneLetterMore_0 : decode cX11_takeOneLetterMore 0 = .ok (.aload_n 0, 1) := by decide +kernel
theorem dX11_takeOneLetterMore_1 : decode cX11_takeOneLetterMore 1 = .ok (.getfield 28, 3) := by decide +kernel
theorem dX11_takeOneLetterMore_4 : decode cX11_takeOneLetterMore 4 = .ok (.getfield 84, 3) := by decide +kernel
theorem dX11_takeOneLetterMore_7 : decode cX11_takeOneLetterMore 7 = .ok (.getfield 125, 3) := by decide +kernel
theorem dX11_takeOneLetterMore_10 : decode cX11_takeOneLetterMore 10 = .ok (.istore_n 1, 1) := by decide +kernel
theorem dX11_takeOneLetterMore_11 : decode cX11_takeOneLetterMore 11 = .ok (.aload_n 0, 1) := by decide +kernel
theorem dX11_takeOneLetterMore_12 : decode cX11_takeOneLetterMore 12 = .ok (.getfield 12, 3) := by decide +kernel
theorem dX11_takeOneLetterMore_15 : decode cX11_takeOneLetterMore 15 = .ok (.getfield 74, 3) := by decide +kernel
theorem dX11_takeOneLetterMore_18 : decode cX11_takeOneLetterMore 18 = .ok (.dup, 1) := by decide +kernel
theorem dX11_takeOneLetterMore_19 : decode cX11_takeOneLetterMore 19 = .ok (.getfield 102, 3) := by decide +kernel
theorem dX11_takeOneLetterMore_22 : decode cX11_takeOneLetterMore 22 = .ok (.iconst 1, 1) := by decide +kernel
theorem dX11_takeOneLetterMore_23 : decode cX11_takeOneLetterMore 23 = .ok (.iadd, 1) := by decide +kernel
theorem dX11_takeOneLetterMore_24 : decode cX11_takeOneLetterMore 24 = .ok (.putfield 102, 3) := by decide +kernel
theorem dX11_takeOneLetterMore_27 : decode cX11_takeOneLetterMore 27 = .ok (.aload_n 0, 1) := by decide +kernel
theorem dX11_takeOneLetterMore_28 : decode cX11_takeOneLetterMore 28 = .ok (.getfield 28, 3) := by decide +kernel
theorem dX11_takeOneLetterMore_31 : decode cX11_takeOneLetterMore 31 = .ok (.getfield 84, 3) := by decide +kernel
theorem dX11_takeOneLetterMore_34 : decode cX11_takeOneLetterMore 34 = .ok (.aload_n 0, 1) := by decide +kernel
theorem dX11_takeOneLetterMore_35 : decode cX11_takeOneLetterMore 35 = .ok (.getfield 12, 3) := by decide +kernel
theorem dX11_takeOneLetterMore_38 : decode cX11_takeOneLetterMore 38 = .ok (.getfield 74, 3) := by decide +kernel
theorem dX11_takeOneLetterMore_41 : decode cX11_takeOneLetterMore 41 = .ok (.invokevirtual 88, 3) := by decide +kernel
theorem dX11_takeOneLetterMore_44 : decode cX11_takeOneLetterMore 44 = .ok (.iconst 0, 1) := by decide +kernel
theorem dX11_takeOneLetterMore_45 : decode cX11_takeOneLetterMore 45 = .ok (.istore_n 2, 1) := by decide +kernel
theorem dX11_takeOneLetterMore_46 : decode cX11_takeOneLetterMore 46 = .ok (.iload_n 2, 1) := by decide +kernel
theorem dX11_takeOneLetterMore_47 : decode cX11_takeOneLetterMore 47 = .ok (.aload_n 0, 1) := by decide +kernel
theorem dX11_takeOneLetterMore_48 : decode cX11_takeOneLetterMore 48 = .ok (.getfield 12, 3) := by decide +kernel
theorem dX11_takeOneLetterMore_51 : decode cX11_takeOneLetterMore 51 = .ok (.getfield 141, 3) := by decide +kernel
theorem dX11_takeOneLetterMore_54 : decode cX11_takeOneLetterMore 54 = .ok (.if_icmp .ge 29, 3) := by decide +kernel
theorem dX11_takeOneLetterMore_57 : decode cX11_takeOneLetterMore 57 = .ok (.aload_n 0, 1) := by decide +kernel
theorem dX11_takeOneLetterMore_58 : decode cX11_takeOneLetterMore 58 = .ok (.getfield 12, 3) := by decide +kernel
theorem dX11_takeOneLetterMore_61 : decode cX11_takeOneLetterMore 61 = .ok (.getfield 145, 3) := by decide +kernel
theorem dX11_takeOneLetterMore_64 : decode cX11_takeOneLetterMore 64 = .ok (.iload_n 2, 1) := by decide +kernel
theorem dX11_takeOneLetterMore_65 : decode cX11_takeOneLetterMore 65 = .ok (.aaload, 1) := by decide +kernel
theorem dX11_takeOneLetterMore_66 : decode cX11_takeOneLetterMore 66 = .ok (.aload_n 0, 1) := by decide +kernel
theorem dX11_takeOneLetterMore_67 : decode cX11_takeOneLetterMore 67 = .ok (.getfield 28, 3) := by decide +kernel
theorem dX11_takeOneLetterMore_70 : decode cX11_takeOneLetterMore 70 = .ok (.getfield 84, 3) := by decide +kernel
theorem dX11_takeOneLetterMore_73 : decode cX11_takeOneLetterMore 73 = .ok (.iload_n 1, 1) := by decide +kernel
theorem dX11_takeOneLetterMore_74 : decode cX11_takeOneLetterMore 74 = .ok (.invokevirtual 149, 3) := by decide +kernel
theorem dX11_takeOneLetterMore_77 : decode cX11_takeOneLetterMore 77 = .ok (.iinc 2 1, 3) := by decide +kernel
theorem dX11_takeOneLetterMore_80 : decode cX11_takeOneLetterMore 80 = .ok (.goto (-34), 3) := by decide +kernel
theorem dX11_takeOneLetterMore_83 : decode cX11_takeOneLetterMore 83 = .ok (.aload_n 0, 1) := by decide +kernel
theorem dX11_takeOneLetterMore_84 : decode cX11_takeOneLetterMore 84 = .ok (.getfield 35, 3) := by decide +kernel
theorem dX11_takeOneLetterMore_87 : decode cX11_takeOneLetterMore 87 = .ok (.invokevirtual 142, 3) := by decide +kernel
theorem dX11_takeOneLetterMore_90 : decode cX11_takeOneLetterMore 90 = .ok (.return_, 1) := by decide +kernel
set_option maxHeartbeats 4000000 in
set_option maxRecDepth 100000 in
theorem cn_X11_takeOneLetterMore {l : Launch} {cA : Nat → ClassId} {ad : Nat → Nat} {D : va_G} {E : Nat → Nat} {A : Nat → Prop}  {s0 sr : SS} {rr : Unit} (hf : f_X11_takeOneLetterMore s0 = some (rr, sr)) : zCon Ox Nx cA ad D E l yX11_takeOneLetterMore cX11_takeOneLetterMore 3 none 5 A [.ref (ad 0)] s0 none sr := by
  refine zstart (own := RX11) hOx (by decide) rfl (Nat.le_of_ble_eq_true rfl) ?_
  intro p e s m args below meth c X hP ls hl
  have hx := X.1
  have hb := X.2.1
  have hl : lv_has ls 3 [(0, .ref (ad 0))] := hl
  have hS : va_S A s.heap s.heap [] := va_S.rf
  have hc_46 : ∀ (n46 : Nat) (x1 : Int32) (x2 : Int32) (s1 : SS) (H : Heap) (locs : List Loc) (ls : Array Slot), lv_has ls 3 [(0, .ref (ad 0)), (1, .int x1), (2, .int x2)] → va_P D ZCL (zw Ox Nx cA ad s1) H → va_S A s.heap H locs → f_X11_takeOneLetterMore_c46 n46 x1 x2 s1 = some (rr, sr) → W p l e (zrm 5) s m args below meth c H locs 0 0 (MQ below (zQc Ox Nx cA ad D A none sr) args s 0 0 A) (F0 m 46 ls []) := by
    intro n46
    induction n46 with
    | zero =>
      intro x1 x2 s1 H locs ls hl hP hS hf
      rw [f_X11_takeOneLetterMore_c46] at hf
      cases hf
    | succ n46 ih46 =>
      intro x1 x2 s1 H locs ls hl hP hS hf
      rw [f_X11_takeOneLetterMore_c46] at hf
      refine lv_iload_n hx hb dX11_takeOneLetterMore_46 rfl (lv_at hl 2 rfl) ?_
      refine lv_aload_n hx hb dX11_takeOneLetterMore_47 rfl (lv_at hl 0 rfl) ?_
      refine gf_X11_12 X hP (k := 0) (q := 1) rfl dX11_takeOneLetterMore_48 rfl ?_
      refine gf_X11_141 X hP (k := 1) rfl dX11_takeOneLetterMore_51 ?_
      refine zicmp_ge (tgt := 83) hx hb dX11_takeOneLetterMore_54 (by decide) hf (fun hf => ?_) (fun hf => ?_)
      · refine lv_aload_n hx hb dX11_takeOneLetterMore_83 rfl (lv_at hl 0 rfl) ?_
        refine gf_X11_35 X hP (k := 0) (q := 7) rfl dX11_takeOneLetterMore_84 rfl ?_
        obtain ⟨r4, s5, h6, hf⟩ := zbd_some hf
        refine zcallV X hP hS hl.1 (k := 7) (As := []) (rest := []) (cn_X1_forget h6) cw_X1_forget zp_1 rfl (by decide) rfl ml_X11_142 (by decide) rfl rfl (Nat.le_of_ble_eq_true rfl) dX11_takeOneLetterMore_87 (fun H locs hP hS => ?_)
        exact zret_v X hP hS hf dX11_takeOneLetterMore_90
      · refine lv_aload_n hx hb dX11_takeOneLetterMore_57 rfl (lv_at hl 0 rfl) ?_
        refine gf_X11_12 X hP (k := 0) (q := 1) rfl dX11_takeOneLetterMore_58 rfl ?_
        refine gf_X11_145 X hP (k := 1) (q := 13) rfl dX11_takeOneLetterMore_61 rfl ?_
        refine lv_iload_n hx hb dX11_takeOneLetterMore_64 rfl (lv_at hl 2 rfl) ?_
        obtain ⟨g7, hf⟩ := zgd hf
        obtain ⟨g9, hf⟩ := zgd hf
        obtain ⟨n8, rn8, on8, in8⟩ := zok_of g7
        refine zald_q X hP zlr_x (k := 13) on8 in8 dX11_takeOneLetterMore_65 rfl ?_
        refine lv_aload_n hx hb dX11_takeOneLetterMore_66 rfl (lv_at hl 0 rfl) ?_
        refine gf_X11_28 X hP (k := 0) (q := 5) rfl dX11_takeOneLetterMore_67 rfl ?_
        refine gf_X11_84 X hP (k := 5) (q := 6) rfl dX11_takeOneLetterMore_70 rfl ?_
        refine lv_iload_n hx hb dX11_takeOneLetterMore_73 rfl (lv_at hl 1 rfl) ?_
        obtain ⟨r10, s11, h12, hf⟩ := zbd_some hf
        refine zcallV X hP hS hl.1 (k := (zrr Ox 13 x2)) (As := [.ref (ad 6), .int x1]) (rest := []) (cn_X4_widen h12) cw_X4_widen zp_4 g9 (by decide) rfl ml_X11_149 (by decide) rfl rfl (Nat.le_of_ble_eq_true rfl) dX11_takeOneLetterMore_74 (fun H locs hP hS => ?_)
        refine lv_iinc (v := (x2 + 1)) (lv' := [(2, .int (x2 + 1)), (0, .ref (ad 0)), (1, .int x1)]) hx hb dX11_takeOneLetterMore_77 hl (k := 2) rfl rfl (by decide) rfl (fun ls hl => ?_)
        refine lv_goto (tgt := 46) hx hb dX11_takeOneLetterMore_80 (by decide) ?_
        exact ih46 x1 (x2 + 1) s11 _ _ _ (lv_sub hl [1, 2, 0] rfl) hP hS hf
  rw [f_X11_takeOneLetterMore] at hf
  refine lv_aload_n hx hb dX11_takeOneLetterMore_0 rfl (lv_at hl 0 rfl) ?_
  refine gf_X11_28 X hP (k := 0) (q := 5) rfl dX11_takeOneLetterMore_1 rfl ?_
  refine gf_X11_84 X hP (k := 5) (q := 6) rfl dX11_takeOneLetterMore_4 rfl ?_
  refine gf_X11_125 X hP (k := 6) rfl dX11_takeOneLetterMore_7 ?_
  refine lv_istore_n (lv' := [(1, .int (s0.1 6 2)), (0, .ref (ad 0))]) hx hb dX11_takeOneLetterMore_10 rfl hl (by decide) rfl (fun ls hl => ?_)
  refine lv_aload_n hx hb dX11_takeOneLetterMore_11 rfl (lv_at hl 1 rfl) ?_
  refine gf_X11_12 X hP (k := 0) (q := 1) rfl dX11_takeOneLetterMore_12 rfl ?_
  refine gf_X11_74 X hP (k := 1) (q := 3) rfl dX11_takeOneLetterMore_15 rfl ?_
  refine lv_dup hx hb dX11_takeOneLetterMore_18 rfl ?_
  refine gf_X11_102 X hP (k := 3) rfl dX11_takeOneLetterMore_19 ?_
  refine lv_iconst (v := 1) hx hb dX11_takeOneLetterMore_22 (by decide) ?_
  refine lv_iadd hx hb dX11_takeOneLetterMore_23 ?_
  refine pf_X11_102 X hP hS (k := 3) rfl dX11_takeOneLetterMore_24 (fun H locs hP hS => ?_)
  refine lv_aload_n hx hb dX11_takeOneLetterMore_27 rfl (lv_at hl 1 rfl) ?_
  refine gf_X11_28 X hP (k := 0) (q := 5) rfl dX11_takeOneLetterMore_28 rfl ?_
  refine gf_X11_84 X hP (k := 5) (q := 6) rfl dX11_takeOneLetterMore_31 rfl ?_
  refine lv_aload_n hx hb dX11_takeOneLetterMore_34 rfl (lv_at hl 1 rfl) ?_
  refine gf_X11_12 X hP (k := 0) (q := 1) rfl dX11_takeOneLetterMore_35 rfl ?_
  refine gf_X11_74 X hP (k := 1) (q := 3) rfl dX11_takeOneLetterMore_38 rfl ?_
  obtain ⟨r1, s2, h3, hf⟩ := zbd_some hf
  refine zcallV X hP hS hl.1 (k := 6) (As := [.ref (ad 3)]) (rest := []) (cn_X10_layOut h3) cw_X10_layOut zp_10 rfl (by decide) rfl ml_X11_88 (by decide) rfl rfl (Nat.le_of_ble_eq_true rfl) dX11_takeOneLetterMore_41 (fun H locs hP hS => ?_)
  refine lv_iconst (v := 0) hx hb dX11_takeOneLetterMore_44 (by decide) ?_
  refine lv_istore_n (lv' := [(2, .int 0), (1, .int (s0.1 6 2)), (0, .ref (ad 0))]) hx hb dX11_takeOneLetterMore_45 rfl hl (by decide) rfl (fun ls hl => ?_)
  exact hc_46 ZF (s0.1 6 2) 0 s2 _ _ _ (lv_sub hl [2, 1, 0] rfl) hP hS hf
theorem dX11_blow_0 : decode cX11_blow 0 = .ok (.aload_n 0, 1) := by decide +kernel
theorem dX11_blow_1 : decode cX11_blow 1 = .ok (.getfield 12, 3) := by decide +kernel
theorem dX11_blow_4 : decode cX11_blow 4 = .ok (.getfield 74, 3) := by decide +kernel
theorem dX11_blow_7 : decode cX11_blow 7 = .ok (.astore_n 1, 1) := by decide +kernel
theorem dX11_blow_8 : decode cX11_blow 8 = .ok (.aload_n 1, 1) := by decide +kernel
theorem dX11_blow_9 : decode cX11_blow 9 = .ok (.getfield 98, 3) := by decide +kernel
theorem dX11_blow_12 : decode cX11_blow 12 = .ok (.ifCond .eq 6, 3) := by decide +kernel
theorem dX11_blow_15 : decode cX11_blow 15 = .ok (.bipush (-5), 2) := by decide +kernel
theorem dX11_blow_17 : decode cX11_blow 17 = .ok (.ireturn, 1) := by decide +kernel
theorem dX11_blow_18 : decode cX11_blow 18 = .ok (.aload_n 1, 1) := by decide +kernel
theorem dX11_blow_19 : decode cX11_blow 19 = .ok (.getfield 102, 3) := by decide +kernel
theorem dX11_blow_22 : decode cX11_blow 22 = .ok (.iconst 3, 1) := by decide +kernel
theorem dX11_blow_23 : decode cX11_blow 23 = .ok (.if_icmp .lt 6, 3) := by decide +kernel
theorem dX11_blow_26 : decode cX11_blow 26 = .ok (.bipush (-3), 2) := by decide +kernel
theorem dX11_blow_28 : decode cX11_blow 28 = .ok (.ireturn, 1) := by decide +kernel
theorem dX11_blow_29 : decode cX11_blow 29 = .ok (.aload_n 0, 1) := by decide +kernel
theorem dX11_blow_30 : decode cX11_blow 30 = .ok (.invokevirtual 105, 3) := by decide +kernel
theorem dX11_blow_33 : decode cX11_blow 33 = .ok (.aload_n 1, 1) := by decide +kernel
theorem dX11_blow_34 : decode cX11_blow 34 = .ok (.getfield 102, 3) := by decide +kernel
theorem dX11_blow_37 : decode cX11_blow 37 = .ok (.ireturn, 1) := by decide +kernel
set_option maxHeartbeats 4000000 in
set_option maxRecDepth 100000 in
theorem cn_X11_blow {l : Launch} {cA : Nat → ClassId} {ad : Nat → Nat} {D : va_G} {E : Nat → Nat} {A : Nat → Prop}  {s0 sr : SS} {rr : Int32} (hf : f_X11_blow s0 = some (rr, sr)) : zCon Ox Nx cA ad D E l yX11_blow cX11_blow 2 (some .int) 6 A [.ref (ad 0)] s0 (some (.int rr)) sr := by
  refine zstart (own := RX11) hOx (by decide) rfl (Nat.le_of_ble_eq_true rfl) ?_
  intro p e s m args below meth c X hP ls hl
  have hx := X.1
  have hb := X.2.1
  have hl : lv_has ls 2 [(0, .ref (ad 0))] := hl
  have hS : va_S A s.heap s.heap [] := va_S.rf
  rw [f_X11_blow] at hf
  refine lv_aload_n hx hb dX11_blow_0 rfl (lv_at hl 0 rfl) ?_
  refine gf_X11_12 X hP (k := 0) (q := 1) rfl dX11_blow_1 rfl ?_
  refine gf_X11_74 X hP (k := 1) (q := 3) rfl dX11_blow_4 rfl ?_
  refine lv_astore_n (lv' := [(1, .ref (ad 3)), (0, .ref (ad 0))]) hx hb dX11_blow_7 rfl hl (by decide) rfl (fun ls hl => ?_)
  refine lv_aload_n hx hb dX11_blow_8 rfl (lv_at hl 0 rfl) ?_
  refine gf_X11_98 X hP (k := 3) rfl dX11_blow_9 ?_
  refine zif_eq (tgt := 18) hx hb dX11_blow_12 (by decide) hf (fun hf => ?_) (fun hf => ?_)
  · refine lv_aload_n hx hb dX11_blow_18 rfl (lv_at hl 0 rfl) ?_
    refine gf_X11_102 X hP (k := 3) rfl dX11_blow_19 ?_
    refine lv_iconst (v := 3) hx hb dX11_blow_22 (by decide) ?_
    refine zicmp_lt (tgt := 29) hx hb dX11_blow_23 (by decide) hf (fun hf => ?_) (fun hf => ?_)
    · refine lv_aload_n hx hb dX11_blow_29 rfl (lv_at hl 1 rfl) ?_
      obtain ⟨r1, s2, h3, hf⟩ := zbd_some hf
      refine zcallV X hP hS hl.1 (k := 0) (As := []) (rest := []) (cn_X11_takeOneLetterMore h3) cw_X11_takeOneLetterMore zp_11 rfl (by decide) rfl ml_X11_105 (by decide) rfl rfl (Nat.le_of_ble_eq_true rfl) dX11_blow_30 (fun H locs hP hS => ?_)
      refine lv_aload_n hx hb dX11_blow_33 rfl (lv_at hl 0 rfl) ?_
      refine gf_X11_102 X hP (k := 3) rfl dX11_blow_34 ?_
      exact zret_i X hP hS hf rfl dX11_blow_37
    · refine lv_bipush (v := (-3)) hx hb dX11_blow_26 (by decide) ?_
      exact zret_i X hP hS hf rfl dX11_blow_28
  · refine lv_bipush (v := (-5)) hx hb dX11_blow_15 (by decide) ?_
    exact zret_i X hP hS hf rfl dX11_blow_17
theorem dX11_curved_0 : decode cX11_curved 0 = .ok (.aload_n 0, 1) := by decide +kernel
theorem dX11_curved_1 : decode cX11_curved 1 = .ok (.iconst 1, 1) := by decide +kernel
theorem dX11_curved_2 : decode cX11_curved 2 = .ok (.iconst 3, 1) := by decide +kernel
theorem dX11_curved_3 : decode cX11_curved 3 = .ok (.iconst 0, 1) := by decide +kernel
theorem dX11_curved_4 : decode cX11_curved 4 = .ok (.iconst 0, 1) := by decide +kernel
theorem dX11_curved_5 : decode cX11_curved 5 = .ok (.invokevirtual 94, 3) := by decide +kernel
theorem dX11_curved_8 : decode cX11_curved 8 = .ok (.ireturn, 1) := by decide +kernel
set_option maxHeartbeats 4000000 in
set_option maxRecDepth 100000 in
theorem cn_X11_curved {l : Launch} {cA : Nat → ClassId} {ad : Nat → Nat} {D : va_G} {E : Nat → Nat} {A : Nat → Prop}  {s0 sr : SS} {rr : Int32} (hf : f_X11_curved s0 = some (rr, sr)) : zCon Ox Nx cA ad D E l yX11_curved cX11_curved 1 (some .int) 6 A [.ref (ad 0)] s0 (some (.int rr)) sr := by
  refine zstart (own := RX11) hOx (by decide) rfl (Nat.le_of_ble_eq_true rfl) ?_
  intro p e s m args below meth c X hP ls hl
  have hx := X.1
  have hb := X.2.1
  have hl : lv_has ls 1 [(0, .ref (ad 0))] := hl
  have hS : va_S A s.heap s.heap [] := va_S.rf
  rw [f_X11_curved] at hf
  refine lv_aload_n hx hb dX11_curved_0 rfl (lv_at hl 0 rfl) ?_
  refine lv_iconst (v := 1) hx hb dX11_curved_1 (by decide) ?_
  refine lv_iconst (v := 3) hx hb dX11_curved_2 (by decide) ?_
  refine lv_iconst (v := 0) hx hb dX11_curved_3 (by decide) ?_
  refine lv_iconst (v := 0) hx hb dX11_curved_4 (by decide) ?_
  obtain ⟨r1, s2, h3, hf⟩ := zbd_some hf
  refine zcallV X hP hS hl.1 (k := 0) (As := [.int 1, .int 3, .int 0, .int 0]) (rest := []) (cn_X11_makeAnew h3) cw_X11_makeAnew zp_11 rfl (by decide) rfl ml_X11_94 (by decide) rfl rfl (Nat.le_of_ble_eq_true rfl) dX11_curved_5 (fun H locs hP hS => ?_)
  exact zret_i X hP hS hf rfl dX11_curved_8
theorem dX11_curve_0 : decode cX11_curve 0 = .ok (.aload_n 0, 1) := by decide +kernel
theorem dX11_curve_1 : decode cX11_curve 1 = .ok (.getfield 12, 3) := by decide +kernel
theorem dX11_curve_4 : decode cX11_curve 4 = .ok (.getfield 74, 3) := by decide +kernel
theorem dX11_curve_7 : decode cX11_curve 7 = .ok (.astore_n 3, 1) := by decide +kernel
theorem dX11_curve_8 : decode cX11_curve 8 = .ok (.aload_n 3, 1) := by decide +kernel
theorem dX11_curve_9 : decode cX11_curve 9 = .ok (.getfield 98, 3) := by decide +kernel
theorem dX11_curve_12 : decode cX11_curve 12 = .ok (.iconst 1, 1) := by decide +kernel
theorem dX11_curve_13 : decode cX11_curve 13 = .ok (.if_icmp .eq 6, 3) := by decide +kernel
theorem dX11_curve_16 : decode cX11_curve 16 = .ok (.bipush (-5), 2) := by decide +kernel
theorem dX11_curve_18 : decode cX11_curve 18 = .ok (.ireturn, 1) := by decide +kernel
theorem dX11_curve_19 : decode cX11_curve 19 = .ok (.iload_n 1, 1) := by decide +kernel
theorem dX11_curve_20 : decode cX11_curve 20 = .ok (.iconst 1, 1) := by decide +kernel
theorem dX11_curve_21 : decode cX11_curve 21 = .ok (.if_icmp .lt 19, 3) := by decide +kernel
theorem dX11_curve_24 : decode cX11_curve 24 = .ok (.iload_n 1, 1) := by decide +kernel
theorem dX11_curve_25 : decode cX11_curve 25 = .ok (.bipush 9, 2) := by decide +kernel
theorem dX11_curve_27 : decode cX11_curve 27 = .ok (.if_icmp .gt 13, 3) := by decide +kernel
theorem dX11_curve_30 : decode cX11_curve 30 = .ok (.iload_n 2, 1) := by decide +kernel
theorem dX11_curve_31 : decode cX11_curve 31 = .ok (.ifCond .lt 9, 3) := by decide +kernel
theorem dX11_curve_34 : decode cX11_curve 34 = .ok (.iload_n 2, 1) := by decide +kernel
theorem dX11_curve_35 : decode cX11_curve 35 = .ok (.bipush 9, 2) := by decide +kernel
theorem dX11_curve_37 : decode cX11_curve 37 = .ok (.if_icmp .le 5, 3) := by decide +kernel
theorem dX11_curve_40 : decode cX11_curve 40 = .ok (.iconst (-1), 1) := by decide +kernel
theorem dX11_curve_41 : decode cX11_curve 41 = .ok (.ireturn, 1) := by decide +kernel
theorem dX11_curve_42 : decode cX11_curve 42 = .ok (.aload_n 3, 1) := by decide +kernel
theorem dX11_curve_43 : decode cX11_curve 43 = .ok (.getfield 102, 3) := by decide +kernel
theorem dX11_curve_46 : decode cX11_curve 46 = .ok (.iconst 3, 1) := by decide +kernel
theorem dX11_curve_47 : decode cX11_curve 47 = .ok (.if_icmp .lt 6, 3) := by decide +kernel
theorem dX11_curve_50 : decode cX11_curve 50 = .ok (.bipush (-3), 2) := by decide +kernel
theorem dX11_curve_52 : decode cX11_curve 52 = .ok (.ireturn, 1) := by decide +kernel
theorem dX11_curve_53 : decode cX11_curve 53 = .ok (.aload_n 3, 1) := by decide +kernel
theorem dX11_curve_54 : decode cX11_curve 54 = .ok (.getfield 102, 3) := by decide +kernel
theorem dX11_curve_57 : decode cX11_curve 57 = .ok (.istore 4, 2) := by decide +kernel
theorem dX11_curve_59 : decode cX11_curve 59 = .ok (.aload_n 3, 1) := by decide +kernel
theorem dX11_curve_60 : decode cX11_curve 60 = .ok (.getfield 108, 3) := by decide +kernel
theorem dX11_curve_63 : decode cX11_curve 63 = .ok (.iload 4, 2) := by decide +kernel
theorem dX11_curve_65 : decode cX11_curve 65 = .ok (.iload_n 1, 1) := by decide +kernel
theorem dX11_curve_66 : decode cX11_curve 66 = .ok (.iastore, 1) := by decide +kernel
theorem dX11_curve_67 : decode cX11_curve 67 = .ok (.aload_n 3, 1) := by decide +kernel
theorem dX11_curve_68 : decode cX11_curve 68 = .ok (.getfield 112, 3) := by decide +kernel
theorem dX11_curve_71 : decode cX11_curve 71 = .ok (.iload 4, 2) := by decide +kernel
theorem dX11_curve_73 : decode cX11_curve 73 = .ok (.iload_n 2, 1) := by decide +kernel
theorem dX11_curve_74 : decode cX11_curve 74 = .ok (.iastore, 1) := by decide +kernel
theorem dX11_curve_75 : decode cX11_curve 75 = .ok (.aload_n 0, 1) := by decide +kernel
theorem dX11_curve_76 : decode cX11_curve 76 = .ok (.invokevirtual 105, 3) := by decide +kernel
theorem dX11_curve_79 : decode cX11_curve 79 = .ok (.iload 4, 2) := by decide +kernel
theorem dX11_curve_81 : decode cX11_curve 81 = .ok (.ireturn, 1) := by decide +kernel
set_option maxHeartbeats 4000000 in
set_option maxRecDepth 100000 in
theorem cn_X11_curve {l : Launch} {cA : Nat → ClassId} {ad : Nat → Nat} {D : va_G} {E : Nat → Nat} {A : Nat → Prop} {x1 : Int32} {x2 : Int32} {s0 sr : SS} {rr : Int32} (hf : f_X11_curve x1 x2 s0 = some (rr, sr)) : zCon Ox Nx cA ad D E l yX11_curve cX11_curve 5 (some .int) 6 A [.ref (ad 0), .int x1, .int x2] s0 (some (.int rr)) sr := by
  refine zstart (own := RX11) hOx (by decide) rfl (Nat.le_of_ble_eq_true rfl) ?_
  intro p e s m args below meth c X hP ls hl
  have hx := X.1
  have hb := X.2.1
  have hl : lv_has ls 5 [(0, .ref (ad 0)), (1, .int x1), (2, .int x2)] := hl
  have hS : va_S A s.heap s.heap [] := va_S.rf
  rw [f_X11_curve] at hf
  refine lv_aload_n hx hb dX11_curve_0 rfl (lv_at hl 0 rfl) ?_
  refine gf_X11_12 X hP (k := 0) (q := 1) rfl dX11_curve_1 rfl ?_
  refine gf_X11_74 X hP (k := 1) (q := 3) rfl dX11_curve_4 rfl ?_
  refine lv_astore_n (lv' := [(3, .ref (ad 3)), (0, .ref (ad 0)), (1, .int x1), (2, .int x2)]) hx hb dX11_curve_7 rfl hl (by decide) rfl (fun ls hl => ?_)
  refine lv_aload_n hx hb dX11_curve_8 rfl (lv_at hl 0 rfl) ?_
  refine gf_X11_98 X hP (k := 3) rfl dX11_curve_9 ?_
  refine lv_iconst (v := 1) hx hb dX11_curve_12 (by decide) ?_
  refine zicmp_eq (tgt := 19) hx hb dX11_curve_13 (by decide) hf (fun hf => ?_) (fun hf => ?_)
  · refine lv_iload_n hx hb dX11_curve_19 rfl (lv_at hl 2 rfl) ?_
    refine lv_iconst (v := 1) hx hb dX11_curve_20 (by decide) ?_
    refine zicmp_lt (tgt := 40) hx hb dX11_curve_21 (by decide) hf (fun hf => ?_) (fun hf => ?_)
    · refine lv_iconst (v := (-1)) hx hb dX11_curve_40 (by decide) ?_
      exact zret_i X hP hS hf rfl dX11_curve_41
    · refine lv_iload_n hx hb dX11_curve_24 rfl (lv_at hl 2 rfl) ?_
      refine lv_bipush (v := 9) hx hb dX11_curve_25 (by decide) ?_
      refine zicmp_gt (tgt := 40) hx hb dX11_curve_27 (by decide) hf (fun hf => ?_) (fun hf => ?_)
      · refine lv_iconst (v := (-1)) hx hb dX11_curve_40 (by decide) ?_
        exact zret_i X hP hS hf rfl dX11_curve_41
      · refine lv_iload_n hx hb dX11_curve_30 rfl (lv_at hl 3 rfl) ?_
        refine zif_lt (tgt := 40) hx hb dX11_curve_31 (by decide) hf (fun hf => ?_) (fun hf => ?_)
        · refine lv_iconst (v := (-1)) hx hb dX11_curve_40 (by decide) ?_
          exact zret_i X hP hS hf rfl dX11_curve_41
        · refine lv_iload_n hx hb dX11_curve_34 rfl (lv_at hl 3 rfl) ?_
          refine lv_bipush (v := 9) hx hb dX11_curve_35 (by decide) ?_
          refine zicmp_le (tgt := 42) hx hb dX11_curve_37 (by decide) hf (fun hf => ?_) (fun hf => ?_)
          · refine lv_aload_n hx hb dX11_curve_42 rfl (lv_at hl 0 rfl) ?_
            refine gf_X11_102 X hP (k := 3) rfl dX11_curve_43 ?_
            refine lv_iconst (v := 3) hx hb dX11_curve_46 (by decide) ?_
            refine zicmp_lt (tgt := 53) hx hb dX11_curve_47 (by decide) hf (fun hf => ?_) (fun hf => ?_)
            · refine lv_aload_n hx hb dX11_curve_53 rfl (lv_at hl 0 rfl) ?_
              refine gf_X11_102 X hP (k := 3) rfl dX11_curve_54 ?_
              refine lv_istore (lv' := [(4, .int (s0.1 3 2)), (3, .ref (ad 3)), (0, .ref (ad 0)), (1, .int x1), (2, .int x2)]) hx hb dX11_curve_57 hl (by decide) rfl (fun ls hl => ?_)
              refine lv_aload_n hx hb dX11_curve_59 rfl (lv_at hl 1 rfl) ?_
              refine gf_X11_108 X hP (k := 3) (q := 16) rfl dX11_curve_60 rfl ?_
              refine lv_iload hx hb dX11_curve_63 (lv_at hl 0 rfl) ?_
              refine lv_iload_n hx hb dX11_curve_65 rfl (lv_at hl 3 rfl) ?_
              obtain ⟨g1, hf⟩ := zgd hf
              refine zast_i X hP hS (k := 16) (n := 3) (rs := []) rfl g1 dX11_curve_66 (fun H locs hP hS => ?_)
              refine lv_aload_n hx hb dX11_curve_67 rfl (lv_at hl 1 rfl) ?_
              refine gf_X11_112 X hP (k := 3) (q := 17) rfl dX11_curve_68 rfl ?_
              refine lv_iload hx hb dX11_curve_71 (lv_at hl 0 rfl) ?_
              refine lv_iload_n hx hb dX11_curve_73 rfl (lv_at hl 4 rfl) ?_
              obtain ⟨g2, hf⟩ := zgd hf
              refine zast_i X hP hS (k := 17) (n := 3) (rs := []) rfl g2 dX11_curve_74 (fun H locs hP hS => ?_)
              refine lv_aload_n hx hb dX11_curve_75 rfl (lv_at hl 2 rfl) ?_
              obtain ⟨r3, s4, h5, hf⟩ := zbd_some hf
              refine zcallV X hP hS hl.1 (k := 0) (As := []) (rest := []) (cn_X11_takeOneLetterMore h5) cw_X11_takeOneLetterMore zp_11 rfl (by decide) rfl ml_X11_105 (by decide) rfl rfl (Nat.le_of_ble_eq_true rfl) dX11_curve_76 (fun H locs hP hS => ?_)
              refine lv_iload hx hb dX11_curve_79 (lv_at hl 0 rfl) ?_
              exact zret_i X hP hS hf rfl dX11_curve_81
            · refine lv_bipush (v := (-3)) hx hb dX11_curve_50 (by decide) ?_
              exact zret_i X hP hS hf rfl dX11_curve_52
          · refine lv_iconst (v := (-1)) hx hb dX11_curve_40 (by decide) ?_
            exact zret_i X hP hS hf rfl dX11_curve_41
  · refine lv_bipush (v := (-5)) hx hb dX11_curve_16 (by decide) ?_
    exact zret_i X hP hS hf rfl dX11_curve_18
theorem dX11_conics_0 : decode cX11_conics 0 = .ok (.aload_n 0, 1) := by decide +kernel
theorem dX11_conics_1 : decode cX11_conics 1 = .ok (.iconst 2, 1) := by decide +kernel
theorem dX11_conics_2 : decode cX11_conics 2 = .ok (.iconst 5, 1) := by decide +kernel
theorem dX11_conics_3 : decode cX11_conics 3 = .ok (.iconst 0, 1) := by decide +kernel
theorem dX11_conics_4 : decode cX11_conics 4 = .ok (.iconst 0, 1) := by decide +kernel
theorem dX11_conics_5 : decode cX11_conics 5 = .ok (.invokevirtual 94, 3) := by decide +kernel
theorem dX11_conics_8 : decode cX11_conics 8 = .ok (.ireturn, 1) := by decide +kernel
set_option maxHeartbeats 4000000 in
set_option maxRecDepth 100000 in
theorem cn_X11_conics {l : Launch} {cA : Nat → ClassId} {ad : Nat → Nat} {D : va_G} {E : Nat → Nat} {A : Nat → Prop}  {s0 sr : SS} {rr : Int32} (hf : f_X11_conics s0 = some (rr, sr)) : zCon Ox Nx cA ad D E l yX11_conics cX11_conics 1 (some .int) 6 A [.ref (ad 0)] s0 (some (.int rr)) sr := by
  refine zstart (own := RX11) hOx (by decide) rfl (Nat.le_of_ble_eq_true rfl) ?_
  intro p e s m args below meth c X hP ls hl
  have hx := X.1
  have hb := X.2.1
  have hl : lv_has ls 1 [(0, .ref (ad 0))] := hl
  have hS : va_S A s.heap s.heap [] := va_S.rf
  rw [f_X11_conics] at hf
  refine lv_aload_n hx hb dX11_conics_0 rfl (lv_at hl 0 rfl) ?_
  refine lv_iconst (v := 2) hx hb dX11_conics_1 (by decide) ?_
  refine lv_iconst (v := 5) hx hb dX11_conics_2 (by decide) ?_
  refine lv_iconst (v := 0) hx hb dX11_conics_3 (by decide) ?_
  refine lv_iconst (v := 0) hx hb dX11_conics_4 (by decide) ?_
  obtain ⟨r1, s2, h3, hf⟩ := zbd_some hf
  refine zcallV X hP hS hl.1 (k := 0) (As := [.int 2, .int 5, .int 0, .int 0]) (rest := []) (cn_X11_makeAnew h3) cw_X11_makeAnew zp_11 rfl (by decide) rfl ml_X11_94 (by decide) rfl rfl (Nat.le_of_ble_eq_true rfl) dX11_conics_5 (fun H locs hP hS => ?_)
  exact zret_i X hP hS hf rfl dX11_conics_8
theorem dX11_space_0 : decode cX11_space 0 = .ok (.iload_n 1, 1) := by decide +kernel
theorem dX11_space_1 : decode cX11_space 1 = .ok (.tableswitch 105 0 5 #[39, 50, 61, 72, 83, 94], 39) := by decide +kernel
theorem dX11_space_40 : decode cX11_space 40 = .ok (.aload_n 0, 1) := by decide +kernel
theorem dX11_space_41 : decode cX11_space 41 = .ok (.getfield 12, 3) := by decide +kernel
theorem dX11_space_44 : decode cX11_space 44 = .ok (.getfield 74, 3) := by decide +kernel
theorem dX11_space_47 : decode cX11_space 47 = .ok (.getfield 98, 3) := by decide +kernel
theorem dX11_space_50 : decode cX11_space 50 = .ok (.ireturn, 1) := by decide +kernel
theorem dX11_space_51 : decode cX11_space 51 = .ok (.aload_n 0, 1) := by decide +kernel
theorem dX11_space_52 : decode cX11_space 52 = .ok (.getfield 12, 3) := by decide +kernel
theorem dX11_space_55 : decode cX11_space 55 = .ok (.getfield 74, 3) := by decide +kernel
theorem dX11_space_58 : decode cX11_space 58 = .ok (.invokevirtual 115, 3) := by decide +kernel
theorem dX11_space_61 : decode cX11_space 61 = .ok (.ireturn, 1) := by decide +kernel
theorem dX11_space_62 : decode cX11_space 62 = .ok (.aload_n 0, 1) := by decide +kernel
theorem dX11_space_63 : decode cX11_space 63 = .ok (.getfield 12, 3) := by decide +kernel
theorem dX11_space_66 : decode cX11_space 66 = .ok (.getfield 74, 3) := by decide +kernel
theorem dX11_space_69 : decode cX11_space 69 = .ok (.invokevirtual 119, 3) := by decide +kernel
theorem dX11_space_72 : decode cX11_space 72 = .ok (.ireturn, 1) := by decide +kernel
theorem dX11_space_73 : decode cX11_space 73 = .ok (.aload_n 0, 1) := by decide +kernel
theorem dX11_space_74 : decode cX11_space 74 = .ok (.getfield 12, 3) := by decide +kernel
theorem dX11_space_77 : decode cX11_space 77 = .ok (.getfield 74, 3) := by decide +kernel
theorem dX11_space_80 : decode cX11_space 80 = .ok (.invokevirtual 122, 3) := by decide +kernel
theorem dX11_space_83 : decode cX11_space 83 = .ok (.ireturn, 1) := by decide +kernel
theorem dX11_space_84 : decode cX11_space 84 = .ok (.aload_n 0, 1) := by decide +kernel
theorem dX11_space_85 : decode cX11_space 85 = .ok (.getfield 12, 3) := by decide +kernel
theorem dX11_space_88 : decode cX11_space 88 = .ok (.getfield 74, 3) := by decide +kernel
theorem dX11_space_91 : decode cX11_space 91 = .ok (.getfield 102, 3) := by decide +kernel
theorem dX11_space_94 : decode cX11_space 94 = .ok (.ireturn, 1) := by decide +kernel
theorem dX11_space_95 : decode cX11_space 95 = .ok (.aload_n 0, 1) := by decide +kernel
theorem dX11_space_96 : decode cX11_space 96 = .ok (.getfield 28, 3) := by decide +kernel
theorem dX11_space_99 : decode cX11_space 99 = .ok (.getfield 84, 3) := by decide +kernel
theorem dX11_space_102 : decode cX11_space 102 = .ok (.getfield 125, 3) := by decide +kernel
theorem dX11_space_105 : decode cX11_space 105 = .ok (.ireturn, 1) := by decide +kernel
theorem dX11_space_106 : decode cX11_space 106 = .ok (.iconst (-1), 1) := by decide +kernel
theorem dX11_space_107 : decode cX11_space 107 = .ok (.ireturn, 1) := by decide +kernel
set_option maxHeartbeats 4000000 in
set_option maxRecDepth 100000 in
theorem cn_X11_space {l : Launch} {cA : Nat → ClassId} {ad : Nat → Nat} {D : va_G} {E : Nat → Nat} {A : Nat → Prop} {x1 : Int32} {s0 sr : SS} {rr : Int32} (hf : f_X11_space x1 s0 = some (rr, sr)) : zCon Ox Nx cA ad D E l yX11_space cX11_space 2 (some .int) 2 A [.ref (ad 0), .int x1] s0 (some (.int rr)) sr := by
  refine zstart (own := RX11) hOx (by decide) rfl (Nat.le_of_ble_eq_true rfl) ?_
  intro p e s m args below meth c X hP ls hl
  have hx := X.1
  have hb := X.2.1
  have hl : lv_has ls 2 [(0, .ref (ad 0)), (1, .int x1)] := hl
  have hS : va_S A s.heap s.heap [] := va_S.rf
  rw [f_X11_space] at hf
  refine lv_iload_n hx hb dX11_space_0 rfl (lv_at hl 1 rfl) ?_
  by_cases e1 : x1 = 0
  · rw [if_pos e1] at hf
    refine lv_tableIn (tgt := 40) (off := 39) hx hb dX11_space_1 (by rw [e1]; decide) (by rw [e1]; decide) (by rw [e1]; decide +kernel) (by decide) ?_
    refine lv_aload_n hx hb dX11_space_40 rfl (lv_at hl 0 rfl) ?_
    refine gf_X11_12 X hP (k := 0) (q := 1) rfl dX11_space_41 rfl ?_
    refine gf_X11_74 X hP (k := 1) (q := 3) rfl dX11_space_44 rfl ?_
    refine gf_X11_98 X hP (k := 3) rfl dX11_space_47 ?_
    exact zret_i X hP hS hf rfl dX11_space_50
  · rw [if_neg e1] at hf
    by_cases e2 : x1 = 1
    · rw [if_pos e2] at hf
      refine lv_tableIn (tgt := 51) (off := 50) hx hb dX11_space_1 (by rw [e2]; decide) (by rw [e2]; decide) (by rw [e2]; decide +kernel) (by decide) ?_
      refine lv_aload_n hx hb dX11_space_51 rfl (lv_at hl 0 rfl) ?_
      refine gf_X11_12 X hP (k := 0) (q := 1) rfl dX11_space_52 rfl ?_
      refine gf_X11_74 X hP (k := 1) (q := 3) rfl dX11_space_55 rfl ?_
      obtain ⟨r3, s4, h5, hf⟩ := zbd_some hf
      refine zcallV X hP hS hl.1 (k := 3) (As := []) (rest := []) (cn_X7_dimension h5) cw_X7_dimension zp_7 rfl (by decide) rfl ml_X11_115 (by decide) rfl rfl (Nat.le_of_ble_eq_true rfl) dX11_space_58 (fun H locs hP hS => ?_)
      exact zret_i X hP hS hf rfl dX11_space_61
    · rw [if_neg e2] at hf
      by_cases e6 : x1 = 2
      · rw [if_pos e6] at hf
        refine lv_tableIn (tgt := 62) (off := 61) hx hb dX11_space_1 (by rw [e6]; decide) (by rw [e6]; decide) (by rw [e6]; decide +kernel) (by decide) ?_
        refine lv_aload_n hx hb dX11_space_62 rfl (lv_at hl 0 rfl) ?_
        refine gf_X11_12 X hP (k := 0) (q := 1) rfl dX11_space_63 rfl ?_
        refine gf_X11_74 X hP (k := 1) (q := 3) rfl dX11_space_66 rfl ?_
        obtain ⟨r7, s8, h9, hf⟩ := zbd_some hf
        refine zcallV X hP hS hl.1 (k := 3) (As := []) (rest := []) (cn_X7_letterCount h9) cw_X7_letterCount zp_7 rfl (by decide) rfl ml_X11_119 (by decide) rfl rfl (Nat.le_of_ble_eq_true rfl) dX11_space_69 (fun H locs hP hS => ?_)
        exact zret_i X hP hS hf rfl dX11_space_72
      · rw [if_neg e6] at hf
        by_cases e10 : x1 = 3
        · rw [if_pos e10] at hf
          refine lv_tableIn (tgt := 73) (off := 72) hx hb dX11_space_1 (by rw [e10]; decide) (by rw [e10]; decide) (by rw [e10]; decide +kernel) (by decide) ?_
          refine lv_aload_n hx hb dX11_space_73 rfl (lv_at hl 0 rfl) ?_
          refine gf_X11_12 X hP (k := 0) (q := 1) rfl dX11_space_74 rfl ?_
          refine gf_X11_74 X hP (k := 1) (q := 3) rfl dX11_space_77 rfl ?_
          obtain ⟨r11, s12, h13, hf⟩ := zbd_some hf
          refine zcallV X hP hS hl.1 (k := 3) (As := []) (rest := []) (cn_X7_eulerNumber h13) cw_X7_eulerNumber zp_7 rfl (by decide) rfl ml_X11_122 (by decide) rfl rfl (Nat.le_of_ble_eq_true rfl) dX11_space_80 (fun H locs hP hS => ?_)
          exact zret_i X hP hS hf rfl dX11_space_83
        · rw [if_neg e10] at hf
          by_cases e14 : x1 = 4
          · rw [if_pos e14] at hf
            refine lv_tableIn (tgt := 84) (off := 83) hx hb dX11_space_1 (by rw [e14]; decide) (by rw [e14]; decide) (by rw [e14]; decide +kernel) (by decide) ?_
            refine lv_aload_n hx hb dX11_space_84 rfl (lv_at hl 0 rfl) ?_
            refine gf_X11_12 X hP (k := 0) (q := 1) rfl dX11_space_85 rfl ?_
            refine gf_X11_74 X hP (k := 1) (q := 3) rfl dX11_space_88 rfl ?_
            refine gf_X11_102 X hP (k := 3) rfl dX11_space_91 ?_
            exact zret_i X hP hS hf rfl dX11_space_94
          · rw [if_neg e14] at hf
            by_cases e15 : x1 = 5
            · rw [if_pos e15] at hf
              refine lv_tableIn (tgt := 95) (off := 94) hx hb dX11_space_1 (by rw [e15]; decide) (by rw [e15]; decide) (by rw [e15]; decide +kernel) (by decide) ?_
              refine lv_aload_n hx hb dX11_space_95 rfl (lv_at hl 0 rfl) ?_
              refine gf_X11_28 X hP (k := 0) (q := 5) rfl dX11_space_96 rfl ?_
              refine gf_X11_84 X hP (k := 5) (q := 6) rfl dX11_space_99 rfl ?_
              refine gf_X11_125 X hP (k := 6) rfl dX11_space_102 ?_
              exact zret_i X hP hS hf rfl dX11_space_105
            · rw [if_neg e15] at hf
              have ye1 := zne e1 (v := 0) (by decide)
              have ye2 := zne e2 (v := 1) (by decide)
              have ye6 := zne e6 (v := 2) (by decide)
              have ye10 := zne e10 (v := 3) (by decide)
              have ye14 := zne e14 (v := 4) (by decide)
              have ye15 := zne e15 (v := 5) (by decide)
              refine lv_tableOut (tgt := 106) hx hb dX11_space_1 (by omega) (by decide) ?_
              refine lv_iconst (v := (-1)) hx hb dX11_space_106 (by decide) ?_
              exact zret_i X hP hS hf rfl dX11_space_107
theorem dX11_worth_0 : decode cX11_worth 0 = .ok (.aload_n 0, 1) := by decide +kernel
theorem dX11_worth_1 : decode cX11_worth 1 = .ok (.getfield 28, 3) := by decide +kernel
theorem dX11_worth_4 : decode cX11_worth 4 = .ok (.getfield 84, 3) := by decide +kernel
theorem dX11_worth_7 : decode cX11_worth 7 = .ok (.iload_n 1, 1) := by decide +kernel
theorem dX11_worth_8 : decode cX11_worth 8 = .ok (.invokevirtual 128, 3) := by decide +kernel
theorem dX11_worth_11 : decode cX11_worth 11 = .ok (.istore_n 2, 1) := by decide +kernel
theorem dX11_worth_12 : decode cX11_worth 12 = .ok (.iload_n 2, 1) := by decide +kernel
theorem dX11_worth_13 : decode cX11_worth 13 = .ok (.ifCond .ge 9, 3) := by decide +kernel
theorem dX11_worth_16 : decode cX11_worth 16 = .ok (.ldc2_w 132, 3) := by decide +kernel
theorem dX11_worth_19 : decode cX11_worth 19 = .ok (.goto 15, 3) := by decide +kernel
theorem dX11_worth_22 : decode cX11_worth 22 = .ok (.aload_n 0, 1) := by decide +kernel
theorem dX11_worth_23 : decode cX11_worth 23 = .ok (.getfield 28, 3) := by decide +kernel
theorem dX11_worth_26 : decode cX11_worth 26 = .ok (.getfield 84, 3) := by decide +kernel
theorem dX11_worth_29 : decode cX11_worth 29 = .ok (.getfield 134, 3) := by decide +kernel
theorem dX11_worth_32 : decode cX11_worth 32 = .ok (.iload_n 2, 1) := by decide +kernel
theorem dX11_worth_33 : decode cX11_worth 33 = .ok (.laload, 1) := by decide +kernel
theorem dX11_worth_34 : decode cX11_worth 34 = .ok (.lreturn, 1) := by decide +kernel
set_option maxHeartbeats 4000000 in
set_option maxRecDepth 100000 in
theorem cn_X11_worth {l : Launch} {cA : Nat → ClassId} {ad : Nat → Nat} {D : va_G} {E : Nat → Nat} {A : Nat → Prop} {x1 : Int32} {s0 sr : SS} {rr : Int64} (hf : f_X11_worth x1 s0 = some (rr, sr)) : zCon Ox Nx cA ad D E l yX11_worth cX11_worth 3 (some .long) 1 A [.ref (ad 0), .int x1] s0 (some (.long rr)) sr := by
  refine zstart (own := RX11) hOx (by decide) rfl (Nat.le_of_ble_eq_true rfl) ?_
  intro p e s m args below meth c X hP ls hl
  have hx := X.1
  have hb := X.2.1
  have hl : lv_has ls 3 [(0, .ref (ad 0)), (1, .int x1)] := hl
  have hS : va_S A s.heap s.heap [] := va_S.rf
  rw [f_X11_worth] at hf
  refine lv_aload_n hx hb dX11_worth_0 rfl (lv_at hl 0 rfl) ?_
  refine gf_X11_28 X hP (k := 0) (q := 5) rfl dX11_worth_1 rfl ?_
  refine gf_X11_84 X hP (k := 5) (q := 6) rfl dX11_worth_4 rfl ?_
  refine lv_iload_n hx hb dX11_worth_7 rfl (lv_at hl 1 rfl) ?_
  obtain ⟨r1, s2, h3, hf⟩ := zbd_some hf
  refine zcallV X hP hS hl.1 (k := 6) (As := [.int x1]) (rest := []) (cn_X10_find h3) cw_X10_find zp_10 rfl (by decide) rfl ml_X11_128 (by decide) rfl rfl (Nat.le_of_ble_eq_true rfl) dX11_worth_8 (fun H locs hP hS => ?_)
  refine lv_istore_n (lv' := [(2, .int r1), (0, .ref (ad 0)), (1, .int x1)]) hx hb dX11_worth_11 rfl hl (by decide) rfl (fun ls hl => ?_)
  refine lv_iload_n hx hb dX11_worth_12 rfl (lv_at hl 0 rfl) ?_
  refine zif_ge (tgt := 22) hx hb dX11_worth_13 (by decide) hf (fun hf => ?_) (fun hf => ?_)
  · refine lv_aload_n hx hb dX11_worth_22 rfl (lv_at hl 1 rfl) ?_
    refine gf_X11_28 X hP (k := 0) (q := 5) rfl dX11_worth_23 rfl ?_
    refine gf_X11_84 X hP (k := 5) (q := 6) rfl dX11_worth_26 rfl ?_
    refine gf_X11_134 X hP (k := 6) (q := 64) rfl dX11_worth_29 rfl ?_
    refine lv_iload_n hx hb dX11_worth_32 rfl (lv_at hl 0 rfl) ?_
    obtain ⟨g4, hf⟩ := zgd hf
    refine zald_l X hP (k := 64) (n := 462) (rs := []) rfl g4 dX11_worth_33 ?_
    exact zret_l X hP hS hf dX11_worth_34
  · refine zldc2 X co_X11_132 dX11_worth_16 ?_
    refine lv_goto (tgt := 34) hx hb dX11_worth_19 (by decide) ?_
    exact zret_l X hP hS hf dX11_worth_34
theorem dX11_term_0 : decode cX11_term 0 = .ok (.iload_n 1, 1) := by decide +kernel
theorem dX11_term_1 : decode cX11_term 1 = .ok (.ifCond .ge 5, 3) := by decide +kernel
theorem dX11_term_4 : decode cX11_term 4 = .ok (.iconst (-1), 1) := by decide +kernel
theorem dX11_term_5 : decode cX11_term 5 = .ok (.ireturn, 1) := by decide +kernel
theorem dX11_term_6 : decode cX11_term 6 = .ok (.iload_n 1, 1) := by decide +kernel
theorem dX11_term_7 : decode cX11_term 7 = .ok (.aload_n 0, 1) := by decide +kernel
theorem dX11_term_8 : decode cX11_term 8 = .ok (.getfield 28, 3) := by decide +kernel
theorem dX11_term_11 : decode cX11_term 11 = .ok (.getfield 84, 3) := by decide +kernel
theorem dX11_term_14 : decode cX11_term 14 = .ok (.getfield 125, 3) := by decide +kernel
theorem dX11_term_17 : decode cX11_term 17 = .ok (.if_icmp .ge 18, 3) := by decide +kernel
theorem dX11_term_20 : decode cX11_term 20 = .ok (.aload_n 0, 1) := by decide +kernel
theorem dX11_term_21 : decode cX11_term 21 = .ok (.getfield 28, 3) := by decide +kernel
theorem dX11_term_24 : decode cX11_term 24 = .ok (.getfield 84, 3) := by decide +kernel
theorem dX11_term_27 : decode cX11_term 27 = .ok (.getfield 138, 3) := by decide +kernel
theorem dX11_term_30 : decode cX11_term 30 = .ok (.iload_n 1, 1) := by decide +kernel
theorem dX11_term_31 : decode cX11_term 31 = .ok (.iaload, 1) := by decide +kernel
theorem dX11_term_32 : decode cX11_term 32 = .ok (.goto 5, 3) := by decide +kernel
theorem dX11_term_35 : decode cX11_term 35 = .ok (.bipush (-2), 2) := by decide +kernel
theorem dX11_term_37 : decode cX11_term 37 = .ok (.ireturn, 1) := by decide +kernel
set_option maxHeartbeats 4000000 in
set_option maxRecDepth 100000 in
theorem cn_X11_term {l : Launch} {cA : Nat → ClassId} {ad : Nat → Nat} {D : va_G} {E : Nat → Nat} {A : Nat → Prop} {x1 : Int32} {s0 sr : SS} {rr : Int32} (hf : f_X11_term x1 s0 = some (rr, sr)) : zCon Ox Nx cA ad D E l yX11_term cX11_term 2 (some .int) 0 A [.ref (ad 0), .int x1] s0 (some (.int rr)) sr := by
  refine zstart (own := RX11) hOx (by decide) rfl (Nat.le_of_ble_eq_true rfl) ?_
  intro p e s m args below meth c X hP ls hl
  have hx := X.1
  have hb := X.2.1
  have hl : lv_has ls 2 [(0, .ref (ad 0)), (1, .int x1)] := hl
  have hS : va_S A s.heap s.heap [] := va_S.rf
  rw [f_X11_term] at hf
  refine lv_iload_n hx hb dX11_term_0 rfl (lv_at hl 1 rfl) ?_
  refine zif_ge (tgt := 6) hx hb dX11_term_1 (by decide) hf (fun hf => ?_) (fun hf => ?_)
  · refine lv_iload_n hx hb dX11_term_6 rfl (lv_at hl 1 rfl) ?_
    refine lv_aload_n hx hb dX11_term_7 rfl (lv_at hl 0 rfl) ?_
    refine gf_X11_28 X hP (k := 0) (q := 5) rfl dX11_term_8 rfl ?_
    refine gf_X11_84 X hP (k := 5) (q := 6) rfl dX11_term_11 rfl ?_
    refine gf_X11_125 X hP (k := 6) rfl dX11_term_14 ?_
    refine zicmp_ge (tgt := 35) hx hb dX11_term_17 (by decide) hf (fun hf => ?_) (fun hf => ?_)
    · refine lv_bipush (v := (-2)) hx hb dX11_term_35 (by decide) ?_
      exact zret_i X hP hS hf rfl dX11_term_37
    · refine lv_aload_n hx hb dX11_term_20 rfl (lv_at hl 0 rfl) ?_
      refine gf_X11_28 X hP (k := 0) (q := 5) rfl dX11_term_21 rfl ?_
      refine gf_X11_84 X hP (k := 5) (q := 6) rfl dX11_term_24 rfl ?_
      refine gf_X11_138 X hP (k := 6) (q := 62) rfl dX11_term_27 rfl ?_
      refine lv_iload_n hx hb dX11_term_30 rfl (lv_at hl 1 rfl) ?_
      obtain ⟨g1, hf⟩ := zgd hf
      refine zald_i X hP (k := 62) (n := 462) (rs := []) rfl g1 dX11_term_31 ?_
      refine lv_goto (tgt := 37) hx hb dX11_term_32 (by decide) ?_
      exact zret_i X hP hS hf rfl dX11_term_37
  · refine lv_iconst (v := (-1)) hx hb dX11_term_4 (by decide) ?_
    exact zret_i X hP hS hf rfl dX11_term_5
theorem dX11_set_0 : decode cX11_set 0 = .ok (.aload_n 0, 1) := by decide +kernel
theorem dX11_set_1 : decode cX11_set 1 = .ok (.getfield 12, 3) := by decide +kernel
theorem dX11_set_4 : decode cX11_set 4 = .ok (.iload_n 1, 1) := by decide +kernel
theorem dX11_set_5 : decode cX11_set 5 = .ok (.i2l, 1) := by decide +kernel
theorem dX11_set_6 : decode cX11_set 6 = .ok (.invokevirtual 155, 3) := by decide +kernel
theorem dX11_set_9 : decode cX11_set 9 = .ok (.astore 4, 2) := by decide +kernel
theorem dX11_set_11 : decode cX11_set 11 = .ok (.aload 4, 2) := by decide +kernel
theorem dX11_set_13 : decode cX11_set 13 = .ok (.ifnull 12, 3) := by decide +kernel
theorem dX11_set_16 : decode cX11_set 16 = .ok (.iload_n 2, 1) := by decide +kernel
theorem dX11_set_17 : decode cX11_set 17 = .ok (.ifCond .lt 8, 3) := by decide +kernel
theorem dX11_set_20 : decode cX11_set 20 = .ok (.iload_n 2, 1) := by decide +kernel
theorem dX11_set_21 : decode cX11_set 21 = .ok (.iconst 1, 1) := by decide +kernel
theorem dX11_set_22 : decode cX11_set 22 = .ok (.if_icmp .le 5, 3) := by decide +kernel
theorem dX11_set_25 : decode cX11_set 25 = .ok (.iconst (-1), 1) := by decide +kernel
theorem dX11_set_26 : decode cX11_set 26 = .ok (.ireturn, 1) := by decide +kernel
theorem dX11_set_27 : decode cX11_set 27 = .ok (.iload_n 3, 1) := by decide +kernel
theorem dX11_set_28 : decode cX11_set 28 = .ok (.ifCond .lt 17, 3) := by decide +kernel
theorem dX11_set_31 : decode cX11_set 31 = .ok (.iload_n 3, 1) := by decide +kernel
theorem dX11_set_32 : decode cX11_set 32 = .ok (.iload_n 2, 1) := by decide +kernel
theorem dX11_set_33 : decode cX11_set 33 = .ok (.ifCond .ne 7, 3) := by decide +kernel
theorem dX11_set_36 : decode cX11_set 36 = .ok (.iconst 5, 1) := by decide +kernel
theorem dX11_set_37 : decode cX11_set 37 = .ok (.goto 5, 3) := by decide +kernel
theorem dX11_set_40 : decode cX11_set 40 = .ok (.bipush 9, 2) := by decide +kernel
theorem dX11_set_42 : decode cX11_set 42 = .ok (.if_icmp .le 5, 3) := by decide +kernel
theorem dX11_set_45 : decode cX11_set 45 = .ok (.iconst (-1), 1) := by decide +kernel
theorem dX11_set_46 : decode cX11_set 46 = .ok (.ireturn, 1) := by decide +kernel
theorem dX11_set_47 : decode cX11_set 47 = .ok (.aload 4, 2) := by decide +kernel
theorem dX11_set_49 : decode cX11_set 49 = .ok (.iload_n 2, 1) := by decide +kernel
theorem dX11_set_50 : decode cX11_set 50 = .ok (.iload_n 3, 1) := by decide +kernel
theorem dX11_set_51 : decode cX11_set 51 = .ok (.invokevirtual 159, 3) := by decide +kernel
theorem dX11_set_54 : decode cX11_set 54 = .ok (.istore 5, 2) := by decide +kernel
theorem dX11_set_56 : decode cX11_set 56 = .ok (.iload 5, 2) := by decide +kernel
theorem dX11_set_58 : decode cX11_set 58 = .ok (.iload_n 3, 1) := by decide +kernel
theorem dX11_set_59 : decode cX11_set 59 = .ok (.if_icmp .eq 15, 3) := by decide +kernel
theorem dX11_set_62 : decode cX11_set 62 = .ok (.aload_n 0, 1) := by decide +kernel
theorem dX11_set_63 : decode cX11_set 63 = .ok (.getfield 35, 3) := by decide +kernel
theorem dX11_set_66 : decode cX11_set 66 = .ok (.iload_n 1, 1) := by decide +kernel
theorem dX11_set_67 : decode cX11_set 67 = .ok (.iload_n 2, 1) := by decide +kernel
theorem dX11_set_68 : decode cX11_set 68 = .ok (.iload 5, 2) := by decide +kernel
theorem dX11_set_70 : decode cX11_set 70 = .ok (.iload_n 3, 1) := by decide +kernel
theorem dX11_set_71 : decode cX11_set 71 = .ok (.invokevirtual 162, 3) := by decide +kernel
theorem dX11_set_74 : decode cX11_set 74 = .ok (.iload 5, 2) := by decide +kernel
theorem dX11_set_76 : decode cX11_set 76 = .ok (.ireturn, 1) := by decide +kernel
set_option maxHeartbeats 4000000 in
set_option maxRecDepth 100000 in
theorem cn_X11_set {l : Launch} {cA : Nat → ClassId} {ad : Nat → Nat} {D : va_G} {E : Nat → Nat} {A : Nat → Prop} {x1 : Int32} {x2 : Int32} {x3 : Int32} {s0 sr : SS} {rr : Int32} (hf : f_X11_set x1 x2 x3 s0 = some (rr, sr)) : zCon Ox Nx cA ad D E l yX11_set cX11_set 6 (some .int) 3 A [.ref (ad 0), .int x1, .int x2, .int x3] s0 (some (.int rr)) sr := by
  refine zstart (own := RX11) hOx (by decide) rfl (Nat.le_of_ble_eq_true rfl) ?_
  intro p e s m args below meth c X hP ls hl
  have hx := X.1
  have hb := X.2.1
  have hl : lv_has ls 6 [(0, .ref (ad 0)), (1, .int x1), (2, .int x2), (3, .int x3)] := hl
  have hS : va_S A s.heap s.heap [] := va_S.rf
  have hc_42 : ∀ (x1 : Int32) (x2 : Int32) (x3 : Int32) (k4 : Nat) (t0 : Int32) (t1 : Int32) (s1 : SS) (H : Heap) (locs : List Loc) (ls : Array Slot), lv_has ls 6 [(0, .ref (ad 0)), (1, .int x1), (2, .int x2), (3, .int x3), (4, .ref (ad k4))] → va_P D ZCL (zw Ox Nx cA ad s1) H → va_S A s.heap H locs → f_X11_set_c42 x1 x2 x3 k4 t0 t1 s1 = some (rr, sr) → W p l e (zrm 3) s m args below meth c H locs 0 0 (MQ below (zQc Ox Nx cA ad D A (some (.int rr)) sr) args s 0 0 A) (F0 m 42 ls [.int t0, .int t1]) := by
    intro x1 x2 x3 k4 t0 t1 s1 H locs ls hl hP hS hf
    rw [f_X11_set_c42] at hf
    obtain ⟨gp4, hf⟩ := zgd hf
    refine zicmp_le (tgt := 47) hx hb dX11_set_42 (by decide) hf (fun hf => ?_) (fun hf => ?_)
    · refine lv_aload hx hb dX11_set_47 (lv_at hl 4 rfl) ?_
      refine lv_iload_n hx hb dX11_set_49 rfl (lv_at hl 2 rfl) ?_
      refine lv_iload_n hx hb dX11_set_50 rfl (lv_at hl 3 rfl) ?_
      obtain ⟨r6, s7, h8, hf⟩ := zbd_some hf
      refine zcallV X hP hS hl.1 (k := k4) (As := [.int x2, .int x3]) (rest := []) (cn_X4_become h8) cw_X4_become zp_4 gp4 (by decide) rfl ml_X11_159 (by decide) rfl rfl (Nat.le_of_ble_eq_true rfl) dX11_set_51 (fun H locs hP hS => ?_)
      refine lv_istore (lv' := [(5, .int r6), (0, .ref (ad 0)), (1, .int x1), (2, .int x2), (3, .int x3), (4, .ref (ad k4))]) hx hb dX11_set_54 hl (by decide) rfl (fun ls hl => ?_)
      refine lv_iload hx hb dX11_set_56 (lv_at hl 0 rfl) ?_
      refine lv_iload_n hx hb dX11_set_58 rfl (lv_at hl 4 rfl) ?_
      refine zicmp_eq (tgt := 74) hx hb dX11_set_59 (by decide) hf (fun hf => ?_) (fun hf => ?_)
      · refine lv_iload hx hb dX11_set_74 (lv_at hl 0 rfl) ?_
        exact zret_i X hP hS hf rfl dX11_set_76
      · refine lv_aload_n hx hb dX11_set_62 rfl (lv_at hl 1 rfl) ?_
        refine gf_X11_35 X hP (k := 0) (q := 7) rfl dX11_set_63 rfl ?_
        refine lv_iload_n hx hb dX11_set_66 rfl (lv_at hl 2 rfl) ?_
        refine lv_iload_n hx hb dX11_set_67 rfl (lv_at hl 3 rfl) ?_
        refine lv_iload hx hb dX11_set_68 (lv_at hl 0 rfl) ?_
        refine lv_iload_n hx hb dX11_set_70 rfl (lv_at hl 4 rfl) ?_
        obtain ⟨r9, s10, h11, hf⟩ := zbd_some hf
        refine zcallV X hP hS hl.1 (k := 7) (As := [.int x1, .int x2, .int r6, .int x3]) (rest := []) (cn_X1_remember h11) cw_X1_remember zp_1 rfl (by decide) rfl ml_X11_162 (by decide) rfl rfl (Nat.le_of_ble_eq_true rfl) dX11_set_71 (fun H locs hP hS => ?_)
        refine lv_iload hx hb dX11_set_74 (lv_at hl 0 rfl) ?_
        exact zret_i X hP hS hf rfl dX11_set_76
    · refine lv_iconst (v := (-1)) hx hb dX11_set_45 (by decide) ?_
      exact zret_i X hP hS hf rfl dX11_set_46
  rw [f_X11_set] at hf
  refine lv_aload_n hx hb dX11_set_0 rfl (lv_at hl 0 rfl) ?_
  refine gf_X11_12 X hP (k := 0) (q := 1) rfl dX11_set_1 rfl ?_
  refine lv_iload_n hx hb dX11_set_4 rfl (lv_at hl 1 rfl) ?_
  refine lv_i2l hx hb dX11_set_5 rfl ?_
  obtain ⟨r1, s2, h3, hf⟩ := zbd_some hf
  refine zcallV X hP hS hl.1 (k := 1) (As := [.long (x1).toInt64]) (rest := []) (cn_X3_classAt h3) cw_X3_classAt zp_3 rfl (by decide) rfl ml_X11_155 (by decide) rfl rfl (Nat.le_of_ble_eq_true rfl) dX11_set_6 (fun H locs hP hS => ?_)
  rcases r1 with _ | k4
  · have hf := zbn_none hf
    refine lv_astoreN (lv' := [(4, .null), (0, .ref (ad 0)), (1, .int x1), (2, .int x2), (3, .int x3)]) hx hb dX11_set_9 hl (by decide) rfl (fun ls hl => ?_)
    refine lv_aloadN hx hb dX11_set_11 (lv_at hl 0 rfl) ?_
    refine lv_ifnullN (tgt := 25) hx hb dX11_set_13 (by decide) ?_
    refine lv_iconst (v := (-1)) hx hb dX11_set_25 (by decide) ?_
    exact zret_i X hP hS hf rfl dX11_set_26
  · have hf := zbn_some hf
    obtain ⟨g5, hf⟩ := zgd hf
    refine lv_astore (lv' := [(4, .ref (ad k4)), (0, .ref (ad 0)), (1, .int x1), (2, .int x2), (3, .int x3)]) hx hb dX11_set_9 hl (by decide) rfl (fun ls hl => ?_)
    refine lv_aload hx hb dX11_set_11 (lv_at hl 0 rfl) ?_
    refine lv_ifnull hx hb dX11_set_13 ?_
    refine lv_iload_n hx hb dX11_set_16 rfl (lv_at hl 3 rfl) ?_
    refine zif_lt (tgt := 25) hx hb dX11_set_17 (by decide) hf (fun hf => ?_) (fun hf => ?_)
    · refine lv_iconst (v := (-1)) hx hb dX11_set_25 (by decide) ?_
      exact zret_i X hP hS hf rfl dX11_set_26
    · refine lv_iload_n hx hb dX11_set_20 rfl (lv_at hl 3 rfl) ?_
      refine lv_iconst (v := 1) hx hb dX11_set_21 (by decide) ?_
      refine zicmp_le (tgt := 27) hx hb dX11_set_22 (by decide) hf (fun hf => ?_) (fun hf => ?_)
      · refine lv_iload_n hx hb dX11_set_27 rfl (lv_at hl 4 rfl) ?_
        refine zif_lt (tgt := 45) hx hb dX11_set_28 (by decide) hf (fun hf => ?_) (fun hf => ?_)
        · refine lv_iconst (v := (-1)) hx hb dX11_set_45 (by decide) ?_
          exact zret_i X hP hS hf rfl dX11_set_46
        · refine lv_iload_n hx hb dX11_set_31 rfl (lv_at hl 4 rfl) ?_
          refine lv_iload_n hx hb dX11_set_32 rfl (lv_at hl 3 rfl) ?_
          refine zif_ne (tgt := 40) hx hb dX11_set_33 (by decide) hf (fun hf => ?_) (fun hf => ?_)
          · refine lv_bipush (v := 9) hx hb dX11_set_40 (by decide) ?_
            exact hc_42 x1 x2 x3 k4 9 x3 s2 _ _ _ (lv_sub hl [1, 2, 3, 4, 0] rfl) hP hS hf
          · refine lv_iconst (v := 5) hx hb dX11_set_36 (by decide) ?_
            refine lv_goto (tgt := 42) hx hb dX11_set_37 (by decide) ?_
            exact hc_42 x1 x2 x3 k4 5 x3 s2 _ _ _ (lv_sub hl [1, 2, 3, 4, 0] rfl) hP hS hf
      · refine lv_iconst (v := (-1)) hx hb dX11_set_25 (by decide) ?_
        exact zret_i X hP hS hf rfl dX11_set_26
theorem dX11_tell_0 : decode cX11_tell 0 = .ok (.aload_n 0, 1) := by decide +kernel
theorem dX11_tell_1 : decode cX11_tell 1 = .ok (.getfield 12, 3) := by decide +kernel
theorem dX11_tell_4 : decode cX11_tell 4 = .ok (.iload_n 1, 1) := by decide +kernel
theorem dX11_tell_5 : decode cX11_tell 5 = .ok (.i2l, 1) := by decide +kernel
theorem dX11_tell_6 : decode cX11_tell 6 = .ok (.invokevirtual 155, 3) := by decide +kernel
theorem dX11_tell_9 : decode cX11_tell 9 = .ok (.astore 5, 2) := by decide +kernel
theorem dX11_tell_11 : decode cX11_tell 11 = .ok (.aload_n 0, 1) := by decide +kernel
theorem dX11_tell_12 : decode cX11_tell 12 = .ok (.getfield 28, 3) := by decide +kernel
theorem dX11_tell_15 : decode cX11_tell 15 = .ok (.getfield 84, 3) := by decide +kernel
theorem dX11_tell_18 : decode cX11_tell 18 = .ok (.iload_n 2, 1) := by decide +kernel
theorem dX11_tell_19 : decode cX11_tell 19 = .ok (.invokevirtual 128, 3) := by decide +kernel
theorem dX11_tell_22 : decode cX11_tell 22 = .ok (.istore 6, 2) := by decide +kernel
theorem dX11_tell_24 : decode cX11_tell 24 = .ok (.aload 5, 2) := by decide +kernel
theorem dX11_tell_26 : decode cX11_tell 26 = .ok (.ifnull 8, 3) := by decide +kernel
theorem dX11_tell_29 : decode cX11_tell 29 = .ok (.iload 6, 2) := by decide +kernel
theorem dX11_tell_31 : decode cX11_tell 31 = .ok (.ifCond .ge 5, 3) := by decide +kernel
theorem dX11_tell_34 : decode cX11_tell 34 = .ok (.iconst (-1), 1) := by decide +kernel
theorem dX11_tell_35 : decode cX11_tell 35 = .ok (.ireturn, 1) := by decide +kernel
theorem dX11_tell_36 : decode cX11_tell 36 = .ok (.aload 5, 2) := by decide +kernel
theorem dX11_tell_38 : decode cX11_tell 38 = .ok (.getfield 165, 3) := by decide +kernel
theorem dX11_tell_41 : decode cX11_tell 41 = .ok (.iload 6, 2) := by decide +kernel
theorem dX11_tell_43 : decode cX11_tell 43 = .ok (.lload_n 3, 1) := by decide +kernel
theorem dX11_tell_44 : decode cX11_tell 44 = .ok (.lastore, 1) := by decide +kernel
theorem dX11_tell_45 : decode cX11_tell 45 = .ok (.iconst 1, 1) := by decide +kernel
theorem dX11_tell_46 : decode cX11_tell 46 = .ok (.ireturn, 1) := by decide +kernel
set_option maxHeartbeats 4000000 in
set_option maxRecDepth 100000 in
theorem cn_X11_tell {l : Launch} {cA : Nat → ClassId} {ad : Nat → Nat} {D : va_G} {E : Nat → Nat} {A : Nat → Prop} {x1 : Int32} {x2 : Int32} {x3 : Int64} {s0 sr : SS} {rr : Int32} (hf : f_X11_tell x1 x2 x3 s0 = some (rr, sr)) : zCon Ox Nx cA ad D E l yX11_tell cX11_tell 7 (some .int) 1 A [.ref (ad 0), .int x1, .int x2, .long x3] s0 (some (.int rr)) sr := by
  refine zstart (own := RX11) hOx (by decide) rfl (Nat.le_of_ble_eq_true rfl) ?_
  intro p e s m args below meth c X hP ls hl
  have hx := X.1
  have hb := X.2.1
  have hl : lv_has ls 7 [(0, .ref (ad 0)), (1, .int x1), (2, .int x2), (3, .long x3)] := hl
  have hS : va_S A s.heap s.heap [] := va_S.rf
  rw [f_X11_tell] at hf
  refine lv_aload_n hx hb dX11_tell_0 rfl (lv_at hl 0 rfl) ?_
  refine gf_X11_12 X hP (k := 0) (q := 1) rfl dX11_tell_1 rfl ?_
  refine lv_iload_n hx hb dX11_tell_4 rfl (lv_at hl 1 rfl) ?_
  refine lv_i2l hx hb dX11_tell_5 rfl ?_
  obtain ⟨r1, s2, h3, hf⟩ := zbd_some hf
  refine zcallV X hP hS hl.1 (k := 1) (As := [.long (x1).toInt64]) (rest := []) (cn_X3_classAt h3) cw_X3_classAt zp_3 rfl (by decide) rfl ml_X11_155 (by decide) rfl rfl (Nat.le_of_ble_eq_true rfl) dX11_tell_6 (fun H locs hP hS => ?_)
  rcases r1 with _ | k4
  · have hf := zbn_none hf
    refine lv_astoreN (lv' := [(5, .null), (0, .ref (ad 0)), (1, .int x1), (2, .int x2), (3, .long x3)]) hx hb dX11_tell_9 hl (by decide) rfl (fun ls hl => ?_)
    refine lv_aload_n hx hb dX11_tell_11 rfl (lv_at hl 1 rfl) ?_
    refine gf_X11_28 X hP (k := 0) (q := 5) rfl dX11_tell_12 rfl ?_
    refine gf_X11_84 X hP (k := 5) (q := 6) rfl dX11_tell_15 rfl ?_
    refine lv_iload_n hx hb dX11_tell_18 rfl (lv_at hl 3 rfl) ?_
    obtain ⟨r6, s7, h8, hf⟩ := zbd_some hf
    refine zcallV X hP hS hl.1 (k := 6) (As := [.int x2]) (rest := []) (cn_X10_find h8) cw_X10_find zp_10 rfl (by decide) rfl ml_X11_128 (by decide) rfl rfl (Nat.le_of_ble_eq_true rfl) dX11_tell_19 (fun H locs hP hS => ?_)
    refine lv_istore (lv' := [(6, .int r6), (5, .null), (0, .ref (ad 0)), (1, .int x1), (2, .int x2), (3, .long x3)]) hx hb dX11_tell_22 hl (by decide) rfl (fun ls hl => ?_)
    refine lv_aloadN hx hb dX11_tell_24 (lv_at hl 1 rfl) ?_
    refine lv_ifnullN (tgt := 34) hx hb dX11_tell_26 (by decide) ?_
    refine lv_iconst (v := (-1)) hx hb dX11_tell_34 (by decide) ?_
    exact zret_i X hP hS hf rfl dX11_tell_35
  · have hf := zbn_some hf
    obtain ⟨g5, hf⟩ := zgd hf
    refine lv_astore (lv' := [(5, .ref (ad k4)), (0, .ref (ad 0)), (1, .int x1), (2, .int x2), (3, .long x3)]) hx hb dX11_tell_9 hl (by decide) rfl (fun ls hl => ?_)
    refine lv_aload_n hx hb dX11_tell_11 rfl (lv_at hl 1 rfl) ?_
    refine gf_X11_28 X hP (k := 0) (q := 5) rfl dX11_tell_12 rfl ?_
    refine gf_X11_84 X hP (k := 5) (q := 6) rfl dX11_tell_15 rfl ?_
    refine lv_iload_n hx hb dX11_tell_18 rfl (lv_at hl 3 rfl) ?_
    obtain ⟨r9, s10, h11, hf⟩ := zbd_some hf
    refine zcallV X hP hS hl.1 (k := 6) (As := [.int x2]) (rest := []) (cn_X10_find h11) cw_X10_find zp_10 rfl (by decide) rfl ml_X11_128 (by decide) rfl rfl (Nat.le_of_ble_eq_true rfl) dX11_tell_19 (fun H locs hP hS => ?_)
    refine lv_istore (lv' := [(6, .int r9), (5, .ref (ad k4)), (0, .ref (ad 0)), (1, .int x1), (2, .int x2), (3, .long x3)]) hx hb dX11_tell_22 hl (by decide) rfl (fun ls hl => ?_)
    refine lv_aload hx hb dX11_tell_24 (lv_at hl 1 rfl) ?_
    refine lv_ifnull hx hb dX11_tell_26 ?_
    refine lv_iload hx hb dX11_tell_29 (lv_at hl 0 rfl) ?_
    refine zif_ge (tgt := 36) hx hb dX11_tell_31 (by decide) hf (fun hf => ?_) (fun hf => ?_)
    · refine lv_aload hx hb dX11_tell_36 (lv_at hl 1 rfl) ?_
      refine gf_X11_165 X hP (k := k4) g5 dX11_tell_38 rfl ?_
      refine lv_iload hx hb dX11_tell_41 (lv_at hl 0 rfl) ?_
      refine lv_lload_n hx hb dX11_tell_43 rfl (lv_at hl 5 rfl) ?_
      obtain ⟨g12, hf⟩ := zgd hf
      obtain ⟨n13, rn13, on13, in13⟩ := zok_of g12
      refine zast_l X hP hS (k := (zrf Ox k4 2)) on13 in13 dX11_tell_44 (fun H locs hP hS => ?_)
      refine lv_iconst (v := 1) hx hb dX11_tell_45 (by decide) ?_
      exact zret_i X hP hS hf rfl dX11_tell_46
    · refine lv_iconst (v := (-1)) hx hb dX11_tell_34 (by decide) ?_
      exact zret_i X hP hS hf rfl dX11_tell_35
theorem dX11_of_0 : decode cX11_of 0 = .ok (.aload_n 0, 1) := by decide +kernel
theorem dX11_of_1 : decode cX11_of 1 = .ok (.getfield 12, 3) := by decide +kernel
theorem dX11_of_4 : decode cX11_of 4 = .ok (.iload_n 1, 1) := by decide +kernel
theorem dX11_of_5 : decode cX11_of 5 = .ok (.i2l, 1) := by decide +kernel
theorem dX11_of_6 : decode cX11_of 6 = .ok (.invokevirtual 155, 3) := by decide +kernel
theorem dX11_of_9 : decode cX11_of 9 = .ok (.astore_n 3, 1) := by decide +kernel
theorem dX11_of_10 : decode cX11_of 10 = .ok (.aload_n 3, 1) := by decide +kernel
theorem dX11_of_11 : decode cX11_of 11 = .ok (.ifnonnull 5, 3) := by decide +kernel
theorem dX11_of_14 : decode cX11_of 14 = .ok (.iconst (-1), 1) := by decide +kernel
theorem dX11_of_15 : decode cX11_of 15 = .ok (.ireturn, 1) := by decide +kernel
theorem dX11_of_16 : decode cX11_of 16 = .ok (.iload_n 2, 1) := by decide +kernel
theorem dX11_of_17 : decode cX11_of 17 = .ok (.tableswitch 81 0 4 #[35, 40, 45, 57, 69], 35) := by decide +kernel
theorem dX11_of_52 : decode cX11_of 52 = .ok (.aload_n 3, 1) := by decide +kernel
theorem dX11_of_53 : decode cX11_of 53 = .ok (.getfield 168, 3) := by decide +kernel
theorem dX11_of_56 : decode cX11_of 56 = .ok (.ireturn, 1) := by decide +kernel
theorem dX11_of_57 : decode cX11_of 57 = .ok (.aload_n 3, 1) := by decide +kernel
theorem dX11_of_58 : decode cX11_of 58 = .ok (.getfield 171, 3) := by decide +kernel
theorem dX11_of_61 : decode cX11_of 61 = .ok (.ireturn, 1) := by decide +kernel
theorem dX11_of_62 : decode cX11_of 62 = .ok (.aload_n 3, 1) := by decide +kernel
theorem dX11_of_63 : decode cX11_of 63 = .ok (.aload_n 0, 1) := by decide +kernel
theorem dX11_of_64 : decode cX11_of 64 = .ok (.getfield 28, 3) := by decide +kernel
theorem dX11_of_67 : decode cX11_of 67 = .ok (.getfield 84, 3) := by decide +kernel
theorem dX11_of_70 : decode cX11_of 70 = .ok (.invokevirtual 174, 3) := by decide +kernel
theorem dX11_of_73 : decode cX11_of 73 = .ok (.ireturn, 1) := by decide +kernel
theorem dX11_of_74 : decode cX11_of 74 = .ok (.aload_n 3, 1) := by decide +kernel
theorem dX11_of_75 : decode cX11_of 75 = .ok (.aload_n 0, 1) := by decide +kernel
theorem dX11_of_76 : decode cX11_of 76 = .ok (.getfield 28, 3) := by decide +kernel
theorem dX11_of_79 : decode cX11_of 79 = .ok (.getfield 84, 3) := by decide +kernel
theorem dX11_of_82 : decode cX11_of 82 = .ok (.invokevirtual 178, 3) := by decide +kernel
theorem dX11_of_85 : decode cX11_of 85 = .ok (.ireturn, 1) := by decide +kernel
theorem dX11_of_86 : decode cX11_of 86 = .ok (.aload_n 3, 1) := by decide +kernel
theorem dX11_of_87 : decode cX11_of 87 = .ok (.aload_n 0, 1) := by decide +kernel
theorem dX11_of_88 : decode cX11_of 88 = .ok (.getfield 28, 3) := by decide +kernel
theorem dX11_of_91 : decode cX11_of 91 = .ok (.getfield 84, 3) := by decide +kernel
theorem dX11_of_94 : decode cX11_of 94 = .ok (.invokevirtual 181, 3) := by decide +kernel
theorem dX11_of_97 : decode cX11_of 97 = .ok (.ireturn, 1) := by decide +kernel
theorem dX11_of_98 : decode cX11_of 98 = .ok (.iconst (-1), 1) := by decide +kernel
theorem dX11_of_99 : decode cX11_of 99 = .ok (.ireturn, 1) := by decide +kernel
set_option maxHeartbeats 4000000 in
set_option maxRecDepth 100000 in
theorem cn_X11_of {l : Launch} {cA : Nat → ClassId} {ad : Nat → Nat} {D : va_G} {E : Nat → Nat} {A : Nat → Prop} {x1 : Int32} {x2 : Int32} {s0 sr : SS} {rr : Int32} (hf : f_X11_of x1 x2 s0 = some (rr, sr)) : zCon Ox Nx cA ad D E l yX11_of cX11_of 4 (some .int) 2 A [.ref (ad 0), .int x1, .int x2] s0 (some (.int rr)) sr := by
  refine zstart (own := RX11) hOx (by decide) rfl (Nat.le_of_ble_eq_true rfl) ?_
  intro p e s m args below meth c X hP ls hl
  have hx := X.1
  have hb := X.2.1
  have hl : lv_has ls 4 [(0, .ref (ad 0)), (1, .int x1), (2, .int x2)] := hl
  have hS : va_S A s.heap s.heap [] := va_S.rf
  rw [f_X11_of] at hf
  refine lv_aload_n hx hb dX11_of_0 rfl (lv_at hl 0 rfl) ?_
  refine gf_X11_12 X hP (k := 0) (q := 1) rfl dX11_of_1 rfl ?_
  refine lv_iload_n hx hb dX11_of_4 rfl (lv_at hl 1 rfl) ?_
  refine lv_i2l hx hb dX11_of_5 rfl ?_
  obtain ⟨r1, s2, h3, hf⟩ := zbd_some hf
  refine zcallV X hP hS hl.1 (k := 1) (As := [.long (x1).toInt64]) (rest := []) (cn_X3_classAt h3) cw_X3_classAt zp_3 rfl (by decide) rfl ml_X11_155 (by decide) rfl rfl (Nat.le_of_ble_eq_true rfl) dX11_of_6 (fun H locs hP hS => ?_)
  rcases r1 with _ | k4
  · have hf := zbn_none hf
    refine lv_astore_nN (lv' := [(3, .null), (0, .ref (ad 0)), (1, .int x1), (2, .int x2)]) hx hb dX11_of_9 rfl hl (by decide) rfl (fun ls hl => ?_)
    refine lv_aload_nN hx hb dX11_of_10 rfl (lv_at hl 0 rfl) ?_
    refine lv_ifnonnullN hx hb dX11_of_11 ?_
    refine lv_iconst (v := (-1)) hx hb dX11_of_14 (by decide) ?_
    exact zret_i X hP hS hf rfl dX11_of_15
  · have hf := zbn_some hf
    obtain ⟨g5, hf⟩ := zgd hf
    refine lv_astore_n (lv' := [(3, .ref (ad k4)), (0, .ref (ad 0)), (1, .int x1), (2, .int x2)]) hx hb dX11_of_9 rfl hl (by decide) rfl (fun ls hl => ?_)
    refine lv_aload_n hx hb dX11_of_10 rfl (lv_at hl 0 rfl) ?_
    refine lv_ifnonnull (tgt := 16) hx hb dX11_of_11 (by decide) ?_
    refine lv_iload_n hx hb dX11_of_16 rfl (lv_at hl 3 rfl) ?_
    by_cases e6 : x2 = 0
    · rw [if_pos e6] at hf
      refine lv_tableIn (tgt := 52) (off := 35) hx hb dX11_of_17 (by rw [e6]; decide) (by rw [e6]; decide) (by rw [e6]; decide +kernel) (by decide) ?_
      refine lv_aload_n hx hb dX11_of_52 rfl (lv_at hl 0 rfl) ?_
      refine gf_X11_168 X hP (k := k4) g5 dX11_of_53 ?_
      exact zret_i X hP hS hf rfl dX11_of_56
    · rw [if_neg e6] at hf
      by_cases e7 : x2 = 1
      · rw [if_pos e7] at hf
        refine lv_tableIn (tgt := 57) (off := 40) hx hb dX11_of_17 (by rw [e7]; decide) (by rw [e7]; decide) (by rw [e7]; decide +kernel) (by decide) ?_
        refine lv_aload_n hx hb dX11_of_57 rfl (lv_at hl 0 rfl) ?_
        refine gf_X11_171 X hP (k := k4) g5 dX11_of_58 ?_
        exact zret_i X hP hS hf rfl dX11_of_61
      · rw [if_neg e7] at hf
        by_cases e8 : x2 = 2
        · rw [if_pos e8] at hf
          refine lv_tableIn (tgt := 62) (off := 45) hx hb dX11_of_17 (by rw [e8]; decide) (by rw [e8]; decide) (by rw [e8]; decide +kernel) (by decide) ?_
          refine lv_aload_n hx hb dX11_of_62 rfl (lv_at hl 0 rfl) ?_
          refine lv_aload_n hx hb dX11_of_63 rfl (lv_at hl 1 rfl) ?_
          refine gf_X11_28 X hP (k := 0) (q := 5) rfl dX11_of_64 rfl ?_
          refine gf_X11_84 X hP (k := 5) (q := 6) rfl dX11_of_67 rfl ?_
          obtain ⟨r9, s10, h11, hf⟩ := zbd_some hf
          refine zcallV X hP hS hl.1 (k := k4) (As := [.ref (ad 6)]) (rest := []) (cn_X4_shown h11) cw_X4_shown zp_4 g5 (by decide) rfl ml_X11_174 (by decide) rfl rfl (Nat.le_of_ble_eq_true rfl) dX11_of_70 (fun H locs hP hS => ?_)
          exact zret_i X hP hS hf rfl dX11_of_73
        · rw [if_neg e8] at hf
          by_cases e12 : x2 = 3
          · rw [if_pos e12] at hf
            refine lv_tableIn (tgt := 74) (off := 57) hx hb dX11_of_17 (by rw [e12]; decide) (by rw [e12]; decide) (by rw [e12]; decide +kernel) (by decide) ?_
            refine lv_aload_n hx hb dX11_of_74 rfl (lv_at hl 0 rfl) ?_
            refine lv_aload_n hx hb dX11_of_75 rfl (lv_at hl 1 rfl) ?_
            refine gf_X11_28 X hP (k := 0) (q := 5) rfl dX11_of_76 rfl ?_
            refine gf_X11_84 X hP (k := 5) (q := 6) rfl dX11_of_79 rfl ?_
            obtain ⟨r13, s14, h15, hf⟩ := zbd_some hf
            refine zcallV X hP hS hl.1 (k := k4) (As := [.ref (ad 6)]) (rest := []) (cn_X4_greatestSize h15) cw_X4_greatestSize zp_4 g5 (by decide) rfl ml_X11_178 (by decide) rfl rfl (Nat.le_of_ble_eq_true rfl) dX11_of_82 (fun H locs hP hS => ?_)
            exact zret_i X hP hS hf rfl dX11_of_85
          · rw [if_neg e12] at hf
            by_cases e16 : x2 = 4
            · rw [if_pos e16] at hf
              refine lv_tableIn (tgt := 86) (off := 69) hx hb dX11_of_17 (by rw [e16]; decide) (by rw [e16]; decide) (by rw [e16]; decide +kernel) (by decide) ?_
              refine lv_aload_n hx hb dX11_of_86 rfl (lv_at hl 0 rfl) ?_
              refine lv_aload_n hx hb dX11_of_87 rfl (lv_at hl 1 rfl) ?_
              refine gf_X11_28 X hP (k := 0) (q := 5) rfl dX11_of_88 rfl ?_
              refine gf_X11_84 X hP (k := 5) (q := 6) rfl dX11_of_91 rfl ?_
              obtain ⟨r17, s18, h19, hf⟩ := zbd_some hf
              refine zcallV X hP hS hl.1 (k := k4) (As := [.ref (ad 6)]) (rest := []) (cn_X4_leastSize h19) cw_X4_leastSize zp_4 g5 (by decide) rfl ml_X11_181 (by decide) rfl rfl (Nat.le_of_ble_eq_true rfl) dX11_of_94 (fun H locs hP hS => ?_)
              exact zret_i X hP hS hf rfl dX11_of_97
            · rw [if_neg e16] at hf
              have ye6 := zne e6 (v := 0) (by decide)
              have ye7 := zne e7 (v := 1) (by decide)
              have ye8 := zne e8 (v := 2) (by decide)
              have ye12 := zne e12 (v := 3) (by decide)
              have ye16 := zne e16 (v := 4) (by decide)
              refine lv_tableOut (tgt := 98) hx hb dX11_of_17 (by omega) (by decide) ?_
              refine lv_iconst (v := (-1)) hx hb dX11_of_98 (by decide) ?_
              exact zret_i X hP hS hf rfl dX11_of_99
theorem dX11_number_0 : decode cX11_number 0 = .ok (.aload_n 0, 1) := by decide +kernel
theorem dX11_number_1 : decode cX11_number 1 = .ok (.getfield 12, 3) := by decide +kernel
theorem dX11_number_4 : decode cX11_number 4 = .ok (.iload_n 1, 1) := by decide +kernel
theorem dX11_number_5 : decode cX11_number 5 = .ok (.i2l, 1) := by decide +kernel
theorem dX11_number_6 : decode cX11_number 6 = .ok (.invokevirtual 155, 3) := by decide +kernel
theorem dX11_number_9 : decode cX11_number 9 = .ok (.astore_n 3, 1) := by decide +kernel
theorem dX11_number_10 : decode cX11_number 10 = .ok (.aload_n 0, 1) := by decide +kernel
theorem dX11_number_11 : decode cX11_number 11 = .ok (.getfield 28, 3) := by decide +kernel
theorem dX11_number_14 : decode cX11_number 14 = .ok (.getfield 84, 3) := by decide +kernel
theorem dX11_number_17 : decode cX11_number 17 = .ok (.iload_n 2, 1) := by decide +kernel
theorem dX11_number_18 : decode cX11_number 18 = .ok (.invokevirtual 128, 3) := by decide +kernel
theorem dX11_number_21 : decode cX11_number 21 = .ok (.istore 4, 2) := by decide +kernel
theorem dX11_number_23 : decode cX11_number 23 = .ok (.aload_n 3, 1) := by decide +kernel
theorem dX11_number_24 : decode cX11_number 24 = .ok (.ifnull 8, 3) := by decide +kernel
theorem dX11_number_27 : decode cX11_number 27 = .ok (.iload 4, 2) := by decide +kernel
theorem dX11_number_29 : decode cX11_number 29 = .ok (.ifCond .ge 9, 3) := by decide +kernel
theorem dX11_number_32 : decode cX11_number 32 = .ok (.ldc2_w 132, 3) := by decide +kernel
theorem dX11_number_35 : decode cX11_number 35 = .ok (.goto 16, 3) := by decide +kernel
theorem dX11_number_38 : decode cX11_number 38 = .ok (.aload_n 3, 1) := by decide +kernel
theorem dX11_number_39 : decode cX11_number 39 = .ok (.aload_n 0, 1) := by decide +kernel
theorem dX11_number_40 : decode cX11_number 40 = .ok (.getfield 28, 3) := by decide +kernel
theorem dX11_number_43 : decode cX11_number 43 = .ok (.getfield 84, 3) := by decide +kernel
theorem dX11_number_46 : decode cX11_number 46 = .ok (.iload 4, 2) := by decide +kernel
theorem dX11_number_48 : decode cX11_number 48 = .ok (.invokevirtual 184, 3) := by decide +kernel
theorem dX11_number_51 : decode cX11_number 51 = .ok (.lreturn, 1) := by decide +kernel
set_option maxHeartbeats 4000000 in
set_option maxRecDepth 100000 in
theorem cn_X11_number {l : Launch} {cA : Nat → ClassId} {ad : Nat → Nat} {D : va_G} {E : Nat → Nat} {A : Nat → Prop} {x1 : Int32} {x2 : Int32} {s0 sr : SS} {rr : Int64} (hf : f_X11_number x1 x2 s0 = some (rr, sr)) : zCon Ox Nx cA ad D E l yX11_number cX11_number 5 (some .long) 1 A [.ref (ad 0), .int x1, .int x2] s0 (some (.long rr)) sr := by
  refine zstart (own := RX11) hOx (by decide) rfl (Nat.le_of_ble_eq_true rfl) ?_
  intro p e s m args below meth c X hP ls hl
  have hx := X.1
  have hb := X.2.1
  have hl : lv_has ls 5 [(0, .ref (ad 0)), (1, .int x1), (2, .int x2)] := hl
  have hS : va_S A s.heap s.heap [] := va_S.rf
  rw [f_X11_number] at hf
  refine lv_aload_n hx hb dX11_number_0 rfl (lv_at hl 0 rfl) ?_
  refine gf_X11_12 X hP (k := 0) (q := 1) rfl dX11_number_1 rfl ?_
  refine lv_iload_n hx hb dX11_number_4 rfl (lv_at hl 1 rfl) ?_
  refine lv_i2l hx hb dX11_number_5 rfl ?_
  obtain ⟨r1, s2, h3, hf⟩ := zbd_some hf
  refine zcallV X hP hS hl.1 (k := 1) (As := [.long (x1).toInt64]) (rest := []) (cn_X3_classAt h3) cw_X3_classAt zp_3 rfl (by decide) rfl ml_X11_155 (by decide) rfl rfl (Nat.le_of_ble_eq_true rfl) dX11_number_6 (fun H locs hP hS => ?_)
  rcases r1 with _ | k4
  · have hf := zbn_none hf
    refine lv_astore_nN (lv' := [(3, .null), (0, .ref (ad 0)), (1, .int x1), (2, .int x2)]) hx hb dX11_number_9 rfl hl (by decide) rfl (fun ls hl => ?_)
    refine lv_aload_n hx hb dX11_number_10 rfl (lv_at hl 1 rfl) ?_
    refine gf_X11_28 X hP (k := 0) (q := 5) rfl dX11_number_11 rfl ?_
    refine gf_X11_84 X hP (k := 5) (q := 6) rfl dX11_number_14 rfl ?_
    refine lv_iload_n hx hb dX11_number_17 rfl (lv_at hl 3 rfl) ?_
    obtain ⟨r6, s7, h8, hf⟩ := zbd_some hf
    refine zcallV X hP hS hl.1 (k := 6) (As := [.int x2]) (rest := []) (cn_X10_find h8) cw_X10_find zp_10 rfl (by decide) rfl ml_X11_128 (by decide) rfl rfl (Nat.le_of_ble_eq_true rfl) dX11_number_18 (fun H locs hP hS => ?_)
    refine lv_istore (lv' := [(4, .int r6), (3, .null), (0, .ref (ad 0)), (1, .int x1), (2, .int x2)]) hx hb dX11_number_21 hl (by decide) rfl (fun ls hl => ?_)
    refine lv_aload_nN hx hb dX11_number_23 rfl (lv_at hl 1 rfl) ?_
    refine lv_ifnullN (tgt := 32) hx hb dX11_number_24 (by decide) ?_
    refine zldc2 X co_X11_132 dX11_number_32 ?_
    refine lv_goto (tgt := 51) hx hb dX11_number_35 (by decide) ?_
    exact zret_l X hP hS hf dX11_number_51
  · have hf := zbn_some hf
    obtain ⟨g5, hf⟩ := zgd hf
    refine lv_astore_n (lv' := [(3, .ref (ad k4)), (0, .ref (ad 0)), (1, .int x1), (2, .int x2)]) hx hb dX11_number_9 rfl hl (by decide) rfl (fun ls hl => ?_)
    refine lv_aload_n hx hb dX11_number_10 rfl (lv_at hl 1 rfl) ?_
    refine gf_X11_28 X hP (k := 0) (q := 5) rfl dX11_number_11 rfl ?_
    refine gf_X11_84 X hP (k := 5) (q := 6) rfl dX11_number_14 rfl ?_
    refine lv_iload_n hx hb dX11_number_17 rfl (lv_at hl 3 rfl) ?_
    obtain ⟨r9, s10, h11, hf⟩ := zbd_some hf
    refine zcallV X hP hS hl.1 (k := 6) (As := [.int x2]) (rest := []) (cn_X10_find h11) cw_X10_find zp_10 rfl (by decide) rfl ml_X11_128 (by decide) rfl rfl (Nat.le_of_ble_eq_true rfl) dX11_number_18 (fun H locs hP hS => ?_)
    refine lv_istore (lv' := [(4, .int r9), (3, .ref (ad k4)), (0, .ref (ad 0)), (1, .int x1), (2, .int x2)]) hx hb dX11_number_21 hl (by decide) rfl (fun ls hl => ?_)
    refine lv_aload_n hx hb dX11_number_23 rfl (lv_at hl 1 rfl) ?_
    refine lv_ifnull hx hb dX11_number_24 ?_
    refine lv_iload hx hb dX11_number_27 (lv_at hl 0 rfl) ?_
    refine zif_ge (tgt := 38) hx hb dX11_number_29 (by decide) hf (fun hf => ?_) (fun hf => ?_)
    · refine lv_aload_n hx hb dX11_number_38 rfl (lv_at hl 1 rfl) ?_
      refine lv_aload_n hx hb dX11_number_39 rfl (lv_at hl 2 rfl) ?_
      refine gf_X11_28 X hP (k := 0) (q := 5) rfl dX11_number_40 rfl ?_
      refine gf_X11_84 X hP (k := 5) (q := 6) rfl dX11_number_43 rfl ?_
      refine lv_iload hx hb dX11_number_46 (lv_at hl 0 rfl) ?_
      obtain ⟨r12, s13, h14, hf⟩ := zbd_some hf
      refine zcallV X hP hS hl.1 (k := k4) (As := [.ref (ad 6), .int r9]) (rest := []) (cn_X4_numberAt h14) cw_X4_numberAt zp_4 g5 (by decide) rfl ml_X11_184 (by decide) rfl rfl (Nat.le_of_ble_eq_true rfl) dX11_number_48 (fun H locs hP hS => ?_)
      exact zret_l X hP hS hf dX11_number_51
    · refine zldc2 X co_X11_132 dX11_number_32 ?_
      refine lv_goto (tgt := 51) hx hb dX11_number_35 (by decide) ?_
      exact zret_l X hP hS hf dX11_number_51
