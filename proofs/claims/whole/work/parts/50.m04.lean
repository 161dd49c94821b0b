theorem dX11_feed_0 : decode cX11_feed 0 = .ok (.iload_n 1, 1) := by decide +kernel
theorem dX11_feed_1 : decode cX11_feed 1 = .ok (.bipush 32, 2) := by decide +kernel
theorem dX11_feed_3 : decode cX11_feed 3 = .ok (.if_icmp .lt 9, 3) := by decide +kernel
theorem dX11_feed_6 : decode cX11_feed 6 = .ok (.iload_n 1, 1) := by decide +kernel
theorem dX11_feed_7 : decode cX11_feed 7 = .ok (.bipush 126, 2) := by decide +kernel
theorem dX11_feed_9 : decode cX11_feed 9 = .ok (.if_icmp .le 5, 3) := by decide +kernel
theorem dX11_feed_12 : decode cX11_feed 12 = .ok (.iconst (-1), 1) := by decide +kernel
theorem dX11_feed_13 : decode cX11_feed 13 = .ok (.ireturn, 1) := by decide +kernel
theorem dX11_feed_14 : decode cX11_feed 14 = .ok (.aload_n 0, 1) := by decide +kernel
theorem dX11_feed_15 : decode cX11_feed 15 = .ok (.getfield 42, 3) := by decide +kernel
theorem dX11_feed_18 : decode cX11_feed 18 = .ok (.iload_n 1, 1) := by decide +kernel
theorem dX11_feed_19 : decode cX11_feed 19 = .ok (.i2c, 1) := by decide +kernel
theorem dX11_feed_20 : decode cX11_feed 20 = .ok (.invokevirtual 326, 3) := by decide +kernel
theorem dX11_feed_23 : decode cX11_feed 23 = .ok (.ifCond .eq 13, 3) := by decide +kernel
theorem dX11_feed_26 : decode cX11_feed 26 = .ok (.aload_n 0, 1) := by decide +kernel
theorem dX11_feed_27 : decode cX11_feed 27 = .ok (.getfield 42, 3) := by decide +kernel
theorem dX11_feed_30 : decode cX11_feed 30 = .ok (.getfield 330, 3) := by decide +kernel
theorem dX11_feed_33 : decode cX11_feed 33 = .ok (.goto 5, 3) := by decide +kernel
theorem dX11_feed_36 : decode cX11_feed 36 = .ok (.bipush (-3), 2) := by decide +kernel
theorem dX11_feed_38 : decode cX11_feed 38 = .ok (.ireturn, 1) := by decide +kernel
set_option maxHeartbeats 4000000 in
set_option maxRecDepth 100000 in
theorem cn_X11_feed {l : Launch} {cA : Nat → ClassId} {ad : Nat → Nat} {D : va_G} {E : Nat → Nat} {A : Nat → Prop} {x1 : Int32} {s0 sr : SS} {rr : Int32} (hf : f_X11_feed x1 s0 = some (rr, sr)) : zCon Ox Nx cA ad D E l yX11_feed cX11_feed 2 (some .int) 1 A [.ref (ad 0), .int x1] s0 (some (.int rr)) sr := by
  refine zstart (own := RX11) hOx (by decide) rfl (Nat.le_of_ble_eq_true rfl) ?_
  intro p e s m args below meth c X hP ls hl
  have hx := X.1
  have hb := X.2.1
  have hl : lv_has ls 2 [(0, .ref (ad 0)), (1, .int x1)] := hl
  have hS : va_S A s.heap s.heap [] := va_S.rf
  rw [f_X11_feed] at hf
  refine lv_iload_n hx hb dX11_feed_0 rfl (lv_at hl 1 rfl) ?_
  refine lv_bipush (v := 32) hx hb dX11_feed_1 (by decide) ?_
  refine zicmp_lt (tgt := 12) hx hb dX11_feed_3 (by decide) hf (fun hf => ?_) (fun hf => ?_)
  · refine lv_iconst (v := (-1)) hx hb dX11_feed_12 (by decide) ?_
    exact zret_i X hP hS hf rfl dX11_feed_13
  · refine lv_iload_n hx hb dX11_feed_6 rfl (lv_at hl 1 rfl) ?_
    refine lv_bipush (v := 126) hx hb dX11_feed_7 (by decide) ?_
    refine zicmp_le (tgt := 14) hx hb dX11_feed_9 (by decide) hf (fun hf => ?_) (fun hf => ?_)
    · refine lv_aload_n hx hb dX11_feed_14 rfl (lv_at hl 0 rfl) ?_
      refine gf_X11_42 X hP (k := 0) (q := 8) rfl dX11_feed_15 rfl ?_
      refine lv_iload_n hx hb dX11_feed_18 rfl (lv_at hl 1 rfl) ?_
      refine lv_i2c hx hb dX11_feed_19 rfl ?_
      obtain ⟨r1, s2, h3, hf⟩ := zbd_some hf
      refine zcallV X hP hS hl.1 (k := 8) (As := [.int ((x1).toUInt32 % 65536).toInt32]) (rest := []) (cn_X9_add h3) cw_X9_add zp_9 rfl (by decide) rfl ml_X11_326 (by decide) rfl rfl (Nat.le_of_ble_eq_true rfl) dX11_feed_20 (fun H locs hP hS => ?_)
      refine zif_eq (tgt := 36) hx hb dX11_feed_23 (by decide) hf (fun hf => ?_) (fun hf => ?_)
      · refine lv_bipush (v := (-3)) hx hb dX11_feed_36 (by decide) ?_
        exact zret_i X hP hS hf rfl dX11_feed_38
      · refine lv_aload_n hx hb dX11_feed_26 rfl (lv_at hl 0 rfl) ?_
        refine gf_X11_42 X hP (k := 0) (q := 8) rfl dX11_feed_27 rfl ?_
        refine gf_X11_330 X hP (k := 8) rfl dX11_feed_30 ?_
        refine lv_goto (tgt := 38) hx hb dX11_feed_33 (by decide) ?_
        exact zret_i X hP hS hf rfl dX11_feed_38
    · refine lv_iconst (v := (-1)) hx hb dX11_feed_12 (by decide) ?_
      exact zret_i X hP hS hf rfl dX11_feed_13
theorem dX11_wipe_0 : decode cX11_wipe 0 = .ok (.aload_n 0, 1) := by decide +kernel
theorem dX11_wipe_1 : decode cX11_wipe 1 = .ok (.getfield 42, 3) := by decide +kernel
theorem dX11_wipe_4 : decode cX11_wipe 4 = .ok (.getfield 330, 3) := by decide +kernel
theorem dX11_wipe_7 : decode cX11_wipe 7 = .ok (.istore_n 1, 1) := by decide +kernel
theorem dX11_wipe_8 : decode cX11_wipe 8 = .ok (.aload_n 0, 1) := by decide +kernel
theorem dX11_wipe_9 : decode cX11_wipe 9 = .ok (.getfield 42, 3) := by decide +kernel
theorem dX11_wipe_12 : decode cX11_wipe 12 = .ok (.iconst 0, 1) := by decide +kernel
theorem dX11_wipe_13 : decode cX11_wipe 13 = .ok (.putfield 330, 3) := by decide +kernel
theorem dX11_wipe_16 : decode cX11_wipe 16 = .ok (.iload_n 1, 1) := by decide +kernel
theorem dX11_wipe_17 : decode cX11_wipe 17 = .ok (.ireturn, 1) := by decide +kernel
set_option maxHeartbeats 4000000 in
set_option maxRecDepth 100000 in
theorem cn_X11_wipe {l : Launch} {cA : Nat → ClassId} {ad : Nat → Nat} {D : va_G} {E : Nat → Nat} {A : Nat → Prop}  {s0 sr : SS} {rr : Int32} (hf : f_X11_wipe s0 = some (rr, sr)) : zCon Ox Nx cA ad D E l yX11_wipe cX11_wipe 2 (some .int) 0 A [.ref (ad 0)] s0 (some (.int rr)) sr := by
  refine zstart (own := RX11) hOx (by decide) rfl (Nat.le_of_ble_eq_true rfl) ?_
  intro p e s m args below meth c X hP ls hl
  have hx := X.1
  have hb := X.2.1
  have hl : lv_has ls 2 [(0, .ref (ad 0))] := hl
  have hS : va_S A s.heap s.heap [] := va_S.rf
  rw [f_X11_wipe] at hf
  refine lv_aload_n hx hb dX11_wipe_0 rfl (lv_at hl 0 rfl) ?_
  refine gf_X11_42 X hP (k := 0) (q := 8) rfl dX11_wipe_1 rfl ?_
  refine gf_X11_330 X hP (k := 8) rfl dX11_wipe_4 ?_
  refine lv_istore_n (lv' := [(1, .int (s0.1 8 1)), (0, .ref (ad 0))]) hx hb dX11_wipe_7 rfl hl (by decide) rfl (fun ls hl => ?_)
  refine lv_aload_n hx hb dX11_wipe_8 rfl (lv_at hl 1 rfl) ?_
  refine gf_X11_42 X hP (k := 0) (q := 8) rfl dX11_wipe_9 rfl ?_
  refine lv_iconst (v := 0) hx hb dX11_wipe_12 (by decide) ?_
  refine pf_X11_330 X hP hS (k := 8) rfl dX11_wipe_13 (fun H locs hP hS => ?_)
  refine lv_iload_n hx hb dX11_wipe_16 rfl (lv_at hl 0 rfl) ?_
  exact zret_i X hP hS hf rfl dX11_wipe_17
theorem dX11_read_0 : decode cX11_read 0 = .ok (.aload_n 0, 1) := by decide +kernel
theorem dX11_read_1 : decode cX11_read 1 = .ok (.getfield 42, 3) := by decide +kernel
theorem dX11_read_4 : decode cX11_read 4 = .ok (.aload_n 0, 1) := by decide +kernel
theorem dX11_read_5 : decode cX11_read 5 = .ok (.getfield 12, 3) := by decide +kernel
theorem dX11_read_8 : decode cX11_read 8 = .ok (.getfield 74, 3) := by decide +kernel
theorem dX11_read_11 : decode cX11_read 11 = .ok (.aload_n 0, 1) := by decide +kernel
theorem dX11_read_12 : decode cX11_read 12 = .ok (.getfield 28, 3) := by decide +kernel
theorem dX11_read_15 : decode cX11_read 15 = .ok (.getfield 84, 3) := by decide +kernel
theorem dX11_read_18 : decode cX11_read 18 = .ok (.aload_n 0, 1) := by decide +kernel
theorem dX11_read_19 : decode cX11_read 19 = .ok (.getfield 28, 3) := by decide +kernel
theorem dX11_read_22 : decode cX11_read 22 = .ok (.getfield 188, 3) := by decide +kernel
theorem dX11_read_25 : decode cX11_read 25 = .ok (.invokevirtual 333, 3) := by decide +kernel
theorem dX11_read_28 : decode cX11_read 28 = .ok (.istore_n 1, 1) := by decide +kernel
theorem dX11_read_29 : decode cX11_read 29 = .ok (.aload_n 0, 1) := by decide +kernel
theorem dX11_read_30 : decode cX11_read 30 = .ok (.getfield 42, 3) := by decide +kernel
theorem dX11_read_33 : decode cX11_read 33 = .ok (.iconst 0, 1) := by decide +kernel
theorem dX11_read_34 : decode cX11_read 34 = .ok (.putfield 330, 3) := by decide +kernel
theorem dX11_read_37 : decode cX11_read 37 = .ok (.iload_n 1, 1) := by decide +kernel
theorem dX11_read_38 : decode cX11_read 38 = .ok (.iconst (-1), 1) := by decide +kernel
theorem dX11_read_39 : decode cX11_read 39 = .ok (.if_icmp .eq 8, 3) := by decide +kernel
theorem dX11_read_42 : decode cX11_read 42 = .ok (.bipush (-100), 2) := by decide +kernel
theorem dX11_read_44 : decode cX11_read 44 = .ok (.iload_n 1, 1) := by decide +kernel
theorem dX11_read_45 : decode cX11_read 45 = .ok (.isub, 1) := by decide +kernel
theorem dX11_read_46 : decode cX11_read 46 = .ok (.ireturn, 1) := by decide +kernel
theorem dX11_read_47 : decode cX11_read 47 = .ok (.aload_n 0, 1) := by decide +kernel
theorem dX11_read_48 : decode cX11_read 48 = .ok (.getfield 12, 3) := by decide +kernel
theorem dX11_read_51 : decode cX11_read 51 = .ok (.getfield 141, 3) := by decide +kernel
theorem dX11_read_54 : decode cX11_read 54 = .ok (.bipush 8, 2) := by decide +kernel
theorem dX11_read_56 : decode cX11_read 56 = .ok (.if_icmp .lt 6, 3) := by decide +kernel
theorem dX11_read_59 : decode cX11_read 59 = .ok (.bipush (-3), 2) := by decide +kernel
theorem dX11_read_61 : decode cX11_read 61 = .ok (.ireturn, 1) := by decide +kernel
theorem dX11_read_62 : decode cX11_read 62 = .ok (.aload_n 0, 1) := by decide +kernel
theorem dX11_read_63 : decode cX11_read 63 = .ok (.invokevirtual 195, 3) := by decide +kernel
theorem dX11_read_66 : decode cX11_read 66 = .ok (.aload_n 0, 1) := by decide +kernel
theorem dX11_read_67 : decode cX11_read 67 = .ok (.getfield 35, 3) := by decide +kernel
theorem dX11_read_70 : decode cX11_read 70 = .ok (.invokevirtual 142, 3) := by decide +kernel
theorem dX11_read_73 : decode cX11_read 73 = .ok (.aload_n 0, 1) := by decide +kernel
theorem dX11_read_74 : decode cX11_read 74 = .ok (.getfield 12, 3) := by decide +kernel
theorem dX11_read_77 : decode cX11_read 77 = .ok (.getfield 141, 3) := by decide +kernel
theorem dX11_read_80 : decode cX11_read 80 = .ok (.iconst 1, 1) := by decide +kernel
theorem dX11_read_81 : decode cX11_read 81 = .ok (.isub, 1) := by decide +kernel
theorem dX11_read_82 : decode cX11_read 82 = .ok (.ireturn, 1) := by decide +kernel
set_option maxHeartbeats 4000000 in
set_option maxRecDepth 100000 in
theorem cn_X11_read {l : Launch} {cA : Nat → ClassId} {ad : Nat → Nat} {D : va_G} {E : Nat → Nat} {A : Nat → Prop}  {s0 sr : SS} {rr : Int32} (hf : f_X11_read s0 = some (rr, sr)) : zCon Ox Nx cA ad D E l yX11_read cX11_read 2 (some .int) 5 A [.ref (ad 0)] s0 (some (.int rr)) sr := by
  refine zstart (own := RX11) hOx (by decide) rfl (Nat.le_of_ble_eq_true rfl) ?_
  intro p e s m args below meth c X hP ls hl
  have hx := X.1
  have hb := X.2.1
  have hl : lv_has ls 2 [(0, .ref (ad 0))] := hl
  have hS : va_S A s.heap s.heap [] := va_S.rf
  rw [f_X11_read] at hf
  refine lv_aload_n hx hb dX11_read_0 rfl (lv_at hl 0 rfl) ?_
  refine gf_X11_42 X hP (k := 0) (q := 8) rfl dX11_read_1 rfl ?_
  refine lv_aload_n hx hb dX11_read_4 rfl (lv_at hl 0 rfl) ?_
  refine gf_X11_12 X hP (k := 0) (q := 1) rfl dX11_read_5 rfl ?_
  refine gf_X11_74 X hP (k := 1) (q := 3) rfl dX11_read_8 rfl ?_
  refine lv_aload_n hx hb dX11_read_11 rfl (lv_at hl 0 rfl) ?_
  refine gf_X11_28 X hP (k := 0) (q := 5) rfl dX11_read_12 rfl ?_
  refine gf_X11_84 X hP (k := 5) (q := 6) rfl dX11_read_15 rfl ?_
  refine lv_aload_n hx hb dX11_read_18 rfl (lv_at hl 0 rfl) ?_
  refine gf_X11_28 X hP (k := 0) (q := 5) rfl dX11_read_19 rfl ?_
  refine gf_X11_188 X hP (k := 5) (q := 21) rfl dX11_read_22 rfl ?_
  obtain ⟨r1, s2, h3, hf⟩ := zbd_some hf
  refine zcallV X hP hS hl.1 (k := 8) (As := [.ref (ad 3), .ref (ad 6), .ref (ad 21)]) (rest := []) (cn_X9_readClass h3) cw_X9_readClass zp_9 rfl (by decide) rfl ml_X11_333 (by decide) rfl rfl (Nat.le_of_ble_eq_true rfl) dX11_read_25 (fun H locs hP hS => ?_)
  refine lv_istore_n (lv' := [(1, .int r1), (0, .ref (ad 0))]) hx hb dX11_read_28 rfl hl (by decide) rfl (fun ls hl => ?_)
  refine lv_aload_n hx hb dX11_read_29 rfl (lv_at hl 1 rfl) ?_
  refine gf_X11_42 X hP (k := 0) (q := 8) rfl dX11_read_30 rfl ?_
  refine lv_iconst (v := 0) hx hb dX11_read_33 (by decide) ?_
  refine pf_X11_330 X hP hS (k := 8) rfl dX11_read_34 (fun H locs hP hS => ?_)
  refine lv_iload_n hx hb dX11_read_37 rfl (lv_at hl 0 rfl) ?_
  refine lv_iconst (v := (-1)) hx hb dX11_read_38 (by decide) ?_
  refine zicmp_eq (tgt := 47) hx hb dX11_read_39 (by decide) hf (fun hf => ?_) (fun hf => ?_)
  · refine lv_aload_n hx hb dX11_read_47 rfl (lv_at hl 1 rfl) ?_
    refine gf_X11_12 X hP (k := 0) (q := 1) rfl dX11_read_48 rfl ?_
    refine gf_X11_141 X hP (k := 1) rfl dX11_read_51 ?_
    refine lv_bipush (v := 8) hx hb dX11_read_54 (by decide) ?_
    refine zicmp_lt (tgt := 62) hx hb dX11_read_56 (by decide) hf (fun hf => ?_) (fun hf => ?_)
    · refine lv_aload_n hx hb dX11_read_62 rfl (lv_at hl 1 rfl) ?_
      obtain ⟨r4, s5, h6, hf⟩ := zbd_some hf
      refine zcallV X hP hS hl.1 (k := 0) (As := []) (rest := []) (cn_X11_bringAll h6) cw_X11_bringAll zp_11 rfl (by decide) rfl ml_X11_195 (by decide) rfl rfl (Nat.le_of_ble_eq_true rfl) dX11_read_63 (fun H locs hP hS => ?_)
      refine lv_aload_n hx hb dX11_read_66 rfl (lv_at hl 1 rfl) ?_
      refine gf_X11_35 X hP (k := 0) (q := 7) rfl dX11_read_67 rfl ?_
      obtain ⟨r7, s8, h9, hf⟩ := zbd_some hf
      refine zcallV X hP hS hl.1 (k := 7) (As := []) (rest := []) (cn_X1_forget h9) cw_X1_forget zp_1 rfl (by decide) rfl ml_X11_142 (by decide) rfl rfl (Nat.le_of_ble_eq_true rfl) dX11_read_70 (fun H locs hP hS => ?_)
      refine lv_aload_n hx hb dX11_read_73 rfl (lv_at hl 1 rfl) ?_
      refine gf_X11_12 X hP (k := 0) (q := 1) rfl dX11_read_74 rfl ?_
      refine gf_X11_141 X hP (k := 1) rfl dX11_read_77 ?_
      refine lv_iconst (v := 1) hx hb dX11_read_80 (by decide) ?_
      refine lv_isub hx hb dX11_read_81 ?_
      exact zret_i X hP hS hf rfl dX11_read_82
    · refine lv_bipush (v := (-3)) hx hb dX11_read_59 (by decide) ?_
      exact zret_i X hP hS hf rfl dX11_read_61
  · refine lv_bipush (v := (-100)) hx hb dX11_read_42 (by decide) ?_
    refine lv_iload_n hx hb dX11_read_44 rfl (lv_at hl 0 rfl) ?_
    refine lv_isub hx hb dX11_read_45 ?_
    exact zret_i X hP hS hf rfl dX11_read_46
theorem dX11_canDo_0 : decode cX11_canDo 0 = .ok (.aload_n 0, 1) := by decide +kernel
theorem dX11_canDo_1 : decode cX11_canDo 1 = .ok (.getfield 12, 3) := by decide +kernel
theorem dX11_canDo_4 : decode cX11_canDo 4 = .ok (.getfield 141, 3) := by decide +kernel
theorem dX11_canDo_7 : decode cX11_canDo 7 = .ok (.bipush 8, 2) := by decide +kernel
theorem dX11_canDo_9 : decode cX11_canDo 9 = .ok (.if_icmp .ge 15, 3) := by decide +kernel
theorem dX11_canDo_12 : decode cX11_canDo 12 = .ok (.aload_n 0, 1) := by decide +kernel
theorem dX11_canDo_13 : decode cX11_canDo 13 = .ok (.getfield 12, 3) := by decide +kernel
theorem dX11_canDo_16 : decode cX11_canDo 16 = .ok (.iload_n 2, 1) := by decide +kernel
theorem dX11_canDo_17 : decode cX11_canDo 17 = .ok (.i2l, 1) := by decide +kernel
theorem dX11_canDo_18 : decode cX11_canDo 18 = .ok (.invokevirtual 155, 3) := by decide +kernel
theorem dX11_canDo_21 : decode cX11_canDo 21 = .ok (.ifnonnull 5, 3) := by decide +kernel
theorem dX11_canDo_24 : decode cX11_canDo 24 = .ok (.iconst 0, 1) := by decide +kernel
theorem dX11_canDo_25 : decode cX11_canDo 25 = .ok (.ireturn, 1) := by decide +kernel
theorem dX11_canDo_26 : decode cX11_canDo 26 = .ok (.iload_n 1, 1) := by decide +kernel
theorem dX11_canDo_27 : decode cX11_canDo 27 = .ok (.iconst 3, 1) := by decide +kernel
theorem dX11_canDo_28 : decode cX11_canDo 28 = .ok (.if_icmp .eq 8, 3) := by decide +kernel
theorem dX11_canDo_31 : decode cX11_canDo 31 = .ok (.iload_n 1, 1) := by decide +kernel
theorem dX11_canDo_32 : decode cX11_canDo 32 = .ok (.iconst 4, 1) := by decide +kernel
theorem dX11_canDo_33 : decode cX11_canDo 33 = .ok (.if_icmp .ne 15, 3) := by decide +kernel
theorem dX11_canDo_36 : decode cX11_canDo 36 = .ok (.iload_n 3, 1) := by decide +kernel
theorem dX11_canDo_37 : decode cX11_canDo 37 = .ok (.bipush 6, 2) := by decide +kernel
theorem dX11_canDo_39 : decode cX11_canDo 39 = .ok (.if_icmp .gt 7, 3) := by decide +kernel
theorem dX11_canDo_42 : decode cX11_canDo 42 = .ok (.iconst 1, 1) := by decide +kernel
theorem dX11_canDo_43 : decode cX11_canDo 43 = .ok (.goto 4, 3) := by decide +kernel
theorem dX11_canDo_46 : decode cX11_canDo 46 = .ok (.iconst 0, 1) := by decide +kernel
theorem dX11_canDo_47 : decode cX11_canDo 47 = .ok (.ireturn, 1) := by decide +kernel
theorem dX11_canDo_48 : decode cX11_canDo 48 = .ok (.aload_n 0, 1) := by decide +kernel
theorem dX11_canDo_49 : decode cX11_canDo 49 = .ok (.getfield 12, 3) := by decide +kernel
theorem dX11_canDo_52 : decode cX11_canDo 52 = .ok (.iload_n 3, 1) := by decide +kernel
theorem dX11_canDo_53 : decode cX11_canDo 53 = .ok (.i2l, 1) := by decide +kernel
theorem dX11_canDo_54 : decode cX11_canDo 54 = .ok (.invokevirtual 155, 3) := by decide +kernel
theorem dX11_canDo_57 : decode cX11_canDo 57 = .ok (.ifnull 7, 3) := by decide +kernel
theorem dX11_canDo_60 : decode cX11_canDo 60 = .ok (.iconst 1, 1) := by decide +kernel
theorem dX11_canDo_61 : decode cX11_canDo 61 = .ok (.goto 4, 3) := by decide +kernel
theorem dX11_canDo_64 : decode cX11_canDo 64 = .ok (.iconst 0, 1) := by decide +kernel
theorem dX11_canDo_65 : decode cX11_canDo 65 = .ok (.ireturn, 1) := by decide +kernel
set_option maxHeartbeats 4000000 in
set_option maxRecDepth 100000 in
theorem cn_X11_canDo {l : Launch} {cA : Nat → ClassId} {ad : Nat → Nat} {D : va_G} {E : Nat → Nat} {A : Nat → Prop} {x1 : Int32} {x2 : Int32} {x3 : Int32} {s0 sr : SS} {rr : Int32} (hf : f_X11_canDo x1 x2 x3 s0 = some (rr, sr)) : zCon Ox Nx cA ad D E l yX11_canDo cX11_canDo 4 (some .boolean) 1 A [.ref (ad 0), .int x1, .int x2, .int x3] s0 (some (.int rr)) sr := by
  refine zstart (own := RX11) hOx (by decide) rfl (Nat.le_of_ble_eq_true rfl) ?_
  intro p e s m args below meth c X hP ls hl
  have hx := X.1
  have hb := X.2.1
  have hl : lv_has ls 4 [(0, .ref (ad 0)), (1, .int x1), (2, .int x2), (3, .int x3)] := hl
  have hS : va_S A s.heap s.heap [] := va_S.rf
  have hc_36 : ∀ (x3 : Int32) (s1 : SS) (H : Heap) (locs : List Loc) (ls : Array Slot), lv_has ls 4 [(3, .int x3)] → va_P D ZCL (zw Ox Nx cA ad s1) H → va_S A s.heap H locs → f_X11_canDo_c36 x3 s1 = some (rr, sr) → W p l e (zrm 1) s m args below meth c H locs 0 0 (MQ below (zQc Ox Nx cA ad D A (some (.int rr)) sr) args s 0 0 A) (F0 m 36 ls []) := by
    intro x3 s1 H locs ls hl hP hS hf
    rw [f_X11_canDo_c36] at hf
    refine lv_iload_n hx hb dX11_canDo_36 rfl (lv_at hl 0 rfl) ?_
    refine lv_bipush (v := 6) hx hb dX11_canDo_37 (by decide) ?_
    refine zicmp_gt (tgt := 46) hx hb dX11_canDo_39 (by decide) hf (fun hf => ?_) (fun hf => ?_)
    · refine lv_iconst (v := 0) hx hb dX11_canDo_46 (by decide) ?_
      exact zret_i X hP hS hf rfl dX11_canDo_47
    · refine lv_iconst (v := 1) hx hb dX11_canDo_42 (by decide) ?_
      refine lv_goto (tgt := 47) hx hb dX11_canDo_43 (by decide) ?_
      exact zret_i X hP hS hf rfl dX11_canDo_47
  rw [f_X11_canDo] at hf
  refine lv_aload_n hx hb dX11_canDo_0 rfl (lv_at hl 0 rfl) ?_
  refine gf_X11_12 X hP (k := 0) (q := 1) rfl dX11_canDo_1 rfl ?_
  refine gf_X11_141 X hP (k := 1) rfl dX11_canDo_4 ?_
  refine lv_bipush (v := 8) hx hb dX11_canDo_7 (by decide) ?_
  refine zicmp_ge (tgt := 24) hx hb dX11_canDo_9 (by decide) hf (fun hf => ?_) (fun hf => ?_)
  · refine lv_iconst (v := 0) hx hb dX11_canDo_24 (by decide) ?_
    exact zret_i X hP hS hf rfl dX11_canDo_25
  · refine lv_aload_n hx hb dX11_canDo_12 rfl (lv_at hl 0 rfl) ?_
    refine gf_X11_12 X hP (k := 0) (q := 1) rfl dX11_canDo_13 rfl ?_
    refine lv_iload_n hx hb dX11_canDo_16 rfl (lv_at hl 2 rfl) ?_
    refine lv_i2l hx hb dX11_canDo_17 rfl ?_
    obtain ⟨r1, s2, h3, hf⟩ := zbd_some hf
    refine zcallV X hP hS hl.1 (k := 1) (As := [.long (x2).toInt64]) (rest := []) (cn_X3_classAt h3) cw_X3_classAt zp_3 rfl (by decide) rfl ml_X11_155 (by decide) rfl rfl (Nat.le_of_ble_eq_true rfl) dX11_canDo_18 (fun H locs hP hS => ?_)
    rcases r1 with _ | k4
    · have hf := zbn_none hf
      refine lv_ifnonnullN hx hb dX11_canDo_21 ?_
      refine lv_iconst (v := 0) hx hb dX11_canDo_24 (by decide) ?_
      exact zret_i X hP hS hf rfl dX11_canDo_25
    · have hf := zbn_some hf
      obtain ⟨g5, hf⟩ := zgd hf
      refine lv_ifnonnull (tgt := 26) hx hb dX11_canDo_21 (by decide) ?_
      refine lv_iload_n hx hb dX11_canDo_26 rfl (lv_at hl 1 rfl) ?_
      refine lv_iconst (v := 3) hx hb dX11_canDo_27 (by decide) ?_
      refine zicmp_eq (tgt := 36) hx hb dX11_canDo_28 (by decide) hf (fun hf => ?_) (fun hf => ?_)
      · exact hc_36 x3 s2 _ _ _ (lv_sub hl [3] rfl) hP hS hf
      · refine lv_iload_n hx hb dX11_canDo_31 rfl (lv_at hl 1 rfl) ?_
        refine lv_iconst (v := 4) hx hb dX11_canDo_32 (by decide) ?_
        refine zicmp_ne (tgt := 48) hx hb dX11_canDo_33 (by decide) hf (fun hf => ?_) (fun hf => ?_)
        · refine lv_aload_n hx hb dX11_canDo_48 rfl (lv_at hl 0 rfl) ?_
          refine gf_X11_12 X hP (k := 0) (q := 1) rfl dX11_canDo_49 rfl ?_
          refine lv_iload_n hx hb dX11_canDo_52 rfl (lv_at hl 3 rfl) ?_
          refine lv_i2l hx hb dX11_canDo_53 rfl ?_
          obtain ⟨r6, s7, h8, hf⟩ := zbd_some hf
          refine zcallV X hP hS hl.1 (k := 1) (As := [.long (x3).toInt64]) (rest := []) (cn_X3_classAt h8) cw_X3_classAt zp_3 rfl (by decide) rfl ml_X11_155 (by decide) rfl rfl (Nat.le_of_ble_eq_true rfl) dX11_canDo_54 (fun H locs hP hS => ?_)
          rcases r6 with _ | k9
          · have hf := zbn_none hf
            refine lv_ifnullN (tgt := 64) hx hb dX11_canDo_57 (by decide) ?_
            refine lv_iconst (v := 0) hx hb dX11_canDo_64 (by decide) ?_
            exact zret_i X hP hS hf rfl dX11_canDo_65
          · have hf := zbn_some hf
            obtain ⟨g10, hf⟩ := zgd hf
            refine lv_ifnull hx hb dX11_canDo_57 ?_
            refine lv_iconst (v := 1) hx hb dX11_canDo_60 (by decide) ?_
            refine lv_goto (tgt := 65) hx hb dX11_canDo_61 (by decide) ?_
            exact zret_i X hP hS hf rfl dX11_canDo_65
        · exact hc_36 x3 s2 _ _ _ (lv_sub hl [3] rfl) hP hS hf
theorem dX11_doOne_0 : decode cX11_doOne 0 = .ok (.aload_n 0, 1) := by decide +kernel
theorem dX11_doOne_1 : decode cX11_doOne 1 = .ok (.getfield 12, 3) := by decide +kernel
theorem dX11_doOne_4 : decode cX11_doOne 4 = .ok (.iload_n 3, 1) := by decide +kernel
theorem dX11_doOne_5 : decode cX11_doOne 5 = .ok (.i2l, 1) := by decide +kernel
theorem dX11_doOne_6 : decode cX11_doOne 6 = .ok (.invokevirtual 155, 3) := by decide +kernel
theorem dX11_doOne_9 : decode cX11_doOne 9 = .ok (.astore 4, 2) := by decide +kernel
theorem dX11_doOne_11 : decode cX11_doOne 11 = .ok (.aload_n 0, 1) := by decide +kernel
theorem dX11_doOne_12 : decode cX11_doOne 12 = .ok (.getfield 28, 3) := by decide +kernel
theorem dX11_doOne_15 : decode cX11_doOne 15 = .ok (.aload_n 2, 1) := by decide +kernel
theorem dX11_doOne_16 : decode cX11_doOne 16 = .ok (.aload_n 0, 1) := by decide +kernel
theorem dX11_doOne_17 : decode cX11_doOne 17 = .ok (.getfield 28, 3) := by decide +kernel
theorem dX11_doOne_20 : decode cX11_doOne 20 = .ok (.getfield 188, 3) := by decide +kernel
theorem dX11_doOne_23 : decode cX11_doOne 23 = .ok (.invokevirtual 208, 3) := by decide +kernel
theorem dX11_doOne_26 : decode cX11_doOne 26 = .ok (.iload_n 1, 1) := by decide +kernel
theorem dX11_doOne_27 : decode cX11_doOne 27 = .ok (.iconst 3, 1) := by decide +kernel
theorem dX11_doOne_28 : decode cX11_doOne 28 = .ok (.if_icmp .ne 15, 3) := by decide +kernel
theorem dX11_doOne_31 : decode cX11_doOne 31 = .ok (.aload_n 0, 1) := by decide +kernel
theorem dX11_doOne_32 : decode cX11_doOne 32 = .ok (.getfield 28, 3) := by decide +kernel
theorem dX11_doOne_35 : decode cX11_doOne 35 = .ok (.aload_n 2, 1) := by decide +kernel
theorem dX11_doOne_36 : decode cX11_doOne 36 = .ok (.iload_n 3, 1) := by decide +kernel
theorem dX11_doOne_37 : decode cX11_doOne 37 = .ok (.invokevirtual 229, 3) := by decide +kernel
theorem dX11_doOne_40 : decode cX11_doOne 40 = .ok (.goto 101, 3) := by decide +kernel
theorem dX11_doOne_43 : decode cX11_doOne 43 = .ok (.iload_n 1, 1) := by decide +kernel
theorem dX11_doOne_44 : decode cX11_doOne 44 = .ok (.iconst 4, 1) := by decide +kernel
theorem dX11_doOne_45 : decode cX11_doOne 45 = .ok (.if_icmp .ne 21, 3) := by decide +kernel
theorem dX11_doOne_48 : decode cX11_doOne 48 = .ok (.aload_n 0, 1) := by decide +kernel
theorem dX11_doOne_49 : decode cX11_doOne 49 = .ok (.getfield 28, 3) := by decide +kernel
theorem dX11_doOne_52 : decode cX11_doOne 52 = .ok (.aload_n 0, 1) := by decide +kernel
theorem dX11_doOne_53 : decode cX11_doOne 53 = .ok (.getfield 28, 3) := by decide +kernel
theorem dX11_doOne_56 : decode cX11_doOne 56 = .ok (.getfield 188, 3) := by decide +kernel
theorem dX11_doOne_59 : decode cX11_doOne 59 = .ok (.iload_n 3, 1) := by decide +kernel
theorem dX11_doOne_60 : decode cX11_doOne 60 = .ok (.invokevirtual 283, 3) := by decide +kernel
theorem dX11_doOne_63 : decode cX11_doOne 63 = .ok (.goto 78, 3) := by decide +kernel
theorem dX11_doOne_66 : decode cX11_doOne 66 = .ok (.aload 4, 2) := by decide +kernel
theorem dX11_doOne_68 : decode cX11_doOne 68 = .ok (.ifnull 20, 3) := by decide +kernel
theorem dX11_doOne_71 : decode cX11_doOne 71 = .ok (.iload_n 1, 1) := by decide +kernel
theorem dX11_doOne_72 : decode cX11_doOne 72 = .ok (.iconst 1, 1) := by decide +kernel
theorem dX11_doOne_73 : decode cX11_doOne 73 = .ok (.if_icmp .ne 15, 3) := by decide +kernel
theorem dX11_doOne_76 : decode cX11_doOne 76 = .ok (.aload_n 0, 1) := by decide +kernel
theorem dX11_doOne_77 : decode cX11_doOne 77 = .ok (.getfield 28, 3) := by decide +kernel
theorem dX11_doOne_80 : decode cX11_doOne 80 = .ok (.aload 4, 2) := by decide +kernel
theorem dX11_doOne_82 : decode cX11_doOne 82 = .ok (.invokevirtual 216, 3) := by decide +kernel
theorem dX11_doOne_85 : decode cX11_doOne 85 = .ok (.goto 56, 3) := by decide +kernel
theorem dX11_doOne_88 : decode cX11_doOne 88 = .ok (.aload 4, 2) := by decide +kernel
theorem dX11_doOne_90 : decode cX11_doOne 90 = .ok (.ifnull 51, 3) := by decide +kernel
theorem dX11_doOne_93 : decode cX11_doOne 93 = .ok (.aload_n 0, 1) := by decide +kernel
theorem dX11_doOne_94 : decode cX11_doOne 94 = .ok (.getfield 28, 3) := by decide +kernel
theorem dX11_doOne_97 : decode cX11_doOne 97 = .ok (.aload 4, 2) := by decide +kernel
theorem dX11_doOne_99 : decode cX11_doOne 99 = .ok (.aload_n 0, 1) := by decide +kernel
theorem dX11_doOne_100 : decode cX11_doOne 100 = .ok (.getfield 28, 3) := by decide +kernel
theorem dX11_doOne_103 : decode cX11_doOne 103 = .ok (.getfield 233, 3) := by decide +kernel
theorem dX11_doOne_106 : decode cX11_doOne 106 = .ok (.invokevirtual 208, 3) := by decide +kernel
theorem dX11_doOne_109 : decode cX11_doOne 109 = .ok (.aload_n 0, 1) := by decide +kernel
theorem dX11_doOne_110 : decode cX11_doOne 110 = .ok (.getfield 28, 3) := by decide +kernel
theorem dX11_doOne_113 : decode cX11_doOne 113 = .ok (.aload_n 0, 1) := by decide +kernel
theorem dX11_doOne_114 : decode cX11_doOne 114 = .ok (.getfield 28, 3) := by decide +kernel
theorem dX11_doOne_117 : decode cX11_doOne 117 = .ok (.getfield 188, 3) := by decide +kernel
theorem dX11_doOne_120 : decode cX11_doOne 120 = .ok (.aload_n 0, 1) := by decide +kernel
theorem dX11_doOne_121 : decode cX11_doOne 121 = .ok (.getfield 28, 3) := by decide +kernel
theorem dX11_doOne_124 : decode cX11_doOne 124 = .ok (.getfield 233, 3) := by decide +kernel
theorem dX11_doOne_127 : decode cX11_doOne 127 = .ok (.iload_n 1, 1) := by decide +kernel
theorem dX11_doOne_128 : decode cX11_doOne 128 = .ok (.ifCond .ne 7, 3) := by decide +kernel
theorem dX11_doOne_131 : decode cX11_doOne 131 = .ok (.lconst 1, 1) := by decide +kernel
theorem dX11_doOne_132 : decode cX11_doOne 132 = .ok (.goto 6, 3) := by decide +kernel
theorem dX11_doOne_135 : decode cX11_doOne 135 = .ok (.ldc2_w 293, 3) := by decide +kernel
theorem dX11_doOne_138 : decode cX11_doOne 138 = .ok (.invokevirtual 359, 3) := by decide +kernel
theorem dX11_doOne_141 : decode cX11_doOne 141 = .ok (.aload_n 0, 1) := by decide +kernel
theorem dX11_doOne_142 : decode cX11_doOne 142 = .ok (.invokevirtual 195, 3) := by decide +kernel
theorem dX11_doOne_145 : decode cX11_doOne 145 = .ok (.return_, 1) := by decide +kernel
set_option maxHeartbeats 4000000 in
set_option maxRecDepth 100000 in
theorem cn_X11_doOne {l : Launch} {cA : Nat → ClassId} {ad : Nat → Nat} {D : va_G} {E : Nat → Nat} {A : Nat → Prop} {x1 : Int32} {k2 : Nat} {x3 : Int32} {s0 sr : SS} {rr : Unit} (hf : f_X11_doOne x1 k2 x3 s0 = some (rr, sr)) : zCon Ox Nx cA ad D E l yX11_doOne cX11_doOne 5 none 4 A [.ref (ad 0), .int x1, .ref (ad k2), .int x3] s0 none sr := by
  refine zstart (own := RX11) hOx (by decide) rfl (Nat.le_of_ble_eq_true rfl) ?_
  intro p e s m args below meth c X hP ls hl
  have hx := X.1
  have hb := X.2.1
  have hl : lv_has ls 5 [(0, .ref (ad 0)), (1, .int x1), (2, .ref (ad k2)), (3, .int x3)] := hl
  have hS : va_S A s.heap s.heap [] := va_S.rf
  have hc_141 : ∀  (s1 : SS) (H : Heap) (locs : List Loc) (ls : Array Slot), lv_has ls 5 [(0, .ref (ad 0))] → va_P D ZCL (zw Ox Nx cA ad s1) H → va_S A s.heap H locs → f_X11_doOne_c141  s1 = some (rr, sr) → W p l e (zrm 4) s m args below meth c H locs 0 0 (MQ below (zQc Ox Nx cA ad D A none sr) args s 0 0 A) (F0 m 141 ls []) := by
    intro  s1 H locs ls hl hP hS hf
    rw [f_X11_doOne_c141] at hf
    refine lv_aload_n hx hb dX11_doOne_141 rfl (lv_at hl 0 rfl) ?_
    obtain ⟨r9, s10, h11, hf⟩ := zbd_some hf
    refine zcallV X hP hS hl.1 (k := 0) (As := []) (rest := []) (cn_X11_bringAll h11) cw_X11_bringAll zp_11 rfl (by decide) rfl ml_X11_195 (by decide) rfl rfl (Nat.le_of_ble_eq_true rfl) dX11_doOne_142 (fun H locs hP hS => ?_)
    exact zret_v X hP hS hf dX11_doOne_145
  have hc_138 : ∀ (t0 : Int64) (s1 : SS) (H : Heap) (locs : List Loc) (ls : Array Slot), lv_has ls 5 [(0, .ref (ad 0))] → va_P D ZCL (zw Ox Nx cA ad s1) H → va_S A s.heap H locs → f_X11_doOne_c138 t0 s1 = some (rr, sr) → W p l e (zrm 4) s m args below meth c H locs 0 0 (MQ below (zQc Ox Nx cA ad D A none sr) args s 0 0 A) (F0 m 138 ls [.long t0, .ref (ad 22), .ref (ad 21), .ref (ad 5)]) := by
    intro t0 s1 H locs ls hl hP hS hf
    rw [f_X11_doOne_c138] at hf
    obtain ⟨r24, s25, h26, hf⟩ := zbd_some hf
    refine zcallV X hP hS hl.1 (k := 5) (As := [.ref (ad 21), .ref (ad 22), .long t0]) (rest := []) (cn_X8_addTimes h26) cw_X8_addTimes zp_8 rfl (by decide) rfl ml_X11_359 (by decide) rfl rfl (Nat.le_of_ble_eq_true rfl) dX11_doOne_138 (fun H locs hP hS => ?_)
    exact hc_141  s25 _ _ _ (lv_sub hl [0] rfl) hP hS hf
  have hc_88 : ∀ (x1 : Int32) (s1 : SS) (H : Heap) (locs : List Loc) (ls : Array Slot), lv_has ls 5 [(0, .ref (ad 0)), (1, .int x1), (4, .null)] → va_P D ZCL (zw Ox Nx cA ad s1) H → va_S A s.heap H locs → f_X11_doOne_c88 x1 s1 = some (rr, sr) → W p l e (zrm 4) s m args below meth c H locs 0 0 (MQ below (zQc Ox Nx cA ad D A none sr) args s 0 0 A) (F0 m 88 ls []) := by
    intro x1 s1 H locs ls hl hP hS hf
    rw [f_X11_doOne_c88] at hf
    refine lv_aloadN hx hb dX11_doOne_88 (lv_at hl 2 rfl) ?_
    refine lv_ifnullN (tgt := 141) hx hb dX11_doOne_90 (by decide) ?_
    exact hc_141  s1 _ _ _ (lv_sub hl [0] rfl) hP hS hf
  have hc_88v1 : ∀ (x1 : Int32) (k4 : Nat) (s1 : SS) (H : Heap) (locs : List Loc) (ls : Array Slot), lv_has ls 5 [(0, .ref (ad 0)), (1, .int x1), (4, .ref (ad k4))] → va_P D ZCL (zw Ox Nx cA ad s1) H → va_S A s.heap H locs → f_X11_doOne_c88v1 x1 k4 s1 = some (rr, sr) → W p l e (zrm 4) s m args below meth c H locs 0 0 (MQ below (zQc Ox Nx cA ad D A none sr) args s 0 0 A) (F0 m 88 ls []) := by
    intro x1 k4 s1 H locs ls hl hP hS hf
    rw [f_X11_doOne_c88v1] at hf
    obtain ⟨gp4, hf⟩ := zgd hf
    refine lv_aload hx hb dX11_doOne_88 (lv_at hl 2 rfl) ?_
    refine lv_ifnull hx hb dX11_doOne_90 ?_
    refine lv_aload_n hx hb dX11_doOne_93 rfl (lv_at hl 0 rfl) ?_
    refine gf_X11_28 X hP (k := 0) (q := 5) rfl dX11_doOne_94 rfl ?_
    refine lv_aload hx hb dX11_doOne_97 (lv_at hl 2 rfl) ?_
    refine lv_aload_n hx hb dX11_doOne_99 rfl (lv_at hl 0 rfl) ?_
    refine gf_X11_28 X hP (k := 0) (q := 5) rfl dX11_doOne_100 rfl ?_
    refine gf_X11_233 X hP (k := 5) (q := 22) rfl dX11_doOne_103 rfl ?_
    obtain ⟨r21, s22, h23, hf⟩ := zbd_some hf
    refine zcallV X hP hS hl.1 (k := 5) (As := [.ref (ad k4), .ref (ad 22)]) (rest := []) (cn_X8_takeNumbers h23) cw_X8_takeNumbers zp_8 rfl (by decide) rfl ml_X11_208 (by decide) rfl rfl (Nat.le_of_ble_eq_true rfl) dX11_doOne_106 (fun H locs hP hS => ?_)
    refine lv_aload_n hx hb dX11_doOne_109 rfl (lv_at hl 0 rfl) ?_
    refine gf_X11_28 X hP (k := 0) (q := 5) rfl dX11_doOne_110 rfl ?_
    refine lv_aload_n hx hb dX11_doOne_113 rfl (lv_at hl 0 rfl) ?_
    refine gf_X11_28 X hP (k := 0) (q := 5) rfl dX11_doOne_114 rfl ?_
    refine gf_X11_188 X hP (k := 5) (q := 21) rfl dX11_doOne_117 rfl ?_
    refine lv_aload_n hx hb dX11_doOne_120 rfl (lv_at hl 0 rfl) ?_
    refine gf_X11_28 X hP (k := 0) (q := 5) rfl dX11_doOne_121 rfl ?_
    refine gf_X11_233 X hP (k := 5) (q := 22) rfl dX11_doOne_124 rfl ?_
    refine lv_iload_n hx hb dX11_doOne_127 rfl (lv_at hl 1 rfl) ?_
    refine zif_ne (tgt := 135) hx hb dX11_doOne_128 (by decide) hf (fun hf => ?_) (fun hf => ?_)
    · refine zldc2 X co_X11_293 dX11_doOne_135 ?_
      exact hc_138 (-1) s22 _ _ _ (lv_sub hl [0] rfl) hP hS hf
    · refine lv_lconst (v := 1) hx hb dX11_doOne_131 (by decide) ?_
      refine lv_goto (tgt := 138) hx hb dX11_doOne_132 (by decide) ?_
      exact hc_138 1 s22 _ _ _ (lv_sub hl [0] rfl) hP hS hf
  rw [f_X11_doOne] at hf
  obtain ⟨gp2, hf⟩ := zgd hf
  refine lv_aload_n hx hb dX11_doOne_0 rfl (lv_at hl 0 rfl) ?_
  refine gf_X11_12 X hP (k := 0) (q := 1) rfl dX11_doOne_1 rfl ?_
  refine lv_iload_n hx hb dX11_doOne_4 rfl (lv_at hl 3 rfl) ?_
  refine lv_i2l hx hb dX11_doOne_5 rfl ?_
  obtain ⟨r1, s2, h3, hf⟩ := zbd_some hf
  refine zcallV X hP hS hl.1 (k := 1) (As := [.long (x3).toInt64]) (rest := []) (cn_X3_classAt h3) cw_X3_classAt zp_3 rfl (by decide) rfl ml_X11_155 (by decide) rfl rfl (Nat.le_of_ble_eq_true rfl) dX11_doOne_6 (fun H locs hP hS => ?_)
  rcases r1 with _ | k4
  · have hf := zbn_none hf
    refine lv_astoreN (lv' := [(4, .null), (0, .ref (ad 0)), (1, .int x1), (2, .ref (ad k2)), (3, .int x3)]) hx hb dX11_doOne_9 hl (by decide) rfl (fun ls hl => ?_)
    refine lv_aload_n hx hb dX11_doOne_11 rfl (lv_at hl 1 rfl) ?_
    refine gf_X11_28 X hP (k := 0) (q := 5) rfl dX11_doOne_12 rfl ?_
    refine lv_aload_n hx hb dX11_doOne_15 rfl (lv_at hl 3 rfl) ?_
    refine lv_aload_n hx hb dX11_doOne_16 rfl (lv_at hl 1 rfl) ?_
    refine gf_X11_28 X hP (k := 0) (q := 5) rfl dX11_doOne_17 rfl ?_
    refine gf_X11_188 X hP (k := 5) (q := 21) rfl dX11_doOne_20 rfl ?_
    obtain ⟨r6, s7, h8, hf⟩ := zbd_some hf
    refine zcallV X hP hS hl.1 (k := 5) (As := [.ref (ad k2), .ref (ad 21)]) (rest := []) (cn_X8_takeNumbers h8) cw_X8_takeNumbers zp_8 rfl (by decide) rfl ml_X11_208 (by decide) rfl rfl (Nat.le_of_ble_eq_true rfl) dX11_doOne_23 (fun H locs hP hS => ?_)
    refine lv_iload_n hx hb dX11_doOne_26 rfl (lv_at hl 2 rfl) ?_
    refine lv_iconst (v := 3) hx hb dX11_doOne_27 (by decide) ?_
    refine zicmp_ne (tgt := 43) hx hb dX11_doOne_28 (by decide) hf (fun hf => ?_) (fun hf => ?_)
    · refine lv_iload_n hx hb dX11_doOne_43 rfl (lv_at hl 2 rfl) ?_
      refine lv_iconst (v := 4) hx hb dX11_doOne_44 (by decide) ?_
      refine zicmp_ne (tgt := 66) hx hb dX11_doOne_45 (by decide) hf (fun hf => ?_) (fun hf => ?_)
      · refine lv_aloadN hx hb dX11_doOne_66 (lv_at hl 0 rfl) ?_
        refine lv_ifnullN (tgt := 88) hx hb dX11_doOne_68 (by decide) ?_
        exact hc_88 x1 s7 _ _ _ (lv_sub hl [1, 2, 0] rfl) hP hS hf
      · refine lv_aload_n hx hb dX11_doOne_48 rfl (lv_at hl 1 rfl) ?_
        refine gf_X11_28 X hP (k := 0) (q := 5) rfl dX11_doOne_49 rfl ?_
        refine lv_aload_n hx hb dX11_doOne_52 rfl (lv_at hl 1 rfl) ?_
        refine gf_X11_28 X hP (k := 0) (q := 5) rfl dX11_doOne_53 rfl ?_
        refine gf_X11_188 X hP (k := 5) (q := 21) rfl dX11_doOne_56 rfl ?_
        refine lv_iload_n hx hb dX11_doOne_59 rfl (lv_at hl 4 rfl) ?_
        obtain ⟨r12, s13, h14, hf⟩ := zbd_some hf
        refine zcallV X hP hS hl.1 (k := 5) (As := [.ref (ad 21), .int x3]) (rest := []) (cn_X8_keepSize h14) cw_X8_keepSize zp_8 rfl (by decide) rfl ml_X11_283 (by decide) rfl rfl (Nat.le_of_ble_eq_true rfl) dX11_doOne_60 (fun H locs hP hS => ?_)
        refine lv_goto (tgt := 141) hx hb dX11_doOne_63 (by decide) ?_
        exact hc_141  s13 _ _ _ (lv_sub hl [1] rfl) hP hS hf
    · refine lv_aload_n hx hb dX11_doOne_31 rfl (lv_at hl 1 rfl) ?_
      refine gf_X11_28 X hP (k := 0) (q := 5) rfl dX11_doOne_32 rfl ?_
      refine lv_aload_n hx hb dX11_doOne_35 rfl (lv_at hl 3 rfl) ?_
      refine lv_iload_n hx hb dX11_doOne_36 rfl (lv_at hl 4 rfl) ?_
      obtain ⟨r15, s16, h17, hf⟩ := zbd_some hf
      refine zcallV X hP hS hl.1 (k := 5) (As := [.ref (ad k2), .int x3]) (rest := []) (cn_X8_makePower h17) cw_X8_makePower zp_8 rfl (by decide) rfl ml_X11_229 (by decide) rfl rfl (Nat.le_of_ble_eq_true rfl) dX11_doOne_37 (fun H locs hP hS => ?_)
      refine lv_goto (tgt := 141) hx hb dX11_doOne_40 (by decide) ?_
      exact hc_141  s16 _ _ _ (lv_sub hl [1] rfl) hP hS hf
  · have hf := zbn_some hf
    obtain ⟨g5, hf⟩ := zgd hf
    refine lv_astore (lv' := [(4, .ref (ad k4)), (0, .ref (ad 0)), (1, .int x1), (2, .ref (ad k2)), (3, .int x3)]) hx hb dX11_doOne_9 hl (by decide) rfl (fun ls hl => ?_)
    refine lv_aload_n hx hb dX11_doOne_11 rfl (lv_at hl 1 rfl) ?_
    refine gf_X11_28 X hP (k := 0) (q := 5) rfl dX11_doOne_12 rfl ?_
    refine lv_aload_n hx hb dX11_doOne_15 rfl (lv_at hl 3 rfl) ?_
    refine lv_aload_n hx hb dX11_doOne_16 rfl (lv_at hl 1 rfl) ?_
    refine gf_X11_28 X hP (k := 0) (q := 5) rfl dX11_doOne_17 rfl ?_
    refine gf_X11_188 X hP (k := 5) (q := 21) rfl dX11_doOne_20 rfl ?_
    obtain ⟨r18, s19, h20, hf⟩ := zbd_some hf
    refine zcallV X hP hS hl.1 (k := 5) (As := [.ref (ad k2), .ref (ad 21)]) (rest := []) (cn_X8_takeNumbers h20) cw_X8_takeNumbers zp_8 rfl (by decide) rfl ml_X11_208 (by decide) rfl rfl (Nat.le_of_ble_eq_true rfl) dX11_doOne_23 (fun H locs hP hS => ?_)
    refine lv_iload_n hx hb dX11_doOne_26 rfl (lv_at hl 2 rfl) ?_
    refine lv_iconst (v := 3) hx hb dX11_doOne_27 (by decide) ?_
    refine zicmp_ne (tgt := 43) hx hb dX11_doOne_28 (by decide) hf (fun hf => ?_) (fun hf => ?_)
    · refine lv_iload_n hx hb dX11_doOne_43 rfl (lv_at hl 2 rfl) ?_
      refine lv_iconst (v := 4) hx hb dX11_doOne_44 (by decide) ?_
      refine zicmp_ne (tgt := 66) hx hb dX11_doOne_45 (by decide) hf (fun hf => ?_) (fun hf => ?_)
      · refine lv_aload hx hb dX11_doOne_66 (lv_at hl 0 rfl) ?_
        refine lv_ifnull hx hb dX11_doOne_68 ?_
        refine lv_iload_n hx hb dX11_doOne_71 rfl (lv_at hl 2 rfl) ?_
        refine lv_iconst (v := 1) hx hb dX11_doOne_72 (by decide) ?_
        refine zicmp_ne (tgt := 88) hx hb dX11_doOne_73 (by decide) hf (fun hf => ?_) (fun hf => ?_)
        · exact hc_88v1 x1 k4 s19 _ _ _ (lv_sub hl [1, 2, 0] rfl) hP hS hf
        · refine lv_aload_n hx hb dX11_doOne_76 rfl (lv_at hl 1 rfl) ?_
          refine gf_X11_28 X hP (k := 0) (q := 5) rfl dX11_doOne_77 rfl ?_
          refine lv_aload hx hb dX11_doOne_80 (lv_at hl 0 rfl) ?_
          obtain ⟨r27, s28, h29, hf⟩ := zbd_some hf
          refine zcallV X hP hS hl.1 (k := 5) (As := [.ref (ad k4)]) (rest := []) (cn_X8_multiplyBy h29) cw_X8_multiplyBy zp_8 rfl (by decide) rfl ml_X11_216 (by decide) rfl rfl (Nat.le_of_ble_eq_true rfl) dX11_doOne_82 (fun H locs hP hS => ?_)
          refine lv_goto (tgt := 141) hx hb dX11_doOne_85 (by decide) ?_
          exact hc_141  s28 _ _ _ (lv_sub hl [1] rfl) hP hS hf
      · refine lv_aload_n hx hb dX11_doOne_48 rfl (lv_at hl 1 rfl) ?_
        refine gf_X11_28 X hP (k := 0) (q := 5) rfl dX11_doOne_49 rfl ?_
        refine lv_aload_n hx hb dX11_doOne_52 rfl (lv_at hl 1 rfl) ?_
        refine gf_X11_28 X hP (k := 0) (q := 5) rfl dX11_doOne_53 rfl ?_
        refine gf_X11_188 X hP (k := 5) (q := 21) rfl dX11_doOne_56 rfl ?_
        refine lv_iload_n hx hb dX11_doOne_59 rfl (lv_at hl 4 rfl) ?_
        obtain ⟨r30, s31, h32, hf⟩ := zbd_some hf
        refine zcallV X hP hS hl.1 (k := 5) (As := [.ref (ad 21), .int x3]) (rest := []) (cn_X8_keepSize h32) cw_X8_keepSize zp_8 rfl (by decide) rfl ml_X11_283 (by decide) rfl rfl (Nat.le_of_ble_eq_true rfl) dX11_doOne_60 (fun H locs hP hS => ?_)
        refine lv_goto (tgt := 141) hx hb dX11_doOne_63 (by decide) ?_
        exact hc_141  s31 _ _ _ (lv_sub hl [1] rfl) hP hS hf
    · refine lv_aload_n hx hb dX11_doOne_31 rfl (lv_at hl 1 rfl) ?_
      refine gf_X11_28 X hP (k := 0) (q := 5) rfl dX11_doOne_32 rfl ?_
      refine lv_aload_n hx hb dX11_doOne_35 rfl (lv_at hl 3 rfl) ?_
      refine lv_iload_n hx hb dX11_doOne_36 rfl (lv_at hl 4 rfl) ?_
      obtain ⟨r33, s34, h35, hf⟩ := zbd_some hf
      refine zcallV X hP hS hl.1 (k := 5) (As := [.ref (ad k2), .int x3]) (rest := []) (cn_X8_makePower h35) cw_X8_makePower zp_8 rfl (by decide) rfl ml_X11_229 (by decide) rfl rfl (Nat.le_of_ble_eq_true rfl) dX11_doOne_37 (fun H locs hP hS => ?_)
      refine lv_goto (tgt := 141) hx hb dX11_doOne_40 (by decide) ?_
      exact hc_141  s34 _ _ _ (lv_sub hl [1] rfl) hP hS hf
theorem dX11_write_0 : decode cX11_write 0 = .ok (.aload_n 0, 1) := by decide +kernel
theorem dX11_write_1 : decode cX11_write 1 = .ok (.getfield 12, 3) := by decide +kernel
theorem dX11_write_4 : decode cX11_write 4 = .ok (.iload_n 1, 1) := by decide +kernel
theorem dX11_write_5 : decode cX11_write 5 = .ok (.i2l, 1) := by decide +kernel
theorem dX11_write_6 : decode cX11_write 6 = .ok (.invokevirtual 155, 3) := by decide +kernel
theorem dX11_write_9 : decode cX11_write 9 = .ok (.astore_n 2, 1) := by decide +kernel
theorem dX11_write_10 : decode cX11_write 10 = .ok (.aload_n 2, 1) := by decide +kernel
theorem dX11_write_11 : decode cX11_write 11 = .ok (.ifnonnull 5, 3) := by decide +kernel
theorem dX11_write_14 : decode cX11_write 14 = .ok (.iconst (-1), 1) := by decide +kernel
theorem dX11_write_15 : decode cX11_write 15 = .ok (.ireturn, 1) := by decide +kernel
theorem dX11_write_16 : decode cX11_write 16 = .ok (.aload_n 0, 1) := by decide +kernel
theorem dX11_write_17 : decode cX11_write 17 = .ok (.getfield 28, 3) := by decide +kernel
theorem dX11_write_20 : decode cX11_write 20 = .ok (.aload_n 2, 1) := by decide +kernel
theorem dX11_write_21 : decode cX11_write 21 = .ok (.aload_n 0, 1) := by decide +kernel
theorem dX11_write_22 : decode cX11_write 22 = .ok (.getfield 28, 3) := by decide +kernel
theorem dX11_write_25 : decode cX11_write 25 = .ok (.getfield 188, 3) := by decide +kernel
theorem dX11_write_28 : decode cX11_write 28 = .ok (.invokevirtual 208, 3) := by decide +kernel
theorem dX11_write_31 : decode cX11_write 31 = .ok (.aload_n 0, 1) := by decide +kernel
theorem dX11_write_32 : decode cX11_write 32 = .ok (.getfield 56, 3) := by decide +kernel
theorem dX11_write_35 : decode cX11_write 35 = .ok (.iconst 0, 1) := by decide +kernel
theorem dX11_write_36 : decode cX11_write 36 = .ok (.putfield 363, 3) := by decide +kernel
theorem dX11_write_39 : decode cX11_write 39 = .ok (.iconst 0, 1) := by decide +kernel
theorem dX11_write_40 : decode cX11_write 40 = .ok (.istore_n 3, 1) := by decide +kernel
theorem dX11_write_41 : decode cX11_write 41 = .ok (.iload_n 3, 1) := by decide +kernel
theorem dX11_write_42 : decode cX11_write 42 = .ok (.aload_n 0, 1) := by decide +kernel
theorem dX11_write_43 : decode cX11_write 43 = .ok (.getfield 28, 3) := by decide +kernel
theorem dX11_write_46 : decode cX11_write 46 = .ok (.getfield 84, 3) := by decide +kernel
theorem dX11_write_49 : decode cX11_write 49 = .ok (.getfield 125, 3) := by decide +kernel
theorem dX11_write_52 : decode cX11_write 52 = .ok (.if_icmp .ge 58, 3) := by decide +kernel
theorem dX11_write_55 : decode cX11_write 55 = .ok (.aload_n 0, 1) := by decide +kernel
theorem dX11_write_56 : decode cX11_write 56 = .ok (.getfield 28, 3) := by decide +kernel
theorem dX11_write_59 : decode cX11_write 59 = .ok (.getfield 188, 3) := by decide +kernel
theorem dX11_write_62 : decode cX11_write 62 = .ok (.iload_n 3, 1) := by decide +kernel
theorem dX11_write_63 : decode cX11_write 63 = .ok (.laload, 1) := by decide +kernel
theorem dX11_write_64 : decode cX11_write 64 = .ok (.lconst 0, 1) := by decide +kernel
theorem dX11_write_65 : decode cX11_write 65 = .ok (.lcmp, 1) := by decide +kernel
theorem dX11_write_66 : decode cX11_write 66 = .ok (.ifCond .eq 38, 3) := by decide +kernel
theorem dX11_write_69 : decode cX11_write 69 = .ok (.aload_n 0, 1) := by decide +kernel
theorem dX11_write_70 : decode cX11_write 70 = .ok (.getfield 56, 3) := by decide +kernel
theorem dX11_write_73 : decode cX11_write 73 = .ok (.aload_n 0, 1) := by decide +kernel
theorem dX11_write_74 : decode cX11_write 74 = .ok (.getfield 12, 3) := by decide +kernel
theorem dX11_write_77 : decode cX11_write 77 = .ok (.getfield 74, 3) := by decide +kernel
theorem dX11_write_80 : decode cX11_write 80 = .ok (.aload_n 0, 1) := by decide +kernel
theorem dX11_write_81 : decode cX11_write 81 = .ok (.getfield 28, 3) := by decide +kernel
theorem dX11_write_84 : decode cX11_write 84 = .ok (.getfield 84, 3) := by decide +kernel
theorem dX11_write_87 : decode cX11_write 87 = .ok (.getfield 138, 3) := by decide +kernel
theorem dX11_write_90 : decode cX11_write 90 = .ok (.iload_n 3, 1) := by decide +kernel
theorem dX11_write_91 : decode cX11_write 91 = .ok (.iaload, 1) := by decide +kernel
theorem dX11_write_92 : decode cX11_write 92 = .ok (.aload_n 0, 1) := by decide +kernel
theorem dX11_write_93 : decode cX11_write 93 = .ok (.getfield 28, 3) := by decide +kernel
theorem dX11_write_96 : decode cX11_write 96 = .ok (.getfield 188, 3) := by decide +kernel
theorem dX11_write_99 : decode cX11_write 99 = .ok (.iload_n 3, 1) := by decide +kernel
theorem dX11_write_100 : decode cX11_write 100 = .ok (.laload, 1) := by decide +kernel
theorem dX11_write_101 : decode cX11_write 101 = .ok (.invokevirtual 364, 3) := by decide +kernel
theorem dX11_write_104 : decode cX11_write 104 = .ok (.iinc 3 1, 3) := by decide +kernel
theorem dX11_write_107 : decode cX11_write 107 = .ok (.goto (-66), 3) := by decide +kernel
theorem dX11_write_110 : decode cX11_write 110 = .ok (.aload_n 0, 1) := by decide +kernel
theorem dX11_write_111 : decode cX11_write 111 = .ok (.getfield 56, 3) := by decide +kernel
theorem dX11_write_114 : decode cX11_write 114 = .ok (.getfield 363, 3) := by decide +kernel
theorem dX11_write_117 : decode cX11_write 117 = .ok (.ifCond .ne 12, 3) := by decide +kernel
theorem dX11_write_120 : decode cX11_write 120 = .ok (.aload_n 0, 1) := by decide +kernel
theorem dX11_write_121 : decode cX11_write 121 = .ok (.getfield 56, 3) := by decide +kernel
theorem dX11_write_124 : decode cX11_write 124 = .ok (.bipush 48, 2) := by decide +kernel
theorem dX11_write_126 : decode cX11_write 126 = .ok (.invokevirtual 368, 3) := by decide +kernel
theorem dX11_write_129 : decode cX11_write 129 = .ok (.aload_n 0, 1) := by decide +kernel
theorem dX11_write_130 : decode cX11_write 130 = .ok (.getfield 56, 3) := by decide +kernel
theorem dX11_write_133 : decode cX11_write 133 = .ok (.getfield 363, 3) := by decide +kernel
theorem dX11_write_136 : decode cX11_write 136 = .ok (.ireturn, 1) := by decide +kernel
set_option maxHeartbeats 4000000 in
set_option maxRecDepth 100000 in
theorem cn_X11_write {l : Launch} {cA : Nat → ClassId} {ad : Nat → Nat} {D : va_G} {E : Nat → Nat} {A : Nat → Prop} {x1 : Int32} {s0 sr : SS} {rr : Int32} (hf : f_X11_write x1 s0 = some (rr, sr)) : zCon Ox Nx cA ad D E l yX11_write cX11_write 4 (some .int) 3 A [.ref (ad 0), .int x1] s0 (some (.int rr)) sr := by
  refine zstart (own := RX11) hOx (by decide) rfl (Nat.le_of_ble_eq_true rfl) ?_
  intro p e s m args below meth c X hP ls hl
  have hx := X.1
  have hb := X.2.1
  have hl : lv_has ls 4 [(0, .ref (ad 0)), (1, .int x1)] := hl
  have hS : va_S A s.heap s.heap [] := va_S.rf
  have hc_41 : ∀ (n41 : Nat) (x3 : Int32) (s1 : SS) (H : Heap) (locs : List Loc) (ls : Array Slot), lv_has ls 4 [(0, .ref (ad 0)), (3, .int x3)] → va_P D ZCL (zw Ox Nx cA ad s1) H → va_S A s.heap H locs → f_X11_write_c41 n41 x3 s1 = some (rr, sr) → W p l e (zrm 3) s m args below meth c H locs 0 0 (MQ below (zQc Ox Nx cA ad D A (some (.int rr)) sr) args s 0 0 A) (F0 m 41 ls []) := by
    intro n41
    induction n41 with
    | zero =>
      intro x3 s1 H locs ls hl hP hS hf
      rw [f_X11_write_c41] at hf
      cases hf
    | succ n41 ih41 =>
      have hc_104 : ∀ (x3 : Int32) (s1 : SS) (H : Heap) (locs : List Loc) (ls : Array Slot), lv_has ls 4 [(0, .ref (ad 0)), (3, .int x3)] → va_P D ZCL (zw Ox Nx cA ad s1) H → va_S A s.heap H locs → f_X11_write_c104 (f_X11_write_c41 n41) x3 s1 = some (rr, sr) → W p l e (zrm 3) s m args below meth c H locs 0 0 (MQ below (zQc Ox Nx cA ad D A (some (.int rr)) sr) args s 0 0 A) (F0 m 104 ls []) := by
        intro x3 s1 H locs ls hl hP hS hf
        rw [f_X11_write_c104] at hf
        refine lv_iinc (v := (x3 + 1)) (lv' := [(3, .int (x3 + 1)), (0, .ref (ad 0))]) hx hb dX11_write_104 hl (k := 1) rfl rfl (by decide) rfl (fun ls hl => ?_)
        refine lv_goto (tgt := 41) hx hb dX11_write_107 (by decide) ?_
        exact ih41 (x3 + 1) s1 _ _ _ (lv_sub hl [1, 0] rfl) hP hS hf
      intro x3 s1 H locs ls hl hP hS hf
      rw [f_X11_write_c41] at hf
      refine lv_iload_n hx hb dX11_write_41 rfl (lv_at hl 1 rfl) ?_
      refine lv_aload_n hx hb dX11_write_42 rfl (lv_at hl 0 rfl) ?_
      refine gf_X11_28 X hP (k := 0) (q := 5) rfl dX11_write_43 rfl ?_
      refine gf_X11_84 X hP (k := 5) (q := 6) rfl dX11_write_46 rfl ?_
      refine gf_X11_125 X hP (k := 6) rfl dX11_write_49 ?_
      refine zicmp_ge (tgt := 110) hx hb dX11_write_52 (by decide) hf (fun hf => ?_) (fun hf => ?_)
      · refine lv_aload_n hx hb dX11_write_110 rfl (lv_at hl 0 rfl) ?_
        refine gf_X11_56 X hP (k := 0) (q := 10) rfl dX11_write_111 rfl ?_
        refine gf_X11_363 X hP (k := 10) rfl dX11_write_114 ?_
        refine zif_ne (tgt := 129) hx hb dX11_write_117 (by decide) hf (fun hf => ?_) (fun hf => ?_)
        · refine lv_aload_n hx hb dX11_write_129 rfl (lv_at hl 0 rfl) ?_
          refine gf_X11_56 X hP (k := 0) (q := 10) rfl dX11_write_130 rfl ?_
          refine gf_X11_363 X hP (k := 10) rfl dX11_write_133 ?_
          exact zret_i X hP hS hf rfl dX11_write_136
        · refine lv_aload_n hx hb dX11_write_120 rfl (lv_at hl 0 rfl) ?_
          refine gf_X11_56 X hP (k := 0) (q := 10) rfl dX11_write_121 rfl ?_
          refine lv_bipush (v := 48) hx hb dX11_write_124 (by decide) ?_
          obtain ⟨r9, s10, h11, hf⟩ := zbd_some hf
          refine zcallV X hP hS hl.1 (k := 10) (As := [.int 48]) (rest := []) (cn_X6_add h11) cw_X6_add zp_6 rfl (by decide) rfl ml_X11_368 (by decide) rfl rfl (Nat.le_of_ble_eq_true rfl) dX11_write_126 (fun H locs hP hS => ?_)
          refine lv_aload_n hx hb dX11_write_129 rfl (lv_at hl 0 rfl) ?_
          refine gf_X11_56 X hP (k := 0) (q := 10) rfl dX11_write_130 rfl ?_
          refine gf_X11_363 X hP (k := 10) rfl dX11_write_133 ?_
          exact zret_i X hP hS hf rfl dX11_write_136
      · refine lv_aload_n hx hb dX11_write_55 rfl (lv_at hl 0 rfl) ?_
        refine gf_X11_28 X hP (k := 0) (q := 5) rfl dX11_write_56 rfl ?_
        refine gf_X11_188 X hP (k := 5) (q := 21) rfl dX11_write_59 rfl ?_
        refine lv_iload_n hx hb dX11_write_62 rfl (lv_at hl 1 rfl) ?_
        obtain ⟨g12, hf⟩ := zgd hf
        refine zald_l X hP (k := 21) (n := 462) (rs := []) rfl g12 dX11_write_63 ?_
        refine lv_lconst (v := 0) hx hb dX11_write_64 (by decide) ?_
        refine W.lcmp hx hb dX11_write_65 ?_
        refine zif_eq (tgt := 104) hx hb dX11_write_66 (by decide) hf (fun hf => ?_) (fun hf => ?_)
        · exact hc_104 x3 s1 _ _ _ (lv_sub hl [0, 1] rfl) hP hS hf
        · refine lv_aload_n hx hb dX11_write_69 rfl (lv_at hl 0 rfl) ?_
          refine gf_X11_56 X hP (k := 0) (q := 10) rfl dX11_write_70 rfl ?_
          refine lv_aload_n hx hb dX11_write_73 rfl (lv_at hl 0 rfl) ?_
          refine gf_X11_12 X hP (k := 0) (q := 1) rfl dX11_write_74 rfl ?_
          refine gf_X11_74 X hP (k := 1) (q := 3) rfl dX11_write_77 rfl ?_
          refine lv_aload_n hx hb dX11_write_80 rfl (lv_at hl 0 rfl) ?_
          refine gf_X11_28 X hP (k := 0) (q := 5) rfl dX11_write_81 rfl ?_
          refine gf_X11_84 X hP (k := 5) (q := 6) rfl dX11_write_84 rfl ?_
          refine gf_X11_138 X hP (k := 6) (q := 62) rfl dX11_write_87 rfl ?_
          refine lv_iload_n hx hb dX11_write_90 rfl (lv_at hl 1 rfl) ?_
          obtain ⟨g13, hf⟩ := zgd hf
          refine zald_i X hP (k := 62) (n := 462) (rs := []) rfl g13 dX11_write_91 ?_
          refine lv_aload_n hx hb dX11_write_92 rfl (lv_at hl 0 rfl) ?_
          refine gf_X11_28 X hP (k := 0) (q := 5) rfl dX11_write_93 rfl ?_
          refine gf_X11_188 X hP (k := 5) (q := 21) rfl dX11_write_96 rfl ?_
          refine lv_iload_n hx hb dX11_write_99 rfl (lv_at hl 1 rfl) ?_
          obtain ⟨g14, hf⟩ := zgd hf
          refine zald_l X hP (k := 21) (n := 462) (rs := []) rfl g14 dX11_write_100 ?_
          obtain ⟨r15, s16, h17, hf⟩ := zbd_some hf
          refine zcallV X hP hS hl.1 (k := 10) (As := [.ref (ad 3), .int (s1.1 62 (x3).toNatClampNeg), .long (s1.2 21 (x3).toNatClampNeg)]) (rest := []) (cn_X6_addMember h17) cw_X6_addMember zp_6 rfl (by decide) rfl ml_X11_364 (by decide) rfl rfl (Nat.le_of_ble_eq_true rfl) dX11_write_101 (fun H locs hP hS => ?_)
          exact hc_104 x3 s16 _ _ _ (lv_sub hl [0, 1] rfl) hP hS hf
  rw [f_X11_write] at hf
  refine lv_aload_n hx hb dX11_write_0 rfl (lv_at hl 0 rfl) ?_
  refine gf_X11_12 X hP (k := 0) (q := 1) rfl dX11_write_1 rfl ?_
  refine lv_iload_n hx hb dX11_write_4 rfl (lv_at hl 1 rfl) ?_
  refine lv_i2l hx hb dX11_write_5 rfl ?_
  obtain ⟨r1, s2, h3, hf⟩ := zbd_some hf
  refine zcallV X hP hS hl.1 (k := 1) (As := [.long (x1).toInt64]) (rest := []) (cn_X3_classAt h3) cw_X3_classAt zp_3 rfl (by decide) rfl ml_X11_155 (by decide) rfl rfl (Nat.le_of_ble_eq_true rfl) dX11_write_6 (fun H locs hP hS => ?_)
  rcases r1 with _ | k4
  · have hf := zbn_none hf
    refine lv_astore_nN (lv' := [(2, .null), (0, .ref (ad 0)), (1, .int x1)]) hx hb dX11_write_9 rfl hl (by decide) rfl (fun ls hl => ?_)
    refine lv_aload_nN hx hb dX11_write_10 rfl (lv_at hl 0 rfl) ?_
    refine lv_ifnonnullN hx hb dX11_write_11 ?_
    refine lv_iconst (v := (-1)) hx hb dX11_write_14 (by decide) ?_
    exact zret_i X hP hS hf rfl dX11_write_15
  · have hf := zbn_some hf
    obtain ⟨g5, hf⟩ := zgd hf
    refine lv_astore_n (lv' := [(2, .ref (ad k4)), (0, .ref (ad 0)), (1, .int x1)]) hx hb dX11_write_9 rfl hl (by decide) rfl (fun ls hl => ?_)
    refine lv_aload_n hx hb dX11_write_10 rfl (lv_at hl 0 rfl) ?_
    refine lv_ifnonnull (tgt := 16) hx hb dX11_write_11 (by decide) ?_
    refine lv_aload_n hx hb dX11_write_16 rfl (lv_at hl 1 rfl) ?_
    refine gf_X11_28 X hP (k := 0) (q := 5) rfl dX11_write_17 rfl ?_
    refine lv_aload_n hx hb dX11_write_20 rfl (lv_at hl 0 rfl) ?_
    refine lv_aload_n hx hb dX11_write_21 rfl (lv_at hl 1 rfl) ?_
    refine gf_X11_28 X hP (k := 0) (q := 5) rfl dX11_write_22 rfl ?_
    refine gf_X11_188 X hP (k := 5) (q := 21) rfl dX11_write_25 rfl ?_
    obtain ⟨r6, s7, h8, hf⟩ := zbd_some hf
    refine zcallV X hP hS hl.1 (k := 5) (As := [.ref (ad k4), .ref (ad 21)]) (rest := []) (cn_X8_takeNumbers h8) cw_X8_takeNumbers zp_8 rfl (by decide) rfl ml_X11_208 (by decide) rfl rfl (Nat.le_of_ble_eq_true rfl) dX11_write_28 (fun H locs hP hS => ?_)
    refine lv_aload_n hx hb dX11_write_31 rfl (lv_at hl 1 rfl) ?_
    refine gf_X11_56 X hP (k := 0) (q := 10) rfl dX11_write_32 rfl ?_
    refine lv_iconst (v := 0) hx hb dX11_write_35 (by decide) ?_
    refine pf_X11_363 X hP hS (k := 10) rfl dX11_write_36 (fun H locs hP hS => ?_)
    refine lv_iconst (v := 0) hx hb dX11_write_39 (by decide) ?_
    refine lv_istore_n (lv' := [(3, .int 0), (2, .ref (ad k4)), (0, .ref (ad 0)), (1, .int x1)]) hx hb dX11_write_40 rfl hl (by decide) rfl (fun ls hl => ?_)
    exact hc_41 ZF 0 (zS s7 10 1 0) _ _ _ (lv_sub hl [2, 0] rfl) hP hS hf
theorem dX11_paper_0 : decode cX11_paper 0 = .ok (.iload_n 1, 1) := by decide +kernel
theorem dX11_paper_1 : decode cX11_paper 1 = .ok (.ifCond .lt 14, 3) := by decide +kernel
theorem dX11_paper_4 : decode cX11_paper 4 = .ok (.iload_n 1, 1) := by decide +kernel
theorem dX11_paper_5 : decode cX11_paper 5 = .ok (.aload_n 0, 1) := by decide +kernel
theorem dX11_paper_6 : decode cX11_paper 6 = .ok (.getfield 56, 3) := by decide +kernel
theorem dX11_paper_9 : decode cX11_paper 9 = .ok (.invokevirtual 371, 3) := by decide +kernel
theorem dX11_paper_12 : decode cX11_paper 12 = .ok (.if_icmp .lt 8, 3) := by decide +kernel
theorem dX11_paper_15 : decode cX11_paper 15 = .ok (.bipush (-2), 2) := by decide +kernel
theorem dX11_paper_17 : decode cX11_paper 17 = .ok (.goto 12, 3) := by decide +kernel
theorem dX11_paper_20 : decode cX11_paper 20 = .ok (.aload_n 0, 1) := by decide +kernel
theorem dX11_paper_21 : decode cX11_paper 21 = .ok (.getfield 56, 3) := by decide +kernel
theorem dX11_paper_24 : decode cX11_paper 24 = .ok (.getfield 373, 3) := by decide +kernel
theorem dX11_paper_27 : decode cX11_paper 27 = .ok (.iload_n 1, 1) := by decide +kernel
theorem dX11_paper_28 : decode cX11_paper 28 = .ok (.caload, 1) := by decide +kernel
theorem dX11_paper_29 : decode cX11_paper 29 = .ok (.ireturn, 1) := by decide +kernel
set_option maxHeartbeats 4000000 in
set_option maxRecDepth 100000 in
theorem cn_X11_paper {l : Launch} {cA : Nat → ClassId} {ad : Nat → Nat} {D : va_G} {E : Nat → Nat} {A : Nat → Prop} {x1 : Int32} {s0 sr : SS} {rr : Int32} (hf : f_X11_paper x1 s0 = some (rr, sr)) : zCon Ox Nx cA ad D E l yX11_paper cX11_paper 2 (some .int) 2 A [.ref (ad 0), .int x1] s0 (some (.int rr)) sr := by
  refine zstart (own := RX11) hOx (by decide) rfl (Nat.le_of_ble_eq_true rfl) ?_
  intro p e s m args below meth c X hP ls hl
  have hx := X.1
  have hb := X.2.1
  have hl : lv_has ls 2 [(0, .ref (ad 0)), (1, .int x1)] := hl
  have hS : va_S A s.heap s.heap [] := va_S.rf
  rw [f_X11_paper] at hf
  refine lv_iload_n hx hb dX11_paper_0 rfl (lv_at hl 1 rfl) ?_
  refine zif_lt (tgt := 15) hx hb dX11_paper_1 (by decide) hf (fun hf => ?_) (fun hf => ?_)
  · refine lv_bipush (v := (-2)) hx hb dX11_paper_15 (by decide) ?_
    refine lv_goto (tgt := 29) hx hb dX11_paper_17 (by decide) ?_
    exact zret_i X hP hS hf rfl dX11_paper_29
  · refine lv_iload_n hx hb dX11_paper_4 rfl (lv_at hl 1 rfl) ?_
    refine lv_aload_n hx hb dX11_paper_5 rfl (lv_at hl 0 rfl) ?_
    refine gf_X11_56 X hP (k := 0) (q := 10) rfl dX11_paper_6 rfl ?_
    obtain ⟨r1, s2, h3, hf⟩ := zbd_some hf
    refine zcallV X hP hS hl.1 (k := 10) (As := []) (rest := [.int x1]) (cn_X6_kept h3) cw_X6_kept zp_6 rfl (by decide) rfl ml_X11_371 (by decide) rfl rfl (Nat.le_of_ble_eq_true rfl) dX11_paper_9 (fun H locs hP hS => ?_)
    refine zicmp_lt (tgt := 20) hx hb dX11_paper_12 (by decide) hf (fun hf => ?_) (fun hf => ?_)
    · refine lv_aload_n hx hb dX11_paper_20 rfl (lv_at hl 0 rfl) ?_
      refine gf_X11_56 X hP (k := 0) (q := 10) rfl dX11_paper_21 rfl ?_
      refine gf_X11_373 X hP (k := 10) (q := 80) rfl dX11_paper_24 rfl ?_
      refine lv_iload_n hx hb dX11_paper_27 rfl (lv_at hl 1 rfl) ?_
      obtain ⟨g4, hf⟩ := zgd hf
      refine zald_c X hP (k := 80) (n := 200) (rs := []) rfl g4 dX11_paper_28 ?_
      exact zret_i X hP hS hf rfl dX11_paper_29
    · refine lv_bipush (v := (-2)) hx hb dX11_paper_15 (by decide) ?_
      refine lv_goto (tgt := 29) hx hb dX11_paper_17 (by decide) ?_
      exact zret_i X hP hS hf rfl dX11_paper_29
theorem dX11_list_0 : decode cX11_list 0 = .ok (.aload_n 0, 1) := by decide +kernel
theorem dX11_list_1 : decode cX11_list 1 = .ok (.getfield 63, 3) := by decide +kernel
theorem dX11_list_4 : decode cX11_list 4 = .ok (.iload_n 1, 1) := by decide +kernel
theorem dX11_list_5 : decode cX11_list 5 = .ok (.invokevirtual 320, 3) := by decide +kernel
theorem dX11_list_8 : decode cX11_list 8 = .ok (.ifCond .eq 13, 3) := by decide +kernel
theorem dX11_list_11 : decode cX11_list 11 = .ok (.iload_n 2, 1) := by decide +kernel
theorem dX11_list_12 : decode cX11_list 12 = .ok (.iconst (-1), 1) := by decide +kernel
theorem dX11_list_13 : decode cX11_list 13 = .ok (.if_icmp .lt 8, 3) := by decide +kernel
theorem dX11_list_16 : decode cX11_list 16 = .ok (.iload_n 2, 1) := by decide +kernel
theorem dX11_list_17 : decode cX11_list 17 = .ok (.iconst 1, 1) := by decide +kernel
theorem dX11_list_18 : decode cX11_list 18 = .ok (.if_icmp .le 5, 3) := by decide +kernel
theorem dX11_list_21 : decode cX11_list 21 = .ok (.iconst (-1), 1) := by decide +kernel
theorem dX11_list_22 : decode cX11_list 22 = .ok (.ireturn, 1) := by decide +kernel
theorem dX11_list_23 : decode cX11_list 23 = .ok (.iload_n 2, 1) := by decide +kernel
theorem dX11_list_24 : decode cX11_list 24 = .ok (.iconst (-1), 1) := by decide +kernel
theorem dX11_list_25 : decode cX11_list 25 = .ok (.if_icmp .eq 11, 3) := by decide +kernel
theorem dX11_list_28 : decode cX11_list 28 = .ok (.iload_n 3, 1) := by decide +kernel
theorem dX11_list_29 : decode cX11_list 29 = .ok (.bipush 20, 2) := by decide +kernel
theorem dX11_list_31 : decode cX11_list 31 = .ok (.if_icmp .le 5, 3) := by decide +kernel
theorem dX11_list_34 : decode cX11_list 34 = .ok (.iconst (-1), 1) := by decide +kernel
theorem dX11_list_35 : decode cX11_list 35 = .ok (.ireturn, 1) := by decide +kernel
theorem dX11_list_36 : decode cX11_list 36 = .ok (.iload_n 2, 1) := by decide +kernel
theorem dX11_list_37 : decode cX11_list 37 = .ok (.iconst (-1), 1) := by decide +kernel
theorem dX11_list_38 : decode cX11_list 38 = .ok (.if_icmp .eq 10, 3) := by decide +kernel
theorem dX11_list_41 : decode cX11_list 41 = .ok (.iload_n 3, 1) := by decide +kernel
theorem dX11_list_42 : decode cX11_list 42 = .ok (.ifCond .ge 6, 3) := by decide +kernel
theorem dX11_list_45 : decode cX11_list 45 = .ok (.bipush (-14), 2) := by decide +kernel
theorem dX11_list_47 : decode cX11_list 47 = .ok (.ireturn, 1) := by decide +kernel
theorem dX11_list_48 : decode cX11_list 48 = .ok (.aload_n 0, 1) := by decide +kernel
theorem dX11_list_49 : decode cX11_list 49 = .ok (.getfield 63, 3) := by decide +kernel
theorem dX11_list_52 : decode cX11_list 52 = .ok (.iload_n 1, 1) := by decide +kernel
theorem dX11_list_53 : decode cX11_list 53 = .ok (.iload_n 2, 1) := by decide +kernel
theorem dX11_list_54 : decode cX11_list 54 = .ok (.iload_n 2, 1) := by decide +kernel
theorem dX11_list_55 : decode cX11_list 55 = .ok (.iconst (-1), 1) := by decide +kernel
theorem dX11_list_56 : decode cX11_list 56 = .ok (.if_icmp .ne 7, 3) := by decide +kernel
theorem dX11_list_59 : decode cX11_list 59 = .ok (.iconst 0, 1) := by decide +kernel
theorem dX11_list_60 : decode cX11_list 60 = .ok (.goto 4, 3) := by decide +kernel
theorem dX11_list_63 : decode cX11_list 63 = .ok (.iload_n 3, 1) := by decide +kernel
theorem dX11_list_64 : decode cX11_list 64 = .ok (.invokevirtual 377, 3) := by decide +kernel
theorem dX11_list_67 : decode cX11_list 67 = .ok (.iconst 1, 1) := by decide +kernel
theorem dX11_list_68 : decode cX11_list 68 = .ok (.ireturn, 1) := by decide +kernel
set_option maxHeartbeats 4000000 in
set_option maxRecDepth 100000 in
theorem cn_X11_list {l : Launch} {cA : Nat → ClassId} {ad : Nat → Nat} {D : va_G} {E : Nat → Nat} {A : Nat → Prop} {x1 : Int32} {x2 : Int32} {x3 : Int32} {s0 sr : SS} {rr : Int32} (hf : f_X11_list x1 x2 x3 s0 = some (rr, sr)) : zCon Ox Nx cA ad D E l yX11_list cX11_list 4 (some .int) 2 A [.ref (ad 0), .int x1, .int x2, .int x3] s0 (some (.int rr)) sr := by
  refine zstart (own := RX11) hOx (by decide) rfl (Nat.le_of_ble_eq_true rfl) ?_
  intro p e s m args below meth c X hP ls hl
  have hx := X.1
  have hb := X.2.1
  have hl : lv_has ls 4 [(0, .ref (ad 0)), (1, .int x1), (2, .int x2), (3, .int x3)] := hl
  have hS : va_S A s.heap s.heap [] := va_S.rf
  have hc_64 : ∀ (t0 : Int32) (t1 : Int32) (t2 : Int32) (s1 : SS) (H : Heap) (locs : List Loc) (ls : Array Slot), lv_has ls 4 [] → va_P D ZCL (zw Ox Nx cA ad s1) H → va_S A s.heap H locs → f_X11_list_c64 t0 t1 t2 s1 = some (rr, sr) → W p l e (zrm 2) s m args below meth c H locs 0 0 (MQ below (zQc Ox Nx cA ad D A (some (.int rr)) sr) args s 0 0 A) (F0 m 64 ls [.int t0, .int t1, .int t2, .ref (ad 11)]) := by
    intro t0 t1 t2 s1 H locs ls hl hP hS hf
    rw [f_X11_list_c64] at hf
    obtain ⟨r4, s5, h6, hf⟩ := zbd_some hf
    refine zcallV X hP hS hl.1 (k := 11) (As := [.int t2, .int t1, .int t0]) (rest := []) (cn_X5_become h6) cw_X5_become zp_5 rfl (by decide) rfl ml_X11_377 (by decide) rfl rfl (Nat.le_of_ble_eq_true rfl) dX11_list_64 (fun H locs hP hS => ?_)
    refine lv_iconst (v := 1) hx hb dX11_list_67 (by decide) ?_
    exact zret_i X hP hS hf rfl dX11_list_68
  have hc_48 : ∀ (x1 : Int32) (x2 : Int32) (x3 : Int32) (s1 : SS) (H : Heap) (locs : List Loc) (ls : Array Slot), lv_has ls 4 [(0, .ref (ad 0)), (1, .int x1), (2, .int x2), (3, .int x3)] → va_P D ZCL (zw Ox Nx cA ad s1) H → va_S A s.heap H locs → f_X11_list_c48 x1 x2 x3 s1 = some (rr, sr) → W p l e (zrm 2) s m args below meth c H locs 0 0 (MQ below (zQc Ox Nx cA ad D A (some (.int rr)) sr) args s 0 0 A) (F0 m 48 ls []) := by
    intro x1 x2 x3 s1 H locs ls hl hP hS hf
    rw [f_X11_list_c48] at hf
    refine lv_aload_n hx hb dX11_list_48 rfl (lv_at hl 0 rfl) ?_
    refine gf_X11_63 X hP (k := 0) (q := 11) rfl dX11_list_49 rfl ?_
    refine lv_iload_n hx hb dX11_list_52 rfl (lv_at hl 1 rfl) ?_
    refine lv_iload_n hx hb dX11_list_53 rfl (lv_at hl 2 rfl) ?_
    refine lv_iload_n hx hb dX11_list_54 rfl (lv_at hl 2 rfl) ?_
    refine lv_iconst (v := (-1)) hx hb dX11_list_55 (by decide) ?_
    refine zicmp_ne (tgt := 63) hx hb dX11_list_56 (by decide) hf (fun hf => ?_) (fun hf => ?_)
    · refine lv_iload_n hx hb dX11_list_63 rfl (lv_at hl 3 rfl) ?_
      exact hc_64 x3 x2 x1 s1 _ _ _ (lv_sub hl [] rfl) hP hS hf
    · refine lv_iconst (v := 0) hx hb dX11_list_59 (by decide) ?_
      refine lv_goto (tgt := 64) hx hb dX11_list_60 (by decide) ?_
      exact hc_64 0 x2 x1 s1 _ _ _ (lv_sub hl [] rfl) hP hS hf
  have hc_36 : ∀ (x1 : Int32) (x2 : Int32) (x3 : Int32) (s1 : SS) (H : Heap) (locs : List Loc) (ls : Array Slot), lv_has ls 4 [(0, .ref (ad 0)), (1, .int x1), (2, .int x2), (3, .int x3)] → va_P D ZCL (zw Ox Nx cA ad s1) H → va_S A s.heap H locs → f_X11_list_c36 x1 x2 x3 s1 = some (rr, sr) → W p l e (zrm 2) s m args below meth c H locs 0 0 (MQ below (zQc Ox Nx cA ad D A (some (.int rr)) sr) args s 0 0 A) (F0 m 36 ls []) := by
    intro x1 x2 x3 s1 H locs ls hl hP hS hf
    rw [f_X11_list_c36] at hf
    refine lv_iload_n hx hb dX11_list_36 rfl (lv_at hl 2 rfl) ?_
    refine lv_iconst (v := (-1)) hx hb dX11_list_37 (by decide) ?_
    refine zicmp_eq (tgt := 48) hx hb dX11_list_38 (by decide) hf (fun hf => ?_) (fun hf => ?_)
    · exact hc_48 x1 x2 x3 s1 _ _ _ (lv_sub hl [0, 1, 2, 3] rfl) hP hS hf
    · refine lv_iload_n hx hb dX11_list_41 rfl (lv_at hl 3 rfl) ?_
      refine zif_ge (tgt := 48) hx hb dX11_list_42 (by decide) hf (fun hf => ?_) (fun hf => ?_)
      · exact hc_48 x1 x2 x3 s1 _ _ _ (lv_sub hl [0, 1, 2, 3] rfl) hP hS hf
      · refine lv_bipush (v := (-14)) hx hb dX11_list_45 (by decide) ?_
        exact zret_i X hP hS hf rfl dX11_list_47
  rw [f_X11_list] at hf
  refine lv_aload_n hx hb dX11_list_0 rfl (lv_at hl 0 rfl) ?_
  refine gf_X11_63 X hP (k := 0) (q := 11) rfl dX11_list_1 rfl ?_
  refine lv_iload_n hx hb dX11_list_4 rfl (lv_at hl 1 rfl) ?_
  obtain ⟨r1, s2, h3, hf⟩ := zbd_some hf
  refine zcallV X hP hS hl.1 (k := 11) (As := [.int x1]) (rest := []) (cn_X5_isOne h3) cw_X5_isOne zp_5 rfl (by decide) rfl ml_X11_320 (by decide) rfl rfl (Nat.le_of_ble_eq_true rfl) dX11_list_5 (fun H locs hP hS => ?_)
  refine zif_eq (tgt := 21) hx hb dX11_list_8 (by decide) hf (fun hf => ?_) (fun hf => ?_)
  · refine lv_iconst (v := (-1)) hx hb dX11_list_21 (by decide) ?_
    exact zret_i X hP hS hf rfl dX11_list_22
  · refine lv_iload_n hx hb dX11_list_11 rfl (lv_at hl 2 rfl) ?_
    refine lv_iconst (v := (-1)) hx hb dX11_list_12 (by decide) ?_
    refine zicmp_lt (tgt := 21) hx hb dX11_list_13 (by decide) hf (fun hf => ?_) (fun hf => ?_)
    · refine lv_iconst (v := (-1)) hx hb dX11_list_21 (by decide) ?_
      exact zret_i X hP hS hf rfl dX11_list_22
    · refine lv_iload_n hx hb dX11_list_16 rfl (lv_at hl 2 rfl) ?_
      refine lv_iconst (v := 1) hx hb dX11_list_17 (by decide) ?_
      refine zicmp_le (tgt := 23) hx hb dX11_list_18 (by decide) hf (fun hf => ?_) (fun hf => ?_)
      · refine lv_iload_n hx hb dX11_list_23 rfl (lv_at hl 2 rfl) ?_
        refine lv_iconst (v := (-1)) hx hb dX11_list_24 (by decide) ?_
        refine zicmp_eq (tgt := 36) hx hb dX11_list_25 (by decide) hf (fun hf => ?_) (fun hf => ?_)
        · exact hc_36 x1 x2 x3 s2 _ _ _ (lv_sub hl [0, 1, 2, 3] rfl) hP hS hf
        · refine lv_iload_n hx hb dX11_list_28 rfl (lv_at hl 3 rfl) ?_
          refine lv_bipush (v := 20) hx hb dX11_list_29 (by decide) ?_
          refine zicmp_le (tgt := 36) hx hb dX11_list_31 (by decide) hf (fun hf => ?_) (fun hf => ?_)
          · exact hc_36 x1 x2 x3 s2 _ _ _ (lv_sub hl [0, 1, 2, 3] rfl) hP hS hf
          · refine lv_iconst (v := (-1)) hx hb dX11_list_34 (by decide) ?_
            exact zret_i X hP hS hf rfl dX11_list_35
      · refine lv_iconst (v := (-1)) hx hb dX11_list_21 (by decide) ?_
        exact zret_i X hP hS hf rfl dX11_list_22
theorem dX11_put_0 : decode cX11_put 0 = .ok (.aload_n 0, 1) := by decide +kernel
theorem dX11_put_1 : decode cX11_put 1 = .ok (.getfield 63, 3) := by decide +kernel
theorem dX11_put_4 : decode cX11_put 4 = .ok (.iload_n 1, 1) := by decide +kernel
theorem dX11_put_5 : decode cX11_put 5 = .ok (.invokevirtual 320, 3) := by decide +kernel
theorem dX11_put_8 : decode cX11_put 8 = .ok (.ifCond .ne 5, 3) := by decide +kernel
theorem dX11_put_11 : decode cX11_put 11 = .ok (.iconst (-1), 1) := by decide +kernel
theorem dX11_put_12 : decode cX11_put 12 = .ok (.ireturn, 1) := by decide +kernel
theorem dX11_put_13 : decode cX11_put 13 = .ok (.aload_n 0, 1) := by decide +kernel
theorem dX11_put_14 : decode cX11_put 14 = .ok (.getfield 63, 3) := by decide +kernel
theorem dX11_put_17 : decode cX11_put 17 = .ok (.iload_n 1, 1) := by decide +kernel
theorem dX11_put_18 : decode cX11_put 18 = .ok (.invokevirtual 220, 3) := by decide +kernel
theorem dX11_put_21 : decode cX11_put 21 = .ok (.ifCond .ne 6, 3) := by decide +kernel
theorem dX11_put_24 : decode cX11_put 24 = .ok (.bipush (-11), 2) := by decide +kernel
theorem dX11_put_26 : decode cX11_put 26 = .ok (.ireturn, 1) := by decide +kernel
theorem dX11_put_27 : decode cX11_put 27 = .ok (.aload_n 0, 1) := by decide +kernel
theorem dX11_put_28 : decode cX11_put 28 = .ok (.getfield 63, 3) := by decide +kernel
theorem dX11_put_31 : decode cX11_put 31 = .ok (.iload_n 1, 1) := by decide +kernel
theorem dX11_put_32 : decode cX11_put 32 = .ok (.iload_n 2, 1) := by decide +kernel
theorem dX11_put_33 : decode cX11_put 33 = .ok (.invokevirtual 380, 3) := by decide +kernel
theorem dX11_put_36 : decode cX11_put 36 = .ok (.ifCond .ne 6, 3) := by decide +kernel
theorem dX11_put_39 : decode cX11_put 39 = .ok (.bipush (-13), 2) := by decide +kernel
theorem dX11_put_41 : decode cX11_put 41 = .ok (.ireturn, 1) := by decide +kernel
theorem dX11_put_42 : decode cX11_put 42 = .ok (.aload_n 0, 1) := by decide +kernel
theorem dX11_put_43 : decode cX11_put 43 = .ok (.getfield 63, 3) := by decide +kernel
theorem dX11_put_46 : decode cX11_put 46 = .ok (.iload_n 1, 1) := by decide +kernel
theorem dX11_put_47 : decode cX11_put 47 = .ok (.iload_n 2, 1) := by decide +kernel
theorem dX11_put_48 : decode cX11_put 48 = .ok (.lload_n 3, 1) := by decide +kernel
theorem dX11_put_49 : decode cX11_put 49 = .ok (.invokevirtual 384, 3) := by decide +kernel
theorem dX11_put_52 : decode cX11_put 52 = .ok (.iconst 1, 1) := by decide +kernel
theorem dX11_put_53 : decode cX11_put 53 = .ok (.ireturn, 1) := by decide +kernel
set_option maxHeartbeats 4000000 in
set_option maxRecDepth 100000 in
theorem cn_X11_put {l : Launch} {cA : Nat → ClassId} {ad : Nat → Nat} {D : va_G} {E : Nat → Nat} {A : Nat → Prop} {x1 : Int32} {x2 : Int32} {x3 : Int64} {s0 sr : SS} {rr : Int32} (hf : f_X11_put x1 x2 x3 s0 = some (rr, sr)) : zCon Ox Nx cA ad D E l yX11_put cX11_put 5 (some .int) 4 A [.ref (ad 0), .int x1, .int x2, .long x3] s0 (some (.int rr)) sr := by
  refine zstart (own := RX11) hOx (by decide) rfl (Nat.le_of_ble_eq_true rfl) ?_
  intro p e s m args below meth c X hP ls hl
  have hx := X.1
  have hb := X.2.1
  have hl : lv_has ls 5 [(0, .ref (ad 0)), (1, .int x1), (2, .int x2), (3, .long x3)] := hl
  have hS : va_S A s.heap s.heap [] := va_S.rf
  rw [f_X11_put] at hf
  refine lv_aload_n hx hb dX11_put_0 rfl (lv_at hl 0 rfl) ?_
  refine gf_X11_63 X hP (k := 0) (q := 11) rfl dX11_put_1 rfl ?_
  refine lv_iload_n hx hb dX11_put_4 rfl (lv_at hl 1 rfl) ?_
  obtain ⟨r1, s2, h3, hf⟩ := zbd_some hf
  refine zcallV X hP hS hl.1 (k := 11) (As := [.int x1]) (rest := []) (cn_X5_isOne h3) cw_X5_isOne zp_5 rfl (by decide) rfl ml_X11_320 (by decide) rfl rfl (Nat.le_of_ble_eq_true rfl) dX11_put_5 (fun H locs hP hS => ?_)
  refine zif_ne (tgt := 13) hx hb dX11_put_8 (by decide) hf (fun hf => ?_) (fun hf => ?_)
  · refine lv_aload_n hx hb dX11_put_13 rfl (lv_at hl 0 rfl) ?_
    refine gf_X11_63 X hP (k := 0) (q := 11) rfl dX11_put_14 rfl ?_
    refine lv_iload_n hx hb dX11_put_17 rfl (lv_at hl 1 rfl) ?_
    obtain ⟨r4, s5, h6, hf⟩ := zbd_some hf
    refine zcallV X hP hS hl.1 (k := 11) (As := [.int x1]) (rest := []) (cn_X5_isThere h6) cw_X5_isThere zp_5 rfl (by decide) rfl ml_X11_220 (by decide) rfl rfl (Nat.le_of_ble_eq_true rfl) dX11_put_18 (fun H locs hP hS => ?_)
    refine zif_ne (tgt := 27) hx hb dX11_put_21 (by decide) hf (fun hf => ?_) (fun hf => ?_)
    · refine lv_aload_n hx hb dX11_put_27 rfl (lv_at hl 0 rfl) ?_
      refine gf_X11_63 X hP (k := 0) (q := 11) rfl dX11_put_28 rfl ?_
      refine lv_iload_n hx hb dX11_put_31 rfl (lv_at hl 1 rfl) ?_
      refine lv_iload_n hx hb dX11_put_32 rfl (lv_at hl 2 rfl) ?_
      obtain ⟨r7, s8, h9, hf⟩ := zbd_some hf
      refine zcallV X hP hS hl.1 (k := 11) (As := [.int x1, .int x2]) (rest := []) (cn_X5_hasPlace h9) cw_X5_hasPlace zp_5 rfl (by decide) rfl ml_X11_380 (by decide) rfl rfl (Nat.le_of_ble_eq_true rfl) dX11_put_33 (fun H locs hP hS => ?_)
      refine zif_ne (tgt := 42) hx hb dX11_put_36 (by decide) hf (fun hf => ?_) (fun hf => ?_)
      · refine lv_aload_n hx hb dX11_put_42 rfl (lv_at hl 0 rfl) ?_
        refine gf_X11_63 X hP (k := 0) (q := 11) rfl dX11_put_43 rfl ?_
        refine lv_iload_n hx hb dX11_put_46 rfl (lv_at hl 1 rfl) ?_
        refine lv_iload_n hx hb dX11_put_47 rfl (lv_at hl 2 rfl) ?_
        refine lv_lload_n hx hb dX11_put_48 rfl (lv_at hl 3 rfl) ?_
        obtain ⟨r10, s11, h12, hf⟩ := zbd_some hf
        refine zcallV X hP hS hl.1 (k := 11) (As := [.int x1, .int x2, .long x3]) (rest := []) (cn_X5_place h12) cw_X5_place zp_5 rfl (by decide) rfl ml_X11_384 (by decide) rfl rfl (Nat.le_of_ble_eq_true rfl) dX11_put_49 (fun H locs hP hS => ?_)
        refine lv_iconst (v := 1) hx hb dX11_put_52 (by decide) ?_
        exact zret_i X hP hS hf rfl dX11_put_53
      · refine lv_bipush (v := (-13)) hx hb dX11_put_39 (by decide) ?_
        exact zret_i X hP hS hf rfl dX11_put_41
    · refine lv_bipush (v := (-11)) hx hb dX11_put_24 (by decide) ?_
      exact zret_i X hP hS hf rfl dX11_put_26
  · refine lv_iconst (v := (-1)) hx hb dX11_put_11 (by decide) ?_
    exact zret_i X hP hS hf rfl dX11_put_12
theorem dX11_get_0 : decode cX11_get 0 = .ok (.aload_n 0, 1) := by decide +kernel
theorem dX11_get_1 : decode cX11_get 1 = .ok (.getfield 63, 3) := by decide +kernel
theorem dX11_get_4 : decode cX11_get 4 = .ok (.iload_n 1, 1) := by decide +kernel
theorem dX11_get_5 : decode cX11_get 5 = .ok (.invokevirtual 220, 3) := by decide +kernel
theorem dX11_get_8 : decode cX11_get 8 = .ok (.ifCond .eq 27, 3) := by decide +kernel
theorem dX11_get_11 : decode cX11_get 11 = .ok (.aload_n 0, 1) := by decide +kernel
theorem dX11_get_12 : decode cX11_get 12 = .ok (.getfield 63, 3) := by decide +kernel
theorem dX11_get_15 : decode cX11_get 15 = .ok (.iload_n 1, 1) := by decide +kernel
theorem dX11_get_16 : decode cX11_get 16 = .ok (.iload_n 2, 1) := by decide +kernel
theorem dX11_get_17 : decode cX11_get 17 = .ok (.invokevirtual 380, 3) := by decide +kernel
theorem dX11_get_20 : decode cX11_get 20 = .ok (.ifCond .eq 15, 3) := by decide +kernel
theorem dX11_get_23 : decode cX11_get 23 = .ok (.aload_n 0, 1) := by decide +kernel
theorem dX11_get_24 : decode cX11_get 24 = .ok (.getfield 63, 3) := by decide +kernel
theorem dX11_get_27 : decode cX11_get 27 = .ok (.iload_n 1, 1) := by decide +kernel
theorem dX11_get_28 : decode cX11_get 28 = .ok (.iload_n 2, 1) := by decide +kernel
theorem dX11_get_29 : decode cX11_get 29 = .ok (.invokevirtual 247, 3) := by decide +kernel
theorem dX11_get_32 : decode cX11_get 32 = .ok (.goto 6, 3) := by decide +kernel
theorem dX11_get_35 : decode cX11_get 35 = .ok (.ldc2_w 132, 3) := by decide +kernel
theorem dX11_get_38 : decode cX11_get 38 = .ok (.lreturn, 1) := by decide +kernel
set_option maxHeartbeats 4000000 in
set_option maxRecDepth 100000 in
theorem cn_X11_get {l : Launch} {cA : Nat → ClassId} {ad : Nat → Nat} {D : va_G} {E : Nat → Nat} {A : Nat → Prop} {x1 : Int32} {x2 : Int32} {s0 sr : SS} {rr : Int64} (hf : f_X11_get x1 x2 s0 = some (rr, sr)) : zCon Ox Nx cA ad D E l yX11_get cX11_get 3 (some .long) 4 A [.ref (ad 0), .int x1, .int x2] s0 (some (.long rr)) sr := by
  refine zstart (own := RX11) hOx (by decide) rfl (Nat.le_of_ble_eq_true rfl) ?_
  intro p e s m args below meth c X hP ls hl
  have hx := X.1
  have hb := X.2.1
  have hl : lv_has ls 3 [(0, .ref (ad 0)), (1, .int x1), (2, .int x2)] := hl
  have hS : va_S A s.heap s.heap [] := va_S.rf
  rw [f_X11_get] at hf
  refine lv_aload_n hx hb dX11_get_0 rfl (lv_at hl 0 rfl) ?_
  refine gf_X11_63 X hP (k := 0) (q := 11) rfl dX11_get_1 rfl ?_
  refine lv_iload_n hx hb dX11_get_4 rfl (lv_at hl 1 rfl) ?_
  obtain ⟨r1, s2, h3, hf⟩ := zbd_some hf
  refine zcallV X hP hS hl.1 (k := 11) (As := [.int x1]) (rest := []) (cn_X5_isThere h3) cw_X5_isThere zp_5 rfl (by decide) rfl ml_X11_220 (by decide) rfl rfl (Nat.le_of_ble_eq_true rfl) dX11_get_5 (fun H locs hP hS => ?_)
  refine zif_eq (tgt := 35) hx hb dX11_get_8 (by decide) hf (fun hf => ?_) (fun hf => ?_)
  · refine zldc2 X co_X11_132 dX11_get_35 ?_
    exact zret_l X hP hS hf dX11_get_38
  · refine lv_aload_n hx hb dX11_get_11 rfl (lv_at hl 0 rfl) ?_
    refine gf_X11_63 X hP (k := 0) (q := 11) rfl dX11_get_12 rfl ?_
    refine lv_iload_n hx hb dX11_get_15 rfl (lv_at hl 1 rfl) ?_
    refine lv_iload_n hx hb dX11_get_16 rfl (lv_at hl 2 rfl) ?_
    obtain ⟨r4, s5, h6, hf⟩ := zbd_some hf
    refine zcallV X hP hS hl.1 (k := 11) (As := [.int x1, .int x2]) (rest := []) (cn_X5_hasPlace h6) cw_X5_hasPlace zp_5 rfl (by decide) rfl ml_X11_380 (by decide) rfl rfl (Nat.le_of_ble_eq_true rfl) dX11_get_17 (fun H locs hP hS => ?_)
    refine zif_eq (tgt := 35) hx hb dX11_get_20 (by decide) hf (fun hf => ?_) (fun hf => ?_)
    · refine zldc2 X co_X11_132 dX11_get_35 ?_
      exact zret_l X hP hS hf dX11_get_38
    · refine lv_aload_n hx hb dX11_get_23 rfl (lv_at hl 0 rfl) ?_
      refine gf_X11_63 X hP (k := 0) (q := 11) rfl dX11_get_24 rfl ?_
      refine lv_iload_n hx hb dX11_get_27 rfl (lv_at hl 1 rfl) ?_
      refine lv_iload_n hx hb dX11_get_28 rfl (lv_at hl 2 rfl) ?_
      obtain ⟨r7, s8, h9, hf⟩ := zbd_some hf
      refine zcallV X hP hS hl.1 (k := 11) (As := [.int x1, .int x2]) (rest := []) (cn_X5_valueAt h9) cw_X5_valueAt zp_5 rfl (by decide) rfl ml_X11_247 (by decide) rfl rfl (Nat.le_of_ble_eq_true rfl) dX11_get_29 (fun H locs hP hS => ?_)
      refine lv_goto (tgt := 38) hx hb dX11_get_32 (by decide) ?_
      exact zret_l X hP hS hf dX11_get_38
theorem dX11_copy_0 : decode cX11_copy 0 = .ok (.aload_n 0, 1) := by decide +kernel
theorem dX11_copy_1 : decode cX11_copy 1 = .ok (.getfield 63, 3) := by decide +kernel
theorem dX11_copy_4 : decode cX11_copy 4 = .ok (.iload_n 1, 1) := by decide +kernel
theorem dX11_copy_5 : decode cX11_copy 5 = .ok (.invokevirtual 320, 3) := by decide +kernel
theorem dX11_copy_8 : decode cX11_copy 8 = .ok (.ifCond .eq 14, 3) := by decide +kernel
theorem dX11_copy_11 : decode cX11_copy 11 = .ok (.aload_n 0, 1) := by decide +kernel
theorem dX11_copy_12 : decode cX11_copy 12 = .ok (.getfield 63, 3) := by decide +kernel
theorem dX11_copy_15 : decode cX11_copy 15 = .ok (.iload_n 3, 1) := by decide +kernel
theorem dX11_copy_16 : decode cX11_copy 16 = .ok (.invokevirtual 320, 3) := by decide +kernel
theorem dX11_copy_19 : decode cX11_copy 19 = .ok (.ifCond .ne 5, 3) := by decide +kernel
theorem dX11_copy_22 : decode cX11_copy 22 = .ok (.iconst (-1), 1) := by decide +kernel
theorem dX11_copy_23 : decode cX11_copy 23 = .ok (.ireturn, 1) := by decide +kernel
theorem dX11_copy_24 : decode cX11_copy 24 = .ok (.aload_n 0, 1) := by decide +kernel
theorem dX11_copy_25 : decode cX11_copy 25 = .ok (.getfield 63, 3) := by decide +kernel
theorem dX11_copy_28 : decode cX11_copy 28 = .ok (.iload_n 1, 1) := by decide +kernel
theorem dX11_copy_29 : decode cX11_copy 29 = .ok (.invokevirtual 220, 3) := by decide +kernel
theorem dX11_copy_32 : decode cX11_copy 32 = .ok (.ifCond .eq 14, 3) := by decide +kernel
theorem dX11_copy_35 : decode cX11_copy 35 = .ok (.aload_n 0, 1) := by decide +kernel
theorem dX11_copy_36 : decode cX11_copy 36 = .ok (.getfield 63, 3) := by decide +kernel
theorem dX11_copy_39 : decode cX11_copy 39 = .ok (.iload_n 3, 1) := by decide +kernel
theorem dX11_copy_40 : decode cX11_copy 40 = .ok (.invokevirtual 220, 3) := by decide +kernel
theorem dX11_copy_43 : decode cX11_copy 43 = .ok (.ifCond .ne 6, 3) := by decide +kernel
theorem dX11_copy_46 : decode cX11_copy 46 = .ok (.bipush (-11), 2) := by decide +kernel
theorem dX11_copy_48 : decode cX11_copy 48 = .ok (.ireturn, 1) := by decide +kernel
theorem dX11_copy_49 : decode cX11_copy 49 = .ok (.aload_n 0, 1) := by decide +kernel
theorem dX11_copy_50 : decode cX11_copy 50 = .ok (.getfield 63, 3) := by decide +kernel
theorem dX11_copy_53 : decode cX11_copy 53 = .ok (.getfield 388, 3) := by decide +kernel
theorem dX11_copy_56 : decode cX11_copy 56 = .ok (.iload_n 1, 1) := by decide +kernel
theorem dX11_copy_57 : decode cX11_copy 57 = .ok (.iaload, 1) := by decide +kernel
theorem dX11_copy_58 : decode cX11_copy 58 = .ok (.aload_n 0, 1) := by decide +kernel
theorem dX11_copy_59 : decode cX11_copy 59 = .ok (.getfield 63, 3) := by decide +kernel
theorem dX11_copy_62 : decode cX11_copy 62 = .ok (.getfield 388, 3) := by decide +kernel
theorem dX11_copy_65 : decode cX11_copy 65 = .ok (.iload_n 3, 1) := by decide +kernel
theorem dX11_copy_66 : decode cX11_copy 66 = .ok (.iaload, 1) := by decide +kernel
theorem dX11_copy_67 : decode cX11_copy 67 = .ok (.if_icmp .eq 6, 3) := by decide +kernel
theorem dX11_copy_70 : decode cX11_copy 70 = .ok (.bipush (-12), 2) := by decide +kernel
theorem dX11_copy_72 : decode cX11_copy 72 = .ok (.ireturn, 1) := by decide +kernel
theorem dX11_copy_73 : decode cX11_copy 73 = .ok (.aload_n 0, 1) := by decide +kernel
theorem dX11_copy_74 : decode cX11_copy 74 = .ok (.getfield 63, 3) := by decide +kernel
theorem dX11_copy_77 : decode cX11_copy 77 = .ok (.iload_n 1, 1) := by decide +kernel
theorem dX11_copy_78 : decode cX11_copy 78 = .ok (.iload_n 2, 1) := by decide +kernel
theorem dX11_copy_79 : decode cX11_copy 79 = .ok (.iload 5, 2) := by decide +kernel
theorem dX11_copy_81 : decode cX11_copy 81 = .ok (.invokevirtual 391, 3) := by decide +kernel
theorem dX11_copy_84 : decode cX11_copy 84 = .ok (.ifCond .eq 18, 3) := by decide +kernel
theorem dX11_copy_87 : decode cX11_copy 87 = .ok (.aload_n 0, 1) := by decide +kernel
theorem dX11_copy_88 : decode cX11_copy 88 = .ok (.getfield 63, 3) := by decide +kernel
theorem dX11_copy_91 : decode cX11_copy 91 = .ok (.iload_n 3, 1) := by decide +kernel
theorem dX11_copy_92 : decode cX11_copy 92 = .ok (.iload 4, 2) := by decide +kernel
theorem dX11_copy_94 : decode cX11_copy 94 = .ok (.iload 5, 2) := by decide +kernel
theorem dX11_copy_96 : decode cX11_copy 96 = .ok (.invokevirtual 391, 3) := by decide +kernel
theorem dX11_copy_99 : decode cX11_copy 99 = .ok (.ifCond .ne 6, 3) := by decide +kernel
theorem dX11_copy_102 : decode cX11_copy 102 = .ok (.bipush (-13), 2) := by decide +kernel
theorem dX11_copy_104 : decode cX11_copy 104 = .ok (.ireturn, 1) := by decide +kernel
theorem dX11_copy_105 : decode cX11_copy 105 = .ok (.aload_n 0, 1) := by decide +kernel
theorem dX11_copy_106 : decode cX11_copy 106 = .ok (.getfield 63, 3) := by decide +kernel
theorem dX11_copy_109 : decode cX11_copy 109 = .ok (.getfield 394, 3) := by decide +kernel
theorem dX11_copy_112 : decode cX11_copy 112 = .ok (.iload_n 1, 1) := by decide +kernel
theorem dX11_copy_113 : decode cX11_copy 113 = .ok (.aaload, 1) := by decide +kernel
theorem dX11_copy_114 : decode cX11_copy 114 = .ok (.iload_n 2, 1) := by decide +kernel
theorem dX11_copy_115 : decode cX11_copy 115 = .ok (.aload_n 0, 1) := by decide +kernel
theorem dX11_copy_116 : decode cX11_copy 116 = .ok (.getfield 63, 3) := by decide +kernel
theorem dX11_copy_119 : decode cX11_copy 119 = .ok (.getfield 394, 3) := by decide +kernel
theorem dX11_copy_122 : decode cX11_copy 122 = .ok (.iload_n 3, 1) := by decide +kernel
theorem dX11_copy_123 : decode cX11_copy 123 = .ok (.aaload, 1) := by decide +kernel
theorem dX11_copy_124 : decode cX11_copy 124 = .ok (.iload 4, 2) := by decide +kernel
theorem dX11_copy_126 : decode cX11_copy 126 = .ok (.iload 5, 2) := by decide +kernel
theorem dX11_copy_128 : decode cX11_copy 128 = .ok (.invokestatic 202, 3) := by decide +kernel
theorem dX11_copy_131 : decode cX11_copy 131 = .ok (.iload 5, 2) := by decide +kernel
theorem dX11_copy_133 : decode cX11_copy 133 = .ok (.ireturn, 1) := by decide +kernel
set_option maxHeartbeats 4000000 in
set_option maxRecDepth 100000 in
theorem cn_X11_copy {l : Launch} {cA : Nat → ClassId} {ad : Nat → Nat} {D : va_G} {E : Nat → Nat} {A : Nat → Prop} {x1 : Int32} {x2 : Int32} {x3 : Int32} {x4 : Int32} {x5 : Int32} {s0 sr : SS} {rr : Int32} (hf : f_X11_copy x1 x2 x3 x4 x5 s0 = some (rr, sr)) : zCon Ox Nx cA ad D E l yX11_copy cX11_copy 6 (some .int) 3 A [.ref (ad 0), .int x1, .int x2, .int x3, .int x4, .int x5] s0 (some (.int rr)) sr := by
  refine zstart (own := RX11) hOx (by decide) rfl (Nat.le_of_ble_eq_true rfl) ?_
  intro p e s m args below meth c X hP ls hl
  have hx := X.1
  have hb := X.2.1
  have hl : lv_has ls 6 [(0, .ref (ad 0)), (1, .int x1), (2, .int x2), (3, .int x3), (4, .int x4), (5, .int x5)] := hl
  have hS : va_S A s.heap s.heap [] := va_S.rf
  rw [f_X11_copy] at hf
  refine lv_aload_n hx hb dX11_copy_0 rfl (lv_at hl 0 rfl) ?_
  refine gf_X11_63 X hP (k := 0) (q := 11) rfl dX11_copy_1 rfl ?_
  refine lv_iload_n hx hb dX11_copy_4 rfl (lv_at hl 1 rfl) ?_
  obtain ⟨r1, s2, h3, hf⟩ := zbd_some hf
  refine zcallV X hP hS hl.1 (k := 11) (As := [.int x1]) (rest := []) (cn_X5_isOne h3) cw_X5_isOne zp_5 rfl (by decide) rfl ml_X11_320 (by decide) rfl rfl (Nat.le_of_ble_eq_true rfl) dX11_copy_5 (fun H locs hP hS => ?_)
  refine zif_eq (tgt := 22) hx hb dX11_copy_8 (by decide) hf (fun hf => ?_) (fun hf => ?_)
  · refine lv_iconst (v := (-1)) hx hb dX11_copy_22 (by decide) ?_
    exact zret_i X hP hS hf rfl dX11_copy_23
  · refine lv_aload_n hx hb dX11_copy_11 rfl (lv_at hl 0 rfl) ?_
    refine gf_X11_63 X hP (k := 0) (q := 11) rfl dX11_copy_12 rfl ?_
    refine lv_iload_n hx hb dX11_copy_15 rfl (lv_at hl 3 rfl) ?_
    obtain ⟨r4, s5, h6, hf⟩ := zbd_some hf
    refine zcallV X hP hS hl.1 (k := 11) (As := [.int x3]) (rest := []) (cn_X5_isOne h6) cw_X5_isOne zp_5 rfl (by decide) rfl ml_X11_320 (by decide) rfl rfl (Nat.le_of_ble_eq_true rfl) dX11_copy_16 (fun H locs hP hS => ?_)
    refine zif_ne (tgt := 24) hx hb dX11_copy_19 (by decide) hf (fun hf => ?_) (fun hf => ?_)
    · refine lv_aload_n hx hb dX11_copy_24 rfl (lv_at hl 0 rfl) ?_
      refine gf_X11_63 X hP (k := 0) (q := 11) rfl dX11_copy_25 rfl ?_
      refine lv_iload_n hx hb dX11_copy_28 rfl (lv_at hl 1 rfl) ?_
      obtain ⟨r7, s8, h9, hf⟩ := zbd_some hf
      refine zcallV X hP hS hl.1 (k := 11) (As := [.int x1]) (rest := []) (cn_X5_isThere h9) cw_X5_isThere zp_5 rfl (by decide) rfl ml_X11_220 (by decide) rfl rfl (Nat.le_of_ble_eq_true rfl) dX11_copy_29 (fun H locs hP hS => ?_)
      refine zif_eq (tgt := 46) hx hb dX11_copy_32 (by decide) hf (fun hf => ?_) (fun hf => ?_)
      · refine lv_bipush (v := (-11)) hx hb dX11_copy_46 (by decide) ?_
        exact zret_i X hP hS hf rfl dX11_copy_48
      · refine lv_aload_n hx hb dX11_copy_35 rfl (lv_at hl 0 rfl) ?_
        refine gf_X11_63 X hP (k := 0) (q := 11) rfl dX11_copy_36 rfl ?_
        refine lv_iload_n hx hb dX11_copy_39 rfl (lv_at hl 3 rfl) ?_
        obtain ⟨r10, s11, h12, hf⟩ := zbd_some hf
        refine zcallV X hP hS hl.1 (k := 11) (As := [.int x3]) (rest := []) (cn_X5_isThere h12) cw_X5_isThere zp_5 rfl (by decide) rfl ml_X11_220 (by decide) rfl rfl (Nat.le_of_ble_eq_true rfl) dX11_copy_40 (fun H locs hP hS => ?_)
        refine zif_ne (tgt := 49) hx hb dX11_copy_43 (by decide) hf (fun hf => ?_) (fun hf => ?_)
        · refine lv_aload_n hx hb dX11_copy_49 rfl (lv_at hl 0 rfl) ?_
          refine gf_X11_63 X hP (k := 0) (q := 11) rfl dX11_copy_50 rfl ?_
          refine gf_X11_388 X hP (k := 11) (q := 27) rfl dX11_copy_53 rfl ?_
          refine lv_iload_n hx hb dX11_copy_56 rfl (lv_at hl 1 rfl) ?_
          obtain ⟨g13, hf⟩ := zgd hf
          refine zald_i X hP (k := 27) (n := 3) (rs := []) rfl g13 dX11_copy_57 ?_
          refine lv_aload_n hx hb dX11_copy_58 rfl (lv_at hl 0 rfl) ?_
          refine gf_X11_63 X hP (k := 0) (q := 11) rfl dX11_copy_59 rfl ?_
          refine gf_X11_388 X hP (k := 11) (q := 27) rfl dX11_copy_62 rfl ?_
          refine lv_iload_n hx hb dX11_copy_65 rfl (lv_at hl 3 rfl) ?_
          obtain ⟨g14, hf⟩ := zgd hf
          refine zald_i X hP (k := 27) (n := 3) (rs := []) rfl g14 dX11_copy_66 ?_
          refine zicmp_eq (tgt := 73) hx hb dX11_copy_67 (by decide) hf (fun hf => ?_) (fun hf => ?_)
          · refine lv_aload_n hx hb dX11_copy_73 rfl (lv_at hl 0 rfl) ?_
            refine gf_X11_63 X hP (k := 0) (q := 11) rfl dX11_copy_74 rfl ?_
            refine lv_iload_n hx hb dX11_copy_77 rfl (lv_at hl 1 rfl) ?_
            refine lv_iload_n hx hb dX11_copy_78 rfl (lv_at hl 2 rfl) ?_
            refine lv_iload hx hb dX11_copy_79 (lv_at hl 5 rfl) ?_
            obtain ⟨r15, s16, h17, hf⟩ := zbd_some hf
            refine zcallV X hP hS hl.1 (k := 11) (As := [.int x1, .int x2, .int x5]) (rest := []) (cn_X5_hasRoom h17) cw_X5_hasRoom zp_5 rfl (by decide) rfl ml_X11_391 (by decide) rfl rfl (Nat.le_of_ble_eq_true rfl) dX11_copy_81 (fun H locs hP hS => ?_)
            refine zif_eq (tgt := 102) hx hb dX11_copy_84 (by decide) hf (fun hf => ?_) (fun hf => ?_)
            · refine lv_bipush (v := (-13)) hx hb dX11_copy_102 (by decide) ?_
              exact zret_i X hP hS hf rfl dX11_copy_104
            · refine lv_aload_n hx hb dX11_copy_87 rfl (lv_at hl 0 rfl) ?_
              refine gf_X11_63 X hP (k := 0) (q := 11) rfl dX11_copy_88 rfl ?_
              refine lv_iload_n hx hb dX11_copy_91 rfl (lv_at hl 3 rfl) ?_
              refine lv_iload hx hb dX11_copy_92 (lv_at hl 4 rfl) ?_
              refine lv_iload hx hb dX11_copy_94 (lv_at hl 5 rfl) ?_
              obtain ⟨r18, s19, h20, hf⟩ := zbd_some hf
              refine zcallV X hP hS hl.1 (k := 11) (As := [.int x3, .int x4, .int x5]) (rest := []) (cn_X5_hasRoom h20) cw_X5_hasRoom zp_5 rfl (by decide) rfl ml_X11_391 (by decide) rfl rfl (Nat.le_of_ble_eq_true rfl) dX11_copy_96 (fun H locs hP hS => ?_)
              refine zif_ne (tgt := 105) hx hb dX11_copy_99 (by decide) hf (fun hf => ?_) (fun hf => ?_)
              · refine lv_aload_n hx hb dX11_copy_105 rfl (lv_at hl 0 rfl) ?_
                refine gf_X11_63 X hP (k := 0) (q := 11) rfl dX11_copy_106 rfl ?_
                refine gf_X11_394 X hP (k := 11) (q := 29) rfl dX11_copy_109 rfl ?_
                refine lv_iload_n hx hb dX11_copy_112 rfl (lv_at hl 1 rfl) ?_
                obtain ⟨g21, hf⟩ := zgd hf
                obtain ⟨n22, rn22, on22, in22⟩ := zok_of g21
                refine zald_g X hP zlr_x (k := 29) on22 in22 dX11_copy_113 rfl ?_
                refine lv_iload_n hx hb dX11_copy_114 rfl (lv_at hl 2 rfl) ?_
                refine lv_aload_n hx hb dX11_copy_115 rfl (lv_at hl 0 rfl) ?_
                refine gf_X11_63 X hP (k := 0) (q := 11) rfl dX11_copy_116 rfl ?_
                refine gf_X11_394 X hP (k := 11) (q := 29) rfl dX11_copy_119 rfl ?_
                refine lv_iload_n hx hb dX11_copy_122 rfl (lv_at hl 3 rfl) ?_
                obtain ⟨g23, hf⟩ := zgd hf
                obtain ⟨n24, rn24, on24, in24⟩ := zok_of g23
                refine zald_g X hP zlr_x (k := 29) on24 in24 dX11_copy_123 rfl ?_
                refine lv_iload hx hb dX11_copy_124 (lv_at hl 4 rfl) ?_
                refine lv_iload hx hb dX11_copy_126 (lv_at hl 5 rfl) ?_
                obtain ⟨g25, hf⟩ := zgd hf
                refine zcp_l X hP hS hl.1 (k0 := (zrr Ox 29 x1)) (k1 := (zrr Ox 29 x3)) ml_X11_202 nt_copy.1 nt_copy.2.1 nt_copy.2.2 g25 ⟨Nat.le_of_ble_eq_true rfl, Nat.le_of_ble_eq_true rfl⟩ dX11_copy_128 (fun H locs hP hS => ?_)
                refine lv_iload hx hb dX11_copy_131 (lv_at hl 5 rfl) ?_
                exact zret_i X hP hS hf rfl dX11_copy_133
              · refine lv_bipush (v := (-13)) hx hb dX11_copy_102 (by decide) ?_
                exact zret_i X hP hS hf rfl dX11_copy_104
          · refine lv_bipush (v := (-12)) hx hb dX11_copy_70 (by decide) ?_
            exact zret_i X hP hS hf rfl dX11_copy_72
        · refine lv_bipush (v := (-11)) hx hb dX11_copy_46 (by decide) ?_
          exact zret_i X hP hS hf rfl dX11_copy_48
    · refine lv_iconst (v := (-1)) hx hb dX11_copy_22 (by decide) ?_
      exact zret_i X hP hS hf rfl dX11_copy_23
theorem dX11_trace_0 : decode cX11_trace 0 = .ok (.iload_n 1, 1) := by decide +kernel
theorem dX11_trace_1 : decode cX11_trace 1 = .ok (.ifCond .lt 14, 3) := by decide +kernel
theorem dX11_trace_4 : decode cX11_trace 4 = .ok (.iload_n 1, 1) := by decide +kernel
theorem dX11_trace_5 : decode cX11_trace 5 = .ok (.aload_n 0, 1) := by decide +kernel
theorem dX11_trace_6 : decode cX11_trace 6 = .ok (.getfield 70, 3) := by decide +kernel
theorem dX11_trace_9 : decode cX11_trace 9 = .ok (.getfield 402, 3) := by decide +kernel
theorem dX11_trace_12 : decode cX11_trace 12 = .ok (.if_icmp .lt 8, 3) := by decide +kernel
theorem dX11_trace_15 : decode cX11_trace 15 = .ok (.bipush (-2), 2) := by decide +kernel
theorem dX11_trace_17 : decode cX11_trace 17 = .ok (.goto 12, 3) := by decide +kernel
theorem dX11_trace_20 : decode cX11_trace 20 = .ok (.aload_n 0, 1) := by decide +kernel
theorem dX11_trace_21 : decode cX11_trace 21 = .ok (.getfield 70, 3) := by decide +kernel
theorem dX11_trace_24 : decode cX11_trace 24 = .ok (.getfield 403, 3) := by decide +kernel
theorem dX11_trace_27 : decode cX11_trace 27 = .ok (.iload_n 1, 1) := by decide +kernel
theorem dX11_trace_28 : decode cX11_trace 28 = .ok (.iaload, 1) := by decide +kernel
theorem dX11_trace_29 : decode cX11_trace 29 = .ok (.ireturn, 1) := by decide +kernel
set_option maxHeartbeats 4000000 in
set_option maxRecDepth 100000 in
theorem cn_X11_trace {l : Launch} {cA : Nat → ClassId} {ad : Nat → Nat} {D : va_G} {E : Nat → Nat} {A : Nat → Prop} {x1 : Int32} {s0 sr : SS} {rr : Int32} (hf : f_X11_trace x1 s0 = some (rr, sr)) : zCon Ox Nx cA ad D E l yX11_trace cX11_trace 2 (some .int) 0 A [.ref (ad 0), .int x1] s0 (some (.int rr)) sr := by
  refine zstart (own := RX11) hOx (by decide) rfl (Nat.le_of_ble_eq_true rfl) ?_
  intro p e s m args below meth c X hP ls hl
  have hx := X.1
  have hb := X.2.1
  have hl : lv_has ls 2 [(0, .ref (ad 0)), (1, .int x1)] := hl
  have hS : va_S A s.heap s.heap [] := va_S.rf
  rw [f_X11_trace] at hf
  refine lv_iload_n hx hb dX11_trace_0 rfl (lv_at hl 1 rfl) ?_
  refine zif_lt (tgt := 15) hx hb dX11_trace_1 (by decide) hf (fun hf => ?_) (fun hf => ?_)
  · refine lv_bipush (v := (-2)) hx hb dX11_trace_15 (by decide) ?_
    refine lv_goto (tgt := 29) hx hb dX11_trace_17 (by decide) ?_
    exact zret_i X hP hS hf rfl dX11_trace_29
  · refine lv_iload_n hx hb dX11_trace_4 rfl (lv_at hl 1 rfl) ?_
    refine lv_aload_n hx hb dX11_trace_5 rfl (lv_at hl 0 rfl) ?_
    refine gf_X11_70 X hP (k := 0) (q := 12) rfl dX11_trace_6 rfl ?_
    refine gf_X11_402 X hP (k := 12) rfl dX11_trace_9 ?_
    refine zicmp_lt (tgt := 20) hx hb dX11_trace_12 (by decide) hf (fun hf => ?_) (fun hf => ?_)
    · refine lv_aload_n hx hb dX11_trace_20 rfl (lv_at hl 0 rfl) ?_
      refine gf_X11_70 X hP (k := 0) (q := 12) rfl dX11_trace_21 rfl ?_
      refine gf_X11_403 X hP (k := 12) (q := 82) rfl dX11_trace_24 rfl ?_
      refine lv_iload_n hx hb dX11_trace_27 rfl (lv_at hl 1 rfl) ?_
      obtain ⟨g1, hf⟩ := zgd hf
      refine zald_i X hP (k := 82) (n := 24) (rs := []) rfl g1 dX11_trace_28 ?_
      exact zret_i X hP hS hf rfl dX11_trace_29
    · refine lv_bipush (v := (-2)) hx hb dX11_trace_15 (by decide) ?_
      refine lv_goto (tgt := 29) hx hb dX11_trace_17 (by decide) ?_
      exact zret_i X hP hS hf rfl dX11_trace_29
theorem dX11_taken_0 : decode cX11_taken 0 = .ok (.aload_n 0, 1) := by decide +kernel
theorem dX11_taken_1 : decode cX11_taken 1 = .ok (.getfield 12, 3) := by decide +kernel
theorem dX11_taken_4 : decode cX11_taken 4 = .ok (.iload_n 1, 1) := by decide +kernel
theorem dX11_taken_5 : decode cX11_taken 5 = .ok (.i2l, 1) := by decide +kernel
theorem dX11_taken_6 : decode cX11_taken 6 = .ok (.invokevirtual 155, 3) := by decide +kernel
theorem dX11_taken_9 : decode cX11_taken 9 = .ok (.astore_n 3, 1) := by decide +kernel
theorem dX11_taken_10 : decode cX11_taken 10 = .ok (.aload_n 3, 1) := by decide +kernel
theorem dX11_taken_11 : decode cX11_taken 11 = .ok (.ifnull 12, 3) := by decide +kernel
theorem dX11_taken_14 : decode cX11_taken 14 = .ok (.iload_n 2, 1) := by decide +kernel
theorem dX11_taken_15 : decode cX11_taken 15 = .ok (.ifCond .lt 8, 3) := by decide +kernel
theorem dX11_taken_18 : decode cX11_taken 18 = .ok (.iload_n 2, 1) := by decide +kernel
theorem dX11_taken_19 : decode cX11_taken 19 = .ok (.iconst 5, 1) := by decide +kernel
theorem dX11_taken_20 : decode cX11_taken 20 = .ok (.if_icmp .le 5, 3) := by decide +kernel
theorem dX11_taken_23 : decode cX11_taken 23 = .ok (.iconst (-1), 1) := by decide +kernel
theorem dX11_taken_24 : decode cX11_taken 24 = .ok (.ireturn, 1) := by decide +kernel
theorem dX11_taken_25 : decode cX11_taken 25 = .ok (.aload_n 3, 1) := by decide +kernel
theorem dX11_taken_26 : decode cX11_taken 26 = .ok (.iload_n 2, 1) := by decide +kernel
theorem dX11_taken_27 : decode cX11_taken 27 = .ok (.invokevirtual 406, 3) := by decide +kernel
theorem dX11_taken_30 : decode cX11_taken 30 = .ok (.ifCond .ne 6, 3) := by decide +kernel
theorem dX11_taken_33 : decode cX11_taken 33 = .ok (.bipush (-5), 2) := by decide +kernel
theorem dX11_taken_35 : decode cX11_taken 35 = .ok (.ireturn, 1) := by decide +kernel
theorem dX11_taken_36 : decode cX11_taken 36 = .ok (.iload_n 2, 1) := by decide +kernel
theorem dX11_taken_37 : decode cX11_taken 37 = .ok (.iconst 2, 1) := by decide +kernel
theorem dX11_taken_38 : decode cX11_taken 38 = .ok (.if_icmp .lt 15, 3) := by decide +kernel
theorem dX11_taken_41 : decode cX11_taken 41 = .ok (.iload_n 2, 1) := by decide +kernel
theorem dX11_taken_42 : decode cX11_taken 42 = .ok (.iconst 4, 1) := by decide +kernel
theorem dX11_taken_43 : decode cX11_taken 43 = .ok (.if_icmp .gt 10, 3) := by decide +kernel
theorem dX11_taken_46 : decode cX11_taken 46 = .ok (.aload_n 3, 1) := by decide +kernel
theorem dX11_taken_47 : decode cX11_taken 47 = .ok (.getfield 171, 3) := by decide +kernel
theorem dX11_taken_50 : decode cX11_taken 50 = .ok (.goto 4, 3) := by decide +kernel
theorem dX11_taken_53 : decode cX11_taken 53 = .ok (.iload_n 1, 1) := by decide +kernel
theorem dX11_taken_54 : decode cX11_taken 54 = .ok (.ireturn, 1) := by decide +kernel
set_option maxHeartbeats 4000000 in
set_option maxRecDepth 100000 in
theorem cn_X11_taken {l : Launch} {cA : Nat → ClassId} {ad : Nat → Nat} {D : va_G} {E : Nat → Nat} {A : Nat → Prop} {x1 : Int32} {x2 : Int32} {s0 sr : SS} {rr : Int32} (hf : f_X11_taken x1 x2 s0 = some (rr, sr)) : zCon Ox Nx cA ad D E l yX11_taken cX11_taken 4 (some .int) 1 A [.ref (ad 0), .int x1, .int x2] s0 (some (.int rr)) sr := by
  refine zstart (own := RX11) hOx (by decide) rfl (Nat.le_of_ble_eq_true rfl) ?_
  intro p e s m args below meth c X hP ls hl
  have hx := X.1
  have hb := X.2.1
  have hl : lv_has ls 4 [(0, .ref (ad 0)), (1, .int x1), (2, .int x2)] := hl
  have hS : va_S A s.heap s.heap [] := va_S.rf
  rw [f_X11_taken] at hf
  refine lv_aload_n hx hb dX11_taken_0 rfl (lv_at hl 0 rfl) ?_
  refine gf_X11_12 X hP (k := 0) (q := 1) rfl dX11_taken_1 rfl ?_
  refine lv_iload_n hx hb dX11_taken_4 rfl (lv_at hl 1 rfl) ?_
  refine lv_i2l hx hb dX11_taken_5 rfl ?_
  obtain ⟨r1, s2, h3, hf⟩ := zbd_some hf
  refine zcallV X hP hS hl.1 (k := 1) (As := [.long (x1).toInt64]) (rest := []) (cn_X3_classAt h3) cw_X3_classAt zp_3 rfl (by decide) rfl ml_X11_155 (by decide) rfl rfl (Nat.le_of_ble_eq_true rfl) dX11_taken_6 (fun H locs hP hS => ?_)
  rcases r1 with _ | k4
  · have hf := zbn_none hf
    refine lv_astore_nN (lv' := [(3, .null), (0, .ref (ad 0)), (1, .int x1), (2, .int x2)]) hx hb dX11_taken_9 rfl hl (by decide) rfl (fun ls hl => ?_)
    refine lv_aload_nN hx hb dX11_taken_10 rfl (lv_at hl 0 rfl) ?_
    refine lv_ifnullN (tgt := 23) hx hb dX11_taken_11 (by decide) ?_
    refine lv_iconst (v := (-1)) hx hb dX11_taken_23 (by decide) ?_
    exact zret_i X hP hS hf rfl dX11_taken_24
  · have hf := zbn_some hf
    obtain ⟨g5, hf⟩ := zgd hf
    refine lv_astore_n (lv' := [(3, .ref (ad k4)), (0, .ref (ad 0)), (1, .int x1), (2, .int x2)]) hx hb dX11_taken_9 rfl hl (by decide) rfl (fun ls hl => ?_)
    refine lv_aload_n hx hb dX11_taken_10 rfl (lv_at hl 0 rfl) ?_
    refine lv_ifnull hx hb dX11_taken_11 ?_
    refine lv_iload_n hx hb dX11_taken_14 rfl (lv_at hl 3 rfl) ?_
    refine zif_lt (tgt := 23) hx hb dX11_taken_15 (by decide) hf (fun hf => ?_) (fun hf => ?_)
    · refine lv_iconst (v := (-1)) hx hb dX11_taken_23 (by decide) ?_
      exact zret_i X hP hS hf rfl dX11_taken_24
    · refine lv_iload_n hx hb dX11_taken_18 rfl (lv_at hl 3 rfl) ?_
      refine lv_iconst (v := 5) hx hb dX11_taken_19 (by decide) ?_
      refine zicmp_le (tgt := 25) hx hb dX11_taken_20 (by decide) hf (fun hf => ?_) (fun hf => ?_)
      · refine lv_aload_n hx hb dX11_taken_25 rfl (lv_at hl 0 rfl) ?_
        refine lv_iload_n hx hb dX11_taken_26 rfl (lv_at hl 3 rfl) ?_
        obtain ⟨r6, s7, h8, hf⟩ := zbd_some hf
        refine zcallV X hP hS hl.1 (k := k4) (As := [.int x2]) (rest := []) (cn_X4_isUnder h8) cw_X4_isUnder zp_4 g5 (by decide) rfl ml_X11_406 (by decide) rfl rfl (Nat.le_of_ble_eq_true rfl) dX11_taken_27 (fun H locs hP hS => ?_)
        refine zif_ne (tgt := 36) hx hb dX11_taken_30 (by decide) hf (fun hf => ?_) (fun hf => ?_)
        · refine lv_iload_n hx hb dX11_taken_36 rfl (lv_at hl 3 rfl) ?_
          refine lv_iconst (v := 2) hx hb dX11_taken_37 (by decide) ?_
          refine zicmp_lt (tgt := 53) hx hb dX11_taken_38 (by decide) hf (fun hf => ?_) (fun hf => ?_)
          · refine lv_iload_n hx hb dX11_taken_53 rfl (lv_at hl 2 rfl) ?_
            exact zret_i X hP hS hf rfl dX11_taken_54
          · refine lv_iload_n hx hb dX11_taken_41 rfl (lv_at hl 3 rfl) ?_
            refine lv_iconst (v := 4) hx hb dX11_taken_42 (by decide) ?_
            refine zicmp_gt (tgt := 53) hx hb dX11_taken_43 (by decide) hf (fun hf => ?_) (fun hf => ?_)
            · refine lv_iload_n hx hb dX11_taken_53 rfl (lv_at hl 2 rfl) ?_
              exact zret_i X hP hS hf rfl dX11_taken_54
            · refine lv_aload_n hx hb dX11_taken_46 rfl (lv_at hl 0 rfl) ?_
              refine gf_X11_171 X hP (k := k4) g5 dX11_taken_47 ?_
              refine lv_goto (tgt := 54) hx hb dX11_taken_50 (by decide) ?_
              exact zret_i X hP hS hf rfl dX11_taken_54
        · refine lv_bipush (v := (-5)) hx hb dX11_taken_33 (by decide) ?_
          exact zret_i X hP hS hf rfl dX11_taken_35
      · refine lv_iconst (v := (-1)) hx hb dX11_taken_23 (by decide) ?_
        exact zret_i X hP hS hf rfl dX11_taken_24
theorem dX11_tellChange_0 : decode cX11_tellChange 0 = .ok (.iload_n 1, 1) := by decide +kernel
theorem dX11_tellChange_1 : decode cX11_tellChange 1 = .ok (.ifCond .lt 9, 3) := by decide +kernel
theorem dX11_tellChange_4 : decode cX11_tellChange 4 = .ok (.iload_n 1, 1) := by decide +kernel
theorem dX11_tellChange_5 : decode cX11_tellChange 5 = .ok (.aload_n 2, 1) := by decide +kernel
theorem dX11_tellChange_6 : decode cX11_tellChange 6 = .ok (.arraylength, 1) := by decide +kernel
theorem dX11_tellChange_7 : decode cX11_tellChange 7 = .ok (.if_icmp .lt 4, 3) := by decide +kernel
theorem dX11_tellChange_10 : decode cX11_tellChange 10 = .ok (.return_, 1) := by decide +kernel
theorem dX11_tellChange_11 : decode cX11_tellChange 11 = .ok (.aload_n 0, 1) := by decide +kernel
theorem dX11_tellChange_12 : decode cX11_tellChange 12 = .ok (.getfield 12, 3) := by decide +kernel
theorem dX11_tellChange_15 : decode cX11_tellChange 15 = .ok (.aload_n 0, 1) := by decide +kernel
theorem dX11_tellChange_16 : decode cX11_tellChange 16 = .ok (.getfield 35, 3) := by decide +kernel
theorem dX11_tellChange_19 : decode cX11_tellChange 19 = .ok (.getfield 425, 3) := by decide +kernel
theorem dX11_tellChange_22 : decode cX11_tellChange 22 = .ok (.iload_n 1, 1) := by decide +kernel
theorem dX11_tellChange_23 : decode cX11_tellChange 23 = .ok (.iaload, 1) := by decide +kernel
theorem dX11_tellChange_24 : decode cX11_tellChange 24 = .ok (.i2l, 1) := by decide +kernel
theorem dX11_tellChange_25 : decode cX11_tellChange 25 = .ok (.invokevirtual 155, 3) := by decide +kernel
theorem dX11_tellChange_28 : decode cX11_tellChange 28 = .ok (.astore_n 3, 1) := by decide +kernel
theorem dX11_tellChange_29 : decode cX11_tellChange 29 = .ok (.aload_n 3, 1) := by decide +kernel
theorem dX11_tellChange_30 : decode cX11_tellChange 30 = .ok (.ifnull 20, 3) := by decide +kernel
theorem dX11_tellChange_33 : decode cX11_tellChange 33 = .ok (.aload_n 3, 1) := by decide +kernel
theorem dX11_tellChange_34 : decode cX11_tellChange 34 = .ok (.aload_n 0, 1) := by decide +kernel
theorem dX11_tellChange_35 : decode cX11_tellChange 35 = .ok (.getfield 35, 3) := by decide +kernel
theorem dX11_tellChange_38 : decode cX11_tellChange 38 = .ok (.getfield 428, 3) := by decide +kernel
theorem dX11_tellChange_41 : decode cX11_tellChange 41 = .ok (.iload_n 1, 1) := by decide +kernel
theorem dX11_tellChange_42 : decode cX11_tellChange 42 = .ok (.iaload, 1) := by decide +kernel
theorem dX11_tellChange_43 : decode cX11_tellChange 43 = .ok (.aload_n 2, 1) := by decide +kernel
theorem dX11_tellChange_44 : decode cX11_tellChange 44 = .ok (.iload_n 1, 1) := by decide +kernel
theorem dX11_tellChange_45 : decode cX11_tellChange 45 = .ok (.iaload, 1) := by decide +kernel
theorem dX11_tellChange_46 : decode cX11_tellChange 46 = .ok (.invokevirtual 159, 3) := by decide +kernel
theorem dX11_tellChange_49 : decode cX11_tellChange 49 = .ok (.pop, 1) := by decide +kernel
theorem dX11_tellChange_50 : decode cX11_tellChange 50 = .ok (.return_, 1) := by decide +kernel
set_option maxHeartbeats 4000000 in
set_option maxRecDepth 100000 in
theorem cn_X11_tellChange {l : Launch} {cA : Nat → ClassId} {ad : Nat → Nat} {D : va_G} {E : Nat → Nat} {A : Nat → Prop} {x1 : Int32} {k2 : Nat} {s0 sr : SS} {rr : Unit} (hf : f_X11_tellChange x1 k2 s0 = some (rr, sr)) : zCon Ox Nx cA ad D E l yX11_tellChange cX11_tellChange 4 none 1 A [.ref (ad 0), .int x1, .ref (ad k2)] s0 none sr := by
  refine zstart (own := RX11) hOx (by decide) rfl (Nat.le_of_ble_eq_true rfl) ?_
  intro p e s m args below meth c X hP ls hl
  have hx := X.1
  have hb := X.2.1
  have hl : lv_has ls 4 [(0, .ref (ad 0)), (1, .int x1), (2, .ref (ad k2))] := hl
  have hS : va_S A s.heap s.heap [] := va_S.rf
  rw [f_X11_tellChange] at hf
  refine lv_iload_n hx hb dX11_tellChange_0 rfl (lv_at hl 1 rfl) ?_
  refine zif_lt (tgt := 10) hx hb dX11_tellChange_1 (by decide) hf (fun hf => ?_) (fun hf => ?_)
  · exact zret_v X hP hS hf dX11_tellChange_10
  · refine lv_iload_n hx hb dX11_tellChange_4 rfl (lv_at hl 1 rfl) ?_
    refine lv_aload_n hx hb dX11_tellChange_5 rfl (lv_at hl 2 rfl) ?_
    obtain ⟨g1, hf⟩ := zgd hf
    obtain ⟨n2, on2⟩ := zia_of g1
    refine zalen X hP (k := k2) (t := 0) on2 (by decide) rfl dX11_tellChange_6 ?_
    refine zicmp_lt (tgt := 11) hx hb dX11_tellChange_7 (by decide) hf (fun hf => ?_) (fun hf => ?_)
    · refine lv_aload_n hx hb dX11_tellChange_11 rfl (lv_at hl 0 rfl) ?_
      refine gf_X11_12 X hP (k := 0) (q := 1) rfl dX11_tellChange_12 rfl ?_
      refine lv_aload_n hx hb dX11_tellChange_15 rfl (lv_at hl 0 rfl) ?_
      refine gf_X11_35 X hP (k := 0) (q := 7) rfl dX11_tellChange_16 rfl ?_
      refine gf_X11_425 X hP (k := 7) (q := 69) rfl dX11_tellChange_19 rfl ?_
      refine lv_iload_n hx hb dX11_tellChange_22 rfl (lv_at hl 1 rfl) ?_
      obtain ⟨g3, hf⟩ := zgd hf
      refine zald_i X hP (k := 69) (n := 12) (rs := []) rfl g3 dX11_tellChange_23 ?_
      refine lv_i2l hx hb dX11_tellChange_24 rfl ?_
      obtain ⟨r4, s5, h6, hf⟩ := zbd_some hf
      refine zcallV X hP hS hl.1 (k := 1) (As := [.long ((s0.1 69 (x1).toNatClampNeg)).toInt64]) (rest := []) (cn_X3_classAt h6) cw_X3_classAt zp_3 rfl (by decide) rfl ml_X11_155 (by decide) rfl rfl (Nat.le_of_ble_eq_true rfl) dX11_tellChange_25 (fun H locs hP hS => ?_)
      rcases r4 with _ | k7
      · have hf := zbn_none hf
        refine lv_astore_nN (lv' := [(3, .null), (0, .ref (ad 0)), (1, .int x1), (2, .ref (ad k2))]) hx hb dX11_tellChange_28 rfl hl (by decide) rfl (fun ls hl => ?_)
        refine lv_aload_nN hx hb dX11_tellChange_29 rfl (lv_at hl 0 rfl) ?_
        refine lv_ifnullN (tgt := 50) hx hb dX11_tellChange_30 (by decide) ?_
        exact zret_v X hP hS hf dX11_tellChange_50
      · have hf := zbn_some hf
        obtain ⟨g8, hf⟩ := zgd hf
        refine lv_astore_n (lv' := [(3, .ref (ad k7)), (0, .ref (ad 0)), (1, .int x1), (2, .ref (ad k2))]) hx hb dX11_tellChange_28 rfl hl (by decide) rfl (fun ls hl => ?_)
        refine lv_aload_n hx hb dX11_tellChange_29 rfl (lv_at hl 0 rfl) ?_
        refine lv_ifnull hx hb dX11_tellChange_30 ?_
        refine lv_aload_n hx hb dX11_tellChange_33 rfl (lv_at hl 0 rfl) ?_
        refine lv_aload_n hx hb dX11_tellChange_34 rfl (lv_at hl 1 rfl) ?_
        refine gf_X11_35 X hP (k := 0) (q := 7) rfl dX11_tellChange_35 rfl ?_
        refine gf_X11_428 X hP (k := 7) (q := 70) rfl dX11_tellChange_38 rfl ?_
        refine lv_iload_n hx hb dX11_tellChange_41 rfl (lv_at hl 2 rfl) ?_
        obtain ⟨g9, hf⟩ := zgd hf
        refine zald_i X hP (k := 70) (n := 12) (rs := []) rfl g9 dX11_tellChange_42 ?_
        refine lv_aload_n hx hb dX11_tellChange_43 rfl (lv_at hl 3 rfl) ?_
        refine lv_iload_n hx hb dX11_tellChange_44 rfl (lv_at hl 2 rfl) ?_
        obtain ⟨g10, hf⟩ := zgd hf
        obtain ⟨n14, rn14, on14, in14⟩ := zok_of g10
        refine zald_i X hP (k := k2) on14 in14 dX11_tellChange_45 ?_
        obtain ⟨r11, s12, h13, hf⟩ := zbd_some hf
        refine zcallV X hP hS hl.1 (k := k7) (As := [.int (s5.1 70 (x1).toNatClampNeg), .int (s5.1 k2 (x1).toNatClampNeg)]) (rest := []) (cn_X4_become h13) cw_X4_become zp_4 g8 (by decide) rfl ml_X11_159 (by decide) rfl rfl (Nat.le_of_ble_eq_true rfl) dX11_tellChange_46 (fun H locs hP hS => ?_)
        refine lv_pop hx hb dX11_tellChange_49 rfl ?_
        exact zret_v X hP hS hf dX11_tellChange_50
    · exact zret_v X hP hS hf dX11_tellChange_10
theorem dX11_undo_0 : decode cX11_undo 0 = .ok (.aload_n 0, 1) := by decide +kernel
theorem dX11_undo_1 : decode cX11_undo 1 = .ok (.getfield 35, 3) := by decide +kernel
theorem dX11_undo_4 : decode cX11_undo 4 = .ok (.getfield 409, 3) := by decide +kernel
theorem dX11_undo_7 : decode cX11_undo 7 = .ok (.ifCond .ne 6, 3) := by decide +kernel
theorem dX11_undo_10 : decode cX11_undo 10 = .ok (.bipush (-5), 2) := by decide +kernel
theorem dX11_undo_12 : decode cX11_undo 12 = .ok (.ireturn, 1) := by decide +kernel
theorem dX11_undo_13 : decode cX11_undo 13 = .ok (.aload_n 0, 1) := by decide +kernel
theorem dX11_undo_14 : decode cX11_undo 14 = .ok (.getfield 35, 3) := by decide +kernel
theorem dX11_undo_17 : decode cX11_undo 17 = .ok (.dup, 1) := by decide +kernel
theorem dX11_undo_18 : decode cX11_undo 18 = .ok (.getfield 409, 3) := by decide +kernel
theorem dX11_undo_21 : decode cX11_undo 21 = .ok (.iconst 1, 1) := by decide +kernel
theorem dX11_undo_22 : decode cX11_undo 22 = .ok (.isub, 1) := by decide +kernel
theorem dX11_undo_23 : decode cX11_undo 23 = .ok (.putfield 409, 3) := by decide +kernel
theorem dX11_undo_26 : decode cX11_undo 26 = .ok (.aload_n 0, 1) := by decide +kernel
theorem dX11_undo_27 : decode cX11_undo 27 = .ok (.getfield 35, 3) := by decide +kernel
theorem dX11_undo_30 : decode cX11_undo 30 = .ok (.dup, 1) := by decide +kernel
theorem dX11_undo_31 : decode cX11_undo 31 = .ok (.getfield 412, 3) := by decide +kernel
theorem dX11_undo_34 : decode cX11_undo 34 = .ok (.iconst 1, 1) := by decide +kernel
theorem dX11_undo_35 : decode cX11_undo 35 = .ok (.iadd, 1) := by decide +kernel
theorem dX11_undo_36 : decode cX11_undo 36 = .ok (.putfield 412, 3) := by decide +kernel
theorem dX11_undo_39 : decode cX11_undo 39 = .ok (.aload_n 0, 1) := by decide +kernel
theorem dX11_undo_40 : decode cX11_undo 40 = .ok (.aload_n 0, 1) := by decide +kernel
theorem dX11_undo_41 : decode cX11_undo 41 = .ok (.getfield 35, 3) := by decide +kernel
theorem dX11_undo_44 : decode cX11_undo 44 = .ok (.getfield 409, 3) := by decide +kernel
theorem dX11_undo_47 : decode cX11_undo 47 = .ok (.aload_n 0, 1) := by decide +kernel
theorem dX11_undo_48 : decode cX11_undo 48 = .ok (.getfield 35, 3) := by decide +kernel
theorem dX11_undo_51 : decode cX11_undo 51 = .ok (.getfield 415, 3) := by decide +kernel
theorem dX11_undo_54 : decode cX11_undo 54 = .ok (.invokevirtual 418, 3) := by decide +kernel
theorem dX11_undo_57 : decode cX11_undo 57 = .ok (.aload_n 0, 1) := by decide +kernel
theorem dX11_undo_58 : decode cX11_undo 58 = .ok (.getfield 35, 3) := by decide +kernel
theorem dX11_undo_61 : decode cX11_undo 61 = .ok (.getfield 409, 3) := by decide +kernel
theorem dX11_undo_64 : decode cX11_undo 64 = .ok (.ireturn, 1) := by decide +kernel
set_option maxHeartbeats 4000000 in
set_option maxRecDepth 100000 in
theorem cn_X11_undo {l : Launch} {cA : Nat → ClassId} {ad : Nat → Nat} {D : va_G} {E : Nat → Nat} {A : Nat → Prop}  {s0 sr : SS} {rr : Int32} (hf : f_X11_undo s0 = some (rr, sr)) : zCon Ox Nx cA ad D E l yX11_undo cX11_undo 1 (some .int) 2 A [.ref (ad 0)] s0 (some (.int rr)) sr := by
  refine zstart (own := RX11) hOx (by decide) rfl (Nat.le_of_ble_eq_true rfl) ?_
  intro p e s m args below meth c X hP ls hl
  have hx := X.1
  have hb := X.2.1
  have hl : lv_has ls 1 [(0, .ref (ad 0))] := hl
  have hS : va_S A s.heap s.heap [] := va_S.rf
  rw [f_X11_undo] at hf
  refine lv_aload_n hx hb dX11_undo_0 rfl (lv_at hl 0 rfl) ?_
  refine gf_X11_35 X hP (k := 0) (q := 7) rfl dX11_undo_1 rfl ?_
  refine gf_X11_409 X hP (k := 7) rfl dX11_undo_4 ?_
  refine zif_ne (tgt := 13) hx hb dX11_undo_7 (by decide) hf (fun hf => ?_) (fun hf => ?_)
  · refine lv_aload_n hx hb dX11_undo_13 rfl (lv_at hl 0 rfl) ?_
    refine gf_X11_35 X hP (k := 0) (q := 7) rfl dX11_undo_14 rfl ?_
    refine lv_dup hx hb dX11_undo_17 rfl ?_
    refine gf_X11_409 X hP (k := 7) rfl dX11_undo_18 ?_
    refine lv_iconst (v := 1) hx hb dX11_undo_21 (by decide) ?_
    refine lv_isub hx hb dX11_undo_22 ?_
    refine pf_X11_409 X hP hS (k := 7) rfl dX11_undo_23 (fun H locs hP hS => ?_)
    refine lv_aload_n hx hb dX11_undo_26 rfl (lv_at hl 0 rfl) ?_
    refine gf_X11_35 X hP (k := 0) (q := 7) rfl dX11_undo_27 rfl ?_
    refine lv_dup hx hb dX11_undo_30 rfl ?_
    refine gf_X11_412 X hP (k := 7) rfl dX11_undo_31 ?_
    refine lv_iconst (v := 1) hx hb dX11_undo_34 (by decide) ?_
    refine lv_iadd hx hb dX11_undo_35 ?_
    refine pf_X11_412 X hP hS (k := 7) rfl dX11_undo_36 (fun H locs hP hS => ?_)
    refine lv_aload_n hx hb dX11_undo_39 rfl (lv_at hl 0 rfl) ?_
    refine lv_aload_n hx hb dX11_undo_40 rfl (lv_at hl 0 rfl) ?_
    refine gf_X11_35 X hP (k := 0) (q := 7) rfl dX11_undo_41 rfl ?_
    refine gf_X11_409 X hP (k := 7) rfl dX11_undo_44 ?_
    refine lv_aload_n hx hb dX11_undo_47 rfl (lv_at hl 0 rfl) ?_
    refine gf_X11_35 X hP (k := 0) (q := 7) rfl dX11_undo_48 rfl ?_
    refine gf_X11_415 X hP (k := 7) (q := 71) rfl dX11_undo_51 rfl ?_
    obtain ⟨r1, s2, h3, hf⟩ := zbd_some hf
    refine zcallV X hP hS hl.1 (k := 0) (As := [.int ((zS (zS s0 7 4 ((s0.1 7 4) - (1 : Int32))) 7 5 (((zS s0 7 4 ((s0.1 7 4) - (1 : Int32))).1 7 5) + (1 : Int32))).1 7 4), .ref (ad 71)]) (rest := []) (cn_X11_tellChange h3) cw_X11_tellChange zp_11 rfl (by decide) rfl ml_X11_418 (by decide) rfl rfl (Nat.le_of_ble_eq_true rfl) dX11_undo_54 (fun H locs hP hS => ?_)
    refine lv_aload_n hx hb dX11_undo_57 rfl (lv_at hl 0 rfl) ?_
    refine gf_X11_35 X hP (k := 0) (q := 7) rfl dX11_undo_58 rfl ?_
    refine gf_X11_409 X hP (k := 7) rfl dX11_undo_61 ?_
    exact zret_i X hP hS hf rfl dX11_undo_64
  · refine lv_bipush (v := (-5)) hx hb dX11_undo_10 (by decide) ?_
    exact zret_i X hP hS hf rfl dX11_undo_12
theorem dX11_redo_0 : decode cX11_redo 0 = .ok (.aload_n 0, 1) := by decide +kernel
theorem dX11_redo_1 : decode cX11_redo 1 = .ok (.getfield 35, 3) := by decide +kernel
theorem dX11_redo_4 : decode cX11_redo 4 = .ok (.getfield 412, 3) := by decide +kernel
theorem dX11_redo_7 : decode cX11_redo 7 = .ok (.ifCond .ne 6, 3) := by decide +kernel
theorem dX11_redo_10 : decode cX11_redo 10 = .ok (.bipush (-5), 2) := by decide +kernel
theorem dX11_redo_12 : decode cX11_redo 12 = .ok (.ireturn, 1) := by decide +kernel
theorem dX11_redo_13 : decode cX11_redo 13 = .ok (.aload_n 0, 1) := by decide +kernel
theorem dX11_redo_14 : decode cX11_redo 14 = .ok (.aload_n 0, 1) := by decide +kernel
theorem dX11_redo_15 : decode cX11_redo 15 = .ok (.getfield 35, 3) := by decide +kernel
theorem dX11_redo_18 : decode cX11_redo 18 = .ok (.getfield 409, 3) := by decide +kernel
theorem dX11_redo_21 : decode cX11_redo 21 = .ok (.aload_n 0, 1) := by decide +kernel
theorem dX11_redo_22 : decode cX11_redo 22 = .ok (.getfield 35, 3) := by decide +kernel
theorem dX11_redo_25 : decode cX11_redo 25 = .ok (.getfield 422, 3) := by decide +kernel
theorem dX11_redo_28 : decode cX11_redo 28 = .ok (.invokevirtual 418, 3) := by decide +kernel
theorem dX11_redo_31 : decode cX11_redo 31 = .ok (.aload_n 0, 1) := by decide +kernel
theorem dX11_redo_32 : decode cX11_redo 32 = .ok (.getfield 35, 3) := by decide +kernel
theorem dX11_redo_35 : decode cX11_redo 35 = .ok (.dup, 1) := by decide +kernel
theorem dX11_redo_36 : decode cX11_redo 36 = .ok (.getfield 409, 3) := by decide +kernel
theorem dX11_redo_39 : decode cX11_redo 39 = .ok (.iconst 1, 1) := by decide +kernel
theorem dX11_redo_40 : decode cX11_redo 40 = .ok (.iadd, 1) := by decide +kernel
theorem dX11_redo_41 : decode cX11_redo 41 = .ok (.putfield 409, 3) := by decide +kernel
theorem dX11_redo_44 : decode cX11_redo 44 = .ok (.aload_n 0, 1) := by decide +kernel
theorem dX11_redo_45 : decode cX11_redo 45 = .ok (.getfield 35, 3) := by decide +kernel
theorem dX11_redo_48 : decode cX11_redo 48 = .ok (.dup, 1) := by decide +kernel
theorem dX11_redo_49 : decode cX11_redo 49 = .ok (.getfield 412, 3) := by decide +kernel
theorem dX11_redo_52 : decode cX11_redo 52 = .ok (.iconst 1, 1) := by decide +kernel
theorem dX11_redo_53 : decode cX11_redo 53 = .ok (.isub, 1) := by decide +kernel
theorem dX11_redo_54 : decode cX11_redo 54 = .ok (.putfield 412, 3) := by decide +kernel
theorem dX11_redo_57 : decode cX11_redo 57 = .ok (.aload_n 0, 1) := by decide +kernel
theorem dX11_redo_58 : decode cX11_redo 58 = .ok (.getfield 35, 3) := by decide +kernel
theorem dX11_redo_61 : decode cX11_redo 61 = .ok (.getfield 412, 3) := by decide +kernel
theorem dX11_redo_64 : decode cX11_redo 64 = .ok (.ireturn, 1) := by decide +kernel
set_option maxHeartbeats 4000000 in
set_option maxRecDepth 100000 in
theorem cn_X11_redo {l : Launch} {cA : Nat → ClassId} {ad : Nat → Nat} {D : va_G} {E : Nat → Nat} {A : Nat → Prop}  {s0 sr : SS} {rr : Int32} (hf : f_X11_redo s0 = some (rr, sr)) : zCon Ox Nx cA ad D E l yX11_redo cX11_redo 1 (some .int) 2 A [.ref (ad 0)] s0 (some (.int rr)) sr := by
  refine zstart (own := RX11) hOx (by decide) rfl (Nat.le_of_ble_eq_true rfl) ?_
  intro p e s m args below meth c X hP ls hl
  have hx := X.1
  have hb := X.2.1
  have hl : lv_has ls 1 [(0, .ref (ad 0))] := hl
  have hS : va_S A s.heap s.heap [] := va_S.rf
  rw [f_X11_redo] at hf
  refine lv_aload_n hx hb dX11_redo_0 rfl (lv_at hl 0 rfl) ?_
  refine gf_X11_35 X hP (k := 0) (q := 7) rfl dX11_redo_1 rfl ?_
  refine gf_X11_412 X hP (k := 7) rfl dX11_redo_4 ?_
  refine zif_ne (tgt := 13) hx hb dX11_redo_7 (by decide) hf (fun hf => ?_) (fun hf => ?_)
  · refine lv_aload_n hx hb dX11_redo_13 rfl (lv_at hl 0 rfl) ?_
    refine lv_aload_n hx hb dX11_redo_14 rfl (lv_at hl 0 rfl) ?_
    refine gf_X11_35 X hP (k := 0) (q := 7) rfl dX11_redo_15 rfl ?_
    refine gf_X11_409 X hP (k := 7) rfl dX11_redo_18 ?_
    refine lv_aload_n hx hb dX11_redo_21 rfl (lv_at hl 0 rfl) ?_
    refine gf_X11_35 X hP (k := 0) (q := 7) rfl dX11_redo_22 rfl ?_
    refine gf_X11_422 X hP (k := 7) (q := 72) rfl dX11_redo_25 rfl ?_
    obtain ⟨r1, s2, h3, hf⟩ := zbd_some hf
    refine zcallV X hP hS hl.1 (k := 0) (As := [.int (s0.1 7 4), .ref (ad 72)]) (rest := []) (cn_X11_tellChange h3) cw_X11_tellChange zp_11 rfl (by decide) rfl ml_X11_418 (by decide) rfl rfl (Nat.le_of_ble_eq_true rfl) dX11_redo_28 (fun H locs hP hS => ?_)
    refine lv_aload_n hx hb dX11_redo_31 rfl (lv_at hl 0 rfl) ?_
    refine gf_X11_35 X hP (k := 0) (q := 7) rfl dX11_redo_32 rfl ?_
    refine lv_dup hx hb dX11_redo_35 rfl ?_
    refine gf_X11_409 X hP (k := 7) rfl dX11_redo_36 ?_
    refine lv_iconst (v := 1) hx hb dX11_redo_39 (by decide) ?_
    refine lv_iadd hx hb dX11_redo_40 ?_
    refine pf_X11_409 X hP hS (k := 7) rfl dX11_redo_41 (fun H locs hP hS => ?_)
    refine lv_aload_n hx hb dX11_redo_44 rfl (lv_at hl 0 rfl) ?_
    refine gf_X11_35 X hP (k := 0) (q := 7) rfl dX11_redo_45 rfl ?_
    refine lv_dup hx hb dX11_redo_48 rfl ?_
    refine gf_X11_412 X hP (k := 7) rfl dX11_redo_49 ?_
    refine lv_iconst (v := 1) hx hb dX11_redo_52 (by decide) ?_
    refine lv_isub hx hb dX11_redo_53 ?_
    refine pf_X11_412 X hP hS (k := 7) rfl dX11_redo_54 (fun H locs hP hS => ?_)
    refine lv_aload_n hx hb dX11_redo_57 rfl (lv_at hl 0 rfl) ?_
    refine gf_X11_35 X hP (k := 0) (q := 7) rfl dX11_redo_58 rfl ?_
    refine gf_X11_412 X hP (k := 7) rfl dX11_redo_61 ?_
    exact zret_i X hP hS hf rfl dX11_redo_64
  · refine lv_bipush (v := (-5)) hx hb dX11_redo_10 (by decide) ?_
    exact zret_i X hP hS hf rfl dX11_redo_12
theorem dX11_image_0 : decode cX11_image 0 = .ok (.aload_n 0, 1) := by decide +kernel
theorem dX11_image_1 : decode cX11_image 1 = .ok (.getfield 18, 3) := by decide +kernel
theorem dX11_image_4 : decode cX11_image 4 = .ok (.aload_n 0, 1) := by decide +kernel
theorem dX11_image_5 : decode cX11_image 5 = .ok (.getfield 12, 3) := by decide +kernel
theorem dX11_image_8 : decode cX11_image 8 = .ok (.invokevirtual 431, 3) := by decide +kernel
theorem dX11_image_11 : decode cX11_image 11 = .ok (.aload_n 0, 1) := by decide +kernel
theorem dX11_image_12 : decode cX11_image 12 = .ok (.iconst 1, 1) := by decide +kernel
theorem dX11_image_13 : decode cX11_image 13 = .ok (.putfield 21, 3) := by decide +kernel
theorem dX11_image_16 : decode cX11_image 16 = .ok (.aload_n 0, 1) := by decide +kernel
theorem dX11_image_17 : decode cX11_image 17 = .ok (.getfield 18, 3) := by decide +kernel
theorem dX11_image_20 : decode cX11_image 20 = .ok (.getfield 141, 3) := by decide +kernel
theorem dX11_image_23 : decode cX11_image 23 = .ok (.ireturn, 1) := by decide +kernel
set_option maxHeartbeats 4000000 in
set_option maxRecDepth 100000 in
theorem cn_X11_image {l : Launch} {cA : Nat → ClassId} {ad : Nat → Nat} {D : va_G} {E : Nat → Nat} {A : Nat → Prop}  {s0 sr : SS} {rr : Int32} (hf : f_X11_image s0 = some (rr, sr)) : zCon Ox Nx cA ad D E l yX11_image cX11_image 1 (some .int) 3 A [.ref (ad 0)] s0 (some (.int rr)) sr := by
  refine zstart (own := RX11) hOx (by decide) rfl (Nat.le_of_ble_eq_true rfl) ?_
  intro p e s m args below meth c X hP ls hl
  have hx := X.1
  have hb := X.2.1
  have hl : lv_has ls 1 [(0, .ref (ad 0))] := hl
  have hS : va_S A s.heap s.heap [] := va_S.rf
  rw [f_X11_image] at hf
  refine lv_aload_n hx hb dX11_image_0 rfl (lv_at hl 0 rfl) ?_
  refine gf_X11_18 X hP (k := 0) (q := 2) rfl dX11_image_1 rfl ?_
  refine lv_aload_n hx hb dX11_image_4 rfl (lv_at hl 0 rfl) ?_
  refine gf_X11_12 X hP (k := 0) (q := 1) rfl dX11_image_5 rfl ?_
  obtain ⟨r1, s2, h3, hf⟩ := zbd_some hf
  refine zcallV X hP hS hl.1 (k := 2) (As := [.ref (ad 1)]) (rest := []) (cn_X3_takeOver h3) cw_X3_takeOver zp_3 rfl (by decide) rfl ml_X11_431 (by decide) rfl rfl (Nat.le_of_ble_eq_true rfl) dX11_image_8 (fun H locs hP hS => ?_)
  refine lv_aload_n hx hb dX11_image_11 rfl (lv_at hl 0 rfl) ?_
  refine lv_iconst (v := 1) hx hb dX11_image_12 (by decide) ?_
  refine pf_X11_21 X hP hS (k := 0) rfl (by decide) dX11_image_13 (fun H locs hP hS => ?_)
  refine lv_aload_n hx hb dX11_image_16 rfl (lv_at hl 0 rfl) ?_
  refine gf_X11_18 X hP (k := 0) (q := 2) rfl dX11_image_17 rfl ?_
  refine gf_X11_141 X hP (k := 2) rfl dX11_image_20 ?_
  exact zret_i X hP hS hf rfl dX11_image_23
theorem dX11_alike_0 : decode cX11_alike 0 = .ok (.aload_n 0, 1) := by decide +kernel
theorem dX11_alike_1 : decode cX11_alike 1 = .ok (.getfield 21, 3) := by decide +kernel
theorem dX11_alike_4 : decode cX11_alike 4 = .ok (.ifCond .ne 6, 3) := by decide +kernel
theorem dX11_alike_7 : decode cX11_alike 7 = .ok (.bipush (-5), 2) := by decide +kernel
theorem dX11_alike_9 : decode cX11_alike 9 = .ok (.ireturn, 1) := by decide +kernel
theorem dX11_alike_10 : decode cX11_alike 10 = .ok (.aload_n 0, 1) := by decide +kernel
theorem dX11_alike_11 : decode cX11_alike 11 = .ok (.getfield 12, 3) := by decide +kernel
theorem dX11_alike_14 : decode cX11_alike 14 = .ok (.aload_n 0, 1) := by decide +kernel
theorem dX11_alike_15 : decode cX11_alike 15 = .ok (.getfield 18, 3) := by decide +kernel
theorem dX11_alike_18 : decode cX11_alike 18 = .ok (.aload_n 0, 1) := by decide +kernel
theorem dX11_alike_19 : decode cX11_alike 19 = .ok (.getfield 28, 3) := by decide +kernel
theorem dX11_alike_22 : decode cX11_alike 22 = .ok (.getfield 84, 3) := by decide +kernel
theorem dX11_alike_25 : decode cX11_alike 25 = .ok (.getfield 125, 3) := by decide +kernel
theorem dX11_alike_28 : decode cX11_alike 28 = .ok (.invokevirtual 435, 3) := by decide +kernel
theorem dX11_alike_31 : decode cX11_alike 31 = .ok (.ifCond .eq 7, 3) := by decide +kernel
theorem dX11_alike_34 : decode cX11_alike 34 = .ok (.iconst 1, 1) := by decide +kernel
theorem dX11_alike_35 : decode cX11_alike 35 = .ok (.goto 4, 3) := by decide +kernel
theorem dX11_alike_38 : decode cX11_alike 38 = .ok (.iconst 0, 1) := by decide +kernel
theorem dX11_alike_39 : decode cX11_alike 39 = .ok (.ireturn, 1) := by decide +kernel
set_option maxHeartbeats 4000000 in
set_option maxRecDepth 100000 in
theorem cn_X11_alike {l : Launch} {cA : Nat → ClassId} {ad : Nat → Nat} {D : va_G} {E : Nat → Nat} {A : Nat → Prop}  {s0 sr : SS} {rr : Int32} (hf : f_X11_alike s0 = some (rr, sr)) : zCon Ox Nx cA ad D E l yX11_alike cX11_alike 1 (some .int) 2 A [.ref (ad 0)] s0 (some (.int rr)) sr := by
  refine zstart (own := RX11) hOx (by decide) rfl (Nat.le_of_ble_eq_true rfl) ?_
  intro p e s m args below meth c X hP ls hl
  have hx := X.1
  have hb := X.2.1
  have hl : lv_has ls 1 [(0, .ref (ad 0))] := hl
  have hS : va_S A s.heap s.heap [] := va_S.rf
  rw [f_X11_alike] at hf
  refine lv_aload_n hx hb dX11_alike_0 rfl (lv_at hl 0 rfl) ?_
  refine gf_X11_21 X hP (k := 0) rfl dX11_alike_1 ?_
  refine zif_ne (tgt := 10) hx hb dX11_alike_4 (by decide) hf (fun hf => ?_) (fun hf => ?_)
  · refine lv_aload_n hx hb dX11_alike_10 rfl (lv_at hl 0 rfl) ?_
    refine gf_X11_12 X hP (k := 0) (q := 1) rfl dX11_alike_11 rfl ?_
    refine lv_aload_n hx hb dX11_alike_14 rfl (lv_at hl 0 rfl) ?_
    refine gf_X11_18 X hP (k := 0) (q := 2) rfl dX11_alike_15 rfl ?_
    refine lv_aload_n hx hb dX11_alike_18 rfl (lv_at hl 0 rfl) ?_
    refine gf_X11_28 X hP (k := 0) (q := 5) rfl dX11_alike_19 rfl ?_
    refine gf_X11_84 X hP (k := 5) (q := 6) rfl dX11_alike_22 rfl ?_
    refine gf_X11_125 X hP (k := 6) rfl dX11_alike_25 ?_
    obtain ⟨r1, s2, h3, hf⟩ := zbd_some hf
    refine zcallV X hP hS hl.1 (k := 1) (As := [.ref (ad 2), .int (s0.1 6 2)]) (rest := []) (cn_X3_isAs h3) cw_X3_isAs zp_3 rfl (by decide) rfl ml_X11_435 (by decide) rfl rfl (Nat.le_of_ble_eq_true rfl) dX11_alike_28 (fun H locs hP hS => ?_)
    refine zif_eq (tgt := 38) hx hb dX11_alike_31 (by decide) hf (fun hf => ?_) (fun hf => ?_)
    · refine lv_iconst (v := 0) hx hb dX11_alike_38 (by decide) ?_
      exact zret_i X hP hS hf rfl dX11_alike_39
    · refine lv_iconst (v := 1) hx hb dX11_alike_34 (by decide) ?_
      refine lv_goto (tgt := 39) hx hb dX11_alike_35 (by decide) ?_
      exact zret_i X hP hS hf rfl dX11_alike_39
  · refine lv_bipush (v := (-5)) hx hb dX11_alike_7 (by decide) ?_
    exact zret_i X hP hS hf rfl dX11_alike_9
theorem dX11_back_0 : decode cX11_back 0 = .ok (.aload_n 0, 1) := by decide +kernel
theorem dX11_back_1 : decode cX11_back 1 = .ok (.getfield 21, 3) := by decide +kernel
theorem dX11_back_4 : decode cX11_back 4 = .ok (.ifCond .ne 6, 3) := by decide +kernel
theorem dX11_back_7 : decode cX11_back 7 = .ok (.bipush (-5), 2) := by decide +kernel
theorem dX11_back_9 : decode cX11_back 9 = .ok (.ireturn, 1) := by decide +kernel
theorem dX11_back_10 : decode cX11_back 10 = .ok (.aload_n 0, 1) := by decide +kernel
theorem dX11_back_11 : decode cX11_back 11 = .ok (.getfield 12, 3) := by decide +kernel
theorem dX11_back_14 : decode cX11_back 14 = .ok (.aload_n 0, 1) := by decide +kernel
theorem dX11_back_15 : decode cX11_back 15 = .ok (.getfield 18, 3) := by decide +kernel
theorem dX11_back_18 : decode cX11_back 18 = .ok (.invokevirtual 431, 3) := by decide +kernel
theorem dX11_back_21 : decode cX11_back 21 = .ok (.aload_n 0, 1) := by decide +kernel
theorem dX11_back_22 : decode cX11_back 22 = .ok (.getfield 28, 3) := by decide +kernel
theorem dX11_back_25 : decode cX11_back 25 = .ok (.getfield 84, 3) := by decide +kernel
theorem dX11_back_28 : decode cX11_back 28 = .ok (.aload_n 0, 1) := by decide +kernel
theorem dX11_back_29 : decode cX11_back 29 = .ok (.getfield 12, 3) := by decide +kernel
theorem dX11_back_32 : decode cX11_back 32 = .ok (.getfield 74, 3) := by decide +kernel
theorem dX11_back_35 : decode cX11_back 35 = .ok (.invokevirtual 88, 3) := by decide +kernel
theorem dX11_back_38 : decode cX11_back 38 = .ok (.aload_n 0, 1) := by decide +kernel
theorem dX11_back_39 : decode cX11_back 39 = .ok (.getfield 35, 3) := by decide +kernel
theorem dX11_back_42 : decode cX11_back 42 = .ok (.invokevirtual 142, 3) := by decide +kernel
theorem dX11_back_45 : decode cX11_back 45 = .ok (.aload_n 0, 1) := by decide +kernel
theorem dX11_back_46 : decode cX11_back 46 = .ok (.getfield 12, 3) := by decide +kernel
theorem dX11_back_49 : decode cX11_back 49 = .ok (.getfield 141, 3) := by decide +kernel
theorem dX11_back_52 : decode cX11_back 52 = .ok (.ireturn, 1) := by decide +kernel
set_option maxHeartbeats 4000000 in
set_option maxRecDepth 100000 in
theorem cn_X11_back {l : Launch} {cA : Nat → ClassId} {ad : Nat → Nat} {D : va_G} {E : Nat → Nat} {A : Nat → Prop}  {s0 sr : SS} {rr : Int32} (hf : f_X11_back s0 = some (rr, sr)) : zCon Ox Nx cA ad D E l yX11_back cX11_back 1 (some .int) 5 A [.ref (ad 0)] s0 (some (.int rr)) sr := by
  refine zstart (own := RX11) hOx (by decide) rfl (Nat.le_of_ble_eq_true rfl) ?_
  intro p e s m args below meth c X hP ls hl
  have hx := X.1
  have hb := X.2.1
  have hl : lv_has ls 1 [(0, .ref (ad 0))] := hl
  have hS : va_S A s.heap s.heap [] := va_S.rf
  rw [f_X11_back] at hf
  refine lv_aload_n hx hb dX11_back_0 rfl (lv_at hl 0 rfl) ?_
  refine gf_X11_21 X hP (k := 0) rfl dX11_back_1 ?_
  refine zif_ne (tgt := 10) hx hb dX11_back_4 (by decide) hf (fun hf => ?_) (fun hf => ?_)
  · refine lv_aload_n hx hb dX11_back_10 rfl (lv_at hl 0 rfl) ?_
    refine gf_X11_12 X hP (k := 0) (q := 1) rfl dX11_back_11 rfl ?_
    refine lv_aload_n hx hb dX11_back_14 rfl (lv_at hl 0 rfl) ?_
    refine gf_X11_18 X hP (k := 0) (q := 2) rfl dX11_back_15 rfl ?_
    obtain ⟨r1, s2, h3, hf⟩ := zbd_some hf
    refine zcallV X hP hS hl.1 (k := 1) (As := [.ref (ad 2)]) (rest := []) (cn_X3_takeOver h3) cw_X3_takeOver zp_3 rfl (by decide) rfl ml_X11_431 (by decide) rfl rfl (Nat.le_of_ble_eq_true rfl) dX11_back_18 (fun H locs hP hS => ?_)
    refine lv_aload_n hx hb dX11_back_21 rfl (lv_at hl 0 rfl) ?_
    refine gf_X11_28 X hP (k := 0) (q := 5) rfl dX11_back_22 rfl ?_
    refine gf_X11_84 X hP (k := 5) (q := 6) rfl dX11_back_25 rfl ?_
    refine lv_aload_n hx hb dX11_back_28 rfl (lv_at hl 0 rfl) ?_
    refine gf_X11_12 X hP (k := 0) (q := 1) rfl dX11_back_29 rfl ?_
    refine gf_X11_74 X hP (k := 1) (q := 3) rfl dX11_back_32 rfl ?_
    obtain ⟨r4, s5, h6, hf⟩ := zbd_some hf
    refine zcallV X hP hS hl.1 (k := 6) (As := [.ref (ad 3)]) (rest := []) (cn_X10_layOut h6) cw_X10_layOut zp_10 rfl (by decide) rfl ml_X11_88 (by decide) rfl rfl (Nat.le_of_ble_eq_true rfl) dX11_back_35 (fun H locs hP hS => ?_)
    refine lv_aload_n hx hb dX11_back_38 rfl (lv_at hl 0 rfl) ?_
    refine gf_X11_35 X hP (k := 0) (q := 7) rfl dX11_back_39 rfl ?_
    obtain ⟨r7, s8, h9, hf⟩ := zbd_some hf
    refine zcallV X hP hS hl.1 (k := 7) (As := []) (rest := []) (cn_X1_forget h9) cw_X1_forget zp_1 rfl (by decide) rfl ml_X11_142 (by decide) rfl rfl (Nat.le_of_ble_eq_true rfl) dX11_back_42 (fun H locs hP hS => ?_)
    refine lv_aload_n hx hb dX11_back_45 rfl (lv_at hl 0 rfl) ?_
    refine gf_X11_12 X hP (k := 0) (q := 1) rfl dX11_back_46 rfl ?_
    refine gf_X11_141 X hP (k := 1) rfl dX11_back_49 ?_
    exact zret_i X hP hS hf rfl dX11_back_52
  · refine lv_bipush (v := (-5)) hx hb dX11_back_7 (by decide) ?_
    exact zret_i X hP hS hf rfl dX11_back_9
theorem dX11_count_0 : decode cX11_count 0 = .ok (.iload_n 1, 1) := by decide +kernel
theorem dX11_count_1 : decode cX11_count 1 = .ok (.tableswitch 87 0 5 #[39, 47, 55, 63, 71, 79], 39) := by decide +kernel
theorem dX11_count_40 : decode cX11_count 40 = .ok (.aload_n 0, 1) := by decide +kernel
theorem dX11_count_41 : decode cX11_count 41 = .ok (.getfield 12, 3) := by decide +kernel
theorem dX11_count_44 : decode cX11_count 44 = .ok (.getfield 141, 3) := by decide +kernel
theorem dX11_count_47 : decode cX11_count 47 = .ok (.ireturn, 1) := by decide +kernel
theorem dX11_count_48 : decode cX11_count 48 = .ok (.aload_n 0, 1) := by decide +kernel
theorem dX11_count_49 : decode cX11_count 49 = .ok (.getfield 35, 3) := by decide +kernel
theorem dX11_count_52 : decode cX11_count 52 = .ok (.getfield 409, 3) := by decide +kernel
theorem dX11_count_55 : decode cX11_count 55 = .ok (.ireturn, 1) := by decide +kernel
theorem dX11_count_56 : decode cX11_count 56 = .ok (.aload_n 0, 1) := by decide +kernel
theorem dX11_count_57 : decode cX11_count 57 = .ok (.getfield 35, 3) := by decide +kernel
theorem dX11_count_60 : decode cX11_count 60 = .ok (.getfield 412, 3) := by decide +kernel
theorem dX11_count_63 : decode cX11_count 63 = .ok (.ireturn, 1) := by decide +kernel
theorem dX11_count_64 : decode cX11_count 64 = .ok (.aload_n 0, 1) := by decide +kernel
theorem dX11_count_65 : decode cX11_count 65 = .ok (.getfield 42, 3) := by decide +kernel
theorem dX11_count_68 : decode cX11_count 68 = .ok (.getfield 330, 3) := by decide +kernel
theorem dX11_count_71 : decode cX11_count 71 = .ok (.ireturn, 1) := by decide +kernel
theorem dX11_count_72 : decode cX11_count 72 = .ok (.aload_n 0, 1) := by decide +kernel
theorem dX11_count_73 : decode cX11_count 73 = .ok (.getfield 56, 3) := by decide +kernel
theorem dX11_count_76 : decode cX11_count 76 = .ok (.invokevirtual 371, 3) := by decide +kernel
theorem dX11_count_79 : decode cX11_count 79 = .ok (.ireturn, 1) := by decide +kernel
theorem dX11_count_80 : decode cX11_count 80 = .ok (.aload_n 0, 1) := by decide +kernel
theorem dX11_count_81 : decode cX11_count 81 = .ok (.getfield 63, 3) := by decide +kernel
theorem dX11_count_84 : decode cX11_count 84 = .ok (.invokevirtual 439, 3) := by decide +kernel
theorem dX11_count_87 : decode cX11_count 87 = .ok (.ireturn, 1) := by decide +kernel
theorem dX11_count_88 : decode cX11_count 88 = .ok (.iconst (-1), 1) := by decide +kernel
theorem dX11_count_89 : decode cX11_count 89 = .ok (.ireturn, 1) := by decide +kernel
set_option maxHeartbeats 4000000 in
set_option maxRecDepth 100000 in
theorem cn_X11_count {l : Launch} {cA : Nat → ClassId} {ad : Nat → Nat} {D : va_G} {E : Nat → Nat} {A : Nat → Prop} {x1 : Int32} {s0 sr : SS} {rr : Int32} (hf : f_X11_count x1 s0 = some (rr, sr)) : zCon Ox Nx cA ad D E l yX11_count cX11_count 2 (some .int) 3 A [.ref (ad 0), .int x1] s0 (some (.int rr)) sr := by
  refine zstart (own := RX11) hOx (by decide) rfl (Nat.le_of_ble_eq_true rfl) ?_
  intro p e s m args below meth c X hP ls hl
  have hx := X.1
  have hb := X.2.1
  have hl : lv_has ls 2 [(0, .ref (ad 0)), (1, .int x1)] := hl
  have hS : va_S A s.heap s.heap [] := va_S.rf
  rw [f_X11_count] at hf
  refine lv_iload_n hx hb dX11_count_0 rfl (lv_at hl 1 rfl) ?_
  by_cases e1 : x1 = 0
  · rw [if_pos e1] at hf
    refine lv_tableIn (tgt := 40) (off := 39) hx hb dX11_count_1 (by rw [e1]; decide) (by rw [e1]; decide) (by rw [e1]; decide +kernel) (by decide) ?_
    refine lv_aload_n hx hb dX11_count_40 rfl (lv_at hl 0 rfl) ?_
    refine gf_X11_12 X hP (k := 0) (q := 1) rfl dX11_count_41 rfl ?_
    refine gf_X11_141 X hP (k := 1) rfl dX11_count_44 ?_
    exact zret_i X hP hS hf rfl dX11_count_47
  · rw [if_neg e1] at hf
    by_cases e2 : x1 = 1
    · rw [if_pos e2] at hf
      refine lv_tableIn (tgt := 48) (off := 47) hx hb dX11_count_1 (by rw [e2]; decide) (by rw [e2]; decide) (by rw [e2]; decide +kernel) (by decide) ?_
      refine lv_aload_n hx hb dX11_count_48 rfl (lv_at hl 0 rfl) ?_
      refine gf_X11_35 X hP (k := 0) (q := 7) rfl dX11_count_49 rfl ?_
      refine gf_X11_409 X hP (k := 7) rfl dX11_count_52 ?_
      exact zret_i X hP hS hf rfl dX11_count_55
    · rw [if_neg e2] at hf
      by_cases e3 : x1 = 2
      · rw [if_pos e3] at hf
        refine lv_tableIn (tgt := 56) (off := 55) hx hb dX11_count_1 (by rw [e3]; decide) (by rw [e3]; decide) (by rw [e3]; decide +kernel) (by decide) ?_
        refine lv_aload_n hx hb dX11_count_56 rfl (lv_at hl 0 rfl) ?_
        refine gf_X11_35 X hP (k := 0) (q := 7) rfl dX11_count_57 rfl ?_
        refine gf_X11_412 X hP (k := 7) rfl dX11_count_60 ?_
        exact zret_i X hP hS hf rfl dX11_count_63
      · rw [if_neg e3] at hf
        by_cases e4 : x1 = 3
        · rw [if_pos e4] at hf
          refine lv_tableIn (tgt := 64) (off := 63) hx hb dX11_count_1 (by rw [e4]; decide) (by rw [e4]; decide) (by rw [e4]; decide +kernel) (by decide) ?_
          refine lv_aload_n hx hb dX11_count_64 rfl (lv_at hl 0 rfl) ?_
          refine gf_X11_42 X hP (k := 0) (q := 8) rfl dX11_count_65 rfl ?_
          refine gf_X11_330 X hP (k := 8) rfl dX11_count_68 ?_
          exact zret_i X hP hS hf rfl dX11_count_71
        · rw [if_neg e4] at hf
          by_cases e5 : x1 = 4
          · rw [if_pos e5] at hf
            refine lv_tableIn (tgt := 72) (off := 71) hx hb dX11_count_1 (by rw [e5]; decide) (by rw [e5]; decide) (by rw [e5]; decide +kernel) (by decide) ?_
            refine lv_aload_n hx hb dX11_count_72 rfl (lv_at hl 0 rfl) ?_
            refine gf_X11_56 X hP (k := 0) (q := 10) rfl dX11_count_73 rfl ?_
            obtain ⟨r6, s7, h8, hf⟩ := zbd_some hf
            refine zcallV X hP hS hl.1 (k := 10) (As := []) (rest := []) (cn_X6_kept h8) cw_X6_kept zp_6 rfl (by decide) rfl ml_X11_371 (by decide) rfl rfl (Nat.le_of_ble_eq_true rfl) dX11_count_76 (fun H locs hP hS => ?_)
            exact zret_i X hP hS hf rfl dX11_count_79
          · rw [if_neg e5] at hf
            by_cases e9 : x1 = 5
            · rw [if_pos e9] at hf
              refine lv_tableIn (tgt := 80) (off := 79) hx hb dX11_count_1 (by rw [e9]; decide) (by rw [e9]; decide) (by rw [e9]; decide +kernel) (by decide) ?_
              refine lv_aload_n hx hb dX11_count_80 rfl (lv_at hl 0 rfl) ?_
              refine gf_X11_63 X hP (k := 0) (q := 11) rfl dX11_count_81 rfl ?_
              obtain ⟨r10, s11, h12, hf⟩ := zbd_some hf
              refine zcallV X hP hS hl.1 (k := 11) (As := []) (rest := []) (cn_X5_howManyThere h12) cw_X5_howManyThere zp_5 rfl (by decide) rfl ml_X11_439 (by decide) rfl rfl (Nat.le_of_ble_eq_true rfl) dX11_count_84 (fun H locs hP hS => ?_)
              exact zret_i X hP hS hf rfl dX11_count_87
            · rw [if_neg e9] at hf
              have ye1 := zne e1 (v := 0) (by decide)
              have ye2 := zne e2 (v := 1) (by decide)
              have ye3 := zne e3 (v := 2) (by decide)
              have ye4 := zne e4 (v := 3) (by decide)
              have ye5 := zne e5 (v := 4) (by decide)
              have ye9 := zne e9 (v := 5) (by decide)
              refine lv_tableOut (tgt := 88) hx hb dX11_count_1 (by omega) (by decide) ?_
              refine lv_iconst (v := (-1)) hx hb dX11_count_88 (by decide) ?_
              exact zret_i X hP hS hf rfl dX11_count_89
theorem dX12_in_0 : decode cX12_in 0 = .ok (.lload_n 0, 1) := by decide +kernel
theorem dX12_in_1 : decode cX12_in 1 = .ok (.lload_n 2, 1) := by decide +kernel
theorem dX12_in_2 : decode cX12_in 2 = .ok (.lcmp, 1) := by decide +kernel
theorem dX12_in_3 : decode cX12_in 3 = .ok (.ifCond .lt 14, 3) := by decide +kernel
theorem dX12_in_6 : decode cX12_in 6 = .ok (.lload_n 0, 1) := by decide +kernel
theorem dX12_in_7 : decode cX12_in 7 = .ok (.lload 4, 2) := by decide +kernel
theorem dX12_in_9 : decode cX12_in 9 = .ok (.lcmp, 1) := by decide +kernel
theorem dX12_in_10 : decode cX12_in 10 = .ok (.ifCond .gt 7, 3) := by decide +kernel
theorem dX12_in_13 : decode cX12_in 13 = .ok (.iconst 1, 1) := by decide +kernel
theorem dX12_in_14 : decode cX12_in 14 = .ok (.goto 4, 3) := by decide +kernel
theorem dX12_in_17 : decode cX12_in 17 = .ok (.iconst 0, 1) := by decide +kernel
theorem dX12_in_18 : decode cX12_in 18 = .ok (.ireturn, 1) := by decide +kernel
set_option maxHeartbeats 4000000 in
set_option maxRecDepth 100000 in
theorem cn_X12_in {l : Launch} {cA : Nat → ClassId} {ad : Nat → Nat} {D : va_G} {E : Nat → Nat} {A : Nat → Prop} {x0 : Int64} {x2 : Int64} {x4 : Int64} {s0 sr : SS} {rr : Int32} (hf : f_X12_in x0 x2 x4 s0 = some (rr, sr)) : zCon Om Nm cA ad D E l yX12_in cX12_in 6 (some .boolean) 0 A [.long x0, .long x2, .long x4] s0 (some (.int rr)) sr := by
  refine zstart (own := RX12) hOm (by decide) rfl (Nat.le_of_ble_eq_true rfl) ?_
  intro p e s m args below meth c X hP ls hl
  have hx := X.1
  have hb := X.2.1
  have hl : lv_has ls 6 [(0, .long x0), (2, .long x2), (4, .long x4)] := hl
  have hS : va_S A s.heap s.heap [] := va_S.rf
  rw [f_X12_in] at hf
  refine lv_lload_n hx hb dX12_in_0 rfl (lv_at hl 0 rfl) ?_
  refine lv_lload_n hx hb dX12_in_1 rfl (lv_at hl 1 rfl) ?_
  refine W.lcmp hx hb dX12_in_2 ?_
  refine zif_lt (tgt := 17) hx hb dX12_in_3 (by decide) hf (fun hf => ?_) (fun hf => ?_)
  · refine lv_iconst (v := 0) hx hb dX12_in_17 (by decide) ?_
    exact zret_i X hP hS hf rfl dX12_in_18
  · refine lv_lload_n hx hb dX12_in_6 rfl (lv_at hl 0 rfl) ?_
    refine lv_lload hx hb dX12_in_7 (lv_at hl 2 rfl) ?_
    refine W.lcmp hx hb dX12_in_9 ?_
    refine zif_gt (tgt := 17) hx hb dX12_in_10 (by decide) hf (fun hf => ?_) (fun hf => ?_)
    · refine lv_iconst (v := 0) hx hb dX12_in_17 (by decide) ?_
      exact zret_i X hP hS hf rfl dX12_in_18
    · refine lv_iconst (v := 1) hx hb dX12_in_13 (by decide) ?_
      refine lv_goto (tgt := 18) hx hb dX12_in_14 (by decide) ?_
      exact zret_i X hP hS hf rfl dX12_in_18
theorem dX12_letters_0 : decode cX12_letters 0 = .ok (.aload_n 0, 1) := by decide +kernel
theorem dX12_letters_1 : decode cX12_letters 1 = .ok (.getfield 3, 3) := by decide +kernel
theorem dX12_letters_4 : decode cX12_letters 4 = .ok (.ifCond .ne 15, 3) := by decide +kernel
theorem dX12_letters_7 : decode cX12_letters 7 = .ok (.aload_n 0, 1) := by decide +kernel
theorem dX12_letters_8 : decode cX12_letters 8 = .ok (.getfield 9, 3) := by decide +kernel
theorem dX12_letters_11 : decode cX12_letters 11 = .ok (.aload_n 0, 1) := by decide +kernel
theorem dX12_letters_12 : decode cX12_letters 12 = .ok (.getfield 12, 3) := by decide +kernel
theorem dX12_letters_15 : decode cX12_letters 15 = .ok (.iadd, 1) := by decide +kernel
theorem dX12_letters_16 : decode cX12_letters 16 = .ok (.goto 21, 3) := by decide +kernel
theorem dX12_letters_19 : decode cX12_letters 19 = .ok (.aload_n 0, 1) := by decide +kernel
theorem dX12_letters_20 : decode cX12_letters 20 = .ok (.getfield 3, 3) := by decide +kernel
theorem dX12_letters_23 : decode cX12_letters 23 = .ok (.iconst 1, 1) := by decide +kernel
theorem dX12_letters_24 : decode cX12_letters 24 = .ok (.if_icmp .ne 12, 3) := by decide +kernel
theorem dX12_letters_27 : decode cX12_letters 27 = .ok (.iconst 1, 1) := by decide +kernel
theorem dX12_letters_28 : decode cX12_letters 28 = .ok (.aload_n 0, 1) := by decide +kernel
theorem dX12_letters_29 : decode cX12_letters 29 = .ok (.getfield 12, 3) := by decide +kernel
theorem dX12_letters_32 : decode cX12_letters 32 = .ok (.iadd, 1) := by decide +kernel
theorem dX12_letters_33 : decode cX12_letters 33 = .ok (.goto 4, 3) := by decide +kernel
theorem dX12_letters_36 : decode cX12_letters 36 = .ok (.iconst 2, 1) := by decide +kernel
theorem dX12_letters_37 : decode cX12_letters 37 = .ok (.ireturn, 1) := by decide +kernel
set_option maxHeartbeats 4000000 in
set_option maxRecDepth 100000 in
theorem cn_X12_letters {l : Launch} {cA : Nat → ClassId} {ad : Nat → Nat} {D : va_G} {E : Nat → Nat} {A : Nat → Prop}  {s0 sr : SS} {rr : Int32} (hf : f_X12_letters s0 = some (rr, sr)) : zCon Om Nm cA ad D E l yX12_letters cX12_letters 1 (some .int) 0 A [.ref (ad 0)] s0 (some (.int rr)) sr := by
  refine zstart (own := RX12) hOm (by decide) rfl (Nat.le_of_ble_eq_true rfl) ?_
  intro p e s m args below meth c X hP ls hl
  have hx := X.1
  have hb := X.2.1
  have hl : lv_has ls 1 [(0, .ref (ad 0))] := hl
  have hS : va_S A s.heap s.heap [] := va_S.rf
  rw [f_X12_letters] at hf
  refine lv_aload_n hx hb dX12_letters_0 rfl (lv_at hl 0 rfl) ?_
  refine gf_X12_3 X hP (k := 0) rfl dX12_letters_1 ?_
  refine zif_ne (tgt := 19) hx hb dX12_letters_4 (by decide) hf (fun hf => ?_) (fun hf => ?_)
  · refine lv_aload_n hx hb dX12_letters_19 rfl (lv_at hl 0 rfl) ?_
    refine gf_X12_3 X hP (k := 0) rfl dX12_letters_20 ?_
    refine lv_iconst (v := 1) hx hb dX12_letters_23 (by decide) ?_
    refine zicmp_ne (tgt := 36) hx hb dX12_letters_24 (by decide) hf (fun hf => ?_) (fun hf => ?_)
    · refine lv_iconst (v := 2) hx hb dX12_letters_36 (by decide) ?_
      exact zret_i X hP hS hf rfl dX12_letters_37
    · refine lv_iconst (v := 1) hx hb dX12_letters_27 (by decide) ?_
      refine lv_aload_n hx hb dX12_letters_28 rfl (lv_at hl 0 rfl) ?_
      refine gf_X12_12 X hP (k := 0) rfl dX12_letters_29 ?_
      refine lv_iadd hx hb dX12_letters_32 ?_
      refine lv_goto (tgt := 37) hx hb dX12_letters_33 (by decide) ?_
      exact zret_i X hP hS hf rfl dX12_letters_37
  · refine lv_aload_n hx hb dX12_letters_7 rfl (lv_at hl 0 rfl) ?_
    refine gf_X12_9 X hP (k := 0) rfl dX12_letters_8 ?_
    refine lv_aload_n hx hb dX12_letters_11 rfl (lv_at hl 0 rfl) ?_
    refine gf_X12_12 X hP (k := 0) rfl dX12_letters_12 ?_
    refine lv_iadd hx hb dX12_letters_15 ?_
    refine lv_goto (tgt := 37) hx hb dX12_letters_16 (by decide) ?_
    exact zret_i X hP hS hf rfl dX12_letters_37
theorem dX12_nameOf_0 : decode cX12_nameOf 0 = .ok (.aload_n 0, 1) := by decide +kernel
theorem dX12_nameOf_1 : decode cX12_nameOf 1 = .ok (.getfield 3, 3) := by decide +kernel
theorem dX12_nameOf_4 : decode cX12_nameOf 4 = .ok (.iconst 2, 1) := by decide +kernel
theorem dX12_nameOf_5 : decode cX12_nameOf 5 = .ok (.if_icmp .ne 15, 3) := by decide +kernel
theorem dX12_nameOf_8 : decode cX12_nameOf 8 = .ok (.iload_n 1, 1) := by decide +kernel
theorem dX12_nameOf_9 : decode cX12_nameOf 9 = .ok (.ifCond .ne 8, 3) := by decide +kernel
theorem dX12_nameOf_12 : decode cX12_nameOf 12 = .ok (.bipush 97, 2) := by decide +kernel
theorem dX12_nameOf_14 : decode cX12_nameOf 14 = .ok (.goto 5, 3) := by decide +kernel
theorem dX12_nameOf_17 : decode cX12_nameOf 17 = .ok (.bipush 118, 2) := by decide +kernel
theorem dX12_nameOf_19 : decode cX12_nameOf 19 = .ok (.ireturn, 1) := by decide +kernel
theorem dX12_nameOf_20 : decode cX12_nameOf 20 = .ok (.aload_n 0, 1) := by decide +kernel
theorem dX12_nameOf_21 : decode cX12_nameOf 21 = .ok (.getfield 3, 3) := by decide +kernel
theorem dX12_nameOf_24 : decode cX12_nameOf 24 = .ok (.iconst 1, 1) := by decide +kernel
theorem dX12_nameOf_25 : decode cX12_nameOf 25 = .ok (.if_icmp .ne 17, 3) := by decide +kernel
theorem dX12_nameOf_28 : decode cX12_nameOf 28 = .ok (.iload_n 1, 1) := by decide +kernel
theorem dX12_nameOf_29 : decode cX12_nameOf 29 = .ok (.ifCond .ne 8, 3) := by decide +kernel
theorem dX12_nameOf_32 : decode cX12_nameOf 32 = .ok (.bipush 97, 2) := by decide +kernel
theorem dX12_nameOf_34 : decode cX12_nameOf 34 = .ok (.goto 7, 3) := by decide +kernel
theorem dX12_nameOf_37 : decode cX12_nameOf 37 = .ok (.bipush 116, 2) := by decide +kernel
theorem dX12_nameOf_39 : decode cX12_nameOf 39 = .ok (.iload_n 1, 1) := by decide +kernel
theorem dX12_nameOf_40 : decode cX12_nameOf 40 = .ok (.iadd, 1) := by decide +kernel
theorem dX12_nameOf_41 : decode cX12_nameOf 41 = .ok (.ireturn, 1) := by decide +kernel
theorem dX12_nameOf_42 : decode cX12_nameOf 42 = .ok (.iload_n 1, 1) := by decide +kernel
theorem dX12_nameOf_43 : decode cX12_nameOf 43 = .ok (.aload_n 0, 1) := by decide +kernel
theorem dX12_nameOf_44 : decode cX12_nameOf 44 = .ok (.getfield 9, 3) := by decide +kernel
theorem dX12_nameOf_47 : decode cX12_nameOf 47 = .ok (.if_icmp .ge 10, 3) := by decide +kernel
theorem dX12_nameOf_50 : decode cX12_nameOf 50 = .ok (.bipush 97, 2) := by decide +kernel
theorem dX12_nameOf_52 : decode cX12_nameOf 52 = .ok (.iload_n 1, 1) := by decide +kernel
theorem dX12_nameOf_53 : decode cX12_nameOf 53 = .ok (.iadd, 1) := by decide +kernel
theorem dX12_nameOf_54 : decode cX12_nameOf 54 = .ok (.goto 12, 3) := by decide +kernel
theorem dX12_nameOf_57 : decode cX12_nameOf 57 = .ok (.bipush 112, 2) := by decide +kernel
theorem dX12_nameOf_59 : decode cX12_nameOf 59 = .ok (.iload_n 1, 1) := by decide +kernel
theorem dX12_nameOf_60 : decode cX12_nameOf 60 = .ok (.iadd, 1) := by decide +kernel
theorem dX12_nameOf_61 : decode cX12_nameOf 61 = .ok (.aload_n 0, 1) := by decide +kernel
theorem dX12_nameOf_62 : decode cX12_nameOf 62 = .ok (.getfield 9, 3) := by decide +kernel
theorem dX12_nameOf_65 : decode cX12_nameOf 65 = .ok (.isub, 1) := by decide +kernel
theorem dX12_nameOf_66 : decode cX12_nameOf 66 = .ok (.ireturn, 1) := by decide +kernel
set_option maxHeartbeats 4000000 in
set_option maxRecDepth 100000 in
theorem cn_X12_nameOf {l : Launch} {cA : Nat → ClassId} {ad : Nat → Nat} {D : va_G} {E : Nat → Nat} {A : Nat → Prop} {x1 : Int32} {s0 sr : SS} {rr : Int32} (hf : f_X12_nameOf x1 s0 = some (rr, sr)) : zCon Om Nm cA ad D E l yX12_nameOf cX12_nameOf 2 (some .int) 0 A [.ref (ad 0), .int x1] s0 (some (.int rr)) sr := by
  refine zstart (own := RX12) hOm (by decide) rfl (Nat.le_of_ble_eq_true rfl) ?_
  intro p e s m args below meth c X hP ls hl
  have hx := X.1
  have hb := X.2.1
  have hl : lv_has ls 2 [(0, .ref (ad 0)), (1, .int x1)] := hl
  have hS : va_S A s.heap s.heap [] := va_S.rf
  rw [f_X12_nameOf] at hf
  refine lv_aload_n hx hb dX12_nameOf_0 rfl (lv_at hl 0 rfl) ?_
  refine gf_X12_3 X hP (k := 0) rfl dX12_nameOf_1 ?_
  refine lv_iconst (v := 2) hx hb dX12_nameOf_4 (by decide) ?_
  refine zicmp_ne (tgt := 20) hx hb dX12_nameOf_5 (by decide) hf (fun hf => ?_) (fun hf => ?_)
  · refine lv_aload_n hx hb dX12_nameOf_20 rfl (lv_at hl 0 rfl) ?_
    refine gf_X12_3 X hP (k := 0) rfl dX12_nameOf_21 ?_
    refine lv_iconst (v := 1) hx hb dX12_nameOf_24 (by decide) ?_
    refine zicmp_ne (tgt := 42) hx hb dX12_nameOf_25 (by decide) hf (fun hf => ?_) (fun hf => ?_)
    · refine lv_iload_n hx hb dX12_nameOf_42 rfl (lv_at hl 1 rfl) ?_
      refine lv_aload_n hx hb dX12_nameOf_43 rfl (lv_at hl 0 rfl) ?_
      refine gf_X12_9 X hP (k := 0) rfl dX12_nameOf_44 ?_
      refine zicmp_ge (tgt := 57) hx hb dX12_nameOf_47 (by decide) hf (fun hf => ?_) (fun hf => ?_)
      · refine lv_bipush (v := 112) hx hb dX12_nameOf_57 (by decide) ?_
        refine lv_iload_n hx hb dX12_nameOf_59 rfl (lv_at hl 1 rfl) ?_
        refine lv_iadd hx hb dX12_nameOf_60 ?_
        refine lv_aload_n hx hb dX12_nameOf_61 rfl (lv_at hl 0 rfl) ?_
        refine gf_X12_9 X hP (k := 0) rfl dX12_nameOf_62 ?_
        refine lv_isub hx hb dX12_nameOf_65 ?_
        exact zret_i X hP hS hf rfl dX12_nameOf_66
      · refine lv_bipush (v := 97) hx hb dX12_nameOf_50 (by decide) ?_
        refine lv_iload_n hx hb dX12_nameOf_52 rfl (lv_at hl 1 rfl) ?_
        refine lv_iadd hx hb dX12_nameOf_53 ?_
        refine lv_goto (tgt := 66) hx hb dX12_nameOf_54 (by decide) ?_
        exact zret_i X hP hS hf rfl dX12_nameOf_66
    · refine lv_iload_n hx hb dX12_nameOf_28 rfl (lv_at hl 1 rfl) ?_
      refine zif_ne (tgt := 37) hx hb dX12_nameOf_29 (by decide) hf (fun hf => ?_) (fun hf => ?_)
      · refine lv_bipush (v := 116) hx hb dX12_nameOf_37 (by decide) ?_
        refine lv_iload_n hx hb dX12_nameOf_39 rfl (lv_at hl 1 rfl) ?_
        refine lv_iadd hx hb dX12_nameOf_40 ?_
        exact zret_i X hP hS hf rfl dX12_nameOf_41
      · refine lv_bipush (v := 97) hx hb dX12_nameOf_32 (by decide) ?_
        refine lv_goto (tgt := 41) hx hb dX12_nameOf_34 (by decide) ?_
        exact zret_i X hP hS hf rfl dX12_nameOf_41
  · refine lv_iload_n hx hb dX12_nameOf_8 rfl (lv_at hl 1 rfl) ?_
    refine zif_ne (tgt := 17) hx hb dX12_nameOf_9 (by decide) hf (fun hf => ?_) (fun hf => ?_)
    · refine lv_bipush (v := 118) hx hb dX12_nameOf_17 (by decide) ?_
      exact zret_i X hP hS hf rfl dX12_nameOf_19
    · refine lv_bipush (v := 97) hx hb dX12_nameOf_12 (by decide) ?_
      refine lv_goto (tgt := 19) hx hb dX12_nameOf_14 (by decide) ?_
      exact zret_i X hP hS hf rfl dX12_nameOf_19
theorem dX12_tens_0 : decode cX12_tens 0 = .ok (.iconst 1, 1) := by decide +kernel
theorem dX12_tens_1 : decode cX12_tens 1 = .ok (.istore_n 1, 1) := by decide +kernel
theorem dX12_tens_2 : decode cX12_tens 2 = .ok (.iconst 0, 1) := by decide +kernel
theorem dX12_tens_3 : decode cX12_tens 3 = .ok (.istore_n 2, 1) := by decide +kernel
theorem dX12_tens_4 : decode cX12_tens 4 = .ok (.iload_n 2, 1) := by decide +kernel
theorem dX12_tens_5 : decode cX12_tens 5 = .ok (.iload_n 0, 1) := by decide +kernel
theorem dX12_tens_6 : decode cX12_tens 6 = .ok (.if_icmp .ge 14, 3) := by decide +kernel
theorem dX12_tens_9 : decode cX12_tens 9 = .ok (.iload_n 1, 1) := by decide +kernel
theorem dX12_tens_10 : decode cX12_tens 10 = .ok (.bipush 10, 2) := by decide +kernel
theorem dX12_tens_12 : decode cX12_tens 12 = .ok (.imul, 1) := by decide +kernel
theorem dX12_tens_13 : decode cX12_tens 13 = .ok (.istore_n 1, 1) := by decide +kernel
theorem dX12_tens_14 : decode cX12_tens 14 = .ok (.iinc 2 1, 3) := by decide +kernel
theorem dX12_tens_17 : decode cX12_tens 17 = .ok (.goto (-13), 3) := by decide +kernel
theorem dX12_tens_20 : decode cX12_tens 20 = .ok (.iload_n 1, 1) := by decide +kernel
theorem dX12_tens_21 : decode cX12_tens 21 = .ok (.ireturn, 1) := by decide +kernel
set_option maxHeartbeats 4000000 in
set_option maxRecDepth 100000 in
theorem cn_X12_tens {l : Launch} {cA : Nat → ClassId} {ad : Nat → Nat} {D : va_G} {E : Nat → Nat} {A : Nat → Prop} {x0 : Int32} {s0 sr : SS} {rr : Int32} (hf : f_X12_tens x0 s0 = some (rr, sr)) : zCon Om Nm cA ad D E l yX12_tens cX12_tens 3 (some .int) 0 A [.int x0] s0 (some (.int rr)) sr := by
  refine zstart (own := RX12) hOm (by decide) rfl (Nat.le_of_ble_eq_true rfl) ?_
  intro p e s m args below meth c X hP ls hl
  have hx := X.1
  have hb := X.2.1
  have hl : lv_has ls 3 [(0, .int x0)] := hl
  have hS : va_S A s.heap s.heap [] := va_S.rf
  have hc_4 : ∀ (n4 : Nat) (x0 : Int32) (x1 : Int32) (x2 : Int32) (s1 : SS) (H : Heap) (locs : List Loc) (ls : Array Slot), lv_has ls 3 [(0, .int x0), (1, .int x1), (2, .int x2)] → va_P D ZCL (zw Om Nm cA ad s1) H → va_S A s.heap H locs → f_X12_tens_c4 n4 x0 x1 x2 s1 = some (rr, sr) → W p l e (zrm 0) s m args below meth c H locs 0 0 (MQ below (zQc Om Nm cA ad D A (some (.int rr)) sr) args s 0 0 A) (F0 m 4 ls []) := by
    intro n4
    induction n4 with
    | zero =>
      intro x0 x1 x2 s1 H locs ls hl hP hS hf
      rw [f_X12_tens_c4] at hf
      cases hf
    | succ n4 ih4 =>
      intro x0 x1 x2 s1 H locs ls hl hP hS hf
      rw [f_X12_tens_c4] at hf
      refine lv_iload_n hx hb dX12_tens_4 rfl (lv_at hl 2 rfl) ?_
      refine lv_iload_n hx hb dX12_tens_5 rfl (lv_at hl 0 rfl) ?_
      refine zicmp_ge (tgt := 20) hx hb dX12_tens_6 (by decide) hf (fun hf => ?_) (fun hf => ?_)
      · refine lv_iload_n hx hb dX12_tens_20 rfl (lv_at hl 1 rfl) ?_
        exact zret_i X hP hS hf rfl dX12_tens_21
      · refine lv_iload_n hx hb dX12_tens_9 rfl (lv_at hl 1 rfl) ?_
        refine lv_bipush (v := 10) hx hb dX12_tens_10 (by decide) ?_
        refine lv_imul hx hb dX12_tens_12 ?_
        refine lv_istore_n (lv' := [(1, .int (x1 * (10 : Int32))), (0, .int x0), (2, .int x2)]) hx hb dX12_tens_13 rfl hl (by decide) rfl (fun ls hl => ?_)
        refine lv_iinc (v := (x2 + 1)) (lv' := [(2, .int (x2 + 1)), (1, .int (x1 * (10 : Int32))), (0, .int x0)]) hx hb dX12_tens_14 hl (k := 2) rfl rfl (by decide) rfl (fun ls hl => ?_)
        refine lv_goto (tgt := 4) hx hb dX12_tens_17 (by decide) ?_
        exact ih4 x0 (x1 * (10 : Int32)) (x2 + 1) s1 _ _ _ (lv_sub hl [2, 1, 0] rfl) hP hS hf
  rw [f_X12_tens] at hf
  refine lv_iconst (v := 1) hx hb dX12_tens_0 (by decide) ?_
  refine lv_istore_n (lv' := [(1, .int 1), (0, .int x0)]) hx hb dX12_tens_1 rfl hl (by decide) rfl (fun ls hl => ?_)
  refine lv_iconst (v := 0) hx hb dX12_tens_2 (by decide) ?_
  refine lv_istore_n (lv' := [(2, .int 0), (1, .int 1), (0, .int x0)]) hx hb dX12_tens_3 rfl hl (by decide) rfl (fun ls hl => ?_)
  exact hc_4 ZF x0 1 0 s0 _ _ _ (lv_sub hl [2, 1, 0] rfl) hP hS hf
theorem dX12_powerIn_0 : decode cX12_powerIn 0 = .ok (.iload_n 0, 1) := by decide +kernel
theorem dX12_powerIn_1 : decode cX12_powerIn 1 = .ok (.iload_n 1, 1) := by decide +kernel
theorem dX12_powerIn_2 : decode cX12_powerIn 2 = .ok (.invokestatic 15, 3) := by decide +kernel
theorem dX12_powerIn_5 : decode cX12_powerIn 5 = .ok (.idiv, 1) := by decide +kernel
theorem dX12_powerIn_6 : decode cX12_powerIn 6 = .ok (.bipush 10, 2) := by decide +kernel
theorem dX12_powerIn_8 : decode cX12_powerIn 8 = .ok (.irem, 1) := by decide +kernel
theorem dX12_powerIn_9 : decode cX12_powerIn 9 = .ok (.ireturn, 1) := by decide +kernel
set_option maxHeartbeats 4000000 in
set_option maxRecDepth 100000 in
theorem cn_X12_powerIn {l : Launch} {cA : Nat → ClassId} {ad : Nat → Nat} {D : va_G} {E : Nat → Nat} {A : Nat → Prop} {x0 : Int32} {x1 : Int32} {s0 sr : SS} {rr : Int32} (hf : f_X12_powerIn x0 x1 s0 = some (rr, sr)) : zCon Om Nm cA ad D E l yX12_powerIn cX12_powerIn 2 (some .int) 1 A [.int x0, .int x1] s0 (some (.int rr)) sr := by
  refine zstart (own := RX12) hOm (by decide) rfl (Nat.le_of_ble_eq_true rfl) ?_
  intro p e s m args below meth c X hP ls hl
  have hx := X.1
  have hb := X.2.1
  have hl : lv_has ls 2 [(0, .int x0), (1, .int x1)] := hl
  have hS : va_S A s.heap s.heap [] := va_S.rf
  rw [f_X12_powerIn] at hf
  refine lv_iload_n hx hb dX12_powerIn_0 rfl (lv_at hl 0 rfl) ?_
  refine lv_iload_n hx hb dX12_powerIn_1 rfl (lv_at hl 1 rfl) ?_
  obtain ⟨r1, s2, h3, hf⟩ := zbd_some hf
  refine zcallS X hP hS hl.1 (As := [.int x1]) (rest := [.int x0]) (cn_X12_tens h3) cw_X12_tens ml_X12_15 (by decide) rfl rfl (Nat.le_of_ble_eq_true rfl) dX12_powerIn_2 (fun H locs hP hS => ?_)
  obtain ⟨z4, hf⟩ := zgp hf
  refine lv_idiv hx hb dX12_powerIn_5 z4 ?_
  refine lv_bipush (v := 10) hx hb dX12_powerIn_6 (by decide) ?_
  refine lv_irem hx hb dX12_powerIn_8 (by decide) ?_
  exact zret_i X hP hS hf rfl dX12_powerIn_9
theorem dX12_sizeOf_0 : decode cX12_sizeOf 0 = .ok (.iconst 0, 1) := by decide +kernel
theorem dX12_sizeOf_1 : decode cX12_sizeOf 1 = .ok (.istore_n 1, 1) := by decide +kernel
theorem dX12_sizeOf_2 : decode cX12_sizeOf 2 = .ok (.iload_n 0, 1) := by decide +kernel
theorem dX12_sizeOf_3 : decode cX12_sizeOf 3 = .ok (.istore_n 2, 1) := by decide +kernel
theorem dX12_sizeOf_4 : decode cX12_sizeOf 4 = .ok (.iload_n 2, 1) := by decide +kernel
theorem dX12_sizeOf_5 : decode cX12_sizeOf 5 = .ok (.ifCond .le 18, 3) := by decide +kernel
theorem dX12_sizeOf_8 : decode cX12_sizeOf 8 = .ok (.iload_n 1, 1) := by decide +kernel
theorem dX12_sizeOf_9 : decode cX12_sizeOf 9 = .ok (.iload_n 2, 1) := by decide +kernel
theorem dX12_sizeOf_10 : decode cX12_sizeOf 10 = .ok (.bipush 10, 2) := by decide +kernel
theorem dX12_sizeOf_12 : decode cX12_sizeOf 12 = .ok (.irem, 1) := by decide +kernel
theorem dX12_sizeOf_13 : decode cX12_sizeOf 13 = .ok (.iadd, 1) := by decide +kernel
theorem dX12_sizeOf_14 : decode cX12_sizeOf 14 = .ok (.istore_n 1, 1) := by decide +kernel
theorem dX12_sizeOf_15 : decode cX12_sizeOf 15 = .ok (.iload_n 2, 1) := by decide +kernel
theorem dX12_sizeOf_16 : decode cX12_sizeOf 16 = .ok (.bipush 10, 2) := by decide +kernel
theorem dX12_sizeOf_18 : decode cX12_sizeOf 18 = .ok (.idiv, 1) := by decide +kernel
theorem dX12_sizeOf_19 : decode cX12_sizeOf 19 = .ok (.istore_n 2, 1) := by decide +kernel
theorem dX12_sizeOf_20 : decode cX12_sizeOf 20 = .ok (.goto (-16), 3) := by decide +kernel
theorem dX12_sizeOf_23 : decode cX12_sizeOf 23 = .ok (.iload_n 1, 1) := by decide +kernel
theorem dX12_sizeOf_24 : decode cX12_sizeOf 24 = .ok (.ireturn, 1) := by decide +kernel
set_option maxHeartbeats 4000000 in
set_option maxRecDepth 100000 in
theorem cn_X12_sizeOf {l : Launch} {cA : Nat → ClassId} {ad : Nat → Nat} {D : va_G} {E : Nat → Nat} {A : Nat → Prop} {x0 : Int32} {s0 sr : SS} {rr : Int32} (hf : f_X12_sizeOf x0 s0 = some (rr, sr)) : zCon Om Nm cA ad D E l yX12_sizeOf cX12_sizeOf 3 (some .int) 0 A [.int x0] s0 (some (.int rr)) sr := by
  refine zstart (own := RX12) hOm (by decide) rfl (Nat.le_of_ble_eq_true rfl) ?_
  intro p e s m args below meth c X hP ls hl
  have hx := X.1
  have hb := X.2.1
  have hl : lv_has ls 3 [(0, .int x0)] := hl
  have hS : va_S A s.heap s.heap [] := va_S.rf
  have hc_4 : ∀ (n4 : Nat) (x1 : Int32) (x2 : Int32) (s1 : SS) (H : Heap) (locs : List Loc) (ls : Array Slot), lv_has ls 3 [(1, .int x1), (2, .int x2)] → va_P D ZCL (zw Om Nm cA ad s1) H → va_S A s.heap H locs → f_X12_sizeOf_c4 n4 x1 x2 s1 = some (rr, sr) → W p l e (zrm 0) s m args below meth c H locs 0 0 (MQ below (zQc Om Nm cA ad D A (some (.int rr)) sr) args s 0 0 A) (F0 m 4 ls []) := by
    intro n4
    induction n4 with
    | zero =>
      intro x1 x2 s1 H locs ls hl hP hS hf
      rw [f_X12_sizeOf_c4] at hf
      cases hf
    | succ n4 ih4 =>
      intro x1 x2 s1 H locs ls hl hP hS hf
      rw [f_X12_sizeOf_c4] at hf
      refine lv_iload_n hx hb dX12_sizeOf_4 rfl (lv_at hl 1 rfl) ?_
      refine zif_le (tgt := 23) hx hb dX12_sizeOf_5 (by decide) hf (fun hf => ?_) (fun hf => ?_)
      · refine lv_iload_n hx hb dX12_sizeOf_23 rfl (lv_at hl 0 rfl) ?_
        exact zret_i X hP hS hf rfl dX12_sizeOf_24
      · refine lv_iload_n hx hb dX12_sizeOf_8 rfl (lv_at hl 0 rfl) ?_
        refine lv_iload_n hx hb dX12_sizeOf_9 rfl (lv_at hl 1 rfl) ?_
        refine lv_bipush (v := 10) hx hb dX12_sizeOf_10 (by decide) ?_
        refine lv_irem hx hb dX12_sizeOf_12 (by decide) ?_
        refine lv_iadd hx hb dX12_sizeOf_13 ?_
        refine lv_istore_n (lv' := [(1, .int (x1 + (x2 - x2 / (10 : Int32) * (10 : Int32)))), (2, .int x2)]) hx hb dX12_sizeOf_14 rfl hl (by decide) rfl (fun ls hl => ?_)
        refine lv_iload_n hx hb dX12_sizeOf_15 rfl (lv_at hl 1 rfl) ?_
        refine lv_bipush (v := 10) hx hb dX12_sizeOf_16 (by decide) ?_
        refine lv_idiv hx hb dX12_sizeOf_18 (by decide) ?_
        refine lv_istore_n (lv' := [(2, .int (x2 / (10 : Int32))), (1, .int (x1 + (x2 - x2 / (10 : Int32) * (10 : Int32))))]) hx hb dX12_sizeOf_19 rfl hl (by decide) rfl (fun ls hl => ?_)
        refine lv_goto (tgt := 4) hx hb dX12_sizeOf_20 (by decide) ?_
        exact ih4 (x1 + (x2 - x2 / (10 : Int32) * (10 : Int32))) (x2 / (10 : Int32)) s1 _ _ _ (lv_sub hl [1, 0] rfl) hP hS hf
  rw [f_X12_sizeOf] at hf
  refine lv_iconst (v := 0) hx hb dX12_sizeOf_0 (by decide) ?_
  refine lv_istore_n (lv' := [(1, .int 0), (0, .int x0)]) hx hb dX12_sizeOf_1 rfl hl (by decide) rfl (fun ls hl => ?_)
  refine lv_iload_n hx hb dX12_sizeOf_2 rfl (lv_at hl 1 rfl) ?_
  refine lv_istore_n (lv' := [(2, .int x0), (1, .int 0), (0, .int x0)]) hx hb dX12_sizeOf_3 rfl hl (by decide) rfl (fun ls hl => ?_)
  exact hc_4 ZF 0 x0 s0 _ _ _ (lv_sub hl [1, 0] rfl) hP hS hf
theorem dX12_worthOfProduct_0 : decode cX12_worthOfProduct 0 = .ok (.iconst 1, 1) := by decide +kernel
theorem dX12_worthOfProduct_1 : decode cX12_worthOfProduct 1 = .ok (.istore_n 2, 1) := by decide +kernel
theorem dX12_worthOfProduct_2 : decode cX12_worthOfProduct 2 = .ok (.iconst 0, 1) := by decide +kernel
theorem dX12_worthOfProduct_3 : decode cX12_worthOfProduct 3 = .ok (.istore_n 3, 1) := by decide +kernel
theorem dX12_worthOfProduct_4 : decode cX12_worthOfProduct 4 = .ok (.iload_n 3, 1) := by decide +kernel
theorem dX12_worthOfProduct_5 : decode cX12_worthOfProduct 5 = .ok (.aload_n 0, 1) := by decide +kernel
theorem dX12_worthOfProduct_6 : decode cX12_worthOfProduct 6 = .ok (.getfield 9, 3) := by decide +kernel
theorem dX12_worthOfProduct_9 : decode cX12_worthOfProduct 9 = .ok (.if_icmp .ge 33, 3) := by decide +kernel
theorem dX12_worthOfProduct_12 : decode cX12_worthOfProduct 12 = .ok (.iload_n 2, 1) := by decide +kernel
theorem dX12_worthOfProduct_13 : decode cX12_worthOfProduct 13 = .ok (.ifCond .eq 21, 3) := by decide +kernel
theorem dX12_worthOfProduct_16 : decode cX12_worthOfProduct 16 = .ok (.iload_n 1, 1) := by decide +kernel
theorem dX12_worthOfProduct_17 : decode cX12_worthOfProduct 17 = .ok (.iload_n 3, 1) := by decide +kernel
theorem dX12_worthOfProduct_18 : decode cX12_worthOfProduct 18 = .ok (.invokestatic 19, 3) := by decide +kernel
theorem dX12_worthOfProduct_21 : decode cX12_worthOfProduct 21 = .ok (.aload_n 0, 1) := by decide +kernel
theorem dX12_worthOfProduct_22 : decode cX12_worthOfProduct 22 = .ok (.getfield 23, 3) := by decide +kernel
theorem dX12_worthOfProduct_25 : decode cX12_worthOfProduct 25 = .ok (.iload_n 3, 1) := by decide +kernel
theorem dX12_worthOfProduct_26 : decode cX12_worthOfProduct 26 = .ok (.iaload, 1) := by decide +kernel
theorem dX12_worthOfProduct_27 : decode cX12_worthOfProduct 27 = .ok (.if_icmp .ne 7, 3) := by decide +kernel
theorem dX12_worthOfProduct_30 : decode cX12_worthOfProduct 30 = .ok (.iconst 1, 1) := by decide +kernel
theorem dX12_worthOfProduct_31 : decode cX12_worthOfProduct 31 = .ok (.goto 4, 3) := by decide +kernel
theorem dX12_worthOfProduct_34 : decode cX12_worthOfProduct 34 = .ok (.iconst 0, 1) := by decide +kernel
theorem dX12_worthOfProduct_35 : decode cX12_worthOfProduct 35 = .ok (.istore_n 2, 1) := by decide +kernel
theorem dX12_worthOfProduct_36 : decode cX12_worthOfProduct 36 = .ok (.iinc 3 1, 3) := by decide +kernel
theorem dX12_worthOfProduct_39 : decode cX12_worthOfProduct 39 = .ok (.goto (-35), 3) := by decide +kernel
theorem dX12_worthOfProduct_42 : decode cX12_worthOfProduct 42 = .ok (.iload_n 2, 1) := by decide +kernel
theorem dX12_worthOfProduct_43 : decode cX12_worthOfProduct 43 = .ok (.ifCond .eq 5, 3) := by decide +kernel
theorem dX12_worthOfProduct_46 : decode cX12_worthOfProduct 46 = .ok (.lconst 1, 1) := by decide +kernel
theorem dX12_worthOfProduct_47 : decode cX12_worthOfProduct 47 = .ok (.lreturn, 1) := by decide +kernel
theorem dX12_worthOfProduct_48 : decode cX12_worthOfProduct 48 = .ok (.iconst 0, 1) := by decide +kernel
theorem dX12_worthOfProduct_49 : decode cX12_worthOfProduct 49 = .ok (.istore_n 3, 1) := by decide +kernel
theorem dX12_worthOfProduct_50 : decode cX12_worthOfProduct 50 = .ok (.iload_n 3, 1) := by decide +kernel
theorem dX12_worthOfProduct_51 : decode cX12_worthOfProduct 51 = .ok (.aload_n 0, 1) := by decide +kernel
theorem dX12_worthOfProduct_52 : decode cX12_worthOfProduct 52 = .ok (.getfield 12, 3) := by decide +kernel
theorem dX12_worthOfProduct_55 : decode cX12_worthOfProduct 55 = .ok (.if_icmp .ge 44, 3) := by decide +kernel
theorem dX12_worthOfProduct_58 : decode cX12_worthOfProduct 58 = .ok (.iload_n 1, 1) := by decide +kernel
theorem dX12_worthOfProduct_59 : decode cX12_worthOfProduct 59 = .ok (.aload_n 0, 1) := by decide +kernel
theorem dX12_worthOfProduct_60 : decode cX12_worthOfProduct 60 = .ok (.getfield 9, 3) := by decide +kernel
theorem dX12_worthOfProduct_63 : decode cX12_worthOfProduct 63 = .ok (.iload_n 3, 1) := by decide +kernel
theorem dX12_worthOfProduct_64 : decode cX12_worthOfProduct 64 = .ok (.iadd, 1) := by decide +kernel
theorem dX12_worthOfProduct_65 : decode cX12_worthOfProduct 65 = .ok (.invokestatic 19, 3) := by decide +kernel
theorem dX12_worthOfProduct_68 : decode cX12_worthOfProduct 68 = .ok (.aload_n 0, 1) := by decide +kernel
theorem dX12_worthOfProduct_69 : decode cX12_worthOfProduct 69 = .ok (.getfield 27, 3) := by decide +kernel
theorem dX12_worthOfProduct_72 : decode cX12_worthOfProduct 72 = .ok (.if_icmp .ne 21, 3) := by decide +kernel
theorem dX12_worthOfProduct_75 : decode cX12_worthOfProduct 75 = .ok (.aload_n 0, 1) := by decide +kernel
theorem dX12_worthOfProduct_76 : decode cX12_worthOfProduct 76 = .ok (.getfield 27, 3) := by decide +kernel
theorem dX12_worthOfProduct_79 : decode cX12_worthOfProduct 79 = .ok (.iconst 2, 1) := by decide +kernel
theorem dX12_worthOfProduct_80 : decode cX12_worthOfProduct 80 = .ok (.irem, 1) := by decide +kernel
theorem dX12_worthOfProduct_81 : decode cX12_worthOfProduct 81 = .ok (.iconst 1, 1) := by decide +kernel
theorem dX12_worthOfProduct_82 : decode cX12_worthOfProduct 82 = .ok (.if_icmp .ne 7, 3) := by decide +kernel
theorem dX12_worthOfProduct_85 : decode cX12_worthOfProduct 85 = .ok (.lconst 1, 1) := by decide +kernel
theorem dX12_worthOfProduct_86 : decode cX12_worthOfProduct 86 = .ok (.goto 6, 3) := by decide +kernel
theorem dX12_worthOfProduct_89 : decode cX12_worthOfProduct 89 = .ok (.ldc2_w 30, 3) := by decide +kernel
theorem dX12_worthOfProduct_92 : decode cX12_worthOfProduct 92 = .ok (.lreturn, 1) := by decide +kernel
theorem dX12_worthOfProduct_93 : decode cX12_worthOfProduct 93 = .ok (.iinc 3 1, 3) := by decide +kernel
theorem dX12_worthOfProduct_96 : decode cX12_worthOfProduct 96 = .ok (.goto (-46), 3) := by decide +kernel
theorem dX12_worthOfProduct_99 : decode cX12_worthOfProduct 99 = .ok (.lconst 0, 1) := by decide +kernel
theorem dX12_worthOfProduct_100 : decode cX12_worthOfProduct 100 = .ok (.lreturn, 1) := by decide +kernel
set_option maxHeartbeats 4000000 in
set_option maxRecDepth 100000 in
theorem cn_X12_worthOfProduct {l : Launch} {cA : Nat → ClassId} {ad : Nat → Nat} {D : va_G} {E : Nat → Nat} {A : Nat → Prop} {x1 : Int32} {s0 sr : SS} {rr : Int64} (hf : f_X12_worthOfProduct x1 s0 = some (rr, sr)) : zCon Om Nm cA ad D E l yX12_worthOfProduct cX12_worthOfProduct 4 (some .long) 2 A [.ref (ad 0), .int x1] s0 (some (.long rr)) sr := by
  refine zstart (own := RX12) hOm (by decide) rfl (Nat.le_of_ble_eq_true rfl) ?_
  intro p e s m args below meth c X hP ls hl
  have hx := X.1
  have hb := X.2.1
  have hl : lv_has ls 4 [(0, .ref (ad 0)), (1, .int x1)] := hl
  have hS : va_S A s.heap s.heap [] := va_S.rf
  have hc_4 : ∀ (n4 : Nat) (x1 : Int32) (x2 : Int32) (x3 : Int32) (s1 : SS) (H : Heap) (locs : List Loc) (ls : Array Slot), lv_has ls 4 [(0, .ref (ad 0)), (1, .int x1), (2, .int x2), (3, .int x3)] → va_P D ZCL (zw Om Nm cA ad s1) H → va_S A s.heap H locs → f_X12_worthOfProduct_c4 n4 x1 x2 x3 s1 = some (rr, sr) → W p l e (zrm 2) s m args below meth c H locs 0 0 (MQ below (zQc Om Nm cA ad D A (some (.long rr)) sr) args s 0 0 A) (F0 m 4 ls []) := by
    intro n4
    induction n4 with
    | zero =>
      intro x1 x2 x3 s1 H locs ls hl hP hS hf
      rw [f_X12_worthOfProduct_c4] at hf
      cases hf
    | succ n4 ih4 =>
      have hc_50 : ∀ (n50 : Nat) (x1 : Int32) (x3 : Int32) (s1 : SS) (H : Heap) (locs : List Loc) (ls : Array Slot), lv_has ls 4 [(0, .ref (ad 0)), (1, .int x1), (3, .int x3)] → va_P D ZCL (zw Om Nm cA ad s1) H → va_S A s.heap H locs → f_X12_worthOfProduct_c50 n50 x1 x3 s1 = some (rr, sr) → W p l e (zrm 2) s m args below meth c H locs 0 0 (MQ below (zQc Om Nm cA ad D A (some (.long rr)) sr) args s 0 0 A) (F0 m 50 ls []) := by
        intro n50
        induction n50 with
        | zero =>
          intro x1 x3 s1 H locs ls hl hP hS hf
          rw [f_X12_worthOfProduct_c50] at hf
          cases hf
        | succ n50 ih50 =>
          intro x1 x3 s1 H locs ls hl hP hS hf
          rw [f_X12_worthOfProduct_c50] at hf
          refine lv_iload_n hx hb dX12_worthOfProduct_50 rfl (lv_at hl 2 rfl) ?_
          refine lv_aload_n hx hb dX12_worthOfProduct_51 rfl (lv_at hl 0 rfl) ?_
          refine gf_X12_12 X hP (k := 0) rfl dX12_worthOfProduct_52 ?_
          refine zicmp_ge (tgt := 99) hx hb dX12_worthOfProduct_55 (by decide) hf (fun hf => ?_) (fun hf => ?_)
          · refine lv_lconst (v := 0) hx hb dX12_worthOfProduct_99 (by decide) ?_
            exact zret_l X hP hS hf dX12_worthOfProduct_100
          · refine lv_iload_n hx hb dX12_worthOfProduct_58 rfl (lv_at hl 1 rfl) ?_
            refine lv_aload_n hx hb dX12_worthOfProduct_59 rfl (lv_at hl 0 rfl) ?_
            refine gf_X12_9 X hP (k := 0) rfl dX12_worthOfProduct_60 ?_
            refine lv_iload_n hx hb dX12_worthOfProduct_63 rfl (lv_at hl 2 rfl) ?_
            refine lv_iadd hx hb dX12_worthOfProduct_64 ?_
            obtain ⟨r1, s2, h3, hf⟩ := zbd_some hf
            refine zcallS X hP hS hl.1 (As := [.int x1, .int ((s1.1 0 2) + x3)]) (rest := []) (cn_X12_powerIn h3) cw_X12_powerIn ml_X12_19 (by decide) rfl rfl (Nat.le_of_ble_eq_true rfl) dX12_worthOfProduct_65 (fun H locs hP hS => ?_)
            refine lv_aload_n hx hb dX12_worthOfProduct_68 rfl (lv_at hl 0 rfl) ?_
            refine gf_X12_27 X hP (k := 0) rfl dX12_worthOfProduct_69 ?_
            refine zicmp_ne (tgt := 93) hx hb dX12_worthOfProduct_72 (by decide) hf (fun hf => ?_) (fun hf => ?_)
            · refine lv_iinc (v := (x3 + 1)) (lv' := [(3, .int (x3 + 1)), (0, .ref (ad 0)), (1, .int x1)]) hx hb dX12_worthOfProduct_93 hl (k := 2) rfl rfl (by decide) rfl (fun ls hl => ?_)
              refine lv_goto (tgt := 50) hx hb dX12_worthOfProduct_96 (by decide) ?_
              exact ih50 x1 (x3 + 1) s2 _ _ _ (lv_sub hl [1, 2, 0] rfl) hP hS hf
            · refine lv_aload_n hx hb dX12_worthOfProduct_75 rfl (lv_at hl 0 rfl) ?_
              refine gf_X12_27 X hP (k := 0) rfl dX12_worthOfProduct_76 ?_
              refine lv_iconst (v := 2) hx hb dX12_worthOfProduct_79 (by decide) ?_
              refine lv_irem hx hb dX12_worthOfProduct_80 (by decide) ?_
              refine lv_iconst (v := 1) hx hb dX12_worthOfProduct_81 (by decide) ?_
              refine zicmp_ne (tgt := 89) hx hb dX12_worthOfProduct_82 (by decide) hf (fun hf => ?_) (fun hf => ?_)
              · refine zldc2 X co_X12_30 dX12_worthOfProduct_89 ?_
                exact zret_l X hP hS hf dX12_worthOfProduct_92
              · refine lv_lconst (v := 1) hx hb dX12_worthOfProduct_85 (by decide) ?_
                refine lv_goto (tgt := 92) hx hb dX12_worthOfProduct_86 (by decide) ?_
                exact zret_l X hP hS hf dX12_worthOfProduct_92
      have hc_35 : ∀ (x1 : Int32) (x3 : Int32) (t0 : Int32) (s1 : SS) (H : Heap) (locs : List Loc) (ls : Array Slot), lv_has ls 4 [(0, .ref (ad 0)), (1, .int x1), (3, .int x3)] → va_P D ZCL (zw Om Nm cA ad s1) H → va_S A s.heap H locs → f_X12_worthOfProduct_c35 (f_X12_worthOfProduct_c4 n4) x1 x3 t0 s1 = some (rr, sr) → W p l e (zrm 2) s m args below meth c H locs 0 0 (MQ below (zQc Om Nm cA ad D A (some (.long rr)) sr) args s 0 0 A) (F0 m 35 ls [.int t0]) := by
        intro x1 x3 t0 s1 H locs ls hl hP hS hf
        rw [f_X12_worthOfProduct_c35] at hf
        refine lv_istore_n (lv' := [(2, .int t0), (0, .ref (ad 0)), (1, .int x1), (3, .int x3)]) hx hb dX12_worthOfProduct_35 rfl hl (by decide) rfl (fun ls hl => ?_)
        refine lv_iinc (v := (x3 + 1)) (lv' := [(3, .int (x3 + 1)), (2, .int t0), (0, .ref (ad 0)), (1, .int x1)]) hx hb dX12_worthOfProduct_36 hl (k := 3) rfl rfl (by decide) rfl (fun ls hl => ?_)
        refine lv_goto (tgt := 4) hx hb dX12_worthOfProduct_39 (by decide) ?_
        exact ih4 x1 t0 (x3 + 1) s1 _ _ _ (lv_sub hl [2, 3, 1, 0] rfl) hP hS hf
      have hc_34 : ∀ (x1 : Int32) (x3 : Int32) (s1 : SS) (H : Heap) (locs : List Loc) (ls : Array Slot), lv_has ls 4 [(0, .ref (ad 0)), (1, .int x1), (3, .int x3)] → va_P D ZCL (zw Om Nm cA ad s1) H → va_S A s.heap H locs → f_X12_worthOfProduct_c34 (f_X12_worthOfProduct_c4 n4) x1 x3 s1 = some (rr, sr) → W p l e (zrm 2) s m args below meth c H locs 0 0 (MQ below (zQc Om Nm cA ad D A (some (.long rr)) sr) args s 0 0 A) (F0 m 34 ls []) := by
        intro x1 x3 s1 H locs ls hl hP hS hf
        rw [f_X12_worthOfProduct_c34] at hf
        refine lv_iconst (v := 0) hx hb dX12_worthOfProduct_34 (by decide) ?_
        exact hc_35 x1 x3 0 s1 _ _ _ (lv_sub hl [0, 1, 2] rfl) hP hS hf
      intro x1 x2 x3 s1 H locs ls hl hP hS hf
      rw [f_X12_worthOfProduct_c4] at hf
      refine lv_iload_n hx hb dX12_worthOfProduct_4 rfl (lv_at hl 3 rfl) ?_
      refine lv_aload_n hx hb dX12_worthOfProduct_5 rfl (lv_at hl 0 rfl) ?_
      refine gf_X12_9 X hP (k := 0) rfl dX12_worthOfProduct_6 ?_
      refine zicmp_ge (tgt := 42) hx hb dX12_worthOfProduct_9 (by decide) hf (fun hf => ?_) (fun hf => ?_)
      · refine lv_iload_n hx hb dX12_worthOfProduct_42 rfl (lv_at hl 2 rfl) ?_
        refine zif_eq (tgt := 48) hx hb dX12_worthOfProduct_43 (by decide) hf (fun hf => ?_) (fun hf => ?_)
        · refine lv_iconst (v := 0) hx hb dX12_worthOfProduct_48 (by decide) ?_
          refine lv_istore_n (lv' := [(3, .int 0), (0, .ref (ad 0)), (1, .int x1), (2, .int x2)]) hx hb dX12_worthOfProduct_49 rfl hl (by decide) rfl (fun ls hl => ?_)
          exact hc_50 ZF x1 0 s1 _ _ _ (lv_sub hl [1, 2, 0] rfl) hP hS hf
        · refine lv_lconst (v := 1) hx hb dX12_worthOfProduct_46 (by decide) ?_
          exact zret_l X hP hS hf dX12_worthOfProduct_47
      · refine lv_iload_n hx hb dX12_worthOfProduct_12 rfl (lv_at hl 2 rfl) ?_
        refine zif_eq (tgt := 34) hx hb dX12_worthOfProduct_13 (by decide) hf (fun hf => ?_) (fun hf => ?_)
        · exact hc_34 x1 x3 s1 _ _ _ (lv_sub hl [0, 1, 3] rfl) hP hS hf
        · refine lv_iload_n hx hb dX12_worthOfProduct_16 rfl (lv_at hl 1 rfl) ?_
          refine lv_iload_n hx hb dX12_worthOfProduct_17 rfl (lv_at hl 3 rfl) ?_
          obtain ⟨r4, s5, h6, hf⟩ := zbd_some hf
          refine zcallS X hP hS hl.1 (As := [.int x1, .int x3]) (rest := []) (cn_X12_powerIn h6) cw_X12_powerIn ml_X12_19 (by decide) rfl rfl (Nat.le_of_ble_eq_true rfl) dX12_worthOfProduct_18 (fun H locs hP hS => ?_)
          refine lv_aload_n hx hb dX12_worthOfProduct_21 rfl (lv_at hl 0 rfl) ?_
          refine gf_X12_23 X hP (k := 0) (q := 1) rfl dX12_worthOfProduct_22 rfl ?_
          refine lv_iload_n hx hb dX12_worthOfProduct_25 rfl (lv_at hl 3 rfl) ?_
          obtain ⟨g7, hf⟩ := zgd hf
          refine zald_i X hP (k := 1) (n := 3) (rs := []) rfl g7 dX12_worthOfProduct_26 ?_
          refine zicmp_ne (tgt := 34) hx hb dX12_worthOfProduct_27 (by decide) hf (fun hf => ?_) (fun hf => ?_)
          · exact hc_34 x1 x3 s5 _ _ _ (lv_sub hl [0, 1, 3] rfl) hP hS hf
          · refine lv_iconst (v := 1) hx hb dX12_worthOfProduct_30 (by decide) ?_
            refine lv_goto (tgt := 35) hx hb dX12_worthOfProduct_31 (by decide) ?_
            exact hc_35 x1 x3 1 s5 _ _ _ (lv_sub hl [0, 1, 3] rfl) hP hS hf
  rw [f_X12_worthOfProduct] at hf
  refine lv_iconst (v := 1) hx hb dX12_worthOfProduct_0 (by decide) ?_
  refine lv_istore_n (lv' := [(2, .int 1), (0, .ref (ad 0)), (1, .int x1)]) hx hb dX12_worthOfProduct_1 rfl hl (by decide) rfl (fun ls hl => ?_)
  refine lv_iconst (v := 0) hx hb dX12_worthOfProduct_2 (by decide) ?_
  refine lv_istore_n (lv' := [(3, .int 0), (2, .int 1), (0, .ref (ad 0)), (1, .int x1)]) hx hb dX12_worthOfProduct_3 rfl hl (by decide) rfl (fun ls hl => ?_)
  exact hc_4 ZF x1 1 0 s0 _ _ _ (lv_sub hl [2, 3, 1, 0] rfl) hP hS hf
theorem dX12_worthOfCurved_0 : decode cX12_worthOfCurved 0 = .ok (.iload_n 1, 1) := by decide +kernel
theorem dX12_worthOfCurved_1 : decode cX12_worthOfCurved 1 = .ok (.iconst 3, 1) := by decide +kernel
theorem dX12_worthOfCurved_2 : decode cX12_worthOfCurved 2 = .ok (.if_icmp .ne 5, 3) := by decide +kernel
theorem dX12_worthOfCurved_5 : decode cX12_worthOfCurved 5 = .ok (.lconst 1, 1) := by decide +kernel
theorem dX12_worthOfCurved_6 : decode cX12_worthOfCurved 6 = .ok (.lreturn, 1) := by decide +kernel
theorem dX12_worthOfCurved_7 : decode cX12_worthOfCurved 7 = .ok (.iconst 0, 1) := by decide +kernel
theorem dX12_worthOfCurved_8 : decode cX12_worthOfCurved 8 = .ok (.istore_n 2, 1) := by decide +kernel
theorem dX12_worthOfCurved_9 : decode cX12_worthOfCurved 9 = .ok (.iload_n 2, 1) := by decide +kernel
theorem dX12_worthOfCurved_10 : decode cX12_worthOfCurved 10 = .ok (.aload_n 0, 1) := by decide +kernel
theorem dX12_worthOfCurved_11 : decode cX12_worthOfCurved 11 = .ok (.getfield 12, 3) := by decide +kernel
theorem dX12_worthOfCurved_14 : decode cX12_worthOfCurved 14 = .ok (.if_icmp .ge 72, 3) := by decide +kernel
theorem dX12_worthOfCurved_17 : decode cX12_worthOfCurved 17 = .ok (.iload_n 1, 1) := by decide +kernel
theorem dX12_worthOfCurved_18 : decode cX12_worthOfCurved 18 = .ok (.iconst 1, 1) := by decide +kernel
theorem dX12_worthOfCurved_19 : decode cX12_worthOfCurved 19 = .ok (.iconst 2, 1) := by decide +kernel
theorem dX12_worthOfCurved_20 : decode cX12_worthOfCurved 20 = .ok (.iconst 1, 1) := by decide +kernel
theorem dX12_worthOfCurved_21 : decode cX12_worthOfCurved 21 = .ok (.iload_n 2, 1) := by decide +kernel
theorem dX12_worthOfCurved_22 : decode cX12_worthOfCurved 22 = .ok (.iadd, 1) := by decide +kernel
theorem dX12_worthOfCurved_23 : decode cX12_worthOfCurved 23 = .ok (.invokestatic 15, 3) := by decide +kernel
theorem dX12_worthOfCurved_26 : decode cX12_worthOfCurved 26 = .ok (.imul, 1) := by decide +kernel
theorem dX12_worthOfCurved_27 : decode cX12_worthOfCurved 27 = .ok (.iadd, 1) := by decide +kernel
theorem dX12_worthOfCurved_28 : decode cX12_worthOfCurved 28 = .ok (.if_icmp .ne 12, 3) := by decide +kernel
theorem dX12_worthOfCurved_31 : decode cX12_worthOfCurved 31 = .ok (.aload_n 0, 1) := by decide +kernel
theorem dX12_worthOfCurved_32 : decode cX12_worthOfCurved 32 = .ok (.getfield 32, 3) := by decide +kernel
theorem dX12_worthOfCurved_35 : decode cX12_worthOfCurved 35 = .ok (.iload_n 2, 1) := by decide +kernel
theorem dX12_worthOfCurved_36 : decode cX12_worthOfCurved 36 = .ok (.iaload, 1) := by decide +kernel
theorem dX12_worthOfCurved_37 : decode cX12_worthOfCurved 37 = .ok (.ineg, 1) := by decide +kernel
theorem dX12_worthOfCurved_38 : decode cX12_worthOfCurved 38 = .ok (.i2l, 1) := by decide +kernel
theorem dX12_worthOfCurved_39 : decode cX12_worthOfCurved 39 = .ok (.lreturn, 1) := by decide +kernel
theorem dX12_worthOfCurved_40 : decode cX12_worthOfCurved 40 = .ok (.iload_n 1, 1) := by decide +kernel
theorem dX12_worthOfCurved_41 : decode cX12_worthOfCurved 41 = .ok (.iconst 3, 1) := by decide +kernel
theorem dX12_worthOfCurved_42 : decode cX12_worthOfCurved 42 = .ok (.iconst 1, 1) := by decide +kernel
theorem dX12_worthOfCurved_43 : decode cX12_worthOfCurved 43 = .ok (.iload_n 2, 1) := by decide +kernel
theorem dX12_worthOfCurved_44 : decode cX12_worthOfCurved 44 = .ok (.iadd, 1) := by decide +kernel
theorem dX12_worthOfCurved_45 : decode cX12_worthOfCurved 45 = .ok (.invokestatic 15, 3) := by decide +kernel
theorem dX12_worthOfCurved_48 : decode cX12_worthOfCurved 48 = .ok (.imul, 1) := by decide +kernel
theorem dX12_worthOfCurved_49 : decode cX12_worthOfCurved 49 = .ok (.if_icmp .ne 31, 3) := by decide +kernel
theorem dX12_worthOfCurved_52 : decode cX12_worthOfCurved 52 = .ok (.ldc2_w 35, 3) := by decide +kernel
theorem dX12_worthOfCurved_55 : decode cX12_worthOfCurved 55 = .ok (.ldc2_w 35, 3) := by decide +kernel
theorem dX12_worthOfCurved_58 : decode cX12_worthOfCurved 58 = .ok (.aload_n 0, 1) := by decide +kernel
theorem dX12_worthOfCurved_59 : decode cX12_worthOfCurved 59 = .ok (.getfield 37, 3) := by decide +kernel
theorem dX12_worthOfCurved_62 : decode cX12_worthOfCurved 62 = .ok (.iload_n 2, 1) := by decide +kernel
theorem dX12_worthOfCurved_63 : decode cX12_worthOfCurved 63 = .ok (.iaload, 1) := by decide +kernel
theorem dX12_worthOfCurved_64 : decode cX12_worthOfCurved 64 = .ok (.i2l, 1) := by decide +kernel
theorem dX12_worthOfCurved_65 : decode cX12_worthOfCurved 65 = .ok (.lmul, 1) := by decide +kernel
theorem dX12_worthOfCurved_66 : decode cX12_worthOfCurved 66 = .ok (.lsub, 1) := by decide +kernel
theorem dX12_worthOfCurved_67 : decode cX12_worthOfCurved 67 = .ok (.ldc2_w 40, 3) := by decide +kernel
theorem dX12_worthOfCurved_70 : decode cX12_worthOfCurved 70 = .ok (.aload_n 0, 1) := by decide +kernel
theorem dX12_worthOfCurved_71 : decode cX12_worthOfCurved 71 = .ok (.getfield 32, 3) := by decide +kernel
theorem dX12_worthOfCurved_74 : decode cX12_worthOfCurved 74 = .ok (.iload_n 2, 1) := by decide +kernel
theorem dX12_worthOfCurved_75 : decode cX12_worthOfCurved 75 = .ok (.iaload, 1) := by decide +kernel
theorem dX12_worthOfCurved_76 : decode cX12_worthOfCurved 76 = .ok (.i2l, 1) := by decide +kernel
theorem dX12_worthOfCurved_77 : decode cX12_worthOfCurved 77 = .ok (.lmul, 1) := by decide +kernel
theorem dX12_worthOfCurved_78 : decode cX12_worthOfCurved 78 = .ok (.lsub, 1) := by decide +kernel
theorem dX12_worthOfCurved_79 : decode cX12_worthOfCurved 79 = .ok (.lreturn, 1) := by decide +kernel
theorem dX12_worthOfCurved_80 : decode cX12_worthOfCurved 80 = .ok (.iinc 2 1, 3) := by decide +kernel
theorem dX12_worthOfCurved_83 : decode cX12_worthOfCurved 83 = .ok (.goto (-74), 3) := by decide +kernel
theorem dX12_worthOfCurved_86 : decode cX12_worthOfCurved 86 = .ok (.lconst 0, 1) := by decide +kernel
theorem dX12_worthOfCurved_87 : decode cX12_worthOfCurved 87 = .ok (.lreturn, 1) := by decide +kernel
set_option maxHeartbeats 4000000 in
set_option maxRecDepth 100000 in
theorem cn_X12_worthOfCurved {l : Launch} {cA : Nat → ClassId} {ad : Nat → Nat} {D : va_G} {E : Nat → Nat} {A : Nat → Prop} {x1 : Int32} {s0 sr : SS} {rr : Int64} (hf : f_X12_worthOfCurved x1 s0 = some (rr, sr)) : zCon Om Nm cA ad D E l yX12_worthOfCurved cX12_worthOfCurved 3 (some .long) 1 A [.ref (ad 0), .int x1] s0 (some (.long rr)) sr := by
  refine zstart (own := RX12) hOm (by decide) rfl (Nat.le_of_ble_eq_true rfl) ?_
  intro p e s m args below meth c X hP ls hl
  have hx := X.1
  have hb := X.2.1
  have hl : lv_has ls 3 [(0, .ref (ad 0)), (1, .int x1)] := hl
  have hS : va_S A s.heap s.heap [] := va_S.rf
  have hc_9 : ∀ (n9 : Nat) (x1 : Int32) (x2 : Int32) (s1 : SS) (H : Heap) (locs : List Loc) (ls : Array Slot), lv_has ls 3 [(0, .ref (ad 0)), (1, .int x1), (2, .int x2)] → va_P D ZCL (zw Om Nm cA ad s1) H → va_S A s.heap H locs → f_X12_worthOfCurved_c9 n9 x1 x2 s1 = some (rr, sr) → W p l e (zrm 1) s m args below meth c H locs 0 0 (MQ below (zQc Om Nm cA ad D A (some (.long rr)) sr) args s 0 0 A) (F0 m 9 ls []) := by
    intro n9
    induction n9 with
    | zero =>
      intro x1 x2 s1 H locs ls hl hP hS hf
      rw [f_X12_worthOfCurved_c9] at hf
      cases hf
    | succ n9 ih9 =>
      intro x1 x2 s1 H locs ls hl hP hS hf
      rw [f_X12_worthOfCurved_c9] at hf
      refine lv_iload_n hx hb dX12_worthOfCurved_9 rfl (lv_at hl 2 rfl) ?_
      refine lv_aload_n hx hb dX12_worthOfCurved_10 rfl (lv_at hl 0 rfl) ?_
      refine gf_X12_12 X hP (k := 0) rfl dX12_worthOfCurved_11 ?_
      refine zicmp_ge (tgt := 86) hx hb dX12_worthOfCurved_14 (by decide) hf (fun hf => ?_) (fun hf => ?_)
      · refine lv_lconst (v := 0) hx hb dX12_worthOfCurved_86 (by decide) ?_
        exact zret_l X hP hS hf dX12_worthOfCurved_87
      · refine lv_iload_n hx hb dX12_worthOfCurved_17 rfl (lv_at hl 1 rfl) ?_
        refine lv_iconst (v := 1) hx hb dX12_worthOfCurved_18 (by decide) ?_
        refine lv_iconst (v := 2) hx hb dX12_worthOfCurved_19 (by decide) ?_
        refine lv_iconst (v := 1) hx hb dX12_worthOfCurved_20 (by decide) ?_
        refine lv_iload_n hx hb dX12_worthOfCurved_21 rfl (lv_at hl 2 rfl) ?_
        refine lv_iadd hx hb dX12_worthOfCurved_22 ?_
        obtain ⟨r1, s2, h3, hf⟩ := zbd_some hf
        refine zcallS X hP hS hl.1 (As := [.int ((1 : Int32) + x2)]) (rest := [.int 2, .int 1, .int x1]) (cn_X12_tens h3) cw_X12_tens ml_X12_15 (by decide) rfl rfl (Nat.le_of_ble_eq_true rfl) dX12_worthOfCurved_23 (fun H locs hP hS => ?_)
        refine lv_imul hx hb dX12_worthOfCurved_26 ?_
        refine lv_iadd hx hb dX12_worthOfCurved_27 ?_
        refine zicmp_ne (tgt := 40) hx hb dX12_worthOfCurved_28 (by decide) hf (fun hf => ?_) (fun hf => ?_)
        · refine lv_iload_n hx hb dX12_worthOfCurved_40 rfl (lv_at hl 1 rfl) ?_
          refine lv_iconst (v := 3) hx hb dX12_worthOfCurved_41 (by decide) ?_
          refine lv_iconst (v := 1) hx hb dX12_worthOfCurved_42 (by decide) ?_
          refine lv_iload_n hx hb dX12_worthOfCurved_43 rfl (lv_at hl 2 rfl) ?_
          refine lv_iadd hx hb dX12_worthOfCurved_44 ?_
          obtain ⟨r4, s5, h6, hf⟩ := zbd_some hf
          refine zcallS X hP hS hl.1 (As := [.int ((1 : Int32) + x2)]) (rest := [.int 3, .int x1]) (cn_X12_tens h6) cw_X12_tens ml_X12_15 (by decide) rfl rfl (Nat.le_of_ble_eq_true rfl) dX12_worthOfCurved_45 (fun H locs hP hS => ?_)
          refine lv_imul hx hb dX12_worthOfCurved_48 ?_
          refine zicmp_ne (tgt := 80) hx hb dX12_worthOfCurved_49 (by decide) hf (fun hf => ?_) (fun hf => ?_)
          · refine lv_iinc (v := (x2 + 1)) (lv' := [(2, .int (x2 + 1)), (0, .ref (ad 0)), (1, .int x1)]) hx hb dX12_worthOfCurved_80 hl (k := 2) rfl rfl (by decide) rfl (fun ls hl => ?_)
            refine lv_goto (tgt := 9) hx hb dX12_worthOfCurved_83 (by decide) ?_
            exact ih9 x1 (x2 + 1) s5 _ _ _ (lv_sub hl [1, 2, 0] rfl) hP hS hf
          · refine zldc2 X co_X12_35 dX12_worthOfCurved_52 ?_
            refine zldc2 X co_X12_35 dX12_worthOfCurved_55 ?_
            refine lv_aload_n hx hb dX12_worthOfCurved_58 rfl (lv_at hl 0 rfl) ?_
            refine gf_X12_37 X hP (k := 0) (q := 3) rfl dX12_worthOfCurved_59 rfl ?_
            refine lv_iload_n hx hb dX12_worthOfCurved_62 rfl (lv_at hl 2 rfl) ?_
            obtain ⟨g7, hf⟩ := zgd hf
            refine zald_i X hP (k := 3) (n := 3) (rs := []) rfl g7 dX12_worthOfCurved_63 ?_
            refine lv_i2l hx hb dX12_worthOfCurved_64 rfl ?_
            refine lv_lmul hx hb dX12_worthOfCurved_65 ?_
            refine lv_lsub hx hb dX12_worthOfCurved_66 ?_
            refine zldc2 X co_X12_40 dX12_worthOfCurved_67 ?_
            refine lv_aload_n hx hb dX12_worthOfCurved_70 rfl (lv_at hl 0 rfl) ?_
            refine gf_X12_32 X hP (k := 0) (q := 2) rfl dX12_worthOfCurved_71 rfl ?_
            refine lv_iload_n hx hb dX12_worthOfCurved_74 rfl (lv_at hl 2 rfl) ?_
            obtain ⟨g8, hf⟩ := zgd hf
            refine zald_i X hP (k := 2) (n := 3) (rs := []) rfl g8 dX12_worthOfCurved_75 ?_
            refine lv_i2l hx hb dX12_worthOfCurved_76 rfl ?_
            refine lv_lmul hx hb dX12_worthOfCurved_77 ?_
            refine lv_lsub hx hb dX12_worthOfCurved_78 ?_
            exact zret_l X hP hS hf dX12_worthOfCurved_79
        · refine lv_aload_n hx hb dX12_worthOfCurved_31 rfl (lv_at hl 0 rfl) ?_
          refine gf_X12_32 X hP (k := 0) (q := 2) rfl dX12_worthOfCurved_32 rfl ?_
          refine lv_iload_n hx hb dX12_worthOfCurved_35 rfl (lv_at hl 2 rfl) ?_
          obtain ⟨g9, hf⟩ := zgd hf
          refine zald_i X hP (k := 2) (n := 3) (rs := []) rfl g9 dX12_worthOfCurved_36 ?_
          refine lv_ineg hx hb dX12_worthOfCurved_37 ?_
          refine lv_i2l hx hb dX12_worthOfCurved_38 rfl ?_
          exact zret_l X hP hS hf dX12_worthOfCurved_39
  rw [f_X12_worthOfCurved] at hf
  refine lv_iload_n hx hb dX12_worthOfCurved_0 rfl (lv_at hl 1 rfl) ?_
  refine lv_iconst (v := 3) hx hb dX12_worthOfCurved_1 (by decide) ?_
  refine zicmp_ne (tgt := 7) hx hb dX12_worthOfCurved_2 (by decide) hf (fun hf => ?_) (fun hf => ?_)
  · refine lv_iconst (v := 0) hx hb dX12_worthOfCurved_7 (by decide) ?_
    refine lv_istore_n (lv' := [(2, .int 0), (0, .ref (ad 0)), (1, .int x1)]) hx hb dX12_worthOfCurved_8 rfl hl (by decide) rfl (fun ls hl => ?_)
    exact hc_9 ZF x1 0 s0 _ _ _ (lv_sub hl [1, 2, 0] rfl) hP hS hf
  · refine lv_lconst (v := 1) hx hb dX12_worthOfCurved_5 (by decide) ?_
    exact zret_l X hP hS hf dX12_worthOfCurved_6
theorem dX12_worthBy_0 : decode cX12_worthBy 0 = .ok (.iload_n 1, 1) := by decide +kernel
theorem dX12_worthBy_1 : decode cX12_worthBy 1 = .ok (.invokestatic 42, 3) := by decide +kernel
theorem dX12_worthBy_4 : decode cX12_worthBy 4 = .ok (.aload_n 0, 1) := by decide +kernel
theorem dX12_worthBy_5 : decode cX12_worthBy 5 = .ok (.getfield 27, 3) := by decide +kernel
theorem dX12_worthBy_8 : decode cX12_worthBy 8 = .ok (.if_icmp .eq 5, 3) := by decide +kernel
theorem dX12_worthBy_11 : decode cX12_worthBy 11 = .ok (.lconst 0, 1) := by decide +kernel
theorem dX12_worthBy_12 : decode cX12_worthBy 12 = .ok (.lreturn, 1) := by decide +kernel
theorem dX12_worthBy_13 : decode cX12_worthBy 13 = .ok (.aload_n 0, 1) := by decide +kernel
theorem dX12_worthBy_14 : decode cX12_worthBy 14 = .ok (.getfield 3, 3) := by decide +kernel
theorem dX12_worthBy_17 : decode cX12_worthBy 17 = .ok (.iconst 2, 1) := by decide +kernel
theorem dX12_worthBy_18 : decode cX12_worthBy 18 = .ok (.if_icmp .ge 24, 3) := by decide +kernel
theorem dX12_worthBy_21 : decode cX12_worthBy 21 = .ok (.aload_n 0, 1) := by decide +kernel
theorem dX12_worthBy_22 : decode cX12_worthBy 22 = .ok (.getfield 3, 3) := by decide +kernel
theorem dX12_worthBy_25 : decode cX12_worthBy 25 = .ok (.ifCond .ne 11, 3) := by decide +kernel
theorem dX12_worthBy_28 : decode cX12_worthBy 28 = .ok (.aload_n 0, 1) := by decide +kernel
theorem dX12_worthBy_29 : decode cX12_worthBy 29 = .ok (.iload_n 1, 1) := by decide +kernel
theorem dX12_worthBy_30 : decode cX12_worthBy 30 = .ok (.invokevirtual 45, 3) := by decide +kernel
theorem dX12_worthBy_33 : decode cX12_worthBy 33 = .ok (.goto 8, 3) := by decide +kernel
theorem dX12_worthBy_36 : decode cX12_worthBy 36 = .ok (.aload_n 0, 1) := by decide +kernel
theorem dX12_worthBy_37 : decode cX12_worthBy 37 = .ok (.iload_n 1, 1) := by decide +kernel
theorem dX12_worthBy_38 : decode cX12_worthBy 38 = .ok (.invokevirtual 49, 3) := by decide +kernel
theorem dX12_worthBy_41 : decode cX12_worthBy 41 = .ok (.lreturn, 1) := by decide +kernel
theorem dX12_worthBy_42 : decode cX12_worthBy 42 = .ok (.iload_n 1, 1) := by decide +kernel
theorem dX12_worthBy_43 : decode cX12_worthBy 43 = .ok (.iconst 5, 1) := by decide +kernel
theorem dX12_worthBy_44 : decode cX12_worthBy 44 = .ok (.if_icmp .ne 7, 3) := by decide +kernel
theorem dX12_worthBy_47 : decode cX12_worthBy 47 = .ok (.lconst 1, 1) := by decide +kernel
theorem dX12_worthBy_48 : decode cX12_worthBy 48 = .ok (.goto 40, 3) := by decide +kernel
theorem dX12_worthBy_51 : decode cX12_worthBy 51 = .ok (.iload_n 1, 1) := by decide +kernel
theorem dX12_worthBy_52 : decode cX12_worthBy 52 = .ok (.bipush 32, 2) := by decide +kernel
theorem dX12_worthBy_54 : decode cX12_worthBy 54 = .ok (.if_icmp .ne 9, 3) := by decide +kernel
theorem dX12_worthBy_57 : decode cX12_worthBy 57 = .ok (.ldc2_w 40, 3) := by decide +kernel
theorem dX12_worthBy_60 : decode cX12_worthBy 60 = .ok (.goto 28, 3) := by decide +kernel
theorem dX12_worthBy_63 : decode cX12_worthBy 63 = .ok (.iload_n 1, 1) := by decide +kernel
theorem dX12_worthBy_64 : decode cX12_worthBy 64 = .ok (.bipush 41, 2) := by decide +kernel
theorem dX12_worthBy_66 : decode cX12_worthBy 66 = .ok (.if_icmp .ne 9, 3) := by decide +kernel
theorem dX12_worthBy_69 : decode cX12_worthBy 69 = .ok (.ldc2_w 52, 3) := by decide +kernel
theorem dX12_worthBy_72 : decode cX12_worthBy 72 = .ok (.goto 16, 3) := by decide +kernel
theorem dX12_worthBy_75 : decode cX12_worthBy 75 = .ok (.iload_n 1, 1) := by decide +kernel
theorem dX12_worthBy_76 : decode cX12_worthBy 76 = .ok (.bipush 50, 2) := by decide +kernel
theorem dX12_worthBy_78 : decode cX12_worthBy 78 = .ok (.if_icmp .ne 9, 3) := by decide +kernel
theorem dX12_worthBy_81 : decode cX12_worthBy 81 = .ok (.ldc2_w 54, 3) := by decide +kernel
theorem dX12_worthBy_84 : decode cX12_worthBy 84 = .ok (.goto 4, 3) := by decide +kernel
theorem dX12_worthBy_87 : decode cX12_worthBy 87 = .ok (.lconst 0, 1) := by decide +kernel
theorem dX12_worthBy_88 : decode cX12_worthBy 88 = .ok (.lreturn, 1) := by decide +kernel
set_option maxHeartbeats 4000000 in
set_option maxRecDepth 100000 in
theorem cn_X12_worthBy {l : Launch} {cA : Nat → ClassId} {ad : Nat → Nat} {D : va_G} {E : Nat → Nat} {A : Nat → Prop} {x1 : Int32} {s0 sr : SS} {rr : Int64} (hf : f_X12_worthBy x1 s0 = some (rr, sr)) : zCon Om Nm cA ad D E l yX12_worthBy cX12_worthBy 2 (some .long) 3 A [.ref (ad 0), .int x1] s0 (some (.long rr)) sr := by
  refine zstart (own := RX12) hOm (by decide) rfl (Nat.le_of_ble_eq_true rfl) ?_
  intro p e s m args below meth c X hP ls hl
  have hx := X.1
  have hb := X.2.1
  have hl : lv_has ls 2 [(0, .ref (ad 0)), (1, .int x1)] := hl
  have hS : va_S A s.heap s.heap [] := va_S.rf
  rw [f_X12_worthBy] at hf
  refine lv_iload_n hx hb dX12_worthBy_0 rfl (lv_at hl 1 rfl) ?_
  obtain ⟨r1, s2, h3, hf⟩ := zbd_some hf
  refine zcallS X hP hS hl.1 (As := [.int x1]) (rest := []) (cn_X12_sizeOf h3) cw_X12_sizeOf ml_X12_42 (by decide) rfl rfl (Nat.le_of_ble_eq_true rfl) dX12_worthBy_1 (fun H locs hP hS => ?_)
  refine lv_aload_n hx hb dX12_worthBy_4 rfl (lv_at hl 0 rfl) ?_
  refine gf_X12_27 X hP (k := 0) rfl dX12_worthBy_5 ?_
  refine zicmp_eq (tgt := 13) hx hb dX12_worthBy_8 (by decide) hf (fun hf => ?_) (fun hf => ?_)
  · refine lv_aload_n hx hb dX12_worthBy_13 rfl (lv_at hl 0 rfl) ?_
    refine gf_X12_3 X hP (k := 0) rfl dX12_worthBy_14 ?_
    refine lv_iconst (v := 2) hx hb dX12_worthBy_17 (by decide) ?_
    refine zicmp_ge (tgt := 42) hx hb dX12_worthBy_18 (by decide) hf (fun hf => ?_) (fun hf => ?_)
    · refine lv_iload_n hx hb dX12_worthBy_42 rfl (lv_at hl 1 rfl) ?_
      refine lv_iconst (v := 5) hx hb dX12_worthBy_43 (by decide) ?_
      refine zicmp_ne (tgt := 51) hx hb dX12_worthBy_44 (by decide) hf (fun hf => ?_) (fun hf => ?_)
      · refine lv_iload_n hx hb dX12_worthBy_51 rfl (lv_at hl 1 rfl) ?_
        refine lv_bipush (v := 32) hx hb dX12_worthBy_52 (by decide) ?_
        refine zicmp_ne (tgt := 63) hx hb dX12_worthBy_54 (by decide) hf (fun hf => ?_) (fun hf => ?_)
        · refine lv_iload_n hx hb dX12_worthBy_63 rfl (lv_at hl 1 rfl) ?_
          refine lv_bipush (v := 41) hx hb dX12_worthBy_64 (by decide) ?_
          refine zicmp_ne (tgt := 75) hx hb dX12_worthBy_66 (by decide) hf (fun hf => ?_) (fun hf => ?_)
          · refine lv_iload_n hx hb dX12_worthBy_75 rfl (lv_at hl 1 rfl) ?_
            refine lv_bipush (v := 50) hx hb dX12_worthBy_76 (by decide) ?_
            refine zicmp_ne (tgt := 87) hx hb dX12_worthBy_78 (by decide) hf (fun hf => ?_) (fun hf => ?_)
            · refine lv_lconst (v := 0) hx hb dX12_worthBy_87 (by decide) ?_
              exact zret_l X hP hS hf dX12_worthBy_88
            · refine zldc2 X co_X12_54 dX12_worthBy_81 ?_
              refine lv_goto (tgt := 88) hx hb dX12_worthBy_84 (by decide) ?_
              exact zret_l X hP hS hf dX12_worthBy_88
          · refine zldc2 X co_X12_52 dX12_worthBy_69 ?_
            refine lv_goto (tgt := 88) hx hb dX12_worthBy_72 (by decide) ?_
            exact zret_l X hP hS hf dX12_worthBy_88
        · refine zldc2 X co_X12_40 dX12_worthBy_57 ?_
          refine lv_goto (tgt := 88) hx hb dX12_worthBy_60 (by decide) ?_
          exact zret_l X hP hS hf dX12_worthBy_88
      · refine lv_lconst (v := 1) hx hb dX12_worthBy_47 (by decide) ?_
        refine lv_goto (tgt := 88) hx hb dX12_worthBy_48 (by decide) ?_
        exact zret_l X hP hS hf dX12_worthBy_88
    · refine lv_aload_n hx hb dX12_worthBy_21 rfl (lv_at hl 0 rfl) ?_
      refine gf_X12_3 X hP (k := 0) rfl dX12_worthBy_22 ?_
      refine zif_ne (tgt := 36) hx hb dX12_worthBy_25 (by decide) hf (fun hf => ?_) (fun hf => ?_)
      · refine lv_aload_n hx hb dX12_worthBy_36 rfl (lv_at hl 0 rfl) ?_
        refine lv_iload_n hx hb dX12_worthBy_37 rfl (lv_at hl 1 rfl) ?_
        obtain ⟨r4, s5, h6, hf⟩ := zbd_some hf
        refine zcallV X hP hS hl.1 (k := 0) (As := [.int x1]) (rest := []) (cn_X12_worthOfCurved h6) cw_X12_worthOfCurved zp_12 rfl (by decide) rfl ml_X12_49 (by decide) rfl rfl (Nat.le_of_ble_eq_true rfl) dX12_worthBy_38 (fun H locs hP hS => ?_)
        exact zret_l X hP hS hf dX12_worthBy_41
      · refine lv_aload_n hx hb dX12_worthBy_28 rfl (lv_at hl 0 rfl) ?_
        refine lv_iload_n hx hb dX12_worthBy_29 rfl (lv_at hl 1 rfl) ?_
        obtain ⟨r7, s8, h9, hf⟩ := zbd_some hf
        refine zcallV X hP hS hl.1 (k := 0) (As := [.int x1]) (rest := []) (cn_X12_worthOfProduct h9) cw_X12_worthOfProduct zp_12 rfl (by decide) rfl ml_X12_45 (by decide) rfl rfl (Nat.le_of_ble_eq_true rfl) dX12_worthBy_30 (fun H locs hP hS => ?_)
        refine lv_goto (tgt := 41) hx hb dX12_worthBy_33 (by decide) ?_
        exact zret_l X hP hS hf dX12_worthBy_41
  · refine lv_lconst (v := 0) hx hb dX12_worthBy_11 (by decide) ?_
    exact zret_l X hP hS hf dX12_worthBy_12
theorem dX12_carry_0 : decode cX12_carry 0 = .ok (.iconst 0, 1) := by decide +kernel
theorem dX12_carry_1 : decode cX12_carry 1 = .ok (.istore_n 2, 1) := by decide +kernel
theorem dX12_carry_2 : decode cX12_carry 2 = .ok (.iload_n 2, 1) := by decide +kernel
theorem dX12_carry_3 : decode cX12_carry 3 = .ok (.aload_n 0, 1) := by decide +kernel
theorem dX12_carry_4 : decode cX12_carry 4 = .ok (.getfield 89, 3) := by decide +kernel
theorem dX12_carry_7 : decode cX12_carry 7 = .ok (.if_icmp .ge 134, 3) := by decide +kernel
theorem dX12_carry_10 : decode cX12_carry 10 = .ok (.iconst 0, 1) := by decide +kernel
theorem dX12_carry_11 : decode cX12_carry 11 = .ok (.istore_n 3, 1) := by decide +kernel
theorem dX12_carry_12 : decode cX12_carry 12 = .ok (.iload_n 3, 1) := by decide +kernel
theorem dX12_carry_13 : decode cX12_carry 13 = .ok (.aload_n 0, 1) := by decide +kernel
theorem dX12_carry_14 : decode cX12_carry 14 = .ok (.getfield 56, 3) := by decide +kernel
theorem dX12_carry_17 : decode cX12_carry 17 = .ok (.if_icmp .ge 22, 3) := by decide +kernel
theorem dX12_carry_20 : decode cX12_carry 20 = .ok (.aload_n 0, 1) := by decide +kernel
theorem dX12_carry_21 : decode cX12_carry 21 = .ok (.getfield 92, 3) := by decide +kernel
theorem dX12_carry_24 : decode cX12_carry 24 = .ok (.sipush 462, 3) := by decide +kernel
theorem dX12_carry_27 : decode cX12_carry 27 = .ok (.iload_n 2, 1) := by decide +kernel
theorem dX12_carry_28 : decode cX12_carry 28 = .ok (.imul, 1) := by decide +kernel
theorem dX12_carry_29 : decode cX12_carry 29 = .ok (.iload_n 3, 1) := by decide +kernel
theorem dX12_carry_30 : decode cX12_carry 30 = .ok (.iadd, 1) := by decide +kernel
theorem dX12_carry_31 : decode cX12_carry 31 = .ok (.lconst 0, 1) := by decide +kernel
theorem dX12_carry_32 : decode cX12_carry 32 = .ok (.lastore, 1) := by decide +kernel
theorem dX12_carry_33 : decode cX12_carry 33 = .ok (.iinc 3 1, 3) := by decide +kernel
theorem dX12_carry_36 : decode cX12_carry 36 = .ok (.goto (-24), 3) := by decide +kernel
theorem dX12_carry_39 : decode cX12_carry 39 = .ok (.iconst 0, 1) := by decide +kernel
theorem dX12_carry_40 : decode cX12_carry 40 = .ok (.istore_n 3, 1) := by decide +kernel
theorem dX12_carry_41 : decode cX12_carry 41 = .ok (.iload_n 3, 1) := by decide +kernel
theorem dX12_carry_42 : decode cX12_carry 42 = .ok (.iload_n 1, 1) := by decide +kernel
theorem dX12_carry_43 : decode cX12_carry 43 = .ok (.if_icmp .ge 52, 3) := by decide +kernel
theorem dX12_carry_46 : decode cX12_carry 46 = .ok (.aload_n 0, 1) := by decide +kernel
theorem dX12_carry_47 : decode cX12_carry 47 = .ok (.getfield 65, 3) := by decide +kernel
theorem dX12_carry_50 : decode cX12_carry 50 = .ok (.aload_n 0, 1) := by decide +kernel
theorem dX12_carry_51 : decode cX12_carry 51 = .ok (.getfield 59, 3) := by decide +kernel
theorem dX12_carry_54 : decode cX12_carry 54 = .ok (.iload_n 3, 1) := by decide +kernel
theorem dX12_carry_55 : decode cX12_carry 55 = .ok (.iaload, 1) := by decide +kernel
theorem dX12_carry_56 : decode cX12_carry 56 = .ok (.iaload, 1) := by decide +kernel
theorem dX12_carry_57 : decode cX12_carry 57 = .ok (.istore 4, 2) := by decide +kernel
theorem dX12_carry_59 : decode cX12_carry 59 = .ok (.iload 4, 2) := by decide +kernel
theorem dX12_carry_61 : decode cX12_carry 61 = .ok (.ifCond .lt 28, 3) := by decide +kernel
theorem dX12_carry_64 : decode cX12_carry 64 = .ok (.aload_n 0, 1) := by decide +kernel
theorem dX12_carry_65 : decode cX12_carry 65 = .ok (.getfield 92, 3) := by decide +kernel
theorem dX12_carry_68 : decode cX12_carry 68 = .ok (.sipush 462, 3) := by decide +kernel
theorem dX12_carry_71 : decode cX12_carry 71 = .ok (.iload_n 2, 1) := by decide +kernel
theorem dX12_carry_72 : decode cX12_carry 72 = .ok (.imul, 1) := by decide +kernel
theorem dX12_carry_73 : decode cX12_carry 73 = .ok (.iload 4, 2) := by decide +kernel
theorem dX12_carry_75 : decode cX12_carry 75 = .ok (.iadd, 1) := by decide +kernel
theorem dX12_carry_76 : decode cX12_carry 76 = .ok (.aload_n 0, 1) := by decide +kernel
theorem dX12_carry_77 : decode cX12_carry 77 = .ok (.getfield 95, 3) := by decide +kernel
theorem dX12_carry_80 : decode cX12_carry 80 = .ok (.sipush 462, 3) := by decide +kernel
theorem dX12_carry_83 : decode cX12_carry 83 = .ok (.iload_n 2, 1) := by decide +kernel
theorem dX12_carry_84 : decode cX12_carry 84 = .ok (.imul, 1) := by decide +kernel
theorem dX12_carry_85 : decode cX12_carry 85 = .ok (.iload_n 3, 1) := by decide +kernel
theorem dX12_carry_86 : decode cX12_carry 86 = .ok (.iadd, 1) := by decide +kernel
theorem dX12_carry_87 : decode cX12_carry 87 = .ok (.laload, 1) := by decide +kernel
theorem dX12_carry_88 : decode cX12_carry 88 = .ok (.lastore, 1) := by decide +kernel
theorem dX12_carry_89 : decode cX12_carry 89 = .ok (.iinc 3 1, 3) := by decide +kernel
theorem dX12_carry_92 : decode cX12_carry 92 = .ok (.goto (-51), 3) := by decide +kernel
theorem dX12_carry_95 : decode cX12_carry 95 = .ok (.iconst 0, 1) := by decide +kernel
theorem dX12_carry_96 : decode cX12_carry 96 = .ok (.istore_n 3, 1) := by decide +kernel
theorem dX12_carry_97 : decode cX12_carry 97 = .ok (.iload_n 3, 1) := by decide +kernel
theorem dX12_carry_98 : decode cX12_carry 98 = .ok (.aload_n 0, 1) := by decide +kernel
theorem dX12_carry_99 : decode cX12_carry 99 = .ok (.getfield 56, 3) := by decide +kernel
theorem dX12_carry_102 : decode cX12_carry 102 = .ok (.if_icmp .ge 33, 3) := by decide +kernel
theorem dX12_carry_105 : decode cX12_carry 105 = .ok (.aload_n 0, 1) := by decide +kernel
theorem dX12_carry_106 : decode cX12_carry 106 = .ok (.getfield 95, 3) := by decide +kernel
theorem dX12_carry_109 : decode cX12_carry 109 = .ok (.sipush 462, 3) := by decide +kernel
theorem dX12_carry_112 : decode cX12_carry 112 = .ok (.iload_n 2, 1) := by decide +kernel
theorem dX12_carry_113 : decode cX12_carry 113 = .ok (.imul, 1) := by decide +kernel
theorem dX12_carry_114 : decode cX12_carry 114 = .ok (.iload_n 3, 1) := by decide +kernel
theorem dX12_carry_115 : decode cX12_carry 115 = .ok (.iadd, 1) := by decide +kernel
theorem dX12_carry_116 : decode cX12_carry 116 = .ok (.aload_n 0, 1) := by decide +kernel
theorem dX12_carry_117 : decode cX12_carry 117 = .ok (.getfield 92, 3) := by decide +kernel
theorem dX12_carry_120 : decode cX12_carry 120 = .ok (.sipush 462, 3) := by decide +kernel
theorem dX12_carry_123 : decode cX12_carry 123 = .ok (.iload_n 2, 1) := by decide +kernel
theorem dX12_carry_124 : decode cX12_carry 124 = .ok (.imul, 1) := by decide +kernel
theorem dX12_carry_125 : decode cX12_carry 125 = .ok (.iload_n 3, 1) := by decide +kernel
theorem dX12_carry_126 : decode cX12_carry 126 = .ok (.iadd, 1) := by decide +kernel
theorem dX12_carry_127 : decode cX12_carry 127 = .ok (.laload, 1) := by decide +kernel
theorem dX12_carry_128 : decode cX12_carry 128 = .ok (.lastore, 1) := by decide +kernel
theorem dX12_carry_129 : decode cX12_carry 129 = .ok (.iinc 3 1, 3) := by decide +kernel
theorem dX12_carry_132 : decode cX12_carry 132 = .ok (.goto (-35), 3) := by decide +kernel
theorem dX12_carry_135 : decode cX12_carry 135 = .ok (.iinc 2 1, 3) := by decide +kernel
theorem dX12_carry_138 : decode cX12_carry 138 = .ok (.goto (-136), 3) := by decide +kernel
theorem dX12_carry_141 : decode cX12_carry 141 = .ok (.return_, 1) := by decide +kernel
set_option maxHeartbeats 4000000 in
set_option maxRecDepth 100000 in
theorem cn_X12_carry {l : Launch} {cA : Nat → ClassId} {ad : Nat → Nat} {D : va_G} {E : Nat → Nat} {A : Nat → Prop} {x1 : Int32} {s0 sr : SS} {rr : Unit} (hf : f_X12_carry x1 s0 = some (rr, sr)) : zCon Om Nm cA ad D E l yX12_carry cX12_carry 5 none 0 A [.ref (ad 0), .int x1] s0 none sr := by
  refine zstart (own := RX12) hOm (by decide) rfl (Nat.le_of_ble_eq_true rfl) ?_
  intro p e s m args below meth c X hP ls hl
  have hx := X.1
  have hb := X.2.1
  have hl : lv_has ls 5 [(0, .ref (ad 0)), (1, .int x1)] := hl
  have hS : va_S A s.heap s.heap [] := va_S.rf
  have hc_2 : ∀ (n2 : Nat) (x1 : Int32) (x2 : Int32) (s1 : SS) (H : Heap) (locs : List Loc) (ls : Array Slot), lv_has ls 5 [(0, .ref (ad 0)), (1, .int x1), (2, .int x2)] → va_P D ZCL (zw Om Nm cA ad s1) H → va_S A s.heap H locs → f_X12_carry_c2 n2 x1 x2 s1 = some (rr, sr) → W p l e (zrm 0) s m args below meth c H locs 0 0 (MQ below (zQc Om Nm cA ad D A none sr) args s 0 0 A) (F0 m 2 ls []) := by
    intro n2
    induction n2 with
    | zero =>
      intro x1 x2 s1 H locs ls hl hP hS hf
      rw [f_X12_carry_c2] at hf
      cases hf
    | succ n2 ih2 =>
      have hc_12 : ∀ (n12 : Nat) (x1 : Int32) (x2 : Int32) (x3 : Int32) (s1 : SS) (H : Heap) (locs : List Loc) (ls : Array Slot), lv_has ls 5 [(0, .ref (ad 0)), (1, .int x1), (2, .int x2), (3, .int x3)] → va_P D ZCL (zw Om Nm cA ad s1) H → va_S A s.heap H locs → f_X12_carry_c12 (f_X12_carry_c2 n2) n12 x1 x2 x3 s1 = some (rr, sr) → W p l e (zrm 0) s m args below meth c H locs 0 0 (MQ below (zQc Om Nm cA ad D A none sr) args s 0 0 A) (F0 m 12 ls []) := by
        intro n12
        induction n12 with
        | zero =>
          intro x1 x2 x3 s1 H locs ls hl hP hS hf
          rw [f_X12_carry_c12] at hf
          cases hf
        | succ n12 ih12 =>
          have hc_41 : ∀ (n41 : Nat) (x1 : Int32) (x2 : Int32) (x3 : Int32) (s1 : SS) (H : Heap) (locs : List Loc) (ls : Array Slot), lv_has ls 5 [(0, .ref (ad 0)), (1, .int x1), (2, .int x2), (3, .int x3)] → va_P D ZCL (zw Om Nm cA ad s1) H → va_S A s.heap H locs → f_X12_carry_c41 (f_X12_carry_c2 n2) n41 x1 x2 x3 s1 = some (rr, sr) → W p l e (zrm 0) s m args below meth c H locs 0 0 (MQ below (zQc Om Nm cA ad D A none sr) args s 0 0 A) (F0 m 41 ls []) := by
            intro n41
            induction n41 with
            | zero =>
              intro x1 x2 x3 s1 H locs ls hl hP hS hf
              rw [f_X12_carry_c41] at hf
              cases hf
            | succ n41 ih41 =>
              have hc_97 : ∀ (n97 : Nat) (x1 : Int32) (x2 : Int32) (x3 : Int32) (s1 : SS) (H : Heap) (locs : List Loc) (ls : Array Slot), lv_has ls 5 [(0, .ref (ad 0)), (1, .int x1), (2, .int x2), (3, .int x3)] → va_P D ZCL (zw Om Nm cA ad s1) H → va_S A s.heap H locs → f_X12_carry_c97 (f_X12_carry_c2 n2) n97 x1 x2 x3 s1 = some (rr, sr) → W p l e (zrm 0) s m args below meth c H locs 0 0 (MQ below (zQc Om Nm cA ad D A none sr) args s 0 0 A) (F0 m 97 ls []) := by
                intro n97
                induction n97 with
                | zero =>
                  intro x1 x2 x3 s1 H locs ls hl hP hS hf
                  rw [f_X12_carry_c97] at hf
                  cases hf
                | succ n97 ih97 =>
                  intro x1 x2 x3 s1 H locs ls hl hP hS hf
                  rw [f_X12_carry_c97] at hf
                  refine lv_iload_n hx hb dX12_carry_97 rfl (lv_at hl 3 rfl) ?_
                  refine lv_aload_n hx hb dX12_carry_98 rfl (lv_at hl 0 rfl) ?_
                  refine gf_X12_56 X hP (k := 0) rfl dX12_carry_99 ?_
                  refine zicmp_ge (tgt := 135) hx hb dX12_carry_102 (by decide) hf (fun hf => ?_) (fun hf => ?_)
                  · refine lv_iinc (v := (x2 + 1)) (lv' := [(2, .int (x2 + 1)), (0, .ref (ad 0)), (1, .int x1), (3, .int x3)]) hx hb dX12_carry_135 hl (k := 2) rfl rfl (by decide) rfl (fun ls hl => ?_)
                    refine lv_goto (tgt := 2) hx hb dX12_carry_138 (by decide) ?_
                    exact ih2 x1 (x2 + 1) s1 _ _ _ (lv_sub hl [1, 2, 0] rfl) hP hS hf
                  · refine lv_aload_n hx hb dX12_carry_105 rfl (lv_at hl 0 rfl) ?_
                    refine gf_X12_95 X hP (k := 0) (q := 10) rfl dX12_carry_106 rfl ?_
                    refine lv_sipush (v := 462) hx hb dX12_carry_109 (by decide) ?_
                    refine lv_iload_n hx hb dX12_carry_112 rfl (lv_at hl 2 rfl) ?_
                    refine lv_imul hx hb dX12_carry_113 ?_
                    refine lv_iload_n hx hb dX12_carry_114 rfl (lv_at hl 3 rfl) ?_
                    refine lv_iadd hx hb dX12_carry_115 ?_
                    refine lv_aload_n hx hb dX12_carry_116 rfl (lv_at hl 0 rfl) ?_
                    refine gf_X12_92 X hP (k := 0) (q := 11) rfl dX12_carry_117 rfl ?_
                    refine lv_sipush (v := 462) hx hb dX12_carry_120 (by decide) ?_
                    refine lv_iload_n hx hb dX12_carry_123 rfl (lv_at hl 2 rfl) ?_
                    refine lv_imul hx hb dX12_carry_124 ?_
                    refine lv_iload_n hx hb dX12_carry_125 rfl (lv_at hl 3 rfl) ?_
                    refine lv_iadd hx hb dX12_carry_126 ?_
                    obtain ⟨g1, hf⟩ := zgd hf
                    refine zald_l X hP (k := 11) (n := 3696) (rs := []) rfl g1 dX12_carry_127 ?_
                    obtain ⟨g2, hf⟩ := zgd hf
                    refine zast_l X hP hS (k := 10) (n := 3696) (rs := []) rfl g2 dX12_carry_128 (fun H locs hP hS => ?_)
                    refine lv_iinc (v := (x3 + 1)) (lv' := [(3, .int (x3 + 1)), (0, .ref (ad 0)), (1, .int x1), (2, .int x2)]) hx hb dX12_carry_129 hl (k := 3) rfl rfl (by decide) rfl (fun ls hl => ?_)
                    refine lv_goto (tgt := 97) hx hb dX12_carry_132 (by decide) ?_
                    exact ih97 x1 x2 (x3 + 1) (zSL s1 10 ((((462 : Int32) * x2) + x3)).toNatClampNeg (s1.2 11 ((((462 : Int32) * x2) + x3)).toNatClampNeg)) _ _ _ (lv_sub hl [1, 2, 3, 0] rfl) hP hS hf
              have hc_89 : ∀ (x1 : Int32) (x2 : Int32) (x3 : Int32) (s1 : SS) (H : Heap) (locs : List Loc) (ls : Array Slot), lv_has ls 5 [(0, .ref (ad 0)), (1, .int x1), (2, .int x2), (3, .int x3)] → va_P D ZCL (zw Om Nm cA ad s1) H → va_S A s.heap H locs → f_X12_carry_c89 (f_X12_carry_c41 (f_X12_carry_c2 n2) n41) (f_X12_carry_c2 n2) x1 x2 x3 s1 = some (rr, sr) → W p l e (zrm 0) s m args below meth c H locs 0 0 (MQ below (zQc Om Nm cA ad D A none sr) args s 0 0 A) (F0 m 89 ls []) := by
                intro x1 x2 x3 s1 H locs ls hl hP hS hf
                rw [f_X12_carry_c89] at hf
                refine lv_iinc (v := (x3 + 1)) (lv' := [(3, .int (x3 + 1)), (0, .ref (ad 0)), (1, .int x1), (2, .int x2)]) hx hb dX12_carry_89 hl (k := 3) rfl rfl (by decide) rfl (fun ls hl => ?_)
                refine lv_goto (tgt := 41) hx hb dX12_carry_92 (by decide) ?_
                exact ih41 x1 x2 (x3 + 1) s1 _ _ _ (lv_sub hl [1, 2, 3, 0] rfl) hP hS hf
              intro x1 x2 x3 s1 H locs ls hl hP hS hf
              rw [f_X12_carry_c41] at hf
              refine lv_iload_n hx hb dX12_carry_41 rfl (lv_at hl 3 rfl) ?_
              refine lv_iload_n hx hb dX12_carry_42 rfl (lv_at hl 1 rfl) ?_
              refine zicmp_ge (tgt := 95) hx hb dX12_carry_43 (by decide) hf (fun hf => ?_) (fun hf => ?_)
              · refine lv_iconst (v := 0) hx hb dX12_carry_95 (by decide) ?_
                refine lv_istore_n (lv' := [(3, .int 0), (0, .ref (ad 0)), (1, .int x1), (2, .int x2)]) hx hb dX12_carry_96 rfl hl (by decide) rfl (fun ls hl => ?_)
                exact hc_97 ZF x1 x2 0 s1 _ _ _ (lv_sub hl [1, 2, 3, 0] rfl) hP hS hf
              · refine lv_aload_n hx hb dX12_carry_46 rfl (lv_at hl 0 rfl) ?_
                refine gf_X12_65 X hP (k := 0) (q := 7) rfl dX12_carry_47 rfl ?_
                refine lv_aload_n hx hb dX12_carry_50 rfl (lv_at hl 0 rfl) ?_
                refine gf_X12_59 X hP (k := 0) (q := 12) rfl dX12_carry_51 rfl ?_
                refine lv_iload_n hx hb dX12_carry_54 rfl (lv_at hl 3 rfl) ?_
                obtain ⟨g3, hf⟩ := zgd hf
                refine zald_i X hP (k := 12) (n := 462) (rs := []) rfl g3 dX12_carry_55 ?_
                obtain ⟨g4, hf⟩ := zgd hf
                refine zald_i X hP (k := 7) (n := 600000) (rs := []) rfl g4 dX12_carry_56 ?_
                refine lv_istore (lv' := [(4, .int (s1.1 7 ((s1.1 12 (x3).toNatClampNeg)).toNatClampNeg)), (0, .ref (ad 0)), (1, .int x1), (2, .int x2), (3, .int x3)]) hx hb dX12_carry_57 hl (by decide) rfl (fun ls hl => ?_)
                refine lv_iload hx hb dX12_carry_59 (lv_at hl 0 rfl) ?_
                refine zif_lt (tgt := 89) hx hb dX12_carry_61 (by decide) hf (fun hf => ?_) (fun hf => ?_)
                · exact hc_89 x1 x2 x3 s1 _ _ _ (lv_sub hl [1, 2, 3, 4] rfl) hP hS hf
                · refine lv_aload_n hx hb dX12_carry_64 rfl (lv_at hl 1 rfl) ?_
                  refine gf_X12_92 X hP (k := 0) (q := 11) rfl dX12_carry_65 rfl ?_
                  refine lv_sipush (v := 462) hx hb dX12_carry_68 (by decide) ?_
                  refine lv_iload_n hx hb dX12_carry_71 rfl (lv_at hl 3 rfl) ?_
                  refine lv_imul hx hb dX12_carry_72 ?_
                  refine lv_iload hx hb dX12_carry_73 (lv_at hl 0 rfl) ?_
                  refine lv_iadd hx hb dX12_carry_75 ?_
                  refine lv_aload_n hx hb dX12_carry_76 rfl (lv_at hl 1 rfl) ?_
                  refine gf_X12_95 X hP (k := 0) (q := 10) rfl dX12_carry_77 rfl ?_
                  refine lv_sipush (v := 462) hx hb dX12_carry_80 (by decide) ?_
                  refine lv_iload_n hx hb dX12_carry_83 rfl (lv_at hl 3 rfl) ?_
                  refine lv_imul hx hb dX12_carry_84 ?_
                  refine lv_iload_n hx hb dX12_carry_85 rfl (lv_at hl 4 rfl) ?_
                  refine lv_iadd hx hb dX12_carry_86 ?_
                  obtain ⟨g5, hf⟩ := zgd hf
                  refine zald_l X hP (k := 10) (n := 3696) (rs := []) rfl g5 dX12_carry_87 ?_
                  obtain ⟨g6, hf⟩ := zgd hf
                  refine zast_l X hP hS (k := 11) (n := 3696) (rs := []) rfl g6 dX12_carry_88 (fun H locs hP hS => ?_)
                  exact hc_89 x1 x2 x3 (zSL s1 11 ((((462 : Int32) * x2) + (s1.1 7 ((s1.1 12 (x3).toNatClampNeg)).toNatClampNeg))).toNatClampNeg (s1.2 10 ((((462 : Int32) * x2) + x3)).toNatClampNeg)) _ _ _ (lv_sub hl [1, 2, 3, 4] rfl) hP hS hf
          intro x1 x2 x3 s1 H locs ls hl hP hS hf
          rw [f_X12_carry_c12] at hf
          refine lv_iload_n hx hb dX12_carry_12 rfl (lv_at hl 3 rfl) ?_
          refine lv_aload_n hx hb dX12_carry_13 rfl (lv_at hl 0 rfl) ?_
          refine gf_X12_56 X hP (k := 0) rfl dX12_carry_14 ?_
          refine zicmp_ge (tgt := 39) hx hb dX12_carry_17 (by decide) hf (fun hf => ?_) (fun hf => ?_)
          · refine lv_iconst (v := 0) hx hb dX12_carry_39 (by decide) ?_
            refine lv_istore_n (lv' := [(3, .int 0), (0, .ref (ad 0)), (1, .int x1), (2, .int x2)]) hx hb dX12_carry_40 rfl hl (by decide) rfl (fun ls hl => ?_)
            exact hc_41 ZF x1 x2 0 s1 _ _ _ (lv_sub hl [1, 2, 3, 0] rfl) hP hS hf
          · refine lv_aload_n hx hb dX12_carry_20 rfl (lv_at hl 0 rfl) ?_
            refine gf_X12_92 X hP (k := 0) (q := 11) rfl dX12_carry_21 rfl ?_
            refine lv_sipush (v := 462) hx hb dX12_carry_24 (by decide) ?_
            refine lv_iload_n hx hb dX12_carry_27 rfl (lv_at hl 2 rfl) ?_
            refine lv_imul hx hb dX12_carry_28 ?_
            refine lv_iload_n hx hb dX12_carry_29 rfl (lv_at hl 3 rfl) ?_
            refine lv_iadd hx hb dX12_carry_30 ?_
            refine lv_lconst (v := 0) hx hb dX12_carry_31 (by decide) ?_
            obtain ⟨g7, hf⟩ := zgd hf
            refine zast_l X hP hS (k := 11) (n := 3696) (rs := []) rfl g7 dX12_carry_32 (fun H locs hP hS => ?_)
            refine lv_iinc (v := (x3 + 1)) (lv' := [(3, .int (x3 + 1)), (0, .ref (ad 0)), (1, .int x1), (2, .int x2)]) hx hb dX12_carry_33 hl (k := 3) rfl rfl (by decide) rfl (fun ls hl => ?_)
            refine lv_goto (tgt := 12) hx hb dX12_carry_36 (by decide) ?_
            exact ih12 x1 x2 (x3 + 1) (zSL s1 11 ((((462 : Int32) * x2) + x3)).toNatClampNeg 0) _ _ _ (lv_sub hl [1, 2, 3, 0] rfl) hP hS hf
      intro x1 x2 s1 H locs ls hl hP hS hf
      rw [f_X12_carry_c2] at hf
      refine lv_iload_n hx hb dX12_carry_2 rfl (lv_at hl 2 rfl) ?_
      refine lv_aload_n hx hb dX12_carry_3 rfl (lv_at hl 0 rfl) ?_
      refine gf_X12_89 X hP (k := 0) rfl dX12_carry_4 ?_
      refine zicmp_ge (tgt := 141) hx hb dX12_carry_7 (by decide) hf (fun hf => ?_) (fun hf => ?_)
      · exact zret_v X hP hS hf dX12_carry_141
      · refine lv_iconst (v := 0) hx hb dX12_carry_10 (by decide) ?_
        refine lv_istore_n (lv' := [(3, .int 0), (0, .ref (ad 0)), (1, .int x1), (2, .int x2)]) hx hb dX12_carry_11 rfl hl (by decide) rfl (fun ls hl => ?_)
        exact hc_12 ZF x1 x2 0 s1 _ _ _ (lv_sub hl [1, 2, 3, 0] rfl) hP hS hf
  rw [f_X12_carry] at hf
  refine lv_iconst (v := 0) hx hb dX12_carry_0 (by decide) ?_
  refine lv_istore_n (lv' := [(2, .int 0), (0, .ref (ad 0)), (1, .int x1)]) hx hb dX12_carry_1 rfl hl (by decide) rfl (fun ls hl => ?_)
  exact hc_2 ZF x1 0 s0 _ _ _ (lv_sub hl [1, 2, 0] rfl) hP hS hf
