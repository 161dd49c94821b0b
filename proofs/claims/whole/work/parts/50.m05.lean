theorem dX11_image_0 : decode cX11_image 0 = .ok (.aload_n 0, 1) := by decide +kernel
theorem dX11_image_1 : decode cX11_image 1 = .ok (.getfield 18, 3) := by decide +kernel
theorem dX11_image_4 : decode cX11_image 4 = .ok (.aload_n 0, 1) := by decide +kernel
theorem dX11_image_5 : decode cX11_image 5 = .ok (.getfield 12, 3) := by decide +kernel
theorem dX11_image_8 : decode cX11_image 8 = .ok (.invokevirtual 431, 3) := by decide +kernel
theorem dX11_image_11 : decode cX11_image 11 = .ok (.aload_n 0, 1) := by decide +kernel
theorem dX11_image_12 : decode cX11_image 12 = .ok (.iconst 1, 1) := by decide +kernel
theorem dX11_image_13 : decode cX11_image 13 = .ok (.putfield 21, 3) := by decide +kernel
theorem dX11_image_16 : decode cX11_image 16 = .ok (.aload_n 0, 1) := by decide +kernel
theorem dX11_image_17 : decode cX11_image 17 = .ok (.getfield 18, 3) := by decide +kernel
theorem dX11_image_20 : decode cX11_image 20 = .ok (.getfield 141, 3) := by decide +kernel
theorem dX11_image_23 : decode cX11_image 23 = .ok (.ireturn, 1) := by decide +kernel
set_option maxHeartbeats 4000000 in
set_option maxRecDepth 100000 in
theorem cn_X11_image {l : Launch} {cA : Nat → ClassId} {ad : Nat → Nat} {D : va_G} {E : Nat → Nat} {A : Nat → Prop}  {s0 sr : SS} {rr : Int32} (hf : f_X11_image s0 = some (rr, sr)) : zCon Ox Nx cA ad D E l yX11_image cX11_image 1 (some .int) 3 A [.ref (ad 0)] s0 (some (.int rr)) sr := by
  refine zstart (own := RX11) hOx (by decide) rfl (Nat.le_of_ble_eq_true rfl) ?_
  intro p e s m args below meth c X hP ls hl
  have hx := X.1
  have hb := X.2.1
  have hl : lv_has ls 1 [(0, .ref (ad 0))] := hl
  have hS : va_S A s.heap s.heap [] := va_S.rf
  rw [f_X11_image] at hf
  refine lv_aload_n hx hb dX11_image_0 rfl (lv_at hl 0 rfl) ?_
  refine gf_X11_18 X hP (k := 0) (q := 2) rfl dX11_image_1 rfl ?_
  refine lv_aload_n hx hb dX11_image_4 rfl (lv_at hl 0 rfl) ?_
  refine gf_X11_12 X hP (k := 0) (q := 1) rfl dX11_image_5 rfl ?_
  obtain ⟨r1, s2, h3, hf⟩ := zbd_some hf
  refine zcallV X hP hS hl.1 (k := 2) (As := [.ref (ad 1)]) (rest := []) (cn_X3_takeOver h3) cw_X3_takeOver zp_3 rfl (by decide) rfl ml_X11_431 (by decide) rfl rfl (Nat.le_of_ble_eq_true rfl) dX11_image_8 (fun H locs hP hS => ?_)
  refine lv_aload_n hx hb dX11_image_11 rfl (lv_at hl 0 rfl) ?_
  refine lv_iconst (v := 1) hx hb dX11_image_12 (by decide) ?_
  refine pf_X11_21 X hP hS (k := 0) rfl (by decide) dX11_image_13 (fun H locs hP hS => ?_)
  refine lv_aload_n hx hb dX11_image_16 rfl (lv_at hl 0 rfl) ?_
  refine gf_X11_18 X hP (k := 0) (q := 2) rfl dX11_image_17 rfl ?_
  refine gf_X11_141 X hP (k := 2) rfl dX11_image_20 ?_
  exact zret_i X hP hS hf rfl dX11_image_23
theorem dX11_alike_0 : decode cX11_alike 0 = .ok (.aload_n 0, 1) := by decide +kernel
theorem dX11_alike_1 : decode cX11_alike 1 = .ok (.getfield 21, 3) := by decide +kernel
theorem dX11_alike_4 : decode cX11_alike 4 = .ok (.ifCond .ne 6, 3) := by decide +kernel
theorem dX11_alike_7 : decode cX11_alike 7 = .ok (.bipush (-5), 2) := by decide +kernel
theorem dX11_alike_9 : decode cX11_alike 9 = .ok (.ireturn, 1) := by decide +kernel
theorem dX11_alike_10 : decode cX11_alike 10 = .ok (.aload_n 0, 1) := by decide +kernel
theorem dX11_alike_11 : decode cX11_alike 11 = .ok (.getfield 12, 3) := by decide +kernel
theorem dX11_alike_14 : decode cX11_alike 14 = .ok (.aload_n 0, 1) := by decide +kernel
theorem dX11_alike_15 : decode cX11_alike 15 = .ok (.getfield 18, 3) := by decide +kernel
theorem dX11_alike_18 : decode cX11_alike 18 = .ok (.aload_n 0, 1) := by decide +kernel
theorem dX11_alike_19 : decode cX11_alike 19 = .ok (.getfield 28, 3) := by decide +kernel
theorem dX11_alike_22 : decode cX11_alike 22 = .ok (.getfield 84, 3) := by decide +kernel
theorem dX11_alike_25 : decode cX11_alike 25 = .ok (.getfield 125, 3) := by decide +kernel
theorem dX11_alike_28 : decode cX11_alike 28 = .ok (.invokevirtual 435, 3) := by decide +kernel
theorem dX11_alike_31 : decode cX11_alike 31 = .ok (.ifCond .eq 7, 3) := by decide +kernel
theorem dX11_alike_34 : decode cX11_alike 34 = .ok (.iconst 1, 1) := by decide +kernel
theorem dX11_alike_35 : decode cX11_alike 35 = .ok (.goto 4, 3) := by decide +kernel
theorem dX11_alike_38 : decode cX11_alike 38 = .ok (.iconst 0, 1) := by decide +kernel
theorem dX11_alike_39 : decode cX11_alike 39 = .ok (.ireturn, 1) := by decide +kernel
set_option maxHeartbeats 4000000 in
set_option maxRecDepth 100000 in
theorem cn_X11_alike {l : Launch} {cA : Nat → ClassId} {ad : Nat → Nat} {D : va_G} {E : Nat → Nat} {A : Nat → Prop}  {s0 sr : SS} {rr : Int32} (hf : f_X11_alike s0 = some (rr, sr)) : zCon Ox Nx cA ad D E l yX11_alike cX11_alike 1 (some .int) 2 A [.ref (ad 0)] s0 (some (.int rr)) sr := by
  refine zstart (own := RX11) hOx (by decide) rfl (Nat.le_of_ble_eq_true rfl) ?_
  intro p e s m args below meth c X hP ls hl
  have hx := X.1
  have hb := X.2.1
  have hl : lv_has ls 1 [(0, .ref (ad 0))] := hl
  have hS : va_S A s.heap s.heap [] := va_S.rf
  rw [f_X11_alike] at hf
  refine lv_aload_n hx hb dX11_alike_0 rfl (lv_at hl 0 rfl) ?_
  refine gf_X11_21 X hP (k := 0) rfl dX11_alike_1 ?_
  refine zif_ne (tgt := 10) hx hb dX11_alike_4 (by decide) hf (fun hf => ?_) (fun hf => ?_)
  · refine lv_aload_n hx hb dX11_alike_10 rfl (lv_at hl 0 rfl) ?_
    refine gf_X11_12 X hP (k := 0) (q := 1) rfl dX11_alike_11 rfl ?_
    refine lv_aload_n hx hb dX11_alike_14 rfl (lv_at hl 0 rfl) ?_
    refine gf_X11_18 X hP (k := 0) (q := 2) rfl dX11_alike_15 rfl ?_
    refine lv_aload_n hx hb dX11_alike_18 rfl (lv_at hl 0 rfl) ?_
    refine gf_X11_28 X hP (k := 0) (q := 5) rfl dX11_alike_19 rfl ?_
    refine gf_X11_84 X hP (k := 5) (q := 6) rfl dX11_alike_22 rfl ?_
    refine gf_X11_125 X hP (k := 6) rfl dX11_alike_25 ?_
    obtain ⟨r1, s2, h3, hf⟩ := zbd_some hf
    refine zcallV X hP hS hl.1 (k := 1) (As := [.ref (ad 2), .int (s0.1 6 2)]) (rest := []) (cn_X3_isAs h3) cw_X3_isAs zp_3 rfl (by decide) rfl ml_X11_435 (by decide) rfl rfl (Nat.le_of_ble_eq_true rfl) dX11_alike_28 (fun H locs hP hS => ?_)
    refine zif_eq (tgt := 38) hx hb dX11_alike_31 (by decide) hf (fun hf => ?_) (fun hf => ?_)
    · refine lv_iconst (v := 0) hx hb dX11_alike_38 (by decide) ?_
      exact zret_i X hP hS hf rfl dX11_alike_39
    · refine lv_iconst (v := 1) hx hb dX11_alike_34 (by decide) ?_
      refine lv_goto (tgt := 39) hx hb dX11_alike_35 (by decide) ?_
      exact zret_i X hP hS hf rfl dX11_alike_39
  · refine lv_bipush (v := (-5)) hx hb dX11_alike_7 (by decide) ?_
    exact zret_i X hP hS hf rfl dX11_alike_9
theorem dX11_back_0 : decode cX11_back 0 = .ok (.aload_n 0, 1) := by decide +kernel
theorem dX11_back_1 : decode cX11_back 1 = .ok (.getfield 21, 3) := by decide +kernel
theorem dX11_back_4 : decode cX11_back 4 = .ok (.ifCond .ne 6, 3) := by decide +kernel
theorem dX11_back_7 : decode cX11_back 7 = .ok (.bipush (-5), 2) := by decide +kernel
theorem dX11_back_9 : decode cX11_back 9 = .ok (.ireturn, 1) := by decide +kernel
theorem dX11_back_10 : decode cX11_back 10 = .ok (.aload_n 0, 1) := by decide +kernel
theorem dX11_back_11 : decode cX11_back 11 = .ok (.getfield 12, 3) := by decide +kernel
theorem dX11_back_14 : decode cX11_back 14 = .ok (.aload_n 0, 1) := by decide +kernel
theorem dX11_back_15 : decode cX11_back 15 = .ok (.getfield 18, 3) := by decide +kernel
theorem dX11_back_18 : decode cX11_back 18 = .ok (.invokevirtual 431, 3) := by decide +kernel
theorem dX11_back_21 : decode cX11_back 21 = .ok (.aload_n 0, 1) := by decide +kernel
theorem dX11_back_22 : decode cX11_back 22 = .ok (.getfield 28, 3) := by decide +kernel
theorem dX11_back_25 : decode cX11_back 25 = .ok (.getfield 84, 3) := by decide +kernel
theorem dX11_back_28 : decode cX11_back 28 = .ok (.aload_n 0, 1) := by decide +kernel
theorem dX11_back_29 : decode cX11_back 29 = .ok (.getfield 12, 3) := by decide +kernel
theorem dX11_back_32 : decode cX11_back 32 = .ok (.getfield 74, 3) := by decide +kernel
theorem dX11_back_35 : decode cX11_back 35 = .ok (.invokevirtual 88, 3) := by decide +kernel
theorem dX11_back_38 : decode cX11_back 38 = .ok (.aload_n 0, 1) := by decide +kernel
theorem dX11_back_39 : decode cX11_back 39 = .ok (.getfield 35, 3) := by decide +kernel
theorem dX11_back_42 : decode cX11_back 42 = .ok (.invokevirtual 142, 3) := by decide +kernel
theorem dX11_back_45 : decode cX11_back 45 = .ok (.aload_n 0, 1) := by decide +kernel
theorem dX11_back_46 : decode cX11_back 46 = .ok (.getfield 12, 3) := by decide +kernel
theorem dX11_back_49 : decode cX11_back 49 = .ok (.getfield 141, 3) := by decide +kernel
theorem dX11_back_52 : decode cX11_back 52 = .ok (.ireturn, 1) := by decide +kernel
set_option maxHeartbeats 4000000 in
set_option maxRecDepth 100000 in
theorem cn_X11_back {l : Launch} {cA : Nat → ClassId} {ad : Nat → Nat} {D : va_G} {E : Nat → Nat} {A : Nat → Prop}  {s0 sr : SS} {rr : Int32} (hf : f_X11_back s0 = some (rr, sr)) : zCon Ox Nx cA ad D E l yX11_back cX11_back 1 (some .int) 5 A [.ref (ad 0)] s0 (some (.int rr)) sr := by
  refine zstart (own := RX11) hOx (by decide) rfl (Nat.le_of_ble_eq_true rfl) ?_
  intro p e s m args below meth c X hP ls hl
  have hx := X.1
  have hb := X.2.1
  have hl : lv_has ls 1 [(0, .ref (ad 0))] := hl
  have hS : va_S A s.heap s.heap [] := va_S.rf
  rw [f_X11_back] at hf
  refine lv_aload_n hx hb dX11_back_0 rfl (lv_at hl 0 rfl) ?_
  refine gf_X11_21 X hP (k := 0) rfl dX11_back_1 ?_
  refine zif_ne (tgt := 10) hx hb dX11_back_4 (by decide) hf (fun hf => ?_) (fun hf => ?_)
  · refine lv_aload_n hx hb dX11_back_10 rfl (lv_at hl 0 rfl) ?_
    refine gf_X11_12 X hP (k := 0) (q := 1) rfl dX11_back_11 rfl ?_
    refine lv_aload_n hx hb dX11_back_14 rfl (lv_at hl 0 rfl) ?_
    refine gf_X11_18 X hP (k := 0) (q := 2) rfl dX11_back_15 rfl ?_
    obtain ⟨r1, s2, h3, hf⟩ := zbd_some hf
    refine zcallV X hP hS hl.1 (k := 1) (As := [.ref (ad 2)]) (rest := []) (cn_X3_takeOver h3) cw_X3_takeOver zp_3 rfl (by decide) rfl ml_X11_431 (by decide) rfl rfl (Nat.le_of_ble_eq_true rfl) dX11_back_18 (fun H locs hP hS => ?_)
    refine lv_aload_n hx hb dX11_back_21 rfl (lv_at hl 0 rfl) ?_
    refine gf_X11_28 X hP (k := 0) (q := 5) rfl dX11_back_22 rfl ?_
    refine gf_X11_84 X hP (k := 5) (q := 6) rfl dX11_back_25 rfl ?_
    refine lv_aload_n hx hb dX11_back_28 rfl (lv_at hl 0 rfl) ?_
    refine gf_X11_12 X hP (k := 0) (q := 1) rfl dX11_back_29 rfl ?_
    refine gf_X11_74 X hP (k := 1) (q := 3) rfl dX11_back_32 rfl ?_
    obtain ⟨r4, s5, h6, hf⟩ := zbd_some hf
    refine zcallV X hP hS hl.1 (k := 6) (As := [.ref (ad 3)]) (rest := []) (cn_X10_layOut h6) cw_X10_layOut zp_10 rfl (by decide) rfl ml_X11_88 (by decide) rfl rfl (Nat.le_of_ble_eq_true rfl) dX11_back_35 (fun H locs hP hS => ?_)
    refine lv_aload_n hx hb dX11_back_38 rfl (lv_at hl 0 rfl) ?_
    refine gf_X11_35 X hP (k := 0) (q := 7) rfl dX11_back_39 rfl ?_
    obtain ⟨r7, s8, h9, hf⟩ := zbd_some hf
    refine zcallV X hP hS hl.1 (k := 7) (As := []) (rest := []) (cn_X1_forget h9) cw_X1_forget zp_1 rfl (by decide) rfl ml_X11_142 (by decide) rfl rfl (Nat.le_of_ble_eq_true rfl) dX11_back_42 (fun H locs hP hS => ?_)
    refine lv_aload_n hx hb dX11_back_45 rfl (lv_at hl 0 rfl) ?_
    refine gf_X11_12 X hP (k := 0) (q := 1) rfl dX11_back_46 rfl ?_
    refine gf_X11_141 X hP (k := 1) rfl dX11_back_49 ?_
    exact zret_i X hP hS hf rfl dX11_back_52
  · refine lv_bipush (v := (-5)) hx hb dX11_back_7 (by decide) ?_
    exact zret_i X hP hS hf rfl dX11_back_9
theorem dX11_count_0 : decode cX11_count 0 = .ok (.iload_n 1, 1) := by decide +kernel
theorem dX11_count_1 : decode cX11_count 1 = .ok (.tableswitch 87 0 5 #[39, 47, 55, 63, 71, 79], 39) := by decide +kernel
theorem dX11_count_40 : decode cX11_count 40 = .ok (.aload_n 0, 1) := by decide +kernel
theorem dX11_count_41 : decode cX11_count 41 = .ok (.getfield 12, 3) := by decide +kernel
theorem dX11_count_44 : decode cX11_count 44 = .ok (.getfield 141, 3) := by decide +kernel
theorem dX11_count_47 : decode cX11_count 47 = .ok (.ireturn, 1) := by decide +kernel
theorem dX11_count_48 : decode cX11_count 48 = .ok (.aload_n 0, 1) := by decide +kernel
theorem dX11_count_49 : decode cX11_count 49 = .ok (.getfield 35, 3) := by decide +kernel
theorem dX11_count_52 : decode cX11_count 52 = .ok (.getfield 409, 3) := by decide +kernel
theorem dX11_count_55 : decode cX11_count 55 = .ok (.ireturn, 1) := by decide +kernel
theorem dX11_count_56 : decode cX11_count 56 = .ok (.aload_n 0, 1) := by decide +kernel
theorem dX11_count_57 : decode cX11_count 57 = .ok (.getfield 35, 3) := by decide +kernel
theorem dX11_count_60 : decode cX11_count 60 = .ok (.getfield 412, 3) := by decide +kernel
theorem dX11_count_63 : decode cX11_count 63 = .ok (.ireturn, 1) := by decide +kernel
theorem dX11_count_64 : decode cX11_count 64 = .ok (.aload_n 0, 1) := by decide +kernel
theorem dX11_count_65 : decode cX11_count 65 = .ok (.getfield 42, 3) := by decide +kernel
theorem dX11_count_68 : decode cX11_count 68 = .ok (.getfield 330, 3) := by decide +kernel
theorem dX11_count_71 : decode cX11_count 71 = .ok (.ireturn, 1) := by decide +kernel
theorem dX11_count_72 : decode cX11_count 72 = .ok (.aload_n 0, 1) := by decide +kernel
theorem dX11_count_73 : decode cX11_count 73 = .ok (.getfield 56, 3) := by decide +kernel
theorem dX11_count_76 : decode cX11_count 76 = .ok (.invokevirtual 371, 3) := by decide +kernel
theorem dX11_count_79 : decode cX11_count 79 = .ok (.ireturn, 1) := by decide +kernel
theorem dX11_count_80 : decode cX11_count 80 = .ok (.aload_n 0, 1) := by decide +kernel
theorem dX11_count_81 : decode cX11_count 81 = .ok (.getfield 63, 3) := by decide +kernel
theorem dX11_count_84 : decode cX11_count 84 = .ok (.invokevirtual 439, 3) := by decide +kernel
theorem dX11_count_87 : decode cX11_count 87 = .ok (.ireturn, 1) := by decide +kernel
theorem dX11_count_88 : decode cX11_count 88 = .ok (.iconst (-1), 1) := by decide +kernel
theorem dX11_count_89 : decode cX11_count 89 = .ok (.ireturn, 1) := by decide +kernel
set_option maxHeartbeats 4000000 in
set_option maxRecDepth 100000 in
theorem cn_X11_count {l : Launch} {cA : Nat → ClassId} {ad : Nat → Nat} {D : va_G} {E : Nat → Nat} {A : Nat → Prop} {x1 : Int32} {s0 sr : SS} {rr : Int32} (hf : f_X11_count x1 s0 = some (rr, sr)) : zCon Ox Nx cA ad D E l yX11_count cX11_count 2 (some .int) 3 A [.ref (ad 0), .int x1] s0 (some (.int rr)) sr := by
  refine zstart (own := RX11) hOx (by decide) rfl (Nat.le_of_ble_eq_true rfl) ?_
  intro p e s m args below meth c X hP ls hl
  have hx := X.1
  have hb := X.2.1
  have hl : lv_has ls 2 [(0, .ref (ad 0)), (1, .int x1)] := hl
  have hS : va_S A s.heap s.heap [] := va_S.rf
  rw [f_X11_count] at hf
  refine lv_iload_n hx hb dX11_count_0 rfl (lv_at hl 1 rfl) ?_
  by_cases e1 : x1 = 0
  · rw [if_pos e1] at hf
    refine lv_tableIn (tgt := 40) (off := 39) hx hb dX11_count_1 (by rw [e1]; decide) (by rw [e1]; decide) (by rw [e1]; decide +kernel) (by decide) ?_
    refine lv_aload_n hx hb dX11_count_40 rfl (lv_at hl 0 rfl) ?_
    refine gf_X11_12 X hP (k := 0) (q := 1) rfl dX11_count_41 rfl ?_
    refine gf_X11_141 X hP (k := 1) rfl dX11_count_44 ?_
    exact zret_i X hP hS hf rfl dX11_count_47
  · rw [if_neg e1] at hf
    by_cases e2 : x1 = 1
    · rw [if_pos e2] at hf
      refine lv_tableIn (tgt := 48) (off := 47) hx hb dX11_count_1 (by rw [e2]; decide) (by rw [e2]; decide) (by rw [e2]; decide +kernel) (by decide) ?_
      refine lv_aload_n hx hb dX11_count_48 rfl (lv_at hl 0 rfl) ?_
      refine gf_X11_35 X hP (k := 0) (q := 7) rfl dX11_count_49 rfl ?_
      refine gf_X11_409 X hP (k := 7) rfl dX11_count_52 ?_
      exact zret_i X hP hS hf rfl dX11_count_55
    · rw [if_neg e2] at hf
      by_cases e3 : x1 = 2
      · rw [if_pos e3] at hf
        refine lv_tableIn (tgt := 56) (off := 55) hx hb dX11_count_1 (by rw [e3]; decide) (by rw [e3]; decide) (by rw [e3]; decide +kernel) (by decide) ?_
        refine lv_aload_n hx hb dX11_count_56 rfl (lv_at hl 0 rfl) ?_
        refine gf_X11_35 X hP (k := 0) (q := 7) rfl dX11_count_57 rfl ?_
        refine gf_X11_412 X hP (k := 7) rfl dX11_count_60 ?_
        exact zret_i X hP hS hf rfl dX11_count_63
      · rw [if_neg e3] at hf
        by_cases e4 : x1 = 3
        · rw [if_pos e4] at hf
          refine lv_tableIn (tgt := 64) (off := 63) hx hb dX11_count_1 (by rw [e4]; decide) (by rw [e4]; decide) (by rw [e4]; decide +kernel) (by decide) ?_
          refine lv_aload_n hx hb dX11_count_64 rfl (lv_at hl 0 rfl) ?_
          refine gf_X11_42 X hP (k := 0) (q := 8) rfl dX11_count_65 rfl ?_
          refine gf_X11_330 X hP (k := 8) rfl dX11_count_68 ?_
          exact zret_i X hP hS hf rfl dX11_count_71
        · rw [if_neg e4] at hf
          by_cases e5 : x1 = 4
          · rw [if_pos e5] at hf
            refine lv_tableIn (tgt := 72) (off := 71) hx hb dX11_count_1 (by rw [e5]; decide) (by rw [e5]; decide) (by rw [e5]; decide +kernel) (by decide) ?_
            refine lv_aload_n hx hb dX11_count_72 rfl (lv_at hl 0 rfl) ?_
            refine gf_X11_56 X hP (k := 0) (q := 10) rfl dX11_count_73 rfl ?_
            obtain ⟨r6, s7, h8, hf⟩ := zbd_some hf
            refine zcallV X hP hS hl.1 (k := 10) (As := []) (rest := []) (cn_X6_kept h8) cw_X6_kept zp_6 rfl (by decide) rfl ml_X11_371 (by decide) rfl rfl (Nat.le_of_ble_eq_true rfl) dX11_count_76 (fun H locs hP hS => ?_)
            exact zret_i X hP hS hf rfl dX11_count_79
          · rw [if_neg e5] at hf
            by_cases e9 : x1 = 5
            · rw [if_pos e9] at hf
              refine lv_tableIn (tgt := 80) (off := 79) hx hb dX11_count_1 (by rw [e9]; decide) (by rw [e9]; decide) (by rw [e9]; decide +kernel) (by decide) ?_
              refine lv_aload_n hx hb dX11_count_80 rfl (lv_at hl 0 rfl) ?_
              refine gf_X11_63 X hP (k := 0) (q := 11) rfl dX11_count_81 rfl ?_
              obtain ⟨r10, s11, h12, hf⟩ := zbd_some hf
              refine zcallV X hP hS hl.1 (k := 11) (As := []) (rest := []) (cn_X5_howManyThere h12) cw_X5_howManyThere zp_5 rfl (by decide) rfl ml_X11_439 (by decide) rfl rfl (Nat.le_of_ble_eq_true rfl) dX11_count_84 (fun H locs hP hS => ?_)
              exact zret_i X hP hS hf rfl dX11_count_87
            · rw [if_neg e9] at hf
              have ye1 := zne e1 (v := 0) (by decide)
              have ye2 := zne e2 (v := 1) (by decide)
              have ye3 := zne e3 (v := 2) (by decide)
              have ye4 := zne e4 (v := 3) (by decide)
              have ye5 := zne e5 (v := 4) (by decide)
              have ye9 := zne e9 (v := 5) (by decide)
              refine lv_tableOut (tgt := 88) hx hb dX11_count_1 (by omega) (by decide) ?_
              refine lv_iconst (v := (-1)) hx hb dX11_count_88 (by decide) ?_
              exact zret_i X hP hS hf rfl dX11_count_89
theorem dX12_in_0 : decode cX12_in 0 = .ok (.lload_n 0, 1) := by decide +kernel
theorem dX12_in_1 : decode cX12_in 1 = .ok (.lload_n 2, 1) := by decide +kernel
theorem dX12_in_2 : decode cX12_in 2 = .ok (.lcmp, 1) := by decide +kernel
theorem dX12_in_3 : decode cX12_in 3 = .ok (.ifCond .lt 14, 3) := by decide +kernel
theorem dX12_in_6 : decode cX12_in 6 = .ok (.lload_n 0, 1) := by decide +kernel
theorem dX12_in_7 : decode cX12_in 7 = .ok (.lload 4, 2) := by decide +kernel
theorem dX12_in_9 : decode cX12_in 9 = .ok (.lcmp, 1) := by decide +kernel
theorem dX12_in_10 : decode cX12_in 10 = .ok (.ifCond .gt 7, 3) := by decide +kernel
theorem dX12_in_13 : decode cX12_in 13 = .ok (.iconst 1, 1) := by decide +kernel
theorem dX12_in_14 : decode cX12_in 14 = .ok (.goto 4, 3) := by decide +kernel
theorem dX12_in_17 : decode cX12_in 17 = .ok (.iconst 0, 1) := by decide +kernel
theorem dX12_in_18 : decode cX12_in 18 = .ok (.ireturn, 1) := by decide +kernel
set_option maxHeartbeats 4000000 in
set_option maxRecDepth 100000 in
theorem cn_X12_in {l : Launch} {cA : Nat → ClassId} {ad : Nat → Nat} {D : va_G} {E : Nat → Nat} {A : Nat → Prop} {x0 : Int64} {x2 : Int64} {x4 : Int64} {s0 sr : SS} {rr : Int32} (hf : f_X12_in x0 x2 x4 s0 = some (rr, sr)) : zCon Om Nm cA ad D E l yX12_in cX12_in 6 (some .boolean) 0 A [.long x0, .long x2, .long x4] s0 (some (.int rr)) sr := by
  refine zstart (own := RX12) hOm (by decide) rfl (Nat.le_of_ble_eq_true rfl) ?_
  intro p e s m args below meth c X hP ls hl
  have hx := X.1
  have hb := X.2.1
  have hl : lv_has ls 6 [(0, .long x0), (2, .long x2), (4, .long x4)] := hl
  have hS : va_S A s.heap s.heap [] := va_S.rf
  rw [f_X12_in] at hf
  refine lv_lload_n hx hb dX12_in_0 rfl (lv_at hl 0 rfl) ?_
  refine lv_lload_n hx hb dX12_in_1 rfl (lv_at hl 1 rfl) ?_
  refine W.lcmp hx hb dX12_in_2 ?_
  refine zif_lt (tgt := 17) hx hb dX12_in_3 (by decide) hf (fun hf => ?_) (fun hf => ?_)
  · refine lv_iconst (v := 0) hx hb dX12_in_17 (by decide) ?_
    exact zret_i X hP hS hf rfl dX12_in_18
  · refine lv_lload_n hx hb dX12_in_6 rfl (lv_at hl 0 rfl) ?_
    refine lv_lload hx hb dX12_in_7 (lv_at hl 2 rfl) ?_
    refine W.lcmp hx hb dX12_in_9 ?_
    refine zif_gt (tgt := 17) hx hb dX12_in_10 (by decide) hf (fun hf => ?_) (fun hf => ?_)
    · refine lv_iconst (v := 0) hx hb dX12_in_17 (by decide) ?_
      exact zret_i X hP hS hf rfl dX12_in_18
    · refine lv_iconst (v := 1) hx hb dX12_in_13 (by decide) ?_
      refine lv_goto (tgt := 18) hx hb dX12_in_14 (by decide) ?_
      exact zret_i X hP hS hf rfl dX12_in_18
theorem dX12_letters_0 : decode cX12_letters 0 = .ok (.aload_n 0, 1) := by decide +kernel
theorem dX12_letters_1 : decode cX12_letters 1 = .ok (.getfield 3, 3) := by decide +kernel
theorem dX12_letters_4 : decode cX12_letters 4 = .ok (.ifCond .ne 15, 3) := by decide +kernel
theorem dX12_letters_7 : decode cX12_letters 7 = .ok (.aload_n 0, 1) := by decide +kernel
theorem dX12_letters_8 : decode cX12_letters 8 = .ok (.getfield 9, 3) := by decide +kernel
theorem dX12_letters_11 : decode cX12_letters 11 = .ok (.aload_n 0, 1) := by decide +kernel
theorem dX12_letters_12 : decode cX12_letters 12 = .ok (.getfield 12, 3) := by decide +kernel
theorem dX12_letters_15 : decode cX12_letters 15 = .ok (.iadd, 1) := by decide +kernel
theorem dX12_letters_16 : decode cX12_letters 16 = .ok (.goto 21, 3) := by decide +kernel
theorem dX12_letters_19 : decode cX12_letters 19 = .ok (.aload_n 0, 1) := by decide +kernel
theorem dX12_letters_20 : decode cX12_letters 20 = .ok (.getfield 3, 3) := by decide +kernel
theorem dX12_letters_23 : decode cX12_letters 23 = .ok (.iconst 1, 1) := by decide +kernel
theorem dX12_letters_24 : decode cX12_letters 24 = .ok (.if_icmp .ne 12, 3) := by decide +kernel
theorem dX12_letters_27 : decode cX12_letters 27 = .ok (.iconst 1, 1) := by decide +kernel
theorem dX12_letters_28 : decode cX12_letters 28 = .ok (.aload_n 0, 1) := by decide +kernel
theorem dX12_letters_29 : decode cX12_letters 29 = .ok (.getfield 12, 3) := by decide +kernel
theorem dX12_letters_32 : decode cX12_letters 32 = .ok (.iadd, 1) := by decide +kernel
theorem dX12_letters_33 : decode cX12_letters 33 = .ok (.goto 4, 3) := by decide +kernel
theorem dX12_letters_36 : decode cX12_letters 36 = .ok (.iconst 2, 1) := by decide +kernel
theorem dX12_letters_37 : decode cX12_letters 37 = .ok (.ireturn, 1) := by decide +kernel
set_option maxHeartbeats 4000000 in
set_option maxRecDepth 100000 in
theorem cn_X12_letters {l : Launch} {cA : Nat → ClassId} {ad : Nat → Nat} {D : va_G} {E : Nat → Nat} {A : Nat → Prop}  {s0 sr : SS} {rr : Int32} (hf : f_X12_letters s0 = some (rr, sr)) : zCon Om Nm cA ad D E l yX12_letters cX12_letters 1 (some .int) 0 A [.ref (ad 0)] s0 (some (.int rr)) sr := by
  refine zstart (own := RX12) hOm (by decide) rfl (Nat.le_of_ble_eq_true rfl) ?_
  intro p e s m args below meth c X hP ls hl
  have hx := X.1
  have hb := X.2.1
  have hl : lv_has ls 1 [(0, .ref (ad 0))] := hl
  have hS : va_S A s.heap s.heap [] := va_S.rf
  rw [f_X12_letters] at hf
  refine lv_aload_n hx hb dX12_letters_0 rfl (lv_at hl 0 rfl) ?_
  refine gf_X12_3 X hP (k := 0) rfl dX12_letters_1 ?_
  refine zif_ne (tgt := 19) hx hb dX12_letters_4 (by decide) hf (fun hf => ?_) (fun hf => ?_)
  · refine lv_aload_n hx hb dX12_letters_19 rfl (lv_at hl 0 rfl) ?_
    refine gf_X12_3 X hP (k := 0) rfl dX12_letters_20 ?_
    refine lv_iconst (v := 1) hx hb dX12_letters_23 (by decide) ?_
    refine zicmp_ne (tgt := 36) hx hb dX12_letters_24 (by decide) hf (fun hf => ?_) (fun hf => ?_)
    · refine lv_iconst (v := 2) hx hb dX12_letters_36 (by decide) ?_
      exact zret_i X hP hS hf rfl dX12_letters_37
    · refine lv_iconst (v := 1) hx hb dX12_letters_27 (by decide) ?_
      refine lv_aload_n hx hb dX12_letters_28 rfl (lv_at hl 0 rfl) ?_
      refine gf_X12_12 X hP (k := 0) rfl dX12_letters_29 ?_
      refine lv_iadd hx hb dX12_letters_32 ?_
      refine lv_goto (tgt := 37) hx hb dX12_letters_33 (by decide) ?_
      exact zret_i X hP hS hf rfl dX12_letters_37
  · refine lv_aload_n hx hb dX12_letters_7 rfl (lv_at hl 0 rfl) ?_
    refine gf_X12_9 X hP (k := 0) rfl dX12_letters_8 ?_
    refine lv_aload_n hx hb dX12_letters_11 rfl (lv_at hl 0 rfl) ?_
    refine gf_X12_12 X hP (k := 0) rfl dX12_letters_12 ?_
    refine lv_iadd hx hb dX12_letters_15 ?_
    refine lv_goto (tgt := 37) hx hb dX12_letters_16 (by decide) ?_
    exact zret_i X hP hS hf rfl dX12_letters_37
theorem dX12_nameOf_0 : decode cX12_nameOf 0 = .ok (.aload_n 0, 1) := by decide +kernel
theorem dX12_nameOf_1 : decode cX12_nameOf 1 = .ok (.getfield 3, 3) := by decide +kernel
theorem dX12_nameOf_4 : decode cX12_nameOf 4 = .ok (.iconst 2, 1) := by decide +kernel
theorem dX12_nameOf_5 : decode cX12_nameOf 5 = .ok (.if_icmp .ne 15, 3) := by decide +kernel
theorem dX12_nameOf_8 : decode cX12_nameOf 8 = .ok (.iload_n 1, 1) := by decide +kernel
theorem dX12_nameOf_9 : decode cX12_nameOf 9 = .ok (.ifCond .ne 8, 3) := by decide +kernel
theorem dX12_nameOf_12 : decode cX12_nameOf 12 = .ok (.bipush 97, 2) := by decide +kernel
theorem dX12_nameOf_14 : decode cX12_nameOf 14 = .ok (.goto 5, 3) := by decide +kernel
theorem dX12_nameOf_17 : decode cX12_nameOf 17 = .ok (.bipush 118, 2) := by decide +kernel
theorem dX12_nameOf_19 : decode cX12_nameOf 19 = .ok (.ireturn, 1) := by decide +kernel
theorem dX12_nameOf_20 : decode cX12_nameOf 20 = .ok (.aload_n 0, 1) := by decide +kernel
theorem dX12_nameOf_21 : decode cX12_nameOf 21 = .ok (.getfield 3, 3) := by decide +kernel
theorem dX12_nameOf_24 : decode cX12_nameOf 24 = .ok (.iconst 1, 1) := by decide +kernel
theorem dX12_nameOf_25 : decode cX12_nameOf 25 = .ok (.if_icmp .ne 17, 3) := by decide +kernel
theorem dX12_nameOf_28 : decode cX12_nameOf 28 = .ok (.iload_n 1, 1) := by decide +kernel
theorem dX12_nameOf_29 : decode cX12_nameOf 29 = .ok (.ifCond .ne 8, 3) := by decide +kernel
theorem dX12_nameOf_32 : decode cX12_nameOf 32 = .ok (.bipush 97, 2) := by decide +kernel
theorem dX12_nameOf_34 : decode cX12_nameOf 34 = .ok (.goto 7, 3) := by decide +kernel
theorem dX12_nameOf_37 : decode cX12_nameOf 37 = .ok (.bipush 116, 2) := by decide +kernel
theorem dX12_nameOf_39 : decode cX12_nameOf 39 = .ok (.iload_n 1, 1) := by decide +kernel
theorem dX12_nameOf_40 : decode cX12_nameOf 40 = .ok (.iadd, 1) := by decide +kernel
theorem dX12_nameOf_41 : decode cX12_nameOf 41 = .ok (.ireturn, 1) := by decide +kernel
theorem dX12_nameOf_42 : decode cX12_nameOf 42 = .ok (.iload_n 1, 1) := by decide +kernel
theorem dX12_nameOf_43 : decode cX12_nameOf 43 = .ok (.aload_n 0, 1) := by decide +kernel
theorem dX12_nameOf_44 : decode cX12_nameOf 44 = .ok (.getfield 9, 3) := by decide +kernel
theorem dX12_nameOf_47 : decode cX12_nameOf 47 = .ok (.if_icmp .ge 10, 3) := by decide +kernel
theorem dX12_nameOf_50 : decode cX12_nameOf 50 = .ok (.bipush 97, 2) := by decide +kernel
theorem dX12_nameOf_52 : decode cX12_nameOf 52 = .ok (.iload_n 1, 1) := by decide +kernel
theorem dX12_nameOf_53 : decode cX12_nameOf 53 = .ok (.iadd, 1) := by decide +kernel
theorem dX12_nameOf_54 : decode cX12_nameOf 54 = .ok (.goto 12, 3) := by decide +kernel
theorem dX12_nameOf_57 : decode cX12_nameOf 57 = .ok (.bipush 112, 2) := by decide +kernel
theorem dX12_nameOf_59 : decode cX12_nameOf 59 = .ok (.iload_n 1, 1) := by decide +kernel
theorem dX12_nameOf_60 : decode cX12_nameOf 60 = .ok (.iadd, 1) := by decide +kernel
theorem dX12_nameOf_61 : decode cX12_nameOf 61 = .ok (.aload_n 0, 1) := by decide +kernel
theorem dX12_nameOf_62 : decode cX12_nameOf 62 = .ok (.getfield 9, 3) := by decide +kernel
theorem dX12_nameOf_65 : decode cX12_nameOf 65 = .ok (.isub, 1) := by decide +kernel
theorem dX12_nameOf_66 : decode cX12_nameOf 66 = .ok (.ireturn, 1) := by decide +kernel
set_option maxHeartbeats 4000000 in
set_option maxRecDepth 100000 in
theorem cn_X12_nameOf {l : Launch} {cA : Nat → ClassId} {ad : Nat → Nat} {D : va_G} {E : Nat → Nat} {A : Nat → Prop} {x1 : Int32} {s0 sr : SS} {rr : Int32} (hf : f_X12_nameOf x1 s0 = some (rr, sr)) : zCon Om Nm cA ad D E l yX12_nameOf cX12_nameOf 2 (some .int) 0 A [.ref (ad 0), .int x1] s0 (some (.int rr)) sr := by
  refine zstart (own := RX12) hOm (by decide) rfl (Nat.le_of_ble_eq_true rfl) ?_
  intro p e s m args below meth c X hP ls hl
  have hx := X.1
  have hb := X.2.1
  have hl : lv_has ls 2 [(0, .ref (ad 0)), (1, .int x1)] := hl
  have hS : va_S A s.heap s.heap [] := va_S.rf
  rw [f_X12_nameOf] at hf
  refine lv_aload_n hx hb dX12_nameOf_0 rfl (lv_at hl 0 rfl) ?_
  refine gf_X12_3 X hP (k := 0) rfl dX12_nameOf_1 ?_
  refine lv_iconst (v := 2) hx hb dX12_nameOf_4 (by decide) ?_
  refine zicmp_ne (tgt := 20) hx hb dX12_nameOf_5 (by decide) hf (fun hf => ?_) (fun hf => ?_)
  · refine lv_aload_n hx hb dX12_nameOf_20 rfl (lv_at hl 0 rfl) ?_
    refine gf_X12_3 X hP (k := 0) rfl dX12_nameOf_21 ?_
    refine lv_iconst (v := 1) hx hb dX12_nameOf_24 (by decide) ?_
    refine zicmp_ne (tgt := 42) hx hb dX12_nameOf_25 (by decide) hf (fun hf => ?_) (fun hf => ?_)
    · refine lv_iload_n hx hb dX12_nameOf_42 rfl (lv_at hl 1 rfl) ?_
      refine lv_aload_n hx hb dX12_nameOf_43 rfl (lv_at hl 0 rfl) ?_
      refine gf_X12_9 X hP (k := 0) rfl dX12_nameOf_44 ?_
      refine zicmp_ge (tgt := 57) hx hb dX12_nameOf_47 (by decide) hf (fun hf => ?_) (fun hf => ?_)
      · refine lv_bipush (v := 112) hx hb dX12_nameOf_57 (by decide) ?_
        refine lv_iload_n hx hb dX12_nameOf_59 rfl (lv_at hl 1 rfl) ?_
        refine lv_iadd hx hb dX12_nameOf_60 ?_
        refine lv_aload_n hx hb dX12_nameOf_61 rfl (lv_at hl 0 rfl) ?_
        refine gf_X12_9 X hP (k := 0) rfl dX12_nameOf_62 ?_
        refine lv_isub hx hb dX12_nameOf_65 ?_
        exact zret_i X hP hS hf rfl dX12_nameOf_66
      · refine lv_bipush (v := 97) hx hb dX12_nameOf_50 (by decide) ?_
        refine lv_iload_n hx hb dX12_nameOf_52 rfl (lv_at hl 1 rfl) ?_
        refine lv_iadd hx hb dX12_nameOf_53 ?_
        refine lv_goto (tgt := 66) hx hb dX12_nameOf_54 (by decide) ?_
        exact zret_i X hP hS hf rfl dX12_nameOf_66
    · refine lv_iload_n hx hb dX12_nameOf_28 rfl (lv_at hl 1 rfl) ?_
      refine zif_ne (tgt := 37) hx hb dX12_nameOf_29 (by decide) hf (fun hf => ?_) (fun hf => ?_)
      · refine lv_bipush (v := 116) hx hb dX12_nameOf_37 (by decide) ?_
        refine lv_iload_n hx hb dX12_nameOf_39 rfl (lv_at hl 1 rfl) ?_
        refine lv_iadd hx hb dX12_nameOf_40 ?_
        exact zret_i X hP hS hf rfl dX12_nameOf_41
      · refine lv_bipush (v := 97) hx hb dX12_nameOf_32 (by decide) ?_
        refine lv_goto (tgt := 41) hx hb dX12_nameOf_34 (by decide) ?_
        exact zret_i X hP hS hf rfl dX12_nameOf_41
  · refine lv_iload_n hx hb dX12_nameOf_8 rfl (lv_at hl 1 rfl) ?_
    refine zif_ne (tgt := 17) hx hb dX12_nameOf_9 (by decide) hf (fun hf => ?_) (fun hf => ?_)
    · refine lv_bipush (v := 118) hx hb dX12_nameOf_17 (by decide) ?_
      exact zret_i X hP hS hf rfl dX12_nameOf_19
    · refine lv_bipush (v := 97) hx hb dX12_nameOf_12 (by decide) ?_
      refine lv_goto (tgt := 19) hx hb dX12_nameOf_14 (by decide) ?_
      exact zret_i X hP hS hf rfl dX12_nameOf_19
theorem dX12_tens_0 : decode cX12_tens 0 = .ok (.iconst 1, 1) := by decide +kernel
theorem dX12_tens_1 : decode cX12_tens 1 = .ok (.istore_n 1, 1) := by decide +kernel
theorem dX12_tens_2 : decode cX12_tens 2 = .ok (.iconst 0, 1) := by decide +kernel
theorem dX12_tens_3 : decode cX12_tens 3 = .ok (.istore_n 2, 1) := by decide +kernel
theorem dX12_tens_4 : decode cX12_tens 4 = .ok (.iload_n 2, 1) := by decide +kernel
theorem dX12_tens_5 : decode cX12_tens 5 = .ok (.iload_n 0, 1) := by decide +kernel
theorem dX12_tens_6 : decode cX12_tens 6 = .ok (.if_icmp .ge 14, 3) := by decide +kernel
theorem dX12_tens_9 : decode cX12_tens 9 = .ok (.iload_n 1, 1) := by decide +kernel
theorem dX12_tens_10 : decode cX12_tens 10 = .ok (.bipush 10, 2) := by decide +kernel
theorem dX12_tens_12 : decode cX12_tens 12 = .ok (.imul, 1) := by decide +kernel
theorem dX12_tens_13 : decode cX12_tens 13 = .ok (.istore_n 1, 1) := by decide +kernel
theorem dX12_tens_14 : decode cX12_tens 14 = .ok (.iinc 2 1, 3) := by decide +kernel
theorem dX12_tens_17 : decode cX12_tens 17 = .ok (.goto (-13), 3) := by decide +kernel
theorem dX12_tens_20 : decode cX12_tens 20 = .ok (.iload_n 1, 1) := by decide +kernel
theorem dX12_tens_21 : decode cX12_tens 21 = .ok (.ireturn, 1) := by decide +kernel
set_option maxHeartbeats 4000000 in
set_option maxRecDepth 100000 in
theorem cn_X12_tens {l : Launch} {cA : Nat → ClassId} {ad : Nat → Nat} {D : va_G} {E : Nat → Nat} {A : Nat → Prop} {x0 : Int32} {s0 sr : SS} {rr : Int32} (hf : f_X12_tens x0 s0 = some (rr, sr)) : zCon Om Nm cA ad D E l yX12_tens cX12_tens 3 (some .int) 0 A [.int x0] s0 (some (.int rr)) sr := by
  refine zstart (own := RX12) hOm (by decide) rfl (Nat.le_of_ble_eq_true rfl) ?_
  intro p e s m args below meth c X hP ls hl
  have hx := X.1
  have hb := X.2.1
  have hl : lv_has ls 3 [(0, .int x0)] := hl
  have hS : va_S A s.heap s.heap [] := va_S.rf
  have hc_4 : ∀ (n4 : Nat) (x0 : Int32) (x1 : Int32) (x2 : Int32) (s1 : SS) (H : Heap) (locs : List Loc) (ls : Array Slot), lv_has ls 3 [(0, .int x0), (1, .int x1), (2, .int x2)] → va_P D ZCL (zw Om Nm cA ad s1) H → va_S A s.heap H locs → f_X12_tens_c4 n4 x0 x1 x2 s1 = some (rr, sr) → W p l e (zrm 0) s m args below meth c H locs 0 0 (MQ below (zQc Om Nm cA ad D A (some (.int rr)) sr) args s 0 0 A) (F0 m 4 ls []) := by
    intro n4
    induction n4 with
    | zero =>
      intro x0 x1 x2 s1 H locs ls hl hP hS hf
      rw [f_X12_tens_c4] at hf
      cases hf
    | succ n4 ih4 =>
      intro x0 x1 x2 s1 H locs ls hl hP hS hf
      rw [f_X12_tens_c4] at hf
      refine lv_iload_n hx hb dX12_tens_4 rfl (lv_at hl 2 rfl) ?_
      refine lv_iload_n hx hb dX12_tens_5 rfl (lv_at hl 0 rfl) ?_
      refine zicmp_ge (tgt := 20) hx hb dX12_tens_6 (by decide) hf (fun hf => ?_) (fun hf => ?_)
      · refine lv_iload_n hx hb dX12_tens_20 rfl (lv_at hl 1 rfl) ?_
        exact zret_i X hP hS hf rfl dX12_tens_21
      · refine lv_iload_n hx hb dX12_tens_9 rfl (lv_at hl 1 rfl) ?_
        refine lv_bipush (v := 10) hx hb dX12_tens_10 (by decide) ?_
        refine lv_imul hx hb dX12_tens_12 ?_
        refine lv_istore_n (lv' := [(1, .int (x1 * (10 : Int32))), (0, .int x0), (2, .int x2)]) hx hb dX12_tens_13 rfl hl (by decide) rfl (fun ls hl => ?_)
        refine lv_iinc (v := (x2 + 1)) (lv' := [(2, .int (x2 + 1)), (1, .int (x1 * (10 : Int32))), (0, .int x0)]) hx hb dX12_tens_14 hl (k := 2) rfl rfl (by decide) rfl (fun ls hl => ?_)
        refine lv_goto (tgt := 4) hx hb dX12_tens_17 (by decide) ?_
        exact ih4 x0 (x1 * (10 : Int32)) (x2 + 1) s1 _ _ _ (lv_sub hl [2, 1, 0] rfl) hP hS hf
  rw [f_X12_tens] at hf
  refine lv_iconst (v := 1) hx hb dX12_tens_0 (by decide) ?_
  refine lv_istore_n (lv' := [(1, .int 1), (0, .int x0)]) hx hb dX12_tens_1 rfl hl (by decide) rfl (fun ls hl => ?_)
  refine lv_iconst (v := 0) hx hb dX12_tens_2 (by decide) ?_
  refine lv_istore_n (lv' := [(2, .int 0), (1, .int 1), (0, .int x0)]) hx hb dX12_tens_3 rfl hl (by decide) rfl (fun ls hl => ?_)
  exact hc_4 ZF x0 1 0 s0 _ _ _ (lv_sub hl [2, 1, 0] rfl) hP hS hf
theorem dX12_powerIn_0 : decode cX12_powerIn 0 = .ok (.iload_n 0, 1) := by decide +kernel
theorem dX12_powerIn_1 : decode cX12_powerIn 1 = .ok (.iload_n 1, 1) := by decide +kernel
theorem dX12_powerIn_2 : decode cX12_powerIn 2 = .ok (.invokestatic 15, 3) := by decide +kernel
theorem dX12_powerIn_5 : decode cX12_powerIn 5 = .ok (.idiv, 1) := by decide +kernel
theorem dX12_powerIn_6 : decode cX12_powerIn 6 = .ok (.bipush 10, 2) := by decide +kernel
theorem dX12_powerIn_8 : decode cX12_powerIn 8 = .ok (.irem, 1) := by decide +kernel
theorem dX12_powerIn_9 : decode cX12_powerIn 9 = .ok (.ireturn, 1) := by decide +kernel
set_option maxHeartbeats 4000000 in
set_option maxRecDepth 100000 in
theorem cn_X12_powerIn {l : Launch} {cA : Nat → ClassId} {ad : Nat → Nat} {D : va_G} {E : Nat → Nat} {A : Nat → Prop} {x0 : Int32} {x1 : Int32} {s0 sr : SS} {rr : Int32} (hf : f_X12_powerIn x0 x1 s0 = some (rr, sr)) : zCon Om Nm cA ad D E l yX12_powerIn cX12_powerIn 2 (some .int) 1 A [.int x0, .int x1] s0 (some (.int rr)) sr := by
  refine zstart (own := RX12) hOm (by decide) rfl (Nat.le_of_ble_eq_true rfl) ?_
  intro p e s m args below meth c X hP ls hl
  have hx := X.1
  have hb := X.2.1
  have hl : lv_has ls 2 [(0, .int x0), (1, .int x1)] := hl
  have hS : va_S A s.heap s.heap [] := va_S.rf
  rw [f_X12_powerIn] at hf
  refine lv_iload_n hx hb dX12_powerIn_0 rfl (lv_at hl 0 rfl) ?_
  refine lv_iload_n hx hb dX12_powerIn_1 rfl (lv_at hl 1 rfl) ?_
  obtain ⟨r1, s2, h3, hf⟩ := zbd_some hf
  refine zcallS X hP hS hl.1 (As := [.int x1]) (rest := [.int x0]) (cn_X12_tens h3) cw_X12_tens ml_X12_15 (by decide) rfl rfl (Nat.le_of_ble_eq_true rfl) dX12_powerIn_2 (fun H locs hP hS => ?_)
  obtain ⟨z4, hf⟩ := zgp hf
  refine lv_idiv hx hb dX12_powerIn_5 z4 ?_
  refine lv_bipush (v := 10) hx hb dX12_powerIn_6 (by decide) ?_
  refine lv_irem hx hb dX12_powerIn_8 (by decide) ?_
  exact zret_i X hP hS hf rfl dX12_powerIn_9
theorem dX12_sizeOf_0 : decode cX12_sizeOf 0 = .ok (.iconst 0, 1) := by decide +kernel
theorem dX12_sizeOf_1 : decode cX12_sizeOf 1 = .ok (.istore_n 1, 1) := by decide +kernel
theorem dX12_sizeOf_2 : decode cX12_sizeOf 2 = .ok (.iload_n 0, 1) := by decide +kernel
theorem dX12_sizeOf_3 : decode cX12_sizeOf 3 = .ok (.istore_n 2, 1) := by decide +kernel
theorem dX12_sizeOf_4 : decode cX12_sizeOf 4 = .ok (.iload_n 2, 1) := by decide +kernel
theorem dX12_sizeOf_5 : decode cX12_sizeOf 5 = .ok (.ifCond .le 18, 3) := by decide +kernel
theorem dX12_sizeOf_8 : decode cX12_sizeOf 8 = .ok (.iload_n 1, 1) := by decide +kernel
theorem dX12_sizeOf_9 : decode cX12_sizeOf 9 = .ok (.iload_n 2, 1) := by decide +kernel
theorem dX12_sizeOf_10 : decode cX12_sizeOf 10 = .ok (.bipush 10, 2) := by decide +kernel
theorem dX12_sizeOf_12 : decode cX12_sizeOf 12 = .ok (.irem, 1) := by decide +kernel
theorem dX12_sizeOf_13 : decode cX12_sizeOf 13 = .ok (.iadd, 1) := by decide +kernel
theorem dX12_sizeOf_14 : decode cX12_sizeOf 14 = .ok (.istore_n 1, 1) := by decide +kernel
theorem dX12_sizeOf_15 : decode cX12_sizeOf 15 = .ok (.iload_n 2, 1) := by decide +kernel
theorem dX12_sizeOf_16 : decode cX12_sizeOf 16 = .ok (.bipush 10, 2) := by decide +kernel
theorem dX12_sizeOf_18 : decode cX12_sizeOf 18 = .ok (.idiv, 1) := by decide +kernel
theorem dX12_sizeOf_19 : decode cX12_sizeOf 19 = .ok (.istore_n 2, 1) := by decide +kernel
theorem dX12_sizeOf_20 : decode cX12_sizeOf 20 = .ok (.goto (-16), 3) := by decide +kernel
theorem dX12_sizeOf_23 : decode cX12_sizeOf 23 = .ok (.iload_n 1, 1) := by decide +kernel
theorem dX12_sizeOf_24 : decode cX12_sizeOf 24 = .ok (.ireturn, 1) := by decide +kernel
set_option maxHeartbeats 4000000 in
set_option maxRecDepth 100000 in
theorem cn_X12_sizeOf {l : Launch} {cA : Nat → ClassId} {ad : Nat → Nat} {D : va_G} {E : Nat → Nat} {A : Nat → Prop} {x0 : Int32} {s0 sr : SS} {rr : Int32} (hf : f_X12_sizeOf x0 s0 = some (rr, sr)) : zCon Om Nm cA ad D E l yX12_sizeOf cX12_sizeOf 3 (some .int) 0 A [.int x0] s0 (some (.int rr)) sr := by
  refine zstart (own := RX12) hOm (by decide) rfl (Nat.le_of_ble_eq_true rfl) ?_
  intro p e s m args below meth c X hP ls hl
  have hx := X.1
  have hb := X.2.1
  have hl : lv_has ls 3 [(0, .int x0)] := hl
  have hS : va_S A s.heap s.heap [] := va_S.rf
  have hc_4 : ∀ (n4 : Nat) (x1 : Int32) (x2 : Int32) (s1 : SS) (H : Heap) (locs : List Loc) (ls : Array Slot), lv_has ls 3 [(1, .int x1), (2, .int x2)] → va_P D ZCL (zw Om Nm cA ad s1) H → va_S A s.heap H locs → f_X12_sizeOf_c4 n4 x1 x2 s1 = some (rr, sr) → W p l e (zrm 0) s m args below meth c H locs 0 0 (MQ below (zQc Om Nm cA ad D A (some (.int rr)) sr) args s 0 0 A) (F0 m 4 ls []) := by
    intro n4
    induction n4 with
    | zero =>
      intro x1 x2 s1 H locs ls hl hP hS hf
      rw [f_X12_sizeOf_c4] at hf
      cases hf
    | succ n4 ih4 =>
      intro x1 x2 s1 H locs ls hl hP hS hf
      rw [f_X12_sizeOf_c4] at hf
      refine lv_iload_n hx hb dX12_sizeOf_4 rfl (lv_at hl 1 rfl) ?_
      refine zif_le (tgt := 23) hx hb dX12_sizeOf_5 (by decide) hf (fun hf => ?_) (fun hf => ?_)
      · refine lv_iload_n hx hb dX12_sizeOf_23 rfl (lv_at hl 0 rfl) ?_
        exact zret_i X hP hS hf rfl dX12_sizeOf_24
      · refine lv_iload_n hx hb dX12_sizeOf_8 rfl (lv_at hl 0 rfl) ?_
        refine lv_iload_n hx hb dX12_sizeOf_9 rfl (lv_at hl 1 rfl) ?_
        refine lv_bipush (v := 10) hx hb dX12_sizeOf_10 (by decide) ?_
        refine lv_irem hx hb dX12_sizeOf_12 (by decide) ?_
        refine lv_iadd hx hb dX12_sizeOf_13 ?_
        refine lv_istore_n (lv' := [(1, .int (x1 + (x2 - x2 / (10 : Int32) * (10 : Int32)))), (2, .int x2)]) hx hb dX12_sizeOf_14 rfl hl (by decide) rfl (fun ls hl => ?_)
        refine lv_iload_n hx hb dX12_sizeOf_15 rfl (lv_at hl 1 rfl) ?_
        refine lv_bipush (v := 10) hx hb dX12_sizeOf_16 (by decide) ?_
        refine lv_idiv hx hb dX12_sizeOf_18 (by decide) ?_
        refine lv_istore_n (lv' := [(2, .int (x2 / (10 : Int32))), (1, .int (x1 + (x2 - x2 / (10 : Int32) * (10 : Int32))))]) hx hb dX12_sizeOf_19 rfl hl (by decide) rfl (fun ls hl => ?_)
        refine lv_goto (tgt := 4) hx hb dX12_sizeOf_20 (by decide) ?_
        exact ih4 (x1 + (x2 - x2 / (10 : Int32) * (10 : Int32))) (x2 / (10 : Int32)) s1 _ _ _ (lv_sub hl [1, 0] rfl) hP hS hf
  rw [f_X12_sizeOf] at hf
  refine lv_iconst (v := 0) hx hb dX12_sizeOf_0 (by decide) ?_
  refine lv_istore_n (lv' := [(1, .int 0), (0, .int x0)]) hx hb dX12_sizeOf_1 rfl hl (by decide) rfl (fun ls hl => ?_)
  refine lv_iload_n hx hb dX12_sizeOf_2 rfl (lv_at hl 1 rfl) ?_
  refine lv_istore_n (lv' := [(2, .int x0), (1, .int 0), (0, .int x0)]) hx hb dX12_sizeOf_3 rfl hl (by decide) rfl (fun ls hl => ?_)
  exact hc_4 ZF 0 x0 s0 _ _ _ (lv_sub hl [1, 0] rfl) hP hS hf
theorem dX12_worthOfProduct_0 : decode cX12_worthOfProduct 0 = .ok (.iconst 1, 1) := by decide +kernel
theorem dX12_worthOfProduct_1 : decode cX12_worthOfProduct 1 = .ok (.istore_n 2, 1) := by decide +kernel
theorem dX12_worthOfProduct_2 : decode cX12_worthOfProduct 2 = .ok (.iconst 0, 1) := by decide +kernel
theorem dX12_worthOfProduct_3 : decode cX12_worthOfProduct 3 = .ok (.istore_n 3, 1) := by decide +kernel
theorem dX12_worthOfProduct_4 : decode cX12_worthOfProduct 4 = .ok (.iload_n 3, 1) := by decide +kernel
theorem dX12_worthOfProduct_5 : decode cX12_worthOfProduct 5 = .ok (.aload_n 0, 1) := by decide +kernel
theorem dX12_worthOfProduct_6 : decode cX12_worthOfProduct 6 = .ok (.getfield 9, 3) := by decide +kernel
theorem dX12_worthOfProduct_9 : decode cX12_worthOfProduct 9 = .ok (.if_icmp .ge 33, 3) := by decide +kernel
theorem dX12_worthOfProduct_12 : decode cX12_worthOfProduct 12 = .ok (.iload_n 2, 1) := by decide +kernel
theorem dX12_worthOfProduct_13 : decode cX12_worthOfProduct 13 = .ok (.ifCond .eq 21, 3) := by decide +kernel
theorem dX12_worthOfProduct_16 : decode cX12_worthOfProduct 16 = .ok (.iload_n 1, 1) := by decide +kernel
theorem dX12_worthOfProduct_17 : decode cX12_worthOfProduct 17 = .ok (.iload_n 3, 1) := by decide +kernel
theorem dX12_worthOfProduct_18 : decode cX12_worthOfProduct 18 = .ok (.invokestatic 19, 3) := by decide +kernel
theorem dX12_worthOfProduct_21 : decode cX12_worthOfProduct 21 = .ok (.aload_n 0, 1) := by decide +kernel
theorem dX12_worthOfProduct_22 : decode cX12_worthOfProduct 22 = .ok (.getfield 23, 3) := by decide +kernel
theorem dX12_worthOfProduct_25 : decode cX12_worthOfProduct 25 = .ok (.iload_n 3, 1) := by decide +kernel
theorem dX12_worthOfProduct_26 : decode cX12_worthOfProduct 26 = .ok (.iaload, 1) := by decide +kernel
theorem dX12_worthOfProduct_27 : decode cX12_worthOfProduct 27 = .ok (.if_icmp .ne 7, 3) := by decide +kernel
theorem dX12_worthOfProduct_30 : decode cX12_worthOfProduct 30 = .ok (.iconst 1, 1) := by decide +kernel
theorem dX12_worthOfProduct_31 : decode cX12_worthOfProduct 31 = .ok (.goto 4, 3) := by decide +kernel
theorem dX12_worthOfProduct_34 : decode cX12_worthOfProduct 34 = .ok (.iconst 0, 1) := by decide +kernel
theorem dX12_worthOfProduct_35 : decode cX12_worthOfProduct 35 = .ok (.istore_n 2, 1) := by decide +kernel
theorem dX12_worthOfProduct_36 : decode cX12_worthOfProduct 36 = .ok (.iinc 3 1, 3) := by decide +kernel
theorem dX12_worthOfProduct_39 : decode cX12_worthOfProduct 39 = .ok (.goto (-35), 3) := by decide +kernel
theorem dX12_worthOfProduct_42 : decode cX12_worthOfProduct 42 = .ok (.iload_n 2, 1) := by decide +kernel
theorem dX12_worthOfProduct_43 : decode cX12_worthOfProduct 43 = .ok (.ifCond .eq 5, 3) := by decide +kernel
theorem dX12_worthOfProduct_46 : decode cX12_worthOfProduct 46 = .ok (.lconst 1, 1) := by decide +kernel
theorem dX12_worthOfProduct_47 : decode cX12_worthOfProduct 47 = .ok (.lreturn, 1) := by decide +kernel
theorem dX12_worthOfProduct_48 : decode cX12_worthOfProduct 48 = .ok (.iconst 0, 1) := by decide +kernel
theorem dX12_worthOfProduct_49 : decode cX12_worthOfProduct 49 = .ok (.istore_n 3, 1) := by decide +kernel
theorem dX12_worthOfProduct_50 : decode cX12_worthOfProduct 50 = .ok (.iload_n 3, 1) := by decide +kernel
theorem dX12_worthOfProduct_51 : decode cX12_worthOfProduct 51 = .ok (.aload_n 0, 1) := by decide +kernel
theorem dX12_worthOfProduct_52 : decode cX12_worthOfProduct 52 = .ok (.getfield 12, 3) := by decide +kernel
theorem dX12_worthOfProduct_55 : decode cX12_worthOfProduct 55 = .ok (.if_icmp .ge 44, 3) := by decide +kernel
theorem dX12_worthOfProduct_58 : decode cX12_worthOfProduct 58 = .ok (.iload_n 1, 1) := by decide +kernel
theorem dX12_worthOfProduct_59 : decode cX12_worthOfProduct 59 = .ok (.aload_n 0, 1) := by decide +kernel
theorem dX12_worthOfProduct_60 : decode cX12_worthOfProduct 60 = .ok (.getfield 9, 3) := by decide +kernel
theorem dX12_worthOfProduct_63 : decode cX12_worthOfProduct 63 = .ok (.iload_n 3, 1) := by decide +kernel
theorem dX12_worthOfProduct_64 : decode cX12_worthOfProduct 64 = .ok (.iadd, 1) := by decide +kernel
theorem dX12_worthOfProduct_65 : decode cX12_worthOfProduct 65 = .ok (.invokestatic 19, 3) := by decide +kernel
theorem dX12_worthOfProduct_68 : decode cX12_worthOfProduct 68 = .ok (.aload_n 0, 1) := by decide +kernel
theorem dX12_worthOfProduct_69 : decode cX12_worthOfProduct 69 = .ok (.getfield 27, 3) := by decide +kernel
theorem dX12_worthOfProduct_72 : decode cX12_worthOfProduct 72 = .ok (.if_icmp .ne 21, 3) := by decide +kernel
theorem dX12_worthOfProduct_75 : decode cX12_worthOfProduct 75 = .ok (.aload_n 0, 1) := by decide +kernel
theorem dX12_worthOfProduct_76 : decode cX12_worthOfProduct 76 = .ok (.getfield 27, 3) := by decide +kernel
theorem dX12_worthOfProduct_79 : decode cX12_worthOfProduct 79 = .ok (.iconst 2, 1) := by decide +kernel
theorem dX12_worthOfProduct_80 : decode cX12_worthOfProduct 80 = .ok (.irem, 1) := by decide +kernel
theorem dX12_worthOfProduct_81 : decode cX12_worthOfProduct 81 = .ok (.iconst 1, 1) := by decide +kernel
theorem dX12_worthOfProduct_82 : decode cX12_worthOfProduct 82 = .ok (.if_icmp .ne 7, 3) := by decide +kernel
theorem dX12_worthOfProduct_85 : decode cX12_worthOfProduct 85 = .ok (.lconst 1, 1) := by decide +kernel
theorem dX12_worthOfProduct_86 : decode cX12_worthOfProduct 86 = .ok (.goto 6, 3) := by decide +kernel
theorem dX12_worthOfProduct_89 : decode cX12_worthOfProduct 89 = .ok (.ldc2_w 30, 3) := by decide +kernel
theorem dX12_worthOfProduct_92 : decode cX12_worthOfProduct 92 = .ok (.lreturn, 1) := by decide +kernel
theorem dX12_worthOfProduct_93 : decode cX12_worthOfProduct 93 = .ok (.iinc 3 1, 3) := by decide +kernel
theorem dX12_worthOfProduct_96 : decode cX12_worthOfProduct 96 = .ok (.goto (-46), 3) := by decide +kernel
theorem dX12_worthOfProduct_99 : decode cX12_worthOfProduct 99 = .ok (.lconst 0, 1) := by decide +kernel
theorem dX12_worthOfProduct_100 : decode cX12_worthOfProduct 100 = .ok (.lreturn, 1) := by decide +kernel
set_option maxHeartbeats 4000000 in
set_option maxRecDepth 100000 in
theorem cn_X12_worthOfProduct {l : Launch} {cA : Nat → ClassId} {ad : Nat → Nat} {D : va_G} {E : Nat → Nat} {A : Nat → Prop} {x1 : Int32} {s0 sr : SS} {rr : Int64} (hf : f_X12_worthOfProduct x1 s0 = some (rr, sr)) : zCon Om Nm cA ad D E l yX12_worthOfProduct cX12_worthOfProduct 4 (some .long) 2 A [.ref (ad 0), .int x1] s0 (some (.long rr)) sr := by
  refine zstart (own := RX12) hOm (by decide) rfl (Nat.le_of_ble_eq_true rfl) ?_
  intro p e s m args below meth c X hP ls hl
  have hx := X.1
  have hb := X.2.1
  have hl : lv_has ls 4 [(0, .ref (ad 0)), (1, .int x1)] := hl
  have hS : va_S A s.heap s.heap [] := va_S.rf
  have hc_4 : ∀ (n4 : Nat) (x1 : Int32) (x2 : Int32) (x3 : Int32) (s1 : SS) (H : Heap) (locs : List Loc) (ls : Array Slot), lv_has ls 4 [(0, .ref (ad 0)), (1, .int x1), (2, .int x2), (3, .int x3)] → va_P D ZCL (zw Om Nm cA ad s1) H → va_S A s.heap H locs → f_X12_worthOfProduct_c4 n4 x1 x2 x3 s1 = some (rr, sr) → W p l e (zrm 2) s m args below meth c H locs 0 0 (MQ below (zQc Om Nm cA ad D A (some (.long rr)) sr) args s 0 0 A) (F0 m 4 ls []) := by
    intro n4
    induction n4 with
    | zero =>
      intro x1 x2 x3 s1 H locs ls hl hP hS hf
      rw [f_X12_worthOfProduct_c4] at hf
      cases hf
    | succ n4 ih4 =>
      have hc_50 : ∀ (n50 : Nat) (x1 : Int32) (x3 : Int32) (s1 : SS) (H : Heap) (locs : List Loc) (ls : Array Slot), lv_has ls 4 [(0, .ref (ad 0)), (1, .int x1), (3, .int x3)] → va_P D ZCL (zw Om Nm cA ad s1) H → va_S A s.heap H locs → f_X12_worthOfProduct_c50 n50 x1 x3 s1 = some (rr, sr) → W p l e (zrm 2) s m args below meth c H locs 0 0 (MQ below (zQc Om Nm cA ad D A (some (.long rr)) sr) args s 0 0 A) (F0 m 50 ls []) := by
        intro n50
        induction n50 with
        | zero =>
          intro x1 x3 s1 H locs ls hl hP hS hf
          rw [f_X12_worthOfProduct_c50] at hf
          cases hf
        | succ n50 ih50 =>
          intro x1 x3 s1 H locs ls hl hP hS hf
          rw [f_X12_worthOfProduct_c50] at hf
          refine lv_iload_n hx hb dX12_worthOfProduct_50 rfl (lv_at hl 2 rfl) ?_
          refine lv_aload_n hx hb dX12_worthOfProduct_51 rfl (lv_at hl 0 rfl) ?_
          refine gf_X12_12 X hP (k := 0) rfl dX12_worthOfProduct_52 ?_
          refine zicmp_ge (tgt := 99) hx hb dX12_worthOfProduct_55 (by decide) hf (fun hf => ?_) (fun hf => ?_)
          · refine lv_lconst (v := 0) hx hb dX12_worthOfProduct_99 (by decide) ?_
            exact zret_l X hP hS hf dX12_worthOfProduct_100
          · refine lv_iload_n hx hb dX12_worthOfProduct_58 rfl (lv_at hl 1 rfl) ?_
            refine lv_aload_n hx hb dX12_worthOfProduct_59 rfl (lv_at hl 0 rfl) ?_
            refine gf_X12_9 X hP (k := 0) rfl dX12_worthOfProduct_60 ?_
            refine lv_iload_n hx hb dX12_worthOfProduct_63 rfl (lv_at hl 2 rfl) ?_
            refine lv_iadd hx hb dX12_worthOfProduct_64 ?_
            obtain ⟨r1, s2, h3, hf⟩ := zbd_some hf
            refine zcallS X hP hS hl.1 (As := [.int x1, .int ((s1.1 0 2) + x3)]) (rest := []) (cn_X12_powerIn h3) cw_X12_powerIn ml_X12_19 (by decide) rfl rfl (Nat.le_of_ble_eq_true rfl) dX12_worthOfProduct_65 (fun H locs hP hS => ?_)
            refine lv_aload_n hx hb dX12_worthOfProduct_68 rfl (lv_at hl 0 rfl) ?_
            refine gf_X12_27 X hP (k := 0) rfl dX12_worthOfProduct_69 ?_
            refine zicmp_ne (tgt := 93) hx hb dX12_worthOfProduct_72 (by decide) hf (fun hf => ?_) (fun hf => ?_)
            · refine lv_iinc (v := (x3 + 1)) (lv' := [(3, .int (x3 + 1)), (0, .ref (ad 0)), (1, .int x1)]) hx hb dX12_worthOfProduct_93 hl (k := 2) rfl rfl (by decide) rfl (fun ls hl => ?_)
              refine lv_goto (tgt := 50) hx hb dX12_worthOfProduct_96 (by decide) ?_
              exact ih50 x1 (x3 + 1) s2 _ _ _ (lv_sub hl [1, 2, 0] rfl) hP hS hf
            · refine lv_aload_n hx hb dX12_worthOfProduct_75 rfl (lv_at hl 0 rfl) ?_
              refine gf_X12_27 X hP (k := 0) rfl dX12_worthOfProduct_76 ?_
              refine lv_iconst (v := 2) hx hb dX12_worthOfProduct_79 (by decide) ?_
              refine lv_irem hx hb dX12_worthOfProduct_80 (by decide) ?_
              refine lv_iconst (v := 1) hx hb dX12_worthOfProduct_81 (by decide) ?_
              refine zicmp_ne (tgt := 89) hx hb dX12_worthOfProduct_82 (by decide) hf (fun hf => ?_) (fun hf => ?_)
              · refine zldc2 X co_X12_30 dX12_worthOfProduct_89 ?_
                exact zret_l X hP hS hf dX12_worthOfProduct_92
              · refine lv_lconst (v := 1) hx hb dX12_worthOfProduct_85 (by decide) ?_
                refine lv_goto (tgt := 92) hx hb dX12_worthOfProduct_86 (by decide) ?_
                exact zret_l X hP hS hf dX12_worthOfProduct_92
      have hc_35 : ∀ (x1 : Int32) (x3 : Int32) (t0 : Int32) (s1 : SS) (H : Heap) (locs : List Loc) (ls : Array Slot), lv_has ls 4 [(0, .ref (ad 0)), (1, .int x1), (3, .int x3)] → va_P D ZCL (zw Om Nm cA ad s1) H → va_S A s.heap H locs → f_X12_worthOfProduct_c35 (f_X12_worthOfProduct_c4 n4) x1 x3 t0 s1 = some (rr, sr) → W p l e (zrm 2) s m args below meth c H locs 0 0 (MQ below (zQc Om Nm cA ad D A (some (.long rr)) sr) args s 0 0 A) (F0 m 35 ls [.int t0]) := by
        intro x1 x3 t0 s1 H locs ls hl hP hS hf
        rw [f_X12_worthOfProduct_c35] at hf
        refine lv_istore_n (lv' := [(2, .int t0), (0, .ref (ad 0)), (1, .int x1), (3, .int x3)]) hx hb dX12_worthOfProduct_35 rfl hl (by decide) rfl (fun ls hl => ?_)
        refine lv_iinc (v := (x3 + 1)) (lv' := [(3, .int (x3 + 1)), (2, .int t0), (0, .ref (ad 0)), (1, .int x1)]) hx hb dX12_worthOfProduct_36 hl (k := 3) rfl rfl (by decide) rfl (fun ls hl => ?_)
        refine lv_goto (tgt := 4) hx hb dX12_worthOfProduct_39 (by decide) ?_
        exact ih4 x1 t0 (x3 + 1) s1 _ _ _ (lv_sub hl [2, 3, 1, 0] rfl) hP hS hf
      have hc_34 : ∀ (x1 : Int32) (x3 : Int32) (s1 : SS) (H : Heap) (locs : List Loc) (ls : Array Slot), lv_has ls 4 [(0, .ref (ad 0)), (1, .int x1), (3, .int x3)] → va_P D ZCL (zw Om Nm cA ad s1) H → va_S A s.heap H locs → f_X12_worthOfProduct_c34 (f_X12_worthOfProduct_c4 n4) x1 x3 s1 = some (rr, sr) → W p l e (zrm 2) s m args below meth c H locs 0 0 (MQ below (zQc Om Nm cA ad D A (some (.long rr)) sr) args s 0 0 A) (F0 m 34 ls []) := by
        intro x1 x3 s1 H locs ls hl hP hS hf
        rw [f_X12_worthOfProduct_c34] at hf
        refine lv_iconst (v := 0) hx hb dX12_worthOfProduct_34 (by decide) ?_
        exact hc_35 x1 x3 0 s1 _ _ _ (lv_sub hl [0, 1, 2] rfl) hP hS hf
      intro x1 x2 x3 s1 H locs ls hl hP hS hf
      rw [f_X12_worthOfProduct_c4] at hf
      refine lv_iload_n hx hb dX12_worthOfProduct_4 rfl (lv_at hl 3 rfl) ?_
      refine lv_aload_n hx hb dX12_worthOfProduct_5 rfl (lv_at hl 0 rfl) ?_
      refine gf_X12_9 X hP (k := 0) rfl dX12_worthOfProduct_6 ?_
      refine zicmp_ge (tgt := 42) hx hb dX12_worthOfProduct_9 (by decide) hf (fun hf => ?_) (fun hf => ?_)
      · refine lv_iload_n hx hb dX12_worthOfProduct_42 rfl (lv_at hl 2 rfl) ?_
        refine zif_eq (tgt := 48) hx hb dX12_worthOfProduct_43 (by decide) hf (fun hf => ?_) (fun hf => ?_)
        · refine lv_iconst (v := 0) hx hb dX12_worthOfProduct_48 (by decide) ?_
          refine lv_istore_n (lv' := [(3, .int 0), (0, .ref (ad 0)), (1, .int x1), (2, .int x2)]) hx hb dX12_worthOfProduct_49 rfl hl (by decide) rfl (fun ls hl => ?_)
          exact hc_50 ZF x1 0 s1 _ _ _ (lv_sub hl [1, 2, 0] rfl) hP hS hf
        · refine lv_lconst (v := 1) hx hb dX12_worthOfProduct_46 (by decide) ?_
          exact zret_l X hP hS hf dX12_worthOfProduct_47
      · refine lv_iload_n hx hb dX12_worthOfProduct_12 rfl (lv_at hl 2 rfl) ?_
        refine zif_eq (tgt := 34) hx hb dX12_worthOfProduct_13 (by decide) hf (fun hf => ?_) (fun hf => ?_)
        · exact hc_34 x1 x3 s1 _ _ _ (lv_sub hl [0, 1, 3] rfl) hP hS hf
        · refine lv_iload_n hx hb dX12_worthOfProduct_16 rfl (lv_at hl 1 rfl) ?_
          refine lv_iload_n hx hb dX12_worthOfProduct_17 rfl (lv_at hl 3 rfl) ?_
          obtain ⟨r4, s5, h6, hf⟩ := zbd_some hf
          refine zcallS X hP hS hl.1 (As := [.int x1, .int x3]) (rest := []) (cn_X12_powerIn h6) cw_X12_powerIn ml_X12_19 (by decide) rfl rfl (Nat.le_of_ble_eq_true rfl) dX12_worthOfProduct_18 (fun H locs hP hS => ?_)
          refine lv_aload_n hx hb dX12_worthOfProduct_21 rfl (lv_at hl 0 rfl) ?_
          refine gf_X12_23 X hP (k := 0) (q := 1) rfl dX12_worthOfProduct_22 rfl ?_
          refine lv_iload_n hx hb dX12_worthOfProduct_25 rfl (lv_at hl 3 rfl) ?_
          obtain ⟨g7, hf⟩ := zgd hf
          refine zald_i X hP (k := 1) (n := 3) (rs := []) rfl g7 dX12_worthOfProduct_26 ?_
          refine zicmp_ne (tgt := 34) hx hb dX12_worthOfProduct_27 (by decide) hf (fun hf => ?_) (fun hf => ?_)
          · exact hc_34 x1 x3 s5 _ _ _ (lv_sub hl [0, 1, 3] rfl) hP hS hf
          · refine lv_iconst (v := 1) hx hb dX12_worthOfProduct_30 (by decide) ?_
            refine lv_goto (tgt := 35) hx hb dX12_worthOfProduct_31 (by decide) ?_
            exact hc_35 x1 x3 1 s5 _ _ _ (lv_sub hl [0, 1, 3] rfl) hP hS hf
  rw [f_X12_worthOfProduct] at hf
  refine lv_iconst (v := 1) hx hb dX12_worthOfProduct_0 (by decide) ?_
  refine lv_istore_n (lv' := [(2, .int 1), (0, .ref (ad 0)), (1, .int x1)]) hx hb dX12_worthOfProduct_1 rfl hl (by decide) rfl (fun ls hl => ?_)
  refine lv_iconst (v := 0) hx hb dX12_worthOfProduct_2 (by decide) ?_
  refine lv_istore_n (lv' := [(3, .int 0), (2, .int 1), (0, .ref (ad 0)), (1, .int x1)]) hx hb dX12_worthOfProduct_3 rfl hl (by decide) rfl (fun ls hl => ?_)
  exact hc_4 ZF x1 1 0 s0 _ _ _ (lv_sub hl [2, 3, 1, 0] rfl) hP hS hf
theorem dX12_worthOfCurved_0 : decode cX12_worthOfCurved 0 = .ok (.iload_n 1, 1) := by decide +kernel
theorem dX12_worthOfCurved_1 : decode cX12_worthOfCurved 1 = .ok (.iconst 3, 1) := by decide +kernel
theorem dX12_worthOfCurved_2 : decode cX12_worthOfCurved 2 = .ok (.if_icmp .ne 5, 3) := by decide +kernel
theorem dX12_worthOfCurved_5 : decode cX12_worthOfCurved 5 = .ok (.lconst 1, 1) := by decide +kernel
theorem dX12_worthOfCurved_6 : decode cX12_worthOfCurved 6 = .ok (.lreturn, 1) := by decide +kernel
theorem dX12_worthOfCurved_7 : decode cX12_worthOfCurved 7 = .ok (.iconst 0, 1) := by decide +kernel
theorem dX12_worthOfCurved_8 : decode cX12_worthOfCurved 8 = .ok (.istore_n 2, 1) := by decide +kernel
theorem dX12_worthOfCurved_9 : decode cX12_worthOfCurved 9 = .ok (.iload_n 2, 1) := by decide +kernel
theorem dX12_worthOfCurved_10 : decode cX12_worthOfCurved 10 = .ok (.aload_n 0, 1) := by decide +kernel
theorem dX12_worthOfCurved_11 : decode cX12_worthOfCurved 11 = .ok (.getfield 12, 3) := by decide +kernel
theorem dX12_worthOfCurved_14 : decode cX12_worthOfCurved 14 = .ok (.if_icmp .ge 72, 3) := by decide +kernel
theorem dX12_worthOfCurved_17 : decode cX12_worthOfCurved 17 = .ok (.iload_n 1, 1) := by decide +kernel
theorem dX12_worthOfCurved_18 : decode cX12_worthOfCurved 18 = .ok (.iconst 1, 1) := by decide +kernel
theorem dX12_worthOfCurved_19 : decode cX12_worthOfCurved 19 = .ok (.iconst 2, 1) := by decide +kernel
theorem dX12_worthOfCurved_20 : decode cX12_worthOfCurved 20 = .ok (.iconst 1, 1) := by decide +kernel
theorem dX12_worthOfCurved_21 : decode cX12_worthOfCurved 21 = .ok (.iload_n 2, 1) := by decide +kernel
theorem dX12_worthOfCurved_22 : decode cX12_worthOfCurved 22 = .ok (.iadd, 1) := by decide +kernel
theorem dX12_worthOfCurved_23 : decode cX12_worthOfCurved 23 = .ok (.invokestatic 15, 3) := by decide +kernel
theorem dX12_worthOfCurved_26 : decode cX12_worthOfCurved 26 = .ok (.imul, 1) := by decide +kernel
theorem dX12_worthOfCurved_27 : decode cX12_worthOfCurved 27 = .ok (.iadd, 1) := by decide +kernel
theorem dX12_worthOfCurved_28 : decode cX12_worthOfCurved 28 = .ok (.if_icmp .ne 12, 3) := by decide +kernel
theorem dX12_worthOfCurved_31 : decode cX12_worthOfCurved 31 = .ok (.aload_n 0, 1) := by decide +kernel
theorem dX12_worthOfCurved_32 : decode cX12_worthOfCurved 32 = .ok (.getfield 32, 3) := by decide +kernel
theorem dX12_worthOfCurved_35 : decode cX12_worthOfCurved 35 = .ok (.iload_n 2, 1) := by decide +kernel
theorem dX12_worthOfCurved_36 : decode cX12_worthOfCurved 36 = .ok (.iaload, 1) := by decide +kernel
theorem dX12_worthOfCurved_37 : decode cX12_worthOfCurved 37 = .ok (.ineg, 1) := by decide +kernel
theorem dX12_worthOfCurved_38 : decode cX12_worthOfCurved 38 = .ok (.i2l, 1) := by decide +kernel
theorem dX12_worthOfCurved_39 : decode cX12_worthOfCurved 39 = .ok (.lreturn, 1) := by decide +kernel
theorem dX12_worthOfCurved_40 : decode cX12_worthOfCurved 40 = .ok (.iload_n 1, 1) := by decide +kernel
theorem dX12_worthOfCurved_41 : decode cX12_worthOfCurved 41 = .ok (.iconst 3, 1) := by decide +kernel
theorem dX12_worthOfCurved_42 : decode cX12_worthOfCurved 42 = .ok (.iconst 1, 1) := by decide +kernel
theorem dX12_worthOfCurved_43 : decode cX12_worthOfCurved 43 = .ok (.iload_n 2, 1) := by decide +kernel
theorem dX12_worthOfCurved_44 : decode cX12_worthOfCurved 44 = .ok (.iadd, 1) := by decide +kernel
theorem dX12_worthOfCurved_45 : decode cX12_worthOfCurved 45 = .ok (.invokestatic 15, 3) := by decide +kernel
theorem dX12_worthOfCurved_48 : decode cX12_worthOfCurved 48 = .ok (.imul, 1) := by decide +kernel
theorem dX12_worthOfCurved_49 : decode cX12_worthOfCurved 49 = .ok (.if_icmp .ne 31, 3) := by decide +kernel
theorem dX12_worthOfCurved_52 : decode cX12_worthOfCurved 52 = .ok (.ldc2_w 35, 3) := by decide +kernel
theorem dX12_worthOfCurved_55 : decode cX12_worthOfCurved 55 = .ok (.ldc2_w 35, 3) := by decide +kernel
theorem dX12_worthOfCurved_58 : decode cX12_worthOfCurved 58 = .ok (.aload_n 0, 1) := by decide +kernel
theorem dX12_worthOfCurved_59 : decode cX12_worthOfCurved 59 = .ok (.getfield 37, 3) := by decide +kernel
theorem dX12_worthOfCurved_62 : decode cX12_worthOfCurved 62 = .ok (.iload_n 2, 1) := by decide +kernel
theorem dX12_worthOfCurved_63 : decode cX12_worthOfCurved 63 = .ok (.iaload, 1) := by decide +kernel
theorem dX12_worthOfCurved_64 : decode cX12_worthOfCurved 64 = .ok (.i2l, 1) := by decide +kernel
theorem dX12_worthOfCurved_65 : decode cX12_worthOfCurved 65 = .ok (.lmul, 1) := by decide +kernel
theorem dX12_worthOfCurved_66 : decode cX12_worthOfCurved 66 = .ok (.lsub, 1) := by decide +kernel
theorem dX12_worthOfCurved_67 : decode cX12_worthOfCurved 67 = .ok (.ldc2_w 40, 3) := by decide +kernel
theorem dX12_worthOfCurved_70 : decode cX12_worthOfCurved 70 = .ok (.aload_n 0, 1) := by decide +kernel
theorem dX12_worthOfCurved_71 : decode cX12_worthOfCurved 71 = .ok (.getfield 32, 3) := by decide +kernel
theorem dX12_worthOfCurved_74 : decode cX12_worthOfCurved 74 = .ok (.iload_n 2, 1) := by decide +kernel
theorem dX12_worthOfCurved_75 : decode cX12_worthOfCurved 75 = .ok (.iaload, 1) := by decide +kernel
theorem dX12_worthOfCurved_76 : decode cX12_worthOfCurved 76 = .ok (.i2l, 1) := by decide +kernel
theorem dX12_worthOfCurved_77 : decode cX12_worthOfCurved 77 = .ok (.lmul, 1) := by decide +kernel
theorem dX12_worthOfCurved_78 : decode cX12_worthOfCurved 78 = .ok (.lsub, 1) := by decide +kernel
theorem dX12_worthOfCurved_79 : decode cX12_worthOfCurved 79 = .ok (.lreturn, 1) := by decide +kernel
theorem dX12_worthOfCurved_80 : decode cX12_worthOfCurved 80 = .ok (.iinc 2 1, 3) := by decide +kernel
theorem dX12_worthOfCurved_83 : decode cX12_worthOfCurved 83 = .ok (.goto (-74), 3) := by decide +kernel
theorem dX12_worthOfCurved_86 : decode cX12_worthOfCurved 86 = .ok (.lconst 0, 1) := by decide +kernel
theorem dX12_worthOfCurved_87 : decode cX12_worthOfCurved 87 = .ok (.lreturn, 1) := by decide +kernel
set_option maxHeartbeats 4000000 in
set_option maxRecDepth 100000 in
theorem cn_X12_worthOfCurved {l : Launch} {cA : Nat → ClassId} {ad : Nat → Nat} {D : va_G} {E : Nat → Nat} {A : Nat → Prop} {x1 : Int32} {s0 sr : SS} {rr : Int64} (hf : f_X12_worthOfCurved x1 s0 = some (rr, sr)) : zCon Om Nm cA ad D E l yX12_worthOfCurved cX12_worthOfCurved 3 (some .long) 1 A [.ref (ad 0), .int x1] s0 (some (.long rr)) sr := by
  refine zstart (own := RX12) hOm (by decide) rfl (Nat.le_of_ble_eq_true rfl) ?_
  intro p e s m args below meth c X hP ls hl
  have hx := X.1
  have hb := X.2.1
  have hl : lv_has ls 3 [(0, .ref (ad 0)), (1, .int x1)] := hl
  have hS : va_S A s.heap s.heap [] := va_S.rf
  have hc_9 : ∀ (n9 : Nat) (x1 : Int32) (x2 : Int32) (s1 : SS) (H : Heap) (locs : List Loc) (ls : Array Slot), lv_has ls 3 [(0, .ref (ad 0)), (1, .int x1), (2, .int x2)] → va_P D ZCL (zw Om Nm cA ad s1) H → va_S A s.heap H locs → f_X12_worthOfCurved_c9 n9 x1 x2 s1 = some (rr, sr) → W p l e (zrm 1) s m args below meth c H locs 0 0 (MQ below (zQc Om Nm cA ad D A (some (.long rr)) sr) args s 0 0 A) (F0 m 9 ls []) := by
    intro n9
    induction n9 with
    | zero =>
      intro x1 x2 s1 H locs ls hl hP hS hf
      rw [f_X12_worthOfCurved_c9] at hf
      cases hf
    | succ n9 ih9 =>
      intro x1 x2 s1 H locs ls hl hP hS hf
      rw [f_X12_worthOfCurved_c9] at hf
      refine lv_iload_n hx hb dX12_worthOfCurved_9 rfl (lv_at hl 2 rfl) ?_
      refine lv_aload_n hx hb dX12_worthOfCurved_10 rfl (lv_at hl 0 rfl) ?_
      refine gf_X12_12 X hP (k := 0) rfl dX12_worthOfCurved_11 ?_
      refine zicmp_ge (tgt := 86) hx hb dX12_worthOfCurved_14 (by decide) hf (fun hf => ?_) (fun hf => ?_)
      · refine lv_lconst (v := 0) hx hb dX12_worthOfCurved_86 (by decide) ?_
        exact zret_l X hP hS hf dX12_worthOfCurved_87
      · refine lv_iload_n hx hb dX12_worthOfCurved_17 rfl (lv_at hl 1 rfl) ?_
        refine lv_iconst (v := 1) hx hb dX12_worthOfCurved_18 (by decide) ?_
        refine lv_iconst (v := 2) hx hb dX12_worthOfCurved_19 (by decide) ?_
        refine lv_iconst (v := 1) hx hb dX12_worthOfCurved_20 (by decide) ?_
        refine lv_iload_n hx hb dX12_worthOfCurved_21 rfl (lv_at hl 2 rfl) ?_
        refine lv_iadd hx hb dX12_worthOfCurved_22 ?_
        obtain ⟨r1, s2, h3, hf⟩ := zbd_some hf
        refine zcallS X hP hS hl.1 (As := [.int ((1 : Int32) + x2)]) (rest := [.int 2, .int 1, .int x1]) (cn_X12_tens h3) cw_X12_tens ml_X12_15 (by decide) rfl rfl (Nat.le_of_ble_eq_true rfl) dX12_worthOfCurved_23 (fun H locs hP hS => ?_)
        refine lv_imul hx hb dX12_worthOfCurved_26 ?_
        refine lv_iadd hx hb dX12_worthOfCurved_27 ?_
        refine zicmp_ne (tgt := 40) hx hb dX12_worthOfCurved_28 (by decide) hf (fun hf => ?_) (fun hf => ?_)
        · refine lv_iload_n hx hb dX12_worthOfCurved_40 rfl (lv_at hl 1 rfl) ?_
          refine lv_iconst (v := 3) hx hb dX12_worthOfCurved_41 (by decide) ?_
          refine lv_iconst (v := 1) hx hb dX12_worthOfCurved_42 (by decide) ?_
          refine lv_iload_n hx hb dX12_worthOfCurved_43 rfl (lv_at hl 2 rfl) ?_
          refine lv_iadd hx hb dX12_worthOfCurved_44 ?_
          obtain ⟨r4, s5, h6, hf⟩ := zbd_some hf
          refine zcallS X hP hS hl.1 (As := [.int ((1 : Int32) + x2)]) (rest := [.int 3, .int x1]) (cn_X12_tens h6) cw_X12_tens ml_X12_15 (by decide) rfl rfl (Nat.le_of_ble_eq_true rfl) dX12_worthOfCurved_45 (fun H locs hP hS => ?_)
          refine lv_imul hx hb dX12_worthOfCurved_48 ?_
          refine zicmp_ne (tgt := 80) hx hb dX12_worthOfCurved_49 (by decide) hf (fun hf => ?_) (fun hf => ?_)
          · refine lv_iinc (v := (x2 + 1)) (lv' := [(2, .int (x2 + 1)), (0, .ref (ad 0)), (1, .int x1)]) hx hb dX12_worthOfCurved_80 hl (k := 2) rfl rfl (by decide) rfl (fun ls hl => ?_)
            refine lv_goto (tgt := 9) hx hb dX12_worthOfCurved_83 (by decide) ?_
            exact ih9 x1 (x2 + 1) s5 _ _ _ (lv_sub hl [1, 2, 0] rfl) hP hS hf
          · refine zldc2 X co_X12_35 dX12_worthOfCurved_52 ?_
            refine zldc2 X co_X12_35 dX12_worthOfCurved_55 ?_
            refine lv_aload_n hx hb dX12_worthOfCurved_58 rfl (lv_at hl 0 rfl) ?_
            refine gf_X12_37 X hP (k := 0) (q := 3) rfl dX12_worthOfCurved_59 rfl ?_
            refine lv_iload_n hx hb dX12_worthOfCurved_62 rfl (lv_at hl 2 rfl) ?_
            obtain ⟨g7, hf⟩ := zgd hf
            refine zald_i X hP (k := 3) (n := 3) (rs := []) rfl g7 dX12_worthOfCurved_63 ?_
            refine lv_i2l hx hb dX12_worthOfCurved_64 rfl ?_
            refine lv_lmul hx hb dX12_worthOfCurved_65 ?_
            refine lv_lsub hx hb dX12_worthOfCurved_66 ?_
            refine zldc2 X co_X12_40 dX12_worthOfCurved_67 ?_
            refine lv_aload_n hx hb dX12_worthOfCurved_70 rfl (lv_at hl 0 rfl) ?_
            refine gf_X12_32 X hP (k := 0) (q := 2) rfl dX12_worthOfCurved_71 rfl ?_
            refine lv_iload_n hx hb dX12_worthOfCurved_74 rfl (lv_at hl 2 rfl) ?_
            obtain ⟨g8, hf⟩ := zgd hf
            refine zald_i X hP (k := 2) (n := 3) (rs := []) rfl g8 dX12_worthOfCurved_75 ?_
            refine lv_i2l hx hb dX12_worthOfCurved_76 rfl ?_
            refine lv_lmul hx hb dX12_worthOfCurved_77 ?_
            refine lv_lsub hx hb dX12_worthOfCurved_78 ?_
            exact zret_l X hP hS hf dX12_worthOfCurved_79
        · refine lv_aload_n hx hb dX12_worthOfCurved_31 rfl (lv_at hl 0 rfl) ?_
          refine gf_X12_32 X hP (k := 0) (q := 2) rfl dX12_worthOfCurved_32 rfl ?_
          refine lv_iload_n hx hb dX12_worthOfCurved_35 rfl (lv_at hl 2 rfl) ?_
          obtain ⟨g9, hf⟩ := zgd hf
          refine zald_i X hP (k := 2) (n := 3) (rs := []) rfl g9 dX12_worthOfCurved_36 ?_
          refine lv_ineg hx hb dX12_worthOfCurved_37 ?_
          refine lv_i2l hx hb dX12_worthOfCurved_38 rfl ?_
          exact zret_l X hP hS hf dX12_worthOfCurved_39
  rw [f_X12_worthOfCurved] at hf
  refine lv_iload_n hx hb dX12_worthOfCurved_0 rfl (lv_at hl 1 rfl) ?_
  refine lv_iconst (v := 3) hx hb dX12_worthOfCurved_1 (by decide) ?_
  refine zicmp_ne (tgt := 7) hx hb dX12_worthOfCurved_2 (by decide) hf (fun hf => ?_) (fun hf => ?_)
  · refine lv_iconst (v := 0) hx hb dX12_worthOfCurved_7 (by decide) ?_
    refine lv_istore_n (lv' := [(2, .int 0), (0, .ref (ad 0)), (1, .int x1)]) hx hb dX12_worthOfCurved_8 rfl hl (by decide) rfl (fun ls hl => ?_)
    exact hc_9 ZF x1 0 s0 _ _ _ (lv_sub hl [1, 2, 0] rfl) hP hS hf
  · refine lv_lconst (v := 1) hx hb dX12_worthOfCurved_5 (by decide) ?_
    exact zret_l X hP hS hf dX12_worthOfCurved_6
theorem dX12_worthBy_0 : decode cX12_worthBy 0 = .ok (.iload_n 1, 1) := by decide +kernel
theorem dX12_worthBy_1 : decode cX12_worthBy 1 = .ok (.invokestatic 42, 3) := by decide +kernel
theorem dX12_worthBy_4 : decode cX12_worthBy 4 = .ok (.aload_n 0, 1) := by decide +kernel
theorem dX12_worthBy_5 : decode cX12_worthBy 5 = .ok (.getfield 27, 3) := by decide +kernel
theorem dX12_worthBy_8 : decode cX12_worthBy 8 = .ok (.if_icmp .eq 5, 3) := by decide +kernel
theorem dX12_worthBy_11 : decode cX12_worthBy 11 = .ok (.lconst 0, 1) := by decide +kernel
theorem dX12_worthBy_12 : decode cX12_worthBy 12 = .ok (.lreturn, 1) := by decide +kernel
theorem dX12_worthBy_13 : decode cX12_worthBy 13 = .ok (.aload_n 0, 1) := by decide +kernel
theorem dX12_worthBy_14 : decode cX12_worthBy 14 = .ok (.getfield 3, 3) := by decide +kernel
theorem dX12_worthBy_17 : decode cX12_worthBy 17 = .ok (.iconst 2, 1) := by decide +kernel
theorem dX12_worthBy_18 : decode cX12_worthBy 18 = .ok (.if_icmp .ge 24, 3) := by decide +kernel
theorem dX12_worthBy_21 : decode cX12_worthBy 21 = .ok (.aload_n 0, 1) := by decide +kernel
theorem dX12_worthBy_22 : decode cX12_worthBy 22 = .ok (.getfield 3, 3) := by decide +kernel
theorem dX12_worthBy_25 : decode cX12_worthBy 25 = .ok (.ifCond .ne 11, 3) := by decide +kernel
theorem dX12_worthBy_28 : decode cX12_worthBy 28 = .ok (.aload_n 0, 1) := by decide +kernel
theorem dX12_worthBy_29 : decode cX12_worthBy 29 = .ok (.iload_n 1, 1) := by decide +kernel
theorem dX12_worthBy_30 : decode cX12_worthBy 30 = .ok (.invokevirtual 45, 3) := by decide +kernel
theorem dX12_worthBy_33 : decode cX12_worthBy 33 = .ok (.goto 8, 3) := by decide +kernel
theorem dX12_worthBy_36 : decode cX12_worthBy 36 = .ok (.aload_n 0, 1) := by decide +kernel
theorem dX12_worthBy_37 : decode cX12_worthBy 37 = .ok (.iload_n 1, 1) := by decide +kernel
theorem dX12_worthBy_38 : decode cX12_worthBy 38 = .ok (.invokevirtual 49, 3) := by decide +kernel
theorem dX12_worthBy_41 : decode cX12_worthBy 41 = .ok (.lreturn, 1) := by decide +kernel
theorem dX12_worthBy_42 : decode cX12_worthBy 42 = .ok (.iload_n 1, 1) := by decide +kernel
theorem dX12_worthBy_43 : decode cX12_worthBy 43 = .ok (.iconst 5, 1) := by decide +kernel
theorem dX12_worthBy_44 : decode cX12_worthBy 44 = .ok (.if_icmp .ne 7, 3) := by decide +kernel
theorem dX12_worthBy_47 : decode cX12_worthBy 47 = .ok (.lconst 1, 1) := by decide +kernel
theorem dX12_worthBy_48 : decode cX12_worthBy 48 = .ok (.goto 40, 3) := by decide +kernel
theorem dX12_worthBy_51 : decode cX12_worthBy 51 = .ok (.iload_n 1, 1) := by decide +kernel
theorem dX12_worthBy_52 : decode cX12_worthBy 52 = .ok (.bipush 32, 2) := by decide +kernel
theorem dX12_worthBy_54 : decode cX12_worthBy 54 = .ok (.if_icmp .ne 9, 3) := by decide +kernel
theorem dX12_worthBy_57 : decode cX12_worthBy 57 = .ok (.ldc2_w 40, 3) := by decide +kernel
theorem dX12_worthBy_60 : decode cX12_worthBy 60 = .ok (.goto 28, 3) := by decide +kernel
theorem dX12_worthBy_63 : decode cX12_worthBy 63 = .ok (.iload_n 1, 1) := by decide +kernel
theorem dX12_worthBy_64 : decode cX12_worthBy 64 = .ok (.bipush 41, 2) := by decide +kernel
theorem dX12_worthBy_66 : decode cX12_worthBy 66 = .ok (.if_icmp .ne 9, 3) := by decide +kernel
theorem dX12_worthBy_69 : decode cX12_worthBy 69 = .ok (.ldc2_w 52, 3) := by decide +kernel
theorem dX12_worthBy_72 : decode cX12_worthBy 72 = .ok (.goto 16, 3) := by decide +kernel
theorem dX12_worthBy_75 : decode cX12_worthBy 75 = .ok (.iload_n 1, 1) := by decide +kernel
theorem dX12_worthBy_76 : decode cX12_worthBy 76 = .ok (.bipush 50, 2) := by decide +kernel
theorem dX12_worthBy_78 : decode cX12_worthBy 78 = .ok (.if_icmp .ne 9, 3) := by decide +kernel
theorem dX12_worthBy_81 : decode cX12_worthBy 81 = .ok (.ldc2_w 54, 3) := by decide +kernel
theorem dX12_worthBy_84 : decode cX12_worthBy 84 = .ok (.goto 4, 3) := by decide +kernel
theorem dX12_worthBy_87 : decode cX12_worthBy 87 = .ok (.lconst 0, 1) := by decide +kernel
theorem dX12_worthBy_88 : decode cX12_worthBy 88 = .ok (.lreturn, 1) := by decide +kernel
set_option maxHeartbeats 4000000 in
set_option maxRecDepth 100000 in
theorem cn_X12_worthBy {l : Launch} {cA : Nat → ClassId} {ad : Nat → Nat} {D : va_G} {E : Nat → Nat} {A : Nat → Prop} {x1 : Int32} {s0 sr : SS} {rr : Int64} (hf : f_X12_worthBy x1 s0 = some (rr, sr)) : zCon Om Nm cA ad D E l yX12_worthBy cX12_worthBy 2 (some .long) 3 A [.ref (ad 0), .int x1] s0 (some (.long rr)) sr := by
  refine zstart (own := RX12) hOm (by decide) rfl (Nat.le_of_ble_eq_true rfl) ?_
  intro p e s m args below meth c X hP ls hl
  have hx := X.1
  have hb := X.2.1
  have hl : lv_has ls 2 [(0, .ref (ad 0)), (1, .int x1)] := hl
  have hS : va_S A s.heap s.heap [] := va_S.rf
  rw [f_X12_worthBy] at hf
  refine lv_iload_n hx hb dX12_worthBy_0 rfl (lv_at hl 1 rfl) ?_
  obtain ⟨r1, s2, h3, hf⟩ := zbd_some hf
  refine zcallS X hP hS hl.1 (As := [.int x1]) (rest := []) (cn_X12_sizeOf h3) cw_X12_sizeOf ml_X12_42 (by decide) rfl rfl (Nat.le_of_ble_eq_true rfl) dX12_worthBy_1 (fun H locs hP hS => ?_)
  refine lv_aload_n hx hb dX12_worthBy_4 rfl (lv_at hl 0 rfl) ?_
  refine gf_X12_27 X hP (k := 0) rfl dX12_worthBy_5 ?_
  refine zicmp_eq (tgt := 13) hx hb dX12_worthBy_8 (by decide) hf (fun hf => ?_) (fun hf => ?_)
  · refine lv_aload_n hx hb dX12_worthBy_13 rfl (lv_at hl 0 rfl) ?_
    refine gf_X12_3 X hP (k := 0) rfl dX12_worthBy_14 ?_
    refine lv_iconst (v := 2) hx hb dX12_worthBy_17 (by decide) ?_
    refine zicmp_ge (tgt := 42) hx hb dX12_worthBy_18 (by decide) hf (fun hf => ?_) (fun hf => ?_)
    · refine lv_iload_n hx hb dX12_worthBy_42 rfl (lv_at hl 1 rfl) ?_
      refine lv_iconst (v := 5) hx hb dX12_worthBy_43 (by decide) ?_
      refine zicmp_ne (tgt := 51) hx hb dX12_worthBy_44 (by decide) hf (fun hf => ?_) (fun hf => ?_)
      · refine lv_iload_n hx hb dX12_worthBy_51 rfl (lv_at hl 1 rfl) ?_
        refine lv_bipush (v := 32) hx hb dX12_worthBy_52 (by decide) ?_
        refine zicmp_ne (tgt := 63) hx hb dX12_worthBy_54 (by decide) hf (fun hf => ?_) (fun hf => ?_)
        · refine lv_iload_n hx hb dX12_worthBy_63 rfl (lv_at hl 1 rfl) ?_
          refine lv_bipush (v := 41) hx hb dX12_worthBy_64 (by decide) ?_
          refine zicmp_ne (tgt := 75) hx hb dX12_worthBy_66 (by decide) hf (fun hf => ?_) (fun hf => ?_)
          · refine lv_iload_n hx hb dX12_worthBy_75 rfl (lv_at hl 1 rfl) ?_
            refine lv_bipush (v := 50) hx hb dX12_worthBy_76 (by decide) ?_
            refine zicmp_ne (tgt := 87) hx hb dX12_worthBy_78 (by decide) hf (fun hf => ?_) (fun hf => ?_)
            · refine lv_lconst (v := 0) hx hb dX12_worthBy_87 (by decide) ?_
              exact zret_l X hP hS hf dX12_worthBy_88
            · refine zldc2 X co_X12_54 dX12_worthBy_81 ?_
              refine lv_goto (tgt := 88) hx hb dX12_worthBy_84 (by decide) ?_
              exact zret_l X hP hS hf dX12_worthBy_88
          · refine zldc2 X co_X12_52 dX12_worthBy_69 ?_
            refine lv_goto (tgt := 88) hx hb dX12_worthBy_72 (by decide) ?_
            exact zret_l X hP hS hf dX12_worthBy_88
        · refine zldc2 X co_X12_40 dX12_worthBy_57 ?_
          refine lv_goto (tgt := 88) hx hb dX12_worthBy_60 (by decide) ?_
          exact zret_l X hP hS hf dX12_worthBy_88
      · refine lv_lconst (v := 1) hx hb dX12_worthBy_47 (by decide) ?_
        refine lv_goto (tgt := 88) hx hb dX12_worthBy_48 (by decide) ?_
        exact zret_l X hP hS hf dX12_worthBy_88
    · refine lv_aload_n hx hb dX12_worthBy_21 rfl (lv_at hl 0 rfl) ?_
      refine gf_X12_3 X hP (k := 0) rfl dX12_worthBy_22 ?_
      refine zif_ne (tgt := 36) hx hb dX12_worthBy_25 (by decide) hf (fun hf => ?_) (fun hf => ?_)
      · refine lv_aload_n hx hb dX12_worthBy_36 rfl (lv_at hl 0 rfl) ?_
        refine lv_iload_n hx hb dX12_worthBy_37 rfl (lv_at hl 1 rfl) ?_
        obtain ⟨r4, s5, h6, hf⟩ := zbd_some hf
        refine zcallV X hP hS hl.1 (k := 0) (As := [.int x1]) (rest := []) (cn_X12_worthOfCurved h6) cw_X12_worthOfCurved zp_12 rfl (by decide) rfl ml_X12_49 (by decide) rfl rfl (Nat.le_of_ble_eq_true rfl) dX12_worthBy_38 (fun H locs hP hS => ?_)
        exact zret_l X hP hS hf dX12_worthBy_41
      · refine lv_aload_n hx hb dX12_worthBy_28 rfl (lv_at hl 0 rfl) ?_
        refine lv_iload_n hx hb dX12_worthBy_29 rfl (lv_at hl 1 rfl) ?_
        obtain ⟨r7, s8, h9, hf⟩ := zbd_some hf
        refine zcallV X hP hS hl.1 (k := 0) (As := [.int x1]) (rest := []) (cn_X12_worthOfProduct h9) cw_X12_worthOfProduct zp_12 rfl (by decide) rfl ml_X12_45 (by decide) rfl rfl (Nat.le_of_ble_eq_true rfl) dX12_worthBy_30 (fun H locs hP hS => ?_)
        refine lv_goto (tgt := 41) hx hb dX12_worthBy_33 (by decide) ?_
        exact zret_l X hP hS hf dX12_worthBy_41
  · refine lv_lconst (v := 0) hx hb dX12_worthBy_11 (by decide) ?_
    exact zret_l X hP hS hf dX12_worthBy_12
theorem dX12_carry_0 : decode cX12_carry 0 = .ok (.iconst 0, 1) := by decide +kernel
theorem dX12_carry_1 : decode cX12_carry 1 = .ok (.istore_n 2, 1) := by decide +kernel
theorem dX12_carry_2 : decode cX12_carry 2 = .ok (.iload_n 2, 1) := by decide +kernel
theorem dX12_carry_3 : decode cX12_carry 3 = .ok (.aload_n 0, 1) := by decide +kernel
theorem dX12_carry_4 : decode cX12_carry 4 = .ok (.getfield 89, 3) := by decide +kernel
theorem dX12_carry_7 : decode cX12_carry 7 = .ok (.if_icmp .ge 134, 3) := by decide +kernel
theorem dX12_carry_10 : decode cX12_carry 10 = .ok (.iconst 0, 1) := by decide +kernel
theorem dX12_carry_11 : decode cX12_carry 11 = .ok (.istore_n 3, 1) := by decide +kernel
theorem dX12_carry_12 : decode cX12_carry 12 = .ok (.iload_n 3, 1) := by decide +kernel
theorem dX12_carry_13 : decode cX12_carry 13 = .ok (.aload_n 0, 1) := by decide +kernel
theorem dX12_carry_14 : decode cX12_carry 14 = .ok (.getfield 56, 3) := by decide +kernel
theorem dX12_carry_17 : decode cX12_carry 17 = .ok (.if_icmp .ge 22, 3) := by decide +kernel
theorem dX12_carry_20 : decode cX12_carry 20 = .ok (.aload_n 0, 1) := by decide +kernel
theorem dX12_carry_21 : decode cX12_carry 21 = .ok (.getfield 92, 3) := by decide +kernel
theorem dX12_carry_24 : decode cX12_carry 24 = .ok (.sipush 462, 3) := by decide +kernel
theorem dX12_carry_27 : decode cX12_carry 27 = .ok (.iload_n 2, 1) := by decide +kernel
theorem dX12_carry_28 : decode cX12_carry 28 = .ok (.imul, 1) := by decide +kernel
theorem dX12_carry_29 : decode cX12_carry 29 = .ok (.iload_n 3, 1) := by decide +kernel
theorem dX12_carry_30 : decode cX12_carry 30 = .ok (.iadd, 1) := by decide +kernel
theorem dX12_carry_31 : decode cX12_carry 31 = .ok (.lconst 0, 1) := by decide +kernel
theorem dX12_carry_32 : decode cX12_carry 32 = .ok (.lastore, 1) := by decide +kernel
theorem dX12_carry_33 : decode cX12_carry 33 = .ok (.iinc 3 1, 3) := by decide +kernel
theorem dX12_carry_36 : decode cX12_carry 36 = .ok (.goto (-24), 3) := by decide +kernel
theorem dX12_carry_39 : decode cX12_carry 39 = .ok (.iconst 0, 1) := by decide +kernel
theorem dX12_carry_40 : decode cX12_carry 40 = .ok (.istore_n 3, 1) := by decide +kernel
theorem dX12_carry_41 : decode cX12_carry 41 = .ok (.iload_n 3, 1) := by decide +kernel
theorem dX12_carry_42 : decode cX12_carry 42 = .ok (.iload_n 1, 1) := by decide +kernel
theorem dX12_carry_43 : decode cX12_carry 43 = .ok (.if_icmp .ge 52, 3) := by decide +kernel
theorem dX12_carry_46 : decode cX12_carry 46 = .ok (.aload_n 0, 1) := by decide +kernel
theorem dX12_carry_47 : decode cX12_carry 47 = .ok (.getfield 65, 3) := by decide +kernel
theorem dX12_carry_50 : decode cX12_carry 50 = .ok (.aload_n 0, 1) := by decide +kernel
theorem dX12_carry_51 : decode cX12_carry 51 = .ok (.getfield 59, 3) := by decide +kernel
theorem dX12_carry_54 : decode cX12_carry 54 = .ok (.iload_n 3, 1) := by decide +kernel
theorem dX12_carry_55 : decode cX12_carry 55 = .ok (.iaload, 1) := by decide +kernel
theorem dX12_carry_56 : decode cX12_carry 56 = .ok (.iaload, 1) := by decide +kernel
theorem dX12_carry_57 : decode cX12_carry 57 = .ok (.istore 4, 2) := by decide +kernel
theorem dX12_carry_59 : decode cX12_carry 59 = .ok (.iload 4, 2) := by decide +kernel
theorem dX12_carry_61 : decode cX12_carry 61 = .ok (.ifCond .lt 28, 3) := by decide +kernel
theorem dX12_carry_64 : decode cX12_carry 64 = .ok (.aload_n 0, 1) := by decide +kernel
theorem dX12_carry_65 : decode cX12_carry 65 = .ok (.getfield 92, 3) := by decide +kernel
theorem dX12_carry_68 : decode cX12_carry 68 = .ok (.sipush 462, 3) := by decide +kernel
theorem dX12_carry_71 : decode cX12_carry 71 = .ok (.iload_n 2, 1) := by decide +kernel
theorem dX12_carry_72 : decode cX12_carry 72 = .ok (.imul, 1) := by decide +kernel
theorem dX12_carry_73 : decode cX12_carry 73 = .ok (.iload 4, 2) := by decide +kernel
theorem dX12_carry_75 : decode cX12_carry 75 = .ok (.iadd, 1) := by decide +kernel
theorem dX12_carry_76 : decode cX12_carry 76 = .ok (.aload_n 0, 1) := by decide +kernel
theorem dX12_carry_77 : decode cX12_carry 77 = .ok (.getfield 95, 3) := by decide +kernel
theorem dX12_carry_80 : decode cX12_carry 80 = .ok (.sipush 462, 3) := by decide +kernel
theorem dX12_carry_83 : decode cX12_carry 83 = .ok (.iload_n 2, 1) := by decide +kernel
theorem dX12_carry_84 : decode cX12_carry 84 = .ok (.imul, 1) := by decide +kernel
theorem dX12_carry_85 : decode cX12_carry 85 = .ok (.iload_n 3, 1) := by decide +kernel
theorem dX12_carry_86 : decode cX12_carry 86 = .ok (.iadd, 1) := by decide +kernel
theorem dX12_carry_87 : decode cX12_carry 87 = .ok (.laload, 1) := by decide +kernel
theorem dX12_carry_88 : decode cX12_carry 88 = .ok (.lastore, 1) := by decide +kernel
theorem dX12_carry_89 : decode cX12_carry 89 = .ok (.iinc 3 1, 3) := by decide +kernel
theorem dX12_carry_92 : decode cX12_carry 92 = .ok (.goto (-51), 3) := by decide +kernel
theorem dX12_carry_95 : decode cX12_carry 95 = .ok (.iconst 0, 1) := by decide +kernel
theorem dX12_carry_96 : decode cX12_carry 96 = .ok (.istore_n 3, 1) := by decide +kernel
theorem dX12_carry_97 : decode cX12_carry 97 = .ok (.iload_n 3, 1) := by decide +kernel
theorem dX12_carry_98 : decode cX12_carry 98 = .ok (.aload_n 0, 1) := by decide +kernel
theorem dX12_carry_99 : decode cX12_carry 99 = .ok (.getfield 56, 3) := by decide +kernel
theorem dX12_carry_102 : decode cX12_carry 102 = .ok (.if_icmp .ge 33, 3) := by decide +kernel
theorem dX12_carry_105 : decode cX12_carry 105 = .ok (.aload_n 0, 1) := by decide +kernel
theorem dX12_carry_106 : decode cX12_carry 106 = .ok (.getfield 95, 3) := by decide +kernel
theorem dX12_carry_109 : decode cX12_carry 109 = .ok (.sipush 462, 3) := by decide +kernel
theorem dX12_carry_112 : decode cX12_carry 112 = .ok (.iload_n 2, 1) := by decide +kernel
theorem dX12_carry_113 : decode cX12_carry 113 = .ok (.imul, 1) := by decide +kernel
theorem dX12_carry_114 : decode cX12_carry 114 = .ok (.iload_n 3, 1) := by decide +kernel
theorem dX12_carry_115 : decode cX12_carry 115 = .ok (.iadd, 1) := by decide +kernel
theorem dX12_carry_116 : decode cX12_carry 116 = .ok (.aload_n 0, 1) := by decide +kernel
theorem dX12_carry_117 : decode cX12_carry 117 = .ok (.getfield 92, 3) := by decide +kernel
theorem dX12_carry_120 : decode cX12_carry 120 = .ok (.sipush 462, 3) := by decide +kernel
theorem dX12_carry_123 : decode cX12_carry 123 = .ok (.iload_n 2, 1) := by decide +kernel
theorem dX12_carry_124 : decode cX12_carry 124 = .ok (.imul, 1) := by decide +kernel
theorem dX12_carry_125 : decode cX12_carry 125 = .ok (.iload_n 3, 1) := by decide +kernel
theorem dX12_carry_126 : decode cX12_carry 126 = .ok (.iadd, 1) := by decide +kernel
theorem dX12_carry_127 : decode cX12_carry 127 = .ok (.laload, 1) := by decide +kernel
theorem dX12_carry_128 : decode cX12_carry 128 = .ok (.lastore, 1) := by decide +kernel
theorem dX12_carry_129 : decode cX12_carry 129 = .ok (.iinc 3 1, 3) := by decide +kernel
theorem dX12_carry_132 : decode cX12_carry 132 = .ok (.goto (-35), 3) := by decide +kernel
theorem dX12_carry_135 : decode cX12_carry 135 = .ok (.iinc 2 1, 3) := by decide +kernel
theorem dX12_carry_138 : decode cX12_carry 138 = .ok (.goto (-136), 3) := by decide +kernel
theorem dX12_carry_141 : decode cX12_carry 141 = .ok (.return_, 1) := by decide +kernel
set_option maxHeartbeats 4000000 in
set_option maxRecDepth 100000 in
theorem cn_X12_carry {l : Launch} {cA : Nat → ClassId} {ad : Nat → Nat} {D : va_G} {E : Nat → Nat} {A : Nat → Prop} {x1 : Int32} {s0 sr : SS} {rr : Unit} (hf : f_X12_carry x1 s0 = some (rr, sr)) : zCon Om Nm cA ad D E l yX12_carry cX12_carry 5 none 0 A [.ref (ad 0), .int x1] s0 none sr := by
  refine zstart (own := RX12) hOm (by decide) rfl (Nat.le_of_ble_eq_true rfl) ?_
  intro p e s m args below meth c X hP ls hl
  have hx := X.1
  have hb := X.2.1
  have hl : lv_has ls 5 [(0, .ref (ad 0)), (1, .int x1)] := hl
  have hS : va_S A s.heap s.heap [] := va_S.rf
  have hc_2 : ∀ (n2 : Nat) (x1 : Int32) (x2 : Int32) (s1 : SS) (H : Heap) (locs : List Loc) (ls : Array Slot), lv_has ls 5 [(0, .ref (ad 0)), (1, .int x1), (2, .int x2)] → va_P D ZCL (zw Om Nm cA ad s1) H → va_S A s.heap H locs → f_X12_carry_c2 n2 x1 x2 s1 = some (rr, sr) → W p l e (zrm 0) s m args below meth c H locs 0 0 (MQ below (zQc Om Nm cA ad D A none sr) args s 0 0 A) (F0 m 2 ls []) := by
    intro n2
    induction n2 with
    | zero =>
      intro x1 x2 s1 H locs ls hl hP hS hf
      rw [f_X12_carry_c2] at hf
      cases hf
    | succ n2 ih2 =>
      have hc_12 : ∀ (n12 : Nat) (x1 : Int32) (x2 : Int32) (x3 : Int32) (s1 : SS) (H : Heap) (locs : List Loc) (ls : Array Slot), lv_has ls 5 [(0, .ref (ad 0)), (1, .int x1), (2, .int x2), (3, .int x3)] → va_P D ZCL (zw Om Nm cA ad s1) H → va_S A s.heap H locs → f_X12_carry_c12 (f_X12_carry_c2 n2) n12 x1 x2 x3 s1 = some (rr, sr) → W p l e (zrm 0) s m args below meth c H locs 0 0 (MQ below (zQc Om Nm cA ad D A none sr) args s 0 0 A) (F0 m 12 ls []) := by
        intro n12
        induction n12 with
        | zero =>
          intro x1 x2 x3 s1 H locs ls hl hP hS hf
          rw [f_X12_carry_c12] at hf
          cases hf
        | succ n12 ih12 =>
          have hc_41 : ∀ (n41 : Nat) (x1 : Int32) (x2 : Int32) (x3 : Int32) (s1 : SS) (H : Heap) (locs : List Loc) (ls : Array Slot), lv_has ls 5 [(0, .ref (ad 0)), (1, .int x1), (2, .int x2), (3, .int x3)] → va_P D ZCL (zw Om Nm cA ad s1) H → va_S A s.heap H locs → f_X12_carry_c41 (f_X12_carry_c2 n2) n41 x1 x2 x3 s1 = some (rr, sr) → W p l e (zrm 0) s m args below meth c H locs 0 0 (MQ below (zQc Om Nm cA ad D A none sr) args s 0 0 A) (F0 m 41 ls []) := by
            intro n41
            induction n41 with
            | zero =>
              intro x1 x2 x3 s1 H locs ls hl hP hS hf
              rw [f_X12_carry_c41] at hf
              cases hf
            | succ n41 ih41 =>
              have hc_97 : ∀ (n97 : Nat) (x1 : Int32) (x2 : Int32) (x3 : Int32) (s1 : SS) (H : Heap) (locs : List Loc) (ls : Array Slot), lv_has ls 5 [(0, .ref (ad 0)), (1, .int x1), (2, .int x2), (3, .int x3)] → va_P D ZCL (zw Om Nm cA ad s1) H → va_S A s.heap H locs → f_X12_carry_c97 (f_X12_carry_c2 n2) n97 x1 x2 x3 s1 = some (rr, sr) → W p l e (zrm 0) s m args below meth c H locs 0 0 (MQ below (zQc Om Nm cA ad D A none sr) args s 0 0 A) (F0 m 97 ls []) := by
                intro n97
                induction n97 with
                | zero =>
                  intro x1 x2 x3 s1 H locs ls hl hP hS hf
                  rw [f_X12_carry_c97] at hf
                  cases hf
                | succ n97 ih97 =>
                  intro x1 x2 x3 s1 H locs ls hl hP hS hf
                  rw [f_X12_carry_c97] at hf
                  refine lv_iload_n hx hb dX12_carry_97 rfl (lv_at hl 3 rfl) ?_
                  refine lv_aload_n hx hb dX12_carry_98 rfl (lv_at hl 0 rfl) ?_
                  refine gf_X12_56 X hP (k := 0) rfl dX12_carry_99 ?_
                  refine zicmp_ge (tgt := 135) hx hb dX12_carry_102 (by decide) hf (fun hf => ?_) (fun hf => ?_)
                  · refine lv_iinc (v := (x2 + 1)) (lv' := [(2, .int (x2 + 1)), (0, .ref (ad 0)), (1, .int x1), (3, .int x3)]) hx hb dX12_carry_135 hl (k := 2) rfl rfl (by decide) rfl (fun ls hl => ?_)
                    refine lv_goto (tgt := 2) hx hb dX12_carry_138 (by decide) ?_
                    exact ih2 x1 (x2 + 1) s1 _ _ _ (lv_sub hl [1, 2, 0] rfl) hP hS hf
                  · refine lv_aload_n hx hb dX12_carry_105 rfl (lv_at hl 0 rfl) ?_
                    refine gf_X12_95 X hP (k := 0) (q := 10) rfl dX12_carry_106 rfl ?_
                    refine lv_sipush (v := 462) hx hb dX12_carry_109 (by decide) ?_
                    refine lv_iload_n hx hb dX12_carry_112 rfl (lv_at hl 2 rfl) ?_
                    refine lv_imul hx hb dX12_carry_113 ?_
                    refine lv_iload_n hx hb dX12_carry_114 rfl (lv_at hl 3 rfl) ?_
                    refine lv_iadd hx hb dX12_carry_115 ?_
                    refine lv_aload_n hx hb dX12_carry_116 rfl (lv_at hl 0 rfl) ?_
                    refine gf_X12_92 X hP (k := 0) (q := 11) rfl dX12_carry_117 rfl ?_
                    refine lv_sipush (v := 462) hx hb dX12_carry_120 (by decide) ?_
                    refine lv_iload_n hx hb dX12_carry_123 rfl (lv_at hl 2 rfl) ?_
                    refine lv_imul hx hb dX12_carry_124 ?_
                    refine lv_iload_n hx hb dX12_carry_125 rfl (lv_at hl 3 rfl) ?_
                    refine lv_iadd hx hb dX12_carry_126 ?_
                    obtain ⟨g1, hf⟩ := zgd hf
                    refine zald_l X hP (k := 11) (n := 3696) (rs := []) rfl g1 dX12_carry_127 ?_
                    obtain ⟨g2, hf⟩ := zgd hf
                    refine zast_l X hP hS (k := 10) (n := 3696) (rs := []) rfl g2 dX12_carry_128 (fun H locs hP hS => ?_)
                    refine lv_iinc (v := (x3 + 1)) (lv' := [(3, .int (x3 + 1)), (0, .ref (ad 0)), (1, .int x1), (2, .int x2)]) hx hb dX12_carry_129 hl (k := 3) rfl rfl (by decide) rfl (fun ls hl => ?_)
                    refine lv_goto (tgt := 97) hx hb dX12_carry_132 (by decide) ?_
                    exact ih97 x1 x2 (x3 + 1) (zSL s1 10 ((((462 : Int32) * x2) + x3)).toNatClampNeg (s1.2 11 ((((462 : Int32) * x2) + x3)).toNatClampNeg)) _ _ _ (lv_sub hl [1, 2, 3, 0] rfl) hP hS hf
              have hc_89 : ∀ (x1 : Int32) (x2 : Int32) (x3 : Int32) (s1 : SS) (H : Heap) (locs : List Loc) (ls : Array Slot), lv_has ls 5 [(0, .ref (ad 0)), (1, .int x1), (2, .int x2), (3, .int x3)] → va_P D ZCL (zw Om Nm cA ad s1) H → va_S A s.heap H locs → f_X12_carry_c89 (f_X12_carry_c41 (f_X12_carry_c2 n2) n41) (f_X12_carry_c2 n2) x1 x2 x3 s1 = some (rr, sr) → W p l e (zrm 0) s m args below meth c H locs 0 0 (MQ below (zQc Om Nm cA ad D A none sr) args s 0 0 A) (F0 m 89 ls []) := by
                intro x1 x2 x3 s1 H locs ls hl hP hS hf
                rw [f_X12_carry_c89] at hf
                refine lv_iinc (v := (x3 + 1)) (lv' := [(3, .int (x3 + 1)), (0, .ref (ad 0)), (1, .int x1), (2, .int x2)]) hx hb dX12_carry_89 hl (k := 3) rfl rfl (by decide) rfl (fun ls hl => ?_)
                refine lv_goto (tgt := 41) hx hb dX12_carry_92 (by decide) ?_
                exact ih41 x1 x2 (x3 + 1) s1 _ _ _ (lv_sub hl [1, 2, 3, 0] rfl) hP hS hf
              intro x1 x2 x3 s1 H locs ls hl hP hS hf
              rw [f_X12_carry_c41] at hf
              refine lv_iload_n hx hb dX12_carry_41 rfl (lv_at hl 3 rfl) ?_
              refine lv_iload_n hx hb dX12_carry_42 rfl (lv_at hl 1 rfl) ?_
              refine zicmp_ge (tgt := 95) hx hb dX12_carry_43 (by decide) hf (fun hf => ?_) (fun hf => ?_)
              · refine lv_iconst (v := 0) hx hb dX12_carry_95 (by decide) ?_
                refine lv_istore_n (lv' := [(3, .int 0), (0, .ref (ad 0)), (1, .int x1), (2, .int x2)]) hx hb dX12_carry_96 rfl hl (by decide) rfl (fun ls hl => ?_)
                exact hc_97 ZF x1 x2 0 s1 _ _ _ (lv_sub hl [1, 2, 3, 0] rfl) hP hS hf
              · refine lv_aload_n hx hb dX12_carry_46 rfl (lv_at hl 0 rfl) ?_
                refine gf_X12_65 X hP (k := 0) (q := 7) rfl dX12_carry_47 rfl ?_
                refine lv_aload_n hx hb dX12_carry_50 rfl (lv_at hl 0 rfl) ?_
                refine gf_X12_59 X hP (k := 0) (q := 12) rfl dX12_carry_51 rfl ?_
                refine lv_iload_n hx hb dX12_carry_54 rfl (lv_at hl 3 rfl) ?_
                obtain ⟨g3, hf⟩ := zgd hf
                refine zald_i X hP (k := 12) (n := 462) (rs := []) rfl g3 dX12_carry_55 ?_
                obtain ⟨g4, hf⟩ := zgd hf
                refine zald_i X hP (k := 7) (n := 600000) (rs := []) rfl g4 dX12_carry_56 ?_
                refine lv_istore (lv' := [(4, .int (s1.1 7 ((s1.1 12 (x3).toNatClampNeg)).toNatClampNeg)), (0, .ref (ad 0)), (1, .int x1), (2, .int x2), (3, .int x3)]) hx hb dX12_carry_57 hl (by decide) rfl (fun ls hl => ?_)
                refine lv_iload hx hb dX12_carry_59 (lv_at hl 0 rfl) ?_
                refine zif_lt (tgt := 89) hx hb dX12_carry_61 (by decide) hf (fun hf => ?_) (fun hf => ?_)
                · exact hc_89 x1 x2 x3 s1 _ _ _ (lv_sub hl [1, 2, 3, 4] rfl) hP hS hf
                · refine lv_aload_n hx hb dX12_carry_64 rfl (lv_at hl 1 rfl) ?_
                  refine gf_X12_92 X hP (k := 0) (q := 11) rfl dX12_carry_65 rfl ?_
                  refine lv_sipush (v := 462) hx hb dX12_carry_68 (by decide) ?_
                  refine lv_iload_n hx hb dX12_carry_71 rfl (lv_at hl 3 rfl) ?_
                  refine lv_imul hx hb dX12_carry_72 ?_
                  refine lv_iload hx hb dX12_carry_73 (lv_at hl 0 rfl) ?_
                  refine lv_iadd hx hb dX12_carry_75 ?_
                  refine lv_aload_n hx hb dX12_carry_76 rfl (lv_at hl 1 rfl) ?_
                  refine gf_X12_95 X hP (k := 0) (q := 10) rfl dX12_carry_77 rfl ?_
                  refine lv_sipush (v := 462) hx hb dX12_carry_80 (by decide) ?_
                  refine lv_iload_n hx hb dX12_carry_83 rfl (lv_at hl 3 rfl) ?_
                  refine lv_imul hx hb dX12_carry_84 ?_
                  refine lv_iload_n hx hb dX12_carry_85 rfl (lv_at hl 4 rfl) ?_
                  refine lv_iadd hx hb dX12_carry_86 ?_
                  obtain ⟨g5, hf⟩ := zgd hf
                  refine zald_l X hP (k := 10) (n := 3696) (rs := []) rfl g5 dX12_carry_87 ?_
                  obtain ⟨g6, hf⟩ := zgd hf
                  refine zast_l X hP hS (k := 11) (n := 3696) (rs := []) rfl g6 dX12_carry_88 (fun H locs hP hS => ?_)
                  exact hc_89 x1 x2 x3 (zSL s1 11 ((((462 : Int32) * x2) + (s1.1 7 ((s1.1 12 (x3).toNatClampNeg)).toNatClampNeg))).toNatClampNeg (s1.2 10 ((((462 : Int32) * x2) + x3)).toNatClampNeg)) _ _ _ (lv_sub hl [1, 2, 3, 4] rfl) hP hS hf
          intro x1 x2 x3 s1 H locs ls hl hP hS hf
          rw [f_X12_carry_c12] at hf
          refine lv_iload_n hx hb dX12_carry_12 rfl (lv_at hl 3 rfl) ?_
          refine lv_aload_n hx hb dX12_carry_13 rfl (lv_at hl 0 rfl) ?_
          refine gf_X12_56 X hP (k := 0) rfl dX12_carry_14 ?_
          refine zicmp_ge (tgt := 39) hx hb dX12_carry_17 (by decide) hf (fun hf => ?_) (fun hf => ?_)
          · refine lv_iconst (v := 0) hx hb dX12_carry_39 (by decide) ?_
            refine lv_istore_n (lv' := [(3, .int 0), (0, .ref (ad 0)), (1, .int x1), (2, .int x2)]) hx hb dX12_carry_40 rfl hl (by decide) rfl (fun ls hl => ?_)
            exact hc_41 ZF x1 x2 0 s1 _ _ _ (lv_sub hl [1, 2, 3, 0] rfl) hP hS hf
          · refine lv_aload_n hx hb dX12_carry_20 rfl (lv_at hl 0 rfl) ?_
            refine gf_X12_92 X hP (k := 0) (q := 11) rfl dX12_carry_21 rfl ?_
            refine lv_sipush (v := 462) hx hb dX12_carry_24 (by decide) ?_
            refine lv_iload_n hx hb dX12_carry_27 rfl (lv_at hl 2 rfl) ?_
            refine lv_imul hx hb dX12_carry_28 ?_
            refine lv_iload_n hx hb dX12_carry_29 rfl (lv_at hl 3 rfl) ?_
            refine lv_iadd hx hb dX12_carry_30 ?_
            refine lv_lconst (v := 0) hx hb dX12_carry_31 (by decide) ?_
            obtain ⟨g7, hf⟩ := zgd hf
            refine zast_l X hP hS (k := 11) (n := 3696) (rs := []) rfl g7 dX12_carry_32 (fun H locs hP hS => ?_)
            refine lv_iinc (v := (x3 + 1)) (lv' := [(3, .int (x3 + 1)), (0, .ref (ad 0)), (1, .int x1), (2, .int x2)]) hx hb dX12_carry_33 hl (k := 3) rfl rfl (by decide) rfl (fun ls hl => ?_)
            refine lv_goto (tgt := 12) hx hb dX12_carry_36 (by decide) ?_
            exact ih12 x1 x2 (x3 + 1) (zSL s1 11 ((((462 : Int32) * x2) + x3)).toNatClampNeg 0) _ _ _ (lv_sub hl [1, 2, 3, 0] rfl) hP hS hf
      intro x1 x2 s1 H locs ls hl hP hS hf
      rw [f_X12_carry_c2] at hf
      refine lv_iload_n hx hb dX12_carry_2 rfl (lv_at hl 2 rfl) ?_
      refine lv_aload_n hx hb dX12_carry_3 rfl (lv_at hl 0 rfl) ?_
      refine gf_X12_89 X hP (k := 0) rfl dX12_carry_4 ?_
      refine zicmp_ge (tgt := 141) hx hb dX12_carry_7 (by decide) hf (fun hf => ?_) (fun hf => ?_)
      · exact zret_v X hP hS hf dX12_carry_141
      · refine lv_iconst (v := 0) hx hb dX12_carry_10 (by decide) ?_
        refine lv_istore_n (lv' := [(3, .int 0), (0, .ref (ad 0)), (1, .int x1), (2, .int x2)]) hx hb dX12_carry_11 rfl hl (by decide) rfl (fun ls hl => ?_)
        exact hc_12 ZF x1 x2 0 s1 _ _ _ (lv_sub hl [1, 2, 3, 0] rfl) hP hS hf
  rw [f_X12_carry] at hf
  refine lv_iconst (v := 0) hx hb dX12_carry_0 (by decide) ?_
  refine lv_istore_n (lv' := [(2, .int 0), (0, .ref (ad 0)), (1, .int x1)]) hx hb dX12_carry_1 rfl hl (by decide) rfl (fun ls hl => ?_)
  exact hc_2 ZF x1 0 s0 _ _ _ (lv_sub hl [1, 2, 0] rfl) hP hS hf
theorem dX12_layTerms_0 : decode cX12_layTerms 0 = .ok (.iconst 0, 1) := by decide +kernel
theorem dX12_layTerms_1 : decode cX12_layTerms 1 = .ok (.istore_n 1, 1) := by decide +kernel
theorem dX12_layTerms_2 : decode cX12_layTerms 2 = .ok (.iload_n 1, 1) := by decide +kernel
theorem dX12_layTerms_3 : decode cX12_layTerms 3 = .ok (.aload_n 0, 1) := by decide +kernel
theorem dX12_layTerms_4 : decode cX12_layTerms 4 = .ok (.getfield 56, 3) := by decide +kernel
theorem dX12_layTerms_7 : decode cX12_layTerms 7 = .ok (.if_icmp .ge 33, 3) := by decide +kernel
theorem dX12_layTerms_10 : decode cX12_layTerms 10 = .ok (.aload_n 0, 1) := by decide +kernel
theorem dX12_layTerms_11 : decode cX12_layTerms 11 = .ok (.getfield 59, 3) := by decide +kernel
theorem dX12_layTerms_14 : decode cX12_layTerms 14 = .ok (.iload_n 1, 1) := by decide +kernel
theorem dX12_layTerms_15 : decode cX12_layTerms 15 = .ok (.aload_n 0, 1) := by decide +kernel
theorem dX12_layTerms_16 : decode cX12_layTerms 16 = .ok (.getfield 62, 3) := by decide +kernel
theorem dX12_layTerms_19 : decode cX12_layTerms 19 = .ok (.iload_n 1, 1) := by decide +kernel
theorem dX12_layTerms_20 : decode cX12_layTerms 20 = .ok (.iaload, 1) := by decide +kernel
theorem dX12_layTerms_21 : decode cX12_layTerms 21 = .ok (.iastore, 1) := by decide +kernel
theorem dX12_layTerms_22 : decode cX12_layTerms 22 = .ok (.aload_n 0, 1) := by decide +kernel
theorem dX12_layTerms_23 : decode cX12_layTerms 23 = .ok (.getfield 65, 3) := by decide +kernel
theorem dX12_layTerms_26 : decode cX12_layTerms 26 = .ok (.aload_n 0, 1) := by decide +kernel
theorem dX12_layTerms_27 : decode cX12_layTerms 27 = .ok (.getfield 62, 3) := by decide +kernel
theorem dX12_layTerms_30 : decode cX12_layTerms 30 = .ok (.iload_n 1, 1) := by decide +kernel
theorem dX12_layTerms_31 : decode cX12_layTerms 31 = .ok (.iaload, 1) := by decide +kernel
theorem dX12_layTerms_32 : decode cX12_layTerms 32 = .ok (.iconst (-1), 1) := by decide +kernel
theorem dX12_layTerms_33 : decode cX12_layTerms 33 = .ok (.iastore, 1) := by decide +kernel
theorem dX12_layTerms_34 : decode cX12_layTerms 34 = .ok (.iinc 1 1, 3) := by decide +kernel
theorem dX12_layTerms_37 : decode cX12_layTerms 37 = .ok (.goto (-35), 3) := by decide +kernel
theorem dX12_layTerms_40 : decode cX12_layTerms 40 = .ok (.aload_n 0, 1) := by decide +kernel
theorem dX12_layTerms_41 : decode cX12_layTerms 41 = .ok (.invokevirtual 68, 3) := by decide +kernel
theorem dX12_layTerms_44 : decode cX12_layTerms 44 = .ok (.istore_n 1, 1) := by decide +kernel
theorem dX12_layTerms_45 : decode cX12_layTerms 45 = .ok (.aload_n 0, 1) := by decide +kernel
theorem dX12_layTerms_46 : decode cX12_layTerms 46 = .ok (.getfield 56, 3) := by decide +kernel
theorem dX12_layTerms_49 : decode cX12_layTerms 49 = .ok (.istore_n 2, 1) := by decide +kernel
theorem dX12_layTerms_50 : decode cX12_layTerms 50 = .ok (.aload_n 0, 1) := by decide +kernel
theorem dX12_layTerms_51 : decode cX12_layTerms 51 = .ok (.iconst 0, 1) := by decide +kernel
theorem dX12_layTerms_52 : decode cX12_layTerms 52 = .ok (.putfield 56, 3) := by decide +kernel
theorem dX12_layTerms_55 : decode cX12_layTerms 55 = .ok (.iconst 0, 1) := by decide +kernel
theorem dX12_layTerms_56 : decode cX12_layTerms 56 = .ok (.istore_n 3, 1) := by decide +kernel
theorem dX12_layTerms_57 : decode cX12_layTerms 57 = .ok (.iload_n 3, 1) := by decide +kernel
theorem dX12_layTerms_58 : decode cX12_layTerms 58 = .ok (.bipush 6, 2) := by decide +kernel
theorem dX12_layTerms_60 : decode cX12_layTerms 60 = .ok (.if_icmp .ge 16, 3) := by decide +kernel
theorem dX12_layTerms_63 : decode cX12_layTerms 63 = .ok (.aload_n 0, 1) := by decide +kernel
theorem dX12_layTerms_64 : decode cX12_layTerms 64 = .ok (.getfield 72, 3) := by decide +kernel
theorem dX12_layTerms_67 : decode cX12_layTerms 67 = .ok (.iload_n 3, 1) := by decide +kernel
theorem dX12_layTerms_68 : decode cX12_layTerms 68 = .ok (.iconst 0, 1) := by decide +kernel
theorem dX12_layTerms_69 : decode cX12_layTerms 69 = .ok (.iastore, 1) := by decide +kernel
theorem dX12_layTerms_70 : decode cX12_layTerms 70 = .ok (.iinc 3 1, 3) := by decide +kernel
theorem dX12_layTerms_73 : decode cX12_layTerms 73 = .ok (.goto (-16), 3) := by decide +kernel
theorem dX12_layTerms_76 : decode cX12_layTerms 76 = .ok (.aload_n 0, 1) := by decide +kernel
theorem dX12_layTerms_77 : decode cX12_layTerms 77 = .ok (.getfield 72, 3) := by decide +kernel
theorem dX12_layTerms_80 : decode cX12_layTerms 80 = .ok (.iconst 0, 1) := by decide +kernel
theorem dX12_layTerms_81 : decode cX12_layTerms 81 = .ok (.aload_n 0, 1) := by decide +kernel
theorem dX12_layTerms_82 : decode cX12_layTerms 82 = .ok (.getfield 27, 3) := by decide +kernel
theorem dX12_layTerms_85 : decode cX12_layTerms 85 = .ok (.iastore, 1) := by decide +kernel
theorem dX12_layTerms_86 : decode cX12_layTerms 86 = .ok (.iconst 0, 1) := by decide +kernel
theorem dX12_layTerms_87 : decode cX12_layTerms 87 = .ok (.istore_n 3, 1) := by decide +kernel
theorem dX12_layTerms_88 : decode cX12_layTerms 88 = .ok (.iconst 1, 1) := by decide +kernel
theorem dX12_layTerms_89 : decode cX12_layTerms 89 = .ok (.istore 4, 2) := by decide +kernel
theorem dX12_layTerms_91 : decode cX12_layTerms 91 = .ok (.iload 4, 2) := by decide +kernel
theorem dX12_layTerms_93 : decode cX12_layTerms 93 = .ok (.ifCond .eq 181, 3) := by decide +kernel
theorem dX12_layTerms_96 : decode cX12_layTerms 96 = .ok (.iconst 0, 1) := by decide +kernel
theorem dX12_layTerms_97 : decode cX12_layTerms 97 = .ok (.istore 5, 2) := by decide +kernel
theorem dX12_layTerms_99 : decode cX12_layTerms 99 = .ok (.iconst 0, 1) := by decide +kernel
theorem dX12_layTerms_100 : decode cX12_layTerms 100 = .ok (.istore 6, 2) := by decide +kernel
theorem dX12_layTerms_102 : decode cX12_layTerms 102 = .ok (.iload 6, 2) := by decide +kernel
theorem dX12_layTerms_104 : decode cX12_layTerms 104 = .ok (.iload_n 1, 1) := by decide +kernel
theorem dX12_layTerms_105 : decode cX12_layTerms 105 = .ok (.if_icmp .ge 27, 3) := by decide +kernel
theorem dX12_layTerms_108 : decode cX12_layTerms 108 = .ok (.iload 5, 2) := by decide +kernel
theorem dX12_layTerms_110 : decode cX12_layTerms 110 = .ok (.aload_n 0, 1) := by decide +kernel
theorem dX12_layTerms_111 : decode cX12_layTerms 111 = .ok (.getfield 72, 3) := by decide +kernel
theorem dX12_layTerms_114 : decode cX12_layTerms 114 = .ok (.iload 6, 2) := by decide +kernel
theorem dX12_layTerms_116 : decode cX12_layTerms 116 = .ok (.iaload, 1) := by decide +kernel
theorem dX12_layTerms_117 : decode cX12_layTerms 117 = .ok (.iload 6, 2) := by decide +kernel
theorem dX12_layTerms_119 : decode cX12_layTerms 119 = .ok (.invokestatic 15, 3) := by decide +kernel
theorem dX12_layTerms_122 : decode cX12_layTerms 122 = .ok (.imul, 1) := by decide +kernel
theorem dX12_layTerms_123 : decode cX12_layTerms 123 = .ok (.iadd, 1) := by decide +kernel
theorem dX12_layTerms_124 : decode cX12_layTerms 124 = .ok (.istore 5, 2) := by decide +kernel
theorem dX12_layTerms_126 : decode cX12_layTerms 126 = .ok (.iinc 6 1, 3) := by decide +kernel
theorem dX12_layTerms_129 : decode cX12_layTerms 129 = .ok (.goto (-27), 3) := by decide +kernel
theorem dX12_layTerms_132 : decode cX12_layTerms 132 = .ok (.aload_n 0, 1) := by decide +kernel
theorem dX12_layTerms_133 : decode cX12_layTerms 133 = .ok (.getfield 62, 3) := by decide +kernel
theorem dX12_layTerms_136 : decode cX12_layTerms 136 = .ok (.aload_n 0, 1) := by decide +kernel
theorem dX12_layTerms_137 : decode cX12_layTerms 137 = .ok (.getfield 56, 3) := by decide +kernel
theorem dX12_layTerms_140 : decode cX12_layTerms 140 = .ok (.iload 5, 2) := by decide +kernel
theorem dX12_layTerms_142 : decode cX12_layTerms 142 = .ok (.iastore, 1) := by decide +kernel
theorem dX12_layTerms_143 : decode cX12_layTerms 143 = .ok (.aload_n 0, 1) := by decide +kernel
theorem dX12_layTerms_144 : decode cX12_layTerms 144 = .ok (.getfield 75, 3) := by decide +kernel
theorem dX12_layTerms_147 : decode cX12_layTerms 147 = .ok (.aload_n 0, 1) := by decide +kernel
theorem dX12_layTerms_148 : decode cX12_layTerms 148 = .ok (.getfield 56, 3) := by decide +kernel
theorem dX12_layTerms_151 : decode cX12_layTerms 151 = .ok (.aload_n 0, 1) := by decide +kernel
theorem dX12_layTerms_152 : decode cX12_layTerms 152 = .ok (.getfield 27, 3) := by decide +kernel
theorem dX12_layTerms_155 : decode cX12_layTerms 155 = .ok (.iload_n 3, 1) := by decide +kernel
theorem dX12_layTerms_156 : decode cX12_layTerms 156 = .ok (.isub, 1) := by decide +kernel
theorem dX12_layTerms_157 : decode cX12_layTerms 157 = .ok (.iastore, 1) := by decide +kernel
theorem dX12_layTerms_158 : decode cX12_layTerms 158 = .ok (.aload_n 0, 1) := by decide +kernel
theorem dX12_layTerms_159 : decode cX12_layTerms 159 = .ok (.getfield 78, 3) := by decide +kernel
theorem dX12_layTerms_162 : decode cX12_layTerms 162 = .ok (.aload_n 0, 1) := by decide +kernel
theorem dX12_layTerms_163 : decode cX12_layTerms 163 = .ok (.getfield 56, 3) := by decide +kernel
theorem dX12_layTerms_166 : decode cX12_layTerms 166 = .ok (.aload_n 0, 1) := by decide +kernel
theorem dX12_layTerms_167 : decode cX12_layTerms 167 = .ok (.iload 5, 2) := by decide +kernel
theorem dX12_layTerms_169 : decode cX12_layTerms 169 = .ok (.invokevirtual 82, 3) := by decide +kernel
theorem dX12_layTerms_172 : decode cX12_layTerms 172 = .ok (.lastore, 1) := by decide +kernel
theorem dX12_layTerms_173 : decode cX12_layTerms 173 = .ok (.aload_n 0, 1) := by decide +kernel
theorem dX12_layTerms_174 : decode cX12_layTerms 174 = .ok (.getfield 65, 3) := by decide +kernel
theorem dX12_layTerms_177 : decode cX12_layTerms 177 = .ok (.iload 5, 2) := by decide +kernel
theorem dX12_layTerms_179 : decode cX12_layTerms 179 = .ok (.aload_n 0, 1) := by decide +kernel
theorem dX12_layTerms_180 : decode cX12_layTerms 180 = .ok (.getfield 56, 3) := by decide +kernel
theorem dX12_layTerms_183 : decode cX12_layTerms 183 = .ok (.iastore, 1) := by decide +kernel
theorem dX12_layTerms_184 : decode cX12_layTerms 184 = .ok (.aload_n 0, 1) := by decide +kernel
theorem dX12_layTerms_185 : decode cX12_layTerms 185 = .ok (.dup, 1) := by decide +kernel
theorem dX12_layTerms_186 : decode cX12_layTerms 186 = .ok (.getfield 56, 3) := by decide +kernel
theorem dX12_layTerms_189 : decode cX12_layTerms 189 = .ok (.iconst 1, 1) := by decide +kernel
theorem dX12_layTerms_190 : decode cX12_layTerms 190 = .ok (.iadd, 1) := by decide +kernel
theorem dX12_layTerms_191 : decode cX12_layTerms 191 = .ok (.putfield 56, 3) := by decide +kernel
theorem dX12_layTerms_194 : decode cX12_layTerms 194 = .ok (.iload_n 1, 1) := by decide +kernel
theorem dX12_layTerms_195 : decode cX12_layTerms 195 = .ok (.iconst 1, 1) := by decide +kernel
theorem dX12_layTerms_196 : decode cX12_layTerms 196 = .ok (.isub, 1) := by decide +kernel
theorem dX12_layTerms_197 : decode cX12_layTerms 197 = .ok (.istore 6, 2) := by decide +kernel
theorem dX12_layTerms_199 : decode cX12_layTerms 199 = .ok (.iload 6, 2) := by decide +kernel
theorem dX12_layTerms_201 : decode cX12_layTerms 201 = .ok (.ifCond .lt 19, 3) := by decide +kernel
theorem dX12_layTerms_204 : decode cX12_layTerms 204 = .ok (.aload_n 0, 1) := by decide +kernel
theorem dX12_layTerms_205 : decode cX12_layTerms 205 = .ok (.getfield 72, 3) := by decide +kernel
theorem dX12_layTerms_208 : decode cX12_layTerms 208 = .ok (.iload 6, 2) := by decide +kernel
theorem dX12_layTerms_210 : decode cX12_layTerms 210 = .ok (.iaload, 1) := by decide +kernel
theorem dX12_layTerms_211 : decode cX12_layTerms 211 = .ok (.ifCond .ne 9, 3) := by decide +kernel
theorem dX12_layTerms_214 : decode cX12_layTerms 214 = .ok (.iinc 6 (-1), 3) := by decide +kernel
theorem dX12_layTerms_217 : decode cX12_layTerms 217 = .ok (.goto (-18), 3) := by decide +kernel
theorem dX12_layTerms_220 : decode cX12_layTerms 220 = .ok (.iload 6, 2) := by decide +kernel
theorem dX12_layTerms_222 : decode cX12_layTerms 222 = .ok (.ifCond .lt 7, 3) := by decide +kernel
theorem dX12_layTerms_225 : decode cX12_layTerms 225 = .ok (.iconst 1, 1) := by decide +kernel
theorem dX12_layTerms_226 : decode cX12_layTerms 226 = .ok (.goto 4, 3) := by decide +kernel
theorem dX12_layTerms_229 : decode cX12_layTerms 229 = .ok (.iconst 0, 1) := by decide +kernel
theorem dX12_layTerms_230 : decode cX12_layTerms 230 = .ok (.istore 4, 2) := by decide +kernel
theorem dX12_layTerms_232 : decode cX12_layTerms 232 = .ok (.iload 4, 2) := by decide +kernel
theorem dX12_layTerms_234 : decode cX12_layTerms 234 = .ok (.ifCond .eq 37, 3) := by decide +kernel
theorem dX12_layTerms_237 : decode cX12_layTerms 237 = .ok (.aload_n 0, 1) := by decide +kernel
theorem dX12_layTerms_238 : decode cX12_layTerms 238 = .ok (.getfield 72, 3) := by decide +kernel
theorem dX12_layTerms_241 : decode cX12_layTerms 241 = .ok (.iload 6, 2) := by decide +kernel
theorem dX12_layTerms_243 : decode cX12_layTerms 243 = .ok (.dup2, 1) := by decide +kernel
theorem dX12_layTerms_244 : decode cX12_layTerms 244 = .ok (.iaload, 1) := by decide +kernel
theorem dX12_layTerms_245 : decode cX12_layTerms 245 = .ok (.iconst 1, 1) := by decide +kernel
theorem dX12_layTerms_246 : decode cX12_layTerms 246 = .ok (.isub, 1) := by decide +kernel
theorem dX12_layTerms_247 : decode cX12_layTerms 247 = .ok (.iastore, 1) := by decide +kernel
theorem dX12_layTerms_248 : decode cX12_layTerms 248 = .ok (.iinc 3 1, 3) := by decide +kernel
theorem dX12_layTerms_251 : decode cX12_layTerms 251 = .ok (.iload 6, 2) := by decide +kernel
theorem dX12_layTerms_253 : decode cX12_layTerms 253 = .ok (.iconst 1, 1) := by decide +kernel
theorem dX12_layTerms_254 : decode cX12_layTerms 254 = .ok (.iadd, 1) := by decide +kernel
theorem dX12_layTerms_255 : decode cX12_layTerms 255 = .ok (.iload_n 1, 1) := by decide +kernel
theorem dX12_layTerms_256 : decode cX12_layTerms 256 = .ok (.if_icmp .ge 15, 3) := by decide +kernel
theorem dX12_layTerms_259 : decode cX12_layTerms 259 = .ok (.aload_n 0, 1) := by decide +kernel
theorem dX12_layTerms_260 : decode cX12_layTerms 260 = .ok (.getfield 72, 3) := by decide +kernel
theorem dX12_layTerms_263 : decode cX12_layTerms 263 = .ok (.iload 6, 2) := by decide +kernel
theorem dX12_layTerms_265 : decode cX12_layTerms 265 = .ok (.iconst 1, 1) := by decide +kernel
theorem dX12_layTerms_266 : decode cX12_layTerms 266 = .ok (.iadd, 1) := by decide +kernel
theorem dX12_layTerms_267 : decode cX12_layTerms 267 = .ok (.iload_n 3, 1) := by decide +kernel
theorem dX12_layTerms_268 : decode cX12_layTerms 268 = .ok (.iastore, 1) := by decide +kernel
theorem dX12_layTerms_269 : decode cX12_layTerms 269 = .ok (.iconst 0, 1) := by decide +kernel
theorem dX12_layTerms_270 : decode cX12_layTerms 270 = .ok (.istore_n 3, 1) := by decide +kernel
theorem dX12_layTerms_271 : decode cX12_layTerms 271 = .ok (.goto (-180), 3) := by decide +kernel
theorem dX12_layTerms_274 : decode cX12_layTerms 274 = .ok (.aload_n 0, 1) := by decide +kernel
theorem dX12_layTerms_275 : decode cX12_layTerms 275 = .ok (.iload_n 2, 1) := by decide +kernel
theorem dX12_layTerms_276 : decode cX12_layTerms 276 = .ok (.invokevirtual 85, 3) := by decide +kernel
theorem dX12_layTerms_279 : decode cX12_layTerms 279 = .ok (.return_, 1) := by decide +kernel
set_option maxHeartbeats 4000000 in
set_option maxRecDepth 100000 in
theorem cn_X12_layTerms {l : Launch} {cA : Nat → ClassId} {ad : Nat → Nat} {D : va_G} {E : Nat → Nat} {A : Nat → Prop}  {s0 sr : SS} {rr : Unit} (hf : f_X12_layTerms s0 = some (rr, sr)) : zCon Om Nm cA ad D E l yX12_layTerms cX12_layTerms 7 none 4 A [.ref (ad 0)] s0 none sr := by
  refine zstart (own := RX12) hOm (by decide) rfl (Nat.le_of_ble_eq_true rfl) ?_
  intro p e s m args below meth c X hP ls hl
  have hx := X.1
  have hb := X.2.1
  have hl : lv_has ls 7 [(0, .ref (ad 0))] := hl
  have hS : va_S A s.heap s.heap [] := va_S.rf
  have hc_2 : ∀ (n2 : Nat) (x1 : Int32) (s1 : SS) (H : Heap) (locs : List Loc) (ls : Array Slot), lv_has ls 7 [(0, .ref (ad 0)), (1, .int x1)] → va_P D ZCL (zw Om Nm cA ad s1) H → va_S A s.heap H locs → f_X12_layTerms_c2 n2 x1 s1 = some (rr, sr) → W p l e (zrm 4) s m args below meth c H locs 0 0 (MQ below (zQc Om Nm cA ad D A none sr) args s 0 0 A) (F0 m 2 ls []) := by
    intro n2
    induction n2 with
    | zero =>
      intro x1 s1 H locs ls hl hP hS hf
      rw [f_X12_layTerms_c2] at hf
      cases hf
    | succ n2 ih2 =>
      have hc_57 : ∀ (n57 : Nat) (x1 : Int32) (x2 : Int32) (x3 : Int32) (s1 : SS) (H : Heap) (locs : List Loc) (ls : Array Slot), lv_has ls 7 [(0, .ref (ad 0)), (1, .int x1), (2, .int x2), (3, .int x3)] → va_P D ZCL (zw Om Nm cA ad s1) H → va_S A s.heap H locs → f_X12_layTerms_c57 n57 x1 x2 x3 s1 = some (rr, sr) → W p l e (zrm 4) s m args below meth c H locs 0 0 (MQ below (zQc Om Nm cA ad D A none sr) args s 0 0 A) (F0 m 57 ls []) := by
        intro n57
        induction n57 with
        | zero =>
          intro x1 x2 x3 s1 H locs ls hl hP hS hf
          rw [f_X12_layTerms_c57] at hf
          cases hf
        | succ n57 ih57 =>
          have hc_91 : ∀ (n91 : Nat) (x1 : Int32) (x2 : Int32) (x3 : Int32) (x4 : Int32) (s1 : SS) (H : Heap) (locs : List Loc) (ls : Array Slot), lv_has ls 7 [(0, .ref (ad 0)), (1, .int x1), (2, .int x2), (3, .int x3), (4, .int x4)] → va_P D ZCL (zw Om Nm cA ad s1) H → va_S A s.heap H locs → f_X12_layTerms_c91 n91 x1 x2 x3 x4 s1 = some (rr, sr) → W p l e (zrm 4) s m args below meth c H locs 0 0 (MQ below (zQc Om Nm cA ad D A none sr) args s 0 0 A) (F0 m 91 ls []) := by
            intro n91
            induction n91 with
            | zero =>
              intro x1 x2 x3 x4 s1 H locs ls hl hP hS hf
              rw [f_X12_layTerms_c91] at hf
              cases hf
            | succ n91 ih91 =>
              have hc_102 : ∀ (n102 : Nat) (x1 : Int32) (x2 : Int32) (x3 : Int32) (x5 : Int32) (x6 : Int32) (s1 : SS) (H : Heap) (locs : List Loc) (ls : Array Slot), lv_has ls 7 [(0, .ref (ad 0)), (1, .int x1), (2, .int x2), (3, .int x3), (5, .int x5), (6, .int x6)] → va_P D ZCL (zw Om Nm cA ad s1) H → va_S A s.heap H locs → f_X12_layTerms_c102 (f_X12_layTerms_c91 n91) n102 x1 x2 x3 x5 x6 s1 = some (rr, sr) → W p l e (zrm 4) s m args below meth c H locs 0 0 (MQ below (zQc Om Nm cA ad D A none sr) args s 0 0 A) (F0 m 102 ls []) := by
                intro n102
                induction n102 with
                | zero =>
                  intro x1 x2 x3 x5 x6 s1 H locs ls hl hP hS hf
                  rw [f_X12_layTerms_c102] at hf
                  cases hf
                | succ n102 ih102 =>
                  have hc_199 : ∀ (n199 : Nat) (x1 : Int32) (x2 : Int32) (x3 : Int32) (x6 : Int32) (s1 : SS) (H : Heap) (locs : List Loc) (ls : Array Slot), lv_has ls 7 [(0, .ref (ad 0)), (1, .int x1), (2, .int x2), (3, .int x3), (6, .int x6)] → va_P D ZCL (zw Om Nm cA ad s1) H → va_S A s.heap H locs → f_X12_layTerms_c199 (f_X12_layTerms_c91 n91) n199 x1 x2 x3 x6 s1 = some (rr, sr) → W p l e (zrm 4) s m args below meth c H locs 0 0 (MQ below (zQc Om Nm cA ad D A none sr) args s 0 0 A) (F0 m 199 ls []) := by
                    intro n199
                    induction n199 with
                    | zero =>
                      intro x1 x2 x3 x6 s1 H locs ls hl hP hS hf
                      rw [f_X12_layTerms_c199] at hf
                      cases hf
                    | succ n199 ih199 =>
                      have hc_271 : ∀ (x1 : Int32) (x2 : Int32) (x3 : Int32) (x4 : Int32) (s1 : SS) (H : Heap) (locs : List Loc) (ls : Array Slot), lv_has ls 7 [(0, .ref (ad 0)), (1, .int x1), (2, .int x2), (3, .int x3), (4, .int x4)] → va_P D ZCL (zw Om Nm cA ad s1) H → va_S A s.heap H locs → f_X12_layTerms_c271 (f_X12_layTerms_c91 n91) x1 x2 x3 x4 s1 = some (rr, sr) → W p l e (zrm 4) s m args below meth c H locs 0 0 (MQ below (zQc Om Nm cA ad D A none sr) args s 0 0 A) (F0 m 271 ls []) := by
                        intro x1 x2 x3 x4 s1 H locs ls hl hP hS hf
                        rw [f_X12_layTerms_c271] at hf
                        refine lv_goto (tgt := 91) hx hb dX12_layTerms_271 (by decide) ?_
                        exact ih91 x1 x2 x3 x4 s1 _ _ _ (lv_sub hl [0, 1, 2, 3, 4] rfl) hP hS hf
                      have hc_230 : ∀ (x1 : Int32) (x2 : Int32) (x3 : Int32) (x6 : Int32) (t0 : Int32) (s1 : SS) (H : Heap) (locs : List Loc) (ls : Array Slot), lv_has ls 7 [(0, .ref (ad 0)), (1, .int x1), (2, .int x2), (3, .int x3), (6, .int x6)] → va_P D ZCL (zw Om Nm cA ad s1) H → va_S A s.heap H locs → f_X12_layTerms_c230 (f_X12_layTerms_c91 n91) x1 x2 x3 x6 t0 s1 = some (rr, sr) → W p l e (zrm 4) s m args below meth c H locs 0 0 (MQ below (zQc Om Nm cA ad D A none sr) args s 0 0 A) (F0 m 230 ls [.int t0]) := by
                        intro x1 x2 x3 x6 t0 s1 H locs ls hl hP hS hf
                        rw [f_X12_layTerms_c230] at hf
                        refine lv_istore (lv' := [(4, .int t0), (0, .ref (ad 0)), (1, .int x1), (2, .int x2), (3, .int x3), (6, .int x6)]) hx hb dX12_layTerms_230 hl (by decide) rfl (fun ls hl => ?_)
                        refine lv_iload hx hb dX12_layTerms_232 (lv_at hl 0 rfl) ?_
                        refine zif_eq (tgt := 271) hx hb dX12_layTerms_234 (by decide) hf (fun hf => ?_) (fun hf => ?_)
                        · exact hc_271 x1 x2 x3 t0 s1 _ _ _ (lv_sub hl [1, 2, 3, 4, 0] rfl) hP hS hf
                        · refine lv_aload_n hx hb dX12_layTerms_237 rfl (lv_at hl 1 rfl) ?_
                          refine gf_X12_72 X hP (k := 0) (q := 32) rfl dX12_layTerms_238 rfl ?_
                          refine lv_iload hx hb dX12_layTerms_241 (lv_at hl 5 rfl) ?_
                          refine lv_dup2_11 hx hb dX12_layTerms_243 rfl rfl ?_
                          obtain ⟨g15, hf⟩ := zgd hf
                          refine zald_i X hP (k := 32) (n := 6) (rs := []) rfl g15 dX12_layTerms_244 ?_
                          refine lv_iconst (v := 1) hx hb dX12_layTerms_245 (by decide) ?_
                          refine lv_isub hx hb dX12_layTerms_246 ?_
                          obtain ⟨g16, hf⟩ := zgd hf
                          refine zast_i X hP hS (k := 32) (n := 6) (rs := []) rfl g16 dX12_layTerms_247 (fun H locs hP hS => ?_)
                          refine lv_iinc (v := (x3 + 1)) (lv' := [(3, .int (x3 + 1)), (4, .int t0), (0, .ref (ad 0)), (1, .int x1), (2, .int x2), (6, .int x6)]) hx hb dX12_layTerms_248 hl (k := 4) rfl rfl (by decide) rfl (fun ls hl => ?_)
                          refine lv_iload hx hb dX12_layTerms_251 (lv_at hl 5 rfl) ?_
                          refine lv_iconst (v := 1) hx hb dX12_layTerms_253 (by decide) ?_
                          refine lv_iadd hx hb dX12_layTerms_254 ?_
                          refine lv_iload_n hx hb dX12_layTerms_255 rfl (lv_at hl 3 rfl) ?_
                          refine zicmp_ge (tgt := 271) hx hb dX12_layTerms_256 (by decide) hf (fun hf => ?_) (fun hf => ?_)
                          · exact hc_271 x1 x2 (x3 + 1) t0 (zS s1 32 (x6).toNatClampNeg (((s1.1 32 (x6).toNatClampNeg) - (1 : Int32)))) _ _ _ (lv_sub hl [2, 3, 4, 0, 1] rfl) hP hS hf
                          · refine lv_aload_n hx hb dX12_layTerms_259 rfl (lv_at hl 2 rfl) ?_
                            refine gf_X12_72 X hP (k := 0) (q := 32) rfl dX12_layTerms_260 rfl ?_
                            refine lv_iload hx hb dX12_layTerms_263 (lv_at hl 5 rfl) ?_
                            refine lv_iconst (v := 1) hx hb dX12_layTerms_265 (by decide) ?_
                            refine lv_iadd hx hb dX12_layTerms_266 ?_
                            refine lv_iload_n hx hb dX12_layTerms_267 rfl (lv_at hl 0 rfl) ?_
                            obtain ⟨g17, hf⟩ := zgd hf
                            refine zast_i X hP hS (k := 32) (n := 6) (rs := []) rfl g17 dX12_layTerms_268 (fun H locs hP hS => ?_)
                            refine lv_iconst (v := 0) hx hb dX12_layTerms_269 (by decide) ?_
                            refine lv_istore_n (lv' := [(3, .int 0), (4, .int t0), (0, .ref (ad 0)), (1, .int x1), (2, .int x2), (6, .int x6)]) hx hb dX12_layTerms_270 rfl hl (by decide) rfl (fun ls hl => ?_)
                            exact hc_271 x1 x2 0 t0 (zS (zS s1 32 (x6).toNatClampNeg (((s1.1 32 (x6).toNatClampNeg) - (1 : Int32)))) 32 ((x6 + (1 : Int32))).toNatClampNeg (x3 + 1)) _ _ _ (lv_sub hl [2, 3, 4, 0, 1] rfl) hP hS hf
                      have hc_220 : ∀ (x1 : Int32) (x2 : Int32) (x3 : Int32) (x6 : Int32) (s1 : SS) (H : Heap) (locs : List Loc) (ls : Array Slot), lv_has ls 7 [(0, .ref (ad 0)), (1, .int x1), (2, .int x2), (3, .int x3), (6, .int x6)] → va_P D ZCL (zw Om Nm cA ad s1) H → va_S A s.heap H locs → f_X12_layTerms_c220 (f_X12_layTerms_c91 n91) x1 x2 x3 x6 s1 = some (rr, sr) → W p l e (zrm 4) s m args below meth c H locs 0 0 (MQ below (zQc Om Nm cA ad D A none sr) args s 0 0 A) (F0 m 220 ls []) := by
                        intro x1 x2 x3 x6 s1 H locs ls hl hP hS hf
                        rw [f_X12_layTerms_c220] at hf
                        refine lv_iload hx hb dX12_layTerms_220 (lv_at hl 4 rfl) ?_
                        refine zif_lt (tgt := 229) hx hb dX12_layTerms_222 (by decide) hf (fun hf => ?_) (fun hf => ?_)
                        · refine lv_iconst (v := 0) hx hb dX12_layTerms_229 (by decide) ?_
                          exact hc_230 x1 x2 x3 x6 0 s1 _ _ _ (lv_sub hl [0, 1, 2, 3, 4] rfl) hP hS hf
                        · refine lv_iconst (v := 1) hx hb dX12_layTerms_225 (by decide) ?_
                          refine lv_goto (tgt := 230) hx hb dX12_layTerms_226 (by decide) ?_
                          exact hc_230 x1 x2 x3 x6 1 s1 _ _ _ (lv_sub hl [0, 1, 2, 3, 4] rfl) hP hS hf
                      intro x1 x2 x3 x6 s1 H locs ls hl hP hS hf
                      rw [f_X12_layTerms_c199] at hf
                      refine lv_iload hx hb dX12_layTerms_199 (lv_at hl 4 rfl) ?_
                      refine zif_lt (tgt := 220) hx hb dX12_layTerms_201 (by decide) hf (fun hf => ?_) (fun hf => ?_)
                      · exact hc_220 x1 x2 x3 x6 s1 _ _ _ (lv_sub hl [0, 1, 2, 3, 4] rfl) hP hS hf
                      · refine lv_aload_n hx hb dX12_layTerms_204 rfl (lv_at hl 0 rfl) ?_
                        refine gf_X12_72 X hP (k := 0) (q := 32) rfl dX12_layTerms_205 rfl ?_
                        refine lv_iload hx hb dX12_layTerms_208 (lv_at hl 4 rfl) ?_
                        obtain ⟨g18, hf⟩ := zgd hf
                        refine zald_i X hP (k := 32) (n := 6) (rs := []) rfl g18 dX12_layTerms_210 ?_
                        refine zif_ne (tgt := 220) hx hb dX12_layTerms_211 (by decide) hf (fun hf => ?_) (fun hf => ?_)
                        · exact hc_220 x1 x2 x3 x6 s1 _ _ _ (lv_sub hl [0, 1, 2, 3, 4] rfl) hP hS hf
                        · refine lv_iinc (v := (x6 + (-1))) (lv' := [(6, .int (x6 + (-1))), (0, .ref (ad 0)), (1, .int x1), (2, .int x2), (3, .int x3)]) hx hb dX12_layTerms_214 hl (k := 4) rfl rfl (by decide) rfl (fun ls hl => ?_)
                          refine lv_goto (tgt := 199) hx hb dX12_layTerms_217 (by decide) ?_
                          exact ih199 x1 x2 x3 (x6 + (-1)) s1 _ _ _ (lv_sub hl [1, 2, 3, 4, 0] rfl) hP hS hf
                  intro x1 x2 x3 x5 x6 s1 H locs ls hl hP hS hf
                  rw [f_X12_layTerms_c102] at hf
                  refine lv_iload hx hb dX12_layTerms_102 (lv_at hl 5 rfl) ?_
                  refine lv_iload_n hx hb dX12_layTerms_104 rfl (lv_at hl 1 rfl) ?_
                  refine zicmp_ge (tgt := 132) hx hb dX12_layTerms_105 (by decide) hf (fun hf => ?_) (fun hf => ?_)
                  · refine lv_aload_n hx hb dX12_layTerms_132 rfl (lv_at hl 0 rfl) ?_
                    refine gf_X12_62 X hP (k := 0) (q := 4) rfl dX12_layTerms_133 rfl ?_
                    refine lv_aload_n hx hb dX12_layTerms_136 rfl (lv_at hl 0 rfl) ?_
                    refine gf_X12_56 X hP (k := 0) rfl dX12_layTerms_137 ?_
                    refine lv_iload hx hb dX12_layTerms_140 (lv_at hl 4 rfl) ?_
                    obtain ⟨g8, hf⟩ := zgd hf
                    refine zast_i X hP hS (k := 4) (n := 462) (rs := []) rfl g8 dX12_layTerms_142 (fun H locs hP hS => ?_)
                    refine lv_aload_n hx hb dX12_layTerms_143 rfl (lv_at hl 0 rfl) ?_
                    refine gf_X12_75 X hP (k := 0) (q := 5) rfl dX12_layTerms_144 rfl ?_
                    refine lv_aload_n hx hb dX12_layTerms_147 rfl (lv_at hl 0 rfl) ?_
                    refine gf_X12_56 X hP (k := 0) rfl dX12_layTerms_148 ?_
                    refine lv_aload_n hx hb dX12_layTerms_151 rfl (lv_at hl 0 rfl) ?_
                    refine gf_X12_27 X hP (k := 0) rfl dX12_layTerms_152 ?_
                    refine lv_iload_n hx hb dX12_layTerms_155 rfl (lv_at hl 3 rfl) ?_
                    refine lv_isub hx hb dX12_layTerms_156 ?_
                    obtain ⟨g9, hf⟩ := zgd hf
                    refine zast_i X hP hS (k := 5) (n := 462) (rs := []) rfl g9 dX12_layTerms_157 (fun H locs hP hS => ?_)
                    refine lv_aload_n hx hb dX12_layTerms_158 rfl (lv_at hl 0 rfl) ?_
                    refine gf_X12_78 X hP (k := 0) (q := 6) rfl dX12_layTerms_159 rfl ?_
                    refine lv_aload_n hx hb dX12_layTerms_162 rfl (lv_at hl 0 rfl) ?_
                    refine gf_X12_56 X hP (k := 0) rfl dX12_layTerms_163 ?_
                    refine lv_aload_n hx hb dX12_layTerms_166 rfl (lv_at hl 0 rfl) ?_
                    refine lv_iload hx hb dX12_layTerms_167 (lv_at hl 4 rfl) ?_
                    obtain ⟨r10, s11, h12, hf⟩ := zbd_some hf
                    refine zcallV X hP hS hl.1 (k := 0) (As := [.int x5]) (rest := [.int ((zS (zS s1 4 ((s1.1 0 7)).toNatClampNeg x5) 5 (((zS s1 4 ((s1.1 0 7)).toNatClampNeg x5).1 0 7)).toNatClampNeg (((zS s1 4 ((s1.1 0 7)).toNatClampNeg x5).1 0 1) - x3)).1 0 7), .ref (ad 6)]) (cn_X12_worthBy h12) cw_X12_worthBy zp_12 rfl (by decide) rfl ml_X12_82 (by decide) rfl rfl (Nat.le_of_ble_eq_true rfl) dX12_layTerms_169 (fun H locs hP hS => ?_)
                    obtain ⟨g13, hf⟩ := zgd hf
                    refine zast_l X hP hS (k := 6) (n := 462) (rs := []) rfl g13 dX12_layTerms_172 (fun H locs hP hS => ?_)
                    refine lv_aload_n hx hb dX12_layTerms_173 rfl (lv_at hl 0 rfl) ?_
                    refine gf_X12_65 X hP (k := 0) (q := 7) rfl dX12_layTerms_174 rfl ?_
                    refine lv_iload hx hb dX12_layTerms_177 (lv_at hl 4 rfl) ?_
                    refine lv_aload_n hx hb dX12_layTerms_179 rfl (lv_at hl 0 rfl) ?_
                    refine gf_X12_56 X hP (k := 0) rfl dX12_layTerms_180 ?_
                    obtain ⟨g14, hf⟩ := zgd hf
                    refine zast_i X hP hS (k := 7) (n := 600000) (rs := []) rfl g14 dX12_layTerms_183 (fun H locs hP hS => ?_)
                    refine lv_aload_n hx hb dX12_layTerms_184 rfl (lv_at hl 0 rfl) ?_
                    refine lv_dup hx hb dX12_layTerms_185 rfl ?_
                    refine gf_X12_56 X hP (k := 0) rfl dX12_layTerms_186 ?_
                    refine lv_iconst (v := 1) hx hb dX12_layTerms_189 (by decide) ?_
                    refine lv_iadd hx hb dX12_layTerms_190 ?_
                    refine pf_X12_56 X hP hS (k := 0) rfl dX12_layTerms_191 (fun H locs hP hS => ?_)
                    refine lv_iload_n hx hb dX12_layTerms_194 rfl (lv_at hl 1 rfl) ?_
                    refine lv_iconst (v := 1) hx hb dX12_layTerms_195 (by decide) ?_
                    refine lv_isub hx hb dX12_layTerms_196 ?_
                    refine lv_istore (lv' := [(6, .int (x1 - (1 : Int32))), (0, .ref (ad 0)), (1, .int x1), (2, .int x2), (3, .int x3), (5, .int x5)]) hx hb dX12_layTerms_197 hl (by decide) rfl (fun ls hl => ?_)
                    exact hc_199 ZF x1 x2 x3 (x1 - (1 : Int32)) (zS (zS (zSL s11 6 (((zS (zS s1 4 ((s1.1 0 7)).toNatClampNeg x5) 5 (((zS s1 4 ((s1.1 0 7)).toNatClampNeg x5).1 0 7)).toNatClampNeg (((zS s1 4 ((s1.1 0 7)).toNatClampNeg x5).1 0 1) - x3)).1 0 7)).toNatClampNeg r10) 7 (x5).toNatClampNeg (((zSL s11 6 (((zS (zS s1 4 ((s1.1 0 7)).toNatClampNeg x5) 5 (((zS s1 4 ((s1.1 0 7)).toNatClampNeg x5).1 0 7)).toNatClampNeg (((zS s1 4 ((s1.1 0 7)).toNatClampNeg x5).1 0 1) - x3)).1 0 7)).toNatClampNeg r10).1 0 7))) 0 7 (((zS (zSL s11 6 (((zS (zS s1 4 ((s1.1 0 7)).toNatClampNeg x5) 5 (((zS s1 4 ((s1.1 0 7)).toNatClampNeg x5).1 0 7)).toNatClampNeg (((zS s1 4 ((s1.1 0 7)).toNatClampNeg x5).1 0 1) - x3)).1 0 7)).toNatClampNeg r10) 7 (x5).toNatClampNeg (((zSL s11 6 (((zS (zS s1 4 ((s1.1 0 7)).toNatClampNeg x5) 5 (((zS s1 4 ((s1.1 0 7)).toNatClampNeg x5).1 0 7)).toNatClampNeg (((zS s1 4 ((s1.1 0 7)).toNatClampNeg x5).1 0 1) - x3)).1 0 7)).toNatClampNeg r10).1 0 7))).1 0 7) + (1 : Int32))) _ _ _ (lv_sub hl [1, 2, 3, 4, 0] rfl) hP hS hf
                  · refine lv_iload hx hb dX12_layTerms_108 (lv_at hl 4 rfl) ?_
                    refine lv_aload_n hx hb dX12_layTerms_110 rfl (lv_at hl 0 rfl) ?_
                    refine gf_X12_72 X hP (k := 0) (q := 32) rfl dX12_layTerms_111 rfl ?_
                    refine lv_iload hx hb dX12_layTerms_114 (lv_at hl 5 rfl) ?_
                    obtain ⟨g19, hf⟩ := zgd hf
                    refine zald_i X hP (k := 32) (n := 6) (rs := []) rfl g19 dX12_layTerms_116 ?_
                    refine lv_iload hx hb dX12_layTerms_117 (lv_at hl 5 rfl) ?_
                    obtain ⟨r20, s21, h22, hf⟩ := zbd_some hf
                    refine zcallS X hP hS hl.1 (As := [.int x6]) (rest := [.int (s1.1 32 (x6).toNatClampNeg), .int x5]) (cn_X12_tens h22) cw_X12_tens ml_X12_15 (by decide) rfl rfl (Nat.le_of_ble_eq_true rfl) dX12_layTerms_119 (fun H locs hP hS => ?_)
                    refine lv_imul hx hb dX12_layTerms_122 ?_
                    refine lv_iadd hx hb dX12_layTerms_123 ?_
                    refine lv_istore (lv' := [(5, .int (x5 + ((s1.1 32 (x6).toNatClampNeg) * r20))), (0, .ref (ad 0)), (1, .int x1), (2, .int x2), (3, .int x3), (6, .int x6)]) hx hb dX12_layTerms_124 hl (by decide) rfl (fun ls hl => ?_)
                    refine lv_iinc (v := (x6 + 1)) (lv' := [(6, .int (x6 + 1)), (5, .int (x5 + ((s1.1 32 (x6).toNatClampNeg) * r20))), (0, .ref (ad 0)), (1, .int x1), (2, .int x2), (3, .int x3)]) hx hb dX12_layTerms_126 hl (k := 5) rfl rfl (by decide) rfl (fun ls hl => ?_)
                    refine lv_goto (tgt := 102) hx hb dX12_layTerms_129 (by decide) ?_
                    exact ih102 x1 x2 x3 (x5 + ((s1.1 32 (x6).toNatClampNeg) * r20)) (x6 + 1) s21 _ _ _ (lv_sub hl [2, 3, 4, 5, 1, 0] rfl) hP hS hf
              intro x1 x2 x3 x4 s1 H locs ls hl hP hS hf
              rw [f_X12_layTerms_c91] at hf
              refine lv_iload hx hb dX12_layTerms_91 (lv_at hl 4 rfl) ?_
              refine zif_eq (tgt := 274) hx hb dX12_layTerms_93 (by decide) hf (fun hf => ?_) (fun hf => ?_)
              · refine lv_aload_n hx hb dX12_layTerms_274 rfl (lv_at hl 0 rfl) ?_
                refine lv_iload_n hx hb dX12_layTerms_275 rfl (lv_at hl 2 rfl) ?_
                obtain ⟨r5, s6, h7, hf⟩ := zbd_some hf
                refine zcallV X hP hS hl.1 (k := 0) (As := [.int x2]) (rest := []) (cn_X12_carry h7) cw_X12_carry zp_12 rfl (by decide) rfl ml_X12_85 (by decide) rfl rfl (Nat.le_of_ble_eq_true rfl) dX12_layTerms_276 (fun H locs hP hS => ?_)
                exact zret_v X hP hS hf dX12_layTerms_279
              · refine lv_iconst (v := 0) hx hb dX12_layTerms_96 (by decide) ?_
                refine lv_istore (lv' := [(5, .int 0), (0, .ref (ad 0)), (1, .int x1), (2, .int x2), (3, .int x3), (4, .int x4)]) hx hb dX12_layTerms_97 hl (by decide) rfl (fun ls hl => ?_)
                refine lv_iconst (v := 0) hx hb dX12_layTerms_99 (by decide) ?_
                refine lv_istore (lv' := [(6, .int 0), (5, .int 0), (0, .ref (ad 0)), (1, .int x1), (2, .int x2), (3, .int x3), (4, .int x4)]) hx hb dX12_layTerms_100 hl (by decide) rfl (fun ls hl => ?_)
                exact hc_102 ZF x1 x2 x3 0 0 s1 _ _ _ (lv_sub hl [2, 3, 4, 5, 1, 0] rfl) hP hS hf
          intro x1 x2 x3 s1 H locs ls hl hP hS hf
          rw [f_X12_layTerms_c57] at hf
          refine lv_iload_n hx hb dX12_layTerms_57 rfl (lv_at hl 3 rfl) ?_
          refine lv_bipush (v := 6) hx hb dX12_layTerms_58 (by decide) ?_
          refine zicmp_ge (tgt := 76) hx hb dX12_layTerms_60 (by decide) hf (fun hf => ?_) (fun hf => ?_)
          · refine lv_aload_n hx hb dX12_layTerms_76 rfl (lv_at hl 0 rfl) ?_
            refine gf_X12_72 X hP (k := 0) (q := 32) rfl dX12_layTerms_77 rfl ?_
            refine lv_iconst (v := 0) hx hb dX12_layTerms_80 (by decide) ?_
            refine lv_aload_n hx hb dX12_layTerms_81 rfl (lv_at hl 0 rfl) ?_
            refine gf_X12_27 X hP (k := 0) rfl dX12_layTerms_82 ?_
            obtain ⟨g4, hf⟩ := zgd hf
            refine zast_i X hP hS (k := 32) (n := 6) (rs := []) rfl g4 dX12_layTerms_85 (fun H locs hP hS => ?_)
            refine lv_iconst (v := 0) hx hb dX12_layTerms_86 (by decide) ?_
            refine lv_istore_n (lv' := [(3, .int 0), (0, .ref (ad 0)), (1, .int x1), (2, .int x2)]) hx hb dX12_layTerms_87 rfl hl (by decide) rfl (fun ls hl => ?_)
            refine lv_iconst (v := 1) hx hb dX12_layTerms_88 (by decide) ?_
            refine lv_istore (lv' := [(4, .int 1), (3, .int 0), (0, .ref (ad 0)), (1, .int x1), (2, .int x2)]) hx hb dX12_layTerms_89 hl (by decide) rfl (fun ls hl => ?_)
            exact hc_91 ZF x1 x2 0 1 (zS s1 32 ((0 : Int32)).toNatClampNeg (s1.1 0 1)) _ _ _ (lv_sub hl [2, 3, 4, 1, 0] rfl) hP hS hf
          · refine lv_aload_n hx hb dX12_layTerms_63 rfl (lv_at hl 0 rfl) ?_
            refine gf_X12_72 X hP (k := 0) (q := 32) rfl dX12_layTerms_64 rfl ?_
            refine lv_iload_n hx hb dX12_layTerms_67 rfl (lv_at hl 3 rfl) ?_
            refine lv_iconst (v := 0) hx hb dX12_layTerms_68 (by decide) ?_
            obtain ⟨g23, hf⟩ := zgd hf
            refine zast_i X hP hS (k := 32) (n := 6) (rs := []) rfl g23 dX12_layTerms_69 (fun H locs hP hS => ?_)
            refine lv_iinc (v := (x3 + 1)) (lv' := [(3, .int (x3 + 1)), (0, .ref (ad 0)), (1, .int x1), (2, .int x2)]) hx hb dX12_layTerms_70 hl (k := 3) rfl rfl (by decide) rfl (fun ls hl => ?_)
            refine lv_goto (tgt := 57) hx hb dX12_layTerms_73 (by decide) ?_
            exact ih57 x1 x2 (x3 + 1) (zS s1 32 (x3).toNatClampNeg 0) _ _ _ (lv_sub hl [1, 2, 3, 0] rfl) hP hS hf
      intro x1 s1 H locs ls hl hP hS hf
      rw [f_X12_layTerms_c2] at hf
      refine lv_iload_n hx hb dX12_layTerms_2 rfl (lv_at hl 1 rfl) ?_
      refine lv_aload_n hx hb dX12_layTerms_3 rfl (lv_at hl 0 rfl) ?_
      refine gf_X12_56 X hP (k := 0) rfl dX12_layTerms_4 ?_
      refine zicmp_ge (tgt := 40) hx hb dX12_layTerms_7 (by decide) hf (fun hf => ?_) (fun hf => ?_)
      · refine lv_aload_n hx hb dX12_layTerms_40 rfl (lv_at hl 0 rfl) ?_
        obtain ⟨r1, s2, h3, hf⟩ := zbd_some hf
        refine zcallV X hP hS hl.1 (k := 0) (As := []) (rest := []) (cn_X12_letters h3) cw_X12_letters zp_12 rfl (by decide) rfl ml_X12_68 (by decide) rfl rfl (Nat.le_of_ble_eq_true rfl) dX12_layTerms_41 (fun H locs hP hS => ?_)
        refine lv_istore_n (lv' := [(1, .int r1), (0, .ref (ad 0))]) hx hb dX12_layTerms_44 rfl hl (by decide) rfl (fun ls hl => ?_)
        refine lv_aload_n hx hb dX12_layTerms_45 rfl (lv_at hl 1 rfl) ?_
        refine gf_X12_56 X hP (k := 0) rfl dX12_layTerms_46 ?_
        refine lv_istore_n (lv' := [(2, .int (s2.1 0 7)), (1, .int r1), (0, .ref (ad 0))]) hx hb dX12_layTerms_49 rfl hl (by decide) rfl (fun ls hl => ?_)
        refine lv_aload_n hx hb dX12_layTerms_50 rfl (lv_at hl 2 rfl) ?_
        refine lv_iconst (v := 0) hx hb dX12_layTerms_51 (by decide) ?_
        refine pf_X12_56 X hP hS (k := 0) rfl dX12_layTerms_52 (fun H locs hP hS => ?_)
        refine lv_iconst (v := 0) hx hb dX12_layTerms_55 (by decide) ?_
        refine lv_istore_n (lv' := [(3, .int 0), (2, .int (s2.1 0 7)), (1, .int r1), (0, .ref (ad 0))]) hx hb dX12_layTerms_56 rfl hl (by decide) rfl (fun ls hl => ?_)
        exact hc_57 ZF r1 (s2.1 0 7) 0 (zS s2 0 7 0) _ _ _ (lv_sub hl [3, 2, 1, 0] rfl) hP hS hf
      · refine lv_aload_n hx hb dX12_layTerms_10 rfl (lv_at hl 0 rfl) ?_
        refine gf_X12_59 X hP (k := 0) (q := 12) rfl dX12_layTerms_11 rfl ?_
        refine lv_iload_n hx hb dX12_layTerms_14 rfl (lv_at hl 1 rfl) ?_
        refine lv_aload_n hx hb dX12_layTerms_15 rfl (lv_at hl 0 rfl) ?_
        refine gf_X12_62 X hP (k := 0) (q := 4) rfl dX12_layTerms_16 rfl ?_
        refine lv_iload_n hx hb dX12_layTerms_19 rfl (lv_at hl 1 rfl) ?_
        obtain ⟨g24, hf⟩ := zgd hf
        refine zald_i X hP (k := 4) (n := 462) (rs := []) rfl g24 dX12_layTerms_20 ?_
        obtain ⟨g25, hf⟩ := zgd hf
        refine zast_i X hP hS (k := 12) (n := 462) (rs := []) rfl g25 dX12_layTerms_21 (fun H locs hP hS => ?_)
        refine lv_aload_n hx hb dX12_layTerms_22 rfl (lv_at hl 0 rfl) ?_
        refine gf_X12_65 X hP (k := 0) (q := 7) rfl dX12_layTerms_23 rfl ?_
        refine lv_aload_n hx hb dX12_layTerms_26 rfl (lv_at hl 0 rfl) ?_
        refine gf_X12_62 X hP (k := 0) (q := 4) rfl dX12_layTerms_27 rfl ?_
        refine lv_iload_n hx hb dX12_layTerms_30 rfl (lv_at hl 1 rfl) ?_
        obtain ⟨g26, hf⟩ := zgd hf
        refine zald_i X hP (k := 4) (n := 462) (rs := []) rfl g26 dX12_layTerms_31 ?_
        refine lv_iconst (v := (-1)) hx hb dX12_layTerms_32 (by decide) ?_
        obtain ⟨g27, hf⟩ := zgd hf
        refine zast_i X hP hS (k := 7) (n := 600000) (rs := []) rfl g27 dX12_layTerms_33 (fun H locs hP hS => ?_)
        refine lv_iinc (v := (x1 + 1)) (lv' := [(1, .int (x1 + 1)), (0, .ref (ad 0))]) hx hb dX12_layTerms_34 hl (k := 1) rfl rfl (by decide) rfl (fun ls hl => ?_)
        refine lv_goto (tgt := 2) hx hb dX12_layTerms_37 (by decide) ?_
        exact ih2 (x1 + 1) (zS (zS s1 12 (x1).toNatClampNeg (s1.1 4 (x1).toNatClampNeg)) 7 (((zS s1 12 (x1).toNatClampNeg (s1.1 4 (x1).toNatClampNeg)).1 4 (x1).toNatClampNeg)).toNatClampNeg (-1)) _ _ _ (lv_sub hl [1, 0] rfl) hP hS hf
  rw [f_X12_layTerms] at hf
  refine lv_iconst (v := 0) hx hb dX12_layTerms_0 (by decide) ?_
  refine lv_istore_n (lv' := [(1, .int 0), (0, .ref (ad 0))]) hx hb dX12_layTerms_1 rfl hl (by decide) rfl (fun ls hl => ?_)
  exact hc_2 ZF 0 s0 _ _ _ (lv_sub hl [1, 0] rfl) hP hS hf
theorem dX12_forget_0 : decode cX12_forget 0 = .ok (.aload_n 0, 1) := by decide +kernel
theorem dX12_forget_1 : decode cX12_forget 1 = .ok (.iconst 0, 1) := by decide +kernel
theorem dX12_forget_2 : decode cX12_forget 2 = .ok (.putfield 192, 3) := by decide +kernel
theorem dX12_forget_5 : decode cX12_forget 5 = .ok (.aload_n 0, 1) := by decide +kernel
theorem dX12_forget_6 : decode cX12_forget 6 = .ok (.iconst 0, 1) := by decide +kernel
theorem dX12_forget_7 : decode cX12_forget 7 = .ok (.putfield 195, 3) := by decide +kernel
theorem dX12_forget_10 : decode cX12_forget 10 = .ok (.return_, 1) := by decide +kernel
set_option maxHeartbeats 4000000 in
set_option maxRecDepth 100000 in
theorem cn_X12_forget {l : Launch} {cA : Nat → ClassId} {ad : Nat → Nat} {D : va_G} {E : Nat → Nat} {A : Nat → Prop}  {s0 sr : SS} {rr : Unit} (hf : f_X12_forget s0 = some (rr, sr)) : zCon Om Nm cA ad D E l yX12_forget cX12_forget 1 none 0 A [.ref (ad 0)] s0 none sr := by
  refine zstart (own := RX12) hOm (by decide) rfl (Nat.le_of_ble_eq_true rfl) ?_
  intro p e s m args below meth c X hP ls hl
  have hx := X.1
  have hb := X.2.1
  have hl : lv_has ls 1 [(0, .ref (ad 0))] := hl
  have hS : va_S A s.heap s.heap [] := va_S.rf
  rw [f_X12_forget] at hf
  refine lv_aload_n hx hb dX12_forget_0 rfl (lv_at hl 0 rfl) ?_
  refine lv_iconst (v := 0) hx hb dX12_forget_1 (by decide) ?_
  refine pf_X12_192 X hP hS (k := 0) rfl dX12_forget_2 (fun H locs hP hS => ?_)
  refine lv_aload_n hx hb dX12_forget_5 rfl (lv_at hl 0 rfl) ?_
  refine lv_iconst (v := 0) hx hb dX12_forget_6 (by decide) ?_
  refine pf_X12_195 X hP hS (k := 0) rfl dX12_forget_7 (fun H locs hP hS => ?_)
  exact zret_v X hP hS hf dX12_forget_10
theorem dX12_begin_0 : decode cX12_begin 0 = .ok (.aload_n 0, 1) := by decide +kernel
theorem dX12_begin_1 : decode cX12_begin 1 = .ok (.iload_n 1, 1) := by decide +kernel
theorem dX12_begin_2 : decode cX12_begin 2 = .ok (.putfield 3, 3) := by decide +kernel
theorem dX12_begin_5 : decode cX12_begin 5 = .ok (.aload_n 0, 1) := by decide +kernel
theorem dX12_begin_6 : decode cX12_begin 6 = .ok (.iload_n 2, 1) := by decide +kernel
theorem dX12_begin_7 : decode cX12_begin 7 = .ok (.putfield 27, 3) := by decide +kernel
theorem dX12_begin_10 : decode cX12_begin 10 = .ok (.aload_n 0, 1) := by decide +kernel
theorem dX12_begin_11 : decode cX12_begin 11 = .ok (.iconst 0, 1) := by decide +kernel
theorem dX12_begin_12 : decode cX12_begin 12 = .ok (.putfield 12, 3) := by decide +kernel
theorem dX12_begin_15 : decode cX12_begin 15 = .ok (.aload_n 0, 1) := by decide +kernel
theorem dX12_begin_16 : decode cX12_begin 16 = .ok (.iconst 0, 1) := by decide +kernel
theorem dX12_begin_17 : decode cX12_begin 17 = .ok (.putfield 89, 3) := by decide +kernel
theorem dX12_begin_20 : decode cX12_begin 20 = .ok (.aload_n 0, 1) := by decide +kernel
theorem dX12_begin_21 : decode cX12_begin 21 = .ok (.invokevirtual 198, 3) := by decide +kernel
theorem dX12_begin_24 : decode cX12_begin 24 = .ok (.aload_n 0, 1) := by decide +kernel
theorem dX12_begin_25 : decode cX12_begin 25 = .ok (.invokevirtual 189, 3) := by decide +kernel
theorem dX12_begin_28 : decode cX12_begin 28 = .ok (.iload_n 2, 1) := by decide +kernel
theorem dX12_begin_29 : decode cX12_begin 29 = .ok (.ireturn, 1) := by decide +kernel
set_option maxHeartbeats 4000000 in
set_option maxRecDepth 100000 in
theorem cn_X12_begin {l : Launch} {cA : Nat → ClassId} {ad : Nat → Nat} {D : va_G} {E : Nat → Nat} {A : Nat → Prop} {x1 : Int32} {x2 : Int32} {s0 sr : SS} {rr : Int32} (hf : f_X12_begin x1 x2 s0 = some (rr, sr)) : zCon Om Nm cA ad D E l yX12_begin cX12_begin 3 (some .int) 5 A [.ref (ad 0), .int x1, .int x2] s0 (some (.int rr)) sr := by
  refine zstart (own := RX12) hOm (by decide) rfl (Nat.le_of_ble_eq_true rfl) ?_
  intro p e s m args below meth c X hP ls hl
  have hx := X.1
  have hb := X.2.1
  have hl : lv_has ls 3 [(0, .ref (ad 0)), (1, .int x1), (2, .int x2)] := hl
  have hS : va_S A s.heap s.heap [] := va_S.rf
  rw [f_X12_begin] at hf
  refine lv_aload_n hx hb dX12_begin_0 rfl (lv_at hl 0 rfl) ?_
  refine lv_iload_n hx hb dX12_begin_1 rfl (lv_at hl 1 rfl) ?_
  refine pf_X12_3 X hP hS (k := 0) rfl dX12_begin_2 (fun H locs hP hS => ?_)
  refine lv_aload_n hx hb dX12_begin_5 rfl (lv_at hl 0 rfl) ?_
  refine lv_iload_n hx hb dX12_begin_6 rfl (lv_at hl 2 rfl) ?_
  refine pf_X12_27 X hP hS (k := 0) rfl dX12_begin_7 (fun H locs hP hS => ?_)
  refine lv_aload_n hx hb dX12_begin_10 rfl (lv_at hl 0 rfl) ?_
  refine lv_iconst (v := 0) hx hb dX12_begin_11 (by decide) ?_
  refine pf_X12_12 X hP hS (k := 0) rfl dX12_begin_12 (fun H locs hP hS => ?_)
  refine lv_aload_n hx hb dX12_begin_15 rfl (lv_at hl 0 rfl) ?_
  refine lv_iconst (v := 0) hx hb dX12_begin_16 (by decide) ?_
  refine pf_X12_89 X hP hS (k := 0) rfl dX12_begin_17 (fun H locs hP hS => ?_)
  refine lv_aload_n hx hb dX12_begin_20 rfl (lv_at hl 0 rfl) ?_
  obtain ⟨r1, s2, h3, hf⟩ := zbd_some hf
  refine zcallV X hP hS hl.1 (k := 0) (As := []) (rest := []) (cn_X12_forget h3) cw_X12_forget zp_12 rfl (by decide) rfl ml_X12_198 (by decide) rfl rfl (Nat.le_of_ble_eq_true rfl) dX12_begin_21 (fun H locs hP hS => ?_)
  refine lv_aload_n hx hb dX12_begin_24 rfl (lv_at hl 0 rfl) ?_
  obtain ⟨r4, s5, h6, hf⟩ := zbd_some hf
  refine zcallV X hP hS hl.1 (k := 0) (As := []) (rest := []) (cn_X12_layTerms h6) cw_X12_layTerms zp_12 rfl (by decide) rfl ml_X12_189 (by decide) rfl rfl (Nat.le_of_ble_eq_true rfl) dX12_begin_25 (fun H locs hP hS => ?_)
  refine lv_iload_n hx hb dX12_begin_28 rfl (lv_at hl 2 rfl) ?_
  exact zret_i X hP hS hf rfl dX12_begin_29
theorem dX12_product_0 : decode cX12_product 0 = .ok (.iload_n 2, 1) := by decide +kernel
theorem dX12_product_1 : decode cX12_product 1 = .ok (.ifCond .ne 7, 3) := by decide +kernel
theorem dX12_product_4 : decode cX12_product 4 = .ok (.iconst 0, 1) := by decide +kernel
theorem dX12_product_5 : decode cX12_product 5 = .ok (.goto 4, 3) := by decide +kernel
theorem dX12_product_8 : decode cX12_product 8 = .ok (.iload_n 3, 1) := by decide +kernel
theorem dX12_product_9 : decode cX12_product 9 = .ok (.istore 4, 2) := by decide +kernel
theorem dX12_product_11 : decode cX12_product 11 = .ok (.iload_n 1, 1) := by decide +kernel
theorem dX12_product_12 : decode cX12_product 12 = .ok (.i2l, 1) := by decide +kernel
theorem dX12_product_13 : decode cX12_product 13 = .ok (.lconst 1, 1) := by decide +kernel
theorem dX12_product_14 : decode cX12_product 14 = .ok (.ldc2_w 201, 3) := by decide +kernel
theorem dX12_product_17 : decode cX12_product 17 = .ok (.invokestatic 203, 3) := by decide +kernel
theorem dX12_product_20 : decode cX12_product 20 = .ok (.ifCond .eq 38, 3) := by decide +kernel
theorem dX12_product_23 : decode cX12_product 23 = .ok (.iload_n 2, 1) := by decide +kernel
theorem dX12_product_24 : decode cX12_product 24 = .ok (.i2l, 1) := by decide +kernel
theorem dX12_product_25 : decode cX12_product 25 = .ok (.lconst 0, 1) := by decide +kernel
theorem dX12_product_26 : decode cX12_product 26 = .ok (.ldc2_w 201, 3) := by decide +kernel
theorem dX12_product_29 : decode cX12_product 29 = .ok (.invokestatic 203, 3) := by decide +kernel
theorem dX12_product_32 : decode cX12_product 32 = .ok (.ifCond .eq 26, 3) := by decide +kernel
theorem dX12_product_35 : decode cX12_product 35 = .ok (.iload 4, 2) := by decide +kernel
theorem dX12_product_37 : decode cX12_product 37 = .ok (.i2l, 1) := by decide +kernel
theorem dX12_product_38 : decode cX12_product 38 = .ok (.lconst 0, 1) := by decide +kernel
theorem dX12_product_39 : decode cX12_product 39 = .ok (.ldc2_w 201, 3) := by decide +kernel
theorem dX12_product_42 : decode cX12_product 42 = .ok (.invokestatic 203, 3) := by decide +kernel
theorem dX12_product_45 : decode cX12_product 45 = .ok (.ifCond .eq 13, 3) := by decide +kernel
theorem dX12_product_48 : decode cX12_product 48 = .ok (.iload_n 1, 1) := by decide +kernel
theorem dX12_product_49 : decode cX12_product 49 = .ok (.iload_n 2, 1) := by decide +kernel
theorem dX12_product_50 : decode cX12_product 50 = .ok (.iadd, 1) := by decide +kernel
theorem dX12_product_51 : decode cX12_product 51 = .ok (.iload 4, 2) := by decide +kernel
theorem dX12_product_53 : decode cX12_product 53 = .ok (.iadd, 1) := by decide +kernel
theorem dX12_product_54 : decode cX12_product 54 = .ok (.iconst 5, 1) := by decide +kernel
theorem dX12_product_55 : decode cX12_product 55 = .ok (.if_icmp .le 5, 3) := by decide +kernel
theorem dX12_product_58 : decode cX12_product 58 = .ok (.iconst (-1), 1) := by decide +kernel
theorem dX12_product_59 : decode cX12_product 59 = .ok (.ireturn, 1) := by decide +kernel
theorem dX12_product_60 : decode cX12_product 60 = .ok (.aload_n 0, 1) := by decide +kernel
theorem dX12_product_61 : decode cX12_product 61 = .ok (.iload_n 2, 1) := by decide +kernel
theorem dX12_product_62 : decode cX12_product 62 = .ok (.ifCond .ne 7, 3) := by decide +kernel
theorem dX12_product_65 : decode cX12_product 65 = .ok (.iconst 1, 1) := by decide +kernel
theorem dX12_product_66 : decode cX12_product 66 = .ok (.goto 13, 3) := by decide +kernel
theorem dX12_product_69 : decode cX12_product 69 = .ok (.iload 4, 2) := by decide +kernel
theorem dX12_product_71 : decode cX12_product 71 = .ok (.ifCond .ne 7, 3) := by decide +kernel
theorem dX12_product_74 : decode cX12_product 74 = .ok (.iconst 2, 1) := by decide +kernel
theorem dX12_product_75 : decode cX12_product 75 = .ok (.goto 4, 3) := by decide +kernel
theorem dX12_product_78 : decode cX12_product 78 = .ok (.iconst 3, 1) := by decide +kernel
theorem dX12_product_79 : decode cX12_product 79 = .ok (.putfield 9, 3) := by decide +kernel
theorem dX12_product_82 : decode cX12_product 82 = .ok (.aload_n 0, 1) := by decide +kernel
theorem dX12_product_83 : decode cX12_product 83 = .ok (.getfield 23, 3) := by decide +kernel
theorem dX12_product_86 : decode cX12_product 86 = .ok (.iconst 0, 1) := by decide +kernel
theorem dX12_product_87 : decode cX12_product 87 = .ok (.iload_n 1, 1) := by decide +kernel
theorem dX12_product_88 : decode cX12_product 88 = .ok (.iastore, 1) := by decide +kernel
theorem dX12_product_89 : decode cX12_product 89 = .ok (.aload_n 0, 1) := by decide +kernel
theorem dX12_product_90 : decode cX12_product 90 = .ok (.getfield 23, 3) := by decide +kernel
theorem dX12_product_93 : decode cX12_product 93 = .ok (.iconst 1, 1) := by decide +kernel
theorem dX12_product_94 : decode cX12_product 94 = .ok (.iload_n 2, 1) := by decide +kernel
theorem dX12_product_95 : decode cX12_product 95 = .ok (.iastore, 1) := by decide +kernel
theorem dX12_product_96 : decode cX12_product 96 = .ok (.aload_n 0, 1) := by decide +kernel
theorem dX12_product_97 : decode cX12_product 97 = .ok (.getfield 23, 3) := by decide +kernel
theorem dX12_product_100 : decode cX12_product 100 = .ok (.iconst 2, 1) := by decide +kernel
theorem dX12_product_101 : decode cX12_product 101 = .ok (.iload 4, 2) := by decide +kernel
theorem dX12_product_103 : decode cX12_product 103 = .ok (.iastore, 1) := by decide +kernel
theorem dX12_product_104 : decode cX12_product 104 = .ok (.aload_n 0, 1) := by decide +kernel
theorem dX12_product_105 : decode cX12_product 105 = .ok (.iconst 0, 1) := by decide +kernel
theorem dX12_product_106 : decode cX12_product 106 = .ok (.iload_n 1, 1) := by decide +kernel
theorem dX12_product_107 : decode cX12_product 107 = .ok (.iload_n 2, 1) := by decide +kernel
theorem dX12_product_108 : decode cX12_product 108 = .ok (.iadd, 1) := by decide +kernel
theorem dX12_product_109 : decode cX12_product 109 = .ok (.iload 4, 2) := by decide +kernel
theorem dX12_product_111 : decode cX12_product 111 = .ok (.iadd, 1) := by decide +kernel
theorem dX12_product_112 : decode cX12_product 112 = .ok (.invokevirtual 207, 3) := by decide +kernel
theorem dX12_product_115 : decode cX12_product 115 = .ok (.ireturn, 1) := by decide +kernel
set_option maxHeartbeats 4000000 in
set_option maxRecDepth 100000 in
theorem cn_X12_product {l : Launch} {cA : Nat → ClassId} {ad : Nat → Nat} {D : va_G} {E : Nat → Nat} {A : Nat → Prop} {x1 : Int32} {x2 : Int32} {x3 : Int32} {s0 sr : SS} {rr : Int32} (hf : f_X12_product x1 x2 x3 s0 = some (rr, sr)) : zCon Om Nm cA ad D E l yX12_product cX12_product 5 (some .int) 6 A [.ref (ad 0), .int x1, .int x2, .int x3] s0 (some (.int rr)) sr := by
  refine zstart (own := RX12) hOm (by decide) rfl (Nat.le_of_ble_eq_true rfl) ?_
  intro p e s m args below meth c X hP ls hl
  have hx := X.1
  have hb := X.2.1
  have hl : lv_has ls 5 [(0, .ref (ad 0)), (1, .int x1), (2, .int x2), (3, .int x3)] := hl
  have hS : va_S A s.heap s.heap [] := va_S.rf
  have hc_79 : ∀ (x1 : Int32) (x2 : Int32) (x4 : Int32) (t0 : Int32) (s1 : SS) (H : Heap) (locs : List Loc) (ls : Array Slot), lv_has ls 5 [(0, .ref (ad 0)), (1, .int x1), (2, .int x2), (4, .int x4)] → va_P D ZCL (zw Om Nm cA ad s1) H → va_S A s.heap H locs → f_X12_product_c79 x1 x2 x4 t0 s1 = some (rr, sr) → W p l e (zrm 6) s m args below meth c H locs 0 0 (MQ below (zQc Om Nm cA ad D A (some (.int rr)) sr) args s 0 0 A) (F0 m 79 ls [.int t0, .ref (ad 0)]) := by
    intro x1 x2 x4 t0 s1 H locs ls hl hP hS hf
    rw [f_X12_product_c79] at hf
    refine pf_X12_9 X hP hS (k := 0) rfl dX12_product_79 (fun H locs hP hS => ?_)
    refine lv_aload_n hx hb dX12_product_82 rfl (lv_at hl 0 rfl) ?_
    refine gf_X12_23 X hP (k := 0) (q := 1) rfl dX12_product_83 rfl ?_
    refine lv_iconst (v := 0) hx hb dX12_product_86 (by decide) ?_
    refine lv_iload_n hx hb dX12_product_87 rfl (lv_at hl 1 rfl) ?_
    obtain ⟨g10, hf⟩ := zgd hf
    refine zast_i X hP hS (k := 1) (n := 3) (rs := []) rfl g10 dX12_product_88 (fun H locs hP hS => ?_)
    refine lv_aload_n hx hb dX12_product_89 rfl (lv_at hl 0 rfl) ?_
    refine gf_X12_23 X hP (k := 0) (q := 1) rfl dX12_product_90 rfl ?_
    refine lv_iconst (v := 1) hx hb dX12_product_93 (by decide) ?_
    refine lv_iload_n hx hb dX12_product_94 rfl (lv_at hl 2 rfl) ?_
    obtain ⟨g11, hf⟩ := zgd hf
    refine zast_i X hP hS (k := 1) (n := 3) (rs := []) rfl g11 dX12_product_95 (fun H locs hP hS => ?_)
    refine lv_aload_n hx hb dX12_product_96 rfl (lv_at hl 0 rfl) ?_
    refine gf_X12_23 X hP (k := 0) (q := 1) rfl dX12_product_97 rfl ?_
    refine lv_iconst (v := 2) hx hb dX12_product_100 (by decide) ?_
    refine lv_iload hx hb dX12_product_101 (lv_at hl 3 rfl) ?_
    obtain ⟨g12, hf⟩ := zgd hf
    refine zast_i X hP hS (k := 1) (n := 3) (rs := []) rfl g12 dX12_product_103 (fun H locs hP hS => ?_)
    refine lv_aload_n hx hb dX12_product_104 rfl (lv_at hl 0 rfl) ?_
    refine lv_iconst (v := 0) hx hb dX12_product_105 (by decide) ?_
    refine lv_iload_n hx hb dX12_product_106 rfl (lv_at hl 1 rfl) ?_
    refine lv_iload_n hx hb dX12_product_107 rfl (lv_at hl 2 rfl) ?_
    refine lv_iadd hx hb dX12_product_108 ?_
    refine lv_iload hx hb dX12_product_109 (lv_at hl 3 rfl) ?_
    refine lv_iadd hx hb dX12_product_111 ?_
    obtain ⟨r13, s14, h15, hf⟩ := zbd_some hf
    refine zcallV X hP hS hl.1 (k := 0) (As := [.int 0, .int ((x1 + x2) + x4)]) (rest := []) (cn_X12_begin h15) cw_X12_begin zp_12 rfl (by decide) rfl ml_X12_207 (by decide) rfl rfl (Nat.le_of_ble_eq_true rfl) dX12_product_112 (fun H locs hP hS => ?_)
    exact zret_i X hP hS hf rfl dX12_product_115
  have hc_9 : ∀ (x1 : Int32) (x2 : Int32) (t0 : Int32) (s1 : SS) (H : Heap) (locs : List Loc) (ls : Array Slot), lv_has ls 5 [(0, .ref (ad 0)), (1, .int x1), (2, .int x2)] → va_P D ZCL (zw Om Nm cA ad s1) H → va_S A s.heap H locs → f_X12_product_c9 x1 x2 t0 s1 = some (rr, sr) → W p l e (zrm 6) s m args below meth c H locs 0 0 (MQ below (zQc Om Nm cA ad D A (some (.int rr)) sr) args s 0 0 A) (F0 m 9 ls [.int t0]) := by
    intro x1 x2 t0 s1 H locs ls hl hP hS hf
    rw [f_X12_product_c9] at hf
    refine lv_istore (lv' := [(4, .int t0), (0, .ref (ad 0)), (1, .int x1), (2, .int x2)]) hx hb dX12_product_9 hl (by decide) rfl (fun ls hl => ?_)
    refine lv_iload_n hx hb dX12_product_11 rfl (lv_at hl 2 rfl) ?_
    refine lv_i2l hx hb dX12_product_12 rfl ?_
    refine lv_lconst (v := 1) hx hb dX12_product_13 (by decide) ?_
    refine zldc2 X co_X12_201 dX12_product_14 ?_
    obtain ⟨r1, s2, h3, hf⟩ := zbd_some hf
    refine zcallS X hP hS hl.1 (As := [.long (x1).toInt64, .long 1, .long 5]) (rest := []) (cn_X12_in h3) cw_X12_in ml_X12_203 (by decide) rfl rfl (Nat.le_of_ble_eq_true rfl) dX12_product_17 (fun H locs hP hS => ?_)
    refine zif_eq (tgt := 58) hx hb dX12_product_20 (by decide) hf (fun hf => ?_) (fun hf => ?_)
    · refine lv_iconst (v := (-1)) hx hb dX12_product_58 (by decide) ?_
      exact zret_i X hP hS hf rfl dX12_product_59
    · refine lv_iload_n hx hb dX12_product_23 rfl (lv_at hl 3 rfl) ?_
      refine lv_i2l hx hb dX12_product_24 rfl ?_
      refine lv_lconst (v := 0) hx hb dX12_product_25 (by decide) ?_
      refine zldc2 X co_X12_201 dX12_product_26 ?_
      obtain ⟨r4, s5, h6, hf⟩ := zbd_some hf
      refine zcallS X hP hS hl.1 (As := [.long (x2).toInt64, .long 0, .long 5]) (rest := []) (cn_X12_in h6) cw_X12_in ml_X12_203 (by decide) rfl rfl (Nat.le_of_ble_eq_true rfl) dX12_product_29 (fun H locs hP hS => ?_)
      refine zif_eq (tgt := 58) hx hb dX12_product_32 (by decide) hf (fun hf => ?_) (fun hf => ?_)
      · refine lv_iconst (v := (-1)) hx hb dX12_product_58 (by decide) ?_
        exact zret_i X hP hS hf rfl dX12_product_59
      · refine lv_iload hx hb dX12_product_35 (lv_at hl 0 rfl) ?_
        refine lv_i2l hx hb dX12_product_37 rfl ?_
        refine lv_lconst (v := 0) hx hb dX12_product_38 (by decide) ?_
        refine zldc2 X co_X12_201 dX12_product_39 ?_
        obtain ⟨r7, s8, h9, hf⟩ := zbd_some hf
        refine zcallS X hP hS hl.1 (As := [.long (t0).toInt64, .long 0, .long 5]) (rest := []) (cn_X12_in h9) cw_X12_in ml_X12_203 (by decide) rfl rfl (Nat.le_of_ble_eq_true rfl) dX12_product_42 (fun H locs hP hS => ?_)
        refine zif_eq (tgt := 58) hx hb dX12_product_45 (by decide) hf (fun hf => ?_) (fun hf => ?_)
        · refine lv_iconst (v := (-1)) hx hb dX12_product_58 (by decide) ?_
          exact zret_i X hP hS hf rfl dX12_product_59
        · refine lv_iload_n hx hb dX12_product_48 rfl (lv_at hl 2 rfl) ?_
          refine lv_iload_n hx hb dX12_product_49 rfl (lv_at hl 3 rfl) ?_
          refine lv_iadd hx hb dX12_product_50 ?_
          refine lv_iload hx hb dX12_product_51 (lv_at hl 0 rfl) ?_
          refine lv_iadd hx hb dX12_product_53 ?_
          refine lv_iconst (v := 5) hx hb dX12_product_54 (by decide) ?_
          refine zicmp_le (tgt := 60) hx hb dX12_product_55 (by decide) hf (fun hf => ?_) (fun hf => ?_)
          · refine lv_aload_n hx hb dX12_product_60 rfl (lv_at hl 1 rfl) ?_
            refine lv_iload_n hx hb dX12_product_61 rfl (lv_at hl 3 rfl) ?_
            refine zif_ne (tgt := 69) hx hb dX12_product_62 (by decide) hf (fun hf => ?_) (fun hf => ?_)
            · refine lv_iload hx hb dX12_product_69 (lv_at hl 0 rfl) ?_
              refine zif_ne (tgt := 78) hx hb dX12_product_71 (by decide) hf (fun hf => ?_) (fun hf => ?_)
              · refine lv_iconst (v := 3) hx hb dX12_product_78 (by decide) ?_
                exact hc_79 x1 x2 t0 3 s8 _ _ _ (lv_sub hl [1, 2, 3, 0] rfl) hP hS hf
              · refine lv_iconst (v := 2) hx hb dX12_product_74 (by decide) ?_
                refine lv_goto (tgt := 79) hx hb dX12_product_75 (by decide) ?_
                exact hc_79 x1 x2 t0 2 s8 _ _ _ (lv_sub hl [1, 2, 3, 0] rfl) hP hS hf
            · refine lv_iconst (v := 1) hx hb dX12_product_65 (by decide) ?_
              refine lv_goto (tgt := 79) hx hb dX12_product_66 (by decide) ?_
              exact hc_79 x1 x2 t0 1 s8 _ _ _ (lv_sub hl [1, 2, 3, 0] rfl) hP hS hf
          · refine lv_iconst (v := (-1)) hx hb dX12_product_58 (by decide) ?_
            exact zret_i X hP hS hf rfl dX12_product_59
  rw [f_X12_product] at hf
  refine lv_iload_n hx hb dX12_product_0 rfl (lv_at hl 2 rfl) ?_
  refine zif_ne (tgt := 8) hx hb dX12_product_1 (by decide) hf (fun hf => ?_) (fun hf => ?_)
  · refine lv_iload_n hx hb dX12_product_8 rfl (lv_at hl 3 rfl) ?_
    exact hc_9 x1 x2 x3 s0 _ _ _ (lv_sub hl [0, 1, 2] rfl) hP hS hf
  · refine lv_iconst (v := 0) hx hb dX12_product_4 (by decide) ?_
    refine lv_goto (tgt := 9) hx hb dX12_product_5 (by decide) ?_
    exact hc_9 x1 x2 0 s0 _ _ _ (lv_sub hl [0, 1, 2] rfl) hP hS hf
theorem dX12_blow_0 : decode cX12_blow 0 = .ok (.aload_n 0, 1) := by decide +kernel
theorem dX12_blow_1 : decode cX12_blow 1 = .ok (.getfield 3, 3) := by decide +kernel
theorem dX12_blow_4 : decode cX12_blow 4 = .ok (.ifCond .eq 6, 3) := by decide +kernel
theorem dX12_blow_7 : decode cX12_blow 7 = .ok (.bipush (-5), 2) := by decide +kernel
theorem dX12_blow_9 : decode cX12_blow 9 = .ok (.ireturn, 1) := by decide +kernel
theorem dX12_blow_10 : decode cX12_blow 10 = .ok (.aload_n 0, 1) := by decide +kernel
theorem dX12_blow_11 : decode cX12_blow 11 = .ok (.getfield 12, 3) := by decide +kernel
theorem dX12_blow_14 : decode cX12_blow 14 = .ok (.iconst 3, 1) := by decide +kernel
theorem dX12_blow_15 : decode cX12_blow 15 = .ok (.if_icmp .ne 6, 3) := by decide +kernel
theorem dX12_blow_18 : decode cX12_blow 18 = .ok (.bipush (-3), 2) := by decide +kernel
theorem dX12_blow_20 : decode cX12_blow 20 = .ok (.ireturn, 1) := by decide +kernel
theorem dX12_blow_21 : decode cX12_blow 21 = .ok (.aload_n 0, 1) := by decide +kernel
theorem dX12_blow_22 : decode cX12_blow 22 = .ok (.dup, 1) := by decide +kernel
theorem dX12_blow_23 : decode cX12_blow 23 = .ok (.getfield 12, 3) := by decide +kernel
theorem dX12_blow_26 : decode cX12_blow 26 = .ok (.iconst 1, 1) := by decide +kernel
theorem dX12_blow_27 : decode cX12_blow 27 = .ok (.iadd, 1) := by decide +kernel
theorem dX12_blow_28 : decode cX12_blow 28 = .ok (.putfield 12, 3) := by decide +kernel
theorem dX12_blow_31 : decode cX12_blow 31 = .ok (.aload_n 0, 1) := by decide +kernel
theorem dX12_blow_32 : decode cX12_blow 32 = .ok (.invokevirtual 198, 3) := by decide +kernel
theorem dX12_blow_35 : decode cX12_blow 35 = .ok (.aload_n 0, 1) := by decide +kernel
theorem dX12_blow_36 : decode cX12_blow 36 = .ok (.invokevirtual 189, 3) := by decide +kernel
theorem dX12_blow_39 : decode cX12_blow 39 = .ok (.aload_n 0, 1) := by decide +kernel
theorem dX12_blow_40 : decode cX12_blow 40 = .ok (.getfield 12, 3) := by decide +kernel
theorem dX12_blow_43 : decode cX12_blow 43 = .ok (.ireturn, 1) := by decide +kernel
set_option maxHeartbeats 4000000 in
set_option maxRecDepth 100000 in
theorem cn_X12_blow {l : Launch} {cA : Nat → ClassId} {ad : Nat → Nat} {D : va_G} {E : Nat → Nat} {A : Nat → Prop}  {s0 sr : SS} {rr : Int32} (hf : f_X12_blow s0 = some (rr, sr)) : zCon Om Nm cA ad D E l yX12_blow cX12_blow 1 (some .int) 5 A [.ref (ad 0)] s0 (some (.int rr)) sr := by
  refine zstart (own := RX12) hOm (by decide) rfl (Nat.le_of_ble_eq_true rfl) ?_
  intro p e s m args below meth c X hP ls hl
  have hx := X.1
  have hb := X.2.1
  have hl : lv_has ls 1 [(0, .ref (ad 0))] := hl
  have hS : va_S A s.heap s.heap [] := va_S.rf
  rw [f_X12_blow] at hf
  refine lv_aload_n hx hb dX12_blow_0 rfl (lv_at hl 0 rfl) ?_
  refine gf_X12_3 X hP (k := 0) rfl dX12_blow_1 ?_
  refine zif_eq (tgt := 10) hx hb dX12_blow_4 (by decide) hf (fun hf => ?_) (fun hf => ?_)
  · refine lv_aload_n hx hb dX12_blow_10 rfl (lv_at hl 0 rfl) ?_
    refine gf_X12_12 X hP (k := 0) rfl dX12_blow_11 ?_
    refine lv_iconst (v := 3) hx hb dX12_blow_14 (by decide) ?_
    refine zicmp_ne (tgt := 21) hx hb dX12_blow_15 (by decide) hf (fun hf => ?_) (fun hf => ?_)
    · refine lv_aload_n hx hb dX12_blow_21 rfl (lv_at hl 0 rfl) ?_
      refine lv_dup hx hb dX12_blow_22 rfl ?_
      refine gf_X12_12 X hP (k := 0) rfl dX12_blow_23 ?_
      refine lv_iconst (v := 1) hx hb dX12_blow_26 (by decide) ?_
      refine lv_iadd hx hb dX12_blow_27 ?_
      refine pf_X12_12 X hP hS (k := 0) rfl dX12_blow_28 (fun H locs hP hS => ?_)
      refine lv_aload_n hx hb dX12_blow_31 rfl (lv_at hl 0 rfl) ?_
      obtain ⟨r1, s2, h3, hf⟩ := zbd_some hf
      refine zcallV X hP hS hl.1 (k := 0) (As := []) (rest := []) (cn_X12_forget h3) cw_X12_forget zp_12 rfl (by decide) rfl ml_X12_198 (by decide) rfl rfl (Nat.le_of_ble_eq_true rfl) dX12_blow_32 (fun H locs hP hS => ?_)
      refine lv_aload_n hx hb dX12_blow_35 rfl (lv_at hl 0 rfl) ?_
      obtain ⟨r4, s5, h6, hf⟩ := zbd_some hf
      refine zcallV X hP hS hl.1 (k := 0) (As := []) (rest := []) (cn_X12_layTerms h6) cw_X12_layTerms zp_12 rfl (by decide) rfl ml_X12_189 (by decide) rfl rfl (Nat.le_of_ble_eq_true rfl) dX12_blow_36 (fun H locs hP hS => ?_)
      refine lv_aload_n hx hb dX12_blow_39 rfl (lv_at hl 0 rfl) ?_
      refine gf_X12_12 X hP (k := 0) rfl dX12_blow_40 ?_
      exact zret_i X hP hS hf rfl dX12_blow_43
    · refine lv_bipush (v := (-3)) hx hb dX12_blow_18 (by decide) ?_
      exact zret_i X hP hS hf rfl dX12_blow_20
  · refine lv_bipush (v := (-5)) hx hb dX12_blow_7 (by decide) ?_
    exact zret_i X hP hS hf rfl dX12_blow_9
theorem dX12_curved_0 : decode cX12_curved 0 = .ok (.aload_n 0, 1) := by decide +kernel
theorem dX12_curved_1 : decode cX12_curved 1 = .ok (.iconst 1, 1) := by decide +kernel
theorem dX12_curved_2 : decode cX12_curved 2 = .ok (.iconst 3, 1) := by decide +kernel
theorem dX12_curved_3 : decode cX12_curved 3 = .ok (.invokevirtual 207, 3) := by decide +kernel
theorem dX12_curved_6 : decode cX12_curved 6 = .ok (.ireturn, 1) := by decide +kernel
set_option maxHeartbeats 4000000 in
set_option maxRecDepth 100000 in
theorem cn_X12_curved {l : Launch} {cA : Nat → ClassId} {ad : Nat → Nat} {D : va_G} {E : Nat → Nat} {A : Nat → Prop}  {s0 sr : SS} {rr : Int32} (hf : f_X12_curved s0 = some (rr, sr)) : zCon Om Nm cA ad D E l yX12_curved cX12_curved 1 (some .int) 6 A [.ref (ad 0)] s0 (some (.int rr)) sr := by
  refine zstart (own := RX12) hOm (by decide) rfl (Nat.le_of_ble_eq_true rfl) ?_
  intro p e s m args below meth c X hP ls hl
  have hx := X.1
  have hb := X.2.1
  have hl : lv_has ls 1 [(0, .ref (ad 0))] := hl
  have hS : va_S A s.heap s.heap [] := va_S.rf
  rw [f_X12_curved] at hf
  refine lv_aload_n hx hb dX12_curved_0 rfl (lv_at hl 0 rfl) ?_
  refine lv_iconst (v := 1) hx hb dX12_curved_1 (by decide) ?_
  refine lv_iconst (v := 3) hx hb dX12_curved_2 (by decide) ?_
  obtain ⟨r1, s2, h3, hf⟩ := zbd_some hf
  refine zcallV X hP hS hl.1 (k := 0) (As := [.int 1, .int 3]) (rest := []) (cn_X12_begin h3) cw_X12_begin zp_12 rfl (by decide) rfl ml_X12_207 (by decide) rfl rfl (Nat.le_of_ble_eq_true rfl) dX12_curved_3 (fun H locs hP hS => ?_)
  exact zret_i X hP hS hf rfl dX12_curved_6
theorem dX12_curve_0 : decode cX12_curve 0 = .ok (.aload_n 0, 1) := by decide +kernel
theorem dX12_curve_1 : decode cX12_curve 1 = .ok (.getfield 3, 3) := by decide +kernel
theorem dX12_curve_4 : decode cX12_curve 4 = .ok (.iconst 1, 1) := by decide +kernel
theorem dX12_curve_5 : decode cX12_curve 5 = .ok (.if_icmp .eq 6, 3) := by decide +kernel
theorem dX12_curve_8 : decode cX12_curve 8 = .ok (.bipush (-5), 2) := by decide +kernel
theorem dX12_curve_10 : decode cX12_curve 10 = .ok (.ireturn, 1) := by decide +kernel
theorem dX12_curve_11 : decode cX12_curve 11 = .ok (.iload_n 1, 1) := by decide +kernel
theorem dX12_curve_12 : decode cX12_curve 12 = .ok (.i2l, 1) := by decide +kernel
theorem dX12_curve_13 : decode cX12_curve 13 = .ok (.lconst 1, 1) := by decide +kernel
theorem dX12_curve_14 : decode cX12_curve 14 = .ok (.ldc2_w 210, 3) := by decide +kernel
theorem dX12_curve_17 : decode cX12_curve 17 = .ok (.invokestatic 203, 3) := by decide +kernel
theorem dX12_curve_20 : decode cX12_curve 20 = .ok (.ifCond .eq 15, 3) := by decide +kernel
theorem dX12_curve_23 : decode cX12_curve 23 = .ok (.iload_n 2, 1) := by decide +kernel
theorem dX12_curve_24 : decode cX12_curve 24 = .ok (.i2l, 1) := by decide +kernel
theorem dX12_curve_25 : decode cX12_curve 25 = .ok (.lconst 0, 1) := by decide +kernel
theorem dX12_curve_26 : decode cX12_curve 26 = .ok (.ldc2_w 210, 3) := by decide +kernel
theorem dX12_curve_29 : decode cX12_curve 29 = .ok (.invokestatic 203, 3) := by decide +kernel
theorem dX12_curve_32 : decode cX12_curve 32 = .ok (.ifCond .ne 5, 3) := by decide +kernel
theorem dX12_curve_35 : decode cX12_curve 35 = .ok (.iconst (-1), 1) := by decide +kernel
theorem dX12_curve_36 : decode cX12_curve 36 = .ok (.ireturn, 1) := by decide +kernel
theorem dX12_curve_37 : decode cX12_curve 37 = .ok (.aload_n 0, 1) := by decide +kernel
theorem dX12_curve_38 : decode cX12_curve 38 = .ok (.getfield 12, 3) := by decide +kernel
theorem dX12_curve_41 : decode cX12_curve 41 = .ok (.iconst 3, 1) := by decide +kernel
theorem dX12_curve_42 : decode cX12_curve 42 = .ok (.if_icmp .ne 6, 3) := by decide +kernel
theorem dX12_curve_45 : decode cX12_curve 45 = .ok (.bipush (-3), 2) := by decide +kernel
theorem dX12_curve_47 : decode cX12_curve 47 = .ok (.ireturn, 1) := by decide +kernel
theorem dX12_curve_48 : decode cX12_curve 48 = .ok (.aload_n 0, 1) := by decide +kernel
theorem dX12_curve_49 : decode cX12_curve 49 = .ok (.getfield 32, 3) := by decide +kernel
theorem dX12_curve_52 : decode cX12_curve 52 = .ok (.aload_n 0, 1) := by decide +kernel
theorem dX12_curve_53 : decode cX12_curve 53 = .ok (.getfield 12, 3) := by decide +kernel
theorem dX12_curve_56 : decode cX12_curve 56 = .ok (.iload_n 1, 1) := by decide +kernel
theorem dX12_curve_57 : decode cX12_curve 57 = .ok (.iastore, 1) := by decide +kernel
theorem dX12_curve_58 : decode cX12_curve 58 = .ok (.aload_n 0, 1) := by decide +kernel
theorem dX12_curve_59 : decode cX12_curve 59 = .ok (.getfield 37, 3) := by decide +kernel
theorem dX12_curve_62 : decode cX12_curve 62 = .ok (.aload_n 0, 1) := by decide +kernel
theorem dX12_curve_63 : decode cX12_curve 63 = .ok (.getfield 12, 3) := by decide +kernel
theorem dX12_curve_66 : decode cX12_curve 66 = .ok (.iload_n 2, 1) := by decide +kernel
theorem dX12_curve_67 : decode cX12_curve 67 = .ok (.iastore, 1) := by decide +kernel
theorem dX12_curve_68 : decode cX12_curve 68 = .ok (.aload_n 0, 1) := by decide +kernel
theorem dX12_curve_69 : decode cX12_curve 69 = .ok (.dup, 1) := by decide +kernel
theorem dX12_curve_70 : decode cX12_curve 70 = .ok (.getfield 12, 3) := by decide +kernel
theorem dX12_curve_73 : decode cX12_curve 73 = .ok (.iconst 1, 1) := by decide +kernel
theorem dX12_curve_74 : decode cX12_curve 74 = .ok (.iadd, 1) := by decide +kernel
theorem dX12_curve_75 : decode cX12_curve 75 = .ok (.putfield 12, 3) := by decide +kernel
theorem dX12_curve_78 : decode cX12_curve 78 = .ok (.aload_n 0, 1) := by decide +kernel
theorem dX12_curve_79 : decode cX12_curve 79 = .ok (.invokevirtual 198, 3) := by decide +kernel
theorem dX12_curve_82 : decode cX12_curve 82 = .ok (.aload_n 0, 1) := by decide +kernel
theorem dX12_curve_83 : decode cX12_curve 83 = .ok (.invokevirtual 189, 3) := by decide +kernel
theorem dX12_curve_86 : decode cX12_curve 86 = .ok (.aload_n 0, 1) := by decide +kernel
theorem dX12_curve_87 : decode cX12_curve 87 = .ok (.getfield 12, 3) := by decide +kernel
theorem dX12_curve_90 : decode cX12_curve 90 = .ok (.iconst 1, 1) := by decide +kernel
theorem dX12_curve_91 : decode cX12_curve 91 = .ok (.isub, 1) := by decide +kernel
theorem dX12_curve_92 : decode cX12_curve 92 = .ok (.ireturn, 1) := by decide +kernel
set_option maxHeartbeats 4000000 in
set_option maxRecDepth 100000 in
theorem cn_X12_curve {l : Launch} {cA : Nat → ClassId} {ad : Nat → Nat} {D : va_G} {E : Nat → Nat} {A : Nat → Prop} {x1 : Int32} {x2 : Int32} {s0 sr : SS} {rr : Int32} (hf : f_X12_curve x1 x2 s0 = some (rr, sr)) : zCon Om Nm cA ad D E l yX12_curve cX12_curve 3 (some .int) 5 A [.ref (ad 0), .int x1, .int x2] s0 (some (.int rr)) sr := by
  refine zstart (own := RX12) hOm (by decide) rfl (Nat.le_of_ble_eq_true rfl) ?_
  intro p e s m args below meth c X hP ls hl
  have hx := X.1
  have hb := X.2.1
  have hl : lv_has ls 3 [(0, .ref (ad 0)), (1, .int x1), (2, .int x2)] := hl
  have hS : va_S A s.heap s.heap [] := va_S.rf
  rw [f_X12_curve] at hf
  refine lv_aload_n hx hb dX12_curve_0 rfl (lv_at hl 0 rfl) ?_
  refine gf_X12_3 X hP (k := 0) rfl dX12_curve_1 ?_
  refine lv_iconst (v := 1) hx hb dX12_curve_4 (by decide) ?_
  refine zicmp_eq (tgt := 11) hx hb dX12_curve_5 (by decide) hf (fun hf => ?_) (fun hf => ?_)
  · refine lv_iload_n hx hb dX12_curve_11 rfl (lv_at hl 1 rfl) ?_
    refine lv_i2l hx hb dX12_curve_12 rfl ?_
    refine lv_lconst (v := 1) hx hb dX12_curve_13 (by decide) ?_
    refine zldc2 X co_X12_210 dX12_curve_14 ?_
    obtain ⟨r1, s2, h3, hf⟩ := zbd_some hf
    refine zcallS X hP hS hl.1 (As := [.long (x1).toInt64, .long 1, .long 9]) (rest := []) (cn_X12_in h3) cw_X12_in ml_X12_203 (by decide) rfl rfl (Nat.le_of_ble_eq_true rfl) dX12_curve_17 (fun H locs hP hS => ?_)
    refine zif_eq (tgt := 35) hx hb dX12_curve_20 (by decide) hf (fun hf => ?_) (fun hf => ?_)
    · refine lv_iconst (v := (-1)) hx hb dX12_curve_35 (by decide) ?_
      exact zret_i X hP hS hf rfl dX12_curve_36
    · refine lv_iload_n hx hb dX12_curve_23 rfl (lv_at hl 2 rfl) ?_
      refine lv_i2l hx hb dX12_curve_24 rfl ?_
      refine lv_lconst (v := 0) hx hb dX12_curve_25 (by decide) ?_
      refine zldc2 X co_X12_210 dX12_curve_26 ?_
      obtain ⟨r4, s5, h6, hf⟩ := zbd_some hf
      refine zcallS X hP hS hl.1 (As := [.long (x2).toInt64, .long 0, .long 9]) (rest := []) (cn_X12_in h6) cw_X12_in ml_X12_203 (by decide) rfl rfl (Nat.le_of_ble_eq_true rfl) dX12_curve_29 (fun H locs hP hS => ?_)
      refine zif_ne (tgt := 37) hx hb dX12_curve_32 (by decide) hf (fun hf => ?_) (fun hf => ?_)
      · refine lv_aload_n hx hb dX12_curve_37 rfl (lv_at hl 0 rfl) ?_
        refine gf_X12_12 X hP (k := 0) rfl dX12_curve_38 ?_
        refine lv_iconst (v := 3) hx hb dX12_curve_41 (by decide) ?_
        refine zicmp_ne (tgt := 48) hx hb dX12_curve_42 (by decide) hf (fun hf => ?_) (fun hf => ?_)
        · refine lv_aload_n hx hb dX12_curve_48 rfl (lv_at hl 0 rfl) ?_
          refine gf_X12_32 X hP (k := 0) (q := 2) rfl dX12_curve_49 rfl ?_
          refine lv_aload_n hx hb dX12_curve_52 rfl (lv_at hl 0 rfl) ?_
          refine gf_X12_12 X hP (k := 0) rfl dX12_curve_53 ?_
          refine lv_iload_n hx hb dX12_curve_56 rfl (lv_at hl 1 rfl) ?_
          obtain ⟨g7, hf⟩ := zgd hf
          refine zast_i X hP hS (k := 2) (n := 3) (rs := []) rfl g7 dX12_curve_57 (fun H locs hP hS => ?_)
          refine lv_aload_n hx hb dX12_curve_58 rfl (lv_at hl 0 rfl) ?_
          refine gf_X12_37 X hP (k := 0) (q := 3) rfl dX12_curve_59 rfl ?_
          refine lv_aload_n hx hb dX12_curve_62 rfl (lv_at hl 0 rfl) ?_
          refine gf_X12_12 X hP (k := 0) rfl dX12_curve_63 ?_
          refine lv_iload_n hx hb dX12_curve_66 rfl (lv_at hl 2 rfl) ?_
          obtain ⟨g8, hf⟩ := zgd hf
          refine zast_i X hP hS (k := 3) (n := 3) (rs := []) rfl g8 dX12_curve_67 (fun H locs hP hS => ?_)
          refine lv_aload_n hx hb dX12_curve_68 rfl (lv_at hl 0 rfl) ?_
          refine lv_dup hx hb dX12_curve_69 rfl ?_
          refine gf_X12_12 X hP (k := 0) rfl dX12_curve_70 ?_
          refine lv_iconst (v := 1) hx hb dX12_curve_73 (by decide) ?_
          refine lv_iadd hx hb dX12_curve_74 ?_
          refine pf_X12_12 X hP hS (k := 0) rfl dX12_curve_75 (fun H locs hP hS => ?_)
          refine lv_aload_n hx hb dX12_curve_78 rfl (lv_at hl 0 rfl) ?_
          obtain ⟨r9, s10, h11, hf⟩ := zbd_some hf
          refine zcallV X hP hS hl.1 (k := 0) (As := []) (rest := []) (cn_X12_forget h11) cw_X12_forget zp_12 rfl (by decide) rfl ml_X12_198 (by decide) rfl rfl (Nat.le_of_ble_eq_true rfl) dX12_curve_79 (fun H locs hP hS => ?_)
          refine lv_aload_n hx hb dX12_curve_82 rfl (lv_at hl 0 rfl) ?_
          obtain ⟨r12, s13, h14, hf⟩ := zbd_some hf
          refine zcallV X hP hS hl.1 (k := 0) (As := []) (rest := []) (cn_X12_layTerms h14) cw_X12_layTerms zp_12 rfl (by decide) rfl ml_X12_189 (by decide) rfl rfl (Nat.le_of_ble_eq_true rfl) dX12_curve_83 (fun H locs hP hS => ?_)
          refine lv_aload_n hx hb dX12_curve_86 rfl (lv_at hl 0 rfl) ?_
          refine gf_X12_12 X hP (k := 0) rfl dX12_curve_87 ?_
          refine lv_iconst (v := 1) hx hb dX12_curve_90 (by decide) ?_
          refine lv_isub hx hb dX12_curve_91 ?_
          exact zret_i X hP hS hf rfl dX12_curve_92
        · refine lv_bipush (v := (-3)) hx hb dX12_curve_45 (by decide) ?_
          exact zret_i X hP hS hf rfl dX12_curve_47
      · refine lv_iconst (v := (-1)) hx hb dX12_curve_35 (by decide) ?_
        exact zret_i X hP hS hf rfl dX12_curve_36
  · refine lv_bipush (v := (-5)) hx hb dX12_curve_8 (by decide) ?_
    exact zret_i X hP hS hf rfl dX12_curve_10
theorem dX12_conics_0 : decode cX12_conics 0 = .ok (.aload_n 0, 1) := by decide +kernel
theorem dX12_conics_1 : decode cX12_conics 1 = .ok (.iconst 2, 1) := by decide +kernel
theorem dX12_conics_2 : decode cX12_conics 2 = .ok (.iconst 5, 1) := by decide +kernel
theorem dX12_conics_3 : decode cX12_conics 3 = .ok (.invokevirtual 207, 3) := by decide +kernel
theorem dX12_conics_6 : decode cX12_conics 6 = .ok (.ireturn, 1) := by decide +kernel
set_option maxHeartbeats 4000000 in
set_option maxRecDepth 100000 in
theorem cn_X12_conics {l : Launch} {cA : Nat → ClassId} {ad : Nat → Nat} {D : va_G} {E : Nat → Nat} {A : Nat → Prop}  {s0 sr : SS} {rr : Int32} (hf : f_X12_conics s0 = some (rr, sr)) : zCon Om Nm cA ad D E l yX12_conics cX12_conics 1 (some .int) 6 A [.ref (ad 0)] s0 (some (.int rr)) sr := by
  refine zstart (own := RX12) hOm (by decide) rfl (Nat.le_of_ble_eq_true rfl) ?_
  intro p e s m args below meth c X hP ls hl
  have hx := X.1
  have hb := X.2.1
  have hl : lv_has ls 1 [(0, .ref (ad 0))] := hl
  have hS : va_S A s.heap s.heap [] := va_S.rf
  rw [f_X12_conics] at hf
  refine lv_aload_n hx hb dX12_conics_0 rfl (lv_at hl 0 rfl) ?_
  refine lv_iconst (v := 2) hx hb dX12_conics_1 (by decide) ?_
  refine lv_iconst (v := 5) hx hb dX12_conics_2 (by decide) ?_
  obtain ⟨r1, s2, h3, hf⟩ := zbd_some hf
  refine zcallV X hP hS hl.1 (k := 0) (As := [.int 2, .int 5]) (rest := []) (cn_X12_begin h3) cw_X12_begin zp_12 rfl (by decide) rfl ml_X12_207 (by decide) rfl rfl (Nat.le_of_ble_eq_true rfl) dX12_conics_3 (fun H locs hP hS => ?_)
  exact zret_i X hP hS hf rfl dX12_conics_6
theorem dX12_eulerOfSpace_0 : decode cX12_eulerOfSpace 0 = .ok (.aload_n 0, 1) := by decide +kernel
theorem dX12_eulerOfSpace_1 : decode cX12_eulerOfSpace 1 = .ok (.getfield 3, 3) := by decide +kernel
theorem dX12_eulerOfSpace_4 : decode cX12_eulerOfSpace 4 = .ok (.iconst 2, 1) := by decide +kernel
theorem dX12_eulerOfSpace_5 : decode cX12_eulerOfSpace 5 = .ok (.if_icmp .ne 6, 3) := by decide +kernel
theorem dX12_eulerOfSpace_8 : decode cX12_eulerOfSpace 8 = .ok (.bipush 12, 2) := by decide +kernel
theorem dX12_eulerOfSpace_10 : decode cX12_eulerOfSpace 10 = .ok (.ireturn, 1) := by decide +kernel
theorem dX12_eulerOfSpace_11 : decode cX12_eulerOfSpace 11 = .ok (.aload_n 0, 1) := by decide +kernel
theorem dX12_eulerOfSpace_12 : decode cX12_eulerOfSpace 12 = .ok (.getfield 3, 3) := by decide +kernel
theorem dX12_eulerOfSpace_15 : decode cX12_eulerOfSpace 15 = .ok (.ifCond .ne 7, 3) := by decide +kernel
theorem dX12_eulerOfSpace_18 : decode cX12_eulerOfSpace 18 = .ok (.iconst 1, 1) := by decide +kernel
theorem dX12_eulerOfSpace_19 : decode cX12_eulerOfSpace 19 = .ok (.goto 4, 3) := by decide +kernel
theorem dX12_eulerOfSpace_22 : decode cX12_eulerOfSpace 22 = .ok (.iconst 4, 1) := by decide +kernel
theorem dX12_eulerOfSpace_23 : decode cX12_eulerOfSpace 23 = .ok (.istore_n 1, 1) := by decide +kernel
theorem dX12_eulerOfSpace_24 : decode cX12_eulerOfSpace 24 = .ok (.aload_n 0, 1) := by decide +kernel
theorem dX12_eulerOfSpace_25 : decode cX12_eulerOfSpace 25 = .ok (.getfield 3, 3) := by decide +kernel
theorem dX12_eulerOfSpace_28 : decode cX12_eulerOfSpace 28 = .ok (.ifCond .ne 44, 3) := by decide +kernel
theorem dX12_eulerOfSpace_31 : decode cX12_eulerOfSpace 31 = .ok (.iconst 0, 1) := by decide +kernel
theorem dX12_eulerOfSpace_32 : decode cX12_eulerOfSpace 32 = .ok (.istore_n 2, 1) := by decide +kernel
theorem dX12_eulerOfSpace_33 : decode cX12_eulerOfSpace 33 = .ok (.iload_n 2, 1) := by decide +kernel
theorem dX12_eulerOfSpace_34 : decode cX12_eulerOfSpace 34 = .ok (.aload_n 0, 1) := by decide +kernel
theorem dX12_eulerOfSpace_35 : decode cX12_eulerOfSpace 35 = .ok (.getfield 9, 3) := by decide +kernel
theorem dX12_eulerOfSpace_38 : decode cX12_eulerOfSpace 38 = .ok (.if_icmp .ge 20, 3) := by decide +kernel
theorem dX12_eulerOfSpace_41 : decode cX12_eulerOfSpace 41 = .ok (.iload_n 1, 1) := by decide +kernel
theorem dX12_eulerOfSpace_42 : decode cX12_eulerOfSpace 42 = .ok (.aload_n 0, 1) := by decide +kernel
theorem dX12_eulerOfSpace_43 : decode cX12_eulerOfSpace 43 = .ok (.getfield 23, 3) := by decide +kernel
theorem dX12_eulerOfSpace_46 : decode cX12_eulerOfSpace 46 = .ok (.iload_n 2, 1) := by decide +kernel
theorem dX12_eulerOfSpace_47 : decode cX12_eulerOfSpace 47 = .ok (.iaload, 1) := by decide +kernel
theorem dX12_eulerOfSpace_48 : decode cX12_eulerOfSpace 48 = .ok (.iconst 1, 1) := by decide +kernel
theorem dX12_eulerOfSpace_49 : decode cX12_eulerOfSpace 49 = .ok (.iadd, 1) := by decide +kernel
theorem dX12_eulerOfSpace_50 : decode cX12_eulerOfSpace 50 = .ok (.imul, 1) := by decide +kernel
theorem dX12_eulerOfSpace_51 : decode cX12_eulerOfSpace 51 = .ok (.istore_n 1, 1) := by decide +kernel
theorem dX12_eulerOfSpace_52 : decode cX12_eulerOfSpace 52 = .ok (.iinc 2 1, 3) := by decide +kernel
theorem dX12_eulerOfSpace_55 : decode cX12_eulerOfSpace 55 = .ok (.goto (-22), 3) := by decide +kernel
theorem dX12_eulerOfSpace_58 : decode cX12_eulerOfSpace 58 = .ok (.iload_n 1, 1) := by decide +kernel
theorem dX12_eulerOfSpace_59 : decode cX12_eulerOfSpace 59 = .ok (.aload_n 0, 1) := by decide +kernel
theorem dX12_eulerOfSpace_60 : decode cX12_eulerOfSpace 60 = .ok (.getfield 12, 3) := by decide +kernel
theorem dX12_eulerOfSpace_63 : decode cX12_eulerOfSpace 63 = .ok (.aload_n 0, 1) := by decide +kernel
theorem dX12_eulerOfSpace_64 : decode cX12_eulerOfSpace 64 = .ok (.getfield 27, 3) := by decide +kernel
theorem dX12_eulerOfSpace_67 : decode cX12_eulerOfSpace 67 = .ok (.iconst 1, 1) := by decide +kernel
theorem dX12_eulerOfSpace_68 : decode cX12_eulerOfSpace 68 = .ok (.isub, 1) := by decide +kernel
theorem dX12_eulerOfSpace_69 : decode cX12_eulerOfSpace 69 = .ok (.imul, 1) := by decide +kernel
theorem dX12_eulerOfSpace_70 : decode cX12_eulerOfSpace 70 = .ok (.iadd, 1) := by decide +kernel
theorem dX12_eulerOfSpace_71 : decode cX12_eulerOfSpace 71 = .ok (.ireturn, 1) := by decide +kernel
theorem dX12_eulerOfSpace_72 : decode cX12_eulerOfSpace 72 = .ok (.iconst 0, 1) := by decide +kernel
theorem dX12_eulerOfSpace_73 : decode cX12_eulerOfSpace 73 = .ok (.istore_n 2, 1) := by decide +kernel
theorem dX12_eulerOfSpace_74 : decode cX12_eulerOfSpace 74 = .ok (.iload_n 2, 1) := by decide +kernel
theorem dX12_eulerOfSpace_75 : decode cX12_eulerOfSpace 75 = .ok (.aload_n 0, 1) := by decide +kernel
theorem dX12_eulerOfSpace_76 : decode cX12_eulerOfSpace 76 = .ok (.getfield 12, 3) := by decide +kernel
theorem dX12_eulerOfSpace_79 : decode cX12_eulerOfSpace 79 = .ok (.if_icmp .ge 22, 3) := by decide +kernel
theorem dX12_eulerOfSpace_82 : decode cX12_eulerOfSpace 82 = .ok (.iload_n 1, 1) := by decide +kernel
theorem dX12_eulerOfSpace_83 : decode cX12_eulerOfSpace 83 = .ok (.iconst 2, 1) := by decide +kernel
theorem dX12_eulerOfSpace_84 : decode cX12_eulerOfSpace 84 = .ok (.iconst 2, 1) := by decide +kernel
theorem dX12_eulerOfSpace_85 : decode cX12_eulerOfSpace 85 = .ok (.aload_n 0, 1) := by decide +kernel
theorem dX12_eulerOfSpace_86 : decode cX12_eulerOfSpace 86 = .ok (.getfield 37, 3) := by decide +kernel
theorem dX12_eulerOfSpace_89 : decode cX12_eulerOfSpace 89 = .ok (.iload_n 2, 1) := by decide +kernel
theorem dX12_eulerOfSpace_90 : decode cX12_eulerOfSpace 90 = .ok (.iaload, 1) := by decide +kernel
theorem dX12_eulerOfSpace_91 : decode cX12_eulerOfSpace 91 = .ok (.imul, 1) := by decide +kernel
theorem dX12_eulerOfSpace_92 : decode cX12_eulerOfSpace 92 = .ok (.isub, 1) := by decide +kernel
theorem dX12_eulerOfSpace_93 : decode cX12_eulerOfSpace 93 = .ok (.iadd, 1) := by decide +kernel
theorem dX12_eulerOfSpace_94 : decode cX12_eulerOfSpace 94 = .ok (.istore_n 1, 1) := by decide +kernel
theorem dX12_eulerOfSpace_95 : decode cX12_eulerOfSpace 95 = .ok (.iinc 2 1, 3) := by decide +kernel
theorem dX12_eulerOfSpace_98 : decode cX12_eulerOfSpace 98 = .ok (.goto (-24), 3) := by decide +kernel
theorem dX12_eulerOfSpace_101 : decode cX12_eulerOfSpace 101 = .ok (.iload_n 1, 1) := by decide +kernel
theorem dX12_eulerOfSpace_102 : decode cX12_eulerOfSpace 102 = .ok (.ireturn, 1) := by decide +kernel
set_option maxHeartbeats 4000000 in
set_option maxRecDepth 100000 in
theorem cn_X12_eulerOfSpace {l : Launch} {cA : Nat → ClassId} {ad : Nat → Nat} {D : va_G} {E : Nat → Nat} {A : Nat → Prop}  {s0 sr : SS} {rr : Int32} (hf : f_X12_eulerOfSpace s0 = some (rr, sr)) : zCon Om Nm cA ad D E l yX12_eulerOfSpace cX12_eulerOfSpace 3 (some .int) 0 A [.ref (ad 0)] s0 (some (.int rr)) sr := by
  refine zstart (own := RX12) hOm (by decide) rfl (Nat.le_of_ble_eq_true rfl) ?_
  intro p e s m args below meth c X hP ls hl
  have hx := X.1
  have hb := X.2.1
  have hl : lv_has ls 3 [(0, .ref (ad 0))] := hl
  have hS : va_S A s.heap s.heap [] := va_S.rf
  have hc_74 : ∀ (n74 : Nat) (x1 : Int32) (x2 : Int32) (s1 : SS) (H : Heap) (locs : List Loc) (ls : Array Slot), lv_has ls 3 [(0, .ref (ad 0)), (1, .int x1), (2, .int x2)] → va_P D ZCL (zw Om Nm cA ad s1) H → va_S A s.heap H locs → f_X12_eulerOfSpace_c74 n74 x1 x2 s1 = some (rr, sr) → W p l e (zrm 0) s m args below meth c H locs 0 0 (MQ below (zQc Om Nm cA ad D A (some (.int rr)) sr) args s 0 0 A) (F0 m 74 ls []) := by
    intro n74
    induction n74 with
    | zero =>
      intro x1 x2 s1 H locs ls hl hP hS hf
      rw [f_X12_eulerOfSpace_c74] at hf
      cases hf
    | succ n74 ih74 =>
      intro x1 x2 s1 H locs ls hl hP hS hf
      rw [f_X12_eulerOfSpace_c74] at hf
      refine lv_iload_n hx hb dX12_eulerOfSpace_74 rfl (lv_at hl 2 rfl) ?_
      refine lv_aload_n hx hb dX12_eulerOfSpace_75 rfl (lv_at hl 0 rfl) ?_
      refine gf_X12_12 X hP (k := 0) rfl dX12_eulerOfSpace_76 ?_
      refine zicmp_ge (tgt := 101) hx hb dX12_eulerOfSpace_79 (by decide) hf (fun hf => ?_) (fun hf => ?_)
      · refine lv_iload_n hx hb dX12_eulerOfSpace_101 rfl (lv_at hl 1 rfl) ?_
        exact zret_i X hP hS hf rfl dX12_eulerOfSpace_102
      · refine lv_iload_n hx hb dX12_eulerOfSpace_82 rfl (lv_at hl 1 rfl) ?_
        refine lv_iconst (v := 2) hx hb dX12_eulerOfSpace_83 (by decide) ?_
        refine lv_iconst (v := 2) hx hb dX12_eulerOfSpace_84 (by decide) ?_
        refine lv_aload_n hx hb dX12_eulerOfSpace_85 rfl (lv_at hl 0 rfl) ?_
        refine gf_X12_37 X hP (k := 0) (q := 3) rfl dX12_eulerOfSpace_86 rfl ?_
        refine lv_iload_n hx hb dX12_eulerOfSpace_89 rfl (lv_at hl 2 rfl) ?_
        obtain ⟨g1, hf⟩ := zgd hf
        refine zald_i X hP (k := 3) (n := 3) (rs := []) rfl g1 dX12_eulerOfSpace_90 ?_
        refine lv_imul hx hb dX12_eulerOfSpace_91 ?_
        refine lv_isub hx hb dX12_eulerOfSpace_92 ?_
        refine lv_iadd hx hb dX12_eulerOfSpace_93 ?_
        refine lv_istore_n (lv' := [(1, .int (x1 + ((2 : Int32) - ((2 : Int32) * (s1.1 3 (x2).toNatClampNeg))))), (0, .ref (ad 0)), (2, .int x2)]) hx hb dX12_eulerOfSpace_94 rfl hl (by decide) rfl (fun ls hl => ?_)
        refine lv_iinc (v := (x2 + 1)) (lv' := [(2, .int (x2 + 1)), (1, .int (x1 + ((2 : Int32) - ((2 : Int32) * (s1.1 3 (x2).toNatClampNeg))))), (0, .ref (ad 0))]) hx hb dX12_eulerOfSpace_95 hl (k := 2) rfl rfl (by decide) rfl (fun ls hl => ?_)
        refine lv_goto (tgt := 74) hx hb dX12_eulerOfSpace_98 (by decide) ?_
        exact ih74 (x1 + ((2 : Int32) - ((2 : Int32) * (s1.1 3 (x2).toNatClampNeg)))) (x2 + 1) s1 _ _ _ (lv_sub hl [2, 1, 0] rfl) hP hS hf
  have hc_33 : ∀ (n33 : Nat) (x1 : Int32) (x2 : Int32) (s1 : SS) (H : Heap) (locs : List Loc) (ls : Array Slot), lv_has ls 3 [(0, .ref (ad 0)), (1, .int x1), (2, .int x2)] → va_P D ZCL (zw Om Nm cA ad s1) H → va_S A s.heap H locs → f_X12_eulerOfSpace_c33 n33 x1 x2 s1 = some (rr, sr) → W p l e (zrm 0) s m args below meth c H locs 0 0 (MQ below (zQc Om Nm cA ad D A (some (.int rr)) sr) args s 0 0 A) (F0 m 33 ls []) := by
    intro n33
    induction n33 with
    | zero =>
      intro x1 x2 s1 H locs ls hl hP hS hf
      rw [f_X12_eulerOfSpace_c33] at hf
      cases hf
    | succ n33 ih33 =>
      intro x1 x2 s1 H locs ls hl hP hS hf
      rw [f_X12_eulerOfSpace_c33] at hf
      refine lv_iload_n hx hb dX12_eulerOfSpace_33 rfl (lv_at hl 2 rfl) ?_
      refine lv_aload_n hx hb dX12_eulerOfSpace_34 rfl (lv_at hl 0 rfl) ?_
      refine gf_X12_9 X hP (k := 0) rfl dX12_eulerOfSpace_35 ?_
      refine zicmp_ge (tgt := 58) hx hb dX12_eulerOfSpace_38 (by decide) hf (fun hf => ?_) (fun hf => ?_)
      · refine lv_iload_n hx hb dX12_eulerOfSpace_58 rfl (lv_at hl 1 rfl) ?_
        refine lv_aload_n hx hb dX12_eulerOfSpace_59 rfl (lv_at hl 0 rfl) ?_
        refine gf_X12_12 X hP (k := 0) rfl dX12_eulerOfSpace_60 ?_
        refine lv_aload_n hx hb dX12_eulerOfSpace_63 rfl (lv_at hl 0 rfl) ?_
        refine gf_X12_27 X hP (k := 0) rfl dX12_eulerOfSpace_64 ?_
        refine lv_iconst (v := 1) hx hb dX12_eulerOfSpace_67 (by decide) ?_
        refine lv_isub hx hb dX12_eulerOfSpace_68 ?_
        refine lv_imul hx hb dX12_eulerOfSpace_69 ?_
        refine lv_iadd hx hb dX12_eulerOfSpace_70 ?_
        exact zret_i X hP hS hf rfl dX12_eulerOfSpace_71
      · refine lv_iload_n hx hb dX12_eulerOfSpace_41 rfl (lv_at hl 1 rfl) ?_
        refine lv_aload_n hx hb dX12_eulerOfSpace_42 rfl (lv_at hl 0 rfl) ?_
        refine gf_X12_23 X hP (k := 0) (q := 1) rfl dX12_eulerOfSpace_43 rfl ?_
        refine lv_iload_n hx hb dX12_eulerOfSpace_46 rfl (lv_at hl 2 rfl) ?_
        obtain ⟨g2, hf⟩ := zgd hf
        refine zald_i X hP (k := 1) (n := 3) (rs := []) rfl g2 dX12_eulerOfSpace_47 ?_
        refine lv_iconst (v := 1) hx hb dX12_eulerOfSpace_48 (by decide) ?_
        refine lv_iadd hx hb dX12_eulerOfSpace_49 ?_
        refine lv_imul hx hb dX12_eulerOfSpace_50 ?_
        refine lv_istore_n (lv' := [(1, .int (x1 * ((s1.1 1 (x2).toNatClampNeg) + (1 : Int32)))), (0, .ref (ad 0)), (2, .int x2)]) hx hb dX12_eulerOfSpace_51 rfl hl (by decide) rfl (fun ls hl => ?_)
        refine lv_iinc (v := (x2 + 1)) (lv' := [(2, .int (x2 + 1)), (1, .int (x1 * ((s1.1 1 (x2).toNatClampNeg) + (1 : Int32)))), (0, .ref (ad 0))]) hx hb dX12_eulerOfSpace_52 hl (k := 2) rfl rfl (by decide) rfl (fun ls hl => ?_)
        refine lv_goto (tgt := 33) hx hb dX12_eulerOfSpace_55 (by decide) ?_
        exact ih33 (x1 * ((s1.1 1 (x2).toNatClampNeg) + (1 : Int32))) (x2 + 1) s1 _ _ _ (lv_sub hl [2, 1, 0] rfl) hP hS hf
  have hc_23 : ∀ (t0 : Int32) (s1 : SS) (H : Heap) (locs : List Loc) (ls : Array Slot), lv_has ls 3 [(0, .ref (ad 0))] → va_P D ZCL (zw Om Nm cA ad s1) H → va_S A s.heap H locs → f_X12_eulerOfSpace_c23 t0 s1 = some (rr, sr) → W p l e (zrm 0) s m args below meth c H locs 0 0 (MQ below (zQc Om Nm cA ad D A (some (.int rr)) sr) args s 0 0 A) (F0 m 23 ls [.int t0]) := by
    intro t0 s1 H locs ls hl hP hS hf
    rw [f_X12_eulerOfSpace_c23] at hf
    refine lv_istore_n (lv' := [(1, .int t0), (0, .ref (ad 0))]) hx hb dX12_eulerOfSpace_23 rfl hl (by decide) rfl (fun ls hl => ?_)
    refine lv_aload_n hx hb dX12_eulerOfSpace_24 rfl (lv_at hl 1 rfl) ?_
    refine gf_X12_3 X hP (k := 0) rfl dX12_eulerOfSpace_25 ?_
    refine zif_ne (tgt := 72) hx hb dX12_eulerOfSpace_28 (by decide) hf (fun hf => ?_) (fun hf => ?_)
    · refine lv_iconst (v := 0) hx hb dX12_eulerOfSpace_72 (by decide) ?_
      refine lv_istore_n (lv' := [(2, .int 0), (1, .int t0), (0, .ref (ad 0))]) hx hb dX12_eulerOfSpace_73 rfl hl (by decide) rfl (fun ls hl => ?_)
      exact hc_74 ZF t0 0 s1 _ _ _ (lv_sub hl [2, 1, 0] rfl) hP hS hf
    · refine lv_iconst (v := 0) hx hb dX12_eulerOfSpace_31 (by decide) ?_
      refine lv_istore_n (lv' := [(2, .int 0), (1, .int t0), (0, .ref (ad 0))]) hx hb dX12_eulerOfSpace_32 rfl hl (by decide) rfl (fun ls hl => ?_)
      exact hc_33 ZF t0 0 s1 _ _ _ (lv_sub hl [2, 1, 0] rfl) hP hS hf
  rw [f_X12_eulerOfSpace] at hf
  refine lv_aload_n hx hb dX12_eulerOfSpace_0 rfl (lv_at hl 0 rfl) ?_
  refine gf_X12_3 X hP (k := 0) rfl dX12_eulerOfSpace_1 ?_
  refine lv_iconst (v := 2) hx hb dX12_eulerOfSpace_4 (by decide) ?_
  refine zicmp_ne (tgt := 11) hx hb dX12_eulerOfSpace_5 (by decide) hf (fun hf => ?_) (fun hf => ?_)
  · refine lv_aload_n hx hb dX12_eulerOfSpace_11 rfl (lv_at hl 0 rfl) ?_
    refine gf_X12_3 X hP (k := 0) rfl dX12_eulerOfSpace_12 ?_
    refine zif_ne (tgt := 22) hx hb dX12_eulerOfSpace_15 (by decide) hf (fun hf => ?_) (fun hf => ?_)
    · refine lv_iconst (v := 4) hx hb dX12_eulerOfSpace_22 (by decide) ?_
      exact hc_23 4 s0 _ _ _ (lv_sub hl [0] rfl) hP hS hf
    · refine lv_iconst (v := 1) hx hb dX12_eulerOfSpace_18 (by decide) ?_
      refine lv_goto (tgt := 23) hx hb dX12_eulerOfSpace_19 (by decide) ?_
      exact hc_23 1 s0 _ _ _ (lv_sub hl [0] rfl) hP hS hf
  · refine lv_bipush (v := 12) hx hb dX12_eulerOfSpace_8 (by decide) ?_
    exact zret_i X hP hS hf rfl dX12_eulerOfSpace_10
theorem dX12_space_0 : decode cX12_space 0 = .ok (.iload_n 1, 1) := by decide +kernel
theorem dX12_space_1 : decode cX12_space 1 = .ok (.tableswitch 81 0 5 #[39, 44, 49, 54, 59, 76], 39) := by decide +kernel
theorem dX12_space_40 : decode cX12_space 40 = .ok (.aload_n 0, 1) := by decide +kernel
theorem dX12_space_41 : decode cX12_space 41 = .ok (.getfield 3, 3) := by decide +kernel
theorem dX12_space_44 : decode cX12_space 44 = .ok (.ireturn, 1) := by decide +kernel
theorem dX12_space_45 : decode cX12_space 45 = .ok (.aload_n 0, 1) := by decide +kernel
theorem dX12_space_46 : decode cX12_space 46 = .ok (.getfield 27, 3) := by decide +kernel
theorem dX12_space_49 : decode cX12_space 49 = .ok (.ireturn, 1) := by decide +kernel
theorem dX12_space_50 : decode cX12_space 50 = .ok (.aload_n 0, 1) := by decide +kernel
theorem dX12_space_51 : decode cX12_space 51 = .ok (.invokevirtual 68, 3) := by decide +kernel
theorem dX12_space_54 : decode cX12_space 54 = .ok (.ireturn, 1) := by decide +kernel
theorem dX12_space_55 : decode cX12_space 55 = .ok (.aload_n 0, 1) := by decide +kernel
theorem dX12_space_56 : decode cX12_space 56 = .ok (.invokevirtual 212, 3) := by decide +kernel
theorem dX12_space_59 : decode cX12_space 59 = .ok (.ireturn, 1) := by decide +kernel
theorem dX12_space_60 : decode cX12_space 60 = .ok (.aload_n 0, 1) := by decide +kernel
theorem dX12_space_61 : decode cX12_space 61 = .ok (.getfield 3, 3) := by decide +kernel
theorem dX12_space_64 : decode cX12_space 64 = .ok (.iconst 2, 1) := by decide +kernel
theorem dX12_space_65 : decode cX12_space 65 = .ok (.if_icmp .ne 7, 3) := by decide +kernel
theorem dX12_space_68 : decode cX12_space 68 = .ok (.iconst 0, 1) := by decide +kernel
theorem dX12_space_69 : decode cX12_space 69 = .ok (.goto 7, 3) := by decide +kernel
theorem dX12_space_72 : decode cX12_space 72 = .ok (.aload_n 0, 1) := by decide +kernel
theorem dX12_space_73 : decode cX12_space 73 = .ok (.getfield 12, 3) := by decide +kernel
theorem dX12_space_76 : decode cX12_space 76 = .ok (.ireturn, 1) := by decide +kernel
theorem dX12_space_77 : decode cX12_space 77 = .ok (.aload_n 0, 1) := by decide +kernel
theorem dX12_space_78 : decode cX12_space 78 = .ok (.getfield 56, 3) := by decide +kernel
theorem dX12_space_81 : decode cX12_space 81 = .ok (.ireturn, 1) := by decide +kernel
theorem dX12_space_82 : decode cX12_space 82 = .ok (.iconst (-1), 1) := by decide +kernel
theorem dX12_space_83 : decode cX12_space 83 = .ok (.ireturn, 1) := by decide +kernel
set_option maxHeartbeats 4000000 in
set_option maxRecDepth 100000 in
theorem cn_X12_space {l : Launch} {cA : Nat → ClassId} {ad : Nat → Nat} {D : va_G} {E : Nat → Nat} {A : Nat → Prop} {x1 : Int32} {s0 sr : SS} {rr : Int32} (hf : f_X12_space x1 s0 = some (rr, sr)) : zCon Om Nm cA ad D E l yX12_space cX12_space 2 (some .int) 1 A [.ref (ad 0), .int x1] s0 (some (.int rr)) sr := by
  refine zstart (own := RX12) hOm (by decide) rfl (Nat.le_of_ble_eq_true rfl) ?_
  intro p e s m args below meth c X hP ls hl
  have hx := X.1
  have hb := X.2.1
  have hl : lv_has ls 2 [(0, .ref (ad 0)), (1, .int x1)] := hl
  have hS : va_S A s.heap s.heap [] := va_S.rf
  rw [f_X12_space] at hf
  refine lv_iload_n hx hb dX12_space_0 rfl (lv_at hl 1 rfl) ?_
  by_cases e1 : x1 = 0
  · rw [if_pos e1] at hf
    refine lv_tableIn (tgt := 40) (off := 39) hx hb dX12_space_1 (by rw [e1]; decide) (by rw [e1]; decide) (by rw [e1]; decide +kernel) (by decide) ?_
    refine lv_aload_n hx hb dX12_space_40 rfl (lv_at hl 0 rfl) ?_
    refine gf_X12_3 X hP (k := 0) rfl dX12_space_41 ?_
    exact zret_i X hP hS hf rfl dX12_space_44
  · rw [if_neg e1] at hf
    by_cases e2 : x1 = 1
    · rw [if_pos e2] at hf
      refine lv_tableIn (tgt := 45) (off := 44) hx hb dX12_space_1 (by rw [e2]; decide) (by rw [e2]; decide) (by rw [e2]; decide +kernel) (by decide) ?_
      refine lv_aload_n hx hb dX12_space_45 rfl (lv_at hl 0 rfl) ?_
      refine gf_X12_27 X hP (k := 0) rfl dX12_space_46 ?_
      exact zret_i X hP hS hf rfl dX12_space_49
    · rw [if_neg e2] at hf
      by_cases e3 : x1 = 2
      · rw [if_pos e3] at hf
        refine lv_tableIn (tgt := 50) (off := 49) hx hb dX12_space_1 (by rw [e3]; decide) (by rw [e3]; decide) (by rw [e3]; decide +kernel) (by decide) ?_
        refine lv_aload_n hx hb dX12_space_50 rfl (lv_at hl 0 rfl) ?_
        obtain ⟨r4, s5, h6, hf⟩ := zbd_some hf
        refine zcallV X hP hS hl.1 (k := 0) (As := []) (rest := []) (cn_X12_letters h6) cw_X12_letters zp_12 rfl (by decide) rfl ml_X12_68 (by decide) rfl rfl (Nat.le_of_ble_eq_true rfl) dX12_space_51 (fun H locs hP hS => ?_)
        exact zret_i X hP hS hf rfl dX12_space_54
      · rw [if_neg e3] at hf
        by_cases e7 : x1 = 3
        · rw [if_pos e7] at hf
          refine lv_tableIn (tgt := 55) (off := 54) hx hb dX12_space_1 (by rw [e7]; decide) (by rw [e7]; decide) (by rw [e7]; decide +kernel) (by decide) ?_
          refine lv_aload_n hx hb dX12_space_55 rfl (lv_at hl 0 rfl) ?_
          obtain ⟨r8, s9, h10, hf⟩ := zbd_some hf
          refine zcallV X hP hS hl.1 (k := 0) (As := []) (rest := []) (cn_X12_eulerOfSpace h10) cw_X12_eulerOfSpace zp_12 rfl (by decide) rfl ml_X12_212 (by decide) rfl rfl (Nat.le_of_ble_eq_true rfl) dX12_space_56 (fun H locs hP hS => ?_)
          exact zret_i X hP hS hf rfl dX12_space_59
        · rw [if_neg e7] at hf
          by_cases e11 : x1 = 4
          · rw [if_pos e11] at hf
            refine lv_tableIn (tgt := 60) (off := 59) hx hb dX12_space_1 (by rw [e11]; decide) (by rw [e11]; decide) (by rw [e11]; decide +kernel) (by decide) ?_
            refine lv_aload_n hx hb dX12_space_60 rfl (lv_at hl 0 rfl) ?_
            refine gf_X12_3 X hP (k := 0) rfl dX12_space_61 ?_
            refine lv_iconst (v := 2) hx hb dX12_space_64 (by decide) ?_
            refine zicmp_ne (tgt := 72) hx hb dX12_space_65 (by decide) hf (fun hf => ?_) (fun hf => ?_)
            · refine lv_aload_n hx hb dX12_space_72 rfl (lv_at hl 0 rfl) ?_
              refine gf_X12_12 X hP (k := 0) rfl dX12_space_73 ?_
              exact zret_i X hP hS hf rfl dX12_space_76
            · refine lv_iconst (v := 0) hx hb dX12_space_68 (by decide) ?_
              refine lv_goto (tgt := 76) hx hb dX12_space_69 (by decide) ?_
              exact zret_i X hP hS hf rfl dX12_space_76
          · rw [if_neg e11] at hf
            by_cases e12 : x1 = 5
            · rw [if_pos e12] at hf
              refine lv_tableIn (tgt := 77) (off := 76) hx hb dX12_space_1 (by rw [e12]; decide) (by rw [e12]; decide) (by rw [e12]; decide +kernel) (by decide) ?_
              refine lv_aload_n hx hb dX12_space_77 rfl (lv_at hl 0 rfl) ?_
              refine gf_X12_56 X hP (k := 0) rfl dX12_space_78 ?_
              exact zret_i X hP hS hf rfl dX12_space_81
            · rw [if_neg e12] at hf
              have ye1 := zne e1 (v := 0) (by decide)
              have ye2 := zne e2 (v := 1) (by decide)
              have ye3 := zne e3 (v := 2) (by decide)
              have ye7 := zne e7 (v := 3) (by decide)
              have ye11 := zne e11 (v := 4) (by decide)
              have ye12 := zne e12 (v := 5) (by decide)
              refine lv_tableOut (tgt := 82) hx hb dX12_space_1 (by omega) (by decide) ?_
              refine lv_iconst (v := (-1)) hx hb dX12_space_82 (by decide) ?_
              exact zret_i X hP hS hf rfl dX12_space_83
theorem dX12_termOf_0 : decode cX12_termOf 0 = .ok (.iload_n 1, 1) := by decide +kernel
theorem dX12_termOf_1 : decode cX12_termOf 1 = .ok (.i2l, 1) := by decide +kernel
theorem dX12_termOf_2 : decode cX12_termOf 2 = .ok (.lconst 0, 1) := by decide +kernel
theorem dX12_termOf_3 : decode cX12_termOf 3 = .ok (.ldc2_w 215, 3) := by decide +kernel
theorem dX12_termOf_6 : decode cX12_termOf 6 = .ok (.invokestatic 203, 3) := by decide +kernel
theorem dX12_termOf_9 : decode cX12_termOf 9 = .ok (.ifCond .eq 12, 3) := by decide +kernel
theorem dX12_termOf_12 : decode cX12_termOf 12 = .ok (.aload_n 0, 1) := by decide +kernel
theorem dX12_termOf_13 : decode cX12_termOf 13 = .ok (.getfield 65, 3) := by decide +kernel
theorem dX12_termOf_16 : decode cX12_termOf 16 = .ok (.iload_n 1, 1) := by decide +kernel
theorem dX12_termOf_17 : decode cX12_termOf 17 = .ok (.iaload, 1) := by decide +kernel
theorem dX12_termOf_18 : decode cX12_termOf 18 = .ok (.goto 4, 3) := by decide +kernel
theorem dX12_termOf_21 : decode cX12_termOf 21 = .ok (.iconst (-1), 1) := by decide +kernel
theorem dX12_termOf_22 : decode cX12_termOf 22 = .ok (.ireturn, 1) := by decide +kernel
set_option maxHeartbeats 4000000 in
set_option maxRecDepth 100000 in
theorem cn_X12_termOf {l : Launch} {cA : Nat → ClassId} {ad : Nat → Nat} {D : va_G} {E : Nat → Nat} {A : Nat → Prop} {x1 : Int32} {s0 sr : SS} {rr : Int32} (hf : f_X12_termOf x1 s0 = some (rr, sr)) : zCon Om Nm cA ad D E l yX12_termOf cX12_termOf 2 (some .int) 1 A [.ref (ad 0), .int x1] s0 (some (.int rr)) sr := by
  refine zstart (own := RX12) hOm (by decide) rfl (Nat.le_of_ble_eq_true rfl) ?_
  intro p e s m args below meth c X hP ls hl
  have hx := X.1
  have hb := X.2.1
  have hl : lv_has ls 2 [(0, .ref (ad 0)), (1, .int x1)] := hl
  have hS : va_S A s.heap s.heap [] := va_S.rf
  rw [f_X12_termOf] at hf
  refine lv_iload_n hx hb dX12_termOf_0 rfl (lv_at hl 1 rfl) ?_
  refine lv_i2l hx hb dX12_termOf_1 rfl ?_
  refine lv_lconst (v := 0) hx hb dX12_termOf_2 (by decide) ?_
  refine zldc2 X co_X12_215 dX12_termOf_3 ?_
  obtain ⟨r1, s2, h3, hf⟩ := zbd_some hf
  refine zcallS X hP hS hl.1 (As := [.long (x1).toInt64, .long 0, .long 599999]) (rest := []) (cn_X12_in h3) cw_X12_in ml_X12_203 (by decide) rfl rfl (Nat.le_of_ble_eq_true rfl) dX12_termOf_6 (fun H locs hP hS => ?_)
  refine zif_eq (tgt := 21) hx hb dX12_termOf_9 (by decide) hf (fun hf => ?_) (fun hf => ?_)
  · refine lv_iconst (v := (-1)) hx hb dX12_termOf_21 (by decide) ?_
    exact zret_i X hP hS hf rfl dX12_termOf_22
  · refine lv_aload_n hx hb dX12_termOf_12 rfl (lv_at hl 0 rfl) ?_
    refine gf_X12_65 X hP (k := 0) (q := 7) rfl dX12_termOf_13 rfl ?_
    refine lv_iload_n hx hb dX12_termOf_16 rfl (lv_at hl 1 rfl) ?_
    obtain ⟨g4, hf⟩ := zgd hf
    refine zald_i X hP (k := 7) (n := 600000) (rs := []) rfl g4 dX12_termOf_17 ?_
    refine lv_goto (tgt := 22) hx hb dX12_termOf_18 (by decide) ?_
    exact zret_i X hP hS hf rfl dX12_termOf_22
theorem dX12_worth_0 : decode cX12_worth 0 = .ok (.aload_n 0, 1) := by decide +kernel
theorem dX12_worth_1 : decode cX12_worth 1 = .ok (.iload_n 1, 1) := by decide +kernel
theorem dX12_worth_2 : decode cX12_worth 2 = .ok (.invokevirtual 217, 3) := by decide +kernel
theorem dX12_worth_5 : decode cX12_worth 5 = .ok (.ifCond .ge 9, 3) := by decide +kernel
theorem dX12_worth_8 : decode cX12_worth 8 = .ok (.ldc2_w 220, 3) := by decide +kernel
theorem dX12_worth_11 : decode cX12_worth 11 = .ok (.goto 13, 3) := by decide +kernel
theorem dX12_worth_14 : decode cX12_worth 14 = .ok (.aload_n 0, 1) := by decide +kernel
theorem dX12_worth_15 : decode cX12_worth 15 = .ok (.getfield 78, 3) := by decide +kernel
theorem dX12_worth_18 : decode cX12_worth 18 = .ok (.aload_n 0, 1) := by decide +kernel
theorem dX12_worth_19 : decode cX12_worth 19 = .ok (.iload_n 1, 1) := by decide +kernel
theorem dX12_worth_20 : decode cX12_worth 20 = .ok (.invokevirtual 217, 3) := by decide +kernel
theorem dX12_worth_23 : decode cX12_worth 23 = .ok (.laload, 1) := by decide +kernel
theorem dX12_worth_24 : decode cX12_worth 24 = .ok (.lreturn, 1) := by decide +kernel
set_option maxHeartbeats 4000000 in
set_option maxRecDepth 100000 in
theorem cn_X12_worth {l : Launch} {cA : Nat → ClassId} {ad : Nat → Nat} {D : va_G} {E : Nat → Nat} {A : Nat → Prop} {x1 : Int32} {s0 sr : SS} {rr : Int64} (hf : f_X12_worth x1 s0 = some (rr, sr)) : zCon Om Nm cA ad D E l yX12_worth cX12_worth 2 (some .long) 2 A [.ref (ad 0), .int x1] s0 (some (.long rr)) sr := by
  refine zstart (own := RX12) hOm (by decide) rfl (Nat.le_of_ble_eq_true rfl) ?_
  intro p e s m args below meth c X hP ls hl
  have hx := X.1
  have hb := X.2.1
  have hl : lv_has ls 2 [(0, .ref (ad 0)), (1, .int x1)] := hl
  have hS : va_S A s.heap s.heap [] := va_S.rf
  rw [f_X12_worth] at hf
  refine lv_aload_n hx hb dX12_worth_0 rfl (lv_at hl 0 rfl) ?_
  refine lv_iload_n hx hb dX12_worth_1 rfl (lv_at hl 1 rfl) ?_
  obtain ⟨r1, s2, h3, hf⟩ := zbd_some hf
  refine zcallV X hP hS hl.1 (k := 0) (As := [.int x1]) (rest := []) (cn_X12_termOf h3) cw_X12_termOf zp_12 rfl (by decide) rfl ml_X12_217 (by decide) rfl rfl (Nat.le_of_ble_eq_true rfl) dX12_worth_2 (fun H locs hP hS => ?_)
  refine zif_ge (tgt := 14) hx hb dX12_worth_5 (by decide) hf (fun hf => ?_) (fun hf => ?_)
  · refine lv_aload_n hx hb dX12_worth_14 rfl (lv_at hl 0 rfl) ?_
    refine gf_X12_78 X hP (k := 0) (q := 6) rfl dX12_worth_15 rfl ?_
    refine lv_aload_n hx hb dX12_worth_18 rfl (lv_at hl 0 rfl) ?_
    refine lv_iload_n hx hb dX12_worth_19 rfl (lv_at hl 1 rfl) ?_
    obtain ⟨r4, s5, h6, hf⟩ := zbd_some hf
    refine zcallV X hP hS hl.1 (k := 0) (As := [.int x1]) (rest := [.ref (ad 6)]) (cn_X12_termOf h6) cw_X12_termOf zp_12 rfl (by decide) rfl ml_X12_217 (by decide) rfl rfl (Nat.le_of_ble_eq_true rfl) dX12_worth_20 (fun H locs hP hS => ?_)
    obtain ⟨g7, hf⟩ := zgd hf
    refine zald_l X hP (k := 6) (n := 462) (rs := []) rfl g7 dX12_worth_23 ?_
    exact zret_l X hP hS hf dX12_worth_24
  · refine zldc2 X co_X12_220 dX12_worth_8 ?_
    refine lv_goto (tgt := 24) hx hb dX12_worth_11 (by decide) ?_
    exact zret_l X hP hS hf dX12_worth_24
theorem dX12_term_0 : decode cX12_term 0 = .ok (.iload_n 1, 1) := by decide +kernel
theorem dX12_term_1 : decode cX12_term 1 = .ok (.ifCond .ge 7, 3) := by decide +kernel
theorem dX12_term_4 : decode cX12_term 4 = .ok (.iconst (-1), 1) := by decide +kernel
theorem dX12_term_5 : decode cX12_term 5 = .ok (.goto 22, 3) := by decide +kernel
theorem dX12_term_8 : decode cX12_term 8 = .ok (.iload_n 1, 1) := by decide +kernel
theorem dX12_term_9 : decode cX12_term 9 = .ok (.aload_n 0, 1) := by decide +kernel
theorem dX12_term_10 : decode cX12_term 10 = .ok (.getfield 56, 3) := by decide +kernel
theorem dX12_term_13 : decode cX12_term 13 = .ok (.if_icmp .ge 12, 3) := by decide +kernel
theorem dX12_term_16 : decode cX12_term 16 = .ok (.aload_n 0, 1) := by decide +kernel
theorem dX12_term_17 : decode cX12_term 17 = .ok (.getfield 62, 3) := by decide +kernel
theorem dX12_term_20 : decode cX12_term 20 = .ok (.iload_n 1, 1) := by decide +kernel
theorem dX12_term_21 : decode cX12_term 21 = .ok (.iaload, 1) := by decide +kernel
theorem dX12_term_22 : decode cX12_term 22 = .ok (.goto 5, 3) := by decide +kernel
theorem dX12_term_25 : decode cX12_term 25 = .ok (.bipush (-2), 2) := by decide +kernel
theorem dX12_term_27 : decode cX12_term 27 = .ok (.ireturn, 1) := by decide +kernel
set_option maxHeartbeats 4000000 in
set_option maxRecDepth 100000 in
theorem cn_X12_term {l : Launch} {cA : Nat → ClassId} {ad : Nat → Nat} {D : va_G} {E : Nat → Nat} {A : Nat → Prop} {x1 : Int32} {s0 sr : SS} {rr : Int32} (hf : f_X12_term x1 s0 = some (rr, sr)) : zCon Om Nm cA ad D E l yX12_term cX12_term 2 (some .int) 0 A [.ref (ad 0), .int x1] s0 (some (.int rr)) sr := by
  refine zstart (own := RX12) hOm (by decide) rfl (Nat.le_of_ble_eq_true rfl) ?_
  intro p e s m args below meth c X hP ls hl
  have hx := X.1
  have hb := X.2.1
  have hl : lv_has ls 2 [(0, .ref (ad 0)), (1, .int x1)] := hl
  have hS : va_S A s.heap s.heap [] := va_S.rf
  rw [f_X12_term] at hf
  refine lv_iload_n hx hb dX12_term_0 rfl (lv_at hl 1 rfl) ?_
  refine zif_ge (tgt := 8) hx hb dX12_term_1 (by decide) hf (fun hf => ?_) (fun hf => ?_)
  · refine lv_iload_n hx hb dX12_term_8 rfl (lv_at hl 1 rfl) ?_
    refine lv_aload_n hx hb dX12_term_9 rfl (lv_at hl 0 rfl) ?_
    refine gf_X12_56 X hP (k := 0) rfl dX12_term_10 ?_
    refine zicmp_ge (tgt := 25) hx hb dX12_term_13 (by decide) hf (fun hf => ?_) (fun hf => ?_)
    · refine lv_bipush (v := (-2)) hx hb dX12_term_25 (by decide) ?_
      exact zret_i X hP hS hf rfl dX12_term_27
    · refine lv_aload_n hx hb dX12_term_16 rfl (lv_at hl 0 rfl) ?_
      refine gf_X12_62 X hP (k := 0) (q := 4) rfl dX12_term_17 rfl ?_
      refine lv_iload_n hx hb dX12_term_20 rfl (lv_at hl 1 rfl) ?_
      obtain ⟨g1, hf⟩ := zgd hf
      refine zald_i X hP (k := 4) (n := 462) (rs := []) rfl g1 dX12_term_21 ?_
      refine lv_goto (tgt := 27) hx hb dX12_term_22 (by decide) ?_
      exact zret_i X hP hS hf rfl dX12_term_27
  · refine lv_iconst (v := (-1)) hx hb dX12_term_4 (by decide) ?_
    refine lv_goto (tgt := 27) hx hb dX12_term_5 (by decide) ?_
    exact zret_i X hP hS hf rfl dX12_term_27
theorem dX12_isClass_0 : decode cX12_isClass 0 = .ok (.lload_n 1, 1) := by decide +kernel
theorem dX12_isClass_1 : decode cX12_isClass 1 = .ok (.lconst 0, 1) := by decide +kernel
theorem dX12_isClass_2 : decode cX12_isClass 2 = .ok (.aload_n 0, 1) := by decide +kernel
theorem dX12_isClass_3 : decode cX12_isClass 3 = .ok (.getfield 89, 3) := by decide +kernel
theorem dX12_isClass_6 : decode cX12_isClass 6 = .ok (.iconst 1, 1) := by decide +kernel
theorem dX12_isClass_7 : decode cX12_isClass 7 = .ok (.isub, 1) := by decide +kernel
theorem dX12_isClass_8 : decode cX12_isClass 8 = .ok (.i2l, 1) := by decide +kernel
theorem dX12_isClass_9 : decode cX12_isClass 9 = .ok (.invokestatic 203, 3) := by decide +kernel
theorem dX12_isClass_12 : decode cX12_isClass 12 = .ok (.ireturn, 1) := by decide +kernel
set_option maxHeartbeats 4000000 in
set_option maxRecDepth 100000 in
theorem cn_X12_isClass {l : Launch} {cA : Nat → ClassId} {ad : Nat → Nat} {D : va_G} {E : Nat → Nat} {A : Nat → Prop} {x1 : Int64} {s0 sr : SS} {rr : Int32} (hf : f_X12_isClass x1 s0 = some (rr, sr)) : zCon Om Nm cA ad D E l yX12_isClass cX12_isClass 3 (some .boolean) 1 A [.ref (ad 0), .long x1] s0 (some (.int rr)) sr := by
  refine zstart (own := RX12) hOm (by decide) rfl (Nat.le_of_ble_eq_true rfl) ?_
  intro p e s m args below meth c X hP ls hl
  have hx := X.1
  have hb := X.2.1
  have hl : lv_has ls 3 [(0, .ref (ad 0)), (1, .long x1)] := hl
  have hS : va_S A s.heap s.heap [] := va_S.rf
  rw [f_X12_isClass] at hf
  refine lv_lload_n hx hb dX12_isClass_0 rfl (lv_at hl 1 rfl) ?_
  refine lv_lconst (v := 0) hx hb dX12_isClass_1 (by decide) ?_
  refine lv_aload_n hx hb dX12_isClass_2 rfl (lv_at hl 0 rfl) ?_
  refine gf_X12_89 X hP (k := 0) rfl dX12_isClass_3 ?_
  refine lv_iconst (v := 1) hx hb dX12_isClass_6 (by decide) ?_
  refine lv_isub hx hb dX12_isClass_7 ?_
  refine lv_i2l hx hb dX12_isClass_8 rfl ?_
  obtain ⟨r1, s2, h3, hf⟩ := zbd_some hf
  refine zcallS X hP hS hl.1 (As := [.long x1, .long 0, .long (((s0.1 0 12) - (1 : Int32))).toInt64]) (rest := []) (cn_X12_in h3) cw_X12_in ml_X12_203 (by decide) rfl rfl (Nat.le_of_ble_eq_true rfl) dX12_isClass_9 (fun H locs hP hS => ?_)
  obtain ⟨b4, hf⟩ := zgd hf
  exact zret_i X hP hS hf (znar_of (by decide) b4) dX12_isClass_12
theorem dX12_isPlain_0 : decode cX12_isPlain 0 = .ok (.iconst 0, 1) := by decide +kernel
theorem dX12_isPlain_1 : decode cX12_isPlain 1 = .ok (.istore_n 2, 1) := by decide +kernel
theorem dX12_isPlain_2 : decode cX12_isPlain 2 = .ok (.iload_n 2, 1) := by decide +kernel
theorem dX12_isPlain_3 : decode cX12_isPlain 3 = .ok (.aload_n 0, 1) := by decide +kernel
theorem dX12_isPlain_4 : decode cX12_isPlain 4 = .ok (.invokevirtual 68, 3) := by decide +kernel
theorem dX12_isPlain_7 : decode cX12_isPlain 7 = .ok (.if_icmp .ge 37, 3) := by decide +kernel
theorem dX12_isPlain_10 : decode cX12_isPlain 10 = .ok (.iload_n 1, 1) := by decide +kernel
theorem dX12_isPlain_11 : decode cX12_isPlain 11 = .ok (.iload_n 2, 1) := by decide +kernel
theorem dX12_isPlain_12 : decode cX12_isPlain 12 = .ok (.invokestatic 19, 3) := by decide +kernel
theorem dX12_isPlain_15 : decode cX12_isPlain 15 = .ok (.ifCond .le 23, 3) := by decide +kernel
theorem dX12_isPlain_18 : decode cX12_isPlain 18 = .ok (.aload_n 0, 1) := by decide +kernel
theorem dX12_isPlain_19 : decode cX12_isPlain 19 = .ok (.iload_n 2, 1) := by decide +kernel
theorem dX12_isPlain_20 : decode cX12_isPlain 20 = .ok (.invokevirtual 222, 3) := by decide +kernel
theorem dX12_isPlain_23 : decode cX12_isPlain 23 = .ok (.i2l, 1) := by decide +kernel
theorem dX12_isPlain_24 : decode cX12_isPlain 24 = .ok (.ldc2_w 225, 3) := by decide +kernel
theorem dX12_isPlain_27 : decode cX12_isPlain 27 = .ok (.ldc2_w 227, 3) := by decide +kernel
theorem dX12_isPlain_30 : decode cX12_isPlain 30 = .ok (.invokestatic 203, 3) := by decide +kernel
theorem dX12_isPlain_33 : decode cX12_isPlain 33 = .ok (.ifCond .ne 5, 3) := by decide +kernel
theorem dX12_isPlain_36 : decode cX12_isPlain 36 = .ok (.iconst 0, 1) := by decide +kernel
theorem dX12_isPlain_37 : decode cX12_isPlain 37 = .ok (.ireturn, 1) := by decide +kernel
theorem dX12_isPlain_38 : decode cX12_isPlain 38 = .ok (.iinc 2 1, 3) := by decide +kernel
theorem dX12_isPlain_41 : decode cX12_isPlain 41 = .ok (.goto (-39), 3) := by decide +kernel
theorem dX12_isPlain_44 : decode cX12_isPlain 44 = .ok (.iconst 1, 1) := by decide +kernel
theorem dX12_isPlain_45 : decode cX12_isPlain 45 = .ok (.ireturn, 1) := by decide +kernel
set_option maxHeartbeats 4000000 in
set_option maxRecDepth 100000 in
theorem cn_X12_isPlain {l : Launch} {cA : Nat → ClassId} {ad : Nat → Nat} {D : va_G} {E : Nat → Nat} {A : Nat → Prop} {x1 : Int32} {s0 sr : SS} {rr : Int32} (hf : f_X12_isPlain x1 s0 = some (rr, sr)) : zCon Om Nm cA ad D E l yX12_isPlain cX12_isPlain 3 (some .boolean) 2 A [.ref (ad 0), .int x1] s0 (some (.int rr)) sr := by
  refine zstart (own := RX12) hOm (by decide) rfl (Nat.le_of_ble_eq_true rfl) ?_
  intro p e s m args below meth c X hP ls hl
  have hx := X.1
  have hb := X.2.1
  have hl : lv_has ls 3 [(0, .ref (ad 0)), (1, .int x1)] := hl
  have hS : va_S A s.heap s.heap [] := va_S.rf
  have hc_2 : ∀ (n2 : Nat) (x1 : Int32) (x2 : Int32) (s1 : SS) (H : Heap) (locs : List Loc) (ls : Array Slot), lv_has ls 3 [(0, .ref (ad 0)), (1, .int x1), (2, .int x2)] → va_P D ZCL (zw Om Nm cA ad s1) H → va_S A s.heap H locs → f_X12_isPlain_c2 n2 x1 x2 s1 = some (rr, sr) → W p l e (zrm 2) s m args below meth c H locs 0 0 (MQ below (zQc Om Nm cA ad D A (some (.int rr)) sr) args s 0 0 A) (F0 m 2 ls []) := by
    intro n2
    induction n2 with
    | zero =>
      intro x1 x2 s1 H locs ls hl hP hS hf
      rw [f_X12_isPlain_c2] at hf
      cases hf
    | succ n2 ih2 =>
      have hc_38 : ∀ (x1 : Int32) (x2 : Int32) (s1 : SS) (H : Heap) (locs : List Loc) (ls : Array Slot), lv_has ls 3 [(0, .ref (ad 0)), (1, .int x1), (2, .int x2)] → va_P D ZCL (zw Om Nm cA ad s1) H → va_S A s.heap H locs → f_X12_isPlain_c38 (f_X12_isPlain_c2 n2) x1 x2 s1 = some (rr, sr) → W p l e (zrm 2) s m args below meth c H locs 0 0 (MQ below (zQc Om Nm cA ad D A (some (.int rr)) sr) args s 0 0 A) (F0 m 38 ls []) := by
        intro x1 x2 s1 H locs ls hl hP hS hf
        rw [f_X12_isPlain_c38] at hf
        refine lv_iinc (v := (x2 + 1)) (lv' := [(2, .int (x2 + 1)), (0, .ref (ad 0)), (1, .int x1)]) hx hb dX12_isPlain_38 hl (k := 2) rfl rfl (by decide) rfl (fun ls hl => ?_)
        refine lv_goto (tgt := 2) hx hb dX12_isPlain_41 (by decide) ?_
        exact ih2 x1 (x2 + 1) s1 _ _ _ (lv_sub hl [1, 2, 0] rfl) hP hS hf
      intro x1 x2 s1 H locs ls hl hP hS hf
      rw [f_X12_isPlain_c2] at hf
      refine lv_iload_n hx hb dX12_isPlain_2 rfl (lv_at hl 2 rfl) ?_
      refine lv_aload_n hx hb dX12_isPlain_3 rfl (lv_at hl 0 rfl) ?_
      obtain ⟨r1, s2, h3, hf⟩ := zbd_some hf
      refine zcallV X hP hS hl.1 (k := 0) (As := []) (rest := [.int x2]) (cn_X12_letters h3) cw_X12_letters zp_12 rfl (by decide) rfl ml_X12_68 (by decide) rfl rfl (Nat.le_of_ble_eq_true rfl) dX12_isPlain_4 (fun H locs hP hS => ?_)
      refine zicmp_ge (tgt := 44) hx hb dX12_isPlain_7 (by decide) hf (fun hf => ?_) (fun hf => ?_)
      · refine lv_iconst (v := 1) hx hb dX12_isPlain_44 (by decide) ?_
        exact zret_i X hP hS hf rfl dX12_isPlain_45
      · refine lv_iload_n hx hb dX12_isPlain_10 rfl (lv_at hl 1 rfl) ?_
        refine lv_iload_n hx hb dX12_isPlain_11 rfl (lv_at hl 2 rfl) ?_
        obtain ⟨r4, s5, h6, hf⟩ := zbd_some hf
        refine zcallS X hP hS hl.1 (As := [.int x1, .int x2]) (rest := []) (cn_X12_powerIn h6) cw_X12_powerIn ml_X12_19 (by decide) rfl rfl (Nat.le_of_ble_eq_true rfl) dX12_isPlain_12 (fun H locs hP hS => ?_)
        refine zif_le (tgt := 38) hx hb dX12_isPlain_15 (by decide) hf (fun hf => ?_) (fun hf => ?_)
        · exact hc_38 x1 x2 s5 _ _ _ (lv_sub hl [0, 1, 2] rfl) hP hS hf
        · refine lv_aload_n hx hb dX12_isPlain_18 rfl (lv_at hl 0 rfl) ?_
          refine lv_iload_n hx hb dX12_isPlain_19 rfl (lv_at hl 2 rfl) ?_
          obtain ⟨r7, s8, h9, hf⟩ := zbd_some hf
          refine zcallV X hP hS hl.1 (k := 0) (As := [.int x2]) (rest := []) (cn_X12_nameOf h9) cw_X12_nameOf zp_12 rfl (by decide) rfl ml_X12_222 (by decide) rfl rfl (Nat.le_of_ble_eq_true rfl) dX12_isPlain_20 (fun H locs hP hS => ?_)
          refine lv_i2l hx hb dX12_isPlain_23 rfl ?_
          refine zldc2 X co_X12_225 dX12_isPlain_24 ?_
          refine zldc2 X co_X12_227 dX12_isPlain_27 ?_
          obtain ⟨r10, s11, h12, hf⟩ := zbd_some hf
          refine zcallS X hP hS hl.1 (As := [.long (r7).toInt64, .long 97, .long 99]) (rest := []) (cn_X12_in h12) cw_X12_in ml_X12_203 (by decide) rfl rfl (Nat.le_of_ble_eq_true rfl) dX12_isPlain_30 (fun H locs hP hS => ?_)
          refine zif_ne (tgt := 38) hx hb dX12_isPlain_33 (by decide) hf (fun hf => ?_) (fun hf => ?_)
          · exact hc_38 x1 x2 s11 _ _ _ (lv_sub hl [0, 1, 2] rfl) hP hS hf
          · refine lv_iconst (v := 0) hx hb dX12_isPlain_36 (by decide) ?_
            exact zret_i X hP hS hf rfl dX12_isPlain_37
  rw [f_X12_isPlain] at hf
  refine lv_iconst (v := 0) hx hb dX12_isPlain_0 (by decide) ?_
  refine lv_istore_n (lv' := [(2, .int 0), (0, .ref (ad 0)), (1, .int x1)]) hx hb dX12_isPlain_1 rfl hl (by decide) rfl (fun ls hl => ?_)
  exact hc_2 ZF x1 0 s0 _ _ _ (lv_sub hl [1, 2, 0] rfl) hP hS hf
