theorem dX11_drop_0 : decode cX11_drop 0 = .ok (.aload_n 0, 1) := by decide +kernel
theorem dX11_drop_1 : decode cX11_drop 1 = .ok (.getfield 12, 3) := by decide +kernel
theorem dX11_drop_4 : decode cX11_drop 4 = .ok (.getfield 141, 3) := by decide +kernel
theorem dX11_drop_7 : decode cX11_drop 7 = .ok (.ifCond .ne 6, 3) := by decide +kernel
theorem dX11_drop_10 : decode cX11_drop 10 = .ok (.bipush (-5), 2) := by decide +kernel
theorem dX11_drop_12 : decode cX11_drop 12 = .ok (.ireturn, 1) := by decide +kernel
theorem dX11_drop_13 : decode cX11_drop 13 = .ok (.aload_n 0, 1) := by decide +kernel
theorem dX11_drop_14 : decode cX11_drop 14 = .ok (.getfield 12, 3) := by decide +kernel
theorem dX11_drop_17 : decode cX11_drop 17 = .ok (.dup, 1) := by decide +kernel
theorem dX11_drop_18 : decode cX11_drop 18 = .ok (.getfield 141, 3) := by decide +kernel
theorem dX11_drop_21 : decode cX11_drop 21 = .ok (.iconst 1, 1) := by decide +kernel
theorem dX11_drop_22 : decode cX11_drop 22 = .ok (.isub, 1) := by decide +kernel
theorem dX11_drop_23 : decode cX11_drop 23 = .ok (.putfield 141, 3) := by decide +kernel
theorem dX11_drop_26 : decode cX11_drop 26 = .ok (.aload_n 0, 1) := by decide +kernel
theorem dX11_drop_27 : decode cX11_drop 27 = .ok (.getfield 35, 3) := by decide +kernel
theorem dX11_drop_30 : decode cX11_drop 30 = .ok (.invokevirtual 142, 3) := by decide +kernel
theorem dX11_drop_33 : decode cX11_drop 33 = .ok (.aload_n 0, 1) := by decide +kernel
theorem dX11_drop_34 : decode cX11_drop 34 = .ok (.getfield 12, 3) := by decide +kernel
theorem dX11_drop_37 : decode cX11_drop 37 = .ok (.getfield 141, 3) := by decide +kernel
theorem dX11_drop_40 : decode cX11_drop 40 = .ok (.ireturn, 1) := by decide +kernel
set_option maxHeartbeats 4000000 in
set_option maxRecDepth 100000 in
theorem cn_X11_drop {l : Launch} {cA : Nat → ClassId} {ad : Nat → Nat} {D : va_G} {E : Nat → Nat} {A : Nat → Prop}  {s0 sr : SS} {rr : Int32} (hf : f_X11_drop s0 = some (rr, sr)) : zCon Ox Nx cA ad D E l yX11_drop cX11_drop 1 (some .int) 1 A [.ref (ad 0)] s0 (some (.int rr)) sr := by
  refine zstart (own := RX11) hOx (by decide) rfl (Nat.le_of_ble_eq_true rfl) ?_
  intro p e s m args below meth c X hP ls hl
  have hx := X.1
  have hb := X.2.1
  have hl : lv_has ls 1 [(0, .ref (ad 0))] := hl
  have hS : va_S A s.heap s.heap [] := va_S.rf
  rw [f_X11_drop] at hf
  refine lv_aload_n hx hb dX11_drop_0 rfl (lv_at hl 0 rfl) ?_
  refine gf_X11_12 X hP (k := 0) (q := 1) rfl dX11_drop_1 rfl ?_
  refine gf_X11_141 X hP (k := 1) rfl dX11_drop_4 ?_
  refine zif_ne (tgt := 13) hx hb dX11_drop_7 (by decide) hf (fun hf => ?_) (fun hf => ?_)
  · refine lv_aload_n hx hb dX11_drop_13 rfl (lv_at hl 0 rfl) ?_
    refine gf_X11_12 X hP (k := 0) (q := 1) rfl dX11_drop_14 rfl ?_
    refine lv_dup hx hb dX11_drop_17 rfl ?_
    refine gf_X11_141 X hP (k := 1) rfl dX11_drop_18 ?_
    refine lv_iconst (v := 1) hx hb dX11_drop_21 (by decide) ?_
    refine lv_isub hx hb dX11_drop_22 ?_
    refine pf_X11_141 X hP hS (k := 1) rfl dX11_drop_23 (fun H locs hP hS => ?_)
    refine lv_aload_n hx hb dX11_drop_26 rfl (lv_at hl 0 rfl) ?_
    refine gf_X11_35 X hP (k := 0) (q := 7) rfl dX11_drop_27 rfl ?_
    obtain ⟨r1, s2, h3, hf⟩ := zbd_some hf
    refine zcallV X hP hS hl.1 (k := 7) (As := []) (rest := []) (cn_X1_forget h3) cw_X1_forget zp_1 rfl (by decide) rfl ml_X11_142 (by decide) rfl rfl (Nat.le_of_ble_eq_true rfl) dX11_drop_30 (fun H locs hP hS => ?_)
    refine lv_aload_n hx hb dX11_drop_33 rfl (lv_at hl 0 rfl) ?_
    refine gf_X11_12 X hP (k := 0) (q := 1) rfl dX11_drop_34 rfl ?_
    refine gf_X11_141 X hP (k := 1) rfl dX11_drop_37 ?_
    exact zret_i X hP hS hf rfl dX11_drop_40
  · refine lv_bipush (v := (-5)) hx hb dX11_drop_10 (by decide) ?_
    exact zret_i X hP hS hf rfl dX11_drop_12
theorem dX11_bringAll_0 : decode cX11_bringAll 0 = .ok (.aload_n 0, 1) := by decide +kernel
theorem dX11_bringAll_1 : decode cX11_bringAll 1 = .ok (.getfield 12, 3) := by decide +kernel
theorem dX11_bringAll_4 : decode cX11_bringAll 4 = .ok (.invokevirtual 198, 3) := by decide +kernel
theorem dX11_bringAll_7 : decode cX11_bringAll 7 = .ok (.astore_n 1, 1) := by decide +kernel
theorem dX11_bringAll_8 : decode cX11_bringAll 8 = .ok (.aload_n 1, 1) := by decide +kernel
theorem dX11_bringAll_9 : decode cX11_bringAll 9 = .ok (.ifnull 29, 3) := by decide +kernel
theorem dX11_bringAll_12 : decode cX11_bringAll 12 = .ok (.aload_n 0, 1) := by decide +kernel
theorem dX11_bringAll_13 : decode cX11_bringAll 13 = .ok (.getfield 28, 3) := by decide +kernel
theorem dX11_bringAll_16 : decode cX11_bringAll 16 = .ok (.getfield 188, 3) := by decide +kernel
theorem dX11_bringAll_19 : decode cX11_bringAll 19 = .ok (.iconst 0, 1) := by decide +kernel
theorem dX11_bringAll_20 : decode cX11_bringAll 20 = .ok (.aload_n 1, 1) := by decide +kernel
theorem dX11_bringAll_21 : decode cX11_bringAll 21 = .ok (.getfield 165, 3) := by decide +kernel
theorem dX11_bringAll_24 : decode cX11_bringAll 24 = .ok (.iconst 0, 1) := by decide +kernel
theorem dX11_bringAll_25 : decode cX11_bringAll 25 = .ok (.aload_n 0, 1) := by decide +kernel
theorem dX11_bringAll_26 : decode cX11_bringAll 26 = .ok (.getfield 28, 3) := by decide +kernel
theorem dX11_bringAll_29 : decode cX11_bringAll 29 = .ok (.getfield 84, 3) := by decide +kernel
theorem dX11_bringAll_32 : decode cX11_bringAll 32 = .ok (.getfield 125, 3) := by decide +kernel
theorem dX11_bringAll_35 : decode cX11_bringAll 35 = .ok (.invokestatic 202, 3) := by decide +kernel
theorem dX11_bringAll_38 : decode cX11_bringAll 38 = .ok (.return_, 1) := by decide +kernel
set_option maxHeartbeats 4000000 in
set_option maxRecDepth 100000 in
theorem cn_X11_bringAll {l : Launch} {cA : Nat → ClassId} {ad : Nat → Nat} {D : va_G} {E : Nat → Nat} {A : Nat → Prop}  {s0 sr : SS} {rr : Unit} (hf : f_X11_bringAll s0 = some (rr, sr)) : zCon Ox Nx cA ad D E l yX11_bringAll cX11_bringAll 2 none 3 A [.ref (ad 0)] s0 none sr := by
  refine zstart (own := RX11) hOx (by decide) rfl (Nat.le_of_ble_eq_true rfl) ?_
  intro p e s m args below meth c X hP ls hl
  have hx := X.1
  have hb := X.2.1
  have hl : lv_has ls 2 [(0, .ref (ad 0))] := hl
  have hS : va_S A s.heap s.heap [] := va_S.rf
  rw [f_X11_bringAll] at hf
  refine lv_aload_n hx hb dX11_bringAll_0 rfl (lv_at hl 0 rfl) ?_
  refine gf_X11_12 X hP (k := 0) (q := 1) rfl dX11_bringAll_1 rfl ?_
  obtain ⟨r1, s2, h3, hf⟩ := zbd_some hf
  refine zcallV X hP hS hl.1 (k := 1) (As := []) (rest := []) (cn_X3_bring h3) cw_X3_bring zp_3 rfl (by decide) rfl ml_X11_198 (by decide) rfl rfl (Nat.le_of_ble_eq_true rfl) dX11_bringAll_4 (fun H locs hP hS => ?_)
  rcases r1 with _ | k4
  · have hf := zbn_none hf
    refine lv_astore_nN (lv' := [(1, .null), (0, .ref (ad 0))]) hx hb dX11_bringAll_7 rfl hl (by decide) rfl (fun ls hl => ?_)
    refine lv_aload_nN hx hb dX11_bringAll_8 rfl (lv_at hl 0 rfl) ?_
    refine lv_ifnullN (tgt := 38) hx hb dX11_bringAll_9 (by decide) ?_
    exact zret_v X hP hS hf dX11_bringAll_38
  · have hf := zbn_some hf
    obtain ⟨g5, hf⟩ := zgd hf
    refine lv_astore_n (lv' := [(1, .ref (ad k4)), (0, .ref (ad 0))]) hx hb dX11_bringAll_7 rfl hl (by decide) rfl (fun ls hl => ?_)
    refine lv_aload_n hx hb dX11_bringAll_8 rfl (lv_at hl 0 rfl) ?_
    refine lv_ifnull hx hb dX11_bringAll_9 ?_
    refine lv_aload_n hx hb dX11_bringAll_12 rfl (lv_at hl 1 rfl) ?_
    refine gf_X11_28 X hP (k := 0) (q := 5) rfl dX11_bringAll_13 rfl ?_
    refine gf_X11_188 X hP (k := 5) (q := 21) rfl dX11_bringAll_16 rfl ?_
    refine lv_iconst (v := 0) hx hb dX11_bringAll_19 (by decide) ?_
    refine lv_aload_n hx hb dX11_bringAll_20 rfl (lv_at hl 0 rfl) ?_
    refine gf_X11_165 X hP (k := k4) g5 dX11_bringAll_21 rfl ?_
    refine lv_iconst (v := 0) hx hb dX11_bringAll_24 (by decide) ?_
    refine lv_aload_n hx hb dX11_bringAll_25 rfl (lv_at hl 1 rfl) ?_
    refine gf_X11_28 X hP (k := 0) (q := 5) rfl dX11_bringAll_26 rfl ?_
    refine gf_X11_84 X hP (k := 5) (q := 6) rfl dX11_bringAll_29 rfl ?_
    refine gf_X11_125 X hP (k := 6) rfl dX11_bringAll_32 ?_
    obtain ⟨g6, hf⟩ := zgd hf
    refine zcp_l X hP hS hl.1 (k0 := 21) (k1 := (zrf Ox k4 2)) ml_X11_202 nt_copy.1 nt_copy.2.1 nt_copy.2.2 g6 ⟨Nat.le_of_ble_eq_true rfl, Nat.le_of_ble_eq_true rfl⟩ dX11_bringAll_35 (fun H locs hP hS => ?_)
    exact zret_v X hP hS hf dX11_bringAll_38
theorem dX11_canonical_0 : decode cX11_canonical 0 = .ok (.aload_n 0, 1) := by decide +kernel
theorem dX11_canonical_1 : decode cX11_canonical 1 = .ok (.getfield 12, 3) := by decide +kernel
theorem dX11_canonical_4 : decode cX11_canonical 4 = .ok (.getfield 141, 3) := by decide +kernel
theorem dX11_canonical_7 : decode cX11_canonical 7 = .ok (.bipush 8, 2) := by decide +kernel
theorem dX11_canonical_9 : decode cX11_canonical 9 = .ok (.if_icmp .lt 6, 3) := by decide +kernel
theorem dX11_canonical_12 : decode cX11_canonical 12 = .ok (.bipush (-3), 2) := by decide +kernel
theorem dX11_canonical_14 : decode cX11_canonical 14 = .ok (.ireturn, 1) := by decide +kernel
theorem dX11_canonical_15 : decode cX11_canonical 15 = .ok (.aload_n 0, 1) := by decide +kernel
theorem dX11_canonical_16 : decode cX11_canonical 16 = .ok (.getfield 28, 3) := by decide +kernel
theorem dX11_canonical_19 : decode cX11_canonical 19 = .ok (.aload_n 0, 1) := by decide +kernel
theorem dX11_canonical_20 : decode cX11_canonical 20 = .ok (.getfield 12, 3) := by decide +kernel
theorem dX11_canonical_23 : decode cX11_canonical 23 = .ok (.getfield 74, 3) := by decide +kernel
theorem dX11_canonical_26 : decode cX11_canonical 26 = .ok (.aload_n 0, 1) := by decide +kernel
theorem dX11_canonical_27 : decode cX11_canonical 27 = .ok (.getfield 28, 3) := by decide +kernel
theorem dX11_canonical_30 : decode cX11_canonical 30 = .ok (.getfield 188, 3) := by decide +kernel
theorem dX11_canonical_33 : decode cX11_canonical 33 = .ok (.invokevirtual 191, 3) := by decide +kernel
theorem dX11_canonical_36 : decode cX11_canonical 36 = .ok (.aload_n 0, 1) := by decide +kernel
theorem dX11_canonical_37 : decode cX11_canonical 37 = .ok (.invokevirtual 195, 3) := by decide +kernel
theorem dX11_canonical_40 : decode cX11_canonical 40 = .ok (.aload_n 0, 1) := by decide +kernel
theorem dX11_canonical_41 : decode cX11_canonical 41 = .ok (.getfield 35, 3) := by decide +kernel
theorem dX11_canonical_44 : decode cX11_canonical 44 = .ok (.invokevirtual 142, 3) := by decide +kernel
theorem dX11_canonical_47 : decode cX11_canonical 47 = .ok (.aload_n 0, 1) := by decide +kernel
theorem dX11_canonical_48 : decode cX11_canonical 48 = .ok (.getfield 12, 3) := by decide +kernel
theorem dX11_canonical_51 : decode cX11_canonical 51 = .ok (.getfield 141, 3) := by decide +kernel
theorem dX11_canonical_54 : decode cX11_canonical 54 = .ok (.iconst 1, 1) := by decide +kernel
theorem dX11_canonical_55 : decode cX11_canonical 55 = .ok (.isub, 1) := by decide +kernel
theorem dX11_canonical_56 : decode cX11_canonical 56 = .ok (.ireturn, 1) := by decide +kernel
set_option maxHeartbeats 4000000 in
set_option maxRecDepth 100000 in
theorem cn_X11_canonical {l : Launch} {cA : Nat → ClassId} {ad : Nat → Nat} {D : va_G} {E : Nat → Nat} {A : Nat → Prop}  {s0 sr : SS} {rr : Int32} (hf : f_X11_canonical s0 = some (rr, sr)) : zCon Ox Nx cA ad D E l yX11_canonical cX11_canonical 1 (some .int) 4 A [.ref (ad 0)] s0 (some (.int rr)) sr := by
  refine zstart (own := RX11) hOx (by decide) rfl (Nat.le_of_ble_eq_true rfl) ?_
  intro p e s m args below meth c X hP ls hl
  have hx := X.1
  have hb := X.2.1
  have hl : lv_has ls 1 [(0, .ref (ad 0))] := hl
  have hS : va_S A s.heap s.heap [] := va_S.rf
  rw [f_X11_canonical] at hf
  refine lv_aload_n hx hb dX11_canonical_0 rfl (lv_at hl 0 rfl) ?_
  refine gf_X11_12 X hP (k := 0) (q := 1) rfl dX11_canonical_1 rfl ?_
  refine gf_X11_141 X hP (k := 1) rfl dX11_canonical_4 ?_
  refine lv_bipush (v := 8) hx hb dX11_canonical_7 (by decide) ?_
  refine zicmp_lt (tgt := 15) hx hb dX11_canonical_9 (by decide) hf (fun hf => ?_) (fun hf => ?_)
  · refine lv_aload_n hx hb dX11_canonical_15 rfl (lv_at hl 0 rfl) ?_
    refine gf_X11_28 X hP (k := 0) (q := 5) rfl dX11_canonical_16 rfl ?_
    refine lv_aload_n hx hb dX11_canonical_19 rfl (lv_at hl 0 rfl) ?_
    refine gf_X11_12 X hP (k := 0) (q := 1) rfl dX11_canonical_20 rfl ?_
    refine gf_X11_74 X hP (k := 1) (q := 3) rfl dX11_canonical_23 rfl ?_
    refine lv_aload_n hx hb dX11_canonical_26 rfl (lv_at hl 0 rfl) ?_
    refine gf_X11_28 X hP (k := 0) (q := 5) rfl dX11_canonical_27 rfl ?_
    refine gf_X11_188 X hP (k := 5) (q := 21) rfl dX11_canonical_30 rfl ?_
    obtain ⟨r1, s2, h3, hf⟩ := zbd_some hf
    refine zcallV X hP hS hl.1 (k := 5) (As := [.ref (ad 3), .ref (ad 21)]) (rest := []) (cn_X8_makeCanonical h3) cw_X8_makeCanonical zp_8 rfl (by decide) rfl ml_X11_191 (by decide) rfl rfl (Nat.le_of_ble_eq_true rfl) dX11_canonical_33 (fun H locs hP hS => ?_)
    refine lv_aload_n hx hb dX11_canonical_36 rfl (lv_at hl 0 rfl) ?_
    obtain ⟨r4, s5, h6, hf⟩ := zbd_some hf
    refine zcallV X hP hS hl.1 (k := 0) (As := []) (rest := []) (cn_X11_bringAll h6) cw_X11_bringAll zp_11 rfl (by decide) rfl ml_X11_195 (by decide) rfl rfl (Nat.le_of_ble_eq_true rfl) dX11_canonical_37 (fun H locs hP hS => ?_)
    refine lv_aload_n hx hb dX11_canonical_40 rfl (lv_at hl 0 rfl) ?_
    refine gf_X11_35 X hP (k := 0) (q := 7) rfl dX11_canonical_41 rfl ?_
    obtain ⟨r7, s8, h9, hf⟩ := zbd_some hf
    refine zcallV X hP hS hl.1 (k := 7) (As := []) (rest := []) (cn_X1_forget h9) cw_X1_forget zp_1 rfl (by decide) rfl ml_X11_142 (by decide) rfl rfl (Nat.le_of_ble_eq_true rfl) dX11_canonical_44 (fun H locs hP hS => ?_)
    refine lv_aload_n hx hb dX11_canonical_47 rfl (lv_at hl 0 rfl) ?_
    refine gf_X11_12 X hP (k := 0) (q := 1) rfl dX11_canonical_48 rfl ?_
    refine gf_X11_141 X hP (k := 1) rfl dX11_canonical_51 ?_
    refine lv_iconst (v := 1) hx hb dX11_canonical_54 (by decide) ?_
    refine lv_isub hx hb dX11_canonical_55 ?_
    exact zret_i X hP hS hf rfl dX11_canonical_56
  · refine lv_bipush (v := (-3)) hx hb dX11_canonical_12 (by decide) ?_
    exact zret_i X hP hS hf rfl dX11_canonical_14
theorem dX11_met_0 : decode cX11_met 0 = .ok (.aload_n 0, 1) := by decide +kernel
theorem dX11_met_1 : decode cX11_met 1 = .ok (.getfield 12, 3) := by decide +kernel
theorem dX11_met_4 : decode cX11_met 4 = .ok (.iload_n 1, 1) := by decide +kernel
theorem dX11_met_5 : decode cX11_met 5 = .ok (.i2l, 1) := by decide +kernel
theorem dX11_met_6 : decode cX11_met 6 = .ok (.invokevirtual 155, 3) := by decide +kernel
theorem dX11_met_9 : decode cX11_met 9 = .ok (.astore_n 2, 1) := by decide +kernel
theorem dX11_met_10 : decode cX11_met 10 = .ok (.aload_n 2, 1) := by decide +kernel
theorem dX11_met_11 : decode cX11_met 11 = .ok (.ifnonnull 7, 3) := by decide +kernel
theorem dX11_met_14 : decode cX11_met 14 = .ok (.ldc2_w 132, 3) := by decide +kernel
theorem dX11_met_17 : decode cX11_met 17 = .ok (.lreturn, 1) := by decide +kernel
theorem dX11_met_18 : decode cX11_met 18 = .ok (.aload_n 0, 1) := by decide +kernel
theorem dX11_met_19 : decode cX11_met 19 = .ok (.getfield 28, 3) := by decide +kernel
theorem dX11_met_22 : decode cX11_met 22 = .ok (.aload_n 2, 1) := by decide +kernel
theorem dX11_met_23 : decode cX11_met 23 = .ok (.aload_n 0, 1) := by decide +kernel
theorem dX11_met_24 : decode cX11_met 24 = .ok (.getfield 28, 3) := by decide +kernel
theorem dX11_met_27 : decode cX11_met 27 = .ok (.getfield 188, 3) := by decide +kernel
theorem dX11_met_30 : decode cX11_met 30 = .ok (.invokevirtual 208, 3) := by decide +kernel
theorem dX11_met_33 : decode cX11_met 33 = .ok (.aload_n 0, 1) := by decide +kernel
theorem dX11_met_34 : decode cX11_met 34 = .ok (.getfield 28, 3) := by decide +kernel
theorem dX11_met_37 : decode cX11_met 37 = .ok (.aload_n 0, 1) := by decide +kernel
theorem dX11_met_38 : decode cX11_met 38 = .ok (.getfield 28, 3) := by decide +kernel
theorem dX11_met_41 : decode cX11_met 41 = .ok (.getfield 188, 3) := by decide +kernel
theorem dX11_met_44 : decode cX11_met 44 = .ok (.invokevirtual 212, 3) := by decide +kernel
theorem dX11_met_47 : decode cX11_met 47 = .ok (.lreturn, 1) := by decide +kernel
set_option maxHeartbeats 4000000 in
set_option maxRecDepth 100000 in
theorem cn_X11_met {l : Launch} {cA : Nat → ClassId} {ad : Nat → Nat} {D : va_G} {E : Nat → Nat} {A : Nat → Prop} {x1 : Int32} {s0 sr : SS} {rr : Int64} (hf : f_X11_met x1 s0 = some (rr, sr)) : zCon Ox Nx cA ad D E l yX11_met cX11_met 3 (some .long) 2 A [.ref (ad 0), .int x1] s0 (some (.long rr)) sr := by
  refine zstart (own := RX11) hOx (by decide) rfl (Nat.le_of_ble_eq_true rfl) ?_
  intro p e s m args below meth c X hP ls hl
  have hx := X.1
  have hb := X.2.1
  have hl : lv_has ls 3 [(0, .ref (ad 0)), (1, .int x1)] := hl
  have hS : va_S A s.heap s.heap [] := va_S.rf
  rw [f_X11_met] at hf
  refine lv_aload_n hx hb dX11_met_0 rfl (lv_at hl 0 rfl) ?_
  refine gf_X11_12 X hP (k := 0) (q := 1) rfl dX11_met_1 rfl ?_
  refine lv_iload_n hx hb dX11_met_4 rfl (lv_at hl 1 rfl) ?_
  refine lv_i2l hx hb dX11_met_5 rfl ?_
  obtain ⟨r1, s2, h3, hf⟩ := zbd_some hf
  refine zcallV X hP hS hl.1 (k := 1) (As := [.long (x1).toInt64]) (rest := []) (cn_X3_classAt h3) cw_X3_classAt zp_3 rfl (by decide) rfl ml_X11_155 (by decide) rfl rfl (Nat.le_of_ble_eq_true rfl) dX11_met_6 (fun H locs hP hS => ?_)
  rcases r1 with _ | k4
  · have hf := zbn_none hf
    refine lv_astore_nN (lv' := [(2, .null), (0, .ref (ad 0)), (1, .int x1)]) hx hb dX11_met_9 rfl hl (by decide) rfl (fun ls hl => ?_)
    refine lv_aload_nN hx hb dX11_met_10 rfl (lv_at hl 0 rfl) ?_
    refine lv_ifnonnullN hx hb dX11_met_11 ?_
    refine zldc2 X co_X11_132 dX11_met_14 ?_
    exact zret_l X hP hS hf dX11_met_17
  · have hf := zbn_some hf
    obtain ⟨g5, hf⟩ := zgd hf
    refine lv_astore_n (lv' := [(2, .ref (ad k4)), (0, .ref (ad 0)), (1, .int x1)]) hx hb dX11_met_9 rfl hl (by decide) rfl (fun ls hl => ?_)
    refine lv_aload_n hx hb dX11_met_10 rfl (lv_at hl 0 rfl) ?_
    refine lv_ifnonnull (tgt := 18) hx hb dX11_met_11 (by decide) ?_
    refine lv_aload_n hx hb dX11_met_18 rfl (lv_at hl 1 rfl) ?_
    refine gf_X11_28 X hP (k := 0) (q := 5) rfl dX11_met_19 rfl ?_
    refine lv_aload_n hx hb dX11_met_22 rfl (lv_at hl 0 rfl) ?_
    refine lv_aload_n hx hb dX11_met_23 rfl (lv_at hl 1 rfl) ?_
    refine gf_X11_28 X hP (k := 0) (q := 5) rfl dX11_met_24 rfl ?_
    refine gf_X11_188 X hP (k := 5) (q := 21) rfl dX11_met_27 rfl ?_
    obtain ⟨r6, s7, h8, hf⟩ := zbd_some hf
    refine zcallV X hP hS hl.1 (k := 5) (As := [.ref (ad k4), .ref (ad 21)]) (rest := []) (cn_X8_takeNumbers h8) cw_X8_takeNumbers zp_8 rfl (by decide) rfl ml_X11_208 (by decide) rfl rfl (Nat.le_of_ble_eq_true rfl) dX11_met_30 (fun H locs hP hS => ?_)
    refine lv_aload_n hx hb dX11_met_33 rfl (lv_at hl 1 rfl) ?_
    refine gf_X11_28 X hP (k := 0) (q := 5) rfl dX11_met_34 rfl ?_
    refine lv_aload_n hx hb dX11_met_37 rfl (lv_at hl 1 rfl) ?_
    refine gf_X11_28 X hP (k := 0) (q := 5) rfl dX11_met_38 rfl ?_
    refine gf_X11_188 X hP (k := 5) (q := 21) rfl dX11_met_41 rfl ?_
    obtain ⟨r9, s10, h11, hf⟩ := zbd_some hf
    refine zcallV X hP hS hl.1 (k := 5) (As := [.ref (ad 21)]) (rest := []) (cn_X8_metOf h11) cw_X8_metOf zp_8 rfl (by decide) rfl ml_X11_212 (by decide) rfl rfl (Nat.le_of_ble_eq_true rfl) dX11_met_44 (fun H locs hP hS => ?_)
    exact zret_l X hP hS hf dX11_met_47
theorem dX11_meets_0 : decode cX11_meets 0 = .ok (.aload_n 0, 1) := by decide +kernel
theorem dX11_meets_1 : decode cX11_meets 1 = .ok (.getfield 12, 3) := by decide +kernel
theorem dX11_meets_4 : decode cX11_meets 4 = .ok (.iload_n 1, 1) := by decide +kernel
theorem dX11_meets_5 : decode cX11_meets 5 = .ok (.i2l, 1) := by decide +kernel
theorem dX11_meets_6 : decode cX11_meets 6 = .ok (.invokevirtual 155, 3) := by decide +kernel
theorem dX11_meets_9 : decode cX11_meets 9 = .ok (.astore_n 3, 1) := by decide +kernel
theorem dX11_meets_10 : decode cX11_meets 10 = .ok (.aload_n 0, 1) := by decide +kernel
theorem dX11_meets_11 : decode cX11_meets 11 = .ok (.getfield 12, 3) := by decide +kernel
theorem dX11_meets_14 : decode cX11_meets 14 = .ok (.iload_n 2, 1) := by decide +kernel
theorem dX11_meets_15 : decode cX11_meets 15 = .ok (.i2l, 1) := by decide +kernel
theorem dX11_meets_16 : decode cX11_meets 16 = .ok (.invokevirtual 155, 3) := by decide +kernel
theorem dX11_meets_19 : decode cX11_meets 19 = .ok (.astore 4, 2) := by decide +kernel
theorem dX11_meets_21 : decode cX11_meets 21 = .ok (.aload_n 3, 1) := by decide +kernel
theorem dX11_meets_22 : decode cX11_meets 22 = .ok (.ifnull 8, 3) := by decide +kernel
theorem dX11_meets_25 : decode cX11_meets 25 = .ok (.aload 4, 2) := by decide +kernel
theorem dX11_meets_27 : decode cX11_meets 27 = .ok (.ifnonnull 7, 3) := by decide +kernel
theorem dX11_meets_30 : decode cX11_meets 30 = .ok (.ldc2_w 132, 3) := by decide +kernel
theorem dX11_meets_33 : decode cX11_meets 33 = .ok (.lreturn, 1) := by decide +kernel
theorem dX11_meets_34 : decode cX11_meets 34 = .ok (.aload_n 0, 1) := by decide +kernel
theorem dX11_meets_35 : decode cX11_meets 35 = .ok (.getfield 28, 3) := by decide +kernel
theorem dX11_meets_38 : decode cX11_meets 38 = .ok (.aload_n 3, 1) := by decide +kernel
theorem dX11_meets_39 : decode cX11_meets 39 = .ok (.aload_n 0, 1) := by decide +kernel
theorem dX11_meets_40 : decode cX11_meets 40 = .ok (.getfield 28, 3) := by decide +kernel
theorem dX11_meets_43 : decode cX11_meets 43 = .ok (.getfield 188, 3) := by decide +kernel
theorem dX11_meets_46 : decode cX11_meets 46 = .ok (.invokevirtual 208, 3) := by decide +kernel
theorem dX11_meets_49 : decode cX11_meets 49 = .ok (.aload_n 0, 1) := by decide +kernel
theorem dX11_meets_50 : decode cX11_meets 50 = .ok (.getfield 28, 3) := by decide +kernel
theorem dX11_meets_53 : decode cX11_meets 53 = .ok (.aload 4, 2) := by decide +kernel
theorem dX11_meets_55 : decode cX11_meets 55 = .ok (.invokevirtual 216, 3) := by decide +kernel
theorem dX11_meets_58 : decode cX11_meets 58 = .ok (.aload_n 0, 1) := by decide +kernel
theorem dX11_meets_59 : decode cX11_meets 59 = .ok (.getfield 28, 3) := by decide +kernel
theorem dX11_meets_62 : decode cX11_meets 62 = .ok (.aload_n 0, 1) := by decide +kernel
theorem dX11_meets_63 : decode cX11_meets 63 = .ok (.getfield 28, 3) := by decide +kernel
theorem dX11_meets_66 : decode cX11_meets 66 = .ok (.getfield 188, 3) := by decide +kernel
theorem dX11_meets_69 : decode cX11_meets 69 = .ok (.invokevirtual 212, 3) := by decide +kernel
theorem dX11_meets_72 : decode cX11_meets 72 = .ok (.lreturn, 1) := by decide +kernel
set_option maxHeartbeats 4000000 in
set_option maxRecDepth 100000 in
theorem cn_X11_meets {l : Launch} {cA : Nat → ClassId} {ad : Nat → Nat} {D : va_G} {E : Nat → Nat} {A : Nat → Prop} {x1 : Int32} {x2 : Int32} {s0 sr : SS} {rr : Int64} (hf : f_X11_meets x1 x2 s0 = some (rr, sr)) : zCon Ox Nx cA ad D E l yX11_meets cX11_meets 5 (some .long) 4 A [.ref (ad 0), .int x1, .int x2] s0 (some (.long rr)) sr := by
  refine zstart (own := RX11) hOx (by decide) rfl (Nat.le_of_ble_eq_true rfl) ?_
  intro p e s m args below meth c X hP ls hl
  have hx := X.1
  have hb := X.2.1
  have hl : lv_has ls 5 [(0, .ref (ad 0)), (1, .int x1), (2, .int x2)] := hl
  have hS : va_S A s.heap s.heap [] := va_S.rf
  rw [f_X11_meets] at hf
  refine lv_aload_n hx hb dX11_meets_0 rfl (lv_at hl 0 rfl) ?_
  refine gf_X11_12 X hP (k := 0) (q := 1) rfl dX11_meets_1 rfl ?_
  refine lv_iload_n hx hb dX11_meets_4 rfl (lv_at hl 1 rfl) ?_
  refine lv_i2l hx hb dX11_meets_5 rfl ?_
  obtain ⟨r1, s2, h3, hf⟩ := zbd_some hf
  refine zcallV X hP hS hl.1 (k := 1) (As := [.long (x1).toInt64]) (rest := []) (cn_X3_classAt h3) cw_X3_classAt zp_3 rfl (by decide) rfl ml_X11_155 (by decide) rfl rfl (Nat.le_of_ble_eq_true rfl) dX11_meets_6 (fun H locs hP hS => ?_)
  rcases r1 with _ | k4
  · have hf := zbn_none hf
    refine lv_astore_nN (lv' := [(3, .null), (0, .ref (ad 0)), (1, .int x1), (2, .int x2)]) hx hb dX11_meets_9 rfl hl (by decide) rfl (fun ls hl => ?_)
    refine lv_aload_n hx hb dX11_meets_10 rfl (lv_at hl 1 rfl) ?_
    refine gf_X11_12 X hP (k := 0) (q := 1) rfl dX11_meets_11 rfl ?_
    refine lv_iload_n hx hb dX11_meets_14 rfl (lv_at hl 3 rfl) ?_
    refine lv_i2l hx hb dX11_meets_15 rfl ?_
    obtain ⟨r6, s7, h8, hf⟩ := zbd_some hf
    refine zcallV X hP hS hl.1 (k := 1) (As := [.long (x2).toInt64]) (rest := []) (cn_X3_classAt h8) cw_X3_classAt zp_3 rfl (by decide) rfl ml_X11_155 (by decide) rfl rfl (Nat.le_of_ble_eq_true rfl) dX11_meets_16 (fun H locs hP hS => ?_)
    rcases r6 with _ | k9
    · have hf := zbn_none hf
      refine lv_astoreN (lv' := [(4, .null), (3, .null), (0, .ref (ad 0)), (1, .int x1), (2, .int x2)]) hx hb dX11_meets_19 hl (by decide) rfl (fun ls hl => ?_)
      refine lv_aload_nN hx hb dX11_meets_21 rfl (lv_at hl 1 rfl) ?_
      refine lv_ifnullN (tgt := 30) hx hb dX11_meets_22 (by decide) ?_
      refine zldc2 X co_X11_132 dX11_meets_30 ?_
      exact zret_l X hP hS hf dX11_meets_33
    · have hf := zbn_some hf
      obtain ⟨g10, hf⟩ := zgd hf
      refine lv_astore (lv' := [(4, .ref (ad k9)), (3, .null), (0, .ref (ad 0)), (1, .int x1), (2, .int x2)]) hx hb dX11_meets_19 hl (by decide) rfl (fun ls hl => ?_)
      refine lv_aload_nN hx hb dX11_meets_21 rfl (lv_at hl 1 rfl) ?_
      refine lv_ifnullN (tgt := 30) hx hb dX11_meets_22 (by decide) ?_
      refine zldc2 X co_X11_132 dX11_meets_30 ?_
      exact zret_l X hP hS hf dX11_meets_33
  · have hf := zbn_some hf
    obtain ⟨g5, hf⟩ := zgd hf
    refine lv_astore_n (lv' := [(3, .ref (ad k4)), (0, .ref (ad 0)), (1, .int x1), (2, .int x2)]) hx hb dX11_meets_9 rfl hl (by decide) rfl (fun ls hl => ?_)
    refine lv_aload_n hx hb dX11_meets_10 rfl (lv_at hl 1 rfl) ?_
    refine gf_X11_12 X hP (k := 0) (q := 1) rfl dX11_meets_11 rfl ?_
    refine lv_iload_n hx hb dX11_meets_14 rfl (lv_at hl 3 rfl) ?_
    refine lv_i2l hx hb dX11_meets_15 rfl ?_
    obtain ⟨r11, s12, h13, hf⟩ := zbd_some hf
    refine zcallV X hP hS hl.1 (k := 1) (As := [.long (x2).toInt64]) (rest := []) (cn_X3_classAt h13) cw_X3_classAt zp_3 rfl (by decide) rfl ml_X11_155 (by decide) rfl rfl (Nat.le_of_ble_eq_true rfl) dX11_meets_16 (fun H locs hP hS => ?_)
    rcases r11 with _ | k14
    · have hf := zbn_none hf
      refine lv_astoreN (lv' := [(4, .null), (3, .ref (ad k4)), (0, .ref (ad 0)), (1, .int x1), (2, .int x2)]) hx hb dX11_meets_19 hl (by decide) rfl (fun ls hl => ?_)
      refine lv_aload_n hx hb dX11_meets_21 rfl (lv_at hl 1 rfl) ?_
      refine lv_ifnull hx hb dX11_meets_22 ?_
      refine lv_aloadN hx hb dX11_meets_25 (lv_at hl 0 rfl) ?_
      refine lv_ifnonnullN hx hb dX11_meets_27 ?_
      refine zldc2 X co_X11_132 dX11_meets_30 ?_
      exact zret_l X hP hS hf dX11_meets_33
    · have hf := zbn_some hf
      obtain ⟨g15, hf⟩ := zgd hf
      refine lv_astore (lv' := [(4, .ref (ad k14)), (3, .ref (ad k4)), (0, .ref (ad 0)), (1, .int x1), (2, .int x2)]) hx hb dX11_meets_19 hl (by decide) rfl (fun ls hl => ?_)
      refine lv_aload_n hx hb dX11_meets_21 rfl (lv_at hl 1 rfl) ?_
      refine lv_ifnull hx hb dX11_meets_22 ?_
      refine lv_aload hx hb dX11_meets_25 (lv_at hl 0 rfl) ?_
      refine lv_ifnonnull (tgt := 34) hx hb dX11_meets_27 (by decide) ?_
      refine lv_aload_n hx hb dX11_meets_34 rfl (lv_at hl 2 rfl) ?_
      refine gf_X11_28 X hP (k := 0) (q := 5) rfl dX11_meets_35 rfl ?_
      refine lv_aload_n hx hb dX11_meets_38 rfl (lv_at hl 1 rfl) ?_
      refine lv_aload_n hx hb dX11_meets_39 rfl (lv_at hl 2 rfl) ?_
      refine gf_X11_28 X hP (k := 0) (q := 5) rfl dX11_meets_40 rfl ?_
      refine gf_X11_188 X hP (k := 5) (q := 21) rfl dX11_meets_43 rfl ?_
      obtain ⟨r16, s17, h18, hf⟩ := zbd_some hf
      refine zcallV X hP hS hl.1 (k := 5) (As := [.ref (ad k4), .ref (ad 21)]) (rest := []) (cn_X8_takeNumbers h18) cw_X8_takeNumbers zp_8 rfl (by decide) rfl ml_X11_208 (by decide) rfl rfl (Nat.le_of_ble_eq_true rfl) dX11_meets_46 (fun H locs hP hS => ?_)
      refine lv_aload_n hx hb dX11_meets_49 rfl (lv_at hl 2 rfl) ?_
      refine gf_X11_28 X hP (k := 0) (q := 5) rfl dX11_meets_50 rfl ?_
      refine lv_aload hx hb dX11_meets_53 (lv_at hl 0 rfl) ?_
      obtain ⟨r19, s20, h21, hf⟩ := zbd_some hf
      refine zcallV X hP hS hl.1 (k := 5) (As := [.ref (ad k14)]) (rest := []) (cn_X8_multiplyBy h21) cw_X8_multiplyBy zp_8 rfl (by decide) rfl ml_X11_216 (by decide) rfl rfl (Nat.le_of_ble_eq_true rfl) dX11_meets_55 (fun H locs hP hS => ?_)
      refine lv_aload_n hx hb dX11_meets_58 rfl (lv_at hl 2 rfl) ?_
      refine gf_X11_28 X hP (k := 0) (q := 5) rfl dX11_meets_59 rfl ?_
      refine lv_aload_n hx hb dX11_meets_62 rfl (lv_at hl 2 rfl) ?_
      refine gf_X11_28 X hP (k := 0) (q := 5) rfl dX11_meets_63 rfl ?_
      refine gf_X11_188 X hP (k := 5) (q := 21) rfl dX11_meets_66 rfl ?_
      obtain ⟨r22, s23, h24, hf⟩ := zbd_some hf
      refine zcallV X hP hS hl.1 (k := 5) (As := [.ref (ad 21)]) (rest := []) (cn_X8_metOf h24) cw_X8_metOf zp_8 rfl (by decide) rfl ml_X11_212 (by decide) rfl rfl (Nat.le_of_ble_eq_true rfl) dX11_meets_69 (fun H locs hP hS => ?_)
      exact zret_l X hP hS hf dX11_meets_72
theorem dX11_multiplyListed_0 : decode cX11_multiplyListed 0 = .ok (.aload_n 0, 1) := by decide +kernel
theorem dX11_multiplyListed_1 : decode cX11_multiplyListed 1 = .ok (.getfield 28, 3) := by decide +kernel
theorem dX11_multiplyListed_4 : decode cX11_multiplyListed 4 = .ok (.aload_n 0, 1) := by decide +kernel
theorem dX11_multiplyListed_5 : decode cX11_multiplyListed 5 = .ok (.getfield 28, 3) := by decide +kernel
theorem dX11_multiplyListed_8 : decode cX11_multiplyListed 8 = .ok (.getfield 188, 3) := by decide +kernel
theorem dX11_multiplyListed_11 : decode cX11_multiplyListed 11 = .ok (.invokevirtual 240, 3) := by decide +kernel
theorem dX11_multiplyListed_14 : decode cX11_multiplyListed 14 = .ok (.iconst 0, 1) := by decide +kernel
theorem dX11_multiplyListed_15 : decode cX11_multiplyListed 15 = .ok (.istore_n 2, 1) := by decide +kernel
theorem dX11_multiplyListed_16 : decode cX11_multiplyListed 16 = .ok (.iload_n 2, 1) := by decide +kernel
theorem dX11_multiplyListed_17 : decode cX11_multiplyListed 17 = .ok (.aload_n 0, 1) := by decide +kernel
theorem dX11_multiplyListed_18 : decode cX11_multiplyListed 18 = .ok (.getfield 63, 3) := by decide +kernel
theorem dX11_multiplyListed_21 : decode cX11_multiplyListed 21 = .ok (.iload_n 1, 1) := by decide +kernel
theorem dX11_multiplyListed_22 : decode cX11_multiplyListed 22 = .ok (.invokevirtual 244, 3) := by decide +kernel
theorem dX11_multiplyListed_25 : decode cX11_multiplyListed 25 = .ok (.if_icmp .ge 40, 3) := by decide +kernel
theorem dX11_multiplyListed_28 : decode cX11_multiplyListed 28 = .ok (.aload_n 0, 1) := by decide +kernel
theorem dX11_multiplyListed_29 : decode cX11_multiplyListed 29 = .ok (.getfield 12, 3) := by decide +kernel
theorem dX11_multiplyListed_32 : decode cX11_multiplyListed 32 = .ok (.aload_n 0, 1) := by decide +kernel
theorem dX11_multiplyListed_33 : decode cX11_multiplyListed 33 = .ok (.getfield 63, 3) := by decide +kernel
theorem dX11_multiplyListed_36 : decode cX11_multiplyListed 36 = .ok (.iload_n 1, 1) := by decide +kernel
theorem dX11_multiplyListed_37 : decode cX11_multiplyListed 37 = .ok (.iload_n 2, 1) := by decide +kernel
theorem dX11_multiplyListed_38 : decode cX11_multiplyListed 38 = .ok (.invokevirtual 247, 3) := by decide +kernel
theorem dX11_multiplyListed_41 : decode cX11_multiplyListed 41 = .ok (.invokevirtual 155, 3) := by decide +kernel
theorem dX11_multiplyListed_44 : decode cX11_multiplyListed 44 = .ok (.astore_n 3, 1) := by decide +kernel
theorem dX11_multiplyListed_45 : decode cX11_multiplyListed 45 = .ok (.aload_n 3, 1) := by decide +kernel
theorem dX11_multiplyListed_46 : decode cX11_multiplyListed 46 = .ok (.ifnonnull 5, 3) := by decide +kernel
theorem dX11_multiplyListed_49 : decode cX11_multiplyListed 49 = .ok (.iconst 0, 1) := by decide +kernel
theorem dX11_multiplyListed_50 : decode cX11_multiplyListed 50 = .ok (.ireturn, 1) := by decide +kernel
theorem dX11_multiplyListed_51 : decode cX11_multiplyListed 51 = .ok (.aload_n 0, 1) := by decide +kernel
theorem dX11_multiplyListed_52 : decode cX11_multiplyListed 52 = .ok (.getfield 28, 3) := by decide +kernel
theorem dX11_multiplyListed_55 : decode cX11_multiplyListed 55 = .ok (.aload_n 3, 1) := by decide +kernel
theorem dX11_multiplyListed_56 : decode cX11_multiplyListed 56 = .ok (.invokevirtual 216, 3) := by decide +kernel
theorem dX11_multiplyListed_59 : decode cX11_multiplyListed 59 = .ok (.iinc 2 1, 3) := by decide +kernel
theorem dX11_multiplyListed_62 : decode cX11_multiplyListed 62 = .ok (.goto (-46), 3) := by decide +kernel
theorem dX11_multiplyListed_65 : decode cX11_multiplyListed 65 = .ok (.iconst 1, 1) := by decide +kernel
theorem dX11_multiplyListed_66 : decode cX11_multiplyListed 66 = .ok (.ireturn, 1) := by decide +kernel
set_option maxHeartbeats 4000000 in
set_option maxRecDepth 100000 in
theorem cn_X11_multiplyListed {l : Launch} {cA : Nat → ClassId} {ad : Nat → Nat} {D : va_G} {E : Nat → Nat} {A : Nat → Prop} {x1 : Int32} {s0 sr : SS} {rr : Int32} (hf : f_X11_multiplyListed x1 s0 = some (rr, sr)) : zCon Ox Nx cA ad D E l yX11_multiplyListed cX11_multiplyListed 4 (some .boolean) 4 A [.ref (ad 0), .int x1] s0 (some (.int rr)) sr := by
  refine zstart (own := RX11) hOx (by decide) rfl (Nat.le_of_ble_eq_true rfl) ?_
  intro p e s m args below meth c X hP ls hl
  have hx := X.1
  have hb := X.2.1
  have hl : lv_has ls 4 [(0, .ref (ad 0)), (1, .int x1)] := hl
  have hS : va_S A s.heap s.heap [] := va_S.rf
  have hc_16 : ∀ (n16 : Nat) (x1 : Int32) (x2 : Int32) (s1 : SS) (H : Heap) (locs : List Loc) (ls : Array Slot), lv_has ls 4 [(0, .ref (ad 0)), (1, .int x1), (2, .int x2)] → va_P D ZCL (zw Ox Nx cA ad s1) H → va_S A s.heap H locs → f_X11_multiplyListed_c16 n16 x1 x2 s1 = some (rr, sr) → W p l e (zrm 4) s m args below meth c H locs 0 0 (MQ below (zQc Ox Nx cA ad D A (some (.int rr)) sr) args s 0 0 A) (F0 m 16 ls []) := by
    intro n16
    induction n16 with
    | zero =>
      intro x1 x2 s1 H locs ls hl hP hS hf
      rw [f_X11_multiplyListed_c16] at hf
      cases hf
    | succ n16 ih16 =>
      intro x1 x2 s1 H locs ls hl hP hS hf
      rw [f_X11_multiplyListed_c16] at hf
      refine lv_iload_n hx hb dX11_multiplyListed_16 rfl (lv_at hl 2 rfl) ?_
      refine lv_aload_n hx hb dX11_multiplyListed_17 rfl (lv_at hl 0 rfl) ?_
      refine gf_X11_63 X hP (k := 0) (q := 11) rfl dX11_multiplyListed_18 rfl ?_
      refine lv_iload_n hx hb dX11_multiplyListed_21 rfl (lv_at hl 1 rfl) ?_
      obtain ⟨r4, s5, h6, hf⟩ := zbd_some hf
      refine zcallV X hP hS hl.1 (k := 11) (As := [.int x1]) (rest := [.int x2]) (cn_X5_sizeOf h6) cw_X5_sizeOf zp_5 rfl (by decide) rfl ml_X11_244 (by decide) rfl rfl (Nat.le_of_ble_eq_true rfl) dX11_multiplyListed_22 (fun H locs hP hS => ?_)
      refine zicmp_ge (tgt := 65) hx hb dX11_multiplyListed_25 (by decide) hf (fun hf => ?_) (fun hf => ?_)
      · refine lv_iconst (v := 1) hx hb dX11_multiplyListed_65 (by decide) ?_
        exact zret_i X hP hS hf rfl dX11_multiplyListed_66
      · refine lv_aload_n hx hb dX11_multiplyListed_28 rfl (lv_at hl 0 rfl) ?_
        refine gf_X11_12 X hP (k := 0) (q := 1) rfl dX11_multiplyListed_29 rfl ?_
        refine lv_aload_n hx hb dX11_multiplyListed_32 rfl (lv_at hl 0 rfl) ?_
        refine gf_X11_63 X hP (k := 0) (q := 11) rfl dX11_multiplyListed_33 rfl ?_
        refine lv_iload_n hx hb dX11_multiplyListed_36 rfl (lv_at hl 1 rfl) ?_
        refine lv_iload_n hx hb dX11_multiplyListed_37 rfl (lv_at hl 2 rfl) ?_
        obtain ⟨r7, s8, h9, hf⟩ := zbd_some hf
        refine zcallV X hP hS hl.1 (k := 11) (As := [.int x1, .int x2]) (rest := [.ref (ad 1)]) (cn_X5_valueAt h9) cw_X5_valueAt zp_5 rfl (by decide) rfl ml_X11_247 (by decide) rfl rfl (Nat.le_of_ble_eq_true rfl) dX11_multiplyListed_38 (fun H locs hP hS => ?_)
        obtain ⟨r10, s11, h12, hf⟩ := zbd_some hf
        refine zcallV X hP hS hl.1 (k := 1) (As := [.long r7]) (rest := []) (cn_X3_classAt h12) cw_X3_classAt zp_3 rfl (by decide) rfl ml_X11_155 (by decide) rfl rfl (Nat.le_of_ble_eq_true rfl) dX11_multiplyListed_41 (fun H locs hP hS => ?_)
        rcases r10 with _ | k13
        · have hf := zbn_none hf
          refine lv_astore_nN (lv' := [(3, .null), (0, .ref (ad 0)), (1, .int x1), (2, .int x2)]) hx hb dX11_multiplyListed_44 rfl hl (by decide) rfl (fun ls hl => ?_)
          refine lv_aload_nN hx hb dX11_multiplyListed_45 rfl (lv_at hl 0 rfl) ?_
          refine lv_ifnonnullN hx hb dX11_multiplyListed_46 ?_
          refine lv_iconst (v := 0) hx hb dX11_multiplyListed_49 (by decide) ?_
          exact zret_i X hP hS hf rfl dX11_multiplyListed_50
        · have hf := zbn_some hf
          obtain ⟨g14, hf⟩ := zgd hf
          refine lv_astore_n (lv' := [(3, .ref (ad k13)), (0, .ref (ad 0)), (1, .int x1), (2, .int x2)]) hx hb dX11_multiplyListed_44 rfl hl (by decide) rfl (fun ls hl => ?_)
          refine lv_aload_n hx hb dX11_multiplyListed_45 rfl (lv_at hl 0 rfl) ?_
          refine lv_ifnonnull (tgt := 51) hx hb dX11_multiplyListed_46 (by decide) ?_
          refine lv_aload_n hx hb dX11_multiplyListed_51 rfl (lv_at hl 1 rfl) ?_
          refine gf_X11_28 X hP (k := 0) (q := 5) rfl dX11_multiplyListed_52 rfl ?_
          refine lv_aload_n hx hb dX11_multiplyListed_55 rfl (lv_at hl 0 rfl) ?_
          obtain ⟨r15, s16, h17, hf⟩ := zbd_some hf
          refine zcallV X hP hS hl.1 (k := 5) (As := [.ref (ad k13)]) (rest := []) (cn_X8_multiplyBy h17) cw_X8_multiplyBy zp_8 rfl (by decide) rfl ml_X11_216 (by decide) rfl rfl (Nat.le_of_ble_eq_true rfl) dX11_multiplyListed_56 (fun H locs hP hS => ?_)
          refine lv_iinc (v := (x2 + 1)) (lv' := [(2, .int (x2 + 1)), (3, .ref (ad k13)), (0, .ref (ad 0)), (1, .int x1)]) hx hb dX11_multiplyListed_59 hl (k := 3) rfl rfl (by decide) rfl (fun ls hl => ?_)
          refine lv_goto (tgt := 16) hx hb dX11_multiplyListed_62 (by decide) ?_
          exact ih16 x1 (x2 + 1) s16 _ _ _ (lv_sub hl [2, 3, 0] rfl) hP hS hf
  rw [f_X11_multiplyListed] at hf
  refine lv_aload_n hx hb dX11_multiplyListed_0 rfl (lv_at hl 0 rfl) ?_
  refine gf_X11_28 X hP (k := 0) (q := 5) rfl dX11_multiplyListed_1 rfl ?_
  refine lv_aload_n hx hb dX11_multiplyListed_4 rfl (lv_at hl 0 rfl) ?_
  refine gf_X11_28 X hP (k := 0) (q := 5) rfl dX11_multiplyListed_5 rfl ?_
  refine gf_X11_188 X hP (k := 5) (q := 21) rfl dX11_multiplyListed_8 rfl ?_
  obtain ⟨r1, s2, h3, hf⟩ := zbd_some hf
  refine zcallV X hP hS hl.1 (k := 5) (As := [.ref (ad 21)]) (rest := []) (cn_X8_makeOne h3) cw_X8_makeOne zp_8 rfl (by decide) rfl ml_X11_240 (by decide) rfl rfl (Nat.le_of_ble_eq_true rfl) dX11_multiplyListed_11 (fun H locs hP hS => ?_)
  refine lv_iconst (v := 0) hx hb dX11_multiplyListed_14 (by decide) ?_
  refine lv_istore_n (lv' := [(2, .int 0), (0, .ref (ad 0)), (1, .int x1)]) hx hb dX11_multiplyListed_15 rfl hl (by decide) rfl (fun ls hl => ?_)
  exact hc_16 ZF x1 0 s2 _ _ _ (lv_sub hl [1, 2, 0] rfl) hP hS hf
theorem dX11_meetsAll_0 : decode cX11_meetsAll 0 = .ok (.aload_n 0, 1) := by decide +kernel
theorem dX11_meetsAll_1 : decode cX11_meetsAll 1 = .ok (.getfield 63, 3) := by decide +kernel
theorem dX11_meetsAll_4 : decode cX11_meetsAll 4 = .ok (.iload_n 1, 1) := by decide +kernel
theorem dX11_meetsAll_5 : decode cX11_meetsAll 5 = .ok (.invokevirtual 220, 3) := by decide +kernel
theorem dX11_meetsAll_8 : decode cX11_meetsAll 8 = .ok (.ifCond .ne 7, 3) := by decide +kernel
theorem dX11_meetsAll_11 : decode cX11_meetsAll 11 = .ok (.ldc2_w 132, 3) := by decide +kernel
theorem dX11_meetsAll_14 : decode cX11_meetsAll 14 = .ok (.lreturn, 1) := by decide +kernel
theorem dX11_meetsAll_15 : decode cX11_meetsAll 15 = .ok (.aload_n 0, 1) := by decide +kernel
theorem dX11_meetsAll_16 : decode cX11_meetsAll 16 = .ok (.iload_n 1, 1) := by decide +kernel
theorem dX11_meetsAll_17 : decode cX11_meetsAll 17 = .ok (.invokevirtual 224, 3) := by decide +kernel
theorem dX11_meetsAll_20 : decode cX11_meetsAll 20 = .ok (.ifCond .eq 20, 3) := by decide +kernel
theorem dX11_meetsAll_23 : decode cX11_meetsAll 23 = .ok (.aload_n 0, 1) := by decide +kernel
theorem dX11_meetsAll_24 : decode cX11_meetsAll 24 = .ok (.getfield 28, 3) := by decide +kernel
theorem dX11_meetsAll_27 : decode cX11_meetsAll 27 = .ok (.aload_n 0, 1) := by decide +kernel
theorem dX11_meetsAll_28 : decode cX11_meetsAll 28 = .ok (.getfield 28, 3) := by decide +kernel
theorem dX11_meetsAll_31 : decode cX11_meetsAll 31 = .ok (.getfield 188, 3) := by decide +kernel
theorem dX11_meetsAll_34 : decode cX11_meetsAll 34 = .ok (.invokevirtual 212, 3) := by decide +kernel
theorem dX11_meetsAll_37 : decode cX11_meetsAll 37 = .ok (.goto 6, 3) := by decide +kernel
theorem dX11_meetsAll_40 : decode cX11_meetsAll 40 = .ok (.ldc2_w 227, 3) := by decide +kernel
theorem dX11_meetsAll_43 : decode cX11_meetsAll 43 = .ok (.lreturn, 1) := by decide +kernel
set_option maxHeartbeats 4000000 in
set_option maxRecDepth 100000 in
theorem cn_X11_meetsAll {l : Launch} {cA : Nat → ClassId} {ad : Nat → Nat} {D : va_G} {E : Nat → Nat} {A : Nat → Prop} {x1 : Int32} {s0 sr : SS} {rr : Int64} (hf : f_X11_meetsAll x1 s0 = some (rr, sr)) : zCon Ox Nx cA ad D E l yX11_meetsAll cX11_meetsAll 2 (some .long) 5 A [.ref (ad 0), .int x1] s0 (some (.long rr)) sr := by
  refine zstart (own := RX11) hOx (by decide) rfl (Nat.le_of_ble_eq_true rfl) ?_
  intro p e s m args below meth c X hP ls hl
  have hx := X.1
  have hb := X.2.1
  have hl : lv_has ls 2 [(0, .ref (ad 0)), (1, .int x1)] := hl
  have hS : va_S A s.heap s.heap [] := va_S.rf
  rw [f_X11_meetsAll] at hf
  refine lv_aload_n hx hb dX11_meetsAll_0 rfl (lv_at hl 0 rfl) ?_
  refine gf_X11_63 X hP (k := 0) (q := 11) rfl dX11_meetsAll_1 rfl ?_
  refine lv_iload_n hx hb dX11_meetsAll_4 rfl (lv_at hl 1 rfl) ?_
  obtain ⟨r1, s2, h3, hf⟩ := zbd_some hf
  refine zcallV X hP hS hl.1 (k := 11) (As := [.int x1]) (rest := []) (cn_X5_isThere h3) cw_X5_isThere zp_5 rfl (by decide) rfl ml_X11_220 (by decide) rfl rfl (Nat.le_of_ble_eq_true rfl) dX11_meetsAll_5 (fun H locs hP hS => ?_)
  refine zif_ne (tgt := 15) hx hb dX11_meetsAll_8 (by decide) hf (fun hf => ?_) (fun hf => ?_)
  · refine lv_aload_n hx hb dX11_meetsAll_15 rfl (lv_at hl 0 rfl) ?_
    refine lv_iload_n hx hb dX11_meetsAll_16 rfl (lv_at hl 1 rfl) ?_
    obtain ⟨r4, s5, h6, hf⟩ := zbd_some hf
    refine zcallV X hP hS hl.1 (k := 0) (As := [.int x1]) (rest := []) (cn_X11_multiplyListed h6) cw_X11_multiplyListed zp_11 rfl (by decide) rfl ml_X11_224 (by decide) rfl rfl (Nat.le_of_ble_eq_true rfl) dX11_meetsAll_17 (fun H locs hP hS => ?_)
    refine zif_eq (tgt := 40) hx hb dX11_meetsAll_20 (by decide) hf (fun hf => ?_) (fun hf => ?_)
    · refine zldc2 X co_X11_227 dX11_meetsAll_40 ?_
      exact zret_l X hP hS hf dX11_meetsAll_43
    · refine lv_aload_n hx hb dX11_meetsAll_23 rfl (lv_at hl 0 rfl) ?_
      refine gf_X11_28 X hP (k := 0) (q := 5) rfl dX11_meetsAll_24 rfl ?_
      refine lv_aload_n hx hb dX11_meetsAll_27 rfl (lv_at hl 0 rfl) ?_
      refine gf_X11_28 X hP (k := 0) (q := 5) rfl dX11_meetsAll_28 rfl ?_
      refine gf_X11_188 X hP (k := 5) (q := 21) rfl dX11_meetsAll_31 rfl ?_
      obtain ⟨r7, s8, h9, hf⟩ := zbd_some hf
      refine zcallV X hP hS hl.1 (k := 5) (As := [.ref (ad 21)]) (rest := []) (cn_X8_metOf h9) cw_X8_metOf zp_8 rfl (by decide) rfl ml_X11_212 (by decide) rfl rfl (Nat.le_of_ble_eq_true rfl) dX11_meetsAll_34 (fun H locs hP hS => ?_)
      refine lv_goto (tgt := 43) hx hb dX11_meetsAll_37 (by decide) ?_
      exact zret_l X hP hS hf dX11_meetsAll_43
  · refine zldc2 X co_X11_132 dX11_meetsAll_11 ?_
    exact zret_l X hP hS hf dX11_meetsAll_14
theorem dX11_self_0 : decode cX11_self 0 = .ok (.aload_n 0, 1) := by decide +kernel
theorem dX11_self_1 : decode cX11_self 1 = .ok (.getfield 12, 3) := by decide +kernel
theorem dX11_self_4 : decode cX11_self 4 = .ok (.iload_n 1, 1) := by decide +kernel
theorem dX11_self_5 : decode cX11_self 5 = .ok (.i2l, 1) := by decide +kernel
theorem dX11_self_6 : decode cX11_self 6 = .ok (.invokevirtual 155, 3) := by decide +kernel
theorem dX11_self_9 : decode cX11_self 9 = .ok (.astore_n 3, 1) := by decide +kernel
theorem dX11_self_10 : decode cX11_self 10 = .ok (.aload_n 3, 1) := by decide +kernel
theorem dX11_self_11 : decode cX11_self 11 = .ok (.ifnull 13, 3) := by decide +kernel
theorem dX11_self_14 : decode cX11_self 14 = .ok (.iload_n 2, 1) := by decide +kernel
theorem dX11_self_15 : decode cX11_self 15 = .ok (.ifCond .lt 9, 3) := by decide +kernel
theorem dX11_self_18 : decode cX11_self 18 = .ok (.iload_n 2, 1) := by decide +kernel
theorem dX11_self_19 : decode cX11_self 19 = .ok (.bipush 6, 2) := by decide +kernel
theorem dX11_self_21 : decode cX11_self 21 = .ok (.if_icmp .le 7, 3) := by decide +kernel
theorem dX11_self_24 : decode cX11_self 24 = .ok (.ldc2_w 132, 3) := by decide +kernel
theorem dX11_self_27 : decode cX11_self 27 = .ok (.lreturn, 1) := by decide +kernel
theorem dX11_self_28 : decode cX11_self 28 = .ok (.aload_n 0, 1) := by decide +kernel
theorem dX11_self_29 : decode cX11_self 29 = .ok (.getfield 28, 3) := by decide +kernel
theorem dX11_self_32 : decode cX11_self 32 = .ok (.aload_n 3, 1) := by decide +kernel
theorem dX11_self_33 : decode cX11_self 33 = .ok (.iload_n 2, 1) := by decide +kernel
theorem dX11_self_34 : decode cX11_self 34 = .ok (.invokevirtual 229, 3) := by decide +kernel
theorem dX11_self_37 : decode cX11_self 37 = .ok (.aload_n 0, 1) := by decide +kernel
theorem dX11_self_38 : decode cX11_self 38 = .ok (.getfield 28, 3) := by decide +kernel
theorem dX11_self_41 : decode cX11_self 41 = .ok (.aload_n 0, 1) := by decide +kernel
theorem dX11_self_42 : decode cX11_self 42 = .ok (.getfield 28, 3) := by decide +kernel
theorem dX11_self_45 : decode cX11_self 45 = .ok (.getfield 188, 3) := by decide +kernel
theorem dX11_self_48 : decode cX11_self 48 = .ok (.invokevirtual 212, 3) := by decide +kernel
theorem dX11_self_51 : decode cX11_self 51 = .ok (.lreturn, 1) := by decide +kernel
set_option maxHeartbeats 4000000 in
set_option maxRecDepth 100000 in
theorem cn_X11_self {l : Launch} {cA : Nat → ClassId} {ad : Nat → Nat} {D : va_G} {E : Nat → Nat} {A : Nat → Prop} {x1 : Int32} {x2 : Int32} {s0 sr : SS} {rr : Int64} (hf : f_X11_self x1 x2 s0 = some (rr, sr)) : zCon Ox Nx cA ad D E l yX11_self cX11_self 4 (some .long) 4 A [.ref (ad 0), .int x1, .int x2] s0 (some (.long rr)) sr := by
  refine zstart (own := RX11) hOx (by decide) rfl (Nat.le_of_ble_eq_true rfl) ?_
  intro p e s m args below meth c X hP ls hl
  have hx := X.1
  have hb := X.2.1
  have hl : lv_has ls 4 [(0, .ref (ad 0)), (1, .int x1), (2, .int x2)] := hl
  have hS : va_S A s.heap s.heap [] := va_S.rf
  rw [f_X11_self] at hf
  refine lv_aload_n hx hb dX11_self_0 rfl (lv_at hl 0 rfl) ?_
  refine gf_X11_12 X hP (k := 0) (q := 1) rfl dX11_self_1 rfl ?_
  refine lv_iload_n hx hb dX11_self_4 rfl (lv_at hl 1 rfl) ?_
  refine lv_i2l hx hb dX11_self_5 rfl ?_
  obtain ⟨r1, s2, h3, hf⟩ := zbd_some hf
  refine zcallV X hP hS hl.1 (k := 1) (As := [.long (x1).toInt64]) (rest := []) (cn_X3_classAt h3) cw_X3_classAt zp_3 rfl (by decide) rfl ml_X11_155 (by decide) rfl rfl (Nat.le_of_ble_eq_true rfl) dX11_self_6 (fun H locs hP hS => ?_)
  rcases r1 with _ | k4
  · have hf := zbn_none hf
    refine lv_astore_nN (lv' := [(3, .null), (0, .ref (ad 0)), (1, .int x1), (2, .int x2)]) hx hb dX11_self_9 rfl hl (by decide) rfl (fun ls hl => ?_)
    refine lv_aload_nN hx hb dX11_self_10 rfl (lv_at hl 0 rfl) ?_
    refine lv_ifnullN (tgt := 24) hx hb dX11_self_11 (by decide) ?_
    refine zldc2 X co_X11_132 dX11_self_24 ?_
    exact zret_l X hP hS hf dX11_self_27
  · have hf := zbn_some hf
    obtain ⟨g5, hf⟩ := zgd hf
    refine lv_astore_n (lv' := [(3, .ref (ad k4)), (0, .ref (ad 0)), (1, .int x1), (2, .int x2)]) hx hb dX11_self_9 rfl hl (by decide) rfl (fun ls hl => ?_)
    refine lv_aload_n hx hb dX11_self_10 rfl (lv_at hl 0 rfl) ?_
    refine lv_ifnull hx hb dX11_self_11 ?_
    refine lv_iload_n hx hb dX11_self_14 rfl (lv_at hl 3 rfl) ?_
    refine zif_lt (tgt := 24) hx hb dX11_self_15 (by decide) hf (fun hf => ?_) (fun hf => ?_)
    · refine zldc2 X co_X11_132 dX11_self_24 ?_
      exact zret_l X hP hS hf dX11_self_27
    · refine lv_iload_n hx hb dX11_self_18 rfl (lv_at hl 3 rfl) ?_
      refine lv_bipush (v := 6) hx hb dX11_self_19 (by decide) ?_
      refine zicmp_le (tgt := 28) hx hb dX11_self_21 (by decide) hf (fun hf => ?_) (fun hf => ?_)
      · refine lv_aload_n hx hb dX11_self_28 rfl (lv_at hl 1 rfl) ?_
        refine gf_X11_28 X hP (k := 0) (q := 5) rfl dX11_self_29 rfl ?_
        refine lv_aload_n hx hb dX11_self_32 rfl (lv_at hl 0 rfl) ?_
        refine lv_iload_n hx hb dX11_self_33 rfl (lv_at hl 3 rfl) ?_
        obtain ⟨r6, s7, h8, hf⟩ := zbd_some hf
        refine zcallV X hP hS hl.1 (k := 5) (As := [.ref (ad k4), .int x2]) (rest := []) (cn_X8_makePower h8) cw_X8_makePower zp_8 rfl (by decide) rfl ml_X11_229 (by decide) rfl rfl (Nat.le_of_ble_eq_true rfl) dX11_self_34 (fun H locs hP hS => ?_)
        refine lv_aload_n hx hb dX11_self_37 rfl (lv_at hl 1 rfl) ?_
        refine gf_X11_28 X hP (k := 0) (q := 5) rfl dX11_self_38 rfl ?_
        refine lv_aload_n hx hb dX11_self_41 rfl (lv_at hl 1 rfl) ?_
        refine gf_X11_28 X hP (k := 0) (q := 5) rfl dX11_self_42 rfl ?_
        refine gf_X11_188 X hP (k := 5) (q := 21) rfl dX11_self_45 rfl ?_
        obtain ⟨r9, s10, h11, hf⟩ := zbd_some hf
        refine zcallV X hP hS hl.1 (k := 5) (As := [.ref (ad 21)]) (rest := []) (cn_X8_metOf h11) cw_X8_metOf zp_8 rfl (by decide) rfl ml_X11_212 (by decide) rfl rfl (Nat.le_of_ble_eq_true rfl) dX11_self_48 (fun H locs hP hS => ?_)
        exact zret_l X hP hS hf dX11_self_51
      · refine zldc2 X co_X11_132 dX11_self_24 ?_
        exact zret_l X hP hS hf dX11_self_27
theorem dX11_like_0 : decode cX11_like 0 = .ok (.aload_n 0, 1) := by decide +kernel
theorem dX11_like_1 : decode cX11_like 1 = .ok (.getfield 12, 3) := by decide +kernel
theorem dX11_like_4 : decode cX11_like 4 = .ok (.iload_n 1, 1) := by decide +kernel
theorem dX11_like_5 : decode cX11_like 5 = .ok (.i2l, 1) := by decide +kernel
theorem dX11_like_6 : decode cX11_like 6 = .ok (.invokevirtual 155, 3) := by decide +kernel
theorem dX11_like_9 : decode cX11_like 9 = .ok (.astore_n 3, 1) := by decide +kernel
theorem dX11_like_10 : decode cX11_like 10 = .ok (.aload_n 0, 1) := by decide +kernel
theorem dX11_like_11 : decode cX11_like 11 = .ok (.getfield 12, 3) := by decide +kernel
theorem dX11_like_14 : decode cX11_like 14 = .ok (.iload_n 2, 1) := by decide +kernel
theorem dX11_like_15 : decode cX11_like 15 = .ok (.i2l, 1) := by decide +kernel
theorem dX11_like_16 : decode cX11_like 16 = .ok (.invokevirtual 155, 3) := by decide +kernel
theorem dX11_like_19 : decode cX11_like 19 = .ok (.astore 4, 2) := by decide +kernel
theorem dX11_like_21 : decode cX11_like 21 = .ok (.aload_n 3, 1) := by decide +kernel
theorem dX11_like_22 : decode cX11_like 22 = .ok (.ifnull 8, 3) := by decide +kernel
theorem dX11_like_25 : decode cX11_like 25 = .ok (.aload 4, 2) := by decide +kernel
theorem dX11_like_27 : decode cX11_like 27 = .ok (.ifnonnull 5, 3) := by decide +kernel
theorem dX11_like_30 : decode cX11_like 30 = .ok (.iconst (-1), 1) := by decide +kernel
theorem dX11_like_31 : decode cX11_like 31 = .ok (.ireturn, 1) := by decide +kernel
theorem dX11_like_32 : decode cX11_like 32 = .ok (.aload_n 0, 1) := by decide +kernel
theorem dX11_like_33 : decode cX11_like 33 = .ok (.getfield 28, 3) := by decide +kernel
theorem dX11_like_36 : decode cX11_like 36 = .ok (.aload_n 3, 1) := by decide +kernel
theorem dX11_like_37 : decode cX11_like 37 = .ok (.aload_n 0, 1) := by decide +kernel
theorem dX11_like_38 : decode cX11_like 38 = .ok (.getfield 28, 3) := by decide +kernel
theorem dX11_like_41 : decode cX11_like 41 = .ok (.getfield 188, 3) := by decide +kernel
theorem dX11_like_44 : decode cX11_like 44 = .ok (.invokevirtual 208, 3) := by decide +kernel
theorem dX11_like_47 : decode cX11_like 47 = .ok (.aload_n 0, 1) := by decide +kernel
theorem dX11_like_48 : decode cX11_like 48 = .ok (.getfield 28, 3) := by decide +kernel
theorem dX11_like_51 : decode cX11_like 51 = .ok (.aload 4, 2) := by decide +kernel
theorem dX11_like_53 : decode cX11_like 53 = .ok (.aload_n 0, 1) := by decide +kernel
theorem dX11_like_54 : decode cX11_like 54 = .ok (.getfield 28, 3) := by decide +kernel
theorem dX11_like_57 : decode cX11_like 57 = .ok (.getfield 233, 3) := by decide +kernel
theorem dX11_like_60 : decode cX11_like 60 = .ok (.invokevirtual 208, 3) := by decide +kernel
theorem dX11_like_63 : decode cX11_like 63 = .ok (.aload_n 0, 1) := by decide +kernel
theorem dX11_like_64 : decode cX11_like 64 = .ok (.getfield 28, 3) := by decide +kernel
theorem dX11_like_67 : decode cX11_like 67 = .ok (.aload_n 0, 1) := by decide +kernel
theorem dX11_like_68 : decode cX11_like 68 = .ok (.getfield 28, 3) := by decide +kernel
theorem dX11_like_71 : decode cX11_like 71 = .ok (.getfield 188, 3) := by decide +kernel
theorem dX11_like_74 : decode cX11_like 74 = .ok (.aload_n 0, 1) := by decide +kernel
theorem dX11_like_75 : decode cX11_like 75 = .ok (.getfield 28, 3) := by decide +kernel
theorem dX11_like_78 : decode cX11_like 78 = .ok (.getfield 233, 3) := by decide +kernel
theorem dX11_like_81 : decode cX11_like 81 = .ok (.invokevirtual 236, 3) := by decide +kernel
theorem dX11_like_84 : decode cX11_like 84 = .ok (.ifCond .eq 7, 3) := by decide +kernel
theorem dX11_like_87 : decode cX11_like 87 = .ok (.iconst 1, 1) := by decide +kernel
theorem dX11_like_88 : decode cX11_like 88 = .ok (.goto 4, 3) := by decide +kernel
theorem dX11_like_91 : decode cX11_like 91 = .ok (.iconst 0, 1) := by decide +kernel
theorem dX11_like_92 : decode cX11_like 92 = .ok (.ireturn, 1) := by decide +kernel
set_option maxHeartbeats 4000000 in
set_option maxRecDepth 100000 in
theorem cn_X11_like {l : Launch} {cA : Nat → ClassId} {ad : Nat → Nat} {D : va_G} {E : Nat → Nat} {A : Nat → Prop} {x1 : Int32} {x2 : Int32} {s0 sr : SS} {rr : Int32} (hf : f_X11_like x1 x2 s0 = some (rr, sr)) : zCon Ox Nx cA ad D E l yX11_like cX11_like 5 (some .int) 3 A [.ref (ad 0), .int x1, .int x2] s0 (some (.int rr)) sr := by
  refine zstart (own := RX11) hOx (by decide) rfl (Nat.le_of_ble_eq_true rfl) ?_
  intro p e s m args below meth c X hP ls hl
  have hx := X.1
  have hb := X.2.1
  have hl : lv_has ls 5 [(0, .ref (ad 0)), (1, .int x1), (2, .int x2)] := hl
  have hS : va_S A s.heap s.heap [] := va_S.rf
  rw [f_X11_like] at hf
  refine lv_aload_n hx hb dX11_like_0 rfl (lv_at hl 0 rfl) ?_
  refine gf_X11_12 X hP (k := 0) (q := 1) rfl dX11_like_1 rfl ?_
  refine lv_iload_n hx hb dX11_like_4 rfl (lv_at hl 1 rfl) ?_
  refine lv_i2l hx hb dX11_like_5 rfl ?_
  obtain ⟨r1, s2, h3, hf⟩ := zbd_some hf
  refine zcallV X hP hS hl.1 (k := 1) (As := [.long (x1).toInt64]) (rest := []) (cn_X3_classAt h3) cw_X3_classAt zp_3 rfl (by decide) rfl ml_X11_155 (by decide) rfl rfl (Nat.le_of_ble_eq_true rfl) dX11_like_6 (fun H locs hP hS => ?_)
  rcases r1 with _ | k4
  · have hf := zbn_none hf
    refine lv_astore_nN (lv' := [(3, .null), (0, .ref (ad 0)), (1, .int x1), (2, .int x2)]) hx hb dX11_like_9 rfl hl (by decide) rfl (fun ls hl => ?_)
    refine lv_aload_n hx hb dX11_like_10 rfl (lv_at hl 1 rfl) ?_
    refine gf_X11_12 X hP (k := 0) (q := 1) rfl dX11_like_11 rfl ?_
    refine lv_iload_n hx hb dX11_like_14 rfl (lv_at hl 3 rfl) ?_
    refine lv_i2l hx hb dX11_like_15 rfl ?_
    obtain ⟨r6, s7, h8, hf⟩ := zbd_some hf
    refine zcallV X hP hS hl.1 (k := 1) (As := [.long (x2).toInt64]) (rest := []) (cn_X3_classAt h8) cw_X3_classAt zp_3 rfl (by decide) rfl ml_X11_155 (by decide) rfl rfl (Nat.le_of_ble_eq_true rfl) dX11_like_16 (fun H locs hP hS => ?_)
    rcases r6 with _ | k9
    · have hf := zbn_none hf
      refine lv_astoreN (lv' := [(4, .null), (3, .null), (0, .ref (ad 0)), (1, .int x1), (2, .int x2)]) hx hb dX11_like_19 hl (by decide) rfl (fun ls hl => ?_)
      refine lv_aload_nN hx hb dX11_like_21 rfl (lv_at hl 1 rfl) ?_
      refine lv_ifnullN (tgt := 30) hx hb dX11_like_22 (by decide) ?_
      refine lv_iconst (v := (-1)) hx hb dX11_like_30 (by decide) ?_
      exact zret_i X hP hS hf rfl dX11_like_31
    · have hf := zbn_some hf
      obtain ⟨g10, hf⟩ := zgd hf
      refine lv_astore (lv' := [(4, .ref (ad k9)), (3, .null), (0, .ref (ad 0)), (1, .int x1), (2, .int x2)]) hx hb dX11_like_19 hl (by decide) rfl (fun ls hl => ?_)
      refine lv_aload_nN hx hb dX11_like_21 rfl (lv_at hl 1 rfl) ?_
      refine lv_ifnullN (tgt := 30) hx hb dX11_like_22 (by decide) ?_
      refine lv_iconst (v := (-1)) hx hb dX11_like_30 (by decide) ?_
      exact zret_i X hP hS hf rfl dX11_like_31
  · have hf := zbn_some hf
    obtain ⟨g5, hf⟩ := zgd hf
    refine lv_astore_n (lv' := [(3, .ref (ad k4)), (0, .ref (ad 0)), (1, .int x1), (2, .int x2)]) hx hb dX11_like_9 rfl hl (by decide) rfl (fun ls hl => ?_)
    refine lv_aload_n hx hb dX11_like_10 rfl (lv_at hl 1 rfl) ?_
    refine gf_X11_12 X hP (k := 0) (q := 1) rfl dX11_like_11 rfl ?_
    refine lv_iload_n hx hb dX11_like_14 rfl (lv_at hl 3 rfl) ?_
    refine lv_i2l hx hb dX11_like_15 rfl ?_
    obtain ⟨r11, s12, h13, hf⟩ := zbd_some hf
    refine zcallV X hP hS hl.1 (k := 1) (As := [.long (x2).toInt64]) (rest := []) (cn_X3_classAt h13) cw_X3_classAt zp_3 rfl (by decide) rfl ml_X11_155 (by decide) rfl rfl (Nat.le_of_ble_eq_true rfl) dX11_like_16 (fun H locs hP hS => ?_)
    rcases r11 with _ | k14
    · have hf := zbn_none hf
      refine lv_astoreN (lv' := [(4, .null), (3, .ref (ad k4)), (0, .ref (ad 0)), (1, .int x1), (2, .int x2)]) hx hb dX11_like_19 hl (by decide) rfl (fun ls hl => ?_)
      refine lv_aload_n hx hb dX11_like_21 rfl (lv_at hl 1 rfl) ?_
      refine lv_ifnull hx hb dX11_like_22 ?_
      refine lv_aloadN hx hb dX11_like_25 (lv_at hl 0 rfl) ?_
      refine lv_ifnonnullN hx hb dX11_like_27 ?_
      refine lv_iconst (v := (-1)) hx hb dX11_like_30 (by decide) ?_
      exact zret_i X hP hS hf rfl dX11_like_31
    · have hf := zbn_some hf
      obtain ⟨g15, hf⟩ := zgd hf
      refine lv_astore (lv' := [(4, .ref (ad k14)), (3, .ref (ad k4)), (0, .ref (ad 0)), (1, .int x1), (2, .int x2)]) hx hb dX11_like_19 hl (by decide) rfl (fun ls hl => ?_)
      refine lv_aload_n hx hb dX11_like_21 rfl (lv_at hl 1 rfl) ?_
      refine lv_ifnull hx hb dX11_like_22 ?_
      refine lv_aload hx hb dX11_like_25 (lv_at hl 0 rfl) ?_
      refine lv_ifnonnull (tgt := 32) hx hb dX11_like_27 (by decide) ?_
      refine lv_aload_n hx hb dX11_like_32 rfl (lv_at hl 2 rfl) ?_
      refine gf_X11_28 X hP (k := 0) (q := 5) rfl dX11_like_33 rfl ?_
      refine lv_aload_n hx hb dX11_like_36 rfl (lv_at hl 1 rfl) ?_
      refine lv_aload_n hx hb dX11_like_37 rfl (lv_at hl 2 rfl) ?_
      refine gf_X11_28 X hP (k := 0) (q := 5) rfl dX11_like_38 rfl ?_
      refine gf_X11_188 X hP (k := 5) (q := 21) rfl dX11_like_41 rfl ?_
      obtain ⟨r16, s17, h18, hf⟩ := zbd_some hf
      refine zcallV X hP hS hl.1 (k := 5) (As := [.ref (ad k4), .ref (ad 21)]) (rest := []) (cn_X8_takeNumbers h18) cw_X8_takeNumbers zp_8 rfl (by decide) rfl ml_X11_208 (by decide) rfl rfl (Nat.le_of_ble_eq_true rfl) dX11_like_44 (fun H locs hP hS => ?_)
      refine lv_aload_n hx hb dX11_like_47 rfl (lv_at hl 2 rfl) ?_
      refine gf_X11_28 X hP (k := 0) (q := 5) rfl dX11_like_48 rfl ?_
      refine lv_aload hx hb dX11_like_51 (lv_at hl 0 rfl) ?_
      refine lv_aload_n hx hb dX11_like_53 rfl (lv_at hl 2 rfl) ?_
      refine gf_X11_28 X hP (k := 0) (q := 5) rfl dX11_like_54 rfl ?_
      refine gf_X11_233 X hP (k := 5) (q := 22) rfl dX11_like_57 rfl ?_
      obtain ⟨r19, s20, h21, hf⟩ := zbd_some hf
      refine zcallV X hP hS hl.1 (k := 5) (As := [.ref (ad k14), .ref (ad 22)]) (rest := []) (cn_X8_takeNumbers h21) cw_X8_takeNumbers zp_8 rfl (by decide) rfl ml_X11_208 (by decide) rfl rfl (Nat.le_of_ble_eq_true rfl) dX11_like_60 (fun H locs hP hS => ?_)
      refine lv_aload_n hx hb dX11_like_63 rfl (lv_at hl 2 rfl) ?_
      refine gf_X11_28 X hP (k := 0) (q := 5) rfl dX11_like_64 rfl ?_
      refine lv_aload_n hx hb dX11_like_67 rfl (lv_at hl 2 rfl) ?_
      refine gf_X11_28 X hP (k := 0) (q := 5) rfl dX11_like_68 rfl ?_
      refine gf_X11_188 X hP (k := 5) (q := 21) rfl dX11_like_71 rfl ?_
      refine lv_aload_n hx hb dX11_like_74 rfl (lv_at hl 2 rfl) ?_
      refine gf_X11_28 X hP (k := 0) (q := 5) rfl dX11_like_75 rfl ?_
      refine gf_X11_233 X hP (k := 5) (q := 22) rfl dX11_like_78 rfl ?_
      obtain ⟨r22, s23, h24, hf⟩ := zbd_some hf
      refine zcallV X hP hS hl.1 (k := 5) (As := [.ref (ad 21), .ref (ad 22)]) (rest := []) (cn_X8_areLike h24) cw_X8_areLike zp_8 rfl (by decide) rfl ml_X11_236 (by decide) rfl rfl (Nat.le_of_ble_eq_true rfl) dX11_like_81 (fun H locs hP hS => ?_)
      refine zif_eq (tgt := 91) hx hb dX11_like_84 (by decide) hf (fun hf => ?_) (fun hf => ?_)
      · refine lv_iconst (v := 0) hx hb dX11_like_91 (by decide) ?_
        exact zret_i X hP hS hf rfl dX11_like_92
      · refine lv_iconst (v := 1) hx hb dX11_like_87 (by decide) ?_
        refine lv_goto (tgt := 92) hx hb dX11_like_88 (by decide) ?_
        exact zret_i X hP hS hf rfl dX11_like_92
theorem dX11_chern_0 : decode cX11_chern 0 = .ok (.aload_n 0, 1) := by decide +kernel
theorem dX11_chern_1 : decode cX11_chern 1 = .ok (.getfield 28, 3) := by decide +kernel
theorem dX11_chern_4 : decode cX11_chern 4 = .ok (.getfield 84, 3) := by decide +kernel
theorem dX11_chern_7 : decode cX11_chern 7 = .ok (.iload_n 1, 1) := by decide +kernel
theorem dX11_chern_8 : decode cX11_chern 8 = .ok (.invokevirtual 128, 3) := by decide +kernel
theorem dX11_chern_11 : decode cX11_chern 11 = .ok (.istore_n 2, 1) := by decide +kernel
theorem dX11_chern_12 : decode cX11_chern 12 = .ok (.iload_n 2, 1) := by decide +kernel
theorem dX11_chern_13 : decode cX11_chern 13 = .ok (.ifCond .ge 7, 3) := by decide +kernel
theorem dX11_chern_16 : decode cX11_chern 16 = .ok (.ldc2_w 132, 3) := by decide +kernel
theorem dX11_chern_19 : decode cX11_chern 19 = .ok (.lreturn, 1) := by decide +kernel
theorem dX11_chern_20 : decode cX11_chern 20 = .ok (.aload_n 0, 1) := by decide +kernel
theorem dX11_chern_21 : decode cX11_chern 21 = .ok (.getfield 12, 3) := by decide +kernel
theorem dX11_chern_24 : decode cX11_chern 24 = .ok (.getfield 74, 3) := by decide +kernel
theorem dX11_chern_27 : decode cX11_chern 27 = .ok (.invokevirtual 251, 3) := by decide +kernel
theorem dX11_chern_30 : decode cX11_chern 30 = .ok (.ifCond .ne 7, 3) := by decide +kernel
theorem dX11_chern_33 : decode cX11_chern 33 = .ok (.ldc2_w 227, 3) := by decide +kernel
theorem dX11_chern_36 : decode cX11_chern 36 = .ok (.lreturn, 1) := by decide +kernel
theorem dX11_chern_37 : decode cX11_chern 37 = .ok (.aload_n 0, 1) := by decide +kernel
theorem dX11_chern_38 : decode cX11_chern 38 = .ok (.getfield 28, 3) := by decide +kernel
theorem dX11_chern_41 : decode cX11_chern 41 = .ok (.aload_n 0, 1) := by decide +kernel
theorem dX11_chern_42 : decode cX11_chern 42 = .ok (.getfield 12, 3) := by decide +kernel
theorem dX11_chern_45 : decode cX11_chern 45 = .ok (.getfield 74, 3) := by decide +kernel
theorem dX11_chern_48 : decode cX11_chern 48 = .ok (.invokevirtual 255, 3) := by decide +kernel
theorem dX11_chern_51 : decode cX11_chern 51 = .ok (.aload_n 0, 1) := by decide +kernel
theorem dX11_chern_52 : decode cX11_chern 52 = .ok (.getfield 28, 3) := by decide +kernel
theorem dX11_chern_55 : decode cX11_chern 55 = .ok (.getfield 258, 3) := by decide +kernel
theorem dX11_chern_58 : decode cX11_chern 58 = .ok (.iload_n 2, 1) := by decide +kernel
theorem dX11_chern_59 : decode cX11_chern 59 = .ok (.laload, 1) := by decide +kernel
theorem dX11_chern_60 : decode cX11_chern 60 = .ok (.lreturn, 1) := by decide +kernel
set_option maxHeartbeats 4000000 in
set_option maxRecDepth 100000 in
theorem cn_X11_chern {l : Launch} {cA : Nat → ClassId} {ad : Nat → Nat} {D : va_G} {E : Nat → Nat} {A : Nat → Prop} {x1 : Int32} {s0 sr : SS} {rr : Int64} (hf : f_X11_chern x1 s0 = some (rr, sr)) : zCon Ox Nx cA ad D E l yX11_chern cX11_chern 3 (some .long) 4 A [.ref (ad 0), .int x1] s0 (some (.long rr)) sr := by
  refine zstart (own := RX11) hOx (by decide) rfl (Nat.le_of_ble_eq_true rfl) ?_
  intro p e s m args below meth c X hP ls hl
  have hx := X.1
  have hb := X.2.1
  have hl : lv_has ls 3 [(0, .ref (ad 0)), (1, .int x1)] := hl
  have hS : va_S A s.heap s.heap [] := va_S.rf
  rw [f_X11_chern] at hf
  refine lv_aload_n hx hb dX11_chern_0 rfl (lv_at hl 0 rfl) ?_
  refine gf_X11_28 X hP (k := 0) (q := 5) rfl dX11_chern_1 rfl ?_
  refine gf_X11_84 X hP (k := 5) (q := 6) rfl dX11_chern_4 rfl ?_
  refine lv_iload_n hx hb dX11_chern_7 rfl (lv_at hl 1 rfl) ?_
  obtain ⟨r1, s2, h3, hf⟩ := zbd_some hf
  refine zcallV X hP hS hl.1 (k := 6) (As := [.int x1]) (rest := []) (cn_X10_find h3) cw_X10_find zp_10 rfl (by decide) rfl ml_X11_128 (by decide) rfl rfl (Nat.le_of_ble_eq_true rfl) dX11_chern_8 (fun H locs hP hS => ?_)
  refine lv_istore_n (lv' := [(2, .int r1), (0, .ref (ad 0)), (1, .int x1)]) hx hb dX11_chern_11 rfl hl (by decide) rfl (fun ls hl => ?_)
  refine lv_iload_n hx hb dX11_chern_12 rfl (lv_at hl 0 rfl) ?_
  refine zif_ge (tgt := 20) hx hb dX11_chern_13 (by decide) hf (fun hf => ?_) (fun hf => ?_)
  · refine lv_aload_n hx hb dX11_chern_20 rfl (lv_at hl 1 rfl) ?_
    refine gf_X11_12 X hP (k := 0) (q := 1) rfl dX11_chern_21 rfl ?_
    refine gf_X11_74 X hP (k := 1) (q := 3) rfl dX11_chern_24 rfl ?_
    obtain ⟨r4, s5, h6, hf⟩ := zbd_some hf
    refine zcallV X hP hS hl.1 (k := 3) (As := []) (rest := []) (cn_X7_isBareProduct h6) cw_X7_isBareProduct zp_7 rfl (by decide) rfl ml_X11_251 (by decide) rfl rfl (Nat.le_of_ble_eq_true rfl) dX11_chern_27 (fun H locs hP hS => ?_)
    refine zif_ne (tgt := 37) hx hb dX11_chern_30 (by decide) hf (fun hf => ?_) (fun hf => ?_)
    · refine lv_aload_n hx hb dX11_chern_37 rfl (lv_at hl 1 rfl) ?_
      refine gf_X11_28 X hP (k := 0) (q := 5) rfl dX11_chern_38 rfl ?_
      refine lv_aload_n hx hb dX11_chern_41 rfl (lv_at hl 1 rfl) ?_
      refine gf_X11_12 X hP (k := 0) (q := 1) rfl dX11_chern_42 rfl ?_
      refine gf_X11_74 X hP (k := 1) (q := 3) rfl dX11_chern_45 rfl ?_
      obtain ⟨r7, s8, h9, hf⟩ := zbd_some hf
      refine zcallV X hP hS hl.1 (k := 5) (As := [.ref (ad 3)]) (rest := []) (cn_X8_makeChern h9) cw_X8_makeChern zp_8 rfl (by decide) rfl ml_X11_255 (by decide) rfl rfl (Nat.le_of_ble_eq_true rfl) dX11_chern_48 (fun H locs hP hS => ?_)
      refine lv_aload_n hx hb dX11_chern_51 rfl (lv_at hl 1 rfl) ?_
      refine gf_X11_28 X hP (k := 0) (q := 5) rfl dX11_chern_52 rfl ?_
      refine gf_X11_258 X hP (k := 5) (q := 23) rfl dX11_chern_55 rfl ?_
      refine lv_iload_n hx hb dX11_chern_58 rfl (lv_at hl 0 rfl) ?_
      obtain ⟨g10, hf⟩ := zgd hf
      refine zald_l X hP (k := 23) (n := 462) (rs := []) rfl g10 dX11_chern_59 ?_
      exact zret_l X hP hS hf dX11_chern_60
    · refine zldc2 X co_X11_227 dX11_chern_33 ?_
      exact zret_l X hP hS hf dX11_chern_36
  · refine zldc2 X co_X11_132 dX11_chern_16 ?_
    exact zret_l X hP hS hf dX11_chern_19
theorem dX11_canCutOut_0 : decode cX11_canCutOut 0 = .ok (.aload_n 0, 1) := by decide +kernel
theorem dX11_canCutOut_1 : decode cX11_canCutOut 1 = .ok (.getfield 63, 3) := by decide +kernel
theorem dX11_canCutOut_4 : decode cX11_canCutOut 4 = .ok (.iload_n 1, 1) := by decide +kernel
theorem dX11_canCutOut_5 : decode cX11_canCutOut 5 = .ok (.invokevirtual 244, 3) := by decide +kernel
theorem dX11_canCutOut_8 : decode cX11_canCutOut 8 = .ok (.aload_n 0, 1) := by decide +kernel
theorem dX11_canCutOut_9 : decode cX11_canCutOut 9 = .ok (.getfield 12, 3) := by decide +kernel
theorem dX11_canCutOut_12 : decode cX11_canCutOut 12 = .ok (.getfield 74, 3) := by decide +kernel
theorem dX11_canCutOut_15 : decode cX11_canCutOut 15 = .ok (.invokevirtual 115, 3) := by decide +kernel
theorem dX11_canCutOut_18 : decode cX11_canCutOut 18 = .ok (.if_icmp .le 5, 3) := by decide +kernel
theorem dX11_canCutOut_21 : decode cX11_canCutOut 21 = .ok (.iconst 0, 1) := by decide +kernel
theorem dX11_canCutOut_22 : decode cX11_canCutOut 22 = .ok (.ireturn, 1) := by decide +kernel
theorem dX11_canCutOut_23 : decode cX11_canCutOut 23 = .ok (.iconst 0, 1) := by decide +kernel
theorem dX11_canCutOut_24 : decode cX11_canCutOut 24 = .ok (.istore_n 2, 1) := by decide +kernel
theorem dX11_canCutOut_25 : decode cX11_canCutOut 25 = .ok (.iload_n 2, 1) := by decide +kernel
theorem dX11_canCutOut_26 : decode cX11_canCutOut 26 = .ok (.aload_n 0, 1) := by decide +kernel
theorem dX11_canCutOut_27 : decode cX11_canCutOut 27 = .ok (.getfield 63, 3) := by decide +kernel
theorem dX11_canCutOut_30 : decode cX11_canCutOut 30 = .ok (.iload_n 1, 1) := by decide +kernel
theorem dX11_canCutOut_31 : decode cX11_canCutOut 31 = .ok (.invokevirtual 244, 3) := by decide +kernel
theorem dX11_canCutOut_34 : decode cX11_canCutOut 34 = .ok (.if_icmp .ge 46, 3) := by decide +kernel
theorem dX11_canCutOut_37 : decode cX11_canCutOut 37 = .ok (.aload_n 0, 1) := by decide +kernel
theorem dX11_canCutOut_38 : decode cX11_canCutOut 38 = .ok (.getfield 12, 3) := by decide +kernel
theorem dX11_canCutOut_41 : decode cX11_canCutOut 41 = .ok (.aload_n 0, 1) := by decide +kernel
theorem dX11_canCutOut_42 : decode cX11_canCutOut 42 = .ok (.getfield 63, 3) := by decide +kernel
theorem dX11_canCutOut_45 : decode cX11_canCutOut 45 = .ok (.iload_n 1, 1) := by decide +kernel
theorem dX11_canCutOut_46 : decode cX11_canCutOut 46 = .ok (.iload_n 2, 1) := by decide +kernel
theorem dX11_canCutOut_47 : decode cX11_canCutOut 47 = .ok (.invokevirtual 247, 3) := by decide +kernel
theorem dX11_canCutOut_50 : decode cX11_canCutOut 50 = .ok (.invokevirtual 155, 3) := by decide +kernel
theorem dX11_canCutOut_53 : decode cX11_canCutOut 53 = .ok (.astore_n 3, 1) := by decide +kernel
theorem dX11_canCutOut_54 : decode cX11_canCutOut 54 = .ok (.aload_n 3, 1) := by decide +kernel
theorem dX11_canCutOut_55 : decode cX11_canCutOut 55 = .ok (.ifnull 17, 3) := by decide +kernel
theorem dX11_canCutOut_58 : decode cX11_canCutOut 58 = .ok (.aload_n 3, 1) := by decide +kernel
theorem dX11_canCutOut_59 : decode cX11_canCutOut 59 = .ok (.aload_n 0, 1) := by decide +kernel
theorem dX11_canCutOut_60 : decode cX11_canCutOut 60 = .ok (.getfield 28, 3) := by decide +kernel
theorem dX11_canCutOut_63 : decode cX11_canCutOut 63 = .ok (.getfield 84, 3) := by decide +kernel
theorem dX11_canCutOut_66 : decode cX11_canCutOut 66 = .ok (.invokevirtual 272, 3) := by decide +kernel
theorem dX11_canCutOut_69 : decode cX11_canCutOut 69 = .ok (.ifCond .ne 5, 3) := by decide +kernel
theorem dX11_canCutOut_72 : decode cX11_canCutOut 72 = .ok (.iconst 0, 1) := by decide +kernel
theorem dX11_canCutOut_73 : decode cX11_canCutOut 73 = .ok (.ireturn, 1) := by decide +kernel
theorem dX11_canCutOut_74 : decode cX11_canCutOut 74 = .ok (.iinc 2 1, 3) := by decide +kernel
theorem dX11_canCutOut_77 : decode cX11_canCutOut 77 = .ok (.goto (-52), 3) := by decide +kernel
theorem dX11_canCutOut_80 : decode cX11_canCutOut 80 = .ok (.iconst 1, 1) := by decide +kernel
theorem dX11_canCutOut_81 : decode cX11_canCutOut 81 = .ok (.ireturn, 1) := by decide +kernel
set_option maxHeartbeats 4000000 in
set_option maxRecDepth 100000 in
theorem cn_X11_canCutOut {l : Launch} {cA : Nat → ClassId} {ad : Nat → Nat} {D : va_G} {E : Nat → Nat} {A : Nat → Prop} {x1 : Int32} {s0 sr : SS} {rr : Int32} (hf : f_X11_canCutOut x1 s0 = some (rr, sr)) : zCon Ox Nx cA ad D E l yX11_canCutOut cX11_canCutOut 4 (some .boolean) 4 A [.ref (ad 0), .int x1] s0 (some (.int rr)) sr := by
  refine zstart (own := RX11) hOx (by decide) rfl (Nat.le_of_ble_eq_true rfl) ?_
  intro p e s m args below meth c X hP ls hl
  have hx := X.1
  have hb := X.2.1
  have hl : lv_has ls 4 [(0, .ref (ad 0)), (1, .int x1)] := hl
  have hS : va_S A s.heap s.heap [] := va_S.rf
  have hc_25 : ∀ (n25 : Nat) (x1 : Int32) (x2 : Int32) (s1 : SS) (H : Heap) (locs : List Loc) (ls : Array Slot), lv_has ls 4 [(0, .ref (ad 0)), (1, .int x1), (2, .int x2)] → va_P D ZCL (zw Ox Nx cA ad s1) H → va_S A s.heap H locs → f_X11_canCutOut_c25 n25 x1 x2 s1 = some (rr, sr) → W p l e (zrm 4) s m args below meth c H locs 0 0 (MQ below (zQc Ox Nx cA ad D A (some (.int rr)) sr) args s 0 0 A) (F0 m 25 ls []) := by
    intro n25
    induction n25 with
    | zero =>
      intro x1 x2 s1 H locs ls hl hP hS hf
      rw [f_X11_canCutOut_c25] at hf
      cases hf
    | succ n25 ih25 =>
      intro x1 x2 s1 H locs ls hl hP hS hf
      rw [f_X11_canCutOut_c25] at hf
      refine lv_iload_n hx hb dX11_canCutOut_25 rfl (lv_at hl 2 rfl) ?_
      refine lv_aload_n hx hb dX11_canCutOut_26 rfl (lv_at hl 0 rfl) ?_
      refine gf_X11_63 X hP (k := 0) (q := 11) rfl dX11_canCutOut_27 rfl ?_
      refine lv_iload_n hx hb dX11_canCutOut_30 rfl (lv_at hl 1 rfl) ?_
      obtain ⟨r7, s8, h9, hf⟩ := zbd_some hf
      refine zcallV X hP hS hl.1 (k := 11) (As := [.int x1]) (rest := [.int x2]) (cn_X5_sizeOf h9) cw_X5_sizeOf zp_5 rfl (by decide) rfl ml_X11_244 (by decide) rfl rfl (Nat.le_of_ble_eq_true rfl) dX11_canCutOut_31 (fun H locs hP hS => ?_)
      refine zicmp_ge (tgt := 80) hx hb dX11_canCutOut_34 (by decide) hf (fun hf => ?_) (fun hf => ?_)
      · refine lv_iconst (v := 1) hx hb dX11_canCutOut_80 (by decide) ?_
        exact zret_i X hP hS hf rfl dX11_canCutOut_81
      · refine lv_aload_n hx hb dX11_canCutOut_37 rfl (lv_at hl 0 rfl) ?_
        refine gf_X11_12 X hP (k := 0) (q := 1) rfl dX11_canCutOut_38 rfl ?_
        refine lv_aload_n hx hb dX11_canCutOut_41 rfl (lv_at hl 0 rfl) ?_
        refine gf_X11_63 X hP (k := 0) (q := 11) rfl dX11_canCutOut_42 rfl ?_
        refine lv_iload_n hx hb dX11_canCutOut_45 rfl (lv_at hl 1 rfl) ?_
        refine lv_iload_n hx hb dX11_canCutOut_46 rfl (lv_at hl 2 rfl) ?_
        obtain ⟨r10, s11, h12, hf⟩ := zbd_some hf
        refine zcallV X hP hS hl.1 (k := 11) (As := [.int x1, .int x2]) (rest := [.ref (ad 1)]) (cn_X5_valueAt h12) cw_X5_valueAt zp_5 rfl (by decide) rfl ml_X11_247 (by decide) rfl rfl (Nat.le_of_ble_eq_true rfl) dX11_canCutOut_47 (fun H locs hP hS => ?_)
        obtain ⟨r13, s14, h15, hf⟩ := zbd_some hf
        refine zcallV X hP hS hl.1 (k := 1) (As := [.long r10]) (rest := []) (cn_X3_classAt h15) cw_X3_classAt zp_3 rfl (by decide) rfl ml_X11_155 (by decide) rfl rfl (Nat.le_of_ble_eq_true rfl) dX11_canCutOut_50 (fun H locs hP hS => ?_)
        rcases r13 with _ | k16
        · have hf := zbn_none hf
          refine lv_astore_nN (lv' := [(3, .null), (0, .ref (ad 0)), (1, .int x1), (2, .int x2)]) hx hb dX11_canCutOut_53 rfl hl (by decide) rfl (fun ls hl => ?_)
          refine lv_aload_nN hx hb dX11_canCutOut_54 rfl (lv_at hl 0 rfl) ?_
          refine lv_ifnullN (tgt := 72) hx hb dX11_canCutOut_55 (by decide) ?_
          refine lv_iconst (v := 0) hx hb dX11_canCutOut_72 (by decide) ?_
          exact zret_i X hP hS hf rfl dX11_canCutOut_73
        · have hf := zbn_some hf
          obtain ⟨g17, hf⟩ := zgd hf
          refine lv_astore_n (lv' := [(3, .ref (ad k16)), (0, .ref (ad 0)), (1, .int x1), (2, .int x2)]) hx hb dX11_canCutOut_53 rfl hl (by decide) rfl (fun ls hl => ?_)
          refine lv_aload_n hx hb dX11_canCutOut_54 rfl (lv_at hl 0 rfl) ?_
          refine lv_ifnull hx hb dX11_canCutOut_55 ?_
          refine lv_aload_n hx hb dX11_canCutOut_58 rfl (lv_at hl 0 rfl) ?_
          refine lv_aload_n hx hb dX11_canCutOut_59 rfl (lv_at hl 1 rfl) ?_
          refine gf_X11_28 X hP (k := 0) (q := 5) rfl dX11_canCutOut_60 rfl ?_
          refine gf_X11_84 X hP (k := 5) (q := 6) rfl dX11_canCutOut_63 rfl ?_
          obtain ⟨r18, s19, h20, hf⟩ := zbd_some hf
          refine zcallV X hP hS hl.1 (k := k16) (As := [.ref (ad 6)]) (rest := []) (cn_X4_isOfSizeOne h20) cw_X4_isOfSizeOne zp_4 g17 (by decide) rfl ml_X11_272 (by decide) rfl rfl (Nat.le_of_ble_eq_true rfl) dX11_canCutOut_66 (fun H locs hP hS => ?_)
          refine zif_ne (tgt := 74) hx hb dX11_canCutOut_69 (by decide) hf (fun hf => ?_) (fun hf => ?_)
          · refine lv_iinc (v := (x2 + 1)) (lv' := [(2, .int (x2 + 1)), (3, .ref (ad k16)), (0, .ref (ad 0)), (1, .int x1)]) hx hb dX11_canCutOut_74 hl (k := 3) rfl rfl (by decide) rfl (fun ls hl => ?_)
            refine lv_goto (tgt := 25) hx hb dX11_canCutOut_77 (by decide) ?_
            exact ih25 x1 (x2 + 1) s19 _ _ _ (lv_sub hl [2, 3, 0] rfl) hP hS hf
          · refine lv_iconst (v := 0) hx hb dX11_canCutOut_72 (by decide) ?_
            exact zret_i X hP hS hf rfl dX11_canCutOut_73
  rw [f_X11_canCutOut] at hf
  refine lv_aload_n hx hb dX11_canCutOut_0 rfl (lv_at hl 0 rfl) ?_
  refine gf_X11_63 X hP (k := 0) (q := 11) rfl dX11_canCutOut_1 rfl ?_
  refine lv_iload_n hx hb dX11_canCutOut_4 rfl (lv_at hl 1 rfl) ?_
  obtain ⟨r1, s2, h3, hf⟩ := zbd_some hf
  refine zcallV X hP hS hl.1 (k := 11) (As := [.int x1]) (rest := []) (cn_X5_sizeOf h3) cw_X5_sizeOf zp_5 rfl (by decide) rfl ml_X11_244 (by decide) rfl rfl (Nat.le_of_ble_eq_true rfl) dX11_canCutOut_5 (fun H locs hP hS => ?_)
  refine lv_aload_n hx hb dX11_canCutOut_8 rfl (lv_at hl 0 rfl) ?_
  refine gf_X11_12 X hP (k := 0) (q := 1) rfl dX11_canCutOut_9 rfl ?_
  refine gf_X11_74 X hP (k := 1) (q := 3) rfl dX11_canCutOut_12 rfl ?_
  obtain ⟨r4, s5, h6, hf⟩ := zbd_some hf
  refine zcallV X hP hS hl.1 (k := 3) (As := []) (rest := [.int r1]) (cn_X7_dimension h6) cw_X7_dimension zp_7 rfl (by decide) rfl ml_X11_115 (by decide) rfl rfl (Nat.le_of_ble_eq_true rfl) dX11_canCutOut_15 (fun H locs hP hS => ?_)
  refine zicmp_le (tgt := 23) hx hb dX11_canCutOut_18 (by decide) hf (fun hf => ?_) (fun hf => ?_)
  · refine lv_iconst (v := 0) hx hb dX11_canCutOut_23 (by decide) ?_
    refine lv_istore_n (lv' := [(2, .int 0), (0, .ref (ad 0)), (1, .int x1)]) hx hb dX11_canCutOut_24 rfl hl (by decide) rfl (fun ls hl => ?_)
    exact hc_25 ZF x1 0 s5 _ _ _ (lv_sub hl [1, 2, 0] rfl) hP hS hf
  · refine lv_iconst (v := 0) hx hb dX11_canCutOut_21 (by decide) ?_
    exact zret_i X hP hS hf rfl dX11_canCutOut_22
theorem dX11_canonicalOfCut_0 : decode cX11_canonicalOfCut 0 = .ok (.aload_n 0, 1) := by decide +kernel
theorem dX11_canonicalOfCut_1 : decode cX11_canonicalOfCut 1 = .ok (.iload_n 1, 1) := by decide +kernel
theorem dX11_canonicalOfCut_2 : decode cX11_canonicalOfCut 2 = .ok (.invokevirtual 224, 3) := by decide +kernel
theorem dX11_canonicalOfCut_5 : decode cX11_canonicalOfCut 5 = .ok (.ifCond .ne 7, 3) := by decide +kernel
theorem dX11_canonicalOfCut_8 : decode cX11_canonicalOfCut 8 = .ok (.ldc2_w 227, 3) := by decide +kernel
theorem dX11_canonicalOfCut_11 : decode cX11_canonicalOfCut 11 = .ok (.lreturn, 1) := by decide +kernel
theorem dX11_canonicalOfCut_12 : decode cX11_canonicalOfCut 12 = .ok (.aload_n 0, 1) := by decide +kernel
theorem dX11_canonicalOfCut_13 : decode cX11_canonicalOfCut 13 = .ok (.getfield 28, 3) := by decide +kernel
theorem dX11_canonicalOfCut_16 : decode cX11_canonicalOfCut 16 = .ok (.aload_n 0, 1) := by decide +kernel
theorem dX11_canonicalOfCut_17 : decode cX11_canonicalOfCut 17 = .ok (.getfield 12, 3) := by decide +kernel
theorem dX11_canonicalOfCut_20 : decode cX11_canonicalOfCut 20 = .ok (.getfield 74, 3) := by decide +kernel
theorem dX11_canonicalOfCut_23 : decode cX11_canonicalOfCut 23 = .ok (.aload_n 0, 1) := by decide +kernel
theorem dX11_canonicalOfCut_24 : decode cX11_canonicalOfCut 24 = .ok (.getfield 28, 3) := by decide +kernel
theorem dX11_canonicalOfCut_27 : decode cX11_canonicalOfCut 27 = .ok (.getfield 233, 3) := by decide +kernel
theorem dX11_canonicalOfCut_30 : decode cX11_canonicalOfCut 30 = .ok (.invokevirtual 191, 3) := by decide +kernel
theorem dX11_canonicalOfCut_33 : decode cX11_canonicalOfCut 33 = .ok (.iconst 0, 1) := by decide +kernel
theorem dX11_canonicalOfCut_34 : decode cX11_canonicalOfCut 34 = .ok (.istore_n 3, 1) := by decide +kernel
theorem dX11_canonicalOfCut_35 : decode cX11_canonicalOfCut 35 = .ok (.iload_n 3, 1) := by decide +kernel
theorem dX11_canonicalOfCut_36 : decode cX11_canonicalOfCut 36 = .ok (.iload_n 2, 1) := by decide +kernel
theorem dX11_canonicalOfCut_37 : decode cX11_canonicalOfCut 37 = .ok (.if_icmp .ge 30, 3) := by decide +kernel
theorem dX11_canonicalOfCut_40 : decode cX11_canonicalOfCut 40 = .ok (.aload_n 0, 1) := by decide +kernel
theorem dX11_canonicalOfCut_41 : decode cX11_canonicalOfCut 41 = .ok (.getfield 28, 3) := by decide +kernel
theorem dX11_canonicalOfCut_44 : decode cX11_canonicalOfCut 44 = .ok (.aload_n 0, 1) := by decide +kernel
theorem dX11_canonicalOfCut_45 : decode cX11_canonicalOfCut 45 = .ok (.getfield 28, 3) := by decide +kernel
theorem dX11_canonicalOfCut_48 : decode cX11_canonicalOfCut 48 = .ok (.getfield 188, 3) := by decide +kernel
theorem dX11_canonicalOfCut_51 : decode cX11_canonicalOfCut 51 = .ok (.aload_n 0, 1) := by decide +kernel
theorem dX11_canonicalOfCut_52 : decode cX11_canonicalOfCut 52 = .ok (.getfield 28, 3) := by decide +kernel
theorem dX11_canonicalOfCut_55 : decode cX11_canonicalOfCut 55 = .ok (.getfield 233, 3) := by decide +kernel
theorem dX11_canonicalOfCut_58 : decode cX11_canonicalOfCut 58 = .ok (.invokevirtual 276, 3) := by decide +kernel
theorem dX11_canonicalOfCut_61 : decode cX11_canonicalOfCut 61 = .ok (.iinc 3 1, 3) := by decide +kernel
theorem dX11_canonicalOfCut_64 : decode cX11_canonicalOfCut 64 = .ok (.goto (-29), 3) := by decide +kernel
theorem dX11_canonicalOfCut_67 : decode cX11_canonicalOfCut 67 = .ok (.aload_n 0, 1) := by decide +kernel
theorem dX11_canonicalOfCut_68 : decode cX11_canonicalOfCut 68 = .ok (.getfield 28, 3) := by decide +kernel
theorem dX11_canonicalOfCut_71 : decode cX11_canonicalOfCut 71 = .ok (.aload_n 0, 1) := by decide +kernel
theorem dX11_canonicalOfCut_72 : decode cX11_canonicalOfCut 72 = .ok (.getfield 28, 3) := by decide +kernel
theorem dX11_canonicalOfCut_75 : decode cX11_canonicalOfCut 75 = .ok (.getfield 188, 3) := by decide +kernel
theorem dX11_canonicalOfCut_78 : decode cX11_canonicalOfCut 78 = .ok (.invokevirtual 212, 3) := by decide +kernel
theorem dX11_canonicalOfCut_81 : decode cX11_canonicalOfCut 81 = .ok (.lreturn, 1) := by decide +kernel
set_option maxHeartbeats 4000000 in
set_option maxRecDepth 100000 in
theorem cn_X11_canonicalOfCut {l : Launch} {cA : Nat → ClassId} {ad : Nat → Nat} {D : va_G} {E : Nat → Nat} {A : Nat → Prop} {x1 : Int32} {x2 : Int32} {s0 sr : SS} {rr : Int64} (hf : f_X11_canonicalOfCut x1 x2 s0 = some (rr, sr)) : zCon Ox Nx cA ad D E l yX11_canonicalOfCut cX11_canonicalOfCut 4 (some .long) 5 A [.ref (ad 0), .int x1, .int x2] s0 (some (.long rr)) sr := by
  refine zstart (own := RX11) hOx (by decide) rfl (Nat.le_of_ble_eq_true rfl) ?_
  intro p e s m args below meth c X hP ls hl
  have hx := X.1
  have hb := X.2.1
  have hl : lv_has ls 4 [(0, .ref (ad 0)), (1, .int x1), (2, .int x2)] := hl
  have hS : va_S A s.heap s.heap [] := va_S.rf
  have hc_35 : ∀ (n35 : Nat) (x2 : Int32) (x3 : Int32) (s1 : SS) (H : Heap) (locs : List Loc) (ls : Array Slot), lv_has ls 4 [(0, .ref (ad 0)), (2, .int x2), (3, .int x3)] → va_P D ZCL (zw Ox Nx cA ad s1) H → va_S A s.heap H locs → f_X11_canonicalOfCut_c35 n35 x2 x3 s1 = some (rr, sr) → W p l e (zrm 5) s m args below meth c H locs 0 0 (MQ below (zQc Ox Nx cA ad D A (some (.long rr)) sr) args s 0 0 A) (F0 m 35 ls []) := by
    intro n35
    induction n35 with
    | zero =>
      intro x2 x3 s1 H locs ls hl hP hS hf
      rw [f_X11_canonicalOfCut_c35] at hf
      cases hf
    | succ n35 ih35 =>
      intro x2 x3 s1 H locs ls hl hP hS hf
      rw [f_X11_canonicalOfCut_c35] at hf
      refine lv_iload_n hx hb dX11_canonicalOfCut_35 rfl (lv_at hl 2 rfl) ?_
      refine lv_iload_n hx hb dX11_canonicalOfCut_36 rfl (lv_at hl 1 rfl) ?_
      refine zicmp_ge (tgt := 67) hx hb dX11_canonicalOfCut_37 (by decide) hf (fun hf => ?_) (fun hf => ?_)
      · refine lv_aload_n hx hb dX11_canonicalOfCut_67 rfl (lv_at hl 0 rfl) ?_
        refine gf_X11_28 X hP (k := 0) (q := 5) rfl dX11_canonicalOfCut_68 rfl ?_
        refine lv_aload_n hx hb dX11_canonicalOfCut_71 rfl (lv_at hl 0 rfl) ?_
        refine gf_X11_28 X hP (k := 0) (q := 5) rfl dX11_canonicalOfCut_72 rfl ?_
        refine gf_X11_188 X hP (k := 5) (q := 21) rfl dX11_canonicalOfCut_75 rfl ?_
        obtain ⟨r7, s8, h9, hf⟩ := zbd_some hf
        refine zcallV X hP hS hl.1 (k := 5) (As := [.ref (ad 21)]) (rest := []) (cn_X8_metOf h9) cw_X8_metOf zp_8 rfl (by decide) rfl ml_X11_212 (by decide) rfl rfl (Nat.le_of_ble_eq_true rfl) dX11_canonicalOfCut_78 (fun H locs hP hS => ?_)
        exact zret_l X hP hS hf dX11_canonicalOfCut_81
      · refine lv_aload_n hx hb dX11_canonicalOfCut_40 rfl (lv_at hl 0 rfl) ?_
        refine gf_X11_28 X hP (k := 0) (q := 5) rfl dX11_canonicalOfCut_41 rfl ?_
        refine lv_aload_n hx hb dX11_canonicalOfCut_44 rfl (lv_at hl 0 rfl) ?_
        refine gf_X11_28 X hP (k := 0) (q := 5) rfl dX11_canonicalOfCut_45 rfl ?_
        refine gf_X11_188 X hP (k := 5) (q := 21) rfl dX11_canonicalOfCut_48 rfl ?_
        refine lv_aload_n hx hb dX11_canonicalOfCut_51 rfl (lv_at hl 0 rfl) ?_
        refine gf_X11_28 X hP (k := 0) (q := 5) rfl dX11_canonicalOfCut_52 rfl ?_
        refine gf_X11_233 X hP (k := 5) (q := 22) rfl dX11_canonicalOfCut_55 rfl ?_
        obtain ⟨r10, s11, h12, hf⟩ := zbd_some hf
        refine zcallV X hP hS hl.1 (k := 5) (As := [.ref (ad 21), .ref (ad 22)]) (rest := []) (cn_X8_multiply h12) cw_X8_multiply zp_8 rfl (by decide) rfl ml_X11_276 (by decide) rfl rfl (Nat.le_of_ble_eq_true rfl) dX11_canonicalOfCut_58 (fun H locs hP hS => ?_)
        refine lv_iinc (v := (x3 + 1)) (lv' := [(3, .int (x3 + 1)), (0, .ref (ad 0)), (2, .int x2)]) hx hb dX11_canonicalOfCut_61 hl (k := 2) rfl rfl (by decide) rfl (fun ls hl => ?_)
        refine lv_goto (tgt := 35) hx hb dX11_canonicalOfCut_64 (by decide) ?_
        exact ih35 x2 (x3 + 1) s11 _ _ _ (lv_sub hl [1, 2, 0] rfl) hP hS hf
  rw [f_X11_canonicalOfCut] at hf
  refine lv_aload_n hx hb dX11_canonicalOfCut_0 rfl (lv_at hl 0 rfl) ?_
  refine lv_iload_n hx hb dX11_canonicalOfCut_1 rfl (lv_at hl 1 rfl) ?_
  obtain ⟨r1, s2, h3, hf⟩ := zbd_some hf
  refine zcallV X hP hS hl.1 (k := 0) (As := [.int x1]) (rest := []) (cn_X11_multiplyListed h3) cw_X11_multiplyListed zp_11 rfl (by decide) rfl ml_X11_224 (by decide) rfl rfl (Nat.le_of_ble_eq_true rfl) dX11_canonicalOfCut_2 (fun H locs hP hS => ?_)
  refine zif_ne (tgt := 12) hx hb dX11_canonicalOfCut_5 (by decide) hf (fun hf => ?_) (fun hf => ?_)
  · refine lv_aload_n hx hb dX11_canonicalOfCut_12 rfl (lv_at hl 0 rfl) ?_
    refine gf_X11_28 X hP (k := 0) (q := 5) rfl dX11_canonicalOfCut_13 rfl ?_
    refine lv_aload_n hx hb dX11_canonicalOfCut_16 rfl (lv_at hl 0 rfl) ?_
    refine gf_X11_12 X hP (k := 0) (q := 1) rfl dX11_canonicalOfCut_17 rfl ?_
    refine gf_X11_74 X hP (k := 1) (q := 3) rfl dX11_canonicalOfCut_20 rfl ?_
    refine lv_aload_n hx hb dX11_canonicalOfCut_23 rfl (lv_at hl 0 rfl) ?_
    refine gf_X11_28 X hP (k := 0) (q := 5) rfl dX11_canonicalOfCut_24 rfl ?_
    refine gf_X11_233 X hP (k := 5) (q := 22) rfl dX11_canonicalOfCut_27 rfl ?_
    obtain ⟨r4, s5, h6, hf⟩ := zbd_some hf
    refine zcallV X hP hS hl.1 (k := 5) (As := [.ref (ad 3), .ref (ad 22)]) (rest := []) (cn_X8_makeCanonical h6) cw_X8_makeCanonical zp_8 rfl (by decide) rfl ml_X11_191 (by decide) rfl rfl (Nat.le_of_ble_eq_true rfl) dX11_canonicalOfCut_30 (fun H locs hP hS => ?_)
    refine lv_iconst (v := 0) hx hb dX11_canonicalOfCut_33 (by decide) ?_
    refine lv_istore_n (lv' := [(3, .int 0), (0, .ref (ad 0)), (1, .int x1), (2, .int x2)]) hx hb dX11_canonicalOfCut_34 rfl hl (by decide) rfl (fun ls hl => ?_)
    exact hc_35 ZF x2 0 s5 _ _ _ (lv_sub hl [1, 3, 0] rfl) hP hS hf
  · refine zldc2 X co_X11_227 dX11_canonicalOfCut_8 ?_
    exact zret_l X hP hS hf dX11_canonicalOfCut_11
theorem dX11_eulerOfCut_0 : decode cX11_eulerOfCut 0 = .ok (.aload_n 0, 1) := by decide +kernel
theorem dX11_eulerOfCut_1 : decode cX11_eulerOfCut 1 = .ok (.iload_n 1, 1) := by decide +kernel
theorem dX11_eulerOfCut_2 : decode cX11_eulerOfCut 2 = .ok (.invokevirtual 224, 3) := by decide +kernel
theorem dX11_eulerOfCut_5 : decode cX11_eulerOfCut 5 = .ok (.ifCond .ne 7, 3) := by decide +kernel
theorem dX11_eulerOfCut_8 : decode cX11_eulerOfCut 8 = .ok (.ldc2_w 227, 3) := by decide +kernel
theorem dX11_eulerOfCut_11 : decode cX11_eulerOfCut 11 = .ok (.lreturn, 1) := by decide +kernel
theorem dX11_eulerOfCut_12 : decode cX11_eulerOfCut 12 = .ok (.aload_n 0, 1) := by decide +kernel
theorem dX11_eulerOfCut_13 : decode cX11_eulerOfCut 13 = .ok (.getfield 28, 3) := by decide +kernel
theorem dX11_eulerOfCut_16 : decode cX11_eulerOfCut 16 = .ok (.aload_n 0, 1) := by decide +kernel
theorem dX11_eulerOfCut_17 : decode cX11_eulerOfCut 17 = .ok (.getfield 12, 3) := by decide +kernel
theorem dX11_eulerOfCut_20 : decode cX11_eulerOfCut 20 = .ok (.getfield 74, 3) := by decide +kernel
theorem dX11_eulerOfCut_23 : decode cX11_eulerOfCut 23 = .ok (.invokevirtual 255, 3) := by decide +kernel
theorem dX11_eulerOfCut_26 : decode cX11_eulerOfCut 26 = .ok (.iconst 0, 1) := by decide +kernel
theorem dX11_eulerOfCut_27 : decode cX11_eulerOfCut 27 = .ok (.istore_n 3, 1) := by decide +kernel
theorem dX11_eulerOfCut_28 : decode cX11_eulerOfCut 28 = .ok (.iload_n 3, 1) := by decide +kernel
theorem dX11_eulerOfCut_29 : decode cX11_eulerOfCut 29 = .ok (.aload_n 0, 1) := by decide +kernel
theorem dX11_eulerOfCut_30 : decode cX11_eulerOfCut 30 = .ok (.getfield 63, 3) := by decide +kernel
theorem dX11_eulerOfCut_33 : decode cX11_eulerOfCut 33 = .ok (.iload_n 1, 1) := by decide +kernel
theorem dX11_eulerOfCut_34 : decode cX11_eulerOfCut 34 = .ok (.invokevirtual 244, 3) := by decide +kernel
theorem dX11_eulerOfCut_37 : decode cX11_eulerOfCut 37 = .ok (.if_icmp .ge 62, 3) := by decide +kernel
theorem dX11_eulerOfCut_40 : decode cX11_eulerOfCut 40 = .ok (.aload_n 0, 1) := by decide +kernel
theorem dX11_eulerOfCut_41 : decode cX11_eulerOfCut 41 = .ok (.getfield 12, 3) := by decide +kernel
theorem dX11_eulerOfCut_44 : decode cX11_eulerOfCut 44 = .ok (.aload_n 0, 1) := by decide +kernel
theorem dX11_eulerOfCut_45 : decode cX11_eulerOfCut 45 = .ok (.getfield 63, 3) := by decide +kernel
theorem dX11_eulerOfCut_48 : decode cX11_eulerOfCut 48 = .ok (.iload_n 1, 1) := by decide +kernel
theorem dX11_eulerOfCut_49 : decode cX11_eulerOfCut 49 = .ok (.iload_n 3, 1) := by decide +kernel
theorem dX11_eulerOfCut_50 : decode cX11_eulerOfCut 50 = .ok (.invokevirtual 247, 3) := by decide +kernel
theorem dX11_eulerOfCut_53 : decode cX11_eulerOfCut 53 = .ok (.invokevirtual 155, 3) := by decide +kernel
theorem dX11_eulerOfCut_56 : decode cX11_eulerOfCut 56 = .ok (.astore 4, 2) := by decide +kernel
theorem dX11_eulerOfCut_58 : decode cX11_eulerOfCut 58 = .ok (.aload 4, 2) := by decide +kernel
theorem dX11_eulerOfCut_60 : decode cX11_eulerOfCut 60 = .ok (.ifnull 33, 3) := by decide +kernel
theorem dX11_eulerOfCut_63 : decode cX11_eulerOfCut 63 = .ok (.aload_n 0, 1) := by decide +kernel
theorem dX11_eulerOfCut_64 : decode cX11_eulerOfCut 64 = .ok (.getfield 28, 3) := by decide +kernel
theorem dX11_eulerOfCut_67 : decode cX11_eulerOfCut 67 = .ok (.aload 4, 2) := by decide +kernel
theorem dX11_eulerOfCut_69 : decode cX11_eulerOfCut 69 = .ok (.aload_n 0, 1) := by decide +kernel
theorem dX11_eulerOfCut_70 : decode cX11_eulerOfCut 70 = .ok (.getfield 28, 3) := by decide +kernel
theorem dX11_eulerOfCut_73 : decode cX11_eulerOfCut 73 = .ok (.getfield 233, 3) := by decide +kernel
theorem dX11_eulerOfCut_76 : decode cX11_eulerOfCut 76 = .ok (.invokevirtual 208, 3) := by decide +kernel
theorem dX11_eulerOfCut_79 : decode cX11_eulerOfCut 79 = .ok (.aload_n 0, 1) := by decide +kernel
theorem dX11_eulerOfCut_80 : decode cX11_eulerOfCut 80 = .ok (.getfield 28, 3) := by decide +kernel
theorem dX11_eulerOfCut_83 : decode cX11_eulerOfCut 83 = .ok (.aload_n 0, 1) := by decide +kernel
theorem dX11_eulerOfCut_84 : decode cX11_eulerOfCut 84 = .ok (.getfield 28, 3) := by decide +kernel
theorem dX11_eulerOfCut_87 : decode cX11_eulerOfCut 87 = .ok (.getfield 233, 3) := by decide +kernel
theorem dX11_eulerOfCut_90 : decode cX11_eulerOfCut 90 = .ok (.invokevirtual 280, 3) := by decide +kernel
theorem dX11_eulerOfCut_93 : decode cX11_eulerOfCut 93 = .ok (.iinc 3 1, 3) := by decide +kernel
theorem dX11_eulerOfCut_96 : decode cX11_eulerOfCut 96 = .ok (.goto (-68), 3) := by decide +kernel
theorem dX11_eulerOfCut_99 : decode cX11_eulerOfCut 99 = .ok (.aload_n 0, 1) := by decide +kernel
theorem dX11_eulerOfCut_100 : decode cX11_eulerOfCut 100 = .ok (.getfield 28, 3) := by decide +kernel
theorem dX11_eulerOfCut_103 : decode cX11_eulerOfCut 103 = .ok (.aload_n 0, 1) := by decide +kernel
theorem dX11_eulerOfCut_104 : decode cX11_eulerOfCut 104 = .ok (.getfield 28, 3) := by decide +kernel
theorem dX11_eulerOfCut_107 : decode cX11_eulerOfCut 107 = .ok (.getfield 258, 3) := by decide +kernel
theorem dX11_eulerOfCut_110 : decode cX11_eulerOfCut 110 = .ok (.iload_n 2, 1) := by decide +kernel
theorem dX11_eulerOfCut_111 : decode cX11_eulerOfCut 111 = .ok (.invokevirtual 283, 3) := by decide +kernel
theorem dX11_eulerOfCut_114 : decode cX11_eulerOfCut 114 = .ok (.aload_n 0, 1) := by decide +kernel
theorem dX11_eulerOfCut_115 : decode cX11_eulerOfCut 115 = .ok (.getfield 28, 3) := by decide +kernel
theorem dX11_eulerOfCut_118 : decode cX11_eulerOfCut 118 = .ok (.aload_n 0, 1) := by decide +kernel
theorem dX11_eulerOfCut_119 : decode cX11_eulerOfCut 119 = .ok (.getfield 28, 3) := by decide +kernel
theorem dX11_eulerOfCut_122 : decode cX11_eulerOfCut 122 = .ok (.getfield 188, 3) := by decide +kernel
theorem dX11_eulerOfCut_125 : decode cX11_eulerOfCut 125 = .ok (.aload_n 0, 1) := by decide +kernel
theorem dX11_eulerOfCut_126 : decode cX11_eulerOfCut 126 = .ok (.getfield 28, 3) := by decide +kernel
theorem dX11_eulerOfCut_129 : decode cX11_eulerOfCut 129 = .ok (.getfield 258, 3) := by decide +kernel
theorem dX11_eulerOfCut_132 : decode cX11_eulerOfCut 132 = .ok (.invokevirtual 276, 3) := by decide +kernel
theorem dX11_eulerOfCut_135 : decode cX11_eulerOfCut 135 = .ok (.aload_n 0, 1) := by decide +kernel
theorem dX11_eulerOfCut_136 : decode cX11_eulerOfCut 136 = .ok (.getfield 28, 3) := by decide +kernel
theorem dX11_eulerOfCut_139 : decode cX11_eulerOfCut 139 = .ok (.aload_n 0, 1) := by decide +kernel
theorem dX11_eulerOfCut_140 : decode cX11_eulerOfCut 140 = .ok (.getfield 28, 3) := by decide +kernel
theorem dX11_eulerOfCut_143 : decode cX11_eulerOfCut 143 = .ok (.getfield 188, 3) := by decide +kernel
theorem dX11_eulerOfCut_146 : decode cX11_eulerOfCut 146 = .ok (.invokevirtual 212, 3) := by decide +kernel
theorem dX11_eulerOfCut_149 : decode cX11_eulerOfCut 149 = .ok (.lreturn, 1) := by decide +kernel
set_option maxHeartbeats 4000000 in
set_option maxRecDepth 100000 in
theorem cn_X11_eulerOfCut {l : Launch} {cA : Nat → ClassId} {ad : Nat → Nat} {D : va_G} {E : Nat → Nat} {A : Nat → Prop} {x1 : Int32} {x2 : Int32} {s0 sr : SS} {rr : Int64} (hf : f_X11_eulerOfCut x1 x2 s0 = some (rr, sr)) : zCon Ox Nx cA ad D E l yX11_eulerOfCut cX11_eulerOfCut 5 (some .long) 5 A [.ref (ad 0), .int x1, .int x2] s0 (some (.long rr)) sr := by
  refine zstart (own := RX11) hOx (by decide) rfl (Nat.le_of_ble_eq_true rfl) ?_
  intro p e s m args below meth c X hP ls hl
  have hx := X.1
  have hb := X.2.1
  have hl : lv_has ls 5 [(0, .ref (ad 0)), (1, .int x1), (2, .int x2)] := hl
  have hS : va_S A s.heap s.heap [] := va_S.rf
  have hc_28 : ∀ (n28 : Nat) (x1 : Int32) (x2 : Int32) (x3 : Int32) (s1 : SS) (H : Heap) (locs : List Loc) (ls : Array Slot), lv_has ls 5 [(0, .ref (ad 0)), (1, .int x1), (2, .int x2), (3, .int x3)] → va_P D ZCL (zw Ox Nx cA ad s1) H → va_S A s.heap H locs → f_X11_eulerOfCut_c28 n28 x1 x2 x3 s1 = some (rr, sr) → W p l e (zrm 5) s m args below meth c H locs 0 0 (MQ below (zQc Ox Nx cA ad D A (some (.long rr)) sr) args s 0 0 A) (F0 m 28 ls []) := by
    intro n28
    induction n28 with
    | zero =>
      intro x1 x2 x3 s1 H locs ls hl hP hS hf
      rw [f_X11_eulerOfCut_c28] at hf
      cases hf
    | succ n28 ih28 =>
      have hc_93 : ∀ (x1 : Int32) (x2 : Int32) (x3 : Int32) (s1 : SS) (H : Heap) (locs : List Loc) (ls : Array Slot), lv_has ls 5 [(0, .ref (ad 0)), (1, .int x1), (2, .int x2), (3, .int x3)] → va_P D ZCL (zw Ox Nx cA ad s1) H → va_S A s.heap H locs → f_X11_eulerOfCut_c93 (f_X11_eulerOfCut_c28 n28) x1 x2 x3 s1 = some (rr, sr) → W p l e (zrm 5) s m args below meth c H locs 0 0 (MQ below (zQc Ox Nx cA ad D A (some (.long rr)) sr) args s 0 0 A) (F0 m 93 ls []) := by
        intro x1 x2 x3 s1 H locs ls hl hP hS hf
        rw [f_X11_eulerOfCut_c93] at hf
        refine lv_iinc (v := (x3 + 1)) (lv' := [(3, .int (x3 + 1)), (0, .ref (ad 0)), (1, .int x1), (2, .int x2)]) hx hb dX11_eulerOfCut_93 hl (k := 3) rfl rfl (by decide) rfl (fun ls hl => ?_)
        refine lv_goto (tgt := 28) hx hb dX11_eulerOfCut_96 (by decide) ?_
        exact ih28 x1 x2 (x3 + 1) s1 _ _ _ (lv_sub hl [1, 2, 3, 0] rfl) hP hS hf
      intro x1 x2 x3 s1 H locs ls hl hP hS hf
      rw [f_X11_eulerOfCut_c28] at hf
      refine lv_iload_n hx hb dX11_eulerOfCut_28 rfl (lv_at hl 3 rfl) ?_
      refine lv_aload_n hx hb dX11_eulerOfCut_29 rfl (lv_at hl 0 rfl) ?_
      refine gf_X11_63 X hP (k := 0) (q := 11) rfl dX11_eulerOfCut_30 rfl ?_
      refine lv_iload_n hx hb dX11_eulerOfCut_33 rfl (lv_at hl 1 rfl) ?_
      obtain ⟨r7, s8, h9, hf⟩ := zbd_some hf
      refine zcallV X hP hS hl.1 (k := 11) (As := [.int x1]) (rest := [.int x3]) (cn_X5_sizeOf h9) cw_X5_sizeOf zp_5 rfl (by decide) rfl ml_X11_244 (by decide) rfl rfl (Nat.le_of_ble_eq_true rfl) dX11_eulerOfCut_34 (fun H locs hP hS => ?_)
      refine zicmp_ge (tgt := 99) hx hb dX11_eulerOfCut_37 (by decide) hf (fun hf => ?_) (fun hf => ?_)
      · refine lv_aload_n hx hb dX11_eulerOfCut_99 rfl (lv_at hl 0 rfl) ?_
        refine gf_X11_28 X hP (k := 0) (q := 5) rfl dX11_eulerOfCut_100 rfl ?_
        refine lv_aload_n hx hb dX11_eulerOfCut_103 rfl (lv_at hl 0 rfl) ?_
        refine gf_X11_28 X hP (k := 0) (q := 5) rfl dX11_eulerOfCut_104 rfl ?_
        refine gf_X11_258 X hP (k := 5) (q := 23) rfl dX11_eulerOfCut_107 rfl ?_
        refine lv_iload_n hx hb dX11_eulerOfCut_110 rfl (lv_at hl 2 rfl) ?_
        obtain ⟨r10, s11, h12, hf⟩ := zbd_some hf
        refine zcallV X hP hS hl.1 (k := 5) (As := [.ref (ad 23), .int x2]) (rest := []) (cn_X8_keepSize h12) cw_X8_keepSize zp_8 rfl (by decide) rfl ml_X11_283 (by decide) rfl rfl (Nat.le_of_ble_eq_true rfl) dX11_eulerOfCut_111 (fun H locs hP hS => ?_)
        refine lv_aload_n hx hb dX11_eulerOfCut_114 rfl (lv_at hl 0 rfl) ?_
        refine gf_X11_28 X hP (k := 0) (q := 5) rfl dX11_eulerOfCut_115 rfl ?_
        refine lv_aload_n hx hb dX11_eulerOfCut_118 rfl (lv_at hl 0 rfl) ?_
        refine gf_X11_28 X hP (k := 0) (q := 5) rfl dX11_eulerOfCut_119 rfl ?_
        refine gf_X11_188 X hP (k := 5) (q := 21) rfl dX11_eulerOfCut_122 rfl ?_
        refine lv_aload_n hx hb dX11_eulerOfCut_125 rfl (lv_at hl 0 rfl) ?_
        refine gf_X11_28 X hP (k := 0) (q := 5) rfl dX11_eulerOfCut_126 rfl ?_
        refine gf_X11_258 X hP (k := 5) (q := 23) rfl dX11_eulerOfCut_129 rfl ?_
        obtain ⟨r13, s14, h15, hf⟩ := zbd_some hf
        refine zcallV X hP hS hl.1 (k := 5) (As := [.ref (ad 21), .ref (ad 23)]) (rest := []) (cn_X8_multiply h15) cw_X8_multiply zp_8 rfl (by decide) rfl ml_X11_276 (by decide) rfl rfl (Nat.le_of_ble_eq_true rfl) dX11_eulerOfCut_132 (fun H locs hP hS => ?_)
        refine lv_aload_n hx hb dX11_eulerOfCut_135 rfl (lv_at hl 0 rfl) ?_
        refine gf_X11_28 X hP (k := 0) (q := 5) rfl dX11_eulerOfCut_136 rfl ?_
        refine lv_aload_n hx hb dX11_eulerOfCut_139 rfl (lv_at hl 0 rfl) ?_
        refine gf_X11_28 X hP (k := 0) (q := 5) rfl dX11_eulerOfCut_140 rfl ?_
        refine gf_X11_188 X hP (k := 5) (q := 21) rfl dX11_eulerOfCut_143 rfl ?_
        obtain ⟨r16, s17, h18, hf⟩ := zbd_some hf
        refine zcallV X hP hS hl.1 (k := 5) (As := [.ref (ad 21)]) (rest := []) (cn_X8_metOf h18) cw_X8_metOf zp_8 rfl (by decide) rfl ml_X11_212 (by decide) rfl rfl (Nat.le_of_ble_eq_true rfl) dX11_eulerOfCut_146 (fun H locs hP hS => ?_)
        exact zret_l X hP hS hf dX11_eulerOfCut_149
      · refine lv_aload_n hx hb dX11_eulerOfCut_40 rfl (lv_at hl 0 rfl) ?_
        refine gf_X11_12 X hP (k := 0) (q := 1) rfl dX11_eulerOfCut_41 rfl ?_
        refine lv_aload_n hx hb dX11_eulerOfCut_44 rfl (lv_at hl 0 rfl) ?_
        refine gf_X11_63 X hP (k := 0) (q := 11) rfl dX11_eulerOfCut_45 rfl ?_
        refine lv_iload_n hx hb dX11_eulerOfCut_48 rfl (lv_at hl 1 rfl) ?_
        refine lv_iload_n hx hb dX11_eulerOfCut_49 rfl (lv_at hl 3 rfl) ?_
        obtain ⟨r19, s20, h21, hf⟩ := zbd_some hf
        refine zcallV X hP hS hl.1 (k := 11) (As := [.int x1, .int x3]) (rest := [.ref (ad 1)]) (cn_X5_valueAt h21) cw_X5_valueAt zp_5 rfl (by decide) rfl ml_X11_247 (by decide) rfl rfl (Nat.le_of_ble_eq_true rfl) dX11_eulerOfCut_50 (fun H locs hP hS => ?_)
        obtain ⟨r22, s23, h24, hf⟩ := zbd_some hf
        refine zcallV X hP hS hl.1 (k := 1) (As := [.long r19]) (rest := []) (cn_X3_classAt h24) cw_X3_classAt zp_3 rfl (by decide) rfl ml_X11_155 (by decide) rfl rfl (Nat.le_of_ble_eq_true rfl) dX11_eulerOfCut_53 (fun H locs hP hS => ?_)
        rcases r22 with _ | k25
        · have hf := zbn_none hf
          refine lv_astoreN (lv' := [(4, .null), (0, .ref (ad 0)), (1, .int x1), (2, .int x2), (3, .int x3)]) hx hb dX11_eulerOfCut_56 hl (by decide) rfl (fun ls hl => ?_)
          refine lv_aloadN hx hb dX11_eulerOfCut_58 (lv_at hl 0 rfl) ?_
          refine lv_ifnullN (tgt := 93) hx hb dX11_eulerOfCut_60 (by decide) ?_
          exact hc_93 x1 x2 x3 s23 _ _ _ (lv_sub hl [1, 2, 3, 4] rfl) hP hS hf
        · have hf := zbn_some hf
          obtain ⟨g26, hf⟩ := zgd hf
          refine lv_astore (lv' := [(4, .ref (ad k25)), (0, .ref (ad 0)), (1, .int x1), (2, .int x2), (3, .int x3)]) hx hb dX11_eulerOfCut_56 hl (by decide) rfl (fun ls hl => ?_)
          refine lv_aload hx hb dX11_eulerOfCut_58 (lv_at hl 0 rfl) ?_
          refine lv_ifnull hx hb dX11_eulerOfCut_60 ?_
          refine lv_aload_n hx hb dX11_eulerOfCut_63 rfl (lv_at hl 1 rfl) ?_
          refine gf_X11_28 X hP (k := 0) (q := 5) rfl dX11_eulerOfCut_64 rfl ?_
          refine lv_aload hx hb dX11_eulerOfCut_67 (lv_at hl 0 rfl) ?_
          refine lv_aload_n hx hb dX11_eulerOfCut_69 rfl (lv_at hl 1 rfl) ?_
          refine gf_X11_28 X hP (k := 0) (q := 5) rfl dX11_eulerOfCut_70 rfl ?_
          refine gf_X11_233 X hP (k := 5) (q := 22) rfl dX11_eulerOfCut_73 rfl ?_
          obtain ⟨r27, s28, h29, hf⟩ := zbd_some hf
          refine zcallV X hP hS hl.1 (k := 5) (As := [.ref (ad k25), .ref (ad 22)]) (rest := []) (cn_X8_takeNumbers h29) cw_X8_takeNumbers zp_8 rfl (by decide) rfl ml_X11_208 (by decide) rfl rfl (Nat.le_of_ble_eq_true rfl) dX11_eulerOfCut_76 (fun H locs hP hS => ?_)
          refine lv_aload_n hx hb dX11_eulerOfCut_79 rfl (lv_at hl 1 rfl) ?_
          refine gf_X11_28 X hP (k := 0) (q := 5) rfl dX11_eulerOfCut_80 rfl ?_
          refine lv_aload_n hx hb dX11_eulerOfCut_83 rfl (lv_at hl 1 rfl) ?_
          refine gf_X11_28 X hP (k := 0) (q := 5) rfl dX11_eulerOfCut_84 rfl ?_
          refine gf_X11_233 X hP (k := 5) (q := 22) rfl dX11_eulerOfCut_87 rfl ?_
          obtain ⟨r30, s31, h32, hf⟩ := zbd_some hf
          refine zcallV X hP hS hl.1 (k := 5) (As := [.ref (ad 22)]) (rest := []) (cn_X8_divideChern h32) cw_X8_divideChern zp_8 rfl (by decide) rfl ml_X11_280 (by decide) rfl rfl (Nat.le_of_ble_eq_true rfl) dX11_eulerOfCut_90 (fun H locs hP hS => ?_)
          exact hc_93 x1 x2 x3 s31 _ _ _ (lv_sub hl [1, 2, 3, 4] rfl) hP hS hf
  rw [f_X11_eulerOfCut] at hf
  refine lv_aload_n hx hb dX11_eulerOfCut_0 rfl (lv_at hl 0 rfl) ?_
  refine lv_iload_n hx hb dX11_eulerOfCut_1 rfl (lv_at hl 1 rfl) ?_
  obtain ⟨r1, s2, h3, hf⟩ := zbd_some hf
  refine zcallV X hP hS hl.1 (k := 0) (As := [.int x1]) (rest := []) (cn_X11_multiplyListed h3) cw_X11_multiplyListed zp_11 rfl (by decide) rfl ml_X11_224 (by decide) rfl rfl (Nat.le_of_ble_eq_true rfl) dX11_eulerOfCut_2 (fun H locs hP hS => ?_)
  refine zif_ne (tgt := 12) hx hb dX11_eulerOfCut_5 (by decide) hf (fun hf => ?_) (fun hf => ?_)
  · refine lv_aload_n hx hb dX11_eulerOfCut_12 rfl (lv_at hl 0 rfl) ?_
    refine gf_X11_28 X hP (k := 0) (q := 5) rfl dX11_eulerOfCut_13 rfl ?_
    refine lv_aload_n hx hb dX11_eulerOfCut_16 rfl (lv_at hl 0 rfl) ?_
    refine gf_X11_12 X hP (k := 0) (q := 1) rfl dX11_eulerOfCut_17 rfl ?_
    refine gf_X11_74 X hP (k := 1) (q := 3) rfl dX11_eulerOfCut_20 rfl ?_
    obtain ⟨r4, s5, h6, hf⟩ := zbd_some hf
    refine zcallV X hP hS hl.1 (k := 5) (As := [.ref (ad 3)]) (rest := []) (cn_X8_makeChern h6) cw_X8_makeChern zp_8 rfl (by decide) rfl ml_X11_255 (by decide) rfl rfl (Nat.le_of_ble_eq_true rfl) dX11_eulerOfCut_23 (fun H locs hP hS => ?_)
    refine lv_iconst (v := 0) hx hb dX11_eulerOfCut_26 (by decide) ?_
    refine lv_istore_n (lv' := [(3, .int 0), (0, .ref (ad 0)), (1, .int x1), (2, .int x2)]) hx hb dX11_eulerOfCut_27 rfl hl (by decide) rfl (fun ls hl => ?_)
    exact hc_28 ZF x1 x2 0 s5 _ _ _ (lv_sub hl [1, 2, 3, 0] rfl) hP hS hf
  · refine zldc2 X co_X11_227 dX11_eulerOfCut_8 ?_
    exact zret_l X hP hS hf dX11_eulerOfCut_11
theorem dX11_cutOut_0 : decode cX11_cutOut 0 = .ok (.iload_n 2, 1) := by decide +kernel
theorem dX11_cutOut_1 : decode cX11_cutOut 1 = .ok (.ifCond .lt 19, 3) := by decide +kernel
theorem dX11_cutOut_4 : decode cX11_cutOut 4 = .ok (.iload_n 2, 1) := by decide +kernel
theorem dX11_cutOut_5 : decode cX11_cutOut 5 = .ok (.iconst 3, 1) := by decide +kernel
theorem dX11_cutOut_6 : decode cX11_cutOut 6 = .ok (.if_icmp .gt 14, 3) := by decide +kernel
theorem dX11_cutOut_9 : decode cX11_cutOut 9 = .ok (.aload_n 0, 1) := by decide +kernel
theorem dX11_cutOut_10 : decode cX11_cutOut 10 = .ok (.getfield 63, 3) := by decide +kernel
theorem dX11_cutOut_13 : decode cX11_cutOut 13 = .ok (.iload_n 1, 1) := by decide +kernel
theorem dX11_cutOut_14 : decode cX11_cutOut 14 = .ok (.invokevirtual 220, 3) := by decide +kernel
theorem dX11_cutOut_17 : decode cX11_cutOut 17 = .ok (.ifCond .ne 7, 3) := by decide +kernel
theorem dX11_cutOut_20 : decode cX11_cutOut 20 = .ok (.ldc2_w 132, 3) := by decide +kernel
theorem dX11_cutOut_23 : decode cX11_cutOut 23 = .ok (.lreturn, 1) := by decide +kernel
theorem dX11_cutOut_24 : decode cX11_cutOut 24 = .ok (.aload_n 0, 1) := by decide +kernel
theorem dX11_cutOut_25 : decode cX11_cutOut 25 = .ok (.getfield 12, 3) := by decide +kernel
theorem dX11_cutOut_28 : decode cX11_cutOut 28 = .ok (.getfield 74, 3) := by decide +kernel
theorem dX11_cutOut_31 : decode cX11_cutOut 31 = .ok (.invokevirtual 251, 3) := by decide +kernel
theorem dX11_cutOut_34 : decode cX11_cutOut 34 = .ok (.ifCond .eq 11, 3) := by decide +kernel
theorem dX11_cutOut_37 : decode cX11_cutOut 37 = .ok (.aload_n 0, 1) := by decide +kernel
theorem dX11_cutOut_38 : decode cX11_cutOut 38 = .ok (.iload_n 1, 1) := by decide +kernel
theorem dX11_cutOut_39 : decode cX11_cutOut 39 = .ok (.invokevirtual 261, 3) := by decide +kernel
theorem dX11_cutOut_42 : decode cX11_cutOut 42 = .ok (.ifCond .ne 7, 3) := by decide +kernel
theorem dX11_cutOut_45 : decode cX11_cutOut 45 = .ok (.ldc2_w 227, 3) := by decide +kernel
theorem dX11_cutOut_48 : decode cX11_cutOut 48 = .ok (.lreturn, 1) := by decide +kernel
theorem dX11_cutOut_49 : decode cX11_cutOut 49 = .ok (.aload_n 0, 1) := by decide +kernel
theorem dX11_cutOut_50 : decode cX11_cutOut 50 = .ok (.getfield 12, 3) := by decide +kernel
theorem dX11_cutOut_53 : decode cX11_cutOut 53 = .ok (.getfield 74, 3) := by decide +kernel
theorem dX11_cutOut_56 : decode cX11_cutOut 56 = .ok (.invokevirtual 115, 3) := by decide +kernel
theorem dX11_cutOut_59 : decode cX11_cutOut 59 = .ok (.aload_n 0, 1) := by decide +kernel
theorem dX11_cutOut_60 : decode cX11_cutOut 60 = .ok (.getfield 63, 3) := by decide +kernel
theorem dX11_cutOut_63 : decode cX11_cutOut 63 = .ok (.iload_n 1, 1) := by decide +kernel
theorem dX11_cutOut_64 : decode cX11_cutOut 64 = .ok (.invokevirtual 244, 3) := by decide +kernel
theorem dX11_cutOut_67 : decode cX11_cutOut 67 = .ok (.isub, 1) := by decide +kernel
theorem dX11_cutOut_68 : decode cX11_cutOut 68 = .ok (.istore_n 3, 1) := by decide +kernel
theorem dX11_cutOut_69 : decode cX11_cutOut 69 = .ok (.iload_n 2, 1) := by decide +kernel
theorem dX11_cutOut_70 : decode cX11_cutOut 70 = .ok (.tableswitch 43 0 2 #[26, 29, 36], 26) := by decide +kernel
theorem dX11_cutOut_96 : decode cX11_cutOut 96 = .ok (.iload_n 3, 1) := by decide +kernel
theorem dX11_cutOut_97 : decode cX11_cutOut 97 = .ok (.i2l, 1) := by decide +kernel
theorem dX11_cutOut_98 : decode cX11_cutOut 98 = .ok (.lreturn, 1) := by decide +kernel
theorem dX11_cutOut_99 : decode cX11_cutOut 99 = .ok (.aload_n 0, 1) := by decide +kernel
theorem dX11_cutOut_100 : decode cX11_cutOut 100 = .ok (.iload_n 1, 1) := by decide +kernel
theorem dX11_cutOut_101 : decode cX11_cutOut 101 = .ok (.iload_n 3, 1) := by decide +kernel
theorem dX11_cutOut_102 : decode cX11_cutOut 102 = .ok (.invokevirtual 264, 3) := by decide +kernel
theorem dX11_cutOut_105 : decode cX11_cutOut 105 = .ok (.lreturn, 1) := by decide +kernel
theorem dX11_cutOut_106 : decode cX11_cutOut 106 = .ok (.aload_n 0, 1) := by decide +kernel
theorem dX11_cutOut_107 : decode cX11_cutOut 107 = .ok (.iload_n 1, 1) := by decide +kernel
theorem dX11_cutOut_108 : decode cX11_cutOut 108 = .ok (.iload_n 3, 1) := by decide +kernel
theorem dX11_cutOut_109 : decode cX11_cutOut 109 = .ok (.invokevirtual 267, 3) := by decide +kernel
theorem dX11_cutOut_112 : decode cX11_cutOut 112 = .ok (.lreturn, 1) := by decide +kernel
theorem dX11_cutOut_113 : decode cX11_cutOut 113 = .ok (.iload_n 3, 1) := by decide +kernel
theorem dX11_cutOut_114 : decode cX11_cutOut 114 = .ok (.iconst 1, 1) := by decide +kernel
theorem dX11_cutOut_115 : decode cX11_cutOut 115 = .ok (.if_icmp .ne 18, 3) := by decide +kernel
theorem dX11_cutOut_118 : decode cX11_cutOut 118 = .ok (.lconst 1, 1) := by decide +kernel
theorem dX11_cutOut_119 : decode cX11_cutOut 119 = .ok (.aload_n 0, 1) := by decide +kernel
theorem dX11_cutOut_120 : decode cX11_cutOut 120 = .ok (.iload_n 1, 1) := by decide +kernel
theorem dX11_cutOut_121 : decode cX11_cutOut 121 = .ok (.iload_n 3, 1) := by decide +kernel
theorem dX11_cutOut_122 : decode cX11_cutOut 122 = .ok (.invokevirtual 267, 3) := by decide +kernel
theorem dX11_cutOut_125 : decode cX11_cutOut 125 = .ok (.ldc2_w 270, 3) := by decide +kernel
theorem dX11_cutOut_128 : decode cX11_cutOut 128 = .ok (.ldiv, 1) := by decide +kernel
theorem dX11_cutOut_129 : decode cX11_cutOut 129 = .ok (.lsub, 1) := by decide +kernel
theorem dX11_cutOut_130 : decode cX11_cutOut 130 = .ok (.goto 6, 3) := by decide +kernel
theorem dX11_cutOut_133 : decode cX11_cutOut 133 = .ok (.ldc2_w 227, 3) := by decide +kernel
theorem dX11_cutOut_136 : decode cX11_cutOut 136 = .ok (.lreturn, 1) := by decide +kernel
set_option maxHeartbeats 4000000 in
set_option maxRecDepth 100000 in
theorem cn_X11_cutOut {l : Launch} {cA : Nat → ClassId} {ad : Nat → Nat} {D : va_G} {E : Nat → Nat} {A : Nat → Prop} {x1 : Int32} {x2 : Int32} {s0 sr : SS} {rr : Int64} (hf : f_X11_cutOut x1 x2 s0 = some (rr, sr)) : zCon Ox Nx cA ad D E l yX11_cutOut cX11_cutOut 4 (some .long) 6 A [.ref (ad 0), .int x1, .int x2] s0 (some (.long rr)) sr := by
  refine zstart (own := RX11) hOx (by decide) rfl (Nat.le_of_ble_eq_true rfl) ?_
  intro p e s m args below meth c X hP ls hl
  have hx := X.1
  have hb := X.2.1
  have hl : lv_has ls 4 [(0, .ref (ad 0)), (1, .int x1), (2, .int x2)] := hl
  have hS : va_S A s.heap s.heap [] := va_S.rf
  rw [f_X11_cutOut] at hf
  refine lv_iload_n hx hb dX11_cutOut_0 rfl (lv_at hl 2 rfl) ?_
  refine zif_lt (tgt := 20) hx hb dX11_cutOut_1 (by decide) hf (fun hf => ?_) (fun hf => ?_)
  · refine zldc2 X co_X11_132 dX11_cutOut_20 ?_
    exact zret_l X hP hS hf dX11_cutOut_23
  · refine lv_iload_n hx hb dX11_cutOut_4 rfl (lv_at hl 2 rfl) ?_
    refine lv_iconst (v := 3) hx hb dX11_cutOut_5 (by decide) ?_
    refine zicmp_gt (tgt := 20) hx hb dX11_cutOut_6 (by decide) hf (fun hf => ?_) (fun hf => ?_)
    · refine zldc2 X co_X11_132 dX11_cutOut_20 ?_
      exact zret_l X hP hS hf dX11_cutOut_23
    · refine lv_aload_n hx hb dX11_cutOut_9 rfl (lv_at hl 0 rfl) ?_
      refine gf_X11_63 X hP (k := 0) (q := 11) rfl dX11_cutOut_10 rfl ?_
      refine lv_iload_n hx hb dX11_cutOut_13 rfl (lv_at hl 1 rfl) ?_
      obtain ⟨r1, s2, h3, hf⟩ := zbd_some hf
      refine zcallV X hP hS hl.1 (k := 11) (As := [.int x1]) (rest := []) (cn_X5_isThere h3) cw_X5_isThere zp_5 rfl (by decide) rfl ml_X11_220 (by decide) rfl rfl (Nat.le_of_ble_eq_true rfl) dX11_cutOut_14 (fun H locs hP hS => ?_)
      refine zif_ne (tgt := 24) hx hb dX11_cutOut_17 (by decide) hf (fun hf => ?_) (fun hf => ?_)
      · refine lv_aload_n hx hb dX11_cutOut_24 rfl (lv_at hl 0 rfl) ?_
        refine gf_X11_12 X hP (k := 0) (q := 1) rfl dX11_cutOut_25 rfl ?_
        refine gf_X11_74 X hP (k := 1) (q := 3) rfl dX11_cutOut_28 rfl ?_
        obtain ⟨r4, s5, h6, hf⟩ := zbd_some hf
        refine zcallV X hP hS hl.1 (k := 3) (As := []) (rest := []) (cn_X7_isBareProduct h6) cw_X7_isBareProduct zp_7 rfl (by decide) rfl ml_X11_251 (by decide) rfl rfl (Nat.le_of_ble_eq_true rfl) dX11_cutOut_31 (fun H locs hP hS => ?_)
        refine zif_eq (tgt := 45) hx hb dX11_cutOut_34 (by decide) hf (fun hf => ?_) (fun hf => ?_)
        · refine zldc2 X co_X11_227 dX11_cutOut_45 ?_
          exact zret_l X hP hS hf dX11_cutOut_48
        · refine lv_aload_n hx hb dX11_cutOut_37 rfl (lv_at hl 0 rfl) ?_
          refine lv_iload_n hx hb dX11_cutOut_38 rfl (lv_at hl 1 rfl) ?_
          obtain ⟨r7, s8, h9, hf⟩ := zbd_some hf
          refine zcallV X hP hS hl.1 (k := 0) (As := [.int x1]) (rest := []) (cn_X11_canCutOut h9) cw_X11_canCutOut zp_11 rfl (by decide) rfl ml_X11_261 (by decide) rfl rfl (Nat.le_of_ble_eq_true rfl) dX11_cutOut_39 (fun H locs hP hS => ?_)
          refine zif_ne (tgt := 49) hx hb dX11_cutOut_42 (by decide) hf (fun hf => ?_) (fun hf => ?_)
          · refine lv_aload_n hx hb dX11_cutOut_49 rfl (lv_at hl 0 rfl) ?_
            refine gf_X11_12 X hP (k := 0) (q := 1) rfl dX11_cutOut_50 rfl ?_
            refine gf_X11_74 X hP (k := 1) (q := 3) rfl dX11_cutOut_53 rfl ?_
            obtain ⟨r10, s11, h12, hf⟩ := zbd_some hf
            refine zcallV X hP hS hl.1 (k := 3) (As := []) (rest := []) (cn_X7_dimension h12) cw_X7_dimension zp_7 rfl (by decide) rfl ml_X11_115 (by decide) rfl rfl (Nat.le_of_ble_eq_true rfl) dX11_cutOut_56 (fun H locs hP hS => ?_)
            refine lv_aload_n hx hb dX11_cutOut_59 rfl (lv_at hl 0 rfl) ?_
            refine gf_X11_63 X hP (k := 0) (q := 11) rfl dX11_cutOut_60 rfl ?_
            refine lv_iload_n hx hb dX11_cutOut_63 rfl (lv_at hl 1 rfl) ?_
            obtain ⟨r13, s14, h15, hf⟩ := zbd_some hf
            refine zcallV X hP hS hl.1 (k := 11) (As := [.int x1]) (rest := [.int r10]) (cn_X5_sizeOf h15) cw_X5_sizeOf zp_5 rfl (by decide) rfl ml_X11_244 (by decide) rfl rfl (Nat.le_of_ble_eq_true rfl) dX11_cutOut_64 (fun H locs hP hS => ?_)
            refine lv_isub hx hb dX11_cutOut_67 ?_
            refine lv_istore_n (lv' := [(3, .int (r10 - r13)), (0, .ref (ad 0)), (1, .int x1), (2, .int x2)]) hx hb dX11_cutOut_68 rfl hl (by decide) rfl (fun ls hl => ?_)
            refine lv_iload_n hx hb dX11_cutOut_69 rfl (lv_at hl 3 rfl) ?_
            by_cases e16 : x2 = 0
            · rw [if_pos e16] at hf
              refine lv_tableIn (tgt := 96) (off := 26) hx hb dX11_cutOut_70 (by rw [e16]; decide) (by rw [e16]; decide) (by rw [e16]; decide +kernel) (by decide) ?_
              refine lv_iload_n hx hb dX11_cutOut_96 rfl (lv_at hl 0 rfl) ?_
              refine lv_i2l hx hb dX11_cutOut_97 rfl ?_
              exact zret_l X hP hS hf dX11_cutOut_98
            · rw [if_neg e16] at hf
              by_cases e17 : x2 = 1
              · rw [if_pos e17] at hf
                refine lv_tableIn (tgt := 99) (off := 29) hx hb dX11_cutOut_70 (by rw [e17]; decide) (by rw [e17]; decide) (by rw [e17]; decide +kernel) (by decide) ?_
                refine lv_aload_n hx hb dX11_cutOut_99 rfl (lv_at hl 1 rfl) ?_
                refine lv_iload_n hx hb dX11_cutOut_100 rfl (lv_at hl 2 rfl) ?_
                refine lv_iload_n hx hb dX11_cutOut_101 rfl (lv_at hl 0 rfl) ?_
                obtain ⟨r18, s19, h20, hf⟩ := zbd_some hf
                refine zcallV X hP hS hl.1 (k := 0) (As := [.int x1, .int (r10 - r13)]) (rest := []) (cn_X11_canonicalOfCut h20) cw_X11_canonicalOfCut zp_11 rfl (by decide) rfl ml_X11_264 (by decide) rfl rfl (Nat.le_of_ble_eq_true rfl) dX11_cutOut_102 (fun H locs hP hS => ?_)
                exact zret_l X hP hS hf dX11_cutOut_105
              · rw [if_neg e17] at hf
                by_cases e21 : x2 = 2
                · rw [if_pos e21] at hf
                  refine lv_tableIn (tgt := 106) (off := 36) hx hb dX11_cutOut_70 (by rw [e21]; decide) (by rw [e21]; decide) (by rw [e21]; decide +kernel) (by decide) ?_
                  refine lv_aload_n hx hb dX11_cutOut_106 rfl (lv_at hl 1 rfl) ?_
                  refine lv_iload_n hx hb dX11_cutOut_107 rfl (lv_at hl 2 rfl) ?_
                  refine lv_iload_n hx hb dX11_cutOut_108 rfl (lv_at hl 0 rfl) ?_
                  obtain ⟨r22, s23, h24, hf⟩ := zbd_some hf
                  refine zcallV X hP hS hl.1 (k := 0) (As := [.int x1, .int (r10 - r13)]) (rest := []) (cn_X11_eulerOfCut h24) cw_X11_eulerOfCut zp_11 rfl (by decide) rfl ml_X11_267 (by decide) rfl rfl (Nat.le_of_ble_eq_true rfl) dX11_cutOut_109 (fun H locs hP hS => ?_)
                  exact zret_l X hP hS hf dX11_cutOut_112
                · rw [if_neg e21] at hf
                  have ye16 := zne e16 (v := 0) (by decide)
                  have ye17 := zne e17 (v := 1) (by decide)
                  have ye21 := zne e21 (v := 2) (by decide)
                  refine lv_tableOut (tgt := 113) hx hb dX11_cutOut_70 (by omega) (by decide) ?_
                  refine lv_iload_n hx hb dX11_cutOut_113 rfl (lv_at hl 0 rfl) ?_
                  refine lv_iconst (v := 1) hx hb dX11_cutOut_114 (by decide) ?_
                  refine zicmp_ne (tgt := 133) hx hb dX11_cutOut_115 (by decide) hf (fun hf => ?_) (fun hf => ?_)
                  · refine zldc2 X co_X11_227 dX11_cutOut_133 ?_
                    exact zret_l X hP hS hf dX11_cutOut_136
                  · refine lv_lconst (v := 1) hx hb dX11_cutOut_118 (by decide) ?_
                    refine lv_aload_n hx hb dX11_cutOut_119 rfl (lv_at hl 1 rfl) ?_
                    refine lv_iload_n hx hb dX11_cutOut_120 rfl (lv_at hl 2 rfl) ?_
                    refine lv_iload_n hx hb dX11_cutOut_121 rfl (lv_at hl 0 rfl) ?_
                    obtain ⟨r25, s26, h27, hf⟩ := zbd_some hf
                    refine zcallV X hP hS hl.1 (k := 0) (As := [.int x1, .int (r10 - r13)]) (rest := [.long 1]) (cn_X11_eulerOfCut h27) cw_X11_eulerOfCut zp_11 rfl (by decide) rfl ml_X11_267 (by decide) rfl rfl (Nat.le_of_ble_eq_true rfl) dX11_cutOut_122 (fun H locs hP hS => ?_)
                    refine zldc2 X co_X11_270 dX11_cutOut_125 ?_
                    refine lv_ldiv hx hb dX11_cutOut_128 (by decide) ?_
                    refine lv_lsub hx hb dX11_cutOut_129 ?_
                    refine lv_goto (tgt := 136) hx hb dX11_cutOut_130 (by decide) ?_
                    exact zret_l X hP hS hf dX11_cutOut_136
          · refine zldc2 X co_X11_227 dX11_cutOut_45 ?_
            exact zret_l X hP hS hf dX11_cutOut_48
      · refine zldc2 X co_X11_132 dX11_cutOut_20 ?_
        exact zret_l X hP hS hf dX11_cutOut_23
theorem dX11_multiplyConditions_0 : decode cX11_multiplyConditions 0 = .ok (.aload_n 0, 1) := by decide +kernel
theorem dX11_multiplyConditions_1 : decode cX11_multiplyConditions 1 = .ok (.getfield 28, 3) := by decide +kernel
theorem dX11_multiplyConditions_4 : decode cX11_multiplyConditions 4 = .ok (.aload_n 0, 1) := by decide +kernel
theorem dX11_multiplyConditions_5 : decode cX11_multiplyConditions 5 = .ok (.getfield 28, 3) := by decide +kernel
theorem dX11_multiplyConditions_8 : decode cX11_multiplyConditions 8 = .ok (.getfield 233, 3) := by decide +kernel
theorem dX11_multiplyConditions_11 : decode cX11_multiplyConditions 11 = .ok (.invokevirtual 295, 3) := by decide +kernel
theorem dX11_multiplyConditions_14 : decode cX11_multiplyConditions 14 = .ok (.aload_n 0, 1) := by decide +kernel
theorem dX11_multiplyConditions_15 : decode cX11_multiplyConditions 15 = .ok (.getfield 28, 3) := by decide +kernel
theorem dX11_multiplyConditions_18 : decode cX11_multiplyConditions 18 = .ok (.aload_n 0, 1) := by decide +kernel
theorem dX11_multiplyConditions_19 : decode cX11_multiplyConditions 19 = .ok (.getfield 28, 3) := by decide +kernel
theorem dX11_multiplyConditions_22 : decode cX11_multiplyConditions 22 = .ok (.getfield 233, 3) := by decide +kernel
theorem dX11_multiplyConditions_25 : decode cX11_multiplyConditions 25 = .ok (.iconst 0, 1) := by decide +kernel
theorem dX11_multiplyConditions_26 : decode cX11_multiplyConditions 26 = .ok (.lload_n 2, 1) := by decide +kernel
theorem dX11_multiplyConditions_27 : decode cX11_multiplyConditions 27 = .ok (.invokevirtual 298, 3) := by decide +kernel
theorem dX11_multiplyConditions_30 : decode cX11_multiplyConditions 30 = .ok (.aload_n 0, 1) := by decide +kernel
theorem dX11_multiplyConditions_31 : decode cX11_multiplyConditions 31 = .ok (.getfield 28, 3) := by decide +kernel
theorem dX11_multiplyConditions_34 : decode cX11_multiplyConditions 34 = .ok (.aload_n 0, 1) := by decide +kernel
theorem dX11_multiplyConditions_35 : decode cX11_multiplyConditions 35 = .ok (.getfield 28, 3) := by decide +kernel
theorem dX11_multiplyConditions_38 : decode cX11_multiplyConditions 38 = .ok (.getfield 233, 3) := by decide +kernel
theorem dX11_multiplyConditions_41 : decode cX11_multiplyConditions 41 = .ok (.iconst 1, 1) := by decide +kernel
theorem dX11_multiplyConditions_42 : decode cX11_multiplyConditions 42 = .ok (.lload 4, 2) := by decide +kernel
theorem dX11_multiplyConditions_44 : decode cX11_multiplyConditions 44 = .ok (.invokevirtual 298, 3) := by decide +kernel
theorem dX11_multiplyConditions_47 : decode cX11_multiplyConditions 47 = .ok (.iconst 0, 1) := by decide +kernel
theorem dX11_multiplyConditions_48 : decode cX11_multiplyConditions 48 = .ok (.istore 6, 2) := by decide +kernel
theorem dX11_multiplyConditions_50 : decode cX11_multiplyConditions 50 = .ok (.iload 6, 2) := by decide +kernel
theorem dX11_multiplyConditions_52 : decode cX11_multiplyConditions 52 = .ok (.iload_n 1, 1) := by decide +kernel
theorem dX11_multiplyConditions_53 : decode cX11_multiplyConditions 53 = .ok (.if_icmp .ge 30, 3) := by decide +kernel
theorem dX11_multiplyConditions_56 : decode cX11_multiplyConditions 56 = .ok (.aload_n 0, 1) := by decide +kernel
theorem dX11_multiplyConditions_57 : decode cX11_multiplyConditions 57 = .ok (.getfield 28, 3) := by decide +kernel
theorem dX11_multiplyConditions_60 : decode cX11_multiplyConditions 60 = .ok (.aload_n 0, 1) := by decide +kernel
theorem dX11_multiplyConditions_61 : decode cX11_multiplyConditions 61 = .ok (.getfield 28, 3) := by decide +kernel
theorem dX11_multiplyConditions_64 : decode cX11_multiplyConditions 64 = .ok (.getfield 188, 3) := by decide +kernel
theorem dX11_multiplyConditions_67 : decode cX11_multiplyConditions 67 = .ok (.aload_n 0, 1) := by decide +kernel
theorem dX11_multiplyConditions_68 : decode cX11_multiplyConditions 68 = .ok (.getfield 28, 3) := by decide +kernel
theorem dX11_multiplyConditions_71 : decode cX11_multiplyConditions 71 = .ok (.getfield 233, 3) := by decide +kernel
theorem dX11_multiplyConditions_74 : decode cX11_multiplyConditions 74 = .ok (.invokevirtual 276, 3) := by decide +kernel
theorem dX11_multiplyConditions_77 : decode cX11_multiplyConditions 77 = .ok (.iinc 6 1, 3) := by decide +kernel
theorem dX11_multiplyConditions_80 : decode cX11_multiplyConditions 80 = .ok (.goto (-30), 3) := by decide +kernel
theorem dX11_multiplyConditions_83 : decode cX11_multiplyConditions 83 = .ok (.return_, 1) := by decide +kernel
set_option maxHeartbeats 4000000 in
set_option maxRecDepth 100000 in
theorem cn_X11_multiplyConditions {l : Launch} {cA : Nat → ClassId} {ad : Nat → Nat} {D : va_G} {E : Nat → Nat} {A : Nat → Prop} {x1 : Int32} {x2 : Int64} {x4 : Int64} {s0 sr : SS} {rr : Unit} (hf : f_X11_multiplyConditions x1 x2 x4 s0 = some (rr, sr)) : zCon Ox Nx cA ad D E l yX11_multiplyConditions cX11_multiplyConditions 7 none 3 A [.ref (ad 0), .int x1, .long x2, .long x4] s0 none sr := by
  refine zstart (own := RX11) hOx (by decide) rfl (Nat.le_of_ble_eq_true rfl) ?_
  intro p e s m args below meth c X hP ls hl
  have hx := X.1
  have hb := X.2.1
  have hl : lv_has ls 7 [(0, .ref (ad 0)), (1, .int x1), (2, .long x2), (4, .long x4)] := hl
  have hS : va_S A s.heap s.heap [] := va_S.rf
  have hc_50 : ∀ (n50 : Nat) (x1 : Int32) (x6 : Int32) (s1 : SS) (H : Heap) (locs : List Loc) (ls : Array Slot), lv_has ls 7 [(0, .ref (ad 0)), (1, .int x1), (6, .int x6)] → va_P D ZCL (zw Ox Nx cA ad s1) H → va_S A s.heap H locs → f_X11_multiplyConditions_c50 n50 x1 x6 s1 = some (rr, sr) → W p l e (zrm 3) s m args below meth c H locs 0 0 (MQ below (zQc Ox Nx cA ad D A none sr) args s 0 0 A) (F0 m 50 ls []) := by
    intro n50
    induction n50 with
    | zero =>
      intro x1 x6 s1 H locs ls hl hP hS hf
      rw [f_X11_multiplyConditions_c50] at hf
      cases hf
    | succ n50 ih50 =>
      intro x1 x6 s1 H locs ls hl hP hS hf
      rw [f_X11_multiplyConditions_c50] at hf
      refine lv_iload hx hb dX11_multiplyConditions_50 (lv_at hl 2 rfl) ?_
      refine lv_iload_n hx hb dX11_multiplyConditions_52 rfl (lv_at hl 1 rfl) ?_
      refine zicmp_ge (tgt := 83) hx hb dX11_multiplyConditions_53 (by decide) hf (fun hf => ?_) (fun hf => ?_)
      · exact zret_v X hP hS hf dX11_multiplyConditions_83
      · refine lv_aload_n hx hb dX11_multiplyConditions_56 rfl (lv_at hl 0 rfl) ?_
        refine gf_X11_28 X hP (k := 0) (q := 5) rfl dX11_multiplyConditions_57 rfl ?_
        refine lv_aload_n hx hb dX11_multiplyConditions_60 rfl (lv_at hl 0 rfl) ?_
        refine gf_X11_28 X hP (k := 0) (q := 5) rfl dX11_multiplyConditions_61 rfl ?_
        refine gf_X11_188 X hP (k := 5) (q := 21) rfl dX11_multiplyConditions_64 rfl ?_
        refine lv_aload_n hx hb dX11_multiplyConditions_67 rfl (lv_at hl 0 rfl) ?_
        refine gf_X11_28 X hP (k := 0) (q := 5) rfl dX11_multiplyConditions_68 rfl ?_
        refine gf_X11_233 X hP (k := 5) (q := 22) rfl dX11_multiplyConditions_71 rfl ?_
        obtain ⟨r10, s11, h12, hf⟩ := zbd_some hf
        refine zcallV X hP hS hl.1 (k := 5) (As := [.ref (ad 21), .ref (ad 22)]) (rest := []) (cn_X8_multiply h12) cw_X8_multiply zp_8 rfl (by decide) rfl ml_X11_276 (by decide) rfl rfl (Nat.le_of_ble_eq_true rfl) dX11_multiplyConditions_74 (fun H locs hP hS => ?_)
        refine lv_iinc (v := (x6 + 1)) (lv' := [(6, .int (x6 + 1)), (0, .ref (ad 0)), (1, .int x1)]) hx hb dX11_multiplyConditions_77 hl (k := 2) rfl rfl (by decide) rfl (fun ls hl => ?_)
        refine lv_goto (tgt := 50) hx hb dX11_multiplyConditions_80 (by decide) ?_
        exact ih50 x1 (x6 + 1) s11 _ _ _ (lv_sub hl [1, 2, 0] rfl) hP hS hf
  rw [f_X11_multiplyConditions] at hf
  refine lv_aload_n hx hb dX11_multiplyConditions_0 rfl (lv_at hl 0 rfl) ?_
  refine gf_X11_28 X hP (k := 0) (q := 5) rfl dX11_multiplyConditions_1 rfl ?_
  refine lv_aload_n hx hb dX11_multiplyConditions_4 rfl (lv_at hl 0 rfl) ?_
  refine gf_X11_28 X hP (k := 0) (q := 5) rfl dX11_multiplyConditions_5 rfl ?_
  refine gf_X11_233 X hP (k := 5) (q := 22) rfl dX11_multiplyConditions_8 rfl ?_
  obtain ⟨r1, s2, h3, hf⟩ := zbd_some hf
  refine zcallV X hP hS hl.1 (k := 5) (As := [.ref (ad 22)]) (rest := []) (cn_X8_makeZero h3) cw_X8_makeZero zp_8 rfl (by decide) rfl ml_X11_295 (by decide) rfl rfl (Nat.le_of_ble_eq_true rfl) dX11_multiplyConditions_11 (fun H locs hP hS => ?_)
  refine lv_aload_n hx hb dX11_multiplyConditions_14 rfl (lv_at hl 0 rfl) ?_
  refine gf_X11_28 X hP (k := 0) (q := 5) rfl dX11_multiplyConditions_15 rfl ?_
  refine lv_aload_n hx hb dX11_multiplyConditions_18 rfl (lv_at hl 0 rfl) ?_
  refine gf_X11_28 X hP (k := 0) (q := 5) rfl dX11_multiplyConditions_19 rfl ?_
  refine gf_X11_233 X hP (k := 5) (q := 22) rfl dX11_multiplyConditions_22 rfl ?_
  refine lv_iconst (v := 0) hx hb dX11_multiplyConditions_25 (by decide) ?_
  refine lv_lload_n hx hb dX11_multiplyConditions_26 rfl (lv_at hl 2 rfl) ?_
  obtain ⟨r4, s5, h6, hf⟩ := zbd_some hf
  refine zcallV X hP hS hl.1 (k := 5) (As := [.ref (ad 22), .int 0, .long x2]) (rest := []) (cn_X8_putAtLetter h6) cw_X8_putAtLetter zp_8 rfl (by decide) rfl ml_X11_298 (by decide) rfl rfl (Nat.le_of_ble_eq_true rfl) dX11_multiplyConditions_27 (fun H locs hP hS => ?_)
  refine lv_aload_n hx hb dX11_multiplyConditions_30 rfl (lv_at hl 0 rfl) ?_
  refine gf_X11_28 X hP (k := 0) (q := 5) rfl dX11_multiplyConditions_31 rfl ?_
  refine lv_aload_n hx hb dX11_multiplyConditions_34 rfl (lv_at hl 0 rfl) ?_
  refine gf_X11_28 X hP (k := 0) (q := 5) rfl dX11_multiplyConditions_35 rfl ?_
  refine gf_X11_233 X hP (k := 5) (q := 22) rfl dX11_multiplyConditions_38 rfl ?_
  refine lv_iconst (v := 1) hx hb dX11_multiplyConditions_41 (by decide) ?_
  refine lv_lload hx hb dX11_multiplyConditions_42 (lv_at hl 3 rfl) ?_
  obtain ⟨r7, s8, h9, hf⟩ := zbd_some hf
  refine zcallV X hP hS hl.1 (k := 5) (As := [.ref (ad 22), .int 1, .long x4]) (rest := []) (cn_X8_putAtLetter h9) cw_X8_putAtLetter zp_8 rfl (by decide) rfl ml_X11_298 (by decide) rfl rfl (Nat.le_of_ble_eq_true rfl) dX11_multiplyConditions_44 (fun H locs hP hS => ?_)
  refine lv_iconst (v := 0) hx hb dX11_multiplyConditions_47 (by decide) ?_
  refine lv_istore (lv' := [(6, .int 0), (0, .ref (ad 0)), (1, .int x1), (2, .long x2), (4, .long x4)]) hx hb dX11_multiplyConditions_48 hl (by decide) rfl (fun ls hl => ?_)
  exact hc_50 ZF x1 0 s8 _ _ _ (lv_sub hl [1, 2, 0] rfl) hP hS hf
theorem dX11_through_0 : decode cX11_through 0 = .ok (.iload_n 1, 1) := by decide +kernel
theorem dX11_through_1 : decode cX11_through 1 = .ok (.ifCond .lt 17, 3) := by decide +kernel
theorem dX11_through_4 : decode cX11_through 4 = .ok (.iload_n 1, 1) := by decide +kernel
theorem dX11_through_5 : decode cX11_through 5 = .ok (.iconst 5, 1) := by decide +kernel
theorem dX11_through_6 : decode cX11_through 6 = .ok (.if_icmp .gt 12, 3) := by decide +kernel
theorem dX11_through_9 : decode cX11_through 9 = .ok (.iload_n 2, 1) := by decide +kernel
theorem dX11_through_10 : decode cX11_through 10 = .ok (.ifCond .lt 8, 3) := by decide +kernel
theorem dX11_through_13 : decode cX11_through 13 = .ok (.iload_n 2, 1) := by decide +kernel
theorem dX11_through_14 : decode cX11_through 14 = .ok (.iconst 5, 1) := by decide +kernel
theorem dX11_through_15 : decode cX11_through 15 = .ok (.if_icmp .le 7, 3) := by decide +kernel
theorem dX11_through_18 : decode cX11_through 18 = .ok (.ldc2_w 132, 3) := by decide +kernel
theorem dX11_through_21 : decode cX11_through 21 = .ok (.lreturn, 1) := by decide +kernel
theorem dX11_through_22 : decode cX11_through 22 = .ok (.iload_n 3, 1) := by decide +kernel
theorem dX11_through_23 : decode cX11_through 23 = .ok (.iconst (-1), 1) := by decide +kernel
theorem dX11_through_24 : decode cX11_through 24 = .ok (.if_icmp .eq 18, 3) := by decide +kernel
theorem dX11_through_27 : decode cX11_through 27 = .ok (.aload_n 0, 1) := by decide +kernel
theorem dX11_through_28 : decode cX11_through 28 = .ok (.getfield 63, 3) := by decide +kernel
theorem dX11_through_31 : decode cX11_through 31 = .ok (.iload_n 3, 1) := by decide +kernel
theorem dX11_through_32 : decode cX11_through 32 = .ok (.invokevirtual 220, 3) := by decide +kernel
theorem dX11_through_35 : decode cX11_through 35 = .ok (.ifCond .ne 7, 3) := by decide +kernel
theorem dX11_through_38 : decode cX11_through 38 = .ok (.ldc2_w 132, 3) := by decide +kernel
theorem dX11_through_41 : decode cX11_through 41 = .ok (.lreturn, 1) := by decide +kernel
theorem dX11_through_42 : decode cX11_through 42 = .ok (.iload_n 3, 1) := by decide +kernel
theorem dX11_through_43 : decode cX11_through 43 = .ok (.iconst (-1), 1) := by decide +kernel
theorem dX11_through_44 : decode cX11_through 44 = .ok (.if_icmp .ne 7, 3) := by decide +kernel
theorem dX11_through_47 : decode cX11_through 47 = .ok (.iconst 0, 1) := by decide +kernel
theorem dX11_through_48 : decode cX11_through 48 = .ok (.goto 11, 3) := by decide +kernel
theorem dX11_through_51 : decode cX11_through 51 = .ok (.aload_n 0, 1) := by decide +kernel
theorem dX11_through_52 : decode cX11_through 52 = .ok (.getfield 63, 3) := by decide +kernel
theorem dX11_through_55 : decode cX11_through 55 = .ok (.iload_n 3, 1) := by decide +kernel
theorem dX11_through_56 : decode cX11_through 56 = .ok (.invokevirtual 244, 3) := by decide +kernel
theorem dX11_through_59 : decode cX11_through 59 = .ok (.istore 4, 2) := by decide +kernel
theorem dX11_through_61 : decode cX11_through 61 = .ok (.aload_n 0, 1) := by decide +kernel
theorem dX11_through_62 : decode cX11_through 62 = .ok (.getfield 12, 3) := by decide +kernel
theorem dX11_through_65 : decode cX11_through 65 = .ok (.getfield 74, 3) := by decide +kernel
theorem dX11_through_68 : decode cX11_through 68 = .ok (.getfield 98, 3) := by decide +kernel
theorem dX11_through_71 : decode cX11_through 71 = .ok (.iconst 2, 1) := by decide +kernel
theorem dX11_through_72 : decode cX11_through 72 = .ok (.if_icmp .ne 22, 3) := by decide +kernel
theorem dX11_through_75 : decode cX11_through 75 = .ok (.iload 4, 2) := by decide +kernel
theorem dX11_through_77 : decode cX11_through 77 = .ok (.iconst 2, 1) := by decide +kernel
theorem dX11_through_78 : decode cX11_through 78 = .ok (.irem, 1) := by decide +kernel
theorem dX11_through_79 : decode cX11_through 79 = .ok (.ifCond .ne 15, 3) := by decide +kernel
theorem dX11_through_82 : decode cX11_through 82 = .ok (.iload_n 1, 1) := by decide +kernel
theorem dX11_through_83 : decode cX11_through 83 = .ok (.iload_n 2, 1) := by decide +kernel
theorem dX11_through_84 : decode cX11_through 84 = .ok (.iadd, 1) := by decide +kernel
theorem dX11_through_85 : decode cX11_through 85 = .ok (.iload 4, 2) := by decide +kernel
theorem dX11_through_87 : decode cX11_through 87 = .ok (.iconst 2, 1) := by decide +kernel
theorem dX11_through_88 : decode cX11_through 88 = .ok (.idiv, 1) := by decide +kernel
theorem dX11_through_89 : decode cX11_through 89 = .ok (.iadd, 1) := by decide +kernel
theorem dX11_through_90 : decode cX11_through 90 = .ok (.iconst 5, 1) := by decide +kernel
theorem dX11_through_91 : decode cX11_through 91 = .ok (.if_icmp .eq 7, 3) := by decide +kernel
theorem dX11_through_94 : decode cX11_through 94 = .ok (.ldc2_w 227, 3) := by decide +kernel
theorem dX11_through_97 : decode cX11_through 97 = .ok (.lreturn, 1) := by decide +kernel
theorem dX11_through_98 : decode cX11_through 98 = .ok (.iconst 0, 1) := by decide +kernel
theorem dX11_through_99 : decode cX11_through 99 = .ok (.istore 5, 2) := by decide +kernel
theorem dX11_through_101 : decode cX11_through 101 = .ok (.iload 5, 2) := by decide +kernel
theorem dX11_through_103 : decode cX11_through 103 = .ok (.iload 4, 2) := by decide +kernel
theorem dX11_through_105 : decode cX11_through 105 = .ok (.if_icmp .ge 41, 3) := by decide +kernel
theorem dX11_through_108 : decode cX11_through 108 = .ok (.aload_n 0, 1) := by decide +kernel
theorem dX11_through_109 : decode cX11_through 109 = .ok (.getfield 63, 3) := by decide +kernel
theorem dX11_through_112 : decode cX11_through 112 = .ok (.iload_n 3, 1) := by decide +kernel
theorem dX11_through_113 : decode cX11_through 113 = .ok (.iload 5, 2) := by decide +kernel
theorem dX11_through_115 : decode cX11_through 115 = .ok (.invokevirtual 247, 3) := by decide +kernel
theorem dX11_through_118 : decode cX11_through 118 = .ok (.lstore 6, 2) := by decide +kernel
theorem dX11_through_120 : decode cX11_through 120 = .ok (.lload 6, 2) := by decide +kernel
theorem dX11_through_122 : decode cX11_through 122 = .ok (.lconst 0, 1) := by decide +kernel
theorem dX11_through_123 : decode cX11_through 123 = .ok (.lcmp, 1) := by decide +kernel
theorem dX11_through_124 : decode cX11_through 124 = .ok (.ifCond .lt 12, 3) := by decide +kernel
theorem dX11_through_127 : decode cX11_through 127 = .ok (.lload 6, 2) := by decide +kernel
theorem dX11_through_129 : decode cX11_through 129 = .ok (.ldc2_w 287, 3) := by decide +kernel
theorem dX11_through_132 : decode cX11_through 132 = .ok (.lcmp, 1) := by decide +kernel
theorem dX11_through_133 : decode cX11_through 133 = .ok (.ifCond .le 7, 3) := by decide +kernel
theorem dX11_through_136 : decode cX11_through 136 = .ok (.ldc2_w 227, 3) := by decide +kernel
theorem dX11_through_139 : decode cX11_through 139 = .ok (.lreturn, 1) := by decide +kernel
theorem dX11_through_140 : decode cX11_through 140 = .ok (.iinc 5 1, 3) := by decide +kernel
theorem dX11_through_143 : decode cX11_through 143 = .ok (.goto (-42), 3) := by decide +kernel
theorem dX11_through_146 : decode cX11_through 146 = .ok (.aload_n 0, 1) := by decide +kernel
theorem dX11_through_147 : decode cX11_through 147 = .ok (.getfield 28, 3) := by decide +kernel
theorem dX11_through_150 : decode cX11_through 150 = .ok (.aload_n 0, 1) := by decide +kernel
theorem dX11_through_151 : decode cX11_through 151 = .ok (.getfield 28, 3) := by decide +kernel
theorem dX11_through_154 : decode cX11_through 154 = .ok (.getfield 188, 3) := by decide +kernel
theorem dX11_through_157 : decode cX11_through 157 = .ok (.invokevirtual 240, 3) := by decide +kernel
theorem dX11_through_160 : decode cX11_through 160 = .ok (.aload_n 0, 1) := by decide +kernel
theorem dX11_through_161 : decode cX11_through 161 = .ok (.iload_n 1, 1) := by decide +kernel
theorem dX11_through_162 : decode cX11_through 162 = .ok (.lconst 1, 1) := by decide +kernel
theorem dX11_through_163 : decode cX11_through 163 = .ok (.lconst 0, 1) := by decide +kernel
theorem dX11_through_164 : decode cX11_through 164 = .ok (.invokevirtual 289, 3) := by decide +kernel
theorem dX11_through_167 : decode cX11_through 167 = .ok (.aload_n 0, 1) := by decide +kernel
theorem dX11_through_168 : decode cX11_through 168 = .ok (.iload_n 2, 1) := by decide +kernel
theorem dX11_through_169 : decode cX11_through 169 = .ok (.ldc2_w 270, 3) := by decide +kernel
theorem dX11_through_172 : decode cX11_through 172 = .ok (.ldc2_w 293, 3) := by decide +kernel
theorem dX11_through_175 : decode cX11_through 175 = .ok (.invokevirtual 289, 3) := by decide +kernel
theorem dX11_through_178 : decode cX11_through 178 = .ok (.iconst 0, 1) := by decide +kernel
theorem dX11_through_179 : decode cX11_through 179 = .ok (.istore 5, 2) := by decide +kernel
theorem dX11_through_181 : decode cX11_through 181 = .ok (.iload 5, 2) := by decide +kernel
theorem dX11_through_183 : decode cX11_through 183 = .ok (.iconst 1, 1) := by decide +kernel
theorem dX11_through_184 : decode cX11_through 184 = .ok (.iadd, 1) := by decide +kernel
theorem dX11_through_185 : decode cX11_through 185 = .ok (.iload 4, 2) := by decide +kernel
theorem dX11_through_187 : decode cX11_through 187 = .ok (.if_icmp .ge 52, 3) := by decide +kernel
theorem dX11_through_190 : decode cX11_through 190 = .ok (.aload_n 0, 1) := by decide +kernel
theorem dX11_through_191 : decode cX11_through 191 = .ok (.getfield 63, 3) := by decide +kernel
theorem dX11_through_194 : decode cX11_through 194 = .ok (.iload_n 3, 1) := by decide +kernel
theorem dX11_through_195 : decode cX11_through 195 = .ok (.iload 5, 2) := by decide +kernel
theorem dX11_through_197 : decode cX11_through 197 = .ok (.invokevirtual 247, 3) := by decide +kernel
theorem dX11_through_200 : decode cX11_through 200 = .ok (.lstore 6, 2) := by decide +kernel
theorem dX11_through_202 : decode cX11_through 202 = .ok (.aload_n 0, 1) := by decide +kernel
theorem dX11_through_203 : decode cX11_through 203 = .ok (.getfield 63, 3) := by decide +kernel
theorem dX11_through_206 : decode cX11_through 206 = .ok (.iload_n 3, 1) := by decide +kernel
theorem dX11_through_207 : decode cX11_through 207 = .ok (.iload 5, 2) := by decide +kernel
theorem dX11_through_209 : decode cX11_through 209 = .ok (.iconst 1, 1) := by decide +kernel
theorem dX11_through_210 : decode cX11_through 210 = .ok (.iadd, 1) := by decide +kernel
theorem dX11_through_211 : decode cX11_through 211 = .ok (.invokevirtual 247, 3) := by decide +kernel
theorem dX11_through_214 : decode cX11_through 214 = .ok (.lstore 8, 2) := by decide +kernel
theorem dX11_through_216 : decode cX11_through 216 = .ok (.aload_n 0, 1) := by decide +kernel
theorem dX11_through_217 : decode cX11_through 217 = .ok (.iconst 1, 1) := by decide +kernel
theorem dX11_through_218 : decode cX11_through 218 = .ok (.lload 8, 2) := by decide +kernel
theorem dX11_through_220 : decode cX11_through 220 = .ok (.ldc2_w 270, 3) := by decide +kernel
theorem dX11_through_223 : decode cX11_through 223 = .ok (.lload 6, 2) := by decide +kernel
theorem dX11_through_225 : decode cX11_through 225 = .ok (.lmul, 1) := by decide +kernel
theorem dX11_through_226 : decode cX11_through 226 = .ok (.ladd, 1) := by decide +kernel
theorem dX11_through_227 : decode cX11_through 227 = .ok (.lload 6, 2) := by decide +kernel
theorem dX11_through_229 : decode cX11_through 229 = .ok (.lneg, 1) := by decide +kernel
theorem dX11_through_230 : decode cX11_through 230 = .ok (.invokevirtual 289, 3) := by decide +kernel
theorem dX11_through_233 : decode cX11_through 233 = .ok (.iinc 5 2, 3) := by decide +kernel
theorem dX11_through_236 : decode cX11_through 236 = .ok (.goto (-55), 3) := by decide +kernel
theorem dX11_through_239 : decode cX11_through 239 = .ok (.aload_n 0, 1) := by decide +kernel
theorem dX11_through_240 : decode cX11_through 240 = .ok (.getfield 28, 3) := by decide +kernel
theorem dX11_through_243 : decode cX11_through 243 = .ok (.aload_n 0, 1) := by decide +kernel
theorem dX11_through_244 : decode cX11_through 244 = .ok (.getfield 28, 3) := by decide +kernel
theorem dX11_through_247 : decode cX11_through 247 = .ok (.getfield 188, 3) := by decide +kernel
theorem dX11_through_250 : decode cX11_through 250 = .ok (.invokevirtual 212, 3) := by decide +kernel
theorem dX11_through_253 : decode cX11_through 253 = .ok (.lreturn, 1) := by decide +kernel
set_option maxHeartbeats 4000000 in
set_option maxRecDepth 100000 in
theorem cn_X11_through {l : Launch} {cA : Nat → ClassId} {ad : Nat → Nat} {D : va_G} {E : Nat → Nat} {A : Nat → Prop} {x1 : Int32} {x2 : Int32} {x3 : Int32} {s0 sr : SS} {rr : Int64} (hf : f_X11_through x1 x2 x3 s0 = some (rr, sr)) : zCon Ox Nx cA ad D E l yX11_through cX11_through 10 (some .long) 4 A [.ref (ad 0), .int x1, .int x2, .int x3] s0 (some (.long rr)) sr := by
  refine zstart (own := RX11) hOx (by decide) rfl (Nat.le_of_ble_eq_true rfl) ?_
  intro p e s m args below meth c X hP ls hl
  have hx := X.1
  have hb := X.2.1
  have hl : lv_has ls 10 [(0, .ref (ad 0)), (1, .int x1), (2, .int x2), (3, .int x3)] := hl
  have hS : va_S A s.heap s.heap [] := va_S.rf
  have hc_101 : ∀ (n101 : Nat) (x1 : Int32) (x2 : Int32) (x3 : Int32) (x4 : Int32) (x5 : Int32) (s1 : SS) (H : Heap) (locs : List Loc) (ls : Array Slot), lv_has ls 10 [(0, .ref (ad 0)), (1, .int x1), (2, .int x2), (3, .int x3), (4, .int x4), (5, .int x5)] → va_P D ZCL (zw Ox Nx cA ad s1) H → va_S A s.heap H locs → f_X11_through_c101 n101 x1 x2 x3 x4 x5 s1 = some (rr, sr) → W p l e (zrm 4) s m args below meth c H locs 0 0 (MQ below (zQc Ox Nx cA ad D A (some (.long rr)) sr) args s 0 0 A) (F0 m 101 ls []) := by
    intro n101
    induction n101 with
    | zero =>
      intro x1 x2 x3 x4 x5 s1 H locs ls hl hP hS hf
      rw [f_X11_through_c101] at hf
      cases hf
    | succ n101 ih101 =>
      have hc_181 : ∀ (n181 : Nat) (x3 : Int32) (x4 : Int32) (x5 : Int32) (s1 : SS) (H : Heap) (locs : List Loc) (ls : Array Slot), lv_has ls 10 [(0, .ref (ad 0)), (3, .int x3), (4, .int x4), (5, .int x5)] → va_P D ZCL (zw Ox Nx cA ad s1) H → va_S A s.heap H locs → f_X11_through_c181 n181 x3 x4 x5 s1 = some (rr, sr) → W p l e (zrm 4) s m args below meth c H locs 0 0 (MQ below (zQc Ox Nx cA ad D A (some (.long rr)) sr) args s 0 0 A) (F0 m 181 ls []) := by
        intro n181
        induction n181 with
        | zero =>
          intro x3 x4 x5 s1 H locs ls hl hP hS hf
          rw [f_X11_through_c181] at hf
          cases hf
        | succ n181 ih181 =>
          intro x3 x4 x5 s1 H locs ls hl hP hS hf
          rw [f_X11_through_c181] at hf
          refine lv_iload hx hb dX11_through_181 (lv_at hl 3 rfl) ?_
          refine lv_iconst (v := 1) hx hb dX11_through_183 (by decide) ?_
          refine lv_iadd hx hb dX11_through_184 ?_
          refine lv_iload hx hb dX11_through_185 (lv_at hl 2 rfl) ?_
          refine zicmp_ge (tgt := 239) hx hb dX11_through_187 (by decide) hf (fun hf => ?_) (fun hf => ?_)
          · refine lv_aload_n hx hb dX11_through_239 rfl (lv_at hl 0 rfl) ?_
            refine gf_X11_28 X hP (k := 0) (q := 5) rfl dX11_through_240 rfl ?_
            refine lv_aload_n hx hb dX11_through_243 rfl (lv_at hl 0 rfl) ?_
            refine gf_X11_28 X hP (k := 0) (q := 5) rfl dX11_through_244 rfl ?_
            refine gf_X11_188 X hP (k := 5) (q := 21) rfl dX11_through_247 rfl ?_
            obtain ⟨r13, s14, h15, hf⟩ := zbd_some hf
            refine zcallV X hP hS hl.1 (k := 5) (As := [.ref (ad 21)]) (rest := []) (cn_X8_metOf h15) cw_X8_metOf zp_8 rfl (by decide) rfl ml_X11_212 (by decide) rfl rfl (Nat.le_of_ble_eq_true rfl) dX11_through_250 (fun H locs hP hS => ?_)
            exact zret_l X hP hS hf dX11_through_253
          · refine lv_aload_n hx hb dX11_through_190 rfl (lv_at hl 0 rfl) ?_
            refine gf_X11_63 X hP (k := 0) (q := 11) rfl dX11_through_191 rfl ?_
            refine lv_iload_n hx hb dX11_through_194 rfl (lv_at hl 1 rfl) ?_
            refine lv_iload hx hb dX11_through_195 (lv_at hl 3 rfl) ?_
            obtain ⟨r16, s17, h18, hf⟩ := zbd_some hf
            refine zcallV X hP hS hl.1 (k := 11) (As := [.int x3, .int x5]) (rest := []) (cn_X5_valueAt h18) cw_X5_valueAt zp_5 rfl (by decide) rfl ml_X11_247 (by decide) rfl rfl (Nat.le_of_ble_eq_true rfl) dX11_through_197 (fun H locs hP hS => ?_)
            refine lv_lstore (lv' := [(6, .long r16), (0, .ref (ad 0)), (3, .int x3), (4, .int x4), (5, .int x5)]) hx hb dX11_through_200 hl (by decide) rfl (fun ls hl => ?_)
            refine lv_aload_n hx hb dX11_through_202 rfl (lv_at hl 1 rfl) ?_
            refine gf_X11_63 X hP (k := 0) (q := 11) rfl dX11_through_203 rfl ?_
            refine lv_iload_n hx hb dX11_through_206 rfl (lv_at hl 2 rfl) ?_
            refine lv_iload hx hb dX11_through_207 (lv_at hl 4 rfl) ?_
            refine lv_iconst (v := 1) hx hb dX11_through_209 (by decide) ?_
            refine lv_iadd hx hb dX11_through_210 ?_
            obtain ⟨r19, s20, h21, hf⟩ := zbd_some hf
            refine zcallV X hP hS hl.1 (k := 11) (As := [.int x3, .int (x5 + (1 : Int32))]) (rest := []) (cn_X5_valueAt h21) cw_X5_valueAt zp_5 rfl (by decide) rfl ml_X11_247 (by decide) rfl rfl (Nat.le_of_ble_eq_true rfl) dX11_through_211 (fun H locs hP hS => ?_)
            refine lv_lstore (lv' := [(8, .long r19), (6, .long r16), (0, .ref (ad 0)), (3, .int x3), (4, .int x4), (5, .int x5)]) hx hb dX11_through_214 hl (by decide) rfl (fun ls hl => ?_)
            refine lv_aload_n hx hb dX11_through_216 rfl (lv_at hl 2 rfl) ?_
            refine lv_iconst (v := 1) hx hb dX11_through_217 (by decide) ?_
            refine lv_lload hx hb dX11_through_218 (lv_at hl 0 rfl) ?_
            refine zldc2 X co_X11_270 dX11_through_220 ?_
            refine lv_lload hx hb dX11_through_223 (lv_at hl 1 rfl) ?_
            refine lv_lmul hx hb dX11_through_225 ?_
            refine lv_ladd hx hb dX11_through_226 ?_
            refine lv_lload hx hb dX11_through_227 (lv_at hl 1 rfl) ?_
            refine lv_lneg hx hb dX11_through_229 ?_
            obtain ⟨r22, s23, h24, hf⟩ := zbd_some hf
            refine zcallV X hP hS hl.1 (k := 0) (As := [.int 1, .long (r19 + ((2 : Int64) * r16)), .long (-r16)]) (rest := []) (cn_X11_multiplyConditions h24) cw_X11_multiplyConditions zp_11 rfl (by decide) rfl ml_X11_289 (by decide) rfl rfl (Nat.le_of_ble_eq_true rfl) dX11_through_230 (fun H locs hP hS => ?_)
            refine lv_iinc (v := (x5 + 2)) (lv' := [(5, .int (x5 + 2)), (8, .long r19), (6, .long r16), (0, .ref (ad 0)), (3, .int x3), (4, .int x4)]) hx hb dX11_through_233 hl (k := 5) rfl rfl (by decide) rfl (fun ls hl => ?_)
            refine lv_goto (tgt := 181) hx hb dX11_through_236 (by decide) ?_
            exact ih181 x3 x4 (x5 + 2) s23 _ _ _ (lv_sub hl [3, 4, 5, 0] rfl) hP hS hf
      intro x1 x2 x3 x4 x5 s1 H locs ls hl hP hS hf
      rw [f_X11_through_c101] at hf
      refine lv_iload hx hb dX11_through_101 (lv_at hl 5 rfl) ?_
      refine lv_iload hx hb dX11_through_103 (lv_at hl 4 rfl) ?_
      refine zicmp_ge (tgt := 146) hx hb dX11_through_105 (by decide) hf (fun hf => ?_) (fun hf => ?_)
      · refine lv_aload_n hx hb dX11_through_146 rfl (lv_at hl 0 rfl) ?_
        refine gf_X11_28 X hP (k := 0) (q := 5) rfl dX11_through_147 rfl ?_
        refine lv_aload_n hx hb dX11_through_150 rfl (lv_at hl 0 rfl) ?_
        refine gf_X11_28 X hP (k := 0) (q := 5) rfl dX11_through_151 rfl ?_
        refine gf_X11_188 X hP (k := 5) (q := 21) rfl dX11_through_154 rfl ?_
        obtain ⟨r4, s5, h6, hf⟩ := zbd_some hf
        refine zcallV X hP hS hl.1 (k := 5) (As := [.ref (ad 21)]) (rest := []) (cn_X8_makeOne h6) cw_X8_makeOne zp_8 rfl (by decide) rfl ml_X11_240 (by decide) rfl rfl (Nat.le_of_ble_eq_true rfl) dX11_through_157 (fun H locs hP hS => ?_)
        refine lv_aload_n hx hb dX11_through_160 rfl (lv_at hl 0 rfl) ?_
        refine lv_iload_n hx hb dX11_through_161 rfl (lv_at hl 1 rfl) ?_
        refine lv_lconst (v := 1) hx hb dX11_through_162 (by decide) ?_
        refine lv_lconst (v := 0) hx hb dX11_through_163 (by decide) ?_
        obtain ⟨r7, s8, h9, hf⟩ := zbd_some hf
        refine zcallV X hP hS hl.1 (k := 0) (As := [.int x1, .long 1, .long 0]) (rest := []) (cn_X11_multiplyConditions h9) cw_X11_multiplyConditions zp_11 rfl (by decide) rfl ml_X11_289 (by decide) rfl rfl (Nat.le_of_ble_eq_true rfl) dX11_through_164 (fun H locs hP hS => ?_)
        refine lv_aload_n hx hb dX11_through_167 rfl (lv_at hl 0 rfl) ?_
        refine lv_iload_n hx hb dX11_through_168 rfl (lv_at hl 2 rfl) ?_
        refine zldc2 X co_X11_270 dX11_through_169 ?_
        refine zldc2 X co_X11_293 dX11_through_172 ?_
        obtain ⟨r10, s11, h12, hf⟩ := zbd_some hf
        refine zcallV X hP hS hl.1 (k := 0) (As := [.int x2, .long 2, .long (-1)]) (rest := []) (cn_X11_multiplyConditions h12) cw_X11_multiplyConditions zp_11 rfl (by decide) rfl ml_X11_289 (by decide) rfl rfl (Nat.le_of_ble_eq_true rfl) dX11_through_175 (fun H locs hP hS => ?_)
        refine lv_iconst (v := 0) hx hb dX11_through_178 (by decide) ?_
        refine lv_istore (lv' := [(5, .int 0), (0, .ref (ad 0)), (1, .int x1), (2, .int x2), (3, .int x3), (4, .int x4)]) hx hb dX11_through_179 hl (by decide) rfl (fun ls hl => ?_)
        exact hc_181 ZF x3 x4 0 s11 _ _ _ (lv_sub hl [1, 4, 5, 0] rfl) hP hS hf
      · refine lv_aload_n hx hb dX11_through_108 rfl (lv_at hl 0 rfl) ?_
        refine gf_X11_63 X hP (k := 0) (q := 11) rfl dX11_through_109 rfl ?_
        refine lv_iload_n hx hb dX11_through_112 rfl (lv_at hl 3 rfl) ?_
        refine lv_iload hx hb dX11_through_113 (lv_at hl 5 rfl) ?_
        obtain ⟨r25, s26, h27, hf⟩ := zbd_some hf
        refine zcallV X hP hS hl.1 (k := 11) (As := [.int x3, .int x5]) (rest := []) (cn_X5_valueAt h27) cw_X5_valueAt zp_5 rfl (by decide) rfl ml_X11_247 (by decide) rfl rfl (Nat.le_of_ble_eq_true rfl) dX11_through_115 (fun H locs hP hS => ?_)
        refine lv_lstore (lv' := [(6, .long r25), (0, .ref (ad 0)), (1, .int x1), (2, .int x2), (3, .int x3), (4, .int x4), (5, .int x5)]) hx hb dX11_through_118 hl (by decide) rfl (fun ls hl => ?_)
        refine lv_lload hx hb dX11_through_120 (lv_at hl 0 rfl) ?_
        refine lv_lconst (v := 0) hx hb dX11_through_122 (by decide) ?_
        refine W.lcmp hx hb dX11_through_123 ?_
        refine zif_lt (tgt := 136) hx hb dX11_through_124 (by decide) hf (fun hf => ?_) (fun hf => ?_)
        · refine zldc2 X co_X11_227 dX11_through_136 ?_
          exact zret_l X hP hS hf dX11_through_139
        · refine lv_lload hx hb dX11_through_127 (lv_at hl 0 rfl) ?_
          refine zldc2 X co_X11_287 dX11_through_129 ?_
          refine W.lcmp hx hb dX11_through_132 ?_
          refine zif_le (tgt := 140) hx hb dX11_through_133 (by decide) hf (fun hf => ?_) (fun hf => ?_)
          · refine lv_iinc (v := (x5 + 1)) (lv' := [(5, .int (x5 + 1)), (6, .long r25), (0, .ref (ad 0)), (1, .int x1), (2, .int x2), (3, .int x3), (4, .int x4)]) hx hb dX11_through_140 hl (k := 6) rfl rfl (by decide) rfl (fun ls hl => ?_)
            refine lv_goto (tgt := 101) hx hb dX11_through_143 (by decide) ?_
            exact ih101 x1 x2 x3 x4 (x5 + 1) s26 _ _ _ (lv_sub hl [2, 3, 4, 5, 6, 0] rfl) hP hS hf
          · refine zldc2 X co_X11_227 dX11_through_136 ?_
            exact zret_l X hP hS hf dX11_through_139
  have hc_59 : ∀ (x1 : Int32) (x2 : Int32) (x3 : Int32) (t0 : Int32) (s1 : SS) (H : Heap) (locs : List Loc) (ls : Array Slot), lv_has ls 10 [(0, .ref (ad 0)), (1, .int x1), (2, .int x2), (3, .int x3)] → va_P D ZCL (zw Ox Nx cA ad s1) H → va_S A s.heap H locs → f_X11_through_c59 x1 x2 x3 t0 s1 = some (rr, sr) → W p l e (zrm 4) s m args below meth c H locs 0 0 (MQ below (zQc Ox Nx cA ad D A (some (.long rr)) sr) args s 0 0 A) (F0 m 59 ls [.int t0]) := by
    intro x1 x2 x3 t0 s1 H locs ls hl hP hS hf
    rw [f_X11_through_c59] at hf
    refine lv_istore (lv' := [(4, .int t0), (0, .ref (ad 0)), (1, .int x1), (2, .int x2), (3, .int x3)]) hx hb dX11_through_59 hl (by decide) rfl (fun ls hl => ?_)
    refine lv_aload_n hx hb dX11_through_61 rfl (lv_at hl 1 rfl) ?_
    refine gf_X11_12 X hP (k := 0) (q := 1) rfl dX11_through_62 rfl ?_
    refine gf_X11_74 X hP (k := 1) (q := 3) rfl dX11_through_65 rfl ?_
    refine gf_X11_98 X hP (k := 3) rfl dX11_through_68 ?_
    refine lv_iconst (v := 2) hx hb dX11_through_71 (by decide) ?_
    refine zicmp_ne (tgt := 94) hx hb dX11_through_72 (by decide) hf (fun hf => ?_) (fun hf => ?_)
    · refine zldc2 X co_X11_227 dX11_through_94 ?_
      exact zret_l X hP hS hf dX11_through_97
    · refine lv_iload hx hb dX11_through_75 (lv_at hl 0 rfl) ?_
      refine lv_iconst (v := 2) hx hb dX11_through_77 (by decide) ?_
      refine lv_irem hx hb dX11_through_78 (by decide) ?_
      refine zif_ne (tgt := 94) hx hb dX11_through_79 (by decide) hf (fun hf => ?_) (fun hf => ?_)
      · refine zldc2 X co_X11_227 dX11_through_94 ?_
        exact zret_l X hP hS hf dX11_through_97
      · refine lv_iload_n hx hb dX11_through_82 rfl (lv_at hl 2 rfl) ?_
        refine lv_iload_n hx hb dX11_through_83 rfl (lv_at hl 3 rfl) ?_
        refine lv_iadd hx hb dX11_through_84 ?_
        refine lv_iload hx hb dX11_through_85 (lv_at hl 0 rfl) ?_
        refine lv_iconst (v := 2) hx hb dX11_through_87 (by decide) ?_
        refine lv_idiv hx hb dX11_through_88 (by decide) ?_
        refine lv_iadd hx hb dX11_through_89 ?_
        refine lv_iconst (v := 5) hx hb dX11_through_90 (by decide) ?_
        refine zicmp_eq (tgt := 98) hx hb dX11_through_91 (by decide) hf (fun hf => ?_) (fun hf => ?_)
        · refine lv_iconst (v := 0) hx hb dX11_through_98 (by decide) ?_
          refine lv_istore (lv' := [(5, .int 0), (4, .int t0), (0, .ref (ad 0)), (1, .int x1), (2, .int x2), (3, .int x3)]) hx hb dX11_through_99 hl (by decide) rfl (fun ls hl => ?_)
          exact hc_101 ZF x1 x2 x3 t0 0 s1 _ _ _ (lv_sub hl [2, 3, 4, 5, 1, 0] rfl) hP hS hf
        · refine zldc2 X co_X11_227 dX11_through_94 ?_
          exact zret_l X hP hS hf dX11_through_97
  have hc_42 : ∀ (x1 : Int32) (x2 : Int32) (x3 : Int32) (s1 : SS) (H : Heap) (locs : List Loc) (ls : Array Slot), lv_has ls 10 [(0, .ref (ad 0)), (1, .int x1), (2, .int x2), (3, .int x3)] → va_P D ZCL (zw Ox Nx cA ad s1) H → va_S A s.heap H locs → f_X11_through_c42 x1 x2 x3 s1 = some (rr, sr) → W p l e (zrm 4) s m args below meth c H locs 0 0 (MQ below (zQc Ox Nx cA ad D A (some (.long rr)) sr) args s 0 0 A) (F0 m 42 ls []) := by
    intro x1 x2 x3 s1 H locs ls hl hP hS hf
    rw [f_X11_through_c42] at hf
    refine lv_iload_n hx hb dX11_through_42 rfl (lv_at hl 3 rfl) ?_
    refine lv_iconst (v := (-1)) hx hb dX11_through_43 (by decide) ?_
    refine zicmp_ne (tgt := 51) hx hb dX11_through_44 (by decide) hf (fun hf => ?_) (fun hf => ?_)
    · refine lv_aload_n hx hb dX11_through_51 rfl (lv_at hl 0 rfl) ?_
      refine gf_X11_63 X hP (k := 0) (q := 11) rfl dX11_through_52 rfl ?_
      refine lv_iload_n hx hb dX11_through_55 rfl (lv_at hl 3 rfl) ?_
      obtain ⟨r1, s2, h3, hf⟩ := zbd_some hf
      refine zcallV X hP hS hl.1 (k := 11) (As := [.int x3]) (rest := []) (cn_X5_sizeOf h3) cw_X5_sizeOf zp_5 rfl (by decide) rfl ml_X11_244 (by decide) rfl rfl (Nat.le_of_ble_eq_true rfl) dX11_through_56 (fun H locs hP hS => ?_)
      exact hc_59 x1 x2 x3 r1 s2 _ _ _ (lv_sub hl [0, 1, 2, 3] rfl) hP hS hf
    · refine lv_iconst (v := 0) hx hb dX11_through_47 (by decide) ?_
      refine lv_goto (tgt := 59) hx hb dX11_through_48 (by decide) ?_
      exact hc_59 x1 x2 x3 0 s1 _ _ _ (lv_sub hl [0, 1, 2, 3] rfl) hP hS hf
  rw [f_X11_through] at hf
  refine lv_iload_n hx hb dX11_through_0 rfl (lv_at hl 1 rfl) ?_
  refine zif_lt (tgt := 18) hx hb dX11_through_1 (by decide) hf (fun hf => ?_) (fun hf => ?_)
  · refine zldc2 X co_X11_132 dX11_through_18 ?_
    exact zret_l X hP hS hf dX11_through_21
  · refine lv_iload_n hx hb dX11_through_4 rfl (lv_at hl 1 rfl) ?_
    refine lv_iconst (v := 5) hx hb dX11_through_5 (by decide) ?_
    refine zicmp_gt (tgt := 18) hx hb dX11_through_6 (by decide) hf (fun hf => ?_) (fun hf => ?_)
    · refine zldc2 X co_X11_132 dX11_through_18 ?_
      exact zret_l X hP hS hf dX11_through_21
    · refine lv_iload_n hx hb dX11_through_9 rfl (lv_at hl 2 rfl) ?_
      refine zif_lt (tgt := 18) hx hb dX11_through_10 (by decide) hf (fun hf => ?_) (fun hf => ?_)
      · refine zldc2 X co_X11_132 dX11_through_18 ?_
        exact zret_l X hP hS hf dX11_through_21
      · refine lv_iload_n hx hb dX11_through_13 rfl (lv_at hl 2 rfl) ?_
        refine lv_iconst (v := 5) hx hb dX11_through_14 (by decide) ?_
        refine zicmp_le (tgt := 22) hx hb dX11_through_15 (by decide) hf (fun hf => ?_) (fun hf => ?_)
        · refine lv_iload_n hx hb dX11_through_22 rfl (lv_at hl 3 rfl) ?_
          refine lv_iconst (v := (-1)) hx hb dX11_through_23 (by decide) ?_
          refine zicmp_eq (tgt := 42) hx hb dX11_through_24 (by decide) hf (fun hf => ?_) (fun hf => ?_)
          · exact hc_42 x1 x2 x3 s0 _ _ _ (lv_sub hl [0, 1, 2, 3] rfl) hP hS hf
          · refine lv_aload_n hx hb dX11_through_27 rfl (lv_at hl 0 rfl) ?_
            refine gf_X11_63 X hP (k := 0) (q := 11) rfl dX11_through_28 rfl ?_
            refine lv_iload_n hx hb dX11_through_31 rfl (lv_at hl 3 rfl) ?_
            obtain ⟨r28, s29, h30, hf⟩ := zbd_some hf
            refine zcallV X hP hS hl.1 (k := 11) (As := [.int x3]) (rest := []) (cn_X5_isThere h30) cw_X5_isThere zp_5 rfl (by decide) rfl ml_X11_220 (by decide) rfl rfl (Nat.le_of_ble_eq_true rfl) dX11_through_32 (fun H locs hP hS => ?_)
            refine zif_ne (tgt := 42) hx hb dX11_through_35 (by decide) hf (fun hf => ?_) (fun hf => ?_)
            · exact hc_42 x1 x2 x3 s29 _ _ _ (lv_sub hl [0, 1, 2, 3] rfl) hP hS hf
            · refine zldc2 X co_X11_132 dX11_through_38 ?_
              exact zret_l X hP hS hf dX11_through_41
        · refine zldc2 X co_X11_132 dX11_through_18 ?_
          exact zret_l X hP hS hf dX11_through_21
theorem dX11_numberOfCode_0 : decode cX11_numberOfCode 0 = .ok (.aload_n 0, 1) := by decide +kernel
theorem dX11_numberOfCode_1 : decode cX11_numberOfCode 1 = .ok (.getfield 28, 3) := by decide +kernel
theorem dX11_numberOfCode_4 : decode cX11_numberOfCode 4 = .ok (.getfield 84, 3) := by decide +kernel
theorem dX11_numberOfCode_7 : decode cX11_numberOfCode 7 = .ok (.iload_n 2, 1) := by decide +kernel
theorem dX11_numberOfCode_8 : decode cX11_numberOfCode 8 = .ok (.invokevirtual 128, 3) := by decide +kernel
theorem dX11_numberOfCode_11 : decode cX11_numberOfCode 11 = .ok (.istore_n 3, 1) := by decide +kernel
theorem dX11_numberOfCode_12 : decode cX11_numberOfCode 12 = .ok (.iload_n 3, 1) := by decide +kernel
theorem dX11_numberOfCode_13 : decode cX11_numberOfCode 13 = .ok (.ifCond .ge 7, 3) := by decide +kernel
theorem dX11_numberOfCode_16 : decode cX11_numberOfCode 16 = .ok (.lconst 0, 1) := by decide +kernel
theorem dX11_numberOfCode_17 : decode cX11_numberOfCode 17 = .ok (.goto 15, 3) := by decide +kernel
theorem dX11_numberOfCode_20 : decode cX11_numberOfCode 20 = .ok (.aload_n 1, 1) := by decide +kernel
theorem dX11_numberOfCode_21 : decode cX11_numberOfCode 21 = .ok (.aload_n 0, 1) := by decide +kernel
theorem dX11_numberOfCode_22 : decode cX11_numberOfCode 22 = .ok (.getfield 28, 3) := by decide +kernel
theorem dX11_numberOfCode_25 : decode cX11_numberOfCode 25 = .ok (.getfield 84, 3) := by decide +kernel
theorem dX11_numberOfCode_28 : decode cX11_numberOfCode 28 = .ok (.iload_n 3, 1) := by decide +kernel
theorem dX11_numberOfCode_29 : decode cX11_numberOfCode 29 = .ok (.invokevirtual 184, 3) := by decide +kernel
theorem dX11_numberOfCode_32 : decode cX11_numberOfCode 32 = .ok (.lreturn, 1) := by decide +kernel
set_option maxHeartbeats 4000000 in
set_option maxRecDepth 100000 in
theorem cn_X11_numberOfCode {l : Launch} {cA : Nat → ClassId} {ad : Nat → Nat} {D : va_G} {E : Nat → Nat} {A : Nat → Prop} {k1 : Nat} {x2 : Int32} {s0 sr : SS} {rr : Int64} (hf : f_X11_numberOfCode k1 x2 s0 = some (rr, sr)) : zCon Ox Nx cA ad D E l yX11_numberOfCode cX11_numberOfCode 4 (some .long) 1 A [.ref (ad 0), .ref (ad k1), .int x2] s0 (some (.long rr)) sr := by
  refine zstart (own := RX11) hOx (by decide) rfl (Nat.le_of_ble_eq_true rfl) ?_
  intro p e s m args below meth c X hP ls hl
  have hx := X.1
  have hb := X.2.1
  have hl : lv_has ls 4 [(0, .ref (ad 0)), (1, .ref (ad k1)), (2, .int x2)] := hl
  have hS : va_S A s.heap s.heap [] := va_S.rf
  rw [f_X11_numberOfCode] at hf
  obtain ⟨gp1, hf⟩ := zgd hf
  refine lv_aload_n hx hb dX11_numberOfCode_0 rfl (lv_at hl 0 rfl) ?_
  refine gf_X11_28 X hP (k := 0) (q := 5) rfl dX11_numberOfCode_1 rfl ?_
  refine gf_X11_84 X hP (k := 5) (q := 6) rfl dX11_numberOfCode_4 rfl ?_
  refine lv_iload_n hx hb dX11_numberOfCode_7 rfl (lv_at hl 2 rfl) ?_
  obtain ⟨r1, s2, h3, hf⟩ := zbd_some hf
  refine zcallV X hP hS hl.1 (k := 6) (As := [.int x2]) (rest := []) (cn_X10_find h3) cw_X10_find zp_10 rfl (by decide) rfl ml_X11_128 (by decide) rfl rfl (Nat.le_of_ble_eq_true rfl) dX11_numberOfCode_8 (fun H locs hP hS => ?_)
  refine lv_istore_n (lv' := [(3, .int r1), (0, .ref (ad 0)), (1, .ref (ad k1)), (2, .int x2)]) hx hb dX11_numberOfCode_11 rfl hl (by decide) rfl (fun ls hl => ?_)
  refine lv_iload_n hx hb dX11_numberOfCode_12 rfl (lv_at hl 0 rfl) ?_
  refine zif_ge (tgt := 20) hx hb dX11_numberOfCode_13 (by decide) hf (fun hf => ?_) (fun hf => ?_)
  · refine lv_aload_n hx hb dX11_numberOfCode_20 rfl (lv_at hl 2 rfl) ?_
    refine lv_aload_n hx hb dX11_numberOfCode_21 rfl (lv_at hl 1 rfl) ?_
    refine gf_X11_28 X hP (k := 0) (q := 5) rfl dX11_numberOfCode_22 rfl ?_
    refine gf_X11_84 X hP (k := 5) (q := 6) rfl dX11_numberOfCode_25 rfl ?_
    refine lv_iload_n hx hb dX11_numberOfCode_28 rfl (lv_at hl 0 rfl) ?_
    obtain ⟨r4, s5, h6, hf⟩ := zbd_some hf
    refine zcallV X hP hS hl.1 (k := k1) (As := [.ref (ad 6), .int r1]) (rest := []) (cn_X4_numberAt h6) cw_X4_numberAt zp_4 gp1 (by decide) rfl ml_X11_184 (by decide) rfl rfl (Nat.le_of_ble_eq_true rfl) dX11_numberOfCode_29 (fun H locs hP hS => ?_)
    exact zret_l X hP hS hf dX11_numberOfCode_32
  · refine lv_lconst (v := 0) hx hb dX11_numberOfCode_16 (by decide) ?_
    refine lv_goto (tgt := 32) hx hb dX11_numberOfCode_17 (by decide) ?_
    exact zret_l X hP hS hf dX11_numberOfCode_32
theorem dX11_countFits_0 : decode cX11_countFits 0 = .ok (.iconst 0, 1) := by decide +kernel
theorem dX11_countFits_1 : decode cX11_countFits 1 = .ok (.istore 7, 2) := by decide +kernel
theorem dX11_countFits_3 : decode cX11_countFits 3 = .ok (.bipush (-2), 2) := by decide +kernel
theorem dX11_countFits_5 : decode cX11_countFits 5 = .ok (.istore 8, 2) := by decide +kernel
theorem dX11_countFits_7 : decode cX11_countFits 7 = .ok (.iconst 1, 1) := by decide +kernel
theorem dX11_countFits_8 : decode cX11_countFits 8 = .ok (.istore 9, 2) := by decide +kernel
theorem dX11_countFits_10 : decode cX11_countFits 10 = .ok (.iload 9, 2) := by decide +kernel
theorem dX11_countFits_12 : decode cX11_countFits 12 = .ok (.bipush 9, 2) := by decide +kernel
theorem dX11_countFits_14 : decode cX11_countFits 14 = .ok (.if_icmp .gt 71, 3) := by decide +kernel
theorem dX11_countFits_17 : decode cX11_countFits 17 = .ok (.iconst 0, 1) := by decide +kernel
theorem dX11_countFits_18 : decode cX11_countFits 18 = .ok (.istore 10, 2) := by decide +kernel
theorem dX11_countFits_20 : decode cX11_countFits 20 = .ok (.iload 10, 2) := by decide +kernel
theorem dX11_countFits_22 : decode cX11_countFits 22 = .ok (.bipush 9, 2) := by decide +kernel
theorem dX11_countFits_24 : decode cX11_countFits 24 = .ok (.if_icmp .gt 55, 3) := by decide +kernel
theorem dX11_countFits_27 : decode cX11_countFits 27 = .ok (.lload_n 0, 1) := by decide +kernel
theorem dX11_countFits_28 : decode cX11_countFits 28 = .ok (.iload 9, 2) := by decide +kernel
theorem dX11_countFits_30 : decode cX11_countFits 30 = .ok (.invokestatic 309, 3) := by decide +kernel
theorem dX11_countFits_33 : decode cX11_countFits 33 = .ok (.lmul, 1) := by decide +kernel
theorem dX11_countFits_34 : decode cX11_countFits 34 = .ok (.lload_n 2, 1) := by decide +kernel
theorem dX11_countFits_35 : decode cX11_countFits 35 = .ok (.iload 9, 2) := by decide +kernel
theorem dX11_countFits_37 : decode cX11_countFits 37 = .ok (.iload 10, 2) := by decide +kernel
theorem dX11_countFits_39 : decode cX11_countFits 39 = .ok (.invokestatic 313, 3) := by decide +kernel
theorem dX11_countFits_42 : decode cX11_countFits 42 = .ok (.lmul, 1) := by decide +kernel
theorem dX11_countFits_43 : decode cX11_countFits 43 = .ok (.ladd, 1) := by decide +kernel
theorem dX11_countFits_44 : decode cX11_countFits 44 = .ok (.lload 4, 2) := by decide +kernel
theorem dX11_countFits_46 : decode cX11_countFits 46 = .ok (.lcmp, 1) := by decide +kernel
theorem dX11_countFits_47 : decode cX11_countFits 47 = .ok (.ifCond .ne 26, 3) := by decide +kernel
theorem dX11_countFits_50 : decode cX11_countFits 50 = .ok (.iload 7, 2) := by decide +kernel
theorem dX11_countFits_52 : decode cX11_countFits 52 = .ok (.ifCond .ne 14, 3) := by decide +kernel
theorem dX11_countFits_55 : decode cX11_countFits 55 = .ok (.bipush 10, 2) := by decide +kernel
theorem dX11_countFits_57 : decode cX11_countFits 57 = .ok (.iload 9, 2) := by decide +kernel
theorem dX11_countFits_59 : decode cX11_countFits 59 = .ok (.imul, 1) := by decide +kernel
theorem dX11_countFits_60 : decode cX11_countFits 60 = .ok (.iload 10, 2) := by decide +kernel
theorem dX11_countFits_62 : decode cX11_countFits 62 = .ok (.iadd, 1) := by decide +kernel
theorem dX11_countFits_63 : decode cX11_countFits 63 = .ok (.goto 5, 3) := by decide +kernel
theorem dX11_countFits_66 : decode cX11_countFits 66 = .ok (.iload 8, 2) := by decide +kernel
theorem dX11_countFits_68 : decode cX11_countFits 68 = .ok (.istore 8, 2) := by decide +kernel
theorem dX11_countFits_70 : decode cX11_countFits 70 = .ok (.iinc 7 1, 3) := by decide +kernel
theorem dX11_countFits_73 : decode cX11_countFits 73 = .ok (.iinc 10 1, 3) := by decide +kernel
theorem dX11_countFits_76 : decode cX11_countFits 76 = .ok (.goto (-56), 3) := by decide +kernel
theorem dX11_countFits_79 : decode cX11_countFits 79 = .ok (.iinc 9 1, 3) := by decide +kernel
theorem dX11_countFits_82 : decode cX11_countFits 82 = .ok (.goto (-72), 3) := by decide +kernel
theorem dX11_countFits_85 : decode cX11_countFits 85 = .ok (.iload 6, 2) := by decide +kernel
theorem dX11_countFits_87 : decode cX11_countFits 87 = .ok (.ifCond .ne 8, 3) := by decide +kernel
theorem dX11_countFits_90 : decode cX11_countFits 90 = .ok (.iload 7, 2) := by decide +kernel
theorem dX11_countFits_92 : decode cX11_countFits 92 = .ok (.goto 5, 3) := by decide +kernel
theorem dX11_countFits_95 : decode cX11_countFits 95 = .ok (.iload 8, 2) := by decide +kernel
theorem dX11_countFits_97 : decode cX11_countFits 97 = .ok (.ireturn, 1) := by decide +kernel
set_option maxHeartbeats 4000000 in
set_option maxRecDepth 100000 in
theorem cn_X11_countFits {l : Launch} {cA : Nat → ClassId} {ad : Nat → Nat} {D : va_G} {E : Nat → Nat} {A : Nat → Prop} {x0 : Int64} {x2 : Int64} {x4 : Int64} {x6 : Int32} {s0 sr : SS} {rr : Int32} (hf : f_X11_countFits x0 x2 x4 x6 s0 = some (rr, sr)) : zCon Ox Nx cA ad D E l yX11_countFits cX11_countFits 11 (some .int) 1 A [.long x0, .long x2, .long x4, .int x6] s0 (some (.int rr)) sr := by
  refine zstart (own := RX11) hOx (by decide) rfl (Nat.le_of_ble_eq_true rfl) ?_
  intro p e s m args below meth c X hP ls hl
  have hx := X.1
  have hb := X.2.1
  have hl : lv_has ls 11 [(0, .long x0), (2, .long x2), (4, .long x4), (6, .int x6)] := hl
  have hS : va_S A s.heap s.heap [] := va_S.rf
  have hc_10 : ∀ (n10 : Nat) (x0 : Int64) (x2 : Int64) (x4 : Int64) (x6 : Int32) (x7 : Int32) (x8 : Int32) (x9 : Int32) (s1 : SS) (H : Heap) (locs : List Loc) (ls : Array Slot), lv_has ls 11 [(0, .long x0), (2, .long x2), (4, .long x4), (6, .int x6), (7, .int x7), (8, .int x8), (9, .int x9)] → va_P D ZCL (zw Ox Nx cA ad s1) H → va_S A s.heap H locs → f_X11_countFits_c10 n10 x0 x2 x4 x6 x7 x8 x9 s1 = some (rr, sr) → W p l e (zrm 1) s m args below meth c H locs 0 0 (MQ below (zQc Ox Nx cA ad D A (some (.int rr)) sr) args s 0 0 A) (F0 m 10 ls []) := by
    intro n10
    induction n10 with
    | zero =>
      intro x0 x2 x4 x6 x7 x8 x9 s1 H locs ls hl hP hS hf
      rw [f_X11_countFits_c10] at hf
      cases hf
    | succ n10 ih10 =>
      have hc_20 : ∀ (n20 : Nat) (x0 : Int64) (x2 : Int64) (x4 : Int64) (x6 : Int32) (x7 : Int32) (x8 : Int32) (x9 : Int32) (x10 : Int32) (s1 : SS) (H : Heap) (locs : List Loc) (ls : Array Slot), lv_has ls 11 [(0, .long x0), (2, .long x2), (4, .long x4), (6, .int x6), (7, .int x7), (8, .int x8), (9, .int x9), (10, .int x10)] → va_P D ZCL (zw Ox Nx cA ad s1) H → va_S A s.heap H locs → f_X11_countFits_c20 (f_X11_countFits_c10 n10) n20 x0 x2 x4 x6 x7 x8 x9 x10 s1 = some (rr, sr) → W p l e (zrm 1) s m args below meth c H locs 0 0 (MQ below (zQc Ox Nx cA ad D A (some (.int rr)) sr) args s 0 0 A) (F0 m 20 ls []) := by
        intro n20
        induction n20 with
        | zero =>
          intro x0 x2 x4 x6 x7 x8 x9 x10 s1 H locs ls hl hP hS hf
          rw [f_X11_countFits_c20] at hf
          cases hf
        | succ n20 ih20 =>
          have hc_73 : ∀ (x0 : Int64) (x2 : Int64) (x4 : Int64) (x6 : Int32) (x7 : Int32) (x8 : Int32) (x9 : Int32) (x10 : Int32) (s1 : SS) (H : Heap) (locs : List Loc) (ls : Array Slot), lv_has ls 11 [(0, .long x0), (2, .long x2), (4, .long x4), (6, .int x6), (7, .int x7), (8, .int x8), (9, .int x9), (10, .int x10)] → va_P D ZCL (zw Ox Nx cA ad s1) H → va_S A s.heap H locs → f_X11_countFits_c73 (f_X11_countFits_c20 (f_X11_countFits_c10 n10) n20) (f_X11_countFits_c10 n10) x0 x2 x4 x6 x7 x8 x9 x10 s1 = some (rr, sr) → W p l e (zrm 1) s m args below meth c H locs 0 0 (MQ below (zQc Ox Nx cA ad D A (some (.int rr)) sr) args s 0 0 A) (F0 m 73 ls []) := by
            intro x0 x2 x4 x6 x7 x8 x9 x10 s1 H locs ls hl hP hS hf
            rw [f_X11_countFits_c73] at hf
            refine lv_iinc (v := (x10 + 1)) (lv' := [(10, .int (x10 + 1)), (0, .long x0), (2, .long x2), (4, .long x4), (6, .int x6), (7, .int x7), (8, .int x8), (9, .int x9)]) hx hb dX11_countFits_73 hl (k := 7) rfl rfl (by decide) rfl (fun ls hl => ?_)
            refine lv_goto (tgt := 20) hx hb dX11_countFits_76 (by decide) ?_
            exact ih20 x0 x2 x4 x6 x7 x8 x9 (x10 + 1) s1 _ _ _ (lv_sub hl [1, 2, 3, 4, 5, 6, 7, 0] rfl) hP hS hf
          have hc_68 : ∀ (x0 : Int64) (x2 : Int64) (x4 : Int64) (x6 : Int32) (x7 : Int32) (x9 : Int32) (x10 : Int32) (t0 : Int32) (s1 : SS) (H : Heap) (locs : List Loc) (ls : Array Slot), lv_has ls 11 [(0, .long x0), (2, .long x2), (4, .long x4), (6, .int x6), (7, .int x7), (9, .int x9), (10, .int x10)] → va_P D ZCL (zw Ox Nx cA ad s1) H → va_S A s.heap H locs → f_X11_countFits_c68 (f_X11_countFits_c20 (f_X11_countFits_c10 n10) n20) (f_X11_countFits_c10 n10) x0 x2 x4 x6 x7 x9 x10 t0 s1 = some (rr, sr) → W p l e (zrm 1) s m args below meth c H locs 0 0 (MQ below (zQc Ox Nx cA ad D A (some (.int rr)) sr) args s 0 0 A) (F0 m 68 ls [.int t0]) := by
            intro x0 x2 x4 x6 x7 x9 x10 t0 s1 H locs ls hl hP hS hf
            rw [f_X11_countFits_c68] at hf
            refine lv_istore (lv' := [(8, .int t0), (0, .long x0), (2, .long x2), (4, .long x4), (6, .int x6), (7, .int x7), (9, .int x9), (10, .int x10)]) hx hb dX11_countFits_68 hl (by decide) rfl (fun ls hl => ?_)
            refine lv_iinc (v := (x7 + 1)) (lv' := [(7, .int (x7 + 1)), (8, .int t0), (0, .long x0), (2, .long x2), (4, .long x4), (6, .int x6), (9, .int x9), (10, .int x10)]) hx hb dX11_countFits_70 hl (k := 5) rfl rfl (by decide) rfl (fun ls hl => ?_)
            exact hc_73 x0 x2 x4 x6 (x7 + 1) t0 x9 x10 s1 _ _ _ (lv_sub hl [2, 3, 4, 5, 0, 1, 6, 7] rfl) hP hS hf
          intro x0 x2 x4 x6 x7 x8 x9 x10 s1 H locs ls hl hP hS hf
          rw [f_X11_countFits_c20] at hf
          refine lv_iload hx hb dX11_countFits_20 (lv_at hl 7 rfl) ?_
          refine lv_bipush (v := 9) hx hb dX11_countFits_22 (by decide) ?_
          refine zicmp_gt (tgt := 79) hx hb dX11_countFits_24 (by decide) hf (fun hf => ?_) (fun hf => ?_)
          · refine lv_iinc (v := (x9 + 1)) (lv' := [(9, .int (x9 + 1)), (0, .long x0), (2, .long x2), (4, .long x4), (6, .int x6), (7, .int x7), (8, .int x8), (10, .int x10)]) hx hb dX11_countFits_79 hl (k := 6) rfl rfl (by decide) rfl (fun ls hl => ?_)
            refine lv_goto (tgt := 10) hx hb dX11_countFits_82 (by decide) ?_
            exact ih10 x0 x2 x4 x6 x7 x8 (x9 + 1) s1 _ _ _ (lv_sub hl [1, 2, 3, 4, 5, 6, 0] rfl) hP hS hf
          · refine lv_lload_n hx hb dX11_countFits_27 rfl (lv_at hl 0 rfl) ?_
            refine lv_iload hx hb dX11_countFits_28 (lv_at hl 6 rfl) ?_
            obtain ⟨r1, s2, h3, hf⟩ := zbd_some hf
            refine zcallS X hP hS hl.1 (As := [.int x9]) (rest := [.long x0]) (cn_X7_worthTwice h3) cw_X7_worthTwice ml_X11_309 (by decide) rfl rfl (Nat.le_of_ble_eq_true rfl) dX11_countFits_30 (fun H locs hP hS => ?_)
            refine lv_lmul hx hb dX11_countFits_33 ?_
            refine lv_lload_n hx hb dX11_countFits_34 rfl (lv_at hl 1 rfl) ?_
            refine lv_iload hx hb dX11_countFits_35 (lv_at hl 6 rfl) ?_
            refine lv_iload hx hb dX11_countFits_37 (lv_at hl 7 rfl) ?_
            obtain ⟨r4, s5, h6, hf⟩ := zbd_some hf
            refine zcallS X hP hS hl.1 (As := [.int x9, .int x10]) (rest := [.long x2, .long (x0 * r1)]) (cn_X7_worthThrice h6) cw_X7_worthThrice ml_X11_313 (by decide) rfl rfl (Nat.le_of_ble_eq_true rfl) dX11_countFits_39 (fun H locs hP hS => ?_)
            refine lv_lmul hx hb dX11_countFits_42 ?_
            refine lv_ladd hx hb dX11_countFits_43 ?_
            refine lv_lload hx hb dX11_countFits_44 (lv_at hl 2 rfl) ?_
            refine W.lcmp hx hb dX11_countFits_46 ?_
            refine zif_ne (tgt := 73) hx hb dX11_countFits_47 (by decide) hf (fun hf => ?_) (fun hf => ?_)
            · exact hc_73 x0 x2 x4 x6 x7 x8 x9 x10 s5 _ _ _ (lv_sub hl [0, 1, 2, 3, 4, 5, 6, 7] rfl) hP hS hf
            · refine lv_iload hx hb dX11_countFits_50 (lv_at hl 4 rfl) ?_
              refine zif_ne (tgt := 66) hx hb dX11_countFits_52 (by decide) hf (fun hf => ?_) (fun hf => ?_)
              · refine lv_iload hx hb dX11_countFits_66 (lv_at hl 5 rfl) ?_
                exact hc_68 x0 x2 x4 x6 x7 x9 x10 x8 s5 _ _ _ (lv_sub hl [0, 1, 2, 3, 4, 6, 7] rfl) hP hS hf
              · refine lv_bipush (v := 10) hx hb dX11_countFits_55 (by decide) ?_
                refine lv_iload hx hb dX11_countFits_57 (lv_at hl 6 rfl) ?_
                refine lv_imul hx hb dX11_countFits_59 ?_
                refine lv_iload hx hb dX11_countFits_60 (lv_at hl 7 rfl) ?_
                refine lv_iadd hx hb dX11_countFits_62 ?_
                refine lv_goto (tgt := 68) hx hb dX11_countFits_63 (by decide) ?_
                exact hc_68 x0 x2 x4 x6 x7 x9 x10 (((10 : Int32) * x9) + x10) s5 _ _ _ (lv_sub hl [0, 1, 2, 3, 4, 6, 7] rfl) hP hS hf
      intro x0 x2 x4 x6 x7 x8 x9 s1 H locs ls hl hP hS hf
      rw [f_X11_countFits_c10] at hf
      refine lv_iload hx hb dX11_countFits_10 (lv_at hl 6 rfl) ?_
      refine lv_bipush (v := 9) hx hb dX11_countFits_12 (by decide) ?_
      refine zicmp_gt (tgt := 85) hx hb dX11_countFits_14 (by decide) hf (fun hf => ?_) (fun hf => ?_)
      · refine lv_iload hx hb dX11_countFits_85 (lv_at hl 3 rfl) ?_
        refine zif_ne (tgt := 95) hx hb dX11_countFits_87 (by decide) hf (fun hf => ?_) (fun hf => ?_)
        · refine lv_iload hx hb dX11_countFits_95 (lv_at hl 5 rfl) ?_
          exact zret_i X hP hS hf rfl dX11_countFits_97
        · refine lv_iload hx hb dX11_countFits_90 (lv_at hl 4 rfl) ?_
          refine lv_goto (tgt := 97) hx hb dX11_countFits_92 (by decide) ?_
          exact zret_i X hP hS hf rfl dX11_countFits_97
      · refine lv_iconst (v := 0) hx hb dX11_countFits_17 (by decide) ?_
        refine lv_istore (lv' := [(10, .int 0), (0, .long x0), (2, .long x2), (4, .long x4), (6, .int x6), (7, .int x7), (8, .int x8), (9, .int x9)]) hx hb dX11_countFits_18 hl (by decide) rfl (fun ls hl => ?_)
        exact hc_20 ZF x0 x2 x4 x6 x7 x8 x9 0 s1 _ _ _ (lv_sub hl [1, 2, 3, 4, 5, 6, 7, 0] rfl) hP hS hf
  rw [f_X11_countFits] at hf
  refine lv_iconst (v := 0) hx hb dX11_countFits_0 (by decide) ?_
  refine lv_istore (lv' := [(7, .int 0), (0, .long x0), (2, .long x2), (4, .long x4), (6, .int x6)]) hx hb dX11_countFits_1 hl (by decide) rfl (fun ls hl => ?_)
  refine lv_bipush (v := (-2)) hx hb dX11_countFits_3 (by decide) ?_
  refine lv_istore (lv' := [(8, .int (-2)), (7, .int 0), (0, .long x0), (2, .long x2), (4, .long x4), (6, .int x6)]) hx hb dX11_countFits_5 hl (by decide) rfl (fun ls hl => ?_)
  refine lv_iconst (v := 1) hx hb dX11_countFits_7 (by decide) ?_
  refine lv_istore (lv' := [(9, .int 1), (8, .int (-2)), (7, .int 0), (0, .long x0), (2, .long x2), (4, .long x4), (6, .int x6)]) hx hb dX11_countFits_8 hl (by decide) rfl (fun ls hl => ?_)
  exact hc_10 ZF x0 x2 x4 x6 0 (-2) 1 s0 _ _ _ (lv_sub hl [3, 4, 5, 6, 2, 1, 0] rfl) hP hS hf
theorem dX11_fits_0 : decode cX11_fits 0 = .ok (.aload_n 0, 1) := by decide +kernel
theorem dX11_fits_1 : decode cX11_fits 1 = .ok (.getfield 12, 3) := by decide +kernel
theorem dX11_fits_4 : decode cX11_fits 4 = .ok (.iload_n 1, 1) := by decide +kernel
theorem dX11_fits_5 : decode cX11_fits 5 = .ok (.i2l, 1) := by decide +kernel
theorem dX11_fits_6 : decode cX11_fits 6 = .ok (.invokevirtual 155, 3) := by decide +kernel
theorem dX11_fits_9 : decode cX11_fits 9 = .ok (.astore 6, 2) := by decide +kernel
theorem dX11_fits_11 : decode cX11_fits 11 = .ok (.aload 6, 2) := by decide +kernel
theorem dX11_fits_13 : decode cX11_fits 13 = .ok (.ifnonnull 5, 3) := by decide +kernel
theorem dX11_fits_16 : decode cX11_fits 16 = .ok (.iconst (-1), 1) := by decide +kernel
theorem dX11_fits_17 : decode cX11_fits 17 = .ok (.ireturn, 1) := by decide +kernel
theorem dX11_fits_18 : decode cX11_fits 18 = .ok (.aload_n 0, 1) := by decide +kernel
theorem dX11_fits_19 : decode cX11_fits 19 = .ok (.getfield 12, 3) := by decide +kernel
theorem dX11_fits_22 : decode cX11_fits 22 = .ok (.getfield 74, 3) := by decide +kernel
theorem dX11_fits_25 : decode cX11_fits 25 = .ok (.getfield 98, 3) := by decide +kernel
theorem dX11_fits_28 : decode cX11_fits 28 = .ok (.iconst 1, 1) := by decide +kernel
theorem dX11_fits_29 : decode cX11_fits 29 = .ok (.if_icmp .eq 6, 3) := by decide +kernel
theorem dX11_fits_32 : decode cX11_fits 32 = .ok (.bipush (-5), 2) := by decide +kernel
theorem dX11_fits_34 : decode cX11_fits 34 = .ok (.ireturn, 1) := by decide +kernel
theorem dX11_fits_35 : decode cX11_fits 35 = .ok (.iload_n 2, 1) := by decide +kernel
theorem dX11_fits_36 : decode cX11_fits 36 = .ok (.ifCond .lt 28, 3) := by decide +kernel
theorem dX11_fits_39 : decode cX11_fits 39 = .ok (.iload_n 2, 1) := by decide +kernel
theorem dX11_fits_40 : decode cX11_fits 40 = .ok (.aload_n 0, 1) := by decide +kernel
theorem dX11_fits_41 : decode cX11_fits 41 = .ok (.getfield 12, 3) := by decide +kernel
theorem dX11_fits_44 : decode cX11_fits 44 = .ok (.getfield 74, 3) := by decide +kernel
theorem dX11_fits_47 : decode cX11_fits 47 = .ok (.getfield 102, 3) := by decide +kernel
theorem dX11_fits_50 : decode cX11_fits 50 = .ok (.if_icmp .ge 14, 3) := by decide +kernel
theorem dX11_fits_53 : decode cX11_fits 53 = .ok (.iload 5, 2) := by decide +kernel
theorem dX11_fits_55 : decode cX11_fits 55 = .ok (.ifCond .lt 9, 3) := by decide +kernel
theorem dX11_fits_58 : decode cX11_fits 58 = .ok (.iload 5, 2) := by decide +kernel
theorem dX11_fits_60 : decode cX11_fits 60 = .ok (.iconst 1, 1) := by decide +kernel
theorem dX11_fits_61 : decode cX11_fits 61 = .ok (.if_icmp .le 5, 3) := by decide +kernel
theorem dX11_fits_64 : decode cX11_fits 64 = .ok (.iconst (-1), 1) := by decide +kernel
theorem dX11_fits_65 : decode cX11_fits 65 = .ok (.ireturn, 1) := by decide +kernel
theorem dX11_fits_66 : decode cX11_fits 66 = .ok (.getstatic 302, 3) := by decide +kernel
theorem dX11_fits_69 : decode cX11_fits 69 = .ok (.iconst 1, 1) := by decide +kernel
theorem dX11_fits_70 : decode cX11_fits 70 = .ok (.iload_n 2, 1) := by decide +kernel
theorem dX11_fits_71 : decode cX11_fits 71 = .ok (.iadd, 1) := by decide +kernel
theorem dX11_fits_72 : decode cX11_fits 72 = .ok (.iaload, 1) := by decide +kernel
theorem dX11_fits_73 : decode cX11_fits 73 = .ok (.istore 7, 2) := by decide +kernel
theorem dX11_fits_75 : decode cX11_fits 75 = .ok (.aload_n 0, 1) := by decide +kernel
theorem dX11_fits_76 : decode cX11_fits 76 = .ok (.aload 6, 2) := by decide +kernel
theorem dX11_fits_78 : decode cX11_fits 78 = .ok (.iconst 1, 1) := by decide +kernel
theorem dX11_fits_79 : decode cX11_fits 79 = .ok (.iconst 2, 1) := by decide +kernel
theorem dX11_fits_80 : decode cX11_fits 80 = .ok (.iload 7, 2) := by decide +kernel
theorem dX11_fits_82 : decode cX11_fits 82 = .ok (.imul, 1) := by decide +kernel
theorem dX11_fits_83 : decode cX11_fits 83 = .ok (.iadd, 1) := by decide +kernel
theorem dX11_fits_84 : decode cX11_fits 84 = .ok (.invokevirtual 305, 3) := by decide +kernel
theorem dX11_fits_87 : decode cX11_fits 87 = .ok (.lstore 8, 2) := by decide +kernel
theorem dX11_fits_89 : decode cX11_fits 89 = .ok (.aload_n 0, 1) := by decide +kernel
theorem dX11_fits_90 : decode cX11_fits 90 = .ok (.aload 6, 2) := by decide +kernel
theorem dX11_fits_92 : decode cX11_fits 92 = .ok (.iconst 3, 1) := by decide +kernel
theorem dX11_fits_93 : decode cX11_fits 93 = .ok (.iload 7, 2) := by decide +kernel
theorem dX11_fits_95 : decode cX11_fits 95 = .ok (.imul, 1) := by decide +kernel
theorem dX11_fits_96 : decode cX11_fits 96 = .ok (.invokevirtual 305, 3) := by decide +kernel
theorem dX11_fits_99 : decode cX11_fits 99 = .ok (.lstore 10, 2) := by decide +kernel
theorem dX11_fits_101 : decode cX11_fits 101 = .ok (.aload_n 0, 1) := by decide +kernel
theorem dX11_fits_102 : decode cX11_fits 102 = .ok (.getfield 12, 3) := by decide +kernel
theorem dX11_fits_105 : decode cX11_fits 105 = .ok (.getfield 74, 3) := by decide +kernel
theorem dX11_fits_108 : decode cX11_fits 108 = .ok (.getfield 108, 3) := by decide +kernel
theorem dX11_fits_111 : decode cX11_fits 111 = .ok (.iload_n 2, 1) := by decide +kernel
theorem dX11_fits_112 : decode cX11_fits 112 = .ok (.iaload, 1) := by decide +kernel
theorem dX11_fits_113 : decode cX11_fits 113 = .ok (.istore 12, 2) := by decide +kernel
theorem dX11_fits_115 : decode cX11_fits 115 = .ok (.aload_n 0, 1) := by decide +kernel
theorem dX11_fits_116 : decode cX11_fits 116 = .ok (.getfield 12, 3) := by decide +kernel
theorem dX11_fits_119 : decode cX11_fits 119 = .ok (.getfield 74, 3) := by decide +kernel
theorem dX11_fits_122 : decode cX11_fits 122 = .ok (.getfield 112, 3) := by decide +kernel
theorem dX11_fits_125 : decode cX11_fits 125 = .ok (.iload_n 2, 1) := by decide +kernel
theorem dX11_fits_126 : decode cX11_fits 126 = .ok (.iaload, 1) := by decide +kernel
theorem dX11_fits_127 : decode cX11_fits 127 = .ok (.istore 13, 2) := by decide +kernel
theorem dX11_fits_129 : decode cX11_fits 129 = .ok (.aload_n 0, 1) := by decide +kernel
theorem dX11_fits_130 : decode cX11_fits 130 = .ok (.getfield 28, 3) := by decide +kernel
theorem dX11_fits_133 : decode cX11_fits 133 = .ok (.aload 6, 2) := by decide +kernel
theorem dX11_fits_135 : decode cX11_fits 135 = .ok (.aload_n 0, 1) := by decide +kernel
theorem dX11_fits_136 : decode cX11_fits 136 = .ok (.getfield 28, 3) := by decide +kernel
theorem dX11_fits_139 : decode cX11_fits 139 = .ok (.getfield 188, 3) := by decide +kernel
theorem dX11_fits_142 : decode cX11_fits 142 = .ok (.invokevirtual 208, 3) := by decide +kernel
theorem dX11_fits_145 : decode cX11_fits 145 = .ok (.aload_n 0, 1) := by decide +kernel
theorem dX11_fits_146 : decode cX11_fits 146 = .ok (.getfield 28, 3) := by decide +kernel
theorem dX11_fits_149 : decode cX11_fits 149 = .ok (.aload_n 0, 1) := by decide +kernel
theorem dX11_fits_150 : decode cX11_fits 150 = .ok (.getfield 28, 3) := by decide +kernel
theorem dX11_fits_153 : decode cX11_fits 153 = .ok (.getfield 188, 3) := by decide +kernel
theorem dX11_fits_156 : decode cX11_fits 156 = .ok (.invokevirtual 212, 3) := by decide +kernel
theorem dX11_fits_159 : decode cX11_fits 159 = .ok (.lload 8, 2) := by decide +kernel
theorem dX11_fits_161 : decode cX11_fits 161 = .ok (.iload 12, 2) := by decide +kernel
theorem dX11_fits_163 : decode cX11_fits 163 = .ok (.invokestatic 309, 3) := by decide +kernel
theorem dX11_fits_166 : decode cX11_fits 166 = .ok (.lmul, 1) := by decide +kernel
theorem dX11_fits_167 : decode cX11_fits 167 = .ok (.lsub, 1) := by decide +kernel
theorem dX11_fits_168 : decode cX11_fits 168 = .ok (.lload 10, 2) := by decide +kernel
theorem dX11_fits_170 : decode cX11_fits 170 = .ok (.iload 12, 2) := by decide +kernel
theorem dX11_fits_172 : decode cX11_fits 172 = .ok (.iload 13, 2) := by decide +kernel
theorem dX11_fits_174 : decode cX11_fits 174 = .ok (.invokestatic 313, 3) := by decide +kernel
theorem dX11_fits_177 : decode cX11_fits 177 = .ok (.lmul, 1) := by decide +kernel
theorem dX11_fits_178 : decode cX11_fits 178 = .ok (.lsub, 1) := by decide +kernel
theorem dX11_fits_179 : decode cX11_fits 179 = .ok (.lstore 14, 2) := by decide +kernel
theorem dX11_fits_181 : decode cX11_fits 181 = .ok (.lload 8, 2) := by decide +kernel
theorem dX11_fits_183 : decode cX11_fits 183 = .ok (.lload 10, 2) := by decide +kernel
theorem dX11_fits_185 : decode cX11_fits 185 = .ok (.lload_n 3, 1) := by decide +kernel
theorem dX11_fits_186 : decode cX11_fits 186 = .ok (.lload 14, 2) := by decide +kernel
theorem dX11_fits_188 : decode cX11_fits 188 = .ok (.lsub, 1) := by decide +kernel
theorem dX11_fits_189 : decode cX11_fits 189 = .ok (.iload 5, 2) := by decide +kernel
theorem dX11_fits_191 : decode cX11_fits 191 = .ok (.invokestatic 316, 3) := by decide +kernel
theorem dX11_fits_194 : decode cX11_fits 194 = .ok (.ireturn, 1) := by decide +kernel
set_option maxHeartbeats 4000000 in
set_option maxRecDepth 100000 in
theorem cn_X11_fits {l : Launch} {cA : Nat → ClassId} {ad : Nat → Nat} {D : va_G} {E : Nat → Nat} {A : Nat → Prop} {x1 : Int32} {x2 : Int32} {x3 : Int64} {x5 : Int32} {s0 sr : SS} {rr : Int32} (hf : f_X11_fits x1 x2 x3 x5 s0 = some (rr, sr)) : zCon Ox Nx cA ad D E l yX11_fits cX11_fits 16 (some .int) 2 A [.ref (ad 0), .int x1, .int x2, .long x3, .int x5] s0 (some (.int rr)) sr := by
  refine zstart (own := RX11) hOx (by decide) rfl (Nat.le_of_ble_eq_true rfl) ?_
  intro p e s m args below meth c X hP ls hl
  have hx := X.1
  have hb := X.2.1
  have hl : lv_has ls 16 [(0, .ref (ad 0)), (1, .int x1), (2, .int x2), (3, .long x3), (5, .int x5)] := hl
  have hS : va_S A s.heap s.heap [] := va_S.rf
  rw [f_X11_fits] at hf
  refine lv_aload_n hx hb dX11_fits_0 rfl (lv_at hl 0 rfl) ?_
  refine gf_X11_12 X hP (k := 0) (q := 1) rfl dX11_fits_1 rfl ?_
  refine lv_iload_n hx hb dX11_fits_4 rfl (lv_at hl 1 rfl) ?_
  refine lv_i2l hx hb dX11_fits_5 rfl ?_
  obtain ⟨r1, s2, h3, hf⟩ := zbd_some hf
  refine zcallV X hP hS hl.1 (k := 1) (As := [.long (x1).toInt64]) (rest := []) (cn_X3_classAt h3) cw_X3_classAt zp_3 rfl (by decide) rfl ml_X11_155 (by decide) rfl rfl (Nat.le_of_ble_eq_true rfl) dX11_fits_6 (fun H locs hP hS => ?_)
  rcases r1 with _ | k4
  · have hf := zbn_none hf
    refine lv_astoreN (lv' := [(6, .null), (0, .ref (ad 0)), (1, .int x1), (2, .int x2), (3, .long x3), (5, .int x5)]) hx hb dX11_fits_9 hl (by decide) rfl (fun ls hl => ?_)
    refine lv_aloadN hx hb dX11_fits_11 (lv_at hl 0 rfl) ?_
    refine lv_ifnonnullN hx hb dX11_fits_13 ?_
    refine lv_iconst (v := (-1)) hx hb dX11_fits_16 (by decide) ?_
    exact zret_i X hP hS hf rfl dX11_fits_17
  · have hf := zbn_some hf
    obtain ⟨g5, hf⟩ := zgd hf
    refine lv_astore (lv' := [(6, .ref (ad k4)), (0, .ref (ad 0)), (1, .int x1), (2, .int x2), (3, .long x3), (5, .int x5)]) hx hb dX11_fits_9 hl (by decide) rfl (fun ls hl => ?_)
    refine lv_aload hx hb dX11_fits_11 (lv_at hl 0 rfl) ?_
    refine lv_ifnonnull (tgt := 18) hx hb dX11_fits_13 (by decide) ?_
    refine lv_aload_n hx hb dX11_fits_18 rfl (lv_at hl 1 rfl) ?_
    refine gf_X11_12 X hP (k := 0) (q := 1) rfl dX11_fits_19 rfl ?_
    refine gf_X11_74 X hP (k := 1) (q := 3) rfl dX11_fits_22 rfl ?_
    refine gf_X11_98 X hP (k := 3) rfl dX11_fits_25 ?_
    refine lv_iconst (v := 1) hx hb dX11_fits_28 (by decide) ?_
    refine zicmp_eq (tgt := 35) hx hb dX11_fits_29 (by decide) hf (fun hf => ?_) (fun hf => ?_)
    · refine lv_iload_n hx hb dX11_fits_35 rfl (lv_at hl 3 rfl) ?_
      refine zif_lt (tgt := 64) hx hb dX11_fits_36 (by decide) hf (fun hf => ?_) (fun hf => ?_)
      · refine lv_iconst (v := (-1)) hx hb dX11_fits_64 (by decide) ?_
        exact zret_i X hP hS hf rfl dX11_fits_65
      · refine lv_iload_n hx hb dX11_fits_39 rfl (lv_at hl 3 rfl) ?_
        refine lv_aload_n hx hb dX11_fits_40 rfl (lv_at hl 1 rfl) ?_
        refine gf_X11_12 X hP (k := 0) (q := 1) rfl dX11_fits_41 rfl ?_
        refine gf_X11_74 X hP (k := 1) (q := 3) rfl dX11_fits_44 rfl ?_
        refine gf_X11_102 X hP (k := 3) rfl dX11_fits_47 ?_
        refine zicmp_ge (tgt := 64) hx hb dX11_fits_50 (by decide) hf (fun hf => ?_) (fun hf => ?_)
        · refine lv_iconst (v := (-1)) hx hb dX11_fits_64 (by decide) ?_
          exact zret_i X hP hS hf rfl dX11_fits_65
        · refine lv_iload hx hb dX11_fits_53 (lv_at hl 5 rfl) ?_
          refine zif_lt (tgt := 64) hx hb dX11_fits_55 (by decide) hf (fun hf => ?_) (fun hf => ?_)
          · refine lv_iconst (v := (-1)) hx hb dX11_fits_64 (by decide) ?_
            exact zret_i X hP hS hf rfl dX11_fits_65
          · refine lv_iload hx hb dX11_fits_58 (lv_at hl 5 rfl) ?_
            refine lv_iconst (v := 1) hx hb dX11_fits_60 (by decide) ?_
            refine zicmp_le (tgt := 66) hx hb dX11_fits_61 (by decide) hf (fun hf => ?_) (fun hf => ?_)
            · refine zgs X hS (i := 0) rfl fl_X11_302 dX11_fits_66 ?_
              refine lv_iconst (v := 1) hx hb dX11_fits_69 (by decide) ?_
              refine lv_iload_n hx hb dX11_fits_70 rfl (lv_at hl 3 rfl) ?_
              refine lv_iadd hx hb dX11_fits_71 ?_
              obtain ⟨g6, hf⟩ := zgd hf
              refine zst X hS (k := 0) (n := 6) rfl rfl g6 dX11_fits_72 ?_
              refine lv_istore (lv' := [(7, .int (ztab 0 ((1 : Int32) + x2))), (6, .ref (ad k4)), (0, .ref (ad 0)), (1, .int x1), (2, .int x2), (3, .long x3), (5, .int x5)]) hx hb dX11_fits_73 hl (by decide) rfl (fun ls hl => ?_)
              refine lv_aload_n hx hb dX11_fits_75 rfl (lv_at hl 2 rfl) ?_
              refine lv_aload hx hb dX11_fits_76 (lv_at hl 1 rfl) ?_
              refine lv_iconst (v := 1) hx hb dX11_fits_78 (by decide) ?_
              refine lv_iconst (v := 2) hx hb dX11_fits_79 (by decide) ?_
              refine lv_iload hx hb dX11_fits_80 (lv_at hl 0 rfl) ?_
              refine lv_imul hx hb dX11_fits_82 ?_
              refine lv_iadd hx hb dX11_fits_83 ?_
              obtain ⟨r7, s8, h9, hf⟩ := zbd_some hf
              refine zcallV X hP hS hl.1 (k := 0) (As := [.ref (ad k4), .int ((1 : Int32) + ((2 : Int32) * (ztab 0 ((1 : Int32) + x2))))]) (rest := []) (cn_X11_numberOfCode h9) cw_X11_numberOfCode zp_11 rfl (by decide) rfl ml_X11_305 (by decide) rfl rfl (Nat.le_of_ble_eq_true rfl) dX11_fits_84 (fun H locs hP hS => ?_)
              refine lv_lstore (lv' := [(8, .long r7), (7, .int (ztab 0 ((1 : Int32) + x2))), (6, .ref (ad k4)), (0, .ref (ad 0)), (1, .int x1), (2, .int x2), (3, .long x3), (5, .int x5)]) hx hb dX11_fits_87 hl (by decide) rfl (fun ls hl => ?_)
              refine lv_aload_n hx hb dX11_fits_89 rfl (lv_at hl 3 rfl) ?_
              refine lv_aload hx hb dX11_fits_90 (lv_at hl 2 rfl) ?_
              refine lv_iconst (v := 3) hx hb dX11_fits_92 (by decide) ?_
              refine lv_iload hx hb dX11_fits_93 (lv_at hl 1 rfl) ?_
              refine lv_imul hx hb dX11_fits_95 ?_
              obtain ⟨r10, s11, h12, hf⟩ := zbd_some hf
              refine zcallV X hP hS hl.1 (k := 0) (As := [.ref (ad k4), .int ((3 : Int32) * (ztab 0 ((1 : Int32) + x2)))]) (rest := []) (cn_X11_numberOfCode h12) cw_X11_numberOfCode zp_11 rfl (by decide) rfl ml_X11_305 (by decide) rfl rfl (Nat.le_of_ble_eq_true rfl) dX11_fits_96 (fun H locs hP hS => ?_)
              refine lv_lstore (lv' := [(10, .long r10), (8, .long r7), (7, .int (ztab 0 ((1 : Int32) + x2))), (6, .ref (ad k4)), (0, .ref (ad 0)), (1, .int x1), (2, .int x2), (3, .long x3), (5, .int x5)]) hx hb dX11_fits_99 hl (by decide) rfl (fun ls hl => ?_)
              refine lv_aload_n hx hb dX11_fits_101 rfl (lv_at hl 4 rfl) ?_
              refine gf_X11_12 X hP (k := 0) (q := 1) rfl dX11_fits_102 rfl ?_
              refine gf_X11_74 X hP (k := 1) (q := 3) rfl dX11_fits_105 rfl ?_
              refine gf_X11_108 X hP (k := 3) (q := 16) rfl dX11_fits_108 rfl ?_
              refine lv_iload_n hx hb dX11_fits_111 rfl (lv_at hl 6 rfl) ?_
              obtain ⟨g13, hf⟩ := zgd hf
              refine zald_i X hP (k := 16) (n := 3) (rs := []) rfl g13 dX11_fits_112 ?_
              refine lv_istore (lv' := [(12, .int (s11.1 16 (x2).toNatClampNeg)), (10, .long r10), (8, .long r7), (7, .int (ztab 0 ((1 : Int32) + x2))), (6, .ref (ad k4)), (0, .ref (ad 0)), (1, .int x1), (2, .int x2), (3, .long x3), (5, .int x5)]) hx hb dX11_fits_113 hl (by decide) rfl (fun ls hl => ?_)
              refine lv_aload_n hx hb dX11_fits_115 rfl (lv_at hl 5 rfl) ?_
              refine gf_X11_12 X hP (k := 0) (q := 1) rfl dX11_fits_116 rfl ?_
              refine gf_X11_74 X hP (k := 1) (q := 3) rfl dX11_fits_119 rfl ?_
              refine gf_X11_112 X hP (k := 3) (q := 17) rfl dX11_fits_122 rfl ?_
              refine lv_iload_n hx hb dX11_fits_125 rfl (lv_at hl 7 rfl) ?_
              obtain ⟨g14, hf⟩ := zgd hf
              refine zald_i X hP (k := 17) (n := 3) (rs := []) rfl g14 dX11_fits_126 ?_
              refine lv_istore (lv' := [(13, .int (s11.1 17 (x2).toNatClampNeg)), (12, .int (s11.1 16 (x2).toNatClampNeg)), (10, .long r10), (8, .long r7), (7, .int (ztab 0 ((1 : Int32) + x2))), (6, .ref (ad k4)), (0, .ref (ad 0)), (1, .int x1), (2, .int x2), (3, .long x3), (5, .int x5)]) hx hb dX11_fits_127 hl (by decide) rfl (fun ls hl => ?_)
              refine lv_aload_n hx hb dX11_fits_129 rfl (lv_at hl 6 rfl) ?_
              refine gf_X11_28 X hP (k := 0) (q := 5) rfl dX11_fits_130 rfl ?_
              refine lv_aload hx hb dX11_fits_133 (lv_at hl 5 rfl) ?_
              refine lv_aload_n hx hb dX11_fits_135 rfl (lv_at hl 6 rfl) ?_
              refine gf_X11_28 X hP (k := 0) (q := 5) rfl dX11_fits_136 rfl ?_
              refine gf_X11_188 X hP (k := 5) (q := 21) rfl dX11_fits_139 rfl ?_
              obtain ⟨r15, s16, h17, hf⟩ := zbd_some hf
              refine zcallV X hP hS hl.1 (k := 5) (As := [.ref (ad k4), .ref (ad 21)]) (rest := []) (cn_X8_takeNumbers h17) cw_X8_takeNumbers zp_8 rfl (by decide) rfl ml_X11_208 (by decide) rfl rfl (Nat.le_of_ble_eq_true rfl) dX11_fits_142 (fun H locs hP hS => ?_)
              refine lv_aload_n hx hb dX11_fits_145 rfl (lv_at hl 6 rfl) ?_
              refine gf_X11_28 X hP (k := 0) (q := 5) rfl dX11_fits_146 rfl ?_
              refine lv_aload_n hx hb dX11_fits_149 rfl (lv_at hl 6 rfl) ?_
              refine gf_X11_28 X hP (k := 0) (q := 5) rfl dX11_fits_150 rfl ?_
              refine gf_X11_188 X hP (k := 5) (q := 21) rfl dX11_fits_153 rfl ?_
              obtain ⟨r18, s19, h20, hf⟩ := zbd_some hf
              refine zcallV X hP hS hl.1 (k := 5) (As := [.ref (ad 21)]) (rest := []) (cn_X8_metOf h20) cw_X8_metOf zp_8 rfl (by decide) rfl ml_X11_212 (by decide) rfl rfl (Nat.le_of_ble_eq_true rfl) dX11_fits_156 (fun H locs hP hS => ?_)
              refine lv_lload hx hb dX11_fits_159 (lv_at hl 3 rfl) ?_
              refine lv_iload hx hb dX11_fits_161 (lv_at hl 1 rfl) ?_
              obtain ⟨r21, s22, h23, hf⟩ := zbd_some hf
              refine zcallS X hP hS hl.1 (As := [.int (s11.1 16 (x2).toNatClampNeg)]) (rest := [.long r7, .long r18]) (cn_X7_worthTwice h23) cw_X7_worthTwice ml_X11_309 (by decide) rfl rfl (Nat.le_of_ble_eq_true rfl) dX11_fits_163 (fun H locs hP hS => ?_)
              refine lv_lmul hx hb dX11_fits_166 ?_
              refine lv_lsub hx hb dX11_fits_167 ?_
              refine lv_lload hx hb dX11_fits_168 (lv_at hl 2 rfl) ?_
              refine lv_iload hx hb dX11_fits_170 (lv_at hl 1 rfl) ?_
              refine lv_iload hx hb dX11_fits_172 (lv_at hl 0 rfl) ?_
              obtain ⟨r24, s25, h26, hf⟩ := zbd_some hf
              refine zcallS X hP hS hl.1 (As := [.int (s11.1 16 (x2).toNatClampNeg), .int (s11.1 17 (x2).toNatClampNeg)]) (rest := [.long r10, .long (r18 - (r7 * r21))]) (cn_X7_worthThrice h26) cw_X7_worthThrice ml_X11_313 (by decide) rfl rfl (Nat.le_of_ble_eq_true rfl) dX11_fits_174 (fun H locs hP hS => ?_)
              refine lv_lmul hx hb dX11_fits_177 ?_
              refine lv_lsub hx hb dX11_fits_178 ?_
              refine lv_lstore (lv' := [(14, .long ((r18 - (r7 * r21)) - (r10 * r24))), (13, .int (s11.1 17 (x2).toNatClampNeg)), (12, .int (s11.1 16 (x2).toNatClampNeg)), (10, .long r10), (8, .long r7), (7, .int (ztab 0 ((1 : Int32) + x2))), (6, .ref (ad k4)), (0, .ref (ad 0)), (1, .int x1), (2, .int x2), (3, .long x3), (5, .int x5)]) hx hb dX11_fits_179 hl (by decide) rfl (fun ls hl => ?_)
              refine lv_lload hx hb dX11_fits_181 (lv_at hl 4 rfl) ?_
              refine lv_lload hx hb dX11_fits_183 (lv_at hl 3 rfl) ?_
              refine lv_lload_n hx hb dX11_fits_185 rfl (lv_at hl 10 rfl) ?_
              refine lv_lload hx hb dX11_fits_186 (lv_at hl 0 rfl) ?_
              refine lv_lsub hx hb dX11_fits_188 ?_
              refine lv_iload hx hb dX11_fits_189 (lv_at hl 11 rfl) ?_
              obtain ⟨r27, s28, h29, hf⟩ := zbd_some hf
              refine zcallS X hP hS hl.1 (As := [.long r7, .long r10, .long (x3 - ((r18 - (r7 * r21)) - (r10 * r24))), .int x5]) (rest := []) (cn_X11_countFits h29) cw_X11_countFits ml_X11_316 (by decide) rfl rfl (Nat.le_of_ble_eq_true rfl) dX11_fits_191 (fun H locs hP hS => ?_)
              exact zret_i X hP hS hf rfl dX11_fits_194
            · refine lv_iconst (v := (-1)) hx hb dX11_fits_64 (by decide) ?_
              exact zret_i X hP hS hf rfl dX11_fits_65
    · refine lv_bipush (v := (-5)) hx hb dX11_fits_32 (by decide) ?_
      exact zret_i X hP hS hf rfl dX11_fits_34
theorem dX11_judge_0 : decode cX11_judge 0 = .ok (.aload_n 0, 1) := by decide +kernel
theorem dX11_judge_1 : decode cX11_judge 1 = .ok (.getfield 63, 3) := by decide +kernel
theorem dX11_judge_4 : decode cX11_judge 4 = .ok (.iload_n 1, 1) := by decide +kernel
theorem dX11_judge_5 : decode cX11_judge 5 = .ok (.invokevirtual 320, 3) := by decide +kernel
theorem dX11_judge_8 : decode cX11_judge 8 = .ok (.ifCond .ne 5, 3) := by decide +kernel
theorem dX11_judge_11 : decode cX11_judge 11 = .ok (.iconst (-1), 1) := by decide +kernel
theorem dX11_judge_12 : decode cX11_judge 12 = .ok (.ireturn, 1) := by decide +kernel
theorem dX11_judge_13 : decode cX11_judge 13 = .ok (.aload_n 0, 1) := by decide +kernel
theorem dX11_judge_14 : decode cX11_judge 14 = .ok (.getfield 63, 3) := by decide +kernel
theorem dX11_judge_17 : decode cX11_judge 17 = .ok (.iload_n 1, 1) := by decide +kernel
theorem dX11_judge_18 : decode cX11_judge 18 = .ok (.invokevirtual 220, 3) := by decide +kernel
theorem dX11_judge_21 : decode cX11_judge 21 = .ok (.ifCond .ne 6, 3) := by decide +kernel
theorem dX11_judge_24 : decode cX11_judge 24 = .ok (.bipush (-11), 2) := by decide +kernel
theorem dX11_judge_26 : decode cX11_judge 26 = .ok (.ireturn, 1) := by decide +kernel
theorem dX11_judge_27 : decode cX11_judge 27 = .ok (.aload_n 0, 1) := by decide +kernel
theorem dX11_judge_28 : decode cX11_judge 28 = .ok (.getfield 63, 3) := by decide +kernel
theorem dX11_judge_31 : decode cX11_judge 31 = .ok (.iload_n 1, 1) := by decide +kernel
theorem dX11_judge_32 : decode cX11_judge 32 = .ok (.invokevirtual 244, 3) := by decide +kernel
theorem dX11_judge_35 : decode cX11_judge 35 = .ok (.istore_n 2, 1) := by decide +kernel
theorem dX11_judge_36 : decode cX11_judge 36 = .ok (.iconst 0, 1) := by decide +kernel
theorem dX11_judge_37 : decode cX11_judge 37 = .ok (.istore_n 3, 1) := by decide +kernel
theorem dX11_judge_38 : decode cX11_judge 38 = .ok (.iload_n 3, 1) := by decide +kernel
theorem dX11_judge_39 : decode cX11_judge 39 = .ok (.iload_n 2, 1) := by decide +kernel
theorem dX11_judge_40 : decode cX11_judge 40 = .ok (.if_icmp .ge 72, 3) := by decide +kernel
theorem dX11_judge_43 : decode cX11_judge 43 = .ok (.iload_n 3, 1) := by decide +kernel
theorem dX11_judge_44 : decode cX11_judge 44 = .ok (.aload_n 0, 1) := by decide +kernel
theorem dX11_judge_45 : decode cX11_judge 45 = .ok (.getfield 12, 3) := by decide +kernel
theorem dX11_judge_48 : decode cX11_judge 48 = .ok (.getfield 141, 3) := by decide +kernel
theorem dX11_judge_51 : decode cX11_judge 51 = .ok (.if_icmp .ge 61, 3) := by decide +kernel
theorem dX11_judge_54 : decode cX11_judge 54 = .ok (.aload_n 0, 1) := by decide +kernel
theorem dX11_judge_55 : decode cX11_judge 55 = .ok (.getfield 28, 3) := by decide +kernel
theorem dX11_judge_58 : decode cX11_judge 58 = .ok (.aload_n 0, 1) := by decide +kernel
theorem dX11_judge_59 : decode cX11_judge 59 = .ok (.getfield 12, 3) := by decide +kernel
theorem dX11_judge_62 : decode cX11_judge 62 = .ok (.getfield 145, 3) := by decide +kernel
theorem dX11_judge_65 : decode cX11_judge 65 = .ok (.iload_n 3, 1) := by decide +kernel
theorem dX11_judge_66 : decode cX11_judge 66 = .ok (.aaload, 1) := by decide +kernel
theorem dX11_judge_67 : decode cX11_judge 67 = .ok (.aload_n 0, 1) := by decide +kernel
theorem dX11_judge_68 : decode cX11_judge 68 = .ok (.getfield 28, 3) := by decide +kernel
theorem dX11_judge_71 : decode cX11_judge 71 = .ok (.getfield 188, 3) := by decide +kernel
theorem dX11_judge_74 : decode cX11_judge 74 = .ok (.invokevirtual 208, 3) := by decide +kernel
theorem dX11_judge_77 : decode cX11_judge 77 = .ok (.aload_n 0, 1) := by decide +kernel
theorem dX11_judge_78 : decode cX11_judge 78 = .ok (.getfield 28, 3) := by decide +kernel
theorem dX11_judge_81 : decode cX11_judge 81 = .ok (.aload_n 0, 1) := by decide +kernel
theorem dX11_judge_82 : decode cX11_judge 82 = .ok (.getfield 28, 3) := by decide +kernel
theorem dX11_judge_85 : decode cX11_judge 85 = .ok (.getfield 188, 3) := by decide +kernel
theorem dX11_judge_88 : decode cX11_judge 88 = .ok (.invokevirtual 212, 3) := by decide +kernel
theorem dX11_judge_91 : decode cX11_judge 91 = .ok (.aload_n 0, 1) := by decide +kernel
theorem dX11_judge_92 : decode cX11_judge 92 = .ok (.getfield 63, 3) := by decide +kernel
theorem dX11_judge_95 : decode cX11_judge 95 = .ok (.iload_n 1, 1) := by decide +kernel
theorem dX11_judge_96 : decode cX11_judge 96 = .ok (.iload_n 3, 1) := by decide +kernel
theorem dX11_judge_97 : decode cX11_judge 97 = .ok (.invokevirtual 247, 3) := by decide +kernel
theorem dX11_judge_100 : decode cX11_judge 100 = .ok (.lcmp, 1) := by decide +kernel
theorem dX11_judge_101 : decode cX11_judge 101 = .ok (.ifCond .eq 5, 3) := by decide +kernel
theorem dX11_judge_104 : decode cX11_judge 104 = .ok (.iload_n 3, 1) := by decide +kernel
theorem dX11_judge_105 : decode cX11_judge 105 = .ok (.ireturn, 1) := by decide +kernel
theorem dX11_judge_106 : decode cX11_judge 106 = .ok (.iinc 3 1, 3) := by decide +kernel
theorem dX11_judge_109 : decode cX11_judge 109 = .ok (.goto (-71), 3) := by decide +kernel
theorem dX11_judge_112 : decode cX11_judge 112 = .ok (.iload_n 2, 1) := by decide +kernel
theorem dX11_judge_113 : decode cX11_judge 113 = .ok (.aload_n 0, 1) := by decide +kernel
theorem dX11_judge_114 : decode cX11_judge 114 = .ok (.getfield 12, 3) := by decide +kernel
theorem dX11_judge_117 : decode cX11_judge 117 = .ok (.getfield 141, 3) := by decide +kernel
theorem dX11_judge_120 : decode cX11_judge 120 = .ok (.if_icmp .ge 10, 3) := by decide +kernel
theorem dX11_judge_123 : decode cX11_judge 123 = .ok (.bipush 100, 2) := by decide +kernel
theorem dX11_judge_125 : decode cX11_judge 125 = .ok (.iload_n 2, 1) := by decide +kernel
theorem dX11_judge_126 : decode cX11_judge 126 = .ok (.iadd, 1) := by decide +kernel
theorem dX11_judge_127 : decode cX11_judge 127 = .ok (.goto 5, 3) := by decide +kernel
theorem dX11_judge_130 : decode cX11_judge 130 = .ok (.bipush (-2), 2) := by decide +kernel
theorem dX11_judge_132 : decode cX11_judge 132 = .ok (.ireturn, 1) := by decide +kernel
set_option maxHeartbeats 4000000 in
set_option maxRecDepth 100000 in
theorem cn_X11_judge {l : Launch} {cA : Nat → ClassId} {ad : Nat → Nat} {D : va_G} {E : Nat → Nat} {A : Nat → Prop} {x1 : Int32} {s0 sr : SS} {rr : Int32} (hf : f_X11_judge x1 s0 = some (rr, sr)) : zCon Ox Nx cA ad D E l yX11_judge cX11_judge 4 (some .int) 4 A [.ref (ad 0), .int x1] s0 (some (.int rr)) sr := by
  refine zstart (own := RX11) hOx (by decide) rfl (Nat.le_of_ble_eq_true rfl) ?_
  intro p e s m args below meth c X hP ls hl
  have hx := X.1
  have hb := X.2.1
  have hl : lv_has ls 4 [(0, .ref (ad 0)), (1, .int x1)] := hl
  have hS : va_S A s.heap s.heap [] := va_S.rf
  have hc_38 : ∀ (n38 : Nat) (x1 : Int32) (x2 : Int32) (x3 : Int32) (s1 : SS) (H : Heap) (locs : List Loc) (ls : Array Slot), lv_has ls 4 [(0, .ref (ad 0)), (1, .int x1), (2, .int x2), (3, .int x3)] → va_P D ZCL (zw Ox Nx cA ad s1) H → va_S A s.heap H locs → f_X11_judge_c38 n38 x1 x2 x3 s1 = some (rr, sr) → W p l e (zrm 4) s m args below meth c H locs 0 0 (MQ below (zQc Ox Nx cA ad D A (some (.int rr)) sr) args s 0 0 A) (F0 m 38 ls []) := by
    intro n38
    induction n38 with
    | zero =>
      intro x1 x2 x3 s1 H locs ls hl hP hS hf
      rw [f_X11_judge_c38] at hf
      cases hf
    | succ n38 ih38 =>
      have hc_112 : ∀ (x2 : Int32) (s1 : SS) (H : Heap) (locs : List Loc) (ls : Array Slot), lv_has ls 4 [(0, .ref (ad 0)), (2, .int x2)] → va_P D ZCL (zw Ox Nx cA ad s1) H → va_S A s.heap H locs → f_X11_judge_c112 x2 s1 = some (rr, sr) → W p l e (zrm 4) s m args below meth c H locs 0 0 (MQ below (zQc Ox Nx cA ad D A (some (.int rr)) sr) args s 0 0 A) (F0 m 112 ls []) := by
        intro x2 s1 H locs ls hl hP hS hf
        rw [f_X11_judge_c112] at hf
        refine lv_iload_n hx hb dX11_judge_112 rfl (lv_at hl 1 rfl) ?_
        refine lv_aload_n hx hb dX11_judge_113 rfl (lv_at hl 0 rfl) ?_
        refine gf_X11_12 X hP (k := 0) (q := 1) rfl dX11_judge_114 rfl ?_
        refine gf_X11_141 X hP (k := 1) rfl dX11_judge_117 ?_
        refine zicmp_ge (tgt := 130) hx hb dX11_judge_120 (by decide) hf (fun hf => ?_) (fun hf => ?_)
        · refine lv_bipush (v := (-2)) hx hb dX11_judge_130 (by decide) ?_
          exact zret_i X hP hS hf rfl dX11_judge_132
        · refine lv_bipush (v := 100) hx hb dX11_judge_123 (by decide) ?_
          refine lv_iload_n hx hb dX11_judge_125 rfl (lv_at hl 1 rfl) ?_
          refine lv_iadd hx hb dX11_judge_126 ?_
          refine lv_goto (tgt := 132) hx hb dX11_judge_127 (by decide) ?_
          exact zret_i X hP hS hf rfl dX11_judge_132
      intro x1 x2 x3 s1 H locs ls hl hP hS hf
      rw [f_X11_judge_c38] at hf
      refine lv_iload_n hx hb dX11_judge_38 rfl (lv_at hl 3 rfl) ?_
      refine lv_iload_n hx hb dX11_judge_39 rfl (lv_at hl 2 rfl) ?_
      refine zicmp_ge (tgt := 112) hx hb dX11_judge_40 (by decide) hf (fun hf => ?_) (fun hf => ?_)
      · exact hc_112 x2 s1 _ _ _ (lv_sub hl [0, 2] rfl) hP hS hf
      · refine lv_iload_n hx hb dX11_judge_43 rfl (lv_at hl 3 rfl) ?_
        refine lv_aload_n hx hb dX11_judge_44 rfl (lv_at hl 0 rfl) ?_
        refine gf_X11_12 X hP (k := 0) (q := 1) rfl dX11_judge_45 rfl ?_
        refine gf_X11_141 X hP (k := 1) rfl dX11_judge_48 ?_
        refine zicmp_ge (tgt := 112) hx hb dX11_judge_51 (by decide) hf (fun hf => ?_) (fun hf => ?_)
        · exact hc_112 x2 s1 _ _ _ (lv_sub hl [0, 2] rfl) hP hS hf
        · refine lv_aload_n hx hb dX11_judge_54 rfl (lv_at hl 0 rfl) ?_
          refine gf_X11_28 X hP (k := 0) (q := 5) rfl dX11_judge_55 rfl ?_
          refine lv_aload_n hx hb dX11_judge_58 rfl (lv_at hl 0 rfl) ?_
          refine gf_X11_12 X hP (k := 0) (q := 1) rfl dX11_judge_59 rfl ?_
          refine gf_X11_145 X hP (k := 1) (q := 13) rfl dX11_judge_62 rfl ?_
          refine lv_iload_n hx hb dX11_judge_65 rfl (lv_at hl 3 rfl) ?_
          obtain ⟨g10, hf⟩ := zgd hf
          obtain ⟨g12, hf⟩ := zgd hf
          obtain ⟨n11, rn11, on11, in11⟩ := zok_of g10
          refine zald_q X hP zlr_x (k := 13) on11 in11 dX11_judge_66 rfl ?_
          refine lv_aload_n hx hb dX11_judge_67 rfl (lv_at hl 0 rfl) ?_
          refine gf_X11_28 X hP (k := 0) (q := 5) rfl dX11_judge_68 rfl ?_
          refine gf_X11_188 X hP (k := 5) (q := 21) rfl dX11_judge_71 rfl ?_
          obtain ⟨r13, s14, h15, hf⟩ := zbd_some hf
          refine zcallV X hP hS hl.1 (k := 5) (As := [.ref (ad (zrr Ox 13 x3)), .ref (ad 21)]) (rest := []) (cn_X8_takeNumbers h15) cw_X8_takeNumbers zp_8 rfl (by decide) rfl ml_X11_208 (by decide) rfl rfl (Nat.le_of_ble_eq_true rfl) dX11_judge_74 (fun H locs hP hS => ?_)
          refine lv_aload_n hx hb dX11_judge_77 rfl (lv_at hl 0 rfl) ?_
          refine gf_X11_28 X hP (k := 0) (q := 5) rfl dX11_judge_78 rfl ?_
          refine lv_aload_n hx hb dX11_judge_81 rfl (lv_at hl 0 rfl) ?_
          refine gf_X11_28 X hP (k := 0) (q := 5) rfl dX11_judge_82 rfl ?_
          refine gf_X11_188 X hP (k := 5) (q := 21) rfl dX11_judge_85 rfl ?_
          obtain ⟨r16, s17, h18, hf⟩ := zbd_some hf
          refine zcallV X hP hS hl.1 (k := 5) (As := [.ref (ad 21)]) (rest := []) (cn_X8_metOf h18) cw_X8_metOf zp_8 rfl (by decide) rfl ml_X11_212 (by decide) rfl rfl (Nat.le_of_ble_eq_true rfl) dX11_judge_88 (fun H locs hP hS => ?_)
          refine lv_aload_n hx hb dX11_judge_91 rfl (lv_at hl 0 rfl) ?_
          refine gf_X11_63 X hP (k := 0) (q := 11) rfl dX11_judge_92 rfl ?_
          refine lv_iload_n hx hb dX11_judge_95 rfl (lv_at hl 1 rfl) ?_
          refine lv_iload_n hx hb dX11_judge_96 rfl (lv_at hl 3 rfl) ?_
          obtain ⟨r19, s20, h21, hf⟩ := zbd_some hf
          refine zcallV X hP hS hl.1 (k := 11) (As := [.int x1, .int x3]) (rest := [.long r16]) (cn_X5_valueAt h21) cw_X5_valueAt zp_5 rfl (by decide) rfl ml_X11_247 (by decide) rfl rfl (Nat.le_of_ble_eq_true rfl) dX11_judge_97 (fun H locs hP hS => ?_)
          refine W.lcmp hx hb dX11_judge_100 ?_
          refine zif_eq (tgt := 106) hx hb dX11_judge_101 (by decide) hf (fun hf => ?_) (fun hf => ?_)
          · refine lv_iinc (v := (x3 + 1)) (lv' := [(3, .int (x3 + 1)), (0, .ref (ad 0)), (1, .int x1), (2, .int x2)]) hx hb dX11_judge_106 hl (k := 3) rfl rfl (by decide) rfl (fun ls hl => ?_)
            refine lv_goto (tgt := 38) hx hb dX11_judge_109 (by decide) ?_
            exact ih38 x1 x2 (x3 + 1) s20 _ _ _ (lv_sub hl [1, 2, 3, 0] rfl) hP hS hf
          · refine lv_iload_n hx hb dX11_judge_104 rfl (lv_at hl 3 rfl) ?_
            exact zret_i X hP hS hf rfl dX11_judge_105
  rw [f_X11_judge] at hf
  refine lv_aload_n hx hb dX11_judge_0 rfl (lv_at hl 0 rfl) ?_
  refine gf_X11_63 X hP (k := 0) (q := 11) rfl dX11_judge_1 rfl ?_
  refine lv_iload_n hx hb dX11_judge_4 rfl (lv_at hl 1 rfl) ?_
  obtain ⟨r1, s2, h3, hf⟩ := zbd_some hf
  refine zcallV X hP hS hl.1 (k := 11) (As := [.int x1]) (rest := []) (cn_X5_isOne h3) cw_X5_isOne zp_5 rfl (by decide) rfl ml_X11_320 (by decide) rfl rfl (Nat.le_of_ble_eq_true rfl) dX11_judge_5 (fun H locs hP hS => ?_)
  refine zif_ne (tgt := 13) hx hb dX11_judge_8 (by decide) hf (fun hf => ?_) (fun hf => ?_)
  · refine lv_aload_n hx hb dX11_judge_13 rfl (lv_at hl 0 rfl) ?_
    refine gf_X11_63 X hP (k := 0) (q := 11) rfl dX11_judge_14 rfl ?_
    refine lv_iload_n hx hb dX11_judge_17 rfl (lv_at hl 1 rfl) ?_
    obtain ⟨r4, s5, h6, hf⟩ := zbd_some hf
    refine zcallV X hP hS hl.1 (k := 11) (As := [.int x1]) (rest := []) (cn_X5_isThere h6) cw_X5_isThere zp_5 rfl (by decide) rfl ml_X11_220 (by decide) rfl rfl (Nat.le_of_ble_eq_true rfl) dX11_judge_18 (fun H locs hP hS => ?_)
    refine zif_ne (tgt := 27) hx hb dX11_judge_21 (by decide) hf (fun hf => ?_) (fun hf => ?_)
    · refine lv_aload_n hx hb dX11_judge_27 rfl (lv_at hl 0 rfl) ?_
      refine gf_X11_63 X hP (k := 0) (q := 11) rfl dX11_judge_28 rfl ?_
      refine lv_iload_n hx hb dX11_judge_31 rfl (lv_at hl 1 rfl) ?_
      obtain ⟨r7, s8, h9, hf⟩ := zbd_some hf
      refine zcallV X hP hS hl.1 (k := 11) (As := [.int x1]) (rest := []) (cn_X5_sizeOf h9) cw_X5_sizeOf zp_5 rfl (by decide) rfl ml_X11_244 (by decide) rfl rfl (Nat.le_of_ble_eq_true rfl) dX11_judge_32 (fun H locs hP hS => ?_)
      refine lv_istore_n (lv' := [(2, .int r7), (0, .ref (ad 0)), (1, .int x1)]) hx hb dX11_judge_35 rfl hl (by decide) rfl (fun ls hl => ?_)
      refine lv_iconst (v := 0) hx hb dX11_judge_36 (by decide) ?_
      refine lv_istore_n (lv' := [(3, .int 0), (2, .int r7), (0, .ref (ad 0)), (1, .int x1)]) hx hb dX11_judge_37 rfl hl (by decide) rfl (fun ls hl => ?_)
      exact hc_38 ZF x1 r7 0 s8 _ _ _ (lv_sub hl [2, 3, 1, 0] rfl) hP hS hf
    · refine lv_bipush (v := (-11)) hx hb dX11_judge_24 (by decide) ?_
      exact zret_i X hP hS hf rfl dX11_judge_26
  · refine lv_iconst (v := (-1)) hx hb dX11_judge_11 (by decide) ?_
    exact zret_i X hP hS hf rfl dX11_judge_12
theorem dX11_lots_0 : decode cX11_lots 0 = .ok (.iload_n 1, 1) := by decide +kernel
theorem dX11_lots_1 : decode cX11_lots 1 = .ok (.iconst 1, 1) := by decide +kernel
theorem dX11_lots_2 : decode cX11_lots 2 = .ok (.if_icmp .lt 18, 3) := by decide +kernel
theorem dX11_lots_5 : decode cX11_lots 5 = .ok (.iload_n 1, 1) := by decide +kernel
theorem dX11_lots_6 : decode cX11_lots 6 = .ok (.bipush 50, 2) := by decide +kernel
theorem dX11_lots_8 : decode cX11_lots 8 = .ok (.if_icmp .gt 12, 3) := by decide +kernel
theorem dX11_lots_11 : decode cX11_lots 11 = .ok (.iload_n 3, 1) := by decide +kernel
theorem dX11_lots_12 : decode cX11_lots 12 = .ok (.ifCond .lt 8, 3) := by decide +kernel
theorem dX11_lots_15 : decode cX11_lots 15 = .ok (.iload_n 3, 1) := by decide +kernel
theorem dX11_lots_16 : decode cX11_lots 16 = .ok (.iconst 1, 1) := by decide +kernel
theorem dX11_lots_17 : decode cX11_lots 17 = .ok (.if_icmp .le 7, 3) := by decide +kernel
theorem dX11_lots_20 : decode cX11_lots 20 = .ok (.ldc2_w 132, 3) := by decide +kernel
theorem dX11_lots_23 : decode cX11_lots 23 = .ok (.lreturn, 1) := by decide +kernel
theorem dX11_lots_24 : decode cX11_lots 24 = .ok (.aload_n 0, 1) := by decide +kernel
theorem dX11_lots_25 : decode cX11_lots 25 = .ok (.getfield 12, 3) := by decide +kernel
theorem dX11_lots_28 : decode cX11_lots 28 = .ok (.getfield 141, 3) := by decide +kernel
theorem dX11_lots_31 : decode cX11_lots 31 = .ok (.ifCond .ne 7, 3) := by decide +kernel
theorem dX11_lots_34 : decode cX11_lots 34 = .ok (.ldc2_w 227, 3) := by decide +kernel
theorem dX11_lots_37 : decode cX11_lots 37 = .ok (.lreturn, 1) := by decide +kernel
theorem dX11_lots_38 : decode cX11_lots 38 = .ok (.iload_n 2, 1) := by decide +kernel
theorem dX11_lots_39 : decode cX11_lots 39 = .ok (.istore 4, 2) := by decide +kernel
theorem dX11_lots_41 : decode cX11_lots 41 = .ok (.lconst 0, 1) := by decide +kernel
theorem dX11_lots_42 : decode cX11_lots 42 = .ok (.lstore 5, 2) := by decide +kernel
theorem dX11_lots_44 : decode cX11_lots 44 = .ok (.lconst 0, 1) := by decide +kernel
theorem dX11_lots_45 : decode cX11_lots 45 = .ok (.lstore 7, 2) := by decide +kernel
theorem dX11_lots_47 : decode cX11_lots 47 = .ok (.iconst 0, 1) := by decide +kernel
theorem dX11_lots_48 : decode cX11_lots 48 = .ok (.istore 9, 2) := by decide +kernel
theorem dX11_lots_50 : decode cX11_lots 50 = .ok (.iload 9, 2) := by decide +kernel
theorem dX11_lots_52 : decode cX11_lots 52 = .ok (.iload_n 1, 1) := by decide +kernel
theorem dX11_lots_53 : decode cX11_lots 53 = .ok (.if_icmp .ge 132, 3) := by decide +kernel
theorem dX11_lots_56 : decode cX11_lots 56 = .ok (.aload_n 0, 1) := by decide +kernel
theorem dX11_lots_57 : decode cX11_lots 57 = .ok (.getfield 28, 3) := by decide +kernel
theorem dX11_lots_60 : decode cX11_lots 60 = .ok (.aload_n 0, 1) := by decide +kernel
theorem dX11_lots_61 : decode cX11_lots 61 = .ok (.getfield 28, 3) := by decide +kernel
theorem dX11_lots_64 : decode cX11_lots 64 = .ok (.getfield 188, 3) := by decide +kernel
theorem dX11_lots_67 : decode cX11_lots 67 = .ok (.invokevirtual 240, 3) := by decide +kernel
theorem dX11_lots_70 : decode cX11_lots 70 = .ok (.iconst 0, 1) := by decide +kernel
theorem dX11_lots_71 : decode cX11_lots 71 = .ok (.istore 10, 2) := by decide +kernel
theorem dX11_lots_73 : decode cX11_lots 73 = .ok (.iload 10, 2) := by decide +kernel
theorem dX11_lots_75 : decode cX11_lots 75 = .ok (.aload_n 0, 1) := by decide +kernel
theorem dX11_lots_76 : decode cX11_lots 76 = .ok (.getfield 12, 3) := by decide +kernel
theorem dX11_lots_79 : decode cX11_lots 79 = .ok (.getfield 74, 3) := by decide +kernel
theorem dX11_lots_82 : decode cX11_lots 82 = .ok (.invokevirtual 115, 3) := by decide +kernel
theorem dX11_lots_85 : decode cX11_lots 85 = .ok (.if_icmp .ge 54, 3) := by decide +kernel
theorem dX11_lots_88 : decode cX11_lots 88 = .ok (.iload 4, 2) := by decide +kernel
theorem dX11_lots_90 : decode cX11_lots 90 = .ok (.ldc_w 323, 3) := by decide +kernel
theorem dX11_lots_93 : decode cX11_lots 93 = .ok (.imul, 1) := by decide +kernel
theorem dX11_lots_94 : decode cX11_lots 94 = .ok (.sipush 12345, 3) := by decide +kernel
theorem dX11_lots_97 : decode cX11_lots 97 = .ok (.iadd, 1) := by decide +kernel
theorem dX11_lots_98 : decode cX11_lots 98 = .ok (.istore 4, 2) := by decide +kernel
theorem dX11_lots_100 : decode cX11_lots 100 = .ok (.aload_n 0, 1) := by decide +kernel
theorem dX11_lots_101 : decode cX11_lots 101 = .ok (.getfield 28, 3) := by decide +kernel
theorem dX11_lots_104 : decode cX11_lots 104 = .ok (.aload_n 0, 1) := by decide +kernel
theorem dX11_lots_105 : decode cX11_lots 105 = .ok (.getfield 12, 3) := by decide +kernel
theorem dX11_lots_108 : decode cX11_lots 108 = .ok (.getfield 145, 3) := by decide +kernel
theorem dX11_lots_111 : decode cX11_lots 111 = .ok (.iload 4, 2) := by decide +kernel
theorem dX11_lots_113 : decode cX11_lots 113 = .ok (.ldc_w 324, 3) := by decide +kernel
theorem dX11_lots_116 : decode cX11_lots 116 = .ok (.iand, 1) := by decide +kernel
theorem dX11_lots_117 : decode cX11_lots 117 = .ok (.ldc_w 325, 3) := by decide +kernel
theorem dX11_lots_120 : decode cX11_lots 120 = .ok (.idiv, 1) := by decide +kernel
theorem dX11_lots_121 : decode cX11_lots 121 = .ok (.aload_n 0, 1) := by decide +kernel
theorem dX11_lots_122 : decode cX11_lots 122 = .ok (.getfield 12, 3) := by decide +kernel
theorem dX11_lots_125 : decode cX11_lots 125 = .ok (.getfield 141, 3) := by decide +kernel
theorem dX11_lots_128 : decode cX11_lots 128 = .ok (.irem, 1) := by decide +kernel
theorem dX11_lots_129 : decode cX11_lots 129 = .ok (.aaload, 1) := by decide +kernel
theorem dX11_lots_130 : decode cX11_lots 130 = .ok (.invokevirtual 216, 3) := by decide +kernel
theorem dX11_lots_133 : decode cX11_lots 133 = .ok (.iinc 10 1, 3) := by decide +kernel
theorem dX11_lots_136 : decode cX11_lots 136 = .ok (.goto (-63), 3) := by decide +kernel
theorem dX11_lots_139 : decode cX11_lots 139 = .ok (.aload_n 0, 1) := by decide +kernel
theorem dX11_lots_140 : decode cX11_lots 140 = .ok (.getfield 28, 3) := by decide +kernel
theorem dX11_lots_143 : decode cX11_lots 143 = .ok (.aload_n 0, 1) := by decide +kernel
theorem dX11_lots_144 : decode cX11_lots 144 = .ok (.getfield 28, 3) := by decide +kernel
theorem dX11_lots_147 : decode cX11_lots 147 = .ok (.getfield 188, 3) := by decide +kernel
theorem dX11_lots_150 : decode cX11_lots 150 = .ok (.invokevirtual 212, 3) := by decide +kernel
theorem dX11_lots_153 : decode cX11_lots 153 = .ok (.lstore 10, 2) := by decide +kernel
theorem dX11_lots_155 : decode cX11_lots 155 = .ok (.lload 5, 2) := by decide +kernel
theorem dX11_lots_157 : decode cX11_lots 157 = .ok (.lload 10, 2) := by decide +kernel
theorem dX11_lots_159 : decode cX11_lots 159 = .ok (.ladd, 1) := by decide +kernel
theorem dX11_lots_160 : decode cX11_lots 160 = .ok (.lstore 5, 2) := by decide +kernel
theorem dX11_lots_162 : decode cX11_lots 162 = .ok (.lload 7, 2) := by decide +kernel
theorem dX11_lots_164 : decode cX11_lots 164 = .ok (.lload 10, 2) := by decide +kernel
theorem dX11_lots_166 : decode cX11_lots 166 = .ok (.lconst 0, 1) := by decide +kernel
theorem dX11_lots_167 : decode cX11_lots 167 = .ok (.lcmp, 1) := by decide +kernel
theorem dX11_lots_168 : decode cX11_lots 168 = .ok (.ifCond .ne 7, 3) := by decide +kernel
theorem dX11_lots_171 : decode cX11_lots 171 = .ok (.lconst 1, 1) := by decide +kernel
theorem dX11_lots_172 : decode cX11_lots 172 = .ok (.goto 4, 3) := by decide +kernel
theorem dX11_lots_175 : decode cX11_lots 175 = .ok (.lconst 0, 1) := by decide +kernel
theorem dX11_lots_176 : decode cX11_lots 176 = .ok (.ladd, 1) := by decide +kernel
theorem dX11_lots_177 : decode cX11_lots 177 = .ok (.lstore 7, 2) := by decide +kernel
theorem dX11_lots_179 : decode cX11_lots 179 = .ok (.iinc 9 1, 3) := by decide +kernel
theorem dX11_lots_182 : decode cX11_lots 182 = .ok (.goto (-132), 3) := by decide +kernel
theorem dX11_lots_185 : decode cX11_lots 185 = .ok (.iload_n 3, 1) := by decide +kernel
theorem dX11_lots_186 : decode cX11_lots 186 = .ok (.ifCond .ne 8, 3) := by decide +kernel
theorem dX11_lots_189 : decode cX11_lots 189 = .ok (.lload 5, 2) := by decide +kernel
theorem dX11_lots_191 : decode cX11_lots 191 = .ok (.goto 5, 3) := by decide +kernel
theorem dX11_lots_194 : decode cX11_lots 194 = .ok (.lload 7, 2) := by decide +kernel
theorem dX11_lots_196 : decode cX11_lots 196 = .ok (.lreturn, 1) := by decide +kernel
set_option maxHeartbeats 4000000 in
set_option maxRecDepth 100000 in
theorem cn_X11_lots {l : Launch} {cA : Nat → ClassId} {ad : Nat → Nat} {D : va_G} {E : Nat → Nat} {A : Nat → Prop} {x1 : Int32} {x2 : Int32} {x3 : Int32} {s0 sr : SS} {rr : Int64} (hf : f_X11_lots x1 x2 x3 s0 = some (rr, sr)) : zCon Ox Nx cA ad D E l yX11_lots cX11_lots 12 (some .long) 4 A [.ref (ad 0), .int x1, .int x2, .int x3] s0 (some (.long rr)) sr := by
  refine zstart (own := RX11) hOx (by decide) rfl (Nat.le_of_ble_eq_true rfl) ?_
  intro p e s m args below meth c X hP ls hl
  have hx := X.1
  have hb := X.2.1
  have hl : lv_has ls 12 [(0, .ref (ad 0)), (1, .int x1), (2, .int x2), (3, .int x3)] := hl
  have hS : va_S A s.heap s.heap [] := va_S.rf
  have hc_50 : ∀ (n50 : Nat) (x1 : Int32) (x3 : Int32) (x4 : Int32) (x5 : Int64) (x7 : Int64) (x9 : Int32) (s1 : SS) (H : Heap) (locs : List Loc) (ls : Array Slot), lv_has ls 12 [(0, .ref (ad 0)), (1, .int x1), (3, .int x3), (4, .int x4), (5, .long x5), (7, .long x7), (9, .int x9)] → va_P D ZCL (zw Ox Nx cA ad s1) H → va_S A s.heap H locs → f_X11_lots_c50 n50 x1 x3 x4 x5 x7 x9 s1 = some (rr, sr) → W p l e (zrm 4) s m args below meth c H locs 0 0 (MQ below (zQc Ox Nx cA ad D A (some (.long rr)) sr) args s 0 0 A) (F0 m 50 ls []) := by
    intro n50
    induction n50 with
    | zero =>
      intro x1 x3 x4 x5 x7 x9 s1 H locs ls hl hP hS hf
      rw [f_X11_lots_c50] at hf
      cases hf
    | succ n50 ih50 =>
      have hc_73 : ∀ (n73 : Nat) (x1 : Int32) (x3 : Int32) (x4 : Int32) (x5 : Int64) (x7 : Int64) (x9 : Int32) (x10 : Int32) (s1 : SS) (H : Heap) (locs : List Loc) (ls : Array Slot), lv_has ls 12 [(0, .ref (ad 0)), (1, .int x1), (3, .int x3), (4, .int x4), (5, .long x5), (7, .long x7), (9, .int x9), (10, .int x10)] → va_P D ZCL (zw Ox Nx cA ad s1) H → va_S A s.heap H locs → f_X11_lots_c73 (f_X11_lots_c50 n50) n73 x1 x3 x4 x5 x7 x9 x10 s1 = some (rr, sr) → W p l e (zrm 4) s m args below meth c H locs 0 0 (MQ below (zQc Ox Nx cA ad D A (some (.long rr)) sr) args s 0 0 A) (F0 m 73 ls []) := by
        intro n73
        induction n73 with
        | zero =>
          intro x1 x3 x4 x5 x7 x9 x10 s1 H locs ls hl hP hS hf
          rw [f_X11_lots_c73] at hf
          cases hf
        | succ n73 ih73 =>
          have hc_176 : ∀ (x1 : Int32) (x3 : Int32) (x4 : Int32) (x5 : Int64) (x9 : Int32) (t0 : Int64) (t1 : Int64) (s1 : SS) (H : Heap) (locs : List Loc) (ls : Array Slot), lv_has ls 12 [(0, .ref (ad 0)), (1, .int x1), (3, .int x3), (4, .int x4), (5, .long x5), (9, .int x9)] → va_P D ZCL (zw Ox Nx cA ad s1) H → va_S A s.heap H locs → f_X11_lots_c176 (f_X11_lots_c50 n50) x1 x3 x4 x5 x9 t0 t1 s1 = some (rr, sr) → W p l e (zrm 4) s m args below meth c H locs 0 0 (MQ below (zQc Ox Nx cA ad D A (some (.long rr)) sr) args s 0 0 A) (F0 m 176 ls [.long t0, .long t1]) := by
            intro x1 x3 x4 x5 x9 t0 t1 s1 H locs ls hl hP hS hf
            rw [f_X11_lots_c176] at hf
            refine lv_ladd hx hb dX11_lots_176 ?_
            refine lv_lstore (lv' := [(7, .long (t1 + t0)), (0, .ref (ad 0)), (1, .int x1), (3, .int x3), (4, .int x4), (5, .long x5), (9, .int x9)]) hx hb dX11_lots_177 hl (by decide) rfl (fun ls hl => ?_)
            refine lv_iinc (v := (x9 + 1)) (lv' := [(9, .int (x9 + 1)), (7, .long (t1 + t0)), (0, .ref (ad 0)), (1, .int x1), (3, .int x3), (4, .int x4), (5, .long x5)]) hx hb dX11_lots_179 hl (k := 6) rfl rfl (by decide) rfl (fun ls hl => ?_)
            refine lv_goto (tgt := 50) hx hb dX11_lots_182 (by decide) ?_
            exact ih50 x1 x3 x4 x5 (t1 + t0) (x9 + 1) s1 _ _ _ (lv_sub hl [2, 3, 4, 5, 6, 1, 0] rfl) hP hS hf
          intro x1 x3 x4 x5 x7 x9 x10 s1 H locs ls hl hP hS hf
          rw [f_X11_lots_c73] at hf
          refine lv_iload hx hb dX11_lots_73 (lv_at hl 7 rfl) ?_
          refine lv_aload_n hx hb dX11_lots_75 rfl (lv_at hl 0 rfl) ?_
          refine gf_X11_12 X hP (k := 0) (q := 1) rfl dX11_lots_76 rfl ?_
          refine gf_X11_74 X hP (k := 1) (q := 3) rfl dX11_lots_79 rfl ?_
          obtain ⟨r4, s5, h6, hf⟩ := zbd_some hf
          refine zcallV X hP hS hl.1 (k := 3) (As := []) (rest := [.int x10]) (cn_X7_dimension h6) cw_X7_dimension zp_7 rfl (by decide) rfl ml_X11_115 (by decide) rfl rfl (Nat.le_of_ble_eq_true rfl) dX11_lots_82 (fun H locs hP hS => ?_)
          refine zicmp_ge (tgt := 139) hx hb dX11_lots_85 (by decide) hf (fun hf => ?_) (fun hf => ?_)
          · refine lv_aload_n hx hb dX11_lots_139 rfl (lv_at hl 0 rfl) ?_
            refine gf_X11_28 X hP (k := 0) (q := 5) rfl dX11_lots_140 rfl ?_
            refine lv_aload_n hx hb dX11_lots_143 rfl (lv_at hl 0 rfl) ?_
            refine gf_X11_28 X hP (k := 0) (q := 5) rfl dX11_lots_144 rfl ?_
            refine gf_X11_188 X hP (k := 5) (q := 21) rfl dX11_lots_147 rfl ?_
            obtain ⟨r7, s8, h9, hf⟩ := zbd_some hf
            refine zcallV X hP hS hl.1 (k := 5) (As := [.ref (ad 21)]) (rest := []) (cn_X8_metOf h9) cw_X8_metOf zp_8 rfl (by decide) rfl ml_X11_212 (by decide) rfl rfl (Nat.le_of_ble_eq_true rfl) dX11_lots_150 (fun H locs hP hS => ?_)
            refine lv_lstore (lv' := [(10, .long r7), (0, .ref (ad 0)), (1, .int x1), (3, .int x3), (4, .int x4), (5, .long x5), (7, .long x7), (9, .int x9)]) hx hb dX11_lots_153 hl (by decide) rfl (fun ls hl => ?_)
            refine lv_lload hx hb dX11_lots_155 (lv_at hl 5 rfl) ?_
            refine lv_lload hx hb dX11_lots_157 (lv_at hl 0 rfl) ?_
            refine lv_ladd hx hb dX11_lots_159 ?_
            refine lv_lstore (lv' := [(5, .long (x5 + r7)), (10, .long r7), (0, .ref (ad 0)), (1, .int x1), (3, .int x3), (4, .int x4), (7, .long x7), (9, .int x9)]) hx hb dX11_lots_160 hl (by decide) rfl (fun ls hl => ?_)
            refine lv_lload hx hb dX11_lots_162 (lv_at hl 6 rfl) ?_
            refine lv_lload hx hb dX11_lots_164 (lv_at hl 1 rfl) ?_
            refine lv_lconst (v := 0) hx hb dX11_lots_166 (by decide) ?_
            refine W.lcmp hx hb dX11_lots_167 ?_
            refine zif_ne (tgt := 175) hx hb dX11_lots_168 (by decide) hf (fun hf => ?_) (fun hf => ?_)
            · refine lv_lconst (v := 0) hx hb dX11_lots_175 (by decide) ?_
              exact hc_176 x1 x3 x4 (x5 + r7) x9 0 x7 s8 _ _ _ (lv_sub hl [2, 3, 4, 5, 0, 7] rfl) hP hS hf
            · refine lv_lconst (v := 1) hx hb dX11_lots_171 (by decide) ?_
              refine lv_goto (tgt := 176) hx hb dX11_lots_172 (by decide) ?_
              exact hc_176 x1 x3 x4 (x5 + r7) x9 1 x7 s8 _ _ _ (lv_sub hl [2, 3, 4, 5, 0, 7] rfl) hP hS hf
          · refine lv_iload hx hb dX11_lots_88 (lv_at hl 3 rfl) ?_
            refine zldcw X co_X11_323 dX11_lots_90 ?_
            refine lv_imul hx hb dX11_lots_93 ?_
            refine lv_sipush (v := 12345) hx hb dX11_lots_94 (by decide) ?_
            refine lv_iadd hx hb dX11_lots_97 ?_
            refine lv_istore (lv' := [(4, .int ((x4 * (1103515245 : Int32)) + (12345 : Int32))), (0, .ref (ad 0)), (1, .int x1), (3, .int x3), (5, .long x5), (7, .long x7), (9, .int x9), (10, .int x10)]) hx hb dX11_lots_98 hl (by decide) rfl (fun ls hl => ?_)
            refine lv_aload_n hx hb dX11_lots_100 rfl (lv_at hl 1 rfl) ?_
            refine gf_X11_28 X hP (k := 0) (q := 5) rfl dX11_lots_101 rfl ?_
            refine lv_aload_n hx hb dX11_lots_104 rfl (lv_at hl 1 rfl) ?_
            refine gf_X11_12 X hP (k := 0) (q := 1) rfl dX11_lots_105 rfl ?_
            refine gf_X11_145 X hP (k := 1) (q := 13) rfl dX11_lots_108 rfl ?_
            refine lv_iload hx hb dX11_lots_111 (lv_at hl 0 rfl) ?_
            refine zldcw X co_X11_324 dX11_lots_113 ?_
            refine lv_iand hx hb dX11_lots_116 ?_
            refine zldcw X co_X11_325 dX11_lots_117 ?_
            refine lv_idiv hx hb dX11_lots_120 (by decide) ?_
            refine lv_aload_n hx hb dX11_lots_121 rfl (lv_at hl 1 rfl) ?_
            refine gf_X11_12 X hP (k := 0) (q := 1) rfl dX11_lots_122 rfl ?_
            refine gf_X11_141 X hP (k := 1) rfl dX11_lots_125 ?_
            obtain ⟨z10, hf⟩ := zgp hf
            refine lv_irem hx hb dX11_lots_128 z10 ?_
            obtain ⟨g11, hf⟩ := zgd hf
            obtain ⟨g13, hf⟩ := zgd hf
            obtain ⟨n12, rn12, on12, in12⟩ := zok_of g11
            refine zald_q X hP zlr_x (k := 13) on12 in12 dX11_lots_129 rfl ?_
            obtain ⟨r14, s15, h16, hf⟩ := zbd_some hf
            refine zcallV X hP hS hl.1 (k := 5) (As := [.ref (ad (zrr Ox 13 ((((((x4 * (1103515245 : Int32)) + (12345 : Int32)) &&& (2147483647 : Int32)) / (65536 : Int32)) - ((((x4 * (1103515245 : Int32)) + (12345 : Int32)) &&& (2147483647 : Int32)) / (65536 : Int32)) / (s5.1 1 2) * (s5.1 1 2)))))]) (rest := []) (cn_X8_multiplyBy h16) cw_X8_multiplyBy zp_8 rfl (by decide) rfl ml_X11_216 (by decide) rfl rfl (Nat.le_of_ble_eq_true rfl) dX11_lots_130 (fun H locs hP hS => ?_)
            refine lv_iinc (v := (x10 + 1)) (lv' := [(10, .int (x10 + 1)), (4, .int ((x4 * (1103515245 : Int32)) + (12345 : Int32))), (0, .ref (ad 0)), (1, .int x1), (3, .int x3), (5, .long x5), (7, .long x7), (9, .int x9)]) hx hb dX11_lots_133 hl (k := 7) rfl rfl (by decide) rfl (fun ls hl => ?_)
            refine lv_goto (tgt := 73) hx hb dX11_lots_136 (by decide) ?_
            exact ih73 x1 x3 ((x4 * (1103515245 : Int32)) + (12345 : Int32)) x5 x7 x9 (x10 + 1) s15 _ _ _ (lv_sub hl [2, 3, 4, 1, 5, 6, 7, 0] rfl) hP hS hf
      intro x1 x3 x4 x5 x7 x9 s1 H locs ls hl hP hS hf
      rw [f_X11_lots_c50] at hf
      refine lv_iload hx hb dX11_lots_50 (lv_at hl 6 rfl) ?_
      refine lv_iload_n hx hb dX11_lots_52 rfl (lv_at hl 1 rfl) ?_
      refine zicmp_ge (tgt := 185) hx hb dX11_lots_53 (by decide) hf (fun hf => ?_) (fun hf => ?_)
      · refine lv_iload_n hx hb dX11_lots_185 rfl (lv_at hl 2 rfl) ?_
        refine zif_ne (tgt := 194) hx hb dX11_lots_186 (by decide) hf (fun hf => ?_) (fun hf => ?_)
        · refine lv_lload hx hb dX11_lots_194 (lv_at hl 5 rfl) ?_
          exact zret_l X hP hS hf dX11_lots_196
        · refine lv_lload hx hb dX11_lots_189 (lv_at hl 4 rfl) ?_
          refine lv_goto (tgt := 196) hx hb dX11_lots_191 (by decide) ?_
          exact zret_l X hP hS hf dX11_lots_196
      · refine lv_aload_n hx hb dX11_lots_56 rfl (lv_at hl 0 rfl) ?_
        refine gf_X11_28 X hP (k := 0) (q := 5) rfl dX11_lots_57 rfl ?_
        refine lv_aload_n hx hb dX11_lots_60 rfl (lv_at hl 0 rfl) ?_
        refine gf_X11_28 X hP (k := 0) (q := 5) rfl dX11_lots_61 rfl ?_
        refine gf_X11_188 X hP (k := 5) (q := 21) rfl dX11_lots_64 rfl ?_
        obtain ⟨r1, s2, h3, hf⟩ := zbd_some hf
        refine zcallV X hP hS hl.1 (k := 5) (As := [.ref (ad 21)]) (rest := []) (cn_X8_makeOne h3) cw_X8_makeOne zp_8 rfl (by decide) rfl ml_X11_240 (by decide) rfl rfl (Nat.le_of_ble_eq_true rfl) dX11_lots_67 (fun H locs hP hS => ?_)
        refine lv_iconst (v := 0) hx hb dX11_lots_70 (by decide) ?_
        refine lv_istore (lv' := [(10, .int 0), (0, .ref (ad 0)), (1, .int x1), (3, .int x3), (4, .int x4), (5, .long x5), (7, .long x7), (9, .int x9)]) hx hb dX11_lots_71 hl (by decide) rfl (fun ls hl => ?_)
        exact hc_73 ZF x1 x3 x4 x5 x7 x9 0 s2 _ _ _ (lv_sub hl [1, 2, 3, 4, 5, 6, 7, 0] rfl) hP hS hf
  rw [f_X11_lots] at hf
  refine lv_iload_n hx hb dX11_lots_0 rfl (lv_at hl 1 rfl) ?_
  refine lv_iconst (v := 1) hx hb dX11_lots_1 (by decide) ?_
  refine zicmp_lt (tgt := 20) hx hb dX11_lots_2 (by decide) hf (fun hf => ?_) (fun hf => ?_)
  · refine zldc2 X co_X11_132 dX11_lots_20 ?_
    exact zret_l X hP hS hf dX11_lots_23
  · refine lv_iload_n hx hb dX11_lots_5 rfl (lv_at hl 1 rfl) ?_
    refine lv_bipush (v := 50) hx hb dX11_lots_6 (by decide) ?_
    refine zicmp_gt (tgt := 20) hx hb dX11_lots_8 (by decide) hf (fun hf => ?_) (fun hf => ?_)
    · refine zldc2 X co_X11_132 dX11_lots_20 ?_
      exact zret_l X hP hS hf dX11_lots_23
    · refine lv_iload_n hx hb dX11_lots_11 rfl (lv_at hl 3 rfl) ?_
      refine zif_lt (tgt := 20) hx hb dX11_lots_12 (by decide) hf (fun hf => ?_) (fun hf => ?_)
      · refine zldc2 X co_X11_132 dX11_lots_20 ?_
        exact zret_l X hP hS hf dX11_lots_23
      · refine lv_iload_n hx hb dX11_lots_15 rfl (lv_at hl 3 rfl) ?_
        refine lv_iconst (v := 1) hx hb dX11_lots_16 (by decide) ?_
        refine zicmp_le (tgt := 24) hx hb dX11_lots_17 (by decide) hf (fun hf => ?_) (fun hf => ?_)
        · refine lv_aload_n hx hb dX11_lots_24 rfl (lv_at hl 0 rfl) ?_
          refine gf_X11_12 X hP (k := 0) (q := 1) rfl dX11_lots_25 rfl ?_
          refine gf_X11_141 X hP (k := 1) rfl dX11_lots_28 ?_
          refine zif_ne (tgt := 38) hx hb dX11_lots_31 (by decide) hf (fun hf => ?_) (fun hf => ?_)
          · refine lv_iload_n hx hb dX11_lots_38 rfl (lv_at hl 2 rfl) ?_
            refine lv_istore (lv' := [(4, .int x2), (0, .ref (ad 0)), (1, .int x1), (2, .int x2), (3, .int x3)]) hx hb dX11_lots_39 hl (by decide) rfl (fun ls hl => ?_)
            refine lv_lconst (v := 0) hx hb dX11_lots_41 (by decide) ?_
            refine lv_lstore (lv' := [(5, .long 0), (4, .int x2), (0, .ref (ad 0)), (1, .int x1), (2, .int x2), (3, .int x3)]) hx hb dX11_lots_42 hl (by decide) rfl (fun ls hl => ?_)
            refine lv_lconst (v := 0) hx hb dX11_lots_44 (by decide) ?_
            refine lv_lstore (lv' := [(7, .long 0), (5, .long 0), (4, .int x2), (0, .ref (ad 0)), (1, .int x1), (2, .int x2), (3, .int x3)]) hx hb dX11_lots_45 hl (by decide) rfl (fun ls hl => ?_)
            refine lv_iconst (v := 0) hx hb dX11_lots_47 (by decide) ?_
            refine lv_istore (lv' := [(9, .int 0), (7, .long 0), (5, .long 0), (4, .int x2), (0, .ref (ad 0)), (1, .int x1), (2, .int x2), (3, .int x3)]) hx hb dX11_lots_48 hl (by decide) rfl (fun ls hl => ?_)
            exact hc_50 ZF x1 x3 x2 0 0 0 s0 _ _ _ (lv_sub hl [4, 5, 7, 3, 2, 1, 0] rfl) hP hS hf
          · refine zldc2 X co_X11_227 dX11_lots_34 ?_
            exact zret_l X hP hS hf dX11_lots_37
        · refine zldc2 X co_X11_132 dX11_lots_20 ?_
          exact zret_l X hP hS hf dX11_lots_23
