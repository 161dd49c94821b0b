theorem dX11_takeOneLetterMore_0 : decode cX11_takeOneLetterMore 0 = .ok (.aload_n 0, 1) := by decide +kernel
theorem dX11_takeOneLetterMore_1 : decode cX11_takeOneLetterMore 1 = .ok (.getfield 28, 3) := by decide +kernel
theorem dX11_takeOneLetterMore_4 : decode cX11_takeOneLetterMore 4 = .ok (.getfield 84, 3) := by decide +kernel
theorem dX11_takeOneLetterMore_7 : decode cX11_takeOneLetterMore 7 = .ok (.getfield 125, 3) := by decide +kernel
theorem dX11_takeOneLetterMore_10 : decode cX11_takeOneLetterMore 10 = .ok (.istore_n 1, 1) := by decide +kernel
theorem dX11_takeOneLetterMore_11 : decode cX11_takeOneLetterMore 11 = .ok (.aload_n 0, 1) := by decide +kernel
theorem dX11_takeOneLetterMore_12 : decode cX11_takeOneLetterMore 12 = .ok (.getfield 12, 3) := by decide +kernel
theorem dX11_takeOneLetterMore_15 : decode cX11_takeOneLetterMore 15 = .ok (.getfield 74, 3) := by decide +kernel
theorem dX11_takeOneLetterMore_18 : decode cX11_takeOneLetterMore 18 = .ok (.dup, 1) := by decide +kernel
theorem dX11_takeOneLetterMore_19 : decode cX11_takeOneLetterMore 19 = .ok (.getfield 102, 3) := by decide +kernel
theorem dX11_takeOneLetterMore_22 : decode cX11_takeOneLetterMore 22 = .ok (.iconst 1, 1) := by decide +kernel
theorem dX11_takeOneLetterMore_23 : decode cX11_takeOneLetterMore 23 = .ok (.iadd, 1) := by decide +kernel
theorem dX11_takeOneLetterMore_24 : decode cX11_takeOneLetterMore 24 = .ok (.putfield 102, 3) := by decide +kernel
theorem dX11_takeOneLetterMore_27 : decode cX11_takeOneLetterMore 27 = .ok (.aload_n 0, 1) := by decide +kernel
theorem dX11_takeOneLetterMore_28 : decode cX11_takeOneLetterMore 28 = .ok (.getfield 28, 3) := by decide +kernel
theorem dX11_takeOneLetterMore_31 : decode cX11_takeOneLetterMore 31 = .ok (.getfield 84, 3) := by decide +kernel
theorem dX11_takeOneLetterMore_34 : decode cX11_takeOneLetterMore 34 = .ok (.aload_n 0, 1) := by decide +kernel
theorem dX11_takeOneLetterMore_35 : decode cX11_takeOneLetterMore 35 = .ok (.getfield 12, 3) := by decide +kernel
theorem dX11_takeOneLetterMore_38 : decode cX11_takeOneLetterMore 38 = .ok (.getfield 74, 3) := by decide +kernel
theorem dX11_takeOneLetterMore_41 : decode cX11_takeOneLetterMore 41 = .ok (.invokevirtual 88, 3) := by decide +kernel
theorem dX11_takeOneLetterMore_44 : decode cX11_takeOneLetterMore 44 = .ok (.iconst 0, 1) := by decide +kernel
theorem dX11_takeOneLetterMore_45 : decode cX11_takeOneLetterMore 45 = .ok (.istore_n 2, 1) := by decide +kernel
theorem dX11_takeOneLetterMore_46 : decode cX11_takeOneLetterMore 46 = .ok (.iload_n 2, 1) := by decide +kernel
theorem dX11_takeOneLetterMore_47 : decode cX11_takeOneLetterMore 47 = .ok (.aload_n 0, 1) := by decide +kernel
theorem dX11_takeOneLetterMore_48 : decode cX11_takeOneLetterMore 48 = .ok (.getfield 12, 3) := by decide +kernel
theorem dX11_takeOneLetterMore_51 : decode cX11_takeOneLetterMore 51 = .ok (.getfield 141, 3) := by decide +kernel
theorem dX11_takeOneLetterMore_54 : decode cX11_takeOneLetterMore 54 = .ok (.if_icmp .ge 29, 3) := by decide +kernel
theorem dX11_takeOneLetterMore_57 : decode cX11_takeOneLetterMore 57 = .ok (.aload_n 0, 1) := by decide +kernel
theorem dX11_takeOneLetterMore_58 : decode cX11_takeOneLetterMore 58 = .ok (.getfield 12, 3) := by decide +kernel
theorem dX11_takeOneLetterMore_61 : decode cX11_takeOneLetterMore 61 = .ok (.getfield 145, 3) := by decide +kernel
theorem dX11_takeOneLetterMore_64 : decode cX11_takeOneLetterMore 64 = .ok (.iload_n 2, 1) := by decide +kernel
theorem dX11_takeOneLetterMore_65 : decode cX11_takeOneLetterMore 65 = .ok (.aaload, 1) := by decide +kernel
theorem dX11_takeOneLetterMore_66 : decode cX11_takeOneLetterMore 66 = .ok (.aload_n 0, 1) := by decide +kernel
theorem dX11_takeOneLetterMore_67 : decode cX11_takeOneLetterMore 67 = .ok (.getfield 28, 3) := by decide +kernel
theorem dX11_takeOneLetterMore_70 : decode cX11_takeOneLetterMore 70 = .ok (.getfield 84, 3) := by decide +kernel
theorem dX11_takeOneLetterMore_73 : decode cX11_takeOneLetterMore 73 = .ok (.iload_n 1, 1) := by decide +kernel
theorem dX11_takeOneLetterMore_74 : decode cX11_takeOneLetterMore 74 = .ok (.invokevirtual 149, 3) := by decide +kernel
theorem dX11_takeOneLetterMore_77 : decode cX11_takeOneLetterMore 77 = .ok (.iinc 2 1, 3) := by decide +kernel
theorem dX11_takeOneLetterMore_80 : decode cX11_takeOneLetterMore 80 = .ok (.goto (-34), 3) := by decide +kernel
theorem dX11_takeOneLetterMore_83 : decode cX11_takeOneLetterMore 83 = .ok (.aload_n 0, 1) := by decide +kernel
theorem dX11_takeOneLetterMore_84 : decode cX11_takeOneLetterMore 84 = .ok (.getfield 35, 3) := by decide +kernel
theorem dX11_takeOneLetterMore_87 : decode cX11_takeOneLetterMore 87 = .ok (.invokevirtual 142, 3) := by decide +kernel
theorem dX11_takeOneLetterMore_90 : decode cX11_takeOneLetterMore 90 = .ok (.return_, 1) := by decide +kernel
set_option maxHeartbeats 4000000 in
set_option maxRecDepth 100000 in
theorem cn_X11_takeOneLetterMore {l : Launch} {cA : Nat → ClassId} {ad : Nat → Nat} {D : va_G} {E : Nat → Nat} {A : Nat → Prop}  {s0 sr : SS} {rr : Unit} (hf : f_X11_takeOneLetterMore s0 = some (rr, sr)) : zCon Ox Nx cA ad D E l yX11_takeOneLetterMore cX11_takeOneLetterMore 3 none 5 A [.ref (ad 0)] s0 none sr := by
  refine zstart (own := RX11) hOx (by decide) rfl (Nat.le_of_ble_eq_true rfl) ?_
  intro p e s m args below meth c X hP ls hl
  have hx := X.1
  have hb := X.2.1
  have hl : lv_has ls 3 [(0, .ref (ad 0))] := hl
  have hS : va_S A s.heap s.heap [] := va_S.rf
  have hc_46 : ∀ (n46 : Nat) (x1 : Int32) (x2 : Int32) (s1 : SS) (H : Heap) (locs : List Loc) (ls : Array Slot), lv_has ls 3 [(0, .ref (ad 0)), (1, .int x1), (2, .int x2)] → va_P D ZCL (zw Ox Nx cA ad s1) H → va_S A s.heap H locs → f_X11_takeOneLetterMore_c46 n46 x1 x2 s1 = some (rr, sr) → W p l e (zrm 5) s m args below meth c H locs 0 0 (MQ below (zQc Ox Nx cA ad D A none sr) args s 0 0 A) (F0 m 46 ls []) := by
    intro n46
    induction n46 with
    | zero =>
      intro x1 x2 s1 H locs ls hl hP hS hf
      rw [f_X11_takeOneLetterMore_c46] at hf
      cases hf
    | succ n46 ih46 =>
      intro x1 x2 s1 H locs ls hl hP hS hf
      rw [f_X11_takeOneLetterMore_c46] at hf
      refine lv_iload_n hx hb dX11_takeOneLetterMore_46 rfl (lv_at hl 2 rfl) ?_
      refine lv_aload_n hx hb dX11_takeOneLetterMore_47 rfl (lv_at hl 0 rfl) ?_
      refine gf_X11_12 X hP (k := 0) (q := 1) rfl dX11_takeOneLetterMore_48 rfl ?_
      refine gf_X11_141 X hP (k := 1) rfl dX11_takeOneLetterMore_51 ?_
      refine zicmp_ge (tgt := 83) hx hb dX11_takeOneLetterMore_54 (by decide) hf (fun hf => ?_) (fun hf => ?_)
      · refine lv_aload_n hx hb dX11_takeOneLetterMore_83 rfl (lv_at hl 0 rfl) ?_
        refine gf_X11_35 X hP (k := 0) (q := 7) rfl dX11_takeOneLetterMore_84 rfl ?_
        obtain ⟨r4, s5, h6, hf⟩ := zbd_some hf
        refine zcallV X hP hS hl.1 (k := 7) (As := []) (rest := []) (cn_X1_forget h6) cw_X1_forget zp_1 rfl (by decide) rfl ml_X11_142 (by decide) rfl rfl (Nat.le_of_ble_eq_true rfl) dX11_takeOneLetterMore_87 (fun H locs hP hS => ?_)
        exact zret_v X hP hS hf dX11_takeOneLetterMore_90
      · refine lv_aload_n hx hb dX11_takeOneLetterMore_57 rfl (lv_at hl 0 rfl) ?_
        refine gf_X11_12 X hP (k := 0) (q := 1) rfl dX11_takeOneLetterMore_58 rfl ?_
        refine gf_X11_145 X hP (k := 1) (q := 13) rfl dX11_takeOneLetterMore_61 rfl ?_
        refine lv_iload_n hx hb dX11_takeOneLetterMore_64 rfl (lv_at hl 2 rfl) ?_
        obtain ⟨g7, hf⟩ := zgd hf
        obtain ⟨g9, hf⟩ := zgd hf
        obtain ⟨n8, rn8, on8, in8⟩ := zok_of g7
        refine zald_q X hP zlr_x (k := 13) on8 in8 dX11_takeOneLetterMore_65 rfl ?_
        refine lv_aload_n hx hb dX11_takeOneLetterMore_66 rfl (lv_at hl 0 rfl) ?_
        refine gf_X11_28 X hP (k := 0) (q := 5) rfl dX11_takeOneLetterMore_67 rfl ?_
        refine gf_X11_84 X hP (k := 5) (q := 6) rfl dX11_takeOneLetterMore_70 rfl ?_
        refine lv_iload_n hx hb dX11_takeOneLetterMore_73 rfl (lv_at hl 1 rfl) ?_
        obtain ⟨r10, s11, h12, hf⟩ := zbd_some hf
        refine zcallV X hP hS hl.1 (k := (zrr Ox 13 x2)) (As := [.ref (ad 6), .int x1]) (rest := []) (cn_X4_widen h12) cw_X4_widen zp_4 g9 (by decide) rfl ml_X11_149 (by decide) rfl rfl (Nat.le_of_ble_eq_true rfl) dX11_takeOneLetterMore_74 (fun H locs hP hS => ?_)
        refine lv_iinc (v := (x2 + 1)) (lv' := [(2, .int (x2 + 1)), (0, .ref (ad 0)), (1, .int x1)]) hx hb dX11_takeOneLetterMore_77 hl (k := 2) rfl rfl (by decide) rfl (fun ls hl => ?_)
        refine lv_goto (tgt := 46) hx hb dX11_takeOneLetterMore_80 (by decide) ?_
        exact ih46 x1 (x2 + 1) s11 _ _ _ (lv_sub hl [1, 2, 0] rfl) hP hS hf
  rw [f_X11_takeOneLetterMore] at hf
  refine lv_aload_n hx hb dX11_takeOneLetterMore_0 rfl (lv_at hl 0 rfl) ?_
  refine gf_X11_28 X hP (k := 0) (q := 5) rfl dX11_takeOneLetterMore_1 rfl ?_
  refine gf_X11_84 X hP (k := 5) (q := 6) rfl dX11_takeOneLetterMore_4 rfl ?_
  refine gf_X11_125 X hP (k := 6) rfl dX11_takeOneLetterMore_7 ?_
  refine lv_istore_n (lv' := [(1, .int (s0.1 6 2)), (0, .ref (ad 0))]) hx hb dX11_takeOneLetterMore_10 rfl hl (by decide) rfl (fun ls hl => ?_)
  refine lv_aload_n hx hb dX11_takeOneLetterMore_11 rfl (lv_at hl 1 rfl) ?_
  refine gf_X11_12 X hP (k := 0) (q := 1) rfl dX11_takeOneLetterMore_12 rfl ?_
  refine gf_X11_74 X hP (k := 1) (q := 3) rfl dX11_takeOneLetterMore_15 rfl ?_
  refine lv_dup hx hb dX11_takeOneLetterMore_18 rfl ?_
  refine gf_X11_102 X hP (k := 3) rfl dX11_takeOneLetterMore_19 ?_
  refine lv_iconst (v := 1) hx hb dX11_takeOneLetterMore_22 (by decide) ?_
  refine lv_iadd hx hb dX11_takeOneLetterMore_23 ?_
  refine pf_X11_102 X hP hS (k := 3) rfl dX11_takeOneLetterMore_24 (fun H locs hP hS => ?_)
  refine lv_aload_n hx hb dX11_takeOneLetterMore_27 rfl (lv_at hl 1 rfl) ?_
  refine gf_X11_28 X hP (k := 0) (q := 5) rfl dX11_takeOneLetterMore_28 rfl ?_
  refine gf_X11_84 X hP (k := 5) (q := 6) rfl dX11_takeOneLetterMore_31 rfl ?_
  refine lv_aload_n hx hb dX11_takeOneLetterMore_34 rfl (lv_at hl 1 rfl) ?_
  refine gf_X11_12 X hP (k := 0) (q := 1) rfl dX11_takeOneLetterMore_35 rfl ?_
  refine gf_X11_74 X hP (k := 1) (q := 3) rfl dX11_takeOneLetterMore_38 rfl ?_
  obtain ⟨r1, s2, h3, hf⟩ := zbd_some hf
  refine zcallV X hP hS hl.1 (k := 6) (As := [.ref (ad 3)]) (rest := []) (cn_X10_layOut h3) cw_X10_layOut zp_10 rfl (by decide) rfl ml_X11_88 (by decide) rfl rfl (Nat.le_of_ble_eq_true rfl) dX11_takeOneLetterMore_41 (fun H locs hP hS => ?_)
  refine lv_iconst (v := 0) hx hb dX11_takeOneLetterMore_44 (by decide) ?_
  refine lv_istore_n (lv' := [(2, .int 0), (1, .int (s0.1 6 2)), (0, .ref (ad 0))]) hx hb dX11_takeOneLetterMore_45 rfl hl (by decide) rfl (fun ls hl => ?_)
  exact hc_46 ZF (s0.1 6 2) 0 s2 _ _ _ (lv_sub hl [2, 1, 0] rfl) hP hS hf
theorem dX11_blow_0 : decode cX11_blow 0 = .ok (.aload_n 0, 1) := by decide +kernel
theorem dX11_blow_1 : decode cX11_blow 1 = .ok (.getfield 12, 3) := by decide +kernel
theorem dX11_blow_4 : decode cX11_blow 4 = .ok (.getfield 74, 3) := by decide +kernel
theorem dX11_blow_7 : decode cX11_blow 7 = .ok (.astore_n 1, 1) := by decide +kernel
theorem dX11_blow_8 : decode cX11_blow 8 = .ok (.aload_n 1, 1) := by decide +kernel
theorem dX11_blow_9 : decode cX11_blow 9 = .ok (.getfield 98, 3) := by decide +kernel
theorem dX11_blow_12 : decode cX11_blow 12 = .ok (.ifCond .eq 6, 3) := by decide +kernel
theorem dX11_blow_15 : decode cX11_blow 15 = .ok (.bipush (-5), 2) := by decide +kernel
theorem dX11_blow_17 : decode cX11_blow 17 = .ok (.ireturn, 1) := by decide +kernel
theorem dX11_blow_18 : decode cX11_blow 18 = .ok (.aload_n 1, 1) := by decide +kernel
theorem dX11_blow_19 : decode cX11_blow 19 = .ok (.getfield 102, 3) := by decide +kernel
theorem dX11_blow_22 : decode cX11_blow 22 = .ok (.iconst 3, 1) := by decide +kernel
theorem dX11_blow_23 : decode cX11_blow 23 = .ok (.if_icmp .lt 6, 3) := by decide +kernel
theorem dX11_blow_26 : decode cX11_blow 26 = .ok (.bipush (-3), 2) := by decide +kernel
theorem dX11_blow_28 : decode cX11_blow 28 = .ok (.ireturn, 1) := by decide +kernel
theorem dX11_blow_29 : decode cX11_blow 29 = .ok (.aload_n 0, 1) := by decide +kernel
theorem dX11_blow_30 : decode cX11_blow 30 = .ok (.invokevirtual 105, 3) := by decide +kernel
theorem dX11_blow_33 : decode cX11_blow 33 = .ok (.aload_n 1, 1) := by decide +kernel
theorem dX11_blow_34 : decode cX11_blow 34 = .ok (.getfield 102, 3) := by decide +kernel
theorem dX11_blow_37 : decode cX11_blow 37 = .ok (.ireturn, 1) := by decide +kernel
set_option maxHeartbeats 4000000 in
set_option maxRecDepth 100000 in
theorem cn_X11_blow {l : Launch} {cA : Nat → ClassId} {ad : Nat → Nat} {D : va_G} {E : Nat → Nat} {A : Nat → Prop}  {s0 sr : SS} {rr : Int32} (hf : f_X11_blow s0 = some (rr, sr)) : zCon Ox Nx cA ad D E l yX11_blow cX11_blow 2 (some .int) 6 A [.ref (ad 0)] s0 (some (.int rr)) sr := by
  refine zstart (own := RX11) hOx (by decide) rfl (Nat.le_of_ble_eq_true rfl) ?_
  intro p e s m args below meth c X hP ls hl
  have hx := X.1
  have hb := X.2.1
  have hl : lv_has ls 2 [(0, .ref (ad 0))] := hl
  have hS : va_S A s.heap s.heap [] := va_S.rf
  rw [f_X11_blow] at hf
  refine lv_aload_n hx hb dX11_blow_0 rfl (lv_at hl 0 rfl) ?_
  refine gf_X11_12 X hP (k := 0) (q := 1) rfl dX11_blow_1 rfl ?_
  refine gf_X11_74 X hP (k := 1) (q := 3) rfl dX11_blow_4 rfl ?_
  refine lv_astore_n (lv' := [(1, .ref (ad 3)), (0, .ref (ad 0))]) hx hb dX11_blow_7 rfl hl (by decide) rfl (fun ls hl => ?_)
  refine lv_aload_n hx hb dX11_blow_8 rfl (lv_at hl 0 rfl) ?_
  refine gf_X11_98 X hP (k := 3) rfl dX11_blow_9 ?_
  refine zif_eq (tgt := 18) hx hb dX11_blow_12 (by decide) hf (fun hf => ?_) (fun hf => ?_)
  · refine lv_aload_n hx hb dX11_blow_18 rfl (lv_at hl 0 rfl) ?_
    refine gf_X11_102 X hP (k := 3) rfl dX11_blow_19 ?_
    refine lv_iconst (v := 3) hx hb dX11_blow_22 (by decide) ?_
    refine zicmp_lt (tgt := 29) hx hb dX11_blow_23 (by decide) hf (fun hf => ?_) (fun hf => ?_)
    · refine lv_aload_n hx hb dX11_blow_29 rfl (lv_at hl 1 rfl) ?_
      obtain ⟨r1, s2, h3, hf⟩ := zbd_some hf
      refine zcallV X hP hS hl.1 (k := 0) (As := []) (rest := []) (cn_X11_takeOneLetterMore h3) cw_X11_takeOneLetterMore zp_11 rfl (by decide) rfl ml_X11_105 (by decide) rfl rfl (Nat.le_of_ble_eq_true rfl) dX11_blow_30 (fun H locs hP hS => ?_)
      refine lv_aload_n hx hb dX11_blow_33 rfl (lv_at hl 0 rfl) ?_
      refine gf_X11_102 X hP (k := 3) rfl dX11_blow_34 ?_
      exact zret_i X hP hS hf rfl dX11_blow_37
    · refine lv_bipush (v := (-3)) hx hb dX11_blow_26 (by decide) ?_
      exact zret_i X hP hS hf rfl dX11_blow_28
  · refine lv_bipush (v := (-5)) hx hb dX11_blow_15 (by decide) ?_
    exact zret_i X hP hS hf rfl dX11_blow_17
theorem dX11_curved_0 : decode cX11_curved 0 = .ok (.aload_n 0, 1) := by decide +kernel
theorem dX11_curved_1 : decode cX11_curved 1 = .ok (.iconst 1, 1) := by decide +kernel
theorem dX11_curved_2 : decode cX11_curved 2 = .ok (.iconst 3, 1) := by decide +kernel
theorem dX11_curved_3 : decode cX11_curved 3 = .ok (.iconst 0, 1) := by decide +kernel
theorem dX11_curved_4 : decode cX11_curved 4 = .ok (.iconst 0, 1) := by decide +kernel
theorem dX11_curved_5 : decode cX11_curved 5 = .ok (.invokevirtual 94, 3) := by decide +kernel
theorem dX11_curved_8 : decode cX11_curved 8 = .ok (.ireturn, 1) := by decide +kernel
set_option maxHeartbeats 4000000 in
set_option maxRecDepth 100000 in
theorem cn_X11_curved {l : Launch} {cA : Nat → ClassId} {ad : Nat → Nat} {D : va_G} {E : Nat → Nat} {A : Nat → Prop}  {s0 sr : SS} {rr : Int32} (hf : f_X11_curved s0 = some (rr, sr)) : zCon Ox Nx cA ad D E l yX11_curved cX11_curved 1 (some .int) 6 A [.ref (ad 0)] s0 (some (.int rr)) sr := by
  refine zstart (own := RX11) hOx (by decide) rfl (Nat.le_of_ble_eq_true rfl) ?_
  intro p e s m args below meth c X hP ls hl
  have hx := X.1
  have hb := X.2.1
  have hl : lv_has ls 1 [(0, .ref (ad 0))] := hl
  have hS : va_S A s.heap s.heap [] := va_S.rf
  rw [f_X11_curved] at hf
  refine lv_aload_n hx hb dX11_curved_0 rfl (lv_at hl 0 rfl) ?_
  refine lv_iconst (v := 1) hx hb dX11_curved_1 (by decide) ?_
  refine lv_iconst (v := 3) hx hb dX11_curved_2 (by decide) ?_
  refine lv_iconst (v := 0) hx hb dX11_curved_3 (by decide) ?_
  refine lv_iconst (v := 0) hx hb dX11_curved_4 (by decide) ?_
  obtain ⟨r1, s2, h3, hf⟩ := zbd_some hf
  refine zcallV X hP hS hl.1 (k := 0) (As := [.int 1, .int 3, .int 0, .int 0]) (rest := []) (cn_X11_makeAnew h3) cw_X11_makeAnew zp_11 rfl (by decide) rfl ml_X11_94 (by decide) rfl rfl (Nat.le_of_ble_eq_true rfl) dX11_curved_5 (fun H locs hP hS => ?_)
  exact zret_i X hP hS hf rfl dX11_curved_8
theorem dX11_curve_0 : decode cX11_curve 0 = .ok (.aload_n 0, 1) := by decide +kernel
theorem dX11_curve_1 : decode cX11_curve 1 = .ok (.getfield 12, 3) := by decide +kernel
theorem dX11_curve_4 : decode cX11_curve 4 = .ok (.getfield 74, 3) := by decide +kernel
theorem dX11_curve_7 : decode cX11_curve 7 = .ok (.astore_n 3, 1) := by decide +kernel
theorem dX11_curve_8 : decode cX11_curve 8 = .ok (.aload_n 3, 1) := by decide +kernel
theorem dX11_curve_9 : decode cX11_curve 9 = .ok (.getfield 98, 3) := by decide +kernel
theorem dX11_curve_12 : decode cX11_curve 12 = .ok (.iconst 1, 1) := by decide +kernel
theorem dX11_curve_13 : decode cX11_curve 13 = .ok (.if_icmp .eq 6, 3) := by decide +kernel
theorem dX11_curve_16 : decode cX11_curve 16 = .ok (.bipush (-5), 2) := by decide +kernel
theorem dX11_curve_18 : decode cX11_curve 18 = .ok (.ireturn, 1) := by decide +kernel
theorem dX11_curve_19 : decode cX11_curve 19 = .ok (.iload_n 1, 1) := by decide +kernel
theorem dX11_curve_20 : decode cX11_curve 20 = .ok (.iconst 1, 1) := by decide +kernel
theorem dX11_curve_21 : decode cX11_curve 21 = .ok (.if_icmp .lt 19, 3) := by decide +kernel
theorem dX11_curve_24 : decode cX11_curve 24 = .ok (.iload_n 1, 1) := by decide +kernel
theorem dX11_curve_25 : decode cX11_curve 25 = .ok (.bipush 9, 2) := by decide +kernel
theorem dX11_curve_27 : decode cX11_curve 27 = .ok (.if_icmp .gt 13, 3) := by decide +kernel
theorem dX11_curve_30 : decode cX11_curve 30 = .ok (.iload_n 2, 1) := by decide +kernel
theorem dX11_curve_31 : decode cX11_curve 31 = .ok (.ifCond .lt 9, 3) := by decide +kernel
theorem dX11_curve_34 : decode cX11_curve 34 = .ok (.iload_n 2, 1) := by decide +kernel
theorem dX11_curve_35 : decode cX11_curve 35 = .ok (.bipush 9, 2) := by decide +kernel
theorem dX11_curve_37 : decode cX11_curve 37 = .ok (.if_icmp .le 5, 3) := by decide +kernel
theorem dX11_curve_40 : decode cX11_curve 40 = .ok (.iconst (-1), 1) := by decide +kernel
theorem dX11_curve_41 : decode cX11_curve 41 = .ok (.ireturn, 1) := by decide +kernel
theorem dX11_curve_42 : decode cX11_curve 42 = .ok (.aload_n 3, 1) := by decide +kernel
theorem dX11_curve_43 : decode cX11_curve 43 = .ok (.getfield 102, 3) := by decide +kernel
theorem dX11_curve_46 : decode cX11_curve 46 = .ok (.iconst 3, 1) := by decide +kernel
theorem dX11_curve_47 : decode cX11_curve 47 = .ok (.if_icmp .lt 6, 3) := by decide +kernel
theorem dX11_curve_50 : decode cX11_curve 50 = .ok (.bipush (-3), 2) := by decide +kernel
theorem dX11_curve_52 : decode cX11_curve 52 = .ok (.ireturn, 1) := by decide +kernel
theorem dX11_curve_53 : decode cX11_curve 53 = .ok (.aload_n 3, 1) := by decide +kernel
theorem dX11_curve_54 : decode cX11_curve 54 = .ok (.getfield 102, 3) := by decide +kernel
theorem dX11_curve_57 : decode cX11_curve 57 = .ok (.istore 4, 2) := by decide +kernel
theorem dX11_curve_59 : decode cX11_curve 59 = .ok (.aload_n 3, 1) := by decide +kernel
theorem dX11_curve_60 : decode cX11_curve 60 = .ok (.getfield 108, 3) := by decide +kernel
theorem dX11_curve_63 : decode cX11_curve 63 = .ok (.iload 4, 2) := by decide +kernel
theorem dX11_curve_65 : decode cX11_curve 65 = .ok (.iload_n 1, 1) := by decide +kernel
theorem dX11_curve_66 : decode cX11_curve 66 = .ok (.iastore, 1) := by decide +kernel
theorem dX11_curve_67 : decode cX11_curve 67 = .ok (.aload_n 3, 1) := by decide +kernel
theorem dX11_curve_68 : decode cX11_curve 68 = .ok (.getfield 112, 3) := by decide +kernel
theorem dX11_curve_71 : decode cX11_curve 71 = .ok (.iload 4, 2) := by decide +kernel
theorem dX11_curve_73 : decode cX11_curve 73 = .ok (.iload_n 2, 1) := by decide +kernel
theorem dX11_curve_74 : decode cX11_curve 74 = .ok (.iastore, 1) := by decide +kernel
theorem dX11_curve_75 : decode cX11_curve 75 = .ok (.aload_n 0, 1) := by decide +kernel
theorem dX11_curve_76 : decode cX11_curve 76 = .ok (.invokevirtual 105, 3) := by decide +kernel
theorem dX11_curve_79 : decode cX11_curve 79 = .ok (.iload 4, 2) := by decide +kernel
theorem dX11_curve_81 : decode cX11_curve 81 = .ok (.ireturn, 1) := by decide +kernel
set_option maxHeartbeats 4000000 in
set_option maxRecDepth 100000 in
theorem cn_X11_curve {l : Launch} {cA : Nat → ClassId} {ad : Nat → Nat} {D : va_G} {E : Nat → Nat} {A : Nat → Prop} {x1 : Int32} {x2 : Int32} {s0 sr : SS} {rr : Int32} (hf : f_X11_curve x1 x2 s0 = some (rr, sr)) : zCon Ox Nx cA ad D E l yX11_curve cX11_curve 5 (some .int) 6 A [.ref (ad 0), .int x1, .int x2] s0 (some (.int rr)) sr := by
  refine zstart (own := RX11) hOx (by decide) rfl (Nat.le_of_ble_eq_true rfl) ?_
  intro p e s m args below meth c X hP ls hl
  have hx := X.1
  have hb := X.2.1
  have hl : lv_has ls 5 [(0, .ref (ad 0)), (1, .int x1), (2, .int x2)] := hl
  have hS : va_S A s.heap s.heap [] := va_S.rf
  rw [f_X11_curve] at hf
  refine lv_aload_n hx hb dX11_curve_0 rfl (lv_at hl 0 rfl) ?_
  refine gf_X11_12 X hP (k := 0) (q := 1) rfl dX11_curve_1 rfl ?_
  refine gf_X11_74 X hP (k := 1) (q := 3) rfl dX11_curve_4 rfl ?_
  refine lv_astore_n (lv' := [(3, .ref (ad 3)), (0, .ref (ad 0)), (1, .int x1), (2, .int x2)]) hx hb dX11_curve_7 rfl hl (by decide) rfl (fun ls hl => ?_)
  refine lv_aload_n hx hb dX11_curve_8 rfl (lv_at hl 0 rfl) ?_
  refine gf_X11_98 X hP (k := 3) rfl dX11_curve_9 ?_
  refine lv_iconst (v := 1) hx hb dX11_curve_12 (by decide) ?_
  refine zicmp_eq (tgt := 19) hx hb dX11_curve_13 (by decide) hf (fun hf => ?_) (fun hf => ?_)
  · refine lv_iload_n hx hb dX11_curve_19 rfl (lv_at hl 2 rfl) ?_
    refine lv_iconst (v := 1) hx hb dX11_curve_20 (by decide) ?_
    refine zicmp_lt (tgt := 40) hx hb dX11_curve_21 (by decide) hf (fun hf => ?_) (fun hf => ?_)
    · refine lv_iconst (v := (-1)) hx hb dX11_curve_40 (by decide) ?_
      exact zret_i X hP hS hf rfl dX11_curve_41
    · refine lv_iload_n hx hb dX11_curve_24 rfl (lv_at hl 2 rfl) ?_
      refine lv_bipush (v := 9) hx hb dX11_curve_25 (by decide) ?_
      refine zicmp_gt (tgt := 40) hx hb dX11_curve_27 (by decide) hf (fun hf => ?_) (fun hf => ?_)
      · refine lv_iconst (v := (-1)) hx hb dX11_curve_40 (by decide) ?_
        exact zret_i X hP hS hf rfl dX11_curve_41
      · refine lv_iload_n hx hb dX11_curve_30 rfl (lv_at hl 3 rfl) ?_
        refine zif_lt (tgt := 40) hx hb dX11_curve_31 (by decide) hf (fun hf => ?_) (fun hf => ?_)
        · refine lv_iconst (v := (-1)) hx hb dX11_curve_40 (by decide) ?_
          exact zret_i X hP hS hf rfl dX11_curve_41
        · refine lv_iload_n hx hb dX11_curve_34 rfl (lv_at hl 3 rfl) ?_
          refine lv_bipush (v := 9) hx hb dX11_curve_35 (by decide) ?_
          refine zicmp_le (tgt := 42) hx hb dX11_curve_37 (by decide) hf (fun hf => ?_) (fun hf => ?_)
          · refine lv_aload_n hx hb dX11_curve_42 rfl (lv_at hl 0 rfl) ?_
            refine gf_X11_102 X hP (k := 3) rfl dX11_curve_43 ?_
            refine lv_iconst (v := 3) hx hb dX11_curve_46 (by decide) ?_
            refine zicmp_lt (tgt := 53) hx hb dX11_curve_47 (by decide) hf (fun hf => ?_) (fun hf => ?_)
            · refine lv_aload_n hx hb dX11_curve_53 rfl (lv_at hl 0 rfl) ?_
              refine gf_X11_102 X hP (k := 3) rfl dX11_curve_54 ?_
              refine lv_istore (lv' := [(4, .int (s0.1 3 2)), (3, .ref (ad 3)), (0, .ref (ad 0)), (1, .int x1), (2, .int x2)]) hx hb dX11_curve_57 hl (by decide) rfl (fun ls hl => ?_)
              refine lv_aload_n hx hb dX11_curve_59 rfl (lv_at hl 1 rfl) ?_
              refine gf_X11_108 X hP (k := 3) (q := 16) rfl dX11_curve_60 rfl ?_
              refine lv_iload hx hb dX11_curve_63 (lv_at hl 0 rfl) ?_
              refine lv_iload_n hx hb dX11_curve_65 rfl (lv_at hl 3 rfl) ?_
              obtain ⟨g1, hf⟩ := zgd hf
              refine zast_i X hP hS (k := 16) (n := 3) (rs := []) rfl g1 dX11_curve_66 (fun H locs hP hS => ?_)
              refine lv_aload_n hx hb dX11_curve_67 rfl (lv_at hl 1 rfl) ?_
              refine gf_X11_112 X hP (k := 3) (q := 17) rfl dX11_curve_68 rfl ?_
              refine lv_iload hx hb dX11_curve_71 (lv_at hl 0 rfl) ?_
              refine lv_iload_n hx hb dX11_curve_73 rfl (lv_at hl 4 rfl) ?_
              obtain ⟨g2, hf⟩ := zgd hf
              refine zast_i X hP hS (k := 17) (n := 3) (rs := []) rfl g2 dX11_curve_74 (fun H locs hP hS => ?_)
              refine lv_aload_n hx hb dX11_curve_75 rfl (lv_at hl 2 rfl) ?_
              obtain ⟨r3, s4, h5, hf⟩ := zbd_some hf
              refine zcallV X hP hS hl.1 (k := 0) (As := []) (rest := []) (cn_X11_takeOneLetterMore h5) cw_X11_takeOneLetterMore zp_11 rfl (by decide) rfl ml_X11_105 (by decide) rfl rfl (Nat.le_of_ble_eq_true rfl) dX11_curve_76 (fun H locs hP hS => ?_)
              refine lv_iload hx hb dX11_curve_79 (lv_at hl 0 rfl) ?_
              exact zret_i X hP hS hf rfl dX11_curve_81
            · refine lv_bipush (v := (-3)) hx hb dX11_curve_50 (by decide) ?_
              exact zret_i X hP hS hf rfl dX11_curve_52
          · refine lv_iconst (v := (-1)) hx hb dX11_curve_40 (by decide) ?_
            exact zret_i X hP hS hf rfl dX11_curve_41
  · refine lv_bipush (v := (-5)) hx hb dX11_curve_16 (by decide) ?_
    exact zret_i X hP hS hf rfl dX11_curve_18
theorem dX11_conics_0 : decode cX11_conics 0 = .ok (.aload_n 0, 1) := by decide +kernel
theorem dX11_conics_1 : decode cX11_conics 1 = .ok (.iconst 2, 1) := by decide +kernel
theorem dX11_conics_2 : decode cX11_conics 2 = .ok (.iconst 5, 1) := by decide +kernel
theorem dX11_conics_3 : decode cX11_conics 3 = .ok (.iconst 0, 1) := by decide +kernel
theorem dX11_conics_4 : decode cX11_conics 4 = .ok (.iconst 0, 1) := by decide +kernel
theorem dX11_conics_5 : decode cX11_conics 5 = .ok (.invokevirtual 94, 3) := by decide +kernel
theorem dX11_conics_8 : decode cX11_conics 8 = .ok (.ireturn, 1) := by decide +kernel
set_option maxHeartbeats 4000000 in
set_option maxRecDepth 100000 in
theorem cn_X11_conics {l : Launch} {cA : Nat → ClassId} {ad : Nat → Nat} {D : va_G} {E : Nat → Nat} {A : Nat → Prop}  {s0 sr : SS} {rr : Int32} (hf : f_X11_conics s0 = some (rr, sr)) : zCon Ox Nx cA ad D E l yX11_conics cX11_conics 1 (some .int) 6 A [.ref (ad 0)] s0 (some (.int rr)) sr := by
  refine zstart (own := RX11) hOx (by decide) rfl (Nat.le_of_ble_eq_true rfl) ?_
  intro p e s m args below meth c X hP ls hl
  have hx := X.1
  have hb := X.2.1
  have hl : lv_has ls 1 [(0, .ref (ad 0))] := hl
  have hS : va_S A s.heap s.heap [] := va_S.rf
  rw [f_X11_conics] at hf
  refine lv_aload_n hx hb dX11_conics_0 rfl (lv_at hl 0 rfl) ?_
  refine lv_iconst (v := 2) hx hb dX11_conics_1 (by decide) ?_
  refine lv_iconst (v := 5) hx hb dX11_conics_2 (by decide) ?_
  refine lv_iconst (v := 0) hx hb dX11_conics_3 (by decide) ?_
  refine lv_iconst (v := 0) hx hb dX11_conics_4 (by decide) ?_
  obtain ⟨r1, s2, h3, hf⟩ := zbd_some hf
  refine zcallV X hP hS hl.1 (k := 0) (As := [.int 2, .int 5, .int 0, .int 0]) (rest := []) (cn_X11_makeAnew h3) cw_X11_makeAnew zp_11 rfl (by decide) rfl ml_X11_94 (by decide) rfl rfl (Nat.le_of_ble_eq_true rfl) dX11_conics_5 (fun H locs hP hS => ?_)
  exact zret_i X hP hS hf rfl dX11_conics_8
theorem dX11_space_0 : decode cX11_space 0 = .ok (.iload_n 1, 1) := by decide +kernel
theorem dX11_space_1 : decode cX11_space 1 = .ok (.tableswitch 105 0 5 #[39, 50, 61, 72, 83, 94], 39) := by decide +kernel
theorem dX11_space_40 : decode cX11_space 40 = .ok (.aload_n 0, 1) := by decide +kernel
theorem dX11_space_41 : decode cX11_space 41 = .ok (.getfield 12, 3) := by decide +kernel
theorem dX11_space_44 : decode cX11_space 44 = .ok (.getfield 74, 3) := by decide +kernel
theorem dX11_space_47 : decode cX11_space 47 = .ok (.getfield 98, 3) := by decide +kernel
theorem dX11_space_50 : decode cX11_space 50 = .ok (.ireturn, 1) := by decide +kernel
theorem dX11_space_51 : decode cX11_space 51 = .ok (.aload_n 0, 1) := by decide +kernel
theorem dX11_space_52 : decode cX11_space 52 = .ok (.getfield 12, 3) := by decide +kernel
theorem dX11_space_55 : decode cX11_space 55 = .ok (.getfield 74, 3) := by decide +kernel
theorem dX11_space_58 : decode cX11_space 58 = .ok (.invokevirtual 115, 3) := by decide +kernel
theorem dX11_space_61 : decode cX11_space 61 = .ok (.ireturn, 1) := by decide +kernel
theorem dX11_space_62 : decode cX11_space 62 = .ok (.aload_n 0, 1) := by decide +kernel
theorem dX11_space_63 : decode cX11_space 63 = .ok (.getfield 12, 3) := by decide +kernel
theorem dX11_space_66 : decode cX11_space 66 = .ok (.getfield 74, 3) := by decide +kernel
theorem dX11_space_69 : decode cX11_space 69 = .ok (.invokevirtual 119, 3) := by decide +kernel
theorem dX11_space_72 : decode cX11_space 72 = .ok (.ireturn, 1) := by decide +kernel
theorem dX11_space_73 : decode cX11_space 73 = .ok (.aload_n 0, 1) := by decide +kernel
theorem dX11_space_74 : decode cX11_space 74 = .ok (.getfield 12, 3) := by decide +kernel
theorem dX11_space_77 : decode cX11_space 77 = .ok (.getfield 74, 3) := by decide +kernel
theorem dX11_space_80 : decode cX11_space 80 = .ok (.invokevirtual 122, 3) := by decide +kernel
theorem dX11_space_83 : decode cX11_space 83 = .ok (.ireturn, 1) := by decide +kernel
theorem dX11_space_84 : decode cX11_space 84 = .ok (.aload_n 0, 1) := by decide +kernel
theorem dX11_space_85 : decode cX11_space 85 = .ok (.getfield 12, 3) := by decide +kernel
theorem dX11_space_88 : decode cX11_space 88 = .ok (.getfield 74, 3) := by decide +kernel
theorem dX11_space_91 : decode cX11_space 91 = .ok (.getfield 102, 3) := by decide +kernel
theorem dX11_space_94 : decode cX11_space 94 = .ok (.ireturn, 1) := by decide +kernel
theorem dX11_space_95 : decode cX11_space 95 = .ok (.aload_n 0, 1) := by decide +kernel
theorem dX11_space_96 : decode cX11_space 96 = .ok (.getfield 28, 3) := by decide +kernel
theorem dX11_space_99 : decode cX11_space 99 = .ok (.getfield 84, 3) := by decide +kernel
theorem dX11_space_102 : decode cX11_space 102 = .ok (.getfield 125, 3) := by decide +kernel
theorem dX11_space_105 : decode cX11_space 105 = .ok (.ireturn, 1) := by decide +kernel
theorem dX11_space_106 : decode cX11_space 106 = .ok (.iconst (-1), 1) := by decide +kernel
theorem dX11_space_107 : decode cX11_space 107 = .ok (.ireturn, 1) := by decide +kernel
set_option maxHeartbeats 4000000 in
set_option maxRecDepth 100000 in
theorem cn_X11_space {l : Launch} {cA : Nat → ClassId} {ad : Nat → Nat} {D : va_G} {E : Nat → Nat} {A : Nat → Prop} {x1 : Int32} {s0 sr : SS} {rr : Int32} (hf : f_X11_space x1 s0 = some (rr, sr)) : zCon Ox Nx cA ad D E l yX11_space cX11_space 2 (some .int) 2 A [.ref (ad 0), .int x1] s0 (some (.int rr)) sr := by
  refine zstart (own := RX11) hOx (by decide) rfl (Nat.le_of_ble_eq_true rfl) ?_
  intro p e s m args below meth c X hP ls hl
  have hx := X.1
  have hb := X.2.1
  have hl : lv_has ls 2 [(0, .ref (ad 0)), (1, .int x1)] := hl
  have hS : va_S A s.heap s.heap [] := va_S.rf
  rw [f_X11_space] at hf
  refine lv_iload_n hx hb dX11_space_0 rfl (lv_at hl 1 rfl) ?_
  by_cases e1 : x1 = 0
  · rw [if_pos e1] at hf
    refine lv_tableIn (tgt := 40) (off := 39) hx hb dX11_space_1 (by rw [e1]; decide) (by rw [e1]; decide) (by rw [e1]; decide +kernel) (by decide) ?_
    refine lv_aload_n hx hb dX11_space_40 rfl (lv_at hl 0 rfl) ?_
    refine gf_X11_12 X hP (k := 0) (q := 1) rfl dX11_space_41 rfl ?_
    refine gf_X11_74 X hP (k := 1) (q := 3) rfl dX11_space_44 rfl ?_
    refine gf_X11_98 X hP (k := 3) rfl dX11_space_47 ?_
    exact zret_i X hP hS hf rfl dX11_space_50
  · rw [if_neg e1] at hf
    by_cases e2 : x1 = 1
    · rw [if_pos e2] at hf
      refine lv_tableIn (tgt := 51) (off := 50) hx hb dX11_space_1 (by rw [e2]; decide) (by rw [e2]; decide) (by rw [e2]; decide +kernel) (by decide) ?_
      refine lv_aload_n hx hb dX11_space_51 rfl (lv_at hl 0 rfl) ?_
      refine gf_X11_12 X hP (k := 0) (q := 1) rfl dX11_space_52 rfl ?_
      refine gf_X11_74 X hP (k := 1) (q := 3) rfl dX11_space_55 rfl ?_
      obtain ⟨r3, s4, h5, hf⟩ := zbd_some hf
      refine zcallV X hP hS hl.1 (k := 3) (As := []) (rest := []) (cn_X7_dimension h5) cw_X7_dimension zp_7 rfl (by decide) rfl ml_X11_115 (by decide) rfl rfl (Nat.le_of_ble_eq_true rfl) dX11_space_58 (fun H locs hP hS => ?_)
      exact zret_i X hP hS hf rfl dX11_space_61
    · rw [if_neg e2] at hf
      by_cases e6 : x1 = 2
      · rw [if_pos e6] at hf
        refine lv_tableIn (tgt := 62) (off := 61) hx hb dX11_space_1 (by rw [e6]; decide) (by rw [e6]; decide) (by rw [e6]; decide +kernel) (by decide) ?_
        refine lv_aload_n hx hb dX11_space_62 rfl (lv_at hl 0 rfl) ?_
        refine gf_X11_12 X hP (k := 0) (q := 1) rfl dX11_space_63 rfl ?_
        refine gf_X11_74 X hP (k := 1) (q := 3) rfl dX11_space_66 rfl ?_
        obtain ⟨r7, s8, h9, hf⟩ := zbd_some hf
        refine zcallV X hP hS hl.1 (k := 3) (As := []) (rest := []) (cn_X7_letterCount h9) cw_X7_letterCount zp_7 rfl (by decide) rfl ml_X11_119 (by decide) rfl rfl (Nat.le_of_ble_eq_true rfl) dX11_space_69 (fun H locs hP hS => ?_)
        exact zret_i X hP hS hf rfl dX11_space_72
      · rw [if_neg e6] at hf
        by_cases e10 : x1 = 3
        · rw [if_pos e10] at hf
          refine lv_tableIn (tgt := 73) (off := 72) hx hb dX11_space_1 (by rw [e10]; decide) (by rw [e10]; decide) (by rw [e10]; decide +kernel) (by decide) ?_
          refine lv_aload_n hx hb dX11_space_73 rfl (lv_at hl 0 rfl) ?_
          refine gf_X11_12 X hP (k := 0) (q := 1) rfl dX11_space_74 rfl ?_
          refine gf_X11_74 X hP (k := 1) (q := 3) rfl dX11_space_77 rfl ?_
          obtain ⟨r11, s12, h13, hf⟩ := zbd_some hf
          refine zcallV X hP hS hl.1 (k := 3) (As := []) (rest := []) (cn_X7_eulerNumber h13) cw_X7_eulerNumber zp_7 rfl (by decide) rfl ml_X11_122 (by decide) rfl rfl (Nat.le_of_ble_eq_true rfl) dX11_space_80 (fun H locs hP hS => ?_)
          exact zret_i X hP hS hf rfl dX11_space_83
        · rw [if_neg e10] at hf
          by_cases e14 : x1 = 4
          · rw [if_pos e14] at hf
            refine lv_tableIn (tgt := 84) (off := 83) hx hb dX11_space_1 (by rw [e14]; decide) (by rw [e14]; decide) (by rw [e14]; decide +kernel) (by decide) ?_
            refine lv_aload_n hx hb dX11_space_84 rfl (lv_at hl 0 rfl) ?_
            refine gf_X11_12 X hP (k := 0) (q := 1) rfl dX11_space_85 rfl ?_
            refine gf_X11_74 X hP (k := 1) (q := 3) rfl dX11_space_88 rfl ?_
            refine gf_X11_102 X hP (k := 3) rfl dX11_space_91 ?_
            exact zret_i X hP hS hf rfl dX11_space_94
          · rw [if_neg e14] at hf
            by_cases e15 : x1 = 5
            · rw [if_pos e15] at hf
              refine lv_tableIn (tgt := 95) (off := 94) hx hb dX11_space_1 (by rw [e15]; decide) (by rw [e15]; decide) (by rw [e15]; decide +kernel) (by decide) ?_
              refine lv_aload_n hx hb dX11_space_95 rfl (lv_at hl 0 rfl) ?_
              refine gf_X11_28 X hP (k := 0) (q := 5) rfl dX11_space_96 rfl ?_
              refine gf_X11_84 X hP (k := 5) (q := 6) rfl dX11_space_99 rfl ?_
              refine gf_X11_125 X hP (k := 6) rfl dX11_space_102 ?_
              exact zret_i X hP hS hf rfl dX11_space_105
            · rw [if_neg e15] at hf
              have ye1 := zne e1 (v := 0) (by decide)
              have ye2 := zne e2 (v := 1) (by decide)
              have ye6 := zne e6 (v := 2) (by decide)
              have ye10 := zne e10 (v := 3) (by decide)
              have ye14 := zne e14 (v := 4) (by decide)
              have ye15 := zne e15 (v := 5) (by decide)
              refine lv_tableOut (tgt := 106) hx hb dX11_space_1 (by omega) (by decide) ?_
              refine lv_iconst (v := (-1)) hx hb dX11_space_106 (by decide) ?_
              exact zret_i X hP hS hf rfl dX11_space_107
theorem dX11_worth_0 : decode cX11_worth 0 = .ok (.aload_n 0, 1) := by decide +kernel
theorem dX11_worth_1 : decode cX11_worth 1 = .ok (.getfield 28, 3) := by decide +kernel
theorem dX11_worth_4 : decode cX11_worth 4 = .ok (.getfield 84, 3) := by decide +kernel
theorem dX11_worth_7 : decode cX11_worth 7 = .ok (.iload_n 1, 1) := by decide +kernel
theorem dX11_worth_8 : decode cX11_worth 8 = .ok (.invokevirtual 128, 3) := by decide +kernel
theorem dX11_worth_11 : decode cX11_worth 11 = .ok (.istore_n 2, 1) := by decide +kernel
theorem dX11_worth_12 : decode cX11_worth 12 = .ok (.iload_n 2, 1) := by decide +kernel
theorem dX11_worth_13 : decode cX11_worth 13 = .ok (.ifCond .ge 9, 3) := by decide +kernel
theorem dX11_worth_16 : decode cX11_worth 16 = .ok (.ldc2_w 132, 3) := by decide +kernel
theorem dX11_worth_19 : decode cX11_worth 19 = .ok (.goto 15, 3) := by decide +kernel
theorem dX11_worth_22 : decode cX11_worth 22 = .ok (.aload_n 0, 1) := by decide +kernel
theorem dX11_worth_23 : decode cX11_worth 23 = .ok (.getfield 28, 3) := by decide +kernel
theorem dX11_worth_26 : decode cX11_worth 26 = .ok (.getfield 84, 3) := by decide +kernel
theorem dX11_worth_29 : decode cX11_worth 29 = .ok (.getfield 134, 3) := by decide +kernel
theorem dX11_worth_32 : decode cX11_worth 32 = .ok (.iload_n 2, 1) := by decide +kernel
theorem dX11_worth_33 : decode cX11_worth 33 = .ok (.laload, 1) := by decide +kernel
theorem dX11_worth_34 : decode cX11_worth 34 = .ok (.lreturn, 1) := by decide +kernel
set_option maxHeartbeats 4000000 in
set_option maxRecDepth 100000 in
theorem cn_X11_worth {l : Launch} {cA : Nat → ClassId} {ad : Nat → Nat} {D : va_G} {E : Nat → Nat} {A : Nat → Prop} {x1 : Int32} {s0 sr : SS} {rr : Int64} (hf : f_X11_worth x1 s0 = some (rr, sr)) : zCon Ox Nx cA ad D E l yX11_worth cX11_worth 3 (some .long) 1 A [.ref (ad 0), .int x1] s0 (some (.long rr)) sr := by
  refine zstart (own := RX11) hOx (by decide) rfl (Nat.le_of_ble_eq_true rfl) ?_
  intro p e s m args below meth c X hP ls hl
  have hx := X.1
  have hb := X.2.1
  have hl : lv_has ls 3 [(0, .ref (ad 0)), (1, .int x1)] := hl
  have hS : va_S A s.heap s.heap [] := va_S.rf
  rw [f_X11_worth] at hf
  refine lv_aload_n hx hb dX11_worth_0 rfl (lv_at hl 0 rfl) ?_
  refine gf_X11_28 X hP (k := 0) (q := 5) rfl dX11_worth_1 rfl ?_
  refine gf_X11_84 X hP (k := 5) (q := 6) rfl dX11_worth_4 rfl ?_
  refine lv_iload_n hx hb dX11_worth_7 rfl (lv_at hl 1 rfl) ?_
  obtain ⟨r1, s2, h3, hf⟩ := zbd_some hf
  refine zcallV X hP hS hl.1 (k := 6) (As := [.int x1]) (rest := []) (cn_X10_find h3) cw_X10_find zp_10 rfl (by decide) rfl ml_X11_128 (by decide) rfl rfl (Nat.le_of_ble_eq_true rfl) dX11_worth_8 (fun H locs hP hS => ?_)
  refine lv_istore_n (lv' := [(2, .int r1), (0, .ref (ad 0)), (1, .int x1)]) hx hb dX11_worth_11 rfl hl (by decide) rfl (fun ls hl => ?_)
  refine lv_iload_n hx hb dX11_worth_12 rfl (lv_at hl 0 rfl) ?_
  refine zif_ge (tgt := 22) hx hb dX11_worth_13 (by decide) hf (fun hf => ?_) (fun hf => ?_)
  · refine lv_aload_n hx hb dX11_worth_22 rfl (lv_at hl 1 rfl) ?_
    refine gf_X11_28 X hP (k := 0) (q := 5) rfl dX11_worth_23 rfl ?_
    refine gf_X11_84 X hP (k := 5) (q := 6) rfl dX11_worth_26 rfl ?_
    refine gf_X11_134 X hP (k := 6) (q := 64) rfl dX11_worth_29 rfl ?_
    refine lv_iload_n hx hb dX11_worth_32 rfl (lv_at hl 0 rfl) ?_
    obtain ⟨g4, hf⟩ := zgd hf
    refine zald_l X hP (k := 64) (n := 462) (rs := []) rfl g4 dX11_worth_33 ?_
    exact zret_l X hP hS hf dX11_worth_34
  · refine zldc2 X co_X11_132 dX11_worth_16 ?_
    refine lv_goto (tgt := 34) hx hb dX11_worth_19 (by decide) ?_
    exact zret_l X hP hS hf dX11_worth_34
theorem dX11_term_0 : decode cX11_term 0 = .ok (.iload_n 1, 1) := by decide +kernel
theorem dX11_term_1 : decode cX11_term 1 = .ok (.ifCond .ge 5, 3) := by decide +kernel
theorem dX11_term_4 : decode cX11_term 4 = .ok (.iconst (-1), 1) := by decide +kernel
theorem dX11_term_5 : decode cX11_term 5 = .ok (.ireturn, 1) := by decide +kernel
theorem dX11_term_6 : decode cX11_term 6 = .ok (.iload_n 1, 1) := by decide +kernel
theorem dX11_term_7 : decode cX11_term 7 = .ok (.aload_n 0, 1) := by decide +kernel
theorem dX11_term_8 : decode cX11_term 8 = .ok (.getfield 28, 3) := by decide +kernel
theorem dX11_term_11 : decode cX11_term 11 = .ok (.getfield 84, 3) := by decide +kernel
theorem dX11_term_14 : decode cX11_term 14 = .ok (.getfield 125, 3) := by decide +kernel
theorem dX11_term_17 : decode cX11_term 17 = .ok (.if_icmp .ge 18, 3) := by decide +kernel
theorem dX11_term_20 : decode cX11_term 20 = .ok (.aload_n 0, 1) := by decide +kernel
theorem dX11_term_21 : decode cX11_term 21 = .ok (.getfield 28, 3) := by decide +kernel
theorem dX11_term_24 : decode cX11_term 24 = .ok (.getfield 84, 3) := by decide +kernel
theorem dX11_term_27 : decode cX11_term 27 = .ok (.getfield 138, 3) := by decide +kernel
theorem dX11_term_30 : decode cX11_term 30 = .ok (.iload_n 1, 1) := by decide +kernel
theorem dX11_term_31 : decode cX11_term 31 = .ok (.iaload, 1) := by decide +kernel
theorem dX11_term_32 : decode cX11_term 32 = .ok (.goto 5, 3) := by decide +kernel
theorem dX11_term_35 : decode cX11_term 35 = .ok (.bipush (-2), 2) := by decide +kernel
theorem dX11_term_37 : decode cX11_term 37 = .ok (.ireturn, 1) := by decide +kernel
set_option maxHeartbeats 4000000 in
set_option maxRecDepth 100000 in
theorem cn_X11_term {l : Launch} {cA : Nat → ClassId} {ad : Nat → Nat} {D : va_G} {E : Nat → Nat} {A : Nat → Prop} {x1 : Int32} {s0 sr : SS} {rr : Int32} (hf : f_X11_term x1 s0 = some (rr, sr)) : zCon Ox Nx cA ad D E l yX11_term cX11_term 2 (some .int) 0 A [.ref (ad 0), .int x1] s0 (some (.int rr)) sr := by
  refine zstart (own := RX11) hOx (by decide) rfl (Nat.le_of_ble_eq_true rfl) ?_
  intro p e s m args below meth c X hP ls hl
  have hx := X.1
  have hb := X.2.1
  have hl : lv_has ls 2 [(0, .ref (ad 0)), (1, .int x1)] := hl
  have hS : va_S A s.heap s.heap [] := va_S.rf
  rw [f_X11_term] at hf
  refine lv_iload_n hx hb dX11_term_0 rfl (lv_at hl 1 rfl) ?_
  refine zif_ge (tgt := 6) hx hb dX11_term_1 (by decide) hf (fun hf => ?_) (fun hf => ?_)
  · refine lv_iload_n hx hb dX11_term_6 rfl (lv_at hl 1 rfl) ?_
    refine lv_aload_n hx hb dX11_term_7 rfl (lv_at hl 0 rfl) ?_
    refine gf_X11_28 X hP (k := 0) (q := 5) rfl dX11_term_8 rfl ?_
    refine gf_X11_84 X hP (k := 5) (q := 6) rfl dX11_term_11 rfl ?_
    refine gf_X11_125 X hP (k := 6) rfl dX11_term_14 ?_
    refine zicmp_ge (tgt := 35) hx hb dX11_term_17 (by decide) hf (fun hf => ?_) (fun hf => ?_)
    · refine lv_bipush (v := (-2)) hx hb dX11_term_35 (by decide) ?_
      exact zret_i X hP hS hf rfl dX11_term_37
    · refine lv_aload_n hx hb dX11_term_20 rfl (lv_at hl 0 rfl) ?_
      refine gf_X11_28 X hP (k := 0) (q := 5) rfl dX11_term_21 rfl ?_
      refine gf_X11_84 X hP (k := 5) (q := 6) rfl dX11_term_24 rfl ?_
      refine gf_X11_138 X hP (k := 6) (q := 62) rfl dX11_term_27 rfl ?_
      refine lv_iload_n hx hb dX11_term_30 rfl (lv_at hl 1 rfl) ?_
      obtain ⟨g1, hf⟩ := zgd hf
      refine zald_i X hP (k := 62) (n := 462) (rs := []) rfl g1 dX11_term_31 ?_
      refine lv_goto (tgt := 37) hx hb dX11_term_32 (by decide) ?_
      exact zret_i X hP hS hf rfl dX11_term_37
  · refine lv_iconst (v := (-1)) hx hb dX11_term_4 (by decide) ?_
    exact zret_i X hP hS hf rfl dX11_term_5
theorem dX11_set_0 : decode cX11_set 0 = .ok (.aload_n 0, 1) := by decide +kernel
theorem dX11_set_1 : decode cX11_set 1 = .ok (.getfield 12, 3) := by decide +kernel
theorem dX11_set_4 : decode cX11_set 4 = .ok (.iload_n 1, 1) := by decide +kernel
theorem dX11_set_5 : decode cX11_set 5 = .ok (.i2l, 1) := by decide +kernel
theorem dX11_set_6 : decode cX11_set 6 = .ok (.invokevirtual 155, 3) := by decide +kernel
theorem dX11_set_9 : decode cX11_set 9 = .ok (.astore 4, 2) := by decide +kernel
theorem dX11_set_11 : decode cX11_set 11 = .ok (.aload 4, 2) := by decide +kernel
theorem dX11_set_13 : decode cX11_set 13 = .ok (.ifnull 12, 3) := by decide +kernel
theorem dX11_set_16 : decode cX11_set 16 = .ok (.iload_n 2, 1) := by decide +kernel
theorem dX11_set_17 : decode cX11_set 17 = .ok (.ifCond .lt 8, 3) := by decide +kernel
theorem dX11_set_20 : decode cX11_set 20 = .ok (.iload_n 2, 1) := by decide +kernel
theorem dX11_set_21 : decode cX11_set 21 = .ok (.iconst 1, 1) := by decide +kernel
theorem dX11_set_22 : decode cX11_set 22 = .ok (.if_icmp .le 5, 3) := by decide +kernel
theorem dX11_set_25 : decode cX11_set 25 = .ok (.iconst (-1), 1) := by decide +kernel
theorem dX11_set_26 : decode cX11_set 26 = .ok (.ireturn, 1) := by decide +kernel
theorem dX11_set_27 : decode cX11_set 27 = .ok (.iload_n 3, 1) := by decide +kernel
theorem dX11_set_28 : decode cX11_set 28 = .ok (.ifCond .lt 17, 3) := by decide +kernel
theorem dX11_set_31 : decode cX11_set 31 = .ok (.iload_n 3, 1) := by decide +kernel
theorem dX11_set_32 : decode cX11_set 32 = .ok (.iload_n 2, 1) := by decide +kernel
theorem dX11_set_33 : decode cX11_set 33 = .ok (.ifCond .ne 7, 3) := by decide +kernel
theorem dX11_set_36 : decode cX11_set 36 = .ok (.iconst 5, 1) := by decide +kernel
theorem dX11_set_37 : decode cX11_set 37 = .ok (.goto 5, 3) := by decide +kernel
theorem dX11_set_40 : decode cX11_set 40 = .ok (.bipush 9, 2) := by decide +kernel
theorem dX11_set_42 : decode cX11_set 42 = .ok (.if_icmp .le 5, 3) := by decide +kernel
theorem dX11_set_45 : decode cX11_set 45 = .ok (.iconst (-1), 1) := by decide +kernel
theorem dX11_set_46 : decode cX11_set 46 = .ok (.ireturn, 1) := by decide +kernel
theorem dX11_set_47 : decode cX11_set 47 = .ok (.aload 4, 2) := by decide +kernel
theorem dX11_set_49 : decode cX11_set 49 = .ok (.iload_n 2, 1) := by decide +kernel
theorem dX11_set_50 : decode cX11_set 50 = .ok (.iload_n 3, 1) := by decide +kernel
theorem dX11_set_51 : decode cX11_set 51 = .ok (.invokevirtual 159, 3) := by decide +kernel
theorem dX11_set_54 : decode cX11_set 54 = .ok (.istore 5, 2) := by decide +kernel
theorem dX11_set_56 : decode cX11_set 56 = .ok (.iload 5, 2) := by decide +kernel
theorem dX11_set_58 : decode cX11_set 58 = .ok (.iload_n 3, 1) := by decide +kernel
theorem dX11_set_59 : decode cX11_set 59 = .ok (.if_icmp .eq 15, 3) := by decide +kernel
theorem dX11_set_62 : decode cX11_set 62 = .ok (.aload_n 0, 1) := by decide +kernel
theorem dX11_set_63 : decode cX11_set 63 = .ok (.getfield 35, 3) := by decide +kernel
theorem dX11_set_66 : decode cX11_set 66 = .ok (.iload_n 1, 1) := by decide +kernel
theorem dX11_set_67 : decode cX11_set 67 = .ok (.iload_n 2, 1) := by decide +kernel
theorem dX11_set_68 : decode cX11_set 68 = .ok (.iload 5, 2) := by decide +kernel
theorem dX11_set_70 : decode cX11_set 70 = .ok (.iload_n 3, 1) := by decide +kernel
theorem dX11_set_71 : decode cX11_set 71 = .ok (.invokevirtual 162, 3) := by decide +kernel
theorem dX11_set_74 : decode cX11_set 74 = .ok (.iload 5, 2) := by decide +kernel
theorem dX11_set_76 : decode cX11_set 76 = .ok (.ireturn, 1) := by decide +kernel
set_option maxHeartbeats 4000000 in
set_option maxRecDepth 100000 in
theorem cn_X11_set {l : Launch} {cA : Nat → ClassId} {ad : Nat → Nat} {D : va_G} {E : Nat → Nat} {A : Nat → Prop} {x1 : Int32} {x2 : Int32} {x3 : Int32} {s0 sr : SS} {rr : Int32} (hf : f_X11_set x1 x2 x3 s0 = some (rr, sr)) : zCon Ox Nx cA ad D E l yX11_set cX11_set 6 (some .int) 3 A [.ref (ad 0), .int x1, .int x2, .int x3] s0 (some (.int rr)) sr := by
  refine zstart (own := RX11) hOx (by decide) rfl (Nat.le_of_ble_eq_true rfl) ?_
  intro p e s m args below meth c X hP ls hl
  have hx := X.1
  have hb := X.2.1
  have hl : lv_has ls 6 [(0, .ref (ad 0)), (1, .int x1), (2, .int x2), (3, .int x3)] := hl
  have hS : va_S A s.heap s.heap [] := va_S.rf
  have hc_42 : ∀ (x1 : Int32) (x2 : Int32) (x3 : Int32) (k4 : Nat) (t0 : Int32) (t1 : Int32) (s1 : SS) (H : Heap) (locs : List Loc) (ls : Array Slot), lv_has ls 6 [(0, .ref (ad 0)), (1, .int x1), (2, .int x2), (3, .int x3), (4, .ref (ad k4))] → va_P D ZCL (zw Ox Nx cA ad s1) H → va_S A s.heap H locs → f_X11_set_c42 x1 x2 x3 k4 t0 t1 s1 = some (rr, sr) → W p l e (zrm 3) s m args below meth c H locs 0 0 (MQ below (zQc Ox Nx cA ad D A (some (.int rr)) sr) args s 0 0 A) (F0 m 42 ls [.int t0, .int t1]) := by
    intro x1 x2 x3 k4 t0 t1 s1 H locs ls hl hP hS hf
    rw [f_X11_set_c42] at hf
    obtain ⟨gp4, hf⟩ := zgd hf
    refine zicmp_le (tgt := 47) hx hb dX11_set_42 (by decide) hf (fun hf => ?_) (fun hf => ?_)
    · refine lv_aload hx hb dX11_set_47 (lv_at hl 4 rfl) ?_
      refine lv_iload_n hx hb dX11_set_49 rfl (lv_at hl 2 rfl) ?_
      refine lv_iload_n hx hb dX11_set_50 rfl (lv_at hl 3 rfl) ?_
      obtain ⟨r6, s7, h8, hf⟩ := zbd_some hf
      refine zcallV X hP hS hl.1 (k := k4) (As := [.int x2, .int x3]) (rest := []) (cn_X4_become h8) cw_X4_become zp_4 gp4 (by decide) rfl ml_X11_159 (by decide) rfl rfl (Nat.le_of_ble_eq_true rfl) dX11_set_51 (fun H locs hP hS => ?_)
      refine lv_istore (lv' := [(5, .int r6), (0, .ref (ad 0)), (1, .int x1), (2, .int x2), (3, .int x3), (4, .ref (ad k4))]) hx hb dX11_set_54 hl (by decide) rfl (fun ls hl => ?_)
      refine lv_iload hx hb dX11_set_56 (lv_at hl 0 rfl) ?_
      refine lv_iload_n hx hb dX11_set_58 rfl (lv_at hl 4 rfl) ?_
      refine zicmp_eq (tgt := 74) hx hb dX11_set_59 (by decide) hf (fun hf => ?_) (fun hf => ?_)
      · refine lv_iload hx hb dX11_set_74 (lv_at hl 0 rfl) ?_
        exact zret_i X hP hS hf rfl dX11_set_76
      · refine lv_aload_n hx hb dX11_set_62 rfl (lv_at hl 1 rfl) ?_
        refine gf_X11_35 X hP (k := 0) (q := 7) rfl dX11_set_63 rfl ?_
        refine lv_iload_n hx hb dX11_set_66 rfl (lv_at hl 2 rfl) ?_
        refine lv_iload_n hx hb dX11_set_67 rfl (lv_at hl 3 rfl) ?_
        refine lv_iload hx hb dX11_set_68 (lv_at hl 0 rfl) ?_
        refine lv_iload_n hx hb dX11_set_70 rfl (lv_at hl 4 rfl) ?_
        obtain ⟨r9, s10, h11, hf⟩ := zbd_some hf
        refine zcallV X hP hS hl.1 (k := 7) (As := [.int x1, .int x2, .int r6, .int x3]) (rest := []) (cn_X1_remember h11) cw_X1_remember zp_1 rfl (by decide) rfl ml_X11_162 (by decide) rfl rfl (Nat.le_of_ble_eq_true rfl) dX11_set_71 (fun H locs hP hS => ?_)
        refine lv_iload hx hb dX11_set_74 (lv_at hl 0 rfl) ?_
        exact zret_i X hP hS hf rfl dX11_set_76
    · refine lv_iconst (v := (-1)) hx hb dX11_set_45 (by decide) ?_
      exact zret_i X hP hS hf rfl dX11_set_46
  rw [f_X11_set] at hf
  refine lv_aload_n hx hb dX11_set_0 rfl (lv_at hl 0 rfl) ?_
  refine gf_X11_12 X hP (k := 0) (q := 1) rfl dX11_set_1 rfl ?_
  refine lv_iload_n hx hb dX11_set_4 rfl (lv_at hl 1 rfl) ?_
  refine lv_i2l hx hb dX11_set_5 rfl ?_
  obtain ⟨r1, s2, h3, hf⟩ := zbd_some hf
  refine zcallV X hP hS hl.1 (k := 1) (As := [.long (x1).toInt64]) (rest := []) (cn_X3_classAt h3) cw_X3_classAt zp_3 rfl (by decide) rfl ml_X11_155 (by decide) rfl rfl (Nat.le_of_ble_eq_true rfl) dX11_set_6 (fun H locs hP hS => ?_)
  rcases r1 with _ | k4
  · have hf := zbn_none hf
    refine lv_astoreN (lv' := [(4, .null), (0, .ref (ad 0)), (1, .int x1), (2, .int x2), (3, .int x3)]) hx hb dX11_set_9 hl (by decide) rfl (fun ls hl => ?_)
    refine lv_aloadN hx hb dX11_set_11 (lv_at hl 0 rfl) ?_
    refine lv_ifnullN (tgt := 25) hx hb dX11_set_13 (by decide) ?_
    refine lv_iconst (v := (-1)) hx hb dX11_set_25 (by decide) ?_
    exact zret_i X hP hS hf rfl dX11_set_26
  · have hf := zbn_some hf
    obtain ⟨g5, hf⟩ := zgd hf
    refine lv_astore (lv' := [(4, .ref (ad k4)), (0, .ref (ad 0)), (1, .int x1), (2, .int x2), (3, .int x3)]) hx hb dX11_set_9 hl (by decide) rfl (fun ls hl => ?_)
    refine lv_aload hx hb dX11_set_11 (lv_at hl 0 rfl) ?_
    refine lv_ifnull hx hb dX11_set_13 ?_
    refine lv_iload_n hx hb dX11_set_16 rfl (lv_at hl 3 rfl) ?_
    refine zif_lt (tgt := 25) hx hb dX11_set_17 (by decide) hf (fun hf => ?_) (fun hf => ?_)
    · refine lv_iconst (v := (-1)) hx hb dX11_set_25 (by decide) ?_
      exact zret_i X hP hS hf rfl dX11_set_26
    · refine lv_iload_n hx hb dX11_set_20 rfl (lv_at hl 3 rfl) ?_
      refine lv_iconst (v := 1) hx hb dX11_set_21 (by decide) ?_
      refine zicmp_le (tgt := 27) hx hb dX11_set_22 (by decide) hf (fun hf => ?_) (fun hf => ?_)
      · refine lv_iload_n hx hb dX11_set_27 rfl (lv_at hl 4 rfl) ?_
        refine zif_lt (tgt := 45) hx hb dX11_set_28 (by decide) hf (fun hf => ?_) (fun hf => ?_)
        · refine lv_iconst (v := (-1)) hx hb dX11_set_45 (by decide) ?_
          exact zret_i X hP hS hf rfl dX11_set_46
        · refine lv_iload_n hx hb dX11_set_31 rfl (lv_at hl 4 rfl) ?_
          refine lv_iload_n hx hb dX11_set_32 rfl (lv_at hl 3 rfl) ?_
          refine zif_ne (tgt := 40) hx hb dX11_set_33 (by decide) hf (fun hf => ?_) (fun hf => ?_)
          · refine lv_bipush (v := 9) hx hb dX11_set_40 (by decide) ?_
            exact hc_42 x1 x2 x3 k4 9 x3 s2 _ _ _ (lv_sub hl [1, 2, 3, 4, 0] rfl) hP hS hf
          · refine lv_iconst (v := 5) hx hb dX11_set_36 (by decide) ?_
            refine lv_goto (tgt := 42) hx hb dX11_set_37 (by decide) ?_
            exact hc_42 x1 x2 x3 k4 5 x3 s2 _ _ _ (lv_sub hl [1, 2, 3, 4, 0] rfl) hP hS hf
      · refine lv_iconst (v := (-1)) hx hb dX11_set_25 (by decide) ?_
        exact zret_i X hP hS hf rfl dX11_set_26
theorem dX11_tell_0 : decode cX11_tell 0 = .ok (.aload_n 0, 1) := by decide +kernel
theorem dX11_tell_1 : decode cX11_tell 1 = .ok (.getfield 12, 3) := by decide +kernel
theorem dX11_tell_4 : decode cX11_tell 4 = .ok (.iload_n 1, 1) := by decide +kernel
theorem dX11_tell_5 : decode cX11_tell 5 = .ok (.i2l, 1) := by decide +kernel
theorem dX11_tell_6 : decode cX11_tell 6 = .ok (.invokevirtual 155, 3) := by decide +kernel
theorem dX11_tell_9 : decode cX11_tell 9 = .ok (.astore 5, 2) := by decide +kernel
theorem dX11_tell_11 : decode cX11_tell 11 = .ok (.aload_n 0, 1) := by decide +kernel
theorem dX11_tell_12 : decode cX11_tell 12 = .ok (.getfield 28, 3) := by decide +kernel
theorem dX11_tell_15 : decode cX11_tell 15 = .ok (.getfield 84, 3) := by decide +kernel
theorem dX11_tell_18 : decode cX11_tell 18 = .ok (.iload_n 2, 1) := by decide +kernel
theorem dX11_tell_19 : decode cX11_tell 19 = .ok (.invokevirtual 128, 3) := by decide +kernel
theorem dX11_tell_22 : decode cX11_tell 22 = .ok (.istore 6, 2) := by decide +kernel
theorem dX11_tell_24 : decode cX11_tell 24 = .ok (.aload 5, 2) := by decide +kernel
theorem dX11_tell_26 : decode cX11_tell 26 = .ok (.ifnull 8, 3) := by decide +kernel
theorem dX11_tell_29 : decode cX11_tell 29 = .ok (.iload 6, 2) := by decide +kernel
theorem dX11_tell_31 : decode cX11_tell 31 = .ok (.ifCond .ge 5, 3) := by decide +kernel
theorem dX11_tell_34 : decode cX11_tell 34 = .ok (.iconst (-1), 1) := by decide +kernel
theorem dX11_tell_35 : decode cX11_tell 35 = .ok (.ireturn, 1) := by decide +kernel
theorem dX11_tell_36 : decode cX11_tell 36 = .ok (.aload 5, 2) := by decide +kernel
theorem dX11_tell_38 : decode cX11_tell 38 = .ok (.getfield 165, 3) := by decide +kernel
theorem dX11_tell_41 : decode cX11_tell 41 = .ok (.iload 6, 2) := by decide +kernel
theorem dX11_tell_43 : decode cX11_tell 43 = .ok (.lload_n 3, 1) := by decide +kernel
theorem dX11_tell_44 : decode cX11_tell 44 = .ok (.lastore, 1) := by decide +kernel
theorem dX11_tell_45 : decode cX11_tell 45 = .ok (.iconst 1, 1) := by decide +kernel
theorem dX11_tell_46 : decode cX11_tell 46 = .ok (.ireturn, 1) := by decide +kernel
set_option maxHeartbeats 4000000 in
set_option maxRecDepth 100000 in
theorem cn_X11_tell {l : Launch} {cA : Nat → ClassId} {ad : Nat → Nat} {D : va_G} {E : Nat → Nat} {A : Nat → Prop} {x1 : Int32} {x2 : Int32} {x3 : Int64} {s0 sr : SS} {rr : Int32} (hf : f_X11_tell x1 x2 x3 s0 = some (rr, sr)) : zCon Ox Nx cA ad D E l yX11_tell cX11_tell 7 (some .int) 1 A [.ref (ad 0), .int x1, .int x2, .long x3] s0 (some (.int rr)) sr := by
  refine zstart (own := RX11) hOx (by decide) rfl (Nat.le_of_ble_eq_true rfl) ?_
  intro p e s m args below meth c X hP ls hl
  have hx := X.1
  have hb := X.2.1
  have hl : lv_has ls 7 [(0, .ref (ad 0)), (1, .int x1), (2, .int x2), (3, .long x3)] := hl
  have hS : va_S A s.heap s.heap [] := va_S.rf
  rw [f_X11_tell] at hf
  refine lv_aload_n hx hb dX11_tell_0 rfl (lv_at hl 0 rfl) ?_
  refine gf_X11_12 X hP (k := 0) (q := 1) rfl dX11_tell_1 rfl ?_
  refine lv_iload_n hx hb dX11_tell_4 rfl (lv_at hl 1 rfl) ?_
  refine lv_i2l hx hb dX11_tell_5 rfl ?_
  obtain ⟨r1, s2, h3, hf⟩ := zbd_some hf
  refine zcallV X hP hS hl.1 (k := 1) (As := [.long (x1).toInt64]) (rest := []) (cn_X3_classAt h3) cw_X3_classAt zp_3 rfl (by decide) rfl ml_X11_155 (by decide) rfl rfl (Nat.le_of_ble_eq_true rfl) dX11_tell_6 (fun H locs hP hS => ?_)
  rcases r1 with _ | k4
  · have hf := zbn_none hf
    refine lv_astoreN (lv' := [(5, .null), (0, .ref (ad 0)), (1, .int x1), (2, .int x2), (3, .long x3)]) hx hb dX11_tell_9 hl (by decide) rfl (fun ls hl => ?_)
    refine lv_aload_n hx hb dX11_tell_11 rfl (lv_at hl 1 rfl) ?_
    refine gf_X11_28 X hP (k := 0) (q := 5) rfl dX11_tell_12 rfl ?_
    refine gf_X11_84 X hP (k := 5) (q := 6) rfl dX11_tell_15 rfl ?_
    refine lv_iload_n hx hb dX11_tell_18 rfl (lv_at hl 3 rfl) ?_
    obtain ⟨r6, s7, h8, hf⟩ := zbd_some hf
    refine zcallV X hP hS hl.1 (k := 6) (As := [.int x2]) (rest := []) (cn_X10_find h8) cw_X10_find zp_10 rfl (by decide) rfl ml_X11_128 (by decide) rfl rfl (Nat.le_of_ble_eq_true rfl) dX11_tell_19 (fun H locs hP hS => ?_)
    refine lv_istore (lv' := [(6, .int r6), (5, .null), (0, .ref (ad 0)), (1, .int x1), (2, .int x2), (3, .long x3)]) hx hb dX11_tell_22 hl (by decide) rfl (fun ls hl => ?_)
    refine lv_aloadN hx hb dX11_tell_24 (lv_at hl 1 rfl) ?_
    refine lv_ifnullN (tgt := 34) hx hb dX11_tell_26 (by decide) ?_
    refine lv_iconst (v := (-1)) hx hb dX11_tell_34 (by decide) ?_
    exact zret_i X hP hS hf rfl dX11_tell_35
  · have hf := zbn_some hf
    obtain ⟨g5, hf⟩ := zgd hf
    refine lv_astore (lv' := [(5, .ref (ad k4)), (0, .ref (ad 0)), (1, .int x1), (2, .int x2), (3, .long x3)]) hx hb dX11_tell_9 hl (by decide) rfl (fun ls hl => ?_)
    refine lv_aload_n hx hb dX11_tell_11 rfl (lv_at hl 1 rfl) ?_
    refine gf_X11_28 X hP (k := 0) (q := 5) rfl dX11_tell_12 rfl ?_
    refine gf_X11_84 X hP (k := 5) (q := 6) rfl dX11_tell_15 rfl ?_
    refine lv_iload_n hx hb dX11_tell_18 rfl (lv_at hl 3 rfl) ?_
    obtain ⟨r9, s10, h11, hf⟩ := zbd_some hf
    refine zcallV X hP hS hl.1 (k := 6) (As := [.int x2]) (rest := []) (cn_X10_find h11) cw_X10_find zp_10 rfl (by decide) rfl ml_X11_128 (by decide) rfl rfl (Nat.le_of_ble_eq_true rfl) dX11_tell_19 (fun H locs hP hS => ?_)
    refine lv_istore (lv' := [(6, .int r9), (5, .ref (ad k4)), (0, .ref (ad 0)), (1, .int x1), (2, .int x2), (3, .long x3)]) hx hb dX11_tell_22 hl (by decide) rfl (fun ls hl => ?_)
    refine lv_aload hx hb dX11_tell_24 (lv_at hl 1 rfl) ?_
    refine lv_ifnull hx hb dX11_tell_26 ?_
    refine lv_iload hx hb dX11_tell_29 (lv_at hl 0 rfl) ?_
    refine zif_ge (tgt := 36) hx hb dX11_tell_31 (by decide) hf (fun hf => ?_) (fun hf => ?_)
    · refine lv_aload hx hb dX11_tell_36 (lv_at hl 1 rfl) ?_
      refine gf_X11_165 X hP (k := k4) g5 dX11_tell_38 rfl ?_
      refine lv_iload hx hb dX11_tell_41 (lv_at hl 0 rfl) ?_
      refine lv_lload_n hx hb dX11_tell_43 rfl (lv_at hl 5 rfl) ?_
      obtain ⟨g12, hf⟩ := zgd hf
      obtain ⟨n13, rn13, on13, in13⟩ := zok_of g12
      refine zast_l X hP hS (k := (zrf Ox k4 2)) on13 in13 dX11_tell_44 (fun H locs hP hS => ?_)
      refine lv_iconst (v := 1) hx hb dX11_tell_45 (by decide) ?_
      exact zret_i X hP hS hf rfl dX11_tell_46
    · refine lv_iconst (v := (-1)) hx hb dX11_tell_34 (by decide) ?_
      exact zret_i X hP hS hf rfl dX11_tell_35
theorem dX11_of_0 : decode cX11_of 0 = .ok (.aload_n 0, 1) := by decide +kernel
theorem dX11_of_1 : decode cX11_of 1 = .ok (.getfield 12, 3) := by decide +kernel
theorem dX11_of_4 : decode cX11_of 4 = .ok (.iload_n 1, 1) := by decide +kernel
theorem dX11_of_5 : decode cX11_of 5 = .ok (.i2l, 1) := by decide +kernel
theorem dX11_of_6 : decode cX11_of 6 = .ok (.invokevirtual 155, 3) := by decide +kernel
theorem dX11_of_9 : decode cX11_of 9 = .ok (.astore_n 3, 1) := by decide +kernel
theorem dX11_of_10 : decode cX11_of 10 = .ok (.aload_n 3, 1) := by decide +kernel
theorem dX11_of_11 : decode cX11_of 11 = .ok (.ifnonnull 5, 3) := by decide +kernel
theorem dX11_of_14 : decode cX11_of 14 = .ok (.iconst (-1), 1) := by decide +kernel
theorem dX11_of_15 : decode cX11_of 15 = .ok (.ireturn, 1) := by decide +kernel
theorem dX11_of_16 : decode cX11_of 16 = .ok (.iload_n 2, 1) := by decide +kernel
theorem dX11_of_17 : decode cX11_of 17 = .ok (.tableswitch 81 0 4 #[35, 40, 45, 57, 69], 35) := by decide +kernel
theorem dX11_of_52 : decode cX11_of 52 = .ok (.aload_n 3, 1) := by decide +kernel
theorem dX11_of_53 : decode cX11_of 53 = .ok (.getfield 168, 3) := by decide +kernel
theorem dX11_of_56 : decode cX11_of 56 = .ok (.ireturn, 1) := by decide +kernel
theorem dX11_of_57 : decode cX11_of 57 = .ok (.aload_n 3, 1) := by decide +kernel
theorem dX11_of_58 : decode cX11_of 58 = .ok (.getfield 171, 3) := by decide +kernel
theorem dX11_of_61 : decode cX11_of 61 = .ok (.ireturn, 1) := by decide +kernel
theorem dX11_of_62 : decode cX11_of 62 = .ok (.aload_n 3, 1) := by decide +kernel
theorem dX11_of_63 : decode cX11_of 63 = .ok (.aload_n 0, 1) := by decide +kernel
theorem dX11_of_64 : decode cX11_of 64 = .ok (.getfield 28, 3) := by decide +kernel
theorem dX11_of_67 : decode cX11_of 67 = .ok (.getfield 84, 3) := by decide +kernel
theorem dX11_of_70 : decode cX11_of 70 = .ok (.invokevirtual 174, 3) := by decide +kernel
theorem dX11_of_73 : decode cX11_of 73 = .ok (.ireturn, 1) := by decide +kernel
theorem dX11_of_74 : decode cX11_of 74 = .ok (.aload_n 3, 1) := by decide +kernel
theorem dX11_of_75 : decode cX11_of 75 = .ok (.aload_n 0, 1) := by decide +kernel
theorem dX11_of_76 : decode cX11_of 76 = .ok (.getfield 28, 3) := by decide +kernel
theorem dX11_of_79 : decode cX11_of 79 = .ok (.getfield 84, 3) := by decide +kernel
theorem dX11_of_82 : decode cX11_of 82 = .ok (.invokevirtual 178, 3) := by decide +kernel
theorem dX11_of_85 : decode cX11_of 85 = .ok (.ireturn, 1) := by decide +kernel
theorem dX11_of_86 : decode cX11_of 86 = .ok (.aload_n 3, 1) := by decide +kernel
theorem dX11_of_87 : decode cX11_of 87 = .ok (.aload_n 0, 1) := by decide +kernel
theorem dX11_of_88 : decode cX11_of 88 = .ok (.getfield 28, 3) := by decide +kernel
theorem dX11_of_91 : decode cX11_of 91 = .ok (.getfield 84, 3) := by decide +kernel
theorem dX11_of_94 : decode cX11_of 94 = .ok (.invokevirtual 181, 3) := by decide +kernel
theorem dX11_of_97 : decode cX11_of 97 = .ok (.ireturn, 1) := by decide +kernel
theorem dX11_of_98 : decode cX11_of 98 = .ok (.iconst (-1), 1) := by decide +kernel
theorem dX11_of_99 : decode cX11_of 99 = .ok (.ireturn, 1) := by decide +kernel
set_option maxHeartbeats 4000000 in
set_option maxRecDepth 100000 in
theorem cn_X11_of {l : Launch} {cA : Nat → ClassId} {ad : Nat → Nat} {D : va_G} {E : Nat → Nat} {A : Nat → Prop} {x1 : Int32} {x2 : Int32} {s0 sr : SS} {rr : Int32} (hf : f_X11_of x1 x2 s0 = some (rr, sr)) : zCon Ox Nx cA ad D E l yX11_of cX11_of 4 (some .int) 2 A [.ref (ad 0), .int x1, .int x2] s0 (some (.int rr)) sr := by
  refine zstart (own := RX11) hOx (by decide) rfl (Nat.le_of_ble_eq_true rfl) ?_
  intro p e s m args below meth c X hP ls hl
  have hx := X.1
  have hb := X.2.1
  have hl : lv_has ls 4 [(0, .ref (ad 0)), (1, .int x1), (2, .int x2)] := hl
  have hS : va_S A s.heap s.heap [] := va_S.rf
  rw [f_X11_of] at hf
  refine lv_aload_n hx hb dX11_of_0 rfl (lv_at hl 0 rfl) ?_
  refine gf_X11_12 X hP (k := 0) (q := 1) rfl dX11_of_1 rfl ?_
  refine lv_iload_n hx hb dX11_of_4 rfl (lv_at hl 1 rfl) ?_
  refine lv_i2l hx hb dX11_of_5 rfl ?_
  obtain ⟨r1, s2, h3, hf⟩ := zbd_some hf
  refine zcallV X hP hS hl.1 (k := 1) (As := [.long (x1).toInt64]) (rest := []) (cn_X3_classAt h3) cw_X3_classAt zp_3 rfl (by decide) rfl ml_X11_155 (by decide) rfl rfl (Nat.le_of_ble_eq_true rfl) dX11_of_6 (fun H locs hP hS => ?_)
  rcases r1 with _ | k4
  · have hf := zbn_none hf
    refine lv_astore_nN (lv' := [(3, .null), (0, .ref (ad 0)), (1, .int x1), (2, .int x2)]) hx hb dX11_of_9 rfl hl (by decide) rfl (fun ls hl => ?_)
    refine lv_aload_nN hx hb dX11_of_10 rfl (lv_at hl 0 rfl) ?_
    refine lv_ifnonnullN hx hb dX11_of_11 ?_
    refine lv_iconst (v := (-1)) hx hb dX11_of_14 (by decide) ?_
    exact zret_i X hP hS hf rfl dX11_of_15
  · have hf := zbn_some hf
    obtain ⟨g5, hf⟩ := zgd hf
    refine lv_astore_n (lv' := [(3, .ref (ad k4)), (0, .ref (ad 0)), (1, .int x1), (2, .int x2)]) hx hb dX11_of_9 rfl hl (by decide) rfl (fun ls hl => ?_)
    refine lv_aload_n hx hb dX11_of_10 rfl (lv_at hl 0 rfl) ?_
    refine lv_ifnonnull (tgt := 16) hx hb dX11_of_11 (by decide) ?_
    refine lv_iload_n hx hb dX11_of_16 rfl (lv_at hl 3 rfl) ?_
    by_cases e6 : x2 = 0
    · rw [if_pos e6] at hf
      refine lv_tableIn (tgt := 52) (off := 35) hx hb dX11_of_17 (by rw [e6]; decide) (by rw [e6]; decide) (by rw [e6]; decide +kernel) (by decide) ?_
      refine lv_aload_n hx hb dX11_of_52 rfl (lv_at hl 0 rfl) ?_
      refine gf_X11_168 X hP (k := k4) g5 dX11_of_53 ?_
      exact zret_i X hP hS hf rfl dX11_of_56
    · rw [if_neg e6] at hf
      by_cases e7 : x2 = 1
      · rw [if_pos e7] at hf
        refine lv_tableIn (tgt := 57) (off := 40) hx hb dX11_of_17 (by rw [e7]; decide) (by rw [e7]; decide) (by rw [e7]; decide +kernel) (by decide) ?_
        refine lv_aload_n hx hb dX11_of_57 rfl (lv_at hl 0 rfl) ?_
        refine gf_X11_171 X hP (k := k4) g5 dX11_of_58 ?_
        exact zret_i X hP hS hf rfl dX11_of_61
      · rw [if_neg e7] at hf
        by_cases e8 : x2 = 2
        · rw [if_pos e8] at hf
          refine lv_tableIn (tgt := 62) (off := 45) hx hb dX11_of_17 (by rw [e8]; decide) (by rw [e8]; decide) (by rw [e8]; decide +kernel) (by decide) ?_
          refine lv_aload_n hx hb dX11_of_62 rfl (lv_at hl 0 rfl) ?_
          refine lv_aload_n hx hb dX11_of_63 rfl (lv_at hl 1 rfl) ?_
          refine gf_X11_28 X hP (k := 0) (q := 5) rfl dX11_of_64 rfl ?_
          refine gf_X11_84 X hP (k := 5) (q := 6) rfl dX11_of_67 rfl ?_
          obtain ⟨r9, s10, h11, hf⟩ := zbd_some hf
          refine zcallV X hP hS hl.1 (k := k4) (As := [.ref (ad 6)]) (rest := []) (cn_X4_shown h11) cw_X4_shown zp_4 g5 (by decide) rfl ml_X11_174 (by decide) rfl rfl (Nat.le_of_ble_eq_true rfl) dX11_of_70 (fun H locs hP hS => ?_)
          exact zret_i X hP hS hf rfl dX11_of_73
        · rw [if_neg e8] at hf
          by_cases e12 : x2 = 3
          · rw [if_pos e12] at hf
            refine lv_tableIn (tgt := 74) (off := 57) hx hb dX11_of_17 (by rw [e12]; decide) (by rw [e12]; decide) (by rw [e12]; decide +kernel) (by decide) ?_
            refine lv_aload_n hx hb dX11_of_74 rfl (lv_at hl 0 rfl) ?_
            refine lv_aload_n hx hb dX11_of_75 rfl (lv_at hl 1 rfl) ?_
            refine gf_X11_28 X hP (k := 0) (q := 5) rfl dX11_of_76 rfl ?_
            refine gf_X11_84 X hP (k := 5) (q := 6) rfl dX11_of_79 rfl ?_
            obtain ⟨r13, s14, h15, hf⟩ := zbd_some hf
            refine zcallV X hP hS hl.1 (k := k4) (As := [.ref (ad 6)]) (rest := []) (cn_X4_greatestSize h15) cw_X4_greatestSize zp_4 g5 (by decide) rfl ml_X11_178 (by decide) rfl rfl (Nat.le_of_ble_eq_true rfl) dX11_of_82 (fun H locs hP hS => ?_)
            exact zret_i X hP hS hf rfl dX11_of_85
          · rw [if_neg e12] at hf
            by_cases e16 : x2 = 4
            · rw [if_pos e16] at hf
              refine lv_tableIn (tgt := 86) (off := 69) hx hb dX11_of_17 (by rw [e16]; decide) (by rw [e16]; decide) (by rw [e16]; decide +kernel) (by decide) ?_
              refine lv_aload_n hx hb dX11_of_86 rfl (lv_at hl 0 rfl) ?_
              refine lv_aload_n hx hb dX11_of_87 rfl (lv_at hl 1 rfl) ?_
              refine gf_X11_28 X hP (k := 0) (q := 5) rfl dX11_of_88 rfl ?_
              refine gf_X11_84 X hP (k := 5) (q := 6) rfl dX11_of_91 rfl ?_
              obtain ⟨r17, s18, h19, hf⟩ := zbd_some hf
              refine zcallV X hP hS hl.1 (k := k4) (As := [.ref (ad 6)]) (rest := []) (cn_X4_leastSize h19) cw_X4_leastSize zp_4 g5 (by decide) rfl ml_X11_181 (by decide) rfl rfl (Nat.le_of_ble_eq_true rfl) dX11_of_94 (fun H locs hP hS => ?_)
              exact zret_i X hP hS hf rfl dX11_of_97
            · rw [if_neg e16] at hf
              have ye6 := zne e6 (v := 0) (by decide)
              have ye7 := zne e7 (v := 1) (by decide)
              have ye8 := zne e8 (v := 2) (by decide)
              have ye12 := zne e12 (v := 3) (by decide)
              have ye16 := zne e16 (v := 4) (by decide)
              refine lv_tableOut (tgt := 98) hx hb dX11_of_17 (by omega) (by decide) ?_
              refine lv_iconst (v := (-1)) hx hb dX11_of_98 (by decide) ?_
              exact zret_i X hP hS hf rfl dX11_of_99
theorem dX11_number_0 : decode cX11_number 0 = .ok (.aload_n 0, 1) := by decide +kernel
theorem dX11_number_1 : decode cX11_number 1 = .ok (.getfield 12, 3) := by decide +kernel
theorem dX11_number_4 : decode cX11_number 4 = .ok (.iload_n 1, 1) := by decide +kernel
theorem dX11_number_5 : decode cX11_number 5 = .ok (.i2l, 1) := by decide +kernel
theorem dX11_number_6 : decode cX11_number 6 = .ok (.invokevirtual 155, 3) := by decide +kernel
theorem dX11_number_9 : decode cX11_number 9 = .ok (.astore_n 3, 1) := by decide +kernel
theorem dX11_number_10 : decode cX11_number 10 = .ok (.aload_n 0, 1) := by decide +kernel
theorem dX11_number_11 : decode cX11_number 11 = .ok (.getfield 28, 3) := by decide +kernel
theorem dX11_number_14 : decode cX11_number 14 = .ok (.getfield 84, 3) := by decide +kernel
theorem dX11_number_17 : decode cX11_number 17 = .ok (.iload_n 2, 1) := by decide +kernel
theorem dX11_number_18 : decode cX11_number 18 = .ok (.invokevirtual 128, 3) := by decide +kernel
theorem dX11_number_21 : decode cX11_number 21 = .ok (.istore 4, 2) := by decide +kernel
theorem dX11_number_23 : decode cX11_number 23 = .ok (.aload_n 3, 1) := by decide +kernel
theorem dX11_number_24 : decode cX11_number 24 = .ok (.ifnull 8, 3) := by decide +kernel
theorem dX11_number_27 : decode cX11_number 27 = .ok (.iload 4, 2) := by decide +kernel
theorem dX11_number_29 : decode cX11_number 29 = .ok (.ifCond .ge 9, 3) := by decide +kernel
theorem dX11_number_32 : decode cX11_number 32 = .ok (.ldc2_w 132, 3) := by decide +kernel
theorem dX11_number_35 : decode cX11_number 35 = .ok (.goto 16, 3) := by decide +kernel
theorem dX11_number_38 : decode cX11_number 38 = .ok (.aload_n 3, 1) := by decide +kernel
theorem dX11_number_39 : decode cX11_number 39 = .ok (.aload_n 0, 1) := by decide +kernel
theorem dX11_number_40 : decode cX11_number 40 = .ok (.getfield 28, 3) := by decide +kernel
theorem dX11_number_43 : decode cX11_number 43 = .ok (.getfield 84, 3) := by decide +kernel
theorem dX11_number_46 : decode cX11_number 46 = .ok (.iload 4, 2) := by decide +kernel
theorem dX11_number_48 : decode cX11_number 48 = .ok (.invokevirtual 184, 3) := by decide +kernel
theorem dX11_number_51 : decode cX11_number 51 = .ok (.lreturn, 1) := by decide +kernel
set_option maxHeartbeats 4000000 in
set_option maxRecDepth 100000 in
theorem cn_X11_number {l : Launch} {cA : Nat → ClassId} {ad : Nat → Nat} {D : va_G} {E : Nat → Nat} {A : Nat → Prop} {x1 : Int32} {x2 : Int32} {s0 sr : SS} {rr : Int64} (hf : f_X11_number x1 x2 s0 = some (rr, sr)) : zCon Ox Nx cA ad D E l yX11_number cX11_number 5 (some .long) 1 A [.ref (ad 0), .int x1, .int x2] s0 (some (.long rr)) sr := by
  refine zstart (own := RX11) hOx (by decide) rfl (Nat.le_of_ble_eq_true rfl) ?_
  intro p e s m args below meth c X hP ls hl
  have hx := X.1
  have hb := X.2.1
  have hl : lv_has ls 5 [(0, .ref (ad 0)), (1, .int x1), (2, .int x2)] := hl
  have hS : va_S A s.heap s.heap [] := va_S.rf
  rw [f_X11_number] at hf
  refine lv_aload_n hx hb dX11_number_0 rfl (lv_at hl 0 rfl) ?_
  refine gf_X11_12 X hP (k := 0) (q := 1) rfl dX11_number_1 rfl ?_
  refine lv_iload_n hx hb dX11_number_4 rfl (lv_at hl 1 rfl) ?_
  refine lv_i2l hx hb dX11_number_5 rfl ?_
  obtain ⟨r1, s2, h3, hf⟩ := zbd_some hf
  refine zcallV X hP hS hl.1 (k := 1) (As := [.long (x1).toInt64]) (rest := []) (cn_X3_classAt h3) cw_X3_classAt zp_3 rfl (by decide) rfl ml_X11_155 (by decide) rfl rfl (Nat.le_of_ble_eq_true rfl) dX11_number_6 (fun H locs hP hS => ?_)
  rcases r1 with _ | k4
  · have hf := zbn_none hf
    refine lv_astore_nN (lv' := [(3, .null), (0, .ref (ad 0)), (1, .int x1), (2, .int x2)]) hx hb dX11_number_9 rfl hl (by decide) rfl (fun ls hl => ?_)
    refine lv_aload_n hx hb dX11_number_10 rfl (lv_at hl 1 rfl) ?_
    refine gf_X11_28 X hP (k := 0) (q := 5) rfl dX11_number_11 rfl ?_
    refine gf_X11_84 X hP (k := 5) (q := 6) rfl dX11_number_14 rfl ?_
    refine lv_iload_n hx hb dX11_number_17 rfl (lv_at hl 3 rfl) ?_
    obtain ⟨r6, s7, h8, hf⟩ := zbd_some hf
    refine zcallV X hP hS hl.1 (k := 6) (As := [.int x2]) (rest := []) (cn_X10_find h8) cw_X10_find zp_10 rfl (by decide) rfl ml_X11_128 (by decide) rfl rfl (Nat.le_of_ble_eq_true rfl) dX11_number_18 (fun H locs hP hS => ?_)
    refine lv_istore (lv' := [(4, .int r6), (3, .null), (0, .ref (ad 0)), (1, .int x1), (2, .int x2)]) hx hb dX11_number_21 hl (by decide) rfl (fun ls hl => ?_)
    refine lv_aload_nN hx hb dX11_number_23 rfl (lv_at hl 1 rfl) ?_
    refine lv_ifnullN (tgt := 32) hx hb dX11_number_24 (by decide) ?_
    refine zldc2 X co_X11_132 dX11_number_32 ?_
    refine lv_goto (tgt := 51) hx hb dX11_number_35 (by decide) ?_
    exact zret_l X hP hS hf dX11_number_51
  · have hf := zbn_some hf
    obtain ⟨g5, hf⟩ := zgd hf
    refine lv_astore_n (lv' := [(3, .ref (ad k4)), (0, .ref (ad 0)), (1, .int x1), (2, .int x2)]) hx hb dX11_number_9 rfl hl (by decide) rfl (fun ls hl => ?_)
    refine lv_aload_n hx hb dX11_number_10 rfl (lv_at hl 1 rfl) ?_
    refine gf_X11_28 X hP (k := 0) (q := 5) rfl dX11_number_11 rfl ?_
    refine gf_X11_84 X hP (k := 5) (q := 6) rfl dX11_number_14 rfl ?_
    refine lv_iload_n hx hb dX11_number_17 rfl (lv_at hl 3 rfl) ?_
    obtain ⟨r9, s10, h11, hf⟩ := zbd_some hf
    refine zcallV X hP hS hl.1 (k := 6) (As := [.int x2]) (rest := []) (cn_X10_find h11) cw_X10_find zp_10 rfl (by decide) rfl ml_X11_128 (by decide) rfl rfl (Nat.le_of_ble_eq_true rfl) dX11_number_18 (fun H locs hP hS => ?_)
    refine lv_istore (lv' := [(4, .int r9), (3, .ref (ad k4)), (0, .ref (ad 0)), (1, .int x1), (2, .int x2)]) hx hb dX11_number_21 hl (by decide) rfl (fun ls hl => ?_)
    refine lv_aload_n hx hb dX11_number_23 rfl (lv_at hl 1 rfl) ?_
    refine lv_ifnull hx hb dX11_number_24 ?_
    refine lv_iload hx hb dX11_number_27 (lv_at hl 0 rfl) ?_
    refine zif_ge (tgt := 38) hx hb dX11_number_29 (by decide) hf (fun hf => ?_) (fun hf => ?_)
    · refine lv_aload_n hx hb dX11_number_38 rfl (lv_at hl 1 rfl) ?_
      refine lv_aload_n hx hb dX11_number_39 rfl (lv_at hl 2 rfl) ?_
      refine gf_X11_28 X hP (k := 0) (q := 5) rfl dX11_number_40 rfl ?_
      refine gf_X11_84 X hP (k := 5) (q := 6) rfl dX11_number_43 rfl ?_
      refine lv_iload hx hb dX11_number_46 (lv_at hl 0 rfl) ?_
      obtain ⟨r12, s13, h14, hf⟩ := zbd_some hf
      refine zcallV X hP hS hl.1 (k := k4) (As := [.ref (ad 6), .int r9]) (rest := []) (cn_X4_numberAt h14) cw_X4_numberAt zp_4 g5 (by decide) rfl ml_X11_184 (by decide) rfl rfl (Nat.le_of_ble_eq_true rfl) dX11_number_48 (fun H locs hP hS => ?_)
      exact zret_l X hP hS hf dX11_number_51
    · refine zldc2 X co_X11_132 dX11_number_32 ?_
      refine lv_goto (tgt := 51) hx hb dX11_number_35 (by decide) ?_
      exact zret_l X hP hS hf dX11_number_51
theorem dX11_drop_0 : decode cX11_drop 0 = .ok (.aload_n 0, 1) := by decide +kernel
theorem dX11_drop_1 : decode cX11_drop 1 = .ok (.getfield 12, 3) := by decide +kernel
theorem dX11_drop_4 : decode cX11_drop 4 = .ok (.getfield 141, 3) := by decide +kernel
theorem dX11_drop_7 : decode cX11_drop 7 = .ok (.ifCond .ne 6, 3) := by decide +kernel
theorem dX11_drop_10 : decode cX11_drop 10 = .ok (.bipush (-5), 2) := by decide +kernel
theorem dX11_drop_12 : decode cX11_drop 12 = .ok (.ireturn, 1) := by decide +kernel
theorem dX11_drop_13 : decode cX11_drop 13 = .ok (.aload_n 0, 1) := by decide +kernel
theorem dX11_drop_14 : decode cX11_drop 14 = .ok (.getfield 12, 3) := by decide +kernel
theorem dX11_drop_17 : decode cX11_drop 17 = .ok (.dup, 1) := by decide +kernel
theorem dX11_drop_18 : decode cX11_drop 18 = .ok (.getfield 141, 3) := by decide +kernel
theorem dX11_drop_21 : decode cX11_drop 21 = .ok (.iconst 1, 1) := by decide +kernel
theorem dX11_drop_22 : decode cX11_drop 22 = .ok (.isub, 1) := by decide +kernel
theorem dX11_drop_23 : decode cX11_drop 23 = .ok (.putfield 141, 3) := by decide +kernel
theorem dX11_drop_26 : decode cX11_drop 26 = .ok (.aload_n 0, 1) := by decide +kernel
theorem dX11_drop_27 : decode cX11_drop 27 = .ok (.getfield 35, 3) := by decide +kernel
theorem dX11_drop_30 : decode cX11_drop 30 = .ok (.invokevirtual 142, 3) := by decide +kernel
theorem dX11_drop_33 : decode cX11_drop 33 = .ok (.aload_n 0, 1) := by decide +kernel
theorem dX11_drop_34 : decode cX11_drop 34 = .ok (.getfield 12, 3) := by decide +kernel
theorem dX11_drop_37 : decode cX11_drop 37 = .ok (.getfield 141, 3) := by decide +kernel
theorem dX11_drop_40 : decode cX11_drop 40 = .ok (.ireturn, 1) := by decide +kernel
set_option maxHeartbeats 4000000 in
set_option maxRecDepth 100000 in
theorem cn_X11_drop {l : Launch} {cA : Nat → ClassId} {ad : Nat → Nat} {D : va_G} {E : Nat → Nat} {A : Nat → Prop}  {s0 sr : SS} {rr : Int32} (hf : f_X11_drop s0 = some (rr, sr)) : zCon Ox Nx cA ad D E l yX11_drop cX11_drop 1 (some .int) 1 A [.ref (ad 0)] s0 (some (.int rr)) sr := by
  refine zstart (own := RX11) hOx (by decide) rfl (Nat.le_of_ble_eq_true rfl) ?_
  intro p e s m args below meth c X hP ls hl
  have hx := X.1
  have hb := X.2.1
  have hl : lv_has ls 1 [(0, .ref (ad 0))] := hl
  have hS : va_S A s.heap s.heap [] := va_S.rf
  rw [f_X11_drop] at hf
  refine lv_aload_n hx hb dX11_drop_0 rfl (lv_at hl 0 rfl) ?_
  refine gf_X11_12 X hP (k := 0) (q := 1) rfl dX11_drop_1 rfl ?_
  refine gf_X11_141 X hP (k := 1) rfl dX11_drop_4 ?_
  refine zif_ne (tgt := 13) hx hb dX11_drop_7 (by decide) hf (fun hf => ?_) (fun hf => ?_)
  · refine lv_aload_n hx hb dX11_drop_13 rfl (lv_at hl 0 rfl) ?_
    refine gf_X11_12 X hP (k := 0) (q := 1) rfl dX11_drop_14 rfl ?_
    refine lv_dup hx hb dX11_drop_17 rfl ?_
    refine gf_X11_141 X hP (k := 1) rfl dX11_drop_18 ?_
    refine lv_iconst (v := 1) hx hb dX11_drop_21 (by decide) ?_
    refine lv_isub hx hb dX11_drop_22 ?_
    refine pf_X11_141 X hP hS (k := 1) rfl dX11_drop_23 (fun H locs hP hS => ?_)
    refine lv_aload_n hx hb dX11_drop_26 rfl (lv_at hl 0 rfl) ?_
    refine gf_X11_35 X hP (k := 0) (q := 7) rfl dX11_drop_27 rfl ?_
    obtain ⟨r1, s2, h3, hf⟩ := zbd_some hf
    refine zcallV X hP hS hl.1 (k := 7) (As := []) (rest := []) (cn_X1_forget h3) cw_X1_forget zp_1 rfl (by decide) rfl ml_X11_142 (by decide) rfl rfl (Nat.le_of_ble_eq_true rfl) dX11_drop_30 (fun H locs hP hS => ?_)
    refine lv_aload_n hx hb dX11_drop_33 rfl (lv_at hl 0 rfl) ?_
    refine gf_X11_12 X hP (k := 0) (q := 1) rfl dX11_drop_34 rfl ?_
    refine gf_X11_141 X hP (k := 1) rfl dX11_drop_37 ?_
    exact zret_i X hP hS hf rfl dX11_drop_40
  · refine lv_bipush (v := (-5)) hx hb dX11_drop_10 (by decide) ?_
    exact zret_i X hP hS hf rfl dX11_drop_12
theorem dX11_bringAll_0 : decode cX11_bringAll 0 = .ok (.aload_n 0, 1) := by decide +kernel
theorem dX11_bringAll_1 : decode cX11_bringAll 1 = .ok (.getfield 12, 3) := by decide +kernel
theorem dX11_bringAll_4 : decode cX11_bringAll 4 = .ok (.invokevirtual 198, 3) := by decide +kernel
theorem dX11_bringAll_7 : decode cX11_bringAll 7 = .ok (.astore_n 1, 1) := by decide +kernel
theorem dX11_bringAll_8 : decode cX11_bringAll 8 = .ok (.aload_n 1, 1) := by decide +kernel
theorem dX11_bringAll_9 : decode cX11_bringAll 9 = .ok (.ifnull 29, 3) := by decide +kernel
theorem dX11_bringAll_12 : decode cX11_bringAll 12 = .ok (.aload_n 0, 1) := by decide +kernel
theorem dX11_bringAll_13 : decode cX11_bringAll 13 = .ok (.getfield 28, 3) := by decide +kernel
theorem dX11_bringAll_16 : decode cX11_bringAll 16 = .ok (.getfield 188, 3) := by decide +kernel
theorem dX11_bringAll_19 : decode cX11_bringAll 19 = .ok (.iconst 0, 1) := by decide +kernel
theorem dX11_bringAll_20 : decode cX11_bringAll 20 = .ok (.aload_n 1, 1) := by decide +kernel
theorem dX11_bringAll_21 : decode cX11_bringAll 21 = .ok (.getfield 165, 3) := by decide +kernel
theorem dX11_bringAll_24 : decode cX11_bringAll 24 = .ok (.iconst 0, 1) := by decide +kernel
theorem dX11_bringAll_25 : decode cX11_bringAll 25 = .ok (.aload_n 0, 1) := by decide +kernel
theorem dX11_bringAll_26 : decode cX11_bringAll 26 = .ok (.getfield 28, 3) := by decide +kernel
theorem dX11_bringAll_29 : decode cX11_bringAll 29 = .ok (.getfield 84, 3) := by decide +kernel
theorem dX11_bringAll_32 : decode cX11_bringAll 32 = .ok (.getfield 125, 3) := by decide +kernel
theorem dX11_bringAll_35 : decode cX11_bringAll 35 = .ok (.invokestatic 202, 3) := by decide +kernel
theorem dX11_bringAll_38 : decode cX11_bringAll 38 = .ok (.return_, 1) := by decide +kernel
set_option maxHeartbeats 4000000 in
set_option maxRecDepth 100000 in
theorem cn_X11_bringAll {l : Launch} {cA : Nat → ClassId} {ad : Nat → Nat} {D : va_G} {E : Nat → Nat} {A : Nat → Prop}  {s0 sr : SS} {rr : Unit} (hf : f_X11_bringAll s0 = some (rr, sr)) : zCon Ox Nx cA ad D E l yX11_bringAll cX11_bringAll 2 none 3 A [.ref (ad 0)] s0 none sr := by
  refine zstart (own := RX11) hOx (by decide) rfl (Nat.le_of_ble_eq_true rfl) ?_
  intro p e s m args below meth c X hP ls hl
  have hx := X.1
  have hb := X.2.1
  have hl : lv_has ls 2 [(0, .ref (ad 0))] := hl
  have hS : va_S A s.heap s.heap [] := va_S.rf
  rw [f_X11_bringAll] at hf
  refine lv_aload_n hx hb dX11_bringAll_0 rfl (lv_at hl 0 rfl) ?_
  refine gf_X11_12 X hP (k := 0) (q := 1) rfl dX11_bringAll_1 rfl ?_
  obtain ⟨r1, s2, h3, hf⟩ := zbd_some hf
  refine zcallV X hP hS hl.1 (k := 1) (As := []) (rest := []) (cn_X3_bring h3) cw_X3_bring zp_3 rfl (by decide) rfl ml_X11_198 (by decide) rfl rfl (Nat.le_of_ble_eq_true rfl) dX11_bringAll_4 (fun H locs hP hS => ?_)
  rcases r1 with _ | k4
  · have hf := zbn_none hf
    refine lv_astore_nN (lv' := [(1, .null), (0, .ref (ad 0))]) hx hb dX11_bringAll_7 rfl hl (by decide) rfl (fun ls hl => ?_)
    refine lv_aload_nN hx hb dX11_bringAll_8 rfl (lv_at hl 0 rfl) ?_
    refine lv_ifnullN (tgt := 38) hx hb dX11_bringAll_9 (by decide) ?_
    exact zret_v X hP hS hf dX11_bringAll_38
  · have hf := zbn_some hf
    obtain ⟨g5, hf⟩ := zgd hf
    refine lv_astore_n (lv' := [(1, .ref (ad k4)), (0, .ref (ad 0))]) hx hb dX11_bringAll_7 rfl hl (by decide) rfl (fun ls hl => ?_)
    refine lv_aload_n hx hb dX11_bringAll_8 rfl (lv_at hl 0 rfl) ?_
    refine lv_ifnull hx hb dX11_bringAll_9 ?_
    refine lv_aload_n hx hb dX11_bringAll_12 rfl (lv_at hl 1 rfl) ?_
    refine gf_X11_28 X hP (k := 0) (q := 5) rfl dX11_bringAll_13 rfl ?_
    refine gf_X11_188 X hP (k := 5) (q := 21) rfl dX11_bringAll_16 rfl ?_
    refine lv_iconst (v := 0) hx hb dX11_bringAll_19 (by decide) ?_
    refine lv_aload_n hx hb dX11_bringAll_20 rfl (lv_at hl 0 rfl) ?_
    refine gf_X11_165 X hP (k := k4) g5 dX11_bringAll_21 rfl ?_
    refine lv_iconst (v := 0) hx hb dX11_bringAll_24 (by decide) ?_
    refine lv_aload_n hx hb dX11_bringAll_25 rfl (lv_at hl 1 rfl) ?_
    refine gf_X11_28 X hP (k := 0) (q := 5) rfl dX11_bringAll_26 rfl ?_
    refine gf_X11_84 X hP (k := 5) (q := 6) rfl dX11_bringAll_29 rfl ?_
    refine gf_X11_125 X hP (k := 6) rfl dX11_bringAll_32 ?_
    obtain ⟨g6, hf⟩ := zgd hf
    refine zcp_l X hP hS hl.1 (k0 := 21) (k1 := (zrf Ox k4 2)) ml_X11_202 nt_copy.1 nt_copy.2.1 nt_copy.2.2 g6 ⟨Nat.le_of_ble_eq_true rfl, Nat.le_of_ble_eq_true rfl⟩ dX11_bringAll_35 (fun H locs hP hS => ?_)
    exact zret_v X hP hS hf dX11_bringAll_38
theorem dX11_canonical_0 : decode cX11_canonical 0 = .ok (.aload_n 0, 1) := by decide +kernel
theorem dX11_canonical_1 : decode cX11_canonical 1 = .ok (.getfield 12, 3) := by decide +kernel
theorem dX11_canonical_4 : decode cX11_canonical 4 = .ok (.getfield 141, 3) := by decide +kernel
theorem dX11_canonical_7 : decode cX11_canonical 7 = .ok (.bipush 8, 2) := by decide +kernel
theorem dX11_canonical_9 : decode cX11_canonical 9 = .ok (.if_icmp .lt 6, 3) := by decide +kernel
theorem dX11_canonical_12 : decode cX11_canonical 12 = .ok (.bipush (-3), 2) := by decide +kernel
theorem dX11_canonical_14 : decode cX11_canonical 14 = .ok (.ireturn, 1) := by decide +kernel
theorem dX11_canonical_15 : decode cX11_canonical 15 = .ok (.aload_n 0, 1) := by decide +kernel
theorem dX11_canonical_16 : decode cX11_canonical 16 = .ok (.getfield 28, 3) := by decide +kernel
theorem dX11_canonical_19 : decode cX11_canonical 19 = .ok (.aload_n 0, 1) := by decide +kernel
theorem dX11_canonical_20 : decode cX11_canonical 20 = .ok (.getfield 12, 3) := by decide +kernel
theorem dX11_canonical_23 : decode cX11_canonical 23 = .ok (.getfield 74, 3) := by decide +kernel
theorem dX11_canonical_26 : decode cX11_canonical 26 = .ok (.aload_n 0, 1) := by decide +kernel
theorem dX11_canonical_27 : decode cX11_canonical 27 = .ok (.getfield 28, 3) := by decide +kernel
theorem dX11_canonical_30 : decode cX11_canonical 30 = .ok (.getfield 188, 3) := by decide +kernel
theorem dX11_canonical_33 : decode cX11_canonical 33 = .ok (.invokevirtual 191, 3) := by decide +kernel
theorem dX11_canonical_36 : decode cX11_canonical 36 = .ok (.aload_n 0, 1) := by decide +kernel
theorem dX11_canonical_37 : decode cX11_canonical 37 = .ok (.invokevirtual 195, 3) := by decide +kernel
theorem dX11_canonical_40 : decode cX11_canonical 40 = .ok (.aload_n 0, 1) := by decide +kernel
theorem dX11_canonical_41 : decode cX11_canonical 41 = .ok (.getfield 35, 3) := by decide +kernel
theorem dX11_canonical_44 : decode cX11_canonical 44 = .ok (.invokevirtual 142, 3) := by decide +kernel
theorem dX11_canonical_47 : decode cX11_canonical 47 = .ok (.aload_n 0, 1) := by decide +kernel
theorem dX11_canonical_48 : decode cX11_canonical 48 = .ok (.getfield 12, 3) := by decide +kernel
theorem dX11_canonical_51 : decode cX11_canonical 51 = .ok (.getfield 141, 3) := by decide +kernel
theorem dX11_canonical_54 : decode cX11_canonical 54 = .ok (.iconst 1, 1) := by decide +kernel
theorem dX11_canonical_55 : decode cX11_canonical 55 = .ok (.isub, 1) := by decide +kernel
theorem dX11_canonical_56 : decode cX11_canonical 56 = .ok (.ireturn, 1) := by decide +kernel
set_option maxHeartbeats 4000000 in
set_option maxRecDepth 100000 in
theorem cn_X11_canonical {l : Launch} {cA : Nat → ClassId} {ad : Nat → Nat} {D : va_G} {E : Nat → Nat} {A : Nat → Prop}  {s0 sr : SS} {rr : Int32} (hf : f_X11_canonical s0 = some (rr, sr)) : zCon Ox Nx cA ad D E l yX11_canonical cX11_canonical 1 (some .int) 4 A [.ref (ad 0)] s0 (some (.int rr)) sr := by
  refine zstart (own := RX11) hOx (by decide) rfl (Nat.le_of_ble_eq_true rfl) ?_
  intro p e s m args below meth c X hP ls hl
  have hx := X.1
  have hb := X.2.1
  have hl : lv_has ls 1 [(0, .ref (ad 0))] := hl
  have hS : va_S A s.heap s.heap [] := va_S.rf
  rw [f_X11_canonical] at hf
  refine lv_aload_n hx hb dX11_canonical_0 rfl (lv_at hl 0 rfl) ?_
  refine gf_X11_12 X hP (k := 0) (q := 1) rfl dX11_canonical_1 rfl ?_
  refine gf_X11_141 X hP (k := 1) rfl dX11_canonical_4 ?_
  refine lv_bipush (v := 8) hx hb dX11_canonical_7 (by decide) ?_
  refine zicmp_lt (tgt := 15) hx hb dX11_canonical_9 (by decide) hf (fun hf => ?_) (fun hf => ?_)
  · refine lv_aload_n hx hb dX11_canonical_15 rfl (lv_at hl 0 rfl) ?_
    refine gf_X11_28 X hP (k := 0) (q := 5) rfl dX11_canonical_16 rfl ?_
    refine lv_aload_n hx hb dX11_canonical_19 rfl (lv_at hl 0 rfl) ?_
    refine gf_X11_12 X hP (k := 0) (q := 1) rfl dX11_canonical_20 rfl ?_
    refine gf_X11_74 X hP (k := 1) (q := 3) rfl dX11_canonical_23 rfl ?_
    refine lv_aload_n hx hb dX11_canonical_26 rfl (lv_at hl 0 rfl) ?_
    refine gf_X11_28 X hP (k := 0) (q := 5) rfl dX11_canonical_27 rfl ?_
    refine gf_X11_188 X hP (k := 5) (q := 21) rfl dX11_canonical_30 rfl ?_
    obtain ⟨r1, s2, h3, hf⟩ := zbd_some hf
    refine zcallV X hP hS hl.1 (k := 5) (As := [.ref (ad 3), .ref (ad 21)]) (rest := []) (cn_X8_makeCanonical h3) cw_X8_makeCanonical zp_8 rfl (by decide) rfl ml_X11_191 (by decide) rfl rfl (Nat.le_of_ble_eq_true rfl) dX11_canonical_33 (fun H locs hP hS => ?_)
    refine lv_aload_n hx hb dX11_canonical_36 rfl (lv_at hl 0 rfl) ?_
    obtain ⟨r4, s5, h6, hf⟩ := zbd_some hf
    refine zcallV X hP hS hl.1 (k := 0) (As := []) (rest := []) (cn_X11_bringAll h6) cw_X11_bringAll zp_11 rfl (by decide) rfl ml_X11_195 (by decide) rfl rfl (Nat.le_of_ble_eq_true rfl) dX11_canonical_37 (fun H locs hP hS => ?_)
    refine lv_aload_n hx hb dX11_canonical_40 rfl (lv_at hl 0 rfl) ?_
    refine gf_X11_35 X hP (k := 0) (q := 7) rfl dX11_canonical_41 rfl ?_
    obtain ⟨r7, s8, h9, hf⟩ := zbd_some hf
    refine zcallV X hP hS hl.1 (k := 7) (As := []) (rest := []) (cn_X1_forget h9) cw_X1_forget zp_1 rfl (by decide) rfl ml_X11_142 (by decide) rfl rfl (Nat.le_of_ble_eq_true rfl) dX11_canonical_44 (fun H locs hP hS => ?_)
    refine lv_aload_n hx hb dX11_canonical_47 rfl (lv_at hl 0 rfl) ?_
    refine gf_X11_12 X hP (k := 0) (q := 1) rfl dX11_canonical_48 rfl ?_
    refine gf_X11_141 X hP (k := 1) rfl dX11_canonical_51 ?_
    refine lv_iconst (v := 1) hx hb dX11_canonical_54 (by decide) ?_
    refine lv_isub hx hb dX11_canonical_55 ?_
    exact zret_i X hP hS hf rfl dX11_canonical_56
  · refine lv_bipush (v := (-3)) hx hb dX11_canonical_12 (by decide) ?_
    exact zret_i X hP hS hf rfl dX11_canonical_14
theorem dX11_met_0 : decode cX11_met 0 = .ok (.aload_n 0, 1) := by decide +kernel
theorem dX11_met_1 : decode cX11_met 1 = .ok (.getfield 12, 3) := by decide +kernel
theorem dX11_met_4 : decode cX11_met 4 = .ok (.iload_n 1, 1) := by decide +kernel
theorem dX11_met_5 : decode cX11_met 5 = .ok (.i2l, 1) := by decide +kernel
theorem dX11_met_6 : decode cX11_met 6 = .ok (.invokevirtual 155, 3) := by decide +kernel
theorem dX11_met_9 : decode cX11_met 9 = .ok (.astore_n 2, 1) := by decide +kernel
theorem dX11_met_10 : decode cX11_met 10 = .ok (.aload_n 2, 1) := by decide +kernel
theorem dX11_met_11 : decode cX11_met 11 = .ok (.ifnonnull 7, 3) := by decide +kernel
theorem dX11_met_14 : decode cX11_met 14 = .ok (.ldc2_w 132, 3) := by decide +kernel
theorem dX11_met_17 : decode cX11_met 17 = .ok (.lreturn, 1) := by decide +kernel
theorem dX11_met_18 : decode cX11_met 18 = .ok (.aload_n 0, 1) := by decide +kernel
theorem dX11_met_19 : decode cX11_met 19 = .ok (.getfield 28, 3) := by decide +kernel
theorem dX11_met_22 : decode cX11_met 22 = .ok (.aload_n 2, 1) := by decide +kernel
theorem dX11_met_23 : decode cX11_met 23 = .ok (.aload_n 0, 1) := by decide +kernel
theorem dX11_met_24 : decode cX11_met 24 = .ok (.getfield 28, 3) := by decide +kernel
theorem dX11_met_27 : decode cX11_met 27 = .ok (.getfield 188, 3) := by decide +kernel
theorem dX11_met_30 : decode cX11_met 30 = .ok (.invokevirtual 208, 3) := by decide +kernel
theorem dX11_met_33 : decode cX11_met 33 = .ok (.aload_n 0, 1) := by decide +kernel
theorem dX11_met_34 : decode cX11_met 34 = .ok (.getfield 28, 3) := by decide +kernel
theorem dX11_met_37 : decode cX11_met 37 = .ok (.aload_n 0, 1) := by decide +kernel
theorem dX11_met_38 : decode cX11_met 38 = .ok (.getfield 28, 3) := by decide +kernel
theorem dX11_met_41 : decode cX11_met 41 = .ok (.getfield 188, 3) := by decide +kernel
theorem dX11_met_44 : decode cX11_met 44 = .ok (.invokevirtual 212, 3) := by decide +kernel
theorem dX11_met_47 : decode cX11_met 47 = .ok (.lreturn, 1) := by decide +kernel
set_option maxHeartbeats 4000000 in
set_option maxRecDepth 100000 in
theorem cn_X11_met {l : Launch} {cA : Nat → ClassId} {ad : Nat → Nat} {D : va_G} {E : Nat → Nat} {A : Nat → Prop} {x1 : Int32} {s0 sr : SS} {rr : Int64} (hf : f_X11_met x1 s0 = some (rr, sr)) : zCon Ox Nx cA ad D E l yX11_met cX11_met 3 (some .long) 2 A [.ref (ad 0), .int x1] s0 (some (.long rr)) sr := by
  refine zstart (own := RX11) hOx (by decide) rfl (Nat.le_of_ble_eq_true rfl) ?_
  intro p e s m args below meth c X hP ls hl
  have hx := X.1
  have hb := X.2.1
  have hl : lv_has ls 3 [(0, .ref (ad 0)), (1, .int x1)] := hl
  have hS : va_S A s.heap s.heap [] := va_S.rf
  rw [f_X11_met] at hf
  refine lv_aload_n hx hb dX11_met_0 rfl (lv_at hl 0 rfl) ?_
  refine gf_X11_12 X hP (k := 0) (q := 1) rfl dX11_met_1 rfl ?_
  refine lv_iload_n hx hb dX11_met_4 rfl (lv_at hl 1 rfl) ?_
  refine lv_i2l hx hb dX11_met_5 rfl ?_
  obtain ⟨r1, s2, h3, hf⟩ := zbd_some hf
  refine zcallV X hP hS hl.1 (k := 1) (As := [.long (x1).toInt64]) (rest := []) (cn_X3_classAt h3) cw_X3_classAt zp_3 rfl (by decide) rfl ml_X11_155 (by decide) rfl rfl (Nat.le_of_ble_eq_true rfl) dX11_met_6 (fun H locs hP hS => ?_)
  rcases r1 with _ | k4
  · have hf := zbn_none hf
    refine lv_astore_nN (lv' := [(2, .null), (0, .ref (ad 0)), (1, .int x1)]) hx hb dX11_met_9 rfl hl (by decide) rfl (fun ls hl => ?_)
    refine lv_aload_nN hx hb dX11_met_10 rfl (lv_at hl 0 rfl) ?_
    refine lv_ifnonnullN hx hb dX11_met_11 ?_
    refine zldc2 X co_X11_132 dX11_met_14 ?_
    exact zret_l X hP hS hf dX11_met_17
  · have hf := zbn_some hf
    obtain ⟨g5, hf⟩ := zgd hf
    refine lv_astore_n (lv' := [(2, .ref (ad k4)), (0, .ref (ad 0)), (1, .int x1)]) hx hb dX11_met_9 rfl hl (by decide) rfl (fun ls hl => ?_)
    refine lv_aload_n hx hb dX11_met_10 rfl (lv_at hl 0 rfl) ?_
    refine lv_ifnonnull (tgt := 18) hx hb dX11_met_11 (by decide) ?_
    refine lv_aload_n hx hb dX11_met_18 rfl (lv_at hl 1 rfl) ?_
    refine gf_X11_28 X hP (k := 0) (q := 5) rfl dX11_met_19 rfl ?_
    refine lv_aload_n hx hb dX11_met_22 rfl (lv_at hl 0 rfl) ?_
    refine lv_aload_n hx hb dX11_met_23 rfl (lv_at hl 1 rfl) ?_
    refine gf_X11_28 X hP (k := 0) (q := 5) rfl dX11_met_24 rfl ?_
    refine gf_X11_188 X hP (k := 5) (q := 21) rfl dX11_met_27 rfl ?_
    obtain ⟨r6, s7, h8, hf⟩ := zbd_some hf
    refine zcallV X hP hS hl.1 (k := 5) (As := [.ref (ad k4), .ref (ad 21)]) (rest := []) (cn_X8_takeNumbers h8) cw_X8_takeNumbers zp_8 rfl (by decide) rfl ml_X11_208 (by decide) rfl rfl (Nat.le_of_ble_eq_true rfl) dX11_met_30 (fun H locs hP hS => ?_)
    refine lv_aload_n hx hb dX11_met_33 rfl (lv_at hl 1 rfl) ?_
    refine gf_X11_28 X hP (k := 0) (q := 5) rfl dX11_met_34 rfl ?_
    refine lv_aload_n hx hb dX11_met_37 rfl (lv_at hl 1 rfl) ?_
    refine gf_X11_28 X hP (k := 0) (q := 5) rfl dX11_met_38 rfl ?_
    refine gf_X11_188 X hP (k := 5) (q := 21) rfl dX11_met_41 rfl ?_
    obtain ⟨r9, s10, h11, hf⟩ := zbd_some hf
    refine zcallV X hP hS hl.1 (k := 5) (As := [.ref (ad 21)]) (rest := []) (cn_X8_metOf h11) cw_X8_metOf zp_8 rfl (by decide) rfl ml_X11_212 (by decide) rfl rfl (Nat.le_of_ble_eq_true rfl) dX11_met_44 (fun H locs hP hS => ?_)
    exact zret_l X hP hS hf dX11_met_47
theorem dX11_meets_0 : decode cX11_meets 0 = .ok (.aload_n 0, 1) := by decide +kernel
theorem dX11_meets_1 : decode cX11_meets 1 = .ok (.getfield 12, 3) := by decide +kernel
theorem dX11_meets_4 : decode cX11_meets 4 = .ok (.iload_n 1, 1) := by decide +kernel
theorem dX11_meets_5 : decode cX11_meets 5 = .ok (.i2l, 1) := by decide +kernel
theorem dX11_meets_6 : decode cX11_meets 6 = .ok (.invokevirtual 155, 3) := by decide +kernel
theorem dX11_meets_9 : decode cX11_meets 9 = .ok (.astore_n 3, 1) := by decide +kernel
theorem dX11_meets_10 : decode cX11_meets 10 = .ok (.aload_n 0, 1) := by decide +kernel
theorem dX11_meets_11 : decode cX11_meets 11 = .ok (.getfield 12, 3) := by decide +kernel
theorem dX11_meets_14 : decode cX11_meets 14 = .ok (.iload_n 2, 1) := by decide +kernel
theorem dX11_meets_15 : decode cX11_meets 15 = .ok (.i2l, 1) := by decide +kernel
theorem dX11_meets_16 : decode cX11_meets 16 = .ok (.invokevirtual 155, 3) := by decide +kernel
theorem dX11_meets_19 : decode cX11_meets 19 = .ok (.astore 4, 2) := by decide +kernel
theorem dX11_meets_21 : decode cX11_meets 21 = .ok (.aload_n 3, 1) := by decide +kernel
theorem dX11_meets_22 : decode cX11_meets 22 = .ok (.ifnull 8, 3) := by decide +kernel
theorem dX11_meets_25 : decode cX11_meets 25 = .ok (.aload 4, 2) := by decide +kernel
theorem dX11_meets_27 : decode cX11_meets 27 = .ok (.ifnonnull 7, 3) := by decide +kernel
theorem dX11_meets_30 : decode cX11_meets 30 = .ok (.ldc2_w 132, 3) := by decide +kernel
theorem dX11_meets_33 : decode cX11_meets 33 = .ok (.lreturn, 1) := by decide +kernel
theorem dX11_meets_34 : decode cX11_meets 34 = .ok (.aload_n 0, 1) := by decide +kernel
theorem dX11_meets_35 : decode cX11_meets 35 = .ok (.getfield 28, 3) := by decide +kernel
theorem dX11_meets_38 : decode cX11_meets 38 = .ok (.aload_n 3, 1) := by decide +kernel
theorem dX11_meets_39 : decode cX11_meets 39 = .ok (.aload_n 0, 1) := by decide +kernel
theorem dX11_meets_40 : decode cX11_meets 40 = .ok (.getfield 28, 3) := by decide +kernel
theorem dX11_meets_43 : decode cX11_meets 43 = .ok (.getfield 188, 3) := by decide +kernel
theorem dX11_meets_46 : decode cX11_meets 46 = .ok (.invokevirtual 208, 3) := by decide +kernel
theorem dX11_meets_49 : decode cX11_meets 49 = .ok (.aload_n 0, 1) := by decide +kernel
theorem dX11_meets_50 : decode cX11_meets 50 = .ok (.getfield 28, 3) := by decide +kernel
theorem dX11_meets_53 : decode cX11_meets 53 = .ok (.aload 4, 2) := by decide +kernel
theorem dX11_meets_55 : decode cX11_meets 55 = .ok (.invokevirtual 216, 3) := by decide +kernel
theorem dX11_meets_58 : decode cX11_meets 58 = .ok (.aload_n 0, 1) := by decide +kernel
theorem dX11_meets_59 : decode cX11_meets 59 = .ok (.getfield 28, 3) := by decide +kernel
theorem dX11_meets_62 : decode cX11_meets 62 = .ok (.aload_n 0, 1) := by decide +kernel
theorem dX11_meets_63 : decode cX11_meets 63 = .ok (.getfield 28, 3) := by decide +kernel
theorem dX11_meets_66 : decode cX11_meets 66 = .ok (.getfield 188, 3) := by decide +kernel
theorem dX11_meets_69 : decode cX11_meets 69 = .ok (.invokevirtual 212, 3) := by decide +kernel
theorem dX11_meets_72 : decode cX11_meets 72 = .ok (.lreturn, 1) := by decide +kernel
set_option maxHeartbeats 4000000 in
set_option maxRecDepth 100000 in
theorem cn_X11_meets {l : Launch} {cA : Nat → ClassId} {ad : Nat → Nat} {D : va_G} {E : Nat → Nat} {A : Nat → Prop} {x1 : Int32} {x2 : Int32} {s0 sr : SS} {rr : Int64} (hf : f_X11_meets x1 x2 s0 = some (rr, sr)) : zCon Ox Nx cA ad D E l yX11_meets cX11_meets 5 (some .long) 4 A [.ref (ad 0), .int x1, .int x2] s0 (some (.long rr)) sr := by
  refine zstart (own := RX11) hOx (by decide) rfl (Nat.le_of_ble_eq_true rfl) ?_
  intro p e s m args below meth c X hP ls hl
  have hx := X.1
  have hb := X.2.1
  have hl : lv_has ls 5 [(0, .ref (ad 0)), (1, .int x1), (2, .int x2)] := hl
  have hS : va_S A s.heap s.heap [] := va_S.rf
  rw [f_X11_meets] at hf
  refine lv_aload_n hx hb dX11_meets_0 rfl (lv_at hl 0 rfl) ?_
  refine gf_X11_12 X hP (k := 0) (q := 1) rfl dX11_meets_1 rfl ?_
  refine lv_iload_n hx hb dX11_meets_4 rfl (lv_at hl 1 rfl) ?_
  refine lv_i2l hx hb dX11_meets_5 rfl ?_
  obtain ⟨r1, s2, h3, hf⟩ := zbd_some hf
  refine zcallV X hP hS hl.1 (k := 1) (As := [.long (x1).toInt64]) (rest := []) (cn_X3_classAt h3) cw_X3_classAt zp_3 rfl (by decide) rfl ml_X11_155 (by decide) rfl rfl (Nat.le_of_ble_eq_true rfl) dX11_meets_6 (fun H locs hP hS => ?_)
  rcases r1 with _ | k4
  · have hf := zbn_none hf
    refine lv_astore_nN (lv' := [(3, .null), (0, .ref (ad 0)), (1, .int x1), (2, .int x2)]) hx hb dX11_meets_9 rfl hl (by decide) rfl (fun ls hl => ?_)
    refine lv_aload_n hx hb dX11_meets_10 rfl (lv_at hl 1 rfl) ?_
    refine gf_X11_12 X hP (k := 0) (q := 1) rfl dX11_meets_11 rfl ?_
    refine lv_iload_n hx hb dX11_meets_14 rfl (lv_at hl 3 rfl) ?_
    refine lv_i2l hx hb dX11_meets_15 rfl ?_
    obtain ⟨r6, s7, h8, hf⟩ := zbd_some hf
    refine zcallV X hP hS hl.1 (k := 1) (As := [.long (x2).toInt64]) (rest := []) (cn_X3_classAt h8) cw_X3_classAt zp_3 rfl (by decide) rfl ml_X11_155 (by decide) rfl rfl (Nat.le_of_ble_eq_true rfl) dX11_meets_16 (fun H locs hP hS => ?_)
    rcases r6 with _ | k9
    · have hf := zbn_none hf
      refine lv_astoreN (lv' := [(4, .null), (3, .null), (0, .ref (ad 0)), (1, .int x1), (2, .int x2)]) hx hb dX11_meets_19 hl (by decide) rfl (fun ls hl => ?_)
      refine lv_aload_nN hx hb dX11_meets_21 rfl (lv_at hl 1 rfl) ?_
      refine lv_ifnullN (tgt := 30) hx hb dX11_meets_22 (by decide) ?_
      refine zldc2 X co_X11_132 dX11_meets_30 ?_
      exact zret_l X hP hS hf dX11_meets_33
    · have hf := zbn_some hf
      obtain ⟨g10, hf⟩ := zgd hf
      refine lv_astore (lv' := [(4, .ref (ad k9)), (3, .null), (0, .ref (ad 0)), (1, .int x1), (2, .int x2)]) hx hb dX11_meets_19 hl (by decide) rfl (fun ls hl => ?_)
      refine lv_aload_nN hx hb dX11_meets_21 rfl (lv_at hl 1 rfl) ?_
      refine lv_ifnullN (tgt := 30) hx hb dX11_meets_22 (by decide) ?_
      refine zldc2 X co_X11_132 dX11_meets_30 ?_
      exact zret_l X hP hS hf dX11_meets_33
  · have hf := zbn_some hf
    obtain ⟨g5, hf⟩ := zgd hf
    refine lv_astore_n (lv' := [(3, .ref (ad k4)), (0, .ref (ad 0)), (1, .int x1), (2, .int x2)]) hx hb dX11_meets_9 rfl hl (by decide) rfl (fun ls hl => ?_)
    refine lv_aload_n hx hb dX11_meets_10 rfl (lv_at hl 1 rfl) ?_
    refine gf_X11_12 X hP (k := 0) (q := 1) rfl dX11_meets_11 rfl ?_
    refine lv_iload_n hx hb dX11_meets_14 rfl (lv_at hl 3 rfl) ?_
    refine lv_i2l hx hb dX11_meets_15 rfl ?_
    obtain ⟨r11, s12, h13, hf⟩ := zbd_some hf
    refine zcallV X hP hS hl.1 (k := 1) (As := [.long (x2).toInt64]) (rest := []) (cn_X3_classAt h13) cw_X3_classAt zp_3 rfl (by decide) rfl ml_X11_155 (by decide) rfl rfl (Nat.le_of_ble_eq_true rfl) dX11_meets_16 (fun H locs hP hS => ?_)
    rcases r11 with _ | k14
    · have hf := zbn_none hf
      refine lv_astoreN (lv' := [(4, .null), (3, .ref (ad k4)), (0, .ref (ad 0)), (1, .int x1), (2, .int x2)]) hx hb dX11_meets_19 hl (by decide) rfl (fun ls hl => ?_)
      refine lv_aload_n hx hb dX11_meets_21 rfl (lv_at hl 1 rfl) ?_
      refine lv_ifnull hx hb dX11_meets_22 ?_
      refine lv_aloadN hx hb dX11_meets_25 (lv_at hl 0 rfl) ?_
      refine lv_ifnonnullN hx hb dX11_meets_27 ?_
      refine zldc2 X co_X11_132 dX11_meets_30 ?_
      exact zret_l X hP hS hf dX11_meets_33
    · have hf := zbn_some hf
      obtain ⟨g15, hf⟩ := zgd hf
      refine lv_astore (lv' := [(4, .ref (ad k14)), (3, .ref (ad k4)), (0, .ref (ad 0)), (1, .int x1), (2, .int x2)]) hx hb dX11_meets_19 hl (by decide) rfl (fun ls hl => ?_)
      refine lv_aload_n hx hb dX11_meets_21 rfl (lv_at hl 1 rfl) ?_
      refine lv_ifnull hx hb dX11_meets_22 ?_
      refine lv_aload hx hb dX11_meets_25 (lv_at hl 0 rfl) ?_
      refine lv_ifnonnull (tgt := 34) hx hb dX11_meets_27 (by decide) ?_
      refine lv_aload_n hx hb dX11_meets_34 rfl (lv_at hl 2 rfl) ?_
      refine gf_X11_28 X hP (k := 0) (q := 5) rfl dX11_meets_35 rfl ?_
      refine lv_aload_n hx hb dX11_meets_38 rfl (lv_at hl 1 rfl) ?_
      refine lv_aload_n hx hb dX11_meets_39 rfl (lv_at hl 2 rfl) ?_
      refine gf_X11_28 X hP (k := 0) (q := 5) rfl dX11_meets_40 rfl ?_
      refine gf_X11_188 X hP (k := 5) (q := 21) rfl dX11_meets_43 rfl ?_
      obtain ⟨r16, s17, h18, hf⟩ := zbd_some hf
      refine zcallV X hP hS hl.1 (k := 5) (As := [.ref (ad k4), .ref (ad 21)]) (rest := []) (cn_X8_takeNumbers h18) cw_X8_takeNumbers zp_8 rfl (by decide) rfl ml_X11_208 (by decide) rfl rfl (Nat.le_of_ble_eq_true rfl) dX11_meets_46 (fun H locs hP hS => ?_)
      refine lv_aload_n hx hb dX11_meets_49 rfl (lv_at hl 2 rfl) ?_
      refine gf_X11_28 X hP (k := 0) (q := 5) rfl dX11_meets_50 rfl ?_
      refine lv_aload hx hb dX11_meets_53 (lv_at hl 0 rfl) ?_
      obtain ⟨r19, s20, h21, hf⟩ := zbd_some hf
      refine zcallV X hP hS hl.1 (k := 5) (As := [.ref (ad k14)]) (rest := []) (cn_X8_multiplyBy h21) cw_X8_multiplyBy zp_8 rfl (by decide) rfl ml_X11_216 (by decide) rfl rfl (Nat.le_of_ble_eq_true rfl) dX11_meets_55 (fun H locs hP hS => ?_)
      refine lv_aload_n hx hb dX11_meets_58 rfl (lv_at hl 2 rfl) ?_
      refine gf_X11_28 X hP (k := 0) (q := 5) rfl dX11_meets_59 rfl ?_
      refine lv_aload_n hx hb dX11_meets_62 rfl (lv_at hl 2 rfl) ?_
      refine gf_X11_28 X hP (k := 0) (q := 5) rfl dX11_meets_63 rfl ?_
      refine gf_X11_188 X hP (k := 5) (q := 21) rfl dX11_meets_66 rfl ?_
      obtain ⟨r22, s23, h24, hf⟩ := zbd_some hf
      refine zcallV X hP hS hl.1 (k := 5) (As := [.ref (ad 21)]) (rest := []) (cn_X8_metOf h24) cw_X8_metOf zp_8 rfl (by decide) rfl ml_X11_212 (by decide) rfl rfl (Nat.le_of_ble_eq_true rfl) dX11_meets_69 (fun H locs hP hS => ?_)
      exact zret_l X hP hS hf dX11_meets_72
theorem dX11_multiplyListed_0 : decode cX11_multiplyListed 0 = .ok (.aload_n 0, 1) := by decide +kernel
theorem dX11_multiplyListed_1 : decode cX11_multiplyListed 1 = .ok (.getfield 28, 3) := by decide +kernel
theorem dX11_multiplyListed_4 : decode cX11_multiplyListed 4 = .ok (.aload_n 0, 1) := by decide +kernel
theorem dX11_multiplyListed_5 : decode cX11_multiplyListed 5 = .ok (.getfield 28, 3) := by decide +kernel
theorem dX11_multiplyListed_8 : decode cX11_multiplyListed 8 = .ok (.getfield 188, 3) := by decide +kernel
theorem dX11_multiplyListed_11 : decode cX11_multiplyListed 11 = .ok (.invokevirtual 240, 3) := by decide +kernel
theorem dX11_multiplyListed_14 : decode cX11_multiplyListed 14 = .ok (.iconst 0, 1) := by decide +kernel
theorem dX11_multiplyListed_15 : decode cX11_multiplyListed 15 = .ok (.istore_n 2, 1) := by decide +kernel
theorem dX11_multiplyListed_16 : decode cX11_multiplyListed 16 = .ok (.iload_n 2, 1) := by decide +kernel
theorem dX11_multiplyListed_17 : decode cX11_multiplyListed 17 = .ok (.aload_n 0, 1) := by decide +kernel
theorem dX11_multiplyListed_18 : decode cX11_multiplyListed 18 = .ok (.getfield 63, 3) := by decide +kernel
theorem dX11_multiplyListed_21 : decode cX11_multiplyListed 21 = .ok (.iload_n 1, 1) := by decide +kernel
theorem dX11_multiplyListed_22 : decode cX11_multiplyListed 22 = .ok (.invokevirtual 244, 3) := by decide +kernel
theorem dX11_multiplyListed_25 : decode cX11_multiplyListed 25 = .ok (.if_icmp .ge 40, 3) := by decide +kernel
theorem dX11_multiplyListed_28 : decode cX11_multiplyListed 28 = .ok (.aload_n 0, 1) := by decide +kernel
theorem dX11_multiplyListed_29 : decode cX11_multiplyListed 29 = .ok (.getfield 12, 3) := by decide +kernel
theorem dX11_multiplyListed_32 : decode cX11_multiplyListed 32 = .ok (.aload_n 0, 1) := by decide +kernel
theorem dX11_multiplyListed_33 : decode cX11_multiplyListed 33 = .ok (.getfield 63, 3) := by decide +kernel
theorem dX11_multiplyListed_36 : decode cX11_multiplyListed 36 = .ok (.iload_n 1, 1) := by decide +kernel
theorem dX11_multiplyListed_37 : decode cX11_multiplyListed 37 = .ok (.iload_n 2, 1) := by decide +kernel
theorem dX11_multiplyListed_38 : decode cX11_multiplyListed 38 = .ok (.invokevirtual 247, 3) := by decide +kernel
theorem dX11_multiplyListed_41 : decode cX11_multiplyListed 41 = .ok (.invokevirtual 155, 3) := by decide +kernel
theorem dX11_multiplyListed_44 : decode cX11_multiplyListed 44 = .ok (.astore_n 3, 1) := by decide +kernel
theorem dX11_multiplyListed_45 : decode cX11_multiplyListed 45 = .ok (.aload_n 3, 1) := by decide +kernel
theorem dX11_multiplyListed_46 : decode cX11_multiplyListed 46 = .ok (.ifnonnull 5, 3) := by decide +kernel
theorem dX11_multiplyListed_49 : decode cX11_multiplyListed 49 = .ok (.iconst 0, 1) := by decide +kernel
theorem dX11_multiplyListed_50 : decode cX11_multiplyListed 50 = .ok (.ireturn, 1) := by decide +kernel
theorem dX11_multiplyListed_51 : decode cX11_multiplyListed 51 = .ok (.aload_n 0, 1) := by decide +kernel
theorem dX11_multiplyListed_52 : decode cX11_multiplyListed 52 = .ok (.getfield 28, 3) := by decide +kernel
theorem dX11_multiplyListed_55 : decode cX11_multiplyListed 55 = .ok (.aload_n 3, 1) := by decide +kernel
theorem dX11_multiplyListed_56 : decode cX11_multiplyListed 56 = .ok (.invokevirtual 216, 3) := by decide +kernel
theorem dX11_multiplyListed_59 : decode cX11_multiplyListed 59 = .ok (.iinc 2 1, 3) := by decide +kernel
theorem dX11_multiplyListed_62 : decode cX11_multiplyListed 62 = .ok (.goto (-46), 3) := by decide +kernel
theorem dX11_multiplyListed_65 : decode cX11_multiplyListed 65 = .ok (.iconst 1, 1) := by decide +kernel
theorem dX11_multiplyListed_66 : decode cX11_multiplyListed 66 = .ok (.ireturn, 1) := by decide +kernel
set_option maxHeartbeats 4000000 in
set_option maxRecDepth 100000 in
theorem cn_X11_multiplyListed {l : Launch} {cA : Nat → ClassId} {ad : Nat → Nat} {D : va_G} {E : Nat → Nat} {A : Nat → Prop} {x1 : Int32} {s0 sr : SS} {rr : Int32} (hf : f_X11_multiplyListed x1 s0 = some (rr, sr)) : zCon Ox Nx cA ad D E l yX11_multiplyListed cX11_multiplyListed 4 (some .boolean) 4 A [.ref (ad 0), .int x1] s0 (some (.int rr)) sr := by
  refine zstart (own := RX11) hOx (by decide) rfl (Nat.le_of_ble_eq_true rfl) ?_
  intro p e s m args below meth c X hP ls hl
  have hx := X.1
  have hb := X.2.1
  have hl : lv_has ls 4 [(0, .ref (ad 0)), (1, .int x1)] := hl
  have hS : va_S A s.heap s.heap [] := va_S.rf
  have hc_16 : ∀ (n16 : Nat) (x1 : Int32) (x2 : Int32) (s1 : SS) (H : Heap) (locs : List Loc) (ls : Array Slot), lv_has ls 4 [(0, .ref (ad 0)), (1, .int x1), (2, .int x2)] → va_P D ZCL (zw Ox Nx cA ad s1) H → va_S A s.heap H locs → f_X11_multiplyListed_c16 n16 x1 x2 s1 = some (rr, sr) → W p l e (zrm 4) s m args below meth c H locs 0 0 (MQ below (zQc Ox Nx cA ad D A (some (.int rr)) sr) args s 0 0 A) (F0 m 16 ls []) := by
    intro n16
    induction n16 with
    | zero =>
      intro x1 x2 s1 H locs ls hl hP hS hf
      rw [f_X11_multiplyListed_c16] at hf
      cases hf
    | succ n16 ih16 =>
      intro x1 x2 s1 H locs ls hl hP hS hf
      rw [f_X11_multiplyListed_c16] at hf
      refine lv_iload_n hx hb dX11_multiplyListed_16 rfl (lv_at hl 2 rfl) ?_
      refine lv_aload_n hx hb dX11_multiplyListed_17 rfl (lv_at hl 0 rfl) ?_
      refine gf_X11_63 X hP (k := 0) (q := 11) rfl dX11_multiplyListed_18 rfl ?_
      refine lv_iload_n hx hb dX11_multiplyListed_21 rfl (lv_at hl 1 rfl) ?_
      obtain ⟨r4, s5, h6, hf⟩ := zbd_some hf
      refine zcallV X hP hS hl.1 (k := 11) (As := [.int x1]) (rest := [.int x2]) (cn_X5_sizeOf h6) cw_X5_sizeOf zp_5 rfl (by decide) rfl ml_X11_244 (by decide) rfl rfl (Nat.le_of_ble_eq_true rfl) dX11_multiplyListed_22 (fun H locs hP hS => ?_)
      refine zicmp_ge (tgt := 65) hx hb dX11_multiplyListed_25 (by decide) hf (fun hf => ?_) (fun hf => ?_)
      · refine lv_iconst (v := 1) hx hb dX11_multiplyListed_65 (by decide) ?_
        exact zret_i X hP hS hf rfl dX11_multiplyListed_66
      · refine lv_aload_n hx hb dX11_multiplyListed_28 rfl (lv_at hl 0 rfl) ?_
        refine gf_X11_12 X hP (k := 0) (q := 1) rfl dX11_multiplyListed_29 rfl ?_
        refine lv_aload_n hx hb dX11_multiplyListed_32 rfl (lv_at hl 0 rfl) ?_
        refine gf_X11_63 X hP (k := 0) (q := 11) rfl dX11_multiplyListed_33 rfl ?_
        refine lv_iload_n hx hb dX11_multiplyListed_36 rfl (lv_at hl 1 rfl) ?_
        refine lv_iload_n hx hb dX11_multiplyListed_37 rfl (lv_at hl 2 rfl) ?_
        obtain ⟨r7, s8, h9, hf⟩ := zbd_some hf
        refine zcallV X hP hS hl.1 (k := 11) (As := [.int x1, .int x2]) (rest := [.ref (ad 1)]) (cn_X5_valueAt h9) cw_X5_valueAt zp_5 rfl (by decide) rfl ml_X11_247 (by decide) rfl rfl (Nat.le_of_ble_eq_true rfl) dX11_multiplyListed_38 (fun H locs hP hS => ?_)
        obtain ⟨r10, s11, h12, hf⟩ := zbd_some hf
        refine zcallV X hP hS hl.1 (k := 1) (As := [.long r7]) (rest := []) (cn_X3_classAt h12) cw_X3_classAt zp_3 rfl (by decide) rfl ml_X11_155 (by decide) rfl rfl (Nat.le_of_ble_eq_true rfl) dX11_multiplyListed_41 (fun H locs hP hS => ?_)
        rcases r10 with _ | k13
        · have hf := zbn_none hf
          refine lv_astore_nN (lv' := [(3, .null), (0, .ref (ad 0)), (1, .int x1), (2, .int x2)]) hx hb dX11_multiplyListed_44 rfl hl (by decide) rfl (fun ls hl => ?_)
          refine lv_aload_nN hx hb dX11_multiplyListed_45 rfl (lv_at hl 0 rfl) ?_
          refine lv_ifnonnullN hx hb dX11_multiplyListed_46 ?_
          refine lv_iconst (v := 0) hx hb dX11_multiplyListed_49 (by decide) ?_
          exact zret_i X hP hS hf rfl dX11_multiplyListed_50
        · have hf := zbn_some hf
          obtain ⟨g14, hf⟩ := zgd hf
          refine lv_astore_n (lv' := [(3, .ref (ad k13)), (0, .ref (ad 0)), (1, .int x1), (2, .int x2)]) hx hb dX11_multiplyListed_44 rfl hl (by decide) rfl (fun ls hl => ?_)
          refine lv_aload_n hx hb dX11_multiplyListed_45 rfl (lv_at hl 0 rfl) ?_
          refine lv_ifnonnull (tgt := 51) hx hb dX11_multiplyListed_46 (by decide) ?_
          refine lv_aload_n hx hb dX11_multiplyListed_51 rfl (lv_at hl 1 rfl) ?_
          refine gf_X11_28 X hP (k := 0) (q := 5) rfl dX11_multiplyListed_52 rfl ?_
          refine lv_aload_n hx hb dX11_multiplyListed_55 rfl (lv_at hl 0 rfl) ?_
          obtain ⟨r15, s16, h17, hf⟩ := zbd_some hf
          refine zcallV X hP hS hl.1 (k := 5) (As := [.ref (ad k13)]) (rest := []) (cn_X8_multiplyBy h17) cw_X8_multiplyBy zp_8 rfl (by decide) rfl ml_X11_216 (by decide) rfl rfl (Nat.le_of_ble_eq_true rfl) dX11_multiplyListed_56 (fun H locs hP hS => ?_)
          refine lv_iinc (v := (x2 + 1)) (lv' := [(2, .int (x2 + 1)), (3, .ref (ad k13)), (0, .ref (ad 0)), (1, .int x1)]) hx hb dX11_multiplyListed_59 hl (k := 3) rfl rfl (by decide) rfl (fun ls hl => ?_)
          refine lv_goto (tgt := 16) hx hb dX11_multiplyListed_62 (by decide) ?_
          exact ih16 x1 (x2 + 1) s16 _ _ _ (lv_sub hl [2, 3, 0] rfl) hP hS hf
  rw [f_X11_multiplyListed] at hf
  refine lv_aload_n hx hb dX11_multiplyListed_0 rfl (lv_at hl 0 rfl) ?_
  refine gf_X11_28 X hP (k := 0) (q := 5) rfl dX11_multiplyListed_1 rfl ?_
  refine lv_aload_n hx hb dX11_multiplyListed_4 rfl (lv_at hl 0 rfl) ?_
  refine gf_X11_28 X hP (k := 0) (q := 5) rfl dX11_multiplyListed_5 rfl ?_
  refine gf_X11_188 X hP (k := 5) (q := 21) rfl dX11_multiplyListed_8 rfl ?_
  obtain ⟨r1, s2, h3, hf⟩ := zbd_some hf
  refine zcallV X hP hS hl.1 (k := 5) (As := [.ref (ad 21)]) (rest := []) (cn_X8_makeOne h3) cw_X8_makeOne zp_8 rfl (by decide) rfl ml_X11_240 (by decide) rfl rfl (Nat.le_of_ble_eq_true rfl) dX11_multiplyListed_11 (fun H locs hP hS => ?_)
  refine lv_iconst (v := 0) hx hb dX11_multiplyListed_14 (by decide) ?_
  refine lv_istore_n (lv' := [(2, .int 0), (0, .ref (ad 0)), (1, .int x1)]) hx hb dX11_multiplyListed_15 rfl hl (by decide) rfl (fun ls hl => ?_)
  exact hc_16 ZF x1 0 s2 _ _ _ (lv_sub hl [1, 2, 0] rfl) hP hS hf
theorem dX11_meetsAll_0 : decode cX11_meetsAll 0 = .ok (.aload_n 0, 1) := by decide +kernel
theorem dX11_meetsAll_1 : decode cX11_meetsAll 1 = .ok (.getfield 63, 3) := by decide +kernel
theorem dX11_meetsAll_4 : decode cX11_meetsAll 4 = .ok (.iload_n 1, 1) := by decide +kernel
theorem dX11_meetsAll_5 : decode cX11_meetsAll 5 = .ok (.invokevirtual 220, 3) := by decide +kernel
theorem dX11_meetsAll_8 : decode cX11_meetsAll 8 = .ok (.ifCond .ne 7, 3) := by decide +kernel
theorem dX11_meetsAll_11 : decode cX11_meetsAll 11 = .ok (.ldc2_w 132, 3) := by decide +kernel
theorem dX11_meetsAll_14 : decode cX11_meetsAll 14 = .ok (.lreturn, 1) := by decide +kernel
theorem dX11_meetsAll_15 : decode cX11_meetsAll 15 = .ok (.aload_n 0, 1) := by decide +kernel
theorem dX11_meetsAll_16 : decode cX11_meetsAll 16 = .ok (.iload_n 1, 1) := by decide +kernel
theorem dX11_meetsAll_17 : decode cX11_meetsAll 17 = .ok (.invokevirtual 224, 3) := by decide +kernel
theorem dX11_meetsAll_20 : decode cX11_meetsAll 20 = .ok (.ifCond .eq 20, 3) := by decide +kernel
theorem dX11_meetsAll_23 : decode cX11_meetsAll 23 = .ok (.aload_n 0, 1) := by decide +kernel
theorem dX11_meetsAll_24 : decode cX11_meetsAll 24 = .ok (.getfield 28, 3) := by decide +kernel
theorem dX11_meetsAll_27 : decode cX11_meetsAll 27 = .ok (.aload_n 0, 1) := by decide +kernel
theorem dX11_meetsAll_28 : decode cX11_meetsAll 28 = .ok (.getfield 28, 3) := by decide +kernel
theorem dX11_meetsAll_31 : decode cX11_meetsAll 31 = .ok (.getfield 188, 3) := by decide +kernel
theorem dX11_meetsAll_34 : decode cX11_meetsAll 34 = .ok (.invokevirtual 212, 3) := by decide +kernel
theorem dX11_meetsAll_37 : decode cX11_meetsAll 37 = .ok (.goto 6, 3) := by decide +kernel
theorem dX11_meetsAll_40 : decode cX11_meetsAll 40 = .ok (.ldc2_w 227, 3) := by decide +kernel
theorem dX11_meetsAll_43 : decode cX11_meetsAll 43 = .ok (.lreturn, 1) := by decide +kernel
set_option maxHeartbeats 4000000 in
set_option maxRecDepth 100000 in
theorem cn_X11_meetsAll {l : Launch} {cA : Nat → ClassId} {ad : Nat → Nat} {D : va_G} {E : Nat → Nat} {A : Nat → Prop} {x1 : Int32} {s0 sr : SS} {rr : Int64} (hf : f_X11_meetsAll x1 s0 = some (rr, sr)) : zCon Ox Nx cA ad D E l yX11_meetsAll cX11_meetsAll 2 (some .long) 5 A [.ref (ad 0), .int x1] s0 (some (.long rr)) sr := by
  refine zstart (own := RX11) hOx (by decide) rfl (Nat.le_of_ble_eq_true rfl) ?_
  intro p e s m args below meth c X hP ls hl
  have hx := X.1
  have hb := X.2.1
  have hl : lv_has ls 2 [(0, .ref (ad 0)), (1, .int x1)] := hl
  have hS : va_S A s.heap s.heap [] := va_S.rf
  rw [f_X11_meetsAll] at hf
  refine lv_aload_n hx hb dX11_meetsAll_0 rfl (lv_at hl 0 rfl) ?_
  refine gf_X11_63 X hP (k := 0) (q := 11) rfl dX11_meetsAll_1 rfl ?_
  refine lv_iload_n hx hb dX11_meetsAll_4 rfl (lv_at hl 1 rfl) ?_
  obtain ⟨r1, s2, h3, hf⟩ := zbd_some hf
  refine zcallV X hP hS hl.1 (k := 11) (As := [.int x1]) (rest := []) (cn_X5_isThere h3) cw_X5_isThere zp_5 rfl (by decide) rfl ml_X11_220 (by decide) rfl rfl (Nat.le_of_ble_eq_true rfl) dX11_meetsAll_5 (fun H locs hP hS => ?_)
  refine zif_ne (tgt := 15) hx hb dX11_meetsAll_8 (by decide) hf (fun hf => ?_) (fun hf => ?_)
  · refine lv_aload_n hx hb dX11_meetsAll_15 rfl (lv_at hl 0 rfl) ?_
    refine lv_iload_n hx hb dX11_meetsAll_16 rfl (lv_at hl 1 rfl) ?_
    obtain ⟨r4, s5, h6, hf⟩ := zbd_some hf
    refine zcallV X hP hS hl.1 (k := 0) (As := [.int x1]) (rest := []) (cn_X11_multiplyListed h6) cw_X11_multiplyListed zp_11 rfl (by decide) rfl ml_X11_224 (by decide) rfl rfl (Nat.le_of_ble_eq_true rfl) dX11_meetsAll_17 (fun H locs hP hS => ?_)
    refine zif_eq (tgt := 40) hx hb dX11_meetsAll_20 (by decide) hf (fun hf => ?_) (fun hf => ?_)
    · refine zldc2 X co_X11_227 dX11_meetsAll_40 ?_
      exact zret_l X hP hS hf dX11_meetsAll_43
    · refine lv_aload_n hx hb dX11_meetsAll_23 rfl (lv_at hl 0 rfl) ?_
      refine gf_X11_28 X hP (k := 0) (q := 5) rfl dX11_meetsAll_24 rfl ?_
      refine lv_aload_n hx hb dX11_meetsAll_27 rfl (lv_at hl 0 rfl) ?_
      refine gf_X11_28 X hP (k := 0) (q := 5) rfl dX11_meetsAll_28 rfl ?_
      refine gf_X11_188 X hP (k := 5) (q := 21) rfl dX11_meetsAll_31 rfl ?_
      obtain ⟨r7, s8, h9, hf⟩ := zbd_some hf
      refine zcallV X hP hS hl.1 (k := 5) (As := [.ref (ad 21)]) (rest := []) (cn_X8_metOf h9) cw_X8_metOf zp_8 rfl (by decide) rfl ml_X11_212 (by decide) rfl rfl (Nat.le_of_ble_eq_true rfl) dX11_meetsAll_34 (fun H locs hP hS => ?_)
      refine lv_goto (tgt := 43) hx hb dX11_meetsAll_37 (by decide) ?_
      exact zret_l X hP hS hf dX11_meetsAll_43
  · refine zldc2 X co_X11_132 dX11_meetsAll_11 ?_
    exact zret_l X hP hS hf dX11_meetsAll_14
theorem dX11_self_0 : decode cX11_self 0 = .ok (.aload_n 0, 1) := by decide +kernel
theorem dX11_self_1 : decode cX11_self 1 = .ok (.getfield 12, 3) := by decide +kernel
theorem dX11_self_4 : decode cX11_self 4 = .ok (.iload_n 1, 1) := by decide +kernel
theorem dX11_self_5 : decode cX11_self 5 = .ok (.i2l, 1) := by decide +kernel
theorem dX11_self_6 : decode cX11_self 6 = .ok (.invokevirtual 155, 3) := by decide +kernel
theorem dX11_self_9 : decode cX11_self 9 = .ok (.astore_n 3, 1) := by decide +kernel
theorem dX11_self_10 : decode cX11_self 10 = .ok (.aload_n 3, 1) := by decide +kernel
theorem dX11_self_11 : decode cX11_self 11 = .ok (.ifnull 13, 3) := by decide +kernel
theorem dX11_self_14 : decode cX11_self 14 = .ok (.iload_n 2, 1) := by decide +kernel
theorem dX11_self_15 : decode cX11_self 15 = .ok (.ifCond .lt 9, 3) := by decide +kernel
theorem dX11_self_18 : decode cX11_self 18 = .ok (.iload_n 2, 1) := by decide +kernel
theorem dX11_self_19 : decode cX11_self 19 = .ok (.bipush 6, 2) := by decide +kernel
theorem dX11_self_21 : decode cX11_self 21 = .ok (.if_icmp .le 7, 3) := by decide +kernel
theorem dX11_self_24 : decode cX11_self 24 = .ok (.ldc2_w 132, 3) := by decide +kernel
theorem dX11_self_27 : decode cX11_self 27 = .ok (.lreturn, 1) := by decide +kernel
theorem dX11_self_28 : decode cX11_self 28 = .ok (.aload_n 0, 1) := by decide +kernel
theorem dX11_self_29 : decode cX11_self 29 = .ok (.getfield 28, 3) := by decide +kernel
theorem dX11_self_32 : decode cX11_self 32 = .ok (.aload_n 3, 1) := by decide +kernel
theorem dX11_self_33 : decode cX11_self 33 = .ok (.iload_n 2, 1) := by decide +kernel
theorem dX11_self_34 : decode cX11_self 34 = .ok (.invokevirtual 229, 3) := by decide +kernel
theorem dX11_self_37 : decode cX11_self 37 = .ok (.aload_n 0, 1) := by decide +kernel
theorem dX11_self_38 : decode cX11_self 38 = .ok (.getfield 28, 3) := by decide +kernel
theorem dX11_self_41 : decode cX11_self 41 = .ok (.aload_n 0, 1) := by decide +kernel
theorem dX11_self_42 : decode cX11_self 42 = .ok (.getfield 28, 3) := by decide +kernel
theorem dX11_self_45 : decode cX11_self 45 = .ok (.getfield 188, 3) := by decide +kernel
theorem dX11_self_48 : decode cX11_self 48 = .ok (.invokevirtual 212, 3) := by decide +kernel
theorem dX11_self_51 : decode cX11_self 51 = .ok (.lreturn, 1) := by decide +kernel
set_option maxHeartbeats 4000000 in
set_option maxRecDepth 100000 in
theorem cn_X11_self {l : Launch} {cA : Nat → ClassId} {ad : Nat → Nat} {D : va_G} {E : Nat → Nat} {A : Nat → Prop} {x1 : Int32} {x2 : Int32} {s0 sr : SS} {rr : Int64} (hf : f_X11_self x1 x2 s0 = some (rr, sr)) : zCon Ox Nx cA ad D E l yX11_self cX11_self 4 (some .long) 4 A [.ref (ad 0), .int x1, .int x2] s0 (some (.long rr)) sr := by
  refine zstart (own := RX11) hOx (by decide) rfl (Nat.le_of_ble_eq_true rfl) ?_
  intro p e s m args below meth c X hP ls hl
  have hx := X.1
  have hb := X.2.1
  have hl : lv_has ls 4 [(0, .ref (ad 0)), (1, .int x1), (2, .int x2)] := hl
  have hS : va_S A s.heap s.heap [] := va_S.rf
  rw [f_X11_self] at hf
  refine lv_aload_n hx hb dX11_self_0 rfl (lv_at hl 0 rfl) ?_
  refine gf_X11_12 X hP (k := 0) (q := 1) rfl dX11_self_1 rfl ?_
  refine lv_iload_n hx hb dX11_self_4 rfl (lv_at hl 1 rfl) ?_
  refine lv_i2l hx hb dX11_self_5 rfl ?_
  obtain ⟨r1, s2, h3, hf⟩ := zbd_some hf
  refine zcallV X hP hS hl.1 (k := 1) (As := [.long (x1).toInt64]) (rest := []) (cn_X3_classAt h3) cw_X3_classAt zp_3 rfl (by decide) rfl ml_X11_155 (by decide) rfl rfl (Nat.le_of_ble_eq_true rfl) dX11_self_6 (fun H locs hP hS => ?_)
  rcases r1 with _ | k4
  · have hf := zbn_none hf
    refine lv_astore_nN (lv' := [(3, .null), (0, .ref (ad 0)), (1, .int x1), (2, .int x2)]) hx hb dX11_self_9 rfl hl (by decide) rfl (fun ls hl => ?_)
    refine lv_aload_nN hx hb dX11_self_10 rfl (lv_at hl 0 rfl) ?_
    refine lv_ifnullN (tgt := 24) hx hb dX11_self_11 (by decide) ?_
    refine zldc2 X co_X11_132 dX11_self_24 ?_
    exact zret_l X hP hS hf dX11_self_27
  · have hf := zbn_some hf
    obtain ⟨g5, hf⟩ := zgd hf
    refine lv_astore_n (lv' := [(3, .ref (ad k4)), (0, .ref (ad 0)), (1, .int x1), (2, .int x2)]) hx hb dX11_self_9 rfl hl (by decide) rfl (fun ls hl => ?_)
    refine lv_aload_n hx hb dX11_self_10 rfl (lv_at hl 0 rfl) ?_
    refine lv_ifnull hx hb dX11_self_11 ?_
    refine lv_iload_n hx hb dX11_self_14 rfl (lv_at hl 3 rfl) ?_
    refine zif_lt (tgt := 24) hx hb dX11_self_15 (by decide) hf (fun hf => ?_) (fun hf => ?_)
    · refine zldc2 X co_X11_132 dX11_self_24 ?_
      exact zret_l X hP hS hf dX11_self_27
    · refine lv_iload_n hx hb dX11_self_18 rfl (lv_at hl 3 rfl) ?_
      refine lv_bipush (v := 6) hx hb dX11_self_19 (by decide) ?_
      refine zicmp_le (tgt := 28) hx hb dX11_self_21 (by decide) hf (fun hf => ?_) (fun hf => ?_)
      · refine lv_aload_n hx hb dX11_self_28 rfl (lv_at hl 1 rfl) ?_
        refine gf_X11_28 X hP (k := 0) (q := 5) rfl dX11_self_29 rfl ?_
        refine lv_aload_n hx hb dX11_self_32 rfl (lv_at hl 0 rfl) ?_
        refine lv_iload_n hx hb dX11_self_33 rfl (lv_at hl 3 rfl) ?_
        obtain ⟨r6, s7, h8, hf⟩ := zbd_some hf
        refine zcallV X hP hS hl.1 (k := 5) (As := [.ref (ad k4), .int x2]) (rest := []) (cn_X8_makePower h8) cw_X8_makePower zp_8 rfl (by decide) rfl ml_X11_229 (by decide) rfl rfl (Nat.le_of_ble_eq_true rfl) dX11_self_34 (fun H locs hP hS => ?_)
        refine lv_aload_n hx hb dX11_self_37 rfl (lv_at hl 1 rfl) ?_
        refine gf_X11_28 X hP (k := 0) (q := 5) rfl dX11_self_38 rfl ?_
        refine lv_aload_n hx hb dX11_self_41 rfl (lv_at hl 1 rfl) ?_
        refine gf_X11_28 X hP (k := 0) (q := 5) rfl dX11_self_42 rfl ?_
        refine gf_X11_188 X hP (k := 5) (q := 21) rfl dX11_self_45 rfl ?_
        obtain ⟨r9, s10, h11, hf⟩ := zbd_some hf
        refine zcallV X hP hS hl.1 (k := 5) (As := [.ref (ad 21)]) (rest := []) (cn_X8_metOf h11) cw_X8_metOf zp_8 rfl (by decide) rfl ml_X11_212 (by decide) rfl rfl (Nat.le_of_ble_eq_true rfl) dX11_self_48 (fun H locs hP hS => ?_)
        exact zret_l X hP hS hf dX11_self_51
      · refine zldc2 X co_X11_132 dX11_self_24 ?_
        exact zret_l X hP hS hf dX11_self_27
theorem dX11_like_0 : decode cX11_like 0 = .ok (.aload_n 0, 1) := by decide +kernel
theorem dX11_like_1 : decode cX11_like 1 = .ok (.getfield 12, 3) := by decide +kernel
theorem dX11_like_4 : decode cX11_like 4 = .ok (.iload_n 1, 1) := by decide +kernel
theorem dX11_like_5 : decode cX11_like 5 = .ok (.i2l, 1) := by decide +kernel
theorem dX11_like_6 : decode cX11_like 6 = .ok (.invokevirtual 155, 3) := by decide +kernel
theorem dX11_like_9 : decode cX11_like 9 = .ok (.astore_n 3, 1) := by decide +kernel
theorem dX11_like_10 : decode cX11_like 10 = .ok (.aload_n 0, 1) := by decide +kernel
theorem dX11_like_11 : decode cX11_like 11 = .ok (.getfield 12, 3) := by decide +kernel
theorem dX11_like_14 : decode cX11_like 14 = .ok (.iload_n 2, 1) := by decide +kernel
theorem dX11_like_15 : decode cX11_like 15 = .ok (.i2l, 1) := by decide +kernel
theorem dX11_like_16 : decode cX11_like 16 = .ok (.invokevirtual 155, 3) := by decide +kernel
theorem dX11_like_19 : decode cX11_like 19 = .ok (.astore 4, 2) := by decide +kernel
theorem dX11_like_21 : decode cX11_like 21 = .ok (.aload_n 3, 1) := by decide +kernel
theorem dX11_like_22 : decode cX11_like 22 = .ok (.ifnull 8, 3) := by decide +kernel
theorem dX11_like_25 : decode cX11_like 25 = .ok (.aload 4, 2) := by decide +kernel
theorem dX11_like_27 : decode cX11_like 27 = .ok (.ifnonnull 5, 3) := by decide +kernel
theorem dX11_like_30 : decode cX11_like 30 = .ok (.iconst (-1), 1) := by decide +kernel
theorem dX11_like_31 : decode cX11_like 31 = .ok (.ireturn, 1) := by decide +kernel
theorem dX11_like_32 : decode cX11_like 32 = .ok (.aload_n 0, 1) := by decide +kernel
theorem dX11_like_33 : decode cX11_like 33 = .ok (.getfield 28, 3) := by decide +kernel
theorem dX11_like_36 : decode cX11_like 36 = .ok (.aload_n 3, 1) := by decide +kernel
theorem dX11_like_37 : decode cX11_like 37 = .ok (.aload_n 0, 1) := by decide +kernel
theorem dX11_like_38 : decode cX11_like 38 = .ok (.getfield 28, 3) := by decide +kernel
theorem dX11_like_41 : decode cX11_like 41 = .ok (.getfield 188, 3) := by decide +kernel
theorem dX11_like_44 : decode cX11_like 44 = .ok (.invokevirtual 208, 3) := by decide +kernel
theorem dX11_like_47 : decode cX11_like 47 = .ok (.aload_n 0, 1) := by decide +kernel
theorem dX11_like_48 : decode cX11_like 48 = .ok (.getfield 28, 3) := by decide +kernel
theorem dX11_like_51 : decode cX11_like 51 = .ok (.aload 4, 2) := by decide +kernel
theorem dX11_like_53 : decode cX11_like 53 = .ok (.aload_n 0, 1) := by decide +kernel
theorem dX11_like_54 : decode cX11_like 54 = .ok (.getfield 28, 3) := by decide +kernel
theorem dX11_like_57 : decode cX11_like 57 = .ok (.getfield 233, 3) := by decide +kernel
theorem dX11_like_60 : decode cX11_like 60 = .ok (.invokevirtual 208, 3) := by decide +kernel
theorem dX11_like_63 : decode cX11_like 63 = .ok (.aload_n 0, 1) := by decide +kernel
theorem dX11_like_64 : decode cX11_like 64 = .ok (.getfield 28, 3) := by decide +kernel
theorem dX11_like_67 : decode cX11_like 67 = .ok (.aload_n 0, 1) := by decide +kernel
theorem dX11_like_68 : decode cX11_like 68 = .ok (.getfield 28, 3) := by decide +kernel
theorem dX11_like_71 : decode cX11_like 71 = .ok (.getfield 188, 3) := by decide +kernel
theorem dX11_like_74 : decode cX11_like 74 = .ok (.aload_n 0, 1) := by decide +kernel
theorem dX11_like_75 : decode cX11_like 75 = .ok (.getfield 28, 3) := by decide +kernel
theorem dX11_like_78 : decode cX11_like 78 = .ok (.getfield 233, 3) := by decide +kernel
theorem dX11_like_81 : decode cX11_like 81 = .ok (.invokevirtual 236, 3) := by decide +kernel
theorem dX11_like_84 : decode cX11_like 84 = .ok (.ifCond .eq 7, 3) := by decide +kernel
theorem dX11_like_87 : decode cX11_like 87 = .ok (.iconst 1, 1) := by decide +kernel
theorem dX11_like_88 : decode cX11_like 88 = .ok (.goto 4, 3) := by decide +kernel
theorem dX11_like_91 : decode cX11_like 91 = .ok (.iconst 0, 1) := by decide +kernel
theorem dX11_like_92 : decode cX11_like 92 = .ok (.ireturn, 1) := by decide +kernel
set_option maxHeartbeats 4000000 in
set_option maxRecDepth 100000 in
theorem cn_X11_like {l : Launch} {cA : Nat → ClassId} {ad : Nat → Nat} {D : va_G} {E : Nat → Nat} {A : Nat → Prop} {x1 : Int32} {x2 : Int32} {s0 sr : SS} {rr : Int32} (hf : f_X11_like x1 x2 s0 = some (rr, sr)) : zCon Ox Nx cA ad D E l yX11_like cX11_like 5 (some .int) 3 A [.ref (ad 0), .int x1, .int x2] s0 (some (.int rr)) sr := by
  refine zstart (own := RX11) hOx (by decide) rfl (Nat.le_of_ble_eq_true rfl) ?_
  intro p e s m args below meth c X hP ls hl
  have hx := X.1
  have hb := X.2.1
  have hl : lv_has ls 5 [(0, .ref (ad 0)), (1, .int x1), (2, .int x2)] := hl
  have hS : va_S A s.heap s.heap [] := va_S.rf
  rw [f_X11_like] at hf
  refine lv_aload_n hx hb dX11_like_0 rfl (lv_at hl 0 rfl) ?_
  refine gf_X11_12 X hP (k := 0) (q := 1) rfl dX11_like_1 rfl ?_
  refine lv_iload_n hx hb dX11_like_4 rfl (lv_at hl 1 rfl) ?_
  refine lv_i2l hx hb dX11_like_5 rfl ?_
  obtain ⟨r1, s2, h3, hf⟩ := zbd_some hf
  refine zcallV X hP hS hl.1 (k := 1) (As := [.long (x1).toInt64]) (rest := []) (cn_X3_classAt h3) cw_X3_classAt zp_3 rfl (by decide) rfl ml_X11_155 (by decide) rfl rfl (Nat.le_of_ble_eq_true rfl) dX11_like_6 (fun H locs hP hS => ?_)
  rcases r1 with _ | k4
  · have hf := zbn_none hf
    refine lv_astore_nN (lv' := [(3, .null), (0, .ref (ad 0)), (1, .int x1), (2, .int x2)]) hx hb dX11_like_9 rfl hl (by decide) rfl (fun ls hl => ?_)
    refine lv_aload_n hx hb dX11_like_10 rfl (lv_at hl 1 rfl) ?_
    refine gf_X11_12 X hP (k := 0) (q := 1) rfl dX11_like_11 rfl ?_
    refine lv_iload_n hx hb dX11_like_14 rfl (lv_at hl 3 rfl) ?_
    refine lv_i2l hx hb dX11_like_15 rfl ?_
    obtain ⟨r6, s7, h8, hf⟩ := zbd_some hf
    refine zcallV X hP hS hl.1 (k := 1) (As := [.long (x2).toInt64]) (rest := []) (cn_X3_classAt h8) cw_X3_classAt zp_3 rfl (by decide) rfl ml_X11_155 (by decide) rfl rfl (Nat.le_of_ble_eq_true rfl) dX11_like_16 (fun H locs hP hS => ?_)
    rcases r6 with _ | k9
    · have hf := zbn_none hf
      refine lv_astoreN (lv' := [(4, .null), (3, .null), (0, .ref (ad 0)), (1, .int x1), (2, .int x2)]) hx hb dX11_like_19 hl (by decide) rfl (fun ls hl => ?_)
      refine lv_aload_nN hx hb dX11_like_21 rfl (lv_at hl 1 rfl) ?_
      refine lv_ifnullN (tgt := 30) hx hb dX11_like_22 (by decide) ?_
      refine lv_iconst (v := (-1)) hx hb dX11_like_30 (by decide) ?_
      exact zret_i X hP hS hf rfl dX11_like_31
    · have hf := zbn_some hf
      obtain ⟨g10, hf⟩ := zgd hf
      refine lv_astore (lv' := [(4, .ref (ad k9)), (3, .null), (0, .ref (ad 0)), (1, .int x1), (2, .int x2)]) hx hb dX11_like_19 hl (by decide) rfl (fun ls hl => ?_)
      refine lv_aload_nN hx hb dX11_like_21 rfl (lv_at hl 1 rfl) ?_
      refine lv_ifnullN (tgt := 30) hx hb dX11_like_22 (by decide) ?_
      refine lv_iconst (v := (-1)) hx hb dX11_like_30 (by decide) ?_
      exact zret_i X hP hS hf rfl dX11_like_31
  · have hf := zbn_some hf
    obtain ⟨g5, hf⟩ := zgd hf
    refine lv_astore_n (lv' := [(3, .ref (ad k4)), (0, .ref (ad 0)), (1, .int x1), (2, .int x2)]) hx hb dX11_like_9 rfl hl (by decide) rfl (fun ls hl => ?_)
    refine lv_aload_n hx hb dX11_like_10 rfl (lv_at hl 1 rfl) ?_
    refine gf_X11_12 X hP (k := 0) (q := 1) rfl dX11_like_11 rfl ?_
    refine lv_iload_n hx hb dX11_like_14 rfl (lv_at hl 3 rfl) ?_
    refine lv_i2l hx hb dX11_like_15 rfl ?_
    obtain ⟨r11, s12, h13, hf⟩ := zbd_some hf
    refine zcallV X hP hS hl.1 (k := 1) (As := [.long (x2).toInt64]) (rest := []) (cn_X3_classAt h13) cw_X3_classAt zp_3 rfl (by decide) rfl ml_X11_155 (by decide) rfl rfl (Nat.le_of_ble_eq_true rfl) dX11_like_16 (fun H locs hP hS => ?_)
    rcases r11 with _ | k14
    · have hf := zbn_none hf
      refine lv_astoreN (lv' := [(4, .null), (3, .ref (ad k4)), (0, .ref (ad 0)), (1, .int x1), (2, .int x2)]) hx hb dX11_like_19 hl (by decide) rfl (fun ls hl => ?_)
      refine lv_aload_n hx hb dX11_like_21 rfl (lv_at hl 1 rfl) ?_
      refine lv_ifnull hx hb dX11_like_22 ?_
      refine lv_aloadN hx hb dX11_like_25 (lv_at hl 0 rfl) ?_
      refine lv_ifnonnullN hx hb dX11_like_27 ?_
      refine lv_iconst (v := (-1)) hx hb dX11_like_30 (by decide) ?_
      exact zret_i X hP hS hf rfl dX11_like_31
    · have hf := zbn_some hf
      obtain ⟨g15, hf⟩ := zgd hf
      refine lv_astore (lv' := [(4, .ref (ad k14)), (3, .ref (ad k4)), (0, .ref (ad 0)), (1, .int x1), (2, .int x2)]) hx hb dX11_like_19 hl (by decide) rfl (fun ls hl => ?_)
      refine lv_aload_n hx hb dX11_like_21 rfl (lv_at hl 1 rfl) ?_
      refine lv_ifnull hx hb dX11_like_22 ?_
      refine lv_aload hx hb dX11_like_25 (lv_at hl 0 rfl) ?_
      refine lv_ifnonnull (tgt := 32) hx hb dX11_like_27 (by decide) ?_
      refine lv_aload_n hx hb dX11_like_32 rfl (lv_at hl 2 rfl) ?_
      refine gf_X11_28 X hP (k := 0) (q := 5) rfl dX11_like_33 rfl ?_
      refine lv_aload_n hx hb dX11_like_36 rfl (lv_at hl 1 rfl) ?_
      refine lv_aload_n hx hb dX11_like_37 rfl (lv_at hl 2 rfl) ?_
      refine gf_X11_28 X hP (k := 0) (q := 5) rfl dX11_like_38 rfl ?_
      refine gf_X11_188 X hP (k := 5) (q := 21) rfl dX11_like_41 rfl ?_
      obtain ⟨r16, s17, h18, hf⟩ := zbd_some hf
      refine zcallV X hP hS hl.1 (k := 5) (As := [.ref (ad k4), .ref (ad 21)]) (rest := []) (cn_X8_takeNumbers h18) cw_X8_takeNumbers zp_8 rfl (by decide) rfl ml_X11_208 (by decide) rfl rfl (Nat.le_of_ble_eq_true rfl) dX11_like_44 (fun H locs hP hS => ?_)
      refine lv_aload_n hx hb dX11_like_47 rfl (lv_at hl 2 rfl) ?_
      refine gf_X11_28 X hP (k := 0) (q := 5) rfl dX11_like_48 rfl ?_
      refine lv_aload hx hb dX11_like_51 (lv_at hl 0 rfl) ?_
      refine lv_aload_n hx hb dX11_like_53 rfl (lv_at hl 2 rfl) ?_
      refine gf_X11_28 X hP (k := 0) (q := 5) rfl dX11_like_54 rfl ?_
      refine gf_X11_233 X hP (k := 5) (q := 22) rfl dX11_like_57 rfl ?_
      obtain ⟨r19, s20, h21, hf⟩ := zbd_some hf
      refine zcallV X hP hS hl.1 (k := 5) (As := [.ref (ad k14), .ref (ad 22)]) (rest := []) (cn_X8_takeNumbers h21) cw_X8_takeNumbers zp_8 rfl (by decide) rfl ml_X11_208 (by decide) rfl rfl (Nat.le_of_ble_eq_true rfl) dX11_like_60 (fun H locs hP hS => ?_)
      refine lv_aload_n hx hb dX11_like_63 rfl (lv_at hl 2 rfl) ?_
      refine gf_X11_28 X hP (k := 0) (q := 5) rfl dX11_like_64 rfl ?_
      refine lv_aload_n hx hb dX11_like_67 rfl (lv_at hl 2 rfl) ?_
      refine gf_X11_28 X hP (k := 0) (q := 5) rfl dX11_like_68 rfl ?_
      refine gf_X11_188 X hP (k := 5) (q := 21) rfl dX11_like_71 rfl ?_
      refine lv_aload_n hx hb dX11_like_74 rfl (lv_at hl 2 rfl) ?_
      refine gf_X11_28 X hP (k := 0) (q := 5) rfl dX11_like_75 rfl ?_
      refine gf_X11_233 X hP (k := 5) (q := 22) rfl dX11_like_78 rfl ?_
      obtain ⟨r22, s23, h24, hf⟩ := zbd_some hf
      refine zcallV X hP hS hl.1 (k := 5) (As := [.ref (ad 21), .ref (ad 22)]) (rest := []) (cn_X8_areLike h24) cw_X8_areLike zp_8 rfl (by decide) rfl ml_X11_236 (by decide) rfl rfl (Nat.le_of_ble_eq_true rfl) dX11_like_81 (fun H locs hP hS => ?_)
      refine zif_eq (tgt := 91) hx hb dX11_like_84 (by decide) hf (fun hf => ?_) (fun hf => ?_)
      · refine lv_iconst (v := 0) hx hb dX11_like_91 (by decide) ?_
        exact zret_i X hP hS hf rfl dX11_like_92
      · refine lv_iconst (v := 1) hx hb dX11_like_87 (by decide) ?_
        refine lv_goto (tgt := 92) hx hb dX11_like_88 (by decide) ?_
        exact zret_i X hP hS hf rfl dX11_like_92
theorem dX11_chern_0 : decode cX11_chern 0 = .ok (.aload_n 0, 1) := by decide +kernel
theorem dX11_chern_1 : decode cX11_chern 1 = .ok (.getfield 28, 3) := by decide +kernel
theorem dX11_chern_4 : decode cX11_chern 4 = .ok (.getfield 84, 3) := by decide +kernel
theorem dX11_chern_7 : decode cX11_chern 7 = .ok (.iload_n 1, 1) := by decide +kernel
theorem dX11_chern_8 : decode cX11_chern 8 = .ok (.invokevirtual 128, 3) := by decide +kernel
theorem dX11_chern_11 : decode cX11_chern 11 = .ok (.istore_n 2, 1) := by decide +kernel
theorem dX11_chern_12 : decode cX11_chern 12 = .ok (.iload_n 2, 1) := by decide +kernel
theorem dX11_chern_13 : decode cX11_chern 13 = .ok (.ifCond .ge 7, 3) := by decide +kernel
theorem dX11_chern_16 : decode cX11_chern 16 = .ok (.ldc2_w 132, 3) := by decide +kernel
theorem dX11_chern_19 : decode cX11_chern 19 = .ok (.lreturn, 1) := by decide +kernel
theorem dX11_chern_20 : decode cX11_chern 20 = .ok (.aload_n 0, 1) := by decide +kernel
theorem dX11_chern_21 : decode cX11_chern 21 = .ok (.getfield 12, 3) := by decide +kernel
theorem dX11_chern_24 : decode cX11_chern 24 = .ok (.getfield 74, 3) := by decide +kernel
theorem dX11_chern_27 : decode cX11_chern 27 = .ok (.invokevirtual 251, 3) := by decide +kernel
theorem dX11_chern_30 : decode cX11_chern 30 = .ok (.ifCond .ne 7, 3) := by decide +kernel
theorem dX11_chern_33 : decode cX11_chern 33 = .ok (.ldc2_w 227, 3) := by decide +kernel
theorem dX11_chern_36 : decode cX11_chern 36 = .ok (.lreturn, 1) := by decide +kernel
theorem dX11_chern_37 : decode cX11_chern 37 = .ok (.aload_n 0, 1) := by decide +kernel
theorem dX11_chern_38 : decode cX11_chern 38 = .ok (.getfield 28, 3) := by decide +kernel
theorem dX11_chern_41 : decode cX11_chern 41 = .ok (.aload_n 0, 1) := by decide +kernel
theorem dX11_chern_42 : decode cX11_chern 42 = .ok (.getfield 12, 3) := by decide +kernel
theorem dX11_chern_45 : decode cX11_chern 45 = .ok (.getfield 74, 3) := by decide +kernel
theorem dX11_chern_48 : decode cX11_chern 48 = .ok (.invokevirtual 255, 3) := by decide +kernel
theorem dX11_chern_51 : decode cX11_chern 51 = .ok (.aload_n 0, 1) := by decide +kernel
theorem dX11_chern_52 : decode cX11_chern 52 = .ok (.getfield 28, 3) := by decide +kernel
theorem dX11_chern_55 : decode cX11_chern 55 = .ok (.getfield 258, 3) := by decide +kernel
theorem dX11_chern_58 : decode cX11_chern 58 = .ok (.iload_n 2, 1) := by decide +kernel
theorem dX11_chern_59 : decode cX11_chern 59 = .ok (.laload, 1) := by decide +kernel
theorem dX11_chern_60 : decode cX11_chern 60 = .ok (.lreturn, 1) := by decide +kernel
set_option maxHeartbeats 4000000 in
set_option maxRecDepth 100000 in
theorem cn_X11_chern {l : Launch} {cA : Nat → ClassId} {ad : Nat → Nat} {D : va_G} {E : Nat → Nat} {A : Nat → Prop} {x1 : Int32} {s0 sr : SS} {rr : Int64} (hf : f_X11_chern x1 s0 = some (rr, sr)) : zCon Ox Nx cA ad D E l yX11_chern cX11_chern 3 (some .long) 4 A [.ref (ad 0), .int x1] s0 (some (.long rr)) sr := by
  refine zstart (own := RX11) hOx (by decide) rfl (Nat.le_of_ble_eq_true rfl) ?_
  intro p e s m args below meth c X hP ls hl
  have hx := X.1
  have hb := X.2.1
  have hl : lv_has ls 3 [(0, .ref (ad 0)), (1, .int x1)] := hl
  have hS : va_S A s.heap s.heap [] := va_S.rf
  rw [f_X11_chern] at hf
  refine lv_aload_n hx hb dX11_chern_0 rfl (lv_at hl 0 rfl) ?_
  refine gf_X11_28 X hP (k := 0) (q := 5) rfl dX11_chern_1 rfl ?_
  refine gf_X11_84 X hP (k := 5) (q := 6) rfl dX11_chern_4 rfl ?_
  refine lv_iload_n hx hb dX11_chern_7 rfl (lv_at hl 1 rfl) ?_
  obtain ⟨r1, s2, h3, hf⟩ := zbd_some hf
  refine zcallV X hP hS hl.1 (k := 6) (As := [.int x1]) (rest := []) (cn_X10_find h3) cw_X10_find zp_10 rfl (by decide) rfl ml_X11_128 (by decide) rfl rfl (Nat.le_of_ble_eq_true rfl) dX11_chern_8 (fun H locs hP hS => ?_)
  refine lv_istore_n (lv' := [(2, .int r1), (0, .ref (ad 0)), (1, .int x1)]) hx hb dX11_chern_11 rfl hl (by decide) rfl (fun ls hl => ?_)
  refine lv_iload_n hx hb dX11_chern_12 rfl (lv_at hl 0 rfl) ?_
  refine zif_ge (tgt := 20) hx hb dX11_chern_13 (by decide) hf (fun hf => ?_) (fun hf => ?_)
  · refine lv_aload_n hx hb dX11_chern_20 rfl (lv_at hl 1 rfl) ?_
    refine gf_X11_12 X hP (k := 0) (q := 1) rfl dX11_chern_21 rfl ?_
    refine gf_X11_74 X hP (k := 1) (q := 3) rfl dX11_chern_24 rfl ?_
    obtain ⟨r4, s5, h6, hf⟩ := zbd_some hf
    refine zcallV X hP hS hl.1 (k := 3) (As := []) (rest := []) (cn_X7_isBareProduct h6) cw_X7_isBareProduct zp_7 rfl (by decide) rfl ml_X11_251 (by decide) rfl rfl (Nat.le_of_ble_eq_true rfl) dX11_chern_27 (fun H locs hP hS => ?_)
    refine zif_ne (tgt := 37) hx hb dX11_chern_30 (by decide) hf (fun hf => ?_) (fun hf => ?_)
    · refine lv_aload_n hx hb dX11_chern_37 rfl (lv_at hl 1 rfl) ?_
      refine gf_X11_28 X hP (k := 0) (q := 5) rfl dX11_chern_38 rfl ?_
      refine lv_aload_n hx hb dX11_chern_41 rfl (lv_at hl 1 rfl) ?_
      refine gf_X11_12 X hP (k := 0) (q := 1) rfl dX11_chern_42 rfl ?_
      refine gf_X11_74 X hP (k := 1) (q := 3) rfl dX11_chern_45 rfl ?_
      obtain ⟨r7, s8, h9, hf⟩ := zbd_some hf
      refine zcallV X hP hS hl.1 (k := 5) (As := [.ref (ad 3)]) (rest := []) (cn_X8_makeChern h9) cw_X8_makeChern zp_8 rfl (by decide) rfl ml_X11_255 (by decide) rfl rfl (Nat.le_of_ble_eq_true rfl) dX11_chern_48 (fun H locs hP hS => ?_)
      refine lv_aload_n hx hb dX11_chern_51 rfl (lv_at hl 1 rfl) ?_
      refine gf_X11_28 X hP (k := 0) (q := 5) rfl dX11_chern_52 rfl ?_
      refine gf_X11_258 X hP (k := 5) (q := 23) rfl dX11_chern_55 rfl ?_
      refine lv_iload_n hx hb dX11_chern_58 rfl (lv_at hl 0 rfl) ?_
      obtain ⟨g10, hf⟩ := zgd hf
      refine zald_l X hP (k := 23) (n := 462) (rs := []) rfl g10 dX11_chern_59 ?_
      exact zret_l X hP hS hf dX11_chern_60
    · refine zldc2 X co_X11_227 dX11_chern_33 ?_
      exact zret_l X hP hS hf dX11_chern_36
  · refine zldc2 X co_X11_132 dX11_chern_16 ?_
    exact zret_l X hP hS hf dX11_chern_19
theorem dX11_canCutOut_0 : decode cX11_canCutOut 0 = .ok (.aload_n 0, 1) := by decide +kernel
theorem dX11_canCutOut_1 : decode cX11_canCutOut 1 = .ok (.getfield 63, 3) := by decide +kernel
theorem dX11_canCutOut_4 : decode cX11_canCutOut 4 = .ok (.iload_n 1, 1) := by decide +kernel
theorem dX11_canCutOut_5 : decode cX11_canCutOut 5 = .ok (.invokevirtual 244, 3) := by decide +kernel
theorem dX11_canCutOut_8 : decode cX11_canCutOut 8 = .ok (.aload_n 0, 1) := by decide +kernel
theorem dX11_canCutOut_9 : decode cX11_canCutOut 9 = .ok (.getfield 12, 3) := by decide +kernel
theorem dX11_canCutOut_12 : decode cX11_canCutOut 12 = .ok (.getfield 74, 3) := by decide +kernel
theorem dX11_canCutOut_15 : decode cX11_canCutOut 15 = .ok (.invokevirtual 115, 3) := by decide +kernel
theorem dX11_canCutOut_18 : decode cX11_canCutOut 18 = .ok (.if_icmp .le 5, 3) := by decide +kernel
theorem dX11_canCutOut_21 : decode cX11_canCutOut 21 = .ok (.iconst 0, 1) := by decide +kernel
theorem dX11_canCutOut_22 : decode cX11_canCutOut 22 = .ok (.ireturn, 1) := by decide +kernel
theorem dX11_canCutOut_23 : decode cX11_canCutOut 23 = .ok (.iconst 0, 1) := by decide +kernel
theorem dX11_canCutOut_24 : decode cX11_canCutOut 24 = .ok (.istore_n 2, 1) := by decide +kernel
theorem dX11_canCutOut_25 : decode cX11_canCutOut 25 = .ok (.iload_n 2, 1) := by decide +kernel
theorem dX11_canCutOut_26 : decode cX11_canCutOut 26 = .ok (.aload_n 0, 1) := by decide +kernel
theorem dX11_canCutOut_27 : decode cX11_canCutOut 27 = .ok (.getfield 63, 3) := by decide +kernel
theorem dX11_canCutOut_30 : decode cX11_canCutOut 30 = .ok (.iload_n 1, 1) := by decide +kernel
theorem dX11_canCutOut_31 : decode cX11_canCutOut 31 = .ok (.invokevirtual 244, 3) := by decide +kernel
theorem dX11_canCutOut_34 : decode cX11_canCutOut 34 = .ok (.if_icmp .ge 46, 3) := by decide +kernel
theorem dX11_canCutOut_37 : decode cX11_canCutOut 37 = .ok (.aload_n 0, 1) := by decide +kernel
theorem dX11_canCutOut_38 : decode cX11_canCutOut 38 = .ok (.getfield 12, 3) := by decide +kernel
theorem dX11_canCutOut_41 : decode cX11_canCutOut 41 = .ok (.aload_n 0, 1) := by decide +kernel
theorem dX11_canCutOut_42 : decode cX11_canCutOut 42 = .ok (.getfield 63, 3) := by decide +kernel
theorem dX11_canCutOut_45 : decode cX11_canCutOut 45 = .ok (.iload_n 1, 1) := by decide +kernel
theorem dX11_canCutOut_46 : decode cX11_canCutOut 46 = .ok (.iload_n 2, 1) := by decide +kernel
theorem dX11_canCutOut_47 : decode cX11_canCutOut 47 = .ok (.invokevirtual 247, 3) := by decide +kernel
theorem dX11_canCutOut_50 : decode cX11_canCutOut 50 = .ok (.invokevirtual 155, 3) := by decide +kernel
theorem dX11_canCutOut_53 : decode cX11_canCutOut 53 = .ok (.astore_n 3, 1) := by decide +kernel
theorem dX11_canCutOut_54 : decode cX11_canCutOut 54 = .ok (.aload_n 3, 1) := by decide +kernel
theorem dX11_canCutOut_55 : decode cX11_canCutOut 55 = .ok (.ifnull 17, 3) := by decide +kernel
theorem dX11_canCutOut_58 : decode cX11_canCutOut 58 = .ok (.aload_n 3, 1) := by decide +kernel
theorem dX11_canCutOut_59 : decode cX11_canCutOut 59 = .ok (.aload_n 0, 1) := by decide +kernel
theorem dX11_canCutOut_60 : decode cX11_canCutOut 60 = .ok (.getfield 28, 3) := by decide +kernel
theorem dX11_canCutOut_63 : decode cX11_canCutOut 63 = .ok (.getfield 84, 3) := by decide +kernel
theorem dX11_canCutOut_66 : decode cX11_canCutOut 66 = .ok (.invokevirtual 272, 3) := by decide +kernel
theorem dX11_canCutOut_69 : decode cX11_canCutOut 69 = .ok (.ifCond .ne 5, 3) := by decide +kernel
theorem dX11_canCutOut_72 : decode cX11_canCutOut 72 = .ok (.iconst 0, 1) := by decide +kernel
theorem dX11_canCutOut_73 : decode cX11_canCutOut 73 = .ok (.ireturn, 1) := by decide +kernel
theorem dX11_canCutOut_74 : decode cX11_canCutOut 74 = .ok (.iinc 2 1, 3) := by decide +kernel
theorem dX11_canCutOut_77 : decode cX11_canCutOut 77 = .ok (.goto (-52), 3) := by decide +kernel
theorem dX11_canCutOut_80 : decode cX11_canCutOut 80 = .ok (.iconst 1, 1) := by decide +kernel
theorem dX11_canCutOut_81 : decode cX11_canCutOut 81 = .ok (.ireturn, 1) := by decide +kernel
set_option maxHeartbeats 4000000 in
set_option maxRecDepth 100000 in
theorem cn_X11_canCutOut {l : Launch} {cA : Nat → ClassId} {ad : Nat → Nat} {D : va_G} {E : Nat → Nat} {A : Nat → Prop} {x1 : Int32} {s0 sr : SS} {rr : Int32} (hf : f_X11_canCutOut x1 s0 = some (rr, sr)) : zCon Ox Nx cA ad D E l yX11_canCutOut cX11_canCutOut 4 (some .boolean) 4 A [.ref (ad 0), .int x1] s0 (some (.int rr)) sr := by
  refine zstart (own := RX11) hOx (by decide) rfl (Nat.le_of_ble_eq_true rfl) ?_
  intro p e s m args below meth c X hP ls hl
  have hx := X.1
  have hb := X.2.1
  have hl : lv_has ls 4 [(0, .ref (ad 0)), (1, .int x1)] := hl
  have hS : va_S A s.heap s.heap [] := va_S.rf
  have hc_25 : ∀ (n25 : Nat) (x1 : Int32) (x2 : Int32) (s1 : SS) (H : Heap) (locs : List Loc) (ls : Array Slot), lv_has ls 4 [(0, .ref (ad 0)), (1, .int x1), (2, .int x2)] → va_P D ZCL (zw Ox Nx cA ad s1) H → va_S A s.heap H locs → f_X11_canCutOut_c25 n25 x1 x2 s1 = some (rr, sr) → W p l e (zrm 4) s m args below meth c H locs 0 0 (MQ below (zQc Ox Nx cA ad D A (some (.int rr)) sr) args s 0 0 A) (F0 m 25 ls []) := by
    intro n25
    induction n25 with
    | zero =>
      intro x1 x2 s1 H locs ls hl hP hS hf
      rw [f_X11_canCutOut_c25] at hf
      cases hf
    | succ n25 ih25 =>
      intro x1 x2 s1 H locs ls hl hP hS hf
      rw [f_X11_canCutOut_c25] at hf
      refine lv_iload_n hx hb dX11_canCutOut_25 rfl (lv_at hl 2 rfl) ?_
      refine lv_aload_n hx hb dX11_canCutOut_26 rfl (lv_at hl 0 rfl) ?_
      refine gf_X11_63 X hP (k := 0) (q := 11) rfl dX11_canCutOut_27 rfl ?_
      refine lv_iload_n hx hb dX11_canCutOut_30 rfl (lv_at hl 1 rfl) ?_
      obtain ⟨r7, s8, h9, hf⟩ := zbd_some hf
      refine zcallV X hP hS hl.1 (k := 11) (As := [.int x1]) (rest := [.int x2]) (cn_X5_sizeOf h9) cw_X5_sizeOf zp_5 rfl (by decide) rfl ml_X11_244 (by decide) rfl rfl (Nat.le_of_ble_eq_true rfl) dX11_canCutOut_31 (fun H locs hP hS => ?_)
      refine zicmp_ge (tgt := 80) hx hb dX11_canCutOut_34 (by decide) hf (fun hf => ?_) (fun hf => ?_)
      · refine lv_iconst (v := 1) hx hb dX11_canCutOut_80 (by decide) ?_
        exact zret_i X hP hS hf rfl dX11_canCutOut_81
      · refine lv_aload_n hx hb dX11_canCutOut_37 rfl (lv_at hl 0 rfl) ?_
        refine gf_X11_12 X hP (k := 0) (q := 1) rfl dX11_canCutOut_38 rfl ?_
        refine lv_aload_n hx hb dX11_canCutOut_41 rfl (lv_at hl 0 rfl) ?_
        refine gf_X11_63 X hP (k := 0) (q := 11) rfl dX11_canCutOut_42 rfl ?_
        refine lv_iload_n hx hb dX11_canCutOut_45 rfl (lv_at hl 1 rfl) ?_
        refine lv_iload_n hx hb dX11_canCutOut_46 rfl (lv_at hl 2 rfl) ?_
        obtain ⟨r10, s11, h12, hf⟩ := zbd_some hf
        refine zcallV X hP hS hl.1 (k := 11) (As := [.int x1, .int x2]) (rest := [.ref (ad 1)]) (cn_X5_valueAt h12) cw_X5_valueAt zp_5 rfl (by decide) rfl ml_X11_247 (by decide) rfl rfl (Nat.le_of_ble_eq_true rfl) dX11_canCutOut_47 (fun H locs hP hS => ?_)
        obtain ⟨r13, s14, h15, hf⟩ := zbd_some hf
        refine zcallV X hP hS hl.1 (k := 1) (As := [.long r10]) (rest := []) (cn_X3_classAt h15) cw_X3_classAt zp_3 rfl (by decide) rfl ml_X11_155 (by decide) rfl rfl (Nat.le_of_ble_eq_true rfl) dX11_canCutOut_50 (fun H locs hP hS => ?_)
        rcases r13 with _ | k16
        · have hf := zbn_none hf
          refine lv_astore_nN (lv' := [(3, .null), (0, .ref (ad 0)), (1, .int x1), (2, .int x2)]) hx hb dX11_canCutOut_53 rfl hl (by decide) rfl (fun ls hl => ?_)
          refine lv_aload_nN hx hb dX11_canCutOut_54 rfl (lv_at hl 0 rfl) ?_
          refine lv_ifnullN (tgt := 72) hx hb dX11_canCutOut_55 (by decide) ?_
          refine lv_iconst (v := 0) hx hb dX11_canCutOut_72 (by decide) ?_
          exact zret_i X hP hS hf rfl dX11_canCutOut_73
        · have hf := zbn_some hf
          obtain ⟨g17, hf⟩ := zgd hf
          refine lv_astore_n (lv' := [(3, .ref (ad k16)), (0, .ref (ad 0)), (1, .int x1), (2, .int x2)]) hx hb dX11_canCutOut_53 rfl hl (by decide) rfl (fun ls hl => ?_)
          refine lv_aload_n hx hb dX11_canCutOut_54 rfl (lv_at hl 0 rfl) ?_
          refine lv_ifnull hx hb dX11_canCutOut_55 ?_
          refine lv_aload_n hx hb dX11_canCutOut_58 rfl (lv_at hl 0 rfl) ?_
          refine lv_aload_n hx hb dX11_canCutOut_59 rfl (lv_at hl 1 rfl) ?_
          refine gf_X11_28 X hP (k := 0) (q := 5) rfl dX11_canCutOut_60 rfl ?_
          refine gf_X11_84 X hP (k := 5) (q := 6) rfl dX11_canCutOut_63 rfl ?_
          obtain ⟨r18, s19, h20, hf⟩ := zbd_some hf
          refine zcallV X hP hS hl.1 (k := k16) (As := [.ref (ad 6)]) (rest := []) (cn_X4_isOfSizeOne h20) cw_X4_isOfSizeOne zp_4 g17 (by decide) rfl ml_X11_272 (by decide) rfl rfl (Nat.le_of_ble_eq_true rfl) dX11_canCutOut_66 (fun H locs hP hS => ?_)
          refine zif_ne (tgt := 74) hx hb dX11_canCutOut_69 (by decide) hf (fun hf => ?_) (fun hf => ?_)
          · refine lv_iinc (v := (x2 + 1)) (lv' := [(2, .int (x2 + 1)), (3, .ref (ad k16)), (0, .ref (ad 0)), (1, .int x1)]) hx hb dX11_canCutOut_74 hl (k := 3) rfl rfl (by decide) rfl (fun ls hl => ?_)
            refine lv_goto (tgt := 25) hx hb dX11_canCutOut_77 (by decide) ?_
            exact ih25 x1 (x2 + 1) s19 _ _ _ (lv_sub hl [2, 3, 0] rfl) hP hS hf
          · refine lv_iconst (v := 0) hx hb dX11_canCutOut_72 (by decide) ?_
            exact zret_i X hP hS hf rfl dX11_canCutOut_73
  rw [f_X11_canCutOut] at hf
  refine lv_aload_n hx hb dX11_canCutOut_0 rfl (lv_at hl 0 rfl) ?_
  refine gf_X11_63 X hP (k := 0) (q := 11) rfl dX11_canCutOut_1 rfl ?_
  refine lv_iload_n hx hb dX11_canCutOut_4 rfl (lv_at hl 1 rfl) ?_
  obtain ⟨r1, s2, h3, hf⟩ := zbd_some hf
  refine zcallV X hP hS hl.1 (k := 11) (As := [.int x1]) (rest := []) (cn_X5_sizeOf h3) cw_X5_sizeOf zp_5 rfl (by decide) rfl ml_X11_244 (by decide) rfl rfl (Nat.le_of_ble_eq_true rfl) dX11_canCutOut_5 (fun H locs hP hS => ?_)
  refine lv_aload_n hx hb dX11_canCutOut_8 rfl (lv_at hl 0 rfl) ?_
  refine gf_X11_12 X hP (k := 0) (q := 1) rfl dX11_canCutOut_9 rfl ?_
  refine gf_X11_74 X hP (k := 1) (q := 3) rfl dX11_canCutOut_12 rfl ?_
  obtain ⟨r4, s5, h6, hf⟩ := zbd_some hf
  refine zcallV X hP hS hl.1 (k := 3) (As := []) (rest := [.int r1]) (cn_X7_dimension h6) cw_X7_dimension zp_7 rfl (by decide) rfl ml_X11_115 (by decide) rfl rfl (Nat.le_of_ble_eq_true rfl) dX11_canCutOut_15 (fun H locs hP hS => ?_)
  refine zicmp_le (tgt := 23) hx hb dX11_canCutOut_18 (by decide) hf (fun hf => ?_) (fun hf => ?_)
  · refine lv_iconst (v := 0) hx hb dX11_canCutOut_23 (by decide) ?_
    refine lv_istore_n (lv' := [(2, .int 0), (0, .ref (ad 0)), (1, .int x1)]) hx hb dX11_canCutOut_24 rfl hl (by decide) rfl (fun ls hl => ?_)
    exact hc_25 ZF x1 0 s5 _ _ _ (lv_sub hl [1, 2, 0] rfl) hP hS hf
  · refine lv_iconst (v := 0) hx hb dX11_canCutOut_21 (by decide) ?_
    exact zret_i X hP hS hf rfl dX11_canCutOut_22
theorem dX11_canonicalOfCut_0 : decode cX11_canonicalOfCut 0 = .ok (.aload_n 0, 1) := by decide +kernel
theorem dX11_canonicalOfCut_1 : decode cX11_canonicalOfCut 1 = .ok (.iload_n 1, 1) := by decide +kernel
theorem dX11_canonicalOfCut_2 : decode cX11_canonicalOfCut 2 = .ok (.invokevirtual 224, 3) := by decide +kernel
theorem dX11_canonicalOfCut_5 : decode cX11_canonicalOfCut 5 = .ok (.ifCond .ne 7, 3) := by decide +kernel
theorem dX11_canonicalOfCut_8 : decode cX11_canonicalOfCut 8 = .ok (.ldc2_w 227, 3) := by decide +kernel
theorem dX11_canonicalOfCut_11 : decode cX11_canonicalOfCut 11 = .ok (.lreturn, 1) := by decide +kernel
theorem dX11_canonicalOfCut_12 : decode cX11_canonicalOfCut 12 = .ok (.aload_n 0, 1) := by decide +kernel
theorem dX11_canonicalOfCut_13 : decode cX11_canonicalOfCut 13 = .ok (.getfield 28, 3) := by decide +kernel
theorem dX11_canonicalOfCut_16 : decode cX11_canonicalOfCut 16 = .ok (.aload_n 0, 1) := by decide +kernel
theorem dX11_canonicalOfCut_17 : decode cX11_canonicalOfCut 17 = .ok (.getfield 12, 3) := by decide +kernel
theorem dX11_canonicalOfCut_20 : decode cX11_canonicalOfCut 20 = .ok (.getfield 74, 3) := by decide +kernel
theorem dX11_canonicalOfCut_23 : decode cX11_canonicalOfCut 23 = .ok (.aload_n 0, 1) := by decide +kernel
theorem dX11_canonicalOfCut_24 : decode cX11_canonicalOfCut 24 = .ok (.getfield 28, 3) := by decide +kernel
theorem dX11_canonicalOfCut_27 : decode cX11_canonicalOfCut 27 = .ok (.getfield 233, 3) := by decide +kernel
theorem dX11_canonicalOfCut_30 : decode cX11_canonicalOfCut 30 = .ok (.invokevirtual 191, 3) := by decide +kernel
theorem dX11_canonicalOfCut_33 : decode cX11_canonicalOfCut 33 = .ok (.iconst 0, 1) := by decide +kernel
theorem dX11_canonicalOfCut_34 : decode cX11_canonicalOfCut 34 = .ok (.istore_n 3, 1) := by decide +kernel
theorem dX11_canonicalOfCut_35 : decode cX11_canonicalOfCut 35 = .ok (.iload_n 3, 1) := by decide +kernel
theorem dX11_canonicalOfCut_36 : decode cX11_canonicalOfCut 36 = .ok (.iload_n 2, 1) := by decide +kernel
theorem dX11_canonicalOfCut_37 : decode cX11_canonicalOfCut 37 = .ok (.if_icmp .ge 30, 3) := by decide +kernel
theorem dX11_canonicalOfCut_40 : decode cX11_canonicalOfCut 40 = .ok (.aload_n 0, 1) := by decide +kernel
theorem dX11_canonicalOfCut_41 : decode cX11_canonicalOfCut 41 = .ok (.getfield 28, 3) := by decide +kernel
theorem dX11_canonicalOfCut_44 : decode cX11_canonicalOfCut 44 = .ok (.aload_n 0, 1) := by decide +kernel
theorem dX11_canonicalOfCut_45 : decode cX11_canonicalOfCut 45 = .ok (.getfield 28, 3) := by decide +kernel
theorem dX11_canonicalOfCut_48 : decode cX11_canonicalOfCut 48 = .ok (.getfield 188, 3) := by decide +kernel
theorem dX11_canonicalOfCut_51 : decode cX11_canonicalOfCut 51 = .ok (.aload_n 0, 1) := by decide +kernel
theorem dX11_canonicalOfCut_52 : decode cX11_canonicalOfCut 52 = .ok (.getfield 28, 3) := by decide +kernel
theorem dX11_canonicalOfCut_55 : decode cX11_canonicalOfCut 55 = .ok (.getfield 233, 3) := by decide +kernel
theorem dX11_canonicalOfCut_58 : decode cX11_canonicalOfCut 58 = .ok (.invokevirtual 276, 3) := by decide +kernel
theorem dX11_canonicalOfCut_61 : decode cX11_canonicalOfCut 61 = .ok (.iinc 3 1, 3) := by decide +kernel
theorem dX11_canonicalOfCut_64 : decode cX11_canonicalOfCut 64 = .ok (.goto (-29), 3) := by decide +kernel
theorem dX11_canonicalOfCut_67 : decode cX11_canonicalOfCut 67 = .ok (.aload_n 0, 1) := by decide +kernel
theorem dX11_canonicalOfCut_68 : decode cX11_canonicalOfCut 68 = .ok (.getfield 28, 3) := by decide +kernel
theorem dX11_canonicalOfCut_71 : decode cX11_canonicalOfCut 71 = .ok (.aload_n 0, 1) := by decide +kernel
theorem dX11_canonicalOfCut_72 : decode cX11_canonicalOfCut 72 = .ok (.getfield 28, 3) := by decide +kernel
theorem dX11_canonicalOfCut_75 : decode cX11_canonicalOfCut 75 = .ok (.getfield 188, 3) := by decide +kernel
theorem dX11_canonicalOfCut_78 : decode cX11_canonicalOfCut 78 = .ok (.invokevirtual 212, 3) := by decide +kernel
theorem dX11_canonicalOfCut_81 : decode cX11_canonicalOfCut 81 = .ok (.lreturn, 1) := by decide +kernel
set_option maxHeartbeats 4000000 in
set_option maxRecDepth 100000 in
theorem cn_X11_canonicalOfCut {l : Launch} {cA : Nat → ClassId} {ad : Nat → Nat} {D : va_G} {E : Nat → Nat} {A : Nat → Prop} {x1 : Int32} {x2 : Int32} {s0 sr : SS} {rr : Int64} (hf : f_X11_canonicalOfCut x1 x2 s0 = some (rr, sr)) : zCon Ox Nx cA ad D E l yX11_canonicalOfCut cX11_canonicalOfCut 4 (some .long) 5 A [.ref (ad 0), .int x1, .int x2] s0 (some (.long rr)) sr := by
  refine zstart (own := RX11) hOx (by decide) rfl (Nat.le_of_ble_eq_true rfl) ?_
  intro p e s m args below meth c X hP ls hl
  have hx := X.1
  have hb := X.2.1
  have hl : lv_has ls 4 [(0, .ref (ad 0)), (1, .int x1), (2, .int x2)] := hl
  have hS : va_S A s.heap s.heap [] := va_S.rf
  have hc_35 : ∀ (n35 : Nat) (x2 : Int32) (x3 : Int32) (s1 : SS) (H : Heap) (locs : List Loc) (ls : Array Slot), lv_has ls 4 [(0, .ref (ad 0)), (2, .int x2), (3, .int x3)] → va_P D ZCL (zw Ox Nx cA ad s1) H → va_S A s.heap H locs → f_X11_canonicalOfCut_c35 n35 x2 x3 s1 = some (rr, sr) → W p l e (zrm 5) s m args below meth c H locs 0 0 (MQ below (zQc Ox Nx cA ad D A (some (.long rr)) sr) args s 0 0 A) (F0 m 35 ls []) := by
    intro n35
    induction n35 with
    | zero =>
      intro x2 x3 s1 H locs ls hl hP hS hf
      rw [f_X11_canonicalOfCut_c35] at hf
      cases hf
    | succ n35 ih35 =>
      intro x2 x3 s1 H locs ls hl hP hS hf
      rw [f_X11_canonicalOfCut_c35] at hf
      refine lv_iload_n hx hb dX11_canonicalOfCut_35 rfl (lv_at hl 2 rfl) ?_
      refine lv_iload_n hx hb dX11_canonicalOfCut_36 rfl (lv_at hl 1 rfl) ?_
      refine zicmp_ge (tgt := 67) hx hb dX11_canonicalOfCut_37 (by decide) hf (fun hf => ?_) (fun hf => ?_)
      · refine lv_aload_n hx hb dX11_canonicalOfCut_67 rfl (lv_at hl 0 rfl) ?_
        refine gf_X11_28 X hP (k := 0) (q := 5) rfl dX11_canonicalOfCut_68 rfl ?_
        refine lv_aload_n hx hb dX11_canonicalOfCut_71 rfl (lv_at hl 0 rfl) ?_
        refine gf_X11_28 X hP (k := 0) (q := 5) rfl dX11_canonicalOfCut_72 rfl ?_
        refine gf_X11_188 X hP (k := 5) (q := 21) rfl dX11_canonicalOfCut_75 rfl ?_
        obtain ⟨r7, s8, h9, hf⟩ := zbd_some hf
        refine zcallV X hP hS hl.1 (k := 5) (As := [.ref (ad 21)]) (rest := []) (cn_X8_metOf h9) cw_X8_metOf zp_8 rfl (by decide) rfl ml_X11_212 (by decide) rfl rfl (Nat.le_of_ble_eq_true rfl) dX11_canonicalOfCut_78 (fun H locs hP hS => ?_)
        exact zret_l X hP hS hf dX11_canonicalOfCut_81
      · refine lv_aload_n hx hb dX11_canonicalOfCut_40 rfl (lv_at hl 0 rfl) ?_
        refine gf_X11_28 X hP (k := 0) (q := 5) rfl dX11_canonicalOfCut_41 rfl ?_
        refine lv_aload_n hx hb dX11_canonicalOfCut_44 rfl (lv_at hl 0 rfl) ?_
        refine gf_X11_28 X hP (k := 0) (q := 5) rfl dX11_canonicalOfCut_45 rfl ?_
        refine gf_X11_188 X hP (k := 5) (q := 21) rfl dX11_canonicalOfCut_48 rfl ?_
        refine lv_aload_n hx hb dX11_canonicalOfCut_51 rfl (lv_at hl 0 rfl) ?_
        refine gf_X11_28 X hP (k := 0) (q := 5) rfl dX11_canonicalOfCut_52 rfl ?_
        refine gf_X11_233 X hP (k := 5) (q := 22) rfl dX11_canonicalOfCut_55 rfl ?_
        obtain ⟨r10, s11, h12, hf⟩ := zbd_some hf
        refine zcallV X hP hS hl.1 (k := 5) (As := [.ref (ad 21), .ref (ad 22)]) (rest := []) (cn_X8_multiply h12) cw_X8_multiply zp_8 rfl (by decide) rfl ml_X11_276 (by decide) rfl rfl (Nat.le_of_ble_eq_true rfl) dX11_canonicalOfCut_58 (fun H locs hP hS => ?_)
        refine lv_iinc (v := (x3 + 1)) (lv' := [(3, .int (x3 + 1)), (0, .ref (ad 0)), (2, .int x2)]) hx hb dX11_canonicalOfCut_61 hl (k := 2) rfl rfl (by decide) rfl (fun ls hl => ?_)
        refine lv_goto (tgt := 35) hx hb dX11_canonicalOfCut_64 (by decide) ?_
        exact ih35 x2 (x3 + 1) s11 _ _ _ (lv_sub hl [1, 2, 0] rfl) hP hS hf
  rw [f_X11_canonicalOfCut] at hf
  refine lv_aload_n hx hb dX11_canonicalOfCut_0 rfl (lv_at hl 0 rfl) ?_
  refine lv_iload_n hx hb dX11_canonicalOfCut_1 rfl (lv_at hl 1 rfl) ?_
  obtain ⟨r1, s2, h3, hf⟩ := zbd_some hf
  refine zcallV X hP hS hl.1 (k := 0) (As := [.int x1]) (rest := []) (cn_X11_multiplyListed h3) cw_X11_multiplyListed zp_11 rfl (by decide) rfl ml_X11_224 (by decide) rfl rfl (Nat.le_of_ble_eq_true rfl) dX11_canonicalOfCut_2 (fun H locs hP hS => ?_)
  refine zif_ne (tgt := 12) hx hb dX11_canonicalOfCut_5 (by decide) hf (fun hf => ?_) (fun hf => ?_)
  · refine lv_aload_n hx hb dX11_canonicalOfCut_12 rfl (lv_at hl 0 rfl) ?_
    refine gf_X11_28 X hP (k := 0) (q := 5) rfl dX11_canonicalOfCut_13 rfl ?_
    refine lv_aload_n hx hb dX11_canonicalOfCut_16 rfl (lv_at hl 0 rfl) ?_
    refine gf_X11_12 X hP (k := 0) (q := 1) rfl dX11_canonicalOfCut_17 rfl ?_
    refine gf_X11_74 X hP (k := 1) (q := 3) rfl dX11_canonicalOfCut_20 rfl ?_
    refine lv_aload_n hx hb dX11_canonicalOfCut_23 rfl (lv_at hl 0 rfl) ?_
    refine gf_X11_28 X hP (k := 0) (q := 5) rfl dX11_canonicalOfCut_24 rfl ?_
    refine gf_X11_233 X hP (k := 5) (q := 22) rfl dX11_canonicalOfCut_27 rfl ?_
    obtain ⟨r4, s5, h6, hf⟩ := zbd_some hf
    refine zcallV X hP hS hl.1 (k := 5) (As := [.ref (ad 3), .ref (ad 22)]) (rest := []) (cn_X8_makeCanonical h6) cw_X8_makeCanonical zp_8 rfl (by decide) rfl ml_X11_191 (by decide) rfl rfl (Nat.le_of_ble_eq_true rfl) dX11_canonicalOfCut_30 (fun H locs hP hS => ?_)
    refine lv_iconst (v := 0) hx hb dX11_canonicalOfCut_33 (by decide) ?_
    refine lv_istore_n (lv' := [(3, .int 0), (0, .ref (ad 0)), (1, .int x1), (2, .int x2)]) hx hb dX11_canonicalOfCut_34 rfl hl (by decide) rfl (fun ls hl => ?_)
    exact hc_35 ZF x2 0 s5 _ _ _ (lv_sub hl [1, 3, 0] rfl) hP hS hf
  · refine zldc2 X co_X11_227 dX11_canonicalOfCut_8 ?_
    exact zret_l X hP hS hf dX11_canonicalOfCut_11
theorem dX11_eulerOfCut_0 : decode cX11_eulerOfCut 0 = .ok (.aload_n 0, 1) := by decide +kernel
theorem dX11_eulerOfCut_1 : decode cX11_eulerOfCut 1 = .ok (.iload_n 1, 1) := by decide +kernel
theorem dX11_eulerOfCut_2 : decode cX11_eulerOfCut 2 = .ok (.invokevirtual 224, 3) := by decide +kernel
theorem dX11_eulerOfCut_5 : decode cX11_eulerOfCut 5 = .ok (.ifCond .ne 7, 3) := by decide +kernel
theorem dX11_eulerOfCut_8 : decode cX11_eulerOfCut 8 = .ok (.ldc2_w 227, 3) := by decide +kernel
theorem dX11_eulerOfCut_11 : decode cX11_eulerOfCut 11 = .ok (.lreturn, 1) := by decide +kernel
theorem dX11_eulerOfCut_12 : decode cX11_eulerOfCut 12 = .ok (.aload_n 0, 1) := by decide +kernel
theorem dX11_eulerOfCut_13 : decode cX11_eulerOfCut 13 = .ok (.getfield 28, 3) := by decide +kernel
theorem dX11_eulerOfCut_16 : decode cX11_eulerOfCut 16 = .ok (.aload_n 0, 1) := by decide +kernel
theorem dX11_eulerOfCut_17 : decode cX11_eulerOfCut 17 = .ok (.getfield 12, 3) := by decide +kernel
theorem dX11_eulerOfCut_20 : decode cX11_eulerOfCut 20 = .ok (.getfield 74, 3) := by decide +kernel
theorem dX11_eulerOfCut_23 : decode cX11_eulerOfCut 23 = .ok (.invokevirtual 255, 3) := by decide +kernel
theorem dX11_eulerOfCut_26 : decode cX11_eulerOfCut 26 = .ok (.iconst 0, 1) := by decide +kernel
theorem dX11_eulerOfCut_27 : decode cX11_eulerOfCut 27 = .ok (.istore_n 3, 1) := by decide +kernel
theorem dX11_eulerOfCut_28 : decode cX11_eulerOfCut 28 = .ok (.iload_n 3, 1) := by decide +kernel
theorem dX11_eulerOfCut_29 : decode cX11_eulerOfCut 29 = .ok (.aload_n 0, 1) := by decide +kernel
theorem dX11_eulerOfCut_30 : decode cX11_eulerOfCut 30 = .ok (.getfield 63, 3) := by decide +kernel
theorem dX11_eulerOfCut_33 : decode cX11_eulerOfCut 33 = .ok (.iload_n 1, 1) := by decide +kernel
theorem dX11_eulerOfCut_34 : decode cX11_eulerOfCut 34 = .ok (.invokevirtual 244, 3) := by decide +kernel
theorem dX11_eulerOfCut_37 : decode cX11_eulerOfCut 37 = .ok (.if_icmp .ge 62, 3) := by decide +kernel
theorem dX11_eulerOfCut_40 : decode cX11_eulerOfCut 40 = .ok (.aload_n 0, 1) := by decide +kernel
theorem dX11_eulerOfCut_41 : decode cX11_eulerOfCut 41 = .ok (.getfield 12, 3) := by decide +kernel
theorem dX11_eulerOfCut_44 : decode cX11_eulerOfCut 44 = .ok (.aload_n 0, 1) := by decide +kernel
theorem dX11_eulerOfCut_45 : decode cX11_eulerOfCut 45 = .ok (.getfield 63, 3) := by decide +kernel
theorem dX11_eulerOfCut_48 : decode cX11_eulerOfCut 48 = .ok (.iload_n 1, 1) := by decide +kernel
theorem dX11_eulerOfCut_49 : decode cX11_eulerOfCut 49 = .ok (.iload_n 3, 1) := by decide +kernel
theorem dX11_eulerOfCut_50 : decode cX11_eulerOfCut 50 = .ok (.invokevirtual 247, 3) := by decide +kernel
theorem dX11_eulerOfCut_53 : decode cX11_eulerOfCut 53 = .ok (.invokevirtual 155, 3) := by decide +kernel
theorem dX11_eulerOfCut_56 : decode cX11_eulerOfCut 56 = .ok (.astore 4, 2) := by decide +kernel
theorem dX11_eulerOfCut_58 : decode cX11_eulerOfCut 58 = .ok (.aload 4, 2) := by decide +kernel
theorem dX11_eulerOfCut_60 : decode cX11_eulerOfCut 60 = .ok (.ifnull 33, 3) := by decide +kernel
theorem dX11_eulerOfCut_63 : decode cX11_eulerOfCut 63 = .ok (.aload_n 0, 1) := by decide +kernel
theorem dX11_eulerOfCut_64 : decode cX11_eulerOfCut 64 = .ok (.getfield 28, 3) := by decide +kernel
theorem dX11_eulerOfCut_67 : decode cX11_eulerOfCut 67 = .ok (.aload 4, 2) := by decide +kernel
theorem dX11_eulerOfCut_69 : decode cX11_eulerOfCut 69 = .ok (.aload_n 0, 1) := by decide +kernel
theorem dX11_eulerOfCut_70 : decode cX11_eulerOfCut 70 = .ok (.getfield 28, 3) := by decide +kernel
theorem dX11_eulerOfCut_73 : decode cX11_eulerOfCut 73 = .ok (.getfield 233, 3) := by decide +kernel
theorem dX11_eulerOfCut_76 : decode cX11_eulerOfCut 76 = .ok (.invokevirtual 208, 3) := by decide +kernel
theorem dX11_eulerOfCut_79 : decode cX11_eulerOfCut 79 = .ok (.aload_n 0, 1) := by decide +kernel
theorem dX11_eulerOfCut_80 : decode cX11_eulerOfCut 80 = .ok (.getfield 28, 3) := by decide +kernel
theorem dX11_eulerOfCut_83 : decode cX11_eulerOfCut 83 = .ok (.aload_n 0, 1) := by decide +kernel
theorem dX11_eulerOfCut_84 : decode cX11_eulerOfCut 84 = .ok (.getfield 28, 3) := by decide +kernel
theorem dX11_eulerOfCut_87 : decode cX11_eulerOfCut 87 = .ok (.getfield 233, 3) := by decide +kernel
theorem dX11_eulerOfCut_90 : decode cX11_eulerOfCut 90 = .ok (.invokevirtual 280, 3) := by decide +kernel
theorem dX11_eulerOfCut_93 : decode cX11_eulerOfCut 93 = .ok (.iinc 3 1, 3) := by decide +kernel
theorem dX11_eulerOfCut_96 : decode cX11_eulerOfCut 96 = .ok (.goto (-68), 3) := by decide +kernel
theorem dX11_eulerOfCut_99 : decode cX11_eulerOfCut 99 = .ok (.aload_n 0, 1) := by decide +kernel
theorem dX11_eulerOfCut_100 : decode cX11_eulerOfCut 100 = .ok (.getfield 28, 3) := by decide +kernel
theorem dX11_eulerOfCut_103 : decode cX11_eulerOfCut 103 = .ok (.aload_n 0, 1) := by decide +kernel
theorem dX11_eulerOfCut_104 : decode cX11_eulerOfCut 104 = .ok (.getfield 28, 3) := by decide +kernel
theorem dX11_eulerOfCut_107 : decode cX11_eulerOfCut 107 = .ok (.getfield 258, 3) := by decide +kernel
theorem dX11_eulerOfCut_110 : decode cX11_eulerOfCut 110 = .ok (.iload_n 2, 1) := by decide +kernel
theorem dX11_eulerOfCut_111 : decode cX11_eulerOfCut 111 = .ok (.invokevirtual 283, 3) := by decide +kernel
theorem dX11_eulerOfCut_114 : decode cX11_eulerOfCut 114 = .ok (.aload_n 0, 1) := by decide +kernel
theorem dX11_eulerOfCut_115 : decode cX11_eulerOfCut 115 = .ok (.getfield 28, 3) := by decide +kernel
theorem dX11_eulerOfCut_118 : decode cX11_eulerOfCut 118 = .ok (.aload_n 0, 1) := by decide +kernel
theorem dX11_eulerOfCut_119 : decode cX11_eulerOfCut 119 = .ok (.getfield 28, 3) := by decide +kernel
theorem dX11_eulerOfCut_122 : decode cX11_eulerOfCut 122 = .ok (.getfield 188, 3) := by decide +kernel
theorem dX11_eulerOfCut_125 : decode cX11_eulerOfCut 125 = .ok (.aload_n 0, 1) := by decide +kernel
theorem dX11_eulerOfCut_126 : decode cX11_eulerOfCut 126 = .ok (.getfield 28, 3) := by decide +kernel
theorem dX11_eulerOfCut_129 : decode cX11_eulerOfCut 129 = .ok (.getfield 258, 3) := by decide +kernel
theorem dX11_eulerOfCut_132 : decode cX11_eulerOfCut 132 = .ok (.invokevirtual 276, 3) := by decide +kernel
theorem dX11_eulerOfCut_135 : decode cX11_eulerOfCut 135 = .ok (.aload_n 0, 1) := by decide +kernel
theorem dX11_eulerOfCut_136 : decode cX11_eulerOfCut 136 = .ok (.getfield 28, 3) := by decide +kernel
theorem dX11_eulerOfCut_139 : decode cX11_eulerOfCut 139 = .ok (.aload_n 0, 1) := by decide +kernel
theorem dX11_eulerOfCut_140 : decode cX11_eulerOfCut 140 = .ok (.getfield 28, 3) := by decide +kernel
theorem dX11_eulerOfCut_143 : decode cX11_eulerOfCut 143 = .ok (.getfield 188, 3) := by decide +kernel
theorem dX11_eulerOfCut_146 : decode cX11_eulerOfCut 146 = .ok (.invokevirtual 212, 3) := by decide +kernel
theorem dX11_eulerOfCut_149 : decode cX11_eulerOfCut 149 = .ok (.lreturn, 1) := by decide +kernel
set_option maxHeartbeats 4000000 in
set_option maxRecDepth 100000 in
theorem cn_X11_eulerOfCut {l : Launch} {cA : Nat → ClassId} {ad : Nat → Nat} {D : va_G} {E : Nat → Nat} {A : Nat → Prop} {x1 : Int32} {x2 : Int32} {s0 sr : SS} {rr : Int64} (hf : f_X11_eulerOfCut x1 x2 s0 = some (rr, sr)) : zCon Ox Nx cA ad D E l yX11_eulerOfCut cX11_eulerOfCut 5 (some .long) 5 A [.ref (ad 0), .int x1, .int x2] s0 (some (.long rr)) sr := by
  refine zstart (own := RX11) hOx (by decide) rfl (Nat.le_of_ble_eq_true rfl) ?_
  intro p e s m args below meth c X hP ls hl
  have hx := X.1
  have hb := X.2.1
  have hl : lv_has ls 5 [(0, .ref (ad 0)), (1, .int x1), (2, .int x2)] := hl
  have hS : va_S A s.heap s.heap [] := va_S.rf
  have hc_28 : ∀ (n28 : Nat) (x1 : Int32) (x2 : Int32) (x3 : Int32) (s1 : SS) (H : Heap) (locs : List Loc) (ls : Array Slot), lv_has ls 5 [(0, .ref (ad 0)), (1, .int x1), (2, .int x2), (3, .int x3)] → va_P D ZCL (zw Ox Nx cA ad s1) H → va_S A s.heap H locs → f_X11_eulerOfCut_c28 n28 x1 x2 x3 s1 = some (rr, sr) → W p l e (zrm 5) s m args below meth c H locs 0 0 (MQ below (zQc Ox Nx cA ad D A (some (.long rr)) sr) args s 0 0 A) (F0 m 28 ls []) := by
    intro n28
    induction n28 with
    | zero =>
      intro x1 x2 x3 s1 H locs ls hl hP hS hf
      rw [f_X11_eulerOfCut_c28] at hf
      cases hf
    | succ n28 ih28 =>
      have hc_93 : ∀ (x1 : Int32) (x2 : Int32) (x3 : Int32) (s1 : SS) (H : Heap) (locs : List Loc) (ls : Array Slot), lv_has ls 5 [(0, .ref (ad 0)), (1, .int x1), (2, .int x2), (3, .int x3)] → va_P D ZCL (zw Ox Nx cA ad s1) H → va_S A s.heap H locs → f_X11_eulerOfCut_c93 (f_X11_eulerOfCut_c28 n28) x1 x2 x3 s1 = some (rr, sr) → W p l e (zrm 5) s m args below meth c H locs 0 0 (MQ below (zQc Ox Nx cA ad D A (some (.long rr)) sr) args s 0 0 A) (F0 m 93 ls []) := by
        intro x1 x2 x3 s1 H locs ls hl hP hS hf
        rw [f_X11_eulerOfCut_c93] at hf
        refine lv_iinc (v := (x3 + 1)) (lv' := [(3, .int (x3 + 1)), (0, .ref (ad 0)), (1, .int x1), (2, .int x2)]) hx hb dX11_eulerOfCut_93 hl (k := 3) rfl rfl (by decide) rfl (fun ls hl => ?_)
        refine lv_goto (tgt := 28) hx hb dX11_eulerOfCut_96 (by decide) ?_
        exact ih28 x1 x2 (x3 + 1) s1 _ _ _ (lv_sub hl [1, 2, 3, 0] rfl) hP hS hf
      intro x1 x2 x3 s1 H locs ls hl hP hS hf
      rw [f_X11_eulerOfCut_c28] at hf
      refine lv_iload_n hx hb dX11_eulerOfCut_28 rfl (lv_at hl 3 rfl) ?_
      refine lv_aload_n hx hb dX11_eulerOfCut_29 rfl (lv_at hl 0 rfl) ?_
      refine gf_X11_63 X hP (k := 0) (q := 11) rfl dX11_eulerOfCut_30 rfl ?_
      refine lv_iload_n hx hb dX11_eulerOfCut_33 rfl (lv_at hl 1 rfl) ?_
      obtain ⟨r7, s8, h9, hf⟩ := zbd_some hf
      refine zcallV X hP hS hl.1 (k := 11) (As := [.int x1]) (rest := [.int x3]) (cn_X5_sizeOf h9) cw_X5_sizeOf zp_5 rfl (by decide) rfl ml_X11_244 (by decide) rfl rfl (Nat.le_of_ble_eq_true rfl) dX11_eulerOfCut_34 (fun H locs hP hS => ?_)
      refine zicmp_ge (tgt := 99) hx hb dX11_eulerOfCut_37 (by decide) hf (fun hf => ?_) (fun hf => ?_)
      · refine lv_aload_n hx hb dX11_eulerOfCut_99 rfl (lv_at hl 0 rfl) ?_
        refine gf_X11_28 X hP (k := 0) (q := 5) rfl dX11_eulerOfCut_100 rfl ?_
        refine lv_aload_n hx hb dX11_eulerOfCut_103 rfl (lv_at hl 0 rfl) ?_
        refine gf_X11_28 X hP (k := 0) (q := 5) rfl dX11_eulerOfCut_104 rfl ?_
        refine gf_X11_258 X hP (k := 5) (q := 23) rfl dX11_eulerOfCut_107 rfl ?_
        refine lv_iload_n hx hb dX11_eulerOfCut_110 rfl (lv_at hl 2 rfl) ?_
        obtain ⟨r10, s11, h12, hf⟩ := zbd_some hf
        refine zcallV X hP hS hl.1 (k := 5) (As := [.ref (ad 23), .int x2]) (rest := []) (cn_X8_keepSize h12) cw_X8_keepSize zp_8 rfl (by decide) rfl ml_X11_283 (by decide) rfl rfl (Nat.le_of_ble_eq_true rfl) dX11_eulerOfCut_111 (fun H locs hP hS => ?_)
        refine lv_aload_n hx hb dX11_eulerOfCut_114 rfl (lv_at hl 0 rfl) ?_
        refine gf_X11_28 X hP (k := 0) (q := 5) rfl dX11_eulerOfCut_115 rfl ?_
        refine lv_aload_n hx hb dX11_eulerOfCut_118 rfl (lv_at hl 0 rfl) ?_
        refine gf_X11_28 X hP (k := 0) (q := 5) rfl dX11_eulerOfCut_119 rfl ?_
        refine gf_X11_188 X hP (k := 5) (q := 21) rfl dX11_eulerOfCut_122 rfl ?_
        refine lv_aload_n hx hb dX11_eulerOfCut_125 rfl (lv_at hl 0 rfl) ?_
        refine gf_X11_28 X hP (k := 0) (q := 5) rfl dX11_eulerOfCut_126 rfl ?_
        refine gf_X11_258 X hP (k := 5) (q := 23) rfl dX11_eulerOfCut_129 rfl ?_
        obtain ⟨r13, s14, h15, hf⟩ := zbd_some hf
        refine zcallV X hP hS hl.1 (k := 5) (As := [.ref (ad 21), .ref (ad 23)]) (rest := []) (cn_X8_multiply h15) cw_X8_multiply zp_8 rfl (by decide) rfl ml_X11_276 (by decide) rfl rfl (Nat.le_of_ble_eq_true rfl) dX11_eulerOfCut_132 (fun H locs hP hS => ?_)
        refine lv_aload_n hx hb dX11_eulerOfCut_135 rfl (lv_at hl 0 rfl) ?_
        refine gf_X11_28 X hP (k := 0) (q := 5) rfl dX11_eulerOfCut_136 rfl ?_
        refine lv_aload_n hx hb dX11_eulerOfCut_139 rfl (lv_at hl 0 rfl) ?_
        refine gf_X11_28 X hP (k := 0) (q := 5) rfl dX11_eulerOfCut_140 rfl ?_
        refine gf_X11_188 X hP (k := 5) (q := 21) rfl dX11_eulerOfCut_143 rfl ?_
        obtain ⟨r16, s17, h18, hf⟩ := zbd_some hf
        refine zcallV X hP hS hl.1 (k := 5) (As := [.ref (ad 21)]) (rest := []) (cn_X8_metOf h18) cw_X8_metOf zp_8 rfl (by decide) rfl ml_X11_212 (by decide) rfl rfl (Nat.le_of_ble_eq_true rfl) dX11_eulerOfCut_146 (fun H locs hP hS => ?_)
        exact zret_l X hP hS hf dX11_eulerOfCut_149
      · refine lv_aload_n hx hb dX11_eulerOfCut_40 rfl (lv_at hl 0 rfl) ?_
        refine gf_X11_12 X hP (k := 0) (q := 1) rfl dX11_eulerOfCut_41 rfl ?_
        refine lv_aload_n hx hb dX11_eulerOfCut_44 rfl (lv_at hl 0 rfl) ?_
        refine gf_X11_63 X hP (k := 0) (q := 11) rfl dX11_eulerOfCut_45 rfl ?_
        refine lv_iload_n hx hb dX11_eulerOfCut_48 rfl (lv_at hl 1 rfl) ?_
        refine lv_iload_n hx hb dX11_eulerOfCut_49 rfl (lv_at hl 3 rfl) ?_
        obtain ⟨r19, s20, h21, hf⟩ := zbd_some hf
        refine zcallV X hP hS hl.1 (k := 11) (As := [.int x1, .int x3]) (rest := [.ref (ad 1)]) (cn_X5_valueAt h21) cw_X5_valueAt zp_5 rfl (by decide) rfl ml_X11_247 (by decide) rfl rfl (Nat.le_of_ble_eq_true rfl) dX11_eulerOfCut_50 (fun H locs hP hS => ?_)
        obtain ⟨r22, s23, h24, hf⟩ := zbd_some hf
        refine zcallV X hP hS hl.1 (k := 1) (As := [.long r19]) (rest := []) (cn_X3_classAt h24) cw_X3_classAt zp_3 rfl (by decide) rfl ml_X11_155 (by decide) rfl rfl (Nat.le_of_ble_eq_true rfl) dX11_eulerOfCut_53 (fun H locs hP hS => ?_)
        rcases r22 with _ | k25
        · have hf := zbn_none hf
          refine lv_astoreN (lv' := [(4, .null), (0, .ref (ad 0)), (1, .int x1), (2, .int x2), (3, .int x3)]) hx hb dX11_eulerOfCut_56 hl (by decide) rfl (fun ls hl => ?_)
          refine lv_aloadN hx hb dX11_eulerOfCut_58 (lv_at hl 0 rfl) ?_
          refine lv_ifnullN (tgt := 93) hx hb dX11_eulerOfCut_60 (by decide) ?_
          exact hc_93 x1 x2 x3 s23 _ _ _ (lv_sub hl [1, 2, 3, 4] rfl) hP hS hf
        · have hf := zbn_some hf
          obtain ⟨g26, hf⟩ := zgd hf
          refine lv_astore (lv' := [(4, .ref (ad k25)), (0, .ref (ad 0)), (1, .int x1), (2, .int x2), (3, .int x3)]) hx hb dX11_eulerOfCut_56 hl (by decide) rfl (fun ls hl => ?_)
          refine lv_aload hx hb dX11_eulerOfCut_58 (lv_at hl 0 rfl) ?_
          refine lv_ifnull hx hb dX11_eulerOfCut_60 ?_
          refine lv_aload_n hx hb dX11_eulerOfCut_63 rfl (lv_at hl 1 rfl) ?_
          refine gf_X11_28 X hP (k := 0) (q := 5) rfl dX11_eulerOfCut_64 rfl ?_
          refine lv_aload hx hb dX11_eulerOfCut_67 (lv_at hl 0 rfl) ?_
          refine lv_aload_n hx hb dX11_eulerOfCut_69 rfl (lv_at hl 1 rfl) ?_
          refine gf_X11_28 X hP (k := 0) (q := 5) rfl dX11_eulerOfCut_70 rfl ?_
          refine gf_X11_233 X hP (k := 5) (q := 22) rfl dX11_eulerOfCut_73 rfl ?_
          obtain ⟨r27, s28, h29, hf⟩ := zbd_some hf
          refine zcallV X hP hS hl.1 (k := 5) (As := [.ref (ad k25), .ref (ad 22)]) (rest := []) (cn_X8_takeNumbers h29) cw_X8_takeNumbers zp_8 rfl (by decide) rfl ml_X11_208 (by decide) rfl rfl (Nat.le_of_ble_eq_true rfl) dX11_eulerOfCut_76 (fun H locs hP hS => ?_)
          refine lv_aload_n hx hb dX11_eulerOfCut_79 rfl (lv_at hl 1 rfl) ?_
          refine gf_X11_28 X hP (k := 0) (q := 5) rfl dX11_eulerOfCut_80 rfl ?_
          refine lv_aload_n hx hb dX11_eulerOfCut_83 rfl (lv_at hl 1 rfl) ?_
          refine gf_X11_28 X hP (k := 0) (q := 5) rfl dX11_eulerOfCut_84 rfl ?_
          refine gf_X11_233 X hP (k := 5) (q := 22) rfl dX11_eulerOfCut_87 rfl ?_
          obtain ⟨r30, s31, h32, hf⟩ := zbd_some hf
          refine zcallV X hP hS hl.1 (k := 5) (As := [.ref (ad 22)]) (rest := []) (cn_X8_divideChern h32) cw_X8_divideChern zp_8 rfl (by decide) rfl ml_X11_280 (by decide) rfl rfl (Nat.le_of_ble_eq_true rfl) dX11_eulerOfCut_90 (fun H locs hP hS => ?_)
          exact hc_93 x1 x2 x3 s31 _ _ _ (lv_sub hl [1, 2, 3, 4] rfl) hP hS hf
  rw [f_X11_eulerOfCut] at hf
  refine lv_aload_n hx hb dX11_eulerOfCut_0 rfl (lv_at hl 0 rfl) ?_
  refine lv_iload_n hx hb dX11_eulerOfCut_1 rfl (lv_at hl 1 rfl) ?_
  obtain ⟨r1, s2, h3, hf⟩ := zbd_some hf
  refine zcallV X hP hS hl.1 (k := 0) (As := [.int x1]) (rest := []) (cn_X11_multiplyListed h3) cw_X11_multiplyListed zp_11 rfl (by decide) rfl ml_X11_224 (by decide) rfl rfl (Nat.le_of_ble_eq_true rfl) dX11_eulerOfCut_2 (fun H locs hP hS => ?_)
  refine zif_ne (tgt := 12) hx hb dX11_eulerOfCut_5 (by decide) hf (fun hf => ?_) (fun hf => ?_)
  · refine lv_aload_n hx hb dX11_eulerOfCut_12 rfl (lv_at hl 0 rfl) ?_
    refine gf_X11_28 X hP (k := 0) (q := 5) rfl dX11_eulerOfCut_13 rfl ?_
    refine lv_aload_n hx hb dX11_eulerOfCut_16 rfl (lv_at hl 0 rfl) ?_
    refine gf_X11_12 X hP (k := 0) (q := 1) rfl dX11_eulerOfCut_17 rfl ?_
    refine gf_X11_74 X hP (k := 1) (q := 3) rfl dX11_eulerOfCut_20 rfl ?_
    obtain ⟨r4, s5, h6, hf⟩ := zbd_some hf
    refine zcallV X hP hS hl.1 (k := 5) (As := [.ref (ad 3)]) (rest := []) (cn_X8_makeChern h6) cw_X8_makeChern zp_8 rfl (by decide) rfl ml_X11_255 (by decide) rfl rfl (Nat.le_of_ble_eq_true rfl) dX11_eulerOfCut_23 (fun H locs hP hS => ?_)
    refine lv_iconst (v := 0) hx hb dX11_eulerOfCut_26 (by decide) ?_
    refine lv_istore_n (lv' := [(3, .int 0), (0, .ref (ad 0)), (1, .int x1), (2, .int x2)]) hx hb dX11_eulerOfCut_27 rfl hl (by decide) rfl (fun ls hl => ?_)
    exact hc_28 ZF x1 x2 0 s5 _ _ _ (lv_sub hl [1, 2, 3, 0] rfl) hP hS hf
  · refine zldc2 X co_X11_227 dX11_eulerOfCut_8 ?_
    exact zret_l X hP hS hf dX11_eulerOfCut_11
theorem dX11_cutOut_0 : decode cX11_cutOut 0 = .ok (.iload_n 2, 1) := by decide +kernel
theorem dX11_cutOut_1 : decode cX11_cutOut 1 = .ok (.ifCond .lt 19, 3) := by decide +kernel
theorem dX11_cutOut_4 : decode cX11_cutOut 4 = .ok (.iload_n 2, 1) := by decide +kernel
theorem dX11_cutOut_5 : decode cX11_cutOut 5 = .ok (.iconst 3, 1) := by decide +kernel
theorem dX11_cutOut_6 : decode cX11_cutOut 6 = .ok (.if_icmp .gt 14, 3) := by decide +kernel
theorem dX11_cutOut_9 : decode cX11_cutOut 9 = .ok (.aload_n 0, 1) := by decide +kernel
theorem dX11_cutOut_10 : decode cX11_cutOut 10 = .ok (.getfield 63, 3) := by decide +kernel
theorem dX11_cutOut_13 : decode cX11_cutOut 13 = .ok (.iload_n 1, 1) := by decide +kernel
theorem dX11_cutOut_14 : decode cX11_cutOut 14 = .ok (.invokevirtual 220, 3) := by decide +kernel
theorem dX11_cutOut_17 : decode cX11_cutOut 17 = .ok (.ifCond .ne 7, 3) := by decide +kernel
theorem dX11_cutOut_20 : decode cX11_cutOut 20 = .ok (.ldc2_w 132, 3) := by decide +kernel
theorem dX11_cutOut_23 : decode cX11_cutOut 23 = .ok (.lreturn, 1) := by decide +kernel
theorem dX11_cutOut_24 : decode cX11_cutOut 24 = .ok (.aload_n 0, 1) := by decide +kernel
theorem dX11_cutOut_25 : decode cX11_cutOut 25 = .ok (.getfield 12, 3) := by decide +kernel
theorem dX11_cutOut_28 : decode cX11_cutOut 28 = .ok (.getfield 74, 3) := by decide +kernel
theorem dX11_cutOut_31 : decode cX11_cutOut 31 = .ok (.invokevirtual 251, 3) := by decide +kernel
theorem dX11_cutOut_34 : decode cX11_cutOut 34 = .ok (.ifCond .eq 11, 3) := by decide +kernel
theorem dX11_cutOut_37 : decode cX11_cutOut 37 = .ok (.aload_n 0, 1) := by decide +kernel
theorem dX11_cutOut_38 : decode cX11_cutOut 38 = .ok (.iload_n 1, 1) := by decide +kernel
theorem dX11_cutOut_39 : decode cX11_cutOut 39 = .ok (.invokevirtual 261, 3) := by decide +kernel
theorem dX11_cutOut_42 : decode cX11_cutOut 42 = .ok (.ifCond .ne 7, 3) := by decide +kernel
theorem dX11_cutOut_45 : decode cX11_cutOut 45 = .ok (.ldc2_w 227, 3) := by decide +kernel
theorem dX11_cutOut_48 : decode cX11_cutOut 48 = .ok (.lreturn, 1) := by decide +kernel
theorem dX11_cutOut_49 : decode cX11_cutOut 49 = .ok (.aload_n 0, 1) := by decide +kernel
theorem dX11_cutOut_50 : decode cX11_cutOut 50 = .ok (.getfield 12, 3) := by decide +kernel
theorem dX11_cutOut_53 : decode cX11_cutOut 53 = .ok (.getfield 74, 3) := by decide +kernel
theorem dX11_cutOut_56 : decode cX11_cutOut 56 = .ok (.invokevirtual 115, 3) := by decide +kernel
theorem dX11_cutOut_59 : decode cX11_cutOut 59 = .ok (.aload_n 0, 1) := by decide +kernel
theorem dX11_cutOut_60 : decode cX11_cutOut 60 = .ok (.getfield 63, 3) := by decide +kernel
theorem dX11_cutOut_63 : decode cX11_cutOut 63 = .ok (.iload_n 1, 1) := by decide +kernel
theorem dX11_cutOut_64 : decode cX11_cutOut 64 = .ok (.invokevirtual 244, 3) := by decide +kernel
theorem dX11_cutOut_67 : decode cX11_cutOut 67 = .ok (.isub, 1) := by decide +kernel
theorem dX11_cutOut_68 : decode cX11_cutOut 68 = .ok (.istore_n 3, 1) := by decide +kernel
theorem dX11_cutOut_69 : decode cX11_cutOut 69 = .ok (.iload_n 2, 1) := by decide +kernel
theorem dX11_cutOut_70 : decode cX11_cutOut 70 = .ok (.tableswitch 43 0 2 #[26, 29, 36], 26) := by decide +kernel
theorem dX11_cutOut_96 : decode cX11_cutOut 96 = .ok (.iload_n 3, 1) := by decide +kernel
theorem dX11_cutOut_97 : decode cX11_cutOut 97 = .ok (.i2l, 1) := by decide +kernel
theorem dX11_cutOut_98 : decode cX11_cutOut 98 = .ok (.lreturn, 1) := by decide +kernel
theorem dX11_cutOut_99 : decode cX11_cutOut 99 = .ok (.aload_n 0, 1) := by decide +kernel
theorem dX11_cutOut_100 : decode cX11_cutOut 100 = .ok (.iload_n 1, 1) := by decide +kernel
theorem dX11_cutOut_101 : decode cX11_cutOut 101 = .ok (.iload_n 3, 1) := by decide +kernel
theorem dX11_cutOut_102 : decode cX11_cutOut 102 = .ok (.invokevirtual 264, 3) := by decide +kernel
theorem dX11_cutOut_105 : decode cX11_cutOut 105 = .ok (.lreturn, 1) := by decide +kernel
theorem dX11_cutOut_106 : decode cX11_cutOut 106 = .ok (.aload_n 0, 1) := by decide +kernel
theorem dX11_cutOut_107 : decode cX11_cutOut 107 = .ok (.iload_n 1, 1) := by decide +kernel
theorem dX11_cutOut_108 : decode cX11_cutOut 108 = .ok (.iload_n 3, 1) := by decide +kernel
theorem dX11_cutOut_109 : decode cX11_cutOut 109 = .ok (.invokevirtual 267, 3) := by decide +kernel
theorem dX11_cutOut_112 : decode cX11_cutOut 112 = .ok (.lreturn, 1) := by decide +kernel
theorem dX11_cutOut_113 : decode cX11_cutOut 113 = .ok (.iload_n 3, 1) := by decide +kernel
theorem dX11_cutOut_114 : decode cX11_cutOut 114 = .ok (.iconst 1, 1) := by decide +kernel
theorem dX11_cutOut_115 : decode cX11_cutOut 115 = .ok (.if_icmp .ne 18, 3) := by decide +kernel
theorem dX11_cutOut_118 : decode cX11_cutOut 118 = .ok (.lconst 1, 1) := by decide +kernel
theorem dX11_cutOut_119 : decode cX11_cutOut 119 = .ok (.aload_n 0, 1) := by decide +kernel
theorem dX11_cutOut_120 : decode cX11_cutOut 120 = .ok (.iload_n 1, 1) := by decide +kernel
theorem dX11_cutOut_121 : decode cX11_cutOut 121 = .ok (.iload_n 3, 1) := by decide +kernel
theorem dX11_cutOut_122 : decode cX11_cutOut 122 = .ok (.invokevirtual 267, 3) := by decide +kernel
theorem dX11_cutOut_125 : decode cX11_cutOut 125 = .ok (.ldc2_w 270, 3) := by decide +kernel
theorem dX11_cutOut_128 : decode cX11_cutOut 128 = .ok (.ldiv, 1) := by decide +kernel
theorem dX11_cutOut_129 : decode cX11_cutOut 129 = .ok (.lsub, 1) := by decide +kernel
theorem dX11_cutOut_130 : decode cX11_cutOut 130 = .ok (.goto 6, 3) := by decide +kernel
theorem dX11_cutOut_133 : decode cX11_cutOut 133 = .ok (.ldc2_w 227, 3) := by decide +kernel
theorem dX11_cutOut_136 : decode cX11_cutOut 136 = .ok (.lreturn, 1) := by decide +kernel
set_option maxHeartbeats 4000000 in
set_option maxRecDepth 100000 in
theorem cn_X11_cutOut {l : Launch} {cA : Nat → ClassId} {ad : Nat → Nat} {D : va_G} {E : Nat → Nat} {A : Nat → Prop} {x1 : Int32} {x2 : Int32} {s0 sr : SS} {rr : Int64} (hf : f_X11_cutOut x1 x2 s0 = some (rr, sr)) : zCon Ox Nx cA ad D E l yX11_cutOut cX11_cutOut 4 (some .long) 6 A [.ref (ad 0), .int x1, .int x2] s0 (some (.long rr)) sr := by
  refine zstart (own := RX11) hOx (by decide) rfl (Nat.le_of_ble_eq_true rfl) ?_
  intro p e s m args below meth c X hP ls hl
  have hx := X.1
  have hb := X.2.1
  have hl : lv_has ls 4 [(0, .ref (ad 0)), (1, .int x1), (2, .int x2)] := hl
  have hS : va_S A s.heap s.heap [] := va_S.rf
  rw [f_X11_cutOut] at hf
  refine lv_iload_n hx hb dX11_cutOut_0 rfl (lv_at hl 2 rfl) ?_
  refine zif_lt (tgt := 20) hx hb dX11_cutOut_1 (by decide) hf (fun hf => ?_) (fun hf => ?_)
  · refine zldc2 X co_X11_132 dX11_cutOut_20 ?_
    exact zret_l X hP hS hf dX11_cutOut_23
  · refine lv_iload_n hx hb dX11_cutOut_4 rfl (lv_at hl 2 rfl) ?_
    refine lv_iconst (v := 3) hx hb dX11_cutOut_5 (by decide) ?_
    refine zicmp_gt (tgt := 20) hx hb dX11_cutOut_6 (by decide) hf (fun hf => ?_) (fun hf => ?_)
    · refine zldc2 X co_X11_132 dX11_cutOut_20 ?_
      exact zret_l X hP hS hf dX11_cutOut_23
    · refine lv_aload_n hx hb dX11_cutOut_9 rfl (lv_at hl 0 rfl) ?_
      refine gf_X11_63 X hP (k := 0) (q := 11) rfl dX11_cutOut_10 rfl ?_
      refine lv_iload_n hx hb dX11_cutOut_13 rfl (lv_at hl 1 rfl) ?_
      obtain ⟨r1, s2, h3, hf⟩ := zbd_some hf
      refine zcallV X hP hS hl.1 (k := 11) (As := [.int x1]) (rest := []) (cn_X5_isThere h3) cw_X5_isThere zp_5 rfl (by decide) rfl ml_X11_220 (by decide) rfl rfl (Nat.le_of_ble_eq_true rfl) dX11_cutOut_14 (fun H locs hP hS => ?_)
      refine zif_ne (tgt := 24) hx hb dX11_cutOut_17 (by decide) hf (fun hf => ?_) (fun hf => ?_)
      · refine lv_aload_n hx hb dX11_cutOut_24 rfl (lv_at hl 0 rfl) ?_
        refine gf_X11_12 X hP (k := 0) (q := 1) rfl dX11_cutOut_25 rfl ?_
        refine gf_X11_74 X hP (k := 1) (q := 3) rfl dX11_cutOut_28 rfl ?_
        obtain ⟨r4, s5, h6, hf⟩ := zbd_some hf
        refine zcallV X hP hS hl.1 (k := 3) (As := []) (rest := []) (cn_X7_isBareProduct h6) cw_X7_isBareProduct zp_7 rfl (by decide) rfl ml_X11_251 (by decide) rfl rfl (Nat.le_of_ble_eq_true rfl) dX11_cutOut_31 (fun H locs hP hS => ?_)
        refine zif_eq (tgt := 45) hx hb dX11_cutOut_34 (by decide) hf (fun hf => ?_) (fun hf => ?_)
        · refine zldc2 X co_X11_227 dX11_cutOut_45 ?_
          exact zret_l X hP hS hf dX11_cutOut_48
        · refine lv_aload_n hx hb dX11_cutOut_37 rfl (lv_at hl 0 rfl) ?_
          refine lv_iload_n hx hb dX11_cutOut_38 rfl (lv_at hl 1 rfl) ?_
          obtain ⟨r7, s8, h9, hf⟩ := zbd_some hf
          refine zcallV X hP hS hl.1 (k := 0) (As := [.int x1]) (rest := []) (cn_X11_canCutOut h9) cw_X11_canCutOut zp_11 rfl (by decide) rfl ml_X11_261 (by decide) rfl rfl (Nat.le_of_ble_eq_true rfl) dX11_cutOut_39 (fun H locs hP hS => ?_)
          refine zif_ne (tgt := 49) hx hb dX11_cutOut_42 (by decide) hf (fun hf => ?_) (fun hf => ?_)
          · refine lv_aload_n hx hb dX11_cutOut_49 rfl (lv_at hl 0 rfl) ?_
            refine gf_X11_12 X hP (k := 0) (q := 1) rfl dX11_cutOut_50 rfl ?_
            refine gf_X11_74 X hP (k := 1) (q := 3) rfl dX11_cutOut_53 rfl ?_
            obtain ⟨r10, s11, h12, hf⟩ := zbd_some hf
            refine zcallV X hP hS hl.1 (k := 3) (As := []) (rest := []) (cn_X7_dimension h12) cw_X7_dimension zp_7 rfl (by decide) rfl ml_X11_115 (by decide) rfl rfl (Nat.le_of_ble_eq_true rfl) dX11_cutOut_56 (fun H locs hP hS => ?_)
            refine lv_aload_n hx hb dX11_cutOut_59 rfl (lv_at hl 0 rfl) ?_
            refine gf_X11_63 X hP (k := 0) (q := 11) rfl dX11_cutOut_60 rfl ?_
            refine lv_iload_n hx hb dX11_cutOut_63 rfl (lv_at hl 1 rfl) ?_
            obtain ⟨r13, s14, h15, hf⟩ := zbd_some hf
            refine zcallV X hP hS hl.1 (k := 11) (As := [.int x1]) (rest := [.int r10]) (cn_X5_sizeOf h15) cw_X5_sizeOf zp_5 rfl (by decide) rfl ml_X11_244 (by decide) rfl rfl (Nat.le_of_ble_eq_true rfl) dX11_cutOut_64 (fun H locs hP hS => ?_)
            refine lv_isub hx hb dX11_cutOut_67 ?_
            refine lv_istore_n (lv' := [(3, .int (r10 - r13)), (0, .ref (ad 0)), (1, .int x1), (2, .int x2)]) hx hb dX11_cutOut_68 rfl hl (by decide) rfl (fun ls hl => ?_)
            refine lv_iload_n hx hb dX11_cutOut_69 rfl (lv_at hl 3 rfl) ?_
            by_cases e16 : x2 = 0
            · rw [if_pos e16] at hf
              refine lv_tableIn (tgt := 96) (off := 26) hx hb dX11_cutOut_70 (by rw [e16]; decide) (by rw [e16]; decide) (by rw [e16]; decide +kernel) (by decide) ?_
              refine lv_iload_n hx hb dX11_cutOut_96 rfl (lv_at hl 0 rfl) ?_
              refine lv_i2l hx hb dX11_cutOut_97 rfl ?_
              exact zret_l X hP hS hf dX11_cutOut_98
            · rw [if_neg e16] at hf
              by_cases e17 : x2 = 1
              · rw [if_pos e17] at hf
                refine lv_tableIn (tgt := 99) (off := 29) hx hb dX11_cutOut_70 (by rw [e17]; decide) (by rw [e17]; decide) (by rw [e17]; decide +kernel) (by decide) ?_
                refine lv_aload_n hx hb dX11_cutOut_99 rfl (lv_at hl 1 rfl) ?_
                refine lv_iload_n hx hb dX11_cutOut_100 rfl (lv_at hl 2 rfl) ?_
                refine lv_iload_n hx hb dX11_cutOut_101 rfl (lv_at hl 0 rfl) ?_
                obtain ⟨r18, s19, h20, hf⟩ := zbd_some hf
                refine zcallV X hP hS hl.1 (k := 0) (As := [.int x1, .int (r10 - r13)]) (rest := []) (cn_X11_canonicalOfCut h20) cw_X11_canonicalOfCut zp_11 rfl (by decide) rfl ml_X11_264 (by decide) rfl rfl (Nat.le_of_ble_eq_true rfl) dX11_cutOut_102 (fun H locs hP hS => ?_)
                exact zret_l X hP hS hf dX11_cutOut_105
              · rw [if_neg e17] at hf
                by_cases e21 : x2 = 2
                · rw [if_pos e21] at hf
                  refine lv_tableIn (tgt := 106) (off := 36) hx hb dX11_cutOut_70 (by rw [e21]; decide) (by rw [e21]; decide) (by rw [e21]; decide +kernel) (by decide) ?_
                  refine lv_aload_n hx hb dX11_cutOut_106 rfl (lv_at hl 1 rfl) ?_
                  refine lv_iload_n hx hb dX11_cutOut_107 rfl (lv_at hl 2 rfl) ?_
                  refine lv_iload_n hx hb dX11_cutOut_108 rfl (lv_at hl 0 rfl) ?_
                  obtain ⟨r22, s23, h24, hf⟩ := zbd_some hf
                  refine zcallV X hP hS hl.1 (k := 0) (As := [.int x1, .int (r10 - r13)]) (rest := []) (cn_X11_eulerOfCut h24) cw_X11_eulerOfCut zp_11 rfl (by decide) rfl ml_X11_267 (by decide) rfl rfl (Nat.le_of_ble_eq_true rfl) dX11_cutOut_109 (fun H locs hP hS => ?_)
                  exact zret_l X hP hS hf dX11_cutOut_112
                · rw [if_neg e21] at hf
                  have ye16 := zne e16 (v := 0) (by decide)
                  have ye17 := zne e17 (v := 1) (by decide)
                  have ye21 := zne e21 (v := 2) (by decide)
                  refine lv_tableOut (tgt := 113) hx hb dX11_cutOut_70 (by omega) (by decide) ?_
                  refine lv_iload_n hx hb dX11_cutOut_113 rfl (lv_at hl 0 rfl) ?_
                  refine lv_iconst (v := 1) hx hb dX11_cutOut_114 (by decide) ?_
                  refine zicmp_ne (tgt := 133) hx hb dX11_cutOut_115 (by decide) hf (fun hf => ?_) (fun hf => ?_)
                  · refine zldc2 X co_X11_227 dX11_cutOut_133 ?_
                    exact zret_l X hP hS hf dX11_cutOut_136
                  · refine lv_lconst (v := 1) hx hb dX11_cutOut_118 (by decide) ?_
                    refine lv_aload_n hx hb dX11_cutOut_119 rfl (lv_at hl 1 rfl) ?_
                    refine lv_iload_n hx hb dX11_cutOut_120 rfl (lv_at hl 2 rfl) ?_
                    refine lv_iload_n hx hb dX11_cutOut_121 rfl (lv_at hl 0 rfl) ?_
                    obtain ⟨r25, s26, h27, hf⟩ := zbd_some hf
                    refine zcallV X hP hS hl.1 (k := 0) (As := [.int x1, .int (r10 - r13)]) (rest := [.long 1]) (cn_X11_eulerOfCut h27) cw_X11_eulerOfCut zp_11 rfl (by decide) rfl ml_X11_267 (by decide) rfl rfl (Nat.le_of_ble_eq_true rfl) dX11_cutOut_122 (fun H locs hP hS => ?_)
                    refine zldc2 X co_X11_270 dX11_cutOut_125 ?_
                    refine lv_ldiv hx hb dX11_cutOut_128 (by decide) ?_
                    refine lv_lsub hx hb dX11_cutOut_129 ?_
                    refine lv_goto (tgt := 136) hx hb dX11_cutOut_130 (by decide) ?_
                    exact zret_l X hP hS hf dX11_cutOut_136
          · refine zldc2 X co_X11_227 dX11_cutOut_45 ?_
            exact zret_l X hP hS hf dX11_cutOut_48
      · refine zldc2 X co_X11_132 dX11_cutOut_20 ?_
        exact zret_l X hP hS hf dX11_cutOut_23
theorem dX11_multiplyConditions_0 : decode cX11_multiplyConditions 0 = .ok (.aload_n 0, 1) := by decide +kernel
theorem dX11_multiplyConditions_1 : decode cX11_multiplyConditions 1 = .ok (.getfield 28, 3) := by decide +kernel
theorem dX11_multiplyConditions_4 : decode cX11_multiplyConditions 4 = .ok (.aload_n 0, 1) := by decide +kernel
theorem dX11_multiplyConditions_5 : decode cX11_multiplyConditions 5 = .ok (.getfield 28, 3) := by decide +kernel
theorem dX11_multiplyConditions_8 : decode cX11_multiplyConditions 8 = .ok (.getfield 233, 3) := by decide +kernel
theorem dX11_multiplyConditions_11 : decode cX11_multiplyConditions 11 = .ok (.invokevirtual 295, 3) := by decide +kernel
theorem dX11_multiplyConditions_14 : decode cX11_multiplyConditions 14 = .ok (.aload_n 0, 1) := by decide +kernel
theorem dX11_multiplyConditions_15 : decode cX11_multiplyConditions 15 = .ok (.getfield 28, 3) := by decide +kernel
theorem dX11_multiplyConditions_18 : decode cX11_multiplyConditions 18 = .ok (.aload_n 0, 1) := by decide +kernel
theorem dX11_multiplyConditions_19 : decode cX11_multiplyConditions 19 = .ok (.getfield 28, 3) := by decide +kernel
theorem dX11_multiplyConditions_22 : decode cX11_multiplyConditions 22 = .ok (.getfield 233, 3) := by decide +kernel
theorem dX11_multiplyConditions_25 : decode cX11_multiplyConditions 25 = .ok (.iconst 0, 1) := by decide +kernel
theorem dX11_multiplyConditions_26 : decode cX11_multiplyConditions 26 = .ok (.lload_n 2, 1) := by decide +kernel
theorem dX11_multiplyConditions_27 : decode cX11_multiplyConditions 27 = .ok (.invokevirtual 298, 3) := by decide +kernel
theorem dX11_multiplyConditions_30 : decode cX11_multiplyConditions 30 = .ok (.aload_n 0, 1) := by decide +kernel
theorem dX11_multiplyConditions_31 : decode cX11_multiplyConditions 31 = .ok (.getfield 28, 3) := by decide +kernel
theorem dX11_multiplyConditions_34 : decode cX11_multiplyConditions 34 = .ok (.aload_n 0, 1) := by decide +kernel
theorem dX11_multiplyConditions_35 : decode cX11_multiplyConditions 35 = .ok (.getfield 28, 3) := by decide +kernel
theorem dX11_multiplyConditions_38 : decode cX11_multiplyConditions 38 = .ok (.getfield 233, 3) := by decide +kernel
theorem dX11_multiplyConditions_41 : decode cX11_multiplyConditions 41 = .ok (.iconst 1, 1) := by decide +kernel
theorem dX11_multiplyConditions_42 : decode cX11_multiplyConditions 42 = .ok (.lload 4, 2) := by decide +kernel
theorem dX11_multiplyConditions_44 : decode cX11_multiplyConditions 44 = .ok (.invokevirtual 298, 3) := by decide +kernel
theorem dX11_multiplyConditions_47 : decode cX11_multiplyConditions 47 = .ok (.iconst 0, 1) := by decide +kernel
theorem dX11_multiplyConditions_48 : decode cX11_multiplyConditions 48 = .ok (.istore 6, 2) := by decide +kernel
theorem dX11_multiplyConditions_50 : decode cX11_multiplyConditions 50 = .ok (.iload 6, 2) := by decide +kernel
theorem dX11_multiplyConditions_52 : decode cX11_multiplyConditions 52 = .ok (.iload_n 1, 1) := by decide +kernel
theorem dX11_multiplyConditions_53 : decode cX11_multiplyConditions 53 = .ok (.if_icmp .ge 30, 3) := by decide +kernel
theorem dX11_multiplyConditions_56 : decode cX11_multiplyConditions 56 = .ok (.aload_n 0, 1) := by decide +kernel
theorem dX11_multiplyConditions_57 : decode cX11_multiplyConditions 57 = .ok (.getfield 28, 3) := by decide +kernel
theorem dX11_multiplyConditions_60 : decode cX11_multiplyConditions 60 = .ok (.aload_n 0, 1) := by decide +kernel
theorem dX11_multiplyConditions_61 : decode cX11_multiplyConditions 61 = .ok (.getfield 28, 3) := by decide +kernel
theorem dX11_multiplyConditions_64 : decode cX11_multiplyConditions 64 = .ok (.getfield 188, 3) := by decide +kernel
theorem dX11_multiplyConditions_67 : decode cX11_multiplyConditions 67 = .ok (.aload_n 0, 1) := by decide +kernel
theorem dX11_multiplyConditions_68 : decode cX11_multiplyConditions 68 = .ok (.getfield 28, 3) := by decide +kernel
theorem dX11_multiplyConditions_71 : decode cX11_multiplyConditions 71 = .ok (.getfield 233, 3) := by decide +kernel
theorem dX11_multiplyConditions_74 : decode cX11_multiplyConditions 74 = .ok (.invokevirtual 276, 3) := by decide +kernel
theorem dX11_multiplyConditions_77 : decode cX11_multiplyConditions 77 = .ok (.iinc 6 1, 3) := by decide +kernel
theorem dX11_multiplyConditions_80 : decode cX11_multiplyConditions 80 = .ok (.goto (-30), 3) := by decide +kernel
theorem dX11_multiplyConditions_83 : decode cX11_multiplyConditions 83 = .ok (.return_, 1) := by decide +kernel
set_option maxHeartbeats 4000000 in
set_option maxRecDepth 100000 in
theorem cn_X11_multiplyConditions {l : Launch} {cA : Nat → ClassId} {ad : Nat → Nat} {D : va_G} {E : Nat → Nat} {A : Nat → Prop} {x1 : Int32} {x2 : Int64} {x4 : Int64} {s0 sr : SS} {rr : Unit} (hf : f_X11_multiplyConditions x1 x2 x4 s0 = some (rr, sr)) : zCon Ox Nx cA ad D E l yX11_multiplyConditions cX11_multiplyConditions 7 none 3 A [.ref (ad 0), .int x1, .long x2, .long x4] s0 none sr := by
  refine zstart (own := RX11) hOx (by decide) rfl (Nat.le_of_ble_eq_true rfl) ?_
  intro p e s m args below meth c X hP ls hl
  have hx := X.1
  have hb := X.2.1
  have hl : lv_has ls 7 [(0, .ref (ad 0)), (1, .int x1), (2, .long x2), (4, .long x4)] := hl
  have hS : va_S A s.heap s.heap [] := va_S.rf
  have hc_50 : ∀ (n50 : Nat) (x1 : Int32) (x6 : Int32) (s1 : SS) (H : Heap) (locs : List Loc) (ls : Array Slot), lv_has ls 7 [(0, .ref (ad 0)), (1, .int x1), (6, .int x6)] → va_P D ZCL (zw Ox Nx cA ad s1) H → va_S A s.heap H locs → f_X11_multiplyConditions_c50 n50 x1 x6 s1 = some (rr, sr) → W p l e (zrm 3) s m args below meth c H locs 0 0 (MQ below (zQc Ox Nx cA ad D A none sr) args s 0 0 A) (F0 m 50 ls []) := by
    intro n50
    induction n50 with
    | zero =>
      intro x1 x6 s1 H locs ls hl hP hS hf
      rw [f_X11_multiplyConditions_c50] at hf
      cases hf
    | succ n50 ih50 =>
      intro x1 x6 s1 H locs ls hl hP hS hf
      rw [f_X11_multiplyConditions_c50] at hf
      refine lv_iload hx hb dX11_multiplyConditions_50 (lv_at hl 2 rfl) ?_
      refine lv_iload_n hx hb dX11_multiplyConditions_52 rfl (lv_at hl 1 rfl) ?_
      refine zicmp_ge (tgt := 83) hx hb dX11_multiplyConditions_53 (by decide) hf (fun hf => ?_) (fun hf => ?_)
      · exact zret_v X hP hS hf dX11_multiplyConditions_83
      · refine lv_aload_n hx hb dX11_multiplyConditions_56 rfl (lv_at hl 0 rfl) ?_
        refine gf_X11_28 X hP (k := 0) (q := 5) rfl dX11_multiplyConditions_57 rfl ?_
        refine lv_aload_n hx hb dX11_multiplyConditions_60 rfl (lv_at hl 0 rfl) ?_
        refine gf_X11_28 X hP (k := 0) (q := 5) rfl dX11_multiplyConditions_61 rfl ?_
        refine gf_X11_188 X hP (k := 5) (q := 21) rfl dX11_multiplyConditions_64 rfl ?_
        refine lv_aload_n hx hb dX11_multiplyConditions_67 rfl (lv_at hl 0 rfl) ?_
        refine gf_X11_28 X hP (k := 0) (q := 5) rfl dX11_multiplyConditions_68 rfl ?_
        refine gf_X11_233 X hP (k := 5) (q := 22) rfl dX11_multiplyConditions_71 rfl ?_
        obtain ⟨r10, s11, h12, hf⟩ := zbd_some hf
        refine zcallV X hP hS hl.1 (k := 5) (As := [.ref (ad 21), .ref (ad 22)]) (rest := []) (cn_X8_multiply h12) cw_X8_multiply zp_8 rfl (by decide) rfl ml_X11_276 (by decide) rfl rfl (Nat.le_of_ble_eq_true rfl) dX11_multiplyConditions_74 (fun H locs hP hS => ?_)
        refine lv_iinc (v := (x6 + 1)) (lv' := [(6, .int (x6 + 1)), (0, .ref (ad 0)), (1, .int x1)]) hx hb dX11_multiplyConditions_77 hl (k := 2) rfl rfl (by decide) rfl (fun ls hl => ?_)
        refine lv_goto (tgt := 50) hx hb dX11_multiplyConditions_80 (by decide) ?_
        exact ih50 x1 (x6 + 1) s11 _ _ _ (lv_sub hl [1, 2, 0] rfl) hP hS hf
  rw [f_X11_multiplyConditions] at hf
  refine lv_aload_n hx hb dX11_multiplyConditions_0 rfl (lv_at hl 0 rfl) ?_
  refine gf_X11_28 X hP (k := 0) (q := 5) rfl dX11_multiplyConditions_1 rfl ?_
  refine lv_aload_n hx hb dX11_multiplyConditions_4 rfl (lv_at hl 0 rfl) ?_
  refine gf_X11_28 X hP (k := 0) (q := 5) rfl dX11_multiplyConditions_5 rfl ?_
  refine gf_X11_233 X hP (k := 5) (q := 22) rfl dX11_multiplyConditions_8 rfl ?_
  obtain ⟨r1, s2, h3, hf⟩ := zbd_some hf
  refine zcallV X hP hS hl.1 (k := 5) (As := [.ref (ad 22)]) (rest := []) (cn_X8_makeZero h3) cw_X8_makeZero zp_8 rfl (by decide) rfl ml_X11_295 (by decide) rfl rfl (Nat.le_of_ble_eq_true rfl) dX11_multiplyConditions_11 (fun H locs hP hS => ?_)
  refine lv_aload_n hx hb dX11_multiplyConditions_14 rfl (lv_at hl 0 rfl) ?_
  refine gf_X11_28 X hP (k := 0) (q := 5) rfl dX11_multiplyConditions_15 rfl ?_
  refine lv_aload_n hx hb dX11_multiplyConditions_18 rfl (lv_at hl 0 rfl) ?_
  refine gf_X11_28 X hP (k := 0) (q := 5) rfl dX11_multiplyConditions_19 rfl ?_
  refine gf_X11_233 X hP (k := 5) (q := 22) rfl dX11_multiplyConditions_22 rfl ?_
  refine lv_iconst (v := 0) hx hb dX11_multiplyConditions_25 (by decide) ?_
  refine lv_lload_n hx hb dX11_multiplyConditions_26 rfl (lv_at hl 2 rfl) ?_
  obtain ⟨r4, s5, h6, hf⟩ := zbd_some hf
  refine zcallV X hP hS hl.1 (k := 5) (As := [.ref (ad 22), .int 0, .long x2]) (rest := []) (cn_X8_putAtLetter h6) cw_X8_putAtLetter zp_8 rfl (by decide) rfl ml_X11_298 (by decide) rfl rfl (Nat.le_of_ble_eq_true rfl) dX11_multiplyConditions_27 (fun H locs hP hS => ?_)
  refine lv_aload_n hx hb dX11_multiplyConditions_30 rfl (lv_at hl 0 rfl) ?_
  refine gf_X11_28 X hP (k := 0) (q := 5) rfl dX11_multiplyConditions_31 rfl ?_
  refine lv_aload_n hx hb dX11_multiplyConditions_34 rfl (lv_at hl 0 rfl) ?_
  refine gf_X11_28 X hP (k := 0) (q := 5) rfl dX11_multiplyConditions_35 rfl ?_
  refine gf_X11_233 X hP (k := 5) (q := 22) rfl dX11_multiplyConditions_38 rfl ?_
  refine lv_iconst (v := 1) hx hb dX11_multiplyConditions_41 (by decide) ?_
  refine lv_lload hx hb dX11_multiplyConditions_42 (lv_at hl 3 rfl) ?_
  obtain ⟨r7, s8, h9, hf⟩ := zbd_some hf
  refine zcallV X hP hS hl.1 (k := 5) (As := [.ref (ad 22), .int 1, .long x4]) (rest := []) (cn_X8_putAtLetter h9) cw_X8_putAtLetter zp_8 rfl (by decide) rfl ml_X11_298 (by decide) rfl rfl (Nat.le_of_ble_eq_true rfl) dX11_multiplyConditions_44 (fun H locs hP hS => ?_)
  refine lv_iconst (v := 0) hx hb dX11_multiplyConditions_47 (by decide) ?_
  refine lv_istore (lv' := [(6, .int 0), (0, .ref (ad 0)), (1, .int x1), (2, .long x2), (4, .long x4)]) hx hb dX11_multiplyConditions_48 hl (by decide) rfl (fun ls hl => ?_)
  exact hc_50 ZF x1 0 s8 _ _ _ (lv_sub hl [1, 2, 0] rfl) hP hS hf
theorem dX11_through_0 : decode cX11_through 0 = .ok (.iload_n 1, 1) := by decide +kernel
theorem dX11_through_1 : decode cX11_through 1 = .ok (.ifCond .lt 17, 3) := by decide +kernel
theorem dX11_through_4 : decode cX11_through 4 = .ok (.iload_n 1, 1) := by decide +kernel
theorem dX11_through_5 : decode cX11_through 5 = .ok (.iconst 5, 1) := by decide +kernel
theorem dX11_through_6 : decode cX11_through 6 = .ok (.if_icmp .gt 12, 3) := by decide +kernel
theorem dX11_through_9 : decode cX11_through 9 = .ok (.iload_n 2, 1) := by decide +kernel
theorem dX11_through_10 : decode cX11_through 10 = .ok (.ifCond .lt 8, 3) := by decide +kernel
theorem dX11_through_13 : decode cX11_through 13 = .ok (.iload_n 2, 1) := by decide +kernel
theorem dX11_through_14 : decode cX11_through 14 = .ok (.iconst 5, 1) := by decide +kernel
theorem dX11_through_15 : decode cX11_through 15 = .ok (.if_icmp .le 7, 3) := by decide +kernel
theorem dX11_through_18 : decode cX11_through 18 = .ok (.ldc2_w 132, 3) := by decide +kernel
theorem dX11_through_21 : decode cX11_through 21 = .ok (.lreturn, 1) := by decide +kernel
theorem dX11_through_22 : decode cX11_through 22 = .ok (.iload_n 3, 1) := by decide +kernel
theorem dX11_through_23 : decode cX11_through 23 = .ok (.iconst (-1), 1) := by decide +kernel
theorem dX11_through_24 : decode cX11_through 24 = .ok (.if_icmp .eq 18, 3) := by decide +kernel
theorem dX11_through_27 : decode cX11_through 27 = .ok (.aload_n 0, 1) := by decide +kernel
theorem dX11_through_28 : decode cX11_through 28 = .ok (.getfield 63, 3) := by decide +kernel
theorem dX11_through_31 : decode cX11_through 31 = .ok (.iload_n 3, 1) := by decide +kernel
theorem dX11_through_32 : decode cX11_through 32 = .ok (.invokevirtual 220, 3) := by decide +kernel
theorem dX11_through_35 : decode cX11_through 35 = .ok (.ifCond .ne 7, 3) := by decide +kernel
theorem dX11_through_38 : decode cX11_through 38 = .ok (.ldc2_w 132, 3) := by decide +kernel
theorem dX11_through_41 : decode cX11_through 41 = .ok (.lreturn, 1) := by decide +kernel
theorem dX11_through_42 : decode cX11_through 42 = .ok (.iload_n 3, 1) := by decide +kernel
theorem dX11_through_43 : decode cX11_through 43 = .ok (.iconst (-1), 1) := by decide +kernel
theorem dX11_through_44 : decode cX11_through 44 = .ok (.if_icmp .ne 7, 3) := by decide +kernel
theorem dX11_through_47 : decode cX11_through 47 = .ok (.iconst 0, 1) := by decide +kernel
theorem dX11_through_48 : decode cX11_through 48 = .ok (.goto 11, 3) := by decide +kernel
theorem dX11_through_51 : decode cX11_through 51 = .ok (.aload_n 0, 1) := by decide +kernel
theorem dX11_through_52 : decode cX11_through 52 = .ok (.getfield 63, 3) := by decide +kernel
theorem dX11_through_55 : decode cX11_through 55 = .ok (.iload_n 3, 1) := by decide +kernel
theorem dX11_through_56 : decode cX11_through 56 = .ok (.invokevirtual 244, 3) := by decide +kernel
theorem dX11_through_59 : decode cX11_through 59 = .ok (.istore 4, 2) := by decide +kernel
theorem dX11_through_61 : decode cX11_through 61 = .ok (.aload_n 0, 1) := by decide +kernel
theorem dX11_through_62 : decode cX11_through 62 = .ok (.getfield 12, 3) := by decide +kernel
theorem dX11_through_65 : decode cX11_through 65 = .ok (.getfield 74, 3) := by decide +kernel
theorem dX11_through_68 : decode cX11_through 68 = .ok (.getfield 98, 3) := by decide +kernel
theorem dX11_through_71 : decode cX11_through 71 = .ok (.iconst 2, 1) := by decide +kernel
theorem dX11_through_72 : decode cX11_through 72 = .ok (.if_icmp .ne 22, 3) := by decide +kernel
theorem dX11_through_75 : decode cX11_through 75 = .ok (.iload 4, 2) := by decide +kernel
theorem dX11_through_77 : decode cX11_through 77 = .ok (.iconst 2, 1) := by decide +kernel
theorem dX11_through_78 : decode cX11_through 78 = .ok (.irem, 1) := by decide +kernel
theorem dX11_through_79 : decode cX11_through 79 = .ok (.ifCond .ne 15, 3) := by decide +kernel
theorem dX11_through_82 : decode cX11_through 82 = .ok (.iload_n 1, 1) := by decide +kernel
theorem dX11_through_83 : decode cX11_through 83 = .ok (.iload_n 2, 1) := by decide +kernel
theorem dX11_through_84 : decode cX11_through 84 = .ok (.iadd, 1) := by decide +kernel
theorem dX11_through_85 : decode cX11_through 85 = .ok (.iload 4, 2) := by decide +kernel
theorem dX11_through_87 : decode cX11_through 87 = .ok (.iconst 2, 1) := by decide +kernel
theorem dX11_through_88 : decode cX11_through 88 = .ok (.idiv, 1) := by decide +kernel
theorem dX11_through_89 : decode cX11_through 89 = .ok (.iadd, 1) := by decide +kernel
theorem dX11_through_90 : decode cX11_through 90 = .ok (.iconst 5, 1) := by decide +kernel
theorem dX11_through_91 : decode cX11_through 91 = .ok (.if_icmp .eq 7, 3) := by decide +kernel
theorem dX11_through_94 : decode cX11_through 94 = .ok (.ldc2_w 227, 3) := by decide +kernel
theorem dX11_through_97 : decode cX11_through 97 = .ok (.lreturn, 1) := by decide +kernel
theorem dX11_through_98 : decode cX11_through 98 = .ok (.iconst 0, 1) := by decide +kernel
theorem dX11_through_99 : decode cX11_through 99 = .ok (.istore 5, 2) := by decide +kernel
theorem dX11_through_101 : decode cX11_through 101 = .ok (.iload 5, 2) := by decide +kernel
theorem dX11_through_103 : decode cX11_through 103 = .ok (.iload 4, 2) := by decide +kernel
theorem dX11_through_105 : decode cX11_through 105 = .ok (.if_icmp .ge 41, 3) := by decide +kernel
theorem dX11_through_108 : decode cX11_through 108 = .ok (.aload_n 0, 1) := by decide +kernel
theorem dX11_through_109 : decode cX11_through 109 = .ok (.getfield 63, 3) := by decide +kernel
theorem dX11_through_112 : decode cX11_through 112 = .ok (.iload_n 3, 1) := by decide +kernel
theorem dX11_through_113 : decode cX11_through 113 = .ok (.iload 5, 2) := by decide +kernel
theorem dX11_through_115 : decode cX11_through 115 = .ok (.invokevirtual 247, 3) := by decide +kernel
theorem dX11_through_118 : decode cX11_through 118 = .ok (.lstore 6, 2) := by decide +kernel
theorem dX11_through_120 : decode cX11_through 120 = .ok (.lload 6, 2) := by decide +kernel
theorem dX11_through_122 : decode cX11_through 122 = .ok (.lconst 0, 1) := by decide +kernel
theorem dX11_through_123 : decode cX11_through 123 = .ok (.lcmp, 1) := by decide +kernel
theorem dX11_through_124 : decode cX11_through 124 = .ok (.ifCond .lt 12, 3) := by decide +kernel
theorem dX11_through_127 : decode cX11_through 127 = .ok (.lload 6, 2) := by decide +kernel
theorem dX11_through_129 : decode cX11_through 129 = .ok (.ldc2_w 287, 3) := by decide +kernel
theorem dX11_through_132 : decode cX11_through 132 = .ok (.lcmp, 1) := by decide +kernel
theorem dX11_through_133 : decode cX11_through 133 = .ok (.ifCond .le 7, 3) := by decide +kernel
theorem dX11_through_136 : decode cX11_through 136 = .ok (.ldc2_w 227, 3) := by decide +kernel
theorem dX11_through_139 : decode cX11_through 139 = .ok (.lreturn, 1) := by decide +kernel
theorem dX11_through_140 : decode cX11_through 140 = .ok (.iinc 5 1, 3) := by decide +kernel
theorem dX11_through_143 : decode cX11_through 143 = .ok (.goto (-42), 3) := by decide +kernel
theorem dX11_through_146 : decode cX11_through 146 = .ok (.aload_n 0, 1) := by decide +kernel
theorem dX11_through_147 : decode cX11_through 147 = .ok (.getfield 28, 3) := by decide +kernel
theorem dX11_through_150 : decode cX11_through 150 = .ok (.aload_n 0, 1) := by decide +kernel
theorem dX11_through_151 : decode cX11_through 151 = .ok (.getfield 28, 3) := by decide +kernel
theorem dX11_through_154 : decode cX11_through 154 = .ok (.getfield 188, 3) := by decide +kernel
theorem dX11_through_157 : decode cX11_through 157 = .ok (.invokevirtual 240, 3) := by decide +kernel
theorem dX11_through_160 : decode cX11_through 160 = .ok (.aload_n 0, 1) := by decide +kernel
theorem dX11_through_161 : decode cX11_through 161 = .ok (.iload_n 1, 1) := by decide +kernel
theorem dX11_through_162 : decode cX11_through 162 = .ok (.lconst 1, 1) := by decide +kernel
theorem dX11_through_163 : decode cX11_through 163 = .ok (.lconst 0, 1) := by decide +kernel
theorem dX11_through_164 : decode cX11_through 164 = .ok (.invokevirtual 289, 3) := by decide +kernel
theorem dX11_through_167 : decode cX11_through 167 = .ok (.aload_n 0, 1) := by decide +kernel
theorem dX11_through_168 : decode cX11_through 168 = .ok (.iload_n 2, 1) := by decide +kernel
theorem dX11_through_169 : decode cX11_through 169 = .ok (.ldc2_w 270, 3) := by decide +kernel
theorem dX11_through_172 : decode cX11_through 172 = .ok (.ldc2_w 293, 3) := by decide +kernel
theorem dX11_through_175 : decode cX11_through 175 = .ok (.invokevirtual 289, 3) := by decide +kernel
theorem dX11_through_178 : decode cX11_through 178 = .ok (.iconst 0, 1) := by decide +kernel
theorem dX11_through_179 : decode cX11_through 179 = .ok (.istore 5, 2) := by decide +kernel
theorem dX11_through_181 : decode cX11_through 181 = .ok (.iload 5, 2) := by decide +kernel
theorem dX11_through_183 : decode cX11_through 183 = .ok (.iconst 1, 1) := by decide +kernel
theorem dX11_through_184 : decode cX11_through 184 = .ok (.iadd, 1) := by decide +kernel
theorem dX11_through_185 : decode cX11_through 185 = .ok (.iload 4, 2) := by decide +kernel
theorem dX11_through_187 : decode cX11_through 187 = .ok (.if_icmp .ge 52, 3) := by decide +kernel
theorem dX11_through_190 : decode cX11_through 190 = .ok (.aload_n 0, 1) := by decide +kernel
theorem dX11_through_191 : decode cX11_through 191 = .ok (.getfield 63, 3) := by decide +kernel
theorem dX11_through_194 : decode cX11_through 194 = .ok (.iload_n 3, 1) := by decide +kernel
theorem dX11_through_195 : decode cX11_through 195 = .ok (.iload 5, 2) := by decide +kernel
theorem dX11_through_197 : decode cX11_through 197 = .ok (.invokevirtual 247, 3) := by decide +kernel
theorem dX11_through_200 : decode cX11_through 200 = .ok (.lstore 6, 2) := by decide +kernel
theorem dX11_through_202 : decode cX11_through 202 = .ok (.aload_n 0, 1) := by decide +kernel
theorem dX11_through_203 : decode cX11_through 203 = .ok (.getfield 63, 3) := by decide +kernel
theorem dX11_through_206 : decode cX11_through 206 = .ok (.iload_n 3, 1) := by decide +kernel
theorem dX11_through_207 : decode cX11_through 207 = .ok (.iload 5, 2) := by decide +kernel
theorem dX11_through_209 : decode cX11_through 209 = .ok (.iconst 1, 1) := by decide +kernel
theorem dX11_through_210 : decode cX11_through 210 = .ok (.iadd, 1) := by decide +kernel
theorem dX11_through_211 : decode cX11_through 211 = .ok (.invokevirtual 247, 3) := by decide +kernel
theorem dX11_through_214 : decode cX11_through 214 = .ok (.lstore 8, 2) := by decide +kernel
theorem dX11_through_216 : decode cX11_through 216 = .ok (.aload_n 0, 1) := by decide +kernel
theorem dX11_through_217 : decode cX11_through 217 = .ok (.iconst 1, 1) := by decide +kernel
theorem dX11_through_218 : decode cX11_through 218 = .ok (.lload 8, 2) := by decide +kernel
theorem dX11_through_220 : decode cX11_through 220 = .ok (.ldc2_w 270, 3) := by decide +kernel
theorem dX11_through_223 : decode cX11_through 223 = .ok (.lload 6, 2) := by decide +kernel
theorem dX11_through_225 : decode cX11_through 225 = .ok (.lmul, 1) := by decide +kernel
theorem dX11_through_226 : decode cX11_through 226 = .ok (.ladd, 1) := by decide +kernel
theorem dX11_through_227 : decode cX11_through 227 = .ok (.lload 6, 2) := by decide +kernel
theorem dX11_through_229 : decode cX11_through 229 = .ok (.lneg, 1) := by decide +kernel
theorem dX11_through_230 : decode cX11_through 230 = .ok (.invokevirtual 289, 3) := by decide +kernel
theorem dX11_through_233 : decode cX11_through 233 = .ok (.iinc 5 2, 3) := by decide +kernel
theorem dX11_through_236 : decode cX11_through 236 = .ok (.goto (-55), 3) := by decide +kernel
theorem dX11_through_239 : decode cX11_through 239 = .ok (.aload_n 0, 1) := by decide +kernel
theorem dX11_through_240 : decode cX11_through 240 = .ok (.getfield 28, 3) := by decide +kernel
theorem dX11_through_243 : decode cX11_through 243 = .ok (.aload_n 0, 1) := by decide +kernel
theorem dX11_through_244 : decode cX11_through 244 = .ok (.getfield 28, 3) := by decide +kernel
theorem dX11_through_247 : decode cX11_through 247 = .ok (.getfield 188, 3) := by decide +kernel
theorem dX11_through_250 : decode cX11_through 250 = .ok (.invokevirtual 212, 3) := by decide +kernel
theorem dX11_through_253 : decode cX11_through 253 = .ok (.lreturn, 1) := by decide +kernel
set_option maxHeartbeats 4000000 in
set_option maxRecDepth 100000 in
theorem cn_X11_through {l : Launch} {cA : Nat → ClassId} {ad : Nat → Nat} {D : va_G} {E : Nat → Nat} {A : Nat → Prop} {x1 : Int32} {x2 : Int32} {x3 : Int32} {s0 sr : SS} {rr : Int64} (hf : f_X11_through x1 x2 x3 s0 = some (rr, sr)) : zCon Ox Nx cA ad D E l yX11_through cX11_through 10 (some .long) 4 A [.ref (ad 0), .int x1, .int x2, .int x3] s0 (some (.long rr)) sr := by
  refine zstart (own := RX11) hOx (by decide) rfl (Nat.le_of_ble_eq_true rfl) ?_
  intro p e s m args below meth c X hP ls hl
  have hx := X.1
  have hb := X.2.1
  have hl : lv_has ls 10 [(0, .ref (ad 0)), (1, .int x1), (2, .int x2), (3, .int x3)] := hl
  have hS : va_S A s.heap s.heap [] := va_S.rf
  have hc_101 : ∀ (n101 : Nat) (x1 : Int32) (x2 : Int32) (x3 : Int32) (x4 : Int32) (x5 : Int32) (s1 : SS) (H : Heap) (locs : List Loc) (ls : Array Slot), lv_has ls 10 [(0, .ref (ad 0)), (1, .int x1), (2, .int x2), (3, .int x3), (4, .int x4), (5, .int x5)] → va_P D ZCL (zw Ox Nx cA ad s1) H → va_S A s.heap H locs → f_X11_through_c101 n101 x1 x2 x3 x4 x5 s1 = some (rr, sr) → W p l e (zrm 4) s m args below meth c H locs 0 0 (MQ below (zQc Ox Nx cA ad D A (some (.long rr)) sr) args s 0 0 A) (F0 m 101 ls []) := by
    intro n101
    induction n101 with
    | zero =>
      intro x1 x2 x3 x4 x5 s1 H locs ls hl hP hS hf
      rw [f_X11_through_c101] at hf
      cases hf
    | succ n101 ih101 =>
      have hc_181 : ∀ (n181 : Nat) (x3 : Int32) (x4 : Int32) (x5 : Int32) (s1 : SS) (H : Heap) (locs : List Loc) (ls : Array Slot), lv_has ls 10 [(0, .ref (ad 0)), (3, .int x3), (4, .int x4), (5, .int x5)] → va_P D ZCL (zw Ox Nx cA ad s1) H → va_S A s.heap H locs → f_X11_through_c181 n181 x3 x4 x5 s1 = some (rr, sr) → W p l e (zrm 4) s m args below meth c H locs 0 0 (MQ below (zQc Ox Nx cA ad D A (some (.long rr)) sr) args s 0 0 A) (F0 m 181 ls []) := by
        intro n181
        induction n181 with
        | zero =>
          intro x3 x4 x5 s1 H locs ls hl hP hS hf
          rw [f_X11_through_c181] at hf
          cases hf
        | succ n181 ih181 =>
          intro x3 x4 x5 s1 H locs ls hl hP hS hf
          rw [f_X11_through_c181] at hf
          refine lv_iload hx hb dX11_through_181 (lv_at hl 3 rfl) ?_
          refine lv_iconst (v := 1) hx hb dX11_through_183 (by decide) ?_
          refine lv_iadd hx hb dX11_through_184 ?_
          refine lv_iload hx hb dX11_through_185 (lv_at hl 2 rfl) ?_
          refine zicmp_ge (tgt := 239) hx hb dX11_through_187 (by decide) hf (fun hf => ?_) (fun hf => ?_)
          · refine lv_aload_n hx hb dX11_through_239 rfl (lv_at hl 0 rfl) ?_
            refine gf_X11_28 X hP (k := 0) (q := 5) rfl dX11_through_240 rfl ?_
            refine lv_aload_n hx hb dX11_through_243 rfl (lv_at hl 0 rfl) ?_
            refine gf_X11_28 X hP (k := 0) (q := 5) rfl dX11_through_244 rfl ?_
            refine gf_X11_188 X hP (k := 5) (q := 21) rfl dX11_through_247 rfl ?_
            obtain ⟨r13, s14, h15, hf⟩ := zbd_some hf
            refine zcallV X hP hS hl.1 (k := 5) (As := [.ref (ad 21)]) (rest := []) (cn_X8_metOf h15) cw_X8_metOf zp_8 rfl (by decide) rfl ml_X11_212 (by decide) rfl rfl (Nat.le_of_ble_eq_true rfl) dX11_through_250 (fun H locs hP hS => ?_)
            exact zret_l X hP hS hf dX11_through_253
          · refine lv_aload_n hx hb dX11_through_190 rfl (lv_at hl 0 rfl) ?_
            refine gf_X11_63 X hP (k := 0) (q := 11) rfl dX11_through_191 rfl ?_
            refine lv_iload_n hx hb dX11_through_194 rfl (lv_at hl 1 rfl) ?_
            refine lv_iload hx hb dX11_through_195 (lv_at hl 3 rfl) ?_
            obtain ⟨r16, s17, h18, hf⟩ := zbd_some hf
            refine zcallV X hP hS hl.1 (k := 11) (As := [.int x3, .int x5]) (rest := []) (cn_X5_valueAt h18) cw_X5_valueAt zp_5 rfl (by decide) rfl ml_X11_247 (by decide) rfl rfl (Nat.le_of_ble_eq_true rfl) dX11_through_197 (fun H locs hP hS => ?_)
            refine lv_lstore (lv' := [(6, .long r16), (0, .ref (ad 0)), (3, .int x3), (4, .int x4), (5, .int x5)]) hx hb dX11_through_200 hl (by decide) rfl (fun ls hl => ?_)
            refine lv_aload_n hx hb dX11_through_202 rfl (lv_at hl 1 rfl) ?_
            refine gf_X11_63 X hP (k := 0) (q := 11) rfl dX11_through_203 rfl ?_
            refine lv_iload_n hx hb dX11_through_206 rfl (lv_at hl 2 rfl) ?_
            refine lv_iload hx hb dX11_through_207 (lv_at hl 4 rfl) ?_
            refine lv_iconst (v := 1) hx hb dX11_through_209 (by decide) ?_
            refine lv_iadd hx hb dX11_through_210 ?_
            obtain ⟨r19, s20, h21, hf⟩ := zbd_some hf
            refine zcallV X hP hS hl.1 (k := 11) (As := [.int x3, .int (x5 + (1 : Int32))]) (rest := []) (cn_X5_valueAt h21) cw_X5_valueAt zp_5 rfl (by decide) rfl ml_X11_247 (by decide) rfl rfl (Nat.le_of_ble_eq_true rfl) dX11_through_211 (fun H locs hP hS => ?_)
            refine lv_lstore (lv' := [(8, .long r19), (6, .long r16), (0, .ref (ad 0)), (3, .int x3), (4, .int x4), (5, .int x5)]) hx hb dX11_through_214 hl (by decide) rfl (fun ls hl => ?_)
            refine lv_aload_n hx hb dX11_through_216 rfl (lv_at hl 2 rfl) ?_
            refine lv_iconst (v := 1) hx hb dX11_through_217 (by decide) ?_
            refine lv_lload hx hb dX11_through_218 (lv_at hl 0 rfl) ?_
            refine zldc2 X co_X11_270 dX11_through_220 ?_
            refine lv_lload hx hb dX11_through_223 (lv_at hl 1 rfl) ?_
            refine lv_lmul hx hb dX11_through_225 ?_
            refine lv_ladd hx hb dX11_through_226 ?_
            refine lv_lload hx hb dX11_through_227 (lv_at hl 1 rfl) ?_
            refine lv_lneg hx hb dX11_through_229 ?_
            obtain ⟨r22, s23, h24, hf⟩ := zbd_some hf
            refine zcallV X hP hS hl.1 (k := 0) (As := [.int 1, .long (r19 + ((2 : Int64) * r16)), .long (-r16)]) (rest := []) (cn_X11_multiplyConditions h24) cw_X11_multiplyConditions zp_11 rfl (by decide) rfl ml_X11_289 (by decide) rfl rfl (Nat.le_of_ble_eq_true rfl) dX11_through_230 (fun H locs hP hS => ?_)
            refine lv_iinc (v := (x5 + 2)) (lv' := [(5, .int (x5 + 2)), (8, .long r19), (6, .long r16), (0, .ref (ad 0)), (3, .int x3), (4, .int x4)]) hx hb dX11_through_233 hl (k := 5) rfl rfl (by decide) rfl (fun ls hl => ?_)
            refine lv_goto (tgt := 181) hx hb dX11_through_236 (by decide) ?_
            exact ih181 x3 x4 (x5 + 2) s23 _ _ _ (lv_sub hl [3, 4, 5, 0] rfl) hP hS hf
      intro x1 x2 x3 x4 x5 s1 H locs ls hl hP hS hf
      rw [f_X11_through_c101] at hf
      refine lv_iload hx hb dX11_through_101 (lv_at hl 5 rfl) ?_
      refine lv_iload hx hb dX11_through_103 (lv_at hl 4 rfl) ?_
      refine zicmp_ge (tgt := 146) hx hb dX11_through_105 (by decide) hf (fun hf => ?_) (fun hf => ?_)
      · refine lv_aload_n hx hb dX11_through_146 rfl (lv_at hl 0 rfl) ?_
        refine gf_X11_28 X hP (k := 0) (q := 5) rfl dX11_through_147 rfl ?_
        refine lv_aload_n hx hb dX11_through_150 rfl (lv_at hl 0 rfl) ?_
        refine gf_X11_28 X hP (k := 0) (q := 5) rfl dX11_through_151 rfl ?_
        refine gf_X11_188 X hP (k := 5) (q := 21) rfl dX11_through_154 rfl ?_
        obtain ⟨r4, s5, h6, hf⟩ := zbd_some hf
        refine zcallV X hP hS hl.1 (k := 5) (As := [.ref (ad 21)]) (rest := []) (cn_X8_makeOne h6) cw_X8_makeOne zp_8 rfl (by decide) rfl ml_X11_240 (by decide) rfl rfl (Nat.le_of_ble_eq_true rfl) dX11_through_157 (fun H locs hP hS => ?_)
        refine lv_aload_n hx hb dX11_through_160 rfl (lv_at hl 0 rfl) ?_
        refine lv_iload_n hx hb dX11_through_161 rfl (lv_at hl 1 rfl) ?_
        refine lv_lconst (v := 1) hx hb dX11_through_162 (by decide) ?_
        refine lv_lconst (v := 0) hx hb dX11_through_163 (by decide) ?_
        obtain ⟨r7, s8, h9, hf⟩ := zbd_some hf
        refine zcallV X hP hS hl.1 (k := 0) (As := [.int x1, .long 1, .long 0]) (rest := []) (cn_X11_multiplyConditions h9) cw_X11_multiplyConditions zp_11 rfl (by decide) rfl ml_X11_289 (by decide) rfl rfl (Nat.le_of_ble_eq_true rfl) dX11_through_164 (fun H locs hP hS => ?_)
        refine lv_aload_n hx hb dX11_through_167 rfl (lv_at hl 0 rfl) ?_
        refine lv_iload_n hx hb dX11_through_168 rfl (lv_at hl 2 rfl) ?_
        refine zldc2 X co_X11_270 dX11_through_169 ?_
        refine zldc2 X co_X11_293 dX11_through_172 ?_
        obtain ⟨r10, s11, h12, hf⟩ := zbd_some hf
        refine zcallV X hP hS hl.1 (k := 0) (As := [.int x2, .long 2, .long (-1)]) (rest := []) (cn_X11_multiplyConditions h12) cw_X11_multiplyConditions zp_11 rfl (by decide) rfl ml_X11_289 (by decide) rfl rfl (Nat.le_of_ble_eq_true rfl) dX11_through_175 (fun H locs hP hS => ?_)
        refine lv_iconst (v := 0) hx hb dX11_through_178 (by decide) ?_
        refine lv_istore (lv' := [(5, .int 0), (0, .ref (ad 0)), (1, .int x1), (2, .int x2), (3, .int x3), (4, .int x4)]) hx hb dX11_through_179 hl (by decide) rfl (fun ls hl => ?_)
        exact hc_181 ZF x3 x4 0 s11 _ _ _ (lv_sub hl [1, 4, 5, 0] rfl) hP hS hf
      · refine lv_aload_n hx hb dX11_through_108 rfl (lv_at hl 0 rfl) ?_
        refine gf_X11_63 X hP (k := 0) (q := 11) rfl dX11_through_109 rfl ?_
        refine lv_iload_n hx hb dX11_through_112 rfl (lv_at hl 3 rfl) ?_
        refine lv_iload hx hb dX11_through_113 (lv_at hl 5 rfl) ?_
        obtain ⟨r25, s26, h27, hf⟩ := zbd_some hf
        refine zcallV X hP hS hl.1 (k := 11) (As := [.int x3, .int x5]) (rest := []) (cn_X5_valueAt h27) cw_X5_valueAt zp_5 rfl (by decide) rfl ml_X11_247 (by decide) rfl rfl (Nat.le_of_ble_eq_true rfl) dX11_through_115 (fun H locs hP hS => ?_)
        refine lv_lstore (lv' := [(6, .long r25), (0, .ref (ad 0)), (1, .int x1), (2, .int x2), (3, .int x3), (4, .int x4), (5, .int x5)]) hx hb dX11_through_118 hl (by decide) rfl (fun ls hl => ?_)
        refine lv_lload hx hb dX11_through_120 (lv_at hl 0 rfl) ?_
        refine lv_lconst (v := 0) hx hb dX11_through_122 (by decide) ?_
        refine W.lcmp hx hb dX11_through_123 ?_
        refine zif_lt (tgt := 136) hx hb dX11_through_124 (by decide) hf (fun hf => ?_) (fun hf => ?_)
        · refine zldc2 X co_X11_227 dX11_through_136 ?_
          exact zret_l X hP hS hf dX11_through_139
        · refine lv_lload hx hb dX11_through_127 (lv_at hl 0 rfl) ?_
          refine zldc2 X co_X11_287 dX11_through_129 ?_
          refine W.lcmp hx hb dX11_through_132 ?_
          refine zif_le (tgt := 140) hx hb dX11_through_133 (by decide) hf (fun hf => ?_) (fun hf => ?_)
          · refine lv_iinc (v := (x5 + 1)) (lv' := [(5, .int (x5 + 1)), (6, .long r25), (0, .ref (ad 0)), (1, .int x1), (2, .int x2), (3, .int x3), (4, .int x4)]) hx hb dX11_through_140 hl (k := 6) rfl rfl (by decide) rfl (fun ls hl => ?_)
            refine lv_goto (tgt := 101) hx hb dX11_through_143 (by decide) ?_
            exact ih101 x1 x2 x3 x4 (x5 + 1) s26 _ _ _ (lv_sub hl [2, 3, 4, 5, 6, 0] rfl) hP hS hf
          · refine zldc2 X co_X11_227 dX11_through_136 ?_
            exact zret_l X hP hS hf dX11_through_139
  have hc_59 : ∀ (x1 : Int32) (x2 : Int32) (x3 : Int32) (t0 : Int32) (s1 : SS) (H : Heap) (locs : List Loc) (ls : Array Slot), lv_has ls 10 [(0, .ref (ad 0)), (1, .int x1), (2, .int x2), (3, .int x3)] → va_P D ZCL (zw Ox Nx cA ad s1) H → va_S A s.heap H locs → f_X11_through_c59 x1 x2 x3 t0 s1 = some (rr, sr) → W p l e (zrm 4) s m args below meth c H locs 0 0 (MQ below (zQc Ox Nx cA ad D A (some (.long rr)) sr) args s 0 0 A) (F0 m 59 ls [.int t0]) := by
    intro x1 x2 x3 t0 s1 H locs ls hl hP hS hf
    rw [f_X11_through_c59] at hf
    refine lv_istore (lv' := [(4, .int t0), (0, .ref (ad 0)), (1, .int x1), (2, .int x2), (3, .int x3)]) hx hb dX11_through_59 hl (by decide) rfl (fun ls hl => ?_)
    refine lv_aload_n hx hb dX11_through_61 rfl (lv_at hl 1 rfl) ?_
    refine gf_X11_12 X hP (k := 0) (q := 1) rfl dX11_through_62 rfl ?_
    refine gf_X11_74 X hP (k := 1) (q := 3) rfl dX11_through_65 rfl ?_
    refine gf_X11_98 X hP (k := 3) rfl dX11_through_68 ?_
    refine lv_iconst (v := 2) hx hb dX11_through_71 (by decide) ?_
    refine zicmp_ne (tgt := 94) hx hb dX11_through_72 (by decide) hf (fun hf => ?_) (fun hf => ?_)
    · refine zldc2 X co_X11_227 dX11_through_94 ?_
      exact zret_l X hP hS hf dX11_through_97
    · refine lv_iload hx hb dX11_through_75 (lv_at hl 0 rfl) ?_
      refine lv_iconst (v := 2) hx hb dX11_through_77 (by decide) ?_
      refine lv_irem hx hb dX11_through_78 (by decide) ?_
      refine zif_ne (tgt := 94) hx hb dX11_through_79 (by decide) hf (fun hf => ?_) (fun hf => ?_)
      · refine zldc2 X co_X11_227 dX11_through_94 ?_
        exact zret_l X hP hS hf dX11_through_97
      · refine lv_iload_n hx hb dX11_through_82 rfl (lv_at hl 2 rfl) ?_
        refine lv_iload_n hx hb dX11_through_83 rfl (lv_at hl 3 rfl) ?_
        refine lv_iadd hx hb dX11_through_84 ?_
        refine lv_iload hx hb dX11_through_85 (lv_at hl 0 rfl) ?_
        refine lv_iconst (v := 2) hx hb dX11_through_87 (by decide) ?_
        refine lv_idiv hx hb dX11_through_88 (by decide) ?_
        refine lv_iadd hx hb dX11_through_89 ?_
        refine lv_iconst (v := 5) hx hb dX11_through_90 (by decide) ?_
        refine zicmp_eq (tgt := 98) hx hb dX11_through_91 (by decide) hf (fun hf => ?_) (fun hf => ?_)
        · refine lv_iconst (v := 0) hx hb dX11_through_98 (by decide) ?_
          refine lv_istore (lv' := [(5, .int 0), (4, .int t0), (0, .ref (ad 0)), (1, .int x1), (2, .int x2), (3, .int x3)]) hx hb dX11_through_99 hl (by decide) rfl (fun ls hl => ?_)
          exact hc_101 ZF x1 x2 x3 t0 0 s1 _ _ _ (lv_sub hl [2, 3, 4, 5, 1, 0] rfl) hP hS hf
        · refine zldc2 X co_X11_227 dX11_through_94 ?_
          exact zret_l X hP hS hf dX11_through_97
  have hc_42 : ∀ (x1 : Int32) (x2 : Int32) (x3 : Int32) (s1 : SS) (H : Heap) (locs : List Loc) (ls : Array Slot), lv_has ls 10 [(0, .ref (ad 0)), (1, .int x1), (2, .int x2), (3, .int x3)] → va_P D ZCL (zw Ox Nx cA ad s1) H → va_S A s.heap H locs → f_X11_through_c42 x1 x2 x3 s1 = some (rr, sr) → W p l e (zrm 4) s m args below meth c H locs 0 0 (MQ below (zQc Ox Nx cA ad D A (some (.long rr)) sr) args s 0 0 A) (F0 m 42 ls []) := by
    intro x1 x2 x3 s1 H locs ls hl hP hS hf
    rw [f_X11_through_c42] at hf
    refine lv_iload_n hx hb dX11_through_42 rfl (lv_at hl 3 rfl) ?_
    refine lv_iconst (v := (-1)) hx hb dX11_through_43 (by decide) ?_
    refine zicmp_ne (tgt := 51) hx hb dX11_through_44 (by decide) hf (fun hf => ?_) (fun hf => ?_)
    · refine lv_aload_n hx hb dX11_through_51 rfl (lv_at hl 0 rfl) ?_
      refine gf_X11_63 X hP (k := 0) (q := 11) rfl dX11_through_52 rfl ?_
      refine lv_iload_n hx hb dX11_through_55 rfl (lv_at hl 3 rfl) ?_
      obtain ⟨r1, s2, h3, hf⟩ := zbd_some hf
      refine zcallV X hP hS hl.1 (k := 11) (As := [.int x3]) (rest := []) (cn_X5_sizeOf h3) cw_X5_sizeOf zp_5 rfl (by decide) rfl ml_X11_244 (by decide) rfl rfl (Nat.le_of_ble_eq_true rfl) dX11_through_56 (fun H locs hP hS => ?_)
      exact hc_59 x1 x2 x3 r1 s2 _ _ _ (lv_sub hl [0, 1, 2, 3] rfl) hP hS hf
    · refine lv_iconst (v := 0) hx hb dX11_through_47 (by decide) ?_
      refine lv_goto (tgt := 59) hx hb dX11_through_48 (by decide) ?_
      exact hc_59 x1 x2 x3 0 s1 _ _ _ (lv_sub hl [0, 1, 2, 3] rfl) hP hS hf
  rw [f_X11_through] at hf
  refine lv_iload_n hx hb dX11_through_0 rfl (lv_at hl 1 rfl) ?_
  refine zif_lt (tgt := 18) hx hb dX11_through_1 (by decide) hf (fun hf => ?_) (fun hf => ?_)
  · refine zldc2 X co_X11_132 dX11_through_18 ?_
    exact zret_l X hP hS hf dX11_through_21
  · refine lv_iload_n hx hb dX11_through_4 rfl (lv_at hl 1 rfl) ?_
    refine lv_iconst (v := 5) hx hb dX11_through_5 (by decide) ?_
    refine zicmp_gt (tgt := 18) hx hb dX11_through_6 (by decide) hf (fun hf => ?_) (fun hf => ?_)
    · refine zldc2 X co_X11_132 dX11_through_18 ?_
      exact zret_l X hP hS hf dX11_through_21
    · refine lv_iload_n hx hb dX11_through_9 rfl (lv_at hl 2 rfl) ?_
      refine zif_lt (tgt := 18) hx hb dX11_through_10 (by decide) hf (fun hf => ?_) (fun hf => ?_)
      · refine zldc2 X co_X11_132 dX11_through_18 ?_
        exact zret_l X hP hS hf dX11_through_21
      · refine lv_iload_n hx hb dX11_through_13 rfl (lv_at hl 2 rfl) ?_
        refine lv_iconst (v := 5) hx hb dX11_through_14 (by decide) ?_
        refine zicmp_le (tgt := 22) hx hb dX11_through_15 (by decide) hf (fun hf => ?_) (fun hf => ?_)
        · refine lv_iload_n hx hb dX11_through_22 rfl (lv_at hl 3 rfl) ?_
          refine lv_iconst (v := (-1)) hx hb dX11_through_23 (by decide) ?_
          refine zicmp_eq (tgt := 42) hx hb dX11_through_24 (by decide) hf (fun hf => ?_) (fun hf => ?_)
          · exact hc_42 x1 x2 x3 s0 _ _ _ (lv_sub hl [0, 1, 2, 3] rfl) hP hS hf
          · refine lv_aload_n hx hb dX11_through_27 rfl (lv_at hl 0 rfl) ?_
            refine gf_X11_63 X hP (k := 0) (q := 11) rfl dX11_through_28 rfl ?_
            refine lv_iload_n hx hb dX11_through_31 rfl (lv_at hl 3 rfl) ?_
            obtain ⟨r28, s29, h30, hf⟩ := zbd_some hf
            refine zcallV X hP hS hl.1 (k := 11) (As := [.int x3]) (rest := []) (cn_X5_isThere h30) cw_X5_isThere zp_5 rfl (by decide) rfl ml_X11_220 (by decide) rfl rfl (Nat.le_of_ble_eq_true rfl) dX11_through_32 (fun H locs hP hS => ?_)
            refine zif_ne (tgt := 42) hx hb dX11_through_35 (by decide) hf (fun hf => ?_) (fun hf => ?_)
            · exact hc_42 x1 x2 x3 s29 _ _ _ (lv_sub hl [0, 1, 2, 3] rfl) hP hS hf
            · refine zldc2 X co_X11_132 dX11_through_38 ?_
              exact zret_l X hP hS hf dX11_through_41
        · refine zldc2 X co_X11_132 dX11_through_18 ?_
          exact zret_l X hP hS hf dX11_through_21
