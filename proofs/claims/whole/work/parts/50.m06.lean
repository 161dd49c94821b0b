theorem dX12_numberAt_0 : decode cX12_numberAt 0 = .ok (.aload_n 0, 1) := by decide +kernel
theorem dX12_numberAt_1 : decode cX12_numberAt 1 = .ok (.getfield 95, 3) := by decide +kernel
theorem dX12_numberAt_4 : decode cX12_numberAt 4 = .ok (.sipush 462, 3) := by decide +kernel
theorem dX12_numberAt_7 : decode cX12_numberAt 7 = .ok (.iload_n 1, 1) := by decide +kernel
theorem dX12_numberAt_8 : decode cX12_numberAt 8 = .ok (.imul, 1) := by decide +kernel
theorem dX12_numberAt_9 : decode cX12_numberAt 9 = .ok (.iload_n 2, 1) := by decide +kernel
theorem dX12_numberAt_10 : decode cX12_numberAt 10 = .ok (.iadd, 1) := by decide +kernel
theorem dX12_numberAt_11 : decode cX12_numberAt 11 = .ok (.laload, 1) := by decide +kernel
theorem dX12_numberAt_12 : decode cX12_numberAt 12 = .ok (.lstore_n 3, 1) := by decide +kernel
theorem dX12_numberAt_13 : decode cX12_numberAt 13 = .ok (.aload_n 0, 1) := by decide +kernel
theorem dX12_numberAt_14 : decode cX12_numberAt 14 = .ok (.getfield 105, 3) := by decide +kernel
theorem dX12_numberAt_17 : decode cX12_numberAt 17 = .ok (.iload_n 1, 1) := by decide +kernel
theorem dX12_numberAt_18 : decode cX12_numberAt 18 = .ok (.iaload, 1) := by decide +kernel
theorem dX12_numberAt_19 : decode cX12_numberAt 19 = .ok (.tableswitch 100 0 4 #[33, 35, 38, 50, 71], 33) := by decide +kernel
theorem dX12_numberAt_52 : decode cX12_numberAt 52 = .ok (.lload_n 3, 1) := by decide +kernel
theorem dX12_numberAt_53 : decode cX12_numberAt 53 = .ok (.lreturn, 1) := by decide +kernel
theorem dX12_numberAt_54 : decode cX12_numberAt 54 = .ok (.lload_n 3, 1) := by decide +kernel
theorem dX12_numberAt_55 : decode cX12_numberAt 55 = .ok (.lneg, 1) := by decide +kernel
theorem dX12_numberAt_56 : decode cX12_numberAt 56 = .ok (.lreturn, 1) := by decide +kernel
theorem dX12_numberAt_57 : decode cX12_numberAt 57 = .ok (.lload_n 3, 1) := by decide +kernel
theorem dX12_numberAt_58 : decode cX12_numberAt 58 = .ok (.aload_n 0, 1) := by decide +kernel
theorem dX12_numberAt_59 : decode cX12_numberAt 59 = .ok (.getfield 108, 3) := by decide +kernel
theorem dX12_numberAt_62 : decode cX12_numberAt 62 = .ok (.iload_n 1, 1) := by decide +kernel
theorem dX12_numberAt_63 : decode cX12_numberAt 63 = .ok (.iaload, 1) := by decide +kernel
theorem dX12_numberAt_64 : decode cX12_numberAt 64 = .ok (.iconst 1, 1) := by decide +kernel
theorem dX12_numberAt_65 : decode cX12_numberAt 65 = .ok (.iadd, 1) := by decide +kernel
theorem dX12_numberAt_66 : decode cX12_numberAt 66 = .ok (.i2l, 1) := by decide +kernel
theorem dX12_numberAt_67 : decode cX12_numberAt 67 = .ok (.lmul, 1) := by decide +kernel
theorem dX12_numberAt_68 : decode cX12_numberAt 68 = .ok (.lreturn, 1) := by decide +kernel
theorem dX12_numberAt_69 : decode cX12_numberAt 69 = .ok (.aload_n 0, 1) := by decide +kernel
theorem dX12_numberAt_70 : decode cX12_numberAt 70 = .ok (.getfield 75, 3) := by decide +kernel
theorem dX12_numberAt_73 : decode cX12_numberAt 73 = .ok (.iload_n 2, 1) := by decide +kernel
theorem dX12_numberAt_74 : decode cX12_numberAt 74 = .ok (.iaload, 1) := by decide +kernel
theorem dX12_numberAt_75 : decode cX12_numberAt 75 = .ok (.aload_n 0, 1) := by decide +kernel
theorem dX12_numberAt_76 : decode cX12_numberAt 76 = .ok (.getfield 108, 3) := by decide +kernel
theorem dX12_numberAt_79 : decode cX12_numberAt 79 = .ok (.iload_n 1, 1) := by decide +kernel
theorem dX12_numberAt_80 : decode cX12_numberAt 80 = .ok (.iaload, 1) := by decide +kernel
theorem dX12_numberAt_81 : decode cX12_numberAt 81 = .ok (.if_icmp .ne 7, 3) := by decide +kernel
theorem dX12_numberAt_84 : decode cX12_numberAt 84 = .ok (.lload_n 3, 1) := by decide +kernel
theorem dX12_numberAt_85 : decode cX12_numberAt 85 = .ok (.goto 4, 3) := by decide +kernel
theorem dX12_numberAt_88 : decode cX12_numberAt 88 = .ok (.lconst 0, 1) := by decide +kernel
theorem dX12_numberAt_89 : decode cX12_numberAt 89 = .ok (.lreturn, 1) := by decide +kernel
theorem dX12_numberAt_90 : decode cX12_numberAt 90 = .ok (.aload_n 0, 1) := by decide +kernel
theorem dX12_numberAt_91 : decode cX12_numberAt 91 = .ok (.aload_n 0, 1) := by decide +kernel
theorem dX12_numberAt_92 : decode cX12_numberAt 92 = .ok (.getfield 62, 3) := by decide +kernel
theorem dX12_numberAt_95 : decode cX12_numberAt 95 = .ok (.iload_n 2, 1) := by decide +kernel
theorem dX12_numberAt_96 : decode cX12_numberAt 96 = .ok (.iaload, 1) := by decide +kernel
theorem dX12_numberAt_97 : decode cX12_numberAt 97 = .ok (.invokevirtual 229, 3) := by decide +kernel
theorem dX12_numberAt_100 : decode cX12_numberAt 100 = .ok (.ifCond .eq 17, 3) := by decide +kernel
theorem dX12_numberAt_103 : decode cX12_numberAt 103 = .ok (.lload_n 3, 1) := by decide +kernel
theorem dX12_numberAt_104 : decode cX12_numberAt 104 = .ok (.aload_n 0, 1) := by decide +kernel
theorem dX12_numberAt_105 : decode cX12_numberAt 105 = .ok (.getfield 108, 3) := by decide +kernel
theorem dX12_numberAt_108 : decode cX12_numberAt 108 = .ok (.iload_n 1, 1) := by decide +kernel
theorem dX12_numberAt_109 : decode cX12_numberAt 109 = .ok (.iaload, 1) := by decide +kernel
theorem dX12_numberAt_110 : decode cX12_numberAt 110 = .ok (.iconst 1, 1) := by decide +kernel
theorem dX12_numberAt_111 : decode cX12_numberAt 111 = .ok (.iadd, 1) := by decide +kernel
theorem dX12_numberAt_112 : decode cX12_numberAt 112 = .ok (.i2l, 1) := by decide +kernel
theorem dX12_numberAt_113 : decode cX12_numberAt 113 = .ok (.lmul, 1) := by decide +kernel
theorem dX12_numberAt_114 : decode cX12_numberAt 114 = .ok (.goto 4, 3) := by decide +kernel
theorem dX12_numberAt_117 : decode cX12_numberAt 117 = .ok (.lconst 0, 1) := by decide +kernel
theorem dX12_numberAt_118 : decode cX12_numberAt 118 = .ok (.lreturn, 1) := by decide +kernel
theorem dX12_numberAt_119 : decode cX12_numberAt 119 = .ok (.aload_n 0, 1) := by decide +kernel
theorem dX12_numberAt_120 : decode cX12_numberAt 120 = .ok (.getfield 75, 3) := by decide +kernel
theorem dX12_numberAt_123 : decode cX12_numberAt 123 = .ok (.iload_n 2, 1) := by decide +kernel
theorem dX12_numberAt_124 : decode cX12_numberAt 124 = .ok (.iaload, 1) := by decide +kernel
theorem dX12_numberAt_125 : decode cX12_numberAt 125 = .ok (.iconst 2, 1) := by decide +kernel
theorem dX12_numberAt_126 : decode cX12_numberAt 126 = .ok (.irem, 1) := by decide +kernel
theorem dX12_numberAt_127 : decode cX12_numberAt 127 = .ok (.iconst 1, 1) := by decide +kernel
theorem dX12_numberAt_128 : decode cX12_numberAt 128 = .ok (.if_icmp .ne 8, 3) := by decide +kernel
theorem dX12_numberAt_131 : decode cX12_numberAt 131 = .ok (.lload_n 3, 1) := by decide +kernel
theorem dX12_numberAt_132 : decode cX12_numberAt 132 = .ok (.lneg, 1) := by decide +kernel
theorem dX12_numberAt_133 : decode cX12_numberAt 133 = .ok (.goto 4, 3) := by decide +kernel
theorem dX12_numberAt_136 : decode cX12_numberAt 136 = .ok (.lload_n 3, 1) := by decide +kernel
theorem dX12_numberAt_137 : decode cX12_numberAt 137 = .ok (.lreturn, 1) := by decide +kernel
set_option maxHeartbeats 4000000 in
set_option maxRecDepth 100000 in
theorem cn_X12_numberAt {l : Launch} {cA : Nat → ClassId} {ad : Nat → Nat} {D : va_G} {E : Nat → Nat} {A : Nat → Prop} {x1 : Int32} {x2 : Int32} {s0 sr : SS} {rr : Int64} (hf : f_X12_numberAt x1 x2 s0 = some (rr, sr)) : zCon Om Nm cA ad D E l yX12_numberAt cX12_numberAt 5 (some .long) 3 A [.ref (ad 0), .int x1, .int x2] s0 (some (.long rr)) sr := by
  refine zstart (own := RX12) hOm (by decide) rfl (Nat.le_of_ble_eq_true rfl) ?_
  intro p e s m args below meth c X hP ls hl
  have hx := X.1
  have hb := X.2.1
  have hl : lv_has ls 5 [(0, .ref (ad 0)), (1, .int x1), (2, .int x2)] := hl
  have hS : va_S A s.heap s.heap [] := va_S.rf
  rw [f_X12_numberAt] at hf
  refine lv_aload_n hx hb dX12_numberAt_0 rfl (lv_at hl 0 rfl) ?_
  refine gf_X12_95 X hP (k := 0) (q := 10) rfl dX12_numberAt_1 rfl ?_
  refine lv_sipush (v := 462) hx hb dX12_numberAt_4 (by decide) ?_
  refine lv_iload_n hx hb dX12_numberAt_7 rfl (lv_at hl 1 rfl) ?_
  refine lv_imul hx hb dX12_numberAt_8 ?_
  refine lv_iload_n hx hb dX12_numberAt_9 rfl (lv_at hl 2 rfl) ?_
  refine lv_iadd hx hb dX12_numberAt_10 ?_
  obtain ⟨g1, hf⟩ := zgd hf
  refine zald_l X hP (k := 10) (n := 3696) (rs := []) rfl g1 dX12_numberAt_11 ?_
  refine lv_lstore_n (lv' := [(3, .long (s0.2 10 ((((462 : Int32) * x1) + x2)).toNatClampNeg)), (0, .ref (ad 0)), (1, .int x1), (2, .int x2)]) hx hb dX12_numberAt_12 rfl hl (by decide) rfl (fun ls hl => ?_)
  refine lv_aload_n hx hb dX12_numberAt_13 rfl (lv_at hl 1 rfl) ?_
  refine gf_X12_105 X hP (k := 0) (q := 8) rfl dX12_numberAt_14 rfl ?_
  refine lv_iload_n hx hb dX12_numberAt_17 rfl (lv_at hl 2 rfl) ?_
  obtain ⟨g2, hf⟩ := zgd hf
  refine zald_i X hP (k := 8) (n := 8) (rs := []) rfl g2 dX12_numberAt_18 ?_
  by_cases e3 : (s0.1 8 (x1).toNatClampNeg) = 0
  · rw [if_pos e3] at hf
    refine lv_tableIn (tgt := 52) (off := 33) hx hb dX12_numberAt_19 (by rw [e3]; decide) (by rw [e3]; decide) (by rw [e3]; decide +kernel) (by decide) ?_
    refine lv_lload_n hx hb dX12_numberAt_52 rfl (lv_at hl 0 rfl) ?_
    exact zret_l X hP hS hf dX12_numberAt_53
  · rw [if_neg e3] at hf
    by_cases e4 : (s0.1 8 (x1).toNatClampNeg) = 1
    · rw [if_pos e4] at hf
      refine lv_tableIn (tgt := 54) (off := 35) hx hb dX12_numberAt_19 (by rw [e4]; decide) (by rw [e4]; decide) (by rw [e4]; decide +kernel) (by decide) ?_
      refine lv_lload_n hx hb dX12_numberAt_54 rfl (lv_at hl 0 rfl) ?_
      refine lv_lneg hx hb dX12_numberAt_55 ?_
      exact zret_l X hP hS hf dX12_numberAt_56
    · rw [if_neg e4] at hf
      by_cases e5 : (s0.1 8 (x1).toNatClampNeg) = 2
      · rw [if_pos e5] at hf
        refine lv_tableIn (tgt := 57) (off := 38) hx hb dX12_numberAt_19 (by rw [e5]; decide) (by rw [e5]; decide) (by rw [e5]; decide +kernel) (by decide) ?_
        refine lv_lload_n hx hb dX12_numberAt_57 rfl (lv_at hl 0 rfl) ?_
        refine lv_aload_n hx hb dX12_numberAt_58 rfl (lv_at hl 1 rfl) ?_
        refine gf_X12_108 X hP (k := 0) (q := 9) rfl dX12_numberAt_59 rfl ?_
        refine lv_iload_n hx hb dX12_numberAt_62 rfl (lv_at hl 2 rfl) ?_
        obtain ⟨g6, hf⟩ := zgd hf
        refine zald_i X hP (k := 9) (n := 8) (rs := []) rfl g6 dX12_numberAt_63 ?_
        refine lv_iconst (v := 1) hx hb dX12_numberAt_64 (by decide) ?_
        refine lv_iadd hx hb dX12_numberAt_65 ?_
        refine lv_i2l hx hb dX12_numberAt_66 rfl ?_
        refine lv_lmul hx hb dX12_numberAt_67 ?_
        exact zret_l X hP hS hf dX12_numberAt_68
      · rw [if_neg e5] at hf
        by_cases e7 : (s0.1 8 (x1).toNatClampNeg) = 3
        · rw [if_pos e7] at hf
          refine lv_tableIn (tgt := 69) (off := 50) hx hb dX12_numberAt_19 (by rw [e7]; decide) (by rw [e7]; decide) (by rw [e7]; decide +kernel) (by decide) ?_
          refine lv_aload_n hx hb dX12_numberAt_69 rfl (lv_at hl 1 rfl) ?_
          refine gf_X12_75 X hP (k := 0) (q := 5) rfl dX12_numberAt_70 rfl ?_
          refine lv_iload_n hx hb dX12_numberAt_73 rfl (lv_at hl 3 rfl) ?_
          obtain ⟨g8, hf⟩ := zgd hf
          refine zald_i X hP (k := 5) (n := 462) (rs := []) rfl g8 dX12_numberAt_74 ?_
          refine lv_aload_n hx hb dX12_numberAt_75 rfl (lv_at hl 1 rfl) ?_
          refine gf_X12_108 X hP (k := 0) (q := 9) rfl dX12_numberAt_76 rfl ?_
          refine lv_iload_n hx hb dX12_numberAt_79 rfl (lv_at hl 2 rfl) ?_
          obtain ⟨g9, hf⟩ := zgd hf
          refine zald_i X hP (k := 9) (n := 8) (rs := []) rfl g9 dX12_numberAt_80 ?_
          refine zicmp_ne (tgt := 88) hx hb dX12_numberAt_81 (by decide) hf (fun hf => ?_) (fun hf => ?_)
          · refine lv_lconst (v := 0) hx hb dX12_numberAt_88 (by decide) ?_
            exact zret_l X hP hS hf dX12_numberAt_89
          · refine lv_lload_n hx hb dX12_numberAt_84 rfl (lv_at hl 0 rfl) ?_
            refine lv_goto (tgt := 89) hx hb dX12_numberAt_85 (by decide) ?_
            exact zret_l X hP hS hf dX12_numberAt_89
        · rw [if_neg e7] at hf
          by_cases e10 : (s0.1 8 (x1).toNatClampNeg) = 4
          · rw [if_pos e10] at hf
            refine lv_tableIn (tgt := 90) (off := 71) hx hb dX12_numberAt_19 (by rw [e10]; decide) (by rw [e10]; decide) (by rw [e10]; decide +kernel) (by decide) ?_
            refine lv_aload_n hx hb dX12_numberAt_90 rfl (lv_at hl 1 rfl) ?_
            refine lv_aload_n hx hb dX12_numberAt_91 rfl (lv_at hl 1 rfl) ?_
            refine gf_X12_62 X hP (k := 0) (q := 4) rfl dX12_numberAt_92 rfl ?_
            refine lv_iload_n hx hb dX12_numberAt_95 rfl (lv_at hl 3 rfl) ?_
            obtain ⟨g11, hf⟩ := zgd hf
            refine zald_i X hP (k := 4) (n := 462) (rs := []) rfl g11 dX12_numberAt_96 ?_
            obtain ⟨r12, s13, h14, hf⟩ := zbd_some hf
            refine zcallV X hP hS hl.1 (k := 0) (As := [.int (s0.1 4 (x2).toNatClampNeg)]) (rest := []) (cn_X12_isPlain h14) cw_X12_isPlain zp_12 rfl (by decide) rfl ml_X12_229 (by decide) rfl rfl (Nat.le_of_ble_eq_true rfl) dX12_numberAt_97 (fun H locs hP hS => ?_)
            refine zif_eq (tgt := 117) hx hb dX12_numberAt_100 (by decide) hf (fun hf => ?_) (fun hf => ?_)
            · refine lv_lconst (v := 0) hx hb dX12_numberAt_117 (by decide) ?_
              exact zret_l X hP hS hf dX12_numberAt_118
            · refine lv_lload_n hx hb dX12_numberAt_103 rfl (lv_at hl 0 rfl) ?_
              refine lv_aload_n hx hb dX12_numberAt_104 rfl (lv_at hl 1 rfl) ?_
              refine gf_X12_108 X hP (k := 0) (q := 9) rfl dX12_numberAt_105 rfl ?_
              refine lv_iload_n hx hb dX12_numberAt_108 rfl (lv_at hl 2 rfl) ?_
              obtain ⟨g15, hf⟩ := zgd hf
              refine zald_i X hP (k := 9) (n := 8) (rs := []) rfl g15 dX12_numberAt_109 ?_
              refine lv_iconst (v := 1) hx hb dX12_numberAt_110 (by decide) ?_
              refine lv_iadd hx hb dX12_numberAt_111 ?_
              refine lv_i2l hx hb dX12_numberAt_112 rfl ?_
              refine lv_lmul hx hb dX12_numberAt_113 ?_
              refine lv_goto (tgt := 118) hx hb dX12_numberAt_114 (by decide) ?_
              exact zret_l X hP hS hf dX12_numberAt_118
          · rw [if_neg e10] at hf
            have ye3 := zne e3 (v := 0) (by decide)
            have ye4 := zne e4 (v := 1) (by decide)
            have ye5 := zne e5 (v := 2) (by decide)
            have ye7 := zne e7 (v := 3) (by decide)
            have ye10 := zne e10 (v := 4) (by decide)
            refine lv_tableOut (tgt := 119) hx hb dX12_numberAt_19 (by omega) (by decide) ?_
            refine lv_aload_n hx hb dX12_numberAt_119 rfl (lv_at hl 1 rfl) ?_
            refine gf_X12_75 X hP (k := 0) (q := 5) rfl dX12_numberAt_120 rfl ?_
            refine lv_iload_n hx hb dX12_numberAt_123 rfl (lv_at hl 3 rfl) ?_
            obtain ⟨g16, hf⟩ := zgd hf
            refine zald_i X hP (k := 5) (n := 462) (rs := []) rfl g16 dX12_numberAt_124 ?_
            refine lv_iconst (v := 2) hx hb dX12_numberAt_125 (by decide) ?_
            refine lv_irem hx hb dX12_numberAt_126 (by decide) ?_
            refine lv_iconst (v := 1) hx hb dX12_numberAt_127 (by decide) ?_
            refine zicmp_ne (tgt := 136) hx hb dX12_numberAt_128 (by decide) hf (fun hf => ?_) (fun hf => ?_)
            · refine lv_lload_n hx hb dX12_numberAt_136 rfl (lv_at hl 0 rfl) ?_
              exact zret_l X hP hS hf dX12_numberAt_137
            · refine lv_lload_n hx hb dX12_numberAt_131 rfl (lv_at hl 0 rfl) ?_
              refine lv_lneg hx hb dX12_numberAt_132 ?_
              refine lv_goto (tgt := 137) hx hb dX12_numberAt_133 (by decide) ?_
              exact zret_l X hP hS hf dX12_numberAt_137
theorem dX12_layClass_0 : decode cX12_layClass 0 = .ok (.iconst 0, 1) := by decide +kernel
theorem dX12_layClass_1 : decode cX12_layClass 1 = .ok (.istore_n 3, 1) := by decide +kernel
theorem dX12_layClass_2 : decode cX12_layClass 2 = .ok (.iload_n 3, 1) := by decide +kernel
theorem dX12_layClass_3 : decode cX12_layClass 3 = .ok (.aload_n 0, 1) := by decide +kernel
theorem dX12_layClass_4 : decode cX12_layClass 4 = .ok (.getfield 56, 3) := by decide +kernel
theorem dX12_layClass_7 : decode cX12_layClass 7 = .ok (.if_icmp .ge 18, 3) := by decide +kernel
theorem dX12_layClass_10 : decode cX12_layClass 10 = .ok (.aload_n 2, 1) := by decide +kernel
theorem dX12_layClass_11 : decode cX12_layClass 11 = .ok (.iload_n 3, 1) := by decide +kernel
theorem dX12_layClass_12 : decode cX12_layClass 12 = .ok (.aload_n 0, 1) := by decide +kernel
theorem dX12_layClass_13 : decode cX12_layClass 13 = .ok (.iload_n 1, 1) := by decide +kernel
theorem dX12_layClass_14 : decode cX12_layClass 14 = .ok (.iload_n 3, 1) := by decide +kernel
theorem dX12_layClass_15 : decode cX12_layClass 15 = .ok (.invokevirtual 233, 3) := by decide +kernel
theorem dX12_layClass_18 : decode cX12_layClass 18 = .ok (.lastore, 1) := by decide +kernel
theorem dX12_layClass_19 : decode cX12_layClass 19 = .ok (.iinc 3 1, 3) := by decide +kernel
theorem dX12_layClass_22 : decode cX12_layClass 22 = .ok (.goto (-20), 3) := by decide +kernel
theorem dX12_layClass_25 : decode cX12_layClass 25 = .ok (.return_, 1) := by decide +kernel
set_option maxHeartbeats 4000000 in
set_option maxRecDepth 100000 in
theorem cn_X12_layClass {l : Launch} {cA : Nat → ClassId} {ad : Nat → Nat} {D : va_G} {E : Nat → Nat} {A : Nat → Prop} {x1 : Int32} {k2 : Nat} {s0 sr : SS} {rr : Unit} (hf : f_X12_layClass x1 k2 s0 = some (rr, sr)) : zCon Om Nm cA ad D E l yX12_layClass cX12_layClass 4 none 4 A [.ref (ad 0), .int x1, .ref (ad k2)] s0 none sr := by
  refine zstart (own := RX12) hOm (by decide) rfl (Nat.le_of_ble_eq_true rfl) ?_
  intro p e s m args below meth c X hP ls hl
  have hx := X.1
  have hb := X.2.1
  have hl : lv_has ls 4 [(0, .ref (ad 0)), (1, .int x1), (2, .ref (ad k2))] := hl
  have hS : va_S A s.heap s.heap [] := va_S.rf
  have hc_2 : ∀ (n2 : Nat) (x1 : Int32) (k2 : Nat) (x3 : Int32) (s1 : SS) (H : Heap) (locs : List Loc) (ls : Array Slot), lv_has ls 4 [(0, .ref (ad 0)), (1, .int x1), (2, .ref (ad k2)), (3, .int x3)] → va_P D ZCL (zw Om Nm cA ad s1) H → va_S A s.heap H locs → f_X12_layClass_c2 n2 x1 k2 x3 s1 = some (rr, sr) → W p l e (zrm 4) s m args below meth c H locs 0 0 (MQ below (zQc Om Nm cA ad D A none sr) args s 0 0 A) (F0 m 2 ls []) := by
    intro n2
    induction n2 with
    | zero =>
      intro x1 k2 x3 s1 H locs ls hl hP hS hf
      rw [f_X12_layClass_c2] at hf
      cases hf
    | succ n2 ih2 =>
      intro x1 k2 x3 s1 H locs ls hl hP hS hf
      rw [f_X12_layClass_c2] at hf
      refine lv_iload_n hx hb dX12_layClass_2 rfl (lv_at hl 3 rfl) ?_
      refine lv_aload_n hx hb dX12_layClass_3 rfl (lv_at hl 0 rfl) ?_
      refine gf_X12_56 X hP (k := 0) rfl dX12_layClass_4 ?_
      refine zicmp_ge (tgt := 25) hx hb dX12_layClass_7 (by decide) hf (fun hf => ?_) (fun hf => ?_)
      · exact zret_v X hP hS hf dX12_layClass_25
      · refine lv_aload_n hx hb dX12_layClass_10 rfl (lv_at hl 2 rfl) ?_
        refine lv_iload_n hx hb dX12_layClass_11 rfl (lv_at hl 3 rfl) ?_
        refine lv_aload_n hx hb dX12_layClass_12 rfl (lv_at hl 0 rfl) ?_
        refine lv_iload_n hx hb dX12_layClass_13 rfl (lv_at hl 1 rfl) ?_
        refine lv_iload_n hx hb dX12_layClass_14 rfl (lv_at hl 3 rfl) ?_
        obtain ⟨r1, s2, h3, hf⟩ := zbd_some hf
        refine zcallV X hP hS hl.1 (k := 0) (As := [.int x1, .int x3]) (rest := [.int x3, .ref (ad k2)]) (cn_X12_numberAt h3) cw_X12_numberAt zp_12 rfl (by decide) rfl ml_X12_233 (by decide) rfl rfl (Nat.le_of_ble_eq_true rfl) dX12_layClass_15 (fun H locs hP hS => ?_)
        obtain ⟨g4, hf⟩ := zgd hf
        obtain ⟨n5, rn5, on5, in5⟩ := zok_of g4
        refine zast_l X hP hS (k := k2) on5 in5 dX12_layClass_18 (fun H locs hP hS => ?_)
        refine lv_iinc (v := (x3 + 1)) (lv' := [(3, .int (x3 + 1)), (0, .ref (ad 0)), (1, .int x1), (2, .ref (ad k2))]) hx hb dX12_layClass_19 hl (k := 3) rfl rfl (by decide) rfl (fun ls hl => ?_)
        refine lv_goto (tgt := 2) hx hb dX12_layClass_22 (by decide) ?_
        exact ih2 x1 k2 (x3 + 1) (zSL s2 k2 (x3).toNatClampNeg r1) _ _ _ (lv_sub hl [1, 2, 3, 0] rfl) hP hS hf
  rw [f_X12_layClass] at hf
  refine lv_iconst (v := 0) hx hb dX12_layClass_0 (by decide) ?_
  refine lv_istore_n (lv' := [(3, .int 0), (0, .ref (ad 0)), (1, .int x1), (2, .ref (ad k2))]) hx hb dX12_layClass_1 rfl hl (by decide) rfl (fun ls hl => ?_)
  exact hc_2 ZF x1 k2 0 s0 _ _ _ (lv_sub hl [1, 2, 3, 0] rfl) hP hS hf
theorem dX12_layOne_0 : decode cX12_layOne 0 = .ok (.iconst 0, 1) := by decide +kernel
theorem dX12_layOne_1 : decode cX12_layOne 1 = .ok (.istore_n 2, 1) := by decide +kernel
theorem dX12_layOne_2 : decode cX12_layOne 2 = .ok (.iload_n 2, 1) := by decide +kernel
theorem dX12_layOne_3 : decode cX12_layOne 3 = .ok (.aload_n 0, 1) := by decide +kernel
theorem dX12_layOne_4 : decode cX12_layOne 4 = .ok (.getfield 56, 3) := by decide +kernel
theorem dX12_layOne_7 : decode cX12_layOne 7 = .ok (.if_icmp .ge 26, 3) := by decide +kernel
theorem dX12_layOne_10 : decode cX12_layOne 10 = .ok (.aload_n 1, 1) := by decide +kernel
theorem dX12_layOne_11 : decode cX12_layOne 11 = .ok (.iload_n 2, 1) := by decide +kernel
theorem dX12_layOne_12 : decode cX12_layOne 12 = .ok (.aload_n 0, 1) := by decide +kernel
theorem dX12_layOne_13 : decode cX12_layOne 13 = .ok (.getfield 62, 3) := by decide +kernel
theorem dX12_layOne_16 : decode cX12_layOne 16 = .ok (.iload_n 2, 1) := by decide +kernel
theorem dX12_layOne_17 : decode cX12_layOne 17 = .ok (.iaload, 1) := by decide +kernel
theorem dX12_layOne_18 : decode cX12_layOne 18 = .ok (.ifCond .ne 7, 3) := by decide +kernel
theorem dX12_layOne_21 : decode cX12_layOne 21 = .ok (.lconst 1, 1) := by decide +kernel
theorem dX12_layOne_22 : decode cX12_layOne 22 = .ok (.goto 4, 3) := by decide +kernel
theorem dX12_layOne_25 : decode cX12_layOne 25 = .ok (.lconst 0, 1) := by decide +kernel
theorem dX12_layOne_26 : decode cX12_layOne 26 = .ok (.lastore, 1) := by decide +kernel
theorem dX12_layOne_27 : decode cX12_layOne 27 = .ok (.iinc 2 1, 3) := by decide +kernel
theorem dX12_layOne_30 : decode cX12_layOne 30 = .ok (.goto (-28), 3) := by decide +kernel
theorem dX12_layOne_33 : decode cX12_layOne 33 = .ok (.return_, 1) := by decide +kernel
set_option maxHeartbeats 4000000 in
set_option maxRecDepth 100000 in
theorem cn_X12_layOne {l : Launch} {cA : Nat → ClassId} {ad : Nat → Nat} {D : va_G} {E : Nat → Nat} {A : Nat → Prop} {k1 : Nat} {s0 sr : SS} {rr : Unit} (hf : f_X12_layOne k1 s0 = some (rr, sr)) : zCon Om Nm cA ad D E l yX12_layOne cX12_layOne 3 none 0 A [.ref (ad 0), .ref (ad k1)] s0 none sr := by
  refine zstart (own := RX12) hOm (by decide) rfl (Nat.le_of_ble_eq_true rfl) ?_
  intro p e s m args below meth c X hP ls hl
  have hx := X.1
  have hb := X.2.1
  have hl : lv_has ls 3 [(0, .ref (ad 0)), (1, .ref (ad k1))] := hl
  have hS : va_S A s.heap s.heap [] := va_S.rf
  have hc_2 : ∀ (n2 : Nat) (k1 : Nat) (x2 : Int32) (s1 : SS) (H : Heap) (locs : List Loc) (ls : Array Slot), lv_has ls 3 [(0, .ref (ad 0)), (1, .ref (ad k1)), (2, .int x2)] → va_P D ZCL (zw Om Nm cA ad s1) H → va_S A s.heap H locs → f_X12_layOne_c2 n2 k1 x2 s1 = some (rr, sr) → W p l e (zrm 0) s m args below meth c H locs 0 0 (MQ below (zQc Om Nm cA ad D A none sr) args s 0 0 A) (F0 m 2 ls []) := by
    intro n2
    induction n2 with
    | zero =>
      intro k1 x2 s1 H locs ls hl hP hS hf
      rw [f_X12_layOne_c2] at hf
      cases hf
    | succ n2 ih2 =>
      have hc_26 : ∀ (k1 : Nat) (x2 : Int32) (t0 : Int64) (t1 : Int32) (kt2 : Nat) (s1 : SS) (H : Heap) (locs : List Loc) (ls : Array Slot), lv_has ls 3 [(0, .ref (ad 0)), (1, .ref (ad k1)), (2, .int x2)] → va_P D ZCL (zw Om Nm cA ad s1) H → va_S A s.heap H locs → f_X12_layOne_c26 (f_X12_layOne_c2 n2) k1 x2 t0 t1 kt2 s1 = some (rr, sr) → W p l e (zrm 0) s m args below meth c H locs 0 0 (MQ below (zQc Om Nm cA ad D A none sr) args s 0 0 A) (F0 m 26 ls [.long t0, .int t1, .ref (ad kt2)]) := by
        intro k1 x2 t0 t1 kt2 s1 H locs ls hl hP hS hf
        rw [f_X12_layOne_c26] at hf
        obtain ⟨g2, hf⟩ := zgd hf
        obtain ⟨n3, rn3, on3, in3⟩ := zok_of g2
        refine zast_l X hP hS (k := kt2) on3 in3 dX12_layOne_26 (fun H locs hP hS => ?_)
        refine lv_iinc (v := (x2 + 1)) (lv' := [(2, .int (x2 + 1)), (0, .ref (ad 0)), (1, .ref (ad k1))]) hx hb dX12_layOne_27 hl (k := 2) rfl rfl (by decide) rfl (fun ls hl => ?_)
        refine lv_goto (tgt := 2) hx hb dX12_layOne_30 (by decide) ?_
        exact ih2 k1 (x2 + 1) (zSL s1 kt2 (t1).toNatClampNeg t0) _ _ _ (lv_sub hl [1, 2, 0] rfl) hP hS hf
      intro k1 x2 s1 H locs ls hl hP hS hf
      rw [f_X12_layOne_c2] at hf
      refine lv_iload_n hx hb dX12_layOne_2 rfl (lv_at hl 2 rfl) ?_
      refine lv_aload_n hx hb dX12_layOne_3 rfl (lv_at hl 0 rfl) ?_
      refine gf_X12_56 X hP (k := 0) rfl dX12_layOne_4 ?_
      refine zicmp_ge (tgt := 33) hx hb dX12_layOne_7 (by decide) hf (fun hf => ?_) (fun hf => ?_)
      · exact zret_v X hP hS hf dX12_layOne_33
      · refine lv_aload_n hx hb dX12_layOne_10 rfl (lv_at hl 1 rfl) ?_
        refine lv_iload_n hx hb dX12_layOne_11 rfl (lv_at hl 2 rfl) ?_
        refine lv_aload_n hx hb dX12_layOne_12 rfl (lv_at hl 0 rfl) ?_
        refine gf_X12_62 X hP (k := 0) (q := 4) rfl dX12_layOne_13 rfl ?_
        refine lv_iload_n hx hb dX12_layOne_16 rfl (lv_at hl 2 rfl) ?_
        obtain ⟨g1, hf⟩ := zgd hf
        refine zald_i X hP (k := 4) (n := 462) (rs := []) rfl g1 dX12_layOne_17 ?_
        refine zif_ne (tgt := 25) hx hb dX12_layOne_18 (by decide) hf (fun hf => ?_) (fun hf => ?_)
        · refine lv_lconst (v := 0) hx hb dX12_layOne_25 (by decide) ?_
          exact hc_26 k1 x2 0 x2 k1 s1 _ _ _ (lv_sub hl [0, 1, 2] rfl) hP hS hf
        · refine lv_lconst (v := 1) hx hb dX12_layOne_21 (by decide) ?_
          refine lv_goto (tgt := 26) hx hb dX12_layOne_22 (by decide) ?_
          exact hc_26 k1 x2 1 x2 k1 s1 _ _ _ (lv_sub hl [0, 1, 2] rfl) hP hS hf
  rw [f_X12_layOne] at hf
  refine lv_iconst (v := 0) hx hb dX12_layOne_0 (by decide) ?_
  refine lv_istore_n (lv' := [(2, .int 0), (0, .ref (ad 0)), (1, .ref (ad k1))]) hx hb dX12_layOne_1 rfl hl (by decide) rfl (fun ls hl => ?_)
  exact hc_2 ZF k1 0 s0 _ _ _ (lv_sub hl [1, 2, 0] rfl) hP hS hf
theorem dX12_empty_0 : decode cX12_empty 0 = .ok (.iconst 0, 1) := by decide +kernel
theorem dX12_empty_1 : decode cX12_empty 1 = .ok (.istore_n 2, 1) := by decide +kernel
theorem dX12_empty_2 : decode cX12_empty 2 = .ok (.iload_n 2, 1) := by decide +kernel
theorem dX12_empty_3 : decode cX12_empty 3 = .ok (.aload_n 0, 1) := by decide +kernel
theorem dX12_empty_4 : decode cX12_empty 4 = .ok (.getfield 56, 3) := by decide +kernel
theorem dX12_empty_7 : decode cX12_empty 7 = .ok (.if_icmp .ge 13, 3) := by decide +kernel
theorem dX12_empty_10 : decode cX12_empty 10 = .ok (.aload_n 1, 1) := by decide +kernel
theorem dX12_empty_11 : decode cX12_empty 11 = .ok (.iload_n 2, 1) := by decide +kernel
theorem dX12_empty_12 : decode cX12_empty 12 = .ok (.lconst 0, 1) := by decide +kernel
theorem dX12_empty_13 : decode cX12_empty 13 = .ok (.lastore, 1) := by decide +kernel
theorem dX12_empty_14 : decode cX12_empty 14 = .ok (.iinc 2 1, 3) := by decide +kernel
theorem dX12_empty_17 : decode cX12_empty 17 = .ok (.goto (-15), 3) := by decide +kernel
theorem dX12_empty_20 : decode cX12_empty 20 = .ok (.return_, 1) := by decide +kernel
set_option maxHeartbeats 4000000 in
set_option maxRecDepth 100000 in
theorem cn_X12_empty {l : Launch} {cA : Nat → ClassId} {ad : Nat → Nat} {D : va_G} {E : Nat → Nat} {A : Nat → Prop} {k1 : Nat} {s0 sr : SS} {rr : Unit} (hf : f_X12_empty k1 s0 = some (rr, sr)) : zCon Om Nm cA ad D E l yX12_empty cX12_empty 3 none 0 A [.ref (ad 0), .ref (ad k1)] s0 none sr := by
  refine zstart (own := RX12) hOm (by decide) rfl (Nat.le_of_ble_eq_true rfl) ?_
  intro p e s m args below meth c X hP ls hl
  have hx := X.1
  have hb := X.2.1
  have hl : lv_has ls 3 [(0, .ref (ad 0)), (1, .ref (ad k1))] := hl
  have hS : va_S A s.heap s.heap [] := va_S.rf
  have hc_2 : ∀ (n2 : Nat) (k1 : Nat) (x2 : Int32) (s1 : SS) (H : Heap) (locs : List Loc) (ls : Array Slot), lv_has ls 3 [(0, .ref (ad 0)), (1, .ref (ad k1)), (2, .int x2)] → va_P D ZCL (zw Om Nm cA ad s1) H → va_S A s.heap H locs → f_X12_empty_c2 n2 k1 x2 s1 = some (rr, sr) → W p l e (zrm 0) s m args below meth c H locs 0 0 (MQ below (zQc Om Nm cA ad D A none sr) args s 0 0 A) (F0 m 2 ls []) := by
    intro n2
    induction n2 with
    | zero =>
      intro k1 x2 s1 H locs ls hl hP hS hf
      rw [f_X12_empty_c2] at hf
      cases hf
    | succ n2 ih2 =>
      intro k1 x2 s1 H locs ls hl hP hS hf
      rw [f_X12_empty_c2] at hf
      refine lv_iload_n hx hb dX12_empty_2 rfl (lv_at hl 2 rfl) ?_
      refine lv_aload_n hx hb dX12_empty_3 rfl (lv_at hl 0 rfl) ?_
      refine gf_X12_56 X hP (k := 0) rfl dX12_empty_4 ?_
      refine zicmp_ge (tgt := 20) hx hb dX12_empty_7 (by decide) hf (fun hf => ?_) (fun hf => ?_)
      · exact zret_v X hP hS hf dX12_empty_20
      · refine lv_aload_n hx hb dX12_empty_10 rfl (lv_at hl 1 rfl) ?_
        refine lv_iload_n hx hb dX12_empty_11 rfl (lv_at hl 2 rfl) ?_
        refine lv_lconst (v := 0) hx hb dX12_empty_12 (by decide) ?_
        obtain ⟨g1, hf⟩ := zgd hf
        obtain ⟨n2, rn2, on2, in2⟩ := zok_of g1
        refine zast_l X hP hS (k := k1) on2 in2 dX12_empty_13 (fun H locs hP hS => ?_)
        refine lv_iinc (v := (x2 + 1)) (lv' := [(2, .int (x2 + 1)), (0, .ref (ad 0)), (1, .ref (ad k1))]) hx hb dX12_empty_14 hl (k := 2) rfl rfl (by decide) rfl (fun ls hl => ?_)
        refine lv_goto (tgt := 2) hx hb dX12_empty_17 (by decide) ?_
        exact ih2 k1 (x2 + 1) (zSL s1 k1 (x2).toNatClampNeg 0) _ _ _ (lv_sub hl [1, 2, 0] rfl) hP hS hf
  rw [f_X12_empty] at hf
  refine lv_iconst (v := 0) hx hb dX12_empty_0 (by decide) ?_
  refine lv_istore_n (lv' := [(2, .int 0), (0, .ref (ad 0)), (1, .ref (ad k1))]) hx hb dX12_empty_1 rfl hl (by decide) rfl (fun ls hl => ?_)
  exact hc_2 ZF k1 0 s0 _ _ _ (lv_sub hl [1, 2, 0] rfl) hP hS hf
theorem dX12_copyRow_0 : decode cX12_copyRow 0 = .ok (.iconst 0, 1) := by decide +kernel
theorem dX12_copyRow_1 : decode cX12_copyRow 1 = .ok (.istore_n 3, 1) := by decide +kernel
theorem dX12_copyRow_2 : decode cX12_copyRow 2 = .ok (.iload_n 3, 1) := by decide +kernel
theorem dX12_copyRow_3 : decode cX12_copyRow 3 = .ok (.aload_n 0, 1) := by decide +kernel
theorem dX12_copyRow_4 : decode cX12_copyRow 4 = .ok (.getfield 56, 3) := by decide +kernel
theorem dX12_copyRow_7 : decode cX12_copyRow 7 = .ok (.if_icmp .ge 15, 3) := by decide +kernel
theorem dX12_copyRow_10 : decode cX12_copyRow 10 = .ok (.aload_n 2, 1) := by decide +kernel
theorem dX12_copyRow_11 : decode cX12_copyRow 11 = .ok (.iload_n 3, 1) := by decide +kernel
theorem dX12_copyRow_12 : decode cX12_copyRow 12 = .ok (.aload_n 1, 1) := by decide +kernel
theorem dX12_copyRow_13 : decode cX12_copyRow 13 = .ok (.iload_n 3, 1) := by decide +kernel
theorem dX12_copyRow_14 : decode cX12_copyRow 14 = .ok (.laload, 1) := by decide +kernel
theorem dX12_copyRow_15 : decode cX12_copyRow 15 = .ok (.lastore, 1) := by decide +kernel
theorem dX12_copyRow_16 : decode cX12_copyRow 16 = .ok (.iinc 3 1, 3) := by decide +kernel
theorem dX12_copyRow_19 : decode cX12_copyRow 19 = .ok (.goto (-17), 3) := by decide +kernel
theorem dX12_copyRow_22 : decode cX12_copyRow 22 = .ok (.return_, 1) := by decide +kernel
set_option maxHeartbeats 4000000 in
set_option maxRecDepth 100000 in
theorem cn_X12_copyRow {l : Launch} {cA : Nat → ClassId} {ad : Nat → Nat} {D : va_G} {E : Nat → Nat} {A : Nat → Prop} {k1 : Nat} {k2 : Nat} {s0 sr : SS} {rr : Unit} (hf : f_X12_copyRow k1 k2 s0 = some (rr, sr)) : zCon Om Nm cA ad D E l yX12_copyRow cX12_copyRow 4 none 0 A [.ref (ad 0), .ref (ad k1), .ref (ad k2)] s0 none sr := by
  refine zstart (own := RX12) hOm (by decide) rfl (Nat.le_of_ble_eq_true rfl) ?_
  intro p e s m args below meth c X hP ls hl
  have hx := X.1
  have hb := X.2.1
  have hl : lv_has ls 4 [(0, .ref (ad 0)), (1, .ref (ad k1)), (2, .ref (ad k2))] := hl
  have hS : va_S A s.heap s.heap [] := va_S.rf
  have hc_2 : ∀ (n2 : Nat) (k1 : Nat) (k2 : Nat) (x3 : Int32) (s1 : SS) (H : Heap) (locs : List Loc) (ls : Array Slot), lv_has ls 4 [(0, .ref (ad 0)), (1, .ref (ad k1)), (2, .ref (ad k2)), (3, .int x3)] → va_P D ZCL (zw Om Nm cA ad s1) H → va_S A s.heap H locs → f_X12_copyRow_c2 n2 k1 k2 x3 s1 = some (rr, sr) → W p l e (zrm 0) s m args below meth c H locs 0 0 (MQ below (zQc Om Nm cA ad D A none sr) args s 0 0 A) (F0 m 2 ls []) := by
    intro n2
    induction n2 with
    | zero =>
      intro k1 k2 x3 s1 H locs ls hl hP hS hf
      rw [f_X12_copyRow_c2] at hf
      cases hf
    | succ n2 ih2 =>
      intro k1 k2 x3 s1 H locs ls hl hP hS hf
      rw [f_X12_copyRow_c2] at hf
      refine lv_iload_n hx hb dX12_copyRow_2 rfl (lv_at hl 3 rfl) ?_
      refine lv_aload_n hx hb dX12_copyRow_3 rfl (lv_at hl 0 rfl) ?_
      refine gf_X12_56 X hP (k := 0) rfl dX12_copyRow_4 ?_
      refine zicmp_ge (tgt := 22) hx hb dX12_copyRow_7 (by decide) hf (fun hf => ?_) (fun hf => ?_)
      · exact zret_v X hP hS hf dX12_copyRow_22
      · refine lv_aload_n hx hb dX12_copyRow_10 rfl (lv_at hl 2 rfl) ?_
        refine lv_iload_n hx hb dX12_copyRow_11 rfl (lv_at hl 3 rfl) ?_
        refine lv_aload_n hx hb dX12_copyRow_12 rfl (lv_at hl 1 rfl) ?_
        refine lv_iload_n hx hb dX12_copyRow_13 rfl (lv_at hl 3 rfl) ?_
        obtain ⟨g1, hf⟩ := zgd hf
        obtain ⟨n4, rn4, on4, in4⟩ := zok_of g1
        refine zald_l X hP (k := k1) on4 in4 dX12_copyRow_14 ?_
        obtain ⟨g2, hf⟩ := zgd hf
        obtain ⟨n3, rn3, on3, in3⟩ := zok_of g2
        refine zast_l X hP hS (k := k2) on3 in3 dX12_copyRow_15 (fun H locs hP hS => ?_)
        refine lv_iinc (v := (x3 + 1)) (lv' := [(3, .int (x3 + 1)), (0, .ref (ad 0)), (1, .ref (ad k1)), (2, .ref (ad k2))]) hx hb dX12_copyRow_16 hl (k := 3) rfl rfl (by decide) rfl (fun ls hl => ?_)
        refine lv_goto (tgt := 2) hx hb dX12_copyRow_19 (by decide) ?_
        exact ih2 k1 k2 (x3 + 1) (zSL s1 k2 (x3).toNatClampNeg (s1.2 k1 (x3).toNatClampNeg)) _ _ _ (lv_sub hl [1, 2, 3, 0] rfl) hP hS hf
  rw [f_X12_copyRow] at hf
  refine lv_iconst (v := 0) hx hb dX12_copyRow_0 (by decide) ?_
  refine lv_istore_n (lv' := [(3, .int 0), (0, .ref (ad 0)), (1, .ref (ad k1)), (2, .ref (ad k2))]) hx hb dX12_copyRow_1 rfl hl (by decide) rfl (fun ls hl => ?_)
  exact hc_2 ZF k1 k2 0 s0 _ _ _ (lv_sub hl [1, 2, 3, 0] rfl) hP hS hf
theorem dX12_multiply_0 : decode cX12_multiply 0 = .ok (.aload_n 0, 1) := by decide +kernel
theorem dX12_multiply_1 : decode cX12_multiply 1 = .ok (.aload_n 0, 1) := by decide +kernel
theorem dX12_multiply_2 : decode cX12_multiply 2 = .ok (.getfield 168, 3) := by decide +kernel
theorem dX12_multiply_5 : decode cX12_multiply 5 = .ok (.invokevirtual 237, 3) := by decide +kernel
theorem dX12_multiply_8 : decode cX12_multiply 8 = .ok (.iconst 0, 1) := by decide +kernel
theorem dX12_multiply_9 : decode cX12_multiply 9 = .ok (.istore_n 3, 1) := by decide +kernel
theorem dX12_multiply_10 : decode cX12_multiply 10 = .ok (.iload_n 3, 1) := by decide +kernel
theorem dX12_multiply_11 : decode cX12_multiply 11 = .ok (.aload_n 0, 1) := by decide +kernel
theorem dX12_multiply_12 : decode cX12_multiply 12 = .ok (.getfield 56, 3) := by decide +kernel
theorem dX12_multiply_15 : decode cX12_multiply 15 = .ok (.if_icmp .ge 100, 3) := by decide +kernel
theorem dX12_multiply_18 : decode cX12_multiply 18 = .ok (.iconst 0, 1) := by decide +kernel
theorem dX12_multiply_19 : decode cX12_multiply 19 = .ok (.istore 4, 2) := by decide +kernel
theorem dX12_multiply_21 : decode cX12_multiply 21 = .ok (.iload 4, 2) := by decide +kernel
theorem dX12_multiply_23 : decode cX12_multiply 23 = .ok (.aload_n 0, 1) := by decide +kernel
theorem dX12_multiply_24 : decode cX12_multiply 24 = .ok (.getfield 56, 3) := by decide +kernel
theorem dX12_multiply_27 : decode cX12_multiply 27 = .ok (.if_icmp .ge 82, 3) := by decide +kernel
theorem dX12_multiply_30 : decode cX12_multiply 30 = .ok (.aload_n 1, 1) := by decide +kernel
theorem dX12_multiply_31 : decode cX12_multiply 31 = .ok (.iload_n 3, 1) := by decide +kernel
theorem dX12_multiply_32 : decode cX12_multiply 32 = .ok (.laload, 1) := by decide +kernel
theorem dX12_multiply_33 : decode cX12_multiply 33 = .ok (.lconst 0, 1) := by decide +kernel
theorem dX12_multiply_34 : decode cX12_multiply 34 = .ok (.lcmp, 1) := by decide +kernel
theorem dX12_multiply_35 : decode cX12_multiply 35 = .ok (.ifCond .eq 74, 3) := by decide +kernel
theorem dX12_multiply_38 : decode cX12_multiply 38 = .ok (.aload_n 2, 1) := by decide +kernel
theorem dX12_multiply_39 : decode cX12_multiply 39 = .ok (.iload 4, 2) := by decide +kernel
theorem dX12_multiply_41 : decode cX12_multiply 41 = .ok (.laload, 1) := by decide +kernel
theorem dX12_multiply_42 : decode cX12_multiply 42 = .ok (.lconst 0, 1) := by decide +kernel
theorem dX12_multiply_43 : decode cX12_multiply 43 = .ok (.lcmp, 1) := by decide +kernel
theorem dX12_multiply_44 : decode cX12_multiply 44 = .ok (.ifCond .eq 59, 3) := by decide +kernel
theorem dX12_multiply_47 : decode cX12_multiply 47 = .ok (.aload_n 0, 1) := by decide +kernel
theorem dX12_multiply_48 : decode cX12_multiply 48 = .ok (.getfield 75, 3) := by decide +kernel
theorem dX12_multiply_51 : decode cX12_multiply 51 = .ok (.iload_n 3, 1) := by decide +kernel
theorem dX12_multiply_52 : decode cX12_multiply 52 = .ok (.iaload, 1) := by decide +kernel
theorem dX12_multiply_53 : decode cX12_multiply 53 = .ok (.aload_n 0, 1) := by decide +kernel
theorem dX12_multiply_54 : decode cX12_multiply 54 = .ok (.getfield 75, 3) := by decide +kernel
theorem dX12_multiply_57 : decode cX12_multiply 57 = .ok (.iload 4, 2) := by decide +kernel
theorem dX12_multiply_59 : decode cX12_multiply 59 = .ok (.iaload, 1) := by decide +kernel
theorem dX12_multiply_60 : decode cX12_multiply 60 = .ok (.iadd, 1) := by decide +kernel
theorem dX12_multiply_61 : decode cX12_multiply 61 = .ok (.aload_n 0, 1) := by decide +kernel
theorem dX12_multiply_62 : decode cX12_multiply 62 = .ok (.getfield 27, 3) := by decide +kernel
theorem dX12_multiply_65 : decode cX12_multiply 65 = .ok (.if_icmp .gt 38, 3) := by decide +kernel
theorem dX12_multiply_68 : decode cX12_multiply 68 = .ok (.aload_n 0, 1) := by decide +kernel
theorem dX12_multiply_69 : decode cX12_multiply 69 = .ok (.getfield 168, 3) := by decide +kernel
theorem dX12_multiply_72 : decode cX12_multiply 72 = .ok (.aload_n 0, 1) := by decide +kernel
theorem dX12_multiply_73 : decode cX12_multiply 73 = .ok (.getfield 65, 3) := by decide +kernel
theorem dX12_multiply_76 : decode cX12_multiply 76 = .ok (.aload_n 0, 1) := by decide +kernel
theorem dX12_multiply_77 : decode cX12_multiply 77 = .ok (.getfield 62, 3) := by decide +kernel
theorem dX12_multiply_80 : decode cX12_multiply 80 = .ok (.iload_n 3, 1) := by decide +kernel
theorem dX12_multiply_81 : decode cX12_multiply 81 = .ok (.iaload, 1) := by decide +kernel
theorem dX12_multiply_82 : decode cX12_multiply 82 = .ok (.aload_n 0, 1) := by decide +kernel
theorem dX12_multiply_83 : decode cX12_multiply 83 = .ok (.getfield 62, 3) := by decide +kernel
theorem dX12_multiply_86 : decode cX12_multiply 86 = .ok (.iload 4, 2) := by decide +kernel
theorem dX12_multiply_88 : decode cX12_multiply 88 = .ok (.iaload, 1) := by decide +kernel
theorem dX12_multiply_89 : decode cX12_multiply 89 = .ok (.iadd, 1) := by decide +kernel
theorem dX12_multiply_90 : decode cX12_multiply 90 = .ok (.iaload, 1) := by decide +kernel
theorem dX12_multiply_91 : decode cX12_multiply 91 = .ok (.dup2, 1) := by decide +kernel
theorem dX12_multiply_92 : decode cX12_multiply 92 = .ok (.laload, 1) := by decide +kernel
theorem dX12_multiply_93 : decode cX12_multiply 93 = .ok (.aload_n 1, 1) := by decide +kernel
theorem dX12_multiply_94 : decode cX12_multiply 94 = .ok (.iload_n 3, 1) := by decide +kernel
theorem dX12_multiply_95 : decode cX12_multiply 95 = .ok (.laload, 1) := by decide +kernel
theorem dX12_multiply_96 : decode cX12_multiply 96 = .ok (.aload_n 2, 1) := by decide +kernel
theorem dX12_multiply_97 : decode cX12_multiply 97 = .ok (.iload 4, 2) := by decide +kernel
theorem dX12_multiply_99 : decode cX12_multiply 99 = .ok (.laload, 1) := by decide +kernel
theorem dX12_multiply_100 : decode cX12_multiply 100 = .ok (.lmul, 1) := by decide +kernel
theorem dX12_multiply_101 : decode cX12_multiply 101 = .ok (.ladd, 1) := by decide +kernel
theorem dX12_multiply_102 : decode cX12_multiply 102 = .ok (.lastore, 1) := by decide +kernel
theorem dX12_multiply_103 : decode cX12_multiply 103 = .ok (.iinc 4 1, 3) := by decide +kernel
theorem dX12_multiply_106 : decode cX12_multiply 106 = .ok (.goto (-85), 3) := by decide +kernel
theorem dX12_multiply_109 : decode cX12_multiply 109 = .ok (.iinc 3 1, 3) := by decide +kernel
theorem dX12_multiply_112 : decode cX12_multiply 112 = .ok (.goto (-102), 3) := by decide +kernel
theorem dX12_multiply_115 : decode cX12_multiply 115 = .ok (.aload_n 0, 1) := by decide +kernel
theorem dX12_multiply_116 : decode cX12_multiply 116 = .ok (.aload_n 0, 1) := by decide +kernel
theorem dX12_multiply_117 : decode cX12_multiply 117 = .ok (.getfield 168, 3) := by decide +kernel
theorem dX12_multiply_120 : decode cX12_multiply 120 = .ok (.aload_n 1, 1) := by decide +kernel
theorem dX12_multiply_121 : decode cX12_multiply 121 = .ok (.invokevirtual 241, 3) := by decide +kernel
theorem dX12_multiply_124 : decode cX12_multiply 124 = .ok (.return_, 1) := by decide +kernel
set_option maxHeartbeats 4000000 in
set_option maxRecDepth 100000 in
theorem cn_X12_multiply {l : Launch} {cA : Nat → ClassId} {ad : Nat → Nat} {D : va_G} {E : Nat → Nat} {A : Nat → Prop} {k1 : Nat} {k2 : Nat} {s0 sr : SS} {rr : Unit} (hf : f_X12_multiply k1 k2 s0 = some (rr, sr)) : zCon Om Nm cA ad D E l yX12_multiply cX12_multiply 5 none 1 A [.ref (ad 0), .ref (ad k1), .ref (ad k2)] s0 none sr := by
  refine zstart (own := RX12) hOm (by decide) rfl (Nat.le_of_ble_eq_true rfl) ?_
  intro p e s m args below meth c X hP ls hl
  have hx := X.1
  have hb := X.2.1
  have hl : lv_has ls 5 [(0, .ref (ad 0)), (1, .ref (ad k1)), (2, .ref (ad k2))] := hl
  have hS : va_S A s.heap s.heap [] := va_S.rf
  have hc_10 : ∀ (n10 : Nat) (k1 : Nat) (k2 : Nat) (x3 : Int32) (s1 : SS) (H : Heap) (locs : List Loc) (ls : Array Slot), lv_has ls 5 [(0, .ref (ad 0)), (1, .ref (ad k1)), (2, .ref (ad k2)), (3, .int x3)] → va_P D ZCL (zw Om Nm cA ad s1) H → va_S A s.heap H locs → f_X12_multiply_c10 n10 k1 k2 x3 s1 = some (rr, sr) → W p l e (zrm 1) s m args below meth c H locs 0 0 (MQ below (zQc Om Nm cA ad D A none sr) args s 0 0 A) (F0 m 10 ls []) := by
    intro n10
    induction n10 with
    | zero =>
      intro k1 k2 x3 s1 H locs ls hl hP hS hf
      rw [f_X12_multiply_c10] at hf
      cases hf
    | succ n10 ih10 =>
      have hc_21 : ∀ (n21 : Nat) (k1 : Nat) (k2 : Nat) (x3 : Int32) (x4 : Int32) (s1 : SS) (H : Heap) (locs : List Loc) (ls : Array Slot), lv_has ls 5 [(0, .ref (ad 0)), (1, .ref (ad k1)), (2, .ref (ad k2)), (3, .int x3), (4, .int x4)] → va_P D ZCL (zw Om Nm cA ad s1) H → va_S A s.heap H locs → f_X12_multiply_c21 (f_X12_multiply_c10 n10) n21 k1 k2 x3 x4 s1 = some (rr, sr) → W p l e (zrm 1) s m args below meth c H locs 0 0 (MQ below (zQc Om Nm cA ad D A none sr) args s 0 0 A) (F0 m 21 ls []) := by
        intro n21
        induction n21 with
        | zero =>
          intro k1 k2 x3 x4 s1 H locs ls hl hP hS hf
          rw [f_X12_multiply_c21] at hf
          cases hf
        | succ n21 ih21 =>
          have hc_109 : ∀ (k1 : Nat) (k2 : Nat) (x3 : Int32) (s1 : SS) (H : Heap) (locs : List Loc) (ls : Array Slot), lv_has ls 5 [(0, .ref (ad 0)), (1, .ref (ad k1)), (2, .ref (ad k2)), (3, .int x3)] → va_P D ZCL (zw Om Nm cA ad s1) H → va_S A s.heap H locs → f_X12_multiply_c109 (f_X12_multiply_c10 n10) k1 k2 x3 s1 = some (rr, sr) → W p l e (zrm 1) s m args below meth c H locs 0 0 (MQ below (zQc Om Nm cA ad D A none sr) args s 0 0 A) (F0 m 109 ls []) := by
            intro k1 k2 x3 s1 H locs ls hl hP hS hf
            rw [f_X12_multiply_c109] at hf
            refine lv_iinc (v := (x3 + 1)) (lv' := [(3, .int (x3 + 1)), (0, .ref (ad 0)), (1, .ref (ad k1)), (2, .ref (ad k2))]) hx hb dX12_multiply_109 hl (k := 3) rfl rfl (by decide) rfl (fun ls hl => ?_)
            refine lv_goto (tgt := 10) hx hb dX12_multiply_112 (by decide) ?_
            exact ih10 k1 k2 (x3 + 1) s1 _ _ _ (lv_sub hl [1, 2, 3, 0] rfl) hP hS hf
          have hc_103 : ∀ (k1 : Nat) (k2 : Nat) (x3 : Int32) (x4 : Int32) (s1 : SS) (H : Heap) (locs : List Loc) (ls : Array Slot), lv_has ls 5 [(0, .ref (ad 0)), (1, .ref (ad k1)), (2, .ref (ad k2)), (3, .int x3), (4, .int x4)] → va_P D ZCL (zw Om Nm cA ad s1) H → va_S A s.heap H locs → f_X12_multiply_c103 (f_X12_multiply_c21 (f_X12_multiply_c10 n10) n21) (f_X12_multiply_c10 n10) k1 k2 x3 x4 s1 = some (rr, sr) → W p l e (zrm 1) s m args below meth c H locs 0 0 (MQ below (zQc Om Nm cA ad D A none sr) args s 0 0 A) (F0 m 103 ls []) := by
            intro k1 k2 x3 x4 s1 H locs ls hl hP hS hf
            rw [f_X12_multiply_c103] at hf
            refine lv_iinc (v := (x4 + 1)) (lv' := [(4, .int (x4 + 1)), (0, .ref (ad 0)), (1, .ref (ad k1)), (2, .ref (ad k2)), (3, .int x3)]) hx hb dX12_multiply_103 hl (k := 4) rfl rfl (by decide) rfl (fun ls hl => ?_)
            refine lv_goto (tgt := 21) hx hb dX12_multiply_106 (by decide) ?_
            exact ih21 k1 k2 x3 (x4 + 1) s1 _ _ _ (lv_sub hl [1, 2, 3, 4, 0] rfl) hP hS hf
          intro k1 k2 x3 x4 s1 H locs ls hl hP hS hf
          rw [f_X12_multiply_c21] at hf
          refine lv_iload hx hb dX12_multiply_21 (lv_at hl 4 rfl) ?_
          refine lv_aload_n hx hb dX12_multiply_23 rfl (lv_at hl 0 rfl) ?_
          refine gf_X12_56 X hP (k := 0) rfl dX12_multiply_24 ?_
          refine zicmp_ge (tgt := 109) hx hb dX12_multiply_27 (by decide) hf (fun hf => ?_) (fun hf => ?_)
          · exact hc_109 k1 k2 x3 s1 _ _ _ (lv_sub hl [0, 1, 2, 3] rfl) hP hS hf
          · refine lv_aload_n hx hb dX12_multiply_30 rfl (lv_at hl 1 rfl) ?_
            refine lv_iload_n hx hb dX12_multiply_31 rfl (lv_at hl 3 rfl) ?_
            obtain ⟨g7, hf⟩ := zgd hf
            obtain ⟨n21, rn21, on21, in21⟩ := zok_of g7
            refine zald_l X hP (k := k1) on21 in21 dX12_multiply_32 ?_
            refine lv_lconst (v := 0) hx hb dX12_multiply_33 (by decide) ?_
            refine W.lcmp hx hb dX12_multiply_34 ?_
            refine zif_eq (tgt := 109) hx hb dX12_multiply_35 (by decide) hf (fun hf => ?_) (fun hf => ?_)
            · exact hc_109 k1 k2 x3 s1 _ _ _ (lv_sub hl [0, 1, 2, 3] rfl) hP hS hf
            · refine lv_aload_n hx hb dX12_multiply_38 rfl (lv_at hl 2 rfl) ?_
              refine lv_iload hx hb dX12_multiply_39 (lv_at hl 4 rfl) ?_
              obtain ⟨g8, hf⟩ := zgd hf
              obtain ⟨n20, rn20, on20, in20⟩ := zok_of g8
              refine zald_l X hP (k := k2) on20 in20 dX12_multiply_41 ?_
              refine lv_lconst (v := 0) hx hb dX12_multiply_42 (by decide) ?_
              refine W.lcmp hx hb dX12_multiply_43 ?_
              refine zif_eq (tgt := 103) hx hb dX12_multiply_44 (by decide) hf (fun hf => ?_) (fun hf => ?_)
              · exact hc_103 k1 k2 x3 x4 s1 _ _ _ (lv_sub hl [0, 1, 2, 3, 4] rfl) hP hS hf
              · refine lv_aload_n hx hb dX12_multiply_47 rfl (lv_at hl 0 rfl) ?_
                refine gf_X12_75 X hP (k := 0) (q := 5) rfl dX12_multiply_48 rfl ?_
                refine lv_iload_n hx hb dX12_multiply_51 rfl (lv_at hl 3 rfl) ?_
                obtain ⟨g9, hf⟩ := zgd hf
                refine zald_i X hP (k := 5) (n := 462) (rs := []) rfl g9 dX12_multiply_52 ?_
                refine lv_aload_n hx hb dX12_multiply_53 rfl (lv_at hl 0 rfl) ?_
                refine gf_X12_75 X hP (k := 0) (q := 5) rfl dX12_multiply_54 rfl ?_
                refine lv_iload hx hb dX12_multiply_57 (lv_at hl 4 rfl) ?_
                obtain ⟨g10, hf⟩ := zgd hf
                refine zald_i X hP (k := 5) (n := 462) (rs := []) rfl g10 dX12_multiply_59 ?_
                refine lv_iadd hx hb dX12_multiply_60 ?_
                refine lv_aload_n hx hb dX12_multiply_61 rfl (lv_at hl 0 rfl) ?_
                refine gf_X12_27 X hP (k := 0) rfl dX12_multiply_62 ?_
                refine zicmp_gt (tgt := 103) hx hb dX12_multiply_65 (by decide) hf (fun hf => ?_) (fun hf => ?_)
                · exact hc_103 k1 k2 x3 x4 s1 _ _ _ (lv_sub hl [0, 1, 2, 3, 4] rfl) hP hS hf
                · refine lv_aload_n hx hb dX12_multiply_68 rfl (lv_at hl 0 rfl) ?_
                  refine gf_X12_168 X hP (k := 0) (q := 33) rfl dX12_multiply_69 rfl ?_
                  refine lv_aload_n hx hb dX12_multiply_72 rfl (lv_at hl 0 rfl) ?_
                  refine gf_X12_65 X hP (k := 0) (q := 7) rfl dX12_multiply_73 rfl ?_
                  refine lv_aload_n hx hb dX12_multiply_76 rfl (lv_at hl 0 rfl) ?_
                  refine gf_X12_62 X hP (k := 0) (q := 4) rfl dX12_multiply_77 rfl ?_
                  refine lv_iload_n hx hb dX12_multiply_80 rfl (lv_at hl 3 rfl) ?_
                  obtain ⟨g11, hf⟩ := zgd hf
                  refine zald_i X hP (k := 4) (n := 462) (rs := []) rfl g11 dX12_multiply_81 ?_
                  refine lv_aload_n hx hb dX12_multiply_82 rfl (lv_at hl 0 rfl) ?_
                  refine gf_X12_62 X hP (k := 0) (q := 4) rfl dX12_multiply_83 rfl ?_
                  refine lv_iload hx hb dX12_multiply_86 (lv_at hl 4 rfl) ?_
                  obtain ⟨g12, hf⟩ := zgd hf
                  refine zald_i X hP (k := 4) (n := 462) (rs := []) rfl g12 dX12_multiply_88 ?_
                  refine lv_iadd hx hb dX12_multiply_89 ?_
                  obtain ⟨g13, hf⟩ := zgd hf
                  refine zald_i X hP (k := 7) (n := 600000) (rs := []) rfl g13 dX12_multiply_90 ?_
                  refine lv_dup2_11 hx hb dX12_multiply_91 rfl rfl ?_
                  obtain ⟨g14, hf⟩ := zgd hf
                  refine zald_l X hP (k := 33) (n := 462) (rs := []) rfl g14 dX12_multiply_92 ?_
                  refine lv_aload_n hx hb dX12_multiply_93 rfl (lv_at hl 1 rfl) ?_
                  refine lv_iload_n hx hb dX12_multiply_94 rfl (lv_at hl 3 rfl) ?_
                  obtain ⟨g15, hf⟩ := zgd hf
                  obtain ⟨n19, rn19, on19, in19⟩ := zok_of g15
                  refine zald_l X hP (k := k1) on19 in19 dX12_multiply_95 ?_
                  refine lv_aload_n hx hb dX12_multiply_96 rfl (lv_at hl 2 rfl) ?_
                  refine lv_iload hx hb dX12_multiply_97 (lv_at hl 4 rfl) ?_
                  obtain ⟨g16, hf⟩ := zgd hf
                  obtain ⟨n18, rn18, on18, in18⟩ := zok_of g16
                  refine zald_l X hP (k := k2) on18 in18 dX12_multiply_99 ?_
                  refine lv_lmul hx hb dX12_multiply_100 ?_
                  refine lv_ladd hx hb dX12_multiply_101 ?_
                  obtain ⟨g17, hf⟩ := zgd hf
                  refine zast_l X hP hS (k := 33) (n := 462) (rs := []) rfl g17 dX12_multiply_102 (fun H locs hP hS => ?_)
                  exact hc_103 k1 k2 x3 x4 (zSL s1 33 ((s1.1 7 (((s1.1 4 (x3).toNatClampNeg) + (s1.1 4 (x4).toNatClampNeg))).toNatClampNeg)).toNatClampNeg (((s1.2 33 ((s1.1 7 (((s1.1 4 (x3).toNatClampNeg) + (s1.1 4 (x4).toNatClampNeg))).toNatClampNeg)).toNatClampNeg) + ((s1.2 k1 (x3).toNatClampNeg) * (s1.2 k2 (x4).toNatClampNeg))))) _ _ _ (lv_sub hl [0, 1, 2, 3, 4] rfl) hP hS hf
      intro k1 k2 x3 s1 H locs ls hl hP hS hf
      rw [f_X12_multiply_c10] at hf
      refine lv_iload_n hx hb dX12_multiply_10 rfl (lv_at hl 3 rfl) ?_
      refine lv_aload_n hx hb dX12_multiply_11 rfl (lv_at hl 0 rfl) ?_
      refine gf_X12_56 X hP (k := 0) rfl dX12_multiply_12 ?_
      refine zicmp_ge (tgt := 115) hx hb dX12_multiply_15 (by decide) hf (fun hf => ?_) (fun hf => ?_)
      · refine lv_aload_n hx hb dX12_multiply_115 rfl (lv_at hl 0 rfl) ?_
        refine lv_aload_n hx hb dX12_multiply_116 rfl (lv_at hl 0 rfl) ?_
        refine gf_X12_168 X hP (k := 0) (q := 33) rfl dX12_multiply_117 rfl ?_
        refine lv_aload_n hx hb dX12_multiply_120 rfl (lv_at hl 1 rfl) ?_
        obtain ⟨r4, s5, h6, hf⟩ := zbd_some hf
        refine zcallV X hP hS hl.1 (k := 0) (As := [.ref (ad 33), .ref (ad k1)]) (rest := []) (cn_X12_copyRow h6) cw_X12_copyRow zp_12 rfl (by decide) rfl ml_X12_241 (by decide) rfl rfl (Nat.le_of_ble_eq_true rfl) dX12_multiply_121 (fun H locs hP hS => ?_)
        exact zret_v X hP hS hf dX12_multiply_124
      · refine lv_iconst (v := 0) hx hb dX12_multiply_18 (by decide) ?_
        refine lv_istore (lv' := [(4, .int 0), (0, .ref (ad 0)), (1, .ref (ad k1)), (2, .ref (ad k2)), (3, .int x3)]) hx hb dX12_multiply_19 hl (by decide) rfl (fun ls hl => ?_)
        exact hc_21 ZF k1 k2 x3 0 s1 _ _ _ (lv_sub hl [1, 2, 3, 4, 0] rfl) hP hS hf
  rw [f_X12_multiply] at hf
  refine lv_aload_n hx hb dX12_multiply_0 rfl (lv_at hl 0 rfl) ?_
  refine lv_aload_n hx hb dX12_multiply_1 rfl (lv_at hl 0 rfl) ?_
  refine gf_X12_168 X hP (k := 0) (q := 33) rfl dX12_multiply_2 rfl ?_
  obtain ⟨r1, s2, h3, hf⟩ := zbd_some hf
  refine zcallV X hP hS hl.1 (k := 0) (As := [.ref (ad 33)]) (rest := []) (cn_X12_empty h3) cw_X12_empty zp_12 rfl (by decide) rfl ml_X12_237 (by decide) rfl rfl (Nat.le_of_ble_eq_true rfl) dX12_multiply_5 (fun H locs hP hS => ?_)
  refine lv_iconst (v := 0) hx hb dX12_multiply_8 (by decide) ?_
  refine lv_istore_n (lv' := [(3, .int 0), (0, .ref (ad 0)), (1, .ref (ad k1)), (2, .ref (ad k2))]) hx hb dX12_multiply_9 rfl hl (by decide) rfl (fun ls hl => ?_)
  exact hc_10 ZF k1 k2 0 s2 _ _ _ (lv_sub hl [1, 2, 3, 0] rfl) hP hS hf
theorem dX12_metOf_0 : decode cX12_metOf 0 = .ok (.lconst 0, 1) := by decide +kernel
theorem dX12_metOf_1 : decode cX12_metOf 1 = .ok (.lstore_n 2, 1) := by decide +kernel
theorem dX12_metOf_2 : decode cX12_metOf 2 = .ok (.iconst 0, 1) := by decide +kernel
theorem dX12_metOf_3 : decode cX12_metOf 3 = .ok (.istore 4, 2) := by decide +kernel
theorem dX12_metOf_5 : decode cX12_metOf 5 = .ok (.iload 4, 2) := by decide +kernel
theorem dX12_metOf_7 : decode cX12_metOf 7 = .ok (.aload_n 0, 1) := by decide +kernel
theorem dX12_metOf_8 : decode cX12_metOf 8 = .ok (.getfield 56, 3) := by decide +kernel
theorem dX12_metOf_11 : decode cX12_metOf 11 = .ok (.if_icmp .ge 24, 3) := by decide +kernel
theorem dX12_metOf_14 : decode cX12_metOf 14 = .ok (.lload_n 2, 1) := by decide +kernel
theorem dX12_metOf_15 : decode cX12_metOf 15 = .ok (.aload_n 1, 1) := by decide +kernel
theorem dX12_metOf_16 : decode cX12_metOf 16 = .ok (.iload 4, 2) := by decide +kernel
theorem dX12_metOf_18 : decode cX12_metOf 18 = .ok (.laload, 1) := by decide +kernel
theorem dX12_metOf_19 : decode cX12_metOf 19 = .ok (.aload_n 0, 1) := by decide +kernel
theorem dX12_metOf_20 : decode cX12_metOf 20 = .ok (.getfield 78, 3) := by decide +kernel
theorem dX12_metOf_23 : decode cX12_metOf 23 = .ok (.iload 4, 2) := by decide +kernel
theorem dX12_metOf_25 : decode cX12_metOf 25 = .ok (.laload, 1) := by decide +kernel
theorem dX12_metOf_26 : decode cX12_metOf 26 = .ok (.lmul, 1) := by decide +kernel
theorem dX12_metOf_27 : decode cX12_metOf 27 = .ok (.ladd, 1) := by decide +kernel
theorem dX12_metOf_28 : decode cX12_metOf 28 = .ok (.lstore_n 2, 1) := by decide +kernel
theorem dX12_metOf_29 : decode cX12_metOf 29 = .ok (.iinc 4 1, 3) := by decide +kernel
theorem dX12_metOf_32 : decode cX12_metOf 32 = .ok (.goto (-27), 3) := by decide +kernel
theorem dX12_metOf_35 : decode cX12_metOf 35 = .ok (.lload_n 2, 1) := by decide +kernel
theorem dX12_metOf_36 : decode cX12_metOf 36 = .ok (.lreturn, 1) := by decide +kernel
set_option maxHeartbeats 4000000 in
set_option maxRecDepth 100000 in
theorem cn_X12_metOf {l : Launch} {cA : Nat → ClassId} {ad : Nat → Nat} {D : va_G} {E : Nat → Nat} {A : Nat → Prop} {k1 : Nat} {s0 sr : SS} {rr : Int64} (hf : f_X12_metOf k1 s0 = some (rr, sr)) : zCon Om Nm cA ad D E l yX12_metOf cX12_metOf 5 (some .long) 0 A [.ref (ad 0), .ref (ad k1)] s0 (some (.long rr)) sr := by
  refine zstart (own := RX12) hOm (by decide) rfl (Nat.le_of_ble_eq_true rfl) ?_
  intro p e s m args below meth c X hP ls hl
  have hx := X.1
  have hb := X.2.1
  have hl : lv_has ls 5 [(0, .ref (ad 0)), (1, .ref (ad k1))] := hl
  have hS : va_S A s.heap s.heap [] := va_S.rf
  have hc_5 : ∀ (n5 : Nat) (k1 : Nat) (x2 : Int64) (x4 : Int32) (s1 : SS) (H : Heap) (locs : List Loc) (ls : Array Slot), lv_has ls 5 [(0, .ref (ad 0)), (1, .ref (ad k1)), (2, .long x2), (4, .int x4)] → va_P D ZCL (zw Om Nm cA ad s1) H → va_S A s.heap H locs → f_X12_metOf_c5 n5 k1 x2 x4 s1 = some (rr, sr) → W p l e (zrm 0) s m args below meth c H locs 0 0 (MQ below (zQc Om Nm cA ad D A (some (.long rr)) sr) args s 0 0 A) (F0 m 5 ls []) := by
    intro n5
    induction n5 with
    | zero =>
      intro k1 x2 x4 s1 H locs ls hl hP hS hf
      rw [f_X12_metOf_c5] at hf
      cases hf
    | succ n5 ih5 =>
      intro k1 x2 x4 s1 H locs ls hl hP hS hf
      rw [f_X12_metOf_c5] at hf
      refine lv_iload hx hb dX12_metOf_5 (lv_at hl 3 rfl) ?_
      refine lv_aload_n hx hb dX12_metOf_7 rfl (lv_at hl 0 rfl) ?_
      refine gf_X12_56 X hP (k := 0) rfl dX12_metOf_8 ?_
      refine zicmp_ge (tgt := 35) hx hb dX12_metOf_11 (by decide) hf (fun hf => ?_) (fun hf => ?_)
      · refine lv_lload_n hx hb dX12_metOf_35 rfl (lv_at hl 2 rfl) ?_
        exact zret_l X hP hS hf dX12_metOf_36
      · refine lv_lload_n hx hb dX12_metOf_14 rfl (lv_at hl 2 rfl) ?_
        refine lv_aload_n hx hb dX12_metOf_15 rfl (lv_at hl 1 rfl) ?_
        refine lv_iload hx hb dX12_metOf_16 (lv_at hl 3 rfl) ?_
        obtain ⟨g1, hf⟩ := zgd hf
        obtain ⟨n3, rn3, on3, in3⟩ := zok_of g1
        refine zald_l X hP (k := k1) on3 in3 dX12_metOf_18 ?_
        refine lv_aload_n hx hb dX12_metOf_19 rfl (lv_at hl 0 rfl) ?_
        refine gf_X12_78 X hP (k := 0) (q := 6) rfl dX12_metOf_20 rfl ?_
        refine lv_iload hx hb dX12_metOf_23 (lv_at hl 3 rfl) ?_
        obtain ⟨g2, hf⟩ := zgd hf
        refine zald_l X hP (k := 6) (n := 462) (rs := []) rfl g2 dX12_metOf_25 ?_
        refine lv_lmul hx hb dX12_metOf_26 ?_
        refine lv_ladd hx hb dX12_metOf_27 ?_
        refine lv_lstore_n (lv' := [(2, .long (x2 + ((s1.2 k1 (x4).toNatClampNeg) * (s1.2 6 (x4).toNatClampNeg)))), (0, .ref (ad 0)), (1, .ref (ad k1)), (4, .int x4)]) hx hb dX12_metOf_28 rfl hl (by decide) rfl (fun ls hl => ?_)
        refine lv_iinc (v := (x4 + 1)) (lv' := [(4, .int (x4 + 1)), (2, .long (x2 + ((s1.2 k1 (x4).toNatClampNeg) * (s1.2 6 (x4).toNatClampNeg)))), (0, .ref (ad 0)), (1, .ref (ad k1))]) hx hb dX12_metOf_29 hl (k := 3) rfl rfl (by decide) rfl (fun ls hl => ?_)
        refine lv_goto (tgt := 5) hx hb dX12_metOf_32 (by decide) ?_
        exact ih5 k1 (x2 + ((s1.2 k1 (x4).toNatClampNeg) * (s1.2 6 (x4).toNatClampNeg))) (x4 + 1) s1 _ _ _ (lv_sub hl [2, 3, 1, 0] rfl) hP hS hf
  rw [f_X12_metOf] at hf
  refine lv_lconst (v := 0) hx hb dX12_metOf_0 (by decide) ?_
  refine lv_lstore_n (lv' := [(2, .long 0), (0, .ref (ad 0)), (1, .ref (ad k1))]) hx hb dX12_metOf_1 rfl hl (by decide) rfl (fun ls hl => ?_)
  refine lv_iconst (v := 0) hx hb dX12_metOf_2 (by decide) ?_
  refine lv_istore (lv' := [(4, .int 0), (2, .long 0), (0, .ref (ad 0)), (1, .ref (ad k1))]) hx hb dX12_metOf_3 hl (by decide) rfl (fun ls hl => ?_)
  exact hc_5 ZF k1 0 0 s0 _ _ _ (lv_sub hl [2, 3, 1, 0] rfl) hP hS hf
theorem dX12_comes_0 : decode cX12_comes 0 = .ok (.iconst 0, 1) := by decide +kernel
theorem dX12_comes_1 : decode cX12_comes 1 = .ok (.istore_n 2, 1) := by decide +kernel
theorem dX12_comes_2 : decode cX12_comes 2 = .ok (.iload_n 2, 1) := by decide +kernel
theorem dX12_comes_3 : decode cX12_comes 3 = .ok (.aload_n 0, 1) := by decide +kernel
theorem dX12_comes_4 : decode cX12_comes 4 = .ok (.getfield 56, 3) := by decide +kernel
theorem dX12_comes_7 : decode cX12_comes 7 = .ok (.if_icmp .ge 27, 3) := by decide +kernel
theorem dX12_comes_10 : decode cX12_comes 10 = .ok (.aload_n 0, 1) := by decide +kernel
theorem dX12_comes_11 : decode cX12_comes 11 = .ok (.getfield 95, 3) := by decide +kernel
theorem dX12_comes_14 : decode cX12_comes 14 = .ok (.sipush 462, 3) := by decide +kernel
theorem dX12_comes_17 : decode cX12_comes 17 = .ok (.aload_n 0, 1) := by decide +kernel
theorem dX12_comes_18 : decode cX12_comes 18 = .ok (.getfield 89, 3) := by decide +kernel
theorem dX12_comes_21 : decode cX12_comes 21 = .ok (.imul, 1) := by decide +kernel
theorem dX12_comes_22 : decode cX12_comes 22 = .ok (.iload_n 2, 1) := by decide +kernel
theorem dX12_comes_23 : decode cX12_comes 23 = .ok (.iadd, 1) := by decide +kernel
theorem dX12_comes_24 : decode cX12_comes 24 = .ok (.aload_n 1, 1) := by decide +kernel
theorem dX12_comes_25 : decode cX12_comes 25 = .ok (.iload_n 2, 1) := by decide +kernel
theorem dX12_comes_26 : decode cX12_comes 26 = .ok (.laload, 1) := by decide +kernel
theorem dX12_comes_27 : decode cX12_comes 27 = .ok (.lastore, 1) := by decide +kernel
theorem dX12_comes_28 : decode cX12_comes 28 = .ok (.iinc 2 1, 3) := by decide +kernel
theorem dX12_comes_31 : decode cX12_comes 31 = .ok (.goto (-29), 3) := by decide +kernel
theorem dX12_comes_34 : decode cX12_comes 34 = .ok (.aload_n 0, 1) := by decide +kernel
theorem dX12_comes_35 : decode cX12_comes 35 = .ok (.getfield 105, 3) := by decide +kernel
theorem dX12_comes_38 : decode cX12_comes 38 = .ok (.aload_n 0, 1) := by decide +kernel
theorem dX12_comes_39 : decode cX12_comes 39 = .ok (.getfield 89, 3) := by decide +kernel
theorem dX12_comes_42 : decode cX12_comes 42 = .ok (.iconst 0, 1) := by decide +kernel
theorem dX12_comes_43 : decode cX12_comes 43 = .ok (.iastore, 1) := by decide +kernel
theorem dX12_comes_44 : decode cX12_comes 44 = .ok (.aload_n 0, 1) := by decide +kernel
theorem dX12_comes_45 : decode cX12_comes 45 = .ok (.getfield 108, 3) := by decide +kernel
theorem dX12_comes_48 : decode cX12_comes 48 = .ok (.aload_n 0, 1) := by decide +kernel
theorem dX12_comes_49 : decode cX12_comes 49 = .ok (.getfield 89, 3) := by decide +kernel
theorem dX12_comes_52 : decode cX12_comes 52 = .ok (.iconst 0, 1) := by decide +kernel
theorem dX12_comes_53 : decode cX12_comes 53 = .ok (.iastore, 1) := by decide +kernel
theorem dX12_comes_54 : decode cX12_comes 54 = .ok (.aload_n 0, 1) := by decide +kernel
theorem dX12_comes_55 : decode cX12_comes 55 = .ok (.dup, 1) := by decide +kernel
theorem dX12_comes_56 : decode cX12_comes 56 = .ok (.getfield 89, 3) := by decide +kernel
theorem dX12_comes_59 : decode cX12_comes 59 = .ok (.iconst 1, 1) := by decide +kernel
theorem dX12_comes_60 : decode cX12_comes 60 = .ok (.iadd, 1) := by decide +kernel
theorem dX12_comes_61 : decode cX12_comes 61 = .ok (.putfield 89, 3) := by decide +kernel
theorem dX12_comes_64 : decode cX12_comes 64 = .ok (.aload_n 0, 1) := by decide +kernel
theorem dX12_comes_65 : decode cX12_comes 65 = .ok (.getfield 89, 3) := by decide +kernel
theorem dX12_comes_68 : decode cX12_comes 68 = .ok (.iconst 1, 1) := by decide +kernel
theorem dX12_comes_69 : decode cX12_comes 69 = .ok (.isub, 1) := by decide +kernel
theorem dX12_comes_70 : decode cX12_comes 70 = .ok (.ireturn, 1) := by decide +kernel
set_option maxHeartbeats 4000000 in
set_option maxRecDepth 100000 in
theorem cn_X12_comes {l : Launch} {cA : Nat → ClassId} {ad : Nat → Nat} {D : va_G} {E : Nat → Nat} {A : Nat → Prop} {k1 : Nat} {s0 sr : SS} {rr : Int32} (hf : f_X12_comes k1 s0 = some (rr, sr)) : zCon Om Nm cA ad D E l yX12_comes cX12_comes 3 (some .int) 0 A [.ref (ad 0), .ref (ad k1)] s0 (some (.int rr)) sr := by
  refine zstart (own := RX12) hOm (by decide) rfl (Nat.le_of_ble_eq_true rfl) ?_
  intro p e s m args below meth c X hP ls hl
  have hx := X.1
  have hb := X.2.1
  have hl : lv_has ls 3 [(0, .ref (ad 0)), (1, .ref (ad k1))] := hl
  have hS : va_S A s.heap s.heap [] := va_S.rf
  have hc_2 : ∀ (n2 : Nat) (k1 : Nat) (x2 : Int32) (s1 : SS) (H : Heap) (locs : List Loc) (ls : Array Slot), lv_has ls 3 [(0, .ref (ad 0)), (1, .ref (ad k1)), (2, .int x2)] → va_P D ZCL (zw Om Nm cA ad s1) H → va_S A s.heap H locs → f_X12_comes_c2 n2 k1 x2 s1 = some (rr, sr) → W p l e (zrm 0) s m args below meth c H locs 0 0 (MQ below (zQc Om Nm cA ad D A (some (.int rr)) sr) args s 0 0 A) (F0 m 2 ls []) := by
    intro n2
    induction n2 with
    | zero =>
      intro k1 x2 s1 H locs ls hl hP hS hf
      rw [f_X12_comes_c2] at hf
      cases hf
    | succ n2 ih2 =>
      intro k1 x2 s1 H locs ls hl hP hS hf
      rw [f_X12_comes_c2] at hf
      refine lv_iload_n hx hb dX12_comes_2 rfl (lv_at hl 2 rfl) ?_
      refine lv_aload_n hx hb dX12_comes_3 rfl (lv_at hl 0 rfl) ?_
      refine gf_X12_56 X hP (k := 0) rfl dX12_comes_4 ?_
      refine zicmp_ge (tgt := 34) hx hb dX12_comes_7 (by decide) hf (fun hf => ?_) (fun hf => ?_)
      · refine lv_aload_n hx hb dX12_comes_34 rfl (lv_at hl 0 rfl) ?_
        refine gf_X12_105 X hP (k := 0) (q := 8) rfl dX12_comes_35 rfl ?_
        refine lv_aload_n hx hb dX12_comes_38 rfl (lv_at hl 0 rfl) ?_
        refine gf_X12_89 X hP (k := 0) rfl dX12_comes_39 ?_
        refine lv_iconst (v := 0) hx hb dX12_comes_42 (by decide) ?_
        obtain ⟨g1, hf⟩ := zgd hf
        refine zast_i X hP hS (k := 8) (n := 8) (rs := []) rfl g1 dX12_comes_43 (fun H locs hP hS => ?_)
        refine lv_aload_n hx hb dX12_comes_44 rfl (lv_at hl 0 rfl) ?_
        refine gf_X12_108 X hP (k := 0) (q := 9) rfl dX12_comes_45 rfl ?_
        refine lv_aload_n hx hb dX12_comes_48 rfl (lv_at hl 0 rfl) ?_
        refine gf_X12_89 X hP (k := 0) rfl dX12_comes_49 ?_
        refine lv_iconst (v := 0) hx hb dX12_comes_52 (by decide) ?_
        obtain ⟨g2, hf⟩ := zgd hf
        refine zast_i X hP hS (k := 9) (n := 8) (rs := []) rfl g2 dX12_comes_53 (fun H locs hP hS => ?_)
        refine lv_aload_n hx hb dX12_comes_54 rfl (lv_at hl 0 rfl) ?_
        refine lv_dup hx hb dX12_comes_55 rfl ?_
        refine gf_X12_89 X hP (k := 0) rfl dX12_comes_56 ?_
        refine lv_iconst (v := 1) hx hb dX12_comes_59 (by decide) ?_
        refine lv_iadd hx hb dX12_comes_60 ?_
        refine pf_X12_89 X hP hS (k := 0) rfl dX12_comes_61 (fun H locs hP hS => ?_)
        refine lv_aload_n hx hb dX12_comes_64 rfl (lv_at hl 0 rfl) ?_
        refine gf_X12_89 X hP (k := 0) rfl dX12_comes_65 ?_
        refine lv_iconst (v := 1) hx hb dX12_comes_68 (by decide) ?_
        refine lv_isub hx hb dX12_comes_69 ?_
        exact zret_i X hP hS hf rfl dX12_comes_70
      · refine lv_aload_n hx hb dX12_comes_10 rfl (lv_at hl 0 rfl) ?_
        refine gf_X12_95 X hP (k := 0) (q := 10) rfl dX12_comes_11 rfl ?_
        refine lv_sipush (v := 462) hx hb dX12_comes_14 (by decide) ?_
        refine lv_aload_n hx hb dX12_comes_17 rfl (lv_at hl 0 rfl) ?_
        refine gf_X12_89 X hP (k := 0) rfl dX12_comes_18 ?_
        refine lv_imul hx hb dX12_comes_21 ?_
        refine lv_iload_n hx hb dX12_comes_22 rfl (lv_at hl 2 rfl) ?_
        refine lv_iadd hx hb dX12_comes_23 ?_
        refine lv_aload_n hx hb dX12_comes_24 rfl (lv_at hl 1 rfl) ?_
        refine lv_iload_n hx hb dX12_comes_25 rfl (lv_at hl 2 rfl) ?_
        obtain ⟨g3, hf⟩ := zgd hf
        obtain ⟨n5, rn5, on5, in5⟩ := zok_of g3
        refine zald_l X hP (k := k1) on5 in5 dX12_comes_26 ?_
        obtain ⟨g4, hf⟩ := zgd hf
        refine zast_l X hP hS (k := 10) (n := 3696) (rs := []) rfl g4 dX12_comes_27 (fun H locs hP hS => ?_)
        refine lv_iinc (v := (x2 + 1)) (lv' := [(2, .int (x2 + 1)), (0, .ref (ad 0)), (1, .ref (ad k1))]) hx hb dX12_comes_28 hl (k := 2) rfl rfl (by decide) rfl (fun ls hl => ?_)
        refine lv_goto (tgt := 2) hx hb dX12_comes_31 (by decide) ?_
        exact ih2 k1 (x2 + 1) (zSL s1 10 ((((462 : Int32) * (s1.1 0 12)) + x2)).toNatClampNeg (s1.2 k1 (x2).toNatClampNeg)) _ _ _ (lv_sub hl [1, 2, 0] rfl) hP hS hf
  rw [f_X12_comes] at hf
  refine lv_iconst (v := 0) hx hb dX12_comes_0 (by decide) ?_
  refine lv_istore_n (lv' := [(2, .int 0), (0, .ref (ad 0)), (1, .ref (ad k1))]) hx hb dX12_comes_1 rfl hl (by decide) rfl (fun ls hl => ?_)
  exact hc_2 ZF k1 0 s0 _ _ _ (lv_sub hl [1, 2, 0] rfl) hP hS hf
theorem dX12_become_0 : decode cX12_become 0 = .ok (.iload_n 2, 1) := by decide +kernel
theorem dX12_become_1 : decode cX12_become 1 = .ok (.ifCond .ne 13, 3) := by decide +kernel
theorem dX12_become_4 : decode cX12_become 4 = .ok (.aload_n 0, 1) := by decide +kernel
theorem dX12_become_5 : decode cX12_become 5 = .ok (.getfield 105, 3) := by decide +kernel
theorem dX12_become_8 : decode cX12_become 8 = .ok (.iload_n 1, 1) := by decide +kernel
theorem dX12_become_9 : decode cX12_become 9 = .ok (.iload_n 3, 1) := by decide +kernel
theorem dX12_become_10 : decode cX12_become 10 = .ok (.iastore, 1) := by decide +kernel
theorem dX12_become_11 : decode cX12_become 11 = .ok (.goto 10, 3) := by decide +kernel
theorem dX12_become_14 : decode cX12_become 14 = .ok (.aload_n 0, 1) := by decide +kernel
theorem dX12_become_15 : decode cX12_become 15 = .ok (.getfield 108, 3) := by decide +kernel
theorem dX12_become_18 : decode cX12_become 18 = .ok (.iload_n 1, 1) := by decide +kernel
theorem dX12_become_19 : decode cX12_become 19 = .ok (.iload_n 3, 1) := by decide +kernel
theorem dX12_become_20 : decode cX12_become 20 = .ok (.iastore, 1) := by decide +kernel
theorem dX12_become_21 : decode cX12_become 21 = .ok (.return_, 1) := by decide +kernel
set_option maxHeartbeats 4000000 in
set_option maxRecDepth 100000 in
theorem cn_X12_become {l : Launch} {cA : Nat → ClassId} {ad : Nat → Nat} {D : va_G} {E : Nat → Nat} {A : Nat → Prop} {x1 : Int32} {x2 : Int32} {x3 : Int32} {s0 sr : SS} {rr : Unit} (hf : f_X12_become x1 x2 x3 s0 = some (rr, sr)) : zCon Om Nm cA ad D E l yX12_become cX12_become 4 none 0 A [.ref (ad 0), .int x1, .int x2, .int x3] s0 none sr := by
  refine zstart (own := RX12) hOm (by decide) rfl (Nat.le_of_ble_eq_true rfl) ?_
  intro p e s m args below meth c X hP ls hl
  have hx := X.1
  have hb := X.2.1
  have hl : lv_has ls 4 [(0, .ref (ad 0)), (1, .int x1), (2, .int x2), (3, .int x3)] := hl
  have hS : va_S A s.heap s.heap [] := va_S.rf
  rw [f_X12_become] at hf
  refine lv_iload_n hx hb dX12_become_0 rfl (lv_at hl 2 rfl) ?_
  refine zif_ne (tgt := 14) hx hb dX12_become_1 (by decide) hf (fun hf => ?_) (fun hf => ?_)
  · refine lv_aload_n hx hb dX12_become_14 rfl (lv_at hl 0 rfl) ?_
    refine gf_X12_108 X hP (k := 0) (q := 9) rfl dX12_become_15 rfl ?_
    refine lv_iload_n hx hb dX12_become_18 rfl (lv_at hl 1 rfl) ?_
    refine lv_iload_n hx hb dX12_become_19 rfl (lv_at hl 3 rfl) ?_
    obtain ⟨g1, hf⟩ := zgd hf
    refine zast_i X hP hS (k := 9) (n := 8) (rs := []) rfl g1 dX12_become_20 (fun H locs hP hS => ?_)
    exact zret_v X hP hS hf dX12_become_21
  · refine lv_aload_n hx hb dX12_become_4 rfl (lv_at hl 0 rfl) ?_
    refine gf_X12_105 X hP (k := 0) (q := 8) rfl dX12_become_5 rfl ?_
    refine lv_iload_n hx hb dX12_become_8 rfl (lv_at hl 1 rfl) ?_
    refine lv_iload_n hx hb dX12_become_9 rfl (lv_at hl 3 rfl) ?_
    obtain ⟨g2, hf⟩ := zgd hf
    refine zast_i X hP hS (k := 8) (n := 8) (rs := []) rfl g2 dX12_become_10 (fun H locs hP hS => ?_)
    refine lv_goto (tgt := 21) hx hb dX12_become_11 (by decide) ?_
    exact zret_v X hP hS hf dX12_become_21
theorem dX12_set_0 : decode cX12_set 0 = .ok (.aload_n 0, 1) := by decide +kernel
theorem dX12_set_1 : decode cX12_set 1 = .ok (.iload_n 1, 1) := by decide +kernel
theorem dX12_set_2 : decode cX12_set 2 = .ok (.i2l, 1) := by decide +kernel
theorem dX12_set_3 : decode cX12_set 3 = .ok (.invokevirtual 245, 3) := by decide +kernel
theorem dX12_set_6 : decode cX12_set 6 = .ok (.ifCond .eq 35, 3) := by decide +kernel
theorem dX12_set_9 : decode cX12_set 9 = .ok (.iload_n 2, 1) := by decide +kernel
theorem dX12_set_10 : decode cX12_set 10 = .ok (.i2l, 1) := by decide +kernel
theorem dX12_set_11 : decode cX12_set 11 = .ok (.lconst 0, 1) := by decide +kernel
theorem dX12_set_12 : decode cX12_set 12 = .ok (.lconst 1, 1) := by decide +kernel
theorem dX12_set_13 : decode cX12_set 13 = .ok (.invokestatic 203, 3) := by decide +kernel
theorem dX12_set_16 : decode cX12_set 16 = .ok (.ifCond .eq 25, 3) := by decide +kernel
theorem dX12_set_19 : decode cX12_set 19 = .ok (.iload_n 3, 1) := by decide +kernel
theorem dX12_set_20 : decode cX12_set 20 = .ok (.i2l, 1) := by decide +kernel
theorem dX12_set_21 : decode cX12_set 21 = .ok (.lconst 0, 1) := by decide +kernel
theorem dX12_set_22 : decode cX12_set 22 = .ok (.iload_n 2, 1) := by decide +kernel
theorem dX12_set_23 : decode cX12_set 23 = .ok (.ifCond .ne 9, 3) := by decide +kernel
theorem dX12_set_26 : decode cX12_set 26 = .ok (.ldc2_w 201, 3) := by decide +kernel
theorem dX12_set_29 : decode cX12_set 29 = .ok (.goto 6, 3) := by decide +kernel
theorem dX12_set_32 : decode cX12_set 32 = .ok (.ldc2_w 210, 3) := by decide +kernel
theorem dX12_set_35 : decode cX12_set 35 = .ok (.invokestatic 203, 3) := by decide +kernel
theorem dX12_set_38 : decode cX12_set 38 = .ok (.ifCond .ne 5, 3) := by decide +kernel
theorem dX12_set_41 : decode cX12_set 41 = .ok (.iconst (-1), 1) := by decide +kernel
theorem dX12_set_42 : decode cX12_set 42 = .ok (.ireturn, 1) := by decide +kernel
theorem dX12_set_43 : decode cX12_set 43 = .ok (.iload_n 2, 1) := by decide +kernel
theorem dX12_set_44 : decode cX12_set 44 = .ok (.ifCond .ne 12, 3) := by decide +kernel
theorem dX12_set_47 : decode cX12_set 47 = .ok (.aload_n 0, 1) := by decide +kernel
theorem dX12_set_48 : decode cX12_set 48 = .ok (.getfield 105, 3) := by decide +kernel
theorem dX12_set_51 : decode cX12_set 51 = .ok (.iload_n 1, 1) := by decide +kernel
theorem dX12_set_52 : decode cX12_set 52 = .ok (.iaload, 1) := by decide +kernel
theorem dX12_set_53 : decode cX12_set 53 = .ok (.goto 9, 3) := by decide +kernel
theorem dX12_set_56 : decode cX12_set 56 = .ok (.aload_n 0, 1) := by decide +kernel
theorem dX12_set_57 : decode cX12_set 57 = .ok (.getfield 108, 3) := by decide +kernel
theorem dX12_set_60 : decode cX12_set 60 = .ok (.iload_n 1, 1) := by decide +kernel
theorem dX12_set_61 : decode cX12_set 61 = .ok (.iaload, 1) := by decide +kernel
theorem dX12_set_62 : decode cX12_set 62 = .ok (.istore 4, 2) := by decide +kernel
theorem dX12_set_64 : decode cX12_set 64 = .ok (.iload 4, 2) := by decide +kernel
theorem dX12_set_66 : decode cX12_set 66 = .ok (.iload_n 3, 1) := by decide +kernel
theorem dX12_set_67 : decode cX12_set 67 = .ok (.if_icmp .eq 161, 3) := by decide +kernel
theorem dX12_set_70 : decode cX12_set 70 = .ok (.aload_n 0, 1) := by decide +kernel
theorem dX12_set_71 : decode cX12_set 71 = .ok (.getfield 192, 3) := by decide +kernel
theorem dX12_set_74 : decode cX12_set 74 = .ok (.bipush 12, 2) := by decide +kernel
theorem dX12_set_76 : decode cX12_set 76 = .ok (.if_icmp .ne 89, 3) := by decide +kernel
theorem dX12_set_79 : decode cX12_set 79 = .ok (.iconst 1, 1) := by decide +kernel
theorem dX12_set_80 : decode cX12_set 80 = .ok (.istore 5, 2) := by decide +kernel
theorem dX12_set_82 : decode cX12_set 82 = .ok (.iload 5, 2) := by decide +kernel
theorem dX12_set_84 : decode cX12_set 84 = .ok (.bipush 12, 2) := by decide +kernel
theorem dX12_set_86 : decode cX12_set 86 = .ok (.if_icmp .ge 73, 3) := by decide +kernel
theorem dX12_set_89 : decode cX12_set 89 = .ok (.aload_n 0, 1) := by decide +kernel
theorem dX12_set_90 : decode cX12_set 90 = .ok (.getfield 120, 3) := by decide +kernel
theorem dX12_set_93 : decode cX12_set 93 = .ok (.iload 5, 2) := by decide +kernel
theorem dX12_set_95 : decode cX12_set 95 = .ok (.iconst 1, 1) := by decide +kernel
theorem dX12_set_96 : decode cX12_set 96 = .ok (.isub, 1) := by decide +kernel
theorem dX12_set_97 : decode cX12_set 97 = .ok (.aload_n 0, 1) := by decide +kernel
theorem dX12_set_98 : decode cX12_set 98 = .ok (.getfield 120, 3) := by decide +kernel
theorem dX12_set_101 : decode cX12_set 101 = .ok (.iload 5, 2) := by decide +kernel
theorem dX12_set_103 : decode cX12_set 103 = .ok (.iaload, 1) := by decide +kernel
theorem dX12_set_104 : decode cX12_set 104 = .ok (.iastore, 1) := by decide +kernel
theorem dX12_set_105 : decode cX12_set 105 = .ok (.aload_n 0, 1) := by decide +kernel
theorem dX12_set_106 : decode cX12_set 106 = .ok (.getfield 123, 3) := by decide +kernel
theorem dX12_set_109 : decode cX12_set 109 = .ok (.iload 5, 2) := by decide +kernel
theorem dX12_set_111 : decode cX12_set 111 = .ok (.iconst 1, 1) := by decide +kernel
theorem dX12_set_112 : decode cX12_set 112 = .ok (.isub, 1) := by decide +kernel
theorem dX12_set_113 : decode cX12_set 113 = .ok (.aload_n 0, 1) := by decide +kernel
theorem dX12_set_114 : decode cX12_set 114 = .ok (.getfield 123, 3) := by decide +kernel
theorem dX12_set_117 : decode cX12_set 117 = .ok (.iload 5, 2) := by decide +kernel
theorem dX12_set_119 : decode cX12_set 119 = .ok (.iaload, 1) := by decide +kernel
theorem dX12_set_120 : decode cX12_set 120 = .ok (.iastore, 1) := by decide +kernel
theorem dX12_set_121 : decode cX12_set 121 = .ok (.aload_n 0, 1) := by decide +kernel
theorem dX12_set_122 : decode cX12_set 122 = .ok (.getfield 126, 3) := by decide +kernel
theorem dX12_set_125 : decode cX12_set 125 = .ok (.iload 5, 2) := by decide +kernel
theorem dX12_set_127 : decode cX12_set 127 = .ok (.iconst 1, 1) := by decide +kernel
theorem dX12_set_128 : decode cX12_set 128 = .ok (.isub, 1) := by decide +kernel
theorem dX12_set_129 : decode cX12_set 129 = .ok (.aload_n 0, 1) := by decide +kernel
theorem dX12_set_130 : decode cX12_set 130 = .ok (.getfield 126, 3) := by decide +kernel
theorem dX12_set_133 : decode cX12_set 133 = .ok (.iload 5, 2) := by decide +kernel
theorem dX12_set_135 : decode cX12_set 135 = .ok (.iaload, 1) := by decide +kernel
theorem dX12_set_136 : decode cX12_set 136 = .ok (.iastore, 1) := by decide +kernel
theorem dX12_set_137 : decode cX12_set 137 = .ok (.aload_n 0, 1) := by decide +kernel
theorem dX12_set_138 : decode cX12_set 138 = .ok (.getfield 129, 3) := by decide +kernel
theorem dX12_set_141 : decode cX12_set 141 = .ok (.iload 5, 2) := by decide +kernel
theorem dX12_set_143 : decode cX12_set 143 = .ok (.iconst 1, 1) := by decide +kernel
theorem dX12_set_144 : decode cX12_set 144 = .ok (.isub, 1) := by decide +kernel
theorem dX12_set_145 : decode cX12_set 145 = .ok (.aload_n 0, 1) := by decide +kernel
theorem dX12_set_146 : decode cX12_set 146 = .ok (.getfield 129, 3) := by decide +kernel
theorem dX12_set_149 : decode cX12_set 149 = .ok (.iload 5, 2) := by decide +kernel
theorem dX12_set_151 : decode cX12_set 151 = .ok (.iaload, 1) := by decide +kernel
theorem dX12_set_152 : decode cX12_set 152 = .ok (.iastore, 1) := by decide +kernel
theorem dX12_set_153 : decode cX12_set 153 = .ok (.iinc 5 1, 3) := by decide +kernel
theorem dX12_set_156 : decode cX12_set 156 = .ok (.goto (-74), 3) := by decide +kernel
theorem dX12_set_159 : decode cX12_set 159 = .ok (.aload_n 0, 1) := by decide +kernel
theorem dX12_set_160 : decode cX12_set 160 = .ok (.bipush 11, 2) := by decide +kernel
theorem dX12_set_162 : decode cX12_set 162 = .ok (.putfield 192, 3) := by decide +kernel
theorem dX12_set_165 : decode cX12_set 165 = .ok (.aload_n 0, 1) := by decide +kernel
theorem dX12_set_166 : decode cX12_set 166 = .ok (.getfield 120, 3) := by decide +kernel
theorem dX12_set_169 : decode cX12_set 169 = .ok (.aload_n 0, 1) := by decide +kernel
theorem dX12_set_170 : decode cX12_set 170 = .ok (.getfield 192, 3) := by decide +kernel
theorem dX12_set_173 : decode cX12_set 173 = .ok (.iload_n 1, 1) := by decide +kernel
theorem dX12_set_174 : decode cX12_set 174 = .ok (.iastore, 1) := by decide +kernel
theorem dX12_set_175 : decode cX12_set 175 = .ok (.aload_n 0, 1) := by decide +kernel
theorem dX12_set_176 : decode cX12_set 176 = .ok (.getfield 123, 3) := by decide +kernel
theorem dX12_set_179 : decode cX12_set 179 = .ok (.aload_n 0, 1) := by decide +kernel
theorem dX12_set_180 : decode cX12_set 180 = .ok (.getfield 192, 3) := by decide +kernel
theorem dX12_set_183 : decode cX12_set 183 = .ok (.iload_n 2, 1) := by decide +kernel
theorem dX12_set_184 : decode cX12_set 184 = .ok (.iastore, 1) := by decide +kernel
theorem dX12_set_185 : decode cX12_set 185 = .ok (.aload_n 0, 1) := by decide +kernel
theorem dX12_set_186 : decode cX12_set 186 = .ok (.getfield 126, 3) := by decide +kernel
theorem dX12_set_189 : decode cX12_set 189 = .ok (.aload_n 0, 1) := by decide +kernel
theorem dX12_set_190 : decode cX12_set 190 = .ok (.getfield 192, 3) := by decide +kernel
theorem dX12_set_193 : decode cX12_set 193 = .ok (.iload 4, 2) := by decide +kernel
theorem dX12_set_195 : decode cX12_set 195 = .ok (.iastore, 1) := by decide +kernel
theorem dX12_set_196 : decode cX12_set 196 = .ok (.aload_n 0, 1) := by decide +kernel
theorem dX12_set_197 : decode cX12_set 197 = .ok (.getfield 129, 3) := by decide +kernel
theorem dX12_set_200 : decode cX12_set 200 = .ok (.aload_n 0, 1) := by decide +kernel
theorem dX12_set_201 : decode cX12_set 201 = .ok (.getfield 192, 3) := by decide +kernel
theorem dX12_set_204 : decode cX12_set 204 = .ok (.iload_n 3, 1) := by decide +kernel
theorem dX12_set_205 : decode cX12_set 205 = .ok (.iastore, 1) := by decide +kernel
theorem dX12_set_206 : decode cX12_set 206 = .ok (.aload_n 0, 1) := by decide +kernel
theorem dX12_set_207 : decode cX12_set 207 = .ok (.dup, 1) := by decide +kernel
theorem dX12_set_208 : decode cX12_set 208 = .ok (.getfield 192, 3) := by decide +kernel
theorem dX12_set_211 : decode cX12_set 211 = .ok (.iconst 1, 1) := by decide +kernel
theorem dX12_set_212 : decode cX12_set 212 = .ok (.iadd, 1) := by decide +kernel
theorem dX12_set_213 : decode cX12_set 213 = .ok (.putfield 192, 3) := by decide +kernel
theorem dX12_set_216 : decode cX12_set 216 = .ok (.aload_n 0, 1) := by decide +kernel
theorem dX12_set_217 : decode cX12_set 217 = .ok (.iconst 0, 1) := by decide +kernel
theorem dX12_set_218 : decode cX12_set 218 = .ok (.putfield 195, 3) := by decide +kernel
theorem dX12_set_221 : decode cX12_set 221 = .ok (.aload_n 0, 1) := by decide +kernel
theorem dX12_set_222 : decode cX12_set 222 = .ok (.iload_n 1, 1) := by decide +kernel
theorem dX12_set_223 : decode cX12_set 223 = .ok (.iload_n 2, 1) := by decide +kernel
theorem dX12_set_224 : decode cX12_set 224 = .ok (.iload_n 3, 1) := by decide +kernel
theorem dX12_set_225 : decode cX12_set 225 = .ok (.invokevirtual 249, 3) := by decide +kernel
theorem dX12_set_228 : decode cX12_set 228 = .ok (.iload 4, 2) := by decide +kernel
theorem dX12_set_230 : decode cX12_set 230 = .ok (.ireturn, 1) := by decide +kernel
set_option maxHeartbeats 4000000 in
set_option maxRecDepth 100000 in
theorem cn_X12_set {l : Launch} {cA : Nat → ClassId} {ad : Nat → Nat} {D : va_G} {E : Nat → Nat} {A : Nat → Prop} {x1 : Int32} {x2 : Int32} {x3 : Int32} {s0 sr : SS} {rr : Int32} (hf : f_X12_set x1 x2 x3 s0 = some (rr, sr)) : zCon Om Nm cA ad D E l yX12_set cX12_set 6 (some .int) 2 A [.ref (ad 0), .int x1, .int x2, .int x3] s0 (some (.int rr)) sr := by
  refine zstart (own := RX12) hOm (by decide) rfl (Nat.le_of_ble_eq_true rfl) ?_
  intro p e s m args below meth c X hP ls hl
  have hx := X.1
  have hb := X.2.1
  have hl : lv_has ls 6 [(0, .ref (ad 0)), (1, .int x1), (2, .int x2), (3, .int x3)] := hl
  have hS : va_S A s.heap s.heap [] := va_S.rf
  have hc_165 : ∀ (x1 : Int32) (x2 : Int32) (x3 : Int32) (x4 : Int32) (s1 : SS) (H : Heap) (locs : List Loc) (ls : Array Slot), lv_has ls 6 [(0, .ref (ad 0)), (1, .int x1), (2, .int x2), (3, .int x3), (4, .int x4)] → va_P D ZCL (zw Om Nm cA ad s1) H → va_S A s.heap H locs → f_X12_set_c165 x1 x2 x3 x4 s1 = some (rr, sr) → W p l e (zrm 2) s m args below meth c H locs 0 0 (MQ below (zQc Om Nm cA ad D A (some (.int rr)) sr) args s 0 0 A) (F0 m 165 ls []) := by
    intro x1 x2 x3 x4 s1 H locs ls hl hP hS hf
    rw [f_X12_set_c165] at hf
    refine lv_aload_n hx hb dX12_set_165 rfl (lv_at hl 0 rfl) ?_
    refine gf_X12_120 X hP (k := 0) (q := 16) rfl dX12_set_166 rfl ?_
    refine lv_aload_n hx hb dX12_set_169 rfl (lv_at hl 0 rfl) ?_
    refine gf_X12_192 X hP (k := 0) rfl dX12_set_170 ?_
    refine lv_iload_n hx hb dX12_set_173 rfl (lv_at hl 1 rfl) ?_
    obtain ⟨g11, hf⟩ := zgd hf
    refine zast_i X hP hS (k := 16) (n := 12) (rs := []) rfl g11 dX12_set_174 (fun H locs hP hS => ?_)
    refine lv_aload_n hx hb dX12_set_175 rfl (lv_at hl 0 rfl) ?_
    refine gf_X12_123 X hP (k := 0) (q := 17) rfl dX12_set_176 rfl ?_
    refine lv_aload_n hx hb dX12_set_179 rfl (lv_at hl 0 rfl) ?_
    refine gf_X12_192 X hP (k := 0) rfl dX12_set_180 ?_
    refine lv_iload_n hx hb dX12_set_183 rfl (lv_at hl 2 rfl) ?_
    obtain ⟨g12, hf⟩ := zgd hf
    refine zast_i X hP hS (k := 17) (n := 12) (rs := []) rfl g12 dX12_set_184 (fun H locs hP hS => ?_)
    refine lv_aload_n hx hb dX12_set_185 rfl (lv_at hl 0 rfl) ?_
    refine gf_X12_126 X hP (k := 0) (q := 18) rfl dX12_set_186 rfl ?_
    refine lv_aload_n hx hb dX12_set_189 rfl (lv_at hl 0 rfl) ?_
    refine gf_X12_192 X hP (k := 0) rfl dX12_set_190 ?_
    refine lv_iload hx hb dX12_set_193 (lv_at hl 4 rfl) ?_
    obtain ⟨g13, hf⟩ := zgd hf
    refine zast_i X hP hS (k := 18) (n := 12) (rs := []) rfl g13 dX12_set_195 (fun H locs hP hS => ?_)
    refine lv_aload_n hx hb dX12_set_196 rfl (lv_at hl 0 rfl) ?_
    refine gf_X12_129 X hP (k := 0) (q := 19) rfl dX12_set_197 rfl ?_
    refine lv_aload_n hx hb dX12_set_200 rfl (lv_at hl 0 rfl) ?_
    refine gf_X12_192 X hP (k := 0) rfl dX12_set_201 ?_
    refine lv_iload_n hx hb dX12_set_204 rfl (lv_at hl 3 rfl) ?_
    obtain ⟨g14, hf⟩ := zgd hf
    refine zast_i X hP hS (k := 19) (n := 12) (rs := []) rfl g14 dX12_set_205 (fun H locs hP hS => ?_)
    refine lv_aload_n hx hb dX12_set_206 rfl (lv_at hl 0 rfl) ?_
    refine lv_dup hx hb dX12_set_207 rfl ?_
    refine gf_X12_192 X hP (k := 0) rfl dX12_set_208 ?_
    refine lv_iconst (v := 1) hx hb dX12_set_211 (by decide) ?_
    refine lv_iadd hx hb dX12_set_212 ?_
    refine pf_X12_192 X hP hS (k := 0) rfl dX12_set_213 (fun H locs hP hS => ?_)
    refine lv_aload_n hx hb dX12_set_216 rfl (lv_at hl 0 rfl) ?_
    refine lv_iconst (v := 0) hx hb dX12_set_217 (by decide) ?_
    refine pf_X12_195 X hP hS (k := 0) rfl dX12_set_218 (fun H locs hP hS => ?_)
    refine lv_aload_n hx hb dX12_set_221 rfl (lv_at hl 0 rfl) ?_
    refine lv_iload_n hx hb dX12_set_222 rfl (lv_at hl 1 rfl) ?_
    refine lv_iload_n hx hb dX12_set_223 rfl (lv_at hl 2 rfl) ?_
    refine lv_iload_n hx hb dX12_set_224 rfl (lv_at hl 3 rfl) ?_
    obtain ⟨r15, s16, h17, hf⟩ := zbd_some hf
    refine zcallV X hP hS hl.1 (k := 0) (As := [.int x1, .int x2, .int x3]) (rest := []) (cn_X12_become h17) cw_X12_become zp_12 rfl (by decide) rfl ml_X12_249 (by decide) rfl rfl (Nat.le_of_ble_eq_true rfl) dX12_set_225 (fun H locs hP hS => ?_)
    refine lv_iload hx hb dX12_set_228 (lv_at hl 4 rfl) ?_
    exact zret_i X hP hS hf rfl dX12_set_230
  have hc_82 : ∀ (n82 : Nat) (x1 : Int32) (x2 : Int32) (x3 : Int32) (x4 : Int32) (x5 : Int32) (s1 : SS) (H : Heap) (locs : List Loc) (ls : Array Slot), lv_has ls 6 [(0, .ref (ad 0)), (1, .int x1), (2, .int x2), (3, .int x3), (4, .int x4), (5, .int x5)] → va_P D ZCL (zw Om Nm cA ad s1) H → va_S A s.heap H locs → f_X12_set_c82 n82 x1 x2 x3 x4 x5 s1 = some (rr, sr) → W p l e (zrm 2) s m args below meth c H locs 0 0 (MQ below (zQc Om Nm cA ad D A (some (.int rr)) sr) args s 0 0 A) (F0 m 82 ls []) := by
    intro n82
    induction n82 with
    | zero =>
      intro x1 x2 x3 x4 x5 s1 H locs ls hl hP hS hf
      rw [f_X12_set_c82] at hf
      cases hf
    | succ n82 ih82 =>
      intro x1 x2 x3 x4 x5 s1 H locs ls hl hP hS hf
      rw [f_X12_set_c82] at hf
      refine lv_iload hx hb dX12_set_82 (lv_at hl 5 rfl) ?_
      refine lv_bipush (v := 12) hx hb dX12_set_84 (by decide) ?_
      refine zicmp_ge (tgt := 159) hx hb dX12_set_86 (by decide) hf (fun hf => ?_) (fun hf => ?_)
      · refine lv_aload_n hx hb dX12_set_159 rfl (lv_at hl 0 rfl) ?_
        refine lv_bipush (v := 11) hx hb dX12_set_160 (by decide) ?_
        refine pf_X12_192 X hP hS (k := 0) rfl dX12_set_162 (fun H locs hP hS => ?_)
        exact hc_165 x1 x2 x3 x4 (zS s1 0 21 11) _ _ _ (lv_sub hl [0, 1, 2, 3, 4] rfl) hP hS hf
      · refine lv_aload_n hx hb dX12_set_89 rfl (lv_at hl 0 rfl) ?_
        refine gf_X12_120 X hP (k := 0) (q := 16) rfl dX12_set_90 rfl ?_
        refine lv_iload hx hb dX12_set_93 (lv_at hl 5 rfl) ?_
        refine lv_iconst (v := 1) hx hb dX12_set_95 (by decide) ?_
        refine lv_isub hx hb dX12_set_96 ?_
        refine lv_aload_n hx hb dX12_set_97 rfl (lv_at hl 0 rfl) ?_
        refine gf_X12_120 X hP (k := 0) (q := 16) rfl dX12_set_98 rfl ?_
        refine lv_iload hx hb dX12_set_101 (lv_at hl 5 rfl) ?_
        obtain ⟨g18, hf⟩ := zgd hf
        refine zald_i X hP (k := 16) (n := 12) (rs := []) rfl g18 dX12_set_103 ?_
        obtain ⟨g19, hf⟩ := zgd hf
        refine zast_i X hP hS (k := 16) (n := 12) (rs := []) rfl g19 dX12_set_104 (fun H locs hP hS => ?_)
        refine lv_aload_n hx hb dX12_set_105 rfl (lv_at hl 0 rfl) ?_
        refine gf_X12_123 X hP (k := 0) (q := 17) rfl dX12_set_106 rfl ?_
        refine lv_iload hx hb dX12_set_109 (lv_at hl 5 rfl) ?_
        refine lv_iconst (v := 1) hx hb dX12_set_111 (by decide) ?_
        refine lv_isub hx hb dX12_set_112 ?_
        refine lv_aload_n hx hb dX12_set_113 rfl (lv_at hl 0 rfl) ?_
        refine gf_X12_123 X hP (k := 0) (q := 17) rfl dX12_set_114 rfl ?_
        refine lv_iload hx hb dX12_set_117 (lv_at hl 5 rfl) ?_
        obtain ⟨g20, hf⟩ := zgd hf
        refine zald_i X hP (k := 17) (n := 12) (rs := []) rfl g20 dX12_set_119 ?_
        obtain ⟨g21, hf⟩ := zgd hf
        refine zast_i X hP hS (k := 17) (n := 12) (rs := []) rfl g21 dX12_set_120 (fun H locs hP hS => ?_)
        refine lv_aload_n hx hb dX12_set_121 rfl (lv_at hl 0 rfl) ?_
        refine gf_X12_126 X hP (k := 0) (q := 18) rfl dX12_set_122 rfl ?_
        refine lv_iload hx hb dX12_set_125 (lv_at hl 5 rfl) ?_
        refine lv_iconst (v := 1) hx hb dX12_set_127 (by decide) ?_
        refine lv_isub hx hb dX12_set_128 ?_
        refine lv_aload_n hx hb dX12_set_129 rfl (lv_at hl 0 rfl) ?_
        refine gf_X12_126 X hP (k := 0) (q := 18) rfl dX12_set_130 rfl ?_
        refine lv_iload hx hb dX12_set_133 (lv_at hl 5 rfl) ?_
        obtain ⟨g22, hf⟩ := zgd hf
        refine zald_i X hP (k := 18) (n := 12) (rs := []) rfl g22 dX12_set_135 ?_
        obtain ⟨g23, hf⟩ := zgd hf
        refine zast_i X hP hS (k := 18) (n := 12) (rs := []) rfl g23 dX12_set_136 (fun H locs hP hS => ?_)
        refine lv_aload_n hx hb dX12_set_137 rfl (lv_at hl 0 rfl) ?_
        refine gf_X12_129 X hP (k := 0) (q := 19) rfl dX12_set_138 rfl ?_
        refine lv_iload hx hb dX12_set_141 (lv_at hl 5 rfl) ?_
        refine lv_iconst (v := 1) hx hb dX12_set_143 (by decide) ?_
        refine lv_isub hx hb dX12_set_144 ?_
        refine lv_aload_n hx hb dX12_set_145 rfl (lv_at hl 0 rfl) ?_
        refine gf_X12_129 X hP (k := 0) (q := 19) rfl dX12_set_146 rfl ?_
        refine lv_iload hx hb dX12_set_149 (lv_at hl 5 rfl) ?_
        obtain ⟨g24, hf⟩ := zgd hf
        refine zald_i X hP (k := 19) (n := 12) (rs := []) rfl g24 dX12_set_151 ?_
        obtain ⟨g25, hf⟩ := zgd hf
        refine zast_i X hP hS (k := 19) (n := 12) (rs := []) rfl g25 dX12_set_152 (fun H locs hP hS => ?_)
        refine lv_iinc (v := (x5 + 1)) (lv' := [(5, .int (x5 + 1)), (0, .ref (ad 0)), (1, .int x1), (2, .int x2), (3, .int x3), (4, .int x4)]) hx hb dX12_set_153 hl (k := 5) rfl rfl (by decide) rfl (fun ls hl => ?_)
        refine lv_goto (tgt := 82) hx hb dX12_set_156 (by decide) ?_
        exact ih82 x1 x2 x3 x4 (x5 + 1) (zS (zS (zS (zS s1 16 ((x5 - (1 : Int32))).toNatClampNeg (s1.1 16 (x5).toNatClampNeg)) 17 ((x5 - (1 : Int32))).toNatClampNeg (((zS s1 16 ((x5 - (1 : Int32))).toNatClampNeg (s1.1 16 (x5).toNatClampNeg)).1 17 (x5).toNatClampNeg))) 18 ((x5 - (1 : Int32))).toNatClampNeg (((zS (zS s1 16 ((x5 - (1 : Int32))).toNatClampNeg (s1.1 16 (x5).toNatClampNeg)) 17 ((x5 - (1 : Int32))).toNatClampNeg (((zS s1 16 ((x5 - (1 : Int32))).toNatClampNeg (s1.1 16 (x5).toNatClampNeg)).1 17 (x5).toNatClampNeg))).1 18 (x5).toNatClampNeg))) 19 ((x5 - (1 : Int32))).toNatClampNeg (((zS (zS (zS s1 16 ((x5 - (1 : Int32))).toNatClampNeg (s1.1 16 (x5).toNatClampNeg)) 17 ((x5 - (1 : Int32))).toNatClampNeg (((zS s1 16 ((x5 - (1 : Int32))).toNatClampNeg (s1.1 16 (x5).toNatClampNeg)).1 17 (x5).toNatClampNeg))) 18 ((x5 - (1 : Int32))).toNatClampNeg (((zS (zS s1 16 ((x5 - (1 : Int32))).toNatClampNeg (s1.1 16 (x5).toNatClampNeg)) 17 ((x5 - (1 : Int32))).toNatClampNeg (((zS s1 16 ((x5 - (1 : Int32))).toNatClampNeg (s1.1 16 (x5).toNatClampNeg)).1 17 (x5).toNatClampNeg))).1 18 (x5).toNatClampNeg))).1 19 (x5).toNatClampNeg))) _ _ _ (lv_sub hl [1, 2, 3, 4, 5, 0] rfl) hP hS hf
  have hc_62 : ∀ (x1 : Int32) (x2 : Int32) (x3 : Int32) (t0 : Int32) (s1 : SS) (H : Heap) (locs : List Loc) (ls : Array Slot), lv_has ls 6 [(0, .ref (ad 0)), (1, .int x1), (2, .int x2), (3, .int x3)] → va_P D ZCL (zw Om Nm cA ad s1) H → va_S A s.heap H locs → f_X12_set_c62 x1 x2 x3 t0 s1 = some (rr, sr) → W p l e (zrm 2) s m args below meth c H locs 0 0 (MQ below (zQc Om Nm cA ad D A (some (.int rr)) sr) args s 0 0 A) (F0 m 62 ls [.int t0]) := by
    intro x1 x2 x3 t0 s1 H locs ls hl hP hS hf
    rw [f_X12_set_c62] at hf
    refine lv_istore (lv' := [(4, .int t0), (0, .ref (ad 0)), (1, .int x1), (2, .int x2), (3, .int x3)]) hx hb dX12_set_62 hl (by decide) rfl (fun ls hl => ?_)
    refine lv_iload hx hb dX12_set_64 (lv_at hl 0 rfl) ?_
    refine lv_iload_n hx hb dX12_set_66 rfl (lv_at hl 4 rfl) ?_
    refine zicmp_eq (tgt := 228) hx hb dX12_set_67 (by decide) hf (fun hf => ?_) (fun hf => ?_)
    · refine lv_iload hx hb dX12_set_228 (lv_at hl 0 rfl) ?_
      exact zret_i X hP hS hf rfl dX12_set_230
    · refine lv_aload_n hx hb dX12_set_70 rfl (lv_at hl 1 rfl) ?_
      refine gf_X12_192 X hP (k := 0) rfl dX12_set_71 ?_
      refine lv_bipush (v := 12) hx hb dX12_set_74 (by decide) ?_
      refine zicmp_ne (tgt := 165) hx hb dX12_set_76 (by decide) hf (fun hf => ?_) (fun hf => ?_)
      · exact hc_165 x1 x2 x3 t0 s1 _ _ _ (lv_sub hl [1, 2, 3, 4, 0] rfl) hP hS hf
      · refine lv_iconst (v := 1) hx hb dX12_set_79 (by decide) ?_
        refine lv_istore (lv' := [(5, .int 1), (4, .int t0), (0, .ref (ad 0)), (1, .int x1), (2, .int x2), (3, .int x3)]) hx hb dX12_set_80 hl (by decide) rfl (fun ls hl => ?_)
        exact hc_82 ZF x1 x2 x3 t0 1 s1 _ _ _ (lv_sub hl [2, 3, 4, 5, 1, 0] rfl) hP hS hf
  have hc_35 : ∀ (x1 : Int32) (x2 : Int32) (x3 : Int32) (t0 : Int64) (t1 : Int64) (t2 : Int64) (s1 : SS) (H : Heap) (locs : List Loc) (ls : Array Slot), lv_has ls 6 [(0, .ref (ad 0)), (1, .int x1), (2, .int x2), (3, .int x3)] → va_P D ZCL (zw Om Nm cA ad s1) H → va_S A s.heap H locs → f_X12_set_c35 x1 x2 x3 t0 t1 t2 s1 = some (rr, sr) → W p l e (zrm 2) s m args below meth c H locs 0 0 (MQ below (zQc Om Nm cA ad D A (some (.int rr)) sr) args s 0 0 A) (F0 m 35 ls [.long t0, .long t1, .long t2]) := by
    intro x1 x2 x3 t0 t1 t2 s1 H locs ls hl hP hS hf
    rw [f_X12_set_c35] at hf
    obtain ⟨r7, s8, h9, hf⟩ := zbd_some hf
    refine zcallS X hP hS hl.1 (As := [.long t2, .long t1, .long t0]) (rest := []) (cn_X12_in h9) cw_X12_in ml_X12_203 (by decide) rfl rfl (Nat.le_of_ble_eq_true rfl) dX12_set_35 (fun H locs hP hS => ?_)
    refine zif_ne (tgt := 43) hx hb dX12_set_38 (by decide) hf (fun hf => ?_) (fun hf => ?_)
    · refine lv_iload_n hx hb dX12_set_43 rfl (lv_at hl 2 rfl) ?_
      refine zif_ne (tgt := 56) hx hb dX12_set_44 (by decide) hf (fun hf => ?_) (fun hf => ?_)
      · refine lv_aload_n hx hb dX12_set_56 rfl (lv_at hl 0 rfl) ?_
        refine gf_X12_108 X hP (k := 0) (q := 9) rfl dX12_set_57 rfl ?_
        refine lv_iload_n hx hb dX12_set_60 rfl (lv_at hl 1 rfl) ?_
        obtain ⟨g10, hf⟩ := zgd hf
        refine zald_i X hP (k := 9) (n := 8) (rs := []) rfl g10 dX12_set_61 ?_
        exact hc_62 x1 x2 x3 (s8.1 9 (x1).toNatClampNeg) s8 _ _ _ (lv_sub hl [0, 1, 2, 3] rfl) hP hS hf
      · refine lv_aload_n hx hb dX12_set_47 rfl (lv_at hl 0 rfl) ?_
        refine gf_X12_105 X hP (k := 0) (q := 8) rfl dX12_set_48 rfl ?_
        refine lv_iload_n hx hb dX12_set_51 rfl (lv_at hl 1 rfl) ?_
        obtain ⟨g26, hf⟩ := zgd hf
        refine zald_i X hP (k := 8) (n := 8) (rs := []) rfl g26 dX12_set_52 ?_
        refine lv_goto (tgt := 62) hx hb dX12_set_53 (by decide) ?_
        exact hc_62 x1 x2 x3 (s8.1 8 (x1).toNatClampNeg) s8 _ _ _ (lv_sub hl [0, 1, 2, 3] rfl) hP hS hf
    · refine lv_iconst (v := (-1)) hx hb dX12_set_41 (by decide) ?_
      exact zret_i X hP hS hf rfl dX12_set_42
  rw [f_X12_set] at hf
  refine lv_aload_n hx hb dX12_set_0 rfl (lv_at hl 0 rfl) ?_
  refine lv_iload_n hx hb dX12_set_1 rfl (lv_at hl 1 rfl) ?_
  refine lv_i2l hx hb dX12_set_2 rfl ?_
  obtain ⟨r1, s2, h3, hf⟩ := zbd_some hf
  refine zcallV X hP hS hl.1 (k := 0) (As := [.long (x1).toInt64]) (rest := []) (cn_X12_isClass h3) cw_X12_isClass zp_12 rfl (by decide) rfl ml_X12_245 (by decide) rfl rfl (Nat.le_of_ble_eq_true rfl) dX12_set_3 (fun H locs hP hS => ?_)
  refine zif_eq (tgt := 41) hx hb dX12_set_6 (by decide) hf (fun hf => ?_) (fun hf => ?_)
  · refine lv_iconst (v := (-1)) hx hb dX12_set_41 (by decide) ?_
    exact zret_i X hP hS hf rfl dX12_set_42
  · refine lv_iload_n hx hb dX12_set_9 rfl (lv_at hl 2 rfl) ?_
    refine lv_i2l hx hb dX12_set_10 rfl ?_
    refine lv_lconst (v := 0) hx hb dX12_set_11 (by decide) ?_
    refine lv_lconst (v := 1) hx hb dX12_set_12 (by decide) ?_
    obtain ⟨r4, s5, h6, hf⟩ := zbd_some hf
    refine zcallS X hP hS hl.1 (As := [.long (x2).toInt64, .long 0, .long 1]) (rest := []) (cn_X12_in h6) cw_X12_in ml_X12_203 (by decide) rfl rfl (Nat.le_of_ble_eq_true rfl) dX12_set_13 (fun H locs hP hS => ?_)
    refine zif_eq (tgt := 41) hx hb dX12_set_16 (by decide) hf (fun hf => ?_) (fun hf => ?_)
    · refine lv_iconst (v := (-1)) hx hb dX12_set_41 (by decide) ?_
      exact zret_i X hP hS hf rfl dX12_set_42
    · refine lv_iload_n hx hb dX12_set_19 rfl (lv_at hl 3 rfl) ?_
      refine lv_i2l hx hb dX12_set_20 rfl ?_
      refine lv_lconst (v := 0) hx hb dX12_set_21 (by decide) ?_
      refine lv_iload_n hx hb dX12_set_22 rfl (lv_at hl 2 rfl) ?_
      refine zif_ne (tgt := 32) hx hb dX12_set_23 (by decide) hf (fun hf => ?_) (fun hf => ?_)
      · refine zldc2 X co_X12_210 dX12_set_32 ?_
        exact hc_35 x1 x2 x3 9 0 (x3).toInt64 s5 _ _ _ (lv_sub hl [0, 1, 2, 3] rfl) hP hS hf
      · refine zldc2 X co_X12_201 dX12_set_26 ?_
        refine lv_goto (tgt := 35) hx hb dX12_set_29 (by decide) ?_
        exact hc_35 x1 x2 x3 5 0 (x3).toInt64 s5 _ _ _ (lv_sub hl [0, 1, 2, 3] rfl) hP hS hf
theorem dX12_tell_0 : decode cX12_tell 0 = .ok (.aload_n 0, 1) := by decide +kernel
theorem dX12_tell_1 : decode cX12_tell 1 = .ok (.iload_n 1, 1) := by decide +kernel
theorem dX12_tell_2 : decode cX12_tell 2 = .ok (.i2l, 1) := by decide +kernel
theorem dX12_tell_3 : decode cX12_tell 3 = .ok (.invokevirtual 245, 3) := by decide +kernel
theorem dX12_tell_6 : decode cX12_tell 6 = .ok (.ifCond .eq 11, 3) := by decide +kernel
theorem dX12_tell_9 : decode cX12_tell 9 = .ok (.aload_n 0, 1) := by decide +kernel
theorem dX12_tell_10 : decode cX12_tell 10 = .ok (.iload_n 2, 1) := by decide +kernel
theorem dX12_tell_11 : decode cX12_tell 11 = .ok (.invokevirtual 217, 3) := by decide +kernel
theorem dX12_tell_14 : decode cX12_tell 14 = .ok (.ifCond .ge 5, 3) := by decide +kernel
theorem dX12_tell_17 : decode cX12_tell 17 = .ok (.iconst (-1), 1) := by decide +kernel
theorem dX12_tell_18 : decode cX12_tell 18 = .ok (.ireturn, 1) := by decide +kernel
theorem dX12_tell_19 : decode cX12_tell 19 = .ok (.aload_n 0, 1) := by decide +kernel
theorem dX12_tell_20 : decode cX12_tell 20 = .ok (.getfield 95, 3) := by decide +kernel
theorem dX12_tell_23 : decode cX12_tell 23 = .ok (.sipush 462, 3) := by decide +kernel
theorem dX12_tell_26 : decode cX12_tell 26 = .ok (.iload_n 1, 1) := by decide +kernel
theorem dX12_tell_27 : decode cX12_tell 27 = .ok (.imul, 1) := by decide +kernel
theorem dX12_tell_28 : decode cX12_tell 28 = .ok (.aload_n 0, 1) := by decide +kernel
theorem dX12_tell_29 : decode cX12_tell 29 = .ok (.iload_n 2, 1) := by decide +kernel
theorem dX12_tell_30 : decode cX12_tell 30 = .ok (.invokevirtual 217, 3) := by decide +kernel
theorem dX12_tell_33 : decode cX12_tell 33 = .ok (.iadd, 1) := by decide +kernel
theorem dX12_tell_34 : decode cX12_tell 34 = .ok (.lload_n 3, 1) := by decide +kernel
theorem dX12_tell_35 : decode cX12_tell 35 = .ok (.lastore, 1) := by decide +kernel
theorem dX12_tell_36 : decode cX12_tell 36 = .ok (.iconst 1, 1) := by decide +kernel
theorem dX12_tell_37 : decode cX12_tell 37 = .ok (.ireturn, 1) := by decide +kernel
set_option maxHeartbeats 4000000 in
set_option maxRecDepth 100000 in
theorem cn_X12_tell {l : Launch} {cA : Nat → ClassId} {ad : Nat → Nat} {D : va_G} {E : Nat → Nat} {A : Nat → Prop} {x1 : Int32} {x2 : Int32} {x3 : Int64} {s0 sr : SS} {rr : Int32} (hf : f_X12_tell x1 x2 x3 s0 = some (rr, sr)) : zCon Om Nm cA ad D E l yX12_tell cX12_tell 5 (some .int) 2 A [.ref (ad 0), .int x1, .int x2, .long x3] s0 (some (.int rr)) sr := by
  refine zstart (own := RX12) hOm (by decide) rfl (Nat.le_of_ble_eq_true rfl) ?_
  intro p e s m args below meth c X hP ls hl
  have hx := X.1
  have hb := X.2.1
  have hl : lv_has ls 5 [(0, .ref (ad 0)), (1, .int x1), (2, .int x2), (3, .long x3)] := hl
  have hS : va_S A s.heap s.heap [] := va_S.rf
  rw [f_X12_tell] at hf
  refine lv_aload_n hx hb dX12_tell_0 rfl (lv_at hl 0 rfl) ?_
  refine lv_iload_n hx hb dX12_tell_1 rfl (lv_at hl 1 rfl) ?_
  refine lv_i2l hx hb dX12_tell_2 rfl ?_
  obtain ⟨r1, s2, h3, hf⟩ := zbd_some hf
  refine zcallV X hP hS hl.1 (k := 0) (As := [.long (x1).toInt64]) (rest := []) (cn_X12_isClass h3) cw_X12_isClass zp_12 rfl (by decide) rfl ml_X12_245 (by decide) rfl rfl (Nat.le_of_ble_eq_true rfl) dX12_tell_3 (fun H locs hP hS => ?_)
  refine zif_eq (tgt := 17) hx hb dX12_tell_6 (by decide) hf (fun hf => ?_) (fun hf => ?_)
  · refine lv_iconst (v := (-1)) hx hb dX12_tell_17 (by decide) ?_
    exact zret_i X hP hS hf rfl dX12_tell_18
  · refine lv_aload_n hx hb dX12_tell_9 rfl (lv_at hl 0 rfl) ?_
    refine lv_iload_n hx hb dX12_tell_10 rfl (lv_at hl 2 rfl) ?_
    obtain ⟨r4, s5, h6, hf⟩ := zbd_some hf
    refine zcallV X hP hS hl.1 (k := 0) (As := [.int x2]) (rest := []) (cn_X12_termOf h6) cw_X12_termOf zp_12 rfl (by decide) rfl ml_X12_217 (by decide) rfl rfl (Nat.le_of_ble_eq_true rfl) dX12_tell_11 (fun H locs hP hS => ?_)
    refine zif_ge (tgt := 19) hx hb dX12_tell_14 (by decide) hf (fun hf => ?_) (fun hf => ?_)
    · refine lv_aload_n hx hb dX12_tell_19 rfl (lv_at hl 0 rfl) ?_
      refine gf_X12_95 X hP (k := 0) (q := 10) rfl dX12_tell_20 rfl ?_
      refine lv_sipush (v := 462) hx hb dX12_tell_23 (by decide) ?_
      refine lv_iload_n hx hb dX12_tell_26 rfl (lv_at hl 1 rfl) ?_
      refine lv_imul hx hb dX12_tell_27 ?_
      refine lv_aload_n hx hb dX12_tell_28 rfl (lv_at hl 0 rfl) ?_
      refine lv_iload_n hx hb dX12_tell_29 rfl (lv_at hl 2 rfl) ?_
      obtain ⟨r7, s8, h9, hf⟩ := zbd_some hf
      refine zcallV X hP hS hl.1 (k := 0) (As := [.int x2]) (rest := [.int ((462 : Int32) * x1), .ref (ad 10)]) (cn_X12_termOf h9) cw_X12_termOf zp_12 rfl (by decide) rfl ml_X12_217 (by decide) rfl rfl (Nat.le_of_ble_eq_true rfl) dX12_tell_30 (fun H locs hP hS => ?_)
      refine lv_iadd hx hb dX12_tell_33 ?_
      refine lv_lload_n hx hb dX12_tell_34 rfl (lv_at hl 3 rfl) ?_
      obtain ⟨g10, hf⟩ := zgd hf
      refine zast_l X hP hS (k := 10) (n := 3696) (rs := []) rfl g10 dX12_tell_35 (fun H locs hP hS => ?_)
      refine lv_iconst (v := 1) hx hb dX12_tell_36 (by decide) ?_
      exact zret_i X hP hS hf rfl dX12_tell_37
    · refine lv_iconst (v := (-1)) hx hb dX12_tell_17 (by decide) ?_
      exact zret_i X hP hS hf rfl dX12_tell_18
theorem dX12_of_0 : decode cX12_of 0 = .ok (.aload_n 0, 1) := by decide +kernel
theorem dX12_of_1 : decode cX12_of 1 = .ok (.iload_n 1, 1) := by decide +kernel
theorem dX12_of_2 : decode cX12_of 2 = .ok (.i2l, 1) := by decide +kernel
theorem dX12_of_3 : decode cX12_of 3 = .ok (.invokevirtual 245, 3) := by decide +kernel
theorem dX12_of_6 : decode cX12_of 6 = .ok (.ifCond .eq 15, 3) := by decide +kernel
theorem dX12_of_9 : decode cX12_of 9 = .ok (.iload_n 2, 1) := by decide +kernel
theorem dX12_of_10 : decode cX12_of 10 = .ok (.i2l, 1) := by decide +kernel
theorem dX12_of_11 : decode cX12_of 11 = .ok (.lconst 0, 1) := by decide +kernel
theorem dX12_of_12 : decode cX12_of 12 = .ok (.ldc2_w 40, 3) := by decide +kernel
theorem dX12_of_15 : decode cX12_of 15 = .ok (.invokestatic 203, 3) := by decide +kernel
theorem dX12_of_18 : decode cX12_of 18 = .ok (.ifCond .ne 5, 3) := by decide +kernel
theorem dX12_of_21 : decode cX12_of 21 = .ok (.iconst (-1), 1) := by decide +kernel
theorem dX12_of_22 : decode cX12_of 22 = .ok (.ireturn, 1) := by decide +kernel
theorem dX12_of_23 : decode cX12_of 23 = .ok (.iconst 0, 1) := by decide +kernel
theorem dX12_of_24 : decode cX12_of 24 = .ok (.istore_n 3, 1) := by decide +kernel
theorem dX12_of_25 : decode cX12_of 25 = .ok (.bipush (-2), 2) := by decide +kernel
theorem dX12_of_27 : decode cX12_of 27 = .ok (.istore 4, 2) := by decide +kernel
theorem dX12_of_29 : decode cX12_of 29 = .ok (.bipush (-2), 2) := by decide +kernel
theorem dX12_of_31 : decode cX12_of 31 = .ok (.istore 5, 2) := by decide +kernel
theorem dX12_of_33 : decode cX12_of 33 = .ok (.iconst 0, 1) := by decide +kernel
theorem dX12_of_34 : decode cX12_of 34 = .ok (.istore 6, 2) := by decide +kernel
theorem dX12_of_36 : decode cX12_of 36 = .ok (.iload 6, 2) := by decide +kernel
theorem dX12_of_38 : decode cX12_of 38 = .ok (.aload_n 0, 1) := by decide +kernel
theorem dX12_of_39 : decode cX12_of 39 = .ok (.getfield 56, 3) := by decide +kernel
theorem dX12_of_42 : decode cX12_of 42 = .ok (.if_icmp .ge 83, 3) := by decide +kernel
theorem dX12_of_45 : decode cX12_of 45 = .ok (.aload_n 0, 1) := by decide +kernel
theorem dX12_of_46 : decode cX12_of 46 = .ok (.iload_n 1, 1) := by decide +kernel
theorem dX12_of_47 : decode cX12_of 47 = .ok (.iload 6, 2) := by decide +kernel
theorem dX12_of_49 : decode cX12_of 49 = .ok (.invokevirtual 233, 3) := by decide +kernel
theorem dX12_of_52 : decode cX12_of 52 = .ok (.lconst 0, 1) := by decide +kernel
theorem dX12_of_53 : decode cX12_of 53 = .ok (.lcmp, 1) := by decide +kernel
theorem dX12_of_54 : decode cX12_of 54 = .ok (.ifCond .eq 65, 3) := by decide +kernel
theorem dX12_of_57 : decode cX12_of 57 = .ok (.iinc 3 1, 3) := by decide +kernel
theorem dX12_of_60 : decode cX12_of 60 = .ok (.aload_n 0, 1) := by decide +kernel
theorem dX12_of_61 : decode cX12_of 61 = .ok (.getfield 75, 3) := by decide +kernel
theorem dX12_of_64 : decode cX12_of 64 = .ok (.iload 6, 2) := by decide +kernel
theorem dX12_of_66 : decode cX12_of 66 = .ok (.iaload, 1) := by decide +kernel
theorem dX12_of_67 : decode cX12_of 67 = .ok (.iload 4, 2) := by decide +kernel
theorem dX12_of_69 : decode cX12_of 69 = .ok (.if_icmp .le 13, 3) := by decide +kernel
theorem dX12_of_72 : decode cX12_of 72 = .ok (.aload_n 0, 1) := by decide +kernel
theorem dX12_of_73 : decode cX12_of 73 = .ok (.getfield 75, 3) := by decide +kernel
theorem dX12_of_76 : decode cX12_of 76 = .ok (.iload 6, 2) := by decide +kernel
theorem dX12_of_78 : decode cX12_of 78 = .ok (.iaload, 1) := by decide +kernel
theorem dX12_of_79 : decode cX12_of 79 = .ok (.goto 5, 3) := by decide +kernel
theorem dX12_of_82 : decode cX12_of 82 = .ok (.iload 4, 2) := by decide +kernel
theorem dX12_of_84 : decode cX12_of 84 = .ok (.istore 4, 2) := by decide +kernel
theorem dX12_of_86 : decode cX12_of 86 = .ok (.iload 5, 2) := by decide +kernel
theorem dX12_of_88 : decode cX12_of 88 = .ok (.bipush (-2), 2) := by decide +kernel
theorem dX12_of_90 : decode cX12_of 90 = .ok (.if_icmp .eq 15, 3) := by decide +kernel
theorem dX12_of_93 : decode cX12_of 93 = .ok (.aload_n 0, 1) := by decide +kernel
theorem dX12_of_94 : decode cX12_of 94 = .ok (.getfield 75, 3) := by decide +kernel
theorem dX12_of_97 : decode cX12_of 97 = .ok (.iload 6, 2) := by decide +kernel
theorem dX12_of_99 : decode cX12_of 99 = .ok (.iaload, 1) := by decide +kernel
theorem dX12_of_100 : decode cX12_of 100 = .ok (.iload 5, 2) := by decide +kernel
theorem dX12_of_102 : decode cX12_of 102 = .ok (.if_icmp .ge 13, 3) := by decide +kernel
theorem dX12_of_105 : decode cX12_of 105 = .ok (.aload_n 0, 1) := by decide +kernel
theorem dX12_of_106 : decode cX12_of 106 = .ok (.getfield 75, 3) := by decide +kernel
theorem dX12_of_109 : decode cX12_of 109 = .ok (.iload 6, 2) := by decide +kernel
theorem dX12_of_111 : decode cX12_of 111 = .ok (.iaload, 1) := by decide +kernel
theorem dX12_of_112 : decode cX12_of 112 = .ok (.goto 5, 3) := by decide +kernel
theorem dX12_of_115 : decode cX12_of 115 = .ok (.iload 5, 2) := by decide +kernel
theorem dX12_of_117 : decode cX12_of 117 = .ok (.istore 5, 2) := by decide +kernel
theorem dX12_of_119 : decode cX12_of 119 = .ok (.iinc 6 1, 3) := by decide +kernel
theorem dX12_of_122 : decode cX12_of 122 = .ok (.goto (-86), 3) := by decide +kernel
theorem dX12_of_125 : decode cX12_of 125 = .ok (.iload_n 2, 1) := by decide +kernel
theorem dX12_of_126 : decode cX12_of 126 = .ok (.ifCond .ne 12, 3) := by decide +kernel
theorem dX12_of_129 : decode cX12_of 129 = .ok (.aload_n 0, 1) := by decide +kernel
theorem dX12_of_130 : decode cX12_of 130 = .ok (.getfield 105, 3) := by decide +kernel
theorem dX12_of_133 : decode cX12_of 133 = .ok (.iload_n 1, 1) := by decide +kernel
theorem dX12_of_134 : decode cX12_of 134 = .ok (.iaload, 1) := by decide +kernel
theorem dX12_of_135 : decode cX12_of 135 = .ok (.goto 38, 3) := by decide +kernel
theorem dX12_of_138 : decode cX12_of 138 = .ok (.iload_n 2, 1) := by decide +kernel
theorem dX12_of_139 : decode cX12_of 139 = .ok (.iconst 1, 1) := by decide +kernel
theorem dX12_of_140 : decode cX12_of 140 = .ok (.if_icmp .ne 12, 3) := by decide +kernel
theorem dX12_of_143 : decode cX12_of 143 = .ok (.aload_n 0, 1) := by decide +kernel
theorem dX12_of_144 : decode cX12_of 144 = .ok (.getfield 108, 3) := by decide +kernel
theorem dX12_of_147 : decode cX12_of 147 = .ok (.iload_n 1, 1) := by decide +kernel
theorem dX12_of_148 : decode cX12_of 148 = .ok (.iaload, 1) := by decide +kernel
theorem dX12_of_149 : decode cX12_of 149 = .ok (.goto 24, 3) := by decide +kernel
theorem dX12_of_152 : decode cX12_of 152 = .ok (.iload_n 2, 1) := by decide +kernel
theorem dX12_of_153 : decode cX12_of 153 = .ok (.iconst 2, 1) := by decide +kernel
theorem dX12_of_154 : decode cX12_of 154 = .ok (.if_icmp .ne 7, 3) := by decide +kernel
theorem dX12_of_157 : decode cX12_of 157 = .ok (.iload_n 3, 1) := by decide +kernel
theorem dX12_of_158 : decode cX12_of 158 = .ok (.goto 15, 3) := by decide +kernel
theorem dX12_of_161 : decode cX12_of 161 = .ok (.iload_n 2, 1) := by decide +kernel
theorem dX12_of_162 : decode cX12_of 162 = .ok (.iconst 3, 1) := by decide +kernel
theorem dX12_of_163 : decode cX12_of 163 = .ok (.if_icmp .ne 8, 3) := by decide +kernel
theorem dX12_of_166 : decode cX12_of 166 = .ok (.iload 4, 2) := by decide +kernel
theorem dX12_of_168 : decode cX12_of 168 = .ok (.goto 5, 3) := by decide +kernel
theorem dX12_of_171 : decode cX12_of 171 = .ok (.iload 5, 2) := by decide +kernel
theorem dX12_of_173 : decode cX12_of 173 = .ok (.ireturn, 1) := by decide +kernel
set_option maxHeartbeats 4000000 in
set_option maxRecDepth 100000 in
theorem cn_X12_of {l : Launch} {cA : Nat → ClassId} {ad : Nat → Nat} {D : va_G} {E : Nat → Nat} {A : Nat → Prop} {x1 : Int32} {x2 : Int32} {s0 sr : SS} {rr : Int32} (hf : f_X12_of x1 x2 s0 = some (rr, sr)) : zCon Om Nm cA ad D E l yX12_of cX12_of 7 (some .int) 4 A [.ref (ad 0), .int x1, .int x2] s0 (some (.int rr)) sr := by
  refine zstart (own := RX12) hOm (by decide) rfl (Nat.le_of_ble_eq_true rfl) ?_
  intro p e s m args below meth c X hP ls hl
  have hx := X.1
  have hb := X.2.1
  have hl : lv_has ls 7 [(0, .ref (ad 0)), (1, .int x1), (2, .int x2)] := hl
  have hS : va_S A s.heap s.heap [] := va_S.rf
  have hc_36 : ∀ (n36 : Nat) (x1 : Int32) (x2 : Int32) (x3 : Int32) (x4 : Int32) (x5 : Int32) (x6 : Int32) (s1 : SS) (H : Heap) (locs : List Loc) (ls : Array Slot), lv_has ls 7 [(0, .ref (ad 0)), (1, .int x1), (2, .int x2), (3, .int x3), (4, .int x4), (5, .int x5), (6, .int x6)] → va_P D ZCL (zw Om Nm cA ad s1) H → va_S A s.heap H locs → f_X12_of_c36 n36 x1 x2 x3 x4 x5 x6 s1 = some (rr, sr) → W p l e (zrm 4) s m args below meth c H locs 0 0 (MQ below (zQc Om Nm cA ad D A (some (.int rr)) sr) args s 0 0 A) (F0 m 36 ls []) := by
    intro n36
    induction n36 with
    | zero =>
      intro x1 x2 x3 x4 x5 x6 s1 H locs ls hl hP hS hf
      rw [f_X12_of_c36] at hf
      cases hf
    | succ n36 ih36 =>
      have hc_119 : ∀ (x1 : Int32) (x2 : Int32) (x3 : Int32) (x4 : Int32) (x5 : Int32) (x6 : Int32) (s1 : SS) (H : Heap) (locs : List Loc) (ls : Array Slot), lv_has ls 7 [(0, .ref (ad 0)), (1, .int x1), (2, .int x2), (3, .int x3), (4, .int x4), (5, .int x5), (6, .int x6)] → va_P D ZCL (zw Om Nm cA ad s1) H → va_S A s.heap H locs → f_X12_of_c119 (f_X12_of_c36 n36) x1 x2 x3 x4 x5 x6 s1 = some (rr, sr) → W p l e (zrm 4) s m args below meth c H locs 0 0 (MQ below (zQc Om Nm cA ad D A (some (.int rr)) sr) args s 0 0 A) (F0 m 119 ls []) := by
        intro x1 x2 x3 x4 x5 x6 s1 H locs ls hl hP hS hf
        rw [f_X12_of_c119] at hf
        refine lv_iinc (v := (x6 + 1)) (lv' := [(6, .int (x6 + 1)), (0, .ref (ad 0)), (1, .int x1), (2, .int x2), (3, .int x3), (4, .int x4), (5, .int x5)]) hx hb dX12_of_119 hl (k := 6) rfl rfl (by decide) rfl (fun ls hl => ?_)
        refine lv_goto (tgt := 36) hx hb dX12_of_122 (by decide) ?_
        exact ih36 x1 x2 x3 x4 x5 (x6 + 1) s1 _ _ _ (lv_sub hl [1, 2, 3, 4, 5, 6, 0] rfl) hP hS hf
      have hc_117 : ∀ (x1 : Int32) (x2 : Int32) (x3 : Int32) (x4 : Int32) (x6 : Int32) (t0 : Int32) (s1 : SS) (H : Heap) (locs : List Loc) (ls : Array Slot), lv_has ls 7 [(0, .ref (ad 0)), (1, .int x1), (2, .int x2), (3, .int x3), (4, .int x4), (6, .int x6)] → va_P D ZCL (zw Om Nm cA ad s1) H → va_S A s.heap H locs → f_X12_of_c117 (f_X12_of_c36 n36) x1 x2 x3 x4 x6 t0 s1 = some (rr, sr) → W p l e (zrm 4) s m args below meth c H locs 0 0 (MQ below (zQc Om Nm cA ad D A (some (.int rr)) sr) args s 0 0 A) (F0 m 117 ls [.int t0]) := by
        intro x1 x2 x3 x4 x6 t0 s1 H locs ls hl hP hS hf
        rw [f_X12_of_c117] at hf
        refine lv_istore (lv' := [(5, .int t0), (0, .ref (ad 0)), (1, .int x1), (2, .int x2), (3, .int x3), (4, .int x4), (6, .int x6)]) hx hb dX12_of_117 hl (by decide) rfl (fun ls hl => ?_)
        exact hc_119 x1 x2 x3 x4 t0 x6 s1 _ _ _ (lv_sub hl [1, 2, 3, 4, 5, 0, 6] rfl) hP hS hf
      have hc_105 : ∀ (x1 : Int32) (x2 : Int32) (x3 : Int32) (x4 : Int32) (x6 : Int32) (s1 : SS) (H : Heap) (locs : List Loc) (ls : Array Slot), lv_has ls 7 [(0, .ref (ad 0)), (1, .int x1), (2, .int x2), (3, .int x3), (4, .int x4), (6, .int x6)] → va_P D ZCL (zw Om Nm cA ad s1) H → va_S A s.heap H locs → f_X12_of_c105 (f_X12_of_c36 n36) x1 x2 x3 x4 x6 s1 = some (rr, sr) → W p l e (zrm 4) s m args below meth c H locs 0 0 (MQ below (zQc Om Nm cA ad D A (some (.int rr)) sr) args s 0 0 A) (F0 m 105 ls []) := by
        intro x1 x2 x3 x4 x6 s1 H locs ls hl hP hS hf
        rw [f_X12_of_c105] at hf
        refine lv_aload_n hx hb dX12_of_105 rfl (lv_at hl 0 rfl) ?_
        refine gf_X12_75 X hP (k := 0) (q := 5) rfl dX12_of_106 rfl ?_
        refine lv_iload hx hb dX12_of_109 (lv_at hl 5 rfl) ?_
        obtain ⟨g13, hf⟩ := zgd hf
        refine zald_i X hP (k := 5) (n := 462) (rs := []) rfl g13 dX12_of_111 ?_
        refine lv_goto (tgt := 117) hx hb dX12_of_112 (by decide) ?_
        exact hc_117 x1 x2 x3 x4 x6 (s1.1 5 (x6).toNatClampNeg) s1 _ _ _ (lv_sub hl [0, 1, 2, 3, 4, 5] rfl) hP hS hf
      have hc_84 : ∀ (x1 : Int32) (x2 : Int32) (x3 : Int32) (x5 : Int32) (x6 : Int32) (t0 : Int32) (s1 : SS) (H : Heap) (locs : List Loc) (ls : Array Slot), lv_has ls 7 [(0, .ref (ad 0)), (1, .int x1), (2, .int x2), (3, .int x3), (5, .int x5), (6, .int x6)] → va_P D ZCL (zw Om Nm cA ad s1) H → va_S A s.heap H locs → f_X12_of_c84 (f_X12_of_c36 n36) x1 x2 x3 x5 x6 t0 s1 = some (rr, sr) → W p l e (zrm 4) s m args below meth c H locs 0 0 (MQ below (zQc Om Nm cA ad D A (some (.int rr)) sr) args s 0 0 A) (F0 m 84 ls [.int t0]) := by
        intro x1 x2 x3 x5 x6 t0 s1 H locs ls hl hP hS hf
        rw [f_X12_of_c84] at hf
        refine lv_istore (lv' := [(4, .int t0), (0, .ref (ad 0)), (1, .int x1), (2, .int x2), (3, .int x3), (5, .int x5), (6, .int x6)]) hx hb dX12_of_84 hl (by decide) rfl (fun ls hl => ?_)
        refine lv_iload hx hb dX12_of_86 (lv_at hl 5 rfl) ?_
        refine lv_bipush (v := (-2)) hx hb dX12_of_88 (by decide) ?_
        refine zicmp_eq (tgt := 105) hx hb dX12_of_90 (by decide) hf (fun hf => ?_) (fun hf => ?_)
        · exact hc_105 x1 x2 x3 t0 x6 s1 _ _ _ (lv_sub hl [1, 2, 3, 4, 0, 6] rfl) hP hS hf
        · refine lv_aload_n hx hb dX12_of_93 rfl (lv_at hl 1 rfl) ?_
          refine gf_X12_75 X hP (k := 0) (q := 5) rfl dX12_of_94 rfl ?_
          refine lv_iload hx hb dX12_of_97 (lv_at hl 6 rfl) ?_
          obtain ⟨g14, hf⟩ := zgd hf
          refine zald_i X hP (k := 5) (n := 462) (rs := []) rfl g14 dX12_of_99 ?_
          refine lv_iload hx hb dX12_of_100 (lv_at hl 5 rfl) ?_
          refine zicmp_ge (tgt := 115) hx hb dX12_of_102 (by decide) hf (fun hf => ?_) (fun hf => ?_)
          · refine lv_iload hx hb dX12_of_115 (lv_at hl 5 rfl) ?_
            exact hc_117 x1 x2 x3 t0 x6 x5 s1 _ _ _ (lv_sub hl [1, 2, 3, 4, 0, 6] rfl) hP hS hf
          · exact hc_105 x1 x2 x3 t0 x6 s1 _ _ _ (lv_sub hl [1, 2, 3, 4, 0, 6] rfl) hP hS hf
      intro x1 x2 x3 x4 x5 x6 s1 H locs ls hl hP hS hf
      rw [f_X12_of_c36] at hf
      refine lv_iload hx hb dX12_of_36 (lv_at hl 6 rfl) ?_
      refine lv_aload_n hx hb dX12_of_38 rfl (lv_at hl 0 rfl) ?_
      refine gf_X12_56 X hP (k := 0) rfl dX12_of_39 ?_
      refine zicmp_ge (tgt := 125) hx hb dX12_of_42 (by decide) hf (fun hf => ?_) (fun hf => ?_)
      · refine lv_iload_n hx hb dX12_of_125 rfl (lv_at hl 2 rfl) ?_
        refine zif_ne (tgt := 138) hx hb dX12_of_126 (by decide) hf (fun hf => ?_) (fun hf => ?_)
        · refine lv_iload_n hx hb dX12_of_138 rfl (lv_at hl 2 rfl) ?_
          refine lv_iconst (v := 1) hx hb dX12_of_139 (by decide) ?_
          refine zicmp_ne (tgt := 152) hx hb dX12_of_140 (by decide) hf (fun hf => ?_) (fun hf => ?_)
          · refine lv_iload_n hx hb dX12_of_152 rfl (lv_at hl 2 rfl) ?_
            refine lv_iconst (v := 2) hx hb dX12_of_153 (by decide) ?_
            refine zicmp_ne (tgt := 161) hx hb dX12_of_154 (by decide) hf (fun hf => ?_) (fun hf => ?_)
            · refine lv_iload_n hx hb dX12_of_161 rfl (lv_at hl 2 rfl) ?_
              refine lv_iconst (v := 3) hx hb dX12_of_162 (by decide) ?_
              refine zicmp_ne (tgt := 171) hx hb dX12_of_163 (by decide) hf (fun hf => ?_) (fun hf => ?_)
              · refine lv_iload hx hb dX12_of_171 (lv_at hl 5 rfl) ?_
                exact zret_i X hP hS hf rfl dX12_of_173
              · refine lv_iload hx hb dX12_of_166 (lv_at hl 4 rfl) ?_
                refine lv_goto (tgt := 173) hx hb dX12_of_168 (by decide) ?_
                exact zret_i X hP hS hf rfl dX12_of_173
            · refine lv_iload_n hx hb dX12_of_157 rfl (lv_at hl 3 rfl) ?_
              refine lv_goto (tgt := 173) hx hb dX12_of_158 (by decide) ?_
              exact zret_i X hP hS hf rfl dX12_of_173
          · refine lv_aload_n hx hb dX12_of_143 rfl (lv_at hl 0 rfl) ?_
            refine gf_X12_108 X hP (k := 0) (q := 9) rfl dX12_of_144 rfl ?_
            refine lv_iload_n hx hb dX12_of_147 rfl (lv_at hl 1 rfl) ?_
            obtain ⟨g7, hf⟩ := zgd hf
            refine zald_i X hP (k := 9) (n := 8) (rs := []) rfl g7 dX12_of_148 ?_
            refine lv_goto (tgt := 173) hx hb dX12_of_149 (by decide) ?_
            exact zret_i X hP hS hf rfl dX12_of_173
        · refine lv_aload_n hx hb dX12_of_129 rfl (lv_at hl 0 rfl) ?_
          refine gf_X12_105 X hP (k := 0) (q := 8) rfl dX12_of_130 rfl ?_
          refine lv_iload_n hx hb dX12_of_133 rfl (lv_at hl 1 rfl) ?_
          obtain ⟨g8, hf⟩ := zgd hf
          refine zald_i X hP (k := 8) (n := 8) (rs := []) rfl g8 dX12_of_134 ?_
          refine lv_goto (tgt := 173) hx hb dX12_of_135 (by decide) ?_
          exact zret_i X hP hS hf rfl dX12_of_173
      · refine lv_aload_n hx hb dX12_of_45 rfl (lv_at hl 0 rfl) ?_
        refine lv_iload_n hx hb dX12_of_46 rfl (lv_at hl 1 rfl) ?_
        refine lv_iload hx hb dX12_of_47 (lv_at hl 6 rfl) ?_
        obtain ⟨r9, s10, h11, hf⟩ := zbd_some hf
        refine zcallV X hP hS hl.1 (k := 0) (As := [.int x1, .int x6]) (rest := []) (cn_X12_numberAt h11) cw_X12_numberAt zp_12 rfl (by decide) rfl ml_X12_233 (by decide) rfl rfl (Nat.le_of_ble_eq_true rfl) dX12_of_49 (fun H locs hP hS => ?_)
        refine lv_lconst (v := 0) hx hb dX12_of_52 (by decide) ?_
        refine W.lcmp hx hb dX12_of_53 ?_
        refine zif_eq (tgt := 119) hx hb dX12_of_54 (by decide) hf (fun hf => ?_) (fun hf => ?_)
        · exact hc_119 x1 x2 x3 x4 x5 x6 s10 _ _ _ (lv_sub hl [0, 1, 2, 3, 4, 5, 6] rfl) hP hS hf
        · refine lv_iinc (v := (x3 + 1)) (lv' := [(3, .int (x3 + 1)), (0, .ref (ad 0)), (1, .int x1), (2, .int x2), (4, .int x4), (5, .int x5), (6, .int x6)]) hx hb dX12_of_57 hl (k := 3) rfl rfl (by decide) rfl (fun ls hl => ?_)
          refine lv_aload_n hx hb dX12_of_60 rfl (lv_at hl 1 rfl) ?_
          refine gf_X12_75 X hP (k := 0) (q := 5) rfl dX12_of_61 rfl ?_
          refine lv_iload hx hb dX12_of_64 (lv_at hl 6 rfl) ?_
          obtain ⟨g12, hf⟩ := zgd hf
          refine zald_i X hP (k := 5) (n := 462) (rs := []) rfl g12 dX12_of_66 ?_
          refine lv_iload hx hb dX12_of_67 (lv_at hl 4 rfl) ?_
          refine zicmp_le (tgt := 82) hx hb dX12_of_69 (by decide) hf (fun hf => ?_) (fun hf => ?_)
          · refine lv_iload hx hb dX12_of_82 (lv_at hl 4 rfl) ?_
            exact hc_84 x1 x2 (x3 + 1) x5 x6 x4 s10 _ _ _ (lv_sub hl [1, 2, 3, 0, 5, 6] rfl) hP hS hf
          · refine lv_aload_n hx hb dX12_of_72 rfl (lv_at hl 1 rfl) ?_
            refine gf_X12_75 X hP (k := 0) (q := 5) rfl dX12_of_73 rfl ?_
            refine lv_iload hx hb dX12_of_76 (lv_at hl 6 rfl) ?_
            obtain ⟨g15, hf⟩ := zgd hf
            refine zald_i X hP (k := 5) (n := 462) (rs := []) rfl g15 dX12_of_78 ?_
            refine lv_goto (tgt := 84) hx hb dX12_of_79 (by decide) ?_
            exact hc_84 x1 x2 (x3 + 1) x5 x6 (s10.1 5 (x6).toNatClampNeg) s10 _ _ _ (lv_sub hl [1, 2, 3, 0, 5, 6] rfl) hP hS hf
  rw [f_X12_of] at hf
  refine lv_aload_n hx hb dX12_of_0 rfl (lv_at hl 0 rfl) ?_
  refine lv_iload_n hx hb dX12_of_1 rfl (lv_at hl 1 rfl) ?_
  refine lv_i2l hx hb dX12_of_2 rfl ?_
  obtain ⟨r1, s2, h3, hf⟩ := zbd_some hf
  refine zcallV X hP hS hl.1 (k := 0) (As := [.long (x1).toInt64]) (rest := []) (cn_X12_isClass h3) cw_X12_isClass zp_12 rfl (by decide) rfl ml_X12_245 (by decide) rfl rfl (Nat.le_of_ble_eq_true rfl) dX12_of_3 (fun H locs hP hS => ?_)
  refine zif_eq (tgt := 21) hx hb dX12_of_6 (by decide) hf (fun hf => ?_) (fun hf => ?_)
  · refine lv_iconst (v := (-1)) hx hb dX12_of_21 (by decide) ?_
    exact zret_i X hP hS hf rfl dX12_of_22
  · refine lv_iload_n hx hb dX12_of_9 rfl (lv_at hl 2 rfl) ?_
    refine lv_i2l hx hb dX12_of_10 rfl ?_
    refine lv_lconst (v := 0) hx hb dX12_of_11 (by decide) ?_
    refine zldc2 X co_X12_40 dX12_of_12 ?_
    obtain ⟨r4, s5, h6, hf⟩ := zbd_some hf
    refine zcallS X hP hS hl.1 (As := [.long (x2).toInt64, .long 0, .long 4]) (rest := []) (cn_X12_in h6) cw_X12_in ml_X12_203 (by decide) rfl rfl (Nat.le_of_ble_eq_true rfl) dX12_of_15 (fun H locs hP hS => ?_)
    refine zif_ne (tgt := 23) hx hb dX12_of_18 (by decide) hf (fun hf => ?_) (fun hf => ?_)
    · refine lv_iconst (v := 0) hx hb dX12_of_23 (by decide) ?_
      refine lv_istore_n (lv' := [(3, .int 0), (0, .ref (ad 0)), (1, .int x1), (2, .int x2)]) hx hb dX12_of_24 rfl hl (by decide) rfl (fun ls hl => ?_)
      refine lv_bipush (v := (-2)) hx hb dX12_of_25 (by decide) ?_
      refine lv_istore (lv' := [(4, .int (-2)), (3, .int 0), (0, .ref (ad 0)), (1, .int x1), (2, .int x2)]) hx hb dX12_of_27 hl (by decide) rfl (fun ls hl => ?_)
      refine lv_bipush (v := (-2)) hx hb dX12_of_29 (by decide) ?_
      refine lv_istore (lv' := [(5, .int (-2)), (4, .int (-2)), (3, .int 0), (0, .ref (ad 0)), (1, .int x1), (2, .int x2)]) hx hb dX12_of_31 hl (by decide) rfl (fun ls hl => ?_)
      refine lv_iconst (v := 0) hx hb dX12_of_33 (by decide) ?_
      refine lv_istore (lv' := [(6, .int 0), (5, .int (-2)), (4, .int (-2)), (3, .int 0), (0, .ref (ad 0)), (1, .int x1), (2, .int x2)]) hx hb dX12_of_34 hl (by decide) rfl (fun ls hl => ?_)
      exact hc_36 ZF x1 x2 0 (-2) (-2) 0 s5 _ _ _ (lv_sub hl [4, 5, 6, 3, 2, 1, 0] rfl) hP hS hf
    · refine lv_iconst (v := (-1)) hx hb dX12_of_21 (by decide) ?_
      exact zret_i X hP hS hf rfl dX12_of_22
theorem dX12_number_0 : decode cX12_number 0 = .ok (.aload_n 0, 1) := by decide +kernel
theorem dX12_number_1 : decode cX12_number 1 = .ok (.iload_n 1, 1) := by decide +kernel
theorem dX12_number_2 : decode cX12_number 2 = .ok (.i2l, 1) := by decide +kernel
theorem dX12_number_3 : decode cX12_number 3 = .ok (.invokevirtual 245, 3) := by decide +kernel
theorem dX12_number_6 : decode cX12_number 6 = .ok (.ifCond .eq 11, 3) := by decide +kernel
theorem dX12_number_9 : decode cX12_number 9 = .ok (.aload_n 0, 1) := by decide +kernel
theorem dX12_number_10 : decode cX12_number 10 = .ok (.iload_n 2, 1) := by decide +kernel
theorem dX12_number_11 : decode cX12_number 11 = .ok (.invokevirtual 217, 3) := by decide +kernel
theorem dX12_number_14 : decode cX12_number 14 = .ok (.ifCond .ge 9, 3) := by decide +kernel
theorem dX12_number_17 : decode cX12_number 17 = .ok (.ldc2_w 220, 3) := by decide +kernel
theorem dX12_number_20 : decode cX12_number 20 = .ok (.goto 13, 3) := by decide +kernel
theorem dX12_number_23 : decode cX12_number 23 = .ok (.aload_n 0, 1) := by decide +kernel
theorem dX12_number_24 : decode cX12_number 24 = .ok (.iload_n 1, 1) := by decide +kernel
theorem dX12_number_25 : decode cX12_number 25 = .ok (.aload_n 0, 1) := by decide +kernel
theorem dX12_number_26 : decode cX12_number 26 = .ok (.iload_n 2, 1) := by decide +kernel
theorem dX12_number_27 : decode cX12_number 27 = .ok (.invokevirtual 217, 3) := by decide +kernel
theorem dX12_number_30 : decode cX12_number 30 = .ok (.invokevirtual 233, 3) := by decide +kernel
theorem dX12_number_33 : decode cX12_number 33 = .ok (.lreturn, 1) := by decide +kernel
set_option maxHeartbeats 4000000 in
set_option maxRecDepth 100000 in
theorem cn_X12_number {l : Launch} {cA : Nat → ClassId} {ad : Nat → Nat} {D : va_G} {E : Nat → Nat} {A : Nat → Prop} {x1 : Int32} {x2 : Int32} {s0 sr : SS} {rr : Int64} (hf : f_X12_number x1 x2 s0 = some (rr, sr)) : zCon Om Nm cA ad D E l yX12_number cX12_number 3 (some .long) 4 A [.ref (ad 0), .int x1, .int x2] s0 (some (.long rr)) sr := by
  refine zstart (own := RX12) hOm (by decide) rfl (Nat.le_of_ble_eq_true rfl) ?_
  intro p e s m args below meth c X hP ls hl
  have hx := X.1
  have hb := X.2.1
  have hl : lv_has ls 3 [(0, .ref (ad 0)), (1, .int x1), (2, .int x2)] := hl
  have hS : va_S A s.heap s.heap [] := va_S.rf
  rw [f_X12_number] at hf
  refine lv_aload_n hx hb dX12_number_0 rfl (lv_at hl 0 rfl) ?_
  refine lv_iload_n hx hb dX12_number_1 rfl (lv_at hl 1 rfl) ?_
  refine lv_i2l hx hb dX12_number_2 rfl ?_
  obtain ⟨r1, s2, h3, hf⟩ := zbd_some hf
  refine zcallV X hP hS hl.1 (k := 0) (As := [.long (x1).toInt64]) (rest := []) (cn_X12_isClass h3) cw_X12_isClass zp_12 rfl (by decide) rfl ml_X12_245 (by decide) rfl rfl (Nat.le_of_ble_eq_true rfl) dX12_number_3 (fun H locs hP hS => ?_)
  refine zif_eq (tgt := 17) hx hb dX12_number_6 (by decide) hf (fun hf => ?_) (fun hf => ?_)
  · refine zldc2 X co_X12_220 dX12_number_17 ?_
    refine lv_goto (tgt := 33) hx hb dX12_number_20 (by decide) ?_
    exact zret_l X hP hS hf dX12_number_33
  · refine lv_aload_n hx hb dX12_number_9 rfl (lv_at hl 0 rfl) ?_
    refine lv_iload_n hx hb dX12_number_10 rfl (lv_at hl 2 rfl) ?_
    obtain ⟨r4, s5, h6, hf⟩ := zbd_some hf
    refine zcallV X hP hS hl.1 (k := 0) (As := [.int x2]) (rest := []) (cn_X12_termOf h6) cw_X12_termOf zp_12 rfl (by decide) rfl ml_X12_217 (by decide) rfl rfl (Nat.le_of_ble_eq_true rfl) dX12_number_11 (fun H locs hP hS => ?_)
    refine zif_ge (tgt := 23) hx hb dX12_number_14 (by decide) hf (fun hf => ?_) (fun hf => ?_)
    · refine lv_aload_n hx hb dX12_number_23 rfl (lv_at hl 0 rfl) ?_
      refine lv_iload_n hx hb dX12_number_24 rfl (lv_at hl 1 rfl) ?_
      refine lv_aload_n hx hb dX12_number_25 rfl (lv_at hl 0 rfl) ?_
      refine lv_iload_n hx hb dX12_number_26 rfl (lv_at hl 2 rfl) ?_
      obtain ⟨r7, s8, h9, hf⟩ := zbd_some hf
      refine zcallV X hP hS hl.1 (k := 0) (As := [.int x2]) (rest := [.int x1, .ref (ad 0)]) (cn_X12_termOf h9) cw_X12_termOf zp_12 rfl (by decide) rfl ml_X12_217 (by decide) rfl rfl (Nat.le_of_ble_eq_true rfl) dX12_number_27 (fun H locs hP hS => ?_)
      obtain ⟨r10, s11, h12, hf⟩ := zbd_some hf
      refine zcallV X hP hS hl.1 (k := 0) (As := [.int x1, .int r7]) (rest := []) (cn_X12_numberAt h12) cw_X12_numberAt zp_12 rfl (by decide) rfl ml_X12_233 (by decide) rfl rfl (Nat.le_of_ble_eq_true rfl) dX12_number_30 (fun H locs hP hS => ?_)
      exact zret_l X hP hS hf dX12_number_33
    · refine zldc2 X co_X12_220 dX12_number_17 ?_
      refine lv_goto (tgt := 33) hx hb dX12_number_20 (by decide) ?_
      exact zret_l X hP hS hf dX12_number_33
theorem dX12_drop_0 : decode cX12_drop 0 = .ok (.aload_n 0, 1) := by decide +kernel
theorem dX12_drop_1 : decode cX12_drop 1 = .ok (.getfield 89, 3) := by decide +kernel
theorem dX12_drop_4 : decode cX12_drop 4 = .ok (.ifCond .ne 6, 3) := by decide +kernel
theorem dX12_drop_7 : decode cX12_drop 7 = .ok (.bipush (-5), 2) := by decide +kernel
theorem dX12_drop_9 : decode cX12_drop 9 = .ok (.ireturn, 1) := by decide +kernel
theorem dX12_drop_10 : decode cX12_drop 10 = .ok (.aload_n 0, 1) := by decide +kernel
theorem dX12_drop_11 : decode cX12_drop 11 = .ok (.dup, 1) := by decide +kernel
theorem dX12_drop_12 : decode cX12_drop 12 = .ok (.getfield 89, 3) := by decide +kernel
theorem dX12_drop_15 : decode cX12_drop 15 = .ok (.iconst 1, 1) := by decide +kernel
theorem dX12_drop_16 : decode cX12_drop 16 = .ok (.isub, 1) := by decide +kernel
theorem dX12_drop_17 : decode cX12_drop 17 = .ok (.putfield 89, 3) := by decide +kernel
theorem dX12_drop_20 : decode cX12_drop 20 = .ok (.aload_n 0, 1) := by decide +kernel
theorem dX12_drop_21 : decode cX12_drop 21 = .ok (.invokevirtual 198, 3) := by decide +kernel
theorem dX12_drop_24 : decode cX12_drop 24 = .ok (.aload_n 0, 1) := by decide +kernel
theorem dX12_drop_25 : decode cX12_drop 25 = .ok (.getfield 89, 3) := by decide +kernel
theorem dX12_drop_28 : decode cX12_drop 28 = .ok (.ireturn, 1) := by decide +kernel
set_option maxHeartbeats 4000000 in
set_option maxRecDepth 100000 in
theorem cn_X12_drop {l : Launch} {cA : Nat → ClassId} {ad : Nat → Nat} {D : va_G} {E : Nat → Nat} {A : Nat → Prop}  {s0 sr : SS} {rr : Int32} (hf : f_X12_drop s0 = some (rr, sr)) : zCon Om Nm cA ad D E l yX12_drop cX12_drop 1 (some .int) 1 A [.ref (ad 0)] s0 (some (.int rr)) sr := by
  refine zstart (own := RX12) hOm (by decide) rfl (Nat.le_of_ble_eq_true rfl) ?_
  intro p e s m args below meth c X hP ls hl
  have hx := X.1
  have hb := X.2.1
  have hl : lv_has ls 1 [(0, .ref (ad 0))] := hl
  have hS : va_S A s.heap s.heap [] := va_S.rf
  rw [f_X12_drop] at hf
  refine lv_aload_n hx hb dX12_drop_0 rfl (lv_at hl 0 rfl) ?_
  refine gf_X12_89 X hP (k := 0) rfl dX12_drop_1 ?_
  refine zif_ne (tgt := 10) hx hb dX12_drop_4 (by decide) hf (fun hf => ?_) (fun hf => ?_)
  · refine lv_aload_n hx hb dX12_drop_10 rfl (lv_at hl 0 rfl) ?_
    refine lv_dup hx hb dX12_drop_11 rfl ?_
    refine gf_X12_89 X hP (k := 0) rfl dX12_drop_12 ?_
    refine lv_iconst (v := 1) hx hb dX12_drop_15 (by decide) ?_
    refine lv_isub hx hb dX12_drop_16 ?_
    refine pf_X12_89 X hP hS (k := 0) rfl dX12_drop_17 (fun H locs hP hS => ?_)
    refine lv_aload_n hx hb dX12_drop_20 rfl (lv_at hl 0 rfl) ?_
    obtain ⟨r1, s2, h3, hf⟩ := zbd_some hf
    refine zcallV X hP hS hl.1 (k := 0) (As := []) (rest := []) (cn_X12_forget h3) cw_X12_forget zp_12 rfl (by decide) rfl ml_X12_198 (by decide) rfl rfl (Nat.le_of_ble_eq_true rfl) dX12_drop_21 (fun H locs hP hS => ?_)
    refine lv_aload_n hx hb dX12_drop_24 rfl (lv_at hl 0 rfl) ?_
    refine gf_X12_89 X hP (k := 0) rfl dX12_drop_25 ?_
    exact zret_i X hP hS hf rfl dX12_drop_28
  · refine lv_bipush (v := (-5)) hx hb dX12_drop_7 (by decide) ?_
    exact zret_i X hP hS hf rfl dX12_drop_9
theorem dX12_layCanonical_0 : decode cX12_layCanonical 0 = .ok (.aload_n 0, 1) := by decide +kernel
theorem dX12_layCanonical_1 : decode cX12_layCanonical 1 = .ok (.aload_n 1, 1) := by decide +kernel
theorem dX12_layCanonical_2 : decode cX12_layCanonical 2 = .ok (.invokevirtual 237, 3) := by decide +kernel
theorem dX12_layCanonical_5 : decode cX12_layCanonical 5 = .ok (.iconst 0, 1) := by decide +kernel
theorem dX12_layCanonical_6 : decode cX12_layCanonical 6 = .ok (.istore_n 2, 1) := by decide +kernel
theorem dX12_layCanonical_7 : decode cX12_layCanonical 7 = .ok (.iload_n 2, 1) := by decide +kernel
theorem dX12_layCanonical_8 : decode cX12_layCanonical 8 = .ok (.aload_n 0, 1) := by decide +kernel
theorem dX12_layCanonical_9 : decode cX12_layCanonical 9 = .ok (.invokevirtual 68, 3) := by decide +kernel
theorem dX12_layCanonical_12 : decode cX12_layCanonical 12 = .ok (.if_icmp .ge 101, 3) := by decide +kernel
theorem dX12_layCanonical_15 : decode cX12_layCanonical 15 = .ok (.aload_n 0, 1) := by decide +kernel
theorem dX12_layCanonical_16 : decode cX12_layCanonical 16 = .ok (.getfield 65, 3) := by decide +kernel
theorem dX12_layCanonical_19 : decode cX12_layCanonical 19 = .ok (.iload_n 2, 1) := by decide +kernel
theorem dX12_layCanonical_20 : decode cX12_layCanonical 20 = .ok (.invokestatic 15, 3) := by decide +kernel
theorem dX12_layCanonical_23 : decode cX12_layCanonical 23 = .ok (.iaload, 1) := by decide +kernel
theorem dX12_layCanonical_24 : decode cX12_layCanonical 24 = .ok (.istore_n 3, 1) := by decide +kernel
theorem dX12_layCanonical_25 : decode cX12_layCanonical 25 = .ok (.aload_n 0, 1) := by decide +kernel
theorem dX12_layCanonical_26 : decode cX12_layCanonical 26 = .ok (.getfield 3, 3) := by decide +kernel
theorem dX12_layCanonical_29 : decode cX12_layCanonical 29 = .ok (.ifCond .ne 37, 3) := by decide +kernel
theorem dX12_layCanonical_32 : decode cX12_layCanonical 32 = .ok (.aload_n 1, 1) := by decide +kernel
theorem dX12_layCanonical_33 : decode cX12_layCanonical 33 = .ok (.iload_n 3, 1) := by decide +kernel
theorem dX12_layCanonical_34 : decode cX12_layCanonical 34 = .ok (.iload_n 2, 1) := by decide +kernel
theorem dX12_layCanonical_35 : decode cX12_layCanonical 35 = .ok (.aload_n 0, 1) := by decide +kernel
theorem dX12_layCanonical_36 : decode cX12_layCanonical 36 = .ok (.getfield 9, 3) := by decide +kernel
theorem dX12_layCanonical_39 : decode cX12_layCanonical 39 = .ok (.if_icmp .ge 16, 3) := by decide +kernel
theorem dX12_layCanonical_42 : decode cX12_layCanonical 42 = .ok (.aload_n 0, 1) := by decide +kernel
theorem dX12_layCanonical_43 : decode cX12_layCanonical 43 = .ok (.getfield 23, 3) := by decide +kernel
theorem dX12_layCanonical_46 : decode cX12_layCanonical 46 = .ok (.iload_n 2, 1) := by decide +kernel
theorem dX12_layCanonical_47 : decode cX12_layCanonical 47 = .ok (.iaload, 1) := by decide +kernel
theorem dX12_layCanonical_48 : decode cX12_layCanonical 48 = .ok (.iconst 1, 1) := by decide +kernel
theorem dX12_layCanonical_49 : decode cX12_layCanonical 49 = .ok (.iadd, 1) := by decide +kernel
theorem dX12_layCanonical_50 : decode cX12_layCanonical 50 = .ok (.ineg, 1) := by decide +kernel
theorem dX12_layCanonical_51 : decode cX12_layCanonical 51 = .ok (.i2l, 1) := by decide +kernel
theorem dX12_layCanonical_52 : decode cX12_layCanonical 52 = .ok (.goto 10, 3) := by decide +kernel
theorem dX12_layCanonical_55 : decode cX12_layCanonical 55 = .ok (.aload_n 0, 1) := by decide +kernel
theorem dX12_layCanonical_56 : decode cX12_layCanonical 56 = .ok (.getfield 27, 3) := by decide +kernel
theorem dX12_layCanonical_59 : decode cX12_layCanonical 59 = .ok (.iconst 1, 1) := by decide +kernel
theorem dX12_layCanonical_60 : decode cX12_layCanonical 60 = .ok (.isub, 1) := by decide +kernel
theorem dX12_layCanonical_61 : decode cX12_layCanonical 61 = .ok (.i2l, 1) := by decide +kernel
theorem dX12_layCanonical_62 : decode cX12_layCanonical 62 = .ok (.lastore, 1) := by decide +kernel
theorem dX12_layCanonical_63 : decode cX12_layCanonical 63 = .ok (.goto 44, 3) := by decide +kernel
theorem dX12_layCanonical_66 : decode cX12_layCanonical 66 = .ok (.aload_n 0, 1) := by decide +kernel
theorem dX12_layCanonical_67 : decode cX12_layCanonical 67 = .ok (.getfield 3, 3) := by decide +kernel
theorem dX12_layCanonical_70 : decode cX12_layCanonical 70 = .ok (.iconst 1, 1) := by decide +kernel
theorem dX12_layCanonical_71 : decode cX12_layCanonical 71 = .ok (.if_icmp .ne 20, 3) := by decide +kernel
theorem dX12_layCanonical_74 : decode cX12_layCanonical 74 = .ok (.aload_n 1, 1) := by decide +kernel
theorem dX12_layCanonical_75 : decode cX12_layCanonical 75 = .ok (.iload_n 3, 1) := by decide +kernel
theorem dX12_layCanonical_76 : decode cX12_layCanonical 76 = .ok (.iload_n 2, 1) := by decide +kernel
theorem dX12_layCanonical_77 : decode cX12_layCanonical 77 = .ok (.ifCond .ne 9, 3) := by decide +kernel
theorem dX12_layCanonical_80 : decode cX12_layCanonical 80 = .ok (.ldc2_w 253, 3) := by decide +kernel
theorem dX12_layCanonical_83 : decode cX12_layCanonical 83 = .ok (.goto 4, 3) := by decide +kernel
theorem dX12_layCanonical_86 : decode cX12_layCanonical 86 = .ok (.lconst 1, 1) := by decide +kernel
theorem dX12_layCanonical_87 : decode cX12_layCanonical 87 = .ok (.lastore, 1) := by decide +kernel
theorem dX12_layCanonical_88 : decode cX12_layCanonical 88 = .ok (.goto 19, 3) := by decide +kernel
theorem dX12_layCanonical_91 : decode cX12_layCanonical 91 = .ok (.aload_n 1, 1) := by decide +kernel
theorem dX12_layCanonical_92 : decode cX12_layCanonical 92 = .ok (.iload_n 3, 1) := by decide +kernel
theorem dX12_layCanonical_93 : decode cX12_layCanonical 93 = .ok (.iload_n 2, 1) := by decide +kernel
theorem dX12_layCanonical_94 : decode cX12_layCanonical 94 = .ok (.ifCond .ne 9, 3) := by decide +kernel
theorem dX12_layCanonical_97 : decode cX12_layCanonical 97 = .ok (.ldc2_w 255, 3) := by decide +kernel
theorem dX12_layCanonical_100 : decode cX12_layCanonical 100 = .ok (.goto 6, 3) := by decide +kernel
theorem dX12_layCanonical_103 : decode cX12_layCanonical 103 = .ok (.ldc2_w 35, 3) := by decide +kernel
theorem dX12_layCanonical_106 : decode cX12_layCanonical 106 = .ok (.lastore, 1) := by decide +kernel
theorem dX12_layCanonical_107 : decode cX12_layCanonical 107 = .ok (.iinc 2 1, 3) := by decide +kernel
theorem dX12_layCanonical_110 : decode cX12_layCanonical 110 = .ok (.goto (-103), 3) := by decide +kernel
theorem dX12_layCanonical_113 : decode cX12_layCanonical 113 = .ok (.return_, 1) := by decide +kernel
set_option maxHeartbeats 4000000 in
set_option maxRecDepth 100000 in
theorem cn_X12_layCanonical {l : Launch} {cA : Nat → ClassId} {ad : Nat → Nat} {D : va_G} {E : Nat → Nat} {A : Nat → Prop} {k1 : Nat} {s0 sr : SS} {rr : Unit} (hf : f_X12_layCanonical k1 s0 = some (rr, sr)) : zCon Om Nm cA ad D E l yX12_layCanonical cX12_layCanonical 4 none 1 A [.ref (ad 0), .ref (ad k1)] s0 none sr := by
  refine zstart (own := RX12) hOm (by decide) rfl (Nat.le_of_ble_eq_true rfl) ?_
  intro p e s m args below meth c X hP ls hl
  have hx := X.1
  have hb := X.2.1
  have hl : lv_has ls 4 [(0, .ref (ad 0)), (1, .ref (ad k1))] := hl
  have hS : va_S A s.heap s.heap [] := va_S.rf
  have hc_7 : ∀ (n7 : Nat) (k1 : Nat) (x2 : Int32) (s1 : SS) (H : Heap) (locs : List Loc) (ls : Array Slot), lv_has ls 4 [(0, .ref (ad 0)), (1, .ref (ad k1)), (2, .int x2)] → va_P D ZCL (zw Om Nm cA ad s1) H → va_S A s.heap H locs → f_X12_layCanonical_c7 n7 k1 x2 s1 = some (rr, sr) → W p l e (zrm 1) s m args below meth c H locs 0 0 (MQ below (zQc Om Nm cA ad D A none sr) args s 0 0 A) (F0 m 7 ls []) := by
    intro n7
    induction n7 with
    | zero =>
      intro k1 x2 s1 H locs ls hl hP hS hf
      rw [f_X12_layCanonical_c7] at hf
      cases hf
    | succ n7 ih7 =>
      have hc_107 : ∀ (k1 : Nat) (x2 : Int32) (s1 : SS) (H : Heap) (locs : List Loc) (ls : Array Slot), lv_has ls 4 [(0, .ref (ad 0)), (1, .ref (ad k1)), (2, .int x2)] → va_P D ZCL (zw Om Nm cA ad s1) H → va_S A s.heap H locs → f_X12_layCanonical_c107 (f_X12_layCanonical_c7 n7) k1 x2 s1 = some (rr, sr) → W p l e (zrm 1) s m args below meth c H locs 0 0 (MQ below (zQc Om Nm cA ad D A none sr) args s 0 0 A) (F0 m 107 ls []) := by
        intro k1 x2 s1 H locs ls hl hP hS hf
        rw [f_X12_layCanonical_c107] at hf
        refine lv_iinc (v := (x2 + 1)) (lv' := [(2, .int (x2 + 1)), (0, .ref (ad 0)), (1, .ref (ad k1))]) hx hb dX12_layCanonical_107 hl (k := 2) rfl rfl (by decide) rfl (fun ls hl => ?_)
        refine lv_goto (tgt := 7) hx hb dX12_layCanonical_110 (by decide) ?_
        exact ih7 k1 (x2 + 1) s1 _ _ _ (lv_sub hl [1, 2, 0] rfl) hP hS hf
      have hc_106 : ∀ (k1 : Nat) (x2 : Int32) (t0 : Int64) (t1 : Int32) (kt2 : Nat) (s1 : SS) (H : Heap) (locs : List Loc) (ls : Array Slot), lv_has ls 4 [(0, .ref (ad 0)), (1, .ref (ad k1)), (2, .int x2)] → va_P D ZCL (zw Om Nm cA ad s1) H → va_S A s.heap H locs → f_X12_layCanonical_c106 (f_X12_layCanonical_c7 n7) k1 x2 t0 t1 kt2 s1 = some (rr, sr) → W p l e (zrm 1) s m args below meth c H locs 0 0 (MQ below (zQc Om Nm cA ad D A none sr) args s 0 0 A) (F0 m 106 ls [.long t0, .int t1, .ref (ad kt2)]) := by
        intro k1 x2 t0 t1 kt2 s1 H locs ls hl hP hS hf
        rw [f_X12_layCanonical_c106] at hf
        obtain ⟨g11, hf⟩ := zgd hf
        obtain ⟨n12, rn12, on12, in12⟩ := zok_of g11
        refine zast_l X hP hS (k := kt2) on12 in12 dX12_layCanonical_106 (fun H locs hP hS => ?_)
        exact hc_107 k1 x2 (zSL s1 kt2 (t1).toNatClampNeg t0) _ _ _ (lv_sub hl [0, 1, 2] rfl) hP hS hf
      have hc_87 : ∀ (k1 : Nat) (x2 : Int32) (t0 : Int64) (t1 : Int32) (kt2 : Nat) (s1 : SS) (H : Heap) (locs : List Loc) (ls : Array Slot), lv_has ls 4 [(0, .ref (ad 0)), (1, .ref (ad k1)), (2, .int x2)] → va_P D ZCL (zw Om Nm cA ad s1) H → va_S A s.heap H locs → f_X12_layCanonical_c87 (f_X12_layCanonical_c7 n7) k1 x2 t0 t1 kt2 s1 = some (rr, sr) → W p l e (zrm 1) s m args below meth c H locs 0 0 (MQ below (zQc Om Nm cA ad D A none sr) args s 0 0 A) (F0 m 87 ls [.long t0, .int t1, .ref (ad kt2)]) := by
        intro k1 x2 t0 t1 kt2 s1 H locs ls hl hP hS hf
        rw [f_X12_layCanonical_c87] at hf
        obtain ⟨g13, hf⟩ := zgd hf
        obtain ⟨n14, rn14, on14, in14⟩ := zok_of g13
        refine zast_l X hP hS (k := kt2) on14 in14 dX12_layCanonical_87 (fun H locs hP hS => ?_)
        refine lv_goto (tgt := 107) hx hb dX12_layCanonical_88 (by decide) ?_
        exact hc_107 k1 x2 (zSL s1 kt2 (t1).toNatClampNeg t0) _ _ _ (lv_sub hl [0, 1, 2] rfl) hP hS hf
      have hc_62 : ∀ (k1 : Nat) (x2 : Int32) (t0 : Int64) (t1 : Int32) (kt2 : Nat) (s1 : SS) (H : Heap) (locs : List Loc) (ls : Array Slot), lv_has ls 4 [(0, .ref (ad 0)), (1, .ref (ad k1)), (2, .int x2)] → va_P D ZCL (zw Om Nm cA ad s1) H → va_S A s.heap H locs → f_X12_layCanonical_c62 (f_X12_layCanonical_c7 n7) k1 x2 t0 t1 kt2 s1 = some (rr, sr) → W p l e (zrm 1) s m args below meth c H locs 0 0 (MQ below (zQc Om Nm cA ad D A none sr) args s 0 0 A) (F0 m 62 ls [.long t0, .int t1, .ref (ad kt2)]) := by
        intro k1 x2 t0 t1 kt2 s1 H locs ls hl hP hS hf
        rw [f_X12_layCanonical_c62] at hf
        obtain ⟨g15, hf⟩ := zgd hf
        obtain ⟨n16, rn16, on16, in16⟩ := zok_of g15
        refine zast_l X hP hS (k := kt2) on16 in16 dX12_layCanonical_62 (fun H locs hP hS => ?_)
        refine lv_goto (tgt := 107) hx hb dX12_layCanonical_63 (by decide) ?_
        exact hc_107 k1 x2 (zSL s1 kt2 (t1).toNatClampNeg t0) _ _ _ (lv_sub hl [0, 1, 2] rfl) hP hS hf
      intro k1 x2 s1 H locs ls hl hP hS hf
      rw [f_X12_layCanonical_c7] at hf
      refine lv_iload_n hx hb dX12_layCanonical_7 rfl (lv_at hl 2 rfl) ?_
      refine lv_aload_n hx hb dX12_layCanonical_8 rfl (lv_at hl 0 rfl) ?_
      obtain ⟨r4, s5, h6, hf⟩ := zbd_some hf
      refine zcallV X hP hS hl.1 (k := 0) (As := []) (rest := [.int x2]) (cn_X12_letters h6) cw_X12_letters zp_12 rfl (by decide) rfl ml_X12_68 (by decide) rfl rfl (Nat.le_of_ble_eq_true rfl) dX12_layCanonical_9 (fun H locs hP hS => ?_)
      refine zicmp_ge (tgt := 113) hx hb dX12_layCanonical_12 (by decide) hf (fun hf => ?_) (fun hf => ?_)
      · exact zret_v X hP hS hf dX12_layCanonical_113
      · refine lv_aload_n hx hb dX12_layCanonical_15 rfl (lv_at hl 0 rfl) ?_
        refine gf_X12_65 X hP (k := 0) (q := 7) rfl dX12_layCanonical_16 rfl ?_
        refine lv_iload_n hx hb dX12_layCanonical_19 rfl (lv_at hl 2 rfl) ?_
        obtain ⟨r7, s8, h9, hf⟩ := zbd_some hf
        refine zcallS X hP hS hl.1 (As := [.int x2]) (rest := [.ref (ad 7)]) (cn_X12_tens h9) cw_X12_tens ml_X12_15 (by decide) rfl rfl (Nat.le_of_ble_eq_true rfl) dX12_layCanonical_20 (fun H locs hP hS => ?_)
        obtain ⟨g10, hf⟩ := zgd hf
        refine zald_i X hP (k := 7) (n := 600000) (rs := []) rfl g10 dX12_layCanonical_23 ?_
        refine lv_istore_n (lv' := [(3, .int (s8.1 7 (r7).toNatClampNeg)), (0, .ref (ad 0)), (1, .ref (ad k1)), (2, .int x2)]) hx hb dX12_layCanonical_24 rfl hl (by decide) rfl (fun ls hl => ?_)
        refine lv_aload_n hx hb dX12_layCanonical_25 rfl (lv_at hl 1 rfl) ?_
        refine gf_X12_3 X hP (k := 0) rfl dX12_layCanonical_26 ?_
        refine zif_ne (tgt := 66) hx hb dX12_layCanonical_29 (by decide) hf (fun hf => ?_) (fun hf => ?_)
        · refine lv_aload_n hx hb dX12_layCanonical_66 rfl (lv_at hl 1 rfl) ?_
          refine gf_X12_3 X hP (k := 0) rfl dX12_layCanonical_67 ?_
          refine lv_iconst (v := 1) hx hb dX12_layCanonical_70 (by decide) ?_
          refine zicmp_ne (tgt := 91) hx hb dX12_layCanonical_71 (by decide) hf (fun hf => ?_) (fun hf => ?_)
          · refine lv_aload_n hx hb dX12_layCanonical_91 rfl (lv_at hl 2 rfl) ?_
            refine lv_iload_n hx hb dX12_layCanonical_92 rfl (lv_at hl 0 rfl) ?_
            refine lv_iload_n hx hb dX12_layCanonical_93 rfl (lv_at hl 3 rfl) ?_
            refine zif_ne (tgt := 103) hx hb dX12_layCanonical_94 (by decide) hf (fun hf => ?_) (fun hf => ?_)
            · refine zldc2 X co_X12_35 dX12_layCanonical_103 ?_
              exact hc_106 k1 x2 2 (s8.1 7 (r7).toNatClampNeg) k1 s8 _ _ _ (lv_sub hl [1, 2, 3] rfl) hP hS hf
            · refine zldc2 X co_X12_255 dX12_layCanonical_97 ?_
              refine lv_goto (tgt := 106) hx hb dX12_layCanonical_100 (by decide) ?_
              exact hc_106 k1 x2 (-6) (s8.1 7 (r7).toNatClampNeg) k1 s8 _ _ _ (lv_sub hl [1, 2, 3] rfl) hP hS hf
          · refine lv_aload_n hx hb dX12_layCanonical_74 rfl (lv_at hl 2 rfl) ?_
            refine lv_iload_n hx hb dX12_layCanonical_75 rfl (lv_at hl 0 rfl) ?_
            refine lv_iload_n hx hb dX12_layCanonical_76 rfl (lv_at hl 3 rfl) ?_
            refine zif_ne (tgt := 86) hx hb dX12_layCanonical_77 (by decide) hf (fun hf => ?_) (fun hf => ?_)
            · refine lv_lconst (v := 1) hx hb dX12_layCanonical_86 (by decide) ?_
              exact hc_87 k1 x2 1 (s8.1 7 (r7).toNatClampNeg) k1 s8 _ _ _ (lv_sub hl [1, 2, 3] rfl) hP hS hf
            · refine zldc2 X co_X12_253 dX12_layCanonical_80 ?_
              refine lv_goto (tgt := 87) hx hb dX12_layCanonical_83 (by decide) ?_
              exact hc_87 k1 x2 (-4) (s8.1 7 (r7).toNatClampNeg) k1 s8 _ _ _ (lv_sub hl [1, 2, 3] rfl) hP hS hf
        · refine lv_aload_n hx hb dX12_layCanonical_32 rfl (lv_at hl 2 rfl) ?_
          refine lv_iload_n hx hb dX12_layCanonical_33 rfl (lv_at hl 0 rfl) ?_
          refine lv_iload_n hx hb dX12_layCanonical_34 rfl (lv_at hl 3 rfl) ?_
          refine lv_aload_n hx hb dX12_layCanonical_35 rfl (lv_at hl 1 rfl) ?_
          refine gf_X12_9 X hP (k := 0) rfl dX12_layCanonical_36 ?_
          refine zicmp_ge (tgt := 55) hx hb dX12_layCanonical_39 (by decide) hf (fun hf => ?_) (fun hf => ?_)
          · refine lv_aload_n hx hb dX12_layCanonical_55 rfl (lv_at hl 1 rfl) ?_
            refine gf_X12_27 X hP (k := 0) rfl dX12_layCanonical_56 ?_
            refine lv_iconst (v := 1) hx hb dX12_layCanonical_59 (by decide) ?_
            refine lv_isub hx hb dX12_layCanonical_60 ?_
            refine lv_i2l hx hb dX12_layCanonical_61 rfl ?_
            exact hc_62 k1 x2 (((s8.1 0 1) - (1 : Int32))).toInt64 (s8.1 7 (r7).toNatClampNeg) k1 s8 _ _ _ (lv_sub hl [1, 2, 3] rfl) hP hS hf
          · refine lv_aload_n hx hb dX12_layCanonical_42 rfl (lv_at hl 1 rfl) ?_
            refine gf_X12_23 X hP (k := 0) (q := 1) rfl dX12_layCanonical_43 rfl ?_
            refine lv_iload_n hx hb dX12_layCanonical_46 rfl (lv_at hl 3 rfl) ?_
            obtain ⟨g17, hf⟩ := zgd hf
            refine zald_i X hP (k := 1) (n := 3) (rs := []) rfl g17 dX12_layCanonical_47 ?_
            refine lv_iconst (v := 1) hx hb dX12_layCanonical_48 (by decide) ?_
            refine lv_iadd hx hb dX12_layCanonical_49 ?_
            refine lv_ineg hx hb dX12_layCanonical_50 ?_
            refine lv_i2l hx hb dX12_layCanonical_51 rfl ?_
            refine lv_goto (tgt := 62) hx hb dX12_layCanonical_52 (by decide) ?_
            exact hc_62 k1 x2 ((-((s8.1 1 (x2).toNatClampNeg) + (1 : Int32)))).toInt64 (s8.1 7 (r7).toNatClampNeg) k1 s8 _ _ _ (lv_sub hl [1, 2, 3] rfl) hP hS hf
  rw [f_X12_layCanonical] at hf
  refine lv_aload_n hx hb dX12_layCanonical_0 rfl (lv_at hl 0 rfl) ?_
  refine lv_aload_n hx hb dX12_layCanonical_1 rfl (lv_at hl 1 rfl) ?_
  obtain ⟨r1, s2, h3, hf⟩ := zbd_some hf
  refine zcallV X hP hS hl.1 (k := 0) (As := [.ref (ad k1)]) (rest := []) (cn_X12_empty h3) cw_X12_empty zp_12 rfl (by decide) rfl ml_X12_237 (by decide) rfl rfl (Nat.le_of_ble_eq_true rfl) dX12_layCanonical_2 (fun H locs hP hS => ?_)
  refine lv_iconst (v := 0) hx hb dX12_layCanonical_5 (by decide) ?_
  refine lv_istore_n (lv' := [(2, .int 0), (0, .ref (ad 0)), (1, .ref (ad k1))]) hx hb dX12_layCanonical_6 rfl hl (by decide) rfl (fun ls hl => ?_)
  exact hc_7 ZF k1 0 s2 _ _ _ (lv_sub hl [1, 2, 0] rfl) hP hS hf
theorem dX12_canonical_0 : decode cX12_canonical 0 = .ok (.aload_n 0, 1) := by decide +kernel
theorem dX12_canonical_1 : decode cX12_canonical 1 = .ok (.getfield 89, 3) := by decide +kernel
theorem dX12_canonical_4 : decode cX12_canonical 4 = .ok (.bipush 8, 2) := by decide +kernel
theorem dX12_canonical_6 : decode cX12_canonical 6 = .ok (.if_icmp .ne 6, 3) := by decide +kernel
theorem dX12_canonical_9 : decode cX12_canonical 9 = .ok (.bipush (-3), 2) := by decide +kernel
theorem dX12_canonical_11 : decode cX12_canonical 11 = .ok (.ireturn, 1) := by decide +kernel
theorem dX12_canonical_12 : decode cX12_canonical 12 = .ok (.aload_n 0, 1) := by decide +kernel
theorem dX12_canonical_13 : decode cX12_canonical 13 = .ok (.aload_n 0, 1) := by decide +kernel
theorem dX12_canonical_14 : decode cX12_canonical 14 = .ok (.getfield 111, 3) := by decide +kernel
theorem dX12_canonical_17 : decode cX12_canonical 17 = .ok (.invokevirtual 257, 3) := by decide +kernel
theorem dX12_canonical_20 : decode cX12_canonical 20 = .ok (.aload_n 0, 1) := by decide +kernel
theorem dX12_canonical_21 : decode cX12_canonical 21 = .ok (.invokevirtual 198, 3) := by decide +kernel
theorem dX12_canonical_24 : decode cX12_canonical 24 = .ok (.aload_n 0, 1) := by decide +kernel
theorem dX12_canonical_25 : decode cX12_canonical 25 = .ok (.aload_n 0, 1) := by decide +kernel
theorem dX12_canonical_26 : decode cX12_canonical 26 = .ok (.getfield 111, 3) := by decide +kernel
theorem dX12_canonical_29 : decode cX12_canonical 29 = .ok (.invokevirtual 260, 3) := by decide +kernel
theorem dX12_canonical_32 : decode cX12_canonical 32 = .ok (.ireturn, 1) := by decide +kernel
set_option maxHeartbeats 4000000 in
set_option maxRecDepth 100000 in
theorem cn_X12_canonical {l : Launch} {cA : Nat → ClassId} {ad : Nat → Nat} {D : va_G} {E : Nat → Nat} {A : Nat → Prop}  {s0 sr : SS} {rr : Int32} (hf : f_X12_canonical s0 = some (rr, sr)) : zCon Om Nm cA ad D E l yX12_canonical cX12_canonical 1 (some .int) 2 A [.ref (ad 0)] s0 (some (.int rr)) sr := by
  refine zstart (own := RX12) hOm (by decide) rfl (Nat.le_of_ble_eq_true rfl) ?_
  intro p e s m args below meth c X hP ls hl
  have hx := X.1
  have hb := X.2.1
  have hl : lv_has ls 1 [(0, .ref (ad 0))] := hl
  have hS : va_S A s.heap s.heap [] := va_S.rf
  rw [f_X12_canonical] at hf
  refine lv_aload_n hx hb dX12_canonical_0 rfl (lv_at hl 0 rfl) ?_
  refine gf_X12_89 X hP (k := 0) rfl dX12_canonical_1 ?_
  refine lv_bipush (v := 8) hx hb dX12_canonical_4 (by decide) ?_
  refine zicmp_ne (tgt := 12) hx hb dX12_canonical_6 (by decide) hf (fun hf => ?_) (fun hf => ?_)
  · refine lv_aload_n hx hb dX12_canonical_12 rfl (lv_at hl 0 rfl) ?_
    refine lv_aload_n hx hb dX12_canonical_13 rfl (lv_at hl 0 rfl) ?_
    refine gf_X12_111 X hP (k := 0) (q := 13) rfl dX12_canonical_14 rfl ?_
    obtain ⟨r1, s2, h3, hf⟩ := zbd_some hf
    refine zcallV X hP hS hl.1 (k := 0) (As := [.ref (ad 13)]) (rest := []) (cn_X12_layCanonical h3) cw_X12_layCanonical zp_12 rfl (by decide) rfl ml_X12_257 (by decide) rfl rfl (Nat.le_of_ble_eq_true rfl) dX12_canonical_17 (fun H locs hP hS => ?_)
    refine lv_aload_n hx hb dX12_canonical_20 rfl (lv_at hl 0 rfl) ?_
    obtain ⟨r4, s5, h6, hf⟩ := zbd_some hf
    refine zcallV X hP hS hl.1 (k := 0) (As := []) (rest := []) (cn_X12_forget h6) cw_X12_forget zp_12 rfl (by decide) rfl ml_X12_198 (by decide) rfl rfl (Nat.le_of_ble_eq_true rfl) dX12_canonical_21 (fun H locs hP hS => ?_)
    refine lv_aload_n hx hb dX12_canonical_24 rfl (lv_at hl 0 rfl) ?_
    refine lv_aload_n hx hb dX12_canonical_25 rfl (lv_at hl 0 rfl) ?_
    refine gf_X12_111 X hP (k := 0) (q := 13) rfl dX12_canonical_26 rfl ?_
    obtain ⟨r7, s8, h9, hf⟩ := zbd_some hf
    refine zcallV X hP hS hl.1 (k := 0) (As := [.ref (ad 13)]) (rest := []) (cn_X12_comes h9) cw_X12_comes zp_12 rfl (by decide) rfl ml_X12_260 (by decide) rfl rfl (Nat.le_of_ble_eq_true rfl) dX12_canonical_29 (fun H locs hP hS => ?_)
    exact zret_i X hP hS hf rfl dX12_canonical_32
  · refine lv_bipush (v := (-3)) hx hb dX12_canonical_9 (by decide) ?_
    exact zret_i X hP hS hf rfl dX12_canonical_11
theorem dX12_met_0 : decode cX12_met 0 = .ok (.aload_n 0, 1) := by decide +kernel
theorem dX12_met_1 : decode cX12_met 1 = .ok (.iload_n 1, 1) := by decide +kernel
theorem dX12_met_2 : decode cX12_met 2 = .ok (.i2l, 1) := by decide +kernel
theorem dX12_met_3 : decode cX12_met 3 = .ok (.invokevirtual 245, 3) := by decide +kernel
theorem dX12_met_6 : decode cX12_met 6 = .ok (.ifCond .ne 7, 3) := by decide +kernel
theorem dX12_met_9 : decode cX12_met 9 = .ok (.ldc2_w 220, 3) := by decide +kernel
theorem dX12_met_12 : decode cX12_met 12 = .ok (.lreturn, 1) := by decide +kernel
theorem dX12_met_13 : decode cX12_met 13 = .ok (.aload_n 0, 1) := by decide +kernel
theorem dX12_met_14 : decode cX12_met 14 = .ok (.iload_n 1, 1) := by decide +kernel
theorem dX12_met_15 : decode cX12_met 15 = .ok (.aload_n 0, 1) := by decide +kernel
theorem dX12_met_16 : decode cX12_met 16 = .ok (.getfield 111, 3) := by decide +kernel
theorem dX12_met_19 : decode cX12_met 19 = .ok (.invokevirtual 264, 3) := by decide +kernel
theorem dX12_met_22 : decode cX12_met 22 = .ok (.aload_n 0, 1) := by decide +kernel
theorem dX12_met_23 : decode cX12_met 23 = .ok (.aload_n 0, 1) := by decide +kernel
theorem dX12_met_24 : decode cX12_met 24 = .ok (.getfield 111, 3) := by decide +kernel
theorem dX12_met_27 : decode cX12_met 27 = .ok (.invokevirtual 268, 3) := by decide +kernel
theorem dX12_met_30 : decode cX12_met 30 = .ok (.lreturn, 1) := by decide +kernel
set_option maxHeartbeats 4000000 in
set_option maxRecDepth 100000 in
theorem cn_X12_met {l : Launch} {cA : Nat → ClassId} {ad : Nat → Nat} {D : va_G} {E : Nat → Nat} {A : Nat → Prop} {x1 : Int32} {s0 sr : SS} {rr : Int64} (hf : f_X12_met x1 s0 = some (rr, sr)) : zCon Om Nm cA ad D E l yX12_met cX12_met 2 (some .long) 5 A [.ref (ad 0), .int x1] s0 (some (.long rr)) sr := by
  refine zstart (own := RX12) hOm (by decide) rfl (Nat.le_of_ble_eq_true rfl) ?_
  intro p e s m args below meth c X hP ls hl
  have hx := X.1
  have hb := X.2.1
  have hl : lv_has ls 2 [(0, .ref (ad 0)), (1, .int x1)] := hl
  have hS : va_S A s.heap s.heap [] := va_S.rf
  rw [f_X12_met] at hf
  refine lv_aload_n hx hb dX12_met_0 rfl (lv_at hl 0 rfl) ?_
  refine lv_iload_n hx hb dX12_met_1 rfl (lv_at hl 1 rfl) ?_
  refine lv_i2l hx hb dX12_met_2 rfl ?_
  obtain ⟨r1, s2, h3, hf⟩ := zbd_some hf
  refine zcallV X hP hS hl.1 (k := 0) (As := [.long (x1).toInt64]) (rest := []) (cn_X12_isClass h3) cw_X12_isClass zp_12 rfl (by decide) rfl ml_X12_245 (by decide) rfl rfl (Nat.le_of_ble_eq_true rfl) dX12_met_3 (fun H locs hP hS => ?_)
  refine zif_ne (tgt := 13) hx hb dX12_met_6 (by decide) hf (fun hf => ?_) (fun hf => ?_)
  · refine lv_aload_n hx hb dX12_met_13 rfl (lv_at hl 0 rfl) ?_
    refine lv_iload_n hx hb dX12_met_14 rfl (lv_at hl 1 rfl) ?_
    refine lv_aload_n hx hb dX12_met_15 rfl (lv_at hl 0 rfl) ?_
    refine gf_X12_111 X hP (k := 0) (q := 13) rfl dX12_met_16 rfl ?_
    obtain ⟨r4, s5, h6, hf⟩ := zbd_some hf
    refine zcallV X hP hS hl.1 (k := 0) (As := [.int x1, .ref (ad 13)]) (rest := []) (cn_X12_layClass h6) cw_X12_layClass zp_12 rfl (by decide) rfl ml_X12_264 (by decide) rfl rfl (Nat.le_of_ble_eq_true rfl) dX12_met_19 (fun H locs hP hS => ?_)
    refine lv_aload_n hx hb dX12_met_22 rfl (lv_at hl 0 rfl) ?_
    refine lv_aload_n hx hb dX12_met_23 rfl (lv_at hl 0 rfl) ?_
    refine gf_X12_111 X hP (k := 0) (q := 13) rfl dX12_met_24 rfl ?_
    obtain ⟨r7, s8, h9, hf⟩ := zbd_some hf
    refine zcallV X hP hS hl.1 (k := 0) (As := [.ref (ad 13)]) (rest := []) (cn_X12_metOf h9) cw_X12_metOf zp_12 rfl (by decide) rfl ml_X12_268 (by decide) rfl rfl (Nat.le_of_ble_eq_true rfl) dX12_met_27 (fun H locs hP hS => ?_)
    exact zret_l X hP hS hf dX12_met_30
  · refine zldc2 X co_X12_220 dX12_met_9 ?_
    exact zret_l X hP hS hf dX12_met_12
theorem dX12_meets_0 : decode cX12_meets 0 = .ok (.aload_n 0, 1) := by decide +kernel
theorem dX12_meets_1 : decode cX12_meets 1 = .ok (.iload_n 1, 1) := by decide +kernel
theorem dX12_meets_2 : decode cX12_meets 2 = .ok (.i2l, 1) := by decide +kernel
theorem dX12_meets_3 : decode cX12_meets 3 = .ok (.invokevirtual 245, 3) := by decide +kernel
theorem dX12_meets_6 : decode cX12_meets 6 = .ok (.ifCond .eq 12, 3) := by decide +kernel
theorem dX12_meets_9 : decode cX12_meets 9 = .ok (.aload_n 0, 1) := by decide +kernel
theorem dX12_meets_10 : decode cX12_meets 10 = .ok (.iload_n 2, 1) := by decide +kernel
theorem dX12_meets_11 : decode cX12_meets 11 = .ok (.i2l, 1) := by decide +kernel
theorem dX12_meets_12 : decode cX12_meets 12 = .ok (.invokevirtual 245, 3) := by decide +kernel
theorem dX12_meets_15 : decode cX12_meets 15 = .ok (.ifCond .ne 7, 3) := by decide +kernel
theorem dX12_meets_18 : decode cX12_meets 18 = .ok (.ldc2_w 220, 3) := by decide +kernel
theorem dX12_meets_21 : decode cX12_meets 21 = .ok (.lreturn, 1) := by decide +kernel
theorem dX12_meets_22 : decode cX12_meets 22 = .ok (.aload_n 0, 1) := by decide +kernel
theorem dX12_meets_23 : decode cX12_meets 23 = .ok (.iload_n 1, 1) := by decide +kernel
theorem dX12_meets_24 : decode cX12_meets 24 = .ok (.aload_n 0, 1) := by decide +kernel
theorem dX12_meets_25 : decode cX12_meets 25 = .ok (.getfield 111, 3) := by decide +kernel
theorem dX12_meets_28 : decode cX12_meets 28 = .ok (.invokevirtual 264, 3) := by decide +kernel
theorem dX12_meets_31 : decode cX12_meets 31 = .ok (.aload_n 0, 1) := by decide +kernel
theorem dX12_meets_32 : decode cX12_meets 32 = .ok (.iload_n 2, 1) := by decide +kernel
theorem dX12_meets_33 : decode cX12_meets 33 = .ok (.aload_n 0, 1) := by decide +kernel
theorem dX12_meets_34 : decode cX12_meets 34 = .ok (.getfield 114, 3) := by decide +kernel
theorem dX12_meets_37 : decode cX12_meets 37 = .ok (.invokevirtual 264, 3) := by decide +kernel
theorem dX12_meets_40 : decode cX12_meets 40 = .ok (.aload_n 0, 1) := by decide +kernel
theorem dX12_meets_41 : decode cX12_meets 41 = .ok (.aload_n 0, 1) := by decide +kernel
theorem dX12_meets_42 : decode cX12_meets 42 = .ok (.getfield 111, 3) := by decide +kernel
theorem dX12_meets_45 : decode cX12_meets 45 = .ok (.aload_n 0, 1) := by decide +kernel
theorem dX12_meets_46 : decode cX12_meets 46 = .ok (.getfield 114, 3) := by decide +kernel
theorem dX12_meets_49 : decode cX12_meets 49 = .ok (.invokevirtual 272, 3) := by decide +kernel
theorem dX12_meets_52 : decode cX12_meets 52 = .ok (.aload_n 0, 1) := by decide +kernel
theorem dX12_meets_53 : decode cX12_meets 53 = .ok (.aload_n 0, 1) := by decide +kernel
theorem dX12_meets_54 : decode cX12_meets 54 = .ok (.getfield 111, 3) := by decide +kernel
theorem dX12_meets_57 : decode cX12_meets 57 = .ok (.invokevirtual 268, 3) := by decide +kernel
theorem dX12_meets_60 : decode cX12_meets 60 = .ok (.lreturn, 1) := by decide +kernel
set_option maxHeartbeats 4000000 in
set_option maxRecDepth 100000 in
theorem cn_X12_meets {l : Launch} {cA : Nat → ClassId} {ad : Nat → Nat} {D : va_G} {E : Nat → Nat} {A : Nat → Prop} {x1 : Int32} {x2 : Int32} {s0 sr : SS} {rr : Int64} (hf : f_X12_meets x1 x2 s0 = some (rr, sr)) : zCon Om Nm cA ad D E l yX12_meets cX12_meets 3 (some .long) 5 A [.ref (ad 0), .int x1, .int x2] s0 (some (.long rr)) sr := by
  refine zstart (own := RX12) hOm (by decide) rfl (Nat.le_of_ble_eq_true rfl) ?_
  intro p e s m args below meth c X hP ls hl
  have hx := X.1
  have hb := X.2.1
  have hl : lv_has ls 3 [(0, .ref (ad 0)), (1, .int x1), (2, .int x2)] := hl
  have hS : va_S A s.heap s.heap [] := va_S.rf
  rw [f_X12_meets] at hf
  refine lv_aload_n hx hb dX12_meets_0 rfl (lv_at hl 0 rfl) ?_
  refine lv_iload_n hx hb dX12_meets_1 rfl (lv_at hl 1 rfl) ?_
  refine lv_i2l hx hb dX12_meets_2 rfl ?_
  obtain ⟨r1, s2, h3, hf⟩ := zbd_some hf
  refine zcallV X hP hS hl.1 (k := 0) (As := [.long (x1).toInt64]) (rest := []) (cn_X12_isClass h3) cw_X12_isClass zp_12 rfl (by decide) rfl ml_X12_245 (by decide) rfl rfl (Nat.le_of_ble_eq_true rfl) dX12_meets_3 (fun H locs hP hS => ?_)
  refine zif_eq (tgt := 18) hx hb dX12_meets_6 (by decide) hf (fun hf => ?_) (fun hf => ?_)
  · refine zldc2 X co_X12_220 dX12_meets_18 ?_
    exact zret_l X hP hS hf dX12_meets_21
  · refine lv_aload_n hx hb dX12_meets_9 rfl (lv_at hl 0 rfl) ?_
    refine lv_iload_n hx hb dX12_meets_10 rfl (lv_at hl 2 rfl) ?_
    refine lv_i2l hx hb dX12_meets_11 rfl ?_
    obtain ⟨r4, s5, h6, hf⟩ := zbd_some hf
    refine zcallV X hP hS hl.1 (k := 0) (As := [.long (x2).toInt64]) (rest := []) (cn_X12_isClass h6) cw_X12_isClass zp_12 rfl (by decide) rfl ml_X12_245 (by decide) rfl rfl (Nat.le_of_ble_eq_true rfl) dX12_meets_12 (fun H locs hP hS => ?_)
    refine zif_ne (tgt := 22) hx hb dX12_meets_15 (by decide) hf (fun hf => ?_) (fun hf => ?_)
    · refine lv_aload_n hx hb dX12_meets_22 rfl (lv_at hl 0 rfl) ?_
      refine lv_iload_n hx hb dX12_meets_23 rfl (lv_at hl 1 rfl) ?_
      refine lv_aload_n hx hb dX12_meets_24 rfl (lv_at hl 0 rfl) ?_
      refine gf_X12_111 X hP (k := 0) (q := 13) rfl dX12_meets_25 rfl ?_
      obtain ⟨r7, s8, h9, hf⟩ := zbd_some hf
      refine zcallV X hP hS hl.1 (k := 0) (As := [.int x1, .ref (ad 13)]) (rest := []) (cn_X12_layClass h9) cw_X12_layClass zp_12 rfl (by decide) rfl ml_X12_264 (by decide) rfl rfl (Nat.le_of_ble_eq_true rfl) dX12_meets_28 (fun H locs hP hS => ?_)
      refine lv_aload_n hx hb dX12_meets_31 rfl (lv_at hl 0 rfl) ?_
      refine lv_iload_n hx hb dX12_meets_32 rfl (lv_at hl 2 rfl) ?_
      refine lv_aload_n hx hb dX12_meets_33 rfl (lv_at hl 0 rfl) ?_
      refine gf_X12_114 X hP (k := 0) (q := 14) rfl dX12_meets_34 rfl ?_
      obtain ⟨r10, s11, h12, hf⟩ := zbd_some hf
      refine zcallV X hP hS hl.1 (k := 0) (As := [.int x2, .ref (ad 14)]) (rest := []) (cn_X12_layClass h12) cw_X12_layClass zp_12 rfl (by decide) rfl ml_X12_264 (by decide) rfl rfl (Nat.le_of_ble_eq_true rfl) dX12_meets_37 (fun H locs hP hS => ?_)
      refine lv_aload_n hx hb dX12_meets_40 rfl (lv_at hl 0 rfl) ?_
      refine lv_aload_n hx hb dX12_meets_41 rfl (lv_at hl 0 rfl) ?_
      refine gf_X12_111 X hP (k := 0) (q := 13) rfl dX12_meets_42 rfl ?_
      refine lv_aload_n hx hb dX12_meets_45 rfl (lv_at hl 0 rfl) ?_
      refine gf_X12_114 X hP (k := 0) (q := 14) rfl dX12_meets_46 rfl ?_
      obtain ⟨r13, s14, h15, hf⟩ := zbd_some hf
      refine zcallV X hP hS hl.1 (k := 0) (As := [.ref (ad 13), .ref (ad 14)]) (rest := []) (cn_X12_multiply h15) cw_X12_multiply zp_12 rfl (by decide) rfl ml_X12_272 (by decide) rfl rfl (Nat.le_of_ble_eq_true rfl) dX12_meets_49 (fun H locs hP hS => ?_)
      refine lv_aload_n hx hb dX12_meets_52 rfl (lv_at hl 0 rfl) ?_
      refine lv_aload_n hx hb dX12_meets_53 rfl (lv_at hl 0 rfl) ?_
      refine gf_X12_111 X hP (k := 0) (q := 13) rfl dX12_meets_54 rfl ?_
      obtain ⟨r16, s17, h18, hf⟩ := zbd_some hf
      refine zcallV X hP hS hl.1 (k := 0) (As := [.ref (ad 13)]) (rest := []) (cn_X12_metOf h18) cw_X12_metOf zp_12 rfl (by decide) rfl ml_X12_268 (by decide) rfl rfl (Nat.le_of_ble_eq_true rfl) dX12_meets_57 (fun H locs hP hS => ?_)
      exact zret_l X hP hS hf dX12_meets_60
    · refine zldc2 X co_X12_220 dX12_meets_18 ?_
      exact zret_l X hP hS hf dX12_meets_21
theorem dX12_isList_0 : decode cX12_isList 0 = .ok (.iload_n 0, 1) := by decide +kernel
theorem dX12_isList_1 : decode cX12_isList 1 = .ok (.i2l, 1) := by decide +kernel
theorem dX12_isList_2 : decode cX12_isList 2 = .ok (.lconst 0, 1) := by decide +kernel
theorem dX12_isList_3 : decode cX12_isList 3 = .ok (.ldc2_w 35, 3) := by decide +kernel
theorem dX12_isList_6 : decode cX12_isList 6 = .ok (.invokestatic 203, 3) := by decide +kernel
theorem dX12_isList_9 : decode cX12_isList 9 = .ok (.ireturn, 1) := by decide +kernel
set_option maxHeartbeats 4000000 in
set_option maxRecDepth 100000 in
theorem cn_X12_isList {l : Launch} {cA : Nat → ClassId} {ad : Nat → Nat} {D : va_G} {E : Nat → Nat} {A : Nat → Prop} {x0 : Int32} {s0 sr : SS} {rr : Int32} (hf : f_X12_isList x0 s0 = some (rr, sr)) : zCon Om Nm cA ad D E l yX12_isList cX12_isList 1 (some .boolean) 1 A [.int x0] s0 (some (.int rr)) sr := by
  refine zstart (own := RX12) hOm (by decide) rfl (Nat.le_of_ble_eq_true rfl) ?_
  intro p e s m args below meth c X hP ls hl
  have hx := X.1
  have hb := X.2.1
  have hl : lv_has ls 1 [(0, .int x0)] := hl
  have hS : va_S A s.heap s.heap [] := va_S.rf
  rw [f_X12_isList] at hf
  refine lv_iload_n hx hb dX12_isList_0 rfl (lv_at hl 0 rfl) ?_
  refine lv_i2l hx hb dX12_isList_1 rfl ?_
  refine lv_lconst (v := 0) hx hb dX12_isList_2 (by decide) ?_
  refine zldc2 X co_X12_35 dX12_isList_3 ?_
  obtain ⟨r1, s2, h3, hf⟩ := zbd_some hf
  refine zcallS X hP hS hl.1 (As := [.long (x0).toInt64, .long 0, .long 2]) (rest := []) (cn_X12_in h3) cw_X12_in ml_X12_203 (by decide) rfl rfl (Nat.le_of_ble_eq_true rfl) dX12_isList_6 (fun H locs hP hS => ?_)
  obtain ⟨b4, hf⟩ := zgd hf
  exact zret_i X hP hS hf (znar_of (by decide) b4) dX12_isList_9
theorem dX12_isThere_0 : decode cX12_isThere 0 = .ok (.iload_n 1, 1) := by decide +kernel
theorem dX12_isThere_1 : decode cX12_isThere 1 = .ok (.invokestatic 275, 3) := by decide +kernel
theorem dX12_isThere_4 : decode cX12_isThere 4 = .ok (.ifCond .eq 16, 3) := by decide +kernel
theorem dX12_isThere_7 : decode cX12_isThere 7 = .ok (.aload_n 0, 1) := by decide +kernel
theorem dX12_isThere_8 : decode cX12_isThere 8 = .ok (.getfield 138, 3) := by decide +kernel
theorem dX12_isThere_11 : decode cX12_isThere 11 = .ok (.iload_n 1, 1) := by decide +kernel
theorem dX12_isThere_12 : decode cX12_isThere 12 = .ok (.iaload, 1) := by decide +kernel
theorem dX12_isThere_13 : decode cX12_isThere 13 = .ok (.ifCond .lt 7, 3) := by decide +kernel
theorem dX12_isThere_16 : decode cX12_isThere 16 = .ok (.iconst 1, 1) := by decide +kernel
theorem dX12_isThere_17 : decode cX12_isThere 17 = .ok (.goto 4, 3) := by decide +kernel
theorem dX12_isThere_20 : decode cX12_isThere 20 = .ok (.iconst 0, 1) := by decide +kernel
theorem dX12_isThere_21 : decode cX12_isThere 21 = .ok (.ireturn, 1) := by decide +kernel
set_option maxHeartbeats 4000000 in
set_option maxRecDepth 100000 in
theorem cn_X12_isThere {l : Launch} {cA : Nat → ClassId} {ad : Nat → Nat} {D : va_G} {E : Nat → Nat} {A : Nat → Prop} {x1 : Int32} {s0 sr : SS} {rr : Int32} (hf : f_X12_isThere x1 s0 = some (rr, sr)) : zCon Om Nm cA ad D E l yX12_isThere cX12_isThere 2 (some .boolean) 2 A [.ref (ad 0), .int x1] s0 (some (.int rr)) sr := by
  refine zstart (own := RX12) hOm (by decide) rfl (Nat.le_of_ble_eq_true rfl) ?_
  intro p e s m args below meth c X hP ls hl
  have hx := X.1
  have hb := X.2.1
  have hl : lv_has ls 2 [(0, .ref (ad 0)), (1, .int x1)] := hl
  have hS : va_S A s.heap s.heap [] := va_S.rf
  rw [f_X12_isThere] at hf
  refine lv_iload_n hx hb dX12_isThere_0 rfl (lv_at hl 1 rfl) ?_
  obtain ⟨r1, s2, h3, hf⟩ := zbd_some hf
  refine zcallS X hP hS hl.1 (As := [.int x1]) (rest := []) (cn_X12_isList h3) cw_X12_isList ml_X12_275 (by decide) rfl rfl (Nat.le_of_ble_eq_true rfl) dX12_isThere_1 (fun H locs hP hS => ?_)
  refine zif_eq (tgt := 20) hx hb dX12_isThere_4 (by decide) hf (fun hf => ?_) (fun hf => ?_)
  · refine lv_iconst (v := 0) hx hb dX12_isThere_20 (by decide) ?_
    exact zret_i X hP hS hf rfl dX12_isThere_21
  · refine lv_aload_n hx hb dX12_isThere_7 rfl (lv_at hl 0 rfl) ?_
    refine gf_X12_138 X hP (k := 0) (q := 22) rfl dX12_isThere_8 rfl ?_
    refine lv_iload_n hx hb dX12_isThere_11 rfl (lv_at hl 1 rfl) ?_
    obtain ⟨g4, hf⟩ := zgd hf
    refine zald_i X hP (k := 22) (n := 3) (rs := []) rfl g4 dX12_isThere_12 ?_
    refine zif_lt (tgt := 20) hx hb dX12_isThere_13 (by decide) hf (fun hf => ?_) (fun hf => ?_)
    · refine lv_iconst (v := 0) hx hb dX12_isThere_20 (by decide) ?_
      exact zret_i X hP hS hf rfl dX12_isThere_21
    · refine lv_iconst (v := 1) hx hb dX12_isThere_16 (by decide) ?_
      refine lv_goto (tgt := 21) hx hb dX12_isThere_17 (by decide) ?_
      exact zret_i X hP hS hf rfl dX12_isThere_21
theorem dX12_areClasses_0 : decode cX12_areClasses 0 = .ok (.iconst 0, 1) := by decide +kernel
theorem dX12_areClasses_1 : decode cX12_areClasses 1 = .ok (.istore_n 2, 1) := by decide +kernel
theorem dX12_areClasses_2 : decode cX12_areClasses 2 = .ok (.iload_n 2, 1) := by decide +kernel
theorem dX12_areClasses_3 : decode cX12_areClasses 3 = .ok (.aload_n 0, 1) := by decide +kernel
theorem dX12_areClasses_4 : decode cX12_areClasses 4 = .ok (.getfield 141, 3) := by decide +kernel
theorem dX12_areClasses_7 : decode cX12_areClasses 7 = .ok (.iload_n 1, 1) := by decide +kernel
theorem dX12_areClasses_8 : decode cX12_areClasses 8 = .ok (.iaload, 1) := by decide +kernel
theorem dX12_areClasses_9 : decode cX12_areClasses 9 = .ok (.if_icmp .ge 29, 3) := by decide +kernel
theorem dX12_areClasses_12 : decode cX12_areClasses 12 = .ok (.aload_n 0, 1) := by decide +kernel
theorem dX12_areClasses_13 : decode cX12_areClasses 13 = .ok (.aload_n 0, 1) := by decide +kernel
theorem dX12_areClasses_14 : decode cX12_areClasses 14 = .ok (.getfield 144, 3) := by decide +kernel
theorem dX12_areClasses_17 : decode cX12_areClasses 17 = .ok (.bipush 20, 2) := by decide +kernel
theorem dX12_areClasses_19 : decode cX12_areClasses 19 = .ok (.iload_n 1, 1) := by decide +kernel
theorem dX12_areClasses_20 : decode cX12_areClasses 20 = .ok (.imul, 1) := by decide +kernel
theorem dX12_areClasses_21 : decode cX12_areClasses 21 = .ok (.iload_n 2, 1) := by decide +kernel
theorem dX12_areClasses_22 : decode cX12_areClasses 22 = .ok (.iadd, 1) := by decide +kernel
theorem dX12_areClasses_23 : decode cX12_areClasses 23 = .ok (.laload, 1) := by decide +kernel
theorem dX12_areClasses_24 : decode cX12_areClasses 24 = .ok (.invokevirtual 245, 3) := by decide +kernel
theorem dX12_areClasses_27 : decode cX12_areClasses 27 = .ok (.ifCond .ne 5, 3) := by decide +kernel
theorem dX12_areClasses_30 : decode cX12_areClasses 30 = .ok (.iconst 0, 1) := by decide +kernel
theorem dX12_areClasses_31 : decode cX12_areClasses 31 = .ok (.ireturn, 1) := by decide +kernel
theorem dX12_areClasses_32 : decode cX12_areClasses 32 = .ok (.iinc 2 1, 3) := by decide +kernel
theorem dX12_areClasses_35 : decode cX12_areClasses 35 = .ok (.goto (-33), 3) := by decide +kernel
theorem dX12_areClasses_38 : decode cX12_areClasses 38 = .ok (.iconst 1, 1) := by decide +kernel
theorem dX12_areClasses_39 : decode cX12_areClasses 39 = .ok (.ireturn, 1) := by decide +kernel
set_option maxHeartbeats 4000000 in
set_option maxRecDepth 100000 in
theorem cn_X12_areClasses {l : Launch} {cA : Nat → ClassId} {ad : Nat → Nat} {D : va_G} {E : Nat → Nat} {A : Nat → Prop} {x1 : Int32} {s0 sr : SS} {rr : Int32} (hf : f_X12_areClasses x1 s0 = some (rr, sr)) : zCon Om Nm cA ad D E l yX12_areClasses cX12_areClasses 3 (some .boolean) 2 A [.ref (ad 0), .int x1] s0 (some (.int rr)) sr := by
  refine zstart (own := RX12) hOm (by decide) rfl (Nat.le_of_ble_eq_true rfl) ?_
  intro p e s m args below meth c X hP ls hl
  have hx := X.1
  have hb := X.2.1
  have hl : lv_has ls 3 [(0, .ref (ad 0)), (1, .int x1)] := hl
  have hS : va_S A s.heap s.heap [] := va_S.rf
  have hc_2 : ∀ (n2 : Nat) (x1 : Int32) (x2 : Int32) (s1 : SS) (H : Heap) (locs : List Loc) (ls : Array Slot), lv_has ls 3 [(0, .ref (ad 0)), (1, .int x1), (2, .int x2)] → va_P D ZCL (zw Om Nm cA ad s1) H → va_S A s.heap H locs → f_X12_areClasses_c2 n2 x1 x2 s1 = some (rr, sr) → W p l e (zrm 2) s m args below meth c H locs 0 0 (MQ below (zQc Om Nm cA ad D A (some (.int rr)) sr) args s 0 0 A) (F0 m 2 ls []) := by
    intro n2
    induction n2 with
    | zero =>
      intro x1 x2 s1 H locs ls hl hP hS hf
      rw [f_X12_areClasses_c2] at hf
      cases hf
    | succ n2 ih2 =>
      intro x1 x2 s1 H locs ls hl hP hS hf
      rw [f_X12_areClasses_c2] at hf
      refine lv_iload_n hx hb dX12_areClasses_2 rfl (lv_at hl 2 rfl) ?_
      refine lv_aload_n hx hb dX12_areClasses_3 rfl (lv_at hl 0 rfl) ?_
      refine gf_X12_141 X hP (k := 0) (q := 23) rfl dX12_areClasses_4 rfl ?_
      refine lv_iload_n hx hb dX12_areClasses_7 rfl (lv_at hl 1 rfl) ?_
      obtain ⟨g1, hf⟩ := zgd hf
      refine zald_i X hP (k := 23) (n := 3) (rs := []) rfl g1 dX12_areClasses_8 ?_
      refine zicmp_ge (tgt := 38) hx hb dX12_areClasses_9 (by decide) hf (fun hf => ?_) (fun hf => ?_)
      · refine lv_iconst (v := 1) hx hb dX12_areClasses_38 (by decide) ?_
        exact zret_i X hP hS hf rfl dX12_areClasses_39
      · refine lv_aload_n hx hb dX12_areClasses_12 rfl (lv_at hl 0 rfl) ?_
        refine lv_aload_n hx hb dX12_areClasses_13 rfl (lv_at hl 0 rfl) ?_
        refine gf_X12_144 X hP (k := 0) (q := 24) rfl dX12_areClasses_14 rfl ?_
        refine lv_bipush (v := 20) hx hb dX12_areClasses_17 (by decide) ?_
        refine lv_iload_n hx hb dX12_areClasses_19 rfl (lv_at hl 1 rfl) ?_
        refine lv_imul hx hb dX12_areClasses_20 ?_
        refine lv_iload_n hx hb dX12_areClasses_21 rfl (lv_at hl 2 rfl) ?_
        refine lv_iadd hx hb dX12_areClasses_22 ?_
        obtain ⟨g2, hf⟩ := zgd hf
        refine zald_l X hP (k := 24) (n := 60) (rs := []) rfl g2 dX12_areClasses_23 ?_
        obtain ⟨r3, s4, h5, hf⟩ := zbd_some hf
        refine zcallV X hP hS hl.1 (k := 0) (As := [.long (s1.2 24 ((((20 : Int32) * x1) + x2)).toNatClampNeg)]) (rest := []) (cn_X12_isClass h5) cw_X12_isClass zp_12 rfl (by decide) rfl ml_X12_245 (by decide) rfl rfl (Nat.le_of_ble_eq_true rfl) dX12_areClasses_24 (fun H locs hP hS => ?_)
        refine zif_ne (tgt := 32) hx hb dX12_areClasses_27 (by decide) hf (fun hf => ?_) (fun hf => ?_)
        · refine lv_iinc (v := (x2 + 1)) (lv' := [(2, .int (x2 + 1)), (0, .ref (ad 0)), (1, .int x1)]) hx hb dX12_areClasses_32 hl (k := 2) rfl rfl (by decide) rfl (fun ls hl => ?_)
          refine lv_goto (tgt := 2) hx hb dX12_areClasses_35 (by decide) ?_
          exact ih2 x1 (x2 + 1) s4 _ _ _ (lv_sub hl [1, 2, 0] rfl) hP hS hf
        · refine lv_iconst (v := 0) hx hb dX12_areClasses_30 (by decide) ?_
          exact zret_i X hP hS hf rfl dX12_areClasses_31
  rw [f_X12_areClasses] at hf
  refine lv_iconst (v := 0) hx hb dX12_areClasses_0 (by decide) ?_
  refine lv_istore_n (lv' := [(2, .int 0), (0, .ref (ad 0)), (1, .int x1)]) hx hb dX12_areClasses_1 rfl hl (by decide) rfl (fun ls hl => ?_)
  exact hc_2 ZF x1 0 s0 _ _ _ (lv_sub hl [1, 2, 0] rfl) hP hS hf
theorem dX12_layAll_0 : decode cX12_layAll 0 = .ok (.aload_n 0, 1) := by decide +kernel
theorem dX12_layAll_1 : decode cX12_layAll 1 = .ok (.aload_n 0, 1) := by decide +kernel
theorem dX12_layAll_2 : decode cX12_layAll 2 = .ok (.getfield 111, 3) := by decide +kernel
theorem dX12_layAll_5 : decode cX12_layAll 5 = .ok (.invokevirtual 278, 3) := by decide +kernel
theorem dX12_layAll_8 : decode cX12_layAll 8 = .ok (.iconst 0, 1) := by decide +kernel
theorem dX12_layAll_9 : decode cX12_layAll 9 = .ok (.istore_n 2, 1) := by decide +kernel
theorem dX12_layAll_10 : decode cX12_layAll 10 = .ok (.iload_n 2, 1) := by decide +kernel
theorem dX12_layAll_11 : decode cX12_layAll 11 = .ok (.aload_n 0, 1) := by decide +kernel
theorem dX12_layAll_12 : decode cX12_layAll 12 = .ok (.getfield 141, 3) := by decide +kernel
theorem dX12_layAll_15 : decode cX12_layAll 15 = .ok (.iload_n 1, 1) := by decide +kernel
theorem dX12_layAll_16 : decode cX12_layAll 16 = .ok (.iaload, 1) := by decide +kernel
theorem dX12_layAll_17 : decode cX12_layAll 17 = .ok (.if_icmp .ge 41, 3) := by decide +kernel
theorem dX12_layAll_20 : decode cX12_layAll 20 = .ok (.aload_n 0, 1) := by decide +kernel
theorem dX12_layAll_21 : decode cX12_layAll 21 = .ok (.aload_n 0, 1) := by decide +kernel
theorem dX12_layAll_22 : decode cX12_layAll 22 = .ok (.getfield 144, 3) := by decide +kernel
theorem dX12_layAll_25 : decode cX12_layAll 25 = .ok (.bipush 20, 2) := by decide +kernel
theorem dX12_layAll_27 : decode cX12_layAll 27 = .ok (.iload_n 1, 1) := by decide +kernel
theorem dX12_layAll_28 : decode cX12_layAll 28 = .ok (.imul, 1) := by decide +kernel
theorem dX12_layAll_29 : decode cX12_layAll 29 = .ok (.iload_n 2, 1) := by decide +kernel
theorem dX12_layAll_30 : decode cX12_layAll 30 = .ok (.iadd, 1) := by decide +kernel
theorem dX12_layAll_31 : decode cX12_layAll 31 = .ok (.laload, 1) := by decide +kernel
theorem dX12_layAll_32 : decode cX12_layAll 32 = .ok (.l2i, 1) := by decide +kernel
theorem dX12_layAll_33 : decode cX12_layAll 33 = .ok (.aload_n 0, 1) := by decide +kernel
theorem dX12_layAll_34 : decode cX12_layAll 34 = .ok (.getfield 114, 3) := by decide +kernel
theorem dX12_layAll_37 : decode cX12_layAll 37 = .ok (.invokevirtual 264, 3) := by decide +kernel
theorem dX12_layAll_40 : decode cX12_layAll 40 = .ok (.aload_n 0, 1) := by decide +kernel
theorem dX12_layAll_41 : decode cX12_layAll 41 = .ok (.aload_n 0, 1) := by decide +kernel
theorem dX12_layAll_42 : decode cX12_layAll 42 = .ok (.getfield 111, 3) := by decide +kernel
theorem dX12_layAll_45 : decode cX12_layAll 45 = .ok (.aload_n 0, 1) := by decide +kernel
theorem dX12_layAll_46 : decode cX12_layAll 46 = .ok (.getfield 114, 3) := by decide +kernel
theorem dX12_layAll_49 : decode cX12_layAll 49 = .ok (.invokevirtual 272, 3) := by decide +kernel
theorem dX12_layAll_52 : decode cX12_layAll 52 = .ok (.iinc 2 1, 3) := by decide +kernel
theorem dX12_layAll_55 : decode cX12_layAll 55 = .ok (.goto (-45), 3) := by decide +kernel
theorem dX12_layAll_58 : decode cX12_layAll 58 = .ok (.return_, 1) := by decide +kernel
set_option maxHeartbeats 4000000 in
set_option maxRecDepth 100000 in
theorem cn_X12_layAll {l : Launch} {cA : Nat → ClassId} {ad : Nat → Nat} {D : va_G} {E : Nat → Nat} {A : Nat → Prop} {x1 : Int32} {s0 sr : SS} {rr : Unit} (hf : f_X12_layAll x1 s0 = some (rr, sr)) : zCon Om Nm cA ad D E l yX12_layAll cX12_layAll 3 none 5 A [.ref (ad 0), .int x1] s0 none sr := by
  refine zstart (own := RX12) hOm (by decide) rfl (Nat.le_of_ble_eq_true rfl) ?_
  intro p e s m args below meth c X hP ls hl
  have hx := X.1
  have hb := X.2.1
  have hl : lv_has ls 3 [(0, .ref (ad 0)), (1, .int x1)] := hl
  have hS : va_S A s.heap s.heap [] := va_S.rf
  have hc_10 : ∀ (n10 : Nat) (x1 : Int32) (x2 : Int32) (s1 : SS) (H : Heap) (locs : List Loc) (ls : Array Slot), lv_has ls 3 [(0, .ref (ad 0)), (1, .int x1), (2, .int x2)] → va_P D ZCL (zw Om Nm cA ad s1) H → va_S A s.heap H locs → f_X12_layAll_c10 n10 x1 x2 s1 = some (rr, sr) → W p l e (zrm 5) s m args below meth c H locs 0 0 (MQ below (zQc Om Nm cA ad D A none sr) args s 0 0 A) (F0 m 10 ls []) := by
    intro n10
    induction n10 with
    | zero =>
      intro x1 x2 s1 H locs ls hl hP hS hf
      rw [f_X12_layAll_c10] at hf
      cases hf
    | succ n10 ih10 =>
      intro x1 x2 s1 H locs ls hl hP hS hf
      rw [f_X12_layAll_c10] at hf
      refine lv_iload_n hx hb dX12_layAll_10 rfl (lv_at hl 2 rfl) ?_
      refine lv_aload_n hx hb dX12_layAll_11 rfl (lv_at hl 0 rfl) ?_
      refine gf_X12_141 X hP (k := 0) (q := 23) rfl dX12_layAll_12 rfl ?_
      refine lv_iload_n hx hb dX12_layAll_15 rfl (lv_at hl 1 rfl) ?_
      obtain ⟨g4, hf⟩ := zgd hf
      refine zald_i X hP (k := 23) (n := 3) (rs := []) rfl g4 dX12_layAll_16 ?_
      refine zicmp_ge (tgt := 58) hx hb dX12_layAll_17 (by decide) hf (fun hf => ?_) (fun hf => ?_)
      · exact zret_v X hP hS hf dX12_layAll_58
      · refine lv_aload_n hx hb dX12_layAll_20 rfl (lv_at hl 0 rfl) ?_
        refine lv_aload_n hx hb dX12_layAll_21 rfl (lv_at hl 0 rfl) ?_
        refine gf_X12_144 X hP (k := 0) (q := 24) rfl dX12_layAll_22 rfl ?_
        refine lv_bipush (v := 20) hx hb dX12_layAll_25 (by decide) ?_
        refine lv_iload_n hx hb dX12_layAll_27 rfl (lv_at hl 1 rfl) ?_
        refine lv_imul hx hb dX12_layAll_28 ?_
        refine lv_iload_n hx hb dX12_layAll_29 rfl (lv_at hl 2 rfl) ?_
        refine lv_iadd hx hb dX12_layAll_30 ?_
        obtain ⟨g5, hf⟩ := zgd hf
        refine zald_l X hP (k := 24) (n := 60) (rs := []) rfl g5 dX12_layAll_31 ?_
        refine lv_l2i hx hb dX12_layAll_32 rfl ?_
        refine lv_aload_n hx hb dX12_layAll_33 rfl (lv_at hl 0 rfl) ?_
        refine gf_X12_114 X hP (k := 0) (q := 14) rfl dX12_layAll_34 rfl ?_
        obtain ⟨r6, s7, h8, hf⟩ := zbd_some hf
        refine zcallV X hP hS hl.1 (k := 0) (As := [.int ((s1.2 24 ((((20 : Int32) * x1) + x2)).toNatClampNeg)).toInt32, .ref (ad 14)]) (rest := []) (cn_X12_layClass h8) cw_X12_layClass zp_12 rfl (by decide) rfl ml_X12_264 (by decide) rfl rfl (Nat.le_of_ble_eq_true rfl) dX12_layAll_37 (fun H locs hP hS => ?_)
        refine lv_aload_n hx hb dX12_layAll_40 rfl (lv_at hl 0 rfl) ?_
        refine lv_aload_n hx hb dX12_layAll_41 rfl (lv_at hl 0 rfl) ?_
        refine gf_X12_111 X hP (k := 0) (q := 13) rfl dX12_layAll_42 rfl ?_
        refine lv_aload_n hx hb dX12_layAll_45 rfl (lv_at hl 0 rfl) ?_
        refine gf_X12_114 X hP (k := 0) (q := 14) rfl dX12_layAll_46 rfl ?_
        obtain ⟨r9, s10, h11, hf⟩ := zbd_some hf
        refine zcallV X hP hS hl.1 (k := 0) (As := [.ref (ad 13), .ref (ad 14)]) (rest := []) (cn_X12_multiply h11) cw_X12_multiply zp_12 rfl (by decide) rfl ml_X12_272 (by decide) rfl rfl (Nat.le_of_ble_eq_true rfl) dX12_layAll_49 (fun H locs hP hS => ?_)
        refine lv_iinc (v := (x2 + 1)) (lv' := [(2, .int (x2 + 1)), (0, .ref (ad 0)), (1, .int x1)]) hx hb dX12_layAll_52 hl (k := 2) rfl rfl (by decide) rfl (fun ls hl => ?_)
        refine lv_goto (tgt := 10) hx hb dX12_layAll_55 (by decide) ?_
        exact ih10 x1 (x2 + 1) s10 _ _ _ (lv_sub hl [1, 2, 0] rfl) hP hS hf
  rw [f_X12_layAll] at hf
  refine lv_aload_n hx hb dX12_layAll_0 rfl (lv_at hl 0 rfl) ?_
  refine lv_aload_n hx hb dX12_layAll_1 rfl (lv_at hl 0 rfl) ?_
  refine gf_X12_111 X hP (k := 0) (q := 13) rfl dX12_layAll_2 rfl ?_
  obtain ⟨r1, s2, h3, hf⟩ := zbd_some hf
  refine zcallV X hP hS hl.1 (k := 0) (As := [.ref (ad 13)]) (rest := []) (cn_X12_layOne h3) cw_X12_layOne zp_12 rfl (by decide) rfl ml_X12_278 (by decide) rfl rfl (Nat.le_of_ble_eq_true rfl) dX12_layAll_5 (fun H locs hP hS => ?_)
  refine lv_iconst (v := 0) hx hb dX12_layAll_8 (by decide) ?_
  refine lv_istore_n (lv' := [(2, .int 0), (0, .ref (ad 0)), (1, .int x1)]) hx hb dX12_layAll_9 rfl hl (by decide) rfl (fun ls hl => ?_)
  exact hc_10 ZF x1 0 s2 _ _ _ (lv_sub hl [1, 2, 0] rfl) hP hS hf
theorem dX12_meetsAll_0 : decode cX12_meetsAll 0 = .ok (.aload_n 0, 1) := by decide +kernel
theorem dX12_meetsAll_1 : decode cX12_meetsAll 1 = .ok (.iload_n 1, 1) := by decide +kernel
theorem dX12_meetsAll_2 : decode cX12_meetsAll 2 = .ok (.invokevirtual 281, 3) := by decide +kernel
theorem dX12_meetsAll_5 : decode cX12_meetsAll 5 = .ok (.ifCond .ne 7, 3) := by decide +kernel
theorem dX12_meetsAll_8 : decode cX12_meetsAll 8 = .ok (.ldc2_w 220, 3) := by decide +kernel
theorem dX12_meetsAll_11 : decode cX12_meetsAll 11 = .ok (.lreturn, 1) := by decide +kernel
theorem dX12_meetsAll_12 : decode cX12_meetsAll 12 = .ok (.aload_n 0, 1) := by decide +kernel
theorem dX12_meetsAll_13 : decode cX12_meetsAll 13 = .ok (.iload_n 1, 1) := by decide +kernel
theorem dX12_meetsAll_14 : decode cX12_meetsAll 14 = .ok (.invokevirtual 284, 3) := by decide +kernel
theorem dX12_meetsAll_17 : decode cX12_meetsAll 17 = .ok (.ifCond .ne 7, 3) := by decide +kernel
theorem dX12_meetsAll_20 : decode cX12_meetsAll 20 = .ok (.ldc2_w 287, 3) := by decide +kernel
theorem dX12_meetsAll_23 : decode cX12_meetsAll 23 = .ok (.lreturn, 1) := by decide +kernel
theorem dX12_meetsAll_24 : decode cX12_meetsAll 24 = .ok (.aload_n 0, 1) := by decide +kernel
theorem dX12_meetsAll_25 : decode cX12_meetsAll 25 = .ok (.iload_n 1, 1) := by decide +kernel
theorem dX12_meetsAll_26 : decode cX12_meetsAll 26 = .ok (.invokevirtual 289, 3) := by decide +kernel
theorem dX12_meetsAll_29 : decode cX12_meetsAll 29 = .ok (.aload_n 0, 1) := by decide +kernel
theorem dX12_meetsAll_30 : decode cX12_meetsAll 30 = .ok (.aload_n 0, 1) := by decide +kernel
theorem dX12_meetsAll_31 : decode cX12_meetsAll 31 = .ok (.getfield 111, 3) := by decide +kernel
theorem dX12_meetsAll_34 : decode cX12_meetsAll 34 = .ok (.invokevirtual 268, 3) := by decide +kernel
theorem dX12_meetsAll_37 : decode cX12_meetsAll 37 = .ok (.lreturn, 1) := by decide +kernel
set_option maxHeartbeats 4000000 in
set_option maxRecDepth 100000 in
theorem cn_X12_meetsAll {l : Launch} {cA : Nat → ClassId} {ad : Nat → Nat} {D : va_G} {E : Nat → Nat} {A : Nat → Prop} {x1 : Int32} {s0 sr : SS} {rr : Int64} (hf : f_X12_meetsAll x1 s0 = some (rr, sr)) : zCon Om Nm cA ad D E l yX12_meetsAll cX12_meetsAll 2 (some .long) 6 A [.ref (ad 0), .int x1] s0 (some (.long rr)) sr := by
  refine zstart (own := RX12) hOm (by decide) rfl (Nat.le_of_ble_eq_true rfl) ?_
  intro p e s m args below meth c X hP ls hl
  have hx := X.1
  have hb := X.2.1
  have hl : lv_has ls 2 [(0, .ref (ad 0)), (1, .int x1)] := hl
  have hS : va_S A s.heap s.heap [] := va_S.rf
  rw [f_X12_meetsAll] at hf
  refine lv_aload_n hx hb dX12_meetsAll_0 rfl (lv_at hl 0 rfl) ?_
  refine lv_iload_n hx hb dX12_meetsAll_1 rfl (lv_at hl 1 rfl) ?_
  obtain ⟨r1, s2, h3, hf⟩ := zbd_some hf
  refine zcallV X hP hS hl.1 (k := 0) (As := [.int x1]) (rest := []) (cn_X12_isThere h3) cw_X12_isThere zp_12 rfl (by decide) rfl ml_X12_281 (by decide) rfl rfl (Nat.le_of_ble_eq_true rfl) dX12_meetsAll_2 (fun H locs hP hS => ?_)
  refine zif_ne (tgt := 12) hx hb dX12_meetsAll_5 (by decide) hf (fun hf => ?_) (fun hf => ?_)
  · refine lv_aload_n hx hb dX12_meetsAll_12 rfl (lv_at hl 0 rfl) ?_
    refine lv_iload_n hx hb dX12_meetsAll_13 rfl (lv_at hl 1 rfl) ?_
    obtain ⟨r4, s5, h6, hf⟩ := zbd_some hf
    refine zcallV X hP hS hl.1 (k := 0) (As := [.int x1]) (rest := []) (cn_X12_areClasses h6) cw_X12_areClasses zp_12 rfl (by decide) rfl ml_X12_284 (by decide) rfl rfl (Nat.le_of_ble_eq_true rfl) dX12_meetsAll_14 (fun H locs hP hS => ?_)
    refine zif_ne (tgt := 24) hx hb dX12_meetsAll_17 (by decide) hf (fun hf => ?_) (fun hf => ?_)
    · refine lv_aload_n hx hb dX12_meetsAll_24 rfl (lv_at hl 0 rfl) ?_
      refine lv_iload_n hx hb dX12_meetsAll_25 rfl (lv_at hl 1 rfl) ?_
      obtain ⟨r7, s8, h9, hf⟩ := zbd_some hf
      refine zcallV X hP hS hl.1 (k := 0) (As := [.int x1]) (rest := []) (cn_X12_layAll h9) cw_X12_layAll zp_12 rfl (by decide) rfl ml_X12_289 (by decide) rfl rfl (Nat.le_of_ble_eq_true rfl) dX12_meetsAll_26 (fun H locs hP hS => ?_)
      refine lv_aload_n hx hb dX12_meetsAll_29 rfl (lv_at hl 0 rfl) ?_
      refine lv_aload_n hx hb dX12_meetsAll_30 rfl (lv_at hl 0 rfl) ?_
      refine gf_X12_111 X hP (k := 0) (q := 13) rfl dX12_meetsAll_31 rfl ?_
      obtain ⟨r10, s11, h12, hf⟩ := zbd_some hf
      refine zcallV X hP hS hl.1 (k := 0) (As := [.ref (ad 13)]) (rest := []) (cn_X12_metOf h12) cw_X12_metOf zp_12 rfl (by decide) rfl ml_X12_268 (by decide) rfl rfl (Nat.le_of_ble_eq_true rfl) dX12_meetsAll_34 (fun H locs hP hS => ?_)
      exact zret_l X hP hS hf dX12_meetsAll_37
    · refine zldc2 X co_X12_287 dX12_meetsAll_20 ?_
      exact zret_l X hP hS hf dX12_meetsAll_23
  · refine zldc2 X co_X12_220 dX12_meetsAll_8 ?_
    exact zret_l X hP hS hf dX12_meetsAll_11
theorem dX12_self_0 : decode cX12_self 0 = .ok (.aload_n 0, 1) := by decide +kernel
theorem dX12_self_1 : decode cX12_self 1 = .ok (.iload_n 1, 1) := by decide +kernel
theorem dX12_self_2 : decode cX12_self 2 = .ok (.i2l, 1) := by decide +kernel
theorem dX12_self_3 : decode cX12_self 3 = .ok (.invokevirtual 245, 3) := by decide +kernel
theorem dX12_self_6 : decode cX12_self 6 = .ok (.ifCond .eq 15, 3) := by decide +kernel
theorem dX12_self_9 : decode cX12_self 9 = .ok (.iload_n 2, 1) := by decide +kernel
theorem dX12_self_10 : decode cX12_self 10 = .ok (.i2l, 1) := by decide +kernel
theorem dX12_self_11 : decode cX12_self 11 = .ok (.lconst 0, 1) := by decide +kernel
theorem dX12_self_12 : decode cX12_self 12 = .ok (.ldc2_w 292, 3) := by decide +kernel
theorem dX12_self_15 : decode cX12_self 15 = .ok (.invokestatic 203, 3) := by decide +kernel
theorem dX12_self_18 : decode cX12_self 18 = .ok (.ifCond .ne 7, 3) := by decide +kernel
theorem dX12_self_21 : decode cX12_self 21 = .ok (.ldc2_w 220, 3) := by decide +kernel
theorem dX12_self_24 : decode cX12_self 24 = .ok (.lreturn, 1) := by decide +kernel
theorem dX12_self_25 : decode cX12_self 25 = .ok (.aload_n 0, 1) := by decide +kernel
theorem dX12_self_26 : decode cX12_self 26 = .ok (.aload_n 0, 1) := by decide +kernel
theorem dX12_self_27 : decode cX12_self 27 = .ok (.getfield 111, 3) := by decide +kernel
theorem dX12_self_30 : decode cX12_self 30 = .ok (.invokevirtual 278, 3) := by decide +kernel
theorem dX12_self_33 : decode cX12_self 33 = .ok (.aload_n 0, 1) := by decide +kernel
theorem dX12_self_34 : decode cX12_self 34 = .ok (.iload_n 1, 1) := by decide +kernel
theorem dX12_self_35 : decode cX12_self 35 = .ok (.aload_n 0, 1) := by decide +kernel
theorem dX12_self_36 : decode cX12_self 36 = .ok (.getfield 114, 3) := by decide +kernel
theorem dX12_self_39 : decode cX12_self 39 = .ok (.invokevirtual 264, 3) := by decide +kernel
theorem dX12_self_42 : decode cX12_self 42 = .ok (.iconst 0, 1) := by decide +kernel
theorem dX12_self_43 : decode cX12_self 43 = .ok (.istore_n 3, 1) := by decide +kernel
theorem dX12_self_44 : decode cX12_self 44 = .ok (.iload_n 3, 1) := by decide +kernel
theorem dX12_self_45 : decode cX12_self 45 = .ok (.iload_n 2, 1) := by decide +kernel
theorem dX12_self_46 : decode cX12_self 46 = .ok (.if_icmp .ge 21, 3) := by decide +kernel
theorem dX12_self_49 : decode cX12_self 49 = .ok (.aload_n 0, 1) := by decide +kernel
theorem dX12_self_50 : decode cX12_self 50 = .ok (.aload_n 0, 1) := by decide +kernel
theorem dX12_self_51 : decode cX12_self 51 = .ok (.getfield 111, 3) := by decide +kernel
theorem dX12_self_54 : decode cX12_self 54 = .ok (.aload_n 0, 1) := by decide +kernel
theorem dX12_self_55 : decode cX12_self 55 = .ok (.getfield 114, 3) := by decide +kernel
theorem dX12_self_58 : decode cX12_self 58 = .ok (.invokevirtual 272, 3) := by decide +kernel
theorem dX12_self_61 : decode cX12_self 61 = .ok (.iinc 3 1, 3) := by decide +kernel
theorem dX12_self_64 : decode cX12_self 64 = .ok (.goto (-20), 3) := by decide +kernel
theorem dX12_self_67 : decode cX12_self 67 = .ok (.aload_n 0, 1) := by decide +kernel
theorem dX12_self_68 : decode cX12_self 68 = .ok (.aload_n 0, 1) := by decide +kernel
theorem dX12_self_69 : decode cX12_self 69 = .ok (.getfield 111, 3) := by decide +kernel
theorem dX12_self_72 : decode cX12_self 72 = .ok (.invokevirtual 268, 3) := by decide +kernel
theorem dX12_self_75 : decode cX12_self 75 = .ok (.lreturn, 1) := by decide +kernel
set_option maxHeartbeats 4000000 in
set_option maxRecDepth 100000 in
theorem cn_X12_self {l : Launch} {cA : Nat → ClassId} {ad : Nat → Nat} {D : va_G} {E : Nat → Nat} {A : Nat → Prop} {x1 : Int32} {x2 : Int32} {s0 sr : SS} {rr : Int64} (hf : f_X12_self x1 x2 s0 = some (rr, sr)) : zCon Om Nm cA ad D E l yX12_self cX12_self 4 (some .long) 5 A [.ref (ad 0), .int x1, .int x2] s0 (some (.long rr)) sr := by
  refine zstart (own := RX12) hOm (by decide) rfl (Nat.le_of_ble_eq_true rfl) ?_
  intro p e s m args below meth c X hP ls hl
  have hx := X.1
  have hb := X.2.1
  have hl : lv_has ls 4 [(0, .ref (ad 0)), (1, .int x1), (2, .int x2)] := hl
  have hS : va_S A s.heap s.heap [] := va_S.rf
  have hc_44 : ∀ (n44 : Nat) (x2 : Int32) (x3 : Int32) (s1 : SS) (H : Heap) (locs : List Loc) (ls : Array Slot), lv_has ls 4 [(0, .ref (ad 0)), (2, .int x2), (3, .int x3)] → va_P D ZCL (zw Om Nm cA ad s1) H → va_S A s.heap H locs → f_X12_self_c44 n44 x2 x3 s1 = some (rr, sr) → W p l e (zrm 5) s m args below meth c H locs 0 0 (MQ below (zQc Om Nm cA ad D A (some (.long rr)) sr) args s 0 0 A) (F0 m 44 ls []) := by
    intro n44
    induction n44 with
    | zero =>
      intro x2 x3 s1 H locs ls hl hP hS hf
      rw [f_X12_self_c44] at hf
      cases hf
    | succ n44 ih44 =>
      intro x2 x3 s1 H locs ls hl hP hS hf
      rw [f_X12_self_c44] at hf
      refine lv_iload_n hx hb dX12_self_44 rfl (lv_at hl 2 rfl) ?_
      refine lv_iload_n hx hb dX12_self_45 rfl (lv_at hl 1 rfl) ?_
      refine zicmp_ge (tgt := 67) hx hb dX12_self_46 (by decide) hf (fun hf => ?_) (fun hf => ?_)
      · refine lv_aload_n hx hb dX12_self_67 rfl (lv_at hl 0 rfl) ?_
        refine lv_aload_n hx hb dX12_self_68 rfl (lv_at hl 0 rfl) ?_
        refine gf_X12_111 X hP (k := 0) (q := 13) rfl dX12_self_69 rfl ?_
        obtain ⟨r13, s14, h15, hf⟩ := zbd_some hf
        refine zcallV X hP hS hl.1 (k := 0) (As := [.ref (ad 13)]) (rest := []) (cn_X12_metOf h15) cw_X12_metOf zp_12 rfl (by decide) rfl ml_X12_268 (by decide) rfl rfl (Nat.le_of_ble_eq_true rfl) dX12_self_72 (fun H locs hP hS => ?_)
        exact zret_l X hP hS hf dX12_self_75
      · refine lv_aload_n hx hb dX12_self_49 rfl (lv_at hl 0 rfl) ?_
        refine lv_aload_n hx hb dX12_self_50 rfl (lv_at hl 0 rfl) ?_
        refine gf_X12_111 X hP (k := 0) (q := 13) rfl dX12_self_51 rfl ?_
        refine lv_aload_n hx hb dX12_self_54 rfl (lv_at hl 0 rfl) ?_
        refine gf_X12_114 X hP (k := 0) (q := 14) rfl dX12_self_55 rfl ?_
        obtain ⟨r16, s17, h18, hf⟩ := zbd_some hf
        refine zcallV X hP hS hl.1 (k := 0) (As := [.ref (ad 13), .ref (ad 14)]) (rest := []) (cn_X12_multiply h18) cw_X12_multiply zp_12 rfl (by decide) rfl ml_X12_272 (by decide) rfl rfl (Nat.le_of_ble_eq_true rfl) dX12_self_58 (fun H locs hP hS => ?_)
        refine lv_iinc (v := (x3 + 1)) (lv' := [(3, .int (x3 + 1)), (0, .ref (ad 0)), (2, .int x2)]) hx hb dX12_self_61 hl (k := 2) rfl rfl (by decide) rfl (fun ls hl => ?_)
        refine lv_goto (tgt := 44) hx hb dX12_self_64 (by decide) ?_
        exact ih44 x2 (x3 + 1) s17 _ _ _ (lv_sub hl [1, 2, 0] rfl) hP hS hf
  rw [f_X12_self] at hf
  refine lv_aload_n hx hb dX12_self_0 rfl (lv_at hl 0 rfl) ?_
  refine lv_iload_n hx hb dX12_self_1 rfl (lv_at hl 1 rfl) ?_
  refine lv_i2l hx hb dX12_self_2 rfl ?_
  obtain ⟨r1, s2, h3, hf⟩ := zbd_some hf
  refine zcallV X hP hS hl.1 (k := 0) (As := [.long (x1).toInt64]) (rest := []) (cn_X12_isClass h3) cw_X12_isClass zp_12 rfl (by decide) rfl ml_X12_245 (by decide) rfl rfl (Nat.le_of_ble_eq_true rfl) dX12_self_3 (fun H locs hP hS => ?_)
  refine zif_eq (tgt := 21) hx hb dX12_self_6 (by decide) hf (fun hf => ?_) (fun hf => ?_)
  · refine zldc2 X co_X12_220 dX12_self_21 ?_
    exact zret_l X hP hS hf dX12_self_24
  · refine lv_iload_n hx hb dX12_self_9 rfl (lv_at hl 2 rfl) ?_
    refine lv_i2l hx hb dX12_self_10 rfl ?_
    refine lv_lconst (v := 0) hx hb dX12_self_11 (by decide) ?_
    refine zldc2 X co_X12_292 dX12_self_12 ?_
    obtain ⟨r4, s5, h6, hf⟩ := zbd_some hf
    refine zcallS X hP hS hl.1 (As := [.long (x2).toInt64, .long 0, .long 6]) (rest := []) (cn_X12_in h6) cw_X12_in ml_X12_203 (by decide) rfl rfl (Nat.le_of_ble_eq_true rfl) dX12_self_15 (fun H locs hP hS => ?_)
    refine zif_ne (tgt := 25) hx hb dX12_self_18 (by decide) hf (fun hf => ?_) (fun hf => ?_)
    · refine lv_aload_n hx hb dX12_self_25 rfl (lv_at hl 0 rfl) ?_
      refine lv_aload_n hx hb dX12_self_26 rfl (lv_at hl 0 rfl) ?_
      refine gf_X12_111 X hP (k := 0) (q := 13) rfl dX12_self_27 rfl ?_
      obtain ⟨r7, s8, h9, hf⟩ := zbd_some hf
      refine zcallV X hP hS hl.1 (k := 0) (As := [.ref (ad 13)]) (rest := []) (cn_X12_layOne h9) cw_X12_layOne zp_12 rfl (by decide) rfl ml_X12_278 (by decide) rfl rfl (Nat.le_of_ble_eq_true rfl) dX12_self_30 (fun H locs hP hS => ?_)
      refine lv_aload_n hx hb dX12_self_33 rfl (lv_at hl 0 rfl) ?_
      refine lv_iload_n hx hb dX12_self_34 rfl (lv_at hl 1 rfl) ?_
      refine lv_aload_n hx hb dX12_self_35 rfl (lv_at hl 0 rfl) ?_
      refine gf_X12_114 X hP (k := 0) (q := 14) rfl dX12_self_36 rfl ?_
      obtain ⟨r10, s11, h12, hf⟩ := zbd_some hf
      refine zcallV X hP hS hl.1 (k := 0) (As := [.int x1, .ref (ad 14)]) (rest := []) (cn_X12_layClass h12) cw_X12_layClass zp_12 rfl (by decide) rfl ml_X12_264 (by decide) rfl rfl (Nat.le_of_ble_eq_true rfl) dX12_self_39 (fun H locs hP hS => ?_)
      refine lv_iconst (v := 0) hx hb dX12_self_42 (by decide) ?_
      refine lv_istore_n (lv' := [(3, .int 0), (0, .ref (ad 0)), (1, .int x1), (2, .int x2)]) hx hb dX12_self_43 rfl hl (by decide) rfl (fun ls hl => ?_)
      exact hc_44 ZF x2 0 s11 _ _ _ (lv_sub hl [1, 3, 0] rfl) hP hS hf
    · refine zldc2 X co_X12_220 dX12_self_21 ?_
      exact zret_l X hP hS hf dX12_self_24
theorem dX12_metWith_0 : decode cX12_metWith 0 = .ok (.lconst 0, 1) := by decide +kernel
theorem dX12_metWith_1 : decode cX12_metWith 1 = .ok (.lstore_n 3, 1) := by decide +kernel
theorem dX12_metWith_2 : decode cX12_metWith 2 = .ok (.iconst 0, 1) := by decide +kernel
theorem dX12_metWith_3 : decode cX12_metWith 3 = .ok (.istore 5, 2) := by decide +kernel
theorem dX12_metWith_5 : decode cX12_metWith 5 = .ok (.iload 5, 2) := by decide +kernel
theorem dX12_metWith_7 : decode cX12_metWith 7 = .ok (.aload_n 0, 1) := by decide +kernel
theorem dX12_metWith_8 : decode cX12_metWith 8 = .ok (.getfield 56, 3) := by decide +kernel
theorem dX12_metWith_11 : decode cX12_metWith 11 = .ok (.if_icmp .ge 66, 3) := by decide +kernel
theorem dX12_metWith_14 : decode cX12_metWith 14 = .ok (.lload_n 3, 1) := by decide +kernel
theorem dX12_metWith_15 : decode cX12_metWith 15 = .ok (.aload_n 0, 1) := by decide +kernel
theorem dX12_metWith_16 : decode cX12_metWith 16 = .ok (.getfield 75, 3) := by decide +kernel
theorem dX12_metWith_19 : decode cX12_metWith 19 = .ok (.iload 5, 2) := by decide +kernel
theorem dX12_metWith_21 : decode cX12_metWith 21 = .ok (.iaload, 1) := by decide +kernel
theorem dX12_metWith_22 : decode cX12_metWith 22 = .ok (.aload_n 0, 1) := by decide +kernel
theorem dX12_metWith_23 : decode cX12_metWith 23 = .ok (.getfield 75, 3) := by decide +kernel
theorem dX12_metWith_26 : decode cX12_metWith 26 = .ok (.iload_n 2, 1) := by decide +kernel
theorem dX12_metWith_27 : decode cX12_metWith 27 = .ok (.iaload, 1) := by decide +kernel
theorem dX12_metWith_28 : decode cX12_metWith 28 = .ok (.iadd, 1) := by decide +kernel
theorem dX12_metWith_29 : decode cX12_metWith 29 = .ok (.aload_n 0, 1) := by decide +kernel
theorem dX12_metWith_30 : decode cX12_metWith 30 = .ok (.getfield 27, 3) := by decide +kernel
theorem dX12_metWith_33 : decode cX12_metWith 33 = .ok (.if_icmp .ne 35, 3) := by decide +kernel
theorem dX12_metWith_36 : decode cX12_metWith 36 = .ok (.aload_n 1, 1) := by decide +kernel
theorem dX12_metWith_37 : decode cX12_metWith 37 = .ok (.iload 5, 2) := by decide +kernel
theorem dX12_metWith_39 : decode cX12_metWith 39 = .ok (.laload, 1) := by decide +kernel
theorem dX12_metWith_40 : decode cX12_metWith 40 = .ok (.aload_n 0, 1) := by decide +kernel
theorem dX12_metWith_41 : decode cX12_metWith 41 = .ok (.getfield 78, 3) := by decide +kernel
theorem dX12_metWith_44 : decode cX12_metWith 44 = .ok (.aload_n 0, 1) := by decide +kernel
theorem dX12_metWith_45 : decode cX12_metWith 45 = .ok (.getfield 65, 3) := by decide +kernel
theorem dX12_metWith_48 : decode cX12_metWith 48 = .ok (.aload_n 0, 1) := by decide +kernel
theorem dX12_metWith_49 : decode cX12_metWith 49 = .ok (.getfield 62, 3) := by decide +kernel
theorem dX12_metWith_52 : decode cX12_metWith 52 = .ok (.iload 5, 2) := by decide +kernel
theorem dX12_metWith_54 : decode cX12_metWith 54 = .ok (.iaload, 1) := by decide +kernel
theorem dX12_metWith_55 : decode cX12_metWith 55 = .ok (.aload_n 0, 1) := by decide +kernel
theorem dX12_metWith_56 : decode cX12_metWith 56 = .ok (.getfield 62, 3) := by decide +kernel
theorem dX12_metWith_59 : decode cX12_metWith 59 = .ok (.iload_n 2, 1) := by decide +kernel
theorem dX12_metWith_60 : decode cX12_metWith 60 = .ok (.iaload, 1) := by decide +kernel
theorem dX12_metWith_61 : decode cX12_metWith 61 = .ok (.iadd, 1) := by decide +kernel
theorem dX12_metWith_62 : decode cX12_metWith 62 = .ok (.iaload, 1) := by decide +kernel
theorem dX12_metWith_63 : decode cX12_metWith 63 = .ok (.laload, 1) := by decide +kernel
theorem dX12_metWith_64 : decode cX12_metWith 64 = .ok (.lmul, 1) := by decide +kernel
theorem dX12_metWith_65 : decode cX12_metWith 65 = .ok (.goto 4, 3) := by decide +kernel
theorem dX12_metWith_68 : decode cX12_metWith 68 = .ok (.lconst 0, 1) := by decide +kernel
theorem dX12_metWith_69 : decode cX12_metWith 69 = .ok (.ladd, 1) := by decide +kernel
theorem dX12_metWith_70 : decode cX12_metWith 70 = .ok (.lstore_n 3, 1) := by decide +kernel
theorem dX12_metWith_71 : decode cX12_metWith 71 = .ok (.iinc 5 1, 3) := by decide +kernel
theorem dX12_metWith_74 : decode cX12_metWith 74 = .ok (.goto (-69), 3) := by decide +kernel
theorem dX12_metWith_77 : decode cX12_metWith 77 = .ok (.lload_n 3, 1) := by decide +kernel
theorem dX12_metWith_78 : decode cX12_metWith 78 = .ok (.lreturn, 1) := by decide +kernel
set_option maxHeartbeats 4000000 in
set_option maxRecDepth 100000 in
theorem cn_X12_metWith {l : Launch} {cA : Nat → ClassId} {ad : Nat → Nat} {D : va_G} {E : Nat → Nat} {A : Nat → Prop} {k1 : Nat} {x2 : Int32} {s0 sr : SS} {rr : Int64} (hf : f_X12_metWith k1 x2 s0 = some (rr, sr)) : zCon Om Nm cA ad D E l yX12_metWith cX12_metWith 6 (some .long) 0 A [.ref (ad 0), .ref (ad k1), .int x2] s0 (some (.long rr)) sr := by
  refine zstart (own := RX12) hOm (by decide) rfl (Nat.le_of_ble_eq_true rfl) ?_
  intro p e s m args below meth c X hP ls hl
  have hx := X.1
  have hb := X.2.1
  have hl : lv_has ls 6 [(0, .ref (ad 0)), (1, .ref (ad k1)), (2, .int x2)] := hl
  have hS : va_S A s.heap s.heap [] := va_S.rf
  have hc_5 : ∀ (n5 : Nat) (k1 : Nat) (x2 : Int32) (x3 : Int64) (x5 : Int32) (s1 : SS) (H : Heap) (locs : List Loc) (ls : Array Slot), lv_has ls 6 [(0, .ref (ad 0)), (1, .ref (ad k1)), (2, .int x2), (3, .long x3), (5, .int x5)] → va_P D ZCL (zw Om Nm cA ad s1) H → va_S A s.heap H locs → f_X12_metWith_c5 n5 k1 x2 x3 x5 s1 = some (rr, sr) → W p l e (zrm 0) s m args below meth c H locs 0 0 (MQ below (zQc Om Nm cA ad D A (some (.long rr)) sr) args s 0 0 A) (F0 m 5 ls []) := by
    intro n5
    induction n5 with
    | zero =>
      intro k1 x2 x3 x5 s1 H locs ls hl hP hS hf
      rw [f_X12_metWith_c5] at hf
      cases hf
    | succ n5 ih5 =>
      have hc_69 : ∀ (k1 : Nat) (x2 : Int32) (x5 : Int32) (t0 : Int64) (t1 : Int64) (s1 : SS) (H : Heap) (locs : List Loc) (ls : Array Slot), lv_has ls 6 [(0, .ref (ad 0)), (1, .ref (ad k1)), (2, .int x2), (5, .int x5)] → va_P D ZCL (zw Om Nm cA ad s1) H → va_S A s.heap H locs → f_X12_metWith_c69 (f_X12_metWith_c5 n5) k1 x2 x5 t0 t1 s1 = some (rr, sr) → W p l e (zrm 0) s m args below meth c H locs 0 0 (MQ below (zQc Om Nm cA ad D A (some (.long rr)) sr) args s 0 0 A) (F0 m 69 ls [.long t0, .long t1]) := by
        intro k1 x2 x5 t0 t1 s1 H locs ls hl hP hS hf
        rw [f_X12_metWith_c69] at hf
        refine lv_ladd hx hb dX12_metWith_69 ?_
        refine lv_lstore_n (lv' := [(3, .long (t1 + t0)), (0, .ref (ad 0)), (1, .ref (ad k1)), (2, .int x2), (5, .int x5)]) hx hb dX12_metWith_70 rfl hl (by decide) rfl (fun ls hl => ?_)
        refine lv_iinc (v := (x5 + 1)) (lv' := [(5, .int (x5 + 1)), (3, .long (t1 + t0)), (0, .ref (ad 0)), (1, .ref (ad k1)), (2, .int x2)]) hx hb dX12_metWith_71 hl (k := 4) rfl rfl (by decide) rfl (fun ls hl => ?_)
        refine lv_goto (tgt := 5) hx hb dX12_metWith_74 (by decide) ?_
        exact ih5 k1 x2 (t1 + t0) (x5 + 1) s1 _ _ _ (lv_sub hl [2, 3, 4, 1, 0] rfl) hP hS hf
      intro k1 x2 x3 x5 s1 H locs ls hl hP hS hf
      rw [f_X12_metWith_c5] at hf
      refine lv_iload hx hb dX12_metWith_5 (lv_at hl 4 rfl) ?_
      refine lv_aload_n hx hb dX12_metWith_7 rfl (lv_at hl 0 rfl) ?_
      refine gf_X12_56 X hP (k := 0) rfl dX12_metWith_8 ?_
      refine zicmp_ge (tgt := 77) hx hb dX12_metWith_11 (by decide) hf (fun hf => ?_) (fun hf => ?_)
      · refine lv_lload_n hx hb dX12_metWith_77 rfl (lv_at hl 3 rfl) ?_
        exact zret_l X hP hS hf dX12_metWith_78
      · refine lv_lload_n hx hb dX12_metWith_14 rfl (lv_at hl 3 rfl) ?_
        refine lv_aload_n hx hb dX12_metWith_15 rfl (lv_at hl 0 rfl) ?_
        refine gf_X12_75 X hP (k := 0) (q := 5) rfl dX12_metWith_16 rfl ?_
        refine lv_iload hx hb dX12_metWith_19 (lv_at hl 4 rfl) ?_
        obtain ⟨g1, hf⟩ := zgd hf
        refine zald_i X hP (k := 5) (n := 462) (rs := []) rfl g1 dX12_metWith_21 ?_
        refine lv_aload_n hx hb dX12_metWith_22 rfl (lv_at hl 0 rfl) ?_
        refine gf_X12_75 X hP (k := 0) (q := 5) rfl dX12_metWith_23 rfl ?_
        refine lv_iload_n hx hb dX12_metWith_26 rfl (lv_at hl 2 rfl) ?_
        obtain ⟨g2, hf⟩ := zgd hf
        refine zald_i X hP (k := 5) (n := 462) (rs := []) rfl g2 dX12_metWith_27 ?_
        refine lv_iadd hx hb dX12_metWith_28 ?_
        refine lv_aload_n hx hb dX12_metWith_29 rfl (lv_at hl 0 rfl) ?_
        refine gf_X12_27 X hP (k := 0) rfl dX12_metWith_30 ?_
        refine zicmp_ne (tgt := 68) hx hb dX12_metWith_33 (by decide) hf (fun hf => ?_) (fun hf => ?_)
        · refine lv_lconst (v := 0) hx hb dX12_metWith_68 (by decide) ?_
          exact hc_69 k1 x2 x5 0 x3 s1 _ _ _ (lv_sub hl [0, 1, 2, 4] rfl) hP hS hf
        · refine lv_aload_n hx hb dX12_metWith_36 rfl (lv_at hl 1 rfl) ?_
          refine lv_iload hx hb dX12_metWith_37 (lv_at hl 4 rfl) ?_
          obtain ⟨g3, hf⟩ := zgd hf
          obtain ⟨n8, rn8, on8, in8⟩ := zok_of g3
          refine zald_l X hP (k := k1) on8 in8 dX12_metWith_39 ?_
          refine lv_aload_n hx hb dX12_metWith_40 rfl (lv_at hl 0 rfl) ?_
          refine gf_X12_78 X hP (k := 0) (q := 6) rfl dX12_metWith_41 rfl ?_
          refine lv_aload_n hx hb dX12_metWith_44 rfl (lv_at hl 0 rfl) ?_
          refine gf_X12_65 X hP (k := 0) (q := 7) rfl dX12_metWith_45 rfl ?_
          refine lv_aload_n hx hb dX12_metWith_48 rfl (lv_at hl 0 rfl) ?_
          refine gf_X12_62 X hP (k := 0) (q := 4) rfl dX12_metWith_49 rfl ?_
          refine lv_iload hx hb dX12_metWith_52 (lv_at hl 4 rfl) ?_
          obtain ⟨g4, hf⟩ := zgd hf
          refine zald_i X hP (k := 4) (n := 462) (rs := []) rfl g4 dX12_metWith_54 ?_
          refine lv_aload_n hx hb dX12_metWith_55 rfl (lv_at hl 0 rfl) ?_
          refine gf_X12_62 X hP (k := 0) (q := 4) rfl dX12_metWith_56 rfl ?_
          refine lv_iload_n hx hb dX12_metWith_59 rfl (lv_at hl 2 rfl) ?_
          obtain ⟨g5, hf⟩ := zgd hf
          refine zald_i X hP (k := 4) (n := 462) (rs := []) rfl g5 dX12_metWith_60 ?_
          refine lv_iadd hx hb dX12_metWith_61 ?_
          obtain ⟨g6, hf⟩ := zgd hf
          refine zald_i X hP (k := 7) (n := 600000) (rs := []) rfl g6 dX12_metWith_62 ?_
          obtain ⟨g7, hf⟩ := zgd hf
          refine zald_l X hP (k := 6) (n := 462) (rs := []) rfl g7 dX12_metWith_63 ?_
          refine lv_lmul hx hb dX12_metWith_64 ?_
          refine lv_goto (tgt := 69) hx hb dX12_metWith_65 (by decide) ?_
          exact hc_69 k1 x2 x5 ((s1.2 k1 (x5).toNatClampNeg) * (s1.2 6 ((s1.1 7 (((s1.1 4 (x5).toNatClampNeg) + (s1.1 4 (x2).toNatClampNeg))).toNatClampNeg)).toNatClampNeg)) x3 s1 _ _ _ (lv_sub hl [0, 1, 2, 4] rfl) hP hS hf
  rw [f_X12_metWith] at hf
  refine lv_lconst (v := 0) hx hb dX12_metWith_0 (by decide) ?_
  refine lv_lstore_n (lv' := [(3, .long 0), (0, .ref (ad 0)), (1, .ref (ad k1)), (2, .int x2)]) hx hb dX12_metWith_1 rfl hl (by decide) rfl (fun ls hl => ?_)
  refine lv_iconst (v := 0) hx hb dX12_metWith_2 (by decide) ?_
  refine lv_istore (lv' := [(5, .int 0), (3, .long 0), (0, .ref (ad 0)), (1, .ref (ad k1)), (2, .int x2)]) hx hb dX12_metWith_3 hl (by decide) rfl (fun ls hl => ?_)
  exact hc_5 ZF k1 x2 0 0 s0 _ _ _ (lv_sub hl [2, 3, 4, 1, 0] rfl) hP hS hf
theorem dX12_like_0 : decode cX12_like 0 = .ok (.aload_n 0, 1) := by decide +kernel
theorem dX12_like_1 : decode cX12_like 1 = .ok (.iload_n 1, 1) := by decide +kernel
theorem dX12_like_2 : decode cX12_like 2 = .ok (.i2l, 1) := by decide +kernel
theorem dX12_like_3 : decode cX12_like 3 = .ok (.invokevirtual 245, 3) := by decide +kernel
theorem dX12_like_6 : decode cX12_like 6 = .ok (.ifCond .eq 12, 3) := by decide +kernel
theorem dX12_like_9 : decode cX12_like 9 = .ok (.aload_n 0, 1) := by decide +kernel
theorem dX12_like_10 : decode cX12_like 10 = .ok (.iload_n 2, 1) := by decide +kernel
theorem dX12_like_11 : decode cX12_like 11 = .ok (.i2l, 1) := by decide +kernel
theorem dX12_like_12 : decode cX12_like 12 = .ok (.invokevirtual 245, 3) := by decide +kernel
theorem dX12_like_15 : decode cX12_like 15 = .ok (.ifCond .ne 5, 3) := by decide +kernel
theorem dX12_like_18 : decode cX12_like 18 = .ok (.iconst (-1), 1) := by decide +kernel
theorem dX12_like_19 : decode cX12_like 19 = .ok (.ireturn, 1) := by decide +kernel
theorem dX12_like_20 : decode cX12_like 20 = .ok (.aload_n 0, 1) := by decide +kernel
theorem dX12_like_21 : decode cX12_like 21 = .ok (.iload_n 1, 1) := by decide +kernel
theorem dX12_like_22 : decode cX12_like 22 = .ok (.aload_n 0, 1) := by decide +kernel
theorem dX12_like_23 : decode cX12_like 23 = .ok (.getfield 111, 3) := by decide +kernel
theorem dX12_like_26 : decode cX12_like 26 = .ok (.invokevirtual 264, 3) := by decide +kernel
theorem dX12_like_29 : decode cX12_like 29 = .ok (.aload_n 0, 1) := by decide +kernel
theorem dX12_like_30 : decode cX12_like 30 = .ok (.iload_n 2, 1) := by decide +kernel
theorem dX12_like_31 : decode cX12_like 31 = .ok (.aload_n 0, 1) := by decide +kernel
theorem dX12_like_32 : decode cX12_like 32 = .ok (.getfield 114, 3) := by decide +kernel
theorem dX12_like_35 : decode cX12_like 35 = .ok (.invokevirtual 264, 3) := by decide +kernel
theorem dX12_like_38 : decode cX12_like 38 = .ok (.iconst 0, 1) := by decide +kernel
theorem dX12_like_39 : decode cX12_like 39 = .ok (.istore_n 3, 1) := by decide +kernel
theorem dX12_like_40 : decode cX12_like 40 = .ok (.iload_n 3, 1) := by decide +kernel
theorem dX12_like_41 : decode cX12_like 41 = .ok (.aload_n 0, 1) := by decide +kernel
theorem dX12_like_42 : decode cX12_like 42 = .ok (.getfield 56, 3) := by decide +kernel
theorem dX12_like_45 : decode cX12_like 45 = .ok (.if_icmp .ge 33, 3) := by decide +kernel
theorem dX12_like_48 : decode cX12_like 48 = .ok (.aload_n 0, 1) := by decide +kernel
theorem dX12_like_49 : decode cX12_like 49 = .ok (.aload_n 0, 1) := by decide +kernel
theorem dX12_like_50 : decode cX12_like 50 = .ok (.getfield 111, 3) := by decide +kernel
theorem dX12_like_53 : decode cX12_like 53 = .ok (.iload_n 3, 1) := by decide +kernel
theorem dX12_like_54 : decode cX12_like 54 = .ok (.invokevirtual 294, 3) := by decide +kernel
theorem dX12_like_57 : decode cX12_like 57 = .ok (.aload_n 0, 1) := by decide +kernel
theorem dX12_like_58 : decode cX12_like 58 = .ok (.aload_n 0, 1) := by decide +kernel
theorem dX12_like_59 : decode cX12_like 59 = .ok (.getfield 114, 3) := by decide +kernel
theorem dX12_like_62 : decode cX12_like 62 = .ok (.iload_n 3, 1) := by decide +kernel
theorem dX12_like_63 : decode cX12_like 63 = .ok (.invokevirtual 294, 3) := by decide +kernel
theorem dX12_like_66 : decode cX12_like 66 = .ok (.lcmp, 1) := by decide +kernel
theorem dX12_like_67 : decode cX12_like 67 = .ok (.ifCond .eq 5, 3) := by decide +kernel
theorem dX12_like_70 : decode cX12_like 70 = .ok (.iconst 0, 1) := by decide +kernel
theorem dX12_like_71 : decode cX12_like 71 = .ok (.ireturn, 1) := by decide +kernel
theorem dX12_like_72 : decode cX12_like 72 = .ok (.iinc 3 1, 3) := by decide +kernel
theorem dX12_like_75 : decode cX12_like 75 = .ok (.goto (-35), 3) := by decide +kernel
theorem dX12_like_78 : decode cX12_like 78 = .ok (.iconst 1, 1) := by decide +kernel
theorem dX12_like_79 : decode cX12_like 79 = .ok (.ireturn, 1) := by decide +kernel
set_option maxHeartbeats 4000000 in
set_option maxRecDepth 100000 in
theorem cn_X12_like {l : Launch} {cA : Nat → ClassId} {ad : Nat → Nat} {D : va_G} {E : Nat → Nat} {A : Nat → Prop} {x1 : Int32} {x2 : Int32} {s0 sr : SS} {rr : Int32} (hf : f_X12_like x1 x2 s0 = some (rr, sr)) : zCon Om Nm cA ad D E l yX12_like cX12_like 4 (some .int) 5 A [.ref (ad 0), .int x1, .int x2] s0 (some (.int rr)) sr := by
  refine zstart (own := RX12) hOm (by decide) rfl (Nat.le_of_ble_eq_true rfl) ?_
  intro p e s m args below meth c X hP ls hl
  have hx := X.1
  have hb := X.2.1
  have hl : lv_has ls 4 [(0, .ref (ad 0)), (1, .int x1), (2, .int x2)] := hl
  have hS : va_S A s.heap s.heap [] := va_S.rf
  have hc_40 : ∀ (n40 : Nat) (x3 : Int32) (s1 : SS) (H : Heap) (locs : List Loc) (ls : Array Slot), lv_has ls 4 [(0, .ref (ad 0)), (3, .int x3)] → va_P D ZCL (zw Om Nm cA ad s1) H → va_S A s.heap H locs → f_X12_like_c40 n40 x3 s1 = some (rr, sr) → W p l e (zrm 5) s m args below meth c H locs 0 0 (MQ below (zQc Om Nm cA ad D A (some (.int rr)) sr) args s 0 0 A) (F0 m 40 ls []) := by
    intro n40
    induction n40 with
    | zero =>
      intro x3 s1 H locs ls hl hP hS hf
      rw [f_X12_like_c40] at hf
      cases hf
    | succ n40 ih40 =>
      intro x3 s1 H locs ls hl hP hS hf
      rw [f_X12_like_c40] at hf
      refine lv_iload_n hx hb dX12_like_40 rfl (lv_at hl 1 rfl) ?_
      refine lv_aload_n hx hb dX12_like_41 rfl (lv_at hl 0 rfl) ?_
      refine gf_X12_56 X hP (k := 0) rfl dX12_like_42 ?_
      refine zicmp_ge (tgt := 78) hx hb dX12_like_45 (by decide) hf (fun hf => ?_) (fun hf => ?_)
      · refine lv_iconst (v := 1) hx hb dX12_like_78 (by decide) ?_
        exact zret_i X hP hS hf rfl dX12_like_79
      · refine lv_aload_n hx hb dX12_like_48 rfl (lv_at hl 0 rfl) ?_
        refine lv_aload_n hx hb dX12_like_49 rfl (lv_at hl 0 rfl) ?_
        refine gf_X12_111 X hP (k := 0) (q := 13) rfl dX12_like_50 rfl ?_
        refine lv_iload_n hx hb dX12_like_53 rfl (lv_at hl 1 rfl) ?_
        obtain ⟨r13, s14, h15, hf⟩ := zbd_some hf
        refine zcallV X hP hS hl.1 (k := 0) (As := [.ref (ad 13), .int x3]) (rest := []) (cn_X12_metWith h15) cw_X12_metWith zp_12 rfl (by decide) rfl ml_X12_294 (by decide) rfl rfl (Nat.le_of_ble_eq_true rfl) dX12_like_54 (fun H locs hP hS => ?_)
        refine lv_aload_n hx hb dX12_like_57 rfl (lv_at hl 0 rfl) ?_
        refine lv_aload_n hx hb dX12_like_58 rfl (lv_at hl 0 rfl) ?_
        refine gf_X12_114 X hP (k := 0) (q := 14) rfl dX12_like_59 rfl ?_
        refine lv_iload_n hx hb dX12_like_62 rfl (lv_at hl 1 rfl) ?_
        obtain ⟨r16, s17, h18, hf⟩ := zbd_some hf
        refine zcallV X hP hS hl.1 (k := 0) (As := [.ref (ad 14), .int x3]) (rest := [.long r13]) (cn_X12_metWith h18) cw_X12_metWith zp_12 rfl (by decide) rfl ml_X12_294 (by decide) rfl rfl (Nat.le_of_ble_eq_true rfl) dX12_like_63 (fun H locs hP hS => ?_)
        refine W.lcmp hx hb dX12_like_66 ?_
        refine zif_eq (tgt := 72) hx hb dX12_like_67 (by decide) hf (fun hf => ?_) (fun hf => ?_)
        · refine lv_iinc (v := (x3 + 1)) (lv' := [(3, .int (x3 + 1)), (0, .ref (ad 0))]) hx hb dX12_like_72 hl (k := 1) rfl rfl (by decide) rfl (fun ls hl => ?_)
          refine lv_goto (tgt := 40) hx hb dX12_like_75 (by decide) ?_
          exact ih40 (x3 + 1) s17 _ _ _ (lv_sub hl [1, 0] rfl) hP hS hf
        · refine lv_iconst (v := 0) hx hb dX12_like_70 (by decide) ?_
          exact zret_i X hP hS hf rfl dX12_like_71
  rw [f_X12_like] at hf
  refine lv_aload_n hx hb dX12_like_0 rfl (lv_at hl 0 rfl) ?_
  refine lv_iload_n hx hb dX12_like_1 rfl (lv_at hl 1 rfl) ?_
  refine lv_i2l hx hb dX12_like_2 rfl ?_
  obtain ⟨r1, s2, h3, hf⟩ := zbd_some hf
  refine zcallV X hP hS hl.1 (k := 0) (As := [.long (x1).toInt64]) (rest := []) (cn_X12_isClass h3) cw_X12_isClass zp_12 rfl (by decide) rfl ml_X12_245 (by decide) rfl rfl (Nat.le_of_ble_eq_true rfl) dX12_like_3 (fun H locs hP hS => ?_)
  refine zif_eq (tgt := 18) hx hb dX12_like_6 (by decide) hf (fun hf => ?_) (fun hf => ?_)
  · refine lv_iconst (v := (-1)) hx hb dX12_like_18 (by decide) ?_
    exact zret_i X hP hS hf rfl dX12_like_19
  · refine lv_aload_n hx hb dX12_like_9 rfl (lv_at hl 0 rfl) ?_
    refine lv_iload_n hx hb dX12_like_10 rfl (lv_at hl 2 rfl) ?_
    refine lv_i2l hx hb dX12_like_11 rfl ?_
    obtain ⟨r4, s5, h6, hf⟩ := zbd_some hf
    refine zcallV X hP hS hl.1 (k := 0) (As := [.long (x2).toInt64]) (rest := []) (cn_X12_isClass h6) cw_X12_isClass zp_12 rfl (by decide) rfl ml_X12_245 (by decide) rfl rfl (Nat.le_of_ble_eq_true rfl) dX12_like_12 (fun H locs hP hS => ?_)
    refine zif_ne (tgt := 20) hx hb dX12_like_15 (by decide) hf (fun hf => ?_) (fun hf => ?_)
    · refine lv_aload_n hx hb dX12_like_20 rfl (lv_at hl 0 rfl) ?_
      refine lv_iload_n hx hb dX12_like_21 rfl (lv_at hl 1 rfl) ?_
      refine lv_aload_n hx hb dX12_like_22 rfl (lv_at hl 0 rfl) ?_
      refine gf_X12_111 X hP (k := 0) (q := 13) rfl dX12_like_23 rfl ?_
      obtain ⟨r7, s8, h9, hf⟩ := zbd_some hf
      refine zcallV X hP hS hl.1 (k := 0) (As := [.int x1, .ref (ad 13)]) (rest := []) (cn_X12_layClass h9) cw_X12_layClass zp_12 rfl (by decide) rfl ml_X12_264 (by decide) rfl rfl (Nat.le_of_ble_eq_true rfl) dX12_like_26 (fun H locs hP hS => ?_)
      refine lv_aload_n hx hb dX12_like_29 rfl (lv_at hl 0 rfl) ?_
      refine lv_iload_n hx hb dX12_like_30 rfl (lv_at hl 2 rfl) ?_
      refine lv_aload_n hx hb dX12_like_31 rfl (lv_at hl 0 rfl) ?_
      refine gf_X12_114 X hP (k := 0) (q := 14) rfl dX12_like_32 rfl ?_
      obtain ⟨r10, s11, h12, hf⟩ := zbd_some hf
      refine zcallV X hP hS hl.1 (k := 0) (As := [.int x2, .ref (ad 14)]) (rest := []) (cn_X12_layClass h12) cw_X12_layClass zp_12 rfl (by decide) rfl ml_X12_264 (by decide) rfl rfl (Nat.le_of_ble_eq_true rfl) dX12_like_35 (fun H locs hP hS => ?_)
      refine lv_iconst (v := 0) hx hb dX12_like_38 (by decide) ?_
      refine lv_istore_n (lv' := [(3, .int 0), (0, .ref (ad 0)), (1, .int x1), (2, .int x2)]) hx hb dX12_like_39 rfl hl (by decide) rfl (fun ls hl => ?_)
      exact hc_40 ZF 0 s11 _ _ _ (lv_sub hl [1, 0] rfl) hP hS hf
    · refine lv_iconst (v := (-1)) hx hb dX12_like_18 (by decide) ?_
      exact zret_i X hP hS hf rfl dX12_like_19
theorem dX12_layChern_0 : decode cX12_layChern 0 = .ok (.aload_n 0, 1) := by decide +kernel
theorem dX12_layChern_1 : decode cX12_layChern 1 = .ok (.aload_n 1, 1) := by decide +kernel
theorem dX12_layChern_2 : decode cX12_layChern 2 = .ok (.invokevirtual 278, 3) := by decide +kernel
theorem dX12_layChern_5 : decode cX12_layChern 5 = .ok (.iconst 0, 1) := by decide +kernel
theorem dX12_layChern_6 : decode cX12_layChern 6 = .ok (.istore_n 2, 1) := by decide +kernel
theorem dX12_layChern_7 : decode cX12_layChern 7 = .ok (.iload_n 2, 1) := by decide +kernel
theorem dX12_layChern_8 : decode cX12_layChern 8 = .ok (.aload_n 0, 1) := by decide +kernel
theorem dX12_layChern_9 : decode cX12_layChern 9 = .ok (.getfield 9, 3) := by decide +kernel
theorem dX12_layChern_12 : decode cX12_layChern 12 = .ok (.if_icmp .ge 59, 3) := by decide +kernel
theorem dX12_layChern_15 : decode cX12_layChern 15 = .ok (.iconst 0, 1) := by decide +kernel
theorem dX12_layChern_16 : decode cX12_layChern 16 = .ok (.istore_n 3, 1) := by decide +kernel
theorem dX12_layChern_17 : decode cX12_layChern 17 = .ok (.iload_n 3, 1) := by decide +kernel
theorem dX12_layChern_18 : decode cX12_layChern 18 = .ok (.aload_n 0, 1) := by decide +kernel
theorem dX12_layChern_19 : decode cX12_layChern 19 = .ok (.getfield 23, 3) := by decide +kernel
theorem dX12_layChern_22 : decode cX12_layChern 22 = .ok (.iload_n 2, 1) := by decide +kernel
theorem dX12_layChern_23 : decode cX12_layChern 23 = .ok (.iaload, 1) := by decide +kernel
theorem dX12_layChern_24 : decode cX12_layChern 24 = .ok (.if_icmp .gt 41, 3) := by decide +kernel
theorem dX12_layChern_27 : decode cX12_layChern 27 = .ok (.aload_n 0, 1) := by decide +kernel
theorem dX12_layChern_28 : decode cX12_layChern 28 = .ok (.aload_n 0, 1) := by decide +kernel
theorem dX12_layChern_29 : decode cX12_layChern 29 = .ok (.getfield 114, 3) := by decide +kernel
theorem dX12_layChern_32 : decode cX12_layChern 32 = .ok (.invokevirtual 278, 3) := by decide +kernel
theorem dX12_layChern_35 : decode cX12_layChern 35 = .ok (.aload_n 0, 1) := by decide +kernel
theorem dX12_layChern_36 : decode cX12_layChern 36 = .ok (.getfield 114, 3) := by decide +kernel
theorem dX12_layChern_39 : decode cX12_layChern 39 = .ok (.aload_n 0, 1) := by decide +kernel
theorem dX12_layChern_40 : decode cX12_layChern 40 = .ok (.getfield 65, 3) := by decide +kernel
theorem dX12_layChern_43 : decode cX12_layChern 43 = .ok (.iload_n 2, 1) := by decide +kernel
theorem dX12_layChern_44 : decode cX12_layChern 44 = .ok (.invokestatic 15, 3) := by decide +kernel
theorem dX12_layChern_47 : decode cX12_layChern 47 = .ok (.iaload, 1) := by decide +kernel
theorem dX12_layChern_48 : decode cX12_layChern 48 = .ok (.lconst 1, 1) := by decide +kernel
theorem dX12_layChern_49 : decode cX12_layChern 49 = .ok (.lastore, 1) := by decide +kernel
theorem dX12_layChern_50 : decode cX12_layChern 50 = .ok (.aload_n 0, 1) := by decide +kernel
theorem dX12_layChern_51 : decode cX12_layChern 51 = .ok (.aload_n 1, 1) := by decide +kernel
theorem dX12_layChern_52 : decode cX12_layChern 52 = .ok (.aload_n 0, 1) := by decide +kernel
theorem dX12_layChern_53 : decode cX12_layChern 53 = .ok (.getfield 114, 3) := by decide +kernel
theorem dX12_layChern_56 : decode cX12_layChern 56 = .ok (.invokevirtual 272, 3) := by decide +kernel
theorem dX12_layChern_59 : decode cX12_layChern 59 = .ok (.iinc 3 1, 3) := by decide +kernel
theorem dX12_layChern_62 : decode cX12_layChern 62 = .ok (.goto (-45), 3) := by decide +kernel
theorem dX12_layChern_65 : decode cX12_layChern 65 = .ok (.iinc 2 1, 3) := by decide +kernel
theorem dX12_layChern_68 : decode cX12_layChern 68 = .ok (.goto (-61), 3) := by decide +kernel
theorem dX12_layChern_71 : decode cX12_layChern 71 = .ok (.return_, 1) := by decide +kernel
set_option maxHeartbeats 4000000 in
set_option maxRecDepth 100000 in
theorem cn_X12_layChern {l : Launch} {cA : Nat → ClassId} {ad : Nat → Nat} {D : va_G} {E : Nat → Nat} {A : Nat → Prop} {k1 : Nat} {s0 sr : SS} {rr : Unit} (hf : f_X12_layChern k1 s0 = some (rr, sr)) : zCon Om Nm cA ad D E l yX12_layChern cX12_layChern 4 none 2 A [.ref (ad 0), .ref (ad k1)] s0 none sr := by
  refine zstart (own := RX12) hOm (by decide) rfl (Nat.le_of_ble_eq_true rfl) ?_
  intro p e s m args below meth c X hP ls hl
  have hx := X.1
  have hb := X.2.1
  have hl : lv_has ls 4 [(0, .ref (ad 0)), (1, .ref (ad k1))] := hl
  have hS : va_S A s.heap s.heap [] := va_S.rf
  have hc_7 : ∀ (n7 : Nat) (k1 : Nat) (x2 : Int32) (s1 : SS) (H : Heap) (locs : List Loc) (ls : Array Slot), lv_has ls 4 [(0, .ref (ad 0)), (1, .ref (ad k1)), (2, .int x2)] → va_P D ZCL (zw Om Nm cA ad s1) H → va_S A s.heap H locs → f_X12_layChern_c7 n7 k1 x2 s1 = some (rr, sr) → W p l e (zrm 2) s m args below meth c H locs 0 0 (MQ below (zQc Om Nm cA ad D A none sr) args s 0 0 A) (F0 m 7 ls []) := by
    intro n7
    induction n7 with
    | zero =>
      intro k1 x2 s1 H locs ls hl hP hS hf
      rw [f_X12_layChern_c7] at hf
      cases hf
    | succ n7 ih7 =>
      have hc_17 : ∀ (n17 : Nat) (k1 : Nat) (x2 : Int32) (x3 : Int32) (s1 : SS) (H : Heap) (locs : List Loc) (ls : Array Slot), lv_has ls 4 [(0, .ref (ad 0)), (1, .ref (ad k1)), (2, .int x2), (3, .int x3)] → va_P D ZCL (zw Om Nm cA ad s1) H → va_S A s.heap H locs → f_X12_layChern_c17 (f_X12_layChern_c7 n7) n17 k1 x2 x3 s1 = some (rr, sr) → W p l e (zrm 2) s m args below meth c H locs 0 0 (MQ below (zQc Om Nm cA ad D A none sr) args s 0 0 A) (F0 m 17 ls []) := by
        intro n17
        induction n17 with
        | zero =>
          intro k1 x2 x3 s1 H locs ls hl hP hS hf
          rw [f_X12_layChern_c17] at hf
          cases hf
        | succ n17 ih17 =>
          intro k1 x2 x3 s1 H locs ls hl hP hS hf
          rw [f_X12_layChern_c17] at hf
          refine lv_iload_n hx hb dX12_layChern_17 rfl (lv_at hl 3 rfl) ?_
          refine lv_aload_n hx hb dX12_layChern_18 rfl (lv_at hl 0 rfl) ?_
          refine gf_X12_23 X hP (k := 0) (q := 1) rfl dX12_layChern_19 rfl ?_
          refine lv_iload_n hx hb dX12_layChern_22 rfl (lv_at hl 2 rfl) ?_
          obtain ⟨g4, hf⟩ := zgd hf
          refine zald_i X hP (k := 1) (n := 3) (rs := []) rfl g4 dX12_layChern_23 ?_
          refine zicmp_gt (tgt := 65) hx hb dX12_layChern_24 (by decide) hf (fun hf => ?_) (fun hf => ?_)
          · refine lv_iinc (v := (x2 + 1)) (lv' := [(2, .int (x2 + 1)), (0, .ref (ad 0)), (1, .ref (ad k1)), (3, .int x3)]) hx hb dX12_layChern_65 hl (k := 2) rfl rfl (by decide) rfl (fun ls hl => ?_)
            refine lv_goto (tgt := 7) hx hb dX12_layChern_68 (by decide) ?_
            exact ih7 k1 (x2 + 1) s1 _ _ _ (lv_sub hl [1, 2, 0] rfl) hP hS hf
          · refine lv_aload_n hx hb dX12_layChern_27 rfl (lv_at hl 0 rfl) ?_
            refine lv_aload_n hx hb dX12_layChern_28 rfl (lv_at hl 0 rfl) ?_
            refine gf_X12_114 X hP (k := 0) (q := 14) rfl dX12_layChern_29 rfl ?_
            obtain ⟨r5, s6, h7, hf⟩ := zbd_some hf
            refine zcallV X hP hS hl.1 (k := 0) (As := [.ref (ad 14)]) (rest := []) (cn_X12_layOne h7) cw_X12_layOne zp_12 rfl (by decide) rfl ml_X12_278 (by decide) rfl rfl (Nat.le_of_ble_eq_true rfl) dX12_layChern_32 (fun H locs hP hS => ?_)
            refine lv_aload_n hx hb dX12_layChern_35 rfl (lv_at hl 0 rfl) ?_
            refine gf_X12_114 X hP (k := 0) (q := 14) rfl dX12_layChern_36 rfl ?_
            refine lv_aload_n hx hb dX12_layChern_39 rfl (lv_at hl 0 rfl) ?_
            refine gf_X12_65 X hP (k := 0) (q := 7) rfl dX12_layChern_40 rfl ?_
            refine lv_iload_n hx hb dX12_layChern_43 rfl (lv_at hl 2 rfl) ?_
            obtain ⟨r8, s9, h10, hf⟩ := zbd_some hf
            refine zcallS X hP hS hl.1 (As := [.int x2]) (rest := [.ref (ad 7), .ref (ad 14)]) (cn_X12_tens h10) cw_X12_tens ml_X12_15 (by decide) rfl rfl (Nat.le_of_ble_eq_true rfl) dX12_layChern_44 (fun H locs hP hS => ?_)
            obtain ⟨g11, hf⟩ := zgd hf
            refine zald_i X hP (k := 7) (n := 600000) (rs := []) rfl g11 dX12_layChern_47 ?_
            refine lv_lconst (v := 1) hx hb dX12_layChern_48 (by decide) ?_
            obtain ⟨g12, hf⟩ := zgd hf
            refine zast_l X hP hS (k := 14) (n := 462) (rs := []) rfl g12 dX12_layChern_49 (fun H locs hP hS => ?_)
            refine lv_aload_n hx hb dX12_layChern_50 rfl (lv_at hl 0 rfl) ?_
            refine lv_aload_n hx hb dX12_layChern_51 rfl (lv_at hl 1 rfl) ?_
            refine lv_aload_n hx hb dX12_layChern_52 rfl (lv_at hl 0 rfl) ?_
            refine gf_X12_114 X hP (k := 0) (q := 14) rfl dX12_layChern_53 rfl ?_
            obtain ⟨r13, s14, h15, hf⟩ := zbd_some hf
            refine zcallV X hP hS hl.1 (k := 0) (As := [.ref (ad k1), .ref (ad 14)]) (rest := []) (cn_X12_multiply h15) cw_X12_multiply zp_12 rfl (by decide) rfl ml_X12_272 (by decide) rfl rfl (Nat.le_of_ble_eq_true rfl) dX12_layChern_56 (fun H locs hP hS => ?_)
            refine lv_iinc (v := (x3 + 1)) (lv' := [(3, .int (x3 + 1)), (0, .ref (ad 0)), (1, .ref (ad k1)), (2, .int x2)]) hx hb dX12_layChern_59 hl (k := 3) rfl rfl (by decide) rfl (fun ls hl => ?_)
            refine lv_goto (tgt := 17) hx hb dX12_layChern_62 (by decide) ?_
            exact ih17 k1 x2 (x3 + 1) s14 _ _ _ (lv_sub hl [1, 2, 3, 0] rfl) hP hS hf
      intro k1 x2 s1 H locs ls hl hP hS hf
      rw [f_X12_layChern_c7] at hf
      refine lv_iload_n hx hb dX12_layChern_7 rfl (lv_at hl 2 rfl) ?_
      refine lv_aload_n hx hb dX12_layChern_8 rfl (lv_at hl 0 rfl) ?_
      refine gf_X12_9 X hP (k := 0) rfl dX12_layChern_9 ?_
      refine zicmp_ge (tgt := 71) hx hb dX12_layChern_12 (by decide) hf (fun hf => ?_) (fun hf => ?_)
      · exact zret_v X hP hS hf dX12_layChern_71
      · refine lv_iconst (v := 0) hx hb dX12_layChern_15 (by decide) ?_
        refine lv_istore_n (lv' := [(3, .int 0), (0, .ref (ad 0)), (1, .ref (ad k1)), (2, .int x2)]) hx hb dX12_layChern_16 rfl hl (by decide) rfl (fun ls hl => ?_)
        exact hc_17 ZF k1 x2 0 s1 _ _ _ (lv_sub hl [1, 2, 3, 0] rfl) hP hS hf
  rw [f_X12_layChern] at hf
  refine lv_aload_n hx hb dX12_layChern_0 rfl (lv_at hl 0 rfl) ?_
  refine lv_aload_n hx hb dX12_layChern_1 rfl (lv_at hl 1 rfl) ?_
  obtain ⟨r1, s2, h3, hf⟩ := zbd_some hf
  refine zcallV X hP hS hl.1 (k := 0) (As := [.ref (ad k1)]) (rest := []) (cn_X12_layOne h3) cw_X12_layOne zp_12 rfl (by decide) rfl ml_X12_278 (by decide) rfl rfl (Nat.le_of_ble_eq_true rfl) dX12_layChern_2 (fun H locs hP hS => ?_)
  refine lv_iconst (v := 0) hx hb dX12_layChern_5 (by decide) ?_
  refine lv_istore_n (lv' := [(2, .int 0), (0, .ref (ad 0)), (1, .ref (ad k1))]) hx hb dX12_layChern_6 rfl hl (by decide) rfl (fun ls hl => ?_)
  exact hc_7 ZF k1 0 s2 _ _ _ (lv_sub hl [1, 2, 0] rfl) hP hS hf
theorem dX12_isBare_0 : decode cX12_isBare 0 = .ok (.aload_n 0, 1) := by decide +kernel
theorem dX12_isBare_1 : decode cX12_isBare 1 = .ok (.getfield 3, 3) := by decide +kernel
theorem dX12_isBare_4 : decode cX12_isBare 4 = .ok (.ifCond .ne 14, 3) := by decide +kernel
theorem dX12_isBare_7 : decode cX12_isBare 7 = .ok (.aload_n 0, 1) := by decide +kernel
theorem dX12_isBare_8 : decode cX12_isBare 8 = .ok (.getfield 12, 3) := by decide +kernel
theorem dX12_isBare_11 : decode cX12_isBare 11 = .ok (.ifCond .ne 7, 3) := by decide +kernel
theorem dX12_isBare_14 : decode cX12_isBare 14 = .ok (.iconst 1, 1) := by decide +kernel
theorem dX12_isBare_15 : decode cX12_isBare 15 = .ok (.goto 4, 3) := by decide +kernel
theorem dX12_isBare_18 : decode cX12_isBare 18 = .ok (.iconst 0, 1) := by decide +kernel
theorem dX12_isBare_19 : decode cX12_isBare 19 = .ok (.ireturn, 1) := by decide +kernel
set_option maxHeartbeats 4000000 in
set_option maxRecDepth 100000 in
theorem cn_X12_isBare {l : Launch} {cA : Nat → ClassId} {ad : Nat → Nat} {D : va_G} {E : Nat → Nat} {A : Nat → Prop}  {s0 sr : SS} {rr : Int32} (hf : f_X12_isBare s0 = some (rr, sr)) : zCon Om Nm cA ad D E l yX12_isBare cX12_isBare 1 (some .boolean) 0 A [.ref (ad 0)] s0 (some (.int rr)) sr := by
  refine zstart (own := RX12) hOm (by decide) rfl (Nat.le_of_ble_eq_true rfl) ?_
  intro p e s m args below meth c X hP ls hl
  have hx := X.1
  have hb := X.2.1
  have hl : lv_has ls 1 [(0, .ref (ad 0))] := hl
  have hS : va_S A s.heap s.heap [] := va_S.rf
  rw [f_X12_isBare] at hf
  refine lv_aload_n hx hb dX12_isBare_0 rfl (lv_at hl 0 rfl) ?_
  refine gf_X12_3 X hP (k := 0) rfl dX12_isBare_1 ?_
  refine zif_ne (tgt := 18) hx hb dX12_isBare_4 (by decide) hf (fun hf => ?_) (fun hf => ?_)
  · refine lv_iconst (v := 0) hx hb dX12_isBare_18 (by decide) ?_
    exact zret_i X hP hS hf rfl dX12_isBare_19
  · refine lv_aload_n hx hb dX12_isBare_7 rfl (lv_at hl 0 rfl) ?_
    refine gf_X12_12 X hP (k := 0) rfl dX12_isBare_8 ?_
    refine zif_ne (tgt := 18) hx hb dX12_isBare_11 (by decide) hf (fun hf => ?_) (fun hf => ?_)
    · refine lv_iconst (v := 0) hx hb dX12_isBare_18 (by decide) ?_
      exact zret_i X hP hS hf rfl dX12_isBare_19
    · refine lv_iconst (v := 1) hx hb dX12_isBare_14 (by decide) ?_
      refine lv_goto (tgt := 19) hx hb dX12_isBare_15 (by decide) ?_
      exact zret_i X hP hS hf rfl dX12_isBare_19
