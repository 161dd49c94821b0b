theorem dX12_of_0 : decode cX12_of 0 = .ok (.aload_n 0, 1) := by decide +kernel
theorem dX12_of_1 : decode cX12_of 1 = .ok (.iload_n 1, 1) := by decide +kernel
theorem dX12_of_2 : decode cX12_of 2 = .ok (.i2l, 1) := by decide +kernel
theorem dX12_of_3 : decode cX12_of 3 = .ok (.invokevirtual 245, 3) := by decide +kernel
theorem dX12_of_6 : decode cX12_of 6 = .ok (.ifCond .eq 15, 3) := by decide +kernel
theorem dX12_of_9 : decode cX12_of 9 = .ok (.iload_n 2, 1) := by decide +kernel
theorem dX12_of_10 : decode cX12_of 10 = .ok (.i2l, 1) := by decide +kernel
theorem dX12_of_11 : decode cX12_of 11 = .ok (.lconst 0, 1) := by decide +kernel
theorem dX12_of_12 : decode cX12_of 12 = .ok (.ldc2_w 40, 3) := by decide +kernel
theorem dX12_of_15 : decode cX12_of 15 = .ok (.invokestatic 203, 3) := by decide +kernel
theorem dX12_of_18 : decode cX12_of 18 = .ok (.ifCond .ne 5, 3) := by decide +kernel
theorem dX12_of_21 : decode cX12_of 21 = .ok (.iconst (-1), 1) := by decide +kernel
theorem dX12_of_22 : decode cX12_of 22 = .ok (.ireturn, 1) := by decide +kernel
theorem dX12_of_23 : decode cX12_of 23 = .ok (.iconst 0, 1) := by decide +kernel
theorem dX12_of_24 : decode cX12_of 24 = .ok (.istore_n 3, 1) := by decide +kernel
theorem dX12_of_25 : decode cX12_of 25 = .ok (.bipush (-2), 2) := by decide +kernel
theorem dX12_of_27 : decode cX12_of 27 = .ok (.istore 4, 2) := by decide +kernel
theorem dX12_of_29 : decode cX12_of 29 = .ok (.bipush (-2), 2) := by decide +kernel
theorem dX12_of_31 : decode cX12_of 31 = .ok (.istore 5, 2) := by decide +kernel
theorem dX12_of_33 : decode cX12_of 33 = .ok (.iconst 0, 1) := by decide +kernel
theorem dX12_of_34 : decode cX12_of 34 = .ok (.istore 6, 2) := by decide +kernel
theorem dX12_of_36 : decode cX12_of 36 = .ok (.iload 6, 2) := by decide +kernel
theorem dX12_of_38 : decode cX12_of 38 = .ok (.aload_n 0, 1) := by decide +kernel
theorem dX12_of_39 : decode cX12_of 39 = .ok (.getfield 56, 3) := by decide +kernel
theorem dX12_of_42 : decode cX12_of 42 = .ok (.if_icmp .ge 83, 3) := by decide +kernel
theorem dX12_of_45 : decode cX12_of 45 = .ok (.aload_n 0, 1) := by decide +kernel
theorem dX12_of_46 : decode cX12_of 46 = .ok (.iload_n 1, 1) := by decide +kernel
theorem dX12_of_47 : decode cX12_of 47 = .ok (.iload 6, 2) := by decide +kernel
theorem dX12_of_49 : decode cX12_of 49 = .ok (.invokevirtual 233, 3) := by decide +kernel
theorem dX12_of_52 : decode cX12_of 52 = .ok (.lconst 0, 1) := by decide +kernel
theorem dX12_of_53 : decode cX12_of 53 = .ok (.lcmp, 1) := by decide +kernel
theorem dX12_of_54 : decode cX12_of 54 = .ok (.ifCond .eq 65, 3) := by decide +kernel
theorem dX12_of_57 : decode cX12_of 57 = .ok (.iinc 3 1, 3) := by decide +kernel
theorem dX12_of_60 : decode cX12_of 60 = .ok (.aload_n 0, 1) := by decide +kernel
theorem dX12_of_61 : decode cX12_of 61 = .ok (.getfield 75, 3) := by decide +kernel
theorem dX12_of_64 : decode cX12_of 64 = .ok (.iload 6, 2) := by decide +kernel
theorem dX12_of_66 : decode cX12_of 66 = .ok (.iaload, 1) := by decide +kernel
theorem dX12_of_67 : decode cX12_of 67 = .ok (.iload 4, 2) := by decide +kernel
theorem dX12_of_69 : decode cX12_of 69 = .ok (.if_icmp .le 13, 3) := by decide +kernel
theorem dX12_of_72 : decode cX12_of 72 = .ok (.aload_n 0, 1) := by decide +kernel
theorem dX12_of_73 : decode cX12_of 73 = .ok (.getfield 75, 3) := by decide +kernel
theorem dX12_of_76 : decode cX12_of 76 = .ok (.iload 6, 2) := by decide +kernel
theorem dX12_of_78 : decode cX12_of 78 = .ok (.iaload, 1) := by decide +kernel
theorem dX12_of_79 : decode cX12_of 79 = .ok (.goto 5, 3) := by decide +kernel
theorem dX12_of_82 : decode cX12_of 82 = .ok (.iload 4, 2) := by decide +kernel
theorem dX12_of_84 : decode cX12_of 84 = .ok (.istore 4, 2) := by decide +kernel
theorem dX12_of_86 : decode cX12_of 86 = .ok (.iload 5, 2) := by decide +kernel
theorem dX12_of_88 : decode cX12_of 88 = .ok (.bipush (-2), 2) := by decide +kernel
theorem dX12_of_90 : decode cX12_of 90 = .ok (.if_icmp .eq 15, 3) := by decide +kernel
theorem dX12_of_93 : decode cX12_of 93 = .ok (.aload_n 0, 1) := by decide +kernel
theorem dX12_of_94 : decode cX12_of 94 = .ok (.getfield 75, 3) := by decide +kernel
theorem dX12_of_97 : decode cX12_of 97 = .ok (.iload 6, 2) := by decide +kernel
theorem dX12_of_99 : decode cX12_of 99 = .ok (.iaload, 1) := by decide +kernel
theorem dX12_of_100 : decode cX12_of 100 = .ok (.iload 5, 2) := by decide +kernel
theorem dX12_of_102 : decode cX12_of 102 = .ok (.if_icmp .ge 13, 3) := by decide +kernel
theorem dX12_of_105 : decode cX12_of 105 = .ok (.aload_n 0, 1) := by decide +kernel
theorem dX12_of_106 : decode cX12_of 106 = .ok (.getfield 75, 3) := by decide +kernel
theorem dX12_of_109 : decode cX12_of 109 = .ok (.iload 6, 2) := by decide +kernel
theorem dX12_of_111 : decode cX12_of 111 = .ok (.iaload, 1) := by decide +kernel
theorem dX12_of_112 : decode cX12_of 112 = .ok (.goto 5, 3) := by decide +kernel
theorem dX12_of_115 : decode cX12_of 115 = .ok (.iload 5, 2) := by decide +kernel
theorem dX12_of_117 : decode cX12_of 117 = .ok (.istore 5, 2) := by decide +kernel
theorem dX12_of_119 : decode cX12_of 119 = .ok (.iinc 6 1, 3) := by decide +kernel
theorem dX12_of_122 : decode cX12_of 122 = .ok (.goto (-86), 3) := by decide +kernel
theorem dX12_of_125 : decode cX12_of 125 = .ok (.iload_n 2, 1) := by decide +kernel
theorem dX12_of_126 : decode cX12_of 126 = .ok (.ifCond .ne 12, 3) := by decide +kernel
theorem dX12_of_129 : decode cX12_of 129 = .ok (.aload_n 0, 1) := by decide +kernel
theorem dX12_of_130 : decode cX12_of 130 = .ok (.getfield 105, 3) := by decide +kernel
theorem dX12_of_133 : decode cX12_of 133 = .ok (.iload_n 1, 1) := by decide +kernel
theorem dX12_of_134 : decode cX12_of 134 = .ok (.iaload, 1) := by decide +kernel
theorem dX12_of_135 : decode cX12_of 135 = .ok (.goto 38, 3) := by decide +kernel
theorem dX12_of_138 : decode cX12_of 138 = .ok (.iload_n 2, 1) := by decide +kernel
theorem dX12_of_139 : decode cX12_of 139 = .ok (.iconst 1, 1) := by decide +kernel
theorem dX12_of_140 : decode cX12_of 140 = .ok (.if_icmp .ne 12, 3) := by decide +kernel
theorem dX12_of_143 : decode cX12_of 143 = .ok (.aload_n 0, 1) := by decide +kernel
theorem dX12_of_144 : decode cX12_of 144 = .ok (.getfield 108, 3) := by decide +kernel
theorem dX12_of_147 : decode cX12_of 147 = .ok (.iload_n 1, 1) := by decide +kernel
theorem dX12_of_148 : decode cX12_of 148 = .ok (.iaload, 1) := by decide +kernel
theorem dX12_of_149 : decode cX12_of 149 = .ok (.goto 24, 3) := by decide +kernel
theorem dX12_of_152 : decode cX12_of 152 = .ok (.iload_n 2, 1) := by decide +kernel
theorem dX12_of_153 : decode cX12_of 153 = .ok (.iconst 2, 1) := by decide +kernel
theorem dX12_of_154 : decode cX12_of 154 = .ok (.if_icmp .ne 7, 3) := by decide +kernel
theorem dX12_of_157 : decode cX12_of 157 = .ok (.iload_n 3, 1) := by decide +kernel
theorem dX12_of_158 : decode cX12_of 158 = .ok (.goto 15, 3) := by decide +kernel
theorem dX12_of_161 : decode cX12_of 161 = .ok (.iload_n 2, 1) := by decide +kernel
theorem dX12_of_162 : decode cX12_of 162 = .ok (.iconst 3, 1) := by decide +kernel
theorem dX12_of_163 : decode cX12_of 163 = .ok (.if_icmp .ne 8, 3) := by decide +kernel
theorem dX12_of_166 : decode cX12_of 166 = .ok (.iload 4, 2) := by decide +kernel
theorem dX12_of_168 : decode cX12_of 168 = .ok (.goto 5, 3) := by decide +kernel
theorem dX12_of_171 : decode cX12_of 171 = .ok (.iload 5, 2) := by decide +kernel
theorem dX12_of_173 : decode cX12_of 173 = .ok (.ireturn, 1) := by decide +kernel
set_option maxHeartbeats 4000000 in
set_option maxRecDepth 100000 in
theorem cn_X12_of {l : Launch} {cA : Nat → ClassId} {ad : Nat → Nat} {D : va_G} {E : Nat → Nat} {A : Nat → Prop} {x1 : Int32} {x2 : Int32} {s0 sr : SS} {rr : Int32} (hf : f_X12_of x1 x2 s0 = some (rr, sr)) : zCon Om Nm cA ad D E l yX12_of cX12_of 7 (some .int) 4 A [.ref (ad 0), .int x1, .int x2] s0 (some (.int rr)) sr := by
  refine zstart (own := RX12) hOm (by decide) rfl (Nat.le_of_ble_eq_true rfl) ?_
  intro p e s m args below meth c X hP ls hl
  have hx := X.1
  have hb := X.2.1
  have hl : lv_has ls 7 [(0, .ref (ad 0)), (1, .int x1), (2, .int x2)] := hl
  have hS : va_S A s.heap s.heap [] := va_S.rf
  have hc_36 : ∀ (n36 : Nat) (x1 : Int32) (x2 : Int32) (x3 : Int32) (x4 : Int32) (x5 : Int32) (x6 : Int32) (s1 : SS) (H : Heap) (locs : List Loc) (ls : Array Slot), lv_has ls 7 [(0, .ref (ad 0)), (1, .int x1), (2, .int x2), (3, .int x3), (4, .int x4), (5, .int x5), (6, .int x6)] → va_P D ZCL (zw Om Nm cA ad s1) H → va_S A s.heap H locs → f_X12_of_c36 n36 x1 x2 x3 x4 x5 x6 s1 = some (rr, sr) → W p l e (zrm 4) s m args below meth c H locs 0 0 (MQ below (zQc Om Nm cA ad D A (some (.int rr)) sr) args s 0 0 A) (F0 m 36 ls []) := by
    intro n36
    induction n36 with
    | zero =>
      intro x1 x2 x3 x4 x5 x6 s1 H locs ls hl hP hS hf
      rw [f_X12_of_c36] at hf
      cases hf
    | succ n36 ih36 =>
      have hc_119 : ∀ (x1 : Int32) (x2 : Int32) (x3 : Int32) (x4 : Int32) (x5 : Int32) (x6 : Int32) (s1 : SS) (H : Heap) (locs : List Loc) (ls : Array Slot), lv_has ls 7 [(0, .ref (ad 0)), (1, .int x1), (2, .int x2), (3, .int x3), (4, .int x4), (5, .int x5), (6, .int x6)] → va_P D ZCL (zw Om Nm cA ad s1) H → va_S A s.heap H locs → f_X12_of_c119 (f_X12_of_c36 n36) x1 x2 x3 x4 x5 x6 s1 = some (rr, sr) → W p l e (zrm 4) s m args below meth c H locs 0 0 (MQ below (zQc Om Nm cA ad D A (some (.int rr)) sr) args s 0 0 A) (F0 m 119 ls []) := by
        intro x1 x2 x3 x4 x5 x6 s1 H locs ls hl hP hS hf
        rw [f_X12_of_c119] at hf
        refine lv_iinc (v := (x6 + 1)) (lv' := [(6, .int (x6 + 1)), (0, .ref (ad 0)), (1, .int x1), (2, .int x2), (3, .int x3), (4, .int x4), (5, .int x5)]) hx hb dX12_of_119 hl (k := 6) rfl rfl (by decide) rfl (fun ls hl => ?_)
        refine lv_goto (tgt := 36) hx hb dX12_of_122 (by decide) ?_
        exact ih36 x1 x2 x3 x4 x5 (x6 + 1) s1 _ _ _ (lv_sub hl [1, 2, 3, 4, 5, 6, 0] rfl) hP hS hf
      have hc_117 : ∀ (x1 : Int32) (x2 : Int32) (x3 : Int32) (x4 : Int32) (x6 : Int32) (t0 : Int32) (s1 : SS) (H : Heap) (locs : List Loc) (ls : Array Slot), lv_has ls 7 [(0, .ref (ad 0)), (1, .int x1), (2, .int x2), (3, .int x3), (4, .int x4), (6, .int x6)] → va_P D ZCL (zw Om Nm cA ad s1) H → va_S A s.heap H locs → f_X12_of_c117 (f_X12_of_c36 n36) x1 x2 x3 x4 x6 t0 s1 = some (rr, sr) → W p l e (zrm 4) s m args below meth c H locs 0 0 (MQ below (zQc Om Nm cA ad D A (some (.int rr)) sr) args s 0 0 A) (F0 m 117 ls [.int t0]) := by
        intro x1 x2 x3 x4 x6 t0 s1 H locs ls hl hP hS hf
        rw [f_X12_of_c117] at hf
        refine lv_istore (lv' := [(5, .int t0), (0, .ref (ad 0)), (1, .int x1), (2, .int x2), (3, .int x3), (4, .int x4), (6, .int x6)]) hx hb dX12_of_117 hl (by decide) rfl (fun ls hl => ?_)
        exact hc_119 x1 x2 x3 x4 t0 x6 s1 _ _ _ (lv_sub hl [1, 2, 3, 4, 5, 0, 6] rfl) hP hS hf
      have hc_105 : ∀ (x1 : Int32) (x2 : Int32) (x3 : Int32) (x4 : Int32) (x6 : Int32) (s1 : SS) (H : Heap) (locs : List Loc) (ls : Array Slot), lv_has ls 7 [(0, .ref (ad 0)), (1, .int x1), (2, .int x2), (3, .int x3), (4, .int x4), (6, .int x6)] → va_P D ZCL (zw Om Nm cA ad s1) H → va_S A s.heap H locs → f_X12_of_c105 (f_X12_of_c36 n36) x1 x2 x3 x4 x6 s1 = some (rr, sr) → W p l e (zrm 4) s m args below meth c H locs 0 0 (MQ below (zQc Om Nm cA ad D A (some (.int rr)) sr) args s 0 0 A) (F0 m 105 ls []) := by
        intro x1 x2 x3 x4 x6 s1 H locs ls hl hP hS hf
        rw [f_X12_of_c105] at hf
        refine lv_aload_n hx hb dX12_of_105 rfl (lv_at hl 0 rfl) ?_
        refine gf_X12_75 X hP (k := 0) (q := 5) rfl dX12_of_106 rfl ?_
        refine lv_iload hx hb dX12_of_109 (lv_at hl 5 rfl) ?_
        obtain ⟨g13, hf⟩ := zgd hf
        refine zald_i X hP (k := 5) (n := 462) (rs := []) rfl g13 dX12_of_111 ?_
        refine lv_goto (tgt := 117) hx hb dX12_of_112 (by decide) ?_
        exact hc_117 x1 x2 x3 x4 x6 (s1.1 5 (x6).toNatClampNeg) s1 _ _ _ (lv_sub hl [0, 1, 2, 3, 4, 5] rfl) hP hS hf
      have hc_84 : ∀ (x1 : Int32) (x2 : Int32) (x3 : Int32) (x5 : Int32) (x6 : Int32) (t0 : Int32) (s1 : SS) (H : Heap) (locs : List Loc) (ls : Array Slot), lv_has ls 7 [(0, .ref (ad 0)), (1, .int x1), (2, .int x2), (3, .int x3), (5, .int x5), (6, .int x6)] → va_P D ZCL (zw Om Nm cA ad s1) H → va_S A s.heap H locs → f_X12_of_c84 (f_X12_of_c36 n36) x1 x2 x3 x5 x6 t0 s1 = some (rr, sr) → W p l e (zrm 4) s m args below meth c H locs 0 0 (MQ below (zQc Om Nm cA ad D A (some (.int rr)) sr) args s 0 0 A) (F0 m 84 ls [.int t0]) := by
        intro x1 x2 x3 x5 x6 t0 s1 H locs ls hl hP hS hf
        rw [f_X12_of_c84] at hf
        refine lv_istore (lv' := [(4, .int t0), (0, .ref (ad 0)), (1, .int x1), (2, .int x2), (3, .int x3), (5, .int x5), (6, .int x6)]) hx hb dX12_of_84 hl (by decide) rfl (fun ls hl => ?_)
        refine lv_iload hx hb dX12_of_86 (lv_at hl 5 rfl) ?_
        refine lv_bipush (v := (-2)) hx hb dX12_of_88 (by decide) ?_
        refine zicmp_eq (tgt := 105) hx hb dX12_of_90 (by decide) hf (fun hf => ?_) (fun hf => ?_)
        · exact hc_105 x1 x2 x3 t0 x6 s1 _ _ _ (lv_sub hl [1, 2, 3, 4, 0, 6] rfl) hP hS hf
        · refine lv_aload_n hx hb dX12_of_93 rfl (lv_at hl 1 rfl) ?_
          refine gf_X12_75 X hP (k := 0) (q := 5) rfl dX12_of_94 rfl ?_
          refine lv_iload hx hb dX12_of_97 (lv_at hl 6 rfl) ?_
          obtain ⟨g14, hf⟩ := zgd hf
          refine zald_i X hP (k := 5) (n := 462) (rs := []) rfl g14 dX12_of_99 ?_
          refine lv_iload hx hb dX12_of_100 (lv_at hl 5 rfl) ?_
          refine zicmp_ge (tgt := 115) hx hb dX12_of_102 (by decide) hf (fun hf => ?_) (fun hf => ?_)
          · refine lv_iload hx hb dX12_of_115 (lv_at hl 5 rfl) ?_
            exact hc_117 x1 x2 x3 t0 x6 x5 s1 _ _ _ (lv_sub hl [1, 2, 3, 4, 0, 6] rfl) hP hS hf
          · exact hc_105 x1 x2 x3 t0 x6 s1 _ _ _ (lv_sub hl [1, 2, 3, 4, 0, 6] rfl) hP hS hf
      intro x1 x2 x3 x4 x5 x6 s1 H locs ls hl hP hS hf
      rw [f_X12_of_c36] at hf
      refine lv_iload hx hb dX12_of_36 (lv_at hl 6 rfl) ?_
      refine lv_aload_n hx hb dX12_of_38 rfl (lv_at hl 0 rfl) ?_
      refine gf_X12_56 X hP (k := 0) rfl dX12_of_39 ?_
      refine zicmp_ge (tgt := 125) hx hb dX12_of_42 (by decide) hf (fun hf => ?_) (fun hf => ?_)
      · refine lv_iload_n hx hb dX12_of_125 rfl (lv_at hl 2 rfl) ?_
        refine zif_ne (tgt := 138) hx hb dX12_of_126 (by decide) hf (fun hf => ?_) (fun hf => ?_)
        · refine lv_iload_n hx hb dX12_of_138 rfl (lv_at hl 2 rfl) ?_
          refine lv_iconst (v := 1) hx hb dX12_of_139 (by decide) ?_
          refine zicmp_ne (tgt := 152) hx hb dX12_of_140 (by decide) hf (fun hf => ?_) (fun hf => ?_)
          · refine lv_iload_n hx hb dX12_of_152 rfl (lv_at hl 2 rfl) ?_
            refine lv_iconst (v := 2) hx hb dX12_of_153 (by decide) ?_
            refine zicmp_ne (tgt := 161) hx hb dX12_of_154 (by decide) hf (fun hf => ?_) (fun hf => ?_)
            · refine lv_iload_n hx hb dX12_of_161 rfl (lv_at hl 2 rfl) ?_
              refine lv_iconst (v := 3) hx hb dX12_of_162 (by decide) ?_
              refine zicmp_ne (tgt := 171) hx hb dX12_of_163 (by decide) hf (fun hf => ?_) (fun hf => ?_)
              · refine lv_iload hx hb dX12_of_171 (lv_at hl 5 rfl) ?_
                exact zret_i X hP hS hf rfl dX12_of_173
              · refine lv_iload hx hb dX12_of_166 (lv_at hl 4 rfl) ?_
                refine lv_goto (tgt := 173) hx hb dX12_of_168 (by decide) ?_
                exact zret_i X hP hS hf rfl dX12_of_173
            · refine lv_iload_n hx hb dX12_of_157 rfl (lv_at hl 3 rfl) ?_
              refine lv_goto (tgt := 173) hx hb dX12_of_158 (by decide) ?_
              exact zret_i X hP hS hf rfl dX12_of_173
          · refine lv_aload_n hx hb dX12_of_143 rfl (lv_at hl 0 rfl) ?_
            refine gf_X12_108 X hP (k := 0) (q := 9) rfl dX12_of_144 rfl ?_
            refine lv_iload_n hx hb dX12_of_147 rfl (lv_at hl 1 rfl) ?_
            obtain ⟨g7, hf⟩ := zgd hf
            refine zald_i X hP (k := 9) (n := 8) (rs := []) rfl g7 dX12_of_148 ?_
            refine lv_goto (tgt := 173) hx hb dX12_of_149 (by decide) ?_
            exact zret_i X hP hS hf rfl dX12_of_173
        · refine lv_aload_n hx hb dX12_of_129 rfl (lv_at hl 0 rfl) ?_
          refine gf_X12_105 X hP (k := 0) (q := 8) rfl dX12_of_130 rfl ?_
          refine lv_iload_n hx hb dX12_of_133 rfl (lv_at hl 1 rfl) ?_
          obtain ⟨g8, hf⟩ := zgd hf
          refine zald_i X hP (k := 8) (n := 8) (rs := []) rfl g8 dX12_of_134 ?_
          refine lv_goto (tgt := 173) hx hb dX12_of_135 (by decide) ?_
          exact zret_i X hP hS hf rfl dX12_of_173
      · refine lv_aload_n hx hb dX12_of_45 rfl (lv_at hl 0 rfl) ?_
        refine lv_iload_n hx hb dX12_of_46 rfl (lv_at hl 1 rfl) ?_
        refine lv_iload hx hb dX12_of_47 (lv_at hl 6 rfl) ?_
        obtain ⟨r9, s10, h11, hf⟩ := zbd_some hf
        refine zcallV X hP hS hl.1 (k := 0) (As := [.int x1, .int x6]) (rest := []) (cn_X12_numberAt h11) cw_X12_numberAt zp_12 rfl (by decide) rfl ml_X12_233 (by decide) rfl rfl (Nat.le_of_ble_eq_true rfl) dX12_of_49 (fun H locs hP hS => ?_)
        refine lv_lconst (v := 0) hx hb dX12_of_52 (by decide) ?_
        refine W.lcmp hx hb dX12_of_53 ?_
        refine zif_eq (tgt := 119) hx hb dX12_of_54 (by decide) hf (fun hf => ?_) (fun hf => ?_)
        · exact hc_119 x1 x2 x3 x4 x5 x6 s10 _ _ _ (lv_sub hl [0, 1, 2, 3, 4, 5, 6] rfl) hP hS hf
        · refine lv_iinc (v := (x3 + 1)) (lv' := [(3, .int (x3 + 1)), (0, .ref (ad 0)), (1, .int x1), (2, .int x2), (4, .int x4), (5, .int x5), (6, .int x6)]) hx hb dX12_of_57 hl (k := 3) rfl rfl (by decide) rfl (fun ls hl => ?_)
          refine lv_aload_n hx hb dX12_of_60 rfl (lv_at hl 1 rfl) ?_
          refine gf_X12_75 X hP (k := 0) (q := 5) rfl dX12_of_61 rfl ?_
          refine lv_iload hx hb dX12_of_64 (lv_at hl 6 rfl) ?_
          obtain ⟨g12, hf⟩ := zgd hf
          refine zald_i X hP (k := 5) (n := 462) (rs := []) rfl g12 dX12_of_66 ?_
          refine lv_iload hx hb dX12_of_67 (lv_at hl 4 rfl) ?_
          refine zicmp_le (tgt := 82) hx hb dX12_of_69 (by decide) hf (fun hf => ?_) (fun hf => ?_)
          · refine lv_iload hx hb dX12_of_82 (lv_at hl 4 rfl) ?_
            exact hc_84 x1 x2 (x3 + 1) x5 x6 x4 s10 _ _ _ (lv_sub hl [1, 2, 3, 0, 5, 6] rfl) hP hS hf
          · refine lv_aload_n hx hb dX12_of_72 rfl (lv_at hl 1 rfl) ?_
            refine gf_X12_75 X hP (k := 0) (q := 5) rfl dX12_of_73 rfl ?_
            refine lv_iload hx hb dX12_of_76 (lv_at hl 6 rfl) ?_
            obtain ⟨g15, hf⟩ := zgd hf
            refine zald_i X hP (k := 5) (n := 462) (rs := []) rfl g15 dX12_of_78 ?_
            refine lv_goto (tgt := 84) hx hb dX12_of_79 (by decide) ?_
            exact hc_84 x1 x2 (x3 + 1) x5 x6 (s10.1 5 (x6).toNatClampNeg) s10 _ _ _ (lv_sub hl [1, 2, 3, 0, 5, 6] rfl) hP hS hf
  rw [f_X12_of] at hf
  refine lv_aload_n hx hb dX12_of_0 rfl (lv_at hl 0 rfl) ?_
  refine lv_iload_n hx hb dX12_of_1 rfl (lv_at hl 1 rfl) ?_
  refine lv_i2l hx hb dX12_of_2 rfl ?_
  obtain ⟨r1, s2, h3, hf⟩ := zbd_some hf
  refine zcallV X hP hS hl.1 (k := 0) (As := [.long (x1).toInt64]) (rest := []) (cn_X12_isClass h3) cw_X12_isClass zp_12 rfl (by decide) rfl ml_X12_245 (by decide) rfl rfl (Nat.le_of_ble_eq_true rfl) dX12_of_3 (fun H locs hP hS => ?_)
  refine zif_eq (tgt := 21) hx hb dX12_of_6 (by decide) hf (fun hf => ?_) (fun hf => ?_)
  · refine lv_iconst (v := (-1)) hx hb dX12_of_21 (by decide) ?_
    exact zret_i X hP hS hf rfl dX12_of_22
  · refine lv_iload_n hx hb dX12_of_9 rfl (lv_at hl 2 rfl) ?_
    refine lv_i2l hx hb dX12_of_10 rfl ?_
    refine lv_lconst (v := 0) hx hb dX12_of_11 (by decide) ?_
    refine zldc2 X co_X12_40 dX12_of_12 ?_
    obtain ⟨r4, s5, h6, hf⟩ := zbd_some hf
    refine zcallS X hP hS hl.1 (As := [.long (x2).toInt64, .long 0, .long 4]) (rest := []) (cn_X12_in h6) cw_X12_in ml_X12_203 (by decide) rfl rfl (Nat.le_of_ble_eq_true rfl) dX12_of_15 (fun H locs hP hS => ?_)
    refine zif_ne (tgt := 23) hx hb dX12_of_18 (by decide) hf (fun hf => ?_) (fun hf => ?_)
    · refine lv_iconst (v := 0) hx hb dX12_of_23 (by decide) ?_
      refine lv_istore_n (lv' := [(3, .int 0), (0, .ref (ad 0)), (1, .int x1), (2, .int x2)]) hx hb dX12_of_24 rfl hl (by decide) rfl (fun ls hl => ?_)
      refine lv_bipush (v := (-2)) hx hb dX12_of_25 (by decide) ?_
      refine lv_istore (lv' := [(4, .int (-2)), (3, .int 0), (0, .ref (ad 0)), (1, .int x1), (2, .int x2)]) hx hb dX12_of_27 hl (by decide) rfl (fun ls hl => ?_)
      refine lv_bipush (v := (-2)) hx hb dX12_of_29 (by decide) ?_
      refine lv_istore (lv' := [(5, .int (-2)), (4, .int (-2)), (3, .int 0), (0, .ref (ad 0)), (1, .int x1), (2, .int x2)]) hx hb dX12_of_31 hl (by decide) rfl (fun ls hl => ?_)
      refine lv_iconst (v := 0) hx hb dX12_of_33 (by decide) ?_
      refine lv_istore (lv' := [(6, .int 0), (5, .int (-2)), (4, .int (-2)), (3, .int 0), (0, .ref (ad 0)), (1, .int x1), (2, .int x2)]) hx hb dX12_of_34 hl (by decide) rfl (fun ls hl => ?_)
      exact hc_36 ZF x1 x2 0 (-2) (-2) 0 s5 _ _ _ (lv_sub hl [4, 5, 6, 3, 2, 1, 0] rfl) hP hS hf
    · refine lv_iconst (v := (-1)) hx hb dX12_of_21 (by decide) ?_
      exact zret_i X hP hS hf rfl dX12_of_22
theorem dX12_number_0 : decode cX12_number 0 = .ok (.aload_n 0, 1) := by decide +kernel
theorem dX12_number_1 : decode cX12_number 1 = .ok (.iload_n 1, 1) := by decide +kernel
theorem dX12_number_2 : decode cX12_number 2 = .ok (.i2l, 1) := by decide +kernel
theorem dX12_number_3 : decode cX12_number 3 = .ok (.invokevirtual 245, 3) := by decide +kernel
theorem dX12_number_6 : decode cX12_number 6 = .ok (.ifCond .eq 11, 3) := by decide +kernel
theorem dX12_number_9 : decode cX12_number 9 = .ok (.aload_n 0, 1) := by decide +kernel
theorem dX12_number_10 : decode cX12_number 10 = .ok (.iload_n 2, 1) := by decide +kernel
theorem dX12_number_11 : decode cX12_number 11 = .ok (.invokevirtual 217, 3) := by decide +kernel
theorem dX12_number_14 : decode cX12_number 14 = .ok (.ifCond .ge 9, 3) := by decide +kernel
theorem dX12_number_17 : decode cX12_number 17 = .ok (.ldc2_w 220, 3) := by decide +kernel
theorem dX12_number_20 : decode cX12_number 20 = .ok (.goto 13, 3) := by decide +kernel
theorem dX12_number_23 : decode cX12_number 23 = .ok (.aload_n 0, 1) := by decide +kernel
theorem dX12_number_24 : decode cX12_number 24 = .ok (.iload_n 1, 1) := by decide +kernel
theorem dX12_number_25 : decode cX12_number 25 = .ok (.aload_n 0, 1) := by decide +kernel
theorem dX12_number_26 : decode cX12_number 26 = .ok (.iload_n 2, 1) := by decide +kernel
theorem dX12_number_27 : decode cX12_number 27 = .ok (.invokevirtual 217, 3) := by decide +kernel
theorem dX12_number_30 : decode cX12_number 30 = .ok (.invokevirtual 233, 3) := by decide +kernel
theorem dX12_number_33 : decode cX12_number 33 = .ok (.lreturn, 1) := by decide +kernel
set_option maxHeartbeats 4000000 in
set_option maxRecDepth 100000 in
theorem cn_X12_number {l : Launch} {cA : Nat → ClassId} {ad : Nat → Nat} {D : va_G} {E : Nat → Nat} {A : Nat → Prop} {x1 : Int32} {x2 : Int32} {s0 sr : SS} {rr : Int64} (hf : f_X12_number x1 x2 s0 = some (rr, sr)) : zCon Om Nm cA ad D E l yX12_number cX12_number 3 (some .long) 4 A [.ref (ad 0), .int x1, .int x2] s0 (some (.long rr)) sr := by
  refine zstart (own := RX12) hOm (by decide) rfl (Nat.le_of_ble_eq_true rfl) ?_
  intro p e s m args below meth c X hP ls hl
  have hx := X.1
  have hb := X.2.1
  have hl : lv_has ls 3 [(0, .ref (ad 0)), (1, .int x1), (2, .int x2)] := hl
  have hS : va_S A s.heap s.heap [] := va_S.rf
  rw [f_X12_number] at hf
  refine lv_aload_n hx hb dX12_number_0 rfl (lv_at hl 0 rfl) ?_
  refine lv_iload_n hx hb dX12_number_1 rfl (lv_at hl 1 rfl) ?_
  refine lv_i2l hx hb dX12_number_2 rfl ?_
  obtain ⟨r1, s2, h3, hf⟩ := zbd_some hf
  refine zcallV X hP hS hl.1 (k := 0) (As := [.long (x1).toInt64]) (rest := []) (cn_X12_isClass h3) cw_X12_isClass zp_12 rfl (by decide) rfl ml_X12_245 (by decide) rfl rfl (Nat.le_of_ble_eq_true rfl) dX12_number_3 (fun H locs hP hS => ?_)
  refine zif_eq (tgt := 17) hx hb dX12_number_6 (by decide) hf (fun hf => ?_) (fun hf => ?_)
  · refine zldc2 X co_X12_220 dX12_number_17 ?_
    refine lv_goto (tgt := 33) hx hb dX12_number_20 (by decide) ?_
    exact zret_l X hP hS hf dX12_number_33
  · refine lv_aload_n hx hb dX12_number_9 rfl (lv_at hl 0 rfl) ?_
    refine lv_iload_n hx hb dX12_number_10 rfl (lv_at hl 2 rfl) ?_
    obtain ⟨r4, s5, h6, hf⟩ := zbd_some hf
    refine zcallV X hP hS hl.1 (k := 0) (As := [.int x2]) (rest := []) (cn_X12_termOf h6) cw_X12_termOf zp_12 rfl (by decide) rfl ml_X12_217 (by decide) rfl rfl (Nat.le_of_ble_eq_true rfl) dX12_number_11 (fun H locs hP hS => ?_)
    refine zif_ge (tgt := 23) hx hb dX12_number_14 (by decide) hf (fun hf => ?_) (fun hf => ?_)
    · refine lv_aload_n hx hb dX12_number_23 rfl (lv_at hl 0 rfl) ?_
      refine lv_iload_n hx hb dX12_number_24 rfl (lv_at hl 1 rfl) ?_
      refine lv_aload_n hx hb dX12_number_25 rfl (lv_at hl 0 rfl) ?_
      refine lv_iload_n hx hb dX12_number_26 rfl (lv_at hl 2 rfl) ?_
      obtain ⟨r7, s8, h9, hf⟩ := zbd_some hf
      refine zcallV X hP hS hl.1 (k := 0) (As := [.int x2]) (rest := [.int x1, .ref (ad 0)]) (cn_X12_termOf h9) cw_X12_termOf zp_12 rfl (by decide) rfl ml_X12_217 (by decide) rfl rfl (Nat.le_of_ble_eq_true rfl) dX12_number_27 (fun H locs hP hS => ?_)
      obtain ⟨r10, s11, h12, hf⟩ := zbd_some hf
      refine zcallV X hP hS hl.1 (k := 0) (As := [.int x1, .int r7]) (rest := []) (cn_X12_numberAt h12) cw_X12_numberAt zp_12 rfl (by decide) rfl ml_X12_233 (by decide) rfl rfl (Nat.le_of_ble_eq_true rfl) dX12_number_30 (fun H locs hP hS => ?_)
      exact zret_l X hP hS hf dX12_number_33
    · refine zldc2 X co_X12_220 dX12_number_17 ?_
      refine lv_goto (tgt := 33) hx hb dX12_number_20 (by decide) ?_
      exact zret_l X hP hS hf dX12_number_33
theorem dX12_drop_0 : decode cX12_drop 0 = .ok (.aload_n 0, 1) := by decide +kernel
theorem dX12_drop_1 : decode cX12_drop 1 = .ok (.getfield 89, 3) := by decide +kernel
theorem dX12_drop_4 : decode cX12_drop 4 = .ok (.ifCond .ne 6, 3) := by decide +kernel
theorem dX12_drop_7 : decode cX12_drop 7 = .ok (.bipush (-5), 2) := by decide +kernel
theorem dX12_drop_9 : decode cX12_drop 9 = .ok (.ireturn, 1) := by decide +kernel
theorem dX12_drop_10 : decode cX12_drop 10 = .ok (.aload_n 0, 1) := by decide +kernel
theorem dX12_drop_11 : decode cX12_drop 11 = .ok (.dup, 1) := by decide +kernel
theorem dX12_drop_12 : decode cX12_drop 12 = .ok (.getfield 89, 3) := by decide +kernel
theorem dX12_drop_15 : decode cX12_drop 15 = .ok (.iconst 1, 1) := by decide +kernel
theorem dX12_drop_16 : decode cX12_drop 16 = .ok (.isub, 1) := by decide +kernel
theorem dX12_drop_17 : decode cX12_drop 17 = .ok (.putfield 89, 3) := by decide +kernel
theorem dX12_drop_20 : decode cX12_drop 20 = .ok (.aload_n 0, 1) := by decide +kernel
theorem dX12_drop_21 : decode cX12_drop 21 = .ok (.invokevirtual 198, 3) := by decide +kernel
theorem dX12_drop_24 : decode cX12_drop 24 = .ok (.aload_n 0, 1) := by decide +kernel
theorem dX12_drop_25 : decode cX12_drop 25 = .ok (.getfield 89, 3) := by decide +kernel
theorem dX12_drop_28 : decode cX12_drop 28 = .ok (.ireturn, 1) := by decide +kernel
set_option maxHeartbeats 4000000 in
set_option maxRecDepth 100000 in
theorem cn_X12_drop {l : Launch} {cA : Nat → ClassId} {ad : Nat → Nat} {D : va_G} {E : Nat → Nat} {A : Nat → Prop}  {s0 sr : SS} {rr : Int32} (hf : f_X12_drop s0 = some (rr, sr)) : zCon Om Nm cA ad D E l yX12_drop cX12_drop 1 (some .int) 1 A [.ref (ad 0)] s0 (some (.int rr)) sr := by
  refine zstart (own := RX12) hOm (by decide) rfl (Nat.le_of_ble_eq_true rfl) ?_
  intro p e s m args below meth c X hP ls hl
  have hx := X.1
  have hb := X.2.1
  have hl : lv_has ls 1 [(0, .ref (ad 0))] := hl
  have hS : va_S A s.heap s.heap [] := va_S.rf
  rw [f_X12_drop] at hf
  refine lv_aload_n hx hb dX12_drop_0 rfl (lv_at hl 0 rfl) ?_
  refine gf_X12_89 X hP (k := 0) rfl dX12_drop_1 ?_
  refine zif_ne (tgt := 10) hx hb dX12_drop_4 (by decide) hf (fun hf => ?_) (fun hf => ?_)
  · refine lv_aload_n hx hb dX12_drop_10 rfl (lv_at hl 0 rfl) ?_
    refine lv_dup hx hb dX12_drop_11 rfl ?_
    refine gf_X12_89 X hP (k := 0) rfl dX12_drop_12 ?_
    refine lv_iconst (v := 1) hx hb dX12_drop_15 (by decide) ?_
    refine lv_isub hx hb dX12_drop_16 ?_
    refine pf_X12_89 X hP hS (k := 0) rfl dX12_drop_17 (fun H locs hP hS => ?_)
    refine lv_aload_n hx hb dX12_drop_20 rfl (lv_at hl 0 rfl) ?_
    obtain ⟨r1, s2, h3, hf⟩ := zbd_some hf
    refine zcallV X hP hS hl.1 (k := 0) (As := []) (rest := []) (cn_X12_forget h3) cw_X12_forget zp_12 rfl (by decide) rfl ml_X12_198 (by decide) rfl rfl (Nat.le_of_ble_eq_true rfl) dX12_drop_21 (fun H locs hP hS => ?_)
    refine lv_aload_n hx hb dX12_drop_24 rfl (lv_at hl 0 rfl) ?_
    refine gf_X12_89 X hP (k := 0) rfl dX12_drop_25 ?_
    exact zret_i X hP hS hf rfl dX12_drop_28
  · refine lv_bipush (v := (-5)) hx hb dX12_drop_7 (by decide) ?_
    exact zret_i X hP hS hf rfl dX12_drop_9
theorem dX12_layCanonical_0 : decode cX12_layCanonical 0 = .ok (.aload_n 0, 1) := by decide +kernel
theorem dX12_layCanonical_1 : decode cX12_layCanonical 1 = .ok (.aload_n 1, 1) := by decide +kernel
theorem dX12_layCanonical_2 : decode cX12_layCanonical 2 = .ok (.invokevirtual 237, 3) := by decide +kernel
theorem dX12_layCanonical_5 : decode cX12_layCanonical 5 = .ok (.iconst 0, 1) := by decide +kernel
theorem dX12_layCanonical_6 : decode cX12_layCanonical 6 = .ok (.istore_n 2, 1) := by decide +kernel
theorem dX12_layCanonical_7 : decode cX12_layCanonical 7 = .ok (.iload_n 2, 1) := by decide +kernel
theorem dX12_layCanonical_8 : decode cX12_layCanonical 8 = .ok (.aload_n 0, 1) := by decide +kernel
theorem dX12_layCanonical_9 : decode cX12_layCanonical 9 = .ok (.invokevirtual 68, 3) := by decide +kernel
theorem dX12_layCanonical_12 : decode cX12_layCanonical 12 = .ok (.if_icmp .ge 101, 3) := by decide +kernel
theorem dX12_layCanonical_15 : decode cX12_layCanonical 15 = .ok (.aload_n 0, 1) := by decide +kernel
theorem dX12_layCanonical_16 : decode cX12_layCanonical 16 = .ok (.getfield 65, 3) := by decide +kernel
theorem dX12_layCanonical_19 : decode cX12_layCanonical 19 = .ok (.iload_n 2, 1) := by decide +kernel
theorem dX12_layCanonical_20 : decode cX12_layCanonical 20 = .ok (.invokestatic 15, 3) := by decide +kernel
theorem dX12_layCanonical_23 : decode cX12_layCanonical 23 = .ok (.iaload, 1) := by decide +kernel
theorem dX12_layCanonical_24 : decode cX12_layCanonical 24 = .ok (.istore_n 3, 1) := by decide +kernel
theorem dX12_layCanonical_25 : decode cX12_layCanonical 25 = .ok (.aload_n 0, 1) := by decide +kernel
theorem dX12_layCanonical_26 : decode cX12_layCanonical 26 = .ok (.getfield 3, 3) := by decide +kernel
theorem dX12_layCanonical_29 : decode cX12_layCanonical 29 = .ok (.ifCond .ne 37, 3) := by decide +kernel
theorem dX12_layCanonical_32 : decode cX12_layCanonical 32 = .ok (.aload_n 1, 1) := by decide +kernel
theorem dX12_layCanonical_33 : decode cX12_layCanonical 33 = .ok (.iload_n 3, 1) := by decide +kernel
theorem dX12_layCanonical_34 : decode cX12_layCanonical 34 = .ok (.iload_n 2, 1) := by decide +kernel
theorem dX12_layCanonical_35 : decode cX12_layCanonical 35 = .ok (.aload_n 0, 1) := by decide +kernel
theorem dX12_layCanonical_36 : decode cX12_layCanonical 36 = .ok (.getfield 9, 3) := by decide +kernel
theorem dX12_layCanonical_39 : decode cX12_layCanonical 39 = .ok (.if_icmp .ge 16, 3) := by decide +kernel
theorem dX12_layCanonical_42 : decode cX12_layCanonical 42 = .ok (.aload_n 0, 1) := by decide +kernel
theorem dX12_layCanonical_43 : decode cX12_layCanonical 43 = .ok (.getfield 23, 3) := by decide +kernel
theorem dX12_layCanonical_46 : decode cX12_layCanonical 46 = .ok (.iload_n 2, 1) := by decide +kernel
theorem dX12_layCanonical_47 : decode cX12_layCanonical 47 = .ok (.iaload, 1) := by decide +kernel
theorem dX12_layCanonical_48 : decode cX12_layCanonical 48 = .ok (.iconst 1, 1) := by decide +kernel
theorem dX12_layCanonical_49 : decode cX12_layCanonical 49 = .ok (.iadd, 1) := by decide +kernel
theorem dX12_layCanonical_50 : decode cX12_layCanonical 50 = .ok (.ineg, 1) := by decide +kernel
theorem dX12_layCanonical_51 : decode cX12_layCanonical 51 = .ok (.i2l, 1) := by decide +kernel
theorem dX12_layCanonical_52 : decode cX12_layCanonical 52 = .ok (.goto 10, 3) := by decide +kernel
theorem dX12_layCanonical_55 : decode cX12_layCanonical 55 = .ok (.aload_n 0, 1) := by decide +kernel
theorem dX12_layCanonical_56 : decode cX12_layCanonical 56 = .ok (.getfield 27, 3) := by decide +kernel
theorem dX12_layCanonical_59 : decode cX12_layCanonical 59 = .ok (.iconst 1, 1) := by decide +kernel
theorem dX12_layCanonical_60 : decode cX12_layCanonical 60 = .ok (.isub, 1) := by decide +kernel
theorem dX12_layCanonical_61 : decode cX12_layCanonical 61 = .ok (.i2l, 1) := by decide +kernel
theorem dX12_layCanonical_62 : decode cX12_layCanonical 62 = .ok (.lastore, 1) := by decide +kernel
theorem dX12_layCanonical_63 : decode cX12_layCanonical 63 = .ok (.goto 44, 3) := by decide +kernel
theorem dX12_layCanonical_66 : decode cX12_layCanonical 66 = .ok (.aload_n 0, 1) := by decide +kernel
theorem dX12_layCanonical_67 : decode cX12_layCanonical 67 = .ok (.getfield 3, 3) := by decide +kernel
theorem dX12_layCanonical_70 : decode cX12_layCanonical 70 = .ok (.iconst 1, 1) := by decide +kernel
theorem dX12_layCanonical_71 : decode cX12_layCanonical 71 = .ok (.if_icmp .ne 20, 3) := by decide +kernel
theorem dX12_layCanonical_74 : decode cX12_layCanonical 74 = .ok (.aload_n 1, 1) := by decide +kernel
theorem dX12_layCanonical_75 : decode cX12_layCanonical 75 = .ok (.iload_n 3, 1) := by decide +kernel
theorem dX12_layCanonical_76 : decode cX12_layCanonical 76 = .ok (.iload_n 2, 1) := by decide +kernel
theorem dX12_layCanonical_77 : decode cX12_layCanonical 77 = .ok (.ifCond .ne 9, 3) := by decide +kernel
theorem dX12_layCanonical_80 : decode cX12_layCanonical 80 = .ok (.ldc2_w 253, 3) := by decide +kernel
theorem dX12_layCanonical_83 : decode cX12_layCanonical 83 = .ok (.goto 4, 3) := by decide +kernel
theorem dX12_layCanonical_86 : decode cX12_layCanonical 86 = .ok (.lconst 1, 1) := by decide +kernel
theorem dX12_layCanonical_87 : decode cX12_layCanonical 87 = .ok (.lastore, 1) := by decide +kernel
theorem dX12_layCanonical_88 : decode cX12_layCanonical 88 = .ok (.goto 19, 3) := by decide +kernel
theorem dX12_layCanonical_91 : decode cX12_layCanonical 91 = .ok (.aload_n 1, 1) := by decide +kernel
theorem dX12_layCanonical_92 : decode cX12_layCanonical 92 = .ok (.iload_n 3, 1) := by decide +kernel
theorem dX12_layCanonical_93 : decode cX12_layCanonical 93 = .ok (.iload_n 2, 1) := by decide +kernel
theorem dX12_layCanonical_94 : decode cX12_layCanonical 94 = .ok (.ifCond .ne 9, 3) := by decide +kernel
theorem dX12_layCanonical_97 : decode cX12_layCanonical 97 = .ok (.ldc2_w 255, 3) := by decide +kernel
theorem dX12_layCanonical_100 : decode cX12_layCanonical 100 = .ok (.goto 6, 3) := by decide +kernel
theorem dX12_layCanonical_103 : decode cX12_layCanonical 103 = .ok (.ldc2_w 35, 3) := by decide +kernel
theorem dX12_layCanonical_106 : decode cX12_layCanonical 106 = .ok (.lastore, 1) := by decide +kernel
theorem dX12_layCanonical_107 : decode cX12_layCanonical 107 = .ok (.iinc 2 1, 3) := by decide +kernel
theorem dX12_layCanonical_110 : decode cX12_layCanonical 110 = .ok (.goto (-103), 3) := by decide +kernel
theorem dX12_layCanonical_113 : decode cX12_layCanonical 113 = .ok (.return_, 1) := by decide +kernel
set_option maxHeartbeats 4000000 in
set_option maxRecDepth 100000 in
theorem cn_X12_layCanonical {l : Launch} {cA : Nat → ClassId} {ad : Nat → Nat} {D : va_G} {E : Nat → Nat} {A : Nat → Prop} {k1 : Nat} {s0 sr : SS} {rr : Unit} (hf : f_X12_layCanonical k1 s0 = some (rr, sr)) : zCon Om Nm cA ad D E l yX12_layCanonical cX12_layCanonical 4 none 1 A [.ref (ad 0), .ref (ad k1)] s0 none sr := by
  refine zstart (own := RX12) hOm (by decide) rfl (Nat.le_of_ble_eq_true rfl) ?_
  intro p e s m args below meth c X hP ls hl
  have hx := X.1
  have hb := X.2.1
  have hl : lv_has ls 4 [(0, .ref (ad 0)), (1, .ref (ad k1))] := hl
  have hS : va_S A s.heap s.heap [] := va_S.rf
  have hc_7 : ∀ (n7 : Nat) (k1 : Nat) (x2 : Int32) (s1 : SS) (H : Heap) (locs : List Loc) (ls : Array Slot), lv_has ls 4 [(0, .ref (ad 0)), (1, .ref (ad k1)), (2, .int x2)] → va_P D ZCL (zw Om Nm cA ad s1) H → va_S A s.heap H locs → f_X12_layCanonical_c7 n7 k1 x2 s1 = some (rr, sr) → W p l e (zrm 1) s m args below meth c H locs 0 0 (MQ below (zQc Om Nm cA ad D A none sr) args s 0 0 A) (F0 m 7 ls []) := by
    intro n7
    induction n7 with
    | zero =>
      intro k1 x2 s1 H locs ls hl hP hS hf
      rw [f_X12_layCanonical_c7] at hf
      cases hf
    | succ n7 ih7 =>
      have hc_107 : ∀ (k1 : Nat) (x2 : Int32) (s1 : SS) (H : Heap) (locs : List Loc) (ls : Array Slot), lv_has ls 4 [(0, .ref (ad 0)), (1, .ref (ad k1)), (2, .int x2)] → va_P D ZCL (zw Om Nm cA ad s1) H → va_S A s.heap H locs → f_X12_layCanonical_c107 (f_X12_layCanonical_c7 n7) k1 x2 s1 = some (rr, sr) → W p l e (zrm 1) s m args below meth c H locs 0 0 (MQ below (zQc Om Nm cA ad D A none sr) args s 0 0 A) (F0 m 107 ls []) := by
        intro k1 x2 s1 H locs ls hl hP hS hf
        rw [f_X12_layCanonical_c107] at hf
        refine lv_iinc (v := (x2 + 1)) (lv' := [(2, .int (x2 + 1)), (0, .ref (ad 0)), (1, .ref (ad k1))]) hx hb dX12_layCanonical_107 hl (k := 2) rfl rfl (by decide) rfl (fun ls hl => ?_)
        refine lv_goto (tgt := 7) hx hb dX12_layCanonical_110 (by decide) ?_
        exact ih7 k1 (x2 + 1) s1 _ _ _ (lv_sub hl [1, 2, 0] rfl) hP hS hf
      have hc_106 : ∀ (k1 : Nat) (x2 : Int32) (t0 : Int64) (t1 : Int32) (kt2 : Nat) (s1 : SS) (H : Heap) (locs : List Loc) (ls : Array Slot), lv_has ls 4 [(0, .ref (ad 0)), (1, .ref (ad k1)), (2, .int x2)] → va_P D ZCL (zw Om Nm cA ad s1) H → va_S A s.heap H locs → f_X12_layCanonical_c106 (f_X12_layCanonical_c7 n7) k1 x2 t0 t1 kt2 s1 = some (rr, sr) → W p l e (zrm 1) s m args below meth c H locs 0 0 (MQ below (zQc Om Nm cA ad D A none sr) args s 0 0 A) (F0 m 106 ls [.long t0, .int t1, .ref (ad kt2)]) := by
        intro k1 x2 t0 t1 kt2 s1 H locs ls hl hP hS hf
        rw [f_X12_layCanonical_c106] at hf
        obtain ⟨g11, hf⟩ := zgd hf
        obtain ⟨n12, rn12, on12, in12⟩ := zok_of g11
        refine zast_l X hP hS (k := kt2) on12 in12 dX12_layCanonical_106 (fun H locs hP hS => ?_)
        exact hc_107 k1 x2 (zSL s1 kt2 (t1).toNatClampNeg t0) _ _ _ (lv_sub hl [0, 1, 2] rfl) hP hS hf
      have hc_87 : ∀ (k1 : Nat) (x2 : Int32) (t0 : Int64) (t1 : Int32) (kt2 : Nat) (s1 : SS) (H : Heap) (locs : List Loc) (ls : Array Slot), lv_has ls 4 [(0, .ref (ad 0)), (1, .ref (ad k1)), (2, .int x2)] → va_P D ZCL (zw Om Nm cA ad s1) H → va_S A s.heap H locs → f_X12_layCanonical_c87 (f_X12_layCanonical_c7 n7) k1 x2 t0 t1 kt2 s1 = some (rr, sr) → W p l e (zrm 1) s m args below meth c H locs 0 0 (MQ below (zQc Om Nm cA ad D A none sr) args s 0 0 A) (F0 m 87 ls [.long t0, .int t1, .ref (ad kt2)]) := by
        intro k1 x2 t0 t1 kt2 s1 H locs ls hl hP hS hf
        rw [f_X12_layCanonical_c87] at hf
        obtain ⟨g13, hf⟩ := zgd hf
        obtain ⟨n14, rn14, on14, in14⟩ := zok_of g13
        refine zast_l X hP hS (k := kt2) on14 in14 dX12_layCanonical_87 (fun H locs hP hS => ?_)
        refine lv_goto (tgt := 107) hx hb dX12_layCanonical_88 (by decide) ?_
        exact hc_107 k1 x2 (zSL s1 kt2 (t1).toNatClampNeg t0) _ _ _ (lv_sub hl [0, 1, 2] rfl) hP hS hf
      have hc_62 : ∀ (k1 : Nat) (x2 : Int32) (t0 : Int64) (t1 : Int32) (kt2 : Nat) (s1 : SS) (H : Heap) (locs : List Loc) (ls : Array Slot), lv_has ls 4 [(0, .ref (ad 0)), (1, .ref (ad k1)), (2, .int x2)] → va_P D ZCL (zw Om Nm cA ad s1) H → va_S A s.heap H locs → f_X12_layCanonical_c62 (f_X12_layCanonical_c7 n7) k1 x2 t0 t1 kt2 s1 = some (rr, sr) → W p l e (zrm 1) s m args below meth c H locs 0 0 (MQ below (zQc Om Nm cA ad D A none sr) args s 0 0 A) (F0 m 62 ls [.long t0, .int t1, .ref (ad kt2)]) := by
        intro k1 x2 t0 t1 kt2 s1 H locs ls hl hP hS hf
        rw [f_X12_layCanonical_c62] at hf
        obtain ⟨g15, hf⟩ := zgd hf
        obtain ⟨n16, rn16, on16, in16⟩ := zok_of g15
        refine zast_l X hP hS (k := kt2) on16 in16 dX12_layCanonical_62 (fun H locs hP hS => ?_)
        refine lv_goto (tgt := 107) hx hb dX12_layCanonical_63 (by decide) ?_
        exact hc_107 k1 x2 (zSL s1 kt2 (t1).toNatClampNeg t0) _ _ _ (lv_sub hl [0, 1, 2] rfl) hP hS hf
      intro k1 x2 s1 H locs ls hl hP hS hf
      rw [f_X12_layCanonical_c7] at hf
      refine lv_iload_n hx hb dX12_layCanonical_7 rfl (lv_at hl 2 rfl) ?_
      refine lv_aload_n hx hb dX12_layCanonical_8 rfl (lv_at hl 0 rfl) ?_
      obtain ⟨r4, s5, h6, hf⟩ := zbd_some hf
      refine zcallV X hP hS hl.1 (k := 0) (As := []) (rest := [.int x2]) (cn_X12_letters h6) cw_X12_letters zp_12 rfl (by decide) rfl ml_X12_68 (by decide) rfl rfl (Nat.le_of_ble_eq_true rfl) dX12_layCanonical_9 (fun H locs hP hS => ?_)
      refine zicmp_ge (tgt := 113) hx hb dX12_layCanonical_12 (by decide) hf (fun hf => ?_) (fun hf => ?_)
      · exact zret_v X hP hS hf dX12_layCanonical_113
      · refine lv_aload_n hx hb dX12_layCanonical_15 rfl (lv_at hl 0 rfl) ?_
        refine gf_X12_65 X hP (k := 0) (q := 7) rfl dX12_layCanonical_16 rfl ?_
        refine lv_iload_n hx hb dX12_layCanonical_19 rfl (lv_at hl 2 rfl) ?_
        obtain ⟨r7, s8, h9, hf⟩ := zbd_some hf
        refine zcallS X hP hS hl.1 (As := [.int x2]) (rest := [.ref (ad 7)]) (cn_X12_tens h9) cw_X12_tens ml_X12_15 (by decide) rfl rfl (Nat.le_of_ble_eq_true rfl) dX12_layCanonical_20 (fun H locs hP hS => ?_)
        obtain ⟨g10, hf⟩ := zgd hf
        refine zald_i X hP (k := 7) (n := 600000) (rs := []) rfl g10 dX12_layCanonical_23 ?_
        refine lv_istore_n (lv' := [(3, .int (s8.1 7 (r7).toNatClampNeg)), (0, .ref (ad 0)), (1, .ref (ad k1)), (2, .int x2)]) hx hb dX12_layCanonical_24 rfl hl (by decide) rfl (fun ls hl => ?_)
        refine lv_aload_n hx hb dX12_layCanonical_25 rfl (lv_at hl 1 rfl) ?_
        refine gf_X12_3 X hP (k := 0) rfl dX12_layCanonical_26 ?_
        refine zif_ne (tgt := 66) hx hb dX12_layCanonical_29 (by decide) hf (fun hf => ?_) (fun hf => ?_)
        · refine lv_aload_n hx hb dX12_layCanonical_66 rfl (lv_at hl 1 rfl) ?_
          refine gf_X12_3 X hP (k := 0) rfl dX12_layCanonical_67 ?_
          refine lv_iconst (v := 1) hx hb dX12_layCanonical_70 (by decide) ?_
          refine zicmp_ne (tgt := 91) hx hb dX12_layCanonical_71 (by decide) hf (fun hf => ?_) (fun hf => ?_)
          · refine lv_aload_n hx hb dX12_layCanonical_91 rfl (lv_at hl 2 rfl) ?_
            refine lv_iload_n hx hb dX12_layCanonical_92 rfl (lv_at hl 0 rfl) ?_
            refine lv_iload_n hx hb dX12_layCanonical_93 rfl (lv_at hl 3 rfl) ?_
            refine zif_ne (tgt := 103) hx hb dX12_layCanonical_94 (by decide) hf (fun hf => ?_) (fun hf => ?_)
            · refine zldc2 X co_X12_35 dX12_layCanonical_103 ?_
              exact hc_106 k1 x2 2 (s8.1 7 (r7).toNatClampNeg) k1 s8 _ _ _ (lv_sub hl [1, 2, 3] rfl) hP hS hf
            · refine zldc2 X co_X12_255 dX12_layCanonical_97 ?_
              refine lv_goto (tgt := 106) hx hb dX12_layCanonical_100 (by decide) ?_
              exact hc_106 k1 x2 (-6) (s8.1 7 (r7).toNatClampNeg) k1 s8 _ _ _ (lv_sub hl [1, 2, 3] rfl) hP hS hf
          · refine lv_aload_n hx hb dX12_layCanonical_74 rfl (lv_at hl 2 rfl) ?_
            refine lv_iload_n hx hb dX12_layCanonical_75 rfl (lv_at hl 0 rfl) ?_
            refine lv_iload_n hx hb dX12_layCanonical_76 rfl (lv_at hl 3 rfl) ?_
            refine zif_ne (tgt := 86) hx hb dX12_layCanonical_77 (by decide) hf (fun hf => ?_) (fun hf => ?_)
            · refine lv_lconst (v := 1) hx hb dX12_layCanonical_86 (by decide) ?_
              exact hc_87 k1 x2 1 (s8.1 7 (r7).toNatClampNeg) k1 s8 _ _ _ (lv_sub hl [1, 2, 3] rfl) hP hS hf
            · refine zldc2 X co_X12_253 dX12_layCanonical_80 ?_
              refine lv_goto (tgt := 87) hx hb dX12_layCanonical_83 (by decide) ?_
              exact hc_87 k1 x2 (-4) (s8.1 7 (r7).toNatClampNeg) k1 s8 _ _ _ (lv_sub hl [1, 2, 3] rfl) hP hS hf
        · refine lv_aload_n hx hb dX12_layCanonical_32 rfl (lv_at hl 2 rfl) ?_
          refine lv_iload_n hx hb dX12_layCanonical_33 rfl (lv_at hl 0 rfl) ?_
          refine lv_iload_n hx hb dX12_layCanonical_34 rfl (lv_at hl 3 rfl) ?_
          refine lv_aload_n hx hb dX12_layCanonical_35 rfl (lv_at hl 1 rfl) ?_
          refine gf_X12_9 X hP (k := 0) rfl dX12_layCanonical_36 ?_
          refine zicmp_ge (tgt := 55) hx hb dX12_layCanonical_39 (by decide) hf (fun hf => ?_) (fun hf => ?_)
          · refine lv_aload_n hx hb dX12_layCanonical_55 rfl (lv_at hl 1 rfl) ?_
            refine gf_X12_27 X hP (k := 0) rfl dX12_layCanonical_56 ?_
            refine lv_iconst (v := 1) hx hb dX12_layCanonical_59 (by decide) ?_
            refine lv_isub hx hb dX12_layCanonical_60 ?_
            refine lv_i2l hx hb dX12_layCanonical_61 rfl ?_
            exact hc_62 k1 x2 (((s8.1 0 1) - (1 : Int32))).toInt64 (s8.1 7 (r7).toNatClampNeg) k1 s8 _ _ _ (lv_sub hl [1, 2, 3] rfl) hP hS hf
          · refine lv_aload_n hx hb dX12_layCanonical_42 rfl (lv_at hl 1 rfl) ?_
            refine gf_X12_23 X hP (k := 0) (q := 1) rfl dX12_layCanonical_43 rfl ?_
            refine lv_iload_n hx hb dX12_layCanonical_46 rfl (lv_at hl 3 rfl) ?_
            obtain ⟨g17, hf⟩ := zgd hf
            refine zald_i X hP (k := 1) (n := 3) (rs := []) rfl g17 dX12_layCanonical_47 ?_
            refine lv_iconst (v := 1) hx hb dX12_layCanonical_48 (by decide) ?_
            refine lv_iadd hx hb dX12_layCanonical_49 ?_
            refine lv_ineg hx hb dX12_layCanonical_50 ?_
            refine lv_i2l hx hb dX12_layCanonical_51 rfl ?_
            refine lv_goto (tgt := 62) hx hb dX12_layCanonical_52 (by decide) ?_
            exact hc_62 k1 x2 ((-((s8.1 1 (x2).toNatClampNeg) + (1 : Int32)))).toInt64 (s8.1 7 (r7).toNatClampNeg) k1 s8 _ _ _ (lv_sub hl [1, 2, 3] rfl) hP hS hf
  rw [f_X12_layCanonical] at hf
  refine lv_aload_n hx hb dX12_layCanonical_0 rfl (lv_at hl 0 rfl) ?_
  refine lv_aload_n hx hb dX12_layCanonical_1 rfl (lv_at hl 1 rfl) ?_
  obtain ⟨r1, s2, h3, hf⟩ := zbd_some hf
  refine zcallV X hP hS hl.1 (k := 0) (As := [.ref (ad k1)]) (rest := []) (cn_X12_empty h3) cw_X12_empty zp_12 rfl (by decide) rfl ml_X12_237 (by decide) rfl rfl (Nat.le_of_ble_eq_true rfl) dX12_layCanonical_2 (fun H locs hP hS => ?_)
  refine lv_iconst (v := 0) hx hb dX12_layCanonical_5 (by decide) ?_
  refine lv_istore_n (lv' := [(2, .int 0), (0, .ref (ad 0)), (1, .ref (ad k1))]) hx hb dX12_layCanonical_6 rfl hl (by decide) rfl (fun ls hl => ?_)
  exact hc_7 ZF k1 0 s2 _ _ _ (lv_sub hl [1, 2, 0] rfl) hP hS hf
theorem dX12_canonical_0 : decode cX12_canonical 0 = .ok (.aload_n 0, 1) := by decide +kernel
theorem dX12_canonical_1 : decode cX12_canonical 1 = .ok (.getfield 89, 3) := by decide +kernel
theorem dX12_canonical_4 : decode cX12_canonical 4 = .ok (.bipush 8, 2) := by decide +kernel
theorem dX12_canonical_6 : decode cX12_canonical 6 = .ok (.if_icmp .ne 6, 3) := by decide +kernel
theorem dX12_canonical_9 : decode cX12_canonical 9 = .ok (.bipush (-3), 2) := by decide +kernel
theorem dX12_canonical_11 : decode cX12_canonical 11 = .ok (.ireturn, 1) := by decide +kernel
theorem dX12_canonical_12 : decode cX12_canonical 12 = .ok (.aload_n 0, 1) := by decide +kernel
theorem dX12_canonical_13 : decode cX12_canonical 13 = .ok (.aload_n 0, 1) := by decide +kernel
theorem dX12_canonical_14 : decode cX12_canonical 14 = .ok (.getfield 111, 3) := by decide +kernel
theorem dX12_canonical_17 : decode cX12_canonical 17 = .ok (.invokevirtual 257, 3) := by decide +kernel
theorem dX12_canonical_20 : decode cX12_canonical 20 = .ok (.aload_n 0, 1) := by decide +kernel
theorem dX12_canonical_21 : decode cX12_canonical 21 = .ok (.invokevirtual 198, 3) := by decide +kernel
theorem dX12_canonical_24 : decode cX12_canonical 24 = .ok (.aload_n 0, 1) := by decide +kernel
theorem dX12_canonical_25 : decode cX12_canonical 25 = .ok (.aload_n 0, 1) := by decide +kernel
theorem dX12_canonical_26 : decode cX12_canonical 26 = .ok (.getfield 111, 3) := by decide +kernel
theorem dX12_canonical_29 : decode cX12_canonical 29 = .ok (.invokevirtual 260, 3) := by decide +kernel
theorem dX12_canonical_32 : decode cX12_canonical 32 = .ok (.ireturn, 1) := by decide +kernel
set_option maxHeartbeats 4000000 in
set_option maxRecDepth 100000 in
theorem cn_X12_canonical {l : Launch} {cA : Nat → ClassId} {ad : Nat → Nat} {D : va_G} {E : Nat → Nat} {A : Nat → Prop}  {s0 sr : SS} {rr : Int32} (hf : f_X12_canonical s0 = some (rr, sr)) : zCon Om Nm cA ad D E l yX12_canonical cX12_canonical 1 (some .int) 2 A [.ref (ad 0)] s0 (some (.int rr)) sr := by
  refine zstart (own := RX12) hOm (by decide) rfl (Nat.le_of_ble_eq_true rfl) ?_
  intro p e s m args below meth c X hP ls hl
  have hx := X.1
  have hb := X.2.1
  have hl : lv_has ls 1 [(0, .ref (ad 0))] := hl
  have hS : va_S A s.heap s.heap [] := va_S.rf
  rw [f_X12_canonical] at hf
  refine lv_aload_n hx hb dX12_canonical_0 rfl (lv_at hl 0 rfl) ?_
  refine gf_X12_89 X hP (k := 0) rfl dX12_canonical_1 ?_
  refine lv_bipush (v := 8) hx hb dX12_canonical_4 (by decide) ?_
  refine zicmp_ne (tgt := 12) hx hb dX12_canonical_6 (by decide) hf (fun hf => ?_) (fun hf => ?_)
  · refine lv_aload_n hx hb dX12_canonical_12 rfl (lv_at hl 0 rfl) ?_
    refine lv_aload_n hx hb dX12_canonical_13 rfl (lv_at hl 0 rfl) ?_
    refine gf_X12_111 X hP (k := 0) (q := 13) rfl dX12_canonical_14 rfl ?_
    obtain ⟨r1, s2, h3, hf⟩ := zbd_some hf
    refine zcallV X hP hS hl.1 (k := 0) (As := [.ref (ad 13)]) (rest := []) (cn_X12_layCanonical h3) cw_X12_layCanonical zp_12 rfl (by decide) rfl ml_X12_257 (by decide) rfl rfl (Nat.le_of_ble_eq_true rfl) dX12_canonical_17 (fun H locs hP hS => ?_)
    refine lv_aload_n hx hb dX12_canonical_20 rfl (lv_at hl 0 rfl) ?_
    obtain ⟨r4, s5, h6, hf⟩ := zbd_some hf
    refine zcallV X hP hS hl.1 (k := 0) (As := []) (rest := []) (cn_X12_forget h6) cw_X12_forget zp_12 rfl (by decide) rfl ml_X12_198 (by decide) rfl rfl (Nat.le_of_ble_eq_true rfl) dX12_canonical_21 (fun H locs hP hS => ?_)
    refine lv_aload_n hx hb dX12_canonical_24 rfl (lv_at hl 0 rfl) ?_
    refine lv_aload_n hx hb dX12_canonical_25 rfl (lv_at hl 0 rfl) ?_
    refine gf_X12_111 X hP (k := 0) (q := 13) rfl dX12_canonical_26 rfl ?_
    obtain ⟨r7, s8, h9, hf⟩ := zbd_some hf
    refine zcallV X hP hS hl.1 (k := 0) (As := [.ref (ad 13)]) (rest := []) (cn_X12_comes h9) cw_X12_comes zp_12 rfl (by decide) rfl ml_X12_260 (by decide) rfl rfl (Nat.le_of_ble_eq_true rfl) dX12_canonical_29 (fun H locs hP hS => ?_)
    exact zret_i X hP hS hf rfl dX12_canonical_32
  · refine lv_bipush (v := (-3)) hx hb dX12_canonical_9 (by decide) ?_
    exact zret_i X hP hS hf rfl dX12_canonical_11
theorem dX12_met_0 : decode cX12_met 0 = .ok (.aload_n 0, 1) := by decide +kernel
theorem dX12_met_1 : decode cX12_met 1 = .ok (.iload_n 1, 1) := by decide +kernel
theorem dX12_met_2 : decode cX12_met 2 = .ok (.i2l, 1) := by decide +kernel
theorem dX12_met_3 : decode cX12_met 3 = .ok (.invokevirtual 245, 3) := by decide +kernel
theorem dX12_met_6 : decode cX12_met 6 = .ok (.ifCond .ne 7, 3) := by decide +kernel
theorem dX12_met_9 : decode cX12_met 9 = .ok (.ldc2_w 220, 3) := by decide +kernel
theorem dX12_met_12 : decode cX12_met 12 = .ok (.lreturn, 1) := by decide +kernel
theorem dX12_met_13 : decode cX12_met 13 = .ok (.aload_n 0, 1) := by decide +kernel
theorem dX12_met_14 : decode cX12_met 14 = .ok (.iload_n 1, 1) := by decide +kernel
theorem dX12_met_15 : decode cX12_met 15 = .ok (.aload_n 0, 1) := by decide +kernel
theorem dX12_met_16 : decode cX12_met 16 = .ok (.getfield 111, 3) := by decide +kernel
theorem dX12_met_19 : decode cX12_met 19 = .ok (.invokevirtual 264, 3) := by decide +kernel
theorem dX12_met_22 : decode cX12_met 22 = .ok (.aload_n 0, 1) := by decide +kernel
theorem dX12_met_23 : decode cX12_met 23 = .ok (.aload_n 0, 1) := by decide +kernel
theorem dX12_met_24 : decode cX12_met 24 = .ok (.getfield 111, 3) := by decide +kernel
theorem dX12_met_27 : decode cX12_met 27 = .ok (.invokevirtual 268, 3) := by decide +kernel
theorem dX12_met_30 : decode cX12_met 30 = .ok (.lreturn, 1) := by decide +kernel
set_option maxHeartbeats 4000000 in
set_option maxRecDepth 100000 in
theorem cn_X12_met {l : Launch} {cA : Nat → ClassId} {ad : Nat → Nat} {D : va_G} {E : Nat → Nat} {A : Nat → Prop} {x1 : Int32} {s0 sr : SS} {rr : Int64} (hf : f_X12_met x1 s0 = some (rr, sr)) : zCon Om Nm cA ad D E l yX12_met cX12_met 2 (some .long) 5 A [.ref (ad 0), .int x1] s0 (some (.long rr)) sr := by
  refine zstart (own := RX12) hOm (by decide) rfl (Nat.le_of_ble_eq_true rfl) ?_
  intro p e s m args below meth c X hP ls hl
  have hx := X.1
  have hb := X.2.1
  have hl : lv_has ls 2 [(0, .ref (ad 0)), (1, .int x1)] := hl
  have hS : va_S A s.heap s.heap [] := va_S.rf
  rw [f_X12_met] at hf
  refine lv_aload_n hx hb dX12_met_0 rfl (lv_at hl 0 rfl) ?_
  refine lv_iload_n hx hb dX12_met_1 rfl (lv_at hl 1 rfl) ?_
  refine lv_i2l hx hb dX12_met_2 rfl ?_
  obtain ⟨r1, s2, h3, hf⟩ := zbd_some hf
  refine zcallV X hP hS hl.1 (k := 0) (As := [.long (x1).toInt64]) (rest := []) (cn_X12_isClass h3) cw_X12_isClass zp_12 rfl (by decide) rfl ml_X12_245 (by decide) rfl rfl (Nat.le_of_ble_eq_true rfl) dX12_met_3 (fun H locs hP hS => ?_)
  refine zif_ne (tgt := 13) hx hb dX12_met_6 (by decide) hf (fun hf => ?_) (fun hf => ?_)
  · refine lv_aload_n hx hb dX12_met_13 rfl (lv_at hl 0 rfl) ?_
    refine lv_iload_n hx hb dX12_met_14 rfl (lv_at hl 1 rfl) ?_
    refine lv_aload_n hx hb dX12_met_15 rfl (lv_at hl 0 rfl) ?_
    refine gf_X12_111 X hP (k := 0) (q := 13) rfl dX12_met_16 rfl ?_
    obtain ⟨r4, s5, h6, hf⟩ := zbd_some hf
    refine zcallV X hP hS hl.1 (k := 0) (As := [.int x1, .ref (ad 13)]) (rest := []) (cn_X12_layClass h6) cw_X12_layClass zp_12 rfl (by decide) rfl ml_X12_264 (by decide) rfl rfl (Nat.le_of_ble_eq_true rfl) dX12_met_19 (fun H locs hP hS => ?_)
    refine lv_aload_n hx hb dX12_met_22 rfl (lv_at hl 0 rfl) ?_
    refine lv_aload_n hx hb dX12_met_23 rfl (lv_at hl 0 rfl) ?_
    refine gf_X12_111 X hP (k := 0) (q := 13) rfl dX12_met_24 rfl ?_
    obtain ⟨r7, s8, h9, hf⟩ := zbd_some hf
    refine zcallV X hP hS hl.1 (k := 0) (As := [.ref (ad 13)]) (rest := []) (cn_X12_metOf h9) cw_X12_metOf zp_12 rfl (by decide) rfl ml_X12_268 (by decide) rfl rfl (Nat.le_of_ble_eq_true rfl) dX12_met_27 (fun H locs hP hS => ?_)
    exact zret_l X hP hS hf dX12_met_30
  · refine zldc2 X co_X12_220 dX12_met_9 ?_
    exact zret_l X hP hS hf dX12_met_12
theorem dX12_meets_0 : decode cX12_meets 0 = .ok (.aload_n 0, 1) := by decide +kernel
theorem dX12_meets_1 : decode cX12_meets 1 = .ok (.iload_n 1, 1) := by decide +kernel
theorem dX12_meets_2 : decode cX12_meets 2 = .ok (.i2l, 1) := by decide +kernel
theorem dX12_meets_3 : decode cX12_meets 3 = .ok (.invokevirtual 245, 3) := by decide +kernel
theorem dX12_meets_6 : decode cX12_meets 6 = .ok (.ifCond .eq 12, 3) := by decide +kernel
theorem dX12_meets_9 : decode cX12_meets 9 = .ok (.aload_n 0, 1) := by decide +kernel
theorem dX12_meets_10 : decode cX12_meets 10 = .ok (.iload_n 2, 1) := by decide +kernel
theorem dX12_meets_11 : decode cX12_meets 11 = .ok (.i2l, 1) := by decide +kernel
theorem dX12_meets_12 : decode cX12_meets 12 = .ok (.invokevirtual 245, 3) := by decide +kernel
theorem dX12_meets_15 : decode cX12_meets 15 = .ok (.ifCond .ne 7, 3) := by decide +kernel
theorem dX12_meets_18 : decode cX12_meets 18 = .ok (.ldc2_w 220, 3) := by decide +kernel
theorem dX12_meets_21 : decode cX12_meets 21 = .ok (.lreturn, 1) := by decide +kernel
theorem dX12_meets_22 : decode cX12_meets 22 = .ok (.aload_n 0, 1) := by decide +kernel
theorem dX12_meets_23 : decode cX12_meets 23 = .ok (.iload_n 1, 1) := by decide +kernel
theorem dX12_meets_24 : decode cX12_meets 24 = .ok (.aload_n 0, 1) := by decide +kernel
theorem dX12_meets_25 : decode cX12_meets 25 = .ok (.getfield 111, 3) := by decide +kernel
theorem dX12_meets_28 : decode cX12_meets 28 = .ok (.invokevirtual 264, 3) := by decide +kernel
theorem dX12_meets_31 : decode cX12_meets 31 = .ok (.aload_n 0, 1) := by decide +kernel
theorem dX12_meets_32 : decode cX12_meets 32 = .ok (.iload_n 2, 1) := by decide +kernel
theorem dX12_meets_33 : decode cX12_meets 33 = .ok (.aload_n 0, 1) := by decide +kernel
theorem dX12_meets_34 : decode cX12_meets 34 = .ok (.getfield 114, 3) := by decide +kernel
theorem dX12_meets_37 : decode cX12_meets 37 = .ok (.invokevirtual 264, 3) := by decide +kernel
theorem dX12_meets_40 : decode cX12_meets 40 = .ok (.aload_n 0, 1) := by decide +kernel
theorem dX12_meets_41 : decode cX12_meets 41 = .ok (.aload_n 0, 1) := by decide +kernel
theorem dX12_meets_42 : decode cX12_meets 42 = .ok (.getfield 111, 3) := by decide +kernel
theorem dX12_meets_45 : decode cX12_meets 45 = .ok (.aload_n 0, 1) := by decide +kernel
theorem dX12_meets_46 : decode cX12_meets 46 = .ok (.getfield 114, 3) := by decide +kernel
theorem dX12_meets_49 : decode cX12_meets 49 = .ok (.invokevirtual 272, 3) := by decide +kernel
theorem dX12_meets_52 : decode cX12_meets 52 = .ok (.aload_n 0, 1) := by decide +kernel
theorem dX12_meets_53 : decode cX12_meets 53 = .ok (.aload_n 0, 1) := by decide +kernel
theorem dX12_meets_54 : decode cX12_meets 54 = .ok (.getfield 111, 3) := by decide +kernel
theorem dX12_meets_57 : decode cX12_meets 57 = .ok (.invokevirtual 268, 3) := by decide +kernel
theorem dX12_meets_60 : decode cX12_meets 60 = .ok (.lreturn, 1) := by decide +kernel
set_option maxHeartbeats 4000000 in
set_option maxRecDepth 100000 in
theorem cn_X12_meets {l : Launch} {cA : Nat → ClassId} {ad : Nat → Nat} {D : va_G} {E : Nat → Nat} {A : Nat → Prop} {x1 : Int32} {x2 : Int32} {s0 sr : SS} {rr : Int64} (hf : f_X12_meets x1 x2 s0 = some (rr, sr)) : zCon Om Nm cA ad D E l yX12_meets cX12_meets 3 (some .long) 5 A [.ref (ad 0), .int x1, .int x2] s0 (some (.long rr)) sr := by
  refine zstart (own := RX12) hOm (by decide) rfl (Nat.le_of_ble_eq_true rfl) ?_
  intro p e s m args below meth c X hP ls hl
  have hx := X.1
  have hb := X.2.1
  have hl : lv_has ls 3 [(0, .ref (ad 0)), (1, .int x1), (2, .int x2)] := hl
  have hS : va_S A s.heap s.heap [] := va_S.rf
  rw [f_X12_meets] at hf
  refine lv_aload_n hx hb dX12_meets_0 rfl (lv_at hl 0 rfl) ?_
  refine lv_iload_n hx hb dX12_meets_1 rfl (lv_at hl 1 rfl) ?_
  refine lv_i2l hx hb dX12_meets_2 rfl ?_
  obtain ⟨r1, s2, h3, hf⟩ := zbd_some hf
  refine zcallV X hP hS hl.1 (k := 0) (As := [.long (x1).toInt64]) (rest := []) (cn_X12_isClass h3) cw_X12_isClass zp_12 rfl (by decide) rfl ml_X12_245 (by decide) rfl rfl (Nat.le_of_ble_eq_true rfl) dX12_meets_3 (fun H locs hP hS => ?_)
  refine zif_eq (tgt := 18) hx hb dX12_meets_6 (by decide) hf (fun hf => ?_) (fun hf => ?_)
  · refine zldc2 X co_X12_220 dX12_meets_18 ?_
    exact zret_l X hP hS hf dX12_meets_21
  · refine lv_aload_n hx hb dX12_meets_9 rfl (lv_at hl 0 rfl) ?_
    refine lv_iload_n hx hb dX12_meets_10 rfl (lv_at hl 2 rfl) ?_
    refine lv_i2l hx hb dX12_meets_11 rfl ?_
    obtain ⟨r4, s5, h6, hf⟩ := zbd_some hf
    refine zcallV X hP hS hl.1 (k := 0) (As := [.long (x2).toInt64]) (rest := []) (cn_X12_isClass h6) cw_X12_isClass zp_12 rfl (by decide) rfl ml_X12_245 (by decide) rfl rfl (Nat.le_of_ble_eq_true rfl) dX12_meets_12 (fun H locs hP hS => ?_)
    refine zif_ne (tgt := 22) hx hb dX12_meets_15 (by decide) hf (fun hf => ?_) (fun hf => ?_)
    · refine lv_aload_n hx hb dX12_meets_22 rfl (lv_at hl 0 rfl) ?_
      refine lv_iload_n hx hb dX12_meets_23 rfl (lv_at hl 1 rfl) ?_
      refine lv_aload_n hx hb dX12_meets_24 rfl (lv_at hl 0 rfl) ?_
      refine gf_X12_111 X hP (k := 0) (q := 13) rfl dX12_meets_25 rfl ?_
      obtain ⟨r7, s8, h9, hf⟩ := zbd_some hf
      refine zcallV X hP hS hl.1 (k := 0) (As := [.int x1, .ref (ad 13)]) (rest := []) (cn_X12_layClass h9) cw_X12_layClass zp_12 rfl (by decide) rfl ml_X12_264 (by decide) rfl rfl (Nat.le_of_ble_eq_true rfl) dX12_meets_28 (fun H locs hP hS => ?_)
      refine lv_aload_n hx hb dX12_meets_31 rfl (lv_at hl 0 rfl) ?_
      refine lv_iload_n hx hb dX12_meets_32 rfl (lv_at hl 2 rfl) ?_
      refine lv_aload_n hx hb dX12_meets_33 rfl (lv_at hl 0 rfl) ?_
      refine gf_X12_114 X hP (k := 0) (q := 14) rfl dX12_meets_34 rfl ?_
      obtain ⟨r10, s11, h12, hf⟩ := zbd_some hf
      refine zcallV X hP hS hl.1 (k := 0) (As := [.int x2, .ref (ad 14)]) (rest := []) (cn_X12_layClass h12) cw_X12_layClass zp_12 rfl (by decide) rfl ml_X12_264 (by decide) rfl rfl (Nat.le_of_ble_eq_true rfl) dX12_meets_37 (fun H locs hP hS => ?_)
      refine lv_aload_n hx hb dX12_meets_40 rfl (lv_at hl 0 rfl) ?_
      refine lv_aload_n hx hb dX12_meets_41 rfl (lv_at hl 0 rfl) ?_
      refine gf_X12_111 X hP (k := 0) (q := 13) rfl dX12_meets_42 rfl ?_
      refine lv_aload_n hx hb dX12_meets_45 rfl (lv_at hl 0 rfl) ?_
      refine gf_X12_114 X hP (k := 0) (q := 14) rfl dX12_meets_46 rfl ?_
      obtain ⟨r13, s14, h15, hf⟩ := zbd_some hf
      refine zcallV X hP hS hl.1 (k := 0) (As := [.ref (ad 13), .ref (ad 14)]) (rest := []) (cn_X12_multiply h15) cw_X12_multiply zp_12 rfl (by decide) rfl ml_X12_272 (by decide) rfl rfl (Nat.le_of_ble_eq_true rfl) dX12_meets_49 (fun H locs hP hS => ?_)
      refine lv_aload_n hx hb dX12_meets_52 rfl (lv_at hl 0 rfl) ?_
      refine lv_aload_n hx hb dX12_meets_53 rfl (lv_at hl 0 rfl) ?_
      refine gf_X12_111 X hP (k := 0) (q := 13) rfl dX12_meets_54 rfl ?_
      obtain ⟨r16, s17, h18, hf⟩ := zbd_some hf
      refine zcallV X hP hS hl.1 (k := 0) (As := [.ref (ad 13)]) (rest := []) (cn_X12_metOf h18) cw_X12_metOf zp_12 rfl (by decide) rfl ml_X12_268 (by decide) rfl rfl (Nat.le_of_ble_eq_true rfl) dX12_meets_57 (fun H locs hP hS => ?_)
      exact zret_l X hP hS hf dX12_meets_60
    · refine zldc2 X co_X12_220 dX12_meets_18 ?_
      exact zret_l X hP hS hf dX12_meets_21
theorem dX12_isList_0 : decode cX12_isList 0 = .ok (.iload_n 0, 1) := by decide +kernel
theorem dX12_isList_1 : decode cX12_isList 1 = .ok (.i2l, 1) := by decide +kernel
theorem dX12_isList_2 : decode cX12_isList 2 = .ok (.lconst 0, 1) := by decide +kernel
theorem dX12_isList_3 : decode cX12_isList 3 = .ok (.ldc2_w 35, 3) := by decide +kernel
theorem dX12_isList_6 : decode cX12_isList 6 = .ok (.invokestatic 203, 3) := by decide +kernel
theorem dX12_isList_9 : decode cX12_isList 9 = .ok (.ireturn, 1) := by decide +kernel
set_option maxHeartbeats 4000000 in
set_option maxRecDepth 100000 in
theorem cn_X12_isList {l : Launch} {cA : Nat → ClassId} {ad : Nat → Nat} {D : va_G} {E : Nat → Nat} {A : Nat → Prop} {x0 : Int32} {s0 sr : SS} {rr : Int32} (hf : f_X12_isList x0 s0 = some (rr, sr)) : zCon Om Nm cA ad D E l yX12_isList cX12_isList 1 (some .boolean) 1 A [.int x0] s0 (some (.int rr)) sr := by
  refine zstart (own := RX12) hOm (by decide) rfl (Nat.le_of_ble_eq_true rfl) ?_
  intro p e s m args below meth c X hP ls hl
  have hx := X.1
  have hb := X.2.1
  have hl : lv_has ls 1 [(0, .int x0)] := hl
  have hS : va_S A s.heap s.heap [] := va_S.rf
  rw [f_X12_isList] at hf
  refine lv_iload_n hx hb dX12_isList_0 rfl (lv_at hl 0 rfl) ?_
  refine lv_i2l hx hb dX12_isList_1 rfl ?_
  refine lv_lconst (v := 0) hx hb dX12_isList_2 (by decide) ?_
  refine zldc2 X co_X12_35 dX12_isList_3 ?_
  obtain ⟨r1, s2, h3, hf⟩ := zbd_some hf
  refine zcallS X hP hS hl.1 (As := [.long (x0).toInt64, .long 0, .long 2]) (rest := []) (cn_X12_in h3) cw_X12_in ml_X12_203 (by decide) rfl rfl (Nat.le_of_ble_eq_true rfl) dX12_isList_6 (fun H locs hP hS => ?_)
  obtain ⟨b4, hf⟩ := zgd hf
  exact zret_i X hP hS hf (znar_of (by decide) b4) dX12_isList_9
theorem dX12_isThere_0 : decode cX12_isThere 0 = .ok (.iload_n 1, 1) := by decide +kernel
theorem dX12_isThere_1 : decode cX12_isThere 1 = .ok (.invokestatic 275, 3) := by decide +kernel
theorem dX12_isThere_4 : decode cX12_isThere 4 = .ok (.ifCond .eq 16, 3) := by decide +kernel
theorem dX12_isThere_7 : decode cX12_isThere 7 = .ok (.aload_n 0, 1) := by decide +kernel
theorem dX12_isThere_8 : decode cX12_isThere 8 = .ok (.getfield 138, 3) := by decide +kernel
theorem dX12_isThere_11 : decode cX12_isThere 11 = .ok (.iload_n 1, 1) := by decide +kernel
theorem dX12_isThere_12 : decode cX12_isThere 12 = .ok (.iaload, 1) := by decide +kernel
theorem dX12_isThere_13 : decode cX12_isThere 13 = .ok (.ifCond .lt 7, 3) := by decide +kernel
theorem dX12_isThere_16 : decode cX12_isThere 16 = .ok (.iconst 1, 1) := by decide +kernel
theorem dX12_isThere_17 : decode cX12_isThere 17 = .ok (.goto 4, 3) := by decide +kernel
theorem dX12_isThere_20 : decode cX12_isThere 20 = .ok (.iconst 0, 1) := by decide +kernel
theorem dX12_isThere_21 : decode cX12_isThere 21 = .ok (.ireturn, 1) := by decide +kernel
set_option maxHeartbeats 4000000 in
set_option maxRecDepth 100000 in
theorem cn_X12_isThere {l : Launch} {cA : Nat → ClassId} {ad : Nat → Nat} {D : va_G} {E : Nat → Nat} {A : Nat → Prop} {x1 : Int32} {s0 sr : SS} {rr : Int32} (hf : f_X12_isThere x1 s0 = some (rr, sr)) : zCon Om Nm cA ad D E l yX12_isThere cX12_isThere 2 (some .boolean) 2 A [.ref (ad 0), .int x1] s0 (some (.int rr)) sr := by
  refine zstart (own := RX12) hOm (by decide) rfl (Nat.le_of_ble_eq_true rfl) ?_
  intro p e s m args below meth c X hP ls hl
  have hx := X.1
  have hb := X.2.1
  have hl : lv_has ls 2 [(0, .ref (ad 0)), (1, .int x1)] := hl
  have hS : va_S A s.heap s.heap [] := va_S.rf
  rw [f_X12_isThere] at hf
  refine lv_iload_n hx hb dX12_isThere_0 rfl (lv_at hl 1 rfl) ?_
  obtain ⟨r1, s2, h3, hf⟩ := zbd_some hf
  refine zcallS X hP hS hl.1 (As := [.int x1]) (rest := []) (cn_X12_isList h3) cw_X12_isList ml_X12_275 (by decide) rfl rfl (Nat.le_of_ble_eq_true rfl) dX12_isThere_1 (fun H locs hP hS => ?_)
  refine zif_eq (tgt := 20) hx hb dX12_isThere_4 (by decide) hf (fun hf => ?_) (fun hf => ?_)
  · refine lv_iconst (v := 0) hx hb dX12_isThere_20 (by decide) ?_
    exact zret_i X hP hS hf rfl dX12_isThere_21
  · refine lv_aload_n hx hb dX12_isThere_7 rfl (lv_at hl 0 rfl) ?_
    refine gf_X12_138 X hP (k := 0) (q := 22) rfl dX12_isThere_8 rfl ?_
    refine lv_iload_n hx hb dX12_isThere_11 rfl (lv_at hl 1 rfl) ?_
    obtain ⟨g4, hf⟩ := zgd hf
    refine zald_i X hP (k := 22) (n := 3) (rs := []) rfl g4 dX12_isThere_12 ?_
    refine zif_lt (tgt := 20) hx hb dX12_isThere_13 (by decide) hf (fun hf => ?_) (fun hf => ?_)
    · refine lv_iconst (v := 0) hx hb dX12_isThere_20 (by decide) ?_
      exact zret_i X hP hS hf rfl dX12_isThere_21
    · refine lv_iconst (v := 1) hx hb dX12_isThere_16 (by decide) ?_
      refine lv_goto (tgt := 21) hx hb dX12_isThere_17 (by decide) ?_
      exact zret_i X hP hS hf rfl dX12_isThere_21
theorem dX12_areClasses_0 : decode cX12_areClasses 0 = .ok (.iconst 0, 1) := by decide +kernel
theorem dX12_areClasses_1 : decode cX12_areClasses 1 = .ok (.istore_n 2, 1) := by decide +kernel
theorem dX12_areClasses_2 : decode cX12_areClasses 2 = .ok (.iload_n 2, 1) := by decide +kernel
theorem dX12_areClasses_3 : decode cX12_areClasses 3 = .ok (.aload_n 0, 1) := by decide +kernel
theorem dX12_areClasses_4 : decode cX12_areClasses 4 = .ok (.getfield 141, 3) := by decide +kernel
theorem dX12_areClasses_7 : decode cX12_areClasses 7 = .ok (.iload_n 1, 1) := by decide +kernel
theorem dX12_areClasses_8 : decode cX12_areClasses 8 = .ok (.iaload, 1) := by decide +kernel
theorem dX12_areClasses_9 : decode cX12_areClasses 9 = .ok (.if_icmp .ge 29, 3) := by decide +kernel
theorem dX12_areClasses_12 : decode cX12_areClasses 12 = .ok (.aload_n 0, 1) := by decide +kernel
theorem dX12_areClasses_13 : decode cX12_areClasses 13 = .ok (.aload_n 0, 1) := by decide +kernel
theorem dX12_areClasses_14 : decode cX12_areClasses 14 = .ok (.getfield 144, 3) := by decide +kernel
theorem dX12_areClasses_17 : decode cX12_areClasses 17 = .ok (.bipush 20, 2) := by decide +kernel
theorem dX12_areClasses_19 : decode cX12_areClasses 19 = .ok (.iload_n 1, 1) := by decide +kernel
theorem dX12_areClasses_20 : decode cX12_areClasses 20 = .ok (.imul, 1) := by decide +kernel
theorem dX12_areClasses_21 : decode cX12_areClasses 21 = .ok (.iload_n 2, 1) := by decide +kernel
theorem dX12_areClasses_22 : decode cX12_areClasses 22 = .ok (.iadd, 1) := by decide +kernel
theorem dX12_areClasses_23 : decode cX12_areClasses 23 = .ok (.laload, 1) := by decide +kernel
theorem dX12_areClasses_24 : decode cX12_areClasses 24 = .ok (.invokevirtual 245, 3) := by decide +kernel
theorem dX12_areClasses_27 : decode cX12_areClasses 27 = .ok (.ifCond .ne 5, 3) := by decide +kernel
theorem dX12_areClasses_30 : decode cX12_areClasses 30 = .ok (.iconst 0, 1) := by decide +kernel
theorem dX12_areClasses_31 : decode cX12_areClasses 31 = .ok (.ireturn, 1) := by decide +kernel
theorem dX12_areClasses_32 : decode cX12_areClasses 32 = .ok (.iinc 2 1, 3) := by decide +kernel
theorem dX12_areClasses_35 : decode cX12_areClasses 35 = .ok (.goto (-33), 3) := by decide +kernel
theorem dX12_areClasses_38 : decode cX12_areClasses 38 = .ok (.iconst 1, 1) := by decide +kernel
theorem dX12_areClasses_39 : decode cX12_areClasses 39 = .ok (.ireturn, 1) := by decide +kernel
set_option maxHeartbeats 4000000 in
set_option maxRecDepth 100000 in
theorem cn_X12_areClasses {l : Launch} {cA : Nat → ClassId} {ad : Nat → Nat} {D : va_G} {E : Nat → Nat} {A : Nat → Prop} {x1 : Int32} {s0 sr : SS} {rr : Int32} (hf : f_X12_areClasses x1 s0 = some (rr, sr)) : zCon Om Nm cA ad D E l yX12_areClasses cX12_areClasses 3 (some .boolean) 2 A [.ref (ad 0), .int x1] s0 (some (.int rr)) sr := by
  refine zstart (own := RX12) hOm (by decide) rfl (Nat.le_of_ble_eq_true rfl) ?_
  intro p e s m args below meth c X hP ls hl
  have hx := X.1
  have hb := X.2.1
  have hl : lv_has ls 3 [(0, .ref (ad 0)), (1, .int x1)] := hl
  have hS : va_S A s.heap s.heap [] := va_S.rf
  have hc_2 : ∀ (n2 : Nat) (x1 : Int32) (x2 : Int32) (s1 : SS) (H : Heap) (locs : List Loc) (ls : Array Slot), lv_has ls 3 [(0, .ref (ad 0)), (1, .int x1), (2, .int x2)] → va_P D ZCL (zw Om Nm cA ad s1) H → va_S A s.heap H locs → f_X12_areClasses_c2 n2 x1 x2 s1 = some (rr, sr) → W p l e (zrm 2) s m args below meth c H locs 0 0 (MQ below (zQc Om Nm cA ad D A (some (.int rr)) sr) args s 0 0 A) (F0 m 2 ls []) := by
    intro n2
    induction n2 with
    | zero =>
      intro x1 x2 s1 H locs ls hl hP hS hf
      rw [f_X12_areClasses_c2] at hf
      cases hf
    | succ n2 ih2 =>
      intro x1 x2 s1 H locs ls hl hP hS hf
      rw [f_X12_areClasses_c2] at hf
      refine lv_iload_n hx hb dX12_areClasses_2 rfl (lv_at hl 2 rfl) ?_
      refine lv_aload_n hx hb dX12_areClasses_3 rfl (lv_at hl 0 rfl) ?_
      refine gf_X12_141 X hP (k := 0) (q := 23) rfl dX12_areClasses_4 rfl ?_
      refine lv_iload_n hx hb dX12_areClasses_7 rfl (lv_at hl 1 rfl) ?_
      obtain ⟨g1, hf⟩ := zgd hf
      refine zald_i X hP (k := 23) (n := 3) (rs := []) rfl g1 dX12_areClasses_8 ?_
      refine zicmp_ge (tgt := 38) hx hb dX12_areClasses_9 (by decide) hf (fun hf => ?_) (fun hf => ?_)
      · refine lv_iconst (v := 1) hx hb dX12_areClasses_38 (by decide) ?_
        exact zret_i X hP hS hf rfl dX12_areClasses_39
      · refine lv_aload_n hx hb dX12_areClasses_12 rfl (lv_at hl 0 rfl) ?_
        refine lv_aload_n hx hb dX12_areClasses_13 rfl (lv_at hl 0 rfl) ?_
        refine gf_X12_144 X hP (k := 0) (q := 24) rfl dX12_areClasses_14 rfl ?_
        refine lv_bipush (v := 20) hx hb dX12_areClasses_17 (by decide) ?_
        refine lv_iload_n hx hb dX12_areClasses_19 rfl (lv_at hl 1 rfl) ?_
        refine lv_imul hx hb dX12_areClasses_20 ?_
        refine lv_iload_n hx hb dX12_areClasses_21 rfl (lv_at hl 2 rfl) ?_
        refine lv_iadd hx hb dX12_areClasses_22 ?_
        obtain ⟨g2, hf⟩ := zgd hf
        refine zald_l X hP (k := 24) (n := 60) (rs := []) rfl g2 dX12_areClasses_23 ?_
        obtain ⟨r3, s4, h5, hf⟩ := zbd_some hf
        refine zcallV X hP hS hl.1 (k := 0) (As := [.long (s1.2 24 ((((20 : Int32) * x1) + x2)).toNatClampNeg)]) (rest := []) (cn_X12_isClass h5) cw_X12_isClass zp_12 rfl (by decide) rfl ml_X12_245 (by decide) rfl rfl (Nat.le_of_ble_eq_true rfl) dX12_areClasses_24 (fun H locs hP hS => ?_)
        refine zif_ne (tgt := 32) hx hb dX12_areClasses_27 (by decide) hf (fun hf => ?_) (fun hf => ?_)
        · refine lv_iinc (v := (x2 + 1)) (lv' := [(2, .int (x2 + 1)), (0, .ref (ad 0)), (1, .int x1)]) hx hb dX12_areClasses_32 hl (k := 2) rfl rfl (by decide) rfl (fun ls hl => ?_)
          refine lv_goto (tgt := 2) hx hb dX12_areClasses_35 (by decide) ?_
          exact ih2 x1 (x2 + 1) s4 _ _ _ (lv_sub hl [1, 2, 0] rfl) hP hS hf
        · refine lv_iconst (v := 0) hx hb dX12_areClasses_30 (by decide) ?_
          exact zret_i X hP hS hf rfl dX12_areClasses_31
  rw [f_X12_areClasses] at hf
  refine lv_iconst (v := 0) hx hb dX12_areClasses_0 (by decide) ?_
  refine lv_istore_n (lv' := [(2, .int 0), (0, .ref (ad 0)), (1, .int x1)]) hx hb dX12_areClasses_1 rfl hl (by decide) rfl (fun ls hl => ?_)
  exact hc_2 ZF x1 0 s0 _ _ _ (lv_sub hl [1, 2, 0] rfl) hP hS hf
theorem dX12_layAll_0 : decode cX12_layAll 0 = .ok (.aload_n 0, 1) := by decide +kernel
theorem dX12_layAll_1 : decode cX12_layAll 1 = .ok (.aload_n 0, 1) := by decide +kernel
theorem dX12_layAll_2 : decode cX12_layAll 2 = .ok (.getfield 111, 3) := by decide +kernel
theorem dX12_layAll_5 : decode cX12_layAll 5 = .ok (.invokevirtual 278, 3) := by decide +kernel
theorem dX12_layAll_8 : decode cX12_layAll 8 = .ok (.iconst 0, 1) := by decide +kernel
theorem dX12_layAll_9 : decode cX12_layAll 9 = .ok (.istore_n 2, 1) := by decide +kernel
theorem dX12_layAll_10 : decode cX12_layAll 10 = .ok (.iload_n 2, 1) := by decide +kernel
theorem dX12_layAll_11 : decode cX12_layAll 11 = .ok (.aload_n 0, 1) := by decide +kernel
theorem dX12_layAll_12 : decode cX12_layAll 12 = .ok (.getfield 141, 3) := by decide +kernel
theorem dX12_layAll_15 : decode cX12_layAll 15 = .ok (.iload_n 1, 1) := by decide +kernel
theorem dX12_layAll_16 : decode cX12_layAll 16 = .ok (.iaload, 1) := by decide +kernel
theorem dX12_layAll_17 : decode cX12_layAll 17 = .ok (.if_icmp .ge 41, 3) := by decide +kernel
theorem dX12_layAll_20 : decode cX12_layAll 20 = .ok (.aload_n 0, 1) := by decide +kernel
theorem dX12_layAll_21 : decode cX12_layAll 21 = .ok (.aload_n 0, 1) := by decide +kernel
theorem dX12_layAll_22 : decode cX12_layAll 22 = .ok (.getfield 144, 3) := by decide +kernel
theorem dX12_layAll_25 : decode cX12_layAll 25 = .ok (.bipush 20, 2) := by decide +kernel
theorem dX12_layAll_27 : decode cX12_layAll 27 = .ok (.iload_n 1, 1) := by decide +kernel
theorem dX12_layAll_28 : decode cX12_layAll 28 = .ok (.imul, 1) := by decide +kernel
theorem dX12_layAll_29 : decode cX12_layAll 29 = .ok (.iload_n 2, 1) := by decide +kernel
theorem dX12_layAll_30 : decode cX12_layAll 30 = .ok (.iadd, 1) := by decide +kernel
theorem dX12_layAll_31 : decode cX12_layAll 31 = .ok (.laload, 1) := by decide +kernel
theorem dX12_layAll_32 : decode cX12_layAll 32 = .ok (.l2i, 1) := by decide +kernel
theorem dX12_layAll_33 : decode cX12_layAll 33 = .ok (.aload_n 0, 1) := by decide +kernel
theorem dX12_layAll_34 : decode cX12_layAll 34 = .ok (.getfield 114, 3) := by decide +kernel
theorem dX12_layAll_37 : decode cX12_layAll 37 = .ok (.invokevirtual 264, 3) := by decide +kernel
theorem dX12_layAll_40 : decode cX12_layAll 40 = .ok (.aload_n 0, 1) := by decide +kernel
theorem dX12_layAll_41 : decode cX12_layAll 41 = .ok (.aload_n 0, 1) := by decide +kernel
theorem dX12_layAll_42 : decode cX12_layAll 42 = .ok (.getfield 111, 3) := by decide +kernel
theorem dX12_layAll_45 : decode cX12_layAll 45 = .ok (.aload_n 0, 1) := by decide +kernel
theorem dX12_layAll_46 : decode cX12_layAll 46 = .ok (.getfield 114, 3) := by decide +kernel
theorem dX12_layAll_49 : decode cX12_layAll 49 = .ok (.invokevirtual 272, 3) := by decide +kernel
theorem dX12_layAll_52 : decode cX12_layAll 52 = .ok (.iinc 2 1, 3) := by decide +kernel
theorem dX12_layAll_55 : decode cX12_layAll 55 = .ok (.goto (-45), 3) := by decide +kernel
theorem dX12_layAll_58 : decode cX12_layAll 58 = .ok (.return_, 1) := by decide +kernel
set_option maxHeartbeats 4000000 in
set_option maxRecDepth 100000 in
theorem cn_X12_layAll {l : Launch} {cA : Nat → ClassId} {ad : Nat → Nat} {D : va_G} {E : Nat → Nat} {A : Nat → Prop} {x1 : Int32} {s0 sr : SS} {rr : Unit} (hf : f_X12_layAll x1 s0 = some (rr, sr)) : zCon Om Nm cA ad D E l yX12_layAll cX12_layAll 3 none 5 A [.ref (ad 0), .int x1] s0 none sr := by
  refine zstart (own := RX12) hOm (by decide) rfl (Nat.le_of_ble_eq_true rfl) ?_
  intro p e s m args below meth c X hP ls hl
  have hx := X.1
  have hb := X.2.1
  have hl : lv_has ls 3 [(0, .ref (ad 0)), (1, .int x1)] := hl
  have hS : va_S A s.heap s.heap [] := va_S.rf
  have hc_10 : ∀ (n10 : Nat) (x1 : Int32) (x2 : Int32) (s1 : SS) (H : Heap) (locs : List Loc) (ls : Array Slot), lv_has ls 3 [(0, .ref (ad 0)), (1, .int x1), (2, .int x2)] → va_P D ZCL (zw Om Nm cA ad s1) H → va_S A s.heap H locs → f_X12_layAll_c10 n10 x1 x2 s1 = some (rr, sr) → W p l e (zrm 5) s m args below meth c H locs 0 0 (MQ below (zQc Om Nm cA ad D A none sr) args s 0 0 A) (F0 m 10 ls []) := by
    intro n10
    induction n10 with
    | zero =>
      intro x1 x2 s1 H locs ls hl hP hS hf
      rw [f_X12_layAll_c10] at hf
      cases hf
    | succ n10 ih10 =>
      intro x1 x2 s1 H locs ls hl hP hS hf
      rw [f_X12_layAll_c10] at hf
      refine lv_iload_n hx hb dX12_layAll_10 rfl (lv_at hl 2 rfl) ?_
      refine lv_aload_n hx hb dX12_layAll_11 rfl (lv_at hl 0 rfl) ?_
      refine gf_X12_141 X hP (k := 0) (q := 23) rfl dX12_layAll_12 rfl ?_
      refine lv_iload_n hx hb dX12_layAll_15 rfl (lv_at hl 1 rfl) ?_
      obtain ⟨g4, hf⟩ := zgd hf
      refine zald_i X hP (k := 23) (n := 3) (rs := []) rfl g4 dX12_layAll_16 ?_
      refine zicmp_ge (tgt := 58) hx hb dX12_layAll_17 (by decide) hf (fun hf => ?_) (fun hf => ?_)
      · exact zret_v X hP hS hf dX12_layAll_58
      · refine lv_aload_n hx hb dX12_layAll_20 rfl (lv_at hl 0 rfl) ?_
        refine lv_aload_n hx hb dX12_layAll_21 rfl (lv_at hl 0 rfl) ?_
        refine gf_X12_144 X hP (k := 0) (q := 24) rfl dX12_layAll_22 rfl ?_
        refine lv_bipush (v := 20) hx hb dX12_layAll_25 (by decide) ?_
        refine lv_iload_n hx hb dX12_layAll_27 rfl (lv_at hl 1 rfl) ?_
        refine lv_imul hx hb dX12_layAll_28 ?_
        refine lv_iload_n hx hb dX12_layAll_29 rfl (lv_at hl 2 rfl) ?_
        refine lv_iadd hx hb dX12_layAll_30 ?_
        obtain ⟨g5, hf⟩ := zgd hf
        refine zald_l X hP (k := 24) (n := 60) (rs := []) rfl g5 dX12_layAll_31 ?_
        refine lv_l2i hx hb dX12_layAll_32 rfl ?_
        refine lv_aload_n hx hb dX12_layAll_33 rfl (lv_at hl 0 rfl) ?_
        refine gf_X12_114 X hP (k := 0) (q := 14) rfl dX12_layAll_34 rfl ?_
        obtain ⟨r6, s7, h8, hf⟩ := zbd_some hf
        refine zcallV X hP hS hl.1 (k := 0) (As := [.int ((s1.2 24 ((((20 : Int32) * x1) + x2)).toNatClampNeg)).toInt32, .ref (ad 14)]) (rest := []) (cn_X12_layClass h8) cw_X12_layClass zp_12 rfl (by decide) rfl ml_X12_264 (by decide) rfl rfl (Nat.le_of_ble_eq_true rfl) dX12_layAll_37 (fun H locs hP hS => ?_)
        refine lv_aload_n hx hb dX12_layAll_40 rfl (lv_at hl 0 rfl) ?_
        refine lv_aload_n hx hb dX12_layAll_41 rfl (lv_at hl 0 rfl) ?_
        refine gf_X12_111 X hP (k := 0) (q := 13) rfl dX12_layAll_42 rfl ?_
        refine lv_aload_n hx hb dX12_layAll_45 rfl (lv_at hl 0 rfl) ?_
        refine gf_X12_114 X hP (k := 0) (q := 14) rfl dX12_layAll_46 rfl ?_
        obtain ⟨r9, s10, h11, hf⟩ := zbd_some hf
        refine zcallV X hP hS hl.1 (k := 0) (As := [.ref (ad 13), .ref (ad 14)]) (rest := []) (cn_X12_multiply h11) cw_X12_multiply zp_12 rfl (by decide) rfl ml_X12_272 (by decide) rfl rfl (Nat.le_of_ble_eq_true rfl) dX12_layAll_49 (fun H locs hP hS => ?_)
        refine lv_iinc (v := (x2 + 1)) (lv' := [(2, .int (x2 + 1)), (0, .ref (ad 0)), (1, .int x1)]) hx hb dX12_layAll_52 hl (k := 2) rfl rfl (by decide) rfl (fun ls hl => ?_)
        refine lv_goto (tgt := 10) hx hb dX12_layAll_55 (by decide) ?_
        exact ih10 x1 (x2 + 1) s10 _ _ _ (lv_sub hl [1, 2, 0] rfl) hP hS hf
  rw [f_X12_layAll] at hf
  refine lv_aload_n hx hb dX12_layAll_0 rfl (lv_at hl 0 rfl) ?_
  refine lv_aload_n hx hb dX12_layAll_1 rfl (lv_at hl 0 rfl) ?_
  refine gf_X12_111 X hP (k := 0) (q := 13) rfl dX12_layAll_2 rfl ?_
  obtain ⟨r1, s2, h3, hf⟩ := zbd_some hf
  refine zcallV X hP hS hl.1 (k := 0) (As := [.ref (ad 13)]) (rest := []) (cn_X12_layOne h3) cw_X12_layOne zp_12 rfl (by decide) rfl ml_X12_278 (by decide) rfl rfl (Nat.le_of_ble_eq_true rfl) dX12_layAll_5 (fun H locs hP hS => ?_)
  refine lv_iconst (v := 0) hx hb dX12_layAll_8 (by decide) ?_
  refine lv_istore_n (lv' := [(2, .int 0), (0, .ref (ad 0)), (1, .int x1)]) hx hb dX12_layAll_9 rfl hl (by decide) rfl (fun ls hl => ?_)
  exact hc_10 ZF x1 0 s2 _ _ _ (lv_sub hl [1, 2, 0] rfl) hP hS hf
theorem dX12_meetsAll_0 : decode cX12_meetsAll 0 = .ok (.aload_n 0, 1) := by decide +kernel
theorem dX12_meetsAll_1 : decode cX12_meetsAll 1 = .ok (.iload_n 1, 1) := by decide +kernel
theorem dX12_meetsAll_2 : decode cX12_meetsAll 2 = .ok (.invokevirtual 281, 3) := by decide +kernel
theorem dX12_meetsAll_5 : decode cX12_meetsAll 5 = .ok (.ifCond .ne 7, 3) := by decide +kernel
theorem dX12_meetsAll_8 : decode cX12_meetsAll 8 = .ok (.ldc2_w 220, 3) := by decide +kernel
theorem dX12_meetsAll_11 : decode cX12_meetsAll 11 = .ok (.lreturn, 1) := by decide +kernel
theorem dX12_meetsAll_12 : decode cX12_meetsAll 12 = .ok (.aload_n 0, 1) := by decide +kernel
theorem dX12_meetsAll_13 : decode cX12_meetsAll 13 = .ok (.iload_n 1, 1) := by decide +kernel
theorem dX12_meetsAll_14 : decode cX12_meetsAll 14 = .ok (.invokevirtual 284, 3) := by decide +kernel
theorem dX12_meetsAll_17 : decode cX12_meetsAll 17 = .ok (.ifCond .ne 7, 3) := by decide +kernel
theorem dX12_meetsAll_20 : decode cX12_meetsAll 20 = .ok (.ldc2_w 287, 3) := by decide +kernel
theorem dX12_meetsAll_23 : decode cX12_meetsAll 23 = .ok (.lreturn, 1) := by decide +kernel
theorem dX12_meetsAll_24 : decode cX12_meetsAll 24 = .ok (.aload_n 0, 1) := by decide +kernel
theorem dX12_meetsAll_25 : decode cX12_meetsAll 25 = .ok (.iload_n 1, 1) := by decide +kernel
theorem dX12_meetsAll_26 : decode cX12_meetsAll 26 = .ok (.invokevirtual 289, 3) := by decide +kernel
theorem dX12_meetsAll_29 : decode cX12_meetsAll 29 = .ok (.aload_n 0, 1) := by decide +kernel
theorem dX12_meetsAll_30 : decode cX12_meetsAll 30 = .ok (.aload_n 0, 1) := by decide +kernel
theorem dX12_meetsAll_31 : decode cX12_meetsAll 31 = .ok (.getfield 111, 3) := by decide +kernel
theorem dX12_meetsAll_34 : decode cX12_meetsAll 34 = .ok (.invokevirtual 268, 3) := by decide +kernel
theorem dX12_meetsAll_37 : decode cX12_meetsAll 37 = .ok (.lreturn, 1) := by decide +kernel
set_option maxHeartbeats 4000000 in
set_option maxRecDepth 100000 in
theorem cn_X12_meetsAll {l : Launch} {cA : Nat → ClassId} {ad : Nat → Nat} {D : va_G} {E : Nat → Nat} {A : Nat → Prop} {x1 : Int32} {s0 sr : SS} {rr : Int64} (hf : f_X12_meetsAll x1 s0 = some (rr, sr)) : zCon Om Nm cA ad D E l yX12_meetsAll cX12_meetsAll 2 (some .long) 6 A [.ref (ad 0), .int x1] s0 (some (.long rr)) sr := by
  refine zstart (own := RX12) hOm (by decide) rfl (Nat.le_of_ble_eq_true rfl) ?_
  intro p e s m args below meth c X hP ls hl
  have hx := X.1
  have hb := X.2.1
  have hl : lv_has ls 2 [(0, .ref (ad 0)), (1, .int x1)] := hl
  have hS : va_S A s.heap s.heap [] := va_S.rf
  rw [f_X12_meetsAll] at hf
  refine lv_aload_n hx hb dX12_meetsAll_0 rfl (lv_at hl 0 rfl) ?_
  refine lv_iload_n hx hb dX12_meetsAll_1 rfl (lv_at hl 1 rfl) ?_
  obtain ⟨r1, s2, h3, hf⟩ := zbd_some hf
  refine zcallV X hP hS hl.1 (k := 0) (As := [.int x1]) (rest := []) (cn_X12_isThere h3) cw_X12_isThere zp_12 rfl (by decide) rfl ml_X12_281 (by decide) rfl rfl (Nat.le_of_ble_eq_true rfl) dX12_meetsAll_2 (fun H locs hP hS => ?_)
  refine zif_ne (tgt := 12) hx hb dX12_meetsAll_5 (by decide) hf (fun hf => ?_) (fun hf => ?_)
  · refine lv_aload_n hx hb dX12_meetsAll_12 rfl (lv_at hl 0 rfl) ?_
    refine lv_iload_n hx hb dX12_meetsAll_13 rfl (lv_at hl 1 rfl) ?_
    obtain ⟨r4, s5, h6, hf⟩ := zbd_some hf
    refine zcallV X hP hS hl.1 (k := 0) (As := [.int x1]) (rest := []) (cn_X12_areClasses h6) cw_X12_areClasses zp_12 rfl (by decide) rfl ml_X12_284 (by decide) rfl rfl (Nat.le_of_ble_eq_true rfl) dX12_meetsAll_14 (fun H locs hP hS => ?_)
    refine zif_ne (tgt := 24) hx hb dX12_meetsAll_17 (by decide) hf (fun hf => ?_) (fun hf => ?_)
    · refine lv_aload_n hx hb dX12_meetsAll_24 rfl (lv_at hl 0 rfl) ?_
      refine lv_iload_n hx hb dX12_meetsAll_25 rfl (lv_at hl 1 rfl) ?_
      obtain ⟨r7, s8, h9, hf⟩ := zbd_some hf
      refine zcallV X hP hS hl.1 (k := 0) (As := [.int x1]) (rest := []) (cn_X12_layAll h9) cw_X12_layAll zp_12 rfl (by decide) rfl ml_X12_289 (by decide) rfl rfl (Nat.le_of_ble_eq_true rfl) dX12_meetsAll_26 (fun H locs hP hS => ?_)
      refine lv_aload_n hx hb dX12_meetsAll_29 rfl (lv_at hl 0 rfl) ?_
      refine lv_aload_n hx hb dX12_meetsAll_30 rfl (lv_at hl 0 rfl) ?_
      refine gf_X12_111 X hP (k := 0) (q := 13) rfl dX12_meetsAll_31 rfl ?_
      obtain ⟨r10, s11, h12, hf⟩ := zbd_some hf
      refine zcallV X hP hS hl.1 (k := 0) (As := [.ref (ad 13)]) (rest := []) (cn_X12_metOf h12) cw_X12_metOf zp_12 rfl (by decide) rfl ml_X12_268 (by decide) rfl rfl (Nat.le_of_ble_eq_true rfl) dX12_meetsAll_34 (fun H locs hP hS => ?_)
      exact zret_l X hP hS hf dX12_meetsAll_37
    · refine zldc2 X co_X12_287 dX12_meetsAll_20 ?_
      exact zret_l X hP hS hf dX12_meetsAll_23
  · refine zldc2 X co_X12_220 dX12_meetsAll_8 ?_
    exact zret_l X hP hS hf dX12_meetsAll_11
theorem dX12_self_0 : decode cX12_self 0 = .ok (.aload_n 0, 1) := by decide +kernel
theorem dX12_self_1 : decode cX12_self 1 = .ok (.iload_n 1, 1) := by decide +kernel
theorem dX12_self_2 : decode cX12_self 2 = .ok (.i2l, 1) := by decide +kernel
theorem dX12_self_3 : decode cX12_self 3 = .ok (.invokevirtual 245, 3) := by decide +kernel
theorem dX12_self_6 : decode cX12_self 6 = .ok (.ifCond .eq 15, 3) := by decide +kernel
theorem dX12_self_9 : decode cX12_self 9 = .ok (.iload_n 2, 1) := by decide +kernel
theorem dX12_self_10 : decode cX12_self 10 = .ok (.i2l, 1) := by decide +kernel
theorem dX12_self_11 : decode cX12_self 11 = .ok (.lconst 0, 1) := by decide +kernel
theorem dX12_self_12 : decode cX12_self 12 = .ok (.ldc2_w 292, 3) := by decide +kernel
theorem dX12_self_15 : decode cX12_self 15 = .ok (.invokestatic 203, 3) := by decide +kernel
theorem dX12_self_18 : decode cX12_self 18 = .ok (.ifCond .ne 7, 3) := by decide +kernel
theorem dX12_self_21 : decode cX12_self 21 = .ok (.ldc2_w 220, 3) := by decide +kernel
theorem dX12_self_24 : decode cX12_self 24 = .ok (.lreturn, 1) := by decide +kernel
theorem dX12_self_25 : decode cX12_self 25 = .ok (.aload_n 0, 1) := by decide +kernel
theorem dX12_self_26 : decode cX12_self 26 = .ok (.aload_n 0, 1) := by decide +kernel
theorem dX12_self_27 : decode cX12_self 27 = .ok (.getfield 111, 3) := by decide +kernel
theorem dX12_self_30 : decode cX12_self 30 = .ok (.invokevirtual 278, 3) := by decide +kernel
theorem dX12_self_33 : decode cX12_self 33 = .ok (.aload_n 0, 1) := by decide +kernel
theorem dX12_self_34 : decode cX12_self 34 = .ok (.iload_n 1, 1) := by decide +kernel
theorem dX12_self_35 : decode cX12_self 35 = .ok (.aload_n 0, 1) := by decide +kernel
theorem dX12_self_36 : decode cX12_self 36 = .ok (.getfield 114, 3) := by decide +kernel
theorem dX12_self_39 : decode cX12_self 39 = .ok (.invokevirtual 264, 3) := by decide +kernel
theorem dX12_self_42 : decode cX12_self 42 = .ok (.iconst 0, 1) := by decide +kernel
theorem dX12_self_43 : decode cX12_self 43 = .ok (.istore_n 3, 1) := by decide +kernel
theorem dX12_self_44 : decode cX12_self 44 = .ok (.iload_n 3, 1) := by decide +kernel
theorem dX12_self_45 : decode cX12_self 45 = .ok (.iload_n 2, 1) := by decide +kernel
theorem dX12_self_46 : decode cX12_self 46 = .ok (.if_icmp .ge 21, 3) := by decide +kernel
theorem dX12_self_49 : decode cX12_self 49 = .ok (.aload_n 0, 1) := by decide +kernel
theorem dX12_self_50 : decode cX12_self 50 = .ok (.aload_n 0, 1) := by decide +kernel
theorem dX12_self_51 : decode cX12_self 51 = .ok (.getfield 111, 3) := by decide +kernel
theorem dX12_self_54 : decode cX12_self 54 = .ok (.aload_n 0, 1) := by decide +kernel
theorem dX12_self_55 : decode cX12_self 55 = .ok (.getfield 114, 3) := by decide +kernel
theorem dX12_self_58 : decode cX12_self 58 = .ok (.invokevirtual 272, 3) := by decide +kernel
theorem dX12_self_61 : decode cX12_self 61 = .ok (.iinc 3 1, 3) := by decide +kernel
theorem dX12_self_64 : decode cX12_self 64 = .ok (.goto (-20), 3) := by decide +kernel
theorem dX12_self_67 : decode cX12_self 67 = .ok (.aload_n 0, 1) := by decide +kernel
theorem dX12_self_68 : decode cX12_self 68 = .ok (.aload_n 0, 1) := by decide +kernel
theorem dX12_self_69 : decode cX12_self 69 = .ok (.getfield 111, 3) := by decide +kernel
theorem dX12_self_72 : decode cX12_self 72 = .ok (.invokevirtual 268, 3) := by decide +kernel
theorem dX12_self_75 : decode cX12_self 75 = .ok (.lreturn, 1) := by decide +kernel
set_option maxHeartbeats 4000000 in
set_option maxRecDepth 100000 in
theorem cn_X12_self {l : Launch} {cA : Nat → ClassId} {ad : Nat → Nat} {D : va_G} {E : Nat → Nat} {A : Nat → Prop} {x1 : Int32} {x2 : Int32} {s0 sr : SS} {rr : Int64} (hf : f_X12_self x1 x2 s0 = some (rr, sr)) : zCon Om Nm cA ad D E l yX12_self cX12_self 4 (some .long) 5 A [.ref (ad 0), .int x1, .int x2] s0 (some (.long rr)) sr := by
  refine zstart (own := RX12) hOm (by decide) rfl (Nat.le_of_ble_eq_true rfl) ?_
  intro p e s m args below meth c X hP ls hl
  have hx := X.1
  have hb := X.2.1
  have hl : lv_has ls 4 [(0, .ref (ad 0)), (1, .int x1), (2, .int x2)] := hl
  have hS : va_S A s.heap s.heap [] := va_S.rf
  have hc_44 : ∀ (n44 : Nat) (x2 : Int32) (x3 : Int32) (s1 : SS) (H : Heap) (locs : List Loc) (ls : Array Slot), lv_has ls 4 [(0, .ref (ad 0)), (2, .int x2), (3, .int x3)] → va_P D ZCL (zw Om Nm cA ad s1) H → va_S A s.heap H locs → f_X12_self_c44 n44 x2 x3 s1 = some (rr, sr) → W p l e (zrm 5) s m args below meth c H locs 0 0 (MQ below (zQc Om Nm cA ad D A (some (.long rr)) sr) args s 0 0 A) (F0 m 44 ls []) := by
    intro n44
    induction n44 with
    | zero =>
      intro x2 x3 s1 H locs ls hl hP hS hf
      rw [f_X12_self_c44] at hf
      cases hf
    | succ n44 ih44 =>
      intro x2 x3 s1 H locs ls hl hP hS hf
      rw [f_X12_self_c44] at hf
      refine lv_iload_n hx hb dX12_self_44 rfl (lv_at hl 2 rfl) ?_
      refine lv_iload_n hx hb dX12_self_45 rfl (lv_at hl 1 rfl) ?_
      refine zicmp_ge (tgt := 67) hx hb dX12_self_46 (by decide) hf (fun hf => ?_) (fun hf => ?_)
      · refine lv_aload_n hx hb dX12_self_67 rfl (lv_at hl 0 rfl) ?_
        refine lv_aload_n hx hb dX12_self_68 rfl (lv_at hl 0 rfl) ?_
        refine gf_X12_111 X hP (k := 0) (q := 13) rfl dX12_self_69 rfl ?_
        obtain ⟨r13, s14, h15, hf⟩ := zbd_some hf
        refine zcallV X hP hS hl.1 (k := 0) (As := [.ref (ad 13)]) (rest := []) (cn_X12_metOf h15) cw_X12_metOf zp_12 rfl (by decide) rfl ml_X12_268 (by decide) rfl rfl (Nat.le_of_ble_eq_true rfl) dX12_self_72 (fun H locs hP hS => ?_)
        exact zret_l X hP hS hf dX12_self_75
      · refine lv_aload_n hx hb dX12_self_49 rfl (lv_at hl 0 rfl) ?_
        refine lv_aload_n hx hb dX12_self_50 rfl (lv_at hl 0 rfl) ?_
        refine gf_X12_111 X hP (k := 0) (q := 13) rfl dX12_self_51 rfl ?_
        refine lv_aload_n hx hb dX12_self_54 rfl (lv_at hl 0 rfl) ?_
        refine gf_X12_114 X hP (k := 0) (q := 14) rfl dX12_self_55 rfl ?_
        obtain ⟨r16, s17, h18, hf⟩ := zbd_some hf
        refine zcallV X hP hS hl.1 (k := 0) (As := [.ref (ad 13), .ref (ad 14)]) (rest := []) (cn_X12_multiply h18) cw_X12_multiply zp_12 rfl (by decide) rfl ml_X12_272 (by decide) rfl rfl (Nat.le_of_ble_eq_true rfl) dX12_self_58 (fun H locs hP hS => ?_)
        refine lv_iinc (v := (x3 + 1)) (lv' := [(3, .int (x3 + 1)), (0, .ref (ad 0)), (2, .int x2)]) hx hb dX12_self_61 hl (k := 2) rfl rfl (by decide) rfl (fun ls hl => ?_)
        refine lv_goto (tgt := 44) hx hb dX12_self_64 (by decide) ?_
        exact ih44 x2 (x3 + 1) s17 _ _ _ (lv_sub hl [1, 2, 0] rfl) hP hS hf
  rw [f_X12_self] at hf
  refine lv_aload_n hx hb dX12_self_0 rfl (lv_at hl 0 rfl) ?_
  refine lv_iload_n hx hb dX12_self_1 rfl (lv_at hl 1 rfl) ?_
  refine lv_i2l hx hb dX12_self_2 rfl ?_
  obtain ⟨r1, s2, h3, hf⟩ := zbd_some hf
  refine zcallV X hP hS hl.1 (k := 0) (As := [.long (x1).toInt64]) (rest := []) (cn_X12_isClass h3) cw_X12_isClass zp_12 rfl (by decide) rfl ml_X12_245 (by decide) rfl rfl (Nat.le_of_ble_eq_true rfl) dX12_self_3 (fun H locs hP hS => ?_)
  refine zif_eq (tgt := 21) hx hb dX12_self_6 (by decide) hf (fun hf => ?_) (fun hf => ?_)
  · refine zldc2 X co_X12_220 dX12_self_21 ?_
    exact zret_l X hP hS hf dX12_self_24
  · refine lv_iload_n hx hb dX12_self_9 rfl (lv_at hl 2 rfl) ?_
    refine lv_i2l hx hb dX12_self_10 rfl ?_
    refine lv_lconst (v := 0) hx hb dX12_self_11 (by decide) ?_
    refine zldc2 X co_X12_292 dX12_self_12 ?_
    obtain ⟨r4, s5, h6, hf⟩ := zbd_some hf
    refine zcallS X hP hS hl.1 (As := [.long (x2).toInt64, .long 0, .long 6]) (rest := []) (cn_X12_in h6) cw_X12_in ml_X12_203 (by decide) rfl rfl (Nat.le_of_ble_eq_true rfl) dX12_self_15 (fun H locs hP hS => ?_)
    refine zif_ne (tgt := 25) hx hb dX12_self_18 (by decide) hf (fun hf => ?_) (fun hf => ?_)
    · refine lv_aload_n hx hb dX12_self_25 rfl (lv_at hl 0 rfl) ?_
      refine lv_aload_n hx hb dX12_self_26 rfl (lv_at hl 0 rfl) ?_
      refine gf_X12_111 X hP (k := 0) (q := 13) rfl dX12_self_27 rfl ?_
      obtain ⟨r7, s8, h9, hf⟩ := zbd_some hf
      refine zcallV X hP hS hl.1 (k := 0) (As := [.ref (ad 13)]) (rest := []) (cn_X12_layOne h9) cw_X12_layOne zp_12 rfl (by decide) rfl ml_X12_278 (by decide) rfl rfl (Nat.le_of_ble_eq_true rfl) dX12_self_30 (fun H locs hP hS => ?_)
      refine lv_aload_n hx hb dX12_self_33 rfl (lv_at hl 0 rfl) ?_
      refine lv_iload_n hx hb dX12_self_34 rfl (lv_at hl 1 rfl) ?_
      refine lv_aload_n hx hb dX12_self_35 rfl (lv_at hl 0 rfl) ?_
      refine gf_X12_114 X hP (k := 0) (q := 14) rfl dX12_self_36 rfl ?_
      obtain ⟨r10, s11, h12, hf⟩ := zbd_some hf
      refine zcallV X hP hS hl.1 (k := 0) (As := [.int x1, .ref (ad 14)]) (rest := []) (cn_X12_layClass h12) cw_X12_layClass zp_12 rfl (by decide) rfl ml_X12_264 (by decide) rfl rfl (Nat.le_of_ble_eq_true rfl) dX12_self_39 (fun H locs hP hS => ?_)
      refine lv_iconst (v := 0) hx hb dX12_self_42 (by decide) ?_
      refine lv_istore_n (lv' := [(3, .int 0), (0, .ref (ad 0)), (1, .int x1), (2, .int x2)]) hx hb dX12_self_43 rfl hl (by decide) rfl (fun ls hl => ?_)
      exact hc_44 ZF x2 0 s11 _ _ _ (lv_sub hl [1, 3, 0] rfl) hP hS hf
    · refine zldc2 X co_X12_220 dX12_self_21 ?_
      exact zret_l X hP hS hf dX12_self_24
theorem dX12_metWith_0 : decode cX12_metWith 0 = .ok (.lconst 0, 1) := by decide +kernel
theorem dX12_metWith_1 : decode cX12_metWith 1 = .ok (.lstore_n 3, 1) := by decide +kernel
theorem dX12_metWith_2 : decode cX12_metWith 2 = .ok (.iconst 0, 1) := by decide +kernel
theorem dX12_metWith_3 : decode cX12_metWith 3 = .ok (.istore 5, 2) := by decide +kernel
theorem dX12_metWith_5 : decode cX12_metWith 5 = .ok (.iload 5, 2) := by decide +kernel
theorem dX12_metWith_7 : decode cX12_metWith 7 = .ok (.aload_n 0, 1) := by decide +kernel
theorem dX12_metWith_8 : decode cX12_metWith 8 = .ok (.getfield 56, 3) := by decide +kernel
theorem dX12_metWith_11 : decode cX12_metWith 11 = .ok (.if_icmp .ge 66, 3) := by decide +kernel
theorem dX12_metWith_14 : decode cX12_metWith 14 = .ok (.lload_n 3, 1) := by decide +kernel
theorem dX12_metWith_15 : decode cX12_metWith 15 = .ok (.aload_n 0, 1) := by decide +kernel
theorem dX12_metWith_16 : decode cX12_metWith 16 = .ok (.getfield 75, 3) := by decide +kernel
theorem dX12_metWith_19 : decode cX12_metWith 19 = .ok (.iload 5, 2) := by decide +kernel
theorem dX12_metWith_21 : decode cX12_metWith 21 = .ok (.iaload, 1) := by decide +kernel
theorem dX12_metWith_22 : decode cX12_metWith 22 = .ok (.aload_n 0, 1) := by decide +kernel
theorem dX12_metWith_23 : decode cX12_metWith 23 = .ok (.getfield 75, 3) := by decide +kernel
theorem dX12_metWith_26 : decode cX12_metWith 26 = .ok (.iload_n 2, 1) := by decide +kernel
theorem dX12_metWith_27 : decode cX12_metWith 27 = .ok (.iaload, 1) := by decide +kernel
theorem dX12_metWith_28 : decode cX12_metWith 28 = .ok (.iadd, 1) := by decide +kernel
theorem dX12_metWith_29 : decode cX12_metWith 29 = .ok (.aload_n 0, 1) := by decide +kernel
theorem dX12_metWith_30 : decode cX12_metWith 30 = .ok (.getfield 27, 3) := by decide +kernel
theorem dX12_metWith_33 : decode cX12_metWith 33 = .ok (.if_icmp .ne 35, 3) := by decide +kernel
theorem dX12_metWith_36 : decode cX12_metWith 36 = .ok (.aload_n 1, 1) := by decide +kernel
theorem dX12_metWith_37 : decode cX12_metWith 37 = .ok (.iload 5, 2) := by decide +kernel
theorem dX12_metWith_39 : decode cX12_metWith 39 = .ok (.laload, 1) := by decide +kernel
theorem dX12_metWith_40 : decode cX12_metWith 40 = .ok (.aload_n 0, 1) := by decide +kernel
theorem dX12_metWith_41 : decode cX12_metWith 41 = .ok (.getfield 78, 3) := by decide +kernel
theorem dX12_metWith_44 : decode cX12_metWith 44 = .ok (.aload_n 0, 1) := by decide +kernel
theorem dX12_metWith_45 : decode cX12_metWith 45 = .ok (.getfield 65, 3) := by decide +kernel
theorem dX12_metWith_48 : decode cX12_metWith 48 = .ok (.aload_n 0, 1) := by decide +kernel
theorem dX12_metWith_49 : decode cX12_metWith 49 = .ok (.getfield 62, 3) := by decide +kernel
theorem dX12_metWith_52 : decode cX12_metWith 52 = .ok (.iload 5, 2) := by decide +kernel
theorem dX12_metWith_54 : decode cX12_metWith 54 = .ok (.iaload, 1) := by decide +kernel
theorem dX12_metWith_55 : decode cX12_metWith 55 = .ok (.aload_n 0, 1) := by decide +kernel
theorem dX12_metWith_56 : decode cX12_metWith 56 = .ok (.getfield 62, 3) := by decide +kernel
theorem dX12_metWith_59 : decode cX12_metWith 59 = .ok (.iload_n 2, 1) := by decide +kernel
theorem dX12_metWith_60 : decode cX12_metWith 60 = .ok (.iaload, 1) := by decide +kernel
theorem dX12_metWith_61 : decode cX12_metWith 61 = .ok (.iadd, 1) := by decide +kernel
theorem dX12_metWith_62 : decode cX12_metWith 62 = .ok (.iaload, 1) := by decide +kernel
theorem dX12_metWith_63 : decode cX12_metWith 63 = .ok (.laload, 1) := by decide +kernel
theorem dX12_metWith_64 : decode cX12_metWith 64 = .ok (.lmul, 1) := by decide +kernel
theorem dX12_metWith_65 : decode cX12_metWith 65 = .ok (.goto 4, 3) := by decide +kernel
theorem dX12_metWith_68 : decode cX12_metWith 68 = .ok (.lconst 0, 1) := by decide +kernel
theorem dX12_metWith_69 : decode cX12_metWith 69 = .ok (.ladd, 1) := by decide +kernel
theorem dX12_metWith_70 : decode cX12_metWith 70 = .ok (.lstore_n 3, 1) := by decide +kernel
theorem dX12_metWith_71 : decode cX12_metWith 71 = .ok (.iinc 5 1, 3) := by decide +kernel
theorem dX12_metWith_74 : decode cX12_metWith 74 = .ok (.goto (-69), 3) := by decide +kernel
theorem dX12_metWith_77 : decode cX12_metWith 77 = .ok (.lload_n 3, 1) := by decide +kernel
theorem dX12_metWith_78 : decode cX12_metWith 78 = .ok (.lreturn, 1) := by decide +kernel
set_option maxHeartbeats 4000000 in
set_option maxRecDepth 100000 in
theorem cn_X12_metWith {l : Launch} {cA : Nat → ClassId} {ad : Nat → Nat} {D : va_G} {E : Nat → Nat} {A : Nat → Prop} {k1 : Nat} {x2 : Int32} {s0 sr : SS} {rr : Int64} (hf : f_X12_metWith k1 x2 s0 = some (rr, sr)) : zCon Om Nm cA ad D E l yX12_metWith cX12_metWith 6 (some .long) 0 A [.ref (ad 0), .ref (ad k1), .int x2] s0 (some (.long rr)) sr := by
  refine zstart (own := RX12) hOm (by decide) rfl (Nat.le_of_ble_eq_true rfl) ?_
  intro p e s m args below meth c X hP ls hl
  have hx := X.1
  have hb := X.2.1
  have hl : lv_has ls 6 [(0, .ref (ad 0)), (1, .ref (ad k1)), (2, .int x2)] := hl
  have hS : va_S A s.heap s.heap [] := va_S.rf
  have hc_5 : ∀ (n5 : Nat) (k1 : Nat) (x2 : Int32) (x3 : Int64) (x5 : Int32) (s1 : SS) (H : Heap) (locs : List Loc) (ls : Array Slot), lv_has ls 6 [(0, .ref (ad 0)), (1, .ref (ad k1)), (2, .int x2), (3, .long x3), (5, .int x5)] → va_P D ZCL (zw Om Nm cA ad s1) H → va_S A s.heap H locs → f_X12_metWith_c5 n5 k1 x2 x3 x5 s1 = some (rr, sr) → W p l e (zrm 0) s m args below meth c H locs 0 0 (MQ below (zQc Om Nm cA ad D A (some (.long rr)) sr) args s 0 0 A) (F0 m 5 ls []) := by
    intro n5
    induction n5 with
    | zero =>
      intro k1 x2 x3 x5 s1 H locs ls hl hP hS hf
      rw [f_X12_metWith_c5] at hf
      cases hf
    | succ n5 ih5 =>
      have hc_69 : ∀ (k1 : Nat) (x2 : Int32) (x5 : Int32) (t0 : Int64) (t1 : Int64) (s1 : SS) (H : Heap) (locs : List Loc) (ls : Array Slot), lv_has ls 6 [(0, .ref (ad 0)), (1, .ref (ad k1)), (2, .int x2), (5, .int x5)] → va_P D ZCL (zw Om Nm cA ad s1) H → va_S A s.heap H locs → f_X12_metWith_c69 (f_X12_metWith_c5 n5) k1 x2 x5 t0 t1 s1 = some (rr, sr) → W p l e (zrm 0) s m args below meth c H locs 0 0 (MQ below (zQc Om Nm cA ad D A (some (.long rr)) sr) args s 0 0 A) (F0 m 69 ls [.long t0, .long t1]) := by
        intro k1 x2 x5 t0 t1 s1 H locs ls hl hP hS hf
        rw [f_X12_metWith_c69] at hf
        refine lv_ladd hx hb dX12_metWith_69 ?_
        refine lv_lstore_n (lv' := [(3, .long (t1 + t0)), (0, .ref (ad 0)), (1, .ref (ad k1)), (2, .int x2), (5, .int x5)]) hx hb dX12_metWith_70 rfl hl (by decide) rfl (fun ls hl => ?_)
        refine lv_iinc (v := (x5 + 1)) (lv' := [(5, .int (x5 + 1)), (3, .long (t1 + t0)), (0, .ref (ad 0)), (1, .ref (ad k1)), (2, .int x2)]) hx hb dX12_metWith_71 hl (k := 4) rfl rfl (by decide) rfl (fun ls hl => ?_)
        refine lv_goto (tgt := 5) hx hb dX12_metWith_74 (by decide) ?_
        exact ih5 k1 x2 (t1 + t0) (x5 + 1) s1 _ _ _ (lv_sub hl [2, 3, 4, 1, 0] rfl) hP hS hf
      intro k1 x2 x3 x5 s1 H locs ls hl hP hS hf
      rw [f_X12_metWith_c5] at hf
      refine lv_iload hx hb dX12_metWith_5 (lv_at hl 4 rfl) ?_
      refine lv_aload_n hx hb dX12_metWith_7 rfl (lv_at hl 0 rfl) ?_
      refine gf_X12_56 X hP (k := 0) rfl dX12_metWith_8 ?_
      refine zicmp_ge (tgt := 77) hx hb dX12_metWith_11 (by decide) hf (fun hf => ?_) (fun hf => ?_)
      · refine lv_lload_n hx hb dX12_metWith_77 rfl (lv_at hl 3 rfl) ?_
        exact zret_l X hP hS hf dX12_metWith_78
      · refine lv_lload_n hx hb dX12_metWith_14 rfl (lv_at hl 3 rfl) ?_
        refine lv_aload_n hx hb dX12_metWith_15 rfl (lv_at hl 0 rfl) ?_
        refine gf_X12_75 X hP (k := 0) (q := 5) rfl dX12_metWith_16 rfl ?_
        refine lv_iload hx hb dX12_metWith_19 (lv_at hl 4 rfl) ?_
        obtain ⟨g1, hf⟩ := zgd hf
        refine zald_i X hP (k := 5) (n := 462) (rs := []) rfl g1 dX12_metWith_21 ?_
        refine lv_aload_n hx hb dX12_metWith_22 rfl (lv_at hl 0 rfl) ?_
        refine gf_X12_75 X hP (k := 0) (q := 5) rfl dX12_metWith_23 rfl ?_
        refine lv_iload_n hx hb dX12_metWith_26 rfl (lv_at hl 2 rfl) ?_
        obtain ⟨g2, hf⟩ := zgd hf
        refine zald_i X hP (k := 5) (n := 462) (rs := []) rfl g2 dX12_metWith_27 ?_
        refine lv_iadd hx hb dX12_metWith_28 ?_
        refine lv_aload_n hx hb dX12_metWith_29 rfl (lv_at hl 0 rfl) ?_
        refine gf_X12_27 X hP (k := 0) rfl dX12_metWith_30 ?_
        refine zicmp_ne (tgt := 68) hx hb dX12_metWith_33 (by decide) hf (fun hf => ?_) (fun hf => ?_)
        · refine lv_lconst (v := 0) hx hb dX12_metWith_68 (by decide) ?_
          exact hc_69 k1 x2 x5 0 x3 s1 _ _ _ (lv_sub hl [0, 1, 2, 4] rfl) hP hS hf
        · refine lv_aload_n hx hb dX12_metWith_36 rfl (lv_at hl 1 rfl) ?_
          refine lv_iload hx hb dX12_metWith_37 (lv_at hl 4 rfl) ?_
          obtain ⟨g3, hf⟩ := zgd hf
          obtain ⟨n8, rn8, on8, in8⟩ := zok_of g3
          refine zald_l X hP (k := k1) on8 in8 dX12_metWith_39 ?_
          refine lv_aload_n hx hb dX12_metWith_40 rfl (lv_at hl 0 rfl) ?_
          refine gf_X12_78 X hP (k := 0) (q := 6) rfl dX12_metWith_41 rfl ?_
          refine lv_aload_n hx hb dX12_metWith_44 rfl (lv_at hl 0 rfl) ?_
          refine gf_X12_65 X hP (k := 0) (q := 7) rfl dX12_metWith_45 rfl ?_
          refine lv_aload_n hx hb dX12_metWith_48 rfl (lv_at hl 0 rfl) ?_
          refine gf_X12_62 X hP (k := 0) (q := 4) rfl dX12_metWith_49 rfl ?_
          refine lv_iload hx hb dX12_metWith_52 (lv_at hl 4 rfl) ?_
          obtain ⟨g4, hf⟩ := zgd hf
          refine zald_i X hP (k := 4) (n := 462) (rs := []) rfl g4 dX12_metWith_54 ?_
          refine lv_aload_n hx hb dX12_metWith_55 rfl (lv_at hl 0 rfl) ?_
          refine gf_X12_62 X hP (k := 0) (q := 4) rfl dX12_metWith_56 rfl ?_
          refine lv_iload_n hx hb dX12_metWith_59 rfl (lv_at hl 2 rfl) ?_
          obtain ⟨g5, hf⟩ := zgd hf
          refine zald_i X hP (k := 4) (n := 462) (rs := []) rfl g5 dX12_metWith_60 ?_
          refine lv_iadd hx hb dX12_metWith_61 ?_
          obtain ⟨g6, hf⟩ := zgd hf
          refine zald_i X hP (k := 7) (n := 600000) (rs := []) rfl g6 dX12_metWith_62 ?_
          obtain ⟨g7, hf⟩ := zgd hf
          refine zald_l X hP (k := 6) (n := 462) (rs := []) rfl g7 dX12_metWith_63 ?_
          refine lv_lmul hx hb dX12_metWith_64 ?_
          refine lv_goto (tgt := 69) hx hb dX12_metWith_65 (by decide) ?_
          exact hc_69 k1 x2 x5 ((s1.2 k1 (x5).toNatClampNeg) * (s1.2 6 ((s1.1 7 (((s1.1 4 (x5).toNatClampNeg) + (s1.1 4 (x2).toNatClampNeg))).toNatClampNeg)).toNatClampNeg)) x3 s1 _ _ _ (lv_sub hl [0, 1, 2, 4] rfl) hP hS hf
  rw [f_X12_metWith] at hf
  refine lv_lconst (v := 0) hx hb dX12_metWith_0 (by decide) ?_
  refine lv_lstore_n (lv' := [(3, .long 0), (0, .ref (ad 0)), (1, .ref (ad k1)), (2, .int x2)]) hx hb dX12_metWith_1 rfl hl (by decide) rfl (fun ls hl => ?_)
  refine lv_iconst (v := 0) hx hb dX12_metWith_2 (by decide) ?_
  refine lv_istore (lv' := [(5, .int 0), (3, .long 0), (0, .ref (ad 0)), (1, .ref (ad k1)), (2, .int x2)]) hx hb dX12_metWith_3 hl (by decide) rfl (fun ls hl => ?_)
  exact hc_5 ZF k1 x2 0 0 s0 _ _ _ (lv_sub hl [2, 3, 4, 1, 0] rfl) hP hS hf
theorem dX12_like_0 : decode cX12_like 0 = .ok (.aload_n 0, 1) := by decide +kernel
theorem dX12_like_1 : decode cX12_like 1 = .ok (.iload_n 1, 1) := by decide +kernel
theorem dX12_like_2 : decode cX12_like 2 = .ok (.i2l, 1) := by decide +kernel
theorem dX12_like_3 : decode cX12_like 3 = .ok (.invokevirtual 245, 3) := by decide +kernel
theorem dX12_like_6 : decode cX12_like 6 = .ok (.ifCond .eq 12, 3) := by decide +kernel
theorem dX12_like_9 : decode cX12_like 9 = .ok (.aload_n 0, 1) := by decide +kernel
theorem dX12_like_10 : decode cX12_like 10 = .ok (.iload_n 2, 1) := by decide +kernel
theorem dX12_like_11 : decode cX12_like 11 = .ok (.i2l, 1) := by decide +kernel
theorem dX12_like_12 : decode cX12_like 12 = .ok (.invokevirtual 245, 3) := by decide +kernel
theorem dX12_like_15 : decode cX12_like 15 = .ok (.ifCond .ne 5, 3) := by decide +kernel
theorem dX12_like_18 : decode cX12_like 18 = .ok (.iconst (-1), 1) := by decide +kernel
theorem dX12_like_19 : decode cX12_like 19 = .ok (.ireturn, 1) := by decide +kernel
theorem dX12_like_20 : decode cX12_like 20 = .ok (.aload_n 0, 1) := by decide +kernel
theorem dX12_like_21 : decode cX12_like 21 = .ok (.iload_n 1, 1) := by decide +kernel
theorem dX12_like_22 : decode cX12_like 22 = .ok (.aload_n 0, 1) := by decide +kernel
theorem dX12_like_23 : decode cX12_like 23 = .ok (.getfield 111, 3) := by decide +kernel
theorem dX12_like_26 : decode cX12_like 26 = .ok (.invokevirtual 264, 3) := by decide +kernel
theorem dX12_like_29 : decode cX12_like 29 = .ok (.aload_n 0, 1) := by decide +kernel
theorem dX12_like_30 : decode cX12_like 30 = .ok (.iload_n 2, 1) := by decide +kernel
theorem dX12_like_31 : decode cX12_like 31 = .ok (.aload_n 0, 1) := by decide +kernel
theorem dX12_like_32 : decode cX12_like 32 = .ok (.getfield 114, 3) := by decide +kernel
theorem dX12_like_35 : decode cX12_like 35 = .ok (.invokevirtual 264, 3) := by decide +kernel
theorem dX12_like_38 : decode cX12_like 38 = .ok (.iconst 0, 1) := by decide +kernel
theorem dX12_like_39 : decode cX12_like 39 = .ok (.istore_n 3, 1) := by decide +kernel
theorem dX12_like_40 : decode cX12_like 40 = .ok (.iload_n 3, 1) := by decide +kernel
theorem dX12_like_41 : decode cX12_like 41 = .ok (.aload_n 0, 1) := by decide +kernel
theorem dX12_like_42 : decode cX12_like 42 = .ok (.getfield 56, 3) := by decide +kernel
theorem dX12_like_45 : decode cX12_like 45 = .ok (.if_icmp .ge 33, 3) := by decide +kernel
theorem dX12_like_48 : decode cX12_like 48 = .ok (.aload_n 0, 1) := by decide +kernel
theorem dX12_like_49 : decode cX12_like 49 = .ok (.aload_n 0, 1) := by decide +kernel
theorem dX12_like_50 : decode cX12_like 50 = .ok (.getfield 111, 3) := by decide +kernel
theorem dX12_like_53 : decode cX12_like 53 = .ok (.iload_n 3, 1) := by decide +kernel
theorem dX12_like_54 : decode cX12_like 54 = .ok (.invokevirtual 294, 3) := by decide +kernel
theorem dX12_like_57 : decode cX12_like 57 = .ok (.aload_n 0, 1) := by decide +kernel
theorem dX12_like_58 : decode cX12_like 58 = .ok (.aload_n 0, 1) := by decide +kernel
theorem dX12_like_59 : decode cX12_like 59 = .ok (.getfield 114, 3) := by decide +kernel
theorem dX12_like_62 : decode cX12_like 62 = .ok (.iload_n 3, 1) := by decide +kernel
theorem dX12_like_63 : decode cX12_like 63 = .ok (.invokevirtual 294, 3) := by decide +kernel
theorem dX12_like_66 : decode cX12_like 66 = .ok (.lcmp, 1) := by decide +kernel
theorem dX12_like_67 : decode cX12_like 67 = .ok (.ifCond .eq 5, 3) := by decide +kernel
theorem dX12_like_70 : decode cX12_like 70 = .ok (.iconst 0, 1) := by decide +kernel
theorem dX12_like_71 : decode cX12_like 71 = .ok (.ireturn, 1) := by decide +kernel
theorem dX12_like_72 : decode cX12_like 72 = .ok (.iinc 3 1, 3) := by decide +kernel
theorem dX12_like_75 : decode cX12_like 75 = .ok (.goto (-35), 3) := by decide +kernel
theorem dX12_like_78 : decode cX12_like 78 = .ok (.iconst 1, 1) := by decide +kernel
theorem dX12_like_79 : decode cX12_like 79 = .ok (.ireturn, 1) := by decide +kernel
set_option maxHeartbeats 4000000 in
set_option maxRecDepth 100000 in
theorem cn_X12_like {l : Launch} {cA : Nat → ClassId} {ad : Nat → Nat} {D : va_G} {E : Nat → Nat} {A : Nat → Prop} {x1 : Int32} {x2 : Int32} {s0 sr : SS} {rr : Int32} (hf : f_X12_like x1 x2 s0 = some (rr, sr)) : zCon Om Nm cA ad D E l yX12_like cX12_like 4 (some .int) 5 A [.ref (ad 0), .int x1, .int x2] s0 (some (.int rr)) sr := by
  refine zstart (own := RX12) hOm (by decide) rfl (Nat.le_of_ble_eq_true rfl) ?_
  intro p e s m args below meth c X hP ls hl
  have hx := X.1
  have hb := X.2.1
  have hl : lv_has ls 4 [(0, .ref (ad 0)), (1, .int x1), (2, .int x2)] := hl
  have hS : va_S A s.heap s.heap [] := va_S.rf
  have hc_40 : ∀ (n40 : Nat) (x3 : Int32) (s1 : SS) (H : Heap) (locs : List Loc) (ls : Array Slot), lv_has ls 4 [(0, .ref (ad 0)), (3, .int x3)] → va_P D ZCL (zw Om Nm cA ad s1) H → va_S A s.heap H locs → f_X12_like_c40 n40 x3 s1 = some (rr, sr) → W p l e (zrm 5) s m args below meth c H locs 0 0 (MQ below (zQc Om Nm cA ad D A (some (.int rr)) sr) args s 0 0 A) (F0 m 40 ls []) := by
    intro n40
    induction n40 with
    | zero =>
      intro x3 s1 H locs ls hl hP hS hf
      rw [f_X12_like_c40] at hf
      cases hf
    | succ n40 ih40 =>
      intro x3 s1 H locs ls hl hP hS hf
      rw [f_X12_like_c40] at hf
      refine lv_iload_n hx hb dX12_like_40 rfl (lv_at hl 1 rfl) ?_
      refine lv_aload_n hx hb dX12_like_41 rfl (lv_at hl 0 rfl) ?_
      refine gf_X12_56 X hP (k := 0) rfl dX12_like_42 ?_
      refine zicmp_ge (tgt := 78) hx hb dX12_like_45 (by decide) hf (fun hf => ?_) (fun hf => ?_)
      · refine lv_iconst (v := 1) hx hb dX12_like_78 (by decide) ?_
        exact zret_i X hP hS hf rfl dX12_like_79
      · refine lv_aload_n hx hb dX12_like_48 rfl (lv_at hl 0 rfl) ?_
        refine lv_aload_n hx hb dX12_like_49 rfl (lv_at hl 0 rfl) ?_
        refine gf_X12_111 X hP (k := 0) (q := 13) rfl dX12_like_50 rfl ?_
        refine lv_iload_n hx hb dX12_like_53 rfl (lv_at hl 1 rfl) ?_
        obtain ⟨r13, s14, h15, hf⟩ := zbd_some hf
        refine zcallV X hP hS hl.1 (k := 0) (As := [.ref (ad 13), .int x3]) (rest := []) (cn_X12_metWith h15) cw_X12_metWith zp_12 rfl (by decide) rfl ml_X12_294 (by decide) rfl rfl (Nat.le_of_ble_eq_true rfl) dX12_like_54 (fun H locs hP hS => ?_)
        refine lv_aload_n hx hb dX12_like_57 rfl (lv_at hl 0 rfl) ?_
        refine lv_aload_n hx hb dX12_like_58 rfl (lv_at hl 0 rfl) ?_
        refine gf_X12_114 X hP (k := 0) (q := 14) rfl dX12_like_59 rfl ?_
        refine lv_iload_n hx hb dX12_like_62 rfl (lv_at hl 1 rfl) ?_
        obtain ⟨r16, s17, h18, hf⟩ := zbd_some hf
        refine zcallV X hP hS hl.1 (k := 0) (As := [.ref (ad 14), .int x3]) (rest := [.long r13]) (cn_X12_metWith h18) cw_X12_metWith zp_12 rfl (by decide) rfl ml_X12_294 (by decide) rfl rfl (Nat.le_of_ble_eq_true rfl) dX12_like_63 (fun H locs hP hS => ?_)
        refine W.lcmp hx hb dX12_like_66 ?_
        refine zif_eq (tgt := 72) hx hb dX12_like_67 (by decide) hf (fun hf => ?_) (fun hf => ?_)
        · refine lv_iinc (v := (x3 + 1)) (lv' := [(3, .int (x3 + 1)), (0, .ref (ad 0))]) hx hb dX12_like_72 hl (k := 1) rfl rfl (by decide) rfl (fun ls hl => ?_)
          refine lv_goto (tgt := 40) hx hb dX12_like_75 (by decide) ?_
          exact ih40 (x3 + 1) s17 _ _ _ (lv_sub hl [1, 0] rfl) hP hS hf
        · refine lv_iconst (v := 0) hx hb dX12_like_70 (by decide) ?_
          exact zret_i X hP hS hf rfl dX12_like_71
  rw [f_X12_like] at hf
  refine lv_aload_n hx hb dX12_like_0 rfl (lv_at hl 0 rfl) ?_
  refine lv_iload_n hx hb dX12_like_1 rfl (lv_at hl 1 rfl) ?_
  refine lv_i2l hx hb dX12_like_2 rfl ?_
  obtain ⟨r1, s2, h3, hf⟩ := zbd_some hf
  refine zcallV X hP hS hl.1 (k := 0) (As := [.long (x1).toInt64]) (rest := []) (cn_X12_isClass h3) cw_X12_isClass zp_12 rfl (by decide) rfl ml_X12_245 (by decide) rfl rfl (Nat.le_of_ble_eq_true rfl) dX12_like_3 (fun H locs hP hS => ?_)
  refine zif_eq (tgt := 18) hx hb dX12_like_6 (by decide) hf (fun hf => ?_) (fun hf => ?_)
  · refine lv_iconst (v := (-1)) hx hb dX12_like_18 (by decide) ?_
    exact zret_i X hP hS hf rfl dX12_like_19
  · refine lv_aload_n hx hb dX12_like_9 rfl (lv_at hl 0 rfl) ?_
    refine lv_iload_n hx hb dX12_like_10 rfl (lv_at hl 2 rfl) ?_
    refine lv_i2l hx hb dX12_like_11 rfl ?_
    obtain ⟨r4, s5, h6, hf⟩ := zbd_some hf
    refine zcallV X hP hS hl.1 (k := 0) (As := [.long (x2).toInt64]) (rest := []) (cn_X12_isClass h6) cw_X12_isClass zp_12 rfl (by decide) rfl ml_X12_245 (by decide) rfl rfl (Nat.le_of_ble_eq_true rfl) dX12_like_12 (fun H locs hP hS => ?_)
    refine zif_ne (tgt := 20) hx hb dX12_like_15 (by decide) hf (fun hf => ?_) (fun hf => ?_)
    · refine lv_aload_n hx hb dX12_like_20 rfl (lv_at hl 0 rfl) ?_
      refine lv_iload_n hx hb dX12_like_21 rfl (lv_at hl 1 rfl) ?_
      refine lv_aload_n hx hb dX12_like_22 rfl (lv_at hl 0 rfl) ?_
      refine gf_X12_111 X hP (k := 0) (q := 13) rfl dX12_like_23 rfl ?_
      obtain ⟨r7, s8, h9, hf⟩ := zbd_some hf
      refine zcallV X hP hS hl.1 (k := 0) (As := [.int x1, .ref (ad 13)]) (rest := []) (cn_X12_layClass h9) cw_X12_layClass zp_12 rfl (by decide) rfl ml_X12_264 (by decide) rfl rfl (Nat.le_of_ble_eq_true rfl) dX12_like_26 (fun H locs hP hS => ?_)
      refine lv_aload_n hx hb dX12_like_29 rfl (lv_at hl 0 rfl) ?_
      refine lv_iload_n hx hb dX12_like_30 rfl (lv_at hl 2 rfl) ?_
      refine lv_aload_n hx hb dX12_like_31 rfl (lv_at hl 0 rfl) ?_
      refine gf_X12_114 X hP (k := 0) (q := 14) rfl dX12_like_32 rfl ?_
      obtain ⟨r10, s11, h12, hf⟩ := zbd_some hf
      refine zcallV X hP hS hl.1 (k := 0) (As := [.int x2, .ref (ad 14)]) (rest := []) (cn_X12_layClass h12) cw_X12_layClass zp_12 rfl (by decide) rfl ml_X12_264 (by decide) rfl rfl (Nat.le_of_ble_eq_true rfl) dX12_like_35 (fun H locs hP hS => ?_)
      refine lv_iconst (v := 0) hx hb dX12_like_38 (by decide) ?_
      refine lv_istore_n (lv' := [(3, .int 0), (0, .ref (ad 0)), (1, .int x1), (2, .int x2)]) hx hb dX12_like_39 rfl hl (by decide) rfl (fun ls hl => ?_)
      exact hc_40 ZF 0 s11 _ _ _ (lv_sub hl [1, 0] rfl) hP hS hf
    · refine lv_iconst (v := (-1)) hx hb dX12_like_18 (by decide) ?_
      exact zret_i X hP hS hf rfl dX12_like_19
theorem dX12_layChern_0 : decode cX12_layChern 0 = .ok (.aload_n 0, 1) := by decide +kernel
theorem dX12_layChern_1 : decode cX12_layChern 1 = .ok (.aload_n 1, 1) := by decide +kernel
theorem dX12_layChern_2 : decode cX12_layChern 2 = .ok (.invokevirtual 278, 3) := by decide +kernel
theorem dX12_layChern_5 : decode cX12_layChern 5 = .ok (.iconst 0, 1) := by decide +kernel
theorem dX12_layChern_6 : decode cX12_layChern 6 = .ok (.istore_n 2, 1) := by decide +kernel
theorem dX12_layChern_7 : decode cX12_layChern 7 = .ok (.iload_n 2, 1) := by decide +kernel
theorem dX12_layChern_8 : decode cX12_layChern 8 = .ok (.aload_n 0, 1) := by decide +kernel
theorem dX12_layChern_9 : decode cX12_layChern 9 = .ok (.getfield 9, 3) := by decide +kernel
theorem dX12_layChern_12 : decode cX12_layChern 12 = .ok (.if_icmp .ge 59, 3) := by decide +kernel
theorem dX12_layChern_15 : decode cX12_layChern 15 = .ok (.iconst 0, 1) := by decide +kernel
theorem dX12_layChern_16 : decode cX12_layChern 16 = .ok (.istore_n 3, 1) := by decide +kernel
theorem dX12_layChern_17 : decode cX12_layChern 17 = .ok (.iload_n 3, 1) := by decide +kernel
theorem dX12_layChern_18 : decode cX12_layChern 18 = .ok (.aload_n 0, 1) := by decide +kernel
theorem dX12_layChern_19 : decode cX12_layChern 19 = .ok (.getfield 23, 3) := by decide +kernel
theorem dX12_layChern_22 : decode cX12_layChern 22 = .ok (.iload_n 2, 1) := by decide +kernel
theorem dX12_layChern_23 : decode cX12_layChern 23 = .ok (.iaload, 1) := by decide +kernel
theorem dX12_layChern_24 : decode cX12_layChern 24 = .ok (.if_icmp .gt 41, 3) := by decide +kernel
theorem dX12_layChern_27 : decode cX12_layChern 27 = .ok (.aload_n 0, 1) := by decide +kernel
theorem dX12_layChern_28 : decode cX12_layChern 28 = .ok (.aload_n 0, 1) := by decide +kernel
theorem dX12_layChern_29 : decode cX12_layChern 29 = .ok (.getfield 114, 3) := by decide +kernel
theorem dX12_layChern_32 : decode cX12_layChern 32 = .ok (.invokevirtual 278, 3) := by decide +kernel
theorem dX12_layChern_35 : decode cX12_layChern 35 = .ok (.aload_n 0, 1) := by decide +kernel
theorem dX12_layChern_36 : decode cX12_layChern 36 = .ok (.getfield 114, 3) := by decide +kernel
theorem dX12_layChern_39 : decode cX12_layChern 39 = .ok (.aload_n 0, 1) := by decide +kernel
theorem dX12_layChern_40 : decode cX12_layChern 40 = .ok (.getfield 65, 3) := by decide +kernel
theorem dX12_layChern_43 : decode cX12_layChern 43 = .ok (.iload_n 2, 1) := by decide +kernel
theorem dX12_layChern_44 : decode cX12_layChern 44 = .ok (.invokestatic 15, 3) := by decide +kernel
theorem dX12_layChern_47 : decode cX12_layChern 47 = .ok (.iaload, 1) := by decide +kernel
theorem dX12_layChern_48 : decode cX12_layChern 48 = .ok (.lconst 1, 1) := by decide +kernel
theorem dX12_layChern_49 : decode cX12_layChern 49 = .ok (.lastore, 1) := by decide +kernel
theorem dX12_layChern_50 : decode cX12_layChern 50 = .ok (.aload_n 0, 1) := by decide +kernel
theorem dX12_layChern_51 : decode cX12_layChern 51 = .ok (.aload_n 1, 1) := by decide +kernel
theorem dX12_layChern_52 : decode cX12_layChern 52 = .ok (.aload_n 0, 1) := by decide +kernel
theorem dX12_layChern_53 : decode cX12_layChern 53 = .ok (.getfield 114, 3) := by decide +kernel
theorem dX12_layChern_56 : decode cX12_layChern 56 = .ok (.invokevirtual 272, 3) := by decide +kernel
theorem dX12_layChern_59 : decode cX12_layChern 59 = .ok (.iinc 3 1, 3) := by decide +kernel
theorem dX12_layChern_62 : decode cX12_layChern 62 = .ok (.goto (-45), 3) := by decide +kernel
theorem dX12_layChern_65 : decode cX12_layChern 65 = .ok (.iinc 2 1, 3) := by decide +kernel
theorem dX12_layChern_68 : decode cX12_layChern 68 = .ok (.goto (-61), 3) := by decide +kernel
theorem dX12_layChern_71 : decode cX12_layChern 71 = .ok (.return_, 1) := by decide +kernel
set_option maxHeartbeats 4000000 in
set_option maxRecDepth 100000 in
theorem cn_X12_layChern {l : Launch} {cA : Nat → ClassId} {ad : Nat → Nat} {D : va_G} {E : Nat → Nat} {A : Nat → Prop} {k1 : Nat} {s0 sr : SS} {rr : Unit} (hf : f_X12_layChern k1 s0 = some (rr, sr)) : zCon Om Nm cA ad D E l yX12_layChern cX12_layChern 4 none 2 A [.ref (ad 0), .ref (ad k1)] s0 none sr := by
  refine zstart (own := RX12) hOm (by decide) rfl (Nat.le_of_ble_eq_true rfl) ?_
  intro p e s m args below meth c X hP ls hl
  have hx := X.1
  have hb := X.2.1
  have hl : lv_has ls 4 [(0, .ref (ad 0)), (1, .ref (ad k1))] := hl
  have hS : va_S A s.heap s.heap [] := va_S.rf
  have hc_7 : ∀ (n7 : Nat) (k1 : Nat) (x2 : Int32) (s1 : SS) (H : Heap) (locs : List Loc) (ls : Array Slot), lv_has ls 4 [(0, .ref (ad 0)), (1, .ref (ad k1)), (2, .int x2)] → va_P D ZCL (zw Om Nm cA ad s1) H → va_S A s.heap H locs → f_X12_layChern_c7 n7 k1 x2 s1 = some (rr, sr) → W p l e (zrm 2) s m args below meth c H locs 0 0 (MQ below (zQc Om Nm cA ad D A none sr) args s 0 0 A) (F0 m 7 ls []) := by
    intro n7
    induction n7 with
    | zero =>
      intro k1 x2 s1 H locs ls hl hP hS hf
      rw [f_X12_layChern_c7] at hf
      cases hf
    | succ n7 ih7 =>
      have hc_17 : ∀ (n17 : Nat) (k1 : Nat) (x2 : Int32) (x3 : Int32) (s1 : SS) (H : Heap) (locs : List Loc) (ls : Array Slot), lv_has ls 4 [(0, .ref (ad 0)), (1, .ref (ad k1)), (2, .int x2), (3, .int x3)] → va_P D ZCL (zw Om Nm cA ad s1) H → va_S A s.heap H locs → f_X12_layChern_c17 (f_X12_layChern_c7 n7) n17 k1 x2 x3 s1 = some (rr, sr) → W p l e (zrm 2) s m args below meth c H locs 0 0 (MQ below (zQc Om Nm cA ad D A none sr) args s 0 0 A) (F0 m 17 ls []) := by
        intro n17
        induction n17 with
        | zero =>
          intro k1 x2 x3 s1 H locs ls hl hP hS hf
          rw [f_X12_layChern_c17] at hf
          cases hf
        | succ n17 ih17 =>
          intro k1 x2 x3 s1 H locs ls hl hP hS hf
          rw [f_X12_layChern_c17] at hf
          refine lv_iload_n hx hb dX12_layChern_17 rfl (lv_at hl 3 rfl) ?_
          refine lv_aload_n hx hb dX12_layChern_18 rfl (lv_at hl 0 rfl) ?_
          refine gf_X12_23 X hP (k := 0) (q := 1) rfl dX12_layChern_19 rfl ?_
          refine lv_iload_n hx hb dX12_layChern_22 rfl (lv_at hl 2 rfl) ?_
          obtain ⟨g4, hf⟩ := zgd hf
          refine zald_i X hP (k := 1) (n := 3) (rs := []) rfl g4 dX12_layChern_23 ?_
          refine zicmp_gt (tgt := 65) hx hb dX12_layChern_24 (by decide) hf (fun hf => ?_) (fun hf => ?_)
          · refine lv_iinc (v := (x2 + 1)) (lv' := [(2, .int (x2 + 1)), (0, .ref (ad 0)), (1, .ref (ad k1)), (3, .int x3)]) hx hb dX12_layChern_65 hl (k := 2) rfl rfl (by decide) rfl (fun ls hl => ?_)
            refine lv_goto (tgt := 7) hx hb dX12_layChern_68 (by decide) ?_
            exact ih7 k1 (x2 + 1) s1 _ _ _ (lv_sub hl [1, 2, 0] rfl) hP hS hf
          · refine lv_aload_n hx hb dX12_layChern_27 rfl (lv_at hl 0 rfl) ?_
            refine lv_aload_n hx hb dX12_layChern_28 rfl (lv_at hl 0 rfl) ?_
            refine gf_X12_114 X hP (k := 0) (q := 14) rfl dX12_layChern_29 rfl ?_
            obtain ⟨r5, s6, h7, hf⟩ := zbd_some hf
            refine zcallV X hP hS hl.1 (k := 0) (As := [.ref (ad 14)]) (rest := []) (cn_X12_layOne h7) cw_X12_layOne zp_12 rfl (by decide) rfl ml_X12_278 (by decide) rfl rfl (Nat.le_of_ble_eq_true rfl) dX12_layChern_32 (fun H locs hP hS => ?_)
            refine lv_aload_n hx hb dX12_layChern_35 rfl (lv_at hl 0 rfl) ?_
            refine gf_X12_114 X hP (k := 0) (q := 14) rfl dX12_layChern_36 rfl ?_
            refine lv_aload_n hx hb dX12_layChern_39 rfl (lv_at hl 0 rfl) ?_
            refine gf_X12_65 X hP (k := 0) (q := 7) rfl dX12_layChern_40 rfl ?_
            refine lv_iload_n hx hb dX12_layChern_43 rfl (lv_at hl 2 rfl) ?_
            obtain ⟨r8, s9, h10, hf⟩ := zbd_some hf
            refine zcallS X hP hS hl.1 (As := [.int x2]) (rest := [.ref (ad 7), .ref (ad 14)]) (cn_X12_tens h10) cw_X12_tens ml_X12_15 (by decide) rfl rfl (Nat.le_of_ble_eq_true rfl) dX12_layChern_44 (fun H locs hP hS => ?_)
            obtain ⟨g11, hf⟩ := zgd hf
            refine zald_i X hP (k := 7) (n := 600000) (rs := []) rfl g11 dX12_layChern_47 ?_
            refine lv_lconst (v := 1) hx hb dX12_layChern_48 (by decide) ?_
            obtain ⟨g12, hf⟩ := zgd hf
            refine zast_l X hP hS (k := 14) (n := 462) (rs := []) rfl g12 dX12_layChern_49 (fun H locs hP hS => ?_)
            refine lv_aload_n hx hb dX12_layChern_50 rfl (lv_at hl 0 rfl) ?_
            refine lv_aload_n hx hb dX12_layChern_51 rfl (lv_at hl 1 rfl) ?_
            refine lv_aload_n hx hb dX12_layChern_52 rfl (lv_at hl 0 rfl) ?_
            refine gf_X12_114 X hP (k := 0) (q := 14) rfl dX12_layChern_53 rfl ?_
            obtain ⟨r13, s14, h15, hf⟩ := zbd_some hf
            refine zcallV X hP hS hl.1 (k := 0) (As := [.ref (ad k1), .ref (ad 14)]) (rest := []) (cn_X12_multiply h15) cw_X12_multiply zp_12 rfl (by decide) rfl ml_X12_272 (by decide) rfl rfl (Nat.le_of_ble_eq_true rfl) dX12_layChern_56 (fun H locs hP hS => ?_)
            refine lv_iinc (v := (x3 + 1)) (lv' := [(3, .int (x3 + 1)), (0, .ref (ad 0)), (1, .ref (ad k1)), (2, .int x2)]) hx hb dX12_layChern_59 hl (k := 3) rfl rfl (by decide) rfl (fun ls hl => ?_)
            refine lv_goto (tgt := 17) hx hb dX12_layChern_62 (by decide) ?_
            exact ih17 k1 x2 (x3 + 1) s14 _ _ _ (lv_sub hl [1, 2, 3, 0] rfl) hP hS hf
      intro k1 x2 s1 H locs ls hl hP hS hf
      rw [f_X12_layChern_c7] at hf
      refine lv_iload_n hx hb dX12_layChern_7 rfl (lv_at hl 2 rfl) ?_
      refine lv_aload_n hx hb dX12_layChern_8 rfl (lv_at hl 0 rfl) ?_
      refine gf_X12_9 X hP (k := 0) rfl dX12_layChern_9 ?_
      refine zicmp_ge (tgt := 71) hx hb dX12_layChern_12 (by decide) hf (fun hf => ?_) (fun hf => ?_)
      · exact zret_v X hP hS hf dX12_layChern_71
      · refine lv_iconst (v := 0) hx hb dX12_layChern_15 (by decide) ?_
        refine lv_istore_n (lv' := [(3, .int 0), (0, .ref (ad 0)), (1, .ref (ad k1)), (2, .int x2)]) hx hb dX12_layChern_16 rfl hl (by decide) rfl (fun ls hl => ?_)
        exact hc_17 ZF k1 x2 0 s1 _ _ _ (lv_sub hl [1, 2, 3, 0] rfl) hP hS hf
  rw [f_X12_layChern] at hf
  refine lv_aload_n hx hb dX12_layChern_0 rfl (lv_at hl 0 rfl) ?_
  refine lv_aload_n hx hb dX12_layChern_1 rfl (lv_at hl 1 rfl) ?_
  obtain ⟨r1, s2, h3, hf⟩ := zbd_some hf
  refine zcallV X hP hS hl.1 (k := 0) (As := [.ref (ad k1)]) (rest := []) (cn_X12_layOne h3) cw_X12_layOne zp_12 rfl (by decide) rfl ml_X12_278 (by decide) rfl rfl (Nat.le_of_ble_eq_true rfl) dX12_layChern_2 (fun H locs hP hS => ?_)
  refine lv_iconst (v := 0) hx hb dX12_layChern_5 (by decide) ?_
  refine lv_istore_n (lv' := [(2, .int 0), (0, .ref (ad 0)), (1, .ref (ad k1))]) hx hb dX12_layChern_6 rfl hl (by decide) rfl (fun ls hl => ?_)
  exact hc_7 ZF k1 0 s2 _ _ _ (lv_sub hl [1, 2, 0] rfl) hP hS hf
theorem dX12_isBare_0 : decode cX12_isBare 0 = .ok (.aload_n 0, 1) := by decide +kernel
theorem dX12_isBare_1 : decode cX12_isBare 1 = .ok (.getfield 3, 3) := by decide +kernel
theorem dX12_isBare_4 : decode cX12_isBare 4 = .ok (.ifCond .ne 14, 3) := by decide +kernel
theorem dX12_isBare_7 : decode cX12_isBare 7 = .ok (.aload_n 0, 1) := by decide +kernel
theorem dX12_isBare_8 : decode cX12_isBare 8 = .ok (.getfield 12, 3) := by decide +kernel
theorem dX12_isBare_11 : decode cX12_isBare 11 = .ok (.ifCond .ne 7, 3) := by decide +kernel
theorem dX12_isBare_14 : decode cX12_isBare 14 = .ok (.iconst 1, 1) := by decide +kernel
theorem dX12_isBare_15 : decode cX12_isBare 15 = .ok (.goto 4, 3) := by decide +kernel
theorem dX12_isBare_18 : decode cX12_isBare 18 = .ok (.iconst 0, 1) := by decide +kernel
theorem dX12_isBare_19 : decode cX12_isBare 19 = .ok (.ireturn, 1) := by decide +kernel
set_option maxHeartbeats 4000000 in
set_option maxRecDepth 100000 in
theorem cn_X12_isBare {l : Launch} {cA : Nat → ClassId} {ad : Nat → Nat} {D : va_G} {E : Nat → Nat} {A : Nat → Prop}  {s0 sr : SS} {rr : Int32} (hf : f_X12_isBare s0 = some (rr, sr)) : zCon Om Nm cA ad D E l yX12_isBare cX12_isBare 1 (some .boolean) 0 A [.ref (ad 0)] s0 (some (.int rr)) sr := by
  refine zstart (own := RX12) hOm (by decide) rfl (Nat.le_of_ble_eq_true rfl) ?_
  intro p e s m args below meth c X hP ls hl
  have hx := X.1
  have hb := X.2.1
  have hl : lv_has ls 1 [(0, .ref (ad 0))] := hl
  have hS : va_S A s.heap s.heap [] := va_S.rf
  rw [f_X12_isBare] at hf
  refine lv_aload_n hx hb dX12_isBare_0 rfl (lv_at hl 0 rfl) ?_
  refine gf_X12_3 X hP (k := 0) rfl dX12_isBare_1 ?_
  refine zif_ne (tgt := 18) hx hb dX12_isBare_4 (by decide) hf (fun hf => ?_) (fun hf => ?_)
  · refine lv_iconst (v := 0) hx hb dX12_isBare_18 (by decide) ?_
    exact zret_i X hP hS hf rfl dX12_isBare_19
  · refine lv_aload_n hx hb dX12_isBare_7 rfl (lv_at hl 0 rfl) ?_
    refine gf_X12_12 X hP (k := 0) rfl dX12_isBare_8 ?_
    refine zif_ne (tgt := 18) hx hb dX12_isBare_11 (by decide) hf (fun hf => ?_) (fun hf => ?_)
    · refine lv_iconst (v := 0) hx hb dX12_isBare_18 (by decide) ?_
      exact zret_i X hP hS hf rfl dX12_isBare_19
    · refine lv_iconst (v := 1) hx hb dX12_isBare_14 (by decide) ?_
      refine lv_goto (tgt := 19) hx hb dX12_isBare_15 (by decide) ?_
      exact zret_i X hP hS hf rfl dX12_isBare_19
theorem dX12_chern_0 : decode cX12_chern 0 = .ok (.aload_n 0, 1) := by decide +kernel
theorem dX12_chern_1 : decode cX12_chern 1 = .ok (.iload_n 1, 1) := by decide +kernel
theorem dX12_chern_2 : decode cX12_chern 2 = .ok (.invokevirtual 217, 3) := by decide +kernel
theorem dX12_chern_5 : decode cX12_chern 5 = .ok (.ifCond .ge 7, 3) := by decide +kernel
theorem dX12_chern_8 : decode cX12_chern 8 = .ok (.ldc2_w 220, 3) := by decide +kernel
theorem dX12_chern_11 : decode cX12_chern 11 = .ok (.lreturn, 1) := by decide +kernel
theorem dX12_chern_12 : decode cX12_chern 12 = .ok (.aload_n 0, 1) := by decide +kernel
theorem dX12_chern_13 : decode cX12_chern 13 = .ok (.invokevirtual 298, 3) := by decide +kernel
theorem dX12_chern_16 : decode cX12_chern 16 = .ok (.ifCond .ne 7, 3) := by decide +kernel
theorem dX12_chern_19 : decode cX12_chern 19 = .ok (.ldc2_w 287, 3) := by decide +kernel
theorem dX12_chern_22 : decode cX12_chern 22 = .ok (.lreturn, 1) := by decide +kernel
theorem dX12_chern_23 : decode cX12_chern 23 = .ok (.aload_n 0, 1) := by decide +kernel
theorem dX12_chern_24 : decode cX12_chern 24 = .ok (.aload_n 0, 1) := by decide +kernel
theorem dX12_chern_25 : decode cX12_chern 25 = .ok (.getfield 117, 3) := by decide +kernel
theorem dX12_chern_28 : decode cX12_chern 28 = .ok (.invokevirtual 302, 3) := by decide +kernel
theorem dX12_chern_31 : decode cX12_chern 31 = .ok (.aload_n 0, 1) := by decide +kernel
theorem dX12_chern_32 : decode cX12_chern 32 = .ok (.getfield 117, 3) := by decide +kernel
theorem dX12_chern_35 : decode cX12_chern 35 = .ok (.aload_n 0, 1) := by decide +kernel
theorem dX12_chern_36 : decode cX12_chern 36 = .ok (.iload_n 1, 1) := by decide +kernel
theorem dX12_chern_37 : decode cX12_chern 37 = .ok (.invokevirtual 217, 3) := by decide +kernel
theorem dX12_chern_40 : decode cX12_chern 40 = .ok (.laload, 1) := by decide +kernel
theorem dX12_chern_41 : decode cX12_chern 41 = .ok (.lreturn, 1) := by decide +kernel
set_option maxHeartbeats 4000000 in
set_option maxRecDepth 100000 in
theorem cn_X12_chern {l : Launch} {cA : Nat → ClassId} {ad : Nat → Nat} {D : va_G} {E : Nat → Nat} {A : Nat → Prop} {x1 : Int32} {s0 sr : SS} {rr : Int64} (hf : f_X12_chern x1 s0 = some (rr, sr)) : zCon Om Nm cA ad D E l yX12_chern cX12_chern 2 (some .long) 3 A [.ref (ad 0), .int x1] s0 (some (.long rr)) sr := by
  refine zstart (own := RX12) hOm (by decide) rfl (Nat.le_of_ble_eq_true rfl) ?_
  intro p e s m args below meth c X hP ls hl
  have hx := X.1
  have hb := X.2.1
  have hl : lv_has ls 2 [(0, .ref (ad 0)), (1, .int x1)] := hl
  have hS : va_S A s.heap s.heap [] := va_S.rf
  rw [f_X12_chern] at hf
  refine lv_aload_n hx hb dX12_chern_0 rfl (lv_at hl 0 rfl) ?_
  refine lv_iload_n hx hb dX12_chern_1 rfl (lv_at hl 1 rfl) ?_
  obtain ⟨r1, s2, h3, hf⟩ := zbd_some hf
  refine zcallV X hP hS hl.1 (k := 0) (As := [.int x1]) (rest := []) (cn_X12_termOf h3) cw_X12_termOf zp_12 rfl (by decide) rfl ml_X12_217 (by decide) rfl rfl (Nat.le_of_ble_eq_true rfl) dX12_chern_2 (fun H locs hP hS => ?_)
  refine zif_ge (tgt := 12) hx hb dX12_chern_5 (by decide) hf (fun hf => ?_) (fun hf => ?_)
  · refine lv_aload_n hx hb dX12_chern_12 rfl (lv_at hl 0 rfl) ?_
    obtain ⟨r4, s5, h6, hf⟩ := zbd_some hf
    refine zcallV X hP hS hl.1 (k := 0) (As := []) (rest := []) (cn_X12_isBare h6) cw_X12_isBare zp_12 rfl (by decide) rfl ml_X12_298 (by decide) rfl rfl (Nat.le_of_ble_eq_true rfl) dX12_chern_13 (fun H locs hP hS => ?_)
    refine zif_ne (tgt := 23) hx hb dX12_chern_16 (by decide) hf (fun hf => ?_) (fun hf => ?_)
    · refine lv_aload_n hx hb dX12_chern_23 rfl (lv_at hl 0 rfl) ?_
      refine lv_aload_n hx hb dX12_chern_24 rfl (lv_at hl 0 rfl) ?_
      refine gf_X12_117 X hP (k := 0) (q := 15) rfl dX12_chern_25 rfl ?_
      obtain ⟨r7, s8, h9, hf⟩ := zbd_some hf
      refine zcallV X hP hS hl.1 (k := 0) (As := [.ref (ad 15)]) (rest := []) (cn_X12_layChern h9) cw_X12_layChern zp_12 rfl (by decide) rfl ml_X12_302 (by decide) rfl rfl (Nat.le_of_ble_eq_true rfl) dX12_chern_28 (fun H locs hP hS => ?_)
      refine lv_aload_n hx hb dX12_chern_31 rfl (lv_at hl 0 rfl) ?_
      refine gf_X12_117 X hP (k := 0) (q := 15) rfl dX12_chern_32 rfl ?_
      refine lv_aload_n hx hb dX12_chern_35 rfl (lv_at hl 0 rfl) ?_
      refine lv_iload_n hx hb dX12_chern_36 rfl (lv_at hl 1 rfl) ?_
      obtain ⟨r10, s11, h12, hf⟩ := zbd_some hf
      refine zcallV X hP hS hl.1 (k := 0) (As := [.int x1]) (rest := [.ref (ad 15)]) (cn_X12_termOf h12) cw_X12_termOf zp_12 rfl (by decide) rfl ml_X12_217 (by decide) rfl rfl (Nat.le_of_ble_eq_true rfl) dX12_chern_37 (fun H locs hP hS => ?_)
      obtain ⟨g13, hf⟩ := zgd hf
      refine zald_l X hP (k := 15) (n := 462) (rs := []) rfl g13 dX12_chern_40 ?_
      exact zret_l X hP hS hf dX12_chern_41
    · refine zldc2 X co_X12_287 dX12_chern_19 ?_
      exact zret_l X hP hS hf dX12_chern_22
  · refine zldc2 X co_X12_220 dX12_chern_8 ?_
    exact zret_l X hP hS hf dX12_chern_11
theorem dX12_isOfOne_0 : decode cX12_isOfOne 0 = .ok (.iconst 0, 1) := by decide +kernel
theorem dX12_isOfOne_1 : decode cX12_isOfOne 1 = .ok (.istore_n 2, 1) := by decide +kernel
theorem dX12_isOfOne_2 : decode cX12_isOfOne 2 = .ok (.iload_n 2, 1) := by decide +kernel
theorem dX12_isOfOne_3 : decode cX12_isOfOne 3 = .ok (.aload_n 0, 1) := by decide +kernel
theorem dX12_isOfOne_4 : decode cX12_isOfOne 4 = .ok (.getfield 56, 3) := by decide +kernel
theorem dX12_isOfOne_7 : decode cX12_isOfOne 7 = .ok (.if_icmp .ge 32, 3) := by decide +kernel
theorem dX12_isOfOne_10 : decode cX12_isOfOne 10 = .ok (.aload_n 0, 1) := by decide +kernel
theorem dX12_isOfOne_11 : decode cX12_isOfOne 11 = .ok (.getfield 75, 3) := by decide +kernel
theorem dX12_isOfOne_14 : decode cX12_isOfOne 14 = .ok (.iload_n 2, 1) := by decide +kernel
theorem dX12_isOfOne_15 : decode cX12_isOfOne 15 = .ok (.iaload, 1) := by decide +kernel
theorem dX12_isOfOne_16 : decode cX12_isOfOne 16 = .ok (.iconst 1, 1) := by decide +kernel
theorem dX12_isOfOne_17 : decode cX12_isOfOne 17 = .ok (.if_icmp .eq 16, 3) := by decide +kernel
theorem dX12_isOfOne_20 : decode cX12_isOfOne 20 = .ok (.aload_n 0, 1) := by decide +kernel
theorem dX12_isOfOne_21 : decode cX12_isOfOne 21 = .ok (.iload_n 1, 1) := by decide +kernel
theorem dX12_isOfOne_22 : decode cX12_isOfOne 22 = .ok (.iload_n 2, 1) := by decide +kernel
theorem dX12_isOfOne_23 : decode cX12_isOfOne 23 = .ok (.invokevirtual 233, 3) := by decide +kernel
theorem dX12_isOfOne_26 : decode cX12_isOfOne 26 = .ok (.lconst 0, 1) := by decide +kernel
theorem dX12_isOfOne_27 : decode cX12_isOfOne 27 = .ok (.lcmp, 1) := by decide +kernel
theorem dX12_isOfOne_28 : decode cX12_isOfOne 28 = .ok (.ifCond .eq 5, 3) := by decide +kernel
theorem dX12_isOfOne_31 : decode cX12_isOfOne 31 = .ok (.iconst 0, 1) := by decide +kernel
theorem dX12_isOfOne_32 : decode cX12_isOfOne 32 = .ok (.ireturn, 1) := by decide +kernel
theorem dX12_isOfOne_33 : decode cX12_isOfOne 33 = .ok (.iinc 2 1, 3) := by decide +kernel
theorem dX12_isOfOne_36 : decode cX12_isOfOne 36 = .ok (.goto (-34), 3) := by decide +kernel
theorem dX12_isOfOne_39 : decode cX12_isOfOne 39 = .ok (.iconst 1, 1) := by decide +kernel
theorem dX12_isOfOne_40 : decode cX12_isOfOne 40 = .ok (.ireturn, 1) := by decide +kernel
set_option maxHeartbeats 4000000 in
set_option maxRecDepth 100000 in
theorem cn_X12_isOfOne {l : Launch} {cA : Nat → ClassId} {ad : Nat → Nat} {D : va_G} {E : Nat → Nat} {A : Nat → Prop} {x1 : Int32} {s0 sr : SS} {rr : Int32} (hf : f_X12_isOfOne x1 s0 = some (rr, sr)) : zCon Om Nm cA ad D E l yX12_isOfOne cX12_isOfOne 3 (some .boolean) 4 A [.ref (ad 0), .int x1] s0 (some (.int rr)) sr := by
  refine zstart (own := RX12) hOm (by decide) rfl (Nat.le_of_ble_eq_true rfl) ?_
  intro p e s m args below meth c X hP ls hl
  have hx := X.1
  have hb := X.2.1
  have hl : lv_has ls 3 [(0, .ref (ad 0)), (1, .int x1)] := hl
  have hS : va_S A s.heap s.heap [] := va_S.rf
  have hc_2 : ∀ (n2 : Nat) (x1 : Int32) (x2 : Int32) (s1 : SS) (H : Heap) (locs : List Loc) (ls : Array Slot), lv_has ls 3 [(0, .ref (ad 0)), (1, .int x1), (2, .int x2)] → va_P D ZCL (zw Om Nm cA ad s1) H → va_S A s.heap H locs → f_X12_isOfOne_c2 n2 x1 x2 s1 = some (rr, sr) → W p l e (zrm 4) s m args below meth c H locs 0 0 (MQ below (zQc Om Nm cA ad D A (some (.int rr)) sr) args s 0 0 A) (F0 m 2 ls []) := by
    intro n2
    induction n2 with
    | zero =>
      intro x1 x2 s1 H locs ls hl hP hS hf
      rw [f_X12_isOfOne_c2] at hf
      cases hf
    | succ n2 ih2 =>
      have hc_33 : ∀ (x1 : Int32) (x2 : Int32) (s1 : SS) (H : Heap) (locs : List Loc) (ls : Array Slot), lv_has ls 3 [(0, .ref (ad 0)), (1, .int x1), (2, .int x2)] → va_P D ZCL (zw Om Nm cA ad s1) H → va_S A s.heap H locs → f_X12_isOfOne_c33 (f_X12_isOfOne_c2 n2) x1 x2 s1 = some (rr, sr) → W p l e (zrm 4) s m args below meth c H locs 0 0 (MQ below (zQc Om Nm cA ad D A (some (.int rr)) sr) args s 0 0 A) (F0 m 33 ls []) := by
        intro x1 x2 s1 H locs ls hl hP hS hf
        rw [f_X12_isOfOne_c33] at hf
        refine lv_iinc (v := (x2 + 1)) (lv' := [(2, .int (x2 + 1)), (0, .ref (ad 0)), (1, .int x1)]) hx hb dX12_isOfOne_33 hl (k := 2) rfl rfl (by decide) rfl (fun ls hl => ?_)
        refine lv_goto (tgt := 2) hx hb dX12_isOfOne_36 (by decide) ?_
        exact ih2 x1 (x2 + 1) s1 _ _ _ (lv_sub hl [1, 2, 0] rfl) hP hS hf
      intro x1 x2 s1 H locs ls hl hP hS hf
      rw [f_X12_isOfOne_c2] at hf
      refine lv_iload_n hx hb dX12_isOfOne_2 rfl (lv_at hl 2 rfl) ?_
      refine lv_aload_n hx hb dX12_isOfOne_3 rfl (lv_at hl 0 rfl) ?_
      refine gf_X12_56 X hP (k := 0) rfl dX12_isOfOne_4 ?_
      refine zicmp_ge (tgt := 39) hx hb dX12_isOfOne_7 (by decide) hf (fun hf => ?_) (fun hf => ?_)
      · refine lv_iconst (v := 1) hx hb dX12_isOfOne_39 (by decide) ?_
        exact zret_i X hP hS hf rfl dX12_isOfOne_40
      · refine lv_aload_n hx hb dX12_isOfOne_10 rfl (lv_at hl 0 rfl) ?_
        refine gf_X12_75 X hP (k := 0) (q := 5) rfl dX12_isOfOne_11 rfl ?_
        refine lv_iload_n hx hb dX12_isOfOne_14 rfl (lv_at hl 2 rfl) ?_
        obtain ⟨g1, hf⟩ := zgd hf
        refine zald_i X hP (k := 5) (n := 462) (rs := []) rfl g1 dX12_isOfOne_15 ?_
        refine lv_iconst (v := 1) hx hb dX12_isOfOne_16 (by decide) ?_
        refine zicmp_eq (tgt := 33) hx hb dX12_isOfOne_17 (by decide) hf (fun hf => ?_) (fun hf => ?_)
        · exact hc_33 x1 x2 s1 _ _ _ (lv_sub hl [0, 1, 2] rfl) hP hS hf
        · refine lv_aload_n hx hb dX12_isOfOne_20 rfl (lv_at hl 0 rfl) ?_
          refine lv_iload_n hx hb dX12_isOfOne_21 rfl (lv_at hl 1 rfl) ?_
          refine lv_iload_n hx hb dX12_isOfOne_22 rfl (lv_at hl 2 rfl) ?_
          obtain ⟨r2, s3, h4, hf⟩ := zbd_some hf
          refine zcallV X hP hS hl.1 (k := 0) (As := [.int x1, .int x2]) (rest := []) (cn_X12_numberAt h4) cw_X12_numberAt zp_12 rfl (by decide) rfl ml_X12_233 (by decide) rfl rfl (Nat.le_of_ble_eq_true rfl) dX12_isOfOne_23 (fun H locs hP hS => ?_)
          refine lv_lconst (v := 0) hx hb dX12_isOfOne_26 (by decide) ?_
          refine W.lcmp hx hb dX12_isOfOne_27 ?_
          refine zif_eq (tgt := 33) hx hb dX12_isOfOne_28 (by decide) hf (fun hf => ?_) (fun hf => ?_)
          · exact hc_33 x1 x2 s3 _ _ _ (lv_sub hl [0, 1, 2] rfl) hP hS hf
          · refine lv_iconst (v := 0) hx hb dX12_isOfOne_31 (by decide) ?_
            exact zret_i X hP hS hf rfl dX12_isOfOne_32
  rw [f_X12_isOfOne] at hf
  refine lv_iconst (v := 0) hx hb dX12_isOfOne_0 (by decide) ?_
  refine lv_istore_n (lv' := [(2, .int 0), (0, .ref (ad 0)), (1, .int x1)]) hx hb dX12_isOfOne_1 rfl hl (by decide) rfl (fun ls hl => ?_)
  exact hc_2 ZF x1 0 s0 _ _ _ (lv_sub hl [1, 2, 0] rfl) hP hS hf
theorem dX12_layCut_0 : decode cX12_layCut 0 = .ok (.aload_n 0, 1) := by decide +kernel
theorem dX12_layCut_1 : decode cX12_layCut 1 = .ok (.aload_n 0, 1) := by decide +kernel
theorem dX12_layCut_2 : decode cX12_layCut 2 = .ok (.getfield 117, 3) := by decide +kernel
theorem dX12_layCut_5 : decode cX12_layCut 5 = .ok (.invokevirtual 302, 3) := by decide +kernel
theorem dX12_layCut_8 : decode cX12_layCut 8 = .ok (.iconst 0, 1) := by decide +kernel
theorem dX12_layCut_9 : decode cX12_layCut 9 = .ok (.istore_n 3, 1) := by decide +kernel
theorem dX12_layCut_10 : decode cX12_layCut 10 = .ok (.iload_n 3, 1) := by decide +kernel
theorem dX12_layCut_11 : decode cX12_layCut 11 = .ok (.aload_n 0, 1) := by decide +kernel
theorem dX12_layCut_12 : decode cX12_layCut 12 = .ok (.getfield 141, 3) := by decide +kernel
theorem dX12_layCut_15 : decode cX12_layCut 15 = .ok (.iload_n 1, 1) := by decide +kernel
theorem dX12_layCut_16 : decode cX12_layCut 16 = .ok (.iaload, 1) := by decide +kernel
theorem dX12_layCut_17 : decode cX12_layCut 17 = .ok (.if_icmp .ge 155, 3) := by decide +kernel
theorem dX12_layCut_20 : decode cX12_layCut 20 = .ok (.aload_n 0, 1) := by decide +kernel
theorem dX12_layCut_21 : decode cX12_layCut 21 = .ok (.aload_n 0, 1) := by decide +kernel
theorem dX12_layCut_22 : decode cX12_layCut 22 = .ok (.getfield 144, 3) := by decide +kernel
theorem dX12_layCut_25 : decode cX12_layCut 25 = .ok (.bipush 20, 2) := by decide +kernel
theorem dX12_layCut_27 : decode cX12_layCut 27 = .ok (.iload_n 1, 1) := by decide +kernel
theorem dX12_layCut_28 : decode cX12_layCut 28 = .ok (.imul, 1) := by decide +kernel
theorem dX12_layCut_29 : decode cX12_layCut 29 = .ok (.iload_n 3, 1) := by decide +kernel
theorem dX12_layCut_30 : decode cX12_layCut 30 = .ok (.iadd, 1) := by decide +kernel
theorem dX12_layCut_31 : decode cX12_layCut 31 = .ok (.laload, 1) := by decide +kernel
theorem dX12_layCut_32 : decode cX12_layCut 32 = .ok (.l2i, 1) := by decide +kernel
theorem dX12_layCut_33 : decode cX12_layCut 33 = .ok (.aload_n 0, 1) := by decide +kernel
theorem dX12_layCut_34 : decode cX12_layCut 34 = .ok (.getfield 114, 3) := by decide +kernel
theorem dX12_layCut_37 : decode cX12_layCut 37 = .ok (.invokevirtual 264, 3) := by decide +kernel
theorem dX12_layCut_40 : decode cX12_layCut 40 = .ok (.iconst 0, 1) := by decide +kernel
theorem dX12_layCut_41 : decode cX12_layCut 41 = .ok (.istore 4, 2) := by decide +kernel
theorem dX12_layCut_43 : decode cX12_layCut 43 = .ok (.iload 4, 2) := by decide +kernel
theorem dX12_layCut_45 : decode cX12_layCut 45 = .ok (.aload_n 0, 1) := by decide +kernel
theorem dX12_layCut_46 : decode cX12_layCut 46 = .ok (.getfield 56, 3) := by decide +kernel
theorem dX12_layCut_49 : decode cX12_layCut 49 = .ok (.if_icmp .ge 24, 3) := by decide +kernel
theorem dX12_layCut_52 : decode cX12_layCut 52 = .ok (.aload_n 0, 1) := by decide +kernel
theorem dX12_layCut_53 : decode cX12_layCut 53 = .ok (.getfield 114, 3) := by decide +kernel
theorem dX12_layCut_56 : decode cX12_layCut 56 = .ok (.iload 4, 2) := by decide +kernel
theorem dX12_layCut_58 : decode cX12_layCut 58 = .ok (.aload_n 0, 1) := by decide +kernel
theorem dX12_layCut_59 : decode cX12_layCut 59 = .ok (.getfield 114, 3) := by decide +kernel
theorem dX12_layCut_62 : decode cX12_layCut 62 = .ok (.iload 4, 2) := by decide +kernel
theorem dX12_layCut_64 : decode cX12_layCut 64 = .ok (.laload, 1) := by decide +kernel
theorem dX12_layCut_65 : decode cX12_layCut 65 = .ok (.lneg, 1) := by decide +kernel
theorem dX12_layCut_66 : decode cX12_layCut 66 = .ok (.lastore, 1) := by decide +kernel
theorem dX12_layCut_67 : decode cX12_layCut 67 = .ok (.iinc 4 1, 3) := by decide +kernel
theorem dX12_layCut_70 : decode cX12_layCut 70 = .ok (.goto (-27), 3) := by decide +kernel
theorem dX12_layCut_73 : decode cX12_layCut 73 = .ok (.aload_n 0, 1) := by decide +kernel
theorem dX12_layCut_74 : decode cX12_layCut 74 = .ok (.aload_n 0, 1) := by decide +kernel
theorem dX12_layCut_75 : decode cX12_layCut 75 = .ok (.getfield 171, 3) := by decide +kernel
theorem dX12_layCut_78 : decode cX12_layCut 78 = .ok (.invokevirtual 278, 3) := by decide +kernel
theorem dX12_layCut_81 : decode cX12_layCut 81 = .ok (.aload_n 0, 1) := by decide +kernel
theorem dX12_layCut_82 : decode cX12_layCut 82 = .ok (.aload_n 0, 1) := by decide +kernel
theorem dX12_layCut_83 : decode cX12_layCut 83 = .ok (.getfield 111, 3) := by decide +kernel
theorem dX12_layCut_86 : decode cX12_layCut 86 = .ok (.invokevirtual 278, 3) := by decide +kernel
theorem dX12_layCut_89 : decode cX12_layCut 89 = .ok (.iconst 0, 1) := by decide +kernel
theorem dX12_layCut_90 : decode cX12_layCut 90 = .ok (.istore 4, 2) := by decide +kernel
theorem dX12_layCut_92 : decode cX12_layCut 92 = .ok (.iload 4, 2) := by decide +kernel
theorem dX12_layCut_94 : decode cX12_layCut 94 = .ok (.aload_n 0, 1) := by decide +kernel
theorem dX12_layCut_95 : decode cX12_layCut 95 = .ok (.getfield 27, 3) := by decide +kernel
theorem dX12_layCut_98 : decode cX12_layCut 98 = .ok (.if_icmp .ge 56, 3) := by decide +kernel
theorem dX12_layCut_101 : decode cX12_layCut 101 = .ok (.aload_n 0, 1) := by decide +kernel
theorem dX12_layCut_102 : decode cX12_layCut 102 = .ok (.aload_n 0, 1) := by decide +kernel
theorem dX12_layCut_103 : decode cX12_layCut 103 = .ok (.getfield 111, 3) := by decide +kernel
theorem dX12_layCut_106 : decode cX12_layCut 106 = .ok (.aload_n 0, 1) := by decide +kernel
theorem dX12_layCut_107 : decode cX12_layCut 107 = .ok (.getfield 114, 3) := by decide +kernel
theorem dX12_layCut_110 : decode cX12_layCut 110 = .ok (.invokevirtual 272, 3) := by decide +kernel
theorem dX12_layCut_113 : decode cX12_layCut 113 = .ok (.iconst 0, 1) := by decide +kernel
theorem dX12_layCut_114 : decode cX12_layCut 114 = .ok (.istore 5, 2) := by decide +kernel
theorem dX12_layCut_116 : decode cX12_layCut 116 = .ok (.iload 5, 2) := by decide +kernel
theorem dX12_layCut_118 : decode cX12_layCut 118 = .ok (.aload_n 0, 1) := by decide +kernel
theorem dX12_layCut_119 : decode cX12_layCut 119 = .ok (.getfield 56, 3) := by decide +kernel
theorem dX12_layCut_122 : decode cX12_layCut 122 = .ok (.if_icmp .ge 26, 3) := by decide +kernel
theorem dX12_layCut_125 : decode cX12_layCut 125 = .ok (.aload_n 0, 1) := by decide +kernel
theorem dX12_layCut_126 : decode cX12_layCut 126 = .ok (.getfield 171, 3) := by decide +kernel
theorem dX12_layCut_129 : decode cX12_layCut 129 = .ok (.iload 5, 2) := by decide +kernel
theorem dX12_layCut_131 : decode cX12_layCut 131 = .ok (.dup2, 1) := by decide +kernel
theorem dX12_layCut_132 : decode cX12_layCut 132 = .ok (.laload, 1) := by decide +kernel
theorem dX12_layCut_133 : decode cX12_layCut 133 = .ok (.aload_n 0, 1) := by decide +kernel
theorem dX12_layCut_134 : decode cX12_layCut 134 = .ok (.getfield 111, 3) := by decide +kernel
theorem dX12_layCut_137 : decode cX12_layCut 137 = .ok (.iload 5, 2) := by decide +kernel
theorem dX12_layCut_139 : decode cX12_layCut 139 = .ok (.laload, 1) := by decide +kernel
theorem dX12_layCut_140 : decode cX12_layCut 140 = .ok (.ladd, 1) := by decide +kernel
theorem dX12_layCut_141 : decode cX12_layCut 141 = .ok (.lastore, 1) := by decide +kernel
theorem dX12_layCut_142 : decode cX12_layCut 142 = .ok (.iinc 5 1, 3) := by decide +kernel
theorem dX12_layCut_145 : decode cX12_layCut 145 = .ok (.goto (-29), 3) := by decide +kernel
theorem dX12_layCut_148 : decode cX12_layCut 148 = .ok (.iinc 4 1, 3) := by decide +kernel
theorem dX12_layCut_151 : decode cX12_layCut 151 = .ok (.goto (-59), 3) := by decide +kernel
theorem dX12_layCut_154 : decode cX12_layCut 154 = .ok (.aload_n 0, 1) := by decide +kernel
theorem dX12_layCut_155 : decode cX12_layCut 155 = .ok (.aload_n 0, 1) := by decide +kernel
theorem dX12_layCut_156 : decode cX12_layCut 156 = .ok (.getfield 117, 3) := by decide +kernel
theorem dX12_layCut_159 : decode cX12_layCut 159 = .ok (.aload_n 0, 1) := by decide +kernel
theorem dX12_layCut_160 : decode cX12_layCut 160 = .ok (.getfield 171, 3) := by decide +kernel
theorem dX12_layCut_163 : decode cX12_layCut 163 = .ok (.invokevirtual 272, 3) := by decide +kernel
theorem dX12_layCut_166 : decode cX12_layCut 166 = .ok (.iinc 3 1, 3) := by decide +kernel
theorem dX12_layCut_169 : decode cX12_layCut 169 = .ok (.goto (-159), 3) := by decide +kernel
theorem dX12_layCut_172 : decode cX12_layCut 172 = .ok (.iconst 0, 1) := by decide +kernel
theorem dX12_layCut_173 : decode cX12_layCut 173 = .ok (.istore_n 3, 1) := by decide +kernel
theorem dX12_layCut_174 : decode cX12_layCut 174 = .ok (.iload_n 3, 1) := by decide +kernel
theorem dX12_layCut_175 : decode cX12_layCut 175 = .ok (.aload_n 0, 1) := by decide +kernel
theorem dX12_layCut_176 : decode cX12_layCut 176 = .ok (.getfield 56, 3) := by decide +kernel
theorem dX12_layCut_179 : decode cX12_layCut 179 = .ok (.if_icmp .ge 35, 3) := by decide +kernel
theorem dX12_layCut_182 : decode cX12_layCut 182 = .ok (.aload_n 0, 1) := by decide +kernel
theorem dX12_layCut_183 : decode cX12_layCut 183 = .ok (.getfield 117, 3) := by decide +kernel
theorem dX12_layCut_186 : decode cX12_layCut 186 = .ok (.iload_n 3, 1) := by decide +kernel
theorem dX12_layCut_187 : decode cX12_layCut 187 = .ok (.aload_n 0, 1) := by decide +kernel
theorem dX12_layCut_188 : decode cX12_layCut 188 = .ok (.getfield 75, 3) := by decide +kernel
theorem dX12_layCut_191 : decode cX12_layCut 191 = .ok (.iload_n 3, 1) := by decide +kernel
theorem dX12_layCut_192 : decode cX12_layCut 192 = .ok (.iaload, 1) := by decide +kernel
theorem dX12_layCut_193 : decode cX12_layCut 193 = .ok (.iload_n 2, 1) := by decide +kernel
theorem dX12_layCut_194 : decode cX12_layCut 194 = .ok (.if_icmp .ne 12, 3) := by decide +kernel
theorem dX12_layCut_197 : decode cX12_layCut 197 = .ok (.aload_n 0, 1) := by decide +kernel
theorem dX12_layCut_198 : decode cX12_layCut 198 = .ok (.getfield 117, 3) := by decide +kernel
theorem dX12_layCut_201 : decode cX12_layCut 201 = .ok (.iload_n 3, 1) := by decide +kernel
theorem dX12_layCut_202 : decode cX12_layCut 202 = .ok (.laload, 1) := by decide +kernel
theorem dX12_layCut_203 : decode cX12_layCut 203 = .ok (.goto 4, 3) := by decide +kernel
theorem dX12_layCut_206 : decode cX12_layCut 206 = .ok (.lconst 0, 1) := by decide +kernel
theorem dX12_layCut_207 : decode cX12_layCut 207 = .ok (.lastore, 1) := by decide +kernel
theorem dX12_layCut_208 : decode cX12_layCut 208 = .ok (.iinc 3 1, 3) := by decide +kernel
theorem dX12_layCut_211 : decode cX12_layCut 211 = .ok (.goto (-37), 3) := by decide +kernel
theorem dX12_layCut_214 : decode cX12_layCut 214 = .ok (.return_, 1) := by decide +kernel
set_option maxHeartbeats 4000000 in
set_option maxRecDepth 100000 in
theorem cn_X12_layCut {l : Launch} {cA : Nat → ClassId} {ad : Nat → Nat} {D : va_G} {E : Nat → Nat} {A : Nat → Prop} {x1 : Int32} {x2 : Int32} {s0 sr : SS} {rr : Unit} (hf : f_X12_layCut x1 x2 s0 = some (rr, sr)) : zCon Om Nm cA ad D E l yX12_layCut cX12_layCut 6 none 5 A [.ref (ad 0), .int x1, .int x2] s0 none sr := by
  refine zstart (own := RX12) hOm (by decide) rfl (Nat.le_of_ble_eq_true rfl) ?_
  intro p e s m args below meth c X hP ls hl
  have hx := X.1
  have hb := X.2.1
  have hl : lv_has ls 6 [(0, .ref (ad 0)), (1, .int x1), (2, .int x2)] := hl
  have hS : va_S A s.heap s.heap [] := va_S.rf
  have hc_10 : ∀ (n10 : Nat) (x1 : Int32) (x2 : Int32) (x3 : Int32) (s1 : SS) (H : Heap) (locs : List Loc) (ls : Array Slot), lv_has ls 6 [(0, .ref (ad 0)), (1, .int x1), (2, .int x2), (3, .int x3)] → va_P D ZCL (zw Om Nm cA ad s1) H → va_S A s.heap H locs → f_X12_layCut_c10 n10 x1 x2 x3 s1 = some (rr, sr) → W p l e (zrm 5) s m args below meth c H locs 0 0 (MQ below (zQc Om Nm cA ad D A none sr) args s 0 0 A) (F0 m 10 ls []) := by
    intro n10
    induction n10 with
    | zero =>
      intro x1 x2 x3 s1 H locs ls hl hP hS hf
      rw [f_X12_layCut_c10] at hf
      cases hf
    | succ n10 ih10 =>
      have hc_174 : ∀ (n174 : Nat) (x2 : Int32) (x3 : Int32) (s1 : SS) (H : Heap) (locs : List Loc) (ls : Array Slot), lv_has ls 6 [(0, .ref (ad 0)), (2, .int x2), (3, .int x3)] → va_P D ZCL (zw Om Nm cA ad s1) H → va_S A s.heap H locs → f_X12_layCut_c174 n174 x2 x3 s1 = some (rr, sr) → W p l e (zrm 5) s m args below meth c H locs 0 0 (MQ below (zQc Om Nm cA ad D A none sr) args s 0 0 A) (F0 m 174 ls []) := by
        intro n174
        induction n174 with
        | zero =>
          intro x2 x3 s1 H locs ls hl hP hS hf
          rw [f_X12_layCut_c174] at hf
          cases hf
        | succ n174 ih174 =>
          have hc_207 : ∀ (x2 : Int32) (x3 : Int32) (t0 : Int64) (t1 : Int32) (s1 : SS) (H : Heap) (locs : List Loc) (ls : Array Slot), lv_has ls 6 [(0, .ref (ad 0)), (2, .int x2), (3, .int x3)] → va_P D ZCL (zw Om Nm cA ad s1) H → va_S A s.heap H locs → f_X12_layCut_c207 (f_X12_layCut_c174 n174) x2 x3 t0 t1 s1 = some (rr, sr) → W p l e (zrm 5) s m args below meth c H locs 0 0 (MQ below (zQc Om Nm cA ad D A none sr) args s 0 0 A) (F0 m 207 ls [.long t0, .int t1, .ref (ad 15)]) := by
            intro x2 x3 t0 t1 s1 H locs ls hl hP hS hf
            rw [f_X12_layCut_c207] at hf
            obtain ⟨g6, hf⟩ := zgd hf
            refine zast_l X hP hS (k := 15) (n := 462) (rs := []) rfl g6 dX12_layCut_207 (fun H locs hP hS => ?_)
            refine lv_iinc (v := (x3 + 1)) (lv' := [(3, .int (x3 + 1)), (0, .ref (ad 0)), (2, .int x2)]) hx hb dX12_layCut_208 hl (k := 2) rfl rfl (by decide) rfl (fun ls hl => ?_)
            refine lv_goto (tgt := 174) hx hb dX12_layCut_211 (by decide) ?_
            exact ih174 x2 (x3 + 1) (zSL s1 15 (t1).toNatClampNeg t0) _ _ _ (lv_sub hl [1, 2, 0] rfl) hP hS hf
          intro x2 x3 s1 H locs ls hl hP hS hf
          rw [f_X12_layCut_c174] at hf
          refine lv_iload_n hx hb dX12_layCut_174 rfl (lv_at hl 2 rfl) ?_
          refine lv_aload_n hx hb dX12_layCut_175 rfl (lv_at hl 0 rfl) ?_
          refine gf_X12_56 X hP (k := 0) rfl dX12_layCut_176 ?_
          refine zicmp_ge (tgt := 214) hx hb dX12_layCut_179 (by decide) hf (fun hf => ?_) (fun hf => ?_)
          · exact zret_v X hP hS hf dX12_layCut_214
          · refine lv_aload_n hx hb dX12_layCut_182 rfl (lv_at hl 0 rfl) ?_
            refine gf_X12_117 X hP (k := 0) (q := 15) rfl dX12_layCut_183 rfl ?_
            refine lv_iload_n hx hb dX12_layCut_186 rfl (lv_at hl 2 rfl) ?_
            refine lv_aload_n hx hb dX12_layCut_187 rfl (lv_at hl 0 rfl) ?_
            refine gf_X12_75 X hP (k := 0) (q := 5) rfl dX12_layCut_188 rfl ?_
            refine lv_iload_n hx hb dX12_layCut_191 rfl (lv_at hl 2 rfl) ?_
            obtain ⟨g5, hf⟩ := zgd hf
            refine zald_i X hP (k := 5) (n := 462) (rs := []) rfl g5 dX12_layCut_192 ?_
            refine lv_iload_n hx hb dX12_layCut_193 rfl (lv_at hl 1 rfl) ?_
            refine zicmp_ne (tgt := 206) hx hb dX12_layCut_194 (by decide) hf (fun hf => ?_) (fun hf => ?_)
            · refine lv_lconst (v := 0) hx hb dX12_layCut_206 (by decide) ?_
              exact hc_207 x2 x3 0 x3 s1 _ _ _ (lv_sub hl [0, 1, 2] rfl) hP hS hf
            · refine lv_aload_n hx hb dX12_layCut_197 rfl (lv_at hl 0 rfl) ?_
              refine gf_X12_117 X hP (k := 0) (q := 15) rfl dX12_layCut_198 rfl ?_
              refine lv_iload_n hx hb dX12_layCut_201 rfl (lv_at hl 2 rfl) ?_
              obtain ⟨g7, hf⟩ := zgd hf
              refine zald_l X hP (k := 15) (n := 462) (rs := []) rfl g7 dX12_layCut_202 ?_
              refine lv_goto (tgt := 207) hx hb dX12_layCut_203 (by decide) ?_
              exact hc_207 x2 x3 (s1.2 15 (x3).toNatClampNeg) x3 s1 _ _ _ (lv_sub hl [0, 1, 2] rfl) hP hS hf
      have hc_43 : ∀ (n43 : Nat) (x1 : Int32) (x2 : Int32) (x3 : Int32) (x4 : Int32) (s1 : SS) (H : Heap) (locs : List Loc) (ls : Array Slot), lv_has ls 6 [(0, .ref (ad 0)), (1, .int x1), (2, .int x2), (3, .int x3), (4, .int x4)] → va_P D ZCL (zw Om Nm cA ad s1) H → va_S A s.heap H locs → f_X12_layCut_c43 (f_X12_layCut_c10 n10) n43 x1 x2 x3 x4 s1 = some (rr, sr) → W p l e (zrm 5) s m args below meth c H locs 0 0 (MQ below (zQc Om Nm cA ad D A none sr) args s 0 0 A) (F0 m 43 ls []) := by
        intro n43
        induction n43 with
        | zero =>
          intro x1 x2 x3 x4 s1 H locs ls hl hP hS hf
          rw [f_X12_layCut_c43] at hf
          cases hf
        | succ n43 ih43 =>
          have hc_92 : ∀ (n92 : Nat) (x1 : Int32) (x2 : Int32) (x3 : Int32) (x4 : Int32) (s1 : SS) (H : Heap) (locs : List Loc) (ls : Array Slot), lv_has ls 6 [(0, .ref (ad 0)), (1, .int x1), (2, .int x2), (3, .int x3), (4, .int x4)] → va_P D ZCL (zw Om Nm cA ad s1) H → va_S A s.heap H locs → f_X12_layCut_c92 (f_X12_layCut_c10 n10) n92 x1 x2 x3 x4 s1 = some (rr, sr) → W p l e (zrm 5) s m args below meth c H locs 0 0 (MQ below (zQc Om Nm cA ad D A none sr) args s 0 0 A) (F0 m 92 ls []) := by
            intro n92
            induction n92 with
            | zero =>
              intro x1 x2 x3 x4 s1 H locs ls hl hP hS hf
              rw [f_X12_layCut_c92] at hf
              cases hf
            | succ n92 ih92 =>
              have hc_116 : ∀ (n116 : Nat) (x1 : Int32) (x2 : Int32) (x3 : Int32) (x4 : Int32) (x5 : Int32) (s1 : SS) (H : Heap) (locs : List Loc) (ls : Array Slot), lv_has ls 6 [(0, .ref (ad 0)), (1, .int x1), (2, .int x2), (3, .int x3), (4, .int x4), (5, .int x5)] → va_P D ZCL (zw Om Nm cA ad s1) H → va_S A s.heap H locs → f_X12_layCut_c116 (f_X12_layCut_c92 (f_X12_layCut_c10 n10) n92) (f_X12_layCut_c10 n10) n116 x1 x2 x3 x4 x5 s1 = some (rr, sr) → W p l e (zrm 5) s m args below meth c H locs 0 0 (MQ below (zQc Om Nm cA ad D A none sr) args s 0 0 A) (F0 m 116 ls []) := by
                intro n116
                induction n116 with
                | zero =>
                  intro x1 x2 x3 x4 x5 s1 H locs ls hl hP hS hf
                  rw [f_X12_layCut_c116] at hf
                  cases hf
                | succ n116 ih116 =>
                  intro x1 x2 x3 x4 x5 s1 H locs ls hl hP hS hf
                  rw [f_X12_layCut_c116] at hf
                  refine lv_iload hx hb dX12_layCut_116 (lv_at hl 5 rfl) ?_
                  refine lv_aload_n hx hb dX12_layCut_118 rfl (lv_at hl 0 rfl) ?_
                  refine gf_X12_56 X hP (k := 0) rfl dX12_layCut_119 ?_
                  refine zicmp_ge (tgt := 148) hx hb dX12_layCut_122 (by decide) hf (fun hf => ?_) (fun hf => ?_)
                  · refine lv_iinc (v := (x4 + 1)) (lv' := [(4, .int (x4 + 1)), (0, .ref (ad 0)), (1, .int x1), (2, .int x2), (3, .int x3), (5, .int x5)]) hx hb dX12_layCut_148 hl (k := 4) rfl rfl (by decide) rfl (fun ls hl => ?_)
                    refine lv_goto (tgt := 92) hx hb dX12_layCut_151 (by decide) ?_
                    exact ih92 x1 x2 x3 (x4 + 1) s1 _ _ _ (lv_sub hl [1, 2, 3, 4, 0] rfl) hP hS hf
                  · refine lv_aload_n hx hb dX12_layCut_125 rfl (lv_at hl 0 rfl) ?_
                    refine gf_X12_171 X hP (k := 0) (q := 34) rfl dX12_layCut_126 rfl ?_
                    refine lv_iload hx hb dX12_layCut_129 (lv_at hl 5 rfl) ?_
                    refine lv_dup2_11 hx hb dX12_layCut_131 rfl rfl ?_
                    obtain ⟨g24, hf⟩ := zgd hf
                    refine zald_l X hP (k := 34) (n := 462) (rs := []) rfl g24 dX12_layCut_132 ?_
                    refine lv_aload_n hx hb dX12_layCut_133 rfl (lv_at hl 0 rfl) ?_
                    refine gf_X12_111 X hP (k := 0) (q := 13) rfl dX12_layCut_134 rfl ?_
                    refine lv_iload hx hb dX12_layCut_137 (lv_at hl 5 rfl) ?_
                    obtain ⟨g25, hf⟩ := zgd hf
                    refine zald_l X hP (k := 13) (n := 462) (rs := []) rfl g25 dX12_layCut_139 ?_
                    refine lv_ladd hx hb dX12_layCut_140 ?_
                    obtain ⟨g26, hf⟩ := zgd hf
                    refine zast_l X hP hS (k := 34) (n := 462) (rs := []) rfl g26 dX12_layCut_141 (fun H locs hP hS => ?_)
                    refine lv_iinc (v := (x5 + 1)) (lv' := [(5, .int (x5 + 1)), (0, .ref (ad 0)), (1, .int x1), (2, .int x2), (3, .int x3), (4, .int x4)]) hx hb dX12_layCut_142 hl (k := 5) rfl rfl (by decide) rfl (fun ls hl => ?_)
                    refine lv_goto (tgt := 116) hx hb dX12_layCut_145 (by decide) ?_
                    exact ih116 x1 x2 x3 x4 (x5 + 1) (zSL s1 34 (x5).toNatClampNeg (((s1.2 34 (x5).toNatClampNeg) + (s1.2 13 (x5).toNatClampNeg)))) _ _ _ (lv_sub hl [1, 2, 3, 4, 5, 0] rfl) hP hS hf
              intro x1 x2 x3 x4 s1 H locs ls hl hP hS hf
              rw [f_X12_layCut_c92] at hf
              refine lv_iload hx hb dX12_layCut_92 (lv_at hl 4 rfl) ?_
              refine lv_aload_n hx hb dX12_layCut_94 rfl (lv_at hl 0 rfl) ?_
              refine gf_X12_27 X hP (k := 0) rfl dX12_layCut_95 ?_
              refine zicmp_ge (tgt := 154) hx hb dX12_layCut_98 (by decide) hf (fun hf => ?_) (fun hf => ?_)
              · refine lv_aload_n hx hb dX12_layCut_154 rfl (lv_at hl 0 rfl) ?_
                refine lv_aload_n hx hb dX12_layCut_155 rfl (lv_at hl 0 rfl) ?_
                refine gf_X12_117 X hP (k := 0) (q := 15) rfl dX12_layCut_156 rfl ?_
                refine lv_aload_n hx hb dX12_layCut_159 rfl (lv_at hl 0 rfl) ?_
                refine gf_X12_171 X hP (k := 0) (q := 34) rfl dX12_layCut_160 rfl ?_
                obtain ⟨r18, s19, h20, hf⟩ := zbd_some hf
                refine zcallV X hP hS hl.1 (k := 0) (As := [.ref (ad 15), .ref (ad 34)]) (rest := []) (cn_X12_multiply h20) cw_X12_multiply zp_12 rfl (by decide) rfl ml_X12_272 (by decide) rfl rfl (Nat.le_of_ble_eq_true rfl) dX12_layCut_163 (fun H locs hP hS => ?_)
                refine lv_iinc (v := (x3 + 1)) (lv' := [(3, .int (x3 + 1)), (0, .ref (ad 0)), (1, .int x1), (2, .int x2), (4, .int x4)]) hx hb dX12_layCut_166 hl (k := 3) rfl rfl (by decide) rfl (fun ls hl => ?_)
                refine lv_goto (tgt := 10) hx hb dX12_layCut_169 (by decide) ?_
                exact ih10 x1 x2 (x3 + 1) s19 _ _ _ (lv_sub hl [1, 2, 3, 0] rfl) hP hS hf
              · refine lv_aload_n hx hb dX12_layCut_101 rfl (lv_at hl 0 rfl) ?_
                refine lv_aload_n hx hb dX12_layCut_102 rfl (lv_at hl 0 rfl) ?_
                refine gf_X12_111 X hP (k := 0) (q := 13) rfl dX12_layCut_103 rfl ?_
                refine lv_aload_n hx hb dX12_layCut_106 rfl (lv_at hl 0 rfl) ?_
                refine gf_X12_114 X hP (k := 0) (q := 14) rfl dX12_layCut_107 rfl ?_
                obtain ⟨r21, s22, h23, hf⟩ := zbd_some hf
                refine zcallV X hP hS hl.1 (k := 0) (As := [.ref (ad 13), .ref (ad 14)]) (rest := []) (cn_X12_multiply h23) cw_X12_multiply zp_12 rfl (by decide) rfl ml_X12_272 (by decide) rfl rfl (Nat.le_of_ble_eq_true rfl) dX12_layCut_110 (fun H locs hP hS => ?_)
                refine lv_iconst (v := 0) hx hb dX12_layCut_113 (by decide) ?_
                refine lv_istore (lv' := [(5, .int 0), (0, .ref (ad 0)), (1, .int x1), (2, .int x2), (3, .int x3), (4, .int x4)]) hx hb dX12_layCut_114 hl (by decide) rfl (fun ls hl => ?_)
                exact hc_116 ZF x1 x2 x3 x4 0 s22 _ _ _ (lv_sub hl [1, 2, 3, 4, 5, 0] rfl) hP hS hf
          intro x1 x2 x3 x4 s1 H locs ls hl hP hS hf
          rw [f_X12_layCut_c43] at hf
          refine lv_iload hx hb dX12_layCut_43 (lv_at hl 4 rfl) ?_
          refine lv_aload_n hx hb dX12_layCut_45 rfl (lv_at hl 0 rfl) ?_
          refine gf_X12_56 X hP (k := 0) rfl dX12_layCut_46 ?_
          refine zicmp_ge (tgt := 73) hx hb dX12_layCut_49 (by decide) hf (fun hf => ?_) (fun hf => ?_)
          · refine lv_aload_n hx hb dX12_layCut_73 rfl (lv_at hl 0 rfl) ?_
            refine lv_aload_n hx hb dX12_layCut_74 rfl (lv_at hl 0 rfl) ?_
            refine gf_X12_171 X hP (k := 0) (q := 34) rfl dX12_layCut_75 rfl ?_
            obtain ⟨r12, s13, h14, hf⟩ := zbd_some hf
            refine zcallV X hP hS hl.1 (k := 0) (As := [.ref (ad 34)]) (rest := []) (cn_X12_layOne h14) cw_X12_layOne zp_12 rfl (by decide) rfl ml_X12_278 (by decide) rfl rfl (Nat.le_of_ble_eq_true rfl) dX12_layCut_78 (fun H locs hP hS => ?_)
            refine lv_aload_n hx hb dX12_layCut_81 rfl (lv_at hl 0 rfl) ?_
            refine lv_aload_n hx hb dX12_layCut_82 rfl (lv_at hl 0 rfl) ?_
            refine gf_X12_111 X hP (k := 0) (q := 13) rfl dX12_layCut_83 rfl ?_
            obtain ⟨r15, s16, h17, hf⟩ := zbd_some hf
            refine zcallV X hP hS hl.1 (k := 0) (As := [.ref (ad 13)]) (rest := []) (cn_X12_layOne h17) cw_X12_layOne zp_12 rfl (by decide) rfl ml_X12_278 (by decide) rfl rfl (Nat.le_of_ble_eq_true rfl) dX12_layCut_86 (fun H locs hP hS => ?_)
            refine lv_iconst (v := 0) hx hb dX12_layCut_89 (by decide) ?_
            refine lv_istore (lv' := [(4, .int 0), (0, .ref (ad 0)), (1, .int x1), (2, .int x2), (3, .int x3)]) hx hb dX12_layCut_90 hl (by decide) rfl (fun ls hl => ?_)
            exact hc_92 ZF x1 x2 x3 0 s16 _ _ _ (lv_sub hl [1, 2, 3, 4, 0] rfl) hP hS hf
          · refine lv_aload_n hx hb dX12_layCut_52 rfl (lv_at hl 0 rfl) ?_
            refine gf_X12_114 X hP (k := 0) (q := 14) rfl dX12_layCut_53 rfl ?_
            refine lv_iload hx hb dX12_layCut_56 (lv_at hl 4 rfl) ?_
            refine lv_aload_n hx hb dX12_layCut_58 rfl (lv_at hl 0 rfl) ?_
            refine gf_X12_114 X hP (k := 0) (q := 14) rfl dX12_layCut_59 rfl ?_
            refine lv_iload hx hb dX12_layCut_62 (lv_at hl 4 rfl) ?_
            obtain ⟨g27, hf⟩ := zgd hf
            refine zald_l X hP (k := 14) (n := 462) (rs := []) rfl g27 dX12_layCut_64 ?_
            refine lv_lneg hx hb dX12_layCut_65 ?_
            obtain ⟨g28, hf⟩ := zgd hf
            refine zast_l X hP hS (k := 14) (n := 462) (rs := []) rfl g28 dX12_layCut_66 (fun H locs hP hS => ?_)
            refine lv_iinc (v := (x4 + 1)) (lv' := [(4, .int (x4 + 1)), (0, .ref (ad 0)), (1, .int x1), (2, .int x2), (3, .int x3)]) hx hb dX12_layCut_67 hl (k := 4) rfl rfl (by decide) rfl (fun ls hl => ?_)
            refine lv_goto (tgt := 43) hx hb dX12_layCut_70 (by decide) ?_
            exact ih43 x1 x2 x3 (x4 + 1) (zSL s1 14 (x4).toNatClampNeg (-(s1.2 14 (x4).toNatClampNeg))) _ _ _ (lv_sub hl [1, 2, 3, 4, 0] rfl) hP hS hf
      intro x1 x2 x3 s1 H locs ls hl hP hS hf
      rw [f_X12_layCut_c10] at hf
      refine lv_iload_n hx hb dX12_layCut_10 rfl (lv_at hl 3 rfl) ?_
      refine lv_aload_n hx hb dX12_layCut_11 rfl (lv_at hl 0 rfl) ?_
      refine gf_X12_141 X hP (k := 0) (q := 23) rfl dX12_layCut_12 rfl ?_
      refine lv_iload_n hx hb dX12_layCut_15 rfl (lv_at hl 1 rfl) ?_
      obtain ⟨g4, hf⟩ := zgd hf
      refine zald_i X hP (k := 23) (n := 3) (rs := []) rfl g4 dX12_layCut_16 ?_
      refine zicmp_ge (tgt := 172) hx hb dX12_layCut_17 (by decide) hf (fun hf => ?_) (fun hf => ?_)
      · refine lv_iconst (v := 0) hx hb dX12_layCut_172 (by decide) ?_
        refine lv_istore_n (lv' := [(3, .int 0), (0, .ref (ad 0)), (1, .int x1), (2, .int x2)]) hx hb dX12_layCut_173 rfl hl (by decide) rfl (fun ls hl => ?_)
        exact hc_174 ZF x2 0 s1 _ _ _ (lv_sub hl [1, 3, 0] rfl) hP hS hf
      · refine lv_aload_n hx hb dX12_layCut_20 rfl (lv_at hl 0 rfl) ?_
        refine lv_aload_n hx hb dX12_layCut_21 rfl (lv_at hl 0 rfl) ?_
        refine gf_X12_144 X hP (k := 0) (q := 24) rfl dX12_layCut_22 rfl ?_
        refine lv_bipush (v := 20) hx hb dX12_layCut_25 (by decide) ?_
        refine lv_iload_n hx hb dX12_layCut_27 rfl (lv_at hl 1 rfl) ?_
        refine lv_imul hx hb dX12_layCut_28 ?_
        refine lv_iload_n hx hb dX12_layCut_29 rfl (lv_at hl 3 rfl) ?_
        refine lv_iadd hx hb dX12_layCut_30 ?_
        obtain ⟨g8, hf⟩ := zgd hf
        refine zald_l X hP (k := 24) (n := 60) (rs := []) rfl g8 dX12_layCut_31 ?_
        refine lv_l2i hx hb dX12_layCut_32 rfl ?_
        refine lv_aload_n hx hb dX12_layCut_33 rfl (lv_at hl 0 rfl) ?_
        refine gf_X12_114 X hP (k := 0) (q := 14) rfl dX12_layCut_34 rfl ?_
        obtain ⟨r9, s10, h11, hf⟩ := zbd_some hf
        refine zcallV X hP hS hl.1 (k := 0) (As := [.int ((s1.2 24 ((((20 : Int32) * x1) + x3)).toNatClampNeg)).toInt32, .ref (ad 14)]) (rest := []) (cn_X12_layClass h11) cw_X12_layClass zp_12 rfl (by decide) rfl ml_X12_264 (by decide) rfl rfl (Nat.le_of_ble_eq_true rfl) dX12_layCut_37 (fun H locs hP hS => ?_)
        refine lv_iconst (v := 0) hx hb dX12_layCut_40 (by decide) ?_
        refine lv_istore (lv' := [(4, .int 0), (0, .ref (ad 0)), (1, .int x1), (2, .int x2), (3, .int x3)]) hx hb dX12_layCut_41 hl (by decide) rfl (fun ls hl => ?_)
        exact hc_43 ZF x1 x2 x3 0 s10 _ _ _ (lv_sub hl [1, 2, 3, 4, 0] rfl) hP hS hf
  rw [f_X12_layCut] at hf
  refine lv_aload_n hx hb dX12_layCut_0 rfl (lv_at hl 0 rfl) ?_
  refine lv_aload_n hx hb dX12_layCut_1 rfl (lv_at hl 0 rfl) ?_
  refine gf_X12_117 X hP (k := 0) (q := 15) rfl dX12_layCut_2 rfl ?_
  obtain ⟨r1, s2, h3, hf⟩ := zbd_some hf
  refine zcallV X hP hS hl.1 (k := 0) (As := [.ref (ad 15)]) (rest := []) (cn_X12_layChern h3) cw_X12_layChern zp_12 rfl (by decide) rfl ml_X12_302 (by decide) rfl rfl (Nat.le_of_ble_eq_true rfl) dX12_layCut_5 (fun H locs hP hS => ?_)
  refine lv_iconst (v := 0) hx hb dX12_layCut_8 (by decide) ?_
  refine lv_istore_n (lv' := [(3, .int 0), (0, .ref (ad 0)), (1, .int x1), (2, .int x2)]) hx hb dX12_layCut_9 rfl hl (by decide) rfl (fun ls hl => ?_)
  exact hc_10 ZF x1 x2 0 s2 _ _ _ (lv_sub hl [1, 2, 3, 0] rfl) hP hS hf
theorem dX12_eulerOf_0 : decode cX12_eulerOf 0 = .ok (.aload_n 0, 1) := by decide +kernel
theorem dX12_eulerOf_1 : decode cX12_eulerOf 1 = .ok (.iload_n 1, 1) := by decide +kernel
theorem dX12_eulerOf_2 : decode cX12_eulerOf 2 = .ok (.iload_n 2, 1) := by decide +kernel
theorem dX12_eulerOf_3 : decode cX12_eulerOf 3 = .ok (.invokevirtual 305, 3) := by decide +kernel
theorem dX12_eulerOf_6 : decode cX12_eulerOf 6 = .ok (.aload_n 0, 1) := by decide +kernel
theorem dX12_eulerOf_7 : decode cX12_eulerOf 7 = .ok (.iload_n 1, 1) := by decide +kernel
theorem dX12_eulerOf_8 : decode cX12_eulerOf 8 = .ok (.invokevirtual 289, 3) := by decide +kernel
theorem dX12_eulerOf_11 : decode cX12_eulerOf 11 = .ok (.aload_n 0, 1) := by decide +kernel
theorem dX12_eulerOf_12 : decode cX12_eulerOf 12 = .ok (.aload_n 0, 1) := by decide +kernel
theorem dX12_eulerOf_13 : decode cX12_eulerOf 13 = .ok (.getfield 111, 3) := by decide +kernel
theorem dX12_eulerOf_16 : decode cX12_eulerOf 16 = .ok (.aload_n 0, 1) := by decide +kernel
theorem dX12_eulerOf_17 : decode cX12_eulerOf 17 = .ok (.getfield 117, 3) := by decide +kernel
theorem dX12_eulerOf_20 : decode cX12_eulerOf 20 = .ok (.invokevirtual 272, 3) := by decide +kernel
theorem dX12_eulerOf_23 : decode cX12_eulerOf 23 = .ok (.aload_n 0, 1) := by decide +kernel
theorem dX12_eulerOf_24 : decode cX12_eulerOf 24 = .ok (.aload_n 0, 1) := by decide +kernel
theorem dX12_eulerOf_25 : decode cX12_eulerOf 25 = .ok (.getfield 111, 3) := by decide +kernel
theorem dX12_eulerOf_28 : decode cX12_eulerOf 28 = .ok (.invokevirtual 268, 3) := by decide +kernel
theorem dX12_eulerOf_31 : decode cX12_eulerOf 31 = .ok (.lreturn, 1) := by decide +kernel
set_option maxHeartbeats 4000000 in
set_option maxRecDepth 100000 in
theorem cn_X12_eulerOf {l : Launch} {cA : Nat → ClassId} {ad : Nat → Nat} {D : va_G} {E : Nat → Nat} {A : Nat → Prop} {x1 : Int32} {x2 : Int32} {s0 sr : SS} {rr : Int64} (hf : f_X12_eulerOf x1 x2 s0 = some (rr, sr)) : zCon Om Nm cA ad D E l yX12_eulerOf cX12_eulerOf 3 (some .long) 6 A [.ref (ad 0), .int x1, .int x2] s0 (some (.long rr)) sr := by
  refine zstart (own := RX12) hOm (by decide) rfl (Nat.le_of_ble_eq_true rfl) ?_
  intro p e s m args below meth c X hP ls hl
  have hx := X.1
  have hb := X.2.1
  have hl : lv_has ls 3 [(0, .ref (ad 0)), (1, .int x1), (2, .int x2)] := hl
  have hS : va_S A s.heap s.heap [] := va_S.rf
  rw [f_X12_eulerOf] at hf
  refine lv_aload_n hx hb dX12_eulerOf_0 rfl (lv_at hl 0 rfl) ?_
  refine lv_iload_n hx hb dX12_eulerOf_1 rfl (lv_at hl 1 rfl) ?_
  refine lv_iload_n hx hb dX12_eulerOf_2 rfl (lv_at hl 2 rfl) ?_
  obtain ⟨r1, s2, h3, hf⟩ := zbd_some hf
  refine zcallV X hP hS hl.1 (k := 0) (As := [.int x1, .int x2]) (rest := []) (cn_X12_layCut h3) cw_X12_layCut zp_12 rfl (by decide) rfl ml_X12_305 (by decide) rfl rfl (Nat.le_of_ble_eq_true rfl) dX12_eulerOf_3 (fun H locs hP hS => ?_)
  refine lv_aload_n hx hb dX12_eulerOf_6 rfl (lv_at hl 0 rfl) ?_
  refine lv_iload_n hx hb dX12_eulerOf_7 rfl (lv_at hl 1 rfl) ?_
  obtain ⟨r4, s5, h6, hf⟩ := zbd_some hf
  refine zcallV X hP hS hl.1 (k := 0) (As := [.int x1]) (rest := []) (cn_X12_layAll h6) cw_X12_layAll zp_12 rfl (by decide) rfl ml_X12_289 (by decide) rfl rfl (Nat.le_of_ble_eq_true rfl) dX12_eulerOf_8 (fun H locs hP hS => ?_)
  refine lv_aload_n hx hb dX12_eulerOf_11 rfl (lv_at hl 0 rfl) ?_
  refine lv_aload_n hx hb dX12_eulerOf_12 rfl (lv_at hl 0 rfl) ?_
  refine gf_X12_111 X hP (k := 0) (q := 13) rfl dX12_eulerOf_13 rfl ?_
  refine lv_aload_n hx hb dX12_eulerOf_16 rfl (lv_at hl 0 rfl) ?_
  refine gf_X12_117 X hP (k := 0) (q := 15) rfl dX12_eulerOf_17 rfl ?_
  obtain ⟨r7, s8, h9, hf⟩ := zbd_some hf
  refine zcallV X hP hS hl.1 (k := 0) (As := [.ref (ad 13), .ref (ad 15)]) (rest := []) (cn_X12_multiply h9) cw_X12_multiply zp_12 rfl (by decide) rfl ml_X12_272 (by decide) rfl rfl (Nat.le_of_ble_eq_true rfl) dX12_eulerOf_20 (fun H locs hP hS => ?_)
  refine lv_aload_n hx hb dX12_eulerOf_23 rfl (lv_at hl 0 rfl) ?_
  refine lv_aload_n hx hb dX12_eulerOf_24 rfl (lv_at hl 0 rfl) ?_
  refine gf_X12_111 X hP (k := 0) (q := 13) rfl dX12_eulerOf_25 rfl ?_
  obtain ⟨r10, s11, h12, hf⟩ := zbd_some hf
  refine zcallV X hP hS hl.1 (k := 0) (As := [.ref (ad 13)]) (rest := []) (cn_X12_metOf h12) cw_X12_metOf zp_12 rfl (by decide) rfl ml_X12_268 (by decide) rfl rfl (Nat.le_of_ble_eq_true rfl) dX12_eulerOf_28 (fun H locs hP hS => ?_)
  exact zret_l X hP hS hf dX12_eulerOf_31
theorem dX12_cutOut_0 : decode cX12_cutOut 0 = .ok (.iload_n 2, 1) := by decide +kernel
theorem dX12_cutOut_1 : decode cX12_cutOut 1 = .ok (.i2l, 1) := by decide +kernel
theorem dX12_cutOut_2 : decode cX12_cutOut 2 = .ok (.lconst 0, 1) := by decide +kernel
theorem dX12_cutOut_3 : decode cX12_cutOut 3 = .ok (.ldc2_w 309, 3) := by decide +kernel
theorem dX12_cutOut_6 : decode cX12_cutOut 6 = .ok (.invokestatic 203, 3) := by decide +kernel
theorem dX12_cutOut_9 : decode cX12_cutOut 9 = .ok (.ifCond .eq 11, 3) := by decide +kernel
theorem dX12_cutOut_12 : decode cX12_cutOut 12 = .ok (.aload_n 0, 1) := by decide +kernel
theorem dX12_cutOut_13 : decode cX12_cutOut 13 = .ok (.iload_n 1, 1) := by decide +kernel
theorem dX12_cutOut_14 : decode cX12_cutOut 14 = .ok (.invokevirtual 281, 3) := by decide +kernel
theorem dX12_cutOut_17 : decode cX12_cutOut 17 = .ok (.ifCond .ne 7, 3) := by decide +kernel
theorem dX12_cutOut_20 : decode cX12_cutOut 20 = .ok (.ldc2_w 220, 3) := by decide +kernel
theorem dX12_cutOut_23 : decode cX12_cutOut 23 = .ok (.lreturn, 1) := by decide +kernel
theorem dX12_cutOut_24 : decode cX12_cutOut 24 = .ok (.aload_n 0, 1) := by decide +kernel
theorem dX12_cutOut_25 : decode cX12_cutOut 25 = .ok (.invokevirtual 298, 3) := by decide +kernel
theorem dX12_cutOut_28 : decode cX12_cutOut 28 = .ok (.ifCond .eq 24, 3) := by decide +kernel
theorem dX12_cutOut_31 : decode cX12_cutOut 31 = .ok (.aload_n 0, 1) := by decide +kernel
theorem dX12_cutOut_32 : decode cX12_cutOut 32 = .ok (.iload_n 1, 1) := by decide +kernel
theorem dX12_cutOut_33 : decode cX12_cutOut 33 = .ok (.invokevirtual 284, 3) := by decide +kernel
theorem dX12_cutOut_36 : decode cX12_cutOut 36 = .ok (.ifCond .eq 16, 3) := by decide +kernel
theorem dX12_cutOut_39 : decode cX12_cutOut 39 = .ok (.aload_n 0, 1) := by decide +kernel
theorem dX12_cutOut_40 : decode cX12_cutOut 40 = .ok (.getfield 141, 3) := by decide +kernel
theorem dX12_cutOut_43 : decode cX12_cutOut 43 = .ok (.iload_n 1, 1) := by decide +kernel
theorem dX12_cutOut_44 : decode cX12_cutOut 44 = .ok (.iaload, 1) := by decide +kernel
theorem dX12_cutOut_45 : decode cX12_cutOut 45 = .ok (.aload_n 0, 1) := by decide +kernel
theorem dX12_cutOut_46 : decode cX12_cutOut 46 = .ok (.getfield 27, 3) := by decide +kernel
theorem dX12_cutOut_49 : decode cX12_cutOut 49 = .ok (.if_icmp .le 7, 3) := by decide +kernel
theorem dX12_cutOut_52 : decode cX12_cutOut 52 = .ok (.ldc2_w 287, 3) := by decide +kernel
theorem dX12_cutOut_55 : decode cX12_cutOut 55 = .ok (.lreturn, 1) := by decide +kernel
theorem dX12_cutOut_56 : decode cX12_cutOut 56 = .ok (.iconst 0, 1) := by decide +kernel
theorem dX12_cutOut_57 : decode cX12_cutOut 57 = .ok (.istore_n 3, 1) := by decide +kernel
theorem dX12_cutOut_58 : decode cX12_cutOut 58 = .ok (.iload_n 3, 1) := by decide +kernel
theorem dX12_cutOut_59 : decode cX12_cutOut 59 = .ok (.aload_n 0, 1) := by decide +kernel
theorem dX12_cutOut_60 : decode cX12_cutOut 60 = .ok (.getfield 141, 3) := by decide +kernel
theorem dX12_cutOut_63 : decode cX12_cutOut 63 = .ok (.iload_n 1, 1) := by decide +kernel
theorem dX12_cutOut_64 : decode cX12_cutOut 64 = .ok (.iaload, 1) := by decide +kernel
theorem dX12_cutOut_65 : decode cX12_cutOut 65 = .ok (.if_icmp .ge 32, 3) := by decide +kernel
theorem dX12_cutOut_68 : decode cX12_cutOut 68 = .ok (.aload_n 0, 1) := by decide +kernel
theorem dX12_cutOut_69 : decode cX12_cutOut 69 = .ok (.aload_n 0, 1) := by decide +kernel
theorem dX12_cutOut_70 : decode cX12_cutOut 70 = .ok (.getfield 144, 3) := by decide +kernel
theorem dX12_cutOut_73 : decode cX12_cutOut 73 = .ok (.bipush 20, 2) := by decide +kernel
theorem dX12_cutOut_75 : decode cX12_cutOut 75 = .ok (.iload_n 1, 1) := by decide +kernel
theorem dX12_cutOut_76 : decode cX12_cutOut 76 = .ok (.imul, 1) := by decide +kernel
theorem dX12_cutOut_77 : decode cX12_cutOut 77 = .ok (.iload_n 3, 1) := by decide +kernel
theorem dX12_cutOut_78 : decode cX12_cutOut 78 = .ok (.iadd, 1) := by decide +kernel
theorem dX12_cutOut_79 : decode cX12_cutOut 79 = .ok (.laload, 1) := by decide +kernel
theorem dX12_cutOut_80 : decode cX12_cutOut 80 = .ok (.l2i, 1) := by decide +kernel
theorem dX12_cutOut_81 : decode cX12_cutOut 81 = .ok (.invokevirtual 311, 3) := by decide +kernel
theorem dX12_cutOut_84 : decode cX12_cutOut 84 = .ok (.ifCond .ne 7, 3) := by decide +kernel
theorem dX12_cutOut_87 : decode cX12_cutOut 87 = .ok (.ldc2_w 287, 3) := by decide +kernel
theorem dX12_cutOut_90 : decode cX12_cutOut 90 = .ok (.lreturn, 1) := by decide +kernel
theorem dX12_cutOut_91 : decode cX12_cutOut 91 = .ok (.iinc 3 1, 3) := by decide +kernel
theorem dX12_cutOut_94 : decode cX12_cutOut 94 = .ok (.goto (-36), 3) := by decide +kernel
theorem dX12_cutOut_97 : decode cX12_cutOut 97 = .ok (.aload_n 0, 1) := by decide +kernel
theorem dX12_cutOut_98 : decode cX12_cutOut 98 = .ok (.getfield 27, 3) := by decide +kernel
theorem dX12_cutOut_101 : decode cX12_cutOut 101 = .ok (.aload_n 0, 1) := by decide +kernel
theorem dX12_cutOut_102 : decode cX12_cutOut 102 = .ok (.getfield 141, 3) := by decide +kernel
theorem dX12_cutOut_105 : decode cX12_cutOut 105 = .ok (.iload_n 1, 1) := by decide +kernel
theorem dX12_cutOut_106 : decode cX12_cutOut 106 = .ok (.iaload, 1) := by decide +kernel
theorem dX12_cutOut_107 : decode cX12_cutOut 107 = .ok (.isub, 1) := by decide +kernel
theorem dX12_cutOut_108 : decode cX12_cutOut 108 = .ok (.istore_n 3, 1) := by decide +kernel
theorem dX12_cutOut_109 : decode cX12_cutOut 109 = .ok (.iload_n 2, 1) := by decide +kernel
theorem dX12_cutOut_110 : decode cX12_cutOut 110 = .ok (.ifCond .ne 6, 3) := by decide +kernel
theorem dX12_cutOut_113 : decode cX12_cutOut 113 = .ok (.iload_n 3, 1) := by decide +kernel
theorem dX12_cutOut_114 : decode cX12_cutOut 114 = .ok (.i2l, 1) := by decide +kernel
theorem dX12_cutOut_115 : decode cX12_cutOut 115 = .ok (.lreturn, 1) := by decide +kernel
theorem dX12_cutOut_116 : decode cX12_cutOut 116 = .ok (.iload_n 2, 1) := by decide +kernel
theorem dX12_cutOut_117 : decode cX12_cutOut 117 = .ok (.iconst 1, 1) := by decide +kernel
theorem dX12_cutOut_118 : decode cX12_cutOut 118 = .ok (.if_icmp .ne 52, 3) := by decide +kernel
theorem dX12_cutOut_121 : decode cX12_cutOut 121 = .ok (.aload_n 0, 1) := by decide +kernel
theorem dX12_cutOut_122 : decode cX12_cutOut 122 = .ok (.iload_n 1, 1) := by decide +kernel
theorem dX12_cutOut_123 : decode cX12_cutOut 123 = .ok (.invokevirtual 289, 3) := by decide +kernel
theorem dX12_cutOut_126 : decode cX12_cutOut 126 = .ok (.aload_n 0, 1) := by decide +kernel
theorem dX12_cutOut_127 : decode cX12_cutOut 127 = .ok (.aload_n 0, 1) := by decide +kernel
theorem dX12_cutOut_128 : decode cX12_cutOut 128 = .ok (.getfield 114, 3) := by decide +kernel
theorem dX12_cutOut_131 : decode cX12_cutOut 131 = .ok (.invokevirtual 257, 3) := by decide +kernel
theorem dX12_cutOut_134 : decode cX12_cutOut 134 = .ok (.iconst 0, 1) := by decide +kernel
theorem dX12_cutOut_135 : decode cX12_cutOut 135 = .ok (.istore 4, 2) := by decide +kernel
theorem dX12_cutOut_137 : decode cX12_cutOut 137 = .ok (.iload 4, 2) := by decide +kernel
theorem dX12_cutOut_139 : decode cX12_cutOut 139 = .ok (.iload_n 3, 1) := by decide +kernel
theorem dX12_cutOut_140 : decode cX12_cutOut 140 = .ok (.if_icmp .ge 21, 3) := by decide +kernel
theorem dX12_cutOut_143 : decode cX12_cutOut 143 = .ok (.aload_n 0, 1) := by decide +kernel
theorem dX12_cutOut_144 : decode cX12_cutOut 144 = .ok (.aload_n 0, 1) := by decide +kernel
theorem dX12_cutOut_145 : decode cX12_cutOut 145 = .ok (.getfield 111, 3) := by decide +kernel
theorem dX12_cutOut_148 : decode cX12_cutOut 148 = .ok (.aload_n 0, 1) := by decide +kernel
theorem dX12_cutOut_149 : decode cX12_cutOut 149 = .ok (.getfield 114, 3) := by decide +kernel
theorem dX12_cutOut_152 : decode cX12_cutOut 152 = .ok (.invokevirtual 272, 3) := by decide +kernel
theorem dX12_cutOut_155 : decode cX12_cutOut 155 = .ok (.iinc 4 1, 3) := by decide +kernel
theorem dX12_cutOut_158 : decode cX12_cutOut 158 = .ok (.goto (-21), 3) := by decide +kernel
theorem dX12_cutOut_161 : decode cX12_cutOut 161 = .ok (.aload_n 0, 1) := by decide +kernel
theorem dX12_cutOut_162 : decode cX12_cutOut 162 = .ok (.aload_n 0, 1) := by decide +kernel
theorem dX12_cutOut_163 : decode cX12_cutOut 163 = .ok (.getfield 111, 3) := by decide +kernel
theorem dX12_cutOut_166 : decode cX12_cutOut 166 = .ok (.invokevirtual 268, 3) := by decide +kernel
theorem dX12_cutOut_169 : decode cX12_cutOut 169 = .ok (.lreturn, 1) := by decide +kernel
theorem dX12_cutOut_170 : decode cX12_cutOut 170 = .ok (.iload_n 2, 1) := by decide +kernel
theorem dX12_cutOut_171 : decode cX12_cutOut 171 = .ok (.iconst 3, 1) := by decide +kernel
theorem dX12_cutOut_172 : decode cX12_cutOut 172 = .ok (.if_icmp .ne 12, 3) := by decide +kernel
theorem dX12_cutOut_175 : decode cX12_cutOut 175 = .ok (.iload_n 3, 1) := by decide +kernel
theorem dX12_cutOut_176 : decode cX12_cutOut 176 = .ok (.iconst 1, 1) := by decide +kernel
theorem dX12_cutOut_177 : decode cX12_cutOut 177 = .ok (.if_icmp .eq 7, 3) := by decide +kernel
theorem dX12_cutOut_180 : decode cX12_cutOut 180 = .ok (.ldc2_w 287, 3) := by decide +kernel
theorem dX12_cutOut_183 : decode cX12_cutOut 183 = .ok (.lreturn, 1) := by decide +kernel
theorem dX12_cutOut_184 : decode cX12_cutOut 184 = .ok (.aload_n 0, 1) := by decide +kernel
theorem dX12_cutOut_185 : decode cX12_cutOut 185 = .ok (.iload_n 1, 1) := by decide +kernel
theorem dX12_cutOut_186 : decode cX12_cutOut 186 = .ok (.iload_n 3, 1) := by decide +kernel
theorem dX12_cutOut_187 : decode cX12_cutOut 187 = .ok (.invokevirtual 314, 3) := by decide +kernel
theorem dX12_cutOut_190 : decode cX12_cutOut 190 = .ok (.lstore 4, 2) := by decide +kernel
theorem dX12_cutOut_192 : decode cX12_cutOut 192 = .ok (.iload_n 2, 1) := by decide +kernel
theorem dX12_cutOut_193 : decode cX12_cutOut 193 = .ok (.iconst 2, 1) := by decide +kernel
theorem dX12_cutOut_194 : decode cX12_cutOut 194 = .ok (.if_icmp .ne 8, 3) := by decide +kernel
theorem dX12_cutOut_197 : decode cX12_cutOut 197 = .ok (.lload 4, 2) := by decide +kernel
theorem dX12_cutOut_199 : decode cX12_cutOut 199 = .ok (.goto 11, 3) := by decide +kernel
theorem dX12_cutOut_202 : decode cX12_cutOut 202 = .ok (.lconst 1, 1) := by decide +kernel
theorem dX12_cutOut_203 : decode cX12_cutOut 203 = .ok (.lload 4, 2) := by decide +kernel
theorem dX12_cutOut_205 : decode cX12_cutOut 205 = .ok (.ldc2_w 35, 3) := by decide +kernel
theorem dX12_cutOut_208 : decode cX12_cutOut 208 = .ok (.ldiv, 1) := by decide +kernel
theorem dX12_cutOut_209 : decode cX12_cutOut 209 = .ok (.lsub, 1) := by decide +kernel
theorem dX12_cutOut_210 : decode cX12_cutOut 210 = .ok (.lreturn, 1) := by decide +kernel
set_option maxHeartbeats 4000000 in
set_option maxRecDepth 100000 in
theorem cn_X12_cutOut {l : Launch} {cA : Nat → ClassId} {ad : Nat → Nat} {D : va_G} {E : Nat → Nat} {A : Nat → Prop} {x1 : Int32} {x2 : Int32} {s0 sr : SS} {rr : Int64} (hf : f_X12_cutOut x1 x2 s0 = some (rr, sr)) : zCon Om Nm cA ad D E l yX12_cutOut cX12_cutOut 6 (some .long) 7 A [.ref (ad 0), .int x1, .int x2] s0 (some (.long rr)) sr := by
  refine zstart (own := RX12) hOm (by decide) rfl (Nat.le_of_ble_eq_true rfl) ?_
  intro p e s m args below meth c X hP ls hl
  have hx := X.1
  have hb := X.2.1
  have hl : lv_has ls 6 [(0, .ref (ad 0)), (1, .int x1), (2, .int x2)] := hl
  have hS : va_S A s.heap s.heap [] := va_S.rf
  have hc_58 : ∀ (n58 : Nat) (x1 : Int32) (x2 : Int32) (x3 : Int32) (s1 : SS) (H : Heap) (locs : List Loc) (ls : Array Slot), lv_has ls 6 [(0, .ref (ad 0)), (1, .int x1), (2, .int x2), (3, .int x3)] → va_P D ZCL (zw Om Nm cA ad s1) H → va_S A s.heap H locs → f_X12_cutOut_c58 n58 x1 x2 x3 s1 = some (rr, sr) → W p l e (zrm 7) s m args below meth c H locs 0 0 (MQ below (zQc Om Nm cA ad D A (some (.long rr)) sr) args s 0 0 A) (F0 m 58 ls []) := by
    intro n58
    induction n58 with
    | zero =>
      intro x1 x2 x3 s1 H locs ls hl hP hS hf
      rw [f_X12_cutOut_c58] at hf
      cases hf
    | succ n58 ih58 =>
      have hc_184 : ∀ (x1 : Int32) (x2 : Int32) (x3 : Int32) (s1 : SS) (H : Heap) (locs : List Loc) (ls : Array Slot), lv_has ls 6 [(0, .ref (ad 0)), (1, .int x1), (2, .int x2), (3, .int x3)] → va_P D ZCL (zw Om Nm cA ad s1) H → va_S A s.heap H locs → f_X12_cutOut_c184 x1 x2 x3 s1 = some (rr, sr) → W p l e (zrm 7) s m args below meth c H locs 0 0 (MQ below (zQc Om Nm cA ad D A (some (.long rr)) sr) args s 0 0 A) (F0 m 184 ls []) := by
        intro x1 x2 x3 s1 H locs ls hl hP hS hf
        rw [f_X12_cutOut_c184] at hf
        refine lv_aload_n hx hb dX12_cutOut_184 rfl (lv_at hl 0 rfl) ?_
        refine lv_iload_n hx hb dX12_cutOut_185 rfl (lv_at hl 1 rfl) ?_
        refine lv_iload_n hx hb dX12_cutOut_186 rfl (lv_at hl 3 rfl) ?_
        obtain ⟨r16, s17, h18, hf⟩ := zbd_some hf
        refine zcallV X hP hS hl.1 (k := 0) (As := [.int x1, .int x3]) (rest := []) (cn_X12_eulerOf h18) cw_X12_eulerOf zp_12 rfl (by decide) rfl ml_X12_314 (by decide) rfl rfl (Nat.le_of_ble_eq_true rfl) dX12_cutOut_187 (fun H locs hP hS => ?_)
        refine lv_lstore (lv' := [(4, .long r16), (0, .ref (ad 0)), (1, .int x1), (2, .int x2), (3, .int x3)]) hx hb dX12_cutOut_190 hl (by decide) rfl (fun ls hl => ?_)
        refine lv_iload_n hx hb dX12_cutOut_192 rfl (lv_at hl 3 rfl) ?_
        refine lv_iconst (v := 2) hx hb dX12_cutOut_193 (by decide) ?_
        refine zicmp_ne (tgt := 202) hx hb dX12_cutOut_194 (by decide) hf (fun hf => ?_) (fun hf => ?_)
        · refine lv_lconst (v := 1) hx hb dX12_cutOut_202 (by decide) ?_
          refine lv_lload hx hb dX12_cutOut_203 (lv_at hl 0 rfl) ?_
          refine zldc2 X co_X12_35 dX12_cutOut_205 ?_
          refine lv_ldiv hx hb dX12_cutOut_208 (by decide) ?_
          refine lv_lsub hx hb dX12_cutOut_209 ?_
          exact zret_l X hP hS hf dX12_cutOut_210
        · refine lv_lload hx hb dX12_cutOut_197 (lv_at hl 0 rfl) ?_
          refine lv_goto (tgt := 210) hx hb dX12_cutOut_199 (by decide) ?_
          exact zret_l X hP hS hf dX12_cutOut_210
      have hc_137 : ∀ (n137 : Nat) (x3 : Int32) (x4 : Int32) (s1 : SS) (H : Heap) (locs : List Loc) (ls : Array Slot), lv_has ls 6 [(0, .ref (ad 0)), (3, .int x3), (4, .int x4)] → va_P D ZCL (zw Om Nm cA ad s1) H → va_S A s.heap H locs → f_X12_cutOut_c137 n137 x3 x4 s1 = some (rr, sr) → W p l e (zrm 7) s m args below meth c H locs 0 0 (MQ below (zQc Om Nm cA ad D A (some (.long rr)) sr) args s 0 0 A) (F0 m 137 ls []) := by
        intro n137
        induction n137 with
        | zero =>
          intro x3 x4 s1 H locs ls hl hP hS hf
          rw [f_X12_cutOut_c137] at hf
          cases hf
        | succ n137 ih137 =>
          intro x3 x4 s1 H locs ls hl hP hS hf
          rw [f_X12_cutOut_c137] at hf
          refine lv_iload hx hb dX12_cutOut_137 (lv_at hl 2 rfl) ?_
          refine lv_iload_n hx hb dX12_cutOut_139 rfl (lv_at hl 1 rfl) ?_
          refine zicmp_ge (tgt := 161) hx hb dX12_cutOut_140 (by decide) hf (fun hf => ?_) (fun hf => ?_)
          · refine lv_aload_n hx hb dX12_cutOut_161 rfl (lv_at hl 0 rfl) ?_
            refine lv_aload_n hx hb dX12_cutOut_162 rfl (lv_at hl 0 rfl) ?_
            refine gf_X12_111 X hP (k := 0) (q := 13) rfl dX12_cutOut_163 rfl ?_
            obtain ⟨r25, s26, h27, hf⟩ := zbd_some hf
            refine zcallV X hP hS hl.1 (k := 0) (As := [.ref (ad 13)]) (rest := []) (cn_X12_metOf h27) cw_X12_metOf zp_12 rfl (by decide) rfl ml_X12_268 (by decide) rfl rfl (Nat.le_of_ble_eq_true rfl) dX12_cutOut_166 (fun H locs hP hS => ?_)
            exact zret_l X hP hS hf dX12_cutOut_169
          · refine lv_aload_n hx hb dX12_cutOut_143 rfl (lv_at hl 0 rfl) ?_
            refine lv_aload_n hx hb dX12_cutOut_144 rfl (lv_at hl 0 rfl) ?_
            refine gf_X12_111 X hP (k := 0) (q := 13) rfl dX12_cutOut_145 rfl ?_
            refine lv_aload_n hx hb dX12_cutOut_148 rfl (lv_at hl 0 rfl) ?_
            refine gf_X12_114 X hP (k := 0) (q := 14) rfl dX12_cutOut_149 rfl ?_
            obtain ⟨r28, s29, h30, hf⟩ := zbd_some hf
            refine zcallV X hP hS hl.1 (k := 0) (As := [.ref (ad 13), .ref (ad 14)]) (rest := []) (cn_X12_multiply h30) cw_X12_multiply zp_12 rfl (by decide) rfl ml_X12_272 (by decide) rfl rfl (Nat.le_of_ble_eq_true rfl) dX12_cutOut_152 (fun H locs hP hS => ?_)
            refine lv_iinc (v := (x4 + 1)) (lv' := [(4, .int (x4 + 1)), (0, .ref (ad 0)), (3, .int x3)]) hx hb dX12_cutOut_155 hl (k := 2) rfl rfl (by decide) rfl (fun ls hl => ?_)
            refine lv_goto (tgt := 137) hx hb dX12_cutOut_158 (by decide) ?_
            exact ih137 x3 (x4 + 1) s29 _ _ _ (lv_sub hl [1, 2, 0] rfl) hP hS hf
      intro x1 x2 x3 s1 H locs ls hl hP hS hf
      rw [f_X12_cutOut_c58] at hf
      refine lv_iload_n hx hb dX12_cutOut_58 rfl (lv_at hl 3 rfl) ?_
      refine lv_aload_n hx hb dX12_cutOut_59 rfl (lv_at hl 0 rfl) ?_
      refine gf_X12_141 X hP (k := 0) (q := 23) rfl dX12_cutOut_60 rfl ?_
      refine lv_iload_n hx hb dX12_cutOut_63 rfl (lv_at hl 1 rfl) ?_
      obtain ⟨g14, hf⟩ := zgd hf
      refine zald_i X hP (k := 23) (n := 3) (rs := []) rfl g14 dX12_cutOut_64 ?_
      refine zicmp_ge (tgt := 97) hx hb dX12_cutOut_65 (by decide) hf (fun hf => ?_) (fun hf => ?_)
      · refine lv_aload_n hx hb dX12_cutOut_97 rfl (lv_at hl 0 rfl) ?_
        refine gf_X12_27 X hP (k := 0) rfl dX12_cutOut_98 ?_
        refine lv_aload_n hx hb dX12_cutOut_101 rfl (lv_at hl 0 rfl) ?_
        refine gf_X12_141 X hP (k := 0) (q := 23) rfl dX12_cutOut_102 rfl ?_
        refine lv_iload_n hx hb dX12_cutOut_105 rfl (lv_at hl 1 rfl) ?_
        obtain ⟨g15, hf⟩ := zgd hf
        refine zald_i X hP (k := 23) (n := 3) (rs := []) rfl g15 dX12_cutOut_106 ?_
        refine lv_isub hx hb dX12_cutOut_107 ?_
        refine lv_istore_n (lv' := [(3, .int ((s1.1 0 1) - (s1.1 23 (x1).toNatClampNeg))), (0, .ref (ad 0)), (1, .int x1), (2, .int x2)]) hx hb dX12_cutOut_108 rfl hl (by decide) rfl (fun ls hl => ?_)
        refine lv_iload_n hx hb dX12_cutOut_109 rfl (lv_at hl 3 rfl) ?_
        refine zif_ne (tgt := 116) hx hb dX12_cutOut_110 (by decide) hf (fun hf => ?_) (fun hf => ?_)
        · refine lv_iload_n hx hb dX12_cutOut_116 rfl (lv_at hl 3 rfl) ?_
          refine lv_iconst (v := 1) hx hb dX12_cutOut_117 (by decide) ?_
          refine zicmp_ne (tgt := 170) hx hb dX12_cutOut_118 (by decide) hf (fun hf => ?_) (fun hf => ?_)
          · refine lv_iload_n hx hb dX12_cutOut_170 rfl (lv_at hl 3 rfl) ?_
            refine lv_iconst (v := 3) hx hb dX12_cutOut_171 (by decide) ?_
            refine zicmp_ne (tgt := 184) hx hb dX12_cutOut_172 (by decide) hf (fun hf => ?_) (fun hf => ?_)
            · exact hc_184 x1 x2 ((s1.1 0 1) - (s1.1 23 (x1).toNatClampNeg)) s1 _ _ _ (lv_sub hl [1, 2, 3, 0] rfl) hP hS hf
            · refine lv_iload_n hx hb dX12_cutOut_175 rfl (lv_at hl 0 rfl) ?_
              refine lv_iconst (v := 1) hx hb dX12_cutOut_176 (by decide) ?_
              refine zicmp_eq (tgt := 184) hx hb dX12_cutOut_177 (by decide) hf (fun hf => ?_) (fun hf => ?_)
              · exact hc_184 x1 x2 ((s1.1 0 1) - (s1.1 23 (x1).toNatClampNeg)) s1 _ _ _ (lv_sub hl [1, 2, 3, 0] rfl) hP hS hf
              · refine zldc2 X co_X12_287 dX12_cutOut_180 ?_
                exact zret_l X hP hS hf dX12_cutOut_183
          · refine lv_aload_n hx hb dX12_cutOut_121 rfl (lv_at hl 1 rfl) ?_
            refine lv_iload_n hx hb dX12_cutOut_122 rfl (lv_at hl 2 rfl) ?_
            obtain ⟨r19, s20, h21, hf⟩ := zbd_some hf
            refine zcallV X hP hS hl.1 (k := 0) (As := [.int x1]) (rest := []) (cn_X12_layAll h21) cw_X12_layAll zp_12 rfl (by decide) rfl ml_X12_289 (by decide) rfl rfl (Nat.le_of_ble_eq_true rfl) dX12_cutOut_123 (fun H locs hP hS => ?_)
            refine lv_aload_n hx hb dX12_cutOut_126 rfl (lv_at hl 1 rfl) ?_
            refine lv_aload_n hx hb dX12_cutOut_127 rfl (lv_at hl 1 rfl) ?_
            refine gf_X12_114 X hP (k := 0) (q := 14) rfl dX12_cutOut_128 rfl ?_
            obtain ⟨r22, s23, h24, hf⟩ := zbd_some hf
            refine zcallV X hP hS hl.1 (k := 0) (As := [.ref (ad 14)]) (rest := []) (cn_X12_layCanonical h24) cw_X12_layCanonical zp_12 rfl (by decide) rfl ml_X12_257 (by decide) rfl rfl (Nat.le_of_ble_eq_true rfl) dX12_cutOut_131 (fun H locs hP hS => ?_)
            refine lv_iconst (v := 0) hx hb dX12_cutOut_134 (by decide) ?_
            refine lv_istore (lv' := [(4, .int 0), (3, .int ((s1.1 0 1) - (s1.1 23 (x1).toNatClampNeg))), (0, .ref (ad 0)), (1, .int x1), (2, .int x2)]) hx hb dX12_cutOut_135 hl (by decide) rfl (fun ls hl => ?_)
            exact hc_137 ZF ((s1.1 0 1) - (s1.1 23 (x1).toNatClampNeg)) 0 s23 _ _ _ (lv_sub hl [2, 1, 0] rfl) hP hS hf
        · refine lv_iload_n hx hb dX12_cutOut_113 rfl (lv_at hl 0 rfl) ?_
          refine lv_i2l hx hb dX12_cutOut_114 rfl ?_
          exact zret_l X hP hS hf dX12_cutOut_115
      · refine lv_aload_n hx hb dX12_cutOut_68 rfl (lv_at hl 0 rfl) ?_
        refine lv_aload_n hx hb dX12_cutOut_69 rfl (lv_at hl 0 rfl) ?_
        refine gf_X12_144 X hP (k := 0) (q := 24) rfl dX12_cutOut_70 rfl ?_
        refine lv_bipush (v := 20) hx hb dX12_cutOut_73 (by decide) ?_
        refine lv_iload_n hx hb dX12_cutOut_75 rfl (lv_at hl 1 rfl) ?_
        refine lv_imul hx hb dX12_cutOut_76 ?_
        refine lv_iload_n hx hb dX12_cutOut_77 rfl (lv_at hl 3 rfl) ?_
        refine lv_iadd hx hb dX12_cutOut_78 ?_
        obtain ⟨g31, hf⟩ := zgd hf
        refine zald_l X hP (k := 24) (n := 60) (rs := []) rfl g31 dX12_cutOut_79 ?_
        refine lv_l2i hx hb dX12_cutOut_80 rfl ?_
        obtain ⟨r32, s33, h34, hf⟩ := zbd_some hf
        refine zcallV X hP hS hl.1 (k := 0) (As := [.int ((s1.2 24 ((((20 : Int32) * x1) + x3)).toNatClampNeg)).toInt32]) (rest := []) (cn_X12_isOfOne h34) cw_X12_isOfOne zp_12 rfl (by decide) rfl ml_X12_311 (by decide) rfl rfl (Nat.le_of_ble_eq_true rfl) dX12_cutOut_81 (fun H locs hP hS => ?_)
        refine zif_ne (tgt := 91) hx hb dX12_cutOut_84 (by decide) hf (fun hf => ?_) (fun hf => ?_)
        · refine lv_iinc (v := (x3 + 1)) (lv' := [(3, .int (x3 + 1)), (0, .ref (ad 0)), (1, .int x1), (2, .int x2)]) hx hb dX12_cutOut_91 hl (k := 3) rfl rfl (by decide) rfl (fun ls hl => ?_)
          refine lv_goto (tgt := 58) hx hb dX12_cutOut_94 (by decide) ?_
          exact ih58 x1 x2 (x3 + 1) s33 _ _ _ (lv_sub hl [1, 2, 3, 0] rfl) hP hS hf
        · refine zldc2 X co_X12_287 dX12_cutOut_87 ?_
          exact zret_l X hP hS hf dX12_cutOut_90
  rw [f_X12_cutOut] at hf
  refine lv_iload_n hx hb dX12_cutOut_0 rfl (lv_at hl 2 rfl) ?_
  refine lv_i2l hx hb dX12_cutOut_1 rfl ?_
  refine lv_lconst (v := 0) hx hb dX12_cutOut_2 (by decide) ?_
  refine zldc2 X co_X12_309 dX12_cutOut_3 ?_
  obtain ⟨r1, s2, h3, hf⟩ := zbd_some hf
  refine zcallS X hP hS hl.1 (As := [.long (x2).toInt64, .long 0, .long 3]) (rest := []) (cn_X12_in h3) cw_X12_in ml_X12_203 (by decide) rfl rfl (Nat.le_of_ble_eq_true rfl) dX12_cutOut_6 (fun H locs hP hS => ?_)
  refine zif_eq (tgt := 20) hx hb dX12_cutOut_9 (by decide) hf (fun hf => ?_) (fun hf => ?_)
  · refine zldc2 X co_X12_220 dX12_cutOut_20 ?_
    exact zret_l X hP hS hf dX12_cutOut_23
  · refine lv_aload_n hx hb dX12_cutOut_12 rfl (lv_at hl 0 rfl) ?_
    refine lv_iload_n hx hb dX12_cutOut_13 rfl (lv_at hl 1 rfl) ?_
    obtain ⟨r4, s5, h6, hf⟩ := zbd_some hf
    refine zcallV X hP hS hl.1 (k := 0) (As := [.int x1]) (rest := []) (cn_X12_isThere h6) cw_X12_isThere zp_12 rfl (by decide) rfl ml_X12_281 (by decide) rfl rfl (Nat.le_of_ble_eq_true rfl) dX12_cutOut_14 (fun H locs hP hS => ?_)
    refine zif_ne (tgt := 24) hx hb dX12_cutOut_17 (by decide) hf (fun hf => ?_) (fun hf => ?_)
    · refine lv_aload_n hx hb dX12_cutOut_24 rfl (lv_at hl 0 rfl) ?_
      obtain ⟨r7, s8, h9, hf⟩ := zbd_some hf
      refine zcallV X hP hS hl.1 (k := 0) (As := []) (rest := []) (cn_X12_isBare h9) cw_X12_isBare zp_12 rfl (by decide) rfl ml_X12_298 (by decide) rfl rfl (Nat.le_of_ble_eq_true rfl) dX12_cutOut_25 (fun H locs hP hS => ?_)
      refine zif_eq (tgt := 52) hx hb dX12_cutOut_28 (by decide) hf (fun hf => ?_) (fun hf => ?_)
      · refine zldc2 X co_X12_287 dX12_cutOut_52 ?_
        exact zret_l X hP hS hf dX12_cutOut_55
      · refine lv_aload_n hx hb dX12_cutOut_31 rfl (lv_at hl 0 rfl) ?_
        refine lv_iload_n hx hb dX12_cutOut_32 rfl (lv_at hl 1 rfl) ?_
        obtain ⟨r10, s11, h12, hf⟩ := zbd_some hf
        refine zcallV X hP hS hl.1 (k := 0) (As := [.int x1]) (rest := []) (cn_X12_areClasses h12) cw_X12_areClasses zp_12 rfl (by decide) rfl ml_X12_284 (by decide) rfl rfl (Nat.le_of_ble_eq_true rfl) dX12_cutOut_33 (fun H locs hP hS => ?_)
        refine zif_eq (tgt := 52) hx hb dX12_cutOut_36 (by decide) hf (fun hf => ?_) (fun hf => ?_)
        · refine zldc2 X co_X12_287 dX12_cutOut_52 ?_
          exact zret_l X hP hS hf dX12_cutOut_55
        · refine lv_aload_n hx hb dX12_cutOut_39 rfl (lv_at hl 0 rfl) ?_
          refine gf_X12_141 X hP (k := 0) (q := 23) rfl dX12_cutOut_40 rfl ?_
          refine lv_iload_n hx hb dX12_cutOut_43 rfl (lv_at hl 1 rfl) ?_
          obtain ⟨g13, hf⟩ := zgd hf
          refine zald_i X hP (k := 23) (n := 3) (rs := []) rfl g13 dX12_cutOut_44 ?_
          refine lv_aload_n hx hb dX12_cutOut_45 rfl (lv_at hl 0 rfl) ?_
          refine gf_X12_27 X hP (k := 0) rfl dX12_cutOut_46 ?_
          refine zicmp_le (tgt := 56) hx hb dX12_cutOut_49 (by decide) hf (fun hf => ?_) (fun hf => ?_)
          · refine lv_iconst (v := 0) hx hb dX12_cutOut_56 (by decide) ?_
            refine lv_istore_n (lv' := [(3, .int 0), (0, .ref (ad 0)), (1, .int x1), (2, .int x2)]) hx hb dX12_cutOut_57 rfl hl (by decide) rfl (fun ls hl => ?_)
            exact hc_58 ZF x1 x2 0 s11 _ _ _ (lv_sub hl [1, 2, 3, 0] rfl) hP hS hf
          · refine zldc2 X co_X12_287 dX12_cutOut_52 ?_
            exact zret_l X hP hS hf dX12_cutOut_55
    · refine zldc2 X co_X12_220 dX12_cutOut_20 ?_
      exact zret_l X hP hS hf dX12_cutOut_23
theorem dX12_timesConic_0 : decode cX12_timesConic 0 = .ok (.aload_n 0, 1) := by decide +kernel
theorem dX12_timesConic_1 : decode cX12_timesConic 1 = .ok (.aload_n 0, 1) := by decide +kernel
theorem dX12_timesConic_2 : decode cX12_timesConic 2 = .ok (.getfield 114, 3) := by decide +kernel
theorem dX12_timesConic_5 : decode cX12_timesConic 5 = .ok (.invokevirtual 237, 3) := by decide +kernel
theorem dX12_timesConic_8 : decode cX12_timesConic 8 = .ok (.aload_n 0, 1) := by decide +kernel
theorem dX12_timesConic_9 : decode cX12_timesConic 9 = .ok (.getfield 114, 3) := by decide +kernel
theorem dX12_timesConic_12 : decode cX12_timesConic 12 = .ok (.aload_n 0, 1) := by decide +kernel
theorem dX12_timesConic_13 : decode cX12_timesConic 13 = .ok (.getfield 65, 3) := by decide +kernel
theorem dX12_timesConic_16 : decode cX12_timesConic 16 = .ok (.iconst 1, 1) := by decide +kernel
theorem dX12_timesConic_17 : decode cX12_timesConic 17 = .ok (.iaload, 1) := by decide +kernel
theorem dX12_timesConic_18 : decode cX12_timesConic 18 = .ok (.lload_n 1, 1) := by decide +kernel
theorem dX12_timesConic_19 : decode cX12_timesConic 19 = .ok (.lastore, 1) := by decide +kernel
theorem dX12_timesConic_20 : decode cX12_timesConic 20 = .ok (.aload_n 0, 1) := by decide +kernel
theorem dX12_timesConic_21 : decode cX12_timesConic 21 = .ok (.getfield 114, 3) := by decide +kernel
theorem dX12_timesConic_24 : decode cX12_timesConic 24 = .ok (.aload_n 0, 1) := by decide +kernel
theorem dX12_timesConic_25 : decode cX12_timesConic 25 = .ok (.getfield 65, 3) := by decide +kernel
theorem dX12_timesConic_28 : decode cX12_timesConic 28 = .ok (.bipush 10, 2) := by decide +kernel
theorem dX12_timesConic_30 : decode cX12_timesConic 30 = .ok (.iaload, 1) := by decide +kernel
theorem dX12_timesConic_31 : decode cX12_timesConic 31 = .ok (.lload_n 3, 1) := by decide +kernel
theorem dX12_timesConic_32 : decode cX12_timesConic 32 = .ok (.lastore, 1) := by decide +kernel
theorem dX12_timesConic_33 : decode cX12_timesConic 33 = .ok (.aload_n 0, 1) := by decide +kernel
theorem dX12_timesConic_34 : decode cX12_timesConic 34 = .ok (.aload_n 0, 1) := by decide +kernel
theorem dX12_timesConic_35 : decode cX12_timesConic 35 = .ok (.getfield 111, 3) := by decide +kernel
theorem dX12_timesConic_38 : decode cX12_timesConic 38 = .ok (.aload_n 0, 1) := by decide +kernel
theorem dX12_timesConic_39 : decode cX12_timesConic 39 = .ok (.getfield 114, 3) := by decide +kernel
theorem dX12_timesConic_42 : decode cX12_timesConic 42 = .ok (.invokevirtual 272, 3) := by decide +kernel
theorem dX12_timesConic_45 : decode cX12_timesConic 45 = .ok (.return_, 1) := by decide +kernel
set_option maxHeartbeats 4000000 in
set_option maxRecDepth 100000 in
theorem cn_X12_timesConic {l : Launch} {cA : Nat → ClassId} {ad : Nat → Nat} {D : va_G} {E : Nat → Nat} {A : Nat → Prop} {x1 : Int64} {x3 : Int64} {s0 sr : SS} {rr : Unit} (hf : f_X12_timesConic x1 x3 s0 = some (rr, sr)) : zCon Om Nm cA ad D E l yX12_timesConic cX12_timesConic 5 none 2 A [.ref (ad 0), .long x1, .long x3] s0 none sr := by
  refine zstart (own := RX12) hOm (by decide) rfl (Nat.le_of_ble_eq_true rfl) ?_
  intro p e s m args below meth c X hP ls hl
  have hx := X.1
  have hb := X.2.1
  have hl : lv_has ls 5 [(0, .ref (ad 0)), (1, .long x1), (3, .long x3)] := hl
  have hS : va_S A s.heap s.heap [] := va_S.rf
  rw [f_X12_timesConic] at hf
  refine lv_aload_n hx hb dX12_timesConic_0 rfl (lv_at hl 0 rfl) ?_
  refine lv_aload_n hx hb dX12_timesConic_1 rfl (lv_at hl 0 rfl) ?_
  refine gf_X12_114 X hP (k := 0) (q := 14) rfl dX12_timesConic_2 rfl ?_
  obtain ⟨r1, s2, h3, hf⟩ := zbd_some hf
  refine zcallV X hP hS hl.1 (k := 0) (As := [.ref (ad 14)]) (rest := []) (cn_X12_empty h3) cw_X12_empty zp_12 rfl (by decide) rfl ml_X12_237 (by decide) rfl rfl (Nat.le_of_ble_eq_true rfl) dX12_timesConic_5 (fun H locs hP hS => ?_)
  refine lv_aload_n hx hb dX12_timesConic_8 rfl (lv_at hl 0 rfl) ?_
  refine gf_X12_114 X hP (k := 0) (q := 14) rfl dX12_timesConic_9 rfl ?_
  refine lv_aload_n hx hb dX12_timesConic_12 rfl (lv_at hl 0 rfl) ?_
  refine gf_X12_65 X hP (k := 0) (q := 7) rfl dX12_timesConic_13 rfl ?_
  refine lv_iconst (v := 1) hx hb dX12_timesConic_16 (by decide) ?_
  obtain ⟨g4, hf⟩ := zgd hf
  refine zald_i X hP (k := 7) (n := 600000) (rs := []) rfl g4 dX12_timesConic_17 ?_
  refine lv_lload_n hx hb dX12_timesConic_18 rfl (lv_at hl 1 rfl) ?_
  obtain ⟨g5, hf⟩ := zgd hf
  refine zast_l X hP hS (k := 14) (n := 462) (rs := []) rfl g5 dX12_timesConic_19 (fun H locs hP hS => ?_)
  refine lv_aload_n hx hb dX12_timesConic_20 rfl (lv_at hl 0 rfl) ?_
  refine gf_X12_114 X hP (k := 0) (q := 14) rfl dX12_timesConic_21 rfl ?_
  refine lv_aload_n hx hb dX12_timesConic_24 rfl (lv_at hl 0 rfl) ?_
  refine gf_X12_65 X hP (k := 0) (q := 7) rfl dX12_timesConic_25 rfl ?_
  refine lv_bipush (v := 10) hx hb dX12_timesConic_28 (by decide) ?_
  obtain ⟨g6, hf⟩ := zgd hf
  refine zald_i X hP (k := 7) (n := 600000) (rs := []) rfl g6 dX12_timesConic_30 ?_
  refine lv_lload_n hx hb dX12_timesConic_31 rfl (lv_at hl 2 rfl) ?_
  obtain ⟨g7, hf⟩ := zgd hf
  refine zast_l X hP hS (k := 14) (n := 462) (rs := []) rfl g7 dX12_timesConic_32 (fun H locs hP hS => ?_)
  refine lv_aload_n hx hb dX12_timesConic_33 rfl (lv_at hl 0 rfl) ?_
  refine lv_aload_n hx hb dX12_timesConic_34 rfl (lv_at hl 0 rfl) ?_
  refine gf_X12_111 X hP (k := 0) (q := 13) rfl dX12_timesConic_35 rfl ?_
  refine lv_aload_n hx hb dX12_timesConic_38 rfl (lv_at hl 0 rfl) ?_
  refine gf_X12_114 X hP (k := 0) (q := 14) rfl dX12_timesConic_39 rfl ?_
  obtain ⟨r8, s9, h10, hf⟩ := zbd_some hf
  refine zcallV X hP hS hl.1 (k := 0) (As := [.ref (ad 13), .ref (ad 14)]) (rest := []) (cn_X12_multiply h10) cw_X12_multiply zp_12 rfl (by decide) rfl ml_X12_272 (by decide) rfl rfl (Nat.le_of_ble_eq_true rfl) dX12_timesConic_42 (fun H locs hP hS => ?_)
  exact zret_v X hP hS hf dX12_timesConic_45
theorem dX12_through_0 : decode cX12_through 0 = .ok (.iload_n 1, 1) := by decide +kernel
theorem dX12_through_1 : decode cX12_through 1 = .ok (.i2l, 1) := by decide +kernel
theorem dX12_through_2 : decode cX12_through 2 = .ok (.lconst 0, 1) := by decide +kernel
theorem dX12_through_3 : decode cX12_through 3 = .ok (.ldc2_w 201, 3) := by decide +kernel
theorem dX12_through_6 : decode cX12_through 6 = .ok (.invokestatic 203, 3) := by decide +kernel
theorem dX12_through_9 : decode cX12_through 9 = .ok (.ifCond .eq 28, 3) := by decide +kernel
theorem dX12_through_12 : decode cX12_through 12 = .ok (.iload_n 2, 1) := by decide +kernel
theorem dX12_through_13 : decode cX12_through 13 = .ok (.i2l, 1) := by decide +kernel
theorem dX12_through_14 : decode cX12_through 14 = .ok (.lconst 0, 1) := by decide +kernel
theorem dX12_through_15 : decode cX12_through 15 = .ok (.ldc2_w 201, 3) := by decide +kernel
theorem dX12_through_18 : decode cX12_through 18 = .ok (.invokestatic 203, 3) := by decide +kernel
theorem dX12_through_21 : decode cX12_through 21 = .ok (.ifCond .eq 16, 3) := by decide +kernel
theorem dX12_through_24 : decode cX12_through 24 = .ok (.iload_n 3, 1) := by decide +kernel
theorem dX12_through_25 : decode cX12_through 25 = .ok (.iconst (-1), 1) := by decide +kernel
theorem dX12_through_26 : decode cX12_through 26 = .ok (.if_icmp .eq 15, 3) := by decide +kernel
theorem dX12_through_29 : decode cX12_through 29 = .ok (.aload_n 0, 1) := by decide +kernel
theorem dX12_through_30 : decode cX12_through 30 = .ok (.iload_n 3, 1) := by decide +kernel
theorem dX12_through_31 : decode cX12_through 31 = .ok (.invokevirtual 281, 3) := by decide +kernel
theorem dX12_through_34 : decode cX12_through 34 = .ok (.ifCond .ne 7, 3) := by decide +kernel
theorem dX12_through_37 : decode cX12_through 37 = .ok (.ldc2_w 220, 3) := by decide +kernel
theorem dX12_through_40 : decode cX12_through 40 = .ok (.lreturn, 1) := by decide +kernel
theorem dX12_through_41 : decode cX12_through 41 = .ok (.iload_n 3, 1) := by decide +kernel
theorem dX12_through_42 : decode cX12_through 42 = .ok (.iconst (-1), 1) := by decide +kernel
theorem dX12_through_43 : decode cX12_through 43 = .ok (.if_icmp .ne 7, 3) := by decide +kernel
theorem dX12_through_46 : decode cX12_through 46 = .ok (.iconst 0, 1) := by decide +kernel
theorem dX12_through_47 : decode cX12_through 47 = .ok (.goto 9, 3) := by decide +kernel
theorem dX12_through_50 : decode cX12_through 50 = .ok (.aload_n 0, 1) := by decide +kernel
theorem dX12_through_51 : decode cX12_through 51 = .ok (.getfield 141, 3) := by decide +kernel
theorem dX12_through_54 : decode cX12_through 54 = .ok (.iload_n 3, 1) := by decide +kernel
theorem dX12_through_55 : decode cX12_through 55 = .ok (.iaload, 1) := by decide +kernel
theorem dX12_through_56 : decode cX12_through 56 = .ok (.istore 4, 2) := by decide +kernel
theorem dX12_through_58 : decode cX12_through 58 = .ok (.aload_n 0, 1) := by decide +kernel
theorem dX12_through_59 : decode cX12_through 59 = .ok (.getfield 3, 3) := by decide +kernel
theorem dX12_through_62 : decode cX12_through 62 = .ok (.iconst 2, 1) := by decide +kernel
theorem dX12_through_63 : decode cX12_through 63 = .ok (.if_icmp .ne 22, 3) := by decide +kernel
theorem dX12_through_66 : decode cX12_through 66 = .ok (.iload 4, 2) := by decide +kernel
theorem dX12_through_68 : decode cX12_through 68 = .ok (.iconst 2, 1) := by decide +kernel
theorem dX12_through_69 : decode cX12_through 69 = .ok (.irem, 1) := by decide +kernel
theorem dX12_through_70 : decode cX12_through 70 = .ok (.ifCond .ne 15, 3) := by decide +kernel
theorem dX12_through_73 : decode cX12_through 73 = .ok (.iload_n 1, 1) := by decide +kernel
theorem dX12_through_74 : decode cX12_through 74 = .ok (.iload_n 2, 1) := by decide +kernel
theorem dX12_through_75 : decode cX12_through 75 = .ok (.iadd, 1) := by decide +kernel
theorem dX12_through_76 : decode cX12_through 76 = .ok (.iload 4, 2) := by decide +kernel
theorem dX12_through_78 : decode cX12_through 78 = .ok (.iconst 2, 1) := by decide +kernel
theorem dX12_through_79 : decode cX12_through 79 = .ok (.idiv, 1) := by decide +kernel
theorem dX12_through_80 : decode cX12_through 80 = .ok (.iadd, 1) := by decide +kernel
theorem dX12_through_81 : decode cX12_through 81 = .ok (.iconst 5, 1) := by decide +kernel
theorem dX12_through_82 : decode cX12_through 82 = .ok (.if_icmp .eq 7, 3) := by decide +kernel
theorem dX12_through_85 : decode cX12_through 85 = .ok (.ldc2_w 287, 3) := by decide +kernel
theorem dX12_through_88 : decode cX12_through 88 = .ok (.lreturn, 1) := by decide +kernel
theorem dX12_through_89 : decode cX12_through 89 = .ok (.iconst 0, 1) := by decide +kernel
theorem dX12_through_90 : decode cX12_through 90 = .ok (.istore 5, 2) := by decide +kernel
theorem dX12_through_92 : decode cX12_through 92 = .ok (.iload 5, 2) := by decide +kernel
theorem dX12_through_94 : decode cX12_through 94 = .ok (.iload 4, 2) := by decide +kernel
theorem dX12_through_96 : decode cX12_through 96 = .ok (.if_icmp .ge 35, 3) := by decide +kernel
theorem dX12_through_99 : decode cX12_through 99 = .ok (.aload_n 0, 1) := by decide +kernel
theorem dX12_through_100 : decode cX12_through 100 = .ok (.getfield 144, 3) := by decide +kernel
theorem dX12_through_103 : decode cX12_through 103 = .ok (.bipush 20, 2) := by decide +kernel
theorem dX12_through_105 : decode cX12_through 105 = .ok (.iload_n 3, 1) := by decide +kernel
theorem dX12_through_106 : decode cX12_through 106 = .ok (.imul, 1) := by decide +kernel
theorem dX12_through_107 : decode cX12_through 107 = .ok (.iload 5, 2) := by decide +kernel
theorem dX12_through_109 : decode cX12_through 109 = .ok (.iadd, 1) := by decide +kernel
theorem dX12_through_110 : decode cX12_through 110 = .ok (.laload, 1) := by decide +kernel
theorem dX12_through_111 : decode cX12_through 111 = .ok (.lconst 0, 1) := by decide +kernel
theorem dX12_through_112 : decode cX12_through 112 = .ok (.ldc2_w 227, 3) := by decide +kernel
theorem dX12_through_115 : decode cX12_through 115 = .ok (.invokestatic 203, 3) := by decide +kernel
theorem dX12_through_118 : decode cX12_through 118 = .ok (.ifCond .ne 7, 3) := by decide +kernel
theorem dX12_through_121 : decode cX12_through 121 = .ok (.ldc2_w 287, 3) := by decide +kernel
theorem dX12_through_124 : decode cX12_through 124 = .ok (.lreturn, 1) := by decide +kernel
theorem dX12_through_125 : decode cX12_through 125 = .ok (.iinc 5 1, 3) := by decide +kernel
theorem dX12_through_128 : decode cX12_through 128 = .ok (.goto (-36), 3) := by decide +kernel
theorem dX12_through_131 : decode cX12_through 131 = .ok (.aload_n 0, 1) := by decide +kernel
theorem dX12_through_132 : decode cX12_through 132 = .ok (.aload_n 0, 1) := by decide +kernel
theorem dX12_through_133 : decode cX12_through 133 = .ok (.getfield 111, 3) := by decide +kernel
theorem dX12_through_136 : decode cX12_through 136 = .ok (.invokevirtual 278, 3) := by decide +kernel
theorem dX12_through_139 : decode cX12_through 139 = .ok (.iconst 0, 1) := by decide +kernel
theorem dX12_through_140 : decode cX12_through 140 = .ok (.istore 5, 2) := by decide +kernel
theorem dX12_through_142 : decode cX12_through 142 = .ok (.iload 5, 2) := by decide +kernel
theorem dX12_through_144 : decode cX12_through 144 = .ok (.iload_n 1, 1) := by decide +kernel
theorem dX12_through_145 : decode cX12_through 145 = .ok (.if_icmp .ge 15, 3) := by decide +kernel
theorem dX12_through_148 : decode cX12_through 148 = .ok (.aload_n 0, 1) := by decide +kernel
theorem dX12_through_149 : decode cX12_through 149 = .ok (.lconst 1, 1) := by decide +kernel
theorem dX12_through_150 : decode cX12_through 150 = .ok (.lconst 0, 1) := by decide +kernel
theorem dX12_through_151 : decode cX12_through 151 = .ok (.invokevirtual 317, 3) := by decide +kernel
theorem dX12_through_154 : decode cX12_through 154 = .ok (.iinc 5 1, 3) := by decide +kernel
theorem dX12_through_157 : decode cX12_through 157 = .ok (.goto (-15), 3) := by decide +kernel
theorem dX12_through_160 : decode cX12_through 160 = .ok (.iconst 0, 1) := by decide +kernel
theorem dX12_through_161 : decode cX12_through 161 = .ok (.istore 5, 2) := by decide +kernel
theorem dX12_through_163 : decode cX12_through 163 = .ok (.iload 5, 2) := by decide +kernel
theorem dX12_through_165 : decode cX12_through 165 = .ok (.iload_n 2, 1) := by decide +kernel
theorem dX12_through_166 : decode cX12_through 166 = .ok (.if_icmp .ge 19, 3) := by decide +kernel
theorem dX12_through_169 : decode cX12_through 169 = .ok (.aload_n 0, 1) := by decide +kernel
theorem dX12_through_170 : decode cX12_through 170 = .ok (.ldc2_w 35, 3) := by decide +kernel
theorem dX12_through_173 : decode cX12_through 173 = .ok (.ldc2_w 30, 3) := by decide +kernel
theorem dX12_through_176 : decode cX12_through 176 = .ok (.invokevirtual 317, 3) := by decide +kernel
theorem dX12_through_179 : decode cX12_through 179 = .ok (.iinc 5 1, 3) := by decide +kernel
theorem dX12_through_182 : decode cX12_through 182 = .ok (.goto (-19), 3) := by decide +kernel
theorem dX12_through_185 : decode cX12_through 185 = .ok (.iconst 0, 1) := by decide +kernel
theorem dX12_through_186 : decode cX12_through 186 = .ok (.istore 5, 2) := by decide +kernel
theorem dX12_through_188 : decode cX12_through 188 = .ok (.iload 5, 2) := by decide +kernel
theorem dX12_through_190 : decode cX12_through 190 = .ok (.iload 4, 2) := by decide +kernel
theorem dX12_through_192 : decode cX12_through 192 = .ok (.if_icmp .ge 51, 3) := by decide +kernel
theorem dX12_through_195 : decode cX12_through 195 = .ok (.aload_n 0, 1) := by decide +kernel
theorem dX12_through_196 : decode cX12_through 196 = .ok (.getfield 144, 3) := by decide +kernel
theorem dX12_through_199 : decode cX12_through 199 = .ok (.bipush 20, 2) := by decide +kernel
theorem dX12_through_201 : decode cX12_through 201 = .ok (.iload_n 3, 1) := by decide +kernel
theorem dX12_through_202 : decode cX12_through 202 = .ok (.imul, 1) := by decide +kernel
theorem dX12_through_203 : decode cX12_through 203 = .ok (.iload 5, 2) := by decide +kernel
theorem dX12_through_205 : decode cX12_through 205 = .ok (.iadd, 1) := by decide +kernel
theorem dX12_through_206 : decode cX12_through 206 = .ok (.laload, 1) := by decide +kernel
theorem dX12_through_207 : decode cX12_through 207 = .ok (.lstore 6, 2) := by decide +kernel
theorem dX12_through_209 : decode cX12_through 209 = .ok (.aload_n 0, 1) := by decide +kernel
theorem dX12_through_210 : decode cX12_through 210 = .ok (.aload_n 0, 1) := by decide +kernel
theorem dX12_through_211 : decode cX12_through 211 = .ok (.getfield 144, 3) := by decide +kernel
theorem dX12_through_214 : decode cX12_through 214 = .ok (.bipush 20, 2) := by decide +kernel
theorem dX12_through_216 : decode cX12_through 216 = .ok (.iload_n 3, 1) := by decide +kernel
theorem dX12_through_217 : decode cX12_through 217 = .ok (.imul, 1) := by decide +kernel
theorem dX12_through_218 : decode cX12_through 218 = .ok (.iload 5, 2) := by decide +kernel
theorem dX12_through_220 : decode cX12_through 220 = .ok (.iadd, 1) := by decide +kernel
theorem dX12_through_221 : decode cX12_through 221 = .ok (.iconst 1, 1) := by decide +kernel
theorem dX12_through_222 : decode cX12_through 222 = .ok (.iadd, 1) := by decide +kernel
theorem dX12_through_223 : decode cX12_through 223 = .ok (.laload, 1) := by decide +kernel
theorem dX12_through_224 : decode cX12_through 224 = .ok (.ldc2_w 35, 3) := by decide +kernel
theorem dX12_through_227 : decode cX12_through 227 = .ok (.lload 6, 2) := by decide +kernel
theorem dX12_through_229 : decode cX12_through 229 = .ok (.lmul, 1) := by decide +kernel
theorem dX12_through_230 : decode cX12_through 230 = .ok (.ladd, 1) := by decide +kernel
theorem dX12_through_231 : decode cX12_through 231 = .ok (.lload 6, 2) := by decide +kernel
theorem dX12_through_233 : decode cX12_through 233 = .ok (.lneg, 1) := by decide +kernel
theorem dX12_through_234 : decode cX12_through 234 = .ok (.invokevirtual 317, 3) := by decide +kernel
theorem dX12_through_237 : decode cX12_through 237 = .ok (.iinc 5 2, 3) := by decide +kernel
theorem dX12_through_240 : decode cX12_through 240 = .ok (.goto (-52), 3) := by decide +kernel
theorem dX12_through_243 : decode cX12_through 243 = .ok (.aload_n 0, 1) := by decide +kernel
theorem dX12_through_244 : decode cX12_through 244 = .ok (.aload_n 0, 1) := by decide +kernel
theorem dX12_through_245 : decode cX12_through 245 = .ok (.getfield 111, 3) := by decide +kernel
theorem dX12_through_248 : decode cX12_through 248 = .ok (.invokevirtual 268, 3) := by decide +kernel
theorem dX12_through_251 : decode cX12_through 251 = .ok (.lreturn, 1) := by decide +kernel
set_option maxHeartbeats 4000000 in
set_option maxRecDepth 100000 in
theorem cn_X12_through {l : Launch} {cA : Nat → ClassId} {ad : Nat → Nat} {D : va_G} {E : Nat → Nat} {A : Nat → Prop} {x1 : Int32} {x2 : Int32} {x3 : Int32} {s0 sr : SS} {rr : Int64} (hf : f_X12_through x1 x2 x3 s0 = some (rr, sr)) : zCon Om Nm cA ad D E l yX12_through cX12_through 8 (some .long) 3 A [.ref (ad 0), .int x1, .int x2, .int x3] s0 (some (.long rr)) sr := by
  refine zstart (own := RX12) hOm (by decide) rfl (Nat.le_of_ble_eq_true rfl) ?_
  intro p e s m args below meth c X hP ls hl
  have hx := X.1
  have hb := X.2.1
  have hl : lv_has ls 8 [(0, .ref (ad 0)), (1, .int x1), (2, .int x2), (3, .int x3)] := hl
  have hS : va_S A s.heap s.heap [] := va_S.rf
  have hc_92 : ∀ (n92 : Nat) (x1 : Int32) (x2 : Int32) (x3 : Int32) (x4 : Int32) (x5 : Int32) (s1 : SS) (H : Heap) (locs : List Loc) (ls : Array Slot), lv_has ls 8 [(0, .ref (ad 0)), (1, .int x1), (2, .int x2), (3, .int x3), (4, .int x4), (5, .int x5)] → va_P D ZCL (zw Om Nm cA ad s1) H → va_S A s.heap H locs → f_X12_through_c92 n92 x1 x2 x3 x4 x5 s1 = some (rr, sr) → W p l e (zrm 3) s m args below meth c H locs 0 0 (MQ below (zQc Om Nm cA ad D A (some (.long rr)) sr) args s 0 0 A) (F0 m 92 ls []) := by
    intro n92
    induction n92 with
    | zero =>
      intro x1 x2 x3 x4 x5 s1 H locs ls hl hP hS hf
      rw [f_X12_through_c92] at hf
      cases hf
    | succ n92 ih92 =>
      have hc_142 : ∀ (n142 : Nat) (x1 : Int32) (x2 : Int32) (x3 : Int32) (x4 : Int32) (x5 : Int32) (s1 : SS) (H : Heap) (locs : List Loc) (ls : Array Slot), lv_has ls 8 [(0, .ref (ad 0)), (1, .int x1), (2, .int x2), (3, .int x3), (4, .int x4), (5, .int x5)] → va_P D ZCL (zw Om Nm cA ad s1) H → va_S A s.heap H locs → f_X12_through_c142 n142 x1 x2 x3 x4 x5 s1 = some (rr, sr) → W p l e (zrm 3) s m args below meth c H locs 0 0 (MQ below (zQc Om Nm cA ad D A (some (.long rr)) sr) args s 0 0 A) (F0 m 142 ls []) := by
        intro n142
        induction n142 with
        | zero =>
          intro x1 x2 x3 x4 x5 s1 H locs ls hl hP hS hf
          rw [f_X12_through_c142] at hf
          cases hf
        | succ n142 ih142 =>
          have hc_163 : ∀ (n163 : Nat) (x2 : Int32) (x3 : Int32) (x4 : Int32) (x5 : Int32) (s1 : SS) (H : Heap) (locs : List Loc) (ls : Array Slot), lv_has ls 8 [(0, .ref (ad 0)), (2, .int x2), (3, .int x3), (4, .int x4), (5, .int x5)] → va_P D ZCL (zw Om Nm cA ad s1) H → va_S A s.heap H locs → f_X12_through_c163 n163 x2 x3 x4 x5 s1 = some (rr, sr) → W p l e (zrm 3) s m args below meth c H locs 0 0 (MQ below (zQc Om Nm cA ad D A (some (.long rr)) sr) args s 0 0 A) (F0 m 163 ls []) := by
            intro n163
            induction n163 with
            | zero =>
              intro x2 x3 x4 x5 s1 H locs ls hl hP hS hf
              rw [f_X12_through_c163] at hf
              cases hf
            | succ n163 ih163 =>
              have hc_188 : ∀ (n188 : Nat) (x3 : Int32) (x4 : Int32) (x5 : Int32) (s1 : SS) (H : Heap) (locs : List Loc) (ls : Array Slot), lv_has ls 8 [(0, .ref (ad 0)), (3, .int x3), (4, .int x4), (5, .int x5)] → va_P D ZCL (zw Om Nm cA ad s1) H → va_S A s.heap H locs → f_X12_through_c188 n188 x3 x4 x5 s1 = some (rr, sr) → W p l e (zrm 3) s m args below meth c H locs 0 0 (MQ below (zQc Om Nm cA ad D A (some (.long rr)) sr) args s 0 0 A) (F0 m 188 ls []) := by
                intro n188
                induction n188 with
                | zero =>
                  intro x3 x4 x5 s1 H locs ls hl hP hS hf
                  rw [f_X12_through_c188] at hf
                  cases hf
                | succ n188 ih188 =>
                  intro x3 x4 x5 s1 H locs ls hl hP hS hf
                  rw [f_X12_through_c188] at hf
                  refine lv_iload hx hb dX12_through_188 (lv_at hl 3 rfl) ?_
                  refine lv_iload hx hb dX12_through_190 (lv_at hl 2 rfl) ?_
                  refine zicmp_ge (tgt := 243) hx hb dX12_through_192 (by decide) hf (fun hf => ?_) (fun hf => ?_)
                  · refine lv_aload_n hx hb dX12_through_243 rfl (lv_at hl 0 rfl) ?_
                    refine lv_aload_n hx hb dX12_through_244 rfl (lv_at hl 0 rfl) ?_
                    refine gf_X12_111 X hP (k := 0) (q := 13) rfl dX12_through_245 rfl ?_
                    obtain ⟨r11, s12, h13, hf⟩ := zbd_some hf
                    refine zcallV X hP hS hl.1 (k := 0) (As := [.ref (ad 13)]) (rest := []) (cn_X12_metOf h13) cw_X12_metOf zp_12 rfl (by decide) rfl ml_X12_268 (by decide) rfl rfl (Nat.le_of_ble_eq_true rfl) dX12_through_248 (fun H locs hP hS => ?_)
                    exact zret_l X hP hS hf dX12_through_251
                  · refine lv_aload_n hx hb dX12_through_195 rfl (lv_at hl 0 rfl) ?_
                    refine gf_X12_144 X hP (k := 0) (q := 24) rfl dX12_through_196 rfl ?_
                    refine lv_bipush (v := 20) hx hb dX12_through_199 (by decide) ?_
                    refine lv_iload_n hx hb dX12_through_201 rfl (lv_at hl 1 rfl) ?_
                    refine lv_imul hx hb dX12_through_202 ?_
                    refine lv_iload hx hb dX12_through_203 (lv_at hl 3 rfl) ?_
                    refine lv_iadd hx hb dX12_through_205 ?_
                    obtain ⟨g14, hf⟩ := zgd hf
                    refine zald_l X hP (k := 24) (n := 60) (rs := []) rfl g14 dX12_through_206 ?_
                    refine lv_lstore (lv' := [(6, .long (s1.2 24 ((((20 : Int32) * x3) + x5)).toNatClampNeg)), (0, .ref (ad 0)), (3, .int x3), (4, .int x4), (5, .int x5)]) hx hb dX12_through_207 hl (by decide) rfl (fun ls hl => ?_)
                    refine lv_aload_n hx hb dX12_through_209 rfl (lv_at hl 1 rfl) ?_
                    refine lv_aload_n hx hb dX12_through_210 rfl (lv_at hl 1 rfl) ?_
                    refine gf_X12_144 X hP (k := 0) (q := 24) rfl dX12_through_211 rfl ?_
                    refine lv_bipush (v := 20) hx hb dX12_through_214 (by decide) ?_
                    refine lv_iload_n hx hb dX12_through_216 rfl (lv_at hl 2 rfl) ?_
                    refine lv_imul hx hb dX12_through_217 ?_
                    refine lv_iload hx hb dX12_through_218 (lv_at hl 4 rfl) ?_
                    refine lv_iadd hx hb dX12_through_220 ?_
                    refine lv_iconst (v := 1) hx hb dX12_through_221 (by decide) ?_
                    refine lv_iadd hx hb dX12_through_222 ?_
                    obtain ⟨g15, hf⟩ := zgd hf
                    refine zald_l X hP (k := 24) (n := 60) (rs := []) rfl g15 dX12_through_223 ?_
                    refine zldc2 X co_X12_35 dX12_through_224 ?_
                    refine lv_lload hx hb dX12_through_227 (lv_at hl 0 rfl) ?_
                    refine lv_lmul hx hb dX12_through_229 ?_
                    refine lv_ladd hx hb dX12_through_230 ?_
                    refine lv_lload hx hb dX12_through_231 (lv_at hl 0 rfl) ?_
                    refine lv_lneg hx hb dX12_through_233 ?_
                    obtain ⟨r16, s17, h18, hf⟩ := zbd_some hf
                    refine zcallV X hP hS hl.1 (k := 0) (As := [.long ((s1.2 24 (((((20 : Int32) * x3) + x5) + (1 : Int32))).toNatClampNeg) + ((2 : Int64) * (s1.2 24 ((((20 : Int32) * x3) + x5)).toNatClampNeg))), .long (-(s1.2 24 ((((20 : Int32) * x3) + x5)).toNatClampNeg))]) (rest := []) (cn_X12_timesConic h18) cw_X12_timesConic zp_12 rfl (by decide) rfl ml_X12_317 (by decide) rfl rfl (Nat.le_of_ble_eq_true rfl) dX12_through_234 (fun H locs hP hS => ?_)
                    refine lv_iinc (v := (x5 + 2)) (lv' := [(5, .int (x5 + 2)), (6, .long (s1.2 24 ((((20 : Int32) * x3) + x5)).toNatClampNeg)), (0, .ref (ad 0)), (3, .int x3), (4, .int x4)]) hx hb dX12_through_237 hl (k := 4) rfl rfl (by decide) rfl (fun ls hl => ?_)
                    refine lv_goto (tgt := 188) hx hb dX12_through_240 (by decide) ?_
                    exact ih188 x3 x4 (x5 + 2) s17 _ _ _ (lv_sub hl [2, 3, 4, 0] rfl) hP hS hf
              intro x2 x3 x4 x5 s1 H locs ls hl hP hS hf
              rw [f_X12_through_c163] at hf
              refine lv_iload hx hb dX12_through_163 (lv_at hl 4 rfl) ?_
              refine lv_iload_n hx hb dX12_through_165 rfl (lv_at hl 1 rfl) ?_
              refine zicmp_ge (tgt := 185) hx hb dX12_through_166 (by decide) hf (fun hf => ?_) (fun hf => ?_)
              · refine lv_iconst (v := 0) hx hb dX12_through_185 (by decide) ?_
                refine lv_istore (lv' := [(5, .int 0), (0, .ref (ad 0)), (2, .int x2), (3, .int x3), (4, .int x4)]) hx hb dX12_through_186 hl (by decide) rfl (fun ls hl => ?_)
                exact hc_188 ZF x3 x4 0 s1 _ _ _ (lv_sub hl [1, 3, 4, 0] rfl) hP hS hf
              · refine lv_aload_n hx hb dX12_through_169 rfl (lv_at hl 0 rfl) ?_
                refine zldc2 X co_X12_35 dX12_through_170 ?_
                refine zldc2 X co_X12_30 dX12_through_173 ?_
                obtain ⟨r19, s20, h21, hf⟩ := zbd_some hf
                refine zcallV X hP hS hl.1 (k := 0) (As := [.long 2, .long (-1)]) (rest := []) (cn_X12_timesConic h21) cw_X12_timesConic zp_12 rfl (by decide) rfl ml_X12_317 (by decide) rfl rfl (Nat.le_of_ble_eq_true rfl) dX12_through_176 (fun H locs hP hS => ?_)
                refine lv_iinc (v := (x5 + 1)) (lv' := [(5, .int (x5 + 1)), (0, .ref (ad 0)), (2, .int x2), (3, .int x3), (4, .int x4)]) hx hb dX12_through_179 hl (k := 4) rfl rfl (by decide) rfl (fun ls hl => ?_)
                refine lv_goto (tgt := 163) hx hb dX12_through_182 (by decide) ?_
                exact ih163 x2 x3 x4 (x5 + 1) s20 _ _ _ (lv_sub hl [1, 2, 3, 4, 0] rfl) hP hS hf
          intro x1 x2 x3 x4 x5 s1 H locs ls hl hP hS hf
          rw [f_X12_through_c142] at hf
          refine lv_iload hx hb dX12_through_142 (lv_at hl 5 rfl) ?_
          refine lv_iload_n hx hb dX12_through_144 rfl (lv_at hl 1 rfl) ?_
          refine zicmp_ge (tgt := 160) hx hb dX12_through_145 (by decide) hf (fun hf => ?_) (fun hf => ?_)
          · refine lv_iconst (v := 0) hx hb dX12_through_160 (by decide) ?_
            refine lv_istore (lv' := [(5, .int 0), (0, .ref (ad 0)), (1, .int x1), (2, .int x2), (3, .int x3), (4, .int x4)]) hx hb dX12_through_161 hl (by decide) rfl (fun ls hl => ?_)
            exact hc_163 ZF x2 x3 x4 0 s1 _ _ _ (lv_sub hl [1, 3, 4, 5, 0] rfl) hP hS hf
          · refine lv_aload_n hx hb dX12_through_148 rfl (lv_at hl 0 rfl) ?_
            refine lv_lconst (v := 1) hx hb dX12_through_149 (by decide) ?_
            refine lv_lconst (v := 0) hx hb dX12_through_150 (by decide) ?_
            obtain ⟨r22, s23, h24, hf⟩ := zbd_some hf
            refine zcallV X hP hS hl.1 (k := 0) (As := [.long 1, .long 0]) (rest := []) (cn_X12_timesConic h24) cw_X12_timesConic zp_12 rfl (by decide) rfl ml_X12_317 (by decide) rfl rfl (Nat.le_of_ble_eq_true rfl) dX12_through_151 (fun H locs hP hS => ?_)
            refine lv_iinc (v := (x5 + 1)) (lv' := [(5, .int (x5 + 1)), (0, .ref (ad 0)), (1, .int x1), (2, .int x2), (3, .int x3), (4, .int x4)]) hx hb dX12_through_154 hl (k := 5) rfl rfl (by decide) rfl (fun ls hl => ?_)
            refine lv_goto (tgt := 142) hx hb dX12_through_157 (by decide) ?_
            exact ih142 x1 x2 x3 x4 (x5 + 1) s23 _ _ _ (lv_sub hl [1, 2, 3, 4, 5, 0] rfl) hP hS hf
      intro x1 x2 x3 x4 x5 s1 H locs ls hl hP hS hf
      rw [f_X12_through_c92] at hf
      refine lv_iload hx hb dX12_through_92 (lv_at hl 5 rfl) ?_
      refine lv_iload hx hb dX12_through_94 (lv_at hl 4 rfl) ?_
      refine zicmp_ge (tgt := 131) hx hb dX12_through_96 (by decide) hf (fun hf => ?_) (fun hf => ?_)
      · refine lv_aload_n hx hb dX12_through_131 rfl (lv_at hl 0 rfl) ?_
        refine lv_aload_n hx hb dX12_through_132 rfl (lv_at hl 0 rfl) ?_
        refine gf_X12_111 X hP (k := 0) (q := 13) rfl dX12_through_133 rfl ?_
        obtain ⟨r8, s9, h10, hf⟩ := zbd_some hf
        refine zcallV X hP hS hl.1 (k := 0) (As := [.ref (ad 13)]) (rest := []) (cn_X12_layOne h10) cw_X12_layOne zp_12 rfl (by decide) rfl ml_X12_278 (by decide) rfl rfl (Nat.le_of_ble_eq_true rfl) dX12_through_136 (fun H locs hP hS => ?_)
        refine lv_iconst (v := 0) hx hb dX12_through_139 (by decide) ?_
        refine lv_istore (lv' := [(5, .int 0), (0, .ref (ad 0)), (1, .int x1), (2, .int x2), (3, .int x3), (4, .int x4)]) hx hb dX12_through_140 hl (by decide) rfl (fun ls hl => ?_)
        exact hc_142 ZF x1 x2 x3 x4 0 s9 _ _ _ (lv_sub hl [1, 2, 3, 4, 5, 0] rfl) hP hS hf
      · refine lv_aload_n hx hb dX12_through_99 rfl (lv_at hl 0 rfl) ?_
        refine gf_X12_144 X hP (k := 0) (q := 24) rfl dX12_through_100 rfl ?_
        refine lv_bipush (v := 20) hx hb dX12_through_103 (by decide) ?_
        refine lv_iload_n hx hb dX12_through_105 rfl (lv_at hl 3 rfl) ?_
        refine lv_imul hx hb dX12_through_106 ?_
        refine lv_iload hx hb dX12_through_107 (lv_at hl 5 rfl) ?_
        refine lv_iadd hx hb dX12_through_109 ?_
        obtain ⟨g25, hf⟩ := zgd hf
        refine zald_l X hP (k := 24) (n := 60) (rs := []) rfl g25 dX12_through_110 ?_
        refine lv_lconst (v := 0) hx hb dX12_through_111 (by decide) ?_
        refine zldc2 X co_X12_227 dX12_through_112 ?_
        obtain ⟨r26, s27, h28, hf⟩ := zbd_some hf
        refine zcallS X hP hS hl.1 (As := [.long (s1.2 24 ((((20 : Int32) * x3) + x5)).toNatClampNeg), .long 0, .long 99]) (rest := []) (cn_X12_in h28) cw_X12_in ml_X12_203 (by decide) rfl rfl (Nat.le_of_ble_eq_true rfl) dX12_through_115 (fun H locs hP hS => ?_)
        refine zif_ne (tgt := 125) hx hb dX12_through_118 (by decide) hf (fun hf => ?_) (fun hf => ?_)
        · refine lv_iinc (v := (x5 + 1)) (lv' := [(5, .int (x5 + 1)), (0, .ref (ad 0)), (1, .int x1), (2, .int x2), (3, .int x3), (4, .int x4)]) hx hb dX12_through_125 hl (k := 5) rfl rfl (by decide) rfl (fun ls hl => ?_)
          refine lv_goto (tgt := 92) hx hb dX12_through_128 (by decide) ?_
          exact ih92 x1 x2 x3 x4 (x5 + 1) s27 _ _ _ (lv_sub hl [1, 2, 3, 4, 5, 0] rfl) hP hS hf
        · refine zldc2 X co_X12_287 dX12_through_121 ?_
          exact zret_l X hP hS hf dX12_through_124
  have hc_56 : ∀ (x1 : Int32) (x2 : Int32) (x3 : Int32) (t0 : Int32) (s1 : SS) (H : Heap) (locs : List Loc) (ls : Array Slot), lv_has ls 8 [(0, .ref (ad 0)), (1, .int x1), (2, .int x2), (3, .int x3)] → va_P D ZCL (zw Om Nm cA ad s1) H → va_S A s.heap H locs → f_X12_through_c56 x1 x2 x3 t0 s1 = some (rr, sr) → W p l e (zrm 3) s m args below meth c H locs 0 0 (MQ below (zQc Om Nm cA ad D A (some (.long rr)) sr) args s 0 0 A) (F0 m 56 ls [.int t0]) := by
    intro x1 x2 x3 t0 s1 H locs ls hl hP hS hf
    rw [f_X12_through_c56] at hf
    refine lv_istore (lv' := [(4, .int t0), (0, .ref (ad 0)), (1, .int x1), (2, .int x2), (3, .int x3)]) hx hb dX12_through_56 hl (by decide) rfl (fun ls hl => ?_)
    refine lv_aload_n hx hb dX12_through_58 rfl (lv_at hl 1 rfl) ?_
    refine gf_X12_3 X hP (k := 0) rfl dX12_through_59 ?_
    refine lv_iconst (v := 2) hx hb dX12_through_62 (by decide) ?_
    refine zicmp_ne (tgt := 85) hx hb dX12_through_63 (by decide) hf (fun hf => ?_) (fun hf => ?_)
    · refine zldc2 X co_X12_287 dX12_through_85 ?_
      exact zret_l X hP hS hf dX12_through_88
    · refine lv_iload hx hb dX12_through_66 (lv_at hl 0 rfl) ?_
      refine lv_iconst (v := 2) hx hb dX12_through_68 (by decide) ?_
      refine lv_irem hx hb dX12_through_69 (by decide) ?_
      refine zif_ne (tgt := 85) hx hb dX12_through_70 (by decide) hf (fun hf => ?_) (fun hf => ?_)
      · refine zldc2 X co_X12_287 dX12_through_85 ?_
        exact zret_l X hP hS hf dX12_through_88
      · refine lv_iload_n hx hb dX12_through_73 rfl (lv_at hl 2 rfl) ?_
        refine lv_iload_n hx hb dX12_through_74 rfl (lv_at hl 3 rfl) ?_
        refine lv_iadd hx hb dX12_through_75 ?_
        refine lv_iload hx hb dX12_through_76 (lv_at hl 0 rfl) ?_
        refine lv_iconst (v := 2) hx hb dX12_through_78 (by decide) ?_
        refine lv_idiv hx hb dX12_through_79 (by decide) ?_
        refine lv_iadd hx hb dX12_through_80 ?_
        refine lv_iconst (v := 5) hx hb dX12_through_81 (by decide) ?_
        refine zicmp_eq (tgt := 89) hx hb dX12_through_82 (by decide) hf (fun hf => ?_) (fun hf => ?_)
        · refine lv_iconst (v := 0) hx hb dX12_through_89 (by decide) ?_
          refine lv_istore (lv' := [(5, .int 0), (4, .int t0), (0, .ref (ad 0)), (1, .int x1), (2, .int x2), (3, .int x3)]) hx hb dX12_through_90 hl (by decide) rfl (fun ls hl => ?_)
          exact hc_92 ZF x1 x2 x3 t0 0 s1 _ _ _ (lv_sub hl [2, 3, 4, 5, 1, 0] rfl) hP hS hf
        · refine zldc2 X co_X12_287 dX12_through_85 ?_
          exact zret_l X hP hS hf dX12_through_88
  have hc_41 : ∀ (x1 : Int32) (x2 : Int32) (x3 : Int32) (s1 : SS) (H : Heap) (locs : List Loc) (ls : Array Slot), lv_has ls 8 [(0, .ref (ad 0)), (1, .int x1), (2, .int x2), (3, .int x3)] → va_P D ZCL (zw Om Nm cA ad s1) H → va_S A s.heap H locs → f_X12_through_c41 x1 x2 x3 s1 = some (rr, sr) → W p l e (zrm 3) s m args below meth c H locs 0 0 (MQ below (zQc Om Nm cA ad D A (some (.long rr)) sr) args s 0 0 A) (F0 m 41 ls []) := by
    intro x1 x2 x3 s1 H locs ls hl hP hS hf
    rw [f_X12_through_c41] at hf
    refine lv_iload_n hx hb dX12_through_41 rfl (lv_at hl 3 rfl) ?_
    refine lv_iconst (v := (-1)) hx hb dX12_through_42 (by decide) ?_
    refine zicmp_ne (tgt := 50) hx hb dX12_through_43 (by decide) hf (fun hf => ?_) (fun hf => ?_)
    · refine lv_aload_n hx hb dX12_through_50 rfl (lv_at hl 0 rfl) ?_
      refine gf_X12_141 X hP (k := 0) (q := 23) rfl dX12_through_51 rfl ?_
      refine lv_iload_n hx hb dX12_through_54 rfl (lv_at hl 3 rfl) ?_
      obtain ⟨g7, hf⟩ := zgd hf
      refine zald_i X hP (k := 23) (n := 3) (rs := []) rfl g7 dX12_through_55 ?_
      exact hc_56 x1 x2 x3 (s1.1 23 (x3).toNatClampNeg) s1 _ _ _ (lv_sub hl [0, 1, 2, 3] rfl) hP hS hf
    · refine lv_iconst (v := 0) hx hb dX12_through_46 (by decide) ?_
      refine lv_goto (tgt := 56) hx hb dX12_through_47 (by decide) ?_
      exact hc_56 x1 x2 x3 0 s1 _ _ _ (lv_sub hl [0, 1, 2, 3] rfl) hP hS hf
  rw [f_X12_through] at hf
  refine lv_iload_n hx hb dX12_through_0 rfl (lv_at hl 1 rfl) ?_
  refine lv_i2l hx hb dX12_through_1 rfl ?_
  refine lv_lconst (v := 0) hx hb dX12_through_2 (by decide) ?_
  refine zldc2 X co_X12_201 dX12_through_3 ?_
  obtain ⟨r1, s2, h3, hf⟩ := zbd_some hf
  refine zcallS X hP hS hl.1 (As := [.long (x1).toInt64, .long 0, .long 5]) (rest := []) (cn_X12_in h3) cw_X12_in ml_X12_203 (by decide) rfl rfl (Nat.le_of_ble_eq_true rfl) dX12_through_6 (fun H locs hP hS => ?_)
  refine zif_eq (tgt := 37) hx hb dX12_through_9 (by decide) hf (fun hf => ?_) (fun hf => ?_)
  · refine zldc2 X co_X12_220 dX12_through_37 ?_
    exact zret_l X hP hS hf dX12_through_40
  · refine lv_iload_n hx hb dX12_through_12 rfl (lv_at hl 2 rfl) ?_
    refine lv_i2l hx hb dX12_through_13 rfl ?_
    refine lv_lconst (v := 0) hx hb dX12_through_14 (by decide) ?_
    refine zldc2 X co_X12_201 dX12_through_15 ?_
    obtain ⟨r4, s5, h6, hf⟩ := zbd_some hf
    refine zcallS X hP hS hl.1 (As := [.long (x2).toInt64, .long 0, .long 5]) (rest := []) (cn_X12_in h6) cw_X12_in ml_X12_203 (by decide) rfl rfl (Nat.le_of_ble_eq_true rfl) dX12_through_18 (fun H locs hP hS => ?_)
    refine zif_eq (tgt := 37) hx hb dX12_through_21 (by decide) hf (fun hf => ?_) (fun hf => ?_)
    · refine zldc2 X co_X12_220 dX12_through_37 ?_
      exact zret_l X hP hS hf dX12_through_40
    · refine lv_iload_n hx hb dX12_through_24 rfl (lv_at hl 3 rfl) ?_
      refine lv_iconst (v := (-1)) hx hb dX12_through_25 (by decide) ?_
      refine zicmp_eq (tgt := 41) hx hb dX12_through_26 (by decide) hf (fun hf => ?_) (fun hf => ?_)
      · exact hc_41 x1 x2 x3 s5 _ _ _ (lv_sub hl [0, 1, 2, 3] rfl) hP hS hf
      · refine lv_aload_n hx hb dX12_through_29 rfl (lv_at hl 0 rfl) ?_
        refine lv_iload_n hx hb dX12_through_30 rfl (lv_at hl 3 rfl) ?_
        obtain ⟨r29, s30, h31, hf⟩ := zbd_some hf
        refine zcallV X hP hS hl.1 (k := 0) (As := [.int x3]) (rest := []) (cn_X12_isThere h31) cw_X12_isThere zp_12 rfl (by decide) rfl ml_X12_281 (by decide) rfl rfl (Nat.le_of_ble_eq_true rfl) dX12_through_31 (fun H locs hP hS => ?_)
        refine zif_ne (tgt := 41) hx hb dX12_through_34 (by decide) hf (fun hf => ?_) (fun hf => ?_)
        · exact hc_41 x1 x2 x3 s30 _ _ _ (lv_sub hl [0, 1, 2, 3] rfl) hP hS hf
        · refine zldc2 X co_X12_220 dX12_through_37 ?_
          exact zret_l X hP hS hf dX12_through_40
