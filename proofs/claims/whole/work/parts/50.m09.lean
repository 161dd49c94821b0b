theorem dX12_back_0 : decode cX12_back 0 = .ok (.aload_n 0, 1) := by decide +kernel
theorem dX12_back_1 : decode cX12_back 1 = .ok (.getfield 444, 3) := by decide +kernel
theorem dX12_back_4 : decode cX12_back 4 = .ok (.ifCond .ne 6, 3) := by decide +kernel
theorem dX12_back_7 : decode cX12_back 7 = .ok (.bipush (-5), 2) := by decide +kernel
theorem dX12_back_9 : decode cX12_back 9 = .ok (.ireturn, 1) := by decide +kernel
theorem dX12_back_10 : decode cX12_back 10 = .ok (.aload_n 0, 1) := by decide +kernel
theorem dX12_back_11 : decode cX12_back 11 = .ok (.aload_n 0, 1) := by decide +kernel
theorem dX12_back_12 : decode cX12_back 12 = .ok (.getfield 447, 3) := by decide +kernel
theorem dX12_back_15 : decode cX12_back 15 = .ok (.putfield 3, 3) := by decide +kernel
theorem dX12_back_18 : decode cX12_back 18 = .ok (.aload_n 0, 1) := by decide +kernel
theorem dX12_back_19 : decode cX12_back 19 = .ok (.aload_n 0, 1) := by decide +kernel
theorem dX12_back_20 : decode cX12_back 20 = .ok (.getfield 450, 3) := by decide +kernel
theorem dX12_back_23 : decode cX12_back 23 = .ok (.putfield 27, 3) := by decide +kernel
theorem dX12_back_26 : decode cX12_back 26 = .ok (.aload_n 0, 1) := by decide +kernel
theorem dX12_back_27 : decode cX12_back 27 = .ok (.aload_n 0, 1) := by decide +kernel
theorem dX12_back_28 : decode cX12_back 28 = .ok (.getfield 453, 3) := by decide +kernel
theorem dX12_back_31 : decode cX12_back 31 = .ok (.putfield 9, 3) := by decide +kernel
theorem dX12_back_34 : decode cX12_back 34 = .ok (.aload_n 0, 1) := by decide +kernel
theorem dX12_back_35 : decode cX12_back 35 = .ok (.aload_n 0, 1) := by decide +kernel
theorem dX12_back_36 : decode cX12_back 36 = .ok (.getfield 456, 3) := by decide +kernel
theorem dX12_back_39 : decode cX12_back 39 = .ok (.putfield 12, 3) := by decide +kernel
theorem dX12_back_42 : decode cX12_back 42 = .ok (.iconst 0, 1) := by decide +kernel
theorem dX12_back_43 : decode cX12_back 43 = .ok (.istore_n 1, 1) := by decide +kernel
theorem dX12_back_44 : decode cX12_back 44 = .ok (.iload_n 1, 1) := by decide +kernel
theorem dX12_back_45 : decode cX12_back 45 = .ok (.iconst 3, 1) := by decide +kernel
theorem dX12_back_46 : decode cX12_back 46 = .ok (.if_icmp .ge 45, 3) := by decide +kernel
theorem dX12_back_49 : decode cX12_back 49 = .ok (.aload_n 0, 1) := by decide +kernel
theorem dX12_back_50 : decode cX12_back 50 = .ok (.getfield 23, 3) := by decide +kernel
theorem dX12_back_53 : decode cX12_back 53 = .ok (.iload_n 1, 1) := by decide +kernel
theorem dX12_back_54 : decode cX12_back 54 = .ok (.aload_n 0, 1) := by decide +kernel
theorem dX12_back_55 : decode cX12_back 55 = .ok (.getfield 150, 3) := by decide +kernel
theorem dX12_back_58 : decode cX12_back 58 = .ok (.iload_n 1, 1) := by decide +kernel
theorem dX12_back_59 : decode cX12_back 59 = .ok (.iaload, 1) := by decide +kernel
theorem dX12_back_60 : decode cX12_back 60 = .ok (.iastore, 1) := by decide +kernel
theorem dX12_back_61 : decode cX12_back 61 = .ok (.aload_n 0, 1) := by decide +kernel
theorem dX12_back_62 : decode cX12_back 62 = .ok (.getfield 32, 3) := by decide +kernel
theorem dX12_back_65 : decode cX12_back 65 = .ok (.iload_n 1, 1) := by decide +kernel
theorem dX12_back_66 : decode cX12_back 66 = .ok (.aload_n 0, 1) := by decide +kernel
theorem dX12_back_67 : decode cX12_back 67 = .ok (.getfield 153, 3) := by decide +kernel
theorem dX12_back_70 : decode cX12_back 70 = .ok (.iload_n 1, 1) := by decide +kernel
theorem dX12_back_71 : decode cX12_back 71 = .ok (.iaload, 1) := by decide +kernel
theorem dX12_back_72 : decode cX12_back 72 = .ok (.iastore, 1) := by decide +kernel
theorem dX12_back_73 : decode cX12_back 73 = .ok (.aload_n 0, 1) := by decide +kernel
theorem dX12_back_74 : decode cX12_back 74 = .ok (.getfield 37, 3) := by decide +kernel
theorem dX12_back_77 : decode cX12_back 77 = .ok (.iload_n 1, 1) := by decide +kernel
theorem dX12_back_78 : decode cX12_back 78 = .ok (.aload_n 0, 1) := by decide +kernel
theorem dX12_back_79 : decode cX12_back 79 = .ok (.getfield 156, 3) := by decide +kernel
theorem dX12_back_82 : decode cX12_back 82 = .ok (.iload_n 1, 1) := by decide +kernel
theorem dX12_back_83 : decode cX12_back 83 = .ok (.iaload, 1) := by decide +kernel
theorem dX12_back_84 : decode cX12_back 84 = .ok (.iastore, 1) := by decide +kernel
theorem dX12_back_85 : decode cX12_back 85 = .ok (.iinc 1 1, 3) := by decide +kernel
theorem dX12_back_88 : decode cX12_back 88 = .ok (.goto (-44), 3) := by decide +kernel
theorem dX12_back_91 : decode cX12_back 91 = .ok (.aload_n 0, 1) := by decide +kernel
theorem dX12_back_92 : decode cX12_back 92 = .ok (.iconst 0, 1) := by decide +kernel
theorem dX12_back_93 : decode cX12_back 93 = .ok (.putfield 89, 3) := by decide +kernel
theorem dX12_back_96 : decode cX12_back 96 = .ok (.aload_n 0, 1) := by decide +kernel
theorem dX12_back_97 : decode cX12_back 97 = .ok (.invokevirtual 189, 3) := by decide +kernel
theorem dX12_back_100 : decode cX12_back 100 = .ok (.aload_n 0, 1) := by decide +kernel
theorem dX12_back_101 : decode cX12_back 101 = .ok (.aload_n 0, 1) := by decide +kernel
theorem dX12_back_102 : decode cX12_back 102 = .ok (.getfield 459, 3) := by decide +kernel
theorem dX12_back_105 : decode cX12_back 105 = .ok (.putfield 89, 3) := by decide +kernel
theorem dX12_back_108 : decode cX12_back 108 = .ok (.iconst 0, 1) := by decide +kernel
theorem dX12_back_109 : decode cX12_back 109 = .ok (.istore_n 1, 1) := by decide +kernel
theorem dX12_back_110 : decode cX12_back 110 = .ok (.iload_n 1, 1) := by decide +kernel
theorem dX12_back_111 : decode cX12_back 111 = .ok (.aload_n 0, 1) := by decide +kernel
theorem dX12_back_112 : decode cX12_back 112 = .ok (.getfield 89, 3) := by decide +kernel
theorem dX12_back_115 : decode cX12_back 115 = .ok (.if_icmp .ge 73, 3) := by decide +kernel
theorem dX12_back_118 : decode cX12_back 118 = .ok (.aload_n 0, 1) := by decide +kernel
theorem dX12_back_119 : decode cX12_back 119 = .ok (.getfield 105, 3) := by decide +kernel
theorem dX12_back_122 : decode cX12_back 122 = .ok (.iload_n 1, 1) := by decide +kernel
theorem dX12_back_123 : decode cX12_back 123 = .ok (.aload_n 0, 1) := by decide +kernel
theorem dX12_back_124 : decode cX12_back 124 = .ok (.getfield 159, 3) := by decide +kernel
theorem dX12_back_127 : decode cX12_back 127 = .ok (.iload_n 1, 1) := by decide +kernel
theorem dX12_back_128 : decode cX12_back 128 = .ok (.iaload, 1) := by decide +kernel
theorem dX12_back_129 : decode cX12_back 129 = .ok (.iastore, 1) := by decide +kernel
theorem dX12_back_130 : decode cX12_back 130 = .ok (.aload_n 0, 1) := by decide +kernel
theorem dX12_back_131 : decode cX12_back 131 = .ok (.getfield 108, 3) := by decide +kernel
theorem dX12_back_134 : decode cX12_back 134 = .ok (.iload_n 1, 1) := by decide +kernel
theorem dX12_back_135 : decode cX12_back 135 = .ok (.aload_n 0, 1) := by decide +kernel
theorem dX12_back_136 : decode cX12_back 136 = .ok (.getfield 162, 3) := by decide +kernel
theorem dX12_back_139 : decode cX12_back 139 = .ok (.iload_n 1, 1) := by decide +kernel
theorem dX12_back_140 : decode cX12_back 140 = .ok (.iaload, 1) := by decide +kernel
theorem dX12_back_141 : decode cX12_back 141 = .ok (.iastore, 1) := by decide +kernel
theorem dX12_back_142 : decode cX12_back 142 = .ok (.iconst 0, 1) := by decide +kernel
theorem dX12_back_143 : decode cX12_back 143 = .ok (.istore_n 2, 1) := by decide +kernel
theorem dX12_back_144 : decode cX12_back 144 = .ok (.iload_n 2, 1) := by decide +kernel
theorem dX12_back_145 : decode cX12_back 145 = .ok (.aload_n 0, 1) := by decide +kernel
theorem dX12_back_146 : decode cX12_back 146 = .ok (.getfield 56, 3) := by decide +kernel
theorem dX12_back_149 : decode cX12_back 149 = .ok (.if_icmp .ge 33, 3) := by decide +kernel
theorem dX12_back_152 : decode cX12_back 152 = .ok (.aload_n 0, 1) := by decide +kernel
theorem dX12_back_153 : decode cX12_back 153 = .ok (.getfield 95, 3) := by decide +kernel
theorem dX12_back_156 : decode cX12_back 156 = .ok (.sipush 462, 3) := by decide +kernel
theorem dX12_back_159 : decode cX12_back 159 = .ok (.iload_n 1, 1) := by decide +kernel
theorem dX12_back_160 : decode cX12_back 160 = .ok (.imul, 1) := by decide +kernel
theorem dX12_back_161 : decode cX12_back 161 = .ok (.iload_n 2, 1) := by decide +kernel
theorem dX12_back_162 : decode cX12_back 162 = .ok (.iadd, 1) := by decide +kernel
theorem dX12_back_163 : decode cX12_back 163 = .ok (.aload_n 0, 1) := by decide +kernel
theorem dX12_back_164 : decode cX12_back 164 = .ok (.getfield 165, 3) := by decide +kernel
theorem dX12_back_167 : decode cX12_back 167 = .ok (.sipush 462, 3) := by decide +kernel
theorem dX12_back_170 : decode cX12_back 170 = .ok (.iload_n 1, 1) := by decide +kernel
theorem dX12_back_171 : decode cX12_back 171 = .ok (.imul, 1) := by decide +kernel
theorem dX12_back_172 : decode cX12_back 172 = .ok (.iload_n 2, 1) := by decide +kernel
theorem dX12_back_173 : decode cX12_back 173 = .ok (.iadd, 1) := by decide +kernel
theorem dX12_back_174 : decode cX12_back 174 = .ok (.laload, 1) := by decide +kernel
theorem dX12_back_175 : decode cX12_back 175 = .ok (.lastore, 1) := by decide +kernel
theorem dX12_back_176 : decode cX12_back 176 = .ok (.iinc 2 1, 3) := by decide +kernel
theorem dX12_back_179 : decode cX12_back 179 = .ok (.goto (-35), 3) := by decide +kernel
theorem dX12_back_182 : decode cX12_back 182 = .ok (.iinc 1 1, 3) := by decide +kernel
theorem dX12_back_185 : decode cX12_back 185 = .ok (.goto (-75), 3) := by decide +kernel
theorem dX12_back_188 : decode cX12_back 188 = .ok (.aload_n 0, 1) := by decide +kernel
theorem dX12_back_189 : decode cX12_back 189 = .ok (.invokevirtual 198, 3) := by decide +kernel
theorem dX12_back_192 : decode cX12_back 192 = .ok (.aload_n 0, 1) := by decide +kernel
theorem dX12_back_193 : decode cX12_back 193 = .ok (.getfield 89, 3) := by decide +kernel
theorem dX12_back_196 : decode cX12_back 196 = .ok (.ireturn, 1) := by decide +kernel
set_option maxHeartbeats 4000000 in
set_option maxRecDepth 100000 in
theorem cn_X12_back {l : Launch} {cA : Nat → ClassId} {ad : Nat → Nat} {D : va_G} {E : Nat → Nat} {A : Nat → Prop}  {s0 sr : SS} {rr : Int32} (hf : f_X12_back s0 = some (rr, sr)) : zCon Om Nm cA ad D E l yX12_back cX12_back 3 (some .int) 5 A [.ref (ad 0)] s0 (some (.int rr)) sr := by
  refine zstart (own := RX12) hOm (by decide) rfl (Nat.le_of_ble_eq_true rfl) ?_
  intro p e s m args below meth c X hP ls hl
  have hx := X.1
  have hb := X.2.1
  have hl : lv_has ls 3 [(0, .ref (ad 0))] := hl
  have hS : va_S A s.heap s.heap [] := va_S.rf
  have hc_44 : ∀ (n44 : Nat) (x1 : Int32) (s1 : SS) (H : Heap) (locs : List Loc) (ls : Array Slot), lv_has ls 3 [(0, .ref (ad 0)), (1, .int x1)] → va_P D ZCL (zw Om Nm cA ad s1) H → va_S A s.heap H locs → f_X12_back_c44 n44 x1 s1 = some (rr, sr) → W p l e (zrm 5) s m args below meth c H locs 0 0 (MQ below (zQc Om Nm cA ad D A (some (.int rr)) sr) args s 0 0 A) (F0 m 44 ls []) := by
    intro n44
    induction n44 with
    | zero =>
      intro x1 s1 H locs ls hl hP hS hf
      rw [f_X12_back_c44] at hf
      cases hf
    | succ n44 ih44 =>
      have hc_110 : ∀ (n110 : Nat) (x1 : Int32) (s1 : SS) (H : Heap) (locs : List Loc) (ls : Array Slot), lv_has ls 3 [(0, .ref (ad 0)), (1, .int x1)] → va_P D ZCL (zw Om Nm cA ad s1) H → va_S A s.heap H locs → f_X12_back_c110 n110 x1 s1 = some (rr, sr) → W p l e (zrm 5) s m args below meth c H locs 0 0 (MQ below (zQc Om Nm cA ad D A (some (.int rr)) sr) args s 0 0 A) (F0 m 110 ls []) := by
        intro n110
        induction n110 with
        | zero =>
          intro x1 s1 H locs ls hl hP hS hf
          rw [f_X12_back_c110] at hf
          cases hf
        | succ n110 ih110 =>
          have hc_144 : ∀ (n144 : Nat) (x1 : Int32) (x2 : Int32) (s1 : SS) (H : Heap) (locs : List Loc) (ls : Array Slot), lv_has ls 3 [(0, .ref (ad 0)), (1, .int x1), (2, .int x2)] → va_P D ZCL (zw Om Nm cA ad s1) H → va_S A s.heap H locs → f_X12_back_c144 (f_X12_back_c110 n110) n144 x1 x2 s1 = some (rr, sr) → W p l e (zrm 5) s m args below meth c H locs 0 0 (MQ below (zQc Om Nm cA ad D A (some (.int rr)) sr) args s 0 0 A) (F0 m 144 ls []) := by
            intro n144
            induction n144 with
            | zero =>
              intro x1 x2 s1 H locs ls hl hP hS hf
              rw [f_X12_back_c144] at hf
              cases hf
            | succ n144 ih144 =>
              intro x1 x2 s1 H locs ls hl hP hS hf
              rw [f_X12_back_c144] at hf
              refine lv_iload_n hx hb dX12_back_144 rfl (lv_at hl 2 rfl) ?_
              refine lv_aload_n hx hb dX12_back_145 rfl (lv_at hl 0 rfl) ?_
              refine gf_X12_56 X hP (k := 0) rfl dX12_back_146 ?_
              refine zicmp_ge (tgt := 182) hx hb dX12_back_149 (by decide) hf (fun hf => ?_) (fun hf => ?_)
              · refine lv_iinc (v := (x1 + 1)) (lv' := [(1, .int (x1 + 1)), (0, .ref (ad 0)), (2, .int x2)]) hx hb dX12_back_182 hl (k := 1) rfl rfl (by decide) rfl (fun ls hl => ?_)
                refine lv_goto (tgt := 110) hx hb dX12_back_185 (by decide) ?_
                exact ih110 (x1 + 1) s1 _ _ _ (lv_sub hl [1, 0] rfl) hP hS hf
              · refine lv_aload_n hx hb dX12_back_152 rfl (lv_at hl 0 rfl) ?_
                refine gf_X12_95 X hP (k := 0) (q := 10) rfl dX12_back_153 rfl ?_
                refine lv_sipush (v := 462) hx hb dX12_back_156 (by decide) ?_
                refine lv_iload_n hx hb dX12_back_159 rfl (lv_at hl 1 rfl) ?_
                refine lv_imul hx hb dX12_back_160 ?_
                refine lv_iload_n hx hb dX12_back_161 rfl (lv_at hl 2 rfl) ?_
                refine lv_iadd hx hb dX12_back_162 ?_
                refine lv_aload_n hx hb dX12_back_163 rfl (lv_at hl 0 rfl) ?_
                refine gf_X12_165 X hP (k := 0) (q := 31) rfl dX12_back_164 rfl ?_
                refine lv_sipush (v := 462) hx hb dX12_back_167 (by decide) ?_
                refine lv_iload_n hx hb dX12_back_170 rfl (lv_at hl 1 rfl) ?_
                refine lv_imul hx hb dX12_back_171 ?_
                refine lv_iload_n hx hb dX12_back_172 rfl (lv_at hl 2 rfl) ?_
                refine lv_iadd hx hb dX12_back_173 ?_
                obtain ⟨g11, hf⟩ := zgd hf
                refine zald_l X hP (k := 31) (n := 3696) (rs := []) rfl g11 dX12_back_174 ?_
                obtain ⟨g12, hf⟩ := zgd hf
                refine zast_l X hP hS (k := 10) (n := 3696) (rs := []) rfl g12 dX12_back_175 (fun H locs hP hS => ?_)
                refine lv_iinc (v := (x2 + 1)) (lv' := [(2, .int (x2 + 1)), (0, .ref (ad 0)), (1, .int x1)]) hx hb dX12_back_176 hl (k := 2) rfl rfl (by decide) rfl (fun ls hl => ?_)
                refine lv_goto (tgt := 144) hx hb dX12_back_179 (by decide) ?_
                exact ih144 x1 (x2 + 1) (zSL s1 10 ((((462 : Int32) * x1) + x2)).toNatClampNeg (s1.2 31 ((((462 : Int32) * x1) + x2)).toNatClampNeg)) _ _ _ (lv_sub hl [1, 2, 0] rfl) hP hS hf
          intro x1 s1 H locs ls hl hP hS hf
          rw [f_X12_back_c110] at hf
          refine lv_iload_n hx hb dX12_back_110 rfl (lv_at hl 1 rfl) ?_
          refine lv_aload_n hx hb dX12_back_111 rfl (lv_at hl 0 rfl) ?_
          refine gf_X12_89 X hP (k := 0) rfl dX12_back_112 ?_
          refine zicmp_ge (tgt := 188) hx hb dX12_back_115 (by decide) hf (fun hf => ?_) (fun hf => ?_)
          · refine lv_aload_n hx hb dX12_back_188 rfl (lv_at hl 0 rfl) ?_
            obtain ⟨r4, s5, h6, hf⟩ := zbd_some hf
            refine zcallV X hP hS hl.1 (k := 0) (As := []) (rest := []) (cn_X12_forget h6) cw_X12_forget zp_12 rfl (by decide) rfl ml_X12_198 (by decide) rfl rfl (Nat.le_of_ble_eq_true rfl) dX12_back_189 (fun H locs hP hS => ?_)
            refine lv_aload_n hx hb dX12_back_192 rfl (lv_at hl 0 rfl) ?_
            refine gf_X12_89 X hP (k := 0) rfl dX12_back_193 ?_
            exact zret_i X hP hS hf rfl dX12_back_196
          · refine lv_aload_n hx hb dX12_back_118 rfl (lv_at hl 0 rfl) ?_
            refine gf_X12_105 X hP (k := 0) (q := 8) rfl dX12_back_119 rfl ?_
            refine lv_iload_n hx hb dX12_back_122 rfl (lv_at hl 1 rfl) ?_
            refine lv_aload_n hx hb dX12_back_123 rfl (lv_at hl 0 rfl) ?_
            refine gf_X12_159 X hP (k := 0) (q := 29) rfl dX12_back_124 rfl ?_
            refine lv_iload_n hx hb dX12_back_127 rfl (lv_at hl 1 rfl) ?_
            obtain ⟨g7, hf⟩ := zgd hf
            refine zald_i X hP (k := 29) (n := 8) (rs := []) rfl g7 dX12_back_128 ?_
            obtain ⟨g8, hf⟩ := zgd hf
            refine zast_i X hP hS (k := 8) (n := 8) (rs := []) rfl g8 dX12_back_129 (fun H locs hP hS => ?_)
            refine lv_aload_n hx hb dX12_back_130 rfl (lv_at hl 0 rfl) ?_
            refine gf_X12_108 X hP (k := 0) (q := 9) rfl dX12_back_131 rfl ?_
            refine lv_iload_n hx hb dX12_back_134 rfl (lv_at hl 1 rfl) ?_
            refine lv_aload_n hx hb dX12_back_135 rfl (lv_at hl 0 rfl) ?_
            refine gf_X12_162 X hP (k := 0) (q := 30) rfl dX12_back_136 rfl ?_
            refine lv_iload_n hx hb dX12_back_139 rfl (lv_at hl 1 rfl) ?_
            obtain ⟨g9, hf⟩ := zgd hf
            refine zald_i X hP (k := 30) (n := 8) (rs := []) rfl g9 dX12_back_140 ?_
            obtain ⟨g10, hf⟩ := zgd hf
            refine zast_i X hP hS (k := 9) (n := 8) (rs := []) rfl g10 dX12_back_141 (fun H locs hP hS => ?_)
            refine lv_iconst (v := 0) hx hb dX12_back_142 (by decide) ?_
            refine lv_istore_n (lv' := [(2, .int 0), (0, .ref (ad 0)), (1, .int x1)]) hx hb dX12_back_143 rfl hl (by decide) rfl (fun ls hl => ?_)
            exact hc_144 ZF x1 0 (zS (zS s1 8 (x1).toNatClampNeg (s1.1 29 (x1).toNatClampNeg)) 9 (x1).toNatClampNeg (((zS s1 8 (x1).toNatClampNeg (s1.1 29 (x1).toNatClampNeg)).1 30 (x1).toNatClampNeg))) _ _ _ (lv_sub hl [1, 2, 0] rfl) hP hS hf
      intro x1 s1 H locs ls hl hP hS hf
      rw [f_X12_back_c44] at hf
      refine lv_iload_n hx hb dX12_back_44 rfl (lv_at hl 1 rfl) ?_
      refine lv_iconst (v := 3) hx hb dX12_back_45 (by decide) ?_
      refine zicmp_ge (tgt := 91) hx hb dX12_back_46 (by decide) hf (fun hf => ?_) (fun hf => ?_)
      · refine lv_aload_n hx hb dX12_back_91 rfl (lv_at hl 0 rfl) ?_
        refine lv_iconst (v := 0) hx hb dX12_back_92 (by decide) ?_
        refine pf_X12_89 X hP hS (k := 0) rfl dX12_back_93 (fun H locs hP hS => ?_)
        refine lv_aload_n hx hb dX12_back_96 rfl (lv_at hl 0 rfl) ?_
        obtain ⟨r1, s2, h3, hf⟩ := zbd_some hf
        refine zcallV X hP hS hl.1 (k := 0) (As := []) (rest := []) (cn_X12_layTerms h3) cw_X12_layTerms zp_12 rfl (by decide) rfl ml_X12_189 (by decide) rfl rfl (Nat.le_of_ble_eq_true rfl) dX12_back_97 (fun H locs hP hS => ?_)
        refine lv_aload_n hx hb dX12_back_100 rfl (lv_at hl 0 rfl) ?_
        refine lv_aload_n hx hb dX12_back_101 rfl (lv_at hl 0 rfl) ?_
        refine gf_X12_459 X hP (k := 0) rfl dX12_back_102 ?_
        refine pf_X12_89 X hP hS (k := 0) rfl dX12_back_105 (fun H locs hP hS => ?_)
        refine lv_iconst (v := 0) hx hb dX12_back_108 (by decide) ?_
        refine lv_istore_n (lv' := [(1, .int 0), (0, .ref (ad 0))]) hx hb dX12_back_109 rfl hl (by decide) rfl (fun ls hl => ?_)
        exact hc_110 ZF 0 (zS s2 0 12 (s2.1 0 44)) _ _ _ (lv_sub hl [1, 0] rfl) hP hS hf
      · refine lv_aload_n hx hb dX12_back_49 rfl (lv_at hl 0 rfl) ?_
        refine gf_X12_23 X hP (k := 0) (q := 1) rfl dX12_back_50 rfl ?_
        refine lv_iload_n hx hb dX12_back_53 rfl (lv_at hl 1 rfl) ?_
        refine lv_aload_n hx hb dX12_back_54 rfl (lv_at hl 0 rfl) ?_
        refine gf_X12_150 X hP (k := 0) (q := 26) rfl dX12_back_55 rfl ?_
        refine lv_iload_n hx hb dX12_back_58 rfl (lv_at hl 1 rfl) ?_
        obtain ⟨g13, hf⟩ := zgd hf
        refine zald_i X hP (k := 26) (n := 3) (rs := []) rfl g13 dX12_back_59 ?_
        obtain ⟨g14, hf⟩ := zgd hf
        refine zast_i X hP hS (k := 1) (n := 3) (rs := []) rfl g14 dX12_back_60 (fun H locs hP hS => ?_)
        refine lv_aload_n hx hb dX12_back_61 rfl (lv_at hl 0 rfl) ?_
        refine gf_X12_32 X hP (k := 0) (q := 2) rfl dX12_back_62 rfl ?_
        refine lv_iload_n hx hb dX12_back_65 rfl (lv_at hl 1 rfl) ?_
        refine lv_aload_n hx hb dX12_back_66 rfl (lv_at hl 0 rfl) ?_
        refine gf_X12_153 X hP (k := 0) (q := 27) rfl dX12_back_67 rfl ?_
        refine lv_iload_n hx hb dX12_back_70 rfl (lv_at hl 1 rfl) ?_
        obtain ⟨g15, hf⟩ := zgd hf
        refine zald_i X hP (k := 27) (n := 3) (rs := []) rfl g15 dX12_back_71 ?_
        obtain ⟨g16, hf⟩ := zgd hf
        refine zast_i X hP hS (k := 2) (n := 3) (rs := []) rfl g16 dX12_back_72 (fun H locs hP hS => ?_)
        refine lv_aload_n hx hb dX12_back_73 rfl (lv_at hl 0 rfl) ?_
        refine gf_X12_37 X hP (k := 0) (q := 3) rfl dX12_back_74 rfl ?_
        refine lv_iload_n hx hb dX12_back_77 rfl (lv_at hl 1 rfl) ?_
        refine lv_aload_n hx hb dX12_back_78 rfl (lv_at hl 0 rfl) ?_
        refine gf_X12_156 X hP (k := 0) (q := 28) rfl dX12_back_79 rfl ?_
        refine lv_iload_n hx hb dX12_back_82 rfl (lv_at hl 1 rfl) ?_
        obtain ⟨g17, hf⟩ := zgd hf
        refine zald_i X hP (k := 28) (n := 3) (rs := []) rfl g17 dX12_back_83 ?_
        obtain ⟨g18, hf⟩ := zgd hf
        refine zast_i X hP hS (k := 3) (n := 3) (rs := []) rfl g18 dX12_back_84 (fun H locs hP hS => ?_)
        refine lv_iinc (v := (x1 + 1)) (lv' := [(1, .int (x1 + 1)), (0, .ref (ad 0))]) hx hb dX12_back_85 hl (k := 1) rfl rfl (by decide) rfl (fun ls hl => ?_)
        refine lv_goto (tgt := 44) hx hb dX12_back_88 (by decide) ?_
        exact ih44 (x1 + 1) (zS (zS (zS s1 1 (x1).toNatClampNeg (s1.1 26 (x1).toNatClampNeg)) 2 (x1).toNatClampNeg (((zS s1 1 (x1).toNatClampNeg (s1.1 26 (x1).toNatClampNeg)).1 27 (x1).toNatClampNeg))) 3 (x1).toNatClampNeg (((zS (zS s1 1 (x1).toNatClampNeg (s1.1 26 (x1).toNatClampNeg)) 2 (x1).toNatClampNeg (((zS s1 1 (x1).toNatClampNeg (s1.1 26 (x1).toNatClampNeg)).1 27 (x1).toNatClampNeg))).1 28 (x1).toNatClampNeg))) _ _ _ (lv_sub hl [1, 0] rfl) hP hS hf
  rw [f_X12_back] at hf
  refine lv_aload_n hx hb dX12_back_0 rfl (lv_at hl 0 rfl) ?_
  refine gf_X12_444 X hP (k := 0) rfl dX12_back_1 ?_
  refine zif_ne (tgt := 10) hx hb dX12_back_4 (by decide) hf (fun hf => ?_) (fun hf => ?_)
  · refine lv_aload_n hx hb dX12_back_10 rfl (lv_at hl 0 rfl) ?_
    refine lv_aload_n hx hb dX12_back_11 rfl (lv_at hl 0 rfl) ?_
    refine gf_X12_447 X hP (k := 0) rfl dX12_back_12 ?_
    refine pf_X12_3 X hP hS (k := 0) rfl dX12_back_15 (fun H locs hP hS => ?_)
    refine lv_aload_n hx hb dX12_back_18 rfl (lv_at hl 0 rfl) ?_
    refine lv_aload_n hx hb dX12_back_19 rfl (lv_at hl 0 rfl) ?_
    refine gf_X12_450 X hP (k := 0) rfl dX12_back_20 ?_
    refine pf_X12_27 X hP hS (k := 0) rfl dX12_back_23 (fun H locs hP hS => ?_)
    refine lv_aload_n hx hb dX12_back_26 rfl (lv_at hl 0 rfl) ?_
    refine lv_aload_n hx hb dX12_back_27 rfl (lv_at hl 0 rfl) ?_
    refine gf_X12_453 X hP (k := 0) rfl dX12_back_28 ?_
    refine pf_X12_9 X hP hS (k := 0) rfl dX12_back_31 (fun H locs hP hS => ?_)
    refine lv_aload_n hx hb dX12_back_34 rfl (lv_at hl 0 rfl) ?_
    refine lv_aload_n hx hb dX12_back_35 rfl (lv_at hl 0 rfl) ?_
    refine gf_X12_456 X hP (k := 0) rfl dX12_back_36 ?_
    refine pf_X12_12 X hP hS (k := 0) rfl dX12_back_39 (fun H locs hP hS => ?_)
    refine lv_iconst (v := 0) hx hb dX12_back_42 (by decide) ?_
    refine lv_istore_n (lv' := [(1, .int 0), (0, .ref (ad 0))]) hx hb dX12_back_43 rfl hl (by decide) rfl (fun ls hl => ?_)
    exact hc_44 ZF 0 (zS (zS (zS (zS s0 0 0 (s0.1 0 37)) 0 1 ((zS s0 0 0 (s0.1 0 37)).1 0 38)) 0 2 ((zS (zS s0 0 0 (s0.1 0 37)) 0 1 ((zS s0 0 0 (s0.1 0 37)).1 0 38)).1 0 39)) 0 4 ((zS (zS (zS s0 0 0 (s0.1 0 37)) 0 1 ((zS s0 0 0 (s0.1 0 37)).1 0 38)) 0 2 ((zS (zS s0 0 0 (s0.1 0 37)) 0 1 ((zS s0 0 0 (s0.1 0 37)).1 0 38)).1 0 39)).1 0 41)) _ _ _ (lv_sub hl [1, 0] rfl) hP hS hf
  · refine lv_bipush (v := (-5)) hx hb dX12_back_7 (by decide) ?_
    exact zret_i X hP hS hf rfl dX12_back_9
theorem dX12_count_0 : decode cX12_count 0 = .ok (.iconst 0, 1) := by decide +kernel
theorem dX12_count_1 : decode cX12_count 1 = .ok (.istore_n 2, 1) := by decide +kernel
theorem dX12_count_2 : decode cX12_count 2 = .ok (.iconst 0, 1) := by decide +kernel
theorem dX12_count_3 : decode cX12_count 3 = .ok (.istore_n 3, 1) := by decide +kernel
theorem dX12_count_4 : decode cX12_count 4 = .ok (.iload_n 3, 1) := by decide +kernel
theorem dX12_count_5 : decode cX12_count 5 = .ok (.iconst 3, 1) := by decide +kernel
theorem dX12_count_6 : decode cX12_count 6 = .ok (.if_icmp .ge 26, 3) := by decide +kernel
theorem dX12_count_9 : decode cX12_count 9 = .ok (.iload_n 2, 1) := by decide +kernel
theorem dX12_count_10 : decode cX12_count 10 = .ok (.aload_n 0, 1) := by decide +kernel
theorem dX12_count_11 : decode cX12_count 11 = .ok (.getfield 138, 3) := by decide +kernel
theorem dX12_count_14 : decode cX12_count 14 = .ok (.iload_n 3, 1) := by decide +kernel
theorem dX12_count_15 : decode cX12_count 15 = .ok (.iaload, 1) := by decide +kernel
theorem dX12_count_16 : decode cX12_count 16 = .ok (.ifCond .lt 7, 3) := by decide +kernel
theorem dX12_count_19 : decode cX12_count 19 = .ok (.iconst 1, 1) := by decide +kernel
theorem dX12_count_20 : decode cX12_count 20 = .ok (.goto 4, 3) := by decide +kernel
theorem dX12_count_23 : decode cX12_count 23 = .ok (.iconst 0, 1) := by decide +kernel
theorem dX12_count_24 : decode cX12_count 24 = .ok (.iadd, 1) := by decide +kernel
theorem dX12_count_25 : decode cX12_count 25 = .ok (.istore_n 2, 1) := by decide +kernel
theorem dX12_count_26 : decode cX12_count 26 = .ok (.iinc 3 1, 3) := by decide +kernel
theorem dX12_count_29 : decode cX12_count 29 = .ok (.goto (-25), 3) := by decide +kernel
theorem dX12_count_32 : decode cX12_count 32 = .ok (.iload_n 1, 1) := by decide +kernel
theorem dX12_count_33 : decode cX12_count 33 = .ok (.tableswitch 66 0 5 #[39, 44, 49, 54, 59, 64], 39) := by decide +kernel
theorem dX12_count_72 : decode cX12_count 72 = .ok (.aload_n 0, 1) := by decide +kernel
theorem dX12_count_73 : decode cX12_count 73 = .ok (.getfield 89, 3) := by decide +kernel
theorem dX12_count_76 : decode cX12_count 76 = .ok (.ireturn, 1) := by decide +kernel
theorem dX12_count_77 : decode cX12_count 77 = .ok (.aload_n 0, 1) := by decide +kernel
theorem dX12_count_78 : decode cX12_count 78 = .ok (.getfield 192, 3) := by decide +kernel
theorem dX12_count_81 : decode cX12_count 81 = .ok (.ireturn, 1) := by decide +kernel
theorem dX12_count_82 : decode cX12_count 82 = .ok (.aload_n 0, 1) := by decide +kernel
theorem dX12_count_83 : decode cX12_count 83 = .ok (.getfield 195, 3) := by decide +kernel
theorem dX12_count_86 : decode cX12_count 86 = .ok (.ireturn, 1) := by decide +kernel
theorem dX12_count_87 : decode cX12_count 87 = .ok (.aload_n 0, 1) := by decide +kernel
theorem dX12_count_88 : decode cX12_count 88 = .ok (.getfield 336, 3) := by decide +kernel
theorem dX12_count_91 : decode cX12_count 91 = .ok (.ireturn, 1) := by decide +kernel
theorem dX12_count_92 : decode cX12_count 92 = .ok (.aload_n 0, 1) := by decide +kernel
theorem dX12_count_93 : decode cX12_count 93 = .ok (.getfield 426, 3) := by decide +kernel
theorem dX12_count_96 : decode cX12_count 96 = .ok (.ireturn, 1) := by decide +kernel
theorem dX12_count_97 : decode cX12_count 97 = .ok (.iload_n 2, 1) := by decide +kernel
theorem dX12_count_98 : decode cX12_count 98 = .ok (.ireturn, 1) := by decide +kernel
theorem dX12_count_99 : decode cX12_count 99 = .ok (.iconst (-1), 1) := by decide +kernel
theorem dX12_count_100 : decode cX12_count 100 = .ok (.ireturn, 1) := by decide +kernel
set_option maxHeartbeats 4000000 in
set_option maxRecDepth 100000 in
theorem cn_X12_count {l : Launch} {cA : Nat → ClassId} {ad : Nat → Nat} {D : va_G} {E : Nat → Nat} {A : Nat → Prop} {x1 : Int32} {s0 sr : SS} {rr : Int32} (hf : f_X12_count x1 s0 = some (rr, sr)) : zCon Om Nm cA ad D E l yX12_count cX12_count 4 (some .int) 0 A [.ref (ad 0), .int x1] s0 (some (.int rr)) sr := by
  refine zstart (own := RX12) hOm (by decide) rfl (Nat.le_of_ble_eq_true rfl) ?_
  intro p e s m args below meth c X hP ls hl
  have hx := X.1
  have hb := X.2.1
  have hl : lv_has ls 4 [(0, .ref (ad 0)), (1, .int x1)] := hl
  have hS : va_S A s.heap s.heap [] := va_S.rf
  have hc_4 : ∀ (n4 : Nat) (x1 : Int32) (x2 : Int32) (x3 : Int32) (s1 : SS) (H : Heap) (locs : List Loc) (ls : Array Slot), lv_has ls 4 [(0, .ref (ad 0)), (1, .int x1), (2, .int x2), (3, .int x3)] → va_P D ZCL (zw Om Nm cA ad s1) H → va_S A s.heap H locs → f_X12_count_c4 n4 x1 x2 x3 s1 = some (rr, sr) → W p l e (zrm 0) s m args below meth c H locs 0 0 (MQ below (zQc Om Nm cA ad D A (some (.int rr)) sr) args s 0 0 A) (F0 m 4 ls []) := by
    intro n4
    induction n4 with
    | zero =>
      intro x1 x2 x3 s1 H locs ls hl hP hS hf
      rw [f_X12_count_c4] at hf
      cases hf
    | succ n4 ih4 =>
      have hc_24 : ∀ (x1 : Int32) (x3 : Int32) (t0 : Int32) (t1 : Int32) (s1 : SS) (H : Heap) (locs : List Loc) (ls : Array Slot), lv_has ls 4 [(0, .ref (ad 0)), (1, .int x1), (3, .int x3)] → va_P D ZCL (zw Om Nm cA ad s1) H → va_S A s.heap H locs → f_X12_count_c24 (f_X12_count_c4 n4) x1 x3 t0 t1 s1 = some (rr, sr) → W p l e (zrm 0) s m args below meth c H locs 0 0 (MQ below (zQc Om Nm cA ad D A (some (.int rr)) sr) args s 0 0 A) (F0 m 24 ls [.int t0, .int t1]) := by
        intro x1 x3 t0 t1 s1 H locs ls hl hP hS hf
        rw [f_X12_count_c24] at hf
        refine lv_iadd hx hb dX12_count_24 ?_
        refine lv_istore_n (lv' := [(2, .int (t1 + t0)), (0, .ref (ad 0)), (1, .int x1), (3, .int x3)]) hx hb dX12_count_25 rfl hl (by decide) rfl (fun ls hl => ?_)
        refine lv_iinc (v := (x3 + 1)) (lv' := [(3, .int (x3 + 1)), (2, .int (t1 + t0)), (0, .ref (ad 0)), (1, .int x1)]) hx hb dX12_count_26 hl (k := 3) rfl rfl (by decide) rfl (fun ls hl => ?_)
        refine lv_goto (tgt := 4) hx hb dX12_count_29 (by decide) ?_
        exact ih4 x1 (t1 + t0) (x3 + 1) s1 _ _ _ (lv_sub hl [2, 3, 1, 0] rfl) hP hS hf
      intro x1 x2 x3 s1 H locs ls hl hP hS hf
      rw [f_X12_count_c4] at hf
      refine lv_iload_n hx hb dX12_count_4 rfl (lv_at hl 3 rfl) ?_
      refine lv_iconst (v := 3) hx hb dX12_count_5 (by decide) ?_
      refine zicmp_ge (tgt := 32) hx hb dX12_count_6 (by decide) hf (fun hf => ?_) (fun hf => ?_)
      · refine lv_iload_n hx hb dX12_count_32 rfl (lv_at hl 1 rfl) ?_
        by_cases e1 : x1 = 0
        · rw [if_pos e1] at hf
          refine lv_tableIn (tgt := 72) (off := 39) hx hb dX12_count_33 (by rw [e1]; decide) (by rw [e1]; decide) (by rw [e1]; decide +kernel) (by decide) ?_
          refine lv_aload_n hx hb dX12_count_72 rfl (lv_at hl 0 rfl) ?_
          refine gf_X12_89 X hP (k := 0) rfl dX12_count_73 ?_
          exact zret_i X hP hS hf rfl dX12_count_76
        · rw [if_neg e1] at hf
          by_cases e2 : x1 = 1
          · rw [if_pos e2] at hf
            refine lv_tableIn (tgt := 77) (off := 44) hx hb dX12_count_33 (by rw [e2]; decide) (by rw [e2]; decide) (by rw [e2]; decide +kernel) (by decide) ?_
            refine lv_aload_n hx hb dX12_count_77 rfl (lv_at hl 0 rfl) ?_
            refine gf_X12_192 X hP (k := 0) rfl dX12_count_78 ?_
            exact zret_i X hP hS hf rfl dX12_count_81
          · rw [if_neg e2] at hf
            by_cases e3 : x1 = 2
            · rw [if_pos e3] at hf
              refine lv_tableIn (tgt := 82) (off := 49) hx hb dX12_count_33 (by rw [e3]; decide) (by rw [e3]; decide) (by rw [e3]; decide +kernel) (by decide) ?_
              refine lv_aload_n hx hb dX12_count_82 rfl (lv_at hl 0 rfl) ?_
              refine gf_X12_195 X hP (k := 0) rfl dX12_count_83 ?_
              exact zret_i X hP hS hf rfl dX12_count_86
            · rw [if_neg e3] at hf
              by_cases e4 : x1 = 3
              · rw [if_pos e4] at hf
                refine lv_tableIn (tgt := 87) (off := 54) hx hb dX12_count_33 (by rw [e4]; decide) (by rw [e4]; decide) (by rw [e4]; decide +kernel) (by decide) ?_
                refine lv_aload_n hx hb dX12_count_87 rfl (lv_at hl 0 rfl) ?_
                refine gf_X12_336 X hP (k := 0) rfl dX12_count_88 ?_
                exact zret_i X hP hS hf rfl dX12_count_91
              · rw [if_neg e4] at hf
                by_cases e5 : x1 = 4
                · rw [if_pos e5] at hf
                  refine lv_tableIn (tgt := 92) (off := 59) hx hb dX12_count_33 (by rw [e5]; decide) (by rw [e5]; decide) (by rw [e5]; decide +kernel) (by decide) ?_
                  refine lv_aload_n hx hb dX12_count_92 rfl (lv_at hl 0 rfl) ?_
                  refine gf_X12_426 X hP (k := 0) rfl dX12_count_93 ?_
                  exact zret_i X hP hS hf rfl dX12_count_96
                · rw [if_neg e5] at hf
                  by_cases e6 : x1 = 5
                  · rw [if_pos e6] at hf
                    refine lv_tableIn (tgt := 97) (off := 64) hx hb dX12_count_33 (by rw [e6]; decide) (by rw [e6]; decide) (by rw [e6]; decide +kernel) (by decide) ?_
                    refine lv_iload_n hx hb dX12_count_97 rfl (lv_at hl 2 rfl) ?_
                    exact zret_i X hP hS hf rfl dX12_count_98
                  · rw [if_neg e6] at hf
                    have ye1 := zne e1 (v := 0) (by decide)
                    have ye2 := zne e2 (v := 1) (by decide)
                    have ye3 := zne e3 (v := 2) (by decide)
                    have ye4 := zne e4 (v := 3) (by decide)
                    have ye5 := zne e5 (v := 4) (by decide)
                    have ye6 := zne e6 (v := 5) (by decide)
                    refine lv_tableOut (tgt := 99) hx hb dX12_count_33 (by omega) (by decide) ?_
                    refine lv_iconst (v := (-1)) hx hb dX12_count_99 (by decide) ?_
                    exact zret_i X hP hS hf rfl dX12_count_100
      · refine lv_iload_n hx hb dX12_count_9 rfl (lv_at hl 2 rfl) ?_
        refine lv_aload_n hx hb dX12_count_10 rfl (lv_at hl 0 rfl) ?_
        refine gf_X12_138 X hP (k := 0) (q := 22) rfl dX12_count_11 rfl ?_
        refine lv_iload_n hx hb dX12_count_14 rfl (lv_at hl 3 rfl) ?_
        obtain ⟨g7, hf⟩ := zgd hf
        refine zald_i X hP (k := 22) (n := 3) (rs := []) rfl g7 dX12_count_15 ?_
        refine zif_lt (tgt := 23) hx hb dX12_count_16 (by decide) hf (fun hf => ?_) (fun hf => ?_)
        · refine lv_iconst (v := 0) hx hb dX12_count_23 (by decide) ?_
          exact hc_24 x1 x3 0 x2 s1 _ _ _ (lv_sub hl [0, 1, 3] rfl) hP hS hf
        · refine lv_iconst (v := 1) hx hb dX12_count_19 (by decide) ?_
          refine lv_goto (tgt := 24) hx hb dX12_count_20 (by decide) ?_
          exact hc_24 x1 x3 1 x2 s1 _ _ _ (lv_sub hl [0, 1, 3] rfl) hP hS hf
  rw [f_X12_count] at hf
  refine lv_iconst (v := 0) hx hb dX12_count_0 (by decide) ?_
  refine lv_istore_n (lv' := [(2, .int 0), (0, .ref (ad 0)), (1, .int x1)]) hx hb dX12_count_1 rfl hl (by decide) rfl (fun ls hl => ?_)
  refine lv_iconst (v := 0) hx hb dX12_count_2 (by decide) ?_
  refine lv_istore_n (lv' := [(3, .int 0), (2, .int 0), (0, .ref (ad 0)), (1, .int x1)]) hx hb dX12_count_3 rfl hl (by decide) rfl (fun ls hl => ?_)
  exact hc_4 ZF x1 0 0 s0 _ _ _ (lv_sub hl [2, 3, 1, 0] rfl) hP hS hf
