theorem dX12_fits_0 : decode cX12_fits 0 = .ok (.aload_n 0, 1) := by decide +kernel
theorem dX12_fits_1 : decode cX12_fits 1 = .ok (.iload_n 1, 1) := by decide +kernel
theorem dX12_fits_2 : decode cX12_fits 2 = .ok (.i2l, 1) := by decide +kernel
theorem dX12_fits_3 : decode cX12_fits 3 = .ok (.invokevirtual 245, 3) := by decide +kernel
theorem dX12_fits_6 : decode cX12_fits 6 = .ok (.ifCond .ne 5, 3) := by decide +kernel
theorem dX12_fits_9 : decode cX12_fits 9 = .ok (.iconst (-1), 1) := by decide +kernel
theorem dX12_fits_10 : decode cX12_fits 10 = .ok (.ireturn, 1) := by decide +kernel
theorem dX12_fits_11 : decode cX12_fits 11 = .ok (.aload_n 0, 1) := by decide +kernel
theorem dX12_fits_12 : decode cX12_fits 12 = .ok (.getfield 3, 3) := by decide +kernel
theorem dX12_fits_15 : decode cX12_fits 15 = .ok (.iconst 1, 1) := by decide +kernel
theorem dX12_fits_16 : decode cX12_fits 16 = .ok (.if_icmp .eq 6, 3) := by decide +kernel
theorem dX12_fits_19 : decode cX12_fits 19 = .ok (.bipush (-5), 2) := by decide +kernel
theorem dX12_fits_21 : decode cX12_fits 21 = .ok (.ireturn, 1) := by decide +kernel
theorem dX12_fits_22 : decode cX12_fits 22 = .ok (.iload_n 2, 1) := by decide +kernel
theorem dX12_fits_23 : decode cX12_fits 23 = .ok (.i2l, 1) := by decide +kernel
theorem dX12_fits_24 : decode cX12_fits 24 = .ok (.lconst 0, 1) := by decide +kernel
theorem dX12_fits_25 : decode cX12_fits 25 = .ok (.aload_n 0, 1) := by decide +kernel
theorem dX12_fits_26 : decode cX12_fits 26 = .ok (.getfield 12, 3) := by decide +kernel
theorem dX12_fits_29 : decode cX12_fits 29 = .ok (.iconst 1, 1) := by decide +kernel
theorem dX12_fits_30 : decode cX12_fits 30 = .ok (.isub, 1) := by decide +kernel
theorem dX12_fits_31 : decode cX12_fits 31 = .ok (.i2l, 1) := by decide +kernel
theorem dX12_fits_32 : decode cX12_fits 32 = .ok (.invokestatic 203, 3) := by decide +kernel
theorem dX12_fits_35 : decode cX12_fits 35 = .ok (.ifCond .eq 14, 3) := by decide +kernel
theorem dX12_fits_38 : decode cX12_fits 38 = .ok (.iload 5, 2) := by decide +kernel
theorem dX12_fits_40 : decode cX12_fits 40 = .ok (.i2l, 1) := by decide +kernel
theorem dX12_fits_41 : decode cX12_fits 41 = .ok (.lconst 0, 1) := by decide +kernel
theorem dX12_fits_42 : decode cX12_fits 42 = .ok (.lconst 1, 1) := by decide +kernel
theorem dX12_fits_43 : decode cX12_fits 43 = .ok (.invokestatic 203, 3) := by decide +kernel
theorem dX12_fits_46 : decode cX12_fits 46 = .ok (.ifCond .ne 5, 3) := by decide +kernel
theorem dX12_fits_49 : decode cX12_fits 49 = .ok (.iconst (-1), 1) := by decide +kernel
theorem dX12_fits_50 : decode cX12_fits 50 = .ok (.ireturn, 1) := by decide +kernel
theorem dX12_fits_51 : decode cX12_fits 51 = .ok (.aload_n 0, 1) := by decide +kernel
theorem dX12_fits_52 : decode cX12_fits 52 = .ok (.iload_n 1, 1) := by decide +kernel
theorem dX12_fits_53 : decode cX12_fits 53 = .ok (.aload_n 0, 1) := by decide +kernel
theorem dX12_fits_54 : decode cX12_fits 54 = .ok (.getfield 111, 3) := by decide +kernel
theorem dX12_fits_57 : decode cX12_fits 57 = .ok (.invokevirtual 264, 3) := by decide +kernel
theorem dX12_fits_60 : decode cX12_fits 60 = .ok (.aload_n 0, 1) := by decide +kernel
theorem dX12_fits_61 : decode cX12_fits 61 = .ok (.getfield 32, 3) := by decide +kernel
theorem dX12_fits_64 : decode cX12_fits 64 = .ok (.iload_n 2, 1) := by decide +kernel
theorem dX12_fits_65 : decode cX12_fits 65 = .ok (.iaload, 1) := by decide +kernel
theorem dX12_fits_66 : decode cX12_fits 66 = .ok (.istore 6, 2) := by decide +kernel
theorem dX12_fits_68 : decode cX12_fits 68 = .ok (.aload_n 0, 1) := by decide +kernel
theorem dX12_fits_69 : decode cX12_fits 69 = .ok (.getfield 37, 3) := by decide +kernel
theorem dX12_fits_72 : decode cX12_fits 72 = .ok (.iload_n 2, 1) := by decide +kernel
theorem dX12_fits_73 : decode cX12_fits 73 = .ok (.iaload, 1) := by decide +kernel
theorem dX12_fits_74 : decode cX12_fits 74 = .ok (.istore 7, 2) := by decide +kernel
theorem dX12_fits_76 : decode cX12_fits 76 = .ok (.iconst 0, 1) := by decide +kernel
theorem dX12_fits_77 : decode cX12_fits 77 = .ok (.istore 8, 2) := by decide +kernel
theorem dX12_fits_79 : decode cX12_fits 79 = .ok (.bipush (-2), 2) := by decide +kernel
theorem dX12_fits_81 : decode cX12_fits 81 = .ok (.istore 9, 2) := by decide +kernel
theorem dX12_fits_83 : decode cX12_fits 83 = .ok (.iconst 1, 1) := by decide +kernel
theorem dX12_fits_84 : decode cX12_fits 84 = .ok (.istore 10, 2) := by decide +kernel
theorem dX12_fits_86 : decode cX12_fits 86 = .ok (.iload 10, 2) := by decide +kernel
theorem dX12_fits_88 : decode cX12_fits 88 = .ok (.bipush 10, 2) := by decide +kernel
theorem dX12_fits_90 : decode cX12_fits 90 = .ok (.if_icmp .ge 116, 3) := by decide +kernel
theorem dX12_fits_93 : decode cX12_fits 93 = .ok (.iconst 0, 1) := by decide +kernel
theorem dX12_fits_94 : decode cX12_fits 94 = .ok (.istore 11, 2) := by decide +kernel
theorem dX12_fits_96 : decode cX12_fits 96 = .ok (.iload 11, 2) := by decide +kernel
theorem dX12_fits_98 : decode cX12_fits 98 = .ok (.bipush 10, 2) := by decide +kernel
theorem dX12_fits_100 : decode cX12_fits 100 = .ok (.if_icmp .ge 100, 3) := by decide +kernel
theorem dX12_fits_103 : decode cX12_fits 103 = .ok (.aload_n 0, 1) := by decide +kernel
theorem dX12_fits_104 : decode cX12_fits 104 = .ok (.getfield 32, 3) := by decide +kernel
theorem dX12_fits_107 : decode cX12_fits 107 = .ok (.iload_n 2, 1) := by decide +kernel
theorem dX12_fits_108 : decode cX12_fits 108 = .ok (.iload 10, 2) := by decide +kernel
theorem dX12_fits_110 : decode cX12_fits 110 = .ok (.iastore, 1) := by decide +kernel
theorem dX12_fits_111 : decode cX12_fits 111 = .ok (.aload_n 0, 1) := by decide +kernel
theorem dX12_fits_112 : decode cX12_fits 112 = .ok (.getfield 37, 3) := by decide +kernel
theorem dX12_fits_115 : decode cX12_fits 115 = .ok (.iload_n 2, 1) := by decide +kernel
theorem dX12_fits_116 : decode cX12_fits 116 = .ok (.iload 11, 2) := by decide +kernel
theorem dX12_fits_118 : decode cX12_fits 118 = .ok (.iastore, 1) := by decide +kernel
theorem dX12_fits_119 : decode cX12_fits 119 = .ok (.lconst 0, 1) := by decide +kernel
theorem dX12_fits_120 : decode cX12_fits 120 = .ok (.lstore 12, 2) := by decide +kernel
theorem dX12_fits_122 : decode cX12_fits 122 = .ok (.iconst 0, 1) := by decide +kernel
theorem dX12_fits_123 : decode cX12_fits 123 = .ok (.istore 14, 2) := by decide +kernel
theorem dX12_fits_125 : decode cX12_fits 125 = .ok (.iload 14, 2) := by decide +kernel
theorem dX12_fits_127 : decode cX12_fits 127 = .ok (.aload_n 0, 1) := by decide +kernel
theorem dX12_fits_128 : decode cX12_fits 128 = .ok (.getfield 56, 3) := by decide +kernel
theorem dX12_fits_131 : decode cX12_fits 131 = .ok (.if_icmp .ge 33, 3) := by decide +kernel
theorem dX12_fits_134 : decode cX12_fits 134 = .ok (.lload 12, 2) := by decide +kernel
theorem dX12_fits_136 : decode cX12_fits 136 = .ok (.aload_n 0, 1) := by decide +kernel
theorem dX12_fits_137 : decode cX12_fits 137 = .ok (.getfield 111, 3) := by decide +kernel
theorem dX12_fits_140 : decode cX12_fits 140 = .ok (.iload 14, 2) := by decide +kernel
theorem dX12_fits_142 : decode cX12_fits 142 = .ok (.laload, 1) := by decide +kernel
theorem dX12_fits_143 : decode cX12_fits 143 = .ok (.aload_n 0, 1) := by decide +kernel
theorem dX12_fits_144 : decode cX12_fits 144 = .ok (.aload_n 0, 1) := by decide +kernel
theorem dX12_fits_145 : decode cX12_fits 145 = .ok (.getfield 62, 3) := by decide +kernel
theorem dX12_fits_148 : decode cX12_fits 148 = .ok (.iload 14, 2) := by decide +kernel
theorem dX12_fits_150 : decode cX12_fits 150 = .ok (.iaload, 1) := by decide +kernel
theorem dX12_fits_151 : decode cX12_fits 151 = .ok (.invokevirtual 82, 3) := by decide +kernel
theorem dX12_fits_154 : decode cX12_fits 154 = .ok (.lmul, 1) := by decide +kernel
theorem dX12_fits_155 : decode cX12_fits 155 = .ok (.ladd, 1) := by decide +kernel
theorem dX12_fits_156 : decode cX12_fits 156 = .ok (.lstore 12, 2) := by decide +kernel
theorem dX12_fits_158 : decode cX12_fits 158 = .ok (.iinc 14 1, 3) := by decide +kernel
theorem dX12_fits_161 : decode cX12_fits 161 = .ok (.goto (-36), 3) := by decide +kernel
theorem dX12_fits_164 : decode cX12_fits 164 = .ok (.lload 12, 2) := by decide +kernel
theorem dX12_fits_166 : decode cX12_fits 166 = .ok (.lload_n 3, 1) := by decide +kernel
theorem dX12_fits_167 : decode cX12_fits 167 = .ok (.lcmp, 1) := by decide +kernel
theorem dX12_fits_168 : decode cX12_fits 168 = .ok (.ifCond .ne 26, 3) := by decide +kernel
theorem dX12_fits_171 : decode cX12_fits 171 = .ok (.iload 8, 2) := by decide +kernel
theorem dX12_fits_173 : decode cX12_fits 173 = .ok (.ifCond .ne 14, 3) := by decide +kernel
theorem dX12_fits_176 : decode cX12_fits 176 = .ok (.bipush 10, 2) := by decide +kernel
theorem dX12_fits_178 : decode cX12_fits 178 = .ok (.iload 10, 2) := by decide +kernel
theorem dX12_fits_180 : decode cX12_fits 180 = .ok (.imul, 1) := by decide +kernel
theorem dX12_fits_181 : decode cX12_fits 181 = .ok (.iload 11, 2) := by decide +kernel
theorem dX12_fits_183 : decode cX12_fits 183 = .ok (.iadd, 1) := by decide +kernel
theorem dX12_fits_184 : decode cX12_fits 184 = .ok (.goto 5, 3) := by decide +kernel
theorem dX12_fits_187 : decode cX12_fits 187 = .ok (.iload 9, 2) := by decide +kernel
theorem dX12_fits_189 : decode cX12_fits 189 = .ok (.istore 9, 2) := by decide +kernel
theorem dX12_fits_191 : decode cX12_fits 191 = .ok (.iinc 8 1, 3) := by decide +kernel
theorem dX12_fits_194 : decode cX12_fits 194 = .ok (.iinc 11 1, 3) := by decide +kernel
theorem dX12_fits_197 : decode cX12_fits 197 = .ok (.goto (-101), 3) := by decide +kernel
theorem dX12_fits_200 : decode cX12_fits 200 = .ok (.iinc 10 1, 3) := by decide +kernel
theorem dX12_fits_203 : decode cX12_fits 203 = .ok (.goto (-117), 3) := by decide +kernel
theorem dX12_fits_206 : decode cX12_fits 206 = .ok (.aload_n 0, 1) := by decide +kernel
theorem dX12_fits_207 : decode cX12_fits 207 = .ok (.getfield 32, 3) := by decide +kernel
theorem dX12_fits_210 : decode cX12_fits 210 = .ok (.iload_n 2, 1) := by decide +kernel
theorem dX12_fits_211 : decode cX12_fits 211 = .ok (.iload 6, 2) := by decide +kernel
theorem dX12_fits_213 : decode cX12_fits 213 = .ok (.iastore, 1) := by decide +kernel
theorem dX12_fits_214 : decode cX12_fits 214 = .ok (.aload_n 0, 1) := by decide +kernel
theorem dX12_fits_215 : decode cX12_fits 215 = .ok (.getfield 37, 3) := by decide +kernel
theorem dX12_fits_218 : decode cX12_fits 218 = .ok (.iload_n 2, 1) := by decide +kernel
theorem dX12_fits_219 : decode cX12_fits 219 = .ok (.iload 7, 2) := by decide +kernel
theorem dX12_fits_221 : decode cX12_fits 221 = .ok (.iastore, 1) := by decide +kernel
theorem dX12_fits_222 : decode cX12_fits 222 = .ok (.iload 5, 2) := by decide +kernel
theorem dX12_fits_224 : decode cX12_fits 224 = .ok (.ifCond .ne 8, 3) := by decide +kernel
theorem dX12_fits_227 : decode cX12_fits 227 = .ok (.iload 8, 2) := by decide +kernel
theorem dX12_fits_229 : decode cX12_fits 229 = .ok (.goto 5, 3) := by decide +kernel
theorem dX12_fits_232 : decode cX12_fits 232 = .ok (.iload 9, 2) := by decide +kernel
theorem dX12_fits_234 : decode cX12_fits 234 = .ok (.ireturn, 1) := by decide +kernel
set_option maxHeartbeats 4000000 in
set_option maxRecDepth 100000 in
theorem cn_X12_fits {l : Launch} {cA : Nat → ClassId} {ad : Nat → Nat} {D : va_G} {E : Nat → Nat} {A : Nat → Prop} {x1 : Int32} {x2 : Int32} {x3 : Int64} {x5 : Int32} {s0 sr : SS} {rr : Int32} (hf : f_X12_fits x1 x2 x3 x5 s0 = some (rr, sr)) : zCon Om Nm cA ad D E l yX12_fits cX12_fits 15 (some .int) 5 A [.ref (ad 0), .int x1, .int x2, .long x3, .int x5] s0 (some (.int rr)) sr := by
  refine zstart (own := RX12) hOm (by decide) rfl (Nat.le_of_ble_eq_true rfl) ?_
  intro p e s m args below meth c X hP ls hl
  have hx := X.1
  have hb := X.2.1
  have hl : lv_has ls 15 [(0, .ref (ad 0)), (1, .int x1), (2, .int x2), (3, .long x3), (5, .int x5)] := hl
  have hS : va_S A s.heap s.heap [] := va_S.rf
  have hc_86 : ∀ (n86 : Nat) (x2 : Int32) (x3 : Int64) (x5 : Int32) (x6 : Int32) (x7 : Int32) (x8 : Int32) (x9 : Int32) (x10 : Int32) (s1 : SS) (H : Heap) (locs : List Loc) (ls : Array Slot), lv_has ls 15 [(0, .ref (ad 0)), (2, .int x2), (3, .long x3), (5, .int x5), (6, .int x6), (7, .int x7), (8, .int x8), (9, .int x9), (10, .int x10)] → va_P D ZCL (zw Om Nm cA ad s1) H → va_S A s.heap H locs → f_X12_fits_c86 n86 x2 x3 x5 x6 x7 x8 x9 x10 s1 = some (rr, sr) → W p l e (zrm 5) s m args below meth c H locs 0 0 (MQ below (zQc Om Nm cA ad D A (some (.int rr)) sr) args s 0 0 A) (F0 m 86 ls []) := by
    intro n86
    induction n86 with
    | zero =>
      intro x2 x3 x5 x6 x7 x8 x9 x10 s1 H locs ls hl hP hS hf
      rw [f_X12_fits_c86] at hf
      cases hf
    | succ n86 ih86 =>
      have hc_96 : ∀ (n96 : Nat) (x2 : Int32) (x3 : Int64) (x5 : Int32) (x6 : Int32) (x7 : Int32) (x8 : Int32) (x9 : Int32) (x10 : Int32) (x11 : Int32) (s1 : SS) (H : Heap) (locs : List Loc) (ls : Array Slot), lv_has ls 15 [(0, .ref (ad 0)), (2, .int x2), (3, .long x3), (5, .int x5), (6, .int x6), (7, .int x7), (8, .int x8), (9, .int x9), (10, .int x10), (11, .int x11)] → va_P D ZCL (zw Om Nm cA ad s1) H → va_S A s.heap H locs → f_X12_fits_c96 (f_X12_fits_c86 n86) n96 x2 x3 x5 x6 x7 x8 x9 x10 x11 s1 = some (rr, sr) → W p l e (zrm 5) s m args below meth c H locs 0 0 (MQ below (zQc Om Nm cA ad D A (some (.int rr)) sr) args s 0 0 A) (F0 m 96 ls []) := by
        intro n96
        induction n96 with
        | zero =>
          intro x2 x3 x5 x6 x7 x8 x9 x10 x11 s1 H locs ls hl hP hS hf
          rw [f_X12_fits_c96] at hf
          cases hf
        | succ n96 ih96 =>
          have hc_125 : ∀ (n125 : Nat) (x2 : Int32) (x3 : Int64) (x5 : Int32) (x6 : Int32) (x7 : Int32) (x8 : Int32) (x9 : Int32) (x10 : Int32) (x11 : Int32) (x12 : Int64) (x14 : Int32) (s1 : SS) (H : Heap) (locs : List Loc) (ls : Array Slot), lv_has ls 15 [(0, .ref (ad 0)), (2, .int x2), (3, .long x3), (5, .int x5), (6, .int x6), (7, .int x7), (8, .int x8), (9, .int x9), (10, .int x10), (11, .int x11), (12, .long x12), (14, .int x14)] → va_P D ZCL (zw Om Nm cA ad s1) H → va_S A s.heap H locs → f_X12_fits_c125 (f_X12_fits_c96 (f_X12_fits_c86 n86) n96) (f_X12_fits_c86 n86) n125 x2 x3 x5 x6 x7 x8 x9 x10 x11 x12 x14 s1 = some (rr, sr) → W p l e (zrm 5) s m args below meth c H locs 0 0 (MQ below (zQc Om Nm cA ad D A (some (.int rr)) sr) args s 0 0 A) (F0 m 125 ls []) := by
            intro n125
            induction n125 with
            | zero =>
              intro x2 x3 x5 x6 x7 x8 x9 x10 x11 x12 x14 s1 H locs ls hl hP hS hf
              rw [f_X12_fits_c125] at hf
              cases hf
            | succ n125 ih125 =>
              have hc_194 : ∀ (x2 : Int32) (x3 : Int64) (x5 : Int32) (x6 : Int32) (x7 : Int32) (x8 : Int32) (x9 : Int32) (x10 : Int32) (x11 : Int32) (s1 : SS) (H : Heap) (locs : List Loc) (ls : Array Slot), lv_has ls 15 [(0, .ref (ad 0)), (2, .int x2), (3, .long x3), (5, .int x5), (6, .int x6), (7, .int x7), (8, .int x8), (9, .int x9), (10, .int x10), (11, .int x11)] → va_P D ZCL (zw Om Nm cA ad s1) H → va_S A s.heap H locs → f_X12_fits_c194 (f_X12_fits_c96 (f_X12_fits_c86 n86) n96) (f_X12_fits_c86 n86) x2 x3 x5 x6 x7 x8 x9 x10 x11 s1 = some (rr, sr) → W p l e (zrm 5) s m args below meth c H locs 0 0 (MQ below (zQc Om Nm cA ad D A (some (.int rr)) sr) args s 0 0 A) (F0 m 194 ls []) := by
                intro x2 x3 x5 x6 x7 x8 x9 x10 x11 s1 H locs ls hl hP hS hf
                rw [f_X12_fits_c194] at hf
                refine lv_iinc (v := (x11 + 1)) (lv' := [(11, .int (x11 + 1)), (0, .ref (ad 0)), (2, .int x2), (3, .long x3), (5, .int x5), (6, .int x6), (7, .int x7), (8, .int x8), (9, .int x9), (10, .int x10)]) hx hb dX12_fits_194 hl (k := 9) rfl rfl (by decide) rfl (fun ls hl => ?_)
                refine lv_goto (tgt := 96) hx hb dX12_fits_197 (by decide) ?_
                exact ih96 x2 x3 x5 x6 x7 x8 x9 x10 (x11 + 1) s1 _ _ _ (lv_sub hl [1, 2, 3, 4, 5, 6, 7, 8, 9, 0] rfl) hP hS hf
              have hc_189 : ∀ (x2 : Int32) (x3 : Int64) (x5 : Int32) (x6 : Int32) (x7 : Int32) (x8 : Int32) (x10 : Int32) (x11 : Int32) (t0 : Int32) (s1 : SS) (H : Heap) (locs : List Loc) (ls : Array Slot), lv_has ls 15 [(0, .ref (ad 0)), (2, .int x2), (3, .long x3), (5, .int x5), (6, .int x6), (7, .int x7), (8, .int x8), (10, .int x10), (11, .int x11)] → va_P D ZCL (zw Om Nm cA ad s1) H → va_S A s.heap H locs → f_X12_fits_c189 (f_X12_fits_c96 (f_X12_fits_c86 n86) n96) (f_X12_fits_c86 n86) x2 x3 x5 x6 x7 x8 x10 x11 t0 s1 = some (rr, sr) → W p l e (zrm 5) s m args below meth c H locs 0 0 (MQ below (zQc Om Nm cA ad D A (some (.int rr)) sr) args s 0 0 A) (F0 m 189 ls [.int t0]) := by
                intro x2 x3 x5 x6 x7 x8 x10 x11 t0 s1 H locs ls hl hP hS hf
                rw [f_X12_fits_c189] at hf
                refine lv_istore (lv' := [(9, .int t0), (0, .ref (ad 0)), (2, .int x2), (3, .long x3), (5, .int x5), (6, .int x6), (7, .int x7), (8, .int x8), (10, .int x10), (11, .int x11)]) hx hb dX12_fits_189 hl (by decide) rfl (fun ls hl => ?_)
                refine lv_iinc (v := (x8 + 1)) (lv' := [(8, .int (x8 + 1)), (9, .int t0), (0, .ref (ad 0)), (2, .int x2), (3, .long x3), (5, .int x5), (6, .int x6), (7, .int x7), (10, .int x10), (11, .int x11)]) hx hb dX12_fits_191 hl (k := 7) rfl rfl (by decide) rfl (fun ls hl => ?_)
                exact hc_194 x2 x3 x5 x6 x7 (x8 + 1) t0 x10 x11 s1 _ _ _ (lv_sub hl [2, 3, 4, 5, 6, 7, 0, 1, 8, 9] rfl) hP hS hf
              intro x2 x3 x5 x6 x7 x8 x9 x10 x11 x12 x14 s1 H locs ls hl hP hS hf
              rw [f_X12_fits_c125] at hf
              refine lv_iload hx hb dX12_fits_125 (lv_at hl 11 rfl) ?_
              refine lv_aload_n hx hb dX12_fits_127 rfl (lv_at hl 0 rfl) ?_
              refine gf_X12_56 X hP (k := 0) rfl dX12_fits_128 ?_
              refine zicmp_ge (tgt := 164) hx hb dX12_fits_131 (by decide) hf (fun hf => ?_) (fun hf => ?_)
              · refine lv_lload hx hb dX12_fits_164 (lv_at hl 10 rfl) ?_
                refine lv_lload_n hx hb dX12_fits_166 rfl (lv_at hl 2 rfl) ?_
                refine W.lcmp hx hb dX12_fits_167 ?_
                refine zif_ne (tgt := 194) hx hb dX12_fits_168 (by decide) hf (fun hf => ?_) (fun hf => ?_)
                · exact hc_194 x2 x3 x5 x6 x7 x8 x9 x10 x11 s1 _ _ _ (lv_sub hl [0, 1, 2, 3, 4, 5, 6, 7, 8, 9] rfl) hP hS hf
                · refine lv_iload hx hb dX12_fits_171 (lv_at hl 6 rfl) ?_
                  refine zif_ne (tgt := 187) hx hb dX12_fits_173 (by decide) hf (fun hf => ?_) (fun hf => ?_)
                  · refine lv_iload hx hb dX12_fits_187 (lv_at hl 7 rfl) ?_
                    exact hc_189 x2 x3 x5 x6 x7 x8 x10 x11 x9 s1 _ _ _ (lv_sub hl [0, 1, 2, 3, 4, 5, 6, 8, 9] rfl) hP hS hf
                  · refine lv_bipush (v := 10) hx hb dX12_fits_176 (by decide) ?_
                    refine lv_iload hx hb dX12_fits_178 (lv_at hl 8 rfl) ?_
                    refine lv_imul hx hb dX12_fits_180 ?_
                    refine lv_iload hx hb dX12_fits_181 (lv_at hl 9 rfl) ?_
                    refine lv_iadd hx hb dX12_fits_183 ?_
                    refine lv_goto (tgt := 189) hx hb dX12_fits_184 (by decide) ?_
                    exact hc_189 x2 x3 x5 x6 x7 x8 x10 x11 (((10 : Int32) * x10) + x11) s1 _ _ _ (lv_sub hl [0, 1, 2, 3, 4, 5, 6, 8, 9] rfl) hP hS hf
              · refine lv_lload hx hb dX12_fits_134 (lv_at hl 10 rfl) ?_
                refine lv_aload_n hx hb dX12_fits_136 rfl (lv_at hl 0 rfl) ?_
                refine gf_X12_111 X hP (k := 0) (q := 13) rfl dX12_fits_137 rfl ?_
                refine lv_iload hx hb dX12_fits_140 (lv_at hl 11 rfl) ?_
                obtain ⟨g19, hf⟩ := zgd hf
                refine zald_l X hP (k := 13) (n := 462) (rs := []) rfl g19 dX12_fits_142 ?_
                refine lv_aload_n hx hb dX12_fits_143 rfl (lv_at hl 0 rfl) ?_
                refine lv_aload_n hx hb dX12_fits_144 rfl (lv_at hl 0 rfl) ?_
                refine gf_X12_62 X hP (k := 0) (q := 4) rfl dX12_fits_145 rfl ?_
                refine lv_iload hx hb dX12_fits_148 (lv_at hl 11 rfl) ?_
                obtain ⟨g20, hf⟩ := zgd hf
                refine zald_i X hP (k := 4) (n := 462) (rs := []) rfl g20 dX12_fits_150 ?_
                obtain ⟨r21, s22, h23, hf⟩ := zbd_some hf
                refine zcallV X hP hS hl.1 (k := 0) (As := [.int (s1.1 4 (x14).toNatClampNeg)]) (rest := [.long (s1.2 13 (x14).toNatClampNeg), .long x12]) (cn_X12_worthBy h23) cw_X12_worthBy zp_12 rfl (by decide) rfl ml_X12_82 (by decide) rfl rfl (Nat.le_of_ble_eq_true rfl) dX12_fits_151 (fun H locs hP hS => ?_)
                refine lv_lmul hx hb dX12_fits_154 ?_
                refine lv_ladd hx hb dX12_fits_155 ?_
                refine lv_lstore (lv' := [(12, .long (x12 + ((s1.2 13 (x14).toNatClampNeg) * r21))), (0, .ref (ad 0)), (2, .int x2), (3, .long x3), (5, .int x5), (6, .int x6), (7, .int x7), (8, .int x8), (9, .int x9), (10, .int x10), (11, .int x11), (14, .int x14)]) hx hb dX12_fits_156 hl (by decide) rfl (fun ls hl => ?_)
                refine lv_iinc (v := (x14 + 1)) (lv' := [(14, .int (x14 + 1)), (12, .long (x12 + ((s1.2 13 (x14).toNatClampNeg) * r21))), (0, .ref (ad 0)), (2, .int x2), (3, .long x3), (5, .int x5), (6, .int x6), (7, .int x7), (8, .int x8), (9, .int x9), (10, .int x10), (11, .int x11)]) hx hb dX12_fits_158 hl (k := 11) rfl rfl (by decide) rfl (fun ls hl => ?_)
                refine lv_goto (tgt := 125) hx hb dX12_fits_161 (by decide) ?_
                exact ih125 x2 x3 x5 x6 x7 x8 x9 x10 x11 (x12 + ((s1.2 13 (x14).toNatClampNeg) * r21)) (x14 + 1) s22 _ _ _ (lv_sub hl [2, 3, 4, 5, 6, 7, 8, 9, 10, 11, 1, 0] rfl) hP hS hf
          intro x2 x3 x5 x6 x7 x8 x9 x10 x11 s1 H locs ls hl hP hS hf
          rw [f_X12_fits_c96] at hf
          refine lv_iload hx hb dX12_fits_96 (lv_at hl 9 rfl) ?_
          refine lv_bipush (v := 10) hx hb dX12_fits_98 (by decide) ?_
          refine zicmp_ge (tgt := 200) hx hb dX12_fits_100 (by decide) hf (fun hf => ?_) (fun hf => ?_)
          · refine lv_iinc (v := (x10 + 1)) (lv' := [(10, .int (x10 + 1)), (0, .ref (ad 0)), (2, .int x2), (3, .long x3), (5, .int x5), (6, .int x6), (7, .int x7), (8, .int x8), (9, .int x9), (11, .int x11)]) hx hb dX12_fits_200 hl (k := 8) rfl rfl (by decide) rfl (fun ls hl => ?_)
            refine lv_goto (tgt := 86) hx hb dX12_fits_203 (by decide) ?_
            exact ih86 x2 x3 x5 x6 x7 x8 x9 (x10 + 1) s1 _ _ _ (lv_sub hl [1, 2, 3, 4, 5, 6, 7, 8, 0] rfl) hP hS hf
          · refine lv_aload_n hx hb dX12_fits_103 rfl (lv_at hl 0 rfl) ?_
            refine gf_X12_32 X hP (k := 0) (q := 2) rfl dX12_fits_104 rfl ?_
            refine lv_iload_n hx hb dX12_fits_107 rfl (lv_at hl 1 rfl) ?_
            refine lv_iload hx hb dX12_fits_108 (lv_at hl 8 rfl) ?_
            obtain ⟨g17, hf⟩ := zgd hf
            refine zast_i X hP hS (k := 2) (n := 3) (rs := []) rfl g17 dX12_fits_110 (fun H locs hP hS => ?_)
            refine lv_aload_n hx hb dX12_fits_111 rfl (lv_at hl 0 rfl) ?_
            refine gf_X12_37 X hP (k := 0) (q := 3) rfl dX12_fits_112 rfl ?_
            refine lv_iload_n hx hb dX12_fits_115 rfl (lv_at hl 1 rfl) ?_
            refine lv_iload hx hb dX12_fits_116 (lv_at hl 9 rfl) ?_
            obtain ⟨g18, hf⟩ := zgd hf
            refine zast_i X hP hS (k := 3) (n := 3) (rs := []) rfl g18 dX12_fits_118 (fun H locs hP hS => ?_)
            refine lv_lconst (v := 0) hx hb dX12_fits_119 (by decide) ?_
            refine lv_lstore (lv' := [(12, .long 0), (0, .ref (ad 0)), (2, .int x2), (3, .long x3), (5, .int x5), (6, .int x6), (7, .int x7), (8, .int x8), (9, .int x9), (10, .int x10), (11, .int x11)]) hx hb dX12_fits_120 hl (by decide) rfl (fun ls hl => ?_)
            refine lv_iconst (v := 0) hx hb dX12_fits_122 (by decide) ?_
            refine lv_istore (lv' := [(14, .int 0), (12, .long 0), (0, .ref (ad 0)), (2, .int x2), (3, .long x3), (5, .int x5), (6, .int x6), (7, .int x7), (8, .int x8), (9, .int x9), (10, .int x10), (11, .int x11)]) hx hb dX12_fits_123 hl (by decide) rfl (fun ls hl => ?_)
            exact hc_125 ZF x2 x3 x5 x6 x7 x8 x9 x10 x11 0 0 (zS (zS s1 2 (x2).toNatClampNeg x10) 3 (x2).toNatClampNeg x11) _ _ _ (lv_sub hl [2, 3, 4, 5, 6, 7, 8, 9, 10, 11, 1, 0] rfl) hP hS hf
      intro x2 x3 x5 x6 x7 x8 x9 x10 s1 H locs ls hl hP hS hf
      rw [f_X12_fits_c86] at hf
      refine lv_iload hx hb dX12_fits_86 (lv_at hl 8 rfl) ?_
      refine lv_bipush (v := 10) hx hb dX12_fits_88 (by decide) ?_
      refine zicmp_ge (tgt := 206) hx hb dX12_fits_90 (by decide) hf (fun hf => ?_) (fun hf => ?_)
      · refine lv_aload_n hx hb dX12_fits_206 rfl (lv_at hl 0 rfl) ?_
        refine gf_X12_32 X hP (k := 0) (q := 2) rfl dX12_fits_207 rfl ?_
        refine lv_iload_n hx hb dX12_fits_210 rfl (lv_at hl 1 rfl) ?_
        refine lv_iload hx hb dX12_fits_211 (lv_at hl 4 rfl) ?_
        obtain ⟨g15, hf⟩ := zgd hf
        refine zast_i X hP hS (k := 2) (n := 3) (rs := []) rfl g15 dX12_fits_213 (fun H locs hP hS => ?_)
        refine lv_aload_n hx hb dX12_fits_214 rfl (lv_at hl 0 rfl) ?_
        refine gf_X12_37 X hP (k := 0) (q := 3) rfl dX12_fits_215 rfl ?_
        refine lv_iload_n hx hb dX12_fits_218 rfl (lv_at hl 1 rfl) ?_
        refine lv_iload hx hb dX12_fits_219 (lv_at hl 5 rfl) ?_
        obtain ⟨g16, hf⟩ := zgd hf
        refine zast_i X hP hS (k := 3) (n := 3) (rs := []) rfl g16 dX12_fits_221 (fun H locs hP hS => ?_)
        refine lv_iload hx hb dX12_fits_222 (lv_at hl 3 rfl) ?_
        refine zif_ne (tgt := 232) hx hb dX12_fits_224 (by decide) hf (fun hf => ?_) (fun hf => ?_)
        · refine lv_iload hx hb dX12_fits_232 (lv_at hl 7 rfl) ?_
          exact zret_i X hP hS hf rfl dX12_fits_234
        · refine lv_iload hx hb dX12_fits_227 (lv_at hl 6 rfl) ?_
          refine lv_goto (tgt := 234) hx hb dX12_fits_229 (by decide) ?_
          exact zret_i X hP hS hf rfl dX12_fits_234
      · refine lv_iconst (v := 0) hx hb dX12_fits_93 (by decide) ?_
        refine lv_istore (lv' := [(11, .int 0), (0, .ref (ad 0)), (2, .int x2), (3, .long x3), (5, .int x5), (6, .int x6), (7, .int x7), (8, .int x8), (9, .int x9), (10, .int x10)]) hx hb dX12_fits_94 hl (by decide) rfl (fun ls hl => ?_)
        exact hc_96 ZF x2 x3 x5 x6 x7 x8 x9 x10 0 s1 _ _ _ (lv_sub hl [1, 2, 3, 4, 5, 6, 7, 8, 9, 0] rfl) hP hS hf
  rw [f_X12_fits] at hf
  refine lv_aload_n hx hb dX12_fits_0 rfl (lv_at hl 0 rfl) ?_
  refine lv_iload_n hx hb dX12_fits_1 rfl (lv_at hl 1 rfl) ?_
  refine lv_i2l hx hb dX12_fits_2 rfl ?_
  obtain ⟨r1, s2, h3, hf⟩ := zbd_some hf
  refine zcallV X hP hS hl.1 (k := 0) (As := [.long (x1).toInt64]) (rest := []) (cn_X12_isClass h3) cw_X12_isClass zp_12 rfl (by decide) rfl ml_X12_245 (by decide) rfl rfl (Nat.le_of_ble_eq_true rfl) dX12_fits_3 (fun H locs hP hS => ?_)
  refine zif_ne (tgt := 11) hx hb dX12_fits_6 (by decide) hf (fun hf => ?_) (fun hf => ?_)
  · refine lv_aload_n hx hb dX12_fits_11 rfl (lv_at hl 0 rfl) ?_
    refine gf_X12_3 X hP (k := 0) rfl dX12_fits_12 ?_
    refine lv_iconst (v := 1) hx hb dX12_fits_15 (by decide) ?_
    refine zicmp_eq (tgt := 22) hx hb dX12_fits_16 (by decide) hf (fun hf => ?_) (fun hf => ?_)
    · refine lv_iload_n hx hb dX12_fits_22 rfl (lv_at hl 2 rfl) ?_
      refine lv_i2l hx hb dX12_fits_23 rfl ?_
      refine lv_lconst (v := 0) hx hb dX12_fits_24 (by decide) ?_
      refine lv_aload_n hx hb dX12_fits_25 rfl (lv_at hl 0 rfl) ?_
      refine gf_X12_12 X hP (k := 0) rfl dX12_fits_26 ?_
      refine lv_iconst (v := 1) hx hb dX12_fits_29 (by decide) ?_
      refine lv_isub hx hb dX12_fits_30 ?_
      refine lv_i2l hx hb dX12_fits_31 rfl ?_
      obtain ⟨r4, s5, h6, hf⟩ := zbd_some hf
      refine zcallS X hP hS hl.1 (As := [.long (x2).toInt64, .long 0, .long (((s2.1 0 4) - (1 : Int32))).toInt64]) (rest := []) (cn_X12_in h6) cw_X12_in ml_X12_203 (by decide) rfl rfl (Nat.le_of_ble_eq_true rfl) dX12_fits_32 (fun H locs hP hS => ?_)
      refine zif_eq (tgt := 49) hx hb dX12_fits_35 (by decide) hf (fun hf => ?_) (fun hf => ?_)
      · refine lv_iconst (v := (-1)) hx hb dX12_fits_49 (by decide) ?_
        exact zret_i X hP hS hf rfl dX12_fits_50
      · refine lv_iload hx hb dX12_fits_38 (lv_at hl 4 rfl) ?_
        refine lv_i2l hx hb dX12_fits_40 rfl ?_
        refine lv_lconst (v := 0) hx hb dX12_fits_41 (by decide) ?_
        refine lv_lconst (v := 1) hx hb dX12_fits_42 (by decide) ?_
        obtain ⟨r7, s8, h9, hf⟩ := zbd_some hf
        refine zcallS X hP hS hl.1 (As := [.long (x5).toInt64, .long 0, .long 1]) (rest := []) (cn_X12_in h9) cw_X12_in ml_X12_203 (by decide) rfl rfl (Nat.le_of_ble_eq_true rfl) dX12_fits_43 (fun H locs hP hS => ?_)
        refine zif_ne (tgt := 51) hx hb dX12_fits_46 (by decide) hf (fun hf => ?_) (fun hf => ?_)
        · refine lv_aload_n hx hb dX12_fits_51 rfl (lv_at hl 0 rfl) ?_
          refine lv_iload_n hx hb dX12_fits_52 rfl (lv_at hl 1 rfl) ?_
          refine lv_aload_n hx hb dX12_fits_53 rfl (lv_at hl 0 rfl) ?_
          refine gf_X12_111 X hP (k := 0) (q := 13) rfl dX12_fits_54 rfl ?_
          obtain ⟨r10, s11, h12, hf⟩ := zbd_some hf
          refine zcallV X hP hS hl.1 (k := 0) (As := [.int x1, .ref (ad 13)]) (rest := []) (cn_X12_layClass h12) cw_X12_layClass zp_12 rfl (by decide) rfl ml_X12_264 (by decide) rfl rfl (Nat.le_of_ble_eq_true rfl) dX12_fits_57 (fun H locs hP hS => ?_)
          refine lv_aload_n hx hb dX12_fits_60 rfl (lv_at hl 0 rfl) ?_
          refine gf_X12_32 X hP (k := 0) (q := 2) rfl dX12_fits_61 rfl ?_
          refine lv_iload_n hx hb dX12_fits_64 rfl (lv_at hl 2 rfl) ?_
          obtain ⟨g13, hf⟩ := zgd hf
          refine zald_i X hP (k := 2) (n := 3) (rs := []) rfl g13 dX12_fits_65 ?_
          refine lv_istore (lv' := [(6, .int (s11.1 2 (x2).toNatClampNeg)), (0, .ref (ad 0)), (1, .int x1), (2, .int x2), (3, .long x3), (5, .int x5)]) hx hb dX12_fits_66 hl (by decide) rfl (fun ls hl => ?_)
          refine lv_aload_n hx hb dX12_fits_68 rfl (lv_at hl 1 rfl) ?_
          refine gf_X12_37 X hP (k := 0) (q := 3) rfl dX12_fits_69 rfl ?_
          refine lv_iload_n hx hb dX12_fits_72 rfl (lv_at hl 3 rfl) ?_
          obtain ⟨g14, hf⟩ := zgd hf
          refine zald_i X hP (k := 3) (n := 3) (rs := []) rfl g14 dX12_fits_73 ?_
          refine lv_istore (lv' := [(7, .int (s11.1 3 (x2).toNatClampNeg)), (6, .int (s11.1 2 (x2).toNatClampNeg)), (0, .ref (ad 0)), (1, .int x1), (2, .int x2), (3, .long x3), (5, .int x5)]) hx hb dX12_fits_74 hl (by decide) rfl (fun ls hl => ?_)
          refine lv_iconst (v := 0) hx hb dX12_fits_76 (by decide) ?_
          refine lv_istore (lv' := [(8, .int 0), (7, .int (s11.1 3 (x2).toNatClampNeg)), (6, .int (s11.1 2 (x2).toNatClampNeg)), (0, .ref (ad 0)), (1, .int x1), (2, .int x2), (3, .long x3), (5, .int x5)]) hx hb dX12_fits_77 hl (by decide) rfl (fun ls hl => ?_)
          refine lv_bipush (v := (-2)) hx hb dX12_fits_79 (by decide) ?_
          refine lv_istore (lv' := [(9, .int (-2)), (8, .int 0), (7, .int (s11.1 3 (x2).toNatClampNeg)), (6, .int (s11.1 2 (x2).toNatClampNeg)), (0, .ref (ad 0)), (1, .int x1), (2, .int x2), (3, .long x3), (5, .int x5)]) hx hb dX12_fits_81 hl (by decide) rfl (fun ls hl => ?_)
          refine lv_iconst (v := 1) hx hb dX12_fits_83 (by decide) ?_
          refine lv_istore (lv' := [(10, .int 1), (9, .int (-2)), (8, .int 0), (7, .int (s11.1 3 (x2).toNatClampNeg)), (6, .int (s11.1 2 (x2).toNatClampNeg)), (0, .ref (ad 0)), (1, .int x1), (2, .int x2), (3, .long x3), (5, .int x5)]) hx hb dX12_fits_84 hl (by decide) rfl (fun ls hl => ?_)
          exact hc_86 ZF x2 x3 x5 (s11.1 2 (x2).toNatClampNeg) (s11.1 3 (x2).toNatClampNeg) 0 (-2) 1 s11 _ _ _ (lv_sub hl [5, 7, 8, 9, 4, 3, 2, 1, 0] rfl) hP hS hf
        · refine lv_iconst (v := (-1)) hx hb dX12_fits_49 (by decide) ?_
          exact zret_i X hP hS hf rfl dX12_fits_50
    · refine lv_bipush (v := (-5)) hx hb dX12_fits_19 (by decide) ?_
      exact zret_i X hP hS hf rfl dX12_fits_21
  · refine lv_iconst (v := (-1)) hx hb dX12_fits_9 (by decide) ?_
    exact zret_i X hP hS hf rfl dX12_fits_10
theorem dX12_judge_0 : decode cX12_judge 0 = .ok (.iload_n 1, 1) := by decide +kernel
theorem dX12_judge_1 : decode cX12_judge 1 = .ok (.invokestatic 275, 3) := by decide +kernel
theorem dX12_judge_4 : decode cX12_judge 4 = .ok (.ifCond .ne 5, 3) := by decide +kernel
theorem dX12_judge_7 : decode cX12_judge 7 = .ok (.iconst (-1), 1) := by decide +kernel
theorem dX12_judge_8 : decode cX12_judge 8 = .ok (.ireturn, 1) := by decide +kernel
theorem dX12_judge_9 : decode cX12_judge 9 = .ok (.aload_n 0, 1) := by decide +kernel
theorem dX12_judge_10 : decode cX12_judge 10 = .ok (.getfield 138, 3) := by decide +kernel
theorem dX12_judge_13 : decode cX12_judge 13 = .ok (.iload_n 1, 1) := by decide +kernel
theorem dX12_judge_14 : decode cX12_judge 14 = .ok (.iaload, 1) := by decide +kernel
theorem dX12_judge_15 : decode cX12_judge 15 = .ok (.ifCond .ge 6, 3) := by decide +kernel
theorem dX12_judge_18 : decode cX12_judge 18 = .ok (.bipush (-11), 2) := by decide +kernel
theorem dX12_judge_20 : decode cX12_judge 20 = .ok (.ireturn, 1) := by decide +kernel
theorem dX12_judge_21 : decode cX12_judge 21 = .ok (.aload_n 0, 1) := by decide +kernel
theorem dX12_judge_22 : decode cX12_judge 22 = .ok (.getfield 141, 3) := by decide +kernel
theorem dX12_judge_25 : decode cX12_judge 25 = .ok (.iload_n 1, 1) := by decide +kernel
theorem dX12_judge_26 : decode cX12_judge 26 = .ok (.iaload, 1) := by decide +kernel
theorem dX12_judge_27 : decode cX12_judge 27 = .ok (.aload_n 0, 1) := by decide +kernel
theorem dX12_judge_28 : decode cX12_judge 28 = .ok (.getfield 89, 3) := by decide +kernel
theorem dX12_judge_31 : decode cX12_judge 31 = .ok (.if_icmp .ge 12, 3) := by decide +kernel
theorem dX12_judge_34 : decode cX12_judge 34 = .ok (.aload_n 0, 1) := by decide +kernel
theorem dX12_judge_35 : decode cX12_judge 35 = .ok (.getfield 141, 3) := by decide +kernel
theorem dX12_judge_38 : decode cX12_judge 38 = .ok (.iload_n 1, 1) := by decide +kernel
theorem dX12_judge_39 : decode cX12_judge 39 = .ok (.iaload, 1) := by decide +kernel
theorem dX12_judge_40 : decode cX12_judge 40 = .ok (.goto 7, 3) := by decide +kernel
theorem dX12_judge_43 : decode cX12_judge 43 = .ok (.aload_n 0, 1) := by decide +kernel
theorem dX12_judge_44 : decode cX12_judge 44 = .ok (.getfield 89, 3) := by decide +kernel
theorem dX12_judge_47 : decode cX12_judge 47 = .ok (.istore_n 2, 1) := by decide +kernel
theorem dX12_judge_48 : decode cX12_judge 48 = .ok (.iconst 0, 1) := by decide +kernel
theorem dX12_judge_49 : decode cX12_judge 49 = .ok (.istore_n 3, 1) := by decide +kernel
theorem dX12_judge_50 : decode cX12_judge 50 = .ok (.iload_n 3, 1) := by decide +kernel
theorem dX12_judge_51 : decode cX12_judge 51 = .ok (.iload_n 2, 1) := by decide +kernel
theorem dX12_judge_52 : decode cX12_judge 52 = .ok (.if_icmp .ge 43, 3) := by decide +kernel
theorem dX12_judge_55 : decode cX12_judge 55 = .ok (.aload_n 0, 1) := by decide +kernel
theorem dX12_judge_56 : decode cX12_judge 56 = .ok (.iload_n 3, 1) := by decide +kernel
theorem dX12_judge_57 : decode cX12_judge 57 = .ok (.aload_n 0, 1) := by decide +kernel
theorem dX12_judge_58 : decode cX12_judge 58 = .ok (.getfield 111, 3) := by decide +kernel
theorem dX12_judge_61 : decode cX12_judge 61 = .ok (.invokevirtual 264, 3) := by decide +kernel
theorem dX12_judge_64 : decode cX12_judge 64 = .ok (.aload_n 0, 1) := by decide +kernel
theorem dX12_judge_65 : decode cX12_judge 65 = .ok (.aload_n 0, 1) := by decide +kernel
theorem dX12_judge_66 : decode cX12_judge 66 = .ok (.getfield 111, 3) := by decide +kernel
theorem dX12_judge_69 : decode cX12_judge 69 = .ok (.invokevirtual 268, 3) := by decide +kernel
theorem dX12_judge_72 : decode cX12_judge 72 = .ok (.aload_n 0, 1) := by decide +kernel
theorem dX12_judge_73 : decode cX12_judge 73 = .ok (.getfield 144, 3) := by decide +kernel
theorem dX12_judge_76 : decode cX12_judge 76 = .ok (.bipush 20, 2) := by decide +kernel
theorem dX12_judge_78 : decode cX12_judge 78 = .ok (.iload_n 1, 1) := by decide +kernel
theorem dX12_judge_79 : decode cX12_judge 79 = .ok (.imul, 1) := by decide +kernel
theorem dX12_judge_80 : decode cX12_judge 80 = .ok (.iload_n 3, 1) := by decide +kernel
theorem dX12_judge_81 : decode cX12_judge 81 = .ok (.iadd, 1) := by decide +kernel
theorem dX12_judge_82 : decode cX12_judge 82 = .ok (.laload, 1) := by decide +kernel
theorem dX12_judge_83 : decode cX12_judge 83 = .ok (.lcmp, 1) := by decide +kernel
theorem dX12_judge_84 : decode cX12_judge 84 = .ok (.ifCond .eq 5, 3) := by decide +kernel
theorem dX12_judge_87 : decode cX12_judge 87 = .ok (.iload_n 3, 1) := by decide +kernel
theorem dX12_judge_88 : decode cX12_judge 88 = .ok (.ireturn, 1) := by decide +kernel
theorem dX12_judge_89 : decode cX12_judge 89 = .ok (.iinc 3 1, 3) := by decide +kernel
theorem dX12_judge_92 : decode cX12_judge 92 = .ok (.goto (-42), 3) := by decide +kernel
theorem dX12_judge_95 : decode cX12_judge 95 = .ok (.iload_n 2, 1) := by decide +kernel
theorem dX12_judge_96 : decode cX12_judge 96 = .ok (.aload_n 0, 1) := by decide +kernel
theorem dX12_judge_97 : decode cX12_judge 97 = .ok (.getfield 89, 3) := by decide +kernel
theorem dX12_judge_100 : decode cX12_judge 100 = .ok (.if_icmp .ge 10, 3) := by decide +kernel
theorem dX12_judge_103 : decode cX12_judge 103 = .ok (.bipush 100, 2) := by decide +kernel
theorem dX12_judge_105 : decode cX12_judge 105 = .ok (.iload_n 2, 1) := by decide +kernel
theorem dX12_judge_106 : decode cX12_judge 106 = .ok (.iadd, 1) := by decide +kernel
theorem dX12_judge_107 : decode cX12_judge 107 = .ok (.goto 5, 3) := by decide +kernel
theorem dX12_judge_110 : decode cX12_judge 110 = .ok (.bipush (-2), 2) := by decide +kernel
theorem dX12_judge_112 : decode cX12_judge 112 = .ok (.ireturn, 1) := by decide +kernel
set_option maxHeartbeats 4000000 in
set_option maxRecDepth 100000 in
theorem cn_X12_judge {l : Launch} {cA : Nat → ClassId} {ad : Nat → Nat} {D : va_G} {E : Nat → Nat} {A : Nat → Prop} {x1 : Int32} {s0 sr : SS} {rr : Int32} (hf : f_X12_judge x1 s0 = some (rr, sr)) : zCon Om Nm cA ad D E l yX12_judge cX12_judge 4 (some .int) 5 A [.ref (ad 0), .int x1] s0 (some (.int rr)) sr := by
  refine zstart (own := RX12) hOm (by decide) rfl (Nat.le_of_ble_eq_true rfl) ?_
  intro p e s m args below meth c X hP ls hl
  have hx := X.1
  have hb := X.2.1
  have hl : lv_has ls 4 [(0, .ref (ad 0)), (1, .int x1)] := hl
  have hS : va_S A s.heap s.heap [] := va_S.rf
  have hc_50 : ∀ (n50 : Nat) (x1 : Int32) (x2 : Int32) (x3 : Int32) (s1 : SS) (H : Heap) (locs : List Loc) (ls : Array Slot), lv_has ls 4 [(0, .ref (ad 0)), (1, .int x1), (2, .int x2), (3, .int x3)] → va_P D ZCL (zw Om Nm cA ad s1) H → va_S A s.heap H locs → f_X12_judge_c50 n50 x1 x2 x3 s1 = some (rr, sr) → W p l e (zrm 5) s m args below meth c H locs 0 0 (MQ below (zQc Om Nm cA ad D A (some (.int rr)) sr) args s 0 0 A) (F0 m 50 ls []) := by
    intro n50
    induction n50 with
    | zero =>
      intro x1 x2 x3 s1 H locs ls hl hP hS hf
      rw [f_X12_judge_c50] at hf
      cases hf
    | succ n50 ih50 =>
      intro x1 x2 x3 s1 H locs ls hl hP hS hf
      rw [f_X12_judge_c50] at hf
      refine lv_iload_n hx hb dX12_judge_50 rfl (lv_at hl 3 rfl) ?_
      refine lv_iload_n hx hb dX12_judge_51 rfl (lv_at hl 2 rfl) ?_
      refine zicmp_ge (tgt := 95) hx hb dX12_judge_52 (by decide) hf (fun hf => ?_) (fun hf => ?_)
      · refine lv_iload_n hx hb dX12_judge_95 rfl (lv_at hl 2 rfl) ?_
        refine lv_aload_n hx hb dX12_judge_96 rfl (lv_at hl 0 rfl) ?_
        refine gf_X12_89 X hP (k := 0) rfl dX12_judge_97 ?_
        refine zicmp_ge (tgt := 110) hx hb dX12_judge_100 (by decide) hf (fun hf => ?_) (fun hf => ?_)
        · refine lv_bipush (v := (-2)) hx hb dX12_judge_110 (by decide) ?_
          exact zret_i X hP hS hf rfl dX12_judge_112
        · refine lv_bipush (v := 100) hx hb dX12_judge_103 (by decide) ?_
          refine lv_iload_n hx hb dX12_judge_105 rfl (lv_at hl 2 rfl) ?_
          refine lv_iadd hx hb dX12_judge_106 ?_
          refine lv_goto (tgt := 112) hx hb dX12_judge_107 (by decide) ?_
          exact zret_i X hP hS hf rfl dX12_judge_112
      · refine lv_aload_n hx hb dX12_judge_55 rfl (lv_at hl 0 rfl) ?_
        refine lv_iload_n hx hb dX12_judge_56 rfl (lv_at hl 3 rfl) ?_
        refine lv_aload_n hx hb dX12_judge_57 rfl (lv_at hl 0 rfl) ?_
        refine gf_X12_111 X hP (k := 0) (q := 13) rfl dX12_judge_58 rfl ?_
        obtain ⟨r6, s7, h8, hf⟩ := zbd_some hf
        refine zcallV X hP hS hl.1 (k := 0) (As := [.int x3, .ref (ad 13)]) (rest := []) (cn_X12_layClass h8) cw_X12_layClass zp_12 rfl (by decide) rfl ml_X12_264 (by decide) rfl rfl (Nat.le_of_ble_eq_true rfl) dX12_judge_61 (fun H locs hP hS => ?_)
        refine lv_aload_n hx hb dX12_judge_64 rfl (lv_at hl 0 rfl) ?_
        refine lv_aload_n hx hb dX12_judge_65 rfl (lv_at hl 0 rfl) ?_
        refine gf_X12_111 X hP (k := 0) (q := 13) rfl dX12_judge_66 rfl ?_
        obtain ⟨r9, s10, h11, hf⟩ := zbd_some hf
        refine zcallV X hP hS hl.1 (k := 0) (As := [.ref (ad 13)]) (rest := []) (cn_X12_metOf h11) cw_X12_metOf zp_12 rfl (by decide) rfl ml_X12_268 (by decide) rfl rfl (Nat.le_of_ble_eq_true rfl) dX12_judge_69 (fun H locs hP hS => ?_)
        refine lv_aload_n hx hb dX12_judge_72 rfl (lv_at hl 0 rfl) ?_
        refine gf_X12_144 X hP (k := 0) (q := 24) rfl dX12_judge_73 rfl ?_
        refine lv_bipush (v := 20) hx hb dX12_judge_76 (by decide) ?_
        refine lv_iload_n hx hb dX12_judge_78 rfl (lv_at hl 1 rfl) ?_
        refine lv_imul hx hb dX12_judge_79 ?_
        refine lv_iload_n hx hb dX12_judge_80 rfl (lv_at hl 3 rfl) ?_
        refine lv_iadd hx hb dX12_judge_81 ?_
        obtain ⟨g12, hf⟩ := zgd hf
        refine zald_l X hP (k := 24) (n := 60) (rs := []) rfl g12 dX12_judge_82 ?_
        refine W.lcmp hx hb dX12_judge_83 ?_
        refine zif_eq (tgt := 89) hx hb dX12_judge_84 (by decide) hf (fun hf => ?_) (fun hf => ?_)
        · refine lv_iinc (v := (x3 + 1)) (lv' := [(3, .int (x3 + 1)), (0, .ref (ad 0)), (1, .int x1), (2, .int x2)]) hx hb dX12_judge_89 hl (k := 3) rfl rfl (by decide) rfl (fun ls hl => ?_)
          refine lv_goto (tgt := 50) hx hb dX12_judge_92 (by decide) ?_
          exact ih50 x1 x2 (x3 + 1) s10 _ _ _ (lv_sub hl [1, 2, 3, 0] rfl) hP hS hf
        · refine lv_iload_n hx hb dX12_judge_87 rfl (lv_at hl 3 rfl) ?_
          exact zret_i X hP hS hf rfl dX12_judge_88
  have hc_47 : ∀ (x1 : Int32) (t0 : Int32) (s1 : SS) (H : Heap) (locs : List Loc) (ls : Array Slot), lv_has ls 4 [(0, .ref (ad 0)), (1, .int x1)] → va_P D ZCL (zw Om Nm cA ad s1) H → va_S A s.heap H locs → f_X12_judge_c47 x1 t0 s1 = some (rr, sr) → W p l e (zrm 5) s m args below meth c H locs 0 0 (MQ below (zQc Om Nm cA ad D A (some (.int rr)) sr) args s 0 0 A) (F0 m 47 ls [.int t0]) := by
    intro x1 t0 s1 H locs ls hl hP hS hf
    rw [f_X12_judge_c47] at hf
    refine lv_istore_n (lv' := [(2, .int t0), (0, .ref (ad 0)), (1, .int x1)]) hx hb dX12_judge_47 rfl hl (by decide) rfl (fun ls hl => ?_)
    refine lv_iconst (v := 0) hx hb dX12_judge_48 (by decide) ?_
    refine lv_istore_n (lv' := [(3, .int 0), (2, .int t0), (0, .ref (ad 0)), (1, .int x1)]) hx hb dX12_judge_49 rfl hl (by decide) rfl (fun ls hl => ?_)
    exact hc_50 ZF x1 t0 0 s1 _ _ _ (lv_sub hl [2, 3, 1, 0] rfl) hP hS hf
  rw [f_X12_judge] at hf
  refine lv_iload_n hx hb dX12_judge_0 rfl (lv_at hl 1 rfl) ?_
  obtain ⟨r1, s2, h3, hf⟩ := zbd_some hf
  refine zcallS X hP hS hl.1 (As := [.int x1]) (rest := []) (cn_X12_isList h3) cw_X12_isList ml_X12_275 (by decide) rfl rfl (Nat.le_of_ble_eq_true rfl) dX12_judge_1 (fun H locs hP hS => ?_)
  refine zif_ne (tgt := 9) hx hb dX12_judge_4 (by decide) hf (fun hf => ?_) (fun hf => ?_)
  · refine lv_aload_n hx hb dX12_judge_9 rfl (lv_at hl 0 rfl) ?_
    refine gf_X12_138 X hP (k := 0) (q := 22) rfl dX12_judge_10 rfl ?_
    refine lv_iload_n hx hb dX12_judge_13 rfl (lv_at hl 1 rfl) ?_
    obtain ⟨g4, hf⟩ := zgd hf
    refine zald_i X hP (k := 22) (n := 3) (rs := []) rfl g4 dX12_judge_14 ?_
    refine zif_ge (tgt := 21) hx hb dX12_judge_15 (by decide) hf (fun hf => ?_) (fun hf => ?_)
    · refine lv_aload_n hx hb dX12_judge_21 rfl (lv_at hl 0 rfl) ?_
      refine gf_X12_141 X hP (k := 0) (q := 23) rfl dX12_judge_22 rfl ?_
      refine lv_iload_n hx hb dX12_judge_25 rfl (lv_at hl 1 rfl) ?_
      obtain ⟨g5, hf⟩ := zgd hf
      refine zald_i X hP (k := 23) (n := 3) (rs := []) rfl g5 dX12_judge_26 ?_
      refine lv_aload_n hx hb dX12_judge_27 rfl (lv_at hl 0 rfl) ?_
      refine gf_X12_89 X hP (k := 0) rfl dX12_judge_28 ?_
      refine zicmp_ge (tgt := 43) hx hb dX12_judge_31 (by decide) hf (fun hf => ?_) (fun hf => ?_)
      · refine lv_aload_n hx hb dX12_judge_43 rfl (lv_at hl 0 rfl) ?_
        refine gf_X12_89 X hP (k := 0) rfl dX12_judge_44 ?_
        exact hc_47 x1 (s2.1 0 12) s2 _ _ _ (lv_sub hl [0, 1] rfl) hP hS hf
      · refine lv_aload_n hx hb dX12_judge_34 rfl (lv_at hl 0 rfl) ?_
        refine gf_X12_141 X hP (k := 0) (q := 23) rfl dX12_judge_35 rfl ?_
        refine lv_iload_n hx hb dX12_judge_38 rfl (lv_at hl 1 rfl) ?_
        obtain ⟨g13, hf⟩ := zgd hf
        refine zald_i X hP (k := 23) (n := 3) (rs := []) rfl g13 dX12_judge_39 ?_
        refine lv_goto (tgt := 47) hx hb dX12_judge_40 (by decide) ?_
        exact hc_47 x1 (s2.1 23 (x1).toNatClampNeg) s2 _ _ _ (lv_sub hl [0, 1] rfl) hP hS hf
    · refine lv_bipush (v := (-11)) hx hb dX12_judge_18 (by decide) ?_
      exact zret_i X hP hS hf rfl dX12_judge_20
  · refine lv_iconst (v := (-1)) hx hb dX12_judge_7 (by decide) ?_
    exact zret_i X hP hS hf rfl dX12_judge_8
theorem dX12_draw_0 : decode cX12_draw 0 = .ok (.aload_n 0, 1) := by decide +kernel
theorem dX12_draw_1 : decode cX12_draw 1 = .ok (.aload_n 0, 1) := by decide +kernel
theorem dX12_draw_2 : decode cX12_draw 2 = .ok (.getfield 321, 3) := by decide +kernel
theorem dX12_draw_5 : decode cX12_draw 5 = .ok (.ldc_w 324, 3) := by decide +kernel
theorem dX12_draw_8 : decode cX12_draw 8 = .ok (.imul, 1) := by decide +kernel
theorem dX12_draw_9 : decode cX12_draw 9 = .ok (.sipush 12345, 3) := by decide +kernel
theorem dX12_draw_12 : decode cX12_draw 12 = .ok (.iadd, 1) := by decide +kernel
theorem dX12_draw_13 : decode cX12_draw 13 = .ok (.putfield 321, 3) := by decide +kernel
theorem dX12_draw_16 : decode cX12_draw 16 = .ok (.aload_n 0, 1) := by decide +kernel
theorem dX12_draw_17 : decode cX12_draw 17 = .ok (.getfield 321, 3) := by decide +kernel
theorem dX12_draw_20 : decode cX12_draw 20 = .ok (.ldc_w 325, 3) := by decide +kernel
theorem dX12_draw_23 : decode cX12_draw 23 = .ok (.iand, 1) := by decide +kernel
theorem dX12_draw_24 : decode cX12_draw 24 = .ok (.ldc_w 326, 3) := by decide +kernel
theorem dX12_draw_27 : decode cX12_draw 27 = .ok (.idiv, 1) := by decide +kernel
theorem dX12_draw_28 : decode cX12_draw 28 = .ok (.iload_n 1, 1) := by decide +kernel
theorem dX12_draw_29 : decode cX12_draw 29 = .ok (.irem, 1) := by decide +kernel
theorem dX12_draw_30 : decode cX12_draw 30 = .ok (.ireturn, 1) := by decide +kernel
set_option maxHeartbeats 4000000 in
set_option maxRecDepth 100000 in
theorem cn_X12_draw {l : Launch} {cA : Nat → ClassId} {ad : Nat → Nat} {D : va_G} {E : Nat → Nat} {A : Nat → Prop} {x1 : Int32} {s0 sr : SS} {rr : Int32} (hf : f_X12_draw x1 s0 = some (rr, sr)) : zCon Om Nm cA ad D E l yX12_draw cX12_draw 2 (some .int) 0 A [.ref (ad 0), .int x1] s0 (some (.int rr)) sr := by
  refine zstart (own := RX12) hOm (by decide) rfl (Nat.le_of_ble_eq_true rfl) ?_
  intro p e s m args below meth c X hP ls hl
  have hx := X.1
  have hb := X.2.1
  have hl : lv_has ls 2 [(0, .ref (ad 0)), (1, .int x1)] := hl
  have hS : va_S A s.heap s.heap [] := va_S.rf
  rw [f_X12_draw] at hf
  refine lv_aload_n hx hb dX12_draw_0 rfl (lv_at hl 0 rfl) ?_
  refine lv_aload_n hx hb dX12_draw_1 rfl (lv_at hl 0 rfl) ?_
  refine gf_X12_321 X hP (k := 0) rfl dX12_draw_2 ?_
  refine zldcw X co_X12_324 dX12_draw_5 ?_
  refine lv_imul hx hb dX12_draw_8 ?_
  refine lv_sipush (v := 12345) hx hb dX12_draw_9 (by decide) ?_
  refine lv_iadd hx hb dX12_draw_12 ?_
  refine pf_X12_321 X hP hS (k := 0) rfl dX12_draw_13 (fun H locs hP hS => ?_)
  refine lv_aload_n hx hb dX12_draw_16 rfl (lv_at hl 0 rfl) ?_
  refine gf_X12_321 X hP (k := 0) rfl dX12_draw_17 ?_
  refine zldcw X co_X12_325 dX12_draw_20 ?_
  refine lv_iand hx hb dX12_draw_23 ?_
  refine zldcw X co_X12_326 dX12_draw_24 ?_
  refine lv_idiv hx hb dX12_draw_27 (by decide) ?_
  refine lv_iload_n hx hb dX12_draw_28 rfl (lv_at hl 1 rfl) ?_
  obtain ⟨z1, hf⟩ := zgp hf
  refine lv_irem hx hb dX12_draw_29 z1 ?_
  exact zret_i X hP hS hf rfl dX12_draw_30
theorem dX12_lots_0 : decode cX12_lots 0 = .ok (.iload_n 1, 1) := by decide +kernel
theorem dX12_lots_1 : decode cX12_lots 1 = .ok (.i2l, 1) := by decide +kernel
theorem dX12_lots_2 : decode cX12_lots 2 = .ok (.lconst 1, 1) := by decide +kernel
theorem dX12_lots_3 : decode cX12_lots 3 = .ok (.ldc2_w 327, 3) := by decide +kernel
theorem dX12_lots_6 : decode cX12_lots 6 = .ok (.invokestatic 203, 3) := by decide +kernel
theorem dX12_lots_9 : decode cX12_lots 9 = .ok (.ifCond .eq 13, 3) := by decide +kernel
theorem dX12_lots_12 : decode cX12_lots 12 = .ok (.iload_n 3, 1) := by decide +kernel
theorem dX12_lots_13 : decode cX12_lots 13 = .ok (.i2l, 1) := by decide +kernel
theorem dX12_lots_14 : decode cX12_lots 14 = .ok (.lconst 0, 1) := by decide +kernel
theorem dX12_lots_15 : decode cX12_lots 15 = .ok (.lconst 1, 1) := by decide +kernel
theorem dX12_lots_16 : decode cX12_lots 16 = .ok (.invokestatic 203, 3) := by decide +kernel
theorem dX12_lots_19 : decode cX12_lots 19 = .ok (.ifCond .ne 7, 3) := by decide +kernel
theorem dX12_lots_22 : decode cX12_lots 22 = .ok (.ldc2_w 220, 3) := by decide +kernel
theorem dX12_lots_25 : decode cX12_lots 25 = .ok (.lreturn, 1) := by decide +kernel
theorem dX12_lots_26 : decode cX12_lots 26 = .ok (.aload_n 0, 1) := by decide +kernel
theorem dX12_lots_27 : decode cX12_lots 27 = .ok (.getfield 89, 3) := by decide +kernel
theorem dX12_lots_30 : decode cX12_lots 30 = .ok (.ifCond .ne 7, 3) := by decide +kernel
theorem dX12_lots_33 : decode cX12_lots 33 = .ok (.ldc2_w 287, 3) := by decide +kernel
theorem dX12_lots_36 : decode cX12_lots 36 = .ok (.lreturn, 1) := by decide +kernel
theorem dX12_lots_37 : decode cX12_lots 37 = .ok (.aload_n 0, 1) := by decide +kernel
theorem dX12_lots_38 : decode cX12_lots 38 = .ok (.iload_n 2, 1) := by decide +kernel
theorem dX12_lots_39 : decode cX12_lots 39 = .ok (.putfield 321, 3) := by decide +kernel
theorem dX12_lots_42 : decode cX12_lots 42 = .ok (.lconst 0, 1) := by decide +kernel
theorem dX12_lots_43 : decode cX12_lots 43 = .ok (.lstore 4, 2) := by decide +kernel
theorem dX12_lots_45 : decode cX12_lots 45 = .ok (.lconst 0, 1) := by decide +kernel
theorem dX12_lots_46 : decode cX12_lots 46 = .ok (.lstore 6, 2) := by decide +kernel
theorem dX12_lots_48 : decode cX12_lots 48 = .ok (.iconst 0, 1) := by decide +kernel
theorem dX12_lots_49 : decode cX12_lots 49 = .ok (.istore 8, 2) := by decide +kernel
theorem dX12_lots_51 : decode cX12_lots 51 = .ok (.iload 8, 2) := by decide +kernel
theorem dX12_lots_53 : decode cX12_lots 53 = .ok (.iload_n 1, 1) := by decide +kernel
theorem dX12_lots_54 : decode cX12_lots 54 = .ok (.if_icmp .ge 97, 3) := by decide +kernel
theorem dX12_lots_57 : decode cX12_lots 57 = .ok (.aload_n 0, 1) := by decide +kernel
theorem dX12_lots_58 : decode cX12_lots 58 = .ok (.aload_n 0, 1) := by decide +kernel
theorem dX12_lots_59 : decode cX12_lots 59 = .ok (.getfield 111, 3) := by decide +kernel
theorem dX12_lots_62 : decode cX12_lots 62 = .ok (.invokevirtual 278, 3) := by decide +kernel
theorem dX12_lots_65 : decode cX12_lots 65 = .ok (.iconst 0, 1) := by decide +kernel
theorem dX12_lots_66 : decode cX12_lots 66 = .ok (.istore 9, 2) := by decide +kernel
theorem dX12_lots_68 : decode cX12_lots 68 = .ok (.iload 9, 2) := by decide +kernel
theorem dX12_lots_70 : decode cX12_lots 70 = .ok (.aload_n 0, 1) := by decide +kernel
theorem dX12_lots_71 : decode cX12_lots 71 = .ok (.getfield 27, 3) := by decide +kernel
theorem dX12_lots_74 : decode cX12_lots 74 = .ok (.if_icmp .ge 37, 3) := by decide +kernel
theorem dX12_lots_77 : decode cX12_lots 77 = .ok (.aload_n 0, 1) := by decide +kernel
theorem dX12_lots_78 : decode cX12_lots 78 = .ok (.aload_n 0, 1) := by decide +kernel
theorem dX12_lots_79 : decode cX12_lots 79 = .ok (.aload_n 0, 1) := by decide +kernel
theorem dX12_lots_80 : decode cX12_lots 80 = .ok (.getfield 89, 3) := by decide +kernel
theorem dX12_lots_83 : decode cX12_lots 83 = .ok (.invokevirtual 329, 3) := by decide +kernel
theorem dX12_lots_86 : decode cX12_lots 86 = .ok (.aload_n 0, 1) := by decide +kernel
theorem dX12_lots_87 : decode cX12_lots 87 = .ok (.getfield 114, 3) := by decide +kernel
theorem dX12_lots_90 : decode cX12_lots 90 = .ok (.invokevirtual 264, 3) := by decide +kernel
theorem dX12_lots_93 : decode cX12_lots 93 = .ok (.aload_n 0, 1) := by decide +kernel
theorem dX12_lots_94 : decode cX12_lots 94 = .ok (.aload_n 0, 1) := by decide +kernel
theorem dX12_lots_95 : decode cX12_lots 95 = .ok (.getfield 111, 3) := by decide +kernel
theorem dX12_lots_98 : decode cX12_lots 98 = .ok (.aload_n 0, 1) := by decide +kernel
theorem dX12_lots_99 : decode cX12_lots 99 = .ok (.getfield 114, 3) := by decide +kernel
theorem dX12_lots_102 : decode cX12_lots 102 = .ok (.invokevirtual 272, 3) := by decide +kernel
theorem dX12_lots_105 : decode cX12_lots 105 = .ok (.iinc 9 1, 3) := by decide +kernel
theorem dX12_lots_108 : decode cX12_lots 108 = .ok (.goto (-40), 3) := by decide +kernel
theorem dX12_lots_111 : decode cX12_lots 111 = .ok (.aload_n 0, 1) := by decide +kernel
theorem dX12_lots_112 : decode cX12_lots 112 = .ok (.aload_n 0, 1) := by decide +kernel
theorem dX12_lots_113 : decode cX12_lots 113 = .ok (.getfield 111, 3) := by decide +kernel
theorem dX12_lots_116 : decode cX12_lots 116 = .ok (.invokevirtual 268, 3) := by decide +kernel
theorem dX12_lots_119 : decode cX12_lots 119 = .ok (.lstore 9, 2) := by decide +kernel
theorem dX12_lots_121 : decode cX12_lots 121 = .ok (.lload 4, 2) := by decide +kernel
theorem dX12_lots_123 : decode cX12_lots 123 = .ok (.lload 9, 2) := by decide +kernel
theorem dX12_lots_125 : decode cX12_lots 125 = .ok (.ladd, 1) := by decide +kernel
theorem dX12_lots_126 : decode cX12_lots 126 = .ok (.lstore 4, 2) := by decide +kernel
theorem dX12_lots_128 : decode cX12_lots 128 = .ok (.lload 6, 2) := by decide +kernel
theorem dX12_lots_130 : decode cX12_lots 130 = .ok (.lload 9, 2) := by decide +kernel
theorem dX12_lots_132 : decode cX12_lots 132 = .ok (.lconst 0, 1) := by decide +kernel
theorem dX12_lots_133 : decode cX12_lots 133 = .ok (.lcmp, 1) := by decide +kernel
theorem dX12_lots_134 : decode cX12_lots 134 = .ok (.ifCond .ne 7, 3) := by decide +kernel
theorem dX12_lots_137 : decode cX12_lots 137 = .ok (.lconst 1, 1) := by decide +kernel
theorem dX12_lots_138 : decode cX12_lots 138 = .ok (.goto 4, 3) := by decide +kernel
theorem dX12_lots_141 : decode cX12_lots 141 = .ok (.lconst 0, 1) := by decide +kernel
theorem dX12_lots_142 : decode cX12_lots 142 = .ok (.ladd, 1) := by decide +kernel
theorem dX12_lots_143 : decode cX12_lots 143 = .ok (.lstore 6, 2) := by decide +kernel
theorem dX12_lots_145 : decode cX12_lots 145 = .ok (.iinc 8 1, 3) := by decide +kernel
theorem dX12_lots_148 : decode cX12_lots 148 = .ok (.goto (-97), 3) := by decide +kernel
theorem dX12_lots_151 : decode cX12_lots 151 = .ok (.iload_n 3, 1) := by decide +kernel
theorem dX12_lots_152 : decode cX12_lots 152 = .ok (.ifCond .ne 8, 3) := by decide +kernel
theorem dX12_lots_155 : decode cX12_lots 155 = .ok (.lload 4, 2) := by decide +kernel
theorem dX12_lots_157 : decode cX12_lots 157 = .ok (.goto 5, 3) := by decide +kernel
theorem dX12_lots_160 : decode cX12_lots 160 = .ok (.lload 6, 2) := by decide +kernel
theorem dX12_lots_162 : decode cX12_lots 162 = .ok (.lreturn, 1) := by decide +kernel
set_option maxHeartbeats 4000000 in
set_option maxRecDepth 100000 in
theorem cn_X12_lots {l : Launch} {cA : Nat → ClassId} {ad : Nat → Nat} {D : va_G} {E : Nat → Nat} {A : Nat → Prop} {x1 : Int32} {x2 : Int32} {x3 : Int32} {s0 sr : SS} {rr : Int64} (hf : f_X12_lots x1 x2 x3 s0 = some (rr, sr)) : zCon Om Nm cA ad D E l yX12_lots cX12_lots 11 (some .long) 5 A [.ref (ad 0), .int x1, .int x2, .int x3] s0 (some (.long rr)) sr := by
  refine zstart (own := RX12) hOm (by decide) rfl (Nat.le_of_ble_eq_true rfl) ?_
  intro p e s m args below meth c X hP ls hl
  have hx := X.1
  have hb := X.2.1
  have hl : lv_has ls 11 [(0, .ref (ad 0)), (1, .int x1), (2, .int x2), (3, .int x3)] := hl
  have hS : va_S A s.heap s.heap [] := va_S.rf
  have hc_51 : ∀ (n51 : Nat) (x1 : Int32) (x3 : Int32) (x4 : Int64) (x6 : Int64) (x8 : Int32) (s1 : SS) (H : Heap) (locs : List Loc) (ls : Array Slot), lv_has ls 11 [(0, .ref (ad 0)), (1, .int x1), (3, .int x3), (4, .long x4), (6, .long x6), (8, .int x8)] → va_P D ZCL (zw Om Nm cA ad s1) H → va_S A s.heap H locs → f_X12_lots_c51 n51 x1 x3 x4 x6 x8 s1 = some (rr, sr) → W p l e (zrm 5) s m args below meth c H locs 0 0 (MQ below (zQc Om Nm cA ad D A (some (.long rr)) sr) args s 0 0 A) (F0 m 51 ls []) := by
    intro n51
    induction n51 with
    | zero =>
      intro x1 x3 x4 x6 x8 s1 H locs ls hl hP hS hf
      rw [f_X12_lots_c51] at hf
      cases hf
    | succ n51 ih51 =>
      have hc_68 : ∀ (n68 : Nat) (x1 : Int32) (x3 : Int32) (x4 : Int64) (x6 : Int64) (x8 : Int32) (x9 : Int32) (s1 : SS) (H : Heap) (locs : List Loc) (ls : Array Slot), lv_has ls 11 [(0, .ref (ad 0)), (1, .int x1), (3, .int x3), (4, .long x4), (6, .long x6), (8, .int x8), (9, .int x9)] → va_P D ZCL (zw Om Nm cA ad s1) H → va_S A s.heap H locs → f_X12_lots_c68 (f_X12_lots_c51 n51) n68 x1 x3 x4 x6 x8 x9 s1 = some (rr, sr) → W p l e (zrm 5) s m args below meth c H locs 0 0 (MQ below (zQc Om Nm cA ad D A (some (.long rr)) sr) args s 0 0 A) (F0 m 68 ls []) := by
        intro n68
        induction n68 with
        | zero =>
          intro x1 x3 x4 x6 x8 x9 s1 H locs ls hl hP hS hf
          rw [f_X12_lots_c68] at hf
          cases hf
        | succ n68 ih68 =>
          have hc_142 : ∀ (x1 : Int32) (x3 : Int32) (x4 : Int64) (x8 : Int32) (t0 : Int64) (t1 : Int64) (s1 : SS) (H : Heap) (locs : List Loc) (ls : Array Slot), lv_has ls 11 [(0, .ref (ad 0)), (1, .int x1), (3, .int x3), (4, .long x4), (8, .int x8)] → va_P D ZCL (zw Om Nm cA ad s1) H → va_S A s.heap H locs → f_X12_lots_c142 (f_X12_lots_c51 n51) x1 x3 x4 x8 t0 t1 s1 = some (rr, sr) → W p l e (zrm 5) s m args below meth c H locs 0 0 (MQ below (zQc Om Nm cA ad D A (some (.long rr)) sr) args s 0 0 A) (F0 m 142 ls [.long t0, .long t1]) := by
            intro x1 x3 x4 x8 t0 t1 s1 H locs ls hl hP hS hf
            rw [f_X12_lots_c142] at hf
            refine lv_ladd hx hb dX12_lots_142 ?_
            refine lv_lstore (lv' := [(6, .long (t1 + t0)), (0, .ref (ad 0)), (1, .int x1), (3, .int x3), (4, .long x4), (8, .int x8)]) hx hb dX12_lots_143 hl (by decide) rfl (fun ls hl => ?_)
            refine lv_iinc (v := (x8 + 1)) (lv' := [(8, .int (x8 + 1)), (6, .long (t1 + t0)), (0, .ref (ad 0)), (1, .int x1), (3, .int x3), (4, .long x4)]) hx hb dX12_lots_145 hl (k := 5) rfl rfl (by decide) rfl (fun ls hl => ?_)
            refine lv_goto (tgt := 51) hx hb dX12_lots_148 (by decide) ?_
            exact ih51 x1 x3 x4 (t1 + t0) (x8 + 1) s1 _ _ _ (lv_sub hl [2, 3, 4, 5, 1, 0] rfl) hP hS hf
          intro x1 x3 x4 x6 x8 x9 s1 H locs ls hl hP hS hf
          rw [f_X12_lots_c68] at hf
          refine lv_iload hx hb dX12_lots_68 (lv_at hl 6 rfl) ?_
          refine lv_aload_n hx hb dX12_lots_70 rfl (lv_at hl 0 rfl) ?_
          refine gf_X12_27 X hP (k := 0) rfl dX12_lots_71 ?_
          refine zicmp_ge (tgt := 111) hx hb dX12_lots_74 (by decide) hf (fun hf => ?_) (fun hf => ?_)
          · refine lv_aload_n hx hb dX12_lots_111 rfl (lv_at hl 0 rfl) ?_
            refine lv_aload_n hx hb dX12_lots_112 rfl (lv_at hl 0 rfl) ?_
            refine gf_X12_111 X hP (k := 0) (q := 13) rfl dX12_lots_113 rfl ?_
            obtain ⟨r10, s11, h12, hf⟩ := zbd_some hf
            refine zcallV X hP hS hl.1 (k := 0) (As := [.ref (ad 13)]) (rest := []) (cn_X12_metOf h12) cw_X12_metOf zp_12 rfl (by decide) rfl ml_X12_268 (by decide) rfl rfl (Nat.le_of_ble_eq_true rfl) dX12_lots_116 (fun H locs hP hS => ?_)
            refine lv_lstore (lv' := [(9, .long r10), (0, .ref (ad 0)), (1, .int x1), (3, .int x3), (4, .long x4), (6, .long x6), (8, .int x8)]) hx hb dX12_lots_119 hl (by decide) rfl (fun ls hl => ?_)
            refine lv_lload hx hb dX12_lots_121 (lv_at hl 4 rfl) ?_
            refine lv_lload hx hb dX12_lots_123 (lv_at hl 0 rfl) ?_
            refine lv_ladd hx hb dX12_lots_125 ?_
            refine lv_lstore (lv' := [(4, .long (x4 + r10)), (9, .long r10), (0, .ref (ad 0)), (1, .int x1), (3, .int x3), (6, .long x6), (8, .int x8)]) hx hb dX12_lots_126 hl (by decide) rfl (fun ls hl => ?_)
            refine lv_lload hx hb dX12_lots_128 (lv_at hl 5 rfl) ?_
            refine lv_lload hx hb dX12_lots_130 (lv_at hl 1 rfl) ?_
            refine lv_lconst (v := 0) hx hb dX12_lots_132 (by decide) ?_
            refine W.lcmp hx hb dX12_lots_133 ?_
            refine zif_ne (tgt := 141) hx hb dX12_lots_134 (by decide) hf (fun hf => ?_) (fun hf => ?_)
            · refine lv_lconst (v := 0) hx hb dX12_lots_141 (by decide) ?_
              exact hc_142 x1 x3 (x4 + r10) x8 0 x6 s11 _ _ _ (lv_sub hl [2, 3, 4, 0, 6] rfl) hP hS hf
            · refine lv_lconst (v := 1) hx hb dX12_lots_137 (by decide) ?_
              refine lv_goto (tgt := 142) hx hb dX12_lots_138 (by decide) ?_
              exact hc_142 x1 x3 (x4 + r10) x8 1 x6 s11 _ _ _ (lv_sub hl [2, 3, 4, 0, 6] rfl) hP hS hf
          · refine lv_aload_n hx hb dX12_lots_77 rfl (lv_at hl 0 rfl) ?_
            refine lv_aload_n hx hb dX12_lots_78 rfl (lv_at hl 0 rfl) ?_
            refine lv_aload_n hx hb dX12_lots_79 rfl (lv_at hl 0 rfl) ?_
            refine gf_X12_89 X hP (k := 0) rfl dX12_lots_80 ?_
            obtain ⟨r13, s14, h15, hf⟩ := zbd_some hf
            refine zcallV X hP hS hl.1 (k := 0) (As := [.int (s1.1 0 12)]) (rest := [.ref (ad 0)]) (cn_X12_draw h15) cw_X12_draw zp_12 rfl (by decide) rfl ml_X12_329 (by decide) rfl rfl (Nat.le_of_ble_eq_true rfl) dX12_lots_83 (fun H locs hP hS => ?_)
            refine lv_aload_n hx hb dX12_lots_86 rfl (lv_at hl 0 rfl) ?_
            refine gf_X12_114 X hP (k := 0) (q := 14) rfl dX12_lots_87 rfl ?_
            obtain ⟨r16, s17, h18, hf⟩ := zbd_some hf
            refine zcallV X hP hS hl.1 (k := 0) (As := [.int r13, .ref (ad 14)]) (rest := []) (cn_X12_layClass h18) cw_X12_layClass zp_12 rfl (by decide) rfl ml_X12_264 (by decide) rfl rfl (Nat.le_of_ble_eq_true rfl) dX12_lots_90 (fun H locs hP hS => ?_)
            refine lv_aload_n hx hb dX12_lots_93 rfl (lv_at hl 0 rfl) ?_
            refine lv_aload_n hx hb dX12_lots_94 rfl (lv_at hl 0 rfl) ?_
            refine gf_X12_111 X hP (k := 0) (q := 13) rfl dX12_lots_95 rfl ?_
            refine lv_aload_n hx hb dX12_lots_98 rfl (lv_at hl 0 rfl) ?_
            refine gf_X12_114 X hP (k := 0) (q := 14) rfl dX12_lots_99 rfl ?_
            obtain ⟨r19, s20, h21, hf⟩ := zbd_some hf
            refine zcallV X hP hS hl.1 (k := 0) (As := [.ref (ad 13), .ref (ad 14)]) (rest := []) (cn_X12_multiply h21) cw_X12_multiply zp_12 rfl (by decide) rfl ml_X12_272 (by decide) rfl rfl (Nat.le_of_ble_eq_true rfl) dX12_lots_102 (fun H locs hP hS => ?_)
            refine lv_iinc (v := (x9 + 1)) (lv' := [(9, .int (x9 + 1)), (0, .ref (ad 0)), (1, .int x1), (3, .int x3), (4, .long x4), (6, .long x6), (8, .int x8)]) hx hb dX12_lots_105 hl (k := 6) rfl rfl (by decide) rfl (fun ls hl => ?_)
            refine lv_goto (tgt := 68) hx hb dX12_lots_108 (by decide) ?_
            exact ih68 x1 x3 x4 x6 x8 (x9 + 1) s20 _ _ _ (lv_sub hl [1, 2, 3, 4, 5, 6, 0] rfl) hP hS hf
      intro x1 x3 x4 x6 x8 s1 H locs ls hl hP hS hf
      rw [f_X12_lots_c51] at hf
      refine lv_iload hx hb dX12_lots_51 (lv_at hl 5 rfl) ?_
      refine lv_iload_n hx hb dX12_lots_53 rfl (lv_at hl 1 rfl) ?_
      refine zicmp_ge (tgt := 151) hx hb dX12_lots_54 (by decide) hf (fun hf => ?_) (fun hf => ?_)
      · refine lv_iload_n hx hb dX12_lots_151 rfl (lv_at hl 2 rfl) ?_
        refine zif_ne (tgt := 160) hx hb dX12_lots_152 (by decide) hf (fun hf => ?_) (fun hf => ?_)
        · refine lv_lload hx hb dX12_lots_160 (lv_at hl 4 rfl) ?_
          exact zret_l X hP hS hf dX12_lots_162
        · refine lv_lload hx hb dX12_lots_155 (lv_at hl 3 rfl) ?_
          refine lv_goto (tgt := 162) hx hb dX12_lots_157 (by decide) ?_
          exact zret_l X hP hS hf dX12_lots_162
      · refine lv_aload_n hx hb dX12_lots_57 rfl (lv_at hl 0 rfl) ?_
        refine lv_aload_n hx hb dX12_lots_58 rfl (lv_at hl 0 rfl) ?_
        refine gf_X12_111 X hP (k := 0) (q := 13) rfl dX12_lots_59 rfl ?_
        obtain ⟨r7, s8, h9, hf⟩ := zbd_some hf
        refine zcallV X hP hS hl.1 (k := 0) (As := [.ref (ad 13)]) (rest := []) (cn_X12_layOne h9) cw_X12_layOne zp_12 rfl (by decide) rfl ml_X12_278 (by decide) rfl rfl (Nat.le_of_ble_eq_true rfl) dX12_lots_62 (fun H locs hP hS => ?_)
        refine lv_iconst (v := 0) hx hb dX12_lots_65 (by decide) ?_
        refine lv_istore (lv' := [(9, .int 0), (0, .ref (ad 0)), (1, .int x1), (3, .int x3), (4, .long x4), (6, .long x6), (8, .int x8)]) hx hb dX12_lots_66 hl (by decide) rfl (fun ls hl => ?_)
        exact hc_68 ZF x1 x3 x4 x6 x8 0 s8 _ _ _ (lv_sub hl [1, 2, 3, 4, 5, 6, 0] rfl) hP hS hf
  rw [f_X12_lots] at hf
  refine lv_iload_n hx hb dX12_lots_0 rfl (lv_at hl 1 rfl) ?_
  refine lv_i2l hx hb dX12_lots_1 rfl ?_
  refine lv_lconst (v := 1) hx hb dX12_lots_2 (by decide) ?_
  refine zldc2 X co_X12_327 dX12_lots_3 ?_
  obtain ⟨r1, s2, h3, hf⟩ := zbd_some hf
  refine zcallS X hP hS hl.1 (As := [.long (x1).toInt64, .long 1, .long 50]) (rest := []) (cn_X12_in h3) cw_X12_in ml_X12_203 (by decide) rfl rfl (Nat.le_of_ble_eq_true rfl) dX12_lots_6 (fun H locs hP hS => ?_)
  refine zif_eq (tgt := 22) hx hb dX12_lots_9 (by decide) hf (fun hf => ?_) (fun hf => ?_)
  · refine zldc2 X co_X12_220 dX12_lots_22 ?_
    exact zret_l X hP hS hf dX12_lots_25
  · refine lv_iload_n hx hb dX12_lots_12 rfl (lv_at hl 3 rfl) ?_
    refine lv_i2l hx hb dX12_lots_13 rfl ?_
    refine lv_lconst (v := 0) hx hb dX12_lots_14 (by decide) ?_
    refine lv_lconst (v := 1) hx hb dX12_lots_15 (by decide) ?_
    obtain ⟨r4, s5, h6, hf⟩ := zbd_some hf
    refine zcallS X hP hS hl.1 (As := [.long (x3).toInt64, .long 0, .long 1]) (rest := []) (cn_X12_in h6) cw_X12_in ml_X12_203 (by decide) rfl rfl (Nat.le_of_ble_eq_true rfl) dX12_lots_16 (fun H locs hP hS => ?_)
    refine zif_ne (tgt := 26) hx hb dX12_lots_19 (by decide) hf (fun hf => ?_) (fun hf => ?_)
    · refine lv_aload_n hx hb dX12_lots_26 rfl (lv_at hl 0 rfl) ?_
      refine gf_X12_89 X hP (k := 0) rfl dX12_lots_27 ?_
      refine zif_ne (tgt := 37) hx hb dX12_lots_30 (by decide) hf (fun hf => ?_) (fun hf => ?_)
      · refine lv_aload_n hx hb dX12_lots_37 rfl (lv_at hl 0 rfl) ?_
        refine lv_iload_n hx hb dX12_lots_38 rfl (lv_at hl 2 rfl) ?_
        refine pf_X12_321 X hP hS (k := 0) rfl dX12_lots_39 (fun H locs hP hS => ?_)
        refine lv_lconst (v := 0) hx hb dX12_lots_42 (by decide) ?_
        refine lv_lstore (lv' := [(4, .long 0), (0, .ref (ad 0)), (1, .int x1), (2, .int x2), (3, .int x3)]) hx hb dX12_lots_43 hl (by decide) rfl (fun ls hl => ?_)
        refine lv_lconst (v := 0) hx hb dX12_lots_45 (by decide) ?_
        refine lv_lstore (lv' := [(6, .long 0), (4, .long 0), (0, .ref (ad 0)), (1, .int x1), (2, .int x2), (3, .int x3)]) hx hb dX12_lots_46 hl (by decide) rfl (fun ls hl => ?_)
        refine lv_iconst (v := 0) hx hb dX12_lots_48 (by decide) ?_
        refine lv_istore (lv' := [(8, .int 0), (6, .long 0), (4, .long 0), (0, .ref (ad 0)), (1, .int x1), (2, .int x2), (3, .int x3)]) hx hb dX12_lots_49 hl (by decide) rfl (fun ls hl => ?_)
        exact hc_51 ZF x1 x3 0 0 0 (zS s5 0 51 x2) _ _ _ (lv_sub hl [3, 4, 6, 2, 1, 0] rfl) hP hS hf
      · refine zldc2 X co_X12_287 dX12_lots_33 ?_
        exact zret_l X hP hS hf dX12_lots_36
    · refine zldc2 X co_X12_220 dX12_lots_22 ?_
      exact zret_l X hP hS hf dX12_lots_25
theorem dX12_feed_0 : decode cX12_feed 0 = .ok (.iload_n 1, 1) := by decide +kernel
theorem dX12_feed_1 : decode cX12_feed 1 = .ok (.i2l, 1) := by decide +kernel
theorem dX12_feed_2 : decode cX12_feed 2 = .ok (.ldc2_w 332, 3) := by decide +kernel
theorem dX12_feed_5 : decode cX12_feed 5 = .ok (.ldc2_w 334, 3) := by decide +kernel
theorem dX12_feed_8 : decode cX12_feed 8 = .ok (.invokestatic 203, 3) := by decide +kernel
theorem dX12_feed_11 : decode cX12_feed 11 = .ok (.ifCond .ne 5, 3) := by decide +kernel
theorem dX12_feed_14 : decode cX12_feed 14 = .ok (.iconst (-1), 1) := by decide +kernel
theorem dX12_feed_15 : decode cX12_feed 15 = .ok (.ireturn, 1) := by decide +kernel
theorem dX12_feed_16 : decode cX12_feed 16 = .ok (.aload_n 0, 1) := by decide +kernel
theorem dX12_feed_17 : decode cX12_feed 17 = .ok (.getfield 336, 3) := by decide +kernel
theorem dX12_feed_20 : decode cX12_feed 20 = .ok (.bipush 80, 2) := by decide +kernel
theorem dX12_feed_22 : decode cX12_feed 22 = .ok (.if_icmp .ne 6, 3) := by decide +kernel
theorem dX12_feed_25 : decode cX12_feed 25 = .ok (.bipush (-3), 2) := by decide +kernel
theorem dX12_feed_27 : decode cX12_feed 27 = .ok (.ireturn, 1) := by decide +kernel
theorem dX12_feed_28 : decode cX12_feed 28 = .ok (.aload_n 0, 1) := by decide +kernel
theorem dX12_feed_29 : decode cX12_feed 29 = .ok (.getfield 132, 3) := by decide +kernel
theorem dX12_feed_32 : decode cX12_feed 32 = .ok (.aload_n 0, 1) := by decide +kernel
theorem dX12_feed_33 : decode cX12_feed 33 = .ok (.getfield 336, 3) := by decide +kernel
theorem dX12_feed_36 : decode cX12_feed 36 = .ok (.iload_n 1, 1) := by decide +kernel
theorem dX12_feed_37 : decode cX12_feed 37 = .ok (.iastore, 1) := by decide +kernel
theorem dX12_feed_38 : decode cX12_feed 38 = .ok (.aload_n 0, 1) := by decide +kernel
theorem dX12_feed_39 : decode cX12_feed 39 = .ok (.dup, 1) := by decide +kernel
theorem dX12_feed_40 : decode cX12_feed 40 = .ok (.getfield 336, 3) := by decide +kernel
theorem dX12_feed_43 : decode cX12_feed 43 = .ok (.iconst 1, 1) := by decide +kernel
theorem dX12_feed_44 : decode cX12_feed 44 = .ok (.iadd, 1) := by decide +kernel
theorem dX12_feed_45 : decode cX12_feed 45 = .ok (.putfield 336, 3) := by decide +kernel
theorem dX12_feed_48 : decode cX12_feed 48 = .ok (.aload_n 0, 1) := by decide +kernel
theorem dX12_feed_49 : decode cX12_feed 49 = .ok (.getfield 336, 3) := by decide +kernel
theorem dX12_feed_52 : decode cX12_feed 52 = .ok (.ireturn, 1) := by decide +kernel
set_option maxHeartbeats 4000000 in
set_option maxRecDepth 100000 in
theorem cn_X12_feed {l : Launch} {cA : Nat → ClassId} {ad : Nat → Nat} {D : va_G} {E : Nat → Nat} {A : Nat → Prop} {x1 : Int32} {s0 sr : SS} {rr : Int32} (hf : f_X12_feed x1 s0 = some (rr, sr)) : zCon Om Nm cA ad D E l yX12_feed cX12_feed 2 (some .int) 1 A [.ref (ad 0), .int x1] s0 (some (.int rr)) sr := by
  refine zstart (own := RX12) hOm (by decide) rfl (Nat.le_of_ble_eq_true rfl) ?_
  intro p e s m args below meth c X hP ls hl
  have hx := X.1
  have hb := X.2.1
  have hl : lv_has ls 2 [(0, .ref (ad 0)), (1, .int x1)] := hl
  have hS : va_S A s.heap s.heap [] := va_S.rf
  rw [f_X12_feed] at hf
  refine lv_iload_n hx hb dX12_feed_0 rfl (lv_at hl 1 rfl) ?_
  refine lv_i2l hx hb dX12_feed_1 rfl ?_
  refine zldc2 X co_X12_332 dX12_feed_2 ?_
  refine zldc2 X co_X12_334 dX12_feed_5 ?_
  obtain ⟨r1, s2, h3, hf⟩ := zbd_some hf
  refine zcallS X hP hS hl.1 (As := [.long (x1).toInt64, .long 32, .long 126]) (rest := []) (cn_X12_in h3) cw_X12_in ml_X12_203 (by decide) rfl rfl (Nat.le_of_ble_eq_true rfl) dX12_feed_8 (fun H locs hP hS => ?_)
  refine zif_ne (tgt := 16) hx hb dX12_feed_11 (by decide) hf (fun hf => ?_) (fun hf => ?_)
  · refine lv_aload_n hx hb dX12_feed_16 rfl (lv_at hl 0 rfl) ?_
    refine gf_X12_336 X hP (k := 0) rfl dX12_feed_17 ?_
    refine lv_bipush (v := 80) hx hb dX12_feed_20 (by decide) ?_
    refine zicmp_ne (tgt := 28) hx hb dX12_feed_22 (by decide) hf (fun hf => ?_) (fun hf => ?_)
    · refine lv_aload_n hx hb dX12_feed_28 rfl (lv_at hl 0 rfl) ?_
      refine gf_X12_132 X hP (k := 0) (q := 20) rfl dX12_feed_29 rfl ?_
      refine lv_aload_n hx hb dX12_feed_32 rfl (lv_at hl 0 rfl) ?_
      refine gf_X12_336 X hP (k := 0) rfl dX12_feed_33 ?_
      refine lv_iload_n hx hb dX12_feed_36 rfl (lv_at hl 1 rfl) ?_
      obtain ⟨g4, hf⟩ := zgd hf
      refine zast_i X hP hS (k := 20) (n := 80) (rs := []) rfl g4 dX12_feed_37 (fun H locs hP hS => ?_)
      refine lv_aload_n hx hb dX12_feed_38 rfl (lv_at hl 0 rfl) ?_
      refine lv_dup hx hb dX12_feed_39 rfl ?_
      refine gf_X12_336 X hP (k := 0) rfl dX12_feed_40 ?_
      refine lv_iconst (v := 1) hx hb dX12_feed_43 (by decide) ?_
      refine lv_iadd hx hb dX12_feed_44 ?_
      refine pf_X12_336 X hP hS (k := 0) rfl dX12_feed_45 (fun H locs hP hS => ?_)
      refine lv_aload_n hx hb dX12_feed_48 rfl (lv_at hl 0 rfl) ?_
      refine gf_X12_336 X hP (k := 0) rfl dX12_feed_49 ?_
      exact zret_i X hP hS hf rfl dX12_feed_52
    · refine lv_bipush (v := (-3)) hx hb dX12_feed_25 (by decide) ?_
      exact zret_i X hP hS hf rfl dX12_feed_27
  · refine lv_iconst (v := (-1)) hx hb dX12_feed_14 (by decide) ?_
    exact zret_i X hP hS hf rfl dX12_feed_15
theorem dX12_wipe_0 : decode cX12_wipe 0 = .ok (.aload_n 0, 1) := by decide +kernel
theorem dX12_wipe_1 : decode cX12_wipe 1 = .ok (.getfield 336, 3) := by decide +kernel
theorem dX12_wipe_4 : decode cX12_wipe 4 = .ok (.istore_n 1, 1) := by decide +kernel
theorem dX12_wipe_5 : decode cX12_wipe 5 = .ok (.aload_n 0, 1) := by decide +kernel
theorem dX12_wipe_6 : decode cX12_wipe 6 = .ok (.iconst 0, 1) := by decide +kernel
theorem dX12_wipe_7 : decode cX12_wipe 7 = .ok (.putfield 336, 3) := by decide +kernel
theorem dX12_wipe_10 : decode cX12_wipe 10 = .ok (.iload_n 1, 1) := by decide +kernel
theorem dX12_wipe_11 : decode cX12_wipe 11 = .ok (.ireturn, 1) := by decide +kernel
set_option maxHeartbeats 4000000 in
set_option maxRecDepth 100000 in
theorem cn_X12_wipe {l : Launch} {cA : Nat → ClassId} {ad : Nat → Nat} {D : va_G} {E : Nat → Nat} {A : Nat → Prop}  {s0 sr : SS} {rr : Int32} (hf : f_X12_wipe s0 = some (rr, sr)) : zCon Om Nm cA ad D E l yX12_wipe cX12_wipe 2 (some .int) 0 A [.ref (ad 0)] s0 (some (.int rr)) sr := by
  refine zstart (own := RX12) hOm (by decide) rfl (Nat.le_of_ble_eq_true rfl) ?_
  intro p e s m args below meth c X hP ls hl
  have hx := X.1
  have hb := X.2.1
  have hl : lv_has ls 2 [(0, .ref (ad 0))] := hl
  have hS : va_S A s.heap s.heap [] := va_S.rf
  rw [f_X12_wipe] at hf
  refine lv_aload_n hx hb dX12_wipe_0 rfl (lv_at hl 0 rfl) ?_
  refine gf_X12_336 X hP (k := 0) rfl dX12_wipe_1 ?_
  refine lv_istore_n (lv' := [(1, .int (s0.1 0 27)), (0, .ref (ad 0))]) hx hb dX12_wipe_4 rfl hl (by decide) rfl (fun ls hl => ?_)
  refine lv_aload_n hx hb dX12_wipe_5 rfl (lv_at hl 1 rfl) ?_
  refine lv_iconst (v := 0) hx hb dX12_wipe_6 (by decide) ?_
  refine pf_X12_336 X hP hS (k := 0) rfl dX12_wipe_7 (fun H locs hP hS => ?_)
  refine lv_iload_n hx hb dX12_wipe_10 rfl (lv_at hl 0 rfl) ?_
  exact zret_i X hP hS hf rfl dX12_wipe_11
theorem dX12_here_0 : decode cX12_here 0 = .ok (.aload_n 0, 1) := by decide +kernel
theorem dX12_here_1 : decode cX12_here 1 = .ok (.getfield 339, 3) := by decide +kernel
theorem dX12_here_4 : decode cX12_here 4 = .ok (.aload_n 0, 1) := by decide +kernel
theorem dX12_here_5 : decode cX12_here 5 = .ok (.getfield 336, 3) := by decide +kernel
theorem dX12_here_8 : decode cX12_here 8 = .ok (.if_icmp .ge 15, 3) := by decide +kernel
theorem dX12_here_11 : decode cX12_here 11 = .ok (.aload_n 0, 1) := by decide +kernel
theorem dX12_here_12 : decode cX12_here 12 = .ok (.getfield 132, 3) := by decide +kernel
theorem dX12_here_15 : decode cX12_here 15 = .ok (.aload_n 0, 1) := by decide +kernel
theorem dX12_here_16 : decode cX12_here 16 = .ok (.getfield 339, 3) := by decide +kernel
theorem dX12_here_19 : decode cX12_here 19 = .ok (.iaload, 1) := by decide +kernel
theorem dX12_here_20 : decode cX12_here 20 = .ok (.goto 4, 3) := by decide +kernel
theorem dX12_here_23 : decode cX12_here 23 = .ok (.iconst (-1), 1) := by decide +kernel
theorem dX12_here_24 : decode cX12_here 24 = .ok (.ireturn, 1) := by decide +kernel
set_option maxHeartbeats 4000000 in
set_option maxRecDepth 100000 in
theorem cn_X12_here {l : Launch} {cA : Nat → ClassId} {ad : Nat → Nat} {D : va_G} {E : Nat → Nat} {A : Nat → Prop}  {s0 sr : SS} {rr : Int32} (hf : f_X12_here s0 = some (rr, sr)) : zCon Om Nm cA ad D E l yX12_here cX12_here 1 (some .int) 0 A [.ref (ad 0)] s0 (some (.int rr)) sr := by
  refine zstart (own := RX12) hOm (by decide) rfl (Nat.le_of_ble_eq_true rfl) ?_
  intro p e s m args below meth c X hP ls hl
  have hx := X.1
  have hb := X.2.1
  have hl : lv_has ls 1 [(0, .ref (ad 0))] := hl
  have hS : va_S A s.heap s.heap [] := va_S.rf
  rw [f_X12_here] at hf
  refine lv_aload_n hx hb dX12_here_0 rfl (lv_at hl 0 rfl) ?_
  refine gf_X12_339 X hP (k := 0) rfl dX12_here_1 ?_
  refine lv_aload_n hx hb dX12_here_4 rfl (lv_at hl 0 rfl) ?_
  refine gf_X12_336 X hP (k := 0) rfl dX12_here_5 ?_
  refine zicmp_ge (tgt := 23) hx hb dX12_here_8 (by decide) hf (fun hf => ?_) (fun hf => ?_)
  · refine lv_iconst (v := (-1)) hx hb dX12_here_23 (by decide) ?_
    exact zret_i X hP hS hf rfl dX12_here_24
  · refine lv_aload_n hx hb dX12_here_11 rfl (lv_at hl 0 rfl) ?_
    refine gf_X12_132 X hP (k := 0) (q := 20) rfl dX12_here_12 rfl ?_
    refine lv_aload_n hx hb dX12_here_15 rfl (lv_at hl 0 rfl) ?_
    refine gf_X12_339 X hP (k := 0) rfl dX12_here_16 ?_
    obtain ⟨g1, hf⟩ := zgd hf
    refine zald_i X hP (k := 20) (n := 80) (rs := []) rfl g1 dX12_here_19 ?_
    refine lv_goto (tgt := 24) hx hb dX12_here_20 (by decide) ?_
    exact zret_i X hP hS hf rfl dX12_here_24
theorem dX12_isFigure_0 : decode cX12_isFigure 0 = .ok (.aload_n 0, 1) := by decide +kernel
theorem dX12_isFigure_1 : decode cX12_isFigure 1 = .ok (.invokevirtual 342, 3) := by decide +kernel
theorem dX12_isFigure_4 : decode cX12_isFigure 4 = .ok (.i2l, 1) := by decide +kernel
theorem dX12_isFigure_5 : decode cX12_isFigure 5 = .ok (.ldc2_w 345, 3) := by decide +kernel
theorem dX12_isFigure_8 : decode cX12_isFigure 8 = .ok (.ldc2_w 347, 3) := by decide +kernel
theorem dX12_isFigure_11 : decode cX12_isFigure 11 = .ok (.invokestatic 203, 3) := by decide +kernel
theorem dX12_isFigure_14 : decode cX12_isFigure 14 = .ok (.ireturn, 1) := by decide +kernel
set_option maxHeartbeats 4000000 in
set_option maxRecDepth 100000 in
theorem cn_X12_isFigure {l : Launch} {cA : Nat → ClassId} {ad : Nat → Nat} {D : va_G} {E : Nat → Nat} {A : Nat → Prop}  {s0 sr : SS} {rr : Int32} (hf : f_X12_isFigure s0 = some (rr, sr)) : zCon Om Nm cA ad D E l yX12_isFigure cX12_isFigure 1 (some .boolean) 1 A [.ref (ad 0)] s0 (some (.int rr)) sr := by
  refine zstart (own := RX12) hOm (by decide) rfl (Nat.le_of_ble_eq_true rfl) ?_
  intro p e s m args below meth c X hP ls hl
  have hx := X.1
  have hb := X.2.1
  have hl : lv_has ls 1 [(0, .ref (ad 0))] := hl
  have hS : va_S A s.heap s.heap [] := va_S.rf
  rw [f_X12_isFigure] at hf
  refine lv_aload_n hx hb dX12_isFigure_0 rfl (lv_at hl 0 rfl) ?_
  obtain ⟨r1, s2, h3, hf⟩ := zbd_some hf
  refine zcallV X hP hS hl.1 (k := 0) (As := []) (rest := []) (cn_X12_here h3) cw_X12_here zp_12 rfl (by decide) rfl ml_X12_342 (by decide) rfl rfl (Nat.le_of_ble_eq_true rfl) dX12_isFigure_1 (fun H locs hP hS => ?_)
  refine lv_i2l hx hb dX12_isFigure_4 rfl ?_
  refine zldc2 X co_X12_345 dX12_isFigure_5 ?_
  refine zldc2 X co_X12_347 dX12_isFigure_8 ?_
  obtain ⟨r4, s5, h6, hf⟩ := zbd_some hf
  refine zcallS X hP hS hl.1 (As := [.long (r1).toInt64, .long 48, .long 57]) (rest := []) (cn_X12_in h6) cw_X12_in ml_X12_203 (by decide) rfl rfl (Nat.le_of_ble_eq_true rfl) dX12_isFigure_11 (fun H locs hP hS => ?_)
  obtain ⟨b7, hf⟩ := zgd hf
  exact zret_i X hP hS hf (znar_of (by decide) b7) dX12_isFigure_14
theorem dX12_letterHere_0 : decode cX12_letterHere 0 = .ok (.iload_n 1, 1) := by decide +kernel
theorem dX12_letterHere_1 : decode cX12_letterHere 1 = .ok (.istore_n 2, 1) := by decide +kernel
theorem dX12_letterHere_2 : decode cX12_letterHere 2 = .ok (.iload_n 2, 1) := by decide +kernel
theorem dX12_letterHere_3 : decode cX12_letterHere 3 = .ok (.aload_n 0, 1) := by decide +kernel
theorem dX12_letterHere_4 : decode cX12_letterHere 4 = .ok (.invokevirtual 68, 3) := by decide +kernel
theorem dX12_letterHere_7 : decode cX12_letterHere 7 = .ok (.if_icmp .ge 23, 3) := by decide +kernel
theorem dX12_letterHere_10 : decode cX12_letterHere 10 = .ok (.aload_n 0, 1) := by decide +kernel
theorem dX12_letterHere_11 : decode cX12_letterHere 11 = .ok (.invokevirtual 342, 3) := by decide +kernel
theorem dX12_letterHere_14 : decode cX12_letterHere 14 = .ok (.aload_n 0, 1) := by decide +kernel
theorem dX12_letterHere_15 : decode cX12_letterHere 15 = .ok (.iload_n 2, 1) := by decide +kernel
theorem dX12_letterHere_16 : decode cX12_letterHere 16 = .ok (.invokevirtual 222, 3) := by decide +kernel
theorem dX12_letterHere_19 : decode cX12_letterHere 19 = .ok (.if_icmp .ne 5, 3) := by decide +kernel
theorem dX12_letterHere_22 : decode cX12_letterHere 22 = .ok (.iload_n 2, 1) := by decide +kernel
theorem dX12_letterHere_23 : decode cX12_letterHere 23 = .ok (.ireturn, 1) := by decide +kernel
theorem dX12_letterHere_24 : decode cX12_letterHere 24 = .ok (.iinc 2 1, 3) := by decide +kernel
theorem dX12_letterHere_27 : decode cX12_letterHere 27 = .ok (.goto (-25), 3) := by decide +kernel
theorem dX12_letterHere_30 : decode cX12_letterHere 30 = .ok (.iconst (-1), 1) := by decide +kernel
theorem dX12_letterHere_31 : decode cX12_letterHere 31 = .ok (.ireturn, 1) := by decide +kernel
set_option maxHeartbeats 4000000 in
set_option maxRecDepth 100000 in
theorem cn_X12_letterHere {l : Launch} {cA : Nat → ClassId} {ad : Nat → Nat} {D : va_G} {E : Nat → Nat} {A : Nat → Prop} {x1 : Int32} {s0 sr : SS} {rr : Int32} (hf : f_X12_letterHere x1 s0 = some (rr, sr)) : zCon Om Nm cA ad D E l yX12_letterHere cX12_letterHere 3 (some .int) 1 A [.ref (ad 0), .int x1] s0 (some (.int rr)) sr := by
  refine zstart (own := RX12) hOm (by decide) rfl (Nat.le_of_ble_eq_true rfl) ?_
  intro p e s m args below meth c X hP ls hl
  have hx := X.1
  have hb := X.2.1
  have hl : lv_has ls 3 [(0, .ref (ad 0)), (1, .int x1)] := hl
  have hS : va_S A s.heap s.heap [] := va_S.rf
  have hc_2 : ∀ (n2 : Nat) (x2 : Int32) (s1 : SS) (H : Heap) (locs : List Loc) (ls : Array Slot), lv_has ls 3 [(0, .ref (ad 0)), (2, .int x2)] → va_P D ZCL (zw Om Nm cA ad s1) H → va_S A s.heap H locs → f_X12_letterHere_c2 n2 x2 s1 = some (rr, sr) → W p l e (zrm 1) s m args below meth c H locs 0 0 (MQ below (zQc Om Nm cA ad D A (some (.int rr)) sr) args s 0 0 A) (F0 m 2 ls []) := by
    intro n2
    induction n2 with
    | zero =>
      intro x2 s1 H locs ls hl hP hS hf
      rw [f_X12_letterHere_c2] at hf
      cases hf
    | succ n2 ih2 =>
      intro x2 s1 H locs ls hl hP hS hf
      rw [f_X12_letterHere_c2] at hf
      refine lv_iload_n hx hb dX12_letterHere_2 rfl (lv_at hl 1 rfl) ?_
      refine lv_aload_n hx hb dX12_letterHere_3 rfl (lv_at hl 0 rfl) ?_
      obtain ⟨r1, s2, h3, hf⟩ := zbd_some hf
      refine zcallV X hP hS hl.1 (k := 0) (As := []) (rest := [.int x2]) (cn_X12_letters h3) cw_X12_letters zp_12 rfl (by decide) rfl ml_X12_68 (by decide) rfl rfl (Nat.le_of_ble_eq_true rfl) dX12_letterHere_4 (fun H locs hP hS => ?_)
      refine zicmp_ge (tgt := 30) hx hb dX12_letterHere_7 (by decide) hf (fun hf => ?_) (fun hf => ?_)
      · refine lv_iconst (v := (-1)) hx hb dX12_letterHere_30 (by decide) ?_
        exact zret_i X hP hS hf rfl dX12_letterHere_31
      · refine lv_aload_n hx hb dX12_letterHere_10 rfl (lv_at hl 0 rfl) ?_
        obtain ⟨r4, s5, h6, hf⟩ := zbd_some hf
        refine zcallV X hP hS hl.1 (k := 0) (As := []) (rest := []) (cn_X12_here h6) cw_X12_here zp_12 rfl (by decide) rfl ml_X12_342 (by decide) rfl rfl (Nat.le_of_ble_eq_true rfl) dX12_letterHere_11 (fun H locs hP hS => ?_)
        refine lv_aload_n hx hb dX12_letterHere_14 rfl (lv_at hl 0 rfl) ?_
        refine lv_iload_n hx hb dX12_letterHere_15 rfl (lv_at hl 1 rfl) ?_
        obtain ⟨r7, s8, h9, hf⟩ := zbd_some hf
        refine zcallV X hP hS hl.1 (k := 0) (As := [.int x2]) (rest := [.int r4]) (cn_X12_nameOf h9) cw_X12_nameOf zp_12 rfl (by decide) rfl ml_X12_222 (by decide) rfl rfl (Nat.le_of_ble_eq_true rfl) dX12_letterHere_16 (fun H locs hP hS => ?_)
        refine zicmp_ne (tgt := 24) hx hb dX12_letterHere_19 (by decide) hf (fun hf => ?_) (fun hf => ?_)
        · refine lv_iinc (v := (x2 + 1)) (lv' := [(2, .int (x2 + 1)), (0, .ref (ad 0))]) hx hb dX12_letterHere_24 hl (k := 1) rfl rfl (by decide) rfl (fun ls hl => ?_)
          refine lv_goto (tgt := 2) hx hb dX12_letterHere_27 (by decide) ?_
          exact ih2 (x2 + 1) s8 _ _ _ (lv_sub hl [1, 0] rfl) hP hS hf
        · refine lv_iload_n hx hb dX12_letterHere_22 rfl (lv_at hl 1 rfl) ?_
          exact zret_i X hP hS hf rfl dX12_letterHere_23
  rw [f_X12_letterHere] at hf
  refine lv_iload_n hx hb dX12_letterHere_0 rfl (lv_at hl 1 rfl) ?_
  refine lv_istore_n (lv' := [(2, .int x1), (0, .ref (ad 0)), (1, .int x1)]) hx hb dX12_letterHere_1 rfl hl (by decide) rfl (fun ls hl => ?_)
  exact hc_2 ZF x1 s0 _ _ _ (lv_sub hl [1, 0] rfl) hP hS hf
theorem dX12_readPowers_0 : decode cX12_readPowers 0 = .ok (.iconst 0, 1) := by decide +kernel
theorem dX12_readPowers_1 : decode cX12_readPowers 1 = .ok (.istore_n 1, 1) := by decide +kernel
theorem dX12_readPowers_2 : decode cX12_readPowers 2 = .ok (.iconst 0, 1) := by decide +kernel
theorem dX12_readPowers_3 : decode cX12_readPowers 3 = .ok (.istore_n 2, 1) := by decide +kernel
theorem dX12_readPowers_4 : decode cX12_readPowers 4 = .ok (.aload_n 0, 1) := by decide +kernel
theorem dX12_readPowers_5 : decode cX12_readPowers 5 = .ok (.iconst 0, 1) := by decide +kernel
theorem dX12_readPowers_6 : decode cX12_readPowers 6 = .ok (.invokevirtual 349, 3) := by decide +kernel
theorem dX12_readPowers_9 : decode cX12_readPowers 9 = .ok (.istore_n 3, 1) := by decide +kernel
theorem dX12_readPowers_10 : decode cX12_readPowers 10 = .ok (.iload_n 3, 1) := by decide +kernel
theorem dX12_readPowers_11 : decode cX12_readPowers 11 = .ok (.ifCond .lt 177, 3) := by decide +kernel
theorem dX12_readPowers_14 : decode cX12_readPowers 14 = .ok (.aload_n 0, 1) := by decide +kernel
theorem dX12_readPowers_15 : decode cX12_readPowers 15 = .ok (.getfield 352, 3) := by decide +kernel
theorem dX12_readPowers_18 : decode cX12_readPowers 18 = .ok (.ifCond .ne 170, 3) := by decide +kernel
theorem dX12_readPowers_21 : decode cX12_readPowers 21 = .ok (.aload_n 0, 1) := by decide +kernel
theorem dX12_readPowers_22 : decode cX12_readPowers 22 = .ok (.iload_n 2, 1) := by decide +kernel
theorem dX12_readPowers_23 : decode cX12_readPowers 23 = .ok (.iconst 1, 1) := by decide +kernel
theorem dX12_readPowers_24 : decode cX12_readPowers 24 = .ok (.iadd, 1) := by decide +kernel
theorem dX12_readPowers_25 : decode cX12_readPowers 25 = .ok (.aload_n 0, 1) := by decide +kernel
theorem dX12_readPowers_26 : decode cX12_readPowers 26 = .ok (.getfield 27, 3) := by decide +kernel
theorem dX12_readPowers_29 : decode cX12_readPowers 29 = .ok (.if_icmp .le 7, 3) := by decide +kernel
theorem dX12_readPowers_32 : decode cX12_readPowers 32 = .ok (.iconst 1, 1) := by decide +kernel
theorem dX12_readPowers_33 : decode cX12_readPowers 33 = .ok (.goto 4, 3) := by decide +kernel
theorem dX12_readPowers_36 : decode cX12_readPowers 36 = .ok (.iconst 0, 1) := by decide +kernel
theorem dX12_readPowers_37 : decode cX12_readPowers 37 = .ok (.putfield 352, 3) := by decide +kernel
theorem dX12_readPowers_40 : decode cX12_readPowers 40 = .ok (.aload_n 0, 1) := by decide +kernel
theorem dX12_readPowers_41 : decode cX12_readPowers 41 = .ok (.getfield 352, 3) := by decide +kernel
theorem dX12_readPowers_44 : decode cX12_readPowers 44 = .ok (.ifCond .ne (-34), 3) := by decide +kernel
theorem dX12_readPowers_47 : decode cX12_readPowers 47 = .ok (.aload_n 0, 1) := by decide +kernel
theorem dX12_readPowers_48 : decode cX12_readPowers 48 = .ok (.dup, 1) := by decide +kernel
theorem dX12_readPowers_49 : decode cX12_readPowers 49 = .ok (.getfield 339, 3) := by decide +kernel
theorem dX12_readPowers_52 : decode cX12_readPowers 52 = .ok (.iconst 1, 1) := by decide +kernel
theorem dX12_readPowers_53 : decode cX12_readPowers 53 = .ok (.iadd, 1) := by decide +kernel
theorem dX12_readPowers_54 : decode cX12_readPowers 54 = .ok (.putfield 339, 3) := by decide +kernel
theorem dX12_readPowers_57 : decode cX12_readPowers 57 = .ok (.iconst 1, 1) := by decide +kernel
theorem dX12_readPowers_58 : decode cX12_readPowers 58 = .ok (.istore 4, 2) := by decide +kernel
theorem dX12_readPowers_60 : decode cX12_readPowers 60 = .ok (.aload_n 0, 1) := by decide +kernel
theorem dX12_readPowers_61 : decode cX12_readPowers 61 = .ok (.invokevirtual 342, 3) := by decide +kernel
theorem dX12_readPowers_64 : decode cX12_readPowers 64 = .ok (.bipush 94, 2) := by decide +kernel
theorem dX12_readPowers_66 : decode cX12_readPowers 66 = .ok (.if_icmp .ne 96, 3) := by decide +kernel
theorem dX12_readPowers_69 : decode cX12_readPowers 69 = .ok (.aload_n 0, 1) := by decide +kernel
theorem dX12_readPowers_70 : decode cX12_readPowers 70 = .ok (.dup, 1) := by decide +kernel
theorem dX12_readPowers_71 : decode cX12_readPowers 71 = .ok (.getfield 339, 3) := by decide +kernel
theorem dX12_readPowers_74 : decode cX12_readPowers 74 = .ok (.iconst 1, 1) := by decide +kernel
theorem dX12_readPowers_75 : decode cX12_readPowers 75 = .ok (.iadd, 1) := by decide +kernel
theorem dX12_readPowers_76 : decode cX12_readPowers 76 = .ok (.putfield 339, 3) := by decide +kernel
theorem dX12_readPowers_79 : decode cX12_readPowers 79 = .ok (.aload_n 0, 1) := by decide +kernel
theorem dX12_readPowers_80 : decode cX12_readPowers 80 = .ok (.aload_n 0, 1) := by decide +kernel
theorem dX12_readPowers_81 : decode cX12_readPowers 81 = .ok (.invokevirtual 342, 3) := by decide +kernel
theorem dX12_readPowers_84 : decode cX12_readPowers 84 = .ok (.i2l, 1) := by decide +kernel
theorem dX12_readPowers_85 : decode cX12_readPowers 85 = .ok (.ldc2_w 356, 3) := by decide +kernel
theorem dX12_readPowers_88 : decode cX12_readPowers 88 = .ok (.ldc2_w 358, 3) := by decide +kernel
theorem dX12_readPowers_91 : decode cX12_readPowers 91 = .ok (.invokestatic 203, 3) := by decide +kernel
theorem dX12_readPowers_94 : decode cX12_readPowers 94 = .ok (.ifCond .eq 19, 3) := by decide +kernel
theorem dX12_readPowers_97 : decode cX12_readPowers 97 = .ok (.iload_n 2, 1) := by decide +kernel
theorem dX12_readPowers_98 : decode cX12_readPowers 98 = .ok (.aload_n 0, 1) := by decide +kernel
theorem dX12_readPowers_99 : decode cX12_readPowers 99 = .ok (.invokevirtual 342, 3) := by decide +kernel
theorem dX12_readPowers_102 : decode cX12_readPowers 102 = .ok (.iadd, 1) := by decide +kernel
theorem dX12_readPowers_103 : decode cX12_readPowers 103 = .ok (.bipush 48, 2) := by decide +kernel
theorem dX12_readPowers_105 : decode cX12_readPowers 105 = .ok (.isub, 1) := by decide +kernel
theorem dX12_readPowers_106 : decode cX12_readPowers 106 = .ok (.aload_n 0, 1) := by decide +kernel
theorem dX12_readPowers_107 : decode cX12_readPowers 107 = .ok (.getfield 27, 3) := by decide +kernel
theorem dX12_readPowers_110 : decode cX12_readPowers 110 = .ok (.if_icmp .le 7, 3) := by decide +kernel
theorem dX12_readPowers_113 : decode cX12_readPowers 113 = .ok (.iconst 1, 1) := by decide +kernel
theorem dX12_readPowers_114 : decode cX12_readPowers 114 = .ok (.goto 4, 3) := by decide +kernel
theorem dX12_readPowers_117 : decode cX12_readPowers 117 = .ok (.iconst 0, 1) := by decide +kernel
theorem dX12_readPowers_118 : decode cX12_readPowers 118 = .ok (.putfield 352, 3) := by decide +kernel
theorem dX12_readPowers_121 : decode cX12_readPowers 121 = .ok (.aload_n 0, 1) := by decide +kernel
theorem dX12_readPowers_122 : decode cX12_readPowers 122 = .ok (.getfield 352, 3) := by decide +kernel
theorem dX12_readPowers_125 : decode cX12_readPowers 125 = .ok (.ifCond .eq 7, 3) := by decide +kernel
theorem dX12_readPowers_128 : decode cX12_readPowers 128 = .ok (.iconst 0, 1) := by decide +kernel
theorem dX12_readPowers_129 : decode cX12_readPowers 129 = .ok (.goto 10, 3) := by decide +kernel
theorem dX12_readPowers_132 : decode cX12_readPowers 132 = .ok (.aload_n 0, 1) := by decide +kernel
theorem dX12_readPowers_133 : decode cX12_readPowers 133 = .ok (.invokevirtual 342, 3) := by decide +kernel
theorem dX12_readPowers_136 : decode cX12_readPowers 136 = .ok (.bipush 48, 2) := by decide +kernel
theorem dX12_readPowers_138 : decode cX12_readPowers 138 = .ok (.isub, 1) := by decide +kernel
theorem dX12_readPowers_139 : decode cX12_readPowers 139 = .ok (.istore 4, 2) := by decide +kernel
theorem dX12_readPowers_141 : decode cX12_readPowers 141 = .ok (.aload_n 0, 1) := by decide +kernel
theorem dX12_readPowers_142 : decode cX12_readPowers 142 = .ok (.dup, 1) := by decide +kernel
theorem dX12_readPowers_143 : decode cX12_readPowers 143 = .ok (.getfield 339, 3) := by decide +kernel
theorem dX12_readPowers_146 : decode cX12_readPowers 146 = .ok (.aload_n 0, 1) := by decide +kernel
theorem dX12_readPowers_147 : decode cX12_readPowers 147 = .ok (.getfield 352, 3) := by decide +kernel
theorem dX12_readPowers_150 : decode cX12_readPowers 150 = .ok (.ifCond .eq 7, 3) := by decide +kernel
theorem dX12_readPowers_153 : decode cX12_readPowers 153 = .ok (.iconst 0, 1) := by decide +kernel
theorem dX12_readPowers_154 : decode cX12_readPowers 154 = .ok (.goto 4, 3) := by decide +kernel
theorem dX12_readPowers_157 : decode cX12_readPowers 157 = .ok (.iconst 1, 1) := by decide +kernel
theorem dX12_readPowers_158 : decode cX12_readPowers 158 = .ok (.iadd, 1) := by decide +kernel
theorem dX12_readPowers_159 : decode cX12_readPowers 159 = .ok (.putfield 339, 3) := by decide +kernel
theorem dX12_readPowers_162 : decode cX12_readPowers 162 = .ok (.iload_n 2, 1) := by decide +kernel
theorem dX12_readPowers_163 : decode cX12_readPowers 163 = .ok (.iload 4, 2) := by decide +kernel
theorem dX12_readPowers_165 : decode cX12_readPowers 165 = .ok (.iadd, 1) := by decide +kernel
theorem dX12_readPowers_166 : decode cX12_readPowers 166 = .ok (.istore_n 2, 1) := by decide +kernel
theorem dX12_readPowers_167 : decode cX12_readPowers 167 = .ok (.iload_n 1, 1) := by decide +kernel
theorem dX12_readPowers_168 : decode cX12_readPowers 168 = .ok (.iload 4, 2) := by decide +kernel
theorem dX12_readPowers_170 : decode cX12_readPowers 170 = .ok (.iload_n 3, 1) := by decide +kernel
theorem dX12_readPowers_171 : decode cX12_readPowers 171 = .ok (.invokestatic 15, 3) := by decide +kernel
theorem dX12_readPowers_174 : decode cX12_readPowers 174 = .ok (.imul, 1) := by decide +kernel
theorem dX12_readPowers_175 : decode cX12_readPowers 175 = .ok (.iadd, 1) := by decide +kernel
theorem dX12_readPowers_176 : decode cX12_readPowers 176 = .ok (.istore_n 1, 1) := by decide +kernel
theorem dX12_readPowers_177 : decode cX12_readPowers 177 = .ok (.aload_n 0, 1) := by decide +kernel
theorem dX12_readPowers_178 : decode cX12_readPowers 178 = .ok (.iload_n 3, 1) := by decide +kernel
theorem dX12_readPowers_179 : decode cX12_readPowers 179 = .ok (.iconst 1, 1) := by decide +kernel
theorem dX12_readPowers_180 : decode cX12_readPowers 180 = .ok (.iadd, 1) := by decide +kernel
theorem dX12_readPowers_181 : decode cX12_readPowers 181 = .ok (.invokevirtual 349, 3) := by decide +kernel
theorem dX12_readPowers_184 : decode cX12_readPowers 184 = .ok (.istore_n 3, 1) := by decide +kernel
theorem dX12_readPowers_185 : decode cX12_readPowers 185 = .ok (.goto (-175), 3) := by decide +kernel
theorem dX12_readPowers_188 : decode cX12_readPowers 188 = .ok (.iload_n 1, 1) := by decide +kernel
theorem dX12_readPowers_189 : decode cX12_readPowers 189 = .ok (.ireturn, 1) := by decide +kernel
set_option maxHeartbeats 4000000 in
set_option maxRecDepth 100000 in
theorem cn_X12_readPowers {l : Launch} {cA : Nat → ClassId} {ad : Nat → Nat} {D : va_G} {E : Nat → Nat} {A : Nat → Prop}  {s0 sr : SS} {rr : Int32} (hf : f_X12_readPowers s0 = some (rr, sr)) : zCon Om Nm cA ad D E l yX12_readPowers cX12_readPowers 5 (some .int) 2 A [.ref (ad 0)] s0 (some (.int rr)) sr := by
  refine zstart (own := RX12) hOm (by decide) rfl (Nat.le_of_ble_eq_true rfl) ?_
  intro p e s m args below meth c X hP ls hl
  have hx := X.1
  have hb := X.2.1
  have hl : lv_has ls 5 [(0, .ref (ad 0))] := hl
  have hS : va_S A s.heap s.heap [] := va_S.rf
  have hc_10 : ∀ (n10 : Nat) (x1 : Int32) (x2 : Int32) (x3 : Int32) (s1 : SS) (H : Heap) (locs : List Loc) (ls : Array Slot), lv_has ls 5 [(0, .ref (ad 0)), (1, .int x1), (2, .int x2), (3, .int x3)] → va_P D ZCL (zw Om Nm cA ad s1) H → va_S A s.heap H locs → f_X12_readPowers_c10 n10 x1 x2 x3 s1 = some (rr, sr) → W p l e (zrm 2) s m args below meth c H locs 0 0 (MQ below (zQc Om Nm cA ad D A (some (.int rr)) sr) args s 0 0 A) (F0 m 10 ls []) := by
    intro n10
    induction n10 with
    | zero =>
      intro x1 x2 x3 s1 H locs ls hl hP hS hf
      rw [f_X12_readPowers_c10] at hf
      cases hf
    | succ n10 ih10 =>
      have hc_162 : ∀ (x1 : Int32) (x2 : Int32) (x3 : Int32) (x4 : Int32) (s1 : SS) (H : Heap) (locs : List Loc) (ls : Array Slot), lv_has ls 5 [(0, .ref (ad 0)), (1, .int x1), (2, .int x2), (3, .int x3), (4, .int x4)] → va_P D ZCL (zw Om Nm cA ad s1) H → va_S A s.heap H locs → f_X12_readPowers_c162 (f_X12_readPowers_c10 n10) x1 x2 x3 x4 s1 = some (rr, sr) → W p l e (zrm 2) s m args below meth c H locs 0 0 (MQ below (zQc Om Nm cA ad D A (some (.int rr)) sr) args s 0 0 A) (F0 m 162 ls []) := by
        intro x1 x2 x3 x4 s1 H locs ls hl hP hS hf
        rw [f_X12_readPowers_c162] at hf
        refine lv_iload_n hx hb dX12_readPowers_162 rfl (lv_at hl 2 rfl) ?_
        refine lv_iload hx hb dX12_readPowers_163 (lv_at hl 4 rfl) ?_
        refine lv_iadd hx hb dX12_readPowers_165 ?_
        refine lv_istore_n (lv' := [(2, .int (x2 + x4)), (0, .ref (ad 0)), (1, .int x1), (3, .int x3), (4, .int x4)]) hx hb dX12_readPowers_166 rfl hl (by decide) rfl (fun ls hl => ?_)
        refine lv_iload_n hx hb dX12_readPowers_167 rfl (lv_at hl 2 rfl) ?_
        refine lv_iload hx hb dX12_readPowers_168 (lv_at hl 4 rfl) ?_
        refine lv_iload_n hx hb dX12_readPowers_170 rfl (lv_at hl 3 rfl) ?_
        obtain ⟨r8, s9, h10, hf⟩ := zbd_some hf
        refine zcallS X hP hS hl.1 (As := [.int x3]) (rest := [.int x4, .int x1]) (cn_X12_tens h10) cw_X12_tens ml_X12_15 (by decide) rfl rfl (Nat.le_of_ble_eq_true rfl) dX12_readPowers_171 (fun H locs hP hS => ?_)
        refine lv_imul hx hb dX12_readPowers_174 ?_
        refine lv_iadd hx hb dX12_readPowers_175 ?_
        refine lv_istore_n (lv' := [(1, .int (x1 + (x4 * r8))), (2, .int (x2 + x4)), (0, .ref (ad 0)), (3, .int x3), (4, .int x4)]) hx hb dX12_readPowers_176 rfl hl (by decide) rfl (fun ls hl => ?_)
        refine lv_aload_n hx hb dX12_readPowers_177 rfl (lv_at hl 2 rfl) ?_
        refine lv_iload_n hx hb dX12_readPowers_178 rfl (lv_at hl 3 rfl) ?_
        refine lv_iconst (v := 1) hx hb dX12_readPowers_179 (by decide) ?_
        refine lv_iadd hx hb dX12_readPowers_180 ?_
        obtain ⟨r11, s12, h13, hf⟩ := zbd_some hf
        refine zcallV X hP hS hl.1 (k := 0) (As := [.int (x3 + (1 : Int32))]) (rest := []) (cn_X12_letterHere h13) cw_X12_letterHere zp_12 rfl (by decide) rfl ml_X12_349 (by decide) rfl rfl (Nat.le_of_ble_eq_true rfl) dX12_readPowers_181 (fun H locs hP hS => ?_)
        refine lv_istore_n (lv' := [(3, .int r11), (1, .int (x1 + (x4 * r8))), (2, .int (x2 + x4)), (0, .ref (ad 0)), (4, .int x4)]) hx hb dX12_readPowers_184 rfl hl (by decide) rfl (fun ls hl => ?_)
        refine lv_goto (tgt := 10) hx hb dX12_readPowers_185 (by decide) ?_
        exact ih10 (x1 + (x4 * r8)) (x2 + x4) r11 s12 _ _ _ (lv_sub hl [3, 1, 2, 0] rfl) hP hS hf
      have hc_158 : ∀ (x1 : Int32) (x2 : Int32) (x3 : Int32) (x4 : Int32) (t0 : Int32) (t1 : Int32) (s1 : SS) (H : Heap) (locs : List Loc) (ls : Array Slot), lv_has ls 5 [(0, .ref (ad 0)), (1, .int x1), (2, .int x2), (3, .int x3), (4, .int x4)] → va_P D ZCL (zw Om Nm cA ad s1) H → va_S A s.heap H locs → f_X12_readPowers_c158 (f_X12_readPowers_c10 n10) x1 x2 x3 x4 t0 t1 s1 = some (rr, sr) → W p l e (zrm 2) s m args below meth c H locs 0 0 (MQ below (zQc Om Nm cA ad D A (some (.int rr)) sr) args s 0 0 A) (F0 m 158 ls [.int t0, .int t1, .ref (ad 0)]) := by
        intro x1 x2 x3 x4 t0 t1 s1 H locs ls hl hP hS hf
        rw [f_X12_readPowers_c158] at hf
        refine lv_iadd hx hb dX12_readPowers_158 ?_
        refine pf_X12_339 X hP hS (k := 0) rfl dX12_readPowers_159 (fun H locs hP hS => ?_)
        exact hc_162 x1 x2 x3 x4 (zS s1 0 52 (t1 + t0)) _ _ _ (lv_sub hl [0, 1, 2, 3, 4] rfl) hP hS hf
      have hc_139 : ∀ (x1 : Int32) (x2 : Int32) (x3 : Int32) (t0 : Int32) (s1 : SS) (H : Heap) (locs : List Loc) (ls : Array Slot), lv_has ls 5 [(0, .ref (ad 0)), (1, .int x1), (2, .int x2), (3, .int x3)] → va_P D ZCL (zw Om Nm cA ad s1) H → va_S A s.heap H locs → f_X12_readPowers_c139 (f_X12_readPowers_c10 n10) x1 x2 x3 t0 s1 = some (rr, sr) → W p l e (zrm 2) s m args below meth c H locs 0 0 (MQ below (zQc Om Nm cA ad D A (some (.int rr)) sr) args s 0 0 A) (F0 m 139 ls [.int t0]) := by
        intro x1 x2 x3 t0 s1 H locs ls hl hP hS hf
        rw [f_X12_readPowers_c139] at hf
        refine lv_istore (lv' := [(4, .int t0), (0, .ref (ad 0)), (1, .int x1), (2, .int x2), (3, .int x3)]) hx hb dX12_readPowers_139 hl (by decide) rfl (fun ls hl => ?_)
        refine lv_aload_n hx hb dX12_readPowers_141 rfl (lv_at hl 1 rfl) ?_
        refine lv_dup hx hb dX12_readPowers_142 rfl ?_
        refine gf_X12_339 X hP (k := 0) rfl dX12_readPowers_143 ?_
        refine lv_aload_n hx hb dX12_readPowers_146 rfl (lv_at hl 1 rfl) ?_
        refine gf_X12_352 X hP (k := 0) rfl dX12_readPowers_147 ?_
        refine zif_eq (tgt := 157) hx hb dX12_readPowers_150 (by decide) hf (fun hf => ?_) (fun hf => ?_)
        · refine lv_iconst (v := 1) hx hb dX12_readPowers_157 (by decide) ?_
          exact hc_158 x1 x2 x3 t0 1 (s1.1 0 52) s1 _ _ _ (lv_sub hl [1, 2, 3, 4, 0] rfl) hP hS hf
        · refine lv_iconst (v := 0) hx hb dX12_readPowers_153 (by decide) ?_
          refine lv_goto (tgt := 158) hx hb dX12_readPowers_154 (by decide) ?_
          exact hc_158 x1 x2 x3 t0 0 (s1.1 0 52) s1 _ _ _ (lv_sub hl [1, 2, 3, 4, 0] rfl) hP hS hf
      have hc_118 : ∀ (x1 : Int32) (x2 : Int32) (x3 : Int32) (t0 : Int32) (s1 : SS) (H : Heap) (locs : List Loc) (ls : Array Slot), lv_has ls 5 [(0, .ref (ad 0)), (1, .int x1), (2, .int x2), (3, .int x3)] → va_P D ZCL (zw Om Nm cA ad s1) H → va_S A s.heap H locs → f_X12_readPowers_c118 (f_X12_readPowers_c10 n10) x1 x2 x3 t0 s1 = some (rr, sr) → W p l e (zrm 2) s m args below meth c H locs 0 0 (MQ below (zQc Om Nm cA ad D A (some (.int rr)) sr) args s 0 0 A) (F0 m 118 ls [.int t0, .ref (ad 0)]) := by
        intro x1 x2 x3 t0 s1 H locs ls hl hP hS hf
        rw [f_X12_readPowers_c118] at hf
        obtain ⟨b20, hf⟩ := zgd hf
        refine pf_X12_352 X hP hS (k := 0) rfl b20 dX12_readPowers_118 (fun H locs hP hS => ?_)
        refine lv_aload_n hx hb dX12_readPowers_121 rfl (lv_at hl 0 rfl) ?_
        refine gf_X12_352 X hP (k := 0) rfl dX12_readPowers_122 ?_
        refine zif_eq (tgt := 132) hx hb dX12_readPowers_125 (by decide) hf (fun hf => ?_) (fun hf => ?_)
        · refine lv_aload_n hx hb dX12_readPowers_132 rfl (lv_at hl 0 rfl) ?_
          obtain ⟨r21, s22, h23, hf⟩ := zbd_some hf
          refine zcallV X hP hS hl.1 (k := 0) (As := []) (rest := []) (cn_X12_here h23) cw_X12_here zp_12 rfl (by decide) rfl ml_X12_342 (by decide) rfl rfl (Nat.le_of_ble_eq_true rfl) dX12_readPowers_133 (fun H locs hP hS => ?_)
          refine lv_bipush (v := 48) hx hb dX12_readPowers_136 (by decide) ?_
          refine lv_isub hx hb dX12_readPowers_138 ?_
          exact hc_139 x1 x2 x3 (r21 - (48 : Int32)) s22 _ _ _ (lv_sub hl [0, 1, 2, 3] rfl) hP hS hf
        · refine lv_iconst (v := 0) hx hb dX12_readPowers_128 (by decide) ?_
          refine lv_goto (tgt := 139) hx hb dX12_readPowers_129 (by decide) ?_
          exact hc_139 x1 x2 x3 0 (zS s1 0 53 t0) _ _ _ (lv_sub hl [0, 1, 2, 3] rfl) hP hS hf
      have hc_113 : ∀ (x1 : Int32) (x2 : Int32) (x3 : Int32) (s1 : SS) (H : Heap) (locs : List Loc) (ls : Array Slot), lv_has ls 5 [(0, .ref (ad 0)), (1, .int x1), (2, .int x2), (3, .int x3)] → va_P D ZCL (zw Om Nm cA ad s1) H → va_S A s.heap H locs → f_X12_readPowers_c113 (f_X12_readPowers_c10 n10) x1 x2 x3 s1 = some (rr, sr) → W p l e (zrm 2) s m args below meth c H locs 0 0 (MQ below (zQc Om Nm cA ad D A (some (.int rr)) sr) args s 0 0 A) (F0 m 113 ls [.ref (ad 0)]) := by
        intro x1 x2 x3 s1 H locs ls hl hP hS hf
        rw [f_X12_readPowers_c113] at hf
        refine lv_iconst (v := 1) hx hb dX12_readPowers_113 (by decide) ?_
        refine lv_goto (tgt := 118) hx hb dX12_readPowers_114 (by decide) ?_
        exact hc_118 x1 x2 x3 1 s1 _ _ _ (lv_sub hl [0, 1, 2, 3] rfl) hP hS hf
      have hc_37 : ∀ (x1 : Int32) (x2 : Int32) (x3 : Int32) (t0 : Int32) (s1 : SS) (H : Heap) (locs : List Loc) (ls : Array Slot), lv_has ls 5 [(0, .ref (ad 0)), (1, .int x1), (2, .int x2), (3, .int x3)] → va_P D ZCL (zw Om Nm cA ad s1) H → va_S A s.heap H locs → f_X12_readPowers_c37 (f_X12_readPowers_c10 n10) x1 x2 x3 t0 s1 = some (rr, sr) → W p l e (zrm 2) s m args below meth c H locs 0 0 (MQ below (zQc Om Nm cA ad D A (some (.int rr)) sr) args s 0 0 A) (F0 m 37 ls [.int t0, .ref (ad 0)]) := by
        intro x1 x2 x3 t0 s1 H locs ls hl hP hS hf
        rw [f_X12_readPowers_c37] at hf
        obtain ⟨b4, hf⟩ := zgd hf
        refine pf_X12_352 X hP hS (k := 0) rfl b4 dX12_readPowers_37 (fun H locs hP hS => ?_)
        refine lv_aload_n hx hb dX12_readPowers_40 rfl (lv_at hl 0 rfl) ?_
        refine gf_X12_352 X hP (k := 0) rfl dX12_readPowers_41 ?_
        refine zif_ne (tgt := 10) hx hb dX12_readPowers_44 (by decide) hf (fun hf => ?_) (fun hf => ?_)
        · exact ih10 x1 x2 x3 (zS s1 0 53 t0) _ _ _ (lv_sub hl [0, 1, 2, 3] rfl) hP hS hf
        · refine lv_aload_n hx hb dX12_readPowers_47 rfl (lv_at hl 0 rfl) ?_
          refine lv_dup hx hb dX12_readPowers_48 rfl ?_
          refine gf_X12_339 X hP (k := 0) rfl dX12_readPowers_49 ?_
          refine lv_iconst (v := 1) hx hb dX12_readPowers_52 (by decide) ?_
          refine lv_iadd hx hb dX12_readPowers_53 ?_
          refine pf_X12_339 X hP hS (k := 0) rfl dX12_readPowers_54 (fun H locs hP hS => ?_)
          refine lv_iconst (v := 1) hx hb dX12_readPowers_57 (by decide) ?_
          refine lv_istore (lv' := [(4, .int 1), (0, .ref (ad 0)), (1, .int x1), (2, .int x2), (3, .int x3)]) hx hb dX12_readPowers_58 hl (by decide) rfl (fun ls hl => ?_)
          refine lv_aload_n hx hb dX12_readPowers_60 rfl (lv_at hl 1 rfl) ?_
          obtain ⟨r5, s6, h7, hf⟩ := zbd_some hf
          refine zcallV X hP hS hl.1 (k := 0) (As := []) (rest := []) (cn_X12_here h7) cw_X12_here zp_12 rfl (by decide) rfl ml_X12_342 (by decide) rfl rfl (Nat.le_of_ble_eq_true rfl) dX12_readPowers_61 (fun H locs hP hS => ?_)
          refine lv_bipush (v := 94) hx hb dX12_readPowers_64 (by decide) ?_
          refine zicmp_ne (tgt := 162) hx hb dX12_readPowers_66 (by decide) hf (fun hf => ?_) (fun hf => ?_)
          · exact hc_162 x1 x2 x3 1 s6 _ _ _ (lv_sub hl [1, 2, 3, 4, 0] rfl) hP hS hf
          · refine lv_aload_n hx hb dX12_readPowers_69 rfl (lv_at hl 1 rfl) ?_
            refine lv_dup hx hb dX12_readPowers_70 rfl ?_
            refine gf_X12_339 X hP (k := 0) rfl dX12_readPowers_71 ?_
            refine lv_iconst (v := 1) hx hb dX12_readPowers_74 (by decide) ?_
            refine lv_iadd hx hb dX12_readPowers_75 ?_
            refine pf_X12_339 X hP hS (k := 0) rfl dX12_readPowers_76 (fun H locs hP hS => ?_)
            refine lv_aload_n hx hb dX12_readPowers_79 rfl (lv_at hl 1 rfl) ?_
            refine lv_aload_n hx hb dX12_readPowers_80 rfl (lv_at hl 1 rfl) ?_
            obtain ⟨r14, s15, h16, hf⟩ := zbd_some hf
            refine zcallV X hP hS hl.1 (k := 0) (As := []) (rest := [.ref (ad 0)]) (cn_X12_here h16) cw_X12_here zp_12 rfl (by decide) rfl ml_X12_342 (by decide) rfl rfl (Nat.le_of_ble_eq_true rfl) dX12_readPowers_81 (fun H locs hP hS => ?_)
            refine lv_i2l hx hb dX12_readPowers_84 rfl ?_
            refine zldc2 X co_X12_356 dX12_readPowers_85 ?_
            refine zldc2 X co_X12_358 dX12_readPowers_88 ?_
            obtain ⟨r17, s18, h19, hf⟩ := zbd_some hf
            refine zcallS X hP hS hl.1 (As := [.long (r14).toInt64, .long 49, .long 53]) (rest := [.ref (ad 0)]) (cn_X12_in h19) cw_X12_in ml_X12_203 (by decide) rfl rfl (Nat.le_of_ble_eq_true rfl) dX12_readPowers_91 (fun H locs hP hS => ?_)
            refine zif_eq (tgt := 113) hx hb dX12_readPowers_94 (by decide) hf (fun hf => ?_) (fun hf => ?_)
            · exact hc_113 x1 x2 x3 s18 _ _ _ (lv_sub hl [1, 2, 3, 4] rfl) hP hS hf
            · refine lv_iload_n hx hb dX12_readPowers_97 rfl (lv_at hl 3 rfl) ?_
              refine lv_aload_n hx hb dX12_readPowers_98 rfl (lv_at hl 1 rfl) ?_
              obtain ⟨r24, s25, h26, hf⟩ := zbd_some hf
              refine zcallV X hP hS hl.1 (k := 0) (As := []) (rest := [.int x2, .ref (ad 0)]) (cn_X12_here h26) cw_X12_here zp_12 rfl (by decide) rfl ml_X12_342 (by decide) rfl rfl (Nat.le_of_ble_eq_true rfl) dX12_readPowers_99 (fun H locs hP hS => ?_)
              refine lv_iadd hx hb dX12_readPowers_102 ?_
              refine lv_bipush (v := 48) hx hb dX12_readPowers_103 (by decide) ?_
              refine lv_isub hx hb dX12_readPowers_105 ?_
              refine lv_aload_n hx hb dX12_readPowers_106 rfl (lv_at hl 1 rfl) ?_
              refine gf_X12_27 X hP (k := 0) rfl dX12_readPowers_107 ?_
              refine zicmp_le (tgt := 117) hx hb dX12_readPowers_110 (by decide) hf (fun hf => ?_) (fun hf => ?_)
              · refine lv_iconst (v := 0) hx hb dX12_readPowers_117 (by decide) ?_
                exact hc_118 x1 x2 x3 0 s25 _ _ _ (lv_sub hl [1, 2, 3, 4] rfl) hP hS hf
              · exact hc_113 x1 x2 x3 s25 _ _ _ (lv_sub hl [1, 2, 3, 4] rfl) hP hS hf
      intro x1 x2 x3 s1 H locs ls hl hP hS hf
      rw [f_X12_readPowers_c10] at hf
      refine lv_iload_n hx hb dX12_readPowers_10 rfl (lv_at hl 3 rfl) ?_
      refine zif_lt (tgt := 188) hx hb dX12_readPowers_11 (by decide) hf (fun hf => ?_) (fun hf => ?_)
      · refine lv_iload_n hx hb dX12_readPowers_188 rfl (lv_at hl 1 rfl) ?_
        exact zret_i X hP hS hf rfl dX12_readPowers_189
      · refine lv_aload_n hx hb dX12_readPowers_14 rfl (lv_at hl 0 rfl) ?_
        refine gf_X12_352 X hP (k := 0) rfl dX12_readPowers_15 ?_
        refine zif_ne (tgt := 188) hx hb dX12_readPowers_18 (by decide) hf (fun hf => ?_) (fun hf => ?_)
        · refine lv_iload_n hx hb dX12_readPowers_188 rfl (lv_at hl 1 rfl) ?_
          exact zret_i X hP hS hf rfl dX12_readPowers_189
        · refine lv_aload_n hx hb dX12_readPowers_21 rfl (lv_at hl 0 rfl) ?_
          refine lv_iload_n hx hb dX12_readPowers_22 rfl (lv_at hl 2 rfl) ?_
          refine lv_iconst (v := 1) hx hb dX12_readPowers_23 (by decide) ?_
          refine lv_iadd hx hb dX12_readPowers_24 ?_
          refine lv_aload_n hx hb dX12_readPowers_25 rfl (lv_at hl 0 rfl) ?_
          refine gf_X12_27 X hP (k := 0) rfl dX12_readPowers_26 ?_
          refine zicmp_le (tgt := 36) hx hb dX12_readPowers_29 (by decide) hf (fun hf => ?_) (fun hf => ?_)
          · refine lv_iconst (v := 0) hx hb dX12_readPowers_36 (by decide) ?_
            exact hc_37 x1 x2 x3 0 s1 _ _ _ (lv_sub hl [0, 1, 2, 3] rfl) hP hS hf
          · refine lv_iconst (v := 1) hx hb dX12_readPowers_32 (by decide) ?_
            refine lv_goto (tgt := 37) hx hb dX12_readPowers_33 (by decide) ?_
            exact hc_37 x1 x2 x3 1 s1 _ _ _ (lv_sub hl [0, 1, 2, 3] rfl) hP hS hf
  rw [f_X12_readPowers] at hf
  refine lv_iconst (v := 0) hx hb dX12_readPowers_0 (by decide) ?_
  refine lv_istore_n (lv' := [(1, .int 0), (0, .ref (ad 0))]) hx hb dX12_readPowers_1 rfl hl (by decide) rfl (fun ls hl => ?_)
  refine lv_iconst (v := 0) hx hb dX12_readPowers_2 (by decide) ?_
  refine lv_istore_n (lv' := [(2, .int 0), (1, .int 0), (0, .ref (ad 0))]) hx hb dX12_readPowers_3 rfl hl (by decide) rfl (fun ls hl => ?_)
  refine lv_aload_n hx hb dX12_readPowers_4 rfl (lv_at hl 2 rfl) ?_
  refine lv_iconst (v := 0) hx hb dX12_readPowers_5 (by decide) ?_
  obtain ⟨r1, s2, h3, hf⟩ := zbd_some hf
  refine zcallV X hP hS hl.1 (k := 0) (As := [.int 0]) (rest := []) (cn_X12_letterHere h3) cw_X12_letterHere zp_12 rfl (by decide) rfl ml_X12_349 (by decide) rfl rfl (Nat.le_of_ble_eq_true rfl) dX12_readPowers_6 (fun H locs hP hS => ?_)
  refine lv_istore_n (lv' := [(3, .int r1), (2, .int 0), (1, .int 0), (0, .ref (ad 0))]) hx hb dX12_readPowers_9 rfl hl (by decide) rfl (fun ls hl => ?_)
  exact hc_10 ZF 0 0 r1 s2 _ _ _ (lv_sub hl [3, 2, 1, 0] rfl) hP hS hf
theorem dX12_readMember_0 : decode cX12_readMember 0 = .ok (.lconst 0, 1) := by decide +kernel
theorem dX12_readMember_1 : decode cX12_readMember 1 = .ok (.lstore_n 3, 1) := by decide +kernel
theorem dX12_readMember_2 : decode cX12_readMember 2 = .ok (.iconst 0, 1) := by decide +kernel
theorem dX12_readMember_3 : decode cX12_readMember 3 = .ok (.istore 5, 2) := by decide +kernel
theorem dX12_readMember_5 : decode cX12_readMember 5 = .ok (.iload 5, 2) := by decide +kernel
theorem dX12_readMember_7 : decode cX12_readMember 7 = .ok (.iconst 4, 1) := by decide +kernel
theorem dX12_readMember_8 : decode cX12_readMember 8 = .ok (.if_icmp .ge 42, 3) := by decide +kernel
theorem dX12_readMember_11 : decode cX12_readMember 11 = .ok (.aload_n 0, 1) := by decide +kernel
theorem dX12_readMember_12 : decode cX12_readMember 12 = .ok (.invokevirtual 360, 3) := by decide +kernel
theorem dX12_readMember_15 : decode cX12_readMember 15 = .ok (.ifCond .eq 35, 3) := by decide +kernel
theorem dX12_readMember_18 : decode cX12_readMember 18 = .ok (.ldc2_w 363, 3) := by decide +kernel
theorem dX12_readMember_21 : decode cX12_readMember 21 = .ok (.lload_n 3, 1) := by decide +kernel
theorem dX12_readMember_22 : decode cX12_readMember 22 = .ok (.lmul, 1) := by decide +kernel
theorem dX12_readMember_23 : decode cX12_readMember 23 = .ok (.aload_n 0, 1) := by decide +kernel
theorem dX12_readMember_24 : decode cX12_readMember 24 = .ok (.invokevirtual 342, 3) := by decide +kernel
theorem dX12_readMember_27 : decode cX12_readMember 27 = .ok (.i2l, 1) := by decide +kernel
theorem dX12_readMember_28 : decode cX12_readMember 28 = .ok (.ladd, 1) := by decide +kernel
theorem dX12_readMember_29 : decode cX12_readMember 29 = .ok (.ldc2_w 345, 3) := by decide +kernel
theorem dX12_readMember_32 : decode cX12_readMember 32 = .ok (.lsub, 1) := by decide +kernel
theorem dX12_readMember_33 : decode cX12_readMember 33 = .ok (.lstore_n 3, 1) := by decide +kernel
theorem dX12_readMember_34 : decode cX12_readMember 34 = .ok (.iinc 5 1, 3) := by decide +kernel
theorem dX12_readMember_37 : decode cX12_readMember 37 = .ok (.aload_n 0, 1) := by decide +kernel
theorem dX12_readMember_38 : decode cX12_readMember 38 = .ok (.dup, 1) := by decide +kernel
theorem dX12_readMember_39 : decode cX12_readMember 39 = .ok (.getfield 339, 3) := by decide +kernel
theorem dX12_readMember_42 : decode cX12_readMember 42 = .ok (.iconst 1, 1) := by decide +kernel
theorem dX12_readMember_43 : decode cX12_readMember 43 = .ok (.iadd, 1) := by decide +kernel
theorem dX12_readMember_44 : decode cX12_readMember 44 = .ok (.putfield 339, 3) := by decide +kernel
theorem dX12_readMember_47 : decode cX12_readMember 47 = .ok (.goto (-42), 3) := by decide +kernel
theorem dX12_readMember_50 : decode cX12_readMember 50 = .ok (.iload 5, 2) := by decide +kernel
theorem dX12_readMember_52 : decode cX12_readMember 52 = .ok (.ifCond .ne 17, 3) := by decide +kernel
theorem dX12_readMember_55 : decode cX12_readMember 55 = .ok (.aload_n 0, 1) := by decide +kernel
theorem dX12_readMember_56 : decode cX12_readMember 56 = .ok (.iconst 0, 1) := by decide +kernel
theorem dX12_readMember_57 : decode cX12_readMember 57 = .ok (.invokevirtual 349, 3) := by decide +kernel
theorem dX12_readMember_60 : decode cX12_readMember 60 = .ok (.ifCond .ge 9, 3) := by decide +kernel
theorem dX12_readMember_63 : decode cX12_readMember 63 = .ok (.aload_n 0, 1) := by decide +kernel
theorem dX12_readMember_64 : decode cX12_readMember 64 = .ok (.iconst 1, 1) := by decide +kernel
theorem dX12_readMember_65 : decode cX12_readMember 65 = .ok (.putfield 352, 3) := by decide +kernel
theorem dX12_readMember_68 : decode cX12_readMember 68 = .ok (.return_, 1) := by decide +kernel
theorem dX12_readMember_69 : decode cX12_readMember 69 = .ok (.aload_n 0, 1) := by decide +kernel
theorem dX12_readMember_70 : decode cX12_readMember 70 = .ok (.invokevirtual 365, 3) := by decide +kernel
theorem dX12_readMember_73 : decode cX12_readMember 73 = .ok (.istore 6, 2) := by decide +kernel
theorem dX12_readMember_75 : decode cX12_readMember 75 = .ok (.aload_n 0, 1) := by decide +kernel
theorem dX12_readMember_76 : decode cX12_readMember 76 = .ok (.getfield 352, 3) := by decide +kernel
theorem dX12_readMember_79 : decode cX12_readMember 79 = .ok (.ifCond .ne 30, 3) := by decide +kernel
theorem dX12_readMember_82 : decode cX12_readMember 82 = .ok (.aload_n 0, 1) := by decide +kernel
theorem dX12_readMember_83 : decode cX12_readMember 83 = .ok (.getfield 117, 3) := by decide +kernel
theorem dX12_readMember_86 : decode cX12_readMember 86 = .ok (.aload_n 0, 1) := by decide +kernel
theorem dX12_readMember_87 : decode cX12_readMember 87 = .ok (.getfield 65, 3) := by decide +kernel
theorem dX12_readMember_90 : decode cX12_readMember 90 = .ok (.iload 6, 2) := by decide +kernel
theorem dX12_readMember_92 : decode cX12_readMember 92 = .ok (.iaload, 1) := by decide +kernel
theorem dX12_readMember_93 : decode cX12_readMember 93 = .ok (.dup2, 1) := by decide +kernel
theorem dX12_readMember_94 : decode cX12_readMember 94 = .ok (.laload, 1) := by decide +kernel
theorem dX12_readMember_95 : decode cX12_readMember 95 = .ok (.lload_n 1, 1) := by decide +kernel
theorem dX12_readMember_96 : decode cX12_readMember 96 = .ok (.iload 5, 2) := by decide +kernel
theorem dX12_readMember_98 : decode cX12_readMember 98 = .ok (.ifCond .ne 7, 3) := by decide +kernel
theorem dX12_readMember_101 : decode cX12_readMember 101 = .ok (.lconst 1, 1) := by decide +kernel
theorem dX12_readMember_102 : decode cX12_readMember 102 = .ok (.goto 4, 3) := by decide +kernel
theorem dX12_readMember_105 : decode cX12_readMember 105 = .ok (.lload_n 3, 1) := by decide +kernel
theorem dX12_readMember_106 : decode cX12_readMember 106 = .ok (.lmul, 1) := by decide +kernel
theorem dX12_readMember_107 : decode cX12_readMember 107 = .ok (.ladd, 1) := by decide +kernel
theorem dX12_readMember_108 : decode cX12_readMember 108 = .ok (.lastore, 1) := by decide +kernel
theorem dX12_readMember_109 : decode cX12_readMember 109 = .ok (.return_, 1) := by decide +kernel
set_option maxHeartbeats 4000000 in
set_option maxRecDepth 100000 in
theorem cn_X12_readMember {l : Launch} {cA : Nat → ClassId} {ad : Nat → Nat} {D : va_G} {E : Nat → Nat} {A : Nat → Prop} {x1 : Int64} {s0 sr : SS} {rr : Unit} (hf : f_X12_readMember x1 s0 = some (rr, sr)) : zCon Om Nm cA ad D E l yX12_readMember cX12_readMember 7 none 3 A [.ref (ad 0), .long x1] s0 none sr := by
  refine zstart (own := RX12) hOm (by decide) rfl (Nat.le_of_ble_eq_true rfl) ?_
  intro p e s m args below meth c X hP ls hl
  have hx := X.1
  have hb := X.2.1
  have hl : lv_has ls 7 [(0, .ref (ad 0)), (1, .long x1)] := hl
  have hS : va_S A s.heap s.heap [] := va_S.rf
  have hc_5 : ∀ (n5 : Nat) (x1 : Int64) (x3 : Int64) (x5 : Int32) (s1 : SS) (H : Heap) (locs : List Loc) (ls : Array Slot), lv_has ls 7 [(0, .ref (ad 0)), (1, .long x1), (3, .long x3), (5, .int x5)] → va_P D ZCL (zw Om Nm cA ad s1) H → va_S A s.heap H locs → f_X12_readMember_c5 n5 x1 x3 x5 s1 = some (rr, sr) → W p l e (zrm 3) s m args below meth c H locs 0 0 (MQ below (zQc Om Nm cA ad D A none sr) args s 0 0 A) (F0 m 5 ls []) := by
    intro n5
    induction n5 with
    | zero =>
      intro x1 x3 x5 s1 H locs ls hl hP hS hf
      rw [f_X12_readMember_c5] at hf
      cases hf
    | succ n5 ih5 =>
      have hc_106 : ∀ (t0 : Int64) (t1 : Int64) (t2 : Int64) (t3 : Int32) (s1 : SS) (H : Heap) (locs : List Loc) (ls : Array Slot), lv_has ls 7 [] → va_P D ZCL (zw Om Nm cA ad s1) H → va_S A s.heap H locs → f_X12_readMember_c106 t0 t1 t2 t3 s1 = some (rr, sr) → W p l e (zrm 3) s m args below meth c H locs 0 0 (MQ below (zQc Om Nm cA ad D A none sr) args s 0 0 A) (F0 m 106 ls [.long t0, .long t1, .long t2, .int t3, .ref (ad 15)]) := by
        intro t0 t1 t2 t3 s1 H locs ls hl hP hS hf
        rw [f_X12_readMember_c106] at hf
        refine lv_lmul hx hb dX12_readMember_106 ?_
        refine lv_ladd hx hb dX12_readMember_107 ?_
        obtain ⟨g6, hf⟩ := zgd hf
        refine zast_l X hP hS (k := 15) (n := 462) (rs := []) rfl g6 dX12_readMember_108 (fun H locs hP hS => ?_)
        exact zret_v X hP hS hf dX12_readMember_109
      have hc_69 : ∀ (x1 : Int64) (x3 : Int64) (x5 : Int32) (s1 : SS) (H : Heap) (locs : List Loc) (ls : Array Slot), lv_has ls 7 [(0, .ref (ad 0)), (1, .long x1), (3, .long x3), (5, .int x5)] → va_P D ZCL (zw Om Nm cA ad s1) H → va_S A s.heap H locs → f_X12_readMember_c69 x1 x3 x5 s1 = some (rr, sr) → W p l e (zrm 3) s m args below meth c H locs 0 0 (MQ below (zQc Om Nm cA ad D A none sr) args s 0 0 A) (F0 m 69 ls []) := by
        intro x1 x3 x5 s1 H locs ls hl hP hS hf
        rw [f_X12_readMember_c69] at hf
        refine lv_aload_n hx hb dX12_readMember_69 rfl (lv_at hl 0 rfl) ?_
        obtain ⟨r1, s2, h3, hf⟩ := zbd_some hf
        refine zcallV X hP hS hl.1 (k := 0) (As := []) (rest := []) (cn_X12_readPowers h3) cw_X12_readPowers zp_12 rfl (by decide) rfl ml_X12_365 (by decide) rfl rfl (Nat.le_of_ble_eq_true rfl) dX12_readMember_70 (fun H locs hP hS => ?_)
        refine lv_istore (lv' := [(6, .int r1), (0, .ref (ad 0)), (1, .long x1), (3, .long x3), (5, .int x5)]) hx hb dX12_readMember_73 hl (by decide) rfl (fun ls hl => ?_)
        refine lv_aload_n hx hb dX12_readMember_75 rfl (lv_at hl 1 rfl) ?_
        refine gf_X12_352 X hP (k := 0) rfl dX12_readMember_76 ?_
        refine zif_ne (tgt := 109) hx hb dX12_readMember_79 (by decide) hf (fun hf => ?_) (fun hf => ?_)
        · exact zret_v X hP hS hf dX12_readMember_109
        · refine lv_aload_n hx hb dX12_readMember_82 rfl (lv_at hl 1 rfl) ?_
          refine gf_X12_117 X hP (k := 0) (q := 15) rfl dX12_readMember_83 rfl ?_
          refine lv_aload_n hx hb dX12_readMember_86 rfl (lv_at hl 1 rfl) ?_
          refine gf_X12_65 X hP (k := 0) (q := 7) rfl dX12_readMember_87 rfl ?_
          refine lv_iload hx hb dX12_readMember_90 (lv_at hl 0 rfl) ?_
          obtain ⟨g4, hf⟩ := zgd hf
          refine zald_i X hP (k := 7) (n := 600000) (rs := []) rfl g4 dX12_readMember_92 ?_
          refine lv_dup2_11 hx hb dX12_readMember_93 rfl rfl ?_
          obtain ⟨g5, hf⟩ := zgd hf
          refine zald_l X hP (k := 15) (n := 462) (rs := []) rfl g5 dX12_readMember_94 ?_
          refine lv_lload_n hx hb dX12_readMember_95 rfl (lv_at hl 2 rfl) ?_
          refine lv_iload hx hb dX12_readMember_96 (lv_at hl 4 rfl) ?_
          refine zif_ne (tgt := 105) hx hb dX12_readMember_98 (by decide) hf (fun hf => ?_) (fun hf => ?_)
          · refine lv_lload_n hx hb dX12_readMember_105 rfl (lv_at hl 3 rfl) ?_
            exact hc_106 x3 x1 (s2.2 15 ((s2.1 7 (r1).toNatClampNeg)).toNatClampNeg) (s2.1 7 (r1).toNatClampNeg) s2 _ _ _ (lv_sub hl [] rfl) hP hS hf
          · refine lv_lconst (v := 1) hx hb dX12_readMember_101 (by decide) ?_
            refine lv_goto (tgt := 106) hx hb dX12_readMember_102 (by decide) ?_
            exact hc_106 1 x1 (s2.2 15 ((s2.1 7 (r1).toNatClampNeg)).toNatClampNeg) (s2.1 7 (r1).toNatClampNeg) s2 _ _ _ (lv_sub hl [] rfl) hP hS hf
      have hc_50 : ∀ (x1 : Int64) (x3 : Int64) (x5 : Int32) (s1 : SS) (H : Heap) (locs : List Loc) (ls : Array Slot), lv_has ls 7 [(0, .ref (ad 0)), (1, .long x1), (3, .long x3), (5, .int x5)] → va_P D ZCL (zw Om Nm cA ad s1) H → va_S A s.heap H locs → f_X12_readMember_c50 x1 x3 x5 s1 = some (rr, sr) → W p l e (zrm 3) s m args below meth c H locs 0 0 (MQ below (zQc Om Nm cA ad D A none sr) args s 0 0 A) (F0 m 50 ls []) := by
        intro x1 x3 x5 s1 H locs ls hl hP hS hf
        rw [f_X12_readMember_c50] at hf
        refine lv_iload hx hb dX12_readMember_50 (lv_at hl 3 rfl) ?_
        refine zif_ne (tgt := 69) hx hb dX12_readMember_52 (by decide) hf (fun hf => ?_) (fun hf => ?_)
        · exact hc_69 x1 x3 x5 s1 _ _ _ (lv_sub hl [0, 1, 2, 3] rfl) hP hS hf
        · refine lv_aload_n hx hb dX12_readMember_55 rfl (lv_at hl 0 rfl) ?_
          refine lv_iconst (v := 0) hx hb dX12_readMember_56 (by decide) ?_
          obtain ⟨r7, s8, h9, hf⟩ := zbd_some hf
          refine zcallV X hP hS hl.1 (k := 0) (As := [.int 0]) (rest := []) (cn_X12_letterHere h9) cw_X12_letterHere zp_12 rfl (by decide) rfl ml_X12_349 (by decide) rfl rfl (Nat.le_of_ble_eq_true rfl) dX12_readMember_57 (fun H locs hP hS => ?_)
          refine zif_ge (tgt := 69) hx hb dX12_readMember_60 (by decide) hf (fun hf => ?_) (fun hf => ?_)
          · exact hc_69 x1 x3 x5 s8 _ _ _ (lv_sub hl [0, 1, 2, 3] rfl) hP hS hf
          · refine lv_aload_n hx hb dX12_readMember_63 rfl (lv_at hl 0 rfl) ?_
            refine lv_iconst (v := 1) hx hb dX12_readMember_64 (by decide) ?_
            refine pf_X12_352 X hP hS (k := 0) rfl (by decide) dX12_readMember_65 (fun H locs hP hS => ?_)
            exact zret_v X hP hS hf dX12_readMember_68
      intro x1 x3 x5 s1 H locs ls hl hP hS hf
      rw [f_X12_readMember_c5] at hf
      refine lv_iload hx hb dX12_readMember_5 (lv_at hl 3 rfl) ?_
      refine lv_iconst (v := 4) hx hb dX12_readMember_7 (by decide) ?_
      refine zicmp_ge (tgt := 50) hx hb dX12_readMember_8 (by decide) hf (fun hf => ?_) (fun hf => ?_)
      · exact hc_50 x1 x3 x5 s1 _ _ _ (lv_sub hl [0, 1, 2, 3] rfl) hP hS hf
      · refine lv_aload_n hx hb dX12_readMember_11 rfl (lv_at hl 0 rfl) ?_
        obtain ⟨r10, s11, h12, hf⟩ := zbd_some hf
        refine zcallV X hP hS hl.1 (k := 0) (As := []) (rest := []) (cn_X12_isFigure h12) cw_X12_isFigure zp_12 rfl (by decide) rfl ml_X12_360 (by decide) rfl rfl (Nat.le_of_ble_eq_true rfl) dX12_readMember_12 (fun H locs hP hS => ?_)
        refine zif_eq (tgt := 50) hx hb dX12_readMember_15 (by decide) hf (fun hf => ?_) (fun hf => ?_)
        · exact hc_50 x1 x3 x5 s11 _ _ _ (lv_sub hl [0, 1, 2, 3] rfl) hP hS hf
        · refine zldc2 X co_X12_363 dX12_readMember_18 ?_
          refine lv_lload_n hx hb dX12_readMember_21 rfl (lv_at hl 2 rfl) ?_
          refine lv_lmul hx hb dX12_readMember_22 ?_
          refine lv_aload_n hx hb dX12_readMember_23 rfl (lv_at hl 0 rfl) ?_
          obtain ⟨r13, s14, h15, hf⟩ := zbd_some hf
          refine zcallV X hP hS hl.1 (k := 0) (As := []) (rest := [.long ((10 : Int64) * x3)]) (cn_X12_here h15) cw_X12_here zp_12 rfl (by decide) rfl ml_X12_342 (by decide) rfl rfl (Nat.le_of_ble_eq_true rfl) dX12_readMember_24 (fun H locs hP hS => ?_)
          refine lv_i2l hx hb dX12_readMember_27 rfl ?_
          refine lv_ladd hx hb dX12_readMember_28 ?_
          refine zldc2 X co_X12_345 dX12_readMember_29 ?_
          refine lv_lsub hx hb dX12_readMember_32 ?_
          refine lv_lstore_n (lv' := [(3, .long ((((10 : Int64) * x3) + (r13).toInt64) - (48 : Int64))), (0, .ref (ad 0)), (1, .long x1), (5, .int x5)]) hx hb dX12_readMember_33 rfl hl (by decide) rfl (fun ls hl => ?_)
          refine lv_iinc (v := (x5 + 1)) (lv' := [(5, .int (x5 + 1)), (3, .long ((((10 : Int64) * x3) + (r13).toInt64) - (48 : Int64))), (0, .ref (ad 0)), (1, .long x1)]) hx hb dX12_readMember_34 hl (k := 3) rfl rfl (by decide) rfl (fun ls hl => ?_)
          refine lv_aload_n hx hb dX12_readMember_37 rfl (lv_at hl 2 rfl) ?_
          refine lv_dup hx hb dX12_readMember_38 rfl ?_
          refine gf_X12_339 X hP (k := 0) rfl dX12_readMember_39 ?_
          refine lv_iconst (v := 1) hx hb dX12_readMember_42 (by decide) ?_
          refine lv_iadd hx hb dX12_readMember_43 ?_
          refine pf_X12_339 X hP hS (k := 0) rfl dX12_readMember_44 (fun H locs hP hS => ?_)
          refine lv_goto (tgt := 5) hx hb dX12_readMember_47 (by decide) ?_
          exact ih5 x1 ((((10 : Int64) * x3) + (r13).toInt64) - (48 : Int64)) (x5 + 1) (zS s14 0 52 ((s14.1 0 52) + (1 : Int32))) _ _ _ (lv_sub hl [2, 3, 1, 0] rfl) hP hS hf
  rw [f_X12_readMember] at hf
  refine lv_lconst (v := 0) hx hb dX12_readMember_0 (by decide) ?_
  refine lv_lstore_n (lv' := [(3, .long 0), (0, .ref (ad 0)), (1, .long x1)]) hx hb dX12_readMember_1 rfl hl (by decide) rfl (fun ls hl => ?_)
  refine lv_iconst (v := 0) hx hb dX12_readMember_2 (by decide) ?_
  refine lv_istore (lv' := [(5, .int 0), (3, .long 0), (0, .ref (ad 0)), (1, .long x1)]) hx hb dX12_readMember_3 hl (by decide) rfl (fun ls hl => ?_)
  exact hc_5 ZF x1 0 0 s0 _ _ _ (lv_sub hl [2, 3, 1, 0] rfl) hP hS hf
theorem dX12_isClassText_0 : decode cX12_isClassText 0 = .ok (.aload_n 0, 1) := by decide +kernel
theorem dX12_isClassText_1 : decode cX12_isClassText 1 = .ok (.iconst 0, 1) := by decide +kernel
theorem dX12_isClassText_2 : decode cX12_isClassText 2 = .ok (.putfield 339, 3) := by decide +kernel
theorem dX12_isClassText_5 : decode cX12_isClassText 5 = .ok (.aload_n 0, 1) := by decide +kernel
theorem dX12_isClassText_6 : decode cX12_isClassText 6 = .ok (.iconst 0, 1) := by decide +kernel
theorem dX12_isClassText_7 : decode cX12_isClassText 7 = .ok (.putfield 352, 3) := by decide +kernel
theorem dX12_isClassText_10 : decode cX12_isClassText 10 = .ok (.aload_n 0, 1) := by decide +kernel
theorem dX12_isClassText_11 : decode cX12_isClassText 11 = .ok (.aload_n 0, 1) := by decide +kernel
theorem dX12_isClassText_12 : decode cX12_isClassText 12 = .ok (.getfield 117, 3) := by decide +kernel
theorem dX12_isClassText_15 : decode cX12_isClassText 15 = .ok (.invokevirtual 237, 3) := by decide +kernel
theorem dX12_isClassText_18 : decode cX12_isClassText 18 = .ok (.aload_n 0, 1) := by decide +kernel
theorem dX12_isClassText_19 : decode cX12_isClassText 19 = .ok (.invokevirtual 342, 3) := by decide +kernel
theorem dX12_isClassText_22 : decode cX12_isClassText 22 = .ok (.bipush 45, 2) := by decide +kernel
theorem dX12_isClassText_24 : decode cX12_isClassText 24 = .ok (.if_icmp .ne 9, 3) := by decide +kernel
theorem dX12_isClassText_27 : decode cX12_isClassText 27 = .ok (.ldc2_w 30, 3) := by decide +kernel
theorem dX12_isClassText_30 : decode cX12_isClassText 30 = .ok (.goto 4, 3) := by decide +kernel
theorem dX12_isClassText_33 : decode cX12_isClassText 33 = .ok (.lconst 1, 1) := by decide +kernel
theorem dX12_isClassText_34 : decode cX12_isClassText 34 = .ok (.lstore_n 1, 1) := by decide +kernel
theorem dX12_isClassText_35 : decode cX12_isClassText 35 = .ok (.aload_n 0, 1) := by decide +kernel
theorem dX12_isClassText_36 : decode cX12_isClassText 36 = .ok (.dup, 1) := by decide +kernel
theorem dX12_isClassText_37 : decode cX12_isClassText 37 = .ok (.getfield 339, 3) := by decide +kernel
theorem dX12_isClassText_40 : decode cX12_isClassText 40 = .ok (.lload_n 1, 1) := by decide +kernel
theorem dX12_isClassText_41 : decode cX12_isClassText 41 = .ok (.lconst 0, 1) := by decide +kernel
theorem dX12_isClassText_42 : decode cX12_isClassText 42 = .ok (.lcmp, 1) := by decide +kernel
theorem dX12_isClassText_43 : decode cX12_isClassText 43 = .ok (.ifCond .ge 7, 3) := by decide +kernel
theorem dX12_isClassText_46 : decode cX12_isClassText 46 = .ok (.iconst 1, 1) := by decide +kernel
theorem dX12_isClassText_47 : decode cX12_isClassText 47 = .ok (.goto 4, 3) := by decide +kernel
theorem dX12_isClassText_50 : decode cX12_isClassText 50 = .ok (.iconst 0, 1) := by decide +kernel
theorem dX12_isClassText_51 : decode cX12_isClassText 51 = .ok (.iadd, 1) := by decide +kernel
theorem dX12_isClassText_52 : decode cX12_isClassText 52 = .ok (.putfield 339, 3) := by decide +kernel
theorem dX12_isClassText_55 : decode cX12_isClassText 55 = .ok (.aload_n 0, 1) := by decide +kernel
theorem dX12_isClassText_56 : decode cX12_isClassText 56 = .ok (.lload_n 1, 1) := by decide +kernel
theorem dX12_isClassText_57 : decode cX12_isClassText 57 = .ok (.invokevirtual 368, 3) := by decide +kernel
theorem dX12_isClassText_60 : decode cX12_isClassText 60 = .ok (.aload_n 0, 1) := by decide +kernel
theorem dX12_isClassText_61 : decode cX12_isClassText 61 = .ok (.getfield 352, 3) := by decide +kernel
theorem dX12_isClassText_64 : decode cX12_isClassText 64 = .ok (.ifCond .ne 83, 3) := by decide +kernel
theorem dX12_isClassText_67 : decode cX12_isClassText 67 = .ok (.aload_n 0, 1) := by decide +kernel
theorem dX12_isClassText_68 : decode cX12_isClassText 68 = .ok (.getfield 339, 3) := by decide +kernel
theorem dX12_isClassText_71 : decode cX12_isClassText 71 = .ok (.aload_n 0, 1) := by decide +kernel
theorem dX12_isClassText_72 : decode cX12_isClassText 72 = .ok (.getfield 336, 3) := by decide +kernel
theorem dX12_isClassText_75 : decode cX12_isClassText 75 = .ok (.if_icmp .ge 72, 3) := by decide +kernel
theorem dX12_isClassText_78 : decode cX12_isClassText 78 = .ok (.aload_n 0, 1) := by decide +kernel
theorem dX12_isClassText_79 : decode cX12_isClassText 79 = .ok (.aload_n 0, 1) := by decide +kernel
theorem dX12_isClassText_80 : decode cX12_isClassText 80 = .ok (.invokevirtual 342, 3) := by decide +kernel
theorem dX12_isClassText_83 : decode cX12_isClassText 83 = .ok (.bipush 43, 2) := by decide +kernel
theorem dX12_isClassText_85 : decode cX12_isClassText 85 = .ok (.if_icmp .eq 16, 3) := by decide +kernel
theorem dX12_isClassText_88 : decode cX12_isClassText 88 = .ok (.aload_n 0, 1) := by decide +kernel
theorem dX12_isClassText_89 : decode cX12_isClassText 89 = .ok (.invokevirtual 342, 3) := by decide +kernel
theorem dX12_isClassText_92 : decode cX12_isClassText 92 = .ok (.bipush 45, 2) := by decide +kernel
theorem dX12_isClassText_94 : decode cX12_isClassText 94 = .ok (.if_icmp .eq 7, 3) := by decide +kernel
theorem dX12_isClassText_97 : decode cX12_isClassText 97 = .ok (.iconst 1, 1) := by decide +kernel
theorem dX12_isClassText_98 : decode cX12_isClassText 98 = .ok (.goto 4, 3) := by decide +kernel
theorem dX12_isClassText_101 : decode cX12_isClassText 101 = .ok (.iconst 0, 1) := by decide +kernel
theorem dX12_isClassText_102 : decode cX12_isClassText 102 = .ok (.putfield 352, 3) := by decide +kernel
theorem dX12_isClassText_105 : decode cX12_isClassText 105 = .ok (.aload_n 0, 1) := by decide +kernel
theorem dX12_isClassText_106 : decode cX12_isClassText 106 = .ok (.getfield 352, 3) := by decide +kernel
theorem dX12_isClassText_109 : decode cX12_isClassText 109 = .ok (.ifCond .ne (-49), 3) := by decide +kernel
theorem dX12_isClassText_112 : decode cX12_isClassText 112 = .ok (.aload_n 0, 1) := by decide +kernel
theorem dX12_isClassText_113 : decode cX12_isClassText 113 = .ok (.invokevirtual 342, 3) := by decide +kernel
theorem dX12_isClassText_116 : decode cX12_isClassText 116 = .ok (.bipush 45, 2) := by decide +kernel
theorem dX12_isClassText_118 : decode cX12_isClassText 118 = .ok (.if_icmp .ne 9, 3) := by decide +kernel
theorem dX12_isClassText_121 : decode cX12_isClassText 121 = .ok (.ldc2_w 30, 3) := by decide +kernel
theorem dX12_isClassText_124 : decode cX12_isClassText 124 = .ok (.goto 4, 3) := by decide +kernel
theorem dX12_isClassText_127 : decode cX12_isClassText 127 = .ok (.lconst 1, 1) := by decide +kernel
theorem dX12_isClassText_128 : decode cX12_isClassText 128 = .ok (.lstore_n 1, 1) := by decide +kernel
theorem dX12_isClassText_129 : decode cX12_isClassText 129 = .ok (.aload_n 0, 1) := by decide +kernel
theorem dX12_isClassText_130 : decode cX12_isClassText 130 = .ok (.dup, 1) := by decide +kernel
theorem dX12_isClassText_131 : decode cX12_isClassText 131 = .ok (.getfield 339, 3) := by decide +kernel
theorem dX12_isClassText_134 : decode cX12_isClassText 134 = .ok (.iconst 1, 1) := by decide +kernel
theorem dX12_isClassText_135 : decode cX12_isClassText 135 = .ok (.iadd, 1) := by decide +kernel
theorem dX12_isClassText_136 : decode cX12_isClassText 136 = .ok (.putfield 339, 3) := by decide +kernel
theorem dX12_isClassText_139 : decode cX12_isClassText 139 = .ok (.aload_n 0, 1) := by decide +kernel
theorem dX12_isClassText_140 : decode cX12_isClassText 140 = .ok (.lload_n 1, 1) := by decide +kernel
theorem dX12_isClassText_141 : decode cX12_isClassText 141 = .ok (.invokevirtual 368, 3) := by decide +kernel
theorem dX12_isClassText_144 : decode cX12_isClassText 144 = .ok (.goto (-84), 3) := by decide +kernel
theorem dX12_isClassText_147 : decode cX12_isClassText 147 = .ok (.aload_n 0, 1) := by decide +kernel
theorem dX12_isClassText_148 : decode cX12_isClassText 148 = .ok (.getfield 352, 3) := by decide +kernel
theorem dX12_isClassText_151 : decode cX12_isClassText 151 = .ok (.ifCond .ne 7, 3) := by decide +kernel
theorem dX12_isClassText_154 : decode cX12_isClassText 154 = .ok (.iconst 1, 1) := by decide +kernel
theorem dX12_isClassText_155 : decode cX12_isClassText 155 = .ok (.goto 4, 3) := by decide +kernel
theorem dX12_isClassText_158 : decode cX12_isClassText 158 = .ok (.iconst 0, 1) := by decide +kernel
theorem dX12_isClassText_159 : decode cX12_isClassText 159 = .ok (.ireturn, 1) := by decide +kernel
set_option maxHeartbeats 4000000 in
set_option maxRecDepth 100000 in
theorem cn_X12_isClassText {l : Launch} {cA : Nat → ClassId} {ad : Nat → Nat} {D : va_G} {E : Nat → Nat} {A : Nat → Prop}  {s0 sr : SS} {rr : Int32} (hf : f_X12_isClassText s0 = some (rr, sr)) : zCon Om Nm cA ad D E l yX12_isClassText cX12_isClassText 3 (some .boolean) 4 A [.ref (ad 0)] s0 (some (.int rr)) sr := by
  refine zstart (own := RX12) hOm (by decide) rfl (Nat.le_of_ble_eq_true rfl) ?_
  intro p e s m args below meth c X hP ls hl
  have hx := X.1
  have hb := X.2.1
  have hl : lv_has ls 3 [(0, .ref (ad 0))] := hl
  have hS : va_S A s.heap s.heap [] := va_S.rf
  have hc_60 : ∀ (n60 : Nat)  (s1 : SS) (H : Heap) (locs : List Loc) (ls : Array Slot), lv_has ls 3 [(0, .ref (ad 0))] → va_P D ZCL (zw Om Nm cA ad s1) H → va_S A s.heap H locs → f_X12_isClassText_c60 n60  s1 = some (rr, sr) → W p l e (zrm 4) s m args below meth c H locs 0 0 (MQ below (zQc Om Nm cA ad D A (some (.int rr)) sr) args s 0 0 A) (F0 m 60 ls []) := by
    intro n60
    induction n60 with
    | zero =>
      intro  s1 H locs ls hl hP hS hf
      rw [f_X12_isClassText_c60] at hf
      cases hf
    | succ n60 ih60 =>
      have hc_147 : ∀  (s1 : SS) (H : Heap) (locs : List Loc) (ls : Array Slot), lv_has ls 3 [(0, .ref (ad 0))] → va_P D ZCL (zw Om Nm cA ad s1) H → va_S A s.heap H locs → f_X12_isClassText_c147  s1 = some (rr, sr) → W p l e (zrm 4) s m args below meth c H locs 0 0 (MQ below (zQc Om Nm cA ad D A (some (.int rr)) sr) args s 0 0 A) (F0 m 147 ls []) := by
        intro  s1 H locs ls hl hP hS hf
        rw [f_X12_isClassText_c147] at hf
        refine lv_aload_n hx hb dX12_isClassText_147 rfl (lv_at hl 0 rfl) ?_
        refine gf_X12_352 X hP (k := 0) rfl dX12_isClassText_148 ?_
        refine zif_ne (tgt := 158) hx hb dX12_isClassText_151 (by decide) hf (fun hf => ?_) (fun hf => ?_)
        · refine lv_iconst (v := 0) hx hb dX12_isClassText_158 (by decide) ?_
          exact zret_i X hP hS hf rfl dX12_isClassText_159
        · refine lv_iconst (v := 1) hx hb dX12_isClassText_154 (by decide) ?_
          refine lv_goto (tgt := 159) hx hb dX12_isClassText_155 (by decide) ?_
          exact zret_i X hP hS hf rfl dX12_isClassText_159
      have hc_128 : ∀ (t0 : Int64) (s1 : SS) (H : Heap) (locs : List Loc) (ls : Array Slot), lv_has ls 3 [(0, .ref (ad 0))] → va_P D ZCL (zw Om Nm cA ad s1) H → va_S A s.heap H locs → f_X12_isClassText_c128 (f_X12_isClassText_c60 n60) t0 s1 = some (rr, sr) → W p l e (zrm 4) s m args below meth c H locs 0 0 (MQ below (zQc Om Nm cA ad D A (some (.int rr)) sr) args s 0 0 A) (F0 m 128 ls [.long t0]) := by
        intro t0 s1 H locs ls hl hP hS hf
        rw [f_X12_isClassText_c128] at hf
        refine lv_lstore_n (lv' := [(1, .long t0), (0, .ref (ad 0))]) hx hb dX12_isClassText_128 rfl hl (by decide) rfl (fun ls hl => ?_)
        refine lv_aload_n hx hb dX12_isClassText_129 rfl (lv_at hl 1 rfl) ?_
        refine lv_dup hx hb dX12_isClassText_130 rfl ?_
        refine gf_X12_339 X hP (k := 0) rfl dX12_isClassText_131 ?_
        refine lv_iconst (v := 1) hx hb dX12_isClassText_134 (by decide) ?_
        refine lv_iadd hx hb dX12_isClassText_135 ?_
        refine pf_X12_339 X hP hS (k := 0) rfl dX12_isClassText_136 (fun H locs hP hS => ?_)
        refine lv_aload_n hx hb dX12_isClassText_139 rfl (lv_at hl 1 rfl) ?_
        refine lv_lload_n hx hb dX12_isClassText_140 rfl (lv_at hl 0 rfl) ?_
        obtain ⟨r17, s18, h19, hf⟩ := zbd_some hf
        refine zcallV X hP hS hl.1 (k := 0) (As := [.long t0]) (rest := []) (cn_X12_readMember h19) cw_X12_readMember zp_12 rfl (by decide) rfl ml_X12_368 (by decide) rfl rfl (Nat.le_of_ble_eq_true rfl) dX12_isClassText_141 (fun H locs hP hS => ?_)
        refine lv_goto (tgt := 60) hx hb dX12_isClassText_144 (by decide) ?_
        exact ih60  s18 _ _ _ (lv_sub hl [1] rfl) hP hS hf
      have hc_102 : ∀ (t0 : Int32) (s1 : SS) (H : Heap) (locs : List Loc) (ls : Array Slot), lv_has ls 3 [(0, .ref (ad 0))] → va_P D ZCL (zw Om Nm cA ad s1) H → va_S A s.heap H locs → f_X12_isClassText_c102 (f_X12_isClassText_c60 n60) t0 s1 = some (rr, sr) → W p l e (zrm 4) s m args below meth c H locs 0 0 (MQ below (zQc Om Nm cA ad D A (some (.int rr)) sr) args s 0 0 A) (F0 m 102 ls [.int t0, .ref (ad 0)]) := by
        intro t0 s1 H locs ls hl hP hS hf
        rw [f_X12_isClassText_c102] at hf
        obtain ⟨b13, hf⟩ := zgd hf
        refine pf_X12_352 X hP hS (k := 0) rfl b13 dX12_isClassText_102 (fun H locs hP hS => ?_)
        refine lv_aload_n hx hb dX12_isClassText_105 rfl (lv_at hl 0 rfl) ?_
        refine gf_X12_352 X hP (k := 0) rfl dX12_isClassText_106 ?_
        refine zif_ne (tgt := 60) hx hb dX12_isClassText_109 (by decide) hf (fun hf => ?_) (fun hf => ?_)
        · exact ih60  (zS s1 0 53 t0) _ _ _ (lv_sub hl [0] rfl) hP hS hf
        · refine lv_aload_n hx hb dX12_isClassText_112 rfl (lv_at hl 0 rfl) ?_
          obtain ⟨r14, s15, h16, hf⟩ := zbd_some hf
          refine zcallV X hP hS hl.1 (k := 0) (As := []) (rest := []) (cn_X12_here h16) cw_X12_here zp_12 rfl (by decide) rfl ml_X12_342 (by decide) rfl rfl (Nat.le_of_ble_eq_true rfl) dX12_isClassText_113 (fun H locs hP hS => ?_)
          refine lv_bipush (v := 45) hx hb dX12_isClassText_116 (by decide) ?_
          refine zicmp_ne (tgt := 127) hx hb dX12_isClassText_118 (by decide) hf (fun hf => ?_) (fun hf => ?_)
          · refine lv_lconst (v := 1) hx hb dX12_isClassText_127 (by decide) ?_
            exact hc_128 1 s15 _ _ _ (lv_sub hl [0] rfl) hP hS hf
          · refine zldc2 X co_X12_30 dX12_isClassText_121 ?_
            refine lv_goto (tgt := 128) hx hb dX12_isClassText_124 (by decide) ?_
            exact hc_128 (-1) s15 _ _ _ (lv_sub hl [0] rfl) hP hS hf
      have hc_101 : ∀  (s1 : SS) (H : Heap) (locs : List Loc) (ls : Array Slot), lv_has ls 3 [(0, .ref (ad 0))] → va_P D ZCL (zw Om Nm cA ad s1) H → va_S A s.heap H locs → f_X12_isClassText_c101 (f_X12_isClassText_c60 n60)  s1 = some (rr, sr) → W p l e (zrm 4) s m args below meth c H locs 0 0 (MQ below (zQc Om Nm cA ad D A (some (.int rr)) sr) args s 0 0 A) (F0 m 101 ls [.ref (ad 0)]) := by
        intro  s1 H locs ls hl hP hS hf
        rw [f_X12_isClassText_c101] at hf
        refine lv_iconst (v := 0) hx hb dX12_isClassText_101 (by decide) ?_
        exact hc_102 0 s1 _ _ _ (lv_sub hl [0] rfl) hP hS hf
      intro  s1 H locs ls hl hP hS hf
      rw [f_X12_isClassText_c60] at hf
      refine lv_aload_n hx hb dX12_isClassText_60 rfl (lv_at hl 0 rfl) ?_
      refine gf_X12_352 X hP (k := 0) rfl dX12_isClassText_61 ?_
      refine zif_ne (tgt := 147) hx hb dX12_isClassText_64 (by decide) hf (fun hf => ?_) (fun hf => ?_)
      · exact hc_147  s1 _ _ _ (lv_sub hl [0] rfl) hP hS hf
      · refine lv_aload_n hx hb dX12_isClassText_67 rfl (lv_at hl 0 rfl) ?_
        refine gf_X12_339 X hP (k := 0) rfl dX12_isClassText_68 ?_
        refine lv_aload_n hx hb dX12_isClassText_71 rfl (lv_at hl 0 rfl) ?_
        refine gf_X12_336 X hP (k := 0) rfl dX12_isClassText_72 ?_
        refine zicmp_ge (tgt := 147) hx hb dX12_isClassText_75 (by decide) hf (fun hf => ?_) (fun hf => ?_)
        · exact hc_147  s1 _ _ _ (lv_sub hl [0] rfl) hP hS hf
        · refine lv_aload_n hx hb dX12_isClassText_78 rfl (lv_at hl 0 rfl) ?_
          refine lv_aload_n hx hb dX12_isClassText_79 rfl (lv_at hl 0 rfl) ?_
          obtain ⟨r10, s11, h12, hf⟩ := zbd_some hf
          refine zcallV X hP hS hl.1 (k := 0) (As := []) (rest := [.ref (ad 0)]) (cn_X12_here h12) cw_X12_here zp_12 rfl (by decide) rfl ml_X12_342 (by decide) rfl rfl (Nat.le_of_ble_eq_true rfl) dX12_isClassText_80 (fun H locs hP hS => ?_)
          refine lv_bipush (v := 43) hx hb dX12_isClassText_83 (by decide) ?_
          refine zicmp_eq (tgt := 101) hx hb dX12_isClassText_85 (by decide) hf (fun hf => ?_) (fun hf => ?_)
          · exact hc_101  s11 _ _ _ (lv_sub hl [0] rfl) hP hS hf
          · refine lv_aload_n hx hb dX12_isClassText_88 rfl (lv_at hl 0 rfl) ?_
            obtain ⟨r20, s21, h22, hf⟩ := zbd_some hf
            refine zcallV X hP hS hl.1 (k := 0) (As := []) (rest := [.ref (ad 0)]) (cn_X12_here h22) cw_X12_here zp_12 rfl (by decide) rfl ml_X12_342 (by decide) rfl rfl (Nat.le_of_ble_eq_true rfl) dX12_isClassText_89 (fun H locs hP hS => ?_)
            refine lv_bipush (v := 45) hx hb dX12_isClassText_92 (by decide) ?_
            refine zicmp_eq (tgt := 101) hx hb dX12_isClassText_94 (by decide) hf (fun hf => ?_) (fun hf => ?_)
            · exact hc_101  s21 _ _ _ (lv_sub hl [0] rfl) hP hS hf
            · refine lv_iconst (v := 1) hx hb dX12_isClassText_97 (by decide) ?_
              refine lv_goto (tgt := 102) hx hb dX12_isClassText_98 (by decide) ?_
              exact hc_102 1 s21 _ _ _ (lv_sub hl [0] rfl) hP hS hf
  have hc_51 : ∀ (x1 : Int64) (t0 : Int32) (t1 : Int32) (s1 : SS) (H : Heap) (locs : List Loc) (ls : Array Slot), lv_has ls 3 [(0, .ref (ad 0)), (1, .long x1)] → va_P D ZCL (zw Om Nm cA ad s1) H → va_S A s.heap H locs → f_X12_isClassText_c51 x1 t0 t1 s1 = some (rr, sr) → W p l e (zrm 4) s m args below meth c H locs 0 0 (MQ below (zQc Om Nm cA ad D A (some (.int rr)) sr) args s 0 0 A) (F0 m 51 ls [.int t0, .int t1, .ref (ad 0)]) := by
    intro x1 t0 t1 s1 H locs ls hl hP hS hf
    rw [f_X12_isClassText_c51] at hf
    refine lv_iadd hx hb dX12_isClassText_51 ?_
    refine pf_X12_339 X hP hS (k := 0) rfl dX12_isClassText_52 (fun H locs hP hS => ?_)
    refine lv_aload_n hx hb dX12_isClassText_55 rfl (lv_at hl 0 rfl) ?_
    refine lv_lload_n hx hb dX12_isClassText_56 rfl (lv_at hl 1 rfl) ?_
    obtain ⟨r7, s8, h9, hf⟩ := zbd_some hf
    refine zcallV X hP hS hl.1 (k := 0) (As := [.long x1]) (rest := []) (cn_X12_readMember h9) cw_X12_readMember zp_12 rfl (by decide) rfl ml_X12_368 (by decide) rfl rfl (Nat.le_of_ble_eq_true rfl) dX12_isClassText_57 (fun H locs hP hS => ?_)
    exact hc_60 ZF  s8 _ _ _ (lv_sub hl [0] rfl) hP hS hf
  have hc_34 : ∀ (t0 : Int64) (s1 : SS) (H : Heap) (locs : List Loc) (ls : Array Slot), lv_has ls 3 [(0, .ref (ad 0))] → va_P D ZCL (zw Om Nm cA ad s1) H → va_S A s.heap H locs → f_X12_isClassText_c34 t0 s1 = some (rr, sr) → W p l e (zrm 4) s m args below meth c H locs 0 0 (MQ below (zQc Om Nm cA ad D A (some (.int rr)) sr) args s 0 0 A) (F0 m 34 ls [.long t0]) := by
    intro t0 s1 H locs ls hl hP hS hf
    rw [f_X12_isClassText_c34] at hf
    refine lv_lstore_n (lv' := [(1, .long t0), (0, .ref (ad 0))]) hx hb dX12_isClassText_34 rfl hl (by decide) rfl (fun ls hl => ?_)
    refine lv_aload_n hx hb dX12_isClassText_35 rfl (lv_at hl 1 rfl) ?_
    refine lv_dup hx hb dX12_isClassText_36 rfl ?_
    refine gf_X12_339 X hP (k := 0) rfl dX12_isClassText_37 ?_
    refine lv_lload_n hx hb dX12_isClassText_40 rfl (lv_at hl 0 rfl) ?_
    refine lv_lconst (v := 0) hx hb dX12_isClassText_41 (by decide) ?_
    refine W.lcmp hx hb dX12_isClassText_42 ?_
    refine zif_ge (tgt := 50) hx hb dX12_isClassText_43 (by decide) hf (fun hf => ?_) (fun hf => ?_)
    · refine lv_iconst (v := 0) hx hb dX12_isClassText_50 (by decide) ?_
      exact hc_51 t0 0 (s1.1 0 52) s1 _ _ _ (lv_sub hl [1, 0] rfl) hP hS hf
    · refine lv_iconst (v := 1) hx hb dX12_isClassText_46 (by decide) ?_
      refine lv_goto (tgt := 51) hx hb dX12_isClassText_47 (by decide) ?_
      exact hc_51 t0 1 (s1.1 0 52) s1 _ _ _ (lv_sub hl [1, 0] rfl) hP hS hf
  rw [f_X12_isClassText] at hf
  refine lv_aload_n hx hb dX12_isClassText_0 rfl (lv_at hl 0 rfl) ?_
  refine lv_iconst (v := 0) hx hb dX12_isClassText_1 (by decide) ?_
  refine pf_X12_339 X hP hS (k := 0) rfl dX12_isClassText_2 (fun H locs hP hS => ?_)
  refine lv_aload_n hx hb dX12_isClassText_5 rfl (lv_at hl 0 rfl) ?_
  refine lv_iconst (v := 0) hx hb dX12_isClassText_6 (by decide) ?_
  refine pf_X12_352 X hP hS (k := 0) rfl (by decide) dX12_isClassText_7 (fun H locs hP hS => ?_)
  refine lv_aload_n hx hb dX12_isClassText_10 rfl (lv_at hl 0 rfl) ?_
  refine lv_aload_n hx hb dX12_isClassText_11 rfl (lv_at hl 0 rfl) ?_
  refine gf_X12_117 X hP (k := 0) (q := 15) rfl dX12_isClassText_12 rfl ?_
  obtain ⟨r1, s2, h3, hf⟩ := zbd_some hf
  refine zcallV X hP hS hl.1 (k := 0) (As := [.ref (ad 15)]) (rest := []) (cn_X12_empty h3) cw_X12_empty zp_12 rfl (by decide) rfl ml_X12_237 (by decide) rfl rfl (Nat.le_of_ble_eq_true rfl) dX12_isClassText_15 (fun H locs hP hS => ?_)
  refine lv_aload_n hx hb dX12_isClassText_18 rfl (lv_at hl 0 rfl) ?_
  obtain ⟨r4, s5, h6, hf⟩ := zbd_some hf
  refine zcallV X hP hS hl.1 (k := 0) (As := []) (rest := []) (cn_X12_here h6) cw_X12_here zp_12 rfl (by decide) rfl ml_X12_342 (by decide) rfl rfl (Nat.le_of_ble_eq_true rfl) dX12_isClassText_19 (fun H locs hP hS => ?_)
  refine lv_bipush (v := 45) hx hb dX12_isClassText_22 (by decide) ?_
  refine zicmp_ne (tgt := 33) hx hb dX12_isClassText_24 (by decide) hf (fun hf => ?_) (fun hf => ?_)
  · refine lv_lconst (v := 1) hx hb dX12_isClassText_33 (by decide) ?_
    exact hc_34 1 s5 _ _ _ (lv_sub hl [0] rfl) hP hS hf
  · refine zldc2 X co_X12_30 dX12_isClassText_27 ?_
    refine lv_goto (tgt := 34) hx hb dX12_isClassText_30 (by decide) ?_
    exact hc_34 (-1) s5 _ _ _ (lv_sub hl [0] rfl) hP hS hf
theorem dX12_read_0 : decode cX12_read 0 = .ok (.aload_n 0, 1) := by decide +kernel
theorem dX12_read_1 : decode cX12_read 1 = .ok (.invokevirtual 372, 3) := by decide +kernel
theorem dX12_read_4 : decode cX12_read 4 = .ok (.istore_n 1, 1) := by decide +kernel
theorem dX12_read_5 : decode cX12_read 5 = .ok (.aload_n 0, 1) := by decide +kernel
theorem dX12_read_6 : decode cX12_read 6 = .ok (.iconst 0, 1) := by decide +kernel
theorem dX12_read_7 : decode cX12_read 7 = .ok (.putfield 336, 3) := by decide +kernel
theorem dX12_read_10 : decode cX12_read 10 = .ok (.iload_n 1, 1) := by decide +kernel
theorem dX12_read_11 : decode cX12_read 11 = .ok (.ifCond .ne 11, 3) := by decide +kernel
theorem dX12_read_14 : decode cX12_read 14 = .ok (.bipush (-100), 2) := by decide +kernel
theorem dX12_read_16 : decode cX12_read 16 = .ok (.aload_n 0, 1) := by decide +kernel
theorem dX12_read_17 : decode cX12_read 17 = .ok (.getfield 339, 3) := by decide +kernel
theorem dX12_read_20 : decode cX12_read 20 = .ok (.isub, 1) := by decide +kernel
theorem dX12_read_21 : decode cX12_read 21 = .ok (.ireturn, 1) := by decide +kernel
theorem dX12_read_22 : decode cX12_read 22 = .ok (.aload_n 0, 1) := by decide +kernel
theorem dX12_read_23 : decode cX12_read 23 = .ok (.getfield 89, 3) := by decide +kernel
theorem dX12_read_26 : decode cX12_read 26 = .ok (.bipush 8, 2) := by decide +kernel
theorem dX12_read_28 : decode cX12_read 28 = .ok (.if_icmp .ne 6, 3) := by decide +kernel
theorem dX12_read_31 : decode cX12_read 31 = .ok (.bipush (-3), 2) := by decide +kernel
theorem dX12_read_33 : decode cX12_read 33 = .ok (.ireturn, 1) := by decide +kernel
theorem dX12_read_34 : decode cX12_read 34 = .ok (.aload_n 0, 1) := by decide +kernel
theorem dX12_read_35 : decode cX12_read 35 = .ok (.invokevirtual 198, 3) := by decide +kernel
theorem dX12_read_38 : decode cX12_read 38 = .ok (.aload_n 0, 1) := by decide +kernel
theorem dX12_read_39 : decode cX12_read 39 = .ok (.aload_n 0, 1) := by decide +kernel
theorem dX12_read_40 : decode cX12_read 40 = .ok (.getfield 117, 3) := by decide +kernel
theorem dX12_read_43 : decode cX12_read 43 = .ok (.invokevirtual 260, 3) := by decide +kernel
theorem dX12_read_46 : decode cX12_read 46 = .ok (.ireturn, 1) := by decide +kernel
set_option maxHeartbeats 4000000 in
set_option maxRecDepth 100000 in
theorem cn_X12_read {l : Launch} {cA : Nat → ClassId} {ad : Nat → Nat} {D : va_G} {E : Nat → Nat} {A : Nat → Prop}  {s0 sr : SS} {rr : Int32} (hf : f_X12_read s0 = some (rr, sr)) : zCon Om Nm cA ad D E l yX12_read cX12_read 2 (some .int) 5 A [.ref (ad 0)] s0 (some (.int rr)) sr := by
  refine zstart (own := RX12) hOm (by decide) rfl (Nat.le_of_ble_eq_true rfl) ?_
  intro p e s m args below meth c X hP ls hl
  have hx := X.1
  have hb := X.2.1
  have hl : lv_has ls 2 [(0, .ref (ad 0))] := hl
  have hS : va_S A s.heap s.heap [] := va_S.rf
  rw [f_X12_read] at hf
  refine lv_aload_n hx hb dX12_read_0 rfl (lv_at hl 0 rfl) ?_
  obtain ⟨r1, s2, h3, hf⟩ := zbd_some hf
  refine zcallV X hP hS hl.1 (k := 0) (As := []) (rest := []) (cn_X12_isClassText h3) cw_X12_isClassText zp_12 rfl (by decide) rfl ml_X12_372 (by decide) rfl rfl (Nat.le_of_ble_eq_true rfl) dX12_read_1 (fun H locs hP hS => ?_)
  refine lv_istore_n (lv' := [(1, .int r1), (0, .ref (ad 0))]) hx hb dX12_read_4 rfl hl (by decide) rfl (fun ls hl => ?_)
  refine lv_aload_n hx hb dX12_read_5 rfl (lv_at hl 1 rfl) ?_
  refine lv_iconst (v := 0) hx hb dX12_read_6 (by decide) ?_
  refine pf_X12_336 X hP hS (k := 0) rfl dX12_read_7 (fun H locs hP hS => ?_)
  refine lv_iload_n hx hb dX12_read_10 rfl (lv_at hl 0 rfl) ?_
  refine zif_ne (tgt := 22) hx hb dX12_read_11 (by decide) hf (fun hf => ?_) (fun hf => ?_)
  · refine lv_aload_n hx hb dX12_read_22 rfl (lv_at hl 1 rfl) ?_
    refine gf_X12_89 X hP (k := 0) rfl dX12_read_23 ?_
    refine lv_bipush (v := 8) hx hb dX12_read_26 (by decide) ?_
    refine zicmp_ne (tgt := 34) hx hb dX12_read_28 (by decide) hf (fun hf => ?_) (fun hf => ?_)
    · refine lv_aload_n hx hb dX12_read_34 rfl (lv_at hl 1 rfl) ?_
      obtain ⟨r4, s5, h6, hf⟩ := zbd_some hf
      refine zcallV X hP hS hl.1 (k := 0) (As := []) (rest := []) (cn_X12_forget h6) cw_X12_forget zp_12 rfl (by decide) rfl ml_X12_198 (by decide) rfl rfl (Nat.le_of_ble_eq_true rfl) dX12_read_35 (fun H locs hP hS => ?_)
      refine lv_aload_n hx hb dX12_read_38 rfl (lv_at hl 1 rfl) ?_
      refine lv_aload_n hx hb dX12_read_39 rfl (lv_at hl 1 rfl) ?_
      refine gf_X12_117 X hP (k := 0) (q := 15) rfl dX12_read_40 rfl ?_
      obtain ⟨r7, s8, h9, hf⟩ := zbd_some hf
      refine zcallV X hP hS hl.1 (k := 0) (As := [.ref (ad 15)]) (rest := []) (cn_X12_comes h9) cw_X12_comes zp_12 rfl (by decide) rfl ml_X12_260 (by decide) rfl rfl (Nat.le_of_ble_eq_true rfl) dX12_read_43 (fun H locs hP hS => ?_)
      exact zret_i X hP hS hf rfl dX12_read_46
    · refine lv_bipush (v := (-3)) hx hb dX12_read_31 (by decide) ?_
      exact zret_i X hP hS hf rfl dX12_read_33
  · refine lv_bipush (v := (-100)) hx hb dX12_read_14 (by decide) ?_
    refine lv_aload_n hx hb dX12_read_16 rfl (lv_at hl 1 rfl) ?_
    refine gf_X12_339 X hP (k := 0) rfl dX12_read_17 ?_
    refine lv_isub hx hb dX12_read_20 ?_
    exact zret_i X hP hS hf rfl dX12_read_21
theorem dX12_readNumber_0 : decode cX12_readNumber 0 = .ok (.aload_n 0, 1) := by decide +kernel
theorem dX12_readNumber_1 : decode cX12_readNumber 1 = .ok (.aload_n 0, 1) := by decide +kernel
theorem dX12_readNumber_2 : decode cX12_readNumber 2 = .ok (.getfield 352, 3) := by decide +kernel
theorem dX12_readNumber_5 : decode cX12_readNumber 5 = .ok (.ifCond .ne 12, 3) := by decide +kernel
theorem dX12_readNumber_8 : decode cX12_readNumber 8 = .ok (.aload_n 0, 1) := by decide +kernel
theorem dX12_readNumber_9 : decode cX12_readNumber 9 = .ok (.invokevirtual 342, 3) := by decide +kernel
theorem dX12_readNumber_12 : decode cX12_readNumber 12 = .ok (.bipush 32, 2) := by decide +kernel
theorem dX12_readNumber_14 : decode cX12_readNumber 14 = .ok (.if_icmp .eq 7, 3) := by decide +kernel
theorem dX12_readNumber_17 : decode cX12_readNumber 17 = .ok (.iconst 1, 1) := by decide +kernel
theorem dX12_readNumber_18 : decode cX12_readNumber 18 = .ok (.goto 4, 3) := by decide +kernel
theorem dX12_readNumber_21 : decode cX12_readNumber 21 = .ok (.iconst 0, 1) := by decide +kernel
theorem dX12_readNumber_22 : decode cX12_readNumber 22 = .ok (.putfield 352, 3) := by decide +kernel
theorem dX12_readNumber_25 : decode cX12_readNumber 25 = .ok (.aload_n 0, 1) := by decide +kernel
theorem dX12_readNumber_26 : decode cX12_readNumber 26 = .ok (.dup, 1) := by decide +kernel
theorem dX12_readNumber_27 : decode cX12_readNumber 27 = .ok (.getfield 339, 3) := by decide +kernel
theorem dX12_readNumber_30 : decode cX12_readNumber 30 = .ok (.aload_n 0, 1) := by decide +kernel
theorem dX12_readNumber_31 : decode cX12_readNumber 31 = .ok (.getfield 352, 3) := by decide +kernel
theorem dX12_readNumber_34 : decode cX12_readNumber 34 = .ok (.ifCond .eq 7, 3) := by decide +kernel
theorem dX12_readNumber_37 : decode cX12_readNumber 37 = .ok (.iconst 0, 1) := by decide +kernel
theorem dX12_readNumber_38 : decode cX12_readNumber 38 = .ok (.goto 4, 3) := by decide +kernel
theorem dX12_readNumber_41 : decode cX12_readNumber 41 = .ok (.iconst 1, 1) := by decide +kernel
theorem dX12_readNumber_42 : decode cX12_readNumber 42 = .ok (.iadd, 1) := by decide +kernel
theorem dX12_readNumber_43 : decode cX12_readNumber 43 = .ok (.putfield 339, 3) := by decide +kernel
theorem dX12_readNumber_46 : decode cX12_readNumber 46 = .ok (.aload_n 0, 1) := by decide +kernel
theorem dX12_readNumber_47 : decode cX12_readNumber 47 = .ok (.aload_n 0, 1) := by decide +kernel
theorem dX12_readNumber_48 : decode cX12_readNumber 48 = .ok (.getfield 352, 3) := by decide +kernel
theorem dX12_readNumber_51 : decode cX12_readNumber 51 = .ok (.ifCond .ne 10, 3) := by decide +kernel
theorem dX12_readNumber_54 : decode cX12_readNumber 54 = .ok (.aload_n 0, 1) := by decide +kernel
theorem dX12_readNumber_55 : decode cX12_readNumber 55 = .ok (.invokevirtual 360, 3) := by decide +kernel
theorem dX12_readNumber_58 : decode cX12_readNumber 58 = .ok (.ifCond .ne 7, 3) := by decide +kernel
theorem dX12_readNumber_61 : decode cX12_readNumber 61 = .ok (.iconst 1, 1) := by decide +kernel
theorem dX12_readNumber_62 : decode cX12_readNumber 62 = .ok (.goto 4, 3) := by decide +kernel
theorem dX12_readNumber_65 : decode cX12_readNumber 65 = .ok (.iconst 0, 1) := by decide +kernel
theorem dX12_readNumber_66 : decode cX12_readNumber 66 = .ok (.putfield 352, 3) := by decide +kernel
theorem dX12_readNumber_69 : decode cX12_readNumber 69 = .ok (.aload_n 0, 1) := by decide +kernel
theorem dX12_readNumber_70 : decode cX12_readNumber 70 = .ok (.getfield 352, 3) := by decide +kernel
theorem dX12_readNumber_73 : decode cX12_readNumber 73 = .ok (.ifCond .eq 7, 3) := by decide +kernel
theorem dX12_readNumber_76 : decode cX12_readNumber 76 = .ok (.iconst 0, 1) := by decide +kernel
theorem dX12_readNumber_77 : decode cX12_readNumber 77 = .ok (.goto 10, 3) := by decide +kernel
theorem dX12_readNumber_80 : decode cX12_readNumber 80 = .ok (.aload_n 0, 1) := by decide +kernel
theorem dX12_readNumber_81 : decode cX12_readNumber 81 = .ok (.invokevirtual 342, 3) := by decide +kernel
theorem dX12_readNumber_84 : decode cX12_readNumber 84 = .ok (.bipush 48, 2) := by decide +kernel
theorem dX12_readNumber_86 : decode cX12_readNumber 86 = .ok (.isub, 1) := by decide +kernel
theorem dX12_readNumber_87 : decode cX12_readNumber 87 = .ok (.istore_n 1, 1) := by decide +kernel
theorem dX12_readNumber_88 : decode cX12_readNumber 88 = .ok (.aload_n 0, 1) := by decide +kernel
theorem dX12_readNumber_89 : decode cX12_readNumber 89 = .ok (.dup, 1) := by decide +kernel
theorem dX12_readNumber_90 : decode cX12_readNumber 90 = .ok (.getfield 339, 3) := by decide +kernel
theorem dX12_readNumber_93 : decode cX12_readNumber 93 = .ok (.aload_n 0, 1) := by decide +kernel
theorem dX12_readNumber_94 : decode cX12_readNumber 94 = .ok (.getfield 352, 3) := by decide +kernel
theorem dX12_readNumber_97 : decode cX12_readNumber 97 = .ok (.ifCond .eq 7, 3) := by decide +kernel
theorem dX12_readNumber_100 : decode cX12_readNumber 100 = .ok (.iconst 0, 1) := by decide +kernel
theorem dX12_readNumber_101 : decode cX12_readNumber 101 = .ok (.goto 4, 3) := by decide +kernel
theorem dX12_readNumber_104 : decode cX12_readNumber 104 = .ok (.iconst 1, 1) := by decide +kernel
theorem dX12_readNumber_105 : decode cX12_readNumber 105 = .ok (.iadd, 1) := by decide +kernel
theorem dX12_readNumber_106 : decode cX12_readNumber 106 = .ok (.putfield 339, 3) := by decide +kernel
theorem dX12_readNumber_109 : decode cX12_readNumber 109 = .ok (.iload_n 1, 1) := by decide +kernel
theorem dX12_readNumber_110 : decode cX12_readNumber 110 = .ok (.ireturn, 1) := by decide +kernel
set_option maxHeartbeats 4000000 in
set_option maxRecDepth 100000 in
theorem cn_X12_readNumber {l : Launch} {cA : Nat → ClassId} {ad : Nat → Nat} {D : va_G} {E : Nat → Nat} {A : Nat → Prop}  {s0 sr : SS} {rr : Int32} (hf : f_X12_readNumber s0 = some (rr, sr)) : zCon Om Nm cA ad D E l yX12_readNumber cX12_readNumber 2 (some .int) 2 A [.ref (ad 0)] s0 (some (.int rr)) sr := by
  refine zstart (own := RX12) hOm (by decide) rfl (Nat.le_of_ble_eq_true rfl) ?_
  intro p e s m args below meth c X hP ls hl
  have hx := X.1
  have hb := X.2.1
  have hl : lv_has ls 2 [(0, .ref (ad 0))] := hl
  have hS : va_S A s.heap s.heap [] := va_S.rf
  have hc_87 : ∀ (t0 : Int32) (s1 : SS) (H : Heap) (locs : List Loc) (ls : Array Slot), lv_has ls 2 [(0, .ref (ad 0))] → va_P D ZCL (zw Om Nm cA ad s1) H → va_S A s.heap H locs → f_X12_readNumber_c87 t0 s1 = some (rr, sr) → W p l e (zrm 2) s m args below meth c H locs 0 0 (MQ below (zQc Om Nm cA ad D A (some (.int rr)) sr) args s 0 0 A) (F0 m 87 ls [.int t0]) := by
    intro t0 s1 H locs ls hl hP hS hf
    rw [f_X12_readNumber_c87] at hf
    refine lv_istore_n (lv' := [(1, .int t0), (0, .ref (ad 0))]) hx hb dX12_readNumber_87 rfl hl (by decide) rfl (fun ls hl => ?_)
    refine lv_aload_n hx hb dX12_readNumber_88 rfl (lv_at hl 1 rfl) ?_
    refine lv_dup hx hb dX12_readNumber_89 rfl ?_
    refine gf_X12_339 X hP (k := 0) rfl dX12_readNumber_90 ?_
    refine lv_aload_n hx hb dX12_readNumber_93 rfl (lv_at hl 1 rfl) ?_
    refine gf_X12_352 X hP (k := 0) rfl dX12_readNumber_94 ?_
    refine zif_eq (tgt := 104) hx hb dX12_readNumber_97 (by decide) hf (fun hf => ?_) (fun hf => ?_)
    · refine lv_iconst (v := 1) hx hb dX12_readNumber_104 (by decide) ?_
      refine lv_iadd hx hb dX12_readNumber_105 ?_
      refine pf_X12_339 X hP hS (k := 0) rfl dX12_readNumber_106 (fun H locs hP hS => ?_)
      refine lv_iload_n hx hb dX12_readNumber_109 rfl (lv_at hl 0 rfl) ?_
      exact zret_i X hP hS hf rfl dX12_readNumber_110
    · refine lv_iconst (v := 0) hx hb dX12_readNumber_100 (by decide) ?_
      refine lv_goto (tgt := 105) hx hb dX12_readNumber_101 (by decide) ?_
      refine lv_iadd hx hb dX12_readNumber_105 ?_
      refine pf_X12_339 X hP hS (k := 0) rfl dX12_readNumber_106 (fun H locs hP hS => ?_)
      refine lv_iload_n hx hb dX12_readNumber_109 rfl (lv_at hl 0 rfl) ?_
      exact zret_i X hP hS hf rfl dX12_readNumber_110
  have hc_66 : ∀ (t0 : Int32) (s1 : SS) (H : Heap) (locs : List Loc) (ls : Array Slot), lv_has ls 2 [(0, .ref (ad 0))] → va_P D ZCL (zw Om Nm cA ad s1) H → va_S A s.heap H locs → f_X12_readNumber_c66 t0 s1 = some (rr, sr) → W p l e (zrm 2) s m args below meth c H locs 0 0 (MQ below (zQc Om Nm cA ad D A (some (.int rr)) sr) args s 0 0 A) (F0 m 66 ls [.int t0, .ref (ad 0)]) := by
    intro t0 s1 H locs ls hl hP hS hf
    rw [f_X12_readNumber_c66] at hf
    obtain ⟨b2, hf⟩ := zgd hf
    refine pf_X12_352 X hP hS (k := 0) rfl b2 dX12_readNumber_66 (fun H locs hP hS => ?_)
    refine lv_aload_n hx hb dX12_readNumber_69 rfl (lv_at hl 0 rfl) ?_
    refine gf_X12_352 X hP (k := 0) rfl dX12_readNumber_70 ?_
    refine zif_eq (tgt := 80) hx hb dX12_readNumber_73 (by decide) hf (fun hf => ?_) (fun hf => ?_)
    · refine lv_aload_n hx hb dX12_readNumber_80 rfl (lv_at hl 0 rfl) ?_
      obtain ⟨r3, s4, h5, hf⟩ := zbd_some hf
      refine zcallV X hP hS hl.1 (k := 0) (As := []) (rest := []) (cn_X12_here h5) cw_X12_here zp_12 rfl (by decide) rfl ml_X12_342 (by decide) rfl rfl (Nat.le_of_ble_eq_true rfl) dX12_readNumber_81 (fun H locs hP hS => ?_)
      refine lv_bipush (v := 48) hx hb dX12_readNumber_84 (by decide) ?_
      refine lv_isub hx hb dX12_readNumber_86 ?_
      exact hc_87 (r3 - (48 : Int32)) s4 _ _ _ (lv_sub hl [0] rfl) hP hS hf
    · refine lv_iconst (v := 0) hx hb dX12_readNumber_76 (by decide) ?_
      refine lv_goto (tgt := 87) hx hb dX12_readNumber_77 (by decide) ?_
      exact hc_87 0 (zS s1 0 53 t0) _ _ _ (lv_sub hl [0] rfl) hP hS hf
  have hc_61 : ∀  (s1 : SS) (H : Heap) (locs : List Loc) (ls : Array Slot), lv_has ls 2 [(0, .ref (ad 0))] → va_P D ZCL (zw Om Nm cA ad s1) H → va_S A s.heap H locs → f_X12_readNumber_c61  s1 = some (rr, sr) → W p l e (zrm 2) s m args below meth c H locs 0 0 (MQ below (zQc Om Nm cA ad D A (some (.int rr)) sr) args s 0 0 A) (F0 m 61 ls [.ref (ad 0)]) := by
    intro  s1 H locs ls hl hP hS hf
    rw [f_X12_readNumber_c61] at hf
    refine lv_iconst (v := 1) hx hb dX12_readNumber_61 (by decide) ?_
    refine lv_goto (tgt := 66) hx hb dX12_readNumber_62 (by decide) ?_
    exact hc_66 1 s1 _ _ _ (lv_sub hl [0] rfl) hP hS hf
  have hc_42 : ∀ (t0 : Int32) (t1 : Int32) (s1 : SS) (H : Heap) (locs : List Loc) (ls : Array Slot), lv_has ls 2 [(0, .ref (ad 0))] → va_P D ZCL (zw Om Nm cA ad s1) H → va_S A s.heap H locs → f_X12_readNumber_c42 t0 t1 s1 = some (rr, sr) → W p l e (zrm 2) s m args below meth c H locs 0 0 (MQ below (zQc Om Nm cA ad D A (some (.int rr)) sr) args s 0 0 A) (F0 m 42 ls [.int t0, .int t1, .ref (ad 0)]) := by
    intro t0 t1 s1 H locs ls hl hP hS hf
    rw [f_X12_readNumber_c42] at hf
    refine lv_iadd hx hb dX12_readNumber_42 ?_
    refine pf_X12_339 X hP hS (k := 0) rfl dX12_readNumber_43 (fun H locs hP hS => ?_)
    refine lv_aload_n hx hb dX12_readNumber_46 rfl (lv_at hl 0 rfl) ?_
    refine lv_aload_n hx hb dX12_readNumber_47 rfl (lv_at hl 0 rfl) ?_
    refine gf_X12_352 X hP (k := 0) rfl dX12_readNumber_48 ?_
    refine zif_ne (tgt := 61) hx hb dX12_readNumber_51 (by decide) hf (fun hf => ?_) (fun hf => ?_)
    · exact hc_61  (zS s1 0 52 (t1 + t0)) _ _ _ (lv_sub hl [0] rfl) hP hS hf
    · refine lv_aload_n hx hb dX12_readNumber_54 rfl (lv_at hl 0 rfl) ?_
      obtain ⟨r6, s7, h8, hf⟩ := zbd_some hf
      refine zcallV X hP hS hl.1 (k := 0) (As := []) (rest := [.ref (ad 0)]) (cn_X12_isFigure h8) cw_X12_isFigure zp_12 rfl (by decide) rfl ml_X12_360 (by decide) rfl rfl (Nat.le_of_ble_eq_true rfl) dX12_readNumber_55 (fun H locs hP hS => ?_)
      refine zif_ne (tgt := 65) hx hb dX12_readNumber_58 (by decide) hf (fun hf => ?_) (fun hf => ?_)
      · refine lv_iconst (v := 0) hx hb dX12_readNumber_65 (by decide) ?_
        exact hc_66 0 s7 _ _ _ (lv_sub hl [0] rfl) hP hS hf
      · exact hc_61  s7 _ _ _ (lv_sub hl [0] rfl) hP hS hf
  have hc_22 : ∀ (t0 : Int32) (s1 : SS) (H : Heap) (locs : List Loc) (ls : Array Slot), lv_has ls 2 [(0, .ref (ad 0))] → va_P D ZCL (zw Om Nm cA ad s1) H → va_S A s.heap H locs → f_X12_readNumber_c22 t0 s1 = some (rr, sr) → W p l e (zrm 2) s m args below meth c H locs 0 0 (MQ below (zQc Om Nm cA ad D A (some (.int rr)) sr) args s 0 0 A) (F0 m 22 ls [.int t0, .ref (ad 0)]) := by
    intro t0 s1 H locs ls hl hP hS hf
    rw [f_X12_readNumber_c22] at hf
    obtain ⟨b1, hf⟩ := zgd hf
    refine pf_X12_352 X hP hS (k := 0) rfl b1 dX12_readNumber_22 (fun H locs hP hS => ?_)
    refine lv_aload_n hx hb dX12_readNumber_25 rfl (lv_at hl 0 rfl) ?_
    refine lv_dup hx hb dX12_readNumber_26 rfl ?_
    refine gf_X12_339 X hP (k := 0) rfl dX12_readNumber_27 ?_
    refine lv_aload_n hx hb dX12_readNumber_30 rfl (lv_at hl 0 rfl) ?_
    refine gf_X12_352 X hP (k := 0) rfl dX12_readNumber_31 ?_
    refine zif_eq (tgt := 41) hx hb dX12_readNumber_34 (by decide) hf (fun hf => ?_) (fun hf => ?_)
    · refine lv_iconst (v := 1) hx hb dX12_readNumber_41 (by decide) ?_
      exact hc_42 1 ((zS s1 0 53 t0).1 0 52) (zS s1 0 53 t0) _ _ _ (lv_sub hl [0] rfl) hP hS hf
    · refine lv_iconst (v := 0) hx hb dX12_readNumber_37 (by decide) ?_
      refine lv_goto (tgt := 42) hx hb dX12_readNumber_38 (by decide) ?_
      exact hc_42 0 ((zS s1 0 53 t0).1 0 52) (zS s1 0 53 t0) _ _ _ (lv_sub hl [0] rfl) hP hS hf
  have hc_17 : ∀  (s1 : SS) (H : Heap) (locs : List Loc) (ls : Array Slot), lv_has ls 2 [(0, .ref (ad 0))] → va_P D ZCL (zw Om Nm cA ad s1) H → va_S A s.heap H locs → f_X12_readNumber_c17  s1 = some (rr, sr) → W p l e (zrm 2) s m args below meth c H locs 0 0 (MQ below (zQc Om Nm cA ad D A (some (.int rr)) sr) args s 0 0 A) (F0 m 17 ls [.ref (ad 0)]) := by
    intro  s1 H locs ls hl hP hS hf
    rw [f_X12_readNumber_c17] at hf
    refine lv_iconst (v := 1) hx hb dX12_readNumber_17 (by decide) ?_
    refine lv_goto (tgt := 22) hx hb dX12_readNumber_18 (by decide) ?_
    exact hc_22 1 s1 _ _ _ (lv_sub hl [0] rfl) hP hS hf
  rw [f_X12_readNumber] at hf
  refine lv_aload_n hx hb dX12_readNumber_0 rfl (lv_at hl 0 rfl) ?_
  refine lv_aload_n hx hb dX12_readNumber_1 rfl (lv_at hl 0 rfl) ?_
  refine gf_X12_352 X hP (k := 0) rfl dX12_readNumber_2 ?_
  refine zif_ne (tgt := 17) hx hb dX12_readNumber_5 (by decide) hf (fun hf => ?_) (fun hf => ?_)
  · exact hc_17  s0 _ _ _ (lv_sub hl [0] rfl) hP hS hf
  · refine lv_aload_n hx hb dX12_readNumber_8 rfl (lv_at hl 0 rfl) ?_
    obtain ⟨r9, s10, h11, hf⟩ := zbd_some hf
    refine zcallV X hP hS hl.1 (k := 0) (As := []) (rest := [.ref (ad 0)]) (cn_X12_here h11) cw_X12_here zp_12 rfl (by decide) rfl ml_X12_342 (by decide) rfl rfl (Nat.le_of_ble_eq_true rfl) dX12_readNumber_9 (fun H locs hP hS => ?_)
    refine lv_bipush (v := 32) hx hb dX12_readNumber_12 (by decide) ?_
    refine zicmp_eq (tgt := 21) hx hb dX12_readNumber_14 (by decide) hf (fun hf => ?_) (fun hf => ?_)
    · refine lv_iconst (v := 0) hx hb dX12_readNumber_21 (by decide) ?_
      exact hc_22 0 s10 _ _ _ (lv_sub hl [0] rfl) hP hS hf
    · exact hc_17  s10 _ _ _ (lv_sub hl [0] rfl) hP hS hf
theorem dX12_workOut_0 : decode cX12_workOut 0 = .ok (.iload_n 1, 1) := by decide +kernel
theorem dX12_workOut_1 : decode cX12_workOut 1 = .ok (.iconst 3, 1) := by decide +kernel
theorem dX12_workOut_2 : decode cX12_workOut 2 = .ok (.if_icmp .ne 48, 3) := by decide +kernel
theorem dX12_workOut_5 : decode cX12_workOut 5 = .ok (.aload_n 0, 1) := by decide +kernel
theorem dX12_workOut_6 : decode cX12_workOut 6 = .ok (.aload_n 0, 1) := by decide +kernel
theorem dX12_workOut_7 : decode cX12_workOut 7 = .ok (.getfield 111, 3) := by decide +kernel
theorem dX12_workOut_10 : decode cX12_workOut 10 = .ok (.invokevirtual 278, 3) := by decide +kernel
theorem dX12_workOut_13 : decode cX12_workOut 13 = .ok (.aload_n 0, 1) := by decide +kernel
theorem dX12_workOut_14 : decode cX12_workOut 14 = .ok (.iload_n 2, 1) := by decide +kernel
theorem dX12_workOut_15 : decode cX12_workOut 15 = .ok (.aload_n 0, 1) := by decide +kernel
theorem dX12_workOut_16 : decode cX12_workOut 16 = .ok (.getfield 114, 3) := by decide +kernel
theorem dX12_workOut_19 : decode cX12_workOut 19 = .ok (.invokevirtual 264, 3) := by decide +kernel
theorem dX12_workOut_22 : decode cX12_workOut 22 = .ok (.iconst 0, 1) := by decide +kernel
theorem dX12_workOut_23 : decode cX12_workOut 23 = .ok (.istore 4, 2) := by decide +kernel
theorem dX12_workOut_25 : decode cX12_workOut 25 = .ok (.iload 4, 2) := by decide +kernel
theorem dX12_workOut_27 : decode cX12_workOut 27 = .ok (.iload_n 3, 1) := by decide +kernel
theorem dX12_workOut_28 : decode cX12_workOut 28 = .ok (.if_icmp .ge 21, 3) := by decide +kernel
theorem dX12_workOut_31 : decode cX12_workOut 31 = .ok (.aload_n 0, 1) := by decide +kernel
theorem dX12_workOut_32 : decode cX12_workOut 32 = .ok (.aload_n 0, 1) := by decide +kernel
theorem dX12_workOut_33 : decode cX12_workOut 33 = .ok (.getfield 111, 3) := by decide +kernel
theorem dX12_workOut_36 : decode cX12_workOut 36 = .ok (.aload_n 0, 1) := by decide +kernel
theorem dX12_workOut_37 : decode cX12_workOut 37 = .ok (.getfield 114, 3) := by decide +kernel
theorem dX12_workOut_40 : decode cX12_workOut 40 = .ok (.invokevirtual 272, 3) := by decide +kernel
theorem dX12_workOut_43 : decode cX12_workOut 43 = .ok (.iinc 4 1, 3) := by decide +kernel
theorem dX12_workOut_46 : decode cX12_workOut 46 = .ok (.goto (-21), 3) := by decide +kernel
theorem dX12_workOut_49 : decode cX12_workOut 49 = .ok (.return_, 1) := by decide +kernel
theorem dX12_workOut_50 : decode cX12_workOut 50 = .ok (.aload_n 0, 1) := by decide +kernel
theorem dX12_workOut_51 : decode cX12_workOut 51 = .ok (.iload_n 2, 1) := by decide +kernel
theorem dX12_workOut_52 : decode cX12_workOut 52 = .ok (.aload_n 0, 1) := by decide +kernel
theorem dX12_workOut_53 : decode cX12_workOut 53 = .ok (.getfield 111, 3) := by decide +kernel
theorem dX12_workOut_56 : decode cX12_workOut 56 = .ok (.invokevirtual 264, 3) := by decide +kernel
theorem dX12_workOut_59 : decode cX12_workOut 59 = .ok (.iload_n 1, 1) := by decide +kernel
theorem dX12_workOut_60 : decode cX12_workOut 60 = .ok (.iconst 4, 1) := by decide +kernel
theorem dX12_workOut_61 : decode cX12_workOut 61 = .ok (.if_icmp .ne 51, 3) := by decide +kernel
theorem dX12_workOut_64 : decode cX12_workOut 64 = .ok (.iconst 0, 1) := by decide +kernel
theorem dX12_workOut_65 : decode cX12_workOut 65 = .ok (.istore 4, 2) := by decide +kernel
theorem dX12_workOut_67 : decode cX12_workOut 67 = .ok (.iload 4, 2) := by decide +kernel
theorem dX12_workOut_69 : decode cX12_workOut 69 = .ok (.aload_n 0, 1) := by decide +kernel
theorem dX12_workOut_70 : decode cX12_workOut 70 = .ok (.getfield 56, 3) := by decide +kernel
theorem dX12_workOut_73 : decode cX12_workOut 73 = .ok (.if_icmp .ge 38, 3) := by decide +kernel
theorem dX12_workOut_76 : decode cX12_workOut 76 = .ok (.aload_n 0, 1) := by decide +kernel
theorem dX12_workOut_77 : decode cX12_workOut 77 = .ok (.getfield 111, 3) := by decide +kernel
theorem dX12_workOut_80 : decode cX12_workOut 80 = .ok (.iload 4, 2) := by decide +kernel
theorem dX12_workOut_82 : decode cX12_workOut 82 = .ok (.aload_n 0, 1) := by decide +kernel
theorem dX12_workOut_83 : decode cX12_workOut 83 = .ok (.getfield 75, 3) := by decide +kernel
theorem dX12_workOut_86 : decode cX12_workOut 86 = .ok (.iload 4, 2) := by decide +kernel
theorem dX12_workOut_88 : decode cX12_workOut 88 = .ok (.iaload, 1) := by decide +kernel
theorem dX12_workOut_89 : decode cX12_workOut 89 = .ok (.iload_n 3, 1) := by decide +kernel
theorem dX12_workOut_90 : decode cX12_workOut 90 = .ok (.if_icmp .ne 13, 3) := by decide +kernel
theorem dX12_workOut_93 : decode cX12_workOut 93 = .ok (.aload_n 0, 1) := by decide +kernel
theorem dX12_workOut_94 : decode cX12_workOut 94 = .ok (.getfield 111, 3) := by decide +kernel
theorem dX12_workOut_97 : decode cX12_workOut 97 = .ok (.iload 4, 2) := by decide +kernel
theorem dX12_workOut_99 : decode cX12_workOut 99 = .ok (.laload, 1) := by decide +kernel
theorem dX12_workOut_100 : decode cX12_workOut 100 = .ok (.goto 4, 3) := by decide +kernel
theorem dX12_workOut_103 : decode cX12_workOut 103 = .ok (.lconst 0, 1) := by decide +kernel
theorem dX12_workOut_104 : decode cX12_workOut 104 = .ok (.lastore, 1) := by decide +kernel
theorem dX12_workOut_105 : decode cX12_workOut 105 = .ok (.iinc 4 1, 3) := by decide +kernel
theorem dX12_workOut_108 : decode cX12_workOut 108 = .ok (.goto (-41), 3) := by decide +kernel
theorem dX12_workOut_111 : decode cX12_workOut 111 = .ok (.return_, 1) := by decide +kernel
theorem dX12_workOut_112 : decode cX12_workOut 112 = .ok (.aload_n 0, 1) := by decide +kernel
theorem dX12_workOut_113 : decode cX12_workOut 113 = .ok (.iload_n 3, 1) := by decide +kernel
theorem dX12_workOut_114 : decode cX12_workOut 114 = .ok (.aload_n 0, 1) := by decide +kernel
theorem dX12_workOut_115 : decode cX12_workOut 115 = .ok (.getfield 114, 3) := by decide +kernel
theorem dX12_workOut_118 : decode cX12_workOut 118 = .ok (.invokevirtual 264, 3) := by decide +kernel
theorem dX12_workOut_121 : decode cX12_workOut 121 = .ok (.iload_n 1, 1) := by decide +kernel
theorem dX12_workOut_122 : decode cX12_workOut 122 = .ok (.iconst 1, 1) := by decide +kernel
theorem dX12_workOut_123 : decode cX12_workOut 123 = .ok (.if_icmp .ne 16, 3) := by decide +kernel
theorem dX12_workOut_126 : decode cX12_workOut 126 = .ok (.aload_n 0, 1) := by decide +kernel
theorem dX12_workOut_127 : decode cX12_workOut 127 = .ok (.aload_n 0, 1) := by decide +kernel
theorem dX12_workOut_128 : decode cX12_workOut 128 = .ok (.getfield 111, 3) := by decide +kernel
theorem dX12_workOut_131 : decode cX12_workOut 131 = .ok (.aload_n 0, 1) := by decide +kernel
theorem dX12_workOut_132 : decode cX12_workOut 132 = .ok (.getfield 114, 3) := by decide +kernel
theorem dX12_workOut_135 : decode cX12_workOut 135 = .ok (.invokevirtual 272, 3) := by decide +kernel
theorem dX12_workOut_138 : decode cX12_workOut 138 = .ok (.return_, 1) := by decide +kernel
theorem dX12_workOut_139 : decode cX12_workOut 139 = .ok (.iconst 0, 1) := by decide +kernel
theorem dX12_workOut_140 : decode cX12_workOut 140 = .ok (.istore 4, 2) := by decide +kernel
theorem dX12_workOut_142 : decode cX12_workOut 142 = .ok (.iload 4, 2) := by decide +kernel
theorem dX12_workOut_144 : decode cX12_workOut 144 = .ok (.aload_n 0, 1) := by decide +kernel
theorem dX12_workOut_145 : decode cX12_workOut 145 = .ok (.getfield 56, 3) := by decide +kernel
theorem dX12_workOut_148 : decode cX12_workOut 148 = .ok (.if_icmp .ge 41, 3) := by decide +kernel
theorem dX12_workOut_151 : decode cX12_workOut 151 = .ok (.aload_n 0, 1) := by decide +kernel
theorem dX12_workOut_152 : decode cX12_workOut 152 = .ok (.getfield 111, 3) := by decide +kernel
theorem dX12_workOut_155 : decode cX12_workOut 155 = .ok (.iload 4, 2) := by decide +kernel
theorem dX12_workOut_157 : decode cX12_workOut 157 = .ok (.dup2, 1) := by decide +kernel
theorem dX12_workOut_158 : decode cX12_workOut 158 = .ok (.laload, 1) := by decide +kernel
theorem dX12_workOut_159 : decode cX12_workOut 159 = .ok (.iload_n 1, 1) := by decide +kernel
theorem dX12_workOut_160 : decode cX12_workOut 160 = .ok (.ifCond .ne 13, 3) := by decide +kernel
theorem dX12_workOut_163 : decode cX12_workOut 163 = .ok (.aload_n 0, 1) := by decide +kernel
theorem dX12_workOut_164 : decode cX12_workOut 164 = .ok (.getfield 114, 3) := by decide +kernel
theorem dX12_workOut_167 : decode cX12_workOut 167 = .ok (.iload 4, 2) := by decide +kernel
theorem dX12_workOut_169 : decode cX12_workOut 169 = .ok (.laload, 1) := by decide +kernel
theorem dX12_workOut_170 : decode cX12_workOut 170 = .ok (.goto 11, 3) := by decide +kernel
theorem dX12_workOut_173 : decode cX12_workOut 173 = .ok (.aload_n 0, 1) := by decide +kernel
theorem dX12_workOut_174 : decode cX12_workOut 174 = .ok (.getfield 114, 3) := by decide +kernel
theorem dX12_workOut_177 : decode cX12_workOut 177 = .ok (.iload 4, 2) := by decide +kernel
theorem dX12_workOut_179 : decode cX12_workOut 179 = .ok (.laload, 1) := by decide +kernel
theorem dX12_workOut_180 : decode cX12_workOut 180 = .ok (.lneg, 1) := by decide +kernel
theorem dX12_workOut_181 : decode cX12_workOut 181 = .ok (.ladd, 1) := by decide +kernel
theorem dX12_workOut_182 : decode cX12_workOut 182 = .ok (.lastore, 1) := by decide +kernel
theorem dX12_workOut_183 : decode cX12_workOut 183 = .ok (.iinc 4 1, 3) := by decide +kernel
theorem dX12_workOut_186 : decode cX12_workOut 186 = .ok (.goto (-44), 3) := by decide +kernel
theorem dX12_workOut_189 : decode cX12_workOut 189 = .ok (.return_, 1) := by decide +kernel
set_option maxHeartbeats 4000000 in
set_option maxRecDepth 100000 in
theorem cn_X12_workOut {l : Launch} {cA : Nat → ClassId} {ad : Nat → Nat} {D : va_G} {E : Nat → Nat} {A : Nat → Prop} {x1 : Int32} {x2 : Int32} {x3 : Int32} {s0 sr : SS} {rr : Unit} (hf : f_X12_workOut x1 x2 x3 s0 = some (rr, sr)) : zCon Om Nm cA ad D E l yX12_workOut cX12_workOut 5 none 5 A [.ref (ad 0), .int x1, .int x2, .int x3] s0 none sr := by
  refine zstart (own := RX12) hOm (by decide) rfl (Nat.le_of_ble_eq_true rfl) ?_
  intro p e s m args below meth c X hP ls hl
  have hx := X.1
  have hb := X.2.1
  have hl : lv_has ls 5 [(0, .ref (ad 0)), (1, .int x1), (2, .int x2), (3, .int x3)] := hl
  have hS : va_S A s.heap s.heap [] := va_S.rf
  have hc_142 : ∀ (n142 : Nat) (x1 : Int32) (x4 : Int32) (s1 : SS) (H : Heap) (locs : List Loc) (ls : Array Slot), lv_has ls 5 [(0, .ref (ad 0)), (1, .int x1), (4, .int x4)] → va_P D ZCL (zw Om Nm cA ad s1) H → va_S A s.heap H locs → f_X12_workOut_c142 n142 x1 x4 s1 = some (rr, sr) → W p l e (zrm 5) s m args below meth c H locs 0 0 (MQ below (zQc Om Nm cA ad D A none sr) args s 0 0 A) (F0 m 142 ls []) := by
    intro n142
    induction n142 with
    | zero =>
      intro x1 x4 s1 H locs ls hl hP hS hf
      rw [f_X12_workOut_c142] at hf
      cases hf
    | succ n142 ih142 =>
      have hc_181 : ∀ (x1 : Int32) (x4 : Int32) (t0 : Int64) (t1 : Int64) (t2 : Int32) (s1 : SS) (H : Heap) (locs : List Loc) (ls : Array Slot), lv_has ls 5 [(0, .ref (ad 0)), (1, .int x1), (4, .int x4)] → va_P D ZCL (zw Om Nm cA ad s1) H → va_S A s.heap H locs → f_X12_workOut_c181 (f_X12_workOut_c142 n142) x1 x4 t0 t1 t2 s1 = some (rr, sr) → W p l e (zrm 5) s m args below meth c H locs 0 0 (MQ below (zQc Om Nm cA ad D A none sr) args s 0 0 A) (F0 m 181 ls [.long t0, .long t1, .int t2, .ref (ad 13)]) := by
        intro x1 x4 t0 t1 t2 s1 H locs ls hl hP hS hf
        rw [f_X12_workOut_c181] at hf
        refine lv_ladd hx hb dX12_workOut_181 ?_
        obtain ⟨g9, hf⟩ := zgd hf
        refine zast_l X hP hS (k := 13) (n := 462) (rs := []) rfl g9 dX12_workOut_182 (fun H locs hP hS => ?_)
        refine lv_iinc (v := (x4 + 1)) (lv' := [(4, .int (x4 + 1)), (0, .ref (ad 0)), (1, .int x1)]) hx hb dX12_workOut_183 hl (k := 2) rfl rfl (by decide) rfl (fun ls hl => ?_)
        refine lv_goto (tgt := 142) hx hb dX12_workOut_186 (by decide) ?_
        exact ih142 x1 (x4 + 1) (zSL s1 13 (t2).toNatClampNeg (t1 + t0)) _ _ _ (lv_sub hl [1, 2, 0] rfl) hP hS hf
      intro x1 x4 s1 H locs ls hl hP hS hf
      rw [f_X12_workOut_c142] at hf
      refine lv_iload hx hb dX12_workOut_142 (lv_at hl 2 rfl) ?_
      refine lv_aload_n hx hb dX12_workOut_144 rfl (lv_at hl 0 rfl) ?_
      refine gf_X12_56 X hP (k := 0) rfl dX12_workOut_145 ?_
      refine zicmp_ge (tgt := 189) hx hb dX12_workOut_148 (by decide) hf (fun hf => ?_) (fun hf => ?_)
      · exact zret_v X hP hS hf dX12_workOut_189
      · refine lv_aload_n hx hb dX12_workOut_151 rfl (lv_at hl 0 rfl) ?_
        refine gf_X12_111 X hP (k := 0) (q := 13) rfl dX12_workOut_152 rfl ?_
        refine lv_iload hx hb dX12_workOut_155 (lv_at hl 2 rfl) ?_
        refine lv_dup2_11 hx hb dX12_workOut_157 rfl rfl ?_
        obtain ⟨g7, hf⟩ := zgd hf
        refine zald_l X hP (k := 13) (n := 462) (rs := []) rfl g7 dX12_workOut_158 ?_
        refine lv_iload_n hx hb dX12_workOut_159 rfl (lv_at hl 1 rfl) ?_
        refine zif_ne (tgt := 173) hx hb dX12_workOut_160 (by decide) hf (fun hf => ?_) (fun hf => ?_)
        · refine lv_aload_n hx hb dX12_workOut_173 rfl (lv_at hl 0 rfl) ?_
          refine gf_X12_114 X hP (k := 0) (q := 14) rfl dX12_workOut_174 rfl ?_
          refine lv_iload hx hb dX12_workOut_177 (lv_at hl 2 rfl) ?_
          obtain ⟨g8, hf⟩ := zgd hf
          refine zald_l X hP (k := 14) (n := 462) (rs := []) rfl g8 dX12_workOut_179 ?_
          refine lv_lneg hx hb dX12_workOut_180 ?_
          exact hc_181 x1 x4 (-(s1.2 14 (x4).toNatClampNeg)) (s1.2 13 (x4).toNatClampNeg) x4 s1 _ _ _ (lv_sub hl [0, 1, 2] rfl) hP hS hf
        · refine lv_aload_n hx hb dX12_workOut_163 rfl (lv_at hl 0 rfl) ?_
          refine gf_X12_114 X hP (k := 0) (q := 14) rfl dX12_workOut_164 rfl ?_
          refine lv_iload hx hb dX12_workOut_167 (lv_at hl 2 rfl) ?_
          obtain ⟨g10, hf⟩ := zgd hf
          refine zald_l X hP (k := 14) (n := 462) (rs := []) rfl g10 dX12_workOut_169 ?_
          refine lv_goto (tgt := 181) hx hb dX12_workOut_170 (by decide) ?_
          exact hc_181 x1 x4 (s1.2 14 (x4).toNatClampNeg) (s1.2 13 (x4).toNatClampNeg) x4 s1 _ _ _ (lv_sub hl [0, 1, 2] rfl) hP hS hf
  have hc_67 : ∀ (n67 : Nat) (x3 : Int32) (x4 : Int32) (s1 : SS) (H : Heap) (locs : List Loc) (ls : Array Slot), lv_has ls 5 [(0, .ref (ad 0)), (3, .int x3), (4, .int x4)] → va_P D ZCL (zw Om Nm cA ad s1) H → va_S A s.heap H locs → f_X12_workOut_c67 n67 x3 x4 s1 = some (rr, sr) → W p l e (zrm 5) s m args below meth c H locs 0 0 (MQ below (zQc Om Nm cA ad D A none sr) args s 0 0 A) (F0 m 67 ls []) := by
    intro n67
    induction n67 with
    | zero =>
      intro x3 x4 s1 H locs ls hl hP hS hf
      rw [f_X12_workOut_c67] at hf
      cases hf
    | succ n67 ih67 =>
      have hc_104 : ∀ (x3 : Int32) (x4 : Int32) (t0 : Int64) (t1 : Int32) (s1 : SS) (H : Heap) (locs : List Loc) (ls : Array Slot), lv_has ls 5 [(0, .ref (ad 0)), (3, .int x3), (4, .int x4)] → va_P D ZCL (zw Om Nm cA ad s1) H → va_S A s.heap H locs → f_X12_workOut_c104 (f_X12_workOut_c67 n67) x3 x4 t0 t1 s1 = some (rr, sr) → W p l e (zrm 5) s m args below meth c H locs 0 0 (MQ below (zQc Om Nm cA ad D A none sr) args s 0 0 A) (F0 m 104 ls [.long t0, .int t1, .ref (ad 13)]) := by
        intro x3 x4 t0 t1 s1 H locs ls hl hP hS hf
        rw [f_X12_workOut_c104] at hf
        obtain ⟨g15, hf⟩ := zgd hf
        refine zast_l X hP hS (k := 13) (n := 462) (rs := []) rfl g15 dX12_workOut_104 (fun H locs hP hS => ?_)
        refine lv_iinc (v := (x4 + 1)) (lv' := [(4, .int (x4 + 1)), (0, .ref (ad 0)), (3, .int x3)]) hx hb dX12_workOut_105 hl (k := 2) rfl rfl (by decide) rfl (fun ls hl => ?_)
        refine lv_goto (tgt := 67) hx hb dX12_workOut_108 (by decide) ?_
        exact ih67 x3 (x4 + 1) (zSL s1 13 (t1).toNatClampNeg t0) _ _ _ (lv_sub hl [1, 2, 0] rfl) hP hS hf
      intro x3 x4 s1 H locs ls hl hP hS hf
      rw [f_X12_workOut_c67] at hf
      refine lv_iload hx hb dX12_workOut_67 (lv_at hl 2 rfl) ?_
      refine lv_aload_n hx hb dX12_workOut_69 rfl (lv_at hl 0 rfl) ?_
      refine gf_X12_56 X hP (k := 0) rfl dX12_workOut_70 ?_
      refine zicmp_ge (tgt := 111) hx hb dX12_workOut_73 (by decide) hf (fun hf => ?_) (fun hf => ?_)
      · exact zret_v X hP hS hf dX12_workOut_111
      · refine lv_aload_n hx hb dX12_workOut_76 rfl (lv_at hl 0 rfl) ?_
        refine gf_X12_111 X hP (k := 0) (q := 13) rfl dX12_workOut_77 rfl ?_
        refine lv_iload hx hb dX12_workOut_80 (lv_at hl 2 rfl) ?_
        refine lv_aload_n hx hb dX12_workOut_82 rfl (lv_at hl 0 rfl) ?_
        refine gf_X12_75 X hP (k := 0) (q := 5) rfl dX12_workOut_83 rfl ?_
        refine lv_iload hx hb dX12_workOut_86 (lv_at hl 2 rfl) ?_
        obtain ⟨g14, hf⟩ := zgd hf
        refine zald_i X hP (k := 5) (n := 462) (rs := []) rfl g14 dX12_workOut_88 ?_
        refine lv_iload_n hx hb dX12_workOut_89 rfl (lv_at hl 1 rfl) ?_
        refine zicmp_ne (tgt := 103) hx hb dX12_workOut_90 (by decide) hf (fun hf => ?_) (fun hf => ?_)
        · refine lv_lconst (v := 0) hx hb dX12_workOut_103 (by decide) ?_
          exact hc_104 x3 x4 0 x4 s1 _ _ _ (lv_sub hl [0, 1, 2] rfl) hP hS hf
        · refine lv_aload_n hx hb dX12_workOut_93 rfl (lv_at hl 0 rfl) ?_
          refine gf_X12_111 X hP (k := 0) (q := 13) rfl dX12_workOut_94 rfl ?_
          refine lv_iload hx hb dX12_workOut_97 (lv_at hl 2 rfl) ?_
          obtain ⟨g16, hf⟩ := zgd hf
          refine zald_l X hP (k := 13) (n := 462) (rs := []) rfl g16 dX12_workOut_99 ?_
          refine lv_goto (tgt := 104) hx hb dX12_workOut_100 (by decide) ?_
          exact hc_104 x3 x4 (s1.2 13 (x4).toNatClampNeg) x4 s1 _ _ _ (lv_sub hl [0, 1, 2] rfl) hP hS hf
  have hc_25 : ∀ (n25 : Nat) (x3 : Int32) (x4 : Int32) (s1 : SS) (H : Heap) (locs : List Loc) (ls : Array Slot), lv_has ls 5 [(0, .ref (ad 0)), (3, .int x3), (4, .int x4)] → va_P D ZCL (zw Om Nm cA ad s1) H → va_S A s.heap H locs → f_X12_workOut_c25 n25 x3 x4 s1 = some (rr, sr) → W p l e (zrm 5) s m args below meth c H locs 0 0 (MQ below (zQc Om Nm cA ad D A none sr) args s 0 0 A) (F0 m 25 ls []) := by
    intro n25
    induction n25 with
    | zero =>
      intro x3 x4 s1 H locs ls hl hP hS hf
      rw [f_X12_workOut_c25] at hf
      cases hf
    | succ n25 ih25 =>
      intro x3 x4 s1 H locs ls hl hP hS hf
      rw [f_X12_workOut_c25] at hf
      refine lv_iload hx hb dX12_workOut_25 (lv_at hl 2 rfl) ?_
      refine lv_iload_n hx hb dX12_workOut_27 rfl (lv_at hl 1 rfl) ?_
      refine zicmp_ge (tgt := 49) hx hb dX12_workOut_28 (by decide) hf (fun hf => ?_) (fun hf => ?_)
      · exact zret_v X hP hS hf dX12_workOut_49
      · refine lv_aload_n hx hb dX12_workOut_31 rfl (lv_at hl 0 rfl) ?_
        refine lv_aload_n hx hb dX12_workOut_32 rfl (lv_at hl 0 rfl) ?_
        refine gf_X12_111 X hP (k := 0) (q := 13) rfl dX12_workOut_33 rfl ?_
        refine lv_aload_n hx hb dX12_workOut_36 rfl (lv_at hl 0 rfl) ?_
        refine gf_X12_114 X hP (k := 0) (q := 14) rfl dX12_workOut_37 rfl ?_
        obtain ⟨r23, s24, h25, hf⟩ := zbd_some hf
        refine zcallV X hP hS hl.1 (k := 0) (As := [.ref (ad 13), .ref (ad 14)]) (rest := []) (cn_X12_multiply h25) cw_X12_multiply zp_12 rfl (by decide) rfl ml_X12_272 (by decide) rfl rfl (Nat.le_of_ble_eq_true rfl) dX12_workOut_40 (fun H locs hP hS => ?_)
        refine lv_iinc (v := (x4 + 1)) (lv' := [(4, .int (x4 + 1)), (0, .ref (ad 0)), (3, .int x3)]) hx hb dX12_workOut_43 hl (k := 2) rfl rfl (by decide) rfl (fun ls hl => ?_)
        refine lv_goto (tgt := 25) hx hb dX12_workOut_46 (by decide) ?_
        exact ih25 x3 (x4 + 1) s24 _ _ _ (lv_sub hl [1, 2, 0] rfl) hP hS hf
  rw [f_X12_workOut] at hf
  refine lv_iload_n hx hb dX12_workOut_0 rfl (lv_at hl 1 rfl) ?_
  refine lv_iconst (v := 3) hx hb dX12_workOut_1 (by decide) ?_
  refine zicmp_ne (tgt := 50) hx hb dX12_workOut_2 (by decide) hf (fun hf => ?_) (fun hf => ?_)
  · refine lv_aload_n hx hb dX12_workOut_50 rfl (lv_at hl 0 rfl) ?_
    refine lv_iload_n hx hb dX12_workOut_51 rfl (lv_at hl 2 rfl) ?_
    refine lv_aload_n hx hb dX12_workOut_52 rfl (lv_at hl 0 rfl) ?_
    refine gf_X12_111 X hP (k := 0) (q := 13) rfl dX12_workOut_53 rfl ?_
    obtain ⟨r1, s2, h3, hf⟩ := zbd_some hf
    refine zcallV X hP hS hl.1 (k := 0) (As := [.int x2, .ref (ad 13)]) (rest := []) (cn_X12_layClass h3) cw_X12_layClass zp_12 rfl (by decide) rfl ml_X12_264 (by decide) rfl rfl (Nat.le_of_ble_eq_true rfl) dX12_workOut_56 (fun H locs hP hS => ?_)
    refine lv_iload_n hx hb dX12_workOut_59 rfl (lv_at hl 1 rfl) ?_
    refine lv_iconst (v := 4) hx hb dX12_workOut_60 (by decide) ?_
    refine zicmp_ne (tgt := 112) hx hb dX12_workOut_61 (by decide) hf (fun hf => ?_) (fun hf => ?_)
    · refine lv_aload_n hx hb dX12_workOut_112 rfl (lv_at hl 0 rfl) ?_
      refine lv_iload_n hx hb dX12_workOut_113 rfl (lv_at hl 3 rfl) ?_
      refine lv_aload_n hx hb dX12_workOut_114 rfl (lv_at hl 0 rfl) ?_
      refine gf_X12_114 X hP (k := 0) (q := 14) rfl dX12_workOut_115 rfl ?_
      obtain ⟨r4, s5, h6, hf⟩ := zbd_some hf
      refine zcallV X hP hS hl.1 (k := 0) (As := [.int x3, .ref (ad 14)]) (rest := []) (cn_X12_layClass h6) cw_X12_layClass zp_12 rfl (by decide) rfl ml_X12_264 (by decide) rfl rfl (Nat.le_of_ble_eq_true rfl) dX12_workOut_118 (fun H locs hP hS => ?_)
      refine lv_iload_n hx hb dX12_workOut_121 rfl (lv_at hl 1 rfl) ?_
      refine lv_iconst (v := 1) hx hb dX12_workOut_122 (by decide) ?_
      refine zicmp_ne (tgt := 139) hx hb dX12_workOut_123 (by decide) hf (fun hf => ?_) (fun hf => ?_)
      · refine lv_iconst (v := 0) hx hb dX12_workOut_139 (by decide) ?_
        refine lv_istore (lv' := [(4, .int 0), (0, .ref (ad 0)), (1, .int x1), (2, .int x2), (3, .int x3)]) hx hb dX12_workOut_140 hl (by decide) rfl (fun ls hl => ?_)
        exact hc_142 ZF x1 0 s5 _ _ _ (lv_sub hl [1, 2, 0] rfl) hP hS hf
      · refine lv_aload_n hx hb dX12_workOut_126 rfl (lv_at hl 0 rfl) ?_
        refine lv_aload_n hx hb dX12_workOut_127 rfl (lv_at hl 0 rfl) ?_
        refine gf_X12_111 X hP (k := 0) (q := 13) rfl dX12_workOut_128 rfl ?_
        refine lv_aload_n hx hb dX12_workOut_131 rfl (lv_at hl 0 rfl) ?_
        refine gf_X12_114 X hP (k := 0) (q := 14) rfl dX12_workOut_132 rfl ?_
        obtain ⟨r11, s12, h13, hf⟩ := zbd_some hf
        refine zcallV X hP hS hl.1 (k := 0) (As := [.ref (ad 13), .ref (ad 14)]) (rest := []) (cn_X12_multiply h13) cw_X12_multiply zp_12 rfl (by decide) rfl ml_X12_272 (by decide) rfl rfl (Nat.le_of_ble_eq_true rfl) dX12_workOut_135 (fun H locs hP hS => ?_)
        exact zret_v X hP hS hf dX12_workOut_138
    · refine lv_iconst (v := 0) hx hb dX12_workOut_64 (by decide) ?_
      refine lv_istore (lv' := [(4, .int 0), (0, .ref (ad 0)), (1, .int x1), (2, .int x2), (3, .int x3)]) hx hb dX12_workOut_65 hl (by decide) rfl (fun ls hl => ?_)
      exact hc_67 ZF x3 0 s2 _ _ _ (lv_sub hl [1, 4, 0] rfl) hP hS hf
  · refine lv_aload_n hx hb dX12_workOut_5 rfl (lv_at hl 0 rfl) ?_
    refine lv_aload_n hx hb dX12_workOut_6 rfl (lv_at hl 0 rfl) ?_
    refine gf_X12_111 X hP (k := 0) (q := 13) rfl dX12_workOut_7 rfl ?_
    obtain ⟨r17, s18, h19, hf⟩ := zbd_some hf
    refine zcallV X hP hS hl.1 (k := 0) (As := [.ref (ad 13)]) (rest := []) (cn_X12_layOne h19) cw_X12_layOne zp_12 rfl (by decide) rfl ml_X12_278 (by decide) rfl rfl (Nat.le_of_ble_eq_true rfl) dX12_workOut_10 (fun H locs hP hS => ?_)
    refine lv_aload_n hx hb dX12_workOut_13 rfl (lv_at hl 0 rfl) ?_
    refine lv_iload_n hx hb dX12_workOut_14 rfl (lv_at hl 2 rfl) ?_
    refine lv_aload_n hx hb dX12_workOut_15 rfl (lv_at hl 0 rfl) ?_
    refine gf_X12_114 X hP (k := 0) (q := 14) rfl dX12_workOut_16 rfl ?_
    obtain ⟨r20, s21, h22, hf⟩ := zbd_some hf
    refine zcallV X hP hS hl.1 (k := 0) (As := [.int x2, .ref (ad 14)]) (rest := []) (cn_X12_layClass h22) cw_X12_layClass zp_12 rfl (by decide) rfl ml_X12_264 (by decide) rfl rfl (Nat.le_of_ble_eq_true rfl) dX12_workOut_19 (fun H locs hP hS => ?_)
    refine lv_iconst (v := 0) hx hb dX12_workOut_22 (by decide) ?_
    refine lv_istore (lv' := [(4, .int 0), (0, .ref (ad 0)), (1, .int x1), (2, .int x2), (3, .int x3)]) hx hb dX12_workOut_23 hl (by decide) rfl (fun ls hl => ?_)
    exact hc_25 ZF x3 0 s21 _ _ _ (lv_sub hl [1, 4, 0] rfl) hP hS hf
theorem dX12_lay_0 : decode cX12_lay 0 = .ok (.aload_n 0, 1) := by decide +kernel
theorem dX12_lay_1 : decode cX12_lay 1 = .ok (.getfield 417, 3) := by decide +kernel
theorem dX12_lay_4 : decode cX12_lay 4 = .ok (.sipush 200, 3) := by decide +kernel
theorem dX12_lay_7 : decode cX12_lay 7 = .ok (.if_icmp .ge 13, 3) := by decide +kernel
theorem dX12_lay_10 : decode cX12_lay 10 = .ok (.aload_n 0, 1) := by decide +kernel
theorem dX12_lay_11 : decode cX12_lay 11 = .ok (.getfield 135, 3) := by decide +kernel
theorem dX12_lay_14 : decode cX12_lay 14 = .ok (.aload_n 0, 1) := by decide +kernel
theorem dX12_lay_15 : decode cX12_lay 15 = .ok (.getfield 417, 3) := by decide +kernel
theorem dX12_lay_18 : decode cX12_lay 18 = .ok (.iload_n 1, 1) := by decide +kernel
theorem dX12_lay_19 : decode cX12_lay 19 = .ok (.iastore, 1) := by decide +kernel
theorem dX12_lay_20 : decode cX12_lay 20 = .ok (.aload_n 0, 1) := by decide +kernel
theorem dX12_lay_21 : decode cX12_lay 21 = .ok (.dup, 1) := by decide +kernel
theorem dX12_lay_22 : decode cX12_lay 22 = .ok (.getfield 417, 3) := by decide +kernel
theorem dX12_lay_25 : decode cX12_lay 25 = .ok (.iconst 1, 1) := by decide +kernel
theorem dX12_lay_26 : decode cX12_lay 26 = .ok (.iadd, 1) := by decide +kernel
theorem dX12_lay_27 : decode cX12_lay 27 = .ok (.putfield 417, 3) := by decide +kernel
theorem dX12_lay_30 : decode cX12_lay 30 = .ok (.return_, 1) := by decide +kernel
set_option maxHeartbeats 4000000 in
set_option maxRecDepth 100000 in
theorem cn_X12_lay {l : Launch} {cA : Nat → ClassId} {ad : Nat → Nat} {D : va_G} {E : Nat → Nat} {A : Nat → Prop} {x1 : Int32} {s0 sr : SS} {rr : Unit} (hf : f_X12_lay x1 s0 = some (rr, sr)) : zCon Om Nm cA ad D E l yX12_lay cX12_lay 2 none 0 A [.ref (ad 0), .int x1] s0 none sr := by
  refine zstart (own := RX12) hOm (by decide) rfl (Nat.le_of_ble_eq_true rfl) ?_
  intro p e s m args below meth c X hP ls hl
  have hx := X.1
  have hb := X.2.1
  have hl : lv_has ls 2 [(0, .ref (ad 0)), (1, .int x1)] := hl
  have hS : va_S A s.heap s.heap [] := va_S.rf
  rw [f_X12_lay] at hf
  refine lv_aload_n hx hb dX12_lay_0 rfl (lv_at hl 0 rfl) ?_
  refine gf_X12_417 X hP (k := 0) rfl dX12_lay_1 ?_
  refine lv_sipush (v := 200) hx hb dX12_lay_4 (by decide) ?_
  refine zicmp_ge (tgt := 20) hx hb dX12_lay_7 (by decide) hf (fun hf => ?_) (fun hf => ?_)
  · refine lv_aload_n hx hb dX12_lay_20 rfl (lv_at hl 0 rfl) ?_
    refine lv_dup hx hb dX12_lay_21 rfl ?_
    refine gf_X12_417 X hP (k := 0) rfl dX12_lay_22 ?_
    refine lv_iconst (v := 1) hx hb dX12_lay_25 (by decide) ?_
    refine lv_iadd hx hb dX12_lay_26 ?_
    refine pf_X12_417 X hP hS (k := 0) rfl dX12_lay_27 (fun H locs hP hS => ?_)
    exact zret_v X hP hS hf dX12_lay_30
  · refine lv_aload_n hx hb dX12_lay_10 rfl (lv_at hl 0 rfl) ?_
    refine gf_X12_135 X hP (k := 0) (q := 21) rfl dX12_lay_11 rfl ?_
    refine lv_aload_n hx hb dX12_lay_14 rfl (lv_at hl 0 rfl) ?_
    refine gf_X12_417 X hP (k := 0) rfl dX12_lay_15 ?_
    refine lv_iload_n hx hb dX12_lay_18 rfl (lv_at hl 1 rfl) ?_
    obtain ⟨g1, hf⟩ := zgd hf
    refine zast_i X hP hS (k := 21) (n := 200) (rs := []) rfl g1 dX12_lay_19 (fun H locs hP hS => ?_)
    refine lv_aload_n hx hb dX12_lay_20 rfl (lv_at hl 0 rfl) ?_
    refine lv_dup hx hb dX12_lay_21 rfl ?_
    refine gf_X12_417 X hP (k := 0) rfl dX12_lay_22 ?_
    refine lv_iconst (v := 1) hx hb dX12_lay_25 (by decide) ?_
    refine lv_iadd hx hb dX12_lay_26 ?_
    refine pf_X12_417 X hP hS (k := 0) rfl dX12_lay_27 (fun H locs hP hS => ?_)
    exact zret_v X hP hS hf dX12_lay_30
theorem dX12_layNumber_0 : decode cX12_layNumber 0 = .ok (.iconst 0, 1) := by decide +kernel
theorem dX12_layNumber_1 : decode cX12_layNumber 1 = .ok (.istore_n 3, 1) := by decide +kernel
theorem dX12_layNumber_2 : decode cX12_layNumber 2 = .ok (.lload_n 1, 1) := by decide +kernel
theorem dX12_layNumber_3 : decode cX12_layNumber 3 = .ok (.lstore 4, 2) := by decide +kernel
theorem dX12_layNumber_5 : decode cX12_layNumber 5 = .ok (.lload 4, 2) := by decide +kernel
theorem dX12_layNumber_7 : decode cX12_layNumber 7 = .ok (.lconst 0, 1) := by decide +kernel
theorem dX12_layNumber_8 : decode cX12_layNumber 8 = .ok (.lcmp, 1) := by decide +kernel
theorem dX12_layNumber_9 : decode cX12_layNumber 9 = .ok (.ifCond .ne 7, 3) := by decide +kernel
theorem dX12_layNumber_12 : decode cX12_layNumber 12 = .ok (.iload_n 3, 1) := by decide +kernel
theorem dX12_layNumber_13 : decode cX12_layNumber 13 = .ok (.ifCond .ne 47, 3) := by decide +kernel
theorem dX12_layNumber_16 : decode cX12_layNumber 16 = .ok (.lload 4, 2) := by decide +kernel
theorem dX12_layNumber_18 : decode cX12_layNumber 18 = .ok (.ldc2_w 363, 3) := by decide +kernel
theorem dX12_layNumber_21 : decode cX12_layNumber 21 = .ok (.lrem, 1) := by decide +kernel
theorem dX12_layNumber_22 : decode cX12_layNumber 22 = .ok (.lstore 6, 2) := by decide +kernel
theorem dX12_layNumber_24 : decode cX12_layNumber 24 = .ok (.aload_n 0, 1) := by decide +kernel
theorem dX12_layNumber_25 : decode cX12_layNumber 25 = .ok (.getfield 183, 3) := by decide +kernel
theorem dX12_layNumber_28 : decode cX12_layNumber 28 = .ok (.iload_n 3, 1) := by decide +kernel
theorem dX12_layNumber_29 : decode cX12_layNumber 29 = .ok (.lload 6, 2) := by decide +kernel
theorem dX12_layNumber_31 : decode cX12_layNumber 31 = .ok (.lconst 0, 1) := by decide +kernel
theorem dX12_layNumber_32 : decode cX12_layNumber 32 = .ok (.lcmp, 1) := by decide +kernel
theorem dX12_layNumber_33 : decode cX12_layNumber 33 = .ok (.ifCond .ge 9, 3) := by decide +kernel
theorem dX12_layNumber_36 : decode cX12_layNumber 36 = .ok (.lload 6, 2) := by decide +kernel
theorem dX12_layNumber_38 : decode cX12_layNumber 38 = .ok (.lneg, 1) := by decide +kernel
theorem dX12_layNumber_39 : decode cX12_layNumber 39 = .ok (.goto 5, 3) := by decide +kernel
theorem dX12_layNumber_42 : decode cX12_layNumber 42 = .ok (.lload 6, 2) := by decide +kernel
theorem dX12_layNumber_44 : decode cX12_layNumber 44 = .ok (.l2i, 1) := by decide +kernel
theorem dX12_layNumber_45 : decode cX12_layNumber 45 = .ok (.iastore, 1) := by decide +kernel
theorem dX12_layNumber_46 : decode cX12_layNumber 46 = .ok (.lload 4, 2) := by decide +kernel
theorem dX12_layNumber_48 : decode cX12_layNumber 48 = .ok (.ldc2_w 363, 3) := by decide +kernel
theorem dX12_layNumber_51 : decode cX12_layNumber 51 = .ok (.ldiv, 1) := by decide +kernel
theorem dX12_layNumber_52 : decode cX12_layNumber 52 = .ok (.lstore 4, 2) := by decide +kernel
theorem dX12_layNumber_54 : decode cX12_layNumber 54 = .ok (.iinc 3 1, 3) := by decide +kernel
theorem dX12_layNumber_57 : decode cX12_layNumber 57 = .ok (.goto (-52), 3) := by decide +kernel
theorem dX12_layNumber_60 : decode cX12_layNumber 60 = .ok (.iload_n 3, 1) := by decide +kernel
theorem dX12_layNumber_61 : decode cX12_layNumber 61 = .ok (.iconst 1, 1) := by decide +kernel
theorem dX12_layNumber_62 : decode cX12_layNumber 62 = .ok (.isub, 1) := by decide +kernel
theorem dX12_layNumber_63 : decode cX12_layNumber 63 = .ok (.istore 6, 2) := by decide +kernel
theorem dX12_layNumber_65 : decode cX12_layNumber 65 = .ok (.iload 6, 2) := by decide +kernel
theorem dX12_layNumber_67 : decode cX12_layNumber 67 = .ok (.ifCond .lt 23, 3) := by decide +kernel
theorem dX12_layNumber_70 : decode cX12_layNumber 70 = .ok (.aload_n 0, 1) := by decide +kernel
theorem dX12_layNumber_71 : decode cX12_layNumber 71 = .ok (.bipush 48, 2) := by decide +kernel
theorem dX12_layNumber_73 : decode cX12_layNumber 73 = .ok (.aload_n 0, 1) := by decide +kernel
theorem dX12_layNumber_74 : decode cX12_layNumber 74 = .ok (.getfield 183, 3) := by decide +kernel
theorem dX12_layNumber_77 : decode cX12_layNumber 77 = .ok (.iload 6, 2) := by decide +kernel
theorem dX12_layNumber_79 : decode cX12_layNumber 79 = .ok (.iaload, 1) := by decide +kernel
theorem dX12_layNumber_80 : decode cX12_layNumber 80 = .ok (.iadd, 1) := by decide +kernel
theorem dX12_layNumber_81 : decode cX12_layNumber 81 = .ok (.invokevirtual 420, 3) := by decide +kernel
theorem dX12_layNumber_84 : decode cX12_layNumber 84 = .ok (.iinc 6 (-1), 3) := by decide +kernel
theorem dX12_layNumber_87 : decode cX12_layNumber 87 = .ok (.goto (-22), 3) := by decide +kernel
theorem dX12_layNumber_90 : decode cX12_layNumber 90 = .ok (.return_, 1) := by decide +kernel
set_option maxHeartbeats 4000000 in
set_option maxRecDepth 100000 in
theorem cn_X12_layNumber {l : Launch} {cA : Nat → ClassId} {ad : Nat → Nat} {D : va_G} {E : Nat → Nat} {A : Nat → Prop} {x1 : Int64} {s0 sr : SS} {rr : Unit} (hf : f_X12_layNumber x1 s0 = some (rr, sr)) : zCon Om Nm cA ad D E l yX12_layNumber cX12_layNumber 8 none 1 A [.ref (ad 0), .long x1] s0 none sr := by
  refine zstart (own := RX12) hOm (by decide) rfl (Nat.le_of_ble_eq_true rfl) ?_
  intro p e s m args below meth c X hP ls hl
  have hx := X.1
  have hb := X.2.1
  have hl : lv_has ls 8 [(0, .ref (ad 0)), (1, .long x1)] := hl
  have hS : va_S A s.heap s.heap [] := va_S.rf
  have hc_5 : ∀ (n5 : Nat) (x3 : Int32) (x4 : Int64) (s1 : SS) (H : Heap) (locs : List Loc) (ls : Array Slot), lv_has ls 8 [(0, .ref (ad 0)), (3, .int x3), (4, .long x4)] → va_P D ZCL (zw Om Nm cA ad s1) H → va_S A s.heap H locs → f_X12_layNumber_c5 n5 x3 x4 s1 = some (rr, sr) → W p l e (zrm 1) s m args below meth c H locs 0 0 (MQ below (zQc Om Nm cA ad D A none sr) args s 0 0 A) (F0 m 5 ls []) := by
    intro n5
    induction n5 with
    | zero =>
      intro x3 x4 s1 H locs ls hl hP hS hf
      rw [f_X12_layNumber_c5] at hf
      cases hf
    | succ n5 ih5 =>
      have hc_65 : ∀ (n65 : Nat) (x6 : Int32) (s1 : SS) (H : Heap) (locs : List Loc) (ls : Array Slot), lv_has ls 8 [(0, .ref (ad 0)), (6, .int x6)] → va_P D ZCL (zw Om Nm cA ad s1) H → va_S A s.heap H locs → f_X12_layNumber_c65 n65 x6 s1 = some (rr, sr) → W p l e (zrm 1) s m args below meth c H locs 0 0 (MQ below (zQc Om Nm cA ad D A none sr) args s 0 0 A) (F0 m 65 ls []) := by
        intro n65
        induction n65 with
        | zero =>
          intro x6 s1 H locs ls hl hP hS hf
          rw [f_X12_layNumber_c65] at hf
          cases hf
        | succ n65 ih65 =>
          intro x6 s1 H locs ls hl hP hS hf
          rw [f_X12_layNumber_c65] at hf
          refine lv_iload hx hb dX12_layNumber_65 (lv_at hl 1 rfl) ?_
          refine zif_lt (tgt := 90) hx hb dX12_layNumber_67 (by decide) hf (fun hf => ?_) (fun hf => ?_)
          · exact zret_v X hP hS hf dX12_layNumber_90
          · refine lv_aload_n hx hb dX12_layNumber_70 rfl (lv_at hl 0 rfl) ?_
            refine lv_bipush (v := 48) hx hb dX12_layNumber_71 (by decide) ?_
            refine lv_aload_n hx hb dX12_layNumber_73 rfl (lv_at hl 0 rfl) ?_
            refine gf_X12_183 X hP (k := 0) (q := 38) rfl dX12_layNumber_74 rfl ?_
            refine lv_iload hx hb dX12_layNumber_77 (lv_at hl 1 rfl) ?_
            obtain ⟨g2, hf⟩ := zgd hf
            refine zald_i X hP (k := 38) (n := 20) (rs := []) rfl g2 dX12_layNumber_79 ?_
            refine lv_iadd hx hb dX12_layNumber_80 ?_
            obtain ⟨r3, s4, h5, hf⟩ := zbd_some hf
            refine zcallV X hP hS hl.1 (k := 0) (As := [.int ((48 : Int32) + (s1.1 38 (x6).toNatClampNeg))]) (rest := []) (cn_X12_lay h5) cw_X12_lay zp_12 rfl (by decide) rfl ml_X12_420 (by decide) rfl rfl (Nat.le_of_ble_eq_true rfl) dX12_layNumber_81 (fun H locs hP hS => ?_)
            refine lv_iinc (v := (x6 + (-1))) (lv' := [(6, .int (x6 + (-1))), (0, .ref (ad 0))]) hx hb dX12_layNumber_84 hl (k := 1) rfl rfl (by decide) rfl (fun ls hl => ?_)
            refine lv_goto (tgt := 65) hx hb dX12_layNumber_87 (by decide) ?_
            exact ih65 (x6 + (-1)) s4 _ _ _ (lv_sub hl [1, 0] rfl) hP hS hf
      have hc_44 : ∀ (x3 : Int32) (x4 : Int64) (t0 : Int64) (t1 : Int32) (s1 : SS) (H : Heap) (locs : List Loc) (ls : Array Slot), lv_has ls 8 [(0, .ref (ad 0)), (3, .int x3), (4, .long x4)] → va_P D ZCL (zw Om Nm cA ad s1) H → va_S A s.heap H locs → f_X12_layNumber_c44 (f_X12_layNumber_c5 n5) x3 x4 t0 t1 s1 = some (rr, sr) → W p l e (zrm 1) s m args below meth c H locs 0 0 (MQ below (zQc Om Nm cA ad D A none sr) args s 0 0 A) (F0 m 44 ls [.long t0, .int t1, .ref (ad 38)]) := by
        intro x3 x4 t0 t1 s1 H locs ls hl hP hS hf
        rw [f_X12_layNumber_c44] at hf
        refine lv_l2i hx hb dX12_layNumber_44 rfl ?_
        obtain ⟨g1, hf⟩ := zgd hf
        refine zast_i X hP hS (k := 38) (n := 20) (rs := []) rfl g1 dX12_layNumber_45 (fun H locs hP hS => ?_)
        refine lv_lload hx hb dX12_layNumber_46 (lv_at hl 2 rfl) ?_
        refine zldc2 X co_X12_363 dX12_layNumber_48 ?_
        refine lv_ldiv hx hb dX12_layNumber_51 (by decide) ?_
        refine lv_lstore (lv' := [(4, .long (x4 / (10 : Int64))), (0, .ref (ad 0)), (3, .int x3)]) hx hb dX12_layNumber_52 hl (by decide) rfl (fun ls hl => ?_)
        refine lv_iinc (v := (x3 + 1)) (lv' := [(3, .int (x3 + 1)), (4, .long (x4 / (10 : Int64))), (0, .ref (ad 0))]) hx hb dX12_layNumber_54 hl (k := 2) rfl rfl (by decide) rfl (fun ls hl => ?_)
        refine lv_goto (tgt := 5) hx hb dX12_layNumber_57 (by decide) ?_
        exact ih5 (x3 + 1) (x4 / (10 : Int64)) (zS s1 38 (t1).toNatClampNeg ((t0).toInt32)) _ _ _ (lv_sub hl [2, 0, 1] rfl) hP hS hf
      have hc_16 : ∀ (x3 : Int32) (x4 : Int64) (s1 : SS) (H : Heap) (locs : List Loc) (ls : Array Slot), lv_has ls 8 [(0, .ref (ad 0)), (3, .int x3), (4, .long x4)] → va_P D ZCL (zw Om Nm cA ad s1) H → va_S A s.heap H locs → f_X12_layNumber_c16 (f_X12_layNumber_c5 n5) x3 x4 s1 = some (rr, sr) → W p l e (zrm 1) s m args below meth c H locs 0 0 (MQ below (zQc Om Nm cA ad D A none sr) args s 0 0 A) (F0 m 16 ls []) := by
        intro x3 x4 s1 H locs ls hl hP hS hf
        rw [f_X12_layNumber_c16] at hf
        refine lv_lload hx hb dX12_layNumber_16 (lv_at hl 2 rfl) ?_
        refine zldc2 X co_X12_363 dX12_layNumber_18 ?_
        refine lv_lrem hx hb dX12_layNumber_21 (by decide) ?_
        refine lv_lstore (lv' := [(6, .long (x4 - x4 / (10 : Int64) * (10 : Int64))), (0, .ref (ad 0)), (3, .int x3), (4, .long x4)]) hx hb dX12_layNumber_22 hl (by decide) rfl (fun ls hl => ?_)
        refine lv_aload_n hx hb dX12_layNumber_24 rfl (lv_at hl 1 rfl) ?_
        refine gf_X12_183 X hP (k := 0) (q := 38) rfl dX12_layNumber_25 rfl ?_
        refine lv_iload_n hx hb dX12_layNumber_28 rfl (lv_at hl 2 rfl) ?_
        refine lv_lload hx hb dX12_layNumber_29 (lv_at hl 0 rfl) ?_
        refine lv_lconst (v := 0) hx hb dX12_layNumber_31 (by decide) ?_
        refine W.lcmp hx hb dX12_layNumber_32 ?_
        refine zif_ge (tgt := 42) hx hb dX12_layNumber_33 (by decide) hf (fun hf => ?_) (fun hf => ?_)
        · refine lv_lload hx hb dX12_layNumber_42 (lv_at hl 0 rfl) ?_
          exact hc_44 x3 x4 (x4 - x4 / (10 : Int64) * (10 : Int64)) x3 s1 _ _ _ (lv_sub hl [1, 2, 3] rfl) hP hS hf
        · refine lv_lload hx hb dX12_layNumber_36 (lv_at hl 0 rfl) ?_
          refine lv_lneg hx hb dX12_layNumber_38 ?_
          refine lv_goto (tgt := 44) hx hb dX12_layNumber_39 (by decide) ?_
          exact hc_44 x3 x4 (-(x4 - x4 / (10 : Int64) * (10 : Int64))) x3 s1 _ _ _ (lv_sub hl [1, 2, 3] rfl) hP hS hf
      intro x3 x4 s1 H locs ls hl hP hS hf
      rw [f_X12_layNumber_c5] at hf
      refine lv_lload hx hb dX12_layNumber_5 (lv_at hl 2 rfl) ?_
      refine lv_lconst (v := 0) hx hb dX12_layNumber_7 (by decide) ?_
      refine W.lcmp hx hb dX12_layNumber_8 ?_
      refine zif_ne (tgt := 16) hx hb dX12_layNumber_9 (by decide) hf (fun hf => ?_) (fun hf => ?_)
      · exact hc_16 x3 x4 s1 _ _ _ (lv_sub hl [0, 1, 2] rfl) hP hS hf
      · refine lv_iload_n hx hb dX12_layNumber_12 rfl (lv_at hl 1 rfl) ?_
        refine zif_ne (tgt := 60) hx hb dX12_layNumber_13 (by decide) hf (fun hf => ?_) (fun hf => ?_)
        · refine lv_iload_n hx hb dX12_layNumber_60 rfl (lv_at hl 1 rfl) ?_
          refine lv_iconst (v := 1) hx hb dX12_layNumber_61 (by decide) ?_
          refine lv_isub hx hb dX12_layNumber_62 ?_
          refine lv_istore (lv' := [(6, .int (x3 - (1 : Int32))), (0, .ref (ad 0)), (3, .int x3), (4, .long x4)]) hx hb dX12_layNumber_63 hl (by decide) rfl (fun ls hl => ?_)
          exact hc_65 ZF (x3 - (1 : Int32)) s1 _ _ _ (lv_sub hl [1, 0] rfl) hP hS hf
        · exact hc_16 x3 x4 s1 _ _ _ (lv_sub hl [0, 1, 2] rfl) hP hS hf
  rw [f_X12_layNumber] at hf
  refine lv_iconst (v := 0) hx hb dX12_layNumber_0 (by decide) ?_
  refine lv_istore_n (lv' := [(3, .int 0), (0, .ref (ad 0)), (1, .long x1)]) hx hb dX12_layNumber_1 rfl hl (by decide) rfl (fun ls hl => ?_)
  refine lv_lload_n hx hb dX12_layNumber_2 rfl (lv_at hl 2 rfl) ?_
  refine lv_lstore (lv' := [(4, .long x1), (3, .int 0), (0, .ref (ad 0)), (1, .long x1)]) hx hb dX12_layNumber_3 hl (by decide) rfl (fun ls hl => ?_)
  exact hc_5 ZF 0 x1 s0 _ _ _ (lv_sub hl [2, 1, 0] rfl) hP hS hf
theorem dX12_write_0 : decode cX12_write 0 = .ok (.aload_n 0, 1) := by decide +kernel
theorem dX12_write_1 : decode cX12_write 1 = .ok (.iload_n 1, 1) := by decide +kernel
theorem dX12_write_2 : decode cX12_write 2 = .ok (.i2l, 1) := by decide +kernel
theorem dX12_write_3 : decode cX12_write 3 = .ok (.invokevirtual 245, 3) := by decide +kernel
theorem dX12_write_6 : decode cX12_write 6 = .ok (.ifCond .ne 5, 3) := by decide +kernel
theorem dX12_write_9 : decode cX12_write 9 = .ok (.iconst (-1), 1) := by decide +kernel
theorem dX12_write_10 : decode cX12_write 10 = .ok (.ireturn, 1) := by decide +kernel
theorem dX12_write_11 : decode cX12_write 11 = .ok (.aload_n 0, 1) := by decide +kernel
theorem dX12_write_12 : decode cX12_write 12 = .ok (.iconst 0, 1) := by decide +kernel
theorem dX12_write_13 : decode cX12_write 13 = .ok (.putfield 417, 3) := by decide +kernel
theorem dX12_write_16 : decode cX12_write 16 = .ok (.iconst 0, 1) := by decide +kernel
theorem dX12_write_17 : decode cX12_write 17 = .ok (.istore_n 2, 1) := by decide +kernel
theorem dX12_write_18 : decode cX12_write 18 = .ok (.iload_n 2, 1) := by decide +kernel
theorem dX12_write_19 : decode cX12_write 19 = .ok (.aload_n 0, 1) := by decide +kernel
theorem dX12_write_20 : decode cX12_write 20 = .ok (.getfield 56, 3) := by decide +kernel
theorem dX12_write_23 : decode cX12_write 23 = .ok (.if_icmp .ge 147, 3) := by decide +kernel
theorem dX12_write_26 : decode cX12_write 26 = .ok (.aload_n 0, 1) := by decide +kernel
theorem dX12_write_27 : decode cX12_write 27 = .ok (.iload_n 1, 1) := by decide +kernel
theorem dX12_write_28 : decode cX12_write 28 = .ok (.iload_n 2, 1) := by decide +kernel
theorem dX12_write_29 : decode cX12_write 29 = .ok (.invokevirtual 233, 3) := by decide +kernel
theorem dX12_write_32 : decode cX12_write 32 = .ok (.lstore_n 3, 1) := by decide +kernel
theorem dX12_write_33 : decode cX12_write 33 = .ok (.lload_n 3, 1) := by decide +kernel
theorem dX12_write_34 : decode cX12_write 34 = .ok (.lconst 0, 1) := by decide +kernel
theorem dX12_write_35 : decode cX12_write 35 = .ok (.lcmp, 1) := by decide +kernel
theorem dX12_write_36 : decode cX12_write 36 = .ok (.ifCond .eq 128, 3) := by decide +kernel
theorem dX12_write_39 : decode cX12_write 39 = .ok (.lload_n 3, 1) := by decide +kernel
theorem dX12_write_40 : decode cX12_write 40 = .ok (.lconst 0, 1) := by decide +kernel
theorem dX12_write_41 : decode cX12_write 41 = .ok (.lcmp, 1) := by decide +kernel
theorem dX12_write_42 : decode cX12_write 42 = .ok (.ifCond .lt 10, 3) := by decide +kernel
theorem dX12_write_45 : decode cX12_write 45 = .ok (.aload_n 0, 1) := by decide +kernel
theorem dX12_write_46 : decode cX12_write 46 = .ok (.getfield 417, 3) := by decide +kernel
theorem dX12_write_49 : decode cX12_write 49 = .ok (.ifCond .le 20, 3) := by decide +kernel
theorem dX12_write_52 : decode cX12_write 52 = .ok (.aload_n 0, 1) := by decide +kernel
theorem dX12_write_53 : decode cX12_write 53 = .ok (.lload_n 3, 1) := by decide +kernel
theorem dX12_write_54 : decode cX12_write 54 = .ok (.lconst 0, 1) := by decide +kernel
theorem dX12_write_55 : decode cX12_write 55 = .ok (.lcmp, 1) := by decide +kernel
theorem dX12_write_56 : decode cX12_write 56 = .ok (.ifCond .ge 8, 3) := by decide +kernel
theorem dX12_write_59 : decode cX12_write 59 = .ok (.bipush 45, 2) := by decide +kernel
theorem dX12_write_61 : decode cX12_write 61 = .ok (.goto 5, 3) := by decide +kernel
theorem dX12_write_64 : decode cX12_write 64 = .ok (.bipush 43, 2) := by decide +kernel
theorem dX12_write_66 : decode cX12_write 66 = .ok (.invokevirtual 420, 3) := by decide +kernel
theorem dX12_write_69 : decode cX12_write 69 = .ok (.lload_n 3, 1) := by decide +kernel
theorem dX12_write_70 : decode cX12_write 70 = .ok (.lconst 1, 1) := by decide +kernel
theorem dX12_write_71 : decode cX12_write 71 = .ok (.lcmp, 1) := by decide +kernel
theorem dX12_write_72 : decode cX12_write 72 = .ok (.ifCond .eq 11, 3) := by decide +kernel
theorem dX12_write_75 : decode cX12_write 75 = .ok (.lload_n 3, 1) := by decide +kernel
theorem dX12_write_76 : decode cX12_write 76 = .ok (.ldc2_w 30, 3) := by decide +kernel
theorem dX12_write_79 : decode cX12_write 79 = .ok (.lcmp, 1) := by decide +kernel
theorem dX12_write_80 : decode cX12_write 80 = .ok (.ifCond .ne 12, 3) := by decide +kernel
theorem dX12_write_83 : decode cX12_write 83 = .ok (.aload_n 0, 1) := by decide +kernel
theorem dX12_write_84 : decode cX12_write 84 = .ok (.getfield 75, 3) := by decide +kernel
theorem dX12_write_87 : decode cX12_write 87 = .ok (.iload_n 2, 1) := by decide +kernel
theorem dX12_write_88 : decode cX12_write 88 = .ok (.iaload, 1) := by decide +kernel
theorem dX12_write_89 : decode cX12_write 89 = .ok (.ifCond .ne 8, 3) := by decide +kernel
theorem dX12_write_92 : decode cX12_write 92 = .ok (.aload_n 0, 1) := by decide +kernel
theorem dX12_write_93 : decode cX12_write 93 = .ok (.lload_n 3, 1) := by decide +kernel
theorem dX12_write_94 : decode cX12_write 94 = .ok (.invokevirtual 423, 3) := by decide +kernel
theorem dX12_write_97 : decode cX12_write 97 = .ok (.iconst 0, 1) := by decide +kernel
theorem dX12_write_98 : decode cX12_write 98 = .ok (.istore 5, 2) := by decide +kernel
theorem dX12_write_100 : decode cX12_write 100 = .ok (.iload 5, 2) := by decide +kernel
theorem dX12_write_102 : decode cX12_write 102 = .ok (.aload_n 0, 1) := by decide +kernel
theorem dX12_write_103 : decode cX12_write 103 = .ok (.invokevirtual 68, 3) := by decide +kernel
theorem dX12_write_106 : decode cX12_write 106 = .ok (.if_icmp .ge 58, 3) := by decide +kernel
theorem dX12_write_109 : decode cX12_write 109 = .ok (.aload_n 0, 1) := by decide +kernel
theorem dX12_write_110 : decode cX12_write 110 = .ok (.getfield 62, 3) := by decide +kernel
theorem dX12_write_113 : decode cX12_write 113 = .ok (.iload_n 2, 1) := by decide +kernel
theorem dX12_write_114 : decode cX12_write 114 = .ok (.iaload, 1) := by decide +kernel
theorem dX12_write_115 : decode cX12_write 115 = .ok (.iload 5, 2) := by decide +kernel
theorem dX12_write_117 : decode cX12_write 117 = .ok (.invokestatic 19, 3) := by decide +kernel
theorem dX12_write_120 : decode cX12_write 120 = .ok (.istore 6, 2) := by decide +kernel
theorem dX12_write_122 : decode cX12_write 122 = .ok (.iload 6, 2) := by decide +kernel
theorem dX12_write_124 : decode cX12_write 124 = .ok (.ifCond .le 13, 3) := by decide +kernel
theorem dX12_write_127 : decode cX12_write 127 = .ok (.aload_n 0, 1) := by decide +kernel
theorem dX12_write_128 : decode cX12_write 128 = .ok (.aload_n 0, 1) := by decide +kernel
theorem dX12_write_129 : decode cX12_write 129 = .ok (.iload 5, 2) := by decide +kernel
theorem dX12_write_131 : decode cX12_write 131 = .ok (.invokevirtual 222, 3) := by decide +kernel
theorem dX12_write_134 : decode cX12_write 134 = .ok (.invokevirtual 420, 3) := by decide +kernel
theorem dX12_write_137 : decode cX12_write 137 = .ok (.iload 6, 2) := by decide +kernel
theorem dX12_write_139 : decode cX12_write 139 = .ok (.iconst 1, 1) := by decide +kernel
theorem dX12_write_140 : decode cX12_write 140 = .ok (.if_icmp .le 18, 3) := by decide +kernel
theorem dX12_write_143 : decode cX12_write 143 = .ok (.aload_n 0, 1) := by decide +kernel
theorem dX12_write_144 : decode cX12_write 144 = .ok (.bipush 94, 2) := by decide +kernel
theorem dX12_write_146 : decode cX12_write 146 = .ok (.invokevirtual 420, 3) := by decide +kernel
theorem dX12_write_149 : decode cX12_write 149 = .ok (.aload_n 0, 1) := by decide +kernel
theorem dX12_write_150 : decode cX12_write 150 = .ok (.bipush 48, 2) := by decide +kernel
theorem dX12_write_152 : decode cX12_write 152 = .ok (.iload 6, 2) := by decide +kernel
theorem dX12_write_154 : decode cX12_write 154 = .ok (.iadd, 1) := by decide +kernel
theorem dX12_write_155 : decode cX12_write 155 = .ok (.invokevirtual 420, 3) := by decide +kernel
theorem dX12_write_158 : decode cX12_write 158 = .ok (.iinc 5 1, 3) := by decide +kernel
theorem dX12_write_161 : decode cX12_write 161 = .ok (.goto (-61), 3) := by decide +kernel
theorem dX12_write_164 : decode cX12_write 164 = .ok (.iinc 2 1, 3) := by decide +kernel
theorem dX12_write_167 : decode cX12_write 167 = .ok (.goto (-149), 3) := by decide +kernel
theorem dX12_write_170 : decode cX12_write 170 = .ok (.aload_n 0, 1) := by decide +kernel
theorem dX12_write_171 : decode cX12_write 171 = .ok (.getfield 417, 3) := by decide +kernel
theorem dX12_write_174 : decode cX12_write 174 = .ok (.ifCond .ne 9, 3) := by decide +kernel
theorem dX12_write_177 : decode cX12_write 177 = .ok (.aload_n 0, 1) := by decide +kernel
theorem dX12_write_178 : decode cX12_write 178 = .ok (.bipush 48, 2) := by decide +kernel
theorem dX12_write_180 : decode cX12_write 180 = .ok (.invokevirtual 420, 3) := by decide +kernel
theorem dX12_write_183 : decode cX12_write 183 = .ok (.aload_n 0, 1) := by decide +kernel
theorem dX12_write_184 : decode cX12_write 184 = .ok (.aload_n 0, 1) := by decide +kernel
theorem dX12_write_185 : decode cX12_write 185 = .ok (.getfield 417, 3) := by decide +kernel
theorem dX12_write_188 : decode cX12_write 188 = .ok (.sipush 200, 3) := by decide +kernel
theorem dX12_write_191 : decode cX12_write 191 = .ok (.if_icmp .ge 10, 3) := by decide +kernel
theorem dX12_write_194 : decode cX12_write 194 = .ok (.aload_n 0, 1) := by decide +kernel
theorem dX12_write_195 : decode cX12_write 195 = .ok (.getfield 417, 3) := by decide +kernel
theorem dX12_write_198 : decode cX12_write 198 = .ok (.goto 6, 3) := by decide +kernel
theorem dX12_write_201 : decode cX12_write 201 = .ok (.sipush 200, 3) := by decide +kernel
theorem dX12_write_204 : decode cX12_write 204 = .ok (.putfield 426, 3) := by decide +kernel
theorem dX12_write_207 : decode cX12_write 207 = .ok (.aload_n 0, 1) := by decide +kernel
theorem dX12_write_208 : decode cX12_write 208 = .ok (.getfield 417, 3) := by decide +kernel
theorem dX12_write_211 : decode cX12_write 211 = .ok (.ireturn, 1) := by decide +kernel
set_option maxHeartbeats 4000000 in
set_option maxRecDepth 100000 in
theorem cn_X12_write {l : Launch} {cA : Nat → ClassId} {ad : Nat → Nat} {D : va_G} {E : Nat → Nat} {A : Nat → Prop} {x1 : Int32} {s0 sr : SS} {rr : Int32} (hf : f_X12_write x1 s0 = some (rr, sr)) : zCon Om Nm cA ad D E l yX12_write cX12_write 7 (some .int) 4 A [.ref (ad 0), .int x1] s0 (some (.int rr)) sr := by
  refine zstart (own := RX12) hOm (by decide) rfl (Nat.le_of_ble_eq_true rfl) ?_
  intro p e s m args below meth c X hP ls hl
  have hx := X.1
  have hb := X.2.1
  have hl : lv_has ls 7 [(0, .ref (ad 0)), (1, .int x1)] := hl
  have hS : va_S A s.heap s.heap [] := va_S.rf
  have hc_18 : ∀ (n18 : Nat) (x1 : Int32) (x2 : Int32) (s1 : SS) (H : Heap) (locs : List Loc) (ls : Array Slot), lv_has ls 7 [(0, .ref (ad 0)), (1, .int x1), (2, .int x2)] → va_P D ZCL (zw Om Nm cA ad s1) H → va_S A s.heap H locs → f_X12_write_c18 n18 x1 x2 s1 = some (rr, sr) → W p l e (zrm 4) s m args below meth c H locs 0 0 (MQ below (zQc Om Nm cA ad D A (some (.int rr)) sr) args s 0 0 A) (F0 m 18 ls []) := by
    intro n18
    induction n18 with
    | zero =>
      intro x1 x2 s1 H locs ls hl hP hS hf
      rw [f_X12_write_c18] at hf
      cases hf
    | succ n18 ih18 =>
      have hc_183 : ∀  (s1 : SS) (H : Heap) (locs : List Loc) (ls : Array Slot), lv_has ls 7 [(0, .ref (ad 0))] → va_P D ZCL (zw Om Nm cA ad s1) H → va_S A s.heap H locs → f_X12_write_c183  s1 = some (rr, sr) → W p l e (zrm 4) s m args below meth c H locs 0 0 (MQ below (zQc Om Nm cA ad D A (some (.int rr)) sr) args s 0 0 A) (F0 m 183 ls []) := by
        intro  s1 H locs ls hl hP hS hf
        rw [f_X12_write_c183] at hf
        refine lv_aload_n hx hb dX12_write_183 rfl (lv_at hl 0 rfl) ?_
        refine lv_aload_n hx hb dX12_write_184 rfl (lv_at hl 0 rfl) ?_
        refine gf_X12_417 X hP (k := 0) rfl dX12_write_185 ?_
        refine lv_sipush (v := 200) hx hb dX12_write_188 (by decide) ?_
        refine zicmp_ge (tgt := 201) hx hb dX12_write_191 (by decide) hf (fun hf => ?_) (fun hf => ?_)
        · refine lv_sipush (v := 200) hx hb dX12_write_201 (by decide) ?_
          refine pf_X12_426 X hP hS (k := 0) rfl dX12_write_204 (fun H locs hP hS => ?_)
          refine lv_aload_n hx hb dX12_write_207 rfl (lv_at hl 0 rfl) ?_
          refine gf_X12_417 X hP (k := 0) rfl dX12_write_208 ?_
          exact zret_i X hP hS hf rfl dX12_write_211
        · refine lv_aload_n hx hb dX12_write_194 rfl (lv_at hl 0 rfl) ?_
          refine gf_X12_417 X hP (k := 0) rfl dX12_write_195 ?_
          refine lv_goto (tgt := 204) hx hb dX12_write_198 (by decide) ?_
          refine pf_X12_426 X hP hS (k := 0) rfl dX12_write_204 (fun H locs hP hS => ?_)
          refine lv_aload_n hx hb dX12_write_207 rfl (lv_at hl 0 rfl) ?_
          refine gf_X12_417 X hP (k := 0) rfl dX12_write_208 ?_
          exact zret_i X hP hS hf rfl dX12_write_211
      have hc_164 : ∀ (x1 : Int32) (x2 : Int32) (s1 : SS) (H : Heap) (locs : List Loc) (ls : Array Slot), lv_has ls 7 [(0, .ref (ad 0)), (1, .int x1), (2, .int x2)] → va_P D ZCL (zw Om Nm cA ad s1) H → va_S A s.heap H locs → f_X12_write_c164 (f_X12_write_c18 n18) x1 x2 s1 = some (rr, sr) → W p l e (zrm 4) s m args below meth c H locs 0 0 (MQ below (zQc Om Nm cA ad D A (some (.int rr)) sr) args s 0 0 A) (F0 m 164 ls []) := by
        intro x1 x2 s1 H locs ls hl hP hS hf
        rw [f_X12_write_c164] at hf
        refine lv_iinc (v := (x2 + 1)) (lv' := [(2, .int (x2 + 1)), (0, .ref (ad 0)), (1, .int x1)]) hx hb dX12_write_164 hl (k := 2) rfl rfl (by decide) rfl (fun ls hl => ?_)
        refine lv_goto (tgt := 18) hx hb dX12_write_167 (by decide) ?_
        exact ih18 x1 (x2 + 1) s1 _ _ _ (lv_sub hl [1, 2, 0] rfl) hP hS hf
      have hc_100 : ∀ (n100 : Nat) (x1 : Int32) (x2 : Int32) (x5 : Int32) (s1 : SS) (H : Heap) (locs : List Loc) (ls : Array Slot), lv_has ls 7 [(0, .ref (ad 0)), (1, .int x1), (2, .int x2), (5, .int x5)] → va_P D ZCL (zw Om Nm cA ad s1) H → va_S A s.heap H locs → f_X12_write_c100 (f_X12_write_c18 n18) n100 x1 x2 x5 s1 = some (rr, sr) → W p l e (zrm 4) s m args below meth c H locs 0 0 (MQ below (zQc Om Nm cA ad D A (some (.int rr)) sr) args s 0 0 A) (F0 m 100 ls []) := by
        intro n100
        induction n100 with
        | zero =>
          intro x1 x2 x5 s1 H locs ls hl hP hS hf
          rw [f_X12_write_c100] at hf
          cases hf
        | succ n100 ih100 =>
          have hc_158 : ∀ (x1 : Int32) (x2 : Int32) (x5 : Int32) (s1 : SS) (H : Heap) (locs : List Loc) (ls : Array Slot), lv_has ls 7 [(0, .ref (ad 0)), (1, .int x1), (2, .int x2), (5, .int x5)] → va_P D ZCL (zw Om Nm cA ad s1) H → va_S A s.heap H locs → f_X12_write_c158 (f_X12_write_c100 (f_X12_write_c18 n18) n100) (f_X12_write_c18 n18) x1 x2 x5 s1 = some (rr, sr) → W p l e (zrm 4) s m args below meth c H locs 0 0 (MQ below (zQc Om Nm cA ad D A (some (.int rr)) sr) args s 0 0 A) (F0 m 158 ls []) := by
            intro x1 x2 x5 s1 H locs ls hl hP hS hf
            rw [f_X12_write_c158] at hf
            refine lv_iinc (v := (x5 + 1)) (lv' := [(5, .int (x5 + 1)), (0, .ref (ad 0)), (1, .int x1), (2, .int x2)]) hx hb dX12_write_158 hl (k := 3) rfl rfl (by decide) rfl (fun ls hl => ?_)
            refine lv_goto (tgt := 100) hx hb dX12_write_161 (by decide) ?_
            exact ih100 x1 x2 (x5 + 1) s1 _ _ _ (lv_sub hl [1, 2, 3, 0] rfl) hP hS hf
          have hc_137 : ∀ (x1 : Int32) (x2 : Int32) (x5 : Int32) (x6 : Int32) (s1 : SS) (H : Heap) (locs : List Loc) (ls : Array Slot), lv_has ls 7 [(0, .ref (ad 0)), (1, .int x1), (2, .int x2), (5, .int x5), (6, .int x6)] → va_P D ZCL (zw Om Nm cA ad s1) H → va_S A s.heap H locs → f_X12_write_c137 (f_X12_write_c100 (f_X12_write_c18 n18) n100) (f_X12_write_c18 n18) x1 x2 x5 x6 s1 = some (rr, sr) → W p l e (zrm 4) s m args below meth c H locs 0 0 (MQ below (zQc Om Nm cA ad D A (some (.int rr)) sr) args s 0 0 A) (F0 m 137 ls []) := by
            intro x1 x2 x5 x6 s1 H locs ls hl hP hS hf
            rw [f_X12_write_c137] at hf
            refine lv_iload hx hb dX12_write_137 (lv_at hl 4 rfl) ?_
            refine lv_iconst (v := 1) hx hb dX12_write_139 (by decide) ?_
            refine zicmp_le (tgt := 158) hx hb dX12_write_140 (by decide) hf (fun hf => ?_) (fun hf => ?_)
            · exact hc_158 x1 x2 x5 s1 _ _ _ (lv_sub hl [0, 1, 2, 3] rfl) hP hS hf
            · refine lv_aload_n hx hb dX12_write_143 rfl (lv_at hl 0 rfl) ?_
              refine lv_bipush (v := 94) hx hb dX12_write_144 (by decide) ?_
              obtain ⟨r21, s22, h23, hf⟩ := zbd_some hf
              refine zcallV X hP hS hl.1 (k := 0) (As := [.int 94]) (rest := []) (cn_X12_lay h23) cw_X12_lay zp_12 rfl (by decide) rfl ml_X12_420 (by decide) rfl rfl (Nat.le_of_ble_eq_true rfl) dX12_write_146 (fun H locs hP hS => ?_)
              refine lv_aload_n hx hb dX12_write_149 rfl (lv_at hl 0 rfl) ?_
              refine lv_bipush (v := 48) hx hb dX12_write_150 (by decide) ?_
              refine lv_iload hx hb dX12_write_152 (lv_at hl 4 rfl) ?_
              refine lv_iadd hx hb dX12_write_154 ?_
              obtain ⟨r24, s25, h26, hf⟩ := zbd_some hf
              refine zcallV X hP hS hl.1 (k := 0) (As := [.int ((48 : Int32) + x6)]) (rest := []) (cn_X12_lay h26) cw_X12_lay zp_12 rfl (by decide) rfl ml_X12_420 (by decide) rfl rfl (Nat.le_of_ble_eq_true rfl) dX12_write_155 (fun H locs hP hS => ?_)
              exact hc_158 x1 x2 x5 s25 _ _ _ (lv_sub hl [0, 1, 2, 3] rfl) hP hS hf
          intro x1 x2 x5 s1 H locs ls hl hP hS hf
          rw [f_X12_write_c100] at hf
          refine lv_iload hx hb dX12_write_100 (lv_at hl 3 rfl) ?_
          refine lv_aload_n hx hb dX12_write_102 rfl (lv_at hl 0 rfl) ?_
          obtain ⟨r14, s15, h16, hf⟩ := zbd_some hf
          refine zcallV X hP hS hl.1 (k := 0) (As := []) (rest := [.int x5]) (cn_X12_letters h16) cw_X12_letters zp_12 rfl (by decide) rfl ml_X12_68 (by decide) rfl rfl (Nat.le_of_ble_eq_true rfl) dX12_write_103 (fun H locs hP hS => ?_)
          refine zicmp_ge (tgt := 164) hx hb dX12_write_106 (by decide) hf (fun hf => ?_) (fun hf => ?_)
          · exact hc_164 x1 x2 s15 _ _ _ (lv_sub hl [0, 1, 2] rfl) hP hS hf
          · refine lv_aload_n hx hb dX12_write_109 rfl (lv_at hl 0 rfl) ?_
            refine gf_X12_62 X hP (k := 0) (q := 4) rfl dX12_write_110 rfl ?_
            refine lv_iload_n hx hb dX12_write_113 rfl (lv_at hl 2 rfl) ?_
            obtain ⟨g17, hf⟩ := zgd hf
            refine zald_i X hP (k := 4) (n := 462) (rs := []) rfl g17 dX12_write_114 ?_
            refine lv_iload hx hb dX12_write_115 (lv_at hl 3 rfl) ?_
            obtain ⟨r18, s19, h20, hf⟩ := zbd_some hf
            refine zcallS X hP hS hl.1 (As := [.int (s15.1 4 (x2).toNatClampNeg), .int x5]) (rest := []) (cn_X12_powerIn h20) cw_X12_powerIn ml_X12_19 (by decide) rfl rfl (Nat.le_of_ble_eq_true rfl) dX12_write_117 (fun H locs hP hS => ?_)
            refine lv_istore (lv' := [(6, .int r18), (0, .ref (ad 0)), (1, .int x1), (2, .int x2), (5, .int x5)]) hx hb dX12_write_120 hl (by decide) rfl (fun ls hl => ?_)
            refine lv_iload hx hb dX12_write_122 (lv_at hl 0 rfl) ?_
            refine zif_le (tgt := 137) hx hb dX12_write_124 (by decide) hf (fun hf => ?_) (fun hf => ?_)
            · exact hc_137 x1 x2 x5 r18 s19 _ _ _ (lv_sub hl [1, 2, 3, 4, 0] rfl) hP hS hf
            · refine lv_aload_n hx hb dX12_write_127 rfl (lv_at hl 1 rfl) ?_
              refine lv_aload_n hx hb dX12_write_128 rfl (lv_at hl 1 rfl) ?_
              refine lv_iload hx hb dX12_write_129 (lv_at hl 4 rfl) ?_
              obtain ⟨r27, s28, h29, hf⟩ := zbd_some hf
              refine zcallV X hP hS hl.1 (k := 0) (As := [.int x5]) (rest := [.ref (ad 0)]) (cn_X12_nameOf h29) cw_X12_nameOf zp_12 rfl (by decide) rfl ml_X12_222 (by decide) rfl rfl (Nat.le_of_ble_eq_true rfl) dX12_write_131 (fun H locs hP hS => ?_)
              obtain ⟨r30, s31, h32, hf⟩ := zbd_some hf
              refine zcallV X hP hS hl.1 (k := 0) (As := [.int r27]) (rest := []) (cn_X12_lay h32) cw_X12_lay zp_12 rfl (by decide) rfl ml_X12_420 (by decide) rfl rfl (Nat.le_of_ble_eq_true rfl) dX12_write_134 (fun H locs hP hS => ?_)
              exact hc_137 x1 x2 x5 r18 s31 _ _ _ (lv_sub hl [1, 2, 3, 4, 0] rfl) hP hS hf
      have hc_97 : ∀ (x1 : Int32) (x2 : Int32) (s1 : SS) (H : Heap) (locs : List Loc) (ls : Array Slot), lv_has ls 7 [(0, .ref (ad 0)), (1, .int x1), (2, .int x2)] → va_P D ZCL (zw Om Nm cA ad s1) H → va_S A s.heap H locs → f_X12_write_c97 (f_X12_write_c18 n18) x1 x2 s1 = some (rr, sr) → W p l e (zrm 4) s m args below meth c H locs 0 0 (MQ below (zQc Om Nm cA ad D A (some (.int rr)) sr) args s 0 0 A) (F0 m 97 ls []) := by
        intro x1 x2 s1 H locs ls hl hP hS hf
        rw [f_X12_write_c97] at hf
        refine lv_iconst (v := 0) hx hb dX12_write_97 (by decide) ?_
        refine lv_istore (lv' := [(5, .int 0), (0, .ref (ad 0)), (1, .int x1), (2, .int x2)]) hx hb dX12_write_98 hl (by decide) rfl (fun ls hl => ?_)
        exact hc_100 ZF x1 x2 0 s1 _ _ _ (lv_sub hl [1, 2, 3, 0] rfl) hP hS hf
      have hc_92 : ∀ (x1 : Int32) (x2 : Int32) (x3 : Int64) (s1 : SS) (H : Heap) (locs : List Loc) (ls : Array Slot), lv_has ls 7 [(0, .ref (ad 0)), (1, .int x1), (2, .int x2), (3, .long x3)] → va_P D ZCL (zw Om Nm cA ad s1) H → va_S A s.heap H locs → f_X12_write_c92 (f_X12_write_c18 n18) x1 x2 x3 s1 = some (rr, sr) → W p l e (zrm 4) s m args below meth c H locs 0 0 (MQ below (zQc Om Nm cA ad D A (some (.int rr)) sr) args s 0 0 A) (F0 m 92 ls []) := by
        intro x1 x2 x3 s1 H locs ls hl hP hS hf
        rw [f_X12_write_c92] at hf
        refine lv_aload_n hx hb dX12_write_92 rfl (lv_at hl 0 rfl) ?_
        refine lv_lload_n hx hb dX12_write_93 rfl (lv_at hl 3 rfl) ?_
        obtain ⟨r33, s34, h35, hf⟩ := zbd_some hf
        refine zcallV X hP hS hl.1 (k := 0) (As := [.long x3]) (rest := []) (cn_X12_layNumber h35) cw_X12_layNumber zp_12 rfl (by decide) rfl ml_X12_423 (by decide) rfl rfl (Nat.le_of_ble_eq_true rfl) dX12_write_94 (fun H locs hP hS => ?_)
        exact hc_97 x1 x2 s34 _ _ _ (lv_sub hl [0, 1, 2] rfl) hP hS hf
      have hc_83 : ∀ (x1 : Int32) (x2 : Int32) (x3 : Int64) (s1 : SS) (H : Heap) (locs : List Loc) (ls : Array Slot), lv_has ls 7 [(0, .ref (ad 0)), (1, .int x1), (2, .int x2), (3, .long x3)] → va_P D ZCL (zw Om Nm cA ad s1) H → va_S A s.heap H locs → f_X12_write_c83 (f_X12_write_c18 n18) x1 x2 x3 s1 = some (rr, sr) → W p l e (zrm 4) s m args below meth c H locs 0 0 (MQ below (zQc Om Nm cA ad D A (some (.int rr)) sr) args s 0 0 A) (F0 m 83 ls []) := by
        intro x1 x2 x3 s1 H locs ls hl hP hS hf
        rw [f_X12_write_c83] at hf
        refine lv_aload_n hx hb dX12_write_83 rfl (lv_at hl 0 rfl) ?_
        refine gf_X12_75 X hP (k := 0) (q := 5) rfl dX12_write_84 rfl ?_
        refine lv_iload_n hx hb dX12_write_87 rfl (lv_at hl 2 rfl) ?_
        obtain ⟨g13, hf⟩ := zgd hf
        refine zald_i X hP (k := 5) (n := 462) (rs := []) rfl g13 dX12_write_88 ?_
        refine zif_ne (tgt := 97) hx hb dX12_write_89 (by decide) hf (fun hf => ?_) (fun hf => ?_)
        · exact hc_97 x1 x2 s1 _ _ _ (lv_sub hl [0, 1, 2] rfl) hP hS hf
        · exact hc_92 x1 x2 x3 s1 _ _ _ (lv_sub hl [0, 1, 2, 3] rfl) hP hS hf
      have hc_69 : ∀ (x1 : Int32) (x2 : Int32) (x3 : Int64) (s1 : SS) (H : Heap) (locs : List Loc) (ls : Array Slot), lv_has ls 7 [(0, .ref (ad 0)), (1, .int x1), (2, .int x2), (3, .long x3)] → va_P D ZCL (zw Om Nm cA ad s1) H → va_S A s.heap H locs → f_X12_write_c69 (f_X12_write_c18 n18) x1 x2 x3 s1 = some (rr, sr) → W p l e (zrm 4) s m args below meth c H locs 0 0 (MQ below (zQc Om Nm cA ad D A (some (.int rr)) sr) args s 0 0 A) (F0 m 69 ls []) := by
        intro x1 x2 x3 s1 H locs ls hl hP hS hf
        rw [f_X12_write_c69] at hf
        refine lv_lload_n hx hb dX12_write_69 rfl (lv_at hl 3 rfl) ?_
        refine lv_lconst (v := 1) hx hb dX12_write_70 (by decide) ?_
        refine W.lcmp hx hb dX12_write_71 ?_
        refine zif_eq (tgt := 83) hx hb dX12_write_72 (by decide) hf (fun hf => ?_) (fun hf => ?_)
        · exact hc_83 x1 x2 x3 s1 _ _ _ (lv_sub hl [0, 1, 2, 3] rfl) hP hS hf
        · refine lv_lload_n hx hb dX12_write_75 rfl (lv_at hl 3 rfl) ?_
          refine zldc2 X co_X12_30 dX12_write_76 ?_
          refine W.lcmp hx hb dX12_write_79 ?_
          refine zif_ne (tgt := 92) hx hb dX12_write_80 (by decide) hf (fun hf => ?_) (fun hf => ?_)
          · exact hc_92 x1 x2 x3 s1 _ _ _ (lv_sub hl [0, 1, 2, 3] rfl) hP hS hf
          · exact hc_83 x1 x2 x3 s1 _ _ _ (lv_sub hl [0, 1, 2, 3] rfl) hP hS hf
      have hc_66 : ∀ (x1 : Int32) (x2 : Int32) (x3 : Int64) (t0 : Int32) (s1 : SS) (H : Heap) (locs : List Loc) (ls : Array Slot), lv_has ls 7 [(0, .ref (ad 0)), (1, .int x1), (2, .int x2), (3, .long x3)] → va_P D ZCL (zw Om Nm cA ad s1) H → va_S A s.heap H locs → f_X12_write_c66 (f_X12_write_c18 n18) x1 x2 x3 t0 s1 = some (rr, sr) → W p l e (zrm 4) s m args below meth c H locs 0 0 (MQ below (zQc Om Nm cA ad D A (some (.int rr)) sr) args s 0 0 A) (F0 m 66 ls [.int t0, .ref (ad 0)]) := by
        intro x1 x2 x3 t0 s1 H locs ls hl hP hS hf
        rw [f_X12_write_c66] at hf
        obtain ⟨r10, s11, h12, hf⟩ := zbd_some hf
        refine zcallV X hP hS hl.1 (k := 0) (As := [.int t0]) (rest := []) (cn_X12_lay h12) cw_X12_lay zp_12 rfl (by decide) rfl ml_X12_420 (by decide) rfl rfl (Nat.le_of_ble_eq_true rfl) dX12_write_66 (fun H locs hP hS => ?_)
        exact hc_69 x1 x2 x3 s11 _ _ _ (lv_sub hl [0, 1, 2, 3] rfl) hP hS hf
      have hc_52 : ∀ (x1 : Int32) (x2 : Int32) (x3 : Int64) (s1 : SS) (H : Heap) (locs : List Loc) (ls : Array Slot), lv_has ls 7 [(0, .ref (ad 0)), (1, .int x1), (2, .int x2), (3, .long x3)] → va_P D ZCL (zw Om Nm cA ad s1) H → va_S A s.heap H locs → f_X12_write_c52 (f_X12_write_c18 n18) x1 x2 x3 s1 = some (rr, sr) → W p l e (zrm 4) s m args below meth c H locs 0 0 (MQ below (zQc Om Nm cA ad D A (some (.int rr)) sr) args s 0 0 A) (F0 m 52 ls []) := by
        intro x1 x2 x3 s1 H locs ls hl hP hS hf
        rw [f_X12_write_c52] at hf
        refine lv_aload_n hx hb dX12_write_52 rfl (lv_at hl 0 rfl) ?_
        refine lv_lload_n hx hb dX12_write_53 rfl (lv_at hl 3 rfl) ?_
        refine lv_lconst (v := 0) hx hb dX12_write_54 (by decide) ?_
        refine W.lcmp hx hb dX12_write_55 ?_
        refine zif_ge (tgt := 64) hx hb dX12_write_56 (by decide) hf (fun hf => ?_) (fun hf => ?_)
        · refine lv_bipush (v := 43) hx hb dX12_write_64 (by decide) ?_
          exact hc_66 x1 x2 x3 43 s1 _ _ _ (lv_sub hl [0, 1, 2, 3] rfl) hP hS hf
        · refine lv_bipush (v := 45) hx hb dX12_write_59 (by decide) ?_
          refine lv_goto (tgt := 66) hx hb dX12_write_61 (by decide) ?_
          exact hc_66 x1 x2 x3 45 s1 _ _ _ (lv_sub hl [0, 1, 2, 3] rfl) hP hS hf
      intro x1 x2 s1 H locs ls hl hP hS hf
      rw [f_X12_write_c18] at hf
      refine lv_iload_n hx hb dX12_write_18 rfl (lv_at hl 2 rfl) ?_
      refine lv_aload_n hx hb dX12_write_19 rfl (lv_at hl 0 rfl) ?_
      refine gf_X12_56 X hP (k := 0) rfl dX12_write_20 ?_
      refine zicmp_ge (tgt := 170) hx hb dX12_write_23 (by decide) hf (fun hf => ?_) (fun hf => ?_)
      · refine lv_aload_n hx hb dX12_write_170 rfl (lv_at hl 0 rfl) ?_
        refine gf_X12_417 X hP (k := 0) rfl dX12_write_171 ?_
        refine zif_ne (tgt := 183) hx hb dX12_write_174 (by decide) hf (fun hf => ?_) (fun hf => ?_)
        · exact hc_183  s1 _ _ _ (lv_sub hl [0] rfl) hP hS hf
        · refine lv_aload_n hx hb dX12_write_177 rfl (lv_at hl 0 rfl) ?_
          refine lv_bipush (v := 48) hx hb dX12_write_178 (by decide) ?_
          obtain ⟨r4, s5, h6, hf⟩ := zbd_some hf
          refine zcallV X hP hS hl.1 (k := 0) (As := [.int 48]) (rest := []) (cn_X12_lay h6) cw_X12_lay zp_12 rfl (by decide) rfl ml_X12_420 (by decide) rfl rfl (Nat.le_of_ble_eq_true rfl) dX12_write_180 (fun H locs hP hS => ?_)
          exact hc_183  s5 _ _ _ (lv_sub hl [0] rfl) hP hS hf
      · refine lv_aload_n hx hb dX12_write_26 rfl (lv_at hl 0 rfl) ?_
        refine lv_iload_n hx hb dX12_write_27 rfl (lv_at hl 1 rfl) ?_
        refine lv_iload_n hx hb dX12_write_28 rfl (lv_at hl 2 rfl) ?_
        obtain ⟨r7, s8, h9, hf⟩ := zbd_some hf
        refine zcallV X hP hS hl.1 (k := 0) (As := [.int x1, .int x2]) (rest := []) (cn_X12_numberAt h9) cw_X12_numberAt zp_12 rfl (by decide) rfl ml_X12_233 (by decide) rfl rfl (Nat.le_of_ble_eq_true rfl) dX12_write_29 (fun H locs hP hS => ?_)
        refine lv_lstore_n (lv' := [(3, .long r7), (0, .ref (ad 0)), (1, .int x1), (2, .int x2)]) hx hb dX12_write_32 rfl hl (by decide) rfl (fun ls hl => ?_)
        refine lv_lload_n hx hb dX12_write_33 rfl (lv_at hl 0 rfl) ?_
        refine lv_lconst (v := 0) hx hb dX12_write_34 (by decide) ?_
        refine W.lcmp hx hb dX12_write_35 ?_
        refine zif_eq (tgt := 164) hx hb dX12_write_36 (by decide) hf (fun hf => ?_) (fun hf => ?_)
        · exact hc_164 x1 x2 s8 _ _ _ (lv_sub hl [1, 2, 3] rfl) hP hS hf
        · refine lv_lload_n hx hb dX12_write_39 rfl (lv_at hl 0 rfl) ?_
          refine lv_lconst (v := 0) hx hb dX12_write_40 (by decide) ?_
          refine W.lcmp hx hb dX12_write_41 ?_
          refine zif_lt (tgt := 52) hx hb dX12_write_42 (by decide) hf (fun hf => ?_) (fun hf => ?_)
          · exact hc_52 x1 x2 r7 s8 _ _ _ (lv_sub hl [1, 2, 3, 0] rfl) hP hS hf
          · refine lv_aload_n hx hb dX12_write_45 rfl (lv_at hl 1 rfl) ?_
            refine gf_X12_417 X hP (k := 0) rfl dX12_write_46 ?_
            refine zif_le (tgt := 69) hx hb dX12_write_49 (by decide) hf (fun hf => ?_) (fun hf => ?_)
            · exact hc_69 x1 x2 r7 s8 _ _ _ (lv_sub hl [1, 2, 3, 0] rfl) hP hS hf
            · exact hc_52 x1 x2 r7 s8 _ _ _ (lv_sub hl [1, 2, 3, 0] rfl) hP hS hf
  rw [f_X12_write] at hf
  refine lv_aload_n hx hb dX12_write_0 rfl (lv_at hl 0 rfl) ?_
  refine lv_iload_n hx hb dX12_write_1 rfl (lv_at hl 1 rfl) ?_
  refine lv_i2l hx hb dX12_write_2 rfl ?_
  obtain ⟨r1, s2, h3, hf⟩ := zbd_some hf
  refine zcallV X hP hS hl.1 (k := 0) (As := [.long (x1).toInt64]) (rest := []) (cn_X12_isClass h3) cw_X12_isClass zp_12 rfl (by decide) rfl ml_X12_245 (by decide) rfl rfl (Nat.le_of_ble_eq_true rfl) dX12_write_3 (fun H locs hP hS => ?_)
  refine zif_ne (tgt := 11) hx hb dX12_write_6 (by decide) hf (fun hf => ?_) (fun hf => ?_)
  · refine lv_aload_n hx hb dX12_write_11 rfl (lv_at hl 0 rfl) ?_
    refine lv_iconst (v := 0) hx hb dX12_write_12 (by decide) ?_
    refine pf_X12_417 X hP hS (k := 0) rfl dX12_write_13 (fun H locs hP hS => ?_)
    refine lv_iconst (v := 0) hx hb dX12_write_16 (by decide) ?_
    refine lv_istore_n (lv' := [(2, .int 0), (0, .ref (ad 0)), (1, .int x1)]) hx hb dX12_write_17 rfl hl (by decide) rfl (fun ls hl => ?_)
    exact hc_18 ZF x1 0 (zS s2 0 58 0) _ _ _ (lv_sub hl [1, 2, 0] rfl) hP hS hf
  · refine lv_iconst (v := (-1)) hx hb dX12_write_9 (by decide) ?_
    exact zret_i X hP hS hf rfl dX12_write_10
