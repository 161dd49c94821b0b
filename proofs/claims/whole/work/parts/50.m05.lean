theorem dX12_layTerms_0 : decode cX12_layTerms 0 = .ok (.iconst 0, 1) := by decide +kernel
theorem dX12_layTerms_1 : decode cX12_layTerms 1 = .ok (.istore_n 1, 1) := by decide +kernel
theorem dX12_layTerms_2 : decode cX12_layTerms 2 = .ok (.iload_n 1, 1) := by decide +kernel
theorem dX12_layTerms_3 : decode cX12_layTerms 3 = .ok (.aload_n 0, 1) := by decide +kernel
theorem dX12_layTerms_4 : decode cX12_layTerms 4 = .ok (.getfield 56, 3) := by decide +kernel
theorem dX12_layTerms_7 : decode cX12_layTerms 7 = .ok (.if_icmp .ge 33, 3) := by decide +kernel
theorem dX12_layTerms_10 : decode cX12_layTerms 10 = .ok (.aload_n 0, 1) := by decide +kernel
theorem dX12_layTerms_11 : decode cX12_layTerms 11 = .ok (.getfield 59, 3) := by decide +kernel
theorem dX12_layTerms_14 : decode cX12_layTerms 14 = .ok (.iload_n 1, 1) := by decide +kernel
theorem dX12_layTerms_15 : decode cX12_layTerms 15 = .ok (.aload_n 0, 1) := by decide +kernel
theorem dX12_layTerms_16 : decode cX12_layTerms 16 = .ok (.getfield 62, 3) := by decide +kernel
theorem dX12_layTerms_19 : decode cX12_layTerms 19 = .ok (.iload_n 1, 1) := by decide +kernel
theorem dX12_layTerms_20 : decode cX12_layTerms 20 = .ok (.iaload, 1) := by decide +kernel
theorem dX12_layTerms_21 : decode cX12_layTerms 21 = .ok (.iastore, 1) := by decide +kernel
theorem dX12_layTerms_22 : decode cX12_layTerms 22 = .ok (.aload_n 0, 1) := by decide +kernel
theorem dX12_layTerms_23 : decode cX12_layTerms 23 = .ok (.getfield 65, 3) := by decide +kernel
theorem dX12_layTerms_26 : decode cX12_layTerms 26 = .ok (.aload_n 0, 1) := by decide +kernel
theorem dX12_layTerms_27 : decode cX12_layTerms 27 = .ok (.getfield 62, 3) := by decide +kernel
theorem dX12_layTerms_30 : decode cX12_layTerms 30 = .ok (.iload_n 1, 1) := by decide +kernel
theorem dX12_layTerms_31 : decode cX12_layTerms 31 = .ok (.iaload, 1) := by decide +kernel
theorem dX12_layTerms_32 : decode cX12_layTerms 32 = .ok (.iconst (-1), 1) := by decide +kernel
theorem dX12_layTerms_33 : decode cX12_layTerms 33 = .ok (.iastore, 1) := by decide +kernel
theorem dX12_layTerms_34 : decode cX12_layTerms 34 = .ok (.iinc 1 1, 3) := by decide +kernel
theorem dX12_layTerms_37 : decode cX12_layTerms 37 = .ok (.goto (-35), 3) := by decide +kernel
theorem dX12_layTerms_40 : decode cX12_layTerms 40 = .ok (.aload_n 0, 1) := by decide +kernel
theorem dX12_layTerms_41 : decode cX12_layTerms 41 = .ok (.invokevirtual 68, 3) := by decide +kernel
theorem dX12_layTerms_44 : decode cX12_layTerms 44 = .ok (.istore_n 1, 1) := by decide +kernel
theorem dX12_layTerms_45 : decode cX12_layTerms 45 = .ok (.aload_n 0, 1) := by decide +kernel
theorem dX12_layTerms_46 : decode cX12_layTerms 46 = .ok (.getfield 56, 3) := by decide +kernel
theorem dX12_layTerms_49 : decode cX12_layTerms 49 = .ok (.istore_n 2, 1) := by decide +kernel
theorem dX12_layTerms_50 : decode cX12_layTerms 50 = .ok (.aload_n 0, 1) := by decide +kernel
theorem dX12_layTerms_51 : decode cX12_layTerms 51 = .ok (.iconst 0, 1) := by decide +kernel
theorem dX12_layTerms_52 : decode cX12_layTerms 52 = .ok (.putfield 56, 3) := by decide +kernel
theorem dX12_layTerms_55 : decode cX12_layTerms 55 = .ok (.iconst 0, 1) := by decide +kernel
theorem dX12_layTerms_56 : decode cX12_layTerms 56 = .ok (.istore_n 3, 1) := by decide +kernel
theorem dX12_layTerms_57 : decode cX12_layTerms 57 = .ok (.iload_n 3, 1) := by decide +kernel
theorem dX12_layTerms_58 : decode cX12_layTerms 58 = .ok (.bipush 6, 2) := by decide +kernel
theorem dX12_layTerms_60 : decode cX12_layTerms 60 = .ok (.if_icmp .ge 16, 3) := by decide +kernel
theorem dX12_layTerms_63 : decode cX12_layTerms 63 = .ok (.aload_n 0, 1) := by decide +kernel
theorem dX12_layTerms_64 : decode cX12_layTerms 64 = .ok (.getfield 72, 3) := by decide +kernel
theorem dX12_layTerms_67 : decode cX12_layTerms 67 = .ok (.iload_n 3, 1) := by decide +kernel
theorem dX12_layTerms_68 : decode cX12_layTerms 68 = .ok (.iconst 0, 1) := by decide +kernel
theorem dX12_layTerms_69 : decode cX12_layTerms 69 = .ok (.iastore, 1) := by decide +kernel
theorem dX12_layTerms_70 : decode cX12_layTerms 70 = .ok (.iinc 3 1, 3) := by decide +kernel
theorem dX12_layTerms_73 : decode cX12_layTerms 73 = .ok (.goto (-16), 3) := by decide +kernel
theorem dX12_layTerms_76 : decode cX12_layTerms 76 = .ok (.aload_n 0, 1) := by decide +kernel
theorem dX12_layTerms_77 : decode cX12_layTerms 77 = .ok (.getfield 72, 3) := by decide +kernel
theorem dX12_layTerms_80 : decode cX12_layTerms 80 = .ok (.iconst 0, 1) := by decide +kernel
theorem dX12_layTerms_81 : decode cX12_layTerms 81 = .ok (.aload_n 0, 1) := by decide +kernel
theorem dX12_layTerms_82 : decode cX12_layTerms 82 = .ok (.getfield 27, 3) := by decide +kernel
theorem dX12_layTerms_85 : decode cX12_layTerms 85 = .ok (.iastore, 1) := by decide +kernel
theorem dX12_layTerms_86 : decode cX12_layTerms 86 = .ok (.iconst 0, 1) := by decide +kernel
theorem dX12_layTerms_87 : decode cX12_layTerms 87 = .ok (.istore_n 3, 1) := by decide +kernel
theorem dX12_layTerms_88 : decode cX12_layTerms 88 = .ok (.iconst 1, 1) := by decide +kernel
theorem dX12_layTerms_89 : decode cX12_layTerms 89 = .ok (.istore 4, 2) := by decide +kernel
theorem dX12_layTerms_91 : decode cX12_layTerms 91 = .ok (.iload 4, 2) := by decide +kernel
theorem dX12_layTerms_93 : decode cX12_layTerms 93 = .ok (.ifCond .eq 181, 3) := by decide +kernel
theorem dX12_layTerms_96 : decode cX12_layTerms 96 = .ok (.iconst 0, 1) := by decide +kernel
theorem dX12_layTerms_97 : decode cX12_layTerms 97 = .ok (.istore 5, 2) := by decide +kernel
theorem dX12_layTerms_99 : decode cX12_layTerms 99 = .ok (.iconst 0, 1) := by decide +kernel
theorem dX12_layTerms_100 : decode cX12_layTerms 100 = .ok (.istore 6, 2) := by decide +kernel
theorem dX12_layTerms_102 : decode cX12_layTerms 102 = .ok (.iload 6, 2) := by decide +kernel
theorem dX12_layTerms_104 : decode cX12_layTerms 104 = .ok (.iload_n 1, 1) := by decide +kernel
theorem dX12_layTerms_105 : decode cX12_layTerms 105 = .ok (.if_icmp .ge 27, 3) := by decide +kernel
theorem dX12_layTerms_108 : decode cX12_layTerms 108 = .ok (.iload 5, 2) := by decide +kernel
theorem dX12_layTerms_110 : decode cX12_layTerms 110 = .ok (.aload_n 0, 1) := by decide +kernel
theorem dX12_layTerms_111 : decode cX12_layTerms 111 = .ok (.getfield 72, 3) := by decide +kernel
theorem dX12_layTerms_114 : decode cX12_layTerms 114 = .ok (.iload 6, 2) := by decide +kernel
theorem dX12_layTerms_116 : decode cX12_layTerms 116 = .ok (.iaload, 1) := by decide +kernel
theorem dX12_layTerms_117 : decode cX12_layTerms 117 = .ok (.iload 6, 2) := by decide +kernel
theorem dX12_layTerms_119 : decode cX12_layTerms 119 = .ok (.invokestatic 15, 3) := by decide +kernel
theorem dX12_layTerms_122 : decode cX12_layTerms 122 = .ok (.imul, 1) := by decide +kernel
theorem dX12_layTerms_123 : decode cX12_layTerms 123 = .ok (.iadd, 1) := by decide +kernel
theorem dX12_layTerms_124 : decode cX12_layTerms 124 = .ok (.istore 5, 2) := by decide +kernel
theorem dX12_layTerms_126 : decode cX12_layTerms 126 = .ok (.iinc 6 1, 3) := by decide +kernel
theorem dX12_layTerms_129 : decode cX12_layTerms 129 = .ok (.goto (-27), 3) := by decide +kernel
theorem dX12_layTerms_132 : decode cX12_layTerms 132 = .ok (.aload_n 0, 1) := by decide +kernel
theorem dX12_layTerms_133 : decode cX12_layTerms 133 = .ok (.getfield 62, 3) := by decide +kernel
theorem dX12_layTerms_136 : decode cX12_layTerms 136 = .ok (.aload_n 0, 1) := by decide +kernel
theorem dX12_layTerms_137 : decode cX12_layTerms 137 = .ok (.getfield 56, 3) := by decide +kernel
theorem dX12_layTerms_140 : decode cX12_layTerms 140 = .ok (.iload 5, 2) := by decide +kernel
theorem dX12_layTerms_142 : decode cX12_layTerms 142 = .ok (.iastore, 1) := by decide +kernel
theorem dX12_layTerms_143 : decode cX12_layTerms 143 = .ok (.aload_n 0, 1) := by decide +kernel
theorem dX12_layTerms_144 : decode cX12_layTerms 144 = .ok (.getfield 75, 3) := by decide +kernel
theorem dX12_layTerms_147 : decode cX12_layTerms 147 = .ok (.aload_n 0, 1) := by decide +kernel
theorem dX12_layTerms_148 : decode cX12_layTerms 148 = .ok (.getfield 56, 3) := by decide +kernel
theorem dX12_layTerms_151 : decode cX12_layTerms 151 = .ok (.aload_n 0, 1) := by decide +kernel
theorem dX12_layTerms_152 : decode cX12_layTerms 152 = .ok (.getfield 27, 3) := by decide +kernel
theorem dX12_layTerms_155 : decode cX12_layTerms 155 = .ok (.iload_n 3, 1) := by decide +kernel
theorem dX12_layTerms_156 : decode cX12_layTerms 156 = .ok (.isub, 1) := by decide +kernel
theorem dX12_layTerms_157 : decode cX12_layTerms 157 = .ok (.iastore, 1) := by decide +kernel
theorem dX12_layTerms_158 : decode cX12_layTerms 158 = .ok (.aload_n 0, 1) := by decide +kernel
theorem dX12_layTerms_159 : decode cX12_layTerms 159 = .ok (.getfield 78, 3) := by decide +kernel
theorem dX12_layTerms_162 : decode cX12_layTerms 162 = .ok (.aload_n 0, 1) := by decide +kernel
theorem dX12_layTerms_163 : decode cX12_layTerms 163 = .ok (.getfield 56, 3) := by decide +kernel
theorem dX12_layTerms_166 : decode cX12_layTerms 166 = .ok (.aload_n 0, 1) := by decide +kernel
theorem dX12_layTerms_167 : decode cX12_layTerms 167 = .ok (.iload 5, 2) := by decide +kernel
theorem dX12_layTerms_169 : decode cX12_layTerms 169 = .ok (.invokevirtual 82, 3) := by decide +kernel
theorem dX12_layTerms_172 : decode cX12_layTerms 172 = .ok (.lastore, 1) := by decide +kernel
theorem dX12_layTerms_173 : decode cX12_layTerms 173 = .ok (.aload_n 0, 1) := by decide +kernel
theorem dX12_layTerms_174 : decode cX12_layTerms 174 = .ok (.getfield 65, 3) := by decide +kernel
theorem dX12_layTerms_177 : decode cX12_layTerms 177 = .ok (.iload 5, 2) := by decide +kernel
theorem dX12_layTerms_179 : decode cX12_layTerms 179 = .ok (.aload_n 0, 1) := by decide +kernel
theorem dX12_layTerms_180 : decode cX12_layTerms 180 = .ok (.getfield 56, 3) := by decide +kernel
theorem dX12_layTerms_183 : decode cX12_layTerms 183 = .ok (.iastore, 1) := by decide +kernel
theorem dX12_layTerms_184 : decode cX12_layTerms 184 = .ok (.aload_n 0, 1) := by decide +kernel
theorem dX12_layTerms_185 : decode cX12_layTerms 185 = .ok (.dup, 1) := by decide +kernel
theorem dX12_layTerms_186 : decode cX12_layTerms 186 = .ok (.getfield 56, 3) := by decide +kernel
theorem dX12_layTerms_189 : decode cX12_layTerms 189 = .ok (.iconst 1, 1) := by decide +kernel
theorem dX12_layTerms_190 : decode cX12_layTerms 190 = .ok (.iadd, 1) := by decide +kernel
theorem dX12_layTerms_191 : decode cX12_layTerms 191 = .ok (.putfield 56, 3) := by decide +kernel
theorem dX12_layTerms_194 : decode cX12_layTerms 194 = .ok (.iload_n 1, 1) := by decide +kernel
theorem dX12_layTerms_195 : decode cX12_layTerms 195 = .ok (.iconst 1, 1) := by decide +kernel
theorem dX12_layTerms_196 : decode cX12_layTerms 196 = .ok (.isub, 1) := by decide +kernel
theorem dX12_layTerms_197 : decode cX12_layTerms 197 = .ok (.istore 6, 2) := by decide +kernel
theorem dX12_layTerms_199 : decode cX12_layTerms 199 = .ok (.iload 6, 2) := by decide +kernel
theorem dX12_layTerms_201 : decode cX12_layTerms 201 = .ok (.ifCond .lt 19, 3) := by decide +kernel
theorem dX12_layTerms_204 : decode cX12_layTerms 204 = .ok (.aload_n 0, 1) := by decide +kernel
theorem dX12_layTerms_205 : decode cX12_layTerms 205 = .ok (.getfield 72, 3) := by decide +kernel
theorem dX12_layTerms_208 : decode cX12_layTerms 208 = .ok (.iload 6, 2) := by decide +kernel
theorem dX12_layTerms_210 : decode cX12_layTerms 210 = .ok (.iaload, 1) := by decide +kernel
theorem dX12_layTerms_211 : decode cX12_layTerms 211 = .ok (.ifCond .ne 9, 3) := by decide +kernel
theorem dX12_layTerms_214 : decode cX12_layTerms 214 = .ok (.iinc 6 (-1), 3) := by decide +kernel
theorem dX12_layTerms_217 : decode cX12_layTerms 217 = .ok (.goto (-18), 3) := by decide +kernel
theorem dX12_layTerms_220 : decode cX12_layTerms 220 = .ok (.iload 6, 2) := by decide +kernel
theorem dX12_layTerms_222 : decode cX12_layTerms 222 = .ok (.ifCond .lt 7, 3) := by decide +kernel
theorem dX12_layTerms_225 : decode cX12_layTerms 225 = .ok (.iconst 1, 1) := by decide +kernel
theorem dX12_layTerms_226 : decode cX12_layTerms 226 = .ok (.goto 4, 3) := by decide +kernel
theorem dX12_layTerms_229 : decode cX12_layTerms 229 = .ok (.iconst 0, 1) := by decide +kernel
theorem dX12_layTerms_230 : decode cX12_layTerms 230 = .ok (.istore 4, 2) := by decide +kernel
theorem dX12_layTerms_232 : decode cX12_layTerms 232 = .ok (.iload 4, 2) := by decide +kernel
theorem dX12_layTerms_234 : decode cX12_layTerms 234 = .ok (.ifCond .eq 37, 3) := by decide +kernel
theorem dX12_layTerms_237 : decode cX12_layTerms 237 = .ok (.aload_n 0, 1) := by decide +kernel
theorem dX12_layTerms_238 : decode cX12_layTerms 238 = .ok (.getfield 72, 3) := by decide +kernel
theorem dX12_layTerms_241 : decode cX12_layTerms 241 = .ok (.iload 6, 2) := by decide +kernel
theorem dX12_layTerms_243 : decode cX12_layTerms 243 = .ok (.dup2, 1) := by decide +kernel
theorem dX12_layTerms_244 : decode cX12_layTerms 244 = .ok (.iaload, 1) := by decide +kernel
theorem dX12_layTerms_245 : decode cX12_layTerms 245 = .ok (.iconst 1, 1) := by decide +kernel
theorem dX12_layTerms_246 : decode cX12_layTerms 246 = .ok (.isub, 1) := by decide +kernel
theorem dX12_layTerms_247 : decode cX12_layTerms 247 = .ok (.iastore, 1) := by decide +kernel
theorem dX12_layTerms_248 : decode cX12_layTerms 248 = .ok (.iinc 3 1, 3) := by decide +kernel
theorem dX12_layTerms_251 : decode cX12_layTerms 251 = .ok (.iload 6, 2) := by decide +kernel
theorem dX12_layTerms_253 : decode cX12_layTerms 253 = .ok (.iconst 1, 1) := by decide +kernel
theorem dX12_layTerms_254 : decode cX12_layTerms 254 = .ok (.iadd, 1) := by decide +kernel
theorem dX12_layTerms_255 : decode cX12_layTerms 255 = .ok (.iload_n 1, 1) := by decide +kernel
theorem dX12_layTerms_256 : decode cX12_layTerms 256 = .ok (.if_icmp .ge 15, 3) := by decide +kernel
theorem dX12_layTerms_259 : decode cX12_layTerms 259 = .ok (.aload_n 0, 1) := by decide +kernel
theorem dX12_layTerms_260 : decode cX12_layTerms 260 = .ok (.getfield 72, 3) := by decide +kernel
theorem dX12_layTerms_263 : decode cX12_layTerms 263 = .ok (.iload 6, 2) := by decide +kernel
theorem dX12_layTerms_265 : decode cX12_layTerms 265 = .ok (.iconst 1, 1) := by decide +kernel
theorem dX12_layTerms_266 : decode cX12_layTerms 266 = .ok (.iadd, 1) := by decide +kernel
theorem dX12_layTerms_267 : decode cX12_layTerms 267 = .ok (.iload_n 3, 1) := by decide +kernel
theorem dX12_layTerms_268 : decode cX12_layTerms 268 = .ok (.iastore, 1) := by decide +kernel
theorem dX12_layTerms_269 : decode cX12_layTerms 269 = .ok (.iconst 0, 1) := by decide +kernel
theorem dX12_layTerms_270 : decode cX12_layTerms 270 = .ok (.istore_n 3, 1) := by decide +kernel
theorem dX12_layTerms_271 : decode cX12_layTerms 271 = .ok (.goto (-180), 3) := by decide +kernel
theorem dX12_layTerms_274 : decode cX12_layTerms 274 = .ok (.aload_n 0, 1) := by decide +kernel
theorem dX12_layTerms_275 : decode cX12_layTerms 275 = .ok (.iload_n 2, 1) := by decide +kernel
theorem dX12_layTerms_276 : decode cX12_layTerms 276 = .ok (.invokevirtual 85, 3) := by decide +kernel
theorem dX12_layTerms_279 : decode cX12_layTerms 279 = .ok (.return_, 1) := by decide +kernel
set_option maxHeartbeats 4000000 in
set_option maxRecDepth 100000 in
theorem cn_X12_layTerms {l : Launch} {cA : Nat → ClassId} {ad : Nat → Nat} {D : va_G} {E : Nat → Nat} {A : Nat → Prop}  {s0 sr : SS} {rr : Unit} (hf : f_X12_layTerms s0 = some (rr, sr)) : zCon Om Nm cA ad D E l yX12_layTerms cX12_layTerms 7 none 4 A [.ref (ad 0)] s0 none sr := by
  refine zstart (own := RX12) hOm (by decide) rfl (Nat.le_of_ble_eq_true rfl) ?_
  intro p e s m args below meth c X hP ls hl
  have hx := X.1
  have hb := X.2.1
  have hl : lv_has ls 7 [(0, .ref (ad 0))] := hl
  have hS : va_S A s.heap s.heap [] := va_S.rf
  have hc_2 : ∀ (n2 : Nat) (x1 : Int32) (s1 : SS) (H : Heap) (locs : List Loc) (ls : Array Slot), lv_has ls 7 [(0, .ref (ad 0)), (1, .int x1)] → va_P D ZCL (zw Om Nm cA ad s1) H → va_S A s.heap H locs → f_X12_layTerms_c2 n2 x1 s1 = some (rr, sr) → W p l e (zrm 4) s m args below meth c H locs 0 0 (MQ below (zQc Om Nm cA ad D A none sr) args s 0 0 A) (F0 m 2 ls []) := by
    intro n2
    induction n2 with
    | zero =>
      intro x1 s1 H locs ls hl hP hS hf
      rw [f_X12_layTerms_c2] at hf
      cases hf
    | succ n2 ih2 =>
      have hc_57 : ∀ (n57 : Nat) (x1 : Int32) (x2 : Int32) (x3 : Int32) (s1 : SS) (H : Heap) (locs : List Loc) (ls : Array Slot), lv_has ls 7 [(0, .ref (ad 0)), (1, .int x1), (2, .int x2), (3, .int x3)] → va_P D ZCL (zw Om Nm cA ad s1) H → va_S A s.heap H locs → f_X12_layTerms_c57 n57 x1 x2 x3 s1 = some (rr, sr) → W p l e (zrm 4) s m args below meth c H locs 0 0 (MQ below (zQc Om Nm cA ad D A none sr) args s 0 0 A) (F0 m 57 ls []) := by
        intro n57
        induction n57 with
        | zero =>
          intro x1 x2 x3 s1 H locs ls hl hP hS hf
          rw [f_X12_layTerms_c57] at hf
          cases hf
        | succ n57 ih57 =>
          have hc_91 : ∀ (n91 : Nat) (x1 : Int32) (x2 : Int32) (x3 : Int32) (x4 : Int32) (s1 : SS) (H : Heap) (locs : List Loc) (ls : Array Slot), lv_has ls 7 [(0, .ref (ad 0)), (1, .int x1), (2, .int x2), (3, .int x3), (4, .int x4)] → va_P D ZCL (zw Om Nm cA ad s1) H → va_S A s.heap H locs → f_X12_layTerms_c91 n91 x1 x2 x3 x4 s1 = some (rr, sr) → W p l e (zrm 4) s m args below meth c H locs 0 0 (MQ below (zQc Om Nm cA ad D A none sr) args s 0 0 A) (F0 m 91 ls []) := by
            intro n91
            induction n91 with
            | zero =>
              intro x1 x2 x3 x4 s1 H locs ls hl hP hS hf
              rw [f_X12_layTerms_c91] at hf
              cases hf
            | succ n91 ih91 =>
              have hc_102 : ∀ (n102 : Nat) (x1 : Int32) (x2 : Int32) (x3 : Int32) (x5 : Int32) (x6 : Int32) (s1 : SS) (H : Heap) (locs : List Loc) (ls : Array Slot), lv_has ls 7 [(0, .ref (ad 0)), (1, .int x1), (2, .int x2), (3, .int x3), (5, .int x5), (6, .int x6)] → va_P D ZCL (zw Om Nm cA ad s1) H → va_S A s.heap H locs → f_X12_layTerms_c102 (f_X12_layTerms_c91 n91) n102 x1 x2 x3 x5 x6 s1 = some (rr, sr) → W p l e (zrm 4) s m args below meth c H locs 0 0 (MQ below (zQc Om Nm cA ad D A none sr) args s 0 0 A) (F0 m 102 ls []) := by
                intro n102
                induction n102 with
                | zero =>
                  intro x1 x2 x3 x5 x6 s1 H locs ls hl hP hS hf
                  rw [f_X12_layTerms_c102] at hf
                  cases hf
                | succ n102 ih102 =>
                  have hc_199 : ∀ (n199 : Nat) (x1 : Int32) (x2 : Int32) (x3 : Int32) (x6 : Int32) (s1 : SS) (H : Heap) (locs : List Loc) (ls : Array Slot), lv_has ls 7 [(0, .ref (ad 0)), (1, .int x1), (2, .int x2), (3, .int x3), (6, .int x6)] → va_P D ZCL (zw Om Nm cA ad s1) H → va_S A s.heap H locs → f_X12_layTerms_c199 (f_X12_layTerms_c91 n91) n199 x1 x2 x3 x6 s1 = some (rr, sr) → W p l e (zrm 4) s m args below meth c H locs 0 0 (MQ below (zQc Om Nm cA ad D A none sr) args s 0 0 A) (F0 m 199 ls []) := by
                    intro n199
                    induction n199 with
                    | zero =>
                      intro x1 x2 x3 x6 s1 H locs ls hl hP hS hf
                      rw [f_X12_layTerms_c199] at hf
                      cases hf
                    | succ n199 ih199 =>
                      have hc_271 : ∀ (x1 : Int32) (x2 : Int32) (x3 : Int32) (x4 : Int32) (s1 : SS) (H : Heap) (locs : List Loc) (ls : Array Slot), lv_has ls 7 [(0, .ref (ad 0)), (1, .int x1), (2, .int x2), (3, .int x3), (4, .int x4)] → va_P D ZCL (zw Om Nm cA ad s1) H → va_S A s.heap H locs → f_X12_layTerms_c271 (f_X12_layTerms_c91 n91) x1 x2 x3 x4 s1 = some (rr, sr) → W p l e (zrm 4) s m args below meth c H locs 0 0 (MQ below (zQc Om Nm cA ad D A none sr) args s 0 0 A) (F0 m 271 ls []) := by
                        intro x1 x2 x3 x4 s1 H locs ls hl hP hS hf
                        rw [f_X12_layTerms_c271] at hf
                        refine lv_goto (tgt := 91) hx hb dX12_layTerms_271 (by decide) ?_
                        exact ih91 x1 x2 x3 x4 s1 _ _ _ (lv_sub hl [0, 1, 2, 3, 4] rfl) hP hS hf
                      have hc_230 : ∀ (x1 : Int32) (x2 : Int32) (x3 : Int32) (x6 : Int32) (t0 : Int32) (s1 : SS) (H : Heap) (locs : List Loc) (ls : Array Slot), lv_has ls 7 [(0, .ref (ad 0)), (1, .int x1), (2, .int x2), (3, .int x3), (6, .int x6)] → va_P D ZCL (zw Om Nm cA ad s1) H → va_S A s.heap H locs → f_X12_layTerms_c230 (f_X12_layTerms_c91 n91) x1 x2 x3 x6 t0 s1 = some (rr, sr) → W p l e (zrm 4) s m args below meth c H locs 0 0 (MQ below (zQc Om Nm cA ad D A none sr) args s 0 0 A) (F0 m 230 ls [.int t0]) := by
                        intro x1 x2 x3 x6 t0 s1 H locs ls hl hP hS hf
                        rw [f_X12_layTerms_c230] at hf
                        refine lv_istore (lv' := [(4, .int t0), (0, .ref (ad 0)), (1, .int x1), (2, .int x2), (3, .int x3), (6, .int x6)]) hx hb dX12_layTerms_230 hl (by decide) rfl (fun ls hl => ?_)
                        refine lv_iload hx hb dX12_layTerms_232 (lv_at hl 0 rfl) ?_
                        refine zif_eq (tgt := 271) hx hb dX12_layTerms_234 (by decide) hf (fun hf => ?_) (fun hf => ?_)
                        · exact hc_271 x1 x2 x3 t0 s1 _ _ _ (lv_sub hl [1, 2, 3, 4, 0] rfl) hP hS hf
                        · refine lv_aload_n hx hb dX12_layTerms_237 rfl (lv_at hl 1 rfl) ?_
                          refine gf_X12_72 X hP (k := 0) (q := 32) rfl dX12_layTerms_238 rfl ?_
                          refine lv_iload hx hb dX12_layTerms_241 (lv_at hl 5 rfl) ?_
                          refine lv_dup2_11 hx hb dX12_layTerms_243 rfl rfl ?_
                          obtain ⟨g15, hf⟩ := zgd hf
                          refine zald_i X hP (k := 32) (n := 6) (rs := []) rfl g15 dX12_layTerms_244 ?_
                          refine lv_iconst (v := 1) hx hb dX12_layTerms_245 (by decide) ?_
                          refine lv_isub hx hb dX12_layTerms_246 ?_
                          obtain ⟨g16, hf⟩ := zgd hf
                          refine zast_i X hP hS (k := 32) (n := 6) (rs := []) rfl g16 dX12_layTerms_247 (fun H locs hP hS => ?_)
                          refine lv_iinc (v := (x3 + 1)) (lv' := [(3, .int (x3 + 1)), (4, .int t0), (0, .ref (ad 0)), (1, .int x1), (2, .int x2), (6, .int x6)]) hx hb dX12_layTerms_248 hl (k := 4) rfl rfl (by decide) rfl (fun ls hl => ?_)
                          refine lv_iload hx hb dX12_layTerms_251 (lv_at hl 5 rfl) ?_
                          refine lv_iconst (v := 1) hx hb dX12_layTerms_253 (by decide) ?_
                          refine lv_iadd hx hb dX12_layTerms_254 ?_
                          refine lv_iload_n hx hb dX12_layTerms_255 rfl (lv_at hl 3 rfl) ?_
                          refine zicmp_ge (tgt := 271) hx hb dX12_layTerms_256 (by decide) hf (fun hf => ?_) (fun hf => ?_)
                          · exact hc_271 x1 x2 (x3 + 1) t0 (zS s1 32 (x6).toNatClampNeg (((s1.1 32 (x6).toNatClampNeg) - (1 : Int32)))) _ _ _ (lv_sub hl [2, 3, 4, 0, 1] rfl) hP hS hf
                          · refine lv_aload_n hx hb dX12_layTerms_259 rfl (lv_at hl 2 rfl) ?_
                            refine gf_X12_72 X hP (k := 0) (q := 32) rfl dX12_layTerms_260 rfl ?_
                            refine lv_iload hx hb dX12_layTerms_263 (lv_at hl 5 rfl) ?_
                            refine lv_iconst (v := 1) hx hb dX12_layTerms_265 (by decide) ?_
                            refine lv_iadd hx hb dX12_layTerms_266 ?_
                            refine lv_iload_n hx hb dX12_layTerms_267 rfl (lv_at hl 0 rfl) ?_
                            obtain ⟨g17, hf⟩ := zgd hf
                            refine zast_i X hP hS (k := 32) (n := 6) (rs := []) rfl g17 dX12_layTerms_268 (fun H locs hP hS => ?_)
                            refine lv_iconst (v := 0) hx hb dX12_layTerms_269 (by decide) ?_
                            refine lv_istore_n (lv' := [(3, .int 0), (4, .int t0), (0, .ref (ad 0)), (1, .int x1), (2, .int x2), (6, .int x6)]) hx hb dX12_layTerms_270 rfl hl (by decide) rfl (fun ls hl => ?_)
                            exact hc_271 x1 x2 0 t0 (zS (zS s1 32 (x6).toNatClampNeg (((s1.1 32 (x6).toNatClampNeg) - (1 : Int32)))) 32 ((x6 + (1 : Int32))).toNatClampNeg (x3 + 1)) _ _ _ (lv_sub hl [2, 3, 4, 0, 1] rfl) hP hS hf
                      have hc_220 : ∀ (x1 : Int32) (x2 : Int32) (x3 : Int32) (x6 : Int32) (s1 : SS) (H : Heap) (locs : List Loc) (ls : Array Slot), lv_has ls 7 [(0, .ref (ad 0)), (1, .int x1), (2, .int x2), (3, .int x3), (6, .int x6)] → va_P D ZCL (zw Om Nm cA ad s1) H → va_S A s.heap H locs → f_X12_layTerms_c220 (f_X12_layTerms_c91 n91) x1 x2 x3 x6 s1 = some (rr, sr) → W p l e (zrm 4) s m args below meth c H locs 0 0 (MQ below (zQc Om Nm cA ad D A none sr) args s 0 0 A) (F0 m 220 ls []) := by
                        intro x1 x2 x3 x6 s1 H locs ls hl hP hS hf
                        rw [f_X12_layTerms_c220] at hf
                        refine lv_iload hx hb dX12_layTerms_220 (lv_at hl 4 rfl) ?_
                        refine zif_lt (tgt := 229) hx hb dX12_layTerms_222 (by decide) hf (fun hf => ?_) (fun hf => ?_)
                        · refine lv_iconst (v := 0) hx hb dX12_layTerms_229 (by decide) ?_
                          exact hc_230 x1 x2 x3 x6 0 s1 _ _ _ (lv_sub hl [0, 1, 2, 3, 4] rfl) hP hS hf
                        · refine lv_iconst (v := 1) hx hb dX12_layTerms_225 (by decide) ?_
                          refine lv_goto (tgt := 230) hx hb dX12_layTerms_226 (by decide) ?_
                          exact hc_230 x1 x2 x3 x6 1 s1 _ _ _ (lv_sub hl [0, 1, 2, 3, 4] rfl) hP hS hf
                      intro x1 x2 x3 x6 s1 H locs ls hl hP hS hf
                      rw [f_X12_layTerms_c199] at hf
                      refine lv_iload hx hb dX12_layTerms_199 (lv_at hl 4 rfl) ?_
                      refine zif_lt (tgt := 220) hx hb dX12_layTerms_201 (by decide) hf (fun hf => ?_) (fun hf => ?_)
                      · exact hc_220 x1 x2 x3 x6 s1 _ _ _ (lv_sub hl [0, 1, 2, 3, 4] rfl) hP hS hf
                      · refine lv_aload_n hx hb dX12_layTerms_204 rfl (lv_at hl 0 rfl) ?_
                        refine gf_X12_72 X hP (k := 0) (q := 32) rfl dX12_layTerms_205 rfl ?_
                        refine lv_iload hx hb dX12_layTerms_208 (lv_at hl 4 rfl) ?_
                        obtain ⟨g18, hf⟩ := zgd hf
                        refine zald_i X hP (k := 32) (n := 6) (rs := []) rfl g18 dX12_layTerms_210 ?_
                        refine zif_ne (tgt := 220) hx hb dX12_layTerms_211 (by decide) hf (fun hf => ?_) (fun hf => ?_)
                        · exact hc_220 x1 x2 x3 x6 s1 _ _ _ (lv_sub hl [0, 1, 2, 3, 4] rfl) hP hS hf
                        · refine lv_iinc (v := (x6 + (-1))) (lv' := [(6, .int (x6 + (-1))), (0, .ref (ad 0)), (1, .int x1), (2, .int x2), (3, .int x3)]) hx hb dX12_layTerms_214 hl (k := 4) rfl rfl (by decide) rfl (fun ls hl => ?_)
                          refine lv_goto (tgt := 199) hx hb dX12_layTerms_217 (by decide) ?_
                          exact ih199 x1 x2 x3 (x6 + (-1)) s1 _ _ _ (lv_sub hl [1, 2, 3, 4, 0] rfl) hP hS hf
                  intro x1 x2 x3 x5 x6 s1 H locs ls hl hP hS hf
                  rw [f_X12_layTerms_c102] at hf
                  refine lv_iload hx hb dX12_layTerms_102 (lv_at hl 5 rfl) ?_
                  refine lv_iload_n hx hb dX12_layTerms_104 rfl (lv_at hl 1 rfl) ?_
                  refine zicmp_ge (tgt := 132) hx hb dX12_layTerms_105 (by decide) hf (fun hf => ?_) (fun hf => ?_)
                  · refine lv_aload_n hx hb dX12_layTerms_132 rfl (lv_at hl 0 rfl) ?_
                    refine gf_X12_62 X hP (k := 0) (q := 4) rfl dX12_layTerms_133 rfl ?_
                    refine lv_aload_n hx hb dX12_layTerms_136 rfl (lv_at hl 0 rfl) ?_
                    refine gf_X12_56 X hP (k := 0) rfl dX12_layTerms_137 ?_
                    refine lv_iload hx hb dX12_layTerms_140 (lv_at hl 4 rfl) ?_
                    obtain ⟨g8, hf⟩ := zgd hf
                    refine zast_i X hP hS (k := 4) (n := 462) (rs := []) rfl g8 dX12_layTerms_142 (fun H locs hP hS => ?_)
                    refine lv_aload_n hx hb dX12_layTerms_143 rfl (lv_at hl 0 rfl) ?_
                    refine gf_X12_75 X hP (k := 0) (q := 5) rfl dX12_layTerms_144 rfl ?_
                    refine lv_aload_n hx hb dX12_layTerms_147 rfl (lv_at hl 0 rfl) ?_
                    refine gf_X12_56 X hP (k := 0) rfl dX12_layTerms_148 ?_
                    refine lv_aload_n hx hb dX12_layTerms_151 rfl (lv_at hl 0 rfl) ?_
                    refine gf_X12_27 X hP (k := 0) rfl dX12_layTerms_152 ?_
                    refine lv_iload_n hx hb dX12_layTerms_155 rfl (lv_at hl 3 rfl) ?_
                    refine lv_isub hx hb dX12_layTerms_156 ?_
                    obtain ⟨g9, hf⟩ := zgd hf
                    refine zast_i X hP hS (k := 5) (n := 462) (rs := []) rfl g9 dX12_layTerms_157 (fun H locs hP hS => ?_)
                    refine lv_aload_n hx hb dX12_layTerms_158 rfl (lv_at hl 0 rfl) ?_
                    refine gf_X12_78 X hP (k := 0) (q := 6) rfl dX12_layTerms_159 rfl ?_
                    refine lv_aload_n hx hb dX12_layTerms_162 rfl (lv_at hl 0 rfl) ?_
                    refine gf_X12_56 X hP (k := 0) rfl dX12_layTerms_163 ?_
                    refine lv_aload_n hx hb dX12_layTerms_166 rfl (lv_at hl 0 rfl) ?_
                    refine lv_iload hx hb dX12_layTerms_167 (lv_at hl 4 rfl) ?_
                    obtain ⟨r10, s11, h12, hf⟩ := zbd_some hf
                    refine zcallV X hP hS hl.1 (k := 0) (As := [.int x5]) (rest := [.int ((zS (zS s1 4 ((s1.1 0 7)).toNatClampNeg x5) 5 (((zS s1 4 ((s1.1 0 7)).toNatClampNeg x5).1 0 7)).toNatClampNeg (((zS s1 4 ((s1.1 0 7)).toNatClampNeg x5).1 0 1) - x3)).1 0 7), .ref (ad 6)]) (cn_X12_worthBy h12) cw_X12_worthBy zp_12 rfl (by decide) rfl ml_X12_82 (by decide) rfl rfl (Nat.le_of_ble_eq_true rfl) dX12_layTerms_169 (fun H locs hP hS => ?_)
                    obtain ⟨g13, hf⟩ := zgd hf
                    refine zast_l X hP hS (k := 6) (n := 462) (rs := []) rfl g13 dX12_layTerms_172 (fun H locs hP hS => ?_)
                    refine lv_aload_n hx hb dX12_layTerms_173 rfl (lv_at hl 0 rfl) ?_
                    refine gf_X12_65 X hP (k := 0) (q := 7) rfl dX12_layTerms_174 rfl ?_
                    refine lv_iload hx hb dX12_layTerms_177 (lv_at hl 4 rfl) ?_
                    refine lv_aload_n hx hb dX12_layTerms_179 rfl (lv_at hl 0 rfl) ?_
                    refine gf_X12_56 X hP (k := 0) rfl dX12_layTerms_180 ?_
                    obtain ⟨g14, hf⟩ := zgd hf
                    refine zast_i X hP hS (k := 7) (n := 600000) (rs := []) rfl g14 dX12_layTerms_183 (fun H locs hP hS => ?_)
                    refine lv_aload_n hx hb dX12_layTerms_184 rfl (lv_at hl 0 rfl) ?_
                    refine lv_dup hx hb dX12_layTerms_185 rfl ?_
                    refine gf_X12_56 X hP (k := 0) rfl dX12_layTerms_186 ?_
                    refine lv_iconst (v := 1) hx hb dX12_layTerms_189 (by decide) ?_
                    refine lv_iadd hx hb dX12_layTerms_190 ?_
                    refine pf_X12_56 X hP hS (k := 0) rfl dX12_layTerms_191 (fun H locs hP hS => ?_)
                    refine lv_iload_n hx hb dX12_layTerms_194 rfl (lv_at hl 1 rfl) ?_
                    refine lv_iconst (v := 1) hx hb dX12_layTerms_195 (by decide) ?_
                    refine lv_isub hx hb dX12_layTerms_196 ?_
                    refine lv_istore (lv' := [(6, .int (x1 - (1 : Int32))), (0, .ref (ad 0)), (1, .int x1), (2, .int x2), (3, .int x3), (5, .int x5)]) hx hb dX12_layTerms_197 hl (by decide) rfl (fun ls hl => ?_)
                    exact hc_199 ZF x1 x2 x3 (x1 - (1 : Int32)) (zS (zS (zSL s11 6 (((zS (zS s1 4 ((s1.1 0 7)).toNatClampNeg x5) 5 (((zS s1 4 ((s1.1 0 7)).toNatClampNeg x5).1 0 7)).toNatClampNeg (((zS s1 4 ((s1.1 0 7)).toNatClampNeg x5).1 0 1) - x3)).1 0 7)).toNatClampNeg r10) 7 (x5).toNatClampNeg (((zSL s11 6 (((zS (zS s1 4 ((s1.1 0 7)).toNatClampNeg x5) 5 (((zS s1 4 ((s1.1 0 7)).toNatClampNeg x5).1 0 7)).toNatClampNeg (((zS s1 4 ((s1.1 0 7)).toNatClampNeg x5).1 0 1) - x3)).1 0 7)).toNatClampNeg r10).1 0 7))) 0 7 (((zS (zSL s11 6 (((zS (zS s1 4 ((s1.1 0 7)).toNatClampNeg x5) 5 (((zS s1 4 ((s1.1 0 7)).toNatClampNeg x5).1 0 7)).toNatClampNeg (((zS s1 4 ((s1.1 0 7)).toNatClampNeg x5).1 0 1) - x3)).1 0 7)).toNatClampNeg r10) 7 (x5).toNatClampNeg (((zSL s11 6 (((zS (zS s1 4 ((s1.1 0 7)).toNatClampNeg x5) 5 (((zS s1 4 ((s1.1 0 7)).toNatClampNeg x5).1 0 7)).toNatClampNeg (((zS s1 4 ((s1.1 0 7)).toNatClampNeg x5).1 0 1) - x3)).1 0 7)).toNatClampNeg r10).1 0 7))).1 0 7) + (1 : Int32))) _ _ _ (lv_sub hl [1, 2, 3, 4, 0] rfl) hP hS hf
                  · refine lv_iload hx hb dX12_layTerms_108 (lv_at hl 4 rfl) ?_
                    refine lv_aload_n hx hb dX12_layTerms_110 rfl (lv_at hl 0 rfl) ?_
                    refine gf_X12_72 X hP (k := 0) (q := 32) rfl dX12_layTerms_111 rfl ?_
                    refine lv_iload hx hb dX12_layTerms_114 (lv_at hl 5 rfl) ?_
                    obtain ⟨g19, hf⟩ := zgd hf
                    refine zald_i X hP (k := 32) (n := 6) (rs := []) rfl g19 dX12_layTerms_116 ?_
                    refine lv_iload hx hb dX12_layTerms_117 (lv_at hl 5 rfl) ?_
                    obtain ⟨r20, s21, h22, hf⟩ := zbd_some hf
                    refine zcallS X hP hS hl.1 (As := [.int x6]) (rest := [.int (s1.1 32 (x6).toNatClampNeg), .int x5]) (cn_X12_tens h22) cw_X12_tens ml_X12_15 (by decide) rfl rfl (Nat.le_of_ble_eq_true rfl) dX12_layTerms_119 (fun H locs hP hS => ?_)
                    refine lv_imul hx hb dX12_layTerms_122 ?_
                    refine lv_iadd hx hb dX12_layTerms_123 ?_
                    refine lv_istore (lv' := [(5, .int (x5 + ((s1.1 32 (x6).toNatClampNeg) * r20))), (0, .ref (ad 0)), (1, .int x1), (2, .int x2), (3, .int x3), (6, .int x6)]) hx hb dX12_layTerms_124 hl (by decide) rfl (fun ls hl => ?_)
                    refine lv_iinc (v := (x6 + 1)) (lv' := [(6, .int (x6 + 1)), (5, .int (x5 + ((s1.1 32 (x6).toNatClampNeg) * r20))), (0, .ref (ad 0)), (1, .int x1), (2, .int x2), (3, .int x3)]) hx hb dX12_layTerms_126 hl (k := 5) rfl rfl (by decide) rfl (fun ls hl => ?_)
                    refine lv_goto (tgt := 102) hx hb dX12_layTerms_129 (by decide) ?_
                    exact ih102 x1 x2 x3 (x5 + ((s1.1 32 (x6).toNatClampNeg) * r20)) (x6 + 1) s21 _ _ _ (lv_sub hl [2, 3, 4, 5, 1, 0] rfl) hP hS hf
              intro x1 x2 x3 x4 s1 H locs ls hl hP hS hf
              rw [f_X12_layTerms_c91] at hf
              refine lv_iload hx hb dX12_layTerms_91 (lv_at hl 4 rfl) ?_
              refine zif_eq (tgt := 274) hx hb dX12_layTerms_93 (by decide) hf (fun hf => ?_) (fun hf => ?_)
              · refine lv_aload_n hx hb dX12_layTerms_274 rfl (lv_at hl 0 rfl) ?_
                refine lv_iload_n hx hb dX12_layTerms_275 rfl (lv_at hl 2 rfl) ?_
                obtain ⟨r5, s6, h7, hf⟩ := zbd_some hf
                refine zcallV X hP hS hl.1 (k := 0) (As := [.int x2]) (rest := []) (cn_X12_carry h7) cw_X12_carry zp_12 rfl (by decide) rfl ml_X12_85 (by decide) rfl rfl (Nat.le_of_ble_eq_true rfl) dX12_layTerms_276 (fun H locs hP hS => ?_)
                exact zret_v X hP hS hf dX12_layTerms_279
              · refine lv_iconst (v := 0) hx hb dX12_layTerms_96 (by decide) ?_
                refine lv_istore (lv' := [(5, .int 0), (0, .ref (ad 0)), (1, .int x1), (2, .int x2), (3, .int x3), (4, .int x4)]) hx hb dX12_layTerms_97 hl (by decide) rfl (fun ls hl => ?_)
                refine lv_iconst (v := 0) hx hb dX12_layTerms_99 (by decide) ?_
                refine lv_istore (lv' := [(6, .int 0), (5, .int 0), (0, .ref (ad 0)), (1, .int x1), (2, .int x2), (3, .int x3), (4, .int x4)]) hx hb dX12_layTerms_100 hl (by decide) rfl (fun ls hl => ?_)
                exact hc_102 ZF x1 x2 x3 0 0 s1 _ _ _ (lv_sub hl [2, 3, 4, 5, 1, 0] rfl) hP hS hf
          intro x1 x2 x3 s1 H locs ls hl hP hS hf
          rw [f_X12_layTerms_c57] at hf
          refine lv_iload_n hx hb dX12_layTerms_57 rfl (lv_at hl 3 rfl) ?_
          refine lv_bipush (v := 6) hx hb dX12_layTerms_58 (by decide) ?_
          refine zicmp_ge (tgt := 76) hx hb dX12_layTerms_60 (by decide) hf (fun hf => ?_) (fun hf => ?_)
          · refine lv_aload_n hx hb dX12_layTerms_76 rfl (lv_at hl 0 rfl) ?_
            refine gf_X12_72 X hP (k := 0) (q := 32) rfl dX12_layTerms_77 rfl ?_
            refine lv_iconst (v := 0) hx hb dX12_layTerms_80 (by decide) ?_
            refine lv_aload_n hx hb dX12_layTerms_81 rfl (lv_at hl 0 rfl) ?_
            refine gf_X12_27 X hP (k := 0) rfl dX12_layTerms_82 ?_
            obtain ⟨g4, hf⟩ := zgd hf
            refine zast_i X hP hS (k := 32) (n := 6) (rs := []) rfl g4 dX12_layTerms_85 (fun H locs hP hS => ?_)
            refine lv_iconst (v := 0) hx hb dX12_layTerms_86 (by decide) ?_
            refine lv_istore_n (lv' := [(3, .int 0), (0, .ref (ad 0)), (1, .int x1), (2, .int x2)]) hx hb dX12_layTerms_87 rfl hl (by decide) rfl (fun ls hl => ?_)
            refine lv_iconst (v := 1) hx hb dX12_layTerms_88 (by decide) ?_
            refine lv_istore (lv' := [(4, .int 1), (3, .int 0), (0, .ref (ad 0)), (1, .int x1), (2, .int x2)]) hx hb dX12_layTerms_89 hl (by decide) rfl (fun ls hl => ?_)
            exact hc_91 ZF x1 x2 0 1 (zS s1 32 ((0 : Int32)).toNatClampNeg (s1.1 0 1)) _ _ _ (lv_sub hl [2, 3, 4, 1, 0] rfl) hP hS hf
          · refine lv_aload_n hx hb dX12_layTerms_63 rfl (lv_at hl 0 rfl) ?_
            refine gf_X12_72 X hP (k := 0) (q := 32) rfl dX12_layTerms_64 rfl ?_
            refine lv_iload_n hx hb dX12_layTerms_67 rfl (lv_at hl 3 rfl) ?_
            refine lv_iconst (v := 0) hx hb dX12_layTerms_68 (by decide) ?_
            obtain ⟨g23, hf⟩ := zgd hf
            refine zast_i X hP hS (k := 32) (n := 6) (rs := []) rfl g23 dX12_layTerms_69 (fun H locs hP hS => ?_)
            refine lv_iinc (v := (x3 + 1)) (lv' := [(3, .int (x3 + 1)), (0, .ref (ad 0)), (1, .int x1), (2, .int x2)]) hx hb dX12_layTerms_70 hl (k := 3) rfl rfl (by decide) rfl (fun ls hl => ?_)
            refine lv_goto (tgt := 57) hx hb dX12_layTerms_73 (by decide) ?_
            exact ih57 x1 x2 (x3 + 1) (zS s1 32 (x3).toNatClampNeg 0) _ _ _ (lv_sub hl [1, 2, 3, 0] rfl) hP hS hf
      intro x1 s1 H locs ls hl hP hS hf
      rw [f_X12_layTerms_c2] at hf
      refine lv_iload_n hx hb dX12_layTerms_2 rfl (lv_at hl 1 rfl) ?_
      refine lv_aload_n hx hb dX12_layTerms_3 rfl (lv_at hl 0 rfl) ?_
      refine gf_X12_56 X hP (k := 0) rfl dX12_layTerms_4 ?_
      refine zicmp_ge (tgt := 40) hx hb dX12_layTerms_7 (by decide) hf (fun hf => ?_) (fun hf => ?_)
      · refine lv_aload_n hx hb dX12_layTerms_40 rfl (lv_at hl 0 rfl) ?_
        obtain ⟨r1, s2, h3, hf⟩ := zbd_some hf
        refine zcallV X hP hS hl.1 (k := 0) (As := []) (rest := []) (cn_X12_letters h3) cw_X12_letters zp_12 rfl (by decide) rfl ml_X12_68 (by decide) rfl rfl (Nat.le_of_ble_eq_true rfl) dX12_layTerms_41 (fun H locs hP hS => ?_)
        refine lv_istore_n (lv' := [(1, .int r1), (0, .ref (ad 0))]) hx hb dX12_layTerms_44 rfl hl (by decide) rfl (fun ls hl => ?_)
        refine lv_aload_n hx hb dX12_layTerms_45 rfl (lv_at hl 1 rfl) ?_
        refine gf_X12_56 X hP (k := 0) rfl dX12_layTerms_46 ?_
        refine lv_istore_n (lv' := [(2, .int (s2.1 0 7)), (1, .int r1), (0, .ref (ad 0))]) hx hb dX12_layTerms_49 rfl hl (by decide) rfl (fun ls hl => ?_)
        refine lv_aload_n hx hb dX12_layTerms_50 rfl (lv_at hl 2 rfl) ?_
        refine lv_iconst (v := 0) hx hb dX12_layTerms_51 (by decide) ?_
        refine pf_X12_56 X hP hS (k := 0) rfl dX12_layTerms_52 (fun H locs hP hS => ?_)
        refine lv_iconst (v := 0) hx hb dX12_layTerms_55 (by decide) ?_
        refine lv_istore_n (lv' := [(3, .int 0), (2, .int (s2.1 0 7)), (1, .int r1), (0, .ref (ad 0))]) hx hb dX12_layTerms_56 rfl hl (by decide) rfl (fun ls hl => ?_)
        exact hc_57 ZF r1 (s2.1 0 7) 0 (zS s2 0 7 0) _ _ _ (lv_sub hl [3, 2, 1, 0] rfl) hP hS hf
      · refine lv_aload_n hx hb dX12_layTerms_10 rfl (lv_at hl 0 rfl) ?_
        refine gf_X12_59 X hP (k := 0) (q := 12) rfl dX12_layTerms_11 rfl ?_
        refine lv_iload_n hx hb dX12_layTerms_14 rfl (lv_at hl 1 rfl) ?_
        refine lv_aload_n hx hb dX12_layTerms_15 rfl (lv_at hl 0 rfl) ?_
        refine gf_X12_62 X hP (k := 0) (q := 4) rfl dX12_layTerms_16 rfl ?_
        refine lv_iload_n hx hb dX12_layTerms_19 rfl (lv_at hl 1 rfl) ?_
        obtain ⟨g24, hf⟩ := zgd hf
        refine zald_i X hP (k := 4) (n := 462) (rs := []) rfl g24 dX12_layTerms_20 ?_
        obtain ⟨g25, hf⟩ := zgd hf
        refine zast_i X hP hS (k := 12) (n := 462) (rs := []) rfl g25 dX12_layTerms_21 (fun H locs hP hS => ?_)
        refine lv_aload_n hx hb dX12_layTerms_22 rfl (lv_at hl 0 rfl) ?_
        refine gf_X12_65 X hP (k := 0) (q := 7) rfl dX12_layTerms_23 rfl ?_
        refine lv_aload_n hx hb dX12_layTerms_26 rfl (lv_at hl 0 rfl) ?_
        refine gf_X12_62 X hP (k := 0) (q := 4) rfl dX12_layTerms_27 rfl ?_
        refine lv_iload_n hx hb dX12_layTerms_30 rfl (lv_at hl 1 rfl) ?_
        obtain ⟨g26, hf⟩ := zgd hf
        refine zald_i X hP (k := 4) (n := 462) (rs := []) rfl g26 dX12_layTerms_31 ?_
        refine lv_iconst (v := (-1)) hx hb dX12_layTerms_32 (by decide) ?_
        obtain ⟨g27, hf⟩ := zgd hf
        refine zast_i X hP hS (k := 7) (n := 600000) (rs := []) rfl g27 dX12_layTerms_33 (fun H locs hP hS => ?_)
        refine lv_iinc (v := (x1 + 1)) (lv' := [(1, .int (x1 + 1)), (0, .ref (ad 0))]) hx hb dX12_layTerms_34 hl (k := 1) rfl rfl (by decide) rfl (fun ls hl => ?_)
        refine lv_goto (tgt := 2) hx hb dX12_layTerms_37 (by decide) ?_
        exact ih2 (x1 + 1) (zS (zS s1 12 (x1).toNatClampNeg (s1.1 4 (x1).toNatClampNeg)) 7 (((zS s1 12 (x1).toNatClampNeg (s1.1 4 (x1).toNatClampNeg)).1 4 (x1).toNatClampNeg)).toNatClampNeg (-1)) _ _ _ (lv_sub hl [1, 0] rfl) hP hS hf
  rw [f_X12_layTerms] at hf
  refine lv_iconst (v := 0) hx hb dX12_layTerms_0 (by decide) ?_
  refine lv_istore_n (lv' := [(1, .int 0), (0, .ref (ad 0))]) hx hb dX12_layTerms_1 rfl hl (by decide) rfl (fun ls hl => ?_)
  exact hc_2 ZF 0 s0 _ _ _ (lv_sub hl [1, 0] rfl) hP hS hf
theorem dX12_forget_0 : decode cX12_forget 0 = .ok (.aload_n 0, 1) := by decide +kernel
theorem dX12_forget_1 : decode cX12_forget 1 = .ok (.iconst 0, 1) := by decide +kernel
theorem dX12_forget_2 : decode cX12_forget 2 = .ok (.putfield 192, 3) := by decide +kernel
theorem dX12_forget_5 : decode cX12_forget 5 = .ok (.aload_n 0, 1) := by decide +kernel
theorem dX12_forget_6 : decode cX12_forget 6 = .ok (.iconst 0, 1) := by decide +kernel
theorem dX12_forget_7 : decode cX12_forget 7 = .ok (.putfield 195, 3) := by decide +kernel
theorem dX12_forget_10 : decode cX12_forget 10 = .ok (.return_, 1) := by decide +kernel
set_option maxHeartbeats 4000000 in
set_option maxRecDepth 100000 in
theorem cn_X12_forget {l : Launch} {cA : Nat → ClassId} {ad : Nat → Nat} {D : va_G} {E : Nat → Nat} {A : Nat → Prop}  {s0 sr : SS} {rr : Unit} (hf : f_X12_forget s0 = some (rr, sr)) : zCon Om Nm cA ad D E l yX12_forget cX12_forget 1 none 0 A [.ref (ad 0)] s0 none sr := by
  refine zstart (own := RX12) hOm (by decide) rfl (Nat.le_of_ble_eq_true rfl) ?_
  intro p e s m args below meth c X hP ls hl
  have hx := X.1
  have hb := X.2.1
  have hl : lv_has ls 1 [(0, .ref (ad 0))] := hl
  have hS : va_S A s.heap s.heap [] := va_S.rf
  rw [f_X12_forget] at hf
  refine lv_aload_n hx hb dX12_forget_0 rfl (lv_at hl 0 rfl) ?_
  refine lv_iconst (v := 0) hx hb dX12_forget_1 (by decide) ?_
  refine pf_X12_192 X hP hS (k := 0) rfl dX12_forget_2 (fun H locs hP hS => ?_)
  refine lv_aload_n hx hb dX12_forget_5 rfl (lv_at hl 0 rfl) ?_
  refine lv_iconst (v := 0) hx hb dX12_forget_6 (by decide) ?_
  refine pf_X12_195 X hP hS (k := 0) rfl dX12_forget_7 (fun H locs hP hS => ?_)
  exact zret_v X hP hS hf dX12_forget_10
theorem dX12_begin_0 : decode cX12_begin 0 = .ok (.aload_n 0, 1) := by decide +kernel
theorem dX12_begin_1 : decode cX12_begin 1 = .ok (.iload_n 1, 1) := by decide +kernel
theorem dX12_begin_2 : decode cX12_begin 2 = .ok (.putfield 3, 3) := by decide +kernel
theorem dX12_begin_5 : decode cX12_begin 5 = .ok (.aload_n 0, 1) := by decide +kernel
theorem dX12_begin_6 : decode cX12_begin 6 = .ok (.iload_n 2, 1) := by decide +kernel
theorem dX12_begin_7 : decode cX12_begin 7 = .ok (.putfield 27, 3) := by decide +kernel
theorem dX12_begin_10 : decode cX12_begin 10 = .ok (.aload_n 0, 1) := by decide +kernel
theorem dX12_begin_11 : decode cX12_begin 11 = .ok (.iconst 0, 1) := by decide +kernel
theorem dX12_begin_12 : decode cX12_begin 12 = .ok (.putfield 12, 3) := by decide +kernel
theorem dX12_begin_15 : decode cX12_begin 15 = .ok (.aload_n 0, 1) := by decide +kernel
theorem dX12_begin_16 : decode cX12_begin 16 = .ok (.iconst 0, 1) := by decide +kernel
theorem dX12_begin_17 : decode cX12_begin 17 = .ok (.putfield 89, 3) := by decide +kernel
theorem dX12_begin_20 : decode cX12_begin 20 = .ok (.aload_n 0, 1) := by decide +kernel
theorem dX12_begin_21 : decode cX12_begin 21 = .ok (.invokevirtual 198, 3) := by decide +kernel
theorem dX12_begin_24 : decode cX12_begin 24 = .ok (.aload_n 0, 1) := by decide +kernel
theorem dX12_begin_25 : decode cX12_begin 25 = .ok (.invokevirtual 189, 3) := by decide +kernel
theorem dX12_begin_28 : decode cX12_begin 28 = .ok (.iload_n 2, 1) := by decide +kernel
theorem dX12_begin_29 : decode cX12_begin 29 = .ok (.ireturn, 1) := by decide +kernel
set_option maxHeartbeats 4000000 in
set_option maxRecDepth 100000 in
theorem cn_X12_begin {l : Launch} {cA : Nat → ClassId} {ad : Nat → Nat} {D : va_G} {E : Nat → Nat} {A : Nat → Prop} {x1 : Int32} {x2 : Int32} {s0 sr : SS} {rr : Int32} (hf : f_X12_begin x1 x2 s0 = some (rr, sr)) : zCon Om Nm cA ad D E l yX12_begin cX12_begin 3 (some .int) 5 A [.ref (ad 0), .int x1, .int x2] s0 (some (.int rr)) sr := by
  refine zstart (own := RX12) hOm (by decide) rfl (Nat.le_of_ble_eq_true rfl) ?_
  intro p e s m args below meth c X hP ls hl
  have hx := X.1
  have hb := X.2.1
  have hl : lv_has ls 3 [(0, .ref (ad 0)), (1, .int x1), (2, .int x2)] := hl
  have hS : va_S A s.heap s.heap [] := va_S.rf
  rw [f_X12_begin] at hf
  refine lv_aload_n hx hb dX12_begin_0 rfl (lv_at hl 0 rfl) ?_
  refine lv_iload_n hx hb dX12_begin_1 rfl (lv_at hl 1 rfl) ?_
  refine pf_X12_3 X hP hS (k := 0) rfl dX12_begin_2 (fun H locs hP hS => ?_)
  refine lv_aload_n hx hb dX12_begin_5 rfl (lv_at hl 0 rfl) ?_
  refine lv_iload_n hx hb dX12_begin_6 rfl (lv_at hl 2 rfl) ?_
  refine pf_X12_27 X hP hS (k := 0) rfl dX12_begin_7 (fun H locs hP hS => ?_)
  refine lv_aload_n hx hb dX12_begin_10 rfl (lv_at hl 0 rfl) ?_
  refine lv_iconst (v := 0) hx hb dX12_begin_11 (by decide) ?_
  refine pf_X12_12 X hP hS (k := 0) rfl dX12_begin_12 (fun H locs hP hS => ?_)
  refine lv_aload_n hx hb dX12_begin_15 rfl (lv_at hl 0 rfl) ?_
  refine lv_iconst (v := 0) hx hb dX12_begin_16 (by decide) ?_
  refine pf_X12_89 X hP hS (k := 0) rfl dX12_begin_17 (fun H locs hP hS => ?_)
  refine lv_aload_n hx hb dX12_begin_20 rfl (lv_at hl 0 rfl) ?_
  obtain ⟨r1, s2, h3, hf⟩ := zbd_some hf
  refine zcallV X hP hS hl.1 (k := 0) (As := []) (rest := []) (cn_X12_forget h3) cw_X12_forget zp_12 rfl (by decide) rfl ml_X12_198 (by decide) rfl rfl (Nat.le_of_ble_eq_true rfl) dX12_begin_21 (fun H locs hP hS => ?_)
  refine lv_aload_n hx hb dX12_begin_24 rfl (lv_at hl 0 rfl) ?_
  obtain ⟨r4, s5, h6, hf⟩ := zbd_some hf
  refine zcallV X hP hS hl.1 (k := 0) (As := []) (rest := []) (cn_X12_layTerms h6) cw_X12_layTerms zp_12 rfl (by decide) rfl ml_X12_189 (by decide) rfl rfl (Nat.le_of_ble_eq_true rfl) dX12_begin_25 (fun H locs hP hS => ?_)
  refine lv_iload_n hx hb dX12_begin_28 rfl (lv_at hl 2 rfl) ?_
  exact zret_i X hP hS hf rfl dX12_begin_29
theorem dX12_product_0 : decode cX12_product 0 = .ok (.iload_n 2, 1) := by decide +kernel
theorem dX12_product_1 : decode cX12_product 1 = .ok (.ifCond .ne 7, 3) := by decide +kernel
theorem dX12_product_4 : decode cX12_product 4 = .ok (.iconst 0, 1) := by decide +kernel
theorem dX12_product_5 : decode cX12_product 5 = .ok (.goto 4, 3) := by decide +kernel
theorem dX12_product_8 : decode cX12_product 8 = .ok (.iload_n 3, 1) := by decide +kernel
theorem dX12_product_9 : decode cX12_product 9 = .ok (.istore 4, 2) := by decide +kernel
theorem dX12_product_11 : decode cX12_product 11 = .ok (.iload_n 1, 1) := by decide +kernel
theorem dX12_product_12 : decode cX12_product 12 = .ok (.i2l, 1) := by decide +kernel
theorem dX12_product_13 : decode cX12_product 13 = .ok (.lconst 1, 1) := by decide +kernel
theorem dX12_product_14 : decode cX12_product 14 = .ok (.ldc2_w 201, 3) := by decide +kernel
theorem dX12_product_17 : decode cX12_product 17 = .ok (.invokestatic 203, 3) := by decide +kernel
theorem dX12_product_20 : decode cX12_product 20 = .ok (.ifCond .eq 38, 3) := by decide +kernel
theorem dX12_product_23 : decode cX12_product 23 = .ok (.iload_n 2, 1) := by decide +kernel
theorem dX12_product_24 : decode cX12_product 24 = .ok (.i2l, 1) := by decide +kernel
theorem dX12_product_25 : decode cX12_product 25 = .ok (.lconst 0, 1) := by decide +kernel
theorem dX12_product_26 : decode cX12_product 26 = .ok (.ldc2_w 201, 3) := by decide +kernel
theorem dX12_product_29 : decode cX12_product 29 = .ok (.invokestatic 203, 3) := by decide +kernel
theorem dX12_product_32 : decode cX12_product 32 = .ok (.ifCond .eq 26, 3) := by decide +kernel
theorem dX12_product_35 : decode cX12_product 35 = .ok (.iload 4, 2) := by decide +kernel
theorem dX12_product_37 : decode cX12_product 37 = .ok (.i2l, 1) := by decide +kernel
theorem dX12_product_38 : decode cX12_product 38 = .ok (.lconst 0, 1) := by decide +kernel
theorem dX12_product_39 : decode cX12_product 39 = .ok (.ldc2_w 201, 3) := by decide +kernel
theorem dX12_product_42 : decode cX12_product 42 = .ok (.invokestatic 203, 3) := by decide +kernel
theorem dX12_product_45 : decode cX12_product 45 = .ok (.ifCond .eq 13, 3) := by decide +kernel
theorem dX12_product_48 : decode cX12_product 48 = .ok (.iload_n 1, 1) := by decide +kernel
theorem dX12_product_49 : decode cX12_product 49 = .ok (.iload_n 2, 1) := by decide +kernel
theorem dX12_product_50 : decode cX12_product 50 = .ok (.iadd, 1) := by decide +kernel
theorem dX12_product_51 : decode cX12_product 51 = .ok (.iload 4, 2) := by decide +kernel
theorem dX12_product_53 : decode cX12_product 53 = .ok (.iadd, 1) := by decide +kernel
theorem dX12_product_54 : decode cX12_product 54 = .ok (.iconst 5, 1) := by decide +kernel
theorem dX12_product_55 : decode cX12_product 55 = .ok (.if_icmp .le 5, 3) := by decide +kernel
theorem dX12_product_58 : decode cX12_product 58 = .ok (.iconst (-1), 1) := by decide +kernel
theorem dX12_product_59 : decode cX12_product 59 = .ok (.ireturn, 1) := by decide +kernel
theorem dX12_product_60 : decode cX12_product 60 = .ok (.aload_n 0, 1) := by decide +kernel
theorem dX12_product_61 : decode cX12_product 61 = .ok (.iload_n 2, 1) := by decide +kernel
theorem dX12_product_62 : decode cX12_product 62 = .ok (.ifCond .ne 7, 3) := by decide +kernel
theorem dX12_product_65 : decode cX12_product 65 = .ok (.iconst 1, 1) := by decide +kernel
theorem dX12_product_66 : decode cX12_product 66 = .ok (.goto 13, 3) := by decide +kernel
theorem dX12_product_69 : decode cX12_product 69 = .ok (.iload 4, 2) := by decide +kernel
theorem dX12_product_71 : decode cX12_product 71 = .ok (.ifCond .ne 7, 3) := by decide +kernel
theorem dX12_product_74 : decode cX12_product 74 = .ok (.iconst 2, 1) := by decide +kernel
theorem dX12_product_75 : decode cX12_product 75 = .ok (.goto 4, 3) := by decide +kernel
theorem dX12_product_78 : decode cX12_product 78 = .ok (.iconst 3, 1) := by decide +kernel
theorem dX12_product_79 : decode cX12_product 79 = .ok (.putfield 9, 3) := by decide +kernel
theorem dX12_product_82 : decode cX12_product 82 = .ok (.aload_n 0, 1) := by decide +kernel
theorem dX12_product_83 : decode cX12_product 83 = .ok (.getfield 23, 3) := by decide +kernel
theorem dX12_product_86 : decode cX12_product 86 = .ok (.iconst 0, 1) := by decide +kernel
theorem dX12_product_87 : decode cX12_product 87 = .ok (.iload_n 1, 1) := by decide +kernel
theorem dX12_product_88 : decode cX12_product 88 = .ok (.iastore, 1) := by decide +kernel
theorem dX12_product_89 : decode cX12_product 89 = .ok (.aload_n 0, 1) := by decide +kernel
theorem dX12_product_90 : decode cX12_product 90 = .ok (.getfield 23, 3) := by decide +kernel
theorem dX12_product_93 : decode cX12_product 93 = .ok (.iconst 1, 1) := by decide +kernel
theorem dX12_product_94 : decode cX12_product 94 = .ok (.iload_n 2, 1) := by decide +kernel
theorem dX12_product_95 : decode cX12_product 95 = .ok (.iastore, 1) := by decide +kernel
theorem dX12_product_96 : decode cX12_product 96 = .ok (.aload_n 0, 1) := by decide +kernel
theorem dX12_product_97 : decode cX12_product 97 = .ok (.getfield 23, 3) := by decide +kernel
theorem dX12_product_100 : decode cX12_product 100 = .ok (.iconst 2, 1) := by decide +kernel
theorem dX12_product_101 : decode cX12_product 101 = .ok (.iload 4, 2) := by decide +kernel
theorem dX12_product_103 : decode cX12_product 103 = .ok (.iastore, 1) := by decide +kernel
theorem dX12_product_104 : decode cX12_product 104 = .ok (.aload_n 0, 1) := by decide +kernel
theorem dX12_product_105 : decode cX12_product 105 = .ok (.iconst 0, 1) := by decide +kernel
theorem dX12_product_106 : decode cX12_product 106 = .ok (.iload_n 1, 1) := by decide +kernel
theorem dX12_product_107 : decode cX12_product 107 = .ok (.iload_n 2, 1) := by decide +kernel
theorem dX12_product_108 : decode cX12_product 108 = .ok (.iadd, 1) := by decide +kernel
theorem dX12_product_109 : decode cX12_product 109 = .ok (.iload 4, 2) := by decide +kernel
theorem dX12_product_111 : decode cX12_product 111 = .ok (.iadd, 1) := by decide +kernel
theorem dX12_product_112 : decode cX12_product 112 = .ok (.invokevirtual 207, 3) := by decide +kernel
theorem dX12_product_115 : decode cX12_product 115 = .ok (.ireturn, 1) := by decide +kernel
set_option maxHeartbeats 4000000 in
set_option maxRecDepth 100000 in
theorem cn_X12_product {l : Launch} {cA : Nat → ClassId} {ad : Nat → Nat} {D : va_G} {E : Nat → Nat} {A : Nat → Prop} {x1 : Int32} {x2 : Int32} {x3 : Int32} {s0 sr : SS} {rr : Int32} (hf : f_X12_product x1 x2 x3 s0 = some (rr, sr)) : zCon Om Nm cA ad D E l yX12_product cX12_product 5 (some .int) 6 A [.ref (ad 0), .int x1, .int x2, .int x3] s0 (some (.int rr)) sr := by
  refine zstart (own := RX12) hOm (by decide) rfl (Nat.le_of_ble_eq_true rfl) ?_
  intro p e s m args below meth c X hP ls hl
  have hx := X.1
  have hb := X.2.1
  have hl : lv_has ls 5 [(0, .ref (ad 0)), (1, .int x1), (2, .int x2), (3, .int x3)] := hl
  have hS : va_S A s.heap s.heap [] := va_S.rf
  have hc_79 : ∀ (x1 : Int32) (x2 : Int32) (x4 : Int32) (t0 : Int32) (s1 : SS) (H : Heap) (locs : List Loc) (ls : Array Slot), lv_has ls 5 [(0, .ref (ad 0)), (1, .int x1), (2, .int x2), (4, .int x4)] → va_P D ZCL (zw Om Nm cA ad s1) H → va_S A s.heap H locs → f_X12_product_c79 x1 x2 x4 t0 s1 = some (rr, sr) → W p l e (zrm 6) s m args below meth c H locs 0 0 (MQ below (zQc Om Nm cA ad D A (some (.int rr)) sr) args s 0 0 A) (F0 m 79 ls [.int t0, .ref (ad 0)]) := by
    intro x1 x2 x4 t0 s1 H locs ls hl hP hS hf
    rw [f_X12_product_c79] at hf
    refine pf_X12_9 X hP hS (k := 0) rfl dX12_product_79 (fun H locs hP hS => ?_)
    refine lv_aload_n hx hb dX12_product_82 rfl (lv_at hl 0 rfl) ?_
    refine gf_X12_23 X hP (k := 0) (q := 1) rfl dX12_product_83 rfl ?_
    refine lv_iconst (v := 0) hx hb dX12_product_86 (by decide) ?_
    refine lv_iload_n hx hb dX12_product_87 rfl (lv_at hl 1 rfl) ?_
    obtain ⟨g10, hf⟩ := zgd hf
    refine zast_i X hP hS (k := 1) (n := 3) (rs := []) rfl g10 dX12_product_88 (fun H locs hP hS => ?_)
    refine lv_aload_n hx hb dX12_product_89 rfl (lv_at hl 0 rfl) ?_
    refine gf_X12_23 X hP (k := 0) (q := 1) rfl dX12_product_90 rfl ?_
    refine lv_iconst (v := 1) hx hb dX12_product_93 (by decide) ?_
    refine lv_iload_n hx hb dX12_product_94 rfl (lv_at hl 2 rfl) ?_
    obtain ⟨g11, hf⟩ := zgd hf
    refine zast_i X hP hS (k := 1) (n := 3) (rs := []) rfl g11 dX12_product_95 (fun H locs hP hS => ?_)
    refine lv_aload_n hx hb dX12_product_96 rfl (lv_at hl 0 rfl) ?_
    refine gf_X12_23 X hP (k := 0) (q := 1) rfl dX12_product_97 rfl ?_
    refine lv_iconst (v := 2) hx hb dX12_product_100 (by decide) ?_
    refine lv_iload hx hb dX12_product_101 (lv_at hl 3 rfl) ?_
    obtain ⟨g12, hf⟩ := zgd hf
    refine zast_i X hP hS (k := 1) (n := 3) (rs := []) rfl g12 dX12_product_103 (fun H locs hP hS => ?_)
    refine lv_aload_n hx hb dX12_product_104 rfl (lv_at hl 0 rfl) ?_
    refine lv_iconst (v := 0) hx hb dX12_product_105 (by decide) ?_
    refine lv_iload_n hx hb dX12_product_106 rfl (lv_at hl 1 rfl) ?_
    refine lv_iload_n hx hb dX12_product_107 rfl (lv_at hl 2 rfl) ?_
    refine lv_iadd hx hb dX12_product_108 ?_
    refine lv_iload hx hb dX12_product_109 (lv_at hl 3 rfl) ?_
    refine lv_iadd hx hb dX12_product_111 ?_
    obtain ⟨r13, s14, h15, hf⟩ := zbd_some hf
    refine zcallV X hP hS hl.1 (k := 0) (As := [.int 0, .int ((x1 + x2) + x4)]) (rest := []) (cn_X12_begin h15) cw_X12_begin zp_12 rfl (by decide) rfl ml_X12_207 (by decide) rfl rfl (Nat.le_of_ble_eq_true rfl) dX12_product_112 (fun H locs hP hS => ?_)
    exact zret_i X hP hS hf rfl dX12_product_115
  have hc_9 : ∀ (x1 : Int32) (x2 : Int32) (t0 : Int32) (s1 : SS) (H : Heap) (locs : List Loc) (ls : Array Slot), lv_has ls 5 [(0, .ref (ad 0)), (1, .int x1), (2, .int x2)] → va_P D ZCL (zw Om Nm cA ad s1) H → va_S A s.heap H locs → f_X12_product_c9 x1 x2 t0 s1 = some (rr, sr) → W p l e (zrm 6) s m args below meth c H locs 0 0 (MQ below (zQc Om Nm cA ad D A (some (.int rr)) sr) args s 0 0 A) (F0 m 9 ls [.int t0]) := by
    intro x1 x2 t0 s1 H locs ls hl hP hS hf
    rw [f_X12_product_c9] at hf
    refine lv_istore (lv' := [(4, .int t0), (0, .ref (ad 0)), (1, .int x1), (2, .int x2)]) hx hb dX12_product_9 hl (by decide) rfl (fun ls hl => ?_)
    refine lv_iload_n hx hb dX12_product_11 rfl (lv_at hl 2 rfl) ?_
    refine lv_i2l hx hb dX12_product_12 rfl ?_
    refine lv_lconst (v := 1) hx hb dX12_product_13 (by decide) ?_
    refine zldc2 X co_X12_201 dX12_product_14 ?_
    obtain ⟨r1, s2, h3, hf⟩ := zbd_some hf
    refine zcallS X hP hS hl.1 (As := [.long (x1).toInt64, .long 1, .long 5]) (rest := []) (cn_X12_in h3) cw_X12_in ml_X12_203 (by decide) rfl rfl (Nat.le_of_ble_eq_true rfl) dX12_product_17 (fun H locs hP hS => ?_)
    refine zif_eq (tgt := 58) hx hb dX12_product_20 (by decide) hf (fun hf => ?_) (fun hf => ?_)
    · refine lv_iconst (v := (-1)) hx hb dX12_product_58 (by decide) ?_
      exact zret_i X hP hS hf rfl dX12_product_59
    · refine lv_iload_n hx hb dX12_product_23 rfl (lv_at hl 3 rfl) ?_
      refine lv_i2l hx hb dX12_product_24 rfl ?_
      refine lv_lconst (v := 0) hx hb dX12_product_25 (by decide) ?_
      refine zldc2 X co_X12_201 dX12_product_26 ?_
      obtain ⟨r4, s5, h6, hf⟩ := zbd_some hf
      refine zcallS X hP hS hl.1 (As := [.long (x2).toInt64, .long 0, .long 5]) (rest := []) (cn_X12_in h6) cw_X12_in ml_X12_203 (by decide) rfl rfl (Nat.le_of_ble_eq_true rfl) dX12_product_29 (fun H locs hP hS => ?_)
      refine zif_eq (tgt := 58) hx hb dX12_product_32 (by decide) hf (fun hf => ?_) (fun hf => ?_)
      · refine lv_iconst (v := (-1)) hx hb dX12_product_58 (by decide) ?_
        exact zret_i X hP hS hf rfl dX12_product_59
      · refine lv_iload hx hb dX12_product_35 (lv_at hl 0 rfl) ?_
        refine lv_i2l hx hb dX12_product_37 rfl ?_
        refine lv_lconst (v := 0) hx hb dX12_product_38 (by decide) ?_
        refine zldc2 X co_X12_201 dX12_product_39 ?_
        obtain ⟨r7, s8, h9, hf⟩ := zbd_some hf
        refine zcallS X hP hS hl.1 (As := [.long (t0).toInt64, .long 0, .long 5]) (rest := []) (cn_X12_in h9) cw_X12_in ml_X12_203 (by decide) rfl rfl (Nat.le_of_ble_eq_true rfl) dX12_product_42 (fun H locs hP hS => ?_)
        refine zif_eq (tgt := 58) hx hb dX12_product_45 (by decide) hf (fun hf => ?_) (fun hf => ?_)
        · refine lv_iconst (v := (-1)) hx hb dX12_product_58 (by decide) ?_
          exact zret_i X hP hS hf rfl dX12_product_59
        · refine lv_iload_n hx hb dX12_product_48 rfl (lv_at hl 2 rfl) ?_
          refine lv_iload_n hx hb dX12_product_49 rfl (lv_at hl 3 rfl) ?_
          refine lv_iadd hx hb dX12_product_50 ?_
          refine lv_iload hx hb dX12_product_51 (lv_at hl 0 rfl) ?_
          refine lv_iadd hx hb dX12_product_53 ?_
          refine lv_iconst (v := 5) hx hb dX12_product_54 (by decide) ?_
          refine zicmp_le (tgt := 60) hx hb dX12_product_55 (by decide) hf (fun hf => ?_) (fun hf => ?_)
          · refine lv_aload_n hx hb dX12_product_60 rfl (lv_at hl 1 rfl) ?_
            refine lv_iload_n hx hb dX12_product_61 rfl (lv_at hl 3 rfl) ?_
            refine zif_ne (tgt := 69) hx hb dX12_product_62 (by decide) hf (fun hf => ?_) (fun hf => ?_)
            · refine lv_iload hx hb dX12_product_69 (lv_at hl 0 rfl) ?_
              refine zif_ne (tgt := 78) hx hb dX12_product_71 (by decide) hf (fun hf => ?_) (fun hf => ?_)
              · refine lv_iconst (v := 3) hx hb dX12_product_78 (by decide) ?_
                exact hc_79 x1 x2 t0 3 s8 _ _ _ (lv_sub hl [1, 2, 3, 0] rfl) hP hS hf
              · refine lv_iconst (v := 2) hx hb dX12_product_74 (by decide) ?_
                refine lv_goto (tgt := 79) hx hb dX12_product_75 (by decide) ?_
                exact hc_79 x1 x2 t0 2 s8 _ _ _ (lv_sub hl [1, 2, 3, 0] rfl) hP hS hf
            · refine lv_iconst (v := 1) hx hb dX12_product_65 (by decide) ?_
              refine lv_goto (tgt := 79) hx hb dX12_product_66 (by decide) ?_
              exact hc_79 x1 x2 t0 1 s8 _ _ _ (lv_sub hl [1, 2, 3, 0] rfl) hP hS hf
          · refine lv_iconst (v := (-1)) hx hb dX12_product_58 (by decide) ?_
            exact zret_i X hP hS hf rfl dX12_product_59
  rw [f_X12_product] at hf
  refine lv_iload_n hx hb dX12_product_0 rfl (lv_at hl 2 rfl) ?_
  refine zif_ne (tgt := 8) hx hb dX12_product_1 (by decide) hf (fun hf => ?_) (fun hf => ?_)
  · refine lv_iload_n hx hb dX12_product_8 rfl (lv_at hl 3 rfl) ?_
    exact hc_9 x1 x2 x3 s0 _ _ _ (lv_sub hl [0, 1, 2] rfl) hP hS hf
  · refine lv_iconst (v := 0) hx hb dX12_product_4 (by decide) ?_
    refine lv_goto (tgt := 9) hx hb dX12_product_5 (by decide) ?_
    exact hc_9 x1 x2 0 s0 _ _ _ (lv_sub hl [0, 1, 2] rfl) hP hS hf
theorem dX12_blow_0 : decode cX12_blow 0 = .ok (.aload_n 0, 1) := by decide +kernel
theorem dX12_blow_1 : decode cX12_blow 1 = .ok (.getfield 3, 3) := by decide +kernel
theorem dX12_blow_4 : decode cX12_blow 4 = .ok (.ifCond .eq 6, 3) := by decide +kernel
theorem dX12_blow_7 : decode cX12_blow 7 = .ok (.bipush (-5), 2) := by decide +kernel
theorem dX12_blow_9 : decode cX12_blow 9 = .ok (.ireturn, 1) := by decide +kernel
theorem dX12_blow_10 : decode cX12_blow 10 = .ok (.aload_n 0, 1) := by decide +kernel
theorem dX12_blow_11 : decode cX12_blow 11 = .ok (.getfield 12, 3) := by decide +kernel
theorem dX12_blow_14 : decode cX12_blow 14 = .ok (.iconst 3, 1) := by decide +kernel
theorem dX12_blow_15 : decode cX12_blow 15 = .ok (.if_icmp .ne 6, 3) := by decide +kernel
theorem dX12_blow_18 : decode cX12_blow 18 = .ok (.bipush (-3), 2) := by decide +kernel
theorem dX12_blow_20 : decode cX12_blow 20 = .ok (.ireturn, 1) := by decide +kernel
theorem dX12_blow_21 : decode cX12_blow 21 = .ok (.aload_n 0, 1) := by decide +kernel
theorem dX12_blow_22 : decode cX12_blow 22 = .ok (.dup, 1) := by decide +kernel
theorem dX12_blow_23 : decode cX12_blow 23 = .ok (.getfield 12, 3) := by decide +kernel
theorem dX12_blow_26 : decode cX12_blow 26 = .ok (.iconst 1, 1) := by decide +kernel
theorem dX12_blow_27 : decode cX12_blow 27 = .ok (.iadd, 1) := by decide +kernel
theorem dX12_blow_28 : decode cX12_blow 28 = .ok (.putfield 12, 3) := by decide +kernel
theorem dX12_blow_31 : decode cX12_blow 31 = .ok (.aload_n 0, 1) := by decide +kernel
theorem dX12_blow_32 : decode cX12_blow 32 = .ok (.invokevirtual 198, 3) := by decide +kernel
theorem dX12_blow_35 : decode cX12_blow 35 = .ok (.aload_n 0, 1) := by decide +kernel
theorem dX12_blow_36 : decode cX12_blow 36 = .ok (.invokevirtual 189, 3) := by decide +kernel
theorem dX12_blow_39 : decode cX12_blow 39 = .ok (.aload_n 0, 1) := by decide +kernel
theorem dX12_blow_40 : decode cX12_blow 40 = .ok (.getfield 12, 3) := by decide +kernel
theorem dX12_blow_43 : decode cX12_blow 43 = .ok (.ireturn, 1) := by decide +kernel
set_option maxHeartbeats 4000000 in
set_option maxRecDepth 100000 in
theorem cn_X12_blow {l : Launch} {cA : Nat → ClassId} {ad : Nat → Nat} {D : va_G} {E : Nat → Nat} {A : Nat → Prop}  {s0 sr : SS} {rr : Int32} (hf : f_X12_blow s0 = some (rr, sr)) : zCon Om Nm cA ad D E l yX12_blow cX12_blow 1 (some .int) 5 A [.ref (ad 0)] s0 (some (.int rr)) sr := by
  refine zstart (own := RX12) hOm (by decide) rfl (Nat.le_of_ble_eq_true rfl) ?_
  intro p e s m args below meth c X hP ls hl
  have hx := X.1
  have hb := X.2.1
  have hl : lv_has ls 1 [(0, .ref (ad 0))] := hl
  have hS : va_S A s.heap s.heap [] := va_S.rf
  rw [f_X12_blow] at hf
  refine lv_aload_n hx hb dX12_blow_0 rfl (lv_at hl 0 rfl) ?_
  refine gf_X12_3 X hP (k := 0) rfl dX12_blow_1 ?_
  refine zif_eq (tgt := 10) hx hb dX12_blow_4 (by decide) hf (fun hf => ?_) (fun hf => ?_)
  · refine lv_aload_n hx hb dX12_blow_10 rfl (lv_at hl 0 rfl) ?_
    refine gf_X12_12 X hP (k := 0) rfl dX12_blow_11 ?_
    refine lv_iconst (v := 3) hx hb dX12_blow_14 (by decide) ?_
    refine zicmp_ne (tgt := 21) hx hb dX12_blow_15 (by decide) hf (fun hf => ?_) (fun hf => ?_)
    · refine lv_aload_n hx hb dX12_blow_21 rfl (lv_at hl 0 rfl) ?_
      refine lv_dup hx hb dX12_blow_22 rfl ?_
      refine gf_X12_12 X hP (k := 0) rfl dX12_blow_23 ?_
      refine lv_iconst (v := 1) hx hb dX12_blow_26 (by decide) ?_
      refine lv_iadd hx hb dX12_blow_27 ?_
      refine pf_X12_12 X hP hS (k := 0) rfl dX12_blow_28 (fun H locs hP hS => ?_)
      refine lv_aload_n hx hb dX12_blow_31 rfl (lv_at hl 0 rfl) ?_
      obtain ⟨r1, s2, h3, hf⟩ := zbd_some hf
      refine zcallV X hP hS hl.1 (k := 0) (As := []) (rest := []) (cn_X12_forget h3) cw_X12_forget zp_12 rfl (by decide) rfl ml_X12_198 (by decide) rfl rfl (Nat.le_of_ble_eq_true rfl) dX12_blow_32 (fun H locs hP hS => ?_)
      refine lv_aload_n hx hb dX12_blow_35 rfl (lv_at hl 0 rfl) ?_
      obtain ⟨r4, s5, h6, hf⟩ := zbd_some hf
      refine zcallV X hP hS hl.1 (k := 0) (As := []) (rest := []) (cn_X12_layTerms h6) cw_X12_layTerms zp_12 rfl (by decide) rfl ml_X12_189 (by decide) rfl rfl (Nat.le_of_ble_eq_true rfl) dX12_blow_36 (fun H locs hP hS => ?_)
      refine lv_aload_n hx hb dX12_blow_39 rfl (lv_at hl 0 rfl) ?_
      refine gf_X12_12 X hP (k := 0) rfl dX12_blow_40 ?_
      exact zret_i X hP hS hf rfl dX12_blow_43
    · refine lv_bipush (v := (-3)) hx hb dX12_blow_18 (by decide) ?_
      exact zret_i X hP hS hf rfl dX12_blow_20
  · refine lv_bipush (v := (-5)) hx hb dX12_blow_7 (by decide) ?_
    exact zret_i X hP hS hf rfl dX12_blow_9
theorem dX12_curved_0 : decode cX12_curved 0 = .ok (.aload_n 0, 1) := by decide +kernel
theorem dX12_curved_1 : decode cX12_curved 1 = .ok (.iconst 1, 1) := by decide +kernel
theorem dX12_curved_2 : decode cX12_curved 2 = .ok (.iconst 3, 1) := by decide +kernel
theorem dX12_curved_3 : decode cX12_curved 3 = .ok (.invokevirtual 207, 3) := by decide +kernel
theorem dX12_curved_6 : decode cX12_curved 6 = .ok (.ireturn, 1) := by decide +kernel
set_option maxHeartbeats 4000000 in
set_option maxRecDepth 100000 in
theorem cn_X12_curved {l : Launch} {cA : Nat → ClassId} {ad : Nat → Nat} {D : va_G} {E : Nat → Nat} {A : Nat → Prop}  {s0 sr : SS} {rr : Int32} (hf : f_X12_curved s0 = some (rr, sr)) : zCon Om Nm cA ad D E l yX12_curved cX12_curved 1 (some .int) 6 A [.ref (ad 0)] s0 (some (.int rr)) sr := by
  refine zstart (own := RX12) hOm (by decide) rfl (Nat.le_of_ble_eq_true rfl) ?_
  intro p e s m args below meth c X hP ls hl
  have hx := X.1
  have hb := X.2.1
  have hl : lv_has ls 1 [(0, .ref (ad 0))] := hl
  have hS : va_S A s.heap s.heap [] := va_S.rf
  rw [f_X12_curved] at hf
  refine lv_aload_n hx hb dX12_curved_0 rfl (lv_at hl 0 rfl) ?_
  refine lv_iconst (v := 1) hx hb dX12_curved_1 (by decide) ?_
  refine lv_iconst (v := 3) hx hb dX12_curved_2 (by decide) ?_
  obtain ⟨r1, s2, h3, hf⟩ := zbd_some hf
  refine zcallV X hP hS hl.1 (k := 0) (As := [.int 1, .int 3]) (rest := []) (cn_X12_begin h3) cw_X12_begin zp_12 rfl (by decide) rfl ml_X12_207 (by decide) rfl rfl (Nat.le_of_ble_eq_true rfl) dX12_curved_3 (fun H locs hP hS => ?_)
  exact zret_i X hP hS hf rfl dX12_curved_6
theorem dX12_curve_0 : decode cX12_curve 0 = .ok (.aload_n 0, 1) := by decide +kernel
theorem dX12_curve_1 : decode cX12_curve 1 = .ok (.getfield 3, 3) := by decide +kernel
theorem dX12_curve_4 : decode cX12_curve 4 = .ok (.iconst 1, 1) := by decide +kernel
theorem dX12_curve_5 : decode cX12_curve 5 = .ok (.if_icmp .eq 6, 3) := by decide +kernel
theorem dX12_curve_8 : decode cX12_curve 8 = .ok (.bipush (-5), 2) := by decide +kernel
theorem dX12_curve_10 : decode cX12_curve 10 = .ok (.ireturn, 1) := by decide +kernel
theorem dX12_curve_11 : decode cX12_curve 11 = .ok (.iload_n 1, 1) := by decide +kernel
theorem dX12_curve_12 : decode cX12_curve 12 = .ok (.i2l, 1) := by decide +kernel
theorem dX12_curve_13 : decode cX12_curve 13 = .ok (.lconst 1, 1) := by decide +kernel
theorem dX12_curve_14 : decode cX12_curve 14 = .ok (.ldc2_w 210, 3) := by decide +kernel
theorem dX12_curve_17 : decode cX12_curve 17 = .ok (.invokestatic 203, 3) := by decide +kernel
theorem dX12_curve_20 : decode cX12_curve 20 = .ok (.ifCond .eq 15, 3) := by decide +kernel
theorem dX12_curve_23 : decode cX12_curve 23 = .ok (.iload_n 2, 1) := by decide +kernel
theorem dX12_curve_24 : decode cX12_curve 24 = .ok (.i2l, 1) := by decide +kernel
theorem dX12_curve_25 : decode cX12_curve 25 = .ok (.lconst 0, 1) := by decide +kernel
theorem dX12_curve_26 : decode cX12_curve 26 = .ok (.ldc2_w 210, 3) := by decide +kernel
theorem dX12_curve_29 : decode cX12_curve 29 = .ok (.invokestatic 203, 3) := by decide +kernel
theorem dX12_curve_32 : decode cX12_curve 32 = .ok (.ifCond .ne 5, 3) := by decide +kernel
theorem dX12_curve_35 : decode cX12_curve 35 = .ok (.iconst (-1), 1) := by decide +kernel
theorem dX12_curve_36 : decode cX12_curve 36 = .ok (.ireturn, 1) := by decide +kernel
theorem dX12_curve_37 : decode cX12_curve 37 = .ok (.aload_n 0, 1) := by decide +kernel
theorem dX12_curve_38 : decode cX12_curve 38 = .ok (.getfield 12, 3) := by decide +kernel
theorem dX12_curve_41 : decode cX12_curve 41 = .ok (.iconst 3, 1) := by decide +kernel
theorem dX12_curve_42 : decode cX12_curve 42 = .ok (.if_icmp .ne 6, 3) := by decide +kernel
theorem dX12_curve_45 : decode cX12_curve 45 = .ok (.bipush (-3), 2) := by decide +kernel
theorem dX12_curve_47 : decode cX12_curve 47 = .ok (.ireturn, 1) := by decide +kernel
theorem dX12_curve_48 : decode cX12_curve 48 = .ok (.aload_n 0, 1) := by decide +kernel
theorem dX12_curve_49 : decode cX12_curve 49 = .ok (.getfield 32, 3) := by decide +kernel
theorem dX12_curve_52 : decode cX12_curve 52 = .ok (.aload_n 0, 1) := by decide +kernel
theorem dX12_curve_53 : decode cX12_curve 53 = .ok (.getfield 12, 3) := by decide +kernel
theorem dX12_curve_56 : decode cX12_curve 56 = .ok (.iload_n 1, 1) := by decide +kernel
theorem dX12_curve_57 : decode cX12_curve 57 = .ok (.iastore, 1) := by decide +kernel
theorem dX12_curve_58 : decode cX12_curve 58 = .ok (.aload_n 0, 1) := by decide +kernel
theorem dX12_curve_59 : decode cX12_curve 59 = .ok (.getfield 37, 3) := by decide +kernel
theorem dX12_curve_62 : decode cX12_curve 62 = .ok (.aload_n 0, 1) := by decide +kernel
theorem dX12_curve_63 : decode cX12_curve 63 = .ok (.getfield 12, 3) := by decide +kernel
theorem dX12_curve_66 : decode cX12_curve 66 = .ok (.iload_n 2, 1) := by decide +kernel
theorem dX12_curve_67 : decode cX12_curve 67 = .ok (.iastore, 1) := by decide +kernel
theorem dX12_curve_68 : decode cX12_curve 68 = .ok (.aload_n 0, 1) := by decide +kernel
theorem dX12_curve_69 : decode cX12_curve 69 = .ok (.dup, 1) := by decide +kernel
theorem dX12_curve_70 : decode cX12_curve 70 = .ok (.getfield 12, 3) := by decide +kernel
theorem dX12_curve_73 : decode cX12_curve 73 = .ok (.iconst 1, 1) := by decide +kernel
theorem dX12_curve_74 : decode cX12_curve 74 = .ok (.iadd, 1) := by decide +kernel
theorem dX12_curve_75 : decode cX12_curve 75 = .ok (.putfield 12, 3) := by decide +kernel
theorem dX12_curve_78 : decode cX12_curve 78 = .ok (.aload_n 0, 1) := by decide +kernel
theorem dX12_curve_79 : decode cX12_curve 79 = .ok (.invokevirtual 198, 3) := by decide +kernel
theorem dX12_curve_82 : decode cX12_curve 82 = .ok (.aload_n 0, 1) := by decide +kernel
theorem dX12_curve_83 : decode cX12_curve 83 = .ok (.invokevirtual 189, 3) := by decide +kernel
theorem dX12_curve_86 : decode cX12_curve 86 = .ok (.aload_n 0, 1) := by decide +kernel
theorem dX12_curve_87 : decode cX12_curve 87 = .ok (.getfield 12, 3) := by decide +kernel
theorem dX12_curve_90 : decode cX12_curve 90 = .ok (.iconst 1, 1) := by decide +kernel
theorem dX12_curve_91 : decode cX12_curve 91 = .ok (.isub, 1) := by decide +kernel
theorem dX12_curve_92 : decode cX12_curve 92 = .ok (.ireturn, 1) := by decide +kernel
set_option maxHeartbeats 4000000 in
set_option maxRecDepth 100000 in
theorem cn_X12_curve {l : Launch} {cA : Nat → ClassId} {ad : Nat → Nat} {D : va_G} {E : Nat → Nat} {A : Nat → Prop} {x1 : Int32} {x2 : Int32} {s0 sr : SS} {rr : Int32} (hf : f_X12_curve x1 x2 s0 = some (rr, sr)) : zCon Om Nm cA ad D E l yX12_curve cX12_curve 3 (some .int) 5 A [.ref (ad 0), .int x1, .int x2] s0 (some (.int rr)) sr := by
  refine zstart (own := RX12) hOm (by decide) rfl (Nat.le_of_ble_eq_true rfl) ?_
  intro p e s m args below meth c X hP ls hl
  have hx := X.1
  have hb := X.2.1
  have hl : lv_has ls 3 [(0, .ref (ad 0)), (1, .int x1), (2, .int x2)] := hl
  have hS : va_S A s.heap s.heap [] := va_S.rf
  rw [f_X12_curve] at hf
  refine lv_aload_n hx hb dX12_curve_0 rfl (lv_at hl 0 rfl) ?_
  refine gf_X12_3 X hP (k := 0) rfl dX12_curve_1 ?_
  refine lv_iconst (v := 1) hx hb dX12_curve_4 (by decide) ?_
  refine zicmp_eq (tgt := 11) hx hb dX12_curve_5 (by decide) hf (fun hf => ?_) (fun hf => ?_)
  · refine lv_iload_n hx hb dX12_curve_11 rfl (lv_at hl 1 rfl) ?_
    refine lv_i2l hx hb dX12_curve_12 rfl ?_
    refine lv_lconst (v := 1) hx hb dX12_curve_13 (by decide) ?_
    refine zldc2 X co_X12_210 dX12_curve_14 ?_
    obtain ⟨r1, s2, h3, hf⟩ := zbd_some hf
    refine zcallS X hP hS hl.1 (As := [.long (x1).toInt64, .long 1, .long 9]) (rest := []) (cn_X12_in h3) cw_X12_in ml_X12_203 (by decide) rfl rfl (Nat.le_of_ble_eq_true rfl) dX12_curve_17 (fun H locs hP hS => ?_)
    refine zif_eq (tgt := 35) hx hb dX12_curve_20 (by decide) hf (fun hf => ?_) (fun hf => ?_)
    · refine lv_iconst (v := (-1)) hx hb dX12_curve_35 (by decide) ?_
      exact zret_i X hP hS hf rfl dX12_curve_36
    · refine lv_iload_n hx hb dX12_curve_23 rfl (lv_at hl 2 rfl) ?_
      refine lv_i2l hx hb dX12_curve_24 rfl ?_
      refine lv_lconst (v := 0) hx hb dX12_curve_25 (by decide) ?_
      refine zldc2 X co_X12_210 dX12_curve_26 ?_
      obtain ⟨r4, s5, h6, hf⟩ := zbd_some hf
      refine zcallS X hP hS hl.1 (As := [.long (x2).toInt64, .long 0, .long 9]) (rest := []) (cn_X12_in h6) cw_X12_in ml_X12_203 (by decide) rfl rfl (Nat.le_of_ble_eq_true rfl) dX12_curve_29 (fun H locs hP hS => ?_)
      refine zif_ne (tgt := 37) hx hb dX12_curve_32 (by decide) hf (fun hf => ?_) (fun hf => ?_)
      · refine lv_aload_n hx hb dX12_curve_37 rfl (lv_at hl 0 rfl) ?_
        refine gf_X12_12 X hP (k := 0) rfl dX12_curve_38 ?_
        refine lv_iconst (v := 3) hx hb dX12_curve_41 (by decide) ?_
        refine zicmp_ne (tgt := 48) hx hb dX12_curve_42 (by decide) hf (fun hf => ?_) (fun hf => ?_)
        · refine lv_aload_n hx hb dX12_curve_48 rfl (lv_at hl 0 rfl) ?_
          refine gf_X12_32 X hP (k := 0) (q := 2) rfl dX12_curve_49 rfl ?_
          refine lv_aload_n hx hb dX12_curve_52 rfl (lv_at hl 0 rfl) ?_
          refine gf_X12_12 X hP (k := 0) rfl dX12_curve_53 ?_
          refine lv_iload_n hx hb dX12_curve_56 rfl (lv_at hl 1 rfl) ?_
          obtain ⟨g7, hf⟩ := zgd hf
          refine zast_i X hP hS (k := 2) (n := 3) (rs := []) rfl g7 dX12_curve_57 (fun H locs hP hS => ?_)
          refine lv_aload_n hx hb dX12_curve_58 rfl (lv_at hl 0 rfl) ?_
          refine gf_X12_37 X hP (k := 0) (q := 3) rfl dX12_curve_59 rfl ?_
          refine lv_aload_n hx hb dX12_curve_62 rfl (lv_at hl 0 rfl) ?_
          refine gf_X12_12 X hP (k := 0) rfl dX12_curve_63 ?_
          refine lv_iload_n hx hb dX12_curve_66 rfl (lv_at hl 2 rfl) ?_
          obtain ⟨g8, hf⟩ := zgd hf
          refine zast_i X hP hS (k := 3) (n := 3) (rs := []) rfl g8 dX12_curve_67 (fun H locs hP hS => ?_)
          refine lv_aload_n hx hb dX12_curve_68 rfl (lv_at hl 0 rfl) ?_
          refine lv_dup hx hb dX12_curve_69 rfl ?_
          refine gf_X12_12 X hP (k := 0) rfl dX12_curve_70 ?_
          refine lv_iconst (v := 1) hx hb dX12_curve_73 (by decide) ?_
          refine lv_iadd hx hb dX12_curve_74 ?_
          refine pf_X12_12 X hP hS (k := 0) rfl dX12_curve_75 (fun H locs hP hS => ?_)
          refine lv_aload_n hx hb dX12_curve_78 rfl (lv_at hl 0 rfl) ?_
          obtain ⟨r9, s10, h11, hf⟩ := zbd_some hf
          refine zcallV X hP hS hl.1 (k := 0) (As := []) (rest := []) (cn_X12_forget h11) cw_X12_forget zp_12 rfl (by decide) rfl ml_X12_198 (by decide) rfl rfl (Nat.le_of_ble_eq_true rfl) dX12_curve_79 (fun H locs hP hS => ?_)
          refine lv_aload_n hx hb dX12_curve_82 rfl (lv_at hl 0 rfl) ?_
          obtain ⟨r12, s13, h14, hf⟩ := zbd_some hf
          refine zcallV X hP hS hl.1 (k := 0) (As := []) (rest := []) (cn_X12_layTerms h14) cw_X12_layTerms zp_12 rfl (by decide) rfl ml_X12_189 (by decide) rfl rfl (Nat.le_of_ble_eq_true rfl) dX12_curve_83 (fun H locs hP hS => ?_)
          refine lv_aload_n hx hb dX12_curve_86 rfl (lv_at hl 0 rfl) ?_
          refine gf_X12_12 X hP (k := 0) rfl dX12_curve_87 ?_
          refine lv_iconst (v := 1) hx hb dX12_curve_90 (by decide) ?_
          refine lv_isub hx hb dX12_curve_91 ?_
          exact zret_i X hP hS hf rfl dX12_curve_92
        · refine lv_bipush (v := (-3)) hx hb dX12_curve_45 (by decide) ?_
          exact zret_i X hP hS hf rfl dX12_curve_47
      · refine lv_iconst (v := (-1)) hx hb dX12_curve_35 (by decide) ?_
        exact zret_i X hP hS hf rfl dX12_curve_36
  · refine lv_bipush (v := (-5)) hx hb dX12_curve_8 (by decide) ?_
    exact zret_i X hP hS hf rfl dX12_curve_10
theorem dX12_conics_0 : decode cX12_conics 0 = .ok (.aload_n 0, 1) := by decide +kernel
theorem dX12_conics_1 : decode cX12_conics 1 = .ok (.iconst 2, 1) := by decide +kernel
theorem dX12_conics_2 : decode cX12_conics 2 = .ok (.iconst 5, 1) := by decide +kernel
theorem dX12_conics_3 : decode cX12_conics 3 = .ok (.invokevirtual 207, 3) := by decide +kernel
theorem dX12_conics_6 : decode cX12_conics 6 = .ok (.ireturn, 1) := by decide +kernel
set_option maxHeartbeats 4000000 in
set_option maxRecDepth 100000 in
theorem cn_X12_conics {l : Launch} {cA : Nat → ClassId} {ad : Nat → Nat} {D : va_G} {E : Nat → Nat} {A : Nat → Prop}  {s0 sr : SS} {rr : Int32} (hf : f_X12_conics s0 = some (rr, sr)) : zCon Om Nm cA ad D E l yX12_conics cX12_conics 1 (some .int) 6 A [.ref (ad 0)] s0 (some (.int rr)) sr := by
  refine zstart (own := RX12) hOm (by decide) rfl (Nat.le_of_ble_eq_true rfl) ?_
  intro p e s m args below meth c X hP ls hl
  have hx := X.1
  have hb := X.2.1
  have hl : lv_has ls 1 [(0, .ref (ad 0))] := hl
  have hS : va_S A s.heap s.heap [] := va_S.rf
  rw [f_X12_conics] at hf
  refine lv_aload_n hx hb dX12_conics_0 rfl (lv_at hl 0 rfl) ?_
  refine lv_iconst (v := 2) hx hb dX12_conics_1 (by decide) ?_
  refine lv_iconst (v := 5) hx hb dX12_conics_2 (by decide) ?_
  obtain ⟨r1, s2, h3, hf⟩ := zbd_some hf
  refine zcallV X hP hS hl.1 (k := 0) (As := [.int 2, .int 5]) (rest := []) (cn_X12_begin h3) cw_X12_begin zp_12 rfl (by decide) rfl ml_X12_207 (by decide) rfl rfl (Nat.le_of_ble_eq_true rfl) dX12_conics_3 (fun H locs hP hS => ?_)
  exact zret_i X hP hS hf rfl dX12_conics_6
theorem dX12_eulerOfSpace_0 : decode cX12_eulerOfSpace 0 = .ok (.aload_n 0, 1) := by decide +kernel
theorem dX12_eulerOfSpace_1 : decode cX12_eulerOfSpace 1 = .ok (.getfield 3, 3) := by decide +kernel
theorem dX12_eulerOfSpace_4 : decode cX12_eulerOfSpace 4 = .ok (.iconst 2, 1) := by decide +kernel
theorem dX12_eulerOfSpace_5 : decode cX12_eulerOfSpace 5 = .ok (.if_icmp .ne 6, 3) := by decide +kernel
theorem dX12_eulerOfSpace_8 : decode cX12_eulerOfSpace 8 = .ok (.bipush 12, 2) := by decide +kernel
theorem dX12_eulerOfSpace_10 : decode cX12_eulerOfSpace 10 = .ok (.ireturn, 1) := by decide +kernel
theorem dX12_eulerOfSpace_11 : decode cX12_eulerOfSpace 11 = .ok (.aload_n 0, 1) := by decide +kernel
theorem dX12_eulerOfSpace_12 : decode cX12_eulerOfSpace 12 = .ok (.getfield 3, 3) := by decide +kernel
theorem dX12_eulerOfSpace_15 : decode cX12_eulerOfSpace 15 = .ok (.ifCond .ne 7, 3) := by decide +kernel
theorem dX12_eulerOfSpace_18 : decode cX12_eulerOfSpace 18 = .ok (.iconst 1, 1) := by decide +kernel
theorem dX12_eulerOfSpace_19 : decode cX12_eulerOfSpace 19 = .ok (.goto 4, 3) := by decide +kernel
theorem dX12_eulerOfSpace_22 : decode cX12_eulerOfSpace 22 = .ok (.iconst 4, 1) := by decide +kernel
theorem dX12_eulerOfSpace_23 : decode cX12_eulerOfSpace 23 = .ok (.istore_n 1, 1) := by decide +kernel
theorem dX12_eulerOfSpace_24 : decode cX12_eulerOfSpace 24 = .ok (.aload_n 0, 1) := by decide +kernel
theorem dX12_eulerOfSpace_25 : decode cX12_eulerOfSpace 25 = .ok (.getfield 3, 3) := by decide +kernel
theorem dX12_eulerOfSpace_28 : decode cX12_eulerOfSpace 28 = .ok (.ifCond .ne 44, 3) := by decide +kernel
theorem dX12_eulerOfSpace_31 : decode cX12_eulerOfSpace 31 = .ok (.iconst 0, 1) := by decide +kernel
theorem dX12_eulerOfSpace_32 : decode cX12_eulerOfSpace 32 = .ok (.istore_n 2, 1) := by decide +kernel
theorem dX12_eulerOfSpace_33 : decode cX12_eulerOfSpace 33 = .ok (.iload_n 2, 1) := by decide +kernel
theorem dX12_eulerOfSpace_34 : decode cX12_eulerOfSpace 34 = .ok (.aload_n 0, 1) := by decide +kernel
theorem dX12_eulerOfSpace_35 : decode cX12_eulerOfSpace 35 = .ok (.getfield 9, 3) := by decide +kernel
theorem dX12_eulerOfSpace_38 : decode cX12_eulerOfSpace 38 = .ok (.if_icmp .ge 20, 3) := by decide +kernel
theorem dX12_eulerOfSpace_41 : decode cX12_eulerOfSpace 41 = .ok (.iload_n 1, 1) := by decide +kernel
theorem dX12_eulerOfSpace_42 : decode cX12_eulerOfSpace 42 = .ok (.aload_n 0, 1) := by decide +kernel
theorem dX12_eulerOfSpace_43 : decode cX12_eulerOfSpace 43 = .ok (.getfield 23, 3) := by decide +kernel
theorem dX12_eulerOfSpace_46 : decode cX12_eulerOfSpace 46 = .ok (.iload_n 2, 1) := by decide +kernel
theorem dX12_eulerOfSpace_47 : decode cX12_eulerOfSpace 47 = .ok (.iaload, 1) := by decide +kernel
theorem dX12_eulerOfSpace_48 : decode cX12_eulerOfSpace 48 = .ok (.iconst 1, 1) := by decide +kernel
theorem dX12_eulerOfSpace_49 : decode cX12_eulerOfSpace 49 = .ok (.iadd, 1) := by decide +kernel
theorem dX12_eulerOfSpace_50 : decode cX12_eulerOfSpace 50 = .ok (.imul, 1) := by decide +kernel
theorem dX12_eulerOfSpace_51 : decode cX12_eulerOfSpace 51 = .ok (.istore_n 1, 1) := by decide +kernel
theorem dX12_eulerOfSpace_52 : decode cX12_eulerOfSpace 52 = .ok (.iinc 2 1, 3) := by decide +kernel
theorem dX12_eulerOfSpace_55 : decode cX12_eulerOfSpace 55 = .ok (.goto (-22), 3) := by decide +kernel
theorem dX12_eulerOfSpace_58 : decode cX12_eulerOfSpace 58 = .ok (.iload_n 1, 1) := by decide +kernel
theorem dX12_eulerOfSpace_59 : decode cX12_eulerOfSpace 59 = .ok (.aload_n 0, 1) := by decide +kernel
theorem dX12_eulerOfSpace_60 : decode cX12_eulerOfSpace 60 = .ok (.getfield 12, 3) := by decide +kernel
theorem dX12_eulerOfSpace_63 : decode cX12_eulerOfSpace 63 = .ok (.aload_n 0, 1) := by decide +kernel
theorem dX12_eulerOfSpace_64 : decode cX12_eulerOfSpace 64 = .ok (.getfield 27, 3) := by decide +kernel
theorem dX12_eulerOfSpace_67 : decode cX12_eulerOfSpace 67 = .ok (.iconst 1, 1) := by decide +kernel
theorem dX12_eulerOfSpace_68 : decode cX12_eulerOfSpace 68 = .ok (.isub, 1) := by decide +kernel
theorem dX12_eulerOfSpace_69 : decode cX12_eulerOfSpace 69 = .ok (.imul, 1) := by decide +kernel
theorem dX12_eulerOfSpace_70 : decode cX12_eulerOfSpace 70 = .ok (.iadd, 1) := by decide +kernel
theorem dX12_eulerOfSpace_71 : decode cX12_eulerOfSpace 71 = .ok (.ireturn, 1) := by decide +kernel
theorem dX12_eulerOfSpace_72 : decode cX12_eulerOfSpace 72 = .ok (.iconst 0, 1) := by decide +kernel
theorem dX12_eulerOfSpace_73 : decode cX12_eulerOfSpace 73 = .ok (.istore_n 2, 1) := by decide +kernel
theorem dX12_eulerOfSpace_74 : decode cX12_eulerOfSpace 74 = .ok (.iload_n 2, 1) := by decide +kernel
theorem dX12_eulerOfSpace_75 : decode cX12_eulerOfSpace 75 = .ok (.aload_n 0, 1) := by decide +kernel
theorem dX12_eulerOfSpace_76 : decode cX12_eulerOfSpace 76 = .ok (.getfield 12, 3) := by decide +kernel
theorem dX12_eulerOfSpace_79 : decode cX12_eulerOfSpace 79 = .ok (.if_icmp .ge 22, 3) := by decide +kernel
theorem dX12_eulerOfSpace_82 : decode cX12_eulerOfSpace 82 = .ok (.iload_n 1, 1) := by decide +kernel
theorem dX12_eulerOfSpace_83 : decode cX12_eulerOfSpace 83 = .ok (.iconst 2, 1) := by decide +kernel
theorem dX12_eulerOfSpace_84 : decode cX12_eulerOfSpace 84 = .ok (.iconst 2, 1) := by decide +kernel
theorem dX12_eulerOfSpace_85 : decode cX12_eulerOfSpace 85 = .ok (.aload_n 0, 1) := by decide +kernel
theorem dX12_eulerOfSpace_86 : decode cX12_eulerOfSpace 86 = .ok (.getfield 37, 3) := by decide +kernel
theorem dX12_eulerOfSpace_89 : decode cX12_eulerOfSpace 89 = .ok (.iload_n 2, 1) := by decide +kernel
theorem dX12_eulerOfSpace_90 : decode cX12_eulerOfSpace 90 = .ok (.iaload, 1) := by decide +kernel
theorem dX12_eulerOfSpace_91 : decode cX12_eulerOfSpace 91 = .ok (.imul, 1) := by decide +kernel
theorem dX12_eulerOfSpace_92 : decode cX12_eulerOfSpace 92 = .ok (.isub, 1) := by decide +kernel
theorem dX12_eulerOfSpace_93 : decode cX12_eulerOfSpace 93 = .ok (.iadd, 1) := by decide +kernel
theorem dX12_eulerOfSpace_94 : decode cX12_eulerOfSpace 94 = .ok (.istore_n 1, 1) := by decide +kernel
theorem dX12_eulerOfSpace_95 : decode cX12_eulerOfSpace 95 = .ok (.iinc 2 1, 3) := by decide +kernel
theorem dX12_eulerOfSpace_98 : decode cX12_eulerOfSpace 98 = .ok (.goto (-24), 3) := by decide +kernel
theorem dX12_eulerOfSpace_101 : decode cX12_eulerOfSpace 101 = .ok (.iload_n 1, 1) := by decide +kernel
theorem dX12_eulerOfSpace_102 : decode cX12_eulerOfSpace 102 = .ok (.ireturn, 1) := by decide +kernel
set_option maxHeartbeats 4000000 in
set_option maxRecDepth 100000 in
theorem cn_X12_eulerOfSpace {l : Launch} {cA : Nat → ClassId} {ad : Nat → Nat} {D : va_G} {E : Nat → Nat} {A : Nat → Prop}  {s0 sr : SS} {rr : Int32} (hf : f_X12_eulerOfSpace s0 = some (rr, sr)) : zCon Om Nm cA ad D E l yX12_eulerOfSpace cX12_eulerOfSpace 3 (some .int) 0 A [.ref (ad 0)] s0 (some (.int rr)) sr := by
  refine zstart (own := RX12) hOm (by decide) rfl (Nat.le_of_ble_eq_true rfl) ?_
  intro p e s m args below meth c X hP ls hl
  have hx := X.1
  have hb := X.2.1
  have hl : lv_has ls 3 [(0, .ref (ad 0))] := hl
  have hS : va_S A s.heap s.heap [] := va_S.rf
  have hc_74 : ∀ (n74 : Nat) (x1 : Int32) (x2 : Int32) (s1 : SS) (H : Heap) (locs : List Loc) (ls : Array Slot), lv_has ls 3 [(0, .ref (ad 0)), (1, .int x1), (2, .int x2)] → va_P D ZCL (zw Om Nm cA ad s1) H → va_S A s.heap H locs → f_X12_eulerOfSpace_c74 n74 x1 x2 s1 = some (rr, sr) → W p l e (zrm 0) s m args below meth c H locs 0 0 (MQ below (zQc Om Nm cA ad D A (some (.int rr)) sr) args s 0 0 A) (F0 m 74 ls []) := by
    intro n74
    induction n74 with
    | zero =>
      intro x1 x2 s1 H locs ls hl hP hS hf
      rw [f_X12_eulerOfSpace_c74] at hf
      cases hf
    | succ n74 ih74 =>
      intro x1 x2 s1 H locs ls hl hP hS hf
      rw [f_X12_eulerOfSpace_c74] at hf
      refine lv_iload_n hx hb dX12_eulerOfSpace_74 rfl (lv_at hl 2 rfl) ?_
      refine lv_aload_n hx hb dX12_eulerOfSpace_75 rfl (lv_at hl 0 rfl) ?_
      refine gf_X12_12 X hP (k := 0) rfl dX12_eulerOfSpace_76 ?_
      refine zicmp_ge (tgt := 101) hx hb dX12_eulerOfSpace_79 (by decide) hf (fun hf => ?_) (fun hf => ?_)
      · refine lv_iload_n hx hb dX12_eulerOfSpace_101 rfl (lv_at hl 1 rfl) ?_
        exact zret_i X hP hS hf rfl dX12_eulerOfSpace_102
      · refine lv_iload_n hx hb dX12_eulerOfSpace_82 rfl (lv_at hl 1 rfl) ?_
        refine lv_iconst (v := 2) hx hb dX12_eulerOfSpace_83 (by decide) ?_
        refine lv_iconst (v := 2) hx hb dX12_eulerOfSpace_84 (by decide) ?_
        refine lv_aload_n hx hb dX12_eulerOfSpace_85 rfl (lv_at hl 0 rfl) ?_
        refine gf_X12_37 X hP (k := 0) (q := 3) rfl dX12_eulerOfSpace_86 rfl ?_
        refine lv_iload_n hx hb dX12_eulerOfSpace_89 rfl (lv_at hl 2 rfl) ?_
        obtain ⟨g1, hf⟩ := zgd hf
        refine zald_i X hP (k := 3) (n := 3) (rs := []) rfl g1 dX12_eulerOfSpace_90 ?_
        refine lv_imul hx hb dX12_eulerOfSpace_91 ?_
        refine lv_isub hx hb dX12_eulerOfSpace_92 ?_
        refine lv_iadd hx hb dX12_eulerOfSpace_93 ?_
        refine lv_istore_n (lv' := [(1, .int (x1 + ((2 : Int32) - ((2 : Int32) * (s1.1 3 (x2).toNatClampNeg))))), (0, .ref (ad 0)), (2, .int x2)]) hx hb dX12_eulerOfSpace_94 rfl hl (by decide) rfl (fun ls hl => ?_)
        refine lv_iinc (v := (x2 + 1)) (lv' := [(2, .int (x2 + 1)), (1, .int (x1 + ((2 : Int32) - ((2 : Int32) * (s1.1 3 (x2).toNatClampNeg))))), (0, .ref (ad 0))]) hx hb dX12_eulerOfSpace_95 hl (k := 2) rfl rfl (by decide) rfl (fun ls hl => ?_)
        refine lv_goto (tgt := 74) hx hb dX12_eulerOfSpace_98 (by decide) ?_
        exact ih74 (x1 + ((2 : Int32) - ((2 : Int32) * (s1.1 3 (x2).toNatClampNeg)))) (x2 + 1) s1 _ _ _ (lv_sub hl [2, 1, 0] rfl) hP hS hf
  have hc_33 : ∀ (n33 : Nat) (x1 : Int32) (x2 : Int32) (s1 : SS) (H : Heap) (locs : List Loc) (ls : Array Slot), lv_has ls 3 [(0, .ref (ad 0)), (1, .int x1), (2, .int x2)] → va_P D ZCL (zw Om Nm cA ad s1) H → va_S A s.heap H locs → f_X12_eulerOfSpace_c33 n33 x1 x2 s1 = some (rr, sr) → W p l e (zrm 0) s m args below meth c H locs 0 0 (MQ below (zQc Om Nm cA ad D A (some (.int rr)) sr) args s 0 0 A) (F0 m 33 ls []) := by
    intro n33
    induction n33 with
    | zero =>
      intro x1 x2 s1 H locs ls hl hP hS hf
      rw [f_X12_eulerOfSpace_c33] at hf
      cases hf
    | succ n33 ih33 =>
      intro x1 x2 s1 H locs ls hl hP hS hf
      rw [f_X12_eulerOfSpace_c33] at hf
      refine lv_iload_n hx hb dX12_eulerOfSpace_33 rfl (lv_at hl 2 rfl) ?_
      refine lv_aload_n hx hb dX12_eulerOfSpace_34 rfl (lv_at hl 0 rfl) ?_
      refine gf_X12_9 X hP (k := 0) rfl dX12_eulerOfSpace_35 ?_
      refine zicmp_ge (tgt := 58) hx hb dX12_eulerOfSpace_38 (by decide) hf (fun hf => ?_) (fun hf => ?_)
      · refine lv_iload_n hx hb dX12_eulerOfSpace_58 rfl (lv_at hl 1 rfl) ?_
        refine lv_aload_n hx hb dX12_eulerOfSpace_59 rfl (lv_at hl 0 rfl) ?_
        refine gf_X12_12 X hP (k := 0) rfl dX12_eulerOfSpace_60 ?_
        refine lv_aload_n hx hb dX12_eulerOfSpace_63 rfl (lv_at hl 0 rfl) ?_
        refine gf_X12_27 X hP (k := 0) rfl dX12_eulerOfSpace_64 ?_
        refine lv_iconst (v := 1) hx hb dX12_eulerOfSpace_67 (by decide) ?_
        refine lv_isub hx hb dX12_eulerOfSpace_68 ?_
        refine lv_imul hx hb dX12_eulerOfSpace_69 ?_
        refine lv_iadd hx hb dX12_eulerOfSpace_70 ?_
        exact zret_i X hP hS hf rfl dX12_eulerOfSpace_71
      · refine lv_iload_n hx hb dX12_eulerOfSpace_41 rfl (lv_at hl 1 rfl) ?_
        refine lv_aload_n hx hb dX12_eulerOfSpace_42 rfl (lv_at hl 0 rfl) ?_
        refine gf_X12_23 X hP (k := 0) (q := 1) rfl dX12_eulerOfSpace_43 rfl ?_
        refine lv_iload_n hx hb dX12_eulerOfSpace_46 rfl (lv_at hl 2 rfl) ?_
        obtain ⟨g2, hf⟩ := zgd hf
        refine zald_i X hP (k := 1) (n := 3) (rs := []) rfl g2 dX12_eulerOfSpace_47 ?_
        refine lv_iconst (v := 1) hx hb dX12_eulerOfSpace_48 (by decide) ?_
        refine lv_iadd hx hb dX12_eulerOfSpace_49 ?_
        refine lv_imul hx hb dX12_eulerOfSpace_50 ?_
        refine lv_istore_n (lv' := [(1, .int (x1 * ((s1.1 1 (x2).toNatClampNeg) + (1 : Int32)))), (0, .ref (ad 0)), (2, .int x2)]) hx hb dX12_eulerOfSpace_51 rfl hl (by decide) rfl (fun ls hl => ?_)
        refine lv_iinc (v := (x2 + 1)) (lv' := [(2, .int (x2 + 1)), (1, .int (x1 * ((s1.1 1 (x2).toNatClampNeg) + (1 : Int32)))), (0, .ref (ad 0))]) hx hb dX12_eulerOfSpace_52 hl (k := 2) rfl rfl (by decide) rfl (fun ls hl => ?_)
        refine lv_goto (tgt := 33) hx hb dX12_eulerOfSpace_55 (by decide) ?_
        exact ih33 (x1 * ((s1.1 1 (x2).toNatClampNeg) + (1 : Int32))) (x2 + 1) s1 _ _ _ (lv_sub hl [2, 1, 0] rfl) hP hS hf
  have hc_23 : ∀ (t0 : Int32) (s1 : SS) (H : Heap) (locs : List Loc) (ls : Array Slot), lv_has ls 3 [(0, .ref (ad 0))] → va_P D ZCL (zw Om Nm cA ad s1) H → va_S A s.heap H locs → f_X12_eulerOfSpace_c23 t0 s1 = some (rr, sr) → W p l e (zrm 0) s m args below meth c H locs 0 0 (MQ below (zQc Om Nm cA ad D A (some (.int rr)) sr) args s 0 0 A) (F0 m 23 ls [.int t0]) := by
    intro t0 s1 H locs ls hl hP hS hf
    rw [f_X12_eulerOfSpace_c23] at hf
    refine lv_istore_n (lv' := [(1, .int t0), (0, .ref (ad 0))]) hx hb dX12_eulerOfSpace_23 rfl hl (by decide) rfl (fun ls hl => ?_)
    refine lv_aload_n hx hb dX12_eulerOfSpace_24 rfl (lv_at hl 1 rfl) ?_
    refine gf_X12_3 X hP (k := 0) rfl dX12_eulerOfSpace_25 ?_
    refine zif_ne (tgt := 72) hx hb dX12_eulerOfSpace_28 (by decide) hf (fun hf => ?_) (fun hf => ?_)
    · refine lv_iconst (v := 0) hx hb dX12_eulerOfSpace_72 (by decide) ?_
      refine lv_istore_n (lv' := [(2, .int 0), (1, .int t0), (0, .ref (ad 0))]) hx hb dX12_eulerOfSpace_73 rfl hl (by decide) rfl (fun ls hl => ?_)
      exact hc_74 ZF t0 0 s1 _ _ _ (lv_sub hl [2, 1, 0] rfl) hP hS hf
    · refine lv_iconst (v := 0) hx hb dX12_eulerOfSpace_31 (by decide) ?_
      refine lv_istore_n (lv' := [(2, .int 0), (1, .int t0), (0, .ref (ad 0))]) hx hb dX12_eulerOfSpace_32 rfl hl (by decide) rfl (fun ls hl => ?_)
      exact hc_33 ZF t0 0 s1 _ _ _ (lv_sub hl [2, 1, 0] rfl) hP hS hf
  rw [f_X12_eulerOfSpace] at hf
  refine lv_aload_n hx hb dX12_eulerOfSpace_0 rfl (lv_at hl 0 rfl) ?_
  refine gf_X12_3 X hP (k := 0) rfl dX12_eulerOfSpace_1 ?_
  refine lv_iconst (v := 2) hx hb dX12_eulerOfSpace_4 (by decide) ?_
  refine zicmp_ne (tgt := 11) hx hb dX12_eulerOfSpace_5 (by decide) hf (fun hf => ?_) (fun hf => ?_)
  · refine lv_aload_n hx hb dX12_eulerOfSpace_11 rfl (lv_at hl 0 rfl) ?_
    refine gf_X12_3 X hP (k := 0) rfl dX12_eulerOfSpace_12 ?_
    refine zif_ne (tgt := 22) hx hb dX12_eulerOfSpace_15 (by decide) hf (fun hf => ?_) (fun hf => ?_)
    · refine lv_iconst (v := 4) hx hb dX12_eulerOfSpace_22 (by decide) ?_
      exact hc_23 4 s0 _ _ _ (lv_sub hl [0] rfl) hP hS hf
    · refine lv_iconst (v := 1) hx hb dX12_eulerOfSpace_18 (by decide) ?_
      refine lv_goto (tgt := 23) hx hb dX12_eulerOfSpace_19 (by decide) ?_
      exact hc_23 1 s0 _ _ _ (lv_sub hl [0] rfl) hP hS hf
  · refine lv_bipush (v := 12) hx hb dX12_eulerOfSpace_8 (by decide) ?_
    exact zret_i X hP hS hf rfl dX12_eulerOfSpace_10
theorem dX12_space_0 : decode cX12_space 0 = .ok (.iload_n 1, 1) := by decide +kernel
theorem dX12_space_1 : decode cX12_space 1 = .ok (.tableswitch 81 0 5 #[39, 44, 49, 54, 59, 76], 39) := by decide +kernel
theorem dX12_space_40 : decode cX12_space 40 = .ok (.aload_n 0, 1) := by decide +kernel
theorem dX12_space_41 : decode cX12_space 41 = .ok (.getfield 3, 3) := by decide +kernel
theorem dX12_space_44 : decode cX12_space 44 = .ok (.ireturn, 1) := by decide +kernel
theorem dX12_space_45 : decode cX12_space 45 = .ok (.aload_n 0, 1) := by decide +kernel
theorem dX12_space_46 : decode cX12_space 46 = .ok (.getfield 27, 3) := by decide +kernel
theorem dX12_space_49 : decode cX12_space 49 = .ok (.ireturn, 1) := by decide +kernel
theorem dX12_space_50 : decode cX12_space 50 = .ok (.aload_n 0, 1) := by decide +kernel
theorem dX12_space_51 : decode cX12_space 51 = .ok (.invokevirtual 68, 3) := by decide +kernel
theorem dX12_space_54 : decode cX12_space 54 = .ok (.ireturn, 1) := by decide +kernel
theorem dX12_space_55 : decode cX12_space 55 = .ok (.aload_n 0, 1) := by decide +kernel
theorem dX12_space_56 : decode cX12_space 56 = .ok (.invokevirtual 212, 3) := by decide +kernel
theorem dX12_space_59 : decode cX12_space 59 = .ok (.ireturn, 1) := by decide +kernel
theorem dX12_space_60 : decode cX12_space 60 = .ok (.aload_n 0, 1) := by decide +kernel
theorem dX12_space_61 : decode cX12_space 61 = .ok (.getfield 3, 3) := by decide +kernel
theorem dX12_space_64 : decode cX12_space 64 = .ok (.iconst 2, 1) := by decide +kernel
theorem dX12_space_65 : decode cX12_space 65 = .ok (.if_icmp .ne 7, 3) := by decide +kernel
theorem dX12_space_68 : decode cX12_space 68 = .ok (.iconst 0, 1) := by decide +kernel
theorem dX12_space_69 : decode cX12_space 69 = .ok (.goto 7, 3) := by decide +kernel
theorem dX12_space_72 : decode cX12_space 72 = .ok (.aload_n 0, 1) := by decide +kernel
theorem dX12_space_73 : decode cX12_space 73 = .ok (.getfield 12, 3) := by decide +kernel
theorem dX12_space_76 : decode cX12_space 76 = .ok (.ireturn, 1) := by decide +kernel
theorem dX12_space_77 : decode cX12_space 77 = .ok (.aload_n 0, 1) := by decide +kernel
theorem dX12_space_78 : decode cX12_space 78 = .ok (.getfield 56, 3) := by decide +kernel
theorem dX12_space_81 : decode cX12_space 81 = .ok (.ireturn, 1) := by decide +kernel
theorem dX12_space_82 : decode cX12_space 82 = .ok (.iconst (-1), 1) := by decide +kernel
theorem dX12_space_83 : decode cX12_space 83 = .ok (.ireturn, 1) := by decide +kernel
set_option maxHeartbeats 4000000 in
set_option maxRecDepth 100000 in
theorem cn_X12_space {l : Launch} {cA : Nat → ClassId} {ad : Nat → Nat} {D : va_G} {E : Nat → Nat} {A : Nat → Prop} {x1 : Int32} {s0 sr : SS} {rr : Int32} (hf : f_X12_space x1 s0 = some (rr, sr)) : zCon Om Nm cA ad D E l yX12_space cX12_space 2 (some .int) 1 A [.ref (ad 0), .int x1] s0 (some (.int rr)) sr := by
  refine zstart (own := RX12) hOm (by decide) rfl (Nat.le_of_ble_eq_true rfl) ?_
  intro p e s m args below meth c X hP ls hl
  have hx := X.1
  have hb := X.2.1
  have hl : lv_has ls 2 [(0, .ref (ad 0)), (1, .int x1)] := hl
  have hS : va_S A s.heap s.heap [] := va_S.rf
  rw [f_X12_space] at hf
  refine lv_iload_n hx hb dX12_space_0 rfl (lv_at hl 1 rfl) ?_
  by_cases e1 : x1 = 0
  · rw [if_pos e1] at hf
    refine lv_tableIn (tgt := 40) (off := 39) hx hb dX12_space_1 (by rw [e1]; decide) (by rw [e1]; decide) (by rw [e1]; decide +kernel) (by decide) ?_
    refine lv_aload_n hx hb dX12_space_40 rfl (lv_at hl 0 rfl) ?_
    refine gf_X12_3 X hP (k := 0) rfl dX12_space_41 ?_
    exact zret_i X hP hS hf rfl dX12_space_44
  · rw [if_neg e1] at hf
    by_cases e2 : x1 = 1
    · rw [if_pos e2] at hf
      refine lv_tableIn (tgt := 45) (off := 44) hx hb dX12_space_1 (by rw [e2]; decide) (by rw [e2]; decide) (by rw [e2]; decide +kernel) (by decide) ?_
      refine lv_aload_n hx hb dX12_space_45 rfl (lv_at hl 0 rfl) ?_
      refine gf_X12_27 X hP (k := 0) rfl dX12_space_46 ?_
      exact zret_i X hP hS hf rfl dX12_space_49
    · rw [if_neg e2] at hf
      by_cases e3 : x1 = 2
      · rw [if_pos e3] at hf
        refine lv_tableIn (tgt := 50) (off := 49) hx hb dX12_space_1 (by rw [e3]; decide) (by rw [e3]; decide) (by rw [e3]; decide +kernel) (by decide) ?_
        refine lv_aload_n hx hb dX12_space_50 rfl (lv_at hl 0 rfl) ?_
        obtain ⟨r4, s5, h6, hf⟩ := zbd_some hf
        refine zcallV X hP hS hl.1 (k := 0) (As := []) (rest := []) (cn_X12_letters h6) cw_X12_letters zp_12 rfl (by decide) rfl ml_X12_68 (by decide) rfl rfl (Nat.le_of_ble_eq_true rfl) dX12_space_51 (fun H locs hP hS => ?_)
        exact zret_i X hP hS hf rfl dX12_space_54
      · rw [if_neg e3] at hf
        by_cases e7 : x1 = 3
        · rw [if_pos e7] at hf
          refine lv_tableIn (tgt := 55) (off := 54) hx hb dX12_space_1 (by rw [e7]; decide) (by rw [e7]; decide) (by rw [e7]; decide +kernel) (by decide) ?_
          refine lv_aload_n hx hb dX12_space_55 rfl (lv_at hl 0 rfl) ?_
          obtain ⟨r8, s9, h10, hf⟩ := zbd_some hf
          refine zcallV X hP hS hl.1 (k := 0) (As := []) (rest := []) (cn_X12_eulerOfSpace h10) cw_X12_eulerOfSpace zp_12 rfl (by decide) rfl ml_X12_212 (by decide) rfl rfl (Nat.le_of_ble_eq_true rfl) dX12_space_56 (fun H locs hP hS => ?_)
          exact zret_i X hP hS hf rfl dX12_space_59
        · rw [if_neg e7] at hf
          by_cases e11 : x1 = 4
          · rw [if_pos e11] at hf
            refine lv_tableIn (tgt := 60) (off := 59) hx hb dX12_space_1 (by rw [e11]; decide) (by rw [e11]; decide) (by rw [e11]; decide +kernel) (by decide) ?_
            refine lv_aload_n hx hb dX12_space_60 rfl (lv_at hl 0 rfl) ?_
            refine gf_X12_3 X hP (k := 0) rfl dX12_space_61 ?_
            refine lv_iconst (v := 2) hx hb dX12_space_64 (by decide) ?_
            refine zicmp_ne (tgt := 72) hx hb dX12_space_65 (by decide) hf (fun hf => ?_) (fun hf => ?_)
            · refine lv_aload_n hx hb dX12_space_72 rfl (lv_at hl 0 rfl) ?_
              refine gf_X12_12 X hP (k := 0) rfl dX12_space_73 ?_
              exact zret_i X hP hS hf rfl dX12_space_76
            · refine lv_iconst (v := 0) hx hb dX12_space_68 (by decide) ?_
              refine lv_goto (tgt := 76) hx hb dX12_space_69 (by decide) ?_
              exact zret_i X hP hS hf rfl dX12_space_76
          · rw [if_neg e11] at hf
            by_cases e12 : x1 = 5
            · rw [if_pos e12] at hf
              refine lv_tableIn (tgt := 77) (off := 76) hx hb dX12_space_1 (by rw [e12]; decide) (by rw [e12]; decide) (by rw [e12]; decide +kernel) (by decide) ?_
              refine lv_aload_n hx hb dX12_space_77 rfl (lv_at hl 0 rfl) ?_
              refine gf_X12_56 X hP (k := 0) rfl dX12_space_78 ?_
              exact zret_i X hP hS hf rfl dX12_space_81
            · rw [if_neg e12] at hf
              have ye1 := zne e1 (v := 0) (by decide)
              have ye2 := zne e2 (v := 1) (by decide)
              have ye3 := zne e3 (v := 2) (by decide)
              have ye7 := zne e7 (v := 3) (by decide)
              have ye11 := zne e11 (v := 4) (by decide)
              have ye12 := zne e12 (v := 5) (by decide)
              refine lv_tableOut (tgt := 82) hx hb dX12_space_1 (by omega) (by decide) ?_
              refine lv_iconst (v := (-1)) hx hb dX12_space_82 (by decide) ?_
              exact zret_i X hP hS hf rfl dX12_space_83
theorem dX12_termOf_0 : decode cX12_termOf 0 = .ok (.iload_n 1, 1) := by decide +kernel
theorem dX12_termOf_1 : decode cX12_termOf 1 = .ok (.i2l, 1) := by decide +kernel
theorem dX12_termOf_2 : decode cX12_termOf 2 = .ok (.lconst 0, 1) := by decide +kernel
theorem dX12_termOf_3 : decode cX12_termOf 3 = .ok (.ldc2_w 215, 3) := by decide +kernel
theorem dX12_termOf_6 : decode cX12_termOf 6 = .ok (.invokestatic 203, 3) := by decide +kernel
theorem dX12_termOf_9 : decode cX12_termOf 9 = .ok (.ifCond .eq 12, 3) := by decide +kernel
theorem dX12_termOf_12 : decode cX12_termOf 12 = .ok (.aload_n 0, 1) := by decide +kernel
theorem dX12_termOf_13 : decode cX12_termOf 13 = .ok (.getfield 65, 3) := by decide +kernel
theorem dX12_termOf_16 : decode cX12_termOf 16 = .ok (.iload_n 1, 1) := by decide +kernel
theorem dX12_termOf_17 : decode cX12_termOf 17 = .ok (.iaload, 1) := by decide +kernel
theorem dX12_termOf_18 : decode cX12_termOf 18 = .ok (.goto 4, 3) := by decide +kernel
theorem dX12_termOf_21 : decode cX12_termOf 21 = .ok (.iconst (-1), 1) := by decide +kernel
theorem dX12_termOf_22 : decode cX12_termOf 22 = .ok (.ireturn, 1) := by decide +kernel
set_option maxHeartbeats 4000000 in
set_option maxRecDepth 100000 in
theorem cn_X12_termOf {l : Launch} {cA : Nat → ClassId} {ad : Nat → Nat} {D : va_G} {E : Nat → Nat} {A : Nat → Prop} {x1 : Int32} {s0 sr : SS} {rr : Int32} (hf : f_X12_termOf x1 s0 = some (rr, sr)) : zCon Om Nm cA ad D E l yX12_termOf cX12_termOf 2 (some .int) 1 A [.ref (ad 0), .int x1] s0 (some (.int rr)) sr := by
  refine zstart (own := RX12) hOm (by decide) rfl (Nat.le_of_ble_eq_true rfl) ?_
  intro p e s m args below meth c X hP ls hl
  have hx := X.1
  have hb := X.2.1
  have hl : lv_has ls 2 [(0, .ref (ad 0)), (1, .int x1)] := hl
  have hS : va_S A s.heap s.heap [] := va_S.rf
  rw [f_X12_termOf] at hf
  refine lv_iload_n hx hb dX12_termOf_0 rfl (lv_at hl 1 rfl) ?_
  refine lv_i2l hx hb dX12_termOf_1 rfl ?_
  refine lv_lconst (v := 0) hx hb dX12_termOf_2 (by decide) ?_
  refine zldc2 X co_X12_215 dX12_termOf_3 ?_
  obtain ⟨r1, s2, h3, hf⟩ := zbd_some hf
  refine zcallS X hP hS hl.1 (As := [.long (x1).toInt64, .long 0, .long 599999]) (rest := []) (cn_X12_in h3) cw_X12_in ml_X12_203 (by decide) rfl rfl (Nat.le_of_ble_eq_true rfl) dX12_termOf_6 (fun H locs hP hS => ?_)
  refine zif_eq (tgt := 21) hx hb dX12_termOf_9 (by decide) hf (fun hf => ?_) (fun hf => ?_)
  · refine lv_iconst (v := (-1)) hx hb dX12_termOf_21 (by decide) ?_
    exact zret_i X hP hS hf rfl dX12_termOf_22
  · refine lv_aload_n hx hb dX12_termOf_12 rfl (lv_at hl 0 rfl) ?_
    refine gf_X12_65 X hP (k := 0) (q := 7) rfl dX12_termOf_13 rfl ?_
    refine lv_iload_n hx hb dX12_termOf_16 rfl (lv_at hl 1 rfl) ?_
    obtain ⟨g4, hf⟩ := zgd hf
    refine zald_i X hP (k := 7) (n := 600000) (rs := []) rfl g4 dX12_termOf_17 ?_
    refine lv_goto (tgt := 22) hx hb dX12_termOf_18 (by decide) ?_
    exact zret_i X hP hS hf rfl dX12_termOf_22
theorem dX12_worth_0 : decode cX12_worth 0 = .ok (.aload_n 0, 1) := by decide +kernel
theorem dX12_worth_1 : decode cX12_worth 1 = .ok (.iload_n 1, 1) := by decide +kernel
theorem dX12_worth_2 : decode cX12_worth 2 = .ok (.invokevirtual 217, 3) := by decide +kernel
theorem dX12_worth_5 : decode cX12_worth 5 = .ok (.ifCond .ge 9, 3) := by decide +kernel
theorem dX12_worth_8 : decode cX12_worth 8 = .ok (.ldc2_w 220, 3) := by decide +kernel
theorem dX12_worth_11 : decode cX12_worth 11 = .ok (.goto 13, 3) := by decide +kernel
theorem dX12_worth_14 : decode cX12_worth 14 = .ok (.aload_n 0, 1) := by decide +kernel
theorem dX12_worth_15 : decode cX12_worth 15 = .ok (.getfield 78, 3) := by decide +kernel
theorem dX12_worth_18 : decode cX12_worth 18 = .ok (.aload_n 0, 1) := by decide +kernel
theorem dX12_worth_19 : decode cX12_worth 19 = .ok (.iload_n 1, 1) := by decide +kernel
theorem dX12_worth_20 : decode cX12_worth 20 = .ok (.invokevirtual 217, 3) := by decide +kernel
theorem dX12_worth_23 : decode cX12_worth 23 = .ok (.laload, 1) := by decide +kernel
theorem dX12_worth_24 : decode cX12_worth 24 = .ok (.lreturn, 1) := by decide +kernel
set_option maxHeartbeats 4000000 in
set_option maxRecDepth 100000 in
theorem cn_X12_worth {l : Launch} {cA : Nat → ClassId} {ad : Nat → Nat} {D : va_G} {E : Nat → Nat} {A : Nat → Prop} {x1 : Int32} {s0 sr : SS} {rr : Int64} (hf : f_X12_worth x1 s0 = some (rr, sr)) : zCon Om Nm cA ad D E l yX12_worth cX12_worth 2 (some .long) 2 A [.ref (ad 0), .int x1] s0 (some (.long rr)) sr := by
  refine zstart (own := RX12) hOm (by decide) rfl (Nat.le_of_ble_eq_true rfl) ?_
  intro p e s m args below meth c X hP ls hl
  have hx := X.1
  have hb := X.2.1
  have hl : lv_has ls 2 [(0, .ref (ad 0)), (1, .int x1)] := hl
  have hS : va_S A s.heap s.heap [] := va_S.rf
  rw [f_X12_worth] at hf
  refine lv_aload_n hx hb dX12_worth_0 rfl (lv_at hl 0 rfl) ?_
  refine lv_iload_n hx hb dX12_worth_1 rfl (lv_at hl 1 rfl) ?_
  obtain ⟨r1, s2, h3, hf⟩ := zbd_some hf
  refine zcallV X hP hS hl.1 (k := 0) (As := [.int x1]) (rest := []) (cn_X12_termOf h3) cw_X12_termOf zp_12 rfl (by decide) rfl ml_X12_217 (by decide) rfl rfl (Nat.le_of_ble_eq_true rfl) dX12_worth_2 (fun H locs hP hS => ?_)
  refine zif_ge (tgt := 14) hx hb dX12_worth_5 (by decide) hf (fun hf => ?_) (fun hf => ?_)
  · refine lv_aload_n hx hb dX12_worth_14 rfl (lv_at hl 0 rfl) ?_
    refine gf_X12_78 X hP (k := 0) (q := 6) rfl dX12_worth_15 rfl ?_
    refine lv_aload_n hx hb dX12_worth_18 rfl (lv_at hl 0 rfl) ?_
    refine lv_iload_n hx hb dX12_worth_19 rfl (lv_at hl 1 rfl) ?_
    obtain ⟨r4, s5, h6, hf⟩ := zbd_some hf
    refine zcallV X hP hS hl.1 (k := 0) (As := [.int x1]) (rest := [.ref (ad 6)]) (cn_X12_termOf h6) cw_X12_termOf zp_12 rfl (by decide) rfl ml_X12_217 (by decide) rfl rfl (Nat.le_of_ble_eq_true rfl) dX12_worth_20 (fun H locs hP hS => ?_)
    obtain ⟨g7, hf⟩ := zgd hf
    refine zald_l X hP (k := 6) (n := 462) (rs := []) rfl g7 dX12_worth_23 ?_
    exact zret_l X hP hS hf dX12_worth_24
  · refine zldc2 X co_X12_220 dX12_worth_8 ?_
    refine lv_goto (tgt := 24) hx hb dX12_worth_11 (by decide) ?_
    exact zret_l X hP hS hf dX12_worth_24
theorem dX12_term_0 : decode cX12_term 0 = .ok (.iload_n 1, 1) := by decide +kernel
theorem dX12_term_1 : decode cX12_term 1 = .ok (.ifCond .ge 7, 3) := by decide +kernel
theorem dX12_term_4 : decode cX12_term 4 = .ok (.iconst (-1), 1) := by decide +kernel
theorem dX12_term_5 : decode cX12_term 5 = .ok (.goto 22, 3) := by decide +kernel
theorem dX12_term_8 : decode cX12_term 8 = .ok (.iload_n 1, 1) := by decide +kernel
theorem dX12_term_9 : decode cX12_term 9 = .ok (.aload_n 0, 1) := by decide +kernel
theorem dX12_term_10 : decode cX12_term 10 = .ok (.getfield 56, 3) := by decide +kernel
theorem dX12_term_13 : decode cX12_term 13 = .ok (.if_icmp .ge 12, 3) := by decide +kernel
theorem dX12_term_16 : decode cX12_term 16 = .ok (.aload_n 0, 1) := by decide +kernel
theorem dX12_term_17 : decode cX12_term 17 = .ok (.getfield 62, 3) := by decide +kernel
theorem dX12_term_20 : decode cX12_term 20 = .ok (.iload_n 1, 1) := by decide +kernel
theorem dX12_term_21 : decode cX12_term 21 = .ok (.iaload, 1) := by decide +kernel
theorem dX12_term_22 : decode cX12_term 22 = .ok (.goto 5, 3) := by decide +kernel
theorem dX12_term_25 : decode cX12_term 25 = .ok (.bipush (-2), 2) := by decide +kernel
theorem dX12_term_27 : decode cX12_term 27 = .ok (.ireturn, 1) := by decide +kernel
set_option maxHeartbeats 4000000 in
set_option maxRecDepth 100000 in
theorem cn_X12_term {l : Launch} {cA : Nat → ClassId} {ad : Nat → Nat} {D : va_G} {E : Nat → Nat} {A : Nat → Prop} {x1 : Int32} {s0 sr : SS} {rr : Int32} (hf : f_X12_term x1 s0 = some (rr, sr)) : zCon Om Nm cA ad D E l yX12_term cX12_term 2 (some .int) 0 A [.ref (ad 0), .int x1] s0 (some (.int rr)) sr := by
  refine zstart (own := RX12) hOm (by decide) rfl (Nat.le_of_ble_eq_true rfl) ?_
  intro p e s m args below meth c X hP ls hl
  have hx := X.1
  have hb := X.2.1
  have hl : lv_has ls 2 [(0, .ref (ad 0)), (1, .int x1)] := hl
  have hS : va_S A s.heap s.heap [] := va_S.rf
  rw [f_X12_term] at hf
  refine lv_iload_n hx hb dX12_term_0 rfl (lv_at hl 1 rfl) ?_
  refine zif_ge (tgt := 8) hx hb dX12_term_1 (by decide) hf (fun hf => ?_) (fun hf => ?_)
  · refine lv_iload_n hx hb dX12_term_8 rfl (lv_at hl 1 rfl) ?_
    refine lv_aload_n hx hb dX12_term_9 rfl (lv_at hl 0 rfl) ?_
    refine gf_X12_56 X hP (k := 0) rfl dX12_term_10 ?_
    refine zicmp_ge (tgt := 25) hx hb dX12_term_13 (by decide) hf (fun hf => ?_) (fun hf => ?_)
    · refine lv_bipush (v := (-2)) hx hb dX12_term_25 (by decide) ?_
      exact zret_i X hP hS hf rfl dX12_term_27
    · refine lv_aload_n hx hb dX12_term_16 rfl (lv_at hl 0 rfl) ?_
      refine gf_X12_62 X hP (k := 0) (q := 4) rfl dX12_term_17 rfl ?_
      refine lv_iload_n hx hb dX12_term_20 rfl (lv_at hl 1 rfl) ?_
      obtain ⟨g1, hf⟩ := zgd hf
      refine zald_i X hP (k := 4) (n := 462) (rs := []) rfl g1 dX12_term_21 ?_
      refine lv_goto (tgt := 27) hx hb dX12_term_22 (by decide) ?_
      exact zret_i X hP hS hf rfl dX12_term_27
  · refine lv_iconst (v := (-1)) hx hb dX12_term_4 (by decide) ?_
    refine lv_goto (tgt := 27) hx hb dX12_term_5 (by decide) ?_
    exact zret_i X hP hS hf rfl dX12_term_27
theorem dX12_isClass_0 : decode cX12_isClass 0 = .ok (.lload_n 1, 1) := by decide +kernel
theorem dX12_isClass_1 : decode cX12_isClass 1 = .ok (.lconst 0, 1) := by decide +kernel
theorem dX12_isClass_2 : decode cX12_isClass 2 = .ok (.aload_n 0, 1) := by decide +kernel
theorem dX12_isClass_3 : decode cX12_isClass 3 = .ok (.getfield 89, 3) := by decide +kernel
theorem dX12_isClass_6 : decode cX12_isClass 6 = .ok (.iconst 1, 1) := by decide +kernel
theorem dX12_isClass_7 : decode cX12_isClass 7 = .ok (.isub, 1) := by decide +kernel
theorem dX12_isClass_8 : decode cX12_isClass 8 = .ok (.i2l, 1) := by decide +kernel
theorem dX12_isClass_9 : decode cX12_isClass 9 = .ok (.invokestatic 203, 3) := by decide +kernel
theorem dX12_isClass_12 : decode cX12_isClass 12 = .ok (.ireturn, 1) := by decide +kernel
set_option maxHeartbeats 4000000 in
set_option maxRecDepth 100000 in
theorem cn_X12_isClass {l : Launch} {cA : Nat → ClassId} {ad : Nat → Nat} {D : va_G} {E : Nat → Nat} {A : Nat → Prop} {x1 : Int64} {s0 sr : SS} {rr : Int32} (hf : f_X12_isClass x1 s0 = some (rr, sr)) : zCon Om Nm cA ad D E l yX12_isClass cX12_isClass 3 (some .boolean) 1 A [.ref (ad 0), .long x1] s0 (some (.int rr)) sr := by
  refine zstart (own := RX12) hOm (by decide) rfl (Nat.le_of_ble_eq_true rfl) ?_
  intro p e s m args below meth c X hP ls hl
  have hx := X.1
  have hb := X.2.1
  have hl : lv_has ls 3 [(0, .ref (ad 0)), (1, .long x1)] := hl
  have hS : va_S A s.heap s.heap [] := va_S.rf
  rw [f_X12_isClass] at hf
  refine lv_lload_n hx hb dX12_isClass_0 rfl (lv_at hl 1 rfl) ?_
  refine lv_lconst (v := 0) hx hb dX12_isClass_1 (by decide) ?_
  refine lv_aload_n hx hb dX12_isClass_2 rfl (lv_at hl 0 rfl) ?_
  refine gf_X12_89 X hP (k := 0) rfl dX12_isClass_3 ?_
  refine lv_iconst (v := 1) hx hb dX12_isClass_6 (by decide) ?_
  refine lv_isub hx hb dX12_isClass_7 ?_
  refine lv_i2l hx hb dX12_isClass_8 rfl ?_
  obtain ⟨r1, s2, h3, hf⟩ := zbd_some hf
  refine zcallS X hP hS hl.1 (As := [.long x1, .long 0, .long (((s0.1 0 12) - (1 : Int32))).toInt64]) (rest := []) (cn_X12_in h3) cw_X12_in ml_X12_203 (by decide) rfl rfl (Nat.le_of_ble_eq_true rfl) dX12_isClass_9 (fun H locs hP hS => ?_)
  obtain ⟨b4, hf⟩ := zgd hf
  exact zret_i X hP hS hf (znar_of (by decide) b4) dX12_isClass_12
theorem dX12_isPlain_0 : decode cX12_isPlain 0 = .ok (.iconst 0, 1) := by decide +kernel
theorem dX12_isPlain_1 : decode cX12_isPlain 1 = .ok (.istore_n 2, 1) := by decide +kernel
theorem dX12_isPlain_2 : decode cX12_isPlain 2 = .ok (.iload_n 2, 1) := by decide +kernel
theorem dX12_isPlain_3 : decode cX12_isPlain 3 = .ok (.aload_n 0, 1) := by decide +kernel
theorem dX12_isPlain_4 : decode cX12_isPlain 4 = .ok (.invokevirtual 68, 3) := by decide +kernel
theorem dX12_isPlain_7 : decode cX12_isPlain 7 = .ok (.if_icmp .ge 37, 3) := by decide +kernel
theorem dX12_isPlain_10 : decode cX12_isPlain 10 = .ok (.iload_n 1, 1) := by decide +kernel
theorem dX12_isPlain_11 : decode cX12_isPlain 11 = .ok (.iload_n 2, 1) := by decide +kernel
theorem dX12_isPlain_12 : decode cX12_isPlain 12 = .ok (.invokestatic 19, 3) := by decide +kernel
theorem dX12_isPlain_15 : decode cX12_isPlain 15 = .ok (.ifCond .le 23, 3) := by decide +kernel
theorem dX12_isPlain_18 : decode cX12_isPlain 18 = .ok (.aload_n 0, 1) := by decide +kernel
theorem dX12_isPlain_19 : decode cX12_isPlain 19 = .ok (.iload_n 2, 1) := by decide +kernel
theorem dX12_isPlain_20 : decode cX12_isPlain 20 = .ok (.invokevirtual 222, 3) := by decide +kernel
theorem dX12_isPlain_23 : decode cX12_isPlain 23 = .ok (.i2l, 1) := by decide +kernel
theorem dX12_isPlain_24 : decode cX12_isPlain 24 = .ok (.ldc2_w 225, 3) := by decide +kernel
theorem dX12_isPlain_27 : decode cX12_isPlain 27 = .ok (.ldc2_w 227, 3) := by decide +kernel
theorem dX12_isPlain_30 : decode cX12_isPlain 30 = .ok (.invokestatic 203, 3) := by decide +kernel
theorem dX12_isPlain_33 : decode cX12_isPlain 33 = .ok (.ifCond .ne 5, 3) := by decide +kernel
theorem dX12_isPlain_36 : decode cX12_isPlain 36 = .ok (.iconst 0, 1) := by decide +kernel
theorem dX12_isPlain_37 : decode cX12_isPlain 37 = .ok (.ireturn, 1) := by decide +kernel
theorem dX12_isPlain_38 : decode cX12_isPlain 38 = .ok (.iinc 2 1, 3) := by decide +kernel
theorem dX12_isPlain_41 : decode cX12_isPlain 41 = .ok (.goto (-39), 3) := by decide +kernel
theorem dX12_isPlain_44 : decode cX12_isPlain 44 = .ok (.iconst 1, 1) := by decide +kernel
theorem dX12_isPlain_45 : decode cX12_isPlain 45 = .ok (.ireturn, 1) := by decide +kernel
set_option maxHeartbeats 4000000 in
set_option maxRecDepth 100000 in
theorem cn_X12_isPlain {l : Launch} {cA : Nat → ClassId} {ad : Nat → Nat} {D : va_G} {E : Nat → Nat} {A : Nat → Prop} {x1 : Int32} {s0 sr : SS} {rr : Int32} (hf : f_X12_isPlain x1 s0 = some (rr, sr)) : zCon Om Nm cA ad D E l yX12_isPlain cX12_isPlain 3 (some .boolean) 2 A [.ref (ad 0), .int x1] s0 (some (.int rr)) sr := by
  refine zstart (own := RX12) hOm (by decide) rfl (Nat.le_of_ble_eq_true rfl) ?_
  intro p e s m args below meth c X hP ls hl
  have hx := X.1
  have hb := X.2.1
  have hl : lv_has ls 3 [(0, .ref (ad 0)), (1, .int x1)] := hl
  have hS : va_S A s.heap s.heap [] := va_S.rf
  have hc_2 : ∀ (n2 : Nat) (x1 : Int32) (x2 : Int32) (s1 : SS) (H : Heap) (locs : List Loc) (ls : Array Slot), lv_has ls 3 [(0, .ref (ad 0)), (1, .int x1), (2, .int x2)] → va_P D ZCL (zw Om Nm cA ad s1) H → va_S A s.heap H locs → f_X12_isPlain_c2 n2 x1 x2 s1 = some (rr, sr) → W p l e (zrm 2) s m args below meth c H locs 0 0 (MQ below (zQc Om Nm cA ad D A (some (.int rr)) sr) args s 0 0 A) (F0 m 2 ls []) := by
    intro n2
    induction n2 with
    | zero =>
      intro x1 x2 s1 H locs ls hl hP hS hf
      rw [f_X12_isPlain_c2] at hf
      cases hf
    | succ n2 ih2 =>
      have hc_38 : ∀ (x1 : Int32) (x2 : Int32) (s1 : SS) (H : Heap) (locs : List Loc) (ls : Array Slot), lv_has ls 3 [(0, .ref (ad 0)), (1, .int x1), (2, .int x2)] → va_P D ZCL (zw Om Nm cA ad s1) H → va_S A s.heap H locs → f_X12_isPlain_c38 (f_X12_isPlain_c2 n2) x1 x2 s1 = some (rr, sr) → W p l e (zrm 2) s m args below meth c H locs 0 0 (MQ below (zQc Om Nm cA ad D A (some (.int rr)) sr) args s 0 0 A) (F0 m 38 ls []) := by
        intro x1 x2 s1 H locs ls hl hP hS hf
        rw [f_X12_isPlain_c38] at hf
        refine lv_iinc (v := (x2 + 1)) (lv' := [(2, .int (x2 + 1)), (0, .ref (ad 0)), (1, .int x1)]) hx hb dX12_isPlain_38 hl (k := 2) rfl rfl (by decide) rfl (fun ls hl => ?_)
        refine lv_goto (tgt := 2) hx hb dX12_isPlain_41 (by decide) ?_
        exact ih2 x1 (x2 + 1) s1 _ _ _ (lv_sub hl [1, 2, 0] rfl) hP hS hf
      intro x1 x2 s1 H locs ls hl hP hS hf
      rw [f_X12_isPlain_c2] at hf
      refine lv_iload_n hx hb dX12_isPlain_2 rfl (lv_at hl 2 rfl) ?_
      refine lv_aload_n hx hb dX12_isPlain_3 rfl (lv_at hl 0 rfl) ?_
      obtain ⟨r1, s2, h3, hf⟩ := zbd_some hf
      refine zcallV X hP hS hl.1 (k := 0) (As := []) (rest := [.int x2]) (cn_X12_letters h3) cw_X12_letters zp_12 rfl (by decide) rfl ml_X12_68 (by decide) rfl rfl (Nat.le_of_ble_eq_true rfl) dX12_isPlain_4 (fun H locs hP hS => ?_)
      refine zicmp_ge (tgt := 44) hx hb dX12_isPlain_7 (by decide) hf (fun hf => ?_) (fun hf => ?_)
      · refine lv_iconst (v := 1) hx hb dX12_isPlain_44 (by decide) ?_
        exact zret_i X hP hS hf rfl dX12_isPlain_45
      · refine lv_iload_n hx hb dX12_isPlain_10 rfl (lv_at hl 1 rfl) ?_
        refine lv_iload_n hx hb dX12_isPlain_11 rfl (lv_at hl 2 rfl) ?_
        obtain ⟨r4, s5, h6, hf⟩ := zbd_some hf
        refine zcallS X hP hS hl.1 (As := [.int x1, .int x2]) (rest := []) (cn_X12_powerIn h6) cw_X12_powerIn ml_X12_19 (by decide) rfl rfl (Nat.le_of_ble_eq_true rfl) dX12_isPlain_12 (fun H locs hP hS => ?_)
        refine zif_le (tgt := 38) hx hb dX12_isPlain_15 (by decide) hf (fun hf => ?_) (fun hf => ?_)
        · exact hc_38 x1 x2 s5 _ _ _ (lv_sub hl [0, 1, 2] rfl) hP hS hf
        · refine lv_aload_n hx hb dX12_isPlain_18 rfl (lv_at hl 0 rfl) ?_
          refine lv_iload_n hx hb dX12_isPlain_19 rfl (lv_at hl 2 rfl) ?_
          obtain ⟨r7, s8, h9, hf⟩ := zbd_some hf
          refine zcallV X hP hS hl.1 (k := 0) (As := [.int x2]) (rest := []) (cn_X12_nameOf h9) cw_X12_nameOf zp_12 rfl (by decide) rfl ml_X12_222 (by decide) rfl rfl (Nat.le_of_ble_eq_true rfl) dX12_isPlain_20 (fun H locs hP hS => ?_)
          refine lv_i2l hx hb dX12_isPlain_23 rfl ?_
          refine zldc2 X co_X12_225 dX12_isPlain_24 ?_
          refine zldc2 X co_X12_227 dX12_isPlain_27 ?_
          obtain ⟨r10, s11, h12, hf⟩ := zbd_some hf
          refine zcallS X hP hS hl.1 (As := [.long (r7).toInt64, .long 97, .long 99]) (rest := []) (cn_X12_in h12) cw_X12_in ml_X12_203 (by decide) rfl rfl (Nat.le_of_ble_eq_true rfl) dX12_isPlain_30 (fun H locs hP hS => ?_)
          refine zif_ne (tgt := 38) hx hb dX12_isPlain_33 (by decide) hf (fun hf => ?_) (fun hf => ?_)
          · exact hc_38 x1 x2 s11 _ _ _ (lv_sub hl [0, 1, 2] rfl) hP hS hf
          · refine lv_iconst (v := 0) hx hb dX12_isPlain_36 (by decide) ?_
            exact zret_i X hP hS hf rfl dX12_isPlain_37
  rw [f_X12_isPlain] at hf
  refine lv_iconst (v := 0) hx hb dX12_isPlain_0 (by decide) ?_
  refine lv_istore_n (lv' := [(2, .int 0), (0, .ref (ad 0)), (1, .int x1)]) hx hb dX12_isPlain_1 rfl hl (by decide) rfl (fun ls hl => ?_)
  exact hc_2 ZF x1 0 s0 _ _ _ (lv_sub hl [1, 2, 0] rfl) hP hS hf
theorem dX12_numberAt_0 : decode cX12_numberAt 0 = .ok (.aload_n 0, 1) := by decide +kernel
theorem dX12_numberAt_1 : decode cX12_numberAt 1 = .ok (.getfield 95, 3) := by decide +kernel
theorem dX12_numberAt_4 : decode cX12_numberAt 4 = .ok (.sipush 462, 3) := by decide +kernel
theorem dX12_numberAt_7 : decode cX12_numberAt 7 = .ok (.iload_n 1, 1) := by decide +kernel
theorem dX12_numberAt_8 : decode cX12_numberAt 8 = .ok (.imul, 1) := by decide +kernel
theorem dX12_numberAt_9 : decode cX12_numberAt 9 = .ok (.iload_n 2, 1) := by decide +kernel
theorem dX12_numberAt_10 : decode cX12_numberAt 10 = .ok (.iadd, 1) := by decide +kernel
theorem dX12_numberAt_11 : decode cX12_numberAt 11 = .ok (.laload, 1) := by decide +kernel
theorem dX12_numberAt_12 : decode cX12_numberAt 12 = .ok (.lstore_n 3, 1) := by decide +kernel
theorem dX12_numberAt_13 : decode cX12_numberAt 13 = .ok (.aload_n 0, 1) := by decide +kernel
theorem dX12_numberAt_14 : decode cX12_numberAt 14 = .ok (.getfield 105, 3) := by decide +kernel
theorem dX12_numberAt_17 : decode cX12_numberAt 17 = .ok (.iload_n 1, 1) := by decide +kernel
theorem dX12_numberAt_18 : decode cX12_numberAt 18 = .ok (.iaload, 1) := by decide +kernel
theorem dX12_numberAt_19 : decode cX12_numberAt 19 = .ok (.tableswitch 100 0 4 #[33, 35, 38, 50, 71], 33) := by decide +kernel
theorem dX12_numberAt_52 : decode cX12_numberAt 52 = .ok (.lload_n 3, 1) := by decide +kernel
theorem dX12_numberAt_53 : decode cX12_numberAt 53 = .ok (.lreturn, 1) := by decide +kernel
theorem dX12_numberAt_54 : decode cX12_numberAt 54 = .ok (.lload_n 3, 1) := by decide +kernel
theorem dX12_numberAt_55 : decode cX12_numberAt 55 = .ok (.lneg, 1) := by decide +kernel
theorem dX12_numberAt_56 : decode cX12_numberAt 56 = .ok (.lreturn, 1) := by decide +kernel
theorem dX12_numberAt_57 : decode cX12_numberAt 57 = .ok (.lload_n 3, 1) := by decide +kernel
theorem dX12_numberAt_58 : decode cX12_numberAt 58 = .ok (.aload_n 0, 1) := by decide +kernel
theorem dX12_numberAt_59 : decode cX12_numberAt 59 = .ok (.getfield 108, 3) := by decide +kernel
theorem dX12_numberAt_62 : decode cX12_numberAt 62 = .ok (.iload_n 1, 1) := by decide +kernel
theorem dX12_numberAt_63 : decode cX12_numberAt 63 = .ok (.iaload, 1) := by decide +kernel
theorem dX12_numberAt_64 : decode cX12_numberAt 64 = .ok (.iconst 1, 1) := by decide +kernel
theorem dX12_numberAt_65 : decode cX12_numberAt 65 = .ok (.iadd, 1) := by decide +kernel
theorem dX12_numberAt_66 : decode cX12_numberAt 66 = .ok (.i2l, 1) := by decide +kernel
theorem dX12_numberAt_67 : decode cX12_numberAt 67 = .ok (.lmul, 1) := by decide +kernel
theorem dX12_numberAt_68 : decode cX12_numberAt 68 = .ok (.lreturn, 1) := by decide +kernel
theorem dX12_numberAt_69 : decode cX12_numberAt 69 = .ok (.aload_n 0, 1) := by decide +kernel
theorem dX12_numberAt_70 : decode cX12_numberAt 70 = .ok (.getfield 75, 3) := by decide +kernel
theorem dX12_numberAt_73 : decode cX12_numberAt 73 = .ok (.iload_n 2, 1) := by decide +kernel
theorem dX12_numberAt_74 : decode cX12_numberAt 74 = .ok (.iaload, 1) := by decide +kernel
theorem dX12_numberAt_75 : decode cX12_numberAt 75 = .ok (.aload_n 0, 1) := by decide +kernel
theorem dX12_numberAt_76 : decode cX12_numberAt 76 = .ok (.getfield 108, 3) := by decide +kernel
theorem dX12_numberAt_79 : decode cX12_numberAt 79 = .ok (.iload_n 1, 1) := by decide +kernel
theorem dX12_numberAt_80 : decode cX12_numberAt 80 = .ok (.iaload, 1) := by decide +kernel
theorem dX12_numberAt_81 : decode cX12_numberAt 81 = .ok (.if_icmp .ne 7, 3) := by decide +kernel
theorem dX12_numberAt_84 : decode cX12_numberAt 84 = .ok (.lload_n 3, 1) := by decide +kernel
theorem dX12_numberAt_85 : decode cX12_numberAt 85 = .ok (.goto 4, 3) := by decide +kernel
theorem dX12_numberAt_88 : decode cX12_numberAt 88 = .ok (.lconst 0, 1) := by decide +kernel
theorem dX12_numberAt_89 : decode cX12_numberAt 89 = .ok (.lreturn, 1) := by decide +kernel
theorem dX12_numberAt_90 : decode cX12_numberAt 90 = .ok (.aload_n 0, 1) := by decide +kernel
theorem dX12_numberAt_91 : decode cX12_numberAt 91 = .ok (.aload_n 0, 1) := by decide +kernel
theorem dX12_numberAt_92 : decode cX12_numberAt 92 = .ok (.getfield 62, 3) := by decide +kernel
theorem dX12_numberAt_95 : decode cX12_numberAt 95 = .ok (.iload_n 2, 1) := by decide +kernel
theorem dX12_numberAt_96 : decode cX12_numberAt 96 = .ok (.iaload, 1) := by decide +kernel
theorem dX12_numberAt_97 : decode cX12_numberAt 97 = .ok (.invokevirtual 229, 3) := by decide +kernel
theorem dX12_numberAt_100 : decode cX12_numberAt 100 = .ok (.ifCond .eq 17, 3) := by decide +kernel
theorem dX12_numberAt_103 : decode cX12_numberAt 103 = .ok (.lload_n 3, 1) := by decide +kernel
theorem dX12_numberAt_104 : decode cX12_numberAt 104 = .ok (.aload_n 0, 1) := by decide +kernel
theorem dX12_numberAt_105 : decode cX12_numberAt 105 = .ok (.getfield 108, 3) := by decide +kernel
theorem dX12_numberAt_108 : decode cX12_numberAt 108 = .ok (.iload_n 1, 1) := by decide +kernel
theorem dX12_numberAt_109 : decode cX12_numberAt 109 = .ok (.iaload, 1) := by decide +kernel
theorem dX12_numberAt_110 : decode cX12_numberAt 110 = .ok (.iconst 1, 1) := by decide +kernel
theorem dX12_numberAt_111 : decode cX12_numberAt 111 = .ok (.iadd, 1) := by decide +kernel
theorem dX12_numberAt_112 : decode cX12_numberAt 112 = .ok (.i2l, 1) := by decide +kernel
theorem dX12_numberAt_113 : decode cX12_numberAt 113 = .ok (.lmul, 1) := by decide +kernel
theorem dX12_numberAt_114 : decode cX12_numberAt 114 = .ok (.goto 4, 3) := by decide +kernel
theorem dX12_numberAt_117 : decode cX12_numberAt 117 = .ok (.lconst 0, 1) := by decide +kernel
theorem dX12_numberAt_118 : decode cX12_numberAt 118 = .ok (.lreturn, 1) := by decide +kernel
theorem dX12_numberAt_119 : decode cX12_numberAt 119 = .ok (.aload_n 0, 1) := by decide +kernel
theorem dX12_numberAt_120 : decode cX12_numberAt 120 = .ok (.getfield 75, 3) := by decide +kernel
theorem dX12_numberAt_123 : decode cX12_numberAt 123 = .ok (.iload_n 2, 1) := by decide +kernel
theorem dX12_numberAt_124 : decode cX12_numberAt 124 = .ok (.iaload, 1) := by decide +kernel
theorem dX12_numberAt_125 : decode cX12_numberAt 125 = .ok (.iconst 2, 1) := by decide +kernel
theorem dX12_numberAt_126 : decode cX12_numberAt 126 = .ok (.irem, 1) := by decide +kernel
theorem dX12_numberAt_127 : decode cX12_numberAt 127 = .ok (.iconst 1, 1) := by decide +kernel
theorem dX12_numberAt_128 : decode cX12_numberAt 128 = .ok (.if_icmp .ne 8, 3) := by decide +kernel
theorem dX12_numberAt_131 : decode cX12_numberAt 131 = .ok (.lload_n 3, 1) := by decide +kernel
theorem dX12_numberAt_132 : decode cX12_numberAt 132 = .ok (.lneg, 1) := by decide +kernel
theorem dX12_numberAt_133 : decode cX12_numberAt 133 = .ok (.goto 4, 3) := by decide +kernel
theorem dX12_numberAt_136 : decode cX12_numberAt 136 = .ok (.lload_n 3, 1) := by decide +kernel
theorem dX12_numberAt_137 : decode cX12_numberAt 137 = .ok (.lreturn, 1) := by decide +kernel
set_option maxHeartbeats 4000000 in
set_option maxRecDepth 100000 in
theorem cn_X12_numberAt {l : Launch} {cA : Nat → ClassId} {ad : Nat → Nat} {D : va_G} {E : Nat → Nat} {A : Nat → Prop} {x1 : Int32} {x2 : Int32} {s0 sr : SS} {rr : Int64} (hf : f_X12_numberAt x1 x2 s0 = some (rr, sr)) : zCon Om Nm cA ad D E l yX12_numberAt cX12_numberAt 5 (some .long) 3 A [.ref (ad 0), .int x1, .int x2] s0 (some (.long rr)) sr := by
  refine zstart (own := RX12) hOm (by decide) rfl (Nat.le_of_ble_eq_true rfl) ?_
  intro p e s m args below meth c X hP ls hl
  have hx := X.1
  have hb := X.2.1
  have hl : lv_has ls 5 [(0, .ref (ad 0)), (1, .int x1), (2, .int x2)] := hl
  have hS : va_S A s.heap s.heap [] := va_S.rf
  rw [f_X12_numberAt] at hf
  refine lv_aload_n hx hb dX12_numberAt_0 rfl (lv_at hl 0 rfl) ?_
  refine gf_X12_95 X hP (k := 0) (q := 10) rfl dX12_numberAt_1 rfl ?_
  refine lv_sipush (v := 462) hx hb dX12_numberAt_4 (by decide) ?_
  refine lv_iload_n hx hb dX12_numberAt_7 rfl (lv_at hl 1 rfl) ?_
  refine lv_imul hx hb dX12_numberAt_8 ?_
  refine lv_iload_n hx hb dX12_numberAt_9 rfl (lv_at hl 2 rfl) ?_
  refine lv_iadd hx hb dX12_numberAt_10 ?_
  obtain ⟨g1, hf⟩ := zgd hf
  refine zald_l X hP (k := 10) (n := 3696) (rs := []) rfl g1 dX12_numberAt_11 ?_
  refine lv_lstore_n (lv' := [(3, .long (s0.2 10 ((((462 : Int32) * x1) + x2)).toNatClampNeg)), (0, .ref (ad 0)), (1, .int x1), (2, .int x2)]) hx hb dX12_numberAt_12 rfl hl (by decide) rfl (fun ls hl => ?_)
  refine lv_aload_n hx hb dX12_numberAt_13 rfl (lv_at hl 1 rfl) ?_
  refine gf_X12_105 X hP (k := 0) (q := 8) rfl dX12_numberAt_14 rfl ?_
  refine lv_iload_n hx hb dX12_numberAt_17 rfl (lv_at hl 2 rfl) ?_
  obtain ⟨g2, hf⟩ := zgd hf
  refine zald_i X hP (k := 8) (n := 8) (rs := []) rfl g2 dX12_numberAt_18 ?_
  by_cases e3 : (s0.1 8 (x1).toNatClampNeg) = 0
  · rw [if_pos e3] at hf
    refine lv_tableIn (tgt := 52) (off := 33) hx hb dX12_numberAt_19 (by rw [e3]; decide) (by rw [e3]; decide) (by rw [e3]; decide +kernel) (by decide) ?_
    refine lv_lload_n hx hb dX12_numberAt_52 rfl (lv_at hl 0 rfl) ?_
    exact zret_l X hP hS hf dX12_numberAt_53
  · rw [if_neg e3] at hf
    by_cases e4 : (s0.1 8 (x1).toNatClampNeg) = 1
    · rw [if_pos e4] at hf
      refine lv_tableIn (tgt := 54) (off := 35) hx hb dX12_numberAt_19 (by rw [e4]; decide) (by rw [e4]; decide) (by rw [e4]; decide +kernel) (by decide) ?_
      refine lv_lload_n hx hb dX12_numberAt_54 rfl (lv_at hl 0 rfl) ?_
      refine lv_lneg hx hb dX12_numberAt_55 ?_
      exact zret_l X hP hS hf dX12_numberAt_56
    · rw [if_neg e4] at hf
      by_cases e5 : (s0.1 8 (x1).toNatClampNeg) = 2
      · rw [if_pos e5] at hf
        refine lv_tableIn (tgt := 57) (off := 38) hx hb dX12_numberAt_19 (by rw [e5]; decide) (by rw [e5]; decide) (by rw [e5]; decide +kernel) (by decide) ?_
        refine lv_lload_n hx hb dX12_numberAt_57 rfl (lv_at hl 0 rfl) ?_
        refine lv_aload_n hx hb dX12_numberAt_58 rfl (lv_at hl 1 rfl) ?_
        refine gf_X12_108 X hP (k := 0) (q := 9) rfl dX12_numberAt_59 rfl ?_
        refine lv_iload_n hx hb dX12_numberAt_62 rfl (lv_at hl 2 rfl) ?_
        obtain ⟨g6, hf⟩ := zgd hf
        refine zald_i X hP (k := 9) (n := 8) (rs := []) rfl g6 dX12_numberAt_63 ?_
        refine lv_iconst (v := 1) hx hb dX12_numberAt_64 (by decide) ?_
        refine lv_iadd hx hb dX12_numberAt_65 ?_
        refine lv_i2l hx hb dX12_numberAt_66 rfl ?_
        refine lv_lmul hx hb dX12_numberAt_67 ?_
        exact zret_l X hP hS hf dX12_numberAt_68
      · rw [if_neg e5] at hf
        by_cases e7 : (s0.1 8 (x1).toNatClampNeg) = 3
        · rw [if_pos e7] at hf
          refine lv_tableIn (tgt := 69) (off := 50) hx hb dX12_numberAt_19 (by rw [e7]; decide) (by rw [e7]; decide) (by rw [e7]; decide +kernel) (by decide) ?_
          refine lv_aload_n hx hb dX12_numberAt_69 rfl (lv_at hl 1 rfl) ?_
          refine gf_X12_75 X hP (k := 0) (q := 5) rfl dX12_numberAt_70 rfl ?_
          refine lv_iload_n hx hb dX12_numberAt_73 rfl (lv_at hl 3 rfl) ?_
          obtain ⟨g8, hf⟩ := zgd hf
          refine zald_i X hP (k := 5) (n := 462) (rs := []) rfl g8 dX12_numberAt_74 ?_
          refine lv_aload_n hx hb dX12_numberAt_75 rfl (lv_at hl 1 rfl) ?_
          refine gf_X12_108 X hP (k := 0) (q := 9) rfl dX12_numberAt_76 rfl ?_
          refine lv_iload_n hx hb dX12_numberAt_79 rfl (lv_at hl 2 rfl) ?_
          obtain ⟨g9, hf⟩ := zgd hf
          refine zald_i X hP (k := 9) (n := 8) (rs := []) rfl g9 dX12_numberAt_80 ?_
          refine zicmp_ne (tgt := 88) hx hb dX12_numberAt_81 (by decide) hf (fun hf => ?_) (fun hf => ?_)
          · refine lv_lconst (v := 0) hx hb dX12_numberAt_88 (by decide) ?_
            exact zret_l X hP hS hf dX12_numberAt_89
          · refine lv_lload_n hx hb dX12_numberAt_84 rfl (lv_at hl 0 rfl) ?_
            refine lv_goto (tgt := 89) hx hb dX12_numberAt_85 (by decide) ?_
            exact zret_l X hP hS hf dX12_numberAt_89
        · rw [if_neg e7] at hf
          by_cases e10 : (s0.1 8 (x1).toNatClampNeg) = 4
          · rw [if_pos e10] at hf
            refine lv_tableIn (tgt := 90) (off := 71) hx hb dX12_numberAt_19 (by rw [e10]; decide) (by rw [e10]; decide) (by rw [e10]; decide +kernel) (by decide) ?_
            refine lv_aload_n hx hb dX12_numberAt_90 rfl (lv_at hl 1 rfl) ?_
            refine lv_aload_n hx hb dX12_numberAt_91 rfl (lv_at hl 1 rfl) ?_
            refine gf_X12_62 X hP (k := 0) (q := 4) rfl dX12_numberAt_92 rfl ?_
            refine lv_iload_n hx hb dX12_numberAt_95 rfl (lv_at hl 3 rfl) ?_
            obtain ⟨g11, hf⟩ := zgd hf
            refine zald_i X hP (k := 4) (n := 462) (rs := []) rfl g11 dX12_numberAt_96 ?_
            obtain ⟨r12, s13, h14, hf⟩ := zbd_some hf
            refine zcallV X hP hS hl.1 (k := 0) (As := [.int (s0.1 4 (x2).toNatClampNeg)]) (rest := []) (cn_X12_isPlain h14) cw_X12_isPlain zp_12 rfl (by decide) rfl ml_X12_229 (by decide) rfl rfl (Nat.le_of_ble_eq_true rfl) dX12_numberAt_97 (fun H locs hP hS => ?_)
            refine zif_eq (tgt := 117) hx hb dX12_numberAt_100 (by decide) hf (fun hf => ?_) (fun hf => ?_)
            · refine lv_lconst (v := 0) hx hb dX12_numberAt_117 (by decide) ?_
              exact zret_l X hP hS hf dX12_numberAt_118
            · refine lv_lload_n hx hb dX12_numberAt_103 rfl (lv_at hl 0 rfl) ?_
              refine lv_aload_n hx hb dX12_numberAt_104 rfl (lv_at hl 1 rfl) ?_
              refine gf_X12_108 X hP (k := 0) (q := 9) rfl dX12_numberAt_105 rfl ?_
              refine lv_iload_n hx hb dX12_numberAt_108 rfl (lv_at hl 2 rfl) ?_
              obtain ⟨g15, hf⟩ := zgd hf
              refine zald_i X hP (k := 9) (n := 8) (rs := []) rfl g15 dX12_numberAt_109 ?_
              refine lv_iconst (v := 1) hx hb dX12_numberAt_110 (by decide) ?_
              refine lv_iadd hx hb dX12_numberAt_111 ?_
              refine lv_i2l hx hb dX12_numberAt_112 rfl ?_
              refine lv_lmul hx hb dX12_numberAt_113 ?_
              refine lv_goto (tgt := 118) hx hb dX12_numberAt_114 (by decide) ?_
              exact zret_l X hP hS hf dX12_numberAt_118
          · rw [if_neg e10] at hf
            have ye3 := zne e3 (v := 0) (by decide)
            have ye4 := zne e4 (v := 1) (by decide)
            have ye5 := zne e5 (v := 2) (by decide)
            have ye7 := zne e7 (v := 3) (by decide)
            have ye10 := zne e10 (v := 4) (by decide)
            refine lv_tableOut (tgt := 119) hx hb dX12_numberAt_19 (by omega) (by decide) ?_
            refine lv_aload_n hx hb dX12_numberAt_119 rfl (lv_at hl 1 rfl) ?_
            refine gf_X12_75 X hP (k := 0) (q := 5) rfl dX12_numberAt_120 rfl ?_
            refine lv_iload_n hx hb dX12_numberAt_123 rfl (lv_at hl 3 rfl) ?_
            obtain ⟨g16, hf⟩ := zgd hf
            refine zald_i X hP (k := 5) (n := 462) (rs := []) rfl g16 dX12_numberAt_124 ?_
            refine lv_iconst (v := 2) hx hb dX12_numberAt_125 (by decide) ?_
            refine lv_irem hx hb dX12_numberAt_126 (by decide) ?_
            refine lv_iconst (v := 1) hx hb dX12_numberAt_127 (by decide) ?_
            refine zicmp_ne (tgt := 136) hx hb dX12_numberAt_128 (by decide) hf (fun hf => ?_) (fun hf => ?_)
            · refine lv_lload_n hx hb dX12_numberAt_136 rfl (lv_at hl 0 rfl) ?_
              exact zret_l X hP hS hf dX12_numberAt_137
            · refine lv_lload_n hx hb dX12_numberAt_131 rfl (lv_at hl 0 rfl) ?_
              refine lv_lneg hx hb dX12_numberAt_132 ?_
              refine lv_goto (tgt := 137) hx hb dX12_numberAt_133 (by decide) ?_
              exact zret_l X hP hS hf dX12_numberAt_137
theorem dX12_layClass_0 : decode cX12_layClass 0 = .ok (.iconst 0, 1) := by decide +kernel
theorem dX12_layClass_1 : decode cX12_layClass 1 = .ok (.istore_n 3, 1) := by decide +kernel
theorem dX12_layClass_2 : decode cX12_layClass 2 = .ok (.iload_n 3, 1) := by decide +kernel
theorem dX12_layClass_3 : decode cX12_layClass 3 = .ok (.aload_n 0, 1) := by decide +kernel
theorem dX12_layClass_4 : decode cX12_layClass 4 = .ok (.getfield 56, 3) := by decide +kernel
theorem dX12_layClass_7 : decode cX12_layClass 7 = .ok (.if_icmp .ge 18, 3) := by decide +kernel
theorem dX12_layClass_10 : decode cX12_layClass 10 = .ok (.aload_n 2, 1) := by decide +kernel
theorem dX12_layClass_11 : decode cX12_layClass 11 = .ok (.iload_n 3, 1) := by decide +kernel
theorem dX12_layClass_12 : decode cX12_layClass 12 = .ok (.aload_n 0, 1) := by decide +kernel
theorem dX12_layClass_13 : decode cX12_layClass 13 = .ok (.iload_n 1, 1) := by decide +kernel
theorem dX12_layClass_14 : decode cX12_layClass 14 = .ok (.iload_n 3, 1) := by decide +kernel
theorem dX12_layClass_15 : decode cX12_layClass 15 = .ok (.invokevirtual 233, 3) := by decide +kernel
theorem dX12_layClass_18 : decode cX12_layClass 18 = .ok (.lastore, 1) := by decide +kernel
theorem dX12_layClass_19 : decode cX12_layClass 19 = .ok (.iinc 3 1, 3) := by decide +kernel
theorem dX12_layClass_22 : decode cX12_layClass 22 = .ok (.goto (-20), 3) := by decide +kernel
theorem dX12_layClass_25 : decode cX12_layClass 25 = .ok (.return_, 1) := by decide +kernel
set_option maxHeartbeats 4000000 in
set_option maxRecDepth 100000 in
theorem cn_X12_layClass {l : Launch} {cA : Nat → ClassId} {ad : Nat → Nat} {D : va_G} {E : Nat → Nat} {A : Nat → Prop} {x1 : Int32} {k2 : Nat} {s0 sr : SS} {rr : Unit} (hf : f_X12_layClass x1 k2 s0 = some (rr, sr)) : zCon Om Nm cA ad D E l yX12_layClass cX12_layClass 4 none 4 A [.ref (ad 0), .int x1, .ref (ad k2)] s0 none sr := by
  refine zstart (own := RX12) hOm (by decide) rfl (Nat.le_of_ble_eq_true rfl) ?_
  intro p e s m args below meth c X hP ls hl
  have hx := X.1
  have hb := X.2.1
  have hl : lv_has ls 4 [(0, .ref (ad 0)), (1, .int x1), (2, .ref (ad k2))] := hl
  have hS : va_S A s.heap s.heap [] := va_S.rf
  have hc_2 : ∀ (n2 : Nat) (x1 : Int32) (k2 : Nat) (x3 : Int32) (s1 : SS) (H : Heap) (locs : List Loc) (ls : Array Slot), lv_has ls 4 [(0, .ref (ad 0)), (1, .int x1), (2, .ref (ad k2)), (3, .int x3)] → va_P D ZCL (zw Om Nm cA ad s1) H → va_S A s.heap H locs → f_X12_layClass_c2 n2 x1 k2 x3 s1 = some (rr, sr) → W p l e (zrm 4) s m args below meth c H locs 0 0 (MQ below (zQc Om Nm cA ad D A none sr) args s 0 0 A) (F0 m 2 ls []) := by
    intro n2
    induction n2 with
    | zero =>
      intro x1 k2 x3 s1 H locs ls hl hP hS hf
      rw [f_X12_layClass_c2] at hf
      cases hf
    | succ n2 ih2 =>
      intro x1 k2 x3 s1 H locs ls hl hP hS hf
      rw [f_X12_layClass_c2] at hf
      refine lv_iload_n hx hb dX12_layClass_2 rfl (lv_at hl 3 rfl) ?_
      refine lv_aload_n hx hb dX12_layClass_3 rfl (lv_at hl 0 rfl) ?_
      refine gf_X12_56 X hP (k := 0) rfl dX12_layClass_4 ?_
      refine zicmp_ge (tgt := 25) hx hb dX12_layClass_7 (by decide) hf (fun hf => ?_) (fun hf => ?_)
      · exact zret_v X hP hS hf dX12_layClass_25
      · refine lv_aload_n hx hb dX12_layClass_10 rfl (lv_at hl 2 rfl) ?_
        refine lv_iload_n hx hb dX12_layClass_11 rfl (lv_at hl 3 rfl) ?_
        refine lv_aload_n hx hb dX12_layClass_12 rfl (lv_at hl 0 rfl) ?_
        refine lv_iload_n hx hb dX12_layClass_13 rfl (lv_at hl 1 rfl) ?_
        refine lv_iload_n hx hb dX12_layClass_14 rfl (lv_at hl 3 rfl) ?_
        obtain ⟨r1, s2, h3, hf⟩ := zbd_some hf
        refine zcallV X hP hS hl.1 (k := 0) (As := [.int x1, .int x3]) (rest := [.int x3, .ref (ad k2)]) (cn_X12_numberAt h3) cw_X12_numberAt zp_12 rfl (by decide) rfl ml_X12_233 (by decide) rfl rfl (Nat.le_of_ble_eq_true rfl) dX12_layClass_15 (fun H locs hP hS => ?_)
        obtain ⟨g4, hf⟩ := zgd hf
        obtain ⟨n5, rn5, on5, in5⟩ := zok_of g4
        refine zast_l X hP hS (k := k2) on5 in5 dX12_layClass_18 (fun H locs hP hS => ?_)
        refine lv_iinc (v := (x3 + 1)) (lv' := [(3, .int (x3 + 1)), (0, .ref (ad 0)), (1, .int x1), (2, .ref (ad k2))]) hx hb dX12_layClass_19 hl (k := 3) rfl rfl (by decide) rfl (fun ls hl => ?_)
        refine lv_goto (tgt := 2) hx hb dX12_layClass_22 (by decide) ?_
        exact ih2 x1 k2 (x3 + 1) (zSL s2 k2 (x3).toNatClampNeg r1) _ _ _ (lv_sub hl [1, 2, 3, 0] rfl) hP hS hf
  rw [f_X12_layClass] at hf
  refine lv_iconst (v := 0) hx hb dX12_layClass_0 (by decide) ?_
  refine lv_istore_n (lv' := [(3, .int 0), (0, .ref (ad 0)), (1, .int x1), (2, .ref (ad k2))]) hx hb dX12_layClass_1 rfl hl (by decide) rfl (fun ls hl => ?_)
  exact hc_2 ZF x1 k2 0 s0 _ _ _ (lv_sub hl [1, 2, 3, 0] rfl) hP hS hf
theorem dX12_layOne_0 : decode cX12_layOne 0 = .ok (.iconst 0, 1) := by decide +kernel
theorem dX12_layOne_1 : decode cX12_layOne 1 = .ok (.istore_n 2, 1) := by decide +kernel
theorem dX12_layOne_2 : decode cX12_layOne 2 = .ok (.iload_n 2, 1) := by decide +kernel
theorem dX12_layOne_3 : decode cX12_layOne 3 = .ok (.aload_n 0, 1) := by decide +kernel
theorem dX12_layOne_4 : decode cX12_layOne 4 = .ok (.getfield 56, 3) := by decide +kernel
theorem dX12_layOne_7 : decode cX12_layOne 7 = .ok (.if_icmp .ge 26, 3) := by decide +kernel
theorem dX12_layOne_10 : decode cX12_layOne 10 = .ok (.aload_n 1, 1) := by decide +kernel
theorem dX12_layOne_11 : decode cX12_layOne 11 = .ok (.iload_n 2, 1) := by decide +kernel
theorem dX12_layOne_12 : decode cX12_layOne 12 = .ok (.aload_n 0, 1) := by decide +kernel
theorem dX12_layOne_13 : decode cX12_layOne 13 = .ok (.getfield 62, 3) := by decide +kernel
theorem dX12_layOne_16 : decode cX12_layOne 16 = .ok (.iload_n 2, 1) := by decide +kernel
theorem dX12_layOne_17 : decode cX12_layOne 17 = .ok (.iaload, 1) := by decide +kernel
theorem dX12_layOne_18 : decode cX12_layOne 18 = .ok (.ifCond .ne 7, 3) := by decide +kernel
theorem dX12_layOne_21 : decode cX12_layOne 21 = .ok (.lconst 1, 1) := by decide +kernel
theorem dX12_layOne_22 : decode cX12_layOne 22 = .ok (.goto 4, 3) := by decide +kernel
theorem dX12_layOne_25 : decode cX12_layOne 25 = .ok (.lconst 0, 1) := by decide +kernel
theorem dX12_layOne_26 : decode cX12_layOne 26 = .ok (.lastore, 1) := by decide +kernel
theorem dX12_layOne_27 : decode cX12_layOne 27 = .ok (.iinc 2 1, 3) := by decide +kernel
theorem dX12_layOne_30 : decode cX12_layOne 30 = .ok (.goto (-28), 3) := by decide +kernel
theorem dX12_layOne_33 : decode cX12_layOne 33 = .ok (.return_, 1) := by decide +kernel
set_option maxHeartbeats 4000000 in
set_option maxRecDepth 100000 in
theorem cn_X12_layOne {l : Launch} {cA : Nat → ClassId} {ad : Nat → Nat} {D : va_G} {E : Nat → Nat} {A : Nat → Prop} {k1 : Nat} {s0 sr : SS} {rr : Unit} (hf : f_X12_layOne k1 s0 = some (rr, sr)) : zCon Om Nm cA ad D E l yX12_layOne cX12_layOne 3 none 0 A [.ref (ad 0), .ref (ad k1)] s0 none sr := by
  refine zstart (own := RX12) hOm (by decide) rfl (Nat.le_of_ble_eq_true rfl) ?_
  intro p e s m args below meth c X hP ls hl
  have hx := X.1
  have hb := X.2.1
  have hl : lv_has ls 3 [(0, .ref (ad 0)), (1, .ref (ad k1))] := hl
  have hS : va_S A s.heap s.heap [] := va_S.rf
  have hc_2 : ∀ (n2 : Nat) (k1 : Nat) (x2 : Int32) (s1 : SS) (H : Heap) (locs : List Loc) (ls : Array Slot), lv_has ls 3 [(0, .ref (ad 0)), (1, .ref (ad k1)), (2, .int x2)] → va_P D ZCL (zw Om Nm cA ad s1) H → va_S A s.heap H locs → f_X12_layOne_c2 n2 k1 x2 s1 = some (rr, sr) → W p l e (zrm 0) s m args below meth c H locs 0 0 (MQ below (zQc Om Nm cA ad D A none sr) args s 0 0 A) (F0 m 2 ls []) := by
    intro n2
    induction n2 with
    | zero =>
      intro k1 x2 s1 H locs ls hl hP hS hf
      rw [f_X12_layOne_c2] at hf
      cases hf
    | succ n2 ih2 =>
      have hc_26 : ∀ (k1 : Nat) (x2 : Int32) (t0 : Int64) (t1 : Int32) (kt2 : Nat) (s1 : SS) (H : Heap) (locs : List Loc) (ls : Array Slot), lv_has ls 3 [(0, .ref (ad 0)), (1, .ref (ad k1)), (2, .int x2)] → va_P D ZCL (zw Om Nm cA ad s1) H → va_S A s.heap H locs → f_X12_layOne_c26 (f_X12_layOne_c2 n2) k1 x2 t0 t1 kt2 s1 = some (rr, sr) → W p l e (zrm 0) s m args below meth c H locs 0 0 (MQ below (zQc Om Nm cA ad D A none sr) args s 0 0 A) (F0 m 26 ls [.long t0, .int t1, .ref (ad kt2)]) := by
        intro k1 x2 t0 t1 kt2 s1 H locs ls hl hP hS hf
        rw [f_X12_layOne_c26] at hf
        obtain ⟨g2, hf⟩ := zgd hf
        obtain ⟨n3, rn3, on3, in3⟩ := zok_of g2
        refine zast_l X hP hS (k := kt2) on3 in3 dX12_layOne_26 (fun H locs hP hS => ?_)
        refine lv_iinc (v := (x2 + 1)) (lv' := [(2, .int (x2 + 1)), (0, .ref (ad 0)), (1, .ref (ad k1))]) hx hb dX12_layOne_27 hl (k := 2) rfl rfl (by decide) rfl (fun ls hl => ?_)
        refine lv_goto (tgt := 2) hx hb dX12_layOne_30 (by decide) ?_
        exact ih2 k1 (x2 + 1) (zSL s1 kt2 (t1).toNatClampNeg t0) _ _ _ (lv_sub hl [1, 2, 0] rfl) hP hS hf
      intro k1 x2 s1 H locs ls hl hP hS hf
      rw [f_X12_layOne_c2] at hf
      refine lv_iload_n hx hb dX12_layOne_2 rfl (lv_at hl 2 rfl) ?_
      refine lv_aload_n hx hb dX12_layOne_3 rfl (lv_at hl 0 rfl) ?_
      refine gf_X12_56 X hP (k := 0) rfl dX12_layOne_4 ?_
      refine zicmp_ge (tgt := 33) hx hb dX12_layOne_7 (by decide) hf (fun hf => ?_) (fun hf => ?_)
      · exact zret_v X hP hS hf dX12_layOne_33
      · refine lv_aload_n hx hb dX12_layOne_10 rfl (lv_at hl 1 rfl) ?_
        refine lv_iload_n hx hb dX12_layOne_11 rfl (lv_at hl 2 rfl) ?_
        refine lv_aload_n hx hb dX12_layOne_12 rfl (lv_at hl 0 rfl) ?_
        refine gf_X12_62 X hP (k := 0) (q := 4) rfl dX12_layOne_13 rfl ?_
        refine lv_iload_n hx hb dX12_layOne_16 rfl (lv_at hl 2 rfl) ?_
        obtain ⟨g1, hf⟩ := zgd hf
        refine zald_i X hP (k := 4) (n := 462) (rs := []) rfl g1 dX12_layOne_17 ?_
        refine zif_ne (tgt := 25) hx hb dX12_layOne_18 (by decide) hf (fun hf => ?_) (fun hf => ?_)
        · refine lv_lconst (v := 0) hx hb dX12_layOne_25 (by decide) ?_
          exact hc_26 k1 x2 0 x2 k1 s1 _ _ _ (lv_sub hl [0, 1, 2] rfl) hP hS hf
        · refine lv_lconst (v := 1) hx hb dX12_layOne_21 (by decide) ?_
          refine lv_goto (tgt := 26) hx hb dX12_layOne_22 (by decide) ?_
          exact hc_26 k1 x2 1 x2 k1 s1 _ _ _ (lv_sub hl [0, 1, 2] rfl) hP hS hf
  rw [f_X12_layOne] at hf
  refine lv_iconst (v := 0) hx hb dX12_layOne_0 (by decide) ?_
  refine lv_istore_n (lv' := [(2, .int 0), (0, .ref (ad 0)), (1, .ref (ad k1))]) hx hb dX12_layOne_1 rfl hl (by decide) rfl (fun ls hl => ?_)
  exact hc_2 ZF k1 0 s0 _ _ _ (lv_sub hl [1, 2, 0] rfl) hP hS hf
theorem dX12_empty_0 : decode cX12_empty 0 = .ok (.iconst 0, 1) := by decide +kernel
theorem dX12_empty_1 : decode cX12_empty 1 = .ok (.istore_n 2, 1) := by decide +kernel
theorem dX12_empty_2 : decode cX12_empty 2 = .ok (.iload_n 2, 1) := by decide +kernel
theorem dX12_empty_3 : decode cX12_empty 3 = .ok (.aload_n 0, 1) := by decide +kernel
theorem dX12_empty_4 : decode cX12_empty 4 = .ok (.getfield 56, 3) := by decide +kernel
theorem dX12_empty_7 : decode cX12_empty 7 = .ok (.if_icmp .ge 13, 3) := by decide +kernel
theorem dX12_empty_10 : decode cX12_empty 10 = .ok (.aload_n 1, 1) := by decide +kernel
theorem dX12_empty_11 : decode cX12_empty 11 = .ok (.iload_n 2, 1) := by decide +kernel
theorem dX12_empty_12 : decode cX12_empty 12 = .ok (.lconst 0, 1) := by decide +kernel
theorem dX12_empty_13 : decode cX12_empty 13 = .ok (.lastore, 1) := by decide +kernel
theorem dX12_empty_14 : decode cX12_empty 14 = .ok (.iinc 2 1, 3) := by decide +kernel
theorem dX12_empty_17 : decode cX12_empty 17 = .ok (.goto (-15), 3) := by decide +kernel
theorem dX12_empty_20 : decode cX12_empty 20 = .ok (.return_, 1) := by decide +kernel
set_option maxHeartbeats 4000000 in
set_option maxRecDepth 100000 in
theorem cn_X12_empty {l : Launch} {cA : Nat → ClassId} {ad : Nat → Nat} {D : va_G} {E : Nat → Nat} {A : Nat → Prop} {k1 : Nat} {s0 sr : SS} {rr : Unit} (hf : f_X12_empty k1 s0 = some (rr, sr)) : zCon Om Nm cA ad D E l yX12_empty cX12_empty 3 none 0 A [.ref (ad 0), .ref (ad k1)] s0 none sr := by
  refine zstart (own := RX12) hOm (by decide) rfl (Nat.le_of_ble_eq_true rfl) ?_
  intro p e s m args below meth c X hP ls hl
  have hx := X.1
  have hb := X.2.1
  have hl : lv_has ls 3 [(0, .ref (ad 0)), (1, .ref (ad k1))] := hl
  have hS : va_S A s.heap s.heap [] := va_S.rf
  have hc_2 : ∀ (n2 : Nat) (k1 : Nat) (x2 : Int32) (s1 : SS) (H : Heap) (locs : List Loc) (ls : Array Slot), lv_has ls 3 [(0, .ref (ad 0)), (1, .ref (ad k1)), (2, .int x2)] → va_P D ZCL (zw Om Nm cA ad s1) H → va_S A s.heap H locs → f_X12_empty_c2 n2 k1 x2 s1 = some (rr, sr) → W p l e (zrm 0) s m args below meth c H locs 0 0 (MQ below (zQc Om Nm cA ad D A none sr) args s 0 0 A) (F0 m 2 ls []) := by
    intro n2
    induction n2 with
    | zero =>
      intro k1 x2 s1 H locs ls hl hP hS hf
      rw [f_X12_empty_c2] at hf
      cases hf
    | succ n2 ih2 =>
      intro k1 x2 s1 H locs ls hl hP hS hf
      rw [f_X12_empty_c2] at hf
      refine lv_iload_n hx hb dX12_empty_2 rfl (lv_at hl 2 rfl) ?_
      refine lv_aload_n hx hb dX12_empty_3 rfl (lv_at hl 0 rfl) ?_
      refine gf_X12_56 X hP (k := 0) rfl dX12_empty_4 ?_
      refine zicmp_ge (tgt := 20) hx hb dX12_empty_7 (by decide) hf (fun hf => ?_) (fun hf => ?_)
      · exact zret_v X hP hS hf dX12_empty_20
      · refine lv_aload_n hx hb dX12_empty_10 rfl (lv_at hl 1 rfl) ?_
        refine lv_iload_n hx hb dX12_empty_11 rfl (lv_at hl 2 rfl) ?_
        refine lv_lconst (v := 0) hx hb dX12_empty_12 (by decide) ?_
        obtain ⟨g1, hf⟩ := zgd hf
        obtain ⟨n2, rn2, on2, in2⟩ := zok_of g1
        refine zast_l X hP hS (k := k1) on2 in2 dX12_empty_13 (fun H locs hP hS => ?_)
        refine lv_iinc (v := (x2 + 1)) (lv' := [(2, .int (x2 + 1)), (0, .ref (ad 0)), (1, .ref (ad k1))]) hx hb dX12_empty_14 hl (k := 2) rfl rfl (by decide) rfl (fun ls hl => ?_)
        refine lv_goto (tgt := 2) hx hb dX12_empty_17 (by decide) ?_
        exact ih2 k1 (x2 + 1) (zSL s1 k1 (x2).toNatClampNeg 0) _ _ _ (lv_sub hl [1, 2, 0] rfl) hP hS hf
  rw [f_X12_empty] at hf
  refine lv_iconst (v := 0) hx hb dX12_empty_0 (by decide) ?_
  refine lv_istore_n (lv' := [(2, .int 0), (0, .ref (ad 0)), (1, .ref (ad k1))]) hx hb dX12_empty_1 rfl hl (by decide) rfl (fun ls hl => ?_)
  exact hc_2 ZF k1 0 s0 _ _ _ (lv_sub hl [1, 2, 0] rfl) hP hS hf
theorem dX12_copyRow_0 : decode cX12_copyRow 0 = .ok (.iconst 0, 1) := by decide +kernel
theorem dX12_copyRow_1 : decode cX12_copyRow 1 = .ok (.istore_n 3, 1) := by decide +kernel
theorem dX12_copyRow_2 : decode cX12_copyRow 2 = .ok (.iload_n 3, 1) := by decide +kernel
theorem dX12_copyRow_3 : decode cX12_copyRow 3 = .ok (.aload_n 0, 1) := by decide +kernel
theorem dX12_copyRow_4 : decode cX12_copyRow 4 = .ok (.getfield 56, 3) := by decide +kernel
theorem dX12_copyRow_7 : decode cX12_copyRow 7 = .ok (.if_icmp .ge 15, 3) := by decide +kernel
theorem dX12_copyRow_10 : decode cX12_copyRow 10 = .ok (.aload_n 2, 1) := by decide +kernel
theorem dX12_copyRow_11 : decode cX12_copyRow 11 = .ok (.iload_n 3, 1) := by decide +kernel
theorem dX12_copyRow_12 : decode cX12_copyRow 12 = .ok (.aload_n 1, 1) := by decide +kernel
theorem dX12_copyRow_13 : decode cX12_copyRow 13 = .ok (.iload_n 3, 1) := by decide +kernel
theorem dX12_copyRow_14 : decode cX12_copyRow 14 = .ok (.laload, 1) := by decide +kernel
theorem dX12_copyRow_15 : decode cX12_copyRow 15 = .ok (.lastore, 1) := by decide +kernel
theorem dX12_copyRow_16 : decode cX12_copyRow 16 = .ok (.iinc 3 1, 3) := by decide +kernel
theorem dX12_copyRow_19 : decode cX12_copyRow 19 = .ok (.goto (-17), 3) := by decide +kernel
theorem dX12_copyRow_22 : decode cX12_copyRow 22 = .ok (.return_, 1) := by decide +kernel
set_option maxHeartbeats 4000000 in
set_option maxRecDepth 100000 in
theorem cn_X12_copyRow {l : Launch} {cA : Nat → ClassId} {ad : Nat → Nat} {D : va_G} {E : Nat → Nat} {A : Nat → Prop} {k1 : Nat} {k2 : Nat} {s0 sr : SS} {rr : Unit} (hf : f_X12_copyRow k1 k2 s0 = some (rr, sr)) : zCon Om Nm cA ad D E l yX12_copyRow cX12_copyRow 4 none 0 A [.ref (ad 0), .ref (ad k1), .ref (ad k2)] s0 none sr := by
  refine zstart (own := RX12) hOm (by decide) rfl (Nat.le_of_ble_eq_true rfl) ?_
  intro p e s m args below meth c X hP ls hl
  have hx := X.1
  have hb := X.2.1
  have hl : lv_has ls 4 [(0, .ref (ad 0)), (1, .ref (ad k1)), (2, .ref (ad k2))] := hl
  have hS : va_S A s.heap s.heap [] := va_S.rf
  have hc_2 : ∀ (n2 : Nat) (k1 : Nat) (k2 : Nat) (x3 : Int32) (s1 : SS) (H : Heap) (locs : List Loc) (ls : Array Slot), lv_has ls 4 [(0, .ref (ad 0)), (1, .ref (ad k1)), (2, .ref (ad k2)), (3, .int x3)] → va_P D ZCL (zw Om Nm cA ad s1) H → va_S A s.heap H locs → f_X12_copyRow_c2 n2 k1 k2 x3 s1 = some (rr, sr) → W p l e (zrm 0) s m args below meth c H locs 0 0 (MQ below (zQc Om Nm cA ad D A none sr) args s 0 0 A) (F0 m 2 ls []) := by
    intro n2
    induction n2 with
    | zero =>
      intro k1 k2 x3 s1 H locs ls hl hP hS hf
      rw [f_X12_copyRow_c2] at hf
      cases hf
    | succ n2 ih2 =>
      intro k1 k2 x3 s1 H locs ls hl hP hS hf
      rw [f_X12_copyRow_c2] at hf
      refine lv_iload_n hx hb dX12_copyRow_2 rfl (lv_at hl 3 rfl) ?_
      refine lv_aload_n hx hb dX12_copyRow_3 rfl (lv_at hl 0 rfl) ?_
      refine gf_X12_56 X hP (k := 0) rfl dX12_copyRow_4 ?_
      refine zicmp_ge (tgt := 22) hx hb dX12_copyRow_7 (by decide) hf (fun hf => ?_) (fun hf => ?_)
      · exact zret_v X hP hS hf dX12_copyRow_22
      · refine lv_aload_n hx hb dX12_copyRow_10 rfl (lv_at hl 2 rfl) ?_
        refine lv_iload_n hx hb dX12_copyRow_11 rfl (lv_at hl 3 rfl) ?_
        refine lv_aload_n hx hb dX12_copyRow_12 rfl (lv_at hl 1 rfl) ?_
        refine lv_iload_n hx hb dX12_copyRow_13 rfl (lv_at hl 3 rfl) ?_
        obtain ⟨g1, hf⟩ := zgd hf
        obtain ⟨n4, rn4, on4, in4⟩ := zok_of g1
        refine zald_l X hP (k := k1) on4 in4 dX12_copyRow_14 ?_
        obtain ⟨g2, hf⟩ := zgd hf
        obtain ⟨n3, rn3, on3, in3⟩ := zok_of g2
        refine zast_l X hP hS (k := k2) on3 in3 dX12_copyRow_15 (fun H locs hP hS => ?_)
        refine lv_iinc (v := (x3 + 1)) (lv' := [(3, .int (x3 + 1)), (0, .ref (ad 0)), (1, .ref (ad k1)), (2, .ref (ad k2))]) hx hb dX12_copyRow_16 hl (k := 3) rfl rfl (by decide) rfl (fun ls hl => ?_)
        refine lv_goto (tgt := 2) hx hb dX12_copyRow_19 (by decide) ?_
        exact ih2 k1 k2 (x3 + 1) (zSL s1 k2 (x3).toNatClampNeg (s1.2 k1 (x3).toNatClampNeg)) _ _ _ (lv_sub hl [1, 2, 3, 0] rfl) hP hS hf
  rw [f_X12_copyRow] at hf
  refine lv_iconst (v := 0) hx hb dX12_copyRow_0 (by decide) ?_
  refine lv_istore_n (lv' := [(3, .int 0), (0, .ref (ad 0)), (1, .ref (ad k1)), (2, .ref (ad k2))]) hx hb dX12_copyRow_1 rfl hl (by decide) rfl (fun ls hl => ?_)
  exact hc_2 ZF k1 k2 0 s0 _ _ _ (lv_sub hl [1, 2, 3, 0] rfl) hP hS hf
theorem dX12_multiply_0 : decode cX12_multiply 0 = .ok (.aload_n 0, 1) := by decide +kernel
theorem dX12_multiply_1 : decode cX12_multiply 1 = .ok (.aload_n 0, 1) := by decide +kernel
theorem dX12_multiply_2 : decode cX12_multiply 2 = .ok (.getfield 168, 3) := by decide +kernel
theorem dX12_multiply_5 : decode cX12_multiply 5 = .ok (.invokevirtual 237, 3) := by decide +kernel
theorem dX12_multiply_8 : decode cX12_multiply 8 = .ok (.iconst 0, 1) := by decide +kernel
theorem dX12_multiply_9 : decode cX12_multiply 9 = .ok (.istore_n 3, 1) := by decide +kernel
theorem dX12_multiply_10 : decode cX12_multiply 10 = .ok (.iload_n 3, 1) := by decide +kernel
theorem dX12_multiply_11 : decode cX12_multiply 11 = .ok (.aload_n 0, 1) := by decide +kernel
theorem dX12_multiply_12 : decode cX12_multiply 12 = .ok (.getfield 56, 3) := by decide +kernel
theorem dX12_multiply_15 : decode cX12_multiply 15 = .ok (.if_icmp .ge 100, 3) := by decide +kernel
theorem dX12_multiply_18 : decode cX12_multiply 18 = .ok (.iconst 0, 1) := by decide +kernel
theorem dX12_multiply_19 : decode cX12_multiply 19 = .ok (.istore 4, 2) := by decide +kernel
theorem dX12_multiply_21 : decode cX12_multiply 21 = .ok (.iload 4, 2) := by decide +kernel
theorem dX12_multiply_23 : decode cX12_multiply 23 = .ok (.aload_n 0, 1) := by decide +kernel
theorem dX12_multiply_24 : decode cX12_multiply 24 = .ok (.getfield 56, 3) := by decide +kernel
theorem dX12_multiply_27 : decode cX12_multiply 27 = .ok (.if_icmp .ge 82, 3) := by decide +kernel
theorem dX12_multiply_30 : decode cX12_multiply 30 = .ok (.aload_n 1, 1) := by decide +kernel
theorem dX12_multiply_31 : decode cX12_multiply 31 = .ok (.iload_n 3, 1) := by decide +kernel
theorem dX12_multiply_32 : decode cX12_multiply 32 = .ok (.laload, 1) := by decide +kernel
theorem dX12_multiply_33 : decode cX12_multiply 33 = .ok (.lconst 0, 1) := by decide +kernel
theorem dX12_multiply_34 : decode cX12_multiply 34 = .ok (.lcmp, 1) := by decide +kernel
theorem dX12_multiply_35 : decode cX12_multiply 35 = .ok (.ifCond .eq 74, 3) := by decide +kernel
theorem dX12_multiply_38 : decode cX12_multiply 38 = .ok (.aload_n 2, 1) := by decide +kernel
theorem dX12_multiply_39 : decode cX12_multiply 39 = .ok (.iload 4, 2) := by decide +kernel
theorem dX12_multiply_41 : decode cX12_multiply 41 = .ok (.laload, 1) := by decide +kernel
theorem dX12_multiply_42 : decode cX12_multiply 42 = .ok (.lconst 0, 1) := by decide +kernel
theorem dX12_multiply_43 : decode cX12_multiply 43 = .ok (.lcmp, 1) := by decide +kernel
theorem dX12_multiply_44 : decode cX12_multiply 44 = .ok (.ifCond .eq 59, 3) := by decide +kernel
theorem dX12_multiply_47 : decode cX12_multiply 47 = .ok (.aload_n 0, 1) := by decide +kernel
theorem dX12_multiply_48 : decode cX12_multiply 48 = .ok (.getfield 75, 3) := by decide +kernel
theorem dX12_multiply_51 : decode cX12_multiply 51 = .ok (.iload_n 3, 1) := by decide +kernel
theorem dX12_multiply_52 : decode cX12_multiply 52 = .ok (.iaload, 1) := by decide +kernel
theorem dX12_multiply_53 : decode cX12_multiply 53 = .ok (.aload_n 0, 1) := by decide +kernel
theorem dX12_multiply_54 : decode cX12_multiply 54 = .ok (.getfield 75, 3) := by decide +kernel
theorem dX12_multiply_57 : decode cX12_multiply 57 = .ok (.iload 4, 2) := by decide +kernel
theorem dX12_multiply_59 : decode cX12_multiply 59 = .ok (.iaload, 1) := by decide +kernel
theorem dX12_multiply_60 : decode cX12_multiply 60 = .ok (.iadd, 1) := by decide +kernel
theorem dX12_multiply_61 : decode cX12_multiply 61 = .ok (.aload_n 0, 1) := by decide +kernel
theorem dX12_multiply_62 : decode cX12_multiply 62 = .ok (.getfield 27, 3) := by decide +kernel
theorem dX12_multiply_65 : decode cX12_multiply 65 = .ok (.if_icmp .gt 38, 3) := by decide +kernel
theorem dX12_multiply_68 : decode cX12_multiply 68 = .ok (.aload_n 0, 1) := by decide +kernel
theorem dX12_multiply_69 : decode cX12_multiply 69 = .ok (.getfield 168, 3) := by decide +kernel
theorem dX12_multiply_72 : decode cX12_multiply 72 = .ok (.aload_n 0, 1) := by decide +kernel
theorem dX12_multiply_73 : decode cX12_multiply 73 = .ok (.getfield 65, 3) := by decide +kernel
theorem dX12_multiply_76 : decode cX12_multiply 76 = .ok (.aload_n 0, 1) := by decide +kernel
theorem dX12_multiply_77 : decode cX12_multiply 77 = .ok (.getfield 62, 3) := by decide +kernel
theorem dX12_multiply_80 : decode cX12_multiply 80 = .ok (.iload_n 3, 1) := by decide +kernel
theorem dX12_multiply_81 : decode cX12_multiply 81 = .ok (.iaload, 1) := by decide +kernel
theorem dX12_multiply_82 : decode cX12_multiply 82 = .ok (.aload_n 0, 1) := by decide +kernel
theorem dX12_multiply_83 : decode cX12_multiply 83 = .ok (.getfield 62, 3) := by decide +kernel
theorem dX12_multiply_86 : decode cX12_multiply 86 = .ok (.iload 4, 2) := by decide +kernel
theorem dX12_multiply_88 : decode cX12_multiply 88 = .ok (.iaload, 1) := by decide +kernel
theorem dX12_multiply_89 : decode cX12_multiply 89 = .ok (.iadd, 1) := by decide +kernel
theorem dX12_multiply_90 : decode cX12_multiply 90 = .ok (.iaload, 1) := by decide +kernel
theorem dX12_multiply_91 : decode cX12_multiply 91 = .ok (.dup2, 1) := by decide +kernel
theorem dX12_multiply_92 : decode cX12_multiply 92 = .ok (.laload, 1) := by decide +kernel
theorem dX12_multiply_93 : decode cX12_multiply 93 = .ok (.aload_n 1, 1) := by decide +kernel
theorem dX12_multiply_94 : decode cX12_multiply 94 = .ok (.iload_n 3, 1) := by decide +kernel
theorem dX12_multiply_95 : decode cX12_multiply 95 = .ok (.laload, 1) := by decide +kernel
theorem dX12_multiply_96 : decode cX12_multiply 96 = .ok (.aload_n 2, 1) := by decide +kernel
theorem dX12_multiply_97 : decode cX12_multiply 97 = .ok (.iload 4, 2) := by decide +kernel
theorem dX12_multiply_99 : decode cX12_multiply 99 = .ok (.laload, 1) := by decide +kernel
theorem dX12_multiply_100 : decode cX12_multiply 100 = .ok (.lmul, 1) := by decide +kernel
theorem dX12_multiply_101 : decode cX12_multiply 101 = .ok (.ladd, 1) := by decide +kernel
theorem dX12_multiply_102 : decode cX12_multiply 102 = .ok (.lastore, 1) := by decide +kernel
theorem dX12_multiply_103 : decode cX12_multiply 103 = .ok (.iinc 4 1, 3) := by decide +kernel
theorem dX12_multiply_106 : decode cX12_multiply 106 = .ok (.goto (-85), 3) := by decide +kernel
theorem dX12_multiply_109 : decode cX12_multiply 109 = .ok (.iinc 3 1, 3) := by decide +kernel
theorem dX12_multiply_112 : decode cX12_multiply 112 = .ok (.goto (-102), 3) := by decide +kernel
theorem dX12_multiply_115 : decode cX12_multiply 115 = .ok (.aload_n 0, 1) := by decide +kernel
theorem dX12_multiply_116 : decode cX12_multiply 116 = .ok (.aload_n 0, 1) := by decide +kernel
theorem dX12_multiply_117 : decode cX12_multiply 117 = .ok (.getfield 168, 3) := by decide +kernel
theorem dX12_multiply_120 : decode cX12_multiply 120 = .ok (.aload_n 1, 1) := by decide +kernel
theorem dX12_multiply_121 : decode cX12_multiply 121 = .ok (.invokevirtual 241, 3) := by decide +kernel
theorem dX12_multiply_124 : decode cX12_multiply 124 = .ok (.return_, 1) := by decide +kernel
set_option maxHeartbeats 4000000 in
set_option maxRecDepth 100000 in
theorem cn_X12_multiply {l : Launch} {cA : Nat → ClassId} {ad : Nat → Nat} {D : va_G} {E : Nat → Nat} {A : Nat → Prop} {k1 : Nat} {k2 : Nat} {s0 sr : SS} {rr : Unit} (hf : f_X12_multiply k1 k2 s0 = some (rr, sr)) : zCon Om Nm cA ad D E l yX12_multiply cX12_multiply 5 none 1 A [.ref (ad 0), .ref (ad k1), .ref (ad k2)] s0 none sr := by
  refine zstart (own := RX12) hOm (by decide) rfl (Nat.le_of_ble_eq_true rfl) ?_
  intro p e s m args below meth c X hP ls hl
  have hx := X.1
  have hb := X.2.1
  have hl : lv_has ls 5 [(0, .ref (ad 0)), (1, .ref (ad k1)), (2, .ref (ad k2))] := hl
  have hS : va_S A s.heap s.heap [] := va_S.rf
  have hc_10 : ∀ (n10 : Nat) (k1 : Nat) (k2 : Nat) (x3 : Int32) (s1 : SS) (H : Heap) (locs : List Loc) (ls : Array Slot), lv_has ls 5 [(0, .ref (ad 0)), (1, .ref (ad k1)), (2, .ref (ad k2)), (3, .int x3)] → va_P D ZCL (zw Om Nm cA ad s1) H → va_S A s.heap H locs → f_X12_multiply_c10 n10 k1 k2 x3 s1 = some (rr, sr) → W p l e (zrm 1) s m args below meth c H locs 0 0 (MQ below (zQc Om Nm cA ad D A none sr) args s 0 0 A) (F0 m 10 ls []) := by
    intro n10
    induction n10 with
    | zero =>
      intro k1 k2 x3 s1 H locs ls hl hP hS hf
      rw [f_X12_multiply_c10] at hf
      cases hf
    | succ n10 ih10 =>
      have hc_21 : ∀ (n21 : Nat) (k1 : Nat) (k2 : Nat) (x3 : Int32) (x4 : Int32) (s1 : SS) (H : Heap) (locs : List Loc) (ls : Array Slot), lv_has ls 5 [(0, .ref (ad 0)), (1, .ref (ad k1)), (2, .ref (ad k2)), (3, .int x3), (4, .int x4)] → va_P D ZCL (zw Om Nm cA ad s1) H → va_S A s.heap H locs → f_X12_multiply_c21 (f_X12_multiply_c10 n10) n21 k1 k2 x3 x4 s1 = some (rr, sr) → W p l e (zrm 1) s m args below meth c H locs 0 0 (MQ below (zQc Om Nm cA ad D A none sr) args s 0 0 A) (F0 m 21 ls []) := by
        intro n21
        induction n21 with
        | zero =>
          intro k1 k2 x3 x4 s1 H locs ls hl hP hS hf
          rw [f_X12_multiply_c21] at hf
          cases hf
        | succ n21 ih21 =>
          have hc_109 : ∀ (k1 : Nat) (k2 : Nat) (x3 : Int32) (s1 : SS) (H : Heap) (locs : List Loc) (ls : Array Slot), lv_has ls 5 [(0, .ref (ad 0)), (1, .ref (ad k1)), (2, .ref (ad k2)), (3, .int x3)] → va_P D ZCL (zw Om Nm cA ad s1) H → va_S A s.heap H locs → f_X12_multiply_c109 (f_X12_multiply_c10 n10) k1 k2 x3 s1 = some (rr, sr) → W p l e (zrm 1) s m args below meth c H locs 0 0 (MQ below (zQc Om Nm cA ad D A none sr) args s 0 0 A) (F0 m 109 ls []) := by
            intro k1 k2 x3 s1 H locs ls hl hP hS hf
            rw [f_X12_multiply_c109] at hf
            refine lv_iinc (v := (x3 + 1)) (lv' := [(3, .int (x3 + 1)), (0, .ref (ad 0)), (1, .ref (ad k1)), (2, .ref (ad k2))]) hx hb dX12_multiply_109 hl (k := 3) rfl rfl (by decide) rfl (fun ls hl => ?_)
            refine lv_goto (tgt := 10) hx hb dX12_multiply_112 (by decide) ?_
            exact ih10 k1 k2 (x3 + 1) s1 _ _ _ (lv_sub hl [1, 2, 3, 0] rfl) hP hS hf
          have hc_103 : ∀ (k1 : Nat) (k2 : Nat) (x3 : Int32) (x4 : Int32) (s1 : SS) (H : Heap) (locs : List Loc) (ls : Array Slot), lv_has ls 5 [(0, .ref (ad 0)), (1, .ref (ad k1)), (2, .ref (ad k2)), (3, .int x3), (4, .int x4)] → va_P D ZCL (zw Om Nm cA ad s1) H → va_S A s.heap H locs → f_X12_multiply_c103 (f_X12_multiply_c21 (f_X12_multiply_c10 n10) n21) (f_X12_multiply_c10 n10) k1 k2 x3 x4 s1 = some (rr, sr) → W p l e (zrm 1) s m args below meth c H locs 0 0 (MQ below (zQc Om Nm cA ad D A none sr) args s 0 0 A) (F0 m 103 ls []) := by
            intro k1 k2 x3 x4 s1 H locs ls hl hP hS hf
            rw [f_X12_multiply_c103] at hf
            refine lv_iinc (v := (x4 + 1)) (lv' := [(4, .int (x4 + 1)), (0, .ref (ad 0)), (1, .ref (ad k1)), (2, .ref (ad k2)), (3, .int x3)]) hx hb dX12_multiply_103 hl (k := 4) rfl rfl (by decide) rfl (fun ls hl => ?_)
            refine lv_goto (tgt := 21) hx hb dX12_multiply_106 (by decide) ?_
            exact ih21 k1 k2 x3 (x4 + 1) s1 _ _ _ (lv_sub hl [1, 2, 3, 4, 0] rfl) hP hS hf
          intro k1 k2 x3 x4 s1 H locs ls hl hP hS hf
          rw [f_X12_multiply_c21] at hf
          refine lv_iload hx hb dX12_multiply_21 (lv_at hl 4 rfl) ?_
          refine lv_aload_n hx hb dX12_multiply_23 rfl (lv_at hl 0 rfl) ?_
          refine gf_X12_56 X hP (k := 0) rfl dX12_multiply_24 ?_
          refine zicmp_ge (tgt := 109) hx hb dX12_multiply_27 (by decide) hf (fun hf => ?_) (fun hf => ?_)
          · exact hc_109 k1 k2 x3 s1 _ _ _ (lv_sub hl [0, 1, 2, 3] rfl) hP hS hf
          · refine lv_aload_n hx hb dX12_multiply_30 rfl (lv_at hl 1 rfl) ?_
            refine lv_iload_n hx hb dX12_multiply_31 rfl (lv_at hl 3 rfl) ?_
            obtain ⟨g7, hf⟩ := zgd hf
            obtain ⟨n21, rn21, on21, in21⟩ := zok_of g7
            refine zald_l X hP (k := k1) on21 in21 dX12_multiply_32 ?_
            refine lv_lconst (v := 0) hx hb dX12_multiply_33 (by decide) ?_
            refine W.lcmp hx hb dX12_multiply_34 ?_
            refine zif_eq (tgt := 109) hx hb dX12_multiply_35 (by decide) hf (fun hf => ?_) (fun hf => ?_)
            · exact hc_109 k1 k2 x3 s1 _ _ _ (lv_sub hl [0, 1, 2, 3] rfl) hP hS hf
            · refine lv_aload_n hx hb dX12_multiply_38 rfl (lv_at hl 2 rfl) ?_
              refine lv_iload hx hb dX12_multiply_39 (lv_at hl 4 rfl) ?_
              obtain ⟨g8, hf⟩ := zgd hf
              obtain ⟨n20, rn20, on20, in20⟩ := zok_of g8
              refine zald_l X hP (k := k2) on20 in20 dX12_multiply_41 ?_
              refine lv_lconst (v := 0) hx hb dX12_multiply_42 (by decide) ?_
              refine W.lcmp hx hb dX12_multiply_43 ?_
              refine zif_eq (tgt := 103) hx hb dX12_multiply_44 (by decide) hf (fun hf => ?_) (fun hf => ?_)
              · exact hc_103 k1 k2 x3 x4 s1 _ _ _ (lv_sub hl [0, 1, 2, 3, 4] rfl) hP hS hf
              · refine lv_aload_n hx hb dX12_multiply_47 rfl (lv_at hl 0 rfl) ?_
                refine gf_X12_75 X hP (k := 0) (q := 5) rfl dX12_multiply_48 rfl ?_
                refine lv_iload_n hx hb dX12_multiply_51 rfl (lv_at hl 3 rfl) ?_
                obtain ⟨g9, hf⟩ := zgd hf
                refine zald_i X hP (k := 5) (n := 462) (rs := []) rfl g9 dX12_multiply_52 ?_
                refine lv_aload_n hx hb dX12_multiply_53 rfl (lv_at hl 0 rfl) ?_
                refine gf_X12_75 X hP (k := 0) (q := 5) rfl dX12_multiply_54 rfl ?_
                refine lv_iload hx hb dX12_multiply_57 (lv_at hl 4 rfl) ?_
                obtain ⟨g10, hf⟩ := zgd hf
                refine zald_i X hP (k := 5) (n := 462) (rs := []) rfl g10 dX12_multiply_59 ?_
                refine lv_iadd hx hb dX12_multiply_60 ?_
                refine lv_aload_n hx hb dX12_multiply_61 rfl (lv_at hl 0 rfl) ?_
                refine gf_X12_27 X hP (k := 0) rfl dX12_multiply_62 ?_
                refine zicmp_gt (tgt := 103) hx hb dX12_multiply_65 (by decide) hf (fun hf => ?_) (fun hf => ?_)
                · exact hc_103 k1 k2 x3 x4 s1 _ _ _ (lv_sub hl [0, 1, 2, 3, 4] rfl) hP hS hf
                · refine lv_aload_n hx hb dX12_multiply_68 rfl (lv_at hl 0 rfl) ?_
                  refine gf_X12_168 X hP (k := 0) (q := 33) rfl dX12_multiply_69 rfl ?_
                  refine lv_aload_n hx hb dX12_multiply_72 rfl (lv_at hl 0 rfl) ?_
                  refine gf_X12_65 X hP (k := 0) (q := 7) rfl dX12_multiply_73 rfl ?_
                  refine lv_aload_n hx hb dX12_multiply_76 rfl (lv_at hl 0 rfl) ?_
                  refine gf_X12_62 X hP (k := 0) (q := 4) rfl dX12_multiply_77 rfl ?_
                  refine lv_iload_n hx hb dX12_multiply_80 rfl (lv_at hl 3 rfl) ?_
                  obtain ⟨g11, hf⟩ := zgd hf
                  refine zald_i X hP (k := 4) (n := 462) (rs := []) rfl g11 dX12_multiply_81 ?_
                  refine lv_aload_n hx hb dX12_multiply_82 rfl (lv_at hl 0 rfl) ?_
                  refine gf_X12_62 X hP (k := 0) (q := 4) rfl dX12_multiply_83 rfl ?_
                  refine lv_iload hx hb dX12_multiply_86 (lv_at hl 4 rfl) ?_
                  obtain ⟨g12, hf⟩ := zgd hf
                  refine zald_i X hP (k := 4) (n := 462) (rs := []) rfl g12 dX12_multiply_88 ?_
                  refine lv_iadd hx hb dX12_multiply_89 ?_
                  obtain ⟨g13, hf⟩ := zgd hf
                  refine zald_i X hP (k := 7) (n := 600000) (rs := []) rfl g13 dX12_multiply_90 ?_
                  refine lv_dup2_11 hx hb dX12_multiply_91 rfl rfl ?_
                  obtain ⟨g14, hf⟩ := zgd hf
                  refine zald_l X hP (k := 33) (n := 462) (rs := []) rfl g14 dX12_multiply_92 ?_
                  refine lv_aload_n hx hb dX12_multiply_93 rfl (lv_at hl 1 rfl) ?_
                  refine lv_iload_n hx hb dX12_multiply_94 rfl (lv_at hl 3 rfl) ?_
                  obtain ⟨g15, hf⟩ := zgd hf
                  obtain ⟨n19, rn19, on19, in19⟩ := zok_of g15
                  refine zald_l X hP (k := k1) on19 in19 dX12_multiply_95 ?_
                  refine lv_aload_n hx hb dX12_multiply_96 rfl (lv_at hl 2 rfl) ?_
                  refine lv_iload hx hb dX12_multiply_97 (lv_at hl 4 rfl) ?_
                  obtain ⟨g16, hf⟩ := zgd hf
                  obtain ⟨n18, rn18, on18, in18⟩ := zok_of g16
                  refine zald_l X hP (k := k2) on18 in18 dX12_multiply_99 ?_
                  refine lv_lmul hx hb dX12_multiply_100 ?_
                  refine lv_ladd hx hb dX12_multiply_101 ?_
                  obtain ⟨g17, hf⟩ := zgd hf
                  refine zast_l X hP hS (k := 33) (n := 462) (rs := []) rfl g17 dX12_multiply_102 (fun H locs hP hS => ?_)
                  exact hc_103 k1 k2 x3 x4 (zSL s1 33 ((s1.1 7 (((s1.1 4 (x3).toNatClampNeg) + (s1.1 4 (x4).toNatClampNeg))).toNatClampNeg)).toNatClampNeg (((s1.2 33 ((s1.1 7 (((s1.1 4 (x3).toNatClampNeg) + (s1.1 4 (x4).toNatClampNeg))).toNatClampNeg)).toNatClampNeg) + ((s1.2 k1 (x3).toNatClampNeg) * (s1.2 k2 (x4).toNatClampNeg))))) _ _ _ (lv_sub hl [0, 1, 2, 3, 4] rfl) hP hS hf
      intro k1 k2 x3 s1 H locs ls hl hP hS hf
      rw [f_X12_multiply_c10] at hf
      refine lv_iload_n hx hb dX12_multiply_10 rfl (lv_at hl 3 rfl) ?_
      refine lv_aload_n hx hb dX12_multiply_11 rfl (lv_at hl 0 rfl) ?_
      refine gf_X12_56 X hP (k := 0) rfl dX12_multiply_12 ?_
      refine zicmp_ge (tgt := 115) hx hb dX12_multiply_15 (by decide) hf (fun hf => ?_) (fun hf => ?_)
      · refine lv_aload_n hx hb dX12_multiply_115 rfl (lv_at hl 0 rfl) ?_
        refine lv_aload_n hx hb dX12_multiply_116 rfl (lv_at hl 0 rfl) ?_
        refine gf_X12_168 X hP (k := 0) (q := 33) rfl dX12_multiply_117 rfl ?_
        refine lv_aload_n hx hb dX12_multiply_120 rfl (lv_at hl 1 rfl) ?_
        obtain ⟨r4, s5, h6, hf⟩ := zbd_some hf
        refine zcallV X hP hS hl.1 (k := 0) (As := [.ref (ad 33), .ref (ad k1)]) (rest := []) (cn_X12_copyRow h6) cw_X12_copyRow zp_12 rfl (by decide) rfl ml_X12_241 (by decide) rfl rfl (Nat.le_of_ble_eq_true rfl) dX12_multiply_121 (fun H locs hP hS => ?_)
        exact zret_v X hP hS hf dX12_multiply_124
      · refine lv_iconst (v := 0) hx hb dX12_multiply_18 (by decide) ?_
        refine lv_istore (lv' := [(4, .int 0), (0, .ref (ad 0)), (1, .ref (ad k1)), (2, .ref (ad k2)), (3, .int x3)]) hx hb dX12_multiply_19 hl (by decide) rfl (fun ls hl => ?_)
        exact hc_21 ZF k1 k2 x3 0 s1 _ _ _ (lv_sub hl [1, 2, 3, 4, 0] rfl) hP hS hf
  rw [f_X12_multiply] at hf
  refine lv_aload_n hx hb dX12_multiply_0 rfl (lv_at hl 0 rfl) ?_
  refine lv_aload_n hx hb dX12_multiply_1 rfl (lv_at hl 0 rfl) ?_
  refine gf_X12_168 X hP (k := 0) (q := 33) rfl dX12_multiply_2 rfl ?_
  obtain ⟨r1, s2, h3, hf⟩ := zbd_some hf
  refine zcallV X hP hS hl.1 (k := 0) (As := [.ref (ad 33)]) (rest := []) (cn_X12_empty h3) cw_X12_empty zp_12 rfl (by decide) rfl ml_X12_237 (by decide) rfl rfl (Nat.le_of_ble_eq_true rfl) dX12_multiply_5 (fun H locs hP hS => ?_)
  refine lv_iconst (v := 0) hx hb dX12_multiply_8 (by decide) ?_
  refine lv_istore_n (lv' := [(3, .int 0), (0, .ref (ad 0)), (1, .ref (ad k1)), (2, .ref (ad k2))]) hx hb dX12_multiply_9 rfl hl (by decide) rfl (fun ls hl => ?_)
  exact hc_10 ZF k1 k2 0 s2 _ _ _ (lv_sub hl [1, 2, 3, 0] rfl) hP hS hf
theorem dX12_metOf_0 : decode cX12_metOf 0 = .ok (.lconst 0, 1) := by decide +kernel
theorem dX12_metOf_1 : decode cX12_metOf 1 = .ok (.lstore_n 2, 1) := by decide +kernel
theorem dX12_metOf_2 : decode cX12_metOf 2 = .ok (.iconst 0, 1) := by decide +kernel
theorem dX12_metOf_3 : decode cX12_metOf 3 = .ok (.istore 4, 2) := by decide +kernel
theorem dX12_metOf_5 : decode cX12_metOf 5 = .ok (.iload 4, 2) := by decide +kernel
theorem dX12_metOf_7 : decode cX12_metOf 7 = .ok (.aload_n 0, 1) := by decide +kernel
theorem dX12_metOf_8 : decode cX12_metOf 8 = .ok (.getfield 56, 3) := by decide +kernel
theorem dX12_metOf_11 : decode cX12_metOf 11 = .ok (.if_icmp .ge 24, 3) := by decide +kernel
theorem dX12_metOf_14 : decode cX12_metOf 14 = .ok (.lload_n 2, 1) := by decide +kernel
theorem dX12_metOf_15 : decode cX12_metOf 15 = .ok (.aload_n 1, 1) := by decide +kernel
theorem dX12_metOf_16 : decode cX12_metOf 16 = .ok (.iload 4, 2) := by decide +kernel
theorem dX12_metOf_18 : decode cX12_metOf 18 = .ok (.laload, 1) := by decide +kernel
theorem dX12_metOf_19 : decode cX12_metOf 19 = .ok (.aload_n 0, 1) := by decide +kernel
theorem dX12_metOf_20 : decode cX12_metOf 20 = .ok (.getfield 78, 3) := by decide +kernel
theorem dX12_metOf_23 : decode cX12_metOf 23 = .ok (.iload 4, 2) := by decide +kernel
theorem dX12_metOf_25 : decode cX12_metOf 25 = .ok (.laload, 1) := by decide +kernel
theorem dX12_metOf_26 : decode cX12_metOf 26 = .ok (.lmul, 1) := by decide +kernel
theorem dX12_metOf_27 : decode cX12_metOf 27 = .ok (.ladd, 1) := by decide +kernel
theorem dX12_metOf_28 : decode cX12_metOf 28 = .ok (.lstore_n 2, 1) := by decide +kernel
theorem dX12_metOf_29 : decode cX12_metOf 29 = .ok (.iinc 4 1, 3) := by decide +kernel
theorem dX12_metOf_32 : decode cX12_metOf 32 = .ok (.goto (-27), 3) := by decide +kernel
theorem dX12_metOf_35 : decode cX12_metOf 35 = .ok (.lload_n 2, 1) := by decide +kernel
theorem dX12_metOf_36 : decode cX12_metOf 36 = .ok (.lreturn, 1) := by decide +kernel
set_option maxHeartbeats 4000000 in
set_option maxRecDepth 100000 in
theorem cn_X12_metOf {l : Launch} {cA : Nat → ClassId} {ad : Nat → Nat} {D : va_G} {E : Nat → Nat} {A : Nat → Prop} {k1 : Nat} {s0 sr : SS} {rr : Int64} (hf : f_X12_metOf k1 s0 = some (rr, sr)) : zCon Om Nm cA ad D E l yX12_metOf cX12_metOf 5 (some .long) 0 A [.ref (ad 0), .ref (ad k1)] s0 (some (.long rr)) sr := by
  refine zstart (own := RX12) hOm (by decide) rfl (Nat.le_of_ble_eq_true rfl) ?_
  intro p e s m args below meth c X hP ls hl
  have hx := X.1
  have hb := X.2.1
  have hl : lv_has ls 5 [(0, .ref (ad 0)), (1, .ref (ad k1))] := hl
  have hS : va_S A s.heap s.heap [] := va_S.rf
  have hc_5 : ∀ (n5 : Nat) (k1 : Nat) (x2 : Int64) (x4 : Int32) (s1 : SS) (H : Heap) (locs : List Loc) (ls : Array Slot), lv_has ls 5 [(0, .ref (ad 0)), (1, .ref (ad k1)), (2, .long x2), (4, .int x4)] → va_P D ZCL (zw Om Nm cA ad s1) H → va_S A s.heap H locs → f_X12_metOf_c5 n5 k1 x2 x4 s1 = some (rr, sr) → W p l e (zrm 0) s m args below meth c H locs 0 0 (MQ below (zQc Om Nm cA ad D A (some (.long rr)) sr) args s 0 0 A) (F0 m 5 ls []) := by
    intro n5
    induction n5 with
    | zero =>
      intro k1 x2 x4 s1 H locs ls hl hP hS hf
      rw [f_X12_metOf_c5] at hf
      cases hf
    | succ n5 ih5 =>
      intro k1 x2 x4 s1 H locs ls hl hP hS hf
      rw [f_X12_metOf_c5] at hf
      refine lv_iload hx hb dX12_metOf_5 (lv_at hl 3 rfl) ?_
      refine lv_aload_n hx hb dX12_metOf_7 rfl (lv_at hl 0 rfl) ?_
      refine gf_X12_56 X hP (k := 0) rfl dX12_metOf_8 ?_
      refine zicmp_ge (tgt := 35) hx hb dX12_metOf_11 (by decide) hf (fun hf => ?_) (fun hf => ?_)
      · refine lv_lload_n hx hb dX12_metOf_35 rfl (lv_at hl 2 rfl) ?_
        exact zret_l X hP hS hf dX12_metOf_36
      · refine lv_lload_n hx hb dX12_metOf_14 rfl (lv_at hl 2 rfl) ?_
        refine lv_aload_n hx hb dX12_metOf_15 rfl (lv_at hl 1 rfl) ?_
        refine lv_iload hx hb dX12_metOf_16 (lv_at hl 3 rfl) ?_
        obtain ⟨g1, hf⟩ := zgd hf
        obtain ⟨n3, rn3, on3, in3⟩ := zok_of g1
        refine zald_l X hP (k := k1) on3 in3 dX12_metOf_18 ?_
        refine lv_aload_n hx hb dX12_metOf_19 rfl (lv_at hl 0 rfl) ?_
        refine gf_X12_78 X hP (k := 0) (q := 6) rfl dX12_metOf_20 rfl ?_
        refine lv_iload hx hb dX12_metOf_23 (lv_at hl 3 rfl) ?_
        obtain ⟨g2, hf⟩ := zgd hf
        refine zald_l X hP (k := 6) (n := 462) (rs := []) rfl g2 dX12_metOf_25 ?_
        refine lv_lmul hx hb dX12_metOf_26 ?_
        refine lv_ladd hx hb dX12_metOf_27 ?_
        refine lv_lstore_n (lv' := [(2, .long (x2 + ((s1.2 k1 (x4).toNatClampNeg) * (s1.2 6 (x4).toNatClampNeg)))), (0, .ref (ad 0)), (1, .ref (ad k1)), (4, .int x4)]) hx hb dX12_metOf_28 rfl hl (by decide) rfl (fun ls hl => ?_)
        refine lv_iinc (v := (x4 + 1)) (lv' := [(4, .int (x4 + 1)), (2, .long (x2 + ((s1.2 k1 (x4).toNatClampNeg) * (s1.2 6 (x4).toNatClampNeg)))), (0, .ref (ad 0)), (1, .ref (ad k1))]) hx hb dX12_metOf_29 hl (k := 3) rfl rfl (by decide) rfl (fun ls hl => ?_)
        refine lv_goto (tgt := 5) hx hb dX12_metOf_32 (by decide) ?_
        exact ih5 k1 (x2 + ((s1.2 k1 (x4).toNatClampNeg) * (s1.2 6 (x4).toNatClampNeg))) (x4 + 1) s1 _ _ _ (lv_sub hl [2, 3, 1, 0] rfl) hP hS hf
  rw [f_X12_metOf] at hf
  refine lv_lconst (v := 0) hx hb dX12_metOf_0 (by decide) ?_
  refine lv_lstore_n (lv' := [(2, .long 0), (0, .ref (ad 0)), (1, .ref (ad k1))]) hx hb dX12_metOf_1 rfl hl (by decide) rfl (fun ls hl => ?_)
  refine lv_iconst (v := 0) hx hb dX12_metOf_2 (by decide) ?_
  refine lv_istore (lv' := [(4, .int 0), (2, .long 0), (0, .ref (ad 0)), (1, .ref (ad k1))]) hx hb dX12_metOf_3 hl (by decide) rfl (fun ls hl => ?_)
  exact hc_5 ZF k1 0 0 s0 _ _ _ (lv_sub hl [2, 3, 1, 0] rfl) hP hS hf
theorem dX12_comes_0 : decode cX12_comes 0 = .ok (.iconst 0, 1) := by decide +kernel
theorem dX12_comes_1 : decode cX12_comes 1 = .ok (.istore_n 2, 1) := by decide +kernel
theorem dX12_comes_2 : decode cX12_comes 2 = .ok (.iload_n 2, 1) := by decide +kernel
theorem dX12_comes_3 : decode cX12_comes 3 = .ok (.aload_n 0, 1) := by decide +kernel
theorem dX12_comes_4 : decode cX12_comes 4 = .ok (.getfield 56, 3) := by decide +kernel
theorem dX12_comes_7 : decode cX12_comes 7 = .ok (.if_icmp .ge 27, 3) := by decide +kernel
theorem dX12_comes_10 : decode cX12_comes 10 = .ok (.aload_n 0, 1) := by decide +kernel
theorem dX12_comes_11 : decode cX12_comes 11 = .ok (.getfield 95, 3) := by decide +kernel
theorem dX12_comes_14 : decode cX12_comes 14 = .ok (.sipush 462, 3) := by decide +kernel
theorem dX12_comes_17 : decode cX12_comes 17 = .ok (.aload_n 0, 1) := by decide +kernel
theorem dX12_comes_18 : decode cX12_comes 18 = .ok (.getfield 89, 3) := by decide +kernel
theorem dX12_comes_21 : decode cX12_comes 21 = .ok (.imul, 1) := by decide +kernel
theorem dX12_comes_22 : decode cX12_comes 22 = .ok (.iload_n 2, 1) := by decide +kernel
theorem dX12_comes_23 : decode cX12_comes 23 = .ok (.iadd, 1) := by decide +kernel
theorem dX12_comes_24 : decode cX12_comes 24 = .ok (.aload_n 1, 1) := by decide +kernel
theorem dX12_comes_25 : decode cX12_comes 25 = .ok (.iload_n 2, 1) := by decide +kernel
theorem dX12_comes_26 : decode cX12_comes 26 = .ok (.laload, 1) := by decide +kernel
theorem dX12_comes_27 : decode cX12_comes 27 = .ok (.lastore, 1) := by decide +kernel
theorem dX12_comes_28 : decode cX12_comes 28 = .ok (.iinc 2 1, 3) := by decide +kernel
theorem dX12_comes_31 : decode cX12_comes 31 = .ok (.goto (-29), 3) := by decide +kernel
theorem dX12_comes_34 : decode cX12_comes 34 = .ok (.aload_n 0, 1) := by decide +kernel
theorem dX12_comes_35 : decode cX12_comes 35 = .ok (.getfield 105, 3) := by decide +kernel
theorem dX12_comes_38 : decode cX12_comes 38 = .ok (.aload_n 0, 1) := by decide +kernel
theorem dX12_comes_39 : decode cX12_comes 39 = .ok (.getfield 89, 3) := by decide +kernel
theorem dX12_comes_42 : decode cX12_comes 42 = .ok (.iconst 0, 1) := by decide +kernel
theorem dX12_comes_43 : decode cX12_comes 43 = .ok (.iastore, 1) := by decide +kernel
theorem dX12_comes_44 : decode cX12_comes 44 = .ok (.aload_n 0, 1) := by decide +kernel
theorem dX12_comes_45 : decode cX12_comes 45 = .ok (.getfield 108, 3) := by decide +kernel
theorem dX12_comes_48 : decode cX12_comes 48 = .ok (.aload_n 0, 1) := by decide +kernel
theorem dX12_comes_49 : decode cX12_comes 49 = .ok (.getfield 89, 3) := by decide +kernel
theorem dX12_comes_52 : decode cX12_comes 52 = .ok (.iconst 0, 1) := by decide +kernel
theorem dX12_comes_53 : decode cX12_comes 53 = .ok (.iastore, 1) := by decide +kernel
theorem dX12_comes_54 : decode cX12_comes 54 = .ok (.aload_n 0, 1) := by decide +kernel
theorem dX12_comes_55 : decode cX12_comes 55 = .ok (.dup, 1) := by decide +kernel
theorem dX12_comes_56 : decode cX12_comes 56 = .ok (.getfield 89, 3) := by decide +kernel
theorem dX12_comes_59 : decode cX12_comes 59 = .ok (.iconst 1, 1) := by decide +kernel
theorem dX12_comes_60 : decode cX12_comes 60 = .ok (.iadd, 1) := by decide +kernel
theorem dX12_comes_61 : decode cX12_comes 61 = .ok (.putfield 89, 3) := by decide +kernel
theorem dX12_comes_64 : decode cX12_comes 64 = .ok (.aload_n 0, 1) := by decide +kernel
theorem dX12_comes_65 : decode cX12_comes 65 = .ok (.getfield 89, 3) := by decide +kernel
theorem dX12_comes_68 : decode cX12_comes 68 = .ok (.iconst 1, 1) := by decide +kernel
theorem dX12_comes_69 : decode cX12_comes 69 = .ok (.isub, 1) := by decide +kernel
theorem dX12_comes_70 : decode cX12_comes 70 = .ok (.ireturn, 1) := by decide +kernel
set_option maxHeartbeats 4000000 in
set_option maxRecDepth 100000 in
theorem cn_X12_comes {l : Launch} {cA : Nat → ClassId} {ad : Nat → Nat} {D : va_G} {E : Nat → Nat} {A : Nat → Prop} {k1 : Nat} {s0 sr : SS} {rr : Int32} (hf : f_X12_comes k1 s0 = some (rr, sr)) : zCon Om Nm cA ad D E l yX12_comes cX12_comes 3 (some .int) 0 A [.ref (ad 0), .ref (ad k1)] s0 (some (.int rr)) sr := by
  refine zstart (own := RX12) hOm (by decide) rfl (Nat.le_of_ble_eq_true rfl) ?_
  intro p e s m args below meth c X hP ls hl
  have hx := X.1
  have hb := X.2.1
  have hl : lv_has ls 3 [(0, .ref (ad 0)), (1, .ref (ad k1))] := hl
  have hS : va_S A s.heap s.heap [] := va_S.rf
  have hc_2 : ∀ (n2 : Nat) (k1 : Nat) (x2 : Int32) (s1 : SS) (H : Heap) (locs : List Loc) (ls : Array Slot), lv_has ls 3 [(0, .ref (ad 0)), (1, .ref (ad k1)), (2, .int x2)] → va_P D ZCL (zw Om Nm cA ad s1) H → va_S A s.heap H locs → f_X12_comes_c2 n2 k1 x2 s1 = some (rr, sr) → W p l e (zrm 0) s m args below meth c H locs 0 0 (MQ below (zQc Om Nm cA ad D A (some (.int rr)) sr) args s 0 0 A) (F0 m 2 ls []) := by
    intro n2
    induction n2 with
    | zero =>
      intro k1 x2 s1 H locs ls hl hP hS hf
      rw [f_X12_comes_c2] at hf
      cases hf
    | succ n2 ih2 =>
      intro k1 x2 s1 H locs ls hl hP hS hf
      rw [f_X12_comes_c2] at hf
      refine lv_iload_n hx hb dX12_comes_2 rfl (lv_at hl 2 rfl) ?_
      refine lv_aload_n hx hb dX12_comes_3 rfl (lv_at hl 0 rfl) ?_
      refine gf_X12_56 X hP (k := 0) rfl dX12_comes_4 ?_
      refine zicmp_ge (tgt := 34) hx hb dX12_comes_7 (by decide) hf (fun hf => ?_) (fun hf => ?_)
      · refine lv_aload_n hx hb dX12_comes_34 rfl (lv_at hl 0 rfl) ?_
        refine gf_X12_105 X hP (k := 0) (q := 8) rfl dX12_comes_35 rfl ?_
        refine lv_aload_n hx hb dX12_comes_38 rfl (lv_at hl 0 rfl) ?_
        refine gf_X12_89 X hP (k := 0) rfl dX12_comes_39 ?_
        refine lv_iconst (v := 0) hx hb dX12_comes_42 (by decide) ?_
        obtain ⟨g1, hf⟩ := zgd hf
        refine zast_i X hP hS (k := 8) (n := 8) (rs := []) rfl g1 dX12_comes_43 (fun H locs hP hS => ?_)
        refine lv_aload_n hx hb dX12_comes_44 rfl (lv_at hl 0 rfl) ?_
        refine gf_X12_108 X hP (k := 0) (q := 9) rfl dX12_comes_45 rfl ?_
        refine lv_aload_n hx hb dX12_comes_48 rfl (lv_at hl 0 rfl) ?_
        refine gf_X12_89 X hP (k := 0) rfl dX12_comes_49 ?_
        refine lv_iconst (v := 0) hx hb dX12_comes_52 (by decide) ?_
        obtain ⟨g2, hf⟩ := zgd hf
        refine zast_i X hP hS (k := 9) (n := 8) (rs := []) rfl g2 dX12_comes_53 (fun H locs hP hS => ?_)
        refine lv_aload_n hx hb dX12_comes_54 rfl (lv_at hl 0 rfl) ?_
        refine lv_dup hx hb dX12_comes_55 rfl ?_
        refine gf_X12_89 X hP (k := 0) rfl dX12_comes_56 ?_
        refine lv_iconst (v := 1) hx hb dX12_comes_59 (by decide) ?_
        refine lv_iadd hx hb dX12_comes_60 ?_
        refine pf_X12_89 X hP hS (k := 0) rfl dX12_comes_61 (fun H locs hP hS => ?_)
        refine lv_aload_n hx hb dX12_comes_64 rfl (lv_at hl 0 rfl) ?_
        refine gf_X12_89 X hP (k := 0) rfl dX12_comes_65 ?_
        refine lv_iconst (v := 1) hx hb dX12_comes_68 (by decide) ?_
        refine lv_isub hx hb dX12_comes_69 ?_
        exact zret_i X hP hS hf rfl dX12_comes_70
      · refine lv_aload_n hx hb dX12_comes_10 rfl (lv_at hl 0 rfl) ?_
        refine gf_X12_95 X hP (k := 0) (q := 10) rfl dX12_comes_11 rfl ?_
        refine lv_sipush (v := 462) hx hb dX12_comes_14 (by decide) ?_
        refine lv_aload_n hx hb dX12_comes_17 rfl (lv_at hl 0 rfl) ?_
        refine gf_X12_89 X hP (k := 0) rfl dX12_comes_18 ?_
        refine lv_imul hx hb dX12_comes_21 ?_
        refine lv_iload_n hx hb dX12_comes_22 rfl (lv_at hl 2 rfl) ?_
        refine lv_iadd hx hb dX12_comes_23 ?_
        refine lv_aload_n hx hb dX12_comes_24 rfl (lv_at hl 1 rfl) ?_
        refine lv_iload_n hx hb dX12_comes_25 rfl (lv_at hl 2 rfl) ?_
        obtain ⟨g3, hf⟩ := zgd hf
        obtain ⟨n5, rn5, on5, in5⟩ := zok_of g3
        refine zald_l X hP (k := k1) on5 in5 dX12_comes_26 ?_
        obtain ⟨g4, hf⟩ := zgd hf
        refine zast_l X hP hS (k := 10) (n := 3696) (rs := []) rfl g4 dX12_comes_27 (fun H locs hP hS => ?_)
        refine lv_iinc (v := (x2 + 1)) (lv' := [(2, .int (x2 + 1)), (0, .ref (ad 0)), (1, .ref (ad k1))]) hx hb dX12_comes_28 hl (k := 2) rfl rfl (by decide) rfl (fun ls hl => ?_)
        refine lv_goto (tgt := 2) hx hb dX12_comes_31 (by decide) ?_
        exact ih2 k1 (x2 + 1) (zSL s1 10 ((((462 : Int32) * (s1.1 0 12)) + x2)).toNatClampNeg (s1.2 k1 (x2).toNatClampNeg)) _ _ _ (lv_sub hl [1, 2, 0] rfl) hP hS hf
  rw [f_X12_comes] at hf
  refine lv_iconst (v := 0) hx hb dX12_comes_0 (by decide) ?_
  refine lv_istore_n (lv' := [(2, .int 0), (0, .ref (ad 0)), (1, .ref (ad k1))]) hx hb dX12_comes_1 rfl hl (by decide) rfl (fun ls hl => ?_)
  exact hc_2 ZF k1 0 s0 _ _ _ (lv_sub hl [1, 2, 0] rfl) hP hS hf
theorem dX12_become_0 : decode cX12_become 0 = .ok (.iload_n 2, 1) := by decide +kernel
theorem dX12_become_1 : decode cX12_become 1 = .ok (.ifCond .ne 13, 3) := by decide +kernel
theorem dX12_become_4 : decode cX12_become 4 = .ok (.aload_n 0, 1) := by decide +kernel
theorem dX12_become_5 : decode cX12_become 5 = .ok (.getfield 105, 3) := by decide +kernel
theorem dX12_become_8 : decode cX12_become 8 = .ok (.iload_n 1, 1) := by decide +kernel
theorem dX12_become_9 : decode cX12_become 9 = .ok (.iload_n 3, 1) := by decide +kernel
theorem dX12_become_10 : decode cX12_become 10 = .ok (.iastore, 1) := by decide +kernel
theorem dX12_become_11 : decode cX12_become 11 = .ok (.goto 10, 3) := by decide +kernel
theorem dX12_become_14 : decode cX12_become 14 = .ok (.aload_n 0, 1) := by decide +kernel
theorem dX12_become_15 : decode cX12_become 15 = .ok (.getfield 108, 3) := by decide +kernel
theorem dX12_become_18 : decode cX12_become 18 = .ok (.iload_n 1, 1) := by decide +kernel
theorem dX12_become_19 : decode cX12_become 19 = .ok (.iload_n 3, 1) := by decide +kernel
theorem dX12_become_20 : decode cX12_become 20 = .ok (.iastore, 1) := by decide +kernel
theorem dX12_become_21 : decode cX12_become 21 = .ok (.return_, 1) := by decide +kernel
set_option maxHeartbeats 4000000 in
set_option maxRecDepth 100000 in
theorem cn_X12_become {l : Launch} {cA : Nat → ClassId} {ad : Nat → Nat} {D : va_G} {E : Nat → Nat} {A : Nat → Prop} {x1 : Int32} {x2 : Int32} {x3 : Int32} {s0 sr : SS} {rr : Unit} (hf : f_X12_become x1 x2 x3 s0 = some (rr, sr)) : zCon Om Nm cA ad D E l yX12_become cX12_become 4 none 0 A [.ref (ad 0), .int x1, .int x2, .int x3] s0 none sr := by
  refine zstart (own := RX12) hOm (by decide) rfl (Nat.le_of_ble_eq_true rfl) ?_
  intro p e s m args below meth c X hP ls hl
  have hx := X.1
  have hb := X.2.1
  have hl : lv_has ls 4 [(0, .ref (ad 0)), (1, .int x1), (2, .int x2), (3, .int x3)] := hl
  have hS : va_S A s.heap s.heap [] := va_S.rf
  rw [f_X12_become] at hf
  refine lv_iload_n hx hb dX12_become_0 rfl (lv_at hl 2 rfl) ?_
  refine zif_ne (tgt := 14) hx hb dX12_become_1 (by decide) hf (fun hf => ?_) (fun hf => ?_)
  · refine lv_aload_n hx hb dX12_become_14 rfl (lv_at hl 0 rfl) ?_
    refine gf_X12_108 X hP (k := 0) (q := 9) rfl dX12_become_15 rfl ?_
    refine lv_iload_n hx hb dX12_become_18 rfl (lv_at hl 1 rfl) ?_
    refine lv_iload_n hx hb dX12_become_19 rfl (lv_at hl 3 rfl) ?_
    obtain ⟨g1, hf⟩ := zgd hf
    refine zast_i X hP hS (k := 9) (n := 8) (rs := []) rfl g1 dX12_become_20 (fun H locs hP hS => ?_)
    exact zret_v X hP hS hf dX12_become_21
  · refine lv_aload_n hx hb dX12_become_4 rfl (lv_at hl 0 rfl) ?_
    refine gf_X12_105 X hP (k := 0) (q := 8) rfl dX12_become_5 rfl ?_
    refine lv_iload_n hx hb dX12_become_8 rfl (lv_at hl 1 rfl) ?_
    refine lv_iload_n hx hb dX12_become_9 rfl (lv_at hl 3 rfl) ?_
    obtain ⟨g2, hf⟩ := zgd hf
    refine zast_i X hP hS (k := 8) (n := 8) (rs := []) rfl g2 dX12_become_10 (fun H locs hP hS => ?_)
    refine lv_goto (tgt := 21) hx hb dX12_become_11 (by decide) ?_
    exact zret_v X hP hS hf dX12_become_21
theorem dX12_set_0 : decode cX12_set 0 = .ok (.aload_n 0, 1) := by decide +kernel
theorem dX12_set_1 : decode cX12_set 1 = .ok (.iload_n 1, 1) := by decide +kernel
theorem dX12_set_2 : decode cX12_set 2 = .ok (.i2l, 1) := by decide +kernel
theorem dX12_set_3 : decode cX12_set 3 = .ok (.invokevirtual 245, 3) := by decide +kernel
theorem dX12_set_6 : decode cX12_set 6 = .ok (.ifCond .eq 35, 3) := by decide +kernel
theorem dX12_set_9 : decode cX12_set 9 = .ok (.iload_n 2, 1) := by decide +kernel
theorem dX12_set_10 : decode cX12_set 10 = .ok (.i2l, 1) := by decide +kernel
theorem dX12_set_11 : decode cX12_set 11 = .ok (.lconst 0, 1) := by decide +kernel
theorem dX12_set_12 : decode cX12_set 12 = .ok (.lconst 1, 1) := by decide +kernel
theorem dX12_set_13 : decode cX12_set 13 = .ok (.invokestatic 203, 3) := by decide +kernel
theorem dX12_set_16 : decode cX12_set 16 = .ok (.ifCond .eq 25, 3) := by decide +kernel
theorem dX12_set_19 : decode cX12_set 19 = .ok (.iload_n 3, 1) := by decide +kernel
theorem dX12_set_20 : decode cX12_set 20 = .ok (.i2l, 1) := by decide +kernel
theorem dX12_set_21 : decode cX12_set 21 = .ok (.lconst 0, 1) := by decide +kernel
theorem dX12_set_22 : decode cX12_set 22 = .ok (.iload_n 2, 1) := by decide +kernel
theorem dX12_set_23 : decode cX12_set 23 = .ok (.ifCond .ne 9, 3) := by decide +kernel
theorem dX12_set_26 : decode cX12_set 26 = .ok (.ldc2_w 201, 3) := by decide +kernel
theorem dX12_set_29 : decode cX12_set 29 = .ok (.goto 6, 3) := by decide +kernel
theorem dX12_set_32 : decode cX12_set 32 = .ok (.ldc2_w 210, 3) := by decide +kernel
theorem dX12_set_35 : decode cX12_set 35 = .ok (.invokestatic 203, 3) := by decide +kernel
theorem dX12_set_38 : decode cX12_set 38 = .ok (.ifCond .ne 5, 3) := by decide +kernel
theorem dX12_set_41 : decode cX12_set 41 = .ok (.iconst (-1), 1) := by decide +kernel
theorem dX12_set_42 : decode cX12_set 42 = .ok (.ireturn, 1) := by decide +kernel
theorem dX12_set_43 : decode cX12_set 43 = .ok (.iload_n 2, 1) := by decide +kernel
theorem dX12_set_44 : decode cX12_set 44 = .ok (.ifCond .ne 12, 3) := by decide +kernel
theorem dX12_set_47 : decode cX12_set 47 = .ok (.aload_n 0, 1) := by decide +kernel
theorem dX12_set_48 : decode cX12_set 48 = .ok (.getfield 105, 3) := by decide +kernel
theorem dX12_set_51 : decode cX12_set 51 = .ok (.iload_n 1, 1) := by decide +kernel
theorem dX12_set_52 : decode cX12_set 52 = .ok (.iaload, 1) := by decide +kernel
theorem dX12_set_53 : decode cX12_set 53 = .ok (.goto 9, 3) := by decide +kernel
theorem dX12_set_56 : decode cX12_set 56 = .ok (.aload_n 0, 1) := by decide +kernel
theorem dX12_set_57 : decode cX12_set 57 = .ok (.getfield 108, 3) := by decide +kernel
theorem dX12_set_60 : decode cX12_set 60 = .ok (.iload_n 1, 1) := by decide +kernel
theorem dX12_set_61 : decode cX12_set 61 = .ok (.iaload, 1) := by decide +kernel
theorem dX12_set_62 : decode cX12_set 62 = .ok (.istore 4, 2) := by decide +kernel
theorem dX12_set_64 : decode cX12_set 64 = .ok (.iload 4, 2) := by decide +kernel
theorem dX12_set_66 : decode cX12_set 66 = .ok (.iload_n 3, 1) := by decide +kernel
theorem dX12_set_67 : decode cX12_set 67 = .ok (.if_icmp .eq 161, 3) := by decide +kernel
theorem dX12_set_70 : decode cX12_set 70 = .ok (.aload_n 0, 1) := by decide +kernel
theorem dX12_set_71 : decode cX12_set 71 = .ok (.getfield 192, 3) := by decide +kernel
theorem dX12_set_74 : decode cX12_set 74 = .ok (.bipush 12, 2) := by decide +kernel
theorem dX12_set_76 : decode cX12_set 76 = .ok (.if_icmp .ne 89, 3) := by decide +kernel
theorem dX12_set_79 : decode cX12_set 79 = .ok (.iconst 1, 1) := by decide +kernel
theorem dX12_set_80 : decode cX12_set 80 = .ok (.istore 5, 2) := by decide +kernel
theorem dX12_set_82 : decode cX12_set 82 = .ok (.iload 5, 2) := by decide +kernel
theorem dX12_set_84 : decode cX12_set 84 = .ok (.bipush 12, 2) := by decide +kernel
theorem dX12_set_86 : decode cX12_set 86 = .ok (.if_icmp .ge 73, 3) := by decide +kernel
theorem dX12_set_89 : decode cX12_set 89 = .ok (.aload_n 0, 1) := by decide +kernel
theorem dX12_set_90 : decode cX12_set 90 = .ok (.getfield 120, 3) := by decide +kernel
theorem dX12_set_93 : decode cX12_set 93 = .ok (.iload 5, 2) := by decide +kernel
theorem dX12_set_95 : decode cX12_set 95 = .ok (.iconst 1, 1) := by decide +kernel
theorem dX12_set_96 : decode cX12_set 96 = .ok (.isub, 1) := by decide +kernel
theorem dX12_set_97 : decode cX12_set 97 = .ok (.aload_n 0, 1) := by decide +kernel
theorem dX12_set_98 : decode cX12_set 98 = .ok (.getfield 120, 3) := by decide +kernel
theorem dX12_set_101 : decode cX12_set 101 = .ok (.iload 5, 2) := by decide +kernel
theorem dX12_set_103 : decode cX12_set 103 = .ok (.iaload, 1) := by decide +kernel
theorem dX12_set_104 : decode cX12_set 104 = .ok (.iastore, 1) := by decide +kernel
theorem dX12_set_105 : decode cX12_set 105 = .ok (.aload_n 0, 1) := by decide +kernel
theorem dX12_set_106 : decode cX12_set 106 = .ok (.getfield 123, 3) := by decide +kernel
theorem dX12_set_109 : decode cX12_set 109 = .ok (.iload 5, 2) := by decide +kernel
theorem dX12_set_111 : decode cX12_set 111 = .ok (.iconst 1, 1) := by decide +kernel
theorem dX12_set_112 : decode cX12_set 112 = .ok (.isub, 1) := by decide +kernel
theorem dX12_set_113 : decode cX12_set 113 = .ok (.aload_n 0, 1) := by decide +kernel
theorem dX12_set_114 : decode cX12_set 114 = .ok (.getfield 123, 3) := by decide +kernel
theorem dX12_set_117 : decode cX12_set 117 = .ok (.iload 5, 2) := by decide +kernel
theorem dX12_set_119 : decode cX12_set 119 = .ok (.iaload, 1) := by decide +kernel
theorem dX12_set_120 : decode cX12_set 120 = .ok (.iastore, 1) := by decide +kernel
theorem dX12_set_121 : decode cX12_set 121 = .ok (.aload_n 0, 1) := by decide +kernel
theorem dX12_set_122 : decode cX12_set 122 = .ok (.getfield 126, 3) := by decide +kernel
theorem dX12_set_125 : decode cX12_set 125 = .ok (.iload 5, 2) := by decide +kernel
theorem dX12_set_127 : decode cX12_set 127 = .ok (.iconst 1, 1) := by decide +kernel
theorem dX12_set_128 : decode cX12_set 128 = .ok (.isub, 1) := by decide +kernel
theorem dX12_set_129 : decode cX12_set 129 = .ok (.aload_n 0, 1) := by decide +kernel
theorem dX12_set_130 : decode cX12_set 130 = .ok (.getfield 126, 3) := by decide +kernel
theorem dX12_set_133 : decode cX12_set 133 = .ok (.iload 5, 2) := by decide +kernel
theorem dX12_set_135 : decode cX12_set 135 = .ok (.iaload, 1) := by decide +kernel
theorem dX12_set_136 : decode cX12_set 136 = .ok (.iastore, 1) := by decide +kernel
theorem dX12_set_137 : decode cX12_set 137 = .ok (.aload_n 0, 1) := by decide +kernel
theorem dX12_set_138 : decode cX12_set 138 = .ok (.getfield 129, 3) := by decide +kernel
theorem dX12_set_141 : decode cX12_set 141 = .ok (.iload 5, 2) := by decide +kernel
theorem dX12_set_143 : decode cX12_set 143 = .ok (.iconst 1, 1) := by decide +kernel
theorem dX12_set_144 : decode cX12_set 144 = .ok (.isub, 1) := by decide +kernel
theorem dX12_set_145 : decode cX12_set 145 = .ok (.aload_n 0, 1) := by decide +kernel
theorem dX12_set_146 : decode cX12_set 146 = .ok (.getfield 129, 3) := by decide +kernel
theorem dX12_set_149 : decode cX12_set 149 = .ok (.iload 5, 2) := by decide +kernel
theorem dX12_set_151 : decode cX12_set 151 = .ok (.iaload, 1) := by decide +kernel
theorem dX12_set_152 : decode cX12_set 152 = .ok (.iastore, 1) := by decide +kernel
theorem dX12_set_153 : decode cX12_set 153 = .ok (.iinc 5 1, 3) := by decide +kernel
theorem dX12_set_156 : decode cX12_set 156 = .ok (.goto (-74), 3) := by decide +kernel
theorem dX12_set_159 : decode cX12_set 159 = .ok (.aload_n 0, 1) := by decide +kernel
theorem dX12_set_160 : decode cX12_set 160 = .ok (.bipush 11, 2) := by decide +kernel
theorem dX12_set_162 : decode cX12_set 162 = .ok (.putfield 192, 3) := by decide +kernel
theorem dX12_set_165 : decode cX12_set 165 = .ok (.aload_n 0, 1) := by decide +kernel
theorem dX12_set_166 : decode cX12_set 166 = .ok (.getfield 120, 3) := by decide +kernel
theorem dX12_set_169 : decode cX12_set 169 = .ok (.aload_n 0, 1) := by decide +kernel
theorem dX12_set_170 : decode cX12_set 170 = .ok (.getfield 192, 3) := by decide +kernel
theorem dX12_set_173 : decode cX12_set 173 = .ok (.iload_n 1, 1) := by decide +kernel
theorem dX12_set_174 : decode cX12_set 174 = .ok (.iastore, 1) := by decide +kernel
theorem dX12_set_175 : decode cX12_set 175 = .ok (.aload_n 0, 1) := by decide +kernel
theorem dX12_set_176 : decode cX12_set 176 = .ok (.getfield 123, 3) := by decide +kernel
theorem dX12_set_179 : decode cX12_set 179 = .ok (.aload_n 0, 1) := by decide +kernel
theorem dX12_set_180 : decode cX12_set 180 = .ok (.getfield 192, 3) := by decide +kernel
theorem dX12_set_183 : decode cX12_set 183 = .ok (.iload_n 2, 1) := by decide +kernel
theorem dX12_set_184 : decode cX12_set 184 = .ok (.iastore, 1) := by decide +kernel
theorem dX12_set_185 : decode cX12_set 185 = .ok (.aload_n 0, 1) := by decide +kernel
theorem dX12_set_186 : decode cX12_set 186 = .ok (.getfield 126, 3) := by decide +kernel
theorem dX12_set_189 : decode cX12_set 189 = .ok (.aload_n 0, 1) := by decide +kernel
theorem dX12_set_190 : decode cX12_set 190 = .ok (.getfield 192, 3) := by decide +kernel
theorem dX12_set_193 : decode cX12_set 193 = .ok (.iload 4, 2) := by decide +kernel
theorem dX12_set_195 : decode cX12_set 195 = .ok (.iastore, 1) := by decide +kernel
theorem dX12_set_196 : decode cX12_set 196 = .ok (.aload_n 0, 1) := by decide +kernel
theorem dX12_set_197 : decode cX12_set 197 = .ok (.getfield 129, 3) := by decide +kernel
theorem dX12_set_200 : decode cX12_set 200 = .ok (.aload_n 0, 1) := by decide +kernel
theorem dX12_set_201 : decode cX12_set 201 = .ok (.getfield 192, 3) := by decide +kernel
theorem dX12_set_204 : decode cX12_set 204 = .ok (.iload_n 3, 1) := by decide +kernel
theorem dX12_set_205 : decode cX12_set 205 = .ok (.iastore, 1) := by decide +kernel
theorem dX12_set_206 : decode cX12_set 206 = .ok (.aload_n 0, 1) := by decide +kernel
theorem dX12_set_207 : decode cX12_set 207 = .ok (.dup, 1) := by decide +kernel
theorem dX12_set_208 : decode cX12_set 208 = .ok (.getfield 192, 3) := by decide +kernel
theorem dX12_set_211 : decode cX12_set 211 = .ok (.iconst 1, 1) := by decide +kernel
theorem dX12_set_212 : decode cX12_set 212 = .ok (.iadd, 1) := by decide +kernel
theorem dX12_set_213 : decode cX12_set 213 = .ok (.putfield 192, 3) := by decide +kernel
theorem dX12_set_216 : decode cX12_set 216 = .ok (.aload_n 0, 1) := by decide +kernel
theorem dX12_set_217 : decode cX12_set 217 = .ok (.iconst 0, 1) := by decide +kernel
theorem dX12_set_218 : decode cX12_set 218 = .ok (.putfield 195, 3) := by decide +kernel
theorem dX12_set_221 : decode cX12_set 221 = .ok (.aload_n 0, 1) := by decide +kernel
theorem dX12_set_222 : decode cX12_set 222 = .ok (.iload_n 1, 1) := by decide +kernel
theorem dX12_set_223 : decode cX12_set 223 = .ok (.iload_n 2, 1) := by decide +kernel
theorem dX12_set_224 : decode cX12_set 224 = .ok (.iload_n 3, 1) := by decide +kernel
theorem dX12_set_225 : decode cX12_set 225 = .ok (.invokevirtual 249, 3) := by decide +kernel
theorem dX12_set_228 : decode cX12_set 228 = .ok (.iload 4, 2) := by decide +kernel
theorem dX12_set_230 : decode cX12_set 230 = .ok (.ireturn, 1) := by decide +kernel
set_option maxHeartbeats 4000000 in
set_option maxRecDepth 100000 in
theorem cn_X12_set {l : Launch} {cA : Nat → ClassId} {ad : Nat → Nat} {D : va_G} {E : Nat → Nat} {A : Nat → Prop} {x1 : Int32} {x2 : Int32} {x3 : Int32} {s0 sr : SS} {rr : Int32} (hf : f_X12_set x1 x2 x3 s0 = some (rr, sr)) : zCon Om Nm cA ad D E l yX12_set cX12_set 6 (some .int) 2 A [.ref (ad 0), .int x1, .int x2, .int x3] s0 (some (.int rr)) sr := by
  refine zstart (own := RX12) hOm (by decide) rfl (Nat.le_of_ble_eq_true rfl) ?_
  intro p e s m args below meth c X hP ls hl
  have hx := X.1
  have hb := X.2.1
  have hl : lv_has ls 6 [(0, .ref (ad 0)), (1, .int x1), (2, .int x2), (3, .int x3)] := hl
  have hS : va_S A s.heap s.heap [] := va_S.rf
  have hc_165 : ∀ (x1 : Int32) (x2 : Int32) (x3 : Int32) (x4 : Int32) (s1 : SS) (H : Heap) (locs : List Loc) (ls : Array Slot), lv_has ls 6 [(0, .ref (ad 0)), (1, .int x1), (2, .int x2), (3, .int x3), (4, .int x4)] → va_P D ZCL (zw Om Nm cA ad s1) H → va_S A s.heap H locs → f_X12_set_c165 x1 x2 x3 x4 s1 = some (rr, sr) → W p l e (zrm 2) s m args below meth c H locs 0 0 (MQ below (zQc Om Nm cA ad D A (some (.int rr)) sr) args s 0 0 A) (F0 m 165 ls []) := by
    intro x1 x2 x3 x4 s1 H locs ls hl hP hS hf
    rw [f_X12_set_c165] at hf
    refine lv_aload_n hx hb dX12_set_165 rfl (lv_at hl 0 rfl) ?_
    refine gf_X12_120 X hP (k := 0) (q := 16) rfl dX12_set_166 rfl ?_
    refine lv_aload_n hx hb dX12_set_169 rfl (lv_at hl 0 rfl) ?_
    refine gf_X12_192 X hP (k := 0) rfl dX12_set_170 ?_
    refine lv_iload_n hx hb dX12_set_173 rfl (lv_at hl 1 rfl) ?_
    obtain ⟨g11, hf⟩ := zgd hf
    refine zast_i X hP hS (k := 16) (n := 12) (rs := []) rfl g11 dX12_set_174 (fun H locs hP hS => ?_)
    refine lv_aload_n hx hb dX12_set_175 rfl (lv_at hl 0 rfl) ?_
    refine gf_X12_123 X hP (k := 0) (q := 17) rfl dX12_set_176 rfl ?_
    refine lv_aload_n hx hb dX12_set_179 rfl (lv_at hl 0 rfl) ?_
    refine gf_X12_192 X hP (k := 0) rfl dX12_set_180 ?_
    refine lv_iload_n hx hb dX12_set_183 rfl (lv_at hl 2 rfl) ?_
    obtain ⟨g12, hf⟩ := zgd hf
    refine zast_i X hP hS (k := 17) (n := 12) (rs := []) rfl g12 dX12_set_184 (fun H locs hP hS => ?_)
    refine lv_aload_n hx hb dX12_set_185 rfl (lv_at hl 0 rfl) ?_
    refine gf_X12_126 X hP (k := 0) (q := 18) rfl dX12_set_186 rfl ?_
    refine lv_aload_n hx hb dX12_set_189 rfl (lv_at hl 0 rfl) ?_
    refine gf_X12_192 X hP (k := 0) rfl dX12_set_190 ?_
    refine lv_iload hx hb dX12_set_193 (lv_at hl 4 rfl) ?_
    obtain ⟨g13, hf⟩ := zgd hf
    refine zast_i X hP hS (k := 18) (n := 12) (rs := []) rfl g13 dX12_set_195 (fun H locs hP hS => ?_)
    refine lv_aload_n hx hb dX12_set_196 rfl (lv_at hl 0 rfl) ?_
    refine gf_X12_129 X hP (k := 0) (q := 19) rfl dX12_set_197 rfl ?_
    refine lv_aload_n hx hb dX12_set_200 rfl (lv_at hl 0 rfl) ?_
    refine gf_X12_192 X hP (k := 0) rfl dX12_set_201 ?_
    refine lv_iload_n hx hb dX12_set_204 rfl (lv_at hl 3 rfl) ?_
    obtain ⟨g14, hf⟩ := zgd hf
    refine zast_i X hP hS (k := 19) (n := 12) (rs := []) rfl g14 dX12_set_205 (fun H locs hP hS => ?_)
    refine lv_aload_n hx hb dX12_set_206 rfl (lv_at hl 0 rfl) ?_
    refine lv_dup hx hb dX12_set_207 rfl ?_
    refine gf_X12_192 X hP (k := 0) rfl dX12_set_208 ?_
    refine lv_iconst (v := 1) hx hb dX12_set_211 (by decide) ?_
    refine lv_iadd hx hb dX12_set_212 ?_
    refine pf_X12_192 X hP hS (k := 0) rfl dX12_set_213 (fun H locs hP hS => ?_)
    refine lv_aload_n hx hb dX12_set_216 rfl (lv_at hl 0 rfl) ?_
    refine lv_iconst (v := 0) hx hb dX12_set_217 (by decide) ?_
    refine pf_X12_195 X hP hS (k := 0) rfl dX12_set_218 (fun H locs hP hS => ?_)
    refine lv_aload_n hx hb dX12_set_221 rfl (lv_at hl 0 rfl) ?_
    refine lv_iload_n hx hb dX12_set_222 rfl (lv_at hl 1 rfl) ?_
    refine lv_iload_n hx hb dX12_set_223 rfl (lv_at hl 2 rfl) ?_
    refine lv_iload_n hx hb dX12_set_224 rfl (lv_at hl 3 rfl) ?_
    obtain ⟨r15, s16, h17, hf⟩ := zbd_some hf
    refine zcallV X hP hS hl.1 (k := 0) (As := [.int x1, .int x2, .int x3]) (rest := []) (cn_X12_become h17) cw_X12_become zp_12 rfl (by decide) rfl ml_X12_249 (by decide) rfl rfl (Nat.le_of_ble_eq_true rfl) dX12_set_225 (fun H locs hP hS => ?_)
    refine lv_iload hx hb dX12_set_228 (lv_at hl 4 rfl) ?_
    exact zret_i X hP hS hf rfl dX12_set_230
  have hc_82 : ∀ (n82 : Nat) (x1 : Int32) (x2 : Int32) (x3 : Int32) (x4 : Int32) (x5 : Int32) (s1 : SS) (H : Heap) (locs : List Loc) (ls : Array Slot), lv_has ls 6 [(0, .ref (ad 0)), (1, .int x1), (2, .int x2), (3, .int x3), (4, .int x4), (5, .int x5)] → va_P D ZCL (zw Om Nm cA ad s1) H → va_S A s.heap H locs → f_X12_set_c82 n82 x1 x2 x3 x4 x5 s1 = some (rr, sr) → W p l e (zrm 2) s m args below meth c H locs 0 0 (MQ below (zQc Om Nm cA ad D A (some (.int rr)) sr) args s 0 0 A) (F0 m 82 ls []) := by
    intro n82
    induction n82 with
    | zero =>
      intro x1 x2 x3 x4 x5 s1 H locs ls hl hP hS hf
      rw [f_X12_set_c82] at hf
      cases hf
    | succ n82 ih82 =>
      intro x1 x2 x3 x4 x5 s1 H locs ls hl hP hS hf
      rw [f_X12_set_c82] at hf
      refine lv_iload hx hb dX12_set_82 (lv_at hl 5 rfl) ?_
      refine lv_bipush (v := 12) hx hb dX12_set_84 (by decide) ?_
      refine zicmp_ge (tgt := 159) hx hb dX12_set_86 (by decide) hf (fun hf => ?_) (fun hf => ?_)
      · refine lv_aload_n hx hb dX12_set_159 rfl (lv_at hl 0 rfl) ?_
        refine lv_bipush (v := 11) hx hb dX12_set_160 (by decide) ?_
        refine pf_X12_192 X hP hS (k := 0) rfl dX12_set_162 (fun H locs hP hS => ?_)
        exact hc_165 x1 x2 x3 x4 (zS s1 0 21 11) _ _ _ (lv_sub hl [0, 1, 2, 3, 4] rfl) hP hS hf
      · refine lv_aload_n hx hb dX12_set_89 rfl (lv_at hl 0 rfl) ?_
        refine gf_X12_120 X hP (k := 0) (q := 16) rfl dX12_set_90 rfl ?_
        refine lv_iload hx hb dX12_set_93 (lv_at hl 5 rfl) ?_
        refine lv_iconst (v := 1) hx hb dX12_set_95 (by decide) ?_
        refine lv_isub hx hb dX12_set_96 ?_
        refine lv_aload_n hx hb dX12_set_97 rfl (lv_at hl 0 rfl) ?_
        refine gf_X12_120 X hP (k := 0) (q := 16) rfl dX12_set_98 rfl ?_
        refine lv_iload hx hb dX12_set_101 (lv_at hl 5 rfl) ?_
        obtain ⟨g18, hf⟩ := zgd hf
        refine zald_i X hP (k := 16) (n := 12) (rs := []) rfl g18 dX12_set_103 ?_
        obtain ⟨g19, hf⟩ := zgd hf
        refine zast_i X hP hS (k := 16) (n := 12) (rs := []) rfl g19 dX12_set_104 (fun H locs hP hS => ?_)
        refine lv_aload_n hx hb dX12_set_105 rfl (lv_at hl 0 rfl) ?_
        refine gf_X12_123 X hP (k := 0) (q := 17) rfl dX12_set_106 rfl ?_
        refine lv_iload hx hb dX12_set_109 (lv_at hl 5 rfl) ?_
        refine lv_iconst (v := 1) hx hb dX12_set_111 (by decide) ?_
        refine lv_isub hx hb dX12_set_112 ?_
        refine lv_aload_n hx hb dX12_set_113 rfl (lv_at hl 0 rfl) ?_
        refine gf_X12_123 X hP (k := 0) (q := 17) rfl dX12_set_114 rfl ?_
        refine lv_iload hx hb dX12_set_117 (lv_at hl 5 rfl) ?_
        obtain ⟨g20, hf⟩ := zgd hf
        refine zald_i X hP (k := 17) (n := 12) (rs := []) rfl g20 dX12_set_119 ?_
        obtain ⟨g21, hf⟩ := zgd hf
        refine zast_i X hP hS (k := 17) (n := 12) (rs := []) rfl g21 dX12_set_120 (fun H locs hP hS => ?_)
        refine lv_aload_n hx hb dX12_set_121 rfl (lv_at hl 0 rfl) ?_
        refine gf_X12_126 X hP (k := 0) (q := 18) rfl dX12_set_122 rfl ?_
        refine lv_iload hx hb dX12_set_125 (lv_at hl 5 rfl) ?_
        refine lv_iconst (v := 1) hx hb dX12_set_127 (by decide) ?_
        refine lv_isub hx hb dX12_set_128 ?_
        refine lv_aload_n hx hb dX12_set_129 rfl (lv_at hl 0 rfl) ?_
        refine gf_X12_126 X hP (k := 0) (q := 18) rfl dX12_set_130 rfl ?_
        refine lv_iload hx hb dX12_set_133 (lv_at hl 5 rfl) ?_
        obtain ⟨g22, hf⟩ := zgd hf
        refine zald_i X hP (k := 18) (n := 12) (rs := []) rfl g22 dX12_set_135 ?_
        obtain ⟨g23, hf⟩ := zgd hf
        refine zast_i X hP hS (k := 18) (n := 12) (rs := []) rfl g23 dX12_set_136 (fun H locs hP hS => ?_)
        refine lv_aload_n hx hb dX12_set_137 rfl (lv_at hl 0 rfl) ?_
        refine gf_X12_129 X hP (k := 0) (q := 19) rfl dX12_set_138 rfl ?_
        refine lv_iload hx hb dX12_set_141 (lv_at hl 5 rfl) ?_
        refine lv_iconst (v := 1) hx hb dX12_set_143 (by decide) ?_
        refine lv_isub hx hb dX12_set_144 ?_
        refine lv_aload_n hx hb dX12_set_145 rfl (lv_at hl 0 rfl) ?_
        refine gf_X12_129 X hP (k := 0) (q := 19) rfl dX12_set_146 rfl ?_
        refine lv_iload hx hb dX12_set_149 (lv_at hl 5 rfl) ?_
        obtain ⟨g24, hf⟩ := zgd hf
        refine zald_i X hP (k := 19) (n := 12) (rs := []) rfl g24 dX12_set_151 ?_
        obtain ⟨g25, hf⟩ := zgd hf
        refine zast_i X hP hS (k := 19) (n := 12) (rs := []) rfl g25 dX12_set_152 (fun H locs hP hS => ?_)
        refine lv_iinc (v := (x5 + 1)) (lv' := [(5, .int (x5 + 1)), (0, .ref (ad 0)), (1, .int x1), (2, .int x2), (3, .int x3), (4, .int x4)]) hx hb dX12_set_153 hl (k := 5) rfl rfl (by decide) rfl (fun ls hl => ?_)
        refine lv_goto (tgt := 82) hx hb dX12_set_156 (by decide) ?_
        exact ih82 x1 x2 x3 x4 (x5 + 1) (zS (zS (zS (zS s1 16 ((x5 - (1 : Int32))).toNatClampNeg (s1.1 16 (x5).toNatClampNeg)) 17 ((x5 - (1 : Int32))).toNatClampNeg (((zS s1 16 ((x5 - (1 : Int32))).toNatClampNeg (s1.1 16 (x5).toNatClampNeg)).1 17 (x5).toNatClampNeg))) 18 ((x5 - (1 : Int32))).toNatClampNeg (((zS (zS s1 16 ((x5 - (1 : Int32))).toNatClampNeg (s1.1 16 (x5).toNatClampNeg)) 17 ((x5 - (1 : Int32))).toNatClampNeg (((zS s1 16 ((x5 - (1 : Int32))).toNatClampNeg (s1.1 16 (x5).toNatClampNeg)).1 17 (x5).toNatClampNeg))).1 18 (x5).toNatClampNeg))) 19 ((x5 - (1 : Int32))).toNatClampNeg (((zS (zS (zS s1 16 ((x5 - (1 : Int32))).toNatClampNeg (s1.1 16 (x5).toNatClampNeg)) 17 ((x5 - (1 : Int32))).toNatClampNeg (((zS s1 16 ((x5 - (1 : Int32))).toNatClampNeg (s1.1 16 (x5).toNatClampNeg)).1 17 (x5).toNatClampNeg))) 18 ((x5 - (1 : Int32))).toNatClampNeg (((zS (zS s1 16 ((x5 - (1 : Int32))).toNatClampNeg (s1.1 16 (x5).toNatClampNeg)) 17 ((x5 - (1 : Int32))).toNatClampNeg (((zS s1 16 ((x5 - (1 : Int32))).toNatClampNeg (s1.1 16 (x5).toNatClampNeg)).1 17 (x5).toNatClampNeg))).1 18 (x5).toNatClampNeg))).1 19 (x5).toNatClampNeg))) _ _ _ (lv_sub hl [1, 2, 3, 4, 5, 0] rfl) hP hS hf
  have hc_62 : ∀ (x1 : Int32) (x2 : Int32) (x3 : Int32) (t0 : Int32) (s1 : SS) (H : Heap) (locs : List Loc) (ls : Array Slot), lv_has ls 6 [(0, .ref (ad 0)), (1, .int x1), (2, .int x2), (3, .int x3)] → va_P D ZCL (zw Om Nm cA ad s1) H → va_S A s.heap H locs → f_X12_set_c62 x1 x2 x3 t0 s1 = some (rr, sr) → W p l e (zrm 2) s m args below meth c H locs 0 0 (MQ below (zQc Om Nm cA ad D A (some (.int rr)) sr) args s 0 0 A) (F0 m 62 ls [.int t0]) := by
    intro x1 x2 x3 t0 s1 H locs ls hl hP hS hf
    rw [f_X12_set_c62] at hf
    refine lv_istore (lv' := [(4, .int t0), (0, .ref (ad 0)), (1, .int x1), (2, .int x2), (3, .int x3)]) hx hb dX12_set_62 hl (by decide) rfl (fun ls hl => ?_)
    refine lv_iload hx hb dX12_set_64 (lv_at hl 0 rfl) ?_
    refine lv_iload_n hx hb dX12_set_66 rfl (lv_at hl 4 rfl) ?_
    refine zicmp_eq (tgt := 228) hx hb dX12_set_67 (by decide) hf (fun hf => ?_) (fun hf => ?_)
    · refine lv_iload hx hb dX12_set_228 (lv_at hl 0 rfl) ?_
      exact zret_i X hP hS hf rfl dX12_set_230
    · refine lv_aload_n hx hb dX12_set_70 rfl (lv_at hl 1 rfl) ?_
      refine gf_X12_192 X hP (k := 0) rfl dX12_set_71 ?_
      refine lv_bipush (v := 12) hx hb dX12_set_74 (by decide) ?_
      refine zicmp_ne (tgt := 165) hx hb dX12_set_76 (by decide) hf (fun hf => ?_) (fun hf => ?_)
      · exact hc_165 x1 x2 x3 t0 s1 _ _ _ (lv_sub hl [1, 2, 3, 4, 0] rfl) hP hS hf
      · refine lv_iconst (v := 1) hx hb dX12_set_79 (by decide) ?_
        refine lv_istore (lv' := [(5, .int 1), (4, .int t0), (0, .ref (ad 0)), (1, .int x1), (2, .int x2), (3, .int x3)]) hx hb dX12_set_80 hl (by decide) rfl (fun ls hl => ?_)
        exact hc_82 ZF x1 x2 x3 t0 1 s1 _ _ _ (lv_sub hl [2, 3, 4, 5, 1, 0] rfl) hP hS hf
  have hc_35 : ∀ (x1 : Int32) (x2 : Int32) (x3 : Int32) (t0 : Int64) (t1 : Int64) (t2 : Int64) (s1 : SS) (H : Heap) (locs : List Loc) (ls : Array Slot), lv_has ls 6 [(0, .ref (ad 0)), (1, .int x1), (2, .int x2), (3, .int x3)] → va_P D ZCL (zw Om Nm cA ad s1) H → va_S A s.heap H locs → f_X12_set_c35 x1 x2 x3 t0 t1 t2 s1 = some (rr, sr) → W p l e (zrm 2) s m args below meth c H locs 0 0 (MQ below (zQc Om Nm cA ad D A (some (.int rr)) sr) args s 0 0 A) (F0 m 35 ls [.long t0, .long t1, .long t2]) := by
    intro x1 x2 x3 t0 t1 t2 s1 H locs ls hl hP hS hf
    rw [f_X12_set_c35] at hf
    obtain ⟨r7, s8, h9, hf⟩ := zbd_some hf
    refine zcallS X hP hS hl.1 (As := [.long t2, .long t1, .long t0]) (rest := []) (cn_X12_in h9) cw_X12_in ml_X12_203 (by decide) rfl rfl (Nat.le_of_ble_eq_true rfl) dX12_set_35 (fun H locs hP hS => ?_)
    refine zif_ne (tgt := 43) hx hb dX12_set_38 (by decide) hf (fun hf => ?_) (fun hf => ?_)
    · refine lv_iload_n hx hb dX12_set_43 rfl (lv_at hl 2 rfl) ?_
      refine zif_ne (tgt := 56) hx hb dX12_set_44 (by decide) hf (fun hf => ?_) (fun hf => ?_)
      · refine lv_aload_n hx hb dX12_set_56 rfl (lv_at hl 0 rfl) ?_
        refine gf_X12_108 X hP (k := 0) (q := 9) rfl dX12_set_57 rfl ?_
        refine lv_iload_n hx hb dX12_set_60 rfl (lv_at hl 1 rfl) ?_
        obtain ⟨g10, hf⟩ := zgd hf
        refine zald_i X hP (k := 9) (n := 8) (rs := []) rfl g10 dX12_set_61 ?_
        exact hc_62 x1 x2 x3 (s8.1 9 (x1).toNatClampNeg) s8 _ _ _ (lv_sub hl [0, 1, 2, 3] rfl) hP hS hf
      · refine lv_aload_n hx hb dX12_set_47 rfl (lv_at hl 0 rfl) ?_
        refine gf_X12_105 X hP (k := 0) (q := 8) rfl dX12_set_48 rfl ?_
        refine lv_iload_n hx hb dX12_set_51 rfl (lv_at hl 1 rfl) ?_
        obtain ⟨g26, hf⟩ := zgd hf
        refine zald_i X hP (k := 8) (n := 8) (rs := []) rfl g26 dX12_set_52 ?_
        refine lv_goto (tgt := 62) hx hb dX12_set_53 (by decide) ?_
        exact hc_62 x1 x2 x3 (s8.1 8 (x1).toNatClampNeg) s8 _ _ _ (lv_sub hl [0, 1, 2, 3] rfl) hP hS hf
    · refine lv_iconst (v := (-1)) hx hb dX12_set_41 (by decide) ?_
      exact zret_i X hP hS hf rfl dX12_set_42
  rw [f_X12_set] at hf
  refine lv_aload_n hx hb dX12_set_0 rfl (lv_at hl 0 rfl) ?_
  refine lv_iload_n hx hb dX12_set_1 rfl (lv_at hl 1 rfl) ?_
  refine lv_i2l hx hb dX12_set_2 rfl ?_
  obtain ⟨r1, s2, h3, hf⟩ := zbd_some hf
  refine zcallV X hP hS hl.1 (k := 0) (As := [.long (x1).toInt64]) (rest := []) (cn_X12_isClass h3) cw_X12_isClass zp_12 rfl (by decide) rfl ml_X12_245 (by decide) rfl rfl (Nat.le_of_ble_eq_true rfl) dX12_set_3 (fun H locs hP hS => ?_)
  refine zif_eq (tgt := 41) hx hb dX12_set_6 (by decide) hf (fun hf => ?_) (fun hf => ?_)
  · refine lv_iconst (v := (-1)) hx hb dX12_set_41 (by decide) ?_
    exact zret_i X hP hS hf rfl dX12_set_42
  · refine lv_iload_n hx hb dX12_set_9 rfl (lv_at hl 2 rfl) ?_
    refine lv_i2l hx hb dX12_set_10 rfl ?_
    refine lv_lconst (v := 0) hx hb dX12_set_11 (by decide) ?_
    refine lv_lconst (v := 1) hx hb dX12_set_12 (by decide) ?_
    obtain ⟨r4, s5, h6, hf⟩ := zbd_some hf
    refine zcallS X hP hS hl.1 (As := [.long (x2).toInt64, .long 0, .long 1]) (rest := []) (cn_X12_in h6) cw_X12_in ml_X12_203 (by decide) rfl rfl (Nat.le_of_ble_eq_true rfl) dX12_set_13 (fun H locs hP hS => ?_)
    refine zif_eq (tgt := 41) hx hb dX12_set_16 (by decide) hf (fun hf => ?_) (fun hf => ?_)
    · refine lv_iconst (v := (-1)) hx hb dX12_set_41 (by decide) ?_
      exact zret_i X hP hS hf rfl dX12_set_42
    · refine lv_iload_n hx hb dX12_set_19 rfl (lv_at hl 3 rfl) ?_
      refine lv_i2l hx hb dX12_set_20 rfl ?_
      refine lv_lconst (v := 0) hx hb dX12_set_21 (by decide) ?_
      refine lv_iload_n hx hb dX12_set_22 rfl (lv_at hl 2 rfl) ?_
      refine zif_ne (tgt := 32) hx hb dX12_set_23 (by decide) hf (fun hf => ?_) (fun hf => ?_)
      · refine zldc2 X co_X12_210 dX12_set_32 ?_
        exact hc_35 x1 x2 x3 9 0 (x3).toInt64 s5 _ _ _ (lv_sub hl [0, 1, 2, 3] rfl) hP hS hf
      · refine zldc2 X co_X12_201 dX12_set_26 ?_
        refine lv_goto (tgt := 35) hx hb dX12_set_29 (by decide) ?_
        exact hc_35 x1 x2 x3 5 0 (x3).toInt64 s5 _ _ _ (lv_sub hl [0, 1, 2, 3] rfl) hP hS hf
theorem dX12_tell_0 : decode cX12_tell 0 = .ok (.aload_n 0, 1) := by decide +kernel
theorem dX12_tell_1 : decode cX12_tell 1 = .ok (.iload_n 1, 1) := by decide +kernel
theorem dX12_tell_2 : decode cX12_tell 2 = .ok (.i2l, 1) := by decide +kernel
theorem dX12_tell_3 : decode cX12_tell 3 = .ok (.invokevirtual 245, 3) := by decide +kernel
theorem dX12_tell_6 : decode cX12_tell 6 = .ok (.ifCond .eq 11, 3) := by decide +kernel
theorem dX12_tell_9 : decode cX12_tell 9 = .ok (.aload_n 0, 1) := by decide +kernel
theorem dX12_tell_10 : decode cX12_tell 10 = .ok (.iload_n 2, 1) := by decide +kernel
theorem dX12_tell_11 : decode cX12_tell 11 = .ok (.invokevirtual 217, 3) := by decide +kernel
theorem dX12_tell_14 : decode cX12_tell 14 = .ok (.ifCond .ge 5, 3) := by decide +kernel
theorem dX12_tell_17 : decode cX12_tell 17 = .ok (.iconst (-1), 1) := by decide +kernel
theorem dX12_tell_18 : decode cX12_tell 18 = .ok (.ireturn, 1) := by decide +kernel
theorem dX12_tell_19 : decode cX12_tell 19 = .ok (.aload_n 0, 1) := by decide +kernel
theorem dX12_tell_20 : decode cX12_tell 20 = .ok (.getfield 95, 3) := by decide +kernel
theorem dX12_tell_23 : decode cX12_tell 23 = .ok (.sipush 462, 3) := by decide +kernel
theorem dX12_tell_26 : decode cX12_tell 26 = .ok (.iload_n 1, 1) := by decide +kernel
theorem dX12_tell_27 : decode cX12_tell 27 = .ok (.imul, 1) := by decide +kernel
theorem dX12_tell_28 : decode cX12_tell 28 = .ok (.aload_n 0, 1) := by decide +kernel
theorem dX12_tell_29 : decode cX12_tell 29 = .ok (.iload_n 2, 1) := by decide +kernel
theorem dX12_tell_30 : decode cX12_tell 30 = .ok (.invokevirtual 217, 3) := by decide +kernel
theorem dX12_tell_33 : decode cX12_tell 33 = .ok (.iadd, 1) := by decide +kernel
theorem dX12_tell_34 : decode cX12_tell 34 = .ok (.lload_n 3, 1) := by decide +kernel
theorem dX12_tell_35 : decode cX12_tell 35 = .ok (.lastore, 1) := by decide +kernel
theorem dX12_tell_36 : decode cX12_tell 36 = .ok (.iconst 1, 1) := by decide +kernel
theorem dX12_tell_37 : decode cX12_tell 37 = .ok (.ireturn, 1) := by decide +kernel
set_option maxHeartbeats 4000000 in
set_option maxRecDepth 100000 in
theorem cn_X12_tell {l : Launch} {cA : Nat → ClassId} {ad : Nat → Nat} {D : va_G} {E : Nat → Nat} {A : Nat → Prop} {x1 : Int32} {x2 : Int32} {x3 : Int64} {s0 sr : SS} {rr : Int32} (hf : f_X12_tell x1 x2 x3 s0 = some (rr, sr)) : zCon Om Nm cA ad D E l yX12_tell cX12_tell 5 (some .int) 2 A [.ref (ad 0), .int x1, .int x2, .long x3] s0 (some (.int rr)) sr := by
  refine zstart (own := RX12) hOm (by decide) rfl (Nat.le_of_ble_eq_true rfl) ?_
  intro p e s m args below meth c X hP ls hl
  have hx := X.1
  have hb := X.2.1
  have hl : lv_has ls 5 [(0, .ref (ad 0)), (1, .int x1), (2, .int x2), (3, .long x3)] := hl
  have hS : va_S A s.heap s.heap [] := va_S.rf
  rw [f_X12_tell] at hf
  refine lv_aload_n hx hb dX12_tell_0 rfl (lv_at hl 0 rfl) ?_
  refine lv_iload_n hx hb dX12_tell_1 rfl (lv_at hl 1 rfl) ?_
  refine lv_i2l hx hb dX12_tell_2 rfl ?_
  obtain ⟨r1, s2, h3, hf⟩ := zbd_some hf
  refine zcallV X hP hS hl.1 (k := 0) (As := [.long (x1).toInt64]) (rest := []) (cn_X12_isClass h3) cw_X12_isClass zp_12 rfl (by decide) rfl ml_X12_245 (by decide) rfl rfl (Nat.le_of_ble_eq_true rfl) dX12_tell_3 (fun H locs hP hS => ?_)
  refine zif_eq (tgt := 17) hx hb dX12_tell_6 (by decide) hf (fun hf => ?_) (fun hf => ?_)
  · refine lv_iconst (v := (-1)) hx hb dX12_tell_17 (by decide) ?_
    exact zret_i X hP hS hf rfl dX12_tell_18
  · refine lv_aload_n hx hb dX12_tell_9 rfl (lv_at hl 0 rfl) ?_
    refine lv_iload_n hx hb dX12_tell_10 rfl (lv_at hl 2 rfl) ?_
    obtain ⟨r4, s5, h6, hf⟩ := zbd_some hf
    refine zcallV X hP hS hl.1 (k := 0) (As := [.int x2]) (rest := []) (cn_X12_termOf h6) cw_X12_termOf zp_12 rfl (by decide) rfl ml_X12_217 (by decide) rfl rfl (Nat.le_of_ble_eq_true rfl) dX12_tell_11 (fun H locs hP hS => ?_)
    refine zif_ge (tgt := 19) hx hb dX12_tell_14 (by decide) hf (fun hf => ?_) (fun hf => ?_)
    · refine lv_aload_n hx hb dX12_tell_19 rfl (lv_at hl 0 rfl) ?_
      refine gf_X12_95 X hP (k := 0) (q := 10) rfl dX12_tell_20 rfl ?_
      refine lv_sipush (v := 462) hx hb dX12_tell_23 (by decide) ?_
      refine lv_iload_n hx hb dX12_tell_26 rfl (lv_at hl 1 rfl) ?_
      refine lv_imul hx hb dX12_tell_27 ?_
      refine lv_aload_n hx hb dX12_tell_28 rfl (lv_at hl 0 rfl) ?_
      refine lv_iload_n hx hb dX12_tell_29 rfl (lv_at hl 2 rfl) ?_
      obtain ⟨r7, s8, h9, hf⟩ := zbd_some hf
      refine zcallV X hP hS hl.1 (k := 0) (As := [.int x2]) (rest := [.int ((462 : Int32) * x1), .ref (ad 10)]) (cn_X12_termOf h9) cw_X12_termOf zp_12 rfl (by decide) rfl ml_X12_217 (by decide) rfl rfl (Nat.le_of_ble_eq_true rfl) dX12_tell_30 (fun H locs hP hS => ?_)
      refine lv_iadd hx hb dX12_tell_33 ?_
      refine lv_lload_n hx hb dX12_tell_34 rfl (lv_at hl 3 rfl) ?_
      obtain ⟨g10, hf⟩ := zgd hf
      refine zast_l X hP hS (k := 10) (n := 3696) (rs := []) rfl g10 dX12_tell_35 (fun H locs hP hS => ?_)
      refine lv_iconst (v := 1) hx hb dX12_tell_36 (by decide) ?_
      exact zret_i X hP hS hf rfl dX12_tell_37
    · refine lv_iconst (v := (-1)) hx hb dX12_tell_17 (by decide) ?_
      exact zret_i X hP hS hf rfl dX12_tell_18
