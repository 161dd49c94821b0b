theorem dX12_isClassText_0 : decode cX12_isClassText 0 = .ok (.aload_n 0, 1) := by decide +kernel
theorem dX12_isClassText_1 : decode cX12_isClassText 1 = .ok (.iconst 0, 1) := by decide +kernel
theorem dX12_isClassText_2 : decode cX12_isClassText 2 = .ok (.putfield 339, 3) := by decide +kernel
theorem dX12_isClassText_5 : decode cX12_isClassText 5 = .ok (.aload_n 0, 1) := by decide +kernel
theorem dX12_isClassText_6 : decode cX12_isClassText 6 = .ok (.iconst 0, 1) := by decide +kernel
theorem dX12_isClassText_7 : decode cX12_isClassText 7 = .ok (.putfield 352, 3) := by decide +kernel
theorem dX12_isClassText_10 : decode cX12_isClassText 10 = .ok (.aload_n 0, 1) := by decide +kernel
theorem dX12_isClassText_11 : decode cX12_isClassText 11 = .ok (.aload_n 0, 1) := by decide +kernel
theorem dX12_isClassText_12 : decode cX12_isClassText 12 = .ok (.getfield 117, 3) := by decide +kernel
theorem dX12_isClassText_15 : decode cX12_isClassText 15 = .ok (.invokevirtual 237, 3) := by decide +kernel
theorem dX12_isClassText_18 : decode cX12_isClassText 18 = .ok (.aload_n 0, 1) := by decide +kernel
theorem dX12_isClassText_19 : decode cX12_isClassText 19 = .ok (.invokevirtual 342, 3) := by decide +kernel
theorem dX12_isClassText_22 : decode cX12_isClassText 22 = .ok (.bipush 45, 2) := by decide +kernel
theorem dX12_isClassText_24 : decode cX12_isClassText 24 = .ok (.if_icmp .ne 9, 3) := by decide +kernel
theorem dX12_isClassText_27 : decode cX12_isClassText 27 = .ok (.ldc2_w 30, 3) := by decide +kernel
theorem dX12_isClassText_30 : decode cX12_isClassText 30 = .ok (.goto 4, 3) := by decide +kernel
theorem dX12_isClassText_33 : decode cX12_isClassText 33 = .ok (.lconst 1, 1) := by decide +kernel
theorem dX12_isClassText_34 : decode cX12_isClassText 34 = .ok (.lstore_n 1, 1) := by decide +kernel
theorem dX12_isClassText_35 : decode cX12_isClassText 35 = .ok (.aload_n 0, 1) := by decide +kernel
theorem dX12_isClassText_36 : decode cX12_isClassText 36 = .ok (.dup, 1) := by decide +kernel
theorem dX12_isClassText_37 : decode cX12_isClassText 37 = .ok (.getfield 339, 3) := by decide +kernel
theorem dX12_isClassText_40 : decode cX12_isClassText 40 = .ok (.lload_n 1, 1) := by decide +kernel
theorem dX12_isClassText_41 : decode cX12_isClassText 41 = .ok (.lconst 0, 1) := by decide +kernel
theorem dX12_isClassText_42 : decode cX12_isClassText 42 = .ok (.lcmp, 1) := by decide +kernel
theorem dX12_isClassText_43 : decode cX12_isClassText 43 = .ok (.ifCond .ge 7, 3) := by decide +kernel
theorem dX12_isClassText_46 : decode cX12_isClassText 46 = .ok (.iconst 1, 1) := by decide +kernel
theorem dX12_isClassText_47 : decode cX12_isClassText 47 = .ok (.goto 4, 3) := by decide +kernel
theorem dX12_isClassText_50 : decode cX12_isClassText 50 = .ok (.iconst 0, 1) := by decide +kernel
theorem dX12_isClassText_51 : decode cX12_isClassText 51 = .ok (.iadd, 1) := by decide +kernel
theorem dX12_isClassText_52 : decode cX12_isClassText 52 = .ok (.putfield 339, 3) := by decide +kernel
theorem dX12_isClassText_55 : decode cX12_isClassText 55 = .ok (.aload_n 0, 1) := by decide +kernel
theorem dX12_isClassText_56 : decode cX12_isClassText 56 = .ok (.lload_n 1, 1) := by decide +kernel
theorem dX12_isClassText_57 : decode cX12_isClassText 57 = .ok (.invokevirtual 368, 3) := by decide +kernel
theorem dX12_isClassText_60 : decode cX12_isClassText 60 = .ok (.aload_n 0, 1) := by decide +kernel
theorem dX12_isClassText_61 : decode cX12_isClassText 61 = .ok (.getfield 352, 3) := by decide +kernel
theorem dX12_isClassText_64 : decode cX12_isClassText 64 = .ok (.ifCond .ne 83, 3) := by decide +kernel
theorem dX12_isClassText_67 : decode cX12_isClassText 67 = .ok (.aload_n 0, 1) := by decide +kernel
theorem dX12_isClassText_68 : decode cX12_isClassText 68 = .ok (.getfield 339, 3) := by decide +kernel
theorem dX12_isClassText_71 : decode cX12_isClassText 71 = .ok (.aload_n 0, 1) := by decide +kernel
theorem dX12_isClassText_72 : decode cX12_isClassText 72 = .ok (.getfield 336, 3) := by decide +kernel
theorem dX12_isClassText_75 : decode cX12_isClassText 75 = .ok (.if_icmp .ge 72, 3) := by decide +kernel
theorem dX12_isClassText_78 : decode cX12_isClassText 78 = .ok (.aload_n 0, 1) := by decide +kernel
theorem dX12_isClassText_79 : decode cX12_isClassText 79 = .ok (.aload_n 0, 1) := by decide +kernel
theorem dX12_isClassText_80 : decode cX12_isClassText 80 = .ok (.invokevirtual 342, 3) := by decide +kernel
theorem dX12_isClassText_83 : decode cX12_isClassText 83 = .ok (.bipush 43, 2) := by decide +kernel
theorem dX12_isClassText_85 : decode cX12_isClassText 85 = .ok (.if_icmp .eq 16, 3) := by decide +kernel
theorem dX12_isClassText_88 : decode cX12_isClassText 88 = .ok (.aload_n 0, 1) := by decide +kernel
theorem dX12_isClassText_89 : decode cX12_isClassText 89 = .ok (.invokevirtual 342, 3) := by decide +kernel
theorem dX12_isClassText_92 : decode cX12_isClassText 92 = .ok (.bipush 45, 2) := by decide +kernel
theorem dX12_isClassText_94 : decode cX12_isClassText 94 = .ok (.if_icmp .eq 7, 3) := by decide +kernel
theorem dX12_isClassText_97 : decode cX12_isClassText 97 = .ok (.iconst 1, 1) := by decide +kernel
theorem dX12_isClassText_98 : decode cX12_isClassText 98 = .ok (.goto 4, 3) := by decide +kernel
theorem dX12_isClassText_101 : decode cX12_isClassText 101 = .ok (.iconst 0, 1) := by decide +kernel
theorem dX12_isClassText_102 : decode cX12_isClassText 102 = .ok (.putfield 352, 3) := by decide +kernel
theorem dX12_isClassText_105 : decode cX12_isClassText 105 = .ok (.aload_n 0, 1) := by decide +kernel
theorem dX12_isClassText_106 : decode cX12_isClassText 106 = .ok (.getfield 352, 3) := by decide +kernel
theorem dX12_isClassText_109 : decode cX12_isClassText 109 = .ok (.ifCond .ne (-49), 3) := by decide +kernel
theorem dX12_isClassText_112 : decode cX12_isClassText 112 = .ok (.aload_n 0, 1) := by decide +kernel
theorem dX12_isClassText_113 : decode cX12_isClassText 113 = .ok (.invokevirtual 342, 3) := by decide +kernel
theorem dX12_isClassText_116 : decode cX12_isClassText 116 = .ok (.bipush 45, 2) := by decide +kernel
theorem dX12_isClassText_118 : decode cX12_isClassText 118 = .ok (.if_icmp .ne 9, 3) := by decide +kernel
theorem dX12_isClassText_121 : decode cX12_isClassText 121 = .ok (.ldc2_w 30, 3) := by decide +kernel
theorem dX12_isClassText_124 : decode cX12_isClassText 124 = .ok (.goto 4, 3) := by decide +kernel
theorem dX12_isClassText_127 : decode cX12_isClassText 127 = .ok (.lconst 1, 1) := by decide +kernel
theorem dX12_isClassText_128 : decode cX12_isClassText 128 = .ok (.lstore_n 1, 1) := by decide +kernel
theorem dX12_isClassText_129 : decode cX12_isClassText 129 = .ok (.aload_n 0, 1) := by decide +kernel
theorem dX12_isClassText_130 : decode cX12_isClassText 130 = .ok (.dup, 1) := by decide +kernel
theorem dX12_isClassText_131 : decode cX12_isClassText 131 = .ok (.getfield 339, 3) := by decide +kernel
theorem dX12_isClassText_134 : decode cX12_isClassText 134 = .ok (.iconst 1, 1) := by decide +kernel
theorem dX12_isClassText_135 : decode cX12_isClassText 135 = .ok (.iadd, 1) := by decide +kernel
theorem dX12_isClassText_136 : decode cX12_isClassText 136 = .ok (.putfield 339, 3) := by decide +kernel
theorem dX12_isClassText_139 : decode cX12_isClassText 139 = .ok (.aload_n 0, 1) := by decide +kernel
theorem dX12_isClassText_140 : decode cX12_isClassText 140 = .ok (.lload_n 1, 1) := by decide +kernel
theorem dX12_isClassText_141 : decode cX12_isClassText 141 = .ok (.invokevirtual 368, 3) := by decide +kernel
theorem dX12_isClassText_144 : decode cX12_isClassText 144 = .ok (.goto (-84), 3) := by decide +kernel
theorem dX12_isClassText_147 : decode cX12_isClassText 147 = .ok (.aload_n 0, 1) := by decide +kernel
theorem dX12_isClassText_148 : decode cX12_isClassText 148 = .ok (.getfield 352, 3) := by decide +kernel
theorem dX12_isClassText_151 : decode cX12_isClassText 151 = .ok (.ifCond .ne 7, 3) := by decide +kernel
theorem dX12_isClassText_154 : decode cX12_isClassText 154 = .ok (.iconst 1, 1) := by decide +kernel
theorem dX12_isClassText_155 : decode cX12_isClassText 155 = .ok (.goto 4, 3) := by decide +kernel
theorem dX12_isClassText_158 : decode cX12_isClassText 158 = .ok (.iconst 0, 1) := by decide +kernel
theorem dX12_isClassText_159 : decode cX12_isClassText 159 = .ok (.ireturn, 1) := by decide +kernel
set_option maxHeartbeats 4000000 in
set_option maxRecDepth 100000 in
theorem cn_X12_isClassText {l : Launch} {cA : Nat → ClassId} {ad : Nat → Nat} {D : va_G} {E : Nat → Nat} {A : Nat → Prop}  {s0 sr : SS} {rr : Int32} (hf : f_X12_isClassText s0 = some (rr, sr)) : zCon Om Nm cA ad D E l yX12_isClassText cX12_isClassText 3 (some .boolean) 4 A [.ref (ad 0)] s0 (some (.int rr)) sr := by
  refine zstart (own := RX12) hOm (by decide) rfl (Nat.le_of_ble_eq_true rfl) ?_
  intro p e s m args below meth c X hP ls hl
  have hx := X.1
  have hb := X.2.1
  have hl : lv_has ls 3 [(0, .ref (ad 0))] := hl
  have hS : va_S A s.heap s.heap [] := va_S.rf
  have hc_60 : ∀ (n60 : Nat)  (s1 : SS) (H : Heap) (locs : List Loc) (ls : Array Slot), lv_has ls 3 [(0, .ref (ad 0))] → va_P D ZCL (zw Om Nm cA ad s1) H → va_S A s.heap H locs → f_X12_isClassText_c60 n60  s1 = some (rr, sr) → W p l e (zrm 4) s m args below meth c H locs 0 0 (MQ below (zQc Om Nm cA ad D A (some (.int rr)) sr) args s 0 0 A) (F0 m 60 ls []) := by
    intro n60
    induction n60 with
    | zero =>
      intro  s1 H locs ls hl hP hS hf
      rw [f_X12_isClassText_c60] at hf
      cases hf
    | succ n60 ih60 =>
      have hc_147 : ∀  (s1 : SS) (H : Heap) (locs : List Loc) (ls : Array Slot), lv_has ls 3 [(0, .ref (ad 0))] → va_P D ZCL (zw Om Nm cA ad s1) H → va_S A s.heap H locs → f_X12_isClassText_c147  s1 = some (rr, sr) → W p l e (zrm 4) s m args below meth c H locs 0 0 (MQ below (zQc Om Nm cA ad D A (some (.int rr)) sr) args s 0 0 A) (F0 m 147 ls []) := by
        intro  s1 H locs ls hl hP hS hf
        rw [f_X12_isClassText_c147] at hf
        refine lv_aload_n hx hb dX12_isClassText_147 rfl (lv_at hl 0 rfl) ?_
        refine gf_X12_352 X hP (k := 0) rfl dX12_isClassText_148 ?_
        refine zif_ne (tgt := 158) hx hb dX12_isClassText_151 (by decide) hf (fun hf => ?_) (fun hf => ?_)
        · refine lv_iconst (v := 0) hx hb dX12_isClassText_158 (by decide) ?_
          exact zret_i X hP hS hf rfl dX12_isClassText_159
        · refine lv_iconst (v := 1) hx hb dX12_isClassText_154 (by decide) ?_
          refine lv_goto (tgt := 159) hx hb dX12_isClassText_155 (by decide) ?_
          exact zret_i X hP hS hf rfl dX12_isClassText_159
      have hc_128 : ∀ (t0 : Int64) (s1 : SS) (H : Heap) (locs : List Loc) (ls : Array Slot), lv_has ls 3 [(0, .ref (ad 0))] → va_P D ZCL (zw Om Nm cA ad s1) H → va_S A s.heap H locs → f_X12_isClassText_c128 (f_X12_isClassText_c60 n60) t0 s1 = some (rr, sr) → W p l e (zrm 4) s m args below meth c H locs 0 0 (MQ below (zQc Om Nm cA ad D A (some (.int rr)) sr) args s 0 0 A) (F0 m 128 ls [.long t0]) := by
        intro t0 s1 H locs ls hl hP hS hf
        rw [f_X12_isClassText_c128] at hf
        refine lv_lstore_n (lv' := [(1, .long t0), (0, .ref (ad 0))]) hx hb dX12_isClassText_128 rfl hl (by decide) rfl (fun ls hl => ?_)
        refine lv_aload_n hx hb dX12_isClassText_129 rfl (lv_at hl 1 rfl) ?_
        refine lv_dup hx hb dX12_isClassText_130 rfl ?_
        refine gf_X12_339 X hP (k := 0) rfl dX12_isClassText_131 ?_
        refine lv_iconst (v := 1) hx hb dX12_isClassText_134 (by decide) ?_
        refine lv_iadd hx hb dX12_isClassText_135 ?_
        refine pf_X12_339 X hP hS (k := 0) rfl dX12_isClassText_136 (fun H locs hP hS => ?_)
        refine lv_aload_n hx hb dX12_isClassText_139 rfl (lv_at hl 1 rfl) ?_
        refine lv_lload_n hx hb dX12_isClassText_140 rfl (lv_at hl 0 rfl) ?_
        obtain ⟨r17, s18, h19, hf⟩ := zbd_some hf
        refine zcallV X hP hS hl.1 (k := 0) (As := [.long t0]) (rest := []) (cn_X12_readMember h19) cw_X12_readMember zp_12 rfl (by decide) rfl ml_X12_368 (by decide) rfl rfl (Nat.le_of_ble_eq_true rfl) dX12_isClassText_141 (fun H locs hP hS => ?_)
        refine lv_goto (tgt := 60) hx hb dX12_isClassText_144 (by decide) ?_
        exact ih60  s18 _ _ _ (lv_sub hl [1] rfl) hP hS hf
      have hc_102 : ∀ (t0 : Int32) (s1 : SS) (H : Heap) (locs : List Loc) (ls : Array Slot), lv_has ls 3 [(0, .ref (ad 0))] → va_P D ZCL (zw Om Nm cA ad s1) H → va_S A s.heap H locs → f_X12_isClassText_c102 (f_X12_isClassText_c60 n60) t0 s1 = some (rr, sr) → W p l e (zrm 4) s m args below meth c H locs 0 0 (MQ below (zQc Om Nm cA ad D A (some (.int rr)) sr) args s 0 0 A) (F0 m 102 ls [.int t0, .ref (ad 0)]) := by
        intro t0 s1 H locs ls hl hP hS hf
        rw [f_X12_isClassText_c102] at hf
        obtain ⟨b13, hf⟩ := zgd hf
        refine pf_X12_352 X hP hS (k := 0) rfl b13 dX12_isClassText_102 (fun H locs hP hS => ?_)
        refine lv_aload_n hx hb dX12_isClassText_105 rfl (lv_at hl 0 rfl) ?_
        refine gf_X12_352 X hP (k := 0) rfl dX12_isClassText_106 ?_
        refine zif_ne (tgt := 60) hx hb dX12_isClassText_109 (by decide) hf (fun hf => ?_) (fun hf => ?_)
        · exact ih60  (zS s1 0 53 t0) _ _ _ (lv_sub hl [0] rfl) hP hS hf
        · refine lv_aload_n hx hb dX12_isClassText_112 rfl (lv_at hl 0 rfl) ?_
          obtain ⟨r14, s15, h16, hf⟩ := zbd_some hf
          refine zcallV X hP hS hl.1 (k := 0) (As := []) (rest := []) (cn_X12_here h16) cw_X12_here zp_12 rfl (by decide) rfl ml_X12_342 (by decide) rfl rfl (Nat.le_of_ble_eq_true rfl) dX12_isClassText_113 (fun H locs hP hS => ?_)
          refine lv_bipush (v := 45) hx hb dX12_isClassText_116 (by decide) ?_
          refine zicmp_ne (tgt := 127) hx hb dX12_isClassText_118 (by decide) hf (fun hf => ?_) (fun hf => ?_)
          · refine lv_lconst (v := 1) hx hb dX12_isClassText_127 (by decide) ?_
            exact hc_128 1 s15 _ _ _ (lv_sub hl [0] rfl) hP hS hf
          · refine zldc2 X co_X12_30 dX12_isClassText_121 ?_
            refine lv_goto (tgt := 128) hx hb dX12_isClassText_124 (by decide) ?_
            exact hc_128 (-1) s15 _ _ _ (lv_sub hl [0] rfl) hP hS hf
      have hc_101 : ∀  (s1 : SS) (H : Heap) (locs : List Loc) (ls : Array Slot), lv_has ls 3 [(0, .ref (ad 0))] → va_P D ZCL (zw Om Nm cA ad s1) H → va_S A s.heap H locs → f_X12_isClassText_c101 (f_X12_isClassText_c60 n60)  s1 = some (rr, sr) → W p l e (zrm 4) s m args below meth c H locs 0 0 (MQ below (zQc Om Nm cA ad D A (some (.int rr)) sr) args s 0 0 A) (F0 m 101 ls [.ref (ad 0)]) := by
        intro  s1 H locs ls hl hP hS hf
        rw [f_X12_isClassText_c101] at hf
        refine lv_iconst (v := 0) hx hb dX12_isClassText_101 (by decide) ?_
        exact hc_102 0 s1 _ _ _ (lv_sub hl [0] rfl) hP hS hf
      intro  s1 H locs ls hl hP hS hf
      rw [f_X12_isClassText_c60] at hf
      refine lv_aload_n hx hb dX12_isClassText_60 rfl (lv_at hl 0 rfl) ?_
      refine gf_X12_352 X hP (k := 0) rfl dX12_isClassText_61 ?_
      refine zif_ne (tgt := 147) hx hb dX12_isClassText_64 (by decide) hf (fun hf => ?_) (fun hf => ?_)
      · exact hc_147  s1 _ _ _ (lv_sub hl [0] rfl) hP hS hf
      · refine lv_aload_n hx hb dX12_isClassText_67 rfl (lv_at hl 0 rfl) ?_
        refine gf_X12_339 X hP (k := 0) rfl dX12_isClassText_68 ?_
        refine lv_aload_n hx hb dX12_isClassText_71 rfl (lv_at hl 0 rfl) ?_
        refine gf_X12_336 X hP (k := 0) rfl dX12_isClassText_72 ?_
        refine zicmp_ge (tgt := 147) hx hb dX12_isClassText_75 (by decide) hf (fun hf => ?_) (fun hf => ?_)
        · exact hc_147  s1 _ _ _ (lv_sub hl [0] rfl) hP hS hf
        · refine lv_aload_n hx hb dX12_isClassText_78 rfl (lv_at hl 0 rfl) ?_
          refine lv_aload_n hx hb dX12_isClassText_79 rfl (lv_at hl 0 rfl) ?_
          obtain ⟨r10, s11, h12, hf⟩ := zbd_some hf
          refine zcallV X hP hS hl.1 (k := 0) (As := []) (rest := [.ref (ad 0)]) (cn_X12_here h12) cw_X12_here zp_12 rfl (by decide) rfl ml_X12_342 (by decide) rfl rfl (Nat.le_of_ble_eq_true rfl) dX12_isClassText_80 (fun H locs hP hS => ?_)
          refine lv_bipush (v := 43) hx hb dX12_isClassText_83 (by decide) ?_
          refine zicmp_eq (tgt := 101) hx hb dX12_isClassText_85 (by decide) hf (fun hf => ?_) (fun hf => ?_)
          · exact hc_101  s11 _ _ _ (lv_sub hl [0] rfl) hP hS hf
          · refine lv_aload_n hx hb dX12_isClassText_88 rfl (lv_at hl 0 rfl) ?_
            obtain ⟨r20, s21, h22, hf⟩ := zbd_some hf
            refine zcallV X hP hS hl.1 (k := 0) (As := []) (rest := [.ref (ad 0)]) (cn_X12_here h22) cw_X12_here zp_12 rfl (by decide) rfl ml_X12_342 (by decide) rfl rfl (Nat.le_of_ble_eq_true rfl) dX12_isClassText_89 (fun H locs hP hS => ?_)
            refine lv_bipush (v := 45) hx hb dX12_isClassText_92 (by decide) ?_
            refine zicmp_eq (tgt := 101) hx hb dX12_isClassText_94 (by decide) hf (fun hf => ?_) (fun hf => ?_)
            · exact hc_101  s21 _ _ _ (lv_sub hl [0] rfl) hP hS hf
            · refine lv_iconst (v := 1) hx hb dX12_isClassText_97 (by decide) ?_
              refine lv_goto (tgt := 102) hx hb dX12_isClassText_98 (by decide) ?_
              exact hc_102 1 s21 _ _ _ (lv_sub hl [0] rfl) hP hS hf
  have hc_51 : ∀ (x1 : Int64) (t0 : Int32) (t1 : Int32) (s1 : SS) (H : Heap) (locs : List Loc) (ls : Array Slot), lv_has ls 3 [(0, .ref (ad 0)), (1, .long x1)] → va_P D ZCL (zw Om Nm cA ad s1) H → va_S A s.heap H locs → f_X12_isClassText_c51 x1 t0 t1 s1 = some (rr, sr) → W p l e (zrm 4) s m args below meth c H locs 0 0 (MQ below (zQc Om Nm cA ad D A (some (.int rr)) sr) args s 0 0 A) (F0 m 51 ls [.int t0, .int t1, .ref (ad 0)]) := by
    intro x1 t0 t1 s1 H locs ls hl hP hS hf
    rw [f_X12_isClassText_c51] at hf
    refine lv_iadd hx hb dX12_isClassText_51 ?_
    refine pf_X12_339 X hP hS (k := 0) rfl dX12_isClassText_52 (fun H locs hP hS => ?_)
    refine lv_aload_n hx hb dX12_isClassText_55 rfl (lv_at hl 0 rfl) ?_
    refine lv_lload_n hx hb dX12_isClassText_56 rfl (lv_at hl 1 rfl) ?_
    obtain ⟨r7, s8, h9, hf⟩ := zbd_some hf
    refine zcallV X hP hS hl.1 (k := 0) (As := [.long x1]) (rest := []) (cn_X12_readMember h9) cw_X12_readMember zp_12 rfl (by decide) rfl ml_X12_368 (by decide) rfl rfl (Nat.le_of_ble_eq_true rfl) dX12_isClassText_57 (fun H locs hP hS => ?_)
    exact hc_60 ZF  s8 _ _ _ (lv_sub hl [0] rfl) hP hS hf
  have hc_34 : ∀ (t0 : Int64) (s1 : SS) (H : Heap) (locs : List Loc) (ls : Array Slot), lv_has ls 3 [(0, .ref (ad 0))] → va_P D ZCL (zw Om Nm cA ad s1) H → va_S A s.heap H locs → f_X12_isClassText_c34 t0 s1 = some (rr, sr) → W p l e (zrm 4) s m args below meth c H locs 0 0 (MQ below (zQc Om Nm cA ad D A (some (.int rr)) sr) args s 0 0 A) (F0 m 34 ls [.long t0]) := by
    intro t0 s1 H locs ls hl hP hS hf
    rw [f_X12_isClassText_c34] at hf
    refine lv_lstore_n (lv' := [(1, .long t0), (0, .ref (ad 0))]) hx hb dX12_isClassText_34 rfl hl (by decide) rfl (fun ls hl => ?_)
    refine lv_aload_n hx hb dX12_isClassText_35 rfl (lv_at hl 1 rfl) ?_
    refine lv_dup hx hb dX12_isClassText_36 rfl ?_
    refine gf_X12_339 X hP (k := 0) rfl dX12_isClassText_37 ?_
    refine lv_lload_n hx hb dX12_isClassText_40 rfl (lv_at hl 0 rfl) ?_
    refine lv_lconst (v := 0) hx hb dX12_isClassText_41 (by decide) ?_
    refine W.lcmp hx hb dX12_isClassText_42 ?_
    refine zif_ge (tgt := 50) hx hb dX12_isClassText_43 (by decide) hf (fun hf => ?_) (fun hf => ?_)
    · refine lv_iconst (v := 0) hx hb dX12_isClassText_50 (by decide) ?_
      exact hc_51 t0 0 (s1.1 0 52) s1 _ _ _ (lv_sub hl [1, 0] rfl) hP hS hf
    · refine lv_iconst (v := 1) hx hb dX12_isClassText_46 (by decide) ?_
      refine lv_goto (tgt := 51) hx hb dX12_isClassText_47 (by decide) ?_
      exact hc_51 t0 1 (s1.1 0 52) s1 _ _ _ (lv_sub hl [1, 0] rfl) hP hS hf
  rw [f_X12_isClassText] at hf
  refine lv_aload_n hx hb dX12_isClassText_0 rfl (lv_at hl 0 rfl) ?_
  refine lv_iconst (v := 0) hx hb dX12_isClassText_1 (by decide) ?_
  refine pf_X12_339 X hP hS (k := 0) rfl dX12_isClassText_2 (fun H locs hP hS => ?_)
  refine lv_aload_n hx hb dX12_isClassText_5 rfl (lv_at hl 0 rfl) ?_
  refine lv_iconst (v := 0) hx hb dX12_isClassText_6 (by decide) ?_
  refine pf_X12_352 X hP hS (k := 0) rfl (by decide) dX12_isClassText_7 (fun H locs hP hS => ?_)
  refine lv_aload_n hx hb dX12_isClassText_10 rfl (lv_at hl 0 rfl) ?_
  refine lv_aload_n hx hb dX12_isClassText_11 rfl (lv_at hl 0 rfl) ?_
  refine gf_X12_117 X hP (k := 0) (q := 15) rfl dX12_isClassText_12 rfl ?_
  obtain ⟨r1, s2, h3, hf⟩ := zbd_some hf
  refine zcallV X hP hS hl.1 (k := 0) (As := [.ref (ad 15)]) (rest := []) (cn_X12_empty h3) cw_X12_empty zp_12 rfl (by decide) rfl ml_X12_237 (by decide) rfl rfl (Nat.le_of_ble_eq_true rfl) dX12_isClassText_15 (fun H locs hP hS => ?_)
  refine lv_aload_n hx hb dX12_isClassText_18 rfl (lv_at hl 0 rfl) ?_
  obtain ⟨r4, s5, h6, hf⟩ := zbd_some hf
  refine zcallV X hP hS hl.1 (k := 0) (As := []) (rest := []) (cn_X12_here h6) cw_X12_here zp_12 rfl (by decide) rfl ml_X12_342 (by decide) rfl rfl (Nat.le_of_ble_eq_true rfl) dX12_isClassText_19 (fun H locs hP hS => ?_)
  refine lv_bipush (v := 45) hx hb dX12_isClassText_22 (by decide) ?_
  refine zicmp_ne (tgt := 33) hx hb dX12_isClassText_24 (by decide) hf (fun hf => ?_) (fun hf => ?_)
  · refine lv_lconst (v := 1) hx hb dX12_isClassText_33 (by decide) ?_
    exact hc_34 1 s5 _ _ _ (lv_sub hl [0] rfl) hP hS hf
  · refine zldc2 X co_X12_30 dX12_isClassText_27 ?_
    refine lv_goto (tgt := 34) hx hb dX12_isClassText_30 (by decide) ?_
    exact hc_34 (-1) s5 _ _ _ (lv_sub hl [0] rfl) hP hS hf
theorem dX12_read_0 : decode cX12_read 0 = .ok (.aload_n 0, 1) := by decide +kernel
theorem dX12_read_1 : decode cX12_read 1 = .ok (.invokevirtual 372, 3) := by decide +kernel
theorem dX12_read_4 : decode cX12_read 4 = .ok (.istore_n 1, 1) := by decide +kernel
theorem dX12_read_5 : decode cX12_read 5 = .ok (.aload_n 0, 1) := by decide +kernel
theorem dX12_read_6 : decode cX12_read 6 = .ok (.iconst 0, 1) := by decide +kernel
theorem dX12_read_7 : decode cX12_read 7 = .ok (.putfield 336, 3) := by decide +kernel
theorem dX12_read_10 : decode cX12_read 10 = .ok (.iload_n 1, 1) := by decide +kernel
theorem dX12_read_11 : decode cX12_read 11 = .ok (.ifCond .ne 11, 3) := by decide +kernel
theorem dX12_read_14 : decode cX12_read 14 = .ok (.bipush (-100), 2) := by decide +kernel
theorem dX12_read_16 : decode cX12_read 16 = .ok (.aload_n 0, 1) := by decide +kernel
theorem dX12_read_17 : decode cX12_read 17 = .ok (.getfield 339, 3) := by decide +kernel
theorem dX12_read_20 : decode cX12_read 20 = .ok (.isub, 1) := by decide +kernel
theorem dX12_read_21 : decode cX12_read 21 = .ok (.ireturn, 1) := by decide +kernel
theorem dX12_read_22 : decode cX12_read 22 = .ok (.aload_n 0, 1) := by decide +kernel
theorem dX12_read_23 : decode cX12_read 23 = .ok (.getfield 89, 3) := by decide +kernel
theorem dX12_read_26 : decode cX12_read 26 = .ok (.bipush 8, 2) := by decide +kernel
theorem dX12_read_28 : decode cX12_read 28 = .ok (.if_icmp .ne 6, 3) := by decide +kernel
theorem dX12_read_31 : decode cX12_read 31 = .ok (.bipush (-3), 2) := by decide +kernel
theorem dX12_read_33 : decode cX12_read 33 = .ok (.ireturn, 1) := by decide +kernel
theorem dX12_read_34 : decode cX12_read 34 = .ok (.aload_n 0, 1) := by decide +kernel
theorem dX12_read_35 : decode cX12_read 35 = .ok (.invokevirtual 198, 3) := by decide +kernel
theorem dX12_read_38 : decode cX12_read 38 = .ok (.aload_n 0, 1) := by decide +kernel
theorem dX12_read_39 : decode cX12_read 39 = .ok (.aload_n 0, 1) := by decide +kernel
theorem dX12_read_40 : decode cX12_read 40 = .ok (.getfield 117, 3) := by decide +kernel
theorem dX12_read_43 : decode cX12_read 43 = .ok (.invokevirtual 260, 3) := by decide +kernel
theorem dX12_read_46 : decode cX12_read 46 = .ok (.ireturn, 1) := by decide +kernel
set_option maxHeartbeats 4000000 in
set_option maxRecDepth 100000 in
theorem cn_X12_read {l : Launch} {cA : Nat → ClassId} {ad : Nat → Nat} {D : va_G} {E : Nat → Nat} {A : Nat → Prop}  {s0 sr : SS} {rr : Int32} (hf : f_X12_read s0 = some (rr, sr)) : zCon Om Nm cA ad D E l yX12_read cX12_read 2 (some .int) 5 A [.ref (ad 0)] s0 (some (.int rr)) sr := by
  refine zstart (own := RX12) hOm (by decide) rfl (Nat.le_of_ble_eq_true rfl) ?_
  intro p e s m args below meth c X hP ls hl
  have hx := X.1
  have hb := X.2.1
  have hl : lv_has ls 2 [(0, .ref (ad 0))] := hl
  have hS : va_S A s.heap s.heap [] := va_S.rf
  rw [f_X12_read] at hf
  refine lv_aload_n hx hb dX12_read_0 rfl (lv_at hl 0 rfl) ?_
  obtain ⟨r1, s2, h3, hf⟩ := zbd_some hf
  refine zcallV X hP hS hl.1 (k := 0) (As := []) (rest := []) (cn_X12_isClassText h3) cw_X12_isClassText zp_12 rfl (by decide) rfl ml_X12_372 (by decide) rfl rfl (Nat.le_of_ble_eq_true rfl) dX12_read_1 (fun H locs hP hS => ?_)
  refine lv_istore_n (lv' := [(1, .int r1), (0, .ref (ad 0))]) hx hb dX12_read_4 rfl hl (by decide) rfl (fun ls hl => ?_)
  refine lv_aload_n hx hb dX12_read_5 rfl (lv_at hl 1 rfl) ?_
  refine lv_iconst (v := 0) hx hb dX12_read_6 (by decide) ?_
  refine pf_X12_336 X hP hS (k := 0) rfl dX12_read_7 (fun H locs hP hS => ?_)
  refine lv_iload_n hx hb dX12_read_10 rfl (lv_at hl 0 rfl) ?_
  refine zif_ne (tgt := 22) hx hb dX12_read_11 (by decide) hf (fun hf => ?_) (fun hf => ?_)
  · refine lv_aload_n hx hb dX12_read_22 rfl (lv_at hl 1 rfl) ?_
    refine gf_X12_89 X hP (k := 0) rfl dX12_read_23 ?_
    refine lv_bipush (v := 8) hx hb dX12_read_26 (by decide) ?_
    refine zicmp_ne (tgt := 34) hx hb dX12_read_28 (by decide) hf (fun hf => ?_) (fun hf => ?_)
    · refine lv_aload_n hx hb dX12_read_34 rfl (lv_at hl 1 rfl) ?_
      obtain ⟨r4, s5, h6, hf⟩ := zbd_some hf
      refine zcallV X hP hS hl.1 (k := 0) (As := []) (rest := []) (cn_X12_forget h6) cw_X12_forget zp_12 rfl (by decide) rfl ml_X12_198 (by decide) rfl rfl (Nat.le_of_ble_eq_true rfl) dX12_read_35 (fun H locs hP hS => ?_)
      refine lv_aload_n hx hb dX12_read_38 rfl (lv_at hl 1 rfl) ?_
      refine lv_aload_n hx hb dX12_read_39 rfl (lv_at hl 1 rfl) ?_
      refine gf_X12_117 X hP (k := 0) (q := 15) rfl dX12_read_40 rfl ?_
      obtain ⟨r7, s8, h9, hf⟩ := zbd_some hf
      refine zcallV X hP hS hl.1 (k := 0) (As := [.ref (ad 15)]) (rest := []) (cn_X12_comes h9) cw_X12_comes zp_12 rfl (by decide) rfl ml_X12_260 (by decide) rfl rfl (Nat.le_of_ble_eq_true rfl) dX12_read_43 (fun H locs hP hS => ?_)
      exact zret_i X hP hS hf rfl dX12_read_46
    · refine lv_bipush (v := (-3)) hx hb dX12_read_31 (by decide) ?_
      exact zret_i X hP hS hf rfl dX12_read_33
  · refine lv_bipush (v := (-100)) hx hb dX12_read_14 (by decide) ?_
    refine lv_aload_n hx hb dX12_read_16 rfl (lv_at hl 1 rfl) ?_
    refine gf_X12_339 X hP (k := 0) rfl dX12_read_17 ?_
    refine lv_isub hx hb dX12_read_20 ?_
    exact zret_i X hP hS hf rfl dX12_read_21
theorem dX12_isWord_0 : decode cX12_isWord 0 = .ok (.iload_n 2, 1) := by decide +kernel
theorem dX12_isWord_1 : decode cX12_isWord 1 = .ok (.iload_n 1, 1) := by decide +kernel
theorem dX12_isWord_2 : decode cX12_isWord 2 = .ok (.isub, 1) := by decide +kernel
theorem dX12_isWord_3 : decode cX12_isWord 3 = .ok (.aload_n 3, 1) := by decide +kernel
theorem dX12_isWord_4 : decode cX12_isWord 4 = .ok (.invokevirtual 375, 3) := by decide +kernel
theorem dX12_isWord_7 : decode cX12_isWord 7 = .ok (.if_icmp .ne 7, 3) := by decide +kernel
theorem dX12_isWord_10 : decode cX12_isWord 10 = .ok (.iconst 1, 1) := by decide +kernel
theorem dX12_isWord_11 : decode cX12_isWord 11 = .ok (.goto 4, 3) := by decide +kernel
theorem dX12_isWord_14 : decode cX12_isWord 14 = .ok (.iconst 0, 1) := by decide +kernel
theorem dX12_isWord_15 : decode cX12_isWord 15 = .ok (.istore 4, 2) := by decide +kernel
theorem dX12_isWord_17 : decode cX12_isWord 17 = .ok (.iconst 0, 1) := by decide +kernel
theorem dX12_isWord_18 : decode cX12_isWord 18 = .ok (.istore 5, 2) := by decide +kernel
theorem dX12_isWord_20 : decode cX12_isWord 20 = .ok (.iload 5, 2) := by decide +kernel
theorem dX12_isWord_22 : decode cX12_isWord 22 = .ok (.aload_n 3, 1) := by decide +kernel
theorem dX12_isWord_23 : decode cX12_isWord 23 = .ok (.invokevirtual 375, 3) := by decide +kernel
theorem dX12_isWord_26 : decode cX12_isWord 26 = .ok (.if_icmp .ge 39, 3) := by decide +kernel
theorem dX12_isWord_29 : decode cX12_isWord 29 = .ok (.iload 4, 2) := by decide +kernel
theorem dX12_isWord_31 : decode cX12_isWord 31 = .ok (.ifCond .eq 34, 3) := by decide +kernel
theorem dX12_isWord_34 : decode cX12_isWord 34 = .ok (.aload_n 0, 1) := by decide +kernel
theorem dX12_isWord_35 : decode cX12_isWord 35 = .ok (.getfield 132, 3) := by decide +kernel
theorem dX12_isWord_38 : decode cX12_isWord 38 = .ok (.iload_n 1, 1) := by decide +kernel
theorem dX12_isWord_39 : decode cX12_isWord 39 = .ok (.iload 5, 2) := by decide +kernel
theorem dX12_isWord_41 : decode cX12_isWord 41 = .ok (.iadd, 1) := by decide +kernel
theorem dX12_isWord_42 : decode cX12_isWord 42 = .ok (.iaload, 1) := by decide +kernel
theorem dX12_isWord_43 : decode cX12_isWord 43 = .ok (.aload_n 3, 1) := by decide +kernel
theorem dX12_isWord_44 : decode cX12_isWord 44 = .ok (.iload 5, 2) := by decide +kernel
theorem dX12_isWord_46 : decode cX12_isWord 46 = .ok (.invokevirtual 380, 3) := by decide +kernel
theorem dX12_isWord_49 : decode cX12_isWord 49 = .ok (.if_icmp .ne 7, 3) := by decide +kernel
theorem dX12_isWord_52 : decode cX12_isWord 52 = .ok (.iconst 1, 1) := by decide +kernel
theorem dX12_isWord_53 : decode cX12_isWord 53 = .ok (.goto 4, 3) := by decide +kernel
theorem dX12_isWord_56 : decode cX12_isWord 56 = .ok (.iconst 0, 1) := by decide +kernel
theorem dX12_isWord_57 : decode cX12_isWord 57 = .ok (.istore 4, 2) := by decide +kernel
theorem dX12_isWord_59 : decode cX12_isWord 59 = .ok (.iinc 5 1, 3) := by decide +kernel
theorem dX12_isWord_62 : decode cX12_isWord 62 = .ok (.goto (-42), 3) := by decide +kernel
theorem dX12_isWord_65 : decode cX12_isWord 65 = .ok (.iload 4, 2) := by decide +kernel
theorem dX12_isWord_67 : decode cX12_isWord 67 = .ok (.ireturn, 1) := by decide +kernel
set_option maxHeartbeats 4000000 in
set_option maxRecDepth 100000 in
theorem cn_X12_isWord {l : Launch} {cA : Nat → ClassId} {ad : Nat → Nat} {D : va_G} {E : Nat → Nat} {A : Nat → Prop} {x1 : Int32} {x2 : Int32} {w3 : Nat} {s0 sr : SS} {rr : Int32} (hf : f_X12_isWord x1 x2 w3 s0 = some (rr, sr)) : zCon Om Nm cA ad D E l yX12_isWord cX12_isWord 6 (some .boolean) 4 A [.ref (ad 0), .int x1, .int x2, .ref (E (10 + w3))] s0 (some (.int rr)) sr := by
  refine zstart (own := RX12) hOm (by decide) rfl (Nat.le_of_ble_eq_true rfl) ?_
  intro p e s m args below meth c X hP ls hl
  have hx := X.1
  have hb := X.2.1
  have hl : lv_has ls 6 [(0, .ref (ad 0)), (1, .int x1), (2, .int x2), (3, .ref (E (10 + w3)))] := hl
  have hS : va_S A s.heap s.heap [] := va_S.rf
  have hc_20 : ∀ (n20 : Nat) (x1 : Int32) (w3 : Nat) (x4 : Int32) (x5 : Int32) (s1 : SS) (H : Heap) (locs : List Loc) (ls : Array Slot), lv_has ls 6 [(0, .ref (ad 0)), (1, .int x1), (3, .ref (E (10 + w3))), (4, .int x4), (5, .int x5)] → va_P D ZCL (zw Om Nm cA ad s1) H → va_S A s.heap H locs → f_X12_isWord_c20 n20 x1 w3 x4 x5 s1 = some (rr, sr) → W p l e (zrm 4) s m args below meth c H locs 0 0 (MQ below (zQc Om Nm cA ad D A (some (.int rr)) sr) args s 0 0 A) (F0 m 20 ls []) := by
    intro n20
    induction n20 with
    | zero =>
      intro x1 w3 x4 x5 s1 H locs ls hl hP hS hf
      rw [f_X12_isWord_c20] at hf
      cases hf
    | succ n20 ih20 =>
      have hc_57 : ∀ (x1 : Int32) (w3 : Nat) (x5 : Int32) (t0 : Int32) (s1 : SS) (H : Heap) (locs : List Loc) (ls : Array Slot), lv_has ls 6 [(0, .ref (ad 0)), (1, .int x1), (3, .ref (E (10 + w3))), (5, .int x5)] → va_P D ZCL (zw Om Nm cA ad s1) H → va_S A s.heap H locs → f_X12_isWord_c57 (f_X12_isWord_c20 n20) x1 w3 x5 t0 s1 = some (rr, sr) → W p l e (zrm 4) s m args below meth c H locs 0 0 (MQ below (zQc Om Nm cA ad D A (some (.int rr)) sr) args s 0 0 A) (F0 m 57 ls [.int t0]) := by
        intro x1 w3 x5 t0 s1 H locs ls hl hP hS hf
        rw [f_X12_isWord_c57] at hf
        obtain ⟨gp3, hf⟩ := zgd hf
        refine lv_istore (lv' := [(4, .int t0), (0, .ref (ad 0)), (1, .int x1), (3, .ref (E (10 + w3))), (5, .int x5)]) hx hb dX12_isWord_57 hl (by decide) rfl (fun ls hl => ?_)
        refine lv_iinc (v := (x5 + 1)) (lv' := [(5, .int (x5 + 1)), (4, .int t0), (0, .ref (ad 0)), (1, .int x1), (3, .ref (E (10 + w3)))]) hx hb dX12_isWord_59 hl (k := 4) rfl rfl (by decide) rfl (fun ls hl => ?_)
        refine lv_goto (tgt := 20) hx hb dX12_isWord_62 (by decide) ?_
        exact ih20 x1 w3 t0 (x5 + 1) s1 _ _ _ (lv_sub hl [2, 3, 4, 1, 0] rfl) hP hS hf
      intro x1 w3 x4 x5 s1 H locs ls hl hP hS hf
      rw [f_X12_isWord_c20] at hf
      obtain ⟨gp3, hf⟩ := zgd hf
      refine lv_iload hx hb dX12_isWord_20 (lv_at hl 4 rfl) ?_
      refine lv_aload_n hx hb dX12_isWord_22 rfl (lv_at hl 2 rfl) ?_
      obtain ⟨r4, s5, h6, hf⟩ := zbd_some hf
      refine zcallT X hP hS hl.1 (w := w3) (As := []) (rest := [.int x5]) (cn_J0_length_8abf5 hOm h6) cw_J0_length_8abf5 gp3 ml_X12_375 (by decide) rfl rfl (Nat.le_of_ble_eq_true rfl) dX12_isWord_23 (fun H locs hP hS => ?_)
      refine zicmp_ge (tgt := 65) hx hb dX12_isWord_26 (by decide) hf (fun hf => ?_) (fun hf => ?_)
      · refine lv_iload hx hb dX12_isWord_65 (lv_at hl 3 rfl) ?_
        obtain ⟨b7, hf⟩ := zgd hf
        exact zret_i X hP hS hf (znar_of (by decide) b7) dX12_isWord_67
      · refine lv_iload hx hb dX12_isWord_29 (lv_at hl 3 rfl) ?_
        refine zif_eq (tgt := 65) hx hb dX12_isWord_31 (by decide) hf (fun hf => ?_) (fun hf => ?_)
        · refine lv_iload hx hb dX12_isWord_65 (lv_at hl 3 rfl) ?_
          obtain ⟨b8, hf⟩ := zgd hf
          exact zret_i X hP hS hf (znar_of (by decide) b8) dX12_isWord_67
        · refine lv_aload_n hx hb dX12_isWord_34 rfl (lv_at hl 0 rfl) ?_
          refine gf_X12_132 X hP (k := 0) (q := 20) rfl dX12_isWord_35 rfl ?_
          refine lv_iload_n hx hb dX12_isWord_38 rfl (lv_at hl 1 rfl) ?_
          refine lv_iload hx hb dX12_isWord_39 (lv_at hl 4 rfl) ?_
          refine lv_iadd hx hb dX12_isWord_41 ?_
          obtain ⟨g9, hf⟩ := zgd hf
          refine zald_i X hP (k := 20) (n := 80) (rs := []) rfl g9 dX12_isWord_42 ?_
          refine lv_aload_n hx hb dX12_isWord_43 rfl (lv_at hl 2 rfl) ?_
          refine lv_iload hx hb dX12_isWord_44 (lv_at hl 4 rfl) ?_
          obtain ⟨r10, s11, h12, hf⟩ := zbd_some hf
          refine zcallT X hP hS hl.1 (w := w3) (As := [.int x5]) (rest := [.int (s5.1 20 ((x1 + x5)).toNatClampNeg)]) (cn_J0_charAt_5068e hOm h12) cw_J0_charAt_5068e gp3 ml_X12_380 (by decide) rfl rfl (Nat.le_of_ble_eq_true rfl) dX12_isWord_46 (fun H locs hP hS => ?_)
          refine zicmp_ne (tgt := 56) hx hb dX12_isWord_49 (by decide) hf (fun hf => ?_) (fun hf => ?_)
          · refine lv_iconst (v := 0) hx hb dX12_isWord_56 (by decide) ?_
            exact hc_57 x1 w3 x5 0 s11 _ _ _ (lv_sub hl [0, 1, 2, 4] rfl) hP hS hf
          · refine lv_iconst (v := 1) hx hb dX12_isWord_52 (by decide) ?_
            refine lv_goto (tgt := 57) hx hb dX12_isWord_53 (by decide) ?_
            exact hc_57 x1 w3 x5 1 s11 _ _ _ (lv_sub hl [0, 1, 2, 4] rfl) hP hS hf
  have hc_15 : ∀ (x1 : Int32) (w3 : Nat) (t0 : Int32) (s1 : SS) (H : Heap) (locs : List Loc) (ls : Array Slot), lv_has ls 6 [(0, .ref (ad 0)), (1, .int x1), (3, .ref (E (10 + w3)))] → va_P D ZCL (zw Om Nm cA ad s1) H → va_S A s.heap H locs → f_X12_isWord_c15 x1 w3 t0 s1 = some (rr, sr) → W p l e (zrm 4) s m args below meth c H locs 0 0 (MQ below (zQc Om Nm cA ad D A (some (.int rr)) sr) args s 0 0 A) (F0 m 15 ls [.int t0]) := by
    intro x1 w3 t0 s1 H locs ls hl hP hS hf
    rw [f_X12_isWord_c15] at hf
    obtain ⟨gp3, hf⟩ := zgd hf
    refine lv_istore (lv' := [(4, .int t0), (0, .ref (ad 0)), (1, .int x1), (3, .ref (E (10 + w3)))]) hx hb dX12_isWord_15 hl (by decide) rfl (fun ls hl => ?_)
    refine lv_iconst (v := 0) hx hb dX12_isWord_17 (by decide) ?_
    refine lv_istore (lv' := [(5, .int 0), (4, .int t0), (0, .ref (ad 0)), (1, .int x1), (3, .ref (E (10 + w3)))]) hx hb dX12_isWord_18 hl (by decide) rfl (fun ls hl => ?_)
    exact hc_20 ZF x1 w3 t0 0 s1 _ _ _ (lv_sub hl [2, 3, 4, 1, 0] rfl) hP hS hf
  rw [f_X12_isWord] at hf
  obtain ⟨gp3, hf⟩ := zgd hf
  refine lv_iload_n hx hb dX12_isWord_0 rfl (lv_at hl 2 rfl) ?_
  refine lv_iload_n hx hb dX12_isWord_1 rfl (lv_at hl 1 rfl) ?_
  refine lv_isub hx hb dX12_isWord_2 ?_
  refine lv_aload_n hx hb dX12_isWord_3 rfl (lv_at hl 3 rfl) ?_
  obtain ⟨r1, s2, h3, hf⟩ := zbd_some hf
  refine zcallT X hP hS hl.1 (w := w3) (As := []) (rest := [.int (x2 - x1)]) (cn_J0_length_8abf5 hOm h3) cw_J0_length_8abf5 gp3 ml_X12_375 (by decide) rfl rfl (Nat.le_of_ble_eq_true rfl) dX12_isWord_4 (fun H locs hP hS => ?_)
  refine zicmp_ne (tgt := 14) hx hb dX12_isWord_7 (by decide) hf (fun hf => ?_) (fun hf => ?_)
  · refine lv_iconst (v := 0) hx hb dX12_isWord_14 (by decide) ?_
    exact hc_15 x1 w3 0 s2 _ _ _ (lv_sub hl [0, 1, 3] rfl) hP hS hf
  · refine lv_iconst (v := 1) hx hb dX12_isWord_10 (by decide) ?_
    refine lv_goto (tgt := 15) hx hb dX12_isWord_11 (by decide) ?_
    exact hc_15 x1 w3 1 s2 _ _ _ (lv_sub hl [0, 1, 3] rfl) hP hS hf
theorem dX12_wordOf_0 : decode cX12_wordOf 0 = .ok (.aload_n 0, 1) := by decide +kernel
theorem dX12_wordOf_1 : decode cX12_wordOf 1 = .ok (.iload_n 1, 1) := by decide +kernel
theorem dX12_wordOf_2 : decode cX12_wordOf 2 = .ok (.iload_n 2, 1) := by decide +kernel
theorem dX12_wordOf_3 : decode cX12_wordOf 3 = .ok (.ldc_w 384, 3) := by decide +kernel
theorem dX12_wordOf_6 : decode cX12_wordOf 6 = .ok (.invokevirtual 386, 3) := by decide +kernel
theorem dX12_wordOf_9 : decode cX12_wordOf 9 = .ok (.ifCond .eq 7, 3) := by decide +kernel
theorem dX12_wordOf_12 : decode cX12_wordOf 12 = .ok (.iconst 0, 1) := by decide +kernel
theorem dX12_wordOf_13 : decode cX12_wordOf 13 = .ok (.goto 68, 3) := by decide +kernel
theorem dX12_wordOf_16 : decode cX12_wordOf 16 = .ok (.aload_n 0, 1) := by decide +kernel
theorem dX12_wordOf_17 : decode cX12_wordOf 17 = .ok (.iload_n 1, 1) := by decide +kernel
theorem dX12_wordOf_18 : decode cX12_wordOf 18 = .ok (.iload_n 2, 1) := by decide +kernel
theorem dX12_wordOf_19 : decode cX12_wordOf 19 = .ok (.ldc_w 390, 3) := by decide +kernel
theorem dX12_wordOf_22 : decode cX12_wordOf 22 = .ok (.invokevirtual 386, 3) := by decide +kernel
theorem dX12_wordOf_25 : decode cX12_wordOf 25 = .ok (.ifCond .eq 7, 3) := by decide +kernel
theorem dX12_wordOf_28 : decode cX12_wordOf 28 = .ok (.iconst 1, 1) := by decide +kernel
theorem dX12_wordOf_29 : decode cX12_wordOf 29 = .ok (.goto 52, 3) := by decide +kernel
theorem dX12_wordOf_32 : decode cX12_wordOf 32 = .ok (.aload_n 0, 1) := by decide +kernel
theorem dX12_wordOf_33 : decode cX12_wordOf 33 = .ok (.iload_n 1, 1) := by decide +kernel
theorem dX12_wordOf_34 : decode cX12_wordOf 34 = .ok (.iload_n 2, 1) := by decide +kernel
theorem dX12_wordOf_35 : decode cX12_wordOf 35 = .ok (.ldc_w 392, 3) := by decide +kernel
theorem dX12_wordOf_38 : decode cX12_wordOf 38 = .ok (.invokevirtual 386, 3) := by decide +kernel
theorem dX12_wordOf_41 : decode cX12_wordOf 41 = .ok (.ifCond .eq 7, 3) := by decide +kernel
theorem dX12_wordOf_44 : decode cX12_wordOf 44 = .ok (.iconst 2, 1) := by decide +kernel
theorem dX12_wordOf_45 : decode cX12_wordOf 45 = .ok (.goto 36, 3) := by decide +kernel
theorem dX12_wordOf_48 : decode cX12_wordOf 48 = .ok (.aload_n 0, 1) := by decide +kernel
theorem dX12_wordOf_49 : decode cX12_wordOf 49 = .ok (.iload_n 1, 1) := by decide +kernel
theorem dX12_wordOf_50 : decode cX12_wordOf 50 = .ok (.iload_n 2, 1) := by decide +kernel
theorem dX12_wordOf_51 : decode cX12_wordOf 51 = .ok (.ldc_w 394, 3) := by decide +kernel
theorem dX12_wordOf_54 : decode cX12_wordOf 54 = .ok (.invokevirtual 386, 3) := by decide +kernel
theorem dX12_wordOf_57 : decode cX12_wordOf 57 = .ok (.ifCond .eq 7, 3) := by decide +kernel
theorem dX12_wordOf_60 : decode cX12_wordOf 60 = .ok (.iconst 3, 1) := by decide +kernel
theorem dX12_wordOf_61 : decode cX12_wordOf 61 = .ok (.goto 20, 3) := by decide +kernel
theorem dX12_wordOf_64 : decode cX12_wordOf 64 = .ok (.aload_n 0, 1) := by decide +kernel
theorem dX12_wordOf_65 : decode cX12_wordOf 65 = .ok (.iload_n 1, 1) := by decide +kernel
theorem dX12_wordOf_66 : decode cX12_wordOf 66 = .ok (.iload_n 2, 1) := by decide +kernel
theorem dX12_wordOf_67 : decode cX12_wordOf 67 = .ok (.ldc_w 395, 3) := by decide +kernel
theorem dX12_wordOf_70 : decode cX12_wordOf 70 = .ok (.invokevirtual 386, 3) := by decide +kernel
theorem dX12_wordOf_73 : decode cX12_wordOf 73 = .ok (.ifCond .eq 7, 3) := by decide +kernel
theorem dX12_wordOf_76 : decode cX12_wordOf 76 = .ok (.iconst 4, 1) := by decide +kernel
theorem dX12_wordOf_77 : decode cX12_wordOf 77 = .ok (.goto 4, 3) := by decide +kernel
theorem dX12_wordOf_80 : decode cX12_wordOf 80 = .ok (.iconst (-1), 1) := by decide +kernel
theorem dX12_wordOf_81 : decode cX12_wordOf 81 = .ok (.ireturn, 1) := by decide +kernel
set_option maxHeartbeats 4000000 in
set_option maxRecDepth 100000 in
theorem cn_X12_wordOf {l : Launch} {cA : Nat → ClassId} {ad : Nat → Nat} {D : va_G} {E : Nat → Nat} {A : Nat → Prop} {x1 : Int32} {x2 : Int32} {s0 sr : SS} {rr : Int32} (hf : f_X12_wordOf x1 x2 s0 = some (rr, sr)) : zCon Om Nm cA ad D E l yX12_wordOf cX12_wordOf 3 (some .int) 5 A [.ref (ad 0), .int x1, .int x2] s0 (some (.int rr)) sr := by
  refine zstart (own := RX12) hOm (by decide) rfl (Nat.le_of_ble_eq_true rfl) ?_
  intro p e s m args below meth c X hP ls hl
  have hx := X.1
  have hb := X.2.1
  have hl : lv_has ls 3 [(0, .ref (ad 0)), (1, .int x1), (2, .int x2)] := hl
  have hS : va_S A s.heap s.heap [] := va_S.rf
  rw [f_X12_wordOf] at hf
  refine lv_aload_n hx hb dX12_wordOf_0 rfl (lv_at hl 0 rfl) ?_
  refine lv_iload_n hx hb dX12_wordOf_1 rfl (lv_at hl 1 rfl) ?_
  refine lv_iload_n hx hb dX12_wordOf_2 rfl (lv_at hl 2 rfl) ?_
  refine zldcSW X (w := 0) (tx := "sum") (by decide) dX12_wordOf_3 ?_
  obtain ⟨r1, s2, h3, hf⟩ := zbd_some hf
  refine zcallV X hP hS hl.1 (k := 0) (As := [.int x1, .int x2, .ref (E (10 + 0))]) (rest := []) (cn_X12_isWord h3) cw_X12_isWord zp_12 rfl (by decide) rfl ml_X12_386 (by decide) rfl rfl (Nat.le_of_ble_eq_true rfl) dX12_wordOf_6 (fun H locs hP hS => ?_)
  refine zif_eq (tgt := 16) hx hb dX12_wordOf_9 (by decide) hf (fun hf => ?_) (fun hf => ?_)
  · refine lv_aload_n hx hb dX12_wordOf_16 rfl (lv_at hl 0 rfl) ?_
    refine lv_iload_n hx hb dX12_wordOf_17 rfl (lv_at hl 1 rfl) ?_
    refine lv_iload_n hx hb dX12_wordOf_18 rfl (lv_at hl 2 rfl) ?_
    refine zldcSW X (w := 1) (tx := "times") (by decide) dX12_wordOf_19 ?_
    obtain ⟨r4, s5, h6, hf⟩ := zbd_some hf
    refine zcallV X hP hS hl.1 (k := 0) (As := [.int x1, .int x2, .ref (E (10 + 1))]) (rest := []) (cn_X12_isWord h6) cw_X12_isWord zp_12 rfl (by decide) rfl ml_X12_386 (by decide) rfl rfl (Nat.le_of_ble_eq_true rfl) dX12_wordOf_22 (fun H locs hP hS => ?_)
    refine zif_eq (tgt := 32) hx hb dX12_wordOf_25 (by decide) hf (fun hf => ?_) (fun hf => ?_)
    · refine lv_aload_n hx hb dX12_wordOf_32 rfl (lv_at hl 0 rfl) ?_
      refine lv_iload_n hx hb dX12_wordOf_33 rfl (lv_at hl 1 rfl) ?_
      refine lv_iload_n hx hb dX12_wordOf_34 rfl (lv_at hl 2 rfl) ?_
      refine zldcSW X (w := 2) (tx := "minus") (by decide) dX12_wordOf_35 ?_
      obtain ⟨r7, s8, h9, hf⟩ := zbd_some hf
      refine zcallV X hP hS hl.1 (k := 0) (As := [.int x1, .int x2, .ref (E (10 + 2))]) (rest := []) (cn_X12_isWord h9) cw_X12_isWord zp_12 rfl (by decide) rfl ml_X12_386 (by decide) rfl rfl (Nat.le_of_ble_eq_true rfl) dX12_wordOf_38 (fun H locs hP hS => ?_)
      refine zif_eq (tgt := 48) hx hb dX12_wordOf_41 (by decide) hf (fun hf => ?_) (fun hf => ?_)
      · refine lv_aload_n hx hb dX12_wordOf_48 rfl (lv_at hl 0 rfl) ?_
        refine lv_iload_n hx hb dX12_wordOf_49 rfl (lv_at hl 1 rfl) ?_
        refine lv_iload_n hx hb dX12_wordOf_50 rfl (lv_at hl 2 rfl) ?_
        refine zldcSW X (w := 3) (tx := "power") (by decide) dX12_wordOf_51 ?_
        obtain ⟨r10, s11, h12, hf⟩ := zbd_some hf
        refine zcallV X hP hS hl.1 (k := 0) (As := [.int x1, .int x2, .ref (E (10 + 3))]) (rest := []) (cn_X12_isWord h12) cw_X12_isWord zp_12 rfl (by decide) rfl ml_X12_386 (by decide) rfl rfl (Nat.le_of_ble_eq_true rfl) dX12_wordOf_54 (fun H locs hP hS => ?_)
        refine zif_eq (tgt := 64) hx hb dX12_wordOf_57 (by decide) hf (fun hf => ?_) (fun hf => ?_)
        · refine lv_aload_n hx hb dX12_wordOf_64 rfl (lv_at hl 0 rfl) ?_
          refine lv_iload_n hx hb dX12_wordOf_65 rfl (lv_at hl 1 rfl) ?_
          refine lv_iload_n hx hb dX12_wordOf_66 rfl (lv_at hl 2 rfl) ?_
          refine zldcSW X (w := 4) (tx := "part") (by decide) dX12_wordOf_67 ?_
          obtain ⟨r13, s14, h15, hf⟩ := zbd_some hf
          refine zcallV X hP hS hl.1 (k := 0) (As := [.int x1, .int x2, .ref (E (10 + 4))]) (rest := []) (cn_X12_isWord h15) cw_X12_isWord zp_12 rfl (by decide) rfl ml_X12_386 (by decide) rfl rfl (Nat.le_of_ble_eq_true rfl) dX12_wordOf_70 (fun H locs hP hS => ?_)
          refine zif_eq (tgt := 80) hx hb dX12_wordOf_73 (by decide) hf (fun hf => ?_) (fun hf => ?_)
          · refine lv_iconst (v := (-1)) hx hb dX12_wordOf_80 (by decide) ?_
            exact zret_i X hP hS hf rfl dX12_wordOf_81
          · refine lv_iconst (v := 4) hx hb dX12_wordOf_76 (by decide) ?_
            refine lv_goto (tgt := 81) hx hb dX12_wordOf_77 (by decide) ?_
            exact zret_i X hP hS hf rfl dX12_wordOf_81
        · refine lv_iconst (v := 3) hx hb dX12_wordOf_60 (by decide) ?_
          refine lv_goto (tgt := 81) hx hb dX12_wordOf_61 (by decide) ?_
          exact zret_i X hP hS hf rfl dX12_wordOf_81
      · refine lv_iconst (v := 2) hx hb dX12_wordOf_44 (by decide) ?_
        refine lv_goto (tgt := 81) hx hb dX12_wordOf_45 (by decide) ?_
        exact zret_i X hP hS hf rfl dX12_wordOf_81
    · refine lv_iconst (v := 1) hx hb dX12_wordOf_28 (by decide) ?_
      refine lv_goto (tgt := 81) hx hb dX12_wordOf_29 (by decide) ?_
      exact zret_i X hP hS hf rfl dX12_wordOf_81
  · refine lv_iconst (v := 0) hx hb dX12_wordOf_12 (by decide) ?_
    refine lv_goto (tgt := 81) hx hb dX12_wordOf_13 (by decide) ?_
    exact zret_i X hP hS hf rfl dX12_wordOf_81
theorem dX12_readNumber_0 : decode cX12_readNumber 0 = .ok (.aload_n 0, 1) := by decide +kernel
theorem dX12_readNumber_1 : decode cX12_readNumber 1 = .ok (.aload_n 0, 1) := by decide +kernel
theorem dX12_readNumber_2 : decode cX12_readNumber 2 = .ok (.getfield 352, 3) := by decide +kernel
theorem dX12_readNumber_5 : decode cX12_readNumber 5 = .ok (.ifCond .ne 12, 3) := by decide +kernel
theorem dX12_readNumber_8 : decode cX12_readNumber 8 = .ok (.aload_n 0, 1) := by decide +kernel
theorem dX12_readNumber_9 : decode cX12_readNumber 9 = .ok (.invokevirtual 342, 3) := by decide +kernel
theorem dX12_readNumber_12 : decode cX12_readNumber 12 = .ok (.bipush 32, 2) := by decide +kernel
theorem dX12_readNumber_14 : decode cX12_readNumber 14 = .ok (.if_icmp .eq 7, 3) := by decide +kernel
theorem dX12_readNumber_17 : decode cX12_readNumber 17 = .ok (.iconst 1, 1) := by decide +kernel
theorem dX12_readNumber_18 : decode cX12_readNumber 18 = .ok (.goto 4, 3) := by decide +kernel
theorem dX12_readNumber_21 : decode cX12_readNumber 21 = .ok (.iconst 0, 1) := by decide +kernel
theorem dX12_readNumber_22 : decode cX12_readNumber 22 = .ok (.putfield 352, 3) := by decide +kernel
theorem dX12_readNumber_25 : decode cX12_readNumber 25 = .ok (.aload_n 0, 1) := by decide +kernel
theorem dX12_readNumber_26 : decode cX12_readNumber 26 = .ok (.dup, 1) := by decide +kernel
theorem dX12_readNumber_27 : decode cX12_readNumber 27 = .ok (.getfield 339, 3) := by decide +kernel
theorem dX12_readNumber_30 : decode cX12_readNumber 30 = .ok (.aload_n 0, 1) := by decide +kernel
theorem dX12_readNumber_31 : decode cX12_readNumber 31 = .ok (.getfield 352, 3) := by decide +kernel
theorem dX12_readNumber_34 : decode cX12_readNumber 34 = .ok (.ifCond .eq 7, 3) := by decide +kernel
theorem dX12_readNumber_37 : decode cX12_readNumber 37 = .ok (.iconst 0, 1) := by decide +kernel
theorem dX12_readNumber_38 : decode cX12_readNumber 38 = .ok (.goto 4, 3) := by decide +kernel
theorem dX12_readNumber_41 : decode cX12_readNumber 41 = .ok (.iconst 1, 1) := by decide +kernel
theorem dX12_readNumber_42 : decode cX12_readNumber 42 = .ok (.iadd, 1) := by decide +kernel
theorem dX12_readNumber_43 : decode cX12_readNumber 43 = .ok (.putfield 339, 3) := by decide +kernel
theorem dX12_readNumber_46 : decode cX12_readNumber 46 = .ok (.aload_n 0, 1) := by decide +kernel
theorem dX12_readNumber_47 : decode cX12_readNumber 47 = .ok (.aload_n 0, 1) := by decide +kernel
theorem dX12_readNumber_48 : decode cX12_readNumber 48 = .ok (.getfield 352, 3) := by decide +kernel
theorem dX12_readNumber_51 : decode cX12_readNumber 51 = .ok (.ifCond .ne 10, 3) := by decide +kernel
theorem dX12_readNumber_54 : decode cX12_readNumber 54 = .ok (.aload_n 0, 1) := by decide +kernel
theorem dX12_readNumber_55 : decode cX12_readNumber 55 = .ok (.invokevirtual 360, 3) := by decide +kernel
theorem dX12_readNumber_58 : decode cX12_readNumber 58 = .ok (.ifCond .ne 7, 3) := by decide +kernel
theorem dX12_readNumber_61 : decode cX12_readNumber 61 = .ok (.iconst 1, 1) := by decide +kernel
theorem dX12_readNumber_62 : decode cX12_readNumber 62 = .ok (.goto 4, 3) := by decide +kernel
theorem dX12_readNumber_65 : decode cX12_readNumber 65 = .ok (.iconst 0, 1) := by decide +kernel
theorem dX12_readNumber_66 : decode cX12_readNumber 66 = .ok (.putfield 352, 3) := by decide +kernel
theorem dX12_readNumber_69 : decode cX12_readNumber 69 = .ok (.aload_n 0, 1) := by decide +kernel
theorem dX12_readNumber_70 : decode cX12_readNumber 70 = .ok (.getfield 352, 3) := by decide +kernel
theorem dX12_readNumber_73 : decode cX12_readNumber 73 = .ok (.ifCond .eq 7, 3) := by decide +kernel
theorem dX12_readNumber_76 : decode cX12_readNumber 76 = .ok (.iconst 0, 1) := by decide +kernel
theorem dX12_readNumber_77 : decode cX12_readNumber 77 = .ok (.goto 10, 3) := by decide +kernel
theorem dX12_readNumber_80 : decode cX12_readNumber 80 = .ok (.aload_n 0, 1) := by decide +kernel
theorem dX12_readNumber_81 : decode cX12_readNumber 81 = .ok (.invokevirtual 342, 3) := by decide +kernel
theorem dX12_readNumber_84 : decode cX12_readNumber 84 = .ok (.bipush 48, 2) := by decide +kernel
theorem dX12_readNumber_86 : decode cX12_readNumber 86 = .ok (.isub, 1) := by decide +kernel
theorem dX12_readNumber_87 : decode cX12_readNumber 87 = .ok (.istore_n 1, 1) := by decide +kernel
theorem dX12_readNumber_88 : decode cX12_readNumber 88 = .ok (.aload_n 0, 1) := by decide +kernel
theorem dX12_readNumber_89 : decode cX12_readNumber 89 = .ok (.dup, 1) := by decide +kernel
theorem dX12_readNumber_90 : decode cX12_readNumber 90 = .ok (.getfield 339, 3) := by decide +kernel
theorem dX12_readNumber_93 : decode cX12_readNumber 93 = .ok (.aload_n 0, 1) := by decide +kernel
theorem dX12_readNumber_94 : decode cX12_readNumber 94 = .ok (.getfield 352, 3) := by decide +kernel
theorem dX12_readNumber_97 : decode cX12_readNumber 97 = .ok (.ifCond .eq 7, 3) := by decide +kernel
theorem dX12_readNumber_100 : decode cX12_readNumber 100 = .ok (.iconst 0, 1) := by decide +kernel
theorem dX12_readNumber_101 : decode cX12_readNumber 101 = .ok (.goto 4, 3) := by decide +kernel
theorem dX12_readNumber_104 : decode cX12_readNumber 104 = .ok (.iconst 1, 1) := by decide +kernel
theorem dX12_readNumber_105 : decode cX12_readNumber 105 = .ok (.iadd, 1) := by decide +kernel
theorem dX12_readNumber_106 : decode cX12_readNumber 106 = .ok (.putfield 339, 3) := by decide +kernel
theorem dX12_readNumber_109 : decode cX12_readNumber 109 = .ok (.iload_n 1, 1) := by decide +kernel
theorem dX12_readNumber_110 : decode cX12_readNumber 110 = .ok (.ireturn, 1) := by decide +kernel
set_option maxHeartbeats 4000000 in
set_option maxRecDepth 100000 in
theorem cn_X12_readNumber {l : Launch} {cA : Nat → ClassId} {ad : Nat → Nat} {D : va_G} {E : Nat → Nat} {A : Nat → Prop}  {s0 sr : SS} {rr : Int32} (hf : f_X12_readNumber s0 = some (rr, sr)) : zCon Om Nm cA ad D E l yX12_readNumber cX12_readNumber 2 (some .int) 2 A [.ref (ad 0)] s0 (some (.int rr)) sr := by
  refine zstart (own := RX12) hOm (by decide) rfl (Nat.le_of_ble_eq_true rfl) ?_
  intro p e s m args below meth c X hP ls hl
  have hx := X.1
  have hb := X.2.1
  have hl : lv_has ls 2 [(0, .ref (ad 0))] := hl
  have hS : va_S A s.heap s.heap [] := va_S.rf
  have hc_87 : ∀ (t0 : Int32) (s1 : SS) (H : Heap) (locs : List Loc) (ls : Array Slot), lv_has ls 2 [(0, .ref (ad 0))] → va_P D ZCL (zw Om Nm cA ad s1) H → va_S A s.heap H locs → f_X12_readNumber_c87 t0 s1 = some (rr, sr) → W p l e (zrm 2) s m args below meth c H locs 0 0 (MQ below (zQc Om Nm cA ad D A (some (.int rr)) sr) args s 0 0 A) (F0 m 87 ls [.int t0]) := by
    intro t0 s1 H locs ls hl hP hS hf
    rw [f_X12_readNumber_c87] at hf
    refine lv_istore_n (lv' := [(1, .int t0), (0, .ref (ad 0))]) hx hb dX12_readNumber_87 rfl hl (by decide) rfl (fun ls hl => ?_)
    refine lv_aload_n hx hb dX12_readNumber_88 rfl (lv_at hl 1 rfl) ?_
    refine lv_dup hx hb dX12_readNumber_89 rfl ?_
    refine gf_X12_339 X hP (k := 0) rfl dX12_readNumber_90 ?_
    refine lv_aload_n hx hb dX12_readNumber_93 rfl (lv_at hl 1 rfl) ?_
    refine gf_X12_352 X hP (k := 0) rfl dX12_readNumber_94 ?_
    refine zif_eq (tgt := 104) hx hb dX12_readNumber_97 (by decide) hf (fun hf => ?_) (fun hf => ?_)
    · refine lv_iconst (v := 1) hx hb dX12_readNumber_104 (by decide) ?_
      refine lv_iadd hx hb dX12_readNumber_105 ?_
      refine pf_X12_339 X hP hS (k := 0) rfl dX12_readNumber_106 (fun H locs hP hS => ?_)
      refine lv_iload_n hx hb dX12_readNumber_109 rfl (lv_at hl 0 rfl) ?_
      exact zret_i X hP hS hf rfl dX12_readNumber_110
    · refine lv_iconst (v := 0) hx hb dX12_readNumber_100 (by decide) ?_
      refine lv_goto (tgt := 105) hx hb dX12_readNumber_101 (by decide) ?_
      refine lv_iadd hx hb dX12_readNumber_105 ?_
      refine pf_X12_339 X hP hS (k := 0) rfl dX12_readNumber_106 (fun H locs hP hS => ?_)
      refine lv_iload_n hx hb dX12_readNumber_109 rfl (lv_at hl 0 rfl) ?_
      exact zret_i X hP hS hf rfl dX12_readNumber_110
  have hc_66 : ∀ (t0 : Int32) (s1 : SS) (H : Heap) (locs : List Loc) (ls : Array Slot), lv_has ls 2 [(0, .ref (ad 0))] → va_P D ZCL (zw Om Nm cA ad s1) H → va_S A s.heap H locs → f_X12_readNumber_c66 t0 s1 = some (rr, sr) → W p l e (zrm 2) s m args below meth c H locs 0 0 (MQ below (zQc Om Nm cA ad D A (some (.int rr)) sr) args s 0 0 A) (F0 m 66 ls [.int t0, .ref (ad 0)]) := by
    intro t0 s1 H locs ls hl hP hS hf
    rw [f_X12_readNumber_c66] at hf
    obtain ⟨b2, hf⟩ := zgd hf
    refine pf_X12_352 X hP hS (k := 0) rfl b2 dX12_readNumber_66 (fun H locs hP hS => ?_)
    refine lv_aload_n hx hb dX12_readNumber_69 rfl (lv_at hl 0 rfl) ?_
    refine gf_X12_352 X hP (k := 0) rfl dX12_readNumber_70 ?_
    refine zif_eq (tgt := 80) hx hb dX12_readNumber_73 (by decide) hf (fun hf => ?_) (fun hf => ?_)
    · refine lv_aload_n hx hb dX12_readNumber_80 rfl (lv_at hl 0 rfl) ?_
      obtain ⟨r3, s4, h5, hf⟩ := zbd_some hf
      refine zcallV X hP hS hl.1 (k := 0) (As := []) (rest := []) (cn_X12_here h5) cw_X12_here zp_12 rfl (by decide) rfl ml_X12_342 (by decide) rfl rfl (Nat.le_of_ble_eq_true rfl) dX12_readNumber_81 (fun H locs hP hS => ?_)
      refine lv_bipush (v := 48) hx hb dX12_readNumber_84 (by decide) ?_
      refine lv_isub hx hb dX12_readNumber_86 ?_
      exact hc_87 (r3 - (48 : Int32)) s4 _ _ _ (lv_sub hl [0] rfl) hP hS hf
    · refine lv_iconst (v := 0) hx hb dX12_readNumber_76 (by decide) ?_
      refine lv_goto (tgt := 87) hx hb dX12_readNumber_77 (by decide) ?_
      exact hc_87 0 (zS s1 0 53 t0) _ _ _ (lv_sub hl [0] rfl) hP hS hf
  have hc_61 : ∀  (s1 : SS) (H : Heap) (locs : List Loc) (ls : Array Slot), lv_has ls 2 [(0, .ref (ad 0))] → va_P D ZCL (zw Om Nm cA ad s1) H → va_S A s.heap H locs → f_X12_readNumber_c61  s1 = some (rr, sr) → W p l e (zrm 2) s m args below meth c H locs 0 0 (MQ below (zQc Om Nm cA ad D A (some (.int rr)) sr) args s 0 0 A) (F0 m 61 ls [.ref (ad 0)]) := by
    intro  s1 H locs ls hl hP hS hf
    rw [f_X12_readNumber_c61] at hf
    refine lv_iconst (v := 1) hx hb dX12_readNumber_61 (by decide) ?_
    refine lv_goto (tgt := 66) hx hb dX12_readNumber_62 (by decide) ?_
    exact hc_66 1 s1 _ _ _ (lv_sub hl [0] rfl) hP hS hf
  have hc_42 : ∀ (t0 : Int32) (t1 : Int32) (s1 : SS) (H : Heap) (locs : List Loc) (ls : Array Slot), lv_has ls 2 [(0, .ref (ad 0))] → va_P D ZCL (zw Om Nm cA ad s1) H → va_S A s.heap H locs → f_X12_readNumber_c42 t0 t1 s1 = some (rr, sr) → W p l e (zrm 2) s m args below meth c H locs 0 0 (MQ below (zQc Om Nm cA ad D A (some (.int rr)) sr) args s 0 0 A) (F0 m 42 ls [.int t0, .int t1, .ref (ad 0)]) := by
    intro t0 t1 s1 H locs ls hl hP hS hf
    rw [f_X12_readNumber_c42] at hf
    refine lv_iadd hx hb dX12_readNumber_42 ?_
    refine pf_X12_339 X hP hS (k := 0) rfl dX12_readNumber_43 (fun H locs hP hS => ?_)
    refine lv_aload_n hx hb dX12_readNumber_46 rfl (lv_at hl 0 rfl) ?_
    refine lv_aload_n hx hb dX12_readNumber_47 rfl (lv_at hl 0 rfl) ?_
    refine gf_X12_352 X hP (k := 0) rfl dX12_readNumber_48 ?_
    refine zif_ne (tgt := 61) hx hb dX12_readNumber_51 (by decide) hf (fun hf => ?_) (fun hf => ?_)
    · exact hc_61  (zS s1 0 52 (t1 + t0)) _ _ _ (lv_sub hl [0] rfl) hP hS hf
    · refine lv_aload_n hx hb dX12_readNumber_54 rfl (lv_at hl 0 rfl) ?_
      obtain ⟨r6, s7, h8, hf⟩ := zbd_some hf
      refine zcallV X hP hS hl.1 (k := 0) (As := []) (rest := [.ref (ad 0)]) (cn_X12_isFigure h8) cw_X12_isFigure zp_12 rfl (by decide) rfl ml_X12_360 (by decide) rfl rfl (Nat.le_of_ble_eq_true rfl) dX12_readNumber_55 (fun H locs hP hS => ?_)
      refine zif_ne (tgt := 65) hx hb dX12_readNumber_58 (by decide) hf (fun hf => ?_) (fun hf => ?_)
      · refine lv_iconst (v := 0) hx hb dX12_readNumber_65 (by decide) ?_
        exact hc_66 0 s7 _ _ _ (lv_sub hl [0] rfl) hP hS hf
      · exact hc_61  s7 _ _ _ (lv_sub hl [0] rfl) hP hS hf
  have hc_22 : ∀ (t0 : Int32) (s1 : SS) (H : Heap) (locs : List Loc) (ls : Array Slot), lv_has ls 2 [(0, .ref (ad 0))] → va_P D ZCL (zw Om Nm cA ad s1) H → va_S A s.heap H locs → f_X12_readNumber_c22 t0 s1 = some (rr, sr) → W p l e (zrm 2) s m args below meth c H locs 0 0 (MQ below (zQc Om Nm cA ad D A (some (.int rr)) sr) args s 0 0 A) (F0 m 22 ls [.int t0, .ref (ad 0)]) := by
    intro t0 s1 H locs ls hl hP hS hf
    rw [f_X12_readNumber_c22] at hf
    obtain ⟨b1, hf⟩ := zgd hf
    refine pf_X12_352 X hP hS (k := 0) rfl b1 dX12_readNumber_22 (fun H locs hP hS => ?_)
    refine lv_aload_n hx hb dX12_readNumber_25 rfl (lv_at hl 0 rfl) ?_
    refine lv_dup hx hb dX12_readNumber_26 rfl ?_
    refine gf_X12_339 X hP (k := 0) rfl dX12_readNumber_27 ?_
    refine lv_aload_n hx hb dX12_readNumber_30 rfl (lv_at hl 0 rfl) ?_
    refine gf_X12_352 X hP (k := 0) rfl dX12_readNumber_31 ?_
    refine zif_eq (tgt := 41) hx hb dX12_readNumber_34 (by decide) hf (fun hf => ?_) (fun hf => ?_)
    · refine lv_iconst (v := 1) hx hb dX12_readNumber_41 (by decide) ?_
      exact hc_42 1 ((zS s1 0 53 t0).1 0 52) (zS s1 0 53 t0) _ _ _ (lv_sub hl [0] rfl) hP hS hf
    · refine lv_iconst (v := 0) hx hb dX12_readNumber_37 (by decide) ?_
      refine lv_goto (tgt := 42) hx hb dX12_readNumber_38 (by decide) ?_
      exact hc_42 0 ((zS s1 0 53 t0).1 0 52) (zS s1 0 53 t0) _ _ _ (lv_sub hl [0] rfl) hP hS hf
  have hc_17 : ∀  (s1 : SS) (H : Heap) (locs : List Loc) (ls : Array Slot), lv_has ls 2 [(0, .ref (ad 0))] → va_P D ZCL (zw Om Nm cA ad s1) H → va_S A s.heap H locs → f_X12_readNumber_c17  s1 = some (rr, sr) → W p l e (zrm 2) s m args below meth c H locs 0 0 (MQ below (zQc Om Nm cA ad D A (some (.int rr)) sr) args s 0 0 A) (F0 m 17 ls [.ref (ad 0)]) := by
    intro  s1 H locs ls hl hP hS hf
    rw [f_X12_readNumber_c17] at hf
    refine lv_iconst (v := 1) hx hb dX12_readNumber_17 (by decide) ?_
    refine lv_goto (tgt := 22) hx hb dX12_readNumber_18 (by decide) ?_
    exact hc_22 1 s1 _ _ _ (lv_sub hl [0] rfl) hP hS hf
  rw [f_X12_readNumber] at hf
  refine lv_aload_n hx hb dX12_readNumber_0 rfl (lv_at hl 0 rfl) ?_
  refine lv_aload_n hx hb dX12_readNumber_1 rfl (lv_at hl 0 rfl) ?_
  refine gf_X12_352 X hP (k := 0) rfl dX12_readNumber_2 ?_
  refine zif_ne (tgt := 17) hx hb dX12_readNumber_5 (by decide) hf (fun hf => ?_) (fun hf => ?_)
  · exact hc_17  s0 _ _ _ (lv_sub hl [0] rfl) hP hS hf
  · refine lv_aload_n hx hb dX12_readNumber_8 rfl (lv_at hl 0 rfl) ?_
    obtain ⟨r9, s10, h11, hf⟩ := zbd_some hf
    refine zcallV X hP hS hl.1 (k := 0) (As := []) (rest := [.ref (ad 0)]) (cn_X12_here h11) cw_X12_here zp_12 rfl (by decide) rfl ml_X12_342 (by decide) rfl rfl (Nat.le_of_ble_eq_true rfl) dX12_readNumber_9 (fun H locs hP hS => ?_)
    refine lv_bipush (v := 32) hx hb dX12_readNumber_12 (by decide) ?_
    refine zicmp_eq (tgt := 21) hx hb dX12_readNumber_14 (by decide) hf (fun hf => ?_) (fun hf => ?_)
    · refine lv_iconst (v := 0) hx hb dX12_readNumber_21 (by decide) ?_
      exact hc_22 0 s10 _ _ _ (lv_sub hl [0] rfl) hP hS hf
    · exact hc_17  s10 _ _ _ (lv_sub hl [0] rfl) hP hS hf
theorem dX12_readAct_0 : decode cX12_readAct 0 = .ok (.aload_n 0, 1) := by decide +kernel
theorem dX12_readAct_1 : decode cX12_readAct 1 = .ok (.getfield 339, 3) := by decide +kernel
theorem dX12_readAct_4 : decode cX12_readAct 4 = .ok (.istore_n 1, 1) := by decide +kernel
theorem dX12_readAct_5 : decode cX12_readAct 5 = .ok (.aload_n 0, 1) := by decide +kernel
theorem dX12_readAct_6 : decode cX12_readAct 6 = .ok (.invokevirtual 342, 3) := by decide +kernel
theorem dX12_readAct_9 : decode cX12_readAct 9 = .ok (.i2l, 1) := by decide +kernel
theorem dX12_readAct_10 : decode cX12_readAct 10 = .ok (.ldc2_w 225, 3) := by decide +kernel
theorem dX12_readAct_13 : decode cX12_readAct 13 = .ok (.ldc2_w 397, 3) := by decide +kernel
theorem dX12_readAct_16 : decode cX12_readAct 16 = .ok (.invokestatic 203, 3) := by decide +kernel
theorem dX12_readAct_19 : decode cX12_readAct 19 = .ok (.ifCond .eq 16, 3) := by decide +kernel
theorem dX12_readAct_22 : decode cX12_readAct 22 = .ok (.aload_n 0, 1) := by decide +kernel
theorem dX12_readAct_23 : decode cX12_readAct 23 = .ok (.dup, 1) := by decide +kernel
theorem dX12_readAct_24 : decode cX12_readAct 24 = .ok (.getfield 339, 3) := by decide +kernel
theorem dX12_readAct_27 : decode cX12_readAct 27 = .ok (.iconst 1, 1) := by decide +kernel
theorem dX12_readAct_28 : decode cX12_readAct 28 = .ok (.iadd, 1) := by decide +kernel
theorem dX12_readAct_29 : decode cX12_readAct 29 = .ok (.putfield 339, 3) := by decide +kernel
theorem dX12_readAct_32 : decode cX12_readAct 32 = .ok (.goto (-27), 3) := by decide +kernel
theorem dX12_readAct_35 : decode cX12_readAct 35 = .ok (.aload_n 0, 1) := by decide +kernel
theorem dX12_readAct_36 : decode cX12_readAct 36 = .ok (.iload_n 1, 1) := by decide +kernel
theorem dX12_readAct_37 : decode cX12_readAct 37 = .ok (.aload_n 0, 1) := by decide +kernel
theorem dX12_readAct_38 : decode cX12_readAct 38 = .ok (.getfield 339, 3) := by decide +kernel
theorem dX12_readAct_41 : decode cX12_readAct 41 = .ok (.invokevirtual 399, 3) := by decide +kernel
theorem dX12_readAct_44 : decode cX12_readAct 44 = .ok (.istore_n 2, 1) := by decide +kernel
theorem dX12_readAct_45 : decode cX12_readAct 45 = .ok (.iload_n 2, 1) := by decide +kernel
theorem dX12_readAct_46 : decode cX12_readAct 46 = .ok (.ifCond .ge 14, 3) := by decide +kernel
theorem dX12_readAct_49 : decode cX12_readAct 49 = .ok (.aload_n 0, 1) := by decide +kernel
theorem dX12_readAct_50 : decode cX12_readAct 50 = .ok (.iload_n 1, 1) := by decide +kernel
theorem dX12_readAct_51 : decode cX12_readAct 51 = .ok (.putfield 339, 3) := by decide +kernel
theorem dX12_readAct_54 : decode cX12_readAct 54 = .ok (.aload_n 0, 1) := by decide +kernel
theorem dX12_readAct_55 : decode cX12_readAct 55 = .ok (.iconst 1, 1) := by decide +kernel
theorem dX12_readAct_56 : decode cX12_readAct 56 = .ok (.putfield 352, 3) := by decide +kernel
theorem dX12_readAct_59 : decode cX12_readAct 59 = .ok (.return_, 1) := by decide +kernel
theorem dX12_readAct_60 : decode cX12_readAct 60 = .ok (.aload_n 0, 1) := by decide +kernel
theorem dX12_readAct_61 : decode cX12_readAct 61 = .ok (.getfield 174, 3) := by decide +kernel
theorem dX12_readAct_64 : decode cX12_readAct 64 = .ok (.aload_n 0, 1) := by decide +kernel
theorem dX12_readAct_65 : decode cX12_readAct 65 = .ok (.getfield 402, 3) := by decide +kernel
theorem dX12_readAct_68 : decode cX12_readAct 68 = .ok (.iload_n 2, 1) := by decide +kernel
theorem dX12_readAct_69 : decode cX12_readAct 69 = .ok (.iastore, 1) := by decide +kernel
theorem dX12_readAct_70 : decode cX12_readAct 70 = .ok (.aload_n 0, 1) := by decide +kernel
theorem dX12_readAct_71 : decode cX12_readAct 71 = .ok (.getfield 177, 3) := by decide +kernel
theorem dX12_readAct_74 : decode cX12_readAct 74 = .ok (.aload_n 0, 1) := by decide +kernel
theorem dX12_readAct_75 : decode cX12_readAct 75 = .ok (.getfield 402, 3) := by decide +kernel
theorem dX12_readAct_78 : decode cX12_readAct 78 = .ok (.aload_n 0, 1) := by decide +kernel
theorem dX12_readAct_79 : decode cX12_readAct 79 = .ok (.invokevirtual 405, 3) := by decide +kernel
theorem dX12_readAct_82 : decode cX12_readAct 82 = .ok (.iastore, 1) := by decide +kernel
theorem dX12_readAct_83 : decode cX12_readAct 83 = .ok (.aload_n 0, 1) := by decide +kernel
theorem dX12_readAct_84 : decode cX12_readAct 84 = .ok (.getfield 180, 3) := by decide +kernel
theorem dX12_readAct_87 : decode cX12_readAct 87 = .ok (.aload_n 0, 1) := by decide +kernel
theorem dX12_readAct_88 : decode cX12_readAct 88 = .ok (.getfield 402, 3) := by decide +kernel
theorem dX12_readAct_91 : decode cX12_readAct 91 = .ok (.aload_n 0, 1) := by decide +kernel
theorem dX12_readAct_92 : decode cX12_readAct 92 = .ok (.invokevirtual 405, 3) := by decide +kernel
theorem dX12_readAct_95 : decode cX12_readAct 95 = .ok (.iastore, 1) := by decide +kernel
theorem dX12_readAct_96 : decode cX12_readAct 96 = .ok (.aload_n 0, 1) := by decide +kernel
theorem dX12_readAct_97 : decode cX12_readAct 97 = .ok (.dup, 1) := by decide +kernel
theorem dX12_readAct_98 : decode cX12_readAct 98 = .ok (.getfield 402, 3) := by decide +kernel
theorem dX12_readAct_101 : decode cX12_readAct 101 = .ok (.aload_n 0, 1) := by decide +kernel
theorem dX12_readAct_102 : decode cX12_readAct 102 = .ok (.getfield 352, 3) := by decide +kernel
theorem dX12_readAct_105 : decode cX12_readAct 105 = .ok (.ifCond .eq 7, 3) := by decide +kernel
theorem dX12_readAct_108 : decode cX12_readAct 108 = .ok (.iconst 0, 1) := by decide +kernel
theorem dX12_readAct_109 : decode cX12_readAct 109 = .ok (.goto 4, 3) := by decide +kernel
theorem dX12_readAct_112 : decode cX12_readAct 112 = .ok (.iconst 1, 1) := by decide +kernel
theorem dX12_readAct_113 : decode cX12_readAct 113 = .ok (.iadd, 1) := by decide +kernel
theorem dX12_readAct_114 : decode cX12_readAct 114 = .ok (.putfield 402, 3) := by decide +kernel
theorem dX12_readAct_117 : decode cX12_readAct 117 = .ok (.return_, 1) := by decide +kernel
set_option maxHeartbeats 4000000 in
set_option maxRecDepth 100000 in
theorem cn_X12_readAct {l : Launch} {cA : Nat → ClassId} {ad : Nat → Nat} {D : va_G} {E : Nat → Nat} {A : Nat → Prop}  {s0 sr : SS} {rr : Unit} (hf : f_X12_readAct s0 = some (rr, sr)) : zCon Om Nm cA ad D E l yX12_readAct cX12_readAct 3 none 6 A [.ref (ad 0)] s0 none sr := by
  refine zstart (own := RX12) hOm (by decide) rfl (Nat.le_of_ble_eq_true rfl) ?_
  intro p e s m args below meth c X hP ls hl
  have hx := X.1
  have hb := X.2.1
  have hl : lv_has ls 3 [(0, .ref (ad 0))] := hl
  have hS : va_S A s.heap s.heap [] := va_S.rf
  have hc_5 : ∀ (n5 : Nat) (x1 : Int32) (s1 : SS) (H : Heap) (locs : List Loc) (ls : Array Slot), lv_has ls 3 [(0, .ref (ad 0)), (1, .int x1)] → va_P D ZCL (zw Om Nm cA ad s1) H → va_S A s.heap H locs → f_X12_readAct_c5 n5 x1 s1 = some (rr, sr) → W p l e (zrm 6) s m args below meth c H locs 0 0 (MQ below (zQc Om Nm cA ad D A none sr) args s 0 0 A) (F0 m 5 ls []) := by
    intro n5
    induction n5 with
    | zero =>
      intro x1 s1 H locs ls hl hP hS hf
      rw [f_X12_readAct_c5] at hf
      cases hf
    | succ n5 ih5 =>
      intro x1 s1 H locs ls hl hP hS hf
      rw [f_X12_readAct_c5] at hf
      refine lv_aload_n hx hb dX12_readAct_5 rfl (lv_at hl 0 rfl) ?_
      obtain ⟨r1, s2, h3, hf⟩ := zbd_some hf
      refine zcallV X hP hS hl.1 (k := 0) (As := []) (rest := []) (cn_X12_here h3) cw_X12_here zp_12 rfl (by decide) rfl ml_X12_342 (by decide) rfl rfl (Nat.le_of_ble_eq_true rfl) dX12_readAct_6 (fun H locs hP hS => ?_)
      refine lv_i2l hx hb dX12_readAct_9 rfl ?_
      refine zldc2 X co_X12_225 dX12_readAct_10 ?_
      refine zldc2 X co_X12_397 dX12_readAct_13 ?_
      obtain ⟨r4, s5, h6, hf⟩ := zbd_some hf
      refine zcallS X hP hS hl.1 (As := [.long (r1).toInt64, .long 97, .long 122]) (rest := []) (cn_X12_in h6) cw_X12_in ml_X12_203 (by decide) rfl rfl (Nat.le_of_ble_eq_true rfl) dX12_readAct_16 (fun H locs hP hS => ?_)
      refine zif_eq (tgt := 35) hx hb dX12_readAct_19 (by decide) hf (fun hf => ?_) (fun hf => ?_)
      · refine lv_aload_n hx hb dX12_readAct_35 rfl (lv_at hl 0 rfl) ?_
        refine lv_iload_n hx hb dX12_readAct_36 rfl (lv_at hl 1 rfl) ?_
        refine lv_aload_n hx hb dX12_readAct_37 rfl (lv_at hl 0 rfl) ?_
        refine gf_X12_339 X hP (k := 0) rfl dX12_readAct_38 ?_
        obtain ⟨r7, s8, h9, hf⟩ := zbd_some hf
        refine zcallV X hP hS hl.1 (k := 0) (As := [.int x1, .int (s5.1 0 52)]) (rest := []) (cn_X12_wordOf h9) cw_X12_wordOf zp_12 rfl (by decide) rfl ml_X12_399 (by decide) rfl rfl (Nat.le_of_ble_eq_true rfl) dX12_readAct_41 (fun H locs hP hS => ?_)
        refine lv_istore_n (lv' := [(2, .int r7), (0, .ref (ad 0)), (1, .int x1)]) hx hb dX12_readAct_44 rfl hl (by decide) rfl (fun ls hl => ?_)
        refine lv_iload_n hx hb dX12_readAct_45 rfl (lv_at hl 0 rfl) ?_
        refine zif_ge (tgt := 60) hx hb dX12_readAct_46 (by decide) hf (fun hf => ?_) (fun hf => ?_)
        · refine lv_aload_n hx hb dX12_readAct_60 rfl (lv_at hl 1 rfl) ?_
          refine gf_X12_174 X hP (k := 0) (q := 35) rfl dX12_readAct_61 rfl ?_
          refine lv_aload_n hx hb dX12_readAct_64 rfl (lv_at hl 1 rfl) ?_
          refine gf_X12_402 X hP (k := 0) rfl dX12_readAct_65 ?_
          refine lv_iload_n hx hb dX12_readAct_68 rfl (lv_at hl 0 rfl) ?_
          obtain ⟨g10, hf⟩ := zgd hf
          refine zast_i X hP hS (k := 35) (n := 20) (rs := []) rfl g10 dX12_readAct_69 (fun H locs hP hS => ?_)
          refine lv_aload_n hx hb dX12_readAct_70 rfl (lv_at hl 1 rfl) ?_
          refine gf_X12_177 X hP (k := 0) (q := 36) rfl dX12_readAct_71 rfl ?_
          refine lv_aload_n hx hb dX12_readAct_74 rfl (lv_at hl 1 rfl) ?_
          refine gf_X12_402 X hP (k := 0) rfl dX12_readAct_75 ?_
          refine lv_aload_n hx hb dX12_readAct_78 rfl (lv_at hl 1 rfl) ?_
          obtain ⟨r11, s12, h13, hf⟩ := zbd_some hf
          refine zcallV X hP hS hl.1 (k := 0) (As := []) (rest := [.int ((zS s8 35 ((s8.1 0 54)).toNatClampNeg r7).1 0 54), .ref (ad 36)]) (cn_X12_readNumber h13) cw_X12_readNumber zp_12 rfl (by decide) rfl ml_X12_405 (by decide) rfl rfl (Nat.le_of_ble_eq_true rfl) dX12_readAct_79 (fun H locs hP hS => ?_)
          obtain ⟨g14, hf⟩ := zgd hf
          refine zast_i X hP hS (k := 36) (n := 20) (rs := []) rfl g14 dX12_readAct_82 (fun H locs hP hS => ?_)
          refine lv_aload_n hx hb dX12_readAct_83 rfl (lv_at hl 1 rfl) ?_
          refine gf_X12_180 X hP (k := 0) (q := 37) rfl dX12_readAct_84 rfl ?_
          refine lv_aload_n hx hb dX12_readAct_87 rfl (lv_at hl 1 rfl) ?_
          refine gf_X12_402 X hP (k := 0) rfl dX12_readAct_88 ?_
          refine lv_aload_n hx hb dX12_readAct_91 rfl (lv_at hl 1 rfl) ?_
          obtain ⟨r15, s16, h17, hf⟩ := zbd_some hf
          refine zcallV X hP hS hl.1 (k := 0) (As := []) (rest := [.int ((zS s12 36 (((zS s8 35 ((s8.1 0 54)).toNatClampNeg r7).1 0 54)).toNatClampNeg r11).1 0 54), .ref (ad 37)]) (cn_X12_readNumber h17) cw_X12_readNumber zp_12 rfl (by decide) rfl ml_X12_405 (by decide) rfl rfl (Nat.le_of_ble_eq_true rfl) dX12_readAct_92 (fun H locs hP hS => ?_)
          obtain ⟨g18, hf⟩ := zgd hf
          refine zast_i X hP hS (k := 37) (n := 20) (rs := []) rfl g18 dX12_readAct_95 (fun H locs hP hS => ?_)
          refine lv_aload_n hx hb dX12_readAct_96 rfl (lv_at hl 1 rfl) ?_
          refine lv_dup hx hb dX12_readAct_97 rfl ?_
          refine gf_X12_402 X hP (k := 0) rfl dX12_readAct_98 ?_
          refine lv_aload_n hx hb dX12_readAct_101 rfl (lv_at hl 1 rfl) ?_
          refine gf_X12_352 X hP (k := 0) rfl dX12_readAct_102 ?_
          refine zif_eq (tgt := 112) hx hb dX12_readAct_105 (by decide) hf (fun hf => ?_) (fun hf => ?_)
          · refine lv_iconst (v := 1) hx hb dX12_readAct_112 (by decide) ?_
            refine lv_iadd hx hb dX12_readAct_113 ?_
            refine pf_X12_402 X hP hS (k := 0) rfl dX12_readAct_114 (fun H locs hP hS => ?_)
            exact zret_v X hP hS hf dX12_readAct_117
          · refine lv_iconst (v := 0) hx hb dX12_readAct_108 (by decide) ?_
            refine lv_goto (tgt := 113) hx hb dX12_readAct_109 (by decide) ?_
            refine lv_iadd hx hb dX12_readAct_113 ?_
            refine pf_X12_402 X hP hS (k := 0) rfl dX12_readAct_114 (fun H locs hP hS => ?_)
            exact zret_v X hP hS hf dX12_readAct_117
        · refine lv_aload_n hx hb dX12_readAct_49 rfl (lv_at hl 1 rfl) ?_
          refine lv_iload_n hx hb dX12_readAct_50 rfl (lv_at hl 2 rfl) ?_
          refine pf_X12_339 X hP hS (k := 0) rfl dX12_readAct_51 (fun H locs hP hS => ?_)
          refine lv_aload_n hx hb dX12_readAct_54 rfl (lv_at hl 1 rfl) ?_
          refine lv_iconst (v := 1) hx hb dX12_readAct_55 (by decide) ?_
          refine pf_X12_352 X hP hS (k := 0) rfl (by decide) dX12_readAct_56 (fun H locs hP hS => ?_)
          exact zret_v X hP hS hf dX12_readAct_59
      · refine lv_aload_n hx hb dX12_readAct_22 rfl (lv_at hl 0 rfl) ?_
        refine lv_dup hx hb dX12_readAct_23 rfl ?_
        refine gf_X12_339 X hP (k := 0) rfl dX12_readAct_24 ?_
        refine lv_iconst (v := 1) hx hb dX12_readAct_27 (by decide) ?_
        refine lv_iadd hx hb dX12_readAct_28 ?_
        refine pf_X12_339 X hP hS (k := 0) rfl dX12_readAct_29 (fun H locs hP hS => ?_)
        refine lv_goto (tgt := 5) hx hb dX12_readAct_32 (by decide) ?_
        exact ih5 x1 (zS s5 0 52 ((s5.1 0 52) + (1 : Int32))) _ _ _ (lv_sub hl [0, 1] rfl) hP hS hf
  rw [f_X12_readAct] at hf
  refine lv_aload_n hx hb dX12_readAct_0 rfl (lv_at hl 0 rfl) ?_
  refine gf_X12_339 X hP (k := 0) rfl dX12_readAct_1 ?_
  refine lv_istore_n (lv' := [(1, .int (s0.1 0 52)), (0, .ref (ad 0))]) hx hb dX12_readAct_4 rfl hl (by decide) rfl (fun ls hl => ?_)
  exact hc_5 ZF (s0.1 0 52) s0 _ _ _ (lv_sub hl [1, 0] rfl) hP hS hf
theorem dX12_isActsText_0 : decode cX12_isActsText 0 = .ok (.aload_n 0, 1) := by decide +kernel
theorem dX12_isActsText_1 : decode cX12_isActsText 1 = .ok (.iconst 0, 1) := by decide +kernel
theorem dX12_isActsText_2 : decode cX12_isActsText 2 = .ok (.putfield 339, 3) := by decide +kernel
theorem dX12_isActsText_5 : decode cX12_isActsText 5 = .ok (.aload_n 0, 1) := by decide +kernel
theorem dX12_isActsText_6 : decode cX12_isActsText 6 = .ok (.iconst 0, 1) := by decide +kernel
theorem dX12_isActsText_7 : decode cX12_isActsText 7 = .ok (.putfield 402, 3) := by decide +kernel
theorem dX12_isActsText_10 : decode cX12_isActsText 10 = .ok (.aload_n 0, 1) := by decide +kernel
theorem dX12_isActsText_11 : decode cX12_isActsText 11 = .ok (.iconst 0, 1) := by decide +kernel
theorem dX12_isActsText_12 : decode cX12_isActsText 12 = .ok (.putfield 352, 3) := by decide +kernel
theorem dX12_isActsText_15 : decode cX12_isActsText 15 = .ok (.aload_n 0, 1) := by decide +kernel
theorem dX12_isActsText_16 : decode cX12_isActsText 16 = .ok (.invokevirtual 408, 3) := by decide +kernel
theorem dX12_isActsText_19 : decode cX12_isActsText 19 = .ok (.aload_n 0, 1) := by decide +kernel
theorem dX12_isActsText_20 : decode cX12_isActsText 20 = .ok (.getfield 352, 3) := by decide +kernel
theorem dX12_isActsText_23 : decode cX12_isActsText 23 = .ok (.ifCond .ne 56, 3) := by decide +kernel
theorem dX12_isActsText_26 : decode cX12_isActsText 26 = .ok (.aload_n 0, 1) := by decide +kernel
theorem dX12_isActsText_27 : decode cX12_isActsText 27 = .ok (.getfield 339, 3) := by decide +kernel
theorem dX12_isActsText_30 : decode cX12_isActsText 30 = .ok (.aload_n 0, 1) := by decide +kernel
theorem dX12_isActsText_31 : decode cX12_isActsText 31 = .ok (.getfield 336, 3) := by decide +kernel
theorem dX12_isActsText_34 : decode cX12_isActsText 34 = .ok (.if_icmp .ge 45, 3) := by decide +kernel
theorem dX12_isActsText_37 : decode cX12_isActsText 37 = .ok (.aload_n 0, 1) := by decide +kernel
theorem dX12_isActsText_38 : decode cX12_isActsText 38 = .ok (.aload_n 0, 1) := by decide +kernel
theorem dX12_isActsText_39 : decode cX12_isActsText 39 = .ok (.invokevirtual 342, 3) := by decide +kernel
theorem dX12_isActsText_42 : decode cX12_isActsText 42 = .ok (.bipush 59, 2) := by decide +kernel
theorem dX12_isActsText_44 : decode cX12_isActsText 44 = .ok (.if_icmp .eq 7, 3) := by decide +kernel
theorem dX12_isActsText_47 : decode cX12_isActsText 47 = .ok (.iconst 1, 1) := by decide +kernel
theorem dX12_isActsText_48 : decode cX12_isActsText 48 = .ok (.goto 4, 3) := by decide +kernel
theorem dX12_isActsText_51 : decode cX12_isActsText 51 = .ok (.iconst 0, 1) := by decide +kernel
theorem dX12_isActsText_52 : decode cX12_isActsText 52 = .ok (.putfield 352, 3) := by decide +kernel
theorem dX12_isActsText_55 : decode cX12_isActsText 55 = .ok (.aload_n 0, 1) := by decide +kernel
theorem dX12_isActsText_56 : decode cX12_isActsText 56 = .ok (.getfield 352, 3) := by decide +kernel
theorem dX12_isActsText_59 : decode cX12_isActsText 59 = .ok (.ifCond .ne (-40), 3) := by decide +kernel
theorem dX12_isActsText_62 : decode cX12_isActsText 62 = .ok (.aload_n 0, 1) := by decide +kernel
theorem dX12_isActsText_63 : decode cX12_isActsText 63 = .ok (.dup, 1) := by decide +kernel
theorem dX12_isActsText_64 : decode cX12_isActsText 64 = .ok (.getfield 339, 3) := by decide +kernel
theorem dX12_isActsText_67 : decode cX12_isActsText 67 = .ok (.iconst 1, 1) := by decide +kernel
theorem dX12_isActsText_68 : decode cX12_isActsText 68 = .ok (.iadd, 1) := by decide +kernel
theorem dX12_isActsText_69 : decode cX12_isActsText 69 = .ok (.putfield 339, 3) := by decide +kernel
theorem dX12_isActsText_72 : decode cX12_isActsText 72 = .ok (.aload_n 0, 1) := by decide +kernel
theorem dX12_isActsText_73 : decode cX12_isActsText 73 = .ok (.invokevirtual 408, 3) := by decide +kernel
theorem dX12_isActsText_76 : decode cX12_isActsText 76 = .ok (.goto (-57), 3) := by decide +kernel
theorem dX12_isActsText_79 : decode cX12_isActsText 79 = .ok (.aload_n 0, 1) := by decide +kernel
theorem dX12_isActsText_80 : decode cX12_isActsText 80 = .ok (.getfield 352, 3) := by decide +kernel
theorem dX12_isActsText_83 : decode cX12_isActsText 83 = .ok (.ifCond .ne 7, 3) := by decide +kernel
theorem dX12_isActsText_86 : decode cX12_isActsText 86 = .ok (.iconst 1, 1) := by decide +kernel
theorem dX12_isActsText_87 : decode cX12_isActsText 87 = .ok (.goto 4, 3) := by decide +kernel
theorem dX12_isActsText_90 : decode cX12_isActsText 90 = .ok (.iconst 0, 1) := by decide +kernel
theorem dX12_isActsText_91 : decode cX12_isActsText 91 = .ok (.ireturn, 1) := by decide +kernel
set_option maxHeartbeats 4000000 in
set_option maxRecDepth 100000 in
theorem cn_X12_isActsText {l : Launch} {cA : Nat → ClassId} {ad : Nat → Nat} {D : va_G} {E : Nat → Nat} {A : Nat → Prop}  {s0 sr : SS} {rr : Int32} (hf : f_X12_isActsText s0 = some (rr, sr)) : zCon Om Nm cA ad D E l yX12_isActsText cX12_isActsText 1 (some .boolean) 7 A [.ref (ad 0)] s0 (some (.int rr)) sr := by
  refine zstart (own := RX12) hOm (by decide) rfl (Nat.le_of_ble_eq_true rfl) ?_
  intro p e s m args below meth c X hP ls hl
  have hx := X.1
  have hb := X.2.1
  have hl : lv_has ls 1 [(0, .ref (ad 0))] := hl
  have hS : va_S A s.heap s.heap [] := va_S.rf
  have hc_19 : ∀ (n19 : Nat)  (s1 : SS) (H : Heap) (locs : List Loc) (ls : Array Slot), lv_has ls 1 [(0, .ref (ad 0))] → va_P D ZCL (zw Om Nm cA ad s1) H → va_S A s.heap H locs → f_X12_isActsText_c19 n19  s1 = some (rr, sr) → W p l e (zrm 7) s m args below meth c H locs 0 0 (MQ below (zQc Om Nm cA ad D A (some (.int rr)) sr) args s 0 0 A) (F0 m 19 ls []) := by
    intro n19
    induction n19 with
    | zero =>
      intro  s1 H locs ls hl hP hS hf
      rw [f_X12_isActsText_c19] at hf
      cases hf
    | succ n19 ih19 =>
      have hc_79 : ∀  (s1 : SS) (H : Heap) (locs : List Loc) (ls : Array Slot), lv_has ls 1 [(0, .ref (ad 0))] → va_P D ZCL (zw Om Nm cA ad s1) H → va_S A s.heap H locs → f_X12_isActsText_c79  s1 = some (rr, sr) → W p l e (zrm 7) s m args below meth c H locs 0 0 (MQ below (zQc Om Nm cA ad D A (some (.int rr)) sr) args s 0 0 A) (F0 m 79 ls []) := by
        intro  s1 H locs ls hl hP hS hf
        rw [f_X12_isActsText_c79] at hf
        refine lv_aload_n hx hb dX12_isActsText_79 rfl (lv_at hl 0 rfl) ?_
        refine gf_X12_352 X hP (k := 0) rfl dX12_isActsText_80 ?_
        refine zif_ne (tgt := 90) hx hb dX12_isActsText_83 (by decide) hf (fun hf => ?_) (fun hf => ?_)
        · refine lv_iconst (v := 0) hx hb dX12_isActsText_90 (by decide) ?_
          exact zret_i X hP hS hf rfl dX12_isActsText_91
        · refine lv_iconst (v := 1) hx hb dX12_isActsText_86 (by decide) ?_
          refine lv_goto (tgt := 91) hx hb dX12_isActsText_87 (by decide) ?_
          exact zret_i X hP hS hf rfl dX12_isActsText_91
      have hc_52 : ∀ (t0 : Int32) (s1 : SS) (H : Heap) (locs : List Loc) (ls : Array Slot), lv_has ls 1 [(0, .ref (ad 0))] → va_P D ZCL (zw Om Nm cA ad s1) H → va_S A s.heap H locs → f_X12_isActsText_c52 (f_X12_isActsText_c19 n19) t0 s1 = some (rr, sr) → W p l e (zrm 7) s m args below meth c H locs 0 0 (MQ below (zQc Om Nm cA ad D A (some (.int rr)) sr) args s 0 0 A) (F0 m 52 ls [.int t0, .ref (ad 0)]) := by
        intro t0 s1 H locs ls hl hP hS hf
        rw [f_X12_isActsText_c52] at hf
        obtain ⟨b7, hf⟩ := zgd hf
        refine pf_X12_352 X hP hS (k := 0) rfl b7 dX12_isActsText_52 (fun H locs hP hS => ?_)
        refine lv_aload_n hx hb dX12_isActsText_55 rfl (lv_at hl 0 rfl) ?_
        refine gf_X12_352 X hP (k := 0) rfl dX12_isActsText_56 ?_
        refine zif_ne (tgt := 19) hx hb dX12_isActsText_59 (by decide) hf (fun hf => ?_) (fun hf => ?_)
        · exact ih19  (zS s1 0 53 t0) _ _ _ (lv_sub hl [0] rfl) hP hS hf
        · refine lv_aload_n hx hb dX12_isActsText_62 rfl (lv_at hl 0 rfl) ?_
          refine lv_dup hx hb dX12_isActsText_63 rfl ?_
          refine gf_X12_339 X hP (k := 0) rfl dX12_isActsText_64 ?_
          refine lv_iconst (v := 1) hx hb dX12_isActsText_67 (by decide) ?_
          refine lv_iadd hx hb dX12_isActsText_68 ?_
          refine pf_X12_339 X hP hS (k := 0) rfl dX12_isActsText_69 (fun H locs hP hS => ?_)
          refine lv_aload_n hx hb dX12_isActsText_72 rfl (lv_at hl 0 rfl) ?_
          obtain ⟨r8, s9, h10, hf⟩ := zbd_some hf
          refine zcallV X hP hS hl.1 (k := 0) (As := []) (rest := []) (cn_X12_readAct h10) cw_X12_readAct zp_12 rfl (by decide) rfl ml_X12_408 (by decide) rfl rfl (Nat.le_of_ble_eq_true rfl) dX12_isActsText_73 (fun H locs hP hS => ?_)
          refine lv_goto (tgt := 19) hx hb dX12_isActsText_76 (by decide) ?_
          exact ih19  s9 _ _ _ (lv_sub hl [0] rfl) hP hS hf
      intro  s1 H locs ls hl hP hS hf
      rw [f_X12_isActsText_c19] at hf
      refine lv_aload_n hx hb dX12_isActsText_19 rfl (lv_at hl 0 rfl) ?_
      refine gf_X12_352 X hP (k := 0) rfl dX12_isActsText_20 ?_
      refine zif_ne (tgt := 79) hx hb dX12_isActsText_23 (by decide) hf (fun hf => ?_) (fun hf => ?_)
      · exact hc_79  s1 _ _ _ (lv_sub hl [0] rfl) hP hS hf
      · refine lv_aload_n hx hb dX12_isActsText_26 rfl (lv_at hl 0 rfl) ?_
        refine gf_X12_339 X hP (k := 0) rfl dX12_isActsText_27 ?_
        refine lv_aload_n hx hb dX12_isActsText_30 rfl (lv_at hl 0 rfl) ?_
        refine gf_X12_336 X hP (k := 0) rfl dX12_isActsText_31 ?_
        refine zicmp_ge (tgt := 79) hx hb dX12_isActsText_34 (by decide) hf (fun hf => ?_) (fun hf => ?_)
        · exact hc_79  s1 _ _ _ (lv_sub hl [0] rfl) hP hS hf
        · refine lv_aload_n hx hb dX12_isActsText_37 rfl (lv_at hl 0 rfl) ?_
          refine lv_aload_n hx hb dX12_isActsText_38 rfl (lv_at hl 0 rfl) ?_
          obtain ⟨r4, s5, h6, hf⟩ := zbd_some hf
          refine zcallV X hP hS hl.1 (k := 0) (As := []) (rest := [.ref (ad 0)]) (cn_X12_here h6) cw_X12_here zp_12 rfl (by decide) rfl ml_X12_342 (by decide) rfl rfl (Nat.le_of_ble_eq_true rfl) dX12_isActsText_39 (fun H locs hP hS => ?_)
          refine lv_bipush (v := 59) hx hb dX12_isActsText_42 (by decide) ?_
          refine zicmp_eq (tgt := 51) hx hb dX12_isActsText_44 (by decide) hf (fun hf => ?_) (fun hf => ?_)
          · refine lv_iconst (v := 0) hx hb dX12_isActsText_51 (by decide) ?_
            exact hc_52 0 s5 _ _ _ (lv_sub hl [0] rfl) hP hS hf
          · refine lv_iconst (v := 1) hx hb dX12_isActsText_47 (by decide) ?_
            refine lv_goto (tgt := 52) hx hb dX12_isActsText_48 (by decide) ?_
            exact hc_52 1 s5 _ _ _ (lv_sub hl [0] rfl) hP hS hf
  rw [f_X12_isActsText] at hf
  refine lv_aload_n hx hb dX12_isActsText_0 rfl (lv_at hl 0 rfl) ?_
  refine lv_iconst (v := 0) hx hb dX12_isActsText_1 (by decide) ?_
  refine pf_X12_339 X hP hS (k := 0) rfl dX12_isActsText_2 (fun H locs hP hS => ?_)
  refine lv_aload_n hx hb dX12_isActsText_5 rfl (lv_at hl 0 rfl) ?_
  refine lv_iconst (v := 0) hx hb dX12_isActsText_6 (by decide) ?_
  refine pf_X12_402 X hP hS (k := 0) rfl dX12_isActsText_7 (fun H locs hP hS => ?_)
  refine lv_aload_n hx hb dX12_isActsText_10 rfl (lv_at hl 0 rfl) ?_
  refine lv_iconst (v := 0) hx hb dX12_isActsText_11 (by decide) ?_
  refine pf_X12_352 X hP hS (k := 0) rfl (by decide) dX12_isActsText_12 (fun H locs hP hS => ?_)
  refine lv_aload_n hx hb dX12_isActsText_15 rfl (lv_at hl 0 rfl) ?_
  obtain ⟨r1, s2, h3, hf⟩ := zbd_some hf
  refine zcallV X hP hS hl.1 (k := 0) (As := []) (rest := []) (cn_X12_readAct h3) cw_X12_readAct zp_12 rfl (by decide) rfl ml_X12_408 (by decide) rfl rfl (Nat.le_of_ble_eq_true rfl) dX12_isActsText_16 (fun H locs hP hS => ?_)
  exact hc_19 ZF  s2 _ _ _ (lv_sub hl [0] rfl) hP hS hf
theorem dX12_workOut_0 : decode cX12_workOut 0 = .ok (.iload_n 1, 1) := by decide +kernel
theorem dX12_workOut_1 : decode cX12_workOut 1 = .ok (.iconst 3, 1) := by decide +kernel
theorem dX12_workOut_2 : decode cX12_workOut 2 = .ok (.if_icmp .ne 48, 3) := by decide +kernel
theorem dX12_workOut_5 : decode cX12_workOut 5 = .ok (.aload_n 0, 1) := by decide +kernel
theorem dX12_workOut_6 : decode cX12_workOut 6 = .ok (.aload_n 0, 1) := by decide +kernel
theorem dX12_workOut_7 : decode cX12_workOut 7 = .ok (.getfield 111, 3) := by decide +kernel
theorem dX12_workOut_10 : decode cX12_workOut 10 = .ok (.invokevirtual 278, 3) := by decide +kernel
theorem dX12_workOut_13 : decode cX12_workOut 13 = .ok (.aload_n 0, 1) := by decide +kernel
theorem dX12_workOut_14 : decode cX12_workOut 14 = .ok (.iload_n 2, 1) := by decide +kernel
theorem dX12_workOut_15 : decode cX12_workOut 15 = .ok (.aload_n 0, 1) := by decide +kernel
theorem dX12_workOut_16 : decode cX12_workOut 16 = .ok (.getfield 114, 3) := by decide +kernel
theorem dX12_workOut_19 : decode cX12_workOut 19 = .ok (.invokevirtual 264, 3) := by decide +kernel
theorem dX12_workOut_22 : decode cX12_workOut 22 = .ok (.iconst 0, 1) := by decide +kernel
theorem dX12_workOut_23 : decode cX12_workOut 23 = .ok (.istore 4, 2) := by decide +kernel
theorem dX12_workOut_25 : decode cX12_workOut 25 = .ok (.iload 4, 2) := by decide +kernel
theorem dX12_workOut_27 : decode cX12_workOut 27 = .ok (.iload_n 3, 1) := by decide +kernel
theorem dX12_workOut_28 : decode cX12_workOut 28 = .ok (.if_icmp .ge 21, 3) := by decide +kernel
theorem dX12_workOut_31 : decode cX12_workOut 31 = .ok (.aload_n 0, 1) := by decide +kernel
theorem dX12_workOut_32 : decode cX12_workOut 32 = .ok (.aload_n 0, 1) := by decide +kernel
theorem dX12_workOut_33 : decode cX12_workOut 33 = .ok (.getfield 111, 3) := by decide +kernel
theorem dX12_workOut_36 : decode cX12_workOut 36 = .ok (.aload_n 0, 1) := by decide +kernel
theorem dX12_workOut_37 : decode cX12_workOut 37 = .ok (.getfield 114, 3) := by decide +kernel
theorem dX12_workOut_40 : decode cX12_workOut 40 = .ok (.invokevirtual 272, 3) := by decide +kernel
theorem dX12_workOut_43 : decode cX12_workOut 43 = .ok (.iinc 4 1, 3) := by decide +kernel
theorem dX12_workOut_46 : decode cX12_workOut 46 = .ok (.goto (-21), 3) := by decide +kernel
theorem dX12_workOut_49 : decode cX12_workOut 49 = .ok (.return_, 1) := by decide +kernel
theorem dX12_workOut_50 : decode cX12_workOut 50 = .ok (.aload_n 0, 1) := by decide +kernel
theorem dX12_workOut_51 : decode cX12_workOut 51 = .ok (.iload_n 2, 1) := by decide +kernel
theorem dX12_workOut_52 : decode cX12_workOut 52 = .ok (.aload_n 0, 1) := by decide +kernel
theorem dX12_workOut_53 : decode cX12_workOut 53 = .ok (.getfield 111, 3) := by decide +kernel
theorem dX12_workOut_56 : decode cX12_workOut 56 = .ok (.invokevirtual 264, 3) := by decide +kernel
theorem dX12_workOut_59 : decode cX12_workOut 59 = .ok (.iload_n 1, 1) := by decide +kernel
theorem dX12_workOut_60 : decode cX12_workOut 60 = .ok (.iconst 4, 1) := by decide +kernel
theorem dX12_workOut_61 : decode cX12_workOut 61 = .ok (.if_icmp .ne 51, 3) := by decide +kernel
theorem dX12_workOut_64 : decode cX12_workOut 64 = .ok (.iconst 0, 1) := by decide +kernel
theorem dX12_workOut_65 : decode cX12_workOut 65 = .ok (.istore 4, 2) := by decide +kernel
theorem dX12_workOut_67 : decode cX12_workOut 67 = .ok (.iload 4, 2) := by decide +kernel
theorem dX12_workOut_69 : decode cX12_workOut 69 = .ok (.aload_n 0, 1) := by decide +kernel
theorem dX12_workOut_70 : decode cX12_workOut 70 = .ok (.getfield 56, 3) := by decide +kernel
theorem dX12_workOut_73 : decode cX12_workOut 73 = .ok (.if_icmp .ge 38, 3) := by decide +kernel
theorem dX12_workOut_76 : decode cX12_workOut 76 = .ok (.aload_n 0, 1) := by decide +kernel
theorem dX12_workOut_77 : decode cX12_workOut 77 = .ok (.getfield 111, 3) := by decide +kernel
theorem dX12_workOut_80 : decode cX12_workOut 80 = .ok (.iload 4, 2) := by decide +kernel
theorem dX12_workOut_82 : decode cX12_workOut 82 = .ok (.aload_n 0, 1) := by decide +kernel
theorem dX12_workOut_83 : decode cX12_workOut 83 = .ok (.getfield 75, 3) := by decide +kernel
theorem dX12_workOut_86 : decode cX12_workOut 86 = .ok (.iload 4, 2) := by decide +kernel
theorem dX12_workOut_88 : decode cX12_workOut 88 = .ok (.iaload, 1) := by decide +kernel
theorem dX12_workOut_89 : decode cX12_workOut 89 = .ok (.iload_n 3, 1) := by decide +kernel
theorem dX12_workOut_90 : decode cX12_workOut 90 = .ok (.if_icmp .ne 13, 3) := by decide +kernel
theorem dX12_workOut_93 : decode cX12_workOut 93 = .ok (.aload_n 0, 1) := by decide +kernel
theorem dX12_workOut_94 : decode cX12_workOut 94 = .ok (.getfield 111, 3) := by decide +kernel
theorem dX12_workOut_97 : decode cX12_workOut 97 = .ok (.iload 4, 2) := by decide +kernel
theorem dX12_workOut_99 : decode cX12_workOut 99 = .ok (.laload, 1) := by decide +kernel
theorem dX12_workOut_100 : decode cX12_workOut 100 = .ok (.goto 4, 3) := by decide +kernel
theorem dX12_workOut_103 : decode cX12_workOut 103 = .ok (.lconst 0, 1) := by decide +kernel
theorem dX12_workOut_104 : decode cX12_workOut 104 = .ok (.lastore, 1) := by decide +kernel
theorem dX12_workOut_105 : decode cX12_workOut 105 = .ok (.iinc 4 1, 3) := by decide +kernel
theorem dX12_workOut_108 : decode cX12_workOut 108 = .ok (.goto (-41), 3) := by decide +kernel
theorem dX12_workOut_111 : decode cX12_workOut 111 = .ok (.return_, 1) := by decide +kernel
theorem dX12_workOut_112 : decode cX12_workOut 112 = .ok (.aload_n 0, 1) := by decide +kernel
theorem dX12_workOut_113 : decode cX12_workOut 113 = .ok (.iload_n 3, 1) := by decide +kernel
theorem dX12_workOut_114 : decode cX12_workOut 114 = .ok (.aload_n 0, 1) := by decide +kernel
theorem dX12_workOut_115 : decode cX12_workOut 115 = .ok (.getfield 114, 3) := by decide +kernel
theorem dX12_workOut_118 : decode cX12_workOut 118 = .ok (.invokevirtual 264, 3) := by decide +kernel
theorem dX12_workOut_121 : decode cX12_workOut 121 = .ok (.iload_n 1, 1) := by decide +kernel
theorem dX12_workOut_122 : decode cX12_workOut 122 = .ok (.iconst 1, 1) := by decide +kernel
theorem dX12_workOut_123 : decode cX12_workOut 123 = .ok (.if_icmp .ne 16, 3) := by decide +kernel
theorem dX12_workOut_126 : decode cX12_workOut 126 = .ok (.aload_n 0, 1) := by decide +kernel
theorem dX12_workOut_127 : decode cX12_workOut 127 = .ok (.aload_n 0, 1) := by decide +kernel
theorem dX12_workOut_128 : decode cX12_workOut 128 = .ok (.getfield 111, 3) := by decide +kernel
theorem dX12_workOut_131 : decode cX12_workOut 131 = .ok (.aload_n 0, 1) := by decide +kernel
theorem dX12_workOut_132 : decode cX12_workOut 132 = .ok (.getfield 114, 3) := by decide +kernel
theorem dX12_workOut_135 : decode cX12_workOut 135 = .ok (.invokevirtual 272, 3) := by decide +kernel
theorem dX12_workOut_138 : decode cX12_workOut 138 = .ok (.return_, 1) := by decide +kernel
theorem dX12_workOut_139 : decode cX12_workOut 139 = .ok (.iconst 0, 1) := by decide +kernel
theorem dX12_workOut_140 : decode cX12_workOut 140 = .ok (.istore 4, 2) := by decide +kernel
theorem dX12_workOut_142 : decode cX12_workOut 142 = .ok (.iload 4, 2) := by decide +kernel
theorem dX12_workOut_144 : decode cX12_workOut 144 = .ok (.aload_n 0, 1) := by decide +kernel
theorem dX12_workOut_145 : decode cX12_workOut 145 = .ok (.getfield 56, 3) := by decide +kernel
theorem dX12_workOut_148 : decode cX12_workOut 148 = .ok (.if_icmp .ge 41, 3) := by decide +kernel
theorem dX12_workOut_151 : decode cX12_workOut 151 = .ok (.aload_n 0, 1) := by decide +kernel
theorem dX12_workOut_152 : decode cX12_workOut 152 = .ok (.getfield 111, 3) := by decide +kernel
theorem dX12_workOut_155 : decode cX12_workOut 155 = .ok (.iload 4, 2) := by decide +kernel
theorem dX12_workOut_157 : decode cX12_workOut 157 = .ok (.dup2, 1) := by decide +kernel
theorem dX12_workOut_158 : decode cX12_workOut 158 = .ok (.laload, 1) := by decide +kernel
theorem dX12_workOut_159 : decode cX12_workOut 159 = .ok (.iload_n 1, 1) := by decide +kernel
theorem dX12_workOut_160 : decode cX12_workOut 160 = .ok (.ifCond .ne 13, 3) := by decide +kernel
theorem dX12_workOut_163 : decode cX12_workOut 163 = .ok (.aload_n 0, 1) := by decide +kernel
theorem dX12_workOut_164 : decode cX12_workOut 164 = .ok (.getfield 114, 3) := by decide +kernel
theorem dX12_workOut_167 : decode cX12_workOut 167 = .ok (.iload 4, 2) := by decide +kernel
theorem dX12_workOut_169 : decode cX12_workOut 169 = .ok (.laload, 1) := by decide +kernel
theorem dX12_workOut_170 : decode cX12_workOut 170 = .ok (.goto 11, 3) := by decide +kernel
theorem dX12_workOut_173 : decode cX12_workOut 173 = .ok (.aload_n 0, 1) := by decide +kernel
theorem dX12_workOut_174 : decode cX12_workOut 174 = .ok (.getfield 114, 3) := by decide +kernel
theorem dX12_workOut_177 : decode cX12_workOut 177 = .ok (.iload 4, 2) := by decide +kernel
theorem dX12_workOut_179 : decode cX12_workOut 179 = .ok (.laload, 1) := by decide +kernel
theorem dX12_workOut_180 : decode cX12_workOut 180 = .ok (.lneg, 1) := by decide +kernel
theorem dX12_workOut_181 : decode cX12_workOut 181 = .ok (.ladd, 1) := by decide +kernel
theorem dX12_workOut_182 : decode cX12_workOut 182 = .ok (.lastore, 1) := by decide +kernel
theorem dX12_workOut_183 : decode cX12_workOut 183 = .ok (.iinc 4 1, 3) := by decide +kernel
theorem dX12_workOut_186 : decode cX12_workOut 186 = .ok (.goto (-44), 3) := by decide +kernel
theorem dX12_workOut_189 : decode cX12_workOut 189 = .ok (.return_, 1) := by decide +kernel
set_option maxHeartbeats 4000000 in
set_option maxRecDepth 100000 in
theorem cn_X12_workOut {l : Launch} {cA : Nat → ClassId} {ad : Nat → Nat} {D : va_G} {E : Nat → Nat} {A : Nat → Prop} {x1 : Int32} {x2 : Int32} {x3 : Int32} {s0 sr : SS} {rr : Unit} (hf : f_X12_workOut x1 x2 x3 s0 = some (rr, sr)) : zCon Om Nm cA ad D E l yX12_workOut cX12_workOut 5 none 5 A [.ref (ad 0), .int x1, .int x2, .int x3] s0 none sr := by
  refine zstart (own := RX12) hOm (by decide) rfl (Nat.le_of_ble_eq_true rfl) ?_
  intro p e s m args below meth c X hP ls hl
  have hx := X.1
  have hb := X.2.1
  have hl : lv_has ls 5 [(0, .ref (ad 0)), (1, .int x1), (2, .int x2), (3, .int x3)] := hl
  have hS : va_S A s.heap s.heap [] := va_S.rf
  have hc_142 : ∀ (n142 : Nat) (x1 : Int32) (x4 : Int32) (s1 : SS) (H : Heap) (locs : List Loc) (ls : Array Slot), lv_has ls 5 [(0, .ref (ad 0)), (1, .int x1), (4, .int x4)] → va_P D ZCL (zw Om Nm cA ad s1) H → va_S A s.heap H locs → f_X12_workOut_c142 n142 x1 x4 s1 = some (rr, sr) → W p l e (zrm 5) s m args below meth c H locs 0 0 (MQ below (zQc Om Nm cA ad D A none sr) args s 0 0 A) (F0 m 142 ls []) := by
    intro n142
    induction n142 with
    | zero =>
      intro x1 x4 s1 H locs ls hl hP hS hf
      rw [f_X12_workOut_c142] at hf
      cases hf
    | succ n142 ih142 =>
      have hc_181 : ∀ (x1 : Int32) (x4 : Int32) (t0 : Int64) (t1 : Int64) (t2 : Int32) (s1 : SS) (H : Heap) (locs : List Loc) (ls : Array Slot), lv_has ls 5 [(0, .ref (ad 0)), (1, .int x1), (4, .int x4)] → va_P D ZCL (zw Om Nm cA ad s1) H → va_S A s.heap H locs → f_X12_workOut_c181 (f_X12_workOut_c142 n142) x1 x4 t0 t1 t2 s1 = some (rr, sr) → W p l e (zrm 5) s m args below meth c H locs 0 0 (MQ below (zQc Om Nm cA ad D A none sr) args s 0 0 A) (F0 m 181 ls [.long t0, .long t1, .int t2, .ref (ad 13)]) := by
        intro x1 x4 t0 t1 t2 s1 H locs ls hl hP hS hf
        rw [f_X12_workOut_c181] at hf
        refine lv_ladd hx hb dX12_workOut_181 ?_
        obtain ⟨g9, hf⟩ := zgd hf
        refine zast_l X hP hS (k := 13) (n := 462) (rs := []) rfl g9 dX12_workOut_182 (fun H locs hP hS => ?_)
        refine lv_iinc (v := (x4 + 1)) (lv' := [(4, .int (x4 + 1)), (0, .ref (ad 0)), (1, .int x1)]) hx hb dX12_workOut_183 hl (k := 2) rfl rfl (by decide) rfl (fun ls hl => ?_)
        refine lv_goto (tgt := 142) hx hb dX12_workOut_186 (by decide) ?_
        exact ih142 x1 (x4 + 1) (zSL s1 13 (t2).toNatClampNeg (t1 + t0)) _ _ _ (lv_sub hl [1, 2, 0] rfl) hP hS hf
      intro x1 x4 s1 H locs ls hl hP hS hf
      rw [f_X12_workOut_c142] at hf
      refine lv_iload hx hb dX12_workOut_142 (lv_at hl 2 rfl) ?_
      refine lv_aload_n hx hb dX12_workOut_144 rfl (lv_at hl 0 rfl) ?_
      refine gf_X12_56 X hP (k := 0) rfl dX12_workOut_145 ?_
      refine zicmp_ge (tgt := 189) hx hb dX12_workOut_148 (by decide) hf (fun hf => ?_) (fun hf => ?_)
      · exact zret_v X hP hS hf dX12_workOut_189
      · refine lv_aload_n hx hb dX12_workOut_151 rfl (lv_at hl 0 rfl) ?_
        refine gf_X12_111 X hP (k := 0) (q := 13) rfl dX12_workOut_152 rfl ?_
        refine lv_iload hx hb dX12_workOut_155 (lv_at hl 2 rfl) ?_
        refine lv_dup2_11 hx hb dX12_workOut_157 rfl rfl ?_
        obtain ⟨g7, hf⟩ := zgd hf
        refine zald_l X hP (k := 13) (n := 462) (rs := []) rfl g7 dX12_workOut_158 ?_
        refine lv_iload_n hx hb dX12_workOut_159 rfl (lv_at hl 1 rfl) ?_
        refine zif_ne (tgt := 173) hx hb dX12_workOut_160 (by decide) hf (fun hf => ?_) (fun hf => ?_)
        · refine lv_aload_n hx hb dX12_workOut_173 rfl (lv_at hl 0 rfl) ?_
          refine gf_X12_114 X hP (k := 0) (q := 14) rfl dX12_workOut_174 rfl ?_
          refine lv_iload hx hb dX12_workOut_177 (lv_at hl 2 rfl) ?_
          obtain ⟨g8, hf⟩ := zgd hf
          refine zald_l X hP (k := 14) (n := 462) (rs := []) rfl g8 dX12_workOut_179 ?_
          refine lv_lneg hx hb dX12_workOut_180 ?_
          exact hc_181 x1 x4 (-(s1.2 14 (x4).toNatClampNeg)) (s1.2 13 (x4).toNatClampNeg) x4 s1 _ _ _ (lv_sub hl [0, 1, 2] rfl) hP hS hf
        · refine lv_aload_n hx hb dX12_workOut_163 rfl (lv_at hl 0 rfl) ?_
          refine gf_X12_114 X hP (k := 0) (q := 14) rfl dX12_workOut_164 rfl ?_
          refine lv_iload hx hb dX12_workOut_167 (lv_at hl 2 rfl) ?_
          obtain ⟨g10, hf⟩ := zgd hf
          refine zald_l X hP (k := 14) (n := 462) (rs := []) rfl g10 dX12_workOut_169 ?_
          refine lv_goto (tgt := 181) hx hb dX12_workOut_170 (by decide) ?_
          exact hc_181 x1 x4 (s1.2 14 (x4).toNatClampNeg) (s1.2 13 (x4).toNatClampNeg) x4 s1 _ _ _ (lv_sub hl [0, 1, 2] rfl) hP hS hf
  have hc_67 : ∀ (n67 : Nat) (x3 : Int32) (x4 : Int32) (s1 : SS) (H : Heap) (locs : List Loc) (ls : Array Slot), lv_has ls 5 [(0, .ref (ad 0)), (3, .int x3), (4, .int x4)] → va_P D ZCL (zw Om Nm cA ad s1) H → va_S A s.heap H locs → f_X12_workOut_c67 n67 x3 x4 s1 = some (rr, sr) → W p l e (zrm 5) s m args below meth c H locs 0 0 (MQ below (zQc Om Nm cA ad D A none sr) args s 0 0 A) (F0 m 67 ls []) := by
    intro n67
    induction n67 with
    | zero =>
      intro x3 x4 s1 H locs ls hl hP hS hf
      rw [f_X12_workOut_c67] at hf
      cases hf
    | succ n67 ih67 =>
      have hc_104 : ∀ (x3 : Int32) (x4 : Int32) (t0 : Int64) (t1 : Int32) (s1 : SS) (H : Heap) (locs : List Loc) (ls : Array Slot), lv_has ls 5 [(0, .ref (ad 0)), (3, .int x3), (4, .int x4)] → va_P D ZCL (zw Om Nm cA ad s1) H → va_S A s.heap H locs → f_X12_workOut_c104 (f_X12_workOut_c67 n67) x3 x4 t0 t1 s1 = some (rr, sr) → W p l e (zrm 5) s m args below meth c H locs 0 0 (MQ below (zQc Om Nm cA ad D A none sr) args s 0 0 A) (F0 m 104 ls [.long t0, .int t1, .ref (ad 13)]) := by
        intro x3 x4 t0 t1 s1 H locs ls hl hP hS hf
        rw [f_X12_workOut_c104] at hf
        obtain ⟨g15, hf⟩ := zgd hf
        refine zast_l X hP hS (k := 13) (n := 462) (rs := []) rfl g15 dX12_workOut_104 (fun H locs hP hS => ?_)
        refine lv_iinc (v := (x4 + 1)) (lv' := [(4, .int (x4 + 1)), (0, .ref (ad 0)), (3, .int x3)]) hx hb dX12_workOut_105 hl (k := 2) rfl rfl (by decide) rfl (fun ls hl => ?_)
        refine lv_goto (tgt := 67) hx hb dX12_workOut_108 (by decide) ?_
        exact ih67 x3 (x4 + 1) (zSL s1 13 (t1).toNatClampNeg t0) _ _ _ (lv_sub hl [1, 2, 0] rfl) hP hS hf
      intro x3 x4 s1 H locs ls hl hP hS hf
      rw [f_X12_workOut_c67] at hf
      refine lv_iload hx hb dX12_workOut_67 (lv_at hl 2 rfl) ?_
      refine lv_aload_n hx hb dX12_workOut_69 rfl (lv_at hl 0 rfl) ?_
      refine gf_X12_56 X hP (k := 0) rfl dX12_workOut_70 ?_
      refine zicmp_ge (tgt := 111) hx hb dX12_workOut_73 (by decide) hf (fun hf => ?_) (fun hf => ?_)
      · exact zret_v X hP hS hf dX12_workOut_111
      · refine lv_aload_n hx hb dX12_workOut_76 rfl (lv_at hl 0 rfl) ?_
        refine gf_X12_111 X hP (k := 0) (q := 13) rfl dX12_workOut_77 rfl ?_
        refine lv_iload hx hb dX12_workOut_80 (lv_at hl 2 rfl) ?_
        refine lv_aload_n hx hb dX12_workOut_82 rfl (lv_at hl 0 rfl) ?_
        refine gf_X12_75 X hP (k := 0) (q := 5) rfl dX12_workOut_83 rfl ?_
        refine lv_iload hx hb dX12_workOut_86 (lv_at hl 2 rfl) ?_
        obtain ⟨g14, hf⟩ := zgd hf
        refine zald_i X hP (k := 5) (n := 462) (rs := []) rfl g14 dX12_workOut_88 ?_
        refine lv_iload_n hx hb dX12_workOut_89 rfl (lv_at hl 1 rfl) ?_
        refine zicmp_ne (tgt := 103) hx hb dX12_workOut_90 (by decide) hf (fun hf => ?_) (fun hf => ?_)
        · refine lv_lconst (v := 0) hx hb dX12_workOut_103 (by decide) ?_
          exact hc_104 x3 x4 0 x4 s1 _ _ _ (lv_sub hl [0, 1, 2] rfl) hP hS hf
        · refine lv_aload_n hx hb dX12_workOut_93 rfl (lv_at hl 0 rfl) ?_
          refine gf_X12_111 X hP (k := 0) (q := 13) rfl dX12_workOut_94 rfl ?_
          refine lv_iload hx hb dX12_workOut_97 (lv_at hl 2 rfl) ?_
          obtain ⟨g16, hf⟩ := zgd hf
          refine zald_l X hP (k := 13) (n := 462) (rs := []) rfl g16 dX12_workOut_99 ?_
          refine lv_goto (tgt := 104) hx hb dX12_workOut_100 (by decide) ?_
          exact hc_104 x3 x4 (s1.2 13 (x4).toNatClampNeg) x4 s1 _ _ _ (lv_sub hl [0, 1, 2] rfl) hP hS hf
  have hc_25 : ∀ (n25 : Nat) (x3 : Int32) (x4 : Int32) (s1 : SS) (H : Heap) (locs : List Loc) (ls : Array Slot), lv_has ls 5 [(0, .ref (ad 0)), (3, .int x3), (4, .int x4)] → va_P D ZCL (zw Om Nm cA ad s1) H → va_S A s.heap H locs → f_X12_workOut_c25 n25 x3 x4 s1 = some (rr, sr) → W p l e (zrm 5) s m args below meth c H locs 0 0 (MQ below (zQc Om Nm cA ad D A none sr) args s 0 0 A) (F0 m 25 ls []) := by
    intro n25
    induction n25 with
    | zero =>
      intro x3 x4 s1 H locs ls hl hP hS hf
      rw [f_X12_workOut_c25] at hf
      cases hf
    | succ n25 ih25 =>
      intro x3 x4 s1 H locs ls hl hP hS hf
      rw [f_X12_workOut_c25] at hf
      refine lv_iload hx hb dX12_workOut_25 (lv_at hl 2 rfl) ?_
      refine lv_iload_n hx hb dX12_workOut_27 rfl (lv_at hl 1 rfl) ?_
      refine zicmp_ge (tgt := 49) hx hb dX12_workOut_28 (by decide) hf (fun hf => ?_) (fun hf => ?_)
      · exact zret_v X hP hS hf dX12_workOut_49
      · refine lv_aload_n hx hb dX12_workOut_31 rfl (lv_at hl 0 rfl) ?_
        refine lv_aload_n hx hb dX12_workOut_32 rfl (lv_at hl 0 rfl) ?_
        refine gf_X12_111 X hP (k := 0) (q := 13) rfl dX12_workOut_33 rfl ?_
        refine lv_aload_n hx hb dX12_workOut_36 rfl (lv_at hl 0 rfl) ?_
        refine gf_X12_114 X hP (k := 0) (q := 14) rfl dX12_workOut_37 rfl ?_
        obtain ⟨r23, s24, h25, hf⟩ := zbd_some hf
        refine zcallV X hP hS hl.1 (k := 0) (As := [.ref (ad 13), .ref (ad 14)]) (rest := []) (cn_X12_multiply h25) cw_X12_multiply zp_12 rfl (by decide) rfl ml_X12_272 (by decide) rfl rfl (Nat.le_of_ble_eq_true rfl) dX12_workOut_40 (fun H locs hP hS => ?_)
        refine lv_iinc (v := (x4 + 1)) (lv' := [(4, .int (x4 + 1)), (0, .ref (ad 0)), (3, .int x3)]) hx hb dX12_workOut_43 hl (k := 2) rfl rfl (by decide) rfl (fun ls hl => ?_)
        refine lv_goto (tgt := 25) hx hb dX12_workOut_46 (by decide) ?_
        exact ih25 x3 (x4 + 1) s24 _ _ _ (lv_sub hl [1, 2, 0] rfl) hP hS hf
  rw [f_X12_workOut] at hf
  refine lv_iload_n hx hb dX12_workOut_0 rfl (lv_at hl 1 rfl) ?_
  refine lv_iconst (v := 3) hx hb dX12_workOut_1 (by decide) ?_
  refine zicmp_ne (tgt := 50) hx hb dX12_workOut_2 (by decide) hf (fun hf => ?_) (fun hf => ?_)
  · refine lv_aload_n hx hb dX12_workOut_50 rfl (lv_at hl 0 rfl) ?_
    refine lv_iload_n hx hb dX12_workOut_51 rfl (lv_at hl 2 rfl) ?_
    refine lv_aload_n hx hb dX12_workOut_52 rfl (lv_at hl 0 rfl) ?_
    refine gf_X12_111 X hP (k := 0) (q := 13) rfl dX12_workOut_53 rfl ?_
    obtain ⟨r1, s2, h3, hf⟩ := zbd_some hf
    refine zcallV X hP hS hl.1 (k := 0) (As := [.int x2, .ref (ad 13)]) (rest := []) (cn_X12_layClass h3) cw_X12_layClass zp_12 rfl (by decide) rfl ml_X12_264 (by decide) rfl rfl (Nat.le_of_ble_eq_true rfl) dX12_workOut_56 (fun H locs hP hS => ?_)
    refine lv_iload_n hx hb dX12_workOut_59 rfl (lv_at hl 1 rfl) ?_
    refine lv_iconst (v := 4) hx hb dX12_workOut_60 (by decide) ?_
    refine zicmp_ne (tgt := 112) hx hb dX12_workOut_61 (by decide) hf (fun hf => ?_) (fun hf => ?_)
    · refine lv_aload_n hx hb dX12_workOut_112 rfl (lv_at hl 0 rfl) ?_
      refine lv_iload_n hx hb dX12_workOut_113 rfl (lv_at hl 3 rfl) ?_
      refine lv_aload_n hx hb dX12_workOut_114 rfl (lv_at hl 0 rfl) ?_
      refine gf_X12_114 X hP (k := 0) (q := 14) rfl dX12_workOut_115 rfl ?_
      obtain ⟨r4, s5, h6, hf⟩ := zbd_some hf
      refine zcallV X hP hS hl.1 (k := 0) (As := [.int x3, .ref (ad 14)]) (rest := []) (cn_X12_layClass h6) cw_X12_layClass zp_12 rfl (by decide) rfl ml_X12_264 (by decide) rfl rfl (Nat.le_of_ble_eq_true rfl) dX12_workOut_118 (fun H locs hP hS => ?_)
      refine lv_iload_n hx hb dX12_workOut_121 rfl (lv_at hl 1 rfl) ?_
      refine lv_iconst (v := 1) hx hb dX12_workOut_122 (by decide) ?_
      refine zicmp_ne (tgt := 139) hx hb dX12_workOut_123 (by decide) hf (fun hf => ?_) (fun hf => ?_)
      · refine lv_iconst (v := 0) hx hb dX12_workOut_139 (by decide) ?_
        refine lv_istore (lv' := [(4, .int 0), (0, .ref (ad 0)), (1, .int x1), (2, .int x2), (3, .int x3)]) hx hb dX12_workOut_140 hl (by decide) rfl (fun ls hl => ?_)
        exact hc_142 ZF x1 0 s5 _ _ _ (lv_sub hl [1, 2, 0] rfl) hP hS hf
      · refine lv_aload_n hx hb dX12_workOut_126 rfl (lv_at hl 0 rfl) ?_
        refine lv_aload_n hx hb dX12_workOut_127 rfl (lv_at hl 0 rfl) ?_
        refine gf_X12_111 X hP (k := 0) (q := 13) rfl dX12_workOut_128 rfl ?_
        refine lv_aload_n hx hb dX12_workOut_131 rfl (lv_at hl 0 rfl) ?_
        refine gf_X12_114 X hP (k := 0) (q := 14) rfl dX12_workOut_132 rfl ?_
        obtain ⟨r11, s12, h13, hf⟩ := zbd_some hf
        refine zcallV X hP hS hl.1 (k := 0) (As := [.ref (ad 13), .ref (ad 14)]) (rest := []) (cn_X12_multiply h13) cw_X12_multiply zp_12 rfl (by decide) rfl ml_X12_272 (by decide) rfl rfl (Nat.le_of_ble_eq_true rfl) dX12_workOut_135 (fun H locs hP hS => ?_)
        exact zret_v X hP hS hf dX12_workOut_138
    · refine lv_iconst (v := 0) hx hb dX12_workOut_64 (by decide) ?_
      refine lv_istore (lv' := [(4, .int 0), (0, .ref (ad 0)), (1, .int x1), (2, .int x2), (3, .int x3)]) hx hb dX12_workOut_65 hl (by decide) rfl (fun ls hl => ?_)
      exact hc_67 ZF x3 0 s2 _ _ _ (lv_sub hl [1, 4, 0] rfl) hP hS hf
  · refine lv_aload_n hx hb dX12_workOut_5 rfl (lv_at hl 0 rfl) ?_
    refine lv_aload_n hx hb dX12_workOut_6 rfl (lv_at hl 0 rfl) ?_
    refine gf_X12_111 X hP (k := 0) (q := 13) rfl dX12_workOut_7 rfl ?_
    obtain ⟨r17, s18, h19, hf⟩ := zbd_some hf
    refine zcallV X hP hS hl.1 (k := 0) (As := [.ref (ad 13)]) (rest := []) (cn_X12_layOne h19) cw_X12_layOne zp_12 rfl (by decide) rfl ml_X12_278 (by decide) rfl rfl (Nat.le_of_ble_eq_true rfl) dX12_workOut_10 (fun H locs hP hS => ?_)
    refine lv_aload_n hx hb dX12_workOut_13 rfl (lv_at hl 0 rfl) ?_
    refine lv_iload_n hx hb dX12_workOut_14 rfl (lv_at hl 2 rfl) ?_
    refine lv_aload_n hx hb dX12_workOut_15 rfl (lv_at hl 0 rfl) ?_
    refine gf_X12_114 X hP (k := 0) (q := 14) rfl dX12_workOut_16 rfl ?_
    obtain ⟨r20, s21, h22, hf⟩ := zbd_some hf
    refine zcallV X hP hS hl.1 (k := 0) (As := [.int x2, .ref (ad 14)]) (rest := []) (cn_X12_layClass h22) cw_X12_layClass zp_12 rfl (by decide) rfl ml_X12_264 (by decide) rfl rfl (Nat.le_of_ble_eq_true rfl) dX12_workOut_19 (fun H locs hP hS => ?_)
    refine lv_iconst (v := 0) hx hb dX12_workOut_22 (by decide) ?_
    refine lv_istore (lv' := [(4, .int 0), (0, .ref (ad 0)), (1, .int x1), (2, .int x2), (3, .int x3)]) hx hb dX12_workOut_23 hl (by decide) rfl (fun ls hl => ?_)
    exact hc_25 ZF x3 0 s21 _ _ _ (lv_sub hl [1, 4, 0] rfl) hP hS hf
theorem dX12_acts_0 : decode cX12_acts 0 = .ok (.aload_n 0, 1) := by decide +kernel
theorem dX12_acts_1 : decode cX12_acts 1 = .ok (.invokevirtual 411, 3) := by decide +kernel
theorem dX12_acts_4 : decode cX12_acts 4 = .ok (.istore_n 1, 1) := by decide +kernel
theorem dX12_acts_5 : decode cX12_acts 5 = .ok (.aload_n 0, 1) := by decide +kernel
theorem dX12_acts_6 : decode cX12_acts 6 = .ok (.iconst 0, 1) := by decide +kernel
theorem dX12_acts_7 : decode cX12_acts 7 = .ok (.putfield 336, 3) := by decide +kernel
theorem dX12_acts_10 : decode cX12_acts 10 = .ok (.iload_n 1, 1) := by decide +kernel
theorem dX12_acts_11 : decode cX12_acts 11 = .ok (.ifCond .ne 11, 3) := by decide +kernel
theorem dX12_acts_14 : decode cX12_acts 14 = .ok (.bipush (-100), 2) := by decide +kernel
theorem dX12_acts_16 : decode cX12_acts 16 = .ok (.aload_n 0, 1) := by decide +kernel
theorem dX12_acts_17 : decode cX12_acts 17 = .ok (.getfield 339, 3) := by decide +kernel
theorem dX12_acts_20 : decode cX12_acts 20 = .ok (.isub, 1) := by decide +kernel
theorem dX12_acts_21 : decode cX12_acts 21 = .ok (.ireturn, 1) := by decide +kernel
theorem dX12_acts_22 : decode cX12_acts 22 = .ok (.aload_n 0, 1) := by decide +kernel
theorem dX12_acts_23 : decode cX12_acts 23 = .ok (.getfield 89, 3) := by decide +kernel
theorem dX12_acts_26 : decode cX12_acts 26 = .ok (.istore_n 2, 1) := by decide +kernel
theorem dX12_acts_27 : decode cX12_acts 27 = .ok (.iconst 0, 1) := by decide +kernel
theorem dX12_acts_28 : decode cX12_acts 28 = .ok (.istore_n 3, 1) := by decide +kernel
theorem dX12_acts_29 : decode cX12_acts 29 = .ok (.iload_n 3, 1) := by decide +kernel
theorem dX12_acts_30 : decode cX12_acts 30 = .ok (.aload_n 0, 1) := by decide +kernel
theorem dX12_acts_31 : decode cX12_acts 31 = .ok (.getfield 402, 3) := by decide +kernel
theorem dX12_acts_34 : decode cX12_acts 34 = .ok (.if_icmp .ge 124, 3) := by decide +kernel
theorem dX12_acts_37 : decode cX12_acts 37 = .ok (.aload_n 0, 1) := by decide +kernel
theorem dX12_acts_38 : decode cX12_acts 38 = .ok (.getfield 89, 3) := by decide +kernel
theorem dX12_acts_41 : decode cX12_acts 41 = .ok (.bipush 8, 2) := by decide +kernel
theorem dX12_acts_43 : decode cX12_acts 43 = .ok (.if_icmp .ge 59, 3) := by decide +kernel
theorem dX12_acts_46 : decode cX12_acts 46 = .ok (.aload_n 0, 1) := by decide +kernel
theorem dX12_acts_47 : decode cX12_acts 47 = .ok (.aload_n 0, 1) := by decide +kernel
theorem dX12_acts_48 : decode cX12_acts 48 = .ok (.getfield 177, 3) := by decide +kernel
theorem dX12_acts_51 : decode cX12_acts 51 = .ok (.iload_n 3, 1) := by decide +kernel
theorem dX12_acts_52 : decode cX12_acts 52 = .ok (.iaload, 1) := by decide +kernel
theorem dX12_acts_53 : decode cX12_acts 53 = .ok (.i2l, 1) := by decide +kernel
theorem dX12_acts_54 : decode cX12_acts 54 = .ok (.invokevirtual 245, 3) := by decide +kernel
theorem dX12_acts_57 : decode cX12_acts 57 = .ok (.ifCond .eq 45, 3) := by decide +kernel
theorem dX12_acts_60 : decode cX12_acts 60 = .ok (.aload_n 0, 1) := by decide +kernel
theorem dX12_acts_61 : decode cX12_acts 61 = .ok (.getfield 174, 3) := by decide +kernel
theorem dX12_acts_64 : decode cX12_acts 64 = .ok (.iload_n 3, 1) := by decide +kernel
theorem dX12_acts_65 : decode cX12_acts 65 = .ok (.iaload, 1) := by decide +kernel
theorem dX12_acts_66 : decode cX12_acts 66 = .ok (.iconst 3, 1) := by decide +kernel
theorem dX12_acts_67 : decode cX12_acts 67 = .ok (.if_icmp .ge 20, 3) := by decide +kernel
theorem dX12_acts_70 : decode cX12_acts 70 = .ok (.aload_n 0, 1) := by decide +kernel
theorem dX12_acts_71 : decode cX12_acts 71 = .ok (.aload_n 0, 1) := by decide +kernel
theorem dX12_acts_72 : decode cX12_acts 72 = .ok (.getfield 180, 3) := by decide +kernel
theorem dX12_acts_75 : decode cX12_acts 75 = .ok (.iload_n 3, 1) := by decide +kernel
theorem dX12_acts_76 : decode cX12_acts 76 = .ok (.iaload, 1) := by decide +kernel
theorem dX12_acts_77 : decode cX12_acts 77 = .ok (.i2l, 1) := by decide +kernel
theorem dX12_acts_78 : decode cX12_acts 78 = .ok (.invokevirtual 245, 3) := by decide +kernel
theorem dX12_acts_81 : decode cX12_acts 81 = .ok (.ifCond .eq 21, 3) := by decide +kernel
theorem dX12_acts_84 : decode cX12_acts 84 = .ok (.goto 14, 3) := by decide +kernel
theorem dX12_acts_87 : decode cX12_acts 87 = .ok (.aload_n 0, 1) := by decide +kernel
theorem dX12_acts_88 : decode cX12_acts 88 = .ok (.getfield 180, 3) := by decide +kernel
theorem dX12_acts_91 : decode cX12_acts 91 = .ok (.iload_n 3, 1) := by decide +kernel
theorem dX12_acts_92 : decode cX12_acts 92 = .ok (.iaload, 1) := by decide +kernel
theorem dX12_acts_93 : decode cX12_acts 93 = .ok (.bipush 6, 2) := by decide +kernel
theorem dX12_acts_95 : decode cX12_acts 95 = .ok (.if_icmp .gt 7, 3) := by decide +kernel
theorem dX12_acts_98 : decode cX12_acts 98 = .ok (.iconst 1, 1) := by decide +kernel
theorem dX12_acts_99 : decode cX12_acts 99 = .ok (.goto 4, 3) := by decide +kernel
theorem dX12_acts_102 : decode cX12_acts 102 = .ok (.iconst 0, 1) := by decide +kernel
theorem dX12_acts_103 : decode cX12_acts 103 = .ok (.istore 4, 2) := by decide +kernel
theorem dX12_acts_105 : decode cX12_acts 105 = .ok (.iload 4, 2) := by decide +kernel
theorem dX12_acts_107 : decode cX12_acts 107 = .ok (.ifCond .ne 14, 3) := by decide +kernel
theorem dX12_acts_110 : decode cX12_acts 110 = .ok (.aload_n 0, 1) := by decide +kernel
theorem dX12_acts_111 : decode cX12_acts 111 = .ok (.iload_n 2, 1) := by decide +kernel
theorem dX12_acts_112 : decode cX12_acts 112 = .ok (.putfield 89, 3) := by decide +kernel
theorem dX12_acts_115 : decode cX12_acts 115 = .ok (.sipush (-200), 3) := by decide +kernel
theorem dX12_acts_118 : decode cX12_acts 118 = .ok (.iload_n 3, 1) := by decide +kernel
theorem dX12_acts_119 : decode cX12_acts 119 = .ok (.isub, 1) := by decide +kernel
theorem dX12_acts_120 : decode cX12_acts 120 = .ok (.ireturn, 1) := by decide +kernel
theorem dX12_acts_121 : decode cX12_acts 121 = .ok (.aload_n 0, 1) := by decide +kernel
theorem dX12_acts_122 : decode cX12_acts 122 = .ok (.aload_n 0, 1) := by decide +kernel
theorem dX12_acts_123 : decode cX12_acts 123 = .ok (.getfield 174, 3) := by decide +kernel
theorem dX12_acts_126 : decode cX12_acts 126 = .ok (.iload_n 3, 1) := by decide +kernel
theorem dX12_acts_127 : decode cX12_acts 127 = .ok (.iaload, 1) := by decide +kernel
theorem dX12_acts_128 : decode cX12_acts 128 = .ok (.aload_n 0, 1) := by decide +kernel
theorem dX12_acts_129 : decode cX12_acts 129 = .ok (.getfield 177, 3) := by decide +kernel
theorem dX12_acts_132 : decode cX12_acts 132 = .ok (.iload_n 3, 1) := by decide +kernel
theorem dX12_acts_133 : decode cX12_acts 133 = .ok (.iaload, 1) := by decide +kernel
theorem dX12_acts_134 : decode cX12_acts 134 = .ok (.aload_n 0, 1) := by decide +kernel
theorem dX12_acts_135 : decode cX12_acts 135 = .ok (.getfield 180, 3) := by decide +kernel
theorem dX12_acts_138 : decode cX12_acts 138 = .ok (.iload_n 3, 1) := by decide +kernel
theorem dX12_acts_139 : decode cX12_acts 139 = .ok (.iaload, 1) := by decide +kernel
theorem dX12_acts_140 : decode cX12_acts 140 = .ok (.invokevirtual 414, 3) := by decide +kernel
theorem dX12_acts_143 : decode cX12_acts 143 = .ok (.aload_n 0, 1) := by decide +kernel
theorem dX12_acts_144 : decode cX12_acts 144 = .ok (.aload_n 0, 1) := by decide +kernel
theorem dX12_acts_145 : decode cX12_acts 145 = .ok (.getfield 111, 3) := by decide +kernel
theorem dX12_acts_148 : decode cX12_acts 148 = .ok (.invokevirtual 260, 3) := by decide +kernel
theorem dX12_acts_151 : decode cX12_acts 151 = .ok (.pop, 1) := by decide +kernel
theorem dX12_acts_152 : decode cX12_acts 152 = .ok (.iinc 3 1, 3) := by decide +kernel
theorem dX12_acts_155 : decode cX12_acts 155 = .ok (.goto (-126), 3) := by decide +kernel
theorem dX12_acts_158 : decode cX12_acts 158 = .ok (.aload_n 0, 1) := by decide +kernel
theorem dX12_acts_159 : decode cX12_acts 159 = .ok (.invokevirtual 198, 3) := by decide +kernel
theorem dX12_acts_162 : decode cX12_acts 162 = .ok (.aload_n 0, 1) := by decide +kernel
theorem dX12_acts_163 : decode cX12_acts 163 = .ok (.getfield 402, 3) := by decide +kernel
theorem dX12_acts_166 : decode cX12_acts 166 = .ok (.ireturn, 1) := by decide +kernel
set_option maxHeartbeats 4000000 in
set_option maxRecDepth 100000 in
theorem cn_X12_acts {l : Launch} {cA : Nat → ClassId} {ad : Nat → Nat} {D : va_G} {E : Nat → Nat} {A : Nat → Prop}  {s0 sr : SS} {rr : Int32} (hf : f_X12_acts s0 = some (rr, sr)) : zCon Om Nm cA ad D E l yX12_acts cX12_acts 5 (some .int) 8 A [.ref (ad 0)] s0 (some (.int rr)) sr := by
  refine zstart (own := RX12) hOm (by decide) rfl (Nat.le_of_ble_eq_true rfl) ?_
  intro p e s m args below meth c X hP ls hl
  have hx := X.1
  have hb := X.2.1
  have hl : lv_has ls 5 [(0, .ref (ad 0))] := hl
  have hS : va_S A s.heap s.heap [] := va_S.rf
  have hc_29 : ∀ (n29 : Nat) (x2 : Int32) (x3 : Int32) (s1 : SS) (H : Heap) (locs : List Loc) (ls : Array Slot), lv_has ls 5 [(0, .ref (ad 0)), (2, .int x2), (3, .int x3)] → va_P D ZCL (zw Om Nm cA ad s1) H → va_S A s.heap H locs → f_X12_acts_c29 n29 x2 x3 s1 = some (rr, sr) → W p l e (zrm 8) s m args below meth c H locs 0 0 (MQ below (zQc Om Nm cA ad D A (some (.int rr)) sr) args s 0 0 A) (F0 m 29 ls []) := by
    intro n29
    induction n29 with
    | zero =>
      intro x2 x3 s1 H locs ls hl hP hS hf
      rw [f_X12_acts_c29] at hf
      cases hf
    | succ n29 ih29 =>
      have hc_103 : ∀ (x2 : Int32) (x3 : Int32) (t0 : Int32) (s1 : SS) (H : Heap) (locs : List Loc) (ls : Array Slot), lv_has ls 5 [(0, .ref (ad 0)), (2, .int x2), (3, .int x3)] → va_P D ZCL (zw Om Nm cA ad s1) H → va_S A s.heap H locs → f_X12_acts_c103 (f_X12_acts_c29 n29) x2 x3 t0 s1 = some (rr, sr) → W p l e (zrm 8) s m args below meth c H locs 0 0 (MQ below (zQc Om Nm cA ad D A (some (.int rr)) sr) args s 0 0 A) (F0 m 103 ls [.int t0]) := by
        intro x2 x3 t0 s1 H locs ls hl hP hS hf
        rw [f_X12_acts_c103] at hf
        refine lv_istore (lv' := [(4, .int t0), (0, .ref (ad 0)), (2, .int x2), (3, .int x3)]) hx hb dX12_acts_103 hl (by decide) rfl (fun ls hl => ?_)
        refine lv_iload hx hb dX12_acts_105 (lv_at hl 0 rfl) ?_
        refine zif_ne (tgt := 121) hx hb dX12_acts_107 (by decide) hf (fun hf => ?_) (fun hf => ?_)
        · refine lv_aload_n hx hb dX12_acts_121 rfl (lv_at hl 1 rfl) ?_
          refine lv_aload_n hx hb dX12_acts_122 rfl (lv_at hl 1 rfl) ?_
          refine gf_X12_174 X hP (k := 0) (q := 35) rfl dX12_acts_123 rfl ?_
          refine lv_iload_n hx hb dX12_acts_126 rfl (lv_at hl 3 rfl) ?_
          obtain ⟨g7, hf⟩ := zgd hf
          refine zald_i X hP (k := 35) (n := 20) (rs := []) rfl g7 dX12_acts_127 ?_
          refine lv_aload_n hx hb dX12_acts_128 rfl (lv_at hl 1 rfl) ?_
          refine gf_X12_177 X hP (k := 0) (q := 36) rfl dX12_acts_129 rfl ?_
          refine lv_iload_n hx hb dX12_acts_132 rfl (lv_at hl 3 rfl) ?_
          obtain ⟨g8, hf⟩ := zgd hf
          refine zald_i X hP (k := 36) (n := 20) (rs := []) rfl g8 dX12_acts_133 ?_
          refine lv_aload_n hx hb dX12_acts_134 rfl (lv_at hl 1 rfl) ?_
          refine gf_X12_180 X hP (k := 0) (q := 37) rfl dX12_acts_135 rfl ?_
          refine lv_iload_n hx hb dX12_acts_138 rfl (lv_at hl 3 rfl) ?_
          obtain ⟨g9, hf⟩ := zgd hf
          refine zald_i X hP (k := 37) (n := 20) (rs := []) rfl g9 dX12_acts_139 ?_
          obtain ⟨r10, s11, h12, hf⟩ := zbd_some hf
          refine zcallV X hP hS hl.1 (k := 0) (As := [.int (s1.1 35 (x3).toNatClampNeg), .int (s1.1 36 (x3).toNatClampNeg), .int (s1.1 37 (x3).toNatClampNeg)]) (rest := []) (cn_X12_workOut h12) cw_X12_workOut zp_12 rfl (by decide) rfl ml_X12_414 (by decide) rfl rfl (Nat.le_of_ble_eq_true rfl) dX12_acts_140 (fun H locs hP hS => ?_)
          refine lv_aload_n hx hb dX12_acts_143 rfl (lv_at hl 1 rfl) ?_
          refine lv_aload_n hx hb dX12_acts_144 rfl (lv_at hl 1 rfl) ?_
          refine gf_X12_111 X hP (k := 0) (q := 13) rfl dX12_acts_145 rfl ?_
          obtain ⟨r13, s14, h15, hf⟩ := zbd_some hf
          refine zcallV X hP hS hl.1 (k := 0) (As := [.ref (ad 13)]) (rest := []) (cn_X12_comes h15) cw_X12_comes zp_12 rfl (by decide) rfl ml_X12_260 (by decide) rfl rfl (Nat.le_of_ble_eq_true rfl) dX12_acts_148 (fun H locs hP hS => ?_)
          refine lv_pop hx hb dX12_acts_151 rfl ?_
          refine lv_iinc (v := (x3 + 1)) (lv' := [(3, .int (x3 + 1)), (4, .int t0), (0, .ref (ad 0)), (2, .int x2)]) hx hb dX12_acts_152 hl (k := 3) rfl rfl (by decide) rfl (fun ls hl => ?_)
          refine lv_goto (tgt := 29) hx hb dX12_acts_155 (by decide) ?_
          exact ih29 x2 (x3 + 1) s14 _ _ _ (lv_sub hl [2, 3, 0] rfl) hP hS hf
        · refine lv_aload_n hx hb dX12_acts_110 rfl (lv_at hl 1 rfl) ?_
          refine lv_iload_n hx hb dX12_acts_111 rfl (lv_at hl 2 rfl) ?_
          refine pf_X12_89 X hP hS (k := 0) rfl dX12_acts_112 (fun H locs hP hS => ?_)
          refine lv_sipush (v := (-200)) hx hb dX12_acts_115 (by decide) ?_
          refine lv_iload_n hx hb dX12_acts_118 rfl (lv_at hl 3 rfl) ?_
          refine lv_isub hx hb dX12_acts_119 ?_
          exact zret_i X hP hS hf rfl dX12_acts_120
      have hc_102 : ∀ (x2 : Int32) (x3 : Int32) (s1 : SS) (H : Heap) (locs : List Loc) (ls : Array Slot), lv_has ls 5 [(0, .ref (ad 0)), (2, .int x2), (3, .int x3)] → va_P D ZCL (zw Om Nm cA ad s1) H → va_S A s.heap H locs → f_X12_acts_c102 (f_X12_acts_c29 n29) x2 x3 s1 = some (rr, sr) → W p l e (zrm 8) s m args below meth c H locs 0 0 (MQ below (zQc Om Nm cA ad D A (some (.int rr)) sr) args s 0 0 A) (F0 m 102 ls []) := by
        intro x2 x3 s1 H locs ls hl hP hS hf
        rw [f_X12_acts_c102] at hf
        refine lv_iconst (v := 0) hx hb dX12_acts_102 (by decide) ?_
        exact hc_103 x2 x3 0 s1 _ _ _ (lv_sub hl [0, 1, 2] rfl) hP hS hf
      have hc_98 : ∀ (x2 : Int32) (x3 : Int32) (s1 : SS) (H : Heap) (locs : List Loc) (ls : Array Slot), lv_has ls 5 [(0, .ref (ad 0)), (2, .int x2), (3, .int x3)] → va_P D ZCL (zw Om Nm cA ad s1) H → va_S A s.heap H locs → f_X12_acts_c98 (f_X12_acts_c29 n29) x2 x3 s1 = some (rr, sr) → W p l e (zrm 8) s m args below meth c H locs 0 0 (MQ below (zQc Om Nm cA ad D A (some (.int rr)) sr) args s 0 0 A) (F0 m 98 ls []) := by
        intro x2 x3 s1 H locs ls hl hP hS hf
        rw [f_X12_acts_c98] at hf
        refine lv_iconst (v := 1) hx hb dX12_acts_98 (by decide) ?_
        refine lv_goto (tgt := 103) hx hb dX12_acts_99 (by decide) ?_
        exact hc_103 x2 x3 1 s1 _ _ _ (lv_sub hl [0, 1, 2] rfl) hP hS hf
      intro x2 x3 s1 H locs ls hl hP hS hf
      rw [f_X12_acts_c29] at hf
      refine lv_iload_n hx hb dX12_acts_29 rfl (lv_at hl 2 rfl) ?_
      refine lv_aload_n hx hb dX12_acts_30 rfl (lv_at hl 0 rfl) ?_
      refine gf_X12_402 X hP (k := 0) rfl dX12_acts_31 ?_
      refine zicmp_ge (tgt := 158) hx hb dX12_acts_34 (by decide) hf (fun hf => ?_) (fun hf => ?_)
      · refine lv_aload_n hx hb dX12_acts_158 rfl (lv_at hl 0 rfl) ?_
        obtain ⟨r4, s5, h6, hf⟩ := zbd_some hf
        refine zcallV X hP hS hl.1 (k := 0) (As := []) (rest := []) (cn_X12_forget h6) cw_X12_forget zp_12 rfl (by decide) rfl ml_X12_198 (by decide) rfl rfl (Nat.le_of_ble_eq_true rfl) dX12_acts_159 (fun H locs hP hS => ?_)
        refine lv_aload_n hx hb dX12_acts_162 rfl (lv_at hl 0 rfl) ?_
        refine gf_X12_402 X hP (k := 0) rfl dX12_acts_163 ?_
        exact zret_i X hP hS hf rfl dX12_acts_166
      · refine lv_aload_n hx hb dX12_acts_37 rfl (lv_at hl 0 rfl) ?_
        refine gf_X12_89 X hP (k := 0) rfl dX12_acts_38 ?_
        refine lv_bipush (v := 8) hx hb dX12_acts_41 (by decide) ?_
        refine zicmp_ge (tgt := 102) hx hb dX12_acts_43 (by decide) hf (fun hf => ?_) (fun hf => ?_)
        · exact hc_102 x2 x3 s1 _ _ _ (lv_sub hl [0, 1, 2] rfl) hP hS hf
        · refine lv_aload_n hx hb dX12_acts_46 rfl (lv_at hl 0 rfl) ?_
          refine lv_aload_n hx hb dX12_acts_47 rfl (lv_at hl 0 rfl) ?_
          refine gf_X12_177 X hP (k := 0) (q := 36) rfl dX12_acts_48 rfl ?_
          refine lv_iload_n hx hb dX12_acts_51 rfl (lv_at hl 2 rfl) ?_
          obtain ⟨g16, hf⟩ := zgd hf
          refine zald_i X hP (k := 36) (n := 20) (rs := []) rfl g16 dX12_acts_52 ?_
          refine lv_i2l hx hb dX12_acts_53 rfl ?_
          obtain ⟨r17, s18, h19, hf⟩ := zbd_some hf
          refine zcallV X hP hS hl.1 (k := 0) (As := [.long ((s1.1 36 (x3).toNatClampNeg)).toInt64]) (rest := []) (cn_X12_isClass h19) cw_X12_isClass zp_12 rfl (by decide) rfl ml_X12_245 (by decide) rfl rfl (Nat.le_of_ble_eq_true rfl) dX12_acts_54 (fun H locs hP hS => ?_)
          refine zif_eq (tgt := 102) hx hb dX12_acts_57 (by decide) hf (fun hf => ?_) (fun hf => ?_)
          · exact hc_102 x2 x3 s18 _ _ _ (lv_sub hl [0, 1, 2] rfl) hP hS hf
          · refine lv_aload_n hx hb dX12_acts_60 rfl (lv_at hl 0 rfl) ?_
            refine gf_X12_174 X hP (k := 0) (q := 35) rfl dX12_acts_61 rfl ?_
            refine lv_iload_n hx hb dX12_acts_64 rfl (lv_at hl 2 rfl) ?_
            obtain ⟨g20, hf⟩ := zgd hf
            refine zald_i X hP (k := 35) (n := 20) (rs := []) rfl g20 dX12_acts_65 ?_
            refine lv_iconst (v := 3) hx hb dX12_acts_66 (by decide) ?_
            refine zicmp_ge (tgt := 87) hx hb dX12_acts_67 (by decide) hf (fun hf => ?_) (fun hf => ?_)
            · refine lv_aload_n hx hb dX12_acts_87 rfl (lv_at hl 0 rfl) ?_
              refine gf_X12_180 X hP (k := 0) (q := 37) rfl dX12_acts_88 rfl ?_
              refine lv_iload_n hx hb dX12_acts_91 rfl (lv_at hl 2 rfl) ?_
              obtain ⟨g21, hf⟩ := zgd hf
              refine zald_i X hP (k := 37) (n := 20) (rs := []) rfl g21 dX12_acts_92 ?_
              refine lv_bipush (v := 6) hx hb dX12_acts_93 (by decide) ?_
              refine zicmp_gt (tgt := 102) hx hb dX12_acts_95 (by decide) hf (fun hf => ?_) (fun hf => ?_)
              · exact hc_102 x2 x3 s18 _ _ _ (lv_sub hl [0, 1, 2] rfl) hP hS hf
              · exact hc_98 x2 x3 s18 _ _ _ (lv_sub hl [0, 1, 2] rfl) hP hS hf
            · refine lv_aload_n hx hb dX12_acts_70 rfl (lv_at hl 0 rfl) ?_
              refine lv_aload_n hx hb dX12_acts_71 rfl (lv_at hl 0 rfl) ?_
              refine gf_X12_180 X hP (k := 0) (q := 37) rfl dX12_acts_72 rfl ?_
              refine lv_iload_n hx hb dX12_acts_75 rfl (lv_at hl 2 rfl) ?_
              obtain ⟨g22, hf⟩ := zgd hf
              refine zald_i X hP (k := 37) (n := 20) (rs := []) rfl g22 dX12_acts_76 ?_
              refine lv_i2l hx hb dX12_acts_77 rfl ?_
              obtain ⟨r23, s24, h25, hf⟩ := zbd_some hf
              refine zcallV X hP hS hl.1 (k := 0) (As := [.long ((s18.1 37 (x3).toNatClampNeg)).toInt64]) (rest := []) (cn_X12_isClass h25) cw_X12_isClass zp_12 rfl (by decide) rfl ml_X12_245 (by decide) rfl rfl (Nat.le_of_ble_eq_true rfl) dX12_acts_78 (fun H locs hP hS => ?_)
              refine zif_eq (tgt := 102) hx hb dX12_acts_81 (by decide) hf (fun hf => ?_) (fun hf => ?_)
              · exact hc_102 x2 x3 s24 _ _ _ (lv_sub hl [0, 1, 2] rfl) hP hS hf
              · refine lv_goto (tgt := 98) hx hb dX12_acts_84 (by decide) ?_
                exact hc_98 x2 x3 s24 _ _ _ (lv_sub hl [0, 1, 2] rfl) hP hS hf
  rw [f_X12_acts] at hf
  refine lv_aload_n hx hb dX12_acts_0 rfl (lv_at hl 0 rfl) ?_
  obtain ⟨r1, s2, h3, hf⟩ := zbd_some hf
  refine zcallV X hP hS hl.1 (k := 0) (As := []) (rest := []) (cn_X12_isActsText h3) cw_X12_isActsText zp_12 rfl (by decide) rfl ml_X12_411 (by decide) rfl rfl (Nat.le_of_ble_eq_true rfl) dX12_acts_1 (fun H locs hP hS => ?_)
  refine lv_istore_n (lv' := [(1, .int r1), (0, .ref (ad 0))]) hx hb dX12_acts_4 rfl hl (by decide) rfl (fun ls hl => ?_)
  refine lv_aload_n hx hb dX12_acts_5 rfl (lv_at hl 1 rfl) ?_
  refine lv_iconst (v := 0) hx hb dX12_acts_6 (by decide) ?_
  refine pf_X12_336 X hP hS (k := 0) rfl dX12_acts_7 (fun H locs hP hS => ?_)
  refine lv_iload_n hx hb dX12_acts_10 rfl (lv_at hl 0 rfl) ?_
  refine zif_ne (tgt := 22) hx hb dX12_acts_11 (by decide) hf (fun hf => ?_) (fun hf => ?_)
  · refine lv_aload_n hx hb dX12_acts_22 rfl (lv_at hl 1 rfl) ?_
    refine gf_X12_89 X hP (k := 0) rfl dX12_acts_23 ?_
    refine lv_istore_n (lv' := [(2, .int ((zS s2 0 27 0).1 0 12)), (1, .int r1), (0, .ref (ad 0))]) hx hb dX12_acts_26 rfl hl (by decide) rfl (fun ls hl => ?_)
    refine lv_iconst (v := 0) hx hb dX12_acts_27 (by decide) ?_
    refine lv_istore_n (lv' := [(3, .int 0), (2, .int ((zS s2 0 27 0).1 0 12)), (1, .int r1), (0, .ref (ad 0))]) hx hb dX12_acts_28 rfl hl (by decide) rfl (fun ls hl => ?_)
    exact hc_29 ZF ((zS s2 0 27 0).1 0 12) 0 (zS s2 0 27 0) _ _ _ (lv_sub hl [3, 1, 0] rfl) hP hS hf
  · refine lv_bipush (v := (-100)) hx hb dX12_acts_14 (by decide) ?_
    refine lv_aload_n hx hb dX12_acts_16 rfl (lv_at hl 1 rfl) ?_
    refine gf_X12_339 X hP (k := 0) rfl dX12_acts_17 ?_
    refine lv_isub hx hb dX12_acts_20 ?_
    exact zret_i X hP hS hf rfl dX12_acts_21
theorem dX12_lay_0 : decode cX12_lay 0 = .ok (.aload_n 0, 1) := by decide +kernel
theorem dX12_lay_1 : decode cX12_lay 1 = .ok (.getfield 417, 3) := by decide +kernel
theorem dX12_lay_4 : decode cX12_lay 4 = .ok (.sipush 200, 3) := by decide +kernel
theorem dX12_lay_7 : decode cX12_lay 7 = .ok (.if_icmp .ge 13, 3) := by decide +kernel
theorem dX12_lay_10 : decode cX12_lay 10 = .ok (.aload_n 0, 1) := by decide +kernel
theorem dX12_lay_11 : decode cX12_lay 11 = .ok (.getfield 135, 3) := by decide +kernel
theorem dX12_lay_14 : decode cX12_lay 14 = .ok (.aload_n 0, 1) := by decide +kernel
theorem dX12_lay_15 : decode cX12_lay 15 = .ok (.getfield 417, 3) := by decide +kernel
theorem dX12_lay_18 : decode cX12_lay 18 = .ok (.iload_n 1, 1) := by decide +kernel
theorem dX12_lay_19 : decode cX12_lay 19 = .ok (.iastore, 1) := by decide +kernel
theorem dX12_lay_20 : decode cX12_lay 20 = .ok (.aload_n 0, 1) := by decide +kernel
theorem dX12_lay_21 : decode cX12_lay 21 = .ok (.dup, 1) := by decide +kernel
theorem dX12_lay_22 : decode cX12_lay 22 = .ok (.getfield 417, 3) := by decide +kernel
theorem dX12_lay_25 : decode cX12_lay 25 = .ok (.iconst 1, 1) := by decide +kernel
theorem dX12_lay_26 : decode cX12_lay 26 = .ok (.iadd, 1) := by decide +kernel
theorem dX12_lay_27 : decode cX12_lay 27 = .ok (.putfield 417, 3) := by decide +kernel
theorem dX12_lay_30 : decode cX12_lay 30 = .ok (.return_, 1) := by decide +kernel
set_option maxHeartbeats 4000000 in
set_option maxRecDepth 100000 in
theorem cn_X12_lay {l : Launch} {cA : Nat → ClassId} {ad : Nat → Nat} {D : va_G} {E : Nat → Nat} {A : Nat → Prop} {x1 : Int32} {s0 sr : SS} {rr : Unit} (hf : f_X12_lay x1 s0 = some (rr, sr)) : zCon Om Nm cA ad D E l yX12_lay cX12_lay 2 none 0 A [.ref (ad 0), .int x1] s0 none sr := by
  refine zstart (own := RX12) hOm (by decide) rfl (Nat.le_of_ble_eq_true rfl) ?_
  intro p e s m args below meth c X hP ls hl
  have hx := X.1
  have hb := X.2.1
  have hl : lv_has ls 2 [(0, .ref (ad 0)), (1, .int x1)] := hl
  have hS : va_S A s.heap s.heap [] := va_S.rf
  rw [f_X12_lay] at hf
  refine lv_aload_n hx hb dX12_lay_0 rfl (lv_at hl 0 rfl) ?_
  refine gf_X12_417 X hP (k := 0) rfl dX12_lay_1 ?_
  refine lv_sipush (v := 200) hx hb dX12_lay_4 (by decide) ?_
  refine zicmp_ge (tgt := 20) hx hb dX12_lay_7 (by decide) hf (fun hf => ?_) (fun hf => ?_)
  · refine lv_aload_n hx hb dX12_lay_20 rfl (lv_at hl 0 rfl) ?_
    refine lv_dup hx hb dX12_lay_21 rfl ?_
    refine gf_X12_417 X hP (k := 0) rfl dX12_lay_22 ?_
    refine lv_iconst (v := 1) hx hb dX12_lay_25 (by decide) ?_
    refine lv_iadd hx hb dX12_lay_26 ?_
    refine pf_X12_417 X hP hS (k := 0) rfl dX12_lay_27 (fun H locs hP hS => ?_)
    exact zret_v X hP hS hf dX12_lay_30
  · refine lv_aload_n hx hb dX12_lay_10 rfl (lv_at hl 0 rfl) ?_
    refine gf_X12_135 X hP (k := 0) (q := 21) rfl dX12_lay_11 rfl ?_
    refine lv_aload_n hx hb dX12_lay_14 rfl (lv_at hl 0 rfl) ?_
    refine gf_X12_417 X hP (k := 0) rfl dX12_lay_15 ?_
    refine lv_iload_n hx hb dX12_lay_18 rfl (lv_at hl 1 rfl) ?_
    obtain ⟨g1, hf⟩ := zgd hf
    refine zast_i X hP hS (k := 21) (n := 200) (rs := []) rfl g1 dX12_lay_19 (fun H locs hP hS => ?_)
    refine lv_aload_n hx hb dX12_lay_20 rfl (lv_at hl 0 rfl) ?_
    refine lv_dup hx hb dX12_lay_21 rfl ?_
    refine gf_X12_417 X hP (k := 0) rfl dX12_lay_22 ?_
    refine lv_iconst (v := 1) hx hb dX12_lay_25 (by decide) ?_
    refine lv_iadd hx hb dX12_lay_26 ?_
    refine pf_X12_417 X hP hS (k := 0) rfl dX12_lay_27 (fun H locs hP hS => ?_)
    exact zret_v X hP hS hf dX12_lay_30
theorem dX12_layNumber_0 : decode cX12_layNumber 0 = .ok (.iconst 0, 1) := by decide +kernel
theorem dX12_layNumber_1 : decode cX12_layNumber 1 = .ok (.istore_n 3, 1) := by decide +kernel
theorem dX12_layNumber_2 : decode cX12_layNumber 2 = .ok (.lload_n 1, 1) := by decide +kernel
theorem dX12_layNumber_3 : decode cX12_layNumber 3 = .ok (.lstore 4, 2) := by decide +kernel
theorem dX12_layNumber_5 : decode cX12_layNumber 5 = .ok (.lload 4, 2) := by decide +kernel
theorem dX12_layNumber_7 : decode cX12_layNumber 7 = .ok (.lconst 0, 1) := by decide +kernel
theorem dX12_layNumber_8 : decode cX12_layNumber 8 = .ok (.lcmp, 1) := by decide +kernel
theorem dX12_layNumber_9 : decode cX12_layNumber 9 = .ok (.ifCond .ne 7, 3) := by decide +kernel
theorem dX12_layNumber_12 : decode cX12_layNumber 12 = .ok (.iload_n 3, 1) := by decide +kernel
theorem dX12_layNumber_13 : decode cX12_layNumber 13 = .ok (.ifCond .ne 47, 3) := by decide +kernel
theorem dX12_layNumber_16 : decode cX12_layNumber 16 = .ok (.lload 4, 2) := by decide +kernel
theorem dX12_layNumber_18 : decode cX12_layNumber 18 = .ok (.ldc2_w 363, 3) := by decide +kernel
theorem dX12_layNumber_21 : decode cX12_layNumber 21 = .ok (.lrem, 1) := by decide +kernel
theorem dX12_layNumber_22 : decode cX12_layNumber 22 = .ok (.lstore 6, 2) := by decide +kernel
theorem dX12_layNumber_24 : decode cX12_layNumber 24 = .ok (.aload_n 0, 1) := by decide +kernel
theorem dX12_layNumber_25 : decode cX12_layNumber 25 = .ok (.getfield 183, 3) := by decide +kernel
theorem dX12_layNumber_28 : decode cX12_layNumber 28 = .ok (.iload_n 3, 1) := by decide +kernel
theorem dX12_layNumber_29 : decode cX12_layNumber 29 = .ok (.lload 6, 2) := by decide +kernel
theorem dX12_layNumber_31 : decode cX12_layNumber 31 = .ok (.lconst 0, 1) := by decide +kernel
theorem dX12_layNumber_32 : decode cX12_layNumber 32 = .ok (.lcmp, 1) := by decide +kernel
theorem dX12_layNumber_33 : decode cX12_layNumber 33 = .ok (.ifCond .ge 9, 3) := by decide +kernel
theorem dX12_layNumber_36 : decode cX12_layNumber 36 = .ok (.lload 6, 2) := by decide +kernel
theorem dX12_layNumber_38 : decode cX12_layNumber 38 = .ok (.lneg, 1) := by decide +kernel
theorem dX12_layNumber_39 : decode cX12_layNumber 39 = .ok (.goto 5, 3) := by decide +kernel
theorem dX12_layNumber_42 : decode cX12_layNumber 42 = .ok (.lload 6, 2) := by decide +kernel
theorem dX12_layNumber_44 : decode cX12_layNumber 44 = .ok (.l2i, 1) := by decide +kernel
theorem dX12_layNumber_45 : decode cX12_layNumber 45 = .ok (.iastore, 1) := by decide +kernel
theorem dX12_layNumber_46 : decode cX12_layNumber 46 = .ok (.lload 4, 2) := by decide +kernel
theorem dX12_layNumber_48 : decode cX12_layNumber 48 = .ok (.ldc2_w 363, 3) := by decide +kernel
theorem dX12_layNumber_51 : decode cX12_layNumber 51 = .ok (.ldiv, 1) := by decide +kernel
theorem dX12_layNumber_52 : decode cX12_layNumber 52 = .ok (.lstore 4, 2) := by decide +kernel
theorem dX12_layNumber_54 : decode cX12_layNumber 54 = .ok (.iinc 3 1, 3) := by decide +kernel
theorem dX12_layNumber_57 : decode cX12_layNumber 57 = .ok (.goto (-52), 3) := by decide +kernel
theorem dX12_layNumber_60 : decode cX12_layNumber 60 = .ok (.iload_n 3, 1) := by decide +kernel
theorem dX12_layNumber_61 : decode cX12_layNumber 61 = .ok (.iconst 1, 1) := by decide +kernel
theorem dX12_layNumber_62 : decode cX12_layNumber 62 = .ok (.isub, 1) := by decide +kernel
theorem dX12_layNumber_63 : decode cX12_layNumber 63 = .ok (.istore 6, 2) := by decide +kernel
theorem dX12_layNumber_65 : decode cX12_layNumber 65 = .ok (.iload 6, 2) := by decide +kernel
theorem dX12_layNumber_67 : decode cX12_layNumber 67 = .ok (.ifCond .lt 23, 3) := by decide +kernel
theorem dX12_layNumber_70 : decode cX12_layNumber 70 = .ok (.aload_n 0, 1) := by decide +kernel
theorem dX12_layNumber_71 : decode cX12_layNumber 71 = .ok (.bipush 48, 2) := by decide +kernel
theorem dX12_layNumber_73 : decode cX12_layNumber 73 = .ok (.aload_n 0, 1) := by decide +kernel
theorem dX12_layNumber_74 : decode cX12_layNumber 74 = .ok (.getfield 183, 3) := by decide +kernel
theorem dX12_layNumber_77 : decode cX12_layNumber 77 = .ok (.iload 6, 2) := by decide +kernel
theorem dX12_layNumber_79 : decode cX12_layNumber 79 = .ok (.iaload, 1) := by decide +kernel
theorem dX12_layNumber_80 : decode cX12_layNumber 80 = .ok (.iadd, 1) := by decide +kernel
theorem dX12_layNumber_81 : decode cX12_layNumber 81 = .ok (.invokevirtual 420, 3) := by decide +kernel
theorem dX12_layNumber_84 : decode cX12_layNumber 84 = .ok (.iinc 6 (-1), 3) := by decide +kernel
theorem dX12_layNumber_87 : decode cX12_layNumber 87 = .ok (.goto (-22), 3) := by decide +kernel
theorem dX12_layNumber_90 : decode cX12_layNumber 90 = .ok (.return_, 1) := by decide +kernel
set_option maxHeartbeats 4000000 in
set_option maxRecDepth 100000 in
theorem cn_X12_layNumber {l : Launch} {cA : Nat → ClassId} {ad : Nat → Nat} {D : va_G} {E : Nat → Nat} {A : Nat → Prop} {x1 : Int64} {s0 sr : SS} {rr : Unit} (hf : f_X12_layNumber x1 s0 = some (rr, sr)) : zCon Om Nm cA ad D E l yX12_layNumber cX12_layNumber 8 none 1 A [.ref (ad 0), .long x1] s0 none sr := by
  refine zstart (own := RX12) hOm (by decide) rfl (Nat.le_of_ble_eq_true rfl) ?_
  intro p e s m args below meth c X hP ls hl
  have hx := X.1
  have hb := X.2.1
  have hl : lv_has ls 8 [(0, .ref (ad 0)), (1, .long x1)] := hl
  have hS : va_S A s.heap s.heap [] := va_S.rf
  have hc_5 : ∀ (n5 : Nat) (x3 : Int32) (x4 : Int64) (s1 : SS) (H : Heap) (locs : List Loc) (ls : Array Slot), lv_has ls 8 [(0, .ref (ad 0)), (3, .int x3), (4, .long x4)] → va_P D ZCL (zw Om Nm cA ad s1) H → va_S A s.heap H locs → f_X12_layNumber_c5 n5 x3 x4 s1 = some (rr, sr) → W p l e (zrm 1) s m args below meth c H locs 0 0 (MQ below (zQc Om Nm cA ad D A none sr) args s 0 0 A) (F0 m 5 ls []) := by
    intro n5
    induction n5 with
    | zero =>
      intro x3 x4 s1 H locs ls hl hP hS hf
      rw [f_X12_layNumber_c5] at hf
      cases hf
    | succ n5 ih5 =>
      have hc_65 : ∀ (n65 : Nat) (x6 : Int32) (s1 : SS) (H : Heap) (locs : List Loc) (ls : Array Slot), lv_has ls 8 [(0, .ref (ad 0)), (6, .int x6)] → va_P D ZCL (zw Om Nm cA ad s1) H → va_S A s.heap H locs → f_X12_layNumber_c65 n65 x6 s1 = some (rr, sr) → W p l e (zrm 1) s m args below meth c H locs 0 0 (MQ below (zQc Om Nm cA ad D A none sr) args s 0 0 A) (F0 m 65 ls []) := by
        intro n65
        induction n65 with
        | zero =>
          intro x6 s1 H locs ls hl hP hS hf
          rw [f_X12_layNumber_c65] at hf
          cases hf
        | succ n65 ih65 =>
          intro x6 s1 H locs ls hl hP hS hf
          rw [f_X12_layNumber_c65] at hf
          refine lv_iload hx hb dX12_layNumber_65 (lv_at hl 1 rfl) ?_
          refine zif_lt (tgt := 90) hx hb dX12_layNumber_67 (by decide) hf (fun hf => ?_) (fun hf => ?_)
          · exact zret_v X hP hS hf dX12_layNumber_90
          · refine lv_aload_n hx hb dX12_layNumber_70 rfl (lv_at hl 0 rfl) ?_
            refine lv_bipush (v := 48) hx hb dX12_layNumber_71 (by decide) ?_
            refine lv_aload_n hx hb dX12_layNumber_73 rfl (lv_at hl 0 rfl) ?_
            refine gf_X12_183 X hP (k := 0) (q := 38) rfl dX12_layNumber_74 rfl ?_
            refine lv_iload hx hb dX12_layNumber_77 (lv_at hl 1 rfl) ?_
            obtain ⟨g2, hf⟩ := zgd hf
            refine zald_i X hP (k := 38) (n := 20) (rs := []) rfl g2 dX12_layNumber_79 ?_
            refine lv_iadd hx hb dX12_layNumber_80 ?_
            obtain ⟨r3, s4, h5, hf⟩ := zbd_some hf
            refine zcallV X hP hS hl.1 (k := 0) (As := [.int ((48 : Int32) + (s1.1 38 (x6).toNatClampNeg))]) (rest := []) (cn_X12_lay h5) cw_X12_lay zp_12 rfl (by decide) rfl ml_X12_420 (by decide) rfl rfl (Nat.le_of_ble_eq_true rfl) dX12_layNumber_81 (fun H locs hP hS => ?_)
            refine lv_iinc (v := (x6 + (-1))) (lv' := [(6, .int (x6 + (-1))), (0, .ref (ad 0))]) hx hb dX12_layNumber_84 hl (k := 1) rfl rfl (by decide) rfl (fun ls hl => ?_)
            refine lv_goto (tgt := 65) hx hb dX12_layNumber_87 (by decide) ?_
            exact ih65 (x6 + (-1)) s4 _ _ _ (lv_sub hl [1, 0] rfl) hP hS hf
      have hc_44 : ∀ (x3 : Int32) (x4 : Int64) (t0 : Int64) (t1 : Int32) (s1 : SS) (H : Heap) (locs : List Loc) (ls : Array Slot), lv_has ls 8 [(0, .ref (ad 0)), (3, .int x3), (4, .long x4)] → va_P D ZCL (zw Om Nm cA ad s1) H → va_S A s.heap H locs → f_X12_layNumber_c44 (f_X12_layNumber_c5 n5) x3 x4 t0 t1 s1 = some (rr, sr) → W p l e (zrm 1) s m args below meth c H locs 0 0 (MQ below (zQc Om Nm cA ad D A none sr) args s 0 0 A) (F0 m 44 ls [.long t0, .int t1, .ref (ad 38)]) := by
        intro x3 x4 t0 t1 s1 H locs ls hl hP hS hf
        rw [f_X12_layNumber_c44] at hf
        refine lv_l2i hx hb dX12_layNumber_44 rfl ?_
        obtain ⟨g1, hf⟩ := zgd hf
        refine zast_i X hP hS (k := 38) (n := 20) (rs := []) rfl g1 dX12_layNumber_45 (fun H locs hP hS => ?_)
        refine lv_lload hx hb dX12_layNumber_46 (lv_at hl 2 rfl) ?_
        refine zldc2 X co_X12_363 dX12_layNumber_48 ?_
        refine lv_ldiv hx hb dX12_layNumber_51 (by decide) ?_
        refine lv_lstore (lv' := [(4, .long (x4 / (10 : Int64))), (0, .ref (ad 0)), (3, .int x3)]) hx hb dX12_layNumber_52 hl (by decide) rfl (fun ls hl => ?_)
        refine lv_iinc (v := (x3 + 1)) (lv' := [(3, .int (x3 + 1)), (4, .long (x4 / (10 : Int64))), (0, .ref (ad 0))]) hx hb dX12_layNumber_54 hl (k := 2) rfl rfl (by decide) rfl (fun ls hl => ?_)
        refine lv_goto (tgt := 5) hx hb dX12_layNumber_57 (by decide) ?_
        exact ih5 (x3 + 1) (x4 / (10 : Int64)) (zS s1 38 (t1).toNatClampNeg ((t0).toInt32)) _ _ _ (lv_sub hl [2, 0, 1] rfl) hP hS hf
      have hc_16 : ∀ (x3 : Int32) (x4 : Int64) (s1 : SS) (H : Heap) (locs : List Loc) (ls : Array Slot), lv_has ls 8 [(0, .ref (ad 0)), (3, .int x3), (4, .long x4)] → va_P D ZCL (zw Om Nm cA ad s1) H → va_S A s.heap H locs → f_X12_layNumber_c16 (f_X12_layNumber_c5 n5) x3 x4 s1 = some (rr, sr) → W p l e (zrm 1) s m args below meth c H locs 0 0 (MQ below (zQc Om Nm cA ad D A none sr) args s 0 0 A) (F0 m 16 ls []) := by
        intro x3 x4 s1 H locs ls hl hP hS hf
        rw [f_X12_layNumber_c16] at hf
        refine lv_lload hx hb dX12_layNumber_16 (lv_at hl 2 rfl) ?_
        refine zldc2 X co_X12_363 dX12_layNumber_18 ?_
        refine lv_lrem hx hb dX12_layNumber_21 (by decide) ?_
        refine lv_lstore (lv' := [(6, .long (x4 - x4 / (10 : Int64) * (10 : Int64))), (0, .ref (ad 0)), (3, .int x3), (4, .long x4)]) hx hb dX12_layNumber_22 hl (by decide) rfl (fun ls hl => ?_)
        refine lv_aload_n hx hb dX12_layNumber_24 rfl (lv_at hl 1 rfl) ?_
        refine gf_X12_183 X hP (k := 0) (q := 38) rfl dX12_layNumber_25 rfl ?_
        refine lv_iload_n hx hb dX12_layNumber_28 rfl (lv_at hl 2 rfl) ?_
        refine lv_lload hx hb dX12_layNumber_29 (lv_at hl 0 rfl) ?_
        refine lv_lconst (v := 0) hx hb dX12_layNumber_31 (by decide) ?_
        refine W.lcmp hx hb dX12_layNumber_32 ?_
        refine zif_ge (tgt := 42) hx hb dX12_layNumber_33 (by decide) hf (fun hf => ?_) (fun hf => ?_)
        · refine lv_lload hx hb dX12_layNumber_42 (lv_at hl 0 rfl) ?_
          exact hc_44 x3 x4 (x4 - x4 / (10 : Int64) * (10 : Int64)) x3 s1 _ _ _ (lv_sub hl [1, 2, 3] rfl) hP hS hf
        · refine lv_lload hx hb dX12_layNumber_36 (lv_at hl 0 rfl) ?_
          refine lv_lneg hx hb dX12_layNumber_38 ?_
          refine lv_goto (tgt := 44) hx hb dX12_layNumber_39 (by decide) ?_
          exact hc_44 x3 x4 (-(x4 - x4 / (10 : Int64) * (10 : Int64))) x3 s1 _ _ _ (lv_sub hl [1, 2, 3] rfl) hP hS hf
      intro x3 x4 s1 H locs ls hl hP hS hf
      rw [f_X12_layNumber_c5] at hf
      refine lv_lload hx hb dX12_layNumber_5 (lv_at hl 2 rfl) ?_
      refine lv_lconst (v := 0) hx hb dX12_layNumber_7 (by decide) ?_
      refine W.lcmp hx hb dX12_layNumber_8 ?_
      refine zif_ne (tgt := 16) hx hb dX12_layNumber_9 (by decide) hf (fun hf => ?_) (fun hf => ?_)
      · exact hc_16 x3 x4 s1 _ _ _ (lv_sub hl [0, 1, 2] rfl) hP hS hf
      · refine lv_iload_n hx hb dX12_layNumber_12 rfl (lv_at hl 1 rfl) ?_
        refine zif_ne (tgt := 60) hx hb dX12_layNumber_13 (by decide) hf (fun hf => ?_) (fun hf => ?_)
        · refine lv_iload_n hx hb dX12_layNumber_60 rfl (lv_at hl 1 rfl) ?_
          refine lv_iconst (v := 1) hx hb dX12_layNumber_61 (by decide) ?_
          refine lv_isub hx hb dX12_layNumber_62 ?_
          refine lv_istore (lv' := [(6, .int (x3 - (1 : Int32))), (0, .ref (ad 0)), (3, .int x3), (4, .long x4)]) hx hb dX12_layNumber_63 hl (by decide) rfl (fun ls hl => ?_)
          exact hc_65 ZF (x3 - (1 : Int32)) s1 _ _ _ (lv_sub hl [1, 0] rfl) hP hS hf
        · exact hc_16 x3 x4 s1 _ _ _ (lv_sub hl [0, 1, 2] rfl) hP hS hf
  rw [f_X12_layNumber] at hf
  refine lv_iconst (v := 0) hx hb dX12_layNumber_0 (by decide) ?_
  refine lv_istore_n (lv' := [(3, .int 0), (0, .ref (ad 0)), (1, .long x1)]) hx hb dX12_layNumber_1 rfl hl (by decide) rfl (fun ls hl => ?_)
  refine lv_lload_n hx hb dX12_layNumber_2 rfl (lv_at hl 2 rfl) ?_
  refine lv_lstore (lv' := [(4, .long x1), (3, .int 0), (0, .ref (ad 0)), (1, .long x1)]) hx hb dX12_layNumber_3 hl (by decide) rfl (fun ls hl => ?_)
  exact hc_5 ZF 0 x1 s0 _ _ _ (lv_sub hl [2, 1, 0] rfl) hP hS hf
theorem dX12_write_0 : decode cX12_write 0 = .ok (.aload_n 0, 1) := by decide +kernel
theorem dX12_write_1 : decode cX12_write 1 = .ok (.iload_n 1, 1) := by decide +kernel
theorem dX12_write_2 : decode cX12_write 2 = .ok (.i2l, 1) := by decide +kernel
theorem dX12_write_3 : decode cX12_write 3 = .ok (.invokevirtual 245, 3) := by decide +kernel
theorem dX12_write_6 : decode cX12_write 6 = .ok (.ifCond .ne 5, 3) := by decide +kernel
theorem dX12_write_9 : decode cX12_write 9 = .ok (.iconst (-1), 1) := by decide +kernel
theorem dX12_write_10 : decode cX12_write 10 = .ok (.ireturn, 1) := by decide +kernel
theorem dX12_write_11 : decode cX12_write 11 = .ok (.aload_n 0, 1) := by decide +kernel
theorem dX12_write_12 : decode cX12_write 12 = .ok (.iconst 0, 1) := by decide +kernel
theorem dX12_write_13 : decode cX12_write 13 = .ok (.putfield 417, 3) := by decide +kernel
theorem dX12_write_16 : decode cX12_write 16 = .ok (.iconst 0, 1) := by decide +kernel
theorem dX12_write_17 : decode cX12_write 17 = .ok (.istore_n 2, 1) := by decide +kernel
theorem dX12_write_18 : decode cX12_write 18 = .ok (.iload_n 2, 1) := by decide +kernel
theorem dX12_write_19 : decode cX12_write 19 = .ok (.aload_n 0, 1) := by decide +kernel
theorem dX12_write_20 : decode cX12_write 20 = .ok (.getfield 56, 3) := by decide +kernel
theorem dX12_write_23 : decode cX12_write 23 = .ok (.if_icmp .ge 147, 3) := by decide +kernel
theorem dX12_write_26 : decode cX12_write 26 = .ok (.aload_n 0, 1) := by decide +kernel
theorem dX12_write_27 : decode cX12_write 27 = .ok (.iload_n 1, 1) := by decide +kernel
theorem dX12_write_28 : decode cX12_write 28 = .ok (.iload_n 2, 1) := by decide +kernel
theorem dX12_write_29 : decode cX12_write 29 = .ok (.invokevirtual 233, 3) := by decide +kernel
theorem dX12_write_32 : decode cX12_write 32 = .ok (.lstore_n 3, 1) := by decide +kernel
theorem dX12_write_33 : decode cX12_write 33 = .ok (.lload_n 3, 1) := by decide +kernel
theorem dX12_write_34 : decode cX12_write 34 = .ok (.lconst 0, 1) := by decide +kernel
theorem dX12_write_35 : decode cX12_write 35 = .ok (.lcmp, 1) := by decide +kernel
theorem dX12_write_36 : decode cX12_write 36 = .ok (.ifCond .eq 128, 3) := by decide +kernel
theorem dX12_write_39 : decode cX12_write 39 = .ok (.lload_n 3, 1) := by decide +kernel
theorem dX12_write_40 : decode cX12_write 40 = .ok (.lconst 0, 1) := by decide +kernel
theorem dX12_write_41 : decode cX12_write 41 = .ok (.lcmp, 1) := by decide +kernel
theorem dX12_write_42 : decode cX12_write 42 = .ok (.ifCond .lt 10, 3) := by decide +kernel
theorem dX12_write_45 : decode cX12_write 45 = .ok (.aload_n 0, 1) := by decide +kernel
theorem dX12_write_46 : decode cX12_write 46 = .ok (.getfield 417, 3) := by decide +kernel
theorem dX12_write_49 : decode cX12_write 49 = .ok (.ifCond .le 20, 3) := by decide +kernel
theorem dX12_write_52 : decode cX12_write 52 = .ok (.aload_n 0, 1) := by decide +kernel
theorem dX12_write_53 : decode cX12_write 53 = .ok (.lload_n 3, 1) := by decide +kernel
theorem dX12_write_54 : decode cX12_write 54 = .ok (.lconst 0, 1) := by decide +kernel
theorem dX12_write_55 : decode cX12_write 55 = .ok (.lcmp, 1) := by decide +kernel
theorem dX12_write_56 : decode cX12_write 56 = .ok (.ifCond .ge 8, 3) := by decide +kernel
theorem dX12_write_59 : decode cX12_write 59 = .ok (.bipush 45, 2) := by decide +kernel
theorem dX12_write_61 : decode cX12_write 61 = .ok (.goto 5, 3) := by decide +kernel
theorem dX12_write_64 : decode cX12_write 64 = .ok (.bipush 43, 2) := by decide +kernel
theorem dX12_write_66 : decode cX12_write 66 = .ok (.invokevirtual 420, 3) := by decide +kernel
theorem dX12_write_69 : decode cX12_write 69 = .ok (.lload_n 3, 1) := by decide +kernel
theorem dX12_write_70 : decode cX12_write 70 = .ok (.lconst 1, 1) := by decide +kernel
theorem dX12_write_71 : decode cX12_write 71 = .ok (.lcmp, 1) := by decide +kernel
theorem dX12_write_72 : decode cX12_write 72 = .ok (.ifCond .eq 11, 3) := by decide +kernel
theorem dX12_write_75 : decode cX12_write 75 = .ok (.lload_n 3, 1) := by decide +kernel
theorem dX12_write_76 : decode cX12_write 76 = .ok (.ldc2_w 30, 3) := by decide +kernel
theorem dX12_write_79 : decode cX12_write 79 = .ok (.lcmp, 1) := by decide +kernel
theorem dX12_write_80 : decode cX12_write 80 = .ok (.ifCond .ne 12, 3) := by decide +kernel
theorem dX12_write_83 : decode cX12_write 83 = .ok (.aload_n 0, 1) := by decide +kernel
theorem dX12_write_84 : decode cX12_write 84 = .ok (.getfield 75, 3) := by decide +kernel
theorem dX12_write_87 : decode cX12_write 87 = .ok (.iload_n 2, 1) := by decide +kernel
theorem dX12_write_88 : decode cX12_write 88 = .ok (.iaload, 1) := by decide +kernel
theorem dX12_write_89 : decode cX12_write 89 = .ok (.ifCond .ne 8, 3) := by decide +kernel
theorem dX12_write_92 : decode cX12_write 92 = .ok (.aload_n 0, 1) := by decide +kernel
theorem dX12_write_93 : decode cX12_write 93 = .ok (.lload_n 3, 1) := by decide +kernel
theorem dX12_write_94 : decode cX12_write 94 = .ok (.invokevirtual 423, 3) := by decide +kernel
theorem dX12_write_97 : decode cX12_write 97 = .ok (.iconst 0, 1) := by decide +kernel
theorem dX12_write_98 : decode cX12_write 98 = .ok (.istore 5, 2) := by decide +kernel
theorem dX12_write_100 : decode cX12_write 100 = .ok (.iload 5, 2) := by decide +kernel
theorem dX12_write_102 : decode cX12_write 102 = .ok (.aload_n 0, 1) := by decide +kernel
theorem dX12_write_103 : decode cX12_write 103 = .ok (.invokevirtual 68, 3) := by decide +kernel
theorem dX12_write_106 : decode cX12_write 106 = .ok (.if_icmp .ge 58, 3) := by decide +kernel
theorem dX12_write_109 : decode cX12_write 109 = .ok (.aload_n 0, 1) := by decide +kernel
theorem dX12_write_110 : decode cX12_write 110 = .ok (.getfield 62, 3) := by decide +kernel
theorem dX12_write_113 : decode cX12_write 113 = .ok (.iload_n 2, 1) := by decide +kernel
theorem dX12_write_114 : decode cX12_write 114 = .ok (.iaload, 1) := by decide +kernel
theorem dX12_write_115 : decode cX12_write 115 = .ok (.iload 5, 2) := by decide +kernel
theorem dX12_write_117 : decode cX12_write 117 = .ok (.invokestatic 19, 3) := by decide +kernel
theorem dX12_write_120 : decode cX12_write 120 = .ok (.istore 6, 2) := by decide +kernel
theorem dX12_write_122 : decode cX12_write 122 = .ok (.iload 6, 2) := by decide +kernel
theorem dX12_write_124 : decode cX12_write 124 = .ok (.ifCond .le 13, 3) := by decide +kernel
theorem dX12_write_127 : decode cX12_write 127 = .ok (.aload_n 0, 1) := by decide +kernel
theorem dX12_write_128 : decode cX12_write 128 = .ok (.aload_n 0, 1) := by decide +kernel
theorem dX12_write_129 : decode cX12_write 129 = .ok (.iload 5, 2) := by decide +kernel
theorem dX12_write_131 : decode cX12_write 131 = .ok (.invokevirtual 222, 3) := by decide +kernel
theorem dX12_write_134 : decode cX12_write 134 = .ok (.invokevirtual 420, 3) := by decide +kernel
theorem dX12_write_137 : decode cX12_write 137 = .ok (.iload 6, 2) := by decide +kernel
theorem dX12_write_139 : decode cX12_write 139 = .ok (.iconst 1, 1) := by decide +kernel
theorem dX12_write_140 : decode cX12_write 140 = .ok (.if_icmp .le 18, 3) := by decide +kernel
theorem dX12_write_143 : decode cX12_write 143 = .ok (.aload_n 0, 1) := by decide +kernel
theorem dX12_write_144 : decode cX12_write 144 = .ok (.bipush 94, 2) := by decide +kernel
theorem dX12_write_146 : decode cX12_write 146 = .ok (.invokevirtual 420, 3) := by decide +kernel
theorem dX12_write_149 : decode cX12_write 149 = .ok (.aload_n 0, 1) := by decide +kernel
theorem dX12_write_150 : decode cX12_write 150 = .ok (.bipush 48, 2) := by decide +kernel
theorem dX12_write_152 : decode cX12_write 152 = .ok (.iload 6, 2) := by decide +kernel
theorem dX12_write_154 : decode cX12_write 154 = .ok (.iadd, 1) := by decide +kernel
theorem dX12_write_155 : decode cX12_write 155 = .ok (.invokevirtual 420, 3) := by decide +kernel
theorem dX12_write_158 : decode cX12_write 158 = .ok (.iinc 5 1, 3) := by decide +kernel
theorem dX12_write_161 : decode cX12_write 161 = .ok (.goto (-61), 3) := by decide +kernel
theorem dX12_write_164 : decode cX12_write 164 = .ok (.iinc 2 1, 3) := by decide +kernel
theorem dX12_write_167 : decode cX12_write 167 = .ok (.goto (-149), 3) := by decide +kernel
theorem dX12_write_170 : decode cX12_write 170 = .ok (.aload_n 0, 1) := by decide +kernel
theorem dX12_write_171 : decode cX12_write 171 = .ok (.getfield 417, 3) := by decide +kernel
theorem dX12_write_174 : decode cX12_write 174 = .ok (.ifCond .ne 9, 3) := by decide +kernel
theorem dX12_write_177 : decode cX12_write 177 = .ok (.aload_n 0, 1) := by decide +kernel
theorem dX12_write_178 : decode cX12_write 178 = .ok (.bipush 48, 2) := by decide +kernel
theorem dX12_write_180 : decode cX12_write 180 = .ok (.invokevirtual 420, 3) := by decide +kernel
theorem dX12_write_183 : decode cX12_write 183 = .ok (.aload_n 0, 1) := by decide +kernel
theorem dX12_write_184 : decode cX12_write 184 = .ok (.aload_n 0, 1) := by decide +kernel
theorem dX12_write_185 : decode cX12_write 185 = .ok (.getfield 417, 3) := by decide +kernel
theorem dX12_write_188 : decode cX12_write 188 = .ok (.sipush 200, 3) := by decide +kernel
theorem dX12_write_191 : decode cX12_write 191 = .ok (.if_icmp .ge 10, 3) := by decide +kernel
theorem dX12_write_194 : decode cX12_write 194 = .ok (.aload_n 0, 1) := by decide +kernel
theorem dX12_write_195 : decode cX12_write 195 = .ok (.getfield 417, 3) := by decide +kernel
theorem dX12_write_198 : decode cX12_write 198 = .ok (.goto 6, 3) := by decide +kernel
theorem dX12_write_201 : decode cX12_write 201 = .ok (.sipush 200, 3) := by decide +kernel
theorem dX12_write_204 : decode cX12_write 204 = .ok (.putfield 426, 3) := by decide +kernel
theorem dX12_write_207 : decode cX12_write 207 = .ok (.aload_n 0, 1) := by decide +kernel
theorem dX12_write_208 : decode cX12_write 208 = .ok (.getfield 417, 3) := by decide +kernel
theorem dX12_write_211 : decode cX12_write 211 = .ok (.ireturn, 1) := by decide +kernel
set_option maxHeartbeats 4000000 in
set_option maxRecDepth 100000 in
theorem cn_X12_write {l : Launch} {cA : Nat → ClassId} {ad : Nat → Nat} {D : va_G} {E : Nat → Nat} {A : Nat → Prop} {x1 : Int32} {s0 sr : SS} {rr : Int32} (hf : f_X12_write x1 s0 = some (rr, sr)) : zCon Om Nm cA ad D E l yX12_write cX12_write 7 (some .int) 4 A [.ref (ad 0), .int x1] s0 (some (.int rr)) sr := by
  refine zstart (own := RX12) hOm (by decide) rfl (Nat.le_of_ble_eq_true rfl) ?_
  intro p e s m args below meth c X hP ls hl
  have hx := X.1
  have hb := X.2.1
  have hl : lv_has ls 7 [(0, .ref (ad 0)), (1, .int x1)] := hl
  have hS : va_S A s.heap s.heap [] := va_S.rf
  have hc_18 : ∀ (n18 : Nat) (x1 : Int32) (x2 : Int32) (s1 : SS) (H : Heap) (locs : List Loc) (ls : Array Slot), lv_has ls 7 [(0, .ref (ad 0)), (1, .int x1), (2, .int x2)] → va_P D ZCL (zw Om Nm cA ad s1) H → va_S A s.heap H locs → f_X12_write_c18 n18 x1 x2 s1 = some (rr, sr) → W p l e (zrm 4) s m args below meth c H locs 0 0 (MQ below (zQc Om Nm cA ad D A (some (.int rr)) sr) args s 0 0 A) (F0 m 18 ls []) := by
    intro n18
    induction n18 with
    | zero =>
      intro x1 x2 s1 H locs ls hl hP hS hf
      rw [f_X12_write_c18] at hf
      cases hf
    | succ n18 ih18 =>
      have hc_183 : ∀  (s1 : SS) (H : Heap) (locs : List Loc) (ls : Array Slot), lv_has ls 7 [(0, .ref (ad 0))] → va_P D ZCL (zw Om Nm cA ad s1) H → va_S A s.heap H locs → f_X12_write_c183  s1 = some (rr, sr) → W p l e (zrm 4) s m args below meth c H locs 0 0 (MQ below (zQc Om Nm cA ad D A (some (.int rr)) sr) args s 0 0 A) (F0 m 183 ls []) := by
        intro  s1 H locs ls hl hP hS hf
        rw [f_X12_write_c183] at hf
        refine lv_aload_n hx hb dX12_write_183 rfl (lv_at hl 0 rfl) ?_
        refine lv_aload_n hx hb dX12_write_184 rfl (lv_at hl 0 rfl) ?_
        refine gf_X12_417 X hP (k := 0) rfl dX12_write_185 ?_
        refine lv_sipush (v := 200) hx hb dX12_write_188 (by decide) ?_
        refine zicmp_ge (tgt := 201) hx hb dX12_write_191 (by decide) hf (fun hf => ?_) (fun hf => ?_)
        · refine lv_sipush (v := 200) hx hb dX12_write_201 (by decide) ?_
          refine pf_X12_426 X hP hS (k := 0) rfl dX12_write_204 (fun H locs hP hS => ?_)
          refine lv_aload_n hx hb dX12_write_207 rfl (lv_at hl 0 rfl) ?_
          refine gf_X12_417 X hP (k := 0) rfl dX12_write_208 ?_
          exact zret_i X hP hS hf rfl dX12_write_211
        · refine lv_aload_n hx hb dX12_write_194 rfl (lv_at hl 0 rfl) ?_
          refine gf_X12_417 X hP (k := 0) rfl dX12_write_195 ?_
          refine lv_goto (tgt := 204) hx hb dX12_write_198 (by decide) ?_
          refine pf_X12_426 X hP hS (k := 0) rfl dX12_write_204 (fun H locs hP hS => ?_)
          refine lv_aload_n hx hb dX12_write_207 rfl (lv_at hl 0 rfl) ?_
          refine gf_X12_417 X hP (k := 0) rfl dX12_write_208 ?_
          exact zret_i X hP hS hf rfl dX12_write_211
      have hc_164 : ∀ (x1 : Int32) (x2 : Int32) (s1 : SS) (H : Heap) (locs : List Loc) (ls : Array Slot), lv_has ls 7 [(0, .ref (ad 0)), (1, .int x1), (2, .int x2)] → va_P D ZCL (zw Om Nm cA ad s1) H → va_S A s.heap H locs → f_X12_write_c164 (f_X12_write_c18 n18) x1 x2 s1 = some (rr, sr) → W p l e (zrm 4) s m args below meth c H locs 0 0 (MQ below (zQc Om Nm cA ad D A (some (.int rr)) sr) args s 0 0 A) (F0 m 164 ls []) := by
        intro x1 x2 s1 H locs ls hl hP hS hf
        rw [f_X12_write_c164] at hf
        refine lv_iinc (v := (x2 + 1)) (lv' := [(2, .int (x2 + 1)), (0, .ref (ad 0)), (1, .int x1)]) hx hb dX12_write_164 hl (k := 2) rfl rfl (by decide) rfl (fun ls hl => ?_)
        refine lv_goto (tgt := 18) hx hb dX12_write_167 (by decide) ?_
        exact ih18 x1 (x2 + 1) s1 _ _ _ (lv_sub hl [1, 2, 0] rfl) hP hS hf
      have hc_100 : ∀ (n100 : Nat) (x1 : Int32) (x2 : Int32) (x5 : Int32) (s1 : SS) (H : Heap) (locs : List Loc) (ls : Array Slot), lv_has ls 7 [(0, .ref (ad 0)), (1, .int x1), (2, .int x2), (5, .int x5)] → va_P D ZCL (zw Om Nm cA ad s1) H → va_S A s.heap H locs → f_X12_write_c100 (f_X12_write_c18 n18) n100 x1 x2 x5 s1 = some (rr, sr) → W p l e (zrm 4) s m args below meth c H locs 0 0 (MQ below (zQc Om Nm cA ad D A (some (.int rr)) sr) args s 0 0 A) (F0 m 100 ls []) := by
        intro n100
        induction n100 with
        | zero =>
          intro x1 x2 x5 s1 H locs ls hl hP hS hf
          rw [f_X12_write_c100] at hf
          cases hf
        | succ n100 ih100 =>
          have hc_158 : ∀ (x1 : Int32) (x2 : Int32) (x5 : Int32) (s1 : SS) (H : Heap) (locs : List Loc) (ls : Array Slot), lv_has ls 7 [(0, .ref (ad 0)), (1, .int x1), (2, .int x2), (5, .int x5)] → va_P D ZCL (zw Om Nm cA ad s1) H → va_S A s.heap H locs → f_X12_write_c158 (f_X12_write_c100 (f_X12_write_c18 n18) n100) (f_X12_write_c18 n18) x1 x2 x5 s1 = some (rr, sr) → W p l e (zrm 4) s m args below meth c H locs 0 0 (MQ below (zQc Om Nm cA ad D A (some (.int rr)) sr) args s 0 0 A) (F0 m 158 ls []) := by
            intro x1 x2 x5 s1 H locs ls hl hP hS hf
            rw [f_X12_write_c158] at hf
            refine lv_iinc (v := (x5 + 1)) (lv' := [(5, .int (x5 + 1)), (0, .ref (ad 0)), (1, .int x1), (2, .int x2)]) hx hb dX12_write_158 hl (k := 3) rfl rfl (by decide) rfl (fun ls hl => ?_)
            refine lv_goto (tgt := 100) hx hb dX12_write_161 (by decide) ?_
            exact ih100 x1 x2 (x5 + 1) s1 _ _ _ (lv_sub hl [1, 2, 3, 0] rfl) hP hS hf
          have hc_137 : ∀ (x1 : Int32) (x2 : Int32) (x5 : Int32) (x6 : Int32) (s1 : SS) (H : Heap) (locs : List Loc) (ls : Array Slot), lv_has ls 7 [(0, .ref (ad 0)), (1, .int x1), (2, .int x2), (5, .int x5), (6, .int x6)] → va_P D ZCL (zw Om Nm cA ad s1) H → va_S A s.heap H locs → f_X12_write_c137 (f_X12_write_c100 (f_X12_write_c18 n18) n100) (f_X12_write_c18 n18) x1 x2 x5 x6 s1 = some (rr, sr) → W p l e (zrm 4) s m args below meth c H locs 0 0 (MQ below (zQc Om Nm cA ad D A (some (.int rr)) sr) args s 0 0 A) (F0 m 137 ls []) := by
            intro x1 x2 x5 x6 s1 H locs ls hl hP hS hf
            rw [f_X12_write_c137] at hf
            refine lv_iload hx hb dX12_write_137 (lv_at hl 4 rfl) ?_
            refine lv_iconst (v := 1) hx hb dX12_write_139 (by decide) ?_
            refine zicmp_le (tgt := 158) hx hb dX12_write_140 (by decide) hf (fun hf => ?_) (fun hf => ?_)
            · exact hc_158 x1 x2 x5 s1 _ _ _ (lv_sub hl [0, 1, 2, 3] rfl) hP hS hf
            · refine lv_aload_n hx hb dX12_write_143 rfl (lv_at hl 0 rfl) ?_
              refine lv_bipush (v := 94) hx hb dX12_write_144 (by decide) ?_
              obtain ⟨r21, s22, h23, hf⟩ := zbd_some hf
              refine zcallV X hP hS hl.1 (k := 0) (As := [.int 94]) (rest := []) (cn_X12_lay h23) cw_X12_lay zp_12 rfl (by decide) rfl ml_X12_420 (by decide) rfl rfl (Nat.le_of_ble_eq_true rfl) dX12_write_146 (fun H locs hP hS => ?_)
              refine lv_aload_n hx hb dX12_write_149 rfl (lv_at hl 0 rfl) ?_
              refine lv_bipush (v := 48) hx hb dX12_write_150 (by decide) ?_
              refine lv_iload hx hb dX12_write_152 (lv_at hl 4 rfl) ?_
              refine lv_iadd hx hb dX12_write_154 ?_
              obtain ⟨r24, s25, h26, hf⟩ := zbd_some hf
              refine zcallV X hP hS hl.1 (k := 0) (As := [.int ((48 : Int32) + x6)]) (rest := []) (cn_X12_lay h26) cw_X12_lay zp_12 rfl (by decide) rfl ml_X12_420 (by decide) rfl rfl (Nat.le_of_ble_eq_true rfl) dX12_write_155 (fun H locs hP hS => ?_)
              exact hc_158 x1 x2 x5 s25 _ _ _ (lv_sub hl [0, 1, 2, 3] rfl) hP hS hf
          intro x1 x2 x5 s1 H locs ls hl hP hS hf
          rw [f_X12_write_c100] at hf
          refine lv_iload hx hb dX12_write_100 (lv_at hl 3 rfl) ?_
          refine lv_aload_n hx hb dX12_write_102 rfl (lv_at hl 0 rfl) ?_
          obtain ⟨r14, s15, h16, hf⟩ := zbd_some hf
          refine zcallV X hP hS hl.1 (k := 0) (As := []) (rest := [.int x5]) (cn_X12_letters h16) cw_X12_letters zp_12 rfl (by decide) rfl ml_X12_68 (by decide) rfl rfl (Nat.le_of_ble_eq_true rfl) dX12_write_103 (fun H locs hP hS => ?_)
          refine zicmp_ge (tgt := 164) hx hb dX12_write_106 (by decide) hf (fun hf => ?_) (fun hf => ?_)
          · exact hc_164 x1 x2 s15 _ _ _ (lv_sub hl [0, 1, 2] rfl) hP hS hf
          · refine lv_aload_n hx hb dX12_write_109 rfl (lv_at hl 0 rfl) ?_
            refine gf_X12_62 X hP (k := 0) (q := 4) rfl dX12_write_110 rfl ?_
            refine lv_iload_n hx hb dX12_write_113 rfl (lv_at hl 2 rfl) ?_
            obtain ⟨g17, hf⟩ := zgd hf
            refine zald_i X hP (k := 4) (n := 462) (rs := []) rfl g17 dX12_write_114 ?_
            refine lv_iload hx hb dX12_write_115 (lv_at hl 3 rfl) ?_
            obtain ⟨r18, s19, h20, hf⟩ := zbd_some hf
            refine zcallS X hP hS hl.1 (As := [.int (s15.1 4 (x2).toNatClampNeg), .int x5]) (rest := []) (cn_X12_powerIn h20) cw_X12_powerIn ml_X12_19 (by decide) rfl rfl (Nat.le_of_ble_eq_true rfl) dX12_write_117 (fun H locs hP hS => ?_)
            refine lv_istore (lv' := [(6, .int r18), (0, .ref (ad 0)), (1, .int x1), (2, .int x2), (5, .int x5)]) hx hb dX12_write_120 hl (by decide) rfl (fun ls hl => ?_)
            refine lv_iload hx hb dX12_write_122 (lv_at hl 0 rfl) ?_
            refine zif_le (tgt := 137) hx hb dX12_write_124 (by decide) hf (fun hf => ?_) (fun hf => ?_)
            · exact hc_137 x1 x2 x5 r18 s19 _ _ _ (lv_sub hl [1, 2, 3, 4, 0] rfl) hP hS hf
            · refine lv_aload_n hx hb dX12_write_127 rfl (lv_at hl 1 rfl) ?_
              refine lv_aload_n hx hb dX12_write_128 rfl (lv_at hl 1 rfl) ?_
              refine lv_iload hx hb dX12_write_129 (lv_at hl 4 rfl) ?_
              obtain ⟨r27, s28, h29, hf⟩ := zbd_some hf
              refine zcallV X hP hS hl.1 (k := 0) (As := [.int x5]) (rest := [.ref (ad 0)]) (cn_X12_nameOf h29) cw_X12_nameOf zp_12 rfl (by decide) rfl ml_X12_222 (by decide) rfl rfl (Nat.le_of_ble_eq_true rfl) dX12_write_131 (fun H locs hP hS => ?_)
              obtain ⟨r30, s31, h32, hf⟩ := zbd_some hf
              refine zcallV X hP hS hl.1 (k := 0) (As := [.int r27]) (rest := []) (cn_X12_lay h32) cw_X12_lay zp_12 rfl (by decide) rfl ml_X12_420 (by decide) rfl rfl (Nat.le_of_ble_eq_true rfl) dX12_write_134 (fun H locs hP hS => ?_)
              exact hc_137 x1 x2 x5 r18 s31 _ _ _ (lv_sub hl [1, 2, 3, 4, 0] rfl) hP hS hf
      have hc_97 : ∀ (x1 : Int32) (x2 : Int32) (s1 : SS) (H : Heap) (locs : List Loc) (ls : Array Slot), lv_has ls 7 [(0, .ref (ad 0)), (1, .int x1), (2, .int x2)] → va_P D ZCL (zw Om Nm cA ad s1) H → va_S A s.heap H locs → f_X12_write_c97 (f_X12_write_c18 n18) x1 x2 s1 = some (rr, sr) → W p l e (zrm 4) s m args below meth c H locs 0 0 (MQ below (zQc Om Nm cA ad D A (some (.int rr)) sr) args s 0 0 A) (F0 m 97 ls []) := by
        intro x1 x2 s1 H locs ls hl hP hS hf
        rw [f_X12_write_c97] at hf
        refine lv_iconst (v := 0) hx hb dX12_write_97 (by decide) ?_
        refine lv_istore (lv' := [(5, .int 0), (0, .ref (ad 0)), (1, .int x1), (2, .int x2)]) hx hb dX12_write_98 hl (by decide) rfl (fun ls hl => ?_)
        exact hc_100 ZF x1 x2 0 s1 _ _ _ (lv_sub hl [1, 2, 3, 0] rfl) hP hS hf
      have hc_92 : ∀ (x1 : Int32) (x2 : Int32) (x3 : Int64) (s1 : SS) (H : Heap) (locs : List Loc) (ls : Array Slot), lv_has ls 7 [(0, .ref (ad 0)), (1, .int x1), (2, .int x2), (3, .long x3)] → va_P D ZCL (zw Om Nm cA ad s1) H → va_S A s.heap H locs → f_X12_write_c92 (f_X12_write_c18 n18) x1 x2 x3 s1 = some (rr, sr) → W p l e (zrm 4) s m args below meth c H locs 0 0 (MQ below (zQc Om Nm cA ad D A (some (.int rr)) sr) args s 0 0 A) (F0 m 92 ls []) := by
        intro x1 x2 x3 s1 H locs ls hl hP hS hf
        rw [f_X12_write_c92] at hf
        refine lv_aload_n hx hb dX12_write_92 rfl (lv_at hl 0 rfl) ?_
        refine lv_lload_n hx hb dX12_write_93 rfl (lv_at hl 3 rfl) ?_
        obtain ⟨r33, s34, h35, hf⟩ := zbd_some hf
        refine zcallV X hP hS hl.1 (k := 0) (As := [.long x3]) (rest := []) (cn_X12_layNumber h35) cw_X12_layNumber zp_12 rfl (by decide) rfl ml_X12_423 (by decide) rfl rfl (Nat.le_of_ble_eq_true rfl) dX12_write_94 (fun H locs hP hS => ?_)
        exact hc_97 x1 x2 s34 _ _ _ (lv_sub hl [0, 1, 2] rfl) hP hS hf
      have hc_83 : ∀ (x1 : Int32) (x2 : Int32) (x3 : Int64) (s1 : SS) (H : Heap) (locs : List Loc) (ls : Array Slot), lv_has ls 7 [(0, .ref (ad 0)), (1, .int x1), (2, .int x2), (3, .long x3)] → va_P D ZCL (zw Om Nm cA ad s1) H → va_S A s.heap H locs → f_X12_write_c83 (f_X12_write_c18 n18) x1 x2 x3 s1 = some (rr, sr) → W p l e (zrm 4) s m args below meth c H locs 0 0 (MQ below (zQc Om Nm cA ad D A (some (.int rr)) sr) args s 0 0 A) (F0 m 83 ls []) := by
        intro x1 x2 x3 s1 H locs ls hl hP hS hf
        rw [f_X12_write_c83] at hf
        refine lv_aload_n hx hb dX12_write_83 rfl (lv_at hl 0 rfl) ?_
        refine gf_X12_75 X hP (k := 0) (q := 5) rfl dX12_write_84 rfl ?_
        refine lv_iload_n hx hb dX12_write_87 rfl (lv_at hl 2 rfl) ?_
        obtain ⟨g13, hf⟩ := zgd hf
        refine zald_i X hP (k := 5) (n := 462) (rs := []) rfl g13 dX12_write_88 ?_
        refine zif_ne (tgt := 97) hx hb dX12_write_89 (by decide) hf (fun hf => ?_) (fun hf => ?_)
        · exact hc_97 x1 x2 s1 _ _ _ (lv_sub hl [0, 1, 2] rfl) hP hS hf
        · exact hc_92 x1 x2 x3 s1 _ _ _ (lv_sub hl [0, 1, 2, 3] rfl) hP hS hf
      have hc_69 : ∀ (x1 : Int32) (x2 : Int32) (x3 : Int64) (s1 : SS) (H : Heap) (locs : List Loc) (ls : Array Slot), lv_has ls 7 [(0, .ref (ad 0)), (1, .int x1), (2, .int x2), (3, .long x3)] → va_P D ZCL (zw Om Nm cA ad s1) H → va_S A s.heap H locs → f_X12_write_c69 (f_X12_write_c18 n18) x1 x2 x3 s1 = some (rr, sr) → W p l e (zrm 4) s m args below meth c H locs 0 0 (MQ below (zQc Om Nm cA ad D A (some (.int rr)) sr) args s 0 0 A) (F0 m 69 ls []) := by
        intro x1 x2 x3 s1 H locs ls hl hP hS hf
        rw [f_X12_write_c69] at hf
        refine lv_lload_n hx hb dX12_write_69 rfl (lv_at hl 3 rfl) ?_
        refine lv_lconst (v := 1) hx hb dX12_write_70 (by decide) ?_
        refine W.lcmp hx hb dX12_write_71 ?_
        refine zif_eq (tgt := 83) hx hb dX12_write_72 (by decide) hf (fun hf => ?_) (fun hf => ?_)
        · exact hc_83 x1 x2 x3 s1 _ _ _ (lv_sub hl [0, 1, 2, 3] rfl) hP hS hf
        · refine lv_lload_n hx hb dX12_write_75 rfl (lv_at hl 3 rfl) ?_
          refine zldc2 X co_X12_30 dX12_write_76 ?_
          refine W.lcmp hx hb dX12_write_79 ?_
          refine zif_ne (tgt := 92) hx hb dX12_write_80 (by decide) hf (fun hf => ?_) (fun hf => ?_)
          · exact hc_92 x1 x2 x3 s1 _ _ _ (lv_sub hl [0, 1, 2, 3] rfl) hP hS hf
          · exact hc_83 x1 x2 x3 s1 _ _ _ (lv_sub hl [0, 1, 2, 3] rfl) hP hS hf
      have hc_66 : ∀ (x1 : Int32) (x2 : Int32) (x3 : Int64) (t0 : Int32) (s1 : SS) (H : Heap) (locs : List Loc) (ls : Array Slot), lv_has ls 7 [(0, .ref (ad 0)), (1, .int x1), (2, .int x2), (3, .long x3)] → va_P D ZCL (zw Om Nm cA ad s1) H → va_S A s.heap H locs → f_X12_write_c66 (f_X12_write_c18 n18) x1 x2 x3 t0 s1 = some (rr, sr) → W p l e (zrm 4) s m args below meth c H locs 0 0 (MQ below (zQc Om Nm cA ad D A (some (.int rr)) sr) args s 0 0 A) (F0 m 66 ls [.int t0, .ref (ad 0)]) := by
        intro x1 x2 x3 t0 s1 H locs ls hl hP hS hf
        rw [f_X12_write_c66] at hf
        obtain ⟨r10, s11, h12, hf⟩ := zbd_some hf
        refine zcallV X hP hS hl.1 (k := 0) (As := [.int t0]) (rest := []) (cn_X12_lay h12) cw_X12_lay zp_12 rfl (by decide) rfl ml_X12_420 (by decide) rfl rfl (Nat.le_of_ble_eq_true rfl) dX12_write_66 (fun H locs hP hS => ?_)
        exact hc_69 x1 x2 x3 s11 _ _ _ (lv_sub hl [0, 1, 2, 3] rfl) hP hS hf
      have hc_52 : ∀ (x1 : Int32) (x2 : Int32) (x3 : Int64) (s1 : SS) (H : Heap) (locs : List Loc) (ls : Array Slot), lv_has ls 7 [(0, .ref (ad 0)), (1, .int x1), (2, .int x2), (3, .long x3)] → va_P D ZCL (zw Om Nm cA ad s1) H → va_S A s.heap H locs → f_X12_write_c52 (f_X12_write_c18 n18) x1 x2 x3 s1 = some (rr, sr) → W p l e (zrm 4) s m args below meth c H locs 0 0 (MQ below (zQc Om Nm cA ad D A (some (.int rr)) sr) args s 0 0 A) (F0 m 52 ls []) := by
        intro x1 x2 x3 s1 H locs ls hl hP hS hf
        rw [f_X12_write_c52] at hf
        refine lv_aload_n hx hb dX12_write_52 rfl (lv_at hl 0 rfl) ?_
        refine lv_lload_n hx hb dX12_write_53 rfl (lv_at hl 3 rfl) ?_
        refine lv_lconst (v := 0) hx hb dX12_write_54 (by decide) ?_
        refine W.lcmp hx hb dX12_write_55 ?_
        refine zif_ge (tgt := 64) hx hb dX12_write_56 (by decide) hf (fun hf => ?_) (fun hf => ?_)
        · refine lv_bipush (v := 43) hx hb dX12_write_64 (by decide) ?_
          exact hc_66 x1 x2 x3 43 s1 _ _ _ (lv_sub hl [0, 1, 2, 3] rfl) hP hS hf
        · refine lv_bipush (v := 45) hx hb dX12_write_59 (by decide) ?_
          refine lv_goto (tgt := 66) hx hb dX12_write_61 (by decide) ?_
          exact hc_66 x1 x2 x3 45 s1 _ _ _ (lv_sub hl [0, 1, 2, 3] rfl) hP hS hf
      intro x1 x2 s1 H locs ls hl hP hS hf
      rw [f_X12_write_c18] at hf
      refine lv_iload_n hx hb dX12_write_18 rfl (lv_at hl 2 rfl) ?_
      refine lv_aload_n hx hb dX12_write_19 rfl (lv_at hl 0 rfl) ?_
      refine gf_X12_56 X hP (k := 0) rfl dX12_write_20 ?_
      refine zicmp_ge (tgt := 170) hx hb dX12_write_23 (by decide) hf (fun hf => ?_) (fun hf => ?_)
      · refine lv_aload_n hx hb dX12_write_170 rfl (lv_at hl 0 rfl) ?_
        refine gf_X12_417 X hP (k := 0) rfl dX12_write_171 ?_
        refine zif_ne (tgt := 183) hx hb dX12_write_174 (by decide) hf (fun hf => ?_) (fun hf => ?_)
        · exact hc_183  s1 _ _ _ (lv_sub hl [0] rfl) hP hS hf
        · refine lv_aload_n hx hb dX12_write_177 rfl (lv_at hl 0 rfl) ?_
          refine lv_bipush (v := 48) hx hb dX12_write_178 (by decide) ?_
          obtain ⟨r4, s5, h6, hf⟩ := zbd_some hf
          refine zcallV X hP hS hl.1 (k := 0) (As := [.int 48]) (rest := []) (cn_X12_lay h6) cw_X12_lay zp_12 rfl (by decide) rfl ml_X12_420 (by decide) rfl rfl (Nat.le_of_ble_eq_true rfl) dX12_write_180 (fun H locs hP hS => ?_)
          exact hc_183  s5 _ _ _ (lv_sub hl [0] rfl) hP hS hf
      · refine lv_aload_n hx hb dX12_write_26 rfl (lv_at hl 0 rfl) ?_
        refine lv_iload_n hx hb dX12_write_27 rfl (lv_at hl 1 rfl) ?_
        refine lv_iload_n hx hb dX12_write_28 rfl (lv_at hl 2 rfl) ?_
        obtain ⟨r7, s8, h9, hf⟩ := zbd_some hf
        refine zcallV X hP hS hl.1 (k := 0) (As := [.int x1, .int x2]) (rest := []) (cn_X12_numberAt h9) cw_X12_numberAt zp_12 rfl (by decide) rfl ml_X12_233 (by decide) rfl rfl (Nat.le_of_ble_eq_true rfl) dX12_write_29 (fun H locs hP hS => ?_)
        refine lv_lstore_n (lv' := [(3, .long r7), (0, .ref (ad 0)), (1, .int x1), (2, .int x2)]) hx hb dX12_write_32 rfl hl (by decide) rfl (fun ls hl => ?_)
        refine lv_lload_n hx hb dX12_write_33 rfl (lv_at hl 0 rfl) ?_
        refine lv_lconst (v := 0) hx hb dX12_write_34 (by decide) ?_
        refine W.lcmp hx hb dX12_write_35 ?_
        refine zif_eq (tgt := 164) hx hb dX12_write_36 (by decide) hf (fun hf => ?_) (fun hf => ?_)
        · exact hc_164 x1 x2 s8 _ _ _ (lv_sub hl [1, 2, 3] rfl) hP hS hf
        · refine lv_lload_n hx hb dX12_write_39 rfl (lv_at hl 0 rfl) ?_
          refine lv_lconst (v := 0) hx hb dX12_write_40 (by decide) ?_
          refine W.lcmp hx hb dX12_write_41 ?_
          refine zif_lt (tgt := 52) hx hb dX12_write_42 (by decide) hf (fun hf => ?_) (fun hf => ?_)
          · exact hc_52 x1 x2 r7 s8 _ _ _ (lv_sub hl [1, 2, 3, 0] rfl) hP hS hf
          · refine lv_aload_n hx hb dX12_write_45 rfl (lv_at hl 1 rfl) ?_
            refine gf_X12_417 X hP (k := 0) rfl dX12_write_46 ?_
            refine zif_le (tgt := 69) hx hb dX12_write_49 (by decide) hf (fun hf => ?_) (fun hf => ?_)
            · exact hc_69 x1 x2 r7 s8 _ _ _ (lv_sub hl [1, 2, 3, 0] rfl) hP hS hf
            · exact hc_52 x1 x2 r7 s8 _ _ _ (lv_sub hl [1, 2, 3, 0] rfl) hP hS hf
  rw [f_X12_write] at hf
  refine lv_aload_n hx hb dX12_write_0 rfl (lv_at hl 0 rfl) ?_
  refine lv_iload_n hx hb dX12_write_1 rfl (lv_at hl 1 rfl) ?_
  refine lv_i2l hx hb dX12_write_2 rfl ?_
  obtain ⟨r1, s2, h3, hf⟩ := zbd_some hf
  refine zcallV X hP hS hl.1 (k := 0) (As := [.long (x1).toInt64]) (rest := []) (cn_X12_isClass h3) cw_X12_isClass zp_12 rfl (by decide) rfl ml_X12_245 (by decide) rfl rfl (Nat.le_of_ble_eq_true rfl) dX12_write_3 (fun H locs hP hS => ?_)
  refine zif_ne (tgt := 11) hx hb dX12_write_6 (by decide) hf (fun hf => ?_) (fun hf => ?_)
  · refine lv_aload_n hx hb dX12_write_11 rfl (lv_at hl 0 rfl) ?_
    refine lv_iconst (v := 0) hx hb dX12_write_12 (by decide) ?_
    refine pf_X12_417 X hP hS (k := 0) rfl dX12_write_13 (fun H locs hP hS => ?_)
    refine lv_iconst (v := 0) hx hb dX12_write_16 (by decide) ?_
    refine lv_istore_n (lv' := [(2, .int 0), (0, .ref (ad 0)), (1, .int x1)]) hx hb dX12_write_17 rfl hl (by decide) rfl (fun ls hl => ?_)
    exact hc_18 ZF x1 0 (zS s2 0 58 0) _ _ _ (lv_sub hl [1, 2, 0] rfl) hP hS hf
  · refine lv_iconst (v := (-1)) hx hb dX12_write_9 (by decide) ?_
    exact zret_i X hP hS hf rfl dX12_write_10
theorem dX12_paper_0 : decode cX12_paper 0 = .ok (.iload_n 1, 1) := by decide +kernel
theorem dX12_paper_1 : decode cX12_paper 1 = .ok (.i2l, 1) := by decide +kernel
theorem dX12_paper_2 : decode cX12_paper 2 = .ok (.lconst 0, 1) := by decide +kernel
theorem dX12_paper_3 : decode cX12_paper 3 = .ok (.aload_n 0, 1) := by decide +kernel
theorem dX12_paper_4 : decode cX12_paper 4 = .ok (.getfield 426, 3) := by decide +kernel
theorem dX12_paper_7 : decode cX12_paper 7 = .ok (.iconst 1, 1) := by decide +kernel
theorem dX12_paper_8 : decode cX12_paper 8 = .ok (.isub, 1) := by decide +kernel
theorem dX12_paper_9 : decode cX12_paper 9 = .ok (.i2l, 1) := by decide +kernel
theorem dX12_paper_10 : decode cX12_paper 10 = .ok (.invokestatic 203, 3) := by decide +kernel
theorem dX12_paper_13 : decode cX12_paper 13 = .ok (.ifCond .eq 12, 3) := by decide +kernel
theorem dX12_paper_16 : decode cX12_paper 16 = .ok (.aload_n 0, 1) := by decide +kernel
theorem dX12_paper_17 : decode cX12_paper 17 = .ok (.getfield 135, 3) := by decide +kernel
theorem dX12_paper_20 : decode cX12_paper 20 = .ok (.iload_n 1, 1) := by decide +kernel
theorem dX12_paper_21 : decode cX12_paper 21 = .ok (.iaload, 1) := by decide +kernel
theorem dX12_paper_22 : decode cX12_paper 22 = .ok (.goto 5, 3) := by decide +kernel
theorem dX12_paper_25 : decode cX12_paper 25 = .ok (.bipush (-2), 2) := by decide +kernel
theorem dX12_paper_27 : decode cX12_paper 27 = .ok (.ireturn, 1) := by decide +kernel
set_option maxHeartbeats 4000000 in
set_option maxRecDepth 100000 in
theorem cn_X12_paper {l : Launch} {cA : Nat → ClassId} {ad : Nat → Nat} {D : va_G} {E : Nat → Nat} {A : Nat → Prop} {x1 : Int32} {s0 sr : SS} {rr : Int32} (hf : f_X12_paper x1 s0 = some (rr, sr)) : zCon Om Nm cA ad D E l yX12_paper cX12_paper 2 (some .int) 1 A [.ref (ad 0), .int x1] s0 (some (.int rr)) sr := by
  refine zstart (own := RX12) hOm (by decide) rfl (Nat.le_of_ble_eq_true rfl) ?_
  intro p e s m args below meth c X hP ls hl
  have hx := X.1
  have hb := X.2.1
  have hl : lv_has ls 2 [(0, .ref (ad 0)), (1, .int x1)] := hl
  have hS : va_S A s.heap s.heap [] := va_S.rf
  rw [f_X12_paper] at hf
  refine lv_iload_n hx hb dX12_paper_0 rfl (lv_at hl 1 rfl) ?_
  refine lv_i2l hx hb dX12_paper_1 rfl ?_
  refine lv_lconst (v := 0) hx hb dX12_paper_2 (by decide) ?_
  refine lv_aload_n hx hb dX12_paper_3 rfl (lv_at hl 0 rfl) ?_
  refine gf_X12_426 X hP (k := 0) rfl dX12_paper_4 ?_
  refine lv_iconst (v := 1) hx hb dX12_paper_7 (by decide) ?_
  refine lv_isub hx hb dX12_paper_8 ?_
  refine lv_i2l hx hb dX12_paper_9 rfl ?_
  obtain ⟨r1, s2, h3, hf⟩ := zbd_some hf
  refine zcallS X hP hS hl.1 (As := [.long (x1).toInt64, .long 0, .long (((s0.1 0 29) - (1 : Int32))).toInt64]) (rest := []) (cn_X12_in h3) cw_X12_in ml_X12_203 (by decide) rfl rfl (Nat.le_of_ble_eq_true rfl) dX12_paper_10 (fun H locs hP hS => ?_)
  refine zif_eq (tgt := 25) hx hb dX12_paper_13 (by decide) hf (fun hf => ?_) (fun hf => ?_)
  · refine lv_bipush (v := (-2)) hx hb dX12_paper_25 (by decide) ?_
    exact zret_i X hP hS hf rfl dX12_paper_27
  · refine lv_aload_n hx hb dX12_paper_16 rfl (lv_at hl 0 rfl) ?_
    refine gf_X12_135 X hP (k := 0) (q := 21) rfl dX12_paper_17 rfl ?_
    refine lv_iload_n hx hb dX12_paper_20 rfl (lv_at hl 1 rfl) ?_
    obtain ⟨g4, hf⟩ := zgd hf
    refine zald_i X hP (k := 21) (n := 200) (rs := []) rfl g4 dX12_paper_21 ?_
    refine lv_goto (tgt := 27) hx hb dX12_paper_22 (by decide) ?_
    exact zret_i X hP hS hf rfl dX12_paper_27
theorem dX12_list_0 : decode cX12_list 0 = .ok (.iload_n 1, 1) := by decide +kernel
theorem dX12_list_1 : decode cX12_list 1 = .ok (.invokestatic 275, 3) := by decide +kernel
theorem dX12_list_4 : decode cX12_list 4 = .ok (.ifCond .eq 25, 3) := by decide +kernel
theorem dX12_list_7 : decode cX12_list 7 = .ok (.iload_n 2, 1) := by decide +kernel
theorem dX12_list_8 : decode cX12_list 8 = .ok (.i2l, 1) := by decide +kernel
theorem dX12_list_9 : decode cX12_list 9 = .ok (.ldc2_w 30, 3) := by decide +kernel
theorem dX12_list_12 : decode cX12_list 12 = .ok (.lconst 1, 1) := by decide +kernel
theorem dX12_list_13 : decode cX12_list 13 = .ok (.invokestatic 203, 3) := by decide +kernel
theorem dX12_list_16 : decode cX12_list 16 = .ok (.ifCond .eq 13, 3) := by decide +kernel
theorem dX12_list_19 : decode cX12_list 19 = .ok (.iload_n 2, 1) := by decide +kernel
theorem dX12_list_20 : decode cX12_list 20 = .ok (.ifCond .lt 11, 3) := by decide +kernel
theorem dX12_list_23 : decode cX12_list 23 = .ok (.iload_n 3, 1) := by decide +kernel
theorem dX12_list_24 : decode cX12_list 24 = .ok (.bipush 20, 2) := by decide +kernel
theorem dX12_list_26 : decode cX12_list 26 = .ok (.if_icmp .le 5, 3) := by decide +kernel
theorem dX12_list_29 : decode cX12_list 29 = .ok (.iconst (-1), 1) := by decide +kernel
theorem dX12_list_30 : decode cX12_list 30 = .ok (.ireturn, 1) := by decide +kernel
theorem dX12_list_31 : decode cX12_list 31 = .ok (.iload_n 2, 1) := by decide +kernel
theorem dX12_list_32 : decode cX12_list 32 = .ok (.ifCond .lt 10, 3) := by decide +kernel
theorem dX12_list_35 : decode cX12_list 35 = .ok (.iload_n 3, 1) := by decide +kernel
theorem dX12_list_36 : decode cX12_list 36 = .ok (.ifCond .ge 6, 3) := by decide +kernel
theorem dX12_list_39 : decode cX12_list 39 = .ok (.bipush (-14), 2) := by decide +kernel
theorem dX12_list_41 : decode cX12_list 41 = .ok (.ireturn, 1) := by decide +kernel
theorem dX12_list_42 : decode cX12_list 42 = .ok (.aload_n 0, 1) := by decide +kernel
theorem dX12_list_43 : decode cX12_list 43 = .ok (.getfield 138, 3) := by decide +kernel
theorem dX12_list_46 : decode cX12_list 46 = .ok (.iload_n 1, 1) := by decide +kernel
theorem dX12_list_47 : decode cX12_list 47 = .ok (.iload_n 2, 1) := by decide +kernel
theorem dX12_list_48 : decode cX12_list 48 = .ok (.iastore, 1) := by decide +kernel
theorem dX12_list_49 : decode cX12_list 49 = .ok (.aload_n 0, 1) := by decide +kernel
theorem dX12_list_50 : decode cX12_list 50 = .ok (.getfield 141, 3) := by decide +kernel
theorem dX12_list_53 : decode cX12_list 53 = .ok (.iload_n 1, 1) := by decide +kernel
theorem dX12_list_54 : decode cX12_list 54 = .ok (.iload_n 2, 1) := by decide +kernel
theorem dX12_list_55 : decode cX12_list 55 = .ok (.ifCond .ge 7, 3) := by decide +kernel
theorem dX12_list_58 : decode cX12_list 58 = .ok (.iconst 0, 1) := by decide +kernel
theorem dX12_list_59 : decode cX12_list 59 = .ok (.goto 4, 3) := by decide +kernel
theorem dX12_list_62 : decode cX12_list 62 = .ok (.iload_n 3, 1) := by decide +kernel
theorem dX12_list_63 : decode cX12_list 63 = .ok (.iastore, 1) := by decide +kernel
theorem dX12_list_64 : decode cX12_list 64 = .ok (.iconst 0, 1) := by decide +kernel
theorem dX12_list_65 : decode cX12_list 65 = .ok (.istore 4, 2) := by decide +kernel
theorem dX12_list_67 : decode cX12_list 67 = .ok (.iload 4, 2) := by decide +kernel
theorem dX12_list_69 : decode cX12_list 69 = .ok (.bipush 20, 2) := by decide +kernel
theorem dX12_list_71 : decode cX12_list 71 = .ok (.if_icmp .ge 22, 3) := by decide +kernel
theorem dX12_list_74 : decode cX12_list 74 = .ok (.aload_n 0, 1) := by decide +kernel
theorem dX12_list_75 : decode cX12_list 75 = .ok (.getfield 144, 3) := by decide +kernel
theorem dX12_list_78 : decode cX12_list 78 = .ok (.bipush 20, 2) := by decide +kernel
theorem dX12_list_80 : decode cX12_list 80 = .ok (.iload_n 1, 1) := by decide +kernel
theorem dX12_list_81 : decode cX12_list 81 = .ok (.imul, 1) := by decide +kernel
theorem dX12_list_82 : decode cX12_list 82 = .ok (.iload 4, 2) := by decide +kernel
theorem dX12_list_84 : decode cX12_list 84 = .ok (.iadd, 1) := by decide +kernel
theorem dX12_list_85 : decode cX12_list 85 = .ok (.lconst 0, 1) := by decide +kernel
theorem dX12_list_86 : decode cX12_list 86 = .ok (.lastore, 1) := by decide +kernel
theorem dX12_list_87 : decode cX12_list 87 = .ok (.iinc 4 1, 3) := by decide +kernel
theorem dX12_list_90 : decode cX12_list 90 = .ok (.goto (-23), 3) := by decide +kernel
theorem dX12_list_93 : decode cX12_list 93 = .ok (.iconst 1, 1) := by decide +kernel
theorem dX12_list_94 : decode cX12_list 94 = .ok (.ireturn, 1) := by decide +kernel
set_option maxHeartbeats 4000000 in
set_option maxRecDepth 100000 in
theorem cn_X12_list {l : Launch} {cA : Nat → ClassId} {ad : Nat → Nat} {D : va_G} {E : Nat → Nat} {A : Nat → Prop} {x1 : Int32} {x2 : Int32} {x3 : Int32} {s0 sr : SS} {rr : Int32} (hf : f_X12_list x1 x2 x3 s0 = some (rr, sr)) : zCon Om Nm cA ad D E l yX12_list cX12_list 5 (some .int) 2 A [.ref (ad 0), .int x1, .int x2, .int x3] s0 (some (.int rr)) sr := by
  refine zstart (own := RX12) hOm (by decide) rfl (Nat.le_of_ble_eq_true rfl) ?_
  intro p e s m args below meth c X hP ls hl
  have hx := X.1
  have hb := X.2.1
  have hl : lv_has ls 5 [(0, .ref (ad 0)), (1, .int x1), (2, .int x2), (3, .int x3)] := hl
  have hS : va_S A s.heap s.heap [] := va_S.rf
  have hc_67 : ∀ (n67 : Nat) (x1 : Int32) (x4 : Int32) (s1 : SS) (H : Heap) (locs : List Loc) (ls : Array Slot), lv_has ls 5 [(0, .ref (ad 0)), (1, .int x1), (4, .int x4)] → va_P D ZCL (zw Om Nm cA ad s1) H → va_S A s.heap H locs → f_X12_list_c67 n67 x1 x4 s1 = some (rr, sr) → W p l e (zrm 2) s m args below meth c H locs 0 0 (MQ below (zQc Om Nm cA ad D A (some (.int rr)) sr) args s 0 0 A) (F0 m 67 ls []) := by
    intro n67
    induction n67 with
    | zero =>
      intro x1 x4 s1 H locs ls hl hP hS hf
      rw [f_X12_list_c67] at hf
      cases hf
    | succ n67 ih67 =>
      intro x1 x4 s1 H locs ls hl hP hS hf
      rw [f_X12_list_c67] at hf
      refine lv_iload hx hb dX12_list_67 (lv_at hl 2 rfl) ?_
      refine lv_bipush (v := 20) hx hb dX12_list_69 (by decide) ?_
      refine zicmp_ge (tgt := 93) hx hb dX12_list_71 (by decide) hf (fun hf => ?_) (fun hf => ?_)
      · refine lv_iconst (v := 1) hx hb dX12_list_93 (by decide) ?_
        exact zret_i X hP hS hf rfl dX12_list_94
      · refine lv_aload_n hx hb dX12_list_74 rfl (lv_at hl 0 rfl) ?_
        refine gf_X12_144 X hP (k := 0) (q := 24) rfl dX12_list_75 rfl ?_
        refine lv_bipush (v := 20) hx hb dX12_list_78 (by decide) ?_
        refine lv_iload_n hx hb dX12_list_80 rfl (lv_at hl 1 rfl) ?_
        refine lv_imul hx hb dX12_list_81 ?_
        refine lv_iload hx hb dX12_list_82 (lv_at hl 2 rfl) ?_
        refine lv_iadd hx hb dX12_list_84 ?_
        refine lv_lconst (v := 0) hx hb dX12_list_85 (by decide) ?_
        obtain ⟨g9, hf⟩ := zgd hf
        refine zast_l X hP hS (k := 24) (n := 60) (rs := []) rfl g9 dX12_list_86 (fun H locs hP hS => ?_)
        refine lv_iinc (v := (x4 + 1)) (lv' := [(4, .int (x4 + 1)), (0, .ref (ad 0)), (1, .int x1)]) hx hb dX12_list_87 hl (k := 2) rfl rfl (by decide) rfl (fun ls hl => ?_)
        refine lv_goto (tgt := 67) hx hb dX12_list_90 (by decide) ?_
        exact ih67 x1 (x4 + 1) (zSL s1 24 ((((20 : Int32) * x1) + x4)).toNatClampNeg 0) _ _ _ (lv_sub hl [1, 2, 0] rfl) hP hS hf
  have hc_63 : ∀ (x1 : Int32) (t0 : Int32) (t1 : Int32) (s1 : SS) (H : Heap) (locs : List Loc) (ls : Array Slot), lv_has ls 5 [(0, .ref (ad 0)), (1, .int x1)] → va_P D ZCL (zw Om Nm cA ad s1) H → va_S A s.heap H locs → f_X12_list_c63 x1 t0 t1 s1 = some (rr, sr) → W p l e (zrm 2) s m args below meth c H locs 0 0 (MQ below (zQc Om Nm cA ad D A (some (.int rr)) sr) args s 0 0 A) (F0 m 63 ls [.int t0, .int t1, .ref (ad 23)]) := by
    intro x1 t0 t1 s1 H locs ls hl hP hS hf
    rw [f_X12_list_c63] at hf
    obtain ⟨g8, hf⟩ := zgd hf
    refine zast_i X hP hS (k := 23) (n := 3) (rs := []) rfl g8 dX12_list_63 (fun H locs hP hS => ?_)
    refine lv_iconst (v := 0) hx hb dX12_list_64 (by decide) ?_
    refine lv_istore (lv' := [(4, .int 0), (0, .ref (ad 0)), (1, .int x1)]) hx hb dX12_list_65 hl (by decide) rfl (fun ls hl => ?_)
    exact hc_67 ZF x1 0 (zS s1 23 (t1).toNatClampNeg t0) _ _ _ (lv_sub hl [1, 2, 0] rfl) hP hS hf
  have hc_42 : ∀ (x1 : Int32) (x2 : Int32) (x3 : Int32) (s1 : SS) (H : Heap) (locs : List Loc) (ls : Array Slot), lv_has ls 5 [(0, .ref (ad 0)), (1, .int x1), (2, .int x2), (3, .int x3)] → va_P D ZCL (zw Om Nm cA ad s1) H → va_S A s.heap H locs → f_X12_list_c42 x1 x2 x3 s1 = some (rr, sr) → W p l e (zrm 2) s m args below meth c H locs 0 0 (MQ below (zQc Om Nm cA ad D A (some (.int rr)) sr) args s 0 0 A) (F0 m 42 ls []) := by
    intro x1 x2 x3 s1 H locs ls hl hP hS hf
    rw [f_X12_list_c42] at hf
    refine lv_aload_n hx hb dX12_list_42 rfl (lv_at hl 0 rfl) ?_
    refine gf_X12_138 X hP (k := 0) (q := 22) rfl dX12_list_43 rfl ?_
    refine lv_iload_n hx hb dX12_list_46 rfl (lv_at hl 1 rfl) ?_
    refine lv_iload_n hx hb dX12_list_47 rfl (lv_at hl 2 rfl) ?_
    obtain ⟨g7, hf⟩ := zgd hf
    refine zast_i X hP hS (k := 22) (n := 3) (rs := []) rfl g7 dX12_list_48 (fun H locs hP hS => ?_)
    refine lv_aload_n hx hb dX12_list_49 rfl (lv_at hl 0 rfl) ?_
    refine gf_X12_141 X hP (k := 0) (q := 23) rfl dX12_list_50 rfl ?_
    refine lv_iload_n hx hb dX12_list_53 rfl (lv_at hl 1 rfl) ?_
    refine lv_iload_n hx hb dX12_list_54 rfl (lv_at hl 2 rfl) ?_
    refine zif_ge (tgt := 62) hx hb dX12_list_55 (by decide) hf (fun hf => ?_) (fun hf => ?_)
    · refine lv_iload_n hx hb dX12_list_62 rfl (lv_at hl 3 rfl) ?_
      exact hc_63 x1 x3 x1 (zS s1 22 (x1).toNatClampNeg x2) _ _ _ (lv_sub hl [0, 1] rfl) hP hS hf
    · refine lv_iconst (v := 0) hx hb dX12_list_58 (by decide) ?_
      refine lv_goto (tgt := 63) hx hb dX12_list_59 (by decide) ?_
      exact hc_63 x1 0 x1 (zS s1 22 (x1).toNatClampNeg x2) _ _ _ (lv_sub hl [0, 1] rfl) hP hS hf
  have hc_31 : ∀ (x1 : Int32) (x2 : Int32) (x3 : Int32) (s1 : SS) (H : Heap) (locs : List Loc) (ls : Array Slot), lv_has ls 5 [(0, .ref (ad 0)), (1, .int x1), (2, .int x2), (3, .int x3)] → va_P D ZCL (zw Om Nm cA ad s1) H → va_S A s.heap H locs → f_X12_list_c31 x1 x2 x3 s1 = some (rr, sr) → W p l e (zrm 2) s m args below meth c H locs 0 0 (MQ below (zQc Om Nm cA ad D A (some (.int rr)) sr) args s 0 0 A) (F0 m 31 ls []) := by
    intro x1 x2 x3 s1 H locs ls hl hP hS hf
    rw [f_X12_list_c31] at hf
    refine lv_iload_n hx hb dX12_list_31 rfl (lv_at hl 2 rfl) ?_
    refine zif_lt (tgt := 42) hx hb dX12_list_32 (by decide) hf (fun hf => ?_) (fun hf => ?_)
    · exact hc_42 x1 x2 x3 s1 _ _ _ (lv_sub hl [0, 1, 2, 3] rfl) hP hS hf
    · refine lv_iload_n hx hb dX12_list_35 rfl (lv_at hl 3 rfl) ?_
      refine zif_ge (tgt := 42) hx hb dX12_list_36 (by decide) hf (fun hf => ?_) (fun hf => ?_)
      · exact hc_42 x1 x2 x3 s1 _ _ _ (lv_sub hl [0, 1, 2, 3] rfl) hP hS hf
      · refine lv_bipush (v := (-14)) hx hb dX12_list_39 (by decide) ?_
        exact zret_i X hP hS hf rfl dX12_list_41
  rw [f_X12_list] at hf
  refine lv_iload_n hx hb dX12_list_0 rfl (lv_at hl 1 rfl) ?_
  obtain ⟨r1, s2, h3, hf⟩ := zbd_some hf
  refine zcallS X hP hS hl.1 (As := [.int x1]) (rest := []) (cn_X12_isList h3) cw_X12_isList ml_X12_275 (by decide) rfl rfl (Nat.le_of_ble_eq_true rfl) dX12_list_1 (fun H locs hP hS => ?_)
  refine zif_eq (tgt := 29) hx hb dX12_list_4 (by decide) hf (fun hf => ?_) (fun hf => ?_)
  · refine lv_iconst (v := (-1)) hx hb dX12_list_29 (by decide) ?_
    exact zret_i X hP hS hf rfl dX12_list_30
  · refine lv_iload_n hx hb dX12_list_7 rfl (lv_at hl 2 rfl) ?_
    refine lv_i2l hx hb dX12_list_8 rfl ?_
    refine zldc2 X co_X12_30 dX12_list_9 ?_
    refine lv_lconst (v := 1) hx hb dX12_list_12 (by decide) ?_
    obtain ⟨r4, s5, h6, hf⟩ := zbd_some hf
    refine zcallS X hP hS hl.1 (As := [.long (x2).toInt64, .long (-1), .long 1]) (rest := []) (cn_X12_in h6) cw_X12_in ml_X12_203 (by decide) rfl rfl (Nat.le_of_ble_eq_true rfl) dX12_list_13 (fun H locs hP hS => ?_)
    refine zif_eq (tgt := 29) hx hb dX12_list_16 (by decide) hf (fun hf => ?_) (fun hf => ?_)
    · refine lv_iconst (v := (-1)) hx hb dX12_list_29 (by decide) ?_
      exact zret_i X hP hS hf rfl dX12_list_30
    · refine lv_iload_n hx hb dX12_list_19 rfl (lv_at hl 2 rfl) ?_
      refine zif_lt (tgt := 31) hx hb dX12_list_20 (by decide) hf (fun hf => ?_) (fun hf => ?_)
      · exact hc_31 x1 x2 x3 s5 _ _ _ (lv_sub hl [0, 1, 2, 3] rfl) hP hS hf
      · refine lv_iload_n hx hb dX12_list_23 rfl (lv_at hl 3 rfl) ?_
        refine lv_bipush (v := 20) hx hb dX12_list_24 (by decide) ?_
        refine zicmp_le (tgt := 31) hx hb dX12_list_26 (by decide) hf (fun hf => ?_) (fun hf => ?_)
        · exact hc_31 x1 x2 x3 s5 _ _ _ (lv_sub hl [0, 1, 2, 3] rfl) hP hS hf
        · refine lv_iconst (v := (-1)) hx hb dX12_list_29 (by decide) ?_
          exact zret_i X hP hS hf rfl dX12_list_30
theorem dX12_put_0 : decode cX12_put 0 = .ok (.iload_n 1, 1) := by decide +kernel
theorem dX12_put_1 : decode cX12_put 1 = .ok (.invokestatic 275, 3) := by decide +kernel
theorem dX12_put_4 : decode cX12_put 4 = .ok (.ifCond .ne 5, 3) := by decide +kernel
theorem dX12_put_7 : decode cX12_put 7 = .ok (.iconst (-1), 1) := by decide +kernel
theorem dX12_put_8 : decode cX12_put 8 = .ok (.ireturn, 1) := by decide +kernel
theorem dX12_put_9 : decode cX12_put 9 = .ok (.aload_n 0, 1) := by decide +kernel
theorem dX12_put_10 : decode cX12_put 10 = .ok (.getfield 138, 3) := by decide +kernel
theorem dX12_put_13 : decode cX12_put 13 = .ok (.iload_n 1, 1) := by decide +kernel
theorem dX12_put_14 : decode cX12_put 14 = .ok (.iaload, 1) := by decide +kernel
theorem dX12_put_15 : decode cX12_put 15 = .ok (.ifCond .ge 6, 3) := by decide +kernel
theorem dX12_put_18 : decode cX12_put 18 = .ok (.bipush (-11), 2) := by decide +kernel
theorem dX12_put_20 : decode cX12_put 20 = .ok (.ireturn, 1) := by decide +kernel
theorem dX12_put_21 : decode cX12_put 21 = .ok (.iload_n 2, 1) := by decide +kernel
theorem dX12_put_22 : decode cX12_put 22 = .ok (.i2l, 1) := by decide +kernel
theorem dX12_put_23 : decode cX12_put 23 = .ok (.lconst 0, 1) := by decide +kernel
theorem dX12_put_24 : decode cX12_put 24 = .ok (.aload_n 0, 1) := by decide +kernel
theorem dX12_put_25 : decode cX12_put 25 = .ok (.getfield 141, 3) := by decide +kernel
theorem dX12_put_28 : decode cX12_put 28 = .ok (.iload_n 1, 1) := by decide +kernel
theorem dX12_put_29 : decode cX12_put 29 = .ok (.iaload, 1) := by decide +kernel
theorem dX12_put_30 : decode cX12_put 30 = .ok (.iconst 1, 1) := by decide +kernel
theorem dX12_put_31 : decode cX12_put 31 = .ok (.isub, 1) := by decide +kernel
theorem dX12_put_32 : decode cX12_put 32 = .ok (.i2l, 1) := by decide +kernel
theorem dX12_put_33 : decode cX12_put 33 = .ok (.invokestatic 203, 3) := by decide +kernel
theorem dX12_put_36 : decode cX12_put 36 = .ok (.ifCond .ne 6, 3) := by decide +kernel
theorem dX12_put_39 : decode cX12_put 39 = .ok (.bipush (-13), 2) := by decide +kernel
theorem dX12_put_41 : decode cX12_put 41 = .ok (.ireturn, 1) := by decide +kernel
theorem dX12_put_42 : decode cX12_put 42 = .ok (.aload_n 0, 1) := by decide +kernel
theorem dX12_put_43 : decode cX12_put 43 = .ok (.getfield 144, 3) := by decide +kernel
theorem dX12_put_46 : decode cX12_put 46 = .ok (.bipush 20, 2) := by decide +kernel
theorem dX12_put_48 : decode cX12_put 48 = .ok (.iload_n 1, 1) := by decide +kernel
theorem dX12_put_49 : decode cX12_put 49 = .ok (.imul, 1) := by decide +kernel
theorem dX12_put_50 : decode cX12_put 50 = .ok (.iload_n 2, 1) := by decide +kernel
theorem dX12_put_51 : decode cX12_put 51 = .ok (.iadd, 1) := by decide +kernel
theorem dX12_put_52 : decode cX12_put 52 = .ok (.aload_n 0, 1) := by decide +kernel
theorem dX12_put_53 : decode cX12_put 53 = .ok (.getfield 138, 3) := by decide +kernel
theorem dX12_put_56 : decode cX12_put 56 = .ok (.iload_n 1, 1) := by decide +kernel
theorem dX12_put_57 : decode cX12_put 57 = .ok (.iaload, 1) := by decide +kernel
theorem dX12_put_58 : decode cX12_put 58 = .ok (.ifCond .ne 9, 3) := by decide +kernel
theorem dX12_put_61 : decode cX12_put 61 = .ok (.lload_n 3, 1) := by decide +kernel
theorem dX12_put_62 : decode cX12_put 62 = .ok (.l2i, 1) := by decide +kernel
theorem dX12_put_63 : decode cX12_put 63 = .ok (.i2l, 1) := by decide +kernel
theorem dX12_put_64 : decode cX12_put 64 = .ok (.goto 4, 3) := by decide +kernel
theorem dX12_put_67 : decode cX12_put 67 = .ok (.lload_n 3, 1) := by decide +kernel
theorem dX12_put_68 : decode cX12_put 68 = .ok (.lastore, 1) := by decide +kernel
theorem dX12_put_69 : decode cX12_put 69 = .ok (.iconst 1, 1) := by decide +kernel
theorem dX12_put_70 : decode cX12_put 70 = .ok (.ireturn, 1) := by decide +kernel
set_option maxHeartbeats 4000000 in
set_option maxRecDepth 100000 in
theorem cn_X12_put {l : Launch} {cA : Nat → ClassId} {ad : Nat → Nat} {D : va_G} {E : Nat → Nat} {A : Nat → Prop} {x1 : Int32} {x2 : Int32} {x3 : Int64} {s0 sr : SS} {rr : Int32} (hf : f_X12_put x1 x2 x3 s0 = some (rr, sr)) : zCon Om Nm cA ad D E l yX12_put cX12_put 5 (some .int) 2 A [.ref (ad 0), .int x1, .int x2, .long x3] s0 (some (.int rr)) sr := by
  refine zstart (own := RX12) hOm (by decide) rfl (Nat.le_of_ble_eq_true rfl) ?_
  intro p e s m args below meth c X hP ls hl
  have hx := X.1
  have hb := X.2.1
  have hl : lv_has ls 5 [(0, .ref (ad 0)), (1, .int x1), (2, .int x2), (3, .long x3)] := hl
  have hS : va_S A s.heap s.heap [] := va_S.rf
  have hc_68 : ∀ (t0 : Int64) (t1 : Int32) (s1 : SS) (H : Heap) (locs : List Loc) (ls : Array Slot), lv_has ls 5 [] → va_P D ZCL (zw Om Nm cA ad s1) H → va_S A s.heap H locs → f_X12_put_c68 t0 t1 s1 = some (rr, sr) → W p l e (zrm 2) s m args below meth c H locs 0 0 (MQ below (zQc Om Nm cA ad D A (some (.int rr)) sr) args s 0 0 A) (F0 m 68 ls [.long t0, .int t1, .ref (ad 24)]) := by
    intro t0 t1 s1 H locs ls hl hP hS hf
    rw [f_X12_put_c68] at hf
    obtain ⟨g10, hf⟩ := zgd hf
    refine zast_l X hP hS (k := 24) (n := 60) (rs := []) rfl g10 dX12_put_68 (fun H locs hP hS => ?_)
    refine lv_iconst (v := 1) hx hb dX12_put_69 (by decide) ?_
    exact zret_i X hP hS hf rfl dX12_put_70
  rw [f_X12_put] at hf
  refine lv_iload_n hx hb dX12_put_0 rfl (lv_at hl 1 rfl) ?_
  obtain ⟨r1, s2, h3, hf⟩ := zbd_some hf
  refine zcallS X hP hS hl.1 (As := [.int x1]) (rest := []) (cn_X12_isList h3) cw_X12_isList ml_X12_275 (by decide) rfl rfl (Nat.le_of_ble_eq_true rfl) dX12_put_1 (fun H locs hP hS => ?_)
  refine zif_ne (tgt := 9) hx hb dX12_put_4 (by decide) hf (fun hf => ?_) (fun hf => ?_)
  · refine lv_aload_n hx hb dX12_put_9 rfl (lv_at hl 0 rfl) ?_
    refine gf_X12_138 X hP (k := 0) (q := 22) rfl dX12_put_10 rfl ?_
    refine lv_iload_n hx hb dX12_put_13 rfl (lv_at hl 1 rfl) ?_
    obtain ⟨g4, hf⟩ := zgd hf
    refine zald_i X hP (k := 22) (n := 3) (rs := []) rfl g4 dX12_put_14 ?_
    refine zif_ge (tgt := 21) hx hb dX12_put_15 (by decide) hf (fun hf => ?_) (fun hf => ?_)
    · refine lv_iload_n hx hb dX12_put_21 rfl (lv_at hl 2 rfl) ?_
      refine lv_i2l hx hb dX12_put_22 rfl ?_
      refine lv_lconst (v := 0) hx hb dX12_put_23 (by decide) ?_
      refine lv_aload_n hx hb dX12_put_24 rfl (lv_at hl 0 rfl) ?_
      refine gf_X12_141 X hP (k := 0) (q := 23) rfl dX12_put_25 rfl ?_
      refine lv_iload_n hx hb dX12_put_28 rfl (lv_at hl 1 rfl) ?_
      obtain ⟨g5, hf⟩ := zgd hf
      refine zald_i X hP (k := 23) (n := 3) (rs := []) rfl g5 dX12_put_29 ?_
      refine lv_iconst (v := 1) hx hb dX12_put_30 (by decide) ?_
      refine lv_isub hx hb dX12_put_31 ?_
      refine lv_i2l hx hb dX12_put_32 rfl ?_
      obtain ⟨r6, s7, h8, hf⟩ := zbd_some hf
      refine zcallS X hP hS hl.1 (As := [.long (x2).toInt64, .long 0, .long (((s2.1 23 (x1).toNatClampNeg) - (1 : Int32))).toInt64]) (rest := []) (cn_X12_in h8) cw_X12_in ml_X12_203 (by decide) rfl rfl (Nat.le_of_ble_eq_true rfl) dX12_put_33 (fun H locs hP hS => ?_)
      refine zif_ne (tgt := 42) hx hb dX12_put_36 (by decide) hf (fun hf => ?_) (fun hf => ?_)
      · refine lv_aload_n hx hb dX12_put_42 rfl (lv_at hl 0 rfl) ?_
        refine gf_X12_144 X hP (k := 0) (q := 24) rfl dX12_put_43 rfl ?_
        refine lv_bipush (v := 20) hx hb dX12_put_46 (by decide) ?_
        refine lv_iload_n hx hb dX12_put_48 rfl (lv_at hl 1 rfl) ?_
        refine lv_imul hx hb dX12_put_49 ?_
        refine lv_iload_n hx hb dX12_put_50 rfl (lv_at hl 2 rfl) ?_
        refine lv_iadd hx hb dX12_put_51 ?_
        refine lv_aload_n hx hb dX12_put_52 rfl (lv_at hl 0 rfl) ?_
        refine gf_X12_138 X hP (k := 0) (q := 22) rfl dX12_put_53 rfl ?_
        refine lv_iload_n hx hb dX12_put_56 rfl (lv_at hl 1 rfl) ?_
        obtain ⟨g9, hf⟩ := zgd hf
        refine zald_i X hP (k := 22) (n := 3) (rs := []) rfl g9 dX12_put_57 ?_
        refine zif_ne (tgt := 67) hx hb dX12_put_58 (by decide) hf (fun hf => ?_) (fun hf => ?_)
        · refine lv_lload_n hx hb dX12_put_67 rfl (lv_at hl 3 rfl) ?_
          exact hc_68 x3 (((20 : Int32) * x1) + x2) s7 _ _ _ (lv_sub hl [] rfl) hP hS hf
        · refine lv_lload_n hx hb dX12_put_61 rfl (lv_at hl 3 rfl) ?_
          refine lv_l2i hx hb dX12_put_62 rfl ?_
          refine lv_i2l hx hb dX12_put_63 rfl ?_
          refine lv_goto (tgt := 68) hx hb dX12_put_64 (by decide) ?_
          exact hc_68 ((x3).toInt32).toInt64 (((20 : Int32) * x1) + x2) s7 _ _ _ (lv_sub hl [] rfl) hP hS hf
      · refine lv_bipush (v := (-13)) hx hb dX12_put_39 (by decide) ?_
        exact zret_i X hP hS hf rfl dX12_put_41
    · refine lv_bipush (v := (-11)) hx hb dX12_put_18 (by decide) ?_
      exact zret_i X hP hS hf rfl dX12_put_20
  · refine lv_iconst (v := (-1)) hx hb dX12_put_7 (by decide) ?_
    exact zret_i X hP hS hf rfl dX12_put_8
theorem dX12_get_0 : decode cX12_get 0 = .ok (.aload_n 0, 1) := by decide +kernel
theorem dX12_get_1 : decode cX12_get 1 = .ok (.iload_n 1, 1) := by decide +kernel
theorem dX12_get_2 : decode cX12_get 2 = .ok (.invokevirtual 281, 3) := by decide +kernel
theorem dX12_get_5 : decode cX12_get 5 = .ok (.ifCond .eq 21, 3) := by decide +kernel
theorem dX12_get_8 : decode cX12_get 8 = .ok (.iload_n 2, 1) := by decide +kernel
theorem dX12_get_9 : decode cX12_get 9 = .ok (.i2l, 1) := by decide +kernel
theorem dX12_get_10 : decode cX12_get 10 = .ok (.lconst 0, 1) := by decide +kernel
theorem dX12_get_11 : decode cX12_get 11 = .ok (.aload_n 0, 1) := by decide +kernel
theorem dX12_get_12 : decode cX12_get 12 = .ok (.getfield 141, 3) := by decide +kernel
theorem dX12_get_15 : decode cX12_get 15 = .ok (.iload_n 1, 1) := by decide +kernel
theorem dX12_get_16 : decode cX12_get 16 = .ok (.iaload, 1) := by decide +kernel
theorem dX12_get_17 : decode cX12_get 17 = .ok (.iconst 1, 1) := by decide +kernel
theorem dX12_get_18 : decode cX12_get 18 = .ok (.isub, 1) := by decide +kernel
theorem dX12_get_19 : decode cX12_get 19 = .ok (.i2l, 1) := by decide +kernel
theorem dX12_get_20 : decode cX12_get 20 = .ok (.invokestatic 203, 3) := by decide +kernel
theorem dX12_get_23 : decode cX12_get 23 = .ok (.ifCond .ne 9, 3) := by decide +kernel
theorem dX12_get_26 : decode cX12_get 26 = .ok (.ldc2_w 220, 3) := by decide +kernel
theorem dX12_get_29 : decode cX12_get 29 = .ok (.goto 14, 3) := by decide +kernel
theorem dX12_get_32 : decode cX12_get 32 = .ok (.aload_n 0, 1) := by decide +kernel
theorem dX12_get_33 : decode cX12_get 33 = .ok (.getfield 144, 3) := by decide +kernel
theorem dX12_get_36 : decode cX12_get 36 = .ok (.bipush 20, 2) := by decide +kernel
theorem dX12_get_38 : decode cX12_get 38 = .ok (.iload_n 1, 1) := by decide +kernel
theorem dX12_get_39 : decode cX12_get 39 = .ok (.imul, 1) := by decide +kernel
theorem dX12_get_40 : decode cX12_get 40 = .ok (.iload_n 2, 1) := by decide +kernel
theorem dX12_get_41 : decode cX12_get 41 = .ok (.iadd, 1) := by decide +kernel
theorem dX12_get_42 : decode cX12_get 42 = .ok (.laload, 1) := by decide +kernel
theorem dX12_get_43 : decode cX12_get 43 = .ok (.lreturn, 1) := by decide +kernel
set_option maxHeartbeats 4000000 in
set_option maxRecDepth 100000 in
theorem cn_X12_get {l : Launch} {cA : Nat → ClassId} {ad : Nat → Nat} {D : va_G} {E : Nat → Nat} {A : Nat → Prop} {x1 : Int32} {x2 : Int32} {s0 sr : SS} {rr : Int64} (hf : f_X12_get x1 x2 s0 = some (rr, sr)) : zCon Om Nm cA ad D E l yX12_get cX12_get 3 (some .long) 3 A [.ref (ad 0), .int x1, .int x2] s0 (some (.long rr)) sr := by
  refine zstart (own := RX12) hOm (by decide) rfl (Nat.le_of_ble_eq_true rfl) ?_
  intro p e s m args below meth c X hP ls hl
  have hx := X.1
  have hb := X.2.1
  have hl : lv_has ls 3 [(0, .ref (ad 0)), (1, .int x1), (2, .int x2)] := hl
  have hS : va_S A s.heap s.heap [] := va_S.rf
  rw [f_X12_get] at hf
  refine lv_aload_n hx hb dX12_get_0 rfl (lv_at hl 0 rfl) ?_
  refine lv_iload_n hx hb dX12_get_1 rfl (lv_at hl 1 rfl) ?_
  obtain ⟨r1, s2, h3, hf⟩ := zbd_some hf
  refine zcallV X hP hS hl.1 (k := 0) (As := [.int x1]) (rest := []) (cn_X12_isThere h3) cw_X12_isThere zp_12 rfl (by decide) rfl ml_X12_281 (by decide) rfl rfl (Nat.le_of_ble_eq_true rfl) dX12_get_2 (fun H locs hP hS => ?_)
  refine zif_eq (tgt := 26) hx hb dX12_get_5 (by decide) hf (fun hf => ?_) (fun hf => ?_)
  · refine zldc2 X co_X12_220 dX12_get_26 ?_
    refine lv_goto (tgt := 43) hx hb dX12_get_29 (by decide) ?_
    exact zret_l X hP hS hf dX12_get_43
  · refine lv_iload_n hx hb dX12_get_8 rfl (lv_at hl 2 rfl) ?_
    refine lv_i2l hx hb dX12_get_9 rfl ?_
    refine lv_lconst (v := 0) hx hb dX12_get_10 (by decide) ?_
    refine lv_aload_n hx hb dX12_get_11 rfl (lv_at hl 0 rfl) ?_
    refine gf_X12_141 X hP (k := 0) (q := 23) rfl dX12_get_12 rfl ?_
    refine lv_iload_n hx hb dX12_get_15 rfl (lv_at hl 1 rfl) ?_
    obtain ⟨g4, hf⟩ := zgd hf
    refine zald_i X hP (k := 23) (n := 3) (rs := []) rfl g4 dX12_get_16 ?_
    refine lv_iconst (v := 1) hx hb dX12_get_17 (by decide) ?_
    refine lv_isub hx hb dX12_get_18 ?_
    refine lv_i2l hx hb dX12_get_19 rfl ?_
    obtain ⟨r5, s6, h7, hf⟩ := zbd_some hf
    refine zcallS X hP hS hl.1 (As := [.long (x2).toInt64, .long 0, .long (((s2.1 23 (x1).toNatClampNeg) - (1 : Int32))).toInt64]) (rest := []) (cn_X12_in h7) cw_X12_in ml_X12_203 (by decide) rfl rfl (Nat.le_of_ble_eq_true rfl) dX12_get_20 (fun H locs hP hS => ?_)
    refine zif_ne (tgt := 32) hx hb dX12_get_23 (by decide) hf (fun hf => ?_) (fun hf => ?_)
    · refine lv_aload_n hx hb dX12_get_32 rfl (lv_at hl 0 rfl) ?_
      refine gf_X12_144 X hP (k := 0) (q := 24) rfl dX12_get_33 rfl ?_
      refine lv_bipush (v := 20) hx hb dX12_get_36 (by decide) ?_
      refine lv_iload_n hx hb dX12_get_38 rfl (lv_at hl 1 rfl) ?_
      refine lv_imul hx hb dX12_get_39 ?_
      refine lv_iload_n hx hb dX12_get_40 rfl (lv_at hl 2 rfl) ?_
      refine lv_iadd hx hb dX12_get_41 ?_
      obtain ⟨g8, hf⟩ := zgd hf
      refine zald_l X hP (k := 24) (n := 60) (rs := []) rfl g8 dX12_get_42 ?_
      exact zret_l X hP hS hf dX12_get_43
    · refine zldc2 X co_X12_220 dX12_get_26 ?_
      refine lv_goto (tgt := 43) hx hb dX12_get_29 (by decide) ?_
      exact zret_l X hP hS hf dX12_get_43
theorem dX12_copy_0 : decode cX12_copy 0 = .ok (.iload_n 1, 1) := by decide +kernel
theorem dX12_copy_1 : decode cX12_copy 1 = .ok (.invokestatic 275, 3) := by decide +kernel
theorem dX12_copy_4 : decode cX12_copy 4 = .ok (.ifCond .eq 10, 3) := by decide +kernel
theorem dX12_copy_7 : decode cX12_copy 7 = .ok (.iload_n 3, 1) := by decide +kernel
theorem dX12_copy_8 : decode cX12_copy 8 = .ok (.invokestatic 275, 3) := by decide +kernel
theorem dX12_copy_11 : decode cX12_copy 11 = .ok (.ifCond .ne 5, 3) := by decide +kernel
theorem dX12_copy_14 : decode cX12_copy 14 = .ok (.iconst (-1), 1) := by decide +kernel
theorem dX12_copy_15 : decode cX12_copy 15 = .ok (.ireturn, 1) := by decide +kernel
theorem dX12_copy_16 : decode cX12_copy 16 = .ok (.aload_n 0, 1) := by decide +kernel
theorem dX12_copy_17 : decode cX12_copy 17 = .ok (.getfield 138, 3) := by decide +kernel
theorem dX12_copy_20 : decode cX12_copy 20 = .ok (.iload_n 1, 1) := by decide +kernel
theorem dX12_copy_21 : decode cX12_copy 21 = .ok (.iaload, 1) := by decide +kernel
theorem dX12_copy_22 : decode cX12_copy 22 = .ok (.ifCond .lt 12, 3) := by decide +kernel
theorem dX12_copy_25 : decode cX12_copy 25 = .ok (.aload_n 0, 1) := by decide +kernel
theorem dX12_copy_26 : decode cX12_copy 26 = .ok (.getfield 138, 3) := by decide +kernel
theorem dX12_copy_29 : decode cX12_copy 29 = .ok (.iload_n 3, 1) := by decide +kernel
theorem dX12_copy_30 : decode cX12_copy 30 = .ok (.iaload, 1) := by decide +kernel
theorem dX12_copy_31 : decode cX12_copy 31 = .ok (.ifCond .ge 6, 3) := by decide +kernel
theorem dX12_copy_34 : decode cX12_copy 34 = .ok (.bipush (-11), 2) := by decide +kernel
theorem dX12_copy_36 : decode cX12_copy 36 = .ok (.ireturn, 1) := by decide +kernel
theorem dX12_copy_37 : decode cX12_copy 37 = .ok (.aload_n 0, 1) := by decide +kernel
theorem dX12_copy_38 : decode cX12_copy 38 = .ok (.getfield 138, 3) := by decide +kernel
theorem dX12_copy_41 : decode cX12_copy 41 = .ok (.iload_n 1, 1) := by decide +kernel
theorem dX12_copy_42 : decode cX12_copy 42 = .ok (.iaload, 1) := by decide +kernel
theorem dX12_copy_43 : decode cX12_copy 43 = .ok (.aload_n 0, 1) := by decide +kernel
theorem dX12_copy_44 : decode cX12_copy 44 = .ok (.getfield 138, 3) := by decide +kernel
theorem dX12_copy_47 : decode cX12_copy 47 = .ok (.iload_n 3, 1) := by decide +kernel
theorem dX12_copy_48 : decode cX12_copy 48 = .ok (.iaload, 1) := by decide +kernel
theorem dX12_copy_49 : decode cX12_copy 49 = .ok (.if_icmp .eq 6, 3) := by decide +kernel
theorem dX12_copy_52 : decode cX12_copy 52 = .ok (.bipush (-12), 2) := by decide +kernel
theorem dX12_copy_54 : decode cX12_copy 54 = .ok (.ireturn, 1) := by decide +kernel
theorem dX12_copy_55 : decode cX12_copy 55 = .ok (.iload 5, 2) := by decide +kernel
theorem dX12_copy_57 : decode cX12_copy 57 = .ok (.ifCond .lt 47, 3) := by decide +kernel
theorem dX12_copy_60 : decode cX12_copy 60 = .ok (.iload_n 2, 1) := by decide +kernel
theorem dX12_copy_61 : decode cX12_copy 61 = .ok (.ifCond .lt 43, 3) := by decide +kernel
theorem dX12_copy_64 : decode cX12_copy 64 = .ok (.iload 4, 2) := by decide +kernel
theorem dX12_copy_66 : decode cX12_copy 66 = .ok (.ifCond .lt 38, 3) := by decide +kernel
theorem dX12_copy_69 : decode cX12_copy 69 = .ok (.iload_n 2, 1) := by decide +kernel
theorem dX12_copy_70 : decode cX12_copy 70 = .ok (.i2l, 1) := by decide +kernel
theorem dX12_copy_71 : decode cX12_copy 71 = .ok (.iload 5, 2) := by decide +kernel
theorem dX12_copy_73 : decode cX12_copy 73 = .ok (.i2l, 1) := by decide +kernel
theorem dX12_copy_74 : decode cX12_copy 74 = .ok (.ladd, 1) := by decide +kernel
theorem dX12_copy_75 : decode cX12_copy 75 = .ok (.aload_n 0, 1) := by decide +kernel
theorem dX12_copy_76 : decode cX12_copy 76 = .ok (.getfield 141, 3) := by decide +kernel
theorem dX12_copy_79 : decode cX12_copy 79 = .ok (.iload_n 1, 1) := by decide +kernel
theorem dX12_copy_80 : decode cX12_copy 80 = .ok (.iaload, 1) := by decide +kernel
theorem dX12_copy_81 : decode cX12_copy 81 = .ok (.i2l, 1) := by decide +kernel
theorem dX12_copy_82 : decode cX12_copy 82 = .ok (.lcmp, 1) := by decide +kernel
theorem dX12_copy_83 : decode cX12_copy 83 = .ok (.ifCond .gt 21, 3) := by decide +kernel
theorem dX12_copy_86 : decode cX12_copy 86 = .ok (.iload 4, 2) := by decide +kernel
theorem dX12_copy_88 : decode cX12_copy 88 = .ok (.i2l, 1) := by decide +kernel
theorem dX12_copy_89 : decode cX12_copy 89 = .ok (.iload 5, 2) := by decide +kernel
theorem dX12_copy_91 : decode cX12_copy 91 = .ok (.i2l, 1) := by decide +kernel
theorem dX12_copy_92 : decode cX12_copy 92 = .ok (.ladd, 1) := by decide +kernel
theorem dX12_copy_93 : decode cX12_copy 93 = .ok (.aload_n 0, 1) := by decide +kernel
theorem dX12_copy_94 : decode cX12_copy 94 = .ok (.getfield 141, 3) := by decide +kernel
theorem dX12_copy_97 : decode cX12_copy 97 = .ok (.iload_n 3, 1) := by decide +kernel
theorem dX12_copy_98 : decode cX12_copy 98 = .ok (.iaload, 1) := by decide +kernel
theorem dX12_copy_99 : decode cX12_copy 99 = .ok (.i2l, 1) := by decide +kernel
theorem dX12_copy_100 : decode cX12_copy 100 = .ok (.lcmp, 1) := by decide +kernel
theorem dX12_copy_101 : decode cX12_copy 101 = .ok (.ifCond .le 6, 3) := by decide +kernel
theorem dX12_copy_104 : decode cX12_copy 104 = .ok (.bipush (-13), 2) := by decide +kernel
theorem dX12_copy_106 : decode cX12_copy 106 = .ok (.ireturn, 1) := by decide +kernel
theorem dX12_copy_107 : decode cX12_copy 107 = .ok (.iconst 0, 1) := by decide +kernel
theorem dX12_copy_108 : decode cX12_copy 108 = .ok (.istore 6, 2) := by decide +kernel
theorem dX12_copy_110 : decode cX12_copy 110 = .ok (.iload 6, 2) := by decide +kernel
theorem dX12_copy_112 : decode cX12_copy 112 = .ok (.iload 5, 2) := by decide +kernel
theorem dX12_copy_114 : decode cX12_copy 114 = .ok (.if_icmp .ge 30, 3) := by decide +kernel
theorem dX12_copy_117 : decode cX12_copy 117 = .ok (.aload_n 0, 1) := by decide +kernel
theorem dX12_copy_118 : decode cX12_copy 118 = .ok (.getfield 186, 3) := by decide +kernel
theorem dX12_copy_121 : decode cX12_copy 121 = .ok (.iload 6, 2) := by decide +kernel
theorem dX12_copy_123 : decode cX12_copy 123 = .ok (.aload_n 0, 1) := by decide +kernel
theorem dX12_copy_124 : decode cX12_copy 124 = .ok (.getfield 144, 3) := by decide +kernel
theorem dX12_copy_127 : decode cX12_copy 127 = .ok (.bipush 20, 2) := by decide +kernel
theorem dX12_copy_129 : decode cX12_copy 129 = .ok (.iload_n 1, 1) := by decide +kernel
theorem dX12_copy_130 : decode cX12_copy 130 = .ok (.imul, 1) := by decide +kernel
theorem dX12_copy_131 : decode cX12_copy 131 = .ok (.iload_n 2, 1) := by decide +kernel
theorem dX12_copy_132 : decode cX12_copy 132 = .ok (.iadd, 1) := by decide +kernel
theorem dX12_copy_133 : decode cX12_copy 133 = .ok (.iload 6, 2) := by decide +kernel
theorem dX12_copy_135 : decode cX12_copy 135 = .ok (.iadd, 1) := by decide +kernel
theorem dX12_copy_136 : decode cX12_copy 136 = .ok (.laload, 1) := by decide +kernel
theorem dX12_copy_137 : decode cX12_copy 137 = .ok (.lastore, 1) := by decide +kernel
theorem dX12_copy_138 : decode cX12_copy 138 = .ok (.iinc 6 1, 3) := by decide +kernel
theorem dX12_copy_141 : decode cX12_copy 141 = .ok (.goto (-31), 3) := by decide +kernel
theorem dX12_copy_144 : decode cX12_copy 144 = .ok (.iconst 0, 1) := by decide +kernel
theorem dX12_copy_145 : decode cX12_copy 145 = .ok (.istore 6, 2) := by decide +kernel
theorem dX12_copy_147 : decode cX12_copy 147 = .ok (.iload 6, 2) := by decide +kernel
theorem dX12_copy_149 : decode cX12_copy 149 = .ok (.iload 5, 2) := by decide +kernel
theorem dX12_copy_151 : decode cX12_copy 151 = .ok (.if_icmp .ge 31, 3) := by decide +kernel
theorem dX12_copy_154 : decode cX12_copy 154 = .ok (.aload_n 0, 1) := by decide +kernel
theorem dX12_copy_155 : decode cX12_copy 155 = .ok (.getfield 144, 3) := by decide +kernel
theorem dX12_copy_158 : decode cX12_copy 158 = .ok (.bipush 20, 2) := by decide +kernel
theorem dX12_copy_160 : decode cX12_copy 160 = .ok (.iload_n 3, 1) := by decide +kernel
theorem dX12_copy_161 : decode cX12_copy 161 = .ok (.imul, 1) := by decide +kernel
theorem dX12_copy_162 : decode cX12_copy 162 = .ok (.iload 4, 2) := by decide +kernel
theorem dX12_copy_164 : decode cX12_copy 164 = .ok (.iadd, 1) := by decide +kernel
theorem dX12_copy_165 : decode cX12_copy 165 = .ok (.iload 6, 2) := by decide +kernel
theorem dX12_copy_167 : decode cX12_copy 167 = .ok (.iadd, 1) := by decide +kernel
theorem dX12_copy_168 : decode cX12_copy 168 = .ok (.aload_n 0, 1) := by decide +kernel
theorem dX12_copy_169 : decode cX12_copy 169 = .ok (.getfield 186, 3) := by decide +kernel
theorem dX12_copy_172 : decode cX12_copy 172 = .ok (.iload 6, 2) := by decide +kernel
theorem dX12_copy_174 : decode cX12_copy 174 = .ok (.laload, 1) := by decide +kernel
theorem dX12_copy_175 : decode cX12_copy 175 = .ok (.lastore, 1) := by decide +kernel
theorem dX12_copy_176 : decode cX12_copy 176 = .ok (.iinc 6 1, 3) := by decide +kernel
theorem dX12_copy_179 : decode cX12_copy 179 = .ok (.goto (-32), 3) := by decide +kernel
theorem dX12_copy_182 : decode cX12_copy 182 = .ok (.iload 5, 2) := by decide +kernel
theorem dX12_copy_184 : decode cX12_copy 184 = .ok (.ireturn, 1) := by decide +kernel
set_option maxHeartbeats 4000000 in
set_option maxRecDepth 100000 in
theorem cn_X12_copy {l : Launch} {cA : Nat → ClassId} {ad : Nat → Nat} {D : va_G} {E : Nat → Nat} {A : Nat → Prop} {x1 : Int32} {x2 : Int32} {x3 : Int32} {x4 : Int32} {x5 : Int32} {s0 sr : SS} {rr : Int32} (hf : f_X12_copy x1 x2 x3 x4 x5 s0 = some (rr, sr)) : zCon Om Nm cA ad D E l yX12_copy cX12_copy 7 (some .int) 2 A [.ref (ad 0), .int x1, .int x2, .int x3, .int x4, .int x5] s0 (some (.int rr)) sr := by
  refine zstart (own := RX12) hOm (by decide) rfl (Nat.le_of_ble_eq_true rfl) ?_
  intro p e s m args below meth c X hP ls hl
  have hx := X.1
  have hb := X.2.1
  have hl : lv_has ls 7 [(0, .ref (ad 0)), (1, .int x1), (2, .int x2), (3, .int x3), (4, .int x4), (5, .int x5)] := hl
  have hS : va_S A s.heap s.heap [] := va_S.rf
  have hc_110 : ∀ (n110 : Nat) (x1 : Int32) (x2 : Int32) (x3 : Int32) (x4 : Int32) (x5 : Int32) (x6 : Int32) (s1 : SS) (H : Heap) (locs : List Loc) (ls : Array Slot), lv_has ls 7 [(0, .ref (ad 0)), (1, .int x1), (2, .int x2), (3, .int x3), (4, .int x4), (5, .int x5), (6, .int x6)] → va_P D ZCL (zw Om Nm cA ad s1) H → va_S A s.heap H locs → f_X12_copy_c110 n110 x1 x2 x3 x4 x5 x6 s1 = some (rr, sr) → W p l e (zrm 2) s m args below meth c H locs 0 0 (MQ below (zQc Om Nm cA ad D A (some (.int rr)) sr) args s 0 0 A) (F0 m 110 ls []) := by
    intro n110
    induction n110 with
    | zero =>
      intro x1 x2 x3 x4 x5 x6 s1 H locs ls hl hP hS hf
      rw [f_X12_copy_c110] at hf
      cases hf
    | succ n110 ih110 =>
      have hc_147 : ∀ (n147 : Nat) (x3 : Int32) (x4 : Int32) (x5 : Int32) (x6 : Int32) (s1 : SS) (H : Heap) (locs : List Loc) (ls : Array Slot), lv_has ls 7 [(0, .ref (ad 0)), (3, .int x3), (4, .int x4), (5, .int x5), (6, .int x6)] → va_P D ZCL (zw Om Nm cA ad s1) H → va_S A s.heap H locs → f_X12_copy_c147 n147 x3 x4 x5 x6 s1 = some (rr, sr) → W p l e (zrm 2) s m args below meth c H locs 0 0 (MQ below (zQc Om Nm cA ad D A (some (.int rr)) sr) args s 0 0 A) (F0 m 147 ls []) := by
        intro n147
        induction n147 with
        | zero =>
          intro x3 x4 x5 x6 s1 H locs ls hl hP hS hf
          rw [f_X12_copy_c147] at hf
          cases hf
        | succ n147 ih147 =>
          intro x3 x4 x5 x6 s1 H locs ls hl hP hS hf
          rw [f_X12_copy_c147] at hf
          refine lv_iload hx hb dX12_copy_147 (lv_at hl 4 rfl) ?_
          refine lv_iload hx hb dX12_copy_149 (lv_at hl 3 rfl) ?_
          refine zicmp_ge (tgt := 182) hx hb dX12_copy_151 (by decide) hf (fun hf => ?_) (fun hf => ?_)
          · refine lv_iload hx hb dX12_copy_182 (lv_at hl 3 rfl) ?_
            exact zret_i X hP hS hf rfl dX12_copy_184
          · refine lv_aload_n hx hb dX12_copy_154 rfl (lv_at hl 0 rfl) ?_
            refine gf_X12_144 X hP (k := 0) (q := 24) rfl dX12_copy_155 rfl ?_
            refine lv_bipush (v := 20) hx hb dX12_copy_158 (by decide) ?_
            refine lv_iload_n hx hb dX12_copy_160 rfl (lv_at hl 1 rfl) ?_
            refine lv_imul hx hb dX12_copy_161 ?_
            refine lv_iload hx hb dX12_copy_162 (lv_at hl 2 rfl) ?_
            refine lv_iadd hx hb dX12_copy_164 ?_
            refine lv_iload hx hb dX12_copy_165 (lv_at hl 4 rfl) ?_
            refine lv_iadd hx hb dX12_copy_167 ?_
            refine lv_aload_n hx hb dX12_copy_168 rfl (lv_at hl 0 rfl) ?_
            refine gf_X12_186 X hP (k := 0) (q := 39) rfl dX12_copy_169 rfl ?_
            refine lv_iload hx hb dX12_copy_172 (lv_at hl 4 rfl) ?_
            obtain ⟨g13, hf⟩ := zgd hf
            refine zald_l X hP (k := 39) (n := 20) (rs := []) rfl g13 dX12_copy_174 ?_
            obtain ⟨g14, hf⟩ := zgd hf
            refine zast_l X hP hS (k := 24) (n := 60) (rs := []) rfl g14 dX12_copy_175 (fun H locs hP hS => ?_)
            refine lv_iinc (v := (x6 + 1)) (lv' := [(6, .int (x6 + 1)), (0, .ref (ad 0)), (3, .int x3), (4, .int x4), (5, .int x5)]) hx hb dX12_copy_176 hl (k := 4) rfl rfl (by decide) rfl (fun ls hl => ?_)
            refine lv_goto (tgt := 147) hx hb dX12_copy_179 (by decide) ?_
            exact ih147 x3 x4 x5 (x6 + 1) (zSL s1 24 (((((20 : Int32) * x3) + x4) + x6)).toNatClampNeg (s1.2 39 (x6).toNatClampNeg)) _ _ _ (lv_sub hl [1, 2, 3, 4, 0] rfl) hP hS hf
      intro x1 x2 x3 x4 x5 x6 s1 H locs ls hl hP hS hf
      rw [f_X12_copy_c110] at hf
      refine lv_iload hx hb dX12_copy_110 (lv_at hl 6 rfl) ?_
      refine lv_iload hx hb dX12_copy_112 (lv_at hl 5 rfl) ?_
      refine zicmp_ge (tgt := 144) hx hb dX12_copy_114 (by decide) hf (fun hf => ?_) (fun hf => ?_)
      · refine lv_iconst (v := 0) hx hb dX12_copy_144 (by decide) ?_
        refine lv_istore (lv' := [(6, .int 0), (0, .ref (ad 0)), (1, .int x1), (2, .int x2), (3, .int x3), (4, .int x4), (5, .int x5)]) hx hb dX12_copy_145 hl (by decide) rfl (fun ls hl => ?_)
        exact hc_147 ZF x3 x4 x5 0 s1 _ _ _ (lv_sub hl [1, 4, 5, 6, 0] rfl) hP hS hf
      · refine lv_aload_n hx hb dX12_copy_117 rfl (lv_at hl 0 rfl) ?_
        refine gf_X12_186 X hP (k := 0) (q := 39) rfl dX12_copy_118 rfl ?_
        refine lv_iload hx hb dX12_copy_121 (lv_at hl 6 rfl) ?_
        refine lv_aload_n hx hb dX12_copy_123 rfl (lv_at hl 0 rfl) ?_
        refine gf_X12_144 X hP (k := 0) (q := 24) rfl dX12_copy_124 rfl ?_
        refine lv_bipush (v := 20) hx hb dX12_copy_127 (by decide) ?_
        refine lv_iload_n hx hb dX12_copy_129 rfl (lv_at hl 1 rfl) ?_
        refine lv_imul hx hb dX12_copy_130 ?_
        refine lv_iload_n hx hb dX12_copy_131 rfl (lv_at hl 2 rfl) ?_
        refine lv_iadd hx hb dX12_copy_132 ?_
        refine lv_iload hx hb dX12_copy_133 (lv_at hl 6 rfl) ?_
        refine lv_iadd hx hb dX12_copy_135 ?_
        obtain ⟨g15, hf⟩ := zgd hf
        refine zald_l X hP (k := 24) (n := 60) (rs := []) rfl g15 dX12_copy_136 ?_
        obtain ⟨g16, hf⟩ := zgd hf
        refine zast_l X hP hS (k := 39) (n := 20) (rs := []) rfl g16 dX12_copy_137 (fun H locs hP hS => ?_)
        refine lv_iinc (v := (x6 + 1)) (lv' := [(6, .int (x6 + 1)), (0, .ref (ad 0)), (1, .int x1), (2, .int x2), (3, .int x3), (4, .int x4), (5, .int x5)]) hx hb dX12_copy_138 hl (k := 6) rfl rfl (by decide) rfl (fun ls hl => ?_)
        refine lv_goto (tgt := 110) hx hb dX12_copy_141 (by decide) ?_
        exact ih110 x1 x2 x3 x4 x5 (x6 + 1) (zSL s1 39 (x6).toNatClampNeg (s1.2 24 (((((20 : Int32) * x1) + x2) + x6)).toNatClampNeg)) _ _ _ (lv_sub hl [1, 2, 3, 4, 5, 6, 0] rfl) hP hS hf
  rw [f_X12_copy] at hf
  refine lv_iload_n hx hb dX12_copy_0 rfl (lv_at hl 1 rfl) ?_
  obtain ⟨r1, s2, h3, hf⟩ := zbd_some hf
  refine zcallS X hP hS hl.1 (As := [.int x1]) (rest := []) (cn_X12_isList h3) cw_X12_isList ml_X12_275 (by decide) rfl rfl (Nat.le_of_ble_eq_true rfl) dX12_copy_1 (fun H locs hP hS => ?_)
  refine zif_eq (tgt := 14) hx hb dX12_copy_4 (by decide) hf (fun hf => ?_) (fun hf => ?_)
  · refine lv_iconst (v := (-1)) hx hb dX12_copy_14 (by decide) ?_
    exact zret_i X hP hS hf rfl dX12_copy_15
  · refine lv_iload_n hx hb dX12_copy_7 rfl (lv_at hl 3 rfl) ?_
    obtain ⟨r4, s5, h6, hf⟩ := zbd_some hf
    refine zcallS X hP hS hl.1 (As := [.int x3]) (rest := []) (cn_X12_isList h6) cw_X12_isList ml_X12_275 (by decide) rfl rfl (Nat.le_of_ble_eq_true rfl) dX12_copy_8 (fun H locs hP hS => ?_)
    refine zif_ne (tgt := 16) hx hb dX12_copy_11 (by decide) hf (fun hf => ?_) (fun hf => ?_)
    · refine lv_aload_n hx hb dX12_copy_16 rfl (lv_at hl 0 rfl) ?_
      refine gf_X12_138 X hP (k := 0) (q := 22) rfl dX12_copy_17 rfl ?_
      refine lv_iload_n hx hb dX12_copy_20 rfl (lv_at hl 1 rfl) ?_
      obtain ⟨g7, hf⟩ := zgd hf
      refine zald_i X hP (k := 22) (n := 3) (rs := []) rfl g7 dX12_copy_21 ?_
      refine zif_lt (tgt := 34) hx hb dX12_copy_22 (by decide) hf (fun hf => ?_) (fun hf => ?_)
      · refine lv_bipush (v := (-11)) hx hb dX12_copy_34 (by decide) ?_
        exact zret_i X hP hS hf rfl dX12_copy_36
      · refine lv_aload_n hx hb dX12_copy_25 rfl (lv_at hl 0 rfl) ?_
        refine gf_X12_138 X hP (k := 0) (q := 22) rfl dX12_copy_26 rfl ?_
        refine lv_iload_n hx hb dX12_copy_29 rfl (lv_at hl 3 rfl) ?_
        obtain ⟨g8, hf⟩ := zgd hf
        refine zald_i X hP (k := 22) (n := 3) (rs := []) rfl g8 dX12_copy_30 ?_
        refine zif_ge (tgt := 37) hx hb dX12_copy_31 (by decide) hf (fun hf => ?_) (fun hf => ?_)
        · refine lv_aload_n hx hb dX12_copy_37 rfl (lv_at hl 0 rfl) ?_
          refine gf_X12_138 X hP (k := 0) (q := 22) rfl dX12_copy_38 rfl ?_
          refine lv_iload_n hx hb dX12_copy_41 rfl (lv_at hl 1 rfl) ?_
          obtain ⟨g9, hf⟩ := zgd hf
          refine zald_i X hP (k := 22) (n := 3) (rs := []) rfl g9 dX12_copy_42 ?_
          refine lv_aload_n hx hb dX12_copy_43 rfl (lv_at hl 0 rfl) ?_
          refine gf_X12_138 X hP (k := 0) (q := 22) rfl dX12_copy_44 rfl ?_
          refine lv_iload_n hx hb dX12_copy_47 rfl (lv_at hl 3 rfl) ?_
          obtain ⟨g10, hf⟩ := zgd hf
          refine zald_i X hP (k := 22) (n := 3) (rs := []) rfl g10 dX12_copy_48 ?_
          refine zicmp_eq (tgt := 55) hx hb dX12_copy_49 (by decide) hf (fun hf => ?_) (fun hf => ?_)
          · refine lv_iload hx hb dX12_copy_55 (lv_at hl 5 rfl) ?_
            refine zif_lt (tgt := 104) hx hb dX12_copy_57 (by decide) hf (fun hf => ?_) (fun hf => ?_)
            · refine lv_bipush (v := (-13)) hx hb dX12_copy_104 (by decide) ?_
              exact zret_i X hP hS hf rfl dX12_copy_106
            · refine lv_iload_n hx hb dX12_copy_60 rfl (lv_at hl 2 rfl) ?_
              refine zif_lt (tgt := 104) hx hb dX12_copy_61 (by decide) hf (fun hf => ?_) (fun hf => ?_)
              · refine lv_bipush (v := (-13)) hx hb dX12_copy_104 (by decide) ?_
                exact zret_i X hP hS hf rfl dX12_copy_106
              · refine lv_iload hx hb dX12_copy_64 (lv_at hl 4 rfl) ?_
                refine zif_lt (tgt := 104) hx hb dX12_copy_66 (by decide) hf (fun hf => ?_) (fun hf => ?_)
                · refine lv_bipush (v := (-13)) hx hb dX12_copy_104 (by decide) ?_
                  exact zret_i X hP hS hf rfl dX12_copy_106
                · refine lv_iload_n hx hb dX12_copy_69 rfl (lv_at hl 2 rfl) ?_
                  refine lv_i2l hx hb dX12_copy_70 rfl ?_
                  refine lv_iload hx hb dX12_copy_71 (lv_at hl 5 rfl) ?_
                  refine lv_i2l hx hb dX12_copy_73 rfl ?_
                  refine lv_ladd hx hb dX12_copy_74 ?_
                  refine lv_aload_n hx hb dX12_copy_75 rfl (lv_at hl 0 rfl) ?_
                  refine gf_X12_141 X hP (k := 0) (q := 23) rfl dX12_copy_76 rfl ?_
                  refine lv_iload_n hx hb dX12_copy_79 rfl (lv_at hl 1 rfl) ?_
                  obtain ⟨g11, hf⟩ := zgd hf
                  refine zald_i X hP (k := 23) (n := 3) (rs := []) rfl g11 dX12_copy_80 ?_
                  refine lv_i2l hx hb dX12_copy_81 rfl ?_
                  refine W.lcmp hx hb dX12_copy_82 ?_
                  refine zif_gt (tgt := 104) hx hb dX12_copy_83 (by decide) hf (fun hf => ?_) (fun hf => ?_)
                  · refine lv_bipush (v := (-13)) hx hb dX12_copy_104 (by decide) ?_
                    exact zret_i X hP hS hf rfl dX12_copy_106
                  · refine lv_iload hx hb dX12_copy_86 (lv_at hl 4 rfl) ?_
                    refine lv_i2l hx hb dX12_copy_88 rfl ?_
                    refine lv_iload hx hb dX12_copy_89 (lv_at hl 5 rfl) ?_
                    refine lv_i2l hx hb dX12_copy_91 rfl ?_
                    refine lv_ladd hx hb dX12_copy_92 ?_
                    refine lv_aload_n hx hb dX12_copy_93 rfl (lv_at hl 0 rfl) ?_
                    refine gf_X12_141 X hP (k := 0) (q := 23) rfl dX12_copy_94 rfl ?_
                    refine lv_iload_n hx hb dX12_copy_97 rfl (lv_at hl 3 rfl) ?_
                    obtain ⟨g12, hf⟩ := zgd hf
                    refine zald_i X hP (k := 23) (n := 3) (rs := []) rfl g12 dX12_copy_98 ?_
                    refine lv_i2l hx hb dX12_copy_99 rfl ?_
                    refine W.lcmp hx hb dX12_copy_100 ?_
                    refine zif_le (tgt := 107) hx hb dX12_copy_101 (by decide) hf (fun hf => ?_) (fun hf => ?_)
                    · refine lv_iconst (v := 0) hx hb dX12_copy_107 (by decide) ?_
                      refine lv_istore (lv' := [(6, .int 0), (0, .ref (ad 0)), (1, .int x1), (2, .int x2), (3, .int x3), (4, .int x4), (5, .int x5)]) hx hb dX12_copy_108 hl (by decide) rfl (fun ls hl => ?_)
                      exact hc_110 ZF x1 x2 x3 x4 x5 0 s5 _ _ _ (lv_sub hl [1, 2, 3, 4, 5, 6, 0] rfl) hP hS hf
                    · refine lv_bipush (v := (-13)) hx hb dX12_copy_104 (by decide) ?_
                      exact zret_i X hP hS hf rfl dX12_copy_106
          · refine lv_bipush (v := (-12)) hx hb dX12_copy_52 (by decide) ?_
            exact zret_i X hP hS hf rfl dX12_copy_54
        · refine lv_bipush (v := (-11)) hx hb dX12_copy_34 (by decide) ?_
          exact zret_i X hP hS hf rfl dX12_copy_36
    · refine lv_iconst (v := (-1)) hx hb dX12_copy_14 (by decide) ?_
      exact zret_i X hP hS hf rfl dX12_copy_15
theorem dX12_begins_0 : decode cX12_begins 0 = .ok (.aload_n 0, 1) := by decide +kernel
theorem dX12_begins_1 : decode cX12_begins 1 = .ok (.getfield 429, 3) := by decide +kernel
theorem dX12_begins_4 : decode cX12_begins 4 = .ok (.bipush 24, 2) := by decide +kernel
theorem dX12_begins_6 : decode cX12_begins 6 = .ok (.if_icmp .ge 23, 3) := by decide +kernel
theorem dX12_begins_9 : decode cX12_begins 9 = .ok (.aload_n 0, 1) := by decide +kernel
theorem dX12_begins_10 : decode cX12_begins 10 = .ok (.getfield 147, 3) := by decide +kernel
theorem dX12_begins_13 : decode cX12_begins 13 = .ok (.aload_n 0, 1) := by decide +kernel
theorem dX12_begins_14 : decode cX12_begins 14 = .ok (.getfield 429, 3) := by decide +kernel
theorem dX12_begins_17 : decode cX12_begins 17 = .ok (.iload_n 1, 1) := by decide +kernel
theorem dX12_begins_18 : decode cX12_begins 18 = .ok (.iastore, 1) := by decide +kernel
theorem dX12_begins_19 : decode cX12_begins 19 = .ok (.aload_n 0, 1) := by decide +kernel
theorem dX12_begins_20 : decode cX12_begins 20 = .ok (.dup, 1) := by decide +kernel
theorem dX12_begins_21 : decode cX12_begins 21 = .ok (.getfield 429, 3) := by decide +kernel
theorem dX12_begins_24 : decode cX12_begins 24 = .ok (.iconst 1, 1) := by decide +kernel
theorem dX12_begins_25 : decode cX12_begins 25 = .ok (.iadd, 1) := by decide +kernel
theorem dX12_begins_26 : decode cX12_begins 26 = .ok (.putfield 429, 3) := by decide +kernel
theorem dX12_begins_29 : decode cX12_begins 29 = .ok (.return_, 1) := by decide +kernel
set_option maxHeartbeats 4000000 in
set_option maxRecDepth 100000 in
theorem cn_X12_begins {l : Launch} {cA : Nat → ClassId} {ad : Nat → Nat} {D : va_G} {E : Nat → Nat} {A : Nat → Prop} {x1 : Int32} {s0 sr : SS} {rr : Unit} (hf : f_X12_begins x1 s0 = some (rr, sr)) : zCon Om Nm cA ad D E l yX12_begins cX12_begins 2 none 0 A [.ref (ad 0), .int x1] s0 none sr := by
  refine zstart (own := RX12) hOm (by decide) rfl (Nat.le_of_ble_eq_true rfl) ?_
  intro p e s m args below meth c X hP ls hl
  have hx := X.1
  have hb := X.2.1
  have hl : lv_has ls 2 [(0, .ref (ad 0)), (1, .int x1)] := hl
  have hS : va_S A s.heap s.heap [] := va_S.rf
  rw [f_X12_begins] at hf
  refine lv_aload_n hx hb dX12_begins_0 rfl (lv_at hl 0 rfl) ?_
  refine gf_X12_429 X hP (k := 0) rfl dX12_begins_1 ?_
  refine lv_bipush (v := 24) hx hb dX12_begins_4 (by decide) ?_
  refine zicmp_ge (tgt := 29) hx hb dX12_begins_6 (by decide) hf (fun hf => ?_) (fun hf => ?_)
  · exact zret_v X hP hS hf dX12_begins_29
  · refine lv_aload_n hx hb dX12_begins_9 rfl (lv_at hl 0 rfl) ?_
    refine gf_X12_147 X hP (k := 0) (q := 25) rfl dX12_begins_10 rfl ?_
    refine lv_aload_n hx hb dX12_begins_13 rfl (lv_at hl 0 rfl) ?_
    refine gf_X12_429 X hP (k := 0) rfl dX12_begins_14 ?_
    refine lv_iload_n hx hb dX12_begins_17 rfl (lv_at hl 1 rfl) ?_
    obtain ⟨g1, hf⟩ := zgd hf
    refine zast_i X hP hS (k := 25) (n := 24) (rs := []) rfl g1 dX12_begins_18 (fun H locs hP hS => ?_)
    refine lv_aload_n hx hb dX12_begins_19 rfl (lv_at hl 0 rfl) ?_
    refine lv_dup hx hb dX12_begins_20 rfl ?_
    refine gf_X12_429 X hP (k := 0) rfl dX12_begins_21 ?_
    refine lv_iconst (v := 1) hx hb dX12_begins_24 (by decide) ?_
    refine lv_iadd hx hb dX12_begins_25 ?_
    refine pf_X12_429 X hP hS (k := 0) rfl dX12_begins_26 (fun H locs hP hS => ?_)
    exact zret_v X hP hS hf dX12_begins_29
