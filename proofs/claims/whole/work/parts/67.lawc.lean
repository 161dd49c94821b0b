set_option maxHeartbeats 4000000 in
set_option maxRecDepth 100000 in
theorem law_case_0 {p : Program} {l : Launch} {e : Env} {s : State} {m : MethodId} {below : List Frame} {meth : Method} {c : Code} {cA : Nat → ClassId} {D : va_G} {E : Nat → Nat} {b L : Nat} {xs : Nat → Int32} {adx adm : Nat → Nat} {I : SS → SS → Prop} (X : ZX Oz 0 cA adz D E (fun q => s.heap.size ≤ q) p s m #[Value.ref b] meth c code R_law 4 ret) (hst : zSteps I) (hX : va_X b L xs s s.heap) (hbl : b < s.heap.size) (hZx : zD (fun q => s.heap.size ≤ q) Nx adx) (hZm : zD (fun q => s.heap.size ≤ q) Nm adm) (hxm : ∀ i j, i < Nx → j < Nm → adx i ≠ adm j)
    {i : Nat} (hiL : i + 6 ≤ L) (hL : L ≤ 3072) {σ τ : SS} (hI : I σ τ) {H : Heap} {locs : List Loc} {ls : Array Slot} (hPx : va_P D ZCL (zw Ox Nx cA adx σ) H) (hPm : va_P D ZCL (zw Om Nm cA adm τ) H) (hS : va_S (fun q => s.heap.size ≤ q) s.heap H locs) (hl : lv_has ls 4 [(0, .ref b), (1, .ref (adx 0)), (2, .ref (adm 0)), (3, .int (nI i))])
    (hnext : ∀ (σ1 τ1 : SS), I σ1 τ1 → ∀ (H : Heap) (locs : List Loc) (ls : Array Slot), va_P D ZCL (zw Ox Nx cA adx σ1) H → va_P D ZCL (zw Om Nm cA adm τ1) H → va_S (fun q => s.heap.size ≤ q) s.heap H locs → lv_has ls 4 [(0, .ref b), (1, .ref (adx 0)), (2, .ref (adm 0)), (3, .int (nI i))] → W p l e room_1 s m #[Value.ref b] below meth c H locs 123 628996 (lw_Z below #[Value.ref b] s) (F0 m 1527 ls [])) : W p l e room_1 s m #[Value.ref b] below meth c H locs 123 628996 (lw_Z below #[Value.ref b] s) (F0 m 224 ls []) := by
  have hx := X.1
  have hb := X.2.1
  have hbA : ¬ (fun q : Nat => s.heap.size ≤ q) b := Nat.not_le.mpr hbl
  have hmx : ∀ i j, i < Nm → j < Nx → adm i ≠ adx j := fun i j hi hj h => hxm j i hj hi h.symm
  have hi1 : vp_in (nI i + 1) L := zvin (k := 1) hiL (by decide) hL
  have hi2 : vp_in (nI i + 2) L := zvin (k := 2) hiL (by decide) hL
  have hi3 : vp_in (nI i + 3) L := zvin (k := 3) hiL (by decide) hL
  refine lv_aload_n hx hb dL_law_224 rfl (lv_at hl 1 rfl) ?_
  refine lv_aload_n hx hb dL_law_225 rfl (lv_at hl 0 rfl) ?_
  refine lv_iload_n hx hb dL_law_226 rfl (lv_at hl 3 rfl) ?_
  refine lv_iconst (v := 1) hx hb dL_law_227 (by decide) ?_
  refine lv_iadd hx hb dL_law_228 ?_
  refine va_sld hx hb hX hbl hbA hS hi1 dL_law_229 ?_
  refine lv_aload_n hx hb dL_law_230 rfl (lv_at hl 0 rfl) ?_
  refine lv_iload_n hx hb dL_law_231 rfl (lv_at hl 3 rfl) ?_
  refine lv_iconst (v := 2) hx hb dL_law_232 (by decide) ?_
  refine lv_iadd hx hb dL_law_233 ?_
  refine va_sld hx hb hX hbl hbA hS hi2 dL_law_234 ?_
  refine lv_aload_n hx hb dL_law_235 rfl (lv_at hl 0 rfl) ?_
  refine lv_iload_n hx hb dL_law_236 rfl (lv_at hl 3 rfl) ?_
  refine lv_iconst (v := 3) hx hb dL_law_237 (by decide) ?_
  refine lv_iadd hx hb dL_law_238 ?_
  refine va_sld hx hb hX hbl hbA hS hi3 dL_law_239 ?_
  obtain ⟨r1, σ1, τ1, hf1, hf2, hI⟩ := hst.stproduct ((xs (nI i + 1).toNatClampNeg)) ((xs (nI i + 2).toNatClampNeg)) ((xs (nI i + 3).toNatClampNeg)) σ τ hI
  refine zcallL X hl.1 hPx hZx hPm hxm hS (As := [.int (xs (nI i + 1).toNatClampNeg), .int (xs (nI i + 2).toNatClampNeg), .int (xs (nI i + 3).toNatClampNeg)]) (rest := []) (cn_X11_product hf1) cw_X11_product zp_11 rfl (by decide) rfl ml_L_13 ⟨Nat.le_of_ble_eq_true rfl, Nat.le_of_ble_eq_true rfl⟩ ⟨Nat.le_of_ble_eq_true rfl, Nat.le_of_ble_eq_true rfl⟩ rfl rfl (Nat.le_of_ble_eq_true rfl) dL_law_240 hOx (fun H locs hPx hPm hS => ?_)
  refine lv_aload_n hx hb dL_law_243 rfl (lv_at hl 2 rfl) ?_
  refine lv_aload_n hx hb dL_law_244 rfl (lv_at hl 0 rfl) ?_
  refine lv_iload_n hx hb dL_law_245 rfl (lv_at hl 3 rfl) ?_
  refine lv_iconst (v := 1) hx hb dL_law_246 (by decide) ?_
  refine lv_iadd hx hb dL_law_247 ?_
  refine va_sld hx hb hX hbl hbA hS hi1 dL_law_248 ?_
  refine lv_aload_n hx hb dL_law_249 rfl (lv_at hl 0 rfl) ?_
  refine lv_iload_n hx hb dL_law_250 rfl (lv_at hl 3 rfl) ?_
  refine lv_iconst (v := 2) hx hb dL_law_251 (by decide) ?_
  refine lv_iadd hx hb dL_law_252 ?_
  refine va_sld hx hb hX hbl hbA hS hi2 dL_law_253 ?_
  refine lv_aload_n hx hb dL_law_254 rfl (lv_at hl 0 rfl) ?_
  refine lv_iload_n hx hb dL_law_255 rfl (lv_at hl 3 rfl) ?_
  refine lv_iconst (v := 3) hx hb dL_law_256 (by decide) ?_
  refine lv_iadd hx hb dL_law_257 ?_
  refine va_sld hx hb hX hbl hbA hS hi3 dL_law_258 ?_
  refine zcallL X hl.1 hPm hZm hPx hmx hS (As := [.int (xs (nI i + 1).toNatClampNeg), .int (xs (nI i + 2).toNatClampNeg), .int (xs (nI i + 3).toNatClampNeg)]) (rest := [.int r1]) (cn_X12_product hf2) cw_X12_product zp_12 rfl (by decide) rfl ml_L_17 ⟨Nat.le_of_ble_eq_true rfl, Nat.le_of_ble_eq_true rfl⟩ ⟨Nat.le_of_ble_eq_true rfl, Nat.le_of_ble_eq_true rfl⟩ rfl rfl (Nat.le_of_ble_eq_true rfl) dL_law_259 hOm (fun H locs hPm hPx hS => ?_)
  refine lv_icmp_eq (tgt := 1527) hx hb dL_law_262 (by decide) (fun _ => ?_) (fun z => absurd rfl z)
  exact hnext σ1 τ1 hI _ _ _ hPx hPm hS hl
set_option maxHeartbeats 4000000 in
set_option maxRecDepth 100000 in
theorem law_case_1 {p : Program} {l : Launch} {e : Env} {s : State} {m : MethodId} {below : List Frame} {meth : Method} {c : Code} {cA : Nat → ClassId} {D : va_G} {E : Nat → Nat} {b L : Nat} {xs : Nat → Int32} {adx adm : Nat → Nat} {I : SS → SS → Prop} (X : ZX Oz 0 cA adz D E (fun q => s.heap.size ≤ q) p s m #[Value.ref b] meth c code R_law 4 ret) (hst : zSteps I) (hX : va_X b L xs s s.heap) (hbl : b < s.heap.size) (hZx : zD (fun q => s.heap.size ≤ q) Nx adx) (hZm : zD (fun q => s.heap.size ≤ q) Nm adm) (hxm : ∀ i j, i < Nx → j < Nm → adx i ≠ adm j)
    {i : Nat} (hiL : i + 6 ≤ L) (hL : L ≤ 3072) {σ τ : SS} (hI : I σ τ) {H : Heap} {locs : List Loc} {ls : Array Slot} (hPx : va_P D ZCL (zw Ox Nx cA adx σ) H) (hPm : va_P D ZCL (zw Om Nm cA adm τ) H) (hS : va_S (fun q => s.heap.size ≤ q) s.heap H locs) (hl : lv_has ls 4 [(0, .ref b), (1, .ref (adx 0)), (2, .ref (adm 0)), (3, .int (nI i))])
    (hnext : ∀ (σ1 τ1 : SS), I σ1 τ1 → ∀ (H : Heap) (locs : List Loc) (ls : Array Slot), va_P D ZCL (zw Ox Nx cA adx σ1) H → va_P D ZCL (zw Om Nm cA adm τ1) H → va_S (fun q => s.heap.size ≤ q) s.heap H locs → lv_has ls 4 [(0, .ref b), (1, .ref (adx 0)), (2, .ref (adm 0)), (3, .int (nI i))] → W p l e room_1 s m #[Value.ref b] below meth c H locs 123 628996 (lw_Z below #[Value.ref b] s) (F0 m 1527 ls [])) : W p l e room_1 s m #[Value.ref b] below meth c H locs 123 628996 (lw_Z below #[Value.ref b] s) (F0 m 267 ls []) := by
  have hx := X.1
  have hb := X.2.1
  have hbA : ¬ (fun q : Nat => s.heap.size ≤ q) b := Nat.not_le.mpr hbl
  have hmx : ∀ i j, i < Nm → j < Nx → adm i ≠ adx j := fun i j hi hj h => hxm j i hj hi h.symm
  refine lv_aload_n hx hb dL_law_267 rfl (lv_at hl 1 rfl) ?_
  obtain ⟨r1, σ1, τ1, hf1, hf2, hI⟩ := hst.stblow  σ τ hI
  refine zcallL X hl.1 hPx hZx hPm hxm hS (As := []) (rest := []) (cn_X11_blow hf1) cw_X11_blow zp_11 rfl (by decide) rfl ml_L_18 ⟨Nat.le_of_ble_eq_true rfl, Nat.le_of_ble_eq_true rfl⟩ ⟨Nat.le_of_ble_eq_true rfl, Nat.le_of_ble_eq_true rfl⟩ rfl rfl (Nat.le_of_ble_eq_true rfl) dL_law_268 hOx (fun H locs hPx hPm hS => ?_)
  refine lv_aload_n hx hb dL_law_271 rfl (lv_at hl 2 rfl) ?_
  refine zcallL X hl.1 hPm hZm hPx hmx hS (As := []) (rest := [.int r1]) (cn_X12_blow hf2) cw_X12_blow zp_12 rfl (by decide) rfl ml_L_22 ⟨Nat.le_of_ble_eq_true rfl, Nat.le_of_ble_eq_true rfl⟩ ⟨Nat.le_of_ble_eq_true rfl, Nat.le_of_ble_eq_true rfl⟩ rfl rfl (Nat.le_of_ble_eq_true rfl) dL_law_272 hOm (fun H locs hPm hPx hS => ?_)
  refine lv_icmp_eq (tgt := 1527) hx hb dL_law_275 (by decide) (fun _ => ?_) (fun z => absurd rfl z)
  exact hnext σ1 τ1 hI _ _ _ hPx hPm hS hl
set_option maxHeartbeats 4000000 in
set_option maxRecDepth 100000 in
theorem law_case_2 {p : Program} {l : Launch} {e : Env} {s : State} {m : MethodId} {below : List Frame} {meth : Method} {c : Code} {cA : Nat → ClassId} {D : va_G} {E : Nat → Nat} {b L : Nat} {xs : Nat → Int32} {adx adm : Nat → Nat} {I : SS → SS → Prop} (X : ZX Oz 0 cA adz D E (fun q => s.heap.size ≤ q) p s m #[Value.ref b] meth c code R_law 4 ret) (hst : zSteps I) (hX : va_X b L xs s s.heap) (hbl : b < s.heap.size) (hZx : zD (fun q => s.heap.size ≤ q) Nx adx) (hZm : zD (fun q => s.heap.size ≤ q) Nm adm) (hxm : ∀ i j, i < Nx → j < Nm → adx i ≠ adm j)
    {i : Nat} (hiL : i + 6 ≤ L) (hL : L ≤ 3072) {σ τ : SS} (hI : I σ τ) {H : Heap} {locs : List Loc} {ls : Array Slot} (hPx : va_P D ZCL (zw Ox Nx cA adx σ) H) (hPm : va_P D ZCL (zw Om Nm cA adm τ) H) (hS : va_S (fun q => s.heap.size ≤ q) s.heap H locs) (hl : lv_has ls 4 [(0, .ref b), (1, .ref (adx 0)), (2, .ref (adm 0)), (3, .int (nI i))])
    (hnext : ∀ (σ1 τ1 : SS), I σ1 τ1 → ∀ (H : Heap) (locs : List Loc) (ls : Array Slot), va_P D ZCL (zw Ox Nx cA adx σ1) H → va_P D ZCL (zw Om Nm cA adm τ1) H → va_S (fun q => s.heap.size ≤ q) s.heap H locs → lv_has ls 4 [(0, .ref b), (1, .ref (adx 0)), (2, .ref (adm 0)), (3, .int (nI i))] → W p l e room_1 s m #[Value.ref b] below meth c H locs 123 628996 (lw_Z below #[Value.ref b] s) (F0 m 1527 ls [])) : W p l e room_1 s m #[Value.ref b] below meth c H locs 123 628996 (lw_Z below #[Value.ref b] s) (F0 m 280 ls []) := by
  have hx := X.1
  have hb := X.2.1
  have hbA : ¬ (fun q : Nat => s.heap.size ≤ q) b := Nat.not_le.mpr hbl
  have hmx : ∀ i j, i < Nm → j < Nx → adm i ≠ adx j := fun i j hi hj h => hxm j i hj hi h.symm
  refine lv_aload_n hx hb dL_law_280 rfl (lv_at hl 1 rfl) ?_
  obtain ⟨r1, σ1, τ1, hf1, hf2, hI⟩ := hst.stcurved  σ τ hI
  refine zcallL X hl.1 hPx hZx hPm hxm hS (As := []) (rest := []) (cn_X11_curved hf1) cw_X11_curved zp_11 rfl (by decide) rfl ml_L_23 ⟨Nat.le_of_ble_eq_true rfl, Nat.le_of_ble_eq_true rfl⟩ ⟨Nat.le_of_ble_eq_true rfl, Nat.le_of_ble_eq_true rfl⟩ rfl rfl (Nat.le_of_ble_eq_true rfl) dL_law_281 hOx (fun H locs hPx hPm hS => ?_)
  refine lv_aload_n hx hb dL_law_284 rfl (lv_at hl 2 rfl) ?_
  refine zcallL X hl.1 hPm hZm hPx hmx hS (As := []) (rest := [.int r1]) (cn_X12_curved hf2) cw_X12_curved zp_12 rfl (by decide) rfl ml_L_26 ⟨Nat.le_of_ble_eq_true rfl, Nat.le_of_ble_eq_true rfl⟩ ⟨Nat.le_of_ble_eq_true rfl, Nat.le_of_ble_eq_true rfl⟩ rfl rfl (Nat.le_of_ble_eq_true rfl) dL_law_285 hOm (fun H locs hPm hPx hS => ?_)
  refine lv_icmp_eq (tgt := 1527) hx hb dL_law_288 (by decide) (fun _ => ?_) (fun z => absurd rfl z)
  exact hnext σ1 τ1 hI _ _ _ hPx hPm hS hl
set_option maxHeartbeats 4000000 in
set_option maxRecDepth 100000 in
theorem law_case_3 {p : Program} {l : Launch} {e : Env} {s : State} {m : MethodId} {below : List Frame} {meth : Method} {c : Code} {cA : Nat → ClassId} {D : va_G} {E : Nat → Nat} {b L : Nat} {xs : Nat → Int32} {adx adm : Nat → Nat} {I : SS → SS → Prop} (X : ZX Oz 0 cA adz D E (fun q => s.heap.size ≤ q) p s m #[Value.ref b] meth c code R_law 4 ret) (hst : zSteps I) (hX : va_X b L xs s s.heap) (hbl : b < s.heap.size) (hZx : zD (fun q => s.heap.size ≤ q) Nx adx) (hZm : zD (fun q => s.heap.size ≤ q) Nm adm) (hxm : ∀ i j, i < Nx → j < Nm → adx i ≠ adm j)
    {i : Nat} (hiL : i + 6 ≤ L) (hL : L ≤ 3072) {σ τ : SS} (hI : I σ τ) {H : Heap} {locs : List Loc} {ls : Array Slot} (hPx : va_P D ZCL (zw Ox Nx cA adx σ) H) (hPm : va_P D ZCL (zw Om Nm cA adm τ) H) (hS : va_S (fun q => s.heap.size ≤ q) s.heap H locs) (hl : lv_has ls 4 [(0, .ref b), (1, .ref (adx 0)), (2, .ref (adm 0)), (3, .int (nI i))])
    (hnext : ∀ (σ1 τ1 : SS), I σ1 τ1 → ∀ (H : Heap) (locs : List Loc) (ls : Array Slot), va_P D ZCL (zw Ox Nx cA adx σ1) H → va_P D ZCL (zw Om Nm cA adm τ1) H → va_S (fun q => s.heap.size ≤ q) s.heap H locs → lv_has ls 4 [(0, .ref b), (1, .ref (adx 0)), (2, .ref (adm 0)), (3, .int (nI i))] → W p l e room_1 s m #[Value.ref b] below meth c H locs 123 628996 (lw_Z below #[Value.ref b] s) (F0 m 1527 ls [])) : W p l e room_1 s m #[Value.ref b] below meth c H locs 123 628996 (lw_Z below #[Value.ref b] s) (F0 m 293 ls []) := by
  have hx := X.1
  have hb := X.2.1
  have hbA : ¬ (fun q : Nat => s.heap.size ≤ q) b := Nat.not_le.mpr hbl
  have hmx : ∀ i j, i < Nm → j < Nx → adm i ≠ adx j := fun i j hi hj h => hxm j i hj hi h.symm
  have hi1 : vp_in (nI i + 1) L := zvin (k := 1) hiL (by decide) hL
  have hi2 : vp_in (nI i + 2) L := zvin (k := 2) hiL (by decide) hL
  refine lv_aload_n hx hb dL_law_293 rfl (lv_at hl 1 rfl) ?_
  refine lv_aload_n hx hb dL_law_294 rfl (lv_at hl 0 rfl) ?_
  refine lv_iload_n hx hb dL_law_295 rfl (lv_at hl 3 rfl) ?_
  refine lv_iconst (v := 1) hx hb dL_law_296 (by decide) ?_
  refine lv_iadd hx hb dL_law_297 ?_
  refine va_sld hx hb hX hbl hbA hS hi1 dL_law_298 ?_
  refine lv_aload_n hx hb dL_law_299 rfl (lv_at hl 0 rfl) ?_
  refine lv_iload_n hx hb dL_law_300 rfl (lv_at hl 3 rfl) ?_
  refine lv_iconst (v := 2) hx hb dL_law_301 (by decide) ?_
  refine lv_iadd hx hb dL_law_302 ?_
  refine va_sld hx hb hX hbl hbA hS hi2 dL_law_303 ?_
  obtain ⟨r1, σ1, τ1, hf1, hf2, hI⟩ := hst.stcurve ((xs (nI i + 1).toNatClampNeg)) ((xs (nI i + 2).toNatClampNeg)) σ τ hI
  refine zcallL X hl.1 hPx hZx hPm hxm hS (As := [.int (xs (nI i + 1).toNatClampNeg), .int (xs (nI i + 2).toNatClampNeg)]) (rest := []) (cn_X11_curve hf1) cw_X11_curve zp_11 rfl (by decide) rfl ml_L_27 ⟨Nat.le_of_ble_eq_true rfl, Nat.le_of_ble_eq_true rfl⟩ ⟨Nat.le_of_ble_eq_true rfl, Nat.le_of_ble_eq_true rfl⟩ rfl rfl (Nat.le_of_ble_eq_true rfl) dL_law_304 hOx (fun H locs hPx hPm hS => ?_)
  refine lv_aload_n hx hb dL_law_307 rfl (lv_at hl 2 rfl) ?_
  refine lv_aload_n hx hb dL_law_308 rfl (lv_at hl 0 rfl) ?_
  refine lv_iload_n hx hb dL_law_309 rfl (lv_at hl 3 rfl) ?_
  refine lv_iconst (v := 1) hx hb dL_law_310 (by decide) ?_
  refine lv_iadd hx hb dL_law_311 ?_
  refine va_sld hx hb hX hbl hbA hS hi1 dL_law_312 ?_
  refine lv_aload_n hx hb dL_law_313 rfl (lv_at hl 0 rfl) ?_
  refine lv_iload_n hx hb dL_law_314 rfl (lv_at hl 3 rfl) ?_
  refine lv_iconst (v := 2) hx hb dL_law_315 (by decide) ?_
  refine lv_iadd hx hb dL_law_316 ?_
  refine va_sld hx hb hX hbl hbA hS hi2 dL_law_317 ?_
  refine zcallL X hl.1 hPm hZm hPx hmx hS (As := [.int (xs (nI i + 1).toNatClampNeg), .int (xs (nI i + 2).toNatClampNeg)]) (rest := [.int r1]) (cn_X12_curve hf2) cw_X12_curve zp_12 rfl (by decide) rfl ml_L_31 ⟨Nat.le_of_ble_eq_true rfl, Nat.le_of_ble_eq_true rfl⟩ ⟨Nat.le_of_ble_eq_true rfl, Nat.le_of_ble_eq_true rfl⟩ rfl rfl (Nat.le_of_ble_eq_true rfl) dL_law_318 hOm (fun H locs hPm hPx hS => ?_)
  refine lv_icmp_eq (tgt := 1527) hx hb dL_law_321 (by decide) (fun _ => ?_) (fun z => absurd rfl z)
  exact hnext σ1 τ1 hI _ _ _ hPx hPm hS hl
set_option maxHeartbeats 4000000 in
set_option maxRecDepth 100000 in
theorem law_case_4 {p : Program} {l : Launch} {e : Env} {s : State} {m : MethodId} {below : List Frame} {meth : Method} {c : Code} {cA : Nat → ClassId} {D : va_G} {E : Nat → Nat} {b L : Nat} {xs : Nat → Int32} {adx adm : Nat → Nat} {I : SS → SS → Prop} (X : ZX Oz 0 cA adz D E (fun q => s.heap.size ≤ q) p s m #[Value.ref b] meth c code R_law 4 ret) (hst : zSteps I) (hX : va_X b L xs s s.heap) (hbl : b < s.heap.size) (hZx : zD (fun q => s.heap.size ≤ q) Nx adx) (hZm : zD (fun q => s.heap.size ≤ q) Nm adm) (hxm : ∀ i j, i < Nx → j < Nm → adx i ≠ adm j)
    {i : Nat} (hiL : i + 6 ≤ L) (hL : L ≤ 3072) {σ τ : SS} (hI : I σ τ) {H : Heap} {locs : List Loc} {ls : Array Slot} (hPx : va_P D ZCL (zw Ox Nx cA adx σ) H) (hPm : va_P D ZCL (zw Om Nm cA adm τ) H) (hS : va_S (fun q => s.heap.size ≤ q) s.heap H locs) (hl : lv_has ls 4 [(0, .ref b), (1, .ref (adx 0)), (2, .ref (adm 0)), (3, .int (nI i))])
    (hnext : ∀ (σ1 τ1 : SS), I σ1 τ1 → ∀ (H : Heap) (locs : List Loc) (ls : Array Slot), va_P D ZCL (zw Ox Nx cA adx σ1) H → va_P D ZCL (zw Om Nm cA adm τ1) H → va_S (fun q => s.heap.size ≤ q) s.heap H locs → lv_has ls 4 [(0, .ref b), (1, .ref (adx 0)), (2, .ref (adm 0)), (3, .int (nI i))] → W p l e room_1 s m #[Value.ref b] below meth c H locs 123 628996 (lw_Z below #[Value.ref b] s) (F0 m 1527 ls [])) : W p l e room_1 s m #[Value.ref b] below meth c H locs 123 628996 (lw_Z below #[Value.ref b] s) (F0 m 326 ls []) := by
  have hx := X.1
  have hb := X.2.1
  have hbA : ¬ (fun q : Nat => s.heap.size ≤ q) b := Nat.not_le.mpr hbl
  have hmx : ∀ i j, i < Nm → j < Nx → adm i ≠ adx j := fun i j hi hj h => hxm j i hj hi h.symm
  refine lv_aload_n hx hb dL_law_326 rfl (lv_at hl 1 rfl) ?_
  obtain ⟨r1, σ1, τ1, hf1, hf2, hI⟩ := hst.stconics  σ τ hI
  refine zcallL X hl.1 hPx hZx hPm hxm hS (As := []) (rest := []) (cn_X11_conics hf1) cw_X11_conics zp_11 rfl (by decide) rfl ml_L_32 ⟨Nat.le_of_ble_eq_true rfl, Nat.le_of_ble_eq_true rfl⟩ ⟨Nat.le_of_ble_eq_true rfl, Nat.le_of_ble_eq_true rfl⟩ rfl rfl (Nat.le_of_ble_eq_true rfl) dL_law_327 hOx (fun H locs hPx hPm hS => ?_)
  refine lv_aload_n hx hb dL_law_330 rfl (lv_at hl 2 rfl) ?_
  refine zcallL X hl.1 hPm hZm hPx hmx hS (As := []) (rest := [.int r1]) (cn_X12_conics hf2) cw_X12_conics zp_12 rfl (by decide) rfl ml_L_35 ⟨Nat.le_of_ble_eq_true rfl, Nat.le_of_ble_eq_true rfl⟩ ⟨Nat.le_of_ble_eq_true rfl, Nat.le_of_ble_eq_true rfl⟩ rfl rfl (Nat.le_of_ble_eq_true rfl) dL_law_331 hOm (fun H locs hPm hPx hS => ?_)
  refine lv_icmp_eq (tgt := 1527) hx hb dL_law_334 (by decide) (fun _ => ?_) (fun z => absurd rfl z)
  exact hnext σ1 τ1 hI _ _ _ hPx hPm hS hl
set_option maxHeartbeats 4000000 in
set_option maxRecDepth 100000 in
theorem law_case_5 {p : Program} {l : Launch} {e : Env} {s : State} {m : MethodId} {below : List Frame} {meth : Method} {c : Code} {cA : Nat → ClassId} {D : va_G} {E : Nat → Nat} {b L : Nat} {xs : Nat → Int32} {adx adm : Nat → Nat} {I : SS → SS → Prop} (X : ZX Oz 0 cA adz D E (fun q => s.heap.size ≤ q) p s m #[Value.ref b] meth c code R_law 4 ret) (hst : zSteps I) (hX : va_X b L xs s s.heap) (hbl : b < s.heap.size) (hZx : zD (fun q => s.heap.size ≤ q) Nx adx) (hZm : zD (fun q => s.heap.size ≤ q) Nm adm) (hxm : ∀ i j, i < Nx → j < Nm → adx i ≠ adm j)
    {i : Nat} (hiL : i + 6 ≤ L) (hL : L ≤ 3072) {σ τ : SS} (hI : I σ τ) {H : Heap} {locs : List Loc} {ls : Array Slot} (hPx : va_P D ZCL (zw Ox Nx cA adx σ) H) (hPm : va_P D ZCL (zw Om Nm cA adm τ) H) (hS : va_S (fun q => s.heap.size ≤ q) s.heap H locs) (hl : lv_has ls 4 [(0, .ref b), (1, .ref (adx 0)), (2, .ref (adm 0)), (3, .int (nI i))])
    (hnext : ∀ (σ1 τ1 : SS), I σ1 τ1 → ∀ (H : Heap) (locs : List Loc) (ls : Array Slot), va_P D ZCL (zw Ox Nx cA adx σ1) H → va_P D ZCL (zw Om Nm cA adm τ1) H → va_S (fun q => s.heap.size ≤ q) s.heap H locs → lv_has ls 4 [(0, .ref b), (1, .ref (adx 0)), (2, .ref (adm 0)), (3, .int (nI i))] → W p l e room_1 s m #[Value.ref b] below meth c H locs 123 628996 (lw_Z below #[Value.ref b] s) (F0 m 1527 ls [])) : W p l e room_1 s m #[Value.ref b] below meth c H locs 123 628996 (lw_Z below #[Value.ref b] s) (F0 m 339 ls []) := by
  have hx := X.1
  have hb := X.2.1
  have hbA : ¬ (fun q : Nat => s.heap.size ≤ q) b := Nat.not_le.mpr hbl
  have hmx : ∀ i j, i < Nm → j < Nx → adm i ≠ adx j := fun i j hi hj h => hxm j i hj hi h.symm
  have hi1 : vp_in (nI i + 1) L := zvin (k := 1) hiL (by decide) hL
  refine lv_aload_n hx hb dL_law_339 rfl (lv_at hl 1 rfl) ?_
  refine lv_aload_n hx hb dL_law_340 rfl (lv_at hl 0 rfl) ?_
  refine lv_iload_n hx hb dL_law_341 rfl (lv_at hl 3 rfl) ?_
  refine lv_iconst (v := 1) hx hb dL_law_342 (by decide) ?_
  refine lv_iadd hx hb dL_law_343 ?_
  refine va_sld hx hb hX hbl hbA hS hi1 dL_law_344 ?_
  obtain ⟨r1, σ1, τ1, hf1, hf2, hI⟩ := hst.stspace ((xs (nI i + 1).toNatClampNeg)) σ τ hI
  refine zcallL X hl.1 hPx hZx hPm hxm hS (As := [.int (xs (nI i + 1).toNatClampNeg)]) (rest := []) (cn_X11_space hf1) cw_X11_space zp_11 rfl (by decide) rfl ml_L_36 ⟨Nat.le_of_ble_eq_true rfl, Nat.le_of_ble_eq_true rfl⟩ ⟨Nat.le_of_ble_eq_true rfl, Nat.le_of_ble_eq_true rfl⟩ rfl rfl (Nat.le_of_ble_eq_true rfl) dL_law_345 hOx (fun H locs hPx hPm hS => ?_)
  refine lv_aload_n hx hb dL_law_348 rfl (lv_at hl 2 rfl) ?_
  refine lv_aload_n hx hb dL_law_349 rfl (lv_at hl 0 rfl) ?_
  refine lv_iload_n hx hb dL_law_350 rfl (lv_at hl 3 rfl) ?_
  refine lv_iconst (v := 1) hx hb dL_law_351 (by decide) ?_
  refine lv_iadd hx hb dL_law_352 ?_
  refine va_sld hx hb hX hbl hbA hS hi1 dL_law_353 ?_
  refine zcallL X hl.1 hPm hZm hPx hmx hS (As := [.int (xs (nI i + 1).toNatClampNeg)]) (rest := [.int r1]) (cn_X12_space hf2) cw_X12_space zp_12 rfl (by decide) rfl ml_L_40 ⟨Nat.le_of_ble_eq_true rfl, Nat.le_of_ble_eq_true rfl⟩ ⟨Nat.le_of_ble_eq_true rfl, Nat.le_of_ble_eq_true rfl⟩ rfl rfl (Nat.le_of_ble_eq_true rfl) dL_law_354 hOm (fun H locs hPm hPx hS => ?_)
  refine lv_icmp_eq (tgt := 1527) hx hb dL_law_357 (by decide) (fun _ => ?_) (fun z => absurd rfl z)
  exact hnext σ1 τ1 hI _ _ _ hPx hPm hS hl
set_option maxHeartbeats 4000000 in
set_option maxRecDepth 100000 in
theorem law_case_6 {p : Program} {l : Launch} {e : Env} {s : State} {m : MethodId} {below : List Frame} {meth : Method} {c : Code} {cA : Nat → ClassId} {D : va_G} {E : Nat → Nat} {b L : Nat} {xs : Nat → Int32} {adx adm : Nat → Nat} {I : SS → SS → Prop} (X : ZX Oz 0 cA adz D E (fun q => s.heap.size ≤ q) p s m #[Value.ref b] meth c code R_law 4 ret) (hst : zSteps I) (hX : va_X b L xs s s.heap) (hbl : b < s.heap.size) (hZx : zD (fun q => s.heap.size ≤ q) Nx adx) (hZm : zD (fun q => s.heap.size ≤ q) Nm adm) (hxm : ∀ i j, i < Nx → j < Nm → adx i ≠ adm j)
    {i : Nat} (hiL : i + 6 ≤ L) (hL : L ≤ 3072) {σ τ : SS} (hI : I σ τ) {H : Heap} {locs : List Loc} {ls : Array Slot} (hPx : va_P D ZCL (zw Ox Nx cA adx σ) H) (hPm : va_P D ZCL (zw Om Nm cA adm τ) H) (hS : va_S (fun q => s.heap.size ≤ q) s.heap H locs) (hl : lv_has ls 4 [(0, .ref b), (1, .ref (adx 0)), (2, .ref (adm 0)), (3, .int (nI i))])
    (hnext : ∀ (σ1 τ1 : SS), I σ1 τ1 → ∀ (H : Heap) (locs : List Loc) (ls : Array Slot), va_P D ZCL (zw Ox Nx cA adx σ1) H → va_P D ZCL (zw Om Nm cA adm τ1) H → va_S (fun q => s.heap.size ≤ q) s.heap H locs → lv_has ls 4 [(0, .ref b), (1, .ref (adx 0)), (2, .ref (adm 0)), (3, .int (nI i))] → W p l e room_1 s m #[Value.ref b] below meth c H locs 123 628996 (lw_Z below #[Value.ref b] s) (F0 m 1527 ls [])) : W p l e room_1 s m #[Value.ref b] below meth c H locs 123 628996 (lw_Z below #[Value.ref b] s) (F0 m 362 ls []) := by
  have hx := X.1
  have hb := X.2.1
  have hbA : ¬ (fun q : Nat => s.heap.size ≤ q) b := Nat.not_le.mpr hbl
  have hmx : ∀ i j, i < Nm → j < Nx → adm i ≠ adx j := fun i j hi hj h => hxm j i hj hi h.symm
  have hi1 : vp_in (nI i + 1) L := zvin (k := 1) hiL (by decide) hL
  refine lv_aload_n hx hb dL_law_362 rfl (lv_at hl 1 rfl) ?_
  refine lv_aload_n hx hb dL_law_363 rfl (lv_at hl 0 rfl) ?_
  refine lv_iload_n hx hb dL_law_364 rfl (lv_at hl 3 rfl) ?_
  refine lv_iconst (v := 1) hx hb dL_law_365 (by decide) ?_
  refine lv_iadd hx hb dL_law_366 ?_
  refine va_sld hx hb hX hbl hbA hS hi1 dL_law_367 ?_
  obtain ⟨r1, σ1, τ1, hf1, hf2, hI⟩ := hst.stworth ((xs (nI i + 1).toNatClampNeg)) σ τ hI
  refine zcallL X hl.1 hPx hZx hPm hxm hS (As := [.int (xs (nI i + 1).toNatClampNeg)]) (rest := []) (cn_X11_worth hf1) cw_X11_worth zp_11 rfl (by decide) rfl ml_L_41 ⟨Nat.le_of_ble_eq_true rfl, Nat.le_of_ble_eq_true rfl⟩ ⟨Nat.le_of_ble_eq_true rfl, Nat.le_of_ble_eq_true rfl⟩ rfl rfl (Nat.le_of_ble_eq_true rfl) dL_law_368 hOx (fun H locs hPx hPm hS => ?_)
  refine lv_aload_n hx hb dL_law_371 rfl (lv_at hl 2 rfl) ?_
  refine lv_aload_n hx hb dL_law_372 rfl (lv_at hl 0 rfl) ?_
  refine lv_iload_n hx hb dL_law_373 rfl (lv_at hl 3 rfl) ?_
  refine lv_iconst (v := 1) hx hb dL_law_374 (by decide) ?_
  refine lv_iadd hx hb dL_law_375 ?_
  refine va_sld hx hb hX hbl hbA hS hi1 dL_law_376 ?_
  refine zcallL X hl.1 hPm hZm hPx hmx hS (As := [.int (xs (nI i + 1).toNatClampNeg)]) (rest := [.long r1]) (cn_X12_worth hf2) cw_X12_worth zp_12 rfl (by decide) rfl ml_L_45 ⟨Nat.le_of_ble_eq_true rfl, Nat.le_of_ble_eq_true rfl⟩ ⟨Nat.le_of_ble_eq_true rfl, Nat.le_of_ble_eq_true rfl⟩ rfl rfl (Nat.le_of_ble_eq_true rfl) dL_law_377 hOm (fun H locs hPm hPx hS => ?_)
  refine W.lcmp hx hb dL_law_380 ?_
  refine lv_if_eq (tgt := 1527) hx hb dL_law_381 (by decide) (fun _ => ?_) (fun z => absurd (by simp [lg_cmp]) z)
  exact hnext σ1 τ1 hI _ _ _ hPx hPm hS hl
set_option maxHeartbeats 4000000 in
set_option maxRecDepth 100000 in
theorem law_case_7 {p : Program} {l : Launch} {e : Env} {s : State} {m : MethodId} {below : List Frame} {meth : Method} {c : Code} {cA : Nat → ClassId} {D : va_G} {E : Nat → Nat} {b L : Nat} {xs : Nat → Int32} {adx adm : Nat → Nat} {I : SS → SS → Prop} (X : ZX Oz 0 cA adz D E (fun q => s.heap.size ≤ q) p s m #[Value.ref b] meth c code R_law 4 ret) (hst : zSteps I) (hX : va_X b L xs s s.heap) (hbl : b < s.heap.size) (hZx : zD (fun q => s.heap.size ≤ q) Nx adx) (hZm : zD (fun q => s.heap.size ≤ q) Nm adm) (hxm : ∀ i j, i < Nx → j < Nm → adx i ≠ adm j)
    {i : Nat} (hiL : i + 6 ≤ L) (hL : L ≤ 3072) {σ τ : SS} (hI : I σ τ) {H : Heap} {locs : List Loc} {ls : Array Slot} (hPx : va_P D ZCL (zw Ox Nx cA adx σ) H) (hPm : va_P D ZCL (zw Om Nm cA adm τ) H) (hS : va_S (fun q => s.heap.size ≤ q) s.heap H locs) (hl : lv_has ls 4 [(0, .ref b), (1, .ref (adx 0)), (2, .ref (adm 0)), (3, .int (nI i))])
    (hnext : ∀ (σ1 τ1 : SS), I σ1 τ1 → ∀ (H : Heap) (locs : List Loc) (ls : Array Slot), va_P D ZCL (zw Ox Nx cA adx σ1) H → va_P D ZCL (zw Om Nm cA adm τ1) H → va_S (fun q => s.heap.size ≤ q) s.heap H locs → lv_has ls 4 [(0, .ref b), (1, .ref (adx 0)), (2, .ref (adm 0)), (3, .int (nI i))] → W p l e room_1 s m #[Value.ref b] below meth c H locs 123 628996 (lw_Z below #[Value.ref b] s) (F0 m 1527 ls [])) : W p l e room_1 s m #[Value.ref b] below meth c H locs 123 628996 (lw_Z below #[Value.ref b] s) (F0 m 386 ls []) := by
  have hx := X.1
  have hb := X.2.1
  have hbA : ¬ (fun q : Nat => s.heap.size ≤ q) b := Nat.not_le.mpr hbl
  have hmx : ∀ i j, i < Nm → j < Nx → adm i ≠ adx j := fun i j hi hj h => hxm j i hj hi h.symm
  have hi1 : vp_in (nI i + 1) L := zvin (k := 1) hiL (by decide) hL
  refine lv_aload_n hx hb dL_law_386 rfl (lv_at hl 1 rfl) ?_
  refine lv_aload_n hx hb dL_law_387 rfl (lv_at hl 0 rfl) ?_
  refine lv_iload_n hx hb dL_law_388 rfl (lv_at hl 3 rfl) ?_
  refine lv_iconst (v := 1) hx hb dL_law_389 (by decide) ?_
  refine lv_iadd hx hb dL_law_390 ?_
  refine va_sld hx hb hX hbl hbA hS hi1 dL_law_391 ?_
  obtain ⟨r1, σ1, τ1, hf1, hf2, hI⟩ := hst.stterm ((xs (nI i + 1).toNatClampNeg)) σ τ hI
  refine zcallL X hl.1 hPx hZx hPm hxm hS (As := [.int (xs (nI i + 1).toNatClampNeg)]) (rest := []) (cn_X11_term hf1) cw_X11_term zp_11 rfl (by decide) rfl ml_L_46 ⟨Nat.le_of_ble_eq_true rfl, Nat.le_of_ble_eq_true rfl⟩ ⟨Nat.le_of_ble_eq_true rfl, Nat.le_of_ble_eq_true rfl⟩ rfl rfl (Nat.le_of_ble_eq_true rfl) dL_law_392 hOx (fun H locs hPx hPm hS => ?_)
  refine lv_aload_n hx hb dL_law_395 rfl (lv_at hl 2 rfl) ?_
  refine lv_aload_n hx hb dL_law_396 rfl (lv_at hl 0 rfl) ?_
  refine lv_iload_n hx hb dL_law_397 rfl (lv_at hl 3 rfl) ?_
  refine lv_iconst (v := 1) hx hb dL_law_398 (by decide) ?_
  refine lv_iadd hx hb dL_law_399 ?_
  refine va_sld hx hb hX hbl hbA hS hi1 dL_law_400 ?_
  refine zcallL X hl.1 hPm hZm hPx hmx hS (As := [.int (xs (nI i + 1).toNatClampNeg)]) (rest := [.int r1]) (cn_X12_term hf2) cw_X12_term zp_12 rfl (by decide) rfl ml_L_49 ⟨Nat.le_of_ble_eq_true rfl, Nat.le_of_ble_eq_true rfl⟩ ⟨Nat.le_of_ble_eq_true rfl, Nat.le_of_ble_eq_true rfl⟩ rfl rfl (Nat.le_of_ble_eq_true rfl) dL_law_401 hOm (fun H locs hPm hPx hS => ?_)
  refine lv_icmp_eq (tgt := 1527) hx hb dL_law_404 (by decide) (fun _ => ?_) (fun z => absurd rfl z)
  exact hnext σ1 τ1 hI _ _ _ hPx hPm hS hl
set_option maxHeartbeats 4000000 in
set_option maxRecDepth 100000 in
theorem law_case_8 {p : Program} {l : Launch} {e : Env} {s : State} {m : MethodId} {below : List Frame} {meth : Method} {c : Code} {cA : Nat → ClassId} {D : va_G} {E : Nat → Nat} {b L : Nat} {xs : Nat → Int32} {adx adm : Nat → Nat} {I : SS → SS → Prop} (X : ZX Oz 0 cA adz D E (fun q => s.heap.size ≤ q) p s m #[Value.ref b] meth c code R_law 4 ret) (hst : zSteps I) (hX : va_X b L xs s s.heap) (hbl : b < s.heap.size) (hZx : zD (fun q => s.heap.size ≤ q) Nx adx) (hZm : zD (fun q => s.heap.size ≤ q) Nm adm) (hxm : ∀ i j, i < Nx → j < Nm → adx i ≠ adm j)
    {i : Nat} (hiL : i + 6 ≤ L) (hL : L ≤ 3072) {σ τ : SS} (hI : I σ τ) {H : Heap} {locs : List Loc} {ls : Array Slot} (hPx : va_P D ZCL (zw Ox Nx cA adx σ) H) (hPm : va_P D ZCL (zw Om Nm cA adm τ) H) (hS : va_S (fun q => s.heap.size ≤ q) s.heap H locs) (hl : lv_has ls 4 [(0, .ref b), (1, .ref (adx 0)), (2, .ref (adm 0)), (3, .int (nI i))])
    (hnext : ∀ (σ1 τ1 : SS), I σ1 τ1 → ∀ (H : Heap) (locs : List Loc) (ls : Array Slot), va_P D ZCL (zw Ox Nx cA adx σ1) H → va_P D ZCL (zw Om Nm cA adm τ1) H → va_S (fun q => s.heap.size ≤ q) s.heap H locs → lv_has ls 4 [(0, .ref b), (1, .ref (adx 0)), (2, .ref (adm 0)), (3, .int (nI i))] → W p l e room_1 s m #[Value.ref b] below meth c H locs 123 628996 (lw_Z below #[Value.ref b] s) (F0 m 1527 ls [])) : W p l e room_1 s m #[Value.ref b] below meth c H locs 123 628996 (lw_Z below #[Value.ref b] s) (F0 m 409 ls []) := by
  have hx := X.1
  have hb := X.2.1
  have hbA : ¬ (fun q : Nat => s.heap.size ≤ q) b := Nat.not_le.mpr hbl
  have hmx : ∀ i j, i < Nm → j < Nx → adm i ≠ adx j := fun i j hi hj h => hxm j i hj hi h.symm
  have hi1 : vp_in (nI i + 1) L := zvin (k := 1) hiL (by decide) hL
  have hi2 : vp_in (nI i + 2) L := zvin (k := 2) hiL (by decide) hL
  have hi3 : vp_in (nI i + 3) L := zvin (k := 3) hiL (by decide) hL
  refine lv_aload_n hx hb dL_law_409 rfl (lv_at hl 1 rfl) ?_
  refine lv_aload_n hx hb dL_law_410 rfl (lv_at hl 0 rfl) ?_
  refine lv_iload_n hx hb dL_law_411 rfl (lv_at hl 3 rfl) ?_
  refine lv_iconst (v := 1) hx hb dL_law_412 (by decide) ?_
  refine lv_iadd hx hb dL_law_413 ?_
  refine va_sld hx hb hX hbl hbA hS hi1 dL_law_414 ?_
  refine lv_aload_n hx hb dL_law_415 rfl (lv_at hl 0 rfl) ?_
  refine lv_iload_n hx hb dL_law_416 rfl (lv_at hl 3 rfl) ?_
  refine lv_iconst (v := 2) hx hb dL_law_417 (by decide) ?_
  refine lv_iadd hx hb dL_law_418 ?_
  refine va_sld hx hb hX hbl hbA hS hi2 dL_law_419 ?_
  refine lv_aload_n hx hb dL_law_420 rfl (lv_at hl 0 rfl) ?_
  refine lv_iload_n hx hb dL_law_421 rfl (lv_at hl 3 rfl) ?_
  refine lv_iconst (v := 3) hx hb dL_law_422 (by decide) ?_
  refine lv_iadd hx hb dL_law_423 ?_
  refine va_sld hx hb hX hbl hbA hS hi3 dL_law_424 ?_
  obtain ⟨r1, σ1, τ1, hf1, hf2, hI⟩ := hst.stset ((xs (nI i + 1).toNatClampNeg)) ((xs (nI i + 2).toNatClampNeg)) ((xs (nI i + 3).toNatClampNeg)) σ τ hI
  refine zcallL X hl.1 hPx hZx hPm hxm hS (As := [.int (xs (nI i + 1).toNatClampNeg), .int (xs (nI i + 2).toNatClampNeg), .int (xs (nI i + 3).toNatClampNeg)]) (rest := []) (cn_X11_set hf1) cw_X11_set zp_11 rfl (by decide) rfl ml_L_50 ⟨Nat.le_of_ble_eq_true rfl, Nat.le_of_ble_eq_true rfl⟩ ⟨Nat.le_of_ble_eq_true rfl, Nat.le_of_ble_eq_true rfl⟩ rfl rfl (Nat.le_of_ble_eq_true rfl) dL_law_425 hOx (fun H locs hPx hPm hS => ?_)
  refine lv_aload_n hx hb dL_law_428 rfl (lv_at hl 2 rfl) ?_
  refine lv_aload_n hx hb dL_law_429 rfl (lv_at hl 0 rfl) ?_
  refine lv_iload_n hx hb dL_law_430 rfl (lv_at hl 3 rfl) ?_
  refine lv_iconst (v := 1) hx hb dL_law_431 (by decide) ?_
  refine lv_iadd hx hb dL_law_432 ?_
  refine va_sld hx hb hX hbl hbA hS hi1 dL_law_433 ?_
  refine lv_aload_n hx hb dL_law_434 rfl (lv_at hl 0 rfl) ?_
  refine lv_iload_n hx hb dL_law_435 rfl (lv_at hl 3 rfl) ?_
  refine lv_iconst (v := 2) hx hb dL_law_436 (by decide) ?_
  refine lv_iadd hx hb dL_law_437 ?_
  refine va_sld hx hb hX hbl hbA hS hi2 dL_law_438 ?_
  refine lv_aload_n hx hb dL_law_439 rfl (lv_at hl 0 rfl) ?_
  refine lv_iload_n hx hb dL_law_440 rfl (lv_at hl 3 rfl) ?_
  refine lv_iconst (v := 3) hx hb dL_law_441 (by decide) ?_
  refine lv_iadd hx hb dL_law_442 ?_
  refine va_sld hx hb hX hbl hbA hS hi3 dL_law_443 ?_
  refine zcallL X hl.1 hPm hZm hPx hmx hS (As := [.int (xs (nI i + 1).toNatClampNeg), .int (xs (nI i + 2).toNatClampNeg), .int (xs (nI i + 3).toNatClampNeg)]) (rest := [.int r1]) (cn_X12_set hf2) cw_X12_set zp_12 rfl (by decide) rfl ml_L_53 ⟨Nat.le_of_ble_eq_true rfl, Nat.le_of_ble_eq_true rfl⟩ ⟨Nat.le_of_ble_eq_true rfl, Nat.le_of_ble_eq_true rfl⟩ rfl rfl (Nat.le_of_ble_eq_true rfl) dL_law_444 hOm (fun H locs hPm hPx hS => ?_)
  refine lv_icmp_eq (tgt := 1527) hx hb dL_law_447 (by decide) (fun _ => ?_) (fun z => absurd rfl z)
  exact hnext σ1 τ1 hI _ _ _ hPx hPm hS hl
set_option maxHeartbeats 4000000 in
set_option maxRecDepth 100000 in
theorem law_case_9 {p : Program} {l : Launch} {e : Env} {s : State} {m : MethodId} {below : List Frame} {meth : Method} {c : Code} {cA : Nat → ClassId} {D : va_G} {E : Nat → Nat} {b L : Nat} {xs : Nat → Int32} {adx adm : Nat → Nat} {I : SS → SS → Prop} (X : ZX Oz 0 cA adz D E (fun q => s.heap.size ≤ q) p s m #[Value.ref b] meth c code R_law 4 ret) (hst : zSteps I) (hX : va_X b L xs s s.heap) (hbl : b < s.heap.size) (hZx : zD (fun q => s.heap.size ≤ q) Nx adx) (hZm : zD (fun q => s.heap.size ≤ q) Nm adm) (hxm : ∀ i j, i < Nx → j < Nm → adx i ≠ adm j)
    {i : Nat} (hiL : i + 6 ≤ L) (hL : L ≤ 3072) {σ τ : SS} (hI : I σ τ) {H : Heap} {locs : List Loc} {ls : Array Slot} (hPx : va_P D ZCL (zw Ox Nx cA adx σ) H) (hPm : va_P D ZCL (zw Om Nm cA adm τ) H) (hS : va_S (fun q => s.heap.size ≤ q) s.heap H locs) (hl : lv_has ls 4 [(0, .ref b), (1, .ref (adx 0)), (2, .ref (adm 0)), (3, .int (nI i))])
    (hnext : ∀ (σ1 τ1 : SS), I σ1 τ1 → ∀ (H : Heap) (locs : List Loc) (ls : Array Slot), va_P D ZCL (zw Ox Nx cA adx σ1) H → va_P D ZCL (zw Om Nm cA adm τ1) H → va_S (fun q => s.heap.size ≤ q) s.heap H locs → lv_has ls 4 [(0, .ref b), (1, .ref (adx 0)), (2, .ref (adm 0)), (3, .int (nI i))] → W p l e room_1 s m #[Value.ref b] below meth c H locs 123 628996 (lw_Z below #[Value.ref b] s) (F0 m 1527 ls [])) : W p l e room_1 s m #[Value.ref b] below meth c H locs 123 628996 (lw_Z below #[Value.ref b] s) (F0 m 452 ls []) := by
  have hx := X.1
  have hb := X.2.1
  have hbA : ¬ (fun q : Nat => s.heap.size ≤ q) b := Nat.not_le.mpr hbl
  have hmx : ∀ i j, i < Nm → j < Nx → adm i ≠ adx j := fun i j hi hj h => hxm j i hj hi h.symm
  have hi1 : vp_in (nI i + 1) L := zvin (k := 1) hiL (by decide) hL
  have hi2 : vp_in (nI i + 2) L := zvin (k := 2) hiL (by decide) hL
  have hi3 : vp_in (nI i + 3) L := zvin (k := 3) hiL (by decide) hL
  have hi4 : vp_in (nI i + 4) L := zvin (k := 4) hiL (by decide) hL
  refine lv_aload_n hx hb dL_law_452 rfl (lv_at hl 1 rfl) ?_
  refine lv_aload_n hx hb dL_law_453 rfl (lv_at hl 0 rfl) ?_
  refine lv_iload_n hx hb dL_law_454 rfl (lv_at hl 3 rfl) ?_
  refine lv_iconst (v := 1) hx hb dL_law_455 (by decide) ?_
  refine lv_iadd hx hb dL_law_456 ?_
  refine va_sld hx hb hX hbl hbA hS hi1 dL_law_457 ?_
  refine lv_aload_n hx hb dL_law_458 rfl (lv_at hl 0 rfl) ?_
  refine lv_iload_n hx hb dL_law_459 rfl (lv_at hl 3 rfl) ?_
  refine lv_iconst (v := 2) hx hb dL_law_460 (by decide) ?_
  refine lv_iadd hx hb dL_law_461 ?_
  refine va_sld hx hb hX hbl hbA hS hi2 dL_law_462 ?_
  refine lv_aload_n hx hb dL_law_463 rfl (lv_at hl 0 rfl) ?_
  refine lv_iload_n hx hb dL_law_464 rfl (lv_at hl 3 rfl) ?_
  refine lv_iconst (v := 3) hx hb dL_law_465 (by decide) ?_
  refine lv_iadd hx hb dL_law_466 ?_
  refine va_sld hx hb hX hbl hbA hS hi3 dL_law_467 ?_
  refine lv_i2l hx hb dL_law_468 rfl ?_
  refine lv_bipush (v := 32) hx hb dL_law_469 (by decide) ?_
  refine lv_lshl hx hb dL_law_471 rfl ?_
  refine lv_aload_n hx hb dL_law_472 rfl (lv_at hl 0 rfl) ?_
  refine lv_iload_n hx hb dL_law_473 rfl (lv_at hl 3 rfl) ?_
  refine lv_iconst (v := 4) hx hb dL_law_474 (by decide) ?_
  refine lv_iadd hx hb dL_law_475 ?_
  refine va_sld hx hb hX hbl hbA hS hi4 dL_law_476 ?_
  refine lv_i2l hx hb dL_law_477 rfl ?_
  refine zldc2 X co_L_54 dL_law_478 ?_
  refine lv_land hx hb dL_law_481 ?_
  refine lv_lor hx hb dL_law_482 ?_
  obtain ⟨r1, σ1, τ1, hf1, hf2, hI⟩ := hst.sttell ((xs (nI i + 1).toNatClampNeg)) ((xs (nI i + 2).toNatClampNeg)) (((((xs (nI i + 3).toNatClampNeg)).toInt64 <<< ((32 : Int32).toInt64 &&& 63)) ||| (((xs (nI i + 4).toNatClampNeg)).toInt64 &&& (4294967295 : Int64)))) σ τ hI
  refine zcallL X hl.1 hPx hZx hPm hxm hS (As := [.int (xs (nI i + 1).toNatClampNeg), .int (xs (nI i + 2).toNatClampNeg), .long ((((xs (nI i + 3).toNatClampNeg)).toInt64 <<< ((32 : Int32).toInt64 &&& 63)) ||| (((xs (nI i + 4).toNatClampNeg)).toInt64 &&& (4294967295 : Int64)))]) (rest := []) (cn_X11_tell hf1) cw_X11_tell zp_11 rfl (by decide) rfl ml_L_56 ⟨Nat.le_of_ble_eq_true rfl, Nat.le_of_ble_eq_true rfl⟩ ⟨Nat.le_of_ble_eq_true rfl, Nat.le_of_ble_eq_true rfl⟩ rfl rfl (Nat.le_of_ble_eq_true rfl) dL_law_483 hOx (fun H locs hPx hPm hS => ?_)
  refine lv_aload_n hx hb dL_law_486 rfl (lv_at hl 2 rfl) ?_
  refine lv_aload_n hx hb dL_law_487 rfl (lv_at hl 0 rfl) ?_
  refine lv_iload_n hx hb dL_law_488 rfl (lv_at hl 3 rfl) ?_
  refine lv_iconst (v := 1) hx hb dL_law_489 (by decide) ?_
  refine lv_iadd hx hb dL_law_490 ?_
  refine va_sld hx hb hX hbl hbA hS hi1 dL_law_491 ?_
  refine lv_aload_n hx hb dL_law_492 rfl (lv_at hl 0 rfl) ?_
  refine lv_iload_n hx hb dL_law_493 rfl (lv_at hl 3 rfl) ?_
  refine lv_iconst (v := 2) hx hb dL_law_494 (by decide) ?_
  refine lv_iadd hx hb dL_law_495 ?_
  refine va_sld hx hb hX hbl hbA hS hi2 dL_law_496 ?_
  refine lv_aload_n hx hb dL_law_497 rfl (lv_at hl 0 rfl) ?_
  refine lv_iload_n hx hb dL_law_498 rfl (lv_at hl 3 rfl) ?_
  refine lv_iconst (v := 3) hx hb dL_law_499 (by decide) ?_
  refine lv_iadd hx hb dL_law_500 ?_
  refine va_sld hx hb hX hbl hbA hS hi3 dL_law_501 ?_
  refine lv_i2l hx hb dL_law_502 rfl ?_
  refine lv_bipush (v := 32) hx hb dL_law_503 (by decide) ?_
  refine lv_lshl hx hb dL_law_505 rfl ?_
  refine lv_aload_n hx hb dL_law_506 rfl (lv_at hl 0 rfl) ?_
  refine lv_iload_n hx hb dL_law_507 rfl (lv_at hl 3 rfl) ?_
  refine lv_iconst (v := 4) hx hb dL_law_508 (by decide) ?_
  refine lv_iadd hx hb dL_law_509 ?_
  refine va_sld hx hb hX hbl hbA hS hi4 dL_law_510 ?_
  refine lv_i2l hx hb dL_law_511 rfl ?_
  refine zldc2 X co_L_54 dL_law_512 ?_
  refine lv_land hx hb dL_law_515 ?_
  refine lv_lor hx hb dL_law_516 ?_
  refine zcallL X hl.1 hPm hZm hPx hmx hS (As := [.int (xs (nI i + 1).toNatClampNeg), .int (xs (nI i + 2).toNatClampNeg), .long ((((xs (nI i + 3).toNatClampNeg)).toInt64 <<< ((32 : Int32).toInt64 &&& 63)) ||| (((xs (nI i + 4).toNatClampNeg)).toInt64 &&& (4294967295 : Int64)))]) (rest := [.int r1]) (cn_X12_tell hf2) cw_X12_tell zp_12 rfl (by decide) rfl ml_L_60 ⟨Nat.le_of_ble_eq_true rfl, Nat.le_of_ble_eq_true rfl⟩ ⟨Nat.le_of_ble_eq_true rfl, Nat.le_of_ble_eq_true rfl⟩ rfl rfl (Nat.le_of_ble_eq_true rfl) dL_law_517 hOm (fun H locs hPm hPx hS => ?_)
  refine lv_icmp_eq (tgt := 1527) hx hb dL_law_520 (by decide) (fun _ => ?_) (fun z => absurd rfl z)
  exact hnext σ1 τ1 hI _ _ _ hPx hPm hS hl
set_option maxHeartbeats 4000000 in
set_option maxRecDepth 100000 in
theorem law_case_10 {p : Program} {l : Launch} {e : Env} {s : State} {m : MethodId} {below : List Frame} {meth : Method} {c : Code} {cA : Nat → ClassId} {D : va_G} {E : Nat → Nat} {b L : Nat} {xs : Nat → Int32} {adx adm : Nat → Nat} {I : SS → SS → Prop} (X : ZX Oz 0 cA adz D E (fun q => s.heap.size ≤ q) p s m #[Value.ref b] meth c code R_law 4 ret) (hst : zSteps I) (hX : va_X b L xs s s.heap) (hbl : b < s.heap.size) (hZx : zD (fun q => s.heap.size ≤ q) Nx adx) (hZm : zD (fun q => s.heap.size ≤ q) Nm adm) (hxm : ∀ i j, i < Nx → j < Nm → adx i ≠ adm j)
    {i : Nat} (hiL : i + 6 ≤ L) (hL : L ≤ 3072) {σ τ : SS} (hI : I σ τ) {H : Heap} {locs : List Loc} {ls : Array Slot} (hPx : va_P D ZCL (zw Ox Nx cA adx σ) H) (hPm : va_P D ZCL (zw Om Nm cA adm τ) H) (hS : va_S (fun q => s.heap.size ≤ q) s.heap H locs) (hl : lv_has ls 4 [(0, .ref b), (1, .ref (adx 0)), (2, .ref (adm 0)), (3, .int (nI i))])
    (hnext : ∀ (σ1 τ1 : SS), I σ1 τ1 → ∀ (H : Heap) (locs : List Loc) (ls : Array Slot), va_P D ZCL (zw Ox Nx cA adx σ1) H → va_P D ZCL (zw Om Nm cA adm τ1) H → va_S (fun q => s.heap.size ≤ q) s.heap H locs → lv_has ls 4 [(0, .ref b), (1, .ref (adx 0)), (2, .ref (adm 0)), (3, .int (nI i))] → W p l e room_1 s m #[Value.ref b] below meth c H locs 123 628996 (lw_Z below #[Value.ref b] s) (F0 m 1527 ls [])) : W p l e room_1 s m #[Value.ref b] below meth c H locs 123 628996 (lw_Z below #[Value.ref b] s) (F0 m 525 ls []) := by
  have hx := X.1
  have hb := X.2.1
  have hbA : ¬ (fun q : Nat => s.heap.size ≤ q) b := Nat.not_le.mpr hbl
  have hmx : ∀ i j, i < Nm → j < Nx → adm i ≠ adx j := fun i j hi hj h => hxm j i hj hi h.symm
  have hi1 : vp_in (nI i + 1) L := zvin (k := 1) hiL (by decide) hL
  have hi2 : vp_in (nI i + 2) L := zvin (k := 2) hiL (by decide) hL
  refine lv_aload_n hx hb dL_law_525 rfl (lv_at hl 1 rfl) ?_
  refine lv_aload_n hx hb dL_law_526 rfl (lv_at hl 0 rfl) ?_
  refine lv_iload_n hx hb dL_law_527 rfl (lv_at hl 3 rfl) ?_
  refine lv_iconst (v := 1) hx hb dL_law_528 (by decide) ?_
  refine lv_iadd hx hb dL_law_529 ?_
  refine va_sld hx hb hX hbl hbA hS hi1 dL_law_530 ?_
  refine lv_aload_n hx hb dL_law_531 rfl (lv_at hl 0 rfl) ?_
  refine lv_iload_n hx hb dL_law_532 rfl (lv_at hl 3 rfl) ?_
  refine lv_iconst (v := 2) hx hb dL_law_533 (by decide) ?_
  refine lv_iadd hx hb dL_law_534 ?_
  refine va_sld hx hb hX hbl hbA hS hi2 dL_law_535 ?_
  obtain ⟨r1, σ1, τ1, hf1, hf2, hI⟩ := hst.stof ((xs (nI i + 1).toNatClampNeg)) ((xs (nI i + 2).toNatClampNeg)) σ τ hI
  refine zcallL X hl.1 hPx hZx hPm hxm hS (As := [.int (xs (nI i + 1).toNatClampNeg), .int (xs (nI i + 2).toNatClampNeg)]) (rest := []) (cn_X11_of hf1) cw_X11_of zp_11 rfl (by decide) rfl ml_L_61 ⟨Nat.le_of_ble_eq_true rfl, Nat.le_of_ble_eq_true rfl⟩ ⟨Nat.le_of_ble_eq_true rfl, Nat.le_of_ble_eq_true rfl⟩ rfl rfl (Nat.le_of_ble_eq_true rfl) dL_law_536 hOx (fun H locs hPx hPm hS => ?_)
  refine lv_aload_n hx hb dL_law_539 rfl (lv_at hl 2 rfl) ?_
  refine lv_aload_n hx hb dL_law_540 rfl (lv_at hl 0 rfl) ?_
  refine lv_iload_n hx hb dL_law_541 rfl (lv_at hl 3 rfl) ?_
  refine lv_iconst (v := 1) hx hb dL_law_542 (by decide) ?_
  refine lv_iadd hx hb dL_law_543 ?_
  refine va_sld hx hb hX hbl hbA hS hi1 dL_law_544 ?_
  refine lv_aload_n hx hb dL_law_545 rfl (lv_at hl 0 rfl) ?_
  refine lv_iload_n hx hb dL_law_546 rfl (lv_at hl 3 rfl) ?_
  refine lv_iconst (v := 2) hx hb dL_law_547 (by decide) ?_
  refine lv_iadd hx hb dL_law_548 ?_
  refine va_sld hx hb hX hbl hbA hS hi2 dL_law_549 ?_
  refine zcallL X hl.1 hPm hZm hPx hmx hS (As := [.int (xs (nI i + 1).toNatClampNeg), .int (xs (nI i + 2).toNatClampNeg)]) (rest := [.int r1]) (cn_X12_of hf2) cw_X12_of zp_12 rfl (by decide) rfl ml_L_64 ⟨Nat.le_of_ble_eq_true rfl, Nat.le_of_ble_eq_true rfl⟩ ⟨Nat.le_of_ble_eq_true rfl, Nat.le_of_ble_eq_true rfl⟩ rfl rfl (Nat.le_of_ble_eq_true rfl) dL_law_550 hOm (fun H locs hPm hPx hS => ?_)
  refine lv_icmp_eq (tgt := 1527) hx hb dL_law_553 (by decide) (fun _ => ?_) (fun z => absurd rfl z)
  exact hnext σ1 τ1 hI _ _ _ hPx hPm hS hl
set_option maxHeartbeats 4000000 in
set_option maxRecDepth 100000 in
theorem law_case_11 {p : Program} {l : Launch} {e : Env} {s : State} {m : MethodId} {below : List Frame} {meth : Method} {c : Code} {cA : Nat → ClassId} {D : va_G} {E : Nat → Nat} {b L : Nat} {xs : Nat → Int32} {adx adm : Nat → Nat} {I : SS → SS → Prop} (X : ZX Oz 0 cA adz D E (fun q => s.heap.size ≤ q) p s m #[Value.ref b] meth c code R_law 4 ret) (hst : zSteps I) (hX : va_X b L xs s s.heap) (hbl : b < s.heap.size) (hZx : zD (fun q => s.heap.size ≤ q) Nx adx) (hZm : zD (fun q => s.heap.size ≤ q) Nm adm) (hxm : ∀ i j, i < Nx → j < Nm → adx i ≠ adm j)
    {i : Nat} (hiL : i + 6 ≤ L) (hL : L ≤ 3072) {σ τ : SS} (hI : I σ τ) {H : Heap} {locs : List Loc} {ls : Array Slot} (hPx : va_P D ZCL (zw Ox Nx cA adx σ) H) (hPm : va_P D ZCL (zw Om Nm cA adm τ) H) (hS : va_S (fun q => s.heap.size ≤ q) s.heap H locs) (hl : lv_has ls 4 [(0, .ref b), (1, .ref (adx 0)), (2, .ref (adm 0)), (3, .int (nI i))])
    (hnext : ∀ (σ1 τ1 : SS), I σ1 τ1 → ∀ (H : Heap) (locs : List Loc) (ls : Array Slot), va_P D ZCL (zw Ox Nx cA adx σ1) H → va_P D ZCL (zw Om Nm cA adm τ1) H → va_S (fun q => s.heap.size ≤ q) s.heap H locs → lv_has ls 4 [(0, .ref b), (1, .ref (adx 0)), (2, .ref (adm 0)), (3, .int (nI i))] → W p l e room_1 s m #[Value.ref b] below meth c H locs 123 628996 (lw_Z below #[Value.ref b] s) (F0 m 1527 ls [])) : W p l e room_1 s m #[Value.ref b] below meth c H locs 123 628996 (lw_Z below #[Value.ref b] s) (F0 m 558 ls []) := by
  have hx := X.1
  have hb := X.2.1
  have hbA : ¬ (fun q : Nat => s.heap.size ≤ q) b := Nat.not_le.mpr hbl
  have hmx : ∀ i j, i < Nm → j < Nx → adm i ≠ adx j := fun i j hi hj h => hxm j i hj hi h.symm
  have hi1 : vp_in (nI i + 1) L := zvin (k := 1) hiL (by decide) hL
  have hi2 : vp_in (nI i + 2) L := zvin (k := 2) hiL (by decide) hL
  refine lv_aload_n hx hb dL_law_558 rfl (lv_at hl 1 rfl) ?_
  refine lv_aload_n hx hb dL_law_559 rfl (lv_at hl 0 rfl) ?_
  refine lv_iload_n hx hb dL_law_560 rfl (lv_at hl 3 rfl) ?_
  refine lv_iconst (v := 1) hx hb dL_law_561 (by decide) ?_
  refine lv_iadd hx hb dL_law_562 ?_
  refine va_sld hx hb hX hbl hbA hS hi1 dL_law_563 ?_
  refine lv_aload_n hx hb dL_law_564 rfl (lv_at hl 0 rfl) ?_
  refine lv_iload_n hx hb dL_law_565 rfl (lv_at hl 3 rfl) ?_
  refine lv_iconst (v := 2) hx hb dL_law_566 (by decide) ?_
  refine lv_iadd hx hb dL_law_567 ?_
  refine va_sld hx hb hX hbl hbA hS hi2 dL_law_568 ?_
  obtain ⟨r1, σ1, τ1, hf1, hf2, hI⟩ := hst.stnumber ((xs (nI i + 1).toNatClampNeg)) ((xs (nI i + 2).toNatClampNeg)) σ τ hI
  refine zcallL X hl.1 hPx hZx hPm hxm hS (As := [.int (xs (nI i + 1).toNatClampNeg), .int (xs (nI i + 2).toNatClampNeg)]) (rest := []) (cn_X11_number hf1) cw_X11_number zp_11 rfl (by decide) rfl ml_L_65 ⟨Nat.le_of_ble_eq_true rfl, Nat.le_of_ble_eq_true rfl⟩ ⟨Nat.le_of_ble_eq_true rfl, Nat.le_of_ble_eq_true rfl⟩ rfl rfl (Nat.le_of_ble_eq_true rfl) dL_law_569 hOx (fun H locs hPx hPm hS => ?_)
  refine lv_aload_n hx hb dL_law_572 rfl (lv_at hl 2 rfl) ?_
  refine lv_aload_n hx hb dL_law_573 rfl (lv_at hl 0 rfl) ?_
  refine lv_iload_n hx hb dL_law_574 rfl (lv_at hl 3 rfl) ?_
  refine lv_iconst (v := 1) hx hb dL_law_575 (by decide) ?_
  refine lv_iadd hx hb dL_law_576 ?_
  refine va_sld hx hb hX hbl hbA hS hi1 dL_law_577 ?_
  refine lv_aload_n hx hb dL_law_578 rfl (lv_at hl 0 rfl) ?_
  refine lv_iload_n hx hb dL_law_579 rfl (lv_at hl 3 rfl) ?_
  refine lv_iconst (v := 2) hx hb dL_law_580 (by decide) ?_
  refine lv_iadd hx hb dL_law_581 ?_
  refine va_sld hx hb hX hbl hbA hS hi2 dL_law_582 ?_
  refine zcallL X hl.1 hPm hZm hPx hmx hS (As := [.int (xs (nI i + 1).toNatClampNeg), .int (xs (nI i + 2).toNatClampNeg)]) (rest := [.long r1]) (cn_X12_number hf2) cw_X12_number zp_12 rfl (by decide) rfl ml_L_69 ⟨Nat.le_of_ble_eq_true rfl, Nat.le_of_ble_eq_true rfl⟩ ⟨Nat.le_of_ble_eq_true rfl, Nat.le_of_ble_eq_true rfl⟩ rfl rfl (Nat.le_of_ble_eq_true rfl) dL_law_583 hOm (fun H locs hPm hPx hS => ?_)
  refine W.lcmp hx hb dL_law_586 ?_
  refine lv_if_eq (tgt := 1527) hx hb dL_law_587 (by decide) (fun _ => ?_) (fun z => absurd (by simp [lg_cmp]) z)
  exact hnext σ1 τ1 hI _ _ _ hPx hPm hS hl
set_option maxHeartbeats 4000000 in
set_option maxRecDepth 100000 in
theorem law_case_12 {p : Program} {l : Launch} {e : Env} {s : State} {m : MethodId} {below : List Frame} {meth : Method} {c : Code} {cA : Nat → ClassId} {D : va_G} {E : Nat → Nat} {b L : Nat} {xs : Nat → Int32} {adx adm : Nat → Nat} {I : SS → SS → Prop} (X : ZX Oz 0 cA adz D E (fun q => s.heap.size ≤ q) p s m #[Value.ref b] meth c code R_law 4 ret) (hst : zSteps I) (hX : va_X b L xs s s.heap) (hbl : b < s.heap.size) (hZx : zD (fun q => s.heap.size ≤ q) Nx adx) (hZm : zD (fun q => s.heap.size ≤ q) Nm adm) (hxm : ∀ i j, i < Nx → j < Nm → adx i ≠ adm j)
    {i : Nat} (hiL : i + 6 ≤ L) (hL : L ≤ 3072) {σ τ : SS} (hI : I σ τ) {H : Heap} {locs : List Loc} {ls : Array Slot} (hPx : va_P D ZCL (zw Ox Nx cA adx σ) H) (hPm : va_P D ZCL (zw Om Nm cA adm τ) H) (hS : va_S (fun q => s.heap.size ≤ q) s.heap H locs) (hl : lv_has ls 4 [(0, .ref b), (1, .ref (adx 0)), (2, .ref (adm 0)), (3, .int (nI i))])
    (hnext : ∀ (σ1 τ1 : SS), I σ1 τ1 → ∀ (H : Heap) (locs : List Loc) (ls : Array Slot), va_P D ZCL (zw Ox Nx cA adx σ1) H → va_P D ZCL (zw Om Nm cA adm τ1) H → va_S (fun q => s.heap.size ≤ q) s.heap H locs → lv_has ls 4 [(0, .ref b), (1, .ref (adx 0)), (2, .ref (adm 0)), (3, .int (nI i))] → W p l e room_1 s m #[Value.ref b] below meth c H locs 123 628996 (lw_Z below #[Value.ref b] s) (F0 m 1527 ls [])) : W p l e room_1 s m #[Value.ref b] below meth c H locs 123 628996 (lw_Z below #[Value.ref b] s) (F0 m 592 ls []) := by
  have hx := X.1
  have hb := X.2.1
  have hbA : ¬ (fun q : Nat => s.heap.size ≤ q) b := Nat.not_le.mpr hbl
  have hmx : ∀ i j, i < Nm → j < Nx → adm i ≠ adx j := fun i j hi hj h => hxm j i hj hi h.symm
  refine lv_aload_n hx hb dL_law_592 rfl (lv_at hl 1 rfl) ?_
  obtain ⟨r1, σ1, τ1, hf1, hf2, hI⟩ := hst.stdrop  σ τ hI
  refine zcallL X hl.1 hPx hZx hPm hxm hS (As := []) (rest := []) (cn_X11_drop hf1) cw_X11_drop zp_11 rfl (by decide) rfl ml_L_70 ⟨Nat.le_of_ble_eq_true rfl, Nat.le_of_ble_eq_true rfl⟩ ⟨Nat.le_of_ble_eq_true rfl, Nat.le_of_ble_eq_true rfl⟩ rfl rfl (Nat.le_of_ble_eq_true rfl) dL_law_593 hOx (fun H locs hPx hPm hS => ?_)
  refine lv_aload_n hx hb dL_law_596 rfl (lv_at hl 2 rfl) ?_
  refine zcallL X hl.1 hPm hZm hPx hmx hS (As := []) (rest := [.int r1]) (cn_X12_drop hf2) cw_X12_drop zp_12 rfl (by decide) rfl ml_L_73 ⟨Nat.le_of_ble_eq_true rfl, Nat.le_of_ble_eq_true rfl⟩ ⟨Nat.le_of_ble_eq_true rfl, Nat.le_of_ble_eq_true rfl⟩ rfl rfl (Nat.le_of_ble_eq_true rfl) dL_law_597 hOm (fun H locs hPm hPx hS => ?_)
  refine lv_icmp_eq (tgt := 1527) hx hb dL_law_600 (by decide) (fun _ => ?_) (fun z => absurd rfl z)
  exact hnext σ1 τ1 hI _ _ _ hPx hPm hS hl
set_option maxHeartbeats 4000000 in
set_option maxRecDepth 100000 in
theorem law_case_13 {p : Program} {l : Launch} {e : Env} {s : State} {m : MethodId} {below : List Frame} {meth : Method} {c : Code} {cA : Nat → ClassId} {D : va_G} {E : Nat → Nat} {b L : Nat} {xs : Nat → Int32} {adx adm : Nat → Nat} {I : SS → SS → Prop} (X : ZX Oz 0 cA adz D E (fun q => s.heap.size ≤ q) p s m #[Value.ref b] meth c code R_law 4 ret) (hst : zSteps I) (hX : va_X b L xs s s.heap) (hbl : b < s.heap.size) (hZx : zD (fun q => s.heap.size ≤ q) Nx adx) (hZm : zD (fun q => s.heap.size ≤ q) Nm adm) (hxm : ∀ i j, i < Nx → j < Nm → adx i ≠ adm j)
    {i : Nat} (hiL : i + 6 ≤ L) (hL : L ≤ 3072) {σ τ : SS} (hI : I σ τ) {H : Heap} {locs : List Loc} {ls : Array Slot} (hPx : va_P D ZCL (zw Ox Nx cA adx σ) H) (hPm : va_P D ZCL (zw Om Nm cA adm τ) H) (hS : va_S (fun q => s.heap.size ≤ q) s.heap H locs) (hl : lv_has ls 4 [(0, .ref b), (1, .ref (adx 0)), (2, .ref (adm 0)), (3, .int (nI i))])
    (hnext : ∀ (σ1 τ1 : SS), I σ1 τ1 → ∀ (H : Heap) (locs : List Loc) (ls : Array Slot), va_P D ZCL (zw Ox Nx cA adx σ1) H → va_P D ZCL (zw Om Nm cA adm τ1) H → va_S (fun q => s.heap.size ≤ q) s.heap H locs → lv_has ls 4 [(0, .ref b), (1, .ref (adx 0)), (2, .ref (adm 0)), (3, .int (nI i))] → W p l e room_1 s m #[Value.ref b] below meth c H locs 123 628996 (lw_Z below #[Value.ref b] s) (F0 m 1527 ls [])) : W p l e room_1 s m #[Value.ref b] below meth c H locs 123 628996 (lw_Z below #[Value.ref b] s) (F0 m 605 ls []) := by
  have hx := X.1
  have hb := X.2.1
  have hbA : ¬ (fun q : Nat => s.heap.size ≤ q) b := Nat.not_le.mpr hbl
  have hmx : ∀ i j, i < Nm → j < Nx → adm i ≠ adx j := fun i j hi hj h => hxm j i hj hi h.symm
  refine lv_aload_n hx hb dL_law_605 rfl (lv_at hl 1 rfl) ?_
  obtain ⟨r1, σ1, τ1, hf1, hf2, hI⟩ := hst.stcanonical  σ τ hI
  refine zcallL X hl.1 hPx hZx hPm hxm hS (As := []) (rest := []) (cn_X11_canonical hf1) cw_X11_canonical zp_11 rfl (by decide) rfl ml_L_74 ⟨Nat.le_of_ble_eq_true rfl, Nat.le_of_ble_eq_true rfl⟩ ⟨Nat.le_of_ble_eq_true rfl, Nat.le_of_ble_eq_true rfl⟩ rfl rfl (Nat.le_of_ble_eq_true rfl) dL_law_606 hOx (fun H locs hPx hPm hS => ?_)
  refine lv_aload_n hx hb dL_law_609 rfl (lv_at hl 2 rfl) ?_
  refine zcallL X hl.1 hPm hZm hPx hmx hS (As := []) (rest := [.int r1]) (cn_X12_canonical hf2) cw_X12_canonical zp_12 rfl (by decide) rfl ml_L_77 ⟨Nat.le_of_ble_eq_true rfl, Nat.le_of_ble_eq_true rfl⟩ ⟨Nat.le_of_ble_eq_true rfl, Nat.le_of_ble_eq_true rfl⟩ rfl rfl (Nat.le_of_ble_eq_true rfl) dL_law_610 hOm (fun H locs hPm hPx hS => ?_)
  refine lv_icmp_eq (tgt := 1527) hx hb dL_law_613 (by decide) (fun _ => ?_) (fun z => absurd rfl z)
  exact hnext σ1 τ1 hI _ _ _ hPx hPm hS hl
set_option maxHeartbeats 4000000 in
set_option maxRecDepth 100000 in
theorem law_case_14 {p : Program} {l : Launch} {e : Env} {s : State} {m : MethodId} {below : List Frame} {meth : Method} {c : Code} {cA : Nat → ClassId} {D : va_G} {E : Nat → Nat} {b L : Nat} {xs : Nat → Int32} {adx adm : Nat → Nat} {I : SS → SS → Prop} (X : ZX Oz 0 cA adz D E (fun q => s.heap.size ≤ q) p s m #[Value.ref b] meth c code R_law 4 ret) (hst : zSteps I) (hX : va_X b L xs s s.heap) (hbl : b < s.heap.size) (hZx : zD (fun q => s.heap.size ≤ q) Nx adx) (hZm : zD (fun q => s.heap.size ≤ q) Nm adm) (hxm : ∀ i j, i < Nx → j < Nm → adx i ≠ adm j)
    {i : Nat} (hiL : i + 6 ≤ L) (hL : L ≤ 3072) {σ τ : SS} (hI : I σ τ) {H : Heap} {locs : List Loc} {ls : Array Slot} (hPx : va_P D ZCL (zw Ox Nx cA adx σ) H) (hPm : va_P D ZCL (zw Om Nm cA adm τ) H) (hS : va_S (fun q => s.heap.size ≤ q) s.heap H locs) (hl : lv_has ls 4 [(0, .ref b), (1, .ref (adx 0)), (2, .ref (adm 0)), (3, .int (nI i))])
    (hnext : ∀ (σ1 τ1 : SS), I σ1 τ1 → ∀ (H : Heap) (locs : List Loc) (ls : Array Slot), va_P D ZCL (zw Ox Nx cA adx σ1) H → va_P D ZCL (zw Om Nm cA adm τ1) H → va_S (fun q => s.heap.size ≤ q) s.heap H locs → lv_has ls 4 [(0, .ref b), (1, .ref (adx 0)), (2, .ref (adm 0)), (3, .int (nI i))] → W p l e room_1 s m #[Value.ref b] below meth c H locs 123 628996 (lw_Z below #[Value.ref b] s) (F0 m 1527 ls [])) : W p l e room_1 s m #[Value.ref b] below meth c H locs 123 628996 (lw_Z below #[Value.ref b] s) (F0 m 618 ls []) := by
  have hx := X.1
  have hb := X.2.1
  have hbA : ¬ (fun q : Nat => s.heap.size ≤ q) b := Nat.not_le.mpr hbl
  have hmx : ∀ i j, i < Nm → j < Nx → adm i ≠ adx j := fun i j hi hj h => hxm j i hj hi h.symm
  have hi1 : vp_in (nI i + 1) L := zvin (k := 1) hiL (by decide) hL
  refine lv_aload_n hx hb dL_law_618 rfl (lv_at hl 1 rfl) ?_
  refine lv_aload_n hx hb dL_law_619 rfl (lv_at hl 0 rfl) ?_
  refine lv_iload_n hx hb dL_law_620 rfl (lv_at hl 3 rfl) ?_
  refine lv_iconst (v := 1) hx hb dL_law_621 (by decide) ?_
  refine lv_iadd hx hb dL_law_622 ?_
  refine va_sld hx hb hX hbl hbA hS hi1 dL_law_623 ?_
  obtain ⟨r1, σ1, τ1, hf1, hf2, hI⟩ := hst.stmet ((xs (nI i + 1).toNatClampNeg)) σ τ hI
  refine zcallL X hl.1 hPx hZx hPm hxm hS (As := [.int (xs (nI i + 1).toNatClampNeg)]) (rest := []) (cn_X11_met hf1) cw_X11_met zp_11 rfl (by decide) rfl ml_L_78 ⟨Nat.le_of_ble_eq_true rfl, Nat.le_of_ble_eq_true rfl⟩ ⟨Nat.le_of_ble_eq_true rfl, Nat.le_of_ble_eq_true rfl⟩ rfl rfl (Nat.le_of_ble_eq_true rfl) dL_law_624 hOx (fun H locs hPx hPm hS => ?_)
  refine lv_aload_n hx hb dL_law_627 rfl (lv_at hl 2 rfl) ?_
  refine lv_aload_n hx hb dL_law_628 rfl (lv_at hl 0 rfl) ?_
  refine lv_iload_n hx hb dL_law_629 rfl (lv_at hl 3 rfl) ?_
  refine lv_iconst (v := 1) hx hb dL_law_630 (by decide) ?_
  refine lv_iadd hx hb dL_law_631 ?_
  refine va_sld hx hb hX hbl hbA hS hi1 dL_law_632 ?_
  refine zcallL X hl.1 hPm hZm hPx hmx hS (As := [.int (xs (nI i + 1).toNatClampNeg)]) (rest := [.long r1]) (cn_X12_met hf2) cw_X12_met zp_12 rfl (by decide) rfl ml_L_81 ⟨Nat.le_of_ble_eq_true rfl, Nat.le_of_ble_eq_true rfl⟩ ⟨Nat.le_of_ble_eq_true rfl, Nat.le_of_ble_eq_true rfl⟩ rfl rfl (Nat.le_of_ble_eq_true rfl) dL_law_633 hOm (fun H locs hPm hPx hS => ?_)
  refine W.lcmp hx hb dL_law_636 ?_
  refine lv_if_eq (tgt := 1527) hx hb dL_law_637 (by decide) (fun _ => ?_) (fun z => absurd (by simp [lg_cmp]) z)
  exact hnext σ1 τ1 hI _ _ _ hPx hPm hS hl
set_option maxHeartbeats 4000000 in
set_option maxRecDepth 100000 in
theorem law_case_15 {p : Program} {l : Launch} {e : Env} {s : State} {m : MethodId} {below : List Frame} {meth : Method} {c : Code} {cA : Nat → ClassId} {D : va_G} {E : Nat → Nat} {b L : Nat} {xs : Nat → Int32} {adx adm : Nat → Nat} {I : SS → SS → Prop} (X : ZX Oz 0 cA adz D E (fun q => s.heap.size ≤ q) p s m #[Value.ref b] meth c code R_law 4 ret) (hst : zSteps I) (hX : va_X b L xs s s.heap) (hbl : b < s.heap.size) (hZx : zD (fun q => s.heap.size ≤ q) Nx adx) (hZm : zD (fun q => s.heap.size ≤ q) Nm adm) (hxm : ∀ i j, i < Nx → j < Nm → adx i ≠ adm j)
    {i : Nat} (hiL : i + 6 ≤ L) (hL : L ≤ 3072) {σ τ : SS} (hI : I σ τ) {H : Heap} {locs : List Loc} {ls : Array Slot} (hPx : va_P D ZCL (zw Ox Nx cA adx σ) H) (hPm : va_P D ZCL (zw Om Nm cA adm τ) H) (hS : va_S (fun q => s.heap.size ≤ q) s.heap H locs) (hl : lv_has ls 4 [(0, .ref b), (1, .ref (adx 0)), (2, .ref (adm 0)), (3, .int (nI i))])
    (hnext : ∀ (σ1 τ1 : SS), I σ1 τ1 → ∀ (H : Heap) (locs : List Loc) (ls : Array Slot), va_P D ZCL (zw Ox Nx cA adx σ1) H → va_P D ZCL (zw Om Nm cA adm τ1) H → va_S (fun q => s.heap.size ≤ q) s.heap H locs → lv_has ls 4 [(0, .ref b), (1, .ref (adx 0)), (2, .ref (adm 0)), (3, .int (nI i))] → W p l e room_1 s m #[Value.ref b] below meth c H locs 123 628996 (lw_Z below #[Value.ref b] s) (F0 m 1527 ls [])) : W p l e room_1 s m #[Value.ref b] below meth c H locs 123 628996 (lw_Z below #[Value.ref b] s) (F0 m 642 ls []) := by
  have hx := X.1
  have hb := X.2.1
  have hbA : ¬ (fun q : Nat => s.heap.size ≤ q) b := Nat.not_le.mpr hbl
  have hmx : ∀ i j, i < Nm → j < Nx → adm i ≠ adx j := fun i j hi hj h => hxm j i hj hi h.symm
  have hi1 : vp_in (nI i + 1) L := zvin (k := 1) hiL (by decide) hL
  have hi2 : vp_in (nI i + 2) L := zvin (k := 2) hiL (by decide) hL
  refine lv_aload_n hx hb dL_law_642 rfl (lv_at hl 1 rfl) ?_
  refine lv_aload_n hx hb dL_law_643 rfl (lv_at hl 0 rfl) ?_
  refine lv_iload_n hx hb dL_law_644 rfl (lv_at hl 3 rfl) ?_
  refine lv_iconst (v := 1) hx hb dL_law_645 (by decide) ?_
  refine lv_iadd hx hb dL_law_646 ?_
  refine va_sld hx hb hX hbl hbA hS hi1 dL_law_647 ?_
  refine lv_aload_n hx hb dL_law_648 rfl (lv_at hl 0 rfl) ?_
  refine lv_iload_n hx hb dL_law_649 rfl (lv_at hl 3 rfl) ?_
  refine lv_iconst (v := 2) hx hb dL_law_650 (by decide) ?_
  refine lv_iadd hx hb dL_law_651 ?_
  refine va_sld hx hb hX hbl hbA hS hi2 dL_law_652 ?_
  obtain ⟨r1, σ1, τ1, hf1, hf2, hI⟩ := hst.stmeets ((xs (nI i + 1).toNatClampNeg)) ((xs (nI i + 2).toNatClampNeg)) σ τ hI
  refine zcallL X hl.1 hPx hZx hPm hxm hS (As := [.int (xs (nI i + 1).toNatClampNeg), .int (xs (nI i + 2).toNatClampNeg)]) (rest := []) (cn_X11_meets hf1) cw_X11_meets zp_11 rfl (by decide) rfl ml_L_82 ⟨Nat.le_of_ble_eq_true rfl, Nat.le_of_ble_eq_true rfl⟩ ⟨Nat.le_of_ble_eq_true rfl, Nat.le_of_ble_eq_true rfl⟩ rfl rfl (Nat.le_of_ble_eq_true rfl) dL_law_653 hOx (fun H locs hPx hPm hS => ?_)
  refine lv_aload_n hx hb dL_law_656 rfl (lv_at hl 2 rfl) ?_
  refine lv_aload_n hx hb dL_law_657 rfl (lv_at hl 0 rfl) ?_
  refine lv_iload_n hx hb dL_law_658 rfl (lv_at hl 3 rfl) ?_
  refine lv_iconst (v := 1) hx hb dL_law_659 (by decide) ?_
  refine lv_iadd hx hb dL_law_660 ?_
  refine va_sld hx hb hX hbl hbA hS hi1 dL_law_661 ?_
  refine lv_aload_n hx hb dL_law_662 rfl (lv_at hl 0 rfl) ?_
  refine lv_iload_n hx hb dL_law_663 rfl (lv_at hl 3 rfl) ?_
  refine lv_iconst (v := 2) hx hb dL_law_664 (by decide) ?_
  refine lv_iadd hx hb dL_law_665 ?_
  refine va_sld hx hb hX hbl hbA hS hi2 dL_law_666 ?_
  refine zcallL X hl.1 hPm hZm hPx hmx hS (As := [.int (xs (nI i + 1).toNatClampNeg), .int (xs (nI i + 2).toNatClampNeg)]) (rest := [.long r1]) (cn_X12_meets hf2) cw_X12_meets zp_12 rfl (by decide) rfl ml_L_85 ⟨Nat.le_of_ble_eq_true rfl, Nat.le_of_ble_eq_true rfl⟩ ⟨Nat.le_of_ble_eq_true rfl, Nat.le_of_ble_eq_true rfl⟩ rfl rfl (Nat.le_of_ble_eq_true rfl) dL_law_667 hOm (fun H locs hPm hPx hS => ?_)
  refine W.lcmp hx hb dL_law_670 ?_
  refine lv_if_eq (tgt := 1527) hx hb dL_law_671 (by decide) (fun _ => ?_) (fun z => absurd (by simp [lg_cmp]) z)
  exact hnext σ1 τ1 hI _ _ _ hPx hPm hS hl
set_option maxHeartbeats 4000000 in
set_option maxRecDepth 100000 in
theorem law_case_16 {p : Program} {l : Launch} {e : Env} {s : State} {m : MethodId} {below : List Frame} {meth : Method} {c : Code} {cA : Nat → ClassId} {D : va_G} {E : Nat → Nat} {b L : Nat} {xs : Nat → Int32} {adx adm : Nat → Nat} {I : SS → SS → Prop} (X : ZX Oz 0 cA adz D E (fun q => s.heap.size ≤ q) p s m #[Value.ref b] meth c code R_law 4 ret) (hst : zSteps I) (hX : va_X b L xs s s.heap) (hbl : b < s.heap.size) (hZx : zD (fun q => s.heap.size ≤ q) Nx adx) (hZm : zD (fun q => s.heap.size ≤ q) Nm adm) (hxm : ∀ i j, i < Nx → j < Nm → adx i ≠ adm j)
    {i : Nat} (hiL : i + 6 ≤ L) (hL : L ≤ 3072) {σ τ : SS} (hI : I σ τ) {H : Heap} {locs : List Loc} {ls : Array Slot} (hPx : va_P D ZCL (zw Ox Nx cA adx σ) H) (hPm : va_P D ZCL (zw Om Nm cA adm τ) H) (hS : va_S (fun q => s.heap.size ≤ q) s.heap H locs) (hl : lv_has ls 4 [(0, .ref b), (1, .ref (adx 0)), (2, .ref (adm 0)), (3, .int (nI i))])
    (hnext : ∀ (σ1 τ1 : SS), I σ1 τ1 → ∀ (H : Heap) (locs : List Loc) (ls : Array Slot), va_P D ZCL (zw Ox Nx cA adx σ1) H → va_P D ZCL (zw Om Nm cA adm τ1) H → va_S (fun q => s.heap.size ≤ q) s.heap H locs → lv_has ls 4 [(0, .ref b), (1, .ref (adx 0)), (2, .ref (adm 0)), (3, .int (nI i))] → W p l e room_1 s m #[Value.ref b] below meth c H locs 123 628996 (lw_Z below #[Value.ref b] s) (F0 m 1527 ls [])) : W p l e room_1 s m #[Value.ref b] below meth c H locs 123 628996 (lw_Z below #[Value.ref b] s) (F0 m 676 ls []) := by
  have hx := X.1
  have hb := X.2.1
  have hbA : ¬ (fun q : Nat => s.heap.size ≤ q) b := Nat.not_le.mpr hbl
  have hmx : ∀ i j, i < Nm → j < Nx → adm i ≠ adx j := fun i j hi hj h => hxm j i hj hi h.symm
  have hi1 : vp_in (nI i + 1) L := zvin (k := 1) hiL (by decide) hL
  refine lv_aload_n hx hb dL_law_676 rfl (lv_at hl 1 rfl) ?_
  refine lv_aload_n hx hb dL_law_677 rfl (lv_at hl 0 rfl) ?_
  refine lv_iload_n hx hb dL_law_678 rfl (lv_at hl 3 rfl) ?_
  refine lv_iconst (v := 1) hx hb dL_law_679 (by decide) ?_
  refine lv_iadd hx hb dL_law_680 ?_
  refine va_sld hx hb hX hbl hbA hS hi1 dL_law_681 ?_
  obtain ⟨r1, σ1, τ1, hf1, hf2, hI⟩ := hst.stmeetsAll ((xs (nI i + 1).toNatClampNeg)) σ τ hI
  refine zcallL X hl.1 hPx hZx hPm hxm hS (As := [.int (xs (nI i + 1).toNatClampNeg)]) (rest := []) (cn_X11_meetsAll hf1) cw_X11_meetsAll zp_11 rfl (by decide) rfl ml_L_86 ⟨Nat.le_of_ble_eq_true rfl, Nat.le_of_ble_eq_true rfl⟩ ⟨Nat.le_of_ble_eq_true rfl, Nat.le_of_ble_eq_true rfl⟩ rfl rfl (Nat.le_of_ble_eq_true rfl) dL_law_682 hOx (fun H locs hPx hPm hS => ?_)
  refine lv_aload_n hx hb dL_law_685 rfl (lv_at hl 2 rfl) ?_
  refine lv_aload_n hx hb dL_law_686 rfl (lv_at hl 0 rfl) ?_
  refine lv_iload_n hx hb dL_law_687 rfl (lv_at hl 3 rfl) ?_
  refine lv_iconst (v := 1) hx hb dL_law_688 (by decide) ?_
  refine lv_iadd hx hb dL_law_689 ?_
  refine va_sld hx hb hX hbl hbA hS hi1 dL_law_690 ?_
  refine zcallL X hl.1 hPm hZm hPx hmx hS (As := [.int (xs (nI i + 1).toNatClampNeg)]) (rest := [.long r1]) (cn_X12_meetsAll hf2) cw_X12_meetsAll zp_12 rfl (by decide) rfl ml_L_89 ⟨Nat.le_of_ble_eq_true rfl, Nat.le_of_ble_eq_true rfl⟩ ⟨Nat.le_of_ble_eq_true rfl, Nat.le_of_ble_eq_true rfl⟩ rfl rfl (Nat.le_of_ble_eq_true rfl) dL_law_691 hOm (fun H locs hPm hPx hS => ?_)
  refine W.lcmp hx hb dL_law_694 ?_
  refine lv_if_eq (tgt := 1527) hx hb dL_law_695 (by decide) (fun _ => ?_) (fun z => absurd (by simp [lg_cmp]) z)
  exact hnext σ1 τ1 hI _ _ _ hPx hPm hS hl
set_option maxHeartbeats 4000000 in
set_option maxRecDepth 100000 in
theorem law_case_17 {p : Program} {l : Launch} {e : Env} {s : State} {m : MethodId} {below : List Frame} {meth : Method} {c : Code} {cA : Nat → ClassId} {D : va_G} {E : Nat → Nat} {b L : Nat} {xs : Nat → Int32} {adx adm : Nat → Nat} {I : SS → SS → Prop} (X : ZX Oz 0 cA adz D E (fun q => s.heap.size ≤ q) p s m #[Value.ref b] meth c code R_law 4 ret) (hst : zSteps I) (hX : va_X b L xs s s.heap) (hbl : b < s.heap.size) (hZx : zD (fun q => s.heap.size ≤ q) Nx adx) (hZm : zD (fun q => s.heap.size ≤ q) Nm adm) (hxm : ∀ i j, i < Nx → j < Nm → adx i ≠ adm j)
    {i : Nat} (hiL : i + 6 ≤ L) (hL : L ≤ 3072) {σ τ : SS} (hI : I σ τ) {H : Heap} {locs : List Loc} {ls : Array Slot} (hPx : va_P D ZCL (zw Ox Nx cA adx σ) H) (hPm : va_P D ZCL (zw Om Nm cA adm τ) H) (hS : va_S (fun q => s.heap.size ≤ q) s.heap H locs) (hl : lv_has ls 4 [(0, .ref b), (1, .ref (adx 0)), (2, .ref (adm 0)), (3, .int (nI i))])
    (hnext : ∀ (σ1 τ1 : SS), I σ1 τ1 → ∀ (H : Heap) (locs : List Loc) (ls : Array Slot), va_P D ZCL (zw Ox Nx cA adx σ1) H → va_P D ZCL (zw Om Nm cA adm τ1) H → va_S (fun q => s.heap.size ≤ q) s.heap H locs → lv_has ls 4 [(0, .ref b), (1, .ref (adx 0)), (2, .ref (adm 0)), (3, .int (nI i))] → W p l e room_1 s m #[Value.ref b] below meth c H locs 123 628996 (lw_Z below #[Value.ref b] s) (F0 m 1527 ls [])) : W p l e room_1 s m #[Value.ref b] below meth c H locs 123 628996 (lw_Z below #[Value.ref b] s) (F0 m 700 ls []) := by
  have hx := X.1
  have hb := X.2.1
  have hbA : ¬ (fun q : Nat => s.heap.size ≤ q) b := Nat.not_le.mpr hbl
  have hmx : ∀ i j, i < Nm → j < Nx → adm i ≠ adx j := fun i j hi hj h => hxm j i hj hi h.symm
  have hi1 : vp_in (nI i + 1) L := zvin (k := 1) hiL (by decide) hL
  have hi2 : vp_in (nI i + 2) L := zvin (k := 2) hiL (by decide) hL
  refine lv_aload_n hx hb dL_law_700 rfl (lv_at hl 1 rfl) ?_
  refine lv_aload_n hx hb dL_law_701 rfl (lv_at hl 0 rfl) ?_
  refine lv_iload_n hx hb dL_law_702 rfl (lv_at hl 3 rfl) ?_
  refine lv_iconst (v := 1) hx hb dL_law_703 (by decide) ?_
  refine lv_iadd hx hb dL_law_704 ?_
  refine va_sld hx hb hX hbl hbA hS hi1 dL_law_705 ?_
  refine lv_aload_n hx hb dL_law_706 rfl (lv_at hl 0 rfl) ?_
  refine lv_iload_n hx hb dL_law_707 rfl (lv_at hl 3 rfl) ?_
  refine lv_iconst (v := 2) hx hb dL_law_708 (by decide) ?_
  refine lv_iadd hx hb dL_law_709 ?_
  refine va_sld hx hb hX hbl hbA hS hi2 dL_law_710 ?_
  obtain ⟨r1, σ1, τ1, hf1, hf2, hI⟩ := hst.stself ((xs (nI i + 1).toNatClampNeg)) ((xs (nI i + 2).toNatClampNeg)) σ τ hI
  refine zcallL X hl.1 hPx hZx hPm hxm hS (As := [.int (xs (nI i + 1).toNatClampNeg), .int (xs (nI i + 2).toNatClampNeg)]) (rest := []) (cn_X11_self hf1) cw_X11_self zp_11 rfl (by decide) rfl ml_L_90 ⟨Nat.le_of_ble_eq_true rfl, Nat.le_of_ble_eq_true rfl⟩ ⟨Nat.le_of_ble_eq_true rfl, Nat.le_of_ble_eq_true rfl⟩ rfl rfl (Nat.le_of_ble_eq_true rfl) dL_law_711 hOx (fun H locs hPx hPm hS => ?_)
  refine lv_aload_n hx hb dL_law_714 rfl (lv_at hl 2 rfl) ?_
  refine lv_aload_n hx hb dL_law_715 rfl (lv_at hl 0 rfl) ?_
  refine lv_iload_n hx hb dL_law_716 rfl (lv_at hl 3 rfl) ?_
  refine lv_iconst (v := 1) hx hb dL_law_717 (by decide) ?_
  refine lv_iadd hx hb dL_law_718 ?_
  refine va_sld hx hb hX hbl hbA hS hi1 dL_law_719 ?_
  refine lv_aload_n hx hb dL_law_720 rfl (lv_at hl 0 rfl) ?_
  refine lv_iload_n hx hb dL_law_721 rfl (lv_at hl 3 rfl) ?_
  refine lv_iconst (v := 2) hx hb dL_law_722 (by decide) ?_
  refine lv_iadd hx hb dL_law_723 ?_
  refine va_sld hx hb hX hbl hbA hS hi2 dL_law_724 ?_
  refine zcallL X hl.1 hPm hZm hPx hmx hS (As := [.int (xs (nI i + 1).toNatClampNeg), .int (xs (nI i + 2).toNatClampNeg)]) (rest := [.long r1]) (cn_X12_self hf2) cw_X12_self zp_12 rfl (by decide) rfl ml_L_93 ⟨Nat.le_of_ble_eq_true rfl, Nat.le_of_ble_eq_true rfl⟩ ⟨Nat.le_of_ble_eq_true rfl, Nat.le_of_ble_eq_true rfl⟩ rfl rfl (Nat.le_of_ble_eq_true rfl) dL_law_725 hOm (fun H locs hPm hPx hS => ?_)
  refine W.lcmp hx hb dL_law_728 ?_
  refine lv_if_eq (tgt := 1527) hx hb dL_law_729 (by decide) (fun _ => ?_) (fun z => absurd (by simp [lg_cmp]) z)
  exact hnext σ1 τ1 hI _ _ _ hPx hPm hS hl
set_option maxHeartbeats 4000000 in
set_option maxRecDepth 100000 in
theorem law_case_18 {p : Program} {l : Launch} {e : Env} {s : State} {m : MethodId} {below : List Frame} {meth : Method} {c : Code} {cA : Nat → ClassId} {D : va_G} {E : Nat → Nat} {b L : Nat} {xs : Nat → Int32} {adx adm : Nat → Nat} {I : SS → SS → Prop} (X : ZX Oz 0 cA adz D E (fun q => s.heap.size ≤ q) p s m #[Value.ref b] meth c code R_law 4 ret) (hst : zSteps I) (hX : va_X b L xs s s.heap) (hbl : b < s.heap.size) (hZx : zD (fun q => s.heap.size ≤ q) Nx adx) (hZm : zD (fun q => s.heap.size ≤ q) Nm adm) (hxm : ∀ i j, i < Nx → j < Nm → adx i ≠ adm j)
    {i : Nat} (hiL : i + 6 ≤ L) (hL : L ≤ 3072) {σ τ : SS} (hI : I σ τ) {H : Heap} {locs : List Loc} {ls : Array Slot} (hPx : va_P D ZCL (zw Ox Nx cA adx σ) H) (hPm : va_P D ZCL (zw Om Nm cA adm τ) H) (hS : va_S (fun q => s.heap.size ≤ q) s.heap H locs) (hl : lv_has ls 4 [(0, .ref b), (1, .ref (adx 0)), (2, .ref (adm 0)), (3, .int (nI i))])
    (hnext : ∀ (σ1 τ1 : SS), I σ1 τ1 → ∀ (H : Heap) (locs : List Loc) (ls : Array Slot), va_P D ZCL (zw Ox Nx cA adx σ1) H → va_P D ZCL (zw Om Nm cA adm τ1) H → va_S (fun q => s.heap.size ≤ q) s.heap H locs → lv_has ls 4 [(0, .ref b), (1, .ref (adx 0)), (2, .ref (adm 0)), (3, .int (nI i))] → W p l e room_1 s m #[Value.ref b] below meth c H locs 123 628996 (lw_Z below #[Value.ref b] s) (F0 m 1527 ls [])) : W p l e room_1 s m #[Value.ref b] below meth c H locs 123 628996 (lw_Z below #[Value.ref b] s) (F0 m 734 ls []) := by
  have hx := X.1
  have hb := X.2.1
  have hbA : ¬ (fun q : Nat => s.heap.size ≤ q) b := Nat.not_le.mpr hbl
  have hmx : ∀ i j, i < Nm → j < Nx → adm i ≠ adx j := fun i j hi hj h => hxm j i hj hi h.symm
  have hi1 : vp_in (nI i + 1) L := zvin (k := 1) hiL (by decide) hL
  have hi2 : vp_in (nI i + 2) L := zvin (k := 2) hiL (by decide) hL
  refine lv_aload_n hx hb dL_law_734 rfl (lv_at hl 1 rfl) ?_
  refine lv_aload_n hx hb dL_law_735 rfl (lv_at hl 0 rfl) ?_
  refine lv_iload_n hx hb dL_law_736 rfl (lv_at hl 3 rfl) ?_
  refine lv_iconst (v := 1) hx hb dL_law_737 (by decide) ?_
  refine lv_iadd hx hb dL_law_738 ?_
  refine va_sld hx hb hX hbl hbA hS hi1 dL_law_739 ?_
  refine lv_aload_n hx hb dL_law_740 rfl (lv_at hl 0 rfl) ?_
  refine lv_iload_n hx hb dL_law_741 rfl (lv_at hl 3 rfl) ?_
  refine lv_iconst (v := 2) hx hb dL_law_742 (by decide) ?_
  refine lv_iadd hx hb dL_law_743 ?_
  refine va_sld hx hb hX hbl hbA hS hi2 dL_law_744 ?_
  obtain ⟨r1, σ1, τ1, hf1, hf2, hI⟩ := hst.stlike ((xs (nI i + 1).toNatClampNeg)) ((xs (nI i + 2).toNatClampNeg)) σ τ hI
  refine zcallL X hl.1 hPx hZx hPm hxm hS (As := [.int (xs (nI i + 1).toNatClampNeg), .int (xs (nI i + 2).toNatClampNeg)]) (rest := []) (cn_X11_like hf1) cw_X11_like zp_11 rfl (by decide) rfl ml_L_94 ⟨Nat.le_of_ble_eq_true rfl, Nat.le_of_ble_eq_true rfl⟩ ⟨Nat.le_of_ble_eq_true rfl, Nat.le_of_ble_eq_true rfl⟩ rfl rfl (Nat.le_of_ble_eq_true rfl) dL_law_745 hOx (fun H locs hPx hPm hS => ?_)
  refine lv_aload_n hx hb dL_law_748 rfl (lv_at hl 2 rfl) ?_
  refine lv_aload_n hx hb dL_law_749 rfl (lv_at hl 0 rfl) ?_
  refine lv_iload_n hx hb dL_law_750 rfl (lv_at hl 3 rfl) ?_
  refine lv_iconst (v := 1) hx hb dL_law_751 (by decide) ?_
  refine lv_iadd hx hb dL_law_752 ?_
  refine va_sld hx hb hX hbl hbA hS hi1 dL_law_753 ?_
  refine lv_aload_n hx hb dL_law_754 rfl (lv_at hl 0 rfl) ?_
  refine lv_iload_n hx hb dL_law_755 rfl (lv_at hl 3 rfl) ?_
  refine lv_iconst (v := 2) hx hb dL_law_756 (by decide) ?_
  refine lv_iadd hx hb dL_law_757 ?_
  refine va_sld hx hb hX hbl hbA hS hi2 dL_law_758 ?_
  refine zcallL X hl.1 hPm hZm hPx hmx hS (As := [.int (xs (nI i + 1).toNatClampNeg), .int (xs (nI i + 2).toNatClampNeg)]) (rest := [.int r1]) (cn_X12_like hf2) cw_X12_like zp_12 rfl (by decide) rfl ml_L_97 ⟨Nat.le_of_ble_eq_true rfl, Nat.le_of_ble_eq_true rfl⟩ ⟨Nat.le_of_ble_eq_true rfl, Nat.le_of_ble_eq_true rfl⟩ rfl rfl (Nat.le_of_ble_eq_true rfl) dL_law_759 hOm (fun H locs hPm hPx hS => ?_)
  refine lv_icmp_eq (tgt := 1527) hx hb dL_law_762 (by decide) (fun _ => ?_) (fun z => absurd rfl z)
  exact hnext σ1 τ1 hI _ _ _ hPx hPm hS hl
set_option maxHeartbeats 4000000 in
set_option maxRecDepth 100000 in
theorem law_case_19 {p : Program} {l : Launch} {e : Env} {s : State} {m : MethodId} {below : List Frame} {meth : Method} {c : Code} {cA : Nat → ClassId} {D : va_G} {E : Nat → Nat} {b L : Nat} {xs : Nat → Int32} {adx adm : Nat → Nat} {I : SS → SS → Prop} (X : ZX Oz 0 cA adz D E (fun q => s.heap.size ≤ q) p s m #[Value.ref b] meth c code R_law 4 ret) (hst : zSteps I) (hX : va_X b L xs s s.heap) (hbl : b < s.heap.size) (hZx : zD (fun q => s.heap.size ≤ q) Nx adx) (hZm : zD (fun q => s.heap.size ≤ q) Nm adm) (hxm : ∀ i j, i < Nx → j < Nm → adx i ≠ adm j)
    {i : Nat} (hiL : i + 6 ≤ L) (hL : L ≤ 3072) {σ τ : SS} (hI : I σ τ) {H : Heap} {locs : List Loc} {ls : Array Slot} (hPx : va_P D ZCL (zw Ox Nx cA adx σ) H) (hPm : va_P D ZCL (zw Om Nm cA adm τ) H) (hS : va_S (fun q => s.heap.size ≤ q) s.heap H locs) (hl : lv_has ls 4 [(0, .ref b), (1, .ref (adx 0)), (2, .ref (adm 0)), (3, .int (nI i))])
    (hnext : ∀ (σ1 τ1 : SS), I σ1 τ1 → ∀ (H : Heap) (locs : List Loc) (ls : Array Slot), va_P D ZCL (zw Ox Nx cA adx σ1) H → va_P D ZCL (zw Om Nm cA adm τ1) H → va_S (fun q => s.heap.size ≤ q) s.heap H locs → lv_has ls 4 [(0, .ref b), (1, .ref (adx 0)), (2, .ref (adm 0)), (3, .int (nI i))] → W p l e room_1 s m #[Value.ref b] below meth c H locs 123 628996 (lw_Z below #[Value.ref b] s) (F0 m 1527 ls [])) : W p l e room_1 s m #[Value.ref b] below meth c H locs 123 628996 (lw_Z below #[Value.ref b] s) (F0 m 767 ls []) := by
  have hx := X.1
  have hb := X.2.1
  have hbA : ¬ (fun q : Nat => s.heap.size ≤ q) b := Nat.not_le.mpr hbl
  have hmx : ∀ i j, i < Nm → j < Nx → adm i ≠ adx j := fun i j hi hj h => hxm j i hj hi h.symm
  have hi1 : vp_in (nI i + 1) L := zvin (k := 1) hiL (by decide) hL
  refine lv_aload_n hx hb dL_law_767 rfl (lv_at hl 1 rfl) ?_
  refine lv_aload_n hx hb dL_law_768 rfl (lv_at hl 0 rfl) ?_
  refine lv_iload_n hx hb dL_law_769 rfl (lv_at hl 3 rfl) ?_
  refine lv_iconst (v := 1) hx hb dL_law_770 (by decide) ?_
  refine lv_iadd hx hb dL_law_771 ?_
  refine va_sld hx hb hX hbl hbA hS hi1 dL_law_772 ?_
  obtain ⟨r1, σ1, τ1, hf1, hf2, hI⟩ := hst.stchern ((xs (nI i + 1).toNatClampNeg)) σ τ hI
  refine zcallL X hl.1 hPx hZx hPm hxm hS (As := [.int (xs (nI i + 1).toNatClampNeg)]) (rest := []) (cn_X11_chern hf1) cw_X11_chern zp_11 rfl (by decide) rfl ml_L_98 ⟨Nat.le_of_ble_eq_true rfl, Nat.le_of_ble_eq_true rfl⟩ ⟨Nat.le_of_ble_eq_true rfl, Nat.le_of_ble_eq_true rfl⟩ rfl rfl (Nat.le_of_ble_eq_true rfl) dL_law_773 hOx (fun H locs hPx hPm hS => ?_)
  refine lv_aload_n hx hb dL_law_776 rfl (lv_at hl 2 rfl) ?_
  refine lv_aload_n hx hb dL_law_777 rfl (lv_at hl 0 rfl) ?_
  refine lv_iload_n hx hb dL_law_778 rfl (lv_at hl 3 rfl) ?_
  refine lv_iconst (v := 1) hx hb dL_law_779 (by decide) ?_
  refine lv_iadd hx hb dL_law_780 ?_
  refine va_sld hx hb hX hbl hbA hS hi1 dL_law_781 ?_
  refine zcallL X hl.1 hPm hZm hPx hmx hS (As := [.int (xs (nI i + 1).toNatClampNeg)]) (rest := [.long r1]) (cn_X12_chern hf2) cw_X12_chern zp_12 rfl (by decide) rfl ml_L_101 ⟨Nat.le_of_ble_eq_true rfl, Nat.le_of_ble_eq_true rfl⟩ ⟨Nat.le_of_ble_eq_true rfl, Nat.le_of_ble_eq_true rfl⟩ rfl rfl (Nat.le_of_ble_eq_true rfl) dL_law_782 hOm (fun H locs hPm hPx hS => ?_)
  refine W.lcmp hx hb dL_law_785 ?_
  refine lv_if_eq (tgt := 1527) hx hb dL_law_786 (by decide) (fun _ => ?_) (fun z => absurd (by simp [lg_cmp]) z)
  exact hnext σ1 τ1 hI _ _ _ hPx hPm hS hl
set_option maxHeartbeats 4000000 in
set_option maxRecDepth 100000 in
theorem law_case_20 {p : Program} {l : Launch} {e : Env} {s : State} {m : MethodId} {below : List Frame} {meth : Method} {c : Code} {cA : Nat → ClassId} {D : va_G} {E : Nat → Nat} {b L : Nat} {xs : Nat → Int32} {adx adm : Nat → Nat} {I : SS → SS → Prop} (X : ZX Oz 0 cA adz D E (fun q => s.heap.size ≤ q) p s m #[Value.ref b] meth c code R_law 4 ret) (hst : zSteps I) (hX : va_X b L xs s s.heap) (hbl : b < s.heap.size) (hZx : zD (fun q => s.heap.size ≤ q) Nx adx) (hZm : zD (fun q => s.heap.size ≤ q) Nm adm) (hxm : ∀ i j, i < Nx → j < Nm → adx i ≠ adm j)
    {i : Nat} (hiL : i + 6 ≤ L) (hL : L ≤ 3072) {σ τ : SS} (hI : I σ τ) {H : Heap} {locs : List Loc} {ls : Array Slot} (hPx : va_P D ZCL (zw Ox Nx cA adx σ) H) (hPm : va_P D ZCL (zw Om Nm cA adm τ) H) (hS : va_S (fun q => s.heap.size ≤ q) s.heap H locs) (hl : lv_has ls 4 [(0, .ref b), (1, .ref (adx 0)), (2, .ref (adm 0)), (3, .int (nI i))])
    (hnext : ∀ (σ1 τ1 : SS), I σ1 τ1 → ∀ (H : Heap) (locs : List Loc) (ls : Array Slot), va_P D ZCL (zw Ox Nx cA adx σ1) H → va_P D ZCL (zw Om Nm cA adm τ1) H → va_S (fun q => s.heap.size ≤ q) s.heap H locs → lv_has ls 4 [(0, .ref b), (1, .ref (adx 0)), (2, .ref (adm 0)), (3, .int (nI i))] → W p l e room_1 s m #[Value.ref b] below meth c H locs 123 628996 (lw_Z below #[Value.ref b] s) (F0 m 1527 ls [])) : W p l e room_1 s m #[Value.ref b] below meth c H locs 123 628996 (lw_Z below #[Value.ref b] s) (F0 m 791 ls []) := by
  have hx := X.1
  have hb := X.2.1
  have hbA : ¬ (fun q : Nat => s.heap.size ≤ q) b := Nat.not_le.mpr hbl
  have hmx : ∀ i j, i < Nm → j < Nx → adm i ≠ adx j := fun i j hi hj h => hxm j i hj hi h.symm
  have hi1 : vp_in (nI i + 1) L := zvin (k := 1) hiL (by decide) hL
  have hi2 : vp_in (nI i + 2) L := zvin (k := 2) hiL (by decide) hL
  refine lv_aload_n hx hb dL_law_791 rfl (lv_at hl 1 rfl) ?_
  refine lv_aload_n hx hb dL_law_792 rfl (lv_at hl 0 rfl) ?_
  refine lv_iload_n hx hb dL_law_793 rfl (lv_at hl 3 rfl) ?_
  refine lv_iconst (v := 1) hx hb dL_law_794 (by decide) ?_
  refine lv_iadd hx hb dL_law_795 ?_
  refine va_sld hx hb hX hbl hbA hS hi1 dL_law_796 ?_
  refine lv_aload_n hx hb dL_law_797 rfl (lv_at hl 0 rfl) ?_
  refine lv_iload_n hx hb dL_law_798 rfl (lv_at hl 3 rfl) ?_
  refine lv_iconst (v := 2) hx hb dL_law_799 (by decide) ?_
  refine lv_iadd hx hb dL_law_800 ?_
  refine va_sld hx hb hX hbl hbA hS hi2 dL_law_801 ?_
  obtain ⟨r1, σ1, τ1, hf1, hf2, hI⟩ := hst.stcutOut ((xs (nI i + 1).toNatClampNeg)) ((xs (nI i + 2).toNatClampNeg)) σ τ hI
  refine zcallL X hl.1 hPx hZx hPm hxm hS (As := [.int (xs (nI i + 1).toNatClampNeg), .int (xs (nI i + 2).toNatClampNeg)]) (rest := []) (cn_X11_cutOut hf1) cw_X11_cutOut zp_11 rfl (by decide) rfl ml_L_102 ⟨Nat.le_of_ble_eq_true rfl, Nat.le_of_ble_eq_true rfl⟩ ⟨Nat.le_of_ble_eq_true rfl, Nat.le_of_ble_eq_true rfl⟩ rfl rfl (Nat.le_of_ble_eq_true rfl) dL_law_802 hOx (fun H locs hPx hPm hS => ?_)
  refine lv_aload_n hx hb dL_law_805 rfl (lv_at hl 2 rfl) ?_
  refine lv_aload_n hx hb dL_law_806 rfl (lv_at hl 0 rfl) ?_
  refine lv_iload_n hx hb dL_law_807 rfl (lv_at hl 3 rfl) ?_
  refine lv_iconst (v := 1) hx hb dL_law_808 (by decide) ?_
  refine lv_iadd hx hb dL_law_809 ?_
  refine va_sld hx hb hX hbl hbA hS hi1 dL_law_810 ?_
  refine lv_aload_n hx hb dL_law_811 rfl (lv_at hl 0 rfl) ?_
  refine lv_iload_n hx hb dL_law_812 rfl (lv_at hl 3 rfl) ?_
  refine lv_iconst (v := 2) hx hb dL_law_813 (by decide) ?_
  refine lv_iadd hx hb dL_law_814 ?_
  refine va_sld hx hb hX hbl hbA hS hi2 dL_law_815 ?_
  refine zcallL X hl.1 hPm hZm hPx hmx hS (As := [.int (xs (nI i + 1).toNatClampNeg), .int (xs (nI i + 2).toNatClampNeg)]) (rest := [.long r1]) (cn_X12_cutOut hf2) cw_X12_cutOut zp_12 rfl (by decide) rfl ml_L_105 ⟨Nat.le_of_ble_eq_true rfl, Nat.le_of_ble_eq_true rfl⟩ ⟨Nat.le_of_ble_eq_true rfl, Nat.le_of_ble_eq_true rfl⟩ rfl rfl (Nat.le_of_ble_eq_true rfl) dL_law_816 hOm (fun H locs hPm hPx hS => ?_)
  refine W.lcmp hx hb dL_law_819 ?_
  refine lv_if_eq (tgt := 1527) hx hb dL_law_820 (by decide) (fun _ => ?_) (fun z => absurd (by simp [lg_cmp]) z)
  exact hnext σ1 τ1 hI _ _ _ hPx hPm hS hl
set_option maxHeartbeats 4000000 in
set_option maxRecDepth 100000 in
theorem law_case_21 {p : Program} {l : Launch} {e : Env} {s : State} {m : MethodId} {below : List Frame} {meth : Method} {c : Code} {cA : Nat → ClassId} {D : va_G} {E : Nat → Nat} {b L : Nat} {xs : Nat → Int32} {adx adm : Nat → Nat} {I : SS → SS → Prop} (X : ZX Oz 0 cA adz D E (fun q => s.heap.size ≤ q) p s m #[Value.ref b] meth c code R_law 4 ret) (hst : zSteps I) (hX : va_X b L xs s s.heap) (hbl : b < s.heap.size) (hZx : zD (fun q => s.heap.size ≤ q) Nx adx) (hZm : zD (fun q => s.heap.size ≤ q) Nm adm) (hxm : ∀ i j, i < Nx → j < Nm → adx i ≠ adm j)
    {i : Nat} (hiL : i + 6 ≤ L) (hL : L ≤ 3072) {σ τ : SS} (hI : I σ τ) {H : Heap} {locs : List Loc} {ls : Array Slot} (hPx : va_P D ZCL (zw Ox Nx cA adx σ) H) (hPm : va_P D ZCL (zw Om Nm cA adm τ) H) (hS : va_S (fun q => s.heap.size ≤ q) s.heap H locs) (hl : lv_has ls 4 [(0, .ref b), (1, .ref (adx 0)), (2, .ref (adm 0)), (3, .int (nI i))])
    (hnext : ∀ (σ1 τ1 : SS), I σ1 τ1 → ∀ (H : Heap) (locs : List Loc) (ls : Array Slot), va_P D ZCL (zw Ox Nx cA adx σ1) H → va_P D ZCL (zw Om Nm cA adm τ1) H → va_S (fun q => s.heap.size ≤ q) s.heap H locs → lv_has ls 4 [(0, .ref b), (1, .ref (adx 0)), (2, .ref (adm 0)), (3, .int (nI i))] → W p l e room_1 s m #[Value.ref b] below meth c H locs 123 628996 (lw_Z below #[Value.ref b] s) (F0 m 1527 ls [])) : W p l e room_1 s m #[Value.ref b] below meth c H locs 123 628996 (lw_Z below #[Value.ref b] s) (F0 m 825 ls []) := by
  have hx := X.1
  have hb := X.2.1
  have hbA : ¬ (fun q : Nat => s.heap.size ≤ q) b := Nat.not_le.mpr hbl
  have hmx : ∀ i j, i < Nm → j < Nx → adm i ≠ adx j := fun i j hi hj h => hxm j i hj hi h.symm
  have hi1 : vp_in (nI i + 1) L := zvin (k := 1) hiL (by decide) hL
  have hi2 : vp_in (nI i + 2) L := zvin (k := 2) hiL (by decide) hL
  have hi3 : vp_in (nI i + 3) L := zvin (k := 3) hiL (by decide) hL
  refine lv_aload_n hx hb dL_law_825 rfl (lv_at hl 1 rfl) ?_
  refine lv_aload_n hx hb dL_law_826 rfl (lv_at hl 0 rfl) ?_
  refine lv_iload_n hx hb dL_law_827 rfl (lv_at hl 3 rfl) ?_
  refine lv_iconst (v := 1) hx hb dL_law_828 (by decide) ?_
  refine lv_iadd hx hb dL_law_829 ?_
  refine va_sld hx hb hX hbl hbA hS hi1 dL_law_830 ?_
  refine lv_aload_n hx hb dL_law_831 rfl (lv_at hl 0 rfl) ?_
  refine lv_iload_n hx hb dL_law_832 rfl (lv_at hl 3 rfl) ?_
  refine lv_iconst (v := 2) hx hb dL_law_833 (by decide) ?_
  refine lv_iadd hx hb dL_law_834 ?_
  refine va_sld hx hb hX hbl hbA hS hi2 dL_law_835 ?_
  refine lv_aload_n hx hb dL_law_836 rfl (lv_at hl 0 rfl) ?_
  refine lv_iload_n hx hb dL_law_837 rfl (lv_at hl 3 rfl) ?_
  refine lv_iconst (v := 3) hx hb dL_law_838 (by decide) ?_
  refine lv_iadd hx hb dL_law_839 ?_
  refine va_sld hx hb hX hbl hbA hS hi3 dL_law_840 ?_
  obtain ⟨r1, σ1, τ1, hf1, hf2, hI⟩ := hst.stthrough ((xs (nI i + 1).toNatClampNeg)) ((xs (nI i + 2).toNatClampNeg)) ((xs (nI i + 3).toNatClampNeg)) σ τ hI
  refine zcallL X hl.1 hPx hZx hPm hxm hS (As := [.int (xs (nI i + 1).toNatClampNeg), .int (xs (nI i + 2).toNatClampNeg), .int (xs (nI i + 3).toNatClampNeg)]) (rest := []) (cn_X11_through hf1) cw_X11_through zp_11 rfl (by decide) rfl ml_L_106 ⟨Nat.le_of_ble_eq_true rfl, Nat.le_of_ble_eq_true rfl⟩ ⟨Nat.le_of_ble_eq_true rfl, Nat.le_of_ble_eq_true rfl⟩ rfl rfl (Nat.le_of_ble_eq_true rfl) dL_law_841 hOx (fun H locs hPx hPm hS => ?_)
  refine lv_aload_n hx hb dL_law_844 rfl (lv_at hl 2 rfl) ?_
  refine lv_aload_n hx hb dL_law_845 rfl (lv_at hl 0 rfl) ?_
  refine lv_iload_n hx hb dL_law_846 rfl (lv_at hl 3 rfl) ?_
  refine lv_iconst (v := 1) hx hb dL_law_847 (by decide) ?_
  refine lv_iadd hx hb dL_law_848 ?_
  refine va_sld hx hb hX hbl hbA hS hi1 dL_law_849 ?_
  refine lv_aload_n hx hb dL_law_850 rfl (lv_at hl 0 rfl) ?_
  refine lv_iload_n hx hb dL_law_851 rfl (lv_at hl 3 rfl) ?_
  refine lv_iconst (v := 2) hx hb dL_law_852 (by decide) ?_
  refine lv_iadd hx hb dL_law_853 ?_
  refine va_sld hx hb hX hbl hbA hS hi2 dL_law_854 ?_
  refine lv_aload_n hx hb dL_law_855 rfl (lv_at hl 0 rfl) ?_
  refine lv_iload_n hx hb dL_law_856 rfl (lv_at hl 3 rfl) ?_
  refine lv_iconst (v := 3) hx hb dL_law_857 (by decide) ?_
  refine lv_iadd hx hb dL_law_858 ?_
  refine va_sld hx hb hX hbl hbA hS hi3 dL_law_859 ?_
  refine zcallL X hl.1 hPm hZm hPx hmx hS (As := [.int (xs (nI i + 1).toNatClampNeg), .int (xs (nI i + 2).toNatClampNeg), .int (xs (nI i + 3).toNatClampNeg)]) (rest := [.long r1]) (cn_X12_through hf2) cw_X12_through zp_12 rfl (by decide) rfl ml_L_110 ⟨Nat.le_of_ble_eq_true rfl, Nat.le_of_ble_eq_true rfl⟩ ⟨Nat.le_of_ble_eq_true rfl, Nat.le_of_ble_eq_true rfl⟩ rfl rfl (Nat.le_of_ble_eq_true rfl) dL_law_860 hOm (fun H locs hPm hPx hS => ?_)
  refine W.lcmp hx hb dL_law_863 ?_
  refine lv_if_eq (tgt := 1527) hx hb dL_law_864 (by decide) (fun _ => ?_) (fun z => absurd (by simp [lg_cmp]) z)
  exact hnext σ1 τ1 hI _ _ _ hPx hPm hS hl
set_option maxHeartbeats 4000000 in
set_option maxRecDepth 100000 in
theorem law_case_22 {p : Program} {l : Launch} {e : Env} {s : State} {m : MethodId} {below : List Frame} {meth : Method} {c : Code} {cA : Nat → ClassId} {D : va_G} {E : Nat → Nat} {b L : Nat} {xs : Nat → Int32} {adx adm : Nat → Nat} {I : SS → SS → Prop} (X : ZX Oz 0 cA adz D E (fun q => s.heap.size ≤ q) p s m #[Value.ref b] meth c code R_law 4 ret) (hst : zSteps I) (hX : va_X b L xs s s.heap) (hbl : b < s.heap.size) (hZx : zD (fun q => s.heap.size ≤ q) Nx adx) (hZm : zD (fun q => s.heap.size ≤ q) Nm adm) (hxm : ∀ i j, i < Nx → j < Nm → adx i ≠ adm j)
    {i : Nat} (hiL : i + 6 ≤ L) (hL : L ≤ 3072) {σ τ : SS} (hI : I σ τ) {H : Heap} {locs : List Loc} {ls : Array Slot} (hPx : va_P D ZCL (zw Ox Nx cA adx σ) H) (hPm : va_P D ZCL (zw Om Nm cA adm τ) H) (hS : va_S (fun q => s.heap.size ≤ q) s.heap H locs) (hl : lv_has ls 4 [(0, .ref b), (1, .ref (adx 0)), (2, .ref (adm 0)), (3, .int (nI i))])
    (hnext : ∀ (σ1 τ1 : SS), I σ1 τ1 → ∀ (H : Heap) (locs : List Loc) (ls : Array Slot), va_P D ZCL (zw Ox Nx cA adx σ1) H → va_P D ZCL (zw Om Nm cA adm τ1) H → va_S (fun q => s.heap.size ≤ q) s.heap H locs → lv_has ls 4 [(0, .ref b), (1, .ref (adx 0)), (2, .ref (adm 0)), (3, .int (nI i))] → W p l e room_1 s m #[Value.ref b] below meth c H locs 123 628996 (lw_Z below #[Value.ref b] s) (F0 m 1527 ls [])) : W p l e room_1 s m #[Value.ref b] below meth c H locs 123 628996 (lw_Z below #[Value.ref b] s) (F0 m 869 ls []) := by
  have hx := X.1
  have hb := X.2.1
  have hbA : ¬ (fun q : Nat => s.heap.size ≤ q) b := Nat.not_le.mpr hbl
  have hmx : ∀ i j, i < Nm → j < Nx → adm i ≠ adx j := fun i j hi hj h => hxm j i hj hi h.symm
  have hi1 : vp_in (nI i + 1) L := zvin (k := 1) hiL (by decide) hL
  have hi2 : vp_in (nI i + 2) L := zvin (k := 2) hiL (by decide) hL
  have hi3 : vp_in (nI i + 3) L := zvin (k := 3) hiL (by decide) hL
  have hi4 : vp_in (nI i + 4) L := zvin (k := 4) hiL (by decide) hL
  have hi5 : vp_in (nI i + 5) L := zvin (k := 5) hiL (by decide) hL
  refine lv_aload_n hx hb dL_law_869 rfl (lv_at hl 1 rfl) ?_
  refine lv_aload_n hx hb dL_law_870 rfl (lv_at hl 0 rfl) ?_
  refine lv_iload_n hx hb dL_law_871 rfl (lv_at hl 3 rfl) ?_
  refine lv_iconst (v := 1) hx hb dL_law_872 (by decide) ?_
  refine lv_iadd hx hb dL_law_873 ?_
  refine va_sld hx hb hX hbl hbA hS hi1 dL_law_874 ?_
  refine lv_aload_n hx hb dL_law_875 rfl (lv_at hl 0 rfl) ?_
  refine lv_iload_n hx hb dL_law_876 rfl (lv_at hl 3 rfl) ?_
  refine lv_iconst (v := 2) hx hb dL_law_877 (by decide) ?_
  refine lv_iadd hx hb dL_law_878 ?_
  refine va_sld hx hb hX hbl hbA hS hi2 dL_law_879 ?_
  refine lv_aload_n hx hb dL_law_880 rfl (lv_at hl 0 rfl) ?_
  refine lv_iload_n hx hb dL_law_881 rfl (lv_at hl 3 rfl) ?_
  refine lv_iconst (v := 3) hx hb dL_law_882 (by decide) ?_
  refine lv_iadd hx hb dL_law_883 ?_
  refine va_sld hx hb hX hbl hbA hS hi3 dL_law_884 ?_
  refine lv_i2l hx hb dL_law_885 rfl ?_
  refine lv_bipush (v := 32) hx hb dL_law_886 (by decide) ?_
  refine lv_lshl hx hb dL_law_888 rfl ?_
  refine lv_aload_n hx hb dL_law_889 rfl (lv_at hl 0 rfl) ?_
  refine lv_iload_n hx hb dL_law_890 rfl (lv_at hl 3 rfl) ?_
  refine lv_iconst (v := 4) hx hb dL_law_891 (by decide) ?_
  refine lv_iadd hx hb dL_law_892 ?_
  refine va_sld hx hb hX hbl hbA hS hi4 dL_law_893 ?_
  refine lv_i2l hx hb dL_law_894 rfl ?_
  refine zldc2 X co_L_54 dL_law_895 ?_
  refine lv_land hx hb dL_law_898 ?_
  refine lv_lor hx hb dL_law_899 ?_
  refine lv_aload_n hx hb dL_law_900 rfl (lv_at hl 0 rfl) ?_
  refine lv_iload_n hx hb dL_law_901 rfl (lv_at hl 3 rfl) ?_
  refine lv_iconst (v := 5) hx hb dL_law_902 (by decide) ?_
  refine lv_iadd hx hb dL_law_903 ?_
  refine va_sld hx hb hX hbl hbA hS hi5 dL_law_904 ?_
  obtain ⟨r1, σ1, τ1, hf1, hf2, hI⟩ := hst.stfits ((xs (nI i + 1).toNatClampNeg)) ((xs (nI i + 2).toNatClampNeg)) (((((xs (nI i + 3).toNatClampNeg)).toInt64 <<< ((32 : Int32).toInt64 &&& 63)) ||| (((xs (nI i + 4).toNatClampNeg)).toInt64 &&& (4294967295 : Int64)))) ((xs (nI i + 5).toNatClampNeg)) σ τ hI
  refine zcallL X hl.1 hPx hZx hPm hxm hS (As := [.int (xs (nI i + 1).toNatClampNeg), .int (xs (nI i + 2).toNatClampNeg), .long ((((xs (nI i + 3).toNatClampNeg)).toInt64 <<< ((32 : Int32).toInt64 &&& 63)) ||| (((xs (nI i + 4).toNatClampNeg)).toInt64 &&& (4294967295 : Int64))), .int (xs (nI i + 5).toNatClampNeg)]) (rest := []) (cn_X11_fits hf1) cw_X11_fits zp_11 rfl (by decide) rfl ml_L_111 ⟨Nat.le_of_ble_eq_true rfl, Nat.le_of_ble_eq_true rfl⟩ ⟨Nat.le_of_ble_eq_true rfl, Nat.le_of_ble_eq_true rfl⟩ rfl rfl (Nat.le_of_ble_eq_true rfl) dL_law_905 hOx (fun H locs hPx hPm hS => ?_)
  refine lv_aload_n hx hb dL_law_908 rfl (lv_at hl 2 rfl) ?_
  refine lv_aload_n hx hb dL_law_909 rfl (lv_at hl 0 rfl) ?_
  refine lv_iload_n hx hb dL_law_910 rfl (lv_at hl 3 rfl) ?_
  refine lv_iconst (v := 1) hx hb dL_law_911 (by decide) ?_
  refine lv_iadd hx hb dL_law_912 ?_
  refine va_sld hx hb hX hbl hbA hS hi1 dL_law_913 ?_
  refine lv_aload_n hx hb dL_law_914 rfl (lv_at hl 0 rfl) ?_
  refine lv_iload_n hx hb dL_law_915 rfl (lv_at hl 3 rfl) ?_
  refine lv_iconst (v := 2) hx hb dL_law_916 (by decide) ?_
  refine lv_iadd hx hb dL_law_917 ?_
  refine va_sld hx hb hX hbl hbA hS hi2 dL_law_918 ?_
  refine lv_aload_n hx hb dL_law_919 rfl (lv_at hl 0 rfl) ?_
  refine lv_iload_n hx hb dL_law_920 rfl (lv_at hl 3 rfl) ?_
  refine lv_iconst (v := 3) hx hb dL_law_921 (by decide) ?_
  refine lv_iadd hx hb dL_law_922 ?_
  refine va_sld hx hb hX hbl hbA hS hi3 dL_law_923 ?_
  refine lv_i2l hx hb dL_law_924 rfl ?_
  refine lv_bipush (v := 32) hx hb dL_law_925 (by decide) ?_
  refine lv_lshl hx hb dL_law_927 rfl ?_
  refine lv_aload_n hx hb dL_law_928 rfl (lv_at hl 0 rfl) ?_
  refine lv_iload_n hx hb dL_law_929 rfl (lv_at hl 3 rfl) ?_
  refine lv_iconst (v := 4) hx hb dL_law_930 (by decide) ?_
  refine lv_iadd hx hb dL_law_931 ?_
  refine va_sld hx hb hX hbl hbA hS hi4 dL_law_932 ?_
  refine lv_i2l hx hb dL_law_933 rfl ?_
  refine zldc2 X co_L_54 dL_law_934 ?_
  refine lv_land hx hb dL_law_937 ?_
  refine lv_lor hx hb dL_law_938 ?_
  refine lv_aload_n hx hb dL_law_939 rfl (lv_at hl 0 rfl) ?_
  refine lv_iload_n hx hb dL_law_940 rfl (lv_at hl 3 rfl) ?_
  refine lv_iconst (v := 5) hx hb dL_law_941 (by decide) ?_
  refine lv_iadd hx hb dL_law_942 ?_
  refine va_sld hx hb hX hbl hbA hS hi5 dL_law_943 ?_
  refine zcallL X hl.1 hPm hZm hPx hmx hS (As := [.int (xs (nI i + 1).toNatClampNeg), .int (xs (nI i + 2).toNatClampNeg), .long ((((xs (nI i + 3).toNatClampNeg)).toInt64 <<< ((32 : Int32).toInt64 &&& 63)) ||| (((xs (nI i + 4).toNatClampNeg)).toInt64 &&& (4294967295 : Int64))), .int (xs (nI i + 5).toNatClampNeg)]) (rest := [.int r1]) (cn_X12_fits hf2) cw_X12_fits zp_12 rfl (by decide) rfl ml_L_115 ⟨Nat.le_of_ble_eq_true rfl, Nat.le_of_ble_eq_true rfl⟩ ⟨Nat.le_of_ble_eq_true rfl, Nat.le_of_ble_eq_true rfl⟩ rfl rfl (Nat.le_of_ble_eq_true rfl) dL_law_944 hOm (fun H locs hPm hPx hS => ?_)
  refine lv_icmp_eq (tgt := 1527) hx hb dL_law_947 (by decide) (fun _ => ?_) (fun z => absurd rfl z)
  exact hnext σ1 τ1 hI _ _ _ hPx hPm hS hl
set_option maxHeartbeats 4000000 in
set_option maxRecDepth 100000 in
theorem law_case_23 {p : Program} {l : Launch} {e : Env} {s : State} {m : MethodId} {below : List Frame} {meth : Method} {c : Code} {cA : Nat → ClassId} {D : va_G} {E : Nat → Nat} {b L : Nat} {xs : Nat → Int32} {adx adm : Nat → Nat} {I : SS → SS → Prop} (X : ZX Oz 0 cA adz D E (fun q => s.heap.size ≤ q) p s m #[Value.ref b] meth c code R_law 4 ret) (hst : zSteps I) (hX : va_X b L xs s s.heap) (hbl : b < s.heap.size) (hZx : zD (fun q => s.heap.size ≤ q) Nx adx) (hZm : zD (fun q => s.heap.size ≤ q) Nm adm) (hxm : ∀ i j, i < Nx → j < Nm → adx i ≠ adm j)
    {i : Nat} (hiL : i + 6 ≤ L) (hL : L ≤ 3072) {σ τ : SS} (hI : I σ τ) {H : Heap} {locs : List Loc} {ls : Array Slot} (hPx : va_P D ZCL (zw Ox Nx cA adx σ) H) (hPm : va_P D ZCL (zw Om Nm cA adm τ) H) (hS : va_S (fun q => s.heap.size ≤ q) s.heap H locs) (hl : lv_has ls 4 [(0, .ref b), (1, .ref (adx 0)), (2, .ref (adm 0)), (3, .int (nI i))])
    (hnext : ∀ (σ1 τ1 : SS), I σ1 τ1 → ∀ (H : Heap) (locs : List Loc) (ls : Array Slot), va_P D ZCL (zw Ox Nx cA adx σ1) H → va_P D ZCL (zw Om Nm cA adm τ1) H → va_S (fun q => s.heap.size ≤ q) s.heap H locs → lv_has ls 4 [(0, .ref b), (1, .ref (adx 0)), (2, .ref (adm 0)), (3, .int (nI i))] → W p l e room_1 s m #[Value.ref b] below meth c H locs 123 628996 (lw_Z below #[Value.ref b] s) (F0 m 1527 ls [])) : W p l e room_1 s m #[Value.ref b] below meth c H locs 123 628996 (lw_Z below #[Value.ref b] s) (F0 m 952 ls []) := by
  have hx := X.1
  have hb := X.2.1
  have hbA : ¬ (fun q : Nat => s.heap.size ≤ q) b := Nat.not_le.mpr hbl
  have hmx : ∀ i j, i < Nm → j < Nx → adm i ≠ adx j := fun i j hi hj h => hxm j i hj hi h.symm
  have hi1 : vp_in (nI i + 1) L := zvin (k := 1) hiL (by decide) hL
  refine lv_aload_n hx hb dL_law_952 rfl (lv_at hl 1 rfl) ?_
  refine lv_aload_n hx hb dL_law_953 rfl (lv_at hl 0 rfl) ?_
  refine lv_iload_n hx hb dL_law_954 rfl (lv_at hl 3 rfl) ?_
  refine lv_iconst (v := 1) hx hb dL_law_955 (by decide) ?_
  refine lv_iadd hx hb dL_law_956 ?_
  refine va_sld hx hb hX hbl hbA hS hi1 dL_law_957 ?_
  obtain ⟨r1, σ1, τ1, hf1, hf2, hI⟩ := hst.stjudge ((xs (nI i + 1).toNatClampNeg)) σ τ hI
  refine zcallL X hl.1 hPx hZx hPm hxm hS (As := [.int (xs (nI i + 1).toNatClampNeg)]) (rest := []) (cn_X11_judge hf1) cw_X11_judge zp_11 rfl (by decide) rfl ml_L_116 ⟨Nat.le_of_ble_eq_true rfl, Nat.le_of_ble_eq_true rfl⟩ ⟨Nat.le_of_ble_eq_true rfl, Nat.le_of_ble_eq_true rfl⟩ rfl rfl (Nat.le_of_ble_eq_true rfl) dL_law_958 hOx (fun H locs hPx hPm hS => ?_)
  refine lv_aload_n hx hb dL_law_961 rfl (lv_at hl 2 rfl) ?_
  refine lv_aload_n hx hb dL_law_962 rfl (lv_at hl 0 rfl) ?_
  refine lv_iload_n hx hb dL_law_963 rfl (lv_at hl 3 rfl) ?_
  refine lv_iconst (v := 1) hx hb dL_law_964 (by decide) ?_
  refine lv_iadd hx hb dL_law_965 ?_
  refine va_sld hx hb hX hbl hbA hS hi1 dL_law_966 ?_
  refine zcallL X hl.1 hPm hZm hPx hmx hS (As := [.int (xs (nI i + 1).toNatClampNeg)]) (rest := [.int r1]) (cn_X12_judge hf2) cw_X12_judge zp_12 rfl (by decide) rfl ml_L_119 ⟨Nat.le_of_ble_eq_true rfl, Nat.le_of_ble_eq_true rfl⟩ ⟨Nat.le_of_ble_eq_true rfl, Nat.le_of_ble_eq_true rfl⟩ rfl rfl (Nat.le_of_ble_eq_true rfl) dL_law_967 hOm (fun H locs hPm hPx hS => ?_)
  refine lv_icmp_eq (tgt := 1527) hx hb dL_law_970 (by decide) (fun _ => ?_) (fun z => absurd rfl z)
  exact hnext σ1 τ1 hI _ _ _ hPx hPm hS hl
set_option maxHeartbeats 4000000 in
set_option maxRecDepth 100000 in
theorem law_case_24 {p : Program} {l : Launch} {e : Env} {s : State} {m : MethodId} {below : List Frame} {meth : Method} {c : Code} {cA : Nat → ClassId} {D : va_G} {E : Nat → Nat} {b L : Nat} {xs : Nat → Int32} {adx adm : Nat → Nat} {I : SS → SS → Prop} (X : ZX Oz 0 cA adz D E (fun q => s.heap.size ≤ q) p s m #[Value.ref b] meth c code R_law 4 ret) (hst : zSteps I) (hX : va_X b L xs s s.heap) (hbl : b < s.heap.size) (hZx : zD (fun q => s.heap.size ≤ q) Nx adx) (hZm : zD (fun q => s.heap.size ≤ q) Nm adm) (hxm : ∀ i j, i < Nx → j < Nm → adx i ≠ adm j)
    {i : Nat} (hiL : i + 6 ≤ L) (hL : L ≤ 3072) {σ τ : SS} (hI : I σ τ) {H : Heap} {locs : List Loc} {ls : Array Slot} (hPx : va_P D ZCL (zw Ox Nx cA adx σ) H) (hPm : va_P D ZCL (zw Om Nm cA adm τ) H) (hS : va_S (fun q => s.heap.size ≤ q) s.heap H locs) (hl : lv_has ls 4 [(0, .ref b), (1, .ref (adx 0)), (2, .ref (adm 0)), (3, .int (nI i))])
    (hnext : ∀ (σ1 τ1 : SS), I σ1 τ1 → ∀ (H : Heap) (locs : List Loc) (ls : Array Slot), va_P D ZCL (zw Ox Nx cA adx σ1) H → va_P D ZCL (zw Om Nm cA adm τ1) H → va_S (fun q => s.heap.size ≤ q) s.heap H locs → lv_has ls 4 [(0, .ref b), (1, .ref (adx 0)), (2, .ref (adm 0)), (3, .int (nI i))] → W p l e room_1 s m #[Value.ref b] below meth c H locs 123 628996 (lw_Z below #[Value.ref b] s) (F0 m 1527 ls [])) : W p l e room_1 s m #[Value.ref b] below meth c H locs 123 628996 (lw_Z below #[Value.ref b] s) (F0 m 975 ls []) := by
  have hx := X.1
  have hb := X.2.1
  have hbA : ¬ (fun q : Nat => s.heap.size ≤ q) b := Nat.not_le.mpr hbl
  have hmx : ∀ i j, i < Nm → j < Nx → adm i ≠ adx j := fun i j hi hj h => hxm j i hj hi h.symm
  have hi1 : vp_in (nI i + 1) L := zvin (k := 1) hiL (by decide) hL
  have hi2 : vp_in (nI i + 2) L := zvin (k := 2) hiL (by decide) hL
  have hi3 : vp_in (nI i + 3) L := zvin (k := 3) hiL (by decide) hL
  refine lv_aload_n hx hb dL_law_975 rfl (lv_at hl 1 rfl) ?_
  refine lv_aload_n hx hb dL_law_976 rfl (lv_at hl 0 rfl) ?_
  refine lv_iload_n hx hb dL_law_977 rfl (lv_at hl 3 rfl) ?_
  refine lv_iconst (v := 1) hx hb dL_law_978 (by decide) ?_
  refine lv_iadd hx hb dL_law_979 ?_
  refine va_sld hx hb hX hbl hbA hS hi1 dL_law_980 ?_
  refine lv_aload_n hx hb dL_law_981 rfl (lv_at hl 0 rfl) ?_
  refine lv_iload_n hx hb dL_law_982 rfl (lv_at hl 3 rfl) ?_
  refine lv_iconst (v := 2) hx hb dL_law_983 (by decide) ?_
  refine lv_iadd hx hb dL_law_984 ?_
  refine va_sld hx hb hX hbl hbA hS hi2 dL_law_985 ?_
  refine lv_aload_n hx hb dL_law_986 rfl (lv_at hl 0 rfl) ?_
  refine lv_iload_n hx hb dL_law_987 rfl (lv_at hl 3 rfl) ?_
  refine lv_iconst (v := 3) hx hb dL_law_988 (by decide) ?_
  refine lv_iadd hx hb dL_law_989 ?_
  refine va_sld hx hb hX hbl hbA hS hi3 dL_law_990 ?_
  obtain ⟨r1, σ1, τ1, hf1, hf2, hI⟩ := hst.stlots ((xs (nI i + 1).toNatClampNeg)) ((xs (nI i + 2).toNatClampNeg)) ((xs (nI i + 3).toNatClampNeg)) σ τ hI
  refine zcallL X hl.1 hPx hZx hPm hxm hS (As := [.int (xs (nI i + 1).toNatClampNeg), .int (xs (nI i + 2).toNatClampNeg), .int (xs (nI i + 3).toNatClampNeg)]) (rest := []) (cn_X11_lots hf1) cw_X11_lots zp_11 rfl (by decide) rfl ml_L_120 ⟨Nat.le_of_ble_eq_true rfl, Nat.le_of_ble_eq_true rfl⟩ ⟨Nat.le_of_ble_eq_true rfl, Nat.le_of_ble_eq_true rfl⟩ rfl rfl (Nat.le_of_ble_eq_true rfl) dL_law_991 hOx (fun H locs hPx hPm hS => ?_)
  refine lv_aload_n hx hb dL_law_994 rfl (lv_at hl 2 rfl) ?_
  refine lv_aload_n hx hb dL_law_995 rfl (lv_at hl 0 rfl) ?_
  refine lv_iload_n hx hb dL_law_996 rfl (lv_at hl 3 rfl) ?_
  refine lv_iconst (v := 1) hx hb dL_law_997 (by decide) ?_
  refine lv_iadd hx hb dL_law_998 ?_
  refine va_sld hx hb hX hbl hbA hS hi1 dL_law_999 ?_
  refine lv_aload_n hx hb dL_law_1000 rfl (lv_at hl 0 rfl) ?_
  refine lv_iload_n hx hb dL_law_1001 rfl (lv_at hl 3 rfl) ?_
  refine lv_iconst (v := 2) hx hb dL_law_1002 (by decide) ?_
  refine lv_iadd hx hb dL_law_1003 ?_
  refine va_sld hx hb hX hbl hbA hS hi2 dL_law_1004 ?_
  refine lv_aload_n hx hb dL_law_1005 rfl (lv_at hl 0 rfl) ?_
  refine lv_iload_n hx hb dL_law_1006 rfl (lv_at hl 3 rfl) ?_
  refine lv_iconst (v := 3) hx hb dL_law_1007 (by decide) ?_
  refine lv_iadd hx hb dL_law_1008 ?_
  refine va_sld hx hb hX hbl hbA hS hi3 dL_law_1009 ?_
  refine zcallL X hl.1 hPm hZm hPx hmx hS (As := [.int (xs (nI i + 1).toNatClampNeg), .int (xs (nI i + 2).toNatClampNeg), .int (xs (nI i + 3).toNatClampNeg)]) (rest := [.long r1]) (cn_X12_lots hf2) cw_X12_lots zp_12 rfl (by decide) rfl ml_L_123 ⟨Nat.le_of_ble_eq_true rfl, Nat.le_of_ble_eq_true rfl⟩ ⟨Nat.le_of_ble_eq_true rfl, Nat.le_of_ble_eq_true rfl⟩ rfl rfl (Nat.le_of_ble_eq_true rfl) dL_law_1010 hOm (fun H locs hPm hPx hS => ?_)
  refine W.lcmp hx hb dL_law_1013 ?_
  refine lv_if_eq (tgt := 1527) hx hb dL_law_1014 (by decide) (fun _ => ?_) (fun z => absurd (by simp [lg_cmp]) z)
  exact hnext σ1 τ1 hI _ _ _ hPx hPm hS hl
set_option maxHeartbeats 4000000 in
set_option maxRecDepth 100000 in
theorem law_case_25 {p : Program} {l : Launch} {e : Env} {s : State} {m : MethodId} {below : List Frame} {meth : Method} {c : Code} {cA : Nat → ClassId} {D : va_G} {E : Nat → Nat} {b L : Nat} {xs : Nat → Int32} {adx adm : Nat → Nat} {I : SS → SS → Prop} (X : ZX Oz 0 cA adz D E (fun q => s.heap.size ≤ q) p s m #[Value.ref b] meth c code R_law 4 ret) (hst : zSteps I) (hX : va_X b L xs s s.heap) (hbl : b < s.heap.size) (hZx : zD (fun q => s.heap.size ≤ q) Nx adx) (hZm : zD (fun q => s.heap.size ≤ q) Nm adm) (hxm : ∀ i j, i < Nx → j < Nm → adx i ≠ adm j)
    {i : Nat} (hiL : i + 6 ≤ L) (hL : L ≤ 3072) {σ τ : SS} (hI : I σ τ) {H : Heap} {locs : List Loc} {ls : Array Slot} (hPx : va_P D ZCL (zw Ox Nx cA adx σ) H) (hPm : va_P D ZCL (zw Om Nm cA adm τ) H) (hS : va_S (fun q => s.heap.size ≤ q) s.heap H locs) (hl : lv_has ls 4 [(0, .ref b), (1, .ref (adx 0)), (2, .ref (adm 0)), (3, .int (nI i))])
    (hnext : ∀ (σ1 τ1 : SS), I σ1 τ1 → ∀ (H : Heap) (locs : List Loc) (ls : Array Slot), va_P D ZCL (zw Ox Nx cA adx σ1) H → va_P D ZCL (zw Om Nm cA adm τ1) H → va_S (fun q => s.heap.size ≤ q) s.heap H locs → lv_has ls 4 [(0, .ref b), (1, .ref (adx 0)), (2, .ref (adm 0)), (3, .int (nI i))] → W p l e room_1 s m #[Value.ref b] below meth c H locs 123 628996 (lw_Z below #[Value.ref b] s) (F0 m 1527 ls [])) : W p l e room_1 s m #[Value.ref b] below meth c H locs 123 628996 (lw_Z below #[Value.ref b] s) (F0 m 1019 ls []) := by
  have hx := X.1
  have hb := X.2.1
  have hbA : ¬ (fun q : Nat => s.heap.size ≤ q) b := Nat.not_le.mpr hbl
  have hmx : ∀ i j, i < Nm → j < Nx → adm i ≠ adx j := fun i j hi hj h => hxm j i hj hi h.symm
  have hi1 : vp_in (nI i + 1) L := zvin (k := 1) hiL (by decide) hL
  refine lv_aload_n hx hb dL_law_1019 rfl (lv_at hl 1 rfl) ?_
  refine lv_aload_n hx hb dL_law_1020 rfl (lv_at hl 0 rfl) ?_
  refine lv_iload_n hx hb dL_law_1021 rfl (lv_at hl 3 rfl) ?_
  refine lv_iconst (v := 1) hx hb dL_law_1022 (by decide) ?_
  refine lv_iadd hx hb dL_law_1023 ?_
  refine va_sld hx hb hX hbl hbA hS hi1 dL_law_1024 ?_
  obtain ⟨r1, σ1, τ1, hf1, hf2, hI⟩ := hst.stfeed ((xs (nI i + 1).toNatClampNeg)) σ τ hI
  refine zcallL X hl.1 hPx hZx hPm hxm hS (As := [.int (xs (nI i + 1).toNatClampNeg)]) (rest := []) (cn_X11_feed hf1) cw_X11_feed zp_11 rfl (by decide) rfl ml_L_124 ⟨Nat.le_of_ble_eq_true rfl, Nat.le_of_ble_eq_true rfl⟩ ⟨Nat.le_of_ble_eq_true rfl, Nat.le_of_ble_eq_true rfl⟩ rfl rfl (Nat.le_of_ble_eq_true rfl) dL_law_1025 hOx (fun H locs hPx hPm hS => ?_)
  refine lv_aload_n hx hb dL_law_1028 rfl (lv_at hl 2 rfl) ?_
  refine lv_aload_n hx hb dL_law_1029 rfl (lv_at hl 0 rfl) ?_
  refine lv_iload_n hx hb dL_law_1030 rfl (lv_at hl 3 rfl) ?_
  refine lv_iconst (v := 1) hx hb dL_law_1031 (by decide) ?_
  refine lv_iadd hx hb dL_law_1032 ?_
  refine va_sld hx hb hX hbl hbA hS hi1 dL_law_1033 ?_
  refine zcallL X hl.1 hPm hZm hPx hmx hS (As := [.int (xs (nI i + 1).toNatClampNeg)]) (rest := [.int r1]) (cn_X12_feed hf2) cw_X12_feed zp_12 rfl (by decide) rfl ml_L_127 ⟨Nat.le_of_ble_eq_true rfl, Nat.le_of_ble_eq_true rfl⟩ ⟨Nat.le_of_ble_eq_true rfl, Nat.le_of_ble_eq_true rfl⟩ rfl rfl (Nat.le_of_ble_eq_true rfl) dL_law_1034 hOm (fun H locs hPm hPx hS => ?_)
  refine lv_icmp_eq (tgt := 1527) hx hb dL_law_1037 (by decide) (fun _ => ?_) (fun z => absurd rfl z)
  exact hnext σ1 τ1 hI _ _ _ hPx hPm hS hl
set_option maxHeartbeats 4000000 in
set_option maxRecDepth 100000 in
theorem law_case_26 {p : Program} {l : Launch} {e : Env} {s : State} {m : MethodId} {below : List Frame} {meth : Method} {c : Code} {cA : Nat → ClassId} {D : va_G} {E : Nat → Nat} {b L : Nat} {xs : Nat → Int32} {adx adm : Nat → Nat} {I : SS → SS → Prop} (X : ZX Oz 0 cA adz D E (fun q => s.heap.size ≤ q) p s m #[Value.ref b] meth c code R_law 4 ret) (hst : zSteps I) (hX : va_X b L xs s s.heap) (hbl : b < s.heap.size) (hZx : zD (fun q => s.heap.size ≤ q) Nx adx) (hZm : zD (fun q => s.heap.size ≤ q) Nm adm) (hxm : ∀ i j, i < Nx → j < Nm → adx i ≠ adm j)
    {i : Nat} (hiL : i + 6 ≤ L) (hL : L ≤ 3072) {σ τ : SS} (hI : I σ τ) {H : Heap} {locs : List Loc} {ls : Array Slot} (hPx : va_P D ZCL (zw Ox Nx cA adx σ) H) (hPm : va_P D ZCL (zw Om Nm cA adm τ) H) (hS : va_S (fun q => s.heap.size ≤ q) s.heap H locs) (hl : lv_has ls 4 [(0, .ref b), (1, .ref (adx 0)), (2, .ref (adm 0)), (3, .int (nI i))])
    (hnext : ∀ (σ1 τ1 : SS), I σ1 τ1 → ∀ (H : Heap) (locs : List Loc) (ls : Array Slot), va_P D ZCL (zw Ox Nx cA adx σ1) H → va_P D ZCL (zw Om Nm cA adm τ1) H → va_S (fun q => s.heap.size ≤ q) s.heap H locs → lv_has ls 4 [(0, .ref b), (1, .ref (adx 0)), (2, .ref (adm 0)), (3, .int (nI i))] → W p l e room_1 s m #[Value.ref b] below meth c H locs 123 628996 (lw_Z below #[Value.ref b] s) (F0 m 1527 ls [])) : W p l e room_1 s m #[Value.ref b] below meth c H locs 123 628996 (lw_Z below #[Value.ref b] s) (F0 m 1042 ls []) := by
  have hx := X.1
  have hb := X.2.1
  have hbA : ¬ (fun q : Nat => s.heap.size ≤ q) b := Nat.not_le.mpr hbl
  have hmx : ∀ i j, i < Nm → j < Nx → adm i ≠ adx j := fun i j hi hj h => hxm j i hj hi h.symm
  refine lv_aload_n hx hb dL_law_1042 rfl (lv_at hl 1 rfl) ?_
  obtain ⟨r1, σ1, τ1, hf1, hf2, hI⟩ := hst.stwipe  σ τ hI
  refine zcallL X hl.1 hPx hZx hPm hxm hS (As := []) (rest := []) (cn_X11_wipe hf1) cw_X11_wipe zp_11 rfl (by decide) rfl ml_L_128 ⟨Nat.le_of_ble_eq_true rfl, Nat.le_of_ble_eq_true rfl⟩ ⟨Nat.le_of_ble_eq_true rfl, Nat.le_of_ble_eq_true rfl⟩ rfl rfl (Nat.le_of_ble_eq_true rfl) dL_law_1043 hOx (fun H locs hPx hPm hS => ?_)
  refine lv_aload_n hx hb dL_law_1046 rfl (lv_at hl 2 rfl) ?_
  refine zcallL X hl.1 hPm hZm hPx hmx hS (As := []) (rest := [.int r1]) (cn_X12_wipe hf2) cw_X12_wipe zp_12 rfl (by decide) rfl ml_L_131 ⟨Nat.le_of_ble_eq_true rfl, Nat.le_of_ble_eq_true rfl⟩ ⟨Nat.le_of_ble_eq_true rfl, Nat.le_of_ble_eq_true rfl⟩ rfl rfl (Nat.le_of_ble_eq_true rfl) dL_law_1047 hOm (fun H locs hPm hPx hS => ?_)
  refine lv_icmp_eq (tgt := 1527) hx hb dL_law_1050 (by decide) (fun _ => ?_) (fun z => absurd rfl z)
  exact hnext σ1 τ1 hI _ _ _ hPx hPm hS hl
set_option maxHeartbeats 4000000 in
set_option maxRecDepth 100000 in
theorem law_case_27 {p : Program} {l : Launch} {e : Env} {s : State} {m : MethodId} {below : List Frame} {meth : Method} {c : Code} {cA : Nat → ClassId} {D : va_G} {E : Nat → Nat} {b L : Nat} {xs : Nat → Int32} {adx adm : Nat → Nat} {I : SS → SS → Prop} (X : ZX Oz 0 cA adz D E (fun q => s.heap.size ≤ q) p s m #[Value.ref b] meth c code R_law 4 ret) (hst : zSteps I) (hX : va_X b L xs s s.heap) (hbl : b < s.heap.size) (hZx : zD (fun q => s.heap.size ≤ q) Nx adx) (hZm : zD (fun q => s.heap.size ≤ q) Nm adm) (hxm : ∀ i j, i < Nx → j < Nm → adx i ≠ adm j)
    {i : Nat} (hiL : i + 6 ≤ L) (hL : L ≤ 3072) {σ τ : SS} (hI : I σ τ) {H : Heap} {locs : List Loc} {ls : Array Slot} (hPx : va_P D ZCL (zw Ox Nx cA adx σ) H) (hPm : va_P D ZCL (zw Om Nm cA adm τ) H) (hS : va_S (fun q => s.heap.size ≤ q) s.heap H locs) (hl : lv_has ls 4 [(0, .ref b), (1, .ref (adx 0)), (2, .ref (adm 0)), (3, .int (nI i))])
    (hnext : ∀ (σ1 τ1 : SS), I σ1 τ1 → ∀ (H : Heap) (locs : List Loc) (ls : Array Slot), va_P D ZCL (zw Ox Nx cA adx σ1) H → va_P D ZCL (zw Om Nm cA adm τ1) H → va_S (fun q => s.heap.size ≤ q) s.heap H locs → lv_has ls 4 [(0, .ref b), (1, .ref (adx 0)), (2, .ref (adm 0)), (3, .int (nI i))] → W p l e room_1 s m #[Value.ref b] below meth c H locs 123 628996 (lw_Z below #[Value.ref b] s) (F0 m 1527 ls [])) : W p l e room_1 s m #[Value.ref b] below meth c H locs 123 628996 (lw_Z below #[Value.ref b] s) (F0 m 1055 ls []) := by
  have hx := X.1
  have hb := X.2.1
  have hbA : ¬ (fun q : Nat => s.heap.size ≤ q) b := Nat.not_le.mpr hbl
  have hmx : ∀ i j, i < Nm → j < Nx → adm i ≠ adx j := fun i j hi hj h => hxm j i hj hi h.symm
  refine lv_aload_n hx hb dL_law_1055 rfl (lv_at hl 1 rfl) ?_
  obtain ⟨r1, σ1, τ1, hf1, hf2, hI⟩ := hst.stread  σ τ hI
  refine zcallL X hl.1 hPx hZx hPm hxm hS (As := []) (rest := []) (cn_X11_read hf1) cw_X11_read zp_11 rfl (by decide) rfl ml_L_132 ⟨Nat.le_of_ble_eq_true rfl, Nat.le_of_ble_eq_true rfl⟩ ⟨Nat.le_of_ble_eq_true rfl, Nat.le_of_ble_eq_true rfl⟩ rfl rfl (Nat.le_of_ble_eq_true rfl) dL_law_1056 hOx (fun H locs hPx hPm hS => ?_)
  refine lv_aload_n hx hb dL_law_1059 rfl (lv_at hl 2 rfl) ?_
  refine zcallL X hl.1 hPm hZm hPx hmx hS (As := []) (rest := [.int r1]) (cn_X12_read hf2) cw_X12_read zp_12 rfl (by decide) rfl ml_L_135 ⟨Nat.le_of_ble_eq_true rfl, Nat.le_of_ble_eq_true rfl⟩ ⟨Nat.le_of_ble_eq_true rfl, Nat.le_of_ble_eq_true rfl⟩ rfl rfl (Nat.le_of_ble_eq_true rfl) dL_law_1060 hOm (fun H locs hPm hPx hS => ?_)
  refine lv_icmp_eq (tgt := 1527) hx hb dL_law_1063 (by decide) (fun _ => ?_) (fun z => absurd rfl z)
  exact hnext σ1 τ1 hI _ _ _ hPx hPm hS hl
set_option maxHeartbeats 4000000 in
set_option maxRecDepth 100000 in
theorem law_case_28 {p : Program} {l : Launch} {e : Env} {s : State} {m : MethodId} {below : List Frame} {meth : Method} {c : Code} {cA : Nat → ClassId} {D : va_G} {E : Nat → Nat} {b L : Nat} {xs : Nat → Int32} {adx adm : Nat → Nat} {I : SS → SS → Prop} (X : ZX Oz 0 cA adz D E (fun q => s.heap.size ≤ q) p s m #[Value.ref b] meth c code R_law 4 ret) (hst : zSteps I) (hX : va_X b L xs s s.heap) (hbl : b < s.heap.size) (hZx : zD (fun q => s.heap.size ≤ q) Nx adx) (hZm : zD (fun q => s.heap.size ≤ q) Nm adm) (hxm : ∀ i j, i < Nx → j < Nm → adx i ≠ adm j)
    {i : Nat} (hiL : i + 6 ≤ L) (hL : L ≤ 3072) {σ τ : SS} (hI : I σ τ) {H : Heap} {locs : List Loc} {ls : Array Slot} (hPx : va_P D ZCL (zw Ox Nx cA adx σ) H) (hPm : va_P D ZCL (zw Om Nm cA adm τ) H) (hS : va_S (fun q => s.heap.size ≤ q) s.heap H locs) (hl : lv_has ls 4 [(0, .ref b), (1, .ref (adx 0)), (2, .ref (adm 0)), (3, .int (nI i))])
    (hnext : ∀ (σ1 τ1 : SS), I σ1 τ1 → ∀ (H : Heap) (locs : List Loc) (ls : Array Slot), va_P D ZCL (zw Ox Nx cA adx σ1) H → va_P D ZCL (zw Om Nm cA adm τ1) H → va_S (fun q => s.heap.size ≤ q) s.heap H locs → lv_has ls 4 [(0, .ref b), (1, .ref (adx 0)), (2, .ref (adm 0)), (3, .int (nI i))] → W p l e room_1 s m #[Value.ref b] below meth c H locs 123 628996 (lw_Z below #[Value.ref b] s) (F0 m 1527 ls [])) : W p l e room_1 s m #[Value.ref b] below meth c H locs 123 628996 (lw_Z below #[Value.ref b] s) (F0 m 1068 ls []) := by
  have hx := X.1
  have hb := X.2.1
  have hbA : ¬ (fun q : Nat => s.heap.size ≤ q) b := Nat.not_le.mpr hbl
  have hmx : ∀ i j, i < Nm → j < Nx → adm i ≠ adx j := fun i j hi hj h => hxm j i hj hi h.symm
  refine lv_aload_n hx hb dL_law_1068 rfl (lv_at hl 1 rfl) ?_
  obtain ⟨r1, σ1, τ1, hf1, hf2, hI⟩ := hst.stacts  σ τ hI
  refine zcallL X hl.1 hPx hZx hPm hxm hS (As := []) (rest := []) (cn_X11_acts hf1) cw_X11_acts zp_11 rfl (by decide) rfl ml_L_136 ⟨Nat.le_of_ble_eq_true rfl, Nat.le_of_ble_eq_true rfl⟩ ⟨Nat.le_of_ble_eq_true rfl, Nat.le_of_ble_eq_true rfl⟩ rfl rfl (Nat.le_of_ble_eq_true rfl) dL_law_1069 hOx (fun H locs hPx hPm hS => ?_)
  refine lv_aload_n hx hb dL_law_1072 rfl (lv_at hl 2 rfl) ?_
  refine zcallL X hl.1 hPm hZm hPx hmx hS (As := []) (rest := [.int r1]) (cn_X12_acts hf2) cw_X12_acts zp_12 rfl (by decide) rfl ml_L_139 ⟨Nat.le_of_ble_eq_true rfl, Nat.le_of_ble_eq_true rfl⟩ ⟨Nat.le_of_ble_eq_true rfl, Nat.le_of_ble_eq_true rfl⟩ rfl rfl (Nat.le_of_ble_eq_true rfl) dL_law_1073 hOm (fun H locs hPm hPx hS => ?_)
  refine lv_icmp_eq (tgt := 1527) hx hb dL_law_1076 (by decide) (fun _ => ?_) (fun z => absurd rfl z)
  exact hnext σ1 τ1 hI _ _ _ hPx hPm hS hl
set_option maxHeartbeats 4000000 in
set_option maxRecDepth 100000 in
theorem law_case_29 {p : Program} {l : Launch} {e : Env} {s : State} {m : MethodId} {below : List Frame} {meth : Method} {c : Code} {cA : Nat → ClassId} {D : va_G} {E : Nat → Nat} {b L : Nat} {xs : Nat → Int32} {adx adm : Nat → Nat} {I : SS → SS → Prop} (X : ZX Oz 0 cA adz D E (fun q => s.heap.size ≤ q) p s m #[Value.ref b] meth c code R_law 4 ret) (hst : zSteps I) (hX : va_X b L xs s s.heap) (hbl : b < s.heap.size) (hZx : zD (fun q => s.heap.size ≤ q) Nx adx) (hZm : zD (fun q => s.heap.size ≤ q) Nm adm) (hxm : ∀ i j, i < Nx → j < Nm → adx i ≠ adm j)
    {i : Nat} (hiL : i + 6 ≤ L) (hL : L ≤ 3072) {σ τ : SS} (hI : I σ τ) {H : Heap} {locs : List Loc} {ls : Array Slot} (hPx : va_P D ZCL (zw Ox Nx cA adx σ) H) (hPm : va_P D ZCL (zw Om Nm cA adm τ) H) (hS : va_S (fun q => s.heap.size ≤ q) s.heap H locs) (hl : lv_has ls 4 [(0, .ref b), (1, .ref (adx 0)), (2, .ref (adm 0)), (3, .int (nI i))])
    (hnext : ∀ (σ1 τ1 : SS), I σ1 τ1 → ∀ (H : Heap) (locs : List Loc) (ls : Array Slot), va_P D ZCL (zw Ox Nx cA adx σ1) H → va_P D ZCL (zw Om Nm cA adm τ1) H → va_S (fun q => s.heap.size ≤ q) s.heap H locs → lv_has ls 4 [(0, .ref b), (1, .ref (adx 0)), (2, .ref (adm 0)), (3, .int (nI i))] → W p l e room_1 s m #[Value.ref b] below meth c H locs 123 628996 (lw_Z below #[Value.ref b] s) (F0 m 1527 ls [])) : W p l e room_1 s m #[Value.ref b] below meth c H locs 123 628996 (lw_Z below #[Value.ref b] s) (F0 m 1081 ls []) := by
  have hx := X.1
  have hb := X.2.1
  have hbA : ¬ (fun q : Nat => s.heap.size ≤ q) b := Nat.not_le.mpr hbl
  have hmx : ∀ i j, i < Nm → j < Nx → adm i ≠ adx j := fun i j hi hj h => hxm j i hj hi h.symm
  have hi1 : vp_in (nI i + 1) L := zvin (k := 1) hiL (by decide) hL
  refine lv_aload_n hx hb dL_law_1081 rfl (lv_at hl 1 rfl) ?_
  refine lv_aload_n hx hb dL_law_1082 rfl (lv_at hl 0 rfl) ?_
  refine lv_iload_n hx hb dL_law_1083 rfl (lv_at hl 3 rfl) ?_
  refine lv_iconst (v := 1) hx hb dL_law_1084 (by decide) ?_
  refine lv_iadd hx hb dL_law_1085 ?_
  refine va_sld hx hb hX hbl hbA hS hi1 dL_law_1086 ?_
  obtain ⟨r1, σ1, τ1, hf1, hf2, hI⟩ := hst.stwrite ((xs (nI i + 1).toNatClampNeg)) σ τ hI
  refine zcallL X hl.1 hPx hZx hPm hxm hS (As := [.int (xs (nI i + 1).toNatClampNeg)]) (rest := []) (cn_X11_write hf1) cw_X11_write zp_11 rfl (by decide) rfl ml_L_140 ⟨Nat.le_of_ble_eq_true rfl, Nat.le_of_ble_eq_true rfl⟩ ⟨Nat.le_of_ble_eq_true rfl, Nat.le_of_ble_eq_true rfl⟩ rfl rfl (Nat.le_of_ble_eq_true rfl) dL_law_1087 hOx (fun H locs hPx hPm hS => ?_)
  refine lv_aload_n hx hb dL_law_1090 rfl (lv_at hl 2 rfl) ?_
  refine lv_aload_n hx hb dL_law_1091 rfl (lv_at hl 0 rfl) ?_
  refine lv_iload_n hx hb dL_law_1092 rfl (lv_at hl 3 rfl) ?_
  refine lv_iconst (v := 1) hx hb dL_law_1093 (by decide) ?_
  refine lv_iadd hx hb dL_law_1094 ?_
  refine va_sld hx hb hX hbl hbA hS hi1 dL_law_1095 ?_
  refine zcallL X hl.1 hPm hZm hPx hmx hS (As := [.int (xs (nI i + 1).toNatClampNeg)]) (rest := [.int r1]) (cn_X12_write hf2) cw_X12_write zp_12 rfl (by decide) rfl ml_L_143 ⟨Nat.le_of_ble_eq_true rfl, Nat.le_of_ble_eq_true rfl⟩ ⟨Nat.le_of_ble_eq_true rfl, Nat.le_of_ble_eq_true rfl⟩ rfl rfl (Nat.le_of_ble_eq_true rfl) dL_law_1096 hOm (fun H locs hPm hPx hS => ?_)
  refine lv_icmp_eq (tgt := 1527) hx hb dL_law_1099 (by decide) (fun _ => ?_) (fun z => absurd rfl z)
  exact hnext σ1 τ1 hI _ _ _ hPx hPm hS hl
set_option maxHeartbeats 4000000 in
set_option maxRecDepth 100000 in
theorem law_case_30 {p : Program} {l : Launch} {e : Env} {s : State} {m : MethodId} {below : List Frame} {meth : Method} {c : Code} {cA : Nat → ClassId} {D : va_G} {E : Nat → Nat} {b L : Nat} {xs : Nat → Int32} {adx adm : Nat → Nat} {I : SS → SS → Prop} (X : ZX Oz 0 cA adz D E (fun q => s.heap.size ≤ q) p s m #[Value.ref b] meth c code R_law 4 ret) (hst : zSteps I) (hX : va_X b L xs s s.heap) (hbl : b < s.heap.size) (hZx : zD (fun q => s.heap.size ≤ q) Nx adx) (hZm : zD (fun q => s.heap.size ≤ q) Nm adm) (hxm : ∀ i j, i < Nx → j < Nm → adx i ≠ adm j)
    {i : Nat} (hiL : i + 6 ≤ L) (hL : L ≤ 3072) {σ τ : SS} (hI : I σ τ) {H : Heap} {locs : List Loc} {ls : Array Slot} (hPx : va_P D ZCL (zw Ox Nx cA adx σ) H) (hPm : va_P D ZCL (zw Om Nm cA adm τ) H) (hS : va_S (fun q => s.heap.size ≤ q) s.heap H locs) (hl : lv_has ls 4 [(0, .ref b), (1, .ref (adx 0)), (2, .ref (adm 0)), (3, .int (nI i))])
    (hnext : ∀ (σ1 τ1 : SS), I σ1 τ1 → ∀ (H : Heap) (locs : List Loc) (ls : Array Slot), va_P D ZCL (zw Ox Nx cA adx σ1) H → va_P D ZCL (zw Om Nm cA adm τ1) H → va_S (fun q => s.heap.size ≤ q) s.heap H locs → lv_has ls 4 [(0, .ref b), (1, .ref (adx 0)), (2, .ref (adm 0)), (3, .int (nI i))] → W p l e room_1 s m #[Value.ref b] below meth c H locs 123 628996 (lw_Z below #[Value.ref b] s) (F0 m 1527 ls [])) : W p l e room_1 s m #[Value.ref b] below meth c H locs 123 628996 (lw_Z below #[Value.ref b] s) (F0 m 1104 ls []) := by
  have hx := X.1
  have hb := X.2.1
  have hbA : ¬ (fun q : Nat => s.heap.size ≤ q) b := Nat.not_le.mpr hbl
  have hmx : ∀ i j, i < Nm → j < Nx → adm i ≠ adx j := fun i j hi hj h => hxm j i hj hi h.symm
  have hi1 : vp_in (nI i + 1) L := zvin (k := 1) hiL (by decide) hL
  refine lv_aload_n hx hb dL_law_1104 rfl (lv_at hl 1 rfl) ?_
  refine lv_aload_n hx hb dL_law_1105 rfl (lv_at hl 0 rfl) ?_
  refine lv_iload_n hx hb dL_law_1106 rfl (lv_at hl 3 rfl) ?_
  refine lv_iconst (v := 1) hx hb dL_law_1107 (by decide) ?_
  refine lv_iadd hx hb dL_law_1108 ?_
  refine va_sld hx hb hX hbl hbA hS hi1 dL_law_1109 ?_
  obtain ⟨r1, σ1, τ1, hf1, hf2, hI⟩ := hst.stpaper ((xs (nI i + 1).toNatClampNeg)) σ τ hI
  refine zcallL X hl.1 hPx hZx hPm hxm hS (As := [.int (xs (nI i + 1).toNatClampNeg)]) (rest := []) (cn_X11_paper hf1) cw_X11_paper zp_11 rfl (by decide) rfl ml_L_144 ⟨Nat.le_of_ble_eq_true rfl, Nat.le_of_ble_eq_true rfl⟩ ⟨Nat.le_of_ble_eq_true rfl, Nat.le_of_ble_eq_true rfl⟩ rfl rfl (Nat.le_of_ble_eq_true rfl) dL_law_1110 hOx (fun H locs hPx hPm hS => ?_)
  refine lv_aload_n hx hb dL_law_1113 rfl (lv_at hl 2 rfl) ?_
  refine lv_aload_n hx hb dL_law_1114 rfl (lv_at hl 0 rfl) ?_
  refine lv_iload_n hx hb dL_law_1115 rfl (lv_at hl 3 rfl) ?_
  refine lv_iconst (v := 1) hx hb dL_law_1116 (by decide) ?_
  refine lv_iadd hx hb dL_law_1117 ?_
  refine va_sld hx hb hX hbl hbA hS hi1 dL_law_1118 ?_
  refine zcallL X hl.1 hPm hZm hPx hmx hS (As := [.int (xs (nI i + 1).toNatClampNeg)]) (rest := [.int r1]) (cn_X12_paper hf2) cw_X12_paper zp_12 rfl (by decide) rfl ml_L_147 ⟨Nat.le_of_ble_eq_true rfl, Nat.le_of_ble_eq_true rfl⟩ ⟨Nat.le_of_ble_eq_true rfl, Nat.le_of_ble_eq_true rfl⟩ rfl rfl (Nat.le_of_ble_eq_true rfl) dL_law_1119 hOm (fun H locs hPm hPx hS => ?_)
  refine lv_icmp_eq (tgt := 1527) hx hb dL_law_1122 (by decide) (fun _ => ?_) (fun z => absurd rfl z)
  exact hnext σ1 τ1 hI _ _ _ hPx hPm hS hl
set_option maxHeartbeats 4000000 in
set_option maxRecDepth 100000 in
theorem law_case_31 {p : Program} {l : Launch} {e : Env} {s : State} {m : MethodId} {below : List Frame} {meth : Method} {c : Code} {cA : Nat → ClassId} {D : va_G} {E : Nat → Nat} {b L : Nat} {xs : Nat → Int32} {adx adm : Nat → Nat} {I : SS → SS → Prop} (X : ZX Oz 0 cA adz D E (fun q => s.heap.size ≤ q) p s m #[Value.ref b] meth c code R_law 4 ret) (hst : zSteps I) (hX : va_X b L xs s s.heap) (hbl : b < s.heap.size) (hZx : zD (fun q => s.heap.size ≤ q) Nx adx) (hZm : zD (fun q => s.heap.size ≤ q) Nm adm) (hxm : ∀ i j, i < Nx → j < Nm → adx i ≠ adm j)
    {i : Nat} (hiL : i + 6 ≤ L) (hL : L ≤ 3072) {σ τ : SS} (hI : I σ τ) {H : Heap} {locs : List Loc} {ls : Array Slot} (hPx : va_P D ZCL (zw Ox Nx cA adx σ) H) (hPm : va_P D ZCL (zw Om Nm cA adm τ) H) (hS : va_S (fun q => s.heap.size ≤ q) s.heap H locs) (hl : lv_has ls 4 [(0, .ref b), (1, .ref (adx 0)), (2, .ref (adm 0)), (3, .int (nI i))])
    (hnext : ∀ (σ1 τ1 : SS), I σ1 τ1 → ∀ (H : Heap) (locs : List Loc) (ls : Array Slot), va_P D ZCL (zw Ox Nx cA adx σ1) H → va_P D ZCL (zw Om Nm cA adm τ1) H → va_S (fun q => s.heap.size ≤ q) s.heap H locs → lv_has ls 4 [(0, .ref b), (1, .ref (adx 0)), (2, .ref (adm 0)), (3, .int (nI i))] → W p l e room_1 s m #[Value.ref b] below meth c H locs 123 628996 (lw_Z below #[Value.ref b] s) (F0 m 1527 ls [])) : W p l e room_1 s m #[Value.ref b] below meth c H locs 123 628996 (lw_Z below #[Value.ref b] s) (F0 m 1127 ls []) := by
  have hx := X.1
  have hb := X.2.1
  have hbA : ¬ (fun q : Nat => s.heap.size ≤ q) b := Nat.not_le.mpr hbl
  have hmx : ∀ i j, i < Nm → j < Nx → adm i ≠ adx j := fun i j hi hj h => hxm j i hj hi h.symm
  have hi1 : vp_in (nI i + 1) L := zvin (k := 1) hiL (by decide) hL
  have hi2 : vp_in (nI i + 2) L := zvin (k := 2) hiL (by decide) hL
  have hi3 : vp_in (nI i + 3) L := zvin (k := 3) hiL (by decide) hL
  refine lv_aload_n hx hb dL_law_1127 rfl (lv_at hl 1 rfl) ?_
  refine lv_aload_n hx hb dL_law_1128 rfl (lv_at hl 0 rfl) ?_
  refine lv_iload_n hx hb dL_law_1129 rfl (lv_at hl 3 rfl) ?_
  refine lv_iconst (v := 1) hx hb dL_law_1130 (by decide) ?_
  refine lv_iadd hx hb dL_law_1131 ?_
  refine va_sld hx hb hX hbl hbA hS hi1 dL_law_1132 ?_
  refine lv_aload_n hx hb dL_law_1133 rfl (lv_at hl 0 rfl) ?_
  refine lv_iload_n hx hb dL_law_1134 rfl (lv_at hl 3 rfl) ?_
  refine lv_iconst (v := 2) hx hb dL_law_1135 (by decide) ?_
  refine lv_iadd hx hb dL_law_1136 ?_
  refine va_sld hx hb hX hbl hbA hS hi2 dL_law_1137 ?_
  refine lv_aload_n hx hb dL_law_1138 rfl (lv_at hl 0 rfl) ?_
  refine lv_iload_n hx hb dL_law_1139 rfl (lv_at hl 3 rfl) ?_
  refine lv_iconst (v := 3) hx hb dL_law_1140 (by decide) ?_
  refine lv_iadd hx hb dL_law_1141 ?_
  refine va_sld hx hb hX hbl hbA hS hi3 dL_law_1142 ?_
  obtain ⟨r1, σ1, τ1, hf1, hf2, hI⟩ := hst.stlist ((xs (nI i + 1).toNatClampNeg)) ((xs (nI i + 2).toNatClampNeg)) ((xs (nI i + 3).toNatClampNeg)) σ τ hI
  refine zcallL X hl.1 hPx hZx hPm hxm hS (As := [.int (xs (nI i + 1).toNatClampNeg), .int (xs (nI i + 2).toNatClampNeg), .int (xs (nI i + 3).toNatClampNeg)]) (rest := []) (cn_X11_list hf1) cw_X11_list zp_11 rfl (by decide) rfl ml_L_148 ⟨Nat.le_of_ble_eq_true rfl, Nat.le_of_ble_eq_true rfl⟩ ⟨Nat.le_of_ble_eq_true rfl, Nat.le_of_ble_eq_true rfl⟩ rfl rfl (Nat.le_of_ble_eq_true rfl) dL_law_1143 hOx (fun H locs hPx hPm hS => ?_)
  refine lv_aload_n hx hb dL_law_1146 rfl (lv_at hl 2 rfl) ?_
  refine lv_aload_n hx hb dL_law_1147 rfl (lv_at hl 0 rfl) ?_
  refine lv_iload_n hx hb dL_law_1148 rfl (lv_at hl 3 rfl) ?_
  refine lv_iconst (v := 1) hx hb dL_law_1149 (by decide) ?_
  refine lv_iadd hx hb dL_law_1150 ?_
  refine va_sld hx hb hX hbl hbA hS hi1 dL_law_1151 ?_
  refine lv_aload_n hx hb dL_law_1152 rfl (lv_at hl 0 rfl) ?_
  refine lv_iload_n hx hb dL_law_1153 rfl (lv_at hl 3 rfl) ?_
  refine lv_iconst (v := 2) hx hb dL_law_1154 (by decide) ?_
  refine lv_iadd hx hb dL_law_1155 ?_
  refine va_sld hx hb hX hbl hbA hS hi2 dL_law_1156 ?_
  refine lv_aload_n hx hb dL_law_1157 rfl (lv_at hl 0 rfl) ?_
  refine lv_iload_n hx hb dL_law_1158 rfl (lv_at hl 3 rfl) ?_
  refine lv_iconst (v := 3) hx hb dL_law_1159 (by decide) ?_
  refine lv_iadd hx hb dL_law_1160 ?_
  refine va_sld hx hb hX hbl hbA hS hi3 dL_law_1161 ?_
  refine zcallL X hl.1 hPm hZm hPx hmx hS (As := [.int (xs (nI i + 1).toNatClampNeg), .int (xs (nI i + 2).toNatClampNeg), .int (xs (nI i + 3).toNatClampNeg)]) (rest := [.int r1]) (cn_X12_list hf2) cw_X12_list zp_12 rfl (by decide) rfl ml_L_151 ⟨Nat.le_of_ble_eq_true rfl, Nat.le_of_ble_eq_true rfl⟩ ⟨Nat.le_of_ble_eq_true rfl, Nat.le_of_ble_eq_true rfl⟩ rfl rfl (Nat.le_of_ble_eq_true rfl) dL_law_1162 hOm (fun H locs hPm hPx hS => ?_)
  refine lv_icmp_eq (tgt := 1527) hx hb dL_law_1165 (by decide) (fun _ => ?_) (fun z => absurd rfl z)
  exact hnext σ1 τ1 hI _ _ _ hPx hPm hS hl
set_option maxHeartbeats 4000000 in
set_option maxRecDepth 100000 in
theorem law_case_32 {p : Program} {l : Launch} {e : Env} {s : State} {m : MethodId} {below : List Frame} {meth : Method} {c : Code} {cA : Nat → ClassId} {D : va_G} {E : Nat → Nat} {b L : Nat} {xs : Nat → Int32} {adx adm : Nat → Nat} {I : SS → SS → Prop} (X : ZX Oz 0 cA adz D E (fun q => s.heap.size ≤ q) p s m #[Value.ref b] meth c code R_law 4 ret) (hst : zSteps I) (hX : va_X b L xs s s.heap) (hbl : b < s.heap.size) (hZx : zD (fun q => s.heap.size ≤ q) Nx adx) (hZm : zD (fun q => s.heap.size ≤ q) Nm adm) (hxm : ∀ i j, i < Nx → j < Nm → adx i ≠ adm j)
    {i : Nat} (hiL : i + 6 ≤ L) (hL : L ≤ 3072) {σ τ : SS} (hI : I σ τ) {H : Heap} {locs : List Loc} {ls : Array Slot} (hPx : va_P D ZCL (zw Ox Nx cA adx σ) H) (hPm : va_P D ZCL (zw Om Nm cA adm τ) H) (hS : va_S (fun q => s.heap.size ≤ q) s.heap H locs) (hl : lv_has ls 4 [(0, .ref b), (1, .ref (adx 0)), (2, .ref (adm 0)), (3, .int (nI i))])
    (hnext : ∀ (σ1 τ1 : SS), I σ1 τ1 → ∀ (H : Heap) (locs : List Loc) (ls : Array Slot), va_P D ZCL (zw Ox Nx cA adx σ1) H → va_P D ZCL (zw Om Nm cA adm τ1) H → va_S (fun q => s.heap.size ≤ q) s.heap H locs → lv_has ls 4 [(0, .ref b), (1, .ref (adx 0)), (2, .ref (adm 0)), (3, .int (nI i))] → W p l e room_1 s m #[Value.ref b] below meth c H locs 123 628996 (lw_Z below #[Value.ref b] s) (F0 m 1527 ls [])) : W p l e room_1 s m #[Value.ref b] below meth c H locs 123 628996 (lw_Z below #[Value.ref b] s) (F0 m 1170 ls []) := by
  have hx := X.1
  have hb := X.2.1
  have hbA : ¬ (fun q : Nat => s.heap.size ≤ q) b := Nat.not_le.mpr hbl
  have hmx : ∀ i j, i < Nm → j < Nx → adm i ≠ adx j := fun i j hi hj h => hxm j i hj hi h.symm
  have hi1 : vp_in (nI i + 1) L := zvin (k := 1) hiL (by decide) hL
  have hi2 : vp_in (nI i + 2) L := zvin (k := 2) hiL (by decide) hL
  have hi3 : vp_in (nI i + 3) L := zvin (k := 3) hiL (by decide) hL
  have hi4 : vp_in (nI i + 4) L := zvin (k := 4) hiL (by decide) hL
  refine lv_aload_n hx hb dL_law_1170 rfl (lv_at hl 1 rfl) ?_
  refine lv_aload_n hx hb dL_law_1171 rfl (lv_at hl 0 rfl) ?_
  refine lv_iload_n hx hb dL_law_1172 rfl (lv_at hl 3 rfl) ?_
  refine lv_iconst (v := 1) hx hb dL_law_1173 (by decide) ?_
  refine lv_iadd hx hb dL_law_1174 ?_
  refine va_sld hx hb hX hbl hbA hS hi1 dL_law_1175 ?_
  refine lv_aload_n hx hb dL_law_1176 rfl (lv_at hl 0 rfl) ?_
  refine lv_iload_n hx hb dL_law_1177 rfl (lv_at hl 3 rfl) ?_
  refine lv_iconst (v := 2) hx hb dL_law_1178 (by decide) ?_
  refine lv_iadd hx hb dL_law_1179 ?_
  refine va_sld hx hb hX hbl hbA hS hi2 dL_law_1180 ?_
  refine lv_aload_n hx hb dL_law_1181 rfl (lv_at hl 0 rfl) ?_
  refine lv_iload_n hx hb dL_law_1182 rfl (lv_at hl 3 rfl) ?_
  refine lv_iconst (v := 3) hx hb dL_law_1183 (by decide) ?_
  refine lv_iadd hx hb dL_law_1184 ?_
  refine va_sld hx hb hX hbl hbA hS hi3 dL_law_1185 ?_
  refine lv_i2l hx hb dL_law_1186 rfl ?_
  refine lv_bipush (v := 32) hx hb dL_law_1187 (by decide) ?_
  refine lv_lshl hx hb dL_law_1189 rfl ?_
  refine lv_aload_n hx hb dL_law_1190 rfl (lv_at hl 0 rfl) ?_
  refine lv_iload_n hx hb dL_law_1191 rfl (lv_at hl 3 rfl) ?_
  refine lv_iconst (v := 4) hx hb dL_law_1192 (by decide) ?_
  refine lv_iadd hx hb dL_law_1193 ?_
  refine va_sld hx hb hX hbl hbA hS hi4 dL_law_1194 ?_
  refine lv_i2l hx hb dL_law_1195 rfl ?_
  refine zldc2 X co_L_54 dL_law_1196 ?_
  refine lv_land hx hb dL_law_1199 ?_
  refine lv_lor hx hb dL_law_1200 ?_
  obtain ⟨r1, σ1, τ1, hf1, hf2, hI⟩ := hst.stput ((xs (nI i + 1).toNatClampNeg)) ((xs (nI i + 2).toNatClampNeg)) (((((xs (nI i + 3).toNatClampNeg)).toInt64 <<< ((32 : Int32).toInt64 &&& 63)) ||| (((xs (nI i + 4).toNatClampNeg)).toInt64 &&& (4294967295 : Int64)))) σ τ hI
  refine zcallL X hl.1 hPx hZx hPm hxm hS (As := [.int (xs (nI i + 1).toNatClampNeg), .int (xs (nI i + 2).toNatClampNeg), .long ((((xs (nI i + 3).toNatClampNeg)).toInt64 <<< ((32 : Int32).toInt64 &&& 63)) ||| (((xs (nI i + 4).toNatClampNeg)).toInt64 &&& (4294967295 : Int64)))]) (rest := []) (cn_X11_put hf1) cw_X11_put zp_11 rfl (by decide) rfl ml_L_152 ⟨Nat.le_of_ble_eq_true rfl, Nat.le_of_ble_eq_true rfl⟩ ⟨Nat.le_of_ble_eq_true rfl, Nat.le_of_ble_eq_true rfl⟩ rfl rfl (Nat.le_of_ble_eq_true rfl) dL_law_1201 hOx (fun H locs hPx hPm hS => ?_)
  refine lv_aload_n hx hb dL_law_1204 rfl (lv_at hl 2 rfl) ?_
  refine lv_aload_n hx hb dL_law_1205 rfl (lv_at hl 0 rfl) ?_
  refine lv_iload_n hx hb dL_law_1206 rfl (lv_at hl 3 rfl) ?_
  refine lv_iconst (v := 1) hx hb dL_law_1207 (by decide) ?_
  refine lv_iadd hx hb dL_law_1208 ?_
  refine va_sld hx hb hX hbl hbA hS hi1 dL_law_1209 ?_
  refine lv_aload_n hx hb dL_law_1210 rfl (lv_at hl 0 rfl) ?_
  refine lv_iload_n hx hb dL_law_1211 rfl (lv_at hl 3 rfl) ?_
  refine lv_iconst (v := 2) hx hb dL_law_1212 (by decide) ?_
  refine lv_iadd hx hb dL_law_1213 ?_
  refine va_sld hx hb hX hbl hbA hS hi2 dL_law_1214 ?_
  refine lv_aload_n hx hb dL_law_1215 rfl (lv_at hl 0 rfl) ?_
  refine lv_iload_n hx hb dL_law_1216 rfl (lv_at hl 3 rfl) ?_
  refine lv_iconst (v := 3) hx hb dL_law_1217 (by decide) ?_
  refine lv_iadd hx hb dL_law_1218 ?_
  refine va_sld hx hb hX hbl hbA hS hi3 dL_law_1219 ?_
  refine lv_i2l hx hb dL_law_1220 rfl ?_
  refine lv_bipush (v := 32) hx hb dL_law_1221 (by decide) ?_
  refine lv_lshl hx hb dL_law_1223 rfl ?_
  refine lv_aload_n hx hb dL_law_1224 rfl (lv_at hl 0 rfl) ?_
  refine lv_iload_n hx hb dL_law_1225 rfl (lv_at hl 3 rfl) ?_
  refine lv_iconst (v := 4) hx hb dL_law_1226 (by decide) ?_
  refine lv_iadd hx hb dL_law_1227 ?_
  refine va_sld hx hb hX hbl hbA hS hi4 dL_law_1228 ?_
  refine lv_i2l hx hb dL_law_1229 rfl ?_
  refine zldc2 X co_L_54 dL_law_1230 ?_
  refine lv_land hx hb dL_law_1233 ?_
  refine lv_lor hx hb dL_law_1234 ?_
  refine zcallL X hl.1 hPm hZm hPx hmx hS (As := [.int (xs (nI i + 1).toNatClampNeg), .int (xs (nI i + 2).toNatClampNeg), .long ((((xs (nI i + 3).toNatClampNeg)).toInt64 <<< ((32 : Int32).toInt64 &&& 63)) ||| (((xs (nI i + 4).toNatClampNeg)).toInt64 &&& (4294967295 : Int64)))]) (rest := [.int r1]) (cn_X12_put hf2) cw_X12_put zp_12 rfl (by decide) rfl ml_L_155 ⟨Nat.le_of_ble_eq_true rfl, Nat.le_of_ble_eq_true rfl⟩ ⟨Nat.le_of_ble_eq_true rfl, Nat.le_of_ble_eq_true rfl⟩ rfl rfl (Nat.le_of_ble_eq_true rfl) dL_law_1235 hOm (fun H locs hPm hPx hS => ?_)
  refine lv_icmp_eq (tgt := 1527) hx hb dL_law_1238 (by decide) (fun _ => ?_) (fun z => absurd rfl z)
  exact hnext σ1 τ1 hI _ _ _ hPx hPm hS hl
set_option maxHeartbeats 4000000 in
set_option maxRecDepth 100000 in
theorem law_case_33 {p : Program} {l : Launch} {e : Env} {s : State} {m : MethodId} {below : List Frame} {meth : Method} {c : Code} {cA : Nat → ClassId} {D : va_G} {E : Nat → Nat} {b L : Nat} {xs : Nat → Int32} {adx adm : Nat → Nat} {I : SS → SS → Prop} (X : ZX Oz 0 cA adz D E (fun q => s.heap.size ≤ q) p s m #[Value.ref b] meth c code R_law 4 ret) (hst : zSteps I) (hX : va_X b L xs s s.heap) (hbl : b < s.heap.size) (hZx : zD (fun q => s.heap.size ≤ q) Nx adx) (hZm : zD (fun q => s.heap.size ≤ q) Nm adm) (hxm : ∀ i j, i < Nx → j < Nm → adx i ≠ adm j)
    {i : Nat} (hiL : i + 6 ≤ L) (hL : L ≤ 3072) {σ τ : SS} (hI : I σ τ) {H : Heap} {locs : List Loc} {ls : Array Slot} (hPx : va_P D ZCL (zw Ox Nx cA adx σ) H) (hPm : va_P D ZCL (zw Om Nm cA adm τ) H) (hS : va_S (fun q => s.heap.size ≤ q) s.heap H locs) (hl : lv_has ls 4 [(0, .ref b), (1, .ref (adx 0)), (2, .ref (adm 0)), (3, .int (nI i))])
    (hnext : ∀ (σ1 τ1 : SS), I σ1 τ1 → ∀ (H : Heap) (locs : List Loc) (ls : Array Slot), va_P D ZCL (zw Ox Nx cA adx σ1) H → va_P D ZCL (zw Om Nm cA adm τ1) H → va_S (fun q => s.heap.size ≤ q) s.heap H locs → lv_has ls 4 [(0, .ref b), (1, .ref (adx 0)), (2, .ref (adm 0)), (3, .int (nI i))] → W p l e room_1 s m #[Value.ref b] below meth c H locs 123 628996 (lw_Z below #[Value.ref b] s) (F0 m 1527 ls [])) : W p l e room_1 s m #[Value.ref b] below meth c H locs 123 628996 (lw_Z below #[Value.ref b] s) (F0 m 1243 ls []) := by
  have hx := X.1
  have hb := X.2.1
  have hbA : ¬ (fun q : Nat => s.heap.size ≤ q) b := Nat.not_le.mpr hbl
  have hmx : ∀ i j, i < Nm → j < Nx → adm i ≠ adx j := fun i j hi hj h => hxm j i hj hi h.symm
  have hi1 : vp_in (nI i + 1) L := zvin (k := 1) hiL (by decide) hL
  have hi2 : vp_in (nI i + 2) L := zvin (k := 2) hiL (by decide) hL
  refine lv_aload_n hx hb dL_law_1243 rfl (lv_at hl 1 rfl) ?_
  refine lv_aload_n hx hb dL_law_1244 rfl (lv_at hl 0 rfl) ?_
  refine lv_iload_n hx hb dL_law_1245 rfl (lv_at hl 3 rfl) ?_
  refine lv_iconst (v := 1) hx hb dL_law_1246 (by decide) ?_
  refine lv_iadd hx hb dL_law_1247 ?_
  refine va_sld hx hb hX hbl hbA hS hi1 dL_law_1248 ?_
  refine lv_aload_n hx hb dL_law_1249 rfl (lv_at hl 0 rfl) ?_
  refine lv_iload_n hx hb dL_law_1250 rfl (lv_at hl 3 rfl) ?_
  refine lv_iconst (v := 2) hx hb dL_law_1251 (by decide) ?_
  refine lv_iadd hx hb dL_law_1252 ?_
  refine va_sld hx hb hX hbl hbA hS hi2 dL_law_1253 ?_
  obtain ⟨r1, σ1, τ1, hf1, hf2, hI⟩ := hst.stget ((xs (nI i + 1).toNatClampNeg)) ((xs (nI i + 2).toNatClampNeg)) σ τ hI
  refine zcallL X hl.1 hPx hZx hPm hxm hS (As := [.int (xs (nI i + 1).toNatClampNeg), .int (xs (nI i + 2).toNatClampNeg)]) (rest := []) (cn_X11_get hf1) cw_X11_get zp_11 rfl (by decide) rfl ml_L_156 ⟨Nat.le_of_ble_eq_true rfl, Nat.le_of_ble_eq_true rfl⟩ ⟨Nat.le_of_ble_eq_true rfl, Nat.le_of_ble_eq_true rfl⟩ rfl rfl (Nat.le_of_ble_eq_true rfl) dL_law_1254 hOx (fun H locs hPx hPm hS => ?_)
  refine lv_aload_n hx hb dL_law_1257 rfl (lv_at hl 2 rfl) ?_
  refine lv_aload_n hx hb dL_law_1258 rfl (lv_at hl 0 rfl) ?_
  refine lv_iload_n hx hb dL_law_1259 rfl (lv_at hl 3 rfl) ?_
  refine lv_iconst (v := 1) hx hb dL_law_1260 (by decide) ?_
  refine lv_iadd hx hb dL_law_1261 ?_
  refine va_sld hx hb hX hbl hbA hS hi1 dL_law_1262 ?_
  refine lv_aload_n hx hb dL_law_1263 rfl (lv_at hl 0 rfl) ?_
  refine lv_iload_n hx hb dL_law_1264 rfl (lv_at hl 3 rfl) ?_
  refine lv_iconst (v := 2) hx hb dL_law_1265 (by decide) ?_
  refine lv_iadd hx hb dL_law_1266 ?_
  refine va_sld hx hb hX hbl hbA hS hi2 dL_law_1267 ?_
  refine zcallL X hl.1 hPm hZm hPx hmx hS (As := [.int (xs (nI i + 1).toNatClampNeg), .int (xs (nI i + 2).toNatClampNeg)]) (rest := [.long r1]) (cn_X12_get hf2) cw_X12_get zp_12 rfl (by decide) rfl ml_L_159 ⟨Nat.le_of_ble_eq_true rfl, Nat.le_of_ble_eq_true rfl⟩ ⟨Nat.le_of_ble_eq_true rfl, Nat.le_of_ble_eq_true rfl⟩ rfl rfl (Nat.le_of_ble_eq_true rfl) dL_law_1268 hOm (fun H locs hPm hPx hS => ?_)
  refine W.lcmp hx hb dL_law_1271 ?_
  refine lv_if_eq (tgt := 1527) hx hb dL_law_1272 (by decide) (fun _ => ?_) (fun z => absurd (by simp [lg_cmp]) z)
  exact hnext σ1 τ1 hI _ _ _ hPx hPm hS hl
set_option maxHeartbeats 4000000 in
set_option maxRecDepth 100000 in
theorem law_case_34 {p : Program} {l : Launch} {e : Env} {s : State} {m : MethodId} {below : List Frame} {meth : Method} {c : Code} {cA : Nat → ClassId} {D : va_G} {E : Nat → Nat} {b L : Nat} {xs : Nat → Int32} {adx adm : Nat → Nat} {I : SS → SS → Prop} (X : ZX Oz 0 cA adz D E (fun q => s.heap.size ≤ q) p s m #[Value.ref b] meth c code R_law 4 ret) (hst : zSteps I) (hX : va_X b L xs s s.heap) (hbl : b < s.heap.size) (hZx : zD (fun q => s.heap.size ≤ q) Nx adx) (hZm : zD (fun q => s.heap.size ≤ q) Nm adm) (hxm : ∀ i j, i < Nx → j < Nm → adx i ≠ adm j)
    {i : Nat} (hiL : i + 6 ≤ L) (hL : L ≤ 3072) {σ τ : SS} (hI : I σ τ) {H : Heap} {locs : List Loc} {ls : Array Slot} (hPx : va_P D ZCL (zw Ox Nx cA adx σ) H) (hPm : va_P D ZCL (zw Om Nm cA adm τ) H) (hS : va_S (fun q => s.heap.size ≤ q) s.heap H locs) (hl : lv_has ls 4 [(0, .ref b), (1, .ref (adx 0)), (2, .ref (adm 0)), (3, .int (nI i))])
    (hnext : ∀ (σ1 τ1 : SS), I σ1 τ1 → ∀ (H : Heap) (locs : List Loc) (ls : Array Slot), va_P D ZCL (zw Ox Nx cA adx σ1) H → va_P D ZCL (zw Om Nm cA adm τ1) H → va_S (fun q => s.heap.size ≤ q) s.heap H locs → lv_has ls 4 [(0, .ref b), (1, .ref (adx 0)), (2, .ref (adm 0)), (3, .int (nI i))] → W p l e room_1 s m #[Value.ref b] below meth c H locs 123 628996 (lw_Z below #[Value.ref b] s) (F0 m 1527 ls [])) : W p l e room_1 s m #[Value.ref b] below meth c H locs 123 628996 (lw_Z below #[Value.ref b] s) (F0 m 1277 ls []) := by
  have hx := X.1
  have hb := X.2.1
  have hbA : ¬ (fun q : Nat => s.heap.size ≤ q) b := Nat.not_le.mpr hbl
  have hmx : ∀ i j, i < Nm → j < Nx → adm i ≠ adx j := fun i j hi hj h => hxm j i hj hi h.symm
  have hi1 : vp_in (nI i + 1) L := zvin (k := 1) hiL (by decide) hL
  have hi2 : vp_in (nI i + 2) L := zvin (k := 2) hiL (by decide) hL
  have hi3 : vp_in (nI i + 3) L := zvin (k := 3) hiL (by decide) hL
  have hi4 : vp_in (nI i + 4) L := zvin (k := 4) hiL (by decide) hL
  have hi5 : vp_in (nI i + 5) L := zvin (k := 5) hiL (by decide) hL
  refine lv_aload_n hx hb dL_law_1277 rfl (lv_at hl 1 rfl) ?_
  refine lv_aload_n hx hb dL_law_1278 rfl (lv_at hl 0 rfl) ?_
  refine lv_iload_n hx hb dL_law_1279 rfl (lv_at hl 3 rfl) ?_
  refine lv_iconst (v := 1) hx hb dL_law_1280 (by decide) ?_
  refine lv_iadd hx hb dL_law_1281 ?_
  refine va_sld hx hb hX hbl hbA hS hi1 dL_law_1282 ?_
  refine lv_aload_n hx hb dL_law_1283 rfl (lv_at hl 0 rfl) ?_
  refine lv_iload_n hx hb dL_law_1284 rfl (lv_at hl 3 rfl) ?_
  refine lv_iconst (v := 2) hx hb dL_law_1285 (by decide) ?_
  refine lv_iadd hx hb dL_law_1286 ?_
  refine va_sld hx hb hX hbl hbA hS hi2 dL_law_1287 ?_
  refine lv_aload_n hx hb dL_law_1288 rfl (lv_at hl 0 rfl) ?_
  refine lv_iload_n hx hb dL_law_1289 rfl (lv_at hl 3 rfl) ?_
  refine lv_iconst (v := 3) hx hb dL_law_1290 (by decide) ?_
  refine lv_iadd hx hb dL_law_1291 ?_
  refine va_sld hx hb hX hbl hbA hS hi3 dL_law_1292 ?_
  refine lv_aload_n hx hb dL_law_1293 rfl (lv_at hl 0 rfl) ?_
  refine lv_iload_n hx hb dL_law_1294 rfl (lv_at hl 3 rfl) ?_
  refine lv_iconst (v := 4) hx hb dL_law_1295 (by decide) ?_
  refine lv_iadd hx hb dL_law_1296 ?_
  refine va_sld hx hb hX hbl hbA hS hi4 dL_law_1297 ?_
  refine lv_aload_n hx hb dL_law_1298 rfl (lv_at hl 0 rfl) ?_
  refine lv_iload_n hx hb dL_law_1299 rfl (lv_at hl 3 rfl) ?_
  refine lv_iconst (v := 5) hx hb dL_law_1300 (by decide) ?_
  refine lv_iadd hx hb dL_law_1301 ?_
  refine va_sld hx hb hX hbl hbA hS hi5 dL_law_1302 ?_
  obtain ⟨r1, σ1, τ1, hf1, hf2, hI⟩ := hst.stcopy ((xs (nI i + 1).toNatClampNeg)) ((xs (nI i + 2).toNatClampNeg)) ((xs (nI i + 3).toNatClampNeg)) ((xs (nI i + 4).toNatClampNeg)) ((xs (nI i + 5).toNatClampNeg)) σ τ hI
  refine zcallL X hl.1 hPx hZx hPm hxm hS (As := [.int (xs (nI i + 1).toNatClampNeg), .int (xs (nI i + 2).toNatClampNeg), .int (xs (nI i + 3).toNatClampNeg), .int (xs (nI i + 4).toNatClampNeg), .int (xs (nI i + 5).toNatClampNeg)]) (rest := []) (cn_X11_copy hf1) cw_X11_copy zp_11 rfl (by decide) rfl ml_L_160 ⟨Nat.le_of_ble_eq_true rfl, Nat.le_of_ble_eq_true rfl⟩ ⟨Nat.le_of_ble_eq_true rfl, Nat.le_of_ble_eq_true rfl⟩ rfl rfl (Nat.le_of_ble_eq_true rfl) dL_law_1303 hOx (fun H locs hPx hPm hS => ?_)
  refine lv_aload_n hx hb dL_law_1306 rfl (lv_at hl 2 rfl) ?_
  refine lv_aload_n hx hb dL_law_1307 rfl (lv_at hl 0 rfl) ?_
  refine lv_iload_n hx hb dL_law_1308 rfl (lv_at hl 3 rfl) ?_
  refine lv_iconst (v := 1) hx hb dL_law_1309 (by decide) ?_
  refine lv_iadd hx hb dL_law_1310 ?_
  refine va_sld hx hb hX hbl hbA hS hi1 dL_law_1311 ?_
  refine lv_aload_n hx hb dL_law_1312 rfl (lv_at hl 0 rfl) ?_
  refine lv_iload_n hx hb dL_law_1313 rfl (lv_at hl 3 rfl) ?_
  refine lv_iconst (v := 2) hx hb dL_law_1314 (by decide) ?_
  refine lv_iadd hx hb dL_law_1315 ?_
  refine va_sld hx hb hX hbl hbA hS hi2 dL_law_1316 ?_
  refine lv_aload_n hx hb dL_law_1317 rfl (lv_at hl 0 rfl) ?_
  refine lv_iload_n hx hb dL_law_1318 rfl (lv_at hl 3 rfl) ?_
  refine lv_iconst (v := 3) hx hb dL_law_1319 (by decide) ?_
  refine lv_iadd hx hb dL_law_1320 ?_
  refine va_sld hx hb hX hbl hbA hS hi3 dL_law_1321 ?_
  refine lv_aload_n hx hb dL_law_1322 rfl (lv_at hl 0 rfl) ?_
  refine lv_iload_n hx hb dL_law_1323 rfl (lv_at hl 3 rfl) ?_
  refine lv_iconst (v := 4) hx hb dL_law_1324 (by decide) ?_
  refine lv_iadd hx hb dL_law_1325 ?_
  refine va_sld hx hb hX hbl hbA hS hi4 dL_law_1326 ?_
  refine lv_aload_n hx hb dL_law_1327 rfl (lv_at hl 0 rfl) ?_
  refine lv_iload_n hx hb dL_law_1328 rfl (lv_at hl 3 rfl) ?_
  refine lv_iconst (v := 5) hx hb dL_law_1329 (by decide) ?_
  refine lv_iadd hx hb dL_law_1330 ?_
  refine va_sld hx hb hX hbl hbA hS hi5 dL_law_1331 ?_
  refine zcallL X hl.1 hPm hZm hPx hmx hS (As := [.int (xs (nI i + 1).toNatClampNeg), .int (xs (nI i + 2).toNatClampNeg), .int (xs (nI i + 3).toNatClampNeg), .int (xs (nI i + 4).toNatClampNeg), .int (xs (nI i + 5).toNatClampNeg)]) (rest := [.int r1]) (cn_X12_copy hf2) cw_X12_copy zp_12 rfl (by decide) rfl ml_L_164 ⟨Nat.le_of_ble_eq_true rfl, Nat.le_of_ble_eq_true rfl⟩ ⟨Nat.le_of_ble_eq_true rfl, Nat.le_of_ble_eq_true rfl⟩ rfl rfl (Nat.le_of_ble_eq_true rfl) dL_law_1332 hOm (fun H locs hPm hPx hS => ?_)
  refine lv_icmp_eq (tgt := 1527) hx hb dL_law_1335 (by decide) (fun _ => ?_) (fun z => absurd rfl z)
  exact hnext σ1 τ1 hI _ _ _ hPx hPm hS hl
set_option maxHeartbeats 4000000 in
set_option maxRecDepth 100000 in
theorem law_case_35 {p : Program} {l : Launch} {e : Env} {s : State} {m : MethodId} {below : List Frame} {meth : Method} {c : Code} {cA : Nat → ClassId} {D : va_G} {E : Nat → Nat} {b L : Nat} {xs : Nat → Int32} {adx adm : Nat → Nat} {I : SS → SS → Prop} (X : ZX Oz 0 cA adz D E (fun q => s.heap.size ≤ q) p s m #[Value.ref b] meth c code R_law 4 ret) (hst : zSteps I) (hX : va_X b L xs s s.heap) (hbl : b < s.heap.size) (hZx : zD (fun q => s.heap.size ≤ q) Nx adx) (hZm : zD (fun q => s.heap.size ≤ q) Nm adm) (hxm : ∀ i j, i < Nx → j < Nm → adx i ≠ adm j)
    {i : Nat} (hiL : i + 6 ≤ L) (hL : L ≤ 3072) {σ τ : SS} (hI : I σ τ) {H : Heap} {locs : List Loc} {ls : Array Slot} (hPx : va_P D ZCL (zw Ox Nx cA adx σ) H) (hPm : va_P D ZCL (zw Om Nm cA adm τ) H) (hS : va_S (fun q => s.heap.size ≤ q) s.heap H locs) (hl : lv_has ls 4 [(0, .ref b), (1, .ref (adx 0)), (2, .ref (adm 0)), (3, .int (nI i))])
    (hnext : ∀ (σ1 τ1 : SS), I σ1 τ1 → ∀ (H : Heap) (locs : List Loc) (ls : Array Slot), va_P D ZCL (zw Ox Nx cA adx σ1) H → va_P D ZCL (zw Om Nm cA adm τ1) H → va_S (fun q => s.heap.size ≤ q) s.heap H locs → lv_has ls 4 [(0, .ref b), (1, .ref (adx 0)), (2, .ref (adm 0)), (3, .int (nI i))] → W p l e room_1 s m #[Value.ref b] below meth c H locs 123 628996 (lw_Z below #[Value.ref b] s) (F0 m 1527 ls [])) : W p l e room_1 s m #[Value.ref b] below meth c H locs 123 628996 (lw_Z below #[Value.ref b] s) (F0 m 1340 ls []) := by
  have hx := X.1
  have hb := X.2.1
  have hbA : ¬ (fun q : Nat => s.heap.size ≤ q) b := Nat.not_le.mpr hbl
  have hmx : ∀ i j, i < Nm → j < Nx → adm i ≠ adx j := fun i j hi hj h => hxm j i hj hi h.symm
  have hi1 : vp_in (nI i + 1) L := zvin (k := 1) hiL (by decide) hL
  have hi2 : vp_in (nI i + 2) L := zvin (k := 2) hiL (by decide) hL
  have hi3 : vp_in (nI i + 3) L := zvin (k := 3) hiL (by decide) hL
  refine lv_aload_n hx hb dL_law_1340 rfl (lv_at hl 1 rfl) ?_
  refine lv_aload_n hx hb dL_law_1341 rfl (lv_at hl 0 rfl) ?_
  refine lv_iload_n hx hb dL_law_1342 rfl (lv_at hl 3 rfl) ?_
  refine lv_iconst (v := 1) hx hb dL_law_1343 (by decide) ?_
  refine lv_iadd hx hb dL_law_1344 ?_
  refine va_sld hx hb hX hbl hbA hS hi1 dL_law_1345 ?_
  refine lv_aload_n hx hb dL_law_1346 rfl (lv_at hl 0 rfl) ?_
  refine lv_iload_n hx hb dL_law_1347 rfl (lv_at hl 3 rfl) ?_
  refine lv_iconst (v := 2) hx hb dL_law_1348 (by decide) ?_
  refine lv_iadd hx hb dL_law_1349 ?_
  refine va_sld hx hb hX hbl hbA hS hi2 dL_law_1350 ?_
  refine lv_aload_n hx hb dL_law_1351 rfl (lv_at hl 0 rfl) ?_
  refine lv_iload_n hx hb dL_law_1352 rfl (lv_at hl 3 rfl) ?_
  refine lv_iconst (v := 3) hx hb dL_law_1353 (by decide) ?_
  refine lv_iadd hx hb dL_law_1354 ?_
  refine va_sld hx hb hX hbl hbA hS hi3 dL_law_1355 ?_
  obtain ⟨r1, σ1, τ1, hf1, hf2, hI⟩ := hst.stact ((xs (nI i + 1).toNatClampNeg)) ((xs (nI i + 2).toNatClampNeg)) ((xs (nI i + 3).toNatClampNeg)) σ τ hI
  refine zcallL X hl.1 hPx hZx hPm hxm hS (As := [.int (xs (nI i + 1).toNatClampNeg), .int (xs (nI i + 2).toNatClampNeg), .int (xs (nI i + 3).toNatClampNeg)]) (rest := []) (cn_X11_act hf1) cw_X11_act zp_11 rfl (by decide) rfl ml_L_165 ⟨Nat.le_of_ble_eq_true rfl, Nat.le_of_ble_eq_true rfl⟩ ⟨Nat.le_of_ble_eq_true rfl, Nat.le_of_ble_eq_true rfl⟩ rfl rfl (Nat.le_of_ble_eq_true rfl) dL_law_1356 hOx (fun H locs hPx hPm hS => ?_)
  refine lv_aload_n hx hb dL_law_1359 rfl (lv_at hl 2 rfl) ?_
  refine lv_aload_n hx hb dL_law_1360 rfl (lv_at hl 0 rfl) ?_
  refine lv_iload_n hx hb dL_law_1361 rfl (lv_at hl 3 rfl) ?_
  refine lv_iconst (v := 1) hx hb dL_law_1362 (by decide) ?_
  refine lv_iadd hx hb dL_law_1363 ?_
  refine va_sld hx hb hX hbl hbA hS hi1 dL_law_1364 ?_
  refine lv_aload_n hx hb dL_law_1365 rfl (lv_at hl 0 rfl) ?_
  refine lv_iload_n hx hb dL_law_1366 rfl (lv_at hl 3 rfl) ?_
  refine lv_iconst (v := 2) hx hb dL_law_1367 (by decide) ?_
  refine lv_iadd hx hb dL_law_1368 ?_
  refine va_sld hx hb hX hbl hbA hS hi2 dL_law_1369 ?_
  refine lv_aload_n hx hb dL_law_1370 rfl (lv_at hl 0 rfl) ?_
  refine lv_iload_n hx hb dL_law_1371 rfl (lv_at hl 3 rfl) ?_
  refine lv_iconst (v := 3) hx hb dL_law_1372 (by decide) ?_
  refine lv_iadd hx hb dL_law_1373 ?_
  refine va_sld hx hb hX hbl hbA hS hi3 dL_law_1374 ?_
  refine zcallL X hl.1 hPm hZm hPx hmx hS (As := [.int (xs (nI i + 1).toNatClampNeg), .int (xs (nI i + 2).toNatClampNeg), .int (xs (nI i + 3).toNatClampNeg)]) (rest := [.int r1]) (cn_X12_act hf2) cw_X12_act zp_12 rfl (by decide) rfl ml_L_168 ⟨Nat.le_of_ble_eq_true rfl, Nat.le_of_ble_eq_true rfl⟩ ⟨Nat.le_of_ble_eq_true rfl, Nat.le_of_ble_eq_true rfl⟩ rfl rfl (Nat.le_of_ble_eq_true rfl) dL_law_1375 hOm (fun H locs hPm hPx hS => ?_)
  refine lv_icmp_eq (tgt := 1527) hx hb dL_law_1378 (by decide) (fun _ => ?_) (fun z => absurd rfl z)
  exact hnext σ1 τ1 hI _ _ _ hPx hPm hS hl
set_option maxHeartbeats 4000000 in
set_option maxRecDepth 100000 in
theorem law_case_36 {p : Program} {l : Launch} {e : Env} {s : State} {m : MethodId} {below : List Frame} {meth : Method} {c : Code} {cA : Nat → ClassId} {D : va_G} {E : Nat → Nat} {b L : Nat} {xs : Nat → Int32} {adx adm : Nat → Nat} {I : SS → SS → Prop} (X : ZX Oz 0 cA adz D E (fun q => s.heap.size ≤ q) p s m #[Value.ref b] meth c code R_law 4 ret) (hst : zSteps I) (hX : va_X b L xs s s.heap) (hbl : b < s.heap.size) (hZx : zD (fun q => s.heap.size ≤ q) Nx adx) (hZm : zD (fun q => s.heap.size ≤ q) Nm adm) (hxm : ∀ i j, i < Nx → j < Nm → adx i ≠ adm j)
    {i : Nat} (hiL : i + 6 ≤ L) (hL : L ≤ 3072) {σ τ : SS} (hI : I σ τ) {H : Heap} {locs : List Loc} {ls : Array Slot} (hPx : va_P D ZCL (zw Ox Nx cA adx σ) H) (hPm : va_P D ZCL (zw Om Nm cA adm τ) H) (hS : va_S (fun q => s.heap.size ≤ q) s.heap H locs) (hl : lv_has ls 4 [(0, .ref b), (1, .ref (adx 0)), (2, .ref (adm 0)), (3, .int (nI i))])
    (hnext : ∀ (σ1 τ1 : SS), I σ1 τ1 → ∀ (H : Heap) (locs : List Loc) (ls : Array Slot), va_P D ZCL (zw Ox Nx cA adx σ1) H → va_P D ZCL (zw Om Nm cA adm τ1) H → va_S (fun q => s.heap.size ≤ q) s.heap H locs → lv_has ls 4 [(0, .ref b), (1, .ref (adx 0)), (2, .ref (adm 0)), (3, .int (nI i))] → W p l e room_1 s m #[Value.ref b] below meth c H locs 123 628996 (lw_Z below #[Value.ref b] s) (F0 m 1527 ls [])) : W p l e room_1 s m #[Value.ref b] below meth c H locs 123 628996 (lw_Z below #[Value.ref b] s) (F0 m 1383 ls []) := by
  have hx := X.1
  have hb := X.2.1
  have hbA : ¬ (fun q : Nat => s.heap.size ≤ q) b := Nat.not_le.mpr hbl
  have hmx : ∀ i j, i < Nm → j < Nx → adm i ≠ adx j := fun i j hi hj h => hxm j i hj hi h.symm
  have hi1 : vp_in (nI i + 1) L := zvin (k := 1) hiL (by decide) hL
  refine lv_aload_n hx hb dL_law_1383 rfl (lv_at hl 1 rfl) ?_
  refine lv_aload_n hx hb dL_law_1384 rfl (lv_at hl 0 rfl) ?_
  refine lv_iload_n hx hb dL_law_1385 rfl (lv_at hl 3 rfl) ?_
  refine lv_iconst (v := 1) hx hb dL_law_1386 (by decide) ?_
  refine lv_iadd hx hb dL_law_1387 ?_
  refine va_sld hx hb hX hbl hbA hS hi1 dL_law_1388 ?_
  obtain ⟨r1, σ1, τ1, hf1, hf2, hI⟩ := hst.sttrace ((xs (nI i + 1).toNatClampNeg)) σ τ hI
  refine zcallL X hl.1 hPx hZx hPm hxm hS (As := [.int (xs (nI i + 1).toNatClampNeg)]) (rest := []) (cn_X11_trace hf1) cw_X11_trace zp_11 rfl (by decide) rfl ml_L_169 ⟨Nat.le_of_ble_eq_true rfl, Nat.le_of_ble_eq_true rfl⟩ ⟨Nat.le_of_ble_eq_true rfl, Nat.le_of_ble_eq_true rfl⟩ rfl rfl (Nat.le_of_ble_eq_true rfl) dL_law_1389 hOx (fun H locs hPx hPm hS => ?_)
  refine lv_aload_n hx hb dL_law_1392 rfl (lv_at hl 2 rfl) ?_
  refine lv_aload_n hx hb dL_law_1393 rfl (lv_at hl 0 rfl) ?_
  refine lv_iload_n hx hb dL_law_1394 rfl (lv_at hl 3 rfl) ?_
  refine lv_iconst (v := 1) hx hb dL_law_1395 (by decide) ?_
  refine lv_iadd hx hb dL_law_1396 ?_
  refine va_sld hx hb hX hbl hbA hS hi1 dL_law_1397 ?_
  refine zcallL X hl.1 hPm hZm hPx hmx hS (As := [.int (xs (nI i + 1).toNatClampNeg)]) (rest := [.int r1]) (cn_X12_trace hf2) cw_X12_trace zp_12 rfl (by decide) rfl ml_L_172 ⟨Nat.le_of_ble_eq_true rfl, Nat.le_of_ble_eq_true rfl⟩ ⟨Nat.le_of_ble_eq_true rfl, Nat.le_of_ble_eq_true rfl⟩ rfl rfl (Nat.le_of_ble_eq_true rfl) dL_law_1398 hOm (fun H locs hPm hPx hS => ?_)
  refine lv_icmp_eq (tgt := 1527) hx hb dL_law_1401 (by decide) (fun _ => ?_) (fun z => absurd rfl z)
  exact hnext σ1 τ1 hI _ _ _ hPx hPm hS hl
set_option maxHeartbeats 4000000 in
set_option maxRecDepth 100000 in
theorem law_case_37 {p : Program} {l : Launch} {e : Env} {s : State} {m : MethodId} {below : List Frame} {meth : Method} {c : Code} {cA : Nat → ClassId} {D : va_G} {E : Nat → Nat} {b L : Nat} {xs : Nat → Int32} {adx adm : Nat → Nat} {I : SS → SS → Prop} (X : ZX Oz 0 cA adz D E (fun q => s.heap.size ≤ q) p s m #[Value.ref b] meth c code R_law 4 ret) (hst : zSteps I) (hX : va_X b L xs s s.heap) (hbl : b < s.heap.size) (hZx : zD (fun q => s.heap.size ≤ q) Nx adx) (hZm : zD (fun q => s.heap.size ≤ q) Nm adm) (hxm : ∀ i j, i < Nx → j < Nm → adx i ≠ adm j)
    {i : Nat} (hiL : i + 6 ≤ L) (hL : L ≤ 3072) {σ τ : SS} (hI : I σ τ) {H : Heap} {locs : List Loc} {ls : Array Slot} (hPx : va_P D ZCL (zw Ox Nx cA adx σ) H) (hPm : va_P D ZCL (zw Om Nm cA adm τ) H) (hS : va_S (fun q => s.heap.size ≤ q) s.heap H locs) (hl : lv_has ls 4 [(0, .ref b), (1, .ref (adx 0)), (2, .ref (adm 0)), (3, .int (nI i))])
    (hnext : ∀ (σ1 τ1 : SS), I σ1 τ1 → ∀ (H : Heap) (locs : List Loc) (ls : Array Slot), va_P D ZCL (zw Ox Nx cA adx σ1) H → va_P D ZCL (zw Om Nm cA adm τ1) H → va_S (fun q => s.heap.size ≤ q) s.heap H locs → lv_has ls 4 [(0, .ref b), (1, .ref (adx 0)), (2, .ref (adm 0)), (3, .int (nI i))] → W p l e room_1 s m #[Value.ref b] below meth c H locs 123 628996 (lw_Z below #[Value.ref b] s) (F0 m 1527 ls [])) : W p l e room_1 s m #[Value.ref b] below meth c H locs 123 628996 (lw_Z below #[Value.ref b] s) (F0 m 1406 ls []) := by
  have hx := X.1
  have hb := X.2.1
  have hbA : ¬ (fun q : Nat => s.heap.size ≤ q) b := Nat.not_le.mpr hbl
  have hmx : ∀ i j, i < Nm → j < Nx → adm i ≠ adx j := fun i j hi hj h => hxm j i hj hi h.symm
  have hi1 : vp_in (nI i + 1) L := zvin (k := 1) hiL (by decide) hL
  have hi2 : vp_in (nI i + 2) L := zvin (k := 2) hiL (by decide) hL
  refine lv_aload_n hx hb dL_law_1406 rfl (lv_at hl 1 rfl) ?_
  refine lv_aload_n hx hb dL_law_1407 rfl (lv_at hl 0 rfl) ?_
  refine lv_iload_n hx hb dL_law_1408 rfl (lv_at hl 3 rfl) ?_
  refine lv_iconst (v := 1) hx hb dL_law_1409 (by decide) ?_
  refine lv_iadd hx hb dL_law_1410 ?_
  refine va_sld hx hb hX hbl hbA hS hi1 dL_law_1411 ?_
  refine lv_aload_n hx hb dL_law_1412 rfl (lv_at hl 0 rfl) ?_
  refine lv_iload_n hx hb dL_law_1413 rfl (lv_at hl 3 rfl) ?_
  refine lv_iconst (v := 2) hx hb dL_law_1414 (by decide) ?_
  refine lv_iadd hx hb dL_law_1415 ?_
  refine va_sld hx hb hX hbl hbA hS hi2 dL_law_1416 ?_
  obtain ⟨r1, σ1, τ1, hf1, hf2, hI⟩ := hst.sttaken ((xs (nI i + 1).toNatClampNeg)) ((xs (nI i + 2).toNatClampNeg)) σ τ hI
  refine zcallL X hl.1 hPx hZx hPm hxm hS (As := [.int (xs (nI i + 1).toNatClampNeg), .int (xs (nI i + 2).toNatClampNeg)]) (rest := []) (cn_X11_taken hf1) cw_X11_taken zp_11 rfl (by decide) rfl ml_L_173 ⟨Nat.le_of_ble_eq_true rfl, Nat.le_of_ble_eq_true rfl⟩ ⟨Nat.le_of_ble_eq_true rfl, Nat.le_of_ble_eq_true rfl⟩ rfl rfl (Nat.le_of_ble_eq_true rfl) dL_law_1417 hOx (fun H locs hPx hPm hS => ?_)
  refine lv_aload_n hx hb dL_law_1420 rfl (lv_at hl 2 rfl) ?_
  refine lv_aload_n hx hb dL_law_1421 rfl (lv_at hl 0 rfl) ?_
  refine lv_iload_n hx hb dL_law_1422 rfl (lv_at hl 3 rfl) ?_
  refine lv_iconst (v := 1) hx hb dL_law_1423 (by decide) ?_
  refine lv_iadd hx hb dL_law_1424 ?_
  refine va_sld hx hb hX hbl hbA hS hi1 dL_law_1425 ?_
  refine lv_aload_n hx hb dL_law_1426 rfl (lv_at hl 0 rfl) ?_
  refine lv_iload_n hx hb dL_law_1427 rfl (lv_at hl 3 rfl) ?_
  refine lv_iconst (v := 2) hx hb dL_law_1428 (by decide) ?_
  refine lv_iadd hx hb dL_law_1429 ?_
  refine va_sld hx hb hX hbl hbA hS hi2 dL_law_1430 ?_
  refine zcallL X hl.1 hPm hZm hPx hmx hS (As := [.int (xs (nI i + 1).toNatClampNeg), .int (xs (nI i + 2).toNatClampNeg)]) (rest := [.int r1]) (cn_X12_taken hf2) cw_X12_taken zp_12 rfl (by decide) rfl ml_L_176 ⟨Nat.le_of_ble_eq_true rfl, Nat.le_of_ble_eq_true rfl⟩ ⟨Nat.le_of_ble_eq_true rfl, Nat.le_of_ble_eq_true rfl⟩ rfl rfl (Nat.le_of_ble_eq_true rfl) dL_law_1431 hOm (fun H locs hPm hPx hS => ?_)
  refine lv_icmp_eq (tgt := 1527) hx hb dL_law_1434 (by decide) (fun _ => ?_) (fun z => absurd rfl z)
  exact hnext σ1 τ1 hI _ _ _ hPx hPm hS hl
set_option maxHeartbeats 4000000 in
set_option maxRecDepth 100000 in
theorem law_case_38 {p : Program} {l : Launch} {e : Env} {s : State} {m : MethodId} {below : List Frame} {meth : Method} {c : Code} {cA : Nat → ClassId} {D : va_G} {E : Nat → Nat} {b L : Nat} {xs : Nat → Int32} {adx adm : Nat → Nat} {I : SS → SS → Prop} (X : ZX Oz 0 cA adz D E (fun q => s.heap.size ≤ q) p s m #[Value.ref b] meth c code R_law 4 ret) (hst : zSteps I) (hX : va_X b L xs s s.heap) (hbl : b < s.heap.size) (hZx : zD (fun q => s.heap.size ≤ q) Nx adx) (hZm : zD (fun q => s.heap.size ≤ q) Nm adm) (hxm : ∀ i j, i < Nx → j < Nm → adx i ≠ adm j)
    {i : Nat} (hiL : i + 6 ≤ L) (hL : L ≤ 3072) {σ τ : SS} (hI : I σ τ) {H : Heap} {locs : List Loc} {ls : Array Slot} (hPx : va_P D ZCL (zw Ox Nx cA adx σ) H) (hPm : va_P D ZCL (zw Om Nm cA adm τ) H) (hS : va_S (fun q => s.heap.size ≤ q) s.heap H locs) (hl : lv_has ls 4 [(0, .ref b), (1, .ref (adx 0)), (2, .ref (adm 0)), (3, .int (nI i))])
    (hnext : ∀ (σ1 τ1 : SS), I σ1 τ1 → ∀ (H : Heap) (locs : List Loc) (ls : Array Slot), va_P D ZCL (zw Ox Nx cA adx σ1) H → va_P D ZCL (zw Om Nm cA adm τ1) H → va_S (fun q => s.heap.size ≤ q) s.heap H locs → lv_has ls 4 [(0, .ref b), (1, .ref (adx 0)), (2, .ref (adm 0)), (3, .int (nI i))] → W p l e room_1 s m #[Value.ref b] below meth c H locs 123 628996 (lw_Z below #[Value.ref b] s) (F0 m 1527 ls [])) : W p l e room_1 s m #[Value.ref b] below meth c H locs 123 628996 (lw_Z below #[Value.ref b] s) (F0 m 1439 ls []) := by
  have hx := X.1
  have hb := X.2.1
  have hbA : ¬ (fun q : Nat => s.heap.size ≤ q) b := Nat.not_le.mpr hbl
  have hmx : ∀ i j, i < Nm → j < Nx → adm i ≠ adx j := fun i j hi hj h => hxm j i hj hi h.symm
  refine lv_aload_n hx hb dL_law_1439 rfl (lv_at hl 1 rfl) ?_
  obtain ⟨r1, σ1, τ1, hf1, hf2, hI⟩ := hst.stundo  σ τ hI
  refine zcallL X hl.1 hPx hZx hPm hxm hS (As := []) (rest := []) (cn_X11_undo hf1) cw_X11_undo zp_11 rfl (by decide) rfl ml_L_177 ⟨Nat.le_of_ble_eq_true rfl, Nat.le_of_ble_eq_true rfl⟩ ⟨Nat.le_of_ble_eq_true rfl, Nat.le_of_ble_eq_true rfl⟩ rfl rfl (Nat.le_of_ble_eq_true rfl) dL_law_1440 hOx (fun H locs hPx hPm hS => ?_)
  refine lv_aload_n hx hb dL_law_1443 rfl (lv_at hl 2 rfl) ?_
  refine zcallL X hl.1 hPm hZm hPx hmx hS (As := []) (rest := [.int r1]) (cn_X12_undo hf2) cw_X12_undo zp_12 rfl (by decide) rfl ml_L_180 ⟨Nat.le_of_ble_eq_true rfl, Nat.le_of_ble_eq_true rfl⟩ ⟨Nat.le_of_ble_eq_true rfl, Nat.le_of_ble_eq_true rfl⟩ rfl rfl (Nat.le_of_ble_eq_true rfl) dL_law_1444 hOm (fun H locs hPm hPx hS => ?_)
  refine lv_icmp_eq (tgt := 1527) hx hb dL_law_1447 (by decide) (fun _ => ?_) (fun z => absurd rfl z)
  exact hnext σ1 τ1 hI _ _ _ hPx hPm hS hl
set_option maxHeartbeats 4000000 in
set_option maxRecDepth 100000 in
theorem law_case_39 {p : Program} {l : Launch} {e : Env} {s : State} {m : MethodId} {below : List Frame} {meth : Method} {c : Code} {cA : Nat → ClassId} {D : va_G} {E : Nat → Nat} {b L : Nat} {xs : Nat → Int32} {adx adm : Nat → Nat} {I : SS → SS → Prop} (X : ZX Oz 0 cA adz D E (fun q => s.heap.size ≤ q) p s m #[Value.ref b] meth c code R_law 4 ret) (hst : zSteps I) (hX : va_X b L xs s s.heap) (hbl : b < s.heap.size) (hZx : zD (fun q => s.heap.size ≤ q) Nx adx) (hZm : zD (fun q => s.heap.size ≤ q) Nm adm) (hxm : ∀ i j, i < Nx → j < Nm → adx i ≠ adm j)
    {i : Nat} (hiL : i + 6 ≤ L) (hL : L ≤ 3072) {σ τ : SS} (hI : I σ τ) {H : Heap} {locs : List Loc} {ls : Array Slot} (hPx : va_P D ZCL (zw Ox Nx cA adx σ) H) (hPm : va_P D ZCL (zw Om Nm cA adm τ) H) (hS : va_S (fun q => s.heap.size ≤ q) s.heap H locs) (hl : lv_has ls 4 [(0, .ref b), (1, .ref (adx 0)), (2, .ref (adm 0)), (3, .int (nI i))])
    (hnext : ∀ (σ1 τ1 : SS), I σ1 τ1 → ∀ (H : Heap) (locs : List Loc) (ls : Array Slot), va_P D ZCL (zw Ox Nx cA adx σ1) H → va_P D ZCL (zw Om Nm cA adm τ1) H → va_S (fun q => s.heap.size ≤ q) s.heap H locs → lv_has ls 4 [(0, .ref b), (1, .ref (adx 0)), (2, .ref (adm 0)), (3, .int (nI i))] → W p l e room_1 s m #[Value.ref b] below meth c H locs 123 628996 (lw_Z below #[Value.ref b] s) (F0 m 1527 ls [])) : W p l e room_1 s m #[Value.ref b] below meth c H locs 123 628996 (lw_Z below #[Value.ref b] s) (F0 m 1452 ls []) := by
  have hx := X.1
  have hb := X.2.1
  have hbA : ¬ (fun q : Nat => s.heap.size ≤ q) b := Nat.not_le.mpr hbl
  have hmx : ∀ i j, i < Nm → j < Nx → adm i ≠ adx j := fun i j hi hj h => hxm j i hj hi h.symm
  refine lv_aload_n hx hb dL_law_1452 rfl (lv_at hl 1 rfl) ?_
  obtain ⟨r1, σ1, τ1, hf1, hf2, hI⟩ := hst.stredo  σ τ hI
  refine zcallL X hl.1 hPx hZx hPm hxm hS (As := []) (rest := []) (cn_X11_redo hf1) cw_X11_redo zp_11 rfl (by decide) rfl ml_L_181 ⟨Nat.le_of_ble_eq_true rfl, Nat.le_of_ble_eq_true rfl⟩ ⟨Nat.le_of_ble_eq_true rfl, Nat.le_of_ble_eq_true rfl⟩ rfl rfl (Nat.le_of_ble_eq_true rfl) dL_law_1453 hOx (fun H locs hPx hPm hS => ?_)
  refine lv_aload_n hx hb dL_law_1456 rfl (lv_at hl 2 rfl) ?_
  refine zcallL X hl.1 hPm hZm hPx hmx hS (As := []) (rest := [.int r1]) (cn_X12_redo hf2) cw_X12_redo zp_12 rfl (by decide) rfl ml_L_184 ⟨Nat.le_of_ble_eq_true rfl, Nat.le_of_ble_eq_true rfl⟩ ⟨Nat.le_of_ble_eq_true rfl, Nat.le_of_ble_eq_true rfl⟩ rfl rfl (Nat.le_of_ble_eq_true rfl) dL_law_1457 hOm (fun H locs hPm hPx hS => ?_)
  refine lv_icmp_eq (tgt := 1527) hx hb dL_law_1460 (by decide) (fun _ => ?_) (fun z => absurd rfl z)
  exact hnext σ1 τ1 hI _ _ _ hPx hPm hS hl
set_option maxHeartbeats 4000000 in
set_option maxRecDepth 100000 in
theorem law_case_40 {p : Program} {l : Launch} {e : Env} {s : State} {m : MethodId} {below : List Frame} {meth : Method} {c : Code} {cA : Nat → ClassId} {D : va_G} {E : Nat → Nat} {b L : Nat} {xs : Nat → Int32} {adx adm : Nat → Nat} {I : SS → SS → Prop} (X : ZX Oz 0 cA adz D E (fun q => s.heap.size ≤ q) p s m #[Value.ref b] meth c code R_law 4 ret) (hst : zSteps I) (hX : va_X b L xs s s.heap) (hbl : b < s.heap.size) (hZx : zD (fun q => s.heap.size ≤ q) Nx adx) (hZm : zD (fun q => s.heap.size ≤ q) Nm adm) (hxm : ∀ i j, i < Nx → j < Nm → adx i ≠ adm j)
    {i : Nat} (hiL : i + 6 ≤ L) (hL : L ≤ 3072) {σ τ : SS} (hI : I σ τ) {H : Heap} {locs : List Loc} {ls : Array Slot} (hPx : va_P D ZCL (zw Ox Nx cA adx σ) H) (hPm : va_P D ZCL (zw Om Nm cA adm τ) H) (hS : va_S (fun q => s.heap.size ≤ q) s.heap H locs) (hl : lv_has ls 4 [(0, .ref b), (1, .ref (adx 0)), (2, .ref (adm 0)), (3, .int (nI i))])
    (hnext : ∀ (σ1 τ1 : SS), I σ1 τ1 → ∀ (H : Heap) (locs : List Loc) (ls : Array Slot), va_P D ZCL (zw Ox Nx cA adx σ1) H → va_P D ZCL (zw Om Nm cA adm τ1) H → va_S (fun q => s.heap.size ≤ q) s.heap H locs → lv_has ls 4 [(0, .ref b), (1, .ref (adx 0)), (2, .ref (adm 0)), (3, .int (nI i))] → W p l e room_1 s m #[Value.ref b] below meth c H locs 123 628996 (lw_Z below #[Value.ref b] s) (F0 m 1527 ls [])) : W p l e room_1 s m #[Value.ref b] below meth c H locs 123 628996 (lw_Z below #[Value.ref b] s) (F0 m 1465 ls []) := by
  have hx := X.1
  have hb := X.2.1
  have hbA : ¬ (fun q : Nat => s.heap.size ≤ q) b := Nat.not_le.mpr hbl
  have hmx : ∀ i j, i < Nm → j < Nx → adm i ≠ adx j := fun i j hi hj h => hxm j i hj hi h.symm
  refine lv_aload_n hx hb dL_law_1465 rfl (lv_at hl 1 rfl) ?_
  obtain ⟨r1, σ1, τ1, hf1, hf2, hI⟩ := hst.stimage  σ τ hI
  refine zcallL X hl.1 hPx hZx hPm hxm hS (As := []) (rest := []) (cn_X11_image hf1) cw_X11_image zp_11 rfl (by decide) rfl ml_L_185 ⟨Nat.le_of_ble_eq_true rfl, Nat.le_of_ble_eq_true rfl⟩ ⟨Nat.le_of_ble_eq_true rfl, Nat.le_of_ble_eq_true rfl⟩ rfl rfl (Nat.le_of_ble_eq_true rfl) dL_law_1466 hOx (fun H locs hPx hPm hS => ?_)
  refine lv_aload_n hx hb dL_law_1469 rfl (lv_at hl 2 rfl) ?_
  refine zcallL X hl.1 hPm hZm hPx hmx hS (As := []) (rest := [.int r1]) (cn_X12_image hf2) cw_X12_image zp_12 rfl (by decide) rfl ml_L_188 ⟨Nat.le_of_ble_eq_true rfl, Nat.le_of_ble_eq_true rfl⟩ ⟨Nat.le_of_ble_eq_true rfl, Nat.le_of_ble_eq_true rfl⟩ rfl rfl (Nat.le_of_ble_eq_true rfl) dL_law_1470 hOm (fun H locs hPm hPx hS => ?_)
  refine lv_icmp_eq (tgt := 1527) hx hb dL_law_1473 (by decide) (fun _ => ?_) (fun z => absurd rfl z)
  exact hnext σ1 τ1 hI _ _ _ hPx hPm hS hl
set_option maxHeartbeats 4000000 in
set_option maxRecDepth 100000 in
theorem law_case_41 {p : Program} {l : Launch} {e : Env} {s : State} {m : MethodId} {below : List Frame} {meth : Method} {c : Code} {cA : Nat → ClassId} {D : va_G} {E : Nat → Nat} {b L : Nat} {xs : Nat → Int32} {adx adm : Nat → Nat} {I : SS → SS → Prop} (X : ZX Oz 0 cA adz D E (fun q => s.heap.size ≤ q) p s m #[Value.ref b] meth c code R_law 4 ret) (hst : zSteps I) (hX : va_X b L xs s s.heap) (hbl : b < s.heap.size) (hZx : zD (fun q => s.heap.size ≤ q) Nx adx) (hZm : zD (fun q => s.heap.size ≤ q) Nm adm) (hxm : ∀ i j, i < Nx → j < Nm → adx i ≠ adm j)
    {i : Nat} (hiL : i + 6 ≤ L) (hL : L ≤ 3072) {σ τ : SS} (hI : I σ τ) {H : Heap} {locs : List Loc} {ls : Array Slot} (hPx : va_P D ZCL (zw Ox Nx cA adx σ) H) (hPm : va_P D ZCL (zw Om Nm cA adm τ) H) (hS : va_S (fun q => s.heap.size ≤ q) s.heap H locs) (hl : lv_has ls 4 [(0, .ref b), (1, .ref (adx 0)), (2, .ref (adm 0)), (3, .int (nI i))])
    (hnext : ∀ (σ1 τ1 : SS), I σ1 τ1 → ∀ (H : Heap) (locs : List Loc) (ls : Array Slot), va_P D ZCL (zw Ox Nx cA adx σ1) H → va_P D ZCL (zw Om Nm cA adm τ1) H → va_S (fun q => s.heap.size ≤ q) s.heap H locs → lv_has ls 4 [(0, .ref b), (1, .ref (adx 0)), (2, .ref (adm 0)), (3, .int (nI i))] → W p l e room_1 s m #[Value.ref b] below meth c H locs 123 628996 (lw_Z below #[Value.ref b] s) (F0 m 1527 ls [])) : W p l e room_1 s m #[Value.ref b] below meth c H locs 123 628996 (lw_Z below #[Value.ref b] s) (F0 m 1478 ls []) := by
  have hx := X.1
  have hb := X.2.1
  have hbA : ¬ (fun q : Nat => s.heap.size ≤ q) b := Nat.not_le.mpr hbl
  have hmx : ∀ i j, i < Nm → j < Nx → adm i ≠ adx j := fun i j hi hj h => hxm j i hj hi h.symm
  refine lv_aload_n hx hb dL_law_1478 rfl (lv_at hl 1 rfl) ?_
  obtain ⟨r1, σ1, τ1, hf1, hf2, hI⟩ := hst.stalike  σ τ hI
  refine zcallL X hl.1 hPx hZx hPm hxm hS (As := []) (rest := []) (cn_X11_alike hf1) cw_X11_alike zp_11 rfl (by decide) rfl ml_L_189 ⟨Nat.le_of_ble_eq_true rfl, Nat.le_of_ble_eq_true rfl⟩ ⟨Nat.le_of_ble_eq_true rfl, Nat.le_of_ble_eq_true rfl⟩ rfl rfl (Nat.le_of_ble_eq_true rfl) dL_law_1479 hOx (fun H locs hPx hPm hS => ?_)
  refine lv_aload_n hx hb dL_law_1482 rfl (lv_at hl 2 rfl) ?_
  refine zcallL X hl.1 hPm hZm hPx hmx hS (As := []) (rest := [.int r1]) (cn_X12_alike hf2) cw_X12_alike zp_12 rfl (by decide) rfl ml_L_192 ⟨Nat.le_of_ble_eq_true rfl, Nat.le_of_ble_eq_true rfl⟩ ⟨Nat.le_of_ble_eq_true rfl, Nat.le_of_ble_eq_true rfl⟩ rfl rfl (Nat.le_of_ble_eq_true rfl) dL_law_1483 hOm (fun H locs hPm hPx hS => ?_)
  refine lv_icmp_eq (tgt := 1527) hx hb dL_law_1486 (by decide) (fun _ => ?_) (fun z => absurd rfl z)
  exact hnext σ1 τ1 hI _ _ _ hPx hPm hS hl
set_option maxHeartbeats 4000000 in
set_option maxRecDepth 100000 in
theorem law_case_42 {p : Program} {l : Launch} {e : Env} {s : State} {m : MethodId} {below : List Frame} {meth : Method} {c : Code} {cA : Nat → ClassId} {D : va_G} {E : Nat → Nat} {b L : Nat} {xs : Nat → Int32} {adx adm : Nat → Nat} {I : SS → SS → Prop} (X : ZX Oz 0 cA adz D E (fun q => s.heap.size ≤ q) p s m #[Value.ref b] meth c code R_law 4 ret) (hst : zSteps I) (hX : va_X b L xs s s.heap) (hbl : b < s.heap.size) (hZx : zD (fun q => s.heap.size ≤ q) Nx adx) (hZm : zD (fun q => s.heap.size ≤ q) Nm adm) (hxm : ∀ i j, i < Nx → j < Nm → adx i ≠ adm j)
    {i : Nat} (hiL : i + 6 ≤ L) (hL : L ≤ 3072) {σ τ : SS} (hI : I σ τ) {H : Heap} {locs : List Loc} {ls : Array Slot} (hPx : va_P D ZCL (zw Ox Nx cA adx σ) H) (hPm : va_P D ZCL (zw Om Nm cA adm τ) H) (hS : va_S (fun q => s.heap.size ≤ q) s.heap H locs) (hl : lv_has ls 4 [(0, .ref b), (1, .ref (adx 0)), (2, .ref (adm 0)), (3, .int (nI i))])
    (hnext : ∀ (σ1 τ1 : SS), I σ1 τ1 → ∀ (H : Heap) (locs : List Loc) (ls : Array Slot), va_P D ZCL (zw Ox Nx cA adx σ1) H → va_P D ZCL (zw Om Nm cA adm τ1) H → va_S (fun q => s.heap.size ≤ q) s.heap H locs → lv_has ls 4 [(0, .ref b), (1, .ref (adx 0)), (2, .ref (adm 0)), (3, .int (nI i))] → W p l e room_1 s m #[Value.ref b] below meth c H locs 123 628996 (lw_Z below #[Value.ref b] s) (F0 m 1527 ls [])) : W p l e room_1 s m #[Value.ref b] below meth c H locs 123 628996 (lw_Z below #[Value.ref b] s) (F0 m 1491 ls []) := by
  have hx := X.1
  have hb := X.2.1
  have hbA : ¬ (fun q : Nat => s.heap.size ≤ q) b := Nat.not_le.mpr hbl
  have hmx : ∀ i j, i < Nm → j < Nx → adm i ≠ adx j := fun i j hi hj h => hxm j i hj hi h.symm
  refine lv_aload_n hx hb dL_law_1491 rfl (lv_at hl 1 rfl) ?_
  obtain ⟨r1, σ1, τ1, hf1, hf2, hI⟩ := hst.stback  σ τ hI
  refine zcallL X hl.1 hPx hZx hPm hxm hS (As := []) (rest := []) (cn_X11_back hf1) cw_X11_back zp_11 rfl (by decide) rfl ml_L_193 ⟨Nat.le_of_ble_eq_true rfl, Nat.le_of_ble_eq_true rfl⟩ ⟨Nat.le_of_ble_eq_true rfl, Nat.le_of_ble_eq_true rfl⟩ rfl rfl (Nat.le_of_ble_eq_true rfl) dL_law_1492 hOx (fun H locs hPx hPm hS => ?_)
  refine lv_aload_n hx hb dL_law_1495 rfl (lv_at hl 2 rfl) ?_
  refine zcallL X hl.1 hPm hZm hPx hmx hS (As := []) (rest := [.int r1]) (cn_X12_back hf2) cw_X12_back zp_12 rfl (by decide) rfl ml_L_196 ⟨Nat.le_of_ble_eq_true rfl, Nat.le_of_ble_eq_true rfl⟩ ⟨Nat.le_of_ble_eq_true rfl, Nat.le_of_ble_eq_true rfl⟩ rfl rfl (Nat.le_of_ble_eq_true rfl) dL_law_1496 hOm (fun H locs hPm hPx hS => ?_)
  refine lv_icmp_eq (tgt := 1527) hx hb dL_law_1499 (by decide) (fun _ => ?_) (fun z => absurd rfl z)
  exact hnext σ1 τ1 hI _ _ _ hPx hPm hS hl
set_option maxHeartbeats 4000000 in
set_option maxRecDepth 100000 in
theorem law_case_43 {p : Program} {l : Launch} {e : Env} {s : State} {m : MethodId} {below : List Frame} {meth : Method} {c : Code} {cA : Nat → ClassId} {D : va_G} {E : Nat → Nat} {b L : Nat} {xs : Nat → Int32} {adx adm : Nat → Nat} {I : SS → SS → Prop} (X : ZX Oz 0 cA adz D E (fun q => s.heap.size ≤ q) p s m #[Value.ref b] meth c code R_law 4 ret) (hst : zSteps I) (hX : va_X b L xs s s.heap) (hbl : b < s.heap.size) (hZx : zD (fun q => s.heap.size ≤ q) Nx adx) (hZm : zD (fun q => s.heap.size ≤ q) Nm adm) (hxm : ∀ i j, i < Nx → j < Nm → adx i ≠ adm j)
    {i : Nat} (hiL : i + 6 ≤ L) (hL : L ≤ 3072) {σ τ : SS} (hI : I σ τ) {H : Heap} {locs : List Loc} {ls : Array Slot} (hPx : va_P D ZCL (zw Ox Nx cA adx σ) H) (hPm : va_P D ZCL (zw Om Nm cA adm τ) H) (hS : va_S (fun q => s.heap.size ≤ q) s.heap H locs) (hl : lv_has ls 4 [(0, .ref b), (1, .ref (adx 0)), (2, .ref (adm 0)), (3, .int (nI i))])
    (hnext : ∀ (σ1 τ1 : SS), I σ1 τ1 → ∀ (H : Heap) (locs : List Loc) (ls : Array Slot), va_P D ZCL (zw Ox Nx cA adx σ1) H → va_P D ZCL (zw Om Nm cA adm τ1) H → va_S (fun q => s.heap.size ≤ q) s.heap H locs → lv_has ls 4 [(0, .ref b), (1, .ref (adx 0)), (2, .ref (adm 0)), (3, .int (nI i))] → W p l e room_1 s m #[Value.ref b] below meth c H locs 123 628996 (lw_Z below #[Value.ref b] s) (F0 m 1527 ls [])) : W p l e room_1 s m #[Value.ref b] below meth c H locs 123 628996 (lw_Z below #[Value.ref b] s) (F0 m 1504 ls []) := by
  have hx := X.1
  have hb := X.2.1
  have hbA : ¬ (fun q : Nat => s.heap.size ≤ q) b := Nat.not_le.mpr hbl
  have hmx : ∀ i j, i < Nm → j < Nx → adm i ≠ adx j := fun i j hi hj h => hxm j i hj hi h.symm
  have hi1 : vp_in (nI i + 1) L := zvin (k := 1) hiL (by decide) hL
  refine lv_aload_n hx hb dL_law_1504 rfl (lv_at hl 1 rfl) ?_
  refine lv_aload_n hx hb dL_law_1505 rfl (lv_at hl 0 rfl) ?_
  refine lv_iload_n hx hb dL_law_1506 rfl (lv_at hl 3 rfl) ?_
  refine lv_iconst (v := 1) hx hb dL_law_1507 (by decide) ?_
  refine lv_iadd hx hb dL_law_1508 ?_
  refine va_sld hx hb hX hbl hbA hS hi1 dL_law_1509 ?_
  obtain ⟨r1, σ1, τ1, hf1, hf2, hI⟩ := hst.stcount ((xs (nI i + 1).toNatClampNeg)) σ τ hI
  refine zcallL X hl.1 hPx hZx hPm hxm hS (As := [.int (xs (nI i + 1).toNatClampNeg)]) (rest := []) (cn_X11_count hf1) cw_X11_count zp_11 rfl (by decide) rfl ml_L_197 ⟨Nat.le_of_ble_eq_true rfl, Nat.le_of_ble_eq_true rfl⟩ ⟨Nat.le_of_ble_eq_true rfl, Nat.le_of_ble_eq_true rfl⟩ rfl rfl (Nat.le_of_ble_eq_true rfl) dL_law_1510 hOx (fun H locs hPx hPm hS => ?_)
  refine lv_aload_n hx hb dL_law_1513 rfl (lv_at hl 2 rfl) ?_
  refine lv_aload_n hx hb dL_law_1514 rfl (lv_at hl 0 rfl) ?_
  refine lv_iload_n hx hb dL_law_1515 rfl (lv_at hl 3 rfl) ?_
  refine lv_iconst (v := 1) hx hb dL_law_1516 (by decide) ?_
  refine lv_iadd hx hb dL_law_1517 ?_
  refine va_sld hx hb hX hbl hbA hS hi1 dL_law_1518 ?_
  refine zcallL X hl.1 hPm hZm hPx hmx hS (As := [.int (xs (nI i + 1).toNatClampNeg)]) (rest := [.int r1]) (cn_X12_count hf2) cw_X12_count zp_12 rfl (by decide) rfl ml_L_200 ⟨Nat.le_of_ble_eq_true rfl, Nat.le_of_ble_eq_true rfl⟩ ⟨Nat.le_of_ble_eq_true rfl, Nat.le_of_ble_eq_true rfl⟩ rfl rfl (Nat.le_of_ble_eq_true rfl) dL_law_1519 hOm (fun H locs hPm hPx hS => ?_)
  refine lv_icmp_eq (tgt := 1527) hx hb dL_law_1522 (by decide) (fun _ => ?_) (fun z => absurd rfl z)
  exact hnext σ1 τ1 hI _ _ _ hPx hPm hS hl
