set_option maxHeartbeats 8000000 in
set_option maxRecDepth 100000 in
/-- the law from its entry, given what both sides answer -/
theorem zwhole {p : Program} {e : Env} {s : State} {m : MethodId} {below : List Frame} {meth : Method} {c : Code} (l : Launch) {b L : Nat} {xs : Nat → Int32} (hL : L ≤ 3072) (C0 : lw_At p s m meth c b L xs) {I : SS → SS → Prop} (hst : zSteps I) {sx sm : SS} {ux um : Unit} (hfx : f_X11_initT zs0x = some (ux, sx)) (hfm : f_X12_initT zs0m = some (um, sm)) (hI : I sx sm) :
    W p l e room_1 s m #[Value.ref b] below meth c s.heap [] 0 0 (lw_Z below #[Value.ref b] s) (entryFrame m ([Value.ref b] : List Value).toArray 4) := by
  obtain ⟨hx, hb, hr, hml, hown, hts, hX, hbl, hlocks, hgv⟩ := id C0
  have hA : ∀ q : Nat, s.heap.size ≤ q → (fun q : Nat => s.heap.size ≤ q) q := fun _ h => h
  have hA2 : ∀ q : Nat, q < s.heap.size → ¬ (fun q : Nat => s.heap.size ≤ q) q := fun q h => Nat.not_le.mpr h
  obtain ⟨hAO, D, cA, hK⟩ := zk_start hts
  obtain ⟨E, hRO⟩ := zro_start hts hgv hA2
  have X : ZX Oz 0 cA adz D E (fun q => s.heap.size ≤ q) p s m #[Value.ref b] meth c code R_law 4 ret := ⟨hx, hb, fun w hw => hts w (tb_tbl hw), hown, hK, ⟨fun i j hi => absurd hi (Nat.not_lt_zero _), fun k hk => absurd hk (Nat.not_lt_zero _)⟩, hRO, hml, hr, hlocks, fun _ _ => rfl⟩
  have hS : va_S (fun q : Nat => s.heap.size ≤ q) s.heap s.heap [] := va_S.rf
  have hP : va_P D ZCL [] s.heap := fun k q h => by simp at h
  have hD : va_D (fun q : Nat => s.heap.size ≤ q) [] := ⟨fun i j p q h => by simp at h, fun k q h => by simp at h⟩
  have hl := lv_entry ([.ref b]) (n := 4) (Nat.le_of_ble_eq_true rfl)
  rw [lg_entry_eq]
  generalize (lg_sl ([.ref b]) ++ List.replicate (4 - (lg_sl ([.ref b])).length) Slot.unset).toArray = ls at hl ⊢
  have hl : lv_has ls 4 [(0, .ref b)] := hl
  refine znew X hP hD hS hA (C := RX11) (T := TX11) (NN := 10) (ci := 11) (fs := [.null, .null, .int 0, .null, .null, .null, .null, .null, .null, .null]) in_X11 tyX11 tyX11_ok (tb_of (tq_1 21 rfl) rfl) (tb_of (tq_1 22 rfl) rfl) (tb_of (tq_1 1 rfl) rfl) rfl (by decide) ⟨Nat.le_of_ble_eq_true rfl, Nat.le_of_ble_eq_true rfl⟩ dL_law_0 (fun q1 H hP hD hS => ?_)
  refine W.widen (k := 1) (n := 10) (Nat.le_of_ble_eq_true rfl) (Nat.le_of_ble_eq_true rfl) ?_
  refine lv_dup hx hb dL_law_3 rfl ?_
  refine zcallI X hAO hl.1 hP hD hS hA (rest := [.ref q1]) (ct_X11 (l := l) hfx) cv_X11 (Or.inl ml_L_9) ⟨Nat.le_of_ble_eq_true rfl, Nat.le_of_ble_eq_true rfl⟩ ⟨Nat.le_of_ble_eq_true rfl, Nat.le_of_ble_eq_true rfl⟩ (Nat.le_of_ble_eq_true rfl) dL_law_4 0 [] (wr := []) rfl rfl rfl (by decide) (fun w H locs hw hP hD hS => ?_)
  obtain ⟨adx, hx0, rfl⟩ := hw
  refine W.widen (k := 83) (n := 13115) (Nat.le_of_ble_eq_true rfl) (Nat.le_of_ble_eq_true rfl) ?_
  have hP : va_P D ZCL (zw Ox Nx cA adx sx) H := hP
  have hD : va_D (fun q : Nat => s.heap.size ≤ q) (zw Ox Nx cA adx sx) := hD
  refine lv_astore_n (lv' := [(1, .ref q1), (0, .ref b)]) hx hb dL_law_7 rfl hl (by decide) rfl (fun ls hl => ?_)
  refine znew X hP hD hS hA (C := RX12) (T := TX12) (NN := 61) (ci := 12) (fs := [.int 0, .int 0, .int 0, .null, .int 0, .null, .null, .int 0, .null, .null, .null, .null, .int 0, .null, .null, .null, .null, .null, .null, .null, .null, .int 0, .int 0, .null, .null, .null, .null, .int 0, .null, .int 0, .null, .null, .null, .null, .int 0, .null, .int 0, .int 0, .int 0, .int 0, .null, .int 0, .null, .null, .int 0, .null, .null, .null, .null, .null, .null, .int 0, .int 0, .int 0, .int 0, .null, .null, .null, .int 0, .null, .null]) in_X12 tyX12 tyX12_ok (tb_of (tq_5 85 rfl) rfl) (tb_of (tq_5 86 rfl) rfl) (tb_of (tq_1 14 rfl) rfl) rfl (by decide) ⟨Nat.le_of_ble_eq_true rfl, Nat.le_of_ble_eq_true rfl⟩ dL_law_8 (fun q2 H hP hD hS => ?_)
  refine W.widen (k := 84) (n := 13176) (Nat.le_of_ble_eq_true rfl) (Nat.le_of_ble_eq_true rfl) ?_
  refine lv_dup hx hb dL_law_11 rfl ?_
  have hlen : (zw Ox Nx cA adx sx).length = Nx := by simp [zw]
  refine zcallI X hAO hl.1 hP hD hS hA (rest := [.ref q2]) (ct_X12 (l := l) hfm) cv_X12 (Or.inl ml_L_12) ⟨Nat.le_of_ble_eq_true rfl, Nat.le_of_ble_eq_true rfl⟩ ⟨Nat.le_of_ble_eq_true rfl, Nat.le_of_ble_eq_true rfl⟩ (Nat.le_of_ble_eq_true rfl) dL_law_12 Nx (List.range Nx) (wr := zw Ox Nx cA adx sx) ?_ ?_ ?_ (by simp) (fun w H locs hw hP hD hS => ?_)
  · rw [List.getElem?_append_right (by rw [hlen]; exact Nat.le_refl _), hlen, Nat.sub_self]
    rfl
  · apply List.ext_getElem?
    intro i
    rw [List.getElem?_map, List.getElem?_map]
    rcases Nat.lt_or_ge i Nx with h | h
    · rw [List.getElem?_range h]
      show some ((zw Ox Nx cA adx sx ++ _)[i]?) = _
      rw [List.getElem?_append_left (by rw [hlen]; exact h), zw_at h]
      rfl
    · rw [List.getElem?_eq_none (by simpa using h), List.getElem?_eq_none (by rw [hlen]; exact h)]
      rfl
  · decide +kernel
  obtain ⟨adm, hm0, rfl⟩ := hw
  refine W.widen (k := 123) (n := 628996) (Nat.le_of_ble_eq_true rfl) (Nat.le_of_ble_eq_true rfl) ?_
  refine lv_astore_n (lv' := [(2, .ref q2), (1, .ref q1), (0, .ref b)]) hx hb dL_law_15 rfl hl (by decide) rfl (fun ls hl => ?_)
  refine lv_iconst (v := 0) hx hb dL_law_16 (by decide) ?_
  refine lv_istore_n (lv' := [(3, .int 0), (2, .ref q2), (1, .ref q1), (0, .ref b)]) hx hb dL_law_17 rfl hl (by decide) rfl (fun ls hl => ?_)
  have hPx : va_P D ZCL (zw Ox Nx cA adx sx) H := fun k q hk => hP k q (by rw [List.getElem?_append_left (List.getElem?_eq_some_iff.mp hk).1]; exact hk)
  have hPm : va_P D ZCL (zw Om Nm cA adm sm) H := fun k q hk => hP (Nx + k) q (by rw [List.getElem?_append_right (by rw [hlen]; omega), hlen, Nat.add_sub_cancel_left]; exact hk)
  have hZx : zD (fun q => s.heap.size ≤ q) Nx adx := ⟨fun i j hi hj h => hD.1 i j _ _ (by rw [List.getElem?_append_left (by rw [hlen]; exact hi), zw_at hi]) (by rw [List.getElem?_append_left (by rw [hlen]; exact hj), zw_at hj]) h, fun k hk => hD.2 k (adx k, _) (by rw [List.getElem?_append_left (by rw [hlen]; exact hk), zw_at hk])⟩
  have hZm : zD (fun q => s.heap.size ≤ q) Nm adm := ⟨fun i j hi hj h => by
    have := hD.1 (Nx + i) (Nx + j) _ _ (by rw [List.getElem?_append_right (by rw [hlen]; omega), hlen, Nat.add_sub_cancel_left, zw_at hi]) (by rw [List.getElem?_append_right (by rw [hlen]; omega), hlen, Nat.add_sub_cancel_left, zw_at hj]) h
    omega, fun k hk => hD.2 (Nx + k) (adm k, _) (by rw [List.getElem?_append_right (by rw [hlen]; omega), hlen, Nat.add_sub_cancel_left, zw_at hk])⟩
  have hxm : ∀ i j, i < Nx → j < Nm → adx i ≠ adm j := fun i j hi hj h => by
    have := hD.1 i (Nx + j) _ _ (by rw [List.getElem?_append_left (by rw [hlen]; exact hi), zw_at hi]) (by rw [List.getElem?_append_right (by rw [hlen]; omega), hlen, Nat.add_sub_cancel_left, zw_at hj]) h
    have h2 : i < Nx := hi
    omega
  subst hx0
  subst hm0
  exact law_loop X hst hX hbl hZx hZm hxm hlocks hL (L + 1) 0 (Nat.zero_le L) (by omega) sx sm hI _ _ _ hPx hPm hS (lv_sub hl [3, 2, 1, 0] rfl)
