section
variable {S : Sh} {C : Cl} {σ σ1 τ τ1 : SS}
theorem ex_in (x : Int32) {m : Nat} (hm : m < 2 ^ 30) (τ : SS) : (x < 0 ∧ f_X12_in x.toInt64 0 ((nI m - 1).toInt64) τ = some (0, τ)) ∨ ∃ i, i < 2 ^ 31 ∧ x = nI i ∧ f_X12_in x.toInt64 0 ((nI m - 1).toInt64) τ = some (if i < m then 1 else 0, τ) := by
  have e : (nI m - 1).toInt = (m : Int) - 1 := pk_sub_toInt (b := 1) hm (by decide)
  rw [pm_in32 x 0 (nI m - 1) 0 _ rfl rfl]
  rcases nI_cases x with q | ⟨i, hi, rfl⟩
  · exact Or.inl ⟨q, by rw [if_neg (fun w : 0 ≤ x ∧ x ≤ nI m - 1 => absurd q (Int32.not_lt.mpr w.1))]⟩
  · refine Or.inr ⟨i, hi, rfl, ?_⟩
    by_cases q : i < m
    · rw [if_pos q, if_pos (show 0 ≤ nI i ∧ nI i ≤ nI m - 1 from ⟨nI_pos' hi, by rw [Int32.le_iff_toInt_le, nI_toInt hi, e]; omega⟩)]
    · rw [if_neg q, if_neg (fun w : 0 ≤ nI i ∧ nI i ≤ nI m - 1 => q (by have := w.2; rw [Int32.le_iff_toInt_le, nI_toInt hi, e] at this; omega))]
theorem s_trace (x : Int32) (h : I0 σ τ) : ∃ r σ1 τ1, f_X11_trace x σ = some (r, σ1) ∧ f_X12_trace x τ = some (r, τ1) ∧ I0 σ1 τ1 := by
  obtain ⟨S, C, h⟩ := h
  obtain ⟨m, T⟩ := h.trc
  have hm := T.le
  rw [f_X11_trace, f_X12_trace, T.mC, T.mM]
  rcases ex_in x (m := m) (by omega) τ with ⟨q, e⟩ | ⟨i, hi, rfl, e⟩
  · rw [e, zbd_s]
    exact ex0 h.i0 _ (if_pos q) (if_pos rfl)
  · rw [e, zbd_s, if_neg (nI_pos hi)]
    by_cases q : i < m
    · rw [if_pos (nI_lt q (by omega)), if_pos q, if_neg n10, if_pos (zin_nI (by omega) (by decide)), if_pos (zin_nI (by omega) (by decide)), nI_clamp hi, T.e i q]
      exact ex0 h.i0 _ rfl rfl
    · rw [if_neg (nI_nlt (by omega) hi), if_neg q]
      exact ex0 h.i0 _ rfl (if_pos rfl)
theorem p_kept {l : Nat} (hl : l < 1000000) (h : σ.1 10 1 = nI l) : f_X6_kept σ = some (nI (min l 200), σ) := by
  rw [f_X6_kept, h]
  by_cases q : 200 < l
  · rw [if_pos (show (200 : Int32) < nI l from nI_lt (a := 200) q (by omega)), show min l 200 = 200 by omega]
    rfl
  · rw [if_neg (show ¬ (200 : Int32) < nI l from nI_nlt (b := l) (a := 200) (by omega) (by omega)), show min l 200 = l by omega]
theorem s_paper (x : Int32) (h : I0 σ τ) : ∃ r σ1 τ1, f_X11_paper x σ = some (r, σ1) ∧ f_X12_paper x τ = some (r, τ1) ∧ I0 σ1 τ1 := by
  obtain ⟨S, C, h⟩ := h
  obtain ⟨l, T⟩ := h.pap
  have hm := T.le
  rw [f_X11_paper, f_X12_paper, T.lM, p_kept T.le T.lC, zbd_s]
  rcases ex_in x (m := min l 200) (by omega) τ with ⟨q, e⟩ | ⟨i, hi, rfl, e⟩
  · rw [e, zbd_s]
    exact ex0 h.i0 _ (if_pos q) (if_pos rfl)
  · rw [e, zbd_s, if_neg (nI_pos hi)]
    by_cases q : i < min l 200
    · rw [if_pos (nI_lt q (by omega)), if_pos q, if_neg n10, if_pos (zin_nI (by omega) (by decide)), if_pos (zin_nI (by omega) (by decide)), nI_clamp hi, T.b i q]
      exact ex0 h.i0 _ rfl rfl
    · rw [if_neg (nI_nlt (by omega) hi), if_neg q]
      exact ex0 h.i0 _ rfl (if_pos rfl)
/-! ===== THE TAPE: feed and wipe ===== -/
theorem Inv.tap0 (h : Inv S C σ τ) (hF : FR [8, 73] [] σ σ1) (hG : FM [27] [20] [] τ τ1) (hl : Tap σ1 τ1) : Inv S C σ1 τ1 :=
  ⟨h.core.fr2 hF hG (by decide) (by decide) (by decide) (by decide) (by decide), h.img.fr2 hF hG (by decide) (by decide) (by decide) (by decide) (by decide),
    h.chg.fr hF hG (by decide) (by decide) (by decide), hl, h.pap.fr hF hG (by decide) (by decide) (by decide) (by decide), h.lis.fr hF hG (by decide) (by decide) (fun m hm => by simp) (by decide) (by decide) (by decide), h.trc.fr hF hG (by decide) (by decide) (by decide) (by decide)⟩
theorem tap_wipe (h : Inv S C σ τ) : Inv S C (zS σ 8 1 0) (zS τ 0 27 0) := by
  refine h.tap0 ((FR.refl σ).sS (by simp) _ _) ((FM.refl τ).sO (by simp) _) ⟨0, fun _ => 0, by decide, ?_, ?_, fun i hi => absurd hi (by omega), fun i hi => absurd hi (by omega), fun i hi => absurd hi (by omega)⟩
  · rw [zS_1, if_pos ⟨rfl, rfl⟩]; rfl
  · rw [zS_1, if_pos ⟨rfl, rfl⟩]; rfl
theorem s_wipe (h : I0 σ τ) : ∃ r σ1 τ1, f_X11_wipe σ = some (r, σ1) ∧ f_X12_wipe τ = some (r, τ1) ∧ I0 σ1 τ1 := by
  obtain ⟨S, C, h⟩ := h
  obtain ⟨l, B, T⟩ := h.tap
  exact ⟨nI l, _, _, by rw [f_X11_wipe, T.lC], by rw [f_X12_wipe, T.lM], S, C, tap_wipe h⟩
theorem nar_c : ∀ v, v < 127 → vp_nar .char (((nI v).toUInt32 % 65536).toInt32) = nI v := by decide +kernel
theorem s_feed (x : Int32) (h : I0 σ τ) : ∃ r σ1 τ1, f_X11_feed x σ = some (r, σ1) ∧ f_X12_feed x τ = some (r, τ1) ∧ I0 σ1 τ1 := by
  obtain ⟨S, C, h⟩ := h
  obtain ⟨l, B, T⟩ := h.tap
  have hl := T.le
  rw [f_X11_feed, f_X12_feed, pm_in32 x 32 126 32 126 rfl rfl, zbd_s]
  by_cases q1 : x < 32
  · rw [if_pos q1, if_neg (fun w : 32 ≤ x ∧ x ≤ 126 => absurd q1 (Int32.not_lt.mpr w.1))]
    exact ex0 h.i0 _ rfl (if_pos rfl)
  · rw [if_neg q1]
    by_cases q2 : x ≤ 126
    · rw [if_pos q2, if_pos (show 32 ≤ x ∧ x ≤ 126 from ⟨Int32.not_lt.mp q1, q2⟩), if_neg n10, T.lM]
      obtain ⟨v, hv, rfl⟩ : ∃ v, v < 2 ^ 31 ∧ x = nI v := by
        rcases nI_cases x with w | w
        · exact absurd (Int32.lt_trans w (show (0 : Int32) < 32 by decide)) q1
        · exact w
      have h1 : v ≤ 126 := (nI_leI hv (b := 126) (by decide)).mp q2
      have h2 : 32 ≤ v := by
        have := Int32.not_lt.mp q1
        exact (nI_leI (a := 32) (by decide) hv).mp this
      rw [f_X9_add, T.lC]
      by_cases q : l < 80
      · rw [if_pos (show nI l < 80 from nI_lt (b := 80) q (by decide)), if_pos (zin_nI q (by decide)), zbd_s, if_neg n10, if_neg (fun w : nI l = 80 => by have := (nI_eq (b := 80) (by omega) (by decide)).mp w; omega), if_pos (zin_nI q (by decide)), nI_clamp (by omega), nar_c v (by omega)]
        have a1 : (zS σ 73 l (nI v)).1 8 1 = nI l := by rw [zS_1, if_neg (fun q => absurd q.1 (by decide))]; exact T.lC
        have a2 : (zS τ 20 l (nI v)).1 0 27 = nI l := by rw [zS_1, if_neg (fun q => absurd q.1 (by decide))]; exact T.lM
        rw [a1, a2, nI_1]
        have b1 : (zS (zS σ 73 l (nI v)) 8 1 (nI (l + 1))).1 8 1 = nI (l + 1) := by rw [zS_1, if_pos ⟨rfl, rfl⟩]
        have b2 : (zS (zS τ 20 l (nI v)) 0 27 (nI (l + 1))).1 0 27 = nI (l + 1) := by rw [zS_1, if_pos ⟨rfl, rfl⟩]
        rw [b1, b2]
        refine ⟨_, _, _, rfl, rfl, S, C, h.tap0 (((FR.refl σ).sS (by simp) _ _).sS (by simp) _ _) (((FM.refl τ).sS (by decide) (by simp) _ _).sO (by simp) _) ⟨l + 1, fun i => if i = l then v else B i, by omega, b1, b2, fun i hi => ?_, fun i hi => ?_, fun i hi => ?_⟩⟩
        · show 32 ≤ (if i = l then v else B i) ∧ (if i = l then v else B i) ≤ 126
          split
          · omega
          · exact T.r i (by omega)
        · rw [zS_1, if_neg (fun q => absurd q.1 (by decide)), zS_1]
          by_cases e : i = l
          · rw [if_pos ⟨rfl, e⟩, show (fun i => if i = l then v else B i) i = v from if_pos e]
          · rw [if_neg (fun q => e q.2), show (fun i => if i = l then v else B i) i = B i from if_neg e]; exact T.bC i (by omega)
        · rw [zS_1, if_neg (fun q => absurd q.1 (by decide)), zS_1]
          by_cases e : i = l
          · rw [if_pos ⟨rfl, e⟩, show (fun i => if i = l then v else B i) i = v from if_pos e]
          · rw [if_neg (fun q => e q.2), show (fun i => if i = l then v else B i) i = B i from if_neg e]; exact T.bM i (by omega)
      · have : l = 80 := by omega
        subst this
        rw [if_neg (show ¬ nI 80 < 80 by decide), zbd_s, if_pos rfl, if_pos (show nI 80 = 80 from rfl)]
        exact ex0 h.i0 _ rfl rfl
    · rw [if_neg q2, if_neg (fun w : 32 ≤ x ∧ x ≤ 126 => q2 w.2)]
      exact ex0 h.i0 _ rfl (if_pos rfl)
/-! ===== TAKEN ===== -/
def undr (k x : Nat) : Bool := x == 0 || x == k || (x == 2 && k == 4) || (x == 1 && k == 5)
theorem p_under {k x : Nat} (hk : k ≤ 5) (hx : x ≤ 5) (s : SS) : f_X4_isUnder_c7 (9999993 + 7) (nI x) (nI k) 0 s = some (if undr k x = true then 1 else 0, s) := by
  have h1 : k = 0 ∨ k = 1 ∨ k = 2 ∨ k = 3 ∨ k = 4 ∨ k = 5 := by omega
  have h2 : x = 0 ∨ x = 1 ∨ x = 2 ∨ x = 3 ∨ x = 4 ∨ x = 5 := by omega
  rcases h1 with rfl | rfl | rfl | rfl | rfl | rfl <;> rcases h2 with rfl | rfl | rfl | rfl | rfl | rfl <;> rfl
theorem s_taken (x y : Int32) (h : I0 σ τ) : ∃ r σ1 τ1, f_X11_taken x y σ = some (r, σ1) ∧ f_X12_taken x y τ = some (r, τ1) ∧ I0 σ1 τ1 := by
  obtain ⟨S, C, h⟩ := h
  have K := h.kc
  have L := h.km
  rw [f_X11_taken, f_X12_taken]
  rcases cls_cases K.okC x with e | ⟨m, hm, h8, rfl, e⟩
  · rw [K.clN e, zbd_s, zbn_n, L.isN e, zbd_s]
    exact ex0 h.i0 _ rfl (if_pos rfl)
  rw [K.clS e, zbd_s, zbn_s, if_pos (ZOx_k (by omega)).1, L.isS e, zbd_s, if_neg n10, pm_in32 y 0 5 0 5 rfl rfl, zbd_s]
  rcases nI_cases y with q | ⟨i, hi, rfl⟩
  · rw [if_pos q, if_neg (fun w : 0 ≤ y ∧ y ≤ 5 => absurd q (Int32.not_lt.mpr w.1))]
    exact ex0 h.i0 _ rfl (if_pos rfl)
  rw [if_neg (nI_pos hi)]
  by_cases q : i ≤ 5
  · have q' : nI i ≤ 5 := nI_le (b := 5) q (by decide)
    have hk := K.okC.k5 m
    rw [if_pos q', if_pos (show 0 ≤ nI i ∧ nI i ≤ 5 from ⟨nI_pos' hi, q'⟩), if_neg n10, if_pos (zin_nI h8 (by decide)), nI_clamp (by omega), L.cl.kd m hm, f_X4_isUnder, if_pos (ZOx_k (by omega)).1, K.cl.kd m hm, show ZF = 9999993 + 7 from rfl, p_under hk q, zbd_s, K.cl.fg m hm]
    have fin : ∀ b, f_X12_taken_c64 (nI m) (nI i) b τ = some (if b = 0 then -5 else if 2 ≤ nI i ∧ nI i ≤ 4 then nI (C.fg m) else nI m, τ) := by
      intro b
      rw [f_X12_taken_c64]
      by_cases hb : b = 0
      · rw [if_pos hb, if_pos hb]
      · rw [if_neg hb, if_neg hb, pm_in32 (nI i) 2 4 2 4 rfl rfl, zbd_s]
        by_cases w : 2 ≤ nI i ∧ nI i ≤ 4
        · rw [if_pos w, if_pos w, if_neg n10, if_pos (zin_nI h8 (by decide)), nI_clamp (by omega), L.cl.fg m hm]
        · rw [if_neg w, if_neg w, if_pos rfl]
    refine ex0 h.i0 (if undr (C.kd m) i = true then (if 2 ≤ nI i ∧ nI i ≤ 4 then nI (C.fg m) else nI m) else -5) ?_ ?_
    · by_cases u : undr (C.kd m) i = true
      · rw [if_pos u, if_neg n10, if_pos u]
        by_cases w1 : nI i < 2
        · rw [if_pos w1, if_neg (fun w => absurd w1 (Int32.not_lt.mpr w.1))]
        · rw [if_neg w1]
          by_cases w2 : (4 : Int32) < nI i
          · rw [if_pos w2, if_neg (fun w => absurd w2 (Int32.not_lt.mpr w.2))]
          · rw [if_neg w2, if_pos ⟨Int32.not_lt.mp w1, Int32.not_lt.mp w2⟩]
      · rw [if_neg u, if_pos rfl, if_neg u]
    · have hk' : C.kd m = 0 ∨ C.kd m = 1 ∨ C.kd m = 2 ∨ C.kd m = 3 ∨ C.kd m = 4 ∨ C.kd m = 5 := by omega
      have hi' : i = 0 ∨ i = 1 ∨ i = 2 ∨ i = 3 ∨ i = 4 ∨ i = 5 := by omega
      have f1 : f_X12_taken_c59 (nI m) (nI i) τ = f_X12_taken_c64 (nI m) (nI i) 1 τ := rfl
      have f0 : f_X12_taken_c63 (nI m) (nI i) τ = f_X12_taken_c64 (nI m) (nI i) 0 τ := rfl
      rw [f_X12_taken_c49, f1, f0, fin, fin, if_neg n10, if_pos rfl]
      generalize hX : (if 2 ≤ nI i ∧ nI i ≤ 4 then nI (C.fg m) else nI m) = X
      clear hX fin f1 f0 e
      rcases hk' with e | e | e | e | e | e <;> rw [e] <;> rcases hi' with e' | e' | e' | e' | e' | e' <;> subst e' <;> rfl
  · rw [if_neg (fun w : nI i ≤ 5 => q ((nI_leI hi (b := 5) (by decide)).mp w)), if_neg (fun w : 0 ≤ nI i ∧ nI i ≤ 5 => q ((nI_leI hi (b := 5) (by decide)).mp w.2))]
    exact ex0 h.i0 _ rfl (if_pos rfl)
end
