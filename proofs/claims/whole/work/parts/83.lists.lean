section
variable {S : Sh} {C : Cl} {σ σ1 τ τ1 : SS}
theorem Core.fr2 {A B J A' B' : List Nat} (h : Core S C σ τ) (hF : FR A B σ σ1) (hG : FM J A' B' τ τ1) (hA : ∀ k ∈ [1, 3, 6, 15, 16, 17, 62, 63, 65, 66, 67, 30, 31, 32, 33, 34, 35, 36, 37], k ∉ A) (hB : ∀ k ∈ [46, 47, 48, 49, 50, 51, 52, 53, 64], k ∉ B) (hJ : ∀ k ∈ [0, 1, 2, 4, 7, 12], k ∉ J) (hA' : ∀ k ∈ [1, 2, 3, 4, 5, 7, 8, 9], k ∉ A') (hB' : ∀ k ∈ [6, 10], k ∉ B') : Core S C σ1 τ1 :=
  ⟨h.ok, h.shC.fr hF (hA 3 (by decide)) (hA 15 (by decide)) (hA 16 (by decide)) (hA 17 (by decide)), h.shM.fm hG (hJ 0 (by decide)) (hJ 1 (by decide)) (hJ 2 (by decide)) (hJ 4 (by decide)) (hA' 1 (by decide)) (hA' 2 (by decide)) (hA' 3 (by decide)), h.okC,
    by rw [hF.1 1 (hA 1 (by decide))]; exact h.mC, h.clC.fr h.okC hF (fun m hm => hA _ (by simp; omega)) (fun m hm => hB _ (by simp; omega)), h.clM.fm hG (hJ 12 (by decide)) (hA' 8 (by decide)) (hA' 9 (by decide)) (hB' 10 (by decide)),
    h.tmC.fr hF (hA 6 (by decide)) (hA 62 (by decide)) (hA 63 (by decide)) (hA 65 (by decide)) (hA 66 (by decide)) (hA 67 (by decide)) (hB 64 (by decide)), h.tmM.fm hG (hJ 7 (by decide)) (hA' 4 (by decide)) (hA' 5 (by decide)) (hA' 7 (by decide)) (hB' 6 (by decide))⟩
abbrev IA : List Nat := [0, 2, 4, 18, 19, 20, 38, 39, 40, 41, 42, 43, 44, 45]
abbrev IB : List Nat := [54, 55, 56, 57, 58, 59, 60, 61]
theorem Img.fr2 {A B J A' B' : List Nat} (h : Img σ τ) (hF : FR A B σ σ1) (hG : FM J A' B' τ τ1) (hA : ∀ k ∈ IA, k ∉ A) (hB : ∀ k ∈ IB, k ∉ B) (hJ : ∀ k ∈ [36, 37, 38, 39, 41, 44], k ∉ J) (hA' : ∀ k ∈ [26, 27, 28, 29, 30], k ∉ A') (hB' : 31 ∉ B') : Img σ1 τ1 :=
  h.fr hF hG (fun k hk => hA k (by simp at hk ⊢; omega)) (fun m hm => hA _ (by simp; omega)) (fun m hm => hB _ (by simp; omega)) hJ hA' hB'
/-! ===== the LISTS ===== -/
theorem lis_cases (x : Int32) : (x < 0 ∨ 3 ≤ x) ∨ ∃ l, l < 3 ∧ x = nI l := by
  rcases nI_cases x with h | ⟨j, hj, rfl⟩
  · exact Or.inl (Or.inl h)
  · by_cases q : j < 3
    · exact Or.inr ⟨j, q, rfl⟩
    · exact Or.inl (Or.inr ((nI_leI (a := 3) (by decide) hj).mpr (by omega)))
theorem n3 (l : Nat) (h : l < 3) : ¬ (3 : Int32) ≤ nI l := nI_ge (b := 3) h (by decide)
theorem l_oneN {x : Int32} (h : x < 0 ∨ 3 ≤ x) (s : SS) : f_X5_isOne x s = some (0, s) := by
  rw [f_X5_isOne]
  by_cases q : x < 0
  · exact if_pos q
  · rw [if_neg q, if_pos (h.resolve_left q)]
theorem l_oneS {l : Nat} (h : l < 3) (s : SS) : f_X5_isOne (nI l) s = some (1, s) := by
  rw [f_X5_isOne, if_neg (nI_pos (by omega)), if_neg (n3 l h)]
theorem lm_oneN {x : Int32} (h : x < 0 ∨ 3 ≤ x) (s : SS) : f_X12_isList x s = some (0, s) := by
  rw [f_X12_isList, pm_in32 x 0 2 0 2 rfl rfl, zbd_s, if_neg (fun q : 0 ≤ x ∧ x ≤ 2 => by
    rcases h with h | h
    · exact absurd h (Int32.not_lt.mpr q.1)
    · exact absurd (Int32.le_trans h q.2) (by decide))]
  rfl
theorem lm_oneS {l : Nat} (h : l < 3) (s : SS) : f_X12_isList (nI l) s = some (1, s) := by
  rw [f_X12_isList, pm_in32 (nI l) 0 2 0 2 rfl rfl, zbd_s, if_pos (show 0 ≤ nI l ∧ nI l ≤ 2 from ⟨nI_pos' (by omega), nI_le (b := 2) (by omega) (by decide)⟩)]
  rfl
theorem l_thereN {x : Int32} (h : x < 0 ∨ 3 ≤ x) (s : SS) : f_X5_isThere x s = some (0, s) := by rw [f_X5_isThere, l_oneN h]; rfl
theorem lm_thereN {x : Int32} (h : x < 0 ∨ 3 ≤ x) (s : SS) : f_X12_isThere x s = some (0, s) := by rw [f_X12_isThere, lm_oneN h]; rfl
theorem l_thereS {l : Nat} (h : l < 3) (s : SS) : f_X5_isThere (nI l) s = some (if s.1 27 l = -1 then 0 else 1, s) := by
  rw [f_X5_isThere, l_oneS h, zbd_s, if_neg n10, if_pos (zin_nI h (by decide)), nI_clamp (by omega)]
  by_cases q : s.1 27 l = -1
  · rw [if_pos q, if_pos q]
  · rw [if_neg q, if_neg q]
theorem lm_thereS {l : Nat} (h : l < 3) (s : SS) : f_X12_isThere (nI l) s = some (if s.1 22 l < 0 then 0 else 1, s) := by
  rw [f_X12_isThere, lm_oneS h, zbd_s, if_neg n10, if_pos (zin_nI h (by decide)), nI_clamp (by omega)]
  by_cases q : s.1 22 l < 0
  · rw [if_pos q, if_pos q]
  · rw [if_neg q, if_neg q]
theorem l_size {l z : Nat} (h : l < 3) (hz : σ.1 28 l = nI z) : f_X5_sizeOf (nI l) σ = some (nI z, σ) := by
  rw [f_X5_sizeOf, l_oneS h, zbd_s, if_neg n10, if_pos (zin_nI h (by decide)), nI_clamp (by omega), hz]
theorem LisD.neg {l z : Nat} (h : LisD l z σ τ) : σ.1 27 l = -1 ↔ τ.1 22 l < 0 := by
  rw [h.sM]
  rcases h.so with e | e | e <;> rw [e] <;> decide
/-- the I of a LIST: both sides see the same place -/
theorem place_cases {l z : Nat} (hl : l < 3) (h : LisD l z σ τ) (x : Int32) :
    (f_X5_hasPlace (nI l) x σ = some (0, σ) ∧ f_X12_in x.toInt64 0 ((τ.1 23 l - 1).toInt64) τ = some (0, τ)) ∨
    ∃ i, i < z ∧ x = nI i ∧ f_X5_hasPlace (nI l) x σ = some (1, σ) ∧ f_X12_in x.toInt64 0 ((τ.1 23 l - 1).toInt64) τ = some (1, τ) := by
  have hz := h.zl
  have e : ∀ z, z ≤ 20 → (nI z - 1).toInt = (z : Int) - 1 := by decide
  rw [h.zM, pm_in32 x 0 (nI z - 1) 0 _ rfl rfl, f_X5_hasPlace, l_size hl h.zC, zbd_s]
  rcases nI_cases x with q | ⟨i, hi, rfl⟩
  · refine Or.inl ⟨if_pos q, by rw [if_neg (fun w => absurd q (Int32.not_lt.mpr w.1))]⟩
  · rw [if_neg (nI_pos hi)]
    by_cases q : i < z
    · refine Or.inr ⟨i, q, rfl, if_neg (nI_ge q (by omega)), ?_⟩
      rw [if_pos ⟨nI_pos' hi, by rw [Int32.le_iff_toInt_le, nI_toInt hi, e z hz]; omega⟩]
    · refine Or.inl ⟨if_pos (nI_le (by omega) hi), ?_⟩
      rw [if_neg (fun w => q (by have := w.2; rw [Int32.le_iff_toInt_le, nI_toInt hi, e z hz] at this; omega))]
theorem ZOx_29 {l : Nat} (h : l < 3) : zok Ox 5 29 (nI l) = true ∧ zrr Ox 29 (nI l) = 77 + l ∧ Ox (77 + l) = .inr (1, 20, []) := by
  have : l = 0 ∨ l = 1 ∨ l = 2 := by omega
  rcases this with rfl | rfl | rfl <;> exact ⟨rfl, rfl, rfl⟩
theorem l_val {l z i : Nat} (hl : l < 3) (hz : z ≤ 20) (hs : σ.1 28 l = nI z) (hi : i < z) : f_X5_valueAt (nI l) (nI i) σ = some (σ.2 (77 + l) i, σ) := by
  obtain ⟨z1, z2, z3⟩ := ZOx_29 hl
  rw [f_X5_valueAt, f_X5_hasPlace, if_neg (nI_pos (by omega)), l_size hl hs, zbd_s, if_neg (nI_ge hi (by omega)), zbd_s, if_neg n10, if_pos z1, z2, if_pos (zok_nI z3 (by omega) (by decide)), nI_clamp (by omega)]
theorem i60 {l i : Nat} : (20 : Int32) * nI l + nI i = nI (20 * l + i) := by
  rw [show (20 : Int32) = nI 20 from rfl, pk_mul, nI_add]
theorem s_get (x y : Int32) (h : I0 σ τ) : ∃ r σ1 τ1, f_X11_get x y σ = some (r, σ1) ∧ f_X12_get x y τ = some (r, τ1) ∧ I0 σ1 τ1 := by
  obtain ⟨S, C, h⟩ := h
  rw [f_X11_get, f_X12_get]
  rcases lis_cases x with q | ⟨l, hl, rfl⟩
  · rw [l_thereN q, lm_thereN q, zbd_s, zbd_s]
    exact ex0 h.i0 _ (if_pos rfl) (if_pos rfl)
  · obtain ⟨z, D⟩ := h.lis l hl
    have hz := D.zl
    rw [l_thereS hl, lm_thereS hl, zbd_s, zbd_s]
    by_cases q : σ.1 27 l = -1
    · rw [if_pos q, if_pos (D.neg.mp q)]
      exact ex0 h.i0 _ (if_pos rfl) (if_pos rfl)
    · rw [if_neg q, if_neg (fun w => q (D.neg.mpr w)), if_neg n10, if_neg n10, if_pos (zin_nI hl (by decide)), nI_clamp (by omega)]
      rcases place_cases hl D y with ⟨e1, e2⟩ | ⟨i, hi, rfl, e1, e2⟩
      · rw [e1, zbd_s, e2, zbd_s]
        exact ex0 h.i0 _ (if_pos rfl) (if_pos rfl)
      · rw [e1, zbd_s, e2, zbd_s, if_neg n10, if_neg n10, l_val hl hz D.zC hi, zbd_s, i60, if_pos (zin_nI (by omega) (by decide)), nI_clamp (by omega), D.n i (by omega)]
        exact ex0 h.i0 _ rfl rfl
/-! ===== LIST and PUT ===== -/
theorem Inv.lis0 {B : List Nat} (h : Inv S C σ τ) (hF : FR [27, 28] B σ σ1) (hB : ∀ k ∈ [46, 47, 48, 49, 50, 51, 52, 53, 64] ++ IB, k ∉ B) (hG : FM [] [22, 23] [24, 39] τ τ1) (hl : Lis σ1 τ1) : Inv S C σ1 τ1 :=
  ⟨h.core.fr2 hF hG (by decide) (fun k hk => hB k (by simp at hk ⊢; omega)) (by decide) (by decide) (by decide), h.img.fr2 hF hG (by decide) (fun k hk => hB k (by simp at hk ⊢; omega)) (by decide) (by decide) (by decide),
    h.chg.fr hF hG (by decide) (by decide) (by decide), h.tap.fr hF hG (by decide) (by decide) (by decide) (by decide), h.pap.fr hF hG (by decide) (by decide) (by decide) (by decide), hl, h.trc.fr hF hG (by decide) (by decide) (by decide) (by decide)⟩
theorem s_put (x y : Int32) (v : Int64) (h : I0 σ τ) : ∃ r σ1 τ1, f_X11_put x y v σ = some (r, σ1) ∧ f_X12_put x y v τ = some (r, τ1) ∧ I0 σ1 τ1 := by
  obtain ⟨S, C, h⟩ := h
  rw [f_X11_put, f_X12_put]
  rcases lis_cases x with q | ⟨l, hl, rfl⟩
  · rw [l_oneN q, lm_oneN q, zbd_s, zbd_s]
    exact ex0 h.i0 _ (if_pos rfl) (if_pos rfl)
  · obtain ⟨z, D⟩ := h.lis l hl
    have hz := D.zl
    obtain ⟨z1, z2, z3⟩ := ZOx_29 hl
    rw [l_oneS hl, lm_oneS hl, zbd_s, zbd_s, if_neg n10, if_neg n10, l_thereS hl, zbd_s, if_pos (zin_nI hl (by decide)), nI_clamp (by omega)]
    by_cases q : σ.1 27 l = -1
    · rw [if_pos q, if_neg (fun w => absurd (D.neg.mp q) (Int32.not_lt.mpr w))]
      exact ex0 h.i0 _ (if_pos rfl) rfl
    · rw [if_neg q, if_neg n10, if_pos (Int32.not_lt.mp (fun w => q (D.neg.mpr w))), if_pos (zin_nI hl (by decide))]
      rcases place_cases hl D y with ⟨e1, e2⟩ | ⟨i, hi, rfl, e1, e2⟩
      · rw [e1, zbd_s, e2, zbd_s]
        exact ex0 h.i0 _ (if_pos rfl) (if_pos rfl)
      · rw [e1, zbd_s, e2, zbd_s, if_neg n10, if_neg n10, f_X5_place, e1, zbd_s, if_neg n10, if_pos z1, if_pos (zin_nI hl (by decide)), if_pos (zin_nI hl (by decide)), nI_clamp (by omega), z2, D.sM, i60]
        have key : ∀ w : Int64, ∃ r σ1 τ1, zbd (f_X5_place_c32 w (nI i) (77 + l) σ) (fun _ s11 => some (1, s11)) = some (r, σ1) ∧ f_X12_put_c68 w (nI (20 * l + i)) τ = some (r, τ1) ∧ I0 σ1 τ1 := by
          intro w
          rw [f_X5_place_c32, if_pos (zok_nI z3 (by omega) (by decide)), zbd_s, f_X12_put_c68, if_pos (zin_nI (by omega) (by decide)), nI_clamp (by omega), nI_clamp (by omega)]
          have F : FR [27, 28] [77, 78, 79] σ (zSL σ (77 + l) i w) := (FR.refl σ).sSL (by simp; omega) i w
          have G : FM [] [22, 23] [24, 39] τ (zSL τ 24 (20 * l + i) w) := (FM.refl τ).sSL (by simp) _ w
          refine ⟨_, _, _, rfl, rfl, S, C, h.lis0 F (by decide) G ?_⟩
          intro l' hl'
          obtain ⟨z', D'⟩ := h.lis l' hl'
          refine ⟨z', D'.so, D'.sM, D'.zl, D'.zC, D'.zM, D'.z0, fun i' hi' => ?_⟩
          rw [zSL_2, zSL_2]
          by_cases ql : l' = l ∧ i' = i
          · rw [if_pos (by omega), if_pos (by omega)]
          · rw [if_neg (by omega), if_neg (by omega)]
            exact D'.n i' hi'
        by_cases q0 : σ.1 27 l = 0
        · rw [if_pos q0, if_pos q0]
          exact key _
        · rw [if_neg q0, if_neg q0]
          exact key _
end
