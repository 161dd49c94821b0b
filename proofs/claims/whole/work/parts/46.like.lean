/-! ===== LIKE ===== -/
def lk (S : Sh) (v w : Nat → Int64) : Nat → Nat → Bool
  | 0, _ => true
  | j + 1, t => if mw S v t = mw S w t then lk S v w j (t + 1) else false
section
variable {S : Sh} {s τ : SS} {v w : Nat → Int64}
theorem p_like_c (hS : ShOk S) (hT : TmC S s) {k1 k2 : Nat} (hk1 : 21 ≤ k1 ∧ k1 ≤ 25) (hk2 : 21 ≤ k2 ∧ k2 ≤ 25) (hv : Rw S s k1 v) (hw : Rw S s k2 w) : ∀ (j i n : Nat), i + j = S.M → j < n → f_X8_areLike_c2 n k1 k2 (nI i) s = some (if lk S v w j i = true then 1 else 0, s) := by
  have hM : S.M ≤ 462 := (cM_pos hS.ln).2
  intro j
  induction j with
  | zero =>
    intro i n hi hn
    obtain ⟨n, rfl⟩ : ∃ m', n = m' + 1 := ⟨n - 1, by omega⟩
    rw [f_X8_areLike_c2, hT.M, if_pos (nI_le (by omega) (by omega))]
    rfl
  | succ j ih =>
    intro i n hi hn
    obtain ⟨n, rfl⟩ : ∃ m', n = m' + 1 := ⟨n - 1, by omega⟩
    rw [f_X8_areLike_c2, hT.M, if_neg (nI_ge (by omega) (by omega)), p_metWith hS hT hk1 hv (show i < S.M by omega), zbd_s, p_metWith hS hT hk2 hw (show i < S.M by omega), zbd_s, lk]
    by_cases h : mw S v i = mw S w i
    · rw [if_pos ((lg_cmp_eq _ _).mpr h), if_pos h, nI_1]
      exact ih (i + 1) n (by omega) (by omega)
    · rw [if_neg (fun q => h ((lg_cmp_eq _ _).mp q)), if_neg h]
      rfl
theorem p_areLike (hS : ShOk S) (hT : TmC S s) {k1 k2 : Nat} (hk1 : 21 ≤ k1 ∧ k1 ≤ 25) (hk2 : 21 ≤ k2 ∧ k2 ≤ 25) (hv : Rw S s k1 v) (hw : Rw S s k2 w) : f_X8_areLike k1 k2 s = some (if lk S v w S.M 0 = true then 1 else 0, s) := by
  have hM : S.M ≤ 462 := (cM_pos hS.ln).2
  have e := p_like_c hS hT hk1 hk2 hv hw S.M 0 ZF (by omega) (by unfold ZF; omega)
  rw [nI_0] at e
  exact e
theorem pm_like_c (hS : ShOk S) (hH : ShM S τ) (hT : TmM S τ) (hv : Rw S τ 13 v) (hw : Rw S τ 14 w) : ∀ (j i n : Nat), i + j = S.M → j < n → f_X12_like_c40 n (nI i) τ = some (if lk S v w j i = true then 1 else 0, τ) := by
  have hM : S.M ≤ 462 := (cM_pos hS.ln).2
  intro j
  induction j with
  | zero =>
    intro i n hi hn
    obtain ⟨n, rfl⟩ : ∃ m', n = m' + 1 := ⟨n - 1, by omega⟩
    rw [f_X12_like_c40, hT.M, if_pos (nI_le (by omega) (by omega))]
    rfl
  | succ j ih =>
    intro i n hi hn
    obtain ⟨n, rfl⟩ : ∃ m', n = m' + 1 := ⟨n - 1, by omega⟩
    rw [f_X12_like_c40, hT.M, if_neg (nI_ge (by omega) (by omega)), pm_metWith hS hH hT rfl hv (show i < S.M by omega), zbd_s, pm_metWith hS hH hT rfl hw (show i < S.M by omega), zbd_s, lk]
    by_cases h : mw S v i = mw S w i
    · rw [if_pos ((lg_cmp_eq _ _).mpr h), if_pos h, nI_1]
      exact ih (i + 1) n (by omega) (by omega)
    · rw [if_neg (fun q => h ((lg_cmp_eq _ _).mp q)), if_neg h]
      rfl
end
