section
variable {S : Sh} {C : Cl} {s τ : SS}
theorem pm_in (x lo hi : Int64) (τ : SS) : f_X12_in x lo hi τ = some (if lo.toInt ≤ x.toInt ∧ x.toInt ≤ hi.toInt then 1 else 0, τ) := by
  rw [f_X12_in]
  by_cases h1 : x < lo
  · rw [if_pos ((lg_cmp_lt _ _).mpr h1), if_neg (fun q => by rw [Int64.lt_iff_toInt_lt] at h1; omega)]
  · rw [if_neg (fun q => h1 ((lg_cmp_lt _ _).mp q))]
    by_cases h2 : hi < x
    · rw [if_pos ((lg_cmp_gt _ _).mpr h2), if_neg (fun q => by rw [Int64.lt_iff_toInt_lt] at h2; omega)]
    · rw [if_neg (fun q => h2 ((lg_cmp_gt _ _).mp q)), if_pos (by rw [Int64.lt_iff_toInt_lt] at h1 h2; omega)]
theorem pm_isClass (hC : ClOk C) (hm : τ.1 0 12 = nI C.mm) (y : Int64) : f_X12_isClass y τ = some (if (cidx C.mm y).isSome = true then 1 else 0, τ) := by
  have h8 := hC.m8
  have e : (nI C.mm - 1).toInt64.toInt = (C.mm : Int) - 1 := by
    have h : ∀ m, m ≤ 8 → (nI m - 1).toInt64.toInt = (m : Int) - 1 := by decide
    exact h _ h8
  rw [f_X12_isClass, hm, pm_in, zbd_s, e, show (0 : Int64).toInt = 0 from rfl]
  unfold cidx
  by_cases h : 0 ≤ y.toInt ∧ y.toInt < C.mm
  · rw [if_pos (show 0 ≤ y.toInt ∧ y.toInt ≤ (C.mm : Int) - 1 by omega), if_pos h, if_pos (by decide)]
    rfl
  · rw [if_neg (show ¬ (0 ≤ y.toInt ∧ y.toInt ≤ (C.mm : Int) - 1) by omega), if_neg h, if_pos (by decide)]
    rfl
end
