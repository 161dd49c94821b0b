section
variable {S : Sh} {C : Cl} {s τ : SS}
theorem pm_termOf (hS : ShOk S) (hT : TmM S τ) (x : Int32) : f_X12_termOf x τ = some (oI (pI S.L S.n x), τ) := by
  rw [f_X12_termOf, pm_in, zbd_s, show (0 : Int64).toInt = 0 from rfl, show (599999 : Int64).toInt = 599999 from rfl, Int32.toInt_toInt64]
  rcases nI_cases x with h | ⟨j, hj, rfl⟩
  · have h' : x.toInt < 0 := by rw [Int32.lt_iff_toInt_lt] at h; simpa using h
    rw [if_neg (show ¬ (0 ≤ x.toInt ∧ x.toInt ≤ 599999) by omega), if_pos rfl]
    unfold pI
    rw [if_pos h]
    rfl
  · rw [nI_toInt hj]
    by_cases h : j ≤ 599999
    · rw [if_pos (show 0 ≤ (j : Int) ∧ (j : Int) ≤ 599999 by omega), if_neg (by decide), if_pos (zin_nI (by omega) (by decide)), nI_clamp hj, hT.place j (by omega)]
      unfold pI
      rw [if_neg (nI_pos hj), nI_toNat hj]
    · rw [if_neg (show ¬ (0 ≤ (j : Int) ∧ (j : Int) ≤ 599999) by omega), if_pos rfl]
      have : pI S.L S.n (nI j) = none := by
        cases hp : pI S.L S.n (nI j) with
        | none => rfl
        | some i =>
          obtain ⟨h1, h2⟩ := (pI_iff hS.ln).mp hp
          have h3 := (cd_lt hS.ln h1).1
          have := (nI_eq hj (by omega)).mp h2
          omega
      rw [this]
      rfl
end
