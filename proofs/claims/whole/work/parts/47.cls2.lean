/-! ===== which CLASS a number means ===== -/
def cidx (mm : Nat) (y : Int64) : Option Nat := if 0 ≤ y.toInt ∧ y.toInt < mm then some y.toInt.toNat else none
theorem nI64 {m : Nat} (h : m < 2 ^ 31) : (nI m).toInt64.toInt = m := by rw [Int32.toInt_toInt64, nI_toInt h]
theorem cidx_lt {mm m : Nat} {y : Int64} (h : cidx mm y = some m) : m < mm ∧ y.toInt = m := by
  unfold cidx at h
  split at h
  · rename_i q
    cases h
    omega
  · cases h
theorem y32 {y : Int64} {m : Nat} (h : y.toInt = m) (hm : m < 2 ^ 31) : y.toInt32 = nI m := by
  refine Int32.toInt_inj.mp ?_
  rw [Int64.toInt_toInt32, h, nI_toInt hm]
  simp only [Int.bmod]
  omega
theorem x_of {x : Int32} {m : Nat} (h : x.toInt64.toInt = m) (hm : m < 2 ^ 31) : x = nI m := by
  refine Int32.toInt_inj.mp ?_
  rw [← Int32.toInt_toInt64, h, nI_toInt hm]
theorem ZOx_13 {m : Nat} (h : m < 8) : zok Ox 4 13 (nI m) = true ∧ zrr Ox 13 (nI m) = 30 + m := by
  have : m = 0 ∨ m = 1 ∨ m = 2 ∨ m = 3 ∨ m = 4 ∨ m = 5 ∨ m = 6 ∨ m = 7 := by omega
  rcases this with rfl | rfl | rfl | rfl | rfl | rfl | rfl | rfl <;> exact ⟨rfl, rfl⟩
section
variable {S : Sh} {C : Cl} {s τ : SS}
theorem p_classAt (hC : ClOk C) (hm : s.1 1 2 = nI C.mm) (y : Int64) : f_X3_classAt 1 y s = some ((cidx C.mm y).map (fun m => 30 + m), s) := by
  have h8 := hC.m8
  rw [f_X3_classAt, if_pos (show zis Ox 3 1 = true from rfl), hm, show zrf Ox 1 1 = 13 from rfl]
  unfold cidx
  by_cases h0 : y < 0
  · have : y.toInt < 0 := by rw [Int64.lt_iff_toInt_lt] at h0; simpa using h0
    rw [if_pos ((lg_cmp_lt _ _).mpr h0), if_neg (fun q => by omega)]
    rfl
  · have h1 : 0 ≤ y.toInt := by rw [Int64.lt_iff_toInt_lt] at h0; have : (0 : Int64).toInt = 0 := rfl; omega
    rw [if_neg (fun q => h0 ((lg_cmp_lt _ _).mp q))]
    by_cases h2 : y < (nI C.mm).toInt64
    · have h3 : y.toInt < C.mm := by rw [Int64.lt_iff_toInt_lt, nI64 (by omega)] at h2; exact h2
      obtain ⟨m, hm2⟩ : ∃ m : Nat, y.toInt = m := ⟨y.toInt.toNat, by omega⟩
      obtain ⟨z1, z2⟩ := ZOx_13 (m := m) (by omega)
      rw [if_pos ((lg_cmp_lt _ _).mpr h2), y32 hm2 (by omega), if_pos z1, z2, if_pos (ZOx_k (by omega)).1, if_pos ⟨h1, h3⟩, hm2]
      rfl
    · have h3 : ¬ y.toInt < C.mm := by rw [Int64.lt_iff_toInt_lt, nI64 (by omega)] at h2; exact h2
      rw [if_neg (fun q => h2 ((lg_cmp_lt _ _).mp q)), if_neg (fun q => h3 q.2)]
      rfl
end
