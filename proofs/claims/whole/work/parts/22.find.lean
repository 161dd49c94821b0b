/-! ===== small int facts ===== -/
theorem nI_le0 {a b : Nat} (ha : a < 2 ^ 30) (hb : b < 2 ^ 30) : (0 : Int32) ≤ nI a - nI b ↔ b ≤ a := by
  rw [Int32.le_iff_toInt_le, pk_sub_toInt ha hb, show (0 : Int32).toInt = 0 from rfl]
  omega
theorem nI_cases (x : Int32) : x < 0 ∨ ∃ j : Nat, j < 2 ^ 31 ∧ x = nI j := by
  by_cases h : x < 0
  · exact Or.inl h
  · exact Or.inr (nI_of h)
theorem nI_toNat {j : Nat} (h : j < 2 ^ 31) : (nI j).toInt.toNat = j := by
  rw [nI_toInt h]
  rfl
def oI : Option Nat → Int32
  | some i => nI i
  | none => -1
theorem oI_neg {o : Option Nat} (h : ∀ i, o = some i → i < 2 ^ 31) : oI o < 0 ↔ o = none := by
  cases o with
  | none => exact ⟨fun _ => rfl, fun _ => by decide⟩
  | some i => exact ⟨fun q => absurd q (nI_pos (h i rfl)), fun q => by cases q⟩
def pI (L n : Nat) (x : Int32) : Option Nat := if x < 0 then none else pos L n x.toInt.toNat
theorem pI_iff {L n : Nat} {x : Int32} {i : Nat} (hL : LnOk L n) : pI L n x = some i ↔ i < cM L n ∧ x = nI (cd L n i) := by
  unfold pI
  rcases nI_cases x with h | ⟨j, hj, rfl⟩
  · rw [if_pos h]
    refine ⟨fun q => (by cases q), fun q => ?_⟩
    have := (cd_lt hL q.1).1
    exact absurd (q.2 ▸ h) (nI_pos (by omega))
  · rw [if_neg (nI_pos hj), nI_toNat hj, pos_iff hL]
    refine ⟨fun q => ⟨q.1, by rw [q.2]⟩, fun q => ⟨q.1, ?_⟩⟩
    have := (cd_lt hL q.1).1
    exact ((nI_eq hj (by omega)).mp q.2).symm
theorem pI_cd {L n t : Nat} (hL : LnOk L n) (ht : t < cM L n) : pI L n (nI (cd L n t)) = some t := (pI_iff hL).mpr ⟨ht, rfl⟩
theorem pI_lt {L n : Nat} {x : Int32} {i : Nat} (hL : LnOk L n) (h : pI L n x = some i) : i < 462 := by
  have := ((pI_iff hL).mp h).1
  have := (cM_pos hL).2
  omega
/-! ===== the class's find ===== -/
theorem ztab_1 : ∀ q, q < 7 → ∀ l, l < 6 → ztab 1 (nI (6 * q + l)) = nI (ahd q l) := by decide +kernel
theorem ahd_le : ∀ q, q < 7 → ∀ l, l < 6 → ahd q l ≤ 210 := by decide +kernel
theorem p_find_c {L n : Nat} (hL : LnOk L n) {s : SS} (h0 : s.1 6 0 = nI n) (h1 : s.1 6 1 = nI L) (h2 : s.1 6 2 = nI (cM L n)) :
    ∀ (j m k rest left a : Nat), k + j = L → rest < 2 ^ 31 → left ≤ 5 → a + 210 * j ≤ 2000 → j < m → f_X10_find_c19 m (nI rest) (nI left) (nI a) (nI k) s = some ((match fnd j left rest a with | some i => if i < cM L n then nI i else -1 | none => -1), s) := by
  intro j
  have hM := cM_pos hL
  obtain ⟨hL1, hL2, hn1, hn2⟩ := hL
  induction j with
  | zero =>
    intro m k rest left a hk hr hl ha hm
    obtain ⟨m, rfl⟩ : ∃ m', m = m' + 1 := ⟨m - 1, by omega⟩
    rw [f_X10_find_c19, h1, h2, if_pos (nI_le (by omega) (by omega))]
    show (if nI rest = nI 0 then _ else _) = _
    unfold fnd
    by_cases h : rest = 0
    · subst h
      rw [if_pos rfl, if_pos rfl]
      by_cases h3 : a < cM L n
      · rw [if_neg (nI_ge h3 (by omega))]
        simp [h3]
      · rw [if_pos (nI_le (by omega) (by omega))]
        simp [h3]
    · rw [if_neg (fun q => h ((nI_eq hr (by omega)).mp q)), if_neg h]
  | succ j ih =>
    intro m k rest left a hk hr hl ha hm
    obtain ⟨m, rfl⟩ : ∃ m', m = m' + 1 := ⟨m - 1, by omega⟩
    rw [f_X10_find_c19, h1, if_neg (nI_ge (by omega) (by omega))]
    rw [show (10 : Int32) = nI 10 from rfl, pk_rem hr (by decide) (by decide)]
    unfold fnd
    by_cases h : left < rest % 10
    · rw [if_neg (fun q => by have := (nI_le0 (by omega) (by omega)).mp q; omega), if_pos h]
    · rw [if_pos ((nI_le0 (by omega) (by omega)).mpr (by omega)), if_neg h, pk_sub (by omega), pk_sub (by omega), show (6 : Int32) = nI 6 from rfl, pk_mul, nI_add, show L - k = j + 1 from by omega]
      rw [if_pos (zin_nI (by omega) (by decide)), ztab_1 (j + 1) (by omega) (left - rest % 10) (by omega), pk_div hr (by decide) (by decide), nI_add, nI_1]
      have hb := ahd_le (j + 1) (by omega) (left - rest % 10) (by omega)
      rw [ih m (k + 1) (rest / 10) (left - rest % 10) _ (by omega) (by omega) (by omega) (by omega) (by omega)]
theorem p_find {L n : Nat} (hL : LnOk L n) {s : SS} (h0 : s.1 6 0 = nI n) (h1 : s.1 6 1 = nI L) (h2 : s.1 6 2 = nI (cM L n)) (x : Int32) : f_X10_find x s = some (oI (pI L n x), s) := by
  rw [f_X10_find]
  unfold pI
  rcases nI_cases x with h | ⟨j, hj, rfl⟩
  · rw [if_neg (fun q => by rw [Int32.le_iff_toInt_le] at q; rw [Int32.lt_iff_toInt_lt] at h; omega), if_pos h]
    rfl
  · have h3 := hL
    obtain ⟨hL1, hL2, hn1, hn2⟩ := h3
    rw [if_pos (nI_pos' hj), if_neg (nI_pos hj), nI_toNat hj, h0]
    have := p_find_c hL h0 h1 h2 L ZF 0 j n 0 (by omega) hj hn2 (by omega) (by unfold ZF; omega)
    rw [nI_0] at this
    rw [this]
    show some ((match pos L n j with | some i => _ | none => _), s) = _
    cases hp : pos L n j with
    | none => rfl
    | some i => simp [oI, ((pos_iff hL).mp hp).1]
