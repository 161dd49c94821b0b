/-! ===== the reference: figures of codes ===== -/
theorem p_tens_c (τ : SS) : ∀ j k m, k + j ≤ 8 → j < m → f_X12_tens_c4 m (nI (k + j)) (nI (10 ^ k)) (nI k) τ = some (nI (10 ^ (k + j)), τ) := by
  intro j
  induction j with
  | zero =>
    intro k m h hm
    obtain ⟨m, rfl⟩ : ∃ m', m = m' + 1 := ⟨m - 1, by omega⟩
    rw [f_X12_tens_c4, Nat.add_zero, if_pos (nI_le (Nat.le_refl _) (by omega))]
  | succ j ih =>
    intro k m h hm
    obtain ⟨m, rfl⟩ : ∃ m', m = m' + 1 := ⟨m - 1, by omega⟩
    rw [f_X12_tens_c4, if_neg (nI_ge (by omega) (by omega)), show (10 : Int32) = nI 10 from rfl, pk_mul, nI_1, ← Nat.pow_succ]
    have e := ih (k + 1) m (by omega) (by omega)
    rw [show k + 1 + j = k + (j + 1) from by omega] at e
    exact e
theorem p_tens {k : Nat} (hk : k ≤ 8) (τ : SS) : f_X12_tens (nI k) τ = some (nI (10 ^ k), τ) := by
  have e := p_tens_c τ k 0 ZF (by omega) (by unfold ZF; omega)
  rw [Nat.zero_add] at e
  exact e
theorem p_powerIn {c k : Nat} (hc : c < 2 ^ 31) (hk : k ≤ 8) (τ : SS) : f_X12_powerIn (nI c) (nI k) τ = some (nI (dig c k), τ) := by
  have h1 : 10 ^ k ≤ 10 ^ 8 := Nat.pow_le_pow_right (by decide) hk
  have h2 : 0 < 10 ^ k := Nat.pow_pos (by decide)
  have h3 : c / 10 ^ k ≤ c := Nat.div_le_self _ _
  rw [f_X12_powerIn, p_tens hk, zbd_s, if_neg (show ¬ nI (10 ^ k) = 0 from fun q => by
    have := (nI_eq (a := 10 ^ k) (b := 0) (by omega) (by decide)).mp q
    omega), pk_div hc h2 (by omega), show (10 : Int32) = nI 10 from rfl, pk_rem (by omega) (by decide) (by decide)]
  rfl
theorem dig_s (c k : Nat) : dig (c / 10) k = dig c (k + 1) := by
  unfold dig
  rw [Nat.div_div_eq_div_mul, Nat.pow_succ, Nat.mul_comm]
theorem sm_s (f : Nat → Nat) : ∀ j, sm f (j + 1) = f 0 + sm (fun k => f (k + 1)) j
  | 0 => by simp [sm]
  | j + 1 => by rw [sm, sm_s f j, sm]; omega
theorem p_sizeOf_c (τ : SS) : ∀ j c a m, c < 10 ^ j → j ≤ 8 → j < m → f_X12_sizeOf_c4 m (nI a) (nI c) τ = some (nI (a + sm (dig c) j), τ) := by
  intro j
  induction j with
  | zero =>
    intro c a m hc hj hm
    obtain ⟨m, rfl⟩ : ∃ m', m = m' + 1 := ⟨m - 1, by omega⟩
    have : c = 0 := by simpa using hc
    subst this
    rw [f_X12_sizeOf_c4, if_pos (by decide)]
    rfl
  | succ j ih =>
    intro c a m hc hj hm
    obtain ⟨m, rfl⟩ : ∃ m', m = m' + 1 := ⟨m - 1, by omega⟩
    have h1 : 10 ^ (j + 1) ≤ 10 ^ 8 := Nat.pow_le_pow_right (by decide) hj
    rw [f_X12_sizeOf_c4]
    by_cases h : c = 0
    · subst h
      rw [if_pos (by decide)]
      have : ∀ i, sm (dig 0) i = 0 := fun i => by
        induction i with
        | zero => rfl
        | succ i ih => rw [sm, ih]; simp [dig]
      rw [this]
      rfl
    · rw [if_neg (fun q => h ((nI_pos1 (by omega)).mp q)), show (10 : Int32) = nI 10 from rfl, pk_rem (by omega) (by decide) (by decide), pk_div (by omega) (by decide) (by decide), nI_add, ih (c / 10) _ m (by rw [Nat.pow_succ] at hc; omega) (by omega) (by omega), sm_s, show dig c 0 = c % 10 from by simp [dig], Nat.add_assoc]
      rw [show dig (c / 10) = fun k => dig c (k + 1) from funext (dig_s c)]
theorem p_sizeOf {c : Nat} (hc : c < 10 ^ 6) (τ : SS) : f_X12_sizeOf (nI c) τ = some (nI (sz c), τ) := by
  have e := p_sizeOf_c τ 6 c 0 ZF hc (by decide) (by unfold ZF; omega)
  rw [Nat.zero_add, ← sz_sm] at e
  exact e
/-! ===== the reference: WORTH ===== -/
section
variable {S : Sh} {τ : SS} {c : Nat}
theorem p_wm_50 (hS : ShOk S) (h : ShM S τ) (h0 : S.so = 0) (hc : c < 2 ^ 31) :
    ∀ j k m, k + j = S.e → j < m → f_X12_worthOfProduct_c50 m (nI c) (nI k) τ = some (if pts c S.n j (S.f + k) = true then (if S.n % 2 = 0 then -1 else 1) else 0, τ) := by
  have he := hS.e3
  have hf := hS.f3
  have hn := hS.n5
  intro j
  induction j with
  | zero =>
    intro k m hk hm
    obtain ⟨m, rfl⟩ : ∃ m', m = m' + 1 := ⟨m - 1, by omega⟩
    rw [f_X12_worthOfProduct_c50, h.e, if_pos (nI_le (by omega) (by omega))]
    rfl
  | succ j ih =>
    intro k m hk hm
    obtain ⟨m, rfl⟩ : ∃ m', m = m' + 1 := ⟨m - 1, by omega⟩
    rw [f_X12_worthOfProduct_c50, h.e, if_neg (nI_ge (by omega) (by omega)), h.f h0, nI_add, p_powerIn hc (by omega), zbd_s, h.n, pts]
    by_cases h1 : dig c (S.f + k) = S.n
    · rw [if_pos (by rw [h1]), if_pos h1, if_pos rfl]
      by_cases h2 : S.n % 2 = 0
      · rw [if_neg (fun q => (par_n1 _ hn).mp q h2), if_pos h2]
      · rw [if_pos ((par_n1 _ hn).mpr h2), if_neg h2]
    · rw [if_neg (fun q => h1 ((dig_nI (by omega)).mp q)), if_neg h1, nI_1, ih (k + 1) m (by omega) (by omega)]
      rfl
theorem p_wm_4 (hS : ShOk S) (h : ShM S τ) (h0 : S.so = 0) (hc : c < 2 ^ 31) :
    ∀ j k m, k + j = S.f → j < m → f_X12_worthOfProduct_c4 m (nI c) (if whl S c k = true then 1 else 0) (nI k) τ = some (WTn S c, τ) := by
  have he := hS.e3
  have hf := hS.f3
  have hn := hS.n5
  intro j
  induction j with
  | zero =>
    intro k m hk hm
    obtain ⟨m, rfl⟩ : ∃ m', m = m' + 1 := ⟨m - 1, by omega⟩
    rw [f_X12_worthOfProduct_c4, h.f h0, if_pos (nI_le (by omega) (by omega))]
    unfold WTn
    rw [show k = S.f from by omega]
    cases hw : whl S c S.f with
    | true => rfl
    | false =>
      rw [if_pos (show (if false = true then (1 : Int32) else 0) = 0 from rfl), show (0 : Int32) = nI 0 from rfl, p_wm_50 hS h h0 hc S.e 0 ZF (by omega) (by unfold ZF; omega), if_neg (show ¬ false = true by decide), if_pos h0]
      rfl
  | succ j ih =>
    intro k m hk hm
    obtain ⟨m, rfl⟩ : ∃ m', m = m' + 1 := ⟨m - 1, by omega⟩
    have hd : S.dm k ≤ 5 := by
      have : k = 0 ∨ k = 1 ∨ k = 2 := by omega
      unfold Sh.n at hn
      rcases this with rfl | rfl | rfl <;> omega
    have e := ih (k + 1) m (by omega) (by omega)
    rw [whl] at e
    rw [f_X12_worthOfProduct_c4, h.f h0, if_neg (nI_ge (by omega) (by omega)), p_powerIn hc (by omega), zbd_s, if_pos (zin_nI (by omega) (by decide)), nI_clamp (by omega), h.dm h0 k (by omega)]
    cases hw : whl S c k with
    | false =>
      rw [hw] at e
      rw [if_pos (show (if false = true then (1 : Int32) else 0) = 0 from rfl), f_X12_worthOfProduct_c34, f_X12_worthOfProduct_c35, nI_1]
      exact e
    | true =>
      rw [hw] at e
      rw [if_neg (show ¬ (if true = true then (1 : Int32) else 0) = 0 by decide)]
      by_cases h3 : dig c k = S.dm k
      · rw [h3, if_pos rfl, f_X12_worthOfProduct_c35, nI_1]
        rw [show (true && dig c k == S.dm k) = true from by simp [h3]] at e
        exact e
      · rw [if_neg (fun q => h3 ((dig_nI (by omega)).mp q)), f_X12_worthOfProduct_c34, f_X12_worthOfProduct_c35, nI_1]
        rw [show (true && dig c k == S.dm k) = false from by simp [h3]] at e
        exact e
theorem cur_chk : ((List.range 6).all fun L => (List.range 5).all fun n => chkAll (fun L n c => !(n == 3) || !(sz c == 3) || ((decide (dig c 0 = 3) == decide (c = 3)) && (List.range 5).all fun k => !decide (k + 1 < L) || ((decide (dig c (1 + k) = 3) == decide (c = 3 * 10 ^ (1 + k))) && (decide (dig c (1 + k) = 2 ∧ dig c 0 = 1) == decide (c = 1 + 2 * 10 ^ (1 + k)))))) (L + 1) (n + 1)) = true := by decide +kernel
theorem cur_cd {L t : Nat} (hL : LnOk L 3) (ht : t < cM L 3) (hz : sz (cd L 3 t) = 3) : (dig (cd L 3 t) 0 = 3 ↔ cd L 3 t = 3) ∧ ∀ k, k + 1 < L → (dig (cd L 3 t) (1 + k) = 3 ↔ cd L 3 t = 3 * 10 ^ (1 + k)) ∧ ((dig (cd L 3 t) (1 + k) = 2 ∧ dig (cd L 3 t) 0 = 1) ↔ cd L 3 t = 1 + 2 * 10 ^ (1 + k)) := by
  have h := all_cd cur_chk hL ht
  rw [hz] at h
  simp only [BEq.rfl, Bool.not_true, Bool.false_or, Bool.and_eq_true, List.all_eq_true, Bool.or_eq_true, Bool.not_eq_true', decide_eq_false_iff_not, beq_iff_eq, decide_eq_decide] at h
  refine ⟨h.1, fun k hk => ?_⟩
  have h2 := hL.2.1
  rcases h.2 k (List.mem_range.mpr (by omega)) with q | q
  · exact absurd hk q
  · exact q
theorem neg64 : ∀ d, d ≤ 9 → (-(nI d)).toInt64 = -(nI d).toInt64 := by decide
theorem con_chk : ∀ c ∈ tcs 2 5, sz c = 5 → c = 5 ∨ c = 14 ∨ c = 23 ∨ c = 32 ∨ c = 41 ∨ c = 50 := by decide +kernel
end
