section
variable {S : Sh} {C : Cl} {σ σ1 τ τ1 : SS}
/-! ===== THE PAPER ===== -/
def PW (l : Nat) (σ : SS) (τ : SS) : Prop :=
  (σ.1 10 1 = nI l) ∧
  (τ.1 0 58 = nI l) ∧
  (∀ i, i < min l 200 → σ.1 80 i = τ.1 21 i)
theorem PW.lC {l : Nat} {σ : SS} {τ : SS} (h : PW l σ τ) : σ.1 10 1 = nI l := h.1
theorem PW.lM {l : Nat} {σ : SS} {τ : SS} (h : PW l σ τ) : τ.1 0 58 = nI l := h.2.1
theorem PW.b {l : Nat} {σ : SS} {τ : SS} (h : PW l σ τ) : ∀ i, i < min l 200 → σ.1 80 i = τ.1 21 i := h.2.2
theorem nar_b : ∀ v, v < 130 → vp_nar .char (nI v) = nI v := by decide +kernel
theorem add_c {l b : Nat} (A : PW l σ τ) (hl : l < 900000) (hb : b < 130) : ∃ σ1 τ1, f_X6_add (nI b) σ = some ((), σ1) ∧ f_X12_lay (nI b) τ = some ((), τ1) ∧ PW (l + 1) σ1 τ1 ∧ FR [10, 80] [] σ σ1 ∧ FM [58] [21] [] τ τ1 := by
  rw [f_X6_add, f_X12_lay, A.lC, A.lM, if_neg (nI_pos (by omega)), nar_b b hb]
  by_cases q : l < 200
  rotate_left
  · have : (200 : Int32) ≤ nI l := nI_le (a := 200) (by omega) (by omega)
    rw [if_pos this, if_pos this, nI_1]
    refine ⟨_, _, rfl, rfl, ⟨by rw [zS_1, if_pos ⟨rfl, rfl⟩], by rw [zS_1, if_pos ⟨rfl, rfl⟩], fun i hi => ?_⟩, (FR.refl σ).sS (by simp) _ _, (FM.refl τ).sO (by simp) _⟩
    rw [zS_1, if_neg (fun q => absurd q.1 (by decide)), zS_1, if_neg (fun q => absurd q.1 (by decide))]
    exact A.b i (by omega)
  have : ¬ (200 : Int32) ≤ nI l := nI_ge (b := 200) q (by decide)
  have z := zin_nI q (show 200 ≤ 2 ^ 31 by decide)
  have c1 : (zS σ 80 l (nI b)).1 10 1 = nI l := by rw [zS_1, if_neg (fun q => absurd q.1 (by decide))]; exact A.lC
  have m1 : (zS τ 21 l (nI b)).1 0 58 = nI l := by rw [zS_1, if_neg (fun q => absurd q.1 (by decide))]; exact A.lM
  rw [if_neg this, if_neg this, if_pos z, if_pos z, nI_clamp (by omega), c1, m1, nI_1]
  refine ⟨_, _, rfl, rfl, ⟨by rw [zS_1, if_pos ⟨rfl, rfl⟩], by rw [zS_1, if_pos ⟨rfl, rfl⟩], fun i hi => ?_⟩, ((FR.refl σ).sS (by simp) _ _).sS (by simp) _ _, ((FM.refl τ).sS (by decide) (by simp) _ _).sO (by simp) _⟩
  by_cases w : i = l
  · simp [zS_1, w]
  · simp [zS_1, w]; exact A.b i (by omega)
/-! ===== figures of a number ===== -/
theorem dig_stop (N : Nat) : ∀ b, (∃ m, 1 ≤ m ∧ m ≤ b ∧ N / 10 ^ m = 0 ∧ ∀ i, 0 < i → i < m → N / 10 ^ i ≠ 0) ∨ (∀ i, 0 < i → i ≤ b → N / 10 ^ i ≠ 0)
  | 0 => Or.inr (fun i h1 h2 => absurd h1 (by omega))
  | b + 1 => by
    rcases dig_stop N b with ⟨m, h1, h2, h3, h4⟩ | h
    · exact Or.inl ⟨m, h1, by omega, h3, h4⟩
    · by_cases q : N / 10 ^ (b + 1) = 0
      · exact Or.inl ⟨b + 1, by omega, Nat.le_refl _, q, fun i h1 h2 => h i h1 (by omega)⟩
      · exact Or.inr (fun i h1 h2 => by
          by_cases e : i = b + 1
          · rw [e]; exact q
          · exact h i h1 (by omega))
theorem dig_m {N : Nat} (h : N < 10 ^ 19) : ∃ m, 1 ≤ m ∧ m ≤ 19 ∧ N / 10 ^ m = 0 ∧ ∀ i, 0 < i → i < m → N / 10 ^ i ≠ 0 := by
  rcases dig_stop N 19 with q | q
  · exact q
  · exact absurd (Nat.div_eq_of_lt h) (q 19 (by decide) (by decide))
theorem w_div {w : Int64} {N : Nat} (hw : w.toInt = -(N : Int)) (hN : N ≤ 2 ^ 63) : (w / 10).toInt = -((N / 10 : Nat) : Int) ∧ (w - w / 10 * 10).toInt = -((N % 10 : Nat) : Int) := by
  have e10 : (10 : Int64).toInt = 10 := rfl
  have e1 : (w / 10).toInt = -((N / 10 : Nat) : Int) := by
    rw [Int64.toInt_div, hw, e10, Int.neg_tdiv, Int.tdiv_eq_ediv_of_nonneg (by omega)]
    have : ((N : Int) / 10) = ((N / 10 : Nat) : Int) := by omega
    rw [this]
    simp only [Int.bmod]
    omega
  refine ⟨e1, ?_⟩
  rw [Int64.toInt_sub, Int64.toInt_mul, e1, hw, e10]
  simp only [Int.bmod]
  omega
theorem x_div {w : Int64} {N : Nat} (hw : w.toInt = (N : Int)) (hN : N < 2 ^ 63) : (w / 10).toInt = ((N / 10 : Nat) : Int) ∧ (w - w / 10 * 10).toInt = ((N % 10 : Nat) : Int) := by
  have e10 : (10 : Int64).toInt = 10 := rfl
  have e1 : (w / 10).toInt = ((N / 10 : Nat) : Int) := by
    rw [Int64.toInt_div, hw, e10, Int.tdiv_eq_ediv_of_nonneg (by omega)]
    have : ((N : Int) / 10) = ((N / 10 : Nat) : Int) := by omega
    rw [this]
    simp only [Int.bmod]
    omega
  refine ⟨e1, ?_⟩
  rw [Int64.toInt_sub, Int64.toInt_mul, e1, hw, e10]
  simp only [Int.bmod]
  omega
theorem i64_0 {w : Int64} : w = 0 ↔ w.toInt = 0 := ⟨fun h => by rw [h]; rfl, fun h => Int64.toInt_inj.mp h⟩
theorem c_figs {N m : Nat} (hN : N ≤ 2 ^ 63) (h1 : 1 ≤ m) (h19 : m ≤ 19) (hz : N / 10 ^ m = 0) (hn : ∀ i, 0 < i → i < m → N / 10 ^ i ≠ 0) : ∀ j k n w σ, k + j = m → j < n → w.toInt = -((N / 10 ^ k : Nat) : Int) → (∀ i, i < k → σ.1 81 i = nI (48 + N / 10 ^ i % 10)) →
    ∃ σ1, f_X6_addFigures_c19 n w (nI k) (nI k) σ = f_X6_addFigures_c79 ZF (nI m - 1) σ1 ∧ (∀ i, i < m → σ1.1 81 i = nI (48 + N / 10 ^ i % 10)) ∧ FR [81] [] σ σ1 := by
  intro j
  induction j with
  | zero =>
    intro k n w σ hk hn' hw hd
    obtain ⟨n, rfl⟩ : ∃ m', n = m' + 1 := ⟨n - 1, by omega⟩
    have : k = m := by omega
    subst this
    have w0 : w = 0 := i64_0.mpr (by rw [hw, hz]; rfl)
    exact ⟨σ, by rw [f_X6_addFigures_c19, if_neg (show ¬ (20 : Int32) ≤ nI k from nI_ge (b := 20) (by omega) (by decide)), if_pos ((lg_cmp_eq _ _).mpr w0), if_neg (nI_ne0 (by omega) (by omega)), f_X6_addFigures_c73], hd, FR.refl σ⟩
  | succ j ih =>
    intro k n w σ hk hn' hw hd
    obtain ⟨n, rfl⟩ : ∃ m', n = m' + 1 := ⟨n - 1, by omega⟩
    have hle : N / 10 ^ k ≤ N := Nat.div_le_self _ _
    obtain ⟨d1, d2⟩ := w_div hw (by omega)
    have e48 : (48 - (w - w / 10 * 10)).toInt = ((48 + N / 10 ^ k % 10 : Nat) : Int) := by
      rw [Int64.toInt_sub, d2, show (48 : Int64).toInt = 48 from rfl]
      simp only [Int.bmod]
      omega
    have go : f_X6_addFigures_c19 (n + 1) w (nI k) (nI k) σ = f_X6_addFigures_c19 n (w / 10) (nI (k + 1)) (nI (k + 1)) (zS σ 81 k (nI (48 + N / 10 ^ k % 10))) := by
      rw [f_X6_addFigures_c19, if_neg (show ¬ (20 : Int32) ≤ nI k from nI_ge (b := 20) (by omega) (by decide)), f_X6_addFigures_c37, if_pos (zin_nI (show k < 20 by omega) (by decide)), nI_clamp (by omega), y32 e48 (by omega), nar_c _ (by omega), nI_1]
      by_cases q : w = 0
      · have k0 : k = 0 := by
          refine Decidable.byContradiction fun h => hn k (by omega) (by omega) ?_
          have := i64_0.mp q
          omega
        rw [if_pos ((lg_cmp_eq _ _).mpr q), if_pos (show nI k = 0 by rw [k0]; rfl)]
      · rw [if_neg (fun v => q ((lg_cmp_eq _ _).mp v))]
    rw [go]
    have F : FR [81] [] σ (zS σ 81 k (nI (48 + N / 10 ^ k % 10))) := (FR.refl σ).sS (by simp) _ _
    obtain ⟨σ1, e1, h2, F1⟩ := ih (k + 1) n (w / 10) _ (by omega) (by omega) (by rw [d1, Nat.div_div_eq_div_mul, ← Nat.pow_succ]) (fun i hi => by
      rw [zS_1]
      by_cases q : i = k
      · rw [if_pos ⟨rfl, q⟩, q]
      · rw [if_neg (fun v => q v.2)]; exact hd i (by omega))
    exact ⟨σ1, e1, h2, F.trans F1⟩
theorem m_figs {N m : Nat} (hN : N ≤ 2 ^ 63) (h1 : 1 ≤ m) (h19 : m ≤ 19) (hz : N / 10 ^ m = 0) (hn : ∀ i, 0 < i → i < m → N / 10 ^ i ≠ 0) : ∀ j k n w τ, k + j = m → j < n → (w.toInt = -((N / 10 ^ k : Nat) : Int) ∨ (N < 2 ^ 63 ∧ w.toInt = ((N / 10 ^ k : Nat) : Int))) → (∀ i, i < k → τ.1 38 i = nI (N / 10 ^ i % 10)) →
    ∃ τ1, f_X12_layNumber_c5 n (nI k) w τ = f_X12_layNumber_c65 ZF (nI m - 1) τ1 ∧ (∀ i, i < m → τ1.1 38 i = nI (N / 10 ^ i % 10)) ∧ FM [] [38] [] τ τ1 := by
  intro j
  induction j with
  | zero =>
    intro k n w τ hk hn' hw hd
    obtain ⟨n, rfl⟩ : ∃ m', n = m' + 1 := ⟨n - 1, by omega⟩
    have : k = m := by omega
    subst this
    have w0 : w = 0 := i64_0.mpr (by rcases hw with h | ⟨-, h⟩ <;> rw [h, hz] <;> rfl)
    exact ⟨τ, by rw [f_X12_layNumber_c5, if_pos ((lg_cmp_eq _ _).mpr w0), if_neg (nI_ne0 (by omega) (by omega))], hd, FM.refl τ⟩
  | succ j ih =>
    intro k n w τ hk hn' hw hd
    obtain ⟨n, rfl⟩ : ∃ m', n = m' + 1 := ⟨n - 1, by omega⟩
    have hle : N / 10 ^ k ≤ N := Nat.div_le_self _ _
    have hdd : N / 10 ^ k / 10 = N / 10 ^ (k + 1) := by rw [Nat.div_div_eq_div_mul, ← Nat.pow_succ]
    have dd : ((w / 10).toInt = -((N / 10 ^ (k + 1) : Nat) : Int) ∨ (N < 2 ^ 63 ∧ (w / 10).toInt = ((N / 10 ^ (k + 1) : Nat) : Int))) ∧ ((w - w / 10 * 10).toInt = -((N / 10 ^ k % 10 : Nat) : Int) ∨ (w - w / 10 * 10).toInt = ((N / 10 ^ k % 10 : Nat) : Int)) := by
      rcases hw with h | ⟨h0, h⟩
      · obtain ⟨a, b⟩ := w_div h (by omega)
        exact ⟨Or.inl (by rw [a, hdd]), Or.inl b⟩
      · obtain ⟨a, b⟩ := x_div h (by omega)
        exact ⟨Or.inr ⟨h0, by rw [a, hdd]⟩, Or.inr b⟩
    obtain ⟨d1, d2⟩ := dd
    have z := zin_nI (show k < 20 by omega) (show 20 ≤ 2 ^ 31 by decide)
    have e16 : f_X12_layNumber_c16 (f_X12_layNumber_c5 n) (nI k) w τ = f_X12_layNumber_c5 n (nI (k + 1)) (w / 10) (zS τ 38 k (nI (N / 10 ^ k % 10))) := by
      rw [f_X12_layNumber_c16, f_X12_layNumber_c44, f_X12_layNumber_c44, if_pos z, if_pos z, nI_clamp (by omega), nI_1]
      by_cases q : (0 : Int64) ≤ w - w / 10 * 10
      · have q' := Int64.le_iff_toInt_le.mp q
        have e0 : (0 : Int64).toInt = 0 := rfl
        rw [if_pos ((lg_cmp_ge _ _).mpr q), y32 (show (w - w / 10 * 10).toInt = ((N / 10 ^ k % 10 : Nat) : Int) by omega) (by omega)]
      · have q' : ¬ (0 : Int64).toInt ≤ (w - w / 10 * 10).toInt := fun v => q (Int64.le_iff_toInt_le.mpr v)
        have e0 : (0 : Int64).toInt = 0 := rfl
        have en : (-(w - w / 10 * 10)).toInt = ((N / 10 ^ k % 10 : Nat) : Int) := by
          rw [Int64.toInt_neg]
          simp only [Int.bmod]
          omega
        rw [if_neg (fun v => q ((lg_cmp_ge _ _).mp v)), y32 en (by omega)]
    have go : f_X12_layNumber_c5 (n + 1) (nI k) w τ = f_X12_layNumber_c5 n (nI (k + 1)) (w / 10) (zS τ 38 k (nI (N / 10 ^ k % 10))) := by
      rw [f_X12_layNumber_c5, e16]
      by_cases q : w = 0
      · have k0 : k = 0 := by
          refine Decidable.byContradiction fun h => hn k (by omega) (by omega) ?_
          have := i64_0.mp q
          omega
        rw [if_pos ((lg_cmp_eq _ _).mpr q), if_pos (show nI k = 0 by rw [k0]; rfl)]
      · rw [if_neg (fun v => q ((lg_cmp_eq _ _).mp v))]
    rw [go]
    have G : FM [] [38] [] τ (zS τ 38 k (nI (N / 10 ^ k % 10))) := (FM.refl τ).sS (by decide) (by simp) _ _
    obtain ⟨τ1, e1, h2, G1⟩ := ih (k + 1) n (w / 10) _ (by omega) (by omega) d1 (fun i hi => by
      rw [zS_1]
      by_cases q : i = k
      · rw [if_pos ⟨rfl, q⟩, q]
      · rw [if_neg (fun v => q v.2)]; exact hd i (by omega))
    exact ⟨τ1, e1, h2, G.trans G1⟩
theorem emit {N m : Nat} (h19 : m ≤ 19) : ∀ j n n' l σ τ, j ≤ m → j < n → j < n' → PW l σ τ → l + j < 800000 → (∀ i, i < m → σ.1 81 i = nI (48 + N / 10 ^ i % 10)) → (∀ i, i < m → τ.1 38 i = nI (N / 10 ^ i % 10)) →
    ∃ σ1 τ1, f_X6_addFigures_c79 n (nI j - 1) σ = some ((), σ1) ∧ f_X12_layNumber_c65 n' (nI j - 1) τ = some ((), τ1) ∧ PW (l + j) σ1 τ1 ∧ FR [10, 80] [] σ σ1 ∧ FM [58] [21] [] τ τ1 := by
  intro j
  induction j with
  | zero =>
    intro n n' l σ τ hj hn hn' A hl hc hm
    obtain ⟨n, rfl⟩ : ∃ q, n = q + 1 := ⟨n - 1, by omega⟩
    obtain ⟨n', rfl⟩ : ∃ q, n' = q + 1 := ⟨n' - 1, by omega⟩
    exact ⟨σ, τ, by rw [f_X6_addFigures_c79, if_pos (show nI 0 - 1 < 0 by decide)], by rw [f_X12_layNumber_c65, if_pos (show nI 0 - 1 < 0 by decide)], A, FR.refl σ, FM.refl τ⟩
  | succ j ih =>
    intro n n' l σ τ hj hn hn' A hl hc hm
    obtain ⟨n, rfl⟩ : ∃ q, n = q + 1 := ⟨n - 1, by omega⟩
    obtain ⟨n', rfl⟩ : ∃ q, n' = q + 1 := ⟨n' - 1, by omega⟩
    have z := zin_nI (show j < 20 by omega) (show 20 ≤ 2 ^ 31 by decide)
    obtain ⟨σ1, τ1, e1, e2, A1, F1, G1⟩ := add_c A (by omega) (show 48 + N / 10 ^ j % 10 < 130 by omega)
    have em1 : nI j + (-1) = nI j - 1 := (Int32.sub_eq_add_neg _ _).symm
    rw [f_X6_addFigures_c79, f_X12_layNumber_c65, nI_pred, if_neg (nI_pos (by omega)), if_neg (nI_pos (by omega)), if_pos z, if_pos z, nI_clamp (by omega), hc j (by omega), hm j (by omega), show (48 : Int32) = nI 48 from rfl, nI_add, e1, e2, zbd_s, zbd_s, em1]
    obtain ⟨σ2, τ2, e3, e4, A2, F2, G2⟩ := ih n n' (l + 1) σ1 τ1 (by omega) (by omega) (by omega) A1 (by omega) (fun i hi => by rw [F1.1 81 (by decide)]; exact hc i hi) (fun i hi => by rw [G1.i 38 (by decide) (by decide)]; exact hm i hi)
    exact ⟨σ2, τ2, e3, e4, by rw [show l + (j + 1) = l + 1 + j by omega]; exact A2, F1.trans F2, G1.trans G2⟩
theorem figs (v : Int64) {l : Nat} (A : PW l σ τ) (hl : l < 700000) : ∃ l' σ1 τ1, f_X6_addFigures v σ = some ((), σ1) ∧ f_X12_layNumber v τ = some ((), τ1) ∧ PW l' σ1 τ1 ∧ l ≤ l' ∧ l' ≤ l + 19 ∧ FR [10, 80, 81] [] σ σ1 ∧ FM [58] [21, 38] [] τ τ1 := by
  have hr : -(2 ^ 63 : Int) ≤ v.toInt ∧ v.toInt < 2 ^ 63 := ⟨Int64.le_toInt v, Int64.toInt_lt v⟩
  obtain ⟨m, m1, m2, m3, m4⟩ := dig_m (N := v.toInt.natAbs) (by omega)
  have hN : v.toInt.natAbs ≤ 2 ^ 63 := by omega
  have hx : v.toInt = -((v.toInt.natAbs / 10 ^ 0 : Nat) : Int) ∨ (v.toInt.natAbs < 2 ^ 63 ∧ v.toInt = ((v.toInt.natAbs / 10 ^ 0 : Nat) : Int)) := by
    rw [Nat.pow_zero, Nat.div_one]
    omega
  have ec : ∃ w : Int64, f_X6_addFigures v σ = f_X6_addFigures_c12 w σ ∧ w.toInt = -((v.toInt.natAbs / 10 ^ 0 : Nat) : Int) := by
    rw [f_X6_addFigures, Nat.pow_zero, Nat.div_one]
    by_cases q : v ≤ 0
    · have q' := Int64.le_iff_toInt_le.mp q
      have e0 : (0 : Int64).toInt = 0 := rfl
      exact ⟨v, if_pos ((lg_cmp_le _ _).mpr q), by omega⟩
    · have q' : ¬ v.toInt ≤ (0 : Int64).toInt := fun w => q (Int64.le_iff_toInt_le.mpr w)
      have e0 : (0 : Int64).toInt = 0 := rfl
      refine ⟨-v, if_neg (fun w => q ((lg_cmp_le _ _).mp w)), ?_⟩
      rw [Int64.toInt_neg]
      simp only [Int.bmod]
      omega
  obtain ⟨w, e0, hw⟩ := ec
  obtain ⟨σ1, e1, d1, F1⟩ := c_figs hN m1 m2 m3 m4 m 0 ZF w σ (by omega) (by unfold ZF; omega) hw (fun i hi => absurd hi (by omega))
  obtain ⟨τ1, e2, d2, G1⟩ := m_figs hN m1 m2 m3 m4 m 0 ZF v τ (by omega) (by unfold ZF; omega) hx (fun i hi => absurd hi (by omega))
  rw [nI_0] at e1 e2
  have A1 : PW l σ1 τ1 := ⟨by rw [F1.1 10 (by decide)]; exact A.lC, by rw [G1.o 58 (by decide)]; exact A.lM, by rw [F1.1 80 (by decide), G1.i 21 (by decide) (by decide)]; exact A.b⟩
  obtain ⟨σ2, τ2, e3, e4, A2, F2, G2⟩ := emit m2 m ZF ZF l σ1 τ1 (Nat.le_refl _) (by unfold ZF; omega) (by unfold ZF; omega) A1 (by omega) d1 d2
  exact ⟨l + m, σ2, τ2, by rw [e0, f_X6_addFigures_c12, e1, e3], by rw [f_X12_layNumber, e2, e4], A2, by omega, by omega, (F1.mono (by decide) (by decide)).trans (F2.mono (by decide) (by decide)), (G1.mono (by decide) (by decide) (by decide)).trans (G2.mono (by decide) (by decide) (by decide))⟩
end
