/-! ===== sums of longs ===== -/
def sl (f : Nat → Int64) : Nat → Int64
  | 0 => 0
  | m + 1 => sl f m + f m
theorem sl_congr {f g : Nat → Int64} : ∀ {m}, (∀ t, t < m → f t = g t) → sl f m = sl g m
  | 0, _ => rfl
  | m + 1, h => by rw [sl, sl, sl_congr (fun t ht => h t (by omega)), h m (by omega)]
theorem cn_sur (P : Nat → Bool) : ∀ M j, j < cn P M → ∃ t, t < M ∧ P t = true ∧ cn P t = j
  | 0, j, h => by rw [cn] at h; omega
  | M + 1, j, h => by
    rw [cn] at h
    by_cases h1 : j < cn P M
    · obtain ⟨t, a, b, c⟩ := cn_sur P M j h1
      exact ⟨t, by omega, b, c⟩
    · by_cases h2 : P M = true
      · rw [if_pos h2] at h
        exact ⟨M, by omega, h2, by omega⟩
      · rw [if_neg h2] at h
        omega
section
variable {g : Nat → Nat} {M : Nat} {b st : Nat → Int32}
theorem ByS.at_ (h : ByS g M b st) {z j : Nat} (hj : j < cn (fun t => decide (g t = z)) M) : ∃ t, t < M ∧ g t = z ∧ cn (fun t => decide (g t = z)) t = j ∧ b (stt g M z + j) = nI t := by
  obtain ⟨t, h1, h2, h3⟩ := cn_sur _ M j hj
  have hz : g t = z := of_decide_eq_true h2
  refine ⟨t, h1, hz, h3, ?_⟩
  have := h.2 t h1
  rw [hz] at this
  rw [← h3]
  exact this
/-- sums over the places of a size are sums over the TERMS of that size -/
theorem sl_by (h : ByS g M b st) (hM : M ≤ 462) (z : Nat) (f : Nat → Int64) : ∀ m, m ≤ M → sl (fun j => f (b (stt g M z + j)).toNatClampNeg) (cn (fun t => decide (g t = z)) m) = sl (fun t => if g t = z then f t else 0) m
  | 0, _ => rfl
  | m + 1, hm => by
    have e := sl_by h hM z f m (by omega)
    rw [cn, sl]
    by_cases hz : g m = z
    · rw [if_pos (by simp [hz]), if_pos hz, sl, e]
      have := h.2 m (by omega)
      rw [hz] at this
      rw [this, nI_clamp (by omega)]
    · rw [if_neg (by simp [hz]), if_neg hz, Nat.add_zero, e, Int64.add_zero]
end
/-! ===== rows ===== -/
def Rw (S : Sh) (s : SS) (k : Nat) (v : Nat → Int64) : Prop := ∀ t, t < S.M → s.2 k t = v t
def mt (S : Sh) (v : Nat → Int64) : Int64 := sl (fun t => v t * WT S (S.c t)) S.M
theorem Ox_r {k : Nat} (h : 21 ≤ k ∧ k ≤ 25) : Ox k = .inr (1, 462, []) := by
  have : k = 21 ∨ k = 22 ∨ k = 23 ∨ k = 24 ∨ k = 25 := by omega
  rcases this with rfl | rfl | rfl | rfl | rfl <;> rfl
section
variable {S : Sh} {s τ : SS} {v : Nat → Int64}
theorem p_met (hS : ShOk S) (hT : TmC S s) {k : Nat} (hk : 21 ≤ k ∧ k ≤ 25) (hR : Rw S s k v) : f_X8_metOf k s = some (mt S v, s) := by
  have hn := hS.n5
  have hM : S.M ≤ 462 := (cM_pos hS.ln).2
  have hB := hT.by_
  let g := fun t => sz (S.c t)
  have hB : ByS g S.M (s.1 66) (s.1 67) := hT.by_
  have hg : ∀ t, t < S.M → g t ≤ S.n := fun t ht => sz_le hS.ln ht
  have hall : stt g S.M S.n + cn (fun t => decide (g t = S.n)) S.M = S.M := by
    rw [← stt_1]
    unfold stt
    have : ∀ m, m ≤ S.M → cn (fun t => decide (g t < S.n + 1)) m = m := by
      intro m
      induction m with
      | zero => intro _; rfl
      | succ m ih => intro hm; rw [cn, ih (by omega), if_pos (by have := hg m (by omega); simp; omega)]
    exact this _ (Nat.le_refl _)
  have key : ∀ j i m, i + j = cn (fun t => decide (g t = S.n)) S.M → j < m → f_X8_metOf_c19 m k (sl (fun q => (s.2 k ((s.1 66 (stt g S.M S.n + q)).toNatClampNeg)) * (s.2 64 ((s.1 66 (stt g S.M S.n + q)).toNatClampNeg))) i) (nI (stt g S.M S.n + i)) s = some (sl (fun q => (s.2 k ((s.1 66 (stt g S.M S.n + q)).toNatClampNeg)) * (s.2 64 ((s.1 66 (stt g S.M S.n + q)).toNatClampNeg))) (cn (fun t => decide (g t = S.n)) S.M), s) := by
    intro j
    induction j with
    | zero =>
      intro i m hi hm
      obtain ⟨m, rfl⟩ : ∃ m', m = m' + 1 := ⟨m - 1, by omega⟩
      rw [f_X8_metOf_c19, hT.M, show i = cn (fun t => decide (g t = S.n)) S.M from by omega, if_pos (nI_le (by omega) (by omega))]
    | succ j ih =>
      intro i m hi hm
      obtain ⟨m, rfl⟩ : ∃ m', m = m' + 1 := ⟨m - 1, by omega⟩
      obtain ⟨t, ht, hz, hc, hb⟩ := hB.at_ (z := S.n) (j := i) (by omega)
      have e := ih (i + 1) m (by omega) (by omega)
      rw [sl] at e
      rw [f_X8_metOf_c19, hT.M, if_neg (nI_ge (by omega) (by omega)), if_pos (zin_nI (by omega) (by decide)), nI_clamp (by omega)]
      have g1 : zok Ox 1 k (s.1 66 (stt g S.M S.n + i)) = true := by rw [hb]; exact zok_nI (Ox_r hk) (by omega) (by decide)
      have g2 : zin (s.1 66 (stt g S.M S.n + i)) 462 = true := by rw [hb]; exact zin_nI (by omega) (by decide)
      rw [if_pos g1, if_pos g2, nI_1]
      exact e
  have k0 := key _ 0 ZF (Nat.zero_add _) (by have := cn_le (fun t => decide (g t = S.n)) S.M; unfold ZF; omega)
  rw [f_X8_metOf, hT.n, if_pos (zin_nI (by omega) (by decide)), nI_clamp (by omega), hB.1 S.n (by omega)]
  refine Eq.trans k0 ?_
  rw [sl_by hB hM S.n (fun t => s.2 k t * s.2 64 t) S.M (Nat.le_refl _)]
  congr 2
  unfold mt
  refine sl_congr fun t ht => ?_
  rw [hR t ht, hT.worth t ht]
  unfold WT
  show (if sz (S.c t) = S.n then _ else _) = _
  split
  · rfl
  · rw [Int64.mul_zero]
theorem pm_met (hS : ShOk S) (hT : TmM S τ) {k : Nat} (hk : Om k = .inr (1, 462, [])) (hR : Rw S τ k v) : f_X12_metOf k τ = some (mt S v, τ) := by
  have hM : S.M ≤ 462 := (cM_pos hS.ln).2
  have key : ∀ j i m, i + j = S.M → j < m → f_X12_metOf_c5 m k (sl (fun t => v t * WT S (S.c t)) i) (nI i) τ = some (mt S v, τ) := by
    intro j
    induction j with
    | zero =>
      intro i m hi hm
      obtain ⟨m, rfl⟩ : ∃ m', m = m' + 1 := ⟨m - 1, by omega⟩
      rw [f_X12_metOf_c5, hT.M, if_pos (nI_le (by omega) (by omega)), show i = S.M from by omega]
      rfl
    | succ j ih =>
      intro i m hi hm
      obtain ⟨m, rfl⟩ : ∃ m', m = m' + 1 := ⟨m - 1, by omega⟩
      have e := ih (i + 1) m (by omega) (by omega)
      rw [sl] at e
      rw [f_X12_metOf_c5, hT.M, if_neg (nI_ge (by omega) (by omega)), if_pos (zok_nI hk (by omega) (by decide)), if_pos (zin_nI (by omega) (by decide)), nI_clamp (by omega), hR i (by omega), hT.worth i (by omega), nI_1]
      exact e
  have e := key S.M 0 ZF (by omega) (by unfold ZF; omega)
  rw [nI_0] at e
  exact e
end
