section
variable {g : Nat → Nat} {M : Nat}
def plc (g : Nat → Nat) (M t : Nat) : Nat := stt g M (g t) + cn (fun i => decide (g i = g t)) t
def Qo (g : Nat → Nat) (M z k : Nat) (b : Nat → Int32) : Prop := ∀ t, t < M → (g t < z ∨ (g t = z ∧ t < k)) → b (plc g M t) = nI t
theorem plc_lt {t : Nat} (ht : t < M) : plc g M t < stt g M (g t + 1) := by
  unfold plc
  rw [stt_1]
  have := cn_lt (fun i => decide (g i = g t)) ht (by simp)
  omega
theorem plc_M {t : Nat} (ht : t < M) : plc g M t < M := Nat.lt_of_lt_of_le (plc_lt ht) (stt_le _ _ _)
theorem plc_ne {t k z : Nat} (ht : t < M) (hk : k < M) (hz : g k = z) (h : g t < z ∨ (g t = z ∧ t < k)) : plc g M t ≠ plc g M k := by
  rcases h with h | ⟨h, h2⟩
  · have a := plc_lt (g := g) ht
    have b := stt_mono g M (show g t + 1 ≤ g k by omega)
    have c : stt g M (g k) ≤ plc g M k := Nat.le_add_right _ _
    omega
  · have a := cn_lt (fun i => decide (g i = g t)) h2 (by simp)
    unfold plc
    rw [show g k = g t from by omega]
    omega
theorem p_ord_in (hM : M ≤ 462) {z : Nat} (hz : z ≤ 5) (rc : Int32 → Int32 → SS → Option (Unit × SS)) (hg : ∀ t, t < M → g t ≤ 5) :
    ∀ j k m s, k + j = M → j < m → s.1 6 2 = nI M → (∀ t, t < M → s.1 63 t = nI (g t)) → Qo g M z k (s.1 66) →
      ∃ b, Qo g M z M b ∧ f_X10_orderBySize_c18 rc m (nI (stt g M z + cn (fun i => decide (g i = z)) k)) (nI z) (nI k) s = rc (nI (stt g M (z + 1))) (nI (z + 1)) (zI s 66 b) := by
  intro j
  induction j with
  | zero =>
    intro k m s hk hm h2 h63 hQ
    obtain ⟨m, rfl⟩ : ∃ m', m = m' + 1 := ⟨m - 1, by omega⟩
    have e : k = M := by omega
    subst e
    refine ⟨s.1 66, hQ, ?_⟩
    rw [f_X10_orderBySize_c18, h2, if_pos (nI_le (Nat.le_refl _) (by omega)), nI_1, ← stt_1, zI_self]
  | succ j ih =>
    intro k m s hk hm h2 h63 hQ
    obtain ⟨m, rfl⟩ : ∃ m', m = m' + 1 := ⟨m - 1, by omega⟩
    have hkM : k < M := by omega
    have hgk := hg k hkM
    rw [f_X10_orderBySize_c18, h2, if_neg (nI_ge (by omega) (by omega)), if_pos (zin_nI (by omega) (by decide)), nI_clamp (by omega), h63 k hkM]
    by_cases h : g k = z
    · have hp : stt g M z + cn (fun i => decide (g i = z)) k = plc g M k := by unfold plc; rw [h]
      have hpl := plc_M (g := g) hkM
      rw [if_pos (by rw [h]), hp, if_pos (zin_nI (by omega) (by decide)), nI_clamp (by omega), f_X10_orderBySize_c46, nI_1, nI_1]
      obtain ⟨b, hb, e⟩ := ih (k + 1) m (zS s 66 (plc g M k) (nI k)) (by omega) (by omega) (by rw [zS_ne _ _ _ (by decide), h2]) (by rw [zS_ne _ _ _ (by decide)]; exact h63) (by
        rw [zS_at]
        intro t ht hc
        unfold upd
        by_cases h3 : t = k
        · rw [h3, if_pos rfl]
        · have h4 : g t < z ∨ (g t = z ∧ t < k) := by omega
          rw [if_neg (plc_ne ht hkM h h4)]
          exact hQ t ht h4)
      refine ⟨b, hb, ?_⟩
      rw [cn, if_pos (by simp [h]), ← Nat.add_assoc, hp] at e
      rw [e, zS_eq, zI_zI]
    · rw [if_neg (fun q => h ((nI_eq (by omega) (by omega)).mp q)), f_X10_orderBySize_c46, nI_1]
      obtain ⟨b, hb, e⟩ := ih (k + 1) m s (by omega) (by omega) h2 h63 (by
        intro t ht hc
        refine hQ t ht ?_
        rcases hc with hc | hc
        · exact Or.inl hc
        · refine Or.inr ⟨hc.1, ?_⟩
          by_cases h3 : t = k
          · exact absurd (h3 ▸ hc.1) h
          · omega)
      refine ⟨b, hb, ?_⟩
      rw [cn, if_neg (by simp [h]), Nat.add_zero] at e
      exact e
theorem p_ord_out (hM : M ≤ 462) (hg : ∀ t, t < M → g t ≤ 5) :
    ∀ j z m s, z + j = 6 → j < m → s.1 6 2 = nI M → (∀ t, t < M → s.1 63 t = nI (g t)) → Qo g M z 0 (s.1 66) → (∀ y, y < z → s.1 67 y = nI (stt g M y)) →
      ∃ b st, ByS g M b st ∧ f_X10_orderBySize_c4 m (nI (stt g M z)) (nI z) s = some ((), zI (zI s 66 b) 67 st) := by
  intro j
  induction j with
  | zero =>
    intro z m s hz hm h2 h63 hQ hst
    obtain ⟨m, rfl⟩ : ∃ m', m = m' + 1 := ⟨m - 1, by omega⟩
    have e : z = 6 := by omega
    subst e
    refine ⟨s.1 66, upd (s.1 67) 6 (nI (stt g M 6)), ⟨fun y hy => ?_, fun t ht => hQ t ht (Or.inl (by have := hg t ht; omega))⟩, ?_⟩
    · unfold upd
      by_cases h : y = 6
      · rw [if_pos h, h]
      · rw [if_neg h]
        exact hst y (by omega)
    · rw [f_X10_orderBySize_c4, if_pos (by decide), if_pos (by decide), show ((6 : Int32)).toNatClampNeg = 6 from rfl, zI_self, zS_eq]
  | succ j ih =>
    intro z m s hz hm h2 h63 hQ hst
    obtain ⟨m, rfl⟩ : ∃ m', m = m' + 1 := ⟨m - 1, by omega⟩
    rw [f_X10_orderBySize_c4, if_neg (by rw [show (5 : Int32) = nI 5 from rfl]; exact fun q => absurd (nI_le (a := z) (b := 5) (by omega) (by decide)) (by rw [Int32.le_iff_toInt_le]; rw [Int32.lt_iff_toInt_lt] at q; omega)), if_pos (zin_nI (by omega) (by decide)), nI_clamp (by omega)]
    obtain ⟨b, hb, e⟩ := p_ord_in hM (z := z) (by omega) (f_X10_orderBySize_c4 m) hg M 0 ZF (zS s 67 z (nI (stt g M z))) (by omega) (by unfold ZF; omega) (by rw [zS_ne _ _ _ (by decide), h2]) (by rw [zS_ne _ _ _ (by decide)]; exact h63) (by rw [zS_ne _ _ _ (by decide)]; exact hQ)
    rw [cn, Nat.add_zero, nI_0] at e
    rw [e]
    obtain ⟨b2, st, h3, e2⟩ := ih (z + 1) m (zI (zS s 67 z (nI (stt g M z))) 66 b) (by omega) (by omega) (by rw [zI_ne _ _ (by decide), zS_ne _ _ _ (by decide), h2]) (by rw [zI_ne _ _ (by decide), zS_ne _ _ _ (by decide)]; exact h63) (by
      rw [zI_same]
      intro t ht hc
      exact hb t ht (by omega)) (by
      intro y hy
      rw [zI_ne _ _ (by decide), zS_at]
      unfold upd
      by_cases h : y = z
      · rw [if_pos h, h]
      · rw [if_neg h]; exact hst y (by omega))
    refine ⟨b2, st, h3, ?_⟩
    rw [e2, zS_eq, zI_zI, zI_comm (zI s 67 _) (by decide), zI_zI, zI_comm s (by decide)]
theorem p_order (hM : M ≤ 462) (hg : ∀ t, t < M → g t ≤ 5) {s : SS} (h2 : s.1 6 2 = nI M) (h63 : ∀ t, t < M → s.1 63 t = nI (g t)) : ∃ b st, ByS g M b st ∧ f_X10_orderBySize s = some ((), zI (zI s 66 b) 67 st) := by
  obtain ⟨b, st, h, e⟩ := p_ord_out hM hg 6 0 ZF s rfl (by unfold ZF; omega) h2 h63 (fun t _ hc => by omega) (fun y hy => by omega)
  rw [stt_0, nI_0] at e
  exact ⟨b, st, h, e⟩
end
