/-! ===== a TERM's letters: of FACTORS alone ===== -/
def plain (S : Sh) (c : Nat) : Prop := ∀ k, k < S.L → S.f ≤ k → dig c k = 0
theorem sm_plain (c f : Nat) : ∀ L, sm (fun k => if f ≤ k then 0 else dig c k) L ≤ sm (dig c) L ∧ (sm (fun k => if f ≤ k then 0 else dig c k) L = sm (dig c) L ↔ ∀ k, k < L → f ≤ k → dig c k = 0)
  | 0 => ⟨Nat.le_refl _, ⟨fun _ k hk => by omega, fun _ => rfl⟩⟩
  | L + 1 => by
    obtain ⟨h1, h2⟩ := sm_plain c f L
    rw [sm, sm]
    by_cases h : f ≤ L
    · rw [if_pos h]
      refine ⟨by omega, ⟨fun q k hk hf => ?_, fun q => ?_⟩⟩
      · by_cases e : k = L
        · subst e; omega
        · exact h2.mp (by omega) k (by omega) hf
      · rw [h2.mpr (fun k hk hf => q k (by omega) hf), q L (by omega) h]
    · rw [if_neg h]
      refine ⟨by omega, ⟨fun q k hk hf => ?_, fun q => ?_⟩⟩
      · by_cases e : k = L
        · subst e; omega
        · exact h2.mp (by omega) k (by omega) hf
      · rw [h2.mpr (fun k hk hf => q k (by omega) hf)]
theorem plb_iff {S : Sh} {c : Nat} (hS : ShOk S) (hc : c < 10 ^ S.L) : plb S c = 0 ↔ ¬ plain S c := by
  unfold plb plain
  rw [← sm_sz hc hS.ln.2.1]
  have h := (sm_plain c S.f S.L).2
  by_cases q : ∀ k, k < S.L → S.f ≤ k → dig c k = 0
  · rw [if_pos (h.mpr q)]
    exact ⟨fun a => absurd a (by decide), fun a => absurd q a⟩
  · rw [if_neg (fun a => q (h.mp a))]
    exact ⟨fun _ => q, fun _ => rfl⟩
theorem in_abc : ∀ v, v < 130 → ((lg_cmp (nI v).toInt64 97) < 0 ↔ v < 97) ∧ (0 < lg_cmp (nI v).toInt64 99 ↔ 99 < v) := by decide +kernel
/-- the sign of a LETTER -/
def sgn (S : Sh) (k : Nat) : Nat := if k < S.f then 97 + k else if S.so = 2 then 118 else if S.so = 0 then 112 + (k - S.f) else 117 + (k - S.f)
section
variable {S : Sh} {τ : SS} {c : Nat}
theorem pm_nameOf (hS : ShOk S) (h : ShM S τ) {k : Nat} (hk : k < 8) : f_X12_nameOf (nI k) τ = some (nI (sgn S k), τ) := by
  have hso := hS.so
  have hf1 := hS.f1
  have hf3 := hS.f3
  have hc : S.so = 0 ∨ S.so = 1 ∨ S.so = 2 := by omega
  rw [f_X12_nameOf, h.so]
  unfold sgn
  rcases hc with q | q | q
  · rw [q, if_neg (show ¬ nI 0 = 2 by decide), if_neg (show ¬ nI 0 = 1 by decide), h.f q]
    by_cases h1 : k < S.f
    · rw [if_neg (nI_ge h1 (by omega)), if_pos h1, show (97 : Int32) = nI 97 from rfl, nI_add]
    · rw [if_pos (nI_le (by omega) (by omega)), if_neg h1, show (112 : Int32) = nI 112 from rfl, nI_add, pk_sub (by omega), if_neg (by decide), if_pos rfl]
      congr 2
      congr 1
      omega
  · have e := hS.cur (by omega)
    rw [q, if_neg (show ¬ nI 1 = 2 by decide), if_pos (show nI 1 = 1 from rfl), e]
    by_cases h1 : k = 0
    · subst h1
      rfl
    · rw [if_neg (show ¬ nI k = 0 from fun a => h1 ((nI_eq (b := 0) (by omega) (by decide)).mp a)), if_neg (show ¬ k < 1 by omega), show (116 : Int32) = nI 116 from rfl, nI_add, if_neg (by decide), if_neg (by decide)]
      congr 2
      congr 1
      omega
  · have e := hS.cur (by omega)
    rw [q, if_pos (show nI 2 = 2 from rfl), e]
    by_cases h1 : k = 0
    · subst h1
      rfl
    · rw [if_neg (show ¬ nI k = 0 from fun a => h1 ((nI_eq (b := 0) (by omega) (by decide)).mp a)), if_neg (show ¬ k < 1 by omega), if_pos rfl]
      rfl
theorem sgn_lt (hS : ShOk S) {k : Nat} (hk : k < 8) : sgn S k < 130 ∧ 97 ≤ sgn S k ∧ (sgn S k ≤ 99 ↔ k < S.f) := by
  have hf3 := hS.f3
  unfold sgn
  by_cases h : k < S.f
  · rw [if_pos h]; omega
  · rw [if_neg h]
    split
    · omega
    · split <;> omega
theorem pm_isPlain_c (hS : ShOk S) (h : ShM S τ) (hc : c < 2 ^ 31) : ∀ j k m, k + j = S.L → j < m → f_X12_isPlain_c2 m (nI c) (nI k) τ = some (if (∀ i, i < S.L → k ≤ i → S.f ≤ i → dig c i = 0) then 1 else 0, τ) := by
  have hL := hS.ln.2.1
  intro j
  induction j with
  | zero =>
    intro k m hk hm
    obtain ⟨m, rfl⟩ : ∃ m', m = m' + 1 := ⟨m - 1, by omega⟩
    rw [f_X12_isPlain_c2, pm_letters hS h, zbd_s, if_pos (nI_le (by omega) (by omega)), if_pos (fun i h1 h2 h3 => by omega)]
  | succ j ih =>
    intro k m hk hm
    obtain ⟨m, rfl⟩ : ∃ m', m = m' + 1 := ⟨m - 1, by omega⟩
    have hd := dig_lt c k
    have e := ih (k + 1) m (by omega) (by omega)
    obtain ⟨s1, s2, s3⟩ := sgn_lt hS (k := k) (by omega)
    rw [f_X12_isPlain_c2, pm_letters hS h, zbd_s, if_neg (nI_ge (by omega) (by omega)), p_powerIn hc (by omega), zbd_s, pm_nameOf hS h (by omega), zbd_s, f_X12_in, f_X12_isPlain_c38, nI_1]
    have e38 : f_X12_isPlain_c38 (f_X12_isPlain_c2 m) (nI c) (nI k) τ = f_X12_isPlain_c2 m (nI c) (nI (k + 1)) τ := by rw [f_X12_isPlain_c38, nI_1]
    have key : (¬ (dig c k ≠ 0 ∧ S.f ≤ k)) → ((∀ i, i < S.L → k + 1 ≤ i → S.f ≤ i → dig c i = 0) ↔ (∀ i, i < S.L → k ≤ i → S.f ≤ i → dig c i = 0)) := fun hn => by
      refine ⟨fun q i h1 h2 h3 => ?_, fun q i h1 h2 h3 => q i h1 (by omega) h3⟩
      by_cases e2 : i = k
      · subst e2
        exact Decidable.byContradiction fun q2 => hn ⟨q2, h3⟩
      · exact q i h1 (by omega) h3
    by_cases h0 : dig c k = 0
    · rw [if_pos ((nI_pos1 (by omega)).mpr h0), e]
      simp only [key (fun q => q.1 h0)]
    · rw [if_neg (fun q => h0 ((nI_pos1 (by omega)).mp q)), if_neg (fun q => by have := (in_abc _ s1).1.mp q; omega)]
      by_cases h1 : k < S.f
      · rw [if_neg (fun q => by have := (in_abc _ s1).2.mp q; omega), zbd_s, if_neg (by decide), e38, e]
        simp only [key (fun q => by omega)]
      · rw [if_pos ((in_abc _ s1).2.mpr (by omega)), zbd_s, if_pos rfl, if_neg (fun q => h0 (q k (by omega) (Nat.le_refl _) (by omega)))]
theorem pm_isPlain (hS : ShOk S) (h : ShM S τ) (hc : c < 2 ^ 31) (hc2 : c < 10 ^ S.L) : f_X12_isPlain (nI c) τ = some (plb S c, τ) := by
  have e := pm_isPlain_c hS h hc S.L 0 ZF (by omega) (by have := hS.ln.2.1; unfold ZF; omega)
  rw [nI_0] at e
  rw [f_X12_isPlain, e]
  have hp := plb_iff hS hc2
  by_cases q : plain S c
  · rw [if_pos (fun i h1 _ h3 => q i h1 h3)]
    have : plb S c = 1 := by
      unfold plb at hp ⊢
      split
      · rfl
      · rename_i a
        rw [if_neg a] at hp
        exact absurd q (hp.mp rfl)
    rw [this]
  · rw [if_neg (fun a => q (fun i h1 h3 => a i h1 (Nat.zero_le _) h3)), hp.mpr q]
end
