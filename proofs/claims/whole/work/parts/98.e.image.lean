section
variable {S S1 : Sh} {C C1 : Cl} {σ σ1 τ τ1 : SS}
/-! ===== a shape, classes taken over ===== -/
def TOv (σ : SS) (k0 r0 k1 r1 : Nat) : SS := zI (zI (zI (zS (zS (zS σ k0 0 (σ.1 k1 0)) k0 1 (σ.1 k1 1)) k0 2 (σ.1 k1 2)) r0 (va_cpy (σ.1 r1) (σ.1 r0) 0 0 3)) (r0 + 1) (va_cpy (σ.1 (r1 + 1)) (σ.1 (r0 + 1)) 0 0 3)) (r0 + 2) (va_cpy (σ.1 (r1 + 2)) (σ.1 (r0 + 2)) 0 0 3)
theorem p_to1 (σ : SS) : f_X7_takeOver 4 3 σ = some ((), TOv σ 4 18 3 15) := rfl
theorem p_to2 (σ : SS) : f_X7_takeOver 3 4 σ = some ((), TOv σ 3 15 4 18) := rfl
theorem to_fr (σ : SS) (k0 r0 k1 r1 : Nat) : FR [k0, r0, r0 + 1, r0 + 2] [] σ (TOv σ k0 r0 k1 r1) := ((((((FR.refl σ).sS (by simp) _ _).sS (by simp) _ _).sS (by simp) _ _).sI (by simp) _).sI (by simp) _).sI (by simp) _
theorem to_sh1 (h : ShC S 3 15 σ) : ShC S 4 18 (TOv σ 4 18 3 15) := by
  refine ⟨?_, ?_, ?_, fun k hk => ?_, fun k hk => ?_, fun k hk => ?_⟩
  · rw [← h.so]; simp [TOv, zI_1, zS_1]
  · rw [← h.f]; simp [TOv, zI_1, zS_1]
  · rw [← h.e]; simp [TOv, zI_1, zS_1]
  · rw [← h.dm k hk]; simp [TOv, zI_1, cpy_0, hk]
  · rw [← h.dg k hk]; simp [TOv, zI_1, cpy_0, hk]
  · rw [← h.gn k hk]; simp [TOv, zI_1, cpy_0, hk]
theorem to_sh2 (h : ShC S 4 18 σ) : ShC S 3 15 (TOv σ 3 15 4 18) := by
  refine ⟨?_, ?_, ?_, fun k hk => ?_, fun k hk => ?_, fun k hk => ?_⟩
  · rw [← h.so]; simp [TOv, zI_1, zS_1]
  · rw [← h.f]; simp [TOv, zI_1, zS_1]
  · rw [← h.e]; simp [TOv, zI_1, zS_1]
  · rw [← h.dm k hk]; simp [TOv, zI_1, cpy_0, hk]
  · rw [← h.dg k hk]; simp [TOv, zI_1, cpy_0, hk]
  · rw [← h.gn k hk]; simp [TOv, zI_1, cpy_0, hk]
theorem ZOx_14 {m : Nat} (h : m < 8) : zok Ox 4 14 (nI m) = true ∧ zrr Ox 14 (nI m) = 38 + m := by
  have : m = 0 ∨ m = 1 ∨ m = 2 ∨ m = 3 ∨ m = 4 ∨ m = 5 ∨ m = 6 ∨ m = 7 := by omega
  rcases this with rfl | rfl | rfl | rfl | rfl | rfl | rfl | rfl <;> exact ⟨rfl, rfl⟩
theorem ZOx_k2 {m : Nat} (h : m < 8) : zis Ox 4 (38 + m) = true ∧ zrf Ox (38 + m) 2 = 54 + m ∧ Ox (54 + m) = .inr (1, 462, []) := by
  have := ZOx_k (m := m + 8) (by omega)
  rw [show 30 + (m + 8) = 38 + m by omega, show 46 + (m + 8) = 54 + m by omega] at this
  exact this
def stC (σ : SS) (A TA B TB : Nat) : SS := zL (zS (zS σ A 0 (σ.1 B 0)) A 1 (σ.1 B 1)) TA (va_cpy (σ.2 TB) (σ.2 TA) 0 0 462)
theorem stC_k0 (σ : SS) {A TA B TB : Nat} : (stC σ A TA B TB).1 A 0 = σ.1 B 0 := by unfold stC; simp [zS_1, zL_1]
theorem stC_k1 (σ : SS) {A TA B TB : Nat} : (stC σ A TA B TB).1 A 1 = σ.1 B 1 := by unfold stC; simp [zS_1, zL_1]
theorem stC_t (σ : SS) {A TA B TB t : Nat} (ht : t < 462) : (stC σ A TA B TB).2 TA t = σ.2 TB t := by unfold stC; rw [zL_same, cpy_0, if_pos ht]
theorem p_c21a {i n : Nat} (hi : i < 8) {mm : Nat} (hm : σ.1 2 2 = nI mm) (hmm : i < mm) (h8 : mm ≤ 8) : f_X3_takeOver_c21 (n + 1) 2 1 (nI i) σ = f_X3_takeOver_c21 n 2 1 (nI (i + 1)) (stC σ (38 + i) (54 + i) (30 + i) (46 + i)) := by
  obtain ⟨a1, a2⟩ := ZOx_13 hi
  obtain ⟨b1, b2⟩ := ZOx_14 hi
  obtain ⟨c1, c2, c3⟩ := ZOx_k (m := i) (by omega)
  obtain ⟨d1, d2, d3⟩ := ZOx_k2 hi
  have e1 : (zS σ (38 + i) 0 (σ.1 (30 + i) 0)).1 (30 + i) 1 = σ.1 (30 + i) 1 := by rw [zS_1, if_neg (by omega)]
  rw [f_X3_takeOver_c21, if_pos (show zis Ox 3 2 = true from rfl), if_pos (show zis Ox 3 1 = true from rfl), hm, if_neg (nI_ge hmm (by omega)), show zrf Ox 2 1 = 14 from rfl, show zrf Ox 1 1 = 13 from rfl, a2, b2, if_pos b1, if_pos d1, if_pos a1, if_pos c1, if_pos b1, if_pos d1, if_pos a1, if_pos c1, if_pos a1, if_pos c1, if_pos b1, if_pos d1, c2, d2, if_pos (show zok2 Ox 1 (46 + i) 0 (54 + i) 0 462 = true from zok2_n (b := 462) c3 d3 (by decide) (by decide) (by decide)), nI_1, e1]
  rfl
theorem p_c21b {i n : Nat} (hi : i < 8) {mm : Nat} (hm : σ.1 1 2 = nI mm) (hmm : i < mm) (h8 : mm ≤ 8) : f_X3_takeOver_c21 (n + 1) 1 2 (nI i) σ = f_X3_takeOver_c21 n 1 2 (nI (i + 1)) (stC σ (30 + i) (46 + i) (38 + i) (54 + i)) := by
  obtain ⟨a1, a2⟩ := ZOx_13 hi
  obtain ⟨b1, b2⟩ := ZOx_14 hi
  obtain ⟨c1, c2, c3⟩ := ZOx_k (m := i) (by omega)
  obtain ⟨d1, d2, d3⟩ := ZOx_k2 hi
  have e1 : (zS σ (30 + i) 0 (σ.1 (38 + i) 0)).1 (38 + i) 1 = σ.1 (38 + i) 1 := by rw [zS_1, if_neg (by omega)]
  rw [f_X3_takeOver_c21, if_pos (show zis Ox 3 1 = true from rfl), if_pos (show zis Ox 3 2 = true from rfl), hm, if_neg (nI_ge hmm (by omega)), show zrf Ox 2 1 = 14 from rfl, show zrf Ox 1 1 = 13 from rfl, a2, b2, if_pos a1, if_pos c1, if_pos b1, if_pos d1, if_pos a1, if_pos c1, if_pos b1, if_pos d1, if_pos b1, if_pos d1, if_pos a1, if_pos c1, c2, d2, if_pos (show zok2 Ox 1 (54 + i) 0 (46 + i) 0 462 = true from zok2_n (b := 462) d3 c3 (by decide) (by decide) (by decide)), nI_1, e1]
  rfl
theorem k_takeK (hS : ShOk S) (hC : ClOk C) (h0 : ClC S C 30 46 σ) (hm : σ.1 2 2 = nI C.mm) : ∃ σ1, f_X3_takeOver_c21 ZF 2 1 0 σ = some ((), σ1) ∧ ClC S C 38 54 σ1 ∧ FR [38, 39, 40, 41, 42, 43, 44, 45] [54, 55, 56, 57, 58, 59, 60, 61] σ σ1 := by
  have h8 := hC.m8
  have hM : S.M ≤ 462 := (cM_pos hS.ln).2
  have key : ∀ j i n σ, ClC S C 30 46 σ → σ.1 2 2 = nI C.mm → (∀ m, m < i → σ.1 (38 + m) 0 = nI (C.kd m) ∧ σ.1 (38 + m) 1 = nI (C.fg m) ∧ ∀ t, t < S.M → σ.2 (54 + m) t = C.tl m t) → i + j = C.mm → j < n → ∃ σ1, f_X3_takeOver_c21 n 2 1 (nI i) σ = some ((), σ1) ∧ ClC S C 38 54 σ1 ∧ FR [38, 39, 40, 41, 42, 43, 44, 45] [54, 55, 56, 57, 58, 59, 60, 61] σ σ1 := by
    intro j
    induction j with
    | zero =>
      intro i n σ h0 hm hd hi hn
      obtain ⟨n, rfl⟩ : ∃ m', n = m' + 1 := ⟨n - 1, by omega⟩
      have : i = C.mm := by omega
      subst this
      exact ⟨σ, by rw [f_X3_takeOver_c21, if_pos (show zis Ox 3 2 = true from rfl), if_pos (show zis Ox 3 1 = true from rfl), hm, if_pos (nI_le (by omega) (by omega))], ⟨fun m h => (hd m h).1, fun m h => (hd m h).2.1, fun m h => (hd m h).2.2⟩, FR.refl σ⟩
    | succ j ih =>
      intro i n σ h0 hm hd hi hn
      obtain ⟨n, rfl⟩ : ∃ m', n = m' + 1 := ⟨n - 1, by omega⟩
      have F : FR [38, 39, 40, 41, 42, 43, 44, 45] [54, 55, 56, 57, 58, 59, 60, 61] σ (stC σ (38 + i) (54 + i) (30 + i) (46 + i)) := (((FR.refl σ).sS (by simp; omega) _ _).sS (by simp; omega) _ _).sL (by simp; omega) _
      rw [p_c21a (show i < 8 by omega) hm (by omega) h8]
      obtain ⟨σ1, e1, c1, F1⟩ := ih (i + 1) n _ (h0.fr hC F (fun m hm => by simp; omega) (fun m hm => by simp; omega)) (by rw [F.1 2 (by decide)]; exact hm) (fun m h => by
        by_cases q : m = i
        · subst q
          exact ⟨by rw [stC_k0]; exact h0.kd m (by omega), by rw [stC_k1]; exact h0.fg m (by omega), fun t ht => by rw [stC_t _ (by omega)]; exact h0.tl m (by omega) t ht⟩
        · have e1 : (stC σ (38 + i) (54 + i) (30 + i) (46 + i)).1 (38 + m) = σ.1 (38 + m) := by
            unfold stC
            rw [zL_1]
            funext b
            rw [zS_1, if_neg (by omega), zS_1, if_neg (by omega)]
          have e2 : (stC σ (38 + i) (54 + i) (30 + i) (46 + i)).2 (54 + m) = σ.2 (54 + m) := by
            unfold stC
            rw [zL_ne' _ _ (by omega)]
            rfl
          rw [e1, e2]
          exact hd m (by omega)) (by omega) (by omega)
      exact ⟨σ1, e1, c1, F.trans F1⟩
  obtain ⟨σ1, e, h⟩ := key C.mm 0 ZF σ h0 hm (fun m h => absurd h (by omega)) (by omega) (by unfold ZF; omega)
  rw [nI_0] at e
  exact ⟨σ1, e, h⟩
theorem k_takeN (hS : ShOk S) (hC : ClOk C) (h0 : ClC S C 38 54 σ) (hm : σ.1 1 2 = nI C.mm) : ∃ σ1, f_X3_takeOver_c21 ZF 1 2 0 σ = some ((), σ1) ∧ ClC S C 30 46 σ1 ∧ FR [30, 31, 32, 33, 34, 35, 36, 37] [46, 47, 48, 49, 50, 51, 52, 53] σ σ1 := by
  have h8 := hC.m8
  have hM : S.M ≤ 462 := (cM_pos hS.ln).2
  have key : ∀ j i n σ, ClC S C 38 54 σ → σ.1 1 2 = nI C.mm → (∀ m, m < i → σ.1 (30 + m) 0 = nI (C.kd m) ∧ σ.1 (30 + m) 1 = nI (C.fg m) ∧ ∀ t, t < S.M → σ.2 (46 + m) t = C.tl m t) → i + j = C.mm → j < n → ∃ σ1, f_X3_takeOver_c21 n 1 2 (nI i) σ = some ((), σ1) ∧ ClC S C 30 46 σ1 ∧ FR [30, 31, 32, 33, 34, 35, 36, 37] [46, 47, 48, 49, 50, 51, 52, 53] σ σ1 := by
    intro j
    induction j with
    | zero =>
      intro i n σ h0 hm hd hi hn
      obtain ⟨n, rfl⟩ : ∃ m', n = m' + 1 := ⟨n - 1, by omega⟩
      have : i = C.mm := by omega
      subst this
      exact ⟨σ, by rw [f_X3_takeOver_c21, if_pos (show zis Ox 3 1 = true from rfl), if_pos (show zis Ox 3 2 = true from rfl), hm, if_pos (nI_le (by omega) (by omega))], ⟨fun m h => (hd m h).1, fun m h => (hd m h).2.1, fun m h => (hd m h).2.2⟩, FR.refl σ⟩
    | succ j ih =>
      intro i n σ h0 hm hd hi hn
      obtain ⟨n, rfl⟩ : ∃ m', n = m' + 1 := ⟨n - 1, by omega⟩
      have F : FR [30, 31, 32, 33, 34, 35, 36, 37] [46, 47, 48, 49, 50, 51, 52, 53] σ (stC σ (30 + i) (46 + i) (38 + i) (54 + i)) := (((FR.refl σ).sS (by simp; omega) _ _).sS (by simp; omega) _ _).sL (by simp; omega) _
      rw [p_c21b (show i < 8 by omega) hm (by omega) h8]
      obtain ⟨σ1, e1, c1, F1⟩ := ih (i + 1) n _ (h0.fr hC F (fun m hm => by simp; omega) (fun m hm => by simp; omega)) (by rw [F.1 1 (by decide)]; exact hm) (fun m h => by
        by_cases q : m = i
        · subst q
          exact ⟨by rw [stC_k0]; exact h0.kd m (by omega), by rw [stC_k1]; exact h0.fg m (by omega), fun t ht => by rw [stC_t _ (by omega)]; exact h0.tl m (by omega) t ht⟩
        · have e1 : (stC σ (30 + i) (46 + i) (38 + i) (54 + i)).1 (30 + m) = σ.1 (30 + m) := by
            unfold stC
            rw [zL_1]
            funext b
            rw [zS_1, if_neg (by omega), zS_1, if_neg (by omega)]
          have e2 : (stC σ (30 + i) (46 + i) (38 + i) (54 + i)).2 (46 + m) = σ.2 (46 + m) := by
            unfold stC
            rw [zL_ne' _ _ (by omega)]
            rfl
          rw [e1, e2]
          exact hd m (by omega)) (by omega) (by omega)
      exact ⟨σ1, e1, c1, F.trans F1⟩
  obtain ⟨σ1, e, h⟩ := key C.mm 0 ZF σ h0 hm (fun m h => absurd h (by omega)) (by omega) (by unfold ZF; omega)
  rw [nI_0] at e
  exact ⟨σ1, e, h⟩
end
