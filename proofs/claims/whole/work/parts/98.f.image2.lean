section
variable {S S1 : Sh} {C C1 : Cl} {σ σ1 τ τ1 : SS}
theorem km_inI (T : TmM S τ) (hS : ShOk S) (rc : Int32 → SS → Option (Int32 × SS)) {m : Nat} (hm : m < 8) : ∃ f, f_X12_image_c130 rc ZF (nI m) 0 τ = rc (nI (m + 1)) (zL τ 31 f) ∧ (∀ t, t < S.M → f (462 * m + t) = τ.2 10 (462 * m + t)) ∧ ∀ q, (q < 462 * m ∨ 462 * m + S.M ≤ q) → f q = τ.2 31 q := by
  have hM1 : S.M ≤ 462 := (cM_pos hS.ln).2
  have key : ∀ j i n f, i + j = S.M → j < n → (∀ t, t < i → f (462 * m + t) = τ.2 10 (462 * m + t)) → (∀ q, (q < 462 * m ∨ 462 * m + S.M ≤ q) → f q = τ.2 31 q) → ∃ f', f_X12_image_c130 rc n (nI m) (nI i) (zL τ 31 f) = rc (nI (m + 1)) (zL τ 31 f') ∧ (∀ t, t < S.M → f' (462 * m + t) = τ.2 10 (462 * m + t)) ∧ ∀ q, (q < 462 * m ∨ 462 * m + S.M ≤ q) → f' q = τ.2 31 q := by
    intro j
    induction j with
    | zero =>
      intro i n f hi hn hf hf2
      obtain ⟨n, rfl⟩ : ∃ m', n = m' + 1 := ⟨n - 1, by omega⟩
      exact ⟨f, by rw [f_X12_image_c130, zL_1, T.M, if_pos (nI_le (by omega) (by omega)), nI_1], fun t ht => hf t (by omega), hf2⟩
    | succ j ih =>
      intro i n f hi hn hf hf2
      obtain ⟨n, rfl⟩ : ∃ m', n = m' + 1 := ⟨n - 1, by omega⟩
      have z := zin_nI (show 462 * m + i < 3696 by omega) (show 3696 ≤ 2 ^ 31 by decide)
      rw [f_X12_image_c130, zL_1, T.M, if_neg (nI_ge (by omega) (by omega)), show (462 : Int32) = nI 462 from rfl, pk_mul, nI_add, if_pos z, if_pos z, nI_clamp (by omega), nI_1, zSL_eq, zL_zL, zL_same, zL_ne' _ _ (show (10 : Nat) ≠ 31 by decide)]
      refine ih (i + 1) n _ (by omega) (by omega) (fun t ht => ?_) (fun q hq => ?_)
      · by_cases q : t = i
        · rw [q, pk_uLs]
        · rw [pk_uLn (by omega)]; exact hf t (by omega)
      · rw [pk_uLn (by omega)]; exact hf2 q hq
  obtain ⟨f, e, hf, hf2⟩ := key S.M 0 ZF (τ.2 31) (by omega) (by unfold ZF; omega) (fun t ht => absurd ht (by omega)) (fun q _ => rfl)
  rw [nI_0, zL_self] at e
  exact ⟨f, e, hf, hf2⟩
theorem km_clsI (hS : ShOk S) (hC : ClOk C) : ∀ j i n τ, TmM S τ → τ.1 0 12 = nI C.mm → (∀ m, m < C.mm → τ.1 8 m = nI (C.kd m)) → (∀ m, m < C.mm → τ.1 9 m = nI (C.fg m)) → (∀ m, m < C.mm → ∀ t, t < S.M → τ.2 10 (462 * m + t) = C.tl m t) →
    (∀ m, m < i → τ.1 29 m = nI (C.kd m) ∧ τ.1 30 m = nI (C.fg m) ∧ ∀ t, t < S.M → τ.2 31 (462 * m + t) = C.tl m t) → i + j = C.mm → j < n →
    ∃ τ1, f_X12_image_c96 n (nI i) τ = some (nI C.mm, τ1) ∧ (∀ m, m < C.mm → τ1.1 29 m = nI (C.kd m) ∧ τ1.1 30 m = nI (C.fg m) ∧ ∀ t, t < S.M → τ1.2 31 (462 * m + t) = C.tl m t) ∧ FM [] [29, 30] [31] τ τ1 := by
  have h8 := hC.m8
  have hM : S.M ≤ 462 := (cM_pos hS.ln).2
  intro j
  induction j with
  | zero =>
    intro i n τ T hm h1 h2 h3 hd hi hn
    obtain ⟨n, rfl⟩ : ∃ m', n = m' + 1 := ⟨n - 1, by omega⟩
    have : i = C.mm := by omega
    subst this
    exact ⟨τ, by rw [f_X12_image_c96, hm, if_pos (nI_le (by omega) (by omega))], hd, FM.refl τ⟩
  | succ j ih =>
    intro i n τ T hm h1 h2 h3 hd hi hn
    obtain ⟨n, rfl⟩ : ∃ m', n = m' + 1 := ⟨n - 1, by omega⟩
    have z := zin_nI (show i < 8 by omega) (show 8 ≤ 2 ^ 31 by decide)
    have G1 : FM [] [29, 30] [31] τ (zS (zS τ 29 i (τ.1 8 i)) 30 i (τ.1 9 i)) := ((FM.refl τ).sS (by decide) (by simp) _ _).sS (by decide) (by simp) _ _
    have e1 : (zS τ 29 i (τ.1 8 i)).1 9 i = τ.1 9 i := by rw [zS_1, if_neg (fun q => absurd q.1 (by decide))]
    rw [f_X12_image_c96, hm, if_neg (nI_ge (by omega) (by omega)), if_pos z, if_pos z, if_pos z, if_pos z, nI_clamp (by omega), e1]
    obtain ⟨f, e, hf, hf2⟩ := km_inI (T.fm G1 (by decide) (by decide) (by decide) (by decide) (by decide)) hS (f_X12_image_c96 n) (show i < 8 by omega)
    have G2 := G1.sL (show 31 ∈ [31] by simp) f
    rw [e]
    obtain ⟨τ1, e4, h5, G3⟩ := ih (i + 1) n _ (T.fm G2 (by decide) (by decide) (by decide) (by decide) (by decide)) (by rw [G2.o 12 (by decide)]; exact hm) (fun m hm => by rw [G2.i 8 (by decide) (by decide)]; exact h1 m hm) (fun m hm => by rw [G2.i 9 (by decide) (by decide)]; exact h2 m hm) (fun m hm t ht => by rw [G2.l 10 (by decide)]; exact h3 m hm t ht) (fun m hm => by
      by_cases q : m = i
      · subst q
        refine ⟨?_, ?_, fun t ht => ?_⟩
        · rw [zL_1, zS_1, if_neg (fun q => absurd q.1 (by decide)), zS_1, if_pos ⟨rfl, rfl⟩]; exact h1 m (by omega)
        · rw [zL_1, zS_1, if_pos ⟨rfl, rfl⟩]; exact h2 m (by omega)
        · rw [zL_same, hf t ht, G1.l 10 (by decide)]; exact h3 m (by omega) t ht
      · obtain ⟨d1, d2, d3⟩ := hd m (by omega)
        refine ⟨?_, ?_, fun t ht => ?_⟩
        · rw [zL_1, zS_1, if_neg (fun w => q w.2), zS_1, if_neg (fun w => q w.2)]; exact d1
        · rw [zL_1, zS_1, if_neg (fun w => q w.2), zS_1, if_neg (fun w => q w.2)]; exact d2
        · rw [zL_same, hf2 _ (by omega)]; exact d3 t ht) (by omega) (by omega)
    exact ⟨τ1, e4, h5, G2.trans G3⟩
theorem km_rowsI : ∀ j i n τ, (∀ k, k < i → τ.1 26 k = τ.1 1 k ∧ τ.1 27 k = τ.1 2 k ∧ τ.1 28 k = τ.1 3 k) → i + j = 3 → j < n →
    ∃ τ1, f_X12_image_c39 n (nI i) τ = f_X12_image_c96 ZF 0 (zS τ1 0 44 (τ1.1 0 12)) ∧ (∀ k, k < 3 → τ1.1 26 k = τ1.1 1 k ∧ τ1.1 27 k = τ1.1 2 k ∧ τ1.1 28 k = τ1.1 3 k) ∧ FM [] [26, 27, 28] [] τ τ1 := by
  intro j
  induction j with
  | zero =>
    intro i n τ hd hi hn
    obtain ⟨n, rfl⟩ : ∃ m', n = m' + 1 := ⟨n - 1, by omega⟩
    have : i = 3 := by omega
    subst this
    exact ⟨τ, by rw [f_X12_image_c39, if_pos (show (3 : Int32) ≤ nI 3 by decide)], hd, FM.refl τ⟩
  | succ j ih =>
    intro i n τ hd hi hn
    obtain ⟨n, rfl⟩ : ∃ m', n = m' + 1 := ⟨n - 1, by omega⟩
    have z := zin_nI (show i < 3 by omega) (show 3 ≤ 2 ^ 31 by decide)
    have e2 : (zS τ 26 i (τ.1 1 i)).1 2 i = τ.1 2 i := by rw [zS_1, if_neg (fun q => absurd q.1 (by decide))]
    have e3 : (zS (zS τ 26 i (τ.1 1 i)) 27 i (τ.1 2 i)).1 3 i = τ.1 3 i := by rw [zS_1, if_neg (fun q => absurd q.1 (by decide)), zS_1, if_neg (fun q => absurd q.1 (by decide))]
    have G1 : FM [] [26, 27, 28] [] τ (zS (zS (zS τ 26 i (τ.1 1 i)) 27 i (τ.1 2 i)) 28 i (τ.1 3 i)) := (((FM.refl τ).sS (by decide) (by simp) _ _).sS (by decide) (by simp) _ _).sS (by decide) (by simp) _ _
    rw [f_X12_image_c39, if_neg (n3 i (by omega)), if_pos z, if_pos z, if_pos z, if_pos z, if_pos z, if_pos z, nI_clamp (by omega), e2, e3, nI_1]
    obtain ⟨τ1, e4, h5, G3⟩ := ih (i + 1) n (zS (zS (zS τ 26 i (τ.1 1 i)) 27 i (τ.1 2 i)) 28 i (τ.1 3 i)) (fun k hk => by
      rw [G1.i 1 (by decide) (by decide), G1.i 2 (by decide) (by decide), G1.i 3 (by decide) (by decide)]
      simp only [zS_1]
      by_cases q : k = i
      · simp [q]
      · simp [q]
        exact hd k (by omega)) (by omega) (by omega)
    exact ⟨τ1, e4, h5, G1.trans G3⟩
theorem km_inB (T : TmM S τ) (hS : ShOk S) (rc : Int32 → SS → Option (Int32 × SS)) {m : Nat} (hm : m < 8) : ∃ f, f_X12_back_c144 rc ZF (nI m) 0 τ = rc (nI (m + 1)) (zL τ 10 f) ∧ (∀ t, t < S.M → f (462 * m + t) = τ.2 31 (462 * m + t)) ∧ ∀ q, (q < 462 * m ∨ 462 * m + S.M ≤ q) → f q = τ.2 10 q := by
  have hM1 : S.M ≤ 462 := (cM_pos hS.ln).2
  have key : ∀ j i n f, i + j = S.M → j < n → (∀ t, t < i → f (462 * m + t) = τ.2 31 (462 * m + t)) → (∀ q, (q < 462 * m ∨ 462 * m + S.M ≤ q) → f q = τ.2 10 q) → ∃ f', f_X12_back_c144 rc n (nI m) (nI i) (zL τ 10 f) = rc (nI (m + 1)) (zL τ 10 f') ∧ (∀ t, t < S.M → f' (462 * m + t) = τ.2 31 (462 * m + t)) ∧ ∀ q, (q < 462 * m ∨ 462 * m + S.M ≤ q) → f' q = τ.2 10 q := by
    intro j
    induction j with
    | zero =>
      intro i n f hi hn hf hf2
      obtain ⟨n, rfl⟩ : ∃ m', n = m' + 1 := ⟨n - 1, by omega⟩
      exact ⟨f, by rw [f_X12_back_c144, zL_1, T.M, if_pos (nI_le (by omega) (by omega)), nI_1], fun t ht => hf t (by omega), hf2⟩
    | succ j ih =>
      intro i n f hi hn hf hf2
      obtain ⟨n, rfl⟩ : ∃ m', n = m' + 1 := ⟨n - 1, by omega⟩
      have z := zin_nI (show 462 * m + i < 3696 by omega) (show 3696 ≤ 2 ^ 31 by decide)
      rw [f_X12_back_c144, zL_1, T.M, if_neg (nI_ge (by omega) (by omega)), show (462 : Int32) = nI 462 from rfl, pk_mul, nI_add, if_pos z, if_pos z, nI_clamp (by omega), nI_1, zSL_eq, zL_zL, zL_same, zL_ne' _ _ (show (31 : Nat) ≠ 10 by decide)]
      refine ih (i + 1) n _ (by omega) (by omega) (fun t ht => ?_) (fun q hq => ?_)
      · by_cases q : t = i
        · rw [q, pk_uLs]
        · rw [pk_uLn (by omega)]; exact hf t (by omega)
      · rw [pk_uLn (by omega)]; exact hf2 q hq
  obtain ⟨f, e, hf, hf2⟩ := key S.M 0 ZF (τ.2 10) (by omega) (by unfold ZF; omega) (fun t ht => absurd ht (by omega)) (fun q _ => rfl)
  rw [nI_0, zL_self] at e
  exact ⟨f, e, hf, hf2⟩
theorem km_clsB (hS : ShOk S) (hC : ClOk C) : ∀ j i n τ, TmM S τ → τ.1 0 12 = nI C.mm → (∀ m, m < C.mm → τ.1 29 m = nI (C.kd m)) → (∀ m, m < C.mm → τ.1 30 m = nI (C.fg m)) → (∀ m, m < C.mm → ∀ t, t < S.M → τ.2 31 (462 * m + t) = C.tl m t) →
    (∀ m, m < i → τ.1 8 m = nI (C.kd m) ∧ τ.1 9 m = nI (C.fg m) ∧ ∀ t, t < S.M → τ.2 10 (462 * m + t) = C.tl m t) → i + j = C.mm → j < n →
    ∃ τ1, f_X12_back_c110 n (nI i) τ = zbd (f_X12_forget τ1) (fun _ s5 => some ((s5.1 0 12), s5)) ∧ (∀ m, m < C.mm → τ1.1 8 m = nI (C.kd m) ∧ τ1.1 9 m = nI (C.fg m) ∧ ∀ t, t < S.M → τ1.2 10 (462 * m + t) = C.tl m t) ∧ FM [] [8, 9] [10] τ τ1 := by
  have h8 := hC.m8
  have hM : S.M ≤ 462 := (cM_pos hS.ln).2
  intro j
  induction j with
  | zero =>
    intro i n τ T hm h1 h2 h3 hd hi hn
    obtain ⟨n, rfl⟩ : ∃ m', n = m' + 1 := ⟨n - 1, by omega⟩
    have : i = C.mm := by omega
    subst this
    exact ⟨τ, by rw [f_X12_back_c110, hm, if_pos (nI_le (by omega) (by omega))], hd, FM.refl τ⟩
  | succ j ih =>
    intro i n τ T hm h1 h2 h3 hd hi hn
    obtain ⟨n, rfl⟩ : ∃ m', n = m' + 1 := ⟨n - 1, by omega⟩
    have z := zin_nI (show i < 8 by omega) (show 8 ≤ 2 ^ 31 by decide)
    have G1 : FM [] [8, 9] [10] τ (zS (zS τ 8 i (τ.1 29 i)) 9 i (τ.1 30 i)) := ((FM.refl τ).sS (by decide) (by simp) _ _).sS (by decide) (by simp) _ _
    have e1 : (zS τ 8 i (τ.1 29 i)).1 30 i = τ.1 30 i := by rw [zS_1, if_neg (fun q => absurd q.1 (by decide))]
    rw [f_X12_back_c110, hm, if_neg (nI_ge (by omega) (by omega)), if_pos z, if_pos z, if_pos z, if_pos z, nI_clamp (by omega), e1]
    obtain ⟨f, e, hf, hf2⟩ := km_inB (T.fm G1 (by decide) (by decide) (by decide) (by decide) (by decide)) hS (f_X12_back_c110 n) (show i < 8 by omega)
    have G2 := G1.sL (show 10 ∈ [10] by simp) f
    rw [e]
    obtain ⟨τ1, e4, h5, G3⟩ := ih (i + 1) n _ (T.fm G2 (by decide) (by decide) (by decide) (by decide) (by decide)) (by rw [G2.o 12 (by decide)]; exact hm) (fun m hm => by rw [G2.i 29 (by decide) (by decide)]; exact h1 m hm) (fun m hm => by rw [G2.i 30 (by decide) (by decide)]; exact h2 m hm) (fun m hm t ht => by rw [G2.l 31 (by decide)]; exact h3 m hm t ht) (fun m hm => by
      by_cases q : m = i
      · subst q
        refine ⟨?_, ?_, fun t ht => ?_⟩
        · rw [zL_1, zS_1, if_neg (fun q => absurd q.1 (by decide)), zS_1, if_pos ⟨rfl, rfl⟩]; exact h1 m (by omega)
        · rw [zL_1, zS_1, if_pos ⟨rfl, rfl⟩]; exact h2 m (by omega)
        · rw [zL_same, hf t ht, G1.l 31 (by decide)]; exact h3 m (by omega) t ht
      · obtain ⟨d1, d2, d3⟩ := hd m (by omega)
        refine ⟨?_, ?_, fun t ht => ?_⟩
        · rw [zL_1, zS_1, if_neg (fun w => q w.2), zS_1, if_neg (fun w => q w.2)]; exact d1
        · rw [zL_1, zS_1, if_neg (fun w => q w.2), zS_1, if_neg (fun w => q w.2)]; exact d2
        · rw [zL_same, hf2 _ (by omega)]; exact d3 t ht) (by omega) (by omega)
    exact ⟨τ1, e4, h5, G2.trans G3⟩
theorem km_rowsB : ∀ j i n τ, (∀ k, k < i → τ.1 1 k = τ.1 26 k ∧ τ.1 2 k = τ.1 27 k ∧ τ.1 3 k = τ.1 28 k) → i + j = 3 → j < n →
    ∃ τ1, f_X12_back_c44 n (nI i) τ = zbd (f_X12_layTerms (zS τ1 0 12 0)) (fun _ s2 => f_X12_back_c110 ZF 0 (zS s2 0 12 (s2.1 0 44))) ∧ (∀ k, k < 3 → τ1.1 1 k = τ1.1 26 k ∧ τ1.1 2 k = τ1.1 27 k ∧ τ1.1 3 k = τ1.1 28 k) ∧ FM [] [1, 2, 3] [] τ τ1 := by
  intro j
  induction j with
  | zero =>
    intro i n τ hd hi hn
    obtain ⟨n, rfl⟩ : ∃ m', n = m' + 1 := ⟨n - 1, by omega⟩
    have : i = 3 := by omega
    subst this
    exact ⟨τ, by rw [f_X12_back_c44, if_pos (show (3 : Int32) ≤ nI 3 by decide)], hd, FM.refl τ⟩
  | succ j ih =>
    intro i n τ hd hi hn
    obtain ⟨n, rfl⟩ : ∃ m', n = m' + 1 := ⟨n - 1, by omega⟩
    have z := zin_nI (show i < 3 by omega) (show 3 ≤ 2 ^ 31 by decide)
    have e2 : (zS τ 1 i (τ.1 26 i)).1 27 i = τ.1 27 i := by rw [zS_1, if_neg (fun q => absurd q.1 (by decide))]
    have e3 : (zS (zS τ 1 i (τ.1 26 i)) 2 i (τ.1 27 i)).1 28 i = τ.1 28 i := by rw [zS_1, if_neg (fun q => absurd q.1 (by decide)), zS_1, if_neg (fun q => absurd q.1 (by decide))]
    have G1 : FM [] [1, 2, 3] [] τ (zS (zS (zS τ 1 i (τ.1 26 i)) 2 i (τ.1 27 i)) 3 i (τ.1 28 i)) := (((FM.refl τ).sS (by decide) (by simp) _ _).sS (by decide) (by simp) _ _).sS (by decide) (by simp) _ _
    rw [f_X12_back_c44, if_neg (n3 i (by omega)), if_pos z, if_pos z, if_pos z, if_pos z, if_pos z, if_pos z, nI_clamp (by omega), e2, e3, nI_1]
    obtain ⟨τ1, e4, h5, G3⟩ := ih (i + 1) n (zS (zS (zS τ 1 i (τ.1 26 i)) 2 i (τ.1 27 i)) 3 i (τ.1 28 i)) (fun k hk => by
      rw [G1.i 26 (by decide) (by decide), G1.i 27 (by decide) (by decide), G1.i 28 (by decide) (by decide)]
      simp only [zS_1]
      by_cases q : k = i
      · simp [q]
      · simp [q]
        exact hd k (by omega)) (by omega) (by omega)
    exact ⟨τ1, e4, h5, G1.trans G3⟩
theorem s_image (h : I0 σ τ) : ∃ r σ1 τ1, f_X11_image σ = some (r, σ1) ∧ f_X12_image τ = some (r, τ1) ∧ I0 σ1 τ1 := by
  obtain ⟨S, C, h⟩ := h
  have K := h.kc
  have L := h.km
  have h8 := K.okC.m8
  have F1 := to_fr σ 4 18 3 15
  have F2 : FR [2] [] (TOv σ 4 18 3 15) (zS (TOv σ 4 18 3 15) 2 2 (nI C.mm)) := (FR.refl _).sS (by simp) _ _
  have F12 : FR [2, 4, 18, 19, 20] [] σ (zS (TOv σ 4 18 3 15) 2 2 (nI C.mm)) := (F1.mono (by decide) (by decide)).trans (F2.mono (by decide) (by decide))
  obtain ⟨σ2, e1, c1, F3⟩ := k_takeK K.ok K.okC (K.cl.fr K.okC F12 (fun m hm => by simp; omega) (fun m hm => by simp)) (show (zS (TOv σ 4 18 3 15) 2 2 (nI C.mm)).1 2 2 = nI C.mm by rw [zS_1, if_pos ⟨rfl, rfl⟩])
  have F4 : FR [0] [] σ2 (zS σ2 0 2 1) := (FR.refl _).sS (by simp) _ _
  have FF : FR IA IB σ (zS σ2 0 2 1) := ((F12.mono (by decide) (by decide)).trans (F3.mono (by decide) (by decide))).trans (F4.mono (by decide) (by decide))
  have m2 : (zS σ2 0 2 1).1 2 2 = nI C.mm := by rw [F4.1 2 (by decide), F3.1 2 (by decide), zS_1, if_pos ⟨rfl, rfl⟩]
  have sh4 : ShC S 4 18 (zS σ2 0 2 1) := (((to_sh1 K.sh).fr F2 (by decide) (by decide) (by decide) (by decide)).fr F3 (by decide) (by decide) (by decide) (by decide)).fr F4 (by decide) (by decide) (by decide) (by decide)
  have ec : f_X11_image σ = some (nI C.mm, zS σ2 0 2 1) := by
    rw [f_X11_image, f_X3_takeOver, if_pos (show zis Ox 3 2 = true from rfl), if_pos (show zis Ox 3 1 = true from rfl), show zrf Ox 2 0 = 4 from rfl, show zrf Ox 1 0 = 3 from rfl, if_pos (show zis Ox 7 4 = true from rfl), if_pos (show zis Ox 7 3 = true from rfl), p_to1, zbd_s, F1.1 1 (by decide), K.mm, e1, zbd_s, m2]
  -- the reference
  have hred : f_X12_image τ = f_X12_image_c39 ZF 0 (zS (zS (zS (zS (zS τ 0 36 1) 0 37 (τ.1 0 0)) 0 38 (τ.1 0 1)) 0 39 (τ.1 0 2)) 0 41 (τ.1 0 4)) := by
    rw [f_X12_image]
    simp [zS_1]
  have G1 : FM [36, 37, 38, 39, 41] [] [] τ (zS (zS (zS (zS (zS τ 0 36 1) 0 37 (τ.1 0 0)) 0 38 (τ.1 0 1)) 0 39 (τ.1 0 2)) 0 41 (τ.1 0 4)) := (((((FM.refl τ).sO (by simp) _).sO (by simp) _).sO (by simp) _).sO (by simp) _).sO (by simp) _
  have v36 : (zS (zS (zS (zS (zS τ 0 36 1) 0 37 (τ.1 0 0)) 0 38 (τ.1 0 1)) 0 39 (τ.1 0 2)) 0 41 (τ.1 0 4)).1 0 36 = 1 := by simp [zS_1]
  have v37 : (zS (zS (zS (zS (zS τ 0 36 1) 0 37 (τ.1 0 0)) 0 38 (τ.1 0 1)) 0 39 (τ.1 0 2)) 0 41 (τ.1 0 4)).1 0 37 = τ.1 0 0 := by simp [zS_1]
  have v38 : (zS (zS (zS (zS (zS τ 0 36 1) 0 37 (τ.1 0 0)) 0 38 (τ.1 0 1)) 0 39 (τ.1 0 2)) 0 41 (τ.1 0 4)).1 0 38 = τ.1 0 1 := by simp [zS_1]
  have v39 : (zS (zS (zS (zS (zS τ 0 36 1) 0 37 (τ.1 0 0)) 0 38 (τ.1 0 1)) 0 39 (τ.1 0 2)) 0 41 (τ.1 0 4)).1 0 39 = τ.1 0 2 := by simp [zS_1]
  have v41 : (zS (zS (zS (zS (zS τ 0 36 1) 0 37 (τ.1 0 0)) 0 38 (τ.1 0 1)) 0 39 (τ.1 0 2)) 0 41 (τ.1 0 4)).1 0 41 = τ.1 0 4 := by simp [zS_1]
  generalize ht : zS (zS (zS (zS (zS τ 0 36 1) 0 37 (τ.1 0 0)) 0 38 (τ.1 0 1)) 0 39 (τ.1 0 2)) 0 41 (τ.1 0 4) = t at *
  obtain ⟨t2, e2, r2, G2⟩ := km_rowsI 3 0 ZF t (fun k hk => absurd hk (by omega)) (by omega) (by unfold ZF; omega)
  rw [nI_0] at e2
  have G3 : FM [44] [] [] t2 (zS t2 0 44 (t2.1 0 12)) := (FM.refl t2).sO (by simp) _
  have G13 : FM [36, 37, 38, 39, 41, 44] [26, 27, 28] [] τ (zS t2 0 44 (t2.1 0 12)) := ((G1.mono (by decide) (by decide) (by decide)).trans (G2.mono (by decide) (by decide) (by decide))).trans (G3.mono (by decide) (by decide) (by decide))
  have m12 : t2.1 0 12 = nI C.mm := by rw [G2.o 12 (by decide), G1.o 12 (by decide)]; exact L.cl.mm
  have m44 : (zS t2 0 44 (t2.1 0 12)).1 0 44 = nI C.mm := by rw [zS_1, if_pos ⟨rfl, rfl⟩]; exact m12
  have T3 := L.tm.fm G13 (by decide) (by decide) (by decide) (by decide) (by decide)
  obtain ⟨t4, e4, r4, G4⟩ := km_clsI (S := S) (C := C) K.ok K.okC C.mm 0 ZF (zS t2 0 44 (t2.1 0 12)) T3 (by rw [G13.o 12 (by decide)]; exact L.cl.mm) (fun m hm => by rw [G13.i 8 (by decide) (by decide)]; exact L.cl.kd m hm) (fun m hm => by rw [G13.i 9 (by decide) (by decide)]; exact L.cl.fg m hm) (fun m hm t ht => by rw [G13.l 10 (by decide)]; exact L.cl.tl m hm t ht) (fun m hm => absurd hm (by omega)) (by omega) (by unfold ZF; omega)
  rw [nI_0] at e4
  have GG : FM [36, 37, 38, 39, 41, 44] [26, 27, 28, 29, 30] [31] τ t4 := (G13.mono (by decide) (by decide) (by decide)).trans (G4.mono (by decide) (by decide) (by decide))
  have x : ∀ j, j ∉ [44] → t4.1 0 j = t.1 0 j := fun j hj => by rw [G4.o j (by simp), G3.o j hj, G2.o j (by simp)]
  have rw1 : ∀ k, k < 3 → t4.1 26 k = τ.1 1 k ∧ t4.1 27 k = τ.1 2 k ∧ t4.1 28 k = τ.1 3 k := fun k hk => by
    rw [G4.i 26 (by decide) (by decide), G4.i 27 (by decide) (by decide), G4.i 28 (by decide) (by decide), G3.i 26 (by decide) (by decide), G3.i 27 (by decide) (by decide), G3.i 28 (by decide) (by decide)]
    obtain ⟨a, b, c⟩ := r2 k hk
    rw [a, b, c, G2.i 1 (by decide) (by decide), G2.i 2 (by decide) (by decide), G2.i 3 (by decide) (by decide), G1.i 1 (by decide) (by decide), G1.i 2 (by decide) (by decide), G1.i 3 (by decide) (by decide)]
    exact ⟨rfl, rfl, rfl⟩
  have he3 := K.ok.e3
  have shK : ShK S t4 := ⟨by rw [x 37 (by decide), v37]; exact L.sh.so, by rw [x 38 (by decide), v38]; exact L.sh.n, fun q => by rw [x 39 (by decide), v39]; exact L.sh.f q, by rw [x 41 (by decide), v41]; exact L.sh.e, fun q k hk => by rw [(rw1 k hk).1]; exact L.sh.dm q k hk, fun q k hk => by rw [(rw1 k (by omega)).2.1]; exact L.sh.dg q k hk, fun q k hk => by rw [(rw1 k (by omega)).2.2]; exact L.sh.gn q k hk⟩
  have clK : ClK S C t4 := ⟨by rw [G4.o 44 (by decide)]; exact m44, fun m hm => (r4 m hm).1, fun m hm => (r4 m hm).2.1, fun m hm => (r4 m hm).2.2⟩
  refine ⟨nI C.mm, zS σ2 0 2 1, t4, ec, by rw [hred, e2, e4], S, C, ⟨h.core.fr2 FF GG (by decide) (by decide) (by decide) (by decide) (by decide), Or.inr ⟨by rw [zS_1, if_pos ⟨rfl, rfl⟩], by rw [x 36 (by decide), v36], S, C, K.ok, sh4, shK, K.okC, m2, c1.fr K.okC F4 (fun m hm => by simp) (fun m hm => by simp), clK⟩, h.chg.fr FF GG (by decide) (by decide) (by decide), h.tap.fr FF GG (by decide) (by decide) (by decide) (by decide), h.pap.fr FF GG (by decide) (by decide) (by decide) (by decide), h.lis.fr FF GG (by decide) (by decide) (fun m hm => by simp; omega) (by decide) (by decide) (by decide), h.trc.fr FF GG (by decide) (by decide) (by decide) (by decide)⟩⟩
end
