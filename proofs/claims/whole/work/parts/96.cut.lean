section
variable {S : Sh} {C C1 : Cl} {σ σ1 τ τ1 : SS}
/-! ===== added, kept by size ===== -/
theorem k_addT (K : KC S C σ) {k1 k2 : Nat} {v w : Nat → Int64} (h1 : 21 ≤ k1 ∧ k1 ≤ 25) (h2 : 21 ≤ k2 ∧ k2 ≤ 25) (hne : k1 ≠ k2) (r1 : Rw S σ k1 v) (r2 : Rw S σ k2 w) (x : Int64) : ∃ σ1, f_X8_addTimes k1 k2 x σ = some ((), σ1) ∧ Rw S σ1 k1 (fun t => v t + w t * x) ∧ FR [] [k1] σ σ1 := by
  have hM := K.M
  have key : ∀ j i n f, i + j = S.M → j < n → (∀ t, t < S.M → f t = if t < i then v t + w t * x else v t) → ∃ f', f_X8_addTimes_c3 n k1 k2 x (nI i) (zL σ k1 f) = some ((), zL σ k1 f') ∧ ∀ t, t < S.M → f' t = v t + w t * x := by
    intro j
    induction j with
    | zero =>
      intro i n f hi hn hf
      obtain ⟨n, rfl⟩ : ∃ m', n = m' + 1 := ⟨n - 1, by omega⟩
      have : i = S.M := by omega
      subst this
      exact ⟨f, by rw [f_X8_addTimes_c3, zL_1, K.tm.M, if_pos (nI_le (by omega) (by omega))], fun t ht => by rw [hf t ht, if_pos ht]⟩
    | succ j ih =>
      intro i n f hi hn hf
      obtain ⟨n, rfl⟩ : ∃ m', n = m' + 1 := ⟨n - 1, by omega⟩
      have z1 := zok_nI (Ox_r h1) (show i < 462 by omega) (by decide)
      have z2 := zok_nI (Ox_r h2) (show i < 462 by omega) (by decide)
      rw [f_X8_addTimes_c3, zL_1, K.tm.M, if_neg (nI_ge (by omega) (by omega)), if_pos z1, if_pos z2, if_pos z1, nI_clamp (by omega), zL_same, zL_ne' _ _ hne.symm, r2 i (by omega), hf i (by omega), if_neg (by omega), nI_1, zSL_eq, zL_zL, zL_same]
      refine ih (i + 1) n _ (by omega) (by omega) (fun t ht => ?_)
      by_cases q : t = i
      · rw [q, pk_uLs, if_pos (by omega)]
      · rw [pk_uLn q, hf t ht]
        by_cases w : t < i
        · rw [if_pos w, if_pos (by omega)]
        · rw [if_neg w, if_neg (by omega)]
  obtain ⟨f, e, hf⟩ := key S.M 0 ZF (σ.2 k1) (by omega) (by unfold ZF; omega) (fun t ht => by rw [if_neg (by omega)]; exact r1 t ht)
  rw [nI_0, zL_self] at e
  exact ⟨_, e, fun t ht => by rw [zL_same]; exact hf t ht, frL σ k1 f⟩
def kp (S : Sh) (x : Int32) (v : Nat → Int64) (t : Nat) : Int64 := if nI (sz (S.c t)) = x then v t else 0
theorem k_keep (K : KC S C σ) {k : Nat} {v : Nat → Int64} (hk : 21 ≤ k ∧ k ≤ 25) (r : Rw S σ k v) (x : Int32) : ∃ σ1, f_X8_keepSize k x σ = some ((), σ1) ∧ Rw S σ1 k (kp S x v) ∧ FR [] [k] σ σ1 := by
  have hM := K.M
  have key : ∀ j i n f, i + j = S.M → j < n → (∀ t, t < S.M → f t = if t < i then kp S x v t else v t) → ∃ f', f_X8_keepSize_c2 n k x (nI i) (zL σ k f) = some ((), zL σ k f') ∧ ∀ t, t < S.M → f' t = kp S x v t := by
    intro j
    induction j with
    | zero =>
      intro i n f hi hn hf
      obtain ⟨n, rfl⟩ : ∃ m', n = m' + 1 := ⟨n - 1, by omega⟩
      have : i = S.M := by omega
      subst this
      exact ⟨f, by rw [f_X8_keepSize_c2, zL_1, K.tm.M, if_pos (nI_le (by omega) (by omega))], fun t ht => by rw [hf t ht, if_pos ht]⟩
    | succ j ih =>
      intro i n f hi hn hf
      obtain ⟨n, rfl⟩ : ∃ m', n = m' + 1 := ⟨n - 1, by omega⟩
      have z1 := zok_nI (Ox_r hk) (show i < 462 by omega) (by decide)
      have fin : ∀ y, y = kp S x v i → ∃ f', f_X8_keepSize_c2 n k x (nI i + 1) (zSL (zL σ k f) k i y) = some ((), zL σ k f') ∧ ∀ t, t < S.M → f' t = kp S x v t := by
        intro y hy
        rw [nI_1, zSL_eq, zL_zL, zL_same]
        refine ih (i + 1) n _ (by omega) (by omega) (fun t ht => ?_)
        by_cases q : t = i
        · rw [q, pk_uLs, if_pos (by omega), hy]
        · rw [pk_uLn q, hf t ht]
          by_cases w : t < i
          · rw [if_pos w, if_pos (by omega)]
          · rw [if_neg w, if_neg (by omega)]
      rw [f_X8_keepSize_c2, zL_1, K.tm.M, if_neg (nI_ge (by omega) (by omega)), if_pos (zin_nI (show i < 462 by omega) (by decide)), nI_clamp (by omega), K.tm.size i (by omega)]
      simp only [f_X8_keepSize_c35, z1, if_true, nI_clamp (show i < 2 ^ 31 by omega)]
      by_cases q : nI (sz (S.c i)) = x
      · rw [if_pos q]
        exact fin _ (by rw [zL_same, hf i (by omega), if_neg (by omega), kp, if_pos q])
      · rw [if_neg q]
        exact fin _ (by rw [kp, if_neg q])
  obtain ⟨f, e, hf⟩ := key S.M 0 ZF (σ.2 k) (by omega) (by unfold ZF; omega) (fun t ht => by rw [if_neg (by omega)]; exact r t ht)
  rw [nI_0, zL_self] at e
  exact ⟨_, e, fun t ht => by rw [zL_same]; exact hf t ht, frL σ k f⟩
theorem km_keep15 (L : KM S C τ) {v : Nat → Int64} (r : Rw S τ 15 v) (x : Int32) : ∃ τ1, f_X12_layCut_c174 ZF x 0 τ = some ((), τ1) ∧ Rw S τ1 15 (kp S x v) ∧ FM [] [] [15] τ τ1 := by
  have hM := L.M
  have key : ∀ j i n f, i + j = S.M → j < n → (∀ t, t < S.M → f t = if t < i then kp S x v t else v t) → ∃ f', f_X12_layCut_c174 n x (nI i) (zL τ 15 f) = some ((), zL τ 15 f') ∧ ∀ t, t < S.M → f' t = kp S x v t := by
    intro j
    induction j with
    | zero =>
      intro i n f hi hn hf
      obtain ⟨n, rfl⟩ : ∃ m', n = m' + 1 := ⟨n - 1, by omega⟩
      have : i = S.M := by omega
      subst this
      exact ⟨f, by rw [f_X12_layCut_c174, zL_1, L.tm.M, if_pos (nI_le (by omega) (by omega))], fun t ht => by rw [hf t ht, if_pos ht]⟩
    | succ j ih =>
      intro i n f hi hn hf
      obtain ⟨n, rfl⟩ : ∃ m', n = m' + 1 := ⟨n - 1, by omega⟩
      have z1 := zin_nI (show i < 462 by omega) (show 462 ≤ 2 ^ 31 by decide)
      have fin : ∀ y, y = kp S x v i → ∃ f', f_X12_layCut_c174 n x (nI i + 1) (zSL (zL τ 15 f) 15 i y) = some ((), zL τ 15 f') ∧ ∀ t, t < S.M → f' t = kp S x v t := by
        intro y hy
        rw [nI_1, zSL_eq, zL_zL, zL_same]
        refine ih (i + 1) n _ (by omega) (by omega) (fun t ht => ?_)
        by_cases q : t = i
        · rw [q, pk_uLs, if_pos (by omega), hy]
        · rw [pk_uLn q, hf t ht]
          by_cases w : t < i
          · rw [if_pos w, if_pos (by omega)]
          · rw [if_neg w, if_neg (by omega)]
      rw [f_X12_layCut_c174, zL_1, L.tm.M, if_neg (nI_ge (by omega) (by omega)), if_pos z1, nI_clamp (by omega), L.tm.size i (by omega)]
      simp only [f_X12_layCut_c207, z1, if_true, nI_clamp (show i < 2 ^ 31 by omega)]
      by_cases q : nI (sz (S.c i)) = x
      · rw [if_pos q]
        exact fin _ (by rw [zL_same, hf i (by omega), if_neg (by omega), kp, if_pos q])
      · rw [if_neg q]
        exact fin _ (by rw [kp, if_neg q])
  obtain ⟨f, e, hf⟩ := key S.M 0 ZF (τ.2 15) (by omega) (by unfold ZF; omega) (fun t ht => by rw [if_neg (by omega)]; exact r t ht)
  rw [nI_0, zL_self] at e
  exact ⟨_, e, fun t ht => by rw [zL_same]; exact hf t ht, fmL τ 15 f⟩
/-! ===== divided by 1 + d ===== -/
theorem k_div (K : KC S C σ) {c d : Nat → Int64} (r1 : Rw S σ 23 c) (r2 : Rw S σ 22 d) : ∃ σ1, f_X8_divideChern 22 σ = some ((), σ1) ∧ Rw S σ1 23 (aa S c d S.n) ∧ FR [26] [23, 24, 25] σ σ1 := by
  have hM := K.M
  have hn5 := K.ok.n5
  have key : ∀ j k n σ, KC S C σ → Rw S σ 22 d → Rw S σ 23 (aa S c d k) → Rw S σ 24 (bb S c d k) → k + j = S.n → j < n → ∃ σ1, f_X8_divideChern_c27 n 22 (sg (k + 1)) (nI (k + 1)) σ = some ((), σ1) ∧ Rw S σ1 23 (aa S c d S.n) ∧ FR [26] [23, 24, 25] σ σ1 := by
    intro j
    induction j with
    | zero =>
      intro k n σ K r2 r3 r4 hk hn
      obtain ⟨n, rfl⟩ : ∃ m', n = m' + 1 := ⟨n - 1, by omega⟩
      have : k = S.n := by omega
      subst this
      exact ⟨σ, by rw [f_X8_divideChern_c27, K.tm.n, if_pos (nI_lt (by omega) (by omega))], r3, FR.refl σ⟩
    | succ j ih =>
      intro k n σ K r2 r3 r4 hk hn
      obtain ⟨n, rfl⟩ : ∃ m', n = m' + 1 := ⟨n - 1, by omega⟩
      obtain ⟨σ1, e1, r5, F1⟩ := p_mulF K.ok K.tm (k1 := 24) (k2 := 22) (by decide) (by decide) (by decide) r4 r2
      have r6 := r3.fr F1 (by decide)
      have r7 := r2.fr F1 (by decide)
      have F1 : FR [26] [23, 24, 25] σ σ1 := F1.mono (by decide) (by decide)
      have K1 := K.sc (F1.mono (by decide) (by decide))
      obtain ⟨σ2, e2, r8, F2⟩ := k_addT K1 (k1 := 23) (k2 := 24) (by decide) (by decide) (by decide) r6 r5 (sg (k + 1))
      have r9 := r5.fr F2 (by decide)
      have r10 := r7.fr F2 (by decide)
      have F2 : FR [26] [23, 24, 25] σ1 σ2 := F2.mono (by decide) (by decide)
      rw [f_X8_divideChern_c27, K.tm.n, if_neg (nI_nlt (by omega) (by omega)), e1, zbd_s, e2, zbd_s, nI_1]
      obtain ⟨σ3, e3, r11, F3⟩ := ih (k + 1) n σ2 (K1.sc (F2.mono (by decide) (by decide))) r10 r8 r9 (by omega) (by omega)
      exact ⟨σ3, e3, r11, (F1.trans F2).trans F3⟩
  have F0 : FR [26] [23, 24, 25] σ (zL σ 24 (va_cpy (σ.2 23) (σ.2 24) 0 0 S.M)) := (FR.refl σ).sL (by simp) _
  have r3 : Rw S (zL σ 24 (va_cpy (σ.2 23) (σ.2 24) 0 0 S.M)) 23 c := fun t ht => by rw [zL_ne' _ _ (by decide)]; exact r1 t ht
  have r4 : Rw S (zL σ 24 (va_cpy (σ.2 23) (σ.2 24) 0 0 S.M)) 24 c := fun t ht => by rw [zL_same, cpy_0, if_pos ht]; exact r1 t ht
  have r5 : Rw S (zL σ 24 (va_cpy (σ.2 23) (σ.2 24) 0 0 S.M)) 22 d := fun t ht => by rw [zL_ne' _ _ (by decide)]; exact r2 t ht
  obtain ⟨σ1, e, r, F⟩ := key S.n 0 ZF _ (K.sc (F0.mono (by decide) (by decide))) r5 r3 r4 (by omega) (by unfold ZF; omega)
  rw [f_X8_divideChern, K.tm.M, if_pos (zok2_n (show Ox 23 = .inr (1, 462, []) from rfl) (show Ox 24 = .inr (1, 462, []) from rfl) hM hM (by omega)), nI_clamp (by omega)]
  exact ⟨σ1, e, r, F0.trans F⟩
theorem km_neg (L : KM S C τ) (rc : Int32 → Int32 → Int32 → SS → Option (Unit × SS)) (x1 x2 x3 : Int32) {d : Nat → Int64} (r : Rw S τ 14 d) : ∃ τ1, f_X12_layCut_c43 rc ZF x1 x2 x3 0 τ = zbd (f_X12_layOne 34 τ1) (fun _ s13 => zbd (f_X12_layOne 13 s13) (fun _ s16 => f_X12_layCut_c92 rc ZF x1 x2 x3 0 s16)) ∧ Rw S τ1 14 (fun t => -(d t)) ∧ FM [] [] [14] τ τ1 := by
  have hM := L.M
  have key : ∀ j i n f, i + j = S.M → j < n → (∀ t, t < S.M → f t = if t < i then -(d t) else d t) → ∃ f', f_X12_layCut_c43 rc n x1 x2 x3 (nI i) (zL τ 14 f) = zbd (f_X12_layOne 34 (zL τ 14 f')) (fun _ s13 => zbd (f_X12_layOne 13 s13) (fun _ s16 => f_X12_layCut_c92 rc ZF x1 x2 x3 0 s16)) ∧ ∀ t, t < S.M → f' t = -(d t) := by
    intro j
    induction j with
    | zero =>
      intro i n f hi hn hf
      obtain ⟨n, rfl⟩ : ∃ m', n = m' + 1 := ⟨n - 1, by omega⟩
      have : i = S.M := by omega
      subst this
      exact ⟨f, by rw [f_X12_layCut_c43, zL_1, L.tm.M, if_pos (nI_le (by omega) (by omega))], fun t ht => by rw [hf t ht, if_pos ht]⟩
    | succ j ih =>
      intro i n f hi hn hf
      obtain ⟨n, rfl⟩ : ∃ m', n = m' + 1 := ⟨n - 1, by omega⟩
      have z1 := zin_nI (show i < 462 by omega) (show 462 ≤ 2 ^ 31 by decide)
      rw [f_X12_layCut_c43, zL_1, L.tm.M, if_neg (nI_ge (by omega) (by omega)), if_pos z1, if_pos z1, nI_clamp (by omega), zL_same, hf i (by omega), if_neg (by omega), nI_1, zSL_eq, zL_zL, zL_same]
      refine ih (i + 1) n _ (by omega) (by omega) (fun t ht => ?_)
      by_cases q : t = i
      · rw [q, pk_uLs, if_pos (by omega)]
      · rw [pk_uLn q, hf t ht]
        by_cases w : t < i
        · rw [if_pos w, if_pos (by omega)]
        · rw [if_neg w, if_neg (by omega)]
  obtain ⟨f, e, hf⟩ := key S.M 0 ZF (τ.2 14) (by omega) (by unfold ZF; omega) (fun t ht => by rw [if_neg (by omega)]; exact r t ht)
  rw [nI_0, zL_self] at e
  exact ⟨_, e, fun t ht => by rw [zL_same]; exact hf t ht, fmL τ 14 f⟩
theorem km_plus (L : KM S C τ) (rc92 : Int32 → Int32 → Int32 → Int32 → SS → Option (Unit × SS)) (rc10 : Int32 → Int32 → Int32 → SS → Option (Unit × SS)) (x1 x2 x3 x4 : Int32) {v w : Nat → Int64} (r : Rw S τ 34 v) (r2 : Rw S τ 13 w) : ∃ τ1, f_X12_layCut_c116 rc92 rc10 ZF x1 x2 x3 x4 0 τ = rc92 x1 x2 x3 (x4 + 1) τ1 ∧ Rw S τ1 34 (fun t => v t + w t) ∧ FM [] [] [34] τ τ1 := by
  have hM := L.M
  have key : ∀ j i n f, i + j = S.M → j < n → (∀ t, t < S.M → f t = if t < i then v t + w t else v t) → ∃ f', f_X12_layCut_c116 rc92 rc10 n x1 x2 x3 x4 (nI i) (zL τ 34 f) = rc92 x1 x2 x3 (x4 + 1) (zL τ 34 f') ∧ ∀ t, t < S.M → f' t = v t + w t := by
    intro j
    induction j with
    | zero =>
      intro i n f hi hn hf
      obtain ⟨n, rfl⟩ : ∃ m', n = m' + 1 := ⟨n - 1, by omega⟩
      have : i = S.M := by omega
      subst this
      exact ⟨f, by rw [f_X12_layCut_c116, zL_1, L.tm.M, if_pos (nI_le (by omega) (by omega))], fun t ht => by rw [hf t ht, if_pos ht]⟩
    | succ j ih =>
      intro i n f hi hn hf
      obtain ⟨n, rfl⟩ : ∃ m', n = m' + 1 := ⟨n - 1, by omega⟩
      have z1 := zin_nI (show i < 462 by omega) (show 462 ≤ 2 ^ 31 by decide)
      rw [f_X12_layCut_c116, zL_1, L.tm.M, if_neg (nI_ge (by omega) (by omega)), if_pos z1, if_pos z1, if_pos z1, nI_clamp (by omega), zL_same, zL_ne' _ _ (show (13 : Nat) ≠ 34 by decide), r2 i (by omega), hf i (by omega), if_neg (by omega), nI_1, zSL_eq, zL_zL, zL_same]
      refine ih (i + 1) n _ (by omega) (by omega) (fun t ht => ?_)
      by_cases q : t = i
      · rw [q, pk_uLs, if_pos (by omega)]
      · rw [pk_uLn q, hf t ht]
        by_cases w : t < i
        · rw [if_pos w, if_pos (by omega)]
        · rw [if_neg w, if_neg (by omega)]
  obtain ⟨f, e, hf⟩ := key S.M 0 ZF (τ.2 34) (by omega) (by unfold ZF; omega) (fun t ht => by rw [if_neg (by omega)]; exact r t ht)
  rw [nI_0, zL_self] at e
  exact ⟨_, e, fun t ht => by rw [zL_same]; exact hf t ht, fmL τ 34 f⟩
theorem km_div (L : KM S C τ) (rc : Int32 → Int32 → Int32 → SS → Option (Unit × SS)) (x1 x2 x3 : Int32) {c d : Nat → Int64} (r : Rw S τ 15 c) (r2 : Rw S τ 14 d) : ∃ τ1, f_X12_layCut_c43 rc ZF x1 x2 x3 0 τ = rc x1 x2 (x3 + 1) τ1 ∧ Rw S τ1 15 (aa S c d S.n) ∧ FM [] [] [13, 14, 15, 33, 34] τ τ1 := by
  have hM := L.M
  have hn5 := L.ok.n5
  obtain ⟨τ1, e1, r3, G1⟩ := km_neg L rc x1 x2 x3 r2
  have r4 := r.fm G1 (by decide)
  have G1 : FM [] [] [13, 14, 15, 33, 34] τ τ1 := G1.mono (by decide) (by decide) (by decide)
  have L1 := L.sc (G1.mono (by decide) (by decide) (by decide))
  obtain ⟨τ2, e2, r5, G2⟩ := km_one L1 (k := 34) rfl (by decide)
  have r6 := r3.fm G2 (by decide)
  have r7 := r4.fm G2 (by decide)
  have G2 : FM [] [] [13, 14, 15, 33, 34] τ1 τ2 := G2.mono (by decide) (by decide) (by decide)
  have L2 := L1.sc (G2.mono (by decide) (by decide) (by decide))
  obtain ⟨τ3, e3, r8, G3⟩ := km_one L2 (k := 13) rfl (by decide)
  have r9 := r6.fm G3 (by decide)
  have r10 := r7.fm G3 (by decide)
  have r11 := r5.fm G3 (by decide)
  have G3 : FM [] [] [13, 14, 15, 33, 34] τ2 τ3 := G3.mono (by decide) (by decide) (by decide)
  have L3 := L2.sc (G3.mono (by decide) (by decide) (by decide))
  have key : ∀ j k n τ, KM S C τ → Rw S τ 14 (fun t => -(d t)) → Rw S τ 15 c → Rw S τ 13 (uu S d k) → Rw S τ 34 (tt S d k) → k + j = S.n → j < n → ∃ τ1, f_X12_layCut_c92 rc n x1 x2 x3 (nI k) τ = rc x1 x2 (x3 + 1) τ1 ∧ Rw S τ1 15 (aa S c d S.n) ∧ FM [] [] [13, 14, 15, 33, 34] τ τ1 := by
    intro j
    induction j with
    | zero =>
      intro k n τ L q14 q15 q13 q34 hk hn
      obtain ⟨n, rfl⟩ : ∃ m', n = m' + 1 := ⟨n - 1, by omega⟩
      have : k = S.n := by omega
      subst this
      obtain ⟨τ1, e1, r1, G1⟩ := km_mul L (k1 := 15) (k2 := 34) rfl rfl (by decide) (by decide) q15 q34
      exact ⟨τ1, by rw [f_X12_layCut_c92, L.sh.n, if_pos (nI_le (by omega) (by omega)), e1, zbd_s], fun t ht => by rw [r1 t ht, mul_tt L.ok c d S.n t ht], G1.mono (by decide) (by decide) (by decide)⟩
    | succ j ih =>
      intro k n τ L q14 q15 q13 q34 hk hn
      obtain ⟨n, rfl⟩ : ∃ m', n = m' + 1 := ⟨n - 1, by omega⟩
      obtain ⟨τ1, e1, r1, G1⟩ := km_mul L (k1 := 13) (k2 := 14) rfl rfl (by decide) (by decide) q13 q14
      have q14 := q14.fm G1 (by decide)
      have q15 := q15.fm G1 (by decide)
      have q34 := q34.fm G1 (by decide)
      have G1 : FM [] [] [13, 14, 15, 33, 34] τ τ1 := G1.mono (by decide) (by decide) (by decide)
      have L1 := L.sc (G1.mono (by decide) (by decide) (by decide))
      obtain ⟨τ2, e2, r2, G2⟩ := km_plus L1 (f_X12_layCut_c92 rc n) rc x1 x2 x3 (nI k) q34 r1
      have q14 := q14.fm G2 (by decide)
      have q15 := q15.fm G2 (by decide)
      have q13 := r1.fm G2 (by decide)
      have G2 : FM [] [] [13, 14, 15, 33, 34] τ1 τ2 := G2.mono (by decide) (by decide) (by decide)
      rw [f_X12_layCut_c92, L.sh.n, if_neg (nI_ge (by omega) (by omega)), e1, zbd_s, e2, nI_1]
      obtain ⟨τ3, e3, r3, G3⟩ := ih (k + 1) n τ2 (L1.sc (G2.mono (by decide) (by decide) (by decide))) q14 q15 q13 r2 (by omega) (by omega)
      exact ⟨τ3, e3, r3, (G1.trans G2).trans G3⟩
  obtain ⟨τ4, e4, r12, G4⟩ := key S.n 0 ZF τ3 L3 r9 r10 r8 r11 (by omega) (by unfold ZF; omega)
  rw [nI_0] at e4
  exact ⟨τ4, by rw [e1, e2, zbd_s, e3, zbd_s, e4], r12, ((G1.trans G2).trans G3).trans G4⟩
end
