section
variable {S S1 : Sh} {C C1 : Cl} {σ σ1 τ τ1 : SS}
def nv (S S1 : Sh) (v : Nat → Int64) (u : Nat) : Int64 := if S1.c u < 10 ^ S.L then v (cw S S1 u) else 0
def Cl.wid (C : Cl) (S S1 : Sh) : Cl := (C.mm, C.kd, C.fg, fun m => nv S S1 (C.tl m))
theorem Cl.wid_ok (h : ClOk C) : ClOk (C.wid S S1) := ⟨h.m8, h.k5, h.f9⟩
theorem cnle (P : Nat → Bool) : ∀ m, cn P m ≤ m
  | 0 => Nat.le_refl _
  | m + 1 => by
    have := cnle P m
    rw [cn]
    split <;> omega
theorem cw_le (S S1 : Sh) (m : Nat) : cw S S1 m ≤ m := cnle _ m
theorem cw_s (S S1 : Sh) (m : Nat) : cw S S1 (m + 1) = if S1.c m < 10 ^ S.L then cw S S1 m + 1 else cw S S1 m := by
  unfold cw
  rw [cn]
  by_cases q : S1.c m < 10 ^ S.L
  · simp [q]
  · simp [q]
theorem cw_mono (S S1 : Sh) (a : Nat) : ∀ b, cw S S1 a ≤ cw S S1 (a + b)
  | 0 => Nat.le_refl _
  | b + 1 => by
    have := cw_mono S S1 a b
    rw [← Nat.add_assoc, cw_s]
    split <;> omega
theorem k_widen (hS : ShOk S) (hS1 : ShOk S1) (hL : S1.L = S.L + 1) (hn : S1.n = S.n) (T : TmC S1 σ) {m : Nat} (hm : m < 8) : ∃ f, f_X4_widen (30 + m) (nI S.M) σ = some ((), zL σ (46 + m) f) ∧ ∀ t, t < S1.M → f t = nv S S1 (σ.2 (46 + m)) t := by
  obtain ⟨w1, w2, w3⟩ := wid hS hS1 hL hn
  obtain ⟨y1, y2, y3⟩ := ZOx_k (m := m) (by omega)
  have hM1 : S1.M ≤ 462 := (cM_pos hS1.ln).2
  have hM : S.M ≤ S1.M := by have := cw_le S S1 S1.M; omega
  have hL6 : S1.L ≤ 6 := hS1.ln.2.1
  have hp : 10 ^ S.L < 2 ^ 31 := by
    have : S.L ≤ 5 := by omega
    have := Nat.pow_le_pow_right (show 0 < 10 by decide) this
    omega
  have key : ∀ j n f, j ≤ S1.M → j < n → (∀ t, j ≤ t → t < S1.M → f t = nv S S1 (σ.2 (46 + m)) t) → (∀ t, t < j → f t = σ.2 (46 + m) t) → ∃ f', f_X4_widen_c29 n (30 + m) (nI (cw S S1 j)) (nI (10 ^ S.L)) (nI j - 1) (zL σ (46 + m) f) = some ((), zL σ (46 + m) f') ∧ ∀ t, t < S1.M → f' t = nv S S1 (σ.2 (46 + m)) t := by
    intro j
    induction j with
    | zero =>
      intro n f hj hn hf hf2
      obtain ⟨n, rfl⟩ : ∃ m', n = m' + 1 := ⟨n - 1, by omega⟩
      exact ⟨f, by rw [f_X4_widen_c29, if_pos y1, if_pos (show nI 0 - 1 < 0 by decide)], fun t ht => hf t (by omega) ht⟩
    | succ j ih =>
      intro n f hj hn hf hf2
      obtain ⟨n, rfl⟩ : ∃ m', n = m' + 1 := ⟨n - 1, by omega⟩
      have hlt := (cd_lt hS1.ln (show j < cM S1.L S1.n from (show j < S1.M by omega))).1
      have hlt' : S1.c j < 600000 := hlt
      have hcj := cw_le S S1 j
      have fin : ∀ v, v = nv S S1 (σ.2 (46 + m)) j → ∃ f', f_X4_widen_c64 (f_X4_widen_c29 n) (30 + m) (nI (cw S S1 j)) (nI (10 ^ S.L)) (nI j) v (zL σ (46 + m) f) = some ((), zL σ (46 + m) f') ∧ ∀ t, t < S1.M → f' t = nv S S1 (σ.2 (46 + m)) t := by
        intro v hv
        rw [f_X4_widen_c64, if_pos y1, y2, if_pos (zok_nI y3 (show j < 462 by omega) (by decide)), nI_clamp (by omega), zSL_eq, zL_zL, zL_same, show nI j + (-1) = nI j - 1 from (Int32.sub_eq_add_neg _ _).symm]
        refine ih n _ (by omega) (by omega) (fun t h1 h2 => ?_) (fun t ht => ?_)
        · by_cases q : t = j
          · rw [q, pk_uLs, hv]
          · rw [pk_uLn q]; exact hf t (by omega) h2
        · rw [pk_uLn (by omega)]; exact hf2 t (by omega)
      rw [f_X4_widen_c29, if_pos y1, nI_pred, if_neg (nI_pos (by omega)), if_pos (zin_nI (show j < 462 by omega) (by decide)), nI_clamp (by omega), zL_1, T.code j (by omega), cw_s]
      by_cases q : S1.c j < 10 ^ S.L
      · rw [if_neg (nI_ge q (by omega)), if_pos q, if_neg (nI_nle (by omega) (by omega)), y2, show nI (cw S S1 j + 1) + (-1) = nI (cw S S1 j) from by rw [← Int32.sub_eq_add_neg, nI_pred], if_pos (zok_nI y3 (show cw S S1 j < 462 by omega) (by decide)), nI_clamp (by omega), zL_same, hf2 _ (by omega)]
        exact fin _ (by unfold nv; rw [if_pos q])
      · rw [if_pos (nI_le (by omega) (by omega)), if_neg q]
        exact fin _ (by unfold nv; rw [if_neg q])
  have e0 : nI S1.L - 1 = nI S.L := by rw [hL, nI_pred]
  obtain ⟨f, e, hf⟩ := key S1.M ZF (σ.2 (46 + m)) (by omega) (by unfold ZF; omega) (fun t h1 h2 => absurd h2 (by omega)) (fun t ht => rfl)
  rw [zL_self, w1] at e
  rw [f_X4_widen, if_pos y1, T.L, e0, if_pos (zin_nI (show S.L < 6 by omega) (by decide)), T.M, if_neg (nI_nlt hM (by omega)), ztab_0 _ (by omega)]
  exact ⟨f, e, hf⟩
theorem k_more (hS : ShOk S) (hC : ClOk C) (hS1 : ShOk S1) (hL : S1.L = S.L + 1) (hn : S1.n = S.n) : ∀ j i n σ, TmC S1 σ → σ.1 1 2 = nI C.mm → (∀ m, i ≤ m → m < C.mm → ∀ t, t < S.M → σ.2 (46 + m) t = C.tl m t) → (∀ m, m < i → ∀ t, t < S1.M → σ.2 (46 + m) t = nv S S1 (C.tl m) t) → i + j = C.mm → j < n →
    ∃ σ1, f_X11_takeOneLetterMore_c46 n (nI S.M) (nI i) σ = some ((), zS (zS σ1 7 4 0) 7 5 0) ∧ (∀ m, m < C.mm → ∀ t, t < S1.M → σ1.2 (46 + m) t = nv S S1 (C.tl m) t) ∧ FR [] [46, 47, 48, 49, 50, 51, 52, 53] σ σ1 := by
  have h8 := hC.m8
  obtain ⟨w1, w2, w3⟩ := wid hS hS1 hL hn
  intro j
  induction j with
  | zero =>
    intro i n σ T hm h1 h2 hi hn
    obtain ⟨n, rfl⟩ : ∃ m', n = m' + 1 := ⟨n - 1, by omega⟩
    have : i = C.mm := by omega
    subst this
    exact ⟨σ, by rw [f_X11_takeOneLetterMore_c46, hm, if_pos (nI_le (by omega) (by omega)), f_X1_forget, zbd_s], h2, FR.refl σ⟩
  | succ j ih =>
    intro i n σ T hm h1 h2 hi hn'
    obtain ⟨n, rfl⟩ : ∃ m', n = m' + 1 := ⟨n - 1, by omega⟩
    obtain ⟨z1, z2⟩ := ZOx_13 (show i < 8 by omega)
    obtain ⟨f, e, hf⟩ := k_widen hS hS1 hL hn T (show i < 8 by omega)
    have F1 : FR [] [46, 47, 48, 49, 50, 51, 52, 53] σ (zL σ (46 + i) f) := (FR.refl σ).sL (by simp; omega) f
    rw [f_X11_takeOneLetterMore_c46, hm, if_neg (nI_ge (by omega) (by omega)), if_pos z1, z2, if_pos (ZOx_k (by omega)).1, e, zbd_s, nI_1]
    obtain ⟨σ1, e1, h3, F2⟩ := ih (i + 1) n (zL σ (46 + i) f) (T.fr F1 (by decide) (by decide) (by decide) (by decide) (by decide) (by decide) (by decide)) hm (fun m h3 h4 t ht => by rw [zL_ne' _ _ (by omega)]; exact h1 m (by omega) h4 t ht) (fun m h3 t ht => by
      by_cases q : m = i
      · rw [q, zL_same, hf t ht]
        unfold nv
        by_cases w : S1.c t < 10 ^ S.L
        · rw [if_pos w, if_pos w, h1 i (by omega) (by omega) _ (w2 t ht w).1]
        · rw [if_neg w, if_neg w]
      · rw [zL_ne' _ _ (by omega)]; exact h2 m (by omega) t ht) (by omega) (by omega)
    exact ⟨σ1, e1, h3, F1.trans F2⟩
/-! ===== the reference carries ===== -/
theorem km_c12 (T : TmM S1 τ) (hS1 : ShOk S1) (rc2 : Int32 → Int32 → SS → Option (Unit × SS)) (x1 : Int32) {m : Nat} (hm : m < 8) : ∃ f, f_X12_carry_c12 rc2 ZF x1 (nI m) 0 τ = f_X12_carry_c41 rc2 ZF x1 (nI m) 0 (zL τ 11 f) ∧ ∀ t, t < S1.M → f (462 * m + t) = 0 := by
  have hM1 : S1.M ≤ 462 := (cM_pos hS1.ln).2
  have key : ∀ j i n f, i + j = S1.M → j < n → (∀ t, t < i → f (462 * m + t) = 0) → ∃ f', f_X12_carry_c12 rc2 n x1 (nI m) (nI i) (zL τ 11 f) = f_X12_carry_c41 rc2 ZF x1 (nI m) 0 (zL τ 11 f') ∧ ∀ t, t < S1.M → f' (462 * m + t) = 0 := by
    intro j
    induction j with
    | zero =>
      intro i n f hi hn hf
      obtain ⟨n, rfl⟩ : ∃ m', n = m' + 1 := ⟨n - 1, by omega⟩
      exact ⟨f, by rw [f_X12_carry_c12, zL_1, T.M, if_pos (nI_le (by omega) (by omega))], fun t ht => hf t (by omega)⟩
    | succ j ih =>
      intro i n f hi hn hf
      obtain ⟨n, rfl⟩ : ∃ m', n = m' + 1 := ⟨n - 1, by omega⟩
      rw [f_X12_carry_c12, zL_1, T.M, if_neg (nI_ge (by omega) (by omega)), show (462 : Int32) = nI 462 from rfl, pk_mul, nI_add, if_pos (zin_nI (show 462 * m + i < 3696 by omega) (by decide)), nI_clamp (by omega), nI_1, zSL_eq, zL_zL, zL_same]
      refine ih (i + 1) n _ (by omega) (by omega) (fun t ht => ?_)
      by_cases q : t = i
      · rw [q, pk_uLs]
      · rw [pk_uLn (by omega)]; exact hf t (by omega)
  obtain ⟨f, e, hf⟩ := key S1.M 0 ZF (τ.2 11) (by omega) (by unfold ZF; omega) (fun t ht => absurd ht (by omega))
  rw [nI_0, zL_self] at e
  exact ⟨f, e, hf⟩
theorem km_c41 (hS : ShOk S) (T : TmM S1 τ) (hS1 : ShOk S1) (hL : S1.L = S.L + 1) (hn : S1.n = S.n) (h12 : ∀ i, i < S.M → τ.1 12 i = nI (S.c i)) (rc2 : Int32 → Int32 → SS → Option (Unit × SS)) {m : Nat} (hm : m < 8) (h0 : ∀ t, t < S1.M → τ.2 11 (462 * m + t) = 0) : ∃ f, f_X12_carry_c41 rc2 ZF (nI S.M) (nI m) 0 τ = f_X12_carry_c97 rc2 ZF (nI S.M) (nI m) 0 (zL τ 11 f) ∧ ∀ t, t < S1.M → f (462 * m + t) = nv S S1 (fun u => τ.2 10 (462 * m + u)) t := by
  have hM1 : S1.M ≤ 462 := (cM_pos hS1.ln).2
  obtain ⟨w1, w2, w3⟩ := wid hS hS1 hL hn
  have hM : S.M ≤ S1.M := by have := cw_le S S1 S1.M; omega
  have key : ∀ j i n f, i + j = S.M → j < n → (∀ k u, k < i → u < S1.M → S1.c u = S.c k → f (462 * m + u) = τ.2 10 (462 * m + k)) → (∀ u, u < S1.M → (∀ k, k < i → S1.c u ≠ S.c k) → f (462 * m + u) = 0) → ∃ f', f_X12_carry_c41 rc2 n (nI S.M) (nI m) (nI i) (zL τ 11 f) = f_X12_carry_c97 rc2 ZF (nI S.M) (nI m) 0 (zL τ 11 f') ∧ ∀ t, t < S1.M → f' (462 * m + t) = nv S S1 (fun u => τ.2 10 (462 * m + u)) t := by
    intro j
    induction j with
    | zero =>
      intro i n f hi hn hf hf2
      obtain ⟨n, rfl⟩ : ∃ m', n = m' + 1 := ⟨n - 1, by omega⟩
      refine ⟨f, by rw [f_X12_carry_c41, if_pos (nI_le (by omega) (by omega))], fun t ht => ?_⟩
      unfold nv
      by_cases q : S1.c t < 10 ^ S.L
      · rw [if_pos q]
        exact hf _ t (by have := (w2 t ht q).1; omega) ht (w2 t ht q).2.symm
      · rw [if_neg q]
        exact hf2 t ht (fun k hk e => q (by rw [e]; exact (cd_lt hS.ln (show k < cM S.L S.n from (show k < S.M by omega))).2))
    | succ j ih =>
      intro i n f hi hn hf hf2
      obtain ⟨n, rfl⟩ : ∃ m', n = m' + 1 := ⟨n - 1, by omega⟩
      obtain ⟨t, ht, ec, ep⟩ := w3 i (by omega)
      have h6 := (cd_lt hS.ln (show i < cM S.L S.n from (show i < S.M by omega))).1
      have h6' : S.c i < 600000 := h6
      have e7 : τ.1 7 (S.c i) = nI t := by rw [T.place _ h6', ep]; rfl
      rw [f_X12_carry_c41, if_neg (nI_ge (by omega) (by omega)), if_pos (zin_nI (show i < 462 by omega) (by decide)), nI_clamp (by omega), zL_1, h12 i (by omega), if_pos (zin_nI h6' (by decide)), nI_clamp (by omega), e7, if_neg (nI_pos (by omega)), show (462 : Int32) = nI 462 from rfl, pk_mul, nI_add, nI_add, if_pos (zin_nI (show 462 * m + i < 3696 by omega) (by decide)), if_pos (zin_nI (show 462 * m + t < 3696 by omega) (by decide)), f_X12_carry_c89, nI_clamp (by omega), nI_clamp (by omega), nI_1, zSL_eq, zL_zL, zL_same, zL_ne' _ _ (show (10 : Nat) ≠ 11 by decide)]
      refine ih (i + 1) n _ (by omega) (by omega) (fun k u hk hu e => ?_) (fun u hu hne => ?_)
      · by_cases q : u = t
        · subst q
          rw [pk_uLs, show k = i from c_inj hS (show k < S.M by omega) (show i < S.M by omega) (by rw [← e, ec])]
        · rw [pk_uLn (by omega)]
          refine hf k u ?_ hu e
          by_cases w : k = i
          · rw [w, ← ec] at e
            exact absurd (c_inj hS1 hu ht e) q
          · omega
      · have : u ≠ t := fun q => hne i (by omega) (by rw [q, ec])
        rw [pk_uLn (by omega)]
        exact hf2 u hu (fun k hk => hne k (by omega))
  obtain ⟨f, e, hf⟩ := key S.M 0 ZF (τ.2 11) (by omega) (by unfold ZF; omega) (fun k u hk => absurd hk (by omega)) (fun u hu _ => h0 u hu)
  rw [nI_0, zL_self] at e
  exact ⟨f, e, hf⟩
theorem km_c97 (T : TmM S1 τ) (hS1 : ShOk S1) (rc2 : Int32 → Int32 → SS → Option (Unit × SS)) (x1 : Int32) {m : Nat} (hm : m < 8) : ∃ f, f_X12_carry_c97 rc2 ZF x1 (nI m) 0 τ = rc2 x1 (nI (m + 1)) (zL τ 10 f) ∧ (∀ t, t < S1.M → f (462 * m + t) = τ.2 11 (462 * m + t)) ∧ ∀ q, (q < 462 * m ∨ 462 * m + S1.M ≤ q) → f q = τ.2 10 q := by
  have hM1 : S1.M ≤ 462 := (cM_pos hS1.ln).2
  have key : ∀ j i n f, i + j = S1.M → j < n → (∀ t, t < i → f (462 * m + t) = τ.2 11 (462 * m + t)) → (∀ q, (q < 462 * m ∨ 462 * m + S1.M ≤ q) → f q = τ.2 10 q) → ∃ f', f_X12_carry_c97 rc2 n x1 (nI m) (nI i) (zL τ 10 f) = rc2 x1 (nI (m + 1)) (zL τ 10 f') ∧ (∀ t, t < S1.M → f' (462 * m + t) = τ.2 11 (462 * m + t)) ∧ ∀ q, (q < 462 * m ∨ 462 * m + S1.M ≤ q) → f' q = τ.2 10 q := by
    intro j
    induction j with
    | zero =>
      intro i n f hi hn hf hf2
      obtain ⟨n, rfl⟩ : ∃ m', n = m' + 1 := ⟨n - 1, by omega⟩
      exact ⟨f, by rw [f_X12_carry_c97, zL_1, T.M, if_pos (nI_le (by omega) (by omega)), nI_1], fun t ht => hf t (by omega), hf2⟩
    | succ j ih =>
      intro i n f hi hn hf hf2
      obtain ⟨n, rfl⟩ : ∃ m', n = m' + 1 := ⟨n - 1, by omega⟩
      have z := zin_nI (show 462 * m + i < 3696 by omega) (show 3696 ≤ 2 ^ 31 by decide)
      rw [f_X12_carry_c97, zL_1, T.M, if_neg (nI_ge (by omega) (by omega)), show (462 : Int32) = nI 462 from rfl, pk_mul, nI_add, if_pos z, if_pos z, nI_clamp (by omega), nI_1, zSL_eq, zL_zL, zL_same, zL_ne' _ _ (show (11 : Nat) ≠ 10 by decide)]
      refine ih (i + 1) n _ (by omega) (by omega) (fun t ht => ?_) (fun q hq => ?_)
      · by_cases q : t = i
        · rw [q, pk_uLs]
        · rw [pk_uLn (by omega)]; exact hf t (by omega)
      · rw [pk_uLn (by omega)]; exact hf2 q hq
  obtain ⟨f, e, hf, hf2⟩ := key S1.M 0 ZF (τ.2 10) (by omega) (by unfold ZF; omega) (fun t ht => absurd ht (by omega)) (fun q _ => rfl)
  rw [nI_0, zL_self] at e
  exact ⟨f, e, hf, hf2⟩
theorem km_carry (hS : ShOk S) (hC : ClOk C) (hS1 : ShOk S1) (hL : S1.L = S.L + 1) (hn : S1.n = S.n) : ∀ j i n τ, TmM S1 τ → τ.1 0 12 = nI C.mm → (∀ i, i < S.M → τ.1 12 i = nI (S.c i)) → (∀ m, i ≤ m → m < C.mm → ∀ t, t < S.M → τ.2 10 (462 * m + t) = C.tl m t) → (∀ m, m < i → ∀ t, t < S1.M → τ.2 10 (462 * m + t) = nv S S1 (C.tl m) t) → i + j = C.mm → j < n →
    ∃ τ1, f_X12_carry_c2 n (nI S.M) (nI i) τ = some ((), τ1) ∧ (∀ m, m < C.mm → ∀ t, t < S1.M → τ1.2 10 (462 * m + t) = nv S S1 (C.tl m) t) ∧ FM [] [] [10, 11] τ τ1 := by
  have h8 := hC.m8
  have hM1 : S1.M ≤ 462 := (cM_pos hS1.ln).2
  have hM0 : S.M ≤ 462 := (cM_pos hS.ln).2
  obtain ⟨w1, w2, w3⟩ := wid hS hS1 hL hn
  intro j
  induction j with
  | zero =>
    intro i n τ T hm h12 h1 h2 hi hn
    obtain ⟨n, rfl⟩ : ∃ m', n = m' + 1 := ⟨n - 1, by omega⟩
    have : i = C.mm := by omega
    subst this
    exact ⟨τ, by rw [f_X12_carry_c2, hm, if_pos (nI_le (by omega) (by omega))], h2, FM.refl τ⟩
  | succ j ih =>
    intro i n τ T hm h12 h1 h2 hi hn'
    obtain ⟨n, rfl⟩ : ∃ m', n = m' + 1 := ⟨n - 1, by omega⟩
    obtain ⟨f, e, hf⟩ := km_c12 T hS1 (f_X12_carry_c2 n) (nI S.M) (show i < 8 by omega)
    have G1 : FM [] [] [10, 11] τ (zL τ 11 f) := (FM.refl τ).sL (by simp) f
    have T1 := T.fm G1 (by decide) (by decide) (by decide) (by decide) (by decide)
    obtain ⟨f2, e2, hf2⟩ := km_c41 hS T1 hS1 hL hn (fun k hk => h12 k hk) (f_X12_carry_c2 n) (show i < 8 by omega) (fun t ht => by rw [zL_same]; exact hf t ht)
    rw [zL_zL] at e2
    have G2 : FM [] [] [10, 11] τ (zL τ 11 f2) := (FM.refl τ).sL (by simp) f2
    have T2 := T.fm G2 (by decide) (by decide) (by decide) (by decide) (by decide)
    obtain ⟨f3, e3, hf3, hf4⟩ := km_c97 T2 hS1 (f_X12_carry_c2 n) (nI S.M) (show i < 8 by omega)
    have G3 : FM [] [] [10, 11] τ (zL (zL τ 11 f2) 10 f3) := G2.sL (by simp) f3
    have T3 := T.fm G3 (by decide) (by decide) (by decide) (by decide) (by decide)
    rw [f_X12_carry_c2, hm, if_neg (nI_ge (by omega) (by omega)), e, e2, e3]
    have hx : ∀ q, (zL (zL τ 11 f2) 10 f3).2 10 q = f3 q := fun q => by rw [zL_same]
    have hy : ∀ q, (zL τ 11 f2).2 10 q = τ.2 10 q := fun q => by rw [zL_ne' _ _ (by decide)]
    obtain ⟨τ1, e4, h3, G4⟩ := ih (i + 1) n (zL (zL τ 11 f2) 10 f3) T3 (by rw [G3.o 12 (by decide)]; exact hm) (fun k hk => h12 k hk) (fun m h3 h4 t ht => by
      rw [hx, hf4 _ (by omega), hy]; exact h1 m (by omega) h4 t ht) (fun m h3 t ht => by
      rw [hx]
      by_cases q : m = i
      · rw [q, hf3 t ht, zL_same, hf2 t ht]
        unfold nv
        by_cases w : S1.c t < 10 ^ S.L
        · rw [if_pos w, if_pos w, zL_ne' _ _ (show (10 : Nat) ≠ 11 by decide)]
          exact h1 i (by omega) (by omega) _ (w2 t ht w).1
        · rw [if_neg w, if_neg w]
      · rw [hf4 _ (by omega), hy]; exact h2 m (by omega) t ht) (by omega) (by omega)
    exact ⟨τ1, e4, h3, G3.trans G4⟩
end
