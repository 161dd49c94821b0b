theorem ClC.fr {S : Sh} {C : Cl} {kb tb : Nat} {s s1 : SS} {A B : List Nat} (h : ClC S C kb tb s) (hC : ClOk C) (hF : FR A B s s1) (hA : ∀ m, m < 8 → kb + m ∉ A) (hB : ∀ m, m < 8 → tb + m ∉ B) : ClC S C kb tb s1 := by
  have h8 := hC.m8
  refine ⟨fun m hm => ?_, fun m hm => ?_, fun m hm t ht => ?_⟩
  · rw [hF.1 _ (hA m (by omega))]; exact h.kd m hm
  · rw [hF.1 _ (hA m (by omega))]; exact h.fg m hm
  · rw [hF.2 _ (hB m (by omega))]; exact h.tl m hm t ht
theorem ClM.fm {S : Sh} {C : Cl} {J A B : List Nat} {s s1 : SS} (h : ClM S C s) (hF : FM J A B s s1) (h0 : 12 ∉ J) (a1 : 8 ∉ A) (a2 : 9 ∉ A) (a3 : 10 ∉ B) : ClM S C s1 :=
  ⟨hF.o 12 h0 ▸ h.mm, hF.i 8 (by decide) a1 ▸ h.kd, hF.i 9 (by decide) a2 ▸ h.fg, hF.l 10 a3 ▸ h.tl⟩
theorem Rw.fr {S : Sh} {s s1 : SS} {A B : List Nat} {k : Nat} {v : Nat → Int64} (h : Rw S s k v) (hF : FR A B s s1) (hk : k ∉ B) : Rw S s1 k v := fun t ht => by rw [hF.2 k hk]; exact h t ht
theorem Rw.fm {S : Sh} {s s1 : SS} {J A B : List Nat} {k : Nat} {v : Nat → Int64} (h : Rw S s k v) (hF : FM J A B s s1) (hk : k ∉ B) : Rw S s1 k v := fun t ht => by rw [hF.l k hk]; exact h t ht
section
variable {S : Sh} {C : Cl} {s τ : SS}
theorem frL (s : SS) (k : Nat) (f : Nat → Int64) : FR [] [k] s (zL s k f) := (FR.refl s).sL (by simp) f
theorem fmL (s : SS) (k : Nat) (f : Nat → Int64) : FM [] [] [k] s (zL s k f) := (FM.refl s).sL (by simp) f
theorem p_take (hS : ShOk S) (hC : ClOk C) (hT : TmC S s) (h : ClC S C 30 46 s) {m : Nat} (hm : m < C.mm) {k : Nat} (hk : 21 ≤ k ∧ k ≤ 25) : ∃ f, f_X8_takeNumbers (30 + m) k s = some ((), zL s k f) ∧ ∀ t, t < S.M → f t = num S C m t := by
  have hM : S.M ≤ 462 := (cM_pos hS.ln).2
  have h8 := hC.m8
  obtain ⟨z1, z2, z3⟩ := ZOx_k (m := m) (by omega)
  have key : ∀ j i n f, i + j = S.M → j < n → (∀ t, t < i → f t = num S C m t) → ∃ f', f_X8_takeNumbers_c2 n (30 + m) k (nI i) (zL s k f) = some ((), zL s k f') ∧ ∀ t, t < S.M → f' t = num S C m t := by
    intro j
    induction j with
    | zero =>
      intro i n f hi hn hf
      obtain ⟨n, rfl⟩ : ∃ m', n = m' + 1 := ⟨n - 1, by omega⟩
      refine ⟨f, ?_, fun t ht => hf t (by omega)⟩
      rw [f_X8_takeNumbers_c2, if_pos z1, zL_1, hT.M, if_pos (nI_le (by omega) (by omega))]
    | succ j ih =>
      intro i n f hi hn hf
      obtain ⟨n, rfl⟩ : ∃ m', n = m' + 1 := ⟨n - 1, by omega⟩
      have hF := frL s k f
      have e := p_num hS hC (hT.fr hF (by decide) (by decide) (by decide) (by decide) (by decide) (by decide) (by simp; omega)) (h.fr hC hF (by simp) (fun m hm => by simp; omega)) hm (show i < S.M by omega)
      rw [f_X8_takeNumbers_c2, if_pos z1, zL_1, hT.M, if_neg (nI_ge (by omega) (by omega)), e, zbd_s, if_pos (zok_nI (Ox_r hk) (by omega) (by decide)), nI_clamp (by omega), nI_1, zSL_eq, zL_zL, zL_same]
      exact ih (i + 1) n _ (by omega) (by omega) (updL_lt hf rfl)
  obtain ⟨f, e, h2⟩ := key S.M 0 ZF (s.2 k) (by omega) (by unfold ZF; omega) (fun t ht => by omega)
  rw [zL_self, nI_0] at e
  exact ⟨f, by rw [f_X8_takeNumbers, if_pos z1, e], h2⟩
theorem pm_take (hS : ShOk S) (hC : ClOk C) (hH : ShM S τ) (hT : TmM S τ) (h : ClM S C τ) {m : Nat} (hm : m < C.mm) {k : Nat} (hk : Om k = .inr (1, 462, [])) (h6 : k ≠ 6) (h10 : k ≠ 10) : ∃ f, f_X12_layClass (nI m) k τ = some ((), zL τ k f) ∧ ∀ t, t < S.M → f t = num S C m t := by
  have hM : S.M ≤ 462 := (cM_pos hS.ln).2
  have h8 := hC.m8
  have key : ∀ j i n f, i + j = S.M → j < n → (∀ t, t < i → f t = num S C m t) → ∃ f', f_X12_layClass_c2 n (nI m) k (nI i) (zL τ k f) = some ((), zL τ k f') ∧ ∀ t, t < S.M → f' t = num S C m t := by
    intro j
    induction j with
    | zero =>
      intro i n f hi hn hf
      obtain ⟨n, rfl⟩ : ∃ m', n = m' + 1 := ⟨n - 1, by omega⟩
      refine ⟨f, ?_, fun t ht => hf t (by omega)⟩
      rw [f_X12_layClass_c2, zL_1, hT.M, if_pos (nI_le (by omega) (by omega))]
    | succ j ih =>
      intro i n f hi hn hf
      obtain ⟨n, rfl⟩ : ∃ m', n = m' + 1 := ⟨n - 1, by omega⟩
      have hF := fmL τ k f
      have e := pm_num hS hC (hH.fm hF (by decide) (by decide) (by decide) (by decide) (by decide) (by decide) (by decide)) (hT.fm hF (by decide) (by decide) (by decide) (by decide) (by simp; omega)) (h.fm hF (by decide) (by decide) (by decide) (by simp; omega)) hm (show i < S.M by omega)
      rw [f_X12_layClass_c2, zL_1, hT.M, if_neg (nI_ge (by omega) (by omega)), e, zbd_s, if_pos (zok_nI hk (by omega) (by decide)), nI_clamp (by omega), nI_1, zSL_eq, zL_zL, zL_same]
      exact ih (i + 1) n _ (by omega) (by omega) (updL_lt hf rfl)
  obtain ⟨f, e, h2⟩ := key S.M 0 ZF (τ.2 k) (by omega) (by unfold ZF; omega) (fun t ht => by omega)
  rw [zL_self, nI_0] at e
  exact ⟨f, by rw [f_X12_layClass, e], h2⟩
/-! ===== rows of nothing, of one, copies ===== -/
def one (S : Sh) (t : Nat) : Int64 := if t + 1 = S.M then 1 else 0
theorem p_fillL {O : Nat → OD} {k n : Nat} {rs : List Nat} (x : Int64) (hO : O k = .inr (1, n, rs)) (hn : n < 1000000) (s : SS) : f_J7_fill_d0a16 O k x s = some ((), zL s k (fun j => if j < n then x else s.2 k j)) := by
  rw [f_J7_fill_d0a16, if_pos (zia_at hO), zlen_at hO]
  have key : ∀ m i (s : SS), i ≤ n → n - i < m → f_J7_fill_d0a16_c6 O m k x (nI i) (nI n) s = some ((), zL s k (fun j => if i ≤ j ∧ j < n then x else s.2 k j)) := by
    intro m
    induction m with
    | zero => intro i s _ h; omega
    | succ m ih =>
      intro i s hi hm
      rw [f_J7_fill_d0a16_c6]
      rcases Nat.lt_or_ge i n with h | h
      · rw [if_neg (nI_ge h (by omega)), if_pos (zok_nI hO h (by omega)), nI_clamp (by omega), nI_1, ih (i + 1) _ (by omega) (by omega), zSL_eq, zL_zL, zL_same]
        refine congrArg (fun f => some ((), zL s k f)) (funext fun j => ?_)
        unfold vp_updL
        by_cases h1 : j = i
        · subst h1; simp [h]
        · by_cases h2 : i + 1 ≤ j ∧ j < n
          · rw [if_pos h2, if_pos (by omega)]
          · rw [if_neg h2, if_neg h1, if_neg (by omega)]
      · have e : i = n := by omega
        subst e
        rw [if_pos (nI_le (Nat.le_refl _) (by omega))]
        rw [show (fun j => if i ≤ j ∧ j < i then x else s.2 k j) = s.2 k from funext fun j => if_neg (by omega), zL_self]
  have h := key ZF 0 s (Nat.zero_le _) (by unfold ZF; omega)
  rw [nI_0] at h
  rw [h]
  simp
theorem p_zero (hS : ShOk S) {k : Nat} (hk : 21 ≤ k ∧ k ≤ 25) : ∃ f, f_X8_makeZero k s = some ((), zL s k f) ∧ ∀ t, t < S.M → f t = 0 := by
  have hM : S.M ≤ 462 := (cM_pos hS.ln).2
  refine ⟨_, by rw [f_X8_makeZero, p_fillL 0 (Ox_r hk) (by decide), zbd_s], fun t ht => if_pos (by omega)⟩
theorem p_one (hS : ShOk S) (hT : TmC S s) {k : Nat} (hk : 21 ≤ k ∧ k ≤ 25) : ∃ f, f_X8_makeOne k s = some ((), zL s k f) ∧ ∀ t, t < S.M → f t = one S t := by
  have hM := cM_pos hS.ln
  have hM1 : 1 ≤ S.M := hM.1
  have hM2 : S.M ≤ 462 := hM.2
  have e : (nI S.M : Int32) - 1 = nI (S.M - 1) := nIm1 (by omega)
  rw [f_X8_makeOne, p_fillL 0 (Ox_r hk) (by decide), zbd_s, zL_1, hT.M, if_neg (fun q => by have := (nI_pos1 (by omega)).mp q; omega), e, if_pos (zok_nI (Ox_r hk) (by omega) (by decide)), nI_clamp (by omega), zSL_eq, zL_zL, zL_same]
  refine ⟨_, rfl, fun t ht => ?_⟩
  unfold one vp_updL
  by_cases h : t + 1 = S.M
  · rw [if_pos h, if_pos (by omega)]
  · rw [if_neg h, if_neg (by omega)]
    exact if_pos (by omega)
theorem c_0 (hS : ShOk S) {t : Nat} (ht : t < S.M) : S.c t = 0 ↔ t + 1 = S.M := by
  have hM := (cM_pos hS.ln).1
  have h0 := cd_last hS.ln
  constructor
  · intro h
    have := cd_inj hS.ln ht (show cM S.L S.n - 1 < cM S.L S.n by omega) (h.trans h0.symm)
    have hM' : 1 ≤ S.M := hM
    show t + 1 = S.M
    have : t = S.M - 1 := this
    omega
  · intro h
    show cd S.L S.n t = 0
    rw [show t = cM S.L S.n - 1 from by show t = S.M - 1; omega]
    exact h0
theorem pm_one (hS : ShOk S) (hT : TmM S τ) {k : Nat} (hk : Om k = .inr (1, 462, [])) (h6 : k ≠ 6) : ∃ f, f_X12_layOne k τ = some ((), zL τ k f) ∧ ∀ t, t < S.M → f t = one S t := by
  have hM : S.M ≤ 462 := (cM_pos hS.ln).2
  have key : ∀ j i n f, i + j = S.M → j < n → (∀ t, t < i → f t = one S t) → ∃ f', f_X12_layOne_c2 n k (nI i) (zL τ k f) = some ((), zL τ k f') ∧ ∀ t, t < S.M → f' t = one S t := by
    intro j
    induction j with
    | zero =>
      intro i n f hi hn hf
      obtain ⟨n, rfl⟩ : ∃ m', n = m' + 1 := ⟨n - 1, by omega⟩
      refine ⟨f, ?_, fun t ht => hf t (by omega)⟩
      rw [f_X12_layOne_c2, zL_1, hT.M, if_pos (nI_le (by omega) (by omega))]
    | succ j ih =>
      intro i n f hi hn hf
      obtain ⟨n, rfl⟩ : ∃ m', n = m' + 1 := ⟨n - 1, by omega⟩
      have hc := (cd_lt hS.ln (show i < cM S.L S.n by show i < S.M; omega)).1
      have e0 := c_0 hS (show i < S.M by omega)
      rw [f_X12_layOne_c2, zL_1, hT.M, if_neg (nI_ge (by omega) (by omega)), if_pos (zin_nI (by omega) (by decide)), nI_clamp (by omega), hT.code i (by omega)]
      by_cases h : i + 1 = S.M
      · rw [if_pos (by rw [e0.mpr h]; rfl), f_X12_layOne_c26, if_pos (zok_nI hk (by omega) (by decide)), nI_clamp (by omega), nI_1, zSL_eq, zL_zL, zL_same]
        exact ih (i + 1) n _ (by omega) (by omega) (updL_lt hf (by unfold one; rw [if_pos h]))
      · rw [if_neg (show ¬ nI (S.c i) = 0 from fun q => h (e0.mp ((nI_eq (b := 0) (by show cd S.L S.n i < 2 ^ 31; omega) (by decide)).mp q))), f_X12_layOne_c26, if_pos (zok_nI hk (by omega) (by decide)), nI_clamp (by omega), nI_1, zSL_eq, zL_zL, zL_same]
        exact ih (i + 1) n _ (by omega) (by omega) (updL_lt hf (by unfold one; rw [if_neg h]))
  obtain ⟨f, e, h2⟩ := key S.M 0 ZF (τ.2 k) (by omega) (by unfold ZF; omega) (fun t ht => by omega)
  rw [zL_self, nI_0] at e
  exact ⟨f, by rw [f_X12_layOne, e], h2⟩
theorem pm_empty (hS : ShOk S) (hT : TmM S τ) {k : Nat} (hk : Om k = .inr (1, 462, [])) : ∃ f, f_X12_empty k τ = some ((), zL τ k f) ∧ ∀ t, t < S.M → f t = 0 := by
  have hM : S.M ≤ 462 := (cM_pos hS.ln).2
  have key : ∀ j i n f, i + j = S.M → j < n → (∀ t, t < i → f t = 0) → ∃ f', f_X12_empty_c2 n k (nI i) (zL τ k f) = some ((), zL τ k f') ∧ ∀ t, t < S.M → f' t = 0 := by
    intro j
    induction j with
    | zero =>
      intro i n f hi hn hf
      obtain ⟨n, rfl⟩ : ∃ m', n = m' + 1 := ⟨n - 1, by omega⟩
      refine ⟨f, ?_, fun t ht => hf t (by omega)⟩
      rw [f_X12_empty_c2, zL_1, hT.M, if_pos (nI_le (by omega) (by omega))]
    | succ j ih =>
      intro i n f hi hn hf
      obtain ⟨n, rfl⟩ : ∃ m', n = m' + 1 := ⟨n - 1, by omega⟩
      rw [f_X12_empty_c2, zL_1, hT.M, if_neg (nI_ge (by omega) (by omega)), if_pos (zok_nI hk (by omega) (by decide)), nI_clamp (by omega), nI_1, zSL_eq, zL_zL, zL_same]
      exact ih (i + 1) n _ (by omega) (by omega) (updL_lt (g := fun _ => 0) hf rfl)
  obtain ⟨f, e, h2⟩ := key S.M 0 ZF (τ.2 k) (by omega) (by unfold ZF; omega) (fun t ht => by omega)
  rw [zL_self, nI_0] at e
  exact ⟨f, by rw [f_X12_empty, e], h2⟩
theorem pm_copy (hS : ShOk S) (hT : TmM S τ) {k1 k2 : Nat} (hk1 : Om k1 = .inr (1, 462, [])) (hk2 : Om k2 = .inr (1, 462, [])) (hne : k1 ≠ k2) {v : Nat → Int64} (hv : Rw S τ k1 v) : ∃ f, f_X12_copyRow k1 k2 τ = some ((), zL τ k2 f) ∧ ∀ t, t < S.M → f t = v t := by
  have hM : S.M ≤ 462 := (cM_pos hS.ln).2
  have key : ∀ j i n f, i + j = S.M → j < n → (∀ t, t < i → f t = v t) → ∃ f', f_X12_copyRow_c2 n k1 k2 (nI i) (zL τ k2 f) = some ((), zL τ k2 f') ∧ ∀ t, t < S.M → f' t = v t := by
    intro j
    induction j with
    | zero =>
      intro i n f hi hn hf
      obtain ⟨n, rfl⟩ : ∃ m', n = m' + 1 := ⟨n - 1, by omega⟩
      refine ⟨f, ?_, fun t ht => hf t (by omega)⟩
      rw [f_X12_copyRow_c2, zL_1, hT.M, if_pos (nI_le (by omega) (by omega))]
    | succ j ih =>
      intro i n f hi hn hf
      obtain ⟨n, rfl⟩ : ∃ m', n = m' + 1 := ⟨n - 1, by omega⟩
      rw [f_X12_copyRow_c2, zL_1, hT.M, if_neg (nI_ge (by omega) (by omega)), if_pos (zok_nI hk1 (by omega) (by decide)), if_pos (zok_nI hk2 (by omega) (by decide)), nI_clamp (by omega), nI_1, zL_ne' τ f hne, zSL_eq, zL_zL, zL_same]
      exact ih (i + 1) n _ (by omega) (by omega) (updL_lt hf (hv i (by omega)))
  obtain ⟨f, e, h2⟩ := key S.M 0 ZF (τ.2 k2) (by omega) (by unfold ZF; omega) (fun t ht => by omega)
  rw [zL_self, nI_0] at e
  exact ⟨f, by rw [f_X12_copyRow, e], h2⟩
end
