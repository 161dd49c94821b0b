section
variable {S : Sh} {C C1 : Cl} {σ σ1 τ τ1 : SS}
/-! ===== of SIZE one ===== -/
def os1 (S : Sh) (v : Nat → Int64) : Nat → Nat → Bool
  | _, 0 => true
  | i, j + 1 => (decide (sz (S.c i) = 1) || decide (v i = 0)) && os1 S v (i + 1) j
theorem p_one1 (K : KC S C σ) {m : Nat} (hm : m < C.mm) : f_X4_isOfSizeOne (30 + m) σ = some (if os1 S (num S C m) 0 S.M = true then 1 else 0, σ) := by
  have hM := K.M
  have h8 := K.okC.m8
  have hz := (ZOx_k (m := m) (by omega)).1
  have key : ∀ j i n, i + j = S.M → j < n → f_X4_isOfSizeOne_c2 n (30 + m) (nI i) σ = some (if os1 S (num S C m) i j = true then 1 else 0, σ) := by
    intro j
    induction j with
    | zero =>
      intro i n hi hn
      obtain ⟨n, rfl⟩ : ∃ m', n = m' + 1 := ⟨n - 1, by omega⟩
      rw [f_X4_isOfSizeOne_c2, if_pos hz, K.tm.M, if_pos (nI_le (by omega) (by omega))]
      rfl
    | succ j ih =>
      intro i n hi hn
      obtain ⟨n, rfl⟩ : ∃ m', n = m' + 1 := ⟨n - 1, by omega⟩
      have h5 := sz_le K.ok.ln (show i < cM S.L S.n from (show i < S.M by omega))
      have hn5 := K.ok.n5
      have h5' : sz (S.c i) ≤ S.n := h5
      rw [f_X4_isOfSizeOne_c2, if_pos hz, K.tm.M, if_neg (nI_ge (by omega) (by omega)), if_pos (zin_nI (show i < 462 by omega) (by decide)), nI_clamp (by omega), K.tm.size i (by omega), f_X4_isOfSizeOne_c33, if_pos hz, nI_1, ih (i + 1) n (by omega) (by omega), p_num K.ok K.okC K.tm K.cl hm (show i < S.M by omega), zbd_s, f_X4_isOfSizeOne_c33, if_pos hz, nI_1, ih (i + 1) n (by omega) (by omega), os1]
      by_cases q : sz (S.c i) = 1
      · rw [if_pos (show nI (sz (S.c i)) = 1 by rw [q]; rfl)]
        simp [q]
      · rw [if_neg (fun w : nI (sz (S.c i)) = 1 => q ((nI_eq (b := 1) (by omega) (by decide)).mp w))]
        by_cases w : num S C m i = 0
        · rw [if_pos ((lg_cmp_eq _ _).mpr w)]
          simp [w]
        · rw [if_neg (fun x => w ((lg_cmp_eq _ _).mp x))]
          simp [q, w]
  rw [f_X4_isOfSizeOne, if_pos hz]
  have := key S.M 0 ZF (by omega) (by unfold ZF; omega)
  rw [nI_0] at this
  exact this
theorem pm_one1 (L : KM S C τ) {m : Nat} (hm : m < C.mm) : f_X12_isOfOne (nI m) τ = some (if os1 S (num S C m) 0 S.M = true then 1 else 0, τ) := by
  have hM := L.M
  have h8 := L.okC.m8
  have key : ∀ j i n, i + j = S.M → j < n → f_X12_isOfOne_c2 n (nI m) (nI i) τ = some (if os1 S (num S C m) i j = true then 1 else 0, τ) := by
    intro j
    induction j with
    | zero =>
      intro i n hi hn
      obtain ⟨n, rfl⟩ : ∃ m', n = m' + 1 := ⟨n - 1, by omega⟩
      rw [f_X12_isOfOne_c2, L.tm.M, if_pos (nI_le (by omega) (by omega))]
      rfl
    | succ j ih =>
      intro i n hi hn
      obtain ⟨n, rfl⟩ : ∃ m', n = m' + 1 := ⟨n - 1, by omega⟩
      have h5 := sz_le L.ok.ln (show i < cM S.L S.n from (show i < S.M by omega))
      have hn5 := L.ok.n5
      have h5' : sz (S.c i) ≤ S.n := h5
      rw [f_X12_isOfOne_c2, L.tm.M, if_neg (nI_ge (by omega) (by omega)), if_pos (zin_nI (show i < 462 by omega) (by decide)), nI_clamp (by omega), L.tm.size i (by omega), f_X12_isOfOne_c33, nI_1, ih (i + 1) n (by omega) (by omega), pm_num L.ok L.okC L.sh L.tm L.cl hm (show i < S.M by omega), zbd_s, f_X12_isOfOne_c33, nI_1, ih (i + 1) n (by omega) (by omega), os1]
      by_cases q : sz (S.c i) = 1
      · rw [if_pos (show nI (sz (S.c i)) = 1 by rw [q]; rfl)]
        simp [q]
      · rw [if_neg (fun w : nI (sz (S.c i)) = 1 => q ((nI_eq (b := 1) (by omega) (by decide)).mp w))]
        by_cases w : num S C m i = 0
        · rw [if_pos ((lg_cmp_eq _ _).mpr w)]
          simp [w]
        · rw [if_neg (fun x => w ((lg_cmp_eq _ _).mp x))]
          simp [q, w]
  rw [f_X12_isOfOne]
  have := key S.M 0 ZF (by omega) (by unfold ZF; omega)
  rw [nI_0] at this
  exact this
def cls (C : Cl) (y : Nat → Int64) (i : Nat) : Nat := (cidx C.mm (y i)).getD 0
def allo (S : Sh) (C : Cl) (y : Nat → Int64) : Nat → Nat → Bool
  | _, 0 => true
  | i, j + 1 => os1 S (num S C (cls C y i)) 0 S.M && allo S C y (i + 1) j
theorem k_canCut (K : KC S C σ) {y : Nat → Int64} {l z : Nat} (hl : l < 3) (hz : z ≤ 20) (h28 : σ.1 28 l = nI z) (hy : ∀ i, i < z → σ.2 (77 + l) i = y i) : f_X11_canCutOut (nI l) σ = some (if z ≤ S.n ∧ (allc C y 0 z && allo S C y 0 z) = true then 1 else 0, σ) := by
  have hn5 := K.ok.n5
  have key : ∀ j i n, i + j = z → j < n → f_X11_canCutOut_c25 n (nI l) (nI i) σ = some (if (allc C y i j && allo S C y i j) = true then 1 else 0, σ) := by
    intro j
    induction j with
    | zero =>
      intro i n hi hn
      obtain ⟨n, rfl⟩ : ∃ m', n = m' + 1 := ⟨n - 1, by omega⟩
      rw [f_X11_canCutOut_c25, l_size hl h28, zbd_s, if_pos (nI_le (by omega) (by omega))]
      rfl
    | succ j ih =>
      intro i n hi hn
      obtain ⟨n, rfl⟩ : ∃ m', n = m' + 1 := ⟨n - 1, by omega⟩
      rw [f_X11_canCutOut_c25, l_size hl h28, zbd_s, if_neg (nI_ge (by omega) (by omega)), l_val hl hz h28 (show i < z by omega), zbd_s, hy i (by omega), allc, allo]
      cases e : cidx C.mm (y i) with
      | none =>
        rw [K.clN e, zbd_s, zbn_n]
        simp
      | some m =>
        have hm := (cidx_lt e).1
        rw [K.clS e, zbd_s, zbn_s, if_pos (ZOx_k (by have := K.okC.m8; omega)).1, p_one1 K hm, zbd_s, nI_1, ih (i + 1) n (by omega) (by omega), show cls C y i = m by unfold cls; rw [e]; rfl]
        by_cases q : os1 S (num S C m) 0 S.M = true
        · rw [if_pos q, if_neg n10]
          simp [q]
        · rw [if_neg q, if_pos rfl]
          simp [q]
  rw [f_X11_canCutOut, l_size hl h28, zbd_s, p_dim (Or.inl rfl) K.sh, zbd_s]
  by_cases q : z ≤ S.n
  · rw [if_pos (nI_le q (by omega))]
    have := key z 0 ZF (by omega) (by unfold ZF; omega)
    rw [nI_0] at this
    rw [this]
    simp [q]
  · rw [if_neg (nI_ge (by omega) (by omega)), if_neg (fun w => q w.1)]
/-! ===== what is cut out: canonical ===== -/
theorem k_powmet (S : Sh) (C : Cl) {v w : Nat → Int64} {k : Nat} (hk : k < 1000) : ∀ j i n σ, KC S C σ → Rw S σ 21 (pw S v w i) → Rw S σ 22 w → i + j = k → j < n → ∃ σ1, f_X11_canonicalOfCut_c35 n (nI k) (nI i) σ = some (mt S (pw S v w k), σ1) ∧ FR XA XB σ σ1 := by
  intro j
  induction j with
  | zero =>
    intro i n σ K r1 r2 hi hn
    obtain ⟨n, rfl⟩ : ∃ m', n = m' + 1 := ⟨n - 1, by omega⟩
    have : i = k := by omega
    subst this
    exact ⟨σ, by rw [f_X11_canonicalOfCut_c35, if_pos (nI_le (by omega) (by omega)), p_met K.ok K.tm (by decide) r1, zbd_s], FR.refl σ⟩
  | succ j ih =>
    intro i n σ K r1 r2 hi hn
    obtain ⟨n, rfl⟩ : ∃ m', n = m' + 1 := ⟨n - 1, by omega⟩
    obtain ⟨σ1, e1, r3, F1⟩ := p_mulF K.ok K.tm (k1 := 21) (k2 := 22) (by decide) (by decide) (by decide) r1 r2
    have r4 := r2.fr F1 (by decide)
    have F1 : FR XA XB σ σ1 := F1.mono (by decide) (by decide)
    rw [f_X11_canonicalOfCut_c35, if_neg (nI_ge (by omega) (by omega)), e1, zbd_s, nI_1]
    obtain ⟨σ2, e2, F2⟩ := ih (i + 1) n σ1 (K.sc F1) r3 r4 (by omega) (by omega)
    exact ⟨σ2, e2, F1.trans F2⟩
theorem km_powmet (S : Sh) (C : Cl) {v w : Nat → Int64} {k : Nat} (hk : k < 1000) : ∀ j i n τ, KM S C τ → Rw S τ 13 (pw S v w i) → Rw S τ 14 w → i + j = k → j < n → ∃ τ1, f_X12_cutOut_c137 n (nI k) (nI i) τ = some (mt S (pw S v w k), τ1) ∧ FM MJ MA MB τ τ1 := by
  intro j
  induction j with
  | zero =>
    intro i n τ L r1 r2 hi hn
    obtain ⟨n, rfl⟩ : ∃ m', n = m' + 1 := ⟨n - 1, by omega⟩
    have : i = k := by omega
    subst this
    exact ⟨τ, by rw [f_X12_cutOut_c137, if_pos (nI_le (by omega) (by omega)), pm_met L.ok L.tm rfl r1, zbd_s], FM.refl τ⟩
  | succ j ih =>
    intro i n τ L r1 r2 hi hn
    obtain ⟨n, rfl⟩ : ∃ m', n = m' + 1 := ⟨n - 1, by omega⟩
    obtain ⟨τ1, e1, r3, G1⟩ := km_mul L (k1 := 13) (k2 := 14) rfl rfl (by decide) (by decide) r1 r2
    have r4 := r2.fm G1 (by decide)
    have G1 : FM MJ MA MB τ τ1 := G1.mono (by decide) (by decide) (by decide)
    rw [f_X12_cutOut_c137, if_neg (nI_ge (by omega) (by omega)), e1, zbd_s, nI_1]
    obtain ⟨τ2, e2, G2⟩ := ih (i + 1) n τ1 (L.sc G1) r3 r4 (by omega) (by omega)
    exact ⟨τ2, e2, G1.trans G2⟩
/-! ===== what is cut out: Euler ===== -/
def cq (S : Sh) (C : Cl) (y : Nat → Int64) : Nat → Nat → Int64
  | 0 => chn S S.f
  | i + 1 => aa S (cq S C y i) (num S C (cls C y i)) S.n
theorem k_cut (S : Sh) (C : Cl) {y : Nat → Int64} {l z : Nat} (hl : l < 3) (hz : z ≤ 20) (x : Int32) {P : Nat → Int64} (ha : ∀ i, i < z → (cidx C.mm (y i)).isSome = true) : ∀ j i n σ, KC S C σ → σ.1 28 l = nI z → (∀ i, i < z → σ.2 (77 + l) i = y i) → Rw S σ 21 P → Rw S σ 23 (cq S C y i) → i + j = z → j < n →
    ∃ σ1, f_X11_eulerOfCut_c28 n (nI l) x (nI i) σ = some (mt S (mul S P (kp S x (cq S C y z))), σ1) ∧ FR XA XB σ σ1 := by
  intro j
  induction j with
  | zero =>
    intro i n σ K h28 hy r1 r2 hi hn
    obtain ⟨n, rfl⟩ : ∃ m', n = m' + 1 := ⟨n - 1, by omega⟩
    have : i = z := by omega
    subst this
    obtain ⟨σ1, e1, r3, F1⟩ := k_keep K (k := 23) (by decide) r2 x
    have r4 := r1.fr F1 (by decide)
    have F1 : FR XA XB σ σ1 := F1.mono (by decide) (by decide)
    have K1 := K.sc F1
    obtain ⟨σ2, e2, r5, F2⟩ := p_mulF K1.ok K1.tm (k1 := 21) (k2 := 23) (by decide) (by decide) (by decide) r4 r3
    have F2 : FR XA XB σ1 σ2 := F2.mono (by decide) (by decide)
    exact ⟨σ2, by rw [f_X11_eulerOfCut_c28, l_size hl h28, zbd_s, if_pos (nI_le (by omega) (by omega)), e1, zbd_s, e2, zbd_s, p_met K.ok (K1.sc F2).tm (by decide) r5, zbd_s], F1.trans F2⟩
  | succ j ih =>
    intro i n σ K h28 hy r1 r2 hi hn
    obtain ⟨n, rfl⟩ : ∃ m', n = m' + 1 := ⟨n - 1, by omega⟩
    obtain ⟨m, e⟩ := Option.isSome_iff_exists.mp (ha i (by omega))
    have hm := (cidx_lt e).1
    have ec : cls C y i = m := by unfold cls; rw [e]; rfl
    obtain ⟨σ1, e1, r3, F1⟩ := k_take K hm (k := 22) (by decide)
    have q1 := r1.fr F1 (by decide)
    have q2 := r2.fr F1 (by decide)
    have F1 : FR XA XB σ σ1 := F1.mono (by decide) (by decide)
    have K1 := K.sc F1
    obtain ⟨σ2, e2, r5, F2⟩ := k_div K1 q2 r3
    have q1 := q1.fr F2 (by decide)
    have F2 : FR XA XB σ1 σ2 := F2.mono (by decide) (by decide)
    have FF := F1.trans F2
    rw [f_X11_eulerOfCut_c28, l_size hl h28, zbd_s, if_neg (nI_ge (by omega) (by omega)), l_val hl hz h28 (show i < z by omega), zbd_s, hy i (by omega), K.clS e, zbd_s, zbn_s, if_pos (ZOx_k (by have := K.okC.m8; omega)).1, e1, zbd_s, e2, zbd_s, f_X11_eulerOfCut_c93, nI_1]
    obtain ⟨σ3, e3, F3⟩ := ih (i + 1) n σ2 (K.sc FF) (by rw [FF.1 28 (by decide)]; exact h28) (fun i hi => by rw [FF.2 _ (show 77 + l ∉ XB by simp; omega)]; exact hy i hi) q1 (by
      show Rw S σ2 23 (aa S (cq S C y i) (num S C (cls C y i)) S.n)
      rw [ec]; exact r5) (by omega) (by omega)
    exact ⟨σ3, e3, FF.trans F3⟩
theorem km_cut (S : Sh) (C : Cl) {y : Nat → Int64} {l z : Nat} (hl : l < 3) (hz : z ≤ 20) (x : Int32) (ha : ∀ i, i < z → (cidx C.mm (y i)).isSome = true) : ∀ j i n τ, KM S C τ → τ.1 23 l = nI z → (∀ i, i < z → τ.2 24 (20 * l + i) = y i) → Rw S τ 15 (cq S C y i) → i + j = z → j < n →
    ∃ τ1, f_X12_layCut_c10 n (nI l) x (nI i) τ = some ((), τ1) ∧ Rw S τ1 15 (kp S x (cq S C y z)) ∧ FM MJ MA MB τ τ1 := by
  intro j
  induction j with
  | zero =>
    intro i n τ L h23 hy r2 hi hn
    obtain ⟨n, rfl⟩ : ∃ m', n = m' + 1 := ⟨n - 1, by omega⟩
    have : i = z := by omega
    subst this
    obtain ⟨τ1, e1, r3, G1⟩ := km_keep15 L r2 x
    exact ⟨τ1, by rw [f_X12_layCut_c10, if_pos (zin_nI hl (by decide)), nI_clamp (by omega), h23, if_pos (nI_le (by omega) (by omega)), e1], r3, G1.mono (by decide) (by decide) (by decide)⟩
  | succ j ih =>
    intro i n τ L h23 hy r2 hi hn
    obtain ⟨n, rfl⟩ : ∃ m', n = m' + 1 := ⟨n - 1, by omega⟩
    obtain ⟨m, e⟩ := Option.isSome_iff_exists.mp (ha i (by omega))
    obtain ⟨hm, hy32⟩ := cidx_lt e
    have h8 := L.okC.m8
    have ec : cls C y i = m := by unfold cls; rw [e]; rfl
    obtain ⟨τ1, e1, r3, G1⟩ := km_take L hm (k := 14) rfl (by decide) (by decide)
    have q2 := r2.fm G1 (by decide)
    have G1 : FM MJ MA MB τ τ1 := G1.mono (by decide) (by decide) (by decide)
    have L1 := L.sc G1
    obtain ⟨τ2, e2, r5, G2⟩ := km_div L1 (f_X12_layCut_c10 n) (nI l) x (nI i) q2 r3
    have G2 : FM MJ MA MB τ1 τ2 := G2.mono (by decide) (by decide) (by decide)
    have GG := G1.trans G2
    rw [f_X12_layCut_c10, if_pos (zin_nI hl (by decide)), nI_clamp (by omega), h23, if_neg (nI_ge (by omega) (by omega)), i60, if_pos (zin_nI (by omega) (by decide)), nI_clamp (by omega), hy i (by omega), y32 hy32 (by omega), e1, zbd_s, e2, nI_1]
    obtain ⟨τ3, e3, r6, G3⟩ := ih (i + 1) n τ2 (L.sc GG) (by rw [GG.i 23 (by decide) (by decide)]; exact h23) (fun i hi => by rw [GG.l 24 (by decide)]; exact hy i hi) (by
      show Rw S τ2 15 (aa S (cq S C y i) (num S C (cls C y i)) S.n)
      rw [ec]; exact r5) (by omega) (by omega)
    exact ⟨τ3, e3, r6, GG.trans G3⟩
theorem allc_all {C : Cl} {y : Nat → Int64} : ∀ j i, allc C y i j = true → ∀ k, i ≤ k → k < i + j → (cidx C.mm (y k)).isSome = true
  | 0, i, _, k, h1, h2 => absurd h2 (by omega)
  | j + 1, i, h, k, h1, h2 => by
    rw [allc, Bool.and_eq_true] at h
    by_cases q : k = i
    · rw [q]; exact h.1
    · exact allc_all j (i + 1) h.2 k (by omega) (by omega)
end
