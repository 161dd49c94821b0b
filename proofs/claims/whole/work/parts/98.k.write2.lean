section
variable {S : Sh} {C : Cl} {σ σ1 τ τ1 : SS}
theorem ch_ok : ∀ v, v < 130 → ((nI v).toUInt32 % 65536).toInt32 = nI v ∧ znar .char (nI v) = true := by decide +kernel
theorem p_signOf (hS : ShOk S) (h : ShC S 3 15 σ) {k : Nat} (hk : k < 8) : f_X7_signOf 3 (nI k) σ = some (nI (sgn S k), σ) := by
  have hso := hS.so
  have hf1 := hS.f1
  have hf3 := hS.f3
  rw [f_X7_signOf, if_pos (show zis Ox 7 3 = true from rfl), h.f, h.so]
  unfold sgn
  by_cases h1 : k < S.f
  · have e : (97 : Int32) + nI k = nI (97 + k) := by rw [show (97 : Int32) = nI 97 from rfl, nI_add]
    rw [if_neg (nI_ge h1 (by omega)), if_pos h1, e, (ch_ok (97 + k) (by omega)).1, if_pos (ch_ok (97 + k) (by omega)).2]
  rw [if_pos (nI_le (by omega) (by omega)), if_neg h1]
  by_cases q2 : S.so = 2
  · rw [if_pos (show nI S.so = 2 by rw [q2]; rfl), if_pos q2, if_pos (show znar .char 118 = true from rfl)]
    rfl
  rw [if_neg (fun w : nI S.so = 2 => q2 ((nI_eq (b := 2) (by omega) (by decide)).mp w)), if_neg q2]
  by_cases q0 : S.so = 0
  · have e : (112 : Int32) + nI k - nI S.f = nI (112 + (k - S.f)) := by
      rw [show (112 : Int32) = nI 112 from rfl, nI_add, pk_sub (by omega)]
      congr 1
      omega
    rw [if_pos (show nI S.so = 0 by rw [q0]; rfl), if_pos q0, e, (ch_ok _ (by omega)).1, if_pos (ch_ok _ (by omega)).2]
  · have e : (117 : Int32) + nI k - nI S.f = nI (117 + (k - S.f)) := by
      rw [show (117 : Int32) = nI 117 from rfl, nI_add, pk_sub (by omega)]
      congr 1
      omega
    rw [if_neg (fun w : nI S.so = 0 => q0 ((nI_eq (b := 0) (by omega) (by decide)).mp w)), if_neg q0, e, (ch_ok _ (by omega)).1, if_pos (ch_ok _ (by omega)).2]
theorem KC.pap (h : KC S C σ) (hF : FR [10, 80, 81] [] σ σ1) : KC S C σ1 :=
  ⟨h.ok, h.okC, h.sh.fr hF (by decide) (by decide) (by decide) (by decide), by rw [hF.1 1 (by decide)]; exact h.mm, h.cl.fr h.okC hF (fun m hm => by simp; omega) (fun m hm => by simp),
    h.tm.fr hF (by decide) (by decide) (by decide) (by decide) (by decide) (by decide) (by decide)⟩
theorem KM.pap (h : KM S C τ) (hG : FM [58] [21, 38] [] τ τ1) : KM S C τ1 :=
  ⟨h.ok, h.okC, h.sh.fm hG (by decide) (by decide) (by decide) (by decide) (by decide) (by decide) (by decide), h.cl.fm hG (by decide) (by decide) (by decide) (by decide), h.tm.fm hG (by decide) (by decide) (by decide) (by decide) (by decide)⟩
/-- a TERM's letters -/
theorem lets (S : Sh) (C : Cl) {c t : Nat} (ht : t < S.M) (hc : S.c t = c) (rc : Int32 → Int32 → SS → Option (Int32 × SS)) (x1 : Int32) : ∀ j k n n' l σ τ, KC S C σ → KM S C τ → PW l σ τ → l + 3 * j < 800000 → k + j = S.L → j < n → j < n' →
    ∃ l' σ1 τ1, f_X6_addMember_c57 n 3 (nI (c / 10 ^ k)) (nI k) σ = some ((), σ1) ∧ f_X12_write_c100 rc n' x1 (nI t) (nI k) τ = rc x1 (nI (t + 1)) τ1 ∧ PW l' σ1 τ1 ∧ l ≤ l' ∧ l' ≤ l + 3 * j ∧ FR [10, 80, 81] [] σ σ1 ∧ FM [58] [21, 38] [] τ τ1 := by
  intro j
  induction j with
  | zero =>
    intro k n n' l σ τ K L A hl hk hn hn'
    obtain ⟨n, rfl⟩ : ∃ q, n = q + 1 := ⟨n - 1, by omega⟩
    obtain ⟨n', rfl⟩ : ∃ q, n' = q + 1 := ⟨n' - 1, by omega⟩
    have hL6 : S.L ≤ 6 := K.ok.ln.2.1
    exact ⟨l, σ, τ, by rw [f_X6_addMember_c57, if_pos (show zis Ox 7 3 = true from rfl), p_letters K.ok (Or.inl rfl) K.sh, zbd_s, if_pos (nI_le (by omega) (by omega))], by rw [f_X12_write_c100, pm_letters L.ok L.sh, zbd_s, if_pos (nI_le (by omega) (by omega)), f_X12_write_c164, nI_1], A, by omega, by omega, FR.refl σ, FM.refl τ⟩
  | succ j ih =>
    intro k n n' l σ τ K L A hl hk hn hn'
    obtain ⟨n, rfl⟩ : ∃ q, n = q + 1 := ⟨n - 1, by omega⟩
    obtain ⟨n', rfl⟩ : ∃ q, n' = q + 1 := ⟨n' - 1, by omega⟩
    have hL6 : S.L ≤ 6 := K.ok.ln.2.1
    have hM := K.M
    have z3 : zis Ox 7 3 = true := rfl
    have hc6 : c < 600000 := by rw [← hc]; exact (cd_lt K.ok.ln (show t < cM S.L S.n from ht)).1
    have hck : c / 10 ^ k ≤ c := Nat.div_le_self _ _
    have hd := dig_lt c k
    have hdd : c / 10 ^ k / 10 = c / 10 ^ (k + 1) := by rw [Nat.div_div_eq_div_mul, ← Nat.pow_succ]
    have e10 : (10 : Int32) = nI 10 := rfl
    have er : nI (c / 10 ^ k) - nI (c / 10 ^ k) / nI 10 * nI 10 = nI (dig c k) := pk_rem (by omega) (by decide) (by decide)
    have ed : nI (c / 10 ^ k) / nI 10 = nI (c / 10 ^ (k + 1)) := by rw [pk_div (by omega) (by decide) (by decide), hdd]
    -- the exponent, then the next letter
    have step2 : ∀ l0 σ0 τ0, KC S C σ0 → KM S C τ0 → PW l0 σ0 τ0 → l0 ≤ l + 1 → l ≤ l0 → FR [10, 80, 81] [] σ σ0 → FM [58] [21, 38] [] τ τ0 →
        ∃ l' σ1 τ1, f_X6_addMember_c95 (f_X6_addMember_c57 n) 3 (nI (c / 10 ^ (k + 1))) (nI k) (nI (dig c k)) σ0 = some ((), σ1) ∧ f_X12_write_c137 (f_X12_write_c100 rc n') rc x1 (nI t) (nI k) (nI (dig c k)) τ0 = rc x1 (nI (t + 1)) τ1 ∧ PW l' σ1 τ1 ∧ l ≤ l' ∧ l' ≤ l + 3 * (j + 1) ∧ FR [10, 80, 81] [] σ σ1 ∧ FM [58] [21, 38] [] τ τ1 := by
      intro l0 σ0 τ0 K0 L0 A0 h1 h2 F0 G0
      rw [f_X6_addMember_c95, if_pos z3, f_X12_write_c137]
      simp only [f_X6_addMember_c117, f_X12_write_c158, z3, if_true, nI_1]
      by_cases q : dig c k ≤ 1
      · have q' : nI (dig c k) ≤ 1 := nI_le (b := 1) q (by decide)
        rw [if_pos q', if_pos q']
        obtain ⟨l', σ1, τ1, e1, e2, A1, b1, b2, F1, G1⟩ := ih (k + 1) n n' l0 σ0 τ0 K0 L0 A0 (by omega) (by omega) (by omega) (by omega)
        exact ⟨l', σ1, τ1, e1, e2, A1, by omega, by omega, F0.trans F1, G0.trans G1⟩
      · have q' : ¬ nI (dig c k) ≤ 1 := nI_ge (b := dig c k) (a := 1) (by omega) (by omega)
        obtain ⟨σ1, τ1, e1, e2, A1, F1, G1⟩ := add_c A0 (by omega) (show 94 < 130 by decide)
        obtain ⟨σ2, τ2, e3, e4, A2, F2, G2⟩ := add_c A1 (by omega) (show 48 + dig c k < 130 by omega)
        have F1 : FR [10, 80, 81] [] σ0 σ1 := F1.mono (by decide) (by decide)
        have F2 : FR [10, 80, 81] [] σ1 σ2 := F2.mono (by decide) (by decide)
        have G1 : FM [58] [21, 38] [] τ0 τ1 := G1.mono (by decide) (by decide) (by decide)
        have G2 : FM [58] [21, 38] [] τ1 τ2 := G2.mono (by decide) (by decide) (by decide)
        have e48 : (48 : Int32) + nI (dig c k) = nI (48 + dig c k) := by rw [show (48 : Int32) = nI 48 from rfl, nI_add]
        have e1' : f_X6_add 94 σ0 = some ((), σ1) := e1
        have e2' : f_X12_lay 94 τ0 = some ((), τ1) := e2
        rw [if_neg q', if_neg q', e1', zbd_s, e2', zbd_s, e48, (ch_ok _ (show 48 + dig c k < 130 by omega)).1, e3, zbd_s, e4, zbd_s]
        obtain ⟨l', σ3, τ3, e5, e6, A3, b1, b2, F3, G3⟩ := ih (k + 1) n n' (l0 + 1 + 1) σ2 τ2 ((K0.pap F1).pap F2) ((L0.pap G1).pap G2) A2 (by omega) (by omega) (by omega) (by omega)
        exact ⟨l', σ3, τ3, e5, e6, A3, by omega, by omega, ((F0.trans F1).trans F2).trans F3, ((G0.trans G1).trans G2).trans G3⟩
    rw [f_X6_addMember_c57, if_pos z3, p_letters K.ok (Or.inl rfl) K.sh, zbd_s, if_neg (nI_ge (by omega) (by omega)), e10, er, ed, f_X12_write_c100, pm_letters L.ok L.sh, zbd_s, if_neg (nI_ge (by omega) (by omega)), if_pos (zin_nI (show t < 462 by omega) (by decide)), nI_clamp (by omega), L.tm.code t ht, hc, p_powerIn (by omega) (by omega), zbd_s]
    by_cases q0 : dig c k = 0
    · have q' : nI (dig c k) ≤ 0 := by rw [q0]; decide
      rw [if_pos q', if_pos q']
      exact step2 l σ τ K L A (by omega) (by omega) (FR.refl σ) (FM.refl τ)
    · have q' : ¬ nI (dig c k) ≤ 0 := nI_nle (by omega) (by omega)
      have hs := sgn_lt K.ok (k := k) (by omega)
      obtain ⟨σ1, τ1, e1, e2, A1, F1, G1⟩ := add_c A (by omega) hs.1
      have F1 : FR [10, 80, 81] [] σ σ1 := F1.mono (by decide) (by decide)
      have G1 : FM [58] [21, 38] [] τ τ1 := G1.mono (by decide) (by decide) (by decide)
      rw [if_neg q', if_neg q', p_signOf K.ok K.sh (by omega), zbd_s, e1, zbd_s, pm_nameOf L.ok L.sh (by omega), zbd_s, e2, zbd_s]
      exact step2 (l + 1) σ1 τ1 (K.pap F1) (L.pap G1) A1 (by omega) (by omega) F1 G1
theorem sz_0 {c : Nat} (hc : c < 10 ^ 6) : sz c = 0 ↔ c = 0 := by
  constructor
  · intro h
    have h1 := sm_code c 6
    have d : ∀ k, k < 6 → dig c k = 0 := fun k hk => by
      unfold sz at h
      have : k = 0 ∨ k = 1 ∨ k = 2 ∨ k = 3 ∨ k = 4 ∨ k = 5 := by omega
      rcases this with rfl | rfl | rfl | rfl | rfl | rfl <;> omega
    have : sm (fun k => dig c k * 10 ^ k) 6 = 0 := by
      simp [sm, d]
    rw [this] at h1
    rw [Nat.mod_eq_of_lt hc] at h1
    exact h1.symm
  · intro h
    rw [h]; rfl
/-- a TERM with its number -/
theorem member (S : Sh) (C : Cl) {m t : Nat} (hm : m < C.mm) (ht : t < S.M) (rc : Int32 → Int32 → SS → Option (Int32 × SS)) {l : Nat} (hl : l < 600000) {v : Int64} (hv : v ≠ 0) (K : KC S C σ) (L : KM S C τ) (A : PW l σ τ) :
    ∃ l' σ1 τ1, f_X6_addMember 3 (nI (S.c t)) v σ = some ((), σ1) ∧ (if (lg_cmp v (0 : Int64)) < 0 then f_X12_write_c52 rc (nI m) (nI t) v τ else if (τ.1 0 58) ≤ 0 then f_X12_write_c69 rc (nI m) (nI t) v τ else f_X12_write_c52 rc (nI m) (nI t) v τ) = rc (nI m) (nI (t + 1)) τ1 ∧ PW l' σ1 τ1 ∧ l ≤ l' ∧ l' ≤ l + 38 ∧ FR [10, 80, 81] [] σ σ1 ∧ FM [58] [21, 38] [] τ τ1 := by
  have z3 : zis Ox 7 3 = true := rfl
  have hM := K.M
  have hL6 : S.L ≤ 6 := K.ok.ln.2.1
  have hc6 : S.c t < 600000 := (cd_lt K.ok.ln (show t < cM S.L S.n from ht)).1
  -- after the sign
  have step2 : ∀ l0 σ0 τ0, KC S C σ0 → KM S C τ0 → PW l0 σ0 τ0 → l0 ≤ l + 1 → l ≤ l0 → FR [10, 80, 81] [] σ σ0 → FM [58] [21, 38] [] τ τ0 →
      ∃ l' σ1 τ1, f_X6_addMember_c28 3 (nI (S.c t)) v σ0 = some ((), σ1) ∧ f_X12_write_c69 rc (nI m) (nI t) v τ0 = rc (nI m) (nI (t + 1)) τ1 ∧ PW l' σ1 τ1 ∧ l ≤ l' ∧ l' ≤ l + 38 ∧ FR [10, 80, 81] [] σ σ1 ∧ FM [58] [21, 38] [] τ τ1 := by
    intro l0 σ0 τ0 K0 L0 A0 h1 h2 F0 G0
    have let1 : ∀ l1 σ2 τ2, KC S C σ2 → KM S C τ2 → PW l1 σ2 τ2 → l1 ≤ l + 20 → l ≤ l1 → FR [10, 80, 81] [] σ σ2 → FM [58] [21, 38] [] τ τ2 → ∃ l' σ1 τ1, f_X6_addMember_c51 3 (nI (S.c t)) σ2 = some ((), σ1) ∧ f_X12_write_c97 rc (nI m) (nI t) τ2 = rc (nI m) (nI (t + 1)) τ1 ∧ PW l' σ1 τ1 ∧ l ≤ l' ∧ l' ≤ l + 38 ∧ FR [10, 80, 81] [] σ σ1 ∧ FM [58] [21, 38] [] τ τ1 := by
      intro l1 σ2 τ2 K2 L2 A2 h3 h4 F2 G2
      obtain ⟨l', σ3, τ3, e1, e2, A3, b1, b2, F3, G3⟩ := lets S C ht rfl rc (nI m) S.L 0 ZF ZF l1 σ2 τ2 K2 L2 A2 (by omega) (by omega) (by unfold ZF; omega) (by unfold ZF; omega)
      rw [Nat.pow_zero, Nat.div_one, nI_0] at e1
      rw [nI_0] at e2
      exact ⟨l', σ3, τ3, by rw [f_X6_addMember_c51, if_pos z3, e1], by rw [f_X12_write_c97, e2], A3, by omega, by omega, F2.trans F3, G2.trans G3⟩
    have num1 : ∃ l' σ1 τ1, f_X6_addMember_c46 3 (nI (S.c t)) v σ0 = some ((), σ1) ∧ f_X12_write_c92 rc (nI m) (nI t) v τ0 = rc (nI m) (nI (t + 1)) τ1 ∧ PW l' σ1 τ1 ∧ l ≤ l' ∧ l' ≤ l + 38 ∧ FR [10, 80, 81] [] σ σ1 ∧ FM [58] [21, 38] [] τ τ1 := by
      obtain ⟨l1, σ2, τ2, e1, e2, A2, b1, b2, F2, G2⟩ := figs v A0 (by omega)
      obtain ⟨l', σ3, τ3, e3, e4, r⟩ := let1 l1 σ2 τ2 (K0.pap F2) (L0.pap G2) A2 (by omega) (by omega) (F0.trans F2) (G0.trans G2)
      exact ⟨l', σ3, τ3, by rw [f_X6_addMember_c46, if_pos z3, e1, zbd_s, e3], by rw [f_X12_write_c92, e2, zbd_s, e4], r⟩
    have let2 := let1 l0 σ0 τ0 K0 L0 A0 (by omega) h2 F0 G0
    have zt := zin_nI (show t < 462 by omega) (show 462 ≤ 2 ^ 31 by decide)
    have h5 := sz_le K.ok.ln (show t < cM S.L S.n from ht)
    have h5' : sz (S.c t) ≤ S.n := h5
    have hn5 := K.ok.n5
    have hs : nI (sz (S.c t)) = 0 ↔ nI (S.c t) = 0 := by
      rw [show (0 : Int32) = nI 0 from rfl, nI_eq (by omega) (by decide), nI_eq (by omega) (by decide)]
      exact sz_0 (by omega)
    rw [f_X6_addMember_c28, if_pos z3, f_X12_write_c69]
    simp only [f_X12_write_c83, zt, if_true, nI_clamp (show t < 2 ^ 31 by omega), L0.tm.size t ht]
    by_cases q0 : nI (S.c t) = 0
    · rw [if_pos q0, if_pos (hs.mpr q0)]
      have : ∀ P : Option (Int32 × SS), (if (lg_cmp v 1) = 0 then P else if (lg_cmp v (-1)) = 0 then P else P) = P := fun P => by
        split
        · rfl
        · split <;> rfl
      rw [this]
      exact num1
    · rw [if_neg q0, if_neg (fun w => q0 (hs.mp w))]
      by_cases q1 : lg_cmp v 1 = 0
      · rw [if_pos q1, if_pos q1]; exact let2
      · rw [if_neg q1, if_neg q1]
        by_cases q2 : lg_cmp v (-1) = 0
        · rw [if_pos q2, if_pos q2]; exact let2
        · rw [if_neg q2, if_neg q2]; exact num1
  rw [f_X6_addMember, if_pos z3, A.lC, A.lM, f_X12_write_c52, f_X12_write_c66, f_X12_write_c66]
  by_cases q : (0 : Int64) ≤ v
  · have qn : ¬ (lg_cmp v 0) < 0 := fun w => absurd ((lg_cmp_lt _ _).mp w) (Int64.not_lt.mpr q)
    rw [if_pos ((lg_cmp_ge _ _).mpr q), if_neg qn, if_pos ((lg_cmp_ge _ _).mpr q)]
    by_cases w : l = 0
    · have w' : nI l ≤ 0 := by rw [w]; decide
      rw [if_pos w', if_pos w']
      exact step2 l σ τ K L A (by omega) (by omega) (FR.refl σ) (FM.refl τ)
    · have w' : ¬ nI l ≤ 0 := nI_nle (by omega) (by omega)
      obtain ⟨σ1, τ1, e1, e2, A1, F1, G1⟩ := add_c A (by omega) (show 43 < 130 by decide)
      have F1 : FR [10, 80, 81] [] σ σ1 := F1.mono (by decide) (by decide)
      have G1 : FM [58] [21, 38] [] τ τ1 := G1.mono (by decide) (by decide) (by decide)
      have e1' : f_X6_add 43 σ = some ((), σ1) := e1
      have e2' : f_X12_lay 43 τ = some ((), τ1) := e2
      rw [if_neg w', if_neg w', e1', zbd_s, e2', zbd_s]
      exact step2 (l + 1) σ1 τ1 (K.pap F1) (L.pap G1) A1 (by omega) (by omega) F1 G1
  · have qn : (lg_cmp v 0) < 0 := (lg_cmp_lt _ _).mpr (Int64.not_le.mp q)
    have qg : ¬ 0 ≤ (lg_cmp v 0) := fun w => q ((lg_cmp_ge _ _).mp w)
    obtain ⟨σ1, τ1, e1, e2, A1, F1, G1⟩ := add_c A (by omega) (show 45 < 130 by decide)
    have F1 : FR [10, 80, 81] [] σ σ1 := F1.mono (by decide) (by decide)
    have G1 : FM [58] [21, 38] [] τ τ1 := G1.mono (by decide) (by decide) (by decide)
    have e1' : f_X6_add 45 σ = some ((), σ1) := e1
    have e2' : f_X12_lay 45 τ = some ((), τ1) := e2
    rw [if_neg qg, if_pos qn, if_neg qg, e1', zbd_s, e2', zbd_s]
    exact step2 (l + 1) σ1 τ1 (K.pap F1) (L.pap G1) A1 (by omega) (by omega) F1 G1
end
