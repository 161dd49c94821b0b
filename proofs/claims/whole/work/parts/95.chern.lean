/-! ===== CHERN ROWS ===== -/
def hyp (S : Sh) (l t : Nat) : Int64 := if S.c t = 10 ^ l then 1 else one S t
def chn (S : Sh) : Nat → Nat → Int64
  | 0 => one S
  | l + 1 => pw S (chn S l) (hyp S l) (S.dm l + 1)
section
variable {S : Sh} {C C1 : Cl} {σ σ1 τ τ1 : SS}
theorem k_chern_in (S : Sh) (C : Cl) (rc : Nat → Int32 → SS → Option (Unit × SS)) {l d : Nat} (hl : l < 3) (hd : S.dm l = d) {v w : Nat → Int64} : ∀ j i n σ, KC S C σ → Rw S σ 23 (pw S v w i) → Rw S σ 24 w → i + j = d + 1 → j < n →
    ∃ σ1, f_X8_makeChern_c47 rc n 3 (nI l) (nI i) σ = rc 3 (nI (l + 1)) σ1 ∧ Rw S σ1 23 (pw S v w (d + 1)) ∧ FR [26] [23, 24, 25] σ σ1 := by
  intro j
  induction j with
  | zero =>
    intro i n σ K r1 r2 hi hn
    obtain ⟨n, rfl⟩ : ∃ m', n = m' + 1 := ⟨n - 1, by omega⟩
    have : i = d + 1 := by omega
    subst this
    have h5 := K.ok.dm5 l
    exact ⟨σ, by rw [f_X8_makeChern_c47, if_pos (show zis Ox 7 3 = true from rfl), show zrf Ox 3 3 = 15 from rfl, if_pos (zok_nI (show Ox 15 = .inr (0, 3, []) from rfl) hl (by decide)), nI_clamp (by omega), K.sh.dm l hl, hd, if_pos (nI_lt (by omega) (by omega)), nI_1], r1, FR.refl σ⟩
  | succ j ih =>
    intro i n σ K r1 r2 hi hn
    obtain ⟨n, rfl⟩ : ∃ m', n = m' + 1 := ⟨n - 1, by omega⟩
    have h5 := K.ok.dm5 l
    obtain ⟨σ1, e1, r3, F1⟩ := p_mulF K.ok K.tm (k1 := 23) (k2 := 24) (by decide) (by decide) (by decide) r1 r2
    have r4 := r2.fr F1 (by decide)
    have F1 : FR [26] [23, 24, 25] σ σ1 := F1.mono (by decide) (by decide)
    rw [f_X8_makeChern_c47, if_pos (show zis Ox 7 3 = true from rfl), show zrf Ox 3 3 = 15 from rfl, if_pos (zok_nI (show Ox 15 = .inr (0, 3, []) from rfl) hl (by decide)), nI_clamp (by omega), K.sh.dm l hl, hd, if_neg (nI_nlt (by omega) (by omega)), e1, zbd_s, nI_1]
    obtain ⟨σ2, e2, r5, F2⟩ := ih (i + 1) n σ1 (K.sc (F1.mono (by decide) (by decide))) r3 r4 (by omega) (by omega)
    exact ⟨σ2, e2, r5, F1.trans F2⟩
theorem ShOk.fL (h : ShOk S) : S.f ≤ S.L := by unfold Sh.L; omega
theorem k_chern (K : KC S C σ) : ∃ σ1, f_X8_makeChern 3 σ = some ((), σ1) ∧ Rw S σ1 23 (chn S S.f) ∧ FR [26] [23, 24, 25] σ σ1 := by
  have hf3 := K.ok.f3
  have hfL := K.ok.fL
  have key : ∀ j l n σ, KC S C σ → Rw S σ 23 (chn S l) → l + j = S.f → j < n → ∃ σ1, f_X8_makeChern_c10 n 3 (nI l) σ = some ((), σ1) ∧ Rw S σ1 23 (chn S S.f) ∧ FR [26] [23, 24, 25] σ σ1 := by
    intro j
    induction j with
    | zero =>
      intro l n σ K r hl hn
      obtain ⟨n, rfl⟩ : ∃ m', n = m' + 1 := ⟨n - 1, by omega⟩
      have : l = S.f := by omega
      subst this
      exact ⟨σ, by rw [f_X8_makeChern_c10, if_pos (show zis Ox 7 3 = true from rfl), K.sh.f, if_pos (nI_le (by omega) (by omega))], r, FR.refl σ⟩
    | succ j ih =>
      intro l n σ K r hl hn
      obtain ⟨n, rfl⟩ : ∃ m', n = m' + 1 := ⟨n - 1, by omega⟩
      have h5 := K.ok.dm5 l
      obtain ⟨σ1, e1, r1, F1⟩ := k_one K (k := 24) (by decide)
      have r2 := r.fr F1 (by decide)
      have F1 : FR [26] [23, 24, 25] σ σ1 := F1.mono (by decide) (by decide)
      have K1 := K.sc (F1.mono (by decide) (by decide))
      obtain ⟨t, ht, et, ep⟩ := k_put K1 (k := 24) (l := l) (v := 1) rfl (by omega)
      have F2 : FR [26] [23, 24, 25] σ1 (zSL σ1 24 t 1) := (FR.refl σ1).sSL (by simp) _ _
      have r3 : Rw S (zSL σ1 24 t 1) 24 (hyp S l) := fun u hu => by
        rw [zSL_2]
        unfold hyp
        by_cases q : u = t
        · rw [if_pos ⟨rfl, q⟩, q, if_pos et]
        · rw [if_neg (fun w => q w.2), if_neg (fun w => q (c_inj K.ok hu ht (by rw [w, et]))), r1 u hu]
      have r4 : Rw S (zSL σ1 24 t 1) 23 (chn S l) := fun u hu => by
        rw [zSL_2, if_neg (fun w => absurd w.1 (by decide))]; exact r2 u hu
      obtain ⟨σ2, e2, r5, F3⟩ := k_chern_in S C (f_X8_makeChern_c10 n) (l := l) (by omega) rfl (S.dm l + 1) 0 ZF _ (K1.sc (F2.mono (by decide) (by decide))) r4 r3 (by omega) (by unfold ZF; omega)
      rw [nI_0] at e2
      have FF := (F1.trans F2).trans F3
      rw [f_X8_makeChern_c10, if_pos (show zis Ox 7 3 = true from rfl), K.sh.f, if_neg (nI_ge (by omega) (by omega)), show zrf Ox 3 3 = 15 from rfl, if_pos (show zia Ox 0 15 = true from rfl), show zlen Ox 15 = 3 from rfl, if_neg (nI_ge (show l < 3 by omega) (by decide)), e1, zbd_s, ep, zbd_s, e2]
      obtain ⟨σ3, e3, r6, F4⟩ := ih (l + 1) n σ2 (K.sc (FF.mono (by decide) (by decide))) r5 (by omega) (by omega)
      exact ⟨σ3, e3, r6, FF.trans F4⟩
  obtain ⟨σ1, e1, r1, F1⟩ := k_one K (k := 23) (by decide)
  have F1 : FR [26] [23, 24, 25] σ σ1 := F1.mono (by decide) (by decide)
  obtain ⟨σ2, e2, r2, F2⟩ := key S.f 0 ZF σ1 (K.sc (F1.mono (by decide) (by decide))) r1 (by omega) (by unfold ZF; omega)
  rw [nI_0] at e2
  exact ⟨σ2, by rw [f_X8_makeChern, if_pos (show zis Ox 7 3 = true from rfl), e1, zbd_s, e2], r2, F1.trans F2⟩
theorem km_chern_in (S : Sh) (C : Cl) (rc : Nat → Int32 → SS → Option (Unit × SS)) {l d : Nat} (h0 : S.so = 0) (hl : l < S.f) (hd : S.dm l = d) {v : Nat → Int64} : ∀ j i n τ, KM S C τ → Rw S τ 15 (pw S v (hyp S l) i) → i + j = d + 1 → j < n →
    ∃ τ1, f_X12_layChern_c17 rc n 15 (nI l) (nI i) τ = rc 15 (nI (l + 1)) τ1 ∧ Rw S τ1 15 (pw S v (hyp S l) (d + 1)) ∧ FM [] [] [14, 15, 33] τ τ1 := by
  intro j
  induction j with
  | zero =>
    intro i n τ L r1 hi hn
    obtain ⟨n, rfl⟩ : ∃ m', n = m' + 1 := ⟨n - 1, by omega⟩
    have : i = d + 1 := by omega
    subst this
    have h5 := L.ok.dm5 l
    have hf3 := L.ok.f3
    exact ⟨τ, by rw [f_X12_layChern_c17, if_pos (zin_nI (show l < 3 by omega) (by decide)), nI_clamp (by omega), L.sh.dm h0 l (by omega), hd, if_pos (nI_lt (by omega) (by omega)), nI_1], r1, FM.refl τ⟩
  | succ j ih =>
    intro i n τ L r1 hi hn
    obtain ⟨n, rfl⟩ : ∃ m', n = m' + 1 := ⟨n - 1, by omega⟩
    have h5 := L.ok.dm5 l
    have hf3 := L.ok.f3
    have hfL := L.ok.fL
    have hM := L.M
    obtain ⟨τ1, e1, r2, G1⟩ := km_one L (k := 14) rfl (by decide)
    have r3 := r1.fm G1 (by decide)
    have G1 : FM [] [] [14, 15, 33] τ τ1 := G1.mono (by decide) (by decide) (by decide)
    have L1 := L.sc (G1.mono (by decide) (by decide) (by decide))
    obtain ⟨t, ht, et, ep, e6⟩ := km_place L1 (l := l) (by omega)
    have G2 : FM [] [] [14, 15, 33] τ1 (zSL τ1 14 t 1) := (FM.refl τ1).sSL (by simp) _ _
    have r4 : Rw S (zSL τ1 14 t 1) 14 (hyp S l) := fun u hu => by
      rw [zSL_2]
      unfold hyp
      by_cases q : u = t
      · rw [if_pos ⟨rfl, q⟩, q, if_pos et]
      · rw [if_neg (fun w => q w.2), if_neg (fun w => q (c_inj L.ok hu ht (by rw [w, et]))), r2 u hu]
    have r5 : Rw S (zSL τ1 14 t 1) 15 (pw S v (hyp S l) i) := fun u hu => by
      rw [zSL_2, if_neg (fun w => absurd w.1 (by decide))]; exact r3 u hu
    have L2 := L1.sc (G2.mono (by decide) (by decide) (by decide))
    obtain ⟨τ2, e2, r6, G3⟩ := km_mul L2 (k1 := 15) (k2 := 14) rfl rfl (by decide) (by decide) r5 r4
    have G3 : FM [] [] [14, 15, 33] (zSL τ1 14 t 1) τ2 := G3.mono (by decide) (by decide) (by decide)
    have GG := (G1.trans G2).trans G3
    rw [f_X12_layChern_c17, if_pos (zin_nI (show l < 3 by omega) (by decide)), nI_clamp (by omega), L.sh.dm h0 l (by omega), hd, if_neg (nI_nlt (by omega) (by omega)), e1, zbd_s, p_tens (by omega), zbd_s, if_pos (zin_nI e6 (by decide)), nI_clamp (by omega), ep, if_pos (zin_nI (show t < 462 by omega) (by decide)), nI_clamp (by omega), e2, zbd_s, nI_1]
    obtain ⟨τ3, e3, r7, G4⟩ := ih (i + 1) n τ2 (L.sc (GG.mono (by decide) (by decide) (by decide))) r6 (by omega) (by omega)
    exact ⟨τ3, e3, r7, GG.trans G4⟩
theorem km_chern (L : KM S C τ) (h0 : S.so = 0) : ∃ τ1, f_X12_layChern 15 τ = some ((), τ1) ∧ Rw S τ1 15 (chn S S.f) ∧ FM [] [] [14, 15, 33] τ τ1 := by
  have hf3 := L.ok.f3
  have key : ∀ j l n τ, KM S C τ → Rw S τ 15 (chn S l) → l + j = S.f → j < n → ∃ τ1, f_X12_layChern_c7 n 15 (nI l) τ = some ((), τ1) ∧ Rw S τ1 15 (chn S S.f) ∧ FM [] [] [14, 15, 33] τ τ1 := by
    intro j
    induction j with
    | zero =>
      intro l n τ L r hl hn
      obtain ⟨n, rfl⟩ : ∃ m', n = m' + 1 := ⟨n - 1, by omega⟩
      have : l = S.f := by omega
      subst this
      exact ⟨τ, by rw [f_X12_layChern_c7, L.sh.f h0, if_pos (nI_le (by omega) (by omega))], r, FM.refl τ⟩
    | succ j ih =>
      intro l n τ L r hl hn
      obtain ⟨n, rfl⟩ : ∃ m', n = m' + 1 := ⟨n - 1, by omega⟩
      have h5 := L.ok.dm5 l
      obtain ⟨τ1, e1, r1, G1⟩ := km_chern_in S C (f_X12_layChern_c7 n) h0 (show l < S.f by omega) rfl (S.dm l + 1) 0 ZF τ L r (by omega) (by unfold ZF; omega)
      rw [nI_0] at e1
      rw [f_X12_layChern_c7, L.sh.f h0, if_neg (nI_ge (by omega) (by omega)), e1]
      obtain ⟨τ2, e2, r2, G2⟩ := ih (l + 1) n τ1 (L.sc (G1.mono (by decide) (by decide) (by decide))) r1 (by omega) (by omega)
      exact ⟨τ2, e2, r2, G1.trans G2⟩
  obtain ⟨τ1, e1, r1, G1⟩ := km_one L (k := 15) rfl (by decide)
  have G1 : FM [] [] [14, 15, 33] τ τ1 := G1.mono (by decide) (by decide) (by decide)
  obtain ⟨τ2, e2, r2, G2⟩ := key S.f 0 ZF τ1 (L.sc (G1.mono (by decide) (by decide) (by decide))) r1 (by omega) (by unfold ZF; omega)
  rw [nI_0] at e2
  exact ⟨τ2, by rw [f_X12_layChern, e1, zbd_s, e2], r2, G1.trans G2⟩
abbrev bare (S : Sh) : Prop := S.so = 0 ∧ S.e = 0
theorem p_bare (K : KC S C σ) : f_X7_isBareProduct 3 σ = some (if bare S then 1 else 0, σ) := by
  have hso := K.ok.so
  have he := K.ok.e3
  rw [f_X7_isBareProduct, if_pos (show zis Ox 7 3 = true from rfl), K.sh.so, K.sh.e]
  by_cases q : S.so = 0
  · rw [if_pos (show nI S.so = 0 by rw [q]; rfl)]
    by_cases w : S.e = 0
    · rw [if_pos (show nI S.e = 0 by rw [w]; rfl), if_pos ⟨q, w⟩]
    · rw [if_neg (fun v : nI S.e = 0 => w ((nI_eq (b := 0) (by omega) (by decide)).mp v)), if_neg (fun v => w v.2)]
  · rw [if_neg (fun v : nI S.so = 0 => q ((nI_eq (b := 0) (by omega) (by decide)).mp v)), if_neg (fun v => q v.1)]
theorem pm_bare (L : KM S C τ) : f_X12_isBare τ = some (if bare S then 1 else 0, τ) := by
  have hso := L.ok.so
  have he := L.ok.e3
  rw [f_X12_isBare, L.sh.so, L.sh.e]
  by_cases q : S.so = 0
  · rw [if_pos (show nI S.so = 0 by rw [q]; rfl)]
    by_cases w : S.e = 0
    · rw [if_pos (show nI S.e = 0 by rw [w]; rfl), if_pos ⟨q, w⟩]
    · rw [if_neg (fun v : nI S.e = 0 => w ((nI_eq (b := 0) (by omega) (by decide)).mp v)), if_neg (fun v => w v.2)]
  · rw [if_neg (fun v : nI S.so = 0 => q ((nI_eq (b := 0) (by omega) (by decide)).mp v)), if_neg (fun v => q v.1)]
theorem s_chern (x : Int32) (h : I0 σ τ) : ∃ r σ1 τ1, f_X11_chern x σ = some (r, σ1) ∧ f_X12_chern x τ = some (r, τ1) ∧ I0 σ1 τ1 := by
  obtain ⟨S, C, h⟩ := h
  have K := h.kc
  have L := h.km
  have hM := K.M
  rw [f_X11_chern, f_X12_chern, K.find, zbd_s, L.termOf, zbd_s]
  rcases pI_cases K.ok x with e2 | ⟨t, ht, e2, -⟩
  · exact ex0 h.i0 _ (by rw [e2]; exact if_neg (by decide)) (by rw [e2]; exact if_neg (by decide))
  rw [e2, show oI (some t) = nI t from rfl, if_pos (nI_pos' (by omega)), if_pos (nI_pos' (by omega)), p_bare K, zbd_s, pm_bare L, zbd_s]
  by_cases q : bare S
  · obtain ⟨σ1, e1, r1, F1⟩ := k_chern K
    obtain ⟨τ1, e3, r3, G1⟩ := km_chern L q.1
    have F1 : FR XA XB σ σ1 := F1.mono (by decide) (by decide)
    have G1 : FM MJ MA MB τ τ1 := G1.mono (by decide) (by decide) (by decide)
    rw [if_pos q, if_neg n10, if_neg n10, e1, zbd_s, if_pos (zin_nI (show t < 462 by omega) (by decide)), e3, zbd_s, (L.sc G1).termOf, zbd_s, e2, show oI (some t) = nI t from rfl, if_pos (zin_nI (show t < 462 by omega) (by decide)), nI_clamp (by omega), r1 t ht, r3 t ht]
    exact ⟨_, _, _, rfl, rfl, h.fin F1 G1⟩
  · rw [if_neg q]
    exact ex0 h.i0 _ (if_pos rfl) (if_pos rfl)
end
