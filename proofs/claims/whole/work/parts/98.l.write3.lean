section
variable {S : Sh} {C : Cl} {σ σ1 τ τ1 : SS}
theorem c183 {l : Nat} (hl : l < 900000) (h : τ.1 0 58 = nI l) : f_X12_write_c183 τ = some (nI l, zS τ 0 29 (nI (min l 200))) := by
  rw [f_X12_write_c183, h]
  by_cases q : 200 ≤ l
  · rw [if_pos (show (200 : Int32) ≤ nI l from nI_le (a := 200) q (by omega)), show min l 200 = 200 by omega, zS_1, if_neg (fun q => absurd q.2 (by decide)), h]
    rfl
  · rw [if_neg (show ¬ (200 : Int32) ≤ nI l from nI_ge (b := 200) (by omega) (by decide)), show min l 200 = l by omega, zS_1, if_neg (fun q => absurd q.2 (by decide)), h]
theorem write_c (S : Sh) (C : Cl) {m : Nat} (hm : m < C.mm) : ∀ j t n n' l σ τ, KC S C σ → KM S C τ → Rw S σ 21 (num S C m) → PW l σ τ → l + 38 * j < 500000 → t + j = S.M → j < n → j < n' →
    ∃ l' σ1 τ1, f_X11_write_c41 n (nI t) σ = some (nI l', σ1) ∧ f_X12_write_c18 n' (nI m) (nI t) τ = some (nI l', zS τ1 0 29 (nI (min l' 200))) ∧ l' < 900000 ∧ PW l' σ1 τ1 ∧ FR [10, 80, 81] [] σ σ1 ∧ FM [58] [21, 38] [] τ τ1 := by
  intro j
  induction j with
  | zero =>
    intro t n n' l σ τ K L r A hl ht hn hn'
    obtain ⟨n, rfl⟩ : ∃ q, n = q + 1 := ⟨n - 1, by omega⟩
    obtain ⟨n', rfl⟩ : ∃ q, n' = q + 1 := ⟨n' - 1, by omega⟩
    have hM := K.M
    rw [f_X11_write_c41, K.tm.M, if_pos (nI_le (by omega) (by omega)), f_X12_write_c18, L.tm.M, if_pos (nI_le (by omega) (by omega)), A.lC, A.lM]
    by_cases q : l = 0
    · obtain ⟨σ1, τ1, e1, e2, A1, F1, G1⟩ := add_c A (by omega) (show 48 < 130 by decide)
      have e1' : f_X6_add 48 σ = some ((), σ1) := e1
      have e2' : f_X12_lay 48 τ = some ((), τ1) := e2
      rw [if_pos (show nI l = 0 by rw [q]; rfl), if_pos (show nI l = 0 by rw [q]; rfl), e1', zbd_s, e2', zbd_s, A1.lC, c183 (by omega) A1.lM]
      exact ⟨l + 1, σ1, τ1, rfl, rfl, by omega, A1, F1.mono (by decide) (by decide), G1.mono (by decide) (by decide) (by decide)⟩
    · have q' : ¬ nI l = 0 := nI_ne0 (by omega) (by omega)
      rw [if_neg q', if_neg q', c183 (by omega) A.lM]
      exact ⟨l, σ, τ, rfl, rfl, by omega, A, FR.refl σ, FM.refl τ⟩
  | succ j ih =>
    intro t n n' l σ τ K L r A hl ht hn hn'
    obtain ⟨n, rfl⟩ : ∃ q, n = q + 1 := ⟨n - 1, by omega⟩
    obtain ⟨n', rfl⟩ : ∃ q, n' = q + 1 := ⟨n' - 1, by omega⟩
    have hM := K.M
    have z := zin_nI (show t < 462 by omega) (show 462 ≤ 2 ^ 31 by decide)
    rw [f_X11_write_c41, K.tm.M, if_neg (nI_ge (by omega) (by omega)), if_pos z, if_pos z, if_pos z, nI_clamp (by omega), r t (by omega), K.tm.code t (by omega), f_X12_write_c18, L.tm.M, if_neg (nI_ge (by omega) (by omega)), pm_num L.ok L.okC L.sh L.tm L.cl hm (show t < S.M by omega), zbd_s]
    by_cases q : num S C m t = 0
    · rw [if_pos ((lg_cmp_eq _ _).mpr q), if_pos ((lg_cmp_eq _ _).mpr q), f_X11_write_c104, f_X12_write_c164, nI_1]
      exact ih (t + 1) n n' l σ τ K L r A (by omega) (by omega) (by omega) (by omega)
    · obtain ⟨l1, σ1, τ1, e1, e2, A1, b1, b2, F1, G1⟩ := member S C hm (show t < S.M by omega) (f_X12_write_c18 n') (show l < 600000 by omega) q K L A
      rw [if_neg (fun w => q ((lg_cmp_eq _ _).mp w)), if_neg (fun w => q ((lg_cmp_eq _ _).mp w)), e1, zbd_s, f_X11_write_c104, nI_1, e2]
      obtain ⟨l2, σ2, τ2, e3, e4, h1, A2, F2, G2⟩ := ih (t + 1) n n' l1 σ1 τ1 (K.pap F1) (L.pap G1) (r.fr F1 (by decide)) A1 (by omega) (by omega) (by omega) (by omega)
      exact ⟨l2, σ2, τ2, e3, e4, h1, A2, F1.trans F2, G1.trans G2⟩
theorem s_write (x : Int32) (h : I0 σ τ) : ∃ r σ1 τ1, f_X11_write x σ = some (r, σ1) ∧ f_X12_write x τ = some (r, τ1) ∧ I0 σ1 τ1 := by
  obtain ⟨S, C, h⟩ := h
  have K := h.kc
  have L := h.km
  have hM := K.M
  rw [f_X11_write, f_X12_write]
  rcases cls_cases K.okC x with e | ⟨m, hm, h8, rfl, e⟩
  · rw [K.clN e, zbd_s, zbn_n, L.isN e, zbd_s]
    exact ex0 h.i0 _ rfl (if_pos rfl)
  rw [K.clS e, zbd_s, zbn_s, if_pos (ZOx_k (by omega)).1, L.isS e, zbd_s, if_neg n10]
  obtain ⟨σ1, e1, r1, F1⟩ := k_take K hm (k := 21) (by decide)
  have F2 : FR [10, 80, 81] [] σ1 (zS σ1 10 1 0) := (FR.refl σ1).sS (by simp) _ _
  have G2 : FM [58] [21, 38] [] τ (zS τ 0 58 0) := (FM.refl τ).sO (by simp) _
  have A : PW 0 (zS σ1 10 1 0) (zS τ 0 58 0) := ⟨by rw [zS_1, if_pos ⟨rfl, rfl⟩]; rfl, by rw [zS_1, if_pos ⟨rfl, rfl⟩]; rfl, fun i hi => absurd hi (by omega)⟩
  obtain ⟨l, σ2, τ2, e3, e4, hl, A2, F3, G3⟩ := write_c S C hm S.M 0 ZF ZF 0 (zS σ1 10 1 0) (zS τ 0 58 0) ((K.sc (F1.mono (by decide) (by decide))).pap F2) (L.pap G2) (r1.fr F2 (by decide)) A (by omega) (by omega) (by unfold ZF; omega) (by unfold ZF; omega)
  rw [nI_0] at e3 e4
  have FF : FR [10, 80, 81] [21] σ σ2 := ((F1.mono (by decide) (by decide)).trans (F2.mono (by decide) (by decide))).trans (F3.mono (by decide) (by decide))
  have GG : FM [29, 58] [21, 38] [] τ (zS τ2 0 29 (nI (min l 200))) := ((G2.mono (by decide) (by decide) (by decide)).trans (G3.mono (by decide) (by decide) (by decide))).sO (by simp) _
  rw [e1, zbd_s, e3, e4]
  refine ⟨_, _, _, rfl, rfl, S, C, ⟨h.core.fr2 FF GG (by decide) (by decide) (by decide) (by decide) (by decide), h.img.fr2 FF GG (by decide) (by decide) (by decide) (by decide) (by decide), h.chg.fr FF GG (by decide) (by decide) (by decide), h.tap.fr FF GG (by decide) (by decide) (by decide) (by decide), ⟨l, by omega, A2.lC, by rw [zS_1, if_pos ⟨rfl, rfl⟩], fun i hi => ?_⟩, h.lis.fr FF GG (by decide) (by decide) (fun m hm => by simp; omega) (by decide) (by decide) (by decide), h.trc.fr FF GG (by decide) (by decide) (by decide) (by decide)⟩⟩
  rw [zS_1, if_neg (fun q => absurd q.1 (by decide))]
  exact A2.b i hi
end
