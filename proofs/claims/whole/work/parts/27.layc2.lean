/-! ===== the class's TERMS for THE SPACE S ===== -/
def Sh.M (S : Sh) : Nat := cM S.L S.n
def Sh.c (S : Sh) (t : Nat) : Nat := cd S.L S.n t
def TmC (S : Sh) (s : SS) : Prop :=
  (s.1 6 0 = nI S.n) ∧
  (s.1 6 1 = nI S.L) ∧
  (s.1 6 2 = nI S.M) ∧
  (∀ t, t < S.M → s.1 62 t = nI (S.c t)) ∧
  (∀ t, t < S.M → s.1 63 t = nI (sz (S.c t))) ∧
  (∀ t, t < S.M → s.1 65 t = plb S (S.c t)) ∧
  (∀ t, t < S.M → s.2 64 t = WT S (S.c t)) ∧
  (ByS (fun t => sz (S.c t)) S.M (s.1 66) (s.1 67))
theorem TmC.n {S : Sh} {s : SS} (h : TmC S s) : s.1 6 0 = nI S.n := h.1
theorem TmC.L {S : Sh} {s : SS} (h : TmC S s) : s.1 6 1 = nI S.L := h.2.1
theorem TmC.M {S : Sh} {s : SS} (h : TmC S s) : s.1 6 2 = nI S.M := h.2.2.1
theorem TmC.code {S : Sh} {s : SS} (h : TmC S s) : ∀ t, t < S.M → s.1 62 t = nI (S.c t) := h.2.2.2.1
theorem TmC.size {S : Sh} {s : SS} (h : TmC S s) : ∀ t, t < S.M → s.1 63 t = nI (sz (S.c t)) := h.2.2.2.2.1
theorem TmC.plain {S : Sh} {s : SS} (h : TmC S s) : ∀ t, t < S.M → s.1 65 t = plb S (S.c t) := h.2.2.2.2.2.1
theorem TmC.worth {S : Sh} {s : SS} (h : TmC S s) : ∀ t, t < S.M → s.2 64 t = WT S (S.c t) := h.2.2.2.2.2.2.1
theorem TmC.by_ {S : Sh} {s : SS} (h : TmC S s) : ByS (fun t => sz (S.c t)) S.M (s.1 66) (s.1 67) := h.2.2.2.2.2.2.2
theorem TmC.fr {S : Sh} {s s1 : SS} {A B : List Nat} (h : TmC S s) (hF : FR A B s s1) (h0 : 6 ∉ A) (h1 : 62 ∉ A) (h2 : 63 ∉ A) (h3 : 65 ∉ A) (h4 : 66 ∉ A) (h5 : 67 ∉ A) (h6 : 64 ∉ B) : TmC S s1 :=
  ⟨hF.1 6 h0 ▸ h.n, hF.1 6 h0 ▸ h.L, hF.1 6 h0 ▸ h.M, hF.1 62 h1 ▸ h.code, hF.1 63 h2 ▸ h.size, hF.1 65 h3 ▸ h.plain, hF.2 64 h6 ▸ h.worth, by rw [hF.1 66 h4, hF.1 67 h5]; exact h.by_⟩
def Lo (S : Sh) (s0 : SS) (t : Nat) (s : SS) : Prop :=
  (s.1 6 0 = nI S.n) ∧
  (s.1 6 1 = nI S.L) ∧
  (s.1 6 2 = nI t) ∧
  (∀ i, i < t → s.1 62 i = nI (S.c i)) ∧
  (∀ i, i < t → s.1 63 i = nI (sz (S.c i))) ∧
  (∀ i, i < t → s.1 65 i = plb S (S.c i)) ∧
  (∀ i, i < t → s.2 64 i = WT S (S.c i)) ∧
  (FR [6, 62, 63, 65, 66, 67, 68] [64] s0 s)
theorem Lo.n {S : Sh} {s0 : SS} {t : Nat} {s : SS} (h : Lo S s0 t s) : s.1 6 0 = nI S.n := h.1
theorem Lo.L {S : Sh} {s0 : SS} {t : Nat} {s : SS} (h : Lo S s0 t s) : s.1 6 1 = nI S.L := h.2.1
theorem Lo.M {S : Sh} {s0 : SS} {t : Nat} {s : SS} (h : Lo S s0 t s) : s.1 6 2 = nI t := h.2.2.1
theorem Lo.code {S : Sh} {s0 : SS} {t : Nat} {s : SS} (h : Lo S s0 t s) : ∀ i, i < t → s.1 62 i = nI (S.c i) := h.2.2.2.1
theorem Lo.size {S : Sh} {s0 : SS} {t : Nat} {s : SS} (h : Lo S s0 t s) : ∀ i, i < t → s.1 63 i = nI (sz (S.c i)) := h.2.2.2.2.1
theorem Lo.plain {S : Sh} {s0 : SS} {t : Nat} {s : SS} (h : Lo S s0 t s) : ∀ i, i < t → s.1 65 i = plb S (S.c i) := h.2.2.2.2.2.1
theorem Lo.worth {S : Sh} {s0 : SS} {t : Nat} {s : SS} (h : Lo S s0 t s) : ∀ i, i < t → s.2 64 i = WT S (S.c i) := h.2.2.2.2.2.2.1
theorem Lo.fr {S : Sh} {s0 : SS} {t : Nat} {s : SS} (h : Lo S s0 t s) : FR [6, 62, 63, 65, 66, 67, 68] [64] s0 s := h.2.2.2.2.2.2.2
theorem adt_fr (S : Sh) (c t : Nat) (s : SS) : FR [6, 62, 63, 65] [64] s (adt S c t s) := (((((FR.refl s).sS (by decide) _ _).sS (by decide) _ _).sS (by decide) _ _).sSL (by decide) _ _).sS (by decide) _ _
section
variable {S : Sh} {s0 s : SS}
theorem upd_lt {f : Nat → Int32} {t : Nat} {v : Int32} {g : Nat → Int32} (h : ∀ i, i < t → f i = g i) (hv : v = g t) : ∀ i, i < t + 1 → upd f t v i = g i := by
  intro i hi
  unfold upd
  by_cases h1 : i = t
  · rw [if_pos h1, h1, hv]
  · rw [if_neg h1]; exact h i (by omega)
theorem updL_lt {f : Nat → Int64} {t : Nat} {v : Int64} {g : Nat → Int64} (h : ∀ i, i < t → f i = g i) (hv : v = g t) : ∀ i, i < t + 1 → vp_updL f t v i = g i := by
  intro i hi
  unfold vp_updL
  by_cases h1 : i = t
  · rw [if_pos h1, h1, hv]
  · rw [if_neg h1]; exact h i (by omega)
theorem Lo.more {t : Nat} (h : Lo S s0 t s) : Lo S s0 (t + 1) (adt S (S.c t) t s) := by
  refine ⟨?_, ?_, ?_, ?_, ?_, ?_, ?_, h.fr.trans ((adt_fr S (S.c t) t s).mono (by decide) (by decide))⟩
  · show (zS _ 6 2 _).1 6 0 = _
    rw [zS_1, if_neg (by decide), ← h.n]
    rfl
  · show (zS _ 6 2 _).1 6 1 = _
    rw [zS_1, if_neg (by decide), ← h.L]
    rfl
  · show (zS _ 6 2 _).1 6 2 = _
    rw [zS_1, if_pos ⟨rfl, rfl⟩]
  · show ∀ i, i < t + 1 → upd (s.1 62) t (nI (S.c t)) i = _
    exact upd_lt h.code rfl
  · show ∀ i, i < t + 1 → upd (s.1 63) t (nI (sz (S.c t))) i = _
    exact upd_lt h.size rfl
  · show ∀ i, i < t + 1 → upd (s.1 65) t (plb S (S.c t)) i = _
    exact upd_lt h.plain rfl
  · show ∀ i, i < t + 1 → vp_updL (s.2 64) t (WT S (S.c t)) i = _
    exact updL_lt h.worth rfl
theorem p_lay_70 (hS : ShOk S) (h : Lo S s0 S.M s) : ∃ s', f_X10_layOut_c70 s = some ((), s') ∧ TmC S s' ∧ FR [6, 62, 63, 65, 66, 67, 68] [64] s0 s' := by
  have hM := (cM_pos hS.ln).2
  have hn := hS.n5
  obtain ⟨b, st, hB, e⟩ := p_order (g := fun t => sz (S.c t)) (M := S.M) hM (fun t ht => Nat.le_trans (sz_le hS.ln ht) hn) h.M h.size
  refine ⟨zI (zI s 66 b) 67 st, ?_, ⟨h.n, h.L, h.M, h.code, h.size, h.plain, h.worth, hB⟩, (h.fr.sI (by decide) b).sI (by decide) st⟩
  rw [f_X10_layOut_c70, e, zbd_s]
theorem Lo.sI68 {t : Nat} (h : Lo S s0 t s) (f : Nat → Int32) : Lo S s0 t (zI s 68 f) := ⟨h.n, h.L, h.M, h.code, h.size, h.plain, h.worth, h.fr.sI (by decide) f⟩
theorem p_lay_43 (hS : ShOk S) (h0 : ShC S 3 15 s0) : ∀ j t m s, t + 1 + j = S.M → j + 2 ≤ m → Lo S s0 t s → Fg (s.1 68) (S.c t) →
    ∃ s', f_X10_layOut_c43 m 3 1 (nI t) s = some ((), s') ∧ TmC S s' ∧ FR [6, 62, 63, 65, 66, 67, 68] [64] s0 s' := by
  have hM := (cM_pos hS.ln).2
  have hn := hS.n5
  have z7 : zis Ox 7 3 = true := rfl
  intro j
  induction j with
  | zero =>
    intro t m s ht hm h hf
    obtain ⟨m, rfl⟩ : ∃ m', m = m' + 2 := ⟨m - 2, by omega⟩
    have htM : t < cM S.L S.n := by show t < S.M; omega
    have hM' : t + 1 ≤ 462 := by show t + 1 ≤ 462; exact Nat.le_trans htM hM
    have hlt := (cd_lt hS.ln htM).2
    have hs := sz_le hS.ln htM
    have hC : S.c t = 0 := by
      have := cd_last hS.ln
      unfold Sh.c
      rw [show t = cM S.L S.n - 1 from by show t = S.M - 1; omega]
      exact this
    have e1 : f_X10_addTerm 3 s = _ := p_add hS (h0.fr h.fr (by decide) (by decide) (by decide) (by decide)) hf hlt (Nat.le_trans hs hn) h.n h.L (by omega) h.M
    have ha := h.more
    have hf2 : Fg ((adt S (S.c t) t s).1 68) (S.c t) := by rw [(adt_fr S (S.c t) t s).1 68 (by decide)]; exact hf
    have e2 := (p_step hS.ln hlt ha.n ha.L hf2 hs).1 (by show lst (S.c t) S.L = none; rw [hC]; exact lst_0 _)
    rw [f_X10_layOut_c43, if_pos z7, if_neg (by rw [show (462 : Int32) = nI 462 from rfl]; exact nI_ge (by omega) (by omega)), if_neg (by decide), e1, zbd_s, e2, zbd_s, nI_1, f_X10_layOut_c43, if_pos z7]
    obtain ⟨s', e3, r⟩ := p_lay_70 hS (show Lo S s0 S.M _ from (show t + 1 = S.M by omega) ▸ ha)
    refine ⟨s', ?_, r⟩
    rw [if_pos (show (0 : Int32) = 0 from rfl), e3]
    split <;> rfl
  | succ j ih =>
    intro t m s ht hm h hf
    obtain ⟨m, rfl⟩ : ∃ m', m = m' + 1 := ⟨m - 1, by omega⟩
    have htM : t + 1 < cM S.L S.n := by show t + 1 < S.M; omega
    have htM' : t < cM S.L S.n := by omega
    have hlt := (cd_lt hS.ln htM').2
    have hs := sz_le hS.ln htM'
    have e1 : f_X10_addTerm 3 s = _ := p_add hS (h0.fr h.fr (by decide) (by decide) (by decide) (by decide)) hf hlt (Nat.le_trans hs hn) h.n h.L (by omega) h.M
    have ha := h.more
    have hf2 : Fg ((adt S (S.c t) t s).1 68) (S.c t) := by rw [(adt_fr S (S.c t) t s).1 68 (by decide)]; exact hf
    obtain ⟨i, hi, hd⟩ := cd_next hS.ln htM
    obtain ⟨f, e2, hf3⟩ := (p_step hS.ln hlt ha.n ha.L hf2 hs).2 i (S.c (t + 1)) hi hd
    rw [f_X10_layOut_c43, if_pos z7, if_neg (by rw [show (462 : Int32) = nI 462 from rfl]; exact nI_ge (by omega) (by omega)), if_neg (by decide), e1, zbd_s, e2, zbd_s, nI_1]
    exact ih (t + 1) m _ (by omega) (by omega) (ha.sI68 f) (by rw [zI_same]; exact hf3)
theorem fg_n {n : Nat} (hn : n ≤ 5) : ∀ k, dig n k = if k = 0 then n else 0 := by
  intro k
  cases k with
  | zero => simp [dig]; omega
  | succ k =>
    rw [dig_0 (L := 1) (by omega) (by omega)]
    rfl
theorem p_layOut (hS : ShOk S) (h : ShC S 3 15 s) : ∃ s', f_X10_layOut 3 s = some ((), s') ∧ TmC S s' ∧ FR [6, 62, 63, 65, 66, 67, 68] [64] s s' := by
  have hn := hS.n5
  have hM := cM_pos hS.ln
  rw [f_X10_layOut, if_pos (show zis Ox 7 3 = true from rfl), p_dim (Or.inl rfl) h, zbd_s]
  have h2 : ShC S 3 15 (zS s 6 0 (nI S.n)) := h.fr ((FR.refl s).sS (A := [6]) (B := []) (by decide) _ _) (by decide) (by decide) (by decide) (by decide)
  rw [p_letters hS (Or.inl rfl) h2, zbd_s, p_fillI 0 Ox_68 (by decide), zbd_s, if_pos (show zin 0 6 = true from rfl)]
  refine p_lay_43 hS h (S.M - 1) 0 ZF _ (by have : 1 ≤ S.M := hM.1; omega) (by have : S.M ≤ 462 := hM.2; unfold ZF; omega) ⟨?_, ?_, ?_, fun i hi => by omega, fun i hi => by omega, fun i hi => by omega, fun i hi => by omega, ?_⟩ ?_
  · rfl
  · rfl
  · rfl
  · exact (((((FR.refl s).sS (by decide) _ _).sS (by decide) _ _).sS (by decide) _ _).sI (by decide) _).sS (by decide) _ _
  · intro k hk
    rw [show S.c 0 = S.n from cd_0 hS.ln, fg_n hn, zS_at]
    unfold upd
    by_cases h1 : k = 0
    · rw [if_pos h1, if_pos (show k = ((0 : Int32)).toNatClampNeg from h1)]
      rfl
    · rw [if_neg h1, if_neg (show ¬ k = ((0 : Int32)).toNatClampNeg from h1), zI_same, if_pos hk]
      rfl
end
