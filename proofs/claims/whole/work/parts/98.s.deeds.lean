section
variable {S : Sh} {C : Cl} {σ σ1 τ τ1 : SS}
/-! ===== the ACTS that THE TAPE tells ===== -/
def DS (k : Nat) (σ : SS) (τ : SS) : Prop :=
  (σ.1 9 3 = nI k) ∧
  (τ.1 0 54 = nI k) ∧
  (∀ i, i < k → ∃ w p q, w < 5 ∧ p ≤ 9 ∧ q ≤ 9 ∧ (σ.1 74 i = nI w ∧ σ.1 75 i = nI p ∧ σ.1 76 i = nI q) ∧ τ.1 35 i = nI w ∧ τ.1 36 i = nI p ∧ τ.1 37 i = nI q)
theorem DS.kC {k : Nat} {σ : SS} {τ : SS} (h : DS k σ τ) : σ.1 9 3 = nI k := h.1
theorem DS.kM {k : Nat} {σ : SS} {τ : SS} (h : DS k σ τ) : τ.1 0 54 = nI k := h.2.1
theorem DS.e {k : Nat} {σ : SS} {τ : SS} (h : DS k σ τ) : ∀ i, i < k → ∃ w p q, w < 5 ∧ p ≤ 9 ∧ q ≤ 9 ∧ (σ.1 74 i = nI w ∧ σ.1 75 i = nI p ∧ σ.1 76 i = nI q) ∧ τ.1 35 i = nI w ∧ τ.1 36 i = nI p ∧ τ.1 37 i = nI q := h.2.2
def TM (l : Nat) (B : Nat → Nat) (a : Nat) (τ : SS) : Prop :=
  (l ≤ 80) ∧
  (τ.1 0 27 = nI l) ∧
  (∀ i, i < l → τ.1 20 i = nI (B i)) ∧
  (a ≤ l) ∧
  (τ.1 0 52 = nI a)
theorem TM.l80 {l : Nat} {B : Nat → Nat} {a : Nat} {τ : SS} (h : TM l B a τ) : l ≤ 80 := h.1
theorem TM.lM {l : Nat} {B : Nat → Nat} {a : Nat} {τ : SS} (h : TM l B a τ) : τ.1 0 27 = nI l := h.2.1
theorem TM.bM {l : Nat} {B : Nat → Nat} {a : Nat} {τ : SS} (h : TM l B a τ) : ∀ i, i < l → τ.1 20 i = nI (B i) := h.2.2.1
theorem TM.al {l : Nat} {B : Nat → Nat} {a : Nat} {τ : SS} (h : TM l B a τ) : a ≤ l := h.2.2.2.1
theorem TM.aM {l : Nat} {B : Nat → Nat} {a : Nat} {τ : SS} (h : TM l B a τ) : τ.1 0 52 = nI a := h.2.2.2.2
theorem TM.he {l a : Nat} {B : Nat → Nat} (T : TM l B a τ) : f_X12_here τ = some (cs l B a, τ) := by
  have h1 := T.l80
  have h2 := T.al
  rw [f_X12_here, T.aM, T.lM, cs]
  by_cases q : a < l
  · rw [if_neg (nI_ge q (by omega)), if_pos (zin_nI (show a < 80 by omega) (by decide)), nI_clamp (by omega), T.bM a q, if_pos q]
  · rw [if_pos (nI_le (by omega) (by omega)), if_neg q]
theorem TM.fig {l a : Nat} {B : Nat → Nat} (T : TM l B a τ) : f_X12_isFigure τ = some (if 48 ≤ cs l B a ∧ cs l B a ≤ 57 then 1 else 0, τ) := by
  rw [f_X12_isFigure, T.he, zbd_s, pm_in32 (cs l B a) 48 57 48 57 rfl rfl, zbd_s]
  split <;> rfl
theorem TM.fm {l a : Nat} {B : Nat → Nat} (T : TM l B a τ) {J A B' : List Nat} (G : FM J A B' τ τ1) (h27 : 27 ∉ J) (h52 : 52 ∉ J) (h20 : 20 ∉ A) : TM l B a τ1 :=
  ⟨T.l80, by rw [G.o 27 h27]; exact T.lM, by rw [G.i 20 (by decide) h20]; exact T.bM, T.al, by rw [G.o 52 h52]; exact T.aM⟩
theorem TM.mv {l a b : Nat} {B : Nat → Nat} (T : TM l B a τ) (hb : b ≤ l) : TM l B b (zS τ 0 52 (nI b)) :=
  ⟨T.l80, by rw [zS_1, if_neg (fun q => absurd q.2 (by decide))]; exact T.lM, by rw [zS_ne _ _ _ (by decide)]; exact T.bM, hb, by rw [zS_1, if_pos ⟨rfl, rfl⟩]⟩
theorem fgr_val {l a : Nat} {B : Nat → Nat} (h : fgr (cs l B a)) : a < l ∧ ∃ p, p ≤ 9 ∧ cs l B a - 48 = nI p := by
  have hl : a < l := cs_lt (fun w => by unfold fgr at h; rw [w] at h; exact absurd h.1 (by decide))
  refine ⟨hl, ?_⟩
  obtain ⟨-, v, hv, e, h1, h2⟩ := (rng (cs l B a) 48 57 48 57 rfl rfl (by decide) (by decide)).resolve_right (fun w => w h)
  refine ⟨v - 48, by omega, ?_⟩
  rw [e, show (48 : Int32) = nI 48 from rfl, pk_sub h1]
/-- a number of the reference's acts -/
theorem rn_bad {l a : Nat} {B : Nat → Nat} (T : TM l B a τ) (hb : τ.1 0 53 = 1) : ∃ τ1, f_X12_readNumber τ = some (0, τ1) ∧ τ1.1 0 53 = 1 ∧ TM l B a τ1 ∧ FM [52, 53] [] [] τ τ1 := by
  have h1 : (zS τ 0 53 1).1 0 53 = 1 := by rw [zS_1, if_pos ⟨rfl, rfl⟩]
  have a1 : (zS τ 0 53 1).1 0 52 = nI a := by rw [zS_1, if_neg (fun q => absurd q.2 (by decide))]; exact T.aM
  have e1 : nI a + 0 = nI a := Int32.add_zero _
  have h2 : (zS (zS τ 0 53 1) 0 52 (nI a)).1 0 53 = 1 := by rw [zS_1, if_neg (fun q => absurd q.2 (by decide))]; exact h1
  have h3 : (zS (zS (zS τ 0 53 1) 0 52 (nI a)) 0 53 1).1 0 53 = 1 := by rw [zS_1, if_pos ⟨rfl, rfl⟩]
  have a3 : (zS (zS (zS τ 0 53 1) 0 52 (nI a)) 0 53 1).1 0 52 = nI a := by rw [zS_1, if_neg (fun q => absurd q.2 (by decide)), zS_1, if_pos ⟨rfl, rfl⟩]
  have G : FM [52, 53] [] [] τ (zS (zS (zS (zS τ 0 53 1) 0 52 (nI a)) 0 53 1) 0 52 (nI a)) := ((((FM.refl τ).sO (by simp) _).sO (by simp) _).sO (by simp) _).sO (by simp) _
  refine ⟨_, ?_, ?_, ⟨T.l80, by rw [G.o 27 (by decide)]; exact T.lM, by rw [G.i 20 (by decide) (by decide)]; exact T.bM, T.al, by rw [zS_1, if_pos ⟨rfl, rfl⟩]⟩, G⟩
  · rw [f_X12_readNumber, if_neg (by rw [hb]; decide), f_X12_readNumber_c17, f_X12_readNumber_c22, if_pos (show zb01 1 = true from rfl), h1, if_neg n10, f_X12_readNumber_c42, a1, e1, h2, if_neg n10, f_X12_readNumber_c61, f_X12_readNumber_c66, if_pos (show zb01 1 = true from rfl), h3, if_neg n10, f_X12_readNumber_c87, h3, if_neg n10, a3, e1]
  · rw [zS_1, if_neg (fun q => absurd q.2 (by decide)), h3]
theorem rn_c {l a : Nat} {B : Nat → Nat} (T : TM l B a τ) (hb : τ.1 0 53 = 0) : ∃ v τ1, f_X12_readNumber τ = some (v, τ1) ∧ FM [52, 53] [] [] τ τ1 ∧
    ((cs l B a ≠ 32 ∧ τ1.1 0 53 = 1 ∧ TM l B a τ1) ∨ (cs l B a = 32 ∧ ¬ fgr (cs l B (a + 1)) ∧ τ1.1 0 53 = 1 ∧ TM l B (a + 1) τ1) ∨ (cs l B a = 32 ∧ fgr (cs l B (a + 1)) ∧ v = cs l B (a + 1) - 48 ∧ τ1.1 0 53 = 0 ∧ TM l B (a + 2) τ1)) := by
  have e0 : ∀ x : Int32, x + 0 = x := Int32.add_zero
  rw [f_X12_readNumber, if_pos hb, T.he, zbd_s]
  by_cases q : cs l B a = 32
  rotate_left
  · rw [if_neg q]
    have h1 : (zS τ 0 53 1).1 0 53 = 1 := by rw [zS_1, if_pos ⟨rfl, rfl⟩]
    have a1 : (zS τ 0 53 1).1 0 52 = nI a := by rw [zS_1, if_neg (fun q => absurd q.2 (by decide))]; exact T.aM
    have h2 : (zS (zS τ 0 53 1) 0 52 (nI a)).1 0 53 = 1 := by rw [zS_1, if_neg (fun q => absurd q.2 (by decide))]; exact h1
    have h3 : (zS (zS (zS τ 0 53 1) 0 52 (nI a)) 0 53 1).1 0 53 = 1 := by rw [zS_1, if_pos ⟨rfl, rfl⟩]
    have a3 : (zS (zS (zS τ 0 53 1) 0 52 (nI a)) 0 53 1).1 0 52 = nI a := by rw [zS_1, if_neg (fun q => absurd q.2 (by decide)), zS_1, if_pos ⟨rfl, rfl⟩]
    have G : FM [52, 53] [] [] τ (zS (zS (zS (zS τ 0 53 1) 0 52 (nI a)) 0 53 1) 0 52 (nI a)) := ((((FM.refl τ).sO (by simp) _).sO (by simp) _).sO (by simp) _).sO (by simp) _
    refine ⟨0, _, ?_, G, Or.inl ⟨q, ?_, ⟨T.l80, by rw [G.o 27 (by decide)]; exact T.lM, by rw [G.i 20 (by decide) (by decide)]; exact T.bM, T.al, by rw [zS_1, if_pos ⟨rfl, rfl⟩]⟩⟩⟩
    · rw [f_X12_readNumber_c17, f_X12_readNumber_c22, if_pos (show zb01 1 = true from rfl), h1, if_neg n10, f_X12_readNumber_c42, a1, e0, h2, if_neg n10, f_X12_readNumber_c61, f_X12_readNumber_c66, if_pos (show zb01 1 = true from rfl), h3, if_neg n10, f_X12_readNumber_c87, h3, if_neg n10, a3, e0]
    · rw [zS_1, if_neg (fun q => absurd q.2 (by decide)), h3]
  have hal : a < l := cs_lt (fun w => by rw [w] at q; exact absurd q (by decide))
  have hl80 := T.l80
  have h1 : (zS τ 0 53 0).1 0 53 = 0 := by rw [zS_1, if_pos ⟨rfl, rfl⟩]
  have G1 : FM [53] [] [] τ (zS τ 0 53 0) := (FM.refl τ).sO (by simp) _
  have T1 := T.fm G1 (by decide) (by decide) (by decide)
  have T2 := T1.mv (b := a + 1) (by omega)
  have h2 : (zS (zS τ 0 53 0) 0 52 (nI (a + 1))).1 0 53 = 0 := by rw [zS_1, if_neg (fun q => absurd q.2 (by decide))]; exact h1
  have G2 : FM [52, 53] [] [] τ (zS (zS τ 0 53 0) 0 52 (nI (a + 1))) := (G1.mono (by decide) (by decide) (by decide)).sO (by simp) _
  rw [if_pos q, f_X12_readNumber_c22, if_pos (show zb01 0 = true from rfl), h1, if_pos rfl, f_X12_readNumber_c42, T1.aM, nI_1]
  generalize hτ2 : zS (zS τ 0 53 0) 0 52 (nI (a + 1)) = τ2 at *
  rw [h2, if_pos rfl, T2.fig, zbd_s]
  by_cases f : 48 ≤ cs l B (a + 1) ∧ cs l B (a + 1) ≤ 57
  rotate_left
  · rw [if_neg f, if_pos rfl]
    have h3 : (zS τ2 0 53 1).1 0 53 = 1 := by rw [zS_1, if_pos ⟨rfl, rfl⟩]
    have a3 : (zS τ2 0 53 1).1 0 52 = nI (a + 1) := by rw [zS_1, if_neg (fun q => absurd q.2 (by decide))]; exact T2.aM
    have G : FM [52, 53] [] [] τ (zS (zS τ2 0 53 1) 0 52 (nI (a + 1))) := (G2.sO (by simp) _).sO (by simp) _
    refine ⟨0, _, ?_, G, Or.inr (Or.inl ⟨q, f, ?_, ⟨T.l80, by rw [G.o 27 (by decide)]; exact T.lM, by rw [G.i 20 (by decide) (by decide)]; exact T.bM, by omega, by rw [zS_1, if_pos ⟨rfl, rfl⟩]⟩⟩)⟩
    · rw [f_X12_readNumber_c61, f_X12_readNumber_c66, if_pos (show zb01 1 = true from rfl), h3, if_neg n10, f_X12_readNumber_c87, h3, if_neg n10, a3, e0]
    · rw [zS_1, if_neg (fun q => absurd q.2 (by decide)), h3]
  rw [if_pos f, if_neg n10]
  have hal2 := (fgr_val f).1
  have h3 : (zS τ2 0 53 0).1 0 53 = 0 := by rw [zS_1, if_pos ⟨rfl, rfl⟩]
  have G3 : FM [53] [] [] τ2 (zS τ2 0 53 0) := (FM.refl τ2).sO (by simp) _
  have T3 := T2.fm G3 (by decide) (by decide) (by decide)
  have T4 := T3.mv (b := a + 1 + 1) (by omega)
  refine ⟨cs l B (a + 1) - 48, zS (zS τ2 0 53 0) 0 52 (nI (a + 1 + 1)), ?_, (G2.sO (by simp) _).sO (by simp) _, Or.inr (Or.inr ⟨q, f, rfl, ?_, T4⟩)⟩
  · rw [f_X12_readNumber_c66, if_pos (show zb01 0 = true from rfl), h3, if_pos rfl, T3.he, zbd_s, f_X12_readNumber_c87, h3, if_pos rfl, T3.aM, nI_1]
  · rw [zS_1, if_neg (fun q => absurd q.2 (by decide)), h3]
/-- how the reference reads one ACT -/
def AEnd (l : Nat) (B : Nat → Nat) (k a : Nat) (τ τ1 : SS) : Prop :=
  (τ1.1 0 53 = 1 ∧ τ1.1 0 54 = nI k)
theorem readAct_len {l a n : Nat} {B : Nat → Nat} (x : Int32) (h1 : ∀ i, i < n → low (cs l B (a + i))) : ∀ j i m τ, i + j = n → j < m → TM l B (a + i) τ → a + n ≤ l → ∃ m' τ1, f_X12_readAct_c5 m x τ = f_X12_readAct_c5 (m' + 1) x τ1 ∧ m = m' + 1 + j ∧ TM l B (a + n) τ1 ∧ FM [52] [] [] τ τ1 := by
  intro j
  induction j with
  | zero =>
    intro i m τ hi hm T ha
    obtain ⟨m, rfl⟩ : ∃ x, m = x + 1 := ⟨m - 1, by omega⟩
    exact ⟨m, τ, rfl, rfl, by rw [show n = i by omega]; exact T, FM.refl τ⟩
  | succ j ih =>
    intro i m τ hi hm T ha
    obtain ⟨m, rfl⟩ : ∃ x, m = x + 1 := ⟨m - 1, by omega⟩
    have hl := h1 i (by omega)
    have hl' : 97 ≤ cs l B (a + i) ∧ cs l B (a + i) ≤ 122 := hl
    have T1 := T.mv (b := a + i + 1) (by omega)
    have G1 : FM [52] [] [] τ (zS τ 0 52 (nI (a + i + 1))) := (FM.refl τ).sO (by simp) _
    obtain ⟨m', τ1, e1, e2, T2, G2⟩ := ih (i + 1) m _ (by omega) (by omega) T1 ha
    refine ⟨m', τ1, ?_, by omega, T2, G1.trans G2⟩
    rw [f_X12_readAct_c5, T.he, zbd_s, pm_in32 (cs l B (a + i)) 97 122 97 122 rfl rfl, zbd_s, if_pos hl', if_neg n10, T.aM, nI_1, e1]
end
