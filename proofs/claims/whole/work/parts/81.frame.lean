/-! ===== what scratch leaves as it is ===== -/
abbrev XA : List Nat := [9, 26, 68, 74, 75, 76, 81]
abbrev XB : List Nat := [21, 22, 23, 24, 25]
abbrev MJ : List Nat := [51, 52, 53, 54, 58]
abbrev MA : List Nat := [12, 32, 35, 36, 37, 38]
abbrev MB : List Nat := [11, 13, 14, 15, 33, 34, 39]
section
variable {S : Sh} {C : Cl} {σ σ1 τ τ1 : SS}
theorem Core.sc (h : Core S C σ τ) (hF : FR XA XB σ σ1) (hG : FM MJ MA MB τ τ1) : Core S C σ1 τ1 :=
  ⟨h.ok, h.shC.fr hF (by decide) (by decide) (by decide) (by decide), h.shM.fm hG (by decide) (by decide) (by decide) (by decide) (by decide) (by decide) (by decide), h.okC,
    by rw [hF.1 1 (by decide)]; exact h.mC, h.clC.fr h.okC hF (fun m hm => by simp; omega) (fun m hm => by simp; omega), h.clM.fm hG (by decide) (by decide) (by decide) (by decide),
    h.tmC.fr hF (by decide) (by decide) (by decide) (by decide) (by decide) (by decide) (by decide), h.tmM.fm hG (by decide) (by decide) (by decide) (by decide) (by decide)⟩
theorem ShK.fm {J A B : List Nat} (h : ShK S τ) (hF : FM J A B τ τ1) (h0 : 37 ∉ J) (h1 : 38 ∉ J) (h2 : 39 ∉ J) (h4 : 41 ∉ J) (a1 : 26 ∉ A) (a2 : 27 ∉ A) (a3 : 28 ∉ A) : ShK S τ1 :=
  ⟨hF.o 37 h0 ▸ h.so, hF.o 38 h1 ▸ h.n, hF.o 39 h2 ▸ h.f, hF.o 41 h4 ▸ h.e, hF.i 26 (by decide) a1 ▸ h.dm, hF.i 27 (by decide) a2 ▸ h.dg, hF.i 28 (by decide) a3 ▸ h.gn⟩
theorem ClK.fm {J A B : List Nat} (h : ClK S C τ) (hF : FM J A B τ τ1) (h0 : 44 ∉ J) (a1 : 29 ∉ A) (a2 : 30 ∉ A) (a3 : 31 ∉ B) : ClK S C τ1 :=
  ⟨hF.o 44 h0 ▸ h.mm, hF.i 29 (by decide) a1 ▸ h.kd, hF.i 30 (by decide) a2 ▸ h.fg, hF.l 31 a3 ▸ h.tl⟩
/-- THE IMAGE stays under frames that leave it -/
theorem Img.fr {A B J A' B' : List Nat} (h : Img σ τ) (hF : FR A B σ σ1) (hG : FM J A' B' τ τ1) (hA : ∀ k ∈ [0, 2, 4, 18, 19, 20], k ∉ A) (hA2 : ∀ m, m < 8 → 38 + m ∉ A) (hB : ∀ m, m < 8 → 54 + m ∉ B) (hJ : ∀ k ∈ [36, 37, 38, 39, 41, 44], k ∉ J) (hA' : ∀ k ∈ [26, 27, 28, 29, 30], k ∉ A') (hB' : 31 ∉ B') : Img σ1 τ1 := by
  have e0 := hF.1 0 (hA 0 (by decide))
  have e36 := hG.o 36 (hJ 36 (by decide))
  rcases h with ⟨h1, h2⟩ | ⟨h1, h2, S, C, h⟩
  · exact Or.inl ⟨by rw [e0]; exact h1, by rw [e36]; exact h2⟩
  · refine Or.inr ⟨by rw [e0]; exact h1, by rw [e36]; exact h2, S, C, h.ok, h.shC.fr hF (hA 4 (by decide)) (hA 18 (by decide)) (hA 19 (by decide)) (hA 20 (by decide)), h.shK.fm hG (hJ 37 (by decide)) (hJ 38 (by decide)) (hJ 39 (by decide)) (hJ 41 (by decide)) (hA' 26 (by decide)) (hA' 27 (by decide)) (hA' 28 (by decide)), h.okC, by rw [hF.1 2 (hA 2 (by decide))]; exact h.mC, h.clC.fr h.okC hF hA2 hB, h.clK.fm hG (hJ 44 (by decide)) (hA' 29 (by decide)) (hA' 30 (by decide)) hB'⟩
theorem Chg.fr {A B J A' B' : List Nat} {mm : Nat} (h : Chg mm σ τ) (hF : FR A B σ σ1) (hG : FM J A' B' τ τ1) (hA : ∀ k ∈ [7, 69, 70, 71, 72], k ∉ A) (hJ : ∀ k ∈ [21, 22], k ∉ J) (hA' : ∀ k ∈ [16, 17, 18, 19], k ∉ A') : Chg mm σ1 τ1 := by
  obtain ⟨d, u, h⟩ := h
  have e7 := hF.1 7 (hA 7 (by decide))
  refine ⟨d, u, h.le, e7 ▸ h.dC, e7 ▸ h.uC, hG.o 21 (hJ 21 (by decide)) ▸ h.dM, hG.o 22 (hJ 22 (by decide)) ▸ h.uM, ?_⟩
  rw [hF.1 69 (hA 69 (by decide)), hF.1 70 (hA 70 (by decide)), hF.1 71 (hA 71 (by decide)), hF.1 72 (hA 72 (by decide)), hG.i 16 (by decide) (hA' 16 (by decide)), hG.i 17 (by decide) (hA' 17 (by decide)), hG.i 18 (by decide) (hA' 18 (by decide)), hG.i 19 (by decide) (hA' 19 (by decide))]
  exact h.e
theorem Tap.fr {A B J A' B' : List Nat} (h : Tap σ τ) (hF : FR A B σ σ1) (hG : FM J A' B' τ τ1) (h8 : 8 ∉ A) (h73 : 73 ∉ A) (h27 : 27 ∉ J) (h20 : 20 ∉ A') : Tap σ1 τ1 := by
  obtain ⟨l, b, h⟩ := h
  exact ⟨l, b, h.le, hF.1 8 h8 ▸ h.lC, hG.o 27 h27 ▸ h.lM, h.r, hF.1 73 h73 ▸ h.bC, hG.i 20 (by decide) h20 ▸ h.bM⟩
theorem Pap.fr {A B J A' B' : List Nat} (h : Pap σ τ) (hF : FR A B σ σ1) (hG : FM J A' B' τ τ1) (h8 : 10 ∉ A) (h73 : 80 ∉ A) (h27 : 29 ∉ J) (h20 : 21 ∉ A') : Pap σ1 τ1 := by
  obtain ⟨l, h⟩ := h
  refine ⟨l, h.le, hF.1 10 h8 ▸ h.lC, hG.o 29 h27 ▸ h.lM, ?_⟩
  rw [hF.1 80 h73, hG.i 21 (by decide) h20]
  exact h.b
theorem Lis.fr {A B J A' B' : List Nat} (h : Lis σ τ) (hF : FR A B σ σ1) (hG : FM J A' B' τ τ1) (h8 : 27 ∉ A) (h73 : 28 ∉ A) (hB : ∀ l, l < 3 → 77 + l ∉ B) (h22 : 22 ∉ A') (h23 : 23 ∉ A') (h24 : 24 ∉ B') : Lis σ1 τ1 := by
  intro l hl
  obtain ⟨z, h⟩ := h l hl
  have e1 := hF.1 27 h8
  have e2 := hF.1 28 h73
  have e3 := hG.i 22 (by decide) h22
  refine ⟨z, by rw [e1]; exact h.so, by rw [e1, e3]; exact h.sM, h.zl, by rw [e2]; exact h.zC, by rw [hG.i 23 (by decide) h23]; exact h.zM, by rw [e1]; exact h.z0, ?_⟩
  rw [hF.2 _ (hB l hl), hG.l 24 h24]
  exact h.n
theorem Trc.fr {A B J A' B' : List Nat} (h : Trc σ τ) (hF : FR A B σ σ1) (hG : FM J A' B' τ τ1) (h12 : 12 ∉ A) (h82 : 82 ∉ A) (h34 : 34 ∉ J) (h25 : 25 ∉ A') : Trc σ1 τ1 := by
  obtain ⟨m, h⟩ := h
  refine ⟨m, h.le, hF.1 12 h12 ▸ h.mC, hG.o 34 h34 ▸ h.mM, ?_⟩
  rw [hF.1 82 h82, hG.i 25 (by decide) h25]
  exact h.e
theorem Inv.sc (h : Inv S C σ τ) (hF : FR XA XB σ σ1) (hG : FM MJ MA MB τ τ1) : Inv S C σ1 τ1 :=
  ⟨h.core.sc hF hG, h.img.fr hF hG (by decide) (fun m hm => by simp; omega) (fun m hm => by simp; omega) (by decide) (by decide) (by decide),
    h.chg.fr hF hG (by decide) (by decide) (by decide), h.tap.fr hF hG (by decide) (by decide) (by decide) (by decide), h.pap.fr hF hG (by decide) (by decide) (by decide) (by decide),
    h.lis.fr hF hG (by decide) (by decide) (fun m hm => by simp; omega) (by decide) (by decide) (by decide), h.trc.fr hF hG (by decide) (by decide) (by decide) (by decide)⟩
end
