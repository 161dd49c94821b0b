abbrev YA : List Nat := [1, 7, 8, 30, 31, 32, 33, 34, 35, 36, 37, 69, 70, 71, 72, 9, 26, 68, 74, 75, 76, 81]
abbrev YB : List Nat := [46, 47, 48, 49, 50, 51, 52, 53, 21, 22, 23, 24, 25]
abbrev QJ : List Nat := [12, 21, 22, 27, 51, 52, 53, 54, 58]
abbrev QA : List Nat := [8, 9, 16, 17, 18, 19, 12, 32, 35, 36, 37, 38]
abbrev QB : List Nat := [10, 11, 13, 14, 15, 33, 34, 39]
section
variable {S : Sh} {C C1 : Cl} {σ σ1 τ τ1 : SS}
/-- what changes classes, changes, tape and scratch alone -/
theorem Inv.gen (h : Inv S C σ τ) (hF : FR YA YB σ σ1) (hG : FM QJ QA QB τ τ1) (hC : ClOk C1) (m1 : σ1.1 1 2 = nI C1.mm) (c1 : ClC S C1 30 46 σ1) (c2 : ClM S C1 τ1) (g : Chg C1.mm σ1 τ1) (t : Tap σ1 τ1) : Inv S C1 σ1 τ1 :=
  ⟨⟨h.core.ok, h.core.shC.fr hF (by decide) (by decide) (by decide) (by decide), h.core.shM.fm hG (by decide) (by decide) (by decide) (by decide) (by decide) (by decide) (by decide), hC, m1, c1, c2,
    h.core.tmC.fr hF (by decide) (by decide) (by decide) (by decide) (by decide) (by decide) (by decide), h.core.tmM.fm hG (by decide) (by decide) (by decide) (by decide) (by decide)⟩,
    h.img.fr2 hF hG (by decide) (by decide) (by decide) (by decide) (by decide), g, t, h.pap.fr hF hG (by decide) (by decide) (by decide) (by decide), h.lis.fr hF hG (by decide) (by decide) (fun m hm => by simp; omega) (by decide) (by decide) (by decide), h.trc.fr hF hG (by decide) (by decide) (by decide) (by decide)⟩
/-! ===== TELL ===== -/
def Cl.tell (C : Cl) (m t : Nat) (v : Int64) : Cl := (C.mm, C.kd, C.fg, fun m' t' => if m' = m ∧ t' = t then v else C.tl m' t')
theorem s_tell (x y : Int32) (v : Int64) (h : I0 σ τ) : ∃ r σ1 τ1, f_X11_tell x y v σ = some (r, σ1) ∧ f_X12_tell x y v τ = some (r, τ1) ∧ I0 σ1 τ1 := by
  obtain ⟨S, C, h⟩ := h
  have K := h.kc
  have L := h.km
  have hM := K.M
  rw [f_X11_tell, f_X12_tell]
  rcases cls_cases K.okC x with e | ⟨m, hm, h8, rfl, e⟩
  · rw [K.clN e, zbd_s, zbn_n, L.isN e, zbd_s, K.find, zbd_s]
    exact ex0 h.i0 _ rfl (if_pos rfl)
  rw [K.clS e, zbd_s, zbn_s, if_pos (ZOx_k (by omega)).1, L.isS e, zbd_s, if_neg n10, K.find, zbd_s, L.termOf, zbd_s]
  rcases pI_cases K.ok y with e2 | ⟨t, ht, e2, -⟩
  · exact ex0 h.i0 _ (by rw [e2]; exact if_neg (by decide)) (by rw [e2]; exact if_neg (by decide))
  have h462 : t < 462 := by omega
  rw [e2, show oI (some t) = nI t from rfl, if_pos (nI_pos' (by omega)), if_pos (nI_pos' (by omega)), L.termOf, zbd_s, e2, show oI (some t) = nI t from rfl, (ZOx_k (show m < 16 by omega)).2.1, if_pos (zok_nI (ZOx_k (show m < 16 by omega)).2.2 h462 (by decide)), show (462 : Int32) = nI 462 from rfl, pk_mul, nI_add, if_pos (zin_nI (by omega) (by decide)), nI_clamp (by omega), nI_clamp (by omega)]
  refine ⟨_, _, _, rfl, rfl, S, C.tell m t v, h.gen ((FR.refl σ).sSL (by simp; omega) _ _) ((FM.refl τ).sSL (by simp) _ _) ⟨K.okC.m8, K.okC.k5, K.okC.f9⟩ K.mm ⟨K.cl.kd, K.cl.fg, fun m' hm' t' ht' => ?_⟩ ⟨L.cl.mm, L.cl.kd, L.cl.fg, fun m' hm' t' ht' => ?_⟩ ?_ ?_⟩
  · rw [zSL_2]
    show _ = if m' = m ∧ t' = t then v else C.tl m' t'
    by_cases q : m' = m ∧ t' = t
    · rw [if_pos (by omega), if_pos q]
    · rw [if_neg (by omega), if_neg q]; exact K.cl.tl m' hm' t' ht'
  · rw [zSL_2]
    show _ = if m' = m ∧ t' = t then v else C.tl m' t'
    by_cases q : m' = m ∧ t' = t
    · rw [if_pos (by omega), if_pos q]
    · rw [if_neg (by omega), if_neg q]; exact L.cl.tl m' hm' t' ht'
  · obtain ⟨d, u, G⟩ := h.chg
    exact ⟨d, u, G.le, G.dC, G.uC, G.dM, G.uM, G.e⟩
  · obtain ⟨l, B, T⟩ := h.tap
    exact ⟨l, B, T.le, T.lC, T.lM, T.r, T.bC, T.bM⟩
/-! ===== BECOME ===== -/
def Cl.put (C : Cl) (o w b : Nat) : Cl := (C.mm, (fun m => if w = 0 ∧ m = o then b else C.kd m), (fun m => if w ≠ 0 ∧ m = o then b else C.fg m), C.tl)
theorem Cl.put_ok (h : ClOk C) {o w b : Nat} (hb : (w = 0 ∧ b ≤ 5) ∨ (w ≠ 0 ∧ b ≤ 9)) : ClOk (C.put o w b) := by
  refine ⟨h.m8, fun m => ?_, fun m => ?_⟩
  · show (if w = 0 ∧ m = o then b else C.kd m) ≤ 5
    split
    · omega
    · exact h.k5 m
  · show (if w ≠ 0 ∧ m = o then b else C.fg m) ≤ 9
    split
    · omega
    · exact h.f9 m
def bk (σ : SS) (o w b : Nat) : SS := zS σ (30 + o) (if w = 0 then 0 else 1) (nI b)
def bkM (τ : SS) (o w b : Nat) : SS := zS τ (if w = 0 then 8 else 9) o (nI b)
theorem p_become {o w b : Nat} (ho : o < 8) (hw : w < 2) : f_X4_become (30 + o) (nI w) (nI b) σ = some (if w = 0 then σ.1 (30 + o) 0 else σ.1 (30 + o) 1, bk σ o w b) := by
  have hz := (ZOx_k (m := o) (by omega)).1
  have : w = 0 ∨ w = 1 := by omega
  rw [f_X4_become, if_pos hz, f_X4_become_c15, if_pos hz, f_X4_become_c15, if_pos hz, bk]
  rcases this with rfl | rfl
  · rw [if_pos (show nI 0 = 0 from rfl), if_pos (show nI 0 = 0 from rfl)]
    rfl
  · rw [if_neg (show ¬ nI 1 = 0 by decide), if_neg (show ¬ nI 1 = 0 by decide)]
    rfl
theorem pm_become {o w b : Nat} (ho : o < 8) (hw : w < 2) : f_X12_become (nI o) (nI w) (nI b) τ = some ((), bkM τ o w b) := by
  have : w = 0 ∨ w = 1 := by omega
  rw [f_X12_become, if_pos (zin_nI ho (by decide)), if_pos (zin_nI ho (by decide)), nI_clamp (by omega), bkM]
  rcases this with rfl | rfl
  · rfl
  · rfl
theorem bk_fr {o w b : Nat} (ho : o < 8) : FR [30, 31, 32, 33, 34, 35, 36, 37] [] σ (bk σ o w b) := (FR.refl σ).sS (by simp; omega) _ _
theorem bkM_fm {o w b : Nat} : FM [] [8, 9] [] τ (bkM τ o w b) := by
  unfold bkM
  split
  · exact (FM.refl τ).sS (by decide) (by simp) _ _
  · exact (FM.refl τ).sS (by decide) (by simp) _ _
theorem bk_cl (h : ClC S C 30 46 σ) {o w b : Nat} (hw : w < 2) : ClC S (C.put o w b) 30 46 (bk σ o w b) := by
  have : w = 0 ∨ w = 1 := by omega
  refine ⟨fun m hm => ?_, fun m hm => ?_, fun m hm t ht => h.tl m hm t ht⟩
  · show _ = nI (if w = 0 ∧ m = o then b else C.kd m)
    rw [bk, zS_1]
    rcases this with rfl | rfl
    · by_cases q : m = o
      · rw [if_pos (by simp; omega), if_pos ⟨rfl, q⟩]
      · rw [if_neg (by simp; omega), if_neg (fun w => q w.2)]; exact h.kd m hm
    · rw [if_neg (by simp), if_neg (by simp)]; exact h.kd m hm
  · show _ = nI (if w ≠ 0 ∧ m = o then b else C.fg m)
    rw [bk, zS_1]
    rcases this with rfl | rfl
    · rw [if_neg (by simp), if_neg (by simp)]; exact h.fg m hm
    · by_cases q : m = o
      · rw [if_pos (by simp; omega), if_pos ⟨by decide, q⟩]
      · rw [if_neg (by simp; omega), if_neg (fun w => q w.2)]; exact h.fg m hm
theorem bkM_cl (h : ClM S C τ) {o w b : Nat} (hw : w < 2) : ClM S (C.put o w b) (bkM τ o w b) := by
  have : w = 0 ∨ w = 1 := by omega
  refine ⟨by rw [bkM_fm.o 12 (by decide)]; exact h.mm, fun m hm => ?_, fun m hm => ?_, fun m hm t ht => by rw [bkM_fm.l 10 (by decide)]; exact h.tl m hm t ht⟩
  · show _ = nI (if w = 0 ∧ m = o then b else C.kd m)
    rw [bkM, zS_1]
    rcases this with rfl | rfl
    · by_cases q : m = o
      · rw [if_pos (by simp; omega), if_pos ⟨rfl, q⟩]
      · rw [if_neg (by simp; omega), if_neg (fun w => q w.2)]; exact h.kd m hm
    · rw [if_neg (by simp), if_neg (by simp)]; exact h.kd m hm
  · show _ = nI (if w ≠ 0 ∧ m = o then b else C.fg m)
    rw [bkM, zS_1]
    rcases this with rfl | rfl
    · rw [if_neg (by simp), if_neg (by simp)]; exact h.fg m hm
    · by_cases q : m = o
      · rw [if_pos (by simp; omega), if_pos ⟨by decide, q⟩]
      · rw [if_neg (by simp; omega), if_neg (fun w => q w.2)]; exact h.fg m hm
/-! ===== UNDO, REDO, DROP ===== -/
theorem p_tellCh (hC : ClOk C) (hm : σ.1 1 2 = nI C.mm) {i o w b k : Nat} (hi : i < 12) (hk : k = 71 ∨ k = 72) (ho : o < C.mm) (hw : w < 2) (e1 : σ.1 69 i = nI o) (e2 : σ.1 70 i = nI w) (e3 : σ.1 k i = nI b) : f_X11_tellChange (nI i) k σ = some ((), bk σ o w b) := by
  have h8 := hC.m8
  have ec : cidx C.mm (nI o).toInt64 = some o := by
    unfold cidx
    rw [nI64 (by omega), if_pos (by omega)]
    rfl
  have hz : zia Ox 0 k = true ∧ zlen Ox k = 12 ∧ Ox k = .inr (0, 12, []) := by rcases hk with rfl | rfl <;> exact ⟨rfl, rfl, rfl⟩
  rw [f_X11_tellChange, if_neg (nI_pos (by omega)), if_pos hz.1, hz.2.1, if_pos (nI_lt hi (by decide)), if_pos (zin_nI hi (by decide)), nI_clamp (by omega), e1, p_classAt hC hm, ec, zbd_s, Option.map_some, zbn_s, if_pos (ZOx_k (by omega)).1, if_pos (zin_nI hi (by decide)), if_pos (zok_nI hz.2.2 hi (by decide)), e2, e3, p_become (by omega) hw, zbd_s]
theorem ChOk.w2 {mm o w a b : Nat} (h : ChOk mm o w a b) : w < 2 := by unfold ChOk at h; omega
theorem ChOk.o8 {mm o w a b : Nat} (h : ChOk mm o w a b) : o < mm := h.1
theorem s_undo (h : I0 σ τ) : ∃ r σ1 τ1, f_X11_undo σ = some (r, σ1) ∧ f_X12_undo τ = some (r, τ1) ∧ I0 σ1 τ1 := by
  obtain ⟨S, C, h⟩ := h
  have K := h.kc
  have L := h.km
  have h8 := K.okC.m8
  obtain ⟨d, u, G⟩ := h.chg
  have hl := G.le
  rw [f_X11_undo, f_X12_undo, G.dC, G.dM]
  by_cases q : d = 0
  · subst q
    exact ex0 h.i0 _ (if_pos rfl) (if_pos rfl)
  obtain ⟨i, rfl⟩ : ∃ i, d = i + 1 := ⟨d - 1, by omega⟩
  have ne : ¬ nI (i + 1) = 0 := nI_ne0 (by omega) (by omega)
  rw [if_neg ne, if_neg ne, nI_pred]
  have c1 : (zS σ 7 4 (nI i)).1 7 5 = nI u := by rw [zS_1, if_neg (fun q => absurd q.2 (by decide))]; exact G.uC
  have m1 : (zS τ 0 21 (nI i)).1 0 22 = nI u := by rw [zS_1, if_neg (fun q => absurd q.2 (by decide))]; exact G.uM
  rw [c1, m1, nI_1]
  have c2 : (zS (zS σ 7 4 (nI i)) 7 5 (nI (u + 1))).1 7 4 = nI i := by rw [zS_1, if_neg (fun q => absurd q.2 (by decide)), zS_1, if_pos ⟨rfl, rfl⟩]
  have m2 : (zS (zS τ 0 21 (nI i)) 0 22 (nI (u + 1))).1 0 21 = nI i := by rw [zS_1, if_neg (fun q => absurd q.2 (by decide)), zS_1, if_pos ⟨rfl, rfl⟩]
  have c3 : (zS (zS σ 7 4 (nI i)) 7 5 (nI (u + 1))).1 7 5 = nI (u + 1) := by rw [zS_1, if_pos ⟨rfl, rfl⟩]
  have m3 : (zS (zS τ 0 21 (nI i)) 0 22 (nI (u + 1))).1 0 22 = nI (u + 1) := by rw [zS_1, if_pos ⟨rfl, rfl⟩]
  have F : FR [7] [] σ (zS (zS σ 7 4 (nI i)) 7 5 (nI (u + 1))) := ((FR.refl σ).sS (by simp) _ _).sS (by simp) _ _
  have GM : FM [21, 22] [] [] τ (zS (zS τ 0 21 (nI i)) 0 22 (nI (u + 1))) := ((FM.refl τ).sO (by simp) _).sO (by simp) _
  generalize hs : zS (zS σ 7 4 (nI i)) 7 5 (nI (u + 1)) = s at *
  generalize ht : zS (zS τ 0 21 (nI i)) 0 22 (nI (u + 1)) = t at *
  obtain ⟨o, w, a, b, hc, ⟨e1, e2, e3, e4⟩, f1, f2, f3, f4⟩ := G.e i (by omega)
  rw [c2, m2, p_tellCh (C := C) K.okC (by rw [F.1 1 (by decide)]; exact K.mm) (show i < 12 by omega) (Or.inl rfl) hc.o8 hc.w2 (by rw [F.1 69 (by decide)]; exact e1) (by rw [F.1 70 (by decide)]; exact e2) (by rw [F.1 71 (by decide)]; exact e3), zbd_s, if_pos (zin_nI (show i < 12 by omega) (by decide)), if_pos (zin_nI (show i < 12 by omega) (by decide)), if_pos (zin_nI (show i < 12 by omega) (by decide)), nI_clamp (by omega), GM.i 16 (by decide) (by decide), GM.i 17 (by decide) (by decide), GM.i 18 (by decide) (by decide), f1, f2, f3, pm_become (by have := hc.o8; omega) hc.w2, zbd_s]
  have F2 := bk_fr (σ := s) (w := w) (b := a) (show o < 8 by have := hc.o8; omega)
  have G2 := bkM_fm (τ := t) (o := o) (w := w) (b := a)
  have FF : FR [7, 30, 31, 32, 33, 34, 35, 36, 37] [] σ (bk s o w a) := (F.mono (by decide) (by decide)).trans (F2.mono (by decide) (by decide))
  have GG : FM [21, 22] [8, 9] [] τ (bkM t o w a) := (GM.mono (by decide) (by decide) (by decide)).trans (G2.mono (by decide) (by decide) (by decide))
  refine ⟨nI i, _, _, by rw [F2.1 7 (by decide), c2], by rw [G2.o 21 (by decide), m2], S, C.put o w a, h.gen (FF.mono (by decide) (by decide)) (GG.mono (by decide) (by decide) (by decide)) (Cl.put_ok K.okC (by unfold ChOk at hc; omega)) (by rw [FF.1 1 (by decide)]; exact K.mm) (bk_cl (K.cl.fr K.okC F (fun m hm => by simp; omega) (fun m hm => by simp)) hc.w2) (bkM_cl (L.cl.fm GM (by decide) (by decide) (by decide) (by decide)) hc.w2) ⟨i, u + 1, by omega, by rw [F2.1 7 (by decide), c2], by rw [F2.1 7 (by decide), c3], by rw [G2.o 21 (by decide), m2], by rw [G2.o 22 (by decide), m3], ?_⟩ (h.tap.fr FF GG (by decide) (by decide) (by decide) (by decide))⟩
  rw [FF.1 69 (by decide), FF.1 70 (by decide), FF.1 71 (by decide), FF.1 72 (by decide), GG.i 16 (by decide) (by decide), GG.i 17 (by decide) (by decide), GG.i 18 (by decide) (by decide), GG.i 19 (by decide) (by decide)]
  exact fun j hj => G.e j (by omega)
end
