section
variable {S : Sh} {C C1 : Cl} {σ σ1 τ τ1 : SS}
theorem s_redo (h : I0 σ τ) : ∃ r σ1 τ1, f_X11_redo σ = some (r, σ1) ∧ f_X12_redo τ = some (r, τ1) ∧ I0 σ1 τ1 := by
  obtain ⟨S, C, h⟩ := h
  have K := h.kc
  have L := h.km
  have h8 := K.okC.m8
  obtain ⟨d, u, G⟩ := h.chg
  have hl := G.le
  rw [f_X11_redo, f_X12_redo, G.uC, G.uM, G.dC, G.dM]
  by_cases q : u = 0
  · subst q
    exact ex0 h.i0 _ (if_pos rfl) (if_pos rfl)
  obtain ⟨u, rfl⟩ : ∃ i, u = i + 1 := ⟨u - 1, by omega⟩
  have ne : ¬ nI (u + 1) = 0 := nI_ne0 (by omega) (by omega)
  obtain ⟨o, w, a, b, hc, ⟨e1, e2, e3, e4⟩, f1, f2, f3, f4⟩ := G.e d (by omega)
  rw [if_neg ne, if_neg ne, p_tellCh (C := C) K.okC K.mm (show d < 12 by omega) (Or.inr rfl) hc.o8 hc.w2 e1 e2 e4, zbd_s, if_pos (zin_nI (show d < 12 by omega) (by decide)), if_pos (zin_nI (show d < 12 by omega) (by decide)), if_pos (zin_nI (show d < 12 by omega) (by decide)), nI_clamp (by omega), f1, f2, f4, pm_become (by have := hc.o8; omega) hc.w2, zbd_s]
  have F2 := bk_fr (σ := σ) (w := w) (b := b) (show o < 8 by have := hc.o8; omega)
  have G2 := bkM_fm (τ := τ) (o := o) (w := w) (b := b)
  have k1 := bk_cl (o := o) (b := b) K.cl hc.w2
  have k2 := bkM_cl (o := o) (b := b) L.cl hc.w2
  generalize hs : bk σ o w b = s at *
  generalize ht : bkM τ o w b = t at *
  have c1 : (zS s 7 4 (nI (d + 1))).1 7 5 = nI (u + 1) := by rw [zS_1, if_neg (fun q => absurd q.2 (by decide)), F2.1 7 (by decide)]; exact G.uC
  have m1 : (zS t 0 21 (nI (d + 1))).1 0 22 = nI (u + 1) := by rw [zS_1, if_neg (fun q => absurd q.2 (by decide)), G2.o 22 (by decide)]; exact G.uM
  rw [F2.1 7 (by decide), G2.o 21 (by decide), G.dC, G.dM, nI_1, c1, m1, nI_pred]
  have c2 : (zS (zS s 7 4 (nI (d + 1))) 7 5 (nI u)).1 7 5 = nI u := by rw [zS_1, if_pos ⟨rfl, rfl⟩]
  have m2 : (zS (zS t 0 21 (nI (d + 1))) 0 22 (nI u)).1 0 22 = nI u := by rw [zS_1, if_pos ⟨rfl, rfl⟩]
  have c3 : (zS (zS s 7 4 (nI (d + 1))) 7 5 (nI u)).1 7 4 = nI (d + 1) := by rw [zS_1, if_neg (fun q => absurd q.2 (by decide)), zS_1, if_pos ⟨rfl, rfl⟩]
  have m3 : (zS (zS t 0 21 (nI (d + 1))) 0 22 (nI u)).1 0 21 = nI (d + 1) := by rw [zS_1, if_neg (fun q => absurd q.2 (by decide)), zS_1, if_pos ⟨rfl, rfl⟩]
  have F3 : FR [7] [] s (zS (zS s 7 4 (nI (d + 1))) 7 5 (nI u)) := ((FR.refl s).sS (by simp) _ _).sS (by simp) _ _
  have G3 : FM [21, 22] [] [] t (zS (zS t 0 21 (nI (d + 1))) 0 22 (nI u)) := ((FM.refl t).sO (by simp) _).sO (by simp) _
  have FF : FR [7, 30, 31, 32, 33, 34, 35, 36, 37] [] σ (zS (zS s 7 4 (nI (d + 1))) 7 5 (nI u)) := (F2.mono (by decide) (by decide)).trans (F3.mono (by decide) (by decide))
  have GG : FM [21, 22] [8, 9] [] τ (zS (zS t 0 21 (nI (d + 1))) 0 22 (nI u)) := (G2.mono (by decide) (by decide) (by decide)).trans (G3.mono (by decide) (by decide) (by decide))
  refine ⟨nI u, _, _, by rw [c2], by rw [m2], S, C.put o w b, h.gen (FF.mono (by decide) (by decide)) (GG.mono (by decide) (by decide) (by decide)) (Cl.put_ok K.okC (by unfold ChOk at hc; omega)) (by rw [FF.1 1 (by decide)]; exact K.mm) (k1.fr (Cl.put_ok K.okC (by unfold ChOk at hc; omega)) F3 (fun m hm => by simp; omega) (fun m hm => by simp)) (k2.fm G3 (by decide) (by decide) (by decide) (by decide)) ⟨d + 1, u, by omega, c3, c2, m3, m2, ?_⟩ (h.tap.fr FF GG (by decide) (by decide) (by decide) (by decide))⟩
  rw [FF.1 69 (by decide), FF.1 70 (by decide), FF.1 71 (by decide), FF.1 72 (by decide), GG.i 16 (by decide) (by decide), GG.i 17 (by decide) (by decide), GG.i 18 (by decide) (by decide), GG.i 19 (by decide) (by decide)]
  exact fun j hj => G.e j (by omega)
theorem chg_0 {mm : Nat} (h1 : σ.1 7 4 = 0) (h2 : σ.1 7 5 = 0) (h3 : τ.1 0 21 = 0) (h4 : τ.1 0 22 = 0) : Chg mm σ τ := ⟨0, 0, by decide, h1, h2, h3, h4, fun i hi => absurd hi (by omega)⟩
theorem s_drop (h : I0 σ τ) : ∃ r σ1 τ1, f_X11_drop σ = some (r, σ1) ∧ f_X12_drop τ = some (r, τ1) ∧ I0 σ1 τ1 := by
  obtain ⟨S, C, h⟩ := h
  have K := h.kc
  have L := h.km
  have h8 := K.okC.m8
  rw [f_X11_drop, f_X12_drop, K.mm, L.cl.mm]
  by_cases q : C.mm = 0
  · rw [q]
    exact ex0 h.i0 _ (if_pos rfl) (if_pos rfl)
  obtain ⟨m, hm⟩ : ∃ i, C.mm = i + 1 := ⟨C.mm - 1, by omega⟩
  rw [hm]
  have ne : ¬ nI (m + 1) = 0 := nI_ne0 (by omega) (by omega)
  rw [if_neg ne, if_neg ne, nI_pred, f_X1_forget, f_X12_forget, zbd_s, zbd_s]
  have FF : FR [1, 7] [] σ (zS (zS (zS σ 1 2 (nI m)) 7 4 0) 7 5 0) := (((FR.refl σ).sS (by simp) _ _).sS (by simp) _ _).sS (by simp) _ _
  have GG : FM [12, 21, 22] [] [] τ (zS (zS (zS τ 0 12 (nI m)) 0 21 0) 0 22 0) := (((FM.refl τ).sO (by simp) _).sO (by simp) _).sO (by simp) _
  have c1 : (zS (zS (zS σ 1 2 (nI m)) 7 4 0) 7 5 0).1 1 2 = nI m := by simp [zS_1]
  have m1 : (zS (zS (zS τ 0 12 (nI m)) 0 21 0) 0 22 0).1 0 12 = nI m := by simp [zS_1]
  have c4 : (zS (zS (zS σ 1 2 (nI m)) 7 4 0) 7 5 0).1 7 4 = 0 := by simp [zS_1]
  have c5 : (zS (zS (zS σ 1 2 (nI m)) 7 4 0) 7 5 0).1 7 5 = 0 := by simp [zS_1]
  have m4 : (zS (zS (zS τ 0 12 (nI m)) 0 21 0) 0 22 0).1 0 21 = 0 := by simp [zS_1]
  have m5 : (zS (zS (zS τ 0 12 (nI m)) 0 21 0) 0 22 0).1 0 22 = 0 := by simp [zS_1]
  refine ⟨nI m, _, _, by rw [c1], by rw [m1], S, (m, C.kd, C.fg, C.tl), h.gen (FF.mono (by decide) (by decide)) (GG.mono (by decide) (by decide) (by decide)) ⟨by show m ≤ 8; omega, K.okC.k5, K.okC.f9⟩ c1 ⟨fun k hk => ?_, fun k hk => ?_, fun k hk t ht => ?_⟩ ⟨m1, fun k hk => ?_, fun k hk => ?_, fun k hk t ht => ?_⟩ (chg_0 c4 c5 m4 m5) (h.tap.fr FF GG (by decide) (by decide) (by decide) (by decide))⟩
  all_goals have hk' : k < C.mm := by (have : k < m := hk); omega
  · rw [FF.1 _ (show 30 + k ∉ [1, 7] by simp; omega)]; exact K.cl.kd k hk'
  · rw [FF.1 _ (show 30 + k ∉ [1, 7] by simp; omega)]; exact K.cl.fg k hk'
  · exact K.cl.tl k hk' t ht
  · rw [GG.i 8 (by decide) (by decide)]; exact L.cl.kd k hk'
  · rw [GG.i 9 (by decide) (by decide)]; exact L.cl.fg k hk'
  · exact L.cl.tl k hk' t ht
/-! ===== SET: remembering ===== -/
def DE (σ : SS) : SS := zS (zI (zI (zI (zI σ 69 (va_cpy (σ.1 69) (σ.1 69) 1 0 11)) 70 (va_cpy (σ.1 70) (σ.1 70) 1 0 11)) 71 (va_cpy (σ.1 71) (σ.1 71) 1 0 11)) 72 (va_cpy (σ.1 72) (σ.1 72) 1 0 11)) 7 4 11
theorem p_eldest (σ : SS) : f_X1_dropEldest σ = some ((), DE σ) := rfl
def RM (σ : SS) (i o w a b : Nat) : SS := zS (zS (zS (zS (zS (zS σ 69 i (nI o)) 70 i (nI w)) 71 i (nI a)) 72 i (nI b)) 7 4 (nI (i + 1))) 7 5 0
theorem p_rem_c {i o w a b : Nat} (hi : i < 12) (hd : σ.1 7 4 = nI i) : f_X1_remember_c13 (nI o) (nI w) (nI a) (nI b) σ = some ((), RM σ i o w a b) := by
  have z := zin_nI hi (show 12 ≤ 2 ^ 31 by decide)
  have c1 : (zS σ 69 i (nI o)).1 7 4 = nI i := by rw [zS_1, if_neg (fun q => absurd q.1 (by decide))]; exact hd
  have c2 : (zS (zS σ 69 i (nI o)) 70 i (nI w)).1 7 4 = nI i := by rw [zS_1, if_neg (fun q => absurd q.1 (by decide))]; exact c1
  have c3 : (zS (zS (zS σ 69 i (nI o)) 70 i (nI w)) 71 i (nI a)).1 7 4 = nI i := by rw [zS_1, if_neg (fun q => absurd q.1 (by decide))]; exact c2
  have c4 : (zS (zS (zS (zS σ 69 i (nI o)) 70 i (nI w)) 71 i (nI a)) 72 i (nI b)).1 7 4 = nI i := by rw [zS_1, if_neg (fun q => absurd q.1 (by decide))]; exact c3
  rw [f_X1_remember_c13, hd, nI_clamp (by omega), c1, nI_clamp (by omega), c2, nI_clamp (by omega), c3, nI_clamp (by omega), c4, nI_1, if_pos z, if_pos z, if_pos z, if_pos z]
  rfl
def RMm (τ : SS) (i o w a b : Nat) : SS := zS (zS (zS (zS (zS (zS τ 16 i (nI o)) 17 i (nI w)) 18 i (nI a)) 19 i (nI b)) 0 21 (nI (i + 1))) 0 22 0
theorem pm_rem_c {i o w a b : Nat} (hi : i < 12) (ho : o < 8) (hw : w < 2) (hd : τ.1 0 21 = nI i) : f_X12_set_c165 (nI o) (nI w) (nI b) (nI a) τ = some (nI a, bkM (RMm τ i o w a b) o w b) := by
  have z := zin_nI hi (show 12 ≤ 2 ^ 31 by decide)
  have c1 : (zS τ 16 i (nI o)).1 0 21 = nI i := by rw [zS_1, if_neg (fun q => absurd q.1 (by decide))]; exact hd
  have c2 : (zS (zS τ 16 i (nI o)) 17 i (nI w)).1 0 21 = nI i := by rw [zS_1, if_neg (fun q => absurd q.1 (by decide))]; exact c1
  have c3 : (zS (zS (zS τ 16 i (nI o)) 17 i (nI w)) 18 i (nI a)).1 0 21 = nI i := by rw [zS_1, if_neg (fun q => absurd q.1 (by decide))]; exact c2
  have c4 : (zS (zS (zS (zS τ 16 i (nI o)) 17 i (nI w)) 18 i (nI a)) 19 i (nI b)).1 0 21 = nI i := by rw [zS_1, if_neg (fun q => absurd q.1 (by decide))]; exact c3
  rw [f_X12_set_c165, hd, nI_clamp (by omega), c1, nI_clamp (by omega), c2, nI_clamp (by omega), c3, nI_clamp (by omega), c4, nI_1, if_pos z, if_pos z, if_pos z, if_pos z, pm_become ho hw, zbd_s]
  rfl
/-- the reference's shift -/
def Shf (i : Nat) (τ0 : SS) (τ : SS) : Prop :=
  (FM [] [16, 17, 18, 19] [] τ0 τ) ∧
  (∀ k, k = 16 ∨ k = 17 ∨ k = 18 ∨ k = 19 → ∀ q, τ.1 k q = if q + 1 < i then τ0.1 k (q + 1) else τ0.1 k q)
theorem Shf.fm {i : Nat} {τ0 : SS} {τ : SS} (h : Shf i τ0 τ) : FM [] [16, 17, 18, 19] [] τ0 τ := h.1
theorem Shf.r {i : Nat} {τ0 : SS} {τ : SS} (h : Shf i τ0 τ) : ∀ k, k = 16 ∨ k = 17 ∨ k = 18 ∨ k = 19 → ∀ q, τ.1 k q = if q + 1 < i then τ0.1 k (q + 1) else τ0.1 k q := h.2
theorem pm_shf {τ0 : SS} {o w a b : Int32} : ∀ j i n τ, i + j = 12 → 1 ≤ i → j < n → Shf i τ0 τ → ∃ τ1, f_X12_set_c82 n o w b a (nI i) τ = f_X12_set_c165 o w b a (zS τ1 0 21 11) ∧ Shf 12 τ0 τ1 := by
  intro j
  induction j with
  | zero =>
    intro i n τ hi h1 hn H
    obtain ⟨n, rfl⟩ : ∃ m', n = m' + 1 := ⟨n - 1, by omega⟩
    have : i = 12 := by omega
    subst this
    exact ⟨τ, by rw [f_X12_set_c82, if_pos (show (12 : Int32) ≤ nI 12 by decide)], H⟩
  | succ j ih =>
    intro i n τ hi h1 hn H
    obtain ⟨n, rfl⟩ : ∃ m', n = m' + 1 := ⟨n - 1, by omega⟩
    obtain ⟨i, rfl⟩ : ∃ i', i = i' + 1 := ⟨i - 1, by omega⟩
    have z1 := zin_nI (show i + 1 < 12 by omega) (show 12 ≤ 2 ^ 31 by decide)
    have z2 := zin_nI (show i < 12 by omega) (show 12 ≤ 2 ^ 31 by decide)
    rw [f_X12_set_c82, if_neg (show ¬ (12 : Int32) ≤ nI (i + 1) from nI_ge (b := 12) (by omega) (by decide)), nI_pred, if_pos z1, if_pos z2, if_pos z1, if_pos z2, if_pos z1, if_pos z2, if_pos z1, if_pos z2, nI_clamp (by omega), nI_clamp (by omega), nI_1]
    refine ih (i + 1 + 1) n _ (by omega) (by omega) (by omega) ⟨?_, ?_⟩
    · exact H.fm.trans (((((FM.refl τ).sS (by decide) (by simp) _ _).sS (by decide) (by simp) _ _).sS (by decide) (by simp) _ _).sS (by decide) (by simp) _ _)
    · intro k hk q
      have e1 := H.r k hk q
      have e2 := H.r k hk (i + 1)
      rw [if_neg (by omega)] at e2
      by_cases w : q = i
      · subst w
        rw [if_pos (by omega)]
        rcases hk with rfl | rfl | rfl | rfl <;> simp [zS_1, e2]
      · have : (if q + 1 < i + 1 + 1 then τ0.1 k (q + 1) else τ0.1 k q) = (if q + 1 < i + 1 then τ0.1 k (q + 1) else τ0.1 k q) := by
          by_cases v : q + 1 < i + 1
          · rw [if_pos v, if_pos (by omega)]
          · rw [if_neg v, if_neg (by omega)]
        rw [this, ← e1]
        rcases hk with rfl | rfl | rfl | rfl <;> simp [zS_1, w]
end
