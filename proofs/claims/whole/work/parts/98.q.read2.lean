section
variable {S : Sh} {C : Cl} {σ σ1 τ τ1 : SS}
theorem tap_0 (h1 : σ.1 8 1 = 0) (h2 : τ.1 0 27 = 0) : Tap σ τ := ⟨0, fun _ => 0, by decide, h1, h2, fun i hi => absurd hi (by omega), fun i hi => absurd hi (by omega), fun i hi => absurd hi (by omega)⟩
theorem bring_fin2 (h : Inv S C σ τ) (hF : FR YA YB σ σ1) (hG : FM QJ QA QB τ τ1) (K : KC S C σ1) (L : KM S C τ1) (t : Tap σ1 τ1) {k : Nat} (hk : Om k = .inr (1, 462, [])) (h10 : k ≠ 10) {v : Nat → Int64} (hm : C.mm < 8) (r1 : Rw S σ1 21 v) (r2 : Rw S τ1 k v) :
    ∃ σ2 τ2, zbd (f_X11_bringAll σ1) (fun _ s5 => zbd (f_X1_forget s5) (fun _ s8 => some (((s8.1 1 2) - (1 : Int32)), s8))) = some (nI C.mm, σ2) ∧ zbd (f_X12_forget τ1) (fun _ s5 => zbd (f_X12_comes k s5) (fun r7 s8 => some (r7, s8))) = some (nI C.mm, τ2) ∧ I0 σ2 τ2 := by
  obtain ⟨σ2, e1, F2, m1, c1⟩ := k_bring K hm r1
  have G2 : FM [21, 22] [] [] τ1 (zS (zS τ1 0 21 0) 0 22 0) := ((FM.refl τ1).sO (by simp) _).sO (by simp) _
  have L2 : KM S C (zS (zS τ1 0 21 0) 0 22 0) := ⟨L.ok, L.okC, L.sh.fm G2 (by decide) (by decide) (by decide) (by decide) (by decide) (by decide) (by decide), L.cl.fm G2 (by decide) (by decide) (by decide) (by decide), L.tm.fm G2 (by decide) (by decide) (by decide) (by decide) (by decide)⟩
  obtain ⟨τ2, e2, G3, c2⟩ := km_comes L2 (k := k) hk h10 hm (fun u hu => r2 u hu)
  have F3 : FR [7] [] σ2 (zS (zS σ2 7 4 0) 7 5 0) := ((FR.refl σ2).sS (by simp) _ _).sS (by simp) _ _
  have e3 : (zS (zS σ2 7 4 0) 7 5 0).1 1 2 = nI (C.mm + 1) := by rw [F3.1 1 (by decide)]; exact m1
  rw [e1, zbd_s, f_X1_forget, zbd_s, f_X12_forget, zbd_s, e2, zbd_s, e3, nI_pred]
  have F23 : FR [1, 7, 30, 31, 32, 33, 34, 35, 36, 37] [46, 47, 48, 49, 50, 51, 52, 53] σ1 (zS (zS σ2 7 4 0) 7 5 0) := (F2.mono (by decide) (by decide)).trans (F3.mono (by decide) (by decide))
  have G23 : FM [12, 21, 22] [8, 9] [10] τ1 τ2 := (G2.mono (by decide) (by decide) (by decide)).trans (G3.mono (by decide) (by decide) (by decide))
  refine ⟨_, _, rfl, rfl, S, C.add v, h.gen (hF.trans (F23.mono (by decide) (by decide))) (hG.trans (G23.mono (by decide) (by decide) (by decide))) (Cl.add_ok K.okC hm v) e3 (c1.fr (Cl.add_ok K.okC hm v) F3 (fun m hm => by simp; omega) (fun m hm => by simp)) c2 (chg_0 ?_ ?_ ?_ ?_) (t.fr F23 G23 (by decide) (by decide) (by decide) (by decide))⟩
  · simp [zS_1]
  · simp [zS_1]
  · rw [G3.o 21 (by decide)]; simp [zS_1]
  · rw [G3.o 22 (by decide)]; simp [zS_1]
theorem s_read (h : I0 σ τ) : ∃ r σ1 τ1, f_X11_read σ = some (r, σ1) ∧ f_X12_read τ = some (r, τ1) ∧ I0 σ1 τ1 := by
  obtain ⟨S, C, h⟩ := h
  have K := h.kc
  have L := h.km
  have h8 := K.okC.m8
  obtain ⟨l, B, a1, σ1, τ1, X, T1, F1, G1⟩ := text_all h
  have F2 : FR [8] [21] σ (zS σ1 8 1 0) := F1.sS (by simp) _ _
  have G2 : FM [27, 52, 53] [] [15] τ (zS τ1 0 27 0) := (G1.mono (by decide) (by decide) (by decide)).sO (by simp) _
  have K2 := K.t2 F2
  have L2 : KM S C (zS τ1 0 27 0) := ⟨L.ok, L.okC, L.sh.fm G2 (by decide) (by decide) (by decide) (by decide) (by decide) (by decide) (by decide), L.cl.fm G2 (by decide) (by decide) (by decide) (by decide), L.tm.fm G2 (by decide) (by decide) (by decide) (by decide) (by decide)⟩
  have t0 : Tap (zS σ1 8 1 0) (zS τ1 0 27 0) := tap_0 (by rw [zS_1, if_pos ⟨rfl, rfl⟩]) (by rw [zS_1, if_pos ⟨rfl, rfl⟩])
  have FY : FR YA YB σ (zS σ1 8 1 0) := F2.mono (by decide) (by decide)
  have GQ : FM QJ QA QB τ (zS τ1 0 27 0) := G2.mono (by decide) (by decide) (by decide)
  have hI : I0 (zS σ1 8 1 0) (zS τ1 0 27 0) := ⟨S, C, h.gen FY GQ K.okC K2.mm K2.cl L2.cl (h.chg.fr F2 G2 (by decide) (by decide) (by decide)) t0⟩
  rw [f_X11_read, f_X12_read]
  rcases X with ⟨e1, e2, v, r1, r2⟩ | ⟨e1, e2, ha⟩
  · rw [e1, zbd_s, if_pos rfl, K2.mm, e2, zbd_s, if_neg n10, L2.cl.mm]
    by_cases q : C.mm < 8
    · rw [if_pos (show nI C.mm < 8 from nI_lt (b := 8) q (by decide)), if_neg (fun w : nI C.mm = 8 => by have := (nI_eq (b := 8) (by omega) (by decide)).mp w; omega)]
      obtain ⟨σ3, τ3, e3, e4, hI2⟩ := bring_fin2 h FY GQ K2 L2 t0 (k := 15) rfl (by decide) q (fun u hu => r1 u hu) (fun u hu => r2 u hu)
      rw [e3, e4]
      exact ⟨_, _, _, rfl, rfl, hI2⟩
    · have : C.mm = 8 := by omega
      rw [this]
      exact ⟨-3, _, _, if_neg (by decide), if_pos rfl, hI⟩
  · have hl80 := T1.t.le
    have hne : ¬ nI a1 = -1 := fun w => nI_pos (n := a1) (by omega) (by rw [w]; decide)
    have e52 : (zS τ1 0 27 0).1 0 52 = nI a1 := by rw [zS_1, if_neg (fun q => absurd q.2 (by decide))]; exact T1.aM
    rw [e1, zbd_s, if_neg hne, e2, zbd_s, if_pos rfl, e52]
    exact ⟨_, _, _, rfl, rfl, hI⟩
end
