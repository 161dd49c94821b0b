section
variable {S : Sh} {C C1 : Cl} {σ σ1 τ τ1 : SS}
theorem rm_fr {i o w a b : Nat} : FR [7, 69, 70, 71, 72] [] σ (RM σ i o w a b) := ((((((FR.refl σ).sS (by simp) _ _).sS (by simp) _ _).sS (by simp) _ _).sS (by simp) _ _).sS (by simp) _ _).sS (by simp) _ _
theorem rmm_fm {i o w a b : Nat} : FM [21, 22] [16, 17, 18, 19] [] τ (RMm τ i o w a b) := ((((((FM.refl τ).sS (by decide) (by simp) _ _).sS (by decide) (by simp) _ _).sS (by decide) (by simp) _ _).sS (by decide) (by simp) _ _).sO (by simp) _).sO (by simp) _
theorem set_fin (h : Inv S C σ τ) {d u d0 sh o w a b : Nat} {σ0 τ0 : SS} (G : ChgD C.mm d u σ τ) (hd : d0 < 12) (hs : d0 + sh = d) (hF : FR [7, 69, 70, 71, 72] [] (bk σ o w b) σ0) (hG : FM [21] [16, 17, 18, 19] [] τ τ0)
    (hc : ∀ k, k = 69 ∨ k = 70 ∨ k = 71 ∨ k = 72 → ∀ i, i < d0 → σ0.1 k i = σ.1 k (i + sh)) (hm : ∀ k, k = 16 ∨ k = 17 ∨ k = 18 ∨ k = 19 → ∀ i, i < d0 → τ0.1 k i = τ.1 k (i + sh)) (hok : ChOk C.mm o w a b) : I0 (RM σ0 d0 o w a b) (bkM (RMm τ0 d0 o w a b) o w b) := by
  have K := h.kc
  have L := h.km
  have h8 := K.okC.m8
  have ho : o < 8 := by have := hok.o8; omega
  have hw := hok.w2
  have hp : ClOk (C.put o w b) := Cl.put_ok K.okC (by unfold ChOk at hok; omega)
  have F1 := bk_fr (σ := σ) (w := w) (b := b) ho
  have F3 := rm_fr (σ := σ0) (i := d0) (o := o) (w := w) (a := a) (b := b)
  have G3 := rmm_fm (τ := τ0) (i := d0) (o := o) (w := w) (a := a) (b := b)
  have G4 := bkM_fm (τ := RMm τ0 d0 o w a b) (o := o) (w := w) (b := b)
  have FF : FR [7, 30, 31, 32, 33, 34, 35, 36, 37, 69, 70, 71, 72] [] σ (RM σ0 d0 o w a b) := ((F1.mono (by decide) (by decide)).trans (hF.mono (by decide) (by decide))).trans (F3.mono (by decide) (by decide))
  have GG : FM [21, 22] [8, 9, 16, 17, 18, 19] [] τ (bkM (RMm τ0 d0 o w a b) o w b) := ((hG.mono (by decide) (by decide) (by decide)).trans (G3.mono (by decide) (by decide) (by decide))).trans (G4.mono (by decide) (by decide) (by decide))
  refine ⟨S, C.put o w b, h.gen (FF.mono (by decide) (by decide)) (GG.mono (by decide) (by decide) (by decide)) hp (by rw [FF.1 1 (by decide)]; exact K.mm)
    (((bk_cl K.cl hw).fr hp hF (fun m hm => by simp; omega) (fun m hm => by simp)).fr hp F3 (fun m hm => by simp; omega) (fun m hm => by simp))
    (bkM_cl (((L.cl.fm hG (by decide) (by decide) (by decide) (by decide))).fm G3 (by decide) (by decide) (by decide) (by decide)) hw) ⟨d0 + 1, 0, by omega, ?_, ?_, ?_, ?_, ?_⟩ (h.tap.fr FF GG (by decide) (by decide) (by decide) (by decide))⟩
  · simp [RM, zS_1]
  · simp [RM, zS_1]; rfl
  · rw [G4.o 21 (by decide)]; simp [RMm, zS_1]
  · rw [G4.o 22 (by decide)]; simp [RMm, zS_1]; rfl
  · intro i hi
    rw [G4.i 16 (by decide) (by decide), G4.i 17 (by decide) (by decide), G4.i 18 (by decide) (by decide), G4.i 19 (by decide) (by decide)]
    by_cases q : i = d0
    · subst q
      refine ⟨o, w, a, b, hok, ⟨?_, ?_, ?_, ?_⟩, ?_, ?_, ?_, ?_⟩ <;> simp [RM, RMm, zS_1]
    · obtain ⟨o', w', a', b', hc', ⟨e1, e2, e3, e4⟩, f1, f2, f3, f4⟩ := G.e (i + sh) (by omega)
      refine ⟨o', w', a', b', hc', ⟨?_, ?_, ?_, ?_⟩, ?_, ?_, ?_, ?_⟩
      · rw [← e1, ← hc 69 (by decide) i (by omega)]; simp [RM, zS_1, q]
      · rw [← e2, ← hc 70 (by decide) i (by omega)]; simp [RM, zS_1, q]
      · rw [← e3, ← hc 71 (by decide) i (by omega)]; simp [RM, zS_1, q]
      · rw [← e4, ← hc 72 (by decide) i (by omega)]; simp [RM, zS_1, q]
      · rw [← f1, ← hm 16 (by decide) i (by omega)]; simp [RMm, zS_1, q]
      · rw [← f2, ← hm 17 (by decide) i (by omega)]; simp [RMm, zS_1, q]
      · rw [← f3, ← hm 18 (by decide) i (by omega)]; simp [RMm, zS_1, q]
      · rw [← f4, ← hm 19 (by decide) i (by omega)]; simp [RMm, zS_1, q]
theorem set_key (h : Inv S C σ τ) {o w a b : Nat} (hok : ChOk C.mm o w a b) (ha : (if w = 0 then C.kd o else C.fg o) = a) :
    ∃ r σ1 τ1, f_X11_set_c42 (nI o) (nI w) (nI b) (30 + o) (nI b) (nI b) σ = some (r, σ1) ∧ f_X12_set_c62 (nI o) (nI w) (nI b) (nI a) τ = some (r, τ1) ∧ I0 σ1 τ1 := by
  have K := h.kc
  have L := h.km
  have h8 := K.okC.m8
  have ho : o < 8 := by have := hok.o8; omega
  have hw := hok.w2
  have hp : ClOk (C.put o w b) := Cl.put_ok K.okC (by unfold ChOk at hok; omega)
  obtain ⟨d, u, G⟩ := h.chg
  have hl := G.le
  have F1 := bk_fr (σ := σ) (w := w) (b := b) ho
  have ea : (if w = 0 then σ.1 (30 + o) 0 else σ.1 (30 + o) 1) = nI a := by
    rw [← ha, K.cl.kd o hok.o8, K.cl.fg o hok.o8]
    by_cases q : w = 0
    · rw [if_pos q, if_pos q]
    · rw [if_neg q, if_neg q]
  have hab : a < 2 ^ 31 ∧ b < 2 ^ 31 := by unfold ChOk at hok; omega
  rw [f_X11_set_c42, if_pos (ZOx_k (by omega)).1, if_pos (Int32.le_refl _), p_become ho hw, zbd_s, ea, f_X12_set_c62]
  by_cases q : a = b
  · have q' : nI a = nI b := by rw [q]
    rw [if_pos q', if_pos q']
    refine ⟨_, _, _, rfl, rfl, S, C.put o w b, h.gen (F1.mono (by decide) (by decide)) (FM.refl τ) hp (by rw [F1.1 1 (by decide)]; exact K.mm) (bk_cl K.cl hw) ⟨L.cl.mm, fun m hm => ?_, fun m hm => ?_, L.cl.tl⟩ (h.chg.fr F1 (FM.refl (J := []) (A := []) (B := []) τ) (by decide) (by decide) (by decide)) (h.tap.fr F1 (FM.refl (J := []) (A := []) (B := []) τ) (by decide) (by decide) (by decide) (by decide))⟩
    · show _ = nI (if w = 0 ∧ m = o then b else C.kd m)
      by_cases v : w = 0 ∧ m = o
      · rw [if_pos v, ← q, ← ha, if_pos v.1, ← v.2]; exact L.cl.kd m hm
      · rw [if_neg v]; exact L.cl.kd m hm
    · show _ = nI (if w ≠ 0 ∧ m = o then b else C.fg m)
      by_cases v : w ≠ 0 ∧ m = o
      · rw [if_pos v, ← q, ← ha, if_neg v.1, ← v.2]; exact L.cl.fg m hm
      · rw [if_neg v]; exact L.cl.fg m hm
  · have q' : ¬ nI a = nI b := fun v => q ((nI_eq hab.1 hab.2).mp v)
    rw [if_neg q', if_neg q', f_X1_remember, F1.1 7 (by decide), G.dC, G.dM]
    by_cases q12 : d < 12
    · rw [if_pos (show nI d < 12 from nI_lt (b := 12) q12 (by decide)), p_rem_c q12 (by rw [F1.1 7 (by decide)]; exact G.dC), zbd_s, if_neg (fun v : nI d = 12 => by have := (nI_eq (b := 12) (by omega) (by decide)).mp v; omega), pm_rem_c q12 ho hw G.dM]
      exact ⟨_, _, _, rfl, rfl, set_fin h (sh := 0) G q12 (by omega) (FR.refl _) (FM.refl _) (fun k hk i hi => by rw [F1.1 k (by rcases hk with rfl | rfl | rfl | rfl <;> decide)]; rfl) (fun k hk i hi => rfl) hok⟩
    · have : d = 12 := by omega
      subst this
      obtain ⟨τ1, e, H⟩ := pm_shf (τ0 := τ) (o := nI o) (w := nI w) (b := nI b) (a := nI a) 11 1 ZF τ (by omega) (by omega) (by unfold ZF; omega) ⟨FM.refl τ, fun k hk q => by rw [if_neg (by omega)]⟩
      rw [show nI 1 = 1 from rfl] at e
      have c4 : (DE (bk σ o w b)).1 7 4 = nI 11 := by rw [DE, zS_1, if_pos ⟨rfl, rfl⟩]; rfl
      have m4 : (zS τ1 0 21 11).1 0 21 = nI 11 := by rw [zS_1, if_pos ⟨rfl, rfl⟩]; rfl
      rw [if_neg (show ¬ nI 12 < 12 by decide), p_eldest, zbd_s, p_rem_c (show 11 < 12 by decide) c4, zbd_s, if_pos (show nI 12 = 12 from rfl), e, pm_rem_c (show 11 < 12 by decide) ho hw m4]
      refine ⟨_, _, _, rfl, rfl, set_fin h (sh := 1) G (by decide) (by decide) ?_ (((H.fm.mono (by decide) (by decide) (by decide)).sO (by simp) _)) ?_ ?_ hok⟩
      · exact (((((FR.refl _).sI (by simp) _).sI (by simp) _).sI (by simp) _).sI (by simp) _).sS (by simp) _ _
      · intro k hk i hi
        have e1 : ∀ f : Nat → Int32, va_cpy f f 1 0 11 i = f (i + 1) := fun f => by rw [pk_cpy_in (by omega) (by omega)]; congr 1; omega
        rw [← F1.1 k (by rcases hk with rfl | rfl | rfl | rfl <;> decide), ← e1 ((bk σ o w b).1 k)]
        rcases hk with rfl | rfl | rfl | rfl <;> simp [DE, zS_1, zI_1]
      · intro k hk i hi
        rw [zS_1, if_neg (by rcases hk with rfl | rfl | rfl | rfl <;> simp), H.r k hk i, if_pos (by omega)]
theorem s_set (x y v : Int32) (h : I0 σ τ) : ∃ r σ1 τ1, f_X11_set x y v σ = some (r, σ1) ∧ f_X12_set x y v τ = some (r, τ1) ∧ I0 σ1 τ1 := by
  obtain ⟨S, C, h⟩ := h
  have K := h.kc
  have L := h.km
  rw [f_X11_set, f_X12_set]
  rcases cls_cases K.okC x with e | ⟨m, hm, h8, rfl, e⟩
  · rw [K.clN e, zbd_s, zbn_n, L.isN e, zbd_s]
    exact ex0 h.i0 _ rfl (if_pos rfl)
  rw [K.clS e, zbd_s, zbn_s, if_pos (ZOx_k (by omega)).1, L.isS e, zbd_s, if_neg n10, pm_in32 y 0 1 0 1 rfl rfl, zbd_s]
  rcases nI_cases y with q | ⟨w, hw, rfl⟩
  · rw [if_pos q, if_neg (fun v : 0 ≤ y ∧ y ≤ 1 => absurd q (Int32.not_lt.mpr v.1))]
    exact ex0 h.i0 _ rfl (if_pos rfl)
  rw [if_neg (nI_pos hw)]
  by_cases q1 : w ≤ 1
  rotate_left
  · rw [if_neg (fun v : nI w ≤ 1 => q1 ((nI_leI hw (b := 1) (by decide)).mp v)), if_neg (fun v : 0 ≤ nI w ∧ nI w ≤ 1 => q1 ((nI_leI hw (b := 1) (by decide)).mp v.2))]
    exact ex0 h.i0 _ rfl (if_pos rfl)
  have w1 : nI w ≤ 1 := nI_le (b := 1) q1 (by decide)
  rw [if_pos w1, if_pos (show 0 ≤ nI w ∧ nI w ≤ 1 from ⟨nI_pos' hw, w1⟩), if_neg n10, f_X12_set_c35, f_X12_set_c35, pm_in32 v 0 5 0 5 rfl rfl, pm_in32 v 0 9 0 9 rfl rfl, zbd_s, zbd_s, if_pos (zin_nI h8 (by decide)), if_pos (zin_nI h8 (by decide)), nI_clamp (by omega), L.cl.kd m hm, L.cl.fg m hm]
  rcases nI_cases v with q | ⟨b, hb, rfl⟩
  · rw [if_pos q, if_neg (fun w : 0 ≤ v ∧ v ≤ 5 => absurd q (Int32.not_lt.mpr w.1)), if_neg (fun w : 0 ≤ v ∧ v ≤ 9 => absurd q (Int32.not_lt.mpr w.1)), if_pos rfl]
    refine ex0 h.i0 _ rfl ?_
    split <;> rfl
  rw [if_neg (nI_pos hb)]
  have hw2 : w = 0 ∨ w = 1 := by omega
  rcases hw2 with rfl | rfl
  · rw [if_pos (show nI 0 = 0 from rfl), if_pos (show nI 0 = 0 from rfl), if_pos (show nI 0 = 0 from rfl)]
    by_cases q : b ≤ 5
    · have q' : nI b ≤ 5 := nI_le (b := 5) q (by decide)
      rw [if_pos (show 0 ≤ nI b ∧ nI b ≤ 5 from ⟨nI_pos' hb, q'⟩), if_neg n10]
      have := set_key h (o := m) (w := 0) (a := C.kd m) (b := b) ⟨hm, Or.inl ⟨rfl, K.okC.k5 m, q⟩⟩ rfl
      rw [f_X11_set_c42, if_pos (ZOx_k (show m < 16 by omega)).1, if_pos (Int32.le_refl _)] at this
      rw [f_X11_set_c42, if_pos (ZOx_k (show m < 16 by omega)).1, if_pos q']
      exact this
    · have q' : ¬ nI b ≤ 5 := fun v => q ((nI_leI hb (b := 5) (by decide)).mp v)
      rw [if_neg (fun v : 0 ≤ nI b ∧ nI b ≤ 5 => q' v.2), if_pos rfl, f_X11_set_c42, if_pos (ZOx_k (show m < 16 by omega)).1, if_neg q']
      exact ex0 h.i0 _ rfl rfl
  · rw [if_neg (show ¬ nI 1 = 0 by decide), if_neg (show ¬ nI 1 = 0 by decide), if_neg (show ¬ nI 1 = 0 by decide)]
    by_cases q : b ≤ 9
    · have q' : nI b ≤ 9 := nI_le (b := 9) q (by decide)
      rw [if_pos (show 0 ≤ nI b ∧ nI b ≤ 9 from ⟨nI_pos' hb, q'⟩), if_neg n10]
      have := set_key h (o := m) (w := 1) (a := C.fg m) (b := b) ⟨hm, Or.inr ⟨rfl, K.okC.f9 m, q⟩⟩ rfl
      rw [f_X11_set_c42, if_pos (ZOx_k (show m < 16 by omega)).1, if_pos (Int32.le_refl _)] at this
      rw [f_X11_set_c42, if_pos (ZOx_k (show m < 16 by omega)).1, if_pos q']
      exact this
    · have q' : ¬ nI b ≤ 9 := fun v => q ((nI_leI hb (b := 9) (by decide)).mp v)
      rw [if_neg (fun v : 0 ≤ nI b ∧ nI b ≤ 9 => q' v.2), if_pos rfl, f_X11_set_c42, if_pos (ZOx_k (show m < 16 by omega)).1, if_neg q']
      exact ex0 h.i0 _ rfl rfl
end
