section
variable {S S1 : Sh} {C C1 : Cl} {σ σ1 τ τ1 : SS}
theorem more_key (h : Inv S C σ τ) (hS1 : ShOk S1) (hL : S1.L = S.L + 1) (hn : S1.n = S.n) {σ0 τ0 : SS} (hF : FR [3, 16, 17] [] σ σ0) (c0 : ShC S1 3 15 σ0) (hG : FM [4] [2, 3] [] τ τ0) (g0 : ShM S1 τ0) :
    ∃ σ1 τ1, zbd (f_X10_layOut 3 σ0) (fun _ s2 => f_X11_takeOneLetterMore_c46 ZF (nI S.M) 0 s2) = some ((), σ1) ∧ (∀ k : Unit → SS → Option (Int32 × SS), zbd (f_X12_forget τ0) (fun _ s2 => zbd (f_X12_layTerms s2) k) = k () τ1) ∧ I0 σ1 τ1 ∧ ShC S1 3 15 σ1 ∧ ShM S1 τ1 := by
  have K := h.kc
  have L := h.km
  have hM0 := K.M
  obtain ⟨w1, w2, w3⟩ := wid K.ok hS1 hL hn
  obtain ⟨σ2, e1, t1, F1⟩ := p_layOut hS1 c0
  have F01 : FR ([3, 16, 17] ++ [6, 62, 63, 65, 66, 67, 68]) [64] σ σ2 := (hF.mono (by decide) (by decide)).trans (F1.mono (by decide) (by decide))
  have cl2 := K.cl.fr K.okC F01 (fun m hm => by simp; omega) (fun m hm => by simp; omega)
  have mm2 : σ2.1 1 2 = nI C.mm := by rw [F01.1 1 (by decide)]; exact K.mm
  obtain ⟨σ3, e2, l1, F2⟩ := k_more K.ok K.okC hS1 hL hn C.mm 0 ZF σ2 t1 mm2 (fun m _ hm t ht => cl2.tl m hm t ht) (fun m hm => absurd hm (by omega)) (by omega) (by unfold ZF; have := K.okC.m8; omega)
  rw [nI_0] at e2
  have F3 : FR [7] [] σ3 (zS (zS σ3 7 4 0) 7 5 0) := ((FR.refl σ3).sS (by simp) _ _).sS (by simp) _ _
  have FF : FR WA WB σ (zS (zS σ3 7 4 0) 7 5 0) := ((F01.mono (by decide) (by decide)).trans (F2.mono (by decide) (by decide))).trans (F3.mono (by decide) (by decide))
  have c3 := ((c0.fr F1 (by decide) (by decide) (by decide) (by decide)).fr F2 (by decide) (by decide) (by decide) (by decide)).fr F3 (by decide) (by decide) (by decide) (by decide)
  have t3 := (t1.fr F2 (by decide) (by decide) (by decide) (by decide) (by decide) (by decide) (by decide)).fr F3 (by decide) (by decide) (by decide) (by decide) (by decide) (by decide) (by decide)
  have cl3 : ClC S1 (C.wid S S1) 30 46 (zS (zS σ3 7 4 0) 7 5 0) := by
    refine ⟨fun m hm => ?_, fun m hm => ?_, fun m hm t ht => l1 m hm t ht⟩
    · rw [F3.1 _ (show 30 + m ∉ [7] by simp; omega), F2.1 _ (by simp)]; exact cl2.kd m hm
    · rw [F3.1 _ (show 30 + m ∉ [7] by simp; omega), F2.1 _ (by simp)]; exact cl2.fg m hm
  have mm3 : (zS (zS σ3 7 4 0) 7 5 0).1 1 2 = nI (C.wid S S1).mm := by rw [F3.1 1 (by decide), F2.1 1 (by decide)]; exact mm2
  -- the reference
  have G1 : FM [21, 22] [] [] τ0 (zS (zS τ0 0 21 0) 0 22 0) := ((FM.refl τ0).sO (by simp) _).sO (by simp) _
  have g1 := g0.fm G1 (by decide) (by decide) (by decide) (by decide) (by decide) (by decide) (by decide)
  have G01 : FM [4, 21, 22] [2, 3] [] τ (zS (zS τ0 0 21 0) 0 22 0) := (hG.mono (by decide) (by decide) (by decide)).trans (G1.mono (by decide) (by decide) (by decide))
  have hpl : Pl S.M S.c (zS (zS τ0 0 21 0) 0 22 0) := TmM.pl K.ok (L.tm.fm G01 (by decide) (by decide) (by decide) (by decide) (by decide))
  have e21 : (zS (zS τ0 0 21 0) 0 22 0).1 0 21 = 0 := by simp [zS_1]
  have e22 : (zS (zS τ0 0 21 0) 0 22 0).1 0 22 = 0 := by simp [zS_1]
  have hfg : f_X12_forget τ0 = some ((), zS (zS τ0 0 21 0) 0 22 0) := rfl
  generalize hτ : zS (zS τ0 0 21 0) 0 22 0 = τ2 at *
  obtain ⟨τ3, e3, g2, t2, G2, h12⟩ := pm_layTerms hS1 hpl g1
  have G02 : FM [4, 21, 22, 7] [2, 3, 4, 5, 7, 12, 32] [6] τ τ3 := (G01.mono (by decide) (by decide) (by decide)).trans (G2.mono (by decide) (by decide) (by decide))
  have m3 : τ3.1 0 12 = nI C.mm := by rw [G02.o 12 (by decide)]; exact L.cl.mm
  obtain ⟨τ4, e4, l2, G3⟩ := km_carry K.ok K.okC hS1 hL hn C.mm 0 ZF τ3 t2 m3 h12 (fun m _ hm t ht => by rw [G02.l 10 (by decide)]; exact L.cl.tl m hm t ht) (fun m hm => absurd hm (by omega)) (by omega) (by unfold ZF; have := K.okC.m8; omega)
  rw [nI_0] at e4
  have GG : FM WJ WM WN τ τ4 := (G02.mono (by decide) (by decide) (by decide)).trans (G3.mono (by decide) (by decide) (by decide))
  have g4 := g2.fm G3 (by decide) (by decide) (by decide) (by decide) (by decide) (by decide) (by decide)
  have t4 := t2.fm G3 (by decide) (by decide) (by decide) (by decide) (by decide)
  have cl4 : ClM S1 (C.wid S S1) τ4 := by
    refine ⟨by rw [G3.o 12 (by decide)]; exact m3, fun m hm => ?_, fun m hm => ?_, fun m hm t ht => l2 m hm t ht⟩
    · rw [G3.i 8 (by decide) (by decide), G02.i 8 (by decide) (by decide)]; exact L.cl.kd m hm
    · rw [G3.i 9 (by decide) (by decide), G02.i 9 (by decide) (by decide)]; exact L.cl.fg m hm
  refine ⟨_, τ4, by rw [e1, zbd_s, e2], fun k => ?_, ⟨S1, C.wid S S1, h.core1 FF GG ⟨hS1, Cl.wid_ok K.okC, c3, mm3, cl3, t3⟩ ⟨hS1, Cl.wid_ok K.okC, g4, cl4, t4⟩ (chg_0 (by simp [zS_1]) (by simp [zS_1]) (by rw [G3.o 21 (by decide), G2.o 21 (by decide), e21]) (by rw [G3.o 22 (by decide), G2.o 22 (by decide), e22]))⟩, c3, g4⟩
  rw [hfg, zbd_s, e3, f_X12_carry, e4, zbd_s, zbd_s]
def more (S : Sh) (dg gn : Nat → Nat) : Sh := ((S.so, S.f, S.e + 1), S.dm, dg, gn)
theorem s_blow (h : I0 σ τ) : ∃ r σ1 τ1, f_X11_blow σ = some (r, σ1) ∧ f_X12_blow τ = some (r, τ1) ∧ I0 σ1 τ1 := by
  obtain ⟨S, C, h⟩ := h
  have K := h.kc
  have L := h.km
  have hso := K.ok.so
  have he := K.ok.e3
  rw [f_X11_blow, f_X12_blow, K.sh.so, L.sh.so, K.sh.e, L.sh.e]
  by_cases q : S.so = 0
  rotate_left
  · have : ¬ nI S.so = 0 := fun v => q ((nI_eq (b := 0) (by omega) (by decide)).mp v)
    rw [if_neg this, if_neg this]
    exact ex0 h.i0 _ rfl rfl
  rw [if_pos (show nI S.so = 0 by rw [q]; rfl), if_pos (show nI S.so = 0 by rw [q]; rfl)]
  by_cases q3 : S.e < 3
  rotate_left
  · have : S.e = 3 := by omega
    rw [this]
    exact ex0 h.i0 _ (if_neg (by decide)) (if_pos rfl)
  rw [if_pos (show nI S.e < 3 from nI_lt (b := 3) q3 (by decide)), if_neg (fun v : nI S.e = 3 => by have := (nI_eq (b := 3) (by omega) (by decide)).mp v; omega), nI_1]
  have hS1 : ShOk (more S S.dg S.gn) := ⟨K.ok.so, K.ok.f1, K.ok.f3, by show S.e + 1 ≤ 3; omega, K.ok.n5, K.ok.din, K.ok.dout, K.ok.dg9, K.ok.gn9, K.ok.cur, fun k hk => K.ok.dg0 k (by left; rw [q]; decide), K.ok.cu3, fun w => by have w' : S.so = 2 := w; omega⟩
  have hF : FR [3, 16, 17] [] σ (zS σ 3 2 (nI (S.e + 1))) := (FR.refl σ).sS (by simp) _ _
  have hG : FM [4] [2, 3] [] τ (zS τ 0 4 (nI (S.e + 1))) := (FM.refl τ).sO (by simp) _
  have c0 : ShC (more S S.dg S.gn) 3 15 (zS σ 3 2 (nI (S.e + 1))) := by
    refine ⟨?_, ?_, ?_, fun k hk => ?_, fun k hk => ?_, fun k hk => ?_⟩
    · rw [zS_1, if_neg (fun q => absurd q.2 (by decide))]; exact K.sh.so
    · rw [zS_1, if_neg (fun q => absurd q.2 (by decide))]; exact K.sh.f
    · rw [zS_1, if_pos ⟨rfl, rfl⟩]; rfl
    · rw [zS_1, if_neg (fun q => absurd q.1 (by decide))]; exact K.sh.dm k hk
    · rw [zS_1, if_neg (fun q => absurd q.1 (by decide))]; exact K.sh.dg k hk
    · rw [zS_1, if_neg (fun q => absurd q.1 (by decide))]; exact K.sh.gn k hk
  have g0 : ShM (more S S.dg S.gn) (zS τ 0 4 (nI (S.e + 1))) := by
    refine ⟨?_, ?_, fun w => ?_, ?_, fun w k hk => ?_, fun w => ?_, fun w => ?_⟩
    · rw [zS_1, if_neg (fun q => absurd q.2 (by decide))]; exact L.sh.so
    · rw [zS_1, if_neg (fun q => absurd q.2 (by decide))]; exact L.sh.n
    · rw [zS_1, if_neg (fun q => absurd q.2 (by decide))]; exact L.sh.f w
    · rw [zS_1, if_pos ⟨rfl, rfl⟩]; rfl
    · rw [zS_1, if_neg (fun q => absurd q.1 (by decide))]; exact L.sh.dm w k hk
    · have w' : S.so = 1 := w
      omega
    · have w' : S.so = 1 := w
      omega
  obtain ⟨σ1, τ1, e1, e2, hI, c1, g1⟩ := more_key h hS1 (by show S.f + (S.e + 1) + (if S.so = 2 then 1 else 0) = S.f + S.e + (if S.so = 2 then 1 else 0) + 1; omega) rfl hF c0 hG g0
  refine ⟨nI (S.e + 1), σ1, τ1, ?_, ?_, hI⟩
  · rw [f_X11_takeOneLetterMore, K.sh.e, nI_1, K.tm.M, e1, zbd_s, c1.e]; rfl
  · rw [e2, g1.e]; rfl
theorem s_curve (x y : Int32) (h : I0 σ τ) : ∃ r σ1 τ1, f_X11_curve x y σ = some (r, σ1) ∧ f_X12_curve x y τ = some (r, τ1) ∧ I0 σ1 τ1 := by
  obtain ⟨S, C, h⟩ := h
  have K := h.kc
  have L := h.km
  have hso := K.ok.so
  have he := K.ok.e3
  rw [f_X11_curve, f_X12_curve, K.sh.so, L.sh.so, K.sh.e, pm_in32 x 1 9 1 9 rfl rfl, zbd_s, pm_in32 y 0 9 0 9 rfl rfl, zbd_s, L.sh.e]
  by_cases q : S.so = 1
  rotate_left
  · have : ¬ nI S.so = 1 := fun v => q ((nI_eq (b := 1) (by omega) (by decide)).mp v)
    rw [if_neg this, if_neg this]
    exact ex0 h.i0 _ rfl rfl
  rw [if_pos (show nI S.so = 1 by rw [q]; rfl), if_pos (show nI S.so = 1 by rw [q]; rfl)]
  rcases rng x 1 9 1 9 rfl rfl (by decide) (by decide) with ⟨q1, d, hd, rfl, hd1, hd9⟩ | q1
  rotate_left
  · rw [if_neg q1]
    refine ex0 h.i0 (-1) ?_ (if_pos rfl)
    by_cases w : x < 1
    · exact if_pos w
    · rw [if_neg w, if_pos (Int32.not_le.mp (fun v => q1 ⟨Int32.not_lt.mp w, v⟩))]
  rw [if_neg (Int32.not_lt.mpr q1.1), if_neg (Int32.not_lt.mpr q1.2), if_pos q1, if_neg n10]
  rcases rng y 0 9 0 9 rfl rfl (by decide) (by decide) with ⟨q2, g, hg, rfl, -, hg9⟩ | q2
  rotate_left
  · rw [if_neg q2]
    refine ex0 h.i0 (-1) ?_ (if_pos rfl)
    by_cases w : y < 0
    · exact if_pos w
    · rw [if_neg w, if_neg (fun v => q2 ⟨Int32.not_lt.mp w, v⟩)]
  rw [if_neg (Int32.not_lt.mpr q2.1), if_pos q2.2, if_pos q2, if_neg n10]
  by_cases q3 : S.e < 3
  rotate_left
  · have : S.e = 3 := by omega
    rw [this]
    exact ex0 h.i0 _ (if_neg (by decide)) (if_pos rfl)
  have z := zin_nI q3 (show 3 ≤ 2 ^ 31 by decide)
  have m4a : (zS τ 2 S.e (nI d)).1 0 4 = nI S.e := by rw [zS_1, if_neg (fun q => absurd q.1 (by decide))]; exact L.sh.e
  have m4b : (zS (zS τ 2 S.e (nI d)) 3 S.e (nI g)).1 0 4 = nI S.e := by rw [zS_1, if_neg (fun q => absurd q.1 (by decide))]; exact m4a
  rw [if_pos (show nI S.e < 3 from nI_lt (b := 3) q3 (by decide)), if_neg (fun v : nI S.e = 3 => by have := (nI_eq (b := 3) (by omega) (by decide)).mp v; omega), if_pos z, if_pos z, if_pos z, nI_clamp (by omega), m4a, if_pos z, nI_clamp (by omega), m4b, nI_1]
  have hS1 : ShOk (more S (fun k => if k = S.e then d else S.dg k) (fun k => if k = S.e then g else S.gn k)) := ⟨K.ok.so, K.ok.f1, K.ok.f3, by show S.e + 1 ≤ 3; omega, K.ok.n5, K.ok.din, K.ok.dout, fun k => by
      show (if k = S.e then d else S.dg k) ≤ 9
      split
      · exact hd9
      · exact K.ok.dg9 k, fun k => by
      show (if k = S.e then g else S.gn k) ≤ 9
      split
      · exact hg9
      · exact K.ok.gn9 k, K.ok.cur, fun k hk => by
      have hk' : S.so ≠ 1 ∨ S.e + 1 ≤ k := hk
      have := K.ok.dg0 k (by omega)
      show (if k = S.e then d else S.dg k) = 0 ∧ (if k = S.e then g else S.gn k) = 0
      rw [if_neg (by omega), if_neg (by omega)]
      exact this, K.ok.cu3, fun w => by have w' : S.so = 2 := w; omega⟩
  have hF : FR [3, 16, 17] [] σ (zS (zS (zS σ 16 S.e (nI d)) 17 S.e (nI g)) 3 2 (nI (S.e + 1))) := (((FR.refl σ).sS (by simp) _ _).sS (by simp) _ _).sS (by simp) _ _
  have hG : FM [4] [2, 3] [] τ (zS (zS (zS τ 2 S.e (nI d)) 3 S.e (nI g)) 0 4 (nI (S.e + 1))) := (((FM.refl τ).sS (by decide) (by simp) _ _).sS (by decide) (by simp) _ _).sO (by simp) _
  have c0 : ShC (more S (fun k => if k = S.e then d else S.dg k) (fun k => if k = S.e then g else S.gn k)) 3 15 (zS (zS (zS σ 16 S.e (nI d)) 17 S.e (nI g)) 3 2 (nI (S.e + 1))) := by
    refine ⟨?_, ?_, ?_, fun k hk => ?_, fun k hk => ?_, fun k hk => ?_⟩
    · simp only [zS_1]; simp; exact K.sh.so
    · simp only [zS_1]; simp; exact K.sh.f
    · rw [zS_1, if_pos ⟨rfl, rfl⟩]; rfl
    · simp only [zS_1]; simp; exact K.sh.dm k hk
    · show _ = nI (if k = S.e then d else S.dg k)
      simp only [zS_1]
      by_cases w : k = S.e
      · simp [w]
      · simp [w]; exact K.sh.dg k hk
    · show _ = nI (if k = S.e then g else S.gn k)
      simp only [zS_1]
      by_cases w : k = S.e
      · simp [w]
      · simp [w]; exact K.sh.gn k hk
  have g0 : ShM (more S (fun k => if k = S.e then d else S.dg k) (fun k => if k = S.e then g else S.gn k)) (zS (zS (zS τ 2 S.e (nI d)) 3 S.e (nI g)) 0 4 (nI (S.e + 1))) := by
    refine ⟨?_, ?_, fun w => ?_, ?_, fun w k hk => ?_, fun w k hk => ?_, fun w k hk => ?_⟩
    · simp only [zS_1]; simp; exact L.sh.so
    · simp only [zS_1]; simp; exact L.sh.n
    · have w' : S.so = 0 := w
      omega
    · rw [zS_1, if_pos ⟨rfl, rfl⟩]; rfl
    · have w' : S.so = 0 := w
      omega
    · have hk' : k < S.e + 1 := hk
      show _ = nI (if k = S.e then d else S.dg k)
      simp only [zS_1]
      by_cases w : k = S.e
      · simp [w]
      · simp [w]; exact L.sh.dg q k (by omega)
    · have hk' : k < S.e + 1 := hk
      show _ = nI (if k = S.e then g else S.gn k)
      simp only [zS_1]
      by_cases w : k = S.e
      · simp [w]
      · simp [w]; exact L.sh.gn q k (by omega)
  obtain ⟨σ1, τ1, e1, e2, hI, c1, g1⟩ := more_key h hS1 (by show S.f + (S.e + 1) + (if S.so = 2 then 1 else 0) = S.f + S.e + (if S.so = 2 then 1 else 0) + 1; omega) rfl hF c0 hG g0
  refine ⟨nI S.e, σ1, τ1, ?_, ?_, hI⟩
  · have a1 : (zS (zS σ 16 S.e (nI d)) 17 S.e (nI g)).1 3 2 = nI S.e := by simp only [zS_1]; simp; exact K.sh.e
    have a2 : (zS (zS σ 16 S.e (nI d)) 17 S.e (nI g)).1 6 2 = nI S.M := by simp only [zS_1]; simp; exact K.tm.M
    rw [f_X11_takeOneLetterMore, a1, a2, nI_1, e1, zbd_s]
  · rw [e2, g1.e]
    show some (nI (S.e + 1) - 1, τ1) = _
    rw [nI_pred]
end
