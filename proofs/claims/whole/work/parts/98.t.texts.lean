section
variable {S : Sh} {C : Cl} {σ σ1 τ τ1 : SS}
theorem c79_1 (h : τ.1 0 53 = 1) : f_X12_isActsText_c79 τ = some (0, τ) := by rw [f_X12_isActsText_c79, if_neg (by rw [h]; decide)]
theorem wd_5 (l : Nat) (B : Nat → Nat) (a n : Nat) : wd l B a n ≤ 5 := by
  unfold wd
  split
  · omega
  · split
    · omega
    · split
      · omega
      · split
        · omega
        · split <;> omega
/-- the reference reads one ACT -/
theorem readAct_w {l a n : Nat} {B : Nat → Nat} (Td : TapD l B σ τ) (T : TM l B a τ) (ha : a + n ≤ l) (h1 : ∀ i, i < n → low (cs l B (a + i))) (h2 : ¬ low (cs l B (a + n))) {k : Nat} (hk : k < 12) (h54 : τ.1 0 54 = nI k) :
    (wd l B a n = 5 ∧ ∃ τ1, f_X12_readAct τ = some ((), τ1) ∧ τ1.1 0 53 = 1 ∧ τ1.1 0 54 = nI k ∧ TM l B a τ1 ∧ FM [52, 53] [] [] τ τ1) ∨
    (wd l B a n < 5 ∧ ∃ τ1, TM l B (a + n) τ1 ∧ FM [52] [] [] τ τ1 ∧ ∀ v1 s12 v2 s16, f_X12_readNumber (zS τ1 35 k (nI (wd l B a n))) = some (v1, s12) → s12.1 0 54 = nI k → f_X12_readNumber (zS s12 36 k v1) = some (v2, s16) → s16.1 0 54 = nI k →
      (s16.1 0 53 = 0 → f_X12_readAct τ = some ((), zS (zS s16 37 k v2) 0 54 (nI (k + 1)))) ∧ (s16.1 0 53 = 1 → f_X12_readAct τ = some ((), zS (zS s16 37 k v2) 0 54 (nI k)))) := by
  have hl80 := T.l80
  obtain ⟨m', τ1, e1, -, T1, G1⟩ := readAct_len (nI a) h1 n 0 ZF τ (by omega) (by unfold ZF; omega) T ha
  have Td1 : TapD l B σ τ1 := Td.fr rfl rfl (G1.o 27 (by decide)) (G1.i 20 (by decide) (by decide))
  have h2' : ¬ (97 ≤ cs l B (a + n) ∧ cs l B (a + n) ≤ 122) := h2
  have h5 := wd_5 l B a n
  have e54 : τ1.1 0 54 = nI k := by rw [G1.o 54 (by decide)]; exact h54
  rw [f_X12_readAct, T.aM, e1, f_X12_readAct_c5, T1.he, zbd_s, pm_in32 (cs l B (a + n)) 97 122 97 122 rfl rfl, zbd_s, if_neg h2', if_pos rfl, T1.aM, pm_wordOf Td1 ha, zbd_s]
  by_cases q : wd l B a n < 5
  · refine Or.inr ⟨q, τ1, T1, G1, ?_⟩
    intro v1 s12 v2 s16 r1 f1 r2 f2
    have z := zin_nI (show k < 20 by omega) (show 20 ≤ 2 ^ 31 by decide)
    have ew : wdI (wd l B a n) = nI (wd l B a n) := if_pos q
    have e54b : (zS τ1 35 k (nI (wd l B a n))).1 0 54 = nI k := by rw [zS_1, if_neg (fun q => absurd q.1 (by decide))]; exact e54
    have e54c : (zS s12 36 k v1).1 0 54 = nI k := by rw [zS_1, if_neg (fun q => absurd q.1 (by decide))]; exact f1
    have e54d : (zS s16 37 k v2).1 0 54 = nI k := by rw [zS_1, if_neg (fun q => absurd q.1 (by decide))]; exact f2
    have e53 : (zS s16 37 k v2).1 0 53 = s16.1 0 53 := by rw [zS_1, if_neg (fun q => absurd q.1 (by decide))]
    rw [ew, if_pos (nI_pos' (by omega)), e54, if_pos z, nI_clamp (by omega), r1, zbd_s, e54b, if_pos z, nI_clamp (by omega), r2, zbd_s, e54c, if_pos z, nI_clamp (by omega), e53, e54d, nI_1]
    refine ⟨fun h => ?_, fun h => ?_⟩
    · rw [if_pos h]
    · rw [if_neg (by rw [h]; decide), Int32.add_zero]
  · have : wd l B a n = 5 := by omega
    have ew : wdI (wd l B a n) = -1 := if_neg q
    refine Or.inl ⟨this, zS (zS τ1 0 52 (nI a)) 0 53 1, ?_, by rw [zS_1, if_pos ⟨rfl, rfl⟩], ?_, ?_, ?_⟩
    · rw [ew, if_neg (show ¬ (0 : Int32) ≤ -1 by decide)]
    · rw [zS_1, if_neg (fun q => absurd q.2 (by decide)), zS_1, if_neg (fun q => absurd q.2 (by decide))]; exact e54
    · have Ga : FM [53] [] [] (zS τ1 0 52 (nI a)) (zS (zS τ1 0 52 (nI a)) 0 53 1) := (FM.refl _).sO (by simp) _
      exact (T1.mv (b := a) (by omega)).fm Ga (by decide) (by decide) (by decide)
    · exact ((G1.mono (by decide) (by decide) (by decide)).sO (by simp) _).sO (by simp) _
/-- a word stands: how many right signs follow, on both sides -/
theorem readAct_n {l q : Nat} {B : Nat → Nat} (Td : TapD l B σ τ1) (T : TM l B q τ1) (h53 : τ1.1 0 53 = 0) {k w : Nat} (h54 : τ1.1 0 54 = nI k) :
    ∃ r v1 s12 v2 s16, r ≤ 4 ∧ f_X2_rightSigns (nI q) σ = some (nI r, σ) ∧ f_X12_readNumber (zS τ1 35 k (nI w)) = some (v1, s12) ∧ s12.1 0 54 = nI k ∧ f_X12_readNumber (zS s12 36 k v1) = some (v2, s16) ∧ s16.1 0 54 = nI k ∧ FM [52, 53] [35, 36] [] τ1 s16 ∧ TM l B (q + r) s16 ∧ (∀ i, i ≠ k → s16.1 35 i = τ1.1 35 i ∧ s16.1 36 i = τ1.1 36 i) ∧ s16.1 35 k = nI w ∧ s16.1 36 k = v1 ∧
      ((r < 4 ∧ s16.1 0 53 = 1) ∨ (r = 4 ∧ s16.1 0 53 = 0 ∧ fgr (cs l B (q + 1)) ∧ fgr (cs l B (q + 3)) ∧ v1 = cs l B (q + 1) - 48 ∧ v2 = cs l B (q + 3) - 48)) := by
  have Ga : FM [] [35] [] τ1 (zS τ1 35 k (nI w)) := (FM.refl τ1).sS (by decide) (by simp) _ _
  have Ta := T.fm Ga (by decide) (by decide) (by decide)
  have ba : (zS τ1 35 k (nI w)).1 0 53 = 0 := by rw [Ga.o 53 (by decide)]; exact h53
  obtain ⟨v1, s12, r1, G1, O1⟩ := rn_c Ta ba
  have f12 : s12.1 0 54 = nI k := by rw [G1.o 54 (by decide), Ga.o 54 (by decide)]; exact h54
  have Gb : FM [] [36] [] s12 (zS s12 36 k v1) := (FM.refl s12).sS (by decide) (by simp) _ _
  have rows : ∀ s16, FM [52, 53] [] [] (zS s12 36 k v1) s16 → (s16.1 0 54 = nI k ∧ FM [52, 53] [35, 36] [] τ1 s16 ∧ (∀ i, i ≠ k → s16.1 35 i = τ1.1 35 i ∧ s16.1 36 i = τ1.1 36 i) ∧ s16.1 35 k = nI w ∧ s16.1 36 k = v1) := by
    intro s16 G2
    refine ⟨by rw [G2.o 54 (by decide), Gb.o 54 (by decide)]; exact f12, (((Ga.mono (by decide) (by decide) (by decide)).trans (G1.mono (by decide) (by decide) (by decide))).trans (Gb.mono (by decide) (by decide) (by decide))).trans (G2.mono (by decide) (by decide) (by decide)), fun i hi => ⟨?_, ?_⟩, ?_, ?_⟩
    · rw [G2.i 35 (by decide) (by decide), Gb.i 35 (by decide) (by decide), G1.i 35 (by decide) (by decide), zS_1, if_neg (fun h => hi h.2)]
    · rw [G2.i 36 (by decide) (by decide), zS_1, if_neg (fun h => hi h.2), G1.i 36 (by decide) (by decide), Ga.i 36 (by decide) (by decide)]
    · rw [G2.i 35 (by decide) (by decide), Gb.i 35 (by decide) (by decide), G1.i 35 (by decide) (by decide), zS_1, if_pos ⟨rfl, rfl⟩]
    · rw [G2.i 36 (by decide) (by decide), zS_1, if_pos ⟨rfl, rfl⟩]
  have badGo : ∀ b, s12.1 0 53 = 1 → TM l B b s12 → ∃ s16, f_X12_readNumber (zS s12 36 k v1) = some (0, s16) ∧ s16.1 0 53 = 1 ∧ TM l B b s16 ∧ FM [52, 53] [] [] (zS s12 36 k v1) s16 := fun b h t => rn_bad (t.fm Gb (by decide) (by decide) (by decide)) (by rw [Gb.o 53 (by decide)]; exact h)
  rcases p_right Td T.al with ⟨c0, e⟩ | ⟨c0, c1, e⟩ | ⟨c0, c1, c2, e⟩ | ⟨c0, c1, c2, c3, e⟩ | ⟨c0, c1, c2, c3, e⟩
  · obtain ⟨-, b1, T1⟩ := O1.resolve_right (fun h => h.elim (fun x => c0 x.1) (fun x => c0 x.1))
    obtain ⟨s16, r2, b2, T2, G2⟩ := badGo _ b1 T1
    obtain ⟨a1, a2, a3, a4, a5⟩ := rows s16 G2
    exact ⟨0, v1, s12, 0, s16, by decide, e, r1, f12, r2, a1, a2, T2, a3, a4, a5, Or.inl ⟨by decide, b2⟩⟩
  · obtain ⟨-, -, b1, T1⟩ := (O1.resolve_left (fun h => h.1 c0)).resolve_right (fun x => c1 x.2.1)
    obtain ⟨s16, r2, b2, T2, G2⟩ := badGo _ b1 T1
    obtain ⟨a1, a2, a3, a4, a5⟩ := rows s16 G2
    exact ⟨1, v1, s12, 0, s16, by decide, e, r1, f12, r2, a1, a2, T2, a3, a4, a5, Or.inl ⟨by decide, b2⟩⟩
  all_goals
    obtain ⟨-, -, hv, b1, T1⟩ := (O1.resolve_left (fun h => h.1 c0)).resolve_left (fun x => x.2.1 c1)
    have Tb := T1.fm Gb (by decide) (by decide) (by decide)
    have bb : (zS s12 36 k v1).1 0 53 = 0 := by rw [Gb.o 53 (by decide)]; exact b1
    obtain ⟨v2, s16, r2, G2, O2⟩ := rn_c Tb bb
    obtain ⟨a1, a2, a3, a4, a5⟩ := rows s16 G2
  · obtain ⟨-, b2, T2⟩ := O2.resolve_right (fun h => h.elim (fun x => c2 x.1) (fun x => c2 x.1))
    exact ⟨2, v1, s12, v2, s16, by decide, e, r1, f12, r2, a1, a2, T2, a3, a4, a5, Or.inl ⟨by decide, b2⟩⟩
  · obtain ⟨-, -, b2, T2⟩ := (O2.resolve_left (fun h => h.1 c2)).resolve_right (fun x => c3 x.2.1)
    exact ⟨3, v1, s12, v2, s16, by decide, e, r1, f12, r2, a1, a2, T2, a3, a4, a5, Or.inl ⟨by decide, b2⟩⟩
  · obtain ⟨-, -, hv2, b2, T2⟩ := (O2.resolve_left (fun h => h.1 c2)).resolve_left (fun x => x.2.1 c3)
    exact ⟨4, v1, s12, v2, s16, by decide, e, r1, f12, r2, a1, a2, T2, a3, a4, a5, Or.inr ⟨rfl, b2, c1, c3, hv, hv2⟩⟩
theorem acts_text {l : Nat} {B : Nat → Nat} : ∀ j k n n' a σ τ, TapD l B σ τ → TM l B a τ → τ.1 0 53 = 0 → DS k σ τ → 8 * k ≤ a → l + 1 ≤ a + j → j < n → j + 2 < n' →
    ∃ a1 σ1 τ1, ((f_X2_readFrom_c9 n (nI a) (nI k) σ = some (-1, σ1) ∧ zbd (f_X12_readAct τ) (fun _ s => f_X12_isActsText_c19 n' s) = some (1, τ1) ∧ ∃ K, DS K σ1 τ1 ∧ K ≤ 12) ∨ (f_X2_readFrom_c9 n (nI a) (nI k) σ = some (nI a1, σ1) ∧ zbd (f_X12_readAct τ) (fun _ s => f_X12_isActsText_c19 n' s) = some (0, τ1) ∧ τ1.1 0 52 = nI a1 ∧ a1 ≤ 80)) ∧ FR [9, 74, 75, 76] [] σ σ1 ∧ FM [52, 53, 54] [35, 36, 37] [] τ τ1 := by
  intro j
  induction j with
  | zero =>
    intro k n n' a σ τ Td T hb D hk hj hn hn'
    exact absurd T.al (by omega)
  | succ j ih =>
    intro k n n' a σ τ Td T hb D hk hj hn hn'
    obtain ⟨n, rfl⟩ : ∃ x, n = x + 1 := ⟨n - 1, by omega⟩
    obtain ⟨n', rfl⟩ : ∃ x, n' = x + 1 := ⟨n' - 1, by omega⟩
    have hl80 := T.l80
    have hal := T.al
    obtain ⟨m, hm, h1, h2⟩ := low_len (B := B) hal
    have hk12 : k < 12 := by omega
    rw [f_X2_readFrom_c9, if_neg (show ¬ (12 : Int32) ≤ nI k from nI_ge (b := 12) hk12 (by decide)), p_wordLen Td hm h1 h2, zbd_s, p_wordOf Td hm, zbd_s, nI_add]
    rcases readAct_w Td T hm h1 h2 hk12 D.kM with ⟨w5, τ1, e1, b1, c1, T1, G1⟩ | ⟨w5, τ1, T1, G1, go⟩
    · have ew : wdI (wd l B a m) = -1 := if_neg (by omega)
      rw [ew, if_neg (show ¬ (0 : Int32) ≤ -1 by decide), e1, zbd_s, f_X12_isActsText_c19, if_neg (show ¬ τ1.1 0 53 = 0 by rw [b1]; decide), c79_1 b1]
      exact ⟨a, σ, τ1, Or.inr ⟨rfl, rfl, T1.aM, by omega⟩, FR.refl σ, G1.mono (by decide) (by decide) (by decide)⟩
    have ew : wdI (wd l B a m) = nI (wd l B a m) := if_pos w5
    have b1 : τ1.1 0 53 = 0 := by rw [G1.o 53 (by decide)]; exact hb
    have c1 : τ1.1 0 54 = nI k := by rw [G1.o 54 (by decide)]; exact D.kM
    have Td1 : TapD l B σ τ1 := Td.fr rfl rfl (G1.o 27 (by decide)) (G1.i 20 (by decide) (by decide))
    obtain ⟨r, v1, s12, v2, s16, hr4, er, q1, f1, q2, f2, G2, T2, rw1, rw2, rw3, alt⟩ := readAct_n Td1 T1 b1 (w := wd l B a m) c1
    obtain ⟨go0, go1⟩ := go v1 s12 v2 s16 q1 f1 q2 f2
    have G12 : FM [52, 53, 54] [35, 36, 37] [] τ s16 := (G1.mono (by decide) (by decide) (by decide)).trans (G2.mono (by decide) (by decide) (by decide))
    rw [ew, if_pos (nI_pos' (by omega)), er, zbd_s]
    rcases alt with ⟨r4, b2⟩ | ⟨r4, b2, g1, g3, hv1, hv2⟩
    · have G3 : FM [52, 53, 54] [35, 36, 37] [] τ (zS (zS s16 37 k v2) 0 54 (nI k)) := (G12.sS (by decide) (by simp) _ _).sO (by simp) _
      have b3 : (zS (zS s16 37 k v2) 0 54 (nI k)).1 0 53 = 1 := by rw [zS_1, if_neg (fun q => absurd q.2 (by decide)), zS_1, if_neg (fun q => absurd q.1 (by decide))]; exact b2
      have a3 : (zS (zS s16 37 k v2) 0 54 (nI k)).1 0 52 = nI (a + m + r) := by rw [zS_1, if_neg (fun q => absurd q.2 (by decide)), zS_1, if_neg (fun q => absurd q.1 (by decide))]; exact T2.aM
      have := T2.al
      rw [if_neg (show ¬ (4 : Int32) ≤ nI r from nI_ge (b := 4) r4 (by decide)), nI_add, go1 b2, zbd_s, f_X12_isActsText_c19, if_neg (by rw [b3]; decide), c79_1 b3]
      exact ⟨a + m + r, σ, _, Or.inr ⟨rfl, rfl, a3, by omega⟩, FR.refl σ, G3⟩
    -- a whole ACT
    subst r4
    have z := zin_nI hk12 (show 12 ≤ 2 ^ 31 by decide)
    obtain ⟨hl1, p, hp9, ep⟩ := fgr_val g1
    obtain ⟨hl3, p', hp9', ep'⟩ := fgr_val g3
    have F3 : FR [9, 74, 75, 76] [] σ (zS (zS (zS (zS σ 74 k (nI (wd l B a m))) 75 k (nI p)) 76 k (nI p')) 9 3 (nI (k + 1))) := ((((FR.refl σ).sS (by simp) _ _).sS (by simp) _ _).sS (by simp) _ _).sS (by simp) _ _
    have G3 : FM [52, 53, 54] [35, 36, 37] [] τ (zS (zS s16 37 k v2) 0 54 (nI (k + 1))) := (G12.sS (by decide) (by simp) _ _).sO (by simp) _
    have Td2 : ∀ s, FR [9, 74, 75, 76] [] σ s → TapD l B s τ := fun s F => Td.fr (by rw [F.1 8 (by decide)]) (F.1 73 (by decide)) rfl rfl
    have Fa : FR [9, 74, 75, 76] [] σ (zS σ 74 k (nI (wd l B a m))) := (FR.refl σ).sS (by simp) _ _
    have Fb : FR [9, 74, 75, 76] [] σ (zS (zS σ 74 k (nI (wd l B a m))) 75 k (nI p)) := Fa.sS (by simp) _ _
    have i1 : nI (a + m) + 1 = nI (a + m + 1) := nI_1 _
    have i3 : nI (a + m) + 3 = nI (a + m + 3) := by rw [show (3 : Int32) = nI 3 from rfl, nI_add]
    have i4 : nI (a + m) + 4 = nI (a + m + 4) := by rw [show (4 : Int32) = nI 4 from rfl, nI_add]
    rw [if_pos (show (4 : Int32) ≤ nI 4 by decide), if_pos z, nI_clamp (by omega), i1, signAt_c (Td2 _ Fa) (by omega), zbd_s, if_pos z, ep, i3, signAt_c (Td2 _ Fb) (by omega), zbd_s, if_pos z, ep', nI_1 k, i4, signAt_c (Td2 _ F3) (by omega), zbd_s, signAt_c (Td2 _ F3) (by omega), zbd_s, nI_1 (a + m + 4), go0 b2, zbd_s]
    have D3 : DS (k + 1) (zS (zS (zS (zS σ 74 k (nI (wd l B a m))) 75 k (nI p)) 76 k (nI p')) 9 3 (nI (k + 1))) (zS (zS s16 37 k v2) 0 54 (nI (k + 1))) := by
      refine ⟨by rw [zS_1, if_pos ⟨rfl, rfl⟩], by rw [zS_1, if_pos ⟨rfl, rfl⟩], fun i hi => ?_⟩
      by_cases qi : i = k
      · subst qi
        refine ⟨wd l B a m, p, p', w5, hp9, hp9', ⟨by simp [zS_1], by simp [zS_1], by simp [zS_1]⟩, ?_, ?_, ?_⟩
        · rw [zS_1, if_neg (by simp), zS_1, if_neg (by simp)]; exact rw2
        · rw [zS_1, if_neg (by simp), zS_1, if_neg (by simp), rw3, hv1, ep]
        · rw [zS_1, if_neg (by simp), zS_1, if_pos ⟨rfl, rfl⟩, hv2, ep']
      · obtain ⟨w', x', y', d1, d2, d3, ⟨d4, d5, d6⟩, d7, d8, d9⟩ := D.e i (by omega)
        obtain ⟨x1, x2⟩ := rw1 i qi
        refine ⟨w', x', y', d1, d2, d3, ⟨by simp [zS_1, qi]; exact d4, by simp [zS_1, qi]; exact d5, by simp [zS_1, qi]; exact d6⟩, ?_, ?_, ?_⟩
        · rw [zS_1, if_neg (by simp), zS_1, if_neg (by simp), x1, G1.i 35 (by decide) (by decide)]; exact d7
        · rw [zS_1, if_neg (by simp), zS_1, if_neg (by simp), x2, G1.i 36 (by decide) (by decide)]; exact d8
        · rw [zS_1, if_neg (by simp), zS_1, if_neg (by simp [qi]), G2.i 37 (by decide) (by decide), G1.i 37 (by decide) (by decide)]; exact d9
    have b3 : (zS (zS s16 37 k v2) 0 54 (nI (k + 1))).1 0 53 = 0 := by rw [zS_1, if_neg (fun q => absurd q.2 (by decide)), zS_1, if_neg (fun q => absurd q.1 (by decide))]; exact b2
    have T3 : TM l B (a + m + 4) (zS (zS s16 37 k v2) 0 54 (nI (k + 1))) := T2.fm (((FM.refl s16).sS (by decide) (show 37 ∈ [37] by simp) _ _).sO (show 54 ∈ [54] by simp) _ : FM [54] [37] [] _ _) (by decide) (by decide) (by decide)
    have hal4 := T3.al
    generalize hs3 : zS (zS (zS (zS σ 74 k (nI (wd l B a m))) 75 k (nI p)) 76 k (nI p')) 9 3 (nI (k + 1)) = σ3 at *
    generalize ht3 : zS (zS s16 37 k v2) 0 54 (nI (k + 1)) = τ3 at *
    rw [f_X12_isActsText_c19, if_pos b3, T3.lM, T3.aM]
    by_cases q : a + m + 4 < l
    rotate_left
    · have ecs : cs l B (a + m + 4) = -1 := if_neg q
      rw [ecs, if_pos rfl, if_pos (nI_le (by omega) (by omega)), f_X12_isActsText_c79, if_pos b3]
      exact ⟨0, σ3, τ3, Or.inl ⟨rfl, rfl, k + 1, D3, by omega⟩, F3, G3⟩
    have ecs : cs l B (a + m + 4) = nI (B (a + m + 4)) := if_pos q
    have hB := Td.r (a + m + 4) q
    have hn1 : ¬ cs l B (a + m + 4) = -1 := by
      rw [ecs]
      intro h
      exact nI_pos (n := B (a + m + 4)) (by omega) (by rw [h]; decide)
    rw [if_neg hn1, if_neg (nI_ge q (by omega)), T3.he, zbd_s]
    by_cases q59 : cs l B (a + m + 4) = 59
    rotate_left
    · have h6 : (zS τ3 0 53 1).1 0 53 = 1 := by rw [zS_1, if_pos ⟨rfl, rfl⟩]
      have a6 : (zS τ3 0 53 1).1 0 52 = nI (a + m + 4) := by rw [zS_1, if_neg (fun q => absurd q.2 (by decide))]; exact T3.aM
      obtain ⟨m', rfl⟩ : ∃ x, n' = x + 1 := ⟨n' - 1, by omega⟩
      rw [if_neg q59, if_neg q59, f_X12_isActsText_c52, if_pos (show zb01 1 = true from rfl), h6, if_neg n10, f_X12_isActsText_c19, h6, if_neg n10, c79_1 h6]
      exact ⟨a + m + 4, σ3, zS τ3 0 53 1, Or.inr ⟨rfl, rfl, a6, by omega⟩, F3, G3.sO (by simp) _⟩
    have h6 : (zS τ3 0 53 0).1 0 53 = 0 := by rw [zS_1, if_pos ⟨rfl, rfl⟩]
    have G6 : FM [53] [] [] τ3 (zS τ3 0 53 0) := (FM.refl τ3).sO (by simp) _
    have T6 := T3.fm G6 (by decide) (by decide) (by decide)
    have T7 := T6.mv (b := a + m + 4 + 1) (by omega)
    have G7 : FM [52, 53] [] [] τ3 (zS (zS τ3 0 53 0) 0 52 (nI (a + m + 4 + 1))) := (G6.mono (by decide) (by decide) (by decide)).sO (by simp) _
    have b7 : (zS (zS τ3 0 53 0) 0 52 (nI (a + m + 4 + 1))).1 0 53 = 0 := by rw [zS_1, if_neg (fun q => absurd q.2 (by decide))]; exact h6
    rw [if_pos q59, if_pos q59, f_X12_isActsText_c52, if_pos (show zb01 0 = true from rfl), h6, if_pos rfl, T6.aM, nI_1]
    have D7 : DS (k + 1) σ3 (zS (zS τ3 0 53 0) 0 52 (nI (a + m + 4 + 1))) := ⟨D3.kC, by rw [G7.o 54 (by decide)]; exact D3.kM, by rw [G7.i 35 (by decide) (by decide), G7.i 36 (by decide) (by decide), G7.i 37 (by decide) (by decide)]; exact D3.e⟩
    have Td7 : TapD l B σ3 (zS (zS τ3 0 53 0) 0 52 (nI (a + m + 4 + 1))) := Td.fr (by rw [F3.1 8 (by decide)]) (F3.1 73 (by decide)) (by rw [G7.o 27 (by decide), G3.o 27 (by decide)]) (by rw [G7.i 20 (by decide) (by decide), G3.i 20 (by decide) (by decide)])
    have hm3 : 3 ≤ m := by
      refine Decidable.byContradiction fun hh => ?_
      have : wd l B a m = 5 := by
        have hx : ∀ w, w < 5 → hw l B a m w = false := fun w hw5 => by
          unfold hw
          have : ¬ m = wlen w := by
            have h0 : w = 0 ∨ w = 1 ∨ w = 2 ∨ w = 3 ∨ w = 4 := by omega
            rcases h0 with rfl | rfl | rfl | rfl | rfl <;> simp [wlen, ZLEN] <;> omega
          rw [decide_eq_false this, Bool.false_and]
        unfold wd
        rw [hx 0 (by decide), hx 1 (by decide), hx 2 (by decide), hx 3 (by decide), hx 4 (by decide)]
        rfl
      omega
    obtain ⟨a1, σ1, τ1', alt, F8, G8⟩ := ih (k + 1) n n' (a + m + 4 + 1) σ3 _ Td7 T7 b7 D7 (by omega) (by omega) (by omega) (by omega)
    exact ⟨a1, σ1, τ1', alt, F3.trans F8, (G3.trans (G7.mono (by decide) (by decide) (by decide))).trans G8⟩
end
