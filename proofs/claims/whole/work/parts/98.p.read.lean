section
variable {S : Sh} {C : Cl} {σ σ1 τ τ1 : SS}
/-- how a text of a CLASS ends -/
def XEnd (S : Sh) (l : Nat) (a : Nat) (rc : Option (Int32 × SS)) (rm : Option (Int32 × SS)) (σ1 τ1 : SS) : Prop :=
  (rc = some (-1, σ1) ∧ rm = some (1, τ1) ∧ ∃ v, Rw S σ1 21 v ∧ Rw S τ1 15 v) ∨ (rc = some (nI a, σ1) ∧ rm = some (0, τ1) ∧ a ≤ l)
theorem c147_1 (h : τ.1 0 53 = 1) : f_X12_isClassText_c147 τ = some (0, τ) := by rw [f_X12_isClassText_c147, if_neg (by rw [h]; decide)]
theorem text_c (S : Sh) (C : Cl) {l : Nat} {B : Nat → Nat} : ∀ j k n n' a v (mi : Int32) (sgv : Int64) σ τ, KC S C σ → KM S C τ → TS l B a σ τ → τ.1 0 53 = 0 → Rw S σ 21 v → Rw S τ 15 v → ((mi = 0 ∧ sgv = 1) ∨ (mi ≠ 0 ∧ sgv = -1)) → l + 1 ≤ a + j → k ≤ a → j < n → j + 2 < n' →
    ∃ a1 σ1 τ1, XEnd S l a1 (f_X9_readClass_c39 n 3 21 mi (nI k) σ) (zbd (f_X12_readMember sgv τ) (fun _ s8 => f_X12_isClassText_c60 n' s8)) σ1 τ1 ∧ TS l B a1 σ1 τ1 ∧ FR [8] [21] σ σ1 ∧ FM [52, 53] [] [15] τ τ1 := by
  have z3 : zis Ox 7 3 = true := rfl
  intro j
  induction j with
  | zero =>
    intro k n n' a v mi sgv σ τ K L T hb r1 r2 hmi hj hk hn hn'
    exact absurd T.al (by omega)
  | succ j ih =>
    intro k n n' a v mi sgv σ τ K L T hb r1 r2 hmi hj hk hn hn'
    obtain ⟨n, rfl⟩ : ∃ x, n = x + 1 := ⟨n - 1, by omega⟩
    obtain ⟨n', rfl⟩ : ∃ x, n' = x + 1 := ⟨n' - 1, by omega⟩
    have hl80 := T.t.le
    have hal := T.al
    have hL6 : S.L ≤ 6 := K.ok.ln.2.1
    obtain ⟨a1, σ1, τ1, ⟨Mr, Mc⟩, h1, T1, F1, G1⟩ := memb_c S C (a0 := a) (v := v) mi sgv hmi 4 0 ZF ZF a 0 σ τ K L T hb r1 r2 (by omega) (by omega) (by unfold ZF; omega) (by unfold ZF; omega)
    have hal1 := T1.al
    rw [f_X9_readClass_c39, if_pos z3, if_neg (show ¬ (80 : Int32) < nI k from nI_nlt (b := k) (a := 80) (by omega) (by decide)), f_X9_readMember, if_pos z3, T.aC, f_X12_readMember]
    rw [nI_0] at Mr Mc
    have K1 := K.t2 F1
    have L1 : KM S C τ1 := L.sc (G1.mono (by decide) (by decide) (by decide))
    rw [Mr, zbd_s]
    rcases Mc with ⟨ec, hlt, hgood | ⟨hbad, kk, hk1, hk2⟩⟩ | ⟨ec, hbad⟩
    · obtain ⟨hb0, v', q1, q2⟩ := hgood
      rw [ec, zbd_s, if_neg n10, T1.sa, zbd_s, f_X12_isClassText_c60, if_pos hb0, T1.t.lM, T1.aM]
      by_cases q : a1 < l
      rotate_left
      · have ecs : cs l B a1 = -1 := if_neg q
        rw [ecs, if_pos rfl, if_pos (nI_le (by omega) (by omega)), f_X12_isClassText_c147, if_pos hb0]
        exact ⟨a1, σ1, τ1, Or.inl ⟨rfl, rfl, v', q1, q2⟩, T1, F1, G1⟩
      have ecs : cs l B a1 = nI (B a1) := if_pos q
      have hB := T.t.r a1 q
      have hn1 : ¬ cs l B a1 = -1 := by
        rw [ecs]
        intro h
        exact nI_pos (n := B a1) (by omega) (by rw [h]; decide)
      rw [if_neg hn1, if_neg (nI_ge q (by omega)), T1.he, zbd_s, T1.he, zbd_s]
      -- on with the next member
      have go : ∀ (mi' : Int32) (sgv' : Int64), ((mi' = 0 ∧ sgv' = 1) ∨ (mi' ≠ 0 ∧ sgv' = -1)) → ∃ a2 σ2 τ2, XEnd S l a2 (f_X9_readClass_c112 (f_X9_readClass_c39 n) 3 21 (nI k) mi' σ1) (f_X12_isClassText_c128 (f_X12_isClassText_c60 n') sgv' (zS τ1 0 53 0)) σ2 τ2 ∧ TS l B a2 σ2 τ2 ∧ FR [8] [21] σ σ2 ∧ FM [52, 53] [] [15] τ τ2 := by
        intro mi' sgv' hm'
        have T2 := (T1.bad 0).next q
        have F2 : FR [8] [21] σ1 (zS σ1 8 2 (nI (a1 + 1))) := (FR.refl σ1).sS (by simp) _ _
        have G2 : FM [52, 53] [] [15] τ1 (zS (zS τ1 0 53 0) 0 52 (nI (a1 + 1))) := ((FM.refl τ1).sO (by simp) _).sO (by simp) _
        have b2 : (zS (zS τ1 0 53 0) 0 52 (nI (a1 + 1))).1 0 53 = 0 := by rw [zS_1, if_neg (fun q => absurd q.2 (by decide)), zS_1, if_pos ⟨rfl, rfl⟩]
        rw [f_X9_readClass_c112, if_pos z3, T1.aC, f_X12_isClassText_c128, (T1.bad 0).aM, nI_1 a1, nI_1 k]
        obtain ⟨a2, σ2, τ2, X, T3, F3, G3⟩ := ih (k + 1) n n' (a1 + 1) v' mi' sgv' _ _ (K1.t2 F2) (L1.sc (G2.mono (by decide) (by decide) (by decide))) T2 b2 (fun u hu => q1 u hu) (fun u hu => q2 u hu) hm' (by omega) (by omega) (by omega) (by omega)
        exact ⟨a2, σ2, τ2, X, T3, (F1.trans F2).trans F3, (G1.trans G2).trans G3⟩
      have h5 : (zS τ1 0 53 0).1 0 53 = 0 := by rw [zS_1, if_pos ⟨rfl, rfl⟩]
      have c102 : f_X12_isClassText_c102 (f_X12_isClassText_c60 n') 0 τ1 = if cs l B a1 = 45 then f_X12_isClassText_c128 (f_X12_isClassText_c60 n') (-1) (zS τ1 0 53 0) else f_X12_isClassText_c128 (f_X12_isClassText_c60 n') 1 (zS τ1 0 53 0) := by
        rw [f_X12_isClassText_c102, if_pos (show zb01 0 = true from rfl), h5, if_pos rfl, (T1.bad 0).he, zbd_s]
      rw [f_X12_isClassText_c101, c102, f_X9_readClass_c100, if_pos z3]
      by_cases q43 : cs l B a1 = 43
      · have q45 : ¬ cs l B a1 = 45 := by rw [q43]; decide
        rw [if_pos q43, if_pos q43, if_neg q45, if_neg q45]
        exact go 0 1 (Or.inl ⟨rfl, rfl⟩)
      rw [if_neg q43, if_neg q43]
      by_cases q45 : cs l B a1 = 45
      · rw [if_pos q45, if_pos q45, if_pos q45, if_pos q45]
        exact go 1 (-1) (Or.inr ⟨by decide, rfl⟩)
      rw [if_neg q45, if_neg q45, T1.aC]
      -- no sign
      obtain ⟨m, rfl⟩ : ∃ x, n' = x + 1 := ⟨n' - 1, by omega⟩
      have h6 : (zS τ1 0 53 1).1 0 53 = 1 := by rw [zS_1, if_pos ⟨rfl, rfl⟩]
      rw [f_X12_isClassText_c102, if_pos (show zb01 1 = true from rfl), h6, if_neg n10, f_X12_isClassText_c60, h6, if_neg n10, c147_1 h6]
      exact ⟨a1, σ1, zS τ1 0 53 1, Or.inr ⟨rfl, rfl, hal1⟩, T1.bad 1, F1, G1.sO (by simp) _⟩
    · -- a sign that cannot follow
      have hs := sgn_lt K.ok (k := kk) (by omega)
      have hf3 := K.ok.f3
      have e1 : ¬ cs l B a1 = -1 := fun h => by
        rw [h] at hk2
        exact nI_pos (n := sgn S kk) (by omega) (by rw [hk2]; decide)
      have e2 : ¬ cs l B a1 = 43 := fun h => by
        rw [h] at hk2
        have := (nI_eq (b := 43) (by omega) (by decide)).mp hk2
        omega
      have e3 : ¬ cs l B a1 = 45 := fun h => by
        rw [h] at hk2
        have := (nI_eq (b := 45) (by omega) (by decide)).mp hk2
        omega
      rw [ec, zbd_s, if_neg n10, T1.sa, zbd_s, if_neg e1, if_neg e2, if_neg e3, T1.aC, f_X12_isClassText_c60, if_neg (show ¬ τ1.1 0 53 = 0 by rw [hbad]; decide), c147_1 hbad]
      exact ⟨a1, σ1, τ1, Or.inr ⟨rfl, rfl, hal1⟩, T1, F1, G1⟩
    · rw [ec, zbd_s, if_pos rfl, T1.aC, f_X12_isClassText_c60, if_neg (show ¬ τ1.1 0 53 = 0 by rw [hbad]; decide), c147_1 hbad]
      exact ⟨a1, σ1, τ1, Or.inr ⟨rfl, rfl, hal1⟩, T1, F1, G1⟩
theorem text_all (h : Inv S C σ τ) : ∃ l B a1 σ1 τ1, XEnd S l a1 (f_X9_readClass 3 21 σ) (f_X12_isClassText τ) σ1 τ1 ∧ TS l B a1 σ1 τ1 ∧ FR [8] [21] σ σ1 ∧ FM [52, 53] [] [15] τ τ1 := by
  have K := h.kc
  have L := h.km
  obtain ⟨l, B, T⟩ := h.tap
  have hl80 := T.le
  have z3 : zis Ox 7 3 = true := rfl
  rw [f_X9_readClass, if_pos z3, p_fillL 0 (show Ox 21 = .inr (1, 462, []) from rfl) (by decide), zbd_s]
  have F0 : FR [8] [21] σ (zL σ 21 (fun j => if j < 462 then 0 else σ.2 21 j)) := (FR.refl σ).sL (by simp) _
  have hM := K.M
  have r1 : Rw S (zL σ 21 (fun j => if j < 462 then 0 else σ.2 21 j)) 21 (fun _ => 0) := fun t ht => by rw [zL_same, if_pos (by omega)]
  generalize hs : zL σ 21 (fun j => if j < 462 then 0 else σ.2 21 j) = σ0 at *
  have G0 : FM [52, 53] [] [15] τ (zS (zS τ 0 52 0) 0 53 0) := ((FM.refl τ).sO (by simp) _).sO (by simp) _
  have L0 : KM S C (zS (zS τ 0 52 0) 0 53 0) := L.sc (G0.mono (by decide) (by decide) (by decide))
  obtain ⟨f, ef, hf⟩ := pm_empty L0.ok L0.tm (k := 15) rfl
  have G1 : FM [52, 53] [] [15] τ (zL (zS (zS τ 0 52 0) 0 53 0) 15 f) := G0.sL (by simp) f
  have r2 : Rw S (zL (zS (zS τ 0 52 0) 0 53 0) 15 f) 15 (fun _ => 0) := fun t ht => by rw [zL_same]; exact hf t ht
  have b1 : (zL (zS (zS τ 0 52 0) 0 53 0) 15 f).1 0 53 = 0 := by rw [zL_1, zS_1, if_pos ⟨rfl, rfl⟩]
  have a52 : (zL (zS (zS τ 0 52 0) 0 53 0) 15 f).1 0 52 = nI 0 := by rw [zL_1, zS_1, if_neg (fun q => absurd q.2 (by decide)), zS_1, if_pos ⟨rfl, rfl⟩]; rfl
  rw [f_X12_isClassText, ef, zbd_s]
  generalize ht : zL (zS (zS τ 0 52 0) 0 53 0) 15 f = τ0 at *
  have h81 : σ0.1 = σ.1 := by rw [← hs]; rfl
  have Td : TapD l B σ0 τ0 := T.fr (by rw [h81]) (by rw [h81]) (G1.o 27 (by decide)) (G1.i 20 (by decide) (by decide))
  have K0 := K.t2 F0
  have L1 : KM S C τ0 := L.sc (G1.mono (by decide) (by decide) (by decide))
  have e0 : f_X9_signAt 0 σ0 = some (cs l B 0, σ0) := signAt_c (a := 0) Td (by decide)
  rw [e0, zbd_s, here_c Td (by decide) a52, zbd_s]
  have go : ∀ (a : Nat) (mi : Int32) (sgv : Int64), a ≤ l → ((mi = 0 ∧ sgv = 1) ∨ (mi ≠ 0 ∧ sgv = -1)) → ∃ l B a1 σ1 τ1, XEnd S l a1 (f_X9_readClass_c39 ZF 3 21 mi 0 (zS σ0 8 2 (nI a))) (zbd (f_X12_readMember sgv (zS τ0 0 52 (nI a))) (fun _ s8 => f_X12_isClassText_c60 ZF s8)) σ1 τ1 ∧ TS l B a1 σ1 τ1 ∧ FR [8] [21] σ σ1 ∧ FM [52, 53] [] [15] τ τ1 := by
    intro a mi sgv ha hmi
    have F2 : FR [8] [21] σ0 (zS σ0 8 2 (nI a)) := (FR.refl σ0).sS (by simp) _ _
    have G2 : FM [52, 53] [] [15] τ0 (zS τ0 0 52 (nI a)) := (FM.refl τ0).sO (by simp) _
    have T2 : TS l B a (zS σ0 8 2 (nI a)) (zS τ0 0 52 (nI a)) := ⟨Td.fr (by rw [zS_1, if_neg (fun q => absurd q.2 (by decide))]) (zS_ne _ _ _ (by decide)) (by rw [zS_1, if_neg (fun q => absurd q.2 (by decide))]) (zS_ne _ _ _ (by decide)), ha, by rw [zS_1, if_pos ⟨rfl, rfl⟩], by rw [zS_1, if_pos ⟨rfl, rfl⟩]⟩
    obtain ⟨a1, σ1, τ1, X, T3, F3, G3⟩ := text_c S C (l + 1) 0 ZF ZF a (fun _ => 0) mi sgv _ _ (K0.t2 F2) (L1.sc (G2.mono (by decide) (by decide) (by decide))) T2 (by rw [zS_1, if_neg (fun q => absurd q.2 (by decide))]; exact b1) (fun u hu => r1 u hu) (fun u hu => r2 u hu) hmi (by omega) (by omega) (by unfold ZF; omega) (by unfold ZF; omega)
    rw [nI_0] at X
    exact ⟨l, B, a1, σ1, τ1, X, T3, (F0.trans F2).trans F3, (G1.trans G2).trans G3⟩
  by_cases q : cs l B 0 = 45
  · have q0 : 0 < l := cs_lt (fun h => by rw [h] at q; exact absurd q (by decide))
    rw [if_pos q, if_pos q, f_X9_readClass_c20, if_pos z3, if_neg n10, f_X9_readClass_c33, if_pos z3, f_X12_isClassText_c34, if_neg (show ¬ 0 ≤ lg_cmp (-1) 0 by decide), f_X12_isClassText_c51, a52, nI_1 0]
    exact go 1 1 (-1) q0 (Or.inr ⟨by decide, rfl⟩)
  · rw [if_neg q, if_neg q, f_X9_readClass_c20, if_pos z3, if_pos rfl, f_X9_readClass_c33, if_pos z3, f_X12_isClassText_c34, if_pos (show 0 ≤ lg_cmp 1 0 by decide), f_X12_isClassText_c51, a52, Int32.add_zero]
    exact go 0 0 1 (Nat.zero_le _) (Or.inl ⟨rfl, rfl⟩)
end
