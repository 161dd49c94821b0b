section
variable {S : Sh} {C : Cl} {σ σ1 τ τ1 : SS}
theorem isFig_c (x : Int32) (s : SS) : f_X9_isFigure x s = some (if 48 ≤ x ∧ x ≤ 57 then 1 else 0, s) := by
  rw [f_X9_isFigure]
  by_cases q1 : x < 48
  · rw [if_pos q1, if_neg (fun w : 48 ≤ x ∧ x ≤ 57 => absurd q1 (Int32.not_lt.mpr w.1))]
  · rw [if_neg q1]
    by_cases q2 : (57 : Int32) < x
    · rw [if_pos q2, if_neg (fun w : 48 ≤ x ∧ x ≤ 57 => absurd q2 (Int32.not_lt.mpr w.2))]
    · rw [if_neg q2, if_pos (show 48 ≤ x ∧ x ≤ 57 from ⟨Int32.not_lt.mp q1, Int32.not_lt.mp q2⟩)]
theorem isFig_m {l a : Nat} {B : Nat → Nat} (T : TS l B a σ τ) : f_X12_isFigure τ = some (if 48 ≤ cs l B a ∧ cs l B a ≤ 57 then 1 else 0, τ) := by
  rw [f_X12_isFigure, T.he, zbd_s, pm_in32 (cs l B a) 48 57 48 57 rfl rfl, zbd_s]
  split <;> rfl
def updv (v : Nat → Int64) (t : Nat) (x : Int64) : Nat → Int64 := fun u => if u = t then v t + x else v u
/-- how a MEMBER ends -/
def MEnd (S : Sh) (l : Nat) (B : Nat → Nat) (a0 a : Nat) (rc : Option (Int32 × SS)) (rm : Option (Unit × SS)) (σ1 τ1 : SS) : Prop :=
  rm = some ((), τ1) ∧ ((rc = some (1, σ1) ∧ a0 < a ∧ ((τ1.1 0 53 = 0 ∧ ∃ v, Rw S σ1 21 v ∧ Rw S τ1 15 v) ∨ (τ1.1 0 53 = 1 ∧ ∃ k, k < S.L ∧ nI (sgn S k) = cs l B a))) ∨ (rc = some (0, σ1) ∧ τ1.1 0 53 = 1))
theorem KC.t2 (h : KC S C σ) (hF : FR [8] [21] σ σ1) : KC S C σ1 :=
  ⟨h.ok, h.okC, h.sh.fr hF (by decide) (by decide) (by decide) (by decide), by rw [hF.1 1 (by decide)]; exact h.mm, h.cl.fr h.okC hF (fun m hm => by simp; omega) (fun m hm => by simp; omega),
    h.tm.fr hF (by decide) (by decide) (by decide) (by decide) (by decide) (by decide) (by decide)⟩
theorem TS.same {l a : Nat} {B : Nat → Nat} (T : TS l B a σ τ) (h1 : σ1.1 = σ.1) (h2 : τ1.1 = τ.1) : TS l B a σ1 τ1 :=
  ⟨T.t.fr (by rw [h1]) (by rw [h1]) (by rw [h2]) (by rw [h2]), T.al, by rw [h1]; exact T.aC, by rw [h2]; exact T.aM⟩
/-- the POWERS of a member, then its place in the row: i figures were told -/
theorem memb_p (S : Sh) (C : Cl) {l a0 a i : Nat} {B : Nat → Nat} (K : KC S C σ) (L : KM S C τ) (T : TS l B a σ τ) (hb : τ.1 0 53 = 0) {v : Nat → Int64} (r1 : Rw S σ 21 v) (r2 : Rw S τ 15 v) (hi : a = a0 + i) (hi4 : i < 100) (hs : i = 0 → lf S (cs l B a) S.L 0 ≠ none) (mi : Int32) (sgv : Int64) (hmi : (mi = 0 ∧ sgv = 1) ∨ (mi ≠ 0 ∧ sgv = -1)) (w : Int64) :
    ∃ a1 σ1 τ1, MEnd S l B a0 a1 (f_X9_readMember_c82 3 mi 21 (nI a0) (if i = 0 then 1 else w) σ) (f_X12_readMember_c69 sgv w (nI i) τ) σ1 τ1 ∧ a ≤ a1 ∧ TS l B a1 σ1 τ1 ∧ FR [8] [21] σ σ1 ∧ FM [52, 53] [] [15] τ τ1 := by
  have hM := K.M
  have hn5 := K.ok.n5
  have hn1 := K.ok.ln.2.2.1
  have hL6 : S.L ≤ 6 := K.ok.ln.2.1
  have z3 : zis Ox 7 3 = true := rfl
  have hl80 := T.t.le
  have hal := T.al
  have hc0 : CdOk S 0 0 0 := ⟨by decide, by
    have : ∀ L, sm (dig 0) L = 0 := fun L => by
      induction L with
      | zero => rfl
      | succ L ih => rw [sm, ih]; unfold dig; rw [Nat.zero_div]
    exact this _, Nat.zero_le _, Nat.zero_le _⟩
  obtain ⟨a1, σ1, τ1, P, ⟨h1, h1'⟩, T1, F1, G1⟩ := powers_c S C a0 S.L 0 ZF ZF 0 0 0 a σ τ K L T hb hc0 (Nat.le_refl _) (Nat.zero_le _) (by omega) (fun h => absurd h (by omega)) (by omega) (by unfold ZF; omega) (by unfold ZF; omega)
  rw [nI_0, Nat.sub_zero] at P
  have K1 := K.tp F1
  have L1 : KM S C τ1 := L.sc (G1.mono (by decide) (by decide) (by decide))
  have q1 := r1.fr F1 (by decide)
  have q2 := r2.fm G1 (by decide)
  have hlt : a0 < a1 := by
    by_cases q : i = 0
    · have := h1' (by rw [Nat.sub_zero]; exact hs q) (by omega)
      omega
    · omega
  have hal1 := T1.al
  have hlh := pm_letterHere L T.he (k := 0) (Nat.zero_le _)
  rw [Nat.sub_zero, nI_0] at hlh
  rw [f_X9_readMember_c82, if_pos z3, K.tm.n, f_X9_readPowers, if_pos z3, f_X12_readMember_c69, f_X12_readPowers, hlh, zbd_s]
  rcases P with ⟨c, s, q, hc, e1, e2, e3⟩ | ⟨y, e1, e2, e3⟩
  · rw [e1, zbd_s, e2, zbd_s]
    obtain ⟨t, ht, et⟩ := hc.term K.ok
    have hc6 : c < 600000 := by rw [← et]; exact (cd_lt K.ok.ln (show t < cM S.L S.n from ht)).1
    have ep : pI S.L S.n (nI c) = some t := (pI_iff K.ok.ln).mpr ⟨ht, by show nI c = nI (S.c t); rw [et]⟩
    have hne : ¬ nI a1 = nI a0 := fun h => by have := (nI_eq (by omega) (by omega)).mp h; omega
    have zt := zok_nI (show Ox 21 = .inr (1, 462, []) from rfl) (show t < 462 by omega) (by decide)
    rw [if_neg (nI_pos (by omega)), T1.aC, if_neg hne, K1.find, zbd_s, ep, show oI (some t) = nI t from rfl, if_neg (nI_pos (by omega)), if_pos zt, f_X9_readMember_c140, f_X9_readMember_c140, if_pos zt, if_pos zt, nI_clamp (by omega), q1 t ht]
    have F2 : ∀ x, FR [8] [21] σ (zSL σ1 21 t x) := fun x => (F1.mono (by decide) (by decide)).sSL (by simp) _ _
    have ecls : (if mi = 0 then some ((1 : Int32), zSL σ1 21 t (v t + (if i = 0 then 1 else w))) else some (1, zSL σ1 21 t (v t + -(if i = 0 then 1 else w)))) = some (1, zSL σ1 21 t (v t + sgv * (if i = 0 then 1 else w))) := by
      rcases hmi with ⟨m0, sv⟩ | ⟨m0, sv⟩
      · rw [if_pos m0, sv, Int64.one_mul]
      · rw [if_neg m0, sv, Int64.neg_mul, Int64.one_mul]
    have rows1 : Rw S (zSL σ1 21 t (v t + sgv * (if i = 0 then 1 else w))) 21 (updv v t (sgv * (if i = 0 then 1 else w))) := fun u hu => by
      rw [zSL_2]
      unfold updv
      by_cases g : u = t
      · rw [if_pos ⟨rfl, g⟩, if_pos g]
      · rw [if_neg (fun h => g h.2), if_neg g]; exact q1 u hu
    rw [ecls]
    rcases e3 with b0 | ⟨b1, b2, kk, hk1, hk2⟩
    · have e7 : τ1.1 7 c = nI t := by
        rw [L1.tm.place _ hc6, show pos S.L S.n c = some t from (pos_iff K.ok.ln).mpr ⟨ht, et⟩]
        rfl
      rw [if_pos b0, if_pos (zin_nI hc6 (by decide)), nI_clamp (by omega), e7, if_pos (zin_nI (show t < 462 by omega) (by decide)), nI_clamp (by omega), q2 t ht]
      simp only [f_X12_readMember_c106, zin_nI (show t < 462 by omega) (show 462 ≤ 2 ^ 31 by decide), if_true, nI_clamp (show t < 2 ^ 31 by omega)]
      have eref : (if nI i = 0 then some ((), zSL τ1 15 t (v t + sgv * 1)) else some ((), zSL τ1 15 t (v t + sgv * w))) = some ((), zSL τ1 15 t (v t + sgv * (if i = 0 then 1 else w))) := by
        by_cases g : i = 0
        · rw [if_pos (show nI i = 0 by rw [g]; rfl), if_pos g]
        · rw [if_neg (nI_ne0 (by omega) (by omega)), if_neg g]
      rw [eref]
      refine ⟨a1, _, _, ⟨rfl, Or.inl ⟨rfl, hlt, Or.inl ⟨b0, _, rows1, fun u hu => ?_⟩⟩⟩, h1, T1.same rfl rfl, F2 _, (G1.mono (by decide) (by decide) (by decide)).sSL (by simp) _ _⟩
      rw [zSL_2]
      unfold updv
      by_cases g : u = t
      · rw [if_pos ⟨rfl, g⟩, if_pos g]
      · rw [if_neg (fun h => g h.2), if_neg g]; exact q2 u hu
    · rw [if_neg (show ¬ τ1.1 0 53 = 0 by rw [b1]; decide)]
      exact ⟨a1, _, τ1, ⟨rfl, Or.inl ⟨rfl, hlt, Or.inr ⟨b1, kk, hk1, hk2⟩⟩⟩, h1, T1.same rfl rfl, F2 _, G1.mono (by decide) (by decide) (by decide)⟩
  · rw [e1, zbd_s, e2, zbd_s, if_pos (show (-1 : Int32) < 0 by decide), if_neg (show ¬ τ1.1 0 53 = 0 by rw [e3]; decide)]
    exact ⟨a1, σ1, τ1, ⟨rfl, Or.inr ⟨rfl, e3⟩⟩, h1, T1, F1.mono (by decide) (by decide), G1.mono (by decide) (by decide) (by decide)⟩
theorem memb_c (S : Sh) (C : Cl) {l a0 : Nat} {B : Nat → Nat} {v : Nat → Int64} (mi : Int32) (sgv : Int64) (hmi : (mi = 0 ∧ sgv = 1) ∨ (mi ≠ 0 ∧ sgv = -1)) : ∀ j i n n' a (w : Int64) σ τ, KC S C σ → KM S C τ → TS l B a σ τ → τ.1 0 53 = 0 → Rw S σ 21 v → Rw S τ 15 v → a = a0 + i → i + j = 4 → j < n → j < n' →
    ∃ a1 σ1 τ1, MEnd S l B a0 a1 (f_X9_readMember_c12 n 3 mi 21 (nI a0) w (nI i) σ) (f_X12_readMember_c5 n' sgv w (nI i) τ) σ1 τ1 ∧ a ≤ a1 ∧ TS l B a1 σ1 τ1 ∧ FR [8] [21] σ σ1 ∧ FM [52, 53] [] [15] τ τ1 := by
  have z3 : zis Ox 7 3 = true := rfl
  -- no more figures
  have fin : ∀ i a (w : Int64) σ τ, KC S C σ → KM S C τ → TS l B a σ τ → τ.1 0 53 = 0 → Rw S σ 21 v → Rw S τ 15 v → a = a0 + i → i ≤ 4 → ∃ a1 σ1 τ1, MEnd S l B a0 a1 (f_X9_readMember_c70 3 mi 21 (nI a0) w σ) (f_X12_readMember_c50 sgv w (nI i) τ) σ1 τ1 ∧ a ≤ a1 ∧ TS l B a1 σ1 τ1 ∧ FR [8] [21] σ σ1 ∧ FM [52, 53] [] [15] τ τ1 := by
    intro i a w σ τ K L T hb r1 r2 hi hi4
    have hl80 := T.t.le
    have hal := T.al
    have hL6 : S.L ≤ 6 := K.ok.ln.2.1
    rw [f_X9_readMember_c70, if_pos z3, T.aC, f_X12_readMember_c50]
    by_cases q : i = 0
    · have e : a = a0 := by omega
      have hlh := pm_letterHere L T.he (k := 0) (Nat.zero_le _)
      rw [Nat.sub_zero, nI_0] at hlh
      rw [if_pos (show nI a = nI a0 by rw [e]), if_pos (show nI i = 0 by rw [q]; rfl), hlh, zbd_s]
      cases el : lf S (cs l B a) S.L 0 with
      | none =>
        rw [if_neg (show ¬ 0 ≤ oI none by decide), f_X9_readMember_c82, if_pos z3, f_X9_readPowers, if_pos z3, show ZF = 9999999 + 1 from rfl, f_X9_readPowers_c11, if_pos z3, if_neg (show ¬ (6 : Int32) ≤ 0 by decide), T.sa, zbd_s, p_letterOf K, zbd_s, el, if_pos (show oI none < 0 by decide), zbd_s, if_neg (show ¬ (0 : Int32) < 0 by decide), T.aC, if_pos (show nI a = nI a0 by rw [e])]
        exact ⟨a, σ, zS τ 0 53 1, ⟨rfl, Or.inr ⟨rfl, by rw [zS_1, if_pos ⟨rfl, rfl⟩]⟩⟩, Nat.le_refl _, T.bad 1, FR.refl σ, (FM.refl τ).sO (by simp) _⟩
      | some r =>
        have hr := (lf_some K.ok _ _ _ _ (by omega)).mp el
        rw [show oI (some r) = nI r from rfl, if_pos (nI_pos' (by omega))]
        have := memb_p S C K L T hb r1 r2 hi (by omega) (fun _ => by rw [el]; exact fun h => by cases h) mi sgv hmi w
        rw [if_pos q] at this
        exact this
    · rw [if_neg (fun h : nI a = nI a0 => by have := (nI_eq (by omega) (by omega)).mp h; omega), if_neg (nI_ne0 (by omega) (by omega))]
      have := memb_p S C K L T hb r1 r2 hi (by omega) (fun h => absurd h q) mi sgv hmi w
      rw [if_neg q] at this
      exact this
  intro j
  induction j with
  | zero =>
    intro i n n' a w σ τ K L T hb r1 r2 hi hj hn hn'
    obtain ⟨n, rfl⟩ : ∃ x, n = x + 1 := ⟨n - 1, by omega⟩
    obtain ⟨n', rfl⟩ : ∃ x, n' = x + 1 := ⟨n' - 1, by omega⟩
    have hi4 : i = 4 := by omega
    rw [f_X9_readMember_c12, if_pos z3, if_pos (show (4 : Int32) ≤ nI i by rw [hi4]; decide), f_X12_readMember_c5, if_pos (show (4 : Int32) ≤ nI i by rw [hi4]; decide)]
    exact fin i a w σ τ K L T hb r1 r2 hi (by omega)
  | succ j ih =>
    intro i n n' a w σ τ K L T hb r1 r2 hi hj hn hn'
    obtain ⟨n, rfl⟩ : ∃ x, n = x + 1 := ⟨n - 1, by omega⟩
    obtain ⟨n', rfl⟩ : ∃ x, n' = x + 1 := ⟨n' - 1, by omega⟩
    have i4 : ¬ (4 : Int32) ≤ nI i := nI_ge (b := 4) (by omega) (by decide)
    rw [f_X9_readMember_c12, if_pos z3, if_neg i4, T.sa, zbd_s, isFig_c, zbd_s, f_X12_readMember_c5, if_neg i4, isFig_m T, zbd_s]
    by_cases q : 48 ≤ cs l B a ∧ cs l B a ≤ 57
    rotate_left
    · rw [if_neg q, if_pos rfl, if_pos rfl]
      exact fin i a w σ τ K L T hb r1 r2 hi (by omega)
    have hal2 : a < l := cs_lt (fun h => by rw [h] at q; exact absurd q.1 (by decide))
    have T1 := T.next hal2
    have F1 : FR [8] [] σ (zS σ 8 2 (nI (a + 1))) := (FR.refl σ).sS (by simp) _ _
    have G1 : FM [52, 53] [] [] τ (zS τ 0 52 (nI (a + 1))) := (FM.refl τ).sO (by simp) _
    have b1 : (zS τ 0 52 (nI (a + 1))).1 0 53 = 0 := by rw [zS_1, if_neg (fun q => absurd q.2 (by decide))]; exact hb
    rw [if_pos q, if_neg n10, if_neg n10, T.sa, zbd_s, T.he, zbd_s, T.aC, T.aM, nI_1 a, nI_1 i, Int64.mul_comm 10 w]
    obtain ⟨a1, σ1, τ1, M, h1, T2, F2, G2⟩ := ih (i + 1) n n' (a + 1) (w * 10 + (cs l B a).toInt64 - 48) _ _ (K.tp F1) (L.sc (G1.mono (by decide) (by decide) (by decide))) T1 b1 (r1.fr F1 (by decide)) (r2.fm G1 (by decide)) (by omega) (by omega) (by omega) (by omega)
    exact ⟨a1, σ1, τ1, M, by omega, T2, (F1.mono (by decide) (by decide)).trans F2, (G1.mono (by decide) (by decide) (by decide)).trans G2⟩
end
