section
variable {S : Sh} {C : Cl} {σ σ1 τ τ1 : SS}
theorem p48 : ∀ b, b < 127 → (nI b - 48 < 1 ↔ b < 49) ∧ (5 < nI b - 48 ↔ 53 < b) := by decide +kernel
theorem zb_01 (t : Int32) (h : t = 0 ∨ t = 1) : zb01 t = true := by rcases h with rfl | rfl <;> rfl
/-- how POWERS end: g good; e a sign that cannot follow; f a fault in them -/
def PEnd (S : Sh) (l : Nat) (B : Nat → Nat) (a0 a : Nat) (rc : Option (Int32 × SS)) (rm : Option (Int32 × SS)) (σ1 τ1 : SS) : Prop :=
  (∃ c s q, CdOk S c s q ∧ rc = some (nI c, σ1) ∧ rm = some (nI c, τ1) ∧ (τ1.1 0 53 = 0 ∨ (τ1.1 0 53 = 1 ∧ a0 < a ∧ ∃ k, k < S.L ∧ nI (sgn S k) = cs l B a))) ∨
  (∃ y, rc = some (-1, σ1) ∧ rm = some (y, τ1) ∧ τ1.1 0 53 = 1)
theorem powers_end (S : Sh) (C : Cl) {l : Nat} {B : Nat → Nat} (a0 : Nat) {k n n' c s q a : Nat} (K : KC S C σ) (L : KM S C τ) (T : TS l B a σ τ) (hb : τ.1 0 53 = 0) (hc : CdOk S c s q) (hk : k ≤ q) (hqL : q = S.L) :
    ∃ a1 σ1 τ1, PEnd S l B a0 a1 (f_X9_readPowers_c11 (n + 1) 3 (nI S.n) (nI c) (nI s) (nI q) (nI k) σ) (f_X12_readPowers_c10 (n' + 1) (nI c) (nI s) (oI (lf S (cs l B a) (S.L - q) q)) τ) σ1 τ1 ∧ (a ≤ a1 ∧ (lf S (cs l B a) (S.L - q) q ≠ none → s < S.n → a < a1)) ∧ TS l B a1 σ1 τ1 ∧ FR [8] [] σ σ1 ∧ FM [52, 53] [] [] τ τ1 := by
  have hL6 : S.L ≤ 6 := K.ok.ln.2.1
  have hn5 := K.ok.n5
  have hs5 := hc.sn
  have e0 : lf S (cs l B a) (S.L - q) q = none := by rw [hqL, Nat.sub_self]; rfl
  refine ⟨a, σ, τ, Or.inl ⟨c, s, q, hc, ?_, ?_, Or.inl hb⟩, ⟨Nat.le_refl _, fun h => absurd e0 h⟩, T, FR.refl σ, FM.refl τ⟩
  · rw [f_X9_readPowers_c11, if_pos (show zis Ox 7 3 = true from rfl)]
    by_cases w : 6 ≤ k
    · rw [if_pos (show (6 : Int32) ≤ nI k from nI_le (a := 6) w (by omega))]
    · rw [if_neg (show ¬ (6 : Int32) ≤ nI k from nI_ge (b := 6) (by omega) (by decide)), T.sa, zbd_s, p_letterOf K, zbd_s]
      cases e : lf S (cs l B a) S.L 0 with
      | none => rw [if_pos (show oI none < nI q from Int32.lt_of_lt_of_le (by decide) (nI_pos' (by omega)))]
      | some r =>
        have := (lf_some K.ok _ _ _ _ (by omega)).mp e
        rw [show oI (some r) = nI r from rfl, if_pos (nI_lt (by omega) (by omega))]
  · rw [e0, f_X12_readPowers_c10, if_pos (show oI none < 0 by decide)]
theorem powers_c (S : Sh) (C : Cl) {l : Nat} {B : Nat → Nat} (a0 : Nat) : ∀ j k n n' c s q a σ τ, KC S C σ → KM S C τ → TS l B a σ τ → τ.1 0 53 = 0 → CdOk S c s q → k ≤ q → q ≤ S.L → a0 ≤ a → (0 < s → a0 < a) → S.L ≤ q + j → j < n → j + 1 < n' →
    ∃ a1 σ1 τ1, PEnd S l B a0 a1 (f_X9_readPowers_c11 n 3 (nI S.n) (nI c) (nI s) (nI q) (nI k) σ) (f_X12_readPowers_c10 n' (nI c) (nI s) (oI (lf S (cs l B a) (S.L - q) q)) τ) σ1 τ1 ∧ (a ≤ a1 ∧ (lf S (cs l B a) (S.L - q) q ≠ none → s < S.n → a < a1)) ∧ TS l B a1 σ1 τ1 ∧ FR [8] [] σ σ1 ∧ FM [52, 53] [] [] τ τ1 := by
  intro j
  induction j with
  | zero =>
    intro k n n' c s q a σ τ K L T hb hc hk hq ha hs hj hn hn'
    obtain ⟨n, rfl⟩ : ∃ x, n = x + 1 := ⟨n - 1, by omega⟩
    obtain ⟨n', rfl⟩ : ∃ x, n' = x + 1 := ⟨n' - 1, by omega⟩
    exact powers_end S C a0 K L T hb hc hk (by omega)
  | succ j ih =>
    intro k n n' c s q a σ τ K L T hb hc hk hq ha hs hj hn hn'
    obtain ⟨n, rfl⟩ : ∃ x, n = x + 1 := ⟨n - 1, by omega⟩
    obtain ⟨n', rfl⟩ : ∃ x, n' = x + 1 := ⟨n' - 1, by omega⟩
    have hL6 : S.L ≤ 6 := K.ok.ln.2.1
    have hn5 := K.ok.n5
    have hs5 := hc.sn
    have hl80 := T.t.le
    have hal := T.al
    have z3 : zis Ox 7 3 = true := rfl
    by_cases hqL : q = S.L
    · exact powers_end S C a0 K L T hb hc hk hqL
    rw [f_X9_readPowers_c11, if_pos z3, if_neg (show ¬ (6 : Int32) ≤ nI k from nI_ge (b := 6) (by omega) (by decide)), T.sa, zbd_s, p_letterOf K, zbd_s, f_X12_readPowers_c10]
    cases e : lf S (cs l B a) (S.L - q) q with
    | none =>
      -- no letter that can follow
      refine ⟨a, σ, τ, Or.inl ⟨c, s, q, hc, ?_, by rw [if_pos (show oI none < 0 by decide)], Or.inl hb⟩, ⟨Nat.le_refl _, fun h => absurd rfl h⟩, T, FR.refl σ, FM.refl τ⟩
      cases e1 : lf S (cs l B a) S.L 0 with
      | none => rw [if_pos (show oI none < nI q from Int32.lt_of_lt_of_le (by decide) (nI_pos' (by omega)))]
      | some r =>
        have hr := (lf_some K.ok _ _ _ _ (by omega)).mp e1
        have : r < q := by
          refine Decidable.byContradiction fun w => ?_
          have := (lf_some K.ok (cs l B a) (S.L - q) q r (by omega)).mpr ⟨by omega, by omega, hr.2.2⟩
          rw [e] at this
          cases this
        rw [show oI (some r) = nI r from rfl, if_pos (nI_lt this (by omega))]
    | some r =>
      have hr := (lf_some K.ok _ _ _ _ (by omega)).mp e
      have e1 : lf S (cs l B a) S.L 0 = some r := (lf_some K.ok _ _ _ _ (by omega)).mpr ⟨by omega, by omega, hr.2.2⟩
      have hal2 : a < l := cs_lt (fun w => by
        have h1 := (sgn_lt K.ok (k := r) (by omega)).1
        have h2 := hr.2.2
        rw [w] at h2
        exact nI_pos (n := sgn S r) (by omega) (by rw [h2]; decide))
      rw [e1, show oI (some r) = nI r from rfl, if_neg (nI_nlt (by omega) (by omega)), if_neg (show ¬ (6 : Int32) ≤ nI r from nI_ge (b := 6) (by omega) (by decide)), if_neg (nI_pos (by omega)), hb, if_pos rfl, L.sh.n, nI_1]
      by_cases q1 : s < S.n
      rotate_left
      · -- no room for it
        have B1 := T.bad 1
        have G1 : FM [52, 53] [] [] τ (zS τ 0 53 1) := (FM.refl τ).sO (by simp) _
        have h53 : (zS τ 0 53 1).1 0 53 = 1 := by rw [zS_1, if_pos ⟨rfl, rfl⟩]
        obtain ⟨m, rfl⟩ : ∃ x, n' = x + 1 := ⟨n' - 1, by omega⟩
        refine ⟨a, σ, zS τ 0 53 1, Or.inl ⟨c, s, q, hc, ?_, ?_, Or.inr ⟨h53, hs (by have := K.ok.ln.2.2.1; omega), r, by omega, hr.2.2⟩⟩, ⟨Nat.le_refl _, fun _ h => absurd h q1⟩, B1, FR.refl σ, G1⟩
        · rw [if_neg (nI_nlt (by omega) (by omega))]
        · rw [if_neg (nI_ge (by omega) (by omega)), f_X12_readPowers_c37, if_pos (show zb01 1 = true from rfl), h53, if_neg n10, f_X12_readPowers_c10, if_neg (nI_pos (by omega)), h53, if_neg n10]
      have T1 := T.next hal2
      have c82 : (zS σ 8 2 (nI (a + 1))).1 8 2 = nI (a + 1) := T1.aC
      have h53 : (zS τ 0 53 0).1 0 53 = 0 := by rw [zS_1, if_pos ⟨rfl, rfl⟩]
      have h52 : (zS τ 0 53 0).1 0 52 = nI a := (T.bad 0).aM
      have T2 : TS l B (a + 1) (zS σ 8 2 (nI (a + 1))) (zS (zS τ 0 53 0) 0 52 (nI (a + 1))) := (T.bad 0).next hal2
      have F2 : FR [8] [] σ (zS σ 8 2 (nI (a + 1))) := (FR.refl σ).sS (by simp) _ _
      have G2 : FM [52, 53] [] [] τ (zS (zS τ 0 53 0) 0 52 (nI (a + 1))) := ((FM.refl τ).sO (by simp) _).sO (by simp) _
      have b2 : (zS (zS τ 0 53 0) 0 52 (nI (a + 1))).1 0 53 = 0 := by rw [zS_1, if_neg (fun q => absurd q.2 (by decide)), h53]
      rw [if_pos (nI_lt q1 (by omega)), if_pos (nI_le (show s + 1 ≤ S.n by omega) (by omega)), f_X12_readPowers_c37, if_pos (show zb01 0 = true from rfl), h53, if_pos rfl, h52, T.aC, nI_1]
      generalize hσ2 : zS σ 8 2 (nI (a + 1)) = σ2 at *
      generalize hτ2 : zS (zS τ 0 53 0) 0 52 (nI (a + 1)) = τ2 at *
      have K2 := K.tp F2
      have L2 : KM S C τ2 := L.sc (G2.mono (by decide) (by decide) (by decide))
      rw [T2.sa, zbd_s, T2.he, zbd_s]
      by_cases q94 : cs l B (a + 1) = 94
      rotate_left
      · -- power one
        have hc2 := hc.step K.ok (p := 1) hr.1 (show r < S.L by omega) (Nat.le_refl _) (by omega)
        rw [Nat.one_mul] at hc2
        rw [if_neg q94, if_neg q94, f_X9_readPowers_c138, if_pos z3, if_pos (zin_nI (show r < 6 by omega) (by decide)), ztab_0 r (by omega), f_X12_readPowers_c162, p_tens (by omega), zbd_s, nI_1 r, nI_1 k, nI_1 s, pm_letterHere L2 T2.he (show r + 1 ≤ S.L by omega), zbd_s, Int32.one_mul, nI_add]
        obtain ⟨a1, σ1, τ1, P, ⟨h1, -⟩, T3, F3, G3⟩ := ih (k + 1) n n' (c + 10 ^ r) (s + 1) (r + 1) (a + 1) σ2 τ2 K2 L2 T2 b2 hc2 (by omega) (by omega) (by omega) (fun _ => by omega) (by omega) (by omega) (by omega)
        exact ⟨a1, σ1, τ1, P, ⟨by omega, fun _ _ => by omega⟩, T3, F2.trans F3, G2.trans G3⟩
      · -- a power is told
        have hal3 : a + 1 < l := cs_lt (fun w => by rw [w] at q94; exact absurd q94 (by decide))
        have T3 := T2.next hal3
        have b3 : (zS τ2 0 52 (nI (a + 1 + 1))).1 0 53 = 0 := by rw [zS_1, if_neg (fun q => absurd q.2 (by decide)), b2]
        have F3 : FR [8] [] σ (zS σ2 8 2 (nI (a + 1 + 1))) := F2.sS (by simp) _ _
        have G3 : FM [52, 53] [] [] τ (zS τ2 0 52 (nI (a + 1 + 1))) := G2.sO (by simp) _
        rw [if_pos q94, if_pos q94, T2.aC, T2.aM, nI_1 (a + 1)]
        generalize hσ3 : zS σ2 8 2 (nI (a + 1 + 1)) = σ3 at *
        generalize hτ3 : zS τ2 0 52 (nI (a + 1 + 1)) = τ3 at *
        have K3 := K.tp F3
        have L3 : KM S C τ3 := L.sc (G3.mono (by decide) (by decide) (by decide))
        -- the reference finds a fault
        have bad : ∃ y τ1, f_X12_readPowers_c113 (f_X12_readPowers_c10 n') (nI c) (nI s) (nI r) τ3 = some (y, τ1) ∧ τ1.1 0 53 = 1 ∧ TS l B (a + 1 + 1) σ3 τ1 ∧ FM [52, 53] [] [] τ τ1 := by
          obtain ⟨m, rfl⟩ : ∃ x, n' = x + 1 := ⟨n' - 1, by omega⟩
          have T4 := T3.bad 1
          have h4 : (zS τ3 0 53 1).1 0 53 = 1 := by rw [zS_1, if_pos ⟨rfl, rfl⟩]
          have e4 : zS (zS τ3 0 53 1) 0 52 ((zS τ3 0 53 1).1 0 52 + 0) = zS τ3 0 53 1 := by
            rw [Int32.add_zero, zS_eq (zS τ3 0 53 1)]
            exact Prod.ext (funext fun x => by
              rw [zI_1]
              by_cases w : x = 0
              · rw [if_pos w, w]
                funext y
                by_cases v : y = 52
                · rw [v]; exact pk_us
                · exact pk_un v
              · rw [if_neg w]) rfl
          have G4 : FM [52, 53] [] [] τ (zS τ3 0 53 1) := G3.sO (by simp) _
          have L4 : KM S C (zS τ3 0 53 1) := L.sc (G4.mono (by decide) (by decide) (by decide))
          rw [f_X12_readPowers_c113, f_X12_readPowers_c118, if_pos (show zb01 1 = true from rfl), h4, if_neg n10, f_X12_readPowers_c139, h4, if_neg n10, f_X12_readPowers_c158, e4, f_X12_readPowers_c162, p_tens (by omega), zbd_s, nI_1 r, pm_letterHere L4 T4.he (show r + 1 ≤ S.L by omega), zbd_s, f_X12_readPowers_c10, h4, if_neg n10]
          refine ⟨nI c + 0 * nI (10 ^ r), zS τ3 0 53 1, ?_, h4, T4, G4⟩
          split <;> rfl
        have fin : ∀ rc, rc = some ((-1 : Int32), σ3) → ∀ rm, rm = f_X12_readPowers_c113 (f_X12_readPowers_c10 n') (nI c) (nI s) (nI r) τ3 → ∃ a1 σ1 τ1, PEnd S l B a0 a1 rc rm σ1 τ1 ∧ (a ≤ a1 ∧ (some r ≠ none → s < S.n → a < a1)) ∧ TS l B a1 σ1 τ1 ∧ FR [8] [] σ σ1 ∧ FM [52, 53] [] [] τ τ1 := by
          intro rc hrc rm hrm
          obtain ⟨y, τ1, e1, e2, T4, G4⟩ := bad
          exact ⟨a + 1 + 1, σ3, τ1, Or.inr ⟨y, hrc, by rw [hrm, e1], e2⟩, ⟨by omega, fun _ _ => by omega⟩, T4, F3, G4⟩
        rw [T3.sa, zbd_s, T3.he, zbd_s, pm_in32 (cs l B (a + 1 + 1)) 49 53 49 53 rfl rfl, zbd_s]
        by_cases q2 : a + 1 + 1 < l
        rotate_left
        · have ecs : cs l B (a + 1 + 1) = -1 := if_neg q2
          rw [ecs, if_pos (show (-1 : Int32) - 48 < 1 by decide), if_neg (show ¬ ((49 : Int32) ≤ -1 ∧ (-1 : Int32) ≤ 53) by decide), if_pos rfl]
          exact fin _ rfl _ rfl
        have ecs : cs l B (a + 1 + 1) = nI (B (a + 1 + 1)) := if_pos q2
        have hB := T.t.r (a + 1 + 1) q2
        have hp := p48 (B (a + 1 + 1)) (by omega)
        rw [ecs]
        by_cases q3 : B (a + 1 + 1) < 49
        · rw [if_pos (hp.1.mpr q3), if_neg (fun w : 49 ≤ nI (B (a + 1 + 1)) ∧ nI (B (a + 1 + 1)) ≤ 53 => absurd ((nI_leI (a := 49) (by decide) (by omega)).mp w.1) (by omega)), if_pos rfl]
          exact fin _ rfl _ rfl
        rw [if_neg (fun w => q3 (hp.1.mp w))]
        by_cases q4 : 53 < B (a + 1 + 1)
        · rw [if_pos (hp.2.mpr q4), if_neg (fun w : 49 ≤ nI (B (a + 1 + 1)) ∧ nI (B (a + 1 + 1)) ≤ 53 => absurd ((nI_leI (b := 53) (by omega) (by decide)).mp w.2) (by omega)), if_pos rfl]
          exact fin _ rfl _ rfl
        obtain ⟨p, hpB⟩ : ∃ p, B (a + 1 + 1) = 48 + p := ⟨B (a + 1 + 1) - 48, by omega⟩
        have ep : nI (B (a + 1 + 1)) - 48 = nI p := by rw [hpB, show (48 : Int32) = nI 48 from rfl, pk_sub (by omega)]; congr 1; omega
        have ep2 : nI s + nI (B (a + 1 + 1)) - 48 = nI (s + p) := by rw [nI_add, hpB, show (48 : Int32) = nI 48 from rfl, pk_sub (by omega)]; congr 1; omega
        rw [if_neg (fun w => q4 (hp.2.mp w)), if_pos (show 49 ≤ nI (B (a + 1 + 1)) ∧ nI (B (a + 1 + 1)) ≤ 53 from ⟨nI_le (a := 49) (by omega) (by omega), nI_le (b := 53) (by omega) (by decide)⟩), if_neg n10, T3.he, zbd_s, ecs, ep, ep2, L3.sh.n, nI_add]
        by_cases q5 : s + p ≤ S.n
        rotate_left
        · rw [if_neg (nI_ge (by omega) (by omega)), if_neg (nI_ge (by omega) (by omega))]
          exact fin _ rfl _ rfl
        rw [if_pos (nI_le q5 (by omega)), if_pos (nI_le q5 (by omega))]
        have hc2 := hc.step K.ok (p := p) hr.1 (show r < S.L by omega) (by omega) q5
        have T5 : TS l B (a + 1 + 1 + 1) (zS σ3 8 2 (nI (a + 1 + 1 + 1))) (zS (zS τ3 0 53 0) 0 52 (nI (a + 1 + 1 + 1))) := (T3.bad 0).next q2
        have F5 : FR [8] [] σ (zS σ3 8 2 (nI (a + 1 + 1 + 1))) := F3.sS (by simp) _ _
        have h5 : (zS τ3 0 53 0).1 0 53 = 0 := by rw [zS_1, if_pos ⟨rfl, rfl⟩]
        have h52' : (zS τ3 0 53 0).1 0 52 = nI (a + 1 + 1) := (T3.bad 0).aM
        have G5 : FM [52, 53] [] [] τ (zS (zS τ3 0 53 0) 0 52 (nI (a + 1 + 1 + 1))) := (G3.sO (by simp) _).sO (by simp) _
        have b5 : (zS (zS τ3 0 53 0) 0 52 (nI (a + 1 + 1 + 1))).1 0 53 = 0 := by rw [zS_1, if_neg (fun q => absurd q.2 (by decide)), h5]
        rw [f_X9_readPowers_c138, if_pos z3, if_pos (zin_nI (show r < 6 by omega) (by decide)), ztab_0 r (by omega), T3.aC, f_X12_readPowers_c118, if_pos (show zb01 0 = true from rfl), h5, if_pos rfl, (T3.bad 0).he, zbd_s, ecs, ep, f_X12_readPowers_c139, h5, if_pos rfl, f_X12_readPowers_c158, h52', nI_1 (a + 1 + 1)]
        generalize hσ5 : zS σ3 8 2 (nI (a + 1 + 1 + 1)) = σ5 at *
        generalize hτ5 : zS (zS τ3 0 53 0) 0 52 (nI (a + 1 + 1 + 1)) = τ5 at *
        have K5 := K.tp F5
        have L5 : KM S C τ5 := L.sc (G5.mono (by decide) (by decide) (by decide))
        rw [f_X12_readPowers_c162, p_tens (by omega), zbd_s, nI_1 r, nI_1 k, pm_letterHere L5 T5.he (show r + 1 ≤ S.L by omega), zbd_s, pk_mul, nI_add, nI_add]
        obtain ⟨a1, σ1, τ1, P, ⟨h1, -⟩, T6, F6, G6⟩ := ih (k + 1) n n' (c + p * 10 ^ r) (s + p) (r + 1) (a + 1 + 1 + 1) σ5 τ5 K5 L5 T5 b5 hc2 (by omega) (by omega) (by omega) (fun _ => by omega) (by omega) (by omega) (by omega)
        exact ⟨a1, σ1, τ1, P, ⟨by omega, fun _ _ => by omega⟩, T6, F5.trans F6, G5.trans G6⟩
end
