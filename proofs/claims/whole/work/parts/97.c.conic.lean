section
variable {S : Sh} {C C1 : Cl} {σ σ1 τ τ1 : SS}
/-! ===== conditions on CONICS ===== -/
def con (S : Sh) (a b : Int64) : Nat → Int64 := ly S (fun l => if l = 0 then a else b) 2
theorem k_cond (K : KC S C σ) (hL : 2 ≤ S.L) {v : Nat → Int64} (r : Rw S σ 21 v) (a b : Int64) {k : Nat} (hk : k < 1000) : ∃ σ1, f_X11_multiplyConditions (nI k) a b σ = some ((), σ1) ∧ Rw S σ1 21 (pw S v (con S a b) k) ∧ FR XA XB σ σ1 := by
  obtain ⟨f, e0, hf⟩ := p_zero K.ok (s := σ) (k := 22) (by decide)
  have F0 : FR XA XB σ (zL σ 22 f) := (FR.refl σ).sL (by simp) f
  have K0 := K.sc F0
  obtain ⟨t, ht, et, ep⟩ := k_put K0 (k := 22) (l := 0) (v := a) rfl (by omega)
  have F1 : FR XA XB (zL σ 22 f) (zSL (zL σ 22 f) 22 t a) := (FR.refl _).sSL (by simp) _ _
  have K1 := K0.sc F1
  obtain ⟨u, hu, eu, ep2⟩ := k_put K1 (k := 22) (l := 1) (v := b) rfl (by omega)
  have F2 : FR XA XB (zSL (zL σ 22 f) 22 t a) (zSL (zSL (zL σ 22 f) 22 t a) 22 u b) := (FR.refl _).sSL (by simp) _ _
  have K2 := K1.sc F2
  have hV := ly_put (V := fun l => if l = 0 then a else b) (l := 0) (v := a) K.ok ht et rfl hf
  have hW := ly_put (V := fun l => if l = 0 then a else b) (l := 1) (v := b) K.ok hu eu rfl hV
  have r1 : Rw S (zSL (zSL (zL σ 22 f) 22 t a) 22 u b) 22 (con S a b) := fun q hq => by
    rw [zSL_eq, zL_same, zSL_eq, zL_same, zL_same]; exact hW q hq
  have r2 : Rw S (zSL (zSL (zL σ 22 f) 22 t a) 22 u b) 21 v := fun q hq => by
    rw [zSL_eq, zL_ne' _ _ (by decide), zSL_eq, zL_ne' _ _ (by decide), zL_ne' _ _ (by decide)]; exact r q hq
  generalize hs : zSL (zSL (zL σ 22 f) 22 t a) 22 u b = s at *
  have key : ∀ j i n σ, KC S C σ → Rw S σ 21 (pw S v (con S a b) i) → Rw S σ 22 (con S a b) → i + j = k → j < n → ∃ σ1, f_X11_multiplyConditions_c50 n (nI k) (nI i) σ = some ((), σ1) ∧ Rw S σ1 21 (pw S v (con S a b) k) ∧ FR XA XB σ σ1 := by
    intro j
    induction j with
    | zero =>
      intro i n σ K r1 r2 hi hn
      obtain ⟨n, rfl⟩ : ∃ m', n = m' + 1 := ⟨n - 1, by omega⟩
      have : i = k := by omega
      subst this
      exact ⟨σ, by rw [f_X11_multiplyConditions_c50, if_pos (nI_le (by omega) (by omega))], r1, FR.refl σ⟩
    | succ j ih =>
      intro i n σ K r1 r2 hi hn
      obtain ⟨n, rfl⟩ : ∃ m', n = m' + 1 := ⟨n - 1, by omega⟩
      obtain ⟨σ1, e1, r3, F1⟩ := p_mulF K.ok K.tm (k1 := 21) (k2 := 22) (by decide) (by decide) (by decide) r1 r2
      have r4 := r2.fr F1 (by decide)
      have F1 : FR XA XB σ σ1 := F1.mono (by decide) (by decide)
      rw [f_X11_multiplyConditions_c50, if_neg (nI_ge (by omega) (by omega)), e1, zbd_s, nI_1]
      obtain ⟨σ2, e2, r5, F2⟩ := ih (i + 1) n σ1 (K.sc F1) r3 r4 (by omega) (by omega)
      exact ⟨σ2, e2, r5, F1.trans F2⟩
  obtain ⟨σ2, e2, r3, F3⟩ := key k 0 ZF s K2 r2 r1 (by omega) (by unfold ZF; omega)
  rw [nI_0] at e2
  rw [show nI 0 = 0 from rfl] at ep
  rw [show nI 1 = 1 from rfl] at ep2
  rw [f_X11_multiplyConditions, e0, zbd_s, ep, zbd_s, ep2, zbd_s, e2]
  exact ⟨σ2, rfl, r3, ((F0.trans F1).trans F2).trans F3⟩
theorem km_conic (L : KM S C τ) (hL : 2 ≤ S.L) {v : Nat → Int64} (r : Rw S τ 13 v) (a b : Int64) : ∃ τ1, f_X12_timesConic a b τ = some ((), τ1) ∧ Rw S τ1 13 (mul S v (con S a b)) ∧ FM MJ MA MB τ τ1 := by
  have hM := L.M
  obtain ⟨f, e0, hf⟩ := pm_empty L.ok L.tm (k := 14) rfl
  have F0 : FM MJ MA MB τ (zL τ 14 f) := (FM.refl τ).sL (by simp) f
  have L0 := L.sc F0
  obtain ⟨t, ht, et, ep, -⟩ := km_place L0 (l := 0) (by omega)
  obtain ⟨u, hu, eu, ep2, -⟩ := km_place L0 (l := 1) (by omega)
  have hV := ly_put (V := fun l => if l = 0 then a else b) (l := 0) (v := a) L.ok ht et rfl hf
  have hW := ly_put (V := fun l => if l = 0 then a else b) (l := 1) (v := b) L.ok hu eu rfl hV
  have F1 : FM MJ MA MB (zL τ 14 f) (zSL (zSL (zL τ 14 f) 14 t a) 14 u b) := ((FM.refl _).sSL (by simp) _ _).sSL (by simp) _ _
  have r1 : Rw S (zSL (zSL (zL τ 14 f) 14 t a) 14 u b) 14 (con S a b) := fun q hq => by
    rw [zSL_eq, zL_same, zSL_eq, zL_same, zL_same]; exact hW q hq
  have r2 : Rw S (zSL (zSL (zL τ 14 f) 14 t a) 14 u b) 13 v := fun q hq => by
    rw [zSL_eq, zL_ne' _ _ (by decide), zSL_eq, zL_ne' _ _ (by decide), zL_ne' _ _ (by decide)]; exact r q hq
  obtain ⟨τ1, e1, r3, F2⟩ := km_mul (L0.sc F1) (k1 := 13) (k2 := 14) rfl rfl (by decide) (by decide) r2 r1
  have F2 : FM MJ MA MB _ τ1 := F2.mono (by decide) (by decide) (by decide)
  rw [show 10 ^ 0 = 1 from rfl] at ep
  rw [show 10 ^ 1 = 10 from rfl] at ep2
  have ep3 : (zSL (zL τ 14 f) 14 t a).1 7 10 = nI u := ep2
  rw [f_X12_timesConic, e0, zbd_s, if_pos (show zin 1 600000 = true by decide), show ((1 : Int32)).toNatClampNeg = 1 from rfl, ep, if_pos (zin_nI (show t < 462 by omega) (by decide)), if_pos (show zin 10 600000 = true by decide), show ((10 : Int32)).toNatClampNeg = 10 from rfl, nI_clamp (by omega), ep3, if_pos (zin_nI (show u < 462 by omega) (by decide)), nI_clamp (by omega), e1, zbd_s]
  exact ⟨τ1, rfl, r3, (F0.trans F1).trans F2⟩
/-! ===== THROUGH ===== -/
def alv (y : Nat → Int64) : Nat → Nat → Bool
  | _, 0 => true
  | i, j + 1 => decide (0 ≤ (y i).toInt ∧ (y i).toInt ≤ 99) && alv y (i + 1) j
def rr (S : Sh) (v : Nat → Int64) (y : Nat → Int64) : Nat → Nat → Int64
  | 0 => v
  | k + 1 => mul S (rr S v y k) (con S (y (2 * k + 1) + 2 * y (2 * k)) (-(y (2 * k))))
def LsC (l : Nat) (z : Nat) (y : Nat → Int64) (σ : SS) : Prop :=
  (l < 3) ∧
  (z ≤ 20) ∧
  (σ.1 28 l = nI z) ∧
  (∀ i, i < z → σ.2 (77 + l) i = y i)
theorem LsC.l3 {l : Nat} {z : Nat} {y : Nat → Int64} {σ : SS} (h : LsC l z y σ) : l < 3 := h.1
theorem LsC.z20 {l : Nat} {z : Nat} {y : Nat → Int64} {σ : SS} (h : LsC l z y σ) : z ≤ 20 := h.2.1
theorem LsC.s {l : Nat} {z : Nat} {y : Nat → Int64} {σ : SS} (h : LsC l z y σ) : σ.1 28 l = nI z := h.2.2.1
theorem LsC.v {l : Nat} {z : Nat} {y : Nat → Int64} {σ : SS} (h : LsC l z y σ) : ∀ i, i < z → σ.2 (77 + l) i = y i := h.2.2.2
def LsM (l : Nat) (z : Nat) (y : Nat → Int64) (τ : SS) : Prop :=
  (l < 3) ∧
  (z ≤ 20) ∧
  (τ.1 23 l = nI z) ∧
  (∀ i, i < z → τ.2 24 (20 * l + i) = y i)
theorem LsM.l3 {l : Nat} {z : Nat} {y : Nat → Int64} {τ : SS} (h : LsM l z y τ) : l < 3 := h.1
theorem LsM.z20 {l : Nat} {z : Nat} {y : Nat → Int64} {τ : SS} (h : LsM l z y τ) : z ≤ 20 := h.2.1
theorem LsM.s {l : Nat} {z : Nat} {y : Nat → Int64} {τ : SS} (h : LsM l z y τ) : τ.1 23 l = nI z := h.2.2.1
theorem LsM.v {l : Nat} {z : Nat} {y : Nat → Int64} {τ : SS} (h : LsM l z y τ) : ∀ i, i < z → τ.2 24 (20 * l + i) = y i := h.2.2.2
theorem LsC.fr {l z : Nat} {y : Nat → Int64} (h : LsC l z y σ) (hF : FR XA XB σ σ1) : LsC l z y σ1 := ⟨h.l3, h.z20, by rw [hF.1 28 (by decide)]; exact h.s, fun i hi => by rw [hF.2 _ (show 77 + l ∉ XB by have := h.l3; simp; omega)]; exact h.v i hi⟩
theorem LsM.fm {l z : Nat} {y : Nat → Int64} (h : LsM l z y τ) (hF : FM MJ MA MB τ τ1) : LsM l z y τ1 := ⟨h.l3, h.z20, by rw [hF.i 23 (by decide) (by decide)]; exact h.s, fun i hi => by rw [hF.l 24 (by decide)]; exact h.v i hi⟩
theorem k_thr (S : Sh) (C : Cl) (hL : 2 ≤ S.L) {x3 : Int32} {l z : Nat} {y v : Nat → Int64} (hz : 2 * (z / 2) = z) (hz20 : z ≤ 20) : ∀ j k n σ, KC S C σ → (z = 0 ∨ (x3 = nI l ∧ LsC l z y σ)) → Rw S σ 21 (rr S v y k) → k + j = z / 2 → j < n →
    ∃ σ1, f_X11_through_c181 n x3 (nI z) (nI (2 * k)) σ = some (mt S (rr S v y (z / 2)), σ1) ∧ FR XA XB σ σ1 := by
  intro j
  induction j with
  | zero =>
    intro k n σ K hx r hk hn
    obtain ⟨n, rfl⟩ : ∃ m', n = m' + 1 := ⟨n - 1, by omega⟩
    have : k = z / 2 := by omega
    subst this
    exact ⟨σ, by rw [f_X11_through_c181, nI_1, if_pos (nI_le (by omega) (by omega)), p_met K.ok K.tm (by decide) r, zbd_s], FR.refl σ⟩
  | succ j ih =>
    intro k n σ K hx r hk hn
    obtain ⟨n, rfl⟩ : ∃ m', n = m' + 1 := ⟨n - 1, by omega⟩
    obtain ⟨rfl, qx⟩ := hx.resolve_left (by omega)
    obtain ⟨σ1, e1, r1, F1⟩ := k_cond K hL r (y (2 * k + 1) + 2 * y (2 * k)) (-(y (2 * k))) (k := 1) (by decide)
    rw [f_X11_through_c181, nI_1, if_neg (nI_ge (by omega) (by omega)), l_val qx.l3 qx.z20 qx.s (show 2 * k < z by omega), zbd_s, l_val qx.l3 qx.z20 qx.s (show 2 * k + 1 < z by omega), zbd_s, qx.v _ (by omega), qx.v _ (by omega), show (1 : Int32) = nI 1 from rfl, e1, zbd_s, show nI (2 * k) + 2 = nI (2 * (k + 1)) from by rw [show (2 : Int32) = nI 2 from rfl, nI_add]; rfl]
    obtain ⟨σ2, e2, F2⟩ := ih (k + 1) n σ1 (K.sc F1) (Or.inr ⟨rfl, qx.fr F1⟩) r1 (by omega) (by omega)
    exact ⟨σ2, e2, F1.trans F2⟩
theorem km_thr (S : Sh) (C : Cl) (hL : 2 ≤ S.L) {x3 : Int32} {l z : Nat} {y v : Nat → Int64} (hz : 2 * (z / 2) = z) (hz20 : z ≤ 20) : ∀ j k n τ, KM S C τ → (z = 0 ∨ (x3 = nI l ∧ LsM l z y τ)) → Rw S τ 13 (rr S v y k) → k + j = z / 2 → j < n →
    ∃ τ1, f_X12_through_c188 n x3 (nI z) (nI (2 * k)) τ = some (mt S (rr S v y (z / 2)), τ1) ∧ FM MJ MA MB τ τ1 := by
  intro j
  induction j with
  | zero =>
    intro k n τ L hx r hk hn
    obtain ⟨n, rfl⟩ : ∃ m', n = m' + 1 := ⟨n - 1, by omega⟩
    have : k = z / 2 := by omega
    subst this
    exact ⟨τ, by rw [f_X12_through_c188, if_pos (nI_le (by omega) (by omega)), pm_met L.ok L.tm rfl r, zbd_s], FM.refl τ⟩
  | succ j ih =>
    intro k n τ L hx r hk hn
    obtain ⟨n, rfl⟩ : ∃ m', n = m' + 1 := ⟨n - 1, by omega⟩
    obtain ⟨rfl, qx⟩ := hx.resolve_left (by omega)
    have h3 := qx.l3
    obtain ⟨τ1, e1, r1, G1⟩ := km_conic L hL r (y (2 * k + 1) + 2 * y (2 * k)) (-(y (2 * k)))
    rw [f_X12_through_c188, if_neg (nI_ge (by omega) (by omega)), i60, nI_1, if_pos (zin_nI (show 20 * l + 2 * k < 60 by omega) (by decide)), if_pos (zin_nI (show 20 * l + 2 * k + 1 < 60 by omega) (by decide)), nI_clamp (by omega), nI_clamp (by omega), qx.v _ (by omega), show 20 * l + 2 * k + 1 = 20 * l + (2 * k + 1) by omega, qx.v _ (by omega), e1, zbd_s, show nI (2 * k) + 2 = nI (2 * (k + 1)) from by rw [show (2 : Int32) = nI 2 from rfl, nI_add]; rfl]
    obtain ⟨τ2, e2, G2⟩ := ih (k + 1) n τ1 (L.sc G1) (Or.inr ⟨rfl, qx.fm G1⟩) r1 (by omega) (by omega)
    exact ⟨τ2, e2, G1.trans G2⟩
theorem km_163 (S : Sh) (C : Cl) (hL : 2 ≤ S.L) {x3 x4 : Int32} {k : Nat} (hk : k < 1000) {v : Nat → Int64} : ∀ j i n τ, KM S C τ → Rw S τ 13 (pw S v (con S 2 (-1)) i) → i + j = k → j < n →
    ∃ τ1, f_X12_through_c163 n (nI k) x3 x4 (nI i) τ = f_X12_through_c188 ZF x3 x4 0 τ1 ∧ Rw S τ1 13 (pw S v (con S 2 (-1)) k) ∧ FM MJ MA MB τ τ1 := by
  intro j
  induction j with
  | zero =>
    intro i n τ L r hi hn
    obtain ⟨n, rfl⟩ : ∃ m', n = m' + 1 := ⟨n - 1, by omega⟩
    have : i = k := by omega
    subst this
    exact ⟨τ, by rw [f_X12_through_c163, if_pos (nI_le (by omega) (by omega))], r, FM.refl τ⟩
  | succ j ih =>
    intro i n τ L r hi hn
    obtain ⟨n, rfl⟩ : ∃ m', n = m' + 1 := ⟨n - 1, by omega⟩
    obtain ⟨τ1, e1, r1, G1⟩ := km_conic L hL r 2 (-1)
    rw [f_X12_through_c163, if_neg (nI_ge (by omega) (by omega)), e1, zbd_s, nI_1]
    obtain ⟨τ2, e2, r2, G2⟩ := ih (i + 1) n τ1 (L.sc G1) r1 (by omega) (by omega)
    exact ⟨τ2, e2, r2, G1.trans G2⟩
theorem km_142 (S : Sh) (C : Cl) (hL : 2 ≤ S.L) {x2 x3 x4 : Int32} {k : Nat} (hk : k < 1000) {v : Nat → Int64} : ∀ j i n τ, KM S C τ → Rw S τ 13 (pw S v (con S 1 0) i) → i + j = k → j < n →
    ∃ τ1, f_X12_through_c142 n (nI k) x2 x3 x4 (nI i) τ = f_X12_through_c163 ZF x2 x3 x4 0 τ1 ∧ Rw S τ1 13 (pw S v (con S 1 0) k) ∧ FM MJ MA MB τ τ1 := by
  intro j
  induction j with
  | zero =>
    intro i n τ L r hi hn
    obtain ⟨n, rfl⟩ : ∃ m', n = m' + 1 := ⟨n - 1, by omega⟩
    have : i = k := by omega
    subst this
    exact ⟨τ, by rw [f_X12_through_c142, if_pos (nI_le (by omega) (by omega))], r, FM.refl τ⟩
  | succ j ih =>
    intro i n τ L r hi hn
    obtain ⟨n, rfl⟩ : ∃ m', n = m' + 1 := ⟨n - 1, by omega⟩
    obtain ⟨τ1, e1, r1, G1⟩ := km_conic L hL r 1 0
    rw [f_X12_through_c142, if_neg (nI_ge (by omega) (by omega)), e1, zbd_s, nI_1]
    obtain ⟨τ2, e2, r2, G2⟩ := ih (i + 1) n τ1 (L.sc G1) r1 (by omega) (by omega)
    exact ⟨τ2, e2, r2, G1.trans G2⟩
/-- both sides, from the list's check on -/
theorem thr_c (h : Inv S C σ τ) (hL : 2 ≤ S.L) {x3 : Int32} {l z a b : Nat} {y : Nat → Int64} (hz : 2 * (z / 2) = z) (hz20 : z ≤ 20) (ha : a ≤ 5) (hb : b ≤ 5) (hx : z = 0 ∨ (x3 = nI l ∧ LsC l z y σ)) (hx' : z = 0 ∨ (x3 = nI l ∧ LsM l z y τ)) : ∀ j i n n', i + j = z → j < n → j < n' →
    ∃ r σ1 τ1, f_X11_through_c101 n (nI a) (nI b) x3 (nI z) (nI i) σ = some (r, σ1) ∧ f_X12_through_c92 n' (nI a) (nI b) x3 (nI z) (nI i) τ = some (r, τ1) ∧ I0 σ1 τ1 := by
  have K := h.kc
  have L := h.km
  intro j
  induction j with
  | zero =>
    intro i n n' hi hn hn'
    obtain ⟨n, rfl⟩ : ∃ m', n = m' + 1 := ⟨n - 1, by omega⟩
    obtain ⟨n', rfl⟩ : ∃ m', n' = m' + 1 := ⟨n' - 1, by omega⟩
    obtain ⟨σ1, e1, r1, F1⟩ := k_one K (k := 21) (by decide)
    have F1 : FR XA XB σ σ1 := F1.mono (by decide) (by decide)
    have K1 := K.sc F1
    obtain ⟨σ2, e2, r2, F2⟩ := k_cond K1 hL r1 1 0 (k := a) (by omega)
    have K2 := K1.sc F2
    obtain ⟨σ3, e3, r3, F3⟩ := k_cond K2 hL r2 2 (-1) (k := b) (by omega)
    have FF := (F1.trans F2).trans F3
    obtain ⟨σ4, e4, F4⟩ := k_thr S C hL (y := y) (v := pw S (pw S (one S) (con S 1 0) a) (con S 2 (-1)) b) hz hz20 (z / 2) 0 ZF σ3 (K.sc FF) (hx.imp_right fun q => ⟨q.1, q.2.fr FF⟩) r3 (by omega) (by unfold ZF; omega)
    obtain ⟨τ1, f1, t1, G1⟩ := km_one L (k := 13) rfl (by decide)
    have G1 : FM MJ MA MB τ τ1 := G1.mono (by decide) (by decide) (by decide)
    have L1 := L.sc G1
    obtain ⟨τ2, f2, t2, G2⟩ := km_142 S C hL (x2 := nI b) (x3 := x3) (x4 := nI z) (k := a) (by omega) (v := one S) a 0 ZF τ1 L1 t1 (by omega) (by unfold ZF; omega)
    have L2 := L1.sc G2
    obtain ⟨τ3, f3, t3, G3⟩ := km_163 S C hL (x3 := x3) (x4 := nI z) (k := b) (by omega) b 0 ZF τ2 L2 t2 (by omega) (by unfold ZF; omega)
    have GG := (G1.trans G2).trans G3
    obtain ⟨τ4, f4, G4⟩ := km_thr S C hL (y := y) (v := pw S (pw S (one S) (con S 1 0) a) (con S 2 (-1)) b) hz hz20 (z / 2) 0 ZF τ3 (L.sc GG) (hx'.imp_right fun q => ⟨q.1, q.2.fm GG⟩) t3 (by omega) (by unfold ZF; omega)
    rw [nI_0] at f2 f3
    rw [show 2 * 0 = 0 from rfl, nI_0] at e4 f4
    rw [f_X11_through_c101, if_pos (nI_le (by omega) (by omega)), e1, zbd_s, e2, zbd_s, e3, zbd_s, e4, f_X12_through_c92, if_pos (nI_le (by omega) (by omega)), f1, zbd_s, f2, f3, f4]
    exact ⟨_, _, _, rfl, rfl, h.fin (FF.trans F4) (GG.trans G4)⟩
  | succ j ih =>
    intro i n n' hi hn hn'
    obtain ⟨n, rfl⟩ : ∃ m', n = m' + 1 := ⟨n - 1, by omega⟩
    obtain ⟨n', rfl⟩ : ∃ m', n' = m' + 1 := ⟨n' - 1, by omega⟩
    obtain ⟨e3, qx⟩ := hx.resolve_left (by omega)
    obtain ⟨-, qx'⟩ := hx'.resolve_left (by omega)
    have h3 := qx.l3
    rw [f_X11_through_c101, if_neg (nI_ge (by omega) (by omega)), e3, l_val h3 hz20 qx.s (show i < z by omega), zbd_s, qx.v i (by omega), f_X12_through_c92, if_neg (nI_ge (by omega) (by omega)), i60, if_pos (zin_nI (show 20 * l + i < 60 by omega) (by decide)), nI_clamp (by omega), qx'.v i (by omega), pm_in, zbd_s, show (0 : Int64).toInt = 0 from rfl, show (99 : Int64).toInt = 99 from rfl, nI_1, ← e3]
    by_cases q1 : (y i) < 0
    · rw [if_pos ((lg_cmp_lt _ _).mpr q1), if_neg (fun w : 0 ≤ (y i).toInt ∧ (y i).toInt ≤ 99 => by rw [Int64.lt_iff_toInt_lt] at q1; have := w.1; have e0 : (0 : Int64).toInt = 0 := rfl; omega)]
      exact ex0 h.i0 _ rfl (if_pos rfl)
    rw [if_neg (fun w => q1 ((lg_cmp_lt _ _).mp w))]
    by_cases q2 : (y i) ≤ 99
    · rw [if_pos ((lg_cmp_le _ _).mpr q2), if_pos (show 0 ≤ (y i).toInt ∧ (y i).toInt ≤ 99 from by
        rw [Int64.lt_iff_toInt_lt] at q1
        rw [Int64.le_iff_toInt_le] at q2
        have e0 : (0 : Int64).toInt = 0 := rfl
        have e1 : (99 : Int64).toInt = 99 := rfl
        omega), if_neg n10]
      exact ih (i + 1) n n' (by omega) (by omega) (by omega)
    · rw [if_neg (fun w => q2 ((lg_cmp_le _ _).mp w)), if_neg (fun w : 0 ≤ (y i).toInt ∧ (y i).toInt ≤ 99 => q2 (by
        rw [Int64.le_iff_toInt_le]
        have e1 : (99 : Int64).toInt = 99 := rfl
        omega))]
      exact ex0 h.i0 _ rfl (if_pos rfl)
theorem thr_56 (h : Inv S C σ τ) {x3 : Int32} {l z a b : Nat} {y : Nat → Int64} (hz20 : z ≤ 20) (ha : a ≤ 5) (hb : b ≤ 5) (hx : z = 0 ∨ (x3 = nI l ∧ LsC l z y σ)) (hx' : z = 0 ∨ (x3 = nI l ∧ LsM l z y τ)) :
    ∃ r σ1 τ1, f_X11_through_c59 (nI a) (nI b) x3 (nI z) σ = some (r, σ1) ∧ f_X12_through_c56 (nI a) (nI b) x3 (nI z) τ = some (r, τ1) ∧ I0 σ1 τ1 := by
  have K := h.kc
  have L := h.km
  have hso := K.ok.so
  rw [f_X11_through_c59, f_X12_through_c56, K.sh.so, L.sh.so, show (2 : Int32) = nI 2 from rfl, pk_rem (by omega) (by decide) (by decide), pk_div (by omega) (by decide) (by decide)]
  by_cases q : S.so = 2
  rotate_left
  · have : ¬ nI S.so = nI 2 := fun w => q ((nI_eq (by omega) (by decide)).mp w)
    rw [if_neg this, if_neg this]
    exact ex0 h.i0 _ rfl rfl
  have q' : nI S.so = nI 2 := by rw [q]
  rw [if_pos q', if_pos q']
  by_cases w : nI (z % 2) = 0
  rotate_left
  · rw [if_neg w, if_neg w]
    exact ex0 h.i0 _ rfl rfl
  rw [if_pos w, if_pos w]
  by_cases v : nI a + nI b + nI (z / 2) = 5
  rotate_left
  · rw [if_neg v, if_neg v]
    exact ex0 h.i0 _ rfl rfl
  rw [if_pos v, if_pos v]
  have hz : 2 * (z / 2) = z := by have := (nI_eq (b := 0) (by omega) (by decide)).mp w; omega
  have hL : 2 ≤ S.L := by
    have := K.ok.f1
    unfold Sh.L
    rw [if_pos q]
    omega
  have := thr_c h hL hz hz20 ha hb hx hx' z 0 ZF ZF (by omega) (by unfold ZF; omega) (by unfold ZF; omega)
  rw [nI_0] at this
  exact this
theorem s_through (x w v : Int32) (h : I0 σ τ) : ∃ r σ1 τ1, f_X11_through x w v σ = some (r, σ1) ∧ f_X12_through x w v τ = some (r, τ1) ∧ I0 σ1 τ1 := by
  obtain ⟨S, C, h⟩ := h
  rw [f_X11_through, f_X12_through, pm_in32 x 0 5 0 5 rfl rfl, zbd_s, pm_in32 w 0 5 0 5 rfl rfl, zbd_s]
  rcases nI_cases x with q | ⟨a, ha, rfl⟩
  · rw [if_pos q, if_neg (fun v : 0 ≤ x ∧ x ≤ 5 => absurd q (Int32.not_lt.mpr v.1))]
    exact ex0 h.i0 _ rfl (if_pos rfl)
  rw [if_neg (nI_pos ha)]
  by_cases q1 : 5 < a
  · rw [if_pos (show (5 : Int32) < nI a from nI_lt (a := 5) q1 ha), if_neg (fun v : 0 ≤ nI a ∧ nI a ≤ 5 => absurd ((nI_leI ha (b := 5) (by decide)).mp v.2) (by omega))]
    exact ex0 h.i0 _ rfl (if_pos rfl)
  rw [if_neg (show ¬ (5 : Int32) < nI a from nI_nlt (b := a) (a := 5) (by omega) (by decide)), if_pos (show 0 ≤ nI a ∧ nI a ≤ 5 from ⟨nI_pos' ha, nI_le (b := 5) (by omega) (by decide)⟩), if_neg n10]
  rcases nI_cases w with q | ⟨b, hb, rfl⟩
  · rw [if_pos q, if_neg (fun v : 0 ≤ w ∧ w ≤ 5 => absurd q (Int32.not_lt.mpr v.1))]
    exact ex0 h.i0 _ rfl (if_pos rfl)
  rw [if_neg (nI_pos hb)]
  by_cases q2 : b ≤ 5
  rotate_left
  · rw [if_neg (fun v : nI b ≤ 5 => q2 ((nI_leI hb (b := 5) (by decide)).mp v)), if_neg (fun v : 0 ≤ nI b ∧ nI b ≤ 5 => q2 ((nI_leI hb (b := 5) (by decide)).mp v.2))]
    exact ex0 h.i0 _ rfl (if_pos rfl)
  rw [if_pos (show nI b ≤ 5 from nI_le (b := 5) q2 (by decide)), if_pos (show 0 ≤ nI b ∧ nI b ≤ 5 from ⟨nI_pos' hb, nI_le (b := 5) q2 (by decide)⟩), if_neg n10]
  by_cases q3 : v = -1
  · rw [if_pos q3, if_pos q3, f_X11_through_c42, if_pos q3, f_X12_through_c41, if_pos q3]
    exact thr_56 h (x3 := v) (l := 0) (z := 0) (y := fun _ => 0) (by decide) (by omega) q2 (Or.inl rfl) (Or.inl rfl)
  rw [if_neg q3, if_neg q3]
  rcases lis_cases v with q | ⟨l, hl, rfl⟩
  · rw [l_thereN q, lm_thereN q, zbd_s, zbd_s]
    exact ex0 h.i0 _ (if_pos rfl) (if_pos rfl)
  obtain ⟨z, D⟩ := h.lis l hl
  have hz := D.zl
  rw [l_thereS hl, lm_thereS hl, zbd_s, zbd_s]
  by_cases q : σ.1 27 l = -1
  · rw [if_pos q, if_pos (D.neg.mp q)]
    exact ex0 h.i0 _ (if_pos rfl) (if_pos rfl)
  rw [if_neg q, if_neg (fun w => q (D.neg.mpr w)), if_neg n10, if_neg n10, f_X11_through_c42, if_neg q3, f_X12_through_c41, if_neg q3, l_size hl D.zC, zbd_s, if_pos (zin_nI hl (by decide)), nI_clamp (by omega), D.zM]
  exact thr_56 h (l := l) (y := σ.2 (77 + l)) hz (by omega) q2 (Or.inr ⟨rfl, hl, hz, D.zC, fun _ _ => rfl⟩) (Or.inr ⟨rfl, hl, hz, D.zM, fun i hi => D.n i (by omega)⟩)
end
