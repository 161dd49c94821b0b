section
variable {S : Sh} {C : Cl} {σ σ1 τ τ1 : SS}
/-! ===== an ACT is done ===== -/
def vr (S : Sh) (C : Cl) (w p q : Nat) : Nat → Int64 := if w = 3 then pw S (one S) (num S C p) q else if w = 4 then kp S (nI q) (num S C p) else if w = 1 then mul S (num S C p) (num S C q) else if w = 0 then (fun t => num S C p t + num S C q t * 1) else fun t => num S C p t + num S C q t * -1
theorem km_keep13 (L : KM S C τ) {v : Nat → Int64} (r : Rw S τ 13 v) (x : Int32) : ∃ τ1, f_X12_workOut_c67 ZF x 0 τ = some ((), τ1) ∧ Rw S τ1 13 (kp S x v) ∧ FM [] [] [13] τ τ1 := by
  have hM := L.M
  have key : ∀ j i n f, i + j = S.M → j < n → (∀ t, t < S.M → f t = if t < i then kp S x v t else v t) → ∃ f', f_X12_workOut_c67 n x (nI i) (zL τ 13 f) = some ((), zL τ 13 f') ∧ ∀ t, t < S.M → f' t = kp S x v t := by
    intro j
    induction j with
    | zero =>
      intro i n f hi hn hf
      obtain ⟨n, rfl⟩ : ∃ m', n = m' + 1 := ⟨n - 1, by omega⟩
      have : i = S.M := by omega
      subst this
      exact ⟨f, by rw [f_X12_workOut_c67, zL_1, L.tm.M, if_pos (nI_le (by omega) (by omega))], fun t ht => by rw [hf t ht, if_pos ht]⟩
    | succ j ih =>
      intro i n f hi hn hf
      obtain ⟨n, rfl⟩ : ∃ m', n = m' + 1 := ⟨n - 1, by omega⟩
      have z1 := zin_nI (show i < 462 by omega) (show 462 ≤ 2 ^ 31 by decide)
      have fin : ∀ y, y = kp S x v i → ∃ f', f_X12_workOut_c67 n x (nI i + 1) (zSL (zL τ 13 f) 13 i y) = some ((), zL τ 13 f') ∧ ∀ t, t < S.M → f' t = kp S x v t := by
        intro y hy
        rw [nI_1, zSL_eq, zL_zL, zL_same]
        refine ih (i + 1) n _ (by omega) (by omega) (fun t ht => ?_)
        by_cases q : t = i
        · rw [q, pk_uLs, if_pos (by omega), hy]
        · rw [pk_uLn q, hf t ht]
          by_cases w : t < i
          · rw [if_pos w, if_pos (by omega)]
          · rw [if_neg w, if_neg (by omega)]
      rw [f_X12_workOut_c67, zL_1, L.tm.M, if_neg (nI_ge (by omega) (by omega)), if_pos z1, nI_clamp (by omega), L.tm.size i (by omega)]
      simp only [f_X12_workOut_c104, z1, if_true, nI_clamp (show i < 2 ^ 31 by omega)]
      by_cases q : nI (sz (S.c i)) = x
      · rw [if_pos q]
        exact fin _ (by rw [zL_same, hf i (by omega), if_neg (by omega), kp, if_pos q])
      · rw [if_neg q]
        exact fin _ (by rw [kp, if_neg q])
  obtain ⟨f, e, hf⟩ := key S.M 0 ZF (τ.2 13) (by omega) (by unfold ZF; omega) (fun t ht => by rw [if_neg (by omega)]; exact r t ht)
  rw [nI_0, zL_self] at e
  exact ⟨_, e, fun t ht => by rw [zL_same]; exact hf t ht, fmL τ 13 f⟩
theorem km_sum13 (L : KM S C τ) {v u : Nat → Int64} (r : Rw S τ 13 v) (r2 : Rw S τ 14 u) (x : Int32) : ∃ τ1, f_X12_workOut_c142 ZF x 0 τ = some ((), τ1) ∧ Rw S τ1 13 (fun t => v t + u t * (if x = 0 then 1 else -1)) ∧ FM [] [] [13] τ τ1 := by
  have hM := L.M
  have key : ∀ j i n f, i + j = S.M → j < n → (∀ t, t < S.M → f t = if t < i then v t + u t * (if x = 0 then 1 else -1) else v t) → ∃ f', f_X12_workOut_c142 n x (nI i) (zL τ 13 f) = some ((), zL τ 13 f') ∧ ∀ t, t < S.M → f' t = v t + u t * (if x = 0 then 1 else -1) := by
    intro j
    induction j with
    | zero =>
      intro i n f hi hn hf
      obtain ⟨n, rfl⟩ : ∃ m', n = m' + 1 := ⟨n - 1, by omega⟩
      have : i = S.M := by omega
      subst this
      exact ⟨f, by rw [f_X12_workOut_c142, zL_1, L.tm.M, if_pos (nI_le (by omega) (by omega))], fun t ht => by rw [hf t ht, if_pos ht]⟩
    | succ j ih =>
      intro i n f hi hn hf
      obtain ⟨n, rfl⟩ : ∃ m', n = m' + 1 := ⟨n - 1, by omega⟩
      have z1 := zin_nI (show i < 462 by omega) (show 462 ≤ 2 ^ 31 by decide)
      have fin : ∀ y, y = v i + u i * (if x = 0 then 1 else -1) → ∃ f', f_X12_workOut_c142 n x (nI i + 1) (zSL (zL τ 13 f) 13 i y) = some ((), zL τ 13 f') ∧ ∀ t, t < S.M → f' t = v t + u t * (if x = 0 then 1 else -1) := by
        intro y hy
        rw [nI_1, zSL_eq, zL_zL, zL_same]
        refine ih (i + 1) n _ (by omega) (by omega) (fun t ht => ?_)
        by_cases q : t = i
        · rw [q, pk_uLs, if_pos (show i < i + 1 by omega), hy]
        · rw [pk_uLn q, hf t ht]
          by_cases w : t < i
          · rw [if_pos w, if_pos (show t < i + 1 by omega)]
          · rw [if_neg w, if_neg (show ¬ t < i + 1 by omega)]
      rw [f_X12_workOut_c142, zL_1, L.tm.M, if_neg (nI_ge (by omega) (by omega)), if_pos z1]
      simp only [f_X12_workOut_c181, z1, if_true, nI_clamp (show i < 2 ^ 31 by omega)]
      rw [zL_same, zL_ne' _ _ (show (14 : Nat) ≠ 13 by decide), r2 i (by omega), hf i (by omega), if_neg (show ¬ i < i by omega)]
      by_cases q : x = 0
      · rw [if_pos q]
        exact fin _ (by rw [if_pos q, Int64.mul_one])
      · rw [if_neg q]
        exact fin _ (by rw [if_neg q, Int64.mul_neg, Int64.mul_one])
  obtain ⟨f, e, hf⟩ := key S.M 0 ZF (τ.2 13) (by omega) (by unfold ZF; omega) (fun t ht => by rw [if_neg (by omega)]; exact r t ht)
  rw [nI_0, zL_self] at e
  exact ⟨_, e, fun t ht => by rw [zL_same]; exact hf t ht, fmL τ 13 f⟩
theorem cidx_nI {mm q : Nat} (hq : q < 2 ^ 31) : cidx mm (nI q).toInt64 = if q < mm then some q else none := by
  unfold cidx
  rw [nI64 hq]
  by_cases h : q < mm
  · rw [if_pos (by omega), if_pos h]; rfl
  · rw [if_neg (by omega), if_neg h]
theorem k_doOne (K : KC S C σ) {w p q : Nat} (hw5 : w < 5) (hp : p < C.mm) (hq : q < 1000) (hqm : w ≠ 3 → w ≠ 4 → q < C.mm) : ∃ σ1, f_X11_doOne (nI w) (30 + p) (nI q) σ = zbd (f_X11_bringAll σ1) (fun _ s10 => some ((), s10)) ∧ Rw S σ1 21 (vr S C w p q) ∧ FR SA SB σ σ1 := by
  have h8 := K.okC.m8
  have zp := (ZOx_k (show p < 16 by omega)).1
  obtain ⟨σ1, e1, r1, F1⟩ := k_take K hp (k := 21) (by decide)
  have F1 : FR SA SB σ σ1 := F1.mono (by decide) (by decide)
  have K1 := K.sc (F1.mono (by decide) (by decide))
  have c3 : ∃ σ2, zbd (f_X8_makePower (30 + p) (nI q) σ1) (fun _ s16 => f_X11_doOne_c141 s16) = zbd (f_X11_bringAll σ2) (fun _ s10 => some ((), s10)) ∧ Rw S σ2 21 (pw S (one S) (num S C p) q) ∧ FR SA SB σ σ2 := by
    obtain ⟨σ2, e2, r2, F2⟩ := p_pow K1.ok K1.okC K1.tm K1.cl (k := q) hp hq
    exact ⟨σ2, by rw [e2, zbd_s, f_X11_doOne_c141], r2, F1.trans (F2.mono (by decide) (by decide))⟩
  have c4 : ∃ σ2, zbd (f_X8_keepSize 21 (nI q) σ1) (fun _ s13 => f_X11_doOne_c141 s13) = zbd (f_X11_bringAll σ2) (fun _ s10 => some ((), s10)) ∧ Rw S σ2 21 (kp S (nI q) (num S C p)) ∧ FR SA SB σ σ2 := by
    obtain ⟨σ2, e2, r2, F2⟩ := k_keep K1 (k := 21) (by decide) r1 (nI q)
    exact ⟨σ2, by rw [e2, zbd_s, f_X11_doOne_c141], r2, F1.trans (F2.mono (by decide) (by decide))⟩
  rw [f_X11_doOne, if_pos zp, K.clA, cidx_nI (by omega), zbd_s]
  by_cases qm : q < C.mm
  rotate_left
  · have hw34 : w = 3 ∨ w = 4 := by
      by_cases h3 : w = 3
      · exact Or.inl h3
      · by_cases h4 : w = 4
        · exact Or.inr h4
        · exact absurd (hqm h3 h4) qm
    rw [if_neg qm, Option.map_none, zbn_n, e1, zbd_s]
    unfold vr
    rcases hw34 with rfl | rfl
    · rw [if_pos (show nI 3 = 3 from rfl), if_pos rfl]; exact c3
    · rw [if_neg (show ¬ nI 4 = 3 by decide), if_pos (show nI 4 = 4 from rfl), if_neg (by decide), if_pos rfl]; exact c4
  have zq := (ZOx_k (show q < 16 by omega)).1
  rw [if_pos qm, Option.map_some, zbn_s, if_pos zq, e1, zbd_s]
  unfold vr
  have hw' : w = 0 ∨ w = 1 ∨ w = 2 ∨ w = 3 ∨ w = 4 := by omega
  have sums : ∀ x : Int64, ∃ σ2, zbd (f_X8_takeNumbers (30 + q) 22 σ1) (fun _ s22 => f_X11_doOne_c138 x s22) = zbd (f_X11_bringAll σ2) (fun _ s10 => some ((), s10)) ∧ Rw S σ2 21 (fun t => num S C p t + num S C q t * x) ∧ FR SA SB σ σ2 := by
    intro x
    obtain ⟨σ2, e2, r2, F2⟩ := k_take K1 qm (k := 22) (by decide)
    have r1' := r1.fr F2 (by decide)
    have F2 : FR SA SB σ1 σ2 := F2.mono (by decide) (by decide)
    obtain ⟨σ3, e3, r3, F3⟩ := k_addT (K1.sc (F2.mono (by decide) (by decide))) (k1 := 21) (k2 := 22) (by decide) (by decide) (by decide) r1' r2 x
    exact ⟨σ3, by rw [e2, zbd_s, f_X11_doOne_c138, e3, zbd_s, f_X11_doOne_c141], r3, (F1.trans F2).trans (F3.mono (by decide) (by decide))⟩
  rcases hw' with rfl | rfl | rfl | rfl | rfl
  · rw [if_neg (show ¬ nI 0 = 3 by decide), if_neg (show ¬ nI 0 = 4 by decide), if_neg (show ¬ nI 0 = 1 by decide), f_X11_doOne_c88v1, if_pos zq, if_neg (by decide), if_neg (by decide), if_neg (by decide), if_pos rfl]
    exact sums 1
  · obtain ⟨σ2, e2, r2, F2⟩ := p_mulBy K1.ok K1.okC K1.tm K1.cl qm r1
    rw [if_neg (show ¬ nI 1 = 3 by decide), if_neg (show ¬ nI 1 = 4 by decide), if_pos (show nI 1 = 1 from rfl), if_neg (by decide), if_neg (by decide), if_pos rfl]
    exact ⟨σ2, by rw [e2, zbd_s, f_X11_doOne_c141], r2, F1.trans (F2.mono (by decide) (by decide))⟩
  · rw [if_neg (show ¬ nI 2 = 3 by decide), if_neg (show ¬ nI 2 = 4 by decide), if_neg (show ¬ nI 2 = 1 by decide), f_X11_doOne_c88v1, if_pos zq, if_neg (by decide), if_neg (by decide), if_neg (by decide), if_neg (by decide)]
    exact sums (-1)
  · rw [if_pos (show nI 3 = 3 from rfl), if_pos rfl]; exact c3
  · rw [if_neg (show ¬ nI 4 = 3 by decide), if_pos (show nI 4 = 4 from rfl), if_neg (by decide), if_pos rfl]; exact c4
theorem km_workOut (L : KM S C τ) {w p q : Nat} (hw5 : w < 5) (hp : p < C.mm) (hq : q < 1000) (hqm : w ≠ 3 → w ≠ 4 → q < C.mm) : ∃ τ1, f_X12_workOut (nI w) (nI p) (nI q) τ = some ((), τ1) ∧ Rw S τ1 13 (vr S C w p q) ∧ FM [] [] [13, 14, 33] τ τ1 := by
  have h8 := L.okC.m8
  rw [f_X12_workOut]
  unfold vr
  have hw' : w = 3 ∨ w = 4 ∨ w = 0 ∨ w = 1 ∨ w = 2 := by omega
  rcases hw' with rfl | hw'
  · rw [if_pos (show nI 3 = 3 from rfl), if_pos rfl]
    obtain ⟨τ1, e1, r1, G1⟩ := km_one L (k := 13) rfl (by decide)
    have G1 : FM [] [] [13, 14, 33] τ τ1 := G1.mono (by decide) (by decide) (by decide)
    have L1 := L.sc (G1.mono (by decide) (by decide) (by decide))
    obtain ⟨τ2, e2, r2, G2⟩ := km_take L1 hp (k := 14) rfl (by decide) (by decide)
    have r1' := r1.fm G2 (by decide)
    have G2 : FM [] [] [13, 14, 33] τ1 τ2 := G2.mono (by decide) (by decide) (by decide)
    have key : ∀ j i n τ, KM S C τ → Rw S τ 13 (pw S (one S) (num S C p) i) → Rw S τ 14 (num S C p) → i + j = q → j < n → ∃ τ1, f_X12_workOut_c25 n (nI q) (nI i) τ = some ((), τ1) ∧ Rw S τ1 13 (pw S (one S) (num S C p) q) ∧ FM [] [] [13, 14, 33] τ τ1 := by
      intro j
      induction j with
      | zero =>
        intro i n τ L r1 r2 hi hn
        obtain ⟨n, rfl⟩ : ∃ m', n = m' + 1 := ⟨n - 1, by omega⟩
        have : i = q := by omega
        subst this
        exact ⟨τ, by rw [f_X12_workOut_c25, if_pos (nI_le (by omega) (by omega))], r1, FM.refl τ⟩
      | succ j ih =>
        intro i n τ L r1 r2 hi hn
        obtain ⟨n, rfl⟩ : ∃ m', n = m' + 1 := ⟨n - 1, by omega⟩
        obtain ⟨τ1, e1, r3, G1⟩ := km_mul L (k1 := 13) (k2 := 14) rfl rfl (by decide) (by decide) r1 r2
        have r4 := r2.fm G1 (by decide)
        have G1 : FM [] [] [13, 14, 33] τ τ1 := G1.mono (by decide) (by decide) (by decide)
        rw [f_X12_workOut_c25, if_neg (nI_ge (by omega) (by omega)), e1, zbd_s, nI_1]
        obtain ⟨τ2, e2, r5, G2⟩ := ih (i + 1) n τ1 (L.sc (G1.mono (by decide) (by decide) (by decide))) r3 r4 (by omega) (by omega)
        exact ⟨τ2, e2, r5, G1.trans G2⟩
    obtain ⟨τ3, e3, r3, G3⟩ := key q 0 ZF τ2 (L1.sc (G2.mono (by decide) (by decide) (by decide))) r1' r2 (by omega) (by unfold ZF; omega)
    rw [nI_0] at e3
    exact ⟨τ3, by rw [e1, zbd_s, e2, zbd_s, e3], r3, (G1.trans G2).trans G3⟩
  obtain ⟨τ1, e1, r1, G1⟩ := km_take L hp (k := 13) rfl (by decide) (by decide)
  have G1 : FM [] [] [13, 14, 33] τ τ1 := G1.mono (by decide) (by decide) (by decide)
  have L1 := L.sc (G1.mono (by decide) (by decide) (by decide))
  rcases hw' with rfl | hw'
  · obtain ⟨τ2, e2, r2, G2⟩ := km_keep13 L1 r1 (nI q)
    rw [if_neg (show ¬ nI 4 = 3 by decide), e1, zbd_s, if_pos (show nI 4 = 4 from rfl), if_neg (by decide), if_pos rfl]
    exact ⟨τ2, e2, r2, G1.trans (G2.mono (by decide) (by decide) (by decide))⟩
  have hqm' : q < C.mm := hqm (by omega) (by omega)
  obtain ⟨τ2, e2, r2, G2⟩ := km_take L1 hqm' (k := 14) rfl (by decide) (by decide)
  have r1' := r1.fm G2 (by decide)
  have G2 : FM [] [] [13, 14, 33] τ1 τ2 := G2.mono (by decide) (by decide) (by decide)
  have L2 := L1.sc (G2.mono (by decide) (by decide) (by decide))
  rcases hw' with rfl | rfl | rfl
  · obtain ⟨τ3, e3, r3, G3⟩ := km_sum13 L2 r1' r2 (nI 0)
    rw [if_pos (show nI 0 = 0 from rfl)] at r3
    rw [if_neg (show ¬ nI 0 = 3 by decide), e1, zbd_s, if_neg (show ¬ nI 0 = 4 by decide), e2, zbd_s, if_neg (show ¬ nI 0 = 1 by decide), e3, if_neg (by decide), if_neg (by decide), if_neg (by decide), if_pos rfl]
    exact ⟨τ3, rfl, r3, (G1.trans G2).trans (G3.mono (by decide) (by decide) (by decide))⟩
  · obtain ⟨τ3, e3, r3, G3⟩ := km_mul L2 (k1 := 13) (k2 := 14) rfl rfl (by decide) (by decide) r1' r2
    rw [if_neg (show ¬ nI 1 = 3 by decide), e1, zbd_s, if_neg (show ¬ nI 1 = 4 by decide), e2, zbd_s, if_pos (show nI 1 = 1 from rfl), e3, zbd_s, if_neg (by decide), if_neg (by decide), if_pos rfl]
    exact ⟨τ3, rfl, r3, (G1.trans G2).trans (G3.mono (by decide) (by decide) (by decide))⟩
  · obtain ⟨τ3, e3, r3, G3⟩ := km_sum13 L2 r1' r2 (nI 2)
    rw [if_neg (show ¬ nI 2 = 0 by decide)] at r3
    rw [if_neg (show ¬ nI 2 = 3 by decide), e1, zbd_s, if_neg (show ¬ nI 2 = 4 by decide), e2, zbd_s, if_neg (show ¬ nI 2 = 1 by decide), e3, if_neg (by decide), if_neg (by decide), if_neg (by decide), if_neg (by decide)]
    exact ⟨τ3, rfl, r3, (G1.trans G2).trans (G3.mono (by decide) (by decide) (by decide))⟩
end
