section
variable {S : Sh} {C C1 : Cl} {σ σ1 τ τ1 : SS}
def eE (S : Sh) (C : Cl) (y : Nat → Int64) (z : Nat) (x : Int32) : Int64 := mt S (mul S (prd S C y z) (kp S x (cq S C y z)))
theorem k_euler (K : KC S C σ) {y : Nat → Int64} {l z : Nat} (hl : l < 3) (hz : z ≤ 20) (h28 : σ.1 28 l = nI z) (hy : ∀ i, i < z → σ.2 (77 + l) i = y i) (ha : allc C y 0 z = true) (x : Int32) : ∃ σ1, f_X11_eulerOfCut (nI l) x σ = some (eE S C y z x, σ1) ∧ FR XA XB σ σ1 := by
  obtain ⟨σ1, F1, e1, r1⟩ := k_listed K (y := y) hl hz h28 hy
  have K1 := K.sc F1
  obtain ⟨σ2, e2, r2, F2⟩ := k_chern K1
  have r3 := (r1 ha).fr F2 (by decide)
  have F2 : FR XA XB σ1 σ2 := F2.mono (by decide) (by decide)
  have FF := F1.trans F2
  obtain ⟨σ3, e3, F3⟩ := k_cut S C (y := y) hl hz x (P := prd S C y z) (fun i hi => allc_all z 0 ha i (by omega) (by omega)) z 0 ZF σ2 (K.sc FF) (by rw [FF.1 28 (by decide)]; exact h28) (fun i hi => by rw [FF.2 _ (show 77 + l ∉ XB by simp; omega)]; exact hy i hi) r3 r2 (by omega) (by unfold ZF; omega)
  rw [nI_0] at e3
  exact ⟨σ3, by rw [f_X11_eulerOfCut, e1, if_pos ha, zbd_s, if_neg n10, e2, zbd_s, e3]; rfl, FF.trans F3⟩
theorem km_euler (L : KM S C τ) (h0 : S.so = 0) {y : Nat → Int64} {l z : Nat} (hl : l < 3) (hz : z ≤ 20) (h23 : τ.1 23 l = nI z) (hy : ∀ i, i < z → τ.2 24 (20 * l + i) = y i) (ha : allc C y 0 z = true) (x : Int32) : ∃ τ1, f_X12_eulerOf (nI l) x τ = some (eE S C y z x, τ1) ∧ FM MJ MA MB τ τ1 := by
  obtain ⟨τ1, e1, r1, G1⟩ := km_chern L h0
  have G1 : FM MJ MA MB τ τ1 := G1.mono (by decide) (by decide) (by decide)
  have L1 := L.sc G1
  obtain ⟨τ2, e2, r2, G2⟩ := km_cut S C (y := y) hl hz x (fun i hi => allc_all z 0 ha i (by omega) (by omega)) z 0 ZF τ1 L1 (by rw [G1.i 23 (by decide) (by decide)]; exact h23) (fun i hi => by rw [G1.l 24 (by decide)]; exact hy i hi) r1 (by omega) (by unfold ZF; omega)
  rw [nI_0] at e2
  have GG := G1.trans G2
  have L2 := L.sc GG
  obtain ⟨τ3, G3, e3, r3⟩ := km_listed L2 (y := y) hl hz (by rw [GG.i 23 (by decide) (by decide)]; exact h23) (fun i hi => by rw [GG.l 24 (by decide)]; exact hy i hi) ha
  have r4 := r2.fm G3 (by decide)
  have G3 : FM MJ MA MB τ2 τ3 := G3.mono (by decide) (by decide) (by decide)
  have L3 := L2.sc G3
  obtain ⟨τ4, e4, r5, G4⟩ := km_mul L3 (k1 := 13) (k2 := 15) rfl rfl (by decide) (by decide) r3 r4
  have G4 : FM MJ MA MB τ3 τ4 := G4.mono (by decide) (by decide) (by decide)
  exact ⟨τ4, by rw [f_X12_eulerOf, f_X12_layCut, e1, zbd_s, e2, zbd_s, e3, zbd_s, e4, zbd_s, pm_met L.ok (L3.sc G4).tm rfl r5, zbd_s]; rfl, (GG.trans G3).trans G4⟩
theorem pm_58t (L : KM S C τ) {y : Nat → Int64} {l z : Nat} (hl : l < 3) (hz : z ≤ 20) (h23 : τ.1 23 l = nI z) (hy : ∀ i, i < z → τ.2 24 (20 * l + i) = y i) (ha : ∀ i, i < z → (cidx C.mm (y i)).isSome = true) (x : Int32) : ∀ j i, i + j = z → allo S C y i j = true → ∀ n, f_X12_cutOut_c58 (n + j) (nI l) x (nI i) τ = f_X12_cutOut_c58 n (nI l) x (nI z) τ := by
  intro j
  induction j with
  | zero =>
    intro i hi _ n
    rw [show i = z by omega]; rfl
  | succ j ih =>
    intro i hi ho n
    obtain ⟨m, e⟩ := Option.isSome_iff_exists.mp (ha i (by omega))
    obtain ⟨hm, hy32⟩ := cidx_lt e
    have h8 := L.okC.m8
    have ec : cls C y i = m := by unfold cls; rw [e]; rfl
    rw [allo, Bool.and_eq_true, ec] at ho
    rw [← Nat.add_assoc, f_X12_cutOut_c58, if_pos (zin_nI hl (by decide)), nI_clamp (by omega), h23, if_neg (nI_ge (by omega) (by omega)), i60, if_pos (zin_nI (by omega) (by decide)), nI_clamp (by omega), hy i (by omega), y32 hy32 (by omega), pm_one1 L hm, zbd_s, if_pos ho.1, if_neg n10, nI_1]
    exact ih (i + 1) (by omega) ho.2 n
theorem pm_58f (L : KM S C τ) {y : Nat → Int64} {l z : Nat} (hl : l < 3) (hz : z ≤ 20) (h23 : τ.1 23 l = nI z) (hy : ∀ i, i < z → τ.2 24 (20 * l + i) = y i) (ha : ∀ i, i < z → (cidx C.mm (y i)).isSome = true) (x : Int32) : ∀ j i, i + j = z → ¬ allo S C y i j = true → ∀ n, j < n → f_X12_cutOut_c58 n (nI l) x (nI i) τ = some (-9223372036854775807, τ) := by
  intro j
  induction j with
  | zero =>
    intro i hi h n hn
    exact absurd rfl h
  | succ j ih =>
    intro i hi ho n hn
    obtain ⟨n, rfl⟩ : ∃ m', n = m' + 1 := ⟨n - 1, by omega⟩
    obtain ⟨m, e⟩ := Option.isSome_iff_exists.mp (ha i (by omega))
    obtain ⟨hm, hy32⟩ := cidx_lt e
    have h8 := L.okC.m8
    have ec : cls C y i = m := by unfold cls; rw [e]; rfl
    rw [allo, Bool.and_eq_true, ec] at ho
    rw [f_X12_cutOut_c58, if_pos (zin_nI hl (by decide)), nI_clamp (by omega), h23, if_neg (nI_ge (by omega) (by omega)), i60, if_pos (zin_nI (by omega) (by decide)), nI_clamp (by omega), hy i (by omega), y32 hy32 (by omega), pm_one1 L hm, zbd_s, nI_1]
    by_cases q : os1 S (num S C m) 0 S.M = true
    · rw [if_pos q, if_neg n10]
      exact ih (i + 1) (by omega) (fun w => ho ⟨q, w⟩) n (by omega)
    · rw [if_neg q, if_pos rfl]
theorem s_cutOut (x w : Int32) (h : I0 σ τ) : ∃ r σ1 τ1, f_X11_cutOut x w σ = some (r, σ1) ∧ f_X12_cutOut x w τ = some (r, τ1) ∧ I0 σ1 τ1 := by
  obtain ⟨S, C, h⟩ := h
  have K := h.kc
  have L := h.km
  have hn5 := K.ok.n5
  rw [f_X11_cutOut, f_X12_cutOut, pm_in32 w 0 3 0 3 rfl rfl, zbd_s]
  by_cases q1 : w < 0
  · rw [if_pos q1, if_neg (fun v : 0 ≤ w ∧ w ≤ 3 => absurd q1 (Int32.not_lt.mpr v.1))]
    exact ex0 h.i0 _ rfl (if_pos rfl)
  rw [if_neg q1]
  by_cases q2 : (3 : Int32) < w
  · rw [if_pos q2, if_neg (fun v : 0 ≤ w ∧ w ≤ 3 => absurd q2 (Int32.not_lt.mpr v.2))]
    exact ex0 h.i0 _ rfl (if_pos rfl)
  rw [if_neg q2, if_pos (show 0 ≤ w ∧ w ≤ 3 from ⟨Int32.not_lt.mp q1, Int32.not_lt.mp q2⟩), if_neg n10]
  rcases lis_cases x with q | ⟨l, hl, rfl⟩
  · rw [l_thereN q, lm_thereN q, zbd_s, zbd_s]
    exact ex0 h.i0 _ (if_pos rfl) (if_pos rfl)
  obtain ⟨z, D⟩ := h.lis l hl
  have hz := D.zl
  rw [l_thereS hl, lm_thereS hl, zbd_s, zbd_s]
  by_cases q : σ.1 27 l = -1
  · rw [if_pos q, if_pos (D.neg.mp q)]
    exact ex0 h.i0 _ (if_pos rfl) (if_pos rfl)
  rw [if_neg q, if_neg (fun w => q (D.neg.mpr w)), if_neg n10, if_neg n10, p_bare K, pm_bare L, zbd_s, zbd_s]
  by_cases qb : bare S
  rotate_left
  · rw [if_neg qb]
    exact ex0 h.i0 _ (if_pos rfl) (if_pos rfl)
  have hy : ∀ i, i < z → τ.2 24 (20 * l + i) = σ.2 (77 + l) i := fun i hi => D.n i (by omega)
  have ec := km_areC L (y := σ.2 (77 + l)) hl hz D.zM hy z 0 ZF (by omega) (by unfold ZF; omega)
  rw [nI_0] at ec
  rw [if_pos qb, if_neg n10, if_neg n10, k_canCut K (y := σ.2 (77 + l)) hl hz D.zC (fun _ _ => rfl), zbd_s, f_X12_areClasses, ec, zbd_s]
  generalize hY : σ.2 (77 + l) = y at *
  by_cases ha : allc C y 0 z = true
  rotate_left
  · rw [if_neg (fun v : z ≤ S.n ∧ (allc C y 0 z && allo S C y 0 z) = true => ha (by have := v.2; rw [Bool.and_eq_true] at this; exact this.1)), if_neg ha]
    exact ex0 h.i0 _ (if_pos rfl) (if_pos rfl)
  have ha' : ∀ i, i < z → (cidx C.mm (y i)).isSome = true := fun i hi => allc_all z 0 ha i (by omega) (by omega)
  rw [if_pos ha, if_neg n10, if_pos (zin_nI hl (by decide)), nI_clamp (by omega), D.zM, L.sh.n]
  by_cases hzn : z ≤ S.n
  rotate_left
  · rw [if_neg (fun v : z ≤ S.n ∧ (allc C y 0 z && allo S C y 0 z) = true => hzn v.1), if_neg (nI_ge (by omega) (by omega))]
    exact ex0 h.i0 _ (if_pos rfl) rfl
  rw [if_pos (nI_le hzn (by omega))]
  by_cases ho : allo S C y 0 z = true
  rotate_left
  · have e58 := pm_58f L hl hz D.zM hy ha' w z 0 (by omega) ho ZF (by unfold ZF; omega)
    rw [nI_0] at e58
    rw [if_neg (fun v : z ≤ S.n ∧ (allc C y 0 z && allo S C y 0 z) = true => ho (by have := v.2; rw [Bool.and_eq_true] at this; exact this.2)), e58]
    exact ex0 h.i0 _ (if_pos rfl) rfl
  have e58 := pm_58t L hl hz D.zM hy ha' w z 0 (by omega) ho (ZF - z - 1 + 1)
  rw [nI_0, show ZF - z - 1 + 1 + z = ZF by unfold ZF; omega] at e58
  rw [if_pos (show z ≤ S.n ∧ (allc C y 0 z && allo S C y 0 z) = true from ⟨hzn, by rw [ha, ho]; rfl⟩), if_neg n10, p_dim (Or.inl rfl) K.sh, zbd_s, l_size hl D.zC, zbd_s, e58, f_X12_cutOut_c58, if_pos (zin_nI hl (by decide)), if_pos (zin_nI hl (by decide)), nI_clamp (by omega), D.zM, if_pos (nI_le (show z ≤ z by omega) (by omega)), L.sh.n, pk_sub hzn]
  by_cases w0 : w = 0
  · rw [if_pos w0, if_pos w0]
    exact ex0 h.i0 _ rfl rfl
  rw [if_neg w0, if_neg w0]
  by_cases w1 : w = 1
  · rw [if_pos w1, if_pos w1]
    obtain ⟨σ1, F1, e1, r1⟩ := k_listed K (y := y) hl hz D.zC (fun i hi => by rw [hY])
    have K1 := K.sc F1
    obtain ⟨σ2, e2, r2, F2⟩ := k_canon K1 (k := 22) (by decide)
    have r3 := (r1 ha).fr F2 (by decide)
    have F2 : FR XA XB σ1 σ2 := F2.mono (by decide) (by decide)
    obtain ⟨σ3, e3, F3⟩ := k_powmet S C (show S.n - z < 1000 by omega) (S.n - z) 0 ZF σ2 (K1.sc F2) r3 r2 (by omega) (by unfold ZF; omega)
    rw [nI_0] at e3
    obtain ⟨τ1, G1, f1, t1⟩ := km_listed L (y := y) hl hz D.zM hy ha
    have G1 : FM MJ MA MB τ τ1 := G1.mono (by decide) (by decide) (by decide)
    have L1 := L.sc G1
    obtain ⟨τ2, f2, t2, G2⟩ := km_canon L1 (k := 14) rfl (by decide)
    have t3 := t1.fm G2 (by decide)
    have G2 : FM MJ MA MB τ1 τ2 := G2.mono (by decide) (by decide) (by decide)
    obtain ⟨τ3, f3, G3⟩ := km_powmet S C (show S.n - z < 1000 by omega) (S.n - z) 0 ZF τ2 (L1.sc G2) t3 t2 (by omega) (by unfold ZF; omega)
    rw [nI_0] at f3
    rw [f_X11_canonicalOfCut, e1, if_pos ha, zbd_s, if_neg n10, e2, zbd_s, e3, zbd_s, f1, zbd_s, f2, zbd_s, f3]
    exact ⟨_, _, _, rfl, rfl, h.fin ((F1.trans F2).trans F3) ((G1.trans G2).trans G3)⟩
  rw [if_neg w1, if_neg w1]
  obtain ⟨σ1, e1, F1⟩ := k_euler K (y := y) hl hz D.zC (fun i hi => by rw [hY]) ha (nI (S.n - z))
  obtain ⟨τ1, f1, G1⟩ := km_euler L qb.1 (y := y) hl hz D.zM hy ha (nI (S.n - z))
  rw [e1, zbd_s, zbd_s, f_X12_cutOut_c184, f1, zbd_s]
  by_cases w2 : w = 2
  · rw [if_pos w2, if_pos w2, if_neg (by rw [w2]; decide)]
    exact ⟨_, _, _, rfl, rfl, h.fin F1 G1⟩
  have w3 : w = 3 := by
    obtain ⟨v, hv, rfl⟩ : ∃ v, v < 2 ^ 31 ∧ w = nI v := by
      rcases nI_cases w with q | q
      · exact absurd q q1
      · exact q
    have h1 : v ≤ 3 := (nI_leI hv (b := 3) (by decide)).mp (Int32.not_lt.mp q2)
    have : v = 0 ∨ v = 1 ∨ v = 2 ∨ v = 3 := by omega
    rcases this with rfl | rfl | rfl | rfl
    · exact absurd rfl w0
    · exact absurd rfl w1
    · exact absurd rfl w2
    · rfl
  rw [if_neg w2, if_neg w2, if_pos w3]
  by_cases qd : nI (S.n - z) = 1
  · rw [if_pos qd, if_pos qd]
    exact ⟨_, _, _, rfl, rfl, h.fin F1 G1⟩
  · rw [if_neg qd, if_neg qd]
    exact ex0 h.i0 _ rfl rfl
end
