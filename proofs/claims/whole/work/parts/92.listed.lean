section
variable {S : Sh} {C C1 : Cl} {σ σ1 τ τ1 : SS}
theorem Chg.mono {m m' : Nat} (h : Chg m σ τ) (hm : m ≤ m') : Chg m' σ τ := by
  obtain ⟨d, u, h⟩ := h
  exact ⟨d, u, h.le, h.dC, h.uC, h.dM, h.uM, fun i hi => by
    obtain ⟨o, w, a, b, c, r⟩ := h.e i hi
    exact ⟨o, w, a, b, ⟨by have := c.1; omega, c.2⟩, r⟩⟩
theorem bring_fin (h : Inv S C σ τ) (hF : FR XA XB σ σ1) (hG : FM MJ MA MB τ τ1) {v : Nat → Int64} (hm : C.mm < 8) (r1 : Rw S σ1 21 v) (r2 : Rw S τ1 13 v) :
    ∃ σ2 τ2, zbd (f_X11_bringAll σ1) (fun _ s5 => zbd (f_X1_forget s5) (fun _ s8 => some (((s8.1 1 2) - (1 : Int32)), s8))) = some (nI C.mm, σ2) ∧ zbd (f_X12_forget τ1) (fun _ s5 => zbd (f_X12_comes 13 s5) (fun r7 s8 => some (r7, s8))) = some (nI C.mm, τ2) ∧ I0 σ2 τ2 := by
  have K := h.kc.sc hF
  have L := h.km.sc hG
  obtain ⟨σ2, e1, F2, m1, c1⟩ := k_bring K hm r1
  have G2 : FM [21, 22] [] [] τ1 (zS (zS τ1 0 21 0) 0 22 0) := ((FM.refl τ1).sO (by simp) _).sO (by simp) _
  have L2 : KM S C (zS (zS τ1 0 21 0) 0 22 0) := ⟨L.ok, L.okC, L.sh.fm G2 (by decide) (by decide) (by decide) (by decide) (by decide) (by decide) (by decide), L.cl.fm G2 (by decide) (by decide) (by decide) (by decide), L.tm.fm G2 (by decide) (by decide) (by decide) (by decide) (by decide)⟩
  obtain ⟨τ2, e2, G3, c2⟩ := km_comes L2 (k := 13) rfl (by decide) hm (r2.fm G2 (by decide))
  have F3 : FR [7] [] σ2 (zS (zS σ2 7 4 0) 7 5 0) := ((FR.refl σ2).sS (by simp) _ _).sS (by simp) _ _
  have e3 : (zS (zS σ2 7 4 0) 7 5 0).1 1 2 = nI (C.mm + 1) := by rw [F3.1 1 (by decide)]; exact m1
  rw [e1, zbd_s, f_X1_forget, zbd_s, f_X12_forget, zbd_s, e2, zbd_s, e3, nI_pred]
  have FF : FR ([1, 7, 30, 31, 32, 33, 34, 35, 36, 37] ++ XA) YB σ (zS (zS σ2 7 4 0) 7 5 0) := ((hF.mono (by decide) (by decide)).trans (F2.mono (by decide) (by decide))).trans (F3.mono (by decide) (by decide))
  have GG : FM [12, 21, 22, 51, 52, 53, 54, 58] ([8, 9] ++ MA) QB τ τ2 := ((hG.mono (by decide) (by decide) (by decide)).trans (G2.mono (by decide) (by decide) (by decide))).trans (G3.mono (by decide) (by decide) (by decide))
  refine ⟨_, _, rfl, rfl, S, C.add v, h.gen (FF.mono (by decide) (by decide)) (GG.mono (by decide) (by decide) (by decide)) (Cl.add_ok K.okC hm v) e3 (c1.fr (Cl.add_ok K.okC hm v) F3 (fun m hm => by simp; omega) (fun m hm => by simp)) c2 (chg_0 ?_ ?_ ?_ ?_) (h.tap.fr FF GG (by decide) (by decide) (by decide) (by decide))⟩
  · simp [zS_1]
  · simp [zS_1]
  · rw [G3.o 21 (by decide)]; simp [zS_1]
  · rw [G3.o 22 (by decide)]; simp [zS_1]
theorem s_canonical (h : I0 σ τ) : ∃ r σ1 τ1, f_X11_canonical σ = some (r, σ1) ∧ f_X12_canonical τ = some (r, τ1) ∧ I0 σ1 τ1 := by
  obtain ⟨S, C, h⟩ := h
  have K := h.kc
  have L := h.km
  have h8 := K.okC.m8
  rw [f_X11_canonical, f_X12_canonical, K.mm, L.cl.mm]
  by_cases q : C.mm < 8
  · rw [if_pos (show nI C.mm < 8 from nI_lt (b := 8) q (by decide)), if_neg (fun w : nI C.mm = 8 => by have := (nI_eq (b := 8) (by omega) (by decide)).mp w; omega)]
    obtain ⟨σ1, e1, r1, F1⟩ := k_canon K (k := 21) (by decide)
    obtain ⟨τ1, e2, r2, G1⟩ := km_canon L (k := 13) rfl (by decide)
    obtain ⟨σ2, τ2, e3, e4, hI⟩ := bring_fin h (F1.mono (by decide) (by decide)) (G1.mono (by decide) (by decide) (by decide)) q r1 r2
    rw [e1, zbd_s, e3, e2, zbd_s, e4]
    exact ⟨_, _, _, rfl, rfl, hI⟩
  · have : C.mm = 8 := by omega
    rw [this]
    exact ex0 h.i0 _ (if_neg (by decide)) (if_pos rfl)
/-! ===== the classes that a LIST tells ===== -/
def allc (C : Cl) (y : Nat → Int64) : Nat → Nat → Bool
  | _, 0 => true
  | i, j + 1 => (cidx C.mm (y i)).isSome && allc C y (i + 1) j
def prd (S : Sh) (C : Cl) (y : Nat → Int64) : Nat → Nat → Int64
  | 0 => one S
  | i + 1 => mul S (prd S C y i) (num S C ((cidx C.mm (y i)).getD 0))
theorem k_mlist (S : Sh) (C : Cl) {y : Nat → Int64} {l z : Nat} (hl : l < 3) (hz : z ≤ 20) : ∀ j i n σ, KC S C σ → σ.1 28 l = nI z → (∀ i, i < z → σ.2 (77 + l) i = y i) → Rw S σ 21 (prd S C y i) → i + j = z → j < n →
    ∃ σ1, FR XA XB σ σ1 ∧ f_X11_multiplyListed_c16 n (nI l) (nI i) σ = some (if allc C y i j = true then 1 else 0, σ1) ∧ (allc C y i j = true → Rw S σ1 21 (prd S C y z)) := by
  intro j
  induction j with
  | zero =>
    intro i n σ K h28 hy r hi hn
    obtain ⟨n, rfl⟩ : ∃ m', n = m' + 1 := ⟨n - 1, by omega⟩
    have : i = z := by omega
    subst this
    exact ⟨σ, FR.refl σ, by rw [f_X11_multiplyListed_c16, l_size hl h28, zbd_s, if_pos (nI_le (by omega) (by omega))]; rfl, fun _ => r⟩
  | succ j ih =>
    intro i n σ K h28 hy r hi hn
    obtain ⟨n, rfl⟩ : ∃ m', n = m' + 1 := ⟨n - 1, by omega⟩
    rw [f_X11_multiplyListed_c16, l_size hl h28, zbd_s, if_neg (nI_ge (by omega) (by omega)), l_val hl hz h28 (show i < z by omega), zbd_s, hy i (by omega), allc]
    cases e : cidx C.mm (y i) with
    | none =>
      rw [K.clN e, zbd_s, zbn_n]
      exact ⟨σ, FR.refl σ, rfl, fun q => absurd q (by simp)⟩
    | some m =>
      have hm := (cidx_lt e).1
      rw [K.clS e, zbd_s, zbn_s, if_pos (ZOx_k (by have := K.okC.m8; omega)).1]
      obtain ⟨σ1, e1, r1, F1⟩ := p_mulBy K.ok K.okC K.tm K.cl hm r
      have F1 : FR XA XB σ σ1 := F1.mono (by decide) (by decide)
      rw [e1, zbd_s, nI_1]
      obtain ⟨σ2, F2, e2, r2⟩ := ih (i + 1) n σ1 (K.sc F1) (by rw [F1.1 28 (by decide)]; exact h28) (fun i hi => by rw [F1.2 _ (show 77 + l ∉ XB by simp; omega)]; exact hy i hi) (by
        show Rw S σ1 21 (mul S (prd S C y i) (num S C ((cidx C.mm (y i)).getD 0)))
        rw [e]; exact r1) (by omega) (by omega)
      exact ⟨σ2, F1.trans F2, e2, r2⟩
theorem km_areC (L : KM S C τ) {y : Nat → Int64} {l z : Nat} (hl : l < 3) (hz : z ≤ 20) (h23 : τ.1 23 l = nI z) (hy : ∀ i, i < z → τ.2 24 (20 * l + i) = y i) : ∀ j i n, i + j = z → j < n → f_X12_areClasses_c2 n (nI l) (nI i) τ = some (if allc C y i j = true then 1 else 0, τ) := by
  intro j
  induction j with
  | zero =>
    intro i n hi hn
    obtain ⟨n, rfl⟩ : ∃ m', n = m' + 1 := ⟨n - 1, by omega⟩
    rw [f_X12_areClasses_c2, if_pos (zin_nI hl (by decide)), nI_clamp (by omega), h23, if_pos (nI_le (by omega) (by omega))]
    rfl
  | succ j ih =>
    intro i n hi hn
    obtain ⟨n, rfl⟩ : ∃ m', n = m' + 1 := ⟨n - 1, by omega⟩
    rw [f_X12_areClasses_c2, if_pos (zin_nI hl (by decide)), nI_clamp (by omega), h23, if_neg (nI_ge (by omega) (by omega)), i60, if_pos (zin_nI (by omega) (by decide)), nI_clamp (by omega), hy i (by omega), allc]
    cases e : cidx C.mm (y i) with
    | none => rw [L.isN e]; rfl
    | some m =>
      rw [L.isS e, zbd_s, if_neg n10, nI_1, ih (i + 1) n (by omega) (by omega)]
      rfl
theorem km_all (S : Sh) (C : Cl) {y : Nat → Int64} {l z : Nat} (hl : l < 3) (hz : z ≤ 20) : ∀ j i n τ, KM S C τ → τ.1 23 l = nI z → (∀ i, i < z → τ.2 24 (20 * l + i) = y i) → Rw S τ 13 (prd S C y i) → i + j = z → j < n → allc C y i j = true →
    ∃ τ1, FM [] [] [13, 14, 33] τ τ1 ∧ f_X12_layAll_c10 n (nI l) (nI i) τ = some ((), τ1) ∧ Rw S τ1 13 (prd S C y z) := by
  intro j
  induction j with
  | zero =>
    intro i n τ L h23 hy r hi hn ha
    obtain ⟨n, rfl⟩ : ∃ m', n = m' + 1 := ⟨n - 1, by omega⟩
    have : i = z := by omega
    subst this
    exact ⟨τ, FM.refl τ, by rw [f_X12_layAll_c10, if_pos (zin_nI hl (by decide)), nI_clamp (by omega), h23, if_pos (nI_le (by omega) (by omega))], r⟩
  | succ j ih =>
    intro i n τ L h23 hy r hi hn ha
    obtain ⟨n, rfl⟩ : ∃ m', n = m' + 1 := ⟨n - 1, by omega⟩
    rw [allc, Bool.and_eq_true] at ha
    obtain ⟨m, e⟩ := Option.isSome_iff_exists.mp ha.1
    obtain ⟨hm, hy32⟩ := cidx_lt e
    have h8 := L.okC.m8
    rw [f_X12_layAll_c10, if_pos (zin_nI hl (by decide)), nI_clamp (by omega), h23, if_neg (nI_ge (by omega) (by omega)), i60, if_pos (zin_nI (by omega) (by decide)), nI_clamp (by omega), hy i (by omega), y32 hy32 (by omega)]
    obtain ⟨τ1, e1, r1, G1⟩ := km_take L hm (k := 14) rfl (by decide) (by decide)
    have r' := r.fm G1 (by decide)
    have G1 : FM [] [] [13, 14, 33] τ τ1 := G1.mono (by decide) (by decide) (by decide)
    obtain ⟨τ2, e2, r2, G2⟩ := km_mul (L.sc (G1.mono (by decide) (by decide) (by decide))) (k1 := 13) (k2 := 14) rfl rfl (by decide) (by decide) r' r1
    have G2 : FM [] [] [13, 14, 33] τ1 τ2 := G2.mono (by decide) (by decide) (by decide)
    have GG := G1.trans G2
    rw [e1, zbd_s, e2, zbd_s, nI_1]
    obtain ⟨τ3, G3, e3, r3⟩ := ih (i + 1) n τ2 (L.sc (GG.mono (by decide) (by decide) (by decide))) (by rw [GG.i 23 (by decide) (by decide)]; exact h23) (fun i hi => by rw [GG.l 24 (by decide)]; exact hy i hi) (by
        show Rw S τ2 13 (mul S (prd S C y i) (num S C ((cidx C.mm (y i)).getD 0)))
        rw [e]; exact r2) (by omega) (by omega) ha.2
    exact ⟨τ3, GG.trans G3, e3, r3⟩
theorem k_listed (K : KC S C σ) {y : Nat → Int64} {l z : Nat} (hl : l < 3) (hz : z ≤ 20) (h28 : σ.1 28 l = nI z) (hy : ∀ i, i < z → σ.2 (77 + l) i = y i) :
    ∃ σ1, FR XA XB σ σ1 ∧ f_X11_multiplyListed (nI l) σ = some (if allc C y 0 z = true then 1 else 0, σ1) ∧ (allc C y 0 z = true → Rw S σ1 21 (prd S C y z)) := by
  obtain ⟨σ1, e1, r1, F1⟩ := k_one K (k := 21) (by decide)
  have F1 : FR XA XB σ σ1 := F1.mono (by decide) (by decide)
  obtain ⟨σ2, F2, e2, r2⟩ := k_mlist S C (y := y) hl hz z 0 ZF σ1 (K.sc F1) (by rw [F1.1 28 (by decide)]; exact h28) (fun i hi => by rw [F1.2 _ (show 77 + l ∉ XB by simp; omega)]; exact hy i hi) r1 (by omega) (by unfold ZF; omega)
  rw [nI_0] at e2
  exact ⟨σ2, F1.trans F2, by rw [f_X11_multiplyListed, e1, zbd_s, e2], r2⟩
theorem km_listed (L : KM S C τ) {y : Nat → Int64} {l z : Nat} (hl : l < 3) (hz : z ≤ 20) (h23 : τ.1 23 l = nI z) (hy : ∀ i, i < z → τ.2 24 (20 * l + i) = y i) (ha : allc C y 0 z = true) :
    ∃ τ1, FM [] [] [13, 14, 33] τ τ1 ∧ f_X12_layAll (nI l) τ = some ((), τ1) ∧ Rw S τ1 13 (prd S C y z) := by
  obtain ⟨τ1, e1, r1, G1⟩ := km_one L (k := 13) rfl (by decide)
  have G1 : FM [] [] [13, 14, 33] τ τ1 := G1.mono (by decide) (by decide) (by decide)
  obtain ⟨τ2, G2, e2, r2⟩ := km_all S C (y := y) hl hz z 0 ZF τ1 (L.sc (G1.mono (by decide) (by decide) (by decide))) (by rw [G1.i 23 (by decide) (by decide)]; exact h23) (fun i hi => by rw [G1.l 24 (by decide)]; exact hy i hi) r1 (by omega) (by unfold ZF; omega) ha
  rw [nI_0] at e2
  exact ⟨τ2, G1.trans G2, by rw [f_X12_layAll, e1, zbd_s, e2], r2⟩
theorem s_meetsAll (x : Int32) (h : I0 σ τ) : ∃ r σ1 τ1, f_X11_meetsAll x σ = some (r, σ1) ∧ f_X12_meetsAll x τ = some (r, τ1) ∧ I0 σ1 τ1 := by
  obtain ⟨S, C, h⟩ := h
  have K := h.kc
  have L := h.km
  rw [f_X11_meetsAll, f_X12_meetsAll]
  rcases lis_cases x with q | ⟨l, hl, rfl⟩
  · rw [l_thereN q, lm_thereN q, zbd_s, zbd_s]
    exact ex0 h.i0 _ (if_pos rfl) (if_pos rfl)
  obtain ⟨z, D⟩ := h.lis l hl
  have hz := D.zl
  rw [l_thereS hl, lm_thereS hl, zbd_s, zbd_s]
  by_cases q : σ.1 27 l = -1
  · rw [if_pos q, if_pos (D.neg.mp q)]
    exact ex0 h.i0 _ (if_pos rfl) (if_pos rfl)
  rw [if_neg q, if_neg (fun w => q (D.neg.mpr w)), if_neg n10, if_neg n10]
  obtain ⟨σ1, F1, e1, r1⟩ := k_listed K (y := σ.2 (77 + l)) hl hz D.zC (fun _ _ => rfl)
  have ec := km_areC L (y := σ.2 (77 + l)) hl hz D.zM (fun i hi => D.n i (by omega)) z 0 ZF (by omega) (by unfold ZF; omega)
  rw [nI_0] at ec
  rw [f_X12_areClasses, ec, e1, zbd_s, zbd_s]
  by_cases ha : allc C (σ.2 (77 + l)) 0 z = true
  · obtain ⟨τ1, G1, e2, r2⟩ := km_listed L (y := σ.2 (77 + l)) hl hz D.zM (fun i hi => D.n i (by omega)) ha
    have G1 : FM MJ MA MB τ τ1 := G1.mono (by decide) (by decide) (by decide)
    rw [if_pos ha, if_neg n10, if_neg n10, e2, zbd_s, p_met K.ok (K.sc F1).tm (by decide) (r1 ha), zbd_s, pm_met L.ok (L.sc G1).tm rfl r2]
    exact ⟨_, _, _, rfl, rfl, h.fin F1 G1⟩
  · rw [if_neg ha]
    exact ⟨_, _, _, if_pos rfl, if_pos rfl, h.fin F1 (FM.refl τ)⟩
/-! ===== JUDGE ===== -/
theorem judge_c (S : Sh) (C : Cl) {y : Nat → Int64} {l z : Nat} (hl : l < 3) (hz : z ≤ 20) : ∀ j i n n' σ τ, KC S C σ → KM S C τ → σ.1 28 l = nI z → (∀ i, i < z → σ.2 (77 + l) i = y i) → (∀ i, i < z → τ.2 24 (20 * l + i) = y i) → i + j = min C.mm z → j < n → j < n' →
    ∃ r σ1 τ1, f_X11_judge_c38 n (nI l) (nI z) (nI i) σ = some (r, σ1) ∧ f_X12_judge_c50 n' (nI l) (nI (min C.mm z)) (nI i) τ = some (r, τ1) ∧ FR XA XB σ σ1 ∧ FM MJ MA MB τ τ1 := by
  intro j
  induction j with
  | zero =>
    intro i n n' σ τ K L h28 hy hy' hi hn hn'
    obtain ⟨n, rfl⟩ : ∃ m', n = m' + 1 := ⟨n - 1, by omega⟩
    obtain ⟨n', rfl⟩ : ∃ m', n' = m' + 1 := ⟨n' - 1, by omega⟩
    have h8 := K.okC.m8
    rw [f_X11_judge_c38, f_X12_judge_c50, if_pos (show nI (min C.mm z) ≤ nI i from nI_le (by omega) (by omega)), K.mm, L.cl.mm, f_X11_judge_c112, K.mm]
    refine ⟨if nI C.mm ≤ nI z then -2 else 100 + nI z, σ, τ, ?_, ?_, FR.refl σ, FM.refl τ⟩
    · have e : (if nI C.mm ≤ nI z then some ((-2 : Int32), σ) else some (100 + nI z, σ)) = some (if nI C.mm ≤ nI z then -2 else 100 + nI z, σ) := by split <;> rfl
      rw [e]
      by_cases q : z ≤ i
      · rw [if_pos (nI_le q (by omega))]
      · rw [if_neg (nI_ge (by omega) (by omega)), if_pos (nI_le (show C.mm ≤ i by omega) (by omega))]
    · by_cases q : C.mm ≤ z
      · rw [if_pos (nI_le (show C.mm ≤ min C.mm z by omega) (by omega)), if_pos (nI_le q (by omega))]
      · rw [if_neg (nI_ge (show min C.mm z < C.mm by omega) (by omega)), if_neg (nI_ge (by omega) (by omega)), show min C.mm z = z by omega]
  | succ j ih =>
    intro i n n' σ τ K L h28 hy hy' hi hn hn'
    obtain ⟨n, rfl⟩ : ∃ m', n = m' + 1 := ⟨n - 1, by omega⟩
    obtain ⟨n', rfl⟩ : ∃ m', n' = m' + 1 := ⟨n' - 1, by omega⟩
    have h8 := K.okC.m8
    have hm : i < C.mm := by omega
    obtain ⟨z1, z2⟩ := ZOx_13 (show i < 8 by omega)
    obtain ⟨σ1, e1, r1, F1⟩ := k_take K hm (k := 21) (by decide)
    obtain ⟨τ1, e2, r2, G1⟩ := km_take L hm (k := 13) rfl (by decide) (by decide)
    have F1 : FR XA XB σ σ1 := F1.mono (by decide) (by decide)
    have G1 : FM MJ MA MB τ τ1 := G1.mono (by decide) (by decide) (by decide)
    have q28 : σ1.1 28 l = nI z := by rw [F1.1 28 (by decide)]; exact h28
    have qy : ∀ i, i < z → σ1.2 (77 + l) i = y i := fun i hi => by rw [F1.2 _ (show 77 + l ∉ XB by simp; omega)]; exact hy i hi
    have qy' : ∀ i, i < z → τ1.2 24 (20 * l + i) = y i := fun i hi => by rw [G1.l 24 (by decide)]; exact hy' i hi
    rw [f_X11_judge_c38, if_neg (nI_ge (show i < z by omega) (by omega)), K.mm, if_neg (nI_ge hm (by omega)), if_pos z1, z2, if_pos (ZOx_k (by omega)).1, e1, zbd_s, p_met K.ok (K.sc F1).tm (by decide) r1, zbd_s, l_val hl hz q28 (show i < z by omega), zbd_s, qy i (by omega), f_X12_judge_c50, if_neg (nI_ge (show i < min C.mm z by omega) (by omega)), e2, zbd_s, pm_met L.ok (L.sc G1).tm rfl r2, zbd_s, i60, if_pos (zin_nI (by omega) (by decide)), nI_clamp (by omega), qy' i (by omega)]
    by_cases q : mt S (num S C i) = y i
    · rw [if_pos ((lg_cmp_eq _ _).mpr q), if_pos ((lg_cmp_eq _ _).mpr q), nI_1]
      obtain ⟨r, σ2, τ2, e3, e4, F2, G2⟩ := ih (i + 1) n n' σ1 τ1 (K.sc F1) (L.sc G1) q28 qy qy' (by omega) (by omega) (by omega)
      exact ⟨r, σ2, τ2, e3, e4, F1.trans F2, G1.trans G2⟩
    · rw [if_neg (fun w => q ((lg_cmp_eq _ _).mp w)), if_neg (fun w => q ((lg_cmp_eq _ _).mp w))]
      exact ⟨_, _, _, rfl, rfl, F1, G1⟩
theorem s_judge (x : Int32) (h : I0 σ τ) : ∃ r σ1 τ1, f_X11_judge x σ = some (r, σ1) ∧ f_X12_judge x τ = some (r, τ1) ∧ I0 σ1 τ1 := by
  obtain ⟨S, C, h⟩ := h
  have K := h.kc
  have L := h.km
  have h8 := K.okC.m8
  rw [f_X11_judge, f_X12_judge]
  rcases lis_cases x with q | ⟨l, hl, rfl⟩
  · rw [l_oneN q, lm_oneN q, zbd_s, zbd_s]
    exact ex0 h.i0 _ (if_pos rfl) (if_pos rfl)
  obtain ⟨z, D⟩ := h.lis l hl
  have hz := D.zl
  rw [l_oneS hl, lm_oneS hl, zbd_s, zbd_s, if_neg n10, if_neg n10, l_thereS hl, zbd_s, if_pos (zin_nI hl (by decide)), nI_clamp (by omega)]
  by_cases q : σ.1 27 l = -1
  · rw [if_pos q, if_neg (fun w => absurd (D.neg.mp q) (Int32.not_lt.mpr w))]
    exact ex0 h.i0 _ (if_pos rfl) rfl
  rw [if_neg q, if_neg n10, if_pos (Int32.not_lt.mp (fun w => q (D.neg.mpr w))), if_pos (zin_nI hl (by decide)), if_pos (zin_nI hl (by decide)), l_size hl D.zC, zbd_s, D.zM, L.cl.mm, f_X12_judge_c47, f_X12_judge_c47]
  obtain ⟨r, σ1, τ1, e1, e2, F, G⟩ := judge_c S C (y := σ.2 (77 + l)) hl hz (min C.mm z) 0 ZF ZF σ τ K L D.zC (fun _ _ => rfl) (fun i hi => D.n i (by omega)) (by omega) (by unfold ZF; omega) (by unfold ZF; omega)
  rw [nI_0] at e1 e2
  refine ⟨r, σ1, τ1, e1, ?_, h.fin F G⟩
  by_cases w : C.mm ≤ z
  · rw [if_pos (nI_le w (by omega))]
    rw [show min C.mm z = C.mm by omega] at e2
    exact e2
  · rw [if_neg (nI_ge (by omega) (by omega))]
    rw [show min C.mm z = z by omega] at e2
    exact e2
end
