/-! ===== the two sides, each for itself ===== -/
def KC (S : Sh) (C : Cl) (σ : SS) : Prop :=
  (ShOk S) ∧
  (ClOk C) ∧
  (ShC S 3 15 σ) ∧
  (σ.1 1 2 = nI C.mm) ∧
  (ClC S C 30 46 σ) ∧
  (TmC S σ)
theorem KC.ok {S : Sh} {C : Cl} {σ : SS} (h : KC S C σ) : ShOk S := h.1
theorem KC.okC {S : Sh} {C : Cl} {σ : SS} (h : KC S C σ) : ClOk C := h.2.1
theorem KC.sh {S : Sh} {C : Cl} {σ : SS} (h : KC S C σ) : ShC S 3 15 σ := h.2.2.1
theorem KC.mm {S : Sh} {C : Cl} {σ : SS} (h : KC S C σ) : σ.1 1 2 = nI C.mm := h.2.2.2.1
theorem KC.cl {S : Sh} {C : Cl} {σ : SS} (h : KC S C σ) : ClC S C 30 46 σ := h.2.2.2.2.1
theorem KC.tm {S : Sh} {C : Cl} {σ : SS} (h : KC S C σ) : TmC S σ := h.2.2.2.2.2
def KM (S : Sh) (C : Cl) (τ : SS) : Prop :=
  (ShOk S) ∧
  (ClOk C) ∧
  (ShM S τ) ∧
  (ClM S C τ) ∧
  (TmM S τ)
theorem KM.ok {S : Sh} {C : Cl} {τ : SS} (h : KM S C τ) : ShOk S := h.1
theorem KM.okC {S : Sh} {C : Cl} {τ : SS} (h : KM S C τ) : ClOk C := h.2.1
theorem KM.sh {S : Sh} {C : Cl} {τ : SS} (h : KM S C τ) : ShM S τ := h.2.2.1
theorem KM.cl {S : Sh} {C : Cl} {τ : SS} (h : KM S C τ) : ClM S C τ := h.2.2.2.1
theorem KM.tm {S : Sh} {C : Cl} {τ : SS} (h : KM S C τ) : TmM S τ := h.2.2.2.2
theorem zbn_s {α : Type} (k : Nat) (a : Option α) (f : Nat → Option α) : zbn (some k) a f = f k := rfl
theorem zbn_n {α : Type} (a : Option α) (f : Nat → Option α) : zbn none a f = a := rfl
section
variable {S : Sh} {C : Cl} {σ σ1 τ τ1 : SS}
theorem Inv.kc (h : Inv S C σ τ) : KC S C σ := ⟨h.core.ok, h.core.okC, h.core.shC, h.core.mC, h.core.clC, h.core.tmC⟩
theorem Inv.km (h : Inv S C σ τ) : KM S C τ := ⟨h.core.ok, h.core.okC, h.core.shM, h.core.clM, h.core.tmM⟩
theorem KC.sc (h : KC S C σ) (hF : FR XA XB σ σ1) : KC S C σ1 :=
  ⟨h.ok, h.okC, h.sh.fr hF (by decide) (by decide) (by decide) (by decide), by rw [hF.1 1 (by decide)]; exact h.mm, h.cl.fr h.okC hF (fun m hm => by simp; omega) (fun m hm => by simp; omega),
    h.tm.fr hF (by decide) (by decide) (by decide) (by decide) (by decide) (by decide) (by decide)⟩
theorem KM.sc (h : KM S C τ) (hG : FM MJ MA MB τ τ1) : KM S C τ1 :=
  ⟨h.ok, h.okC, h.sh.fm hG (by decide) (by decide) (by decide) (by decide) (by decide) (by decide) (by decide), h.cl.fm hG (by decide) (by decide) (by decide) (by decide), h.tm.fm hG (by decide) (by decide) (by decide) (by decide) (by decide)⟩
theorem Inv.fin (h : Inv S C σ τ) (hF : FR XA XB σ σ1) (hG : FM MJ MA MB τ τ1) : I0 σ1 τ1 := ⟨S, C, h.sc hF hG⟩
theorem Inv.i0 (h : Inv S C σ τ) : I0 σ τ := ⟨S, C, h⟩
theorem KC.find (h : KC S C σ) (x : Int32) : f_X10_find x σ = some (oI (pI S.L S.n x), σ) := p_find h.ok.ln h.tm.n h.tm.L h.tm.M x
theorem KM.termOf (h : KM S C τ) (x : Int32) : f_X12_termOf x τ = some (oI (pI S.L S.n x), τ) := pm_termOf h.ok h.tm x
theorem KC.clA (h : KC S C σ) (y : Int64) : f_X3_classAt 1 y σ = some ((cidx C.mm y).map (fun m => 30 + m), σ) := p_classAt h.okC h.mm y
theorem KM.isC (h : KM S C τ) (y : Int64) : f_X12_isClass y τ = some (if (cidx C.mm y).isSome = true then 1 else 0, τ) := pm_isClass h.okC h.cl.mm y
theorem KC.clN (h : KC S C σ) {y : Int64} (e : cidx C.mm y = none) : f_X3_classAt 1 y σ = some (none, σ) := by rw [h.clA, e]; rfl
theorem KC.clS (h : KC S C σ) {y : Int64} {m : Nat} (e : cidx C.mm y = some m) : f_X3_classAt 1 y σ = some (some (30 + m), σ) := by rw [h.clA, e]; rfl
theorem KM.isN (h : KM S C τ) {y : Int64} (e : cidx C.mm y = none) : f_X12_isClass y τ = some (0, τ) := by rw [h.isC, e]; rfl
theorem KM.isS (h : KM S C τ) {y : Int64} {m : Nat} (e : cidx C.mm y = some m) : f_X12_isClass y τ = some (1, τ) := by rw [h.isC, e]; rfl
theorem KC.M (h : KC S C σ) : S.M ≤ 462 := (cM_pos h.ok.ln).2
theorem KM.M (h : KM S C τ) : S.M ≤ 462 := (cM_pos h.ok.ln).2
theorem cls_cases (hC : ClOk C) (x : Int32) : cidx C.mm x.toInt64 = none ∨ ∃ m, m < C.mm ∧ m < 8 ∧ x = nI m ∧ cidx C.mm x.toInt64 = some m := by
  cases h : cidx C.mm x.toInt64 with
  | none => exact Or.inl rfl
  | some m =>
    obtain ⟨h1, h2⟩ := cidx_lt h
    have := hC.m8
    exact Or.inr ⟨m, h1, by omega, x_of h2 (by omega), rfl⟩
theorem pI_cases (hS : ShOk S) (x : Int32) : pI S.L S.n x = none ∨ ∃ t, t < S.M ∧ pI S.L S.n x = some t ∧ x = nI (S.c t) := by
  cases h : pI S.L S.n x with
  | none => exact Or.inl rfl
  | some t => exact Or.inr ⟨t, ((pI_iff hS.ln).mp h).1, rfl, ((pI_iff hS.ln).mp h).2⟩
theorem pm_in32 (x a b : Int32) (lo hi : Int64) (ha : lo = a.toInt64) (hb : hi = b.toInt64) (τ : SS) : f_X12_in x.toInt64 lo hi τ = some (if a ≤ x ∧ x ≤ b then 1 else 0, τ) := by
  rw [pm_in, ha, hb, Int32.toInt_toInt64, Int32.toInt_toInt64, Int32.toInt_toInt64]
  by_cases h : a ≤ x ∧ x ≤ b
  · rw [if_pos h, if_pos (by rw [Int32.le_iff_toInt_le, Int32.le_iff_toInt_le] at h; exact h)]
  · rw [if_neg h, if_neg (fun q => h (by rw [Int32.le_iff_toInt_le, Int32.le_iff_toInt_le]; exact q))]
theorem ex0 {α : Type} {F G : Option (α × SS)} (h : I0 σ τ) (r : α) (h1 : F = some (r, σ)) (h2 : G = some (r, τ)) : ∃ (r : α) (σ1 τ1 : SS), F = some (r, σ1) ∧ G = some (r, τ1) ∧ I0 σ1 τ1 := ⟨r, σ, τ, h1, h2, h⟩
theorem k_take (h : KC S C σ) {m k : Nat} (hm : m < C.mm) (hk : 21 ≤ k ∧ k ≤ 25) : ∃ σ1, f_X8_takeNumbers (30 + m) k σ = some ((), σ1) ∧ Rw S σ1 k (num S C m) ∧ FR [] [k] σ σ1 := by
  obtain ⟨f, e, hf⟩ := p_take h.ok h.okC h.tm h.cl hm hk
  exact ⟨_, e, fun t ht => by rw [zL_same]; exact hf t ht, frL σ k f⟩
theorem km_take (h : KM S C τ) {m k : Nat} (hm : m < C.mm) (hk : Om k = .inr (1, 462, [])) (h6 : k ≠ 6) (h10 : k ≠ 10) : ∃ τ1, f_X12_layClass (nI m) k τ = some ((), τ1) ∧ Rw S τ1 k (num S C m) ∧ FM [] [] [k] τ τ1 := by
  obtain ⟨f, e, hf⟩ := pm_take h.ok h.okC h.sh h.tm h.cl hm hk h6 h10
  exact ⟨_, e, fun t ht => by rw [zL_same]; exact hf t ht, fmL τ k f⟩
theorem km_mul (h : KM S C τ) {k1 k2 : Nat} {v w : Nat → Int64} (hk1 : Om k1 = .inr (1, 462, [])) (hk2 : Om k2 = .inr (1, 462, [])) (h1 : k1 ≠ 33) (h2 : k2 ≠ 33) (hv : Rw S τ k1 v) (hw : Rw S τ k2 w) : ∃ τ1, f_X12_multiply k1 k2 τ = some ((), τ1) ∧ Rw S τ1 k1 (mul S v w) ∧ FM [] [] [33, k1] τ τ1 := by
  obtain ⟨f, f', e, hf⟩ := pm_mul h.ok h.sh h.tm hk1 hk2 h1 h2 hv hw
  exact ⟨_, e, fun t ht => by rw [zL_same]; exact hf t ht, ((FM.refl τ).sL (by simp) f).sL (by simp) f'⟩
theorem km_one (h : KM S C τ) {k : Nat} (hk : Om k = .inr (1, 462, [])) (h6 : k ≠ 6) : ∃ τ1, f_X12_layOne k τ = some ((), τ1) ∧ Rw S τ1 k (one S) ∧ FM [] [] [k] τ τ1 := by
  obtain ⟨f, e, hf⟩ := pm_one h.ok h.tm hk h6
  exact ⟨_, e, fun t ht => by rw [zL_same]; exact hf t ht, fmL τ k f⟩
theorem k_one (h : KC S C σ) {k : Nat} (hk : 21 ≤ k ∧ k ≤ 25) : ∃ σ1, f_X8_makeOne k σ = some ((), σ1) ∧ Rw S σ1 k (one S) ∧ FR [] [k] σ σ1 := by
  obtain ⟨f, e, hf⟩ := p_one h.ok h.tm hk
  exact ⟨_, e, fun t ht => by rw [zL_same]; exact hf t ht, frL σ k f⟩
/-! ===== WORTH and TERM ===== -/
theorem s_worth (x : Int32) (h : I0 σ τ) : ∃ r σ1 τ1, f_X11_worth x σ = some (r, σ1) ∧ f_X12_worth x τ = some (r, τ1) ∧ I0 σ1 τ1 := by
  obtain ⟨S, C, h⟩ := h
  have K := h.kc
  have L := h.km
  have hM := K.M
  rw [f_X11_worth, f_X12_worth, K.find, zbd_s, L.termOf, zbd_s]
  rcases pI_cases K.ok x with e | ⟨t, ht, e, -⟩
  · rw [e]
    exact ex0 h.i0 _ (if_neg (by decide)) (if_neg (by decide))
  · rw [e, show oI (some t) = nI t from rfl]
    refine ex0 h.i0 (WT S (S.c t)) ?_ ?_
    · rw [if_pos (nI_pos' (by omega)), if_pos (zin_nI (by omega) (by decide)), nI_clamp (by omega), K.tm.worth t ht]
    · rw [if_pos (nI_pos' (by omega)), L.termOf, zbd_s, e, show oI (some t) = nI t from rfl, if_pos (zin_nI (by omega) (by decide)), nI_clamp (by omega), L.tm.worth t ht]
theorem s_term (x : Int32) (h : I0 σ τ) : ∃ r σ1 τ1, f_X11_term x σ = some (r, σ1) ∧ f_X12_term x τ = some (r, τ1) ∧ I0 σ1 τ1 := by
  obtain ⟨S, C, h⟩ := h
  have K := h.kc
  have L := h.km
  have hM := K.M
  rw [f_X11_term, f_X12_term, K.tm.M, L.tm.M]
  rcases nI_cases x with hx | ⟨t, ht, rfl⟩
  · have h0 : ¬ (0 : Int32) ≤ x := Int32.not_le.mpr hx
    exact ex0 h.i0 _ (if_neg h0) (if_neg h0)
  · rw [if_pos (nI_pos' ht), if_pos (nI_pos' ht)]
    by_cases q : S.M ≤ t
    · have q1 : nI S.M ≤ nI t := (nI_leI (by omega) ht).mpr q
      exact ex0 h.i0 _ (if_pos q1) (if_pos q1)
    · have q1 : ¬ nI S.M ≤ nI t := fun w => q ((nI_leI (by omega) ht).mp w)
      rw [if_neg q1, if_neg q1, if_pos (zin_nI (by omega) (by decide)), if_pos (zin_nI (by omega) (by decide)), nI_clamp ht, K.tm.code t (by omega), L.tm.code t (by omega)]
      exact ex0 h.i0 _ rfl rfl
theorem n10 : ¬ (1 : Int32) = 0 := by decide
theorem s_number (x y : Int32) (h : I0 σ τ) : ∃ r σ1 τ1, f_X11_number x y σ = some (r, σ1) ∧ f_X12_number x y τ = some (r, τ1) ∧ I0 σ1 τ1 := by
  obtain ⟨S, C, h⟩ := h
  have K := h.kc
  have L := h.km
  have hM := K.M
  rw [f_X11_number, f_X12_number]
  rcases cls_cases K.okC x with e | ⟨m, hm, h8, rfl, e⟩
  · rw [K.clN e, zbd_s, zbn_n, L.isN e, zbd_s, K.find, zbd_s]
    exact ex0 h.i0 (-9223372036854775808) rfl (if_pos rfl)
  · rw [K.clS e, zbd_s, zbn_s, if_pos (ZOx_k (by omega)).1, K.find, zbd_s, L.isS e, zbd_s, if_neg n10, L.termOf, zbd_s]
    rcases pI_cases K.ok y with e2 | ⟨t, ht, e2, -⟩
    · refine ex0 h.i0 _ (by rw [e2]; exact if_neg (by decide)) (by rw [e2]; exact if_neg (by decide))
    · refine ex0 h.i0 (num S C m t) ?_ ?_
      · rw [e2, show oI (some t) = nI t from rfl, if_pos (nI_pos' (by omega)), p_num K.ok K.okC K.tm K.cl hm ht]
        rfl
      · rw [e2, show oI (some t) = nI t from rfl, if_pos (nI_pos' (by omega)), L.termOf, zbd_s, e2, show oI (some t) = nI t from rfl, pm_num L.ok L.okC L.sh L.tm L.cl hm ht]
        rfl
theorem s_met (x : Int32) (h : I0 σ τ) : ∃ r σ1 τ1, f_X11_met x σ = some (r, σ1) ∧ f_X12_met x τ = some (r, τ1) ∧ I0 σ1 τ1 := by
  obtain ⟨S, C, h⟩ := h
  have K := h.kc
  have L := h.km
  rw [f_X11_met, f_X12_met]
  rcases cls_cases K.okC x with e | ⟨m, hm, h8, rfl, e⟩
  · rw [K.clN e, zbd_s, zbn_n, L.isN e, zbd_s]
    exact ex0 h.i0 _ rfl (if_pos rfl)
  · rw [K.clS e, zbd_s, zbn_s, if_pos (ZOx_k (by omega)).1, L.isS e, zbd_s, if_neg n10]
    obtain ⟨σ1, e1, r1, F1⟩ := k_take K hm (k := 21) (by decide)
    obtain ⟨τ1, e2, r2, G1⟩ := km_take L hm (k := 13) rfl (by decide) (by decide)
    have F2 : FR XA XB σ σ1 := F1.mono (by decide) (by decide)
    have G2 : FM MJ MA MB τ τ1 := G1.mono (by decide) (by decide) (by decide)
    rw [e1, zbd_s, p_met K.ok (K.sc F2).tm (by decide) r1, zbd_s, e2, zbd_s, pm_met L.ok (L.sc G2).tm rfl r2]
    exact ⟨_, _, _, rfl, rfl, h.fin F2 G2⟩
theorem s_meets (x y : Int32) (h : I0 σ τ) : ∃ r σ1 τ1, f_X11_meets x y σ = some (r, σ1) ∧ f_X12_meets x y τ = some (r, τ1) ∧ I0 σ1 τ1 := by
  obtain ⟨S, C, h⟩ := h
  have K := h.kc
  have L := h.km
  rw [f_X11_meets, f_X12_meets]
  rcases cls_cases K.okC x with e | ⟨m, hm, h8, rfl, e⟩
  · rw [K.clN e, zbd_s, zbn_n, L.isN e, zbd_s]
    rcases cls_cases K.okC y with e' | ⟨m', hm', h8', rfl, e'⟩
    · rw [K.clN e', zbd_s, zbn_n]
      exact ex0 h.i0 _ rfl (if_pos rfl)
    · rw [K.clS e', zbd_s, zbn_s, if_pos (ZOx_k (by omega)).1]
      exact ex0 h.i0 _ rfl (if_pos rfl)
  · rw [K.clS e, zbd_s, zbn_s, if_pos (ZOx_k (by omega)).1, L.isS e, zbd_s, if_neg n10]
    rcases cls_cases K.okC y with e' | ⟨m', hm', h8', rfl, e'⟩
    · rw [K.clN e', zbd_s, zbn_n, L.isN e', zbd_s]
      exact ex0 h.i0 _ rfl (if_pos rfl)
    · rw [K.clS e', zbd_s, zbn_s, if_pos (ZOx_k (by omega)).1, L.isS e', zbd_s, if_neg n10]
      obtain ⟨σ1, e1, r1, F1⟩ := k_take K hm (k := 21) (by decide)
      obtain ⟨τ1, e2, r2, G1⟩ := km_take L hm (k := 13) rfl (by decide) (by decide)
      have F1 : FR XA XB σ σ1 := F1.mono (by decide) (by decide)
      have G1 : FM MJ MA MB τ τ1 := G1.mono (by decide) (by decide) (by decide)
      have K1 := K.sc F1
      have L1 := L.sc G1
      obtain ⟨σ2, e3, r3, F2⟩ := p_mulBy K.ok K.okC K1.tm K1.cl hm' r1
      obtain ⟨τ2, e4, r4, G2⟩ := km_take L1 hm' (k := 14) rfl (by decide) (by decide)
      have F2 : FR XA XB σ1 σ2 := F2.mono (by decide) (by decide)
      have r2' := r2.fm G2 (by decide)
      have G2 : FM MJ MA MB τ1 τ2 := G2.mono (by decide) (by decide) (by decide)
      have L2 := L1.sc G2
      obtain ⟨τ3, e5, r5, G3⟩ := km_mul L2 (k1 := 13) (k2 := 14) rfl rfl (by decide) (by decide) r2' r4
      have G3 : FM MJ MA MB τ2 τ3 := G3.mono (by decide) (by decide) (by decide)
      rw [e1, zbd_s, e3, zbd_s, p_met K.ok (K1.sc F2).tm (by decide) r3, zbd_s, e2, zbd_s, e4, zbd_s, e5, zbd_s, pm_met L.ok (L2.sc G3).tm rfl r5]
      exact ⟨_, _, _, rfl, rfl, h.fin (F1.trans F2) ((G1.trans G2).trans G3)⟩
theorem s_like (x y : Int32) (h : I0 σ τ) : ∃ r σ1 τ1, f_X11_like x y σ = some (r, σ1) ∧ f_X12_like x y τ = some (r, τ1) ∧ I0 σ1 τ1 := by
  obtain ⟨S, C, h⟩ := h
  have K := h.kc
  have L := h.km
  have hM := K.M
  rw [f_X11_like, f_X12_like]
  rcases cls_cases K.okC x with e | ⟨m, hm, h8, rfl, e⟩
  · rw [K.clN e, zbd_s, zbn_n, L.isN e, zbd_s]
    rcases cls_cases K.okC y with e' | ⟨m', hm', h8', rfl, e'⟩
    · rw [K.clN e', zbd_s, zbn_n]
      exact ex0 h.i0 _ rfl (if_pos rfl)
    · rw [K.clS e', zbd_s, zbn_s, if_pos (ZOx_k (by omega)).1]
      exact ex0 h.i0 _ rfl (if_pos rfl)
  · rw [K.clS e, zbd_s, zbn_s, if_pos (ZOx_k (by omega)).1, L.isS e, zbd_s, if_neg n10]
    rcases cls_cases K.okC y with e' | ⟨m', hm', h8', rfl, e'⟩
    · rw [K.clN e', zbd_s, zbn_n, L.isN e', zbd_s]
      exact ex0 h.i0 _ rfl (if_pos rfl)
    · rw [K.clS e', zbd_s, zbn_s, if_pos (ZOx_k (by omega)).1, L.isS e', zbd_s, if_neg n10]
      obtain ⟨σ1, e1, r1, F1⟩ := k_take K hm (k := 21) (by decide)
      obtain ⟨τ1, e2, r2, G1⟩ := km_take L hm (k := 13) rfl (by decide) (by decide)
      have F1 : FR XA XB σ σ1 := F1.mono (by decide) (by decide)
      have G1 : FM MJ MA MB τ τ1 := G1.mono (by decide) (by decide) (by decide)
      have K1 := K.sc F1
      have L1 := L.sc G1
      obtain ⟨σ2, e3, r3, F2⟩ := k_take K1 hm' (k := 22) (by decide)
      obtain ⟨τ2, e4, r4, G2⟩ := km_take L1 hm' (k := 14) rfl (by decide) (by decide)
      have r1' := r1.fr F2 (by decide)
      have F2 : FR XA XB σ1 σ2 := F2.mono (by decide) (by decide)
      have r2' := r2.fm G2 (by decide)
      have G2 : FM MJ MA MB τ1 τ2 := G2.mono (by decide) (by decide) (by decide)
      have L2 := L1.sc G2
      have eL := pm_like_c L.ok L2.sh L2.tm r2' r4 S.M 0 ZF (by omega) (by unfold ZF; omega)
      rw [nI_0] at eL
      rw [e1, zbd_s, e3, zbd_s, p_areLike K.ok (K1.sc F2).tm (by decide) (by decide) r1' r3, zbd_s, e2, zbd_s, e4, zbd_s, eL]
      refine ⟨_, _, _, ?_, rfl, h.fin (F1.trans F2) (G1.trans G2)⟩
      split <;> rfl
end
