/-! ===== a LETTER's own term ===== -/
theorem letter_chk : ((List.range 6).all fun L => (List.range 5).all fun n => (List.range (L + 1)).all fun l => (pos (L + 1) (n + 1) (10 ^ l)).isSome) = true := by decide +kernel
theorem c_letter {L n l : Nat} (h : LnOk L n) (hl : l < L) : ∃ t, t < cM L n ∧ cd L n t = 10 ^ l := by
  have := ln_dec (P := fun L n => (List.range L).all fun l => (pos L n (10 ^ l)).isSome) letter_chk h
  have := List.all_eq_true.mp this l (List.mem_range.mpr hl)
  obtain ⟨t, e⟩ := Option.isSome_iff_exists.mp this
  exact ⟨t, ((pos_iff h).mp e).1, ((pos_iff h).mp e).2⟩
def ly (S : Sh) (V : Nat → Int64) : Nat → Nat → Int64
  | 0 => fun _ => 0
  | l + 1 => fun t => if S.c t = 10 ^ l then V l else ly S V l t
def KV (S : Sh) (l : Nat) : Int64 := if S.so = 2 then (if l = 0 then -6 else 2) else if S.f ≤ l then (if S.so = 0 then (nI S.n).toInt64 - 1 else 1) else -((nI (S.dm l)).toInt64 + 1)
theorem kv_1 : ∀ n, n ≤ 5 → (nI n - 1).toInt64 = (nI n).toInt64 - 1 := by decide
theorem kv_2 : ∀ n, n ≤ 5 → (-(nI n + 1)).toInt64 = -((nI n).toInt64 + 1) := by decide
section
variable {S : Sh} {C C1 : Cl} {σ σ1 τ τ1 : SS}
theorem ShOk.dm5 (h : ShOk S) (k : Nat) : S.dm k ≤ 5 := by
  have h1 := h.n5
  by_cases q : k < 3
  · have : k = 0 ∨ k = 1 ∨ k = 2 := by omega
    unfold Sh.n at h1
    rcases this with rfl | rfl | rfl <;> omega
  · rw [h.dout k (by have := h.f3; omega)]; omega
theorem k_put (K : KC S C σ) {k l : Nat} {v : Int64} (hk : Ox k = .inr (1, 462, [])) (hl : l < S.L) : ∃ t, t < S.M ∧ S.c t = 10 ^ l ∧ f_X8_putAtLetter k (nI l) v σ = some ((), zSL σ k t v) := by
  have hM := K.M
  have hL := K.ok.ln
  have hL6 : S.L ≤ 6 := hL.2.1
  obtain ⟨t, ht, e⟩ := c_letter hL hl
  refine ⟨t, ht, e, ?_⟩
  have ht' : t < S.M := ht
  rw [f_X8_putAtLetter, if_neg (nI_pos (by omega)), K.tm.L, if_pos (nI_lt hl (by omega)), if_pos (zin_nI (show l < 6 by omega) (by decide)), ztab_0 l (by omega), K.find, zbd_s, ← e, pI_cd hL ht, show oI (some t) = nI t from rfl, f_X8_putAtLetter_c31, if_neg (nI_pos (by omega)), if_pos (zok_nI hk (show t < 462 by omega) (by decide)), nI_clamp (by omega)]
theorem km_place (L : KM S C τ) {l : Nat} (hl : l < S.L) : ∃ t, t < S.M ∧ S.c t = 10 ^ l ∧ τ.1 7 (10 ^ l) = nI t ∧ 10 ^ l < 600000 := by
  have hL := L.ok.ln
  obtain ⟨t, ht, e⟩ := c_letter hL hl
  have h6 := (cd_lt hL ht).1
  refine ⟨t, ht, e, ?_, e ▸ h6⟩
  have : pos S.L S.n (10 ^ l) = some t := (pos_iff hL).mpr ⟨ht, e⟩
  rw [L.tm.place _ (e ▸ h6), this]
  rfl
theorem ly_put {V : Nat → Int64} {l t : Nat} {f : Nat → Int64} {v : Int64} (hS : ShOk S) (ht : t < S.M) (e : S.c t = 10 ^ l) (hv : v = V l) (hf : ∀ u, u < S.M → f u = ly S V l u) : ∀ u, u < S.M → vp_updL f t v u = ly S V (l + 1) u := by
  intro u hu
  show _ = if S.c u = 10 ^ l then V l else ly S V l u
  by_cases q : u = t
  · subst q
    rw [pk_uLs, if_pos e, hv]
  · rw [pk_uLn q, if_neg (fun w => q (c_inj hS hu ht (by rw [w, e]))), hf u hu]
/-! ===== the canonical class ===== -/
theorem p_kv (K : KC S C σ) {l : Nat} (hl : l < S.L) : f_X7_canonicalAt 3 (nI l) σ = some (KV S l, σ) := by
  have hso := K.ok.so
  have hf3 := K.ok.f3
  have hL6 : S.L ≤ 6 := K.ok.ln.2.1
  have h54 : f_X7_canonicalAt_c54 3 σ = some (if S.so = 0 then (nI S.n).toInt64 - 1 else 1, σ) := by
    rw [f_X7_canonicalAt_c54, if_pos (show zis Ox 7 3 = true from rfl), K.sh.so, p_dim (Or.inl rfl) K.sh, zbd_s]
    by_cases q : S.so = 0
    · rw [if_pos (show nI S.so = 0 by rw [q]; rfl), if_pos q]
    · rw [if_neg (fun w : nI S.so = 0 => q ((nI_eq (b := 0) (by omega) (by decide)).mp w)), if_neg q]
  rw [f_X7_canonicalAt, if_pos (show zis Ox 7 3 = true from rfl), K.sh.so, h54]
  unfold KV
  by_cases q2 : S.so = 2
  · rw [if_pos (show nI S.so = 2 by rw [q2]; rfl), if_pos q2]
    by_cases q : l = 0
    · rw [if_pos (show nI l = 0 by rw [q]; rfl), if_pos q]
    · rw [if_neg (fun w : nI l = 0 => q ((nI_eq (b := 0) (by omega) (by decide)).mp w)), if_neg q]
  rw [if_neg (fun w : nI S.so = 2 => q2 ((nI_eq (b := 2) (by omega) (by decide)).mp w)), if_neg q2, if_neg (nI_pos (by omega)), K.sh.f, show zrf Ox 3 3 = 15 from rfl, if_pos (show zia Ox 0 15 = true from rfl), show zlen Ox 15 = 3 from rfl]
  by_cases q : S.f ≤ l
  · rw [if_pos (nI_le q (by omega)), if_pos q]
  · rw [if_neg (nI_ge (by omega) (by omega)), if_neg q, if_neg (nI_ge (show l < 3 by omega) (by decide)), if_pos (zok_nI (show Ox 15 = .inr (0, 3, []) from rfl) (show l < 3 by omega) (by decide)), nI_clamp (by omega), K.sh.dm l (by omega)]
theorem k_canon (K : KC S C σ) {k : Nat} (hk : 21 ≤ k ∧ k ≤ 25) : ∃ σ1, f_X8_makeCanonical 3 k σ = some ((), σ1) ∧ Rw S σ1 k (ly S (KV S) S.L) ∧ FR [] [k] σ σ1 := by
  have hL6 : S.L ≤ 6 := K.ok.ln.2.1
  have key : ∀ j l n f, l + j = S.L → j < n → (∀ u, u < S.M → f u = ly S (KV S) l u) → ∃ f', f_X8_makeCanonical_c7 n 3 k (nI l) (zL σ k f) = some ((), zL σ k f') ∧ ∀ u, u < S.M → f' u = ly S (KV S) S.L u := by
    intro j
    induction j with
    | zero =>
      intro l n f hl hn hf
      obtain ⟨n, rfl⟩ : ∃ m', n = m' + 1 := ⟨n - 1, by omega⟩
      have : l = S.L := by omega
      subst this
      exact ⟨f, by rw [f_X8_makeCanonical_c7, if_pos (show zis Ox 7 3 = true from rfl), zL_1, K.tm.L, if_pos (nI_le (by omega) (by omega))], hf⟩
    | succ j ih =>
      intro l n f hl hn hf
      obtain ⟨n, rfl⟩ : ∃ m', n = m' + 1 := ⟨n - 1, by omega⟩
      have K' : KC S C (zL σ k f) := K.sc ((FR.refl σ).sL (by simp; omega) f)
      obtain ⟨t, ht, e, ep⟩ := k_put K' (l := l) (v := KV S l) (Ox_r hk) (by omega)
      rw [f_X8_makeCanonical_c7, if_pos (show zis Ox 7 3 = true from rfl), zL_1, K.tm.L, if_neg (nI_ge (by omega) (by omega)), p_kv K' (by omega), zbd_s, ep, zbd_s, nI_1, zSL_eq, zL_zL, zL_same]
      exact ih (l + 1) n _ (by omega) (by omega) (ly_put K.ok ht e rfl hf)
  obtain ⟨f, e, hf⟩ := p_zero K.ok (s := σ) hk
  obtain ⟨f', e', hf'⟩ := key S.L 0 ZF f (by omega) (by unfold ZF; omega) hf
  rw [nI_0] at e'
  rw [f_X8_makeCanonical, if_pos (show zis Ox 7 3 = true from rfl), e, zbd_s, e']
  exact ⟨_, rfl, fun t ht => by rw [zL_same]; exact hf' t ht, frL σ k f'⟩
theorem km_canon (L : KM S C τ) {k : Nat} (hk : Om k = .inr (1, 462, [])) (hB : k ∈ MB) : ∃ τ1, f_X12_layCanonical k τ = some ((), τ1) ∧ Rw S τ1 k (ly S (KV S) S.L) ∧ FM [] [] [k] τ τ1 := by
  have hL6 : S.L ≤ 6 := L.ok.ln.2.1
  have hM := L.M
  have hso := L.ok.so
  have hf3 := L.ok.f3
  have key : ∀ j l n f, l + j = S.L → j < n → (∀ u, u < S.M → f u = ly S (KV S) l u) → ∃ f', f_X12_layCanonical_c7 n k (nI l) (zL τ k f) = some ((), zL τ k f') ∧ ∀ u, u < S.M → f' u = ly S (KV S) S.L u := by
    intro j
    induction j with
    | zero =>
      intro l n f hl hn hf
      obtain ⟨n, rfl⟩ : ∃ m', n = m' + 1 := ⟨n - 1, by omega⟩
      have : l = S.L := by omega
      subst this
      have L' : KM S C (zL τ k f) := L.sc ((FM.refl τ).sL hB f)
      exact ⟨f, by rw [f_X12_layCanonical_c7, pm_letters L.ok L'.sh, zbd_s, if_pos (nI_le (by omega) (by omega))], hf⟩
    | succ j ih =>
      intro l n f hl hn hf
      obtain ⟨n, rfl⟩ : ∃ m', n = m' + 1 := ⟨n - 1, by omega⟩
      have L' : KM S C (zL τ k f) := L.sc ((FM.refl τ).sL hB f)
      obtain ⟨t, ht, e, ep, e6⟩ := km_place L' (l := l) (by omega)
      have hz := zok_nI hk (show t < 462 by omega) (by decide)
      have fin : ∀ v : Int64, v = KV S l → ∃ f', (f_X12_layCanonical_c7 n) k (nI l + 1) (zSL (zL τ k f) k t v) = some ((), zL τ k f') ∧ ∀ u, u < S.M → f' u = ly S (KV S) S.L u := by
        intro v hv
        rw [nI_1, zSL_eq, zL_zL, zL_same]
        exact ih (l + 1) n _ (by omega) (by omega) (ly_put L.ok ht e hv hf)
      rw [f_X12_layCanonical_c7, pm_letters L.ok L'.sh, zbd_s, if_neg (nI_ge (by omega) (by omega)), p_tens (by omega), zbd_s, if_pos (zin_nI e6 (by decide)), nI_clamp (by omega), ep, L'.sh.so]
      simp only [f_X12_layCanonical_c62, f_X12_layCanonical_c87, f_X12_layCanonical_c106, f_X12_layCanonical_c107, hz, if_true, nI_clamp (show t < 2 ^ 31 by omega)]
      by_cases q0 : S.so = 0
      · rw [if_pos (show nI S.so = 0 by rw [q0]; rfl), L'.sh.f q0, L'.sh.n]
        by_cases q : S.f ≤ l
        · rw [if_pos (nI_le q (by omega))]
          exact fin _ (by rw [kv_1 _ L.ok.n5]; unfold KV; rw [if_neg (by omega), if_pos q, if_pos q0])
        · rw [if_neg (nI_ge (by omega) (by omega)), if_pos (zin_nI (show l < 3 by omega) (by decide)), nI_clamp (by omega), L'.sh.dm q0 l (by omega)]
          exact fin _ (by rw [kv_2 _ (L.ok.dm5 l)]; unfold KV; rw [if_neg (by omega), if_neg q])
      rw [if_neg (fun w : nI S.so = 0 => q0 ((nI_eq (b := 0) (by omega) (by decide)).mp w))]
      by_cases q1 : S.so = 1
      · have hf := L.ok.cur (by omega)
        rw [if_pos (show nI S.so = 1 by rw [q1]; rfl)]
        by_cases q : l = 0
        · rw [if_pos (show nI l = 0 by rw [q]; rfl)]
          exact fin _ (by unfold KV; rw [if_neg (by omega), if_neg (by omega), q, L.ok.cu3 q1]; rfl)
        · rw [if_neg (fun w : nI l = 0 => q ((nI_eq (b := 0) (by omega) (by decide)).mp w))]
          exact fin _ (by unfold KV; rw [if_neg (by omega), if_pos (by omega), if_neg q0])
      have q2 : S.so = 2 := by omega
      rw [if_neg (fun w : nI S.so = 1 => q1 ((nI_eq (b := 1) (by omega) (by decide)).mp w))]
      by_cases q : l = 0
      · rw [if_pos (show nI l = 0 by rw [q]; rfl)]
        exact fin _ (by unfold KV; rw [if_pos q2, if_pos q])
      · rw [if_neg (fun w : nI l = 0 => q ((nI_eq (b := 0) (by omega) (by decide)).mp w))]
        exact fin _ (by unfold KV; rw [if_pos q2, if_neg q])
  obtain ⟨f, e, hf⟩ := pm_empty L.ok L.tm hk
  obtain ⟨f', e', hf'⟩ := key S.L 0 ZF f (by omega) (by unfold ZF; omega) hf
  rw [nI_0] at e'
  rw [f_X12_layCanonical, e, zbd_s, e']
  exact ⟨_, rfl, fun t ht => by rw [zL_same]; exact hf' t ht, fmL τ k f'⟩
/-! ===== a class COMES ===== -/
def Cl.add (C : Cl) (v : Nat → Int64) : Cl := (C.mm + 1, (fun m => if m = C.mm then 0 else C.kd m), (fun m => if m = C.mm then 0 else C.fg m), fun m => if m = C.mm then v else C.tl m)
theorem Cl.add_ok (h : ClOk C) (hm : C.mm < 8) (v : Nat → Int64) : ClOk (C.add v) := by
  refine ⟨by show C.mm + 1 ≤ 8; omega, fun m => ?_, fun m => ?_⟩
  · show (if m = C.mm then 0 else C.kd m) ≤ 5
    split
    · decide
    · exact h.k5 m
  · show (if m = C.mm then 0 else C.fg m) ≤ 9
    split
    · decide
    · exact h.f9 m
theorem k_bring (K : KC S C σ) {v : Nat → Int64} (hm : C.mm < 8) (hv : Rw S σ 21 v) : ∃ σ1, f_X11_bringAll σ = some ((), σ1) ∧ FR [1, 30, 31, 32, 33, 34, 35, 36, 37] [46, 47, 48, 49, 50, 51, 52, 53] σ σ1 ∧ σ1.1 1 2 = nI (C.mm + 1) ∧ ClC S (C.add v) 30 46 σ1 := by
  have hM := K.M
  obtain ⟨z1, z2⟩ := ZOx_13 hm
  obtain ⟨y1, y2, y3⟩ := ZOx_k (m := C.mm) (by omega)
  have a1 : ∀ f : Nat → Int64, (zL (zS (zS σ (30 + C.mm) 0 0) (30 + C.mm) 1 0) (46 + C.mm) f).1 1 2 = nI C.mm := fun f => by
    rw [zL_1, zS_1, if_neg (by omega), zS_1, if_neg (by omega)]; exact K.mm
  rw [f_X11_bringAll, f_X3_bring, if_pos (show zis Ox 3 1 = true from rfl), K.mm, if_pos (show nI C.mm < 8 from nI_lt (b := 8) hm (by decide)), show zrf Ox 1 1 = 13 from rfl, if_pos z1, z2, if_pos y1, f_X4_clear, if_pos y1, y2, p_fillL 0 y3 (by decide), zbd_s, zbd_s, zbd_s, zbn_s, if_pos y1, a1, nI_1, y2]
  have F1 : FR [1, 30, 31, 32, 33, 34, 35, 36, 37] [46, 47, 48, 49, 50, 51, 52, 53] σ (zS (zL (zS (zS σ (30 + C.mm) 0 0) (30 + C.mm) 1 0) (46 + C.mm) (fun j => if j < 462 then 0 else (zS (zS σ (30 + C.mm) 0 0) (30 + C.mm) 1 0).2 (46 + C.mm) j)) 1 2 (nI (C.mm + 1))) := ((((FR.refl σ).sS (by simp; omega) _ _).sS (by simp; omega) _ _).sL (by simp; omega) _).sS (by simp) _ _
  generalize hs : zS (zL (zS (zS σ (30 + C.mm) 0 0) (30 + C.mm) 1 0) (46 + C.mm) (fun j => if j < 462 then 0 else (zS (zS σ (30 + C.mm) 0 0) (30 + C.mm) 1 0).2 (46 + C.mm) j)) 1 2 (nI (C.mm + 1)) = s at *
  have e6 : s.1 6 2 = nI S.M := by rw [F1.1 6 (by decide)]; exact K.tm.M
  have e21 : s.2 21 = σ.2 21 := F1.2 21 (by decide)
  have emm : s.1 1 2 = nI (C.mm + 1) := by rw [← hs, zS_1, if_pos ⟨rfl, rfl⟩]
  have ek : ∀ j m, m < C.mm → s.1 (30 + m) j = σ.1 (30 + m) j := fun j m hm => by
    rw [← hs, zS_1, if_neg (by omega), zL_1, zS_1, if_neg (by omega), zS_1, if_neg (by omega)]
  have ek0 : s.1 (30 + C.mm) 0 = 0 := by
    rw [← hs, zS_1, if_neg (by omega), zL_1, zS_1, if_neg (by omega), zS_1, if_pos ⟨rfl, rfl⟩]
  have ek1 : s.1 (30 + C.mm) 1 = 0 := by
    rw [← hs, zS_1, if_neg (by omega), zL_1, zS_1, if_pos ⟨rfl, rfl⟩]
  have el : ∀ m, m < C.mm → s.2 (46 + m) = σ.2 (46 + m) := fun m hm => by
    rw [← hs, zS_2, zL_ne' _ _ (by omega)]; rfl
  rw [e6, if_pos (zok2_n (show Ox 21 = .inr (1, 462, []) from rfl) y3 hM hM (by omega)), nI_clamp (by omega)]
  refine ⟨_, rfl, F1.sL (by simp; omega) _, emm, fun m hm' => ?_, fun m hm' => ?_, fun m hm' t ht => ?_⟩
  · show _ = nI (if m = C.mm then 0 else C.kd m)
    rw [zL_1]
    by_cases q : m = C.mm
    · rw [if_pos q, q]; exact ek0
    · have : m < C.mm := by (have : m < C.mm + 1 := hm'); omega
      rw [if_neg q, ek 0 m this]; exact K.cl.kd m this
  · show _ = nI (if m = C.mm then 0 else C.fg m)
    rw [zL_1]
    by_cases q : m = C.mm
    · rw [if_pos q, q]; exact ek1
    · have : m < C.mm := by (have : m < C.mm + 1 := hm'); omega
      rw [if_neg q, ek 1 m this]; exact K.cl.fg m this
  · show _ = (if m = C.mm then v else C.tl m) t
    by_cases q : m = C.mm
    · rw [if_pos q, q, zL_same, show ((0 : Int32)).toNatClampNeg = 0 from rfl, cpy_0, if_pos ht, e21]
      exact hv t ht
    · have : m < C.mm := by (have : m < C.mm + 1 := hm'); omega
      rw [if_neg q, zL_ne' _ _ (by omega), el m this]; exact K.cl.tl m this t ht
theorem km_comes (L : KM S C τ) {v : Nat → Int64} {k : Nat} (hk : Om k = .inr (1, 462, [])) (h10 : k ≠ 10) (hm : C.mm < 8) (hv : Rw S τ k v) : ∃ τ1, f_X12_comes k τ = some (nI C.mm, τ1) ∧ FM [12] [8, 9] [10] τ τ1 ∧ ClM S (C.add v) τ1 := by
  have hM := L.M
  have key : ∀ j i n f, i + j = S.M → j < n → (∀ m, m < C.mm → ∀ t, t < S.M → f (462 * m + t) = C.tl m t) → (∀ t, t < i → f (462 * C.mm + t) = v t) → ∃ τ1, f_X12_comes_c2 n k (nI i) (zL τ 10 f) = some (nI C.mm, τ1) ∧ FM [12] [8, 9] [10] τ τ1 ∧ ClM S (C.add v) τ1 := by
    intro j
    induction j with
    | zero =>
      intro i n f hi hn hf1 hf2
      obtain ⟨n, rfl⟩ : ∃ m', n = m' + 1 := ⟨n - 1, by omega⟩
      have : i = S.M := by omega
      subst this
      have hz := zin_nI hm (show 8 ≤ 2 ^ 31 by decide)
      have e1 : (zS (zL τ 10 f) 8 C.mm 0).1 0 12 = nI C.mm := by rw [zS_1, if_neg (fun q => absurd q.1 (by decide)), zL_1]; exact L.cl.mm
      have e2 : (zS (zS (zL τ 10 f) 8 C.mm 0) 9 C.mm 0).1 0 12 = nI C.mm := by rw [zS_1, if_neg (fun q => absurd q.1 (by decide))]; exact e1
      have e3 : (zS (zS (zS (zL τ 10 f) 8 C.mm 0) 9 C.mm 0) 0 12 (nI (C.mm + 1))).1 0 12 = nI (C.mm + 1) := by rw [zS_1, if_pos ⟨rfl, rfl⟩]
      rw [f_X12_comes_c2, zL_1, L.tm.M, if_pos (nI_le (by omega) (by omega)), L.cl.mm, if_pos hz, nI_clamp (by omega), e1, if_pos hz, nI_clamp (by omega), e2, nI_1, e3, nI_pred]
      have G : FM [12] [8, 9] [10] τ (zS (zS (zS (zL τ 10 f) 8 C.mm 0) 9 C.mm 0) 0 12 (nI (C.mm + 1))) := ((((FM.refl τ).sL (by simp) _).sS (by decide) (by simp) _ _).sS (by decide) (by simp) _ _).sO (by simp) _
      refine ⟨_, rfl, G, e3, fun m hm' => ?_, fun m hm' => ?_, fun m hm' t ht => ?_⟩
      · show _ = nI (if m = C.mm then 0 else C.kd m)
        rw [zS_1, if_neg (by simp), zS_1, if_neg (by simp), zS_1, zL_1]
        by_cases q : m = C.mm
        · rw [if_pos q, if_pos ⟨rfl, q⟩]; rfl
        · have : m < C.mm := by (have : m < C.mm + 1 := hm'); omega
          rw [if_neg q, if_neg (fun w => q w.2)]; exact L.cl.kd m this
      · show _ = nI (if m = C.mm then 0 else C.fg m)
        rw [zS_1, if_neg (by simp), zS_1, zS_1, zL_1]
        by_cases q : m = C.mm
        · rw [if_pos q, if_pos ⟨rfl, q⟩]; rfl
        · have : m < C.mm := by (have : m < C.mm + 1 := hm'); omega
          rw [if_neg q, if_neg (fun w => q w.2), if_neg (by simp)]; exact L.cl.fg m this
      · show _ = (if m = C.mm then v else C.tl m) t
        rw [zS_2, zS_2, zS_2, zL_same]
        by_cases q : m = C.mm
        · rw [if_pos q, q]; exact hf2 t ht
        · have : m < C.mm := by (have : m < C.mm + 1 := hm'); omega
          rw [if_neg q]; exact hf1 m this t ht
    | succ j ih =>
      intro i n f hi hn hf1 hf2
      obtain ⟨n, rfl⟩ : ∃ m', n = m' + 1 := ⟨n - 1, by omega⟩
      rw [f_X12_comes_c2, zL_1, L.tm.M, if_neg (nI_ge (by omega) (by omega)), if_pos (zok_nI hk (show i < 462 by omega) (by decide)), L.cl.mm, show (462 : Int32) = nI 462 from rfl, pk_mul, nI_add, if_pos (zin_nI (by omega) (by decide)), nI_clamp (by omega), nI_clamp (by omega), zL_ne' _ _ h10, hv i (by omega), nI_1, zSL_eq, zL_zL, zL_same]
      refine ih (i + 1) n _ (by omega) (by omega) (fun m hm' t ht => ?_) (fun t ht => ?_)
      · rw [pk_uLn (by omega)]; exact hf1 m hm' t ht
      · by_cases q : t = i
        · rw [q, pk_uLs]
        · rw [pk_uLn (by omega)]; exact hf2 t (by omega)
  obtain ⟨τ1, e, h⟩ := key S.M 0 ZF (τ.2 10) (by omega) (by unfold ZF; omega) (fun m hm' t ht => L.cl.tl m hm' t ht) (fun t ht => absurd ht (by omega))
  rw [nI_0, zL_self] at e
  exact ⟨τ1, e, h⟩
end
