section
variable {S : Sh} {C : Cl} {σ σ1 τ τ1 : SS}
/-! ===== OF ===== -/
def zsh (v : Nat → Int64) : Nat → Int32
  | 0 => 0
  | i + 1 => if v i = 0 then zsh v i else zsh v i + 1
def zgr (S : Sh) (v : Nat → Int64) : Nat → Int32
  | 0 => -2
  | i + 1 => if v i = 0 then zgr S v i else if nI (sz (S.c i)) ≤ zgr S v i then zgr S v i else nI (sz (S.c i))
def zle (S : Sh) (v : Nat → Int64) : Nat → Int32
  | 0 => -2
  | i + 1 => if v i = 0 then zle S v i else if zle S v i = -2 then nI (sz (S.c i)) else if zle S v i ≤ nI (sz (S.c i)) then zle S v i else nI (sz (S.c i))
theorem p_shown (K : KC S C σ) {m : Nat} (hm : m < C.mm) : f_X4_shown (30 + m) σ = some (zsh (num S C m) S.M, σ) := by
  have hM := K.M
  have h8 := K.okC.m8
  have hz := (ZOx_k (m := m) (by omega)).1
  have key : ∀ j i n, i + j = S.M → j < n → f_X4_shown_c4 n (30 + m) (zsh (num S C m) i) (nI i) σ = some (zsh (num S C m) S.M, σ) := by
    intro j
    induction j with
    | zero =>
      intro i n hi hn
      obtain ⟨n, rfl⟩ : ∃ m', n = m' + 1 := ⟨n - 1, by omega⟩
      rw [f_X4_shown_c4, if_pos hz, K.tm.M, if_pos (nI_le (by omega) (by omega)), show i = S.M by omega]
    | succ j ih =>
      intro i n hi hn
      obtain ⟨n, rfl⟩ : ∃ m', n = m' + 1 := ⟨n - 1, by omega⟩
      rw [f_X4_shown_c4, if_pos hz, K.tm.M, if_neg (nI_ge (by omega) (by omega)), p_num K.ok K.okC K.tm K.cl hm (show i < S.M by omega), zbd_s, f_X4_shown_c29, if_pos hz, f_X4_shown_c29, if_pos hz, nI_1, Int32.add_zero, ← ih (i + 1) n (by omega) (by omega), zsh]
      by_cases q : num S C m i = 0
      · rw [if_pos ((lg_cmp_eq _ _).mpr q), if_pos q]
      · rw [if_neg (fun w => q ((lg_cmp_eq _ _).mp w)), if_neg q]
  rw [f_X4_shown, if_pos hz]
  exact key S.M 0 ZF (by omega) (by unfold ZF; omega)
theorem p_great (K : KC S C σ) {m : Nat} (hm : m < C.mm) : f_X4_greatestSize (30 + m) σ = some (zgr S (num S C m) S.M, σ) := by
  have hM := K.M
  have h8 := K.okC.m8
  have hz := (ZOx_k (m := m) (by omega)).1
  have key : ∀ j i n, i + j = S.M → j < n → f_X4_greatestSize_c5 n (30 + m) (zgr S (num S C m) i) (nI i) σ = some (zgr S (num S C m) S.M, σ) := by
    intro j
    induction j with
    | zero =>
      intro i n hi hn
      obtain ⟨n, rfl⟩ : ∃ m', n = m' + 1 := ⟨n - 1, by omega⟩
      rw [f_X4_greatestSize_c5, if_pos hz, K.tm.M, if_pos (nI_le (by omega) (by omega)), show i = S.M by omega]
    | succ j ih =>
      intro i n hi hn
      obtain ⟨n, rfl⟩ : ∃ m', n = m' + 1 := ⟨n - 1, by omega⟩
      rw [f_X4_greatestSize_c5, if_pos hz, K.tm.M, if_neg (nI_ge (by omega) (by omega)), p_num K.ok K.okC K.tm K.cl hm (show i < S.M by omega), zbd_s, f_X4_greatestSize_c35, if_pos hz, f_X4_greatestSize_c35, if_pos hz, if_pos (zin_nI (show i < 462 by omega) (by decide)), nI_clamp (by omega), K.tm.size i (by omega), nI_1, ← ih (i + 1) n (by omega) (by omega), zgr]
      by_cases q : num S C m i = 0
      · rw [if_pos ((lg_cmp_eq _ _).mpr q), if_pos q]
      · rw [if_neg (fun w => q ((lg_cmp_eq _ _).mp w)), if_neg q]
        by_cases w : zgr S (num S C m) i < nI (sz (S.c i))
        · rw [if_pos w, if_neg (Int32.not_le.mpr w)]
        · rw [if_neg w, if_pos (Int32.not_lt.mp w)]
  rw [f_X4_greatestSize, if_pos hz]
  exact key S.M 0 ZF (by omega) (by unfold ZF; omega)
theorem p_least (K : KC S C σ) {m : Nat} (hm : m < C.mm) : f_X4_leastSize (30 + m) σ = some (zle S (num S C m) S.M, σ) := by
  have hM := K.M
  have h8 := K.okC.m8
  have hz := (ZOx_k (m := m) (by omega)).1
  have key : ∀ j i n, i + j = S.M → j < n → f_X4_leastSize_c5 n (30 + m) (zle S (num S C m) i) (nI i) σ = some (zle S (num S C m) S.M, σ) := by
    intro j
    induction j with
    | zero =>
      intro i n hi hn
      obtain ⟨n, rfl⟩ : ∃ m', n = m' + 1 := ⟨n - 1, by omega⟩
      rw [f_X4_leastSize_c5, if_pos hz, K.tm.M, if_pos (nI_le (by omega) (by omega)), show i = S.M by omega]
    | succ j ih =>
      intro i n hi hn
      obtain ⟨n, rfl⟩ : ∃ m', n = m' + 1 := ⟨n - 1, by omega⟩
      rw [f_X4_leastSize_c5, if_pos hz, K.tm.M, if_neg (nI_ge (by omega) (by omega)), p_num K.ok K.okC K.tm K.cl hm (show i < S.M by omega), zbd_s, ← ih (i + 1) n (by omega) (by omega), zle]
      simp only [f_X4_leastSize_c40, f_X4_leastSize_c47, hz, if_true, zin_nI (show i < 462 by omega) (show 462 ≤ 2 ^ 31 by decide), nI_clamp (show i < 2 ^ 31 by omega), K.tm.size i (by omega), nI_1]
      by_cases q : num S C m i = 0
      · rw [if_pos ((lg_cmp_eq _ _).mpr q), if_pos q]
      · rw [if_neg (fun w => q ((lg_cmp_eq _ _).mp w)), if_neg q]
        by_cases w : zle S (num S C m) i = -2
        · rw [if_pos w, if_pos w]
        · rw [if_neg w, if_neg w]
          by_cases w2 : zle S (num S C m) i ≤ nI (sz (S.c i))
          · rw [if_pos w2, if_pos w2]
          · rw [if_neg w2, if_neg w2]
  rw [f_X4_leastSize, if_pos hz]
  exact key S.M 0 ZF (by omega) (by unfold ZF; omega)
theorem pm_of_c (L : KM S C τ) {m : Nat} (hm : m < C.mm) (y : Int32) : f_X12_of_c36 ZF (nI m) y 0 (-2) (-2) 0 τ = some (if y = 0 then nI (C.kd m) else if y = 1 then nI (C.fg m) else if y = 2 then zsh (num S C m) S.M else if y = 3 then zgr S (num S C m) S.M else zle S (num S C m) S.M, τ) := by
  have hM := L.M
  have h8 := L.okC.m8
  have key : ∀ j i n, i + j = S.M → j < n → f_X12_of_c36 n (nI m) y (zsh (num S C m) i) (zgr S (num S C m) i) (zle S (num S C m) i) (nI i) τ = some (if y = 0 then nI (C.kd m) else if y = 1 then nI (C.fg m) else if y = 2 then zsh (num S C m) S.M else if y = 3 then zgr S (num S C m) S.M else zle S (num S C m) S.M, τ) := by
    intro j
    induction j with
    | zero =>
      intro i n hi hn
      obtain ⟨n, rfl⟩ : ∃ m', n = m' + 1 := ⟨n - 1, by omega⟩
      have : i = S.M := by omega
      subst this
      rw [f_X12_of_c36, L.tm.M, if_pos (nI_le (by omega) (by omega)), if_pos (zin_nI (show m < 8 by omega) (by decide)), if_pos (zin_nI (show m < 8 by omega) (by decide)), nI_clamp (by omega), L.cl.kd m hm, L.cl.fg m hm]
      by_cases q0 : y = 0
      · rw [if_pos q0, if_pos q0]
      rw [if_neg q0, if_neg q0]
      by_cases q1 : y = 1
      · rw [if_pos q1, if_pos q1]
      rw [if_neg q1, if_neg q1]
      by_cases q2 : y = 2
      · rw [if_pos q2, if_pos q2]
      rw [if_neg q2, if_neg q2]
      by_cases q3 : y = 3
      · rw [if_pos q3, if_pos q3]
      rw [if_neg q3, if_neg q3]
    | succ j ih =>
      intro i n hi hn
      obtain ⟨n, rfl⟩ : ∃ m', n = m' + 1 := ⟨n - 1, by omega⟩
      have hz := zin_nI (show i < 462 by omega) (by decide)
      rw [f_X12_of_c36, L.tm.M, if_neg (nI_ge (by omega) (by omega)), pm_num L.ok L.okC L.sh L.tm L.cl hm (show i < S.M by omega), zbd_s, ← ih (i + 1) n (by omega) (by omega)]
      simp only [f_X12_of_c119, f_X12_of_c84, f_X12_of_c105, f_X12_of_c117, hz, if_true, nI_clamp (show i < 2 ^ 31 by omega), L.tm.size i (by omega), nI_1, zsh, zgr, zle]
      by_cases q : num S C m i = 0
      · rw [if_pos ((lg_cmp_eq _ _).mpr q), if_pos q, if_pos q, if_pos q]
      · rw [if_neg (fun w => q ((lg_cmp_eq _ _).mp w)), if_neg q, if_neg q, if_neg q]
        by_cases w : nI (sz (S.c i)) ≤ zgr S (num S C m) i
        · rw [if_pos w, if_pos w]
          by_cases w1 : zle S (num S C m) i = -2
          · rw [if_pos w1, if_pos w1]
          · rw [if_neg w1, if_neg w1]
            by_cases w2 : zle S (num S C m) i ≤ nI (sz (S.c i))
            · rw [if_pos w2, if_pos w2]
            · rw [if_neg w2, if_neg w2]
        · rw [if_neg w, if_neg w]
          by_cases w1 : zle S (num S C m) i = -2
          · rw [if_pos w1, if_pos w1]
          · rw [if_neg w1, if_neg w1]
            by_cases w2 : zle S (num S C m) i ≤ nI (sz (S.c i))
            · rw [if_pos w2, if_pos w2]
            · rw [if_neg w2, if_neg w2]
  exact key S.M 0 ZF (by omega) (by unfold ZF; omega)
theorem s_of (x y : Int32) (h : I0 σ τ) : ∃ r σ1 τ1, f_X11_of x y σ = some (r, σ1) ∧ f_X12_of x y τ = some (r, τ1) ∧ I0 σ1 τ1 := by
  obtain ⟨S, C, h⟩ := h
  have K := h.kc
  have L := h.km
  rw [f_X11_of, f_X12_of]
  rcases cls_cases K.okC x with e | ⟨m, hm, h8, rfl, e⟩
  · rw [K.clN e, zbd_s, zbn_n, L.isN e, zbd_s]
    exact ex0 h.i0 _ rfl (if_pos rfl)
  rw [K.clS e, zbd_s, zbn_s, if_pos (ZOx_k (by omega)).1, L.isS e, zbd_s, if_neg n10, pm_in32 y 0 4 0 4 rfl rfl, zbd_s, pm_of_c L hm, K.cl.kd m hm, K.cl.fg m hm, p_shown K hm, p_great K hm, p_least K hm]
  by_cases q0 : y = 0
  · subst q0
    exact ex0 h.i0 _ rfl rfl
  rw [if_neg q0, if_neg q0]
  by_cases q1 : y = 1
  · subst q1
    exact ex0 h.i0 _ rfl rfl
  rw [if_neg q1, if_neg q1]
  by_cases q2 : y = 2
  · subst q2
    exact ex0 h.i0 _ rfl rfl
  rw [if_neg q2, if_neg q2]
  by_cases q3 : y = 3
  · subst q3
    exact ex0 h.i0 _ rfl rfl
  rw [if_neg q3, if_neg q3]
  by_cases q4 : y = 4
  · subst q4
    exact ex0 h.i0 _ rfl rfl
  rw [if_neg q4, if_neg (fun w : 0 ≤ y ∧ y ≤ 4 => by
    obtain ⟨v, hv, rfl⟩ : ∃ v, v < 2 ^ 31 ∧ y = nI v := by
      rcases nI_cases y with w' | w'
      · exact absurd w' (Int32.not_lt.mpr w.1)
      · exact w'
    have h1 : v ≤ 4 := (nI_leI hv (b := 4) (by decide)).mp w.2
    have : v = 0 ∨ v = 1 ∨ v = 2 ∨ v = 3 ∨ v = 4 := by omega
    rcases this with rfl | rfl | rfl | rfl | rfl
    · exact q0 rfl
    · exact q1 rfl
    · exact q2 rfl
    · exact q3 rfl
    · exact q4 rfl)]
  exact ex0 h.i0 _ rfl (if_pos rfl)
/-! ===== SELF ===== -/
theorem pm_self_c (S : Sh) (C : Cl) {v w : Nat → Int64} : ∀ j i n k τ, KM S C τ → Rw S τ 13 (pw S v w i) → Rw S τ 14 w → i + j = k → k < 1000 → j < n → ∃ τ1, f_X12_self_c44 n (nI k) (nI i) τ = some (mt S (pw S v w k), τ1) ∧ FM MJ MA MB τ τ1 := by
  intro j
  induction j with
  | zero =>
    intro i n k τ L r1 r2 hi hk hn
    obtain ⟨n, rfl⟩ : ∃ m', n = m' + 1 := ⟨n - 1, by omega⟩
    have : i = k := by omega
    subst this
    rw [f_X12_self_c44, if_pos (nI_le (by omega) (by omega)), pm_met L.ok L.tm rfl r1, zbd_s]
    exact ⟨τ, rfl, FM.refl τ⟩
  | succ j ih =>
    intro i n k τ L r1 r2 hi hk hn
    obtain ⟨n, rfl⟩ : ∃ m', n = m' + 1 := ⟨n - 1, by omega⟩
    obtain ⟨τ1, e, r3, G⟩ := km_mul L (k1 := 13) (k2 := 14) rfl rfl (by decide) (by decide) r1 r2
    have r4 := r2.fm G (by decide)
    have G : FM MJ MA MB τ τ1 := G.mono (by decide) (by decide) (by decide)
    rw [f_X12_self_c44, if_neg (nI_ge (by omega) (by omega)), e, zbd_s, nI_1]
    obtain ⟨τ2, e2, G2⟩ := ih (i + 1) n k τ1 (L.sc G) r3 r4 (by omega) hk (by omega)
    exact ⟨τ2, e2, G.trans G2⟩
theorem s_self (x y : Int32) (h : I0 σ τ) : ∃ r σ1 τ1, f_X11_self x y σ = some (r, σ1) ∧ f_X12_self x y τ = some (r, τ1) ∧ I0 σ1 τ1 := by
  obtain ⟨S, C, h⟩ := h
  have K := h.kc
  have L := h.km
  rw [f_X11_self, f_X12_self]
  rcases cls_cases K.okC x with e | ⟨m, hm, h8, rfl, e⟩
  · rw [K.clN e, zbd_s, zbn_n, L.isN e, zbd_s]
    exact ex0 h.i0 _ rfl (if_pos rfl)
  rw [K.clS e, zbd_s, zbn_s, if_pos (ZOx_k (by omega)).1, L.isS e, zbd_s, if_neg n10, pm_in32 y 0 6 0 6 rfl rfl, zbd_s]
  rcases nI_cases y with q | ⟨i, hi, rfl⟩
  · rw [if_pos q, if_neg (fun w : 0 ≤ y ∧ y ≤ 6 => absurd q (Int32.not_lt.mpr w.1))]
    exact ex0 h.i0 _ rfl (if_pos rfl)
  rw [if_neg (nI_pos hi)]
  by_cases q : i ≤ 6
  · have q' : nI i ≤ 6 := nI_le (b := 6) q (by decide)
    rw [if_pos q', if_pos (show 0 ≤ nI i ∧ nI i ≤ 6 from ⟨nI_pos' hi, q'⟩), if_neg n10]
    obtain ⟨σ1, e1, r1, F1⟩ := p_pow K.ok K.okC K.tm K.cl (k := i) hm (by omega)
    have F1 : FR XA XB σ σ1 := F1.mono (by decide) (by decide)
    obtain ⟨τ1, e2, r2, G1⟩ := km_one L (k := 13) rfl (by decide)
    have G1 : FM MJ MA MB τ τ1 := G1.mono (by decide) (by decide) (by decide)
    have L1 := L.sc G1
    obtain ⟨τ2, e3, r3, G2⟩ := km_take L1 hm (k := 14) rfl (by decide) (by decide)
    have r2' := r2.fm G2 (by decide)
    have G2 : FM MJ MA MB τ1 τ2 := G2.mono (by decide) (by decide) (by decide)
    obtain ⟨τ3, e4, G3⟩ := pm_self_c S C i 0 ZF i τ2 (L1.sc G2) r2' r3 (by omega) (by omega) (by unfold ZF; omega)
    rw [nI_0] at e4
    rw [e1, zbd_s, p_met K.ok (K.sc F1).tm (by decide) r1, zbd_s, e2, zbd_s, e3, zbd_s, e4]
    exact ⟨_, _, _, rfl, rfl, h.fin F1 ((G1.trans G2).trans G3)⟩
  · rw [if_neg (fun w : nI i ≤ 6 => q ((nI_leI hi (b := 6) (by decide)).mp w)), if_neg (fun w : 0 ≤ nI i ∧ nI i ≤ 6 => q ((nI_leI hi (b := 6) (by decide)).mp w.2))]
    exact ex0 h.i0 _ rfl (if_pos rfl)
end
