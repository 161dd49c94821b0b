section
variable {S : Sh} {C : Cl} {σ σ1 τ τ1 : SS}
theorem w_cases {w : Int32} (h1 : ¬ w < -1) (h2 : w ≤ 1) : w = -1 ∨ w = 0 ∨ w = 1 := by
  rw [Int32.lt_iff_toInt_lt] at h1
  rw [Int32.le_iff_toInt_le] at h2
  have e1 : (-1 : Int32).toInt = -1 := rfl
  have e2 : (1 : Int32).toInt = 1 := rfl
  have : w.toInt = -1 ∨ w.toInt = 0 ∨ w.toInt = 1 := by omega
  rcases this with e | e | e
  · exact Or.inl (Int32.toInt_inj.mp e)
  · exact Or.inr (Or.inl (Int32.toInt_inj.mp e))
  · exact Or.inr (Or.inr (Int32.toInt_inj.mp e))
theorem lm_zero {l : Nat} (hl : l < 3) (s : SS) : ∀ j i n f, i + j = 20 → j < n → (∀ q, f q = if 20 * l ≤ q ∧ q < 20 * l + i then 0 else s.2 24 q) →
    ∃ f', f_X12_list_c67 n (nI l) (nI i) (zL s 24 f) = some (1, zL s 24 f') ∧ ∀ q, f' q = if 20 * l ≤ q ∧ q < 20 * l + 20 then 0 else s.2 24 q := by
  intro j
  induction j with
  | zero =>
    intro i n f hi hn hf
    obtain ⟨n, rfl⟩ : ∃ m', n = m' + 1 := ⟨n - 1, by omega⟩
    have : i = 20 := by omega
    subst this
    exact ⟨f, by rw [f_X12_list_c67, if_pos (show (20 : Int32) ≤ nI 20 by decide)], hf⟩
  | succ j ih =>
    intro i n f hi hn hf
    obtain ⟨n, rfl⟩ : ∃ m', n = m' + 1 := ⟨n - 1, by omega⟩
    rw [f_X12_list_c67, if_neg (show ¬ (20 : Int32) ≤ nI i from nI_ge (b := 20) (by omega) (by decide)), i60, if_pos (zin_nI (by omega) (by decide)), nI_clamp (by omega), nI_1, zSL_eq, zL_zL, zL_same]
    refine ih (i + 1) n _ (by omega) (by omega) (fun q => ?_)
    by_cases e : q = 20 * l + i
    · subst e
      rw [pk_uLs, if_pos (by omega)]
    · rw [pk_uLn e, hf q]
      by_cases w : 20 * l ≤ q ∧ q < 20 * l + i
      · rw [if_pos w, if_pos (by omega)]
      · rw [if_neg w, if_neg (by omega)]
theorem list_key (h : Inv S C σ τ) {l z : Nat} {w : Int32} (hl : l < 3) (hw : w = -1 ∨ w = 0 ∨ w = 1) (hz : z ≤ 20) (h0 : w = -1 → z = 0) : ∃ r σ1 τ1, f_X11_list_c64 (nI z) w (nI l) σ = some (r, σ1) ∧ f_X12_list_c63 (nI l) (nI z) (nI l) (zS τ 22 l w) = some (r, τ1) ∧ I0 σ1 τ1 := by
  obtain ⟨z1, z2, z3⟩ := ZOx_29 hl
  rw [f_X11_list_c64, f_X5_become, l_oneS hl, zbd_s, if_neg n10, if_pos (zin_nI hl (by decide)), if_pos (zin_nI hl (by decide)), if_pos z1, z2, nI_clamp (by omega), p_fillL 0 z3 (by decide), zbd_s, zbd_s]
  rw [f_X12_list_c63, if_pos (zin_nI hl (by decide)), nI_clamp (by omega)]
  obtain ⟨f', e, hf'⟩ := lm_zero hl (zS (zS τ 22 l w) 23 l (nI z)) 20 0 ZF ((zS (zS τ 22 l w) 23 l (nI z)).2 24) (by omega) (by unfold ZF; omega) (fun q => by rw [if_neg (by omega)])
  rw [nI_0, zL_self] at e
  have F : FR [27, 28] [77, 78, 79] σ (zL (zS (zS σ 27 l w) 28 l (nI z)) (77 + l) (fun j => if j < 20 then 0 else (zS (zS σ 27 l w) 28 l (nI z)).2 (77 + l) j)) := (((FR.refl σ).sS (by simp) _ _).sS (by simp) _ _).sL (by simp; omega) _
  have G : FM [] [22, 23] [24, 39] τ (zL (zS (zS τ 22 l w) 23 l (nI z)) 24 f') := (((FM.refl τ).sS (by decide) (by simp) _ _).sS (by decide) (by simp) _ _).sL (by simp) _
  refine ⟨1, _, _, rfl, e, S, C, h.lis0 F (by decide) G ?_⟩
  intro l' hl'
  obtain ⟨z', D'⟩ := h.lis l' hl'
  by_cases q : l' = l
  · subst q
    refine ⟨z, ?_, ?_, hz, ?_, ?_, ?_, fun i hi => ?_⟩
    · rw [zL_1, zS_1, if_neg (fun q => absurd q.1 (by decide)), zS_1, if_pos ⟨rfl, rfl⟩]; exact hw
    · rw [zL_1, zL_1, zS_1, if_neg (fun q => absurd q.1 (by decide)), zS_1, if_pos ⟨rfl, rfl⟩, zS_1, if_neg (fun q => absurd q.1 (by decide)), zS_1, if_pos ⟨rfl, rfl⟩]
    · rw [zL_1, zS_1, if_pos ⟨rfl, rfl⟩]
    · rw [zL_1, zS_1, if_pos ⟨rfl, rfl⟩]
    · rw [zL_1, zS_1, if_neg (fun q => absurd q.1 (by decide)), zS_1, if_pos ⟨rfl, rfl⟩]; exact h0
    · rw [zL_same, zL_same, if_pos hi, hf', if_pos (by omega)]
  · have a1 : ∀ a b : Nat, ¬ (a = b ∧ l' = l) := fun a b w => q w.2
    refine ⟨z', ?_, ?_, D'.zl, ?_, ?_, ?_, fun i hi => ?_⟩
    · rw [zL_1, zS_1, if_neg (a1 _ _), zS_1, if_neg (a1 _ _)]; exact D'.so
    · rw [zL_1, zL_1, zS_1, if_neg (a1 _ _), zS_1, if_neg (a1 _ _), zS_1, if_neg (a1 _ _), zS_1, if_neg (a1 _ _)]; exact D'.sM
    · rw [zL_1, zS_1, if_neg (a1 _ _), zS_1, if_neg (a1 _ _)]; exact D'.zC
    · rw [zL_1, zS_1, if_neg (a1 _ _), zS_1, if_neg (a1 _ _)]; exact D'.zM
    · rw [zL_1, zS_1, if_neg (a1 _ _), zS_1, if_neg (a1 _ _)]; exact D'.z0
    · rw [zL_same, zL_ne' _ _ (show 77 + l' ≠ 77 + l by omega), hf', if_neg (by omega)]
      exact D'.n i hi
theorem s_list (x w y : Int32) (h : I0 σ τ) : ∃ r σ1 τ1, f_X11_list x w y σ = some (r, σ1) ∧ f_X12_list x w y τ = some (r, τ1) ∧ I0 σ1 τ1 := by
  obtain ⟨S, C, h⟩ := h
  rw [f_X11_list, f_X12_list]
  rcases lis_cases x with q | ⟨l, hl, rfl⟩
  · rw [l_oneN q, lm_oneN q, zbd_s, zbd_s]
    exact ex0 h.i0 _ (if_pos rfl) (if_pos rfl)
  · rw [l_oneS hl, lm_oneS hl, zbd_s, zbd_s, if_neg n10, if_neg n10, pm_in32 w (-1) 1 (-1) 1 rfl rfl, zbd_s]
    by_cases h1 : w < -1
    · rw [if_pos h1, if_neg (fun q : -1 ≤ w ∧ w ≤ 1 => absurd h1 (Int32.not_lt.mpr q.1))]
      exact ex0 h.i0 _ rfl (if_pos rfl)
    · rw [if_neg h1]
      by_cases h2 : w ≤ 1
      · rw [if_pos h2, if_pos (show -1 ≤ w ∧ w ≤ 1 from ⟨Int32.not_lt.mp h1, h2⟩), if_neg n10]
        have hw := w_cases h1 h2
        by_cases h3 : w = -1
        · subst h3
          rw [if_pos rfl, if_pos (show (-1 : Int32) < 0 by decide), f_X11_list_c36, if_pos rfl, f_X11_list_c48, if_pos rfl, f_X12_list_c31, if_pos (show (-1 : Int32) < 0 by decide), f_X12_list_c42, if_pos (zin_nI hl (by decide)), if_neg (show ¬ (0 : Int32) ≤ -1 by decide), nI_clamp (by omega)]
          exact list_key h hl hw (by decide) (fun _ => rfl)
        · have h4 : ¬ w < 0 := by rcases hw with e | e | e <;> subst e <;> first | exact absurd rfl h3 | decide
          rw [if_neg h3, if_neg h4]
          by_cases h5 : y ≤ 20
          · rw [if_pos h5, if_pos h5, f_X11_list_c36, if_neg h3, f_X12_list_c31, if_neg h4]
            rcases nI_cases y with q | ⟨z, hz, rfl⟩
            · rw [if_neg (Int32.not_le.mpr q), if_neg (Int32.not_le.mpr q)]
              exact ex0 h.i0 _ rfl rfl
            · rw [if_pos (nI_pos' hz), if_pos (nI_pos' hz), f_X11_list_c48, if_neg h3, f_X12_list_c42, if_pos (zin_nI hl (by decide)), if_pos (Int32.not_lt.mp h4), nI_clamp (by omega)]
              exact list_key h hl hw ((nI_leI hz (b := 20) (by decide)).mp h5) (fun q => absurd q h3)
          · rw [if_neg h5, if_neg h5]
            exact ex0 h.i0 _ rfl rfl
      · rw [if_neg h2, if_neg (fun q : -1 ≤ w ∧ w ≤ 1 => h2 q.2)]
        exact ex0 h.i0 _ rfl (if_pos rfl)
/-! ===== COPY ===== -/
theorem l_roomN {x k : Int32} {l z : Nat} (hl : l < 3) (hz : σ.1 28 l = nI z) (h : k < 0 ∨ x < 0) : f_X5_hasRoom (nI l) x k σ = some (0, σ) := by
  rw [f_X5_hasRoom]
  by_cases q : k < 0
  · exact if_pos q
  · rw [if_neg q, if_pos (h.resolve_left q)]
theorem l_roomS {l z a c : Nat} (hl : l < 3) (hz : σ.1 28 l = nI z) (h20 : z ≤ 20) (ha : a < 2 ^ 31) (hc : c < 2 ^ 31) : f_X5_hasRoom (nI l) (nI a) (nI c) σ = some (if a + c ≤ z then 1 else 0, σ) := by
  rw [f_X5_hasRoom, if_neg (nI_pos hc), if_neg (nI_pos ha), l_size hl hz, zbd_s]
  by_cases h1 : z < a
  · rw [if_pos (nI_lt h1 ha), if_neg (by omega)]
  · rw [if_neg (nI_nlt (by omega) (by omega)), l_size hl hz, zbd_s, pk_sub (by omega)]
    by_cases h2 : z - a < c
    · rw [if_pos (nI_lt h2 hc), if_neg (by omega)]
    · rw [if_neg (nI_nlt (by omega) (by omega)), if_pos (by omega)]
theorem lm_room {z a c : Nat} (h20 : z ≤ 20) (ha : a < 2 ^ 31) (hc : c < 2 ^ 31) : ((nI z).toInt64 < (nI a).toInt64 + (nI c).toInt64) ↔ z < a + c := by
  rw [Int64.lt_iff_toInt_lt, Int64.toInt_add, nI64 (by omega), nI64 ha, nI64 hc]
  have : Int.bmod ((a : Int) + c) (2 ^ 64) = (a : Int) + c := by simp only [Int.bmod]; omega
  rw [this]
  omega
theorem lm_cp1 {l a c : Nat} (hl : l < 3) (s : SS) (hc : a + c ≤ 20) : ∀ j i n f (x3 x4 : Int32), i + j = c → j < n → (∀ q, q < i → f q = s.2 24 (20 * l + a + q)) →
    ∃ f', f_X12_copy_c110 n (nI l) (nI a) x3 x4 (nI c) (nI i) (zL s 39 f) = f_X12_copy_c147 ZF x3 x4 (nI c) 0 (zL s 39 f') ∧ ∀ q, q < c → f' q = s.2 24 (20 * l + a + q) := by
  intro j
  induction j with
  | zero =>
    intro i n f x3 x4 hi hn hf
    obtain ⟨n, rfl⟩ : ∃ m', n = m' + 1 := ⟨n - 1, by omega⟩
    have : i = c := by omega
    subst this
    exact ⟨f, by rw [f_X12_copy_c110, if_pos (nI_le (by omega) (by omega))], hf⟩
  | succ j ih =>
    intro i n f x3 x4 hi hn hf
    obtain ⟨n, rfl⟩ : ∃ m', n = m' + 1 := ⟨n - 1, by omega⟩
    rw [f_X12_copy_c110, if_neg (nI_ge (by omega) (by omega)), i60, nI_add, if_pos (zin_nI (by omega) (by decide)), if_pos (zin_nI (by omega) (by decide)), nI_clamp (by omega), nI_clamp (by omega), nI_1, zSL_eq, zL_zL, zL_same, zL_ne' _ _ (show (24 : Nat) ≠ 39 by decide)]
    refine ih (i + 1) n _ x3 x4 (by omega) (by omega) (fun q hq => ?_)
    by_cases e : q = i
    · subst e
      rw [pk_uLs]
    · rw [pk_uLn e, hf q (by omega)]
theorem lm_cp2 {l b c : Nat} (hl : l < 3) (s : SS) (hc : b + c ≤ 20) : ∀ j i n f, i + j = c → j < n → (∀ q, f q = if 20 * l + b ≤ q ∧ q < 20 * l + b + i then s.2 39 (q - (20 * l + b)) else s.2 24 q) →
    ∃ f', f_X12_copy_c147 n (nI l) (nI b) (nI c) (nI i) (zL s 24 f) = some (nI c, zL s 24 f') ∧ ∀ q, f' q = if 20 * l + b ≤ q ∧ q < 20 * l + b + c then s.2 39 (q - (20 * l + b)) else s.2 24 q := by
  intro j
  induction j with
  | zero =>
    intro i n f hi hn hf
    obtain ⟨n, rfl⟩ : ∃ m', n = m' + 1 := ⟨n - 1, by omega⟩
    have : i = c := by omega
    subst this
    exact ⟨f, by rw [f_X12_copy_c147, if_pos (nI_le (by omega) (by omega))], hf⟩
  | succ j ih =>
    intro i n f hi hn hf
    obtain ⟨n, rfl⟩ : ∃ m', n = m' + 1 := ⟨n - 1, by omega⟩
    rw [f_X12_copy_c147, if_neg (nI_ge (by omega) (by omega)), if_pos (zin_nI (by omega) (by decide)), i60, nI_add, if_pos (zin_nI (by omega) (by decide)), nI_clamp (by omega), nI_clamp (by omega), nI_1, zSL_eq, zL_zL, zL_same, zL_ne' _ _ (show (39 : Nat) ≠ 24 by decide)]
    refine ih (i + 1) n _ (by omega) (by omega) (fun q => ?_)
    by_cases e : q = 20 * l + b + i
    · subst e
      rw [pk_uLs, if_pos (by omega), show 20 * l + b + i - (20 * l + b) = i by omega]
    · rw [pk_uLn e, hf q]
      by_cases w : 20 * l + b ≤ q ∧ q < 20 * l + b + i
      · rw [if_pos w, if_pos (by omega)]
      · rw [if_neg w, if_neg (by omega)]
theorem copy_key (h : Inv S C σ τ) {l l' a b c z z' : Nat} (hl : l < 3) (hl' : l' < 3) (D : LisD l z σ τ) (D' : LisD l' z' σ τ) (ha : a + c ≤ z) (hb : b + c ≤ z') :
    ∃ τ1, f_X12_copy_c110 ZF (nI l) (nI a) (nI l') (nI b) (nI c) 0 τ = some (nI c, τ1) ∧ I0 (zL σ (77 + l') (va_cpy (σ.2 (77 + l)) (σ.2 (77 + l')) a b c)) τ1 := by
  have h1 := D.zl
  have h2 := D'.zl
  obtain ⟨f, e, hf⟩ := lm_cp1 hl τ (show a + c ≤ 20 by omega) c 0 ZF (τ.2 39) (nI l') (nI b) (by omega) (by unfold ZF; omega) (fun q hq => absurd hq (by omega))
  rw [nI_0, zL_self] at e
  obtain ⟨g, e', hg⟩ := lm_cp2 hl' (zL τ 39 f) (show b + c ≤ 20 by omega) c 0 ZF ((zL τ 39 f).2 24) (by omega) (by unfold ZF; omega) (fun q => by rw [if_neg (by omega)])
  rw [nI_0, zL_self] at e'
  rw [zL_same, zL_ne' _ _ (show (24 : Nat) ≠ 39 by decide)] at hg
  refine ⟨_, e.trans e', S, C, ?_⟩
  have F : FR [27, 28] [77, 78, 79] σ (zL σ (77 + l') (va_cpy (σ.2 (77 + l)) (σ.2 (77 + l')) a b c)) := (FR.refl σ).sL (by simp; omega) _
  have G : FM [] [22, 23] [24, 39] τ (zL (zL τ 39 f) 24 g) := ((FM.refl τ).sL (by simp) _).sL (by simp) _
  refine h.lis0 F (by decide) G ?_
  intro k hk
  obtain ⟨zk, E⟩ := h.lis k hk
  refine ⟨zk, E.so, E.sM, E.zl, E.zC, E.zM, E.z0, fun i hi => ?_⟩
  rw [zL_same, hg]
  by_cases q : k = l'
  · subst q
    rw [zL_same]
    by_cases w : b ≤ i ∧ i < b + c
    · rw [pk_cpy_in w.1 w.2, if_pos (by omega), hf _ (by omega), show 20 * l + a + (20 * k + i - (20 * k + b)) = 20 * l + (a + (i - b)) by omega, D.n _ (by omega)]
    · rw [pk_cpy_out (by omega), if_neg (by omega)]
      exact E.n i hi
  · rw [zL_ne' _ _ (show 77 + k ≠ 77 + l' by omega), if_neg (by omega)]
    exact E.n i hi
theorem s_copy (x y x' y' k : Int32) (h : I0 σ τ) : ∃ r σ1 τ1, f_X11_copy x y x' y' k σ = some (r, σ1) ∧ f_X12_copy x y x' y' k τ = some (r, τ1) ∧ I0 σ1 τ1 := by
  obtain ⟨S, C, h⟩ := h
  rw [f_X11_copy, f_X12_copy]
  rcases lis_cases x with q | ⟨l, hl, rfl⟩
  · rw [l_oneN q, lm_oneN q, zbd_s, zbd_s]
    exact ex0 h.i0 _ (if_pos rfl) (if_pos rfl)
  rw [l_oneS hl, lm_oneS hl, zbd_s, zbd_s, if_neg n10, if_neg n10]
  rcases lis_cases x' with q | ⟨l', hl', rfl⟩
  · rw [l_oneN q, lm_oneN q, zbd_s, zbd_s]
    exact ex0 h.i0 _ (if_pos rfl) (if_pos rfl)
  rw [l_oneS hl', lm_oneS hl', zbd_s, zbd_s, if_neg n10, if_neg n10]
  obtain ⟨z, D⟩ := h.lis l hl
  obtain ⟨z', D'⟩ := h.lis l' hl'
  have h1 := D.zl
  have h2 := D'.zl
  rw [l_thereS hl, zbd_s, if_pos (zin_nI hl (by decide)), nI_clamp (by omega)]
  by_cases q : σ.1 27 l = -1
  · rw [if_pos q, if_pos (D.neg.mp q)]
    exact ex0 h.i0 _ (if_pos rfl) rfl
  rw [if_neg q, if_neg n10, if_neg (fun w => q (D.neg.mpr w)), l_thereS hl', zbd_s, if_pos (zin_nI hl (by decide)), if_pos (zin_nI hl' (by decide)), if_pos (zin_nI hl' (by decide)), nI_clamp (by omega)]
  by_cases q' : σ.1 27 l' = -1
  · rw [if_pos q', if_neg (fun w => absurd (D'.neg.mp q') (Int32.not_lt.mpr w))]
    exact ex0 h.i0 _ (if_pos rfl) rfl
  rw [if_neg q', if_neg n10, if_pos (Int32.not_lt.mp (fun w => q' (D'.neg.mpr w))), if_pos (zin_nI hl' (by decide)), if_pos (zin_nI hl (by decide)), if_pos (zin_nI hl' (by decide)), D.sM, D'.sM]
  by_cases qs : σ.1 27 l = σ.1 27 l'
  rotate_left
  · rw [if_neg qs, if_neg qs]
    exact ex0 h.i0 _ rfl rfl
  rw [if_pos qs, if_pos qs]
  rcases nI_cases k with qk | ⟨c, hc, rfl⟩
  · rw [l_roomN hl D.zC (Or.inl qk), zbd_s, if_pos rfl, if_pos qk]
    exact ex0 h.i0 _ rfl rfl
  rw [if_neg (nI_pos hc)]
  rcases nI_cases y with qy | ⟨a, ha, rfl⟩
  · rw [l_roomN hl D.zC (Or.inr qy), zbd_s, if_pos rfl, if_pos qy]
    exact ex0 h.i0 _ rfl rfl
  rw [if_neg (nI_pos ha), l_roomS hl D.zC h1 ha hc, zbd_s, D.zM, D'.zM]
  rcases nI_cases y' with qy | ⟨b, hb, rfl⟩
  · rw [if_pos qy, l_roomN hl' D'.zC (Or.inr qy), zbd_s, if_pos rfl]
    by_cases w : (if a + c ≤ z then (1 : Int32) else 0) = 0
    · rw [if_pos w]
      exact ex0 h.i0 _ rfl rfl
    · rw [if_neg w]
      exact ex0 h.i0 _ rfl rfl
  rw [if_neg (nI_pos hb), l_roomS hl' D'.zC h2 hb hc, zbd_s, if_pos (zin_nI hl (by decide))]
  by_cases w : a + c ≤ z
  rotate_left
  · rw [if_pos (show (if a + c ≤ z then (1 : Int32) else 0) = 0 from if_neg w), if_pos ((lg_cmp_gt _ _).mpr ((lm_room h1 ha hc).mpr (by omega)))]
    exact ex0 h.i0 _ rfl rfl
  rw [if_neg (show ¬ (if a + c ≤ z then (1 : Int32) else 0) = 0 by rw [if_pos w]; decide), if_neg (fun v : 0 < lg_cmp ((nI a).toInt64 + (nI c).toInt64) (nI z).toInt64 => by have := (lm_room h1 ha hc).mp ((lg_cmp_gt _ _).mp v); omega)]
  by_cases w' : b + c ≤ z'
  rotate_left
  · rw [if_pos (show (if b + c ≤ z' then (1 : Int32) else 0) = 0 from if_neg w'), if_neg (fun v : lg_cmp ((nI b).toInt64 + (nI c).toInt64) (nI z').toInt64 ≤ 0 => by
      rw [lg_cmp_le] at v
      exact absurd ((lm_room h2 hb hc).mpr (by omega)) (Int64.not_lt.mpr v))]
    exact ex0 h.i0 _ rfl rfl
  rw [if_neg (show ¬ (if b + c ≤ z' then (1 : Int32) else 0) = 0 by rw [if_pos w']; decide), if_pos ((lg_cmp_le _ _).mpr (Int64.not_lt.mp (fun v => by have := (lm_room h2 hb hc).mp v; omega)))]
  obtain ⟨z1, z2, z3⟩ := ZOx_29 hl
  obtain ⟨y1, y2, y3⟩ := ZOx_29 hl'
  obtain ⟨τ1, e, hI⟩ := copy_key h hl hl' D D' w w'
  have hk : zok2 Ox 1 (77 + l) (nI a) (77 + l') (nI b) (nI c) = true := by
    have a1 := nI_pos ha
    have a2 := nI_pos hb
    have a3 := nI_pos hc
    simp [zok2, zia_at z3, zia_at y3, zlen_at z3, zlen_at y3, a1, a2, a3, nI_clamp ha, nI_clamp hb, nI_clamp hc]
    omega
  rw [if_pos z1, if_pos y1, z2, y2, if_pos hk, nI_clamp ha, nI_clamp hb, nI_clamp hc]
  exact ⟨_, _, _, rfl, e, hI⟩
end
