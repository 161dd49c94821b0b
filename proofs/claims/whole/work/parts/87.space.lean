section
variable {S : Sh} {C : Cl} {σ σ1 τ τ1 : SS}
/-! ===== SPACE ===== -/
def eu (S : Sh) : Int32 := if S.so = 2 then 12 else if S.so = 0 then (nI (S.dm 0) + 1) * (nI (S.dm 1) + 1) * (nI (S.dm 2) + 1) + (nI S.n - 1) * nI S.e else eul S.gn S.e
  where eul (g : Nat → Nat) : Nat → Int32
  | 0 => 4
  | i + 1 => eul g i + (2 - 2 * nI (g i))
theorem p_euler (K : KC S C σ) : f_X7_eulerNumber 3 σ = some (eu S, σ) := by
  have hso := K.ok.so
  have he := K.ok.e3
  have key : ∀ j i n, i + j = S.e → j < n → f_X7_eulerNumber_c61 n 3 (eu.eul S.gn i) (nI i) σ = some (eu.eul S.gn S.e, σ) := by
    intro j
    induction j with
    | zero =>
      intro i n hi hn
      obtain ⟨n, rfl⟩ : ∃ m', n = m' + 1 := ⟨n - 1, by omega⟩
      rw [f_X7_eulerNumber_c61, if_pos (show zis Ox 7 3 = true from rfl), K.sh.e, if_pos (nI_le (by omega) (by omega)), show i = S.e by omega]
    | succ j ih =>
      intro i n hi hn
      obtain ⟨n, rfl⟩ : ∃ m', n = m' + 1 := ⟨n - 1, by omega⟩
      rw [f_X7_eulerNumber_c61, if_pos (show zis Ox 7 3 = true from rfl), K.sh.e, if_neg (nI_ge (by omega) (by omega)), show zrf Ox 3 5 = 17 from rfl, if_pos (show zia Ox 0 17 = true from rfl), show zlen Ox 17 = 3 from rfl, if_neg (nI_ge (by omega) (by decide)), if_pos (zok_nI (show Ox 17 = .inr (0, 3, []) from rfl) (show i < 3 by omega) (by decide)), nI_clamp (by omega), K.sh.gn i (by omega), nI_1]
      exact ih (i + 1) n (by omega) (by omega)
  rw [f_X7_eulerNumber, if_pos (show zis Ox 7 3 = true from rfl), K.sh.so]
  unfold eu
  by_cases q2 : S.so = 2
  · rw [if_pos (show nI S.so = 2 by rw [q2]; rfl), if_pos q2]
  rw [if_neg (fun w : nI S.so = 2 => q2 ((nI_eq (b := 2) (by omega) (by decide)).mp w)), if_neg q2]
  by_cases q0 : S.so = 0
  · rw [if_pos (show nI S.so = 0 by rw [q0]; rfl), if_pos q0, show zrf Ox 3 3 = 15 from rfl, if_pos (show zok Ox 0 15 0 = true from rfl), if_pos (show zok Ox 0 15 1 = true from rfl), if_pos (show zok Ox 0 15 2 = true from rfl), p_dim (Or.inl rfl) K.sh, zbd_s, K.sh.e, show ((0 : Int32)).toNatClampNeg = 0 from rfl, show ((1 : Int32)).toNatClampNeg = 1 from rfl, show ((2 : Int32)).toNatClampNeg = 2 from rfl, K.sh.dm 0 (by decide), K.sh.dm 1 (by decide), K.sh.dm 2 (by decide)]
  · rw [if_neg (fun w : nI S.so = 0 => q0 ((nI_eq (b := 0) (by omega) (by decide)).mp w)), if_neg q0]
    exact key S.e 0 ZF (by omega) (by unfold ZF; omega)
theorem pm_euler (L : KM S C τ) : f_X12_eulerOfSpace τ = some (eu S, τ) := by
  have hso := L.ok.so
  have he := L.ok.e3
  have h1 := L.ok.f1
  have h3 := L.ok.f3
  rw [f_X12_eulerOfSpace, L.sh.so]
  unfold eu
  by_cases q2 : S.so = 2
  · rw [if_pos (show nI S.so = 2 by rw [q2]; rfl), if_pos q2]
  rw [if_neg (fun w : nI S.so = 2 => q2 ((nI_eq (b := 2) (by omega) (by decide)).mp w)), if_neg q2]
  by_cases q0 : S.so = 0
  · have hs : ∀ i n a, i < S.f → f_X12_eulerOfSpace_c33 (n + 1) a (nI i) τ = f_X12_eulerOfSpace_c33 n (a * (nI (S.dm i) + 1)) (nI (i + 1)) τ := by
      intro i n a hi
      rw [f_X12_eulerOfSpace_c33, L.sh.f q0, if_neg (nI_ge hi (by omega)), if_pos (zin_nI (show i < 3 by omega) (by decide)), nI_clamp (by omega), L.sh.dm q0 i (by omega), ← nI_1 i]
    have he : ∀ n a, f_X12_eulerOfSpace_c33 (n + 1) a (nI S.f) τ = some (a + (nI S.n - 1) * nI S.e, τ) := by
      intro n a
      rw [f_X12_eulerOfSpace_c33, L.sh.f q0, if_pos (nI_le (by omega) (by omega)), L.sh.n, L.sh.e, Int32.mul_comm]
    rw [if_pos (show nI S.so = 0 by rw [q0]; rfl), if_pos q0, f_X12_eulerOfSpace_c23, L.sh.so, if_pos (show nI S.so = 0 by rw [q0]; rfl), show ZF = 9999996 + 1 + 1 + 1 + 1 from rfl, show (0 : Int32) = nI 0 from rfl, hs 0 _ _ (by omega), Int32.one_mul]
    have hz : nI 0 + 1 = (1 : Int32) := rfl
    have hf : S.f = 1 ∨ S.f = 2 ∨ S.f = 3 := by omega
    rcases hf with q | q | q
    · have e1 : S.dm 1 = 0 := L.ok.dout 1 (by omega)
      have e2 : S.dm 2 = 0 := L.ok.dout 2 (by omega)
      rw [q] at he
      rw [he, e1, e2, hz, Int32.mul_one, Int32.mul_one]
    · have e2 : S.dm 2 = 0 := L.ok.dout 2 (by omega)
      rw [q] at he
      rw [hs 1 _ _ (by omega), he, e2, hz, Int32.mul_one]
    · rw [q] at he
      rw [hs 1 _ _ (by omega), hs 2 _ _ (by omega), he]
  · have key : ∀ j i n, i + j = S.e → j < n → f_X12_eulerOfSpace_c74 n (eu.eul S.gn i) (nI i) τ = some (eu.eul S.gn S.e, τ) := by
      intro j
      induction j with
      | zero =>
        intro i n hi hn
        obtain ⟨n, rfl⟩ : ∃ m', n = m' + 1 := ⟨n - 1, by omega⟩
        rw [f_X12_eulerOfSpace_c74, L.sh.e, if_pos (nI_le (by omega) (by omega)), show i = S.e by omega]
      | succ j ih =>
        intro i n hi hn
        obtain ⟨n, rfl⟩ : ∃ m', n = m' + 1 := ⟨n - 1, by omega⟩
        rw [f_X12_eulerOfSpace_c74, L.sh.e, if_neg (nI_ge (by omega) (by omega)), if_pos (zin_nI (show i < 3 by omega) (by decide)), nI_clamp (by omega), L.sh.gn (by omega) i (by omega), nI_1]
        exact ih (i + 1) n (by omega) (by omega)
    rw [if_neg (fun w : nI S.so = 0 => q0 ((nI_eq (b := 0) (by omega) (by decide)).mp w)), if_neg q0, f_X12_eulerOfSpace_c23, L.sh.so, if_neg (fun w : nI S.so = 0 => q0 ((nI_eq (b := 0) (by omega) (by decide)).mp w))]
    exact key S.e 0 ZF (by omega) (by unfold ZF; omega)
theorem s_space (x : Int32) (h : I0 σ τ) : ∃ r σ1 τ1, f_X11_space x σ = some (r, σ1) ∧ f_X12_space x τ = some (r, τ1) ∧ I0 σ1 τ1 := by
  obtain ⟨S, C, h⟩ := h
  have K := h.kc
  have L := h.km
  rw [f_X11_space, f_X12_space, p_dim (Or.inl rfl) K.sh, p_letters K.ok (Or.inl rfl) K.sh, p_euler K, pm_letters L.ok L.sh, pm_euler L, K.sh.so, K.sh.e, K.tm.M, L.sh.so, L.sh.n, L.sh.e, L.tm.M]
  by_cases q0 : x = 0
  · rw [if_pos q0, if_pos q0]
    exact ex0 h.i0 _ rfl rfl
  rw [if_neg q0, if_neg q0]
  by_cases q1 : x = 1
  · rw [if_pos q1, if_pos q1]
    exact ex0 h.i0 _ rfl rfl
  rw [if_neg q1, if_neg q1]
  by_cases q2 : x = 2
  · rw [if_pos q2, if_pos q2]
    exact ex0 h.i0 _ rfl rfl
  rw [if_neg q2, if_neg q2]
  by_cases q3 : x = 3
  · rw [if_pos q3, if_pos q3]
    exact ex0 h.i0 _ rfl rfl
  rw [if_neg q3, if_neg q3]
  by_cases q4 : x = 4
  · rw [if_pos q4, if_pos q4]
    refine ex0 h.i0 _ rfl ?_
    have hso := K.ok.so
    by_cases w : S.so = 2
    · rw [if_pos (show nI S.so = 2 by rw [w]; rfl), (K.ok.con w).2]
      rfl
    · rw [if_neg (fun v : nI S.so = 2 => w ((nI_eq (b := 2) (by omega) (by decide)).mp v))]
  rw [if_neg q4, if_neg q4]
  by_cases q5 : x = 5
  · rw [if_pos q5, if_pos q5]
    exact ex0 h.i0 _ rfl rfl
  rw [if_neg q5, if_neg q5]
  exact ex0 h.i0 _ rfl rfl
/-! ===== COUNT ===== -/
theorem s_count (x : Int32) (h : I0 σ τ) : ∃ r σ1 τ1, f_X11_count x σ = some (r, σ1) ∧ f_X12_count x τ = some (r, τ1) ∧ I0 σ1 τ1 := by
  obtain ⟨S, C, h⟩ := h
  have K := h.kc
  have L := h.km
  obtain ⟨l, P⟩ := h.pap
  obtain ⟨tl, B, T⟩ := h.tap
  obtain ⟨d, u, G⟩ := h.chg
  have key : ∀ j i n n' a, i + j = 3 → j < n → j < n' → ∃ r, f_X5_howManyThere_c4 n a (nI i) σ = some (r, σ) ∧ f_X12_count_c4 n' x a (nI i) τ = some (if x = 0 then nI C.mm else if x = 1 then nI d else if x = 2 then nI u else if x = 3 then nI tl else if x = 4 then nI (min l 200) else if x = 5 then r else -1, τ) := by
    intro j
    induction j with
    | zero =>
      intro i n n' a hi hn hn'
      obtain ⟨n, rfl⟩ : ∃ m', n = m' + 1 := ⟨n - 1, by omega⟩
      obtain ⟨n', rfl⟩ : ∃ m', n' = m' + 1 := ⟨n' - 1, by omega⟩
      have : i = 3 := by omega
      subst this
      refine ⟨a, by rw [f_X5_howManyThere_c4, if_pos (show (3 : Int32) ≤ nI 3 by decide)], ?_⟩
      rw [f_X12_count_c4, if_pos (show (3 : Int32) ≤ nI 3 by decide), L.cl.mm, G.dM, G.uM, T.lM, P.lM]
      by_cases q0 : x = 0
      · rw [if_pos q0, if_pos q0]
      rw [if_neg q0, if_neg q0]
      by_cases q1 : x = 1
      · rw [if_pos q1, if_pos q1]
      rw [if_neg q1, if_neg q1]
      by_cases q2 : x = 2
      · rw [if_pos q2, if_pos q2]
      rw [if_neg q2, if_neg q2]
      by_cases q3 : x = 3
      · rw [if_pos q3, if_pos q3]
      rw [if_neg q3, if_neg q3]
      by_cases q4 : x = 4
      · rw [if_pos q4, if_pos q4]
      rw [if_neg q4, if_neg q4]
      by_cases q5 : x = 5
      · rw [if_pos q5, if_pos q5]
      rw [if_neg q5, if_neg q5]
    | succ j ih =>
      intro i n n' a hi hn hn'
      obtain ⟨n, rfl⟩ : ∃ m', n = m' + 1 := ⟨n - 1, by omega⟩
      obtain ⟨n', rfl⟩ : ∃ m', n' = m' + 1 := ⟨n' - 1, by omega⟩
      obtain ⟨z, D⟩ := h.lis i (by omega)
      rw [f_X5_howManyThere_c4, if_neg (n3 i (by omega)), l_thereS (show i < 3 by omega), zbd_s, f_X12_count_c4, if_neg (n3 i (by omega)), if_pos (zin_nI (show i < 3 by omega) (by decide)), nI_clamp (by omega)]
      by_cases q : σ.1 27 i = -1
      · rw [if_pos q, if_pos (D.neg.mp q), if_pos rfl, f_X5_howManyThere_c23, f_X12_count_c24, nI_1]
        exact ih (i + 1) n n' _ (by omega) (by omega) (by omega)
      · rw [if_neg q, if_neg (fun w => q (D.neg.mpr w)), if_neg n10, f_X5_howManyThere_c23, f_X12_count_c24, nI_1]
        exact ih (i + 1) n n' _ (by omega) (by omega) (by omega)
  obtain ⟨r, e1, e2⟩ := key 3 0 ZF ZF 0 (by omega) (by unfold ZF; omega) (by unfold ZF; omega)
  rw [nI_0] at e1 e2
  rw [f_X11_count, f_X12_count, e2, f_X5_howManyThere, e1, K.mm, G.dC, G.uC, T.lC, p_kept P.le P.lC, zbd_s, zbd_s]
  by_cases q0 : x = 0
  · rw [if_pos q0, if_pos q0]
    exact ex0 h.i0 _ rfl rfl
  rw [if_neg q0, if_neg q0]
  by_cases q1 : x = 1
  · rw [if_pos q1, if_pos q1]
    exact ex0 h.i0 _ rfl rfl
  rw [if_neg q1, if_neg q1]
  by_cases q2 : x = 2
  · rw [if_pos q2, if_pos q2]
    exact ex0 h.i0 _ rfl rfl
  rw [if_neg q2, if_neg q2]
  by_cases q3 : x = 3
  · rw [if_pos q3, if_pos q3]
    exact ex0 h.i0 _ rfl rfl
  rw [if_neg q3, if_neg q3]
  by_cases q4 : x = 4
  · rw [if_pos q4, if_pos q4]
    exact ex0 h.i0 _ rfl rfl
  rw [if_neg q4, if_neg q4]
  by_cases q5 : x = 5
  · rw [if_pos q5, if_pos q5]
    exact ex0 h.i0 _ rfl rfl
  rw [if_neg q5, if_neg q5]
  exact ex0 h.i0 _ rfl rfl
end
