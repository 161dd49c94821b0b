section
variable {S S1 : Sh} {C C1 : Cl} {σ σ1 τ τ1 : SS}
theorem b01_if (P : Prop) [Decidable P] : b01 (decide P) = if P then 1 else 0 := by
  unfold b01
  by_cases h : P <;> simp [h]
theorem shl_iff (S S1 : Sh) : ∀ j k, shl S S1 k j = true ↔ ∀ q, k ≤ q → q < k + j → S.dm q = S1.dm q ∧ S.dg q = S1.dg q ∧ S.gn q = S1.gn q
  | 0, k => ⟨fun _ q h1 h2 => absurd h2 (by omega), fun _ => rfl⟩
  | j + 1, k => by
    rw [shl, Bool.and_eq_true, shl_iff S S1 j (k + 1)]
    simp only [Bool.and_eq_true, decide_eq_true_eq]
    constructor
    · rintro ⟨⟨⟨a, b⟩, c⟩, h⟩ q h1 h2
      by_cases e : q = k
      · rw [e]; exact ⟨a, b, c⟩
      · exact h q (by omega) (by omega)
    · intro h
      have := h k (by omega) (by omega)
      exact ⟨⟨⟨this.1, this.2.1⟩, this.2.2⟩, fun q h1 h2 => h q (by omega) (by omega)⟩
def sqb (S S1 : Sh) : Bool := (decide (S.so = S1.so) && decide (S.f = S1.f) && decide (S.e = S1.e)) && shl S S1 0 3
theorem p_isAs (hS : ShOk S) (hS1 : ShOk S1) (h : ShC S 3 15 σ) (h1 : ShC S1 4 18 σ) : f_X7_isAs 3 4 σ = some (b01 (sqb S S1), σ) := by
  have z3 : zis Ox 7 3 = true := rfl
  have z4 : zis Ox 7 4 = true := rfl
  have a1 := hS.so
  have a2 := hS1.so
  have a3 := hS.f3
  have a4 := hS1.f3
  have a5 := hS.e3
  have a6 := hS1.e3
  have i0 := p_as_c hS hS1 h h1 3 0 ZF false (by omega) (by unfold ZF; omega)
  have i1 := p_as_c hS hS1 h h1 3 0 ZF true (by omega) (by unfold ZF; omega)
  rw [show b01 false = 0 from rfl, Bool.false_and, show b01 false = 0 from rfl, nI_0] at i0
  rw [show b01 true = 1 from rfl, Bool.true_and, nI_0] at i1
  rw [f_X7_isAs]
  simp only [f_X7_isAs_c38, f_X7_isAs_c37, z3, z4, if_true, i0, i1]
  rw [h.so, h1.so, h.f, h1.f, h.e, h1.e]
  unfold sqb
  by_cases q1 : S.so = S1.so
  · rw [if_pos (by rw [q1])]
    by_cases q2 : S.f = S1.f
    · rw [if_pos (by rw [q2])]
      by_cases q3 : S.e = S1.e
      · rw [if_pos (by rw [q3])]
        simp [q1, q2, q3]
      · rw [if_neg (fun w => q3 ((nI_eq (by omega) (by omega)).mp w))]
        simp [q3]; rfl
    · rw [if_neg (fun w => q2 ((nI_eq (by omega) (by omega)).mp w))]
      simp [q2]; rfl
  · rw [if_neg (fun w => q1 ((nI_eq (by omega) (by omega)).mp w))]
    simp [q1]; rfl
def tql (v w : Nat → Int64) : Nat → Nat → Bool
  | _, 0 => true
  | t, j + 1 => decide (v t = w t) && tql v w (t + 1) j
def cql (M : Nat) (C C1 : Cl) : Nat → Nat → Bool
  | _, 0 => true
  | m, j + 1 => (decide (C.kd m = C1.kd m) && decide (C.fg m = C1.fg m) && tql (C.tl m) (C1.tl m) 0 M) && cql M C C1 (m + 1) j
theorem p_cls (hS : ShOk S) (hC : ClOk C) (hC1 : ClOk C1) (he : C.mm = C1.mm) (hm : σ.1 1 2 = nI C.mm) (h : ClC S C 30 46 σ) (h1 : ClC S C1 38 54 σ) : ∀ j i n, i + j = C.mm → j < n → f_X3_isAs_c29 n 1 2 (nI S.M) (nI i) σ = some (b01 (cql S.M C C1 i j), σ) := by
  have h8 := hC.m8
  have hM : S.M ≤ 462 := (cM_pos hS.ln).2
  have z1 : zis Ox 3 1 = true := rfl
  have z2 : zis Ox 3 2 = true := rfl
  intro j
  induction j with
  | zero =>
    intro i n hi hn
    obtain ⟨n, rfl⟩ : ∃ m', n = m' + 1 := ⟨n - 1, by omega⟩
    rw [f_X3_isAs_c29, if_pos z1, if_pos z2, hm, if_pos (nI_le (by omega) (by omega))]
    rfl
  | succ j ih =>
    intro i n hi hn
    obtain ⟨n, rfl⟩ : ∃ m', n = m' + 1 := ⟨n - 1, by omega⟩
    obtain ⟨a1, a2⟩ := ZOx_13 (show i < 8 by omega)
    obtain ⟨b1, b2⟩ := ZOx_14 (show i < 8 by omega)
    obtain ⟨c1, c2, c3⟩ := ZOx_k (m := i) (by omega)
    obtain ⟨d1, d2, d3⟩ := ZOx_k2 (show i < 8 by omega)
    have k1 := hC.k5 i
    have k2 := hC1.k5 i
    have k3 := hC.f9 i
    have k4 := hC1.f9 i
    have key : ∀ j' t n', t + j' = S.M → j' < n' → f_X3_isAs_c84 (f_X3_isAs_c29 n) n' 1 2 (nI S.M) (nI i) (30 + i) (38 + i) (nI t) σ = if tql (C.tl i) (C1.tl i) t j' = true then some (b01 (cql S.M C C1 (i + 1) j), σ) else some (0, σ) := by
      intro j'
      induction j' with
      | zero =>
        intro t n' ht hn'
        obtain ⟨n', rfl⟩ : ∃ m', n' = m' + 1 := ⟨n' - 1, by omega⟩
        rw [f_X3_isAs_c84, if_pos z1, if_pos z2, if_pos c1, if_pos d1, if_pos (nI_le (by omega) (by omega)), nI_1, ih (i + 1) n (by omega) (by omega), tql, if_pos rfl]
      | succ j' ih' =>
        intro t n' ht hn'
        obtain ⟨n', rfl⟩ : ∃ m', n' = m' + 1 := ⟨n' - 1, by omega⟩
        rw [f_X3_isAs_c84, if_pos z1, if_pos z2, if_pos c1, if_pos d1, if_neg (nI_ge (by omega) (by omega)), c2, d2, if_pos (zok_nI c3 (show t < 462 by omega) (by decide)), if_pos (zok_nI d3 (show t < 462 by omega) (by decide)), nI_clamp (by omega), h.tl i (by omega) t (by omega), h1.tl i (by omega) t (by omega), nI_1, ih' (t + 1) n' (by omega) (by omega), tql]
        by_cases q : C.tl i t = C1.tl i t
        · rw [if_pos ((lg_cmp_eq _ _).mpr q)]; simp [q]
        · rw [if_neg (fun w => q ((lg_cmp_eq _ _).mp w))]; simp [q]
    have kk := key S.M 0 ZF (by omega) (by unfold ZF; omega)
    rw [nI_0] at kk
    rw [f_X3_isAs_c29, if_pos z1, if_pos z2, hm, if_neg (nI_ge (by omega) (by omega)), show zrf Ox 2 1 = 14 from rfl, show zrf Ox 1 1 = 13 from rfl, a2, b2, if_pos a1, if_pos c1, if_pos b1, if_pos d1, h.kd i (by omega), h1.kd i (by omega), h.fg i (by omega), h1.fg i (by omega), kk, cql]
    by_cases q1 : C.kd i = C1.kd i
    · rw [if_pos (by rw [q1])]
      by_cases q2 : C.fg i = C1.fg i
      · rw [if_pos (by rw [q2])]
        by_cases q3 : tql (C.tl i) (C1.tl i) 0 S.M = true
        · rw [if_pos q3]; simp [q1, q2, q3]
        · rw [if_neg q3]; simp [q3]; rfl
      · rw [if_neg (fun w => q2 ((nI_eq (by omega) (by omega)).mp w))]; simp [q2]; rfl
    · rw [if_neg (fun w => q1 ((nI_eq (by omega) (by omega)).mp w))]; simp [q1]; rfl
theorem pm_cls (hS : ShOk S) (T : TmM S τ) (hC : ClOk C) (hC1 : ClOk C1) (he : C.mm = C1.mm) (h : ClM S C τ) (hk : ∀ m, m < C1.mm → τ.1 29 m = nI (C1.kd m)) (hf : ∀ m, m < C1.mm → τ.1 30 m = nI (C1.fg m)) (ht1 : ∀ m, m < C1.mm → ∀ t, t < S.M → τ.2 31 (462 * m + t) = C1.tl m t) : ∀ j i n (b : Bool), i + j = C.mm → j < n → f_X12_alike_c17 n (b01 b) (nI i) τ = some (b01 (b && cql S.M C C1 i j), τ) := by
  have h8 := hC.m8
  have hM : S.M ≤ 462 := (cM_pos hS.ln).2
  have fin : ∀ b : Bool, f_X12_alike_c125 (b01 b) τ = some (b01 b, τ) := fun b => by cases b <;> rfl
  intro j
  induction j with
  | zero =>
    intro i n b hi hn
    obtain ⟨n, rfl⟩ : ∃ m', n = m' + 1 := ⟨n - 1, by omega⟩
    rw [f_X12_alike_c17, h.mm, if_pos (nI_le (by omega) (by omega)), fin, cql, Bool.and_true]
  | succ j ih =>
    intro i n b hi hn
    obtain ⟨n, rfl⟩ : ∃ m', n = m' + 1 := ⟨n - 1, by omega⟩
    have z := zin_nI (show i < 8 by omega) (show 8 ≤ 2 ^ 31 by decide)
    have k1 := hC.k5 i
    have k2 := hC1.k5 i
    have k3 := hC.f9 i
    have k4 := hC1.f9 i
    have key : ∀ j' t n' (b : Bool), t + j' = S.M → j' < n' → f_X12_alike_c67 (f_X12_alike_c17 n) n' (b01 b) (nI i) (nI t) τ = some (b01 ((b && tql (C.tl i) (C1.tl i) t j') && cql S.M C C1 (i + 1) j), τ) := by
      intro j'
      induction j' with
      | zero =>
        intro t n' b ht hn'
        obtain ⟨n', rfl⟩ : ∃ m', n' = m' + 1 := ⟨n' - 1, by omega⟩
        rw [f_X12_alike_c67, T.M, if_pos (nI_le (by omega) (by omega)), f_X12_alike_c119, nI_1, ih (i + 1) n b (by omega) (by omega), tql, Bool.and_true]
      | succ j' ih' =>
        intro t n' b ht hn'
        obtain ⟨n', rfl⟩ : ∃ m', n' = m' + 1 := ⟨n' - 1, by omega⟩
        have zt := zin_nI (show 462 * i + t < 3696 by omega) (show 3696 ≤ 2 ^ 31 by decide)
        have y1 := ih' (t + 1) n' true (by omega) (by omega)
        have y0 := ih' (t + 1) n' false (by omega) (by omega)
        rw [show b01 true = 1 from rfl, Bool.true_and] at y1
        rw [show b01 false = 0 from rfl, Bool.false_and, Bool.false_and] at y0
        rw [f_X12_alike_c67, T.M, if_neg (nI_ge (by omega) (by omega)), f_X12_alike_c119, nI_1, ih (i + 1) n b (by omega) (by omega), show (462 : Int32) = nI 462 from rfl, pk_mul, nI_add, if_pos zt, if_pos zt, nI_clamp (by omega), h.tl i (by omega) t (by omega), ht1 i (by omega) t (by omega), f_X12_alike_c112, f_X12_alike_c112, nI_1, y1, y0, tql]
        cases b with
        | false => rfl
        | true =>
          rw [if_neg (show ¬ b01 true = 0 by decide), Bool.true_and]
          by_cases q : C.tl i t = C1.tl i t
          · rw [if_pos ((lg_cmp_eq _ _).mpr q)]; simp [q]
          · rw [if_neg (fun w => q ((lg_cmp_eq _ _).mp w))]; simp [q]
    have y1 := key S.M 0 ZF true (by omega) (by unfold ZF; omega)
    have y0 := key S.M 0 ZF false (by omega) (by unfold ZF; omega)
    rw [show b01 true = 1 from rfl, Bool.true_and, nI_0] at y1
    rw [show b01 false = 0 from rfl, Bool.false_and, Bool.false_and, nI_0] at y0
    rw [f_X12_alike_c17, h.mm, if_neg (nI_ge (by omega) (by omega)), fin]
    simp only [f_X12_alike_c64, f_X12_alike_c63, z, if_true, y1, y0]
    rw [nI_clamp (by omega), h.kd i (by omega), hk i (by omega), h.fg i (by omega), hf i (by omega), cql]
    cases b with
    | false => rfl
    | true =>
      rw [if_neg (show ¬ b01 true = 0 by decide), Bool.true_and]
      by_cases q1 : C.kd i = C1.kd i
      · rw [if_pos (by rw [q1])]
        by_cases q2 : C.fg i = C1.fg i
        · rw [if_pos (by rw [q2])]; simp [q1, q2]
        · rw [if_neg (fun w => q2 ((nI_eq (by omega) (by omega)).mp w))]; simp [q2]
      · rw [if_neg (fun w => q1 ((nI_eq (by omega) (by omega)).mp w))]; simp [q1]
def dml (S S1 : Sh) : Nat → Nat → Bool
  | _, 0 => true
  | k, j + 1 => decide (S.dm k = S1.dm k) && dml S S1 (k + 1) j
def egl (S S1 : Sh) : Nat → Nat → Bool
  | _, 0 => true
  | k, j + 1 => (decide (S.dg k = S1.dg k) && decide (S.gn k = S1.gn k)) && egl S S1 (k + 1) j
theorem dml_iff (S S1 : Sh) : ∀ j k, dml S S1 k j = true ↔ ∀ q, k ≤ q → q < k + j → S.dm q = S1.dm q
  | 0, k => ⟨fun _ q h1 h2 => absurd h2 (by omega), fun _ => rfl⟩
  | j + 1, k => by
    rw [dml, Bool.and_eq_true, dml_iff S S1 j (k + 1)]
    simp only [decide_eq_true_eq]
    constructor
    · rintro ⟨a, h⟩ q h1 h2
      by_cases e : q = k
      · rw [e]; exact a
      · exact h q (by omega) (by omega)
    · intro h
      exact ⟨h k (by omega) (by omega), fun q h1 h2 => h q (by omega) (by omega)⟩
theorem egl_iff (S S1 : Sh) : ∀ j k, egl S S1 k j = true ↔ ∀ q, k ≤ q → q < k + j → S.dg q = S1.dg q ∧ S.gn q = S1.gn q
  | 0, k => ⟨fun _ q h1 h2 => absurd h2 (by omega), fun _ => rfl⟩
  | j + 1, k => by
    rw [egl, Bool.and_eq_true, egl_iff S S1 j (k + 1)]
    simp only [Bool.and_eq_true, decide_eq_true_eq]
    constructor
    · rintro ⟨a, h⟩ q h1 h2
      by_cases e : q = k
      · rw [e]; exact a
      · exact h q (by omega) (by omega)
    · intro h
      exact ⟨h k (by omega) (by omega), fun q h1 h2 => h q (by omega) (by omega)⟩
theorem bool_iff {a b : Bool} (h : a = true ↔ b = true) : a = b := by
  cases a <;> cases b <;> simp_all
theorem pm_likeSp (hS : ShOk S) (hS1 : ShOk S1) (hC : ClOk C) (hC1 : ClOk C1) (h : ShM S τ) (h1 : ShK S1 τ) (m0 : τ.1 0 12 = nI C.mm) (m1 : τ.1 0 44 = nI C1.mm) : f_X12_isLikeSpace τ = some (b01 (decide (C.mm = C1.mm) && sqb S S1), τ) := by
  have a1 := hS.so
  have a2 := hS1.so
  have a3 := hS.f3
  have a4 := hS1.f3
  have a5 := hS.e3
  have a6 := hS1.e3
  have a7 := hS.n5
  have a8 := hS1.n5
  have a9 := hC.m8
  have a10 := hC1.m8
  have bz : ∀ b : Bool, znar .boolean (b01 b) = true := fun b => by cases b <;> rfl
  have c119_0 : f_X12_isLikeSpace_c119 0 τ = some (0, τ) := by rw [f_X12_isLikeSpace_c119, if_pos rfl, if_pos (show znar .boolean 0 = true from rfl)]
  have hsq : sqb S S1 = true ↔ (S.so = S1.so ∧ S.f = S1.f ∧ S.e = S1.e) ∧ ∀ q, q < 3 → S.dm q = S1.dm q ∧ S.dg q = S1.dg q ∧ S.gn q = S1.gn q := by
    unfold sqb
    rw [Bool.and_eq_true, shl_iff]
    simp only [Bool.and_eq_true, decide_eq_true_eq]
    constructor
    · rintro ⟨⟨⟨x, y⟩, z⟩, w⟩
      exact ⟨⟨x, y, z⟩, fun q hq => w q (by omega) (by omega)⟩
    · rintro ⟨⟨x, y, z⟩, w⟩
      exact ⟨⟨⟨x, y⟩, z⟩, fun q _ hq => w q (by omega)⟩
  have c38_0 : f_X12_isLikeSpace_c38 0 τ = some (0, τ) := by rw [f_X12_isLikeSpace_c38, if_pos rfl, c119_0]
  rw [f_X12_isLikeSpace, f_X12_isLikeSpace_c37, c38_0, h.so, h1.so, h.n, h1.n, m0, m1]
  by_cases qs : S.so = S1.so
  rotate_left
  · have : sqb S S1 = false := by
      cases e : sqb S S1 with
      | false => rfl
      | true => exact absurd (hsq.mp e).1.1 qs
    rw [if_neg (fun w => qs ((nI_eq (by omega) (by omega)).mp w)), this, Bool.and_false]
    rfl
  rw [if_pos (by rw [qs])]
  by_cases qn : S.n = S1.n
  rotate_left
  · have : sqb S S1 = false := by
      cases e : sqb S S1 with
      | false => rfl
      | true =>
        have w := (hsq.mp e).2
        exact absurd (show S.n = S1.n by unfold Sh.n; rw [(w 0 (by decide)).1, (w 1 (by decide)).1, (w 2 (by decide)).1]) qn
    rw [if_neg (fun w => qn ((nI_eq (by omega) (by omega)).mp w)), this, Bool.and_false]
    rfl
  rw [if_pos (by rw [qn])]
  by_cases qm : C.mm = C1.mm
  rotate_left
  · rw [if_neg (fun w => qm ((nI_eq (by omega) (by omega)).mp w)), decide_eq_false qm, Bool.false_and]
    rfl
  rw [if_pos (by rw [qm]), decide_eq_true qm, Bool.true_and, f_X12_isLikeSpace_c38, if_neg n10, h.so]
  have c3 : S.so = 0 ∨ S.so = 1 ∨ S.so = 2 := by omega
  rcases c3 with s0 | s1 | s2
  · have s0' : S1.so = 0 := by omega
    have c119_b : ∀ b : Bool, f_X12_isLikeSpace_c119 (b01 b) τ = some (b01 b, τ) := fun b => by
      rw [f_X12_isLikeSpace_c119, h.so, if_pos (bz b), if_neg (show ¬ nI S.so = 1 by rw [s0]; decide)]
      split <;> rfl
    have key : ∀ j k n (b : Bool), k + j = S.f → j < n → f_X12_isLikeSpace_c80 n (b01 b) (nI k) τ = some (b01 (b && dml S S1 k j), τ) := by
      intro j
      induction j with
      | zero =>
        intro k n b hk hn
        obtain ⟨n, rfl⟩ : ∃ m', n = m' + 1 := ⟨n - 1, by omega⟩
        rw [f_X12_isLikeSpace_c80, h.f s0, if_pos (nI_le (by omega) (by omega)), c119_b, dml, Bool.and_true]
      | succ j ih =>
        intro k n b hk hn
        obtain ⟨n, rfl⟩ : ∃ m', n = m' + 1 := ⟨n - 1, by omega⟩
        have z := zin_nI (show k < 3 by omega) (show 3 ≤ 2 ^ 31 by decide)
        have b1 := hS.dm5 k
        have b2 := hS1.dm5 k
        have y1 := ih (k + 1) n true (by omega) (by omega)
        have y0 := ih (k + 1) n false (by omega) (by omega)
        rw [show b01 true = 1 from rfl, Bool.true_and] at y1
        rw [show b01 false = 0 from rfl, Bool.false_and] at y0
        rw [f_X12_isLikeSpace_c80, h.f s0, if_neg (nI_ge (by omega) (by omega)), c119_b, if_pos z, if_pos z, nI_clamp (by omega), h.dm s0 k (by omega), h1.dm s0' k (by omega), f_X12_isLikeSpace_c112, f_X12_isLikeSpace_c112, nI_1, y1, y0, dml]
        cases b with
        | false => rfl
        | true =>
          rw [if_neg (show ¬ b01 true = 0 by decide), Bool.true_and]
          by_cases q : S.dm k = S1.dm k
          · rw [if_pos (by rw [q])]; simp [q]
          · rw [if_neg (fun w => q ((nI_eq (by omega) (by omega)).mp w))]; simp [q]
    have y1 := key S.f 0 ZF true (by omega) (by unfold ZF; omega)
    have y0 := key S.f 0 ZF false (by omega) (by unfold ZF; omega)
    rw [show b01 true = 1 from rfl, Bool.true_and, nI_0] at y1
    rw [show b01 false = 0 from rfl, Bool.false_and, nI_0] at y0
    rw [if_pos (show nI S.so = 0 by rw [s0]; rfl), f_X12_isLikeSpace_c76, f_X12_isLikeSpace_c77, f_X12_isLikeSpace_c77, y1, y0, h.f s0, h1.f s0', h.e, h1.e]
    have zz : ∀ k, S.dg k = 0 ∧ S.gn k = 0 := fun k => hS.dg0 k (by left; omega)
    have zz1 : ∀ k, S1.dg k = 0 ∧ S1.gn k = 0 := fun k => hS1.dg0 k (by left; omega)
    by_cases qf : S.f = S1.f
    rotate_left
    · have : sqb S S1 = false := by
        cases e : sqb S S1 with
        | false => rfl
        | true => exact absurd (hsq.mp e).1.2.1 qf
      rw [if_neg (fun w => qf ((nI_eq (by omega) (by omega)).mp w)), this]
    rw [if_pos (by rw [qf])]
    by_cases qe : S.e = S1.e
    rotate_left
    · have : sqb S S1 = false := by
        cases e : sqb S S1 with
        | false => rfl
        | true => exact absurd (hsq.mp e).1.2.2 qe
      rw [if_neg (fun w => qe ((nI_eq (by omega) (by omega)).mp w)), this]
    rw [if_pos (by rw [qe])]
    have : dml S S1 0 S.f = sqb S S1 := bool_iff (by
      rw [hsq, dml_iff]
      constructor
      · intro w
        refine ⟨⟨qs, qf, qe⟩, fun q hq => ⟨?_, by rw [(zz q).1, (zz1 q).1], by rw [(zz q).2, (zz1 q).2]⟩⟩
        by_cases v : q < S.f
        · exact w q (by omega) (by omega)
        · rw [hS.dout q (by omega), hS1.dout q (by omega)]
      · rintro ⟨-, w⟩ q - hq
        exact (w q (by omega)).1)
    rw [this]
  · have s1' : S1.so = 1 := by omega
    obtain ⟨n1, f1, l1, d1⟩ := curv_n hS s1
    obtain ⟨n1', f1', l1', d1'⟩ := curv_n hS1 s1'
    rw [if_neg (show ¬ nI S.so = 0 by rw [s1]; decide), f_X12_isLikeSpace_c119, if_neg n10, h.so, if_pos (show nI S.so = 1 by rw [s1]; rfl), h.e, h1.e, f_X12_isLikeSpace_c147, f_X12_isLikeSpace_c147]
    by_cases qe : S.e = S1.e
    rotate_left
    · have e0 : sqb S S1 = false := by
        cases e : sqb S S1 with
        | false => rfl
        | true => exact absurd (hsq.mp e).1.2.2 qe
      rw [if_neg (fun w => qe ((nI_eq (by omega) (by omega)).mp w)), e0, show ZF = 9999999 + 1 from rfl, f_X12_isLikeSpace_c150, if_pos (show znar .boolean 0 = true from rfl), if_pos rfl]
      split <;> rfl
    rw [if_pos (by rw [qe])]
    have key : ∀ j k n (b : Bool), k + j = S.e → j < n → f_X12_isLikeSpace_c150 n (b01 b) (nI k) τ = some (b01 (b && egl S S1 k j), τ) := by
      intro j
      induction j with
      | zero =>
        intro k n b hk hn
        obtain ⟨n, rfl⟩ : ∃ m', n = m' + 1 := ⟨n - 1, by omega⟩
        rw [f_X12_isLikeSpace_c150, h.e, if_pos (nI_le (by omega) (by omega)), if_pos (bz b), egl, Bool.and_true]
      | succ j ih =>
        intro k n b hk hn
        obtain ⟨n, rfl⟩ : ∃ m', n = m' + 1 := ⟨n - 1, by omega⟩
        have z := zin_nI (show k < 3 by omega) (show 3 ≤ 2 ^ 31 by decide)
        have b1 := hS.dg9 k
        have b2 := hS1.dg9 k
        have b3 := hS.gn9 k
        have b4 := hS1.gn9 k
        have y1 := ih (k + 1) n true (by omega) (by omega)
        have y0 := ih (k + 1) n false (by omega) (by omega)
        rw [show b01 true = 1 from rfl, Bool.true_and] at y1
        rw [show b01 false = 0 from rfl, Bool.false_and] at y0
        rw [f_X12_isLikeSpace_c150, h.e, if_neg (nI_ge (by omega) (by omega)), if_pos (bz b), if_pos z, if_pos z, if_pos z, if_pos z, nI_clamp (by omega), h.dg s1 k (by omega), h.gn s1 k (by omega), f_X12_isLikeSpace_c196, f_X12_isLikeSpace_c197, f_X12_isLikeSpace_c197, nI_1, y1, y0, egl, h1.dg s1' k (by omega), h1.gn s1' k (by omega)]
        cases b with
        | false => rfl
        | true =>
          rw [if_neg (show ¬ b01 true = 0 by decide), Bool.true_and]
          by_cases q : S.dg k = S1.dg k
          · rw [if_pos (by rw [q])]
            by_cases q2 : S.gn k = S1.gn k
            · rw [if_pos (by rw [q2])]; simp [q, q2]
            · rw [if_neg (fun w => q2 ((nI_eq (by omega) (by omega)).mp w))]; simp [q2]
          · rw [if_neg (fun w => q ((nI_eq (by omega) (by omega)).mp w))]; simp [q]
    have y1 := key S.e 0 ZF true (by omega) (by unfold ZF; omega)
    rw [show b01 true = 1 from rfl, Bool.true_and, nI_0] at y1
    rw [y1]
    have : egl S S1 0 S.e = sqb S S1 := bool_iff (by
      rw [hsq, egl_iff]
      constructor
      · intro w
        refine ⟨⟨qs, by omega, qe⟩, fun q hq => ⟨?_, ?_⟩⟩
        · by_cases v : q = 0
          · rw [v, d1, d1']
          · rw [hS.dout q (by omega), hS1.dout q (by omega)]
        · by_cases v : q < S.e
          · exact w q (by omega) (by omega)
          · have x1 := hS.dg0 q (by right; omega)
            have x2 := hS1.dg0 q (by right; omega)
            exact ⟨by rw [x1.1, x2.1], by rw [x1.2, x2.2]⟩
      · rintro ⟨-, w⟩ q - hq
        exact (w q (by omega)).2)
    rw [this]
  · have s2' : S1.so = 2 := by omega
    have : sqb S S1 = true := by
      rw [hsq]
      have f1 := hS.cur (by omega)
      have f2 := hS1.cur (by omega)
      have c1 := hS.con s2
      have c2 := hS1.con s2'
      refine ⟨⟨qs, by omega, by omega⟩, fun q hq => ⟨?_, ?_⟩⟩
      · by_cases v : q = 0
        · rw [v, c1.1, c2.1]
        · rw [hS.dout q (by omega), hS1.dout q (by omega)]
      · have x1 := hS.dg0 q (by left; omega)
        have x2 := hS1.dg0 q (by left; omega)
        exact ⟨by rw [x1.1, x2.1], by rw [x1.2, x2.2]⟩
    rw [if_neg (show ¬ nI S.so = 0 by rw [s2]; decide), f_X12_isLikeSpace_c119, if_neg n10, h.so, if_neg (show ¬ nI S.so = 1 by rw [s2]; decide), if_pos (show znar .boolean 1 = true from rfl), this]
    rfl
theorem s_alike (h : I0 σ τ) : ∃ r σ1 τ1, f_X11_alike σ = some (r, σ1) ∧ f_X12_alike τ = some (r, τ1) ∧ I0 σ1 τ1 := by
  obtain ⟨S, C, h⟩ := h
  have K := h.kc
  have L := h.km
  rcases h.img with ⟨i1, i2⟩ | ⟨i1, i2, S1, C1, D⟩
  · rw [f_X11_alike, f_X12_alike, i1, i2]
    exact ex0 h.i0 _ (if_pos rfl) (if_pos rfl)
  have h8 := K.okC.m8
  have h8' := D.okC.m8
  rw [f_X11_alike, f_X12_alike, i1, i2, if_neg n10, if_neg n10, pm_likeSp L.ok D.ok L.okC D.okC L.sh D.shK L.cl.mm D.clK.mm, zbd_s, f_X3_isAs, if_pos (show zis Ox 3 1 = true from rfl), if_pos (show zis Ox 3 2 = true from rfl), K.mm, D.mC, K.tm.M, show zrf Ox 1 0 = 3 from rfl, show zrf Ox 2 0 = 4 from rfl, if_pos (show zis Ox 7 3 = true from rfl), if_pos (show zis Ox 7 4 = true from rfl), p_isAs K.ok D.ok K.sh D.shC, zbd_s]
  have fz : ∀ b : Bool, f_X12_alike_c125 (b01 b) τ = some (b01 b, τ) := fun b => by cases b <;> rfl
  have f0 : f_X12_alike_c17 ZF 0 0 τ = some (0, τ) := by
    rw [show ZF = 9999999 + 1 from rfl, f_X12_alike_c17, if_pos rfl, show f_X12_alike_c125 0 τ = some (0, τ) from fz false]
    split <;> rfl
  by_cases qm : C.mm = C1.mm
  rotate_left
  · rw [if_neg (fun w => qm ((nI_eq (by omega) (by omega)).mp w)), zbd_s, decide_eq_false qm, Bool.false_and, show b01 false = 0 from rfl, f0]
    exact ex0 h.i0 _ (if_pos rfl) rfl
  rw [if_pos (by rw [qm]), decide_eq_true qm, Bool.true_and]
  by_cases qs : sqb S S1 = true
  rotate_left
  · have e0 : sqb S S1 = false := by simpa using qs
    rw [e0, show b01 false = 0 from rfl, if_pos rfl, zbd_s, f0]
    exact ex0 h.i0 _ (if_pos rfl) rfl
  have hM : S1.M = S.M := by
    have : (S.so = S1.so ∧ S.f = S1.f ∧ S.e = S1.e) ∧ ∀ q, 0 ≤ q → q < 0 + 3 → S.dm q = S1.dm q ∧ S.dg q = S1.dg q ∧ S.gn q = S1.gn q := by
      unfold sqb at qs
      rw [Bool.and_eq_true, shl_iff] at qs
      simp only [Bool.and_eq_true, decide_eq_true_eq] at qs
      exact ⟨⟨qs.1.1.1, qs.1.1.2, qs.1.2⟩, qs.2⟩
    obtain ⟨⟨q1, q2, q3⟩, w⟩ := this
    have eL : S1.L = S.L := by unfold Sh.L; rw [q1, q2, q3]
    have en : S1.n = S.n := by unfold Sh.n; rw [(w 0 (by decide) (by decide)).1, (w 1 (by decide) (by decide)).1, (w 2 (by decide) (by decide)).1]
    unfold Sh.M
    rw [eL, en]
  have clK' : ClC S C1 38 54 σ := ⟨D.clC.kd, D.clC.fg, fun m hm t ht => D.clC.tl m hm t (by omega)⟩
  have e1 := p_cls K.ok K.okC D.okC qm K.mm K.cl clK' C.mm 0 ZF (by omega) (by unfold ZF; omega)
  have e2 := pm_cls L.ok L.tm L.okC D.okC qm L.cl D.clK.kd D.clK.fg (fun m hm t ht => D.clK.tl m hm t (by omega)) C.mm 0 ZF true (by omega) (by unfold ZF; omega)
  rw [nI_0] at e1 e2
  rw [show b01 true = 1 from rfl, Bool.true_and] at e2
  rw [qs, show b01 true = 1 from rfl, if_neg n10, e1, zbd_s, e2]
  refine ex0 h.i0 _ ?_ rfl
  cases cql S.M C C1 0 C.mm <;> rfl
end
