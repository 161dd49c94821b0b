/-! ===== CLASSES: how many, kinds, figures, told numbers ===== -/
def Cl : Type := Nat × (Nat → Nat) × (Nat → Nat) × (Nat → Nat → Int64)
def Cl.mm (C : Cl) : Nat := C.1
def Cl.kd (C : Cl) : Nat → Nat := C.2.1
def Cl.fg (C : Cl) : Nat → Nat := C.2.2.1
def Cl.tl (C : Cl) : Nat → Nat → Int64 := C.2.2.2
def ClOk (C : Cl) : Prop :=
  (C.mm ≤ 8) ∧
  (∀ m, C.kd m ≤ 5) ∧
  (∀ m, C.fg m ≤ 9)
theorem ClOk.m8 {C : Cl} (h : ClOk C) : C.mm ≤ 8 := h.1
theorem ClOk.k5 {C : Cl} (h : ClOk C) : ∀ m, C.kd m ≤ 5 := h.2.1
theorem ClOk.f9 {C : Cl} (h : ClOk C) : ∀ m, C.fg m ≤ 9 := h.2.2
/-- the class's, from object kb and row tb on (now: 30 and 46; kept: 38 and 54) -/
def ClC (S : Sh) (C : Cl) (kb : Nat) (tb : Nat) (s : SS) : Prop :=
  (∀ m, m < C.mm → s.1 (kb + m) 0 = nI (C.kd m)) ∧
  (∀ m, m < C.mm → s.1 (kb + m) 1 = nI (C.fg m)) ∧
  (∀ m, m < C.mm → ∀ t, t < S.M → s.2 (tb + m) t = C.tl m t)
theorem ClC.kd {S : Sh} {C : Cl} {kb : Nat} {tb : Nat} {s : SS} (h : ClC S C kb tb s) : ∀ m, m < C.mm → s.1 (kb + m) 0 = nI (C.kd m) := h.1
theorem ClC.fg {S : Sh} {C : Cl} {kb : Nat} {tb : Nat} {s : SS} (h : ClC S C kb tb s) : ∀ m, m < C.mm → s.1 (kb + m) 1 = nI (C.fg m) := h.2.1
theorem ClC.tl {S : Sh} {C : Cl} {kb : Nat} {tb : Nat} {s : SS} (h : ClC S C kb tb s) : ∀ m, m < C.mm → ∀ t, t < S.M → s.2 (tb + m) t = C.tl m t := h.2.2
def ClM (S : Sh) (C : Cl) (τ : SS) : Prop :=
  (τ.1 0 12 = nI C.mm) ∧
  (∀ m, m < C.mm → τ.1 8 m = nI (C.kd m)) ∧
  (∀ m, m < C.mm → τ.1 9 m = nI (C.fg m)) ∧
  (∀ m, m < C.mm → ∀ t, t < S.M → τ.2 10 (462 * m + t) = C.tl m t)
theorem ClM.mm {S : Sh} {C : Cl} {τ : SS} (h : ClM S C τ) : τ.1 0 12 = nI C.mm := h.1
theorem ClM.kd {S : Sh} {C : Cl} {τ : SS} (h : ClM S C τ) : ∀ m, m < C.mm → τ.1 8 m = nI (C.kd m) := h.2.1
theorem ClM.fg {S : Sh} {C : Cl} {τ : SS} (h : ClM S C τ) : ∀ m, m < C.mm → τ.1 9 m = nI (C.fg m) := h.2.2.1
theorem ClM.tl {S : Sh} {C : Cl} {τ : SS} (h : ClM S C τ) : ∀ m, m < C.mm → ∀ t, t < S.M → τ.2 10 (462 * m + t) = C.tl m t := h.2.2.2
/-- NUMBER by its KIND -/
def num (S : Sh) (C : Cl) (m t : Nat) : Int64 :=
  if C.kd m = 0 then C.tl m t else if C.kd m = 1 then -(C.tl m t) else if C.kd m = 2 then C.tl m t * ((nI (C.fg m)).toInt64 + 1)
  else if C.kd m = 3 then (if sz (S.c t) = C.fg m then C.tl m t else 0)
  else if C.kd m = 4 then (if plb S (S.c t) = 0 then 0 else C.tl m t * ((nI (C.fg m)).toInt64 + 1))
  else if sz (S.c t) % 2 = 0 then C.tl m t else -(C.tl m t)
theorem ZOx_k {m : Nat} (h : m < 16) : zis Ox 4 (30 + m) = true ∧ zrf Ox (30 + m) 2 = 46 + m ∧ Ox (46 + m) = .inr (1, 462, []) := by
  have : m = 0 ∨ m = 1 ∨ m = 2 ∨ m = 3 ∨ m = 4 ∨ m = 5 ∨ m = 6 ∨ m = 7 ∨ m = 8 ∨ m = 9 ∨ m = 10 ∨ m = 11 ∨ m = 12 ∨ m = 13 ∨ m = 14 ∨ m = 15 := by omega
  rcases this with rfl | rfl | rfl | rfl | rfl | rfl | rfl | rfl | rfl | rfl | rfl | rfl | rfl | rfl | rfl | rfl <;> exact ⟨rfl, rfl, rfl⟩
theorem fg64 : ∀ f, f ≤ 9 → (nI f + (1 : Int32)).toInt64 = (nI f).toInt64 + 1 := by decide
section
variable {S : Sh} {C : Cl} {s τ : SS}
theorem p_num (hS : ShOk S) (hC : ClOk C) (hT : TmC S s) (h : ClC S C 30 46 s) {m t : Nat} (hm : m < C.mm) (ht : t < S.M) : f_X4_numberAt (30 + m) (nI t) s = some (num S C m t, s) := by
  have hm8 := hC.m8
  have hk := hC.k5 m
  have hf := hC.f9 m
  have hM : S.M ≤ 462 := (cM_pos hS.ln).2
  have hsz := sz_le hS.ln ht
  have hn := hS.n5
  obtain ⟨z1, z2, z3⟩ := ZOx_k (m := m) (by omega)
  have g := zin_nI (i := t) (n := 462) (by omega) (by decide)
  have cl : (nI t).toNatClampNeg = t := nI_clamp (by omega)
  have esz : sz (S.c t) ≤ 5 := Nat.le_trans hsz hn
  rw [f_X4_numberAt, if_pos z1, z2, if_pos (zok_nI z3 (by omega) (by decide)), cl, h.kd m hm, h.fg m hm, h.tl m hm t ht, hT.size t ht, hT.plain t ht]
  simp only [g, if_true]
  unfold num
  have : C.kd m = 0 ∨ C.kd m = 1 ∨ C.kd m = 2 ∨ C.kd m = 3 ∨ C.kd m = 4 ∨ C.kd m = 5 := by omega
  rcases this with q | q | q | q | q | q <;> rw [q]
  · rfl
  · rfl
  · rfl
  · rw [if_neg (show ¬ nI 3 = 1 by decide), if_neg (show ¬ nI 3 = 2 by decide), if_pos (show nI 3 = 3 from rfl), if_neg (show ¬ 3 = 0 by decide), if_neg (show ¬ 3 = 1 by decide), if_neg (show ¬ 3 = 2 by decide), if_pos rfl]
    by_cases a : sz (S.c t) = C.fg m
    · rw [if_pos (by rw [a]), if_pos a]
    · rw [if_neg (fun b => a ((nI_eq (by omega) (by omega)).mp b)), if_neg a]
  · rw [if_neg (show ¬ nI 4 = 1 by decide), if_neg (show ¬ nI 4 = 2 by decide), if_neg (show ¬ nI 4 = 3 by decide), if_pos (show nI 4 = 4 from rfl), if_neg (show ¬ 4 = 0 by decide), if_neg (show ¬ 4 = 1 by decide), if_neg (show ¬ 4 = 2 by decide), if_neg (show ¬ 4 = 3 by decide), if_pos rfl]
    split <;> rfl
  · rw [if_neg (show ¬ nI 5 = 1 by decide), if_neg (show ¬ nI 5 = 2 by decide), if_neg (show ¬ nI 5 = 3 by decide), if_neg (show ¬ nI 5 = 4 by decide), if_pos (show nI 5 = 5 from rfl), if_neg (show ¬ 5 = 0 by decide), if_neg (show ¬ 5 = 1 by decide), if_neg (show ¬ 5 = 2 by decide), if_neg (show ¬ 5 = 3 by decide), if_neg (show ¬ 5 = 4 by decide)]
    by_cases a : sz (S.c t) % 2 = 0
    · rw [if_pos ((par_n _ esz).mpr a), if_pos a]
    · rw [if_neg (fun b => a ((par_n _ esz).mp b)), if_neg a]
theorem pm_num (hS : ShOk S) (hC : ClOk C) (hH : ShM S τ) (hT : TmM S τ) (h : ClM S C τ) {m t : Nat} (hm : m < C.mm) (ht : t < S.M) : f_X12_numberAt (nI m) (nI t) τ = some (num S C m t, τ) := by
  have hm8 := hC.m8
  have hk := hC.k5 m
  have hf := hC.f9 m
  have hM : S.M ≤ 462 := (cM_pos hS.ln).2
  have hsz := sz_le hS.ln ht
  have hn := hS.n5
  have hlt := cd_lt hS.ln ht
  have g := zin_nI (i := t) (n := 462) (by omega) (by decide)
  have g2 := zin_nI (i := m) (n := 8) (by omega) (by decide)
  have g3 := zin_nI (i := 462 * m + t) (n := 3696) (by omega) (by decide)
  have cl : (nI t).toNatClampNeg = t := nI_clamp (by omega)
  have cl2 : (nI m).toNatClampNeg = m := nI_clamp (by omega)
  have esz : sz (S.c t) ≤ 5 := Nat.le_trans hsz hn
  have ei : (462 : Int32) * nI m + nI t = nI (462 * m + t) := by rw [show (462 : Int32) = nI 462 from rfl, pk_mul, nI_add]
  have cl3 : (nI (462 * m + t)).toNatClampNeg = 462 * m + t := nI_clamp (by omega)
  rw [f_X12_numberAt, ei, if_pos g3, if_pos g2, cl3, cl, cl2, h.kd m hm, h.fg m hm, h.tl m hm t ht, hT.size t ht, hT.code t ht, pm_isPlain hS hH (show S.c t < 2 ^ 31 by show cd S.L S.n t < 2 ^ 31; omega) hlt.2]
  simp only [g, g2, if_true]
  rw [zbd_s, h.fg m hm, fg64 _ hf]
  unfold num
  have : C.kd m = 0 ∨ C.kd m = 1 ∨ C.kd m = 2 ∨ C.kd m = 3 ∨ C.kd m = 4 ∨ C.kd m = 5 := by omega
  rcases this with q | q | q | q | q | q <;> rw [q]
  · rfl
  · rfl
  · rfl
  · rw [if_neg (show ¬ nI 3 = 0 by decide), if_neg (show ¬ nI 3 = 1 by decide), if_neg (show ¬ nI 3 = 2 by decide), if_pos (show nI 3 = 3 from rfl), if_neg (show ¬ 3 = 0 by decide), if_neg (show ¬ 3 = 1 by decide), if_neg (show ¬ 3 = 2 by decide), if_pos rfl]
    by_cases a : sz (S.c t) = C.fg m
    · rw [if_pos (by rw [a]), if_pos a]
    · rw [if_neg (fun b => a ((nI_eq (by omega) (by omega)).mp b)), if_neg a]
  · rw [if_neg (show ¬ nI 4 = 0 by decide), if_neg (show ¬ nI 4 = 1 by decide), if_neg (show ¬ nI 4 = 2 by decide), if_neg (show ¬ nI 4 = 3 by decide), if_pos (show nI 4 = 4 from rfl), if_neg (show ¬ 4 = 0 by decide), if_neg (show ¬ 4 = 1 by decide), if_neg (show ¬ 4 = 2 by decide), if_neg (show ¬ 4 = 3 by decide), if_pos rfl]
    split <;> rfl
  · rw [if_neg (show ¬ nI 5 = 0 by decide), if_neg (show ¬ nI 5 = 1 by decide), if_neg (show ¬ nI 5 = 2 by decide), if_neg (show ¬ nI 5 = 3 by decide), if_neg (show ¬ nI 5 = 4 by decide), if_neg (show ¬ 5 = 0 by decide), if_neg (show ¬ 5 = 1 by decide), if_neg (show ¬ 5 = 2 by decide), if_neg (show ¬ 5 = 3 by decide), if_neg (show ¬ 5 = 4 by decide)]
    by_cases a : sz (S.c t) % 2 = 0
    · rw [if_neg (fun b => (par_n1 _ esz).mp b a), if_pos a]
    · rw [if_pos ((par_n1 _ esz).mpr a), if_neg a]
end
