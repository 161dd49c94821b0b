/-! ===== THE SPACE ===== -/
def Sh : Type := (Nat × Nat × Nat) × (Nat → Nat) × (Nat → Nat) × (Nat → Nat)
def Sh.so (S : Sh) : Nat := S.1.1
def Sh.f (S : Sh) : Nat := S.1.2.1
def Sh.e (S : Sh) : Nat := S.1.2.2
def Sh.dm (S : Sh) : Nat → Nat := S.2.1
def Sh.dg (S : Sh) : Nat → Nat := S.2.2.1
def Sh.gn (S : Sh) : Nat → Nat := S.2.2.2
def Sh.n (S : Sh) : Nat := S.dm 0 + S.dm 1 + S.dm 2
def Sh.L (S : Sh) : Nat := S.f + S.e + (if S.so = 2 then 1 else 0)
def ShOk (S : Sh) : Prop :=
  (S.so ≤ 2) ∧
  (1 ≤ S.f) ∧
  (S.f ≤ 3) ∧
  (S.e ≤ 3) ∧
  (S.n ≤ 5) ∧
  (∀ k, k < S.f → 1 ≤ S.dm k) ∧
  (∀ k, S.f ≤ k → S.dm k = 0) ∧
  (∀ k, S.dg k ≤ 9) ∧
  (∀ k, S.gn k ≤ 9) ∧
  (S.so ≠ 0 → S.f = 1) ∧
  (∀ k, (S.so ≠ 1 ∨ S.e ≤ k) → S.dg k = 0 ∧ S.gn k = 0) ∧
  (S.so = 1 → S.dm 0 = 3) ∧
  (S.so = 2 → S.dm 0 = 5 ∧ S.e = 0)
theorem ShOk.so {S : Sh} (h : ShOk S) : S.so ≤ 2 := h.1
theorem ShOk.f1 {S : Sh} (h : ShOk S) : 1 ≤ S.f := h.2.1
theorem ShOk.f3 {S : Sh} (h : ShOk S) : S.f ≤ 3 := h.2.2.1
theorem ShOk.e3 {S : Sh} (h : ShOk S) : S.e ≤ 3 := h.2.2.2.1
theorem ShOk.n5 {S : Sh} (h : ShOk S) : S.n ≤ 5 := h.2.2.2.2.1
theorem ShOk.din {S : Sh} (h : ShOk S) : ∀ k, k < S.f → 1 ≤ S.dm k := h.2.2.2.2.2.1
theorem ShOk.dout {S : Sh} (h : ShOk S) : ∀ k, S.f ≤ k → S.dm k = 0 := h.2.2.2.2.2.2.1
theorem ShOk.dg9 {S : Sh} (h : ShOk S) : ∀ k, S.dg k ≤ 9 := h.2.2.2.2.2.2.2.1
theorem ShOk.gn9 {S : Sh} (h : ShOk S) : ∀ k, S.gn k ≤ 9 := h.2.2.2.2.2.2.2.2.1
theorem ShOk.cur {S : Sh} (h : ShOk S) : S.so ≠ 0 → S.f = 1 := h.2.2.2.2.2.2.2.2.2.1
theorem ShOk.dg0 {S : Sh} (h : ShOk S) : ∀ k, (S.so ≠ 1 ∨ S.e ≤ k) → S.dg k = 0 ∧ S.gn k = 0 := h.2.2.2.2.2.2.2.2.2.2.1
theorem ShOk.cu3 {S : Sh} (h : ShOk S) : S.so = 1 → S.dm 0 = 3 := h.2.2.2.2.2.2.2.2.2.2.2.1
theorem ShOk.con {S : Sh} (h : ShOk S) : S.so = 2 → S.dm 0 = 5 ∧ S.e = 0 := h.2.2.2.2.2.2.2.2.2.2.2.2
theorem ShOk.ln {S : Sh} (h : ShOk S) : LnOk S.L S.n := by
  have h1 := h.f1
  have h2 := h.f3
  have h3 := h.e3
  have h4 := h.n5
  have h5 := h.din 0 (by omega)
  refine ⟨?_, ?_, ?_, h4⟩
  · unfold Sh.L; omega
  · unfold Sh.L
    split
    · rename_i q
      have := h.cur (by omega)
      have := (h.con q).2
      omega
    · omega
  · unfold Sh.n; omega
/-- the Shape k0 of the class, rows from r on -/
def ShC (S : Sh) (k0 r : Nat) (s : SS) : Prop :=
  (s.1 k0 0 = nI S.so) ∧
  (s.1 k0 1 = nI S.f) ∧
  (s.1 k0 2 = nI S.e) ∧
  (∀ k, k < 3 → s.1 r k = nI (S.dm k)) ∧
  (∀ k, k < 3 → s.1 (r + 1) k = nI (S.dg k)) ∧
  (∀ k, k < 3 → s.1 (r + 2) k = nI (S.gn k))
theorem ShC.so {S : Sh} {k0 r : Nat} {s : SS} (h : ShC S k0 r s) : s.1 k0 0 = nI S.so := h.1
theorem ShC.f {S : Sh} {k0 r : Nat} {s : SS} (h : ShC S k0 r s) : s.1 k0 1 = nI S.f := h.2.1
theorem ShC.e {S : Sh} {k0 r : Nat} {s : SS} (h : ShC S k0 r s) : s.1 k0 2 = nI S.e := h.2.2.1
theorem ShC.dm {S : Sh} {k0 r : Nat} {s : SS} (h : ShC S k0 r s) : ∀ k, k < 3 → s.1 r k = nI (S.dm k) := h.2.2.2.1
theorem ShC.dg {S : Sh} {k0 r : Nat} {s : SS} (h : ShC S k0 r s) : ∀ k, k < 3 → s.1 (r + 1) k = nI (S.dg k) := h.2.2.2.2.1
theorem ShC.gn {S : Sh} {k0 r : Nat} {s : SS} (h : ShC S k0 r s) : ∀ k, k < 3 → s.1 (r + 2) k = nI (S.gn k) := h.2.2.2.2.2
theorem ShC.fr {S : Sh} {k0 r : Nat} {s s1 : SS} {A B : List Nat} (h : ShC S k0 r s) (hF : FR A B s s1) (h0 : k0 ∉ A) (h1 : r ∉ A) (h2 : r + 1 ∉ A) (h3 : r + 2 ∉ A) : ShC S k0 r s1 :=
  ⟨hF.1 k0 h0 ▸ h.so, hF.1 k0 h0 ▸ h.f, hF.1 k0 h0 ▸ h.e, hF.1 r h1 ▸ h.dm, hF.1 (r + 1) h2 ▸ h.dg, hF.1 (r + 2) h3 ▸ h.gn⟩
/-- THE SPACE of the reference -/
def ShM (S : Sh) (τ : SS) : Prop :=
  (τ.1 0 0 = nI S.so) ∧
  (τ.1 0 1 = nI S.n) ∧
  (S.so = 0 → τ.1 0 2 = nI S.f) ∧
  (τ.1 0 4 = nI S.e) ∧
  (S.so = 0 → ∀ k, k < 3 → τ.1 1 k = nI (S.dm k)) ∧
  (S.so = 1 → ∀ k, k < S.e → τ.1 2 k = nI (S.dg k)) ∧
  (S.so = 1 → ∀ k, k < S.e → τ.1 3 k = nI (S.gn k))
theorem ShM.so {S : Sh} {τ : SS} (h : ShM S τ) : τ.1 0 0 = nI S.so := h.1
theorem ShM.n {S : Sh} {τ : SS} (h : ShM S τ) : τ.1 0 1 = nI S.n := h.2.1
theorem ShM.f {S : Sh} {τ : SS} (h : ShM S τ) : S.so = 0 → τ.1 0 2 = nI S.f := h.2.2.1
theorem ShM.e {S : Sh} {τ : SS} (h : ShM S τ) : τ.1 0 4 = nI S.e := h.2.2.2.1
theorem ShM.dm {S : Sh} {τ : SS} (h : ShM S τ) : S.so = 0 → ∀ k, k < 3 → τ.1 1 k = nI (S.dm k) := h.2.2.2.2.1
theorem ShM.dg {S : Sh} {τ : SS} (h : ShM S τ) : S.so = 1 → ∀ k, k < S.e → τ.1 2 k = nI (S.dg k) := h.2.2.2.2.2.1
theorem ShM.gn {S : Sh} {τ : SS} (h : ShM S τ) : S.so = 1 → ∀ k, k < S.e → τ.1 3 k = nI (S.gn k) := h.2.2.2.2.2.2
/-! ===== WORTH ===== -/
def whl (S : Sh) (c : Nat) : Nat → Bool
  | 0 => true
  | k + 1 => whl S c k && dig c k == S.dm k
def pts (c n : Nat) : Nat → Nat → Bool
  | 0, _ => false
  | j + 1, k => if dig c k = n then true else pts c n j (k + 1)
def crv (S : Sh) (c : Nat) : Nat → Nat → Int64
  | 0, _ => 0
  | j + 1, k => if dig c (1 + k) = 3 then ((2 : Int64) - ((2 : Int64) * (nI (S.gn k)).toInt64)) - ((4 : Int64) * (nI (S.dg k)).toInt64) else if dig c (1 + k) = 2 ∧ dig c 0 = 1 then -(nI (S.dg k)).toInt64 else crv S c j (k + 1)
def cnc (d : Nat) : Int64 := if d = 3 then 4 else if d = 4 then 18 else if d = 5 then 51 else 0
def WTn (S : Sh) (c : Nat) : Int64 :=
  if whl S c S.f = true then 1 else if S.so = 0 then (if pts c S.n S.e S.f = true then (if S.n % 2 = 0 then -1 else 1) else 0) else if S.so = 1 then crv S c S.e 0 else cnc (dig c 1)
def WT (S : Sh) (c : Nat) : Int64 := if sz c = S.n then WTn S c else 0
theorem dig_nI {c k b : Nat} (hb : b < 2 ^ 31) : nI (dig c k) = nI b ↔ dig c k = b := nI_eq (by have := dig_lt c k; omega) hb
theorem ZOx34 {k0 : Nat} (h : k0 = 3 ∨ k0 = 4) : zis Ox 7 k0 = true ∧ zrf Ox k0 3 = 15 + 3 * (k0 - 3) ∧ zrf Ox k0 4 = 16 + 3 * (k0 - 3) ∧ zrf Ox k0 5 = 17 + 3 * (k0 - 3) := by
  rcases h with rfl | rfl <;> exact ⟨rfl, rfl, rfl, rfl⟩
theorem Ox_row {k : Nat} (h : 15 ≤ k ∧ k < 21) : Ox k = .inr (0, 3, []) := by
  obtain ⟨d, rfl⟩ : ∃ d, k = 15 + d := ⟨k - 15, by omega⟩
  have : d = 0 ∨ d = 1 ∨ d = 2 ∨ d = 3 ∨ d = 4 ∨ d = 5 := by omega
  rcases this with rfl | rfl | rfl | rfl | rfl | rfl <;> rfl
theorem Ox_68 : Ox 68 = .inr (0, 6, []) := rfl
theorem par_n : ∀ n, n ≤ 5 → ((nI n - nI n / (2 : Int32) * (2 : Int32)) = 0 ↔ n % 2 = 0) := by decide
theorem par_n1 : ∀ n, n ≤ 5 → ((nI n - nI n / (2 : Int32) * (2 : Int32)) = 1 ↔ ¬ n % 2 = 0) := by decide
section
variable {S : Sh} {s : SS} {c : Nat} {k0 : Nat}
theorem p_worth_pts (hS : ShOk S) (hk : k0 = 3 ∨ k0 = 4) (h : ShC S k0 (15 + 3 * (k0 - 3)) s) (hf : Fg (s.1 68) c) (hso : S.so = 0) :
    ∀ j k m, k + j = S.f + S.e → j < m → f_X7_worthByPoints_c10 m k0 68 (nI S.n) (nI k) s = some (if pts c S.n j k = true then (if S.n % 2 = 0 then -1 else 1) else 0, s) := by
  have hL := hS.ln
  have hn5 := hS.n5
  have hfe : S.f + S.e ≤ 6 := by have := hS.f3; have := hS.e3; omega
  intro j
  induction j with
  | zero =>
    intro k m hk2 hm
    obtain ⟨m, rfl⟩ : ∃ m', m = m' + 1 := ⟨m - 1, by omega⟩
    rw [f_X7_worthByPoints_c10, if_pos (ZOx34 hk).1, h.f, h.e, nI_add, if_pos (nI_le (by omega) (by omega))]
    rfl
  | succ j ih =>
    intro k m hk2 hm
    obtain ⟨m, rfl⟩ : ∃ m', m = m' + 1 := ⟨m - 1, by omega⟩
    rw [f_X7_worthByPoints_c10, if_pos (ZOx34 hk).1, h.f, h.e, nI_add, if_neg (nI_ge (by omega) (by omega)), if_pos (zia_at Ox_68), zlen_at Ox_68, if_neg (nI_ge (by omega) (by omega)), if_pos (zok_nI Ox_68 (by omega) (by decide)), nI_clamp (by omega), hf k (by omega), pts]
    by_cases h1 : dig c k = S.n
    · rw [if_pos ((dig_nI (by omega)).mpr h1), if_pos h1, if_pos rfl]
      by_cases h2 : S.n % 2 = 0
      · rw [if_pos ((par_n _ hn5).mpr h2), if_pos h2]
      · rw [if_neg (fun q => h2 ((par_n _ hn5).mp q)), if_neg h2]
    · rw [if_neg (fun q => h1 ((dig_nI (by omega)).mp q)), if_neg h1, nI_1, ih (k + 1) m (by omega) (by omega)]
theorem p_worth_crv (hS : ShOk S) (hk : k0 = 3 ∨ k0 = 4) (h : ShC S k0 (15 + 3 * (k0 - 3)) s) (hf : Fg (s.1 68) c) (hso : S.so = 1) :
    ∀ j k m, k + j = S.e → j < m → f_X7_worthByCurves_c2 m k0 68 (nI k) s = some (crv S c j k, s) := by
  have he := hS.e3
  obtain ⟨z1, z2, z3, z4⟩ := ZOx34 hk
  have hr : Ox (17 + 3 * (k0 - 3)) = .inr (0, 3, []) := Ox_row (by omega)
  have hr2 : Ox (16 + 3 * (k0 - 3)) = .inr (0, 3, []) := Ox_row (by omega)
  intro j
  induction j with
  | zero =>
    intro k m hk2 hm
    obtain ⟨m, rfl⟩ : ∃ m', m = m' + 1 := ⟨m - 1, by omega⟩
    rw [f_X7_worthByCurves_c2, if_pos z1, h.e, if_pos (nI_le (by omega) (by omega))]
    rfl
  | succ j ih =>
    intro k m hk2 hm
    obtain ⟨m, rfl⟩ : ∃ m', m = m' + 1 := ⟨m - 1, by omega⟩
    have hg : s.1 (17 + 3 * (k0 - 3)) k = nI (S.gn k) := by
      have := h.gn k (by omega)
      rwa [show 15 + 3 * (k0 - 3) + 2 = 17 + 3 * (k0 - 3) from by omega] at this
    have hd : s.1 (16 + 3 * (k0 - 3)) k = nI (S.dg k) := by
      have := h.dg k (by omega)
      rwa [show 15 + 3 * (k0 - 3) + 1 = 16 + 3 * (k0 - 3) from by omega] at this
    rw [f_X7_worthByCurves_c2, if_pos z1, h.e, if_neg (nI_ge (by omega) (by omega)), z3, z4, if_pos (zia_at hr), zlen_at hr, if_neg (nI_ge (by omega) (by omega)), show (1 : Int32) + nI k = nI (1 + k) from by rw [show (1 : Int32) = nI 1 from rfl, nI_add], if_pos (zok_nI Ox_68 (by omega) (by decide)), nI_clamp (by omega), nI_clamp (by omega), hf (1 + k) (by omega), crv]
    rw [show (3 : Int32) = nI 3 from rfl, show (2 : Int32) = nI 2 from rfl]
    have g1 := zok_nI (t := 0) hr2 (i := k) (by omega) (by decide)
    have g2 := zok_nI (t := 0) hr (i := k) (by omega) (by decide)
    have g3 : zok Ox 0 68 0 = true := rfl
    simp only [g1, g2, g3, if_true]
    rw [hg, hd, show ((0 : Int32)).toNatClampNeg = 0 from rfl, hf 0 (by omega)]
    by_cases h1 : dig c (1 + k) = 3
    · rw [if_pos ((dig_nI (by omega)).mpr h1), if_pos h1]
      rfl
    · rw [if_neg (fun q => h1 ((dig_nI (by omega)).mp q)), if_neg h1]
      have e := ih (k + 1) m (by omega) (by omega)
      by_cases h2 : dig c (1 + k) = 2
      · rw [if_pos ((dig_nI (by omega)).mpr h2)]
        rw [show (1 : Int32) = nI 1 from rfl]
        by_cases h3 : dig c 0 = 1
        · rw [if_pos ((dig_nI (by omega)).mpr h3), if_pos ⟨h2, h3⟩]
          rfl
        · rw [if_neg (fun q => h3 ((dig_nI (by omega)).mp q)), if_neg (fun q => h3 q.2), f_X7_worthByCurves_c68, if_pos z1, nI_1]
          exact e
      · rw [if_neg (fun q => h2 ((dig_nI (by omega)).mp q)), if_neg (fun q => h2 q.1), f_X7_worthByCurves_c68, if_pos z1, nI_1]
        exact e
theorem p_worth_cnc (d : Nat) (hd : d < 2 ^ 31) (s : SS) : f_X7_worthByConics (nI d) s = some (cnc d, s) := by
  unfold f_X7_worthByConics cnc
  rw [show (3 : Int32) = nI 3 from rfl, show (4 : Int32) = nI 4 from rfl, show (5 : Int32) = nI 5 from rfl]
  simp only [nI_eq hd (show 3 < 2 ^ 31 by decide), nI_eq hd (show 4 < 2 ^ 31 by decide), nI_eq hd (show 5 < 2 ^ 31 by decide)]
  split
  · rfl
  · split
    · rfl
    · split <;> rfl
end
section
variable {S : Sh} {s : SS} {c : Nat} {k0 : Nat}
theorem p_dim (hk : k0 = 3 ∨ k0 = 4) (h : ShC S k0 (15 + 3 * (k0 - 3)) s) : f_X7_dimension k0 s = some (nI S.n, s) := by
  obtain ⟨z1, z2, z3, z4⟩ := ZOx34 hk
  have hr : Ox (15 + 3 * (k0 - 3)) = .inr (0, 3, []) := Ox_row (by omega)
  have g0 : zok Ox 0 (15 + 3 * (k0 - 3)) 0 = true := zok_nI hr (i := 0) (by decide) (by decide)
  have g1 : zok Ox 0 (15 + 3 * (k0 - 3)) 1 = true := zok_nI hr (i := 1) (by decide) (by decide)
  have g2 : zok Ox 0 (15 + 3 * (k0 - 3)) 2 = true := zok_nI hr (i := 2) (by decide) (by decide)
  rw [f_X7_dimension, if_pos z1, z2, if_pos g0, if_pos g1, if_pos g2, show ((0 : Int32)).toNatClampNeg = 0 from rfl, show ((1 : Int32)).toNatClampNeg = 1 from rfl, show ((2 : Int32)).toNatClampNeg = 2 from rfl, h.dm 0 (by decide), h.dm 1 (by decide), h.dm 2 (by decide), nI_add, nI_add]
  rfl
theorem p_letters (hS : ShOk S) (hk : k0 = 3 ∨ k0 = 4) (h : ShC S k0 (15 + 3 * (k0 - 3)) s) : f_X7_letterCount k0 s = some (nI S.L, s) := by
  have := hS.so
  rw [f_X7_letterCount, if_pos (ZOx34 hk).1, h.so, h.f, h.e, nI_add, show (2 : Int32) = nI 2 from rfl, show (1 : Int32) = nI 1 from rfl, show (0 : Int32) = nI 0 from rfl, nI_add, nI_add]
  unfold Sh.L
  by_cases h2 : S.so = 2
  · rw [if_pos (by rw [h2]), if_pos h2]
  · rw [if_neg (fun q => h2 ((nI_eq (by omega) (by decide)).mp q)), if_neg h2]
theorem p_worth_49 (hS : ShOk S) (hk : k0 = 3 ∨ k0 = 4) (h : ShC S k0 (15 + 3 * (k0 - 3)) s) (hf : Fg (s.1 68) c) (b : Bool) (hb : whl S c S.f = b) :
    f_X7_worthOf_c49 k0 68 (if b = true then 1 else 0) s = some (WTn S c, s) := by
  have hso := hS.so
  obtain ⟨z1, z2, z3, z4⟩ := ZOx34 hk
  have hS3 := hS.f3
  have hS4 := hS.e3
  rw [f_X7_worthOf_c49, if_pos z1]
  unfold WTn
  rw [hb]
  cases b with
  | true => rfl
  | false =>
    rw [h.so]
    rw [if_pos (show (if false = true then (1 : Int32) else 0) = 0 from rfl), if_neg (show ¬ (false = true) by decide)]
    have hc : S.so = 0 ∨ S.so = 1 ∨ S.so = 2 := by omega
    rcases hc with q | q | q <;> rw [q]
    · rw [if_pos (show nI 0 = 0 from rfl), if_pos rfl, f_X7_worthByPoints, if_pos z1, p_dim hk h]
      rw [zbd_s, h.f, p_worth_pts hS hk h hf q S.e S.f ZF rfl (by unfold ZF; omega)]
      rfl
    · rw [if_neg (show ¬ nI 1 = 0 by decide), if_pos (show nI 1 = 1 from rfl), if_neg (show ¬ (1 = 0) by decide), if_pos rfl, f_X7_worthByCurves, if_pos z1, show (0 : Int32) = nI 0 from rfl, p_worth_crv hS hk h hf q S.e 0 ZF (by omega) (by unfold ZF; omega)]
      rfl
    · rw [if_neg (show ¬ nI 2 = 0 by decide), if_neg (show ¬ nI 2 = 1 by decide), if_neg (show ¬ (2 = 0) by decide), if_neg (show ¬ (2 = 1) by decide), if_pos (show zok Ox 0 68 1 = true from rfl), show ((1 : Int32)).toNatClampNeg = 1 from rfl, hf 1 (by decide), p_worth_cnc _ (by have := dig_lt c 1; omega)]
      rfl
theorem p_worth_c4 (hS : ShOk S) (hk : k0 = 3 ∨ k0 = 4) (h : ShC S k0 (15 + 3 * (k0 - 3)) s) (hf : Fg (s.1 68) c) :
    ∀ j k m, k + j = S.f → j < m → f_X7_worthOf_c4 m k0 68 (if whl S c k = true then 1 else 0) (nI k) s = some (WTn S c, s) := by
  obtain ⟨z1, z2, z3, z4⟩ := ZOx34 hk
  have hf3 := hS.f3
  have hr : Ox (15 + 3 * (k0 - 3)) = .inr (0, 3, []) := Ox_row (by omega)
  have hn := hS.n5
  intro j
  induction j with
  | zero =>
    intro k m hk2 hm
    obtain ⟨m, rfl⟩ : ∃ m', m = m' + 1 := ⟨m - 1, by omega⟩
    rw [f_X7_worthOf_c4, if_pos z1, h.f, if_pos (nI_le (by omega) (by omega))]
    exact p_worth_49 hS hk h hf _ (by rw [show k = S.f from by omega])
  | succ j ih =>
    intro k m hk2 hm
    obtain ⟨m, rfl⟩ : ∃ m', m = m' + 1 := ⟨m - 1, by omega⟩
    have hd : S.dm k ≤ 5 := by
      have : k = 0 ∨ k = 1 ∨ k = 2 := by omega
      unfold Sh.n at hn
      rcases this with rfl | rfl | rfl <;> omega
    rw [f_X7_worthOf_c4, if_pos z1, h.f, if_neg (nI_ge (by omega) (by omega)), z2, if_pos (zia_at hr), zlen_at hr, if_neg (nI_ge (by omega) (by omega)), if_pos (zok_nI Ox_68 (by omega) (by decide)), if_pos (zok_nI hr (by omega) (by decide)), nI_clamp (by omega), hf k (by omega), h.dm k (by omega)]
    have e := ih (k + 1) m (by omega) (by omega)
    rw [whl] at e
    cases hw : whl S c k with
    | false =>
      rw [hw] at e
      rw [if_pos (show (if false = true then (1 : Int32) else 0) = 0 from rfl), f_X7_worthOf_c41, if_pos z1, f_X7_worthOf_c42, if_pos z1, nI_1]
      exact e
    | true =>
      rw [hw] at e
      rw [if_neg (show ¬ (if true = true then (1 : Int32) else 0) = 0 by decide)]
      by_cases h3 : dig c k = S.dm k
      · rw [h3, if_pos rfl, f_X7_worthOf_c42, if_pos z1, nI_1]
        rw [show (true && dig c k == S.dm k) = true from by simp [h3]] at e
        exact e
      · rw [if_neg (fun q => h3 ((dig_nI (by omega)).mp q)), f_X7_worthOf_c41, if_pos z1, f_X7_worthOf_c42, if_pos z1, nI_1]
        rw [show (true && dig c k == S.dm k) = false from by simp [h3]] at e
        exact e
/-- the class's worth of the powers of c -/
theorem p_worth (hS : ShOk S) (hk : k0 = 3 ∨ k0 = 4) (h : ShC S k0 (15 + 3 * (k0 - 3)) s) (hf : Fg (s.1 68) c) : f_X7_worthOf k0 68 s = some (WTn S c, s) := by
  rw [f_X7_worthOf, if_pos (ZOx34 hk).1]
  exact p_worth_c4 hS hk h hf S.f 0 ZF (by omega) (by have := hS.f3; unfold ZF; omega)
end
