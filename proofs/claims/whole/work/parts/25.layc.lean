/-! ===== the class: a TERM more ===== -/
def plb (S : Sh) (c : Nat) : Int32 := if sm (fun k => if S.f ≤ k then 0 else dig c k) S.L = sz c then 1 else 0
theorem ztab_0 : ∀ k, k < 6 → ztab 0 (nI k) = nI (10 ^ k) := by decide +kernel
theorem zS_ne (s : SS) {k a : Nat} (j : Nat) (v : Int32) (h : a ≠ k) : (zS s k j v).1 a = s.1 a := if_neg h
theorem zSL_ne (s : SS) {k a : Nat} (j : Nat) (v : Int64) (h : a ≠ k) : (zSL s k j v).2 a = s.2 a := if_neg h
theorem zS_at (s : SS) (k j : Nat) (v : Int32) : (zS s k j v).1 k = upd (s.1 k) j v := if_pos rfl
theorem zSL_at (s : SS) (k j : Nat) (v : Int64) : (zSL s k j v).2 k = vp_updL (s.2 k) j v := if_pos rfl
def adt (S : Sh) (c t : Nat) (s : SS) : SS := zS (zSL (zS (zS (zS s 62 t (nI c)) 63 t (nI (sz c))) 65 t (plb S c)) 64 t (WT S c)) 6 2 (nI (t + 1))
section
variable {S : Sh} {s : SS} {c t : Nat}
theorem p_add_152 (ht : t < 462) {s : SS} (h2 : s.1 6 2 = nI t) (w : Int64) : f_X10_addTerm_c152 w (nI t) s = some ((), zS (zSL s 64 t w) 6 2 (nI (t + 1))) := by
  rw [f_X10_addTerm_c152, if_pos (zin_nI ht (by decide)), nI_clamp (by omega), zSL_1, h2, nI_1]
theorem p_add_84 (hS : ShOk S) (h : ShC S 3 15 s) (hf : Fg (s.1 68) c) (hc : sz c ≤ 5) (h0 : s.1 6 0 = nI S.n) (ht : t < 462) (h2 : s.1 6 2 = nI t) (w : Nat) (hw : w < 2 ^ 31) (hp : plb S c = if w = sz c then 1 else 0) :
    f_X10_addTerm_c84 3 (nI c) (nI (sz c)) (nI w) s = some ((), adt S c t s) := by
  have hn := hS.n5
  have q1 : ∀ (x y : Int32), (zS (zS s 62 t x) 63 t y).1 6 2 = nI t := fun x y => by
    rw [zS_ne _ _ _ (by decide), zS_ne _ _ _ (by decide), h2]
  have q2 : ∀ (x y z : Int32), (zS (zS (zS s 62 t x) 63 t y) 65 t z).1 6 2 = nI t := fun x y z => by
    rw [zS_ne _ _ _ (by decide), q1]
  have q3 : ∀ (x y z : Int32), (zS (zS (zS s 62 t x) 63 t y) 65 t z).1 6 0 = nI S.n := fun x y z => by
    rw [zS_ne _ _ _ (by decide), zS_ne _ _ _ (by decide), zS_ne _ _ _ (by decide), h0]
  have q4 : ∀ (x : Int32), (zS s 62 t x).1 6 2 = nI t := fun x => by
    rw [zS_ne _ _ _ (by decide), h2]
  have hF : ∀ (x y z : Int32), FR [62, 63, 65] [] s (zS (zS (zS s 62 t x) 63 t y) 65 t z) := fun x y z => (((FR.refl s).sS (by decide) _ _).sS (by decide) _ _).sS (by decide) _ _
  have key : ∀ b : Int32, vp_nar .boolean b = b → f_X10_addTerm_c123 3 (nI (sz c)) b (nI t) (zS (zS s 62 t (nI c)) 63 t (nI (sz c))) = some ((), zS (zSL (zS (zS (zS s 62 t (nI c)) 63 t (nI (sz c))) 65 t b) 64 t (WT S c)) 6 2 (nI (t + 1))) := by
    intro b hb
    have z7 : zis Ox 7 3 = true := rfl
    rw [f_X10_addTerm_c123, if_pos z7, if_pos (zin_nI ht (by decide)), nI_clamp (by omega), hb, q3]
    unfold WT
    by_cases hz : sz c = S.n
    · rw [hz, if_pos rfl, if_pos rfl]
      rw [p_worth hS (Or.inl rfl) (h.fr (hF _ _ _) (by decide) (by decide) (by decide) (by decide)) (by rw [(hF _ _ _).1 68 (by decide)]; exact hf), zbd_s, q2, p_add_152 ht (q2 _ _ _)]
    · rw [if_neg (fun q => hz ((nI_eq (by omega) (by omega)).mp q)), if_neg hz, q2, p_add_152 ht (q2 _ _ _)]
  rw [f_X10_addTerm_c84, if_pos (show zis Ox 7 3 = true from rfl), h2, if_pos (zin_nI ht (by decide)), nI_clamp (by omega), q4, if_pos (zin_nI ht (by decide)), nI_clamp (by omega)]
  unfold adt
  rw [hp, q1]
  by_cases h3 : w = sz c
  · rw [if_pos h3, if_pos (by rw [h3]), key 1 (by decide)]
  · rw [if_neg h3, if_neg (fun q => h3 ((nI_eq hw (by omega)).mp q)), key 0 (by decide)]
theorem p_add_c10 (hS : ShOk S) (h : ShC S 3 15 s) (hf : Fg (s.1 68) c) (hL : c < 10 ^ S.L) (hc : sz c ≤ 5) (h0 : s.1 6 0 = nI S.n) (h1 : s.1 6 1 = nI S.L) (ht : t < 462) (h2 : s.1 6 2 = nI t) :
    ∀ j k m, k + j = S.L → j < m → f_X10_addTerm_c10 m 3 (nI (sm (fun i => dig c i * 10 ^ i) k)) (nI (sm (dig c) k)) (nI (sm (fun i => if S.f ≤ i then 0 else dig c i) k)) (nI k) s = some ((), adt S c t s) := by
  have hL6 := hS.ln.2.1
  have hf3 := hS.f3
  have z7 : zis Ox 7 3 = true := rfl
  intro j
  induction j with
  | zero =>
    intro k m hk hm
    obtain ⟨m, rfl⟩ : ∃ m', m = m' + 1 := ⟨m - 1, by omega⟩
    have hk' : k = S.L := by omega
    rw [f_X10_addTerm_c10, if_pos z7, h1, if_pos (nI_le (by omega) (by omega)), hk', sm_sz hL hL6, sm_code, Nat.mod_eq_of_lt hL]
    have hw : sm (fun i => if S.f ≤ i then 0 else dig c i) S.L ≤ 10 * S.L := sm_le (fun i => by
      have := dig_lt c i
      show (if S.f ≤ i then 0 else dig c i) ≤ 10
      split <;> omega) _
    exact p_add_84 hS h hf hc h0 ht h2 _ (by omega) rfl
  | succ j ih =>
    intro k m hk hm
    obtain ⟨m, rfl⟩ : ∃ m', m = m' + 1 := ⟨m - 1, by omega⟩
    have g := zin_nI (i := k) (n := 6) (by omega) (by decide)
    rw [f_X10_addTerm_c10, if_pos z7, h1, if_neg (nI_ge (by omega) (by omega)), if_neg (by rw [show (6 : Int32) = nI 6 from rfl]; exact nI_ge (by omega) (by omega))]
    simp only [g, if_true]
    rw [nI_clamp (by omega), hf k (by omega), ztab_0 k (by omega), pk_mul, nI_add, nI_add, h.f]
    have e := ih (k + 1) m (by omega) (by omega)
    rw [sm, sm, sm] at e
    by_cases h3 : S.f ≤ k
    · rw [if_pos h3, Nat.add_zero] at e
      rw [if_pos (nI_le h3 (by omega)), f_X10_addTerm_c75, if_pos z7, show (0 : Int32) = nI 0 from rfl, nI_add, nI_1]
      exact e
    · rw [if_neg h3] at e
      rw [if_neg (nI_ge (by omega) (by omega)), f_X10_addTerm_c75, if_pos z7, nI_add, nI_1]
      exact e
theorem p_add (hS : ShOk S) (h : ShC S 3 15 s) (hf : Fg (s.1 68) c) (hL : c < 10 ^ S.L) (hc : sz c ≤ 5) (h0 : s.1 6 0 = nI S.n) (h1 : s.1 6 1 = nI S.L) (ht : t < 462) (h2 : s.1 6 2 = nI t) : f_X10_addTerm 3 s = some ((), adt S c t s) := by
  have hL6 := hS.ln.2.1
  rw [f_X10_addTerm, if_pos (show zis Ox 7 3 = true from rfl)]
  exact p_add_c10 hS h hf hL hc h0 h1 ht h2 S.L 0 ZF (by omega) (by unfold ZF; omega)
end
/-! ===== counting ===== -/
def cn (P : Nat → Bool) : Nat → Nat
  | 0 => 0
  | m + 1 => cn P m + if P m = true then 1 else 0
theorem cn_le (P : Nat → Bool) : ∀ m, cn P m ≤ m
  | 0 => Nat.le_refl _
  | m + 1 => by have := cn_le P m; rw [cn]; split <;> omega
theorem cn_mono (P : Nat → Bool) {a b : Nat} (h : a ≤ b) : cn P a ≤ cn P b := by
  induction h with
  | refl => exact Nat.le_refl _
  | step _ ih => rw [cn]; exact Nat.le_trans ih (Nat.le_add_right _ _)
theorem cn_lt (P : Nat → Bool) {a b : Nat} (h : a < b) (ha : P a = true) : cn P a < cn P b := by
  have := cn_mono P (show a + 1 ≤ b from h)
  rw [cn, if_pos ha] at this
  omega
/-- how many have a size below z -/
def stt (g : Nat → Nat) (M z : Nat) : Nat := cn (fun t => decide (g t < z)) M
theorem stt_0 (g : Nat → Nat) : ∀ M, stt g M 0 = 0
  | 0 => rfl
  | M + 1 => by unfold stt; rw [cn, if_neg (by simp)]; exact stt_0 g M
theorem stt_1 (g : Nat → Nat) (z : Nat) : ∀ M, stt g M (z + 1) = stt g M z + cn (fun t => decide (g t = z)) M
  | 0 => rfl
  | M + 1 => by
    have e := stt_1 g z M
    unfold stt at e ⊢
    rw [cn, cn, cn, e]
    by_cases h : g M < z
    · rw [if_pos (by simp; omega), if_pos (by simp; omega), if_neg (by simp; omega)]; omega
    · by_cases h2 : g M = z
      · rw [if_pos (by simp; omega), if_neg (by simp; omega), if_pos (by simp; omega)]; omega
      · rw [if_neg (by simp; omega), if_neg (by simp; omega), if_neg (by simp; omega)]; omega
theorem stt_mono (g : Nat → Nat) (M : Nat) {a b : Nat} (h : a ≤ b) : stt g M a ≤ stt g M b := by
  induction h with
  | refl => exact Nat.le_refl _
  | step _ ih => rw [stt_1]; exact Nat.le_trans ih (Nat.le_add_right _ _)
theorem stt_le (g : Nat → Nat) (M z : Nat) : stt g M z ≤ M := cn_le _ _
/-- the rows ordered by size -/
def ByS (g : Nat → Nat) (M : Nat) (by_ st : Nat → Int32) : Prop :=
  (∀ z, z ≤ 6 → st z = nI (stt g M z)) ∧ ∀ t, t < M → by_ (stt g M (g t) + cn (fun i => decide (g i = g t)) t) = nI t
