section
variable {S : Sh} {C : Cl} {σ σ1 τ τ1 : SS}
/-! ===== WORDS ===== -/
theorem b01_f : b01 false = 0 := rfl
theorem b01_t : b01 true = 1 := rfl
def wlen (w : Nat) : Nat := ZLEN.getD w 0
def wchr (w k : Nat) : Int32 := (ZBYT.getD w []).getD k 0
theorem len_k : ∀ w, w < 5 → nI (ZLEN.getD w 0) >>> ((0 : Int32) &&& 31) = nI (wlen w) := by decide
theorem len_c {w : Nat} (hw : w < 5) (s : SS) : f_J0_length_8abf5 w s = some (nI (wlen w), s) := by
  have zl : zl5 w = true := decide_eq_true hw
  rw [f_J0_length_8abf5, if_pos zl, f_J0_coder_7d493, if_pos zl, if_neg n10, zbd_s, len_k w hw]
theorem chr_c {w k : Nat} (hw : w < 5) (hk : k < wlen w) (s : SS) : f_J0_charAt_5068e w (nI k) s = some (wchr w k, s) := by
  have h0 : w = 0 ∨ w = 1 ∨ w = 2 ∨ w = 3 ∨ w = 4 := by omega
  have h5 : k < 5 := by rcases h0 with rfl | rfl | rfl | rfl | rfl <;> (have : k < _ := hk; simp [wlen, ZLEN] at this; omega)
  have h1 : k = 0 ∨ k = 1 ∨ k = 2 ∨ k = 3 ∨ k = 4 := by omega
  rcases h0 with rfl | rfl | rfl | rfl | rfl <;> rcases h1 with rfl | rfl | rfl | rfl | rfl <;> first | rfl | exact absurd hk (by decide)
/-- the word w stands from a + k on -/
def wm (l : Nat) (B : Nat → Nat) (a w : Nat) : Nat → Nat → Bool
  | _, 0 => true
  | k, j + 1 => decide (cs l B (a + k) = wchr w k) && wm l B a w (k + 1) j
def hw (l : Nat) (B : Nat → Nat) (a n w : Nat) : Bool := decide (n = wlen w) && wm l B a w 0 (wlen w)
theorem wlen_le {w : Nat} (hw : w < 5) : 1 ≤ wlen w ∧ wlen w ≤ 5 := by
  have h0 : w = 0 ∨ w = 1 ∨ w = 2 ∨ w = 3 ∨ w = 4 := by omega
  rcases h0 with rfl | rfl | rfl | rfl | rfl <;> decide
theorem p_hasWord {l : Nat} {B : Nat → Nat} (T : TapD l B σ τ) {a n w : Nat} (hw5 : w < 5) (ha : a + n ≤ l) : f_X9_hasWord (nI a) (nI n) w σ = some (b01 (hw l B a n w), σ) := by
  have hl := T.le
  have zl : zl5 w = true := decide_eq_true hw5
  obtain ⟨l1, l5⟩ := wlen_le hw5
  rw [f_X9_hasWord, if_pos zl, len_c hw5, zbd_s]
  unfold hw
  by_cases q : n = wlen w
  rotate_left
  · rw [if_neg (fun h => q ((nI_eq (by omega) (by omega)).mp h)), decide_eq_false q, Bool.false_and]; rfl
  rw [if_pos (by rw [q]), decide_eq_true q, Bool.true_and]
  have key : ∀ j k m, k + j = wlen w → j < m → f_X9_hasWord_c13 m (nI a) (nI n) w (nI k) σ = some (b01 (wm l B a w k j), σ) := by
    intro j
    induction j with
    | zero =>
      intro k m hk hm
      obtain ⟨m, rfl⟩ : ∃ x, m = x + 1 := ⟨m - 1, by omega⟩
      rw [f_X9_hasWord_c13, if_pos zl, if_pos (nI_le (by omega) (by omega))]
      rfl
    | succ j ih =>
      intro k m hk hm
      obtain ⟨m, rfl⟩ : ∃ x, m = x + 1 := ⟨m - 1, by omega⟩
      rw [f_X9_hasWord_c13, if_pos zl, if_neg (nI_ge (by omega) (by omega)), nI_add, signAt_c T (by omega), zbd_s, chr_c hw5 (by omega), zbd_s, nI_1, ih (k + 1) m (by omega) (by omega), wm]
      by_cases v : cs l B (a + k) = wchr w k
      · rw [if_pos v, decide_eq_true v, Bool.true_and]
      · rw [if_neg v, decide_eq_false v, Bool.false_and]; rfl
  have := key (wlen w) 0 ZF (by omega) (by unfold ZF; omega)
  rw [nI_0] at this
  exact this
theorem pm_isWord {l : Nat} {B : Nat → Nat} (T : TapD l B σ τ) {a n w : Nat} (hw5 : w < 5) (ha : a + n ≤ l) : f_X12_isWord (nI a) (nI (a + n)) w τ = some (b01 (hw l B a n w), τ) := by
  have hl := T.le
  have zl : zl5 w = true := decide_eq_true hw5
  obtain ⟨l1, l5⟩ := wlen_le hw5
  have bz : ∀ b : Bool, znar .boolean (b01 b) = true := fun b => by cases b <;> rfl
  rw [f_X12_isWord, if_pos zl, len_c hw5, zbd_s, pk_sub (show a ≤ a + n by omega), show a + n - a = n by omega]
  unfold hw
  by_cases q : n = wlen w
  rotate_left
  · rw [if_neg (fun h => q ((nI_eq (by omega) (by omega)).mp h)), decide_eq_false q, Bool.false_and, f_X12_isWord_c15, if_pos zl, show ZF = 9999999 + 1 from rfl, f_X12_isWord_c20, if_pos zl, len_c hw5, zbd_s, if_neg (show ¬ nI (wlen w) ≤ 0 from nI_nle (by omega) (by omega)), if_pos rfl, if_pos (show znar .boolean 0 = true from rfl)]
    rfl
  rw [if_pos (by rw [q]), decide_eq_true q, Bool.true_and, f_X12_isWord_c15, if_pos zl]
  have key : ∀ j k m (b : Bool), k + j = wlen w → j < m → f_X12_isWord_c20 m (nI a) w (b01 b) (nI k) τ = some (b01 (b && wm l B a w k j), τ) := by
    intro j
    induction j with
    | zero =>
      intro k m b hk hm
      obtain ⟨m, rfl⟩ : ∃ x, m = x + 1 := ⟨m - 1, by omega⟩
      rw [f_X12_isWord_c20, if_pos zl, len_c hw5, zbd_s, if_pos (nI_le (by omega) (by omega)), if_pos (bz b), wm, Bool.and_true]
    | succ j ih =>
      intro k m b hk hm
      obtain ⟨m, rfl⟩ : ∃ x, m = x + 1 := ⟨m - 1, by omega⟩
      have y1 := ih (k + 1) m true (by omega) (by omega)
      have y0 := ih (k + 1) m false (by omega) (by omega)
      rw [b01_t, Bool.true_and] at y1
      rw [b01_f, Bool.false_and, b01_f] at y0
      have hak : a + k < l := by omega
      have ecs : cs l B (a + k) = nI (B (a + k)) := if_pos hak
      rw [f_X12_isWord_c20, if_pos zl, len_c hw5, zbd_s, if_neg (nI_ge (by omega) (by omega)), if_pos (bz b), nI_add, if_pos (zin_nI (show a + k < 80 by omega) (by decide)), chr_c hw5 (by omega), zbd_s, nI_clamp (by omega), T.bM (a + k) hak, f_X12_isWord_c57, if_pos zl, f_X12_isWord_c57, if_pos zl, nI_1, y1, y0, wm, ← ecs]
      cases b with
      | false => rfl
      | true =>
        rw [if_neg (show ¬ b01 true = 0 by decide), Bool.true_and]
        by_cases v : cs l B (a + k) = wchr w k
        · rw [if_pos v, decide_eq_true v, Bool.true_and]
        · rw [if_neg v, decide_eq_false v, Bool.false_and]; rfl
  have := key (wlen w) 0 ZF true (by omega) (by unfold ZF; omega)
  rw [nI_0, b01_t, Bool.true_and] at this
  exact this
/-- which word: 5 for none -/
def wd (l : Nat) (B : Nat → Nat) (a n : Nat) : Nat := if hw l B a n 0 = true then 0 else if hw l B a n 1 = true then 1 else if hw l B a n 2 = true then 2 else if hw l B a n 3 = true then 3 else if hw l B a n 4 = true then 4 else 5
def wdI (w : Nat) : Int32 := if w < 5 then nI w else -1
theorem b01z (b : Bool) : (b01 b = 0) = ¬ (b = true) := propext (b01_0 b)
theorem p_wordOf {l : Nat} {B : Nat → Nat} (T : TapD l B σ τ) {a n : Nat} (ha : a + n ≤ l) : f_X2_wordOf (nI a) (nI n) σ = some (wdI (wd l B a n), σ) := by
  rw [f_X2_wordOf, p_hasWord T (by decide) ha, zbd_s, p_hasWord T (by decide) ha, zbd_s, p_hasWord T (by decide) ha, zbd_s, p_hasWord T (by decide) ha, zbd_s, p_hasWord T (by decide) ha, zbd_s]
  unfold wd
  cases hw l B a n 0 <;> cases hw l B a n 1 <;> cases hw l B a n 2 <;> cases hw l B a n 3 <;> cases hw l B a n 4 <;> rfl
theorem pm_wordOf {l : Nat} {B : Nat → Nat} (T : TapD l B σ τ) {a n : Nat} (ha : a + n ≤ l) : f_X12_wordOf (nI a) (nI (a + n)) τ = some (wdI (wd l B a n), τ) := by
  rw [f_X12_wordOf, pm_isWord T (by decide) ha, zbd_s, pm_isWord T (by decide) ha, zbd_s, pm_isWord T (by decide) ha, zbd_s, pm_isWord T (by decide) ha, zbd_s, pm_isWord T (by decide) ha, zbd_s]
  unfold wd
  cases hw l B a n 0 <;> cases hw l B a n 1 <;> cases hw l B a n 2 <;> cases hw l B a n 3 <;> cases hw l B a n 4 <;> rfl
/-- letters that stand here -/
def low (c : Int32) : Prop := 97 ≤ c ∧ c ≤ 122
theorem low_len {l : Nat} {B : Nat → Nat} {a : Nat} (ha : a ≤ l) : ∃ n, a + n ≤ l ∧ (∀ i, i < n → low (cs l B (a + i))) ∧ ¬ low (cs l B (a + n)) := by
  have key : ∀ j i, a + i + j = l → (∀ k, k < i → low (cs l B (a + k))) → ∃ n, a + n ≤ l ∧ (∀ i, i < n → low (cs l B (a + i))) ∧ ¬ low (cs l B (a + n)) := by
    intro j
    induction j with
    | zero =>
      intro i hi h
      refine ⟨i, by omega, h, fun w => ?_⟩
      have : cs l B (a + i) = -1 := if_neg (by omega)
      rw [this] at w
      exact absurd w.1 (by decide)
    | succ j ih =>
      intro i hi h
      by_cases q : 97 ≤ cs l B (a + i) ∧ cs l B (a + i) ≤ 122
      · exact ih (i + 1) (by omega) (fun k hk => by
          by_cases e : k = i
          · rw [e]; exact q
          · exact h k (by omega))
      · exact ⟨i, by omega, h, q⟩
  exact key (l - a) 0 (by omega) (fun k hk => absurd hk (by omega))
theorem p_wordLen {l : Nat} {B : Nat → Nat} (T : TapD l B σ τ) {a n : Nat} (ha : a + n ≤ l) (h1 : ∀ i, i < n → low (cs l B (a + i))) (h2 : ¬ low (cs l B (a + n))) : f_X9_wordLength (nI a) σ = some (nI n, σ) := by
  have hl := T.le
  have key : ∀ j i m, i + j = n → j < m → f_X9_wordLength_c2 m (nI a) (nI i) σ = some (nI n, σ) := by
    intro j
    induction j with
    | zero =>
      intro i m hi hm
      obtain ⟨m, rfl⟩ : ∃ x, m = x + 1 := ⟨m - 1, by omega⟩
      have : i = n := by omega
      subst this
      rw [f_X9_wordLength_c2]
      by_cases q : 80 ≤ i
      · rw [if_pos (show (80 : Int32) ≤ nI i from nI_le (a := 80) q (by omega))]
      · rw [if_neg (show ¬ (80 : Int32) ≤ nI i from nI_ge (b := 80) (by omega) (by decide)), nI_add, signAt_c T (by omega), zbd_s]
        by_cases w1 : cs l B (a + i) < 97
        · rw [if_pos w1]
        · rw [if_neg w1, signAt_c T (by omega), zbd_s, if_pos (Int32.not_le.mp (fun v => h2 ⟨Int32.not_lt.mp w1, v⟩))]
    | succ j ih =>
      intro i m hi hm
      obtain ⟨m, rfl⟩ : ∃ x, m = x + 1 := ⟨m - 1, by omega⟩
      have hlow := h1 i (by omega)
      rw [f_X9_wordLength_c2, if_neg (show ¬ (80 : Int32) ≤ nI i from nI_ge (b := 80) (by omega) (by decide)), nI_add, signAt_c T (by omega), zbd_s, if_neg (Int32.not_lt.mpr hlow.1), signAt_c T (by omega), zbd_s, if_neg (Int32.not_lt.mpr hlow.2), nI_1]
      exact ih (i + 1) m (by omega) (by omega)
  have := key n 0 ZF (by omega) (by unfold ZF; omega)
  rw [nI_0] at this
  exact this
/-! ===== a blank, a figure, a blank, a figure ===== -/
def fgr (c : Int32) : Prop := 48 ≤ c ∧ c ≤ 57
theorem p_right {l : Nat} {B : Nat → Nat} (T : TapD l B σ τ) {q : Nat} (hq : q ≤ l) :
    (cs l B q ≠ 32 ∧ f_X2_rightSigns (nI q) σ = some (nI 0, σ)) ∨ (cs l B q = 32 ∧ ¬ fgr (cs l B (q + 1)) ∧ f_X2_rightSigns (nI q) σ = some (nI 1, σ)) ∨ (cs l B q = 32 ∧ fgr (cs l B (q + 1)) ∧ cs l B (q + 2) ≠ 32 ∧ f_X2_rightSigns (nI q) σ = some (nI 2, σ)) ∨
    (cs l B q = 32 ∧ fgr (cs l B (q + 1)) ∧ cs l B (q + 2) = 32 ∧ ¬ fgr (cs l B (q + 3)) ∧ f_X2_rightSigns (nI q) σ = some (nI 3, σ)) ∨ (cs l B q = 32 ∧ fgr (cs l B (q + 1)) ∧ cs l B (q + 2) = 32 ∧ fgr (cs l B (q + 3)) ∧ f_X2_rightSigns (nI q) σ = some (nI 4, σ)) := by
  have hl := T.le
  have e0 : nI q + 0 = nI q := Int32.add_zero _
  have st : ∀ k m, k < 4 → f_X2_rightSigns_c2 (m + 1) (nI q) (nI k) σ = if k % 2 = 0 then (if cs l B (q + k) = 32 then f_X2_rightSigns_c2 m (nI q) (nI (k + 1)) σ else some (nI k, σ)) else (if 48 ≤ cs l B (q + k) ∧ cs l B (q + k) ≤ 57 then f_X2_rightSigns_c2 m (nI q) (nI (k + 1)) σ else some (nI k, σ)) := by
    intro k m hk
    have par : ∀ k, k < 4 → ((nI k - nI k / (2 : Int32) * (2 : Int32)) = 0 ↔ k % 2 = 0) := by decide
    rw [f_X2_rightSigns_c2, if_neg (show ¬ (4 : Int32) ≤ nI k from nI_ge (b := 4) hk (by decide)), nI_add, signAt_c T (by omega), zbd_s, isFig_c, zbd_s, f_X2_rightSigns_c39, nI_1]
    by_cases p : k % 2 = 0
    · rw [if_pos ((par k hk).mpr p), if_pos p]
    · rw [if_neg (fun w => p ((par k hk).mp w)), if_neg p]
      by_cases f : 48 ≤ cs l B (q + k) ∧ cs l B (q + k) ≤ 57
      · rw [if_pos f, if_neg n10, if_pos f]
      · rw [if_neg f, if_pos rfl, if_neg f]
  have e4 : ∀ m, f_X2_rightSigns_c2 (m + 1) (nI q) (nI 4) σ = some (nI 4, σ) := fun m => by rw [f_X2_rightSigns_c2, if_pos (show (4 : Int32) ≤ nI 4 by decide)]; rfl
  have ez : f_X2_rightSigns (nI q) σ = f_X2_rightSigns_c2 (9999995 + 1 + 1 + 1 + 1 + 1) (nI q) (nI 0) σ := rfl
  rw [ez, st 0 _ (by decide), if_pos rfl, Nat.add_zero]
  by_cases s0 : cs l B q = 32
  rotate_left
  · exact Or.inl ⟨s0, if_neg s0⟩
  rw [if_pos s0, st 1 _ (by decide), if_neg (by decide)]
  by_cases s1 : fgr (cs l B (q + 1))
  rotate_left
  · exact Or.inr (Or.inl ⟨s0, s1, if_neg s1⟩)
  have s1' : 48 ≤ cs l B (q + 1) ∧ cs l B (q + 1) ≤ 57 := s1
  rw [if_pos s1', st 2 _ (by decide), if_pos (by decide)]
  by_cases s2 : cs l B (q + 2) = 32
  rotate_left
  · exact Or.inr (Or.inr (Or.inl ⟨s0, s1, s2, if_neg s2⟩))
  rw [if_pos s2, st 3 _ (by decide), if_neg (by decide)]
  by_cases s3 : fgr (cs l B (q + 3))
  rotate_left
  · exact Or.inr (Or.inr (Or.inr (Or.inl ⟨s0, s1, s2, s3, if_neg s3⟩)))
  have s3' : 48 ≤ cs l B (q + 3) ∧ cs l B (q + 3) ≤ 57 := s3
  rw [if_pos s3', e4]
  exact Or.inr (Or.inr (Or.inr (Or.inr ⟨s0, s1, s2, s3, rfl⟩)))
end
