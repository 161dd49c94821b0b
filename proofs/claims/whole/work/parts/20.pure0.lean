/-! ===== reading the state ===== -/
theorem zI_1 (s : SS) (k a : Nat) (f : Nat → Int32) : (zI s k f).1 a = if a = k then f else s.1 a := rfl
theorem zI_2 (s : SS) (k : Nat) (f : Nat → Int32) : (zI s k f).2 = s.2 := rfl
theorem zL_1 (s : SS) (k : Nat) (f : Nat → Int64) : (zL s k f).1 = s.1 := rfl
theorem zL_2 (s : SS) (k a : Nat) (f : Nat → Int64) : (zL s k f).2 a = if a = k then f else s.2 a := rfl
theorem zS_eq (s : SS) (k j : Nat) (v : Int32) : zS s k j v = zI s k (upd (s.1 k) j v) := rfl
theorem zSL_eq (s : SS) (k j : Nat) (v : Int64) : zSL s k j v = zL s k (vp_updL (s.2 k) j v) := rfl
theorem zI_same (s : SS) (k : Nat) (f : Nat → Int32) : (zI s k f).1 k = f := if_pos rfl
theorem zI_ne (s : SS) {k a : Nat} (f : Nat → Int32) (h : a ≠ k) : (zI s k f).1 a = s.1 a := if_neg h
theorem zL_same (s : SS) (k : Nat) (f : Nat → Int64) : (zL s k f).2 k = f := if_pos rfl
theorem zL_ne' (s : SS) {k a : Nat} (f : Nat → Int64) (h : a ≠ k) : (zL s k f).2 a = s.2 a := if_neg h
theorem zS_1 (s : SS) (k j a b : Nat) (v : Int32) : (zS s k j v).1 a b = if a = k ∧ b = j then v else s.1 a b := by
  show (if a = k then upd (s.1 k) j v else s.1 a) b = _
  by_cases h : a = k
  · subst h
    simp [upd]
  · simp [h]
theorem zS_2 (s : SS) (k j : Nat) (v : Int32) : (zS s k j v).2 = s.2 := rfl
theorem zSL_1 (s : SS) (k j : Nat) (v : Int64) : (zSL s k j v).1 = s.1 := rfl
theorem zSL_2 (s : SS) (k j a b : Nat) (v : Int64) : (zSL s k j v).2 a b = if a = k ∧ b = j then v else s.2 a b := by
  show (if a = k then vp_updL (s.2 k) j v else s.2 a) b = _
  by_cases h : a = k
  · subst h
    simp [vp_updL]
  · simp [h]
theorem zI_zI (s : SS) (k : Nat) (f g : Nat → Int32) : zI (zI s k f) k g = zI s k g := by
  unfold zI
  refine Prod.ext (funext fun a => ?_) rfl
  by_cases h : a = k <;> simp [h]
theorem zL_zL (s : SS) (k : Nat) (f g : Nat → Int64) : zL (zL s k f) k g = zL s k g := by
  unfold zL
  refine Prod.ext rfl (funext fun a => ?_)
  by_cases h : a = k <;> simp [h]
theorem zI_self (s : SS) (k : Nat) : zI s k (s.1 k) = s := by
  unfold zI
  refine Prod.ext (funext fun a => ?_) rfl
  by_cases h : a = k <;> simp [h]
theorem zL_self (s : SS) (k : Nat) : zL s k (s.2 k) = s := by
  unfold zL
  refine Prod.ext rfl (funext fun a => ?_)
  by_cases h : a = k <;> simp [h]
theorem zI_comm (s : SS) {k a : Nat} (h : k ≠ a) (f g : Nat → Int32) : zI (zI s k f) a g = zI (zI s a g) k f := by
  unfold zI
  refine Prod.ext (funext fun b => ?_) rfl
  by_cases h1 : b = k
  · subst h1; simp [h]
  · by_cases h2 : b = a <;> simp [h1, h2, h.symm]
theorem zL_comm (s : SS) {k a : Nat} (h : k ≠ a) (f g : Nat → Int64) : zL (zL s k f) a g = zL (zL s a g) k f := by
  unfold zL
  refine Prod.ext rfl (funext fun b => ?_)
  by_cases h1 : b = k
  · subst h1; simp [h]
  · by_cases h2 : b = a <;> simp [h1, h2, h.symm]
theorem zIL (s : SS) (k a : Nat) (f : Nat → Int32) (g : Nat → Int64) : zL (zI s k f) a g = zI (zL s a g) k f := rfl
/-! ===== guards at small numbers ===== -/
theorem zin_nI {i n : Nat} (h : i < n) (hn : n ≤ 2 ^ 31) : zin (nI i) n = true := by
  have h1 : i < 2 ^ 31 := by omega
  have h2 : ¬ nI i < 0 := nI_pos h1
  simp [zin, h2, nI_clamp h1, h]
theorem zin_iff {x : Int32} {n : Nat} (hn : n ≤ 2 ^ 31) : zin x n = true ↔ ∃ i : Nat, i < n ∧ x = nI i := by
  constructor
  · intro h
    simp only [zin, Bool.and_eq_true, Bool.not_eq_true', decide_eq_false_iff_not, decide_eq_true_eq] at h
    obtain ⟨j, hj, rfl⟩ := nI_of h.1
    rw [nI_clamp hj] at h
    exact ⟨j, h.2, rfl⟩
  · rintro ⟨i, hi, rfl⟩
    exact zin_nI hi hn
theorem zok_nI {O : Nat → OD} {t k n i : Nat} {rs : List Nat} (hO : O k = .inr (t, n, rs)) (h : i < n) (hn : n ≤ 2 ^ 31) : zok O t k (nI i) = true := by
  simp [zok, hO, zin_nI h hn]
theorem zia_at {O : Nat → OD} {t k n : Nat} {rs : List Nat} (hO : O k = .inr (t, n, rs)) : zia O t k = true := by
  simp [zia, hO]
theorem zlen_at {O : Nat → OD} {t k n : Nat} {rs : List Nat} (hO : O k = .inr (t, n, rs)) : zlen O k = n := by
  simp [zlen, hO]
/-! ===== loops ===== -/
/-- a loop from i up to N with an invariant: it comes to its exit -/
theorem zlp {σ α : Type} (I : Nat → σ → Prop) (F : Nat → Nat → σ → α) (N : Nat) (ex : σ → α) (hx : ∀ n s, I N s → F (n + 1) N s = ex s)
    (hs : ∀ n i s, i < N → I i s → ∃ s', I (i + 1) s' ∧ F (n + 1) i s = F n (i + 1) s') : ∀ n i s, I i s → i ≤ N → N - i < n → ∃ s', I N s' ∧ F n i s = ex s' := by
  intro n
  induction n with
  | zero => intro i s _ _ h; omega
  | succ n ih =>
    intro i s hi hN hlt
    rcases Nat.lt_or_ge i N with h | h
    · obtain ⟨s', h1, h2⟩ := hs n i s h hi
      obtain ⟨s2, h3, h4⟩ := ih (i + 1) s' h1 (by omega) (by omega)
      exact ⟨s2, h3, h2.trans h4⟩
    · have e : i = N := by omega
      subst e
      exact ⟨s, hi, hx n s hi⟩
/-- the same, where the loop may end early -/
theorem zlq {σ α : Type} (I : Nat → σ → Prop) (P : α → Prop) (F : Nat → Nat → σ → α) (N : Nat) (ex : σ → α) (hx : ∀ n s, I N s → F (n + 1) N s = ex s)
    (hs : ∀ n i s, i < N → I i s → (∃ s', I (i + 1) s' ∧ F (n + 1) i s = F n (i + 1) s') ∨ P (F (n + 1) i s)) : ∀ n i s, I i s → i ≤ N → N - i < n → (∃ s', I N s' ∧ F n i s = ex s') ∨ P (F n i s) := by
  intro n
  induction n with
  | zero => intro i s _ _ h; omega
  | succ n ih =>
    intro i s hi hN hlt
    rcases Nat.lt_or_ge i N with h | h
    · rcases hs n i s h hi with ⟨s', h1, h2⟩ | h2
      · rcases ih (i + 1) s' h1 (by omega) (by omega) with ⟨s2, h3, h4⟩ | h3
        · exact Or.inl ⟨s2, h3, h2.trans h4⟩
        · rw [h2]; exact Or.inr h3
      · exact Or.inr h2
    · have e : i = N := by omega
      subst e
      exact Or.inl ⟨s, hi, hx n s hi⟩
theorem zbd_s {α β : Type} (a : α) (s : SS) (k : α → SS → Option β) : zbd (some (a, s)) k = k a s := rfl
/-! ===== Arrays.fill ===== -/
theorem p_fillI {O : Nat → OD} {k n : Nat} {rs : List Nat} (x : Int32) (hO : O k = .inr (0, n, rs)) (hn : n < 1000000) (s : SS) : f_J7_fill_53178 O k x s = some ((), zI s k (fun j => if j < n then x else s.1 k j)) := by
  rw [f_J7_fill_53178, if_pos (zia_at hO), zlen_at hO]
  have key : ∀ m i (s : SS), i ≤ n → n - i < m → f_J7_fill_53178_c5 O m k x (nI i) (nI n) s = some ((), zI s k (fun j => if i ≤ j ∧ j < n then x else s.1 k j)) := by
    intro m
    induction m with
    | zero => intro i s _ h; omega
    | succ m ih =>
      intro i s hi hm
      rw [f_J7_fill_53178_c5]
      rcases Nat.lt_or_ge i n with h | h
      · rw [if_neg (nI_ge h (by omega)), if_pos (zok_nI hO h (by omega)), nI_clamp (by omega), nI_1, ih (i + 1) _ (by omega) (by omega), zS_eq, zI_zI, zI_same]
        refine congrArg (fun f => some ((), zI s k f)) (funext fun j => ?_)
        unfold upd
        by_cases h1 : j = i
        · subst h1; simp [h]
        · by_cases h2 : i + 1 ≤ j ∧ j < n
          · rw [if_pos h2, if_pos (by omega)]
          · rw [if_neg h2, if_neg h1, if_neg (by omega)]
      · have e : i = n := by omega
        subst e
        rw [if_pos (nI_le (Nat.le_refl _) (by omega))]
        rw [show (fun j => if i ≤ j ∧ j < i then x else s.1 k j) = s.1 k from funext fun j => if_neg (by omega), zI_self]
  have h := key ZF 0 s (Nat.zero_le _) (by unfold ZF; omega)
  rw [nI_0] at h
  rw [h]
  simp
theorem zfill_1 (σ : SS) : f_J7_fill_53178 (fun k => if k = 0 then .inr (0, 3, []) else .inl (99, [])) 0 (-1) σ = some ((), zI σ 0 (fun j => if j < 3 then -1 else σ.1 0 j)) := p_fillI (rs := []) (-1) rfl (by decide) σ
