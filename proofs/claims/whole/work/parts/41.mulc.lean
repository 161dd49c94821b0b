/-- Arrays.fill of a long row from 0 to b -/
theorem p_fillR {O : Nat → OD} {k n b : Nat} {rs : List Nat} (x : Int64) (hO : O k = .inr (1, n, rs)) (hn : n < 1000000) (hb : b ≤ n) (s : SS) : f_J7_fill_bad5a O k 0 (nI b) x s = some ((), zL s k (fun j => if j < b then x else s.2 k j)) := by
  have key : ∀ m i (s : SS), i ≤ b → b - i < m → f_J7_fill_bad5a_c10 O m k (nI b) x (nI i) s = some ((), zL s k (fun j => if i ≤ j ∧ j < b then x else s.2 k j)) := by
    intro m
    induction m with
    | zero => intro i s _ h; omega
    | succ m ih =>
      intro i s hi hm
      rw [f_J7_fill_bad5a_c10]
      rcases Nat.lt_or_ge i b with h | h
      · rw [if_neg (nI_ge h (by omega)), if_pos (zok_nI hO (by omega) (by omega)), nI_clamp (by omega), nI_1, ih (i + 1) _ (by omega) (by omega), zSL_eq, zL_zL, zL_same]
        refine congrArg (fun f => some ((), zL s k f)) (funext fun j => ?_)
        unfold vp_updL
        by_cases h1 : j = i
        · subst h1; simp [h]
        · by_cases h2 : i + 1 ≤ j ∧ j < b
          · rw [if_pos h2, if_pos (by omega)]
          · rw [if_neg h2, if_neg h1, if_neg (by omega)]
      · have e : i = b := by omega
        subst e
        rw [if_pos (nI_le (Nat.le_refl _) (by omega))]
        rw [show (fun j => if i ≤ j ∧ j < i then x else s.2 k j) = s.2 k from funext fun j => if_neg (by omega), zL_self]
  have h := key ZF 0 s (Nat.zero_le _) (by unfold ZF; omega)
  rw [nI_0] at h
  rw [f_J7_fill_bad5a, if_pos (zia_at hO), zlen_at hO, f_J7_rangeCheck_23922]
  have l1 : (0 : Int32) ≤ nI b := by rw [← nI_0]; exact nI_le (Nat.zero_le _) (by omega)
  have l2 : nI b ≤ nI n := nI_le hb (by omega)
  rw [if_pos l1, if_pos (Int32.le_refl 0), if_pos l2, zbd_s, h]
  refine congrArg (fun f => some ((), zL s k f)) (funext fun j => ?_)
  by_cases h3 : j < b
  · rw [if_pos h3, if_pos ⟨Nat.zero_le _, h3⟩]
  · rw [if_neg h3, if_neg (fun q => h3 q.2)]
theorem zok2_n {O : Nat → OD} {t k0 k1 n0 n1 b : Nat} {rs0 rs1 : List Nat} (h0 : O k0 = .inr (t, n0, rs0)) (h1 : O k1 = .inr (t, n1, rs1)) (hb0 : b ≤ n0) (hb1 : b ≤ n1) (hb : b < 2 ^ 31) : zok2 O t k0 0 k1 0 (nI b) = true := by
  have hb' : ¬ nI b < 0 := nI_pos hb
  simp [zok2, zia_at h0, zia_at h1, zlen_at h0, zlen_at h1, hb', nI_clamp hb, hb0, hb1]
theorem cpy_0 {α : Type} (f g : Nat → α) (n t : Nat) : va_cpy f g 0 0 n t = if t < n then f t else g t := by
  unfold va_cpy
  rw [Nat.zero_add, Nat.zero_add, Nat.sub_zero]
  by_cases h : t < n
  · rw [if_pos ⟨Nat.zero_le _, h⟩, if_pos h]
  · rw [if_neg (fun q => h q.2), if_neg h]
