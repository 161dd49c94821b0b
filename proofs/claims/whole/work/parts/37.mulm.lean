/-! ===== PRODUCT ===== -/
def Pm (S : Sh) (v w : Nat → Int64) (t u r : Nat) : Int64 := if sz (S.c t) + sz (S.c u) ≤ S.n ∧ S.c t + S.c u = S.c r then v t * w u else 0
def mul (S : Sh) (v w : Nat → Int64) (r : Nat) : Int64 := sl (fun t => sl (fun u => Pm S v w t u r) S.M) S.M
section
variable {S : Sh} {τ : SS} {v w : Nat → Int64}
theorem Pm_v0 {t u r : Nat} (h : v t = 0) : Pm S v w t u r = 0 := by
  unfold Pm
  rw [h, Int64.zero_mul]
  split <;> rfl
theorem Pm_w0 {t u r : Nat} (h : w u = 0) : Pm S v w t u r = 0 := by
  unfold Pm
  rw [h, Int64.mul_zero]
  split <;> rfl
/-- one number more at the TERM of two codes put together -/
theorem Pm_at (hS : ShOk S) {t u q r : Nat} (hq : q < S.M) (hr : r < S.M) (h : sz (S.c t) + sz (S.c u) ≤ S.n) (hc : S.c q = S.c t + S.c u) : Pm S v w t u r = if r = q then v t * w u else 0 := by
  unfold Pm
  by_cases e : r = q
  · subst e
    rw [if_pos ⟨h, hc.symm⟩, if_pos rfl]
  · rw [if_neg e, if_neg (fun a => e (c_inj hS hr hq (by rw [hc, a.2])))]
theorem pm_m21 (hS : ShOk S) (hH : ShM S τ) (hT : TmM S τ) {k1 k2 : Nat} (hk1 : Om k1 = .inr (1, 462, [])) (hk2 : Om k2 = .inr (1, 462, [])) (h1 : k1 ≠ 33) (h2 : k2 ≠ 33) (hv : Rw S τ k1 v) (hw : Rw S τ k2 w) (rc : Nat → Nat → Int32 → SS → Option (Unit × SS)) {t : Nat} (ht : t < S.M) :
    ∀ (j i n : Nat) (f base : Nat → Int64), i + j = S.M → j < n → (∀ r, r < S.M → f r = base r + sl (fun u => Pm S v w t u r) i) → ∃ f', f_X12_multiply_c21 rc n k1 k2 (nI t) (nI i) (zL τ 33 f) = rc k1 k2 (nI (t + 1)) (zL τ 33 f') ∧ ∀ r, r < S.M → f' r = base r + sl (fun u => Pm S v w t u r) S.M := by
  have hM : S.M ≤ 462 := (cM_pos hS.ln).2
  have hn := hS.n5
  intro j
  induction j with
  | zero =>
    intro i n f base hi hn hf
    obtain ⟨n, rfl⟩ : ∃ m', n = m' + 1 := ⟨n - 1, by omega⟩
    refine ⟨f, ?_, fun r hr => by rw [hf r hr, show i = S.M from by omega]⟩
    rw [f_X12_multiply_c21, zL_1, hT.M, if_pos (nI_le (by omega) (by omega)), f_X12_multiply_c109, nI_1]
  | succ j ih =>
    intro i n f base hi hn hf
    obtain ⟨n, rfl⟩ : ∃ m', n = m' + 1 := ⟨n - 1, by omega⟩
    have hi' : i < S.M := by omega
    have g1 := zok_nI (t := 1) hk1 (i := t) (by omega) (by decide)
    have g2 := zok_nI (t := 1) hk2 (i := i) (by omega) (by decide)
    have g3 := zin_nI (i := t) (n := 462) (by omega) (by decide)
    have g4 := zin_nI (i := i) (n := 462) (by omega) (by decide)
    have c1 : (nI t).toNatClampNeg = t := nI_clamp (by omega)
    have c2 : (nI i).toNatClampNeg = i := nI_clamp (by omega)
    have ev : (zL τ 33 f).2 k1 t = v t := by rw [zL_ne' _ _ h1]; exact hv t ht
    have ew : (zL τ 33 f).2 k2 i = w i := by rw [zL_ne' _ _ h2]; exact hw i hi'
    have sk : ∀ f' : Nat → Int64, (∀ r, r < S.M → f' r = base r + sl (fun u => Pm S v w t u r) (i + 1)) → ∃ f'', f_X12_multiply_c103 (f_X12_multiply_c21 rc n) rc k1 k2 (nI t) (nI i) (zL τ 33 f') = rc k1 k2 (nI (t + 1)) (zL τ 33 f'') ∧ ∀ r, r < S.M → f'' r = base r + sl (fun u => Pm S v w t u r) S.M := fun f' h => by
      rw [f_X12_multiply_c103, nI_1]
      exact ih (i + 1) n f' base (by omega) (by omega) h
    rw [f_X12_multiply_c21, zL_1, hT.M, if_neg (nI_ge (by omega) (by omega)), c1, c2, ev, ew]
    simp only [g1, g2, g3, g4, if_true]
    by_cases v0 : v t = 0
    · rw [if_pos ((lg_cmp_eq _ _).mpr v0), f_X12_multiply_c109, nI_1]
      refine ⟨f, rfl, fun r hr => ?_⟩
      rw [hf r hr, sl_zero (fun u _ => Pm_v0 v0), sl_zero (fun u _ => Pm_v0 v0)]
    · rw [if_neg (fun q => v0 ((lg_cmp_eq _ _).mp q))]
      by_cases w0 : w i = 0
      · rw [if_pos ((lg_cmp_eq _ _).mpr w0)]
        refine sk f (fun r hr => ?_)
        rw [hf r hr, sl, Pm_w0 w0, Int64.add_zero]
      · rw [if_neg (fun q => w0 ((lg_cmp_eq _ _).mp q)), hH.n, hT.size t ht, hT.size i hi', hT.code t ht, hT.code i hi', nI_add, nI_add]
        have s1 := sz_le hS.ln ht
        have s2 := sz_le hS.ln hi'
        have s1' : sz (S.c t) ≤ S.n := s1
        have s2' : sz (S.c i) ≤ S.n := s2
        by_cases hs : sz (S.c t) + sz (S.c i) ≤ S.n
        · obtain ⟨q, hq, hc⟩ := c_sum hS ht hi' hs
          have hlt : S.c q < 600000 := (cd_lt hS.ln hq).1
          rw [if_neg (show ¬ nI S.n < nI (sz (S.c t) + sz (S.c i)) from fun a => by
            rw [Int32.lt_iff_toInt_lt, nI_toInt (by omega), nI_toInt (by omega)] at a
            omega), ← hc]
          have cq : (nI (S.c q)).toNatClampNeg = S.c q := nI_clamp (by omega)
          have ep : τ.1 7 (S.c q) = nI q := by rw [hT.place _ hlt, c_pos hS hq]; rfl
          have g5 := zin_nI (i := S.c q) (n := 600000) hlt (by decide)
          have g6 := zin_nI (i := q) (n := 462) (by omega) (by decide)
          have cq2 : (nI q).toNatClampNeg = q := nI_clamp (by omega)
          simp only [cq, ep, g5, g6, cq2, if_true]
          rw [zSL_eq, zL_zL, zL_same]
          refine sk _ (fun r hr => ?_)
          rw [sl, Pm_at hS hq hr hs hc]
          unfold vp_updL
          by_cases e : r = q
          · rw [if_pos e, if_pos e, e, hf q hq, Int64.add_assoc]
          · rw [if_neg e, if_neg e, Int64.add_zero, hf r hr]
        · rw [if_pos (show nI S.n < nI (sz (S.c t) + sz (S.c i)) from by
            rw [Int32.lt_iff_toInt_lt, nI_toInt (by omega), nI_toInt (by omega)]
            omega)]
          refine sk f (fun r hr => ?_)
          rw [hf r hr, sl, show Pm S v w t i r = 0 from if_neg (fun a => hs a.1), Int64.add_zero]
end
