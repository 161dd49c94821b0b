section
variable {S : Sh} {τ : SS} {v w : Nat → Int64}
/-- the reference's PRODUCT of two rows, into the first -/
theorem pm_mul (hS : ShOk S) (hH : ShM S τ) (hT : TmM S τ) {k1 k2 : Nat} (hk1 : Om k1 = .inr (1, 462, [])) (hk2 : Om k2 = .inr (1, 462, [])) (h1 : k1 ≠ 33) (h2 : k2 ≠ 33) (hv : Rw S τ k1 v) (hw : Rw S τ k2 w) :
    ∃ f f', f_X12_multiply k1 k2 τ = some ((), zL (zL τ 33 f) k1 f') ∧ ∀ r, r < S.M → f' r = mul S v w r := by
  have hM : S.M ≤ 462 := (cM_pos hS.ln).2
  have h33 : Om 33 = .inr (1, 462, []) := rfl
  have key : ∀ (j i n : Nat) (f : Nat → Int64), i + j = S.M → j < n → (∀ r, r < S.M → f r = sl (fun t => sl (fun u => Pm S v w t u r) S.M) i) → ∃ f' f'', f_X12_multiply_c10 n k1 k2 (nI i) (zL τ 33 f) = some ((), zL (zL τ 33 f') k1 f'') ∧ ∀ r, r < S.M → f'' r = mul S v w r := by
    intro j
    induction j with
    | zero =>
      intro i n f hi hn hf
      obtain ⟨n, rfl⟩ : ∃ m', n = m' + 1 := ⟨n - 1, by omega⟩
      have hF := fmL τ 33 f
      obtain ⟨f2, e, h3⟩ := pm_copy hS (hT.fm hF (by decide) (by decide) (by decide) (by decide) (by decide)) h33 hk1 (fun q => h1 q.symm) (v := mul S v w) (fun r hr => by rw [zL_same, hf r hr, show i = S.M from by omega]; rfl)
      refine ⟨f, f2, ?_, h3⟩
      rw [f_X12_multiply_c10, zL_1, hT.M, if_pos (nI_le (by omega) (by omega)), e, zbd_s]
    | succ j ih =>
      intro i n f hi hn hf
      obtain ⟨n, rfl⟩ : ∃ m', n = m' + 1 := ⟨n - 1, by omega⟩
      obtain ⟨f2, e, h3⟩ := pm_m21 hS hH hT hk1 hk2 h1 h2 hv hw (f_X12_multiply_c10 n) (t := i) (by omega) S.M 0 ZF f f (by omega) (by unfold ZF; omega) (fun r hr => by rw [sl, Int64.add_zero])
      rw [nI_0] at e
      rw [f_X12_multiply_c10, zL_1, hT.M, if_neg (nI_ge (by omega) (by omega)), e]
      exact ih (i + 1) n f2 (by omega) (by omega) (fun r hr => by rw [h3 r hr, hf r hr, sl])
  obtain ⟨f0, e0, h0⟩ := pm_empty hS hT h33
  obtain ⟨f, f', e, h3⟩ := key S.M 0 ZF f0 (by omega) (by unfold ZF; omega) (fun r hr => by rw [h0 r hr, sl])
  rw [nI_0] at e
  exact ⟨f, f', by rw [f_X12_multiply, e0, zbd_s, e], h3⟩
end
