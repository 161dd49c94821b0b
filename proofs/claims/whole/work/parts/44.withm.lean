/-! ===== MET with a single TERM ===== -/
/-- what u adds to MET of a row times the TERM t -/
def wt1 (S : Sh) (v : Nat → Int64) (t u : Nat) : Int64 := if sz (S.c u) + sz (S.c t) = S.n then v u * WT S (S.c u + S.c t) else 0
def mw (S : Sh) (v : Nat → Int64) (t : Nat) : Int64 := sl (fun u => wt1 S v t u) S.M
section
variable {S : Sh} {τ : SS} {v : Nat → Int64}
theorem pm_metWith (hS : ShOk S) (hH : ShM S τ) (hT : TmM S τ) {k : Nat} (hk : Om k = .inr (1, 462, [])) (hv : Rw S τ k v) {t : Nat} (ht : t < S.M) : f_X12_metWith k (nI t) τ = some (mw S v t, τ) := by
  have hM : S.M ≤ 462 := (cM_pos hS.ln).2
  have hn := hS.n5
  have key : ∀ (j i n : Nat), i + j = S.M → j < n → f_X12_metWith_c5 n k (nI t) (sl (fun u => wt1 S v t u) i) (nI i) τ = some (mw S v t, τ) := by
    intro j
    induction j with
    | zero =>
      intro i n hi hn
      obtain ⟨n, rfl⟩ : ∃ m', n = m' + 1 := ⟨n - 1, by omega⟩
      rw [f_X12_metWith_c5, hT.M, if_pos (nI_le (by omega) (by omega)), show i = S.M from by omega]
      rfl
    | succ j ih =>
      intro i n hi hn
      obtain ⟨n, rfl⟩ : ∃ m', n = m' + 1 := ⟨n - 1, by omega⟩
      have hi' : i < S.M := by omega
      have g1 := zin_nI (i := i) (n := 462) (by omega) (by decide)
      have g2 := zin_nI (i := t) (n := 462) (by omega) (by decide)
      have g3 := zok_nI (t := 1) hk (i := i) (by omega) (by decide)
      have c1 : (nI i).toNatClampNeg = i := nI_clamp (by omega)
      have c2 : (nI t).toNatClampNeg = t := nI_clamp (by omega)
      have s1 : sz (S.c i) ≤ S.n := sz_le hS.ln hi'
      have s2 : sz (S.c t) ≤ S.n := sz_le hS.ln ht
      have e := ih (i + 1) n (by omega) (by omega)
      rw [sl] at e
      rw [f_X12_metWith_c5, hT.M, if_neg (nI_ge (by omega) (by omega)), if_pos g1, if_pos g2, c1, c2, hT.size i hi', hT.size t ht, hH.n, nI_add, hT.code i hi', hT.code t ht, nI_add, hv i hi']
      by_cases hs : sz (S.c i) + sz (S.c t) = S.n
      · obtain ⟨q, hq, hc⟩ := c_sum hS hi' ht (by omega)
        have hlt : S.c q < 600000 := (cd_lt hS.ln hq).1
        have cq : (nI (S.c q)).toNatClampNeg = S.c q := nI_clamp (by omega)
        have ep : τ.1 7 (S.c q) = nI q := by rw [hT.place _ hlt, c_pos hS hq]; rfl
        have g5 := zin_nI (i := S.c q) (n := 600000) hlt (by decide)
        have g6 := zin_nI (i := q) (n := 462) (by omega) (by decide)
        have cq2 : (nI q).toNatClampNeg = q := nI_clamp (by omega)
        rw [show wt1 S v t i = v i * WT S (S.c q) from by unfold wt1; rw [if_pos hs, hc]] at e
        rw [← hc, if_pos (by rw [hs]), if_pos g3, if_pos g1, if_pos g2, cq, if_pos g5, ep, if_pos g6, cq2, hT.worth q hq, f_X12_metWith_c69, nI_1]
        exact e
      · rw [show wt1 S v t i = 0 from if_neg hs] at e
        rw [if_neg (fun q => hs ((nI_eq (by omega) (by omega)).mp q)), f_X12_metWith_c69, nI_1]
        exact e
  have e := key S.M 0 ZF (by omega) (by unfold ZF; omega)
  rw [nI_0] at e
  exact e
end
