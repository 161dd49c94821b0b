section
variable {S : Sh} {s : SS} {v : Nat → Int64}
theorem p_metWith (hS : ShOk S) (hT : TmC S s) {k : Nat} (hk : 21 ≤ k ∧ k ≤ 25) (hv : Rw S s k v) {t : Nat} (ht : t < S.M) : f_X8_metWith k (nI t) s = some (mw S v t, s) := by
  have hM : S.M ≤ 462 := (cM_pos hS.ln).2
  have hn := hS.n5
  have st : sz (S.c t) ≤ S.n := sz_le hS.ln ht
  let g := fun t => sz (S.c t)
  have hB : ByS g S.M (s.1 66) (s.1 67) := hT.by_
  obtain ⟨z, hz⟩ : ∃ z, z = S.n - sz (S.c t) := ⟨_, rfl⟩
  have g0 := zin_nI (i := t) (n := 462) (by omega) (by decide)
  have c0 : (nI t).toNatClampNeg = t := nI_clamp (by omega)
  have hle := stt_le g S.M (z + 1)
  have hst := stt_1 g z S.M
  have key : ∀ (j i n : Nat), i + j = cn (fun t => decide (g t = z)) S.M → j < n → f_X8_metWith_c32 n k (nI t) (nI z) (sl (fun q => wt1 S v t (s.1 66 (stt g S.M z + q)).toNatClampNeg) i) (nI (stt g S.M z + i)) s = some (sl (fun q => wt1 S v t (s.1 66 (stt g S.M z + q)).toNatClampNeg) (cn (fun t => decide (g t = z)) S.M), s) := by
    intro j
    induction j with
    | zero =>
      intro i n hi hn2
      obtain ⟨n, rfl⟩ : ∃ m', n = m' + 1 := ⟨n - 1, by omega⟩
      rw [f_X8_metWith_c32, nI_1, if_pos (zin_nI (by omega) (by decide)), nI_clamp (by omega), hB.1 (z + 1) (by omega), show i = cn (fun t => decide (g t = z)) S.M from by omega, if_pos (nI_le (by omega) (by omega))]
    | succ j ih =>
      intro i n hi hn2
      obtain ⟨n, rfl⟩ : ∃ m', n = m' + 1 := ⟨n - 1, by omega⟩
      obtain ⟨u, hu, hzu, hc, hb⟩ := hB.at_ (z := z) (j := i) (by omega)
      have e := ih (i + 1) n (by omega) (by omega)
      rw [sl, hb] at e
      have cu : (nI u).toNatClampNeg = u := nI_clamp (by omega)
      rw [cu] at e
      have hs : sz (S.c u) + sz (S.c t) = S.n := by
        have : sz (S.c u) = z := hzu
        omega
      obtain ⟨q, hq, hcq⟩ := c_sum hS hu ht (by omega)
      have ew : wt1 S v t u = v u * WT S (S.c q) := by unfold wt1; rw [if_pos hs, hcq]
      rw [ew] at e
      have g1 := zok_nI (t := 1) (Ox_r hk) (i := u) (by omega) (by decide)
      have g2 := zin_nI (i := u) (n := 462) (by omega) (by decide)
      have g3 := zin_nI (i := q) (n := 462) (by omega) (by decide)
      have cq : (nI q).toNatClampNeg = q := nI_clamp (by omega)
      rw [f_X8_metWith_c32, nI_1, if_pos (zin_nI (by omega) (by decide)), nI_clamp (show z + 1 < 2 ^ 31 by omega), hB.1 (z + 1) (by omega), if_neg (nI_ge (by omega) (by omega)), if_pos (zin_nI (by omega) (by decide)), nI_clamp (show stt g S.M z + i < 2 ^ 31 by omega), hb, if_pos g1, cu, hv u hu, if_pos g0, if_pos g2, c0, hT.code t ht, hT.code u hu, nI_add, Nat.add_comm (S.c t), ← hcq, p_find hS.ln hT.n hT.L hT.M, zbd_s, (show pI S.L S.n (nI (S.c q)) = some q from pI_cd hS.ln hq), show oI (some q) = nI q from rfl]
      by_cases h0 : v u = 0
      · rw [h0, Int64.zero_mul, Int64.add_zero] at e
        rw [if_pos ((lg_cmp_eq _ _).mpr h0), f_X8_metWith_c100, if_pos (by decide), f_X8_metWith_c127, nI_1]
        exact e
      · rw [if_neg (fun a => h0 ((lg_cmp_eq _ _).mp a)), f_X8_metWith_c100, if_neg (nI_pos (show q < 2 ^ 31 by omega)), if_pos g1, if_pos g3, f_X8_metWith_c127, cu, cq, hv u hu, hT.worth q hq, nI_1]
        exact e
  have k0 := key _ 0 ZF (Nat.zero_add _) (by have := cn_le (fun t => decide (g t = z)) S.M; unfold ZF; omega)
  rw [f_X8_metWith, if_pos g0, c0, hT.n, hT.size t ht, pk_sub st, ← hz, if_pos (zin_nI (by omega) (by decide)), nI_clamp (by omega), hB.1 z (by omega)]
  refine Eq.trans k0 ?_
  rw [sl_by hB hM z (fun u => wt1 S v t u) S.M (Nat.le_refl _)]
  congr 2
  unfold mw
  refine sl_congr fun u hu => ?_
  by_cases h : g u = z
  · rw [if_pos h]
  · rw [if_neg h]
    unfold wt1
    rw [if_neg (fun a => h (show sz (S.c u) = z by omega))]
end
