section
variable {S : Sh} {s : SS} {w : Nat → Int64}
/-- every place of the order by size holds a TERM -/
theorem TmC.by_at (hS : ShOk S) (hT : TmC S s) {q : Nat} (hq : q < S.M) : ∃ t, t < S.M ∧ plc (fun t => sz (S.c t)) S.M t = q ∧ s.1 66 q = nI t := by
  obtain ⟨t, ht, he⟩ := plc_sur (fun t => sz (S.c t)) S.M (B := S.n) (fun t ht => sz_le hS.ln ht) hq
  refine ⟨t, ht, he, ?_⟩
  have := hT.by_.pl ht
  rw [he] at this
  exact this
def hP (s : SS) (w : Nat → Int64) (q : Nat) : Bool := !decide (w (s.1 66 q).toNatClampNeg = 0)
theorem p_hold (hS : ShOk S) (hT : TmC S s) {k : Nat} (hk : 21 ≤ k ∧ k ≤ 25) (hw : Rw S s k w) : ∃ h, f_X8_hold k s = some (nI (cn (hP s w) S.M), zI s 26 h) ∧ ∀ q, q < S.M → hP s w q = true → h (cn (hP s w) q) = s.1 66 q := by
  have hM : S.M ≤ 462 := (cM_pos hS.ln).2
  have key : ∀ (j q n : Nat) (h : Nat → Int32), q + j = S.M → j < n → (∀ i, i < q → hP s w i = true → h (cn (hP s w) i) = s.1 66 i) → ∃ h', f_X8_hold_c4 n k (nI (cn (hP s w) q)) (nI q) (zI s 26 h) = some (nI (cn (hP s w) S.M), zI s 26 h') ∧ ∀ i, i < S.M → hP s w i = true → h' (cn (hP s w) i) = s.1 66 i := by
    intro j
    induction j with
    | zero =>
      intro q n h hi hn hf
      obtain ⟨n, rfl⟩ : ∃ m', n = m' + 1 := ⟨n - 1, by omega⟩
      refine ⟨h, ?_, fun i hi2 => hf i (by omega)⟩
      rw [f_X8_hold_c4, zI_ne _ _ (show (6 : Nat) ≠ 26 by decide), hT.M, if_pos (nI_le (by omega) (by omega)), show q = S.M from by omega]
    | succ j ih =>
      intro q n h hi hn hf
      obtain ⟨n, rfl⟩ : ∃ m', n = m' + 1 := ⟨n - 1, by omega⟩
      obtain ⟨t, ht, _, hb⟩ := hT.by_at hS (q := q) (by omega)
      have hc : cn (hP s w) q ≤ q := cn_le _ _
      have g1 := zin_nI (i := q) (n := 462) (by omega) (by decide)
      have g2 := zin_nI (i := cn (hP s w) q) (n := 462) (by omega) (by decide)
      have g3 := zok_nI (t := 1) (Ox_r hk) (i := t) (by omega) (by decide)
      have cl : (nI q).toNatClampNeg = q := nI_clamp (by omega)
      have cl2 : (nI t).toNatClampNeg = t := nI_clamp (by omega)
      have cl3 : (nI (cn (hP s w) q)).toNatClampNeg = cn (hP s w) q := nI_clamp (by omega)
      rw [f_X8_hold_c4, zI_ne _ _ (show (6 : Nat) ≠ 26 by decide), zI_ne _ _ (show (66 : Nat) ≠ 26 by decide), hT.M, if_neg (nI_ge (by omega) (by omega)), cl, hb, cl2]
      simp only [g1, g2, g3, if_true]
      rw [zI_2, hw t ht, cl3]
      by_cases h0 : w t = 0
      · have hp : ¬ hP s w q = true := by simp [hP, hb, cl2, h0]
        rw [if_pos ((lg_cmp_eq _ _).mpr h0), f_X8_hold_c49, nI_1]
        have e := ih (q + 1) n h (by omega) (by omega) (fun i hi2 hp2 => by
          by_cases e : i = q
          · exact absurd (e ▸ hp2) hp
          · exact hf i (by omega) hp2)
        rw [cn, if_neg hp, Nat.add_zero] at e
        exact e
      · have hp : hP s w q = true := by simp [hP, hb, cl2, h0]
        rw [if_neg (fun a => h0 ((lg_cmp_eq _ _).mp a)), f_X8_hold_c49, nI_1, nI_1, zS_eq, zI_zI, zI_same]
        have e := ih (q + 1) n (upd h (cn (hP s w) q) (nI t)) (by omega) (by omega) (fun i hi2 hp2 => by
          unfold upd
          by_cases e : i = q
          · rw [e, if_pos rfl, hb]
          · have := cn_lt (hP s w) (show i < q by omega) hp2
            rw [if_neg (by omega)]
            exact hf i (by omega) hp2)
        rw [cn, if_pos hp] at e
        exact e
  obtain ⟨h, e, h2⟩ := key S.M 0 ZF (s.1 26) (by omega) (by unfold ZF; omega) (fun i hi => by omega)
  rw [zI_self, cn, nI_0] at e
  exact ⟨h, by rw [f_X8_hold, e], h2⟩
end
