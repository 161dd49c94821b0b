section
variable {S : Sh} {s : SS} {v w : Nat → Int64}
theorem p_shift_c (hS : ShOk S) (hT : TmC S s) {k : Nat} (hk : 21 ≤ k ∧ k ≤ 25) (hk25 : k ≠ 25) (hw : Rw S s k w) {H : Nat} (hH : H ≤ S.M) {T : Nat → Nat} (hh : ∀ a, a < H → T a < S.M ∧ s.1 26 a = nI (T a)) (hmono : ∀ a b, a ≤ b → b < H → sz (S.c (T a)) ≤ sz (S.c (T b))) {t : Nat} (ht : t < S.M) :
    ∀ (j i n : Nat) (f base : Nat → Int64), i + j = H → j < n → (∀ r, r < S.M → f r = base r + sl (fun a => Pm S v w t (T a) r) i) → ∃ f', f_X8_addShifted_c33 n (v t) k (nI H) (nI (S.n - sz (S.c t))) (nI (S.c t)) (nI i) (zL s 25 f) = some ((), zL s 25 f') ∧ ∀ r, r < S.M → f' r = base r + sl (fun a => Pm S v w t (T a) r) H := by
  have hM : S.M ≤ 462 := (cM_pos hS.ln).2
  have hn := hS.n5
  have st : sz (S.c t) ≤ S.n := sz_le hS.ln ht
  intro j
  induction j with
  | zero =>
    intro i n f base hi hn hf
    obtain ⟨n, rfl⟩ : ∃ m', n = m' + 1 := ⟨n - 1, by omega⟩
    refine ⟨f, ?_, fun r hr => by rw [hf r hr, show i = H from by omega]⟩
    rw [f_X8_addShifted_c33, if_pos (nI_le (by omega) (by omega))]
  | succ j ih =>
    intro i n f base hi hn hf
    obtain ⟨n, rfl⟩ : ∃ m', n = m' + 1 := ⟨n - 1, by omega⟩
    obtain ⟨hu, hb⟩ := hh i (by omega)
    have su : sz (S.c (T i)) ≤ S.n := sz_le hS.ln hu
    have g1 := zin_nI (i := i) (n := 462) (by omega) (by decide)
    have g2 := zin_nI (i := T i) (n := 462) (by omega) (by decide)
    have g3 := zok_nI (t := 1) (Ox_r hk) (i := T i) (by omega) (by decide)
    have cl : (nI i).toNatClampNeg = i := nI_clamp (by omega)
    have cl2 : (nI (T i)).toNatClampNeg = T i := nI_clamp (by omega)
    have hF := frL s 25 f
    have hT2 : TmC S (zL s 25 f) := hT.fr hF (by decide) (by decide) (by decide) (by decide) (by decide) (by decide) (by decide)
    rw [f_X8_addShifted_c33, if_neg (nI_ge (by omega) (by omega)), if_pos g1, cl, zL_1, hb, if_pos g2, cl2, hT.size _ hu]
    by_cases hs : sz (S.c t) + sz (S.c (T i)) ≤ S.n
    · obtain ⟨q, hq, hc⟩ := c_sum hS ht hu hs
      rw [if_neg (show ¬ nI (S.n - sz (S.c t)) < nI (sz (S.c (T i))) from fun a => by
        rw [Int32.lt_iff_toInt_lt, nI_toInt (by omega), nI_toInt (by omega)] at a
        omega), if_pos g1, if_pos g2, hT.code _ hu, nI_add, ← hc, p_find hS.ln hT2.n hT2.L hT2.M, zbd_s, (show pI S.L S.n (nI (S.c q)) = some q from pI_cd hS.ln hq)]
      have g4 := zin_nI (i := q) (n := 462) (by omega) (by decide)
      have cl3 : (nI q).toNatClampNeg = q := nI_clamp (by omega)
      show ∃ f', (if nI q < 0 then _ else _) = _ ∧ _
      rw [show oI (some q) = nI q from rfl, if_neg (nI_pos (show q < 2 ^ 31 by omega)), if_pos g4, if_pos g1, zL_1, hb, if_pos g3, if_pos g4, cl3, cl2, f_X8_addShifted_c114, nI_1, zL_same, zL_ne' _ _ hk25, hw _ hu, zSL_eq, zL_zL, zL_same]
      refine ih (i + 1) n _ base (by omega) (by omega) (fun r hr => ?_)
      rw [sl, Pm_at hS hq hr hs hc]
      unfold vp_updL
      by_cases e : r = q
      · rw [if_pos e, if_pos e, e, hf q hq, Int64.add_assoc]
      · rw [if_neg e, if_neg e, Int64.add_zero, hf r hr]
    · rw [if_pos (show nI (S.n - sz (S.c t)) < nI (sz (S.c (T i))) from by
        rw [Int32.lt_iff_toInt_lt, nI_toInt (by omega), nI_toInt (by omega)]
        omega)]
      refine ⟨f, rfl, fun r hr => ?_⟩
      rw [hf r hr, show H = i + (H - i) from by omega, sl_add, sl_zero (f := fun a => Pm S v w t (T (i + a)) r) (fun a ha => if_neg (fun b => hs (by have := hmono i (i + a) (by omega) (by omega); omega))), Int64.add_zero]
end
