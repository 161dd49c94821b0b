section
variable {S : Sh} {s : SS} {v w : Nat → Int64}
theorem held_all (hS : ShOk S) (hT : TmC S s) {h : Nat → Int32} (hh : ∀ q, q < S.M → hP s w q = true → h (cn (hP s w) q) = s.1 66 q) :
    (∀ a, a < cn (hP s w) S.M → (h a).toNatClampNeg < S.M ∧ h a = nI (h a).toNatClampNeg) ∧ (∀ a b, a ≤ b → b < cn (hP s w) S.M → sz (S.c (h a).toNatClampNeg) ≤ sz (S.c (h b).toNatClampNeg)) ∧
      ∀ t r, sl (fun a => Pm S v w t (h a).toNatClampNeg r) (cn (hP s w) S.M) = sl (fun u => Pm S v w t u r) S.M := by
  have hM : S.M ≤ 462 := (cM_pos hS.ln).2
  have at_ : ∀ a, a < cn (hP s w) S.M → ∃ q t, q < S.M ∧ hP s w q = true ∧ cn (hP s w) q = a ∧ t < S.M ∧ plc (fun t => sz (S.c t)) S.M t = q ∧ h a = nI t := by
    intro a ha
    obtain ⟨q, h1, h2, h3⟩ := cn_sur _ _ a ha
    obtain ⟨t, ht, hp, hb⟩ := hT.by_at hS h1
    exact ⟨q, t, h1, h2, h3, ht, hp, by rw [← h3, hh q h1 h2, hb]⟩
  refine ⟨fun a ha => ?_, fun a b hab hb => ?_, fun t r => ?_⟩
  · obtain ⟨q, t, _, _, _, ht, _, e⟩ := at_ a ha
    rw [e, nI_clamp (by omega)]
    exact ⟨ht, rfl⟩
  · obtain ⟨q, t, h1, h2, h3, ht, hp, e⟩ := at_ a (by omega)
    obtain ⟨q', u, h1', h2', h3', hu, hp', e'⟩ := at_ b hb
    rw [e, e', nI_clamp (by omega), nI_clamp (by omega)]
    by_cases hq : q = q'
    · have : nI t = nI u := by rw [← e, ← e', ← h3, ← h3', hq]
      rw [(nI_eq (by omega) (by omega)).mp this]
      exact Nat.le_refl _
    · have hlt : q < q' := by
        refine Decidable.byContradiction fun c => ?_
        have := cn_lt (hP s w) (show q' < q by omega) h2'
        omega
      exact plc_mono (g := fun t => sz (S.c t)) ht hu (by rw [hp, hp']; exact hlt)
  · rw [sl_sel (hP s w) (fun a => Pm S v w t (h a).toNatClampNeg r) (fun q => Pm S v w t (s.1 66 q).toNatClampNeg r) (M := S.M) (fun q hq hp => by show Pm S v w t (h (cn (hP s w) q)).toNatClampNeg r = _; rw [hh q hq hp]) S.M (Nat.le_refl _)]
    rw [← sl_perm hT.by_ hM (B := S.n) (fun t ht => sz_le hS.ln ht) (fun u => Pm S v w t u r)]
    refine sl_congr fun q hq => ?_
    by_cases hp : hP s w q = true
    · rw [if_pos hp]
    · rw [if_neg hp, Pm_w0 (by simpa [hP] using hp)]
theorem p_mul (hS : ShOk S) (hT : TmC S s) {k1 k2 : Nat} (hk1 : 21 ≤ k1 ∧ k1 ≤ 24) (hk2 : 21 ≤ k2 ∧ k2 ≤ 24) (hv : Rw S s k1 v) (hw : Rw S s k2 w) :
    ∃ h f f', f_X8_multiply k1 k2 s = some ((), zL (zL (zI s 26 h) 25 f) k1 f') ∧ ∀ r, r < S.M → f' r = mul S v w r := by
  have hM : S.M ≤ 462 := (cM_pos hS.ln).2
  obtain ⟨h, eh, hh⟩ := p_hold hS hT (k := k2) (by omega) hw
  obtain ⟨a1, a2, a3⟩ := held_all (v := v) hS hT hh
  have hH := cn_le (hP s w) S.M
  have hF : FR [26] [] s (zI s 26 h) := (FR.refl s).sI (by decide) h
  have hT1 : TmC S (zI s 26 h) := hT.fr hF (by decide) (by decide) (by decide) (by decide) (by decide) (by decide) (by decide)
  have hv1 : Rw S (zI s 26 h) k1 v := hv
  have hw1 : Rw S (zI s 26 h) k2 w := hw
  have key : ∀ (j i n : Nat) (f : Nat → Int64), i + j = S.M → j < n → (∀ r, r < S.M → f r = sl (fun t => sl (fun u => Pm S v w t u r) S.M) i) → ∃ f' f'', f_X8_multiply_c25 n k1 k2 (nI (cn (hP s w) S.M)) (nI i) (zL (zI s 26 h) 25 f) = some ((), zL (zL (zI s 26 h) 25 f') k1 f'') ∧ ∀ r, r < S.M → f'' r = mul S v w r := by
    intro j
    induction j with
    | zero =>
      intro i n f hi hn hf
      obtain ⟨n, rfl⟩ : ∃ m', n = m' + 1 := ⟨n - 1, by omega⟩
      refine ⟨f, _, by rw [f_X8_multiply_c25, zL_1, hT1.M, if_pos (nI_le (by omega) (by omega)), if_pos (zok2_n (Ox_r (k := 25) (by decide)) (Ox_r (k := k1) (by omega)) hM hM (by omega)), nI_clamp (by omega), show ((0 : Int32)).toNatClampNeg = 0 from rfl], fun r hr => ?_⟩
      rw [cpy_0, if_pos hr, zL_same, hf r hr, show i = S.M from by omega]
      rfl
    | succ j ih =>
      intro i n f hi hn hf
      obtain ⟨n, rfl⟩ : ∃ m', n = m' + 1 := ⟨n - 1, by omega⟩
      have g := zok_nI (t := 1) (Ox_r (k := k1) (by omega)) (i := i) (by omega) (by decide)
      rw [f_X8_multiply_c25, zL_1, hT1.M, if_neg (nI_ge (by omega) (by omega)), if_pos g, if_pos g, nI_clamp (by omega), zL_ne' _ _ (show k1 ≠ 25 by omega), hv1 i (by omega)]
      by_cases h0 : v i = 0
      · rw [if_pos ((lg_cmp_eq _ _).mpr h0), f_X8_multiply_c58, nI_1]
        exact ih (i + 1) n f (by omega) (by omega) (fun r hr => by rw [hf r hr, sl, sl_zero (f := fun u => Pm S v w i u r) (fun u _ => Pm_v0 h0), Int64.add_zero])
      · obtain ⟨f2, e, h3⟩ := p_shift_c hS hT1 (k := k2) (by omega) (by omega) hw1 hH (T := fun a => (h a).toNatClampNeg) (fun a ha => ⟨(a1 a ha).1, by rw [zI_same]; exact (a1 a ha).2⟩) a2 (t := i) (by omega) (cn (hP s w) S.M) 0 ZF f f (by omega) (by unfold ZF; omega) (fun r hr => by rw [sl, Int64.add_zero])
        have g4 := zin_nI (i := i) (n := 462) (by omega) (by decide)
        rw [nI_0] at e
        rw [if_neg (fun q => h0 ((lg_cmp_eq _ _).mp q)), f_X8_addShifted, if_pos g4, if_pos g4, zL_1, hT1.n, nI_clamp (by omega), hT1.size i (by omega), hT1.code i (by omega), pk_sub (show sz (S.c i) ≤ S.n from sz_le hS.ln (show i < S.M by omega)), e, zbd_s, f_X8_multiply_c58, nI_1]
        exact ih (i + 1) n f2 (by omega) (by omega) (fun r hr => by rw [h3 r hr, hf r hr, sl, a3])
  obtain ⟨f, f', e, h3⟩ := key S.M 0 ZF _ (by omega) (by unfold ZF; omega) (fun r hr => (if_pos hr : (if r < S.M then (0 : Int64) else (zI s 26 h).2 25 r) = 0))
  rw [nI_0] at e
  exact ⟨h, f, f', by rw [f_X8_multiply, eh, zbd_s, hT1.M, p_fillR 0 (Ox_r (k := 25) (by decide)) (by decide) hM, zbd_s, e], h3⟩
end
