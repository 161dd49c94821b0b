section
variable {S : Sh} {C : Cl} {s : SS} {v w : Nat → Int64}
/-- scratch of the class's sums -/
abbrev SA : List Nat := [26]
abbrev SB : List Nat := [21, 22, 23, 24, 25]
theorem TmC.sc {s1 : SS} (h : TmC S s) (hF : FR SA SB s s1) : TmC S s1 := h.fr hF (by decide) (by decide) (by decide) (by decide) (by decide) (by decide) (by decide)
theorem ClC.sc {s1 : SS} (h : ClC S C 30 46 s) (hC : ClOk C) (hF : FR SA SB s s1) : ClC S C 30 46 s1 := h.fr hC hF (fun m hm => by simp; omega) (fun m hm => by simp; omega)
theorem p_mulF (hS : ShOk S) (hT : TmC S s) {k1 k2 : Nat} (hk1 : 21 ≤ k1 ∧ k1 ≤ 24) (hk2 : 21 ≤ k2 ∧ k2 ≤ 24) (hne : k1 ≠ k2) (hv : Rw S s k1 v) (hw : Rw S s k2 w) : ∃ s', f_X8_multiply k1 k2 s = some ((), s') ∧ Rw S s' k1 (mul S v w) ∧ FR [26] [k1, 25] s s' := by
  obtain ⟨h, f, f', e, h3⟩ := p_mul hS hT hk1 hk2 hv hw
  exact ⟨_, e, fun r hr => by rw [zL_same, h3 r hr], (((FR.refl s).sI (by simp) h).sL (by simp) f).sL (by simp) f'⟩
theorem p_mulBy (hS : ShOk S) (hC : ClOk C) (hT : TmC S s) (h : ClC S C 30 46 s) {m : Nat} (hm : m < C.mm) (hv : Rw S s 21 v) : ∃ s', f_X8_multiplyBy (30 + m) s = some ((), s') ∧ Rw S s' 21 (mul S v (num S C m)) ∧ FR SA SB s s' := by
  have h8 := hC.m8
  obtain ⟨f, e, hf⟩ := p_take hS hC hT h hm (k := 22) (by decide)
  have hF := frL s 22 f
  obtain ⟨s', e2, h3, hF2⟩ := p_mulF hS (hT.sc (hF.mono (by decide) (by decide))) (k1 := 21) (k2 := 22) (by decide) (by decide) (by decide) (hv.fr hF (by decide)) (w := num S C m) (fun t ht => by rw [zL_same, hf t ht])
  exact ⟨s', by rw [f_X8_multiplyBy, if_pos (ZOx_k (by omega)).1, e, zbd_s, e2, zbd_s], h3, (hF.mono (by decide) (by decide)).trans (hF2.mono (by decide) (by decide))⟩
/-- so many times -/
def pw (S : Sh) (v w : Nat → Int64) : Nat → Nat → Int64
  | 0 => v
  | k + 1 => mul S (pw S v w k) w
theorem p_pow (hS : ShOk S) (hC : ClOk C) (hT : TmC S s) (h : ClC S C 30 46 s) {m k : Nat} (hm : m < C.mm) (hk : k < 1000) : ∃ s', f_X8_makePower (30 + m) (nI k) s = some ((), s') ∧ Rw S s' 21 (pw S (one S) (num S C m) k) ∧ FR SA SB s s' := by
  have h8 := hC.m8
  obtain ⟨f1, e1, hf1⟩ := p_one hS hT (k := 21) (by decide)
  have hF1 := (frL s 21 f1).mono (A' := SA) (B' := SB) (by decide) (by decide)
  obtain ⟨f2, e2, hf2⟩ := p_take hS hC (hT.sc hF1) (h.sc hC hF1) hm (k := 22) (by decide)
  have hF2 := hF1.sL (k := 22) (by decide) f2
  have key : ∀ (j i n : Nat) (s1 : SS), i + j = k → j < n → FR SA SB s s1 → Rw S s1 22 (num S C m) → Rw S s1 21 (pw S (one S) (num S C m) i) → ∃ s', f_X8_makePower_c19 n (nI k) (nI i) s1 = some ((), s') ∧ Rw S s' 21 (pw S (one S) (num S C m) k) ∧ FR SA SB s s' := by
    intro j
    induction j with
    | zero =>
      intro i n s1 hi hn hF hw hv
      obtain ⟨n, rfl⟩ : ∃ m', n = m' + 1 := ⟨n - 1, by omega⟩
      refine ⟨s1, ?_, (show i = k by omega) ▸ hv, hF⟩
      rw [f_X8_makePower_c19, if_pos (nI_le (by omega) (by omega))]
    | succ j ih =>
      intro i n s1 hi hn hF hw hv
      obtain ⟨n, rfl⟩ : ∃ m', n = m' + 1 := ⟨n - 1, by omega⟩
      obtain ⟨s2, e, h3, hF3⟩ := p_mulF hS (hT.sc hF) (k1 := 21) (k2 := 22) (by decide) (by decide) (by decide) hv hw
      rw [f_X8_makePower_c19, if_neg (nI_ge (by omega) (by omega)), e, zbd_s, nI_1]
      exact ih (i + 1) n s2 (by omega) (by omega) (hF.trans (hF3.mono (by decide) (by decide))) (hw.fr hF3 (by decide)) h3
  obtain ⟨s', e, h3, hF⟩ := key k 0 ZF _ (by omega) (by unfold ZF; omega) hF2 (fun t ht => by rw [zL_same, hf2 t ht]) (fun t ht => by rw [zL_ne' _ _ (by decide), zL_same, hf1 t ht]; rfl)
  rw [nI_0] at e
  exact ⟨s', by rw [f_X8_makePower, if_pos (ZOx_k (by omega)).1, e1, zbd_s, e2, zbd_s, e], h3, hF⟩
end
