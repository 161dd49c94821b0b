section
variable {S : Sh} {τ : SS} {c : Nat}
/-- c is a TERM's code of S -/
def isT (S : Sh) (c : Nat) : Prop := ∃ t, t < S.M ∧ c = S.c t
theorem isT.lt (hS : ShOk S) (h : isT S c) : c < 600000 ∧ sz c ≤ S.n := by
  obtain ⟨t, ht, rfl⟩ := h
  exact ⟨(cd_lt hS.ln ht).1, sz_le hS.ln ht⟩
theorem p_wm_9 (hS : ShOk S) (h : ShM S τ) (h1 : S.so = 1) (hc : c < 2 ^ 31) (hq : ∀ k, k < S.e → (dig c (1 + k) = 3 ↔ c = 3 * 10 ^ (1 + k)) ∧ ((dig c (1 + k) = 2 ∧ dig c 0 = 1) ↔ c = 1 + 2 * 10 ^ (1 + k))) :
    ∀ j k m, k + j = S.e → j < m → f_X12_worthOfCurved_c9 m (nI c) (nI k) τ = some (crv S c j k, τ) := by
  have he := hS.e3
  intro j
  induction j with
  | zero =>
    intro k m hk hm
    obtain ⟨m, rfl⟩ : ∃ m', m = m' + 1 := ⟨m - 1, by omega⟩
    rw [f_X12_worthOfCurved_c9, h.e, if_pos (nI_le (by omega) (by omega))]
    rfl
  | succ j ih =>
    intro k m hk hm
    obtain ⟨m, rfl⟩ : ∃ m', m = m' + 1 := ⟨m - 1, by omega⟩
    obtain ⟨q1, q2⟩ := hq k (by omega)
    have g := zin_nI (i := k) (n := 3) (by omega) (by decide)
    have h10 : 10 ^ (1 + k) ≤ 10 ^ 4 := Nat.pow_le_pow_right (by decide) (by omega)
    rw [f_X12_worthOfCurved_c9, h.e, if_neg (nI_ge (by omega) (by omega)), show (1 : Int32) + nI k = nI (1 + k) from by rw [show (1 : Int32) = nI 1 from rfl, nI_add], p_tens (by omega), zbd_s, p_tens (by omega), zbd_s]
    simp only [g, if_true]
    rw [show (2 : Int32) * nI (10 ^ (1 + k)) = nI (2 * 10 ^ (1 + k)) from by rw [show (2 : Int32) = nI 2 from rfl, pk_mul], show (3 : Int32) * nI (10 ^ (1 + k)) = nI (3 * 10 ^ (1 + k)) from by rw [show (3 : Int32) = nI 3 from rfl, pk_mul], show (1 : Int32) + nI (2 * 10 ^ (1 + k)) = nI (1 + 2 * 10 ^ (1 + k)) from by rw [show (1 : Int32) = nI 1 from rfl, nI_add], nI_clamp (by omega), h.dg h1 k (by omega), h.gn h1 k (by omega), crv]
    by_cases a : dig c (1 + k) = 3
    · have b := q1.mp a
      rw [if_neg (fun q => by have := (nI_eq hc (by omega)).mp q; omega), if_pos (by rw [b]), if_pos a]
    · rw [if_neg a]
      have b : ¬ c = 3 * 10 ^ (1 + k) := fun q => a (q1.mpr q)
      by_cases a2 : dig c (1 + k) = 2 ∧ dig c 0 = 1
      · rw [if_pos (by rw [← q2.mp a2]), if_pos a2, neg64 _ (hS.dg9 k)]
      · rw [if_neg a2, if_neg (fun q => a2 (q2.mpr ((nI_eq hc (by omega)).mp q))), if_neg (fun q => b ((nI_eq hc (by omega)).mp q)), nI_1]
        exact ih (k + 1) m (by omega) (by omega)
/-- the reference's worth of a code that is a TERM's -/
theorem p_worthBy (hS : ShOk S) (h : ShM S τ) (hT : isT S c) : f_X12_worthBy (nI c) τ = some (WT S c, τ) := by
  have hlt := (hT.lt hS).1
  have hn := hS.n5
  have hso := hS.so
  have hsz := (hT.lt hS).2
  rw [f_X12_worthBy, p_sizeOf (by omega), zbd_s, h.n, h.so]
  unfold WT
  by_cases hz : sz c = S.n
  · rw [if_pos (by rw [hz]), if_pos hz]
    have hc : S.so = 0 ∨ S.so = 1 ∨ S.so = 2 := by omega
    rcases hc with q | q | q
    · rw [q, if_neg (show ¬ (2 : Int32) ≤ nI 0 by decide), if_pos (show nI 0 = 0 from rfl), f_X12_worthOfProduct]
      have e := p_wm_4 hS h q (c := c) (by omega) S.f 0 ZF (by omega) (by have := hS.f3; unfold ZF; omega)
      rw [show (if whl S c 0 = true then (1 : Int32) else 0) = 1 from rfl, nI_0] at e
      rw [e]
      rfl
    · rw [q, if_neg (show ¬ (2 : Int32) ≤ nI 1 by decide), if_neg (show ¬ nI 1 = 0 by decide), f_X12_worthOfCurved]
      have hf := hS.cur (by omega)
      have hd := hS.cu3 q
      have h3 : S.n = 3 := by
        unfold Sh.n
        rw [hd, hS.dout 1 (by omega), hS.dout 2 (by omega)]
      have hL : S.L = 1 + S.e := by
        unfold Sh.L
        rw [hf, q]
        rfl
      obtain ⟨t, ht, rfl⟩ := hT
      have hln := hS.ln
      have ht' : t < cM S.L 3 := by rw [← h3]; exact ht
      have ec : S.c t = cd S.L 3 t := by unfold Sh.c; rw [h3]
      rw [h3] at hln hz
      rw [ec] at hz hlt ⊢
      have hcur := cur_cd hln ht' hz
      unfold WTn
      rw [hf, if_neg (show ¬ S.so = 0 by omega), if_pos q]
      have ew : whl S (cd S.L 3 t) 1 = decide (dig (cd S.L 3 t) 0 = 3) := by
        simp [whl, hd]
        exact Bool.beq_eq_decide_eq _ _
      rw [ew]
      by_cases a : cd S.L 3 t = 3
      · rw [if_pos (by rw [a]; rfl), if_pos (by simp [hcur.1.mpr a])]
        rfl
      · rw [if_neg (show ¬ nI (cd S.L 3 t) = 3 from fun q => a ((nI_eq (b := 3) (by omega) (by decide)).mp q)), if_neg (show ¬ decide (dig (cd S.L 3 t) 0 = 3) = true from fun q => a (hcur.1.mp (of_decide_eq_true q)))]
        rw [show (0 : Int32) = nI 0 from rfl, p_wm_9 hS h q (by omega) (fun k hk => hcur.2 k (by omega)) S.e 0 ZF (by omega) (by have := hS.e3; unfold ZF; omega)]
        rfl
    · rw [q, if_pos (show (2 : Int32) ≤ nI 2 by decide)]
      have hf := hS.cur (by omega)
      obtain ⟨hd, he⟩ := hS.con q
      have h5 : S.n = 5 := by
        unfold Sh.n
        rw [hd, hS.dout 1 (by omega), hS.dout 2 (by omega)]
      have hL : S.L = 2 := by
        unfold Sh.L
        rw [hf, he, q]
        rfl
      have hm : c ∈ tcs 2 5 := by
        obtain ⟨t, ht, rfl⟩ := hT
        have ht' : t < cM 2 5 := by rw [← h5, ← hL]; exact ht
        have := List.mem_of_getElem? (cd_at ht')
        rw [show S.c t = cd 2 5 t from by unfold Sh.c; rw [h5, hL]]
        exact this
      have hw : WTn S c = if dig c 0 = 5 then 1 else cnc (dig c 1) := by
        unfold WTn
        rw [hf, if_neg (show ¬ S.so = 0 by omega), if_neg (show ¬ S.so = 1 by omega)]
        simp [whl, hd]
      rw [hw]
      rcases con_chk c hm (by omega) with r | r | r | r | r | r <;> subst r <;> rfl
  · rw [if_neg (fun q => hz ((nI_eq (by omega) (by omega)).mp q)), if_neg hz]
end
