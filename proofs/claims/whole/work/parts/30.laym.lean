/-! ===== frames of the reference: object 0's fields J, other objects A, long rows B ===== -/
def FM (J : List Nat) (A : List Nat) (B : List Nat) (s : SS) (s' : SS) : Prop :=
  (∀ j, j ∉ J → s'.1 0 j = s.1 0 j) ∧
  (∀ k, k ≠ 0 → k ∉ A → s'.1 k = s.1 k) ∧
  (∀ k, k ∉ B → s'.2 k = s.2 k)
theorem FM.o {J : List Nat} {A : List Nat} {B : List Nat} {s : SS} {s' : SS} (h : FM J A B s s') : ∀ j, j ∉ J → s'.1 0 j = s.1 0 j := h.1
theorem FM.i {J : List Nat} {A : List Nat} {B : List Nat} {s : SS} {s' : SS} (h : FM J A B s s') : ∀ k, k ≠ 0 → k ∉ A → s'.1 k = s.1 k := h.2.1
theorem FM.l {J : List Nat} {A : List Nat} {B : List Nat} {s : SS} {s' : SS} (h : FM J A B s s') : ∀ k, k ∉ B → s'.2 k = s.2 k := h.2.2
section
variable {J A B J' A' B' : List Nat} {s s1 s2 : SS}
theorem FM.refl (s : SS) : FM J A B s s := ⟨fun _ _ => rfl, fun _ _ _ => rfl, fun _ _ => rfl⟩
theorem FM.trans (h : FM J A B s s1) (h2 : FM J A B s1 s2) : FM J A B s s2 := ⟨fun k hk => (h2.o k hk).trans (h.o k hk), fun k h0 hk => (h2.i k h0 hk).trans (h.i k h0 hk), fun k hk => (h2.l k hk).trans (h.l k hk)⟩
theorem FM.mono (h : FM J A B s s1) (hJ : ∀ k ∈ J, k ∈ J') (hA : ∀ k ∈ A, k ∈ A') (hB : ∀ k ∈ B, k ∈ B') : FM J' A' B' s s1 := ⟨fun k hk => h.o k (fun q => hk (hJ k q)), fun k h0 hk => h.i k h0 (fun q => hk (hA k q)), fun k hk => h.l k (fun q => hk (hB k q))⟩
theorem FM.sO (h : FM J A B s s1) {j : Nat} (hj : j ∈ J) (v : Int32) : FM J A B s (zS s1 0 j v) := ⟨fun a ha => by
  rw [zS_1, if_neg (show ¬ (0 = 0 ∧ a = j) from fun q => ha (by rw [q.2]; exact hj))]; exact h.o a ha, fun k h0 hk => by rw [zS_ne _ _ _ h0]; exact h.i k h0 hk, h.l⟩
theorem FM.sI (h : FM J A B s s1) {k : Nat} (h0 : k ≠ 0) (hk : k ∈ A) (f : Nat → Int32) : FM J A B s (zI s1 k f) := ⟨fun a ha => by
  rw [zI_ne _ _ h0.symm]; exact h.o a ha, fun a ha hA => by
  rw [zI_ne _ _ (fun q => by subst q; exact hA hk)]; exact h.i a ha hA, h.l⟩
theorem FM.sS (h : FM J A B s s1) {k : Nat} (h0 : k ≠ 0) (hk : k ∈ A) (j : Nat) (v : Int32) : FM J A B s (zS s1 k j v) := h.sI h0 hk _
theorem FM.sL (h : FM J A B s s1) {k : Nat} (hk : k ∈ B) (f : Nat → Int64) : FM J A B s (zL s1 k f) := ⟨h.o, h.i, fun a ha => by
  rw [zL_ne' _ _ (fun q => by subst q; exact ha hk)]; exact h.l a ha⟩
theorem FM.sSL (h : FM J A B s s1) {k : Nat} (hk : k ∈ B) (j : Nat) (v : Int64) : FM J A B s (zSL s1 k j v) := h.sL hk _
end
theorem ShM.fm {S : Sh} {J A B : List Nat} {s s1 : SS} (h : ShM S s) (hF : FM J A B s s1) (h0 : 0 ∉ J) (h1 : 1 ∉ J) (h2 : 2 ∉ J) (h4 : 4 ∉ J) (a1 : 1 ∉ A) (a2 : 2 ∉ A) (a3 : 3 ∉ A) : ShM S s1 :=
  ⟨hF.o 0 h0 ▸ h.so, hF.o 1 h1 ▸ h.n, hF.o 2 h2 ▸ h.f, hF.o 4 h4 ▸ h.e, hF.i 1 (by decide) a1 ▸ h.dm, hF.i 2 (by decide) a2 ▸ h.dg, hF.i 3 (by decide) a3 ▸ h.gn⟩
/-! ===== the next code's size ===== -/
def chkNext2 (L n : Nat) : Bool := ((tcs L n).zip ((tcs L n).drop 1)).all fun q => match lst q.1 L with
  | none => false
  | some j => if j + 1 < L then sz q.2 == n else sz q.2 + 1 == sz q.1
theorem chkNext2_ok : ((List.range 6).all fun L => (List.range 5).all fun n => chkNext2 (L + 1) (n + 1)) = true := by decide +kernel
theorem cd_next2 {L n t j : Nat} (hL : LnOk L n) (ht : t + 1 < cM L n) (hj : lst (cd L n t) L = some j) : if j + 1 < L then sz (cd L n (t + 1)) = n else sz (cd L n (t + 1)) + 1 = sz (cd L n t) := by
  have a := List.all_eq_true.mp (ln_dec chkNext2_ok hL) (cd L n t, cd L n (t + 1)) (by
    refine List.mem_of_getElem? (i := t) ?_
    rw [List.getElem?_zip_eq_some]
    refine ⟨cd_at (by omega), ?_⟩
    rw [List.getElem?_drop, Nat.add_comm]
    exact cd_at ht)
  revert a
  show (match lst (cd L n t) L with | none => false | some j => _) = true → _
  rw [hj]
  show (if j + 1 < L then sz (cd L n (t + 1)) == n else sz (cd L n (t + 1)) + 1 == sz (cd L n t)) = true → _
  split
  · exact fun h => eq_of_beq h
  · exact fun h => eq_of_beq h
/-! ===== the reference: a TERM more ===== -/
def mdt (S : Sh) (c t : Nat) (s : SS) : SS := zS (zS (zSL (zS (zS s 4 t (nI c)) 5 t (nI (sz c))) 6 t (WT S c)) 7 c (nI t)) 0 7 (nI (t + 1))
theorem mdt_fm (S : Sh) (c t : Nat) (s : SS) : FM [7] [4, 5, 7] [6] s (mdt S c t s) := (((((FM.refl s).sS (by decide) (by decide) _ _).sS (by decide) (by decide) _ _).sSL (by decide) _ _).sS (by decide) (by decide) _ _).sO (by decide) _
section
variable {S : Sh} {τ : SS} {c t : Nat}
theorem pm_102 (hS : ShOk S) (h : ShM S τ) (hT : isT S c) (hc : c < 10 ^ S.L) (hf : Fg (τ.1 32) c) (ht : t < 462) (h7 : τ.1 0 7 = nI t) (rc : Int32 → Int32 → Int32 → Int32 → SS → Option (Unit × SS)) (x2 : Int32) :
    ∀ j k m, k + j = S.L → j < m → f_X12_layTerms_c102 rc m (nI S.L) x2 (nI (S.n - sz c)) (nI (sm (fun i => dig c i * 10 ^ i) k)) (nI k) τ = f_X12_layTerms_c199 rc ZF (nI S.L) x2 (nI (S.n - sz c)) (nI (S.L) - 1) (mdt S c t τ) := by
  have hL6 := hS.ln.2.1
  have hlt := hT.lt hS
  intro j
  induction j with
  | zero =>
    intro k m hk hm
    obtain ⟨m, rfl⟩ : ∃ m', m = m' + 1 := ⟨m - 1, by omega⟩
    have q1 : ∀ v, (zS τ 4 t v).1 0 7 = nI t := fun v => by rw [zS_ne _ _ _ (by decide), h7]
    have q2 : ∀ v, (zS τ 4 t v).1 0 1 = nI S.n := fun v => by rw [zS_ne _ _ _ (by decide), h.n]
    have q3 : ∀ v w, (zS (zS τ 4 t v) 5 t w).1 0 7 = nI t := fun v w => by rw [zS_ne _ _ _ (by decide), q1]
    have q4 : ∀ v w x y, (zS (zSL (zS (zS τ 4 t v) 5 t w) 6 t x) 7 c y).1 0 7 = nI t := fun v w x y => by rw [zS_ne _ _ _ (by decide), zSL_1, q3]
    have q5 : ∀ v w x, (zSL (zS (zS τ 4 t v) 5 t w) 6 t x).1 0 7 = nI t := fun v w x => by rw [zSL_1, q3]
    have g := zin_nI (i := t) (n := 462) ht (by decide)
    have g2 := zin_nI (i := c) (n := 600000) hlt.1 (by decide)
    have cl : (nI t).toNatClampNeg = t := nI_clamp (by omega)
    have cl2 : (nI c).toNatClampNeg = c := nI_clamp (by omega)
    have es : nI S.n - nI (S.n - sz c) = nI (sz c) := by rw [pk_sub (by omega)]; congr 1; omega
    rw [f_X12_layTerms_c102, if_pos (nI_le (by omega) (by omega)), h7, if_pos g, cl, show k = S.L from by omega, sm_code, Nat.mod_eq_of_lt hc, q1, if_pos g, cl, q2, es, q3, cl]
    have hF : FM [] [4, 5] [] τ (zS (zS τ 4 t (nI c)) 5 t (nI (sz c))) := ((FM.refl τ).sS (by decide) (by decide) _ _).sS (by decide) (by decide) _ _
    rw [p_worthBy hS (h.fm hF (by decide) (by decide) (by decide) (by decide) (by decide) (by decide) (by decide)) hT, zbd_s, if_pos g, if_pos g2, cl2, q5, q4, nI_1]
    rfl
  | succ j ih =>
    intro k m hk hm
    obtain ⟨m, rfl⟩ : ∃ m', m = m' + 1 := ⟨m - 1, by omega⟩
    have e := ih (k + 1) m (by omega) (by omega)
    rw [sm] at e
    rw [f_X12_layTerms_c102, if_neg (nI_ge (by omega) (by omega)), if_pos (zin_nI (by omega) (by decide)), p_tens (by omega), zbd_s, nI_clamp (by omega), hf k (by omega), pk_mul, nI_add, nI_1]
    exact e
theorem sub1 (x : Int32) : x + (-1) = x - 1 := by rw [Int32.sub_eq_add_neg]
theorem pm_199 (hf : Fg (τ.1 32) c) (rc : Int32 → Int32 → Int32 → Int32 → SS → Option (Unit × SS)) (x1 x2 x3 : Int32) : ∀ j m, j ≤ 6 → j < m → f_X12_layTerms_c199 rc m x1 x2 x3 (nI j - 1) τ = f_X12_layTerms_c220 rc x1 x2 x3 (oI (lst c j)) τ := by
  intro j
  induction j with
  | zero =>
    intro m hj hm
    obtain ⟨m, rfl⟩ : ∃ m', m = m' + 1 := ⟨m - 1, by omega⟩
    rw [f_X12_layTerms_c199, if_pos (by decide)]
    rfl
  | succ j ih =>
    intro m hj hm
    obtain ⟨m, rfl⟩ : ∃ m', m = m' + 1 := ⟨m - 1, by omega⟩
    have hd := dig_lt c j
    rw [nIm1 (by omega), Nat.add_sub_cancel, f_X12_layTerms_c199, if_neg (nI_pos (by omega)), if_pos (zin_nI (by omega) (by decide)), nI_clamp (by omega), hf j (by omega), lst]
    by_cases h : dig c j = 0
    · rw [if_pos (by rw [h]; rfl), if_pos h, sub1]
      exact ih m (by omega) (by omega)
    · rw [if_neg (show ¬ nI (dig c j) = 0 from fun q => h ((nI_eq (b := 0) (by omega) (by decide)).mp q)), if_neg h]
      rfl
end
