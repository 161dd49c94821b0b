section
variable {S : Sh} {C : Cl} {σ σ1 τ τ1 : SS}
/-! ===== THE TAPE is read ===== -/
def cs (l : Nat) (B : Nat → Nat) (a : Nat) : Int32 := if a < l then nI (B a) else -1
def TS (l : Nat) (B : Nat → Nat) (a : Nat) (σ : SS) (τ : SS) : Prop :=
  (TapD l B σ τ) ∧
  (a ≤ l) ∧
  (σ.1 8 2 = nI a) ∧
  (τ.1 0 52 = nI a)
theorem TS.t {l : Nat} {B : Nat → Nat} {a : Nat} {σ : SS} {τ : SS} (h : TS l B a σ τ) : TapD l B σ τ := h.1
theorem TS.al {l : Nat} {B : Nat → Nat} {a : Nat} {σ : SS} {τ : SS} (h : TS l B a σ τ) : a ≤ l := h.2.1
theorem TS.aC {l : Nat} {B : Nat → Nat} {a : Nat} {σ : SS} {τ : SS} (h : TS l B a σ τ) : σ.1 8 2 = nI a := h.2.2.1
theorem TS.aM {l : Nat} {B : Nat → Nat} {a : Nat} {σ : SS} {τ : SS} (h : TS l B a σ τ) : τ.1 0 52 = nI a := h.2.2.2
theorem TapD.fr {l : Nat} {B : Nat → Nat} (h : TapD l B σ τ) (h8 : σ1.1 8 1 = σ.1 8 1) (h73 : σ1.1 73 = σ.1 73) (h27 : τ1.1 0 27 = τ.1 0 27) (h20 : τ1.1 20 = τ.1 20) : TapD l B σ1 τ1 :=
  ⟨h.le, by rw [h8]; exact h.lC, by rw [h27]; exact h.lM, h.r, by rw [h73]; exact h.bC, by rw [h20]; exact h.bM⟩
theorem signAt_c {l a : Nat} {B : Nat → Nat} (T : TapD l B σ τ) (ha : a < 2 ^ 30) : f_X9_signAt (nI a) σ = some (cs l B a, σ) := by
  have hl := T.le
  rw [f_X9_signAt, if_neg (nI_pos (by omega)), T.lC, cs]
  by_cases q : a < l
  · rw [if_pos (nI_lt q (by omega)), if_pos (zin_nI (show a < 80 by omega) (by decide)), nI_clamp (by omega), T.bC a q, if_pos q]
  · rw [if_neg (nI_nlt (by omega) (by omega)), if_neg q]
theorem here_c {l a : Nat} {B : Nat → Nat} (T : TapD l B σ τ) (ha : a < 2 ^ 30) (h : τ.1 0 52 = nI a) : f_X12_here τ = some (cs l B a, τ) := by
  have hl := T.le
  rw [f_X12_here, h, T.lM, cs]
  by_cases q : a < l
  · rw [if_neg (nI_ge q (by omega)), if_pos (zin_nI (show a < 80 by omega) (by decide)), nI_clamp (by omega), T.bM a q, if_pos q]
  · rw [if_pos (nI_le (by omega) (by omega)), if_neg q]
theorem TS.sa {l a : Nat} {B : Nat → Nat} (T : TS l B a σ τ) : f_X9_signAt (σ.1 8 2) σ = some (cs l B a, σ) := by
  have := T.t.le
  have := T.al
  rw [T.aC]; exact signAt_c T.t (by omega)
theorem TS.he {l a : Nat} {B : Nat → Nat} (T : TS l B a σ τ) : f_X12_here τ = some (cs l B a, τ) := by
  have := T.t.le
  have := T.al
  exact here_c T.t (by omega) T.aM
theorem TS.next {l a : Nat} {B : Nat → Nat} (T : TS l B a σ τ) (h : a < l) : TS l B (a + 1) (zS σ 8 2 (nI (a + 1))) (zS τ 0 52 (nI (a + 1))) :=
  ⟨T.t.fr (by rw [zS_1, if_neg (fun q => absurd q.2 (by decide))]) (zS_ne _ _ _ (by decide)) (by rw [zS_1, if_neg (fun q => absurd q.2 (by decide))]) (zS_ne _ _ _ (by decide)), by omega, by rw [zS_1, if_pos ⟨rfl, rfl⟩], by rw [zS_1, if_pos ⟨rfl, rfl⟩]⟩
theorem TS.bad {l a : Nat} {B : Nat → Nat} (T : TS l B a σ τ) (v : Int32) : TS l B a σ (zS τ 0 53 v) :=
  ⟨T.t.fr rfl rfl (by rw [zS_1, if_neg (fun q => absurd q.2 (by decide))]) (zS_ne _ _ _ (by decide)), T.al, T.aC, by rw [zS_1, if_neg (fun q => absurd q.2 (by decide))]; exact T.aM⟩
theorem KC.tp (h : KC S C σ) (hF : FR [8] [] σ σ1) : KC S C σ1 :=
  ⟨h.ok, h.okC, h.sh.fr hF (by decide) (by decide) (by decide) (by decide), by rw [hF.1 1 (by decide)]; exact h.mm, h.cl.fr h.okC hF (fun m hm => by simp; omega) (fun m hm => by simp),
    h.tm.fr hF (by decide) (by decide) (by decide) (by decide) (by decide) (by decide) (by decide)⟩
theorem cs_lt {l a : Nat} {B : Nat → Nat} (h : cs l B a ≠ -1) : a < l := by
  refine Decidable.byContradiction fun q => h ?_
  unfold cs
  rw [if_neg q]
/-! ===== a LETTER's sign ===== -/
def lf (S : Sh) (x : Int32) : Nat → Nat → Option Nat
  | 0, _ => none
  | j + 1, k => if nI (sgn S k) = x then some k else lf S x j (k + 1)
theorem sgn_inj (hS : ShOk S) {a b : Nat} (ha : a < S.L) (hb : b < S.L) (h : sgn S a = sgn S b) : a = b := by
  have hso := hS.so
  have hf3 := hS.f3
  have he3 := hS.e3
  have hL : S.L = S.f + S.e + (if S.so = 2 then 1 else 0) := rfl
  unfold sgn at h
  by_cases q2 : S.so = 2
  · have := (hS.con q2).2
    rw [if_pos q2] at hL
    rw [if_pos q2, if_pos q2] at h
    split at h <;> split at h <;> omega
  · rw [if_neg q2] at hL
    rw [if_neg q2, if_neg q2] at h
    by_cases q0 : S.so = 0
    · rw [if_pos q0, if_pos q0] at h
      split at h <;> split at h <;> omega
    · rw [if_neg q0, if_neg q0] at h
      split at h <;> split at h <;> omega
theorem lf_some (hS : ShOk S) (x : Int32) : ∀ j k q, k + j ≤ S.L → (lf S x j k = some q ↔ k ≤ q ∧ q < k + j ∧ nI (sgn S q) = x)
  | 0, k, q, _ => ⟨fun h => by simp [lf] at h, fun h => absurd h.2.1 (by omega)⟩
  | j + 1, k, q, hk => by
    have ih := lf_some hS x j (k + 1) q (by omega)
    have hL6 : S.L ≤ 6 := hS.ln.2.1
    rw [lf]
    by_cases w : nI (sgn S k) = x
    · rw [if_pos w]
      constructor
      · intro h
        cases h
        exact ⟨Nat.le_refl _, by omega, w⟩
      · rintro ⟨h1, h2, h3⟩
        have a1 := (sgn_lt hS (k := k) (by omega)).1
        have a2 := (sgn_lt hS (k := q) (by omega)).1
        rw [sgn_inj hS (show k < S.L by omega) (show q < S.L by omega) ((nI_eq (by omega) (by omega)).mp (by rw [w, h3]))]
    · rw [if_neg w, ih]
      constructor
      · rintro ⟨h1, h2, h3⟩
        exact ⟨by omega, by omega, h3⟩
      · rintro ⟨h1, h2, h3⟩
        have : k ≠ q := fun e => w (by rw [e]; exact h3)
        exact ⟨by omega, by omega, h3⟩
theorem p_letterOf (K : KC S C σ) (x : Int32) : f_X7_letterOf 3 x σ = some (oI (lf S x S.L 0), σ) := by
  have hL6 : S.L ≤ 6 := K.ok.ln.2.1
  have z3 : zis Ox 7 3 = true := rfl
  have key : ∀ j k n, k + j = S.L → j < n → f_X7_letterOf_c2 n 3 x (nI k) σ = some (oI (lf S x j k), σ) := by
    intro j
    induction j with
    | zero =>
      intro k n hk hn
      obtain ⟨n, rfl⟩ : ∃ q, n = q + 1 := ⟨n - 1, by omega⟩
      rw [f_X7_letterOf_c2, if_pos z3, p_letters K.ok (Or.inl rfl) K.sh, zbd_s, if_pos (nI_le (by omega) (by omega))]
      rfl
    | succ j ih =>
      intro k n hk hn
      obtain ⟨n, rfl⟩ : ∃ q, n = q + 1 := ⟨n - 1, by omega⟩
      rw [f_X7_letterOf_c2, if_pos z3, p_letters K.ok (Or.inl rfl) K.sh, zbd_s, if_neg (nI_ge (by omega) (by omega)), p_signOf K.ok K.sh (by omega), zbd_s, nI_1, ih (k + 1) n (by omega) (by omega), lf]
      by_cases q : nI (sgn S k) = x
      · rw [if_pos q, if_pos q]; rfl
      · rw [if_neg q, if_neg q]
  rw [f_X7_letterOf, if_pos z3]
  have := key S.L 0 ZF (by omega) (by unfold ZF; omega)
  rw [nI_0] at this
  exact this
theorem pm_letterHere (L : KM S C τ) {x : Int32} (hx : f_X12_here τ = some (x, τ)) {k : Nat} (hk : k ≤ S.L) : f_X12_letterHere (nI k) τ = some (oI (lf S x (S.L - k) k), τ) := by
  have hL6 : S.L ≤ 6 := L.ok.ln.2.1
  have key : ∀ j k n, k + j = S.L → j < n → f_X12_letterHere_c2 n (nI k) τ = some (oI (lf S x j k), τ) := by
    intro j
    induction j with
    | zero =>
      intro k n hk hn
      obtain ⟨n, rfl⟩ : ∃ q, n = q + 1 := ⟨n - 1, by omega⟩
      rw [f_X12_letterHere_c2, pm_letters L.ok L.sh, zbd_s, if_pos (nI_le (by omega) (by omega))]
      rfl
    | succ j ih =>
      intro k n hk hn
      obtain ⟨n, rfl⟩ : ∃ q, n = q + 1 := ⟨n - 1, by omega⟩
      rw [f_X12_letterHere_c2, pm_letters L.ok L.sh, zbd_s, if_neg (nI_ge (by omega) (by omega)), hx, zbd_s, pm_nameOf L.ok L.sh (by omega), zbd_s, nI_1, ih (k + 1) n (by omega) (by omega), lf]
      by_cases q : nI (sgn S k) = x
      · rw [if_pos q.symm, if_pos q]; rfl
      · rw [if_neg (fun e => q e.symm), if_neg q]
  rw [f_X12_letterHere]
  exact key (S.L - k) k ZF (by omega) (by unfold ZF; omega)
/-! ===== codes that are read ===== -/
def CdOk (S : Sh) (c : Nat) (s : Nat) (q : Nat) : Prop :=
  (c < 10 ^ q) ∧
  (sm (dig c) S.L = s) ∧
  (s ≤ S.n) ∧
  (q ≤ S.L)
theorem CdOk.lt {S : Sh} {c : Nat} {s : Nat} {q : Nat} (h : CdOk S c s q) : c < 10 ^ q := h.1
theorem CdOk.ss {S : Sh} {c : Nat} {s : Nat} {q : Nat} (h : CdOk S c s q) : sm (dig c) S.L = s := h.2.1
theorem CdOk.sn {S : Sh} {c : Nat} {s : Nat} {q : Nat} (h : CdOk S c s q) : s ≤ S.n := h.2.2.1
theorem CdOk.ql {S : Sh} {c : Nat} {s : Nat} {q : Nat} (h : CdOk S c s q) : q ≤ S.L := h.2.2.2
theorem dig_p (p l : Nat) (hp : p ≤ 9) : ∀ L, sm (dig (p * 10 ^ l)) L = if l < L then p else 0
  | 0 => rfl
  | L + 1 => by
    rw [sm, dig_p p l hp L]
    have hpow : 0 < 10 ^ l := Nat.pow_pos (by decide)
    unfold dig
    by_cases q : l < L
    · rw [if_pos q, if_pos (by omega)]
      have : 10 ^ L = 10 ^ l * 10 ^ (L - l) := by rw [← Nat.pow_add]; congr 1; omega
      rw [this, ← Nat.div_div_eq_div_mul, Nat.mul_div_cancel _ hpow]
      have h10 : 10 ≤ 10 ^ (L - l) := by
        have := Nat.pow_le_pow_right (show 0 < 10 by decide) (show 1 ≤ L - l by omega)
        simpa using this
      rw [Nat.div_eq_of_lt (by omega)]
      omega
    · rw [if_neg q]
      by_cases w : l = L
      · subst w
        rw [if_pos (by omega), Nat.mul_div_cancel _ hpow]
        omega
      · rw [if_neg (by omega)]
        have : 10 ^ l = 10 ^ (L + 1) * 10 ^ (l - L - 1) := by rw [← Nat.pow_add]; congr 1; omega
        have e : p * 10 ^ l / 10 ^ L = p * 10 ^ (l - L - 1) * 10 := by
          rw [this, Nat.pow_succ, show p * (10 ^ L * 10 * 10 ^ (l - L - 1)) = (p * 10 ^ (l - L - 1) * 10) * 10 ^ L by simp [Nat.mul_comm, Nat.mul_left_comm, Nat.mul_assoc], Nat.mul_div_cancel _ (Nat.pow_pos (by decide))]
        rw [e]
        omega
theorem CdOk.step (hS : ShOk S) {c s q l p : Nat} (h : CdOk S c s q) (hq : q ≤ l) (hl : l < S.L) (hp1 : 1 ≤ p) (hp : s + p ≤ S.n) : CdOk S (c + p * 10 ^ l) (s + p) (l + 1) := by
  have hn5 := hS.n5
  have h1 : c < 10 ^ l := Nat.lt_of_lt_of_le h.lt (Nat.pow_le_pow_right (by decide) hq)
  have hpl : 10 ^ (l + 1) ≤ 10 ^ S.L := Nat.pow_le_pow_right (by decide) hl
  have h2 : c + p * 10 ^ l < 10 ^ (l + 1) := by
    rw [Nat.pow_succ]
    have : p * 10 ^ l ≤ 5 * 10 ^ l := Nat.mul_le_mul_right _ (by omega)
    omega
  have ed := dig_p p l (by omega) S.L
  rw [if_pos hl] at ed
  have := sm_sum S.L c (p * 10 ^ l) (by omega) (by omega) (by rw [h.ss, ed]; omega)
  exact ⟨h2, by rw [this.1, h.ss, ed], hp, hl⟩
theorem CdOk.term (hS : ShOk S) {c s q : Nat} (h : CdOk S c s q) : ∃ t, t < S.M ∧ S.c t = c := by
  have hpl : 10 ^ q ≤ 10 ^ S.L := Nat.pow_le_pow_right (by decide) h.ql
  have hm := tcs_mem S.L S.n c (by have := h.lt; omega) (by rw [h.ss]; exact h.sn)
  obtain ⟨i, hi, he⟩ := List.getElem_of_mem hm
  refine ⟨i, hi, ?_⟩
  have := cd_at (L := S.L) (n := S.n) hi
  rw [List.getElem?_eq_getElem hi, he] at this
  exact (Option.some.inj this).symm
end
