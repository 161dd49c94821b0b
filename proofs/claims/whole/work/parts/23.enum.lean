/-! ===== frames ===== -/
/-- nothing changed but the objects A and the long rows B -/
def FR (A B : List Nat) (s s' : SS) : Prop := (∀ k, k ∉ A → s'.1 k = s.1 k) ∧ (∀ k, k ∉ B → s'.2 k = s.2 k)
theorem FR.refl {A B : List Nat} (s : SS) : FR A B s s := ⟨fun _ _ => rfl, fun _ _ => rfl⟩
theorem FR.trans {A B : List Nat} {s s1 s2 : SS} (h : FR A B s s1) (h2 : FR A B s1 s2) : FR A B s s2 := ⟨fun k hk => (h2.1 k hk).trans (h.1 k hk), fun k hk => (h2.2 k hk).trans (h.2 k hk)⟩
theorem FR.mono {A B A' B' : List Nat} {s s1 : SS} (h : FR A B s s1) (hA : ∀ k ∈ A, k ∈ A') (hB : ∀ k ∈ B, k ∈ B') : FR A' B' s s1 := ⟨fun k hk => h.1 k (fun q => hk (hA k q)), fun k hk => h.2 k (fun q => hk (hB k q))⟩
theorem FR.sI {A B : List Nat} {s s1 : SS} (h : FR A B s s1) {k : Nat} (hk : k ∈ A) (f : Nat → Int32) : FR A B s (zI s1 k f) := ⟨fun a ha => (zI_ne s1 f (fun q => by subst q; exact ha hk)).trans (h.1 a ha), h.2⟩
theorem FR.sL {A B : List Nat} {s s1 : SS} (h : FR A B s s1) {k : Nat} (hk : k ∈ B) (f : Nat → Int64) : FR A B s (zL s1 k f) := ⟨h.1, fun a ha => (zL_ne' s1 f (fun q => by subst q; exact ha hk)).trans (h.2 a ha)⟩
theorem FR.sS {A B : List Nat} {s s1 : SS} (h : FR A B s s1) {k : Nat} (hk : k ∈ A) (j : Nat) (v : Int32) : FR A B s (zS s1 k j v) := h.sI hk _
theorem FR.sSL {A B : List Nat} {s s1 : SS} (h : FR A B s s1) {k : Nat} (hk : k ∈ B) (j : Nat) (v : Int64) : FR A B s (zSL s1 k j v) := h.sL hk _
/-! ===== sums and last figures ===== -/
def sm (f : Nat → Nat) : Nat → Nat
  | 0 => 0
  | j + 1 => sm f j + f j
def lst (c : Nat) : Nat → Option Nat
  | 0 => none
  | j + 1 => if dig c j = 0 then lst c j else some j
theorem dig_lt (c k : Nat) : dig c k < 10 := Nat.mod_lt _ (by decide)
theorem dig_0 {c L k : Nat} (h : c < 10 ^ L) (hk : L ≤ k) : dig c k = 0 := by
  unfold dig
  rw [Nat.div_eq_of_lt (Nat.lt_of_lt_of_le h (Nat.pow_le_pow_right (by decide) hk))]
theorem sz_sm (c : Nat) : sz c = sm (dig c) 6 := by
  simp only [sz, sm]
  omega
theorem sm_sz {c L : Nat} (h : c < 10 ^ L) (hL : L ≤ 6) : sm (dig c) L = sz c := by
  rw [sz_sm]
  have key : ∀ d, L + d ≤ 6 → sm (dig c) (L + d) = sm (dig c) L := by
    intro d
    induction d with
    | zero => intro _; rfl
    | succ d ih => intro q; rw [← Nat.add_assoc, sm, ih (by omega), dig_0 h (by omega), Nat.add_zero]
  have := key (6 - L) (by omega)
  rw [Nat.add_sub_cancel' hL] at this
  exact this.symm
theorem sm_code (c : Nat) : ∀ j, sm (fun k => dig c k * 10 ^ k) j = c % 10 ^ j
  | 0 => by simp [sm, Nat.mod_one]
  | j + 1 => by rw [sm, sm_code c j, Nat.mod_pow_succ, dig, Nat.mul_comm]
theorem sm_le {f : Nat → Nat} {b : Nat} (h : ∀ k, f k ≤ b) : ∀ j, sm f j ≤ b * j
  | 0 => Nat.zero_le _
  | j + 1 => by rw [sm, Nat.mul_succ]; exact Nat.add_le_add (sm_le h j) (h j)
theorem lst_lt {c i : Nat} : ∀ {j}, lst c j = some i → i < j ∧ dig c i ≠ 0
  | 0, h => by cases h
  | j + 1, h => by
    unfold lst at h
    split at h
    · exact ⟨Nat.lt_succ_of_lt (lst_lt h).1, (lst_lt h).2⟩
    · rename_i h2
      cases h
      exact ⟨Nat.lt_succ_self _, h2⟩
theorem lst_none {c : Nat} : ∀ {j}, lst c j = none → ∀ k, k < j → dig c k = 0
  | 0, _, k, hk => by omega
  | j + 1, h, k, hk => by
    unfold lst at h
    split at h
    · rename_i h2
      by_cases e : k = j
      · exact e ▸ h2
      · exact lst_none h k (by omega)
    · cases h
/-! ===== the next code ===== -/
def nxd (L n c j k : Nat) : Nat := if k = j then dig c j - 1 else if k = j + 1 ∧ j + 1 < L then n - sz c + 1 else dig c k
def chkNext (L n : Nat) : Bool := ((tcs L n).zip ((tcs L n).drop 1)).all fun q => match lst q.1 L with
  | none => false
  | some j => (List.range 6).all fun k => dig q.2 k == nxd L n q.1 j k
theorem chkNext_ok : ((List.range 6).all fun L => (List.range 5).all fun n => chkNext (L + 1) (n + 1)) = true := by decide +kernel
theorem cd_next {L n t : Nat} (hL : LnOk L n) (ht : t + 1 < cM L n) : ∃ j, lst (cd L n t) L = some j ∧ ∀ k, k < 6 → dig (cd L n (t + 1)) k = nxd L n (cd L n t) j k := by
  have a := List.all_eq_true.mp (ln_dec chkNext_ok hL) (cd L n t, cd L n (t + 1)) (by
    refine List.mem_of_getElem? (i := t) ?_
    rw [List.getElem?_zip_eq_some]
    refine ⟨cd_at (by omega), ?_⟩
    rw [List.getElem?_drop, Nat.add_comm]
    exact cd_at ht)
  revert a
  show (match lst (cd L n t) L with | none => false | some j => _) = true → _
  cases lst (cd L n t) L with
  | none => intro h; cases h
  | some j =>
    intro h
    refine ⟨j, rfl, fun k hk => ?_⟩
    exact eq_of_beq (List.all_eq_true.mp h k (List.mem_range.mpr hk))
theorem lst_0 : ∀ L, lst 0 L = none
  | 0 => rfl
  | L + 1 => by rw [lst, if_pos (by simp [dig]), lst_0 L]
/-! ===== the class: one step on ===== -/
/-- the figures of c lie in the row p -/
def Fg (f : Nat → Int32) (c : Nat) : Prop := ∀ k, k < 6 → f k = nI (dig c k)
theorem nI_pos1 {d : Nat} (h : d < 2 ^ 31) : nI d ≤ 0 ↔ d = 0 := by
  rw [Int32.le_iff_toInt_le, nI_toInt h, show (0 : Int32).toInt = 0 from rfl]
  omega
theorem nIm1 {d : Nat} (h : d ≠ 0) : nI d - 1 = nI (d - 1) := by
  rw [show (1 : Int32) = nI 1 from rfl, pk_sub (by omega)]
theorem p_step_c {L n c : Nat} (hL : LnOk L n) (hc : c < 10 ^ L) {s : SS} (h0 : s.1 6 0 = nI n) (h1 : s.1 6 1 = nI L) (hf : Fg (s.1 68) c) :
    ∀ (j m k : Nat), k + j = L → j < m → f_X10_stepOn_c6 m (oI (lst c k)) (nI (sm (dig c) k)) (nI k) s = f_X10_stepOn_c50 (oI (lst c L)) (nI (sz c)) s := by
  intro j
  have hL' := hL
  obtain ⟨hL1, hL2, hn1, hn2⟩ := hL'
  induction j with
  | zero =>
    intro m k hk hm
    obtain ⟨m, rfl⟩ : ∃ m', m = m' + 1 := ⟨m - 1, by omega⟩
    rw [f_X10_stepOn_c6, h1, if_pos (nI_le (by omega) (by omega)), show k = L from by omega, sm_sz hc hL2]
  | succ j ih =>
    intro m k hk hm
    obtain ⟨m, rfl⟩ : ∃ m', m = m' + 1 := ⟨m - 1, by omega⟩
    rw [f_X10_stepOn_c6, h1, if_neg (nI_ge (by omega) (by omega)), if_neg (by rw [show (6 : Int32) = nI 6 from rfl]; exact nI_ge (by omega) (by omega)), if_pos (zin_nI (by omega) (by decide)), if_pos (zin_nI (by omega) (by decide)), nI_clamp (by omega), hf k (by omega)]
    have hd := dig_lt c k
    have e := ih m (k + 1) (by omega) (by omega)
    by_cases h : dig c k = 0
    · rw [if_pos ((nI_pos1 (by omega)).mpr h), f_X10_stepOn_c43, nI_add, nI_1]
      rw [show oI (lst c k) = oI (lst c (k + 1)) from by rw [lst, if_pos h]]
      exact e
    · rw [if_neg (fun q => h ((nI_pos1 (by omega)).mp q)), f_X10_stepOn_c43, nI_add, nI_1]
      rw [show nI k = oI (lst c (k + 1)) from by rw [lst, if_neg h]; rfl]
      exact e
theorem p_step {L n c : Nat} (hL : LnOk L n) (hc : c < 10 ^ L) {s : SS} (h0 : s.1 6 0 = nI n) (h1 : s.1 6 1 = nI L) (hf : Fg (s.1 68) c) (hs : sz c ≤ n) :
    (lst c L = none → f_X10_stepOn s = some (0, s)) ∧ ∀ j d, lst c L = some j → (∀ k, k < 6 → dig d k = nxd L n c j k) → ∃ f, f_X10_stepOn s = some (1, zI s 68 f) ∧ Fg f d := by
  have e := p_step_c hL hc h0 h1 hf L ZF 0 (by omega) (by have := hL.2.1; unfold ZF; omega)
  have hL' := hL
  obtain ⟨hL1, hL2, hn1, hn2⟩ := hL'
  have e2 : f_X10_stepOn s = f_X10_stepOn_c50 (oI (lst c L)) (nI (sz c)) s := e
  refine ⟨fun h => ?_, fun j d h hd => ?_⟩
  · rw [e2, h, f_X10_stepOn_c50, if_neg (by decide)]
  · obtain ⟨hj, hz⟩ := lst_lt h
    rw [e2, h, f_X10_stepOn_c50]
    show ∃ f, (if 0 ≤ nI j then _ else _) = _ ∧ _
    rw [show oI (some j) = nI j from rfl, if_pos (nI_pos' (by omega)), if_pos (zin_nI (by omega) (by decide)), if_pos (zin_nI (by omega) (by decide)), nI_clamp (by omega), hf j (by omega), nIm1 hz, zS_eq]
    rw [zI_ne s _ (by decide : (6 : Nat) ≠ 68), h1, h0, nI_1]
    by_cases h3 : j + 1 < L
    · rw [if_neg (nI_ge h3 (by omega)), if_neg (by rw [show (6 : Int32) = nI 6 from rfl]; exact nI_ge (by omega) (by omega)), if_pos (zin_nI (by omega) (by decide)), nI_clamp (by omega), pk_sub hs, nI_1, zS_eq, zI_zI, zI_same]
      refine ⟨_, rfl, fun k hk => ?_⟩
      rw [hd k hk, nxd]
      unfold upd
      by_cases h4 : k = j + 1
      · subst h4
        rw [if_pos rfl, if_neg (by omega), if_pos ⟨rfl, h3⟩]
      · rw [if_neg h4]
        by_cases h5 : k = j
        · rw [if_pos h5, if_pos h5]
        · rw [if_neg h5, if_neg h5, if_neg (fun q => h4 q.1), hf k hk]
    · rw [if_pos (nI_le (by omega) (by omega))]
      refine ⟨_, rfl, fun k hk => ?_⟩
      rw [hd k hk, nxd]
      unfold upd
      by_cases h5 : k = j
      · rw [if_pos h5, if_pos h5]
      · rw [if_neg h5, if_neg h5, if_neg (fun q => h3 q.2), hf k hk]
