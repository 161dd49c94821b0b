/-! ===== TERMS as codes: the list of them, in order ===== -/
def tcs : Nat → Nat → List Nat
  | 0, _ => [0]
  | L + 1, n => (List.range (n + 1)).reverse.flatMap (fun p => (tcs L (n - p)).map (fun c => p + 10 * c))
def cM (L n : Nat) : Nat := (tcs L n).length
def cd (L n t : Nat) : Nat := (tcs L n).getD t 0
def dig (c k : Nat) : Nat := c / 10 ^ k % 10
def sz (c : Nat) : Nat := dig c 0 + dig c 1 + dig c 2 + dig c 3 + dig c 4 + dig c 5
/-- the pairs of letters and dimensions that there are -/
def LnOk (L n : Nat) : Prop := 1 ≤ L ∧ L ≤ 6 ∧ 1 ≤ n ∧ n ≤ 5
theorem ln_dec {P : Nat → Nat → Bool} (h : ((List.range 6).all fun L => (List.range 5).all fun n => P (L + 1) (n + 1)) = true) {L n : Nat} (hL : LnOk L n) : P L n = true := by
  obtain ⟨h1, h2, h3, h4⟩ := hL
  have a := List.all_eq_true.mp h (L - 1) (List.mem_range.mpr (by omega))
  have b := List.all_eq_true.mp a (n - 1) (List.mem_range.mpr (by omega))
  rwa [Nat.sub_add_cancel h1, Nat.sub_add_cancel h3] at b
/-- AHEAD -/
def ahd (q left : Nat) : Nat := ([0, 0, 0, 0, 0, 0, 0, 1, 2, 3, 4, 5, 0, 1, 3, 6, 10, 15, 0, 1, 4, 10, 20, 35, 0, 1, 5, 15, 35, 70, 0, 1, 6, 21, 56, 126, 0, 1, 7, 28, 84, 210] : List Nat).getD (6 * q + left) 0
/-- the search by a code, as the class does it -/
def fnd : Nat → Nat → Nat → Nat → Option Nat
  | 0, _, rest, at_ => if rest = 0 then some at_ else none
  | L + 1, left, rest, at_ => if left < rest % 10 then none else fnd L (left - rest % 10) (rest / 10) (at_ + ahd (L + 1) (left - rest % 10))
/-- the place of a code among them -/
def pos (L n c : Nat) : Option Nat := fnd L n c 0
def chkPos (L n : Nat) : Bool := ((tcs L n).zip (List.range (cM L n))).all fun q => pos L n q.1 == some q.2
theorem chkPos_ok : ((List.range 6).all fun L => (List.range 5).all fun n => chkPos (L + 1) (n + 1)) = true := by decide +kernel
theorem mem_tcs : ∀ (L n c at_ i : Nat), fnd L n c at_ = some i → c ∈ tcs L n
  | 0, n, c, at_, i, h => by
    unfold fnd at h
    split at h
    · rename_i h0
      simp [tcs, h0]
    · cases h
  | L + 1, n, c, at_, i, h => by
    unfold fnd at h
    split at h
    · cases h
    · rename_i hlt
      have h1 := mem_tcs L _ _ _ _ h
      unfold tcs
      rw [List.mem_flatMap]
      refine ⟨c % 10, by simp; omega, List.mem_map.mpr ⟨c / 10, h1, by omega⟩⟩
theorem cd_at {L n t : Nat} (h : t < cM L n) : (tcs L n)[t]? = some (cd L n t) := by
  unfold cd
  rw [List.getD_eq_getElem?_getD, List.getElem?_eq_getElem h]
  rfl
theorem pos_cd {L n t : Nat} (hL : LnOk L n) (h : t < cM L n) : pos L n (cd L n t) = some t := by
  have a := List.all_eq_true.mp (ln_dec chkPos_ok hL) (cd L n t, t) (by
    refine List.mem_of_getElem? (i := t) ?_
    rw [List.getElem?_zip_eq_some]
    exact ⟨cd_at h, List.getElem?_range h⟩)
  simpa using a
theorem pos_iff {L n c i : Nat} (hL : LnOk L n) : pos L n c = some i ↔ i < cM L n ∧ cd L n i = c := by
  constructor
  · intro h
    obtain ⟨j, hj, he⟩ := List.getElem_of_mem (mem_tcs L n c 0 i h)
    have hc : cd L n j = c := by
      have := cd_at (L := L) (n := n) hj
      rw [List.getElem?_eq_getElem hj, he] at this
      exact (Option.some.inj this).symm
    have h2 := pos_cd hL hj
    rw [hc, h] at h2
    cases h2
    exact ⟨hj, hc⟩
  · rintro ⟨h1, rfl⟩
    exact pos_cd hL h1
theorem cd_inj {L n i j : Nat} (hL : LnOk L n) (hi : i < cM L n) (hj : j < cM L n) (h : cd L n i = cd L n j) : i = j := by
  have a := pos_cd hL hi
  rw [h, pos_cd hL hj] at a
  exact (Option.some.inj a).symm
/-- facts of all codes, by looking -/
def chkAll (P : Nat → Nat → Nat → Bool) (L n : Nat) : Bool := (tcs L n).all fun c => P L n c
theorem all_cd {P : Nat → Nat → Nat → Bool} (h : ((List.range 6).all fun L => (List.range 5).all fun n => chkAll P (L + 1) (n + 1)) = true) {L n t : Nat} (hL : LnOk L n) (ht : t < cM L n) : P L n (cd L n t) = true :=
  List.all_eq_true.mp (ln_dec h hL) _ (List.mem_of_getElem? (cd_at ht))
def cM_ok (L n : Nat) : Bool := decide (1 ≤ cM L n ∧ cM L n ≤ 462) && (cd L n 0 == n) && (cd L n (cM L n - 1) == 0)
theorem cM_chk : ((List.range 6).all fun L => (List.range 5).all fun n => cM_ok (L + 1) (n + 1)) = true := by decide +kernel
theorem cM_pos {L n : Nat} (h : LnOk L n) : 1 ≤ cM L n ∧ cM L n ≤ 462 := by
  have := ln_dec cM_chk h
  simp [cM_ok] at this
  exact this.1.1
theorem cd_0 {L n : Nat} (h : LnOk L n) : cd L n 0 = n := by
  have := ln_dec cM_chk h
  simp [cM_ok] at this
  exact this.1.2
theorem cd_last {L n : Nat} (h : LnOk L n) : cd L n (cM L n - 1) = 0 := by
  have := ln_dec cM_chk h
  simp [cM_ok] at this
  exact this.2
theorem cd_chk : ((List.range 6).all fun L => (List.range 5).all fun n => chkAll (fun L n c => decide (c < 600000 ∧ c < 10 ^ L) && decide (sz c ≤ n) && decide (dig c 0 ≤ n ∧ dig c 1 ≤ n ∧ dig c 2 ≤ n ∧ dig c 3 ≤ n ∧ dig c 4 ≤ n ∧ dig c 5 ≤ n)) (L + 1) (n + 1)) = true := by decide +kernel
theorem cd_lt {L n t : Nat} (h : LnOk L n) (ht : t < cM L n) : cd L n t < 600000 ∧ cd L n t < 10 ^ L := by
  have := all_cd cd_chk h ht
  simp at this
  exact this.1.1
theorem sz_le {L n t : Nat} (h : LnOk L n) (ht : t < cM L n) : sz (cd L n t) ≤ n := by
  have := all_cd cd_chk h ht
  simp at this
  exact this.1.2
