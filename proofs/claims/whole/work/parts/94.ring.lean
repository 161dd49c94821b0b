/-! ===== rows as a ring ===== -/
theorem sl_one {f : Nat → Int64} {i : Nat} : ∀ {M}, i < M → (∀ t, t < M → t ≠ i → f t = 0) → sl f M = f i
  | 0, h, _ => absurd h (by omega)
  | M + 1, h, hz => by
    rw [sl]
    by_cases q : i = M
    · rw [sl_zero (fun t ht => hz t (by omega) (by omega)), Int64.zero_add, q]
    · rw [sl_one (show i < M by omega) (fun t ht hn => hz t (by omega) hn), hz M (by omega) (by omega), Int64.add_zero]
theorem sl_swap (f : Nat → Nat → Int64) (N : Nat) : ∀ M, sl (fun t => sl (fun u => f t u) N) M = sl (fun u => sl (fun t => f t u) M) N
  | 0 => (sl_zero (fun t _ => rfl)).symm
  | M + 1 => by
    rw [sl, sl_swap f N M, ← sl_plus]
    exact sl_congr (fun t _ => rfl)
theorem sl_mulr (f : Nat → Int64) (c : Int64) : ∀ M, sl f M * c = sl (fun t => f t * c) M
  | 0 => Int64.zero_mul
  | M + 1 => by rw [sl, sl, Int64.add_mul, sl_mulr f c M]
theorem sl_mull (f : Nat → Int64) (c : Int64) : ∀ M, c * sl f M = sl (fun t => c * f t) M
  | 0 => Int64.mul_zero
  | M + 1 => by rw [sl, sl, Int64.mul_add, sl_mull f c M]
theorem sl_ite (P : Prop) [Decidable P] (f : Nat → Int64) (M : Nat) : (if P then sl f M else 0) = sl (fun t => if P then f t else 0) M := by
  by_cases h : P
  · rw [if_pos h]
    exact sl_congr (fun t _ => (if_pos h).symm)
  · rw [if_neg h, sl_zero (fun t _ => if_neg h)]
abbrev AA (S : Sh) (t u r : Nat) : Prop := sz (S.c t) + sz (S.c u) ≤ S.n ∧ S.c t + S.c u = S.c r
section
variable {S : Sh}
theorem mul_congr {v v' w w' : Nat → Int64} {r : Nat} (hv : ∀ t, t < S.M → v t = v' t) (hw : ∀ t, t < S.M → w t = w' t) : mul S v w r = mul S v' w' r := by
  unfold mul Pm
  exact sl_congr (fun t ht => sl_congr (fun u hu => by rw [hv t ht, hw u hu]))
theorem mul_smul (v w : Nat → Int64) (s : Int64) (r : Nat) : mul S (fun t => s * v t) w r = s * mul S v w r := by
  unfold mul Pm
  rw [sl_mull]
  refine sl_congr (fun t ht => ?_)
  rw [sl_mull]
  refine sl_congr (fun u hu => ?_)
  by_cases q : AA S t u r
  · rw [if_pos q, if_pos q, Int64.mul_assoc]
  · rw [if_neg q, if_neg q, Int64.mul_zero]
theorem mul_muls (v w : Nat → Int64) (s : Int64) (r : Nat) : mul S v (fun t => s * w t) r = s * mul S v w r := by
  unfold mul Pm
  rw [sl_mull]
  refine sl_congr (fun t ht => ?_)
  rw [sl_mull]
  refine sl_congr (fun u hu => ?_)
  by_cases q : AA S t u r
  · rw [if_pos q, if_pos q, ← Int64.mul_assoc, Int64.mul_comm (v t) s, Int64.mul_assoc]
  · rw [if_neg q, if_neg q, Int64.mul_zero]
theorem mul_add (v w w' : Nat → Int64) (r : Nat) : mul S v (fun t => w t + w' t) r = mul S v w r + mul S v w' r := by
  unfold mul Pm
  rw [← sl_plus]
  refine sl_congr (fun t ht => ?_)
  rw [← sl_plus]
  refine sl_congr (fun u hu => ?_)
  by_cases q : AA S t u r
  · rw [if_pos q, if_pos q, if_pos q, Int64.mul_add]
  · rw [if_neg q, if_neg q, if_neg q, Int64.add_zero]
theorem sz_sum (hS : ShOk S) {t u : Nat} (ht : t < S.M) (hu : u < S.M) (h : sz (S.c t) + sz (S.c u) ≤ S.n) : sz (S.c t + S.c u) = sz (S.c t) + sz (S.c u) := by
  have hn := hS.n5
  have hL := hS.ln.2.1
  have h1 := (cd_lt hS.ln ht).2
  have h2 := (cd_lt hS.ln hu).2
  have h3 : S.c t < 10 ^ S.L := h1
  have h4 : S.c u < 10 ^ S.L := h2
  have h5 := sm_sum S.L (S.c t) (S.c u) h3 h4 (by rw [sm_sz h3 hL, sm_sz h4 hL]; omega)
  rw [← sm_sz h5.2 hL, h5.1, sm_sz h3 hL, sm_sz h4 hL]
def T3 (S : Sh) (a b c : Nat → Int64) (r t u w : Nat) : Int64 := if sz (S.c t) + sz (S.c u) + sz (S.c w) ≤ S.n ∧ S.c t + S.c u + S.c w = S.c r then a t * b u * c w else 0
theorem mul_l3 (hS : ShOk S) (a b c : Nat → Int64) (r : Nat) : mul S (mul S a b) c r = sl (fun t => sl (fun u => sl (fun w => T3 S a b c r t u w) S.M) S.M) S.M := by
  have h1 : mul S (mul S a b) c r = sl (fun q => sl (fun w => sl (fun t => sl (fun u => if AA S q w r then (if AA S t u q then a t * b u else 0) * c w else 0) S.M) S.M) S.M) S.M := by
    unfold mul Pm
    refine sl_congr (fun q hq => sl_congr (fun w hw => ?_))
    rw [sl_mulr, sl_ite]
    refine sl_congr (fun t ht => ?_)
    rw [sl_mulr, sl_ite]
  rw [h1]
  have h2 : sl (fun q => sl (fun w => sl (fun t => sl (fun u => if AA S q w r then (if AA S t u q then a t * b u else 0) * c w else 0) S.M) S.M) S.M) S.M = sl (fun t => sl (fun q => sl (fun w => sl (fun u => if AA S q w r then (if AA S t u q then a t * b u else 0) * c w else 0) S.M) S.M) S.M) S.M := by
    exact (sl_congr (fun q hq => sl_swap _ _ _)).trans (sl_swap _ _ _)
  rw [h2]
  refine sl_congr (fun t ht => ?_)
  have h3 : sl (fun q => sl (fun w => sl (fun u => if AA S q w r then (if AA S t u q then a t * b u else 0) * c w else 0) S.M) S.M) S.M = sl (fun u => sl (fun q => sl (fun w => if AA S q w r then (if AA S t u q then a t * b u else 0) * c w else 0) S.M) S.M) S.M := by
    exact (sl_congr (fun q hq => sl_swap _ _ _)).trans (sl_swap _ _ _)
  rw [h3]
  refine sl_congr (fun u hu => ?_)
  rw [sl_swap]
  refine sl_congr (fun w hw => ?_)
  unfold T3
  by_cases q : sz (S.c t) + sz (S.c u) ≤ S.n
  · obtain ⟨p, hp, ep⟩ := c_sum hS ht hu q
    have es := sz_sum hS ht hu q
    rw [sl_one hp (fun q' hq' hne => by
      have : ¬ AA S t u q' := fun v => hne (c_inj hS hq' hp (by rw [ep, v.2]))
      rw [if_neg this, Int64.zero_mul]
      split <;> rfl)]
    rw [if_pos (show AA S t u p from ⟨q, ep.symm⟩)]
    by_cases v : AA S p w r
    · rw [if_pos v, if_pos ⟨by have := v.1; rw [ep, es] at this; omega, by rw [← ep]; exact v.2⟩]
    · rw [if_neg v, if_neg (fun x => v ⟨by rw [ep, es]; exact x.1, by rw [ep]; exact x.2⟩)]
  · rw [if_neg (fun x => q (by have := x.1; omega)), sl_zero (fun q' _ => by
      have : ¬ AA S t u q' := fun v => q v.1
      rw [if_neg this, Int64.zero_mul]
      split <;> rfl)]
theorem mul_r3 (hS : ShOk S) (a b c : Nat → Int64) (r : Nat) : mul S a (mul S b c) r = sl (fun t => sl (fun u => sl (fun w => T3 S a b c r t u w) S.M) S.M) S.M := by
  have h1 : mul S a (mul S b c) r = sl (fun t => sl (fun q => sl (fun u => sl (fun w => if AA S t q r then a t * (if AA S u w q then b u * c w else 0) else 0) S.M) S.M) S.M) S.M := by
    unfold mul Pm
    refine sl_congr (fun t ht => sl_congr (fun q hq => ?_))
    rw [sl_mull, sl_ite]
    refine sl_congr (fun u hu => ?_)
    rw [sl_mull, sl_ite]
  rw [h1]
  refine sl_congr (fun t ht => ?_)
  have h3 : sl (fun q => sl (fun u => sl (fun w => if AA S t q r then a t * (if AA S u w q then b u * c w else 0) else 0) S.M) S.M) S.M = sl (fun u => sl (fun q => sl (fun w => if AA S t q r then a t * (if AA S u w q then b u * c w else 0) else 0) S.M) S.M) S.M := sl_swap _ _ _
  rw [h3]
  refine sl_congr (fun u hu => ?_)
  rw [sl_swap]
  refine sl_congr (fun w hw => ?_)
  unfold T3
  by_cases q : sz (S.c u) + sz (S.c w) ≤ S.n
  · obtain ⟨p, hp, ep⟩ := c_sum hS hu hw q
    have es := sz_sum hS hu hw q
    rw [sl_one hp (fun q' hq' hne => by
      have : ¬ AA S u w q' := fun v => hne (c_inj hS hq' hp (by rw [ep, v.2]))
      rw [if_neg this, Int64.mul_zero]
      split <;> rfl)]
    rw [if_pos (show AA S u w p from ⟨q, ep.symm⟩)]
    by_cases v : AA S t p r
    · rw [if_pos v, if_pos ⟨by have := v.1; rw [ep, es] at this; omega, by have := v.2; rw [ep] at this; omega⟩, Int64.mul_assoc]
    · rw [if_neg v, if_neg (fun x => v ⟨by rw [ep, es]; have := x.1; omega, by rw [ep]; have := x.2; omega⟩)]
  · rw [if_neg (fun x => q (by have := x.1; omega)), sl_zero (fun q' _ => by
      have : ¬ AA S u w q' := fun v => q v.1
      rw [if_neg this, Int64.mul_zero]
      split <;> rfl)]
theorem mul_assoc (hS : ShOk S) (a b c : Nat → Int64) (r : Nat) : mul S (mul S a b) c r = mul S a (mul S b c) r := by rw [mul_l3 hS, mul_r3 hS]
theorem mul_one (hS : ShOk S) (v : Nat → Int64) {r : Nat} (hr : r < S.M) : mul S v (one S) r = v r := by
  have hM := (cM_pos hS.ln).1
  have hM' : 1 ≤ S.M := hM
  have h0 : S.c (S.M - 1) = 0 := (c_0 hS (show S.M - 1 < S.M by omega)).mpr (by omega)
  have z0 : sz 0 = 0 := rfl
  have hs := sz_le hS.ln hr
  unfold mul Pm
  rw [sl_one hr (fun t ht hne => sl_zero (fun u hu => by
    by_cases q : AA S t u r
    · rw [if_pos q]
      have : one S u = 0 := by
        unfold one
        rw [if_neg (fun w => by
          have w0 : S.c u = 0 := (c_0 hS hu).mpr w
          have := q.2
          rw [w0, Nat.add_zero] at this
          exact hne (c_inj hS ht hr this))]
      rw [this, Int64.mul_zero]
    · rw [if_neg q])), sl_one (show S.M - 1 < S.M by omega) (fun u hu hne => by
    have : one S u = 0 := by
      unfold one
      rw [if_neg (fun w => hne (by omega))]
    rw [this, Int64.mul_zero]
    split <;> rfl)]
  have e : one S (S.M - 1) = 1 := by unfold one; rw [if_pos (by omega)]
  rw [e, h0, if_pos ⟨by rw [z0]; exact hs, rfl⟩, Int64.mul_one]
/-! ===== the quotient of CHERN ROWS ===== -/
/-- c (-d)^k -/
def bb (S : Sh) (c d : Nat → Int64) : Nat → Nat → Int64
  | 0 => c
  | k + 1 => mul S (bb S c d k) d
def sg : Nat → Int64
  | 0 => 1
  | k + 1 => -(sg k)
def aa (S : Sh) (c d : Nat → Int64) : Nat → Nat → Int64
  | 0 => c
  | k + 1 => fun t => aa S c d k t + bb S c d (k + 1) t * sg (k + 1)
def uu (S : Sh) (d : Nat → Int64) : Nat → Nat → Int64
  | 0 => one S
  | k + 1 => mul S (uu S d k) (fun t => -(d t))
def tt (S : Sh) (d : Nat → Int64) : Nat → Nat → Int64
  | 0 => one S
  | k + 1 => fun t => tt S d k t + uu S d (k + 1) t
theorem sg_neg (x s : Int64) : -s * x = s * -x := by rw [Int64.neg_mul, Int64.mul_neg]
theorem mul_uu (hS : ShOk S) (c d : Nat → Int64) : ∀ k r, r < S.M → mul S c (uu S d k) r = sg k * bb S c d k r
  | 0, r, hr => by
    rw [uu, mul_one hS c hr, sg, bb, Int64.one_mul]
  | k + 1, r, hr => by
    rw [uu, ← mul_assoc hS, bb, sg, mul_congr (v' := fun t => sg k * bb S c d k t) (w' := fun t => (-1) * d t) (fun t ht => mul_uu hS c d k t ht) (fun t ht => by rw [Int64.neg_mul, Int64.one_mul]), mul_smul, mul_muls, Int64.neg_mul, Int64.one_mul, Int64.neg_mul, Int64.mul_neg]
theorem mul_tt (hS : ShOk S) (c d : Nat → Int64) : ∀ k r, r < S.M → mul S c (tt S d k) r = aa S c d k r
  | 0, r, hr => by rw [tt, mul_one hS c hr, aa]
  | k + 1, r, hr => by
    rw [tt, mul_add, mul_tt hS c d k r hr, mul_uu hS c d (k + 1) r hr, aa, Int64.mul_comm]
end
