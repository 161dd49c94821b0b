/-! ===== FITS: one curve's degree and genus told anew ===== -/
def Sh.up (S : Sh) (k d g : Nat) : Sh := (S.1, S.dm, (fun q => if q = k then d else S.dg q), fun q => if q = k then g else S.gn q)
def vT (d : Nat) : Int64 := -(nI d).toInt64
def vH (d g : Nat) : Int64 := ((2 : Int64) - ((2 : Int64) * (nI g).toInt64)) - ((4 : Int64) * (nI d).toInt64)
def csel (c : Nat) : Nat → Nat → Nat
  | 0, _ => 0
  | j + 1, k => if dig c (1 + k) = 3 then 2 * k + 1 else if dig c (1 + k) = 2 ∧ dig c 0 = 1 then 2 * k + 2 else csel c j (k + 1)
def cval (S : Sh) (m : Nat) : Int64 := if m = 0 then 0 else if m % 2 = 1 then vH (S.dg ((m - 1) / 2)) (S.gn ((m - 1) / 2)) else vT (S.dg ((m - 2) / 2))
theorem crv_sel (S : Sh) (c : Nat) : ∀ j k, crv S c j k = cval S (csel c j k)
  | 0, k => rfl
  | j + 1, k => by
    rw [crv, csel]
    by_cases h1 : dig c (1 + k) = 3
    · rw [if_pos h1, if_pos h1, cval, if_neg (by omega), if_pos (by omega), show (2 * k + 1 - 1) / 2 = k by omega]
      rfl
    · rw [if_neg h1, if_neg h1]
      by_cases h2 : dig c (1 + k) = 2 ∧ dig c 0 = 1
      · rw [if_pos h2, if_pos h2, cval, if_neg (by omega), if_neg (by omega), show (2 * k + 2 - 2) / 2 = k by omega]
        rfl
      · rw [if_neg h2, if_neg h2, crv_sel S c j (k + 1)]
theorem sel_chk : ((List.range 4).all fun e => (List.range e).all fun k => (tcs (1 + e) 3).all fun c => !(sz c == 3) || ((decide (dig c 0 = 3) && !(c == 3 * 10 ^ (1 + k)) && !(c == 1 + 2 * 10 ^ (1 + k))) || (decide (dig c 0 ≠ 3) && ((csel c e 0 == 2 * k + 1) == (c == 3 * 10 ^ (1 + k))) && ((csel c e 0 == 2 * k + 2) == (c == 1 + 2 * 10 ^ (1 + k)))))) = true := by decide +kernel
theorem sel_in : ((List.range 4).all fun e => (List.range e).all fun k => (pos (1 + e) 3 (3 * 10 ^ (1 + k))).isSome && (pos (1 + e) 3 (1 + 2 * 10 ^ (1 + k))).isSome && (sz (3 * 10 ^ (1 + k)) == 3) && (sz (1 + 2 * 10 ^ (1 + k)) == 3)) = true := by decide +kernel
section
variable {S : Sh} {C C1 : Cl} {σ σ1 τ τ1 : SS}
theorem up_ok (h : ShOk S) (h1 : S.so = 1) {k d g : Nat} (hk : k < S.e) (hd : d ≤ 9) (hg : g ≤ 9) : ShOk (S.up k d g) :=
  ⟨h.so, h.f1, h.f3, h.e3, h.n5, h.din, h.dout, fun q => by
    show (if q = k then d else S.dg q) ≤ 9
    split
    · exact hd
    · exact h.dg9 q, fun q => by
    show (if q = k then g else S.gn q) ≤ 9
    split
    · exact hg
    · exact h.gn9 q, h.cur, fun q hq => by
    have hq' : S.so ≠ 1 ∨ S.e ≤ q := hq
    have := h.dg0 q hq'
    show (if q = k then d else S.dg q) = 0 ∧ (if q = k then g else S.gn q) = 0
    rw [if_neg (by omega), if_neg (by omega)]
    exact this, h.cu3, h.con⟩
theorem curv_n (h : ShOk S) (h1 : S.so = 1) : S.n = 3 ∧ S.f = 1 ∧ S.L = 1 + S.e ∧ S.dm 0 = 3 := by
  have hf := h.cur (by omega)
  have h3 := h.cu3 h1
  have a1 := h.dout 1 (by omega)
  have a2 := h.dout 2 (by omega)
  refine ⟨by unfold Sh.n; omega, hf, by unfold Sh.L; rw [if_neg (by omega)]; omega, h3⟩
theorem whl_1 {S : Sh} (hf : S.f = 1) (hd : S.dm 0 = 3) (c : Nat) : whl S c S.f = decide (dig c 0 = 3) := by
  rw [hf, whl, whl, hd]
  by_cases q : dig c 0 = 3 <;> simp [q]
theorem WT_up (h : ShOk S) (h1 : S.so = 1) {k d g t : Nat} (hk : k < S.e) (ht : t < S.M) : WT (S.up k d g) (S.c t) = if S.c t = 3 * 10 ^ (1 + k) then vH d g else if S.c t = 1 + 2 * 10 ^ (1 + k) then vT d else WT S (S.c t) := by
  obtain ⟨hn, hf, hL, hd⟩ := curv_n h h1
  have he := h.e3
  have a1 := List.all_eq_true.mp sel_chk S.e (List.mem_range.mpr (by omega))
  have a2 := List.all_eq_true.mp a1 k (List.mem_range.mpr hk)
  have hm : S.c t ∈ tcs (1 + S.e) 3 := by
    have : S.c t ∈ tcs S.L S.n := by
      have := cd_at (L := S.L) (n := S.n) ht
      exact List.mem_of_getElem? this
    rw [hL, hn] at this
    exact this
  have a3 := List.all_eq_true.mp a2 _ hm
  have b1 := List.all_eq_true.mp sel_in S.e (List.mem_range.mpr (by omega))
  have b2 := List.all_eq_true.mp b1 k (List.mem_range.mpr hk)
  simp only [Bool.and_eq_true, beq_iff_eq] at b2
  obtain ⟨⟨-, b3⟩, b4⟩ := b2
  have w0 : (S.up k d g).so = S.so := rfl
  have wn : (S.up k d g).n = S.n := rfl
  have we : (S.up k d g).e = S.e := rfl
  unfold WT WTn
  rw [w0, wn, hn, whl_1 hf hd, whl_1 (S := S.up k d g) hf hd, h1, we, crv_sel, crv_sel]
  generalize S.c t = c at *
  by_cases q : sz c = 3
  · have z10 : ¬ (1 : Nat) = 0 := by decide
    rw [if_pos q, if_pos q, if_neg z10, if_neg z10, if_pos (rfl : (1 : Nat) = 1), if_pos (rfl : (1 : Nat) = 1)]
    simp only [q, beq_self_eq_true, Bool.not_true, Bool.false_or, Bool.or_eq_true, Bool.and_eq_true, decide_eq_true_eq, Bool.not_eq_true', beq_eq_false_iff_ne, ne_eq, beq_iff_eq] at a3
    rcases a3 with ⟨⟨c1, c2⟩, c3⟩ | ⟨⟨c1, c2⟩, c3⟩
    · have d1 : decide (dig c 0 = 3) = true := decide_eq_true c1
      rw [if_pos d1, if_neg c2, if_neg c3, if_pos d1]
    · have d1 : ¬ decide (dig c 0 = 3) = true := fun w => c1 (of_decide_eq_true w)
      rw [if_neg d1, if_neg d1]
      by_cases e1 : c = 3 * 10 ^ (1 + k)
      · rw [if_pos e1]
        have : csel c S.e 0 = 2 * k + 1 := by
          have : (csel c S.e 0 == 2 * k + 1) = true := by rw [c2]; simp [e1]
          simpa using this
        rw [this, cval, if_neg (by omega), if_pos (by omega), show (2 * k + 1 - 1) / 2 = k by omega]
        show vH (if k = k then d else S.dg k) (if k = k then g else S.gn k) = vH d g
        rw [if_pos rfl, if_pos rfl]
      · rw [if_neg e1]
        have n1 : csel c S.e 0 ≠ 2 * k + 1 := by
          have : (csel c S.e 0 == 2 * k + 1) = false := by rw [c2]; simp [e1]
          simpa using this
        by_cases e2 : c = 1 + 2 * 10 ^ (1 + k)
        · rw [if_pos e2]
          have : csel c S.e 0 = 2 * k + 2 := by
            have : (csel c S.e 0 == 2 * k + 2) = true := by rw [c3]; simp [e2]
            simpa using this
          rw [this, cval, if_neg (by omega), if_neg (by omega), show (2 * k + 2 - 2) / 2 = k by omega]
          show vT (if k = k then d else S.dg k) = vT d
          rw [if_pos rfl]
        · rw [if_neg e2]
          have n2 : csel c S.e 0 ≠ 2 * k + 2 := by
            have : (csel c S.e 0 == 2 * k + 2) = false := by rw [c3]; simp [e2]
            simpa using this
          generalize csel c S.e 0 = m at *
          unfold cval
          by_cases m0 : m = 0
          · rw [if_pos m0, if_pos m0]
          · rw [if_neg m0, if_neg m0]
            by_cases m1 : m % 2 = 1
            · rw [if_pos m1, if_pos m1]
              show vH (if (m - 1) / 2 = k then d else S.dg ((m - 1) / 2)) (if (m - 1) / 2 = k then g else S.gn ((m - 1) / 2)) = _
              rw [if_neg (by omega), if_neg (by omega)]
            · rw [if_neg m1, if_neg m1]
              show vT (if (m - 2) / 2 = k then d else S.dg ((m - 2) / 2)) = _
              rw [if_neg (by omega)]
  · rw [if_neg q, if_neg q, if_neg (fun e => q (by rw [e]; exact b3)), if_neg (fun e => q (by rw [e]; exact b4))]
theorem sl_two (f : Nat → Int64) {M i j : Nat} (hi : i < M) (hj : j < M) (hne : i ≠ j) : sl f M = sl (fun t => if t = i then 0 else if t = j then 0 else f t) M + (f i + f j) := by
  have e1 : sl (fun t => if t = i then f i else 0) M = f i := by rw [sl_one hi (fun t _ hn => if_neg hn), if_pos rfl]
  have e2 : sl (fun t => if t = j then f j else 0) M = f j := by rw [sl_one hj (fun t _ hn => if_neg hn), if_pos rfl]
  have : f i + f j = sl (fun t => (if t = i then f i else 0) + (if t = j then f j else 0)) M := by rw [sl_plus, e1, e2]
  rw [this, ← sl_plus]
  refine sl_congr (fun t ht => ?_)
  by_cases q : t = i
  · subst q
    rw [if_pos rfl, if_pos rfl, if_neg hne, Int64.zero_add, Int64.add_zero]
  · rw [if_neg q, if_neg q]
    by_cases w : t = j
    · subst w
      rw [if_pos rfl, if_pos rfl, Int64.zero_add, Int64.zero_add]
    · rw [if_neg w, if_neg w, Int64.zero_add, Int64.add_zero]
def mtU (S : Sh) (v : Nat → Int64) (k d g : Nat) : Int64 := sl (fun t => v t * WT (S.up k d g) (S.c t)) S.M
theorem fit_split (h : ShOk S) (h1 : S.so = 1) {k : Nat} (hk : k < S.e) (v : Nat → Int64) : ∃ t7 t10, t7 < S.M ∧ t10 < S.M ∧ S.c t7 = 1 + 2 * 10 ^ (1 + k) ∧ S.c t10 = 3 * 10 ^ (1 + k) ∧ ∃ A, mt S v = A + (v t7 * vT (S.dg k) + v t10 * vH (S.dg k) (S.gn k)) ∧ ∀ d g, mtU S v k d g = A + (v t7 * vT d + v t10 * vH d g) := by
  obtain ⟨hn, hf, hL, hd⟩ := curv_n h h1
  have he := h.e3
  have b1 := List.all_eq_true.mp sel_in S.e (List.mem_range.mpr (by omega))
  have b2 := List.all_eq_true.mp b1 k (List.mem_range.mpr hk)
  simp only [Bool.and_eq_true, beq_iff_eq] at b2
  obtain ⟨⟨⟨p1, p2⟩, -⟩, -⟩ := b2
  obtain ⟨t10, q1⟩ := Option.isSome_iff_exists.mp p1
  obtain ⟨t7, q2⟩ := Option.isSome_iff_exists.mp p2
  have hLn := h.ln
  rw [← hL, show pos S.L 3 = pos S.L S.n by rw [hn]] at q1 q2
  obtain ⟨m10, c10⟩ := (pos_iff hLn).mp q1
  obtain ⟨m7, c7⟩ := (pos_iff hLn).mp q2
  have c10' : S.c t10 = 3 * 10 ^ (1 + k) := c10
  have c7' : S.c t7 = 1 + 2 * 10 ^ (1 + k) := c7
  have hp : 0 < 10 ^ (1 + k) := Nat.pos_of_ne_zero (by simp)
  have hne : t7 ≠ t10 := fun e => by
    rw [e, c10'] at c7'
    have hk3 : k = 0 ∨ k = 1 ∨ k = 2 := by omega
    rcases hk3 with rfl | rfl | rfl <;> exact absurd c7' (by decide)
  have hne2 : ¬ 1 + 2 * 10 ^ (1 + k) = 3 * 10 ^ (1 + k) := fun e => hne (c_inj h m7 m10 (by rw [c7', c10', e]))
  have key : ∀ d g, mtU S v k d g = sl (fun t => if t = t7 then 0 else if t = t10 then 0 else v t * WT S (S.c t)) S.M + (v t7 * vT d + v t10 * vH d g) := by
    intro d g
    unfold mtU
    rw [sl_two _ (show t7 < S.M from m7) (show t10 < S.M from m10) hne]
    have e7 := WT_up h h1 (d := d) (g := g) hk m7
    have e10 := WT_up h h1 (d := d) (g := g) hk m10
    rw [c7', if_neg hne2, if_pos rfl] at e7
    rw [c10', if_pos rfl] at e10
    rw [c7', c10', e7, e10]
    congr 1
    refine sl_congr (fun t ht => ?_)
    by_cases w7 : t = t7
    · rw [if_pos w7, if_pos w7]
    · rw [if_neg w7, if_neg w7]
      by_cases w10 : t = t10
      · rw [if_pos w10, if_pos w10]
      · rw [if_neg w10, if_neg w10, WT_up h h1 hk ht, if_neg (fun e => w10 (c_inj h ht m10 (by rw [c10', e]))), if_neg (fun e => w7 (c_inj h ht m7 (by rw [c7', e])))]
  refine ⟨t7, t10, m7, m10, c7', c10', _, ?_, key⟩
  rw [← key]
  unfold mt mtU
  refine sl_congr (fun t ht => ?_)
  have : S.up k (S.dg k) (S.gn k) = S := by
    unfold Sh.up
    have e1 : (fun q => if q = k then S.dg k else S.dg q) = S.dg := funext fun q => by
      by_cases w : q = k
      · rw [if_pos w, w]
      · rw [if_neg w]
    have e2 : (fun q => if q = k then S.gn k else S.gn q) = S.gn := funext fun q => by
      by_cases w : q = k
      · rw [if_pos w, w]
      · rw [if_neg w]
    rw [e1, e2]
    rfl
  rw [this]
theorem fit_eq (A a b x3 m r : Int64) (hm : m = A + (a + b)) (hr : r = x3 - ((m - a) - b)) (s : Int64) : s = r ↔ A + s = x3 := by
  have e : (m - a) - b = A := by
    rw [hm]
    simp only [Int64.sub_eq_add_neg]
    rw [Int64.add_assoc, Int64.add_assoc, Int64.add_assoc]
    have : a + (b + (-a + -b)) = 0 := by
      rw [← Int64.add_assoc b, Int64.add_comm b (-a), Int64.add_assoc, Int64.add_right_neg, Int64.add_zero, Int64.add_right_neg]
    rw [this, Int64.add_zero]
  rw [e] at hr
  constructor
  · intro h
    rw [h, hr, Int64.sub_eq_add_neg, Int64.add_comm x3, ← Int64.add_assoc, Int64.add_right_neg, Int64.zero_add]
  · intro h
    rw [hr, ← h, Int64.sub_eq_add_neg, Int64.add_comm A s, Int64.add_assoc, Int64.add_right_neg, Int64.add_zero]
end
