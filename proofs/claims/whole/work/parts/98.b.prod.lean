section
variable {S S1 : Sh} {C C1 : Cl} {σ σ1 τ τ1 : SS}
theorem rng (x a b : Int32) (A B : Nat) (ha : a = nI A) (hb : b = nI B) (hB : B < 2 ^ 31) (hA : A < 2 ^ 31) : (a ≤ x ∧ x ≤ b) ∧ (∃ v, v < 2 ^ 31 ∧ x = nI v ∧ A ≤ v ∧ v ≤ B) ∨ ¬ (a ≤ x ∧ x ≤ b) := by
  by_cases q : a ≤ x ∧ x ≤ b
  · refine Or.inl ⟨q, ?_⟩
    rcases nI_cases x with w | ⟨v, hv, rfl⟩
    · have := Int32.lt_of_le_of_lt q.1 w
      rw [ha] at this
      exact absurd this (nI_pos hA)
    · rw [ha, hb] at q
      exact ⟨v, hv, rfl, (nI_leI hA hv).mp q.1, (nI_leI hv hB).mp q.2⟩
  · exact Or.inr q
theorem prod_key (h : Inv S C σ τ) (x y t : Int32) (hz : y = 0 → t = 0) :
    ∃ r σ1 τ1, (if x < 1 then some ((-1), σ) else if 5 < x then some ((-1), σ) else if y < 0 then some ((-1), σ) else if y ≤ 5 then f_X11_product_c30 x y t σ else some ((-1), σ)) = some (r, σ1) ∧ f_X12_product_c9 x y t τ = some (r, τ1) ∧ I0 σ1 τ1 := by
  have L := h.km
  rw [f_X12_product_c9, pm_in32 x 1 5 1 5 rfl rfl, zbd_s, pm_in32 y 0 5 0 5 rfl rfl, zbd_s, pm_in32 t 0 5 0 5 rfl rfl, zbd_s]
  rcases rng x 1 5 1 5 rfl rfl (by decide) (by decide) with ⟨q1, a, ha, rfl, ha1, ha5⟩ | q1
  rotate_left
  · rw [if_neg q1]
    refine ex0 h.i0 (-1) ?_ (if_pos rfl)
    by_cases w : x < 1
    · exact if_pos w
    · rw [if_neg w, if_pos (Int32.not_le.mp (fun v => q1 ⟨Int32.not_lt.mp w, v⟩))]
  rw [if_neg (Int32.not_lt.mpr q1.1), if_neg (Int32.not_lt.mpr q1.2), if_pos q1, if_neg n10]
  rcases rng y 0 5 0 5 rfl rfl (by decide) (by decide) with ⟨q2, b, hb, rfl, -, hb5⟩ | q2
  rotate_left
  · rw [if_neg q2]
    refine ex0 h.i0 (-1) ?_ (if_pos rfl)
    by_cases w : y < 0
    · exact if_pos w
    · rw [if_neg w, if_neg (fun v => q2 ⟨Int32.not_lt.mp w, v⟩)]
  rw [if_neg (Int32.not_lt.mpr q2.1), if_pos q2.2, if_pos q2, if_neg n10, f_X11_product_c30]
  rcases rng t 0 5 0 5 rfl rfl (by decide) (by decide) with ⟨q3, c, hc, rfl, -, hc5⟩ | q3
  rotate_left
  · rw [if_neg q3]
    refine ex0 h.i0 (-1) ?_ (if_pos rfl)
    by_cases w : t < 0
    · exact if_pos w
    · rw [if_neg w, if_pos (Int32.not_le.mp (fun v => q3 ⟨Int32.not_lt.mp w, v⟩))]
  rw [if_neg (Int32.not_lt.mpr q3.1), if_neg (Int32.not_lt.mpr q3.2), if_pos q3, if_neg n10, nI_add, nI_add]
  by_cases q4 : a + b + c ≤ 5
  rotate_left
  · have : ¬ nI (a + b + c) ≤ 5 := fun v => q4 ((nI_leI (by omega) (b := 5) (by decide)).mp v)
    rw [if_neg this, if_neg this]
    exact ex0 h.i0 _ rfl rfl
  have q4' : nI (a + b + c) ≤ 5 := nI_le (b := 5) q4 (by decide)
  rw [if_pos q4', if_pos q4']
  have hbc : b = 0 → c = 0 := fun e => (nI_eq (b := 0) (by omega) (by decide)).mp (hz (by rw [e]; rfl))
  have fin : ∀ f, f = (anew 0 a b c).f → ∃ r σ1 τ1, zbd (f_X11_makeAnew 0 (nI a) (nI b) (nI c) σ) (fun r1 s2 => some (r1, s2)) = some (r, σ1) ∧ f_X12_product_c79 (nI a) (nI b) (nI c) (nI f) τ = some (r, τ1) ∧ I0 σ1 τ1 := by
    intro f hf
    have hG : FM [2] [1] [] τ (zS (zS (zS (zS τ 0 2 (nI f)) 1 0 (nI a)) 1 1 (nI b)) 1 2 (nI c)) := ((((FM.refl τ).sO (by simp) _).sS (by decide) (by simp) _ _).sS (by decide) (by simp) _ _).sS (by decide) (by simp) _ _
    obtain ⟨σ1, τ1, e1, e2, hI⟩ := anew_key h (so := 0) (a := a) (b := b) (c := c) (Or.inl ⟨rfl, ha1, q4, hbc⟩) hG (fun _ => by rw [← hf]; simp [zS_1]) (fun _ k hk => by
      show _ = nI (if k = 0 then a else if k = 1 then b else if k = 2 then c else 0)
      have : k = 0 ∨ k = 1 ∨ k = 2 := by omega
      rcases this with rfl | rfl | rfl <;> simp [zS_1])
    have e1' : f_X11_makeAnew 0 (nI a) (nI b) (nI c) σ = some (nI (a + b + c), σ1) := e1
    have e2' : f_X12_begin 0 (nI (a + b + c)) (zS (zS (zS (zS τ 0 2 (nI f)) 1 0 (nI a)) 1 1 (nI b)) 1 2 (nI c)) = some (nI (a + b + c), τ1) := e2
    rw [f_X12_product_c79, if_pos (show zin 0 3 = true from rfl), if_pos (show zin 1 3 = true from rfl), if_pos (show zin 2 3 = true from rfl), nI_add, nI_add, show ((0 : Int32)).toNatClampNeg = 0 from rfl, show ((1 : Int32)).toNatClampNeg = 1 from rfl, show ((2 : Int32)).toNatClampNeg = 2 from rfl, e1', e2', zbd_s, zbd_s]
    exact ⟨_, _, _, rfl, rfl, hI⟩
  by_cases b0 : b = 0
  · rw [if_pos (show nI b = 0 by rw [b0]; rfl)]
    exact fin 1 (by show 1 = 1 + (if b = 0 then 0 else 1) + (if c = 0 then 0 else 1); rw [if_pos b0, if_pos (hbc b0)])
  rw [if_neg (fun v : nI b = 0 => b0 ((nI_eq (b := 0) (by omega) (by decide)).mp v))]
  by_cases c0 : c = 0
  · rw [if_pos (show nI c = 0 by rw [c0]; rfl)]
    exact fin 2 (by show 2 = 1 + (if b = 0 then 0 else 1) + (if c = 0 then 0 else 1); rw [if_neg b0, if_pos c0])
  rw [if_neg (fun v : nI c = 0 => c0 ((nI_eq (b := 0) (by omega) (by decide)).mp v))]
  exact fin 3 (by show 3 = 1 + (if b = 0 then 0 else 1) + (if c = 0 then 0 else 1); rw [if_neg b0, if_neg c0])
theorem s_product (x y t : Int32) (h : I0 σ τ) : ∃ r σ1 τ1, f_X11_product x y t σ = some (r, σ1) ∧ f_X12_product x y t τ = some (r, τ1) ∧ I0 σ1 τ1 := by
  obtain ⟨S, C, h⟩ := h
  rw [f_X11_product, f_X12_product]
  by_cases q : y = 0
  · rw [if_pos q, if_pos q]
    exact prod_key h x y 0 (fun _ => rfl)
  · rw [if_neg q, if_neg q]
    exact prod_key h x y t (fun w => absurd w q)
/-! ===== a LETTER more: which TERMS are old ===== -/
theorem wid_chk : ((List.range 5).all fun L => (List.range 5).all fun n => ((tcs (L + 2) (n + 1)).filter fun c => decide (c < 10 ^ (L + 1))) == tcs (L + 1) (n + 1)) = true := by decide +kernel
theorem flt_at {α : Type} (P : α → Bool) : ∀ (l : List α) (t : Nat) (x : α), l[t]? = some x → P x = true → (l.filter P)[((l.take t).filter P).length]? = some x
  | [], t, x, h, _ => by simp at h
  | a :: l, 0, x, h, hp => by
    have : a = x := by simpa using h
    subst this
    simp [List.filter_cons, hp]
  | a :: l, t + 1, x, h, hp => by
    have h' : l[t]? = some x := by simpa using h
    have ih := flt_at P l t x h' hp
    rw [List.take_succ_cons, List.filter_cons, List.filter_cons]
    by_cases q : P a = true
    · rw [if_pos q, if_pos q, List.length_cons, List.getElem?_cons_succ]
      exact ih
    · rw [if_neg q, if_neg q]
      exact ih
theorem cn_flt {L n : Nat} (P : Nat → Bool) : ∀ m, m ≤ cM L n → cn (fun t => P (cd L n t)) m = (((tcs L n).take m).filter P).length
  | 0, _ => rfl
  | m + 1, h => by
    have ih := cn_flt (L := L) (n := n) P m (by omega)
    have e := cd_at (L := L) (n := n) (t := m) (by omega)
    rw [cn, ih, List.take_add_one, e, List.filter_append]
    by_cases q : P (cd L n m) = true
    · simp [q, List.filter_cons]
    · simp [q, List.filter_cons]
/-- the old TERM's number -/
def cw (S S1 : Sh) (t : Nat) : Nat := cn (fun u => decide (S1.c u < 10 ^ S.L)) t
theorem wid (h : ShOk S) (h1 : ShOk S1) (hL : S1.L = S.L + 1) (hn : S1.n = S.n) : cw S S1 S1.M = S.M ∧ (∀ t, t < S1.M → S1.c t < 10 ^ S.L → cw S S1 t < S.M ∧ S.c (cw S S1 t) = S1.c t) ∧ ∀ i, i < S.M → ∃ t, t < S1.M ∧ S1.c t = S.c i ∧ pos S1.L S1.n (S.c i) = some t := by
  have hl := h.ln
  have hl1 := h1.ln
  obtain ⟨a1, a2, a3, a4⟩ := hl
  obtain ⟨b1, b2, b3, b4⟩ := hl1
  have c1 := List.all_eq_true.mp wid_chk (S.L - 1) (List.mem_range.mpr (by omega))
  have c2 := List.all_eq_true.mp c1 (S.n - 1) (List.mem_range.mpr (by omega))
  rw [show S.L - 1 + 2 = S1.L by omega, show S.L - 1 + 1 = S.L by omega, show S.n - 1 + 1 = S.n by omega] at c2
  have c3 : (tcs S1.L S.n).filter (fun c => decide (c < 10 ^ S.L)) = tcs S.L S.n := by simpa using c2
  have e : ∀ t, t ≤ S1.M → cw S S1 t = (((tcs S1.L S1.n).take t).filter (fun c => decide (c < 10 ^ S.L))).length := fun t ht => cn_flt (L := S1.L) (n := S1.n) (fun c => decide (c < 10 ^ S.L)) t ht
  have hM : cw S S1 S1.M = S.M := by
    rw [e S1.M (Nat.le_refl _)]
    have : (tcs S1.L S1.n).take S1.M = tcs S1.L S1.n := List.take_length
    rw [this, hn, c3]
    rfl
  refine ⟨hM, fun t ht hc => ?_, fun i hi => ?_⟩
  · have e1 := cd_at (L := S1.L) (n := S1.n) ht
    have e2 := flt_at (fun c => decide (c < 10 ^ S.L)) _ t _ e1 (show decide (cd S1.L S1.n t < 10 ^ S.L) = true from decide_eq_true hc)
    rw [← e t (by omega), hn, c3] at e2
    obtain ⟨q, hq⟩ := List.getElem?_eq_some_iff.mp e2
    refine ⟨q, ?_⟩
    have := cd_at (L := S.L) (n := S.n) (t := cw S S1 t) q
    rw [List.getElem?_eq_getElem q, hq] at this
    have h3 := Option.some.inj this
    show cd S.L S.n (cw S S1 t) = cd S1.L S1.n t
    rw [hn]
    exact h3.symm
  · have : S.c i ∈ tcs S.L S.n := List.mem_of_getElem? (cd_at (L := S.L) (n := S.n) hi)
    rw [← c3, List.mem_filter] at this
    obtain ⟨j, hj, ej⟩ := List.getElem_of_mem this.1
    have hj' : j < S1.M := by
      show j < (tcs S1.L S1.n).length
      rw [hn]; exact hj
    have ec : S1.c j = S.c i := by
      have := cd_at (L := S1.L) (n := S.n) hj
      rw [List.getElem?_eq_getElem hj, ej] at this
      show cd S1.L S1.n j = S.c i
      rw [hn]
      exact (Option.some.inj this).symm
    exact ⟨j, hj', ec, by rw [← ec]; exact c_pos h1 hj'⟩
end
