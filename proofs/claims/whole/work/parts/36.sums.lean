/-! ===== sums: put together, chosen, in another order ===== -/
theorem sl_add (f : Nat → Int64) (a : Nat) : ∀ b, sl f (a + b) = sl f a + sl (fun j => f (a + j)) b
  | 0 => by rw [Nat.add_zero, sl, Int64.add_zero]
  | b + 1 => by rw [← Nat.add_assoc, sl, sl_add f a b, sl, Int64.add_assoc]
theorem sl_plus (f g : Nat → Int64) : ∀ m, sl (fun t => f t + g t) m = sl f m + sl g m
  | 0 => by rw [sl, sl, sl, Int64.add_zero]
  | m + 1 => by
    rw [sl, sl, sl, sl_plus f g m, Int64.add_assoc, Int64.add_assoc]
    congr 1
    rw [← Int64.add_assoc, ← Int64.add_assoc, Int64.add_comm (sl g m)]
theorem sl_zero {f : Nat → Int64} : ∀ {m}, (∀ t, t < m → f t = 0) → sl f m = 0
  | 0, _ => rfl
  | m + 1, h => by rw [sl, sl_zero (fun t ht => h t (by omega)), h m (by omega), Int64.add_zero]
theorem sl_sel (P : Nat → Bool) (e G : Nat → Int64) {M : Nat} (h : ∀ q, q < M → P q = true → e (cn P q) = G q) : ∀ m, m ≤ M → sl e (cn P m) = sl (fun q => if P q = true then G q else 0) m
  | 0, _ => rfl
  | m + 1, hm => by
    have ih := sl_sel P e G h m (by omega)
    rw [cn, sl]
    by_cases hz : P m = true
    · rw [if_pos hz, if_pos hz, sl, ih, h m (by omega) hz]
    · rw [if_neg hz, if_neg hz, Nat.add_zero, ih, Int64.add_zero]
section
variable {g : Nat → Nat} {M : Nat} {b st : Nat → Int32}
theorem ByS.pl (h : ByS g M b st) {t : Nat} (ht : t < M) : b (plc g M t) = nI t := h.2 t ht
/-- every place below M is that of one TERM -/
theorem plc_sur (g : Nat → Nat) (M : Nat) {B : Nat} (hg : ∀ t, t < M → g t ≤ B) {q : Nat} (hq : q < M) : ∃ t, t < M ∧ plc g M t = q := by
  have hB : stt g M (B + 1) = M := by
    unfold stt
    have : ∀ m, m ≤ M → cn (fun t => decide (g t < B + 1)) m = m := by
      intro m
      induction m with
      | zero => intro _; rfl
      | succ m ih => intro hm; rw [cn, ih (by omega), if_pos (by have := hg m (by omega); simp; omega)]
    exact this _ (Nat.le_refl _)
  have key : ∀ z, stt g M z ≤ q ∨ ∃ t, t < M ∧ plc g M t = q := by
    intro z
    induction z with
    | zero => exact Or.inl (by rw [stt_0]; omega)
    | succ z ih =>
      rcases ih with h | h
      · by_cases h2 : stt g M (z + 1) ≤ q
        · exact Or.inl h2
        · refine Or.inr ?_
          rw [stt_1] at h2
          obtain ⟨t, a, b, c⟩ := cn_sur (fun t => decide (g t = z)) M (q - stt g M z) (by omega)
          have hz : g t = z := of_decide_eq_true b
          refine ⟨t, a, ?_⟩
          unfold plc
          rw [hz, c]
          omega
      · exact Or.inr h
  rcases key (B + 1) with h | h
  · omega
  · exact h
/-- the order by size is an order of all -/
theorem sl_perm (h : ByS g M b st) (hM : M ≤ 462) {B : Nat} (hg : ∀ t, t < M → g t ≤ B) (f : Nat → Int64) : sl (fun q => f (b q).toNatClampNeg) M = sl f M := by
  have key : ∀ z, sl (fun q => f (b q).toNatClampNeg) (stt g M z) = sl (fun t => if g t < z then f t else 0) M := by
    intro z
    induction z with
    | zero => rw [stt_0, sl, sl_zero (fun t _ => if_neg (by omega))]
    | succ z ih =>
      rw [stt_1, sl_add, ih, sl_by h hM z f M (Nat.le_refl _), ← sl_plus]
      refine sl_congr fun t _ => ?_
      by_cases h1 : g t < z
      · rw [if_pos h1, if_neg (by omega), if_pos (by omega), Int64.add_zero]
      · by_cases h2 : g t = z
        · rw [if_neg h1, if_pos h2, if_pos (by omega), Int64.zero_add]
        · rw [if_neg h1, if_neg h2, if_neg (by omega), Int64.add_zero]
  have hB : stt g M (B + 1) = M := by
    unfold stt
    have : ∀ m, m ≤ M → cn (fun t => decide (g t < B + 1)) m = m := by
      intro m
      induction m with
      | zero => intro _; rfl
      | succ m ih => intro hm; rw [cn, ih (by omega), if_pos (by have := hg m (by omega); simp; omega)]
    exact this _ (Nat.le_refl _)
  have e := key (B + 1)
  rw [hB] at e
  rw [e]
  exact sl_congr fun t ht => if_pos (by have := hg t ht; omega)
/-- it goes by size -/
theorem plc_mono {t u : Nat} (ht : t < M) (hu : u < M) (h : plc g M t < plc g M u) : g t ≤ g u := by
  refine Decidable.byContradiction fun q => ?_
  have a := plc_lt (g := g) hu
  have c := stt_mono g M (show g u + 1 ≤ g t by omega)
  have d : stt g M (g t) ≤ plc g M t := Nat.le_add_right _ _
  omega
end
/-! ===== codes put together ===== -/
theorem dig_div (c k : Nat) : dig c (k + 1) = dig (c / 10) k := (dig_s c k).symm
theorem dig_00 (c : Nat) : dig c 0 = c % 10 := by simp [dig]
theorem sm_div (c j : Nat) : sm (dig c) (j + 1) = c % 10 + sm (dig (c / 10)) j := by
  rw [sm_s, dig_00, show (fun k => dig c (k + 1)) = dig (c / 10) from funext (dig_div c)]
theorem tcs_mem : ∀ (L n c : Nat), c < 10 ^ L → sm (dig c) L ≤ n → c ∈ tcs L n
  | 0, n, c, h, _ => by
    have : c = 0 := by simpa using h
    simp [tcs, this]
  | L + 1, n, c, h, hs => by
    rw [sm_div] at hs
    unfold tcs
    rw [List.mem_flatMap]
    refine ⟨c % 10, by simp; omega, List.mem_map.mpr ⟨c / 10, tcs_mem L (n - c % 10) (c / 10) (by rw [Nat.pow_succ] at h; omega) (by omega), by omega⟩⟩
theorem sm_sum : ∀ (L a b : Nat), a < 10 ^ L → b < 10 ^ L → sm (dig a) L + sm (dig b) L ≤ 9 → sm (dig (a + b)) L = sm (dig a) L + sm (dig b) L ∧ a + b < 10 ^ L
  | 0, a, b, h1, h2, _ => by
    have e1 : a = 0 := by simpa using h1
    have e2 : b = 0 := by simpa using h2
    subst e1; subst e2
    exact ⟨rfl, by decide⟩
  | L + 1, a, b, h1, h2, h => by
    rw [sm_div, sm_div] at h
    rw [Nat.pow_succ] at h1 h2
    obtain ⟨e1, e2⟩ := sm_sum L (a / 10) (b / 10) (by omega) (by omega) (by omega)
    have e3 : (a + b) / 10 = a / 10 + b / 10 := by omega
    rw [sm_div, sm_div, sm_div, e3, e1, Nat.pow_succ]
    exact ⟨by omega, by omega⟩
section
variable {S : Sh}
/-- the TERM with powers added -/
theorem c_sum (hS : ShOk S) {t u : Nat} (ht : t < S.M) (hu : u < S.M) (h : sz (S.c t) + sz (S.c u) ≤ S.n) : ∃ r, r < S.M ∧ S.c r = S.c t + S.c u := by
  have hn := hS.n5
  have hL := hS.ln.2.1
  have h1 := (cd_lt hS.ln ht).2
  have h2 := (cd_lt hS.ln hu).2
  have e1 : sm (dig (S.c t)) S.L = sz (S.c t) := sm_sz h1 hL
  have e2 : sm (dig (S.c u)) S.L = sz (S.c u) := sm_sz h2 hL
  obtain ⟨e3, e4⟩ := sm_sum S.L (S.c t) (S.c u) h1 h2 (by omega)
  have hm := tcs_mem S.L S.n (S.c t + S.c u) e4 (by omega)
  obtain ⟨i, hi, he⟩ := List.getElem_of_mem hm
  refine ⟨i, hi, ?_⟩
  have := cd_at (L := S.L) (n := S.n) hi
  rw [List.getElem?_eq_getElem hi, he] at this
  exact (Option.some.inj this).symm
theorem c_inj (hS : ShOk S) {t u : Nat} (ht : t < S.M) (hu : u < S.M) (h : S.c t = S.c u) : t = u := cd_inj hS.ln ht hu h
theorem c_pos (hS : ShOk S) {t : Nat} (ht : t < S.M) : pos S.L S.n (S.c t) = some t := pos_cd hS.ln ht
end
