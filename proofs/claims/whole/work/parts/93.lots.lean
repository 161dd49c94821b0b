section
variable {S : Sh} {C C1 : Cl} {σ σ1 τ τ1 : SS}
/-! ===== LOTS ===== -/
def pick (mm : Nat) (g : Int32) : Int32 := ((g &&& (2147483647 : Int32)) / (65536 : Int32)) - ((g &&& (2147483647 : Int32)) / (65536 : Int32)) / nI mm * nI mm
theorem pick_lt {mm : Nat} (h0 : 0 < mm) (h8 : mm ≤ 8) (g : Int32) : ∃ m, m < mm ∧ pick mm g = nI m := by
  obtain ⟨j, hj, e⟩ := pk_andE g (m := 2147483647) 31 (by decide)
  refine ⟨j / 65536 % mm, Nat.mod_lt _ h0, ?_⟩
  unfold pick
  rw [e, show (65536 : Int32) = nI 65536 from rfl, pk_div hj (by decide) (by decide), pk_rem (by omega) h0 (by omega)]
def lotsN (mm : Nat) : Prop := 0 < mm
theorem lots_in (S : Sh) (C : Cl) (h0 : 0 < C.mm) (x1 x3 : Int32) (rc : Int32 → Int32 → Int32 → Int64 → Int64 → Int32 → SS → Option (Int64 × SS)) (rc' : Int32 → Int32 → Int64 → Int64 → Int32 → SS → Option (Int64 × SS)) (idx : Int32)
    (H : ∀ g a b σ τ, KC S C σ → KM S C τ → τ.1 0 51 = g → ∃ r σ1 τ1, rc x1 x3 g a b (idx + 1) σ = some (r, σ1) ∧ rc' x1 x3 a b (idx + 1) τ = some (r, τ1) ∧ FR XA XB σ σ1 ∧ FM MJ MA MB τ τ1) :
    ∀ j i n n' g a b σ τ v, KC S C σ → KM S C τ → τ.1 0 51 = g → Rw S σ 21 v → Rw S τ 13 v → i + j = S.n → j < n → j < n' →
      ∃ r σ1 τ1, f_X11_lots_c73 rc n x1 x3 g a b idx (nI i) σ = some (r, σ1) ∧ f_X12_lots_c68 rc' n' x1 x3 a b idx (nI i) τ = some (r, τ1) ∧ FR XA XB σ σ1 ∧ FM MJ MA MB τ τ1 := by
  intro j
  induction j with
  | zero =>
    intro i n n' g a b σ τ v K L hg r1 r2 hi hn hn'
    obtain ⟨n, rfl⟩ : ∃ m', n = m' + 1 := ⟨n - 1, by omega⟩
    obtain ⟨n', rfl⟩ : ∃ m', n' = m' + 1 := ⟨n' - 1, by omega⟩
    have hn5 := K.ok.n5
    have : i = S.n := by omega
    subst this
    rw [f_X11_lots_c73, p_dim (Or.inl rfl) K.sh, zbd_s, if_pos (nI_le (by omega) (by omega)), p_met K.ok K.tm (by decide) r1, zbd_s, f_X12_lots_c68, L.sh.n, if_pos (nI_le (by omega) (by omega)), pm_met L.ok L.tm rfl r2, zbd_s]
    simp only [f_X11_lots_c176, f_X12_lots_c142]
    by_cases q : mt S v = 0
    · rw [if_pos ((lg_cmp_eq _ _).mpr q), if_pos ((lg_cmp_eq _ _).mpr q)]
      exact H g _ _ σ τ K L hg
    · rw [if_neg (fun w => q ((lg_cmp_eq _ _).mp w)), if_neg (fun w => q ((lg_cmp_eq _ _).mp w))]
      exact H g _ _ σ τ K L hg
  | succ j ih =>
    intro i n n' g a b σ τ v K L hg r1 r2 hi hn hn'
    obtain ⟨n, rfl⟩ : ∃ m', n = m' + 1 := ⟨n - 1, by omega⟩
    obtain ⟨n', rfl⟩ : ∃ m', n' = m' + 1 := ⟨n' - 1, by omega⟩
    have hn5 := K.ok.n5
    have h8 := K.okC.m8
    have ne : ¬ nI C.mm = 0 := nI_ne0 h0 (by omega)
    obtain ⟨m, hm, em⟩ := pick_lt h0 h8 (g * 1103515245 + 12345)
    obtain ⟨z1, z2⟩ := ZOx_13 (show m < 8 by omega)
    obtain ⟨σ1, e1, r3, F1⟩ := p_mulBy K.ok K.okC K.tm K.cl hm r1
    have F1 : FR XA XB σ σ1 := F1.mono (by decide) (by decide)
    have G0 : FM MJ MA MB τ (zS τ 0 51 (g * 1103515245 + 12345)) := (FM.refl τ).sO (by simp) _
    have L0 := L.sc G0
    have e51 : (zS τ 0 51 (g * 1103515245 + 12345)).1 0 51 = g * 1103515245 + 12345 := by rw [zS_1, if_pos ⟨rfl, rfl⟩]
    have r2a : Rw S (zS τ 0 51 (g * 1103515245 + 12345)) 13 v := r2
    generalize hτ0 : zS τ 0 51 (g * 1103515245 + 12345) = τ0 at *
    obtain ⟨τ1, e2, r4, G1⟩ := km_take L0 hm (k := 14) rfl (by decide) (by decide)
    have r2b := r2a.fm G1 (by decide)
    have e51a : τ1.1 0 51 = g * 1103515245 + 12345 := by rw [G1.o 51 (by decide)]; exact e51
    have G1 : FM MJ MA MB τ0 τ1 := G1.mono (by decide) (by decide) (by decide)
    obtain ⟨τ2, e3, r5, G2⟩ := km_mul (L0.sc G1) (k1 := 13) (k2 := 14) rfl rfl (by decide) (by decide) r2b r4
    have e51b : τ2.1 0 51 = g * 1103515245 + 12345 := by rw [G2.o 51 (by decide)]; exact e51a
    have G2 : FM MJ MA MB τ1 τ2 := G2.mono (by decide) (by decide) (by decide)
    have GG := (G0.trans G1).trans G2
    have ep : ((((g * 1103515245 + 12345 &&& 2147483647) / 65536 - (g * 1103515245 + 12345 &&& 2147483647) / 65536 / nI C.mm * nI C.mm) : Int32)) = nI m := em
    rw [f_X11_lots_c73, p_dim (Or.inl rfl) K.sh, zbd_s, if_neg (nI_ge (by omega) (by omega)), K.mm, if_neg ne, ep, if_pos z1, z2, if_pos (ZOx_k (by omega)).1, e1, zbd_s, f_X12_lots_c68, L.sh.n, if_neg (nI_ge (by omega) (by omega)), L.cl.mm, f_X12_draw, if_neg ne, hg, hτ0, e51, ep, zbd_s, e2, zbd_s, e3, zbd_s, nI_1]
    obtain ⟨r, σ2, τ3, e4, e5, F2, G3⟩ := ih (i + 1) n n' _ a b σ1 τ2 _ (K.sc F1) (L.sc GG) e51b r3 r5 (by omega) (by omega) (by omega)
    exact ⟨r, σ2, τ3, e4, e5, F1.trans F2, GG.trans G3⟩
theorem lots_out (S : Sh) (C : Cl) (h0 : 0 < C.mm) (c : Nat) (hc : c ≤ 50) (x3 : Int32) : ∀ j i n n' g a b σ τ, KC S C σ → KM S C τ → τ.1 0 51 = g → i + j = c → j < n → j < n' →
      ∃ r σ1 τ1, f_X11_lots_c50 n (nI c) x3 g a b (nI i) σ = some (r, σ1) ∧ f_X12_lots_c51 n' (nI c) x3 a b (nI i) τ = some (r, τ1) ∧ FR XA XB σ σ1 ∧ FM MJ MA MB τ τ1 := by
  intro j
  induction j with
  | zero =>
    intro i n n' g a b σ τ K L hg hi hn hn'
    obtain ⟨n, rfl⟩ : ∃ m', n = m' + 1 := ⟨n - 1, by omega⟩
    obtain ⟨n', rfl⟩ : ∃ m', n' = m' + 1 := ⟨n' - 1, by omega⟩
    rw [f_X11_lots_c50, if_pos (nI_le (by omega) (by omega)), f_X12_lots_c51, if_pos (nI_le (by omega) (by omega))]
    by_cases q : x3 = 0
    · rw [if_pos q, if_pos q]; exact ⟨_, _, _, rfl, rfl, FR.refl σ, FM.refl τ⟩
    · rw [if_neg q, if_neg q]; exact ⟨_, _, _, rfl, rfl, FR.refl σ, FM.refl τ⟩
  | succ j ih =>
    intro i n n' g a b σ τ K L hg hi hn hn'
    obtain ⟨n, rfl⟩ : ∃ m', n = m' + 1 := ⟨n - 1, by omega⟩
    obtain ⟨n', rfl⟩ : ∃ m', n' = m' + 1 := ⟨n' - 1, by omega⟩
    have hn5 := K.ok.n5
    obtain ⟨σ1, e1, r1, F1⟩ := k_one K (k := 21) (by decide)
    have F1 : FR XA XB σ σ1 := F1.mono (by decide) (by decide)
    obtain ⟨τ1, e2, r2, G1⟩ := km_one L (k := 13) rfl (by decide)
    have eg : τ1.1 0 51 = g := by rw [G1.o 51 (by decide)]; exact hg
    have G1 : FM MJ MA MB τ τ1 := G1.mono (by decide) (by decide) (by decide)
    rw [f_X11_lots_c50, if_neg (nI_ge (by omega) (by omega)), e1, zbd_s, f_X12_lots_c51, if_neg (nI_ge (by omega) (by omega)), e2, zbd_s]
    obtain ⟨r, σ2, τ2, e3, e4, F2, G2⟩ := lots_in S C h0 (nI c) x3 (f_X11_lots_c50 n) (f_X12_lots_c51 n') (nI i) (fun g a b σ τ K L hg => by
      rw [nI_1]
      exact ih (i + 1) n n' g a b σ τ K L hg (by omega) (by omega) (by omega)) S.n 0 ZF ZF g a b σ1 τ1 (one S) (K.sc F1) (L.sc G1) eg r1 r2 (by omega) (by unfold ZF; omega) (by unfold ZF; omega)
    rw [nI_0] at e3 e4
    exact ⟨r, σ2, τ2, e3, e4, F1.trans F2, G1.trans G2⟩
theorem s_lots (x g y : Int32) (h : I0 σ τ) : ∃ r σ1 τ1, f_X11_lots x g y σ = some (r, σ1) ∧ f_X12_lots x g y τ = some (r, τ1) ∧ I0 σ1 τ1 := by
  obtain ⟨S, C, h⟩ := h
  have K := h.kc
  have L := h.km
  have h8 := K.okC.m8
  rw [f_X11_lots, f_X12_lots, pm_in32 x 1 50 1 50 rfl rfl, zbd_s, pm_in32 y 0 1 0 1 rfl rfl, zbd_s, K.mm, L.cl.mm]
  by_cases q1 : x < 1
  · rw [if_pos q1, if_neg (fun w : 1 ≤ x ∧ x ≤ 50 => absurd q1 (Int32.not_lt.mpr w.1))]
    exact ex0 h.i0 _ rfl (if_pos rfl)
  rw [if_neg q1]
  by_cases q2 : (50 : Int32) < x
  · rw [if_pos q2, if_neg (fun w : 1 ≤ x ∧ x ≤ 50 => absurd q2 (Int32.not_lt.mpr w.2))]
    exact ex0 h.i0 _ rfl (if_pos rfl)
  rw [if_neg q2, if_pos (show 1 ≤ x ∧ x ≤ 50 from ⟨Int32.not_lt.mp q1, Int32.not_lt.mp q2⟩), if_neg n10]
  by_cases q3 : y < 0
  · rw [if_pos q3, if_neg (fun w : 0 ≤ y ∧ y ≤ 1 => absurd q3 (Int32.not_lt.mpr w.1))]
    exact ex0 h.i0 _ rfl (if_pos rfl)
  rw [if_neg q3]
  by_cases q4 : y ≤ 1
  rotate_left
  · rw [if_neg q4, if_neg (fun w : 0 ≤ y ∧ y ≤ 1 => q4 w.2)]
    exact ex0 h.i0 _ rfl (if_pos rfl)
  rw [if_pos q4, if_pos (show 0 ≤ y ∧ y ≤ 1 from ⟨Int32.not_lt.mp q3, q4⟩), if_neg n10]
  by_cases q5 : C.mm = 0
  · rw [q5]
    exact ex0 h.i0 _ (if_pos rfl) (if_pos rfl)
  have ne : ¬ nI C.mm = 0 := nI_ne0 (by omega) (by omega)
  rw [if_neg ne, if_neg ne]
  obtain ⟨c, hc, rfl⟩ : ∃ v, v < 2 ^ 31 ∧ x = nI v := by
    rcases nI_cases x with w | w
    · exact absurd (Int32.lt_trans w (show (0 : Int32) < 1 by decide)) q1
    · exact w
  have hc50 : c ≤ 50 := (nI_leI hc (b := 50) (by decide)).mp (Int32.not_lt.mp q2)
  have G0 : FM MJ MA MB τ (zS τ 0 51 g) := (FM.refl τ).sO (by simp) _
  obtain ⟨r, σ1, τ1, e1, e2, F, G⟩ := lots_out S C (by omega) c hc50 y c 0 ZF ZF g 0 0 σ (zS τ 0 51 g) K (L.sc G0) (by rw [zS_1, if_pos ⟨rfl, rfl⟩]) (by omega) (by unfold ZF; omega) (by unfold ZF; omega)
  rw [nI_0] at e1 e2
  exact ⟨r, σ1, τ1, e1, e2, h.fin F (G0.trans G)⟩
end
