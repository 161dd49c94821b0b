section
variable {S S1 : Sh} {C C1 : Cl} {σ σ1 τ τ1 : SS}
theorem s_back (h : I0 σ τ) : ∃ r σ1 τ1, f_X11_back σ = some (r, σ1) ∧ f_X12_back τ = some (r, τ1) ∧ I0 σ1 τ1 := by
  obtain ⟨S0, C0, h⟩ := h
  have K0 := h.kc
  have L0 := h.km
  rcases h.img with ⟨i1, i2⟩ | ⟨i1, i2, S, C, D⟩
  · rw [f_X11_back, f_X12_back, i1, i2]
    exact ex0 h.i0 _ (if_pos rfl) (if_pos rfl)
  have h8 := D.okC.m8
  have hS := D.ok
  rw [f_X11_back, f_X12_back, i1, i2, if_neg n10, if_neg n10]
  have F1 := to_fr σ 3 15 4 18
  have F2 : FR [1] [] (TOv σ 3 15 4 18) (zS (TOv σ 3 15 4 18) 1 2 (nI C.mm)) := (FR.refl _).sS (by simp) _ _
  have F12 : FR [1, 3, 15, 16, 17] [] σ (zS (TOv σ 3 15 4 18) 1 2 (nI C.mm)) := (F1.mono (by decide) (by decide)).trans (F2.mono (by decide) (by decide))
  obtain ⟨σ2, e1, c1, F3⟩ := k_takeN hS D.okC (D.clC.fr D.okC F12 (fun m hm => by simp; omega) (fun m hm => by simp)) (show (zS (TOv σ 3 15 4 18) 1 2 (nI C.mm)).1 1 2 = nI C.mm by rw [zS_1, if_pos ⟨rfl, rfl⟩])
  have sh2 : ShC S 3 15 σ2 := ((to_sh2 D.shC).fr F2 (by decide) (by decide) (by decide) (by decide)).fr F3 (by decide) (by decide) (by decide) (by decide)
  obtain ⟨σ3, e2, t3, F4⟩ := p_layOut hS sh2
  have F5 : FR [7] [] σ3 (zS (zS σ3 7 4 0) 7 5 0) := ((FR.refl σ3).sS (by simp) _ _).sS (by simp) _ _
  have FF : FR WA WB σ (zS (zS σ3 7 4 0) 7 5 0) := (((F12.mono (by decide) (by decide)).trans (F3.mono (by decide) (by decide))).trans (F4.mono (by decide) (by decide))).trans (F5.mono (by decide) (by decide))
  have sh5 := (sh2.fr F4 (by decide) (by decide) (by decide) (by decide)).fr F5 (by decide) (by decide) (by decide) (by decide)
  have t5 := t3.fr F5 (by decide) (by decide) (by decide) (by decide) (by decide) (by decide) (by decide)
  have c5 := (c1.fr D.okC F4 (fun m hm => by simp; omega) (fun m hm => by simp; omega)).fr D.okC F5 (fun m hm => by simp; omega) (fun m hm => by simp)
  have m5 : (zS (zS σ3 7 4 0) 7 5 0).1 1 2 = nI C.mm := by rw [F5.1 1 (by decide), F4.1 1 (by decide), F3.1 1 (by decide), zS_1, if_pos ⟨rfl, rfl⟩]
  have ec : zbd (f_X3_takeOver 1 2 σ) (fun _ s2 => zbd (f_X10_layOut 3 s2) (fun _ s5 => zbd (f_X1_forget s5) (fun _ s8 => some ((s8.1 1 2), s8)))) = some (nI C.mm, zS (zS σ3 7 4 0) 7 5 0) := by
    rw [f_X3_takeOver, if_pos (show zis Ox 3 1 = true from rfl), if_pos (show zis Ox 3 2 = true from rfl), show zrf Ox 2 0 = 4 from rfl, show zrf Ox 1 0 = 3 from rfl, if_pos (show zis Ox 7 3 = true from rfl), if_pos (show zis Ox 7 4 = true from rfl), p_to2, zbd_s, F1.1 2 (by decide), D.mC, e1, zbd_s, e2, zbd_s, f_X1_forget, zbd_s, m5]
  -- the reference
  have hred : f_X12_back_c44 ZF 0 (zS (zS (zS (zS τ 0 0 (τ.1 0 37)) 0 1 ((zS τ 0 0 (τ.1 0 37)).1 0 38)) 0 2 ((zS (zS τ 0 0 (τ.1 0 37)) 0 1 ((zS τ 0 0 (τ.1 0 37)).1 0 38)).1 0 39)) 0 4 ((zS (zS (zS τ 0 0 (τ.1 0 37)) 0 1 ((zS τ 0 0 (τ.1 0 37)).1 0 38)) 0 2 ((zS (zS τ 0 0 (τ.1 0 37)) 0 1 ((zS τ 0 0 (τ.1 0 37)).1 0 38)).1 0 39)).1 0 41)) = f_X12_back_c44 ZF 0 (zS (zS (zS (zS τ 0 0 (τ.1 0 37)) 0 1 (τ.1 0 38)) 0 2 (τ.1 0 39)) 0 4 (τ.1 0 41)) := by
    simp [zS_1]
  have G1 : FM [0, 1, 2, 4] [] [] τ (zS (zS (zS (zS τ 0 0 (τ.1 0 37)) 0 1 (τ.1 0 38)) 0 2 (τ.1 0 39)) 0 4 (τ.1 0 41)) := ((((FM.refl τ).sO (by simp) _).sO (by simp) _).sO (by simp) _).sO (by simp) _
  have v0 : (zS (zS (zS (zS τ 0 0 (τ.1 0 37)) 0 1 (τ.1 0 38)) 0 2 (τ.1 0 39)) 0 4 (τ.1 0 41)).1 0 0 = τ.1 0 37 := by simp [zS_1]
  have v1 : (zS (zS (zS (zS τ 0 0 (τ.1 0 37)) 0 1 (τ.1 0 38)) 0 2 (τ.1 0 39)) 0 4 (τ.1 0 41)).1 0 1 = τ.1 0 38 := by simp [zS_1]
  have v2 : (zS (zS (zS (zS τ 0 0 (τ.1 0 37)) 0 1 (τ.1 0 38)) 0 2 (τ.1 0 39)) 0 4 (τ.1 0 41)).1 0 2 = τ.1 0 39 := by simp [zS_1]
  have v4 : (zS (zS (zS (zS τ 0 0 (τ.1 0 37)) 0 1 (τ.1 0 38)) 0 2 (τ.1 0 39)) 0 4 (τ.1 0 41)).1 0 4 = τ.1 0 41 := by simp [zS_1]
  rw [hred]
  generalize ht : zS (zS (zS (zS τ 0 0 (τ.1 0 37)) 0 1 (τ.1 0 38)) 0 2 (τ.1 0 39)) 0 4 (τ.1 0 41) = t at *
  obtain ⟨t2, e3, r2, G2⟩ := km_rowsB 3 0 ZF t (fun k hk => absurd hk (by omega)) (by omega) (by unfold ZF; omega)
  rw [nI_0] at e3
  have G3 : FM [12] [] [] t2 (zS t2 0 12 0) := (FM.refl t2).sO (by simp) _
  have G13 : FM [0, 1, 2, 4, 12] [1, 2, 3] [] τ (zS t2 0 12 0) := ((G1.mono (by decide) (by decide) (by decide)).trans (G2.mono (by decide) (by decide) (by decide))).trans (G3.mono (by decide) (by decide) (by decide))
  have rw1 : ∀ k, k < 3 → (zS t2 0 12 0).1 1 k = τ.1 26 k ∧ (zS t2 0 12 0).1 2 k = τ.1 27 k ∧ (zS t2 0 12 0).1 3 k = τ.1 28 k := fun k hk => by
    rw [G3.i 1 (by decide) (by decide), G3.i 2 (by decide) (by decide), G3.i 3 (by decide) (by decide)]
    obtain ⟨a, b, c⟩ := r2 k hk
    rw [a, b, c, G2.i 26 (by decide) (by decide), G2.i 27 (by decide) (by decide), G2.i 28 (by decide) (by decide), G1.i 26 (by decide) (by decide), G1.i 27 (by decide) (by decide), G1.i 28 (by decide) (by decide)]
    exact ⟨rfl, rfl, rfl⟩
  have he3 := hS.e3
  have x : ∀ j, j ∉ [12] → (zS t2 0 12 0).1 0 j = t.1 0 j := fun j hj => by rw [G3.o j hj, G2.o j (by simp)]
  have sM : ShM S (zS t2 0 12 0) := ⟨by rw [x 0 (by decide), v0]; exact D.shK.so, by rw [x 1 (by decide), v1]; exact D.shK.n, fun q => by rw [x 2 (by decide), v2]; exact D.shK.f q, by rw [x 4 (by decide), v4]; exact D.shK.e, fun q k hk => by rw [(rw1 k hk).1]; exact D.shK.dm q k hk, fun q k hk => by rw [(rw1 k (by omega)).2.1]; exact D.shK.dg q k hk, fun q k hk => by rw [(rw1 k (by omega)).2.2]; exact D.shK.gn q k hk⟩
  have hpl : Pl S0.M S0.c (zS t2 0 12 0) := TmM.pl K0.ok (L0.tm.fm G13 (by decide) (by decide) (by decide) (by decide) (by decide))
  obtain ⟨t3', e4, g3, tm3, G4, -⟩ := pm_layTerms hS hpl sM
  have z12 : t3'.1 0 12 = 0 := by rw [G4.o 12 (by decide), zS_1, if_pos ⟨rfl, rfl⟩]
  have m44 : t3'.1 0 44 = nI C.mm := by rw [G4.o 44 (by decide), G13.o 44 (by decide)]; exact D.clK.mm
  have G5 : FM [12] [] [] t3' (zS t3' 0 12 (nI C.mm)) := (FM.refl t3').sO (by simp) _
  have G15 : FM [0, 1, 2, 4, 12, 7] [1, 2, 3, 4, 5, 7, 12, 32] [6] τ (zS t3' 0 12 (nI C.mm)) := ((G13.mono (by decide) (by decide) (by decide)).trans (G4.mono (by decide) (by decide) (by decide))).trans (G5.mono (by decide) (by decide) (by decide))
  have T5 := tm3.fm G5 (by decide) (by decide) (by decide) (by decide) (by decide)
  obtain ⟨t6, e6, r6, G6⟩ := km_clsB (S := S) (C := C) hS D.okC C.mm 0 ZF (zS t3' 0 12 (nI C.mm)) T5 (by rw [zS_1, if_pos ⟨rfl, rfl⟩]) (fun m hm => by rw [G15.i 29 (by decide) (by decide)]; exact D.clK.kd m hm) (fun m hm => by rw [G15.i 30 (by decide) (by decide)]; exact D.clK.fg m hm) (fun m hm t ht => by rw [G15.l 31 (by decide)]; exact D.clK.tl m hm t ht) (fun m hm => absurd hm (by omega)) (by omega) (by unfold ZF; omega)
  rw [nI_0] at e6
  have G7 : FM [21, 22] [] [] t6 (zS (zS t6 0 21 0) 0 22 0) := ((FM.refl t6).sO (by simp) _).sO (by simp) _
  have GG : FM WJ WM WN τ (zS (zS t6 0 21 0) 0 22 0) := ((G15.mono (by decide) (by decide) (by decide)).trans (G6.mono (by decide) (by decide) (by decide))).trans (G7.mono (by decide) (by decide) (by decide))
  have m6 : (zS (zS t6 0 21 0) 0 22 0).1 0 12 = nI C.mm := by rw [G7.o 12 (by decide), G6.o 12 (by decide), zS_1, if_pos ⟨rfl, rfl⟩]
  have L7 : KM S C (zS (zS t6 0 21 0) 0 22 0) := ⟨hS, D.okC, ((g3.fm G5 (by decide) (by decide) (by decide) (by decide) (by decide) (by decide) (by decide)).fm G6 (by decide) (by decide) (by decide) (by decide) (by decide) (by decide) (by decide)).fm G7 (by decide) (by decide) (by decide) (by decide) (by decide) (by decide) (by decide),
    ⟨m6, fun m hm => (r6 m hm).1, fun m hm => (r6 m hm).2.1, fun m hm => (r6 m hm).2.2⟩, (T5.fm G6 (by decide) (by decide) (by decide) (by decide) (by decide)).fm G7 (by decide) (by decide) (by decide) (by decide) (by decide)⟩
  refine ⟨nI C.mm, _, zS (zS t6 0 21 0) 0 22 0, ec, ?_, S, C, h.core1 FF GG ⟨hS, D.okC, sh5, m5, c5, t5⟩ L7 (chg_0 (by simp [zS_1]) (by simp [zS_1]) (by simp [zS_1]) (by simp [zS_1]))⟩
  rw [e3, e4, km_carry0 z12, zbd_s, zbd_s, m44, e6, f_X12_forget, zbd_s, m6]
/-! ===== ALIKE ===== -/
def shq (S S1 : Sh) : Prop := S.so = S1.so ∧ S.f = S1.f ∧ S.e = S1.e ∧ ∀ k, k < 3 → S.dm k = S1.dm k ∧ S.dg k = S1.dg k ∧ S.gn k = S1.gn k
def b01 (b : Bool) : Int32 := if b = true then 1 else 0
theorem b01_0 (b : Bool) : b01 b = 0 ↔ ¬ b = true := by cases b <;> decide
/-- a row of flags, one after the other -/
def shl (S S1 : Sh) : Nat → Nat → Bool
  | _, 0 => true
  | k, j + 1 => (decide (S.dm k = S1.dm k) && decide (S.dg k = S1.dg k) && decide (S.gn k = S1.gn k)) && shl S S1 (k + 1) j
theorem p_as_c (hS : ShOk S) (hS1 : ShOk S1) (h : ShC S 3 15 σ) (h1 : ShC S1 4 18 σ) : ∀ j k n (b : Bool), k + j = 3 → j < n → f_X7_isAs_c41 n 3 4 (b01 b) (nI k) σ = some (b01 (b && shl S S1 k j), σ) := by
  have z3 : zis Ox 7 3 = true := rfl
  have z4 : zis Ox 7 4 = true := rfl
  intro j
  induction j with
  | zero =>
    intro k n b hk hn
    obtain ⟨n, rfl⟩ : ∃ m', n = m' + 1 := ⟨n - 1, by omega⟩
    have : k = 3 := by omega
    subst this
    rw [f_X7_isAs_c41, if_pos z3, if_pos z4, if_pos (show (3 : Int32) ≤ nI 3 by decide), shl, Bool.and_true]
    cases b <;> rfl
  | succ j ih =>
    intro k n b hk hn
    obtain ⟨n, rfl⟩ : ∃ m', n = m' + 1 := ⟨n - 1, by omega⟩
    have zz : ∀ r, r < 6 → zok Ox 0 (15 + r) (nI k) = true := fun r hr => zok_nI (Ox_row (by omega)) (show k < 3 by omega) (by decide)
    have a1 := hS.dm5 k
    have a2 := hS1.dm5 k
    have a3 := hS.dg9 k
    have a4 := hS1.dg9 k
    have a5 := hS.gn9 k
    have a6 := hS1.gn9 k
    have i0 := ih (k + 1) n false (by omega) (by omega)
    have i1 := ih (k + 1) n true (by omega) (by omega)
    rw [show b01 false = 0 from rfl, Bool.false_and, show b01 false = 0 from rfl] at i0
    rw [show b01 true = 1 from rfl, Bool.true_and] at i1
    rw [f_X7_isAs_c41, if_pos z3, if_pos z4, if_neg (n3 k (by omega))]
    simp only [f_X7_isAs_c99, f_X7_isAs_c100, z3, z4, if_true, nI_1, i0, i1]
    rw [show zrf Ox 3 3 = 15 from rfl, show zrf Ox 3 4 = 16 from rfl, show zrf Ox 3 5 = 17 from rfl, show zrf Ox 4 3 = 18 from rfl, show zrf Ox 4 4 = 19 from rfl, show zrf Ox 4 5 = 20 from rfl, if_pos (zz 0 (by decide)), if_pos (zz 3 (by decide)), if_pos (zz 1 (by decide)), if_pos (zz 4 (by decide)), if_pos (zz 2 (by decide)), if_pos (zz 5 (by decide)), nI_clamp (by omega), h.dm k (by omega), h1.dm k (by omega), h.dg k (by omega), h1.dg k (by omega), h.gn k (by omega), h1.gn k (by omega), shl]
    cases b with
    | false => rfl
    | true =>
      rw [if_neg (show ¬ b01 true = 0 by decide), Bool.true_and]
      by_cases q1 : S.dm k = S1.dm k
      · rw [if_pos (by rw [q1])]
        by_cases q2 : S.dg k = S1.dg k
        · rw [if_pos (by rw [q2])]
          by_cases q3 : S.gn k = S1.gn k
          · rw [if_pos (by rw [q3])]
            simp [q1, q2, q3]
          · rw [if_neg (fun w => q3 ((nI_eq (by omega) (by omega)).mp w))]
            simp [q3]; rfl
        · rw [if_neg (fun w => q2 ((nI_eq (by omega) (by omega)).mp w))]
          simp [q2]; rfl
      · rw [if_neg (fun w => q1 ((nI_eq (by omega) (by omega)).mp w))]
        simp [q1]; rfl
end
