/-! ===== how it begins ===== -/
def C00 : Cl := (0, fun _ => 0, fun _ => 0, fun _ _ => 0)
theorem C00_ok : ClOk C00 := ⟨Nat.zero_le _, fun _ => Nat.zero_le _, fun _ => Nat.zero_le _⟩
theorem anew2 : ShOk (anew 0 2 0 0) := anew_ok (by decide)
theorem init_x : ∃ sx, f_X11_initT zs0x = some ((), sx) ∧ KC (anew 0 2 0 0) C00 sx ∧ FR [3, 15, 16, 17, 6, 62, 63, 65, 66, 67, 68] [64] zs0x sx := by
  have hS := anew2
  have F1 : FR [3, 15, 16, 17] [] zs0x (bcm zs0x 0 1 2 0 0) := ((((((((FR.refl zs0x).sS (by simp) _ _).sS (by simp) _ _).sS (by simp) _ _).sS (by simp) _ _).sS (by simp) _ _).sS (by simp) _ _).sI (by simp) _).sI (by simp) _
  have c0 : ShC (anew 0 2 0 0) 3 15 (bcm zs0x 0 1 2 0 0) := by
    refine ⟨?_, ?_, ?_, fun k hk => ?_, fun k hk => ?_, fun k hk => ?_⟩
    · show _ = nI 0
      simp [bcm, zI_1, zS_1]
    · show _ = nI 1
      simp [bcm, zI_1, zS_1]
    · show _ = nI 0
      simp [bcm, zI_1, zS_1]; rfl
    · show _ = nI (if k = 0 then 2 else if k = 1 then 0 else if k = 2 then 0 else 0)
      have : k = 0 ∨ k = 1 ∨ k = 2 := by omega
      rcases this with rfl | rfl | rfl <;> simp [bcm, zI_1, zS_1]
    · show _ = nI 0
      simp [bcm, zI_1, zS_1, hk]; rfl
    · show _ = nI 0
      simp [bcm, zI_1, zS_1, hk]; rfl
  obtain ⟨s2, e2, t2, F2⟩ := p_layOut hS c0
  have e1 : f_X7_become 3 0 2 0 0 zs0x = some ((), bcm zs0x 0 1 2 0 0) := p_bcm (so := 0) (a := 2) (b := 0) (c := 0) (by decide) (by decide)
  have FF : FR [3, 15, 16, 17, 6, 62, 63, 65, 66, 67, 68] [64] zs0x s2 := (F1.mono (by decide) (by decide)).trans (F2.mono (by decide) (by decide))
  exact ⟨s2, by rw [f_X11_initT, e1, zbd_s, e2, zbd_s], ⟨hS, C00_ok, c0.fr F2 (by decide) (by decide) (by decide) (by decide), by rw [FF.1 1 (by decide)]; rfl, ⟨fun m hm => absurd hm (Nat.not_lt_zero _), fun m hm => absurd hm (Nat.not_lt_zero _), fun m hm => absurd hm (Nat.not_lt_zero _)⟩, t2⟩, FF⟩
theorem init_m : ∃ sm, f_X12_initT zs0m = some ((), sm) ∧ KM (anew 0 2 0 0) C00 sm ∧ FM [7] [4, 5, 7, 12, 32] [6] zs0m sm := by
  have hS := anew2
  have key : ∀ j i m f, i + j = 600000 → j < m → (∀ t, t < i → f t = -1) → ∃ f' : Nat → Int32, f_X12_init_c357 m (nI i) (zI zs0m 7 f) = zbd (f_X12_layTerms (zI zs0m 7 f')) (fun _ s2 => some ((), s2)) ∧ ∀ t, t < 600000 → f' t = -1 := by
    intro j
    induction j with
    | zero =>
      intro i m f hi hm hf
      obtain ⟨m, rfl⟩ : ∃ x, m = x + 1 := ⟨m - 1, by omega⟩
      exact ⟨f, by rw [f_X12_init_c357, if_pos (show (600000 : Int32) ≤ nI i from nI_le (a := 600000) (by omega) (by omega))], fun t ht => hf t (by omega)⟩
    | succ j ih =>
      intro i m f hi hm hf
      obtain ⟨m, rfl⟩ : ∃ x, m = x + 1 := ⟨m - 1, by omega⟩
      rw [f_X12_init_c357, if_neg (show ¬ (600000 : Int32) ≤ nI i from nI_ge (b := 600000) (by omega) (by omega)), if_pos (zin_nI (show i < 600000 by omega) (by omega)), nI_clamp (by omega), nI_1, zS_eq, zI_zI, zI_same]
      refine ih (i + 1) m _ (by omega) (by omega) (fun t ht => ?_)
      by_cases q : t = i
      · rw [q, pk_us]
      · rw [pk_un q]; exact hf t (by omega)
  obtain ⟨f, e, hf⟩ := key 600000 0 ZF (zs0m.1 7) (by omega) (by unfold ZF; omega) (fun t ht => absurd ht (by omega))
  rw [nI_0, zI_self] at e
  have G1 : FM [] [7] [] zs0m (zI zs0m 7 f) := (FM.refl _).sI (by decide) (by simp) f
  have g0 : ShM (anew 0 2 0 0) (zI zs0m 7 f) := by
    refine ⟨?_, ?_, fun _ => ?_, ?_, fun _ k hk => ?_, fun _ k hk => absurd hk (Nat.not_lt_zero _), fun _ k hk => absurd hk (Nat.not_lt_zero _)⟩
    · rfl
    · rfl
    · rfl
    · rfl
    · have : k = 0 ∨ k = 1 ∨ k = 2 := by omega
      rcases this with rfl | rfl | rfl <;> rfl
  have hpl : Pl 0 (fun _ => 0) (zI zs0m 7 f) := ⟨rfl, by decide, fun i hi => absurd hi (by omega), fun i hi => absurd hi (by omega), fun c hc => Or.inl (by rw [zI_same]; exact hf c hc)⟩
  obtain ⟨s3, e3, g3, t3, G3, -⟩ := pm_layTerms hS hpl g0
  have z12 : s3.1 0 12 = 0 := by rw [G3.o 12 (by decide), G1.o 12 (by decide)]; rfl
  exact ⟨s3, by rw [f_X12_initT, e, e3, km_carry0 z12, zbd_s, zbd_s], ⟨hS, C00_ok, g3, ⟨z12, fun m hm => absurd hm (Nat.not_lt_zero _), fun m hm => absurd hm (Nat.not_lt_zero _), fun m hm => absurd hm (Nat.not_lt_zero _)⟩, t3⟩, (G1.mono (by decide) (by decide) (by decide)).trans (G3.mono (by decide) (by decide) (by decide))⟩
theorem init_all : ∃ (sx sm : SS), f_X11_initT zs0x = some ((), sx) ∧ f_X12_initT zs0m = some ((), sm) ∧ I0 sx sm := by
  obtain ⟨sx, e1, K, F⟩ := init_x
  obtain ⟨sm, e2, L, G⟩ := init_m
  have o : ∀ j, j ≠ 1 → j ≠ 2 → j ≠ 7 → sm.1 0 j = 0 := fun j h1 h2 h7 => by
    rw [G.o j (by simp [h7])]
    show (if j = 1 then (2 : Int32) else if j = 2 then 1 else 0) = 0
    rw [if_neg h1, if_neg h2]
  have x0 : ∀ k j, k ∉ [3, 15, 16, 17, 6, 62, 63, 65, 66, 67, 68] → k ≠ 27 → sx.1 k j = 0 := fun k j hk h27 => by
    rw [F.1 k hk]
    show (if k = 27 then _ else (0 : Int32)) = 0
    rw [if_neg h27]
  refine ⟨sx, sm, e1, e2, anew 0 2 0 0, C00, ⟨K.ok, K.sh, L.sh, K.okC, K.mm, K.cl, L.cl, K.tm, L.tm⟩, Or.inl ⟨x0 0 2 (by decide) (by decide), o 36 (by decide) (by decide) (by decide)⟩, chg_0 (x0 7 4 (by decide) (by decide)) (x0 7 5 (by decide) (by decide)) (o 21 (by decide) (by decide) (by decide)) (o 22 (by decide) (by decide) (by decide)), tap_0 (x0 8 1 (by decide) (by decide)) (o 27 (by decide) (by decide) (by decide)), ⟨0, by decide, x0 10 1 (by decide) (by decide), o 29 (by decide) (by decide) (by decide), fun i hi => absurd hi (by omega)⟩, fun l hl => ⟨0, ?_, ?_, by decide, x0 28 l (by decide) (by decide), ?_, fun _ => rfl, fun i hi => ?_⟩, ⟨0, by decide, x0 12 1 (by decide) (by decide), o 34 (by decide) (by decide) (by decide), fun i hi => absurd hi (by omega)⟩⟩
  · left
    rw [F.1 27 (by decide)]
    show (if l < 3 then (-1 : Int32) else 0) = -1
    rw [if_pos hl]
  · rw [F.1 27 (by decide), G.i 22 (by decide) (by decide)]
    have : l = 0 ∨ l = 1 ∨ l = 2 := by omega
    rcases this with rfl | rfl | rfl <;> rfl
  · rw [G.i 23 (by decide) (by decide)]; rfl
  · rw [G.l 24 (by decide), F.2 (77 + l) (by simp; omega)]; rfl
