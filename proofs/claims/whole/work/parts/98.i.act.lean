section
variable {S : Sh} {C : Cl} {σ σ1 τ τ1 : SS}
def AS (k : Nat) (m : Nat) (f : Nat) (σ : SS) (τ : SS) : Prop :=
  (Trc σ τ) ∧
  (σ.1 12 2 = nI k) ∧
  (σ.1 12 3 = nI m) ∧
  (σ.1 12 4 = nI f) ∧
  (τ.1 8 m = nI k) ∧
  (τ.1 9 m = nI f)
theorem AS.t {k : Nat} {m : Nat} {f : Nat} {σ : SS} {τ : SS} (h : AS k m f σ τ) : Trc σ τ := h.1
theorem AS.ck {k : Nat} {m : Nat} {f : Nat} {σ : SS} {τ : SS} (h : AS k m f σ τ) : σ.1 12 2 = nI k := h.2.1
theorem AS.cn {k : Nat} {m : Nat} {f : Nat} {σ : SS} {τ : SS} (h : AS k m f σ τ) : σ.1 12 3 = nI m := h.2.2.1
theorem AS.cf {k : Nat} {m : Nat} {f : Nat} {σ : SS} {τ : SS} (h : AS k m f σ τ) : σ.1 12 4 = nI f := h.2.2.2.1
theorem AS.mk {k : Nat} {m : Nat} {f : Nat} {σ : SS} {τ : SS} (h : AS k m f σ τ) : τ.1 8 m = nI k := h.2.2.2.2.1
theorem AS.mf {k : Nat} {m : Nat} {f : Nat} {σ : SS} {τ : SS} (h : AS k m f σ τ) : τ.1 9 m = nI f := h.2.2.2.2.2
theorem note_c {k m f : Nat} (A : AS k m f σ τ) (b : Int32) : ∃ σ1 τ1, f_X0_note b σ = some ((), σ1) ∧ f_X12_begins b τ = some ((), τ1) ∧ AS k m f σ1 τ1 ∧ FR [12, 82] [] σ σ1 ∧ FM [34] [25] [] τ τ1 := by
  obtain ⟨l, T⟩ := A.t
  have hl := T.le
  rw [f_X0_note, f_X12_begins, T.mC, T.mM]
  by_cases q : l < 24
  rotate_left
  · have : (24 : Int32) ≤ nI l := nI_le (a := 24) (by omega) (by omega)
    rw [if_pos this, if_pos this]
    exact ⟨σ, τ, rfl, rfl, A, FR.refl σ, FM.refl τ⟩
  have : ¬ (24 : Int32) ≤ nI l := nI_ge (b := 24) q (by decide)
  have z := zin_nI q (show 24 ≤ 2 ^ 31 by decide)
  have c1 : (zS σ 82 l b).1 12 1 = nI l := by rw [zS_1, if_neg (fun q => absurd q.1 (by decide))]; exact T.mC
  have m1 : (zS τ 25 l b).1 0 34 = nI l := by rw [zS_1, if_neg (fun q => absurd q.1 (by decide))]; exact T.mM
  rw [if_neg this, if_neg this, if_pos z, if_pos z, nI_clamp (by omega), c1, m1, nI_1]
  refine ⟨_, _, rfl, rfl, ⟨⟨l + 1, by omega, by rw [zS_1, if_pos ⟨rfl, rfl⟩], by rw [zS_1, if_pos ⟨rfl, rfl⟩], fun i hi => ?_⟩, ?_, ?_, ?_, ?_, ?_⟩, ((FR.refl σ).sS (by simp) _ _).sS (by simp) _ _, ((FM.refl τ).sS (by decide) (by simp) _ _).sO (by simp) _⟩
  · by_cases w : i = l
    · simp [zS_1, w]
    · simp [zS_1, w]; exact T.e i (by omega)
  · simp [zS_1]; exact A.ck
  · simp [zS_1]; exact A.cn
  · simp [zS_1]; exact A.cf
  · simp [zS_1]; exact A.mk
  · simp [zS_1]; exact A.mf
theorem run_g {k a n d B : Nat} {x : Int32} (hq : 3 * k + a < 18) (hB : ztab 3 (nI (3 * k + a)) = nI B) (hd : d ≤ 40) :
    f_X0_run (n + 1) (nI k) (nI a) x (nI d) σ = zbd (f_X0_note (nI B) σ) (fun _ s3 => if (nI B) = 10 then some ((x + (s3.1 12 3)), s3) else if (nI B) = 11 then zbd (f_X0_run n (s3.1 12 2) (0 : Int32) x (nI (d + 1)) s3) (fun r7 s8 => some ((r7 * (2 : Int32)), s8)) else if (nI B) = 12 then zbd (f_X0_run n (s3.1 12 2) (1 : Int32) x (nI (d + 1)) s3) (fun r11 s12 => some ((r11 - (s12.1 12 4)), s12)) else if (nI B) = 20 then zbd (f_X0_run n (0 : Int32) (1 : Int32) x (nI (d + 1)) s3) (fun r15 s16 => some ((r15 ^^^ (3 : Int32)), s16)) else if (nI B) = 30 then zbd (f_X0_run n (0 : Int32) (0 : Int32) x (nI (d + 1)) s3) (fun r19 s20 => some ((-r19), s20)) else if (nI B) = 40 then zbd (f_X0_run n (2 : Int32) (2 : Int32) (x + (1 : Int32)) (nI (d + 1)) s3) (fun r23 s24 => some (r23, s24)) else if (nI B) = 41 then zbd (f_X0_run n (2 : Int32) (0 : Int32) x (nI (d + 1)) s3) (fun r27 s28 => some ((r27 * (3 : Int32)), s28)) else if (nI B) = 50 then zbd (f_X0_run n (0 : Int32) (1 : Int32) x (nI (d + 1)) s3) (fun r31 s32 => zbd (f_X0_run n (s32.1 12 2) (0 : Int32) (2 : Int32) (nI (d + 1)) s32) (fun r34 s35 => some ((r31 + r34), s35))) else if (nI B) = 60 then zbd (f_X0_run n (1 : Int32) (2 : Int32) x (nI (d + 1)) s3) (fun r38 s39 => some ((r38 ^^^ (s39.1 12 4)), s39)) else some (0, s3)) := by
  have e : (3 : Int32) * nI k + nI a = nI (3 * k + a) := by rw [show (3 : Int32) = nI 3 from rfl, pk_mul, nI_add]
  have e1 : (1 : Int32) = nI 1 := rfl
  rw [f_X0_run, if_neg (show ¬ (40 : Int32) < nI d from nI_nlt (b := d) (a := 40) (by omega) (by decide)), e, if_neg (nI_pos (by omega)), if_pos (show nI (3 * k + a) < 18 from nI_lt (b := 18) hq (by decide)), if_pos (zin_nI hq (by decide)), hB, nI_1]
theorem run_10 {k a n d : Nat} {x : Int32} (hq : 3 * k + a < 18) (hB : ztab 3 (nI (3 * k + a)) = nI 10) (hd : d ≤ 40) : f_X0_run (n + 1) (nI k) (nI a) x (nI d) σ = zbd (f_X0_note 10 σ) (fun _ s3 => some ((x + (s3.1 12 3)), s3)) := (run_g hq hB hd).trans rfl
theorem run_11 {k a n d : Nat} {x : Int32} (hq : 3 * k + a < 18) (hB : ztab 3 (nI (3 * k + a)) = nI 11) (hd : d ≤ 40) : f_X0_run (n + 1) (nI k) (nI a) x (nI d) σ = zbd (f_X0_note 11 σ) (fun _ s3 => zbd (f_X0_run n (s3.1 12 2) (nI 0) x (nI (d + 1)) s3) (fun r7 s8 => some ((r7 * (2 : Int32)), s8))) := (run_g hq hB hd).trans rfl
theorem run_12 {k a n d : Nat} {x : Int32} (hq : 3 * k + a < 18) (hB : ztab 3 (nI (3 * k + a)) = nI 12) (hd : d ≤ 40) : f_X0_run (n + 1) (nI k) (nI a) x (nI d) σ = zbd (f_X0_note 12 σ) (fun _ s3 => zbd (f_X0_run n (s3.1 12 2) (nI 1) x (nI (d + 1)) s3) (fun r11 s12 => some ((r11 - (s12.1 12 4)), s12))) := (run_g hq hB hd).trans rfl
theorem run_20 {k a n d : Nat} {x : Int32} (hq : 3 * k + a < 18) (hB : ztab 3 (nI (3 * k + a)) = nI 20) (hd : d ≤ 40) : f_X0_run (n + 1) (nI k) (nI a) x (nI d) σ = zbd (f_X0_note 20 σ) (fun _ s3 => zbd (f_X0_run n (nI 0) (nI 1) x (nI (d + 1)) s3) (fun r15 s16 => some ((r15 ^^^ (3 : Int32)), s16))) := (run_g hq hB hd).trans rfl
theorem run_30 {k a n d : Nat} {x : Int32} (hq : 3 * k + a < 18) (hB : ztab 3 (nI (3 * k + a)) = nI 30) (hd : d ≤ 40) : f_X0_run (n + 1) (nI k) (nI a) x (nI d) σ = zbd (f_X0_note 30 σ) (fun _ s3 => zbd (f_X0_run n (nI 0) (nI 0) x (nI (d + 1)) s3) (fun r19 s20 => some ((-r19), s20))) := (run_g hq hB hd).trans rfl
theorem run_40 {k a n d : Nat} {x : Int32} (hq : 3 * k + a < 18) (hB : ztab 3 (nI (3 * k + a)) = nI 40) (hd : d ≤ 40) : f_X0_run (n + 1) (nI k) (nI a) x (nI d) σ = zbd (f_X0_note 40 σ) (fun _ s3 => zbd (f_X0_run n (nI 2) (nI 2) (x + (1 : Int32)) (nI (d + 1)) s3) (fun r23 s24 => some (r23, s24))) := (run_g hq hB hd).trans rfl
theorem run_41 {k a n d : Nat} {x : Int32} (hq : 3 * k + a < 18) (hB : ztab 3 (nI (3 * k + a)) = nI 41) (hd : d ≤ 40) : f_X0_run (n + 1) (nI k) (nI a) x (nI d) σ = zbd (f_X0_note 41 σ) (fun _ s3 => zbd (f_X0_run n (nI 2) (nI 0) x (nI (d + 1)) s3) (fun r27 s28 => some ((r27 * (3 : Int32)), s28))) := (run_g hq hB hd).trans rfl
theorem run_50 {k a n d : Nat} {x : Int32} (hq : 3 * k + a < 18) (hB : ztab 3 (nI (3 * k + a)) = nI 50) (hd : d ≤ 40) : f_X0_run (n + 1) (nI k) (nI a) x (nI d) σ = zbd (f_X0_note 50 σ) (fun _ s3 => zbd (f_X0_run n (nI 0) (nI 1) x (nI (d + 1)) s3) (fun r31 s32 => zbd (f_X0_run n (s32.1 12 2) (nI 0) (2 : Int32) (nI (d + 1)) s32) (fun r34 s35 => some ((r31 + r34), s35)))) := (run_g hq hB hd).trans rfl
theorem run_60 {k a n d : Nat} {x : Int32} (hq : 3 * k + a < 18) (hB : ztab 3 (nI (3 * k + a)) = nI 60) (hd : d ≤ 40) : f_X0_run (n + 1) (nI k) (nI a) x (nI d) σ = zbd (f_X0_note 60 σ) (fun _ s3 => zbd (f_X0_run n (nI 1) (nI 2) x (nI (d + 1)) s3) (fun r38 s39 => some ((r38 ^^^ (s39.1 12 4)), s39))) := (run_g hq hB hd).trans rfl
/-- MEETS on both sides -/
theorem act_m {k m f : Nat} (hk : k ≤ 5) (hm : m < 8) (A : AS k m f σ τ) (n d : Nat) (x : Int32) (hd : d ≤ 30) : ∃ r σ1 τ1, f_X0_run (n + 3) (nI k) (nI 0) x (nI d) σ = some (r, σ1) ∧ f_X12_meetsBy (nI m) x τ = some (r, τ1) ∧ AS k m f σ1 τ1 ∧ FR [12, 82] [] σ σ1 ∧ FM [34] [25] [] τ τ1 := by
  have z := zin_nI hm (show 8 ≤ 2 ^ 31 by decide)
  have hk' : (k = 0 ∨ k = 1 ∨ k = 3 ∨ k = 5) ∨ k = 2 ∨ k = 4 := by omega
  rw [f_X12_meetsBy, if_pos z, nI_clamp (by omega), A.mk]
  simp only [f_X12_meetsBy_c18, f_X12_meetsBy_c28, f_X12_meetsBy_c34, f_X12_meetsBy_c55, f_X12_meetsBy_c63]
  rcases hk' with h | rfl | rfl
  · obtain ⟨σ1, τ1, e1, e2, A1, F1, G1⟩ := note_c A 10
    have n2 : ¬ nI k = 2 := by rcases h with rfl | rfl | rfl | rfl <;> decide
    have n4 : ¬ nI k = 4 := by rcases h with rfl | rfl | rfl | rfl <;> decide
    rw [run_10 (by omega) (by rcases h with rfl | rfl | rfl | rfl <;> rfl) (by omega), e1, zbd_s, A1.cn, if_neg n4, if_neg n2, if_neg n4, e2, zbd_s, if_neg n2, if_neg n4, if_neg n4]
    exact ⟨_, _, _, rfl, rfl, A1, F1, G1⟩
  · obtain ⟨σ1, τ1, e1, e2, A1, F1, G1⟩ := note_c A 30
    obtain ⟨σ2, τ2, e3, e4, A2, F2, G2⟩ := note_c A1 10
    rw [run_30 (by decide) rfl (by omega), e1, zbd_s, run_10 (by decide) rfl (by omega), e3, zbd_s, A2.cn, zbd_s, if_neg (show ¬ nI 2 = 4 by decide), if_pos (show nI 2 = 2 from rfl), e2, zbd_s, e4, zbd_s, if_pos (show nI 2 = 2 from rfl), if_neg (show ¬ nI 2 = 4 by decide)]
    exact ⟨_, _, _, rfl, rfl, A2, F1.trans F2, G1.trans G2⟩
  · obtain ⟨σ1, τ1, e1, e2, A1, F1, G1⟩ := note_c A 41
    obtain ⟨σ2, τ2, e3, e4, A2, F2, G2⟩ := note_c A1 30
    obtain ⟨σ3, τ3, e5, e6, A3, F3, G3⟩ := note_c A2 10
    rw [run_41 (by decide) rfl (by omega), e1, zbd_s, run_30 (by decide) rfl (by omega), e3, zbd_s, run_10 (by decide) rfl (by omega), e5, zbd_s, A3.cn, zbd_s, zbd_s, if_pos (show nI 4 = 4 from rfl), e2, zbd_s, if_neg (show ¬ nI 4 = 2 by decide), if_pos (show nI 4 = 4 from rfl), e4, zbd_s, e6, zbd_s, if_neg (show ¬ nI 4 = 2 by decide), if_pos (show nI 4 = 4 from rfl), if_pos (show nI 4 = 4 from rfl)]
    exact ⟨_, _, _, rfl, rfl, A3, (F1.trans F2).trans F3, (G1.trans G2).trans G3⟩
/-- TURNS on both sides -/
theorem act_t {k m f : Nat} (hk : k ≤ 5) (hm : m < 8) (A : AS k m f σ τ) (n d : Nat) (x : Int32) (hd : d ≤ 20) : ∃ r σ1 τ1, f_X0_run (n + 5) (nI k) (nI 1) x (nI d) σ = some (r, σ1) ∧ f_X12_turnsBy (nI m) x τ = some (r, τ1) ∧ AS k m f σ1 τ1 ∧ FR [12, 82] [] σ σ1 ∧ FM [34] [25] [] τ τ1 := by
  have z := zin_nI hm (show 8 ≤ 2 ^ 31 by decide)
  have hk' : (k = 0 ∨ k = 2 ∨ k = 4) ∨ (k = 1 ∨ k = 5) ∨ k = 3 := by omega
  rw [f_X12_turnsBy, if_pos z, nI_clamp (by omega), A.mk]
  simp only [f_X12_turnsBy_c17, f_X12_turnsBy_c23, f_X12_turnsBy_c34]
  rcases hk' with h | h | rfl
  · obtain ⟨σ1, τ1, e1, e2, A1, F1, G1⟩ := note_c A 11
    obtain ⟨r, σ2, τ2, e3, e4, A2, F2, G2⟩ := act_m hk hm A1 (n + 1) (d + 1) x (by omega)
    have n1 : ¬ nI k = 1 := by rcases h with rfl | rfl | rfl <;> decide
    have n5 : ¬ nI k = 5 := by rcases h with rfl | rfl | rfl <;> decide
    have n3' : ¬ nI k = 3 := by rcases h with rfl | rfl | rfl <;> decide
    rw [run_11 (by omega) (by rcases h with rfl | rfl | rfl <;> rfl) (by omega), e1, zbd_s, A1.ck, e3, zbd_s, if_neg n1, if_neg n5, if_neg n3', e2, zbd_s, e4, zbd_s, if_neg n1, if_neg n5, if_neg n3']
    exact ⟨_, _, _, rfl, rfl, A2, F1.trans F2, G1.trans G2⟩
  · obtain ⟨σ0, τ0, e5, e6, A0, F0, G0⟩ := note_c A 20
    obtain ⟨σ1, τ1, e1, e2, A1, F1, G1⟩ := note_c A0 11
    obtain ⟨r, σ2, τ2, e3, e4, A2, F2, G2⟩ := act_m hk hm A1 n (d + 1 + 1) x (by omega)
    have n3' : ¬ nI k = 3 := by rcases h with rfl | rfl <;> decide
    rw [run_20 (by omega) (by rcases h with rfl | rfl <;> rfl) (by omega), e5, zbd_s, run_11 (by decide) rfl (by omega), e1, zbd_s, A1.ck, e3, zbd_s, zbd_s]
    have hh : ∀ (P Q : Option (Int32 × SS)), (if nI k = 1 then P else if nI k = 5 then P else Q) = P := fun P Q => by
      rcases h with rfl | rfl
      · exact if_pos rfl
      · rw [if_neg (show ¬ nI 5 = 1 by decide)]; exact if_pos rfl
    rw [hh, e6, zbd_s, if_neg n3', e2, zbd_s, e4, zbd_s, hh]
    exact ⟨_, _, _, rfl, rfl, A2, (F0.trans F1).trans F2, (G0.trans G1).trans G2⟩
  · obtain ⟨σ0, τ0, e5, e6, A0, F0, G0⟩ := note_c A 50
    obtain ⟨σ1, τ1, e1, e2, A1, F1, G1⟩ := note_c A0 11
    obtain ⟨r, σ2, τ2, e3, e4, A2, F2, G2⟩ := act_m hk hm A1 n (d + 1 + 1) x (by omega)
    obtain ⟨r', σ3, τ3, e7, e8, A3, F3, G3⟩ := act_m hk hm A2 (n + 1) (d + 1) 2 (by omega)
    rw [run_50 (by decide) rfl (by omega), e5, zbd_s, run_11 (by decide) rfl (by omega), e1, zbd_s, A1.ck, e3, zbd_s, zbd_s, A2.ck, e7, zbd_s, if_neg (show ¬ nI 3 = 1 by decide), if_neg (show ¬ nI 3 = 5 by decide), if_pos (show nI 3 = 3 from rfl), e6, zbd_s, e2, zbd_s, e4, zbd_s, if_neg (show ¬ nI 3 = 1 by decide), if_neg (show ¬ nI 3 = 5 by decide), if_pos (show nI 3 = 3 from rfl), e8, zbd_s]
    exact ⟨_, _, _, rfl, rfl, A3, ((F0.trans F1).trans F2).trans F3, ((G0.trans G1).trans G2).trans G3⟩
/-- TELLS on both sides -/
theorem act_e {k m f : Nat} (hk : k ≤ 5) (hm : m < 8) (A : AS k m f σ τ) (n d : Nat) (x : Int32) (hd : d ≤ 10) : ∃ r σ1 τ1, f_X0_run (n + 7) (nI k) (nI 2) x (nI d) σ = some (r, σ1) ∧ f_X12_tellsBy (nI m) x τ = some (r, τ1) ∧ AS k m f σ1 τ1 ∧ FR [12, 82] [] σ σ1 ∧ FM [34] [25] [] τ τ1 := by
  have z := zin_nI hm (show 8 ≤ 2 ^ 31 by decide)
  have hk' : (k = 0 ∨ k = 1 ∨ k = 2 ∨ k = 3) ∨ k = 4 ∨ k = 5 := by omega
  rw [f_X12_tellsBy, if_pos z, nI_clamp (by omega), A.mk]
  simp only [f_X12_tellsBy_c18, f_X12_tellsBy_c29, f_X12_tellsBy_c49, z, if_true, nI_clamp (show m < 2 ^ 31 by omega)]
  rcases hk' with h | rfl | rfl
  · obtain ⟨σ1, τ1, e1, e2, A1, F1, G1⟩ := note_c A 12
    obtain ⟨r, σ2, τ2, e3, e4, A2, F2, G2⟩ := act_t hk hm A1 (n + 1) (d + 1) x (by omega)
    have n4 : ¬ nI k = 4 := by rcases h with rfl | rfl | rfl | rfl <;> decide
    have n5 : ¬ nI k = 5 := by rcases h with rfl | rfl | rfl | rfl <;> decide
    rw [run_12 (by omega) (by rcases h with rfl | rfl | rfl | rfl <;> rfl) (by omega), e1, zbd_s, A1.ck, e3, zbd_s, A2.cf, if_neg n4, if_neg n5, e2, zbd_s, if_neg n4, e4, zbd_s, if_neg n5, A2.mf]
    exact ⟨_, _, _, rfl, rfl, A2, F1.trans F2, G1.trans G2⟩
  · obtain ⟨σ0, τ0, e5, e6, A0, F0, G0⟩ := note_c A 40
    obtain ⟨σ1, τ1, e1, e2, A1, F1, G1⟩ := note_c A0 12
    obtain ⟨r, σ2, τ2, e3, e4, A2, F2, G2⟩ := act_t hk hm A1 n (d + 1 + 1) (x + 1) (by omega)
    rw [run_40 (by decide) rfl (by omega), e5, zbd_s, run_12 (by decide) rfl (by omega), e1, zbd_s, A1.ck, e3, zbd_s, A2.cf, zbd_s, if_pos (show nI 4 = 4 from rfl), e6, zbd_s, if_neg (show ¬ nI 4 = 5 by decide), e2, zbd_s, if_pos (show nI 4 = 4 from rfl), e4, zbd_s, if_neg (show ¬ nI 4 = 5 by decide), A2.mf]
    exact ⟨_, _, _, rfl, rfl, A2, (F0.trans F1).trans F2, (G0.trans G1).trans G2⟩
  · obtain ⟨σ0, τ0, e5, e6, A0, F0, G0⟩ := note_c A 60
    obtain ⟨σ1, τ1, e1, e2, A1, F1, G1⟩ := note_c A0 12
    obtain ⟨r, σ2, τ2, e3, e4, A2, F2, G2⟩ := act_t hk hm A1 n (d + 1 + 1) x (by omega)
    rw [run_60 (by decide) rfl (by omega), e5, zbd_s, run_12 (by decide) rfl (by omega), e1, zbd_s, A1.ck, e3, zbd_s, A2.cf, zbd_s, A2.cf, if_neg (show ¬ nI 5 = 4 by decide), if_pos (show nI 5 = 5 from rfl), e6, zbd_s, e2, zbd_s, if_neg (show ¬ nI 5 = 4 by decide), e4, zbd_s, if_pos (show nI 5 = 5 from rfl), A2.mf]
    exact ⟨_, _, _, rfl, rfl, A2, (F0.trans F1).trans F2, (G0.trans G1).trans G2⟩
theorem s_act (x y v : Int32) (h : I0 σ τ) : ∃ r σ1 τ1, f_X11_act x y v σ = some (r, σ1) ∧ f_X12_act x y v τ = some (r, τ1) ∧ I0 σ1 τ1 := by
  obtain ⟨S, C, h⟩ := h
  have K := h.kc
  have L := h.km
  rw [f_X11_act, f_X12_act]
  rcases cls_cases K.okC x with e | ⟨m, hm, h8, rfl, e⟩
  · rw [K.clN e, zbd_s, zbn_n, L.isN e, zbd_s]
    exact ex0 h.i0 _ rfl (if_pos rfl)
  rw [K.clS e, zbd_s, zbn_s, if_pos (ZOx_k (by omega)).1, L.isS e, zbd_s, if_neg n10, pm_in32 y 0 2 0 2 rfl rfl, zbd_s]
  rcases rng y 0 2 0 2 rfl rfl (by decide) (by decide) with ⟨q2, a, ha, rfl, -, ha2⟩ | q2
  rotate_left
  · rw [if_neg q2]
    refine ex0 h.i0 0 ?_ (if_pos rfl)
    by_cases w : y < 0
    · exact if_pos w
    · rw [if_neg w, if_neg (fun v => q2 ⟨Int32.not_lt.mp w, v⟩)]
  rw [if_neg (Int32.not_lt.mpr q2.1), if_pos q2.2, if_pos q2, if_neg n10]
  have hk := K.okC.k5 m
  have ckd := K.cl.kd m hm
  have cfg := K.cl.fg m hm
  have hred : f_X0_begin (30 + m) (nI m) (nI a) v σ = zbd (f_X0_run 10 (nI (C.kd m)) (nI a) v (nI 0) (zS (zS (zS (zS σ 12 1 0) 12 2 (nI (C.kd m))) 12 3 (nI m)) 12 4 (nI (C.fg m)))) (fun r1 s2 => some (r1, s2)) := by
    have c1 : (zS σ 12 1 0).1 (30 + m) 0 = nI (C.kd m) := by rw [zS_1, if_neg (by omega)]; exact ckd
    have c2 : (zS (zS (zS σ 12 1 0) 12 2 (nI (C.kd m))) 12 3 (nI m)).1 (30 + m) 1 = nI (C.fg m) := by rw [zS_1, if_neg (by omega), zS_1, if_neg (by omega), zS_1, if_neg (by omega)]; exact cfg
    have c3 : (zS (zS (zS (zS σ 12 1 0) 12 2 (nI (C.kd m))) 12 3 (nI m)) 12 4 (nI (C.fg m))).1 12 2 = nI (C.kd m) := by simp [zS_1]
    rw [f_X0_begin, if_pos (ZOx_k (by omega)).1, c1, c2, c3]
    rfl
  have F0 : FR [12, 82] [] σ (zS (zS (zS (zS σ 12 1 0) 12 2 (nI (C.kd m))) 12 3 (nI m)) 12 4 (nI (C.fg m))) := ((((FR.refl σ).sS (by simp) _ _).sS (by simp) _ _).sS (by simp) _ _).sS (by simp) _ _
  have G0 : FM [34] [25] [] τ (zS τ 0 34 0) := (FM.refl τ).sO (by simp) _
  have A : AS (C.kd m) m (C.fg m) (zS (zS (zS (zS σ 12 1 0) 12 2 (nI (C.kd m))) 12 3 (nI m)) 12 4 (nI (C.fg m))) (zS τ 0 34 0) := by
    refine ⟨⟨0, by decide, by simp [zS_1]; rfl, by simp [zS_1]; rfl, fun i hi => absurd hi (by omega)⟩, by simp [zS_1], by simp [zS_1], by simp [zS_1], ?_, ?_⟩
    · rw [G0.i 8 (by decide) (by decide)]; exact L.cl.kd m hm
    · rw [G0.i 9 (by decide) (by decide)]; exact L.cl.fg m hm
  have fin : ∀ {r : Int32} {σ1 τ1 : SS}, AS (C.kd m) m (C.fg m) σ1 τ1 → FR [12, 82] [] (zS (zS (zS (zS σ 12 1 0) 12 2 (nI (C.kd m))) 12 3 (nI m)) 12 4 (nI (C.fg m))) σ1 → FM [34] [25] [] (zS τ 0 34 0) τ1 → ∃ (r' : Int32) (σ2 τ2 : SS), zbd (zbd (some (r, σ1)) (fun (r1 : Int32) s2 => some (r1, s2))) (fun (r6 : Int32) s7 => some (r6, s7)) = some (r', σ2) ∧ zbd (some (r, τ1)) (fun (r13 : Int32) s14 => some (r13, s14)) = some (r', τ2) ∧ I0 σ2 τ2 := by
    intro r σ1 τ1 A1 F1 G1
    have FF := F0.trans F1
    have GG := G0.trans G1
    exact ⟨r, σ1, τ1, rfl, rfl, S, C, ⟨h.core.fr2 FF GG (by decide) (by decide) (by decide) (by decide) (by decide), h.img.fr2 FF GG (by decide) (by decide) (by decide) (by decide) (by decide), h.chg.fr FF GG (by decide) (by decide) (by decide), h.tap.fr FF GG (by decide) (by decide) (by decide) (by decide), h.pap.fr FF GG (by decide) (by decide) (by decide) (by decide), h.lis.fr FF GG (by decide) (by decide) (fun m hm => by simp) (by decide) (by decide) (by decide), A1.t⟩⟩
  rw [hred]
  have ha3 : a = 0 ∨ a = 1 ∨ a = 2 := by omega
  rcases ha3 with rfl | rfl | rfl
  · obtain ⟨r, σ1, τ1, e1, e2, A1, F1, G1⟩ := act_m hk h8 A 7 0 v (by decide)
    rw [if_pos (show nI 0 = 0 from rfl), e1, e2]
    exact fin A1 F1 G1
  · obtain ⟨r, σ1, τ1, e1, e2, A1, F1, G1⟩ := act_t hk h8 A 5 0 v (by decide)
    rw [if_neg (show ¬ nI 1 = 0 by decide), if_pos (show nI 1 = 1 from rfl), e1, e2]
    exact fin A1 F1 G1
  · obtain ⟨r, σ1, τ1, e1, e2, A1, F1, G1⟩ := act_e hk h8 A 3 0 v (by decide)
    rw [if_neg (show ¬ nI 2 = 0 by decide), if_neg (show ¬ nI 2 = 1 by decide), e1, e2]
    exact fin A1 F1 G1
end
