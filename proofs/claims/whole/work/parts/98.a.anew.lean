abbrev WA : List Nat := [1, 3, 7, 15, 16, 17, 6, 62, 63, 65, 66, 67, 68, 9, 26, 74, 75, 76, 81, 30, 31, 32, 33, 34, 35, 36, 37]
abbrev WB : List Nat := [64, 46, 47, 48, 49, 50, 51, 52, 53, 21, 22, 23, 24, 25]
abbrev WJ : List Nat := [0, 1, 2, 4, 7, 12, 21, 22, 51, 52, 53, 54, 58]
abbrev WM : List Nat := [1, 2, 3, 4, 5, 7, 8, 9, 12, 32, 35, 36, 37, 38]
abbrev WN : List Nat := [6, 10, 11, 13, 14, 15, 33, 34, 39]
section
variable {S S1 : Sh} {C C1 : Cl} {σ σ1 τ τ1 : SS}
/-- another space, other classes -/
theorem Inv.core1 (h : Inv S C σ τ) (hF : FR WA WB σ σ1) (hG : FM WJ WM WN τ τ1) (K : KC S1 C1 σ1) (L : KM S1 C1 τ1) (g : Chg C1.mm σ1 τ1) : Inv S1 C1 σ1 τ1 :=
  ⟨⟨K.ok, K.sh, L.sh, K.okC, K.mm, K.cl, L.cl, K.tm, L.tm⟩,
    h.img.fr2 hF hG (by decide) (by decide) (by decide) (by decide) (by decide), g, h.tap.fr hF hG (by decide) (by decide) (by decide) (by decide), h.pap.fr hF hG (by decide) (by decide) (by decide) (by decide), h.lis.fr hF hG (by decide) (by decide) (fun m hm => by simp; omega) (by decide) (by decide) (by decide), h.trc.fr hF hG (by decide) (by decide) (by decide) (by decide)⟩
theorem TmM.pl (hS : ShOk S) (h : TmM S τ) : Pl S.M S.c τ :=
  ⟨h.M, (cM_pos hS.ln).2, h.code, fun i hi => (cd_lt hS.ln hi).1, fun c hc => by
    rw [h.place c hc]
    cases e : pos S.L S.n c with
    | none => exact Or.inl rfl
    | some i => exact Or.inr ⟨i, ((pos_iff hS.ln).mp e).1, ((pos_iff hS.ln).mp e).2⟩⟩
theorem km_carry0 (h : τ.1 0 12 = 0) (x : Int32) : f_X12_carry x τ = some ((), τ) := by
  rw [f_X12_carry, show ZF = (9999999 + 1) from rfl, f_X12_carry_c2, h, if_pos (by decide)]
/-! ===== a space ANEW ===== -/
def anew (so a b c : Nat) : Sh := ((so, 1 + (if b = 0 then 0 else 1) + (if c = 0 then 0 else 1), 0), (fun k => if k = 0 then a else if k = 1 then b else if k = 2 then c else 0), (fun _ => 0), fun _ => 0)
theorem le0_iff {b : Nat} (hb : b ≤ 5) : nI b ≤ 0 ↔ b = 0 := by
  have : ∀ b, b ≤ 5 → (nI b ≤ 0 ↔ b = 0) := by decide
  exact this b hb
def bcm (σ : SS) (so f a b c : Nat) : SS := zI (zI (zS (zS (zS (zS (zS (zS σ 3 0 (nI so)) 3 2 0) 3 1 (nI f)) 15 0 (nI a)) 15 1 (nI b)) 15 2 (nI c)) 16 (fun j => if j < 3 then 0 else σ.1 16 j)) 17 (fun j => if j < 3 then 0 else σ.1 17 j)
theorem p_bcm {so a b c : Nat} (hb : b ≤ 5) (hc : c ≤ 5) : f_X7_become 3 (nI so) (nI a) (nI b) (nI c) σ = some ((), bcm σ so (1 + (if b = 0 then 0 else 1) + (if c = 0 then 0 else 1)) a b c) := by
  have z : zis Ox 7 3 = true := rfl
  have key : ∀ x : Int32, ∀ f, x = nI f → f_X7_become_c32 3 (nI a) (nI b) (nI c) 0 x 3 (zS (zS σ 3 0 (nI so)) 3 2 0) = some ((), bcm σ so f a b c) := by
    intro x f hx
    rw [f_X7_become_c32, if_pos z, if_pos z, show zrf Ox 3 3 = 15 from rfl, show zrf Ox 3 4 = 16 from rfl, show zrf Ox 3 5 = 17 from rfl, if_pos (show zok Ox 0 15 0 = true from rfl), if_pos (show zok Ox 0 15 1 = true from rfl), if_pos (show zok Ox 0 15 2 = true from rfl), p_fillI 0 (show Ox 16 = .inr (0, 3, []) from rfl) (by decide), zbd_s, p_fillI 0 (show Ox 17 = .inr (0, 3, []) from rfl) (by decide), zbd_s, hx, Int32.add_zero]
    rfl
  have key1 : ∀ x : Int32, ∀ f, x + 1 = nI f → f_X7_become_c32 3 (nI a) (nI b) (nI c) 1 x 3 (zS (zS σ 3 0 (nI so)) 3 2 0) = some ((), bcm σ so f a b c) := by
    intro x f hx
    rw [f_X7_become_c32, if_pos z, if_pos z, show zrf Ox 3 3 = 15 from rfl, show zrf Ox 3 4 = 16 from rfl, show zrf Ox 3 5 = 17 from rfl, if_pos (show zok Ox 0 15 0 = true from rfl), if_pos (show zok Ox 0 15 1 = true from rfl), if_pos (show zok Ox 0 15 2 = true from rfl), p_fillI 0 (show Ox 16 = .inr (0, 3, []) from rfl) (by decide), zbd_s, p_fillI 0 (show Ox 17 = .inr (0, 3, []) from rfl) (by decide), zbd_s, hx]
    rfl
  rw [f_X7_become, if_pos z]
  simp only [f_X7_become_c21, z, if_true]
  by_cases q : b = 0
  · rw [if_pos ((le0_iff hb).mpr q), if_pos q]
    by_cases w : c = 0
    · rw [if_pos ((le0_iff hc).mpr w), if_pos w]; exact key _ 1 rfl
    · rw [if_neg (fun v => w ((le0_iff hc).mp v)), if_neg w]; exact key1 _ 2 rfl
  · rw [if_neg (fun v => q ((le0_iff hb).mp v)), if_neg q]
    by_cases w : c = 0
    · rw [if_pos ((le0_iff hc).mpr w), if_pos w]; exact key _ 2 rfl
    · rw [if_neg (fun v => w ((le0_iff hc).mp v)), if_neg w]; exact key1 _ 3 rfl
theorem anew_ok {so a b c : Nat} (h : (so = 0 ∧ 1 ≤ a ∧ a + b + c ≤ 5 ∧ (b = 0 → c = 0)) ∨ (so = 1 ∧ a = 3 ∧ b = 0 ∧ c = 0) ∨ (so = 2 ∧ a = 5 ∧ b = 0 ∧ c = 0)) : ShOk (anew so a b c) := by
  have hf : (anew so a b c).f = 1 + (if b = 0 then 0 else 1) + (if c = 0 then 0 else 1) := rfl
  have hso : (anew so a b c).so = so := rfl
  have hn : (anew so a b c).n = a + b + c := rfl
  refine ⟨by rw [hso]; omega, by rw [hf]; omega, by rw [hf]; split <;> split <;> omega, Nat.zero_le _, by rw [hn]; omega, fun k hk => ?_, fun k hk => ?_, fun _ => Nat.zero_le _, fun _ => Nat.zero_le _, fun q => ?_, fun _ _ => ⟨rfl, rfl⟩, fun q => ?_, fun q => ?_⟩
  · show 1 ≤ (if k = 0 then a else if k = 1 then b else if k = 2 then c else 0)
    rw [hf] at hk
    split at hk <;> split at hk <;> (by_cases k0 : k = 0 <;> by_cases k1 : k = 1 <;> by_cases k2 : k = 2 <;> simp [k0, k1, k2] <;> omega)
  · show (if k = 0 then a else if k = 1 then b else if k = 2 then c else 0) = 0
    rw [hf] at hk
    split at hk <;> split at hk <;> (by_cases k0 : k = 0 <;> by_cases k1 : k = 1 <;> by_cases k2 : k = 2 <;> simp [k0, k1, k2] <;> omega)
  · rw [hso] at q
    rw [hf, if_pos (by omega), if_pos (by omega)]
  · rw [hso] at q
    show a = 3
    omega
  · rw [hso] at q
    show a = 5 ∧ 0 = 0
    omega
def cl0 (C : Cl) : Cl := (0, C.kd, C.fg, C.tl)
theorem cl0_ok (h : ClOk C) : ClOk (cl0 C) := ⟨Nat.zero_le _, h.k5, h.f9⟩
/-- both sides begin anew -/
theorem anew_key (h : Inv S C σ τ) {so a b c : Nat} (hok : (so = 0 ∧ 1 ≤ a ∧ a + b + c ≤ 5 ∧ (b = 0 → c = 0)) ∨ (so = 1 ∧ a = 3 ∧ b = 0 ∧ c = 0) ∨ (so = 2 ∧ a = 5 ∧ b = 0 ∧ c = 0)) {τ0 : SS} (hG : FM [2] [1] [] τ τ0) (h2 : so = 0 → τ0.1 0 2 = nI (anew so a b c).f) (hd : so = 0 → ∀ k, k < 3 → τ0.1 1 k = nI ((anew so a b c).dm k)) :
    ∃ σ1 τ1, f_X11_makeAnew (nI so) (nI a) (nI b) (nI c) σ = some (nI (a + b + c), σ1) ∧ f_X12_begin (nI so) (nI (a + b + c)) τ0 = some (nI (a + b + c), τ1) ∧ I0 σ1 τ1 := by
  have K := h.kc
  have L := h.km
  have hS := anew_ok hok
  have hb5 : b ≤ 5 := by omega
  have hc5 : c ≤ 5 := by omega
  generalize hf : 1 + (if b = 0 then 0 else 1) + (if c = 0 then 0 else 1) = f at *
  have F1 : FR [3, 15, 16, 17] [] σ (bcm σ so f a b c) := ((((((((FR.refl σ).sS (by simp) _ _).sS (by simp) _ _).sS (by simp) _ _).sS (by simp) _ _).sS (by simp) _ _).sS (by simp) _ _).sI (by simp) _).sI (by simp) _
  have c0 : ShC (anew so a b c) 3 15 (bcm σ so f a b c) := by
    refine ⟨?_, ?_, ?_, fun k hk => ?_, fun k hk => ?_, fun k hk => ?_⟩
    · show _ = nI so
      simp [bcm, zI_1, zS_1]
    · show _ = nI (1 + (if b = 0 then 0 else 1) + (if c = 0 then 0 else 1))
      rw [hf]
      simp [bcm, zI_1, zS_1]
    · show _ = nI 0
      simp [bcm, zI_1, zS_1]; rfl
    · show _ = nI (if k = 0 then a else if k = 1 then b else if k = 2 then c else 0)
      have : k = 0 ∨ k = 1 ∨ k = 2 := by omega
      rcases this with rfl | rfl | rfl <;> simp [bcm, zI_1, zS_1]
    · show _ = nI 0
      simp [bcm, zI_1, zS_1, hk]; rfl
    · show _ = nI 0
      simp [bcm, zI_1, zS_1, hk]; rfl
  have F2 : FR [1] [] (bcm σ so f a b c) (zS (bcm σ so f a b c) 1 2 0) := (FR.refl _).sS (by simp) _ _
  have c1 := c0.fr F2 (by decide) (by decide) (by decide) (by decide)
  obtain ⟨σ2, e1, t1, F3⟩ := p_layOut hS c1
  have c2 := c1.fr F3 (by decide) (by decide) (by decide) (by decide)
  have F4 : FR [7] [] σ2 (zS (zS σ2 7 4 0) 7 5 0) := ((FR.refl _).sS (by simp) _ _).sS (by simp) _ _
  have c3 := c2.fr F4 (by decide) (by decide) (by decide) (by decide)
  have hn : (anew so a b c).n = a + b + c := rfl
  have FF : FR WA WB σ (zS (zS σ2 7 4 0) 7 5 0) := (((F1.mono (by decide) (by decide)).trans (F2.mono (by decide) (by decide))).trans (F3.mono (by decide) (by decide))).trans (F4.mono (by decide) (by decide))
  have G1 : FM [0, 1, 4, 12, 21, 22] [] [] τ0 (zS (zS (zS (zS (zS (zS τ0 0 0 (nI so)) 0 1 (nI (a + b + c))) 0 4 0) 0 12 0) 0 21 0) 0 22 0) := ((((((FM.refl _).sO (by simp) _).sO (by simp) _).sO (by simp) _).sO (by simp) _).sO (by simp) _).sO (by simp) _
  have g0 : ShM (anew so a b c) (zS (zS (zS (zS (zS (zS τ0 0 0 (nI so)) 0 1 (nI (a + b + c))) 0 4 0) 0 12 0) 0 21 0) 0 22 0) := by
    refine ⟨?_, ?_, fun q => ?_, ?_, fun q k hk => ?_, fun q k hk => absurd hk (Nat.not_lt_zero _), fun q k hk => absurd hk (Nat.not_lt_zero _)⟩
    · show _ = nI so
      simp [zS_1]
    · show _ = nI (a + b + c)
      simp [zS_1]
    · rw [G1.o 2 (by decide)]; exact h2 q
    · show _ = nI 0
      simp [zS_1]; rfl
    · rw [G1.i 1 (by decide) (by decide)]; exact hd q k hk
  have e12 : (zS (zS (zS (zS (zS (zS τ0 0 0 (nI so)) 0 1 (nI (a + b + c))) 0 4 0) 0 12 0) 0 21 0) 0 22 0).1 0 12 = 0 := by simp [zS_1]
  have e21 : (zS (zS (zS (zS (zS (zS τ0 0 0 (nI so)) 0 1 (nI (a + b + c))) 0 4 0) 0 12 0) 0 21 0) 0 22 0).1 0 21 = 0 := by simp [zS_1]
  have e22 : (zS (zS (zS (zS (zS (zS τ0 0 0 (nI so)) 0 1 (nI (a + b + c))) 0 4 0) 0 12 0) 0 21 0) 0 22 0).1 0 22 = 0 := by simp [zS_1]
  have hpl : Pl S.M S.c (zS (zS (zS (zS (zS (zS τ0 0 0 (nI so)) 0 1 (nI (a + b + c))) 0 4 0) 0 12 0) 0 21 0) 0 22 0) := TmM.pl K.ok ((L.tm.fm hG (by decide) (by decide) (by decide) (by decide) (by decide)).fm G1 (by decide) (by decide) (by decide) (by decide) (by decide))
  have hb : f_X12_begin (nI so) (nI (a + b + c)) τ0 = zbd (f_X12_layTerms (zS (zS (zS (zS (zS (zS τ0 0 0 (nI so)) 0 1 (nI (a + b + c))) 0 4 0) 0 12 0) 0 21 0) 0 22 0)) (fun _ s5 => some (nI (a + b + c), s5)) := by
    rw [f_X12_begin, f_X12_forget, zbd_s]
  generalize hτ : zS (zS (zS (zS (zS (zS τ0 0 0 (nI so)) 0 1 (nI (a + b + c))) 0 4 0) 0 12 0) 0 21 0) 0 22 0 = τ2 at *
  obtain ⟨τ3, e3, g1, t2, G2, -⟩ := pm_layTerms hS hpl g0
  have GG : FM WJ WM WN τ τ3 := ((hG.mono (by decide) (by decide) (by decide)).trans (G1.mono (by decide) (by decide) (by decide))).trans (G2.mono (by decide) (by decide) (by decide))
  have mm0 : (zS (zS σ2 7 4 0) 7 5 0).1 1 2 = nI (cl0 C).mm := by
    rw [F4.1 1 (by decide), F3.1 1 (by decide), zS_1, if_pos ⟨rfl, rfl⟩]; rfl
  refine ⟨_, τ3, ?_, ?_, anew so a b c, cl0 C, h.core1 FF GG ⟨hS, cl0_ok K.okC, c3, mm0, ⟨fun m hm => absurd hm (Nat.not_lt_zero _), fun m hm => absurd hm (Nat.not_lt_zero _), fun m hm => absurd hm (Nat.not_lt_zero _)⟩, t1.fr F4 (by decide) (by decide) (by decide) (by decide) (by decide) (by decide) (by decide)⟩
    ⟨hS, cl0_ok K.okC, g1, ⟨by rw [G2.o 12 (by decide), e12]; rfl, fun m hm => absurd hm (Nat.not_lt_zero _), fun m hm => absurd hm (Nat.not_lt_zero _), fun m hm => absurd hm (Nat.not_lt_zero _)⟩, t2⟩ (chg_0 (by simp [zS_1]) (by simp [zS_1]) (by rw [G2.o 21 (by decide), e21]) (by rw [G2.o 22 (by decide), e22]))⟩
  · rw [f_X11_makeAnew, p_bcm hb5 hc5, hf, zbd_s, e1, zbd_s, f_X1_forget, zbd_s, p_dim (Or.inl rfl) c3, zbd_s, hn]
  · rw [hb, e3, km_carry0 (by rw [G2.o 12 (by decide), e12]), zbd_s, zbd_s]
theorem s_curved (h : I0 σ τ) : ∃ r σ1 τ1, f_X11_curved σ = some (r, σ1) ∧ f_X12_curved τ = some (r, τ1) ∧ I0 σ1 τ1 := by
  obtain ⟨S, C, h⟩ := h
  obtain ⟨σ1, τ1, e1, e2, hI⟩ := anew_key h (so := 1) (a := 3) (b := 0) (c := 0) (by decide) (FM.refl τ) (fun q => absurd q (by decide)) (fun q => absurd q (by decide))
  have e1' : f_X11_makeAnew 1 3 0 0 σ = some (nI (3 + 0 + 0), σ1) := e1
  have e2' : f_X12_begin 1 3 τ = some (nI (3 + 0 + 0), τ1) := e2
  exact ⟨_, σ1, τ1, by rw [f_X11_curved, e1', zbd_s], by rw [f_X12_curved, e2', zbd_s], hI⟩
theorem s_conics (h : I0 σ τ) : ∃ r σ1 τ1, f_X11_conics σ = some (r, σ1) ∧ f_X12_conics τ = some (r, τ1) ∧ I0 σ1 τ1 := by
  obtain ⟨S, C, h⟩ := h
  obtain ⟨σ1, τ1, e1, e2, hI⟩ := anew_key h (so := 2) (a := 5) (b := 0) (c := 0) (by decide) (FM.refl τ) (fun q => absurd q (by decide)) (fun q => absurd q (by decide))
  have e1' : f_X11_makeAnew 2 5 0 0 σ = some (nI (5 + 0 + 0), σ1) := e1
  have e2' : f_X12_begin 2 5 τ = some (nI (5 + 0 + 0), τ1) := e2
  exact ⟨_, σ1, τ1, by rw [f_X11_conics, e1', zbd_s], by rw [f_X12_conics, e2', zbd_s], hI⟩
end
