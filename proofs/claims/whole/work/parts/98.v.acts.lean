section
variable {S : Sh} {C : Cl} {σ σ1 τ τ1 : SS}
def canB (C : Cl) (w p q : Nat) : Bool := decide (C.mm < 8) && (decide (p < C.mm) && (if w = 3 ∨ w = 4 then decide (q ≤ 6) else decide (q < C.mm)))
theorem p_canDo (K : KC S C σ) {w p q : Nat} (hw5 : w < 5) (hp : p ≤ 9) (hq : q ≤ 9) : f_X11_canDo (nI w) (nI p) (nI q) σ = some (b01 (canB C w p q), σ) := by
  have h8 := K.okC.m8
  unfold canB
  rw [f_X11_canDo, K.mm]
  by_cases q8 : C.mm < 8
  rotate_left
  · rw [if_pos (show (8 : Int32) ≤ nI C.mm from nI_le (a := 8) (by omega) (by omega)), decide_eq_false q8, Bool.false_and]; rfl
  rw [if_neg (show ¬ (8 : Int32) ≤ nI C.mm from nI_ge (b := 8) q8 (by decide)), decide_eq_true q8, Bool.true_and, K.clA, cidx_nI (by omega), zbd_s]
  by_cases qp : p < C.mm
  rotate_left
  · rw [if_neg qp, Option.map_none, zbn_n, decide_eq_false qp, Bool.false_and]; rfl
  rw [if_pos qp, Option.map_some, zbn_s, if_pos (ZOx_k (by omega)).1, decide_eq_true qp, Bool.true_and, f_X11_canDo_c36]
  by_cases w3 : w = 3
  · rw [if_pos (show nI w = 3 by rw [w3]; rfl), if_pos (Or.inl w3)]
    by_cases q6 : q ≤ 6
    · rw [if_neg (show ¬ (6 : Int32) < nI q from nI_nlt (b := q) (a := 6) (by omega) (by decide)), decide_eq_true q6]; rfl
    · rw [if_pos (show (6 : Int32) < nI q from nI_lt (a := 6) (by omega) (by omega)), decide_eq_false q6]; rfl
  rw [if_neg (fun h : nI w = 3 => w3 ((nI_eq (b := 3) (by omega) (by decide)).mp h))]
  by_cases w4 : w = 4
  · rw [if_pos (show nI w = 4 by rw [w4]; rfl), if_pos (Or.inr w4)]
    by_cases q6 : q ≤ 6
    · rw [if_neg (show ¬ (6 : Int32) < nI q from nI_nlt (b := q) (a := 6) (by omega) (by decide)), decide_eq_true q6]; rfl
    · rw [if_pos (show (6 : Int32) < nI q from nI_lt (a := 6) (by omega) (by omega)), decide_eq_false q6]; rfl
  rw [if_neg (fun h : nI w = 4 => w4 ((nI_eq (b := 4) (by omega) (by decide)).mp h)), if_neg (fun h => h.elim w3 w4), K.clA, cidx_nI (by omega), zbd_s]
  by_cases qq : q < C.mm
  · rw [if_pos qq, Option.map_some, zbn_s, if_pos (ZOx_k (by omega)).1, decide_eq_true qq]; rfl
  · rw [if_neg qq, Option.map_none, zbn_n, decide_eq_false qq]; rfl
theorem pm_canDo (L : KM S C τ) {w p q i : Nat} (hw5 : w < 5) (hp : p ≤ 9) (hq : q ≤ 9) {K : Nat} (hi : i < K) (hK : K ≤ 12) (h54 : τ.1 0 54 = nI K) (h35 : τ.1 35 i = nI w) (h36 : τ.1 36 i = nI p) (h37 : τ.1 37 i = nI q) (n : Nat) (x : Int32) : f_X12_acts_c29 (n + 1) x (nI i) τ = f_X12_acts_c103 (f_X12_acts_c29 n) x (nI i) (b01 (canB C w p q)) τ := by
  have h8 := L.okC.m8
  have z := zin_nI (show i < 20 by omega) (show 20 ≤ 2 ^ 31 by decide)
  unfold canB
  rw [f_X12_acts_c29, h54, if_neg (nI_ge hi (by omega)), L.cl.mm]
  simp only [f_X12_acts_c102, f_X12_acts_c98]
  by_cases q8 : C.mm < 8
  rotate_left
  · rw [if_pos (show (8 : Int32) ≤ nI C.mm from nI_le (a := 8) (by omega) (by omega)), decide_eq_false q8, Bool.false_and]; rfl
  rw [if_neg (show ¬ (8 : Int32) ≤ nI C.mm from nI_ge (b := 8) q8 (by decide)), decide_eq_true q8, Bool.true_and, if_pos z, nI_clamp (by omega), h36, L.isC, cidx_nI (by omega), zbd_s]
  by_cases qp : p < C.mm
  rotate_left
  · rw [if_neg qp, decide_eq_false qp, Bool.false_and]; rfl
  rw [if_pos qp, decide_eq_true qp, Bool.true_and, if_neg (show ¬ (if (some p).isSome = true then (1 : Int32) else 0) = 0 from n10), if_pos z, h35, h37]
  by_cases w3 : 3 ≤ w
  · have hw34 : w = 3 ∨ w = 4 := by omega
    rw [if_pos (show (3 : Int32) ≤ nI w from nI_le (a := 3) w3 (by omega)), if_pos z, if_pos hw34]
    by_cases q6 : q ≤ 6
    · rw [if_neg (show ¬ (6 : Int32) < nI q from nI_nlt (b := q) (a := 6) (by omega) (by decide)), decide_eq_true q6]; rfl
    · rw [if_pos (show (6 : Int32) < nI q from nI_lt (a := 6) (by omega) (by omega)), decide_eq_false q6]; rfl
  · rw [if_neg (show ¬ (3 : Int32) ≤ nI w from nI_ge (b := 3) (by omega) (by decide)), if_pos z, if_neg (fun h : w = 3 ∨ w = 4 => by omega), L.isC, cidx_nI (by omega), zbd_s]
    by_cases qq : q < C.mm
    · rw [if_pos qq, decide_eq_true qq]; rfl
    · rw [if_neg qq, decide_eq_false qq]; rfl
theorem DS.fr {k : Nat} (h : DS k σ τ) {A B J A' B' : List Nat} (hF : FR A B σ σ1) (hG : FM J A' B' τ τ1) (hA : ∀ x ∈ [9, 74, 75, 76], x ∉ A) (hJ : 54 ∉ J) (hA' : ∀ x ∈ [35, 36, 37], x ∉ A') : DS k σ1 τ1 :=
  ⟨by rw [hF.1 9 (hA 9 (by decide))]; exact h.kC, by rw [hG.o 54 hJ]; exact h.kM, by
    rw [hF.1 74 (hA 74 (by decide)), hF.1 75 (hA 75 (by decide)), hF.1 76 (hA 76 (by decide)), hG.i 35 (by decide) (hA' 35 (by decide)), hG.i 36 (by decide) (hA' 36 (by decide)), hG.i 37 (by decide) (hA' 37 (by decide))]
    exact h.e⟩
theorem acts_do (S : Sh) {C0 : Cl} {σ0 τ0 : SS} (h0 : Inv S C0 σ0 τ0) {K : Nat} (hK : K ≤ 12) : ∀ j i n n' (C : Cl) σ τ, KC S C σ → KM S C τ → DS K σ τ → C0.mm ≤ C.mm → Chg C0.mm σ τ → Tap σ τ → FR YA YB σ0 σ → FM QJ QA QB τ0 τ → i + j = K → j < n → j < n' →
    ∃ r σ1 τ1, f_X11_acts_c40 n (nI C0.mm) (nI i) σ = some (r, σ1) ∧ f_X12_acts_c29 n' (nI C0.mm) (nI i) τ = some (r, τ1) ∧ I0 σ1 τ1 := by
  have h08 := h0.core.okC.m8
  intro j
  induction j with
  | zero =>
    intro i n n' C σ τ KK L D hmm g t F G hi hn hn'
    obtain ⟨n, rfl⟩ : ∃ x, n = x + 1 := ⟨n - 1, by omega⟩
    obtain ⟨n', rfl⟩ : ∃ x, n' = x + 1 := ⟨n' - 1, by omega⟩
    have F3 : FR [7] [] σ (zS (zS σ 7 4 0) 7 5 0) := ((FR.refl σ).sS (by simp) _ _).sS (by simp) _ _
    have G3 : FM [21, 22] [] [] τ (zS (zS τ 0 21 0) 0 22 0) := ((FM.refl τ).sO (by simp) _).sO (by simp) _
    rw [f_X11_acts_c40, D.kC, if_pos (nI_le (by omega) (by omega)), f_X1_forget, zbd_s, f_X12_acts_c29, D.kM, if_pos (nI_le (by omega) (by omega)), f_X12_forget, zbd_s, F3.1 9 (by decide), D.kC, G3.o 54 (by decide), D.kM]
    refine ⟨_, _, _, rfl, rfl, S, C, h0.gen (F.trans (F3.mono (by decide) (by decide))) (G.trans (G3.mono (by decide) (by decide) (by decide))) KK.okC (by rw [F3.1 1 (by decide)]; exact KK.mm) (KK.cl.fr KK.okC F3 (fun m hm => by simp; omega) (fun m hm => by simp)) (L.cl.fm G3 (by decide) (by decide) (by decide) (by decide)) (chg_0 (by simp [zS_1]) (by simp [zS_1]) (by simp [zS_1]) (by simp [zS_1])) (t.fr F3 G3 (by decide) (by decide) (by decide) (by decide))⟩
  | succ j ih =>
    intro i n n' C σ τ KK L D hmm g t F G hi hn hn'
    obtain ⟨n, rfl⟩ : ∃ x, n = x + 1 := ⟨n - 1, by omega⟩
    obtain ⟨n', rfl⟩ : ∃ x, n' = x + 1 := ⟨n' - 1, by omega⟩
    obtain ⟨w, p, q, hw5, hp, hq, ⟨d1, d2, d3⟩, d4, d5, d6⟩ := D.e i (by omega)
    have h8 := KK.okC.m8
    have z12 := zin_nI (show i < 12 by omega) (show 12 ≤ 2 ^ 31 by decide)
    rw [f_X11_acts_c40, D.kC, if_neg (nI_ge (by omega) (by omega)), if_pos z12, if_pos z12, if_pos z12, nI_clamp (by omega), d1, d2, d3, p_canDo KK hw5 hp hq, zbd_s, pm_canDo L hw5 hp hq (show i < K by omega) hK D.kM d4 d5 d6, f_X12_acts_c103]
    by_cases can : canB C w p q = true
    rotate_left
    · have e0 : canB C w p q = false := by simpa using can
      have F3 : FR [1] [] σ (zS σ 1 2 (nI C0.mm)) := (FR.refl σ).sS (by simp) _ _
      have G3 : FM [12] [] [] τ (zS τ 0 12 (nI C0.mm)) := (FM.refl τ).sO (by simp) _
      rw [e0, b01_f, if_pos rfl, if_pos rfl]
      refine ⟨_, _, _, rfl, rfl, S, (C0.mm, C.kd, C.fg, C.tl), h0.gen (F.trans (F3.mono (by decide) (by decide))) (G.trans (G3.mono (by decide) (by decide) (by decide))) ⟨h08, KK.okC.k5, KK.okC.f9⟩ (by rw [zS_1, if_pos ⟨rfl, rfl⟩]; rfl) ⟨fun m hm => ?_, fun m hm => ?_, fun m hm u hu => ?_⟩ ⟨by rw [zS_1, if_pos ⟨rfl, rfl⟩]; rfl, fun m hm => ?_, fun m hm => ?_, fun m hm u hu => ?_⟩ (g.fr F3 G3 (by decide) (by decide) (by decide)) (t.fr F3 G3 (by decide) (by decide) (by decide) (by decide))⟩
      all_goals have hm' : m < C.mm := by (have : m < C0.mm := hm); omega
      · rw [F3.1 _ (show 30 + m ∉ [1] by simp; omega)]; exact KK.cl.kd m hm'
      · rw [F3.1 _ (show 30 + m ∉ [1] by simp; omega)]; exact KK.cl.fg m hm'
      · exact KK.cl.tl m hm' u hu
      · rw [G3.i 8 (by decide) (by decide)]; exact L.cl.kd m hm'
      · rw [G3.i 9 (by decide) (by decide)]; exact L.cl.fg m hm'
      · exact L.cl.tl m hm' u hu
    have cc := can
    unfold canB at cc
    rw [Bool.and_eq_true, Bool.and_eq_true, decide_eq_true_eq, decide_eq_true_eq] at cc
    obtain ⟨c8, cp, cq⟩ := cc
    have hqm : w ≠ 3 → w ≠ 4 → q < C.mm := fun w3 w4 => by
      rw [if_neg (fun h => h.elim w3 w4)] at cq
      exact of_decide_eq_true cq
    obtain ⟨z1, z2⟩ := ZOx_13 (show p < 8 by omega)
    have z20 := zin_nI (show i < 20 by omega) (show 20 ≤ 2 ^ 31 by decide)
    obtain ⟨σ1, e1, r1, F1⟩ := k_doOne KK hw5 cp (show q < 1000 by omega) hqm
    have K1 := KK.sc (F1.mono (by decide) (by decide))
    obtain ⟨σ2, e2, F2, m2, c2⟩ := k_bring K1 c8 r1
    obtain ⟨τ1, e3, r3, G1⟩ := km_workOut L hw5 cp (show q < 1000 by omega) hqm
    have L1 := L.sc (G1.mono (by decide) (by decide) (by decide))
    obtain ⟨τ2, e4, G2, c4⟩ := km_comes L1 (k := 13) rfl (by decide) c8 r3
    rw [can, b01_t, if_neg n10, if_pos z12, if_pos z12, d2, if_pos z1, z2, if_pos (ZOx_k (by omega)).1, if_pos z12, d1, d3, e1, e2, zbd_s, zbd_s, nI_1, if_neg n10, if_pos z20, if_pos z20, if_pos z20, nI_clamp (by omega), d4, d5, d6, e3, zbd_s, e4, zbd_s]
    have F12 : FR [1, 26, 30, 31, 32, 33, 34, 35, 36, 37] [21, 22, 23, 24, 25, 46, 47, 48, 49, 50, 51, 52, 53] σ σ2 := (F1.mono (by decide) (by decide)).trans (F2.mono (by decide) (by decide))
    have G12 : FM [12] [8, 9] [10, 13, 14, 33] τ τ2 := (G1.mono (by decide) (by decide) (by decide)).trans (G2.mono (by decide) (by decide) (by decide))
    have K2 : KC S (C.add (vr S C w p q)) σ2 := ⟨K1.ok, Cl.add_ok K1.okC c8 _, K1.sh.fr F2 (by decide) (by decide) (by decide) (by decide), m2, c2, K1.tm.fr F2 (by decide) (by decide) (by decide) (by decide) (by decide) (by decide) (by decide)⟩
    have L2 : KM S (C.add (vr S C w p q)) τ2 := ⟨L1.ok, Cl.add_ok L1.okC c8 _, L1.sh.fm G2 (by decide) (by decide) (by decide) (by decide) (by decide) (by decide) (by decide), c4, L1.tm.fm G2 (by decide) (by decide) (by decide) (by decide) (by decide)⟩
    exact ih (i + 1) n n' (C.add (vr S C w p q)) σ2 τ2 K2 L2 (D.fr F12 G12 (by decide) (by decide) (by decide)) (by show C0.mm ≤ C.mm + 1; omega) (g.fr F12 G12 (by decide) (by decide) (by decide)) (t.fr F12 G12 (by decide) (by decide) (by decide) (by decide)) (F.trans (F12.mono (by decide) (by decide))) (G.trans (G12.mono (by decide) (by decide) (by decide))) (by omega) (by omega) (by omega)
theorem s_acts (h : I0 σ τ) : ∃ r σ1 τ1, f_X11_acts σ = some (r, σ1) ∧ f_X12_acts τ = some (r, τ1) ∧ I0 σ1 τ1 := by
  obtain ⟨S, C, h⟩ := h
  have K := h.kc
  have L := h.km
  obtain ⟨l, B, T⟩ := h.tap
  have hl80 := T.le
  have F0 : FR [9, 74, 75, 76] [] σ (zS σ 9 3 0) := (FR.refl σ).sS (by simp) _ _
  have G0 : FM [52, 53, 54] [35, 36, 37] [] τ (zS (zS (zS τ 0 52 0) 0 54 0) 0 53 0) := (((FM.refl τ).sO (by simp) _).sO (by simp) _).sO (by simp) _
  have Td : TapD l B (zS σ 9 3 0) (zS (zS (zS τ 0 52 0) 0 54 0) 0 53 0) := T.fr (by rw [F0.1 8 (by decide)]) (F0.1 73 (by decide)) (G0.o 27 (by decide)) (G0.i 20 (by decide) (by decide))
  have TM0 : TM l B 0 (zS (zS (zS τ 0 52 0) 0 54 0) 0 53 0) := ⟨hl80, by rw [G0.o 27 (by decide)]; exact T.lM, by rw [G0.i 20 (by decide) (by decide)]; exact T.bM, Nat.zero_le _, by simp [zS_1]; rfl⟩
  have D0 : DS 0 (zS σ 9 3 0) (zS (zS (zS τ 0 52 0) 0 54 0) 0 53 0) := ⟨by simp [zS_1]; rfl, by simp [zS_1]; rfl, fun i hi => absurd hi (by omega)⟩
  obtain ⟨a1, σ1, τ1, alt, F1, G1⟩ := acts_text (l + 1) 0 ZF ZF 0 _ _ Td TM0 (by simp [zS_1]) D0 (by omega) (by omega) (by unfold ZF; omega) (by unfold ZF; omega)
  rw [nI_0] at alt
  have F2 : FR [9, 74, 75, 76, 8] [] σ (zS σ1 8 1 0) := ((F0.trans F1).mono (by decide) (by decide)).sS (by simp) _ _
  have G2 : FM [52, 53, 54, 27] [35, 36, 37] [] τ (zS τ1 0 27 0) := ((G0.trans G1).mono (by decide) (by decide) (by decide)).sO (by simp) _
  have K2 : KC S C (zS σ1 8 1 0) := ⟨K.ok, K.okC, K.sh.fr F2 (by decide) (by decide) (by decide) (by decide), by rw [F2.1 1 (by decide)]; exact K.mm, K.cl.fr K.okC F2 (fun m hm => by simp; omega) (fun m hm => by simp), K.tm.fr F2 (by decide) (by decide) (by decide) (by decide) (by decide) (by decide) (by decide)⟩
  have L2 : KM S C (zS τ1 0 27 0) := ⟨L.ok, L.okC, L.sh.fm G2 (by decide) (by decide) (by decide) (by decide) (by decide) (by decide) (by decide), L.cl.fm G2 (by decide) (by decide) (by decide) (by decide), L.tm.fm G2 (by decide) (by decide) (by decide) (by decide) (by decide)⟩
  have t0 : Tap (zS σ1 8 1 0) (zS τ1 0 27 0) := tap_0 (by rw [zS_1, if_pos ⟨rfl, rfl⟩]) (by rw [zS_1, if_pos ⟨rfl, rfl⟩])
  have g0 := h.chg.fr F2 G2 (by decide) (by decide) (by decide)
  have FY : FR YA YB σ (zS σ1 8 1 0) := F2.mono (by decide) (by decide)
  have GQ : FM QJ QA QB τ (zS τ1 0 27 0) := G2.mono (by decide) (by decide) (by decide)
  rw [f_X11_acts, f_X2_readFrom, f_X12_acts, f_X12_isActsText]
  rcases alt with ⟨e1, e2, k, D, hk⟩ | ⟨e1, e2, e3, ha⟩
  · have Fw : FR [8] [] σ1 (zS σ1 8 1 0) := (FR.refl σ1).sS (by simp) _ _
    have Gw : FM [27] [] [] τ1 (zS τ1 0 27 0) := (FM.refl τ1).sO (by simp) _
    have D2 := D.fr Fw Gw (by decide) (by decide) (by decide)
    obtain ⟨r, σ3, τ3, e5, e6, hI⟩ := acts_do S h hk k 0 ZF ZF C _ _ K2 L2 D2 (Nat.le_refl _) g0 t0 FY GQ (by omega) (by unfold ZF; omega) (by unfold ZF; omega)
    rw [nI_0] at e5 e6
    rw [e1, zbd_s, if_pos rfl, K2.mm, e5, e2, zbd_s, if_neg n10, L2.cl.mm, e6]
    exact ⟨_, _, _, rfl, rfl, hI⟩
  · have hne : ¬ nI a1 = -1 := fun w => nI_pos (n := a1) (by omega) (by rw [w]; decide)
    have e52 : (zS τ1 0 27 0).1 0 52 = nI a1 := by rw [zS_1, if_neg (fun q => absurd q.2 (by decide))]; exact e3
    rw [e1, zbd_s, if_neg hne, e2, zbd_s, if_pos rfl, e52]
    exact ⟨_, _, _, rfl, rfl, S, C, h.gen FY GQ K.okC K2.mm K2.cl L2.cl g0 t0⟩
end
