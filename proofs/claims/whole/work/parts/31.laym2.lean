/-! ===== the reference's TERMS for THE SPACE S ===== -/
def TmM (S : Sh) (τ : SS) : Prop :=
  (τ.1 0 7 = nI S.M) ∧
  (∀ t, t < S.M → τ.1 4 t = nI (S.c t)) ∧
  (∀ t, t < S.M → τ.1 5 t = nI (sz (S.c t))) ∧
  (∀ t, t < S.M → τ.2 6 t = WT S (S.c t)) ∧
  (∀ c, c < 600000 → τ.1 7 c = oI (pos S.L S.n c))
theorem TmM.M {S : Sh} {τ : SS} (h : TmM S τ) : τ.1 0 7 = nI S.M := h.1
theorem TmM.code {S : Sh} {τ : SS} (h : TmM S τ) : ∀ t, t < S.M → τ.1 4 t = nI (S.c t) := h.2.1
theorem TmM.size {S : Sh} {τ : SS} (h : TmM S τ) : ∀ t, t < S.M → τ.1 5 t = nI (sz (S.c t)) := h.2.2.1
theorem TmM.worth {S : Sh} {τ : SS} (h : TmM S τ) : ∀ t, t < S.M → τ.2 6 t = WT S (S.c t) := h.2.2.2.1
theorem TmM.place {S : Sh} {τ : SS} (h : TmM S τ) : ∀ c, c < 600000 → τ.1 7 c = oI (pos S.L S.n c) := h.2.2.2.2
theorem TmM.fm {S : Sh} {J A B : List Nat} {s s1 : SS} (h : TmM S s) (hF : FM J A B s s1) (h0 : 7 ∉ J) (h1 : 4 ∉ A) (h2 : 5 ∉ A) (h3 : 7 ∉ A) (h4 : 6 ∉ B) : TmM S s1 :=
  ⟨hF.o 7 h0 ▸ h.M, hF.i 4 (by decide) h1 ▸ h.code, hF.i 5 (by decide) h2 ▸ h.size, hF.l 6 h4 ▸ h.worth, hF.i 7 (by decide) h3 ▸ h.place⟩
def plM (S : Sh) (t c : Nat) : Int32 := match pos S.L S.n c with
  | some i => if i < t then nI i else -1
  | none => -1
def Mo (S : Sh) (s0 : SS) (t : Nat) (s : SS) : Prop :=
  (ShM S s) ∧
  (s.1 0 7 = nI t) ∧
  (∀ i, i < t → s.1 4 i = nI (S.c i)) ∧
  (∀ i, i < t → s.1 5 i = nI (sz (S.c i))) ∧
  (∀ i, i < t → s.2 6 i = WT S (S.c i)) ∧
  (∀ c, c < 600000 → s.1 7 c = plM S t c) ∧
  (FM [7] [4, 5, 7, 32] [6] s0 s)
theorem Mo.sh {S : Sh} {s0 : SS} {t : Nat} {s : SS} (h : Mo S s0 t s) : ShM S s := h.1
theorem Mo.M {S : Sh} {s0 : SS} {t : Nat} {s : SS} (h : Mo S s0 t s) : s.1 0 7 = nI t := h.2.1
theorem Mo.code {S : Sh} {s0 : SS} {t : Nat} {s : SS} (h : Mo S s0 t s) : ∀ i, i < t → s.1 4 i = nI (S.c i) := h.2.2.1
theorem Mo.size {S : Sh} {s0 : SS} {t : Nat} {s : SS} (h : Mo S s0 t s) : ∀ i, i < t → s.1 5 i = nI (sz (S.c i)) := h.2.2.2.1
theorem Mo.worth {S : Sh} {s0 : SS} {t : Nat} {s : SS} (h : Mo S s0 t s) : ∀ i, i < t → s.2 6 i = WT S (S.c i) := h.2.2.2.2.1
theorem Mo.place {S : Sh} {s0 : SS} {t : Nat} {s : SS} (h : Mo S s0 t s) : ∀ c, c < 600000 → s.1 7 c = plM S t c := h.2.2.2.2.2.1
theorem Mo.fr {S : Sh} {s0 : SS} {t : Nat} {s : SS} (h : Mo S s0 t s) : FM [7] [4, 5, 7, 32] [6] s0 s := h.2.2.2.2.2.2
section
variable {S : Sh} {s0 s τ : SS}
theorem plM_s (hS : ShOk S) {t : Nat} (ht : t < S.M) (c : Nat) : plM S (t + 1) c = if c = S.c t then nI t else plM S t c := by
  unfold plM
  by_cases h : c = S.c t
  · subst h
    have e : pos S.L S.n (S.c t) = some t := pos_cd hS.ln ht
    rw [e, if_pos rfl]
    show (if t < t + 1 then nI t else -1) = _
    rw [if_pos (by omega)]
  · rw [if_neg h]
    cases hp : pos S.L S.n c with
    | none => rfl
    | some i =>
      have : i ≠ t := fun q => h (by rw [← q]; exact ((pos_iff hS.ln).mp hp).2.symm)
      show (if i < t + 1 then nI i else -1) = (if i < t then nI i else -1)
      by_cases h2 : i < t
      · rw [if_pos h2, if_pos (by omega)]
      · rw [if_neg h2, if_neg (by omega)]
theorem plM_M (hS : ShOk S) (c : Nat) : plM S S.M c = oI (pos S.L S.n c) := by
  unfold plM
  cases hp : pos S.L S.n c with
  | none => rfl
  | some i =>
    have := ((pos_iff hS.ln).mp hp).1
    show (if i < S.M then nI i else -1) = _
    rw [if_pos (show i < S.M from this)]
    rfl
theorem plM_0 (c : Nat) : plM S 0 c = -1 := by
  unfold plM
  split
  · rfl
  · rfl
theorem Mo.more (hS : ShOk S) {t : Nat} (ht : t < S.M) (h : Mo S s0 t s) : Mo S s0 (t + 1) (mdt S (S.c t) t s) := by
  refine ⟨h.sh.fm (mdt_fm S (S.c t) t s) (by decide) (by decide) (by decide) (by decide) (by decide) (by decide) (by decide), ?_, ?_, ?_, ?_, ?_, h.fr.trans ((mdt_fm S (S.c t) t s).mono (by decide) (by decide) (by decide))⟩
  · show (zS _ 0 7 _).1 0 7 = _
    rw [zS_1, if_pos ⟨rfl, rfl⟩]
  · show ∀ i, i < t + 1 → upd (s.1 4) t (nI (S.c t)) i = _
    exact upd_lt h.code rfl
  · show ∀ i, i < t + 1 → upd (s.1 5) t (nI (sz (S.c t))) i = _
    exact upd_lt h.size rfl
  · show ∀ i, i < t + 1 → vp_updL (s.2 6) t (WT S (S.c t)) i = _
    exact updL_lt h.worth rfl
  · intro c hc
    show upd (s.1 7) (S.c t) (nI t) c = _
    rw [plM_s hS ht]
    unfold upd
    by_cases h1 : c = S.c t
    · rw [if_pos h1, if_pos h1]
    · rw [if_neg h1, if_neg h1, h.place c hc]
theorem Mo.sI32 {t : Nat} (h : Mo S s0 t s) (f : Nat → Int32) : Mo S s0 t (zI s 32 f) :=
  ⟨h.sh.fm ((FM.refl s).sI (J := []) (A := [32]) (B := []) (by decide) (by decide) f) (by decide) (by decide) (by decide) (by decide) (by decide) (by decide) (by decide), h.M, h.code, h.size, h.worth, h.place, h.fr.sI (by decide) (by decide) f⟩
theorem pm_220n {c : Nat} (rc : Int32 → Int32 → Int32 → Int32 → SS → Option (Unit × SS)) (x1 x2 x3 : Int32) {L : Nat} (h : lst c L = none) : f_X12_layTerms_c220 rc x1 x2 x3 (oI (lst c L)) τ = rc x1 x2 x3 0 τ := by
  rw [h, f_X12_layTerms_c220, if_pos (by decide), f_X12_layTerms_c230, if_pos rfl, f_X12_layTerms_c271]
theorem pm_220 {L n c d j : Nat} (hL : LnOk L n) (hf : Fg (τ.1 32) c) (hs : sz c ≤ n) (rc : Int32 → Int32 → Int32 → Int32 → SS → Option (Unit × SS)) (x2 : Int32) (h : lst c L = some j) (hd : ∀ k, k < 6 → dig d k = nxd L n c j k) (h2 : if j + 1 < L then sz d = n else sz d + 1 = sz c) :
    ∃ f, f_X12_layTerms_c220 rc (nI L) x2 (nI (n - sz c)) (oI (lst c L)) τ = rc (nI L) x2 (nI (n - sz d)) 1 (zI τ 32 f) ∧ Fg f d := by
  obtain ⟨hj, hz⟩ := lst_lt h
  obtain ⟨hL1, hL2, hn1, hn2⟩ := hL
  rw [h]
  show ∃ f, f_X12_layTerms_c220 rc (nI L) x2 (nI (n - sz c)) (nI j) τ = _ ∧ _
  rw [f_X12_layTerms_c220, if_neg (nI_pos (by omega)), f_X12_layTerms_c230, if_neg (by decide), if_pos (zin_nI (by omega) (by decide)), if_pos (zin_nI (by omega) (by decide)), nI_clamp (by omega), hf j (by omega), nIm1 hz, nI_1, nI_1, zS_eq]
  by_cases h3 : j + 1 < L
  · rw [if_pos h3] at h2
    rw [if_neg (nI_ge h3 (by omega)), if_pos (zin_nI (by omega) (by decide)), nI_clamp (by omega), f_X12_layTerms_c271, zS_eq, zI_zI, zI_same, h2, Nat.sub_self]
    refine ⟨_, rfl, fun k hk => ?_⟩
    rw [hd k hk, nxd]
    unfold upd
    by_cases h4 : k = j + 1
    · subst h4
      rw [if_pos rfl, if_neg (by omega), if_pos ⟨rfl, h3⟩]
    · rw [if_neg h4]
      by_cases h5 : k = j
      · rw [if_pos h5, if_pos h5]
      · rw [if_neg h5, if_neg h5, if_neg (fun q => h4 q.1), hf k hk]
  · rw [if_neg h3] at h2
    rw [if_pos (nI_le (by omega) (by omega)), f_X12_layTerms_c271, show n - sz c + 1 = n - sz d from by omega]
    refine ⟨_, rfl, fun k hk => ?_⟩
    rw [hd k hk, nxd]
    unfold upd
    by_cases h5 : k = j
    · rw [if_pos h5, if_pos h5]
    · rw [if_neg h5, if_neg h5, if_neg (fun q => h3 q.2), hf k hk]
theorem pm_91 (hS : ShOk S) (x2 : Int32) : ∀ j t m s, t + 1 + j = S.M → j + 2 ≤ m → Mo S s0 t s → Fg (s.1 32) (S.c t) →
    ∃ s', f_X12_layTerms_c91 m (nI S.L) x2 (nI (S.n - sz (S.c t))) 1 s = zbd (f_X12_carry x2 s') (fun _ s6 => some ((), s6)) ∧ Mo S s0 S.M s' := by
  have hM := (cM_pos hS.ln).2
  have hL := hS.ln
  have hL6 := hS.ln.2.1
  intro j
  induction j with
  | zero =>
    intro t m s ht hm h hf
    obtain ⟨m, rfl⟩ : ∃ m', m = m' + 2 := ⟨m - 2, by omega⟩
    have htM : t < cM S.L S.n := by show t < S.M; omega
    have ht' : t + 1 ≤ 462 := Nat.le_trans htM hM
    have hC : S.c t = 0 := by
      have := cd_last hS.ln
      unfold Sh.c
      rw [show t = cM S.L S.n - 1 from by show t = S.M - 1; omega]
      exact this
    have e := pm_102 hS h.sh ⟨t, htM, rfl⟩ (cd_lt hL htM).2 hf (by omega) h.M (f_X12_layTerms_c91 (m + 1)) x2 S.L 0 ZF (by omega) (by unfold ZF; omega)
    have ha := h.more hS htM
    have hf2 : Fg ((mdt S (S.c t) t s).1 32) (S.c t) := by rw [(mdt_fm S (S.c t) t s).i 32 (by decide) (by decide)]; exact hf
    refine ⟨mdt S (S.c t) t s, ?_, (show t + 1 = S.M by omega) ▸ ha⟩
    rw [f_X12_layTerms_c91, if_neg (by decide)]
    refine Eq.trans e ?_
    rw [pm_199 hf2 _ _ _ _ S.L ZF hL6 (by unfold ZF; omega), pm_220n _ _ _ _ (by rw [hC]; exact lst_0 _), f_X12_layTerms_c91, if_pos rfl]
  | succ j ih =>
    intro t m s ht hm h hf
    obtain ⟨m, rfl⟩ : ∃ m', m = m' + 1 := ⟨m - 1, by omega⟩
    have htM : t + 1 < cM S.L S.n := by show t + 1 < S.M; omega
    have htM' : t < cM S.L S.n := by omega
    have e := pm_102 hS h.sh ⟨t, htM', rfl⟩ (cd_lt hL htM').2 hf (by omega) h.M (f_X12_layTerms_c91 m) x2 S.L 0 ZF (by omega) (by unfold ZF; omega)
    have ha := h.more hS htM'
    have hf2 : Fg ((mdt S (S.c t) t s).1 32) (S.c t) := by rw [(mdt_fm S (S.c t) t s).i 32 (by decide) (by decide)]; exact hf
    obtain ⟨i, hi, hd⟩ := cd_next hL htM
    obtain ⟨f, e2, hf3⟩ := pm_220 (c := S.c t) (d := S.c (t + 1)) (j := i) hL hf2 (sz_le hL htM') (f_X12_layTerms_c91 m) x2 hi hd (cd_next2 hL htM hi)
    obtain ⟨s', e3, r⟩ := ih (t + 1) m _ (by omega) (by omega) (ha.sI32 f) (by rw [zI_same]; exact hf3)
    refine ⟨s', ?_, r⟩
    rw [f_X12_layTerms_c91, if_neg (by decide)]
    refine Eq.trans e ?_
    rw [pm_199 hf2 _ _ _ _ S.L ZF hL6 (by unfold ZF; omega), e2]
    exact e3
theorem pm_57 (x1 x2 : Int32) : ∀ j k m s, k + j = 6 → j < m → f_X12_layTerms_c57 m x1 x2 (nI k) s = f_X12_layTerms_c91 ZF x1 x2 0 1 (zS (zI s 32 (fun i => if k ≤ i ∧ i < 6 then 0 else s.1 32 i)) 32 0 (s.1 0 1)) := by
  intro j
  induction j with
  | zero =>
    intro k m s hk hm
    obtain ⟨m, rfl⟩ : ∃ m', m = m' + 1 := ⟨m - 1, by omega⟩
    have e : k = 6 := by omega
    subst e
    rw [f_X12_layTerms_c57, if_pos (by decide), if_pos (by decide), show (fun i => if 6 ≤ i ∧ i < 6 then (0 : Int32) else s.1 32 i) = s.1 32 from funext fun i => if_neg (by omega), zI_self]
    rfl
  | succ j ih =>
    intro k m s hk hm
    obtain ⟨m, rfl⟩ : ∃ m', m = m' + 1 := ⟨m - 1, by omega⟩
    rw [f_X12_layTerms_c57, if_neg (by rw [show (6 : Int32) = nI 6 from rfl]; exact nI_ge (by omega) (by omega)), if_pos (zin_nI (by omega) (by decide)), nI_clamp (by omega), nI_1, ih (k + 1) m _ (by omega) (by omega)]
    have ef : (fun i => if k + 1 ≤ i ∧ i < 6 then (0 : Int32) else upd (s.1 32) k 0 i) = fun i => if k ≤ i ∧ i < 6 then 0 else s.1 32 i := by
      refine funext fun i => ?_
      unfold upd
      by_cases h1 : i = k
      · rw [if_neg (by omega), if_pos h1, if_pos (by omega)]
      · by_cases h2 : k + 1 ≤ i ∧ i < 6
        · rw [if_pos h2, if_pos (by omega)]
        · rw [if_neg h2, if_neg h1, if_neg (by omega)]
    rw [zS_ne s k 0 (show (0 : Nat) ≠ 32 by decide), zS_at s 32 k 0, ef, zS_eq s 32 k 0, zI_zI]
/-- what the old TERMS leave -/
def Pl (M0 : Nat) (oc : Nat → Nat) (τ : SS) : Prop :=
  (τ.1 0 7 = nI M0) ∧
  (M0 ≤ 462) ∧
  (∀ i, i < M0 → τ.1 4 i = nI (oc i)) ∧
  (∀ i, i < M0 → oc i < 600000) ∧
  (∀ c, c < 600000 → τ.1 7 c = -1 ∨ ∃ i, i < M0 ∧ oc i = c)
theorem Pl.M {M0 : Nat} {oc : Nat → Nat} {τ : SS} (h : Pl M0 oc τ) : τ.1 0 7 = nI M0 := h.1
theorem Pl.m462 {M0 : Nat} {oc : Nat → Nat} {τ : SS} (h : Pl M0 oc τ) : M0 ≤ 462 := h.2.1
theorem Pl.code {M0 : Nat} {oc : Nat → Nat} {τ : SS} (h : Pl M0 oc τ) : ∀ i, i < M0 → τ.1 4 i = nI (oc i) := h.2.2.1
theorem Pl.lt {M0 : Nat} {oc : Nat → Nat} {τ : SS} (h : Pl M0 oc τ) : ∀ i, i < M0 → oc i < 600000 := h.2.2.2.1
theorem Pl.place {M0 : Nat} {oc : Nat → Nat} {τ : SS} (h : Pl M0 oc τ) : ∀ c, c < 600000 → τ.1 7 c = -1 ∨ ∃ i, i < M0 ∧ oc i = c := h.2.2.2.2
theorem pm_letters (hS : ShOk S) (h : ShM S τ) : f_X12_letters τ = some (nI S.L, τ) := by
  have hso := hS.so
  have hc : S.so = 0 ∨ S.so = 1 ∨ S.so = 2 := by omega
  rw [f_X12_letters, h.so, h.e]
  unfold Sh.L
  rcases hc with q | q | q
  · rw [q, if_pos (show nI 0 = 0 from rfl), h.f q, nI_add]
    rfl
  · rw [q, if_neg (show ¬ nI 1 = 0 by decide), if_pos (show nI 1 = 1 from rfl), hS.cur (by omega), show (1 : Int32) = nI 1 from rfl, nI_add]
    rfl
  · rw [q, if_neg (show ¬ nI 2 = 0 by decide), if_neg (show ¬ nI 2 = 1 by decide), hS.cur (by omega), (hS.con q).2]
    rfl
theorem pm_2 (hS : ShOk S) {M0 : Nat} {oc : Nat → Nat} (hP : Pl M0 oc τ) (h : ShM S τ) : ∀ j k m s, k + j = M0 → j < m → FM [] [7, 12] [] τ s → (∀ i, i < k → s.1 12 i = nI (oc i)) → (∀ c, c < 600000 → s.1 7 c = -1 ∨ ∃ i, k ≤ i ∧ i < M0 ∧ oc i = c) →
    ∃ s', f_X12_layTerms_c2 m (nI k) s = f_X12_layTerms_c57 ZF (nI S.L) (nI M0) 0 (zS s' 0 7 0) ∧ FM [] [7, 12] [] τ s' ∧ (∀ i, i < M0 → s'.1 12 i = nI (oc i)) ∧ (∀ c, c < 600000 → s'.1 7 c = -1) := by
  have hM := hP.m462
  intro j
  induction j with
  | zero =>
    intro k m s hk hm hF h12 h7
    obtain ⟨m, rfl⟩ : ∃ m', m = m' + 1 := ⟨m - 1, by omega⟩
    have hs : ShM S s := h.fm hF (by decide) (by decide) (by decide) (by decide) (by decide) (by decide) (by decide)
    have e7 : s.1 0 7 = nI M0 := by rw [hF.o 7 (by decide), hP.M]
    refine ⟨s, ?_, hF, fun i hi => h12 i (by omega), fun c hc => ?_⟩
    · rw [f_X12_layTerms_c2, e7, if_pos (nI_le (by omega) (by omega)), pm_letters hS hs, zbd_s, e7]
    · rcases h7 c hc with q | ⟨i, q, q2, _⟩
      · exact q
      · omega
  | succ j ih =>
    intro k m s hk hm hF h12 h7
    obtain ⟨m, rfl⟩ : ∃ m', m = m' + 1 := ⟨m - 1, by omega⟩
    have e7 : s.1 0 7 = nI M0 := by rw [hF.o 7 (by decide), hP.M]
    have e4 : s.1 4 k = nI (oc k) := by rw [hF.i 4 (by decide) (by decide), hP.code k (by omega)]
    have hl := hP.lt k (by omega)
    have g := zin_nI (i := k) (n := 462) (by omega) (by decide)
    have cl : (nI k).toNatClampNeg = k := nI_clamp (by omega)
    rw [f_X12_layTerms_c2, e7, if_neg (nI_ge (by omega) (by omega)), if_pos g, if_pos g, if_pos g, cl, zS_ne s _ _ (show (4 : Nat) ≠ 12 by decide), e4, if_pos (zin_nI hl (by decide)), nI_clamp (by omega), nI_1]
    refine ih (k + 1) m _ (by omega) (by omega) ((hF.sS (by decide) (by decide) _ _).sS (by decide) (by decide) _ _) ?_ ?_
    · rw [zS_ne _ _ _ (by decide), zS_at]
      exact upd_lt h12 rfl
    · intro c hc
      rw [zS_at, zS_ne _ _ _ (by decide)]
      unfold upd
      by_cases h1 : c = oc k
      · exact Or.inl (if_pos h1)
      · rw [if_neg h1]
        rcases h7 c hc with q | ⟨i, q, q2, q3⟩
        · exact Or.inl q
        · refine Or.inr ⟨i, ?_, q2, q3⟩
          by_cases h2 : i = k
          · exact absurd (h2 ▸ q3).symm h1
          · omega
/-- the reference lays its TERMS; what it carries of the old ones, comes then -/
theorem pm_layTerms (hS : ShOk S) {M0 : Nat} {oc : Nat → Nat} (hP : Pl M0 oc τ) (h : ShM S τ) :
    ∃ τ', f_X12_layTerms τ = zbd (f_X12_carry (nI M0) τ') (fun _ s6 => some ((), s6)) ∧ ShM S τ' ∧ TmM S τ' ∧ FM [7] [4, 5, 7, 12, 32] [6] τ τ' ∧ ∀ i, i < M0 → τ'.1 12 i = nI (oc i) := by
  have hn := hS.n5
  have hM := cM_pos hS.ln
  have hm4 := hP.m462
  obtain ⟨s1, e1, hF1, h12, h7⟩ := pm_2 hS hP h M0 0 ZF τ (by omega) (by unfold ZF; omega) (FM.refl τ) (fun i hi => by omega) (fun c hc => (hP.place c hc).imp id (fun ⟨i, q1, q2⟩ => ⟨i, by omega, q1, q2⟩))
  rw [f_X12_layTerms, show (0 : Int32) = nI 0 from rfl, e1, show (0 : Int32) = nI 0 from rfl, pm_57 _ _ 6 0 ZF _ rfl (by unfold ZF; omega)]
  have hs1 : ShM S s1 := h.fm hF1 (by decide) (by decide) (by decide) (by decide) (by decide) (by decide) (by decide)
  obtain ⟨f, hf, hf2⟩ : ∃ f, zS (zI (zS s1 0 7 (nI 0)) 32 (fun i => if 0 ≤ i ∧ i < 6 then nI 0 else (zS s1 0 7 (nI 0)).1 32 i)) 32 0 ((zS s1 0 7 (nI 0)).1 0 1) = zI (zS s1 0 7 (nI 0)) 32 f ∧ Fg f S.n := by
    rw [zS_eq, zI_zI, zI_same]
    refine ⟨_, rfl, fun k hk => ?_⟩
    rw [fg_n hn]
    unfold upd
    by_cases h1 : k = 0
    · rw [if_pos h1, if_pos h1, zS_1, if_neg (by decide), hs1.n]
    · rw [if_neg h1, if_neg h1]
      exact if_pos ⟨Nat.zero_le _, hk⟩
  have hMo : Mo S (zS s1 0 7 (nI 0)) 0 (zI (zS s1 0 7 (nI 0)) 32 f) := by
    refine Mo.sI32 ⟨hs1.fm ((FM.refl s1).sO (J := [7]) (A := []) (B := []) (by decide) _) (by decide) (by decide) (by decide) (by decide) (by decide) (by decide) (by decide), ?_, fun i hi => by omega, fun i hi => by omega, fun i hi => by omega, fun c hc => ?_, FM.refl _⟩ f
    · rw [zS_1, if_pos ⟨rfl, rfl⟩]
    · rw [plM_0, zS_ne _ _ _ (by decide), h7 c hc]
  have e0 : S.c 0 = S.n := cd_0 hS.ln
  obtain ⟨s', e2, hMo2⟩ := pm_91 hS (nI M0) (S.M - 1) 0 ZF _ (by have : 1 ≤ S.M := hM.1; omega) (by have : S.M ≤ 462 := hM.2; unfold ZF; omega) hMo (by rw [e0, zI_same]; exact hf2)
  rw [e0, show sz S.n = S.n from by
    rw [sz_sm]
    simp only [sm, fg_n hn]
    simp, Nat.sub_self] at e2
  have hF2 : FM [7] [4, 5, 7, 12, 32] [6] τ s' := ((hF1.mono (by decide) (by decide) (by decide)).sO (by decide) (nI 0)).trans (hMo2.fr.mono (by decide) (by decide) (by decide))
  refine ⟨s', ?_, hMo2.sh, ⟨hMo2.M, hMo2.code, hMo2.size, hMo2.worth, fun c hc => by rw [hMo2.place c hc, plM_M hS]⟩, hF2, fun i hi => ?_⟩
  · rw [← e2, ← hf]
    rfl
  · rw [hMo2.fr.i 12 (by decide) (by decide), zS_ne _ _ _ (by decide), h12 i hi]
end
