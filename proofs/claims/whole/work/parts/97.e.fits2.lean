section
variable {S : Sh} {C C1 : Cl} {σ σ1 τ τ1 : SS}
/-- one curve told anew in the reference -/
def stt2 (τ : SS) (k d g : Nat) : SS := zS (zS τ 2 k (nI d)) 3 k (nI g)
theorem st_st (τ : SS) (k d g d' g' : Nat) : stt2 (stt2 τ k d g) k d' g' = stt2 τ k d' g' := by
  refine Prod.ext (funext fun a => funext fun b => ?_) rfl
  unfold stt2
  rw [zS_1, zS_1, zS_1, zS_1, zS_1, zS_1]
  by_cases h3 : a = 3 ∧ b = k
  · rw [if_pos h3, if_pos h3]
  · rw [if_neg h3, if_neg h3, if_neg h3]
    by_cases h2 : a = 2 ∧ b = k
    · rw [if_pos h2, if_pos h2]
    · rw [if_neg h2, if_neg h2, if_neg h2]
theorem st_id (τ : SS) {k d g : Nat} (h2 : τ.1 2 k = nI d) (h3 : τ.1 3 k = nI g) : stt2 τ k d g = τ := by
  refine Prod.ext (funext fun a => funext fun b => ?_) rfl
  unfold stt2
  rw [zS_1, zS_1]
  by_cases q3 : a = 3 ∧ b = k
  · rw [if_pos q3, q3.1, q3.2, h3]
  · rw [if_neg q3]
    by_cases q2 : a = 2 ∧ b = k
    · rw [if_pos q2, q2.1, q2.2, h2]
    · rw [if_neg q2]
theorem st_fm {τ : SS} {k d g : Nat} : FM [] [2, 3] [] τ (stt2 τ k d g) := ((FM.refl τ).sS (by decide) (by simp) _ _).sS (by decide) (by simp) _ _
theorem st_sh (L : KM S C τ) (h1 : S.so = 1) {k d g : Nat} : ShM (S.up k d g) (stt2 τ k d g) := by
  have G := st_fm (τ := τ) (k := k) (d := d) (g := g)
  refine ⟨by rw [G.o 0 (by decide)]; exact L.sh.so, by rw [G.o 1 (by decide)]; exact L.sh.n, fun q => by rw [G.o 2 (by decide)]; exact L.sh.f q, by rw [G.o 4 (by decide)]; exact L.sh.e, fun q => by rw [G.i 1 (by decide) (by decide)]; exact L.sh.dm q, fun _ q hq => ?_, fun _ q hq => ?_⟩
  · show _ = nI (if q = k then d else S.dg q)
    unfold stt2
    rw [zS_1, if_neg (by simp), zS_1]
    by_cases w : q = k
    · rw [if_pos ⟨rfl, w⟩, if_pos w]
    · rw [if_neg (fun v => w v.2), if_neg w]; exact L.sh.dg h1 q hq
  · show _ = nI (if q = k then g else S.gn q)
    unfold stt2
    rw [zS_1]
    by_cases w : q = k
    · rw [if_pos ⟨rfl, w⟩, if_pos w]
    · rw [if_neg (fun v => w v.2), if_neg w, zS_1, if_neg (by simp)]; exact L.sh.gn h1 q hq
theorem km_fit125 (L : KM S C τ) (h1 : S.so = 1) {k d g : Nat} (hk : k < S.e) (hd : d ≤ 9) (hg : g ≤ 9) {v : Nat → Int64} (r : Rw S τ 13 v) (rc96 : Int32 → Int64 → Int32 → Int32 → Int32 → Int32 → Int32 → Int32 → Int32 → SS → Option (Int32 × SS)) (rc86 : Int32 → Int64 → Int32 → Int32 → Int32 → Int32 → Int32 → Int32 → SS → Option (Int32 × SS)) (x2 x5 x6 x7 x8 x9 x10 x11 : Int32) (x3 : Int64) :
    f_X12_fits_c125 rc96 rc86 ZF x2 x3 x5 x6 x7 x8 x9 x10 x11 0 0 (stt2 τ k d g) = if mtU S v k d g = x3 then rc96 x2 x3 x5 x6 x7 (x8 + 1) (if x8 = 0 then 10 * x10 + x11 else x9) x10 (x11 + 1) (stt2 τ k d g) else rc96 x2 x3 x5 x6 x7 x8 x9 x10 (x11 + 1) (stt2 τ k d g) := by
  have hM := L.M
  have G := st_fm (τ := τ) (k := k) (d := d) (g := g)
  have hu := up_ok L.ok h1 hk hd hg
  have key : ∀ j i n, i + j = S.M → j < n → f_X12_fits_c125 rc96 rc86 n x2 x3 x5 x6 x7 x8 x9 x10 x11 (sl (fun t => v t * WT (S.up k d g) (S.c t)) i) (nI i) (stt2 τ k d g) = if mtU S v k d g = x3 then rc96 x2 x3 x5 x6 x7 (x8 + 1) (if x8 = 0 then 10 * x10 + x11 else x9) x10 (x11 + 1) (stt2 τ k d g) else rc96 x2 x3 x5 x6 x7 x8 x9 x10 (x11 + 1) (stt2 τ k d g) := by
    intro j
    induction j with
    | zero =>
      intro i n hi hn
      obtain ⟨n, rfl⟩ : ∃ m', n = m' + 1 := ⟨n - 1, by omega⟩
      rw [f_X12_fits_c125, G.o 7 (by decide), L.tm.M, if_pos (nI_le (by omega) (by omega)), show i = S.M by omega, show sl (fun t => v t * WT (S.up k d g) (S.c t)) S.M = mtU S v k d g from rfl]
      simp only [f_X12_fits_c189, f_X12_fits_c194]
      by_cases q : mtU S v k d g = x3
      · rw [if_pos ((lg_cmp_eq _ _).mpr q), if_pos q]
        by_cases w : x8 = 0
        · rw [if_pos w, if_pos w]
        · rw [if_neg w, if_neg w]
      · rw [if_neg (fun w => q ((lg_cmp_eq _ _).mp w)), if_neg q]
    | succ j ih =>
      intro i n hi hn
      obtain ⟨n, rfl⟩ : ∃ m', n = m' + 1 := ⟨n - 1, by omega⟩
      have z := zin_nI (show i < 462 by omega) (show 462 ≤ 2 ^ 31 by decide)
      rw [f_X12_fits_c125, G.o 7 (by decide), L.tm.M, if_neg (nI_ge (by omega) (by omega)), if_pos z, if_pos z, nI_clamp (by omega), G.i 4 (by decide) (by decide), L.tm.code i (by omega), p_worthBy (c := S.c i) hu (st_sh L h1) ⟨i, show i < S.M by omega, rfl⟩, zbd_s, G.l 13 (by decide), r i (by omega), nI_1]
      exact ih (i + 1) n (by omega) (by omega)
  exact key S.M 0 ZF (by omega) (by unfold ZF; omega)
theorem fits_c (K : KC S C σ) (L : KM S C τ) (h1 : S.so = 1) {k : Nat} (hk : k < S.e) {v : Nat → Int64} (r : Rw S τ 13 v) {A a7 a10 x3 tg : Int64} {x5 : Int32} (hs : ∀ d g, mtU S v k d g = A + (a7 * vT d + a10 * vH d g)) (heq : ∀ s, s = tg ↔ A + s = x3) {d0 g0 : Nat} (h2 : τ.1 2 k = nI d0) (h3 : τ.1 3 k = nI g0) :
    ∀ j d n n' x7 x8 d' g', d + j = 10 → j < n → j < n' → ∃ r, f_X11_countFits_c10 n a7 a10 tg x5 x7 x8 (nI d) σ = some (r, σ) ∧ f_X12_fits_c86 n' (nI k) x3 x5 (nI d0) (nI g0) x7 x8 (nI d) (stt2 τ k d' g') = some (r, τ) := by
  have he := L.ok.e3
  have hk3 : zin (nI k) 3 = true := zin_nI (by omega) (by decide)
  intro j
  induction j with
  | zero =>
    intro d n n' x7 x8 d' g' hd hn hn'
    obtain ⟨n, rfl⟩ : ∃ m', n = m' + 1 := ⟨n - 1, by omega⟩
    obtain ⟨n', rfl⟩ : ∃ m', n' = m' + 1 := ⟨n' - 1, by omega⟩
    have : d = 10 := by omega
    subst this
    have e := st_st τ k d' g' d0 g0
    rw [st_id τ h2 h3] at e
    unfold stt2 at e
    rw [f_X11_countFits_c10, if_pos (show (9 : Int32) < nI 10 by decide), f_X12_fits_c86, if_pos (show (10 : Int32) ≤ nI 10 by decide), if_pos hk3, if_pos hk3, nI_clamp (by omega)]
    unfold stt2
    rw [e]
    by_cases q : x5 = 0
    · rw [if_pos q, if_pos q]; exact ⟨_, rfl, rfl⟩
    · rw [if_neg q, if_neg q]; exact ⟨_, rfl, rfl⟩
  | succ j ih =>
    intro d n n' x7 x8 d' g' hd hn hn'
    obtain ⟨n, rfl⟩ : ∃ m', n = m' + 1 := ⟨n - 1, by omega⟩
    obtain ⟨n', rfl⟩ : ∃ m', n' = m' + 1 := ⟨n' - 1, by omega⟩
    have key : ∀ i g m m' x7 x8 d' g', g + i = 10 → i < m → i < m' → ∃ r, f_X11_countFits_c20 (f_X11_countFits_c10 n) m a7 a10 tg x5 x7 x8 (nI d) (nI g) σ = some (r, σ) ∧ f_X12_fits_c96 (f_X12_fits_c86 n') m' (nI k) x3 x5 (nI d0) (nI g0) x7 x8 (nI d) (nI g) (stt2 τ k d' g') = some (r, τ) := by
      intro i
      induction i with
      | zero =>
        intro g m m' x7 x8 d' g' hg hm hm'
        obtain ⟨m, rfl⟩ : ∃ q, m = q + 1 := ⟨m - 1, by omega⟩
        obtain ⟨m', rfl⟩ : ∃ q, m' = q + 1 := ⟨m' - 1, by omega⟩
        have : g = 10 := by omega
        subst this
        rw [f_X11_countFits_c20, if_pos (show (9 : Int32) < nI 10 by decide), f_X12_fits_c96, if_pos (show (10 : Int32) ≤ nI 10 by decide), nI_1]
        exact ih (d + 1) n n' x7 x8 d' g' (by omega) (by omega) (by omega)
      | succ i ih2 =>
        intro g m m' x7 x8 d' g' hg hm hm'
        obtain ⟨m, rfl⟩ : ∃ q, m = q + 1 := ⟨m - 1, by omega⟩
        obtain ⟨m', rfl⟩ : ∃ q, m' = q + 1 := ⟨m' - 1, by omega⟩
        have e : zS (zS (stt2 τ k d' g') 2 k (nI d)) 3 k (nI g) = stt2 τ k d g := st_st τ k d' g' d g
        rw [f_X11_countFits_c20, if_neg (show ¬ (9 : Int32) < nI g from nI_nlt (b := g) (a := 9) (by omega) (by decide)), f_X7_worthTwice, zbd_s, f_X7_worthThrice, zbd_s, f_X12_fits_c96, if_neg (show ¬ (10 : Int32) ≤ nI g from nI_ge (b := 10) (by omega) (by decide)), if_pos hk3, if_pos hk3, nI_clamp (by omega), e, km_fit125 L h1 hk (by omega) (by omega) r, hs d g]
        simp only [f_X11_countFits_c68, f_X11_countFits_c73]
        have hh := heq (a7 * vT d + a10 * vH d g)
        by_cases q : a7 * vT d + a10 * vH d g = tg
        · have q' : (lg_cmp (a7 * -(nI d).toInt64 + a10 * (2 - 2 * (nI g).toInt64 - 4 * (nI d).toInt64)) tg) = 0 := (lg_cmp_eq _ _).mpr q
          rw [if_pos q', if_pos (hh.mp q), nI_1]
          by_cases w : x7 = 0
          · rw [if_pos w, if_pos w]
            exact ih2 (g + 1) m m' _ _ d g (by omega) (by omega) (by omega)
          · rw [if_neg w, if_neg w]
            exact ih2 (g + 1) m m' _ _ d g (by omega) (by omega) (by omega)
        · have q' : ¬ (lg_cmp (a7 * -(nI d).toInt64 + a10 * (2 - 2 * (nI g).toInt64 - 4 * (nI d).toInt64)) tg) = 0 := fun w => q ((lg_cmp_eq _ _).mp w)
          rw [if_neg q', if_neg (fun w => q (hh.mpr w)), nI_1]
          exact ih2 (g + 1) m m' _ _ d g (by omega) (by omega) (by omega)
    rw [f_X11_countFits_c10, if_neg (show ¬ (9 : Int32) < nI d from nI_nlt (b := d) (a := 9) (by omega) (by decide)), f_X12_fits_c86, if_neg (show ¬ (10 : Int32) ≤ nI d from nI_ge (b := 10) (by omega) (by decide))]
    have := key 10 0 ZF ZF x7 x8 d' g' (by omega) (by unfold ZF; omega) (by unfold ZF; omega)
    rw [nI_0] at this
    exact this
theorem k_noc (K : KC S C σ) {m t : Nat} (hm : m < C.mm) (ht : t < S.M) {c : Int32} (hc : c = nI (S.c t)) : f_X11_numberOfCode (30 + m) c σ = some (num S C m t, σ) := by
  have hM := K.M
  have h8 := K.okC.m8
  have e : pI S.L S.n c = some t := (pI_iff K.ok.ln).mpr ⟨ht, hc⟩
  rw [f_X11_numberOfCode, if_pos (ZOx_k (by omega)).1, K.find, zbd_s, e, show oI (some t) = nI t from rfl, if_pos (nI_pos' (by omega)), p_num K.ok K.okC K.tm K.cl hm ht, zbd_s]
theorem s_fits (x y : Int32) (v : Int64) (w : Int32) (h : I0 σ τ) : ∃ r σ1 τ1, f_X11_fits x y v w σ = some (r, σ1) ∧ f_X12_fits x y v w τ = some (r, τ1) ∧ I0 σ1 τ1 := by
  obtain ⟨S, C, h⟩ := h
  have K := h.kc
  have L := h.km
  have hso := K.ok.so
  have he := K.ok.e3
  rw [f_X11_fits, f_X12_fits]
  rcases cls_cases K.okC x with e | ⟨m, hm, h8, rfl, e⟩
  · rw [K.clN e, zbd_s, zbn_n, L.isN e, zbd_s]
    exact ex0 h.i0 _ rfl (if_pos rfl)
  rw [K.clS e, zbd_s, zbn_s, if_pos (ZOx_k (by omega)).1, L.isS e, zbd_s, if_neg n10, K.sh.so, L.sh.so]
  by_cases q1 : S.so = 1
  rotate_left
  · have : ¬ nI S.so = 1 := fun v => q1 ((nI_eq (b := 1) (by omega) (by decide)).mp v)
    rw [if_neg this, if_neg this]
    exact ex0 h.i0 _ rfl rfl
  rw [if_pos (show nI S.so = 1 by rw [q1]; rfl), if_pos (show nI S.so = 1 by rw [q1]; rfl), K.sh.e, L.sh.e]
  rcases ex_in y (m := S.e) (by omega) τ with ⟨q, e2⟩ | ⟨k, hk, rfl, e2⟩
  · rw [e2, zbd_s, if_pos q]
    exact ex0 h.i0 _ rfl (if_pos rfl)
  rw [e2, zbd_s, if_neg (nI_pos hk)]
  by_cases qk : k < S.e
  rotate_left
  · rw [if_pos (nI_le (by omega) hk), if_neg qk]
    exact ex0 h.i0 _ rfl (if_pos rfl)
  rw [if_neg (nI_ge qk (by omega)), if_pos qk, if_neg n10, pm_in32 w 0 1 0 1 rfl rfl, zbd_s]
  by_cases q3 : w < 0
  · rw [if_pos q3, if_neg (fun v : 0 ≤ w ∧ w ≤ 1 => absurd q3 (Int32.not_lt.mpr v.1))]
    exact ex0 h.i0 _ rfl (if_pos rfl)
  rw [if_neg q3]
  by_cases q4 : w ≤ 1
  rotate_left
  · rw [if_neg q4, if_neg (fun v : 0 ≤ w ∧ w ≤ 1 => q4 v.2)]
    exact ex0 h.i0 _ rfl (if_pos rfl)
  rw [if_pos q4, if_pos (show 0 ≤ w ∧ w ≤ 1 from ⟨Int32.not_lt.mp q3, q4⟩), if_neg n10]
  obtain ⟨t7, t10, m7, m10, c7, c10, A, hmt, hU⟩ := fit_split K.ok q1 qk (num S C m)
  have hz : zin (1 + nI k) 6 = true ∧ ztab 0 (1 + nI k) = nI (10 ^ (1 + k)) := by
    rw [show (1 : Int32) = nI 1 from rfl, nI_add]
    exact ⟨zin_nI (by omega) (by decide), ztab_0 _ (by omega)⟩
  obtain ⟨σ1, e3, r1, F1⟩ := k_take K hm (k := 21) (by decide)
  have F1 : FR XA XB σ σ1 := F1.mono (by decide) (by decide)
  obtain ⟨τ1, e4, r2, G1⟩ := km_take L hm (k := 13) rfl (by decide) (by decide)
  have G1 : FM MJ MA MB τ τ1 := G1.mono (by decide) (by decide) (by decide)
  have K1 := K.sc F1
  have L1 := L.sc G1
  have d2 := L1.sh.dg q1 k qk
  have d3 := L1.sh.gn q1 k qk
  have hz3 := zin_nI (show k < 3 by omega) (show 3 ≤ 2 ^ 31 by decide)
  obtain ⟨r, e5, e6⟩ := fits_c K1 L1 q1 qk (v := num S C m) r2 (x3 := v) (x5 := w) (a7 := num S C m t7) (a10 := num S C m t10) (A := A) (tg := v - ((mt S (num S C m) - num S C m t7 * vT (S.dg k)) - num S C m t10 * vH (S.dg k) (S.gn k))) hU (fit_eq A _ _ v _ _ hmt rfl) d2 d3 9 1 ZF ZF 0 (-2) (S.dg k) (S.gn k) (by omega) (by unfold ZF; omega) (by unfold ZF; omega)
  rw [st_id τ1 d2 d3, show nI 1 = 1 from rfl] at e6
  rw [show nI 1 = 1 from rfl] at e5
  rw [if_pos hz.1, hz.2, k_noc K hm m7 (by rw [c7, show (1 : Int32) = nI 1 from rfl, show (2 : Int32) = nI 2 from rfl, pk_mul, nI_add]), zbd_s, k_noc K hm m10 (by rw [c10, show (3 : Int32) = nI 3 from rfl, pk_mul]), zbd_s, if_pos hz3, if_pos hz3, e3, zbd_s, p_met K.ok K1.tm (by decide) r1, zbd_s, f_X7_worthTwice, zbd_s, f_X7_worthThrice, zbd_s, nI_clamp (by omega), K.sh.dg k (by omega), K.sh.gn k (by omega), f_X11_countFits, e4, zbd_s, if_pos hz3, if_pos hz3, d2, d3, e6]
  exact ⟨r, σ1, τ1, by
    have := e5
    unfold vT vH at this
    rw [this, zbd_s], rfl, h.fin F1 G1⟩
end
