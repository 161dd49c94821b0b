/-! ===== the invariant ===== -/
def Core (S : Sh) (C : Cl) (σ : SS) (τ : SS) : Prop :=
  (ShOk S) ∧
  (ShC S 3 15 σ) ∧
  (ShM S τ) ∧
  (ClOk C) ∧
  (σ.1 1 2 = nI C.mm) ∧
  (ClC S C 30 46 σ) ∧
  (ClM S C τ) ∧
  (TmC S σ) ∧
  (TmM S τ)
theorem Core.ok {S : Sh} {C : Cl} {σ : SS} {τ : SS} (h : Core S C σ τ) : ShOk S := h.1
theorem Core.shC {S : Sh} {C : Cl} {σ : SS} {τ : SS} (h : Core S C σ τ) : ShC S 3 15 σ := h.2.1
theorem Core.shM {S : Sh} {C : Cl} {σ : SS} {τ : SS} (h : Core S C σ τ) : ShM S τ := h.2.2.1
theorem Core.okC {S : Sh} {C : Cl} {σ : SS} {τ : SS} (h : Core S C σ τ) : ClOk C := h.2.2.2.1
theorem Core.mC {S : Sh} {C : Cl} {σ : SS} {τ : SS} (h : Core S C σ τ) : σ.1 1 2 = nI C.mm := h.2.2.2.2.1
theorem Core.clC {S : Sh} {C : Cl} {σ : SS} {τ : SS} (h : Core S C σ τ) : ClC S C 30 46 σ := h.2.2.2.2.2.1
theorem Core.clM {S : Sh} {C : Cl} {σ : SS} {τ : SS} (h : Core S C σ τ) : ClM S C τ := h.2.2.2.2.2.2.1
theorem Core.tmC {S : Sh} {C : Cl} {σ : SS} {τ : SS} (h : Core S C σ τ) : TmC S σ := h.2.2.2.2.2.2.2.1
theorem Core.tmM {S : Sh} {C : Cl} {σ : SS} {τ : SS} (h : Core S C σ τ) : TmM S τ := h.2.2.2.2.2.2.2.2
/-- THE IMAGE of the reference -/
def ShK (S : Sh) (τ : SS) : Prop :=
  (τ.1 0 37 = nI S.so) ∧
  (τ.1 0 38 = nI S.n) ∧
  (S.so = 0 → τ.1 0 39 = nI S.f) ∧
  (τ.1 0 41 = nI S.e) ∧
  (S.so = 0 → ∀ k, k < 3 → τ.1 26 k = nI (S.dm k)) ∧
  (S.so = 1 → ∀ k, k < S.e → τ.1 27 k = nI (S.dg k)) ∧
  (S.so = 1 → ∀ k, k < S.e → τ.1 28 k = nI (S.gn k))
theorem ShK.so {S : Sh} {τ : SS} (h : ShK S τ) : τ.1 0 37 = nI S.so := h.1
theorem ShK.n {S : Sh} {τ : SS} (h : ShK S τ) : τ.1 0 38 = nI S.n := h.2.1
theorem ShK.f {S : Sh} {τ : SS} (h : ShK S τ) : S.so = 0 → τ.1 0 39 = nI S.f := h.2.2.1
theorem ShK.e {S : Sh} {τ : SS} (h : ShK S τ) : τ.1 0 41 = nI S.e := h.2.2.2.1
theorem ShK.dm {S : Sh} {τ : SS} (h : ShK S τ) : S.so = 0 → ∀ k, k < 3 → τ.1 26 k = nI (S.dm k) := h.2.2.2.2.1
theorem ShK.dg {S : Sh} {τ : SS} (h : ShK S τ) : S.so = 1 → ∀ k, k < S.e → τ.1 27 k = nI (S.dg k) := h.2.2.2.2.2.1
theorem ShK.gn {S : Sh} {τ : SS} (h : ShK S τ) : S.so = 1 → ∀ k, k < S.e → τ.1 28 k = nI (S.gn k) := h.2.2.2.2.2.2
def ClK (S : Sh) (C : Cl) (τ : SS) : Prop :=
  (τ.1 0 44 = nI C.mm) ∧
  (∀ m, m < C.mm → τ.1 29 m = nI (C.kd m)) ∧
  (∀ m, m < C.mm → τ.1 30 m = nI (C.fg m)) ∧
  (∀ m, m < C.mm → ∀ t, t < S.M → τ.2 31 (462 * m + t) = C.tl m t)
theorem ClK.mm {S : Sh} {C : Cl} {τ : SS} (h : ClK S C τ) : τ.1 0 44 = nI C.mm := h.1
theorem ClK.kd {S : Sh} {C : Cl} {τ : SS} (h : ClK S C τ) : ∀ m, m < C.mm → τ.1 29 m = nI (C.kd m) := h.2.1
theorem ClK.fg {S : Sh} {C : Cl} {τ : SS} (h : ClK S C τ) : ∀ m, m < C.mm → τ.1 30 m = nI (C.fg m) := h.2.2.1
theorem ClK.tl {S : Sh} {C : Cl} {τ : SS} (h : ClK S C τ) : ∀ m, m < C.mm → ∀ t, t < S.M → τ.2 31 (462 * m + t) = C.tl m t := h.2.2.2
def ImgD (S : Sh) (C : Cl) (σ : SS) (τ : SS) : Prop :=
  (ShOk S) ∧
  (ShC S 4 18 σ) ∧
  (ShK S τ) ∧
  (ClOk C) ∧
  (σ.1 2 2 = nI C.mm) ∧
  (ClC S C 38 54 σ) ∧
  (ClK S C τ)
theorem ImgD.ok {S : Sh} {C : Cl} {σ : SS} {τ : SS} (h : ImgD S C σ τ) : ShOk S := h.1
theorem ImgD.shC {S : Sh} {C : Cl} {σ : SS} {τ : SS} (h : ImgD S C σ τ) : ShC S 4 18 σ := h.2.1
theorem ImgD.shK {S : Sh} {C : Cl} {σ : SS} {τ : SS} (h : ImgD S C σ τ) : ShK S τ := h.2.2.1
theorem ImgD.okC {S : Sh} {C : Cl} {σ : SS} {τ : SS} (h : ImgD S C σ τ) : ClOk C := h.2.2.2.1
theorem ImgD.mC {S : Sh} {C : Cl} {σ : SS} {τ : SS} (h : ImgD S C σ τ) : σ.1 2 2 = nI C.mm := h.2.2.2.2.1
theorem ImgD.clC {S : Sh} {C : Cl} {σ : SS} {τ : SS} (h : ImgD S C σ τ) : ClC S C 38 54 σ := h.2.2.2.2.2.1
theorem ImgD.clK {S : Sh} {C : Cl} {σ : SS} {τ : SS} (h : ImgD S C σ τ) : ClK S C τ := h.2.2.2.2.2.2
def Img (σ τ : SS) : Prop := (σ.1 0 2 = 0 ∧ τ.1 0 36 = 0) ∨ (σ.1 0 2 = 1 ∧ τ.1 0 36 = 1 ∧ ∃ S C, ImgD S C σ τ)
/-- what a change tells: class, what, old, new -/
def ChOk (mm o w a b : Nat) : Prop := o < mm ∧ ((w = 0 ∧ a ≤ 5 ∧ b ≤ 5) ∨ (w = 1 ∧ a ≤ 9 ∧ b ≤ 9))
def ChgD (mm : Nat) (d : Nat) (u : Nat) (σ : SS) (τ : SS) : Prop :=
  (d + u ≤ 12) ∧
  (σ.1 7 4 = nI d) ∧
  (σ.1 7 5 = nI u) ∧
  (τ.1 0 21 = nI d) ∧
  (τ.1 0 22 = nI u) ∧
  (∀ i, i < d + u → ∃ o w a b, ChOk mm o w a b ∧ (σ.1 69 i = nI o ∧ σ.1 70 i = nI w ∧ σ.1 71 i = nI a ∧ σ.1 72 i = nI b) ∧ τ.1 16 i = nI o ∧ τ.1 17 i = nI w ∧ τ.1 18 i = nI a ∧ τ.1 19 i = nI b)
theorem ChgD.le {mm : Nat} {d : Nat} {u : Nat} {σ : SS} {τ : SS} (h : ChgD mm d u σ τ) : d + u ≤ 12 := h.1
theorem ChgD.dC {mm : Nat} {d : Nat} {u : Nat} {σ : SS} {τ : SS} (h : ChgD mm d u σ τ) : σ.1 7 4 = nI d := h.2.1
theorem ChgD.uC {mm : Nat} {d : Nat} {u : Nat} {σ : SS} {τ : SS} (h : ChgD mm d u σ τ) : σ.1 7 5 = nI u := h.2.2.1
theorem ChgD.dM {mm : Nat} {d : Nat} {u : Nat} {σ : SS} {τ : SS} (h : ChgD mm d u σ τ) : τ.1 0 21 = nI d := h.2.2.2.1
theorem ChgD.uM {mm : Nat} {d : Nat} {u : Nat} {σ : SS} {τ : SS} (h : ChgD mm d u σ τ) : τ.1 0 22 = nI u := h.2.2.2.2.1
theorem ChgD.e {mm : Nat} {d : Nat} {u : Nat} {σ : SS} {τ : SS} (h : ChgD mm d u σ τ) : ∀ i, i < d + u → ∃ o w a b, ChOk mm o w a b ∧ (σ.1 69 i = nI o ∧ σ.1 70 i = nI w ∧ σ.1 71 i = nI a ∧ σ.1 72 i = nI b) ∧ τ.1 16 i = nI o ∧ τ.1 17 i = nI w ∧ τ.1 18 i = nI a ∧ τ.1 19 i = nI b := h.2.2.2.2.2
def Chg (mm : Nat) (σ τ : SS) : Prop := ∃ d u, ChgD mm d u σ τ
def TapD (l : Nat) (B : Nat → Nat) (σ : SS) (τ : SS) : Prop :=
  (l ≤ 80) ∧
  (σ.1 8 1 = nI l) ∧
  (τ.1 0 27 = nI l) ∧
  (∀ i, i < l → 32 ≤ B i ∧ B i ≤ 126) ∧
  (∀ i, i < l → σ.1 73 i = nI (B i)) ∧
  (∀ i, i < l → τ.1 20 i = nI (B i))
theorem TapD.le {l : Nat} {B : Nat → Nat} {σ : SS} {τ : SS} (h : TapD l B σ τ) : l ≤ 80 := h.1
theorem TapD.lC {l : Nat} {B : Nat → Nat} {σ : SS} {τ : SS} (h : TapD l B σ τ) : σ.1 8 1 = nI l := h.2.1
theorem TapD.lM {l : Nat} {B : Nat → Nat} {σ : SS} {τ : SS} (h : TapD l B σ τ) : τ.1 0 27 = nI l := h.2.2.1
theorem TapD.r {l : Nat} {B : Nat → Nat} {σ : SS} {τ : SS} (h : TapD l B σ τ) : ∀ i, i < l → 32 ≤ B i ∧ B i ≤ 126 := h.2.2.2.1
theorem TapD.bC {l : Nat} {B : Nat → Nat} {σ : SS} {τ : SS} (h : TapD l B σ τ) : ∀ i, i < l → σ.1 73 i = nI (B i) := h.2.2.2.2.1
theorem TapD.bM {l : Nat} {B : Nat → Nat} {σ : SS} {τ : SS} (h : TapD l B σ τ) : ∀ i, i < l → τ.1 20 i = nI (B i) := h.2.2.2.2.2
def Tap (σ τ : SS) : Prop := ∃ l B, TapD l B σ τ
def PapD (l : Nat) (σ : SS) (τ : SS) : Prop :=
  (l < 1000000) ∧
  (σ.1 10 1 = nI l) ∧
  (τ.1 0 29 = nI (min l 200)) ∧
  (∀ i, i < min l 200 → σ.1 80 i = τ.1 21 i)
theorem PapD.le {l : Nat} {σ : SS} {τ : SS} (h : PapD l σ τ) : l < 1000000 := h.1
theorem PapD.lC {l : Nat} {σ : SS} {τ : SS} (h : PapD l σ τ) : σ.1 10 1 = nI l := h.2.1
theorem PapD.lM {l : Nat} {σ : SS} {τ : SS} (h : PapD l σ τ) : τ.1 0 29 = nI (min l 200) := h.2.2.1
theorem PapD.b {l : Nat} {σ : SS} {τ : SS} (h : PapD l σ τ) : ∀ i, i < min l 200 → σ.1 80 i = τ.1 21 i := h.2.2.2
def Pap (σ τ : SS) : Prop := ∃ l, PapD l σ τ
/-- one LIST: z its size, q 0 for missing, else 1 and its sort -/
def LisD (l : Nat) (z : Nat) (σ : SS) (τ : SS) : Prop :=
  (σ.1 27 l = -1 ∨ σ.1 27 l = 0 ∨ σ.1 27 l = 1) ∧
  (τ.1 22 l = σ.1 27 l) ∧
  (z ≤ 20) ∧
  (σ.1 28 l = nI z) ∧
  (τ.1 23 l = nI z) ∧
  (σ.1 27 l = -1 → z = 0) ∧
  (∀ i, i < 20 → τ.2 24 (20 * l + i) = σ.2 (77 + l) i)
theorem LisD.so {l : Nat} {z : Nat} {σ : SS} {τ : SS} (h : LisD l z σ τ) : σ.1 27 l = -1 ∨ σ.1 27 l = 0 ∨ σ.1 27 l = 1 := h.1
theorem LisD.sM {l : Nat} {z : Nat} {σ : SS} {τ : SS} (h : LisD l z σ τ) : τ.1 22 l = σ.1 27 l := h.2.1
theorem LisD.zl {l : Nat} {z : Nat} {σ : SS} {τ : SS} (h : LisD l z σ τ) : z ≤ 20 := h.2.2.1
theorem LisD.zC {l : Nat} {z : Nat} {σ : SS} {τ : SS} (h : LisD l z σ τ) : σ.1 28 l = nI z := h.2.2.2.1
theorem LisD.zM {l : Nat} {z : Nat} {σ : SS} {τ : SS} (h : LisD l z σ τ) : τ.1 23 l = nI z := h.2.2.2.2.1
theorem LisD.z0 {l : Nat} {z : Nat} {σ : SS} {τ : SS} (h : LisD l z σ τ) : σ.1 27 l = -1 → z = 0 := h.2.2.2.2.2.1
theorem LisD.n {l : Nat} {z : Nat} {σ : SS} {τ : SS} (h : LisD l z σ τ) : ∀ i, i < 20 → τ.2 24 (20 * l + i) = σ.2 (77 + l) i := h.2.2.2.2.2.2
def Lis (σ τ : SS) : Prop := ∀ l, l < 3 → ∃ z, LisD l z σ τ
def TrcD (m : Nat) (σ : SS) (τ : SS) : Prop :=
  (m ≤ 24) ∧
  (σ.1 12 1 = nI m) ∧
  (τ.1 0 34 = nI m) ∧
  (∀ i, i < m → σ.1 82 i = τ.1 25 i)
theorem TrcD.le {m : Nat} {σ : SS} {τ : SS} (h : TrcD m σ τ) : m ≤ 24 := h.1
theorem TrcD.mC {m : Nat} {σ : SS} {τ : SS} (h : TrcD m σ τ) : σ.1 12 1 = nI m := h.2.1
theorem TrcD.mM {m : Nat} {σ : SS} {τ : SS} (h : TrcD m σ τ) : τ.1 0 34 = nI m := h.2.2.1
theorem TrcD.e {m : Nat} {σ : SS} {τ : SS} (h : TrcD m σ τ) : ∀ i, i < m → σ.1 82 i = τ.1 25 i := h.2.2.2
def Trc (σ τ : SS) : Prop := ∃ m, TrcD m σ τ
def Inv (S : Sh) (C : Cl) (σ : SS) (τ : SS) : Prop :=
  (Core S C σ τ) ∧
  (Img σ τ) ∧
  (Chg C.mm σ τ) ∧
  (Tap σ τ) ∧
  (Pap σ τ) ∧
  (Lis σ τ) ∧
  (Trc σ τ)
theorem Inv.core {S : Sh} {C : Cl} {σ : SS} {τ : SS} (h : Inv S C σ τ) : Core S C σ τ := h.1
theorem Inv.img {S : Sh} {C : Cl} {σ : SS} {τ : SS} (h : Inv S C σ τ) : Img σ τ := h.2.1
theorem Inv.chg {S : Sh} {C : Cl} {σ : SS} {τ : SS} (h : Inv S C σ τ) : Chg C.mm σ τ := h.2.2.1
theorem Inv.tap {S : Sh} {C : Cl} {σ : SS} {τ : SS} (h : Inv S C σ τ) : Tap σ τ := h.2.2.2.1
theorem Inv.pap {S : Sh} {C : Cl} {σ : SS} {τ : SS} (h : Inv S C σ τ) : Pap σ τ := h.2.2.2.2.1
theorem Inv.lis {S : Sh} {C : Cl} {σ : SS} {τ : SS} (h : Inv S C σ τ) : Lis σ τ := h.2.2.2.2.2.1
theorem Inv.trc {S : Sh} {C : Cl} {σ : SS} {τ : SS} (h : Inv S C σ τ) : Trc σ τ := h.2.2.2.2.2.2
def I0 (σ τ : SS) : Prop := ∃ S C, Inv S C σ τ
