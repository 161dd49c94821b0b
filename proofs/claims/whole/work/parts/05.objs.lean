/-! ===== the objects of the class and of the reference ===== -/
def ZOX : List OD := [.inl (11, [some 1, some 2, none, some 5, some 7, some 8, some 9, some 10, some 11, some 12]), .inl (3, [some 3, some 13, none]), .inl (3, [some 4, some 14, none]), .inl (7, [none, none, none, some 15, some 16, some 17]), .inl (7, [none, none, none, some 18, some 19, some 20]), .inl (8, [some 6, some 21, some 22, some 23, some 24, some 25, some 26]), .inl (10, [none, none, none, some 62, some 63, some 64, some 65, some 66, some 67, some 68]), .inl (1, [some 69, some 70, some 71, some 72, none, none]), .inl (9, [some 73, none, none]), .inl (2, [some 74, some 75, some 76, none]), .inl (6, [some 80, none, some 81]), .inl (5, [some 27, some 28, some 29]), .inl (0, [some 82, none, none, none, none]), .inr (4, 8, [30, 31, 32, 33, 34, 35, 36, 37]), .inr (4, 8, [38, 39, 40, 41, 42, 43, 44, 45]), .inr (0, 3, []), .inr (0, 3, []), .inr (0, 3, []), .inr (0, 3, []), .inr (0, 3, []), .inr (0, 3, []), .inr (1, 462, []), .inr (1, 462, []), .inr (1, 462, []), .inr (1, 462, []), .inr (1, 462, []), .inr (0, 462, []), .inr (0, 3, []), .inr (0, 3, []), .inr (5, 3, [77, 78, 79]), .inl (4, [none, none, some 46]), .inl (4, [none, none, some 47]), .inl (4, [none, none, some 48]), .inl (4, [none, none, some 49]), .inl (4, [none, none, some 50]), .inl (4, [none, none, some 51]), .inl (4, [none, none, some 52]), .inl (4, [none, none, some 53]), .inl (4, [none, none, some 54]), .inl (4, [none, none, some 55]), .inl (4, [none, none, some 56]), .inl (4, [none, none, some 57]), .inl (4, [none, none, some 58]), .inl (4, [none, none, some 59]), .inl (4, [none, none, some 60]), .inl (4, [none, none, some 61]), .inr (1, 462, []), .inr (1, 462, []), .inr (1, 462, []), .inr (1, 462, []), .inr (1, 462, []), .inr (1, 462, []), .inr (1, 462, []), .inr (1, 462, []), .inr (1, 462, []), .inr (1, 462, []), .inr (1, 462, []), .inr (1, 462, []), .inr (1, 462, []), .inr (1, 462, []), .inr (1, 462, []), .inr (1, 462, []), .inr (0, 462, []), .inr (0, 462, []), .inr (1, 462, []), .inr (2, 462, []), .inr (0, 462, []), .inr (0, 7, []), .inr (0, 6, []), .inr (0, 12, []), .inr (0, 12, []), .inr (0, 12, []), .inr (0, 12, []), .inr (3, 80, []), .inr (0, 12, []), .inr (0, 12, []), .inr (0, 12, []), .inr (1, 20, []), .inr (1, 20, []), .inr (1, 20, []), .inr (3, 200, []), .inr (3, 20, []), .inr (0, 24, [])]
def ZOM : List OD := [.inl (12, [none, none, none, some 1, none, some 2, some 3, none, some 4, some 5, some 6, some 7, none, some 8, some 9, some 10, some 11, some 12, some 13, some 14, some 15, none, none, some 16, some 17, some 18, some 19, none, some 20, none, some 21, some 22, some 23, some 24, none, some 25, none, none, none, none, some 26, none, some 27, some 28, none, some 29, some 30, some 31, some 32, some 33, some 34, none, none, none, none, some 35, some 36, some 37, none, some 38, some 39]), .inr (0, 3, []), .inr (0, 3, []), .inr (0, 3, []), .inr (0, 462, []), .inr (0, 462, []), .inr (1, 462, []), .inr (0, 600000, []), .inr (0, 8, []), .inr (0, 8, []), .inr (1, 3696, []), .inr (1, 3696, []), .inr (0, 462, []), .inr (1, 462, []), .inr (1, 462, []), .inr (1, 462, []), .inr (0, 12, []), .inr (0, 12, []), .inr (0, 12, []), .inr (0, 12, []), .inr (0, 80, []), .inr (0, 200, []), .inr (0, 3, []), .inr (0, 3, []), .inr (1, 60, []), .inr (0, 24, []), .inr (0, 3, []), .inr (0, 3, []), .inr (0, 3, []), .inr (0, 8, []), .inr (0, 8, []), .inr (1, 3696, []), .inr (0, 6, []), .inr (1, 462, []), .inr (1, 462, []), .inr (0, 20, []), .inr (0, 20, []), .inr (0, 20, []), .inr (0, 20, []), .inr (1, 20, [])]
def Ox : Nat → OD := fun k => (ZOX[k]?).getD (.inl (99, []))
def Om : Nat → OD := fun k => (ZOM[k]?).getD (.inl (99, []))
abbrev Nx : Nat := 83
abbrev Nm : Nat := 40
theorem hOx : ∀ k, Nx ≤ k → Ox k = .inl (99, []) := fun k h => by
  have : ZOX[k]? = none := List.getElem?_eq_none (by rw [show ZOX.length = Nx from by decide +kernel]; exact h)
  show (ZOX[k]?).getD _ = _
  rw [this]; rfl
theorem hOm : ∀ k, Nm ≤ k → Om k = .inl (99, []) := fun k h => by
  have : ZOM[k]? = none := List.getElem?_eq_none (by rw [show ZOM.length = Nm from by decide +kernel]; exact h)
  show (ZOM[k]?).getD _ = _
  rw [this]; rfl
def zpchk (ci : Nat) (pat : List Bool) (o : OD) : Bool := match o with
  | .inl (c, fl) => c != ci || fl.map Option.isSome == pat
  | .inr _ => true
def zlchk (o : OD) : Bool := match o with
  | .inl _ => true
  | .inr (t, n, rs) => decide (t < 4) || rs.length == n
theorem zp_of {L : List OD} {ci : Nat} {pat : List Bool} (h : L.all (zpchk ci pat) = true) (hci : ci ≠ 99) : ZP (fun k => (L[k]?).getD (.inl (99, []))) ci pat := by
  intro k hk
  cases hL : L[k]? with
  | none => simp [zis, hL] at hk; exact absurd hk.symm hci
  | some o =>
    have hc := List.all_eq_true.mp h o (List.mem_of_getElem? hL)
    simp only [zis, hL, Option.getD_some] at hk
    cases o with
    | inr q => simp at hk
    | inl q =>
      obtain ⟨c, fl⟩ := q
      simp at hk
      subst hk
      simp [zpchk] at hc
      exact ⟨fl, by simp [hL], hc⟩
theorem zlr_of {L : List OD} (h : L.all zlchk = true) : ZLR (fun k => (L[k]?).getD (.inl (99, []))) := by
  intro k t n rs hk h4
  cases hL : L[k]? with
  | none => simp [hL] at hk
  | some o =>
    have hc := List.all_eq_true.mp h o (List.mem_of_getElem? hL)
    simp only [hL, Option.getD_some] at hk
    subst hk
    simp only [zlchk, Bool.or_eq_true, decide_eq_true_eq, beq_iff_eq] at hc
    rcases hc with hc | hc
    · omega
    · exact hc
theorem zlr_x : ZLR Ox := zlr_of (L := ZOX) (by decide +kernel)
abbrev pt_0 : List Bool := [true, false, false, false, false]
theorem zp_0 : ZP Ox 0 pt_0 := zp_of (L := ZOX) (by decide +kernel) (by decide)
abbrev pt_1 : List Bool := [true, true, true, true, false, false]
theorem zp_1 : ZP Ox 1 pt_1 := zp_of (L := ZOX) (by decide +kernel) (by decide)
abbrev pt_2 : List Bool := [true, true, true, false]
theorem zp_2 : ZP Ox 2 pt_2 := zp_of (L := ZOX) (by decide +kernel) (by decide)
abbrev pt_3 : List Bool := [true, true, false]
theorem zp_3 : ZP Ox 3 pt_3 := zp_of (L := ZOX) (by decide +kernel) (by decide)
abbrev pt_4 : List Bool := [false, false, true]
theorem zp_4 : ZP Ox 4 pt_4 := zp_of (L := ZOX) (by decide +kernel) (by decide)
abbrev pt_5 : List Bool := [true, true, true]
theorem zp_5 : ZP Ox 5 pt_5 := zp_of (L := ZOX) (by decide +kernel) (by decide)
abbrev pt_6 : List Bool := [true, false, true]
theorem zp_6 : ZP Ox 6 pt_6 := zp_of (L := ZOX) (by decide +kernel) (by decide)
abbrev pt_7 : List Bool := [false, false, false, true, true, true]
theorem zp_7 : ZP Ox 7 pt_7 := zp_of (L := ZOX) (by decide +kernel) (by decide)
abbrev pt_8 : List Bool := [true, true, true, true, true, true, true]
theorem zp_8 : ZP Ox 8 pt_8 := zp_of (L := ZOX) (by decide +kernel) (by decide)
abbrev pt_9 : List Bool := [true, false, false]
theorem zp_9 : ZP Ox 9 pt_9 := zp_of (L := ZOX) (by decide +kernel) (by decide)
abbrev pt_10 : List Bool := [false, false, false, true, true, true, true, true, true, true]
theorem zp_10 : ZP Ox 10 pt_10 := zp_of (L := ZOX) (by decide +kernel) (by decide)
abbrev pt_11 : List Bool := [true, true, false, true, true, true, true, true, true, true]
theorem zp_11 : ZP Ox 11 pt_11 := zp_of (L := ZOX) (by decide +kernel) (by decide)
abbrev pt_12 : List Bool := [false, false, false, true, false, true, true, false, true, true, true, true, false, true, true, true, true, true, true, true, true, false, false, true, true, true, true, false, true, false, true, true, true, true, false, true, false, false, false, false, true, false, true, true, false, true, true, true, true, true, true, false, false, false, false, true, true, true, false, true, true]
theorem zp_12 : ZP Om 12 pt_12 := zp_of (L := ZOM) (by decide +kernel) (by decide)
