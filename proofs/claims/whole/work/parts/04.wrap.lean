/-! ===== guards, and rows over the world ===== -/
def zin (i : Int32) (n : Nat) : Bool := !decide (i < 0) && decide (i.toNatClampNeg < n)
def zok (O : Nat → OD) (t k : Nat) (i : Int32) : Bool := match O k with
  | .inr (t', n, _) => t' == t && zin i n
  | .inl _ => false
def zis (O : Nat → OD) (ci k : Nat) : Bool := match O k with
  | .inl (c, _) => c == ci
  | .inr _ => false
def zia (O : Nat → OD) (t k : Nat) : Bool := match O k with
  | .inr (t', _, _) => t' == t
  | .inl _ => false
def zrf (O : Nat → OD) (k j : Nat) : Nat := match O k with
  | .inl (_, fl) => ((fl[j]?).getD none).getD 0
  | .inr _ => 0
def zlen (O : Nat → OD) (k : Nat) : Nat := match O k with
  | .inr (_, n, _) => n
  | .inl _ => 0
def zrr (O : Nat → OD) (k : Nat) (i : Int32) : Nat := match O k with
  | .inr (_, _, rs) => (rs[i.toNatClampNeg]?).getD 0
  | .inl _ => 0
def zok2 (O : Nat → OD) (t k0 : Nat) (sp : Int32) (k1 : Nat) (dp n : Int32) : Bool := zia O t k0 && zia O t k1 && (!decide (sp < 0) && !decide (dp < 0) && !decide (n < 0)) && (decide (sp.toNatClampNeg + n.toNatClampNeg ≤ zlen O k0) && decide (dp.toNatClampNeg + n.toNatClampNeg ≤ zlen O k1))
def zb01 (v : Int32) : Bool := v == 0 || v == 1
def znar (ty : FieldType) (v : Int32) : Bool := decide (vp_nar ty v = v)
def ZP (O : Nat → OD) (ci : Nat) (pat : List Bool) : Prop := ∀ k, zis O ci k = true → ∃ fl, O k = .inl (ci, fl) ∧ fl.map Option.isSome = pat
def ZLR (O : Nat → OD) : Prop := ∀ k t n rs, O k = .inr (t, n, rs) → 4 ≤ t → rs.length = n
def zbd {α β : Type} (o : Option (α × SS)) (k : α → SS → Option β) : Option β := match o with
  | none => none
  | some q => k q.1 q.2
def zbn {α β : Type} (o : Option α) (a : Option β) (k : α → Option β) : Option β := match o with
  | none => a
  | some q => k q
def zS (σ : SS) (k j : Nat) (v : Int32) : SS := zI σ k (upd (σ.1 k) j v)
def zSL (σ : SS) (k j : Nat) (v : Int64) : SS := zL σ k (vp_updL (σ.2 k) j v)
theorem zL_ne {σ : SS} {k a : Nat} {f : Nat → Int64} (h : a ≠ k) : (zL σ k f).2 a = σ.2 a := by
  show (if a = k then f else σ.2 a) = σ.2 a
  rw [if_neg h]
theorem zgd {α : Type} {g : Bool} {a : Option α} {r : α} (hf : (if g = true then a else none) = some r) : g = true ∧ a = some r := by
  cases g with
  | false => simp at hf
  | true => simpa using hf
theorem zgp {α : Type} {g : Prop} {d : Decidable g} {a : Option α} {r : α} (hf : (if g then none else a) = some r) : ¬ g ∧ a = some r := by
  by_cases h : g
  · rw [if_pos h] at hf; cases hf
  · rw [if_neg h] at hf; exact ⟨h, hf⟩
theorem zbd_some {α β : Type} {o : Option (α × SS)} {k : α → SS → Option β} {r : β} (hf : zbd o k = some r) : ∃ a s1, o = some (a, s1) ∧ k a s1 = some r := by
  cases o with
  | none => cases hf
  | some q => exact ⟨q.1, q.2, rfl, hf⟩
theorem zbn_none {α β : Type} {a : Option β} {k : α → Option β} {r : β} (hf : zbn none a k = some r) : a = some r := hf
theorem zbn_some {α β : Type} {a : Option β} {k : α → Option β} {q : α} {r : β} (hf : zbn (some q) a k = some r) : k q = some r := hf
theorem zne {x c : Int32} (h : ¬ x = c) {v : Int} (hc : c.toInt = v) : x.toInt ≠ v := fun q => h (Int32.toInt_inj.mp (q.trans hc.symm))
theorem znar_of {ty : FieldType} {v : Int32} (hty : ty = .boolean ∨ ty = .char) (h : znar ty v = true) : narrow ty (.int v) = .int v := by
  have h1 : vp_nar ty v = v := by simpa [znar] using h
  rcases hty with rfl | rfl
  · show Value.int (vp_nar .boolean v) = _
    rw [h1]
  · show Value.int (vp_nar .char v) = _
    rw [h1]
def ZF : Nat := 10000000
def ztab (k : Nat) (i : Int32) : Int32 := (((ZTAB[k]?).getD ("", [])).2).getD i.toNatClampNeg 0
theorem zin_of {i : Int32} {n : Nat} (h : zin i n = true) : vp_in i n := by
  simp only [zin, Bool.and_eq_true, Bool.not_eq_true', decide_eq_false_iff_not, decide_eq_true_eq] at h
  exact fun q => q.elim h.1 (fun z => absurd h.2 (Nat.not_lt.mpr z))
theorem zok_of {O : Nat → OD} {t k : Nat} {i : Int32} (h : zok O t k i = true) : ∃ n rs, O k = .inr (t, n, rs) ∧ zin i n = true := by
  unfold zok at h
  split at h
  · rename_i t' n rs he
    simp only [Bool.and_eq_true, beq_iff_eq] at h
    obtain ⟨h1, h2⟩ := h
    subst h1
    exact ⟨n, rs, he, h2⟩
  · cases h
theorem zia_of {O : Nat → OD} {t k : Nat} (h : zia O t k = true) : ∃ rs, O k = .inr (t, zlen O k, rs) := by
  unfold zia at h
  split at h
  · rename_i t' n rs he
    simp only [beq_iff_eq] at h
    subst h
    exact ⟨rs, by simp [zlen, he]⟩
  · cases h
section ZW
variable {O : Nat → OD} {N : Nat} {cA : Nat → ClassId} {ad : Nat → Nat} {D : va_G} {E : Nat → Nat} {A : Nat → Prop}
variable {p : Program} {l : Launch} {e : Env} {R : Room} {s : State} {m : MethodId} {args : Array Value} {below : List Frame} {meth : Method} {c : Code} {H : Heap} {locs : List Loc} {cells slots : Nat} {Q : State → Prop}
variable {cc : ByteArray} {pc nL : Nat} {ret : Option FieldType} {ls : Array Slot} {rest : List Value} {own : String} {σ : SS}
theorem zlt (X : ZX O N cA ad D E A p s m args meth c cc own nL ret) {k : Nat} {o : OD} (h : O k = o) (ho : o ≠ .inl (99, [])) : k < N := by
  obtain ⟨hx, hb, hts, hown, hK, hD, hRO, hml, hr, hlocks, hO⟩ := X
  rcases Nat.lt_or_ge k N with q | q
  · exact q
  · exact absurd (h.symm.trans (hO k q)) ho
theorem zw_obj (X : ZX O N cA ad D E A p s m args meth c cc own nL ret) {k ci : Nat} {fl : List (Option Nat)} (h : O k = .inl (ci, fl)) (hci : ci ≠ 99) : (zw O N cA ad σ)[k]? = some (ad k, .inr (ci, zfv ad (σ.1 k) 0 fl)) := by
  rw [zw_at (zlt X h (fun q => hci (by cases q; rfl))), h]
  rfl
theorem zw_arr (X : ZX O N cA ad D E A p s m args meth c cc own nL ret) {k t n : Nat} {rs : List Nat} (h : O k = .inr (t, n, rs)) : (zw O N cA ad σ)[k]? = some (ad k, .inl (cA t, n, zarr ad (σ.1 k) (σ.2 k) t rs)) := by
  rw [zw_at (zlt X h (fun q => by cases q)), h]
  rfl
theorem zg_i (X : ZX O N cA ad D E A p s m args meth c cc own nL ret) (hP : va_P D ZCL (zw O N cA ad σ) H) {C : String} {T : u_T} {NN ci index j k : Nat} {pat : List Bool} (hp : ZP O ci pat) (hg : zis O ci k = true) (hci : ci ≠ 99) (hc : ZCL[ci]? = some (C, T, NN)) (hin : ∀ w ∈ u_ws C T NN, w ∈ TB) (hj : j < NN)
    (hl : Cond.fieldLink own index (T j).1 (T j).2.1 (T j).2.2.1 ∈ TB) (hpj : pat[j]? = some false) (hdg : decode cc pc = .ok (.getfield index, 3))
    (kk : W p l e R s m args below meth c H locs cells slots Q (F0 m (pc + 3) ls (.int (σ.1 k j) :: rest))) : W p l e R s m args below meth c H locs cells slots Q (F0 m pc ls (.ref (ad k) :: rest)) := by
  obtain ⟨fl, hO, hfl⟩ := hp k hg
  have hw := zw_obj (σ := σ) X hO hci
  obtain ⟨hx, hb, hts, hown, hK, -⟩ := X
  have hf : fl[j]? = some none := by
    rw [← hfl, List.getElem?_map] at hpj
    cases h : fl[j]? with
    | none => simp [h] at hpj
    | some q => cases q with
      | none => rfl
      | some z => simp [h] at hpj
  have hz := zfv_int (ad := ad) (g := σ.1 k) fl 0 j hf
  rw [Nat.zero_add] at hz
  exact va_get (D := D) (ci := ci) (v := .int (σ.1 k j)) (C := C) (T := T) (N := NN) hx hb hts hin hown hK hP k hw hc j hj (hts _ hl) (fun _ h => h) hz hdg kk
theorem zg_r (X : ZX O N cA ad D E A p s m args meth c cc own nL ret) (hP : va_P D ZCL (zw O N cA ad σ) H) {C : String} {T : u_T} {NN ci index j k q : Nat} {pat : List Bool} (hp : ZP O ci pat) (hg : zis O ci k = true) (hci : ci ≠ 99) (hc : ZCL[ci]? = some (C, T, NN)) (hin : ∀ w ∈ u_ws C T NN, w ∈ TB) (hj : j < NN)
    (hl : Cond.fieldLink own index (T j).1 (T j).2.1 (T j).2.2.1 ∈ TB) (hpj : pat[j]? = some true) (hdg : decode cc pc = .ok (.getfield index, 3)) (hq : zrf O k j = q)
    (kk : W p l e R s m args below meth c H locs cells slots Q (F0 m (pc + 3) ls (.ref (ad q) :: rest))) : W p l e R s m args below meth c H locs cells slots Q (F0 m pc ls (.ref (ad k) :: rest)) := by
  obtain ⟨fl, hO, hfl⟩ := hp k hg
  have hw := zw_obj (σ := σ) X hO hci
  obtain ⟨hx, hb, hts, hown, hK, -⟩ := X
  have hf : fl[j]? = some (some q) := by
    rw [← hfl, List.getElem?_map] at hpj
    cases h : fl[j]? with
    | none => simp [h] at hpj
    | some z => cases z with
      | none => simp [h] at hpj
      | some z => simp [zrf, hO, h] at hq; rw [hq]
  exact va_get (D := D) (ci := ci) (v := .ref (ad q)) (C := C) (T := T) (N := NN) hx hb hts hin hown hK hP k hw hc j hj (hts _ hl) (fun _ h => h) (zfv_ref fl 0 j hf) hdg kk
theorem zp_i (X : ZX O N cA ad D E A p s m args meth c cc own nL ret) (hP : va_P D ZCL (zw O N cA ad σ) H) (hS : va_S A s.heap H locs) {C : String} {T : u_T} {NN ci index j k : Nat} {pat : List Bool} (hp : ZP O ci pat) (hg : zis O ci k = true) (hci : ci ≠ 99) (hc : ZCL[ci]? = some (C, T, NN)) (hin : ∀ w ∈ u_ws C T NN, w ∈ TB)
    (ty0 : Nat → FieldType) (hty : ∀ k, k < NN → parseFieldDescriptor (T k).2.2.1 = some (ty0 k)) (hnm : ∀ a, a < NN → ∀ b, b < NN → a ≠ b → (T a).2.1 ≠ (T b).2.1) (hj : j < NN)
    (hl : Cond.fieldLink own index (T j).1 (T j).2.1 (T j).2.2.1 ∈ TB) (hpj : pat[j]? = some false) (hfin : (T j).2.2.2 = false) {ty : FieldType} (hd : parseFieldDescriptor (T j).2.2.1 = some ty) {v : Int32} (hn : narrow ty (.int v) = .int v) (hfit : fits ty (.int v) = true) (hdg : decode cc pc = .ok (.putfield index, 3))
    (kk : ∀ (H1 : Heap) (locs1 : List Loc), va_P D ZCL (zw O N cA ad (zS σ k j v)) H1 → va_S A s.heap H1 locs1 → W p l e R s m args below meth c H1 locs1 cells slots Q (F0 m (pc + 3) ls rest)) : W p l e R s m args below meth c H locs cells slots Q (F0 m pc ls (.int v :: .ref (ad k) :: rest)) := by
  obtain ⟨fl, hO, hfl⟩ := hp k hg
  have hw := zw_obj (σ := σ) X hO hci
  obtain ⟨hx, hb, hts, hown, hK, hD, -⟩ := X
  have hf : fl[j]? = some none := by
    rw [← hfl, List.getElem?_map] at hpj
    cases h : fl[j]? with
    | none => simp [h] at hpj
    | some q => cases q with
      | none => rfl
      | some z => simp [h] at hpj
  have hz := zfv_set (ad := ad) fl (σ.1 k) 0 j v hf
  rw [Nat.zero_add] at hz
  refine va_put (D := D) (ci := ci) (v := .int v) (ty := ty) (C := C) (T := T) (N := NN) hx hb hts hin ty0 hty hnm hown hK hP (hD.va O cA σ) hS k hw hc j hj (hts _ hl) (fun _ h => h) hfin hd hn hfit (by rw [zfv_len]; exact (List.getElem?_eq_some_iff.mp hf).1) hdg (fun H1 locs1 hP1 _ hS1 => kk H1 locs1 ?_ hS1)
  rw [hz, zw_set (σ := σ) (σ' := zS σ k j v) (fun a ha => if_neg ha) (fun a _ => rfl) (by rw [hO]; simp [zcell, zI, zS])] at hP1
  exact hP1
theorem zald_i (X : ZX O N cA ad D E A p s m args meth c cc own nL ret) (hP : va_P D ZCL (zw O N cA ad σ) H) {k n : Nat} {rs : List Nat} {i : Int32} (hO : O k = .inr (0, n, rs)) (hin : zin i n = true) (hdg : decode cc pc = .ok (.iaload, 1))
    (kk : W p l e R s m args below meth c H locs cells slots Q (F0 m (pc + 1) ls (.int (σ.1 k i.toNatClampNeg) :: rest))) : W p l e R s m args below meth c H locs cells slots Q (F0 m pc ls (.int i :: .ref (ad k) :: rest)) :=
  va_iald (D := D) X.1 X.2.1 X.2.2.2.2.1 hP k 0 (zw_arr X hO) rfl (zin_of hin) hdg kk
theorem zald_z (X : ZX O N cA ad D E A p s m args meth c cc own nL ret) (hP : va_P D ZCL (zw O N cA ad σ) H) {k n : Nat} {rs : List Nat} {i : Int32} (hO : O k = .inr (2, n, rs)) (hin : zin i n = true) (hdg : decode cc pc = .ok (.baload, 1))
    (kk : W p l e R s m args below meth c H locs cells slots Q (F0 m (pc + 1) ls (.int (σ.1 k i.toNatClampNeg) :: rest))) : W p l e R s m args below meth c H locs cells slots Q (F0 m pc ls (.int i :: .ref (ad k) :: rest)) :=
  va_zald (D := D) X.1 X.2.1 X.2.2.2.2.1 hP k 2 (zw_arr X hO) rfl (zin_of hin) hdg kk
theorem zald_c (X : ZX O N cA ad D E A p s m args meth c cc own nL ret) (hP : va_P D ZCL (zw O N cA ad σ) H) {k n : Nat} {rs : List Nat} {i : Int32} (hO : O k = .inr (3, n, rs)) (hin : zin i n = true) (hdg : decode cc pc = .ok (.caload, 1))
    (kk : W p l e R s m args below meth c H locs cells slots Q (F0 m (pc + 1) ls (.int (σ.1 k i.toNatClampNeg) :: rest))) : W p l e R s m args below meth c H locs cells slots Q (F0 m pc ls (.int i :: .ref (ad k) :: rest)) :=
  va_cald (D := D) X.1 X.2.1 X.2.2.2.2.1 hP k 3 (zw_arr X hO) rfl (zin_of hin) hdg kk
theorem zald_l (X : ZX O N cA ad D E A p s m args meth c cc own nL ret) (hP : va_P D ZCL (zw O N cA ad σ) H) {k n : Nat} {rs : List Nat} {i : Int32} (hO : O k = .inr (1, n, rs)) (hin : zin i n = true) (hdg : decode cc pc = .ok (.laload, 1))
    (kk : W p l e R s m args below meth c H locs cells slots Q (F0 m (pc + 1) ls (.long (σ.2 k i.toNatClampNeg) :: rest))) : W p l e R s m args below meth c H locs cells slots Q (F0 m pc ls (.int i :: .ref (ad k) :: rest)) :=
  va_lald (D := D) X.1 X.2.1 X.2.2.2.2.1 hP k 1 (zw_arr X hO) rfl (zin_of hin) hdg kk
theorem zast_i (X : ZX O N cA ad D E A p s m args meth c cc own nL ret) (hP : va_P D ZCL (zw O N cA ad σ) H) (hS : va_S A s.heap H locs) {k n : Nat} {rs : List Nat} {i v : Int32} (hO : O k = .inr (0, n, rs)) (hin : zin i n = true) (hdg : decode cc pc = .ok (.iastore, 1))
    (kk : ∀ (H1 : Heap) (locs1 : List Loc), va_P D ZCL (zw O N cA ad (zS σ k i.toNatClampNeg v)) H1 → va_S A s.heap H1 locs1 → W p l e R s m args below meth c H1 locs1 cells slots Q (F0 m (pc + 1) ls rest)) : W p l e R s m args below meth c H locs cells slots Q (F0 m pc ls (.int v :: .int i :: .ref (ad k) :: rest)) := by
  refine va_iast (D := D) X.1 X.2.1 X.2.2.2.2.1 hP (X.2.2.2.2.2.1.va O cA σ) hS k 0 (zw_arr X hO) rfl (zin_of hin) hdg (fun H1 locs1 hP1 _ hS1 => kk H1 locs1 ?_ hS1)
  rw [zw_set (σ := σ) (σ' := zS σ k i.toNatClampNeg v) (fun a ha => if_neg ha) (fun a _ => rfl) (by rw [hO]; simp [zcell, zI, zS, zarr])] at hP1
  exact hP1
theorem zast_z (X : ZX O N cA ad D E A p s m args meth c cc own nL ret) (hP : va_P D ZCL (zw O N cA ad σ) H) (hS : va_S A s.heap H locs) {k n : Nat} {rs : List Nat} {i v : Int32} (hO : O k = .inr (2, n, rs)) (hin : zin i n = true) (hdg : decode cc pc = .ok (.bastore, 1))
    (kk : ∀ (H1 : Heap) (locs1 : List Loc), va_P D ZCL (zw O N cA ad (zS σ k i.toNatClampNeg (vp_nar .boolean v))) H1 → va_S A s.heap H1 locs1 → W p l e R s m args below meth c H1 locs1 cells slots Q (F0 m (pc + 1) ls rest)) : W p l e R s m args below meth c H locs cells slots Q (F0 m pc ls (.int v :: .int i :: .ref (ad k) :: rest)) := by
  refine va_zast (D := D) X.1 X.2.1 X.2.2.2.2.1 hP (X.2.2.2.2.2.1.va O cA σ) hS k 2 (zw_arr X hO) rfl (zin_of hin) hdg (fun H1 locs1 hP1 _ hS1 => kk H1 locs1 ?_ hS1)
  rw [zw_set (σ := σ) (σ' := zS σ k i.toNatClampNeg (vp_nar .boolean v)) (fun a ha => if_neg ha) (fun a _ => rfl) (by rw [hO]; simp [zcell, zI, zS, zarr])] at hP1
  exact hP1
theorem zast_c (X : ZX O N cA ad D E A p s m args meth c cc own nL ret) (hP : va_P D ZCL (zw O N cA ad σ) H) (hS : va_S A s.heap H locs) {k n : Nat} {rs : List Nat} {i v : Int32} (hO : O k = .inr (3, n, rs)) (hin : zin i n = true) (hdg : decode cc pc = .ok (.castore, 1))
    (kk : ∀ (H1 : Heap) (locs1 : List Loc), va_P D ZCL (zw O N cA ad (zS σ k i.toNatClampNeg (vp_nar .char v))) H1 → va_S A s.heap H1 locs1 → W p l e R s m args below meth c H1 locs1 cells slots Q (F0 m (pc + 1) ls rest)) : W p l e R s m args below meth c H locs cells slots Q (F0 m pc ls (.int v :: .int i :: .ref (ad k) :: rest)) := by
  refine va_cast (D := D) X.1 X.2.1 X.2.2.2.2.1 hP (X.2.2.2.2.2.1.va O cA σ) hS k 3 (zw_arr X hO) rfl (zin_of hin) hdg (fun H1 locs1 hP1 _ hS1 => kk H1 locs1 ?_ hS1)
  rw [zw_set (σ := σ) (σ' := zS σ k i.toNatClampNeg (vp_nar .char v)) (fun a ha => if_neg ha) (fun a _ => rfl) (by rw [hO]; simp [zcell, zI, zS, zarr])] at hP1
  exact hP1
theorem zast_l (X : ZX O N cA ad D E A p s m args meth c cc own nL ret) (hP : va_P D ZCL (zw O N cA ad σ) H) (hS : va_S A s.heap H locs) {k n : Nat} {rs : List Nat} {i : Int32} {v : Int64} (hO : O k = .inr (1, n, rs)) (hin : zin i n = true) (hdg : decode cc pc = .ok (.lastore, 1))
    (kk : ∀ (H1 : Heap) (locs1 : List Loc), va_P D ZCL (zw O N cA ad (zSL σ k i.toNatClampNeg v)) H1 → va_S A s.heap H1 locs1 → W p l e R s m args below meth c H1 locs1 cells slots Q (F0 m (pc + 1) ls rest)) : W p l e R s m args below meth c H locs cells slots Q (F0 m pc ls (.long v :: .int i :: .ref (ad k) :: rest)) := by
  refine va_last (D := D) X.1 X.2.1 X.2.2.2.2.1 hP (X.2.2.2.2.2.1.va O cA σ) hS k 1 (zw_arr X hO) rfl (zin_of hin) hdg (fun H1 locs1 hP1 _ hS1 => kk H1 locs1 ?_ hS1)
  rw [zw_set (σ := σ) (σ' := zSL σ k i.toNatClampNeg v) (fun a _ => rfl) (fun a ha => zL_ne ha) (by rw [hO]; simp [zcell, zL, zSL, zarr])] at hP1
  exact hP1
theorem zalen (X : ZX O N cA ad D E A p s m args meth c cc own nL ret) (hP : va_P D ZCL (zw O N cA ad σ) H) {k n t : Nat} {rs : List Nat} (hO : O k = .inr (t, n, rs)) (ht : t < 6) {v : Int32} (hv : Int32.ofNat n = v) (hdg : decode cc pc = .ok (.arraylength, 1))
    (kk : W p l e R s m args below meth c H locs cells slots Q (F0 m (pc + 1) ls (.int v :: rest))) : W p l e R s m args below meth c H locs cells slots Q (F0 m pc ls (.ref (ad k) :: rest)) := by
  obtain ⟨ty, hty⟩ : ∃ ty, (ztys cA)[t]? = some (cA t, ty) := by
    match t, ht with
    | 0, _ => exact ⟨_, rfl⟩
    | 1, _ => exact ⟨_, rfl⟩
    | 2, _ => exact ⟨_, rfl⟩
    | 3, _ => exact ⟨_, rfl⟩
    | 4, _ => exact ⟨_, rfl⟩
    | 5, _ => exact ⟨_, rfl⟩
  exact va_alen (D := D) X.1 X.2.1 X.2.2.2.2.1 hP k t (zw_arr X hO) hty hv hdg kk
theorem zald_q (X : ZX O N cA ad D E A p s m args meth c cc own nL ret) (hP : va_P D ZCL (zw O N cA ad σ) H) (hL : ZLR O) {k n q : Nat} {rs : List Nat} {i : Int32} (hO : O k = .inr (4, n, rs)) (hin : zin i n = true) (hdg : decode cc pc = .ok (.aaload, 1)) (hq : zrr O k i = q)
    (kk : W p l e R s m args below meth c H locs cells slots Q (F0 m (pc + 1) ls (.ref (ad q) :: rest))) : W p l e R s m args below meth c H locs cells slots Q (F0 m pc ls (.int i :: .ref (ad k) :: rest)) := by
  have hlen := hL k 4 n rs hO (Nat.le_refl _)
  refine va_aldq (D := D) X.1 X.2.1 X.2.2.2.2.1 hP k 4 (zw_arr X hO) rfl (zin_of hin) hdg ?_
  have h2 : i.toNatClampNeg < rs.length := by rw [hlen]; exact Nat.not_le.mp fun z => zin_of hin (Or.inr z)
  have h3 : zrr O k i = rs[i.toNatClampNeg] := by simp [zrr, hO, h2]
  rw [show (rs[i.toNatClampNeg]?).map ad = some (ad q) by rw [← hq, h3]; simp [h2]]
  exact kk
theorem zald_g (X : ZX O N cA ad D E A p s m args meth c cc own nL ret) (hP : va_P D ZCL (zw O N cA ad σ) H) (hL : ZLR O) {k n q : Nat} {rs : List Nat} {i : Int32} (hO : O k = .inr (5, n, rs)) (hin : zin i n = true) (hdg : decode cc pc = .ok (.aaload, 1)) (hq : zrr O k i = q)
    (kk : W p l e R s m args below meth c H locs cells slots Q (F0 m (pc + 1) ls (.ref (ad q) :: rest))) : W p l e R s m args below meth c H locs cells slots Q (F0 m pc ls (.int i :: .ref (ad k) :: rest)) := by
  have hlen := hL k 5 n rs hO (by decide)
  have h2 : i.toNatClampNeg < rs.length := by rw [hlen]; exact Nat.not_le.mp fun z => zin_of hin (Or.inr z)
  have h3 : zrr O k i = rs[i.toNatClampNeg] := by simp [zrr, hO, h2]
  have hv : va_rf ((rs[i.toNatClampNeg]?).map ad) = .ref (ad q) := by rw [← hq, h3]; simp [h2, va_rf]
  refine W.aald (v := .ref (ad q)) (ty := .array .long) X.1 X.2.1 (hP k _ (zw_arr X hO)) ((X.2.2.2.2.1.2 5 _ rfl).1 n (fun j => va_rf ((rs[j]?).map ad))) rfl (fun q => by cases q) (by show ¬ (i < 0 ∨ (arrV _ _ _).slots.size ≤ _); rw [arrV_size]; exact zin_of hin) ?_ rfl rfl hdg kk
  show (arrV _ _ _).slots[_]? = _
  rw [arrV_read _ _ (by rw [← hlen]; exact h2), hv]
theorem zif_eq (hx : p.tables.exec = Jvm.exec) (hb : c.code = cc) {x : Int32} {off : Int} {tgt : Nat} {α : Type} {a b : Option α} {r : α} (hdg : decode cc pc = .ok (.ifCond .eq off, 3)) (ht : (pc : Int) + off = (tgt : Int)) (hf : (if x = 0 then a else b) = some r)
    (kt : a = some r → W p l e R s m args below meth c H locs cells slots Q (F0 m tgt ls rest)) (kf : b = some r → W p l e R s m args below meth c H locs cells slots Q (F0 m (pc + 3) ls rest)) : W p l e R s m args below meth c H locs cells slots Q (F0 m pc ls (.int x :: rest)) :=
  lv_if_eq hx hb hdg ht (fun z => kt (by rw [if_pos z] at hf; exact hf)) (fun z => kf (by rw [if_neg z] at hf; exact hf))
theorem zicmp_eq (hx : p.tables.exec = Jvm.exec) (hb : c.code = cc) {x y : Int32} {off : Int} {tgt : Nat} {α : Type} {a b : Option α} {r : α} (hdg : decode cc pc = .ok (.if_icmp .eq off, 3)) (ht : (pc : Int) + off = (tgt : Int)) (hf : (if x = y then a else b) = some r)
    (kt : a = some r → W p l e R s m args below meth c H locs cells slots Q (F0 m tgt ls rest)) (kf : b = some r → W p l e R s m args below meth c H locs cells slots Q (F0 m (pc + 3) ls rest)) : W p l e R s m args below meth c H locs cells slots Q (F0 m pc ls (.int y :: .int x :: rest)) :=
  lv_icmp_eq hx hb hdg ht (fun z => kt (by rw [if_pos z] at hf; exact hf)) (fun z => kf (by rw [if_neg z] at hf; exact hf))
theorem zif_ne (hx : p.tables.exec = Jvm.exec) (hb : c.code = cc) {x : Int32} {off : Int} {tgt : Nat} {α : Type} {a b : Option α} {r : α} (hdg : decode cc pc = .ok (.ifCond .ne off, 3)) (ht : (pc : Int) + off = (tgt : Int)) (hf : (if x = 0 then a else b) = some r)
    (kt : b = some r → W p l e R s m args below meth c H locs cells slots Q (F0 m tgt ls rest)) (kf : a = some r → W p l e R s m args below meth c H locs cells slots Q (F0 m (pc + 3) ls rest)) : W p l e R s m args below meth c H locs cells slots Q (F0 m pc ls (.int x :: rest)) :=
  lv_if_ne hx hb hdg ht (fun z => kt (by rw [if_neg z] at hf; exact hf)) (fun z => kf (by rw [if_pos z] at hf; exact hf))
theorem zicmp_ne (hx : p.tables.exec = Jvm.exec) (hb : c.code = cc) {x y : Int32} {off : Int} {tgt : Nat} {α : Type} {a b : Option α} {r : α} (hdg : decode cc pc = .ok (.if_icmp .ne off, 3)) (ht : (pc : Int) + off = (tgt : Int)) (hf : (if x = y then a else b) = some r)
    (kt : b = some r → W p l e R s m args below meth c H locs cells slots Q (F0 m tgt ls rest)) (kf : a = some r → W p l e R s m args below meth c H locs cells slots Q (F0 m (pc + 3) ls rest)) : W p l e R s m args below meth c H locs cells slots Q (F0 m pc ls (.int y :: .int x :: rest)) :=
  lv_icmp_ne hx hb hdg ht (fun z => kt (by rw [if_neg z] at hf; exact hf)) (fun z => kf (by rw [if_pos z] at hf; exact hf))
theorem zif_lt (hx : p.tables.exec = Jvm.exec) (hb : c.code = cc) {x : Int32} {off : Int} {tgt : Nat} {α : Type} {a b : Option α} {r : α} (hdg : decode cc pc = .ok (.ifCond .lt off, 3)) (ht : (pc : Int) + off = (tgt : Int)) (hf : (if x < 0 then a else b) = some r)
    (kt : a = some r → W p l e R s m args below meth c H locs cells slots Q (F0 m tgt ls rest)) (kf : b = some r → W p l e R s m args below meth c H locs cells slots Q (F0 m (pc + 3) ls rest)) : W p l e R s m args below meth c H locs cells slots Q (F0 m pc ls (.int x :: rest)) :=
  lv_if_lt hx hb hdg ht (fun z => kt (by rw [if_pos z] at hf; exact hf)) (fun z => kf (by rw [if_neg z] at hf; exact hf))
theorem zicmp_lt (hx : p.tables.exec = Jvm.exec) (hb : c.code = cc) {x y : Int32} {off : Int} {tgt : Nat} {α : Type} {a b : Option α} {r : α} (hdg : decode cc pc = .ok (.if_icmp .lt off, 3)) (ht : (pc : Int) + off = (tgt : Int)) (hf : (if x < y then a else b) = some r)
    (kt : a = some r → W p l e R s m args below meth c H locs cells slots Q (F0 m tgt ls rest)) (kf : b = some r → W p l e R s m args below meth c H locs cells slots Q (F0 m (pc + 3) ls rest)) : W p l e R s m args below meth c H locs cells slots Q (F0 m pc ls (.int y :: .int x :: rest)) :=
  lv_icmp_lt hx hb hdg ht (fun z => kt (by rw [if_pos z] at hf; exact hf)) (fun z => kf (by rw [if_neg z] at hf; exact hf))
theorem zif_ge (hx : p.tables.exec = Jvm.exec) (hb : c.code = cc) {x : Int32} {off : Int} {tgt : Nat} {α : Type} {a b : Option α} {r : α} (hdg : decode cc pc = .ok (.ifCond .ge off, 3)) (ht : (pc : Int) + off = (tgt : Int)) (hf : (if 0 ≤ x then a else b) = some r)
    (kt : a = some r → W p l e R s m args below meth c H locs cells slots Q (F0 m tgt ls rest)) (kf : b = some r → W p l e R s m args below meth c H locs cells slots Q (F0 m (pc + 3) ls rest)) : W p l e R s m args below meth c H locs cells slots Q (F0 m pc ls (.int x :: rest)) :=
  lv_if_ge hx hb hdg ht (fun z => kt (by rw [if_pos z] at hf; exact hf)) (fun z => kf (by rw [if_neg z] at hf; exact hf))
theorem zicmp_ge (hx : p.tables.exec = Jvm.exec) (hb : c.code = cc) {x y : Int32} {off : Int} {tgt : Nat} {α : Type} {a b : Option α} {r : α} (hdg : decode cc pc = .ok (.if_icmp .ge off, 3)) (ht : (pc : Int) + off = (tgt : Int)) (hf : (if y ≤ x then a else b) = some r)
    (kt : a = some r → W p l e R s m args below meth c H locs cells slots Q (F0 m tgt ls rest)) (kf : b = some r → W p l e R s m args below meth c H locs cells slots Q (F0 m (pc + 3) ls rest)) : W p l e R s m args below meth c H locs cells slots Q (F0 m pc ls (.int y :: .int x :: rest)) :=
  lv_icmp_ge hx hb hdg ht (fun z => kt (by rw [if_pos z] at hf; exact hf)) (fun z => kf (by rw [if_neg z] at hf; exact hf))
theorem zif_gt (hx : p.tables.exec = Jvm.exec) (hb : c.code = cc) {x : Int32} {off : Int} {tgt : Nat} {α : Type} {a b : Option α} {r : α} (hdg : decode cc pc = .ok (.ifCond .gt off, 3)) (ht : (pc : Int) + off = (tgt : Int)) (hf : (if 0 < x then a else b) = some r)
    (kt : a = some r → W p l e R s m args below meth c H locs cells slots Q (F0 m tgt ls rest)) (kf : b = some r → W p l e R s m args below meth c H locs cells slots Q (F0 m (pc + 3) ls rest)) : W p l e R s m args below meth c H locs cells slots Q (F0 m pc ls (.int x :: rest)) :=
  lv_if_gt hx hb hdg ht (fun z => kt (by rw [if_pos z] at hf; exact hf)) (fun z => kf (by rw [if_neg z] at hf; exact hf))
theorem zicmp_gt (hx : p.tables.exec = Jvm.exec) (hb : c.code = cc) {x y : Int32} {off : Int} {tgt : Nat} {α : Type} {a b : Option α} {r : α} (hdg : decode cc pc = .ok (.if_icmp .gt off, 3)) (ht : (pc : Int) + off = (tgt : Int)) (hf : (if y < x then a else b) = some r)
    (kt : a = some r → W p l e R s m args below meth c H locs cells slots Q (F0 m tgt ls rest)) (kf : b = some r → W p l e R s m args below meth c H locs cells slots Q (F0 m (pc + 3) ls rest)) : W p l e R s m args below meth c H locs cells slots Q (F0 m pc ls (.int y :: .int x :: rest)) :=
  lv_icmp_gt hx hb hdg ht (fun z => kt (by rw [if_pos z] at hf; exact hf)) (fun z => kf (by rw [if_neg z] at hf; exact hf))
theorem zif_le (hx : p.tables.exec = Jvm.exec) (hb : c.code = cc) {x : Int32} {off : Int} {tgt : Nat} {α : Type} {a b : Option α} {r : α} (hdg : decode cc pc = .ok (.ifCond .le off, 3)) (ht : (pc : Int) + off = (tgt : Int)) (hf : (if x ≤ 0 then a else b) = some r)
    (kt : a = some r → W p l e R s m args below meth c H locs cells slots Q (F0 m tgt ls rest)) (kf : b = some r → W p l e R s m args below meth c H locs cells slots Q (F0 m (pc + 3) ls rest)) : W p l e R s m args below meth c H locs cells slots Q (F0 m pc ls (.int x :: rest)) :=
  lv_if_le hx hb hdg ht (fun z => kt (by rw [if_pos z] at hf; exact hf)) (fun z => kf (by rw [if_neg z] at hf; exact hf))
theorem zicmp_le (hx : p.tables.exec = Jvm.exec) (hb : c.code = cc) {x y : Int32} {off : Int} {tgt : Nat} {α : Type} {a b : Option α} {r : α} (hdg : decode cc pc = .ok (.if_icmp .le off, 3)) (ht : (pc : Int) + off = (tgt : Int)) (hf : (if x ≤ y then a else b) = some r)
    (kt : a = some r → W p l e R s m args below meth c H locs cells slots Q (F0 m tgt ls rest)) (kf : b = some r → W p l e R s m args below meth c H locs cells slots Q (F0 m (pc + 3) ls rest)) : W p l e R s m args below meth c H locs cells slots Q (F0 m pc ls (.int y :: .int x :: rest)) :=
  lv_icmp_le hx hb hdg ht (fun z => kt (by rw [if_pos z] at hf; exact hf)) (fun z => kf (by rw [if_neg z] at hf; exact hf))
theorem zret_n {r : Option Nat} {σ' : SS} {C : String} (X : ZX O N cA ad D E A p s m args meth c cc own nL (some (.object C))) (hP : va_P D ZCL (zw O N cA ad σ) H) (hS : va_S A s.heap H locs) (hf : some (none, σ) = some (r, σ')) (hdg : decode cc pc = .ok (.areturn, 1)) :
    W p l e R s m args below meth c H locs 0 0 (MQ below (zQc O N cA ad D A (some (va_rf (r.map ad))) σ') args s 0 0 A) (F0 m pc ls [.null]) := by
  obtain ⟨hx, hb, hts, hown, hK, hD, hRO, hml, hr, hlocks, hO⟩ := X
  cases hf
  exact W.aret (v := .null) hx hb hr (Or.inl ⟨_, rfl⟩) (Or.inl rfl) (fun t ht hW => ⟨⟨rfl, by rw [ht]; exact hP⟩, hS.F ht⟩) hS.2.2 hdg
theorem zret_r {k : Nat} {r : Option Nat} {σ' : SS} {C : String} (X : ZX O N cA ad D E A p s m args meth c cc own nL (some (.object C))) (hP : va_P D ZCL (zw O N cA ad σ) H) (hS : va_S A s.heap H locs) (hf : some (some k, σ) = some (r, σ')) (hdg : decode cc pc = .ok (.areturn, 1)) :
    W p l e R s m args below meth c H locs 0 0 (MQ below (zQc O N cA ad D A (some (va_rf (r.map ad))) σ') args s 0 0 A) (F0 m pc ls [.ref (ad k)]) := by
  obtain ⟨hx, hb, hts, hown, hK, hD, hRO, hml, hr, hlocks, hO⟩ := X
  cases hf
  exact W.aret (v := .ref (ad k)) hx hb hr (Or.inl ⟨_, rfl⟩) (Or.inr ⟨_, rfl⟩) (fun t ht hW => ⟨⟨rfl, by rw [ht]; exact hP⟩, hS.F ht⟩) hS.2.2 hdg
/-! static tables -/
theorem zgs (X : ZX O N cA ad D E A p s m args meth c cc own nL ret) (hS : va_S A s.heap H locs) {i index : Nat} {q : String × List Int32} (hi : ZTAB[i]? = some q) (hl : Cond.fieldLink own index "BlownSpaces" q.1 "[I" ∈ TB) (hdg : decode cc pc = .ok (.getstatic index, 3))
    (kk : W p l e R s m args below meth c H locs cells slots Q (F0 m (pc + 3) ls (.ref (E i) :: rest))) : W p l e R s m args below meth c H locs cells slots Q (F0 m pc ls rest) := by
  obtain ⟨hx, hb, hts, hown, hK, hD, hRO, -⟩ := X
  exact va_gets hx hb (hRO.1 i q hi).1 hS hown (hts _ hl) (fun _ h => h) hdg kk
theorem zgsN (X : ZX O N cA ad D E A p s m args meth c cc own nL ret) (hS : va_S A s.heap H locs) {i index : Nat} {q : String × List Int32} (hi : ZTAB[i]? = some q) (hl : Cond.fieldLinkNest own index "BlownSpaces" q.1 "[I" "BlownSpaces" ∈ NB) (hdg : decode cc pc = .ok (.getstatic index, 3))
    (kk : W p l e R s m args below meth c H locs cells slots Q (F0 m (pc + 3) ls (.ref (E i) :: rest))) : W p l e R s m args below meth c H locs cells slots Q (F0 m pc ls rest) := by
  obtain ⟨hx, hb, hts, hown, hK, hD, hRO, -⟩ := X
  exact va_getsN hx hb (hRO.1 i q hi).1 hS hown (va_Nw.use rfl (hRO.2.1 _ hl)) (fun _ h => h) hdg kk
theorem zst (X : ZX O N cA ad D E A p s m args meth c cc own nL ret) (hS : va_S A s.heap H locs) {k n : Nat} {q : String × List Int32} {i : Int32} (hi : ZTAB[k]? = some q) (hn : q.2.length = n) (hin : zin i n = true) (hdg : decode cc pc = .ok (.iaload, 1))
    (kk : W p l e R s m args below meth c H locs cells slots Q (F0 m (pc + 1) ls (.int (ztab k i) :: rest))) : W p l e R s m args below meth c H locs cells slots Q (F0 m pc ls (.int i :: .ref (E k) :: rest)) := by
  obtain ⟨hx, hb, hts, hown, hK, hD, hRO, -⟩ := X
  subst hn
  exact va_ti hx hb (hRO.1 k q hi).2 hS (zin_of hin) (by simp only [ztab, hi, Option.getD_some]) hdg kk
theorem zstl (X : ZX O N cA ad D E A p s m args meth c cc own nL ret) (hS : va_S A s.heap H locs) {k : Nat} {q : String × List Int32} {v : Int32} (hi : ZTAB[k]? = some q) (hv : Int32.ofNat q.2.length = v) (hdg : decode cc pc = .ok (.arraylength, 1))
    (kk : W p l e R s m args below meth c H locs cells slots Q (F0 m (pc + 1) ls (.int v :: rest))) : W p l e R s m args below meth c H locs cells slots Q (F0 m pc ls (.ref (E k) :: rest)) := by
  obtain ⟨hx, hb, hts, hown, hK, hD, hRO, -⟩ := X
  exact va_tlen hx hb (hRO.1 k q hi).2 hS hv hdg kk
/-! System.arraycopy, Math -/
theorem zcp_i (X : ZX O N cA ad D E A p s m args meth c cc own nL ret) (hP : va_P D ZCL (zw O N cA ad σ) H) (hS : va_S A s.heap H locs) (hsz : ls.size = nL) {index k0 k1 : Nat} {sp dp n : Int32} (hl : Cond.methodLink own index arraycopyName ∈ TB) (hnat : Cond.native arraycopyName ∈ TB) (hst : Cond.static arraycopyName ∈ TB) (hini : Cond.initialized "java/lang/System" ∈ TB)
    (hg : zok2 O 0 k0 sp k1 dp n = true) (hR : 1 ≤ R.frames ∧ (rest.map fun v => v.category).sum + (nativeFrameWords "java/lang/System" "arraycopy" 5 + 11) ≤ R.locals) (hdg : decode cc pc = .ok (.invokestatic index, 3))
    (kk : ∀ (H1 : Heap) (locs1 : List Loc), va_P D ZCL (zw O N cA ad (zI σ k1 (va_cpy (σ.1 k0) (σ.1 k1) sp.toNatClampNeg dp.toNatClampNeg n.toNatClampNeg))) H1 → va_S A s.heap H1 locs1 → W p l e R s m args below meth c H1 locs1 cells slots Q (F0 m (pc + 3) ls rest)) : W p l e R s m args below meth c H locs cells slots Q (F0 m pc ls (.int n :: .int dp :: .ref (ad k1) :: .int sp :: .ref (ad k0) :: rest)) := by
  simp only [zok2, Bool.and_eq_true, Bool.not_eq_true', decide_eq_false_iff_not, decide_eq_true_eq] at hg
  obtain ⟨⟨⟨g0, g1⟩, ⟨g2, g3⟩, g4⟩, g5, g6⟩ := hg
  obtain ⟨rs0, hO0⟩ := zia_of g0
  obtain ⟨rs1, hO1⟩ := zia_of g1
  have w0 := zw_arr (σ := σ) X hO0
  have w1 := zw_arr (σ := σ) X hO1
  obtain ⟨hx, hb, hts, hown, hK, hD, hRO, hml, hr, hlocks, hO⟩ := X
  refine va_copyi (D := D) (ty := .int) hx hb (hml.trans hsz.symm) hown (hts _ hl) (hts _ hnat) (hts _ hst) (hts _ hini) hK hP (hD.va O cA σ) hS k0 k1 0 0 w0 w1 rfl rfl rfl g2 g3 g4 g5 g6 (fun _ _ => rfl) hR.1 hR.2 hdg (fun H1 locs1 hP1 _ hS1 => kk H1 locs1 ?_ hS1)
  rw [zw_set (σ := σ) (σ' := zI σ k1 (va_cpy (σ.1 k0) (σ.1 k1) sp.toNatClampNeg dp.toNatClampNeg n.toNatClampNeg)) (fun a ha => if_neg ha) (fun a _ => rfl) (by rw [hO1]; simp [zcell, zI, zS, zarr])] at hP1
  exact hP1
theorem zcp_l (X : ZX O N cA ad D E A p s m args meth c cc own nL ret) (hP : va_P D ZCL (zw O N cA ad σ) H) (hS : va_S A s.heap H locs) (hsz : ls.size = nL) {index k0 k1 : Nat} {sp dp n : Int32} (hl : Cond.methodLink own index arraycopyName ∈ TB) (hnat : Cond.native arraycopyName ∈ TB) (hst : Cond.static arraycopyName ∈ TB) (hini : Cond.initialized "java/lang/System" ∈ TB)
    (hg : zok2 O 1 k0 sp k1 dp n = true) (hR : 1 ≤ R.frames ∧ (rest.map fun v => v.category).sum + (nativeFrameWords "java/lang/System" "arraycopy" 5 + 11) ≤ R.locals) (hdg : decode cc pc = .ok (.invokestatic index, 3))
    (kk : ∀ (H1 : Heap) (locs1 : List Loc), va_P D ZCL (zw O N cA ad (zL σ k1 (va_cpy (σ.2 k0) (σ.2 k1) sp.toNatClampNeg dp.toNatClampNeg n.toNatClampNeg))) H1 → va_S A s.heap H1 locs1 → W p l e R s m args below meth c H1 locs1 cells slots Q (F0 m (pc + 3) ls rest)) : W p l e R s m args below meth c H locs cells slots Q (F0 m pc ls (.int n :: .int dp :: .ref (ad k1) :: .int sp :: .ref (ad k0) :: rest)) := by
  simp only [zok2, Bool.and_eq_true, Bool.not_eq_true', decide_eq_false_iff_not, decide_eq_true_eq] at hg
  obtain ⟨⟨⟨g0, g1⟩, ⟨g2, g3⟩, g4⟩, g5, g6⟩ := hg
  obtain ⟨rs0, hO0⟩ := zia_of g0
  obtain ⟨rs1, hO1⟩ := zia_of g1
  have w0 := zw_arr (σ := σ) X hO0
  have w1 := zw_arr (σ := σ) X hO1
  obtain ⟨hx, hb, hts, hown, hK, hD, hRO, hml, hr, hlocks, hO⟩ := X
  refine va_copyl (D := D) (ty := .long) hx hb (hml.trans hsz.symm) hown (hts _ hl) (hts _ hnat) (hts _ hst) (hts _ hini) hK hP (hD.va O cA σ) hS k0 k1 1 1 w0 w1 rfl rfl rfl g2 g3 g4 g5 g6 (fun _ _ => rfl) hR.1 hR.2 hdg (fun H1 locs1 hP1 _ hS1 => kk H1 locs1 ?_ hS1)
  rw [zw_set (σ := σ) (σ' := zL σ k1 (va_cpy (σ.2 k0) (σ.2 k1) sp.toNatClampNeg dp.toNatClampNeg n.toNatClampNeg)) (fun a _ => rfl) (fun a ha => zL_ne ha) (by rw [hO1]; simp [zcell, zL, zSL, zarr])] at hP1
  exact hP1
theorem zmax (X : ZX O N cA ad D E A p s m args meth c cc own nL ret) (hsz : ls.size = nL) {index : Nat} (hl : Cond.methodLink own index Lib.Math.max.name ∈ TB) (hst : Cond.static Lib.Math.max.name ∈ TB) (hini : Cond.initialized "java/lang/Math" ∈ TB) (hco : Cond.code Lib.Math.max.name Lib.Math.max.code 2 (some .int) ∈ TB)
    (hR : 1 ≤ R.frames ∧ (rest.map fun v => v.category).sum + 13 ≤ R.locals) {x y : Int32} (hdg : decode cc pc = .ok (.invokestatic index, 3))
    (kk : W p l e R s m args below meth c H locs 0 0 Q (F0 m (pc + 3) ls (.int (if x < y then y else x) :: rest))) : W p l e R s m args below meth c H locs 0 0 Q (F0 m pc ls (.int y :: .int x :: rest)) := by
  obtain ⟨hx, hb, hts, hown, hK, hD, hRO, hml, hr, hlocks, hO⟩ := X
  exact va_mmax hx hb (hml.trans hsz.symm) hown (hts _ hl) (hts _ hst) (hts _ hini) (hts _ hco) hR.1 hR.2 (Nat.zero_le _) (Nat.zero_le _) hdg kk
theorem zmin (X : ZX O N cA ad D E A p s m args meth c cc own nL ret) (hsz : ls.size = nL) {index : Nat} (hl : Cond.methodLink own index Lib.Math.min.name ∈ TB) (hst : Cond.static Lib.Math.min.name ∈ TB) (hini : Cond.initialized "java/lang/Math" ∈ TB) (hco : Cond.code Lib.Math.min.name Lib.Math.min.code 2 (some .int) ∈ TB)
    (hR : 1 ≤ R.frames ∧ (rest.map fun v => v.category).sum + 13 ≤ R.locals) {x y : Int32} (hdg : decode cc pc = .ok (.invokestatic index, 3))
    (kk : W p l e R s m args below meth c H locs 0 0 Q (F0 m (pc + 3) ls (.int (if y < x then y else x) :: rest))) : W p l e R s m args below meth c H locs 0 0 Q (F0 m pc ls (.int y :: .int x :: rest)) := by
  obtain ⟨hx, hb, hts, hown, hK, hD, hRO, hml, hr, hlocks, hO⟩ := X
  exact va_mmin hx hb (hml.trans hsz.symm) hown (hts _ hl) (hts _ hst) (hts _ hini) (hts _ hco) hR.1 hR.2 (Nat.zero_le _) (Nat.zero_le _) hdg kk
/-! constants of the pool -/
theorem zldc (X : ZX O N cA ad D E A p s m args meth c cc own nL ret) {index : Nat} {v : Int32} (hl : Cond.constant own index v ∈ TB) (hdg : decode cc pc = .ok (.ldc index, 2)) (kk : W p l e R s m args below meth c H locs cells slots Q (F0 m (pc + 2) ls (.int v :: rest))) : W p l e R s m args below meth c H locs cells slots Q (F0 m pc ls rest) :=
  lv_ldc X.1 X.2.1 X.2.2.2.1 (X.2.2.1 _ hl) hdg kk
theorem zldcw (X : ZX O N cA ad D E A p s m args meth c cc own nL ret) {index : Nat} {v : Int32} (hl : Cond.constant own index v ∈ TB) (hdg : decode cc pc = .ok (.ldc_w index, 3)) (kk : W p l e R s m args below meth c H locs cells slots Q (F0 m (pc + 3) ls (.int v :: rest))) : W p l e R s m args below meth c H locs cells slots Q (F0 m pc ls rest) :=
  lv_ldcw X.1 X.2.1 X.2.2.2.1 (X.2.2.1 _ hl) hdg kk
theorem zldc2 (X : ZX O N cA ad D E A p s m args meth c cc own nL ret) {index : Nat} {v : Int64} (hl : Cond.constantLong own index v ∈ TB) (hdg : decode cc pc = .ok (.ldc2_w index, 3)) (kk : W p l e R s m args below meth c H locs cells slots Q (F0 m (pc + 3) ls (.long v :: rest))) : W p l e R s m args below meth c H locs cells slots Q (F0 m pc ls rest) :=
  lv_ldc2 X.1 X.2.1 X.2.2.2.1 (X.2.2.1 _ hl) hdg kk
/-! calls within one world -/
def zV (y : MethodName) (code : ByteArray) (maxL : Nat) (ret : Option FieldType) (C : String) (n : Nat) : Prop :=
  (y.cls = C ∧ y.cls ≠ "java/lang/invoke/MethodHandle" ∧ y.cls ≠ "java/lang/invoke/VarHandle" ∧ (parseMethodDescriptor y.desc).map (fun d => d.parameters.length) = some n) ∧ Cond.instanceMethod y ∈ TB ∧ Cond.selects C y y ∈ TB ∧ Cond.initialized C ∈ TB ∧ Cond.code y code maxL ret ∈ TB
def zVs (y : MethodName) (code : ByteArray) (maxL : Nat) (ret : Option FieldType) (n : Nat) : Prop :=
  (y.cls ≠ "java/lang/invoke/MethodHandle" ∧ y.cls ≠ "java/lang/invoke/VarHandle" ∧ (parseMethodDescriptor y.desc).map (fun d => d.parameters.length) = some n) ∧ Cond.static y ∈ TB ∧ Cond.initialized y.cls ∈ TB ∧ Cond.code y code maxL ret ∈ TB
theorem zgood {a : List Cond} (h : ∀ w ∈ a, w ∈ TB) : GoodIn TB a := fun w hw => ⟨h w hw, tb_good (h w hw)⟩
theorem zcall_of {O1 : Nat → OD} {N1 : Nat} {ad1 : Nat → Nat} {rv : Option Value} {σ' : SS} {st0 : List Value} {a : Array Value} (hr : va_Run p l e R s m args below meth c H locs 0 0 0 0 (F0 m pc ls st0) rest (zQc O1 N1 cA ad1 D A rv σ' a) A) (hS : va_S A s.heap H locs)
    (kk : ∀ (H1 : Heap) (locs1 : List Loc), va_P D ZCL (zw O1 N1 cA ad1 σ') H1 → va_S A s.heap H1 locs1 → W p l e R s m args below meth c H1 locs1 0 0 Q (F0 m (pc + 3) ls (rv.toList ++ rest))) : W p l e R s m args below meth c H locs 0 0 Q (F0 m pc ls st0) := by
  intro T hT X
  obtain ⟨v, st₀, t, T', L, h0, X', hL, e1, e2, ⟨⟨hv, hp⟩, hz, hk⟩, st⟩ := hr T hT X
  cases hv
  rw [h0] at hz hk
  obtain ⟨t2, a1, b1⟩ := kk T'.heap (locs ++ L) (by rw [e1]; exact hp) ⟨Nat.le_trans hS.1 (by rw [e1]; exact hz), fun q h1 h2 => by rw [e1, hk q (Nat.lt_of_lt_of_le h1 hS.1) h2]; exact hS.2.1 q h1 h2, fun q hq => by
      rcases List.mem_append.mp hq with h | h
      · exact hS.2.2 q h
      · exact hL q h⟩ T' rfl X'
  exact ⟨t2, st t2 a1, b1⟩
theorem zcallV (X : ZX O N cA ad D E A p s m args meth c cc own nL ret) (hP : va_P D ZCL (zw O N cA ad σ) H) (hS : va_S A s.heap H locs) (hsz : ls.size = nL) {y : MethodName} {code : ByteArray} {maxL d d' k ci n index NN : Nat} {ret' : Option FieldType} {C : String} {T : u_T} {As st : List Value} {rv : Option Value} {σ' : SS} {pat : List Bool}
    (hM : zCon O N cA ad D E l y code maxL ret' d' A (.ref (ad k) :: As) σ rv σ') (hV : zV y code maxL ret' C n) (hp : ZP O ci pat) (hg : zis O ci k = true) (hci : ci ≠ 99) (hc : ZCL[ci]? = some (C, T, NN)) (hl : Cond.methodLink own index y ∈ TB)
    (hR : d' + 1 ≤ d ∧ 8 + (maxL + 11) + 100 * d' ≤ 100 * d) (hn : As.length = n) (hst : st = As.reverse ++ .ref (ad k) :: rest) (hW : (rest.map fun v => v.category).sum ≤ 8) (hdg : decode cc pc = .ok (.invokevirtual index, 3))
    (kk : ∀ (H1 : Heap) (locs1 : List Loc), va_P D ZCL (zw O N cA ad σ') H1 → va_S A s.heap H1 locs1 → W p l e (zrm d) s m args below meth c H1 locs1 0 0 Q (F0 m (pc + 3) ls (rv.toList ++ rest))) : W p l e (zrm d) s m args below meth c H locs 0 0 Q (F0 m pc ls st) := by
  obtain ⟨fl, hO, -⟩ := hp k hg
  have hw := zw_obj (σ := σ) X hO hci
  obtain ⟨hx, hb, hts, hown, hK, hD, hRO, hml, hr, hlocks, hO'⟩ := X
  obtain ⟨v1, v2, v3, v4, v5⟩ := hV
  refine zcall_of (O1 := O) (N1 := N) (ad1 := ad) (va_runV (As := As) (rest := rest) ⟨hx, hb, hml, hown, hts⟩ hM (cwV n hts (zgood (fun w hw => ?_)) rfl rfl rfl v1 hR) ⟨fun a U g mk q => ⟨q.1, zPre.blind q.2 g mk a⟩, va_recv hK hP hc hw, fun U hU hW => ⟨rfl, by rw [hU]; exact hP, va_K.moved hW.alike hK, hD, by rw [hU]; exact hRO.step hS hW⟩⟩ rfl hn hsz hst (lv_room hW) hdg ⟨Nat.le_refl _, Nat.le_refl _⟩) hS kk
  rcases List.mem_append.mp hw with h | h
  · simp only [List.mem_cons, List.not_mem_nil, or_false] at h
    rcases h with rfl | rfl | rfl | rfl
    · exact hl
    · exact v2
    · exact v3
    · exact v4
  · rcases List.mem_cons.mp h with rfl | h
    · exact v5
    · exact h
theorem zcallS (X : ZX O N cA ad D E A p s m args meth c cc own nL ret) (hP : va_P D ZCL (zw O N cA ad σ) H) (hS : va_S A s.heap H locs) (hsz : ls.size = nL) {y : MethodName} {code : ByteArray} {maxL d d' n index : Nat} {ret' : Option FieldType} {As st : List Value} {rv : Option Value} {σ' : SS}
    (hM : zCon O N cA ad D E l y code maxL ret' d' A As σ rv σ') (hV : zVs y code maxL ret' n) (hl : Cond.methodLink own index y ∈ TB)
    (hR : d' + 1 ≤ d ∧ 8 + (maxL + 11) + 100 * d' ≤ 100 * d) (hn : As.length = n) (hst : st = As.reverse ++ rest) (hW : (rest.map fun v => v.category).sum ≤ 8) (hdg : decode cc pc = .ok (.invokestatic index, 3))
    (kk : ∀ (H1 : Heap) (locs1 : List Loc), va_P D ZCL (zw O N cA ad σ') H1 → va_S A s.heap H1 locs1 → W p l e (zrm d) s m args below meth c H1 locs1 0 0 Q (F0 m (pc + 3) ls (rv.toList ++ rest))) : W p l e (zrm d) s m args below meth c H locs 0 0 Q (F0 m pc ls st) := by
  obtain ⟨hx, hb, hts, hown, hK, hD, hRO, hml, hr, hlocks, hO'⟩ := X
  obtain ⟨v1, v2, v4, v5⟩ := hV
  refine zcall_of (O1 := O) (N1 := N) (ad1 := ad) (va_runS (As := As) (rest := rest) ⟨hx, hb, hml, hown, hts⟩ hM (va_cwS n hts (zgood (fun w hw => ?_)) rfl rfl rfl v1 hR) ⟨fun a U g mk q => ⟨q.1, zPre.blind q.2 g mk a⟩, fun U hU hW => ⟨rfl, by rw [hU]; exact hP, va_K.moved hW.alike hK, hD, by rw [hU]; exact hRO.step hS hW⟩⟩ rfl hn hsz hst (lv_room hW) hdg ⟨Nat.le_refl _, Nat.le_refl _⟩) hS kk
  rcases List.mem_append.mp hw with h | h
  · simp only [List.mem_cons, List.not_mem_nil, or_false] at h
    rcases h with rfl | rfl | rfl
    · exact hl
    · exact v2
    · exact v4
  · rcases List.mem_cons.mp h with rfl | h
    · exact v5
    · exact h
end ZW
