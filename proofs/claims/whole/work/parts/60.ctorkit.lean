def va_AOA (t : FieldType) (U : State) : Prop := (Cond.arrayOver (.array t)).before #[] U = true
theorem va_AOA.of {t : FieldType} {A : Array Value} {U : State} (h : (Cond.arrayOver (.array t)).before A U = true) : va_AOA t U := h
theorem va_AOA.use {t : FieldType} {A : Array Value} {U : State} (h : va_AOA t U) : (Cond.arrayOver (.array t)).before A U = true := h
/-! ===== BEGIN new T[n][m]: the outer array a place, the inner ones among the pooled ===== -/
/-- f, but v at every address of l -/
def vr_up {α : Type} (f : Nat → α) (l : List Nat) (v : α) : Nat → α := fun a => if a ∈ l then v else f a
theorem vr_up_in {α : Type} {f : Nat → α} {l : List Nat} {v : α} {a : Nat} (h : a ∈ l) : vr_up f l v a = v := if_pos h
theorem vr_up_ne {α : Type} {f : Nat → α} {l : List Nat} {v : α} {a : Nat} (h : a ∉ l) : vr_up f l v a = f a := if_neg h
theorem vr_rows {L l : List Nat} {f : Nat → va_E} {e : va_E} (h : ∀ a, a ∈ l → a ∉ L) : va_pl L f ++ l.map (fun a => (a, e)) = va_pl (L ++ l) (vr_up f l e) := by
  unfold va_pl
  rw [List.map_append]
  congr 1
  · apply List.map_congr_left
    intro a ha
    rw [vr_up_ne (fun q => h a q ha)]
  · apply List.map_congr_left
    intro a ha
    rw [vr_up_in ha]
theorem vr_lay {X rows : va_W} {x : Nat × va_E} {pl : va_W} {D : va_G} {cl : List vw_C} {H : Heap} (hP : va_P D cl (((X ++ pl) ++ [x]) ++ rows) H) : va_P D cl ((X ++ [x]) ++ (pl ++ rows)) H := by
  rw [List.append_assoc (X ++ pl)] at hP
  have h := va_P.swap hP
  rw [← List.append_assoc X] at h
  have h2 := va_P.swap h
  rw [List.append_assoc (X ++ [x])] at h2
  exact h2
theorem vr_layD {X rows : va_W} {x : Nat × va_E} {pl : va_W} {A : Nat → Prop} (hD : va_D A (((X ++ pl) ++ [x]) ++ rows)) : va_D A ((X ++ [x]) ++ (pl ++ rows)) := by
  rw [List.append_assoc (X ++ pl)] at hD
  have h := va_D.swap hD
  rw [← List.append_assoc X] at h
  have h2 := va_D.swap h
  rw [List.append_assoc (X ++ [x])] at h2
  exact h2
theorem vr_outer (c : ClassId) (N h0 : Nat) : ∀ i : Nat, Jvm.Free.Multi.outerC c N h0 i = arrV c N (fun j => va_rf (if j < i then some (h0 + 1 + j) else none))
  | 0 => by
    show ({ cls := c, slots := Array.replicate N .null, vm := .none } : Cell) = _
    rw [arrV_new]
    refine congrArg (arrV c N) (funext fun j => ?_)
    simp [va_rf]
  | i + 1 => by
    show (Jvm.Free.Multi.outerC c N h0 i).setSlot i (.ref (h0 + 1 + i)) = _
    rw [vr_outer c N h0 i, arrV_store]
    refine congrArg (arrV c N) (funext fun j => ?_)
    by_cases e : j = i
    · subst e
      simp [updV, va_rf]
    · by_cases h : j < i
      · simp [updV, e, h, Nat.lt_succ_of_lt h]
      · simp [updV, e, h, show ¬ j < i + 1 by omega]
section VGM
variable {p : Program} {l : Launch} {e : Env} {R : Room} {s : State} {m : MethodId} {args : Array Value} {below : List Frame} {meth : Method} {c : Code} {H : Heap} {locs : List Loc} {cells slots : Nat} {Q : State → Prop}
variable {cc : ByteArray} {pc : Nat} {ls : Array Slot} {rest : List Value} {D : va_G} {cl : List vw_C} {A : Nat → Prop} {a : Nat} {tys : List (ClassId × FieldType)} {ws : va_W} {H0 : Heap}
theorem va_mna {X : va_W} {L : List Nat} {f : Nat → va_E} {cc : ByteArray} (hexec : p.tables.exec = Jvm.exec) (hb : c.code = cc) {own : String} {index : Nat} {ty : FieldType} {cy : ClassId} (hown : s.vm.findClass own = some m.cls) (hclink : (Cond.classLink own index ("[" ++ (FieldType.array ty).toString)).before args s = true) (hover : va_AOA ty s) (harr : (Cond.arrayClass ty).before args s = true) (hcy : s.vm.findClass (FieldType.array ty).toString = some cy)
    (hK : va_K D cl tys s) (hP : va_P D cl (X ++ va_pl L f) H) (hD : va_D A (X ++ va_pl L f)) (hS : va_S A H0 H locs) (hA : ∀ q, H0.size ≤ q → A q) {n k : Int32} {N' K' : Nat} {z : vp_A} (hn : ¬ n < 0) (hk : ¬ k < 0) (hN : n.toNatClampNeg = N') (hM : k.toNatClampNeg = K')
    (hb1 : N' * 4 ≤ 536870912) (hb2 : K' * componentBytes ty ≤ 536870912) (hb3 : K' ≤ 536870912) (hdf : fits ty (defaultValue ty) = true) (hdd : (defaultValue ty).isDefault = true) (hcells : cells + (1 + N') ≤ R.cells) (hslots : slots + (N' + N' * K') ≤ R.slots) (hz : ∀ c : ClassId, Jvm.Free.Multi.innerC c K' (defaultValue ty) = vp_cell c z) (hdg : decode cc pc = .ok (.multianewarray index 2, 4))
    (kk : ∀ (q : Nat) (r : Nat → Nat) (cA : ClassId) (H1 : Heap), (∀ i j : Nat, i < N' → j < N' → r i = r j → i = j) → (∀ i : Nat, i < N' → r i ∉ L) → va_K D cl (tys ++ [(cA, .array ty)]) s →
      va_P D cl ((X ++ [(q, .inl (cA, N', .inr (.inr (.inr (.inr (fun i => if i < N' then some (r i) else none))))))]) ++ va_pl (L ++ (List.range N').map r) (vr_up f ((List.range N').map r) (.inl (cy, z)))) H1 → va_D A ((X ++ [(q, .inl (cA, N', .inr (.inr (.inr (.inr (fun i => if i < N' then some (r i) else none))))))]) ++ va_pl (L ++ (List.range N').map r) (vr_up f ((List.range N').map r) (.inl (cy, z)))) → va_S A H0 H1 locs →
      W p l e R s m args below meth c H1 locs (cells + 1 + N') (slots + N' + N' * K') Q (F0 m (pc + 4) ls (.ref q :: rest))) : W p l e R s m args below meth c H locs cells slots Q (F0 m pc ls (.int k :: .int n :: rest)) := by
  subst hN
  subst hM
  intro T hT Xs
  obtain ⟨vm₁, cA, comp, -, fA, fC, hO, -, X', step⟩ := Xs.multianewarray2F hexec hown hclink (va_AOA.use hover) harr (g := F0 m pc ls (.int k :: .int n :: rest)) rfl (by rw [hb]; exact hdg) rfl hn hk hb1 hb2 hb3 hdf hdd hcells hslots
  have ec : some cy = some comp := hcy.symm.trans fC
  cases ec
  generalize hF : Jvm.Free.Multi.fill (T.setVm vm₁) cA cy n.toNatClampNeg k.toNatClampNeg (defaultValue ty) n.toNatClampNeg = F at X' step
  have hTh : (T.setVm vm₁).heap = H := hT
  obtain ⟨f1, f2, -, -⟩ := Jvm.Free.Multi.fill_facts (T.setVm vm₁) cA cy n.toNatClampNeg k.toNatClampNeg (defaultValue ty) n.toNatClampNeg
  rw [hF, hTh] at f1 f2
  have hold : ∀ x : Nat, x < H.size → F.heap[x]? = H[x]? := fun x hx => by
    have := Jvm.Free.Multi.fill_old (T.setVm vm₁) cA cy n.toNatClampNeg k.toNatClampNeg (defaultValue ty) (a := x) (by rw [hTh]; exact hx) n.toNatClampNeg
    rw [hF, hTh] at this
    exact this
  have hrow : ∀ j : Nat, j < n.toNatClampNeg → F.heap[H.size + 1 + j]? = some (vp_cell cy z) := fun j hj => by
    have := Jvm.Free.Multi.fill_inner (T.setVm vm₁) cA cy n.toNatClampNeg k.toNatClampNeg (defaultValue ty) n.toNatClampNeg j hj
    rw [hF, hTh, hz] at this
    exact this
  have hout : Jvm.Free.Multi.outerC cA n.toNatClampNeg H.size n.toNatClampNeg = vp_cell cA (n.toNatClampNeg, .inr (.inr (.inr (.inr (fun i => if i < n.toNatClampNeg then some (H.size + 1 + i) else none))))) := by
    rw [vp_cell_q]
    exact vr_outer cA n.toNatClampNeg H.size n.toNatClampNeg
  rw [hout] at f2
  have hlt : ∀ a, a ∈ L → a < H.size := fun a ha => by
    obtain ⟨k9, hk9⟩ := va_pl_get (X := X) (f := f) ha
    exact (hP k9 _ hk9).lt
  have hnl : ∀ i : Nat, i < n.toNatClampNeg → H.size + 1 + i ∉ L := fun i _ h => by
    have := hlt _ h
    omega
  have hnm : ∀ a, a ∈ (List.range n.toNatClampNeg).map (fun i => H.size + 1 + i) → a ∉ L := fun a ha h => by
    obtain ⟨i, -, rfl⟩ := List.mem_map.mp ha
    have := hlt _ h
    omega
  have hP0 : va_P D cl (X ++ va_pl L f) F.heap := hP.kept (fun k9 x hx => hold x.1 ((hP k9 x hx).lt))
  have hP1 : va_P D cl ((X ++ va_pl L f) ++ [(H.size, .inl (cA, n.toNatClampNeg, .inr (.inr (.inr (.inr (fun i => if i < n.toNatClampNeg then some (H.size + 1 + i) else none))))))]) F.heap := hP0.app (fun k9 x hx => by
    have h0 : k9 < 1 := (List.getElem?_eq_some_iff.mp hx).1
    rw [show k9 = 0 by omega] at hx
    cases hx
    exact f2)
  have hP2 : va_P D cl (((X ++ va_pl L f) ++ [(H.size, .inl (cA, n.toNatClampNeg, .inr (.inr (.inr (.inr (fun i => if i < n.toNatClampNeg then some (H.size + 1 + i) else none))))))]) ++ ((List.range n.toNatClampNeg).map (fun i => H.size + 1 + i)).map (fun a => (a, .inl (cy, z)))) F.heap := hP1.app (fun k9 x hx => by
    obtain ⟨a, ha, rfl⟩ := List.mem_map.mp (List.mem_of_getElem? hx)
    obtain ⟨i, hi, rfl⟩ := List.mem_map.mp ha
    exact hrow i (List.mem_range.mp hi))
  have hD2 : va_D A (((X ++ va_pl L f) ++ [(H.size, .inl (cA, n.toNatClampNeg, .inr (.inr (.inr (.inr (fun i => if i < n.toNatClampNeg then some (H.size + 1 + i) else none))))))]) ++ ((List.range n.toNatClampNeg).map (fun i => H.size + 1 + i)).map (fun a => (a, .inl (cy, z)))) := by
    have hD1 := hD.push (e := .inl (cA, n.toNatClampNeg, .inr (.inr (.inr (.inr (fun i => if i < n.toNatClampNeg then some (H.size + 1 + i) else none)))))) hP rfl (hA _ hS.1)
    generalize hW1 : (X ++ va_pl L f) ++ [(H.size, .inl (cA, n.toNatClampNeg, .inr (.inr (.inr (.inr (fun i => if i < n.toNatClampNeg then some (H.size + 1 + i) else none))))))] = W1 at hD1 hP1 ⊢
    have hle : ∀ (k9 : Nat) (x : Nat × va_E), W1[k9]? = some x → x.1 ≤ H.size := fun k9 x hx => by
      rw [← hW1] at hx
      by_cases hl : k9 < (X ++ va_pl L f).length
      · rw [List.getElem?_append_left hl] at hx
        exact Nat.le_of_lt ((hP k9 x hx).lt)
      · rw [List.getElem?_append_right (by omega)] at hx
        have h0 : k9 - (X ++ va_pl L f).length < 1 := (List.getElem?_eq_some_iff.mp hx).1
        rw [show k9 - (X ++ va_pl L f).length = 0 by omega] at hx
        cases hx
        exact Nat.le_refl _
    have hr : ∀ (k9 : Nat) (x : Nat × va_E), (((List.range n.toNatClampNeg).map (fun i => H.size + 1 + i)).map (fun a => ((a, .inl (cy, z)) : Nat × va_E)))[k9]? = some x → x.1 = H.size + 1 + k9 := fun k9 x hx => by
      rw [List.getElem?_map, List.getElem?_map] at hx
      by_cases h9 : k9 < n.toNatClampNeg
      · rw [List.getElem?_range h9] at hx
        cases hx
        rfl
      · have hn0 : (List.range n.toNatClampNeg)[k9]? = none := List.getElem?_eq_none (by rw [List.length_range]; omega)
        rw [hn0] at hx
        cases hx
    refine ⟨fun i j x y hi hj hxy => ?_, fun k9 x hx => ?_⟩
    · by_cases h1 : i < W1.length <;> by_cases h2 : j < W1.length
      · rw [List.getElem?_append_left h1] at hi
        rw [List.getElem?_append_left h2] at hj
        exact hD1.1 i j x y hi hj hxy
      · rw [List.getElem?_append_left h1] at hi
        rw [List.getElem?_append_right (by omega)] at hj
        have := hle _ _ hi
        have := hr _ _ hj
        omega
      · rw [List.getElem?_append_right (by omega)] at hi
        rw [List.getElem?_append_left h2] at hj
        have := hle _ _ hj
        have := hr _ _ hi
        omega
      · rw [List.getElem?_append_right (by omega)] at hi hj
        have := hr _ _ hi
        have := hr _ _ hj
        omega
    · by_cases h1 : k9 < W1.length
      · rw [List.getElem?_append_left h1] at hx
        exact hD1.2 k9 x hx
      · rw [List.getElem?_append_right (by omega)] at hx
        have := hr _ _ hx
        exact hA _ (by have := hS.1; omega)
  have hAr : ArrOfT s cA (.array ty) := fun N9 z9 => by
    obtain ⟨-, k9, hk9, cm9, hkk9⟩ := (hO 0 0 0).1
    exact ⟨(fun q hq => by cases hq), k9, hk9, cm9, hkk9⟩
  have hK2 : va_K D cl (tys ++ [(cA, .array ty)]) s := ⟨hK.1, fun k9 x hx => by
    by_cases hl : k9 < tys.length
    · rw [List.getElem?_append_left hl] at hx
      exact hK.2 k9 x hx
    · rw [List.getElem?_append_right (by omega)] at hx
      have h0 : k9 - tys.length < 1 := (List.getElem?_eq_some_iff.mp hx).1
      rw [show k9 - tys.length = 0 by omega] at hx
      cases hx
      exact ⟨hAr, fA⟩⟩
  obtain ⟨t, a1, b1⟩ := kk H.size (fun i => H.size + 1 + i) cA F.heap (fun i j _ _ h => by have h9 : H.size + 1 + i = H.size + 1 + j := h; omega) hnl hK2 (by rw [← vr_rows hnm]; exact vr_lay hP2) (by rw [← vr_rows hnm]; exact vr_layD hD2) ⟨by rw [f1]; have := hS.1; omega, fun x h1 h2 => (hold x (Nat.lt_of_lt_of_le h1 hS.1)).trans (hS.2.1 x h1 h2), hS.2.2⟩ F rfl X'
  refine ⟨t, step t ?_, b1⟩
  have e : T.heap.size = H.size := by rw [hT]
  rw [e]
  exact a1
end VGM
/-! ===== END ===== -/
theorem zover_spec {U : State} {t : FieldType} (h : va_AOA t U) :
    ∃ comp c k, U.vm.findClass (FieldType.array t).toString = some comp ∧ (U.vm.classes.findIdx? fun x => match x.kind with | .array component _ => component == comp | _ => false) = some c ∧ U.vm.classes[c]? = some k ∧ k.kind = .array comp (.array t) ∧
      U.vm.findClass ("[" ++ (FieldType.array t).toString) = some c := by
  unfold va_AOA Cond.before Cond.holds at h
  simp only [Cond.value, beq_iff_eq] at h
  cases hc : U.vm.findClass (FieldType.array t).toString with
  | none => simp [hc] at h
  | some comp =>
    simp only [hc, Option.bind_some, Option.bind_eq_some_iff, Option.map_eq_some_iff] at h
    obtain ⟨c, hi, k, hk, hb⟩ := h
    obtain ⟨hlt, hp, -⟩ := Array.findIdx?_eq_some_iff_getElem.mp hi
    have hkk : U.vm.classes[c] = k := (Array.getElem?_eq_some_iff.mp hk).2
    rw [hkk] at hp
    cases hkind : k.kind with
    | array component ty =>
      rw [hkind] at hb hp
      simp at hb hp
      exact ⟨comp, c, k, rfl, hi, hk, by rw [hkind, hp, hb.1], hb.2⟩
    | _ => rw [hkind] at hb; simp at hb
theorem va_AOA.moved {t : FieldType} {u U : State} (hvm : u.vm.Alike U.vm) (h : va_AOA t u) : va_AOA t U := by
  obtain ⟨comp, c, k, h1, h2, h3, h4, h5⟩ := zover_spec h
  obtain ⟨k', hk', he⟩ := hvm.2.2 _ _ h3
  have hi : (U.vm.classes.findIdx? fun (x : Class) => match x.kind with | .array component _ => component == comp | _ => false) = some c := by
    have e1 := va_idx_bare U.vm comp
    have e2 := va_idx_bare u.vm comp
    have e3 : U.vm.bare = u.vm.bare := by first | exact hvm.bare_eq | exact hvm.bare_eq.symm
    rw [e3] at e1
    exact e1.symm.trans (e2.trans h2)
  have hkind : k'.kind = .array comp (.array t) := by rw [he]; exact h4
  have f1 : U.vm.findClass (FieldType.array t).toString = some comp := by rw [hvm.findClass]; exact h1
  have f2 : U.vm.findClass ("[" ++ (FieldType.array t).toString) = some c := by rw [hvm.findClass]; exact h5
  unfold va_AOA Cond.before Cond.holds
  simp only [Cond.value]
  rw [f1, Option.bind_some]
  refine (congrArg (fun o : Option Nat => (o.bind (fun c => (U.vm.classes[c]?).map fun (k : Class) => match k.kind with | .array _ ty => decide (ty = FieldType.array t) && decide (U.vm.findClass ("[" ++ (FieldType.array t).toString) = some c) | _ => false) == some true)) hi).trans ?_
  simp [hk', hkind, f2]
def zAO (U : State) : Prop := va_AO "BlownSpaces$Klass" U ∧ va_AOA .long U
theorem zAO.moved {u U : State} (hvm : u.vm.Alike U.vm) (h : zAO u) : zAO U := ⟨h.1.moved hvm, h.2.moved hvm⟩
/-! ===== constructors: from one new object to a world ===== -/
def Oz : Nat → OD := fun _ => .inl (99, [])
abbrev adz : Nat → Nat := fun _ => 0
def zQk (D : va_G) (RW : Nat → va_W → Prop) (h0 : Nat) (A : Nat → Prop) : Array Value → State → Outcome → State → Prop := fun _ st o t =>
  (o = .returned none ∧ ∃ w, RW h0 w ∧ va_P D ZCL w t.heap ∧ va_D A w) ∧ va_F A st t
def zct (cA : Nat → ClassId) (D : va_G) (E : Nat → Nat) (l : Launch) (y : MethodName) (code : ByteArray) (maxL F mc ms Lc : Nat) (e0 : va_E) (RW : Nat → va_W → Prop) : Prop :=
  ∀ (h0 sz : Nat), Met l y (Cond.code y code maxL none :: TB) { frames := F, cells := mc, slots := ms, locals := Lc } (va_Pc [.ref h0] (fun U => U.heap.size = sz ∧ va_P D ZCL [(h0, e0)] U.heap ∧ va_K D ZCL (ztys cA) U ∧ zRO E (va_A [(h0, e0)] sz) U U.heap ∧ va_D (fun _ => True) [(h0, e0)] ∧ zAO U))
    (zQk D RW h0 (va_A [(h0, e0)] sz)) mc ms (va_A [(h0, e0)] sz)
theorem zRO.narrow {E : Nat → Nat} {A B : Nat → Prop} {U : State} {H : Heap} (h : zRO E A U H) (hAB : ∀ q, B q → A q) : zRO E B U H := by
  obtain ⟨h1, h2, h3, h4, h5, h6⟩ := h
  exact ⟨fun i q hq => ⟨(h1 i q hq).1.narrow hAB, (h1 i q hq).2.narrow hAB⟩, h2, h3.narrow hAB, h4, h5.narrow hAB, h6.narrow hAB⟩
section ZK
variable {cA : Nat → ClassId} {D : va_G} {E : Nat → Nat} {A : Nat → Prop} {l : Launch}
theorem zcstart {y : MethodName} {code : ByteArray} {maxL F mc ms Lc : Nat} {e0 : va_E} {RW : Nat → va_W → Prop} {own : String} (hy : plainName y.cls = true) (hny : y.name = "<init>") (hc : y.cls = own) (h1 : 1 ≤ maxL)
    (body : ∀ (p : Program) (e : Env) (s : State) (m : MethodId) (args : Array Value) (below : List Frame) (meth : Method) (c : Code) (h0 : Nat) (A : Nat → Prop), ZX Oz 0 cA adz D E A p s m args meth c code own maxL none → zAO s → meth.name = "<init>" → (∀ q, s.heap.size ≤ q → A q) → va_P D ZCL [(h0, e0)] s.heap → va_D A [(h0, e0)] → ∀ ls : Array Slot, lv_has ls maxL [(0, .ref h0)] →
      W p l e { frames := F, cells := mc, slots := ms, locals := Lc } s m args below meth c s.heap [] 0 0 (MQ below (zQk D RW h0 A) args s mc ms A) (F0 m 0 ls [])) : zct cA D E l y code maxL F mc ms Lc e0 RW := by
  intro h0 sz
  refine Met.ofW (cc := code) (maxL := maxL) (ret := none) hy rfl ?_
  intro p e s m args below meth c s₁ B hml hv
  obtain ⟨rfl, hsz, hP, hK, hRO, hD0, hAO⟩ := hv
  have hts0 := atoms_spec (ws := Cond.code y code maxL none :: TB) B.pre
  have hin : meth.name = "<init>" := (name_of_methodNamed B.named B.method).1.trans hny
  subst hsz
  rw [lg_entry_eq]
  subst hc
  exact body p e s m _ below meth c h0 _ ⟨B.exec, B.bytes, fun w hw => hts0 w (List.mem_cons_of_mem _ hw), findClass_of_methodNamed B.named, hK, ⟨fun i j hi => absurd hi (Nat.not_lt_zero _), fun k hk => absurd hk (Nat.not_lt_zero _)⟩, hRO, hml, B.returns, B.notSynchronized, fun _ _ => rfl⟩ hAO hin (fun q hq => Or.inr hq) hP hD0.self _ (lv_entry [.ref h0] h1)
variable {p : Program} {e : Env} {R : Room} {s : State} {m : MethodId} {args : Array Value} {below : List Frame} {meth : Method} {c : Code} {H : Heap} {locs : List Loc} {cells slots : Nat} {Q : State → Prop}
variable {cc : ByteArray} {pc nL N : Nat} {O : Nat → OD} {ad : Nat → Nat} {ret : Option FieldType} {ls : Array Slot} {rest : List Value} {own : String} {ws : va_W}
theorem zcret {RW : Nat → va_W → Prop} {h0 : Nat} {w : va_W} (X : ZX O N cA ad D E A p s m args meth c cc own nL none) (hP : va_P D ZCL w H) (hD : va_D A w) (hS : va_S A s.heap H locs) (hw : RW h0 w) (hdg : decode cc pc = .ok (.return_, 1)) :
    W p l e R s m args below meth c H locs cells slots (MQ below (zQk D RW h0 A) args s cells slots A) (F0 m pc ls []) := by
  obtain ⟨hx, hb, hts, hown, hK, hDD, hRO, hml, hr, hlocks, hO⟩ := X
  exact W.vret hx hb hr (fun t ht hW => ⟨⟨rfl, w, hw, by rw [ht]; exact hP, hD⟩, hS.F ht⟩) hS.2.2 hdg
theorem zinit (X : ZX O N cA ad D E A p s m args meth c cc own nL ret) (hsz : ls.size = nL) {index a : Nat} (hl : Cond.methodLink own index objectInit ∈ TB) (hi : Cond.instanceMethod objectInit ∈ TB) (hco : Cond.code objectInit ⟨#[0xb1]⟩ 1 none ∈ TB) (hR : 1 ≤ R.frames ∧ 12 ≤ R.locals) (hdg : decode cc pc = .ok (.invokespecial index, 3))
    (kk : W p l e R s m args below meth c H locs cells slots Q (F0 m (pc + 3) ls [])) : W p l e R s m args below meth c H locs cells slots Q (F0 m pc ls [.ref a]) := by
  obtain ⟨hx, hb, hts, hown, hK, hDD, hRO, hml, hr, hlocks, hO⟩ := X
  refine W.objInit hx hb hown (hts _ hl) (hts _ hi) (hts _ hco) rfl (by rw [hml]; exact hsz) rfl hdg hR.1 hR.2 ?_
  exact kk
theorem zra {cB cC : ClassId} {t : FieldType} (ht : ∀ C, t ≠ .object C) (h1 : va_RA s cB t) (h2 : va_RA s cC t) : cB = cC := by
  cases t with
  | object C => exact absurd rfl (ht C)
  | _ => exact Option.some.inj (h1.symm.trans h2)
theorem znewa_i (X : ZX O N cA ad D E A p s m args meth c cc own nL ret) (hP : va_P D ZCL ws H) (hD : va_D A ws) (hS : va_S A s.heap H locs) (hA : ∀ q, s.heap.size ≤ q → A q) (hw : Cond.arrayClass .int ∈ TB) {n : Int32} {N' : Nat} (hn : ¬ n < 0) (hN : n.toNatClampNeg = N') (hbytes : N' * 4 ≤ 536870912) (hcs : cells + 1 ≤ R.cells ∧ slots + N' ≤ R.slots) (hdg : decode cc pc = .ok (.newarray .int, 2))
    (kk : ∀ (q : Nat) (H1 : Heap), va_P D ZCL (ws ++ [(q, .inl (cA 0, N', .inl (fun _ => 0)))]) H1 → va_D A (ws ++ [(q, .inl (cA 0, N', .inl (fun _ => 0)))]) → va_S A s.heap H1 locs → W p l e R s m args below meth c H1 locs (cells + 1) (slots + N') Q (F0 m (pc + 2) ls (.ref q :: rest))) : W p l e R s m args below meth c H locs cells slots Q (F0 m pc ls (.int n :: rest)) := by
  obtain ⟨hx, hb, hts, hown, hK, hDD, hRO, hml, hr, hlocks, hO⟩ := X
  refine va_newa (atype := .int) (ty := .int) (a0 := (N', .inl (fun _ => 0))) hx hb (hts _ hw) rfl hK hP hD hS hA (fun _ => rfl) hn hN hbytes hcs.1 hcs.2 hdg (fun q cB H1 hK1 hP1 hD1 hS1 => ?_)
  have e1 := zra (fun C h => by cases h) (hK1.2 6 (cB, .int) rfl).2 (hK.2 0 _ rfl).2
  subst e1
  exact kk q H1 hP1 hD1 hS1
theorem znewa_l (X : ZX O N cA ad D E A p s m args meth c cc own nL ret) (hP : va_P D ZCL ws H) (hD : va_D A ws) (hS : va_S A s.heap H locs) (hA : ∀ q, s.heap.size ≤ q → A q) (hw : Cond.arrayClass .long ∈ TB) {n : Int32} {N' : Nat} (hn : ¬ n < 0) (hN : n.toNatClampNeg = N') (hbytes : N' * 8 ≤ 536870912) (hcs : cells + 1 ≤ R.cells ∧ slots + N' ≤ R.slots) (hdg : decode cc pc = .ok (.newarray .long, 2))
    (kk : ∀ (q : Nat) (H1 : Heap), va_P D ZCL (ws ++ [(q, .inl (cA 1, N', .inr (.inl (fun _ => 0))))]) H1 → va_D A (ws ++ [(q, .inl (cA 1, N', .inr (.inl (fun _ => 0))))]) → va_S A s.heap H1 locs → W p l e R s m args below meth c H1 locs (cells + 1) (slots + N') Q (F0 m (pc + 2) ls (.ref q :: rest))) : W p l e R s m args below meth c H locs cells slots Q (F0 m pc ls (.int n :: rest)) := by
  obtain ⟨hx, hb, hts, hown, hK, hDD, hRO, hml, hr, hlocks, hO⟩ := X
  refine va_newa (atype := .long) (ty := .long) (a0 := (N', .inr (.inl (fun _ => 0)))) hx hb (hts _ hw) rfl hK hP hD hS hA (fun _ => rfl) hn hN hbytes hcs.1 hcs.2 hdg (fun q cB H1 hK1 hP1 hD1 hS1 => ?_)
  have e1 := zra (fun C h => by cases h) (hK1.2 6 (cB, .long) rfl).2 (hK.2 1 _ rfl).2
  subst e1
  exact kk q H1 hP1 hD1 hS1
theorem znewa_z (X : ZX O N cA ad D E A p s m args meth c cc own nL ret) (hP : va_P D ZCL ws H) (hD : va_D A ws) (hS : va_S A s.heap H locs) (hA : ∀ q, s.heap.size ≤ q → A q) (hw : Cond.arrayClass .boolean ∈ TB) {n : Int32} {N' : Nat} (hn : ¬ n < 0) (hN : n.toNatClampNeg = N') (hbytes : N' * 1 ≤ 536870912) (hcs : cells + 1 ≤ R.cells ∧ slots + N' ≤ R.slots) (hdg : decode cc pc = .ok (.newarray .boolean, 2))
    (kk : ∀ (q : Nat) (H1 : Heap), va_P D ZCL (ws ++ [(q, .inl (cA 2, N', .inl (fun _ => 0)))]) H1 → va_D A (ws ++ [(q, .inl (cA 2, N', .inl (fun _ => 0)))]) → va_S A s.heap H1 locs → W p l e R s m args below meth c H1 locs (cells + 1) (slots + N') Q (F0 m (pc + 2) ls (.ref q :: rest))) : W p l e R s m args below meth c H locs cells slots Q (F0 m pc ls (.int n :: rest)) := by
  obtain ⟨hx, hb, hts, hown, hK, hDD, hRO, hml, hr, hlocks, hO⟩ := X
  refine va_newa (atype := .boolean) (ty := .boolean) (a0 := (N', .inl (fun _ => 0))) hx hb (hts _ hw) rfl hK hP hD hS hA (fun _ => rfl) hn hN hbytes hcs.1 hcs.2 hdg (fun q cB H1 hK1 hP1 hD1 hS1 => ?_)
  have e1 := zra (fun C h => by cases h) (hK1.2 6 (cB, .boolean) rfl).2 (hK.2 2 _ rfl).2
  subst e1
  exact kk q H1 hP1 hD1 hS1
theorem znewa_c (X : ZX O N cA ad D E A p s m args meth c cc own nL ret) (hP : va_P D ZCL ws H) (hD : va_D A ws) (hS : va_S A s.heap H locs) (hA : ∀ q, s.heap.size ≤ q → A q) (hw : Cond.arrayClass .char ∈ TB) {n : Int32} {N' : Nat} (hn : ¬ n < 0) (hN : n.toNatClampNeg = N') (hbytes : N' * 2 ≤ 536870912) (hcs : cells + 1 ≤ R.cells ∧ slots + N' ≤ R.slots) (hdg : decode cc pc = .ok (.newarray .char, 2))
    (kk : ∀ (q : Nat) (H1 : Heap), va_P D ZCL (ws ++ [(q, .inl (cA 3, N', .inl (fun _ => 0)))]) H1 → va_D A (ws ++ [(q, .inl (cA 3, N', .inl (fun _ => 0)))]) → va_S A s.heap H1 locs → W p l e R s m args below meth c H1 locs (cells + 1) (slots + N') Q (F0 m (pc + 2) ls (.ref q :: rest))) : W p l e R s m args below meth c H locs cells slots Q (F0 m pc ls (.int n :: rest)) := by
  obtain ⟨hx, hb, hts, hown, hK, hDD, hRO, hml, hr, hlocks, hO⟩ := X
  refine va_newa (atype := .char) (ty := .char) (a0 := (N', .inl (fun _ => 0))) hx hb (hts _ hw) rfl hK hP hD hS hA (fun _ => rfl) hn hN hbytes hcs.1 hcs.2 hdg (fun q cB H1 hK1 hP1 hD1 hS1 => ?_)
  have e1 := zra (fun C h => by cases h) (hK1.2 6 (cB, .char) rfl).2 (hK.2 3 _ rfl).2
  subst e1
  exact kk q H1 hP1 hD1 hS1
theorem znew (X : ZX O N cA ad D E A p s m args meth c cc own nL ret) (hP : va_P D ZCL ws H) (hD : va_D A ws) (hS : va_S A s.heap H locs) (hA : ∀ q, s.heap.size ≤ q → A q) {C : String} {T : u_T} {NN ci index : Nat} (hin : ∀ w ∈ u_ws C T NN, w ∈ TB) (ty : Nat → FieldType) (hty : ∀ k, k < NN → parseFieldDescriptor (T k).2.2.1 = some (ty k)) (hcl : Cond.classLink own index C ∈ TB) (hinst : Cond.instantiable C NN ∈ TB) (hini : Cond.initialized C ∈ TB)
    (hc : ZCL[ci]? = some (C, T, NN)) {fs : List Value} (hfs : ∀ j, j < NN → defaultValue (ty j) = vp_V fs j) (hcs : cells + 1 ≤ R.cells ∧ slots + NN ≤ R.slots) (hdg : decode cc pc = .ok (.new index, 3))
    (kk : ∀ (q : Nat) (H1 : Heap), va_P D ZCL (ws ++ [(q, .inr (ci, fs))]) H1 → va_D A (ws ++ [(q, .inr (ci, fs))]) → va_S A s.heap H1 locs → W p l e R s m args below meth c H1 locs (cells + 1) (slots + NN) Q (F0 m (pc + 3) ls (.ref q :: rest))) : W p l e R s m args below meth c H locs cells slots Q (F0 m pc ls rest) := by
  obtain ⟨hx, hb, hts, hown, hK, hDD, hRO, hml, hr, hlocks, hO⟩ := X
  exact va_new (ci := ci) (fs := fs) (C := C) (T := T) (N := NN) hx hb hts hin ty hty hown (hts _ hcl) (hts _ hinst) (hts _ hini) hK hP hD hS hA hc hfs hcs.1 hcs.2 hdg kk
theorem zputF (X : ZX O N cA ad D E A p s m args meth c cc own nL ret) (hinit : meth.name = "<init>") (hP : va_P D ZCL ws H) (hD : va_D A ws) (hS : va_S A s.heap H locs) {C : String} {T : u_T} {NN ci index : Nat} (hin : ∀ w ∈ u_ws C T NN, w ∈ TB) (ty0 : Nat → FieldType) (hty : ∀ k, k < NN → parseFieldDescriptor (T k).2.2.1 = some (ty0 k)) (hnm : ∀ a, a < NN → ∀ b, b < NN → a ≠ b → (T a).2.1 ≠ (T b).2.1)
    (q0 : Nat) {a v : Nat} {fs : List Value} (he : ws[q0]? = some (a, .inr (ci, fs))) (hc : ZCL[ci]? = some (C, T, NN)) (k : Nat) (hk : k < NN) (hl : Cond.fieldLink own index (T k).1 (T k).2.1 (T k).2.2.1 ∈ TB) (hfin : (T k).2.2.2 = true) (hdecl : (T k).1 = own) {ty : FieldType} (hd : parseFieldDescriptor (T k).2.2.1 = some ty) (hn : narrow ty (.ref v) = .ref v) (hfit : fits ty (.ref v) = true) (hlen : k < fs.length) (hdg : decode cc pc = .ok (.putfield index, 3))
    (kk : ∀ (H1 : Heap) (locs1 : List Loc), va_P D ZCL (ws.set q0 (a, .inr (ci, fs.set k (.ref v)))) H1 → va_D A (ws.set q0 (a, .inr (ci, fs.set k (.ref v)))) → va_S A s.heap H1 locs1 → W p l e R s m args below meth c H1 locs1 cells slots Q (F0 m (pc + 3) ls rest)) : W p l e R s m args below meth c H locs cells slots Q (F0 m pc ls (.ref v :: .ref a :: rest)) := by
  obtain ⟨hx, hb, hts, hown, hK, hDD, hRO, hml, hr, hlocks, hO⟩ := X
  exact va_putF (D := D) (ci := ci) (v := .ref v) (ty := ty) (C := C) (T := T) (N := NN) hx hb hts hin ty0 hty hnm hown hK hP hD hS q0 he hc k hk (hts _ hl) (fun _ h => h) hfin hinit hdecl hd hn hfit hlen hdg kk
theorem zputI (X : ZX O N cA ad D E A p s m args meth c cc own nL ret) (hP : va_P D ZCL ws H) (hD : va_D A ws) (hS : va_S A s.heap H locs) {C : String} {T : u_T} {NN ci index : Nat} (hin : ∀ w ∈ u_ws C T NN, w ∈ TB) (ty0 : Nat → FieldType) (hty : ∀ k, k < NN → parseFieldDescriptor (T k).2.2.1 = some (ty0 k)) (hnm : ∀ a, a < NN → ∀ b, b < NN → a ≠ b → (T a).2.1 ≠ (T b).2.1)
    (q0 : Nat) {a : Nat} {v : Int32} {fs : List Value} (he : ws[q0]? = some (a, .inr (ci, fs))) (hc : ZCL[ci]? = some (C, T, NN)) (k : Nat) (hk : k < NN) (hl : Cond.fieldLink own index (T k).1 (T k).2.1 (T k).2.2.1 ∈ TB) (hfin : (T k).2.2.2 = false) {ty : FieldType} (hd : parseFieldDescriptor (T k).2.2.1 = some ty) (hn : narrow ty (.int v) = .int v) (hfit : fits ty (.int v) = true) (hlen : k < fs.length) (hdg : decode cc pc = .ok (.putfield index, 3))
    (kk : ∀ (H1 : Heap) (locs1 : List Loc), va_P D ZCL (ws.set q0 (a, .inr (ci, fs.set k (.int v)))) H1 → va_D A (ws.set q0 (a, .inr (ci, fs.set k (.int v)))) → va_S A s.heap H1 locs1 → W p l e R s m args below meth c H1 locs1 cells slots Q (F0 m (pc + 3) ls rest)) : W p l e R s m args below meth c H locs cells slots Q (F0 m pc ls (.int v :: .ref a :: rest)) := by
  obtain ⟨hx, hb, hts, hown, hK, hDD, hRO, hml, hr, hlocks, hO⟩ := X
  exact va_put (D := D) (ci := ci) (v := .int v) (ty := ty) (C := C) (T := T) (N := NN) hx hb hts hin ty0 hty hnm hown hK hP hD hS q0 he hc k hk (hts _ hl) (fun _ h => h) hfin hd hn hfit hlen hdg kk
theorem zgetR (X : ZX O N cA ad D E A p s m args meth c cc own nL ret) (hP : va_P D ZCL ws H) {C : String} {T : u_T} {NN ci index : Nat} (hin : ∀ w ∈ u_ws C T NN, w ∈ TB) (q0 : Nat) {a : Nat} {v : Value} {fs : List Value} (he : ws[q0]? = some (a, .inr (ci, fs))) (hc : ZCL[ci]? = some (C, T, NN)) (k : Nat) (hk : k < NN) (hl : Cond.fieldLink own index (T k).1 (T k).2.1 (T k).2.2.1 ∈ TB) (hv : fs[k]? = some v) (hdg : decode cc pc = .ok (.getfield index, 3))
    (kk : W p l e R s m args below meth c H locs cells slots Q (F0 m (pc + 3) ls (v :: rest))) : W p l e R s m args below meth c H locs cells slots Q (F0 m pc ls (.ref a :: rest)) := by
  obtain ⟨hx, hb, hts, hown, hK, hDD, hRO, hml, hr, hlocks, hO⟩ := X
  exact va_get (D := D) (ci := ci) (v := v) (C := C) (T := T) (N := NN) hx hb hts hin hown hK hP q0 he hc k hk (hts _ hl) (fun _ h => h) hv hdg kk
theorem zrunI_of {mc ms : Nat} {RW : Nat → va_W → Prop} {b : Nat} {e0 : va_E} {wr : va_W} {st0 : List Value} {a : Array Value} (hr : va_Run p l e R s m args below meth c H locs cells slots mc ms (F0 m pc ls st0) rest (zQk D RW b (va_A [(b, e0)] H.size) a) (va_A [(b, e0)] H.size)) (hP : va_P D ZCL ws H) (hD : va_D A ws) (hS : va_S A s.heap H locs) (hA : ∀ q, s.heap.size ≤ q → A q)
    (iC : Nat) (isR : List Nat) (hC : ws[iC]? = some (b, e0)) (hR : isR.map (fun i => ws[i]?) = wr.map some) (hn : va_nd isR = true) (hdis : iC ∉ isR)
    (kk : ∀ (w : va_W) (H1 : Heap) (locs1 : List Loc), RW b w → va_P D ZCL (wr ++ w) H1 → va_D A (wr ++ w) → va_S A s.heap H1 locs1 → W p l e R s m args below meth c H1 locs1 (cells + mc) (slots + ms) Q (F0 m (pc + 3) ls rest)) : W p l e R s m args below meth c H locs cells slots Q (F0 m pc ls st0) := by
  have hFc := va_free (wc := [(b, e0)]) hD hS hA [iC] (by simp [hC])
  intro T hT X
  obtain ⟨v, st₀, t, T', L, h0, X', hL, e1, e2, ⟨⟨hv, w, hw, hp, hd⟩, hz, hk⟩, st⟩ := hr T hT X
  cases hv
  rw [h0] at hz hk
  obtain ⟨hP1, hD1⟩ := va_join (wc := [(b, e0)]) (wr := wr) (w1 := w) hP hD [iC] isR (by simp [hC]) hR hn (fun i hi h => by simp at h; subst h; exact hdis hi) (H1 := t.heap) hk hFc hp hd
  obtain ⟨t2, a1, b1⟩ := kk w T'.heap (locs ++ L) hw (by rw [e1]; exact hP1) hD1 ⟨Nat.le_trans hS.1 (by rw [e1]; exact hz), fun q h1 h2 => by rw [e1, hk q (Nat.lt_of_lt_of_le h1 hS.1) (fun z => h2 (hFc q z))]; exact hS.2.1 q h1 h2, fun q hq => by
      rcases List.mem_append.mp hq with h | h
      · exact hS.2.2 q h
      · exact hFc _ (hL q h)⟩ T' rfl X'
  exact ⟨t2, st t2 a1, b1⟩
def zVi (y : MethodName) (code : ByteArray) (maxL : Nat) (C : String) : Prop :=
  (y.cls ≠ "java/lang/invoke/MethodHandle" ∧ y.cls ≠ "java/lang/invoke/VarHandle" ∧ (parseMethodDescriptor y.desc).map (fun d => d.parameters.length) = some 0) ∧ y.name = "<init>" ∧ Cond.instanceMethod y ∈ TB ∧ Cond.initialized y.cls ∈ TB ∧ Cond.code y code maxL none ∈ TB
theorem zcallI (X : ZX O N cA ad D E A p s m args meth c cc own nL ret) (hAO : zAO s) (hsz : ls.size = nL) (hP : va_P D ZCL ws H) (hD : va_D A ws) (hS : va_S A s.heap H locs) (hA : ∀ q, s.heap.size ≤ q → A q) {y : MethodName} {code : ByteArray} {maxL F mc ms Lc b index : Nat} {C : String} {e0 : va_E} {RW : Nat → va_W → Prop} {wr : va_W} (hM : zct cA D E l y code maxL F mc ms Lc e0 RW) (hV : zVi y code maxL C)
    (hl : Cond.methodLink own index y ∈ TB ∨ Cond.methodLinkNest own index y "BlownSpaces" ∈ NB) (hR : F + 1 ≤ R.frames ∧ 8 + (maxL + 11) + Lc ≤ R.locals) (hcs : cells + mc ≤ R.cells ∧ slots + ms ≤ R.slots) (hW : (rest.map fun v => v.category).sum ≤ 8) (hdg : decode cc pc = .ok (.invokespecial index, 3))
    (iC : Nat) (isR : List Nat) (hC : ws[iC]? = some (b, e0)) (hRR : isR.map (fun i => ws[i]?) = wr.map some) (hn : va_nd isR = true) (hdis : iC ∉ isR)
    (kk : ∀ (w : va_W) (H1 : Heap) (locs1 : List Loc), RW b w → va_P D ZCL (wr ++ w) H1 → va_D A (wr ++ w) → va_S A s.heap H1 locs1 → W p l e R s m args below meth c H1 locs1 (cells + mc) (slots + ms) Q (F0 m (pc + 3) ls rest)) : W p l e R s m args below meth c H locs cells slots Q (F0 m pc ls (.ref b :: rest)) := by
  obtain ⟨hx, hb, hts, hown, hK, hDD, hRO, hml, hr, hlocks, hO⟩ := X
  obtain ⟨v1, v2, v3, v4, v5⟩ := hV
  have hFc := va_free (wc := [(b, e0)]) hD hS hA [iC] (by simp [hC])
  have hPc : va_P D ZCL [(b, e0)] H := hP.sub [iC] (by simp [hC])
  have hDc : va_D (fun _ => True) [(b, e0)] := (hD.sub (ws' := [(b, e0)]) [iC] (by simp [va_nd]) (by simp [hC])).weaken (fun _ _ _ _ => trivial)
  have hp : PreS s H (va_Pc [.ref b] (fun U => U.heap.size = H.size ∧ va_P D ZCL [(b, e0)] U.heap ∧ va_K D ZCL (ztys cA) U ∧ zRO E (va_A [(b, e0)] H.size) U U.heap ∧ va_D (fun _ => True) [(b, e0)] ∧ zAO U)) [.ref b] :=
    ⟨fun a U g mk q => ⟨q.1, q.2.1, q.2.2.1, va_K.moved (u := U) (U := U.calling g mk a) (Vm.Alike.refl U.vm) q.2.2.2.1, zRO.same (u := U) (U := U.calling g mk a) rfl q.2.2.2.2.1, q.2.2.2.2.2.1, zAO.moved (u := U) (U := U.calling g mk a) (Vm.Alike.refl U.vm) q.2.2.2.2.2.2⟩,
     fun U hU hW => ⟨rfl, by rw [hU], by rw [hU]; exact hPc, va_K.moved hW.alike hK, by rw [hU]; exact (hRO.step hS hW).narrow hFc, hDc, hAO.moved hW.alike⟩⟩
  have hG : GoodIn TB (Cond.code y code maxL none :: TB) := zgood (fun w hw => by
    rcases List.mem_cons.mp hw with rfl | h
    · exact v5
    · exact h)
  rcases hl with hl | hl
  · exact zrunI_of (va_runI (As := []) (rest := rest) ⟨hx, hb, hml, hown, hts⟩ (hM b H.size) (cwI 0 hts hG rfl rfl rfl (hts _ v4) (hts _ hl) (hts _ v3) v2 v1 hR) hp rfl rfl hsz rfl (lv_room hW) hdg hcs) hP hD hS hA iC isR hC hRR hn hdis kk
  · exact zrunI_of (va_runIN (As := []) (rest := rest) ⟨hx, hb, hml, hown, hts⟩ (hM b H.size) ⟨va_cnB 0 hts hG rfl rfl rfl (hRO.2.1 _ hl) (hts _ v4) v1 hR, v2, hts _ v3⟩ hp rfl rfl hsz rfl (lv_room hW) hdg hcs) hP hD hS hA iC isR hC hRR hn hdis kk
theorem znewq (X : ZX O N cA ad D E A p s m args meth c cc own nL ret) (hP : va_P D ZCL ws H) (hD : va_D A ws) (hS : va_S A s.heap H locs) (hA : ∀ q, s.heap.size ≤ q → A q) {index : Nat} (hcl : Cond.classLink own index "BlownSpaces$Klass" ∈ TB) (hAO : zAO s) {n : Int32} {N' : Nat} (hn : ¬ n < 0) (hN : n.toNatClampNeg = N') (hbytes : N' * 4 ≤ 536870912) (hcs : cells + 1 ≤ R.cells ∧ slots + N' ≤ R.slots) (hdg : decode cc pc = .ok (.anewarray index, 3))
    (kk : ∀ (q : Nat) (H1 : Heap), va_P D ZCL (ws ++ [(q, .inl (cA 4, N', .inr (.inr (.inr (.inr (fun _ => none))))))]) H1 → va_D A (ws ++ [(q, .inl (cA 4, N', .inr (.inr (.inr (.inr (fun _ => none))))))]) → va_S A s.heap H1 locs → W p l e R s m args below meth c H1 locs (cells + 1) (slots + N') Q (F0 m (pc + 3) ls (.ref q :: rest))) : W p l e R s m args below meth c H locs cells slots Q (F0 m pc ls (.int n :: rest)) := by
  obtain ⟨hx, hb, hts, hown, hK, hDD, hRO, hml, hr, hlocks, hO⟩ := X
  refine va_newq (C := "BlownSpaces$Klass") hx hb hown (hts _ hcl) hAO.1 hK hP hD hS hA hn hN hbytes hcs.1 hcs.2 hdg (fun q cB H1 hK1 hP1 hD1 hS1 => ?_)
  obtain ⟨kA, comp, h1, h2, h3, h4⟩ := (hK1.2 6 (cB, .object "BlownSpaces$Klass") rfl).2
  obtain ⟨kA', comp', h1', h2', h3', h4'⟩ := (hK.2 4 (cA 4, .object "BlownSpaces$Klass") rfl).2
  have e1 : cB = cA 4 := Option.some.inj (h4.symm.trans h4')
  subst e1
  exact kk q H1 hP1 hD1 hS1
theorem zaast (X : ZX O N cA ad D E A p s m args meth c cc own nL ret) (hP : va_P D ZCL ws H) (hD : va_D A ws) (hS : va_S A s.heap H locs) (q0 qk : Nat) {a n v : Nat} {vs : List Value} {f : Nat → Option Nat} (ha : ws[q0]? = some (a, .inl (cA 4, n, .inr (.inr (.inr (.inr f)))))) (hv : ws[qk]? = some (v, .inr (4, vs))) {i : Int32} (hin : zin i n = true) (hdg : decode cc pc = .ok (.aastore, 1))
    (kk : ∀ (H1 : Heap) (locs1 : List Loc), va_P D ZCL (ws.set q0 (a, .inl (cA 4, n, .inr (.inr (.inr (.inr (va_up f i.toNatClampNeg (some v)))))))) H1 → va_D A (ws.set q0 (a, .inl (cA 4, n, .inr (.inr (.inr (.inr (va_up f i.toNatClampNeg (some v)))))))) → va_S A s.heap H1 locs1 → W p l e R s m args below meth c H1 locs1 cells slots Q (F0 m (pc + 1) ls rest)) : W p l e R s m args below meth c H locs cells slots Q (F0 m pc ls (.ref v :: .int i :: .ref a :: rest)) := by
  obtain ⟨hx, hb, hts, hown, hK, hDD, hRO, hml, hr, hlocks, hO⟩ := X
  exact va_astq (r := (RX4, TX4, 3)) hx hb hK hP hD hS q0 4 qk 4 ha rfl hv rfl (zin_of hin) hdg kk
theorem zaist (X : ZX O N cA ad D E A p s m args meth c cc own nL ret) (hP : va_P D ZCL ws H) (hD : va_D A ws) (hS : va_S A s.heap H locs) (q0 : Nat) {a n : Nat} {v : Int32} {f : Nat → Int32} (ha : ws[q0]? = some (a, .inl (cA 0, n, .inl f))) {i : Int32} (hin : zin i n = true) (hdg : decode cc pc = .ok (.iastore, 1))
    (kk : ∀ (H1 : Heap) (locs1 : List Loc), va_P D ZCL (ws.set q0 (a, .inl (cA 0, n, .inl (upd f i.toNatClampNeg v)))) H1 → va_D A (ws.set q0 (a, .inl (cA 0, n, .inl (upd f i.toNatClampNeg v)))) → va_S A s.heap H1 locs1 → W p l e R s m args below meth c H1 locs1 cells slots Q (F0 m (pc + 1) ls rest)) : W p l e R s m args below meth c H locs cells slots Q (F0 m pc ls (.int v :: .int i :: .ref a :: rest)) := by
  obtain ⟨hx, hb, hts, hown, hK, hDD, hRO, hml, hr, hlocks, hO⟩ := X
  exact va_iast hx hb hK hP hD hS q0 0 ha rfl (zin_of hin) hdg kk
theorem zfill (X : ZX O N cA ad D E A p s m args meth c cc own nL ret) (hsz : ls.size = nL) (hP : va_P D ZCL ws H) (hD : va_D A ws) (hS : va_S A s.heap H locs) (q0 : Nat) {a index : Nat} (ha : ws[q0]? = some (a, .inl (cA 0, 3, .inl (fun _ => 0)))) (hl : Cond.methodLink own index yJ7_fill_53178 ∈ TB) (hR : 1 ≤ R.frames ∧ 23 ≤ R.locals) (hcs : cells ≤ R.cells ∧ slots ≤ R.slots) (hdg : decode cc pc = .ok (.invokestatic index, 3))
    (hfill : ∀ σ : SS, f_J7_fill_53178 (fun k => if k = 0 then .inr (0, 3, []) else .inl (99, [])) 0 (-1) σ = some ((), zI σ 0 (fun j => if j < 3 then -1 else σ.1 0 j)))
    (kk : ∀ (H1 : Heap) (locs1 : List Loc), va_P D ZCL (ws.set q0 (a, .inl (cA 0, 3, .inl (fun j => if j < 3 then -1 else 0)))) H1 → va_D A (ws.set q0 (a, .inl (cA 0, 3, .inl (fun j => if j < 3 then -1 else 0)))) → va_S A s.heap H1 locs1 → W p l e R s m args below meth c H1 locs1 cells slots Q (F0 m (pc + 3) ls rest)) (hW : (rest.map fun v => v.category).sum ≤ 8) : W p l e R s m args below meth c H locs cells slots Q (F0 m pc ls (.int (-1) :: .ref a :: rest)) := by
  obtain ⟨hx, hb, hts, hown, hK, hDD, hRO, hml, hr, hlocks, hO⟩ := X
  have hAa : A a := hD.2 q0 _ ha
  let O1 : Nat → OD := fun k => if k = 0 then .inr (0, 3, []) else .inl (99, [])
  have hO1 : ∀ k, 1 ≤ k → O1 k = .inl (99, []) := fun k hk => if_neg (by omega)
  have hc1 := cn_J7_fill_53178 (l := l) (cA := cA) (ad := fun _ => a) (D := D) (E := E) (A := fun q => q = a) hO1 (hfill (fun _ _ => 0, fun _ _ => 0))
  have hw1 : zw O1 1 cA (fun _ => a) (fun _ _ => 0, fun _ _ => 0) = [(a, .inl (cA 0, 3, .inl (fun _ => 0)))] := rfl
  have hPc : va_P D ZCL [(a, .inl (cA 0, 3, .inl (fun _ => 0)))] H := hP.sub [q0] (by simp [ha])
  have hRO1 : zRO E (fun q => q = a) s s.heap := hRO.narrow (fun q hq => by rw [hq]; exact hAa)
  have hal : a < H.size := (hP q0 _ ha).lt
  obtain ⟨v1, v2, v4, v5⟩ := cw_J7_fill_53178
  intro T hT XT
  have hS1 : va_S (fun q => q = a) s.heap s.heap [] := va_S.rf
  have hrun : va_Run p l e R s m args below meth c H locs cells slots 0 0 (F0 m pc ls (.int (-1) :: .ref a :: rest)) rest (zQc O1 1 cA (fun _ => a) D (fun q => q = a) none (zI (fun _ _ => 0, fun _ _ => 0) 0 (fun j => if j < 3 then -1 else 0)) [.ref a, .int (-1)].toArray) (fun q => q = a) := by
    refine va_runS (As := [.ref a, .int (-1)]) (rest := rest) ⟨hx, hb, hml, hown, hts⟩ hc1 (va_cwS 2 hts (zgood (fun w hw => ?_)) rfl rfl rfl v1 ⟨hR.1, hR.2⟩) ⟨fun a U g mk q => ⟨q.1, zPre.blind q.2 g mk a⟩, fun U hU hW => ⟨rfl, by rw [hU, hw1]; exact hPc, va_K.moved hW.alike hK, ⟨fun i j hi hj _ => by omega, fun k _ => rfl⟩, ?_⟩⟩ rfl rfl hsz rfl (lv_room hW) hdg hcs
    · rcases List.mem_append.mp hw with h | h
      · simp only [List.mem_cons, List.not_mem_nil, or_false] at h
        rcases h with rfl | rfl | rfl
        · exact hl
        · exact v2
        · exact v4
      · rcases List.mem_cons.mp h with rfl | h
        · exact v5
        · exact h
    · rw [hU]
      exact (hRO.step hS hW).narrow (fun q hq => by rw [hq]; exact hAa)
  obtain ⟨v, st₀, t, T', L, h0, X', hL, e1, e2, ⟨⟨hv, hp⟩, hz, hk⟩, st⟩ := hrun T hT XT
  cases hv
  rw [h0] at hz hk
  have hkeep : ∀ q, q ≠ a → q < H.size → t.heap[q]? = H[q]? := fun q hq hl => hk q hl hq
  have hp' : va_at D ZCL (a, .inl (cA 0, 3, .inl (fun j => if j < 3 then -1 else 0))) t.heap := hp 0 _ rfl
  have hPn : va_P D ZCL (ws.set q0 (a, .inl (cA 0, 3, .inl (fun j => if j < 3 then -1 else 0)))) t.heap := by
    intro k q hq
    rw [List.getElem?_set] at hq
    by_cases e : q0 = k
    · subst e
      have hlt : q0 < ws.length := (List.getElem?_eq_some_iff.mp ha).1
      simp [hlt] at hq
      subst hq
      exact hp'
    · rw [if_neg e] at hq
      refine (hP k q hq).kept (hkeep q.1 (fun h => e ?_) (hP k q hq).lt)
      exact (hD.1 k q0 q _ hq ha h).symm
  obtain ⟨t2, a1, b1⟩ := kk T'.heap (locs ++ L) (by rw [e1]; exact hPn) (hD.set ha) ⟨Nat.le_trans hS.1 (by rw [e1]; exact hz), fun q h1 h2 => by rw [e1, hkeep q (fun h => h2 (by rw [h]; exact hAa)) (Nat.lt_of_lt_of_le h1 hS.1)]; exact hS.2.1 q h1 h2, fun q hq => by
      rcases List.mem_append.mp hq with h | h
      · exact hS.2.2 q h
      · rw [hL q h]; exact hAa⟩ T' rfl X'
  exact ⟨t2, st t2 a1, b1⟩
theorem zmna (X : ZX O N cA ad D E A p s m args meth c cc own nL ret) (hP : va_P D ZCL ws H) (hD : va_D A ws) (hS : va_S A s.heap H locs) (hA : ∀ q, s.heap.size ≤ q → A q) {index : Nat} (hcl : Cond.classLink own index "[[J" ∈ TB) (harr : Cond.arrayClass .long ∈ TB) (hAO : zAO s) (hcs : cells + 4 ≤ R.cells ∧ slots + 63 ≤ R.slots) (hdg : decode cc pc = .ok (.multianewarray index 2, 4))
    (kk : ∀ (q r0 r1 r2 : Nat) (H1 : Heap), va_P D ZCL (ws ++ [(q, .inl (cA 5, 3, .inr (.inr (.inr (.inr (fun j => ([r0, r1, r2] : List Nat)[j]?)))))), (r0, .inl (cA 1, 20, .inr (.inl (fun _ => 0)))), (r1, .inl (cA 1, 20, .inr (.inl (fun _ => 0)))), (r2, .inl (cA 1, 20, .inr (.inl (fun _ => 0))))]) H1 → va_D A (ws ++ [(q, .inl (cA 5, 3, .inr (.inr (.inr (.inr (fun j => ([r0, r1, r2] : List Nat)[j]?)))))), (r0, .inl (cA 1, 20, .inr (.inl (fun _ => 0)))), (r1, .inl (cA 1, 20, .inr (.inl (fun _ => 0)))), (r2, .inl (cA 1, 20, .inr (.inl (fun _ => 0))))]) → va_S A s.heap H1 locs → W p l e R s m args below meth c H1 locs (cells + 4) (slots + 63) Q (F0 m (pc + 4) ls (.ref q :: rest))) : W p l e R s m args below meth c H locs cells slots Q (F0 m pc ls (.int 20 :: .int 3 :: rest)) := by
  obtain ⟨hx, hb, hts, hown, hK, hDD, hRO, hml, hr, hlocks, hO⟩ := X
  refine va_mna (X := ws) (L := []) (f := fun _ => .inr (0, [])) (ty := .long) (cy := cA 1) (N' := 3) (K' := 20) (z := (20, .inr (.inl (fun _ => 0)))) hx hb hown (hts _ hcl) hAO.2 (hts _ harr) (hK.2 1 (cA 1, .long) rfl).2 hK (by simpa [va_pl] using hP) (by simpa [va_pl] using hD) hS hA (by decide) (by decide) (by decide) (by decide) (Nat.le_of_ble_eq_true rfl) (Nat.le_of_ble_eq_true rfl) (Nat.le_of_ble_eq_true rfl) rfl rfl hcs.1 hcs.2 (fun _ => rfl) hdg (fun q r cB H1 hri hrn hK1 hP1 hD1 hS1 => ?_)
  have e1 := zra (fun C h => by cases h) (hK1.2 6 (cB, .array .long) rfl).2 (hK.2 5 _ rfl).2
  subst e1
  have ew : (ws ++ [(q, (.inl (cA 5, 3, .inr (.inr (.inr (.inr (fun i => if i < 3 then some (r i) else none))))) : va_E))]) ++ va_pl ([] ++ (List.range 3).map r) (vr_up (fun _ => .inr (0, [])) ((List.range 3).map r) (.inl (cA 1, (20, .inr (.inl (fun _ => 0)))))) =
      ws ++ [(q, .inl (cA 5, 3, .inr (.inr (.inr (.inr (fun j => ([r 0, r 1, r 2] : List Nat)[j]?)))))), (r 0, .inl (cA 1, 20, .inr (.inl (fun _ => 0)))), (r 1, .inl (cA 1, 20, .inr (.inl (fun _ => 0)))), (r 2, .inl (cA 1, 20, .inr (.inl (fun _ => 0))))] := by
    have e2 : (fun i => if i < 3 then some (r i) else none) = (fun j => ([r 0, r 1, r 2] : List Nat)[j]?) := by
      funext j
      match j with
      | 0 => rfl
      | 1 => rfl
      | 2 => rfl
      | j + 3 => simp
    rw [e2, List.append_assoc]
    simp [va_pl, vr_up, List.range, List.range.loop]
  rw [ew] at hP1 hD1
  exact kk q (r 0) (r 1) (r 2) H1 hP1 hD1 hS1
theorem zcallVG {σ : SS} (X : ZX O N cA ad D E A p s m args meth c cc own nL ret) (hcs : cells ≤ R.cells ∧ slots ≤ R.slots) (hP : va_P D ZCL (zw O N cA ad σ) H) (hS : va_S A s.heap H locs) (hsz : ls.size = nL) {y : MethodName} {code : ByteArray} {maxL d' k ci n index NN : Nat} {ret' : Option FieldType} {C : String} {T : u_T} {As st : List Value} {rv : Option Value} {σ' : SS} {pat : List Bool}
    (hM : zCon O N cA ad D E l y code maxL ret' d' A (.ref (ad k) :: As) σ rv σ') (hV : zV y code maxL ret' C n) (hp : ZP O ci pat) (hg : zis O ci k = true) (hci : ci ≠ 99) (hc : ZCL[ci]? = some (C, T, NN)) (hl : Cond.methodLink own index y ∈ TB)
    (hR : d' + 1 ≤ R.frames ∧ 8 + (maxL + 11) + 100 * d' ≤ R.locals) (hn : As.length = n) (hst : st = As.reverse ++ .ref (ad k) :: rest) (hW : (rest.map fun v => v.category).sum ≤ 8) (hdg : decode cc pc = .ok (.invokevirtual index, 3))
    (kk : ∀ (H1 : Heap) (locs1 : List Loc), va_P D ZCL (zw O N cA ad σ') H1 → va_S A s.heap H1 locs1 → W p l e R s m args below meth c H1 locs1 cells slots Q (F0 m (pc + 3) ls (rv.toList ++ rest))) : W p l e R s m args below meth c H locs cells slots Q (F0 m pc ls st) := by
  obtain ⟨fl, hO, -⟩ := hp k hg
  have hw := zw_obj (σ := σ) X hO hci
  obtain ⟨hx, hb, hts, hown, hK, hD, hRO, hml, hr, hlocks, hO'⟩ := X
  obtain ⟨v1, v2, v3, v4, v5⟩ := hV
  have hr := va_runV (p := p) (e := e) (R := R) (below := below) (meth := meth) (H := H) (locs := locs) (cells := cells) (slots := slots) (As := As) (rest := rest) (g := F0 m pc ls st) ⟨hx, hb, hml, hown, hts⟩ hM (cwV n hts (zgood (fun w hw => ?_)) rfl rfl rfl v1 hR) ⟨fun a U g mk q => ⟨q.1, zPre.blind q.2 g mk a⟩, va_recv hK hP hc hw, fun U hU hW => ⟨rfl, by rw [hU]; exact hP, va_K.moved hW.alike hK, hD, by rw [hU]; exact hRO.step hS hW⟩⟩ rfl hn hsz hst (lv_room hW) hdg hcs
  · intro T hT XT
    obtain ⟨v, st₀, t, T', L, h0, X', hL, e1, e2, ⟨⟨hv, hp⟩, hz, hk⟩, st⟩ := hr T hT XT
    cases hv
    rw [h0] at hz hk
    obtain ⟨t2, a1, b1⟩ := kk T'.heap (locs ++ L) (by rw [e1]; exact hp) ⟨Nat.le_trans hS.1 (by rw [e1]; exact hz), fun q h1 h2 => by rw [e1, hk q (Nat.lt_of_lt_of_le h1 hS.1) h2]; exact hS.2.1 q h1 h2, fun q hq => by
        rcases List.mem_append.mp hq with h | h
        · exact hS.2.2 q h
        · exact hL q h⟩ T' rfl X'
    exact ⟨t2, st t2 a1, b1⟩
  rcases List.mem_append.mp hw with h | h
  · simp only [List.mem_cons, List.not_mem_nil, or_false] at h
    rcases h with rfl | rfl | rfl | rfl
    · exact hl
    · exact v2
    · exact v3
    · exact v4
  · rcases List.mem_cons.mp h with rfl | h
    · exact v5
    · exact h
theorem zD_of {σ : SS} (h : va_D A (zw O N cA ad σ)) : zD A N ad :=
  ⟨fun i j hi hj he => h.1 i j _ _ (zw_at hi) (zw_at hj) he, fun k hk => h.2 k _ (zw_at hk)⟩
theorem zup8 (q0 q1 q2 q3 q4 q5 q6 q7 : Nat) : va_up (va_up (va_up (va_up (va_up (va_up (va_up (va_up (fun _ => none) 0 (some q0)) 1 (some q1)) 2 (some q2)) 3 (some q3)) 4 (some q4)) 5 (some q5)) 6 (some q6)) 7 (some q7) = fun j => ([q0, q1, q2, q3, q4, q5, q6, q7] : List Nat)[j]? := by
  funext j
  match j with
  | 0 => rfl
  | 1 => rfl
  | 2 => rfl
  | 3 => rfl
  | 4 => rfl
  | 5 => rfl
  | 6 => rfl
  | 7 => rfl
  | j + 8 => simp [va_up]
end ZK
