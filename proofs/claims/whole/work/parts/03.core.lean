/-! ===== the tables' words that may be handed on ===== -/
def TB : List Cond := lw_tbl.filter goodWord
theorem tb_in {w : Cond} (i : Nat) (h : tables_1[i]? = some w) (hg : goodWord w = true) : w ∈ TB :=
  List.mem_filter.mpr ⟨List.mem_append_right _ (List.mem_of_getElem? h), hg⟩
theorem tb_sel {q : MethodName × Nat} (i : Nat) (h : lw_privs[i]? = some q) (hg : goodWord (Cond.selects q.1.cls q.1 q.1) = true) : Cond.selects q.1.cls q.1 q.1 ∈ TB :=
  List.mem_filter.mpr ⟨List.mem_append_left _ (List.mem_map.mpr ⟨q, List.mem_of_getElem? h, rfl⟩), hg⟩
theorem tb_good {w : Cond} (h : w ∈ TB) : (w.onTables && w.keeps) = true ∨ ∃ ty, w = .arrayClass ty := good_of_word (List.mem_filter.mp h).2
theorem tb_tbl {w : Cond} (h : w ∈ TB) : w ∈ lw_tbl := (List.mem_filter.mp h).1
/-! ===== the state of all cells, and the world made of it ===== -/
abbrev SS : Type := (Nat → Nat → Int32) × (Nat → Nat → Int64)
/-- an object: its class and its fields (none: an int-like one; some q: always a reference to object q); or an array: its kind (0 int, 1 long, 2 boolean, 3 char, 4 Klass, 5 long[]), its length, what it refers to -/
abbrev OD : Type := (Nat × List (Option Nat)) ⊕ (Nat × Nat × List Nat)
def zfv (ad : Nat → Nat) (g : Nat → Int32) : Nat → List (Option Nat) → List Value
  | _, [] => []
  | j, none :: r => .int (g j) :: zfv ad g (j + 1) r
  | j, some q :: r => .ref (ad q) :: zfv ad g (j + 1) r
def zarr (ad : Nat → Nat) (gi : Nat → Int32) (gl : Nat → Int64) (t : Nat) (rs : List Nat) : (Nat → Int32) ⊕ (Nat → Int64) ⊕ (Nat → UInt32) ⊕ (Nat → UInt64) ⊕ (Nat → Option Nat) := match t with
  | 1 => .inr (.inl gl)
  | 4 => .inr (.inr (.inr (.inr (fun j => (rs[j]?).map ad))))
  | 5 => .inr (.inr (.inr (.inr (fun j => (rs[j]?).map ad))))
  | _ => .inl gi
def zcell (cA : Nat → ClassId) (ad : Nat → Nat) (gi : Nat → Int32) (gl : Nat → Int64) (o : OD) : va_E := match o with
  | .inl (ci, fl) => .inr (ci, zfv ad gi 0 fl)
  | .inr (t, n, rs) => .inl (cA t, n, zarr ad gi gl t rs)
def zw (O : Nat → OD) (N : Nat) (cA : Nat → ClassId) (ad : Nat → Nat) (σ : SS) : va_W := (List.range N).map fun k => (ad k, zcell cA ad (σ.1 k) (σ.2 k) (O k))
def zI (σ : SS) (k : Nat) (f : Nat → Int32) : SS := (fun a => if a = k then f else σ.1 a, σ.2)
def zL (σ : SS) (k : Nat) (f : Nat → Int64) : SS := (σ.1, fun a => if a = k then f else σ.2 a)
theorem zfv_congr {ad : Nat → Nat} {g g' : Nat → Int32} : ∀ (fl : List (Option Nat)) (j : Nat), (∀ i, j ≤ i → g i = g' i) → zfv ad g j fl = zfv ad g' j fl
  | [], _, _ => rfl
  | none :: r, j, h => by
    show Value.int (g j) :: zfv ad g (j + 1) r = Value.int (g' j) :: zfv ad g' (j + 1) r
    rw [h j (Nat.le_refl _), zfv_congr r (j + 1) (fun i hi => h i (by omega))]
  | some q :: r, j, h => by
    show Value.ref (ad q) :: zfv ad g (j + 1) r = Value.ref (ad q) :: zfv ad g' (j + 1) r
    rw [zfv_congr r (j + 1) (fun i hi => h i (by omega))]
theorem zfv_len {ad : Nat → Nat} {g : Nat → Int32} : ∀ (fl : List (Option Nat)) (j : Nat), (zfv ad g j fl).length = fl.length
  | [], _ => rfl
  | none :: r, j => by show (zfv ad g (j + 1) r).length + 1 = r.length + 1; rw [zfv_len r]
  | some q :: r, j => by show (zfv ad g (j + 1) r).length + 1 = r.length + 1; rw [zfv_len r]
theorem zfv_int {ad : Nat → Nat} {g : Nat → Int32} : ∀ (fl : List (Option Nat)) (j i : Nat), fl[i]? = some none → (zfv ad g j fl)[i]? = some (.int (g (j + i)))
  | [], _, _, h => by simp at h
  | none :: r, j, 0, _ => rfl
  | some q :: r, j, 0, h => by simp at h
  | none :: r, j, i + 1, h => by
    show (zfv ad g (j + 1) r)[i]? = _
    rw [zfv_int r (j + 1) i (by simpa using h), show j + 1 + i = j + (i + 1) by omega]
  | some q :: r, j, i + 1, h => by
    show (zfv ad g (j + 1) r)[i]? = _
    rw [zfv_int r (j + 1) i (by simpa using h), show j + 1 + i = j + (i + 1) by omega]
theorem zfv_ref {ad : Nat → Nat} {g : Nat → Int32} {q : Nat} : ∀ (fl : List (Option Nat)) (j i : Nat), fl[i]? = some (some q) → (zfv ad g j fl)[i]? = some (.ref (ad q))
  | [], _, _, h => by simp at h
  | none :: r, j, 0, h => by simp at h
  | some q :: r, j, 0, h => by simp at h; subst h; rfl
  | none :: r, j, i + 1, h => by
    show (zfv ad g (j + 1) r)[i]? = _
    rw [zfv_ref r (j + 1) i (by simpa using h)]
  | some q :: r, j, i + 1, h => by
    show (zfv ad g (j + 1) r)[i]? = _
    rw [zfv_ref r (j + 1) i (by simpa using h)]
theorem zfv_set {ad : Nat → Nat} : ∀ (fl : List (Option Nat)) (g : Nat → Int32) (j i : Nat) (v : Int32), fl[i]? = some none → (zfv ad g j fl).set i (.int v) = zfv ad (upd g (j + i) v) j fl
  | [], _, _, _, _, h => by simp at h
  | none :: r, g, j, 0, v, _ => by
    show Value.int v :: zfv ad g (j + 1) r = Value.int (upd g (j + 0) v j) :: zfv ad (upd g (j + 0) v) (j + 1) r
    rw [zfv_congr (g := g) (g' := upd g (j + 0) v) r (j + 1) (fun i hi => by unfold upd; rw [if_neg (by omega)])]
    unfold upd
    simp
  | some q :: r, _, j, 0, _, h => by simp at h
  | none :: r, g, j, i + 1, v, h => by
    show Value.int (g j) :: (zfv ad g (j + 1) r).set i (.int v) = Value.int (upd g (j + (i + 1)) v j) :: zfv ad (upd g (j + (i + 1)) v) (j + 1) r
    rw [zfv_set r g (j + 1) i v (by simpa using h), show j + 1 + i = j + (i + 1) by omega]
    congr 2
    unfold upd
    rw [if_neg (by omega)]
  | some q :: r, g, j, i + 1, v, h => by
    show Value.ref (ad q) :: (zfv ad g (j + 1) r).set i (.int v) = Value.ref (ad q) :: zfv ad (upd g (j + (i + 1)) v) (j + 1) r
    rw [zfv_set r g (j + 1) i v (by simpa using h), show j + 1 + i = j + (i + 1) by omega]
theorem zw_at {O : Nat → OD} {N : Nat} {cA : Nat → ClassId} {ad : Nat → Nat} {σ : SS} {k : Nat} (hk : k < N) : (zw O N cA ad σ)[k]? = some (ad k, zcell cA ad (σ.1 k) (σ.2 k) (O k)) := by
  unfold zw
  rw [List.getElem?_map, List.getElem?_range hk]
  rfl
theorem zw_mem {O : Nat → OD} {N : Nat} {cA : Nat → ClassId} {ad : Nat → Nat} {σ : SS} {k : Nat} {q : Nat × va_E} (h : (zw O N cA ad σ)[k]? = some q) : k < N ∧ q = (ad k, zcell cA ad (σ.1 k) (σ.2 k) (O k)) := by
  have hk : k < N := by
    have := (List.getElem?_eq_some_iff.mp h).1
    simpa [zw] using this
  rw [zw_at hk] at h
  exact ⟨hk, (Option.some.inj h).symm⟩
theorem zw_set {O : Nat → OD} {N : Nat} {cA : Nat → ClassId} {ad : Nat → Nat} {σ σ' : SS} {k : Nat} {e : va_E} (h1 : ∀ j, j ≠ k → σ'.1 j = σ.1 j) (h2 : ∀ j, j ≠ k → σ'.2 j = σ.2 j) (he : e = zcell cA ad (σ'.1 k) (σ'.2 k) (O k)) : (zw O N cA ad σ).set k (ad k, e) = zw O N cA ad σ' := by
  subst he
  apply List.ext_getElem?
  intro i
  rw [List.getElem?_set]
  by_cases hi : i < N
  · rw [zw_at hi, zw_at hi]
    by_cases h : k = i
    · subst h
      simp [zw, hi]
    · rw [if_neg h, h1 i (Ne.symm h), h2 i (Ne.symm h)]
  · have e1 : (zw O N cA ad σ)[i]? = none := by simp [zw, Nat.not_lt.mp hi]
    have e2 : (zw O N cA ad σ')[i]? = none := by simp [zw, Nat.not_lt.mp hi]
    rw [e1, e2]
    by_cases h : k = i
    · subst h
      simp [zw, hi]
    · rw [if_neg h]
def zD (A : Nat → Prop) (N : Nat) (ad : Nat → Nat) : Prop := (∀ i j, i < N → j < N → ad i = ad j → i = j) ∧ ∀ k, k < N → A (ad k)
theorem zD.va {A : Nat → Prop} {N : Nat} {ad : Nat → Nat} (h : zD A N ad) (O : Nat → OD) (cA : Nat → ClassId) (σ : SS) : va_D A (zw O N cA ad σ) := by
  refine ⟨fun i j p q hi hj he => ?_, fun k q hk => ?_⟩
  · obtain ⟨a1, rfl⟩ := zw_mem hi
    obtain ⟨a2, rfl⟩ := zw_mem hj
    exact h.1 i j a1 a2 he
  · obtain ⟨a1, rfl⟩ := zw_mem hk
    exact h.2 k a1
def ZCL : List vw_C := [(RX0, TX0, 5), (RX1, TX1, 6), (RX2, TX2, 4), (RX3, TX3, 3), (RX4, TX4, 3), (RX5, TX5, 3), (RX6, TX6, 3), (RX7, TX7, 6), (RX8, TX8, 7), (RX9, TX9, 3), (RX10, TX10, 10), (RX11, TX11, 10), (RX12, TX12, 61)]
def ztys (cA : Nat → ClassId) : List (ClassId × FieldType) := [(cA 0, .int), (cA 1, .long), (cA 2, .boolean), (cA 3, .char), (cA 4, .object "BlownSpaces$Klass"), (cA 5, .array .long)]
/-! ===== what is read alone: static tables, links of nest mates, texts ===== -/
def ZTAB : List (String × List Int32) := [("UNITS", [1, 10, 100, 1000, 10000, 100000]), ("AHEAD", [0, 0, 0, 0, 0, 0, 0, 1, 2, 3, 4, 5, 0, 1, 3, 6, 10, 15, 0, 1, 4, 10, 20, 35, 0, 1, 5, 15, 35, 70, 0, 1, 6, 21, 56, 126, 0, 1, 7, 28, 84, 210]), ("ABOVE", [-1, 0, 0, 0, 2, 1]), ("BODIES", [10, 11, 12, 10, 20, 12, 30, 11, 12, 10, 50, 12, 41, 11, 40, 10, 20, 60])]
def zisN : Cond → Bool
  | .fieldLinkNest .. => true
  | .methodLinkNest .. => true
  | _ => false
def NB : List Cond := tables_1.filter zisN
def ZLEN : List Nat := [3, 5, 5, 5, 4]
def ZBYT : List (List Int32) := [[115, 117, 109], [116, 105, 109, 101, 115], [109, 105, 110, 117, 115], [112, 111, 119, 101, 114], [112, 97, 114, 116]]
def ZREFS : List (String × Nat × String × Nat) := [("BlownSpaces$Deeds", 42, "sum", 0), ("BlownSpaces$Deeds", 48, "times", 1), ("BlownSpaces$Deeds", 50, "minus", 2), ("BlownSpaces$Deeds", 52, "power", 3), ("BlownSpaces$Deeds", 54, "part", 4), ("BlownSpacesModel", 384, "sum", 0), ("BlownSpacesModel", 390, "times", 1), ("BlownSpacesModel", 392, "minus", 2), ("BlownSpacesModel", 394, "power", 3), ("BlownSpacesModel", 395, "part", 4)]
def zRO (E : Nat → Nat) (A : Nat → Prop) (U : State) (H : Heap) : Prop :=
  (∀ (i : Nat) (q : String × List Int32), ZTAB[i]? = some q → va_Z "BlownSpaces" q.1 "[I" (.ref (E i)) A U H ∧ va_T .int (E i) q.2.length (fun j => .int (q.2.getD j 0)) A U H) ∧
  (∀ w ∈ NB, va_Nw w U) ∧
  vk_S 5 ZLEN ZBYT (fun i => E (10 + i)) (fun i => E (20 + i)) A U H ∧
  (∀ q ∈ ZREFS, vk_R q.1 q.2.1 q.2.2.1 (E (10 + q.2.2.2)) U) ∧
  va_Z "java/lang/String" "COMPACT_STRINGS" "Z" (.int 1) A U H ∧
  va_Zq "jdk/internal/util/Preconditions" "SIOOBE_FORMATTER" "Ljava/util/function/BiFunction;" A U H
theorem zRO.same {E : Nat → Nat} {A : Nat → Prop} {u U : State} {H : Heap} (hv : U.vm = u.vm) (h : zRO E A u H) : zRO E A U H := by
  have hA : u.vm.Alike U.vm := by rw [hv]; exact Vm.Alike.refl _
  obtain ⟨h1, h2, h3, h4, h5, h6⟩ := h
  refine ⟨fun i q hq => ⟨(h1 i q hq).1.moved hA, (h1 i q hq).2.moved hA⟩, fun w hw => ?_, h3.moved hA, fun q hq => (h4 q hq).same hv, h5.moved hA, h6.moved hA⟩
  have hn : zisN w = true := (List.mem_filter.mp hw).2
  cases w <;> first | (exact va_Nw.same rfl hv.symm (h2 _ hw)) | (exact absurd hn (by decide)) | cases hn
theorem zRO.step {E : Nat → Nat} {A : Nat → Prop} {s U : State} {H : Heap} {locs : List Loc} (h : zRO E A s s.heap) (hS : va_S A s.heap H locs) (hW : s.WarmedH U.vm) : zRO E A U H := by
  have hA : s.vm.Alike U.vm := hW.alike
  obtain ⟨h1, h2, h3, h4, h5, h6⟩ := h
  refine ⟨fun i q hq => ⟨((h1 i q hq).1.moved hA).kept hS.2.1, ((h1 i q hq).2.moved hA).kept hS.2.1⟩, fun w hw => ?_, (h3.moved hA).kept hS.2.1, fun q hq => (h4 q hq).warm hW, (h5.moved hA).kept hS.2.1, (h6.moved hA).kept hS.2.1⟩
  have hn : zisN w = true := (List.mem_filter.mp hw).2
  cases w <;> first | (exact va_Nw.warmF hW (h2 _ hw)) | (exact va_Nw.warmM hW (h2 _ hw)) | cases hn
/-! ===== a contract ===== -/
def zPre (O : Nat → OD) (N : Nat) (cA : Nat → ClassId) (ad : Nat → Nat) (D : va_G) (E : Nat → Nat) (A : Nat → Prop) (σ : SS) (U : State) : Prop :=
  va_P D ZCL (zw O N cA ad σ) U.heap ∧ va_K D ZCL (ztys cA) U ∧ zD A N ad ∧ zRO E A U U.heap
theorem zPre.blind {O : Nat → OD} {N : Nat} {cA : Nat → ClassId} {ad : Nat → Nat} {D : va_G} {E : Nat → Nat} {A : Nat → Prop} {σ : SS} {U : State} (h : zPre O N cA ad D E A σ U) (g : JFrame) (mk : MethodId) (a : Array Value) : zPre O N cA ad D E A σ (U.calling g mk a) := by
  obtain ⟨h1, h2, h3, h4⟩ := h
  exact ⟨h1, va_K.moved (u := U) (U := U.calling g mk a) (Vm.Alike.refl U.vm) h2, h3, zRO.same (u := U) (U := U.calling g mk a) rfl h4⟩
abbrev zrm (d : Nat) : Room := { frames := d, cells := 0, slots := 0, locals := 100 * d }
def zQc (O : Nat → OD) (N : Nat) (cA : Nat → ClassId) (ad : Nat → Nat) (D : va_G) (A : Nat → Prop) (rv : Option Value) (σ' : SS) : Array Value → State → Outcome → State → Prop := fun _ st o t =>
  (o = .returned rv ∧ va_P D ZCL (zw O N cA ad σ') t.heap) ∧ va_F A st t
def zCon (O : Nat → OD) (N : Nat) (cA : Nat → ClassId) (ad : Nat → Nat) (D : va_G) (E : Nat → Nat) (l : Launch) (y : MethodName) (code : ByteArray) (maxL : Nat) (ret : Option FieldType) (d : Nat) (A : Nat → Prop) (av : List Value) (σ : SS) (rv : Option Value) (σ' : SS) : Prop :=
  Met l y (Cond.code y code maxL ret :: TB) (zrm d) (va_Pc av (fun U => zPre O N cA ad D E A σ U)) (zQc O N cA ad D A rv σ') 0 0 A
/-- what stands fast within a method -/
def ZX (O : Nat → OD) (N : Nat) (cA : Nat → ClassId) (ad : Nat → Nat) (D : va_G) (E : Nat → Nat) (A : Nat → Prop) (p : Program) (s : State) (m : MethodId) (args : Array Value) (meth : Method) (c : Code) (cc : ByteArray) (own : String) (nL : Nat) (ret : Option FieldType) : Prop :=
  p.tables.exec = Jvm.exec ∧ c.code = cc ∧ (∀ w ∈ TB, w.before args s = true) ∧ s.vm.findClass own = some m.cls ∧ va_K D ZCL (ztys cA) s ∧ zD A N ad ∧ zRO E A s s.heap ∧ c.maxLocals = nL ∧ meth.sig.returnType = ret ∧ meth.locks = false ∧ ∀ k, N ≤ k → O k = .inl (99, [])
section ZS
variable {O : Nat → OD} {N : Nat} {cA : Nat → ClassId} {ad : Nat → Nat} {D : va_G} {E : Nat → Nat} {A : Nat → Prop} {l : Launch}
theorem zstart {y : MethodName} {code : ByteArray} {maxL d : Nat} {ret : Option FieldType} {av : List Value} {σ σ' : SS} {rv : Option Value} {own : String} (hO : ∀ k, N ≤ k → O k = .inl (99, [])) (hy : plainName y.cls = true) (hc : y.cls = own) (hn : (lg_sl av).length ≤ maxL)
    (body : ∀ (p : Program) (e : Env) (s : State) (m : MethodId) (args : Array Value) (below : List Frame) (meth : Method) (c : Code), ZX O N cA ad D E A p s m args meth c code own maxL ret → va_P D ZCL (zw O N cA ad σ) s.heap → ∀ ls : Array Slot, lv_has ls maxL (lv_args 0 av) →
      W p l e (zrm d) s m args below meth c s.heap [] 0 0 (MQ below (zQc O N cA ad D A rv σ') args s 0 0 A) (F0 m 0 ls [])) : zCon O N cA ad D E l y code maxL ret d A av σ rv σ' := by
  refine Met.ofW (cc := code) (maxL := maxL) (ret := ret) hy rfl ?_
  intro p e s m args below meth c s₁ B hml hv
  obtain ⟨rfl, hP, hK, hD, hRO⟩ := hv
  have hts0 := atoms_spec (ws := Cond.code y code maxL ret :: TB) B.pre
  rw [lg_entry_eq]
  subst hc
  exact body p e s m _ below meth c ⟨B.exec, B.bytes, fun w hw => hts0 w (List.mem_cons_of_mem _ hw), findClass_of_methodNamed B.named, hK, hD, hRO, hml, B.returns, B.notSynchronized, hO⟩ hP _ (lv_entry av hn)
end ZS
section ZR
variable {O : Nat → OD} {N : Nat} {cA : Nat → ClassId} {ad : Nat → Nat} {D : va_G} {E : Nat → Nat} {A : Nat → Prop}
variable {p : Program} {l : Launch} {e : Env} {R : Room} {s : State} {m : MethodId} {args : Array Value} {below : List Frame} {meth : Method} {c : Code} {H : Heap} {locs : List Loc} {Q : State → Prop}
variable {cc : ByteArray} {pc nL : Nat} {ret : Option FieldType} {ls : Array Slot} {rest : List Value} {own : String} {σ : SS}
theorem zret_i {v r : Int32} {σ' : SS} {ty : FieldType} (X : ZX O N cA ad D E A p s m args meth c cc own nL (some ty)) (hP : va_P D ZCL (zw O N cA ad σ) H) (hS : va_S A s.heap H locs) (hf : some (v, σ) = some (r, σ')) (hn : narrow ty (.int v) = .int v) (hdg : decode cc pc = .ok (.ireturn, 1)) :
    W p l e R s m args below meth c H locs 0 0 (MQ below (zQc O N cA ad D A (some (.int r)) σ') args s 0 0 A) (F0 m pc ls [.int v]) := by
  obtain ⟨hx, hb, hts, hown, hK, hD, hRO, hml, hr, hlocks, hO⟩ := X
  cases hf
  exact W.zret (v := v) hx hb hr hn (fun t ht hW => ⟨⟨rfl, by rw [ht]; exact hP⟩, hS.F ht⟩) hS.2.2 hdg
theorem zret_l {v r : Int64} {σ' : SS} (X : ZX O N cA ad D E A p s m args meth c cc own nL (some .long)) (hP : va_P D ZCL (zw O N cA ad σ) H) (hS : va_S A s.heap H locs) (hf : some (v, σ) = some (r, σ')) (hdg : decode cc pc = .ok (.lreturn, 1)) :
    W p l e R s m args below meth c H locs 0 0 (MQ below (zQc O N cA ad D A (some (.long r)) σ') args s 0 0 A) (F0 m pc ls [.long v]) := by
  obtain ⟨hx, hb, hts, hown, hK, hD, hRO, hml, hr, hlocks, hO⟩ := X
  cases hf
  exact W.lret (v := v) hx hb hr (fun t ht hW => ⟨⟨rfl, by rw [ht]; exact hP⟩, hS.F ht⟩) hS.2.2 hdg
theorem zret_v {r : Unit} {σ' : SS} (X : ZX O N cA ad D E A p s m args meth c cc own nL none) (hP : va_P D ZCL (zw O N cA ad σ) H) (hS : va_S A s.heap H locs) (hf : some ((), σ) = some (r, σ')) (hdg : decode cc pc = .ok (.return_, 1)) :
    W p l e R s m args below meth c H locs 0 0 (MQ below (zQc O N cA ad D A none σ') args s 0 0 A) (F0 m pc ls []) := by
  obtain ⟨hx, hb, hts, hown, hK, hD, hRO, hml, hr, hlocks, hO⟩ := X
  cases hf
  exact W.vret hx hb hr (fun t ht hW => ⟨⟨rfl, by rw [ht]; exact hP⟩, hS.F ht⟩) hS.2.2 hdg
end ZR
