/-! ===== texts: five String constants, by their places ===== -/
def zl5 (w : Nat) : Bool := decide (w < 5)
theorem zl5_of {w : Nat} (h : zl5 w = true) : w < 5 := of_decide_eq_true h
section ZT
variable {O : Nat → OD} {N : Nat} {cA : Nat → ClassId} {ad : Nat → Nat} {D : va_G} {E : Nat → Nat} {A : Nat → Prop}
variable {p : Program} {l : Launch} {e : Env} {R : Room} {s : State} {m : MethodId} {args : Array Value} {below : List Frame} {meth : Method} {c : Code} {H : Heap} {locs : List Loc} {cells slots : Nat} {Q : State → Prop}
variable {cc : ByteArray} {pc nL : Nat} {ret : Option FieldType} {ls : Array Slot} {rest : List Value} {own : String} {σ : SS}
theorem zldcS (X : ZX O N cA ad D E A p s m args meth c cc own nL ret) {index w : Nat} {tx : String} (hm : (own, index, tx, w) ∈ ZREFS) (hdg : decode cc pc = .ok (.ldc index, 2))
    (kk : W p l e R s m args below meth c H locs cells slots Q (F0 m (pc + 2) ls (.ref (E (10 + w)) :: rest))) : W p l e R s m args below meth c H locs cells slots Q (F0 m pc ls rest) := by
  obtain ⟨hx, hb, hts, hown, hK, hD, hRO, -⟩ := X
  exact va_ldcS hx hb hown (hRO.2.2.2.1 _ hm) hdg kk
theorem zldcSW0 {T : State} (X : Stand p l e R s m args below meth c T locs cells slots) (hexec : p.tables.exec = Jvm.exec) {text : String} {index : Nat} {a : Addr} (hown : s.vm.findClass own = some m.cls)
    (hconst : (Cond.stringRef own index text).before args s = true) (hev : (Term.string own index).eval args s none [] s = some (.ref a)) {g : JFrame} (hg : g.method = m) (hdg : decode c.code g.pc = .ok (.ldc_w index, 3)) :
    ∀ target, Steps p.tables e below (T.setTop { g with pc := g.pc + 3, stack := .ref a :: g.stack }) target → Steps p.tables e below (T.setTop g) target := by
  obtain ⟨k, cf, i, a', hk, hcf, hcp, -, hr, hev'⟩ := Cond.stringRef_spec hown hconst
  cases hev.symm.trans hev'
  obtain ⟨k', hk', he⟩ := X.warmed.alike.2.2 _ _ hk
  have hr' : k'.resolved[index]? = some (some (.string a)) := by
    rcases X.warmed.entry hk hk' index with h | ⟨h, -⟩
    · rw [h]; exact hr
    · rw [hr] at h; cases h
  intro target hrest
  subst hg
  jvm_step X.here [hexec, hdg, ldc_w.wp_string (e := e) (s := T) (f := g) X.here.top hk' (by rw [he]; exact hcf) hcp hr']
  exact hrest
theorem zldcSW (X : ZX O N cA ad D E A p s m args meth c cc own nL ret) {index w : Nat} {tx : String} (hm : (own, index, tx, w) ∈ ZREFS) (hdg : decode cc pc = .ok (.ldc_w index, 3))
    (kk : W p l e R s m args below meth c H locs cells slots Q (F0 m (pc + 3) ls (.ref (E (10 + w)) :: rest))) : W p l e R s m args below meth c H locs cells slots Q (F0 m pc ls rest) := by
  obtain ⟨hx, hb, hts, hown, hK, hD, hRO, -⟩ := X
  have hZ := hRO.2.2.2.1 _ hm
  intro T hT XT
  obtain ⟨t, a1, b1⟩ := kk T hT XT
  exact ⟨t, zldcSW0 XT hx hown (text := tx) (a := E (10 + w)) hZ.1 hZ.2 (g := F0 m pc ls rest) rfl (by rw [hb]; exact hdg) t a1, b1⟩
theorem zsv (X : ZX O N cA ad D E A p s m args meth c cc RJ0 nL ret) (hS : va_S A s.heap H locs) {w : Nat} (hw : zl5 w = true) (hdg : decode cc pc = .ok (.getfield 9, 3))
    (kk : W p l e R s m args below meth c H locs cells slots Q (F0 m (pc + 3) ls (.ref (E (20 + w)) :: rest))) : W p l e R s m args below meth c H locs cells slots Q (F0 m pc ls (.ref (E (10 + w)) :: rest)) := by
  obtain ⟨hx, hb, hts, hown, hK, hD, hRO, -⟩ := X
  exact vk_getf hx hb (hRO.2.2.1.1 w (zl5_of hw)).2.2.1 hS hown (hts _ fl_J0_9) (fun _ h => h) hdg kk
theorem zsc (X : ZX O N cA ad D E A p s m args meth c cc RJ0 nL ret) (hS : va_S A s.heap H locs) {w : Nat} (hw : zl5 w = true) (hdg : decode cc pc = .ok (.getfield 15, 3))
    (kk : W p l e R s m args below meth c H locs cells slots Q (F0 m (pc + 3) ls (.int 0 :: rest))) : W p l e R s m args below meth c H locs cells slots Q (F0 m pc ls (.ref (E (10 + w)) :: rest)) := by
  obtain ⟨hx, hb, hts, hown, hK, hD, hRO, -⟩ := X
  exact vk_getf hx hb (hRO.2.2.1.1 w (zl5_of hw)).2.1 hS hown (hts _ fl_J0_15) (fun _ h => h) hdg kk
theorem zscs (X : ZX O N cA ad D E A p s m args meth c cc RJ0 nL ret) (hS : va_S A s.heap H locs) (hdg : decode cc pc = .ok (.getstatic 38, 3))
    (kk : W p l e R s m args below meth c H locs cells slots Q (F0 m (pc + 3) ls (.int 1 :: rest))) : W p l e R s m args below meth c H locs cells slots Q (F0 m pc ls rest) := by
  obtain ⟨hx, hb, hts, hown, hK, hD, hRO, -⟩ := X
  exact va_gets hx hb hRO.2.2.2.2.1 hS hown (hts _ fl_J0_38) (fun _ h => h) hdg kk
theorem zfmt (X : ZX O N cA ad D E A p s m args meth c cc RJ0 nL ret) (hS : va_S A s.heap H locs) (hdg : decode cc pc = .ok (.getstatic 1053, 3))
    (kn : W p l e R s m args below meth c H locs cells slots Q (F0 m (pc + 3) ls (.null :: rest))) (kr : ∀ t : Nat, W p l e R s m args below meth c H locs cells slots Q (F0 m (pc + 3) ls (.ref t :: rest))) : W p l e R s m args below meth c H locs cells slots Q (F0 m pc ls rest) := by
  obtain ⟨hx, hb, hts, hown, hK, hD, hRO, -⟩ := X
  rcases hRO.2.2.2.2.2 with h | ⟨t, h⟩
  · exact va_gets hx hb h hS hown (hts _ fl_J0_1053) (fun _ h => h) hdg kn
  · exact va_gets hx hb h hS hown (hts _ fl_J0_1053) (fun _ h => h) hdg (kr t)
theorem zsal (X : ZX O N cA ad D E A p s m args meth c cc own nL ret) (hS : va_S A s.heap H locs) {w : Nat} (hw : zl5 w = true) (hdg : decode cc pc = .ok (.arraylength, 1))
    (kk : W p l e R s m args below meth c H locs cells slots Q (F0 m (pc + 1) ls (.int (nI (ZLEN.getD w 0)) :: rest))) : W p l e R s m args below meth c H locs cells slots Q (F0 m pc ls (.ref (E (20 + w)) :: rest)) := by
  obtain ⟨hx, hb, hts, hown, hK, hD, hRO, -⟩ := X
  exact va_tlen hx hb (hRO.2.2.1.1 w (zl5_of hw)).2.2.2 hS rfl hdg kk
theorem zsbl (X : ZX O N cA ad D E A p s m args meth c cc own nL ret) (hS : va_S A s.heap H locs) {w : Nat} {i : Int32} (hw : zl5 w = true) (hin : zin i (ZLEN.getD w 0) = true) (hdg : decode cc pc = .ok (.baload, 1))
    (kk : W p l e R s m args below meth c H locs cells slots Q (F0 m (pc + 1) ls (.int ((ZBYT.getD w []).getD i.toNatClampNeg 0) :: rest))) : W p l e R s m args below meth c H locs cells slots Q (F0 m pc ls (.int i :: .ref (E (20 + w)) :: rest)) := by
  obtain ⟨hx, hb, hts, hown, hK, hD, hRO, -⟩ := X
  exact va_tb hx hb (hRO.2.2.1.1 w (zl5_of hw)).2.2.2 hS (zin_of hin) rfl hdg kk
theorem zcallT (X : ZX O N cA ad D E A p s m args meth c cc own nL ret) (hP : va_P D ZCL (zw O N cA ad σ) H) (hS : va_S A s.heap H locs) (hsz : ls.size = nL) {y : MethodName} {code : ByteArray} {maxL d d' w n index : Nat} {ret' : Option FieldType} {As st : List Value} {rv : Option Value} {σ' : SS}
    (hM : zCon O N cA ad D E l y code maxL ret' d' A (.ref (E (10 + w)) :: As) σ rv σ') (hV : zV y code maxL ret' RJ0 n) (hw5 : zl5 w = true) (hl : Cond.methodLink own index y ∈ TB)
    (hR : d' + 1 ≤ d ∧ 8 + (maxL + 11) + 100 * d' ≤ 100 * d) (hn : As.length = n) (hst : st = As.reverse ++ .ref (E (10 + w)) :: rest) (hW : (rest.map fun v => v.category).sum ≤ 8) (hdg : decode cc pc = .ok (.invokevirtual index, 3))
    (kk : ∀ (H1 : Heap) (locs1 : List Loc), va_P D ZCL (zw O N cA ad σ') H1 → va_S A s.heap H1 locs1 → W p l e (zrm d) s m args below meth c H1 locs1 0 0 Q (F0 m (pc + 3) ls (rv.toList ++ rest))) : W p l e (zrm d) s m args below meth c H locs 0 0 Q (F0 m pc ls st) := by
  obtain ⟨hx, hb, hts, hown, hK, hD, hRO, hml, hr, hlocks, hO'⟩ := X
  obtain ⟨v1, v2, v3, v4, v5⟩ := hV
  refine zcall_of (O1 := O) (N1 := N) (ad1 := ad) (va_runV (As := As) (rest := rest) ⟨hx, hb, hml, hown, hts⟩ hM (cwV n hts (zgood (fun w hw => ?_)) rfl rfl rfl v1 hR) ⟨fun a U g mk q => ⟨q.1, zPre.blind q.2 g mk a⟩, vk_recv hRO.2.2.1 (zl5_of hw5) hS, fun U hU hW => ⟨rfl, by rw [hU]; exact hP, va_K.moved hW.alike hK, hD, by rw [hU]; exact hRO.step hS hW⟩⟩ rfl hn hsz hst (lv_room hW) hdg ⟨Nat.le_refl _, Nat.le_refl _⟩) hS kk
  rcases List.mem_append.mp hw with h | h
  · simp only [List.mem_cons, List.not_mem_nil, or_false] at h
    rcases h with rfl | rfl | rfl | rfl
    · exact hl
    · exact v2
    · exact v3
    · exact v4
  · rcases List.mem_cons.mp h with rfl | h
    · exact v5
    · exact h
end ZT
