/-! ===== the law's own rows ===== -/
theorem zvin {i L k : Nat} {j : Int32} (h : i + 6 ≤ L) (hj : j = nI k ∧ k < 6) (hL : L ≤ 3072) : vp_in (nI i + j) L := by
  rw [hj.1, nI_add]
  exact vp_in_nI (by have := hj.2; omega) (by omega)
theorem zcmp {i L : Nat} (hL : L ≤ 3072) (hi : i ≤ L) (h : ¬ nI L - 6 < nI i) : i + 6 ≤ L := by
  rw [Int32.lt_iff_toInt_lt, show (6 : Int32) = nI 6 from rfl, pk_sub_toInt (by omega) (by omega), nI_toInt (by omega)] at h
  omega
section ZLW
variable {O : Nat → OD} {N : Nat} {cA : Nat → ClassId} {ad : Nat → Nat} {D : va_G} {E : Nat → Nat} {A : Nat → Prop}
variable {p : Program} {l : Launch} {e : Env} {R : Room} {s : State} {m : MethodId} {args : Array Value} {below : List Frame} {meth : Method} {c : Code} {H : Heap} {locs : List Loc} {cells slots : Nat} {Q : State → Prop}
variable {cc : ByteArray} {pc nL : Nat} {ret' : Option FieldType} {ls : Array Slot} {rest : List Value} {own : String} {σ : SS}
theorem zcallL {O2 : Nat → OD} {N2 : Nat} {ad2 : Nat → Nat} {τ : SS} (X : ZX Oz 0 cA adz D E A p s m args meth c cc own nL ret') (hsz : ls.size = nL) (hP : va_P D ZCL (zw O N cA ad σ) H) (hZ : zD A N ad) (hP2 : va_P D ZCL (zw O2 N2 cA ad2 τ) H) (hdis : ∀ i j, i < N → j < N2 → ad i ≠ ad2 j) (hS : va_S A s.heap H locs)
    {y : MethodName} {code : ByteArray} {maxL d' k ci n index NN : Nat} {rt : Option FieldType} {C : String} {T : u_T} {As st : List Value} {rv : Option Value} {σ' : SS} {pat : List Bool}
    (hM : zCon O N cA ad D E l y code maxL rt d' (fun q => ∃ j, j < N ∧ ad j = q) (.ref (ad k) :: As) σ rv σ') (hV : zV y code maxL rt C n) (hp : ZP O ci pat) (hg : zis O ci k = true) (hci : ci ≠ 99) (hc : ZCL[ci]? = some (C, T, NN)) (hl : Cond.methodLink own index y ∈ TB)
    (hR : d' + 1 ≤ R.frames ∧ 8 + (maxL + 11) + 100 * d' ≤ R.locals) (hcs : cells ≤ R.cells ∧ slots ≤ R.slots) (hn : As.length = n) (hst : st = As.reverse ++ .ref (ad k) :: rest) (hW : (rest.map fun v => v.category).sum ≤ 8) (hdg : decode cc pc = .ok (.invokevirtual index, 3)) (hO : ∀ k, N ≤ k → O k = .inl (99, []))
    (kk : ∀ (H1 : Heap) (locs1 : List Loc), va_P D ZCL (zw O N cA ad σ') H1 → va_P D ZCL (zw O2 N2 cA ad2 τ) H1 → va_S A s.heap H1 locs1 → W p l e R s m args below meth c H1 locs1 cells slots Q (F0 m (pc + 3) ls (rv.toList ++ rest))) : W p l e R s m args below meth c H locs cells slots Q (F0 m pc ls st) := by
  obtain ⟨fl, hOk, -⟩ := hp k hg
  have hkN : k < N := by
    rcases Nat.lt_or_ge k N with q | q
    · exact q
    · have := hOk.symm.trans (hO k q)
      cases this
      exact absurd rfl hci
  have hw : (zw O N cA ad σ)[k]? = some (ad k, .inr (ci, zfv ad (σ.1 k) 0 fl)) := by
    rw [zw_at hkN, hOk]
    rfl
  obtain ⟨hx, hb, hts, hown, hK, hD, hRO, hml, hr, hlocks, hO'⟩ := X
  obtain ⟨v1, v2, v3, v4, v5⟩ := hV
  have hAx : ∀ q, (∃ j, j < N ∧ ad j = q) → A q := fun q hq => by
    obtain ⟨j, hj, rfl⟩ := hq
    exact hZ.2 j hj
  have hZ1 : zD (fun q => ∃ j, j < N ∧ ad j = q) N ad := ⟨hZ.1, fun k hk => ⟨k, hk, rfl⟩⟩
  have hr := va_runV (p := p) (e := e) (R := R) (below := below) (meth := meth) (H := H) (locs := locs) (cells := cells) (slots := slots) (As := As) (rest := rest) (g := F0 m pc ls st) ⟨hx, hb, hml, hown, hts⟩ hM (cwV n hts (zgood (fun w hw => ?_)) rfl rfl rfl v1 hR) ⟨fun a U g mk q => ⟨q.1, zPre.blind q.2 g mk a⟩, va_recv hK hP hc hw, fun U hU hW => ⟨rfl, by rw [hU]; exact hP, va_K.moved hW.alike hK, hZ1, by rw [hU]; exact (hRO.step hS hW).narrow hAx⟩⟩ rfl hn hsz hst (lv_room hW) hdg hcs
  · intro T hT XT
    obtain ⟨v, st₀, t, T', L, h0, X', hL, e1, e2, ⟨⟨hv, hp⟩, hz, hk⟩, st⟩ := hr T hT XT
    cases hv
    rw [h0] at hz hk
    have hP2' : va_P D ZCL (zw O2 N2 cA ad2 τ) t.heap := hP2.kept (fun k q hq => by
      have hlt := (hP2 k q hq).lt
      obtain ⟨hk2, rfl⟩ := zw_mem hq
      exact hk _ hlt (fun hh => by
        obtain ⟨j, hj, he⟩ := hh
        exact hdis j k hj hk2 he))
    obtain ⟨t2, a1, b1⟩ := kk T'.heap (locs ++ L) (by rw [e1]; exact hp) (by rw [e1]; exact hP2') ⟨Nat.le_trans hS.1 (by rw [e1]; exact hz), fun q h1 h2 => by rw [e1, hk q (Nat.lt_of_lt_of_le h1 hS.1) (fun z => h2 (hAx q z))]; exact hS.2.1 q h1 h2, fun q hq => by
        rcases List.mem_append.mp hq with h | h
        · exact hS.2.2 q h
        · exact hAx _ (hL q h)⟩ T' rfl X'
    exact ⟨t2, st t2 a1, b1⟩
  rcases List.mem_append.mp hw with h | h
  · simp only [List.mem_cons, List.not_mem_nil, or_false] at h
    rcases h with rfl | rfl | rfl | rfl
    · exact hl
    · exact v2
    · exact v3
    · exact v4
  · rcases List.mem_cons.mp h with rfl | h
    · exact v5
    · exact h
end ZLW
