def zQL : List Cond := [(Cond.eq (.elem (Term.static "BlownSpaces" "UNITS" "[I") (.int 0)) (.int 1)), (Cond.eq (.elem (Term.static "BlownSpaces" "UNITS" "[I") (.int 1)) (.int 10)), (Cond.eq (.elem (Term.static "BlownSpaces" "UNITS" "[I") (.int 2)) (.int 100)), (Cond.eq (.elem (Term.static "BlownSpaces" "UNITS" "[I") (.int 3)) (.int 1000)), (Cond.eq (.elem (Term.static "BlownSpaces" "UNITS" "[I") (.int 4)) (.int 10000)), (Cond.eq (.elem (Term.static "BlownSpaces" "UNITS" "[I") (.int 5)) (.int 100000)), (Cond.arrayOf (Term.static "BlownSpaces" "UNITS" "[I") .int), (Cond.eq (.length (Term.static "BlownSpaces" "UNITS" "[I")) (.int 6)), (Cond.eq (.elem (Term.static "BlownSpaces" "AHEAD" "[I") (.int 0)) (.int 0)), (Cond.eq (.elem (Term.static "BlownSpaces" "AHEAD" "[I") (.int 1)) (.int 0)), (Cond.eq (.elem (Term.static "BlownSpaces" "AHEAD" "[I") (.int 2)) (.int 0)), (Cond.eq (.elem (Term.static "BlownSpaces" "AHEAD" "[I") (.int 3)) (.int 0)), (Cond.eq (.elem (Term.static "BlownSpaces" "AHEAD" "[I") (.int 4)) (.int 0)), (Cond.eq (.elem (Term.static "BlownSpaces" "AHEAD" "[I") (.int 5)) (.int 0)), (Cond.eq (.elem (Term.static "BlownSpaces" "AHEAD" "[I") (.int 6)) (.int 0)), (Cond.eq (.elem (Term.static "BlownSpaces" "AHEAD" "[I") (.int 7)) (.int 1)), (Cond.eq (.elem (Term.static "BlownSpaces" "AHEAD" "[I") (.int 8)) (.int 2)), (Cond.eq (.elem (Term.static "BlownSpaces" "AHEAD" "[I") (.int 9)) (.int 3)), (Cond.eq (.elem (Term.static "BlownSpaces" "AHEAD" "[I") (.int 10)) (.int 4)), (Cond.eq (.elem (Term.static "BlownSpaces" "AHEAD" "[I") (.int 11)) (.int 5)), (Cond.eq (.elem (Term.static "BlownSpaces" "AHEAD" "[I") (.int 12)) (.int 0)), (Cond.eq (.elem (Term.static "BlownSpaces" "AHEAD" "[I") (.int 13)) (.int 1)), (Cond.eq (.elem (Term.static "BlownSpaces" "AHEAD" "[I") (.int 14)) (.int 3)), (Cond.eq (.elem (Term.static "BlownSpaces" "AHEAD" "[I") (.int 15)) (.int 6)), (Cond.eq (.elem (Term.static "BlownSpaces" "AHEAD" "[I") (.int 16)) (.int 10)), (Cond.eq (.elem (Term.static "BlownSpaces" "AHEAD" "[I") (.int 17)) (.int 15)), (Cond.eq (.elem (Term.static "BlownSpaces" "AHEAD" "[I") (.int 18)) (.int 0)), (Cond.eq (.elem (Term.static "BlownSpaces" "AHEAD" "[I") (.int 19)) (.int 1)), (Cond.eq (.elem (Term.static "BlownSpaces" "AHEAD" "[I") (.int 20)) (.int 4)), (Cond.eq (.elem (Term.static "BlownSpaces" "AHEAD" "[I") (.int 21)) (.int 10))] ++ [(Cond.eq (.elem (Term.static "BlownSpaces" "AHEAD" "[I") (.int 22)) (.int 20)), (Cond.eq (.elem (Term.static "BlownSpaces" "AHEAD" "[I") (.int 23)) (.int 35)), (Cond.eq (.elem (Term.static "BlownSpaces" "AHEAD" "[I") (.int 24)) (.int 0)), (Cond.eq (.elem (Term.static "BlownSpaces" "AHEAD" "[I") (.int 25)) (.int 1)), (Cond.eq (.elem (Term.static "BlownSpaces" "AHEAD" "[I") (.int 26)) (.int 5)), (Cond.eq (.elem (Term.static "BlownSpaces" "AHEAD" "[I") (.int 27)) (.int 15)), (Cond.eq (.elem (Term.static "BlownSpaces" "AHEAD" "[I") (.int 28)) (.int 35)), (Cond.eq (.elem (Term.static "BlownSpaces" "AHEAD" "[I") (.int 29)) (.int 70)), (Cond.eq (.elem (Term.static "BlownSpaces" "AHEAD" "[I") (.int 30)) (.int 0)), (Cond.eq (.elem (Term.static "BlownSpaces" "AHEAD" "[I") (.int 31)) (.int 1)), (Cond.eq (.elem (Term.static "BlownSpaces" "AHEAD" "[I") (.int 32)) (.int 6)), (Cond.eq (.elem (Term.static "BlownSpaces" "AHEAD" "[I") (.int 33)) (.int 21)), (Cond.eq (.elem (Term.static "BlownSpaces" "AHEAD" "[I") (.int 34)) (.int 56)), (Cond.eq (.elem (Term.static "BlownSpaces" "AHEAD" "[I") (.int 35)) (.int 126)), (Cond.eq (.elem (Term.static "BlownSpaces" "AHEAD" "[I") (.int 36)) (.int 0)), (Cond.eq (.elem (Term.static "BlownSpaces" "AHEAD" "[I") (.int 37)) (.int 1)), (Cond.eq (.elem (Term.static "BlownSpaces" "AHEAD" "[I") (.int 38)) (.int 7)), (Cond.eq (.elem (Term.static "BlownSpaces" "AHEAD" "[I") (.int 39)) (.int 28)), (Cond.eq (.elem (Term.static "BlownSpaces" "AHEAD" "[I") (.int 40)) (.int 84)), (Cond.eq (.elem (Term.static "BlownSpaces" "AHEAD" "[I") (.int 41)) (.int 210)), (Cond.arrayOf (Term.static "BlownSpaces" "AHEAD" "[I") .int), (Cond.eq (.length (Term.static "BlownSpaces" "AHEAD" "[I")) (.int 42)), (Cond.eq (.elem (Term.static "BlownSpaces" "ABOVE" "[I") (.int 0)) (.int (-1))), (Cond.eq (.elem (Term.static "BlownSpaces" "ABOVE" "[I") (.int 1)) (.int 0)), (Cond.eq (.elem (Term.static "BlownSpaces" "ABOVE" "[I") (.int 2)) (.int 0)), (Cond.eq (.elem (Term.static "BlownSpaces" "ABOVE" "[I") (.int 3)) (.int 0)), (Cond.eq (.elem (Term.static "BlownSpaces" "ABOVE" "[I") (.int 4)) (.int 2)), (Cond.eq (.elem (Term.static "BlownSpaces" "ABOVE" "[I") (.int 5)) (.int 1)), (Cond.arrayOf (Term.static "BlownSpaces" "ABOVE" "[I") .int), (Cond.eq (.length (Term.static "BlownSpaces" "ABOVE" "[I")) (.int 6))] ++ [(Cond.eq (.elem (Term.static "BlownSpaces" "BODIES" "[I") (.int 0)) (.int 10)), (Cond.eq (.elem (Term.static "BlownSpaces" "BODIES" "[I") (.int 1)) (.int 11)), (Cond.eq (.elem (Term.static "BlownSpaces" "BODIES" "[I") (.int 2)) (.int 12)), (Cond.eq (.elem (Term.static "BlownSpaces" "BODIES" "[I") (.int 3)) (.int 10)), (Cond.eq (.elem (Term.static "BlownSpaces" "BODIES" "[I") (.int 4)) (.int 20)), (Cond.eq (.elem (Term.static "BlownSpaces" "BODIES" "[I") (.int 5)) (.int 12)), (Cond.eq (.elem (Term.static "BlownSpaces" "BODIES" "[I") (.int 6)) (.int 30)), (Cond.eq (.elem (Term.static "BlownSpaces" "BODIES" "[I") (.int 7)) (.int 11)), (Cond.eq (.elem (Term.static "BlownSpaces" "BODIES" "[I") (.int 8)) (.int 12)), (Cond.eq (.elem (Term.static "BlownSpaces" "BODIES" "[I") (.int 9)) (.int 10)), (Cond.eq (.elem (Term.static "BlownSpaces" "BODIES" "[I") (.int 10)) (.int 50)), (Cond.eq (.elem (Term.static "BlownSpaces" "BODIES" "[I") (.int 11)) (.int 12)), (Cond.eq (.elem (Term.static "BlownSpaces" "BODIES" "[I") (.int 12)) (.int 41)), (Cond.eq (.elem (Term.static "BlownSpaces" "BODIES" "[I") (.int 13)) (.int 11)), (Cond.eq (.elem (Term.static "BlownSpaces" "BODIES" "[I") (.int 14)) (.int 40)), (Cond.eq (.elem (Term.static "BlownSpaces" "BODIES" "[I") (.int 15)) (.int 10)), (Cond.eq (.elem (Term.static "BlownSpaces" "BODIES" "[I") (.int 16)) (.int 20)), (Cond.eq (.elem (Term.static "BlownSpaces" "BODIES" "[I") (.int 17)) (.int 60)), (Cond.arrayOf (Term.static "BlownSpaces" "BODIES" "[I") .int), (Cond.eq (.length (Term.static "BlownSpaces" "BODIES" "[I")) (.int 18)), (Cond.exactly (Term.string "BlownSpaces$Deeds" 42) "java/lang/String"), (Cond.exactly (Term.string "BlownSpaces$Deeds" 48) "java/lang/String"), (Cond.exactly (Term.string "BlownSpaces$Deeds" 50) "java/lang/String"), (Cond.exactly (Term.string "BlownSpaces$Deeds" 52) "java/lang/String"), (Cond.exactly (Term.string "BlownSpaces$Deeds" 54) "java/lang/String"), (Cond.eq (.field (Term.string "BlownSpaces$Deeds" 42) "java/lang/String" "coder" "B") (.int 0)), (Cond.eq (.field (Term.string "BlownSpaces$Deeds" 48) "java/lang/String" "coder" "B") (.int 0)), (Cond.eq (.field (Term.string "BlownSpaces$Deeds" 50) "java/lang/String" "coder" "B") (.int 0)), (Cond.eq (.field (Term.string "BlownSpaces$Deeds" 52) "java/lang/String" "coder" "B") (.int 0)), (Cond.eq (.field (Term.string "BlownSpaces$Deeds" 54) "java/lang/String" "coder" "B") (.int 0))] ++ [(Cond.arrayOf (.field (Term.string "BlownSpaces$Deeds" 42) "java/lang/String" "value" "[B") .byte), (Cond.arrayOf (.field (Term.string "BlownSpaces$Deeds" 48) "java/lang/String" "value" "[B") .byte), (Cond.arrayOf (.field (Term.string "BlownSpaces$Deeds" 50) "java/lang/String" "value" "[B") .byte), (Cond.arrayOf (.field (Term.string "BlownSpaces$Deeds" 52) "java/lang/String" "value" "[B") .byte), (Cond.arrayOf (.field (Term.string "BlownSpaces$Deeds" 54) "java/lang/String" "value" "[B") .byte), (Cond.eq (.length (.field (Term.string "BlownSpaces$Deeds" 42) "java/lang/String" "value" "[B")) (.int 3)), (Cond.eq (.length (.field (Term.string "BlownSpaces$Deeds" 48) "java/lang/String" "value" "[B")) (.int 5)), (Cond.eq (.length (.field (Term.string "BlownSpaces$Deeds" 50) "java/lang/String" "value" "[B")) (.int 5)), (Cond.eq (.length (.field (Term.string "BlownSpaces$Deeds" 52) "java/lang/String" "value" "[B")) (.int 5)), (Cond.eq (.length (.field (Term.string "BlownSpaces$Deeds" 54) "java/lang/String" "value" "[B")) (.int 4)), (Cond.eq (.elem (.field (Term.string "BlownSpaces$Deeds" 42) "java/lang/String" "value" "[B") (.int 0)) (.int 115)), (Cond.eq (.elem (.field (Term.string "BlownSpaces$Deeds" 42) "java/lang/String" "value" "[B") (.int 1)) (.int 117)), (Cond.eq (.elem (.field (Term.string "BlownSpaces$Deeds" 42) "java/lang/String" "value" "[B") (.int 2)) (.int 109)), (Cond.eq (.elem (.field (Term.string "BlownSpaces$Deeds" 48) "java/lang/String" "value" "[B") (.int 0)) (.int 116)), (Cond.eq (.elem (.field (Term.string "BlownSpaces$Deeds" 48) "java/lang/String" "value" "[B") (.int 1)) (.int 105)), (Cond.eq (.elem (.field (Term.string "BlownSpaces$Deeds" 48) "java/lang/String" "value" "[B") (.int 2)) (.int 109)), (Cond.eq (.elem (.field (Term.string "BlownSpaces$Deeds" 48) "java/lang/String" "value" "[B") (.int 3)) (.int 101)), (Cond.eq (.elem (.field (Term.string "BlownSpaces$Deeds" 48) "java/lang/String" "value" "[B") (.int 4)) (.int 115)), (Cond.eq (.elem (.field (Term.string "BlownSpaces$Deeds" 50) "java/lang/String" "value" "[B") (.int 0)) (.int 109)), (Cond.eq (.elem (.field (Term.string "BlownSpaces$Deeds" 50) "java/lang/String" "value" "[B") (.int 1)) (.int 105)), (Cond.eq (.elem (.field (Term.string "BlownSpaces$Deeds" 50) "java/lang/String" "value" "[B") (.int 2)) (.int 110)), (Cond.eq (.elem (.field (Term.string "BlownSpaces$Deeds" 50) "java/lang/String" "value" "[B") (.int 3)) (.int 117)), (Cond.eq (.elem (.field (Term.string "BlownSpaces$Deeds" 50) "java/lang/String" "value" "[B") (.int 4)) (.int 115)), (Cond.eq (.elem (.field (Term.string "BlownSpaces$Deeds" 52) "java/lang/String" "value" "[B") (.int 0)) (.int 112)), (Cond.eq (.elem (.field (Term.string "BlownSpaces$Deeds" 52) "java/lang/String" "value" "[B") (.int 1)) (.int 111)), (Cond.eq (.elem (.field (Term.string "BlownSpaces$Deeds" 52) "java/lang/String" "value" "[B") (.int 2)) (.int 119)), (Cond.eq (.elem (.field (Term.string "BlownSpaces$Deeds" 52) "java/lang/String" "value" "[B") (.int 3)) (.int 101)), (Cond.eq (.elem (.field (Term.string "BlownSpaces$Deeds" 52) "java/lang/String" "value" "[B") (.int 4)) (.int 114)), (Cond.eq (.elem (.field (Term.string "BlownSpaces$Deeds" 54) "java/lang/String" "value" "[B") (.int 0)) (.int 112)), (Cond.eq (.elem (.field (Term.string "BlownSpaces$Deeds" 54) "java/lang/String" "value" "[B") (.int 1)) (.int 97))] ++ [(Cond.eq (.elem (.field (Term.string "BlownSpaces$Deeds" 54) "java/lang/String" "value" "[B") (.int 2)) (.int 114)), (Cond.eq (.elem (.field (Term.string "BlownSpaces$Deeds" 54) "java/lang/String" "value" "[B") (.int 3)) (.int 116)), (Cond.not (Cond.eq (Term.string "BlownSpaces$Deeds" 42) (Term.string "BlownSpaces$Deeds" 48))), (Cond.not (Cond.eq (Term.string "BlownSpaces$Deeds" 42) (Term.string "BlownSpaces$Deeds" 50))), (Cond.not (Cond.eq (Term.string "BlownSpaces$Deeds" 42) (Term.string "BlownSpaces$Deeds" 52))), (Cond.not (Cond.eq (Term.string "BlownSpaces$Deeds" 42) (Term.string "BlownSpaces$Deeds" 54))), (Cond.not (Cond.eq (Term.string "BlownSpaces$Deeds" 48) (Term.string "BlownSpaces$Deeds" 50))), (Cond.not (Cond.eq (Term.string "BlownSpaces$Deeds" 48) (Term.string "BlownSpaces$Deeds" 52))), (Cond.not (Cond.eq (Term.string "BlownSpaces$Deeds" 48) (Term.string "BlownSpaces$Deeds" 54))), (Cond.not (Cond.eq (Term.string "BlownSpaces$Deeds" 50) (Term.string "BlownSpaces$Deeds" 52))), (Cond.not (Cond.eq (Term.string "BlownSpaces$Deeds" 50) (Term.string "BlownSpaces$Deeds" 54))), (Cond.not (Cond.eq (Term.string "BlownSpaces$Deeds" 52) (Term.string "BlownSpaces$Deeds" 54))), (Cond.eq (Term.string "BlownSpaces$Deeds" 42) (Term.string "BlownSpacesModel" 384)), (Cond.eq (Term.string "BlownSpaces$Deeds" 48) (Term.string "BlownSpacesModel" 390)), (Cond.eq (Term.string "BlownSpaces$Deeds" 50) (Term.string "BlownSpacesModel" 392)), (Cond.eq (Term.string "BlownSpaces$Deeds" 52) (Term.string "BlownSpacesModel" 394)), (Cond.eq (Term.string "BlownSpaces$Deeds" 54) (Term.string "BlownSpacesModel" 395)), (Cond.eq (.static "java/lang/String" "COMPACT_STRINGS" "Z") (.int 1)), (Cond.isRef (.static "jdk/internal/util/Preconditions" "SIOOBE_FORMATTER" "Ljava/util/function/BiFunction;"))]
def zstm : Nat → Term := fun i => .string "BlownSpaces$Deeds" (([42, 48, 50, 52, 54] : List Nat).getD i 0)
def zE (tl : List Nat) (adK adV : Nat → Nat) : Nat → Nat := fun k => if k < 10 then tl.getD k 0 else if k < 20 then adK (k - 10) else adV (k - 20)
set_option maxRecDepth 100000 in
theorem zQL_in : zQL.all (fun w => decide (w ∈ flatC (Jvm.Cond.and given_1 narrow_1))) = true := by decide +kernel
set_option maxHeartbeats 4000000 in
set_option maxRecDepth 100000 in
theorem zro_start {args : Array Value} {s : State} (hts : ∀ w ∈ lw_tbl, w.before args s = true) (hgv : (Jvm.Cond.and given_1 narrow_1).before args s = true) {A : Nat → Prop} (hA : ∀ a : Nat, a < s.heap.size → ¬ A a) : ∃ E : Nat → Nat, zRO E A s s.heap := by
  have hq : ∀ w ∈ zQL, w.before args s = true := fun w hw => flat_of_before _ hgv w (of_decide_eq_true (List.all_eq_true.mp zQL_in w hw))
  have el0 : ∀ j : Nat, j < 6 → (Term.elem (Term.static "BlownSpaces" "UNITS" "[I") (.int (Int32.ofNat j))).eval args s none [] s = some (.int (([1, 10, 100, 1000, 10000, 100000] : List Int32).getD j 0)) := fun j hj => by
    match j, hj with
    | 0, _ => exact va_eqt (hq _ (List.mem_append_left _ (List.mem_append_left _ (List.mem_append_left _ (List.mem_append_left _ (List.mem_of_getElem? (i := 0) rfl))))))
    | 1, _ => exact va_eqt (hq _ (List.mem_append_left _ (List.mem_append_left _ (List.mem_append_left _ (List.mem_append_left _ (List.mem_of_getElem? (i := 1) rfl))))))
    | 2, _ => exact va_eqt (hq _ (List.mem_append_left _ (List.mem_append_left _ (List.mem_append_left _ (List.mem_append_left _ (List.mem_of_getElem? (i := 2) rfl))))))
    | 3, _ => exact va_eqt (hq _ (List.mem_append_left _ (List.mem_append_left _ (List.mem_append_left _ (List.mem_append_left _ (List.mem_of_getElem? (i := 3) rfl))))))
    | 4, _ => exact va_eqt (hq _ (List.mem_append_left _ (List.mem_append_left _ (List.mem_append_left _ (List.mem_append_left _ (List.mem_of_getElem? (i := 4) rfl))))))
    | 5, _ => exact va_eqt (hq _ (List.mem_append_left _ (List.mem_append_left _ (List.mem_append_left _ (List.mem_append_left _ (List.mem_of_getElem? (i := 5) rfl))))))
    | j + 6, hj => exact absurd hj (by omega)
  obtain ⟨t0, ev0, tt0⟩ := va_Tof (A := A) (N := 6) (f := fun j => .int (([1, 10, 100, 1000, 10000, 100000] : List Int32).getD j 0)) (by decide) (hq _ (List.mem_append_left _ (List.mem_append_left _ (List.mem_append_left _ (List.mem_append_left _ (List.mem_of_getElem? (i := 6) rfl)))))) (va_eqt (hq _ (List.mem_append_left _ (List.mem_append_left _ (List.mem_append_left _ (List.mem_append_left _ (List.mem_of_getElem? (i := 7) rfl))))))) el0 hA
  have zz0 := va_Zref (A := A) (hts _ (List.mem_append_right _ (tq_2 114 rfl))) (hts _ (List.mem_append_right _ (tq_1 1 rfl))) ev0 hA
  have el1 : ∀ j : Nat, j < 42 → (Term.elem (Term.static "BlownSpaces" "AHEAD" "[I") (.int (Int32.ofNat j))).eval args s none [] s = some (.int (([0, 0, 0, 0, 0, 0, 0, 1, 2, 3, 4, 5, 0, 1, 3, 6, 10, 15, 0, 1, 4, 10, 20, 35, 0, 1, 5, 15, 35, 70, 0, 1, 6, 21, 56, 126, 0, 1, 7, 28, 84, 210] : List Int32).getD j 0)) := fun j hj => by
    match j, hj with
    | 0, _ => exact va_eqt (hq _ (List.mem_append_left _ (List.mem_append_left _ (List.mem_append_left _ (List.mem_append_left _ (List.mem_of_getElem? (i := 8) rfl))))))
    | 1, _ => exact va_eqt (hq _ (List.mem_append_left _ (List.mem_append_left _ (List.mem_append_left _ (List.mem_append_left _ (List.mem_of_getElem? (i := 9) rfl))))))
    | 2, _ => exact va_eqt (hq _ (List.mem_append_left _ (List.mem_append_left _ (List.mem_append_left _ (List.mem_append_left _ (List.mem_of_getElem? (i := 10) rfl))))))
    | 3, _ => exact va_eqt (hq _ (List.mem_append_left _ (List.mem_append_left _ (List.mem_append_left _ (List.mem_append_left _ (List.mem_of_getElem? (i := 11) rfl))))))
    | 4, _ => exact va_eqt (hq _ (List.mem_append_left _ (List.mem_append_left _ (List.mem_append_left _ (List.mem_append_left _ (List.mem_of_getElem? (i := 12) rfl))))))
    | 5, _ => exact va_eqt (hq _ (List.mem_append_left _ (List.mem_append_left _ (List.mem_append_left _ (List.mem_append_left _ (List.mem_of_getElem? (i := 13) rfl))))))
    | 6, _ => exact va_eqt (hq _ (List.mem_append_left _ (List.mem_append_left _ (List.mem_append_left _ (List.mem_append_left _ (List.mem_of_getElem? (i := 14) rfl))))))
    | 7, _ => exact va_eqt (hq _ (List.mem_append_left _ (List.mem_append_left _ (List.mem_append_left _ (List.mem_append_left _ (List.mem_of_getElem? (i := 15) rfl))))))
    | 8, _ => exact va_eqt (hq _ (List.mem_append_left _ (List.mem_append_left _ (List.mem_append_left _ (List.mem_append_left _ (List.mem_of_getElem? (i := 16) rfl))))))
    | 9, _ => exact va_eqt (hq _ (List.mem_append_left _ (List.mem_append_left _ (List.mem_append_left _ (List.mem_append_left _ (List.mem_of_getElem? (i := 17) rfl))))))
    | 10, _ => exact va_eqt (hq _ (List.mem_append_left _ (List.mem_append_left _ (List.mem_append_left _ (List.mem_append_left _ (List.mem_of_getElem? (i := 18) rfl))))))
    | 11, _ => exact va_eqt (hq _ (List.mem_append_left _ (List.mem_append_left _ (List.mem_append_left _ (List.mem_append_left _ (List.mem_of_getElem? (i := 19) rfl))))))
    | 12, _ => exact va_eqt (hq _ (List.mem_append_left _ (List.mem_append_left _ (List.mem_append_left _ (List.mem_append_left _ (List.mem_of_getElem? (i := 20) rfl))))))
    | 13, _ => exact va_eqt (hq _ (List.mem_append_left _ (List.mem_append_left _ (List.mem_append_left _ (List.mem_append_left _ (List.mem_of_getElem? (i := 21) rfl))))))
    | 14, _ => exact va_eqt (hq _ (List.mem_append_left _ (List.mem_append_left _ (List.mem_append_left _ (List.mem_append_left _ (List.mem_of_getElem? (i := 22) rfl))))))
    | 15, _ => exact va_eqt (hq _ (List.mem_append_left _ (List.mem_append_left _ (List.mem_append_left _ (List.mem_append_left _ (List.mem_of_getElem? (i := 23) rfl))))))
    | 16, _ => exact va_eqt (hq _ (List.mem_append_left _ (List.mem_append_left _ (List.mem_append_left _ (List.mem_append_left _ (List.mem_of_getElem? (i := 24) rfl))))))
    | 17, _ => exact va_eqt (hq _ (List.mem_append_left _ (List.mem_append_left _ (List.mem_append_left _ (List.mem_append_left _ (List.mem_of_getElem? (i := 25) rfl))))))
    | 18, _ => exact va_eqt (hq _ (List.mem_append_left _ (List.mem_append_left _ (List.mem_append_left _ (List.mem_append_left _ (List.mem_of_getElem? (i := 26) rfl))))))
    | 19, _ => exact va_eqt (hq _ (List.mem_append_left _ (List.mem_append_left _ (List.mem_append_left _ (List.mem_append_left _ (List.mem_of_getElem? (i := 27) rfl))))))
    | 20, _ => exact va_eqt (hq _ (List.mem_append_left _ (List.mem_append_left _ (List.mem_append_left _ (List.mem_append_left _ (List.mem_of_getElem? (i := 28) rfl))))))
    | 21, _ => exact va_eqt (hq _ (List.mem_append_left _ (List.mem_append_left _ (List.mem_append_left _ (List.mem_append_left _ (List.mem_of_getElem? (i := 29) rfl))))))
    | 22, _ => exact va_eqt (hq _ (List.mem_append_left _ (List.mem_append_left _ (List.mem_append_left _ (List.mem_append_right _ (List.mem_of_getElem? (i := 0) rfl))))))
    | 23, _ => exact va_eqt (hq _ (List.mem_append_left _ (List.mem_append_left _ (List.mem_append_left _ (List.mem_append_right _ (List.mem_of_getElem? (i := 1) rfl))))))
    | 24, _ => exact va_eqt (hq _ (List.mem_append_left _ (List.mem_append_left _ (List.mem_append_left _ (List.mem_append_right _ (List.mem_of_getElem? (i := 2) rfl))))))
    | 25, _ => exact va_eqt (hq _ (List.mem_append_left _ (List.mem_append_left _ (List.mem_append_left _ (List.mem_append_right _ (List.mem_of_getElem? (i := 3) rfl))))))
    | 26, _ => exact va_eqt (hq _ (List.mem_append_left _ (List.mem_append_left _ (List.mem_append_left _ (List.mem_append_right _ (List.mem_of_getElem? (i := 4) rfl))))))
    | 27, _ => exact va_eqt (hq _ (List.mem_append_left _ (List.mem_append_left _ (List.mem_append_left _ (List.mem_append_right _ (List.mem_of_getElem? (i := 5) rfl))))))
    | 28, _ => exact va_eqt (hq _ (List.mem_append_left _ (List.mem_append_left _ (List.mem_append_left _ (List.mem_append_right _ (List.mem_of_getElem? (i := 6) rfl))))))
    | 29, _ => exact va_eqt (hq _ (List.mem_append_left _ (List.mem_append_left _ (List.mem_append_left _ (List.mem_append_right _ (List.mem_of_getElem? (i := 7) rfl))))))
    | 30, _ => exact va_eqt (hq _ (List.mem_append_left _ (List.mem_append_left _ (List.mem_append_left _ (List.mem_append_right _ (List.mem_of_getElem? (i := 8) rfl))))))
    | 31, _ => exact va_eqt (hq _ (List.mem_append_left _ (List.mem_append_left _ (List.mem_append_left _ (List.mem_append_right _ (List.mem_of_getElem? (i := 9) rfl))))))
    | 32, _ => exact va_eqt (hq _ (List.mem_append_left _ (List.mem_append_left _ (List.mem_append_left _ (List.mem_append_right _ (List.mem_of_getElem? (i := 10) rfl))))))
    | 33, _ => exact va_eqt (hq _ (List.mem_append_left _ (List.mem_append_left _ (List.mem_append_left _ (List.mem_append_right _ (List.mem_of_getElem? (i := 11) rfl))))))
    | 34, _ => exact va_eqt (hq _ (List.mem_append_left _ (List.mem_append_left _ (List.mem_append_left _ (List.mem_append_right _ (List.mem_of_getElem? (i := 12) rfl))))))
    | 35, _ => exact va_eqt (hq _ (List.mem_append_left _ (List.mem_append_left _ (List.mem_append_left _ (List.mem_append_right _ (List.mem_of_getElem? (i := 13) rfl))))))
    | 36, _ => exact va_eqt (hq _ (List.mem_append_left _ (List.mem_append_left _ (List.mem_append_left _ (List.mem_append_right _ (List.mem_of_getElem? (i := 14) rfl))))))
    | 37, _ => exact va_eqt (hq _ (List.mem_append_left _ (List.mem_append_left _ (List.mem_append_left _ (List.mem_append_right _ (List.mem_of_getElem? (i := 15) rfl))))))
    | 38, _ => exact va_eqt (hq _ (List.mem_append_left _ (List.mem_append_left _ (List.mem_append_left _ (List.mem_append_right _ (List.mem_of_getElem? (i := 16) rfl))))))
    | 39, _ => exact va_eqt (hq _ (List.mem_append_left _ (List.mem_append_left _ (List.mem_append_left _ (List.mem_append_right _ (List.mem_of_getElem? (i := 17) rfl))))))
    | 40, _ => exact va_eqt (hq _ (List.mem_append_left _ (List.mem_append_left _ (List.mem_append_left _ (List.mem_append_right _ (List.mem_of_getElem? (i := 18) rfl))))))
    | 41, _ => exact va_eqt (hq _ (List.mem_append_left _ (List.mem_append_left _ (List.mem_append_left _ (List.mem_append_right _ (List.mem_of_getElem? (i := 19) rfl))))))
    | j + 42, hj => exact absurd hj (by omega)
  obtain ⟨t1, ev1, tt1⟩ := va_Tof (A := A) (N := 42) (f := fun j => .int (([0, 0, 0, 0, 0, 0, 0, 1, 2, 3, 4, 5, 0, 1, 3, 6, 10, 15, 0, 1, 4, 10, 20, 35, 0, 1, 5, 15, 35, 70, 0, 1, 6, 21, 56, 126, 0, 1, 7, 28, 84, 210] : List Int32).getD j 0)) (by decide) (hq _ (List.mem_append_left _ (List.mem_append_left _ (List.mem_append_left _ (List.mem_append_right _ (List.mem_of_getElem? (i := 20) rfl)))))) (va_eqt (hq _ (List.mem_append_left _ (List.mem_append_left _ (List.mem_append_left _ (List.mem_append_right _ (List.mem_of_getElem? (i := 21) rfl))))))) el1 hA
  have zz1 := va_Zref (A := A) (hts _ (List.mem_append_right _ (tq_3 0 rfl))) (hts _ (List.mem_append_right _ (tq_1 1 rfl))) ev1 hA
  have el2 : ∀ j : Nat, j < 6 → (Term.elem (Term.static "BlownSpaces" "ABOVE" "[I") (.int (Int32.ofNat j))).eval args s none [] s = some (.int (([(-1), 0, 0, 0, 2, 1] : List Int32).getD j 0)) := fun j hj => by
    match j, hj with
    | 0, _ => exact va_eqt (hq _ (List.mem_append_left _ (List.mem_append_left _ (List.mem_append_left _ (List.mem_append_right _ (List.mem_of_getElem? (i := 22) rfl))))))
    | 1, _ => exact va_eqt (hq _ (List.mem_append_left _ (List.mem_append_left _ (List.mem_append_left _ (List.mem_append_right _ (List.mem_of_getElem? (i := 23) rfl))))))
    | 2, _ => exact va_eqt (hq _ (List.mem_append_left _ (List.mem_append_left _ (List.mem_append_left _ (List.mem_append_right _ (List.mem_of_getElem? (i := 24) rfl))))))
    | 3, _ => exact va_eqt (hq _ (List.mem_append_left _ (List.mem_append_left _ (List.mem_append_left _ (List.mem_append_right _ (List.mem_of_getElem? (i := 25) rfl))))))
    | 4, _ => exact va_eqt (hq _ (List.mem_append_left _ (List.mem_append_left _ (List.mem_append_left _ (List.mem_append_right _ (List.mem_of_getElem? (i := 26) rfl))))))
    | 5, _ => exact va_eqt (hq _ (List.mem_append_left _ (List.mem_append_left _ (List.mem_append_left _ (List.mem_append_right _ (List.mem_of_getElem? (i := 27) rfl))))))
    | j + 6, hj => exact absurd hj (by omega)
  obtain ⟨t2, ev2, tt2⟩ := va_Tof (A := A) (N := 6) (f := fun j => .int (([(-1), 0, 0, 0, 2, 1] : List Int32).getD j 0)) (by decide) (hq _ (List.mem_append_left _ (List.mem_append_left _ (List.mem_append_left _ (List.mem_append_right _ (List.mem_of_getElem? (i := 28) rfl)))))) (va_eqt (hq _ (List.mem_append_left _ (List.mem_append_left _ (List.mem_append_left _ (List.mem_append_right _ (List.mem_of_getElem? (i := 29) rfl))))))) el2 hA
  have zz2 := va_Zref (A := A) (hts _ (List.mem_append_right _ (tq_5 33 rfl))) (hts _ (List.mem_append_right _ (tq_1 1 rfl))) ev2 hA
  have el3 : ∀ j : Nat, j < 18 → (Term.elem (Term.static "BlownSpaces" "BODIES" "[I") (.int (Int32.ofNat j))).eval args s none [] s = some (.int (([10, 11, 12, 10, 20, 12, 30, 11, 12, 10, 50, 12, 41, 11, 40, 10, 20, 60] : List Int32).getD j 0)) := fun j hj => by
    match j, hj with
    | 0, _ => exact va_eqt (hq _ (List.mem_append_left _ (List.mem_append_left _ (List.mem_append_right _ (List.mem_of_getElem? (i := 0) rfl)))))
    | 1, _ => exact va_eqt (hq _ (List.mem_append_left _ (List.mem_append_left _ (List.mem_append_right _ (List.mem_of_getElem? (i := 1) rfl)))))
    | 2, _ => exact va_eqt (hq _ (List.mem_append_left _ (List.mem_append_left _ (List.mem_append_right _ (List.mem_of_getElem? (i := 2) rfl)))))
    | 3, _ => exact va_eqt (hq _ (List.mem_append_left _ (List.mem_append_left _ (List.mem_append_right _ (List.mem_of_getElem? (i := 3) rfl)))))
    | 4, _ => exact va_eqt (hq _ (List.mem_append_left _ (List.mem_append_left _ (List.mem_append_right _ (List.mem_of_getElem? (i := 4) rfl)))))
    | 5, _ => exact va_eqt (hq _ (List.mem_append_left _ (List.mem_append_left _ (List.mem_append_right _ (List.mem_of_getElem? (i := 5) rfl)))))
    | 6, _ => exact va_eqt (hq _ (List.mem_append_left _ (List.mem_append_left _ (List.mem_append_right _ (List.mem_of_getElem? (i := 6) rfl)))))
    | 7, _ => exact va_eqt (hq _ (List.mem_append_left _ (List.mem_append_left _ (List.mem_append_right _ (List.mem_of_getElem? (i := 7) rfl)))))
    | 8, _ => exact va_eqt (hq _ (List.mem_append_left _ (List.mem_append_left _ (List.mem_append_right _ (List.mem_of_getElem? (i := 8) rfl)))))
    | 9, _ => exact va_eqt (hq _ (List.mem_append_left _ (List.mem_append_left _ (List.mem_append_right _ (List.mem_of_getElem? (i := 9) rfl)))))
    | 10, _ => exact va_eqt (hq _ (List.mem_append_left _ (List.mem_append_left _ (List.mem_append_right _ (List.mem_of_getElem? (i := 10) rfl)))))
    | 11, _ => exact va_eqt (hq _ (List.mem_append_left _ (List.mem_append_left _ (List.mem_append_right _ (List.mem_of_getElem? (i := 11) rfl)))))
    | 12, _ => exact va_eqt (hq _ (List.mem_append_left _ (List.mem_append_left _ (List.mem_append_right _ (List.mem_of_getElem? (i := 12) rfl)))))
    | 13, _ => exact va_eqt (hq _ (List.mem_append_left _ (List.mem_append_left _ (List.mem_append_right _ (List.mem_of_getElem? (i := 13) rfl)))))
    | 14, _ => exact va_eqt (hq _ (List.mem_append_left _ (List.mem_append_left _ (List.mem_append_right _ (List.mem_of_getElem? (i := 14) rfl)))))
    | 15, _ => exact va_eqt (hq _ (List.mem_append_left _ (List.mem_append_left _ (List.mem_append_right _ (List.mem_of_getElem? (i := 15) rfl)))))
    | 16, _ => exact va_eqt (hq _ (List.mem_append_left _ (List.mem_append_left _ (List.mem_append_right _ (List.mem_of_getElem? (i := 16) rfl)))))
    | 17, _ => exact va_eqt (hq _ (List.mem_append_left _ (List.mem_append_left _ (List.mem_append_right _ (List.mem_of_getElem? (i := 17) rfl)))))
    | j + 18, hj => exact absurd hj (by omega)
  obtain ⟨t3, ev3, tt3⟩ := va_Tof (A := A) (N := 18) (f := fun j => .int (([10, 11, 12, 10, 20, 12, 30, 11, 12, 10, 50, 12, 41, 11, 40, 10, 20, 60] : List Int32).getD j 0)) (by decide) (hq _ (List.mem_append_left _ (List.mem_append_left _ (List.mem_append_right _ (List.mem_of_getElem? (i := 18) rfl))))) (va_eqt (hq _ (List.mem_append_left _ (List.mem_append_left _ (List.mem_append_right _ (List.mem_of_getElem? (i := 19) rfl)))))) el3 hA
  have zz3 := va_Zref (A := A) (hts _ (List.mem_append_right _ (tq_5 15 rfl))) (hts _ (List.mem_append_right _ (tq_1 1 rfl))) ev3 hA
  have hex : ∀ i : Nat, i < 5 → (Cond.exactly (zstm i) "java/lang/String").before args s = true := fun i hi => by
    match i, hi with
    | 0, _ => exact hq _ (List.mem_append_left _ (List.mem_append_left _ (List.mem_append_right _ (List.mem_of_getElem? (i := 20) rfl))))
    | 1, _ => exact hq _ (List.mem_append_left _ (List.mem_append_left _ (List.mem_append_right _ (List.mem_of_getElem? (i := 21) rfl))))
    | 2, _ => exact hq _ (List.mem_append_left _ (List.mem_append_left _ (List.mem_append_right _ (List.mem_of_getElem? (i := 22) rfl))))
    | 3, _ => exact hq _ (List.mem_append_left _ (List.mem_append_left _ (List.mem_append_right _ (List.mem_of_getElem? (i := 23) rfl))))
    | 4, _ => exact hq _ (List.mem_append_left _ (List.mem_append_left _ (List.mem_append_right _ (List.mem_of_getElem? (i := 24) rfl))))
    | i + 5, hi => exact absurd hi (by omega)
  have hco : ∀ i : Nat, i < 5 → (Cond.eq (.field (zstm i) "java/lang/String" "coder" "B") (.int 0)).before args s = true := fun i hi => by
    match i, hi with
    | 0, _ => exact hq _ (List.mem_append_left _ (List.mem_append_left _ (List.mem_append_right _ (List.mem_of_getElem? (i := 25) rfl))))
    | 1, _ => exact hq _ (List.mem_append_left _ (List.mem_append_left _ (List.mem_append_right _ (List.mem_of_getElem? (i := 26) rfl))))
    | 2, _ => exact hq _ (List.mem_append_left _ (List.mem_append_left _ (List.mem_append_right _ (List.mem_of_getElem? (i := 27) rfl))))
    | 3, _ => exact hq _ (List.mem_append_left _ (List.mem_append_left _ (List.mem_append_right _ (List.mem_of_getElem? (i := 28) rfl))))
    | 4, _ => exact hq _ (List.mem_append_left _ (List.mem_append_left _ (List.mem_append_right _ (List.mem_of_getElem? (i := 29) rfl))))
    | i + 5, hi => exact absurd hi (by omega)
  have har : ∀ i : Nat, i < 5 → (Cond.arrayOf (.field (zstm i) "java/lang/String" "value" "[B") .byte).before args s = true := fun i hi => by
    match i, hi with
    | 0, _ => exact hq _ (List.mem_append_left _ (List.mem_append_right _ (List.mem_of_getElem? (i := 0) rfl)))
    | 1, _ => exact hq _ (List.mem_append_left _ (List.mem_append_right _ (List.mem_of_getElem? (i := 1) rfl)))
    | 2, _ => exact hq _ (List.mem_append_left _ (List.mem_append_right _ (List.mem_of_getElem? (i := 2) rfl)))
    | 3, _ => exact hq _ (List.mem_append_left _ (List.mem_append_right _ (List.mem_of_getElem? (i := 3) rfl)))
    | 4, _ => exact hq _ (List.mem_append_left _ (List.mem_append_right _ (List.mem_of_getElem? (i := 4) rfl)))
    | i + 5, hi => exact absurd hi (by omega)
  have hle : ∀ i : Nat, i < 5 → (Cond.eq (.length (.field (zstm i) "java/lang/String" "value" "[B")) (.int (Int32.ofNat (ZLEN.getD i 0)))).before args s = true := fun i hi => by
    match i, hi with
    | 0, _ => exact hq _ (List.mem_append_left _ (List.mem_append_right _ (List.mem_of_getElem? (i := 5) rfl)))
    | 1, _ => exact hq _ (List.mem_append_left _ (List.mem_append_right _ (List.mem_of_getElem? (i := 6) rfl)))
    | 2, _ => exact hq _ (List.mem_append_left _ (List.mem_append_right _ (List.mem_of_getElem? (i := 7) rfl)))
    | 3, _ => exact hq _ (List.mem_append_left _ (List.mem_append_right _ (List.mem_of_getElem? (i := 8) rfl)))
    | 4, _ => exact hq _ (List.mem_append_left _ (List.mem_append_right _ (List.mem_of_getElem? (i := 9) rfl)))
    | i + 5, hi => exact absurd hi (by omega)
  have hel : ∀ i : Nat, i < 5 → ∀ j : Nat, j < ZLEN.getD i 0 → (Cond.eq (.elem (.field (zstm i) "java/lang/String" "value" "[B") (.int (Int32.ofNat j))) (.int ((ZBYT.getD i []).getD j 0))).before args s = true := fun i hi => by
    match i, hi with
    | 0, _ => 
      intro j hj
      match j, (show j < 3 from hj) with
      | 0, _ => exact hq _ (List.mem_append_left _ (List.mem_append_right _ (List.mem_of_getElem? (i := 10) rfl)))
      | 1, _ => exact hq _ (List.mem_append_left _ (List.mem_append_right _ (List.mem_of_getElem? (i := 11) rfl)))
      | 2, _ => exact hq _ (List.mem_append_left _ (List.mem_append_right _ (List.mem_of_getElem? (i := 12) rfl)))
      | j + 3, hj => exact absurd hj (by omega)
    | 1, _ => 
      intro j hj
      match j, (show j < 5 from hj) with
      | 0, _ => exact hq _ (List.mem_append_left _ (List.mem_append_right _ (List.mem_of_getElem? (i := 13) rfl)))
      | 1, _ => exact hq _ (List.mem_append_left _ (List.mem_append_right _ (List.mem_of_getElem? (i := 14) rfl)))
      | 2, _ => exact hq _ (List.mem_append_left _ (List.mem_append_right _ (List.mem_of_getElem? (i := 15) rfl)))
      | 3, _ => exact hq _ (List.mem_append_left _ (List.mem_append_right _ (List.mem_of_getElem? (i := 16) rfl)))
      | 4, _ => exact hq _ (List.mem_append_left _ (List.mem_append_right _ (List.mem_of_getElem? (i := 17) rfl)))
      | j + 5, hj => exact absurd hj (by omega)
    | 2, _ => 
      intro j hj
      match j, (show j < 5 from hj) with
      | 0, _ => exact hq _ (List.mem_append_left _ (List.mem_append_right _ (List.mem_of_getElem? (i := 18) rfl)))
      | 1, _ => exact hq _ (List.mem_append_left _ (List.mem_append_right _ (List.mem_of_getElem? (i := 19) rfl)))
      | 2, _ => exact hq _ (List.mem_append_left _ (List.mem_append_right _ (List.mem_of_getElem? (i := 20) rfl)))
      | 3, _ => exact hq _ (List.mem_append_left _ (List.mem_append_right _ (List.mem_of_getElem? (i := 21) rfl)))
      | 4, _ => exact hq _ (List.mem_append_left _ (List.mem_append_right _ (List.mem_of_getElem? (i := 22) rfl)))
      | j + 5, hj => exact absurd hj (by omega)
    | 3, _ => 
      intro j hj
      match j, (show j < 5 from hj) with
      | 0, _ => exact hq _ (List.mem_append_left _ (List.mem_append_right _ (List.mem_of_getElem? (i := 23) rfl)))
      | 1, _ => exact hq _ (List.mem_append_left _ (List.mem_append_right _ (List.mem_of_getElem? (i := 24) rfl)))
      | 2, _ => exact hq _ (List.mem_append_left _ (List.mem_append_right _ (List.mem_of_getElem? (i := 25) rfl)))
      | 3, _ => exact hq _ (List.mem_append_left _ (List.mem_append_right _ (List.mem_of_getElem? (i := 26) rfl)))
      | 4, _ => exact hq _ (List.mem_append_left _ (List.mem_append_right _ (List.mem_of_getElem? (i := 27) rfl)))
      | j + 5, hj => exact absurd hj (by omega)
    | 4, _ => 
      intro j hj
      match j, (show j < 4 from hj) with
      | 0, _ => exact hq _ (List.mem_append_left _ (List.mem_append_right _ (List.mem_of_getElem? (i := 28) rfl)))
      | 1, _ => exact hq _ (List.mem_append_left _ (List.mem_append_right _ (List.mem_of_getElem? (i := 29) rfl)))
      | 2, _ => exact hq _ (List.mem_append_right _ (List.mem_of_getElem? (i := 0) rfl))
      | 3, _ => exact hq _ (List.mem_append_right _ (List.mem_of_getElem? (i := 1) rfl))
      | j + 4, hj => exact absurd hj (by omega)
    | i + 5, hi => exact absurd hi (by omega)
  have hne : ∀ i j : Nat, i < 5 → j < 5 → i ≠ j → (Cond.not (Cond.eq (zstm i) (zstm j))).before args s = true ∨ (Cond.not (Cond.eq (zstm j) (zstm i))).before args s = true := fun i j hi hj hij => by
    match i, hi, j, hj with
    | 0, _, 0, _ => exact absurd rfl hij
    | 0, _, 1, _ => exact Or.inl (hq _ (List.mem_append_right _ (List.mem_of_getElem? (i := 2) rfl)))
    | 0, _, 2, _ => exact Or.inl (hq _ (List.mem_append_right _ (List.mem_of_getElem? (i := 3) rfl)))
    | 0, _, 3, _ => exact Or.inl (hq _ (List.mem_append_right _ (List.mem_of_getElem? (i := 4) rfl)))
    | 0, _, 4, _ => exact Or.inl (hq _ (List.mem_append_right _ (List.mem_of_getElem? (i := 5) rfl)))
    | 1, _, 0, _ => exact Or.inr (hq _ (List.mem_append_right _ (List.mem_of_getElem? (i := 2) rfl)))
    | 1, _, 1, _ => exact absurd rfl hij
    | 1, _, 2, _ => exact Or.inl (hq _ (List.mem_append_right _ (List.mem_of_getElem? (i := 6) rfl)))
    | 1, _, 3, _ => exact Or.inl (hq _ (List.mem_append_right _ (List.mem_of_getElem? (i := 7) rfl)))
    | 1, _, 4, _ => exact Or.inl (hq _ (List.mem_append_right _ (List.mem_of_getElem? (i := 8) rfl)))
    | 2, _, 0, _ => exact Or.inr (hq _ (List.mem_append_right _ (List.mem_of_getElem? (i := 3) rfl)))
    | 2, _, 1, _ => exact Or.inr (hq _ (List.mem_append_right _ (List.mem_of_getElem? (i := 6) rfl)))
    | 2, _, 2, _ => exact absurd rfl hij
    | 2, _, 3, _ => exact Or.inl (hq _ (List.mem_append_right _ (List.mem_of_getElem? (i := 9) rfl)))
    | 2, _, 4, _ => exact Or.inl (hq _ (List.mem_append_right _ (List.mem_of_getElem? (i := 10) rfl)))
    | 3, _, 0, _ => exact Or.inr (hq _ (List.mem_append_right _ (List.mem_of_getElem? (i := 4) rfl)))
    | 3, _, 1, _ => exact Or.inr (hq _ (List.mem_append_right _ (List.mem_of_getElem? (i := 7) rfl)))
    | 3, _, 2, _ => exact Or.inr (hq _ (List.mem_append_right _ (List.mem_of_getElem? (i := 9) rfl)))
    | 3, _, 3, _ => exact absurd rfl hij
    | 3, _, 4, _ => exact Or.inl (hq _ (List.mem_append_right _ (List.mem_of_getElem? (i := 11) rfl)))
    | 4, _, 0, _ => exact Or.inr (hq _ (List.mem_append_right _ (List.mem_of_getElem? (i := 5) rfl)))
    | 4, _, 1, _ => exact Or.inr (hq _ (List.mem_append_right _ (List.mem_of_getElem? (i := 8) rfl)))
    | 4, _, 2, _ => exact Or.inr (hq _ (List.mem_append_right _ (List.mem_of_getElem? (i := 10) rfl)))
    | 4, _, 3, _ => exact Or.inr (hq _ (List.mem_append_right _ (List.mem_of_getElem? (i := 11) rfl)))
    | 4, _, 4, _ => exact absurd rfl hij
    | i + 5, hi, _, _ => exact absurd hi (by omega)
    | _, _, j + 5, hj => exact absurd hj (by omega)
  obtain ⟨adK, adV, hS, hev⟩ := vk_Sof (N := 5) (tm := zstm) (len := ZLEN) (byt := ZBYT) (A := A) (fun i hi => by
    match i, hi with
    | 0, _ => decide
    | 1, _ => decide
    | 2, _ => decide
    | 3, _ => decide
    | 4, _ => decide
    | i + 5, hi => exact absurd hi (by omega)) hex hco har hle hel hne hA
  have eK : ∀ i : Nat, i < 5 → zE [t0, t1, t2, t3] adK adV (10 + i) = adK i := fun i hi => by
    unfold zE
    rw [if_neg (by omega), if_pos (by omega), Nat.add_sub_cancel_left]
  have eV : ∀ i : Nat, i < 5 → zE [t0, t1, t2, t3] adK adV (20 + i) = adV i := fun i hi => by
    unfold zE
    rw [if_neg (by omega), if_neg (by omega), Nat.add_sub_cancel_left]
  refine ⟨zE [t0, t1, t2, t3] adK adV, fun i w hw => ?_, fun w hw => ?_, ⟨fun i hi => ?_, fun i j hi hj h => ?_⟩, fun w hw => ?_, ?_, ?_⟩
  · match i, hw with
    | 0, hw => cases hw; exact ⟨zz0, tt0⟩
    | 1, hw => cases hw; exact ⟨zz1, tt1⟩
    | 2, hw => cases hw; exact ⟨zz2, tt2⟩
    | 3, hw => cases hw; exact ⟨zz3, tt3⟩
    | i + 4, hw => exact absurd hw (by simp [ZTAB])
  · have hn : zisN w = true := (List.mem_filter.mp hw).2
    have hb := hts w (List.mem_append_right _ (List.mem_filter.mp hw).1)
    cases w <;> first | exact va_Nw.of rfl hb | cases hn
  · show va_O "java/lang/String" (zE [t0, t1, t2, t3] adK adV (10 + i)) A s s.heap ∧ va_OF "java/lang/String" "coder" "B" (.int 0) (zE [t0, t1, t2, t3] adK adV (10 + i)) A s s.heap ∧ va_OF "java/lang/String" "value" "[B" (.ref (zE [t0, t1, t2, t3] adK adV (20 + i))) (zE [t0, t1, t2, t3] adK adV (10 + i)) A s s.heap ∧ va_T .byte (zE [t0, t1, t2, t3] adK adV (20 + i)) (ZLEN.getD i 0) (fun j => .int ((ZBYT.getD i []).getD j 0)) A s s.heap
    rw [eK i hi, eV i hi]
    exact hS.1 i hi
  · have h : zE [t0, t1, t2, t3] adK adV (10 + i) = zE [t0, t1, t2, t3] adK adV (10 + j) := h
    rw [eK i hi, eK j hj] at h
    exact hS.2 i j hi hj h
  · simp only [ZREFS, List.mem_cons, List.not_mem_nil, or_false] at hw
    rcases hw with rfl | rfl | rfl | rfl | rfl | rfl | rfl | rfl | rfl | rfl
    · exact vk_R.of (A := args) (hts _ (List.mem_append_right _ (tq_4 110 rfl))) (by rw [eK 0 (by decide)]; exact hev 0 (by decide))
    · exact vk_R.of (A := args) (hts _ (List.mem_append_right _ (tq_4 163 rfl))) (by rw [eK 1 (by decide)]; exact hev 1 (by decide))
    · exact vk_R.of (A := args) (hts _ (List.mem_append_right _ (tq_4 164 rfl))) (by rw [eK 2 (by decide)]; exact hev 2 (by decide))
    · exact vk_R.of (A := args) (hts _ (List.mem_append_right _ (tq_4 165 rfl))) (by rw [eK 3 (by decide)]; exact hev 3 (by decide))
    · exact vk_R.of (A := args) (hts _ (List.mem_append_right _ (tq_4 166 rfl))) (by rw [eK 4 (by decide)]; exact hev 4 (by decide))
    · exact vk_R.of (A := args) (hts _ (List.mem_append_right _ (tq_7 127 rfl))) (by rw [eK 0 (by decide)]; exact va_eqR (t := (Term.string "BlownSpaces$Deeds" 42)) (hq _ (List.mem_append_right _ (List.mem_of_getElem? (i := 12) rfl))) (hev 0 (by decide)))
    · exact vk_R.of (A := args) (hts _ (List.mem_append_right _ (tq_7 134 rfl))) (by rw [eK 1 (by decide)]; exact va_eqR (t := (Term.string "BlownSpaces$Deeds" 48)) (hq _ (List.mem_append_right _ (List.mem_of_getElem? (i := 13) rfl))) (hev 1 (by decide)))
    · exact vk_R.of (A := args) (hts _ (List.mem_append_right _ (tq_7 135 rfl))) (by rw [eK 2 (by decide)]; exact va_eqR (t := (Term.string "BlownSpaces$Deeds" 50)) (hq _ (List.mem_append_right _ (List.mem_of_getElem? (i := 14) rfl))) (hev 2 (by decide)))
    · exact vk_R.of (A := args) (hts _ (List.mem_append_right _ (tq_7 136 rfl))) (by rw [eK 3 (by decide)]; exact va_eqR (t := (Term.string "BlownSpaces$Deeds" 52)) (hq _ (List.mem_append_right _ (List.mem_of_getElem? (i := 15) rfl))) (hev 3 (by decide)))
    · exact vk_R.of (A := args) (hts _ (List.mem_append_right _ (tq_7 137 rfl))) (by rw [eK 4 (by decide)]; exact va_eqR (t := (Term.string "BlownSpaces$Deeds" 54)) (hq _ (List.mem_append_right _ (List.mem_of_getElem? (i := 16) rfl))) (hev 4 (by decide)))
  · exact va_Zof (hts _ (List.mem_append_right _ (tq_4 124 rfl))) (hts _ (List.mem_append_right _ (tq_1 17 rfl))) (va_eqi (hq _ (List.mem_append_right _ (List.mem_of_getElem? (i := 17) rfl)))) hA
  · exact va_Zqof (hts _ (List.mem_append_right _ (tq_4 140 rfl))) (hts _ (List.mem_append_right _ (tq_1 19 rfl))) (hq _ (List.mem_append_right _ (List.mem_of_getElem? (i := 18) rfl))) hA
set_option maxHeartbeats 4000000 in
set_option maxRecDepth 100000 in
theorem zk_start {args : Array Value} {s : State} (hts : ∀ w ∈ lw_tbl, w.before args s = true) : zAO s ∧ ∃ (D : va_G) (cA : Nat → ClassId), va_K D ZCL (ztys cA) s := by
  have htb : ∀ w ∈ TB, w.before args s = true := fun w h => hts w (tb_tbl h)
  have a1 : va_AO "BlownSpaces$Klass" s := va_AO.of (hts _ (List.mem_append_right _ (tq_1 69 rfl)))
  have a2 : va_AOA .long s := va_AOA.of (hts _ (List.mem_append_right _ (tq_2 51 rfl)))
  refine ⟨⟨a1, a2⟩, ?_⟩
  obtain ⟨c0, i0, n0⟩ := u_known (C := RX0) (T := TX0) (N := 5) (n := 5) htb in_X0 (hts (.instantiable RX0 5) (List.mem_append_right _ (tq_2 68 rfl)))
  obtain ⟨c1, i1, n1⟩ := u_known (C := RX1) (T := TX1) (N := 6) (n := 6) htb in_X1 (hts (.instantiable RX1 6) (List.mem_append_right _ (tq_1 195 rfl)))
  obtain ⟨c2, i2, n2⟩ := u_known (C := RX2) (T := TX2) (N := 4) (n := 4) htb in_X2 (hts (.instantiable RX2 4) (List.mem_append_right _ (tq_2 4 rfl)))
  obtain ⟨c3, i3, n3⟩ := u_known (C := RX3) (T := TX3) (N := 3) (n := 3) htb in_X3 (hts (.instantiable RX3 3) (List.mem_append_right _ (tq_1 30 rfl)))
  obtain ⟨c4, i4, n4⟩ := u_known (C := RX4) (T := TX4) (N := 3) (n := 3) htb in_X4 (hts (.instantiable RX4 3) (List.mem_append_right _ (tq_1 70 rfl)))
  obtain ⟨c5, i5, n5⟩ := u_known (C := RX5) (T := TX5) (N := 3) (n := 3) htb in_X5 (hts (.instantiable RX5 3) (List.mem_append_right _ (tq_2 45 rfl)))
  obtain ⟨c6, i6, n6⟩ := u_known (C := RX6) (T := TX6) (N := 3) (n := 3) htb in_X6 (hts (.instantiable RX6 3) (List.mem_append_right _ (tq_2 27 rfl)))
  obtain ⟨c7, i7, n7⟩ := u_known (C := RX7) (T := TX7) (N := 6) (n := 6) htb in_X7 (hts (.instantiable RX7 6) (List.mem_append_right _ (tq_1 36 rfl)))
  obtain ⟨c8, i8, n8⟩ := u_known (C := RX8) (T := TX8) (N := 7) (n := 7) htb in_X8 (hts (.instantiable RX8 7) (List.mem_append_right _ (tq_1 108 rfl)))
  obtain ⟨c9, i9, n9⟩ := u_known (C := RX9) (T := TX9) (N := 3) (n := 3) htb in_X9 (hts (.instantiable RX9 3) (List.mem_append_right _ (tq_1 226 rfl)))
  obtain ⟨c10, i10, n10⟩ := u_known (C := RX10) (T := TX10) (N := 10) (n := 10) htb in_X10 (hts (.instantiable RX10 10) (List.mem_append_right _ (tq_1 114 rfl)))
  obtain ⟨c11, i11, n11⟩ := u_known (C := RX11) (T := TX11) (N := 10) (n := 10) htb in_X11 (hts (.instantiable RX11 10) (List.mem_append_right _ (tq_1 22 rfl)))
  obtain ⟨c12, i12, n12⟩ := u_known (C := RX12) (T := TX12) (N := 61) (n := 61) htb in_X12 (hts (.instantiable RX12 61) (List.mem_append_right _ (tq_5 86 rfl)))
  obtain ⟨b0, k0, m0, x0, y0, z0⟩ := Cond.arrayClass_spec (hts (.arrayClass .int) (List.mem_append_right _ (tq_1 67 rfl)))
  obtain ⟨b1, k1, m1, x1, y1, z1⟩ := Cond.arrayClass_spec (hts (.arrayClass .long) (List.mem_append_right _ (tq_1 93 rfl)))
  obtain ⟨b2, k2, m2, x2, y2, z2⟩ := Cond.arrayClass_spec (hts (.arrayClass .boolean) (List.mem_append_right _ (tq_1 167 rfl)))
  obtain ⟨b3, k3, m3, x3, y3, z3⟩ := Cond.arrayClass_spec (hts (.arrayClass .char) (List.mem_append_right _ (tq_2 2 rfl)))
  obtain ⟨m4, b4, k4, u4, -, v4, w4, z4⟩ := Cond.arrayOver_spec (va_AO.use (A := args) a1)
  obtain ⟨m5, b5, k5, u5, -, v5, w5, z5⟩ := zover_spec a2
  refine ⟨(fun k => ([c0, c1, c2, c3, c4, c5, c6, c7, c8, c9, c10, c11, c12] : List ClassId).getD k c0, fun k => ([i0, i1, i2, i3, i4, i5, i6, i7, i8, i9, i10, i11, i12] : List (Nat → Nat)).getD k i0), fun k => ([b0, b1, b2, b3, b4, b5] : List ClassId).getD k b0, fun k q hq => ?_, fun k q hq => ?_⟩
  · match k, hq with
    | 0, hq => cases hq; exact n0
    | 1, hq => cases hq; exact n1
    | 2, hq => cases hq; exact n2
    | 3, hq => cases hq; exact n3
    | 4, hq => cases hq; exact n4
    | 5, hq => cases hq; exact n5
    | 6, hq => cases hq; exact n6
    | 7, hq => cases hq; exact n7
    | 8, hq => cases hq; exact n8
    | 9, hq => cases hq; exact n9
    | 10, hq => cases hq; exact n10
    | 11, hq => cases hq; exact n11
    | 12, hq => cases hq; exact n12
    | k + 13, hq => exact absurd hq (by simp [ZCL])
  · match k, hq with
    | 0, hq => cases hq; exact ⟨fun N z => ⟨(fun q hq => by cases hq), k0, y0, m0, z0⟩, x0⟩
    | 1, hq => cases hq; exact ⟨fun N z => ⟨(fun q hq => by cases hq), k1, y1, m1, z1⟩, x1⟩
    | 2, hq => cases hq; exact ⟨fun N z => ⟨(fun q hq => by cases hq), k2, y2, m2, z2⟩, x2⟩
    | 3, hq => cases hq; exact ⟨fun N z => ⟨(fun q hq => by cases hq), k3, y3, m3, z3⟩, x3⟩
    | 4, hq => cases hq; exact ⟨fun N z => ⟨(fun q hq => by cases hq), k4, v4, m4, w4⟩, k4, m4, v4, w4, u4, z4⟩
    | 5, hq => cases hq; exact ⟨fun N z => ⟨(fun q hq => by cases hq), k5, v5, m5, w5⟩, z5⟩
    | k + 6, hq => exact absurd hq (by simp [ztys])
