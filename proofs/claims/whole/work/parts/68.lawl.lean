set_option maxHeartbeats 4000000 in
set_option maxRecDepth 100000 in
theorem law_loop {p : Program} {l : Launch} {e : Env} {s : State} {m : MethodId} {below : List Frame} {meth : Method} {c : Code} {cA : Nat → ClassId} {D : va_G} {E : Nat → Nat} {b L : Nat} {xs : Nat → Int32} {adx adm : Nat → Nat} {I : SS → SS → Prop} (X : ZX Oz 0 cA adz D E (fun q => s.heap.size ≤ q) p s m #[Value.ref b] meth c code R_law 4 ret) (hst : zSteps I) (hX : va_X b L xs s s.heap) (hbl : b < s.heap.size) (hZx : zD (fun q => s.heap.size ≤ q) Nx adx) (hZm : zD (fun q => s.heap.size ≤ q) Nm adm) (hxm : ∀ i j, i < Nx → j < Nm → adx i ≠ adm j) (hlocks : meth.locks = false) (hL : L ≤ 3072) :
    ∀ (n i : Nat), i ≤ L → L + 1 ≤ i + n → ∀ (σ τ : SS), I σ τ → ∀ (H : Heap) (locs : List Loc) (ls : Array Slot), va_P D ZCL (zw Ox Nx cA adx σ) H → va_P D ZCL (zw Om Nm cA adm τ) H → va_S (fun q => s.heap.size ≤ q) s.heap H locs → lv_has ls 4 [(0, .ref b), (1, .ref (adx 0)), (2, .ref (adm 0)), (3, .int (nI i))] → W p l e room_1 s m #[Value.ref b] below meth c H locs 123 628996 (lw_Z below #[Value.ref b] s) (F0 m 18 ls []) := by
  have hx := X.1
  have hb := X.2.1
  have hbA : ¬ (fun q : Nat => s.heap.size ≤ q) b := Nat.not_le.mpr hbl
  intro n
  induction n with
  | zero => intro i h1 h2; omega
  | succ n ih =>
    intro i hi hin σ τ hI H locs ls hPx hPm hS hl
    refine lv_iload_n hx hb dL_law_18 rfl (lv_at hl 3 rfl) ?_
    refine lv_aload_n hx hb dL_law_19 rfl (lv_at hl 0 rfl) ?_
    refine va_slen hx hb hX hbl hbA hS dL_law_20 ?_
    refine lv_bipush (v := 6) hx hb dL_law_21 (by decide) ?_
    refine lv_isub hx hb dL_law_23 ?_
    refine lv_icmp_gt (tgt := 1533) hx hb dL_law_24 (by decide) (fun _ => ?_) (fun hc => ?_)
    · refine lv_iconst (v := 1) hx hb dL_law_1533 (by decide) ?_
      refine va_forget (fun q hq => hS.2.2 q hq) ?_
      refine W.widen (k := 600000) (n := 7302250) (Nat.le_of_ble_eq_true rfl) (Nat.le_of_ble_eq_true rfl) ?_
      exact lw_ret hx hb X.2.2.2.2.2.2.2.2.1 hlocks dL_law_1534
    · have hiL : i + 6 ≤ L := zcmp hL (by omega) hc
      have hi0 : vp_in (nI i) L := vp_in_nI (by omega) (by omega)
      have hnext : ∀ (σ1 τ1 : SS), I σ1 τ1 → ∀ (H : Heap) (locs : List Loc) (ls : Array Slot), va_P D ZCL (zw Ox Nx cA adx σ1) H → va_P D ZCL (zw Om Nm cA adm τ1) H → va_S (fun q => s.heap.size ≤ q) s.heap H locs → lv_has ls 4 [(0, .ref b), (1, .ref (adx 0)), (2, .ref (adm 0)), (3, .int (nI i))] → W p l e room_1 s m #[Value.ref b] below meth c H locs 123 628996 (lw_Z below #[Value.ref b] s) (F0 m 1527 ls []) := by
        intro σ1 τ1 hI H locs ls hPx hPm hS hl
        refine lv_iinc (v := nI (i + 6)) (lv' := [(3, .int (nI (i + 6))), (0, .ref b), (1, .ref (adx 0)), (2, .ref (adm 0))]) hx hb dL_law_1527 hl (k := 3) rfl (by rw [← nI_add]; rfl) (by decide) rfl (fun ls hl => ?_)
        refine lv_goto (tgt := 18) hx hb dL_law_1530 (by decide) ?_
        exact ih (i + 6) (by omega) (by omega) σ1 τ1 hI _ _ _ hPx hPm hS (lv_sub hl [1, 2, 3, 0] rfl)
      refine lv_aload_n hx hb dL_law_27 rfl (lv_at hl 0 rfl) ?_
      refine lv_iload_n hx hb dL_law_28 rfl (lv_at hl 3 rfl) ?_
      refine va_sld hx hb hX hbl hbA hS hi0 dL_law_29 ?_
      refine lv_bipush (v := 63) hx hb dL_law_30 (by decide) ?_
      refine lv_iand hx hb dL_law_32 ?_
      generalize xs (nI i).toNatClampNeg &&& 63 = w
      by_cases e0 : w = 0
      · refine lv_tableIn (tgt := 224) (off := 191) hx hb dL_law_33 (by rw [e0]; decide) (by rw [e0]; decide) (by rw [e0]; decide +kernel) (by decide) ?_
        exact law_case_0 X hst hX hbl hZx hZm hxm hiL hL hI hPx hPm hS hl hnext
      by_cases e1 : w = 1
      · refine lv_tableIn (tgt := 267) (off := 234) hx hb dL_law_33 (by rw [e1]; decide) (by rw [e1]; decide) (by rw [e1]; decide +kernel) (by decide) ?_
        exact law_case_1 X hst hX hbl hZx hZm hxm hiL hL hI hPx hPm hS hl hnext
      by_cases e2 : w = 2
      · refine lv_tableIn (tgt := 280) (off := 247) hx hb dL_law_33 (by rw [e2]; decide) (by rw [e2]; decide) (by rw [e2]; decide +kernel) (by decide) ?_
        exact law_case_2 X hst hX hbl hZx hZm hxm hiL hL hI hPx hPm hS hl hnext
      by_cases e3 : w = 3
      · refine lv_tableIn (tgt := 293) (off := 260) hx hb dL_law_33 (by rw [e3]; decide) (by rw [e3]; decide) (by rw [e3]; decide +kernel) (by decide) ?_
        exact law_case_3 X hst hX hbl hZx hZm hxm hiL hL hI hPx hPm hS hl hnext
      by_cases e4 : w = 4
      · refine lv_tableIn (tgt := 326) (off := 293) hx hb dL_law_33 (by rw [e4]; decide) (by rw [e4]; decide) (by rw [e4]; decide +kernel) (by decide) ?_
        exact law_case_4 X hst hX hbl hZx hZm hxm hiL hL hI hPx hPm hS hl hnext
      by_cases e5 : w = 5
      · refine lv_tableIn (tgt := 339) (off := 306) hx hb dL_law_33 (by rw [e5]; decide) (by rw [e5]; decide) (by rw [e5]; decide +kernel) (by decide) ?_
        exact law_case_5 X hst hX hbl hZx hZm hxm hiL hL hI hPx hPm hS hl hnext
      by_cases e6 : w = 6
      · refine lv_tableIn (tgt := 362) (off := 329) hx hb dL_law_33 (by rw [e6]; decide) (by rw [e6]; decide) (by rw [e6]; decide +kernel) (by decide) ?_
        exact law_case_6 X hst hX hbl hZx hZm hxm hiL hL hI hPx hPm hS hl hnext
      by_cases e7 : w = 7
      · refine lv_tableIn (tgt := 386) (off := 353) hx hb dL_law_33 (by rw [e7]; decide) (by rw [e7]; decide) (by rw [e7]; decide +kernel) (by decide) ?_
        exact law_case_7 X hst hX hbl hZx hZm hxm hiL hL hI hPx hPm hS hl hnext
      by_cases e8 : w = 8
      · refine lv_tableIn (tgt := 409) (off := 376) hx hb dL_law_33 (by rw [e8]; decide) (by rw [e8]; decide) (by rw [e8]; decide +kernel) (by decide) ?_
        exact law_case_8 X hst hX hbl hZx hZm hxm hiL hL hI hPx hPm hS hl hnext
      by_cases e9 : w = 9
      · refine lv_tableIn (tgt := 452) (off := 419) hx hb dL_law_33 (by rw [e9]; decide) (by rw [e9]; decide) (by rw [e9]; decide +kernel) (by decide) ?_
        exact law_case_9 X hst hX hbl hZx hZm hxm hiL hL hI hPx hPm hS hl hnext
      by_cases e10 : w = 10
      · refine lv_tableIn (tgt := 525) (off := 492) hx hb dL_law_33 (by rw [e10]; decide) (by rw [e10]; decide) (by rw [e10]; decide +kernel) (by decide) ?_
        exact law_case_10 X hst hX hbl hZx hZm hxm hiL hL hI hPx hPm hS hl hnext
      by_cases e11 : w = 11
      · refine lv_tableIn (tgt := 558) (off := 525) hx hb dL_law_33 (by rw [e11]; decide) (by rw [e11]; decide) (by rw [e11]; decide +kernel) (by decide) ?_
        exact law_case_11 X hst hX hbl hZx hZm hxm hiL hL hI hPx hPm hS hl hnext
      by_cases e12 : w = 12
      · refine lv_tableIn (tgt := 592) (off := 559) hx hb dL_law_33 (by rw [e12]; decide) (by rw [e12]; decide) (by rw [e12]; decide +kernel) (by decide) ?_
        exact law_case_12 X hst hX hbl hZx hZm hxm hiL hL hI hPx hPm hS hl hnext
      by_cases e13 : w = 13
      · refine lv_tableIn (tgt := 605) (off := 572) hx hb dL_law_33 (by rw [e13]; decide) (by rw [e13]; decide) (by rw [e13]; decide +kernel) (by decide) ?_
        exact law_case_13 X hst hX hbl hZx hZm hxm hiL hL hI hPx hPm hS hl hnext
      by_cases e14 : w = 14
      · refine lv_tableIn (tgt := 618) (off := 585) hx hb dL_law_33 (by rw [e14]; decide) (by rw [e14]; decide) (by rw [e14]; decide +kernel) (by decide) ?_
        exact law_case_14 X hst hX hbl hZx hZm hxm hiL hL hI hPx hPm hS hl hnext
      by_cases e15 : w = 15
      · refine lv_tableIn (tgt := 642) (off := 609) hx hb dL_law_33 (by rw [e15]; decide) (by rw [e15]; decide) (by rw [e15]; decide +kernel) (by decide) ?_
        exact law_case_15 X hst hX hbl hZx hZm hxm hiL hL hI hPx hPm hS hl hnext
      by_cases e16 : w = 16
      · refine lv_tableIn (tgt := 676) (off := 643) hx hb dL_law_33 (by rw [e16]; decide) (by rw [e16]; decide) (by rw [e16]; decide +kernel) (by decide) ?_
        exact law_case_16 X hst hX hbl hZx hZm hxm hiL hL hI hPx hPm hS hl hnext
      by_cases e17 : w = 17
      · refine lv_tableIn (tgt := 700) (off := 667) hx hb dL_law_33 (by rw [e17]; decide) (by rw [e17]; decide) (by rw [e17]; decide +kernel) (by decide) ?_
        exact law_case_17 X hst hX hbl hZx hZm hxm hiL hL hI hPx hPm hS hl hnext
      by_cases e18 : w = 18
      · refine lv_tableIn (tgt := 734) (off := 701) hx hb dL_law_33 (by rw [e18]; decide) (by rw [e18]; decide) (by rw [e18]; decide +kernel) (by decide) ?_
        exact law_case_18 X hst hX hbl hZx hZm hxm hiL hL hI hPx hPm hS hl hnext
      by_cases e19 : w = 19
      · refine lv_tableIn (tgt := 767) (off := 734) hx hb dL_law_33 (by rw [e19]; decide) (by rw [e19]; decide) (by rw [e19]; decide +kernel) (by decide) ?_
        exact law_case_19 X hst hX hbl hZx hZm hxm hiL hL hI hPx hPm hS hl hnext
      by_cases e20 : w = 20
      · refine lv_tableIn (tgt := 791) (off := 758) hx hb dL_law_33 (by rw [e20]; decide) (by rw [e20]; decide) (by rw [e20]; decide +kernel) (by decide) ?_
        exact law_case_20 X hst hX hbl hZx hZm hxm hiL hL hI hPx hPm hS hl hnext
      by_cases e21 : w = 21
      · refine lv_tableIn (tgt := 825) (off := 792) hx hb dL_law_33 (by rw [e21]; decide) (by rw [e21]; decide) (by rw [e21]; decide +kernel) (by decide) ?_
        exact law_case_21 X hst hX hbl hZx hZm hxm hiL hL hI hPx hPm hS hl hnext
      by_cases e22 : w = 22
      · refine lv_tableIn (tgt := 869) (off := 836) hx hb dL_law_33 (by rw [e22]; decide) (by rw [e22]; decide) (by rw [e22]; decide +kernel) (by decide) ?_
        exact law_case_22 X hst hX hbl hZx hZm hxm hiL hL hI hPx hPm hS hl hnext
      by_cases e23 : w = 23
      · refine lv_tableIn (tgt := 952) (off := 919) hx hb dL_law_33 (by rw [e23]; decide) (by rw [e23]; decide) (by rw [e23]; decide +kernel) (by decide) ?_
        exact law_case_23 X hst hX hbl hZx hZm hxm hiL hL hI hPx hPm hS hl hnext
      by_cases e24 : w = 24
      · refine lv_tableIn (tgt := 975) (off := 942) hx hb dL_law_33 (by rw [e24]; decide) (by rw [e24]; decide) (by rw [e24]; decide +kernel) (by decide) ?_
        exact law_case_24 X hst hX hbl hZx hZm hxm hiL hL hI hPx hPm hS hl hnext
      by_cases e25 : w = 25
      · refine lv_tableIn (tgt := 1019) (off := 986) hx hb dL_law_33 (by rw [e25]; decide) (by rw [e25]; decide) (by rw [e25]; decide +kernel) (by decide) ?_
        exact law_case_25 X hst hX hbl hZx hZm hxm hiL hL hI hPx hPm hS hl hnext
      by_cases e26 : w = 26
      · refine lv_tableIn (tgt := 1042) (off := 1009) hx hb dL_law_33 (by rw [e26]; decide) (by rw [e26]; decide) (by rw [e26]; decide +kernel) (by decide) ?_
        exact law_case_26 X hst hX hbl hZx hZm hxm hiL hL hI hPx hPm hS hl hnext
      by_cases e27 : w = 27
      · refine lv_tableIn (tgt := 1055) (off := 1022) hx hb dL_law_33 (by rw [e27]; decide) (by rw [e27]; decide) (by rw [e27]; decide +kernel) (by decide) ?_
        exact law_case_27 X hst hX hbl hZx hZm hxm hiL hL hI hPx hPm hS hl hnext
      by_cases e28 : w = 28
      · refine lv_tableIn (tgt := 1068) (off := 1035) hx hb dL_law_33 (by rw [e28]; decide) (by rw [e28]; decide) (by rw [e28]; decide +kernel) (by decide) ?_
        exact law_case_28 X hst hX hbl hZx hZm hxm hiL hL hI hPx hPm hS hl hnext
      by_cases e29 : w = 29
      · refine lv_tableIn (tgt := 1081) (off := 1048) hx hb dL_law_33 (by rw [e29]; decide) (by rw [e29]; decide) (by rw [e29]; decide +kernel) (by decide) ?_
        exact law_case_29 X hst hX hbl hZx hZm hxm hiL hL hI hPx hPm hS hl hnext
      by_cases e30 : w = 30
      · refine lv_tableIn (tgt := 1104) (off := 1071) hx hb dL_law_33 (by rw [e30]; decide) (by rw [e30]; decide) (by rw [e30]; decide +kernel) (by decide) ?_
        exact law_case_30 X hst hX hbl hZx hZm hxm hiL hL hI hPx hPm hS hl hnext
      by_cases e31 : w = 31
      · refine lv_tableIn (tgt := 1127) (off := 1094) hx hb dL_law_33 (by rw [e31]; decide) (by rw [e31]; decide) (by rw [e31]; decide +kernel) (by decide) ?_
        exact law_case_31 X hst hX hbl hZx hZm hxm hiL hL hI hPx hPm hS hl hnext
      by_cases e32 : w = 32
      · refine lv_tableIn (tgt := 1170) (off := 1137) hx hb dL_law_33 (by rw [e32]; decide) (by rw [e32]; decide) (by rw [e32]; decide +kernel) (by decide) ?_
        exact law_case_32 X hst hX hbl hZx hZm hxm hiL hL hI hPx hPm hS hl hnext
      by_cases e33 : w = 33
      · refine lv_tableIn (tgt := 1243) (off := 1210) hx hb dL_law_33 (by rw [e33]; decide) (by rw [e33]; decide) (by rw [e33]; decide +kernel) (by decide) ?_
        exact law_case_33 X hst hX hbl hZx hZm hxm hiL hL hI hPx hPm hS hl hnext
      by_cases e34 : w = 34
      · refine lv_tableIn (tgt := 1277) (off := 1244) hx hb dL_law_33 (by rw [e34]; decide) (by rw [e34]; decide) (by rw [e34]; decide +kernel) (by decide) ?_
        exact law_case_34 X hst hX hbl hZx hZm hxm hiL hL hI hPx hPm hS hl hnext
      by_cases e35 : w = 35
      · refine lv_tableIn (tgt := 1340) (off := 1307) hx hb dL_law_33 (by rw [e35]; decide) (by rw [e35]; decide) (by rw [e35]; decide +kernel) (by decide) ?_
        exact law_case_35 X hst hX hbl hZx hZm hxm hiL hL hI hPx hPm hS hl hnext
      by_cases e36 : w = 36
      · refine lv_tableIn (tgt := 1383) (off := 1350) hx hb dL_law_33 (by rw [e36]; decide) (by rw [e36]; decide) (by rw [e36]; decide +kernel) (by decide) ?_
        exact law_case_36 X hst hX hbl hZx hZm hxm hiL hL hI hPx hPm hS hl hnext
      by_cases e37 : w = 37
      · refine lv_tableIn (tgt := 1406) (off := 1373) hx hb dL_law_33 (by rw [e37]; decide) (by rw [e37]; decide) (by rw [e37]; decide +kernel) (by decide) ?_
        exact law_case_37 X hst hX hbl hZx hZm hxm hiL hL hI hPx hPm hS hl hnext
      by_cases e38 : w = 38
      · refine lv_tableIn (tgt := 1439) (off := 1406) hx hb dL_law_33 (by rw [e38]; decide) (by rw [e38]; decide) (by rw [e38]; decide +kernel) (by decide) ?_
        exact law_case_38 X hst hX hbl hZx hZm hxm hiL hL hI hPx hPm hS hl hnext
      by_cases e39 : w = 39
      · refine lv_tableIn (tgt := 1452) (off := 1419) hx hb dL_law_33 (by rw [e39]; decide) (by rw [e39]; decide) (by rw [e39]; decide +kernel) (by decide) ?_
        exact law_case_39 X hst hX hbl hZx hZm hxm hiL hL hI hPx hPm hS hl hnext
      by_cases e40 : w = 40
      · refine lv_tableIn (tgt := 1465) (off := 1432) hx hb dL_law_33 (by rw [e40]; decide) (by rw [e40]; decide) (by rw [e40]; decide +kernel) (by decide) ?_
        exact law_case_40 X hst hX hbl hZx hZm hxm hiL hL hI hPx hPm hS hl hnext
      by_cases e41 : w = 41
      · refine lv_tableIn (tgt := 1478) (off := 1445) hx hb dL_law_33 (by rw [e41]; decide) (by rw [e41]; decide) (by rw [e41]; decide +kernel) (by decide) ?_
        exact law_case_41 X hst hX hbl hZx hZm hxm hiL hL hI hPx hPm hS hl hnext
      by_cases e42 : w = 42
      · refine lv_tableIn (tgt := 1491) (off := 1458) hx hb dL_law_33 (by rw [e42]; decide) (by rw [e42]; decide) (by rw [e42]; decide +kernel) (by decide) ?_
        exact law_case_42 X hst hX hbl hZx hZm hxm hiL hL hI hPx hPm hS hl hnext
      by_cases e43 : w = 43
      · refine lv_tableIn (tgt := 1504) (off := 1471) hx hb dL_law_33 (by rw [e43]; decide) (by rw [e43]; decide) (by rw [e43]; decide +kernel) (by decide) ?_
        exact law_case_43 X hst hX hbl hZx hZm hxm hiL hL hI hPx hPm hS hl hnext
      have y0 := zne e0 (v := 0) (by decide)
      have y1 := zne e1 (v := 1) (by decide)
      have y2 := zne e2 (v := 2) (by decide)
      have y3 := zne e3 (v := 3) (by decide)
      have y4 := zne e4 (v := 4) (by decide)
      have y5 := zne e5 (v := 5) (by decide)
      have y6 := zne e6 (v := 6) (by decide)
      have y7 := zne e7 (v := 7) (by decide)
      have y8 := zne e8 (v := 8) (by decide)
      have y9 := zne e9 (v := 9) (by decide)
      have y10 := zne e10 (v := 10) (by decide)
      have y11 := zne e11 (v := 11) (by decide)
      have y12 := zne e12 (v := 12) (by decide)
      have y13 := zne e13 (v := 13) (by decide)
      have y14 := zne e14 (v := 14) (by decide)
      have y15 := zne e15 (v := 15) (by decide)
      have y16 := zne e16 (v := 16) (by decide)
      have y17 := zne e17 (v := 17) (by decide)
      have y18 := zne e18 (v := 18) (by decide)
      have y19 := zne e19 (v := 19) (by decide)
      have y20 := zne e20 (v := 20) (by decide)
      have y21 := zne e21 (v := 21) (by decide)
      have y22 := zne e22 (v := 22) (by decide)
      have y23 := zne e23 (v := 23) (by decide)
      have y24 := zne e24 (v := 24) (by decide)
      have y25 := zne e25 (v := 25) (by decide)
      have y26 := zne e26 (v := 26) (by decide)
      have y27 := zne e27 (v := 27) (by decide)
      have y28 := zne e28 (v := 28) (by decide)
      have y29 := zne e29 (v := 29) (by decide)
      have y30 := zne e30 (v := 30) (by decide)
      have y31 := zne e31 (v := 31) (by decide)
      have y32 := zne e32 (v := 32) (by decide)
      have y33 := zne e33 (v := 33) (by decide)
      have y34 := zne e34 (v := 34) (by decide)
      have y35 := zne e35 (v := 35) (by decide)
      have y36 := zne e36 (v := 36) (by decide)
      have y37 := zne e37 (v := 37) (by decide)
      have y38 := zne e38 (v := 38) (by decide)
      have y39 := zne e39 (v := 39) (by decide)
      have y40 := zne e40 (v := 40) (by decide)
      have y41 := zne e41 (v := 41) (by decide)
      have y42 := zne e42 (v := 42) (by decide)
      have y43 := zne e43 (v := 43) (by decide)
      refine lv_tableOut (tgt := 1527) hx hb dL_law_33 (by omega) (by decide) ?_
      exact hnext σ τ hI _ _ _ hPx hPm hS hl
