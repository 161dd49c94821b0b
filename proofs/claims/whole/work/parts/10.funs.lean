def f_J0_coder_7d493 (w0 : Nat) (s0 : SS) : Option (Int32 × SS) :=
  if zl5 w0 = true then if (1 : Int32) = 0 then some (1, s0) else some (0, s0) else none
def f_J0_length_8abf5 (w0 : Nat) (s0 : SS) : Option (Int32 × SS) :=
  if zl5 w0 = true then zbd (f_J0_coder_7d493 w0 s0) (fun r1 s2 => some (((nI (ZLEN.getD w0 0)) >>> (r1 &&& 31)), s2)) else none
def f_J0_isLatin1_aae02 (w0 : Nat) (s0 : SS) : Option (Int32 × SS) :=
  if zl5 w0 = true then if (1 : Int32) = 0 then some (0, s0) else if (0 : Int32) = 0 then some (1, s0) else some (0, s0) else none
def f_J3_checkIndex_8e157_c9  (x0 : Int32) (x1 : Int32) (s1 : SS) : Option (Int32 × SS) :=
  none
def f_J3_checkIndex_8e157 (x0 : Int32) (x1 : Int32) (s0 : SS) : Option (Int32 × SS) :=
  if x0 < 0 then f_J3_checkIndex_8e157_c9 x0 x1 s0 else if x0 < x1 then some (x0, s0) else f_J3_checkIndex_8e157_c9 x0 x1 s0
def f_J0_checkIndex_df160 (x0 : Int32) (x1 : Int32) (s0 : SS) : Option (Unit × SS) :=
  zbd (f_J3_checkIndex_8e157 x0 x1 s0) (fun r1 s2 => some ((), s2))
def f_J1_charAt_3b067 (w0 : Nat) (x1 : Int32) (s0 : SS) : Option (Int32 × SS) :=
  if zl5 w0 = true then zbd (f_J0_checkIndex_df160 x1 (nI (ZLEN.getD w0 0)) s0) (fun _ s2 => if zin x1 (ZLEN.getD w0 0) = true then if znar .char ((((((ZBYT.getD w0 []).getD (x1).toNatClampNeg 0) &&& (255 : Int32))).toUInt32 % 65536).toInt32) = true then some ((((((ZBYT.getD w0 []).getD (x1).toNatClampNeg 0) &&& (255 : Int32))).toUInt32 % 65536).toInt32, s2) else none else none) else none
def f_J0_charAt_5068e (w0 : Nat) (x1 : Int32) (s0 : SS) : Option (Int32 × SS) :=
  if zl5 w0 = true then zbd (f_J0_isLatin1_aae02 w0 s0) (fun r1 s2 => if r1 = 0 then none else zbd (f_J1_charAt_3b067 w0 x1 s2) (fun r4 s5 => if znar .char r4 = true then some (r4, s5) else none)) else none
def f_J7_rangeCheck_23922 (O : Nat → OD) (x0 : Int32) (x1 : Int32) (x2 : Int32) (s0 : SS) : Option (Unit × SS) :=
  if x1 ≤ x2 then if 0 ≤ x1 then if x2 ≤ x0 then some ((), s0) else none else none else none
def f_J7_fill_d0a16_c6 (O : Nat → OD)  : Nat → Nat → Int64 → Int32 → Int32 → SS → Option (Unit × SS)
  | 0, _, _, _, _, _ => none
  | n + 1, k0, x1, x3, x4, s1 => if x4 ≤ x3 then some ((), s1) else if zok O 1 k0 x3 = true then (f_J7_fill_d0a16_c6 O n) k0 x1 (x3 + 1) x4 (zSL s1 k0 (x3).toNatClampNeg x1) else none
def f_J7_fill_d0a16 (O : Nat → OD) (k0 : Nat) (x1 : Int64) (s0 : SS) : Option (Unit × SS) :=
  if zia O 1 k0 = true then f_J7_fill_d0a16_c6 O ZF k0 x1 0 (nI (zlen O k0)) s0 else none
def f_J7_fill_bad5a_c10 (O : Nat → OD)  : Nat → Nat → Int32 → Int64 → Int32 → SS → Option (Unit × SS)
  | 0, _, _, _, _, _ => none
  | n + 1, k0, x2, x3, x5, s1 => if x2 ≤ x5 then some ((), s1) else if zok O 1 k0 x5 = true then (f_J7_fill_bad5a_c10 O n) k0 x2 x3 (x5 + 1) (zSL s1 k0 (x5).toNatClampNeg x3) else none
def f_J7_fill_bad5a (O : Nat → OD) (k0 : Nat) (x1 : Int32) (x2 : Int32) (x3 : Int64) (s0 : SS) : Option (Unit × SS) :=
  if zia O 1 k0 = true then zbd (f_J7_rangeCheck_23922 O (nI (zlen O k0)) x1 x2 s0) (fun _ s4 => f_J7_fill_bad5a_c10 O ZF k0 x2 x3 x1 s4) else none
def f_J7_fill_53178_c5 (O : Nat → OD)  : Nat → Nat → Int32 → Int32 → Int32 → SS → Option (Unit × SS)
  | 0, _, _, _, _, _ => none
  | n + 1, k0, x1, x2, x3, s1 => if x3 ≤ x2 then some ((), s1) else if zok O 0 k0 x2 = true then (f_J7_fill_53178_c5 O n) k0 x1 (x2 + 1) x3 (zS s1 k0 (x2).toNatClampNeg x1) else none
def f_J7_fill_53178 (O : Nat → OD) (k0 : Nat) (x1 : Int32) (s0 : SS) : Option (Unit × SS) :=
  if zia O 0 k0 = true then f_J7_fill_53178_c5 O ZF k0 x1 0 (nI (zlen O k0)) s0 else none
def f_X0_note (x1 : Int32) (s0 : SS) : Option (Unit × SS) :=
  if 24 ≤ (s0.1 12 1) then some ((), s0) else if zin (s0.1 12 1) 24 = true then some ((), (zS (zS s0 82 ((s0.1 12 1)).toNatClampNeg x1) 12 1 (((zS s0 82 ((s0.1 12 1)).toNatClampNeg x1).1 12 1) + (1 : Int32)))) else none
def f_X0_run : Nat → Int32 → Int32 → Int32 → Int32 → SS → Option (Int32 × SS)
  | 0, _, _, _, _, _ => none
  | n + 1, x1, x2, x3, x4, s0 => if 40 < x4 then some (0, s0) else if (((3 : Int32) * x1) + x2) < 0 then some (0, s0) else if (((3 : Int32) * x1) + x2) < 18 then if zin (((3 : Int32) * x1) + x2) 18 = true then zbd (f_X0_note (ztab 3 (((3 : Int32) * x1) + x2)) s0) (fun _ s3 => if (ztab 3 (((3 : Int32) * x1) + x2)) = 10 then some ((x3 + (s3.1 12 3)), s3) else if (ztab 3 (((3 : Int32) * x1) + x2)) = 11 then zbd (f_X0_run n (s3.1 12 2) (0 : Int32) x3 (x4 + (1 : Int32)) s3) (fun r7 s8 => some ((r7 * (2 : Int32)), s8)) else if (ztab 3 (((3 : Int32) * x1) + x2)) = 12 then zbd (f_X0_run n (s3.1 12 2) (1 : Int32) x3 (x4 + (1 : Int32)) s3) (fun r11 s12 => some ((r11 - (s12.1 12 4)), s12)) else if (ztab 3 (((3 : Int32) * x1) + x2)) = 20 then zbd (f_X0_run n (0 : Int32) (1 : Int32) x3 (x4 + (1 : Int32)) s3) (fun r15 s16 => some ((r15 ^^^ (3 : Int32)), s16)) else if (ztab 3 (((3 : Int32) * x1) + x2)) = 30 then zbd (f_X0_run n (0 : Int32) (0 : Int32) x3 (x4 + (1 : Int32)) s3) (fun r19 s20 => some ((-r19), s20)) else if (ztab 3 (((3 : Int32) * x1) + x2)) = 40 then zbd (f_X0_run n (2 : Int32) (2 : Int32) (x3 + (1 : Int32)) (x4 + (1 : Int32)) s3) (fun r23 s24 => some (r23, s24)) else if (ztab 3 (((3 : Int32) * x1) + x2)) = 41 then zbd (f_X0_run n (2 : Int32) (0 : Int32) x3 (x4 + (1 : Int32)) s3) (fun r27 s28 => some ((r27 * (3 : Int32)), s28)) else if (ztab 3 (((3 : Int32) * x1) + x2)) = 50 then zbd (f_X0_run n (0 : Int32) (1 : Int32) x3 (x4 + (1 : Int32)) s3) (fun r31 s32 => zbd (f_X0_run n (s32.1 12 2) (0 : Int32) (2 : Int32) (x4 + (1 : Int32)) s32) (fun r34 s35 => some ((r31 + r34), s35))) else if (ztab 3 (((3 : Int32) * x1) + x2)) = 60 then zbd (f_X0_run n (1 : Int32) (2 : Int32) x3 (x4 + (1 : Int32)) s3) (fun r38 s39 => some ((r38 ^^^ (s39.1 12 4)), s39)) else some (0, s3)) else none else some (0, s0)
def f_X0_begin (k1 : Nat) (x2 : Int32) (x3 : Int32) (x4 : Int32) (s0 : SS) : Option (Int32 × SS) :=
  if zis Ox 4 k1 = true then zbd (f_X0_run 10 (((zS (zS (zS (zS s0 12 1 0) 12 2 ((zS s0 12 1 0).1 k1 0)) 12 3 x2) 12 4 ((zS (zS (zS s0 12 1 0) 12 2 ((zS s0 12 1 0).1 k1 0)) 12 3 x2).1 k1 1)).1 12 2)) x3 x4 (0 : Int32) (zS (zS (zS (zS s0 12 1 0) 12 2 ((zS s0 12 1 0).1 k1 0)) 12 3 x2) 12 4 ((zS (zS (zS s0 12 1 0) 12 2 ((zS s0 12 1 0).1 k1 0)) 12 3 x2).1 k1 1))) (fun r1 s2 => some (r1, s2)) else none
def f_X1_forget  (s0 : SS) : Option (Unit × SS) :=
  some ((), (zS (zS s0 7 4 0) 7 5 0))
def f_X1_dropEldest  (s0 : SS) : Option (Unit × SS) :=
  if zok2 Ox 0 69 1 69 0 11 = true then if zok2 Ox 0 70 1 70 0 11 = true then if zok2 Ox 0 71 1 71 0 11 = true then if zok2 Ox 0 72 1 72 0 11 = true then some ((), (zS (zI (zI (zI (zI s0 69 (va_cpy (s0.1 69) (s0.1 69) ((1 : Int32)).toNatClampNeg ((0 : Int32)).toNatClampNeg ((11 : Int32)).toNatClampNeg)) 70 (va_cpy ((zI s0 69 (va_cpy (s0.1 69) (s0.1 69) ((1 : Int32)).toNatClampNeg ((0 : Int32)).toNatClampNeg ((11 : Int32)).toNatClampNeg)).1 70) ((zI s0 69 (va_cpy (s0.1 69) (s0.1 69) ((1 : Int32)).toNatClampNeg ((0 : Int32)).toNatClampNeg ((11 : Int32)).toNatClampNeg)).1 70) ((1 : Int32)).toNatClampNeg ((0 : Int32)).toNatClampNeg ((11 : Int32)).toNatClampNeg)) 71 (va_cpy ((zI (zI s0 69 (va_cpy (s0.1 69) (s0.1 69) ((1 : Int32)).toNatClampNeg ((0 : Int32)).toNatClampNeg ((11 : Int32)).toNatClampNeg)) 70 (va_cpy ((zI s0 69 (va_cpy (s0.1 69) (s0.1 69) ((1 : Int32)).toNatClampNeg ((0 : Int32)).toNatClampNeg ((11 : Int32)).toNatClampNeg)).1 70) ((zI s0 69 (va_cpy (s0.1 69) (s0.1 69) ((1 : Int32)).toNatClampNeg ((0 : Int32)).toNatClampNeg ((11 : Int32)).toNatClampNeg)).1 70) ((1 : Int32)).toNatClampNeg ((0 : Int32)).toNatClampNeg ((11 : Int32)).toNatClampNeg)).1 71) ((zI (zI s0 69 (va_cpy (s0.1 69) (s0.1 69) ((1 : Int32)).toNatClampNeg ((0 : Int32)).toNatClampNeg ((11 : Int32)).toNatClampNeg)) 70 (va_cpy ((zI s0 69 (va_cpy (s0.1 69) (s0.1 69) ((1 : Int32)).toNatClampNeg ((0 : Int32)).toNatClampNeg ((11 : Int32)).toNatClampNeg)).1 70) ((zI s0 69 (va_cpy (s0.1 69) (s0.1 69) ((1 : Int32)).toNatClampNeg ((0 : Int32)).toNatClampNeg ((11 : Int32)).toNatClampNeg)).1 70) ((1 : Int32)).toNatClampNeg ((0 : Int32)).toNatClampNeg ((11 : Int32)).toNatClampNeg)).1 71) ((1 : Int32)).toNatClampNeg ((0 : Int32)).toNatClampNeg ((11 : Int32)).toNatClampNeg)) 72 (va_cpy ((zI (zI (zI s0 69 (va_cpy (s0.1 69) (s0.1 69) ((1 : Int32)).toNatClampNeg ((0 : Int32)).toNatClampNeg ((11 : Int32)).toNatClampNeg)) 70 (va_cpy ((zI s0 69 (va_cpy (s0.1 69) (s0.1 69) ((1 : Int32)).toNatClampNeg ((0 : Int32)).toNatClampNeg ((11 : Int32)).toNatClampNeg)).1 70) ((zI s0 69 (va_cpy (s0.1 69) (s0.1 69) ((1 : Int32)).toNatClampNeg ((0 : Int32)).toNatClampNeg ((11 : Int32)).toNatClampNeg)).1 70) ((1 : Int32)).toNatClampNeg ((0 : Int32)).toNatClampNeg ((11 : Int32)).toNatClampNeg)) 71 (va_cpy ((zI (zI s0 69 (va_cpy (s0.1 69) (s0.1 69) ((1 : Int32)).toNatClampNeg ((0 : Int32)).toNatClampNeg ((11 : Int32)).toNatClampNeg)) 70 (va_cpy ((zI s0 69 (va_cpy (s0.1 69) (s0.1 69) ((1 : Int32)).toNatClampNeg ((0 : Int32)).toNatClampNeg ((11 : Int32)).toNatClampNeg)).1 70) ((zI s0 69 (va_cpy (s0.1 69) (s0.1 69) ((1 : Int32)).toNatClampNeg ((0 : Int32)).toNatClampNeg ((11 : Int32)).toNatClampNeg)).1 70) ((1 : Int32)).toNatClampNeg ((0 : Int32)).toNatClampNeg ((11 : Int32)).toNatClampNeg)).1 71) ((zI (zI s0 69 (va_cpy (s0.1 69) (s0.1 69) ((1 : Int32)).toNatClampNeg ((0 : Int32)).toNatClampNeg ((11 : Int32)).toNatClampNeg)) 70 (va_cpy ((zI s0 69 (va_cpy (s0.1 69) (s0.1 69) ((1 : Int32)).toNatClampNeg ((0 : Int32)).toNatClampNeg ((11 : Int32)).toNatClampNeg)).1 70) ((zI s0 69 (va_cpy (s0.1 69) (s0.1 69) ((1 : Int32)).toNatClampNeg ((0 : Int32)).toNatClampNeg ((11 : Int32)).toNatClampNeg)).1 70) ((1 : Int32)).toNatClampNeg ((0 : Int32)).toNatClampNeg ((11 : Int32)).toNatClampNeg)).1 71) ((1 : Int32)).toNatClampNeg ((0 : Int32)).toNatClampNeg ((11 : Int32)).toNatClampNeg)).1 72) ((zI (zI (zI s0 69 (va_cpy (s0.1 69) (s0.1 69) ((1 : Int32)).toNatClampNeg ((0 : Int32)).toNatClampNeg ((11 : Int32)).toNatClampNeg)) 70 (va_cpy ((zI s0 69 (va_cpy (s0.1 69) (s0.1 69) ((1 : Int32)).toNatClampNeg ((0 : Int32)).toNatClampNeg ((11 : Int32)).toNatClampNeg)).1 70) ((zI s0 69 (va_cpy (s0.1 69) (s0.1 69) ((1 : Int32)).toNatClampNeg ((0 : Int32)).toNatClampNeg ((11 : Int32)).toNatClampNeg)).1 70) ((1 : Int32)).toNatClampNeg ((0 : Int32)).toNatClampNeg ((11 : Int32)).toNatClampNeg)) 71 (va_cpy ((zI (zI s0 69 (va_cpy (s0.1 69) (s0.1 69) ((1 : Int32)).toNatClampNeg ((0 : Int32)).toNatClampNeg ((11 : Int32)).toNatClampNeg)) 70 (va_cpy ((zI s0 69 (va_cpy (s0.1 69) (s0.1 69) ((1 : Int32)).toNatClampNeg ((0 : Int32)).toNatClampNeg ((11 : Int32)).toNatClampNeg)).1 70) ((zI s0 69 (va_cpy (s0.1 69) (s0.1 69) ((1 : Int32)).toNatClampNeg ((0 : Int32)).toNatClampNeg ((11 : Int32)).toNatClampNeg)).1 70) ((1 : Int32)).toNatClampNeg ((0 : Int32)).toNatClampNeg ((11 : Int32)).toNatClampNeg)).1 71) ((zI (zI s0 69 (va_cpy (s0.1 69) (s0.1 69) ((1 : Int32)).toNatClampNeg ((0 : Int32)).toNatClampNeg ((11 : Int32)).toNatClampNeg)) 70 (va_cpy ((zI s0 69 (va_cpy (s0.1 69) (s0.1 69) ((1 : Int32)).toNatClampNeg ((0 : Int32)).toNatClampNeg ((11 : Int32)).toNatClampNeg)).1 70) ((zI s0 69 (va_cpy (s0.1 69) (s0.1 69) ((1 : Int32)).toNatClampNeg ((0 : Int32)).toNatClampNeg ((11 : Int32)).toNatClampNeg)).1 70) ((1 : Int32)).toNatClampNeg ((0 : Int32)).toNatClampNeg ((11 : Int32)).toNatClampNeg)).1 71) ((1 : Int32)).toNatClampNeg ((0 : Int32)).toNatClampNeg ((11 : Int32)).toNatClampNeg)).1 72) ((1 : Int32)).toNatClampNeg ((0 : Int32)).toNatClampNeg ((11 : Int32)).toNatClampNeg)) 7 4 11)) else none else none else none else none
def f_X1_remember_c13  (x1 : Int32) (x2 : Int32) (x3 : Int32) (x4 : Int32) (s1 : SS) : Option (Unit × SS) :=
  if zin (s1.1 7 4) 12 = true then if zin ((zS s1 69 ((s1.1 7 4)).toNatClampNeg x1).1 7 4) 12 = true then if zin (((zS (zS s1 69 ((s1.1 7 4)).toNatClampNeg x1) 70 (((zS s1 69 ((s1.1 7 4)).toNatClampNeg x1).1 7 4)).toNatClampNeg x2).1 7 4)) 12 = true then if zin (((zS (zS (zS s1 69 ((s1.1 7 4)).toNatClampNeg x1) 70 (((zS s1 69 ((s1.1 7 4)).toNatClampNeg x1).1 7 4)).toNatClampNeg x2) 71 (((zS (zS s1 69 ((s1.1 7 4)).toNatClampNeg x1) 70 (((zS s1 69 ((s1.1 7 4)).toNatClampNeg x1).1 7 4)).toNatClampNeg x2).1 7 4)).toNatClampNeg x3).1 7 4)) 12 = true then some ((), (zS (zS (zS (zS (zS (zS s1 69 ((s1.1 7 4)).toNatClampNeg x1) 70 (((zS s1 69 ((s1.1 7 4)).toNatClampNeg x1).1 7 4)).toNatClampNeg x2) 71 (((zS (zS s1 69 ((s1.1 7 4)).toNatClampNeg x1) 70 (((zS s1 69 ((s1.1 7 4)).toNatClampNeg x1).1 7 4)).toNatClampNeg x2).1 7 4)).toNatClampNeg x3) 72 (((zS (zS (zS s1 69 ((s1.1 7 4)).toNatClampNeg x1) 70 (((zS s1 69 ((s1.1 7 4)).toNatClampNeg x1).1 7 4)).toNatClampNeg x2) 71 (((zS (zS s1 69 ((s1.1 7 4)).toNatClampNeg x1) 70 (((zS s1 69 ((s1.1 7 4)).toNatClampNeg x1).1 7 4)).toNatClampNeg x2).1 7 4)).toNatClampNeg x3).1 7 4)).toNatClampNeg x4) 7 4 (((zS (zS (zS (zS s1 69 ((s1.1 7 4)).toNatClampNeg x1) 70 (((zS s1 69 ((s1.1 7 4)).toNatClampNeg x1).1 7 4)).toNatClampNeg x2) 71 (((zS (zS s1 69 ((s1.1 7 4)).toNatClampNeg x1) 70 (((zS s1 69 ((s1.1 7 4)).toNatClampNeg x1).1 7 4)).toNatClampNeg x2).1 7 4)).toNatClampNeg x3) 72 (((zS (zS (zS s1 69 ((s1.1 7 4)).toNatClampNeg x1) 70 (((zS s1 69 ((s1.1 7 4)).toNatClampNeg x1).1 7 4)).toNatClampNeg x2) 71 (((zS (zS s1 69 ((s1.1 7 4)).toNatClampNeg x1) 70 (((zS s1 69 ((s1.1 7 4)).toNatClampNeg x1).1 7 4)).toNatClampNeg x2).1 7 4)).toNatClampNeg x3).1 7 4)).toNatClampNeg x4).1 7 4) + (1 : Int32))) 7 5 0)) else none else none else none else none
def f_X1_remember (x1 : Int32) (x2 : Int32) (x3 : Int32) (x4 : Int32) (s0 : SS) : Option (Unit × SS) :=
  if (s0.1 7 4) < 12 then f_X1_remember_c13 x1 x2 x3 x4 s0 else zbd (f_X1_dropEldest s0) (fun _ s6 => f_X1_remember_c13 x1 x2 x3 x4 s6)
def f_X9_signAt (x1 : Int32) (s0 : SS) : Option (Int32 × SS) :=
  if x1 < 0 then some ((-1), s0) else if x1 < (s0.1 8 1) then if zin x1 80 = true then some ((s0.1 73 (x1).toNatClampNeg), s0) else none else some ((-1), s0)
def f_X9_wordLength_c2  : Nat → Int32 → Int32 → SS → Option (Int32 × SS)
  | 0, _, _, _ => none
  | n + 1, x1, x2, s1 => if 80 ≤ x2 then some (x2, s1) else zbd (f_X9_signAt (x1 + x2) s1) (fun r1 s2 => if r1 < 97 then some (x2, s2) else zbd (f_X9_signAt (x1 + x2) s2) (fun r4 s5 => if 122 < r4 then some (x2, s5) else (f_X9_wordLength_c2 n) x1 (x2 + 1) s5))
def f_X9_wordLength (x1 : Int32) (s0 : SS) : Option (Int32 × SS) :=
  f_X9_wordLength_c2 ZF x1 0 s0
def f_X9_hasWord_c13  : Nat → Int32 → Int32 → Nat → Int32 → SS → Option (Int32 × SS)
  | 0, _, _, _, _, _ => none
  | n + 1, x1, x2, w3, x4, s1 => if zl5 w3 = true then if x2 ≤ x4 then some (1, s1) else zbd (f_X9_signAt (x1 + x4) s1) (fun r4 s5 => zbd (f_J0_charAt_5068e w3 x4 s5) (fun r7 s8 => if r4 = r7 then (f_X9_hasWord_c13 n) x1 x2 w3 (x4 + 1) s8 else some (0, s8))) else none
def f_X9_hasWord (x1 : Int32) (x2 : Int32) (w3 : Nat) (s0 : SS) : Option (Int32 × SS) :=
  if zl5 w3 = true then zbd (f_J0_length_8abf5 w3 s0) (fun r1 s2 => if x2 = r1 then f_X9_hasWord_c13 ZF x1 x2 w3 0 s2 else some (0, s2)) else none
def f_X2_wordOf (x1 : Int32) (x2 : Int32) (s0 : SS) : Option (Int32 × SS) :=
  zbd (f_X9_hasWord x1 x2 0 s0) (fun r1 s2 => if r1 = 0 then zbd (f_X9_hasWord x1 x2 1 s2) (fun r4 s5 => if r4 = 0 then zbd (f_X9_hasWord x1 x2 2 s5) (fun r7 s8 => if r7 = 0 then zbd (f_X9_hasWord x1 x2 3 s8) (fun r10 s11 => if r10 = 0 then zbd (f_X9_hasWord x1 x2 4 s11) (fun r13 s14 => if r13 = 0 then some ((-1), s14) else some (4, s14)) else some (3, s11)) else some (2, s8)) else some (1, s5)) else some (0, s2))
def f_X9_isFigure (x0 : Int32) (s0 : SS) : Option (Int32 × SS) :=
  if x0 < 48 then some (0, s0) else if 57 < x0 then some (0, s0) else some (1, s0)
def f_X2_rightSigns_c39 (rc2 : Int32 → Int32 → SS → Option (Int32 × SS)) (x1 : Int32) (x2 : Int32) (s1 : SS) : Option (Int32 × SS) :=
  rc2 x1 (x2 + 1) s1
def f_X2_rightSigns_c2  : Nat → Int32 → Int32 → SS → Option (Int32 × SS)
  | 0, _, _, _ => none
  | n + 1, x1, x2, s1 => if 4 ≤ x2 then some (4, s1) else zbd (f_X9_signAt (x1 + x2) s1) (fun r1 s2 => if (x2 - x2 / (2 : Int32) * (2 : Int32)) = 0 then if r1 = 32 then f_X2_rightSigns_c39 (f_X2_rightSigns_c2 n) x1 x2 s2 else some (x2, s2) else zbd (f_X9_isFigure r1 s2) (fun r4 s5 => if r4 = 0 then some (x2, s5) else f_X2_rightSigns_c39 (f_X2_rightSigns_c2 n) x1 x2 s5))
def f_X2_rightSigns (x1 : Int32) (s0 : SS) : Option (Int32 × SS) :=
  f_X2_rightSigns_c2 ZF x1 0 s0
def f_X2_readFrom_c9  : Nat → Int32 → Int32 → SS → Option (Int32 × SS)
  | 0, _, _, _ => none
  | n + 1, x2, x3, s1 => if 12 ≤ x3 then some (x2, s1) else zbd (f_X9_wordLength x2 s1) (fun r1 s2 => zbd (f_X2_wordOf x2 r1 s2) (fun r4 s5 => if 0 ≤ r4 then zbd (f_X2_rightSigns (x2 + r1) s5) (fun r7 s8 => if 4 ≤ r7 then if zin x3 12 = true then zbd (f_X9_signAt (((x2 + r1) + (1 : Int32))) (zS s8 74 (x3).toNatClampNeg r4)) (fun r11 s12 => if zin x3 12 = true then zbd (f_X9_signAt (((x2 + r1) + (3 : Int32))) (zS s12 75 (x3).toNatClampNeg (r11 - (48 : Int32)))) (fun r15 s16 => if zin x3 12 = true then zbd (f_X9_signAt ((x2 + r1) + 4) (zS (zS s16 76 (x3).toNatClampNeg (r15 - (48 : Int32))) 9 3 (x3 + (1 : Int32)))) (fun r19 s20 => if r19 = (-1) then some ((-1), s20) else zbd (f_X9_signAt ((x2 + r1) + 4) s20) (fun r22 s23 => if r22 = 59 then (f_X2_readFrom_c9 n) (((x2 + r1) + 4) + 1) (x3 + 1) s23 else some (((x2 + r1) + 4), s23))) else none) else none) else none else some (((x2 + r1) + r7), s8)) else some (x2, s5)))
def f_X2_readFrom  (s0 : SS) : Option (Int32 × SS) :=
  f_X2_readFrom_c9 ZF 0 0 (zS s0 9 3 0)
def f_X3_classAt (k0 : Nat) (x1 : Int64) (s0 : SS) : Option (Option Nat × SS) :=
  if zis Ox 3 k0 = true then if (lg_cmp x1 (0 : Int64)) < 0 then some (none, s0) else if (lg_cmp x1 ((s0.1 k0 2)).toInt64) < 0 then if zok Ox 4 (zrf Ox k0 1) ((x1).toInt32) = true then if zis Ox 4 (zrr Ox (zrf Ox k0 1) ((x1).toInt32)) = true then some (some (zrr Ox (zrf Ox k0 1) ((x1).toInt32)), s0) else none else none else some (none, s0) else none
def f_X4_clear (k0 : Nat) (s0 : SS) : Option (Unit × SS) :=
  if zis Ox 4 k0 = true then zbd (f_J7_fill_d0a16 Ox (zrf Ox k0 2) (0 : Int64) (zS (zS s0 k0 0 0) k0 1 0)) (fun _ s2 => some ((), s2)) else none
def f_X3_bring (k0 : Nat) (s0 : SS) : Option (Option Nat × SS) :=
  if zis Ox 3 k0 = true then if (s0.1 k0 2) < 8 then if zok Ox 4 (zrf Ox k0 1) (s0.1 k0 2) = true then if zis Ox 4 (zrr Ox (zrf Ox k0 1) (s0.1 k0 2)) = true then zbd (f_X4_clear ((zrr Ox (zrf Ox k0 1) (s0.1 k0 2))) s0) (fun _ s5 => some (some (zrr Ox (zrf Ox k0 1) (s0.1 k0 2)), (zS s5 k0 2 ((s5.1 k0 2) + (1 : Int32))))) else none else none else some (none, s0) else none
def f_X7_takeOver (k0 : Nat) (k1 : Nat) (s0 : SS) : Option (Unit × SS) :=
  if zis Ox 7 k0 = true then if zis Ox 7 k1 = true then if zok2 Ox 0 (zrf Ox k1 3) 0 (zrf Ox k0 3) 0 3 = true then if zok2 Ox 0 (zrf Ox k1 4) 0 (zrf Ox k0 4) 0 3 = true then if zok2 Ox 0 (zrf Ox k1 5) 0 (zrf Ox k0 5) 0 3 = true then some ((), (zI (zI (zI (zS (zS (zS s0 k0 0 (s0.1 k1 0)) k0 1 ((zS s0 k0 0 (s0.1 k1 0)).1 k1 1)) k0 2 ((zS (zS s0 k0 0 (s0.1 k1 0)) k0 1 ((zS s0 k0 0 (s0.1 k1 0)).1 k1 1)).1 k1 2)) (zrf Ox k0 3) (va_cpy ((zS (zS (zS s0 k0 0 (s0.1 k1 0)) k0 1 ((zS s0 k0 0 (s0.1 k1 0)).1 k1 1)) k0 2 ((zS (zS s0 k0 0 (s0.1 k1 0)) k0 1 ((zS s0 k0 0 (s0.1 k1 0)).1 k1 1)).1 k1 2)).1 (zrf Ox k1 3)) ((zS (zS (zS s0 k0 0 (s0.1 k1 0)) k0 1 ((zS s0 k0 0 (s0.1 k1 0)).1 k1 1)) k0 2 ((zS (zS s0 k0 0 (s0.1 k1 0)) k0 1 ((zS s0 k0 0 (s0.1 k1 0)).1 k1 1)).1 k1 2)).1 (zrf Ox k0 3)) ((0 : Int32)).toNatClampNeg ((0 : Int32)).toNatClampNeg ((3 : Int32)).toNatClampNeg)) (zrf Ox k0 4) (va_cpy ((zI (zS (zS (zS s0 k0 0 (s0.1 k1 0)) k0 1 ((zS s0 k0 0 (s0.1 k1 0)).1 k1 1)) k0 2 ((zS (zS s0 k0 0 (s0.1 k1 0)) k0 1 ((zS s0 k0 0 (s0.1 k1 0)).1 k1 1)).1 k1 2)) (zrf Ox k0 3) (va_cpy ((zS (zS (zS s0 k0 0 (s0.1 k1 0)) k0 1 ((zS s0 k0 0 (s0.1 k1 0)).1 k1 1)) k0 2 ((zS (zS s0 k0 0 (s0.1 k1 0)) k0 1 ((zS s0 k0 0 (s0.1 k1 0)).1 k1 1)).1 k1 2)).1 (zrf Ox k1 3)) ((zS (zS (zS s0 k0 0 (s0.1 k1 0)) k0 1 ((zS s0 k0 0 (s0.1 k1 0)).1 k1 1)) k0 2 ((zS (zS s0 k0 0 (s0.1 k1 0)) k0 1 ((zS s0 k0 0 (s0.1 k1 0)).1 k1 1)).1 k1 2)).1 (zrf Ox k0 3)) ((0 : Int32)).toNatClampNeg ((0 : Int32)).toNatClampNeg ((3 : Int32)).toNatClampNeg)).1 (zrf Ox k1 4)) ((zI (zS (zS (zS s0 k0 0 (s0.1 k1 0)) k0 1 ((zS s0 k0 0 (s0.1 k1 0)).1 k1 1)) k0 2 ((zS (zS s0 k0 0 (s0.1 k1 0)) k0 1 ((zS s0 k0 0 (s0.1 k1 0)).1 k1 1)).1 k1 2)) (zrf Ox k0 3) (va_cpy ((zS (zS (zS s0 k0 0 (s0.1 k1 0)) k0 1 ((zS s0 k0 0 (s0.1 k1 0)).1 k1 1)) k0 2 ((zS (zS s0 k0 0 (s0.1 k1 0)) k0 1 ((zS s0 k0 0 (s0.1 k1 0)).1 k1 1)).1 k1 2)).1 (zrf Ox k1 3)) ((zS (zS (zS s0 k0 0 (s0.1 k1 0)) k0 1 ((zS s0 k0 0 (s0.1 k1 0)).1 k1 1)) k0 2 ((zS (zS s0 k0 0 (s0.1 k1 0)) k0 1 ((zS s0 k0 0 (s0.1 k1 0)).1 k1 1)).1 k1 2)).1 (zrf Ox k0 3)) ((0 : Int32)).toNatClampNeg ((0 : Int32)).toNatClampNeg ((3 : Int32)).toNatClampNeg)).1 (zrf Ox k0 4)) ((0 : Int32)).toNatClampNeg ((0 : Int32)).toNatClampNeg ((3 : Int32)).toNatClampNeg)) (zrf Ox k0 5) (va_cpy ((zI (zI (zS (zS (zS s0 k0 0 (s0.1 k1 0)) k0 1 ((zS s0 k0 0 (s0.1 k1 0)).1 k1 1)) k0 2 ((zS (zS s0 k0 0 (s0.1 k1 0)) k0 1 ((zS s0 k0 0 (s0.1 k1 0)).1 k1 1)).1 k1 2)) (zrf Ox k0 3) (va_cpy ((zS (zS (zS s0 k0 0 (s0.1 k1 0)) k0 1 ((zS s0 k0 0 (s0.1 k1 0)).1 k1 1)) k0 2 ((zS (zS s0 k0 0 (s0.1 k1 0)) k0 1 ((zS s0 k0 0 (s0.1 k1 0)).1 k1 1)).1 k1 2)).1 (zrf Ox k1 3)) ((zS (zS (zS s0 k0 0 (s0.1 k1 0)) k0 1 ((zS s0 k0 0 (s0.1 k1 0)).1 k1 1)) k0 2 ((zS (zS s0 k0 0 (s0.1 k1 0)) k0 1 ((zS s0 k0 0 (s0.1 k1 0)).1 k1 1)).1 k1 2)).1 (zrf Ox k0 3)) ((0 : Int32)).toNatClampNeg ((0 : Int32)).toNatClampNeg ((3 : Int32)).toNatClampNeg)) (zrf Ox k0 4) (va_cpy ((zI (zS (zS (zS s0 k0 0 (s0.1 k1 0)) k0 1 ((zS s0 k0 0 (s0.1 k1 0)).1 k1 1)) k0 2 ((zS (zS s0 k0 0 (s0.1 k1 0)) k0 1 ((zS s0 k0 0 (s0.1 k1 0)).1 k1 1)).1 k1 2)) (zrf Ox k0 3) (va_cpy ((zS (zS (zS s0 k0 0 (s0.1 k1 0)) k0 1 ((zS s0 k0 0 (s0.1 k1 0)).1 k1 1)) k0 2 ((zS (zS s0 k0 0 (s0.1 k1 0)) k0 1 ((zS s0 k0 0 (s0.1 k1 0)).1 k1 1)).1 k1 2)).1 (zrf Ox k1 3)) ((zS (zS (zS s0 k0 0 (s0.1 k1 0)) k0 1 ((zS s0 k0 0 (s0.1 k1 0)).1 k1 1)) k0 2 ((zS (zS s0 k0 0 (s0.1 k1 0)) k0 1 ((zS s0 k0 0 (s0.1 k1 0)).1 k1 1)).1 k1 2)).1 (zrf Ox k0 3)) ((0 : Int32)).toNatClampNeg ((0 : Int32)).toNatClampNeg ((3 : Int32)).toNatClampNeg)).1 (zrf Ox k1 4)) ((zI (zS (zS (zS s0 k0 0 (s0.1 k1 0)) k0 1 ((zS s0 k0 0 (s0.1 k1 0)).1 k1 1)) k0 2 ((zS (zS s0 k0 0 (s0.1 k1 0)) k0 1 ((zS s0 k0 0 (s0.1 k1 0)).1 k1 1)).1 k1 2)) (zrf Ox k0 3) (va_cpy ((zS (zS (zS s0 k0 0 (s0.1 k1 0)) k0 1 ((zS s0 k0 0 (s0.1 k1 0)).1 k1 1)) k0 2 ((zS (zS s0 k0 0 (s0.1 k1 0)) k0 1 ((zS s0 k0 0 (s0.1 k1 0)).1 k1 1)).1 k1 2)).1 (zrf Ox k1 3)) ((zS (zS (zS s0 k0 0 (s0.1 k1 0)) k0 1 ((zS s0 k0 0 (s0.1 k1 0)).1 k1 1)) k0 2 ((zS (zS s0 k0 0 (s0.1 k1 0)) k0 1 ((zS s0 k0 0 (s0.1 k1 0)).1 k1 1)).1 k1 2)).1 (zrf Ox k0 3)) ((0 : Int32)).toNatClampNeg ((0 : Int32)).toNatClampNeg ((3 : Int32)).toNatClampNeg)).1 (zrf Ox k0 4)) ((0 : Int32)).toNatClampNeg ((0 : Int32)).toNatClampNeg ((3 : Int32)).toNatClampNeg)).1 (zrf Ox k1 5)) ((zI (zI (zS (zS (zS s0 k0 0 (s0.1 k1 0)) k0 1 ((zS s0 k0 0 (s0.1 k1 0)).1 k1 1)) k0 2 ((zS (zS s0 k0 0 (s0.1 k1 0)) k0 1 ((zS s0 k0 0 (s0.1 k1 0)).1 k1 1)).1 k1 2)) (zrf Ox k0 3) (va_cpy ((zS (zS (zS s0 k0 0 (s0.1 k1 0)) k0 1 ((zS s0 k0 0 (s0.1 k1 0)).1 k1 1)) k0 2 ((zS (zS s0 k0 0 (s0.1 k1 0)) k0 1 ((zS s0 k0 0 (s0.1 k1 0)).1 k1 1)).1 k1 2)).1 (zrf Ox k1 3)) ((zS (zS (zS s0 k0 0 (s0.1 k1 0)) k0 1 ((zS s0 k0 0 (s0.1 k1 0)).1 k1 1)) k0 2 ((zS (zS s0 k0 0 (s0.1 k1 0)) k0 1 ((zS s0 k0 0 (s0.1 k1 0)).1 k1 1)).1 k1 2)).1 (zrf Ox k0 3)) ((0 : Int32)).toNatClampNeg ((0 : Int32)).toNatClampNeg ((3 : Int32)).toNatClampNeg)) (zrf Ox k0 4) (va_cpy ((zI (zS (zS (zS s0 k0 0 (s0.1 k1 0)) k0 1 ((zS s0 k0 0 (s0.1 k1 0)).1 k1 1)) k0 2 ((zS (zS s0 k0 0 (s0.1 k1 0)) k0 1 ((zS s0 k0 0 (s0.1 k1 0)).1 k1 1)).1 k1 2)) (zrf Ox k0 3) (va_cpy ((zS (zS (zS s0 k0 0 (s0.1 k1 0)) k0 1 ((zS s0 k0 0 (s0.1 k1 0)).1 k1 1)) k0 2 ((zS (zS s0 k0 0 (s0.1 k1 0)) k0 1 ((zS s0 k0 0 (s0.1 k1 0)).1 k1 1)).1 k1 2)).1 (zrf Ox k1 3)) ((zS (zS (zS s0 k0 0 (s0.1 k1 0)) k0 1 ((zS s0 k0 0 (s0.1 k1 0)).1 k1 1)) k0 2 ((zS (zS s0 k0 0 (s0.1 k1 0)) k0 1 ((zS s0 k0 0 (s0.1 k1 0)).1 k1 1)).1 k1 2)).1 (zrf Ox k0 3)) ((0 : Int32)).toNatClampNeg ((0 : Int32)).toNatClampNeg ((3 : Int32)).toNatClampNeg)).1 (zrf Ox k1 4)) ((zI (zS (zS (zS s0 k0 0 (s0.1 k1 0)) k0 1 ((zS s0 k0 0 (s0.1 k1 0)).1 k1 1)) k0 2 ((zS (zS s0 k0 0 (s0.1 k1 0)) k0 1 ((zS s0 k0 0 (s0.1 k1 0)).1 k1 1)).1 k1 2)) (zrf Ox k0 3) (va_cpy ((zS (zS (zS s0 k0 0 (s0.1 k1 0)) k0 1 ((zS s0 k0 0 (s0.1 k1 0)).1 k1 1)) k0 2 ((zS (zS s0 k0 0 (s0.1 k1 0)) k0 1 ((zS s0 k0 0 (s0.1 k1 0)).1 k1 1)).1 k1 2)).1 (zrf Ox k1 3)) ((zS (zS (zS s0 k0 0 (s0.1 k1 0)) k0 1 ((zS s0 k0 0 (s0.1 k1 0)).1 k1 1)) k0 2 ((zS (zS s0 k0 0 (s0.1 k1 0)) k0 1 ((zS s0 k0 0 (s0.1 k1 0)).1 k1 1)).1 k1 2)).1 (zrf Ox k0 3)) ((0 : Int32)).toNatClampNeg ((0 : Int32)).toNatClampNeg ((3 : Int32)).toNatClampNeg)).1 (zrf Ox k0 4)) ((0 : Int32)).toNatClampNeg ((0 : Int32)).toNatClampNeg ((3 : Int32)).toNatClampNeg)).1 (zrf Ox k0 5)) ((0 : Int32)).toNatClampNeg ((0 : Int32)).toNatClampNeg ((3 : Int32)).toNatClampNeg))) else none else none else none else none else none
def f_X3_takeOver_c21  : Nat → Nat → Nat → Int32 → SS → Option (Unit × SS)
  | 0, _, _, _, _ => none
  | n + 1, k0, k1, x2, s1 => if zis Ox 3 k0 = true then if zis Ox 3 k1 = true then if (s1.1 k0 2) ≤ x2 then some ((), s1) else if zok Ox 4 (zrf Ox k0 1) x2 = true then if zis Ox 4 (zrr Ox (zrf Ox k0 1) x2) = true then if zok Ox 4 (zrf Ox k1 1) x2 = true then if zis Ox 4 (zrr Ox (zrf Ox k1 1) x2) = true then if zok Ox 4 (zrf Ox k0 1) x2 = true then if zis Ox 4 (zrr Ox (zrf Ox k0 1) x2) = true then if zok Ox 4 (zrf Ox k1 1) x2 = true then if zis Ox 4 (zrr Ox (zrf Ox k1 1) x2) = true then if zok Ox 4 (zrf Ox k1 1) x2 = true then if zis Ox 4 (zrr Ox (zrf Ox k1 1) x2) = true then if zok Ox 4 (zrf Ox k0 1) x2 = true then if zis Ox 4 (zrr Ox (zrf Ox k0 1) x2) = true then if zok2 Ox 1 (zrf Ox (zrr Ox (zrf Ox k1 1) x2) 2) 0 (zrf Ox (zrr Ox (zrf Ox k0 1) x2) 2) 0 462 = true then (f_X3_takeOver_c21 n) k0 k1 (x2 + 1) (zL (zS (zS s1 (zrr Ox (zrf Ox k0 1) x2) 0 (s1.1 (zrr Ox (zrf Ox k1 1) x2) 0)) (zrr Ox (zrf Ox k0 1) x2) 1 ((zS s1 (zrr Ox (zrf Ox k0 1) x2) 0 (s1.1 (zrr Ox (zrf Ox k1 1) x2) 0)).1 (zrr Ox (zrf Ox k1 1) x2) 1)) (zrf Ox (zrr Ox (zrf Ox k0 1) x2) 2) (va_cpy ((zS (zS s1 (zrr Ox (zrf Ox k0 1) x2) 0 (s1.1 (zrr Ox (zrf Ox k1 1) x2) 0)) (zrr Ox (zrf Ox k0 1) x2) 1 ((zS s1 (zrr Ox (zrf Ox k0 1) x2) 0 (s1.1 (zrr Ox (zrf Ox k1 1) x2) 0)).1 (zrr Ox (zrf Ox k1 1) x2) 1)).2 (zrf Ox (zrr Ox (zrf Ox k1 1) x2) 2)) ((zS (zS s1 (zrr Ox (zrf Ox k0 1) x2) 0 (s1.1 (zrr Ox (zrf Ox k1 1) x2) 0)) (zrr Ox (zrf Ox k0 1) x2) 1 ((zS s1 (zrr Ox (zrf Ox k0 1) x2) 0 (s1.1 (zrr Ox (zrf Ox k1 1) x2) 0)).1 (zrr Ox (zrf Ox k1 1) x2) 1)).2 (zrf Ox (zrr Ox (zrf Ox k0 1) x2) 2)) ((0 : Int32)).toNatClampNeg ((0 : Int32)).toNatClampNeg ((462 : Int32)).toNatClampNeg)) else none else none else none else none else none else none else none else none else none else none else none else none else none else none else none
def f_X3_takeOver (k0 : Nat) (k1 : Nat) (s0 : SS) : Option (Unit × SS) :=
  if zis Ox 3 k0 = true then if zis Ox 3 k1 = true then if zis Ox 7 (zrf Ox k0 0) = true then if zis Ox 7 (zrf Ox k1 0) = true then zbd (f_X7_takeOver (zrf Ox k0 0) (zrf Ox k1 0) s0) (fun _ s4 => f_X3_takeOver_c21 ZF k0 k1 0 (zS s4 k0 2 (s4.1 k1 2))) else none else none else none else none
def f_X7_isAs_c100 (rc41 : Nat → Nat → Int32 → Int32 → SS → Option (Int32 × SS)) (k0 : Nat) (k1 : Nat) (x3 : Int32) (t0 : Int32) (s1 : SS) : Option (Int32 × SS) :=
  if zis Ox 7 k0 = true then if zis Ox 7 k1 = true then rc41 k0 k1 t0 (x3 + 1) s1 else none else none
def f_X7_isAs_c99 (rc41 : Nat → Nat → Int32 → Int32 → SS → Option (Int32 × SS)) (k0 : Nat) (k1 : Nat) (x3 : Int32) (s1 : SS) : Option (Int32 × SS) :=
  if zis Ox 7 k0 = true then if zis Ox 7 k1 = true then f_X7_isAs_c100 rc41 k0 k1 x3 0 s1 else none else none
def f_X7_isAs_c41  : Nat → Nat → Nat → Int32 → Int32 → SS → Option (Int32 × SS)
  | 0, _, _, _, _, _ => none
  | n + 1, k0, k1, x2, x3, s1 => if zis Ox 7 k0 = true then if zis Ox 7 k1 = true then if 3 ≤ x3 then if znar .boolean x2 = true then some (x2, s1) else none else if x2 = 0 then f_X7_isAs_c99 (f_X7_isAs_c41 n) k0 k1 x3 s1 else if zok Ox 0 (zrf Ox k0 3) x3 = true then if zok Ox 0 (zrf Ox k1 3) x3 = true then if (s1.1 (zrf Ox k0 3) (x3).toNatClampNeg) = (s1.1 (zrf Ox k1 3) (x3).toNatClampNeg) then if zok Ox 0 (zrf Ox k0 4) x3 = true then if zok Ox 0 (zrf Ox k1 4) x3 = true then if (s1.1 (zrf Ox k0 4) (x3).toNatClampNeg) = (s1.1 (zrf Ox k1 4) (x3).toNatClampNeg) then if zok Ox 0 (zrf Ox k0 5) x3 = true then if zok Ox 0 (zrf Ox k1 5) x3 = true then if (s1.1 (zrf Ox k0 5) (x3).toNatClampNeg) = (s1.1 (zrf Ox k1 5) (x3).toNatClampNeg) then f_X7_isAs_c100 (f_X7_isAs_c41 n) k0 k1 x3 1 s1 else f_X7_isAs_c99 (f_X7_isAs_c41 n) k0 k1 x3 s1 else none else none else f_X7_isAs_c99 (f_X7_isAs_c41 n) k0 k1 x3 s1 else none else none else f_X7_isAs_c99 (f_X7_isAs_c41 n) k0 k1 x3 s1 else none else none else none else none
def f_X7_isAs_c38  (k0 : Nat) (k1 : Nat) (t0 : Int32) (s1 : SS) : Option (Int32 × SS) :=
  if zis Ox 7 k0 = true then if zis Ox 7 k1 = true then f_X7_isAs_c41 ZF k0 k1 t0 0 s1 else none else none
def f_X7_isAs_c37  (k0 : Nat) (k1 : Nat) (s1 : SS) : Option (Int32 × SS) :=
  if zis Ox 7 k0 = true then if zis Ox 7 k1 = true then f_X7_isAs_c38 k0 k1 0 s1 else none else none
def f_X7_isAs (k0 : Nat) (k1 : Nat) (s0 : SS) : Option (Int32 × SS) :=
  if zis Ox 7 k0 = true then if zis Ox 7 k1 = true then if (s0.1 k0 0) = (s0.1 k1 0) then if (s0.1 k0 1) = (s0.1 k1 1) then if (s0.1 k0 2) = (s0.1 k1 2) then f_X7_isAs_c38 k0 k1 1 s0 else f_X7_isAs_c37 k0 k1 s0 else f_X7_isAs_c37 k0 k1 s0 else f_X7_isAs_c37 k0 k1 s0 else none else none
def f_X3_isAs_c84 (rc29 : Nat → Nat → Int32 → Int32 → SS → Option (Int32 × SS)) : Nat → Nat → Nat → Int32 → Int32 → Nat → Nat → Int32 → SS → Option (Int32 × SS)
  | 0, _, _, _, _, _, _, _, _ => none
  | n + 1, k0, k1, x2, x3, k4, k5, x6, s1 => if zis Ox 3 k0 = true then if zis Ox 3 k1 = true then if zis Ox 4 k4 = true then if zis Ox 4 k5 = true then if x2 ≤ x6 then rc29 k0 k1 x2 (x3 + 1) s1 else if zok Ox 1 (zrf Ox k4 2) x6 = true then if zok Ox 1 (zrf Ox k5 2) x6 = true then if (lg_cmp (s1.2 (zrf Ox k4 2) (x6).toNatClampNeg) (s1.2 (zrf Ox k5 2) (x6).toNatClampNeg)) = 0 then (f_X3_isAs_c84 rc29 n) k0 k1 x2 x3 k4 k5 (x6 + 1) s1 else some (0, s1) else none else none else none else none else none else none
def f_X3_isAs_c29  : Nat → Nat → Nat → Int32 → Int32 → SS → Option (Int32 × SS)
  | 0, _, _, _, _, _ => none
  | n + 1, k0, k1, x2, x3, s1 => if zis Ox 3 k0 = true then if zis Ox 3 k1 = true then if (s1.1 k0 2) ≤ x3 then some (1, s1) else if zok Ox 4 (zrf Ox k0 1) x3 = true then if zis Ox 4 (zrr Ox (zrf Ox k0 1) x3) = true then if zok Ox 4 (zrf Ox k1 1) x3 = true then if zis Ox 4 (zrr Ox (zrf Ox k1 1) x3) = true then if (s1.1 (zrr Ox (zrf Ox k0 1) x3) 0) = (s1.1 (zrr Ox (zrf Ox k1 1) x3) 0) then if (s1.1 (zrr Ox (zrf Ox k0 1) x3) 1) = (s1.1 (zrr Ox (zrf Ox k1 1) x3) 1) then f_X3_isAs_c84 (f_X3_isAs_c29 n) ZF k0 k1 x2 x3 (zrr Ox (zrf Ox k0 1) x3) (zrr Ox (zrf Ox k1 1) x3) 0 s1 else some (0, s1) else some (0, s1) else none else none else none else none else none else none
def f_X3_isAs (k0 : Nat) (k1 : Nat) (x2 : Int32) (s0 : SS) : Option (Int32 × SS) :=
  if zis Ox 3 k0 = true then if zis Ox 3 k1 = true then if (s0.1 k0 2) = (s0.1 k1 2) then if zis Ox 7 (zrf Ox k0 0) = true then if zis Ox 7 (zrf Ox k1 0) = true then zbd (f_X7_isAs (zrf Ox k0 0) (zrf Ox k1 0) s0) (fun r3 s4 => if r3 = 0 then some (0, s4) else f_X3_isAs_c29 ZF k0 k1 x2 0 s4) else none else none else some (0, s0) else none else none
def f_X4_become_c15  (k0 : Nat) (x1 : Int32) (x2 : Int32) (t0 : Int32) (s1 : SS) : Option (Int32 × SS) :=
  if zis Ox 4 k0 = true then if x1 = 0 then some (t0, (zS s1 k0 0 x2)) else some (t0, (zS s1 k0 1 x2)) else none
def f_X4_become (k0 : Nat) (x1 : Int32) (x2 : Int32) (s0 : SS) : Option (Int32 × SS) :=
  if zis Ox 4 k0 = true then if x1 = 0 then f_X4_become_c15 k0 x1 x2 (s0.1 k0 0) s0 else f_X4_become_c15 k0 x1 x2 (s0.1 k0 1) s0 else none
def f_X4_isUnder_c7  : Nat → Int32 → Int32 → Int32 → SS → Option (Int32 × SS)
  | 0, _, _, _, _ => none
  | n + 1, x1, x2, x3, s1 => if 6 ≤ x3 then some (0, s1) else if x2 < 0 then some (0, s1) else if 6 ≤ x2 then some (0, s1) else if x2 = x1 then some (1, s1) else if zin x2 6 = true then (f_X4_isUnder_c7 n) x1 (ztab 2 x2) (x3 + 1) s1 else none
def f_X4_isUnder (k0 : Nat) (x1 : Int32) (s0 : SS) : Option (Int32 × SS) :=
  if zis Ox 4 k0 = true then f_X4_isUnder_c7 ZF x1 (s0.1 k0 0) 0 s0 else none
def f_X4_numberAt (k0 : Nat) (x2 : Int32) (s0 : SS) : Option (Int64 × SS) :=
  if zis Ox 4 k0 = true then if zok Ox 1 (zrf Ox k0 2) x2 = true then if (s0.1 k0 0) = 1 then some ((-(s0.2 (zrf Ox k0 2) (x2).toNatClampNeg)), s0) else if (s0.1 k0 0) = 2 then some (((s0.2 (zrf Ox k0 2) (x2).toNatClampNeg) * (((s0.1 k0 1)).toInt64 + (1 : Int64))), s0) else if (s0.1 k0 0) = 3 then if zin x2 462 = true then if (s0.1 63 (x2).toNatClampNeg) = (s0.1 k0 1) then some ((s0.2 (zrf Ox k0 2) (x2).toNatClampNeg), s0) else some (0, s0) else none else if (s0.1 k0 0) = 4 then if zin x2 462 = true then if (s0.1 65 (x2).toNatClampNeg) = 0 then some (0, s0) else some (((s0.2 (zrf Ox k0 2) (x2).toNatClampNeg) * (((s0.1 k0 1)).toInt64 + (1 : Int64))), s0) else none else if (s0.1 k0 0) = 5 then if zin x2 462 = true then if ((s0.1 63 (x2).toNatClampNeg) - (s0.1 63 (x2).toNatClampNeg) / (2 : Int32) * (2 : Int32)) = 0 then some ((s0.2 (zrf Ox k0 2) (x2).toNatClampNeg), s0) else some ((-(s0.2 (zrf Ox k0 2) (x2).toNatClampNeg)), s0) else none else some ((s0.2 (zrf Ox k0 2) (x2).toNatClampNeg), s0) else none else none
def f_X4_shown_c29 (rc4 : Nat → Int32 → Int32 → SS → Option (Int32 × SS)) (k0 : Nat) (x3 : Int32) (t0 : Int32) (t1 : Int32) (s1 : SS) : Option (Int32 × SS) :=
  if zis Ox 4 k0 = true then rc4 k0 (t1 + t0) (x3 + 1) s1 else none
def f_X4_shown_c4  : Nat → Nat → Int32 → Int32 → SS → Option (Int32 × SS)
  | 0, _, _, _, _ => none
  | n + 1, k0, x2, x3, s1 => if zis Ox 4 k0 = true then if (s1.1 6 2) ≤ x3 then some (x2, s1) else zbd (f_X4_numberAt k0 x3 s1) (fun r1 s2 => if (lg_cmp r1 (0 : Int64)) = 0 then f_X4_shown_c29 (f_X4_shown_c4 n) k0 x3 0 x2 s2 else f_X4_shown_c29 (f_X4_shown_c4 n) k0 x3 1 x2 s2) else none
def f_X4_shown (k0 : Nat) (s0 : SS) : Option (Int32 × SS) :=
  if zis Ox 4 k0 = true then f_X4_shown_c4 ZF k0 0 0 s0 else none
def f_X4_greatestSize_c35 (rc5 : Nat → Int32 → Int32 → SS → Option (Int32 × SS)) (k0 : Nat) (x2 : Int32) (x3 : Int32) (s1 : SS) : Option (Int32 × SS) :=
  if zis Ox 4 k0 = true then rc5 k0 x2 (x3 + 1) s1 else none
def f_X4_greatestSize_c5  : Nat → Nat → Int32 → Int32 → SS → Option (Int32 × SS)
  | 0, _, _, _, _ => none
  | n + 1, k0, x2, x3, s1 => if zis Ox 4 k0 = true then if (s1.1 6 2) ≤ x3 then some (x2, s1) else zbd (f_X4_numberAt k0 x3 s1) (fun r1 s2 => if (lg_cmp r1 (0 : Int64)) = 0 then f_X4_greatestSize_c35 (f_X4_greatestSize_c5 n) k0 x2 x3 s2 else if zin x3 462 = true then f_X4_greatestSize_c35 (f_X4_greatestSize_c5 n) k0 (if x2 < (s2.1 63 (x3).toNatClampNeg) then (s2.1 63 (x3).toNatClampNeg) else x2) x3 s2 else none) else none
def f_X4_greatestSize (k0 : Nat) (s0 : SS) : Option (Int32 × SS) :=
  if zis Ox 4 k0 = true then f_X4_greatestSize_c5 ZF k0 (-2) 0 s0 else none
def f_X4_leastSize_c47 (rc5 : Nat → Int32 → Int32 → SS → Option (Int32 × SS)) (k0 : Nat) (x2 : Int32) (x3 : Int32) (s1 : SS) : Option (Int32 × SS) :=
  if zis Ox 4 k0 = true then rc5 k0 x2 (x3 + 1) s1 else none
def f_X4_leastSize_c40 (rc5 : Nat → Int32 → Int32 → SS → Option (Int32 × SS)) (k0 : Nat) (x3 : Int32) (s1 : SS) : Option (Int32 × SS) :=
  if zis Ox 4 k0 = true then if zin x3 462 = true then f_X4_leastSize_c47 rc5 k0 (s1.1 63 (x3).toNatClampNeg) x3 s1 else none else none
def f_X4_leastSize_c5  : Nat → Nat → Int32 → Int32 → SS → Option (Int32 × SS)
  | 0, _, _, _, _ => none
  | n + 1, k0, x2, x3, s1 => if zis Ox 4 k0 = true then if (s1.1 6 2) ≤ x3 then some (x2, s1) else zbd (f_X4_numberAt k0 x3 s1) (fun r1 s2 => if (lg_cmp r1 (0 : Int64)) = 0 then f_X4_leastSize_c47 (f_X4_leastSize_c5 n) k0 x2 x3 s2 else if x2 = (-2) then f_X4_leastSize_c40 (f_X4_leastSize_c5 n) k0 x3 s2 else if zin x3 462 = true then if x2 ≤ (s2.1 63 (x3).toNatClampNeg) then f_X4_leastSize_c47 (f_X4_leastSize_c5 n) k0 x2 x3 s2 else f_X4_leastSize_c40 (f_X4_leastSize_c5 n) k0 x3 s2 else none) else none
def f_X4_leastSize (k0 : Nat) (s0 : SS) : Option (Int32 × SS) :=
  if zis Ox 4 k0 = true then f_X4_leastSize_c5 ZF k0 (-2) 0 s0 else none
def f_X4_isOfSizeOne_c33 (rc2 : Nat → Int32 → SS → Option (Int32 × SS)) (k0 : Nat) (x2 : Int32) (s1 : SS) : Option (Int32 × SS) :=
  if zis Ox 4 k0 = true then rc2 k0 (x2 + 1) s1 else none
def f_X4_isOfSizeOne_c2  : Nat → Nat → Int32 → SS → Option (Int32 × SS)
  | 0, _, _, _ => none
  | n + 1, k0, x2, s1 => if zis Ox 4 k0 = true then if (s1.1 6 2) ≤ x2 then some (1, s1) else if zin x2 462 = true then if (s1.1 63 (x2).toNatClampNeg) = 1 then f_X4_isOfSizeOne_c33 (f_X4_isOfSizeOne_c2 n) k0 x2 s1 else zbd (f_X4_numberAt k0 x2 s1) (fun r2 s3 => if (lg_cmp r2 (0 : Int64)) = 0 then f_X4_isOfSizeOne_c33 (f_X4_isOfSizeOne_c2 n) k0 x2 s3 else some (0, s3)) else none else none
def f_X4_isOfSizeOne (k0 : Nat) (s0 : SS) : Option (Int32 × SS) :=
  if zis Ox 4 k0 = true then f_X4_isOfSizeOne_c2 ZF k0 0 s0 else none
def f_X4_widen_c64 (rc29 : Nat → Int32 → Int32 → Int32 → SS → Option (Unit × SS)) (k0 : Nat) (x3 : Int32) (x4 : Int32) (x5 : Int32) (x6 : Int64) (s1 : SS) : Option (Unit × SS) :=
  if zis Ox 4 k0 = true then if zok Ox 1 (zrf Ox k0 2) x5 = true then rc29 k0 x3 x4 (x5 + (-1)) (zSL s1 (zrf Ox k0 2) (x5).toNatClampNeg x6) else none else none
def f_X4_widen_c29  : Nat → Nat → Int32 → Int32 → Int32 → SS → Option (Unit × SS)
  | 0, _, _, _, _, _ => none
  | n + 1, k0, x3, x4, x5, s1 => if zis Ox 4 k0 = true then if x5 < 0 then some ((), s1) else if zin x5 462 = true then if x4 ≤ (s1.1 62 (x5).toNatClampNeg) then f_X4_widen_c64 (f_X4_widen_c29 n) k0 x3 x4 x5 0 s1 else if x3 ≤ 0 then f_X4_widen_c64 (f_X4_widen_c29 n) k0 x3 x4 x5 0 s1 else if zok Ox 1 (zrf Ox k0 2) (x3 + (-1)) = true then f_X4_widen_c64 (f_X4_widen_c29 n) k0 (x3 + (-1)) x4 x5 (s1.2 (zrf Ox k0 2) ((x3 + (-1))).toNatClampNeg) s1 else none else none else none
def f_X4_widen (k0 : Nat) (x2 : Int32) (s0 : SS) : Option (Unit × SS) :=
  if zis Ox 4 k0 = true then if zin (((s0.1 6 1) - (1 : Int32))) 6 = true then f_X4_widen_c29 ZF k0 (if (s0.1 6 2) < x2 then (s0.1 6 2) else x2) (ztab 0 (((s0.1 6 1) - (1 : Int32)))) ((s0.1 6 2) - (1 : Int32)) s0 else none else none
def f_X5_isOne (x1 : Int32) (s0 : SS) : Option (Int32 × SS) :=
  if x1 < 0 then some (0, s0) else if 3 ≤ x1 then some (0, s0) else some (1, s0)
def f_X5_isThere (x1 : Int32) (s0 : SS) : Option (Int32 × SS) :=
  zbd (f_X5_isOne x1 s0) (fun r1 s2 => if r1 = 0 then some (0, s2) else if zin x1 3 = true then if (s2.1 27 (x1).toNatClampNeg) = (-1) then some (0, s2) else some (1, s2) else none)
def f_X5_sizeOf (x1 : Int32) (s0 : SS) : Option (Int32 × SS) :=
  zbd (f_X5_isOne x1 s0) (fun r1 s2 => if r1 = 0 then some (0, s2) else if zin x1 3 = true then some ((s2.1 28 (x1).toNatClampNeg), s2) else none)
def f_X5_hasPlace (x1 : Int32) (x2 : Int32) (s0 : SS) : Option (Int32 × SS) :=
  if x2 < 0 then some (0, s0) else zbd (f_X5_sizeOf x1 s0) (fun r1 s2 => if r1 ≤ x2 then some (0, s2) else some (1, s2))
def f_X5_hasRoom (x1 : Int32) (x2 : Int32) (x3 : Int32) (s0 : SS) : Option (Int32 × SS) :=
  if x3 < 0 then some (0, s0) else if x2 < 0 then some (0, s0) else zbd (f_X5_sizeOf x1 s0) (fun r1 s2 => if r1 < x2 then some (0, s2) else zbd (f_X5_sizeOf x1 s2) (fun r4 s5 => if (r4 - x2) < x3 then some (0, s5) else some (1, s5)))
def f_X5_valueAt (x1 : Int32) (x2 : Int32) (s0 : SS) : Option (Int64 × SS) :=
  zbd (f_X5_hasPlace x1 x2 s0) (fun r1 s2 => if r1 = 0 then some (0, s2) else if zok Ox 5 29 x1 = true then if zok Ox 1 (zrr Ox 29 x1) x2 = true then some ((s2.2 (zrr Ox 29 x1) (x2).toNatClampNeg), s2) else none else none)
def f_X5_become (x1 : Int32) (x2 : Int32) (x3 : Int32) (s0 : SS) : Option (Unit × SS) :=
  zbd (f_X5_isOne x1 s0) (fun r1 s2 => if r1 = 0 then some ((), s2) else if zin x1 3 = true then if zin x1 3 = true then if zok Ox 5 29 x1 = true then zbd (f_J7_fill_d0a16 Ox (zrr Ox 29 x1) (0 : Int64) (zS (zS s2 27 (x1).toNatClampNeg x2) 28 (x1).toNatClampNeg x3)) (fun _ s9 => some ((), s9)) else none else none else none)
def f_X5_place_c32  (t0 : Int64) (t1 : Int32) (kt2 : Nat) (s1 : SS) : Option (Unit × SS) :=
  if zok Ox 1 kt2 t1 = true then some ((), (zSL s1 kt2 (t1).toNatClampNeg t0)) else none
def f_X5_place (x1 : Int32) (x2 : Int32) (x3 : Int64) (s0 : SS) : Option (Unit × SS) :=
  zbd (f_X5_hasPlace x1 x2 s0) (fun r1 s2 => if r1 = 0 then some ((), s2) else if zok Ox 5 29 x1 = true then if zin x1 3 = true then if (s2.1 27 (x1).toNatClampNeg) = 0 then f_X5_place_c32 ((x3).toInt32).toInt64 x2 (zrr Ox 29 x1) s2 else f_X5_place_c32 x3 x2 (zrr Ox 29 x1) s2 else none else none)
def f_X5_howManyThere_c23 (rc4 : Int32 → Int32 → SS → Option (Int32 × SS)) (x2 : Int32) (t0 : Int32) (t1 : Int32) (s1 : SS) : Option (Int32 × SS) :=
  rc4 (t1 + t0) (x2 + 1) s1
def f_X5_howManyThere_c4  : Nat → Int32 → Int32 → SS → Option (Int32 × SS)
  | 0, _, _, _ => none
  | n + 1, x1, x2, s1 => if 3 ≤ x2 then some (x1, s1) else zbd (f_X5_isThere x2 s1) (fun r1 s2 => if r1 = 0 then f_X5_howManyThere_c23 (f_X5_howManyThere_c4 n) x2 0 x1 s2 else f_X5_howManyThere_c23 (f_X5_howManyThere_c4 n) x2 1 x1 s2)
def f_X5_howManyThere  (s0 : SS) : Option (Int32 × SS) :=
  f_X5_howManyThere_c4 ZF 0 0 s0
def f_X6_kept  (s0 : SS) : Option (Int32 × SS) :=
  some ((if 200 < (s0.1 10 1) then 200 else (s0.1 10 1)), s0)
def f_X6_add (x1 : Int32) (s0 : SS) : Option (Unit × SS) :=
  if (s0.1 10 1) < 0 then some ((), (zS s0 10 1 ((s0.1 10 1) + (1 : Int32)))) else if 200 ≤ (s0.1 10 1) then some ((), (zS s0 10 1 ((s0.1 10 1) + (1 : Int32)))) else if zin (s0.1 10 1) 200 = true then some ((), (zS (zS s0 80 ((s0.1 10 1)).toNatClampNeg (vp_nar .char x1)) 10 1 (((zS s0 80 ((s0.1 10 1)).toNatClampNeg (vp_nar .char x1)).1 10 1) + (1 : Int32)))) else none
def f_X6_addFigures_c79  : Nat → Int32 → SS → Option (Unit × SS)
  | 0, _, _ => none
  | n + 1, x6, s1 => if x6 < 0 then some ((), s1) else if zin x6 20 = true then zbd (f_X6_add (s1.1 81 (x6).toNatClampNeg) s1) (fun _ s3 => (f_X6_addFigures_c79 n) (x6 + (-1)) s3) else none
def f_X6_addFigures_c73  (x5 : Int32) (s1 : SS) : Option (Unit × SS) :=
  f_X6_addFigures_c79 ZF (x5 - (1 : Int32)) s1
def f_X6_addFigures_c37 (rc19 : Int64 → Int32 → Int32 → SS → Option (Unit × SS)) (x3 : Int64) (x6 : Int32) (s1 : SS) : Option (Unit × SS) :=
  if zin x6 20 = true then rc19 (x3 / (10 : Int64)) (x6 + (1 : Int32)) (x6 + 1) (zS s1 81 (x6).toNatClampNeg ((vp_nar .char ((((((48 : Int64) - (x3 - x3 / (10 : Int64) * (10 : Int64)))).toInt32).toUInt32 % 65536).toInt32)))) else none
def f_X6_addFigures_c19  : Nat → Int64 → Int32 → Int32 → SS → Option (Unit × SS)
  | 0, _, _, _, _ => none
  | n + 1, x3, x5, x6, s1 => if 20 ≤ x6 then f_X6_addFigures_c73 x5 s1 else if (lg_cmp x3 (0 : Int64)) = 0 then if x6 = 0 then f_X6_addFigures_c37 (f_X6_addFigures_c19 n) x3 x6 s1 else f_X6_addFigures_c73 x5 s1 else f_X6_addFigures_c37 (f_X6_addFigures_c19 n) x3 x6 s1
def f_X6_addFigures_c12  (t0 : Int64) (s1 : SS) : Option (Unit × SS) :=
  f_X6_addFigures_c19 ZF t0 0 0 s1
def f_X6_addFigures (x1 : Int64) (s0 : SS) : Option (Unit × SS) :=
  if (lg_cmp x1 (0 : Int64)) ≤ 0 then f_X6_addFigures_c12 x1 s0 else f_X6_addFigures_c12 (-x1) s0
def f_X7_letterCount (k0 : Nat) (s0 : SS) : Option (Int32 × SS) :=
  if zis Ox 7 k0 = true then if (s0.1 k0 0) = 2 then some ((((s0.1 k0 1) + (s0.1 k0 2)) + (1 : Int32)), s0) else some ((((s0.1 k0 1) + (s0.1 k0 2)) + (0 : Int32)), s0) else none
def f_X7_signOf (k0 : Nat) (x1 : Int32) (s0 : SS) : Option (Int32 × SS) :=
  if zis Ox 7 k0 = true then if (s0.1 k0 1) ≤ x1 then if (s0.1 k0 0) = 2 then if znar .char 118 = true then some (118, s0) else none else if (s0.1 k0 0) = 0 then if znar .char ((((((112 : Int32) + x1) - (s0.1 k0 1))).toUInt32 % 65536).toInt32) = true then some ((((((112 : Int32) + x1) - (s0.1 k0 1))).toUInt32 % 65536).toInt32, s0) else none else if znar .char ((((((117 : Int32) + x1) - (s0.1 k0 1))).toUInt32 % 65536).toInt32) = true then some ((((((117 : Int32) + x1) - (s0.1 k0 1))).toUInt32 % 65536).toInt32, s0) else none else if znar .char (((((97 : Int32) + x1)).toUInt32 % 65536).toInt32) = true then some (((((97 : Int32) + x1)).toUInt32 % 65536).toInt32, s0) else none else none
def f_X6_addMember_c117 (rc57 : Nat → Int32 → Int32 → SS → Option (Unit × SS)) (k1 : Nat) (x5 : Int32) (x6 : Int32) (s1 : SS) : Option (Unit × SS) :=
  if zis Ox 7 k1 = true then rc57 k1 x5 (x6 + 1) s1 else none
def f_X6_addMember_c95 (rc57 : Nat → Int32 → Int32 → SS → Option (Unit × SS)) (k1 : Nat) (x5 : Int32) (x6 : Int32) (x7 : Int32) (s1 : SS) : Option (Unit × SS) :=
  if zis Ox 7 k1 = true then if x7 ≤ 1 then f_X6_addMember_c117 rc57 k1 x5 x6 s1 else zbd (f_X6_add (94 : Int32) s1) (fun _ s8 => zbd (f_X6_add (((((48 : Int32) + x7)).toUInt32 % 65536).toInt32) s8) (fun _ s11 => f_X6_addMember_c117 rc57 k1 x5 x6 s11)) else none
def f_X6_addMember_c57  : Nat → Nat → Int32 → Int32 → SS → Option (Unit × SS)
  | 0, _, _, _, _ => none
  | n + 1, k1, x5, x6, s1 => if zis Ox 7 k1 = true then zbd (f_X7_letterCount k1 s1) (fun r4 s5 => if r4 ≤ x6 then some ((), s5) else if (x5 - x5 / (10 : Int32) * (10 : Int32)) ≤ 0 then f_X6_addMember_c95 (f_X6_addMember_c57 n) k1 (x5 / (10 : Int32)) x6 (x5 - x5 / (10 : Int32) * (10 : Int32)) s5 else zbd (f_X7_signOf k1 x6 s5) (fun r13 s14 => zbd (f_X6_add r13 s14) (fun _ s17 => f_X6_addMember_c95 (f_X6_addMember_c57 n) k1 (x5 / (10 : Int32)) x6 (x5 - x5 / (10 : Int32) * (10 : Int32)) s17))) else none
def f_X6_addMember_c51  (k1 : Nat) (x2 : Int32) (s1 : SS) : Option (Unit × SS) :=
  if zis Ox 7 k1 = true then f_X6_addMember_c57 ZF k1 x2 0 s1 else none
def f_X6_addMember_c46  (k1 : Nat) (x2 : Int32) (x3 : Int64) (s1 : SS) : Option (Unit × SS) :=
  if zis Ox 7 k1 = true then zbd (f_X6_addFigures x3 s1) (fun _ s2 => f_X6_addMember_c51 k1 x2 s2) else none
def f_X6_addMember_c28  (k1 : Nat) (x2 : Int32) (x3 : Int64) (s1 : SS) : Option (Unit × SS) :=
  if zis Ox 7 k1 = true then if x2 = 0 then f_X6_addMember_c46 k1 x2 x3 s1 else if (lg_cmp x3 (1 : Int64)) = 0 then f_X6_addMember_c51 k1 x2 s1 else if (lg_cmp x3 (-1 : Int64)) = 0 then f_X6_addMember_c51 k1 x2 s1 else f_X6_addMember_c46 k1 x2 x3 s1 else none
def f_X6_addMember (k1 : Nat) (x2 : Int32) (x3 : Int64) (s0 : SS) : Option (Unit × SS) :=
  if zis Ox 7 k1 = true then if 0 ≤ (lg_cmp x3 (0 : Int64)) then if (s0.1 10 1) ≤ 0 then f_X6_addMember_c28 k1 x2 x3 s0 else zbd (f_X6_add (43 : Int32) s0) (fun _ s20 => f_X6_addMember_c28 k1 x2 x3 s20) else zbd (f_X6_add (45 : Int32) s0) (fun _ s23 => f_X6_addMember_c28 k1 x2 x3 s23) else none
def f_X7_become_c32  (k0 : Nat) (x2 : Int32) (x3 : Int32) (x4 : Int32) (t0 : Int32) (t1 : Int32) (kt2 : Nat) (s1 : SS) : Option (Unit × SS) :=
  if zis Ox 7 k0 = true then if zis Ox 7 kt2 = true then if zok Ox 0 (zrf Ox k0 3) 0 = true then if zok Ox 0 (zrf Ox k0 3) 1 = true then if zok Ox 0 (zrf Ox k0 3) 2 = true then zbd (f_J7_fill_53178 Ox (zrf Ox k0 4) (0 : Int32) (zS (zS (zS (zS s1 kt2 1 (t1 + t0)) (zrf Ox k0 3) ((0 : Int32)).toNatClampNeg x2) (zrf Ox k0 3) ((1 : Int32)).toNatClampNeg x3) (zrf Ox k0 3) ((2 : Int32)).toNatClampNeg x4)) (fun _ s5 => zbd (f_J7_fill_53178 Ox (zrf Ox k0 5) (0 : Int32) s5) (fun _ s8 => some ((), s8))) else none else none else none else none else none
def f_X7_become_c21  (k0 : Nat) (x2 : Int32) (x3 : Int32) (x4 : Int32) (t0 : Int32) (t1 : Int32) (kt2 : Nat) (s1 : SS) : Option (Unit × SS) :=
  if zis Ox 7 k0 = true then if zis Ox 7 kt2 = true then if x4 ≤ 0 then f_X7_become_c32 k0 x2 x3 x4 0 (t1 + t0) kt2 s1 else f_X7_become_c32 k0 x2 x3 x4 1 (t1 + t0) kt2 s1 else none else none
def f_X7_become (k0 : Nat) (x1 : Int32) (x2 : Int32) (x3 : Int32) (x4 : Int32) (s0 : SS) : Option (Unit × SS) :=
  if zis Ox 7 k0 = true then if x3 ≤ 0 then f_X7_become_c21 k0 x2 x3 x4 0 1 k0 (zS (zS s0 k0 0 x1) k0 2 0) else f_X7_become_c21 k0 x2 x3 x4 1 1 k0 (zS (zS s0 k0 0 x1) k0 2 0) else none
def f_X7_dimension (k0 : Nat) (s0 : SS) : Option (Int32 × SS) :=
  if zis Ox 7 k0 = true then if zok Ox 0 (zrf Ox k0 3) 0 = true then if zok Ox 0 (zrf Ox k0 3) 1 = true then if zok Ox 0 (zrf Ox k0 3) 2 = true then some ((((s0.1 (zrf Ox k0 3) ((0 : Int32)).toNatClampNeg) + (s0.1 (zrf Ox k0 3) ((1 : Int32)).toNatClampNeg)) + (s0.1 (zrf Ox k0 3) ((2 : Int32)).toNatClampNeg)), s0) else none else none else none else none
def f_X7_isBareProduct (k0 : Nat) (s0 : SS) : Option (Int32 × SS) :=
  if zis Ox 7 k0 = true then if (s0.1 k0 0) = 0 then if (s0.1 k0 2) = 0 then some (1, s0) else some (0, s0) else some (0, s0) else none
def f_X7_letterOf_c2  : Nat → Nat → Int32 → Int32 → SS → Option (Int32 × SS)
  | 0, _, _, _, _ => none
  | n + 1, k0, x1, x2, s1 => if zis Ox 7 k0 = true then zbd (f_X7_letterCount k0 s1) (fun r1 s2 => if r1 ≤ x2 then some ((-1), s2) else zbd (f_X7_signOf k0 x2 s2) (fun r4 s5 => if r4 = x1 then some (x2, s5) else (f_X7_letterOf_c2 n) k0 x1 (x2 + 1) s5)) else none
def f_X7_letterOf (k0 : Nat) (x1 : Int32) (s0 : SS) : Option (Int32 × SS) :=
  if zis Ox 7 k0 = true then f_X7_letterOf_c2 ZF k0 x1 0 s0 else none
def f_X7_eulerNumber_c61  : Nat → Nat → Int32 → Int32 → SS → Option (Int32 × SS)
  | 0, _, _, _, _ => none
  | n + 1, k0, x1, x2, s1 => if zis Ox 7 k0 = true then if (s1.1 k0 2) ≤ x2 then some (x1, s1) else if zia Ox 0 (zrf Ox k0 5) = true then if (nI (zlen Ox (zrf Ox k0 5))) ≤ x2 then some (x1, s1) else if zok Ox 0 (zrf Ox k0 5) x2 = true then (f_X7_eulerNumber_c61 n) k0 (x1 + ((2 : Int32) - ((2 : Int32) * (s1.1 (zrf Ox k0 5) (x2).toNatClampNeg)))) (x2 + 1) s1 else none else none else none
def f_X7_eulerNumber (k0 : Nat) (s0 : SS) : Option (Int32 × SS) :=
  if zis Ox 7 k0 = true then if (s0.1 k0 0) = 2 then some (12, s0) else if (s0.1 k0 0) = 0 then if zok Ox 0 (zrf Ox k0 3) 0 = true then if zok Ox 0 (zrf Ox k0 3) 1 = true then if zok Ox 0 (zrf Ox k0 3) 2 = true then zbd (f_X7_dimension k0 s0) (fun r8 s9 => some ((((((s0.1 (zrf Ox k0 3) ((0 : Int32)).toNatClampNeg) + (1 : Int32)) * ((s0.1 (zrf Ox k0 3) ((1 : Int32)).toNatClampNeg) + (1 : Int32))) * ((s0.1 (zrf Ox k0 3) ((2 : Int32)).toNatClampNeg) + (1 : Int32))) + ((r8 - (1 : Int32)) * (s9.1 k0 2))), s9)) else none else none else none else f_X7_eulerNumber_c61 ZF k0 4 0 s0 else none
def f_X7_canonicalAt_c54  (k0 : Nat) (s1 : SS) : Option (Int64 × SS) :=
  if zis Ox 7 k0 = true then if (s1.1 k0 0) = 0 then zbd (f_X7_dimension k0 s1) (fun r1 s2 => some (((r1).toInt64 - (1 : Int64)), s2)) else some (1, s1) else none
def f_X7_canonicalAt (k0 : Nat) (x1 : Int32) (s0 : SS) : Option (Int64 × SS) :=
  if zis Ox 7 k0 = true then if (s0.1 k0 0) = 2 then if x1 = 0 then some ((-6), s0) else some (2, s0) else if x1 < 0 then f_X7_canonicalAt_c54 k0 s0 else if (s0.1 k0 1) ≤ x1 then f_X7_canonicalAt_c54 k0 s0 else if zia Ox 0 (zrf Ox k0 3) = true then if (nI (zlen Ox (zrf Ox k0 3))) ≤ x1 then f_X7_canonicalAt_c54 k0 s0 else if zok Ox 0 (zrf Ox k0 3) x1 = true then some ((-(((s0.1 (zrf Ox k0 3) (x1).toNatClampNeg)).toInt64 + (1 : Int64))), s0) else none else none else none
def f_X7_worthByPoints_c10  : Nat → Nat → Nat → Int32 → Int32 → SS → Option (Int64 × SS)
  | 0, _, _, _, _, _ => none
  | n + 1, k0, k1, x2, x3, s1 => if zis Ox 7 k0 = true then if ((s1.1 k0 1) + (s1.1 k0 2)) ≤ x3 then some (0, s1) else if zia Ox 0 k1 = true then if (nI (zlen Ox k1)) ≤ x3 then some (0, s1) else if zok Ox 0 k1 x3 = true then if (s1.1 k1 (x3).toNatClampNeg) = x2 then if (x2 - x2 / (2 : Int32) * (2 : Int32)) = 0 then some ((-1), s1) else some (1, s1) else (f_X7_worthByPoints_c10 n) k0 k1 x2 (x3 + 1) s1 else none else none else none
def f_X7_worthByPoints (k0 : Nat) (k1 : Nat) (s0 : SS) : Option (Int64 × SS) :=
  if zis Ox 7 k0 = true then zbd (f_X7_dimension k0 s0) (fun r1 s2 => f_X7_worthByPoints_c10 ZF k0 k1 r1 (s2.1 k0 1) s2) else none
def f_X7_worthThrice (x0 : Int32) (x1 : Int32) (s0 : SS) : Option (Int64 × SS) :=
  some ((((2 : Int64) - ((2 : Int64) * (x1).toInt64)) - ((4 : Int64) * (x0).toInt64)), s0)
def f_X7_worthTwice (x0 : Int32) (s0 : SS) : Option (Int64 × SS) :=
  some ((-(x0).toInt64), s0)
def f_X7_worthByCurves_c68 (rc2 : Nat → Nat → Int32 → SS → Option (Int64 × SS)) (k0 : Nat) (k1 : Nat) (x2 : Int32) (s1 : SS) : Option (Int64 × SS) :=
  if zis Ox 7 k0 = true then rc2 k0 k1 (x2 + 1) s1 else none
def f_X7_worthByCurves_c2  : Nat → Nat → Nat → Int32 → SS → Option (Int64 × SS)
  | 0, _, _, _, _ => none
  | n + 1, k0, k1, x2, s1 => if zis Ox 7 k0 = true then if (s1.1 k0 2) ≤ x2 then some (0, s1) else if zia Ox 0 (zrf Ox k0 5) = true then if (nI (zlen Ox (zrf Ox k0 5))) ≤ x2 then some (0, s1) else if zok Ox 0 k1 ((1 : Int32) + x2) = true then if (s1.1 k1 (((1 : Int32) + x2)).toNatClampNeg) = 3 then if zok Ox 0 (zrf Ox k0 4) x2 = true then if zok Ox 0 (zrf Ox k0 5) x2 = true then zbd (f_X7_worthThrice ((s1.1 (zrf Ox k0 4) (x2).toNatClampNeg)) ((s1.1 (zrf Ox k0 5) (x2).toNatClampNeg)) s1) (fun r13 s14 => some (r13, s14)) else none else none else if (s1.1 k1 (((1 : Int32) + x2)).toNatClampNeg) = 2 then if zok Ox 0 k1 0 = true then if (s1.1 k1 ((0 : Int32)).toNatClampNeg) = 1 then if zok Ox 0 (zrf Ox k0 4) x2 = true then zbd (f_X7_worthTwice ((s1.1 (zrf Ox k0 4) (x2).toNatClampNeg)) s1) (fun r6 s7 => some (r6, s7)) else none else f_X7_worthByCurves_c68 (f_X7_worthByCurves_c2 n) k0 k1 x2 s1 else none else f_X7_worthByCurves_c68 (f_X7_worthByCurves_c2 n) k0 k1 x2 s1 else none else none else none
def f_X7_worthByCurves (k0 : Nat) (k1 : Nat) (s0 : SS) : Option (Int64 × SS) :=
  if zis Ox 7 k0 = true then f_X7_worthByCurves_c2 ZF k0 k1 0 s0 else none
def f_X7_worthByConics (x0 : Int32) (s0 : SS) : Option (Int64 × SS) :=
  if x0 = 3 then some (4, s0) else if x0 = 4 then some (18, s0) else if x0 = 5 then some (51, s0) else some (0, s0)
def f_X7_worthOf_c49  (k0 : Nat) (k1 : Nat) (x2 : Int32) (s1 : SS) : Option (Int64 × SS) :=
  if zis Ox 7 k0 = true then if x2 = 0 then if (s1.1 k0 0) = 0 then zbd (f_X7_worthByPoints k0 k1 s1) (fun r2 s3 => some (r2, s3)) else if (s1.1 k0 0) = 1 then zbd (f_X7_worthByCurves k0 k1 s1) (fun r6 s7 => some (r6, s7)) else if zok Ox 0 k1 1 = true then zbd (f_X7_worthByConics (s1.1 k1 ((1 : Int32)).toNatClampNeg) s1) (fun r10 s11 => some (r10, s11)) else none else some (1, s1) else none
def f_X7_worthOf_c42 (rc4 : Nat → Nat → Int32 → Int32 → SS → Option (Int64 × SS)) (k0 : Nat) (k1 : Nat) (x3 : Int32) (t0 : Int32) (s1 : SS) : Option (Int64 × SS) :=
  if zis Ox 7 k0 = true then rc4 k0 k1 t0 (x3 + 1) s1 else none
def f_X7_worthOf_c41 (rc4 : Nat → Nat → Int32 → Int32 → SS → Option (Int64 × SS)) (k0 : Nat) (k1 : Nat) (x3 : Int32) (s1 : SS) : Option (Int64 × SS) :=
  if zis Ox 7 k0 = true then f_X7_worthOf_c42 rc4 k0 k1 x3 0 s1 else none
def f_X7_worthOf_c4  : Nat → Nat → Nat → Int32 → Int32 → SS → Option (Int64 × SS)
  | 0, _, _, _, _, _ => none
  | n + 1, k0, k1, x2, x3, s1 => if zis Ox 7 k0 = true then if (s1.1 k0 1) ≤ x3 then f_X7_worthOf_c49 k0 k1 x2 s1 else if zia Ox 0 (zrf Ox k0 3) = true then if (nI (zlen Ox (zrf Ox k0 3))) ≤ x3 then f_X7_worthOf_c49 k0 k1 x2 s1 else if x2 = 0 then f_X7_worthOf_c41 (f_X7_worthOf_c4 n) k0 k1 x3 s1 else if zok Ox 0 k1 x3 = true then if zok Ox 0 (zrf Ox k0 3) x3 = true then if (s1.1 k1 (x3).toNatClampNeg) = (s1.1 (zrf Ox k0 3) (x3).toNatClampNeg) then f_X7_worthOf_c42 (f_X7_worthOf_c4 n) k0 k1 x3 1 s1 else f_X7_worthOf_c41 (f_X7_worthOf_c4 n) k0 k1 x3 s1 else none else none else none else none
def f_X7_worthOf (k0 : Nat) (k1 : Nat) (s0 : SS) : Option (Int64 × SS) :=
  if zis Ox 7 k0 = true then f_X7_worthOf_c4 ZF k0 k1 1 0 s0 else none
def f_X8_makeZero (k1 : Nat) (s0 : SS) : Option (Unit × SS) :=
  zbd (f_J7_fill_d0a16 Ox k1 (0 : Int64) s0) (fun _ s2 => some ((), s2))
def f_X8_makeOne (k1 : Nat) (s0 : SS) : Option (Unit × SS) :=
  zbd (f_J7_fill_d0a16 Ox k1 (0 : Int64) s0) (fun _ s2 => if (s2.1 6 2) ≤ 0 then some ((), s2) else if zok Ox 1 k1 (((s2.1 6 2) - (1 : Int32))) = true then some ((), (zSL s2 k1 (((s2.1 6 2) - (1 : Int32))).toNatClampNeg 1)) else none)
def f_X10_find_c19  : Nat → Int32 → Int32 → Int32 → Int32 → SS → Option (Int32 × SS)
  | 0, _, _, _, _, _ => none
  | n + 1, x2, x3, x4, x5, s1 => if (s1.1 6 1) ≤ x5 then if x2 = 0 then if (s1.1 6 2) ≤ x4 then some ((-1), s1) else some (x4, s1) else some ((-1), s1) else if 0 ≤ (x3 - (x2 - x2 / (10 : Int32) * (10 : Int32))) then if zin ((((6 : Int32) * ((s1.1 6 1) - x5)) + (x3 - (x2 - x2 / (10 : Int32) * (10 : Int32))))) 42 = true then (f_X10_find_c19 n) (x2 / (10 : Int32)) (x3 - (x2 - x2 / (10 : Int32) * (10 : Int32))) (x4 + (ztab 1 ((((6 : Int32) * ((s1.1 6 1) - x5)) + (x3 - (x2 - x2 / (10 : Int32) * (10 : Int32))))))) (x5 + 1) s1 else none else some ((-1), s1)
def f_X10_find (x1 : Int32) (s0 : SS) : Option (Int32 × SS) :=
  if 0 ≤ x1 then f_X10_find_c19 ZF x1 (s0.1 6 0) 0 0 s0 else some ((-1), s0)
def f_X8_putAtLetter_c31  (k1 : Nat) (x3 : Int64) (t0 : Int32) (s1 : SS) : Option (Unit × SS) :=
  if t0 < 0 then some ((), s1) else if zok Ox 1 k1 t0 = true then some ((), (zSL s1 k1 (t0).toNatClampNeg x3)) else none
def f_X8_putAtLetter_c15  (k1 : Nat) (x3 : Int64) (s1 : SS) : Option (Unit × SS) :=
  f_X8_putAtLetter_c31 k1 x3 (-1) s1
def f_X8_putAtLetter (k1 : Nat) (x2 : Int32) (x3 : Int64) (s0 : SS) : Option (Unit × SS) :=
  if x2 < 0 then f_X8_putAtLetter_c15 k1 x3 s0 else if x2 < (s0.1 6 1) then if zin x2 6 = true then zbd (f_X10_find (ztab 0 x2) s0) (fun r4 s5 => f_X8_putAtLetter_c31 k1 x3 r4 s5) else none else f_X8_putAtLetter_c15 k1 x3 s0
def f_X8_takeNumbers_c2  : Nat → Nat → Nat → Int32 → SS → Option (Unit × SS)
  | 0, _, _, _, _ => none
  | n + 1, k1, k2, x3, s1 => if zis Ox 4 k1 = true then if (s1.1 6 2) ≤ x3 then some ((), s1) else zbd (f_X4_numberAt k1 x3 s1) (fun r1 s2 => if zok Ox 1 k2 x3 = true then (f_X8_takeNumbers_c2 n) k1 k2 (x3 + 1) (zSL s2 k2 (x3).toNatClampNeg r1) else none) else none
def f_X8_takeNumbers (k1 : Nat) (k2 : Nat) (s0 : SS) : Option (Unit × SS) :=
  if zis Ox 4 k1 = true then f_X8_takeNumbers_c2 ZF k1 k2 0 s0 else none
def f_X8_addTimes_c3  : Nat → Nat → Nat → Int64 → Int32 → SS → Option (Unit × SS)
  | 0, _, _, _, _, _ => none
  | n + 1, k1, k2, x3, x5, s1 => if (s1.1 6 2) ≤ x5 then some ((), s1) else if zok Ox 1 k1 x5 = true then if zok Ox 1 k2 x5 = true then if zok Ox 1 k1 x5 = true then (f_X8_addTimes_c3 n) k1 k2 x3 (x5 + 1) (zSL s1 k1 (x5).toNatClampNeg (((s1.2 k1 (x5).toNatClampNeg) + ((s1.2 k2 (x5).toNatClampNeg) * x3)))) else none else none else none
def f_X8_addTimes (k1 : Nat) (k2 : Nat) (x3 : Int64) (s0 : SS) : Option (Unit × SS) :=
  f_X8_addTimes_c3 ZF k1 k2 x3 0 s0
def f_X8_keepSize_c35 (rc2 : Nat → Int32 → Int32 → SS → Option (Unit × SS)) (k1 : Nat) (x2 : Int32) (x3 : Int32) (t0 : Int64) (t1 : Int32) (kt2 : Nat) (s1 : SS) : Option (Unit × SS) :=
  if zok Ox 1 kt2 t1 = true then rc2 k1 x2 (x3 + 1) (zSL s1 kt2 (t1).toNatClampNeg t0) else none
def f_X8_keepSize_c2  : Nat → Nat → Int32 → Int32 → SS → Option (Unit × SS)
  | 0, _, _, _, _ => none
  | n + 1, k1, x2, x3, s1 => if (s1.1 6 2) ≤ x3 then some ((), s1) else if zin x3 462 = true then if (s1.1 63 (x3).toNatClampNeg) = x2 then if zok Ox 1 k1 x3 = true then f_X8_keepSize_c35 (f_X8_keepSize_c2 n) k1 x2 x3 (s1.2 k1 (x3).toNatClampNeg) x3 k1 s1 else none else f_X8_keepSize_c35 (f_X8_keepSize_c2 n) k1 x2 x3 0 x3 k1 s1 else none
def f_X8_keepSize (k1 : Nat) (x2 : Int32) (s0 : SS) : Option (Unit × SS) :=
  f_X8_keepSize_c2 ZF k1 x2 0 s0
def f_X8_hold_c49 (rc4 : Nat → Int32 → Int32 → SS → Option (Int32 × SS)) (k1 : Nat) (x2 : Int32) (x3 : Int32) (s1 : SS) : Option (Int32 × SS) :=
  rc4 k1 x2 (x3 + 1) s1
def f_X8_hold_c4  : Nat → Nat → Int32 → Int32 → SS → Option (Int32 × SS)
  | 0, _, _, _, _ => none
  | n + 1, k1, x2, x3, s1 => if (s1.1 6 2) ≤ x3 then some (x2, s1) else if zin x3 462 = true then if zok Ox 1 k1 (s1.1 66 (x3).toNatClampNeg) = true then if (lg_cmp (s1.2 k1 ((s1.1 66 (x3).toNatClampNeg)).toNatClampNeg) (0 : Int64)) = 0 then f_X8_hold_c49 (f_X8_hold_c4 n) k1 x2 x3 s1 else if zin x3 462 = true then if zin x2 462 = true then f_X8_hold_c49 (f_X8_hold_c4 n) k1 (x2 + 1) x3 (zS s1 26 (x2).toNatClampNeg (s1.1 66 (x3).toNatClampNeg)) else none else none else none else none
def f_X8_hold (k1 : Nat) (s0 : SS) : Option (Int32 × SS) :=
  f_X8_hold_c4 ZF k1 0 0 s0
def f_X8_addShifted_c114 (rc33 : Int64 → Nat → Int32 → Int32 → Int32 → Int32 → SS → Option (Unit × SS)) (x2 : Int64) (k4 : Nat) (x5 : Int32) (x6 : Int32) (x7 : Int32) (x8 : Int32) (s1 : SS) : Option (Unit × SS) :=
  rc33 x2 k4 x5 x6 x7 (x8 + 1) s1
def f_X8_addShifted_c33  : Nat → Int64 → Nat → Int32 → Int32 → Int32 → Int32 → SS → Option (Unit × SS)
  | 0, _, _, _, _, _, _, _ => none
  | n + 1, x2, k4, x5, x6, x7, x8, s1 => if x5 ≤ x8 then some ((), s1) else if zin x8 462 = true then if zin (s1.1 26 (x8).toNatClampNeg) 462 = true then if x6 < (s1.1 63 ((s1.1 26 (x8).toNatClampNeg)).toNatClampNeg) then some ((), s1) else if zin x8 462 = true then if zin (s1.1 26 (x8).toNatClampNeg) 462 = true then zbd (f_X10_find (x7 + (s1.1 62 ((s1.1 26 (x8).toNatClampNeg)).toNatClampNeg)) s1) (fun r7 s8 => if r7 < 0 then f_X8_addShifted_c114 (f_X8_addShifted_c33 n) x2 k4 x5 x6 x7 x8 s8 else if zin r7 462 = true then if zin x8 462 = true then if zok Ox 1 k4 (s8.1 26 (x8).toNatClampNeg) = true then if zin r7 462 = true then f_X8_addShifted_c114 (f_X8_addShifted_c33 n) x2 k4 x5 x6 x7 x8 (zSL s8 25 (r7).toNatClampNeg (((s8.2 25 (r7).toNatClampNeg) + (x2 * (s8.2 k4 ((s8.1 26 (x8).toNatClampNeg)).toNatClampNeg))))) else none else none else none else none) else none else none else none else none
def f_X8_addShifted (x1 : Int32) (x2 : Int64) (k4 : Nat) (x5 : Int32) (s0 : SS) : Option (Unit × SS) :=
  if zin x1 462 = true then if zin x1 462 = true then f_X8_addShifted_c33 ZF x2 k4 x5 ((s0.1 6 0) - (s0.1 63 (x1).toNatClampNeg)) (s0.1 62 (x1).toNatClampNeg) 0 s0 else none else none
def f_X8_multiply_c58 (rc25 : Nat → Nat → Int32 → Int32 → SS → Option (Unit × SS)) (k1 : Nat) (k2 : Nat) (x3 : Int32) (x4 : Int32) (s1 : SS) : Option (Unit × SS) :=
  rc25 k1 k2 x3 (x4 + 1) s1
def f_X8_multiply_c25  : Nat → Nat → Nat → Int32 → Int32 → SS → Option (Unit × SS)
  | 0, _, _, _, _, _ => none
  | n + 1, k1, k2, x3, x4, s1 => if (s1.1 6 2) ≤ x4 then if zok2 Ox 1 25 0 k1 0 (s1.1 6 2) = true then some ((), (zL s1 k1 (va_cpy (s1.2 25) (s1.2 k1) ((0 : Int32)).toNatClampNeg ((0 : Int32)).toNatClampNeg ((s1.1 6 2)).toNatClampNeg))) else none else if zok Ox 1 k1 x4 = true then if (lg_cmp (s1.2 k1 (x4).toNatClampNeg) (0 : Int64)) = 0 then f_X8_multiply_c58 (f_X8_multiply_c25 n) k1 k2 x3 x4 s1 else if zok Ox 1 k1 x4 = true then zbd (f_X8_addShifted x4 (s1.2 k1 (x4).toNatClampNeg) k2 x3 s1) (fun _ s11 => f_X8_multiply_c58 (f_X8_multiply_c25 n) k1 k2 x3 x4 s11) else none else none
def f_X8_multiply (k1 : Nat) (k2 : Nat) (s0 : SS) : Option (Unit × SS) :=
  zbd (f_X8_hold k2 s0) (fun r1 s2 => zbd (f_J7_fill_bad5a Ox 25 (0 : Int32) (s2.1 6 2) (0 : Int64) s2) (fun _ s5 => f_X8_multiply_c25 ZF k1 k2 r1 0 s5))
def f_X8_multiplyBy (k1 : Nat) (s0 : SS) : Option (Unit × SS) :=
  if zis Ox 4 k1 = true then zbd (f_X8_takeNumbers k1 22 s0) (fun _ s2 => zbd (f_X8_multiply 21 22 s2) (fun _ s5 => some ((), s5))) else none
def f_X8_makePower_c19  : Nat → Int32 → Int32 → SS → Option (Unit × SS)
  | 0, _, _, _ => none
  | n + 1, x2, x3, s1 => if x2 ≤ x3 then some ((), s1) else zbd (f_X8_multiply 21 22 s1) (fun _ s8 => (f_X8_makePower_c19 n) x2 (x3 + 1) s8)
def f_X8_makePower (k1 : Nat) (x2 : Int32) (s0 : SS) : Option (Unit × SS) :=
  if zis Ox 4 k1 = true then zbd (f_X8_makeOne 21 s0) (fun _ s2 => zbd (f_X8_takeNumbers k1 22 s2) (fun _ s5 => f_X8_makePower_c19 ZF x2 0 s5)) else none
def f_X8_metOf_c19  : Nat → Nat → Int64 → Int32 → SS → Option (Int64 × SS)
  | 0, _, _, _, _ => none
  | n + 1, k1, x2, x4, s1 => if (s1.1 6 2) ≤ x4 then some (x2, s1) else if zin x4 462 = true then if zok Ox 1 k1 (s1.1 66 (x4).toNatClampNeg) = true then if zin (s1.1 66 (x4).toNatClampNeg) 462 = true then (f_X8_metOf_c19 n) k1 (x2 + ((s1.2 k1 ((s1.1 66 (x4).toNatClampNeg)).toNatClampNeg) * (s1.2 64 ((s1.1 66 (x4).toNatClampNeg)).toNatClampNeg))) (x4 + 1) s1 else none else none else none
def f_X8_metOf (k1 : Nat) (s0 : SS) : Option (Int64 × SS) :=
  if zin (s0.1 6 0) 7 = true then f_X8_metOf_c19 ZF k1 0 (s0.1 67 ((s0.1 6 0)).toNatClampNeg) s0 else none
def f_X8_metWith_c127 (rc32 : Nat → Int32 → Int32 → Int64 → Int32 → SS → Option (Int64 × SS)) (k1 : Nat) (x2 : Int32) (x3 : Int32) (x4 : Int64) (x6 : Int32) (s1 : SS) : Option (Int64 × SS) :=
  rc32 k1 x2 x3 x4 (x6 + 1) s1
def f_X8_metWith_c100 (rc32 : Nat → Int32 → Int32 → Int64 → Int32 → SS → Option (Int64 × SS)) (k1 : Nat) (x2 : Int32) (x3 : Int32) (x4 : Int64) (x6 : Int32) (x7 : Int32) (t0 : Int32) (s1 : SS) : Option (Int64 × SS) :=
  if t0 < 0 then f_X8_metWith_c127 rc32 k1 x2 x3 x4 x6 s1 else if zok Ox 1 k1 x7 = true then if zin t0 462 = true then f_X8_metWith_c127 rc32 k1 x2 x3 (x4 + ((s1.2 k1 (x7).toNatClampNeg) * (s1.2 64 (t0).toNatClampNeg))) x6 s1 else none else none
def f_X8_metWith_c32  : Nat → Nat → Int32 → Int32 → Int64 → Int32 → SS → Option (Int64 × SS)
  | 0, _, _, _, _, _, _ => none
  | n + 1, k1, x2, x3, x4, x6, s1 => if zin (x3 + (1 : Int32)) 7 = true then if (s1.1 67 ((x3 + (1 : Int32))).toNatClampNeg) ≤ x6 then some (x4, s1) else if zin x6 462 = true then if zok Ox 1 k1 (s1.1 66 (x6).toNatClampNeg) = true then if (lg_cmp (s1.2 k1 ((s1.1 66 (x6).toNatClampNeg)).toNatClampNeg) (0 : Int64)) = 0 then f_X8_metWith_c100 (f_X8_metWith_c32 n) k1 x2 x3 x4 x6 (s1.1 66 (x6).toNatClampNeg) (-1) s1 else if zin x2 462 = true then if zin (s1.1 66 (x6).toNatClampNeg) 462 = true then zbd (f_X10_find (((s1.1 62 (x2).toNatClampNeg) + (s1.1 62 ((s1.1 66 (x6).toNatClampNeg)).toNatClampNeg))) s1) (fun r8 s9 => f_X8_metWith_c100 (f_X8_metWith_c32 n) k1 x2 x3 x4 x6 (s1.1 66 (x6).toNatClampNeg) r8 s9) else none else none else none else none else none
def f_X8_metWith (k1 : Nat) (x2 : Int32) (s0 : SS) : Option (Int64 × SS) :=
  if zin x2 462 = true then if zin (((s0.1 6 0) - (s0.1 63 (x2).toNatClampNeg))) 7 = true then f_X8_metWith_c32 ZF k1 x2 ((s0.1 6 0) - (s0.1 63 (x2).toNatClampNeg)) 0 (s0.1 67 (((s0.1 6 0) - (s0.1 63 (x2).toNatClampNeg))).toNatClampNeg) s0 else none else none
def f_X8_areLike_c2  : Nat → Nat → Nat → Int32 → SS → Option (Int32 × SS)
  | 0, _, _, _, _ => none
  | n + 1, k1, k2, x3, s1 => if (s1.1 6 2) ≤ x3 then some (1, s1) else zbd (f_X8_metWith k1 x3 s1) (fun r1 s2 => zbd (f_X8_metWith k2 x3 s2) (fun r4 s5 => if (lg_cmp r1 r4) = 0 then (f_X8_areLike_c2 n) k1 k2 (x3 + 1) s5 else some (0, s5)))
def f_X8_areLike (k1 : Nat) (k2 : Nat) (s0 : SS) : Option (Int32 × SS) :=
  f_X8_areLike_c2 ZF k1 k2 0 s0
def f_X8_makeCanonical_c7  : Nat → Nat → Nat → Int32 → SS → Option (Unit × SS)
  | 0, _, _, _, _ => none
  | n + 1, k1, k2, x3, s1 => if zis Ox 7 k1 = true then if (s1.1 6 1) ≤ x3 then some ((), s1) else zbd (f_X7_canonicalAt k1 x3 s1) (fun r4 s5 => zbd (f_X8_putAtLetter k2 x3 r4 s5) (fun _ s8 => (f_X8_makeCanonical_c7 n) k1 k2 (x3 + 1) s8)) else none
def f_X8_makeCanonical (k1 : Nat) (k2 : Nat) (s0 : SS) : Option (Unit × SS) :=
  if zis Ox 7 k1 = true then zbd (f_X8_makeZero k2 s0) (fun _ s2 => f_X8_makeCanonical_c7 ZF k1 k2 0 s2) else none
def f_X8_makeChern_c47 (rc10 : Nat → Int32 → SS → Option (Unit × SS)) : Nat → Nat → Int32 → Int32 → SS → Option (Unit × SS)
  | 0, _, _, _, _ => none
  | n + 1, k1, x2, x3, s1 => if zis Ox 7 k1 = true then if zok Ox 0 (zrf Ox k1 3) x2 = true then if (s1.1 (zrf Ox k1 3) (x2).toNatClampNeg) < x3 then rc10 k1 (x2 + 1) s1 else zbd (f_X8_multiply 23 24 s1) (fun _ s14 => (f_X8_makeChern_c47 rc10 n) k1 x2 (x3 + 1) s14) else none else none
def f_X8_makeChern_c10  : Nat → Nat → Int32 → SS → Option (Unit × SS)
  | 0, _, _, _ => none
  | n + 1, k1, x2, s1 => if zis Ox 7 k1 = true then if (s1.1 k1 1) ≤ x2 then some ((), s1) else if zia Ox 0 (zrf Ox k1 3) = true then if (nI (zlen Ox (zrf Ox k1 3))) ≤ x2 then some ((), s1) else zbd (f_X8_makeOne 24 s1) (fun _ s7 => zbd (f_X8_putAtLetter 24 x2 (1 : Int64) s7) (fun _ s10 => f_X8_makeChern_c47 (f_X8_makeChern_c10 n) ZF k1 x2 0 s10)) else none else none
def f_X8_makeChern (k1 : Nat) (s0 : SS) : Option (Unit × SS) :=
  if zis Ox 7 k1 = true then zbd (f_X8_makeOne 23 s0) (fun _ s2 => f_X8_makeChern_c10 ZF k1 0 s2) else none
def f_X8_divideChern_c27  : Nat → Nat → Int64 → Int32 → SS → Option (Unit × SS)
  | 0, _, _, _, _ => none
  | n + 1, k1, x2, x4, s1 => if (s1.1 6 0) < x4 then some ((), s1) else zbd (f_X8_multiply 24 k1 s1) (fun _ s3 => zbd (f_X8_addTimes 23 24 x2 s3) (fun _ s6 => (f_X8_divideChern_c27 n) k1 (-x2) (x4 + 1) s6))
def f_X8_divideChern (k1 : Nat) (s0 : SS) : Option (Unit × SS) :=
  if zok2 Ox 1 23 0 24 0 (s0.1 6 2) = true then f_X8_divideChern_c27 ZF k1 (-1) 1 (zL s0 24 (va_cpy (s0.2 23) (s0.2 24) ((0 : Int32)).toNatClampNeg ((0 : Int32)).toNatClampNeg ((s0.1 6 2)).toNatClampNeg)) else none
def f_X9_add (x1 : Int32) (s0 : SS) : Option (Int32 × SS) :=
  if (s0.1 8 1) < 80 then if zin (s0.1 8 1) 80 = true then some (1, (zS (zS s0 73 ((s0.1 8 1)).toNatClampNeg (vp_nar .char x1)) 8 1 (((zS s0 73 ((s0.1 8 1)).toNatClampNeg (vp_nar .char x1)).1 8 1) + (1 : Int32)))) else none else some (0, s0)
def f_X9_readPowers_c138 (rc11 : Nat → Int32 → Int32 → Int32 → Int32 → Int32 → SS → Option (Int32 × SS)) (k1 : Nat) (x2 : Int32) (x3 : Int32) (x4 : Int32) (x6 : Int32) (x7 : Int32) (x8 : Int32) (s1 : SS) : Option (Int32 × SS) :=
  if zis Ox 7 k1 = true then if zin x7 6 = true then rc11 k1 x2 (x3 + (x8 * (ztab 0 x7))) (x4 + x8) (x7 + (1 : Int32)) (x6 + 1) s1 else none else none
def f_X9_readPowers_c11  : Nat → Nat → Int32 → Int32 → Int32 → Int32 → Int32 → SS → Option (Int32 × SS)
  | 0, _, _, _, _, _, _, _ => none
  | n + 1, k1, x2, x3, x4, x5, x6, s1 => if zis Ox 7 k1 = true then if 6 ≤ x6 then some (x3, s1) else zbd (f_X9_signAt (s1.1 8 2) s1) (fun r1 s2 => zbd (f_X7_letterOf k1 r1 s2) (fun r4 s5 => if r4 < x5 then some (x3, s5) else if 6 ≤ r4 then some (x3, s5) else if x4 < x2 then zbd (f_X9_signAt (((zS s5 8 2 ((s5.1 8 2) + (1 : Int32))).1 8 2)) (zS s5 8 2 ((s5.1 8 2) + (1 : Int32)))) (fun r7 s8 => if r7 = 94 then zbd (f_X9_signAt (((zS s8 8 2 ((s8.1 8 2) + (1 : Int32))).1 8 2)) (zS s8 8 2 ((s8.1 8 2) + (1 : Int32)))) (fun r11 s12 => if (r11 - (48 : Int32)) < 1 then some ((-1), s12) else if 5 < (r11 - (48 : Int32)) then some ((-1), s12) else if (x4 + (r11 - (48 : Int32))) ≤ x2 then f_X9_readPowers_c138 (f_X9_readPowers_c11 n) k1 x2 x3 x4 x6 r4 (r11 - (48 : Int32)) (zS s12 8 2 ((s12.1 8 2) + (1 : Int32))) else some ((-1), s12)) else f_X9_readPowers_c138 (f_X9_readPowers_c11 n) k1 x2 x3 x4 x6 r4 1 s8) else some (x3, s5))) else none
def f_X9_readPowers (k1 : Nat) (x2 : Int32) (s0 : SS) : Option (Int32 × SS) :=
  if zis Ox 7 k1 = true then f_X9_readPowers_c11 ZF k1 x2 0 0 0 0 s0 else none
def f_X9_readMember_c140  (t0 : Int64) (t1 : Int64) (t2 : Int32) (kt3 : Nat) (s1 : SS) : Option (Int32 × SS) :=
  if zok Ox 1 kt3 t2 = true then some (1, (zSL s1 kt3 (t2).toNatClampNeg (t1 + t0))) else none
def f_X9_readMember_c82  (k1 : Nat) (x3 : Int32) (k4 : Nat) (x5 : Int32) (x6 : Int64) (s1 : SS) : Option (Int32 × SS) :=
  if zis Ox 7 k1 = true then zbd (f_X9_readPowers k1 (s1.1 6 0) s1) (fun r1 s2 => if r1 < 0 then some (0, s2) else if (s2.1 8 2) = x5 then some (0, s2) else zbd (f_X10_find r1 s2) (fun r4 s5 => if r4 < 0 then some (1, s5) else if zok Ox 1 k4 r4 = true then if x3 = 0 then f_X9_readMember_c140 x6 (s5.2 k4 (r4).toNatClampNeg) r4 k4 s5 else f_X9_readMember_c140 (-x6) (s5.2 k4 (r4).toNatClampNeg) r4 k4 s5 else none)) else none
def f_X9_readMember_c70  (k1 : Nat) (x3 : Int32) (k4 : Nat) (x5 : Int32) (x6 : Int64) (s1 : SS) : Option (Int32 × SS) :=
  if zis Ox 7 k1 = true then if (s1.1 8 2) = x5 then f_X9_readMember_c82 k1 x3 k4 x5 1 s1 else f_X9_readMember_c82 k1 x3 k4 x5 x6 s1 else none
def f_X9_readMember_c12  : Nat → Nat → Int32 → Nat → Int32 → Int64 → Int32 → SS → Option (Int32 × SS)
  | 0, _, _, _, _, _, _, _ => none
  | n + 1, k1, x3, k4, x5, x6, x8, s1 => if zis Ox 7 k1 = true then if 4 ≤ x8 then f_X9_readMember_c70 k1 x3 k4 x5 x6 s1 else zbd (f_X9_signAt (s1.1 8 2) s1) (fun r11 s12 => zbd (f_X9_isFigure r11 s12) (fun r14 s15 => if r14 = 0 then f_X9_readMember_c70 k1 x3 k4 x5 x6 s15 else zbd (f_X9_signAt (s15.1 8 2) s15) (fun r17 s18 => (f_X9_readMember_c12 n) k1 x3 k4 x5 (((x6 * (10 : Int64)) + (r17).toInt64) - (48 : Int64)) (x8 + 1) (zS s18 8 2 ((s18.1 8 2) + (1 : Int32)))))) else none
def f_X9_readMember (k1 : Nat) (x3 : Int32) (k4 : Nat) (s0 : SS) : Option (Int32 × SS) :=
  if zis Ox 7 k1 = true then f_X9_readMember_c12 ZF k1 x3 k4 (s0.1 8 2) 0 0 s0 else none
def f_X9_readClass_c112 (rc39 : Nat → Nat → Int32 → Int32 → SS → Option (Int32 × SS)) (k1 : Nat) (k3 : Nat) (x5 : Int32) (t0 : Int32) (s1 : SS) : Option (Int32 × SS) :=
  if zis Ox 7 k1 = true then rc39 k1 k3 t0 (x5 + 1) (zS s1 8 2 ((s1.1 8 2) + (1 : Int32))) else none
def f_X9_readClass_c100 (rc39 : Nat → Nat → Int32 → Int32 → SS → Option (Int32 × SS)) (k1 : Nat) (k3 : Nat) (x5 : Int32) (x6 : Int32) (s1 : SS) : Option (Int32 × SS) :=
  if zis Ox 7 k1 = true then if x6 = 45 then f_X9_readClass_c112 rc39 k1 k3 x5 1 s1 else f_X9_readClass_c112 rc39 k1 k3 x5 0 s1 else none
def f_X9_readClass_c39  : Nat → Nat → Nat → Int32 → Int32 → SS → Option (Int32 × SS)
  | 0, _, _, _, _, _ => none
  | n + 1, k1, k3, x4, x5, s1 => if zis Ox 7 k1 = true then if 80 < x5 then some ((s1.1 8 2), s1) else zbd (f_X9_readMember k1 x4 k3 s1) (fun r7 s8 => if r7 = 0 then some ((s8.1 8 2), s8) else zbd (f_X9_signAt (s8.1 8 2) s8) (fun r10 s11 => if r10 = (-1) then some ((-1), s11) else if r10 = 43 then f_X9_readClass_c100 (f_X9_readClass_c39 n) k1 k3 x5 r10 s11 else if r10 = 45 then f_X9_readClass_c100 (f_X9_readClass_c39 n) k1 k3 x5 r10 s11 else some ((s11.1 8 2), s11))) else none
def f_X9_readClass_c33  (k1 : Nat) (k3 : Nat) (x4 : Int32) (t0 : Int32) (s1 : SS) : Option (Int32 × SS) :=
  if zis Ox 7 k1 = true then f_X9_readClass_c39 ZF k1 k3 x4 0 (zS s1 8 2 t0) else none
def f_X9_readClass_c20  (k1 : Nat) (k3 : Nat) (t0 : Int32) (s1 : SS) : Option (Int32 × SS) :=
  if zis Ox 7 k1 = true then if t0 = 0 then f_X9_readClass_c33 k1 k3 t0 0 s1 else f_X9_readClass_c33 k1 k3 t0 1 s1 else none
def f_X9_readClass (k1 : Nat) (k3 : Nat) (s0 : SS) : Option (Int32 × SS) :=
  if zis Ox 7 k1 = true then zbd (f_J7_fill_d0a16 Ox k3 (0 : Int64) s0) (fun _ s2 => zbd (f_X9_signAt (0 : Int32) s2) (fun r4 s5 => if r4 = 45 then f_X9_readClass_c20 k1 k3 1 s5 else f_X9_readClass_c20 k1 k3 0 s5)) else none
def f_X10_addTerm_c152  (t0 : Int64) (t1 : Int32) (s1 : SS) : Option (Unit × SS) :=
  if zin t1 462 = true then some ((), (zS (zSL s1 64 (t1).toNatClampNeg t0) 6 2 (((zSL s1 64 (t1).toNatClampNeg t0).1 6 2) + (1 : Int32)))) else none
def f_X10_addTerm_c123  (k1 : Nat) (x3 : Int32) (t0 : Int32) (t1 : Int32) (s1 : SS) : Option (Unit × SS) :=
  if zis Ox 7 k1 = true then if zin t1 462 = true then if x3 = ((zS s1 65 (t1).toNatClampNeg (vp_nar .boolean t0)).1 6 0) then zbd (f_X7_worthOf k1 68 (zS s1 65 (t1).toNatClampNeg (vp_nar .boolean t0))) (fun r5 s6 => f_X10_addTerm_c152 r5 ((zS s1 65 (t1).toNatClampNeg (vp_nar .boolean t0)).1 6 2) s6) else f_X10_addTerm_c152 0 ((zS s1 65 (t1).toNatClampNeg (vp_nar .boolean t0)).1 6 2) (zS s1 65 (t1).toNatClampNeg (vp_nar .boolean t0)) else none else none
def f_X10_addTerm_c84  (k1 : Nat) (x2 : Int32) (x3 : Int32) (x4 : Int32) (s1 : SS) : Option (Unit × SS) :=
  if zis Ox 7 k1 = true then if zin (s1.1 6 2) 462 = true then if zin ((zS s1 62 ((s1.1 6 2)).toNatClampNeg x2).1 6 2) 462 = true then if x4 = x3 then f_X10_addTerm_c123 k1 x3 1 ((zS (zS s1 62 ((s1.1 6 2)).toNatClampNeg x2) 63 (((zS s1 62 ((s1.1 6 2)).toNatClampNeg x2).1 6 2)).toNatClampNeg x3).1 6 2) (zS (zS s1 62 ((s1.1 6 2)).toNatClampNeg x2) 63 (((zS s1 62 ((s1.1 6 2)).toNatClampNeg x2).1 6 2)).toNatClampNeg x3) else f_X10_addTerm_c123 k1 x3 0 ((zS (zS s1 62 ((s1.1 6 2)).toNatClampNeg x2) 63 (((zS s1 62 ((s1.1 6 2)).toNatClampNeg x2).1 6 2)).toNatClampNeg x3).1 6 2) (zS (zS s1 62 ((s1.1 6 2)).toNatClampNeg x2) 63 (((zS s1 62 ((s1.1 6 2)).toNatClampNeg x2).1 6 2)).toNatClampNeg x3) else none else none else none
def f_X10_addTerm_c75 (rc10 : Nat → Int32 → Int32 → Int32 → Int32 → SS → Option (Unit × SS)) (k1 : Nat) (x2 : Int32) (x3 : Int32) (x5 : Int32) (t0 : Int32) (t1 : Int32) (s1 : SS) : Option (Unit × SS) :=
  if zis Ox 7 k1 = true then rc10 k1 x2 x3 (t1 + t0) (x5 + 1) s1 else none
def f_X10_addTerm_c10  : Nat → Nat → Int32 → Int32 → Int32 → Int32 → SS → Option (Unit × SS)
  | 0, _, _, _, _, _, _ => none
  | n + 1, k1, x2, x3, x4, x5, s1 => if zis Ox 7 k1 = true then if (s1.1 6 1) ≤ x5 then f_X10_addTerm_c84 k1 x2 x3 x4 s1 else if 6 ≤ x5 then f_X10_addTerm_c84 k1 x2 x3 x4 s1 else if zin x5 6 = true then if zin x5 6 = true then if zin x5 6 = true then if (s1.1 k1 1) ≤ x5 then f_X10_addTerm_c75 (f_X10_addTerm_c10 n) k1 (x2 + ((s1.1 68 (x5).toNatClampNeg) * (ztab 0 x5))) (x3 + (s1.1 68 (x5).toNatClampNeg)) x5 0 x4 s1 else if zin x5 6 = true then f_X10_addTerm_c75 (f_X10_addTerm_c10 n) k1 (x2 + ((s1.1 68 (x5).toNatClampNeg) * (ztab 0 x5))) (x3 + (s1.1 68 (x5).toNatClampNeg)) x5 (s1.1 68 (x5).toNatClampNeg) x4 s1 else none else none else none else none else none
def f_X10_addTerm (k1 : Nat) (s0 : SS) : Option (Unit × SS) :=
  if zis Ox 7 k1 = true then f_X10_addTerm_c10 ZF k1 0 0 0 0 s0 else none
def f_X10_stepOn_c50  (x1 : Int32) (x2 : Int32) (s1 : SS) : Option (Int32 × SS) :=
  if 0 ≤ x1 then if zin x1 6 = true then if zin x1 6 = true then if ((zS s1 68 (x1).toNatClampNeg (((s1.1 68 (x1).toNatClampNeg) - (1 : Int32)))).1 6 1) ≤ (x1 + (1 : Int32)) then some (1, (zS s1 68 (x1).toNatClampNeg (((s1.1 68 (x1).toNatClampNeg) - (1 : Int32))))) else if 6 ≤ (x1 + (1 : Int32)) then some (1, (zS s1 68 (x1).toNatClampNeg (((s1.1 68 (x1).toNatClampNeg) - (1 : Int32))))) else if zin (x1 + (1 : Int32)) 6 = true then some (1, (zS (zS s1 68 (x1).toNatClampNeg (((s1.1 68 (x1).toNatClampNeg) - (1 : Int32)))) 68 ((x1 + (1 : Int32))).toNatClampNeg (((((zS s1 68 (x1).toNatClampNeg (((s1.1 68 (x1).toNatClampNeg) - (1 : Int32)))).1 6 0) - x2) + (1 : Int32))))) else none else none else none else some (0, s1)
def f_X10_stepOn_c43 (rc6 : Int32 → Int32 → Int32 → SS → Option (Int32 × SS)) (x2 : Int32) (x3 : Int32) (t0 : Int32) (s1 : SS) : Option (Int32 × SS) :=
  rc6 t0 x2 (x3 + 1) s1
def f_X10_stepOn_c6  : Nat → Int32 → Int32 → Int32 → SS → Option (Int32 × SS)
  | 0, _, _, _, _ => none
  | n + 1, x1, x2, x3, s1 => if (s1.1 6 1) ≤ x3 then f_X10_stepOn_c50 x1 x2 s1 else if 6 ≤ x3 then f_X10_stepOn_c50 x1 x2 s1 else if zin x3 6 = true then if zin x3 6 = true then if (s1.1 68 (x3).toNatClampNeg) ≤ 0 then f_X10_stepOn_c43 (f_X10_stepOn_c6 n) (x2 + (s1.1 68 (x3).toNatClampNeg)) x3 x1 s1 else f_X10_stepOn_c43 (f_X10_stepOn_c6 n) (x2 + (s1.1 68 (x3).toNatClampNeg)) x3 x3 s1 else none else none
def f_X10_stepOn  (s0 : SS) : Option (Int32 × SS) :=
  f_X10_stepOn_c6 ZF (-1) 0 0 s0
def f_X10_orderBySize_c46 (rc18 : Int32 → Int32 → Int32 → SS → Option (Unit × SS)) (rc4 : Int32 → Int32 → SS → Option (Unit × SS)) (x1 : Int32) (x2 : Int32) (x3 : Int32) (s1 : SS) : Option (Unit × SS) :=
  rc18 x1 x2 (x3 + 1) s1
def f_X10_orderBySize_c18 (rc4 : Int32 → Int32 → SS → Option (Unit × SS)) : Nat → Int32 → Int32 → Int32 → SS → Option (Unit × SS)
  | 0, _, _, _, _ => none
  | n + 1, x1, x2, x3, s1 => if (s1.1 6 2) ≤ x3 then rc4 x1 (x2 + 1) s1 else if zin x3 462 = true then if (s1.1 63 (x3).toNatClampNeg) = x2 then if zin x1 462 = true then f_X10_orderBySize_c46 (f_X10_orderBySize_c18 rc4 n) rc4 (x1 + 1) x2 x3 (zS s1 66 (x1).toNatClampNeg x3) else none else f_X10_orderBySize_c46 (f_X10_orderBySize_c18 rc4 n) rc4 x1 x2 x3 s1 else none
def f_X10_orderBySize_c4  : Nat → Int32 → Int32 → SS → Option (Unit × SS)
  | 0, _, _, _ => none
  | n + 1, x1, x2, s1 => if 5 < x2 then if zin 6 7 = true then some ((), (zS s1 67 ((6 : Int32)).toNatClampNeg x1)) else none else if zin x2 7 = true then f_X10_orderBySize_c18 (f_X10_orderBySize_c4 n) ZF x1 x2 0 (zS s1 67 (x2).toNatClampNeg x1) else none
def f_X10_orderBySize  (s0 : SS) : Option (Unit × SS) :=
  f_X10_orderBySize_c4 ZF 0 0 s0
def f_X10_layOut_c70   (s1 : SS) : Option (Unit × SS) :=
  zbd (f_X10_orderBySize s1) (fun _ s12 => some ((), s12))
def f_X10_layOut_c43  : Nat → Nat → Int32 → Int32 → SS → Option (Unit × SS)
  | 0, _, _, _, _ => none
  | n + 1, k1, x2, x3, s1 => if zis Ox 7 k1 = true then if 462 ≤ x3 then f_X10_layOut_c70  s1 else if x2 = 0 then f_X10_layOut_c70  s1 else zbd (f_X10_addTerm k1 s1) (fun _ s15 => zbd (f_X10_stepOn s15) (fun r17 s18 => (f_X10_layOut_c43 n) k1 r17 (x3 + 1) s18)) else none
def f_X10_layOut (k1 : Nat) (s0 : SS) : Option (Unit × SS) :=
  if zis Ox 7 k1 = true then zbd (f_X7_dimension k1 s0) (fun r1 s2 => zbd (f_X7_letterCount k1 (zS s2 6 0 r1)) (fun r4 s5 => zbd (f_J7_fill_53178 Ox 68 (0 : Int32) (zS (zS s5 6 1 r4) 6 2 0)) (fun _ s8 => if zin 0 6 = true then f_X10_layOut_c43 ZF k1 1 0 (zS s8 68 ((0 : Int32)).toNatClampNeg (s8.1 6 0)) else none))) else none
def f_X11_makeAnew (x1 : Int32) (x2 : Int32) (x3 : Int32) (x4 : Int32) (s0 : SS) : Option (Int32 × SS) :=
  zbd (f_X7_become 3 x1 x2 x3 x4 s0) (fun _ s2 => zbd (f_X10_layOut 3 (zS s2 1 2 0)) (fun _ s5 => zbd (f_X1_forget s5) (fun _ s8 => zbd (f_X7_dimension 3 s8) (fun r10 s11 => some (r10, s11)))))
def f_X11_product_c30  (x1 : Int32) (x2 : Int32) (t0 : Int32) (s1 : SS) : Option (Int32 × SS) :=
  if t0 < 0 then some ((-1), s1) else if 5 < t0 then some ((-1), s1) else if ((x1 + x2) + t0) ≤ 5 then zbd (f_X11_makeAnew (0 : Int32) x1 x2 t0 s1) (fun r1 s2 => some (r1, s2)) else some ((-1), s1)
def f_X11_product (x1 : Int32) (x2 : Int32) (x3 : Int32) (s0 : SS) : Option (Int32 × SS) :=
  if x1 < 1 then some ((-1), s0) else if 5 < x1 then some ((-1), s0) else if x2 < 0 then some ((-1), s0) else if x2 ≤ 5 then if x2 = 0 then f_X11_product_c30 x1 x2 0 s0 else f_X11_product_c30 x1 x2 x3 s0 else some ((-1), s0)
def f_X11_takeOneLetterMore_c46  : Nat → Int32 → Int32 → SS → Option (Unit × SS)
  | 0, _, _, _ => none
  | n + 1, x1, x2, s1 => if (s1.1 1 2) ≤ x2 then zbd (f_X1_forget s1) (fun _ s5 => some ((), s5)) else if zok Ox 4 13 x2 = true then if zis Ox 4 (zrr Ox 13 x2) = true then zbd (f_X4_widen (zrr Ox 13 x2) x1 s1) (fun _ s11 => (f_X11_takeOneLetterMore_c46 n) x1 (x2 + 1) s11) else none else none
def f_X11_takeOneLetterMore  (s0 : SS) : Option (Unit × SS) :=
  zbd (f_X10_layOut 3 (zS s0 3 2 ((s0.1 3 2) + (1 : Int32)))) (fun _ s2 => f_X11_takeOneLetterMore_c46 ZF (s0.1 6 2) 0 s2)
def f_X11_blow  (s0 : SS) : Option (Int32 × SS) :=
  if (s0.1 3 0) = 0 then if (s0.1 3 2) < 3 then zbd (f_X11_takeOneLetterMore s0) (fun _ s2 => some ((s2.1 3 2), s2)) else some ((-3), s0) else some ((-5), s0)
def f_X11_curved  (s0 : SS) : Option (Int32 × SS) :=
  zbd (f_X11_makeAnew (1 : Int32) (3 : Int32) (0 : Int32) (0 : Int32) s0) (fun r1 s2 => some (r1, s2))
def f_X11_curve (x1 : Int32) (x2 : Int32) (s0 : SS) : Option (Int32 × SS) :=
  if (s0.1 3 0) = 1 then if x1 < 1 then some ((-1), s0) else if 9 < x1 then some ((-1), s0) else if x2 < 0 then some ((-1), s0) else if x2 ≤ 9 then if (s0.1 3 2) < 3 then if zin (s0.1 3 2) 3 = true then if zin (s0.1 3 2) 3 = true then zbd (f_X11_takeOneLetterMore (zS (zS s0 16 ((s0.1 3 2)).toNatClampNeg x1) 17 ((s0.1 3 2)).toNatClampNeg x2)) (fun _ s4 => some ((s0.1 3 2), s4)) else none else none else some ((-3), s0) else some ((-1), s0) else some ((-5), s0)
def f_X11_conics  (s0 : SS) : Option (Int32 × SS) :=
  zbd (f_X11_makeAnew (2 : Int32) (5 : Int32) (0 : Int32) (0 : Int32) s0) (fun r1 s2 => some (r1, s2))
def f_X11_space (x1 : Int32) (s0 : SS) : Option (Int32 × SS) :=
  if x1 = 0 then some ((s0.1 3 0), s0) else if x1 = 1 then zbd (f_X7_dimension 3 s0) (fun r3 s4 => some (r3, s4)) else if x1 = 2 then zbd (f_X7_letterCount 3 s0) (fun r7 s8 => some (r7, s8)) else if x1 = 3 then zbd (f_X7_eulerNumber 3 s0) (fun r11 s12 => some (r11, s12)) else if x1 = 4 then some ((s0.1 3 2), s0) else if x1 = 5 then some ((s0.1 6 2), s0) else some ((-1), s0)
def f_X11_worth (x1 : Int32) (s0 : SS) : Option (Int64 × SS) :=
  zbd (f_X10_find x1 s0) (fun r1 s2 => if 0 ≤ r1 then if zin r1 462 = true then some ((s2.2 64 (r1).toNatClampNeg), s2) else none else some ((-9223372036854775808), s2))
def f_X11_term (x1 : Int32) (s0 : SS) : Option (Int32 × SS) :=
  if 0 ≤ x1 then if (s0.1 6 2) ≤ x1 then some ((-2), s0) else if zin x1 462 = true then some ((s0.1 62 (x1).toNatClampNeg), s0) else none else some ((-1), s0)
def f_X11_set_c42  (x1 : Int32) (x2 : Int32) (x3 : Int32) (k4 : Nat) (t0 : Int32) (t1 : Int32) (s1 : SS) : Option (Int32 × SS) :=
  if zis Ox 4 k4 = true then if t1 ≤ t0 then zbd (f_X4_become k4 x2 x3 s1) (fun r6 s7 => if r6 = x3 then some (r6, s7) else zbd (f_X1_remember x1 x2 r6 x3 s7) (fun _ s10 => some (r6, s10))) else some ((-1), s1) else none
def f_X11_set (x1 : Int32) (x2 : Int32) (x3 : Int32) (s0 : SS) : Option (Int32 × SS) :=
  zbd (f_X3_classAt 1 ((x1).toInt64) s0) (fun r1 s2 => zbn r1 (some ((-1), s2)) (fun k4 => if zis Ox 4 k4 = true then if x2 < 0 then some ((-1), s2) else if x2 ≤ 1 then if x3 < 0 then some ((-1), s2) else if x2 = 0 then f_X11_set_c42 x1 x2 x3 k4 5 x3 s2 else f_X11_set_c42 x1 x2 x3 k4 9 x3 s2 else some ((-1), s2) else none))
def f_X11_tell (x1 : Int32) (x2 : Int32) (x3 : Int64) (s0 : SS) : Option (Int32 × SS) :=
  zbd (f_X3_classAt 1 ((x1).toInt64) s0) (fun r1 s2 => zbn r1 (zbd (f_X10_find x2 s2) (fun r6 s7 => some ((-1), s7))) (fun k4 => if zis Ox 4 k4 = true then zbd (f_X10_find x2 s2) (fun r9 s10 => if 0 ≤ r9 then if zok Ox 1 (zrf Ox k4 2) r9 = true then some (1, (zSL s10 (zrf Ox k4 2) (r9).toNatClampNeg x3)) else none else some ((-1), s10)) else none))
def f_X11_of (x1 : Int32) (x2 : Int32) (s0 : SS) : Option (Int32 × SS) :=
  zbd (f_X3_classAt 1 ((x1).toInt64) s0) (fun r1 s2 => zbn r1 (some ((-1), s2)) (fun k4 => if zis Ox 4 k4 = true then if x2 = 0 then some ((s2.1 k4 0), s2) else if x2 = 1 then some ((s2.1 k4 1), s2) else if x2 = 2 then zbd (f_X4_shown k4 s2) (fun r9 s10 => some (r9, s10)) else if x2 = 3 then zbd (f_X4_greatestSize k4 s2) (fun r13 s14 => some (r13, s14)) else if x2 = 4 then zbd (f_X4_leastSize k4 s2) (fun r17 s18 => some (r17, s18)) else some ((-1), s2) else none))
def f_X11_number (x1 : Int32) (x2 : Int32) (s0 : SS) : Option (Int64 × SS) :=
  zbd (f_X3_classAt 1 ((x1).toInt64) s0) (fun r1 s2 => zbn r1 (zbd (f_X10_find x2 s2) (fun r6 s7 => some ((-9223372036854775808), s7))) (fun k4 => if zis Ox 4 k4 = true then zbd (f_X10_find x2 s2) (fun r9 s10 => if 0 ≤ r9 then zbd (f_X4_numberAt k4 r9 s10) (fun r12 s13 => some (r12, s13)) else some ((-9223372036854775808), s10)) else none))
def f_X11_drop  (s0 : SS) : Option (Int32 × SS) :=
  if (s0.1 1 2) = 0 then some ((-5), s0) else zbd (f_X1_forget (zS s0 1 2 ((s0.1 1 2) - (1 : Int32)))) (fun _ s2 => some ((s2.1 1 2), s2))
def f_X11_bringAll  (s0 : SS) : Option (Unit × SS) :=
  zbd (f_X3_bring 1 s0) (fun r1 s2 => zbn r1 (some ((), s2)) (fun k4 => if zis Ox 4 k4 = true then if zok2 Ox 1 21 0 (zrf Ox k4 2) 0 (s2.1 6 2) = true then some ((), (zL s2 (zrf Ox k4 2) (va_cpy (s2.2 21) (s2.2 (zrf Ox k4 2)) ((0 : Int32)).toNatClampNeg ((0 : Int32)).toNatClampNeg ((s2.1 6 2)).toNatClampNeg))) else none else none))
def f_X11_canonical  (s0 : SS) : Option (Int32 × SS) :=
  if (s0.1 1 2) < 8 then zbd (f_X8_makeCanonical 3 21 s0) (fun _ s2 => zbd (f_X11_bringAll s2) (fun _ s5 => zbd (f_X1_forget s5) (fun _ s8 => some (((s8.1 1 2) - (1 : Int32)), s8)))) else some ((-3), s0)
def f_X11_met (x1 : Int32) (s0 : SS) : Option (Int64 × SS) :=
  zbd (f_X3_classAt 1 ((x1).toInt64) s0) (fun r1 s2 => zbn r1 (some ((-9223372036854775808), s2)) (fun k4 => if zis Ox 4 k4 = true then zbd (f_X8_takeNumbers k4 21 s2) (fun _ s7 => zbd (f_X8_metOf 21 s7) (fun r9 s10 => some (r9, s10))) else none))
def f_X11_meets (x1 : Int32) (x2 : Int32) (s0 : SS) : Option (Int64 × SS) :=
  zbd (f_X3_classAt 1 ((x1).toInt64) s0) (fun r1 s2 => zbn r1 (zbd (f_X3_classAt 1 ((x2).toInt64) s2) (fun r6 s7 => zbn r6 (some ((-9223372036854775808), s7)) (fun k9 => if zis Ox 4 k9 = true then some ((-9223372036854775808), s7) else none))) (fun k4 => if zis Ox 4 k4 = true then zbd (f_X3_classAt 1 ((x2).toInt64) s2) (fun r11 s12 => zbn r11 (some ((-9223372036854775808), s12)) (fun k14 => if zis Ox 4 k14 = true then zbd (f_X8_takeNumbers k4 21 s12) (fun _ s17 => zbd (f_X8_multiplyBy k14 s17) (fun _ s20 => zbd (f_X8_metOf 21 s20) (fun r22 s23 => some (r22, s23)))) else none)) else none))
def f_X11_multiplyListed_c16  : Nat → Int32 → Int32 → SS → Option (Int32 × SS)
  | 0, _, _, _ => none
  | n + 1, x1, x2, s1 => zbd (f_X5_sizeOf x1 s1) (fun r4 s5 => if r4 ≤ x2 then some (1, s5) else zbd (f_X5_valueAt x1 x2 s5) (fun r7 s8 => zbd (f_X3_classAt 1 r7 s8) (fun r10 s11 => zbn r10 (some (0, s11)) (fun k13 => if zis Ox 4 k13 = true then zbd (f_X8_multiplyBy k13 s11) (fun _ s16 => (f_X11_multiplyListed_c16 n) x1 (x2 + 1) s16) else none))))
def f_X11_multiplyListed (x1 : Int32) (s0 : SS) : Option (Int32 × SS) :=
  zbd (f_X8_makeOne 21 s0) (fun _ s2 => f_X11_multiplyListed_c16 ZF x1 0 s2)
def f_X11_meetsAll (x1 : Int32) (s0 : SS) : Option (Int64 × SS) :=
  zbd (f_X5_isThere x1 s0) (fun r1 s2 => if r1 = 0 then some ((-9223372036854775808), s2) else zbd (f_X11_multiplyListed x1 s2) (fun r4 s5 => if r4 = 0 then some ((-9223372036854775807), s5) else zbd (f_X8_metOf 21 s5) (fun r7 s8 => some (r7, s8))))
def f_X11_self (x1 : Int32) (x2 : Int32) (s0 : SS) : Option (Int64 × SS) :=
  zbd (f_X3_classAt 1 ((x1).toInt64) s0) (fun r1 s2 => zbn r1 (some ((-9223372036854775808), s2)) (fun k4 => if zis Ox 4 k4 = true then if x2 < 0 then some ((-9223372036854775808), s2) else if x2 ≤ 6 then zbd (f_X8_makePower k4 x2 s2) (fun _ s7 => zbd (f_X8_metOf 21 s7) (fun r9 s10 => some (r9, s10))) else some ((-9223372036854775808), s2) else none))
def f_X11_like (x1 : Int32) (x2 : Int32) (s0 : SS) : Option (Int32 × SS) :=
  zbd (f_X3_classAt 1 ((x1).toInt64) s0) (fun r1 s2 => zbn r1 (zbd (f_X3_classAt 1 ((x2).toInt64) s2) (fun r6 s7 => zbn r6 (some ((-1), s7)) (fun k9 => if zis Ox 4 k9 = true then some ((-1), s7) else none))) (fun k4 => if zis Ox 4 k4 = true then zbd (f_X3_classAt 1 ((x2).toInt64) s2) (fun r11 s12 => zbn r11 (some ((-1), s12)) (fun k14 => if zis Ox 4 k14 = true then zbd (f_X8_takeNumbers k4 21 s12) (fun _ s17 => zbd (f_X8_takeNumbers k14 22 s17) (fun _ s20 => zbd (f_X8_areLike 21 22 s20) (fun r22 s23 => if r22 = 0 then some (0, s23) else some (1, s23)))) else none)) else none))
def f_X11_chern (x1 : Int32) (s0 : SS) : Option (Int64 × SS) :=
  zbd (f_X10_find x1 s0) (fun r1 s2 => if 0 ≤ r1 then zbd (f_X7_isBareProduct 3 s2) (fun r4 s5 => if r4 = 0 then some ((-9223372036854775807), s5) else zbd (f_X8_makeChern 3 s5) (fun _ s8 => if zin r1 462 = true then some ((s8.2 23 (r1).toNatClampNeg), s8) else none)) else some ((-9223372036854775808), s2))
def f_X11_canCutOut_c25  : Nat → Int32 → Int32 → SS → Option (Int32 × SS)
  | 0, _, _, _ => none
  | n + 1, x1, x2, s1 => zbd (f_X5_sizeOf x1 s1) (fun r7 s8 => if r7 ≤ x2 then some (1, s8) else zbd (f_X5_valueAt x1 x2 s8) (fun r10 s11 => zbd (f_X3_classAt 1 r10 s11) (fun r13 s14 => zbn r13 (some (0, s14)) (fun k16 => if zis Ox 4 k16 = true then zbd (f_X4_isOfSizeOne k16 s14) (fun r18 s19 => if r18 = 0 then some (0, s19) else (f_X11_canCutOut_c25 n) x1 (x2 + 1) s19) else none))))
def f_X11_canCutOut (x1 : Int32) (s0 : SS) : Option (Int32 × SS) :=
  zbd (f_X5_sizeOf x1 s0) (fun r1 s2 => zbd (f_X7_dimension 3 s2) (fun r4 s5 => if r1 ≤ r4 then f_X11_canCutOut_c25 ZF x1 0 s5 else some (0, s5)))
def f_X11_canonicalOfCut_c35  : Nat → Int32 → Int32 → SS → Option (Int64 × SS)
  | 0, _, _, _ => none
  | n + 1, x2, x3, s1 => if x2 ≤ x3 then zbd (f_X8_metOf 21 s1) (fun r7 s8 => some (r7, s8)) else zbd (f_X8_multiply 21 22 s1) (fun _ s11 => (f_X11_canonicalOfCut_c35 n) x2 (x3 + 1) s11)
def f_X11_canonicalOfCut (x1 : Int32) (x2 : Int32) (s0 : SS) : Option (Int64 × SS) :=
  zbd (f_X11_multiplyListed x1 s0) (fun r1 s2 => if r1 = 0 then some ((-9223372036854775807), s2) else zbd (f_X8_makeCanonical 3 22 s2) (fun _ s5 => f_X11_canonicalOfCut_c35 ZF x2 0 s5))
def f_X11_eulerOfCut_c93 (rc28 : Int32 → Int32 → Int32 → SS → Option (Int64 × SS)) (x1 : Int32) (x2 : Int32) (x3 : Int32) (s1 : SS) : Option (Int64 × SS) :=
  rc28 x1 x2 (x3 + 1) s1
def f_X11_eulerOfCut_c28  : Nat → Int32 → Int32 → Int32 → SS → Option (Int64 × SS)
  | 0, _, _, _, _ => none
  | n + 1, x1, x2, x3, s1 => zbd (f_X5_sizeOf x1 s1) (fun r7 s8 => if r7 ≤ x3 then zbd (f_X8_keepSize 23 x2 s8) (fun _ s11 => zbd (f_X8_multiply 21 23 s11) (fun _ s14 => zbd (f_X8_metOf 21 s14) (fun r16 s17 => some (r16, s17)))) else zbd (f_X5_valueAt x1 x3 s8) (fun r19 s20 => zbd (f_X3_classAt 1 r19 s20) (fun r22 s23 => zbn r22 (f_X11_eulerOfCut_c93 (f_X11_eulerOfCut_c28 n) x1 x2 x3 s23) (fun k25 => if zis Ox 4 k25 = true then zbd (f_X8_takeNumbers k25 22 s23) (fun _ s28 => zbd (f_X8_divideChern 22 s28) (fun _ s31 => f_X11_eulerOfCut_c93 (f_X11_eulerOfCut_c28 n) x1 x2 x3 s31)) else none))))
def f_X11_eulerOfCut (x1 : Int32) (x2 : Int32) (s0 : SS) : Option (Int64 × SS) :=
  zbd (f_X11_multiplyListed x1 s0) (fun r1 s2 => if r1 = 0 then some ((-9223372036854775807), s2) else zbd (f_X8_makeChern 3 s2) (fun _ s5 => f_X11_eulerOfCut_c28 ZF x1 x2 0 s5))
def f_X11_cutOut (x1 : Int32) (x2 : Int32) (s0 : SS) : Option (Int64 × SS) :=
  if x2 < 0 then some ((-9223372036854775808), s0) else if 3 < x2 then some ((-9223372036854775808), s0) else zbd (f_X5_isThere x1 s0) (fun r1 s2 => if r1 = 0 then some ((-9223372036854775808), s2) else zbd (f_X7_isBareProduct 3 s2) (fun r4 s5 => if r4 = 0 then some ((-9223372036854775807), s5) else zbd (f_X11_canCutOut x1 s5) (fun r7 s8 => if r7 = 0 then some ((-9223372036854775807), s8) else zbd (f_X7_dimension 3 s8) (fun r10 s11 => zbd (f_X5_sizeOf x1 s11) (fun r13 s14 => if x2 = 0 then some (((r10 - r13)).toInt64, s14) else if x2 = 1 then zbd (f_X11_canonicalOfCut x1 (r10 - r13) s14) (fun r18 s19 => some (r18, s19)) else if x2 = 2 then zbd (f_X11_eulerOfCut x1 (r10 - r13) s14) (fun r22 s23 => some (r22, s23)) else if (r10 - r13) = 1 then zbd (f_X11_eulerOfCut x1 (r10 - r13) s14) (fun r25 s26 => some (((1 : Int64) - (r25 / (2 : Int64))), s26)) else some ((-9223372036854775807), s14))))))
def f_X11_multiplyConditions_c50  : Nat → Int32 → Int32 → SS → Option (Unit × SS)
  | 0, _, _, _ => none
  | n + 1, x1, x6, s1 => if x1 ≤ x6 then some ((), s1) else zbd (f_X8_multiply 21 22 s1) (fun _ s11 => (f_X11_multiplyConditions_c50 n) x1 (x6 + 1) s11)
def f_X11_multiplyConditions (x1 : Int32) (x2 : Int64) (x4 : Int64) (s0 : SS) : Option (Unit × SS) :=
  zbd (f_X8_makeZero 22 s0) (fun _ s2 => zbd (f_X8_putAtLetter 22 (0 : Int32) x2 s2) (fun _ s5 => zbd (f_X8_putAtLetter 22 (1 : Int32) x4 s5) (fun _ s8 => f_X11_multiplyConditions_c50 ZF x1 0 s8)))
def f_X11_through_c181  : Nat → Int32 → Int32 → Int32 → SS → Option (Int64 × SS)
  | 0, _, _, _, _ => none
  | n + 1, x3, x4, x5, s1 => if x4 ≤ (x5 + (1 : Int32)) then zbd (f_X8_metOf 21 s1) (fun r13 s14 => some (r13, s14)) else zbd (f_X5_valueAt x3 x5 s1) (fun r16 s17 => zbd (f_X5_valueAt x3 (x5 + (1 : Int32)) s17) (fun r19 s20 => zbd (f_X11_multiplyConditions (1 : Int32) (r19 + ((2 : Int64) * r16)) (-r16) s20) (fun _ s23 => (f_X11_through_c181 n) x3 x4 (x5 + 2) s23)))
def f_X11_through_c101  : Nat → Int32 → Int32 → Int32 → Int32 → Int32 → SS → Option (Int64 × SS)
  | 0, _, _, _, _, _, _ => none
  | n + 1, x1, x2, x3, x4, x5, s1 => if x4 ≤ x5 then zbd (f_X8_makeOne 21 s1) (fun _ s5 => zbd (f_X11_multiplyConditions x1 (1 : Int64) (0 : Int64) s5) (fun _ s8 => zbd (f_X11_multiplyConditions x2 (2 : Int64) (-1 : Int64) s8) (fun _ s11 => f_X11_through_c181 ZF x3 x4 0 s11))) else zbd (f_X5_valueAt x3 x5 s1) (fun r25 s26 => if (lg_cmp r25 (0 : Int64)) < 0 then some ((-9223372036854775807), s26) else if (lg_cmp r25 (99 : Int64)) ≤ 0 then (f_X11_through_c101 n) x1 x2 x3 x4 (x5 + 1) s26 else some ((-9223372036854775807), s26))
def f_X11_through_c59  (x1 : Int32) (x2 : Int32) (x3 : Int32) (t0 : Int32) (s1 : SS) : Option (Int64 × SS) :=
  if (s1.1 3 0) = 2 then if (t0 - t0 / (2 : Int32) * (2 : Int32)) = 0 then if ((x1 + x2) + (t0 / (2 : Int32))) = 5 then f_X11_through_c101 ZF x1 x2 x3 t0 0 s1 else some ((-9223372036854775807), s1) else some ((-9223372036854775807), s1) else some ((-9223372036854775807), s1)
def f_X11_through_c42  (x1 : Int32) (x2 : Int32) (x3 : Int32) (s1 : SS) : Option (Int64 × SS) :=
  if x3 = (-1) then f_X11_through_c59 x1 x2 x3 0 s1 else zbd (f_X5_sizeOf x3 s1) (fun r1 s2 => f_X11_through_c59 x1 x2 x3 r1 s2)
def f_X11_through (x1 : Int32) (x2 : Int32) (x3 : Int32) (s0 : SS) : Option (Int64 × SS) :=
  if x1 < 0 then some ((-9223372036854775808), s0) else if 5 < x1 then some ((-9223372036854775808), s0) else if x2 < 0 then some ((-9223372036854775808), s0) else if x2 ≤ 5 then if x3 = (-1) then f_X11_through_c42 x1 x2 x3 s0 else zbd (f_X5_isThere x3 s0) (fun r28 s29 => if r28 = 0 then some ((-9223372036854775808), s29) else f_X11_through_c42 x1 x2 x3 s29) else some ((-9223372036854775808), s0)
def f_X11_numberOfCode (k1 : Nat) (x2 : Int32) (s0 : SS) : Option (Int64 × SS) :=
  if zis Ox 4 k1 = true then zbd (f_X10_find x2 s0) (fun r1 s2 => if 0 ≤ r1 then zbd (f_X4_numberAt k1 r1 s2) (fun r4 s5 => some (r4, s5)) else some (0, s2)) else none
def f_X11_countFits_c73 (rc20 : Int64 → Int64 → Int64 → Int32 → Int32 → Int32 → Int32 → Int32 → SS → Option (Int32 × SS)) (rc10 : Int64 → Int64 → Int64 → Int32 → Int32 → Int32 → Int32 → SS → Option (Int32 × SS)) (x0 : Int64) (x2 : Int64) (x4 : Int64) (x6 : Int32) (x7 : Int32) (x8 : Int32) (x9 : Int32) (x10 : Int32) (s1 : SS) : Option (Int32 × SS) :=
  rc20 x0 x2 x4 x6 x7 x8 x9 (x10 + 1) s1
def f_X11_countFits_c68 (rc20 : Int64 → Int64 → Int64 → Int32 → Int32 → Int32 → Int32 → Int32 → SS → Option (Int32 × SS)) (rc10 : Int64 → Int64 → Int64 → Int32 → Int32 → Int32 → Int32 → SS → Option (Int32 × SS)) (x0 : Int64) (x2 : Int64) (x4 : Int64) (x6 : Int32) (x7 : Int32) (x9 : Int32) (x10 : Int32) (t0 : Int32) (s1 : SS) : Option (Int32 × SS) :=
  f_X11_countFits_c73 rc20 rc10 x0 x2 x4 x6 (x7 + 1) t0 x9 x10 s1
def f_X11_countFits_c20 (rc10 : Int64 → Int64 → Int64 → Int32 → Int32 → Int32 → Int32 → SS → Option (Int32 × SS)) : Nat → Int64 → Int64 → Int64 → Int32 → Int32 → Int32 → Int32 → Int32 → SS → Option (Int32 × SS)
  | 0, _, _, _, _, _, _, _, _, _ => none
  | n + 1, x0, x2, x4, x6, x7, x8, x9, x10, s1 => if 9 < x10 then rc10 x0 x2 x4 x6 x7 x8 (x9 + 1) s1 else zbd (f_X7_worthTwice x9 s1) (fun r1 s2 => zbd (f_X7_worthThrice x9 x10 s2) (fun r4 s5 => if (lg_cmp ((x0 * r1) + (x2 * r4)) x4) = 0 then if x7 = 0 then f_X11_countFits_c68 (f_X11_countFits_c20 rc10 n) rc10 x0 x2 x4 x6 x7 x9 x10 (((10 : Int32) * x9) + x10) s5 else f_X11_countFits_c68 (f_X11_countFits_c20 rc10 n) rc10 x0 x2 x4 x6 x7 x9 x10 x8 s5 else f_X11_countFits_c73 (f_X11_countFits_c20 rc10 n) rc10 x0 x2 x4 x6 x7 x8 x9 x10 s5))
def f_X11_countFits_c10  : Nat → Int64 → Int64 → Int64 → Int32 → Int32 → Int32 → Int32 → SS → Option (Int32 × SS)
  | 0, _, _, _, _, _, _, _, _ => none
  | n + 1, x0, x2, x4, x6, x7, x8, x9, s1 => if 9 < x9 then if x6 = 0 then some (x7, s1) else some (x8, s1) else f_X11_countFits_c20 (f_X11_countFits_c10 n) ZF x0 x2 x4 x6 x7 x8 x9 0 s1
def f_X11_countFits (x0 : Int64) (x2 : Int64) (x4 : Int64) (x6 : Int32) (s0 : SS) : Option (Int32 × SS) :=
  f_X11_countFits_c10 ZF x0 x2 x4 x6 0 (-2) 1 s0
def f_X11_fits (x1 : Int32) (x2 : Int32) (x3 : Int64) (x5 : Int32) (s0 : SS) : Option (Int32 × SS) :=
  zbd (f_X3_classAt 1 ((x1).toInt64) s0) (fun r1 s2 => zbn r1 (some ((-1), s2)) (fun k4 => if zis Ox 4 k4 = true then if (s2.1 3 0) = 1 then if x2 < 0 then some ((-1), s2) else if (s2.1 3 2) ≤ x2 then some ((-1), s2) else if x5 < 0 then some ((-1), s2) else if x5 ≤ 1 then if zin ((1 : Int32) + x2) 6 = true then zbd (f_X11_numberOfCode k4 (((1 : Int32) + ((2 : Int32) * (ztab 0 ((1 : Int32) + x2))))) s2) (fun r7 s8 => zbd (f_X11_numberOfCode k4 (((3 : Int32) * (ztab 0 ((1 : Int32) + x2)))) s8) (fun r10 s11 => if zin x2 3 = true then if zin x2 3 = true then zbd (f_X8_takeNumbers k4 21 s11) (fun _ s16 => zbd (f_X8_metOf 21 s16) (fun r18 s19 => zbd (f_X7_worthTwice (s11.1 16 (x2).toNatClampNeg) s19) (fun r21 s22 => zbd (f_X7_worthThrice (s11.1 16 (x2).toNatClampNeg) (s11.1 17 (x2).toNatClampNeg) s22) (fun r24 s25 => zbd (f_X11_countFits r7 r10 ((x3 - ((r18 - (r7 * r21)) - (r10 * r24)))) x5 s25) (fun r27 s28 => some (r27, s28)))))) else none else none)) else none else some ((-1), s2) else some ((-5), s2) else none))
def f_X11_judge_c112  (x2 : Int32) (s1 : SS) : Option (Int32 × SS) :=
  if (s1.1 1 2) ≤ x2 then some ((-2), s1) else some (((100 : Int32) + x2), s1)
def f_X11_judge_c38  : Nat → Int32 → Int32 → Int32 → SS → Option (Int32 × SS)
  | 0, _, _, _, _ => none
  | n + 1, x1, x2, x3, s1 => if x2 ≤ x3 then f_X11_judge_c112 x2 s1 else if (s1.1 1 2) ≤ x3 then f_X11_judge_c112 x2 s1 else if zok Ox 4 13 x3 = true then if zis Ox 4 (zrr Ox 13 x3) = true then zbd (f_X8_takeNumbers (zrr Ox 13 x3) 21 s1) (fun _ s14 => zbd (f_X8_metOf 21 s14) (fun r16 s17 => zbd (f_X5_valueAt x1 x3 s17) (fun r19 s20 => if (lg_cmp r16 r19) = 0 then (f_X11_judge_c38 n) x1 x2 (x3 + 1) s20 else some (x3, s20)))) else none else none
def f_X11_judge (x1 : Int32) (s0 : SS) : Option (Int32 × SS) :=
  zbd (f_X5_isOne x1 s0) (fun r1 s2 => if r1 = 0 then some ((-1), s2) else zbd (f_X5_isThere x1 s2) (fun r4 s5 => if r4 = 0 then some ((-11), s5) else zbd (f_X5_sizeOf x1 s5) (fun r7 s8 => f_X11_judge_c38 ZF x1 r7 0 s8)))
def f_X11_lots_c176 (rc50 : Int32 → Int32 → Int32 → Int64 → Int64 → Int32 → SS → Option (Int64 × SS)) (x1 : Int32) (x3 : Int32) (x4 : Int32) (x5 : Int64) (x9 : Int32) (t0 : Int64) (t1 : Int64) (s1 : SS) : Option (Int64 × SS) :=
  rc50 x1 x3 x4 x5 (t1 + t0) (x9 + 1) s1
def f_X11_lots_c73 (rc50 : Int32 → Int32 → Int32 → Int64 → Int64 → Int32 → SS → Option (Int64 × SS)) : Nat → Int32 → Int32 → Int32 → Int64 → Int64 → Int32 → Int32 → SS → Option (Int64 × SS)
  | 0, _, _, _, _, _, _, _, _ => none
  | n + 1, x1, x3, x4, x5, x7, x9, x10, s1 => zbd (f_X7_dimension 3 s1) (fun r4 s5 => if r4 ≤ x10 then zbd (f_X8_metOf 21 s5) (fun r7 s8 => if (lg_cmp r7 (0 : Int64)) = 0 then f_X11_lots_c176 rc50 x1 x3 x4 (x5 + r7) x9 1 x7 s8 else f_X11_lots_c176 rc50 x1 x3 x4 (x5 + r7) x9 0 x7 s8) else if (s5.1 1 2) = 0 then none else if zok Ox 4 13 ((((((x4 * (1103515245 : Int32)) + (12345 : Int32)) &&& (2147483647 : Int32)) / (65536 : Int32)) - ((((x4 * (1103515245 : Int32)) + (12345 : Int32)) &&& (2147483647 : Int32)) / (65536 : Int32)) / (s5.1 1 2) * (s5.1 1 2))) = true then if zis Ox 4 (zrr Ox 13 ((((((x4 * (1103515245 : Int32)) + (12345 : Int32)) &&& (2147483647 : Int32)) / (65536 : Int32)) - ((((x4 * (1103515245 : Int32)) + (12345 : Int32)) &&& (2147483647 : Int32)) / (65536 : Int32)) / (s5.1 1 2) * (s5.1 1 2)))) = true then zbd (f_X8_multiplyBy ((zrr Ox 13 ((((((x4 * (1103515245 : Int32)) + (12345 : Int32)) &&& (2147483647 : Int32)) / (65536 : Int32)) - ((((x4 * (1103515245 : Int32)) + (12345 : Int32)) &&& (2147483647 : Int32)) / (65536 : Int32)) / (s5.1 1 2) * (s5.1 1 2))))) s5) (fun _ s15 => (f_X11_lots_c73 rc50 n) x1 x3 ((x4 * (1103515245 : Int32)) + (12345 : Int32)) x5 x7 x9 (x10 + 1) s15) else none else none)
def f_X11_lots_c50  : Nat → Int32 → Int32 → Int32 → Int64 → Int64 → Int32 → SS → Option (Int64 × SS)
  | 0, _, _, _, _, _, _, _ => none
  | n + 1, x1, x3, x4, x5, x7, x9, s1 => if x1 ≤ x9 then if x3 = 0 then some (x5, s1) else some (x7, s1) else zbd (f_X8_makeOne 21 s1) (fun _ s2 => f_X11_lots_c73 (f_X11_lots_c50 n) ZF x1 x3 x4 x5 x7 x9 0 s2)
def f_X11_lots (x1 : Int32) (x2 : Int32) (x3 : Int32) (s0 : SS) : Option (Int64 × SS) :=
  if x1 < 1 then some ((-9223372036854775808), s0) else if 50 < x1 then some ((-9223372036854775808), s0) else if x3 < 0 then some ((-9223372036854775808), s0) else if x3 ≤ 1 then if (s0.1 1 2) = 0 then some ((-9223372036854775807), s0) else f_X11_lots_c50 ZF x1 x3 x2 0 0 0 s0 else some ((-9223372036854775808), s0)
def f_X11_feed (x1 : Int32) (s0 : SS) : Option (Int32 × SS) :=
  if x1 < 32 then some ((-1), s0) else if x1 ≤ 126 then zbd (f_X9_add (((x1).toUInt32 % 65536).toInt32) s0) (fun r1 s2 => if r1 = 0 then some ((-3), s2) else some ((s2.1 8 1), s2)) else some ((-1), s0)
def f_X11_wipe  (s0 : SS) : Option (Int32 × SS) :=
  some ((s0.1 8 1), (zS s0 8 1 0))
def f_X11_read  (s0 : SS) : Option (Int32 × SS) :=
  zbd (f_X9_readClass 3 21 s0) (fun r1 s2 => if r1 = (-1) then if ((zS s2 8 1 0).1 1 2) < 8 then zbd (f_X11_bringAll (zS s2 8 1 0)) (fun _ s5 => zbd (f_X1_forget s5) (fun _ s8 => some (((s8.1 1 2) - (1 : Int32)), s8))) else some ((-3), (zS s2 8 1 0)) else some (((-100 : Int32) - r1), (zS s2 8 1 0)))
def f_X11_canDo_c36  (x3 : Int32) (s1 : SS) : Option (Int32 × SS) :=
  if 6 < x3 then some (0, s1) else some (1, s1)
def f_X11_canDo (x1 : Int32) (x2 : Int32) (x3 : Int32) (s0 : SS) : Option (Int32 × SS) :=
  if 8 ≤ (s0.1 1 2) then some (0, s0) else zbd (f_X3_classAt 1 ((x2).toInt64) s0) (fun r1 s2 => zbn r1 (some (0, s2)) (fun k4 => if zis Ox 4 k4 = true then if x1 = 3 then f_X11_canDo_c36 x3 s2 else if x1 = 4 then f_X11_canDo_c36 x3 s2 else zbd (f_X3_classAt 1 ((x3).toInt64) s2) (fun r6 s7 => zbn r6 (some (0, s7)) (fun k9 => if zis Ox 4 k9 = true then some (1, s7) else none)) else none))
def f_X11_doOne_c141   (s1 : SS) : Option (Unit × SS) :=
  zbd (f_X11_bringAll s1) (fun _ s10 => some ((), s10))
def f_X11_doOne_c88  (x1 : Int32) (s1 : SS) : Option (Unit × SS) :=
  f_X11_doOne_c141  s1
def f_X11_doOne_c138  (t0 : Int64) (s1 : SS) : Option (Unit × SS) :=
  zbd (f_X8_addTimes 21 22 t0 s1) (fun _ s25 => f_X11_doOne_c141  s25)
def f_X11_doOne_c88v1  (x1 : Int32) (k4 : Nat) (s1 : SS) : Option (Unit × SS) :=
  if zis Ox 4 k4 = true then zbd (f_X8_takeNumbers k4 22 s1) (fun _ s22 => if x1 = 0 then f_X11_doOne_c138 1 s22 else f_X11_doOne_c138 (-1) s22) else none
def f_X11_doOne (x1 : Int32) (k2 : Nat) (x3 : Int32) (s0 : SS) : Option (Unit × SS) :=
  if zis Ox 4 k2 = true then zbd (f_X3_classAt 1 ((x3).toInt64) s0) (fun r1 s2 => zbn r1 (zbd (f_X8_takeNumbers k2 21 s2) (fun _ s7 => if x1 = 3 then zbd (f_X8_makePower k2 x3 s7) (fun _ s16 => f_X11_doOne_c141  s16) else if x1 = 4 then zbd (f_X8_keepSize 21 x3 s7) (fun _ s13 => f_X11_doOne_c141  s13) else f_X11_doOne_c88 x1 s7)) (fun k4 => if zis Ox 4 k4 = true then zbd (f_X8_takeNumbers k2 21 s2) (fun _ s19 => if x1 = 3 then zbd (f_X8_makePower k2 x3 s19) (fun _ s34 => f_X11_doOne_c141  s34) else if x1 = 4 then zbd (f_X8_keepSize 21 x3 s19) (fun _ s31 => f_X11_doOne_c141  s31) else if x1 = 1 then zbd (f_X8_multiplyBy k4 s19) (fun _ s28 => f_X11_doOne_c141  s28) else f_X11_doOne_c88v1 x1 k4 s19) else none)) else none
def f_X11_acts_c40  : Nat → Int32 → Int32 → SS → Option (Int32 × SS)
  | 0, _, _, _ => none
  | n + 1, x2, x3, s1 => if (s1.1 9 3) ≤ x3 then zbd (f_X1_forget s1) (fun _ s5 => some ((s5.1 9 3), s5)) else if zin x3 12 = true then if zin x3 12 = true then if zin x3 12 = true then zbd (f_X11_canDo (s1.1 74 (x3).toNatClampNeg) (s1.1 75 (x3).toNatClampNeg) (s1.1 76 (x3).toNatClampNeg) s1) (fun r10 s11 => if r10 = 0 then some (((-200 : Int32) - x3), (zS s11 1 2 x2)) else if zin x3 12 = true then if zin x3 12 = true then if zok Ox 4 13 (s11.1 75 (x3).toNatClampNeg) = true then if zis Ox 4 (zrr Ox 13 (s11.1 75 (x3).toNatClampNeg)) = true then if zin x3 12 = true then zbd (f_X11_doOne (s11.1 74 (x3).toNatClampNeg) (zrr Ox 13 (s11.1 75 (x3).toNatClampNeg)) (s11.1 76 (x3).toNatClampNeg) s11) (fun _ s20 => (f_X11_acts_c40 n) x2 (x3 + 1) s20) else none else none else none else none else none) else none else none else none
def f_X11_acts  (s0 : SS) : Option (Int32 × SS) :=
  zbd (f_X2_readFrom s0) (fun r1 s2 => if r1 = (-1) then f_X11_acts_c40 ZF ((zS s2 8 1 0).1 1 2) 0 (zS s2 8 1 0) else some (((-100 : Int32) - r1), (zS s2 8 1 0)))
def f_X11_write_c104 (rc41 : Int32 → SS → Option (Int32 × SS)) (x3 : Int32) (s1 : SS) : Option (Int32 × SS) :=
  rc41 (x3 + 1) s1
def f_X11_write_c41  : Nat → Int32 → SS → Option (Int32 × SS)
  | 0, _, _ => none
  | n + 1, x3, s1 => if (s1.1 6 2) ≤ x3 then if (s1.1 10 1) = 0 then zbd (f_X6_add (48 : Int32) s1) (fun _ s10 => some ((s10.1 10 1), s10)) else some ((s1.1 10 1), s1) else if zin x3 462 = true then if (lg_cmp (s1.2 21 (x3).toNatClampNeg) (0 : Int64)) = 0 then f_X11_write_c104 (f_X11_write_c41 n) x3 s1 else if zin x3 462 = true then if zin x3 462 = true then zbd (f_X6_addMember 3 (s1.1 62 (x3).toNatClampNeg) (s1.2 21 (x3).toNatClampNeg) s1) (fun _ s16 => f_X11_write_c104 (f_X11_write_c41 n) x3 s16) else none else none else none
def f_X11_write (x1 : Int32) (s0 : SS) : Option (Int32 × SS) :=
  zbd (f_X3_classAt 1 ((x1).toInt64) s0) (fun r1 s2 => zbn r1 (some ((-1), s2)) (fun k4 => if zis Ox 4 k4 = true then zbd (f_X8_takeNumbers k4 21 s2) (fun _ s7 => f_X11_write_c41 ZF 0 (zS s7 10 1 0)) else none))
def f_X11_paper (x1 : Int32) (s0 : SS) : Option (Int32 × SS) :=
  if x1 < 0 then some ((-2), s0) else zbd (f_X6_kept s0) (fun r1 s2 => if x1 < r1 then if zin x1 200 = true then some ((s2.1 80 (x1).toNatClampNeg), s2) else none else some ((-2), s2))
def f_X11_list_c64  (t0 : Int32) (t1 : Int32) (t2 : Int32) (s1 : SS) : Option (Int32 × SS) :=
  zbd (f_X5_become t2 t1 t0 s1) (fun _ s5 => some (1, s5))
def f_X11_list_c48  (x1 : Int32) (x2 : Int32) (x3 : Int32) (s1 : SS) : Option (Int32 × SS) :=
  if x2 = (-1) then f_X11_list_c64 0 x2 x1 s1 else f_X11_list_c64 x3 x2 x1 s1
def f_X11_list_c36  (x1 : Int32) (x2 : Int32) (x3 : Int32) (s1 : SS) : Option (Int32 × SS) :=
  if x2 = (-1) then f_X11_list_c48 x1 x2 x3 s1 else if 0 ≤ x3 then f_X11_list_c48 x1 x2 x3 s1 else some ((-14), s1)
def f_X11_list (x1 : Int32) (x2 : Int32) (x3 : Int32) (s0 : SS) : Option (Int32 × SS) :=
  zbd (f_X5_isOne x1 s0) (fun r1 s2 => if r1 = 0 then some ((-1), s2) else if x2 < (-1) then some ((-1), s2) else if x2 ≤ 1 then if x2 = (-1) then f_X11_list_c36 x1 x2 x3 s2 else if x3 ≤ 20 then f_X11_list_c36 x1 x2 x3 s2 else some ((-1), s2) else some ((-1), s2))
def f_X11_put (x1 : Int32) (x2 : Int32) (x3 : Int64) (s0 : SS) : Option (Int32 × SS) :=
  zbd (f_X5_isOne x1 s0) (fun r1 s2 => if r1 = 0 then some ((-1), s2) else zbd (f_X5_isThere x1 s2) (fun r4 s5 => if r4 = 0 then some ((-11), s5) else zbd (f_X5_hasPlace x1 x2 s5) (fun r7 s8 => if r7 = 0 then some ((-13), s8) else zbd (f_X5_place x1 x2 x3 s8) (fun _ s11 => some (1, s11)))))
def f_X11_get (x1 : Int32) (x2 : Int32) (s0 : SS) : Option (Int64 × SS) :=
  zbd (f_X5_isThere x1 s0) (fun r1 s2 => if r1 = 0 then some ((-9223372036854775808), s2) else zbd (f_X5_hasPlace x1 x2 s2) (fun r4 s5 => if r4 = 0 then some ((-9223372036854775808), s5) else zbd (f_X5_valueAt x1 x2 s5) (fun r7 s8 => some (r7, s8))))
def f_X11_copy (x1 : Int32) (x2 : Int32) (x3 : Int32) (x4 : Int32) (x5 : Int32) (s0 : SS) : Option (Int32 × SS) :=
  zbd (f_X5_isOne x1 s0) (fun r1 s2 => if r1 = 0 then some ((-1), s2) else zbd (f_X5_isOne x3 s2) (fun r4 s5 => if r4 = 0 then some ((-1), s5) else zbd (f_X5_isThere x1 s5) (fun r7 s8 => if r7 = 0 then some ((-11), s8) else zbd (f_X5_isThere x3 s8) (fun r10 s11 => if r10 = 0 then some ((-11), s11) else if zin x1 3 = true then if zin x3 3 = true then if (s11.1 27 (x1).toNatClampNeg) = (s11.1 27 (x3).toNatClampNeg) then zbd (f_X5_hasRoom x1 x2 x5 s11) (fun r15 s16 => if r15 = 0 then some ((-13), s16) else zbd (f_X5_hasRoom x3 x4 x5 s16) (fun r18 s19 => if r18 = 0 then some ((-13), s19) else if zok Ox 5 29 x1 = true then if zok Ox 5 29 x3 = true then if zok2 Ox 1 (zrr Ox 29 x1) x2 (zrr Ox 29 x3) x4 x5 = true then some (x5, (zL s19 (zrr Ox 29 x3) (va_cpy (s19.2 (zrr Ox 29 x1)) (s19.2 (zrr Ox 29 x3)) (x2).toNatClampNeg (x4).toNatClampNeg (x5).toNatClampNeg))) else none else none else none)) else some ((-12), s11) else none else none))))
def f_X11_act (x1 : Int32) (x2 : Int32) (x3 : Int32) (s0 : SS) : Option (Int32 × SS) :=
  zbd (f_X3_classAt 1 ((x1).toInt64) s0) (fun r1 s2 => zbn r1 (some (0, s2)) (fun k4 => if zis Ox 4 k4 = true then if x2 < 0 then some (0, s2) else if x2 ≤ 2 then zbd (f_X0_begin k4 x1 x2 x3 s2) (fun r6 s7 => some (r6, s7)) else some (0, s2) else none))
def f_X11_trace (x1 : Int32) (s0 : SS) : Option (Int32 × SS) :=
  if x1 < 0 then some ((-2), s0) else if x1 < (s0.1 12 1) then if zin x1 24 = true then some ((s0.1 82 (x1).toNatClampNeg), s0) else none else some ((-2), s0)
def f_X11_taken (x1 : Int32) (x2 : Int32) (s0 : SS) : Option (Int32 × SS) :=
  zbd (f_X3_classAt 1 ((x1).toInt64) s0) (fun r1 s2 => zbn r1 (some ((-1), s2)) (fun k4 => if zis Ox 4 k4 = true then if x2 < 0 then some ((-1), s2) else if x2 ≤ 5 then zbd (f_X4_isUnder k4 x2 s2) (fun r6 s7 => if r6 = 0 then some ((-5), s7) else if x2 < 2 then some (x1, s7) else if 4 < x2 then some (x1, s7) else some ((s7.1 k4 1), s7)) else some ((-1), s2) else none))
def f_X11_tellChange (x1 : Int32) (k2 : Nat) (s0 : SS) : Option (Unit × SS) :=
  if x1 < 0 then some ((), s0) else if zia Ox 0 k2 = true then if x1 < (nI (zlen Ox k2)) then if zin x1 12 = true then zbd (f_X3_classAt 1 (((s0.1 69 (x1).toNatClampNeg)).toInt64) s0) (fun r4 s5 => zbn r4 (some ((), s5)) (fun k7 => if zis Ox 4 k7 = true then if zin x1 12 = true then if zok Ox 0 k2 x1 = true then zbd (f_X4_become k7 (s5.1 70 (x1).toNatClampNeg) (s5.1 k2 (x1).toNatClampNeg) s5) (fun r11 s12 => some ((), s12)) else none else none else none)) else none else some ((), s0) else none
def f_X11_undo  (s0 : SS) : Option (Int32 × SS) :=
  if (s0.1 7 4) = 0 then some ((-5), s0) else zbd (f_X11_tellChange (((zS (zS s0 7 4 ((s0.1 7 4) - (1 : Int32))) 7 5 (((zS s0 7 4 ((s0.1 7 4) - (1 : Int32))).1 7 5) + (1 : Int32))).1 7 4)) 71 (zS (zS s0 7 4 ((s0.1 7 4) - (1 : Int32))) 7 5 (((zS s0 7 4 ((s0.1 7 4) - (1 : Int32))).1 7 5) + (1 : Int32)))) (fun _ s2 => some ((s2.1 7 4), s2))
def f_X11_redo  (s0 : SS) : Option (Int32 × SS) :=
  if (s0.1 7 5) = 0 then some ((-5), s0) else zbd (f_X11_tellChange (s0.1 7 4) 72 s0) (fun _ s2 => some (((zS (zS s2 7 4 ((s2.1 7 4) + (1 : Int32))) 7 5 (((zS s2 7 4 ((s2.1 7 4) + (1 : Int32))).1 7 5) - (1 : Int32))).1 7 5), (zS (zS s2 7 4 ((s2.1 7 4) + (1 : Int32))) 7 5 (((zS s2 7 4 ((s2.1 7 4) + (1 : Int32))).1 7 5) - (1 : Int32)))))
def f_X11_image  (s0 : SS) : Option (Int32 × SS) :=
  zbd (f_X3_takeOver 2 1 s0) (fun _ s2 => some (((zS s2 0 2 1).1 2 2), (zS s2 0 2 1)))
def f_X11_alike  (s0 : SS) : Option (Int32 × SS) :=
  if (s0.1 0 2) = 0 then some ((-5), s0) else zbd (f_X3_isAs 1 2 (s0.1 6 2) s0) (fun r1 s2 => if r1 = 0 then some (0, s2) else some (1, s2))
def f_X11_back  (s0 : SS) : Option (Int32 × SS) :=
  if (s0.1 0 2) = 0 then some ((-5), s0) else zbd (f_X3_takeOver 1 2 s0) (fun _ s2 => zbd (f_X10_layOut 3 s2) (fun _ s5 => zbd (f_X1_forget s5) (fun _ s8 => some ((s8.1 1 2), s8))))
def f_X11_count (x1 : Int32) (s0 : SS) : Option (Int32 × SS) :=
  if x1 = 0 then some ((s0.1 1 2), s0) else if x1 = 1 then some ((s0.1 7 4), s0) else if x1 = 2 then some ((s0.1 7 5), s0) else if x1 = 3 then some ((s0.1 8 1), s0) else if x1 = 4 then zbd (f_X6_kept s0) (fun r6 s7 => some (r6, s7)) else if x1 = 5 then zbd (f_X5_howManyThere s0) (fun r10 s11 => some (r10, s11)) else some ((-1), s0)
def f_X12_in (x0 : Int64) (x2 : Int64) (x4 : Int64) (s0 : SS) : Option (Int32 × SS) :=
  if (lg_cmp x0 x2) < 0 then some (0, s0) else if 0 < (lg_cmp x0 x4) then some (0, s0) else some (1, s0)
def f_X12_letters  (s0 : SS) : Option (Int32 × SS) :=
  if (s0.1 0 0) = 0 then some (((s0.1 0 2) + (s0.1 0 4)), s0) else if (s0.1 0 0) = 1 then some (((1 : Int32) + (s0.1 0 4)), s0) else some (2, s0)
def f_X12_nameOf (x1 : Int32) (s0 : SS) : Option (Int32 × SS) :=
  if (s0.1 0 0) = 2 then if x1 = 0 then some (97, s0) else some (118, s0) else if (s0.1 0 0) = 1 then if x1 = 0 then some (97, s0) else some (((116 : Int32) + x1), s0) else if (s0.1 0 2) ≤ x1 then some ((((112 : Int32) + x1) - (s0.1 0 2)), s0) else some (((97 : Int32) + x1), s0)
def f_X12_tens_c4  : Nat → Int32 → Int32 → Int32 → SS → Option (Int32 × SS)
  | 0, _, _, _, _ => none
  | n + 1, x0, x1, x2, s1 => if x0 ≤ x2 then some (x1, s1) else (f_X12_tens_c4 n) x0 (x1 * (10 : Int32)) (x2 + 1) s1
def f_X12_tens (x0 : Int32) (s0 : SS) : Option (Int32 × SS) :=
  f_X12_tens_c4 ZF x0 1 0 s0
def f_X12_powerIn (x0 : Int32) (x1 : Int32) (s0 : SS) : Option (Int32 × SS) :=
  zbd (f_X12_tens x1 s0) (fun r1 s2 => if r1 = 0 then none else some (((x0 / r1) - (x0 / r1) / (10 : Int32) * (10 : Int32)), s2))
def f_X12_sizeOf_c4  : Nat → Int32 → Int32 → SS → Option (Int32 × SS)
  | 0, _, _, _ => none
  | n + 1, x1, x2, s1 => if x2 ≤ 0 then some (x1, s1) else (f_X12_sizeOf_c4 n) (x1 + (x2 - x2 / (10 : Int32) * (10 : Int32))) (x2 / (10 : Int32)) s1
def f_X12_sizeOf (x0 : Int32) (s0 : SS) : Option (Int32 × SS) :=
  f_X12_sizeOf_c4 ZF 0 x0 s0
def f_X12_worthOfProduct_c50  : Nat → Int32 → Int32 → SS → Option (Int64 × SS)
  | 0, _, _, _ => none
  | n + 1, x1, x3, s1 => if (s1.1 0 4) ≤ x3 then some (0, s1) else zbd (f_X12_powerIn x1 ((s1.1 0 2) + x3) s1) (fun r1 s2 => if r1 = (s2.1 0 1) then if ((s2.1 0 1) - (s2.1 0 1) / (2 : Int32) * (2 : Int32)) = 1 then some (1, s2) else some ((-1), s2) else (f_X12_worthOfProduct_c50 n) x1 (x3 + 1) s2)
def f_X12_worthOfProduct_c35 (rc4 : Int32 → Int32 → Int32 → SS → Option (Int64 × SS)) (x1 : Int32) (x3 : Int32) (t0 : Int32) (s1 : SS) : Option (Int64 × SS) :=
  rc4 x1 t0 (x3 + 1) s1
def f_X12_worthOfProduct_c34 (rc4 : Int32 → Int32 → Int32 → SS → Option (Int64 × SS)) (x1 : Int32) (x3 : Int32) (s1 : SS) : Option (Int64 × SS) :=
  f_X12_worthOfProduct_c35 rc4 x1 x3 0 s1
def f_X12_worthOfProduct_c4  : Nat → Int32 → Int32 → Int32 → SS → Option (Int64 × SS)
  | 0, _, _, _, _ => none
  | n + 1, x1, x2, x3, s1 => if (s1.1 0 2) ≤ x3 then if x2 = 0 then f_X12_worthOfProduct_c50 ZF x1 0 s1 else some (1, s1) else if x2 = 0 then f_X12_worthOfProduct_c34 (f_X12_worthOfProduct_c4 n) x1 x3 s1 else zbd (f_X12_powerIn x1 x3 s1) (fun r4 s5 => if zin x3 3 = true then if r4 = (s5.1 1 (x3).toNatClampNeg) then f_X12_worthOfProduct_c35 (f_X12_worthOfProduct_c4 n) x1 x3 1 s5 else f_X12_worthOfProduct_c34 (f_X12_worthOfProduct_c4 n) x1 x3 s5 else none)
def f_X12_worthOfProduct (x1 : Int32) (s0 : SS) : Option (Int64 × SS) :=
  f_X12_worthOfProduct_c4 ZF x1 1 0 s0
def f_X12_worthOfCurved_c9  : Nat → Int32 → Int32 → SS → Option (Int64 × SS)
  | 0, _, _, _ => none
  | n + 1, x1, x2, s1 => if (s1.1 0 4) ≤ x2 then some (0, s1) else zbd (f_X12_tens ((1 : Int32) + x2) s1) (fun r1 s2 => if x1 = ((1 : Int32) + ((2 : Int32) * r1)) then if zin x2 3 = true then some (((-(s2.1 2 (x2).toNatClampNeg))).toInt64, s2) else none else zbd (f_X12_tens ((1 : Int32) + x2) s2) (fun r4 s5 => if x1 = ((3 : Int32) * r4) then if zin x2 3 = true then if zin x2 3 = true then some ((((2 : Int64) - ((2 : Int64) * ((s5.1 3 (x2).toNatClampNeg)).toInt64)) - ((4 : Int64) * ((s5.1 2 (x2).toNatClampNeg)).toInt64)), s5) else none else none else (f_X12_worthOfCurved_c9 n) x1 (x2 + 1) s5))
def f_X12_worthOfCurved (x1 : Int32) (s0 : SS) : Option (Int64 × SS) :=
  if x1 = 3 then some (1, s0) else f_X12_worthOfCurved_c9 ZF x1 0 s0
def f_X12_worthBy (x1 : Int32) (s0 : SS) : Option (Int64 × SS) :=
  zbd (f_X12_sizeOf x1 s0) (fun r1 s2 => if r1 = (s2.1 0 1) then if 2 ≤ (s2.1 0 0) then if x1 = 5 then some (1, s2) else if x1 = 32 then some (4, s2) else if x1 = 41 then some (18, s2) else if x1 = 50 then some (51, s2) else some (0, s2) else if (s2.1 0 0) = 0 then zbd (f_X12_worthOfProduct x1 s2) (fun r7 s8 => some (r7, s8)) else zbd (f_X12_worthOfCurved x1 s2) (fun r4 s5 => some (r4, s5)) else some (0, s2))
def f_X12_carry_c97 (rc2 : Int32 → Int32 → SS → Option (Unit × SS)) : Nat → Int32 → Int32 → Int32 → SS → Option (Unit × SS)
  | 0, _, _, _, _ => none
  | n + 1, x1, x2, x3, s1 => if (s1.1 0 7) ≤ x3 then rc2 x1 (x2 + 1) s1 else if zin (((462 : Int32) * x2) + x3) 3696 = true then if zin (((462 : Int32) * x2) + x3) 3696 = true then (f_X12_carry_c97 rc2 n) x1 x2 (x3 + 1) (zSL s1 10 ((((462 : Int32) * x2) + x3)).toNatClampNeg (s1.2 11 ((((462 : Int32) * x2) + x3)).toNatClampNeg)) else none else none
def f_X12_carry_c89 (rc41 : Int32 → Int32 → Int32 → SS → Option (Unit × SS)) (rc2 : Int32 → Int32 → SS → Option (Unit × SS)) (x1 : Int32) (x2 : Int32) (x3 : Int32) (s1 : SS) : Option (Unit × SS) :=
  rc41 x1 x2 (x3 + 1) s1
def f_X12_carry_c41 (rc2 : Int32 → Int32 → SS → Option (Unit × SS)) : Nat → Int32 → Int32 → Int32 → SS → Option (Unit × SS)
  | 0, _, _, _, _ => none
  | n + 1, x1, x2, x3, s1 => if x1 ≤ x3 then f_X12_carry_c97 rc2 ZF x1 x2 0 s1 else if zin x3 462 = true then if zin (s1.1 12 (x3).toNatClampNeg) 600000 = true then if (s1.1 7 ((s1.1 12 (x3).toNatClampNeg)).toNatClampNeg) < 0 then f_X12_carry_c89 (f_X12_carry_c41 rc2 n) rc2 x1 x2 x3 s1 else if zin (((462 : Int32) * x2) + x3) 3696 = true then if zin ((((462 : Int32) * x2) + (s1.1 7 ((s1.1 12 (x3).toNatClampNeg)).toNatClampNeg))) 3696 = true then f_X12_carry_c89 (f_X12_carry_c41 rc2 n) rc2 x1 x2 x3 (zSL s1 11 ((((462 : Int32) * x2) + (s1.1 7 ((s1.1 12 (x3).toNatClampNeg)).toNatClampNeg))).toNatClampNeg (s1.2 10 ((((462 : Int32) * x2) + x3)).toNatClampNeg)) else none else none else none else none
def f_X12_carry_c12 (rc2 : Int32 → Int32 → SS → Option (Unit × SS)) : Nat → Int32 → Int32 → Int32 → SS → Option (Unit × SS)
  | 0, _, _, _, _ => none
  | n + 1, x1, x2, x3, s1 => if (s1.1 0 7) ≤ x3 then f_X12_carry_c41 rc2 ZF x1 x2 0 s1 else if zin (((462 : Int32) * x2) + x3) 3696 = true then (f_X12_carry_c12 rc2 n) x1 x2 (x3 + 1) (zSL s1 11 ((((462 : Int32) * x2) + x3)).toNatClampNeg 0) else none
def f_X12_carry_c2  : Nat → Int32 → Int32 → SS → Option (Unit × SS)
  | 0, _, _, _ => none
  | n + 1, x1, x2, s1 => if (s1.1 0 12) ≤ x2 then some ((), s1) else f_X12_carry_c12 (f_X12_carry_c2 n) ZF x1 x2 0 s1
def f_X12_carry (x1 : Int32) (s0 : SS) : Option (Unit × SS) :=
  f_X12_carry_c2 ZF x1 0 s0
def f_X12_layTerms_c271 (rc91 : Int32 → Int32 → Int32 → Int32 → SS → Option (Unit × SS)) (x1 : Int32) (x2 : Int32) (x3 : Int32) (x4 : Int32) (s1 : SS) : Option (Unit × SS) :=
  rc91 x1 x2 x3 x4 s1
def f_X12_layTerms_c230 (rc91 : Int32 → Int32 → Int32 → Int32 → SS → Option (Unit × SS)) (x1 : Int32) (x2 : Int32) (x3 : Int32) (x6 : Int32) (t0 : Int32) (s1 : SS) : Option (Unit × SS) :=
  if t0 = 0 then f_X12_layTerms_c271 rc91 x1 x2 x3 t0 s1 else if zin x6 6 = true then if zin x6 6 = true then if x1 ≤ (x6 + (1 : Int32)) then f_X12_layTerms_c271 rc91 x1 x2 (x3 + 1) t0 (zS s1 32 (x6).toNatClampNeg (((s1.1 32 (x6).toNatClampNeg) - (1 : Int32)))) else if zin (x6 + (1 : Int32)) 6 = true then f_X12_layTerms_c271 rc91 x1 x2 0 t0 (zS (zS s1 32 (x6).toNatClampNeg (((s1.1 32 (x6).toNatClampNeg) - (1 : Int32)))) 32 ((x6 + (1 : Int32))).toNatClampNeg (x3 + 1)) else none else none else none
def f_X12_layTerms_c220 (rc91 : Int32 → Int32 → Int32 → Int32 → SS → Option (Unit × SS)) (x1 : Int32) (x2 : Int32) (x3 : Int32) (x6 : Int32) (s1 : SS) : Option (Unit × SS) :=
  if x6 < 0 then f_X12_layTerms_c230 rc91 x1 x2 x3 x6 0 s1 else f_X12_layTerms_c230 rc91 x1 x2 x3 x6 1 s1
def f_X12_layTerms_c199 (rc91 : Int32 → Int32 → Int32 → Int32 → SS → Option (Unit × SS)) : Nat → Int32 → Int32 → Int32 → Int32 → SS → Option (Unit × SS)
  | 0, _, _, _, _, _ => none
  | n + 1, x1, x2, x3, x6, s1 => if x6 < 0 then f_X12_layTerms_c220 rc91 x1 x2 x3 x6 s1 else if zin x6 6 = true then if (s1.1 32 (x6).toNatClampNeg) = 0 then (f_X12_layTerms_c199 rc91 n) x1 x2 x3 (x6 + (-1)) s1 else f_X12_layTerms_c220 rc91 x1 x2 x3 x6 s1 else none
def f_X12_layTerms_c102 (rc91 : Int32 → Int32 → Int32 → Int32 → SS → Option (Unit × SS)) : Nat → Int32 → Int32 → Int32 → Int32 → Int32 → SS → Option (Unit × SS)
  | 0, _, _, _, _, _, _ => none
  | n + 1, x1, x2, x3, x5, x6, s1 => if x1 ≤ x6 then if zin (s1.1 0 7) 462 = true then if zin ((zS s1 4 ((s1.1 0 7)).toNatClampNeg x5).1 0 7) 462 = true then zbd (f_X12_worthBy x5 (zS (zS s1 4 ((s1.1 0 7)).toNatClampNeg x5) 5 (((zS s1 4 ((s1.1 0 7)).toNatClampNeg x5).1 0 7)).toNatClampNeg (((zS s1 4 ((s1.1 0 7)).toNatClampNeg x5).1 0 1) - x3))) (fun r10 s11 => if zin (((zS (zS s1 4 ((s1.1 0 7)).toNatClampNeg x5) 5 (((zS s1 4 ((s1.1 0 7)).toNatClampNeg x5).1 0 7)).toNatClampNeg (((zS s1 4 ((s1.1 0 7)).toNatClampNeg x5).1 0 1) - x3)).1 0 7)) 462 = true then if zin x5 600000 = true then f_X12_layTerms_c199 rc91 ZF x1 x2 x3 (x1 - (1 : Int32)) (zS (zS (zSL s11 6 (((zS (zS s1 4 ((s1.1 0 7)).toNatClampNeg x5) 5 (((zS s1 4 ((s1.1 0 7)).toNatClampNeg x5).1 0 7)).toNatClampNeg (((zS s1 4 ((s1.1 0 7)).toNatClampNeg x5).1 0 1) - x3)).1 0 7)).toNatClampNeg r10) 7 (x5).toNatClampNeg (((zSL s11 6 (((zS (zS s1 4 ((s1.1 0 7)).toNatClampNeg x5) 5 (((zS s1 4 ((s1.1 0 7)).toNatClampNeg x5).1 0 7)).toNatClampNeg (((zS s1 4 ((s1.1 0 7)).toNatClampNeg x5).1 0 1) - x3)).1 0 7)).toNatClampNeg r10).1 0 7))) 0 7 (((zS (zSL s11 6 (((zS (zS s1 4 ((s1.1 0 7)).toNatClampNeg x5) 5 (((zS s1 4 ((s1.1 0 7)).toNatClampNeg x5).1 0 7)).toNatClampNeg (((zS s1 4 ((s1.1 0 7)).toNatClampNeg x5).1 0 1) - x3)).1 0 7)).toNatClampNeg r10) 7 (x5).toNatClampNeg (((zSL s11 6 (((zS (zS s1 4 ((s1.1 0 7)).toNatClampNeg x5) 5 (((zS s1 4 ((s1.1 0 7)).toNatClampNeg x5).1 0 7)).toNatClampNeg (((zS s1 4 ((s1.1 0 7)).toNatClampNeg x5).1 0 1) - x3)).1 0 7)).toNatClampNeg r10).1 0 7))).1 0 7) + (1 : Int32))) else none else none) else none else none else if zin x6 6 = true then zbd (f_X12_tens x6 s1) (fun r20 s21 => (f_X12_layTerms_c102 rc91 n) x1 x2 x3 (x5 + ((s1.1 32 (x6).toNatClampNeg) * r20)) (x6 + 1) s21) else none
def f_X12_layTerms_c91  : Nat → Int32 → Int32 → Int32 → Int32 → SS → Option (Unit × SS)
  | 0, _, _, _, _, _ => none
  | n + 1, x1, x2, x3, x4, s1 => if x4 = 0 then zbd (f_X12_carry x2 s1) (fun _ s6 => some ((), s6)) else f_X12_layTerms_c102 (f_X12_layTerms_c91 n) ZF x1 x2 x3 0 0 s1
def f_X12_layTerms_c57  : Nat → Int32 → Int32 → Int32 → SS → Option (Unit × SS)
  | 0, _, _, _, _ => none
  | n + 1, x1, x2, x3, s1 => if 6 ≤ x3 then if zin 0 6 = true then f_X12_layTerms_c91 ZF x1 x2 0 1 (zS s1 32 ((0 : Int32)).toNatClampNeg (s1.1 0 1)) else none else if zin x3 6 = true then (f_X12_layTerms_c57 n) x1 x2 (x3 + 1) (zS s1 32 (x3).toNatClampNeg 0) else none
def f_X12_layTerms_c2  : Nat → Int32 → SS → Option (Unit × SS)
  | 0, _, _ => none
  | n + 1, x1, s1 => if (s1.1 0 7) ≤ x1 then zbd (f_X12_letters s1) (fun r1 s2 => f_X12_layTerms_c57 ZF r1 (s2.1 0 7) 0 (zS s2 0 7 0)) else if zin x1 462 = true then if zin x1 462 = true then if zin x1 462 = true then if zin (((zS s1 12 (x1).toNatClampNeg (s1.1 4 (x1).toNatClampNeg)).1 4 (x1).toNatClampNeg)) 600000 = true then (f_X12_layTerms_c2 n) (x1 + 1) (zS (zS s1 12 (x1).toNatClampNeg (s1.1 4 (x1).toNatClampNeg)) 7 (((zS s1 12 (x1).toNatClampNeg (s1.1 4 (x1).toNatClampNeg)).1 4 (x1).toNatClampNeg)).toNatClampNeg (-1)) else none else none else none else none
def f_X12_layTerms  (s0 : SS) : Option (Unit × SS) :=
  f_X12_layTerms_c2 ZF 0 s0
def f_X12_forget  (s0 : SS) : Option (Unit × SS) :=
  some ((), (zS (zS s0 0 21 0) 0 22 0))
def f_X12_begin (x1 : Int32) (x2 : Int32) (s0 : SS) : Option (Int32 × SS) :=
  zbd (f_X12_forget (zS (zS (zS (zS s0 0 0 x1) 0 1 x2) 0 4 0) 0 12 0)) (fun _ s2 => zbd (f_X12_layTerms s2) (fun _ s5 => some (x2, s5)))
def f_X12_product_c79  (x1 : Int32) (x2 : Int32) (x4 : Int32) (t0 : Int32) (s1 : SS) : Option (Int32 × SS) :=
  if zin 0 3 = true then if zin 1 3 = true then if zin 2 3 = true then zbd (f_X12_begin (0 : Int32) ((x1 + x2) + x4) (zS (zS (zS (zS s1 0 2 t0) 1 ((0 : Int32)).toNatClampNeg x1) 1 ((1 : Int32)).toNatClampNeg x2) 1 ((2 : Int32)).toNatClampNeg x4)) (fun r13 s14 => some (r13, s14)) else none else none else none
def f_X12_product_c9  (x1 : Int32) (x2 : Int32) (t0 : Int32) (s1 : SS) : Option (Int32 × SS) :=
  zbd (f_X12_in ((x1).toInt64) (1 : Int64) (5 : Int64) s1) (fun r1 s2 => if r1 = 0 then some ((-1), s2) else zbd (f_X12_in ((x2).toInt64) (0 : Int64) (5 : Int64) s2) (fun r4 s5 => if r4 = 0 then some ((-1), s5) else zbd (f_X12_in ((t0).toInt64) (0 : Int64) (5 : Int64) s5) (fun r7 s8 => if r7 = 0 then some ((-1), s8) else if ((x1 + x2) + t0) ≤ 5 then if x2 = 0 then f_X12_product_c79 x1 x2 t0 1 s8 else if t0 = 0 then f_X12_product_c79 x1 x2 t0 2 s8 else f_X12_product_c79 x1 x2 t0 3 s8 else some ((-1), s8))))
def f_X12_product (x1 : Int32) (x2 : Int32) (x3 : Int32) (s0 : SS) : Option (Int32 × SS) :=
  if x2 = 0 then f_X12_product_c9 x1 x2 0 s0 else f_X12_product_c9 x1 x2 x3 s0
def f_X12_blow  (s0 : SS) : Option (Int32 × SS) :=
  if (s0.1 0 0) = 0 then if (s0.1 0 4) = 3 then some ((-3), s0) else zbd (f_X12_forget (zS s0 0 4 ((s0.1 0 4) + (1 : Int32)))) (fun _ s2 => zbd (f_X12_layTerms s2) (fun _ s5 => some ((s5.1 0 4), s5))) else some ((-5), s0)
def f_X12_curved  (s0 : SS) : Option (Int32 × SS) :=
  zbd (f_X12_begin (1 : Int32) (3 : Int32) s0) (fun r1 s2 => some (r1, s2))
def f_X12_curve (x1 : Int32) (x2 : Int32) (s0 : SS) : Option (Int32 × SS) :=
  if (s0.1 0 0) = 1 then zbd (f_X12_in ((x1).toInt64) (1 : Int64) (9 : Int64) s0) (fun r1 s2 => if r1 = 0 then some ((-1), s2) else zbd (f_X12_in ((x2).toInt64) (0 : Int64) (9 : Int64) s2) (fun r4 s5 => if r4 = 0 then some ((-1), s5) else if (s5.1 0 4) = 3 then some ((-3), s5) else if zin (s5.1 0 4) 3 = true then if zin ((zS s5 2 ((s5.1 0 4)).toNatClampNeg x1).1 0 4) 3 = true then zbd (f_X12_forget (zS (zS (zS s5 2 ((s5.1 0 4)).toNatClampNeg x1) 3 (((zS s5 2 ((s5.1 0 4)).toNatClampNeg x1).1 0 4)).toNatClampNeg x2) 0 4 (((zS (zS s5 2 ((s5.1 0 4)).toNatClampNeg x1) 3 (((zS s5 2 ((s5.1 0 4)).toNatClampNeg x1).1 0 4)).toNatClampNeg x2).1 0 4) + (1 : Int32)))) (fun _ s10 => zbd (f_X12_layTerms s10) (fun _ s13 => some (((s13.1 0 4) - (1 : Int32)), s13))) else none else none)) else some ((-5), s0)
def f_X12_conics  (s0 : SS) : Option (Int32 × SS) :=
  zbd (f_X12_begin (2 : Int32) (5 : Int32) s0) (fun r1 s2 => some (r1, s2))
def f_X12_eulerOfSpace_c74  : Nat → Int32 → Int32 → SS → Option (Int32 × SS)
  | 0, _, _, _ => none
  | n + 1, x1, x2, s1 => if (s1.1 0 4) ≤ x2 then some (x1, s1) else if zin x2 3 = true then (f_X12_eulerOfSpace_c74 n) (x1 + ((2 : Int32) - ((2 : Int32) * (s1.1 3 (x2).toNatClampNeg)))) (x2 + 1) s1 else none
def f_X12_eulerOfSpace_c33  : Nat → Int32 → Int32 → SS → Option (Int32 × SS)
  | 0, _, _, _ => none
  | n + 1, x1, x2, s1 => if (s1.1 0 2) ≤ x2 then some ((x1 + ((s1.1 0 4) * ((s1.1 0 1) - (1 : Int32)))), s1) else if zin x2 3 = true then (f_X12_eulerOfSpace_c33 n) (x1 * ((s1.1 1 (x2).toNatClampNeg) + (1 : Int32))) (x2 + 1) s1 else none
def f_X12_eulerOfSpace_c23  (t0 : Int32) (s1 : SS) : Option (Int32 × SS) :=
  if (s1.1 0 0) = 0 then f_X12_eulerOfSpace_c33 ZF t0 0 s1 else f_X12_eulerOfSpace_c74 ZF t0 0 s1
def f_X12_eulerOfSpace  (s0 : SS) : Option (Int32 × SS) :=
  if (s0.1 0 0) = 2 then some (12, s0) else if (s0.1 0 0) = 0 then f_X12_eulerOfSpace_c23 1 s0 else f_X12_eulerOfSpace_c23 4 s0
def f_X12_space (x1 : Int32) (s0 : SS) : Option (Int32 × SS) :=
  if x1 = 0 then some ((s0.1 0 0), s0) else if x1 = 1 then some ((s0.1 0 1), s0) else if x1 = 2 then zbd (f_X12_letters s0) (fun r4 s5 => some (r4, s5)) else if x1 = 3 then zbd (f_X12_eulerOfSpace s0) (fun r8 s9 => some (r8, s9)) else if x1 = 4 then if (s0.1 0 0) = 2 then some (0, s0) else some ((s0.1 0 4), s0) else if x1 = 5 then some ((s0.1 0 7), s0) else some ((-1), s0)
def f_X12_termOf (x1 : Int32) (s0 : SS) : Option (Int32 × SS) :=
  zbd (f_X12_in ((x1).toInt64) (0 : Int64) (599999 : Int64) s0) (fun r1 s2 => if r1 = 0 then some ((-1), s2) else if zin x1 600000 = true then some ((s2.1 7 (x1).toNatClampNeg), s2) else none)
def f_X12_worth (x1 : Int32) (s0 : SS) : Option (Int64 × SS) :=
  zbd (f_X12_termOf x1 s0) (fun r1 s2 => if 0 ≤ r1 then zbd (f_X12_termOf x1 s2) (fun r4 s5 => if zin r4 462 = true then some ((s5.2 6 (r4).toNatClampNeg), s5) else none) else some ((-9223372036854775808), s2))
def f_X12_term (x1 : Int32) (s0 : SS) : Option (Int32 × SS) :=
  if 0 ≤ x1 then if (s0.1 0 7) ≤ x1 then some ((-2), s0) else if zin x1 462 = true then some ((s0.1 4 (x1).toNatClampNeg), s0) else none else some ((-1), s0)
def f_X12_isClass (x1 : Int64) (s0 : SS) : Option (Int32 × SS) :=
  zbd (f_X12_in x1 (0 : Int64) ((((s0.1 0 12) - (1 : Int32))).toInt64) s0) (fun r1 s2 => if znar .boolean r1 = true then some (r1, s2) else none)
def f_X12_isPlain_c38 (rc2 : Int32 → Int32 → SS → Option (Int32 × SS)) (x1 : Int32) (x2 : Int32) (s1 : SS) : Option (Int32 × SS) :=
  rc2 x1 (x2 + 1) s1
def f_X12_isPlain_c2  : Nat → Int32 → Int32 → SS → Option (Int32 × SS)
  | 0, _, _, _ => none
  | n + 1, x1, x2, s1 => zbd (f_X12_letters s1) (fun r1 s2 => if r1 ≤ x2 then some (1, s2) else zbd (f_X12_powerIn x1 x2 s2) (fun r4 s5 => if r4 ≤ 0 then f_X12_isPlain_c38 (f_X12_isPlain_c2 n) x1 x2 s5 else zbd (f_X12_nameOf x2 s5) (fun r7 s8 => zbd (f_X12_in ((r7).toInt64) (97 : Int64) (99 : Int64) s8) (fun r10 s11 => if r10 = 0 then some (0, s11) else f_X12_isPlain_c38 (f_X12_isPlain_c2 n) x1 x2 s11))))
def f_X12_isPlain (x1 : Int32) (s0 : SS) : Option (Int32 × SS) :=
  f_X12_isPlain_c2 ZF x1 0 s0
def f_X12_numberAt (x1 : Int32) (x2 : Int32) (s0 : SS) : Option (Int64 × SS) :=
  if zin (((462 : Int32) * x1) + x2) 3696 = true then if zin x1 8 = true then if (s0.1 8 (x1).toNatClampNeg) = 0 then some ((s0.2 10 ((((462 : Int32) * x1) + x2)).toNatClampNeg), s0) else if (s0.1 8 (x1).toNatClampNeg) = 1 then some ((-(s0.2 10 ((((462 : Int32) * x1) + x2)).toNatClampNeg)), s0) else if (s0.1 8 (x1).toNatClampNeg) = 2 then if zin x1 8 = true then some (((s0.2 10 ((((462 : Int32) * x1) + x2)).toNatClampNeg) * (((s0.1 9 (x1).toNatClampNeg) + (1 : Int32))).toInt64), s0) else none else if (s0.1 8 (x1).toNatClampNeg) = 3 then if zin x2 462 = true then if zin x1 8 = true then if (s0.1 5 (x2).toNatClampNeg) = (s0.1 9 (x1).toNatClampNeg) then some ((s0.2 10 ((((462 : Int32) * x1) + x2)).toNatClampNeg), s0) else some (0, s0) else none else none else if (s0.1 8 (x1).toNatClampNeg) = 4 then if zin x2 462 = true then zbd (f_X12_isPlain (s0.1 4 (x2).toNatClampNeg) s0) (fun r12 s13 => if r12 = 0 then some (0, s13) else if zin x1 8 = true then some (((s0.2 10 ((((462 : Int32) * x1) + x2)).toNatClampNeg) * (((s13.1 9 (x1).toNatClampNeg) + (1 : Int32))).toInt64), s13) else none) else none else if zin x2 462 = true then if ((s0.1 5 (x2).toNatClampNeg) - (s0.1 5 (x2).toNatClampNeg) / (2 : Int32) * (2 : Int32)) = 1 then some ((-(s0.2 10 ((((462 : Int32) * x1) + x2)).toNatClampNeg)), s0) else some ((s0.2 10 ((((462 : Int32) * x1) + x2)).toNatClampNeg), s0) else none else none else none
def f_X12_layClass_c2  : Nat → Int32 → Nat → Int32 → SS → Option (Unit × SS)
  | 0, _, _, _, _ => none
  | n + 1, x1, k2, x3, s1 => if (s1.1 0 7) ≤ x3 then some ((), s1) else zbd (f_X12_numberAt x1 x3 s1) (fun r1 s2 => if zok Om 1 k2 x3 = true then (f_X12_layClass_c2 n) x1 k2 (x3 + 1) (zSL s2 k2 (x3).toNatClampNeg r1) else none)
def f_X12_layClass (x1 : Int32) (k2 : Nat) (s0 : SS) : Option (Unit × SS) :=
  f_X12_layClass_c2 ZF x1 k2 0 s0
def f_X12_layOne_c26 (rc2 : Nat → Int32 → SS → Option (Unit × SS)) (k1 : Nat) (x2 : Int32) (t0 : Int64) (t1 : Int32) (kt2 : Nat) (s1 : SS) : Option (Unit × SS) :=
  if zok Om 1 kt2 t1 = true then rc2 k1 (x2 + 1) (zSL s1 kt2 (t1).toNatClampNeg t0) else none
def f_X12_layOne_c2  : Nat → Nat → Int32 → SS → Option (Unit × SS)
  | 0, _, _, _ => none
  | n + 1, k1, x2, s1 => if (s1.1 0 7) ≤ x2 then some ((), s1) else if zin x2 462 = true then if (s1.1 4 (x2).toNatClampNeg) = 0 then f_X12_layOne_c26 (f_X12_layOne_c2 n) k1 x2 1 x2 k1 s1 else f_X12_layOne_c26 (f_X12_layOne_c2 n) k1 x2 0 x2 k1 s1 else none
def f_X12_layOne (k1 : Nat) (s0 : SS) : Option (Unit × SS) :=
  f_X12_layOne_c2 ZF k1 0 s0
def f_X12_empty_c2  : Nat → Nat → Int32 → SS → Option (Unit × SS)
  | 0, _, _, _ => none
  | n + 1, k1, x2, s1 => if (s1.1 0 7) ≤ x2 then some ((), s1) else if zok Om 1 k1 x2 = true then (f_X12_empty_c2 n) k1 (x2 + 1) (zSL s1 k1 (x2).toNatClampNeg 0) else none
def f_X12_empty (k1 : Nat) (s0 : SS) : Option (Unit × SS) :=
  f_X12_empty_c2 ZF k1 0 s0
def f_X12_copyRow_c2  : Nat → Nat → Nat → Int32 → SS → Option (Unit × SS)
  | 0, _, _, _, _ => none
  | n + 1, k1, k2, x3, s1 => if (s1.1 0 7) ≤ x3 then some ((), s1) else if zok Om 1 k1 x3 = true then if zok Om 1 k2 x3 = true then (f_X12_copyRow_c2 n) k1 k2 (x3 + 1) (zSL s1 k2 (x3).toNatClampNeg (s1.2 k1 (x3).toNatClampNeg)) else none else none
def f_X12_copyRow (k1 : Nat) (k2 : Nat) (s0 : SS) : Option (Unit × SS) :=
  f_X12_copyRow_c2 ZF k1 k2 0 s0
def f_X12_multiply_c109 (rc10 : Nat → Nat → Int32 → SS → Option (Unit × SS)) (k1 : Nat) (k2 : Nat) (x3 : Int32) (s1 : SS) : Option (Unit × SS) :=
  rc10 k1 k2 (x3 + 1) s1
def f_X12_multiply_c103 (rc21 : Nat → Nat → Int32 → Int32 → SS → Option (Unit × SS)) (rc10 : Nat → Nat → Int32 → SS → Option (Unit × SS)) (k1 : Nat) (k2 : Nat) (x3 : Int32) (x4 : Int32) (s1 : SS) : Option (Unit × SS) :=
  rc21 k1 k2 x3 (x4 + 1) s1
def f_X12_multiply_c21 (rc10 : Nat → Nat → Int32 → SS → Option (Unit × SS)) : Nat → Nat → Nat → Int32 → Int32 → SS → Option (Unit × SS)
  | 0, _, _, _, _, _ => none
  | n + 1, k1, k2, x3, x4, s1 => if (s1.1 0 7) ≤ x4 then f_X12_multiply_c109 rc10 k1 k2 x3 s1 else if zok Om 1 k1 x3 = true then if (lg_cmp (s1.2 k1 (x3).toNatClampNeg) (0 : Int64)) = 0 then f_X12_multiply_c109 rc10 k1 k2 x3 s1 else if zok Om 1 k2 x4 = true then if (lg_cmp (s1.2 k2 (x4).toNatClampNeg) (0 : Int64)) = 0 then f_X12_multiply_c103 (f_X12_multiply_c21 rc10 n) rc10 k1 k2 x3 x4 s1 else if zin x3 462 = true then if zin x4 462 = true then if (s1.1 0 1) < ((s1.1 5 (x3).toNatClampNeg) + (s1.1 5 (x4).toNatClampNeg)) then f_X12_multiply_c103 (f_X12_multiply_c21 rc10 n) rc10 k1 k2 x3 x4 s1 else if zin x3 462 = true then if zin x4 462 = true then if zin (((s1.1 4 (x3).toNatClampNeg) + (s1.1 4 (x4).toNatClampNeg))) 600000 = true then if zin ((s1.1 7 (((s1.1 4 (x3).toNatClampNeg) + (s1.1 4 (x4).toNatClampNeg))).toNatClampNeg)) 462 = true then if zok Om 1 k1 x3 = true then if zok Om 1 k2 x4 = true then if zin ((s1.1 7 (((s1.1 4 (x3).toNatClampNeg) + (s1.1 4 (x4).toNatClampNeg))).toNatClampNeg)) 462 = true then f_X12_multiply_c103 (f_X12_multiply_c21 rc10 n) rc10 k1 k2 x3 x4 (zSL s1 33 ((s1.1 7 (((s1.1 4 (x3).toNatClampNeg) + (s1.1 4 (x4).toNatClampNeg))).toNatClampNeg)).toNatClampNeg (((s1.2 33 ((s1.1 7 (((s1.1 4 (x3).toNatClampNeg) + (s1.1 4 (x4).toNatClampNeg))).toNatClampNeg)).toNatClampNeg) + ((s1.2 k1 (x3).toNatClampNeg) * (s1.2 k2 (x4).toNatClampNeg))))) else none else none else none else none else none else none else none else none else none else none else none
def f_X12_multiply_c10  : Nat → Nat → Nat → Int32 → SS → Option (Unit × SS)
  | 0, _, _, _, _ => none
  | n + 1, k1, k2, x3, s1 => if (s1.1 0 7) ≤ x3 then zbd (f_X12_copyRow 33 k1 s1) (fun _ s5 => some ((), s5)) else f_X12_multiply_c21 (f_X12_multiply_c10 n) ZF k1 k2 x3 0 s1
def f_X12_multiply (k1 : Nat) (k2 : Nat) (s0 : SS) : Option (Unit × SS) :=
  zbd (f_X12_empty 33 s0) (fun _ s2 => f_X12_multiply_c10 ZF k1 k2 0 s2)
def f_X12_metOf_c5  : Nat → Nat → Int64 → Int32 → SS → Option (Int64 × SS)
  | 0, _, _, _, _ => none
  | n + 1, k1, x2, x4, s1 => if (s1.1 0 7) ≤ x4 then some (x2, s1) else if zok Om 1 k1 x4 = true then if zin x4 462 = true then (f_X12_metOf_c5 n) k1 (x2 + ((s1.2 k1 (x4).toNatClampNeg) * (s1.2 6 (x4).toNatClampNeg))) (x4 + 1) s1 else none else none
def f_X12_metOf (k1 : Nat) (s0 : SS) : Option (Int64 × SS) :=
  f_X12_metOf_c5 ZF k1 0 0 s0
def f_X12_comes_c2  : Nat → Nat → Int32 → SS → Option (Int32 × SS)
  | 0, _, _, _ => none
  | n + 1, k1, x2, s1 => if (s1.1 0 7) ≤ x2 then if zin (s1.1 0 12) 8 = true then if zin ((zS s1 8 ((s1.1 0 12)).toNatClampNeg 0).1 0 12) 8 = true then some ((((zS (zS (zS s1 8 ((s1.1 0 12)).toNatClampNeg 0) 9 (((zS s1 8 ((s1.1 0 12)).toNatClampNeg 0).1 0 12)).toNatClampNeg 0) 0 12 (((zS (zS s1 8 ((s1.1 0 12)).toNatClampNeg 0) 9 (((zS s1 8 ((s1.1 0 12)).toNatClampNeg 0).1 0 12)).toNatClampNeg 0).1 0 12) + (1 : Int32))).1 0 12) - (1 : Int32)), (zS (zS (zS s1 8 ((s1.1 0 12)).toNatClampNeg 0) 9 (((zS s1 8 ((s1.1 0 12)).toNatClampNeg 0).1 0 12)).toNatClampNeg 0) 0 12 (((zS (zS s1 8 ((s1.1 0 12)).toNatClampNeg 0) 9 (((zS s1 8 ((s1.1 0 12)).toNatClampNeg 0).1 0 12)).toNatClampNeg 0).1 0 12) + (1 : Int32)))) else none else none else if zok Om 1 k1 x2 = true then if zin ((((462 : Int32) * (s1.1 0 12)) + x2)) 3696 = true then (f_X12_comes_c2 n) k1 (x2 + 1) (zSL s1 10 ((((462 : Int32) * (s1.1 0 12)) + x2)).toNatClampNeg (s1.2 k1 (x2).toNatClampNeg)) else none else none
def f_X12_comes (k1 : Nat) (s0 : SS) : Option (Int32 × SS) :=
  f_X12_comes_c2 ZF k1 0 s0
def f_X12_become (x1 : Int32) (x2 : Int32) (x3 : Int32) (s0 : SS) : Option (Unit × SS) :=
  if x2 = 0 then if zin x1 8 = true then some ((), (zS s0 8 (x1).toNatClampNeg x3)) else none else if zin x1 8 = true then some ((), (zS s0 9 (x1).toNatClampNeg x3)) else none
def f_X12_set_c165  (x1 : Int32) (x2 : Int32) (x3 : Int32) (x4 : Int32) (s1 : SS) : Option (Int32 × SS) :=
  if zin (s1.1 0 21) 12 = true then if zin ((zS s1 16 ((s1.1 0 21)).toNatClampNeg x1).1 0 21) 12 = true then if zin (((zS (zS s1 16 ((s1.1 0 21)).toNatClampNeg x1) 17 (((zS s1 16 ((s1.1 0 21)).toNatClampNeg x1).1 0 21)).toNatClampNeg x2).1 0 21)) 12 = true then if zin (((zS (zS (zS s1 16 ((s1.1 0 21)).toNatClampNeg x1) 17 (((zS s1 16 ((s1.1 0 21)).toNatClampNeg x1).1 0 21)).toNatClampNeg x2) 18 (((zS (zS s1 16 ((s1.1 0 21)).toNatClampNeg x1) 17 (((zS s1 16 ((s1.1 0 21)).toNatClampNeg x1).1 0 21)).toNatClampNeg x2).1 0 21)).toNatClampNeg x4).1 0 21)) 12 = true then zbd (f_X12_become x1 x2 x3 (zS (zS (zS (zS (zS (zS s1 16 ((s1.1 0 21)).toNatClampNeg x1) 17 (((zS s1 16 ((s1.1 0 21)).toNatClampNeg x1).1 0 21)).toNatClampNeg x2) 18 (((zS (zS s1 16 ((s1.1 0 21)).toNatClampNeg x1) 17 (((zS s1 16 ((s1.1 0 21)).toNatClampNeg x1).1 0 21)).toNatClampNeg x2).1 0 21)).toNatClampNeg x4) 19 (((zS (zS (zS s1 16 ((s1.1 0 21)).toNatClampNeg x1) 17 (((zS s1 16 ((s1.1 0 21)).toNatClampNeg x1).1 0 21)).toNatClampNeg x2) 18 (((zS (zS s1 16 ((s1.1 0 21)).toNatClampNeg x1) 17 (((zS s1 16 ((s1.1 0 21)).toNatClampNeg x1).1 0 21)).toNatClampNeg x2).1 0 21)).toNatClampNeg x4).1 0 21)).toNatClampNeg x3) 0 21 (((zS (zS (zS (zS s1 16 ((s1.1 0 21)).toNatClampNeg x1) 17 (((zS s1 16 ((s1.1 0 21)).toNatClampNeg x1).1 0 21)).toNatClampNeg x2) 18 (((zS (zS s1 16 ((s1.1 0 21)).toNatClampNeg x1) 17 (((zS s1 16 ((s1.1 0 21)).toNatClampNeg x1).1 0 21)).toNatClampNeg x2).1 0 21)).toNatClampNeg x4) 19 (((zS (zS (zS s1 16 ((s1.1 0 21)).toNatClampNeg x1) 17 (((zS s1 16 ((s1.1 0 21)).toNatClampNeg x1).1 0 21)).toNatClampNeg x2) 18 (((zS (zS s1 16 ((s1.1 0 21)).toNatClampNeg x1) 17 (((zS s1 16 ((s1.1 0 21)).toNatClampNeg x1).1 0 21)).toNatClampNeg x2).1 0 21)).toNatClampNeg x4).1 0 21)).toNatClampNeg x3).1 0 21) + (1 : Int32))) 0 22 0)) (fun _ s16 => some (x4, s16)) else none else none else none else none
def f_X12_set_c82  : Nat → Int32 → Int32 → Int32 → Int32 → Int32 → SS → Option (Int32 × SS)
  | 0, _, _, _, _, _, _ => none
  | n + 1, x1, x2, x3, x4, x5, s1 => if 12 ≤ x5 then f_X12_set_c165 x1 x2 x3 x4 (zS s1 0 21 11) else if zin x5 12 = true then if zin (x5 - (1 : Int32)) 12 = true then if zin x5 12 = true then if zin (x5 - (1 : Int32)) 12 = true then if zin x5 12 = true then if zin (x5 - (1 : Int32)) 12 = true then if zin x5 12 = true then if zin (x5 - (1 : Int32)) 12 = true then (f_X12_set_c82 n) x1 x2 x3 x4 (x5 + 1) (zS (zS (zS (zS s1 16 ((x5 - (1 : Int32))).toNatClampNeg (s1.1 16 (x5).toNatClampNeg)) 17 ((x5 - (1 : Int32))).toNatClampNeg (((zS s1 16 ((x5 - (1 : Int32))).toNatClampNeg (s1.1 16 (x5).toNatClampNeg)).1 17 (x5).toNatClampNeg))) 18 ((x5 - (1 : Int32))).toNatClampNeg (((zS (zS s1 16 ((x5 - (1 : Int32))).toNatClampNeg (s1.1 16 (x5).toNatClampNeg)) 17 ((x5 - (1 : Int32))).toNatClampNeg (((zS s1 16 ((x5 - (1 : Int32))).toNatClampNeg (s1.1 16 (x5).toNatClampNeg)).1 17 (x5).toNatClampNeg))).1 18 (x5).toNatClampNeg))) 19 ((x5 - (1 : Int32))).toNatClampNeg (((zS (zS (zS s1 16 ((x5 - (1 : Int32))).toNatClampNeg (s1.1 16 (x5).toNatClampNeg)) 17 ((x5 - (1 : Int32))).toNatClampNeg (((zS s1 16 ((x5 - (1 : Int32))).toNatClampNeg (s1.1 16 (x5).toNatClampNeg)).1 17 (x5).toNatClampNeg))) 18 ((x5 - (1 : Int32))).toNatClampNeg (((zS (zS s1 16 ((x5 - (1 : Int32))).toNatClampNeg (s1.1 16 (x5).toNatClampNeg)) 17 ((x5 - (1 : Int32))).toNatClampNeg (((zS s1 16 ((x5 - (1 : Int32))).toNatClampNeg (s1.1 16 (x5).toNatClampNeg)).1 17 (x5).toNatClampNeg))).1 18 (x5).toNatClampNeg))).1 19 (x5).toNatClampNeg))) else none else none else none else none else none else none else none else none
def f_X12_set_c62  (x1 : Int32) (x2 : Int32) (x3 : Int32) (t0 : Int32) (s1 : SS) : Option (Int32 × SS) :=
  if t0 = x3 then some (t0, s1) else if (s1.1 0 21) = 12 then f_X12_set_c82 ZF x1 x2 x3 t0 1 s1 else f_X12_set_c165 x1 x2 x3 t0 s1
def f_X12_set_c35  (x1 : Int32) (x2 : Int32) (x3 : Int32) (t0 : Int64) (t1 : Int64) (t2 : Int64) (s1 : SS) : Option (Int32 × SS) :=
  zbd (f_X12_in t2 t1 t0 s1) (fun r7 s8 => if r7 = 0 then some ((-1), s8) else if x2 = 0 then if zin x1 8 = true then f_X12_set_c62 x1 x2 x3 (s8.1 8 (x1).toNatClampNeg) s8 else none else if zin x1 8 = true then f_X12_set_c62 x1 x2 x3 (s8.1 9 (x1).toNatClampNeg) s8 else none)
def f_X12_set (x1 : Int32) (x2 : Int32) (x3 : Int32) (s0 : SS) : Option (Int32 × SS) :=
  zbd (f_X12_isClass ((x1).toInt64) s0) (fun r1 s2 => if r1 = 0 then some ((-1), s2) else zbd (f_X12_in ((x2).toInt64) (0 : Int64) (1 : Int64) s2) (fun r4 s5 => if r4 = 0 then some ((-1), s5) else if x2 = 0 then f_X12_set_c35 x1 x2 x3 5 0 (x3).toInt64 s5 else f_X12_set_c35 x1 x2 x3 9 0 (x3).toInt64 s5))
def f_X12_tell (x1 : Int32) (x2 : Int32) (x3 : Int64) (s0 : SS) : Option (Int32 × SS) :=
  zbd (f_X12_isClass ((x1).toInt64) s0) (fun r1 s2 => if r1 = 0 then some ((-1), s2) else zbd (f_X12_termOf x2 s2) (fun r4 s5 => if 0 ≤ r4 then zbd (f_X12_termOf x2 s5) (fun r7 s8 => if zin (((462 : Int32) * x1) + r7) 3696 = true then some (1, (zSL s8 10 ((((462 : Int32) * x1) + r7)).toNatClampNeg x3)) else none) else some ((-1), s5)))
def f_X12_of_c119 (rc36 : Int32 → Int32 → Int32 → Int32 → Int32 → Int32 → SS → Option (Int32 × SS)) (x1 : Int32) (x2 : Int32) (x3 : Int32) (x4 : Int32) (x5 : Int32) (x6 : Int32) (s1 : SS) : Option (Int32 × SS) :=
  rc36 x1 x2 x3 x4 x5 (x6 + 1) s1
def f_X12_of_c117 (rc36 : Int32 → Int32 → Int32 → Int32 → Int32 → Int32 → SS → Option (Int32 × SS)) (x1 : Int32) (x2 : Int32) (x3 : Int32) (x4 : Int32) (x6 : Int32) (t0 : Int32) (s1 : SS) : Option (Int32 × SS) :=
  f_X12_of_c119 rc36 x1 x2 x3 x4 t0 x6 s1
def f_X12_of_c105 (rc36 : Int32 → Int32 → Int32 → Int32 → Int32 → Int32 → SS → Option (Int32 × SS)) (x1 : Int32) (x2 : Int32) (x3 : Int32) (x4 : Int32) (x6 : Int32) (s1 : SS) : Option (Int32 × SS) :=
  if zin x6 462 = true then f_X12_of_c117 rc36 x1 x2 x3 x4 x6 (s1.1 5 (x6).toNatClampNeg) s1 else none
def f_X12_of_c84 (rc36 : Int32 → Int32 → Int32 → Int32 → Int32 → Int32 → SS → Option (Int32 × SS)) (x1 : Int32) (x2 : Int32) (x3 : Int32) (x5 : Int32) (x6 : Int32) (t0 : Int32) (s1 : SS) : Option (Int32 × SS) :=
  if x5 = (-2) then f_X12_of_c105 rc36 x1 x2 x3 t0 x6 s1 else if zin x6 462 = true then if x5 ≤ (s1.1 5 (x6).toNatClampNeg) then f_X12_of_c117 rc36 x1 x2 x3 t0 x6 x5 s1 else f_X12_of_c105 rc36 x1 x2 x3 t0 x6 s1 else none
def f_X12_of_c36  : Nat → Int32 → Int32 → Int32 → Int32 → Int32 → Int32 → SS → Option (Int32 × SS)
  | 0, _, _, _, _, _, _, _ => none
  | n + 1, x1, x2, x3, x4, x5, x6, s1 => if (s1.1 0 7) ≤ x6 then if x2 = 0 then if zin x1 8 = true then some ((s1.1 8 (x1).toNatClampNeg), s1) else none else if x2 = 1 then if zin x1 8 = true then some ((s1.1 9 (x1).toNatClampNeg), s1) else none else if x2 = 2 then some (x3, s1) else if x2 = 3 then some (x4, s1) else some (x5, s1) else zbd (f_X12_numberAt x1 x6 s1) (fun r9 s10 => if (lg_cmp r9 (0 : Int64)) = 0 then f_X12_of_c119 (f_X12_of_c36 n) x1 x2 x3 x4 x5 x6 s10 else if zin x6 462 = true then if (s10.1 5 (x6).toNatClampNeg) ≤ x4 then f_X12_of_c84 (f_X12_of_c36 n) x1 x2 (x3 + 1) x5 x6 x4 s10 else if zin x6 462 = true then f_X12_of_c84 (f_X12_of_c36 n) x1 x2 (x3 + 1) x5 x6 (s10.1 5 (x6).toNatClampNeg) s10 else none else none)
def f_X12_of (x1 : Int32) (x2 : Int32) (s0 : SS) : Option (Int32 × SS) :=
  zbd (f_X12_isClass ((x1).toInt64) s0) (fun r1 s2 => if r1 = 0 then some ((-1), s2) else zbd (f_X12_in ((x2).toInt64) (0 : Int64) (4 : Int64) s2) (fun r4 s5 => if r4 = 0 then some ((-1), s5) else f_X12_of_c36 ZF x1 x2 0 (-2) (-2) 0 s5))
def f_X12_number (x1 : Int32) (x2 : Int32) (s0 : SS) : Option (Int64 × SS) :=
  zbd (f_X12_isClass ((x1).toInt64) s0) (fun r1 s2 => if r1 = 0 then some ((-9223372036854775808), s2) else zbd (f_X12_termOf x2 s2) (fun r4 s5 => if 0 ≤ r4 then zbd (f_X12_termOf x2 s5) (fun r7 s8 => zbd (f_X12_numberAt x1 r7 s8) (fun r10 s11 => some (r10, s11))) else some ((-9223372036854775808), s5)))
def f_X12_drop  (s0 : SS) : Option (Int32 × SS) :=
  if (s0.1 0 12) = 0 then some ((-5), s0) else zbd (f_X12_forget (zS s0 0 12 ((s0.1 0 12) - (1 : Int32)))) (fun _ s2 => some ((s2.1 0 12), s2))
def f_X12_layCanonical_c107 (rc7 : Nat → Int32 → SS → Option (Unit × SS)) (k1 : Nat) (x2 : Int32) (s1 : SS) : Option (Unit × SS) :=
  rc7 k1 (x2 + 1) s1
def f_X12_layCanonical_c106 (rc7 : Nat → Int32 → SS → Option (Unit × SS)) (k1 : Nat) (x2 : Int32) (t0 : Int64) (t1 : Int32) (kt2 : Nat) (s1 : SS) : Option (Unit × SS) :=
  if zok Om 1 kt2 t1 = true then f_X12_layCanonical_c107 rc7 k1 x2 (zSL s1 kt2 (t1).toNatClampNeg t0) else none
def f_X12_layCanonical_c87 (rc7 : Nat → Int32 → SS → Option (Unit × SS)) (k1 : Nat) (x2 : Int32) (t0 : Int64) (t1 : Int32) (kt2 : Nat) (s1 : SS) : Option (Unit × SS) :=
  if zok Om 1 kt2 t1 = true then f_X12_layCanonical_c107 rc7 k1 x2 (zSL s1 kt2 (t1).toNatClampNeg t0) else none
def f_X12_layCanonical_c62 (rc7 : Nat → Int32 → SS → Option (Unit × SS)) (k1 : Nat) (x2 : Int32) (t0 : Int64) (t1 : Int32) (kt2 : Nat) (s1 : SS) : Option (Unit × SS) :=
  if zok Om 1 kt2 t1 = true then f_X12_layCanonical_c107 rc7 k1 x2 (zSL s1 kt2 (t1).toNatClampNeg t0) else none
def f_X12_layCanonical_c7  : Nat → Nat → Int32 → SS → Option (Unit × SS)
  | 0, _, _, _ => none
  | n + 1, k1, x2, s1 => zbd (f_X12_letters s1) (fun r4 s5 => if r4 ≤ x2 then some ((), s5) else zbd (f_X12_tens x2 s5) (fun r7 s8 => if zin r7 600000 = true then if (s8.1 0 0) = 0 then if (s8.1 0 2) ≤ x2 then f_X12_layCanonical_c62 (f_X12_layCanonical_c7 n) k1 x2 (((s8.1 0 1) - (1 : Int32))).toInt64 (s8.1 7 (r7).toNatClampNeg) k1 s8 else if zin x2 3 = true then f_X12_layCanonical_c62 (f_X12_layCanonical_c7 n) k1 x2 ((-((s8.1 1 (x2).toNatClampNeg) + (1 : Int32)))).toInt64 (s8.1 7 (r7).toNatClampNeg) k1 s8 else none else if (s8.1 0 0) = 1 then if x2 = 0 then f_X12_layCanonical_c87 (f_X12_layCanonical_c7 n) k1 x2 (-4) (s8.1 7 (r7).toNatClampNeg) k1 s8 else f_X12_layCanonical_c87 (f_X12_layCanonical_c7 n) k1 x2 1 (s8.1 7 (r7).toNatClampNeg) k1 s8 else if x2 = 0 then f_X12_layCanonical_c106 (f_X12_layCanonical_c7 n) k1 x2 (-6) (s8.1 7 (r7).toNatClampNeg) k1 s8 else f_X12_layCanonical_c106 (f_X12_layCanonical_c7 n) k1 x2 2 (s8.1 7 (r7).toNatClampNeg) k1 s8 else none))
def f_X12_layCanonical (k1 : Nat) (s0 : SS) : Option (Unit × SS) :=
  zbd (f_X12_empty k1 s0) (fun _ s2 => f_X12_layCanonical_c7 ZF k1 0 s2)
def f_X12_canonical  (s0 : SS) : Option (Int32 × SS) :=
  if (s0.1 0 12) = 8 then some ((-3), s0) else zbd (f_X12_layCanonical 13 s0) (fun _ s2 => zbd (f_X12_forget s2) (fun _ s5 => zbd (f_X12_comes 13 s5) (fun r7 s8 => some (r7, s8))))
def f_X12_met (x1 : Int32) (s0 : SS) : Option (Int64 × SS) :=
  zbd (f_X12_isClass ((x1).toInt64) s0) (fun r1 s2 => if r1 = 0 then some ((-9223372036854775808), s2) else zbd (f_X12_layClass x1 13 s2) (fun _ s5 => zbd (f_X12_metOf 13 s5) (fun r7 s8 => some (r7, s8))))
def f_X12_meets (x1 : Int32) (x2 : Int32) (s0 : SS) : Option (Int64 × SS) :=
  zbd (f_X12_isClass ((x1).toInt64) s0) (fun r1 s2 => if r1 = 0 then some ((-9223372036854775808), s2) else zbd (f_X12_isClass ((x2).toInt64) s2) (fun r4 s5 => if r4 = 0 then some ((-9223372036854775808), s5) else zbd (f_X12_layClass x1 13 s5) (fun _ s8 => zbd (f_X12_layClass x2 14 s8) (fun _ s11 => zbd (f_X12_multiply 13 14 s11) (fun _ s14 => zbd (f_X12_metOf 13 s14) (fun r16 s17 => some (r16, s17)))))))
def f_X12_isList (x0 : Int32) (s0 : SS) : Option (Int32 × SS) :=
  zbd (f_X12_in ((x0).toInt64) (0 : Int64) (2 : Int64) s0) (fun r1 s2 => if znar .boolean r1 = true then some (r1, s2) else none)
def f_X12_isThere (x1 : Int32) (s0 : SS) : Option (Int32 × SS) :=
  zbd (f_X12_isList x1 s0) (fun r1 s2 => if r1 = 0 then some (0, s2) else if zin x1 3 = true then if (s2.1 22 (x1).toNatClampNeg) < 0 then some (0, s2) else some (1, s2) else none)
def f_X12_areClasses_c2  : Nat → Int32 → Int32 → SS → Option (Int32 × SS)
  | 0, _, _, _ => none
  | n + 1, x1, x2, s1 => if zin x1 3 = true then if (s1.1 23 (x1).toNatClampNeg) ≤ x2 then some (1, s1) else if zin (((20 : Int32) * x1) + x2) 60 = true then zbd (f_X12_isClass (s1.2 24 ((((20 : Int32) * x1) + x2)).toNatClampNeg) s1) (fun r3 s4 => if r3 = 0 then some (0, s4) else (f_X12_areClasses_c2 n) x1 (x2 + 1) s4) else none else none
def f_X12_areClasses (x1 : Int32) (s0 : SS) : Option (Int32 × SS) :=
  f_X12_areClasses_c2 ZF x1 0 s0
def f_X12_layAll_c10  : Nat → Int32 → Int32 → SS → Option (Unit × SS)
  | 0, _, _, _ => none
  | n + 1, x1, x2, s1 => if zin x1 3 = true then if (s1.1 23 (x1).toNatClampNeg) ≤ x2 then some ((), s1) else if zin (((20 : Int32) * x1) + x2) 60 = true then zbd (f_X12_layClass (((s1.2 24 ((((20 : Int32) * x1) + x2)).toNatClampNeg)).toInt32) 14 s1) (fun _ s7 => zbd (f_X12_multiply 13 14 s7) (fun _ s10 => (f_X12_layAll_c10 n) x1 (x2 + 1) s10)) else none else none
def f_X12_layAll (x1 : Int32) (s0 : SS) : Option (Unit × SS) :=
  zbd (f_X12_layOne 13 s0) (fun _ s2 => f_X12_layAll_c10 ZF x1 0 s2)
def f_X12_meetsAll (x1 : Int32) (s0 : SS) : Option (Int64 × SS) :=
  zbd (f_X12_isThere x1 s0) (fun r1 s2 => if r1 = 0 then some ((-9223372036854775808), s2) else zbd (f_X12_areClasses x1 s2) (fun r4 s5 => if r4 = 0 then some ((-9223372036854775807), s5) else zbd (f_X12_layAll x1 s5) (fun _ s8 => zbd (f_X12_metOf 13 s8) (fun r10 s11 => some (r10, s11)))))
def f_X12_self_c44  : Nat → Int32 → Int32 → SS → Option (Int64 × SS)
  | 0, _, _, _ => none
  | n + 1, x2, x3, s1 => if x2 ≤ x3 then zbd (f_X12_metOf 13 s1) (fun r13 s14 => some (r13, s14)) else zbd (f_X12_multiply 13 14 s1) (fun _ s17 => (f_X12_self_c44 n) x2 (x3 + 1) s17)
def f_X12_self (x1 : Int32) (x2 : Int32) (s0 : SS) : Option (Int64 × SS) :=
  zbd (f_X12_isClass ((x1).toInt64) s0) (fun r1 s2 => if r1 = 0 then some ((-9223372036854775808), s2) else zbd (f_X12_in ((x2).toInt64) (0 : Int64) (6 : Int64) s2) (fun r4 s5 => if r4 = 0 then some ((-9223372036854775808), s5) else zbd (f_X12_layOne 13 s5) (fun _ s8 => zbd (f_X12_layClass x1 14 s8) (fun _ s11 => f_X12_self_c44 ZF x2 0 s11))))
def f_X12_metWith_c69 (rc5 : Nat → Int32 → Int64 → Int32 → SS → Option (Int64 × SS)) (k1 : Nat) (x2 : Int32) (x5 : Int32) (t0 : Int64) (t1 : Int64) (s1 : SS) : Option (Int64 × SS) :=
  rc5 k1 x2 (t1 + t0) (x5 + 1) s1
def f_X12_metWith_c5  : Nat → Nat → Int32 → Int64 → Int32 → SS → Option (Int64 × SS)
  | 0, _, _, _, _, _ => none
  | n + 1, k1, x2, x3, x5, s1 => if (s1.1 0 7) ≤ x5 then some (x3, s1) else if zin x5 462 = true then if zin x2 462 = true then if ((s1.1 5 (x5).toNatClampNeg) + (s1.1 5 (x2).toNatClampNeg)) = (s1.1 0 1) then if zok Om 1 k1 x5 = true then if zin x5 462 = true then if zin x2 462 = true then if zin (((s1.1 4 (x5).toNatClampNeg) + (s1.1 4 (x2).toNatClampNeg))) 600000 = true then if zin ((s1.1 7 (((s1.1 4 (x5).toNatClampNeg) + (s1.1 4 (x2).toNatClampNeg))).toNatClampNeg)) 462 = true then f_X12_metWith_c69 (f_X12_metWith_c5 n) k1 x2 x5 ((s1.2 k1 (x5).toNatClampNeg) * (s1.2 6 ((s1.1 7 (((s1.1 4 (x5).toNatClampNeg) + (s1.1 4 (x2).toNatClampNeg))).toNatClampNeg)).toNatClampNeg)) x3 s1 else none else none else none else none else none else f_X12_metWith_c69 (f_X12_metWith_c5 n) k1 x2 x5 0 x3 s1 else none else none
def f_X12_metWith (k1 : Nat) (x2 : Int32) (s0 : SS) : Option (Int64 × SS) :=
  f_X12_metWith_c5 ZF k1 x2 0 0 s0
def f_X12_like_c40  : Nat → Int32 → SS → Option (Int32 × SS)
  | 0, _, _ => none
  | n + 1, x3, s1 => if (s1.1 0 7) ≤ x3 then some (1, s1) else zbd (f_X12_metWith 13 x3 s1) (fun r13 s14 => zbd (f_X12_metWith 14 x3 s14) (fun r16 s17 => if (lg_cmp r13 r16) = 0 then (f_X12_like_c40 n) (x3 + 1) s17 else some (0, s17)))
def f_X12_like (x1 : Int32) (x2 : Int32) (s0 : SS) : Option (Int32 × SS) :=
  zbd (f_X12_isClass ((x1).toInt64) s0) (fun r1 s2 => if r1 = 0 then some ((-1), s2) else zbd (f_X12_isClass ((x2).toInt64) s2) (fun r4 s5 => if r4 = 0 then some ((-1), s5) else zbd (f_X12_layClass x1 13 s5) (fun _ s8 => zbd (f_X12_layClass x2 14 s8) (fun _ s11 => f_X12_like_c40 ZF 0 s11))))
def f_X12_layChern_c17 (rc7 : Nat → Int32 → SS → Option (Unit × SS)) : Nat → Nat → Int32 → Int32 → SS → Option (Unit × SS)
  | 0, _, _, _, _ => none
  | n + 1, k1, x2, x3, s1 => if zin x2 3 = true then if (s1.1 1 (x2).toNatClampNeg) < x3 then rc7 k1 (x2 + 1) s1 else zbd (f_X12_layOne 14 s1) (fun _ s6 => zbd (f_X12_tens x2 s6) (fun r8 s9 => if zin r8 600000 = true then if zin (s9.1 7 (r8).toNatClampNeg) 462 = true then zbd (f_X12_multiply k1 14 (zSL s9 14 ((s9.1 7 (r8).toNatClampNeg)).toNatClampNeg 1)) (fun _ s14 => (f_X12_layChern_c17 rc7 n) k1 x2 (x3 + 1) s14) else none else none)) else none
def f_X12_layChern_c7  : Nat → Nat → Int32 → SS → Option (Unit × SS)
  | 0, _, _, _ => none
  | n + 1, k1, x2, s1 => if (s1.1 0 2) ≤ x2 then some ((), s1) else f_X12_layChern_c17 (f_X12_layChern_c7 n) ZF k1 x2 0 s1
def f_X12_layChern (k1 : Nat) (s0 : SS) : Option (Unit × SS) :=
  zbd (f_X12_layOne k1 s0) (fun _ s2 => f_X12_layChern_c7 ZF k1 0 s2)
def f_X12_isBare  (s0 : SS) : Option (Int32 × SS) :=
  if (s0.1 0 0) = 0 then if (s0.1 0 4) = 0 then some (1, s0) else some (0, s0) else some (0, s0)
def f_X12_chern (x1 : Int32) (s0 : SS) : Option (Int64 × SS) :=
  zbd (f_X12_termOf x1 s0) (fun r1 s2 => if 0 ≤ r1 then zbd (f_X12_isBare s2) (fun r4 s5 => if r4 = 0 then some ((-9223372036854775807), s5) else zbd (f_X12_layChern 15 s5) (fun _ s8 => zbd (f_X12_termOf x1 s8) (fun r10 s11 => if zin r10 462 = true then some ((s11.2 15 (r10).toNatClampNeg), s11) else none))) else some ((-9223372036854775808), s2))
def f_X12_isOfOne_c33 (rc2 : Int32 → Int32 → SS → Option (Int32 × SS)) (x1 : Int32) (x2 : Int32) (s1 : SS) : Option (Int32 × SS) :=
  rc2 x1 (x2 + 1) s1
def f_X12_isOfOne_c2  : Nat → Int32 → Int32 → SS → Option (Int32 × SS)
  | 0, _, _, _ => none
  | n + 1, x1, x2, s1 => if (s1.1 0 7) ≤ x2 then some (1, s1) else if zin x2 462 = true then if (s1.1 5 (x2).toNatClampNeg) = 1 then f_X12_isOfOne_c33 (f_X12_isOfOne_c2 n) x1 x2 s1 else zbd (f_X12_numberAt x1 x2 s1) (fun r2 s3 => if (lg_cmp r2 (0 : Int64)) = 0 then f_X12_isOfOne_c33 (f_X12_isOfOne_c2 n) x1 x2 s3 else some (0, s3)) else none
def f_X12_isOfOne (x1 : Int32) (s0 : SS) : Option (Int32 × SS) :=
  f_X12_isOfOne_c2 ZF x1 0 s0
def f_X12_layCut_c207 (rc174 : Int32 → Int32 → SS → Option (Unit × SS)) (x2 : Int32) (x3 : Int32) (t0 : Int64) (t1 : Int32) (s1 : SS) : Option (Unit × SS) :=
  if zin t1 462 = true then rc174 x2 (x3 + 1) (zSL s1 15 (t1).toNatClampNeg t0) else none
def f_X12_layCut_c174  : Nat → Int32 → Int32 → SS → Option (Unit × SS)
  | 0, _, _, _ => none
  | n + 1, x2, x3, s1 => if (s1.1 0 7) ≤ x3 then some ((), s1) else if zin x3 462 = true then if (s1.1 5 (x3).toNatClampNeg) = x2 then if zin x3 462 = true then f_X12_layCut_c207 (f_X12_layCut_c174 n) x2 x3 (s1.2 15 (x3).toNatClampNeg) x3 s1 else none else f_X12_layCut_c207 (f_X12_layCut_c174 n) x2 x3 0 x3 s1 else none
def f_X12_layCut_c116 (rc92 : Int32 → Int32 → Int32 → Int32 → SS → Option (Unit × SS)) (rc10 : Int32 → Int32 → Int32 → SS → Option (Unit × SS)) : Nat → Int32 → Int32 → Int32 → Int32 → Int32 → SS → Option (Unit × SS)
  | 0, _, _, _, _, _, _ => none
  | n + 1, x1, x2, x3, x4, x5, s1 => if (s1.1 0 7) ≤ x5 then rc92 x1 x2 x3 (x4 + 1) s1 else if zin x5 462 = true then if zin x5 462 = true then if zin x5 462 = true then (f_X12_layCut_c116 rc92 rc10 n) x1 x2 x3 x4 (x5 + 1) (zSL s1 34 (x5).toNatClampNeg (((s1.2 34 (x5).toNatClampNeg) + (s1.2 13 (x5).toNatClampNeg)))) else none else none else none
def f_X12_layCut_c92 (rc10 : Int32 → Int32 → Int32 → SS → Option (Unit × SS)) : Nat → Int32 → Int32 → Int32 → Int32 → SS → Option (Unit × SS)
  | 0, _, _, _, _, _ => none
  | n + 1, x1, x2, x3, x4, s1 => if (s1.1 0 1) ≤ x4 then zbd (f_X12_multiply 15 34 s1) (fun _ s19 => rc10 x1 x2 (x3 + 1) s19) else zbd (f_X12_multiply 13 14 s1) (fun _ s22 => f_X12_layCut_c116 (f_X12_layCut_c92 rc10 n) rc10 ZF x1 x2 x3 x4 0 s22)
def f_X12_layCut_c43 (rc10 : Int32 → Int32 → Int32 → SS → Option (Unit × SS)) : Nat → Int32 → Int32 → Int32 → Int32 → SS → Option (Unit × SS)
  | 0, _, _, _, _, _ => none
  | n + 1, x1, x2, x3, x4, s1 => if (s1.1 0 7) ≤ x4 then zbd (f_X12_layOne 34 s1) (fun _ s13 => zbd (f_X12_layOne 13 s13) (fun _ s16 => f_X12_layCut_c92 rc10 ZF x1 x2 x3 0 s16)) else if zin x4 462 = true then if zin x4 462 = true then (f_X12_layCut_c43 rc10 n) x1 x2 x3 (x4 + 1) (zSL s1 14 (x4).toNatClampNeg (-(s1.2 14 (x4).toNatClampNeg))) else none else none
def f_X12_layCut_c10  : Nat → Int32 → Int32 → Int32 → SS → Option (Unit × SS)
  | 0, _, _, _, _ => none
  | n + 1, x1, x2, x3, s1 => if zin x1 3 = true then if (s1.1 23 (x1).toNatClampNeg) ≤ x3 then f_X12_layCut_c174 ZF x2 0 s1 else if zin (((20 : Int32) * x1) + x3) 60 = true then zbd (f_X12_layClass (((s1.2 24 ((((20 : Int32) * x1) + x3)).toNatClampNeg)).toInt32) 14 s1) (fun _ s10 => f_X12_layCut_c43 (f_X12_layCut_c10 n) ZF x1 x2 x3 0 s10) else none else none
def f_X12_layCut (x1 : Int32) (x2 : Int32) (s0 : SS) : Option (Unit × SS) :=
  zbd (f_X12_layChern 15 s0) (fun _ s2 => f_X12_layCut_c10 ZF x1 x2 0 s2)
def f_X12_eulerOf (x1 : Int32) (x2 : Int32) (s0 : SS) : Option (Int64 × SS) :=
  zbd (f_X12_layCut x1 x2 s0) (fun _ s2 => zbd (f_X12_layAll x1 s2) (fun _ s5 => zbd (f_X12_multiply 13 15 s5) (fun _ s8 => zbd (f_X12_metOf 13 s8) (fun r10 s11 => some (r10, s11)))))
def f_X12_cutOut_c184  (x1 : Int32) (x2 : Int32) (x3 : Int32) (s1 : SS) : Option (Int64 × SS) :=
  zbd (f_X12_eulerOf x1 x3 s1) (fun r16 s17 => if x2 = 2 then some (r16, s17) else some (((1 : Int64) - (r16 / (2 : Int64))), s17))
def f_X12_cutOut_c137  : Nat → Int32 → Int32 → SS → Option (Int64 × SS)
  | 0, _, _, _ => none
  | n + 1, x3, x4, s1 => if x3 ≤ x4 then zbd (f_X12_metOf 13 s1) (fun r25 s26 => some (r25, s26)) else zbd (f_X12_multiply 13 14 s1) (fun _ s29 => (f_X12_cutOut_c137 n) x3 (x4 + 1) s29)
def f_X12_cutOut_c58  : Nat → Int32 → Int32 → Int32 → SS → Option (Int64 × SS)
  | 0, _, _, _, _ => none
  | n + 1, x1, x2, x3, s1 => if zin x1 3 = true then if (s1.1 23 (x1).toNatClampNeg) ≤ x3 then if zin x1 3 = true then if x2 = 0 then some ((((s1.1 0 1) - (s1.1 23 (x1).toNatClampNeg))).toInt64, s1) else if x2 = 1 then zbd (f_X12_layAll x1 s1) (fun _ s20 => zbd (f_X12_layCanonical 14 s20) (fun _ s23 => f_X12_cutOut_c137 ZF ((s1.1 0 1) - (s1.1 23 (x1).toNatClampNeg)) 0 s23)) else if x2 = 3 then if ((s1.1 0 1) - (s1.1 23 (x1).toNatClampNeg)) = 1 then f_X12_cutOut_c184 x1 x2 ((s1.1 0 1) - (s1.1 23 (x1).toNatClampNeg)) s1 else some ((-9223372036854775807), s1) else f_X12_cutOut_c184 x1 x2 ((s1.1 0 1) - (s1.1 23 (x1).toNatClampNeg)) s1 else none else if zin (((20 : Int32) * x1) + x3) 60 = true then zbd (f_X12_isOfOne (((s1.2 24 ((((20 : Int32) * x1) + x3)).toNatClampNeg)).toInt32) s1) (fun r32 s33 => if r32 = 0 then some ((-9223372036854775807), s33) else (f_X12_cutOut_c58 n) x1 x2 (x3 + 1) s33) else none else none
def f_X12_cutOut (x1 : Int32) (x2 : Int32) (s0 : SS) : Option (Int64 × SS) :=
  zbd (f_X12_in ((x2).toInt64) (0 : Int64) (3 : Int64) s0) (fun r1 s2 => if r1 = 0 then some ((-9223372036854775808), s2) else zbd (f_X12_isThere x1 s2) (fun r4 s5 => if r4 = 0 then some ((-9223372036854775808), s5) else zbd (f_X12_isBare s5) (fun r7 s8 => if r7 = 0 then some ((-9223372036854775807), s8) else zbd (f_X12_areClasses x1 s8) (fun r10 s11 => if r10 = 0 then some ((-9223372036854775807), s11) else if zin x1 3 = true then if (s11.1 23 (x1).toNatClampNeg) ≤ (s11.1 0 1) then f_X12_cutOut_c58 ZF x1 x2 0 s11 else some ((-9223372036854775807), s11) else none))))
def f_X12_timesConic (x1 : Int64) (x3 : Int64) (s0 : SS) : Option (Unit × SS) :=
  zbd (f_X12_empty 14 s0) (fun _ s2 => if zin 1 600000 = true then if zin (s2.1 7 ((1 : Int32)).toNatClampNeg) 462 = true then if zin 10 600000 = true then if zin (((zSL s2 14 ((s2.1 7 ((1 : Int32)).toNatClampNeg)).toNatClampNeg x1).1 7 ((10 : Int32)).toNatClampNeg)) 462 = true then zbd (f_X12_multiply 13 14 (zSL (zSL s2 14 ((s2.1 7 ((1 : Int32)).toNatClampNeg)).toNatClampNeg x1) 14 (((zSL s2 14 ((s2.1 7 ((1 : Int32)).toNatClampNeg)).toNatClampNeg x1).1 7 ((10 : Int32)).toNatClampNeg)).toNatClampNeg x3)) (fun _ s9 => some ((), s9)) else none else none else none else none)
def f_X12_through_c188  : Nat → Int32 → Int32 → Int32 → SS → Option (Int64 × SS)
  | 0, _, _, _, _ => none
  | n + 1, x3, x4, x5, s1 => if x4 ≤ x5 then zbd (f_X12_metOf 13 s1) (fun r11 s12 => some (r11, s12)) else if zin (((20 : Int32) * x3) + x5) 60 = true then if zin (((((20 : Int32) * x3) + x5) + (1 : Int32))) 60 = true then zbd (f_X12_timesConic (((s1.2 24 (((((20 : Int32) * x3) + x5) + (1 : Int32))).toNatClampNeg) + ((2 : Int64) * (s1.2 24 ((((20 : Int32) * x3) + x5)).toNatClampNeg)))) (-(s1.2 24 ((((20 : Int32) * x3) + x5)).toNatClampNeg)) s1) (fun _ s17 => (f_X12_through_c188 n) x3 x4 (x5 + 2) s17) else none else none
def f_X12_through_c163  : Nat → Int32 → Int32 → Int32 → Int32 → SS → Option (Int64 × SS)
  | 0, _, _, _, _, _ => none
  | n + 1, x2, x3, x4, x5, s1 => if x2 ≤ x5 then f_X12_through_c188 ZF x3 x4 0 s1 else zbd (f_X12_timesConic (2 : Int64) (-1 : Int64) s1) (fun _ s20 => (f_X12_through_c163 n) x2 x3 x4 (x5 + 1) s20)
def f_X12_through_c142  : Nat → Int32 → Int32 → Int32 → Int32 → Int32 → SS → Option (Int64 × SS)
  | 0, _, _, _, _, _, _ => none
  | n + 1, x1, x2, x3, x4, x5, s1 => if x1 ≤ x5 then f_X12_through_c163 ZF x2 x3 x4 0 s1 else zbd (f_X12_timesConic (1 : Int64) (0 : Int64) s1) (fun _ s23 => (f_X12_through_c142 n) x1 x2 x3 x4 (x5 + 1) s23)
def f_X12_through_c92  : Nat → Int32 → Int32 → Int32 → Int32 → Int32 → SS → Option (Int64 × SS)
  | 0, _, _, _, _, _, _ => none
  | n + 1, x1, x2, x3, x4, x5, s1 => if x4 ≤ x5 then zbd (f_X12_layOne 13 s1) (fun _ s9 => f_X12_through_c142 ZF x1 x2 x3 x4 0 s9) else if zin (((20 : Int32) * x3) + x5) 60 = true then zbd (f_X12_in (s1.2 24 ((((20 : Int32) * x3) + x5)).toNatClampNeg) (0 : Int64) (99 : Int64) s1) (fun r26 s27 => if r26 = 0 then some ((-9223372036854775807), s27) else (f_X12_through_c92 n) x1 x2 x3 x4 (x5 + 1) s27) else none
def f_X12_through_c56  (x1 : Int32) (x2 : Int32) (x3 : Int32) (t0 : Int32) (s1 : SS) : Option (Int64 × SS) :=
  if (s1.1 0 0) = 2 then if (t0 - t0 / (2 : Int32) * (2 : Int32)) = 0 then if ((x1 + x2) + (t0 / (2 : Int32))) = 5 then f_X12_through_c92 ZF x1 x2 x3 t0 0 s1 else some ((-9223372036854775807), s1) else some ((-9223372036854775807), s1) else some ((-9223372036854775807), s1)
def f_X12_through_c41  (x1 : Int32) (x2 : Int32) (x3 : Int32) (s1 : SS) : Option (Int64 × SS) :=
  if x3 = (-1) then f_X12_through_c56 x1 x2 x3 0 s1 else if zin x3 3 = true then f_X12_through_c56 x1 x2 x3 (s1.1 23 (x3).toNatClampNeg) s1 else none
def f_X12_through (x1 : Int32) (x2 : Int32) (x3 : Int32) (s0 : SS) : Option (Int64 × SS) :=
  zbd (f_X12_in ((x1).toInt64) (0 : Int64) (5 : Int64) s0) (fun r1 s2 => if r1 = 0 then some ((-9223372036854775808), s2) else zbd (f_X12_in ((x2).toInt64) (0 : Int64) (5 : Int64) s2) (fun r4 s5 => if r4 = 0 then some ((-9223372036854775808), s5) else if x3 = (-1) then f_X12_through_c41 x1 x2 x3 s5 else zbd (f_X12_isThere x3 s5) (fun r29 s30 => if r29 = 0 then some ((-9223372036854775808), s30) else f_X12_through_c41 x1 x2 x3 s30)))
def f_X12_fits_c194 (rc96 : Int32 → Int64 → Int32 → Int32 → Int32 → Int32 → Int32 → Int32 → Int32 → SS → Option (Int32 × SS)) (rc86 : Int32 → Int64 → Int32 → Int32 → Int32 → Int32 → Int32 → Int32 → SS → Option (Int32 × SS)) (x2 : Int32) (x3 : Int64) (x5 : Int32) (x6 : Int32) (x7 : Int32) (x8 : Int32) (x9 : Int32) (x10 : Int32) (x11 : Int32) (s1 : SS) : Option (Int32 × SS) :=
  rc96 x2 x3 x5 x6 x7 x8 x9 x10 (x11 + 1) s1
def f_X12_fits_c189 (rc96 : Int32 → Int64 → Int32 → Int32 → Int32 → Int32 → Int32 → Int32 → Int32 → SS → Option (Int32 × SS)) (rc86 : Int32 → Int64 → Int32 → Int32 → Int32 → Int32 → Int32 → Int32 → SS → Option (Int32 × SS)) (x2 : Int32) (x3 : Int64) (x5 : Int32) (x6 : Int32) (x7 : Int32) (x8 : Int32) (x10 : Int32) (x11 : Int32) (t0 : Int32) (s1 : SS) : Option (Int32 × SS) :=
  f_X12_fits_c194 rc96 rc86 x2 x3 x5 x6 x7 (x8 + 1) t0 x10 x11 s1
def f_X12_fits_c125 (rc96 : Int32 → Int64 → Int32 → Int32 → Int32 → Int32 → Int32 → Int32 → Int32 → SS → Option (Int32 × SS)) (rc86 : Int32 → Int64 → Int32 → Int32 → Int32 → Int32 → Int32 → Int32 → SS → Option (Int32 × SS)) : Nat → Int32 → Int64 → Int32 → Int32 → Int32 → Int32 → Int32 → Int32 → Int32 → Int64 → Int32 → SS → Option (Int32 × SS)
  | 0, _, _, _, _, _, _, _, _, _, _, _, _ => none
  | n + 1, x2, x3, x5, x6, x7, x8, x9, x10, x11, x12, x14, s1 => if (s1.1 0 7) ≤ x14 then if (lg_cmp x12 x3) = 0 then if x8 = 0 then f_X12_fits_c189 rc96 rc86 x2 x3 x5 x6 x7 x8 x10 x11 (((10 : Int32) * x10) + x11) s1 else f_X12_fits_c189 rc96 rc86 x2 x3 x5 x6 x7 x8 x10 x11 x9 s1 else f_X12_fits_c194 rc96 rc86 x2 x3 x5 x6 x7 x8 x9 x10 x11 s1 else if zin x14 462 = true then if zin x14 462 = true then zbd (f_X12_worthBy (s1.1 4 (x14).toNatClampNeg) s1) (fun r21 s22 => (f_X12_fits_c125 rc96 rc86 n) x2 x3 x5 x6 x7 x8 x9 x10 x11 (x12 + ((s1.2 13 (x14).toNatClampNeg) * r21)) (x14 + 1) s22) else none else none
def f_X12_fits_c96 (rc86 : Int32 → Int64 → Int32 → Int32 → Int32 → Int32 → Int32 → Int32 → SS → Option (Int32 × SS)) : Nat → Int32 → Int64 → Int32 → Int32 → Int32 → Int32 → Int32 → Int32 → Int32 → SS → Option (Int32 × SS)
  | 0, _, _, _, _, _, _, _, _, _, _ => none
  | n + 1, x2, x3, x5, x6, x7, x8, x9, x10, x11, s1 => if 10 ≤ x11 then rc86 x2 x3 x5 x6 x7 x8 x9 (x10 + 1) s1 else if zin x2 3 = true then if zin x2 3 = true then f_X12_fits_c125 (f_X12_fits_c96 rc86 n) rc86 ZF x2 x3 x5 x6 x7 x8 x9 x10 x11 0 0 (zS (zS s1 2 (x2).toNatClampNeg x10) 3 (x2).toNatClampNeg x11) else none else none
def f_X12_fits_c86  : Nat → Int32 → Int64 → Int32 → Int32 → Int32 → Int32 → Int32 → Int32 → SS → Option (Int32 × SS)
  | 0, _, _, _, _, _, _, _, _, _ => none
  | n + 1, x2, x3, x5, x6, x7, x8, x9, x10, s1 => if 10 ≤ x10 then if zin x2 3 = true then if zin x2 3 = true then if x5 = 0 then some (x8, (zS (zS s1 2 (x2).toNatClampNeg x6) 3 (x2).toNatClampNeg x7)) else some (x9, (zS (zS s1 2 (x2).toNatClampNeg x6) 3 (x2).toNatClampNeg x7)) else none else none else f_X12_fits_c96 (f_X12_fits_c86 n) ZF x2 x3 x5 x6 x7 x8 x9 x10 0 s1
def f_X12_fits (x1 : Int32) (x2 : Int32) (x3 : Int64) (x5 : Int32) (s0 : SS) : Option (Int32 × SS) :=
  zbd (f_X12_isClass ((x1).toInt64) s0) (fun r1 s2 => if r1 = 0 then some ((-1), s2) else if (s2.1 0 0) = 1 then zbd (f_X12_in ((x2).toInt64) (0 : Int64) ((((s2.1 0 4) - (1 : Int32))).toInt64) s2) (fun r4 s5 => if r4 = 0 then some ((-1), s5) else zbd (f_X12_in ((x5).toInt64) (0 : Int64) (1 : Int64) s5) (fun r7 s8 => if r7 = 0 then some ((-1), s8) else zbd (f_X12_layClass x1 13 s8) (fun _ s11 => if zin x2 3 = true then if zin x2 3 = true then f_X12_fits_c86 ZF x2 x3 x5 (s11.1 2 (x2).toNatClampNeg) (s11.1 3 (x2).toNatClampNeg) 0 (-2) 1 s11 else none else none))) else some ((-5), s2))
def f_X12_judge_c50  : Nat → Int32 → Int32 → Int32 → SS → Option (Int32 × SS)
  | 0, _, _, _, _ => none
  | n + 1, x1, x2, x3, s1 => if x2 ≤ x3 then if (s1.1 0 12) ≤ x2 then some ((-2), s1) else some (((100 : Int32) + x2), s1) else zbd (f_X12_layClass x3 13 s1) (fun _ s7 => zbd (f_X12_metOf 13 s7) (fun r9 s10 => if zin (((20 : Int32) * x1) + x3) 60 = true then if (lg_cmp r9 (s10.2 24 ((((20 : Int32) * x1) + x3)).toNatClampNeg)) = 0 then (f_X12_judge_c50 n) x1 x2 (x3 + 1) s10 else some (x3, s10) else none))
def f_X12_judge_c47  (x1 : Int32) (t0 : Int32) (s1 : SS) : Option (Int32 × SS) :=
  f_X12_judge_c50 ZF x1 t0 0 s1
def f_X12_judge (x1 : Int32) (s0 : SS) : Option (Int32 × SS) :=
  zbd (f_X12_isList x1 s0) (fun r1 s2 => if r1 = 0 then some ((-1), s2) else if zin x1 3 = true then if 0 ≤ (s2.1 22 (x1).toNatClampNeg) then if zin x1 3 = true then if (s2.1 0 12) ≤ (s2.1 23 (x1).toNatClampNeg) then f_X12_judge_c47 x1 (s2.1 0 12) s2 else if zin x1 3 = true then f_X12_judge_c47 x1 (s2.1 23 (x1).toNatClampNeg) s2 else none else none else some ((-11), s2) else none)
def f_X12_draw (x1 : Int32) (s0 : SS) : Option (Int32 × SS) :=
  if x1 = 0 then none else some ((((((zS s0 0 51 (((s0.1 0 51) * (1103515245 : Int32)) + (12345 : Int32))).1 0 51) &&& (2147483647 : Int32)) / (65536 : Int32)) - ((((zS s0 0 51 (((s0.1 0 51) * (1103515245 : Int32)) + (12345 : Int32))).1 0 51) &&& (2147483647 : Int32)) / (65536 : Int32)) / x1 * x1), (zS s0 0 51 (((s0.1 0 51) * (1103515245 : Int32)) + (12345 : Int32))))
def f_X12_lots_c142 (rc51 : Int32 → Int32 → Int64 → Int64 → Int32 → SS → Option (Int64 × SS)) (x1 : Int32) (x3 : Int32) (x4 : Int64) (x8 : Int32) (t0 : Int64) (t1 : Int64) (s1 : SS) : Option (Int64 × SS) :=
  rc51 x1 x3 x4 (t1 + t0) (x8 + 1) s1
def f_X12_lots_c68 (rc51 : Int32 → Int32 → Int64 → Int64 → Int32 → SS → Option (Int64 × SS)) : Nat → Int32 → Int32 → Int64 → Int64 → Int32 → Int32 → SS → Option (Int64 × SS)
  | 0, _, _, _, _, _, _, _ => none
  | n + 1, x1, x3, x4, x6, x8, x9, s1 => if (s1.1 0 1) ≤ x9 then zbd (f_X12_metOf 13 s1) (fun r10 s11 => if (lg_cmp r10 (0 : Int64)) = 0 then f_X12_lots_c142 rc51 x1 x3 (x4 + r10) x8 1 x6 s11 else f_X12_lots_c142 rc51 x1 x3 (x4 + r10) x8 0 x6 s11) else zbd (f_X12_draw (s1.1 0 12) s1) (fun r13 s14 => zbd (f_X12_layClass r13 14 s14) (fun _ s17 => zbd (f_X12_multiply 13 14 s17) (fun _ s20 => (f_X12_lots_c68 rc51 n) x1 x3 x4 x6 x8 (x9 + 1) s20)))
def f_X12_lots_c51  : Nat → Int32 → Int32 → Int64 → Int64 → Int32 → SS → Option (Int64 × SS)
  | 0, _, _, _, _, _, _ => none
  | n + 1, x1, x3, x4, x6, x8, s1 => if x1 ≤ x8 then if x3 = 0 then some (x4, s1) else some (x6, s1) else zbd (f_X12_layOne 13 s1) (fun _ s8 => f_X12_lots_c68 (f_X12_lots_c51 n) ZF x1 x3 x4 x6 x8 0 s8)
def f_X12_lots (x1 : Int32) (x2 : Int32) (x3 : Int32) (s0 : SS) : Option (Int64 × SS) :=
  zbd (f_X12_in ((x1).toInt64) (1 : Int64) (50 : Int64) s0) (fun r1 s2 => if r1 = 0 then some ((-9223372036854775808), s2) else zbd (f_X12_in ((x3).toInt64) (0 : Int64) (1 : Int64) s2) (fun r4 s5 => if r4 = 0 then some ((-9223372036854775808), s5) else if (s5.1 0 12) = 0 then some ((-9223372036854775807), s5) else f_X12_lots_c51 ZF x1 x3 0 0 0 (zS s5 0 51 x2)))
def f_X12_feed (x1 : Int32) (s0 : SS) : Option (Int32 × SS) :=
  zbd (f_X12_in ((x1).toInt64) (32 : Int64) (126 : Int64) s0) (fun r1 s2 => if r1 = 0 then some ((-1), s2) else if (s2.1 0 27) = 80 then some ((-3), s2) else if zin (s2.1 0 27) 80 = true then some (((zS (zS s2 20 ((s2.1 0 27)).toNatClampNeg x1) 0 27 (((zS s2 20 ((s2.1 0 27)).toNatClampNeg x1).1 0 27) + (1 : Int32))).1 0 27), (zS (zS s2 20 ((s2.1 0 27)).toNatClampNeg x1) 0 27 (((zS s2 20 ((s2.1 0 27)).toNatClampNeg x1).1 0 27) + (1 : Int32)))) else none)
def f_X12_wipe  (s0 : SS) : Option (Int32 × SS) :=
  some ((s0.1 0 27), (zS s0 0 27 0))
def f_X12_here  (s0 : SS) : Option (Int32 × SS) :=
  if (s0.1 0 27) ≤ (s0.1 0 52) then some ((-1), s0) else if zin (s0.1 0 52) 80 = true then some ((s0.1 20 ((s0.1 0 52)).toNatClampNeg), s0) else none
def f_X12_isFigure  (s0 : SS) : Option (Int32 × SS) :=
  zbd (f_X12_here s0) (fun r1 s2 => zbd (f_X12_in ((r1).toInt64) (48 : Int64) (57 : Int64) s2) (fun r4 s5 => if znar .boolean r4 = true then some (r4, s5) else none))
def f_X12_letterHere_c2  : Nat → Int32 → SS → Option (Int32 × SS)
  | 0, _, _ => none
  | n + 1, x2, s1 => zbd (f_X12_letters s1) (fun r1 s2 => if r1 ≤ x2 then some ((-1), s2) else zbd (f_X12_here s2) (fun r4 s5 => zbd (f_X12_nameOf x2 s5) (fun r7 s8 => if r4 = r7 then some (x2, s8) else (f_X12_letterHere_c2 n) (x2 + 1) s8)))
def f_X12_letterHere (x1 : Int32) (s0 : SS) : Option (Int32 × SS) :=
  f_X12_letterHere_c2 ZF x1 s0
def f_X12_readPowers_c162 (rc10 : Int32 → Int32 → Int32 → SS → Option (Int32 × SS)) (x1 : Int32) (x2 : Int32) (x3 : Int32) (x4 : Int32) (s1 : SS) : Option (Int32 × SS) :=
  zbd (f_X12_tens x3 s1) (fun r8 s9 => zbd (f_X12_letterHere (x3 + (1 : Int32)) s9) (fun r11 s12 => rc10 (x1 + (x4 * r8)) (x2 + x4) r11 s12))
def f_X12_readPowers_c158 (rc10 : Int32 → Int32 → Int32 → SS → Option (Int32 × SS)) (x1 : Int32) (x2 : Int32) (x3 : Int32) (x4 : Int32) (t0 : Int32) (t1 : Int32) (s1 : SS) : Option (Int32 × SS) :=
  f_X12_readPowers_c162 rc10 x1 x2 x3 x4 (zS s1 0 52 (t1 + t0))
def f_X12_readPowers_c139 (rc10 : Int32 → Int32 → Int32 → SS → Option (Int32 × SS)) (x1 : Int32) (x2 : Int32) (x3 : Int32) (t0 : Int32) (s1 : SS) : Option (Int32 × SS) :=
  if (s1.1 0 53) = 0 then f_X12_readPowers_c158 rc10 x1 x2 x3 t0 1 (s1.1 0 52) s1 else f_X12_readPowers_c158 rc10 x1 x2 x3 t0 0 (s1.1 0 52) s1
def f_X12_readPowers_c118 (rc10 : Int32 → Int32 → Int32 → SS → Option (Int32 × SS)) (x1 : Int32) (x2 : Int32) (x3 : Int32) (t0 : Int32) (s1 : SS) : Option (Int32 × SS) :=
  if zb01 t0 = true then if ((zS s1 0 53 t0).1 0 53) = 0 then zbd (f_X12_here (zS s1 0 53 t0)) (fun r21 s22 => f_X12_readPowers_c139 rc10 x1 x2 x3 (r21 - (48 : Int32)) s22) else f_X12_readPowers_c139 rc10 x1 x2 x3 0 (zS s1 0 53 t0) else none
def f_X12_readPowers_c113 (rc10 : Int32 → Int32 → Int32 → SS → Option (Int32 × SS)) (x1 : Int32) (x2 : Int32) (x3 : Int32) (s1 : SS) : Option (Int32 × SS) :=
  f_X12_readPowers_c118 rc10 x1 x2 x3 1 s1
def f_X12_readPowers_c37 (rc10 : Int32 → Int32 → Int32 → SS → Option (Int32 × SS)) (x1 : Int32) (x2 : Int32) (x3 : Int32) (t0 : Int32) (s1 : SS) : Option (Int32 × SS) :=
  if zb01 t0 = true then if ((zS s1 0 53 t0).1 0 53) = 0 then zbd (f_X12_here (zS (zS s1 0 53 t0) 0 52 (((zS s1 0 53 t0).1 0 52) + (1 : Int32)))) (fun r5 s6 => if r5 = 94 then zbd (f_X12_here (zS s6 0 52 ((s6.1 0 52) + (1 : Int32)))) (fun r14 s15 => zbd (f_X12_in ((r14).toInt64) (49 : Int64) (53 : Int64) s15) (fun r17 s18 => if r17 = 0 then f_X12_readPowers_c113 rc10 x1 x2 x3 s18 else zbd (f_X12_here s18) (fun r24 s25 => if ((x2 + r24) - (48 : Int32)) ≤ (s25.1 0 1) then f_X12_readPowers_c118 rc10 x1 x2 x3 0 s25 else f_X12_readPowers_c113 rc10 x1 x2 x3 s25))) else f_X12_readPowers_c162 rc10 x1 x2 x3 1 s6) else rc10 x1 x2 x3 (zS s1 0 53 t0) else none
def f_X12_readPowers_c10  : Nat → Int32 → Int32 → Int32 → SS → Option (Int32 × SS)
  | 0, _, _, _, _ => none
  | n + 1, x1, x2, x3, s1 => if x3 < 0 then some (x1, s1) else if (s1.1 0 53) = 0 then if (x2 + (1 : Int32)) ≤ (s1.1 0 1) then f_X12_readPowers_c37 (f_X12_readPowers_c10 n) x1 x2 x3 0 s1 else f_X12_readPowers_c37 (f_X12_readPowers_c10 n) x1 x2 x3 1 s1 else some (x1, s1)
def f_X12_readPowers  (s0 : SS) : Option (Int32 × SS) :=
  zbd (f_X12_letterHere (0 : Int32) s0) (fun r1 s2 => f_X12_readPowers_c10 ZF 0 0 r1 s2)
def f_X12_readMember_c106  (t0 : Int64) (t1 : Int64) (t2 : Int64) (t3 : Int32) (s1 : SS) : Option (Unit × SS) :=
  if zin t3 462 = true then some ((), (zSL s1 15 (t3).toNatClampNeg (t2 + (t1 * t0)))) else none
def f_X12_readMember_c69  (x1 : Int64) (x3 : Int64) (x5 : Int32) (s1 : SS) : Option (Unit × SS) :=
  zbd (f_X12_readPowers s1) (fun r1 s2 => if (s2.1 0 53) = 0 then if zin r1 600000 = true then if zin (s2.1 7 (r1).toNatClampNeg) 462 = true then if x5 = 0 then f_X12_readMember_c106 1 x1 (s2.2 15 ((s2.1 7 (r1).toNatClampNeg)).toNatClampNeg) (s2.1 7 (r1).toNatClampNeg) s2 else f_X12_readMember_c106 x3 x1 (s2.2 15 ((s2.1 7 (r1).toNatClampNeg)).toNatClampNeg) (s2.1 7 (r1).toNatClampNeg) s2 else none else none else some ((), s2))
def f_X12_readMember_c50  (x1 : Int64) (x3 : Int64) (x5 : Int32) (s1 : SS) : Option (Unit × SS) :=
  if x5 = 0 then zbd (f_X12_letterHere (0 : Int32) s1) (fun r7 s8 => if 0 ≤ r7 then f_X12_readMember_c69 x1 x3 x5 s8 else some ((), (zS s8 0 53 1))) else f_X12_readMember_c69 x1 x3 x5 s1
def f_X12_readMember_c5  : Nat → Int64 → Int64 → Int32 → SS → Option (Unit × SS)
  | 0, _, _, _, _ => none
  | n + 1, x1, x3, x5, s1 => if 4 ≤ x5 then f_X12_readMember_c50 x1 x3 x5 s1 else zbd (f_X12_isFigure s1) (fun r10 s11 => if r10 = 0 then f_X12_readMember_c50 x1 x3 x5 s11 else zbd (f_X12_here s11) (fun r13 s14 => (f_X12_readMember_c5 n) x1 ((((10 : Int64) * x3) + (r13).toInt64) - (48 : Int64)) (x5 + 1) (zS s14 0 52 ((s14.1 0 52) + (1 : Int32)))))
def f_X12_readMember (x1 : Int64) (s0 : SS) : Option (Unit × SS) :=
  f_X12_readMember_c5 ZF x1 0 0 s0
def f_X12_isClassText_c147   (s1 : SS) : Option (Int32 × SS) :=
  if (s1.1 0 53) = 0 then some (1, s1) else some (0, s1)
def f_X12_isClassText_c128 (rc60 : SS → Option (Int32 × SS)) (t0 : Int64) (s1 : SS) : Option (Int32 × SS) :=
  zbd (f_X12_readMember t0 (zS s1 0 52 ((s1.1 0 52) + (1 : Int32)))) (fun _ s18 => rc60  s18)
def f_X12_isClassText_c102 (rc60 : SS → Option (Int32 × SS)) (t0 : Int32) (s1 : SS) : Option (Int32 × SS) :=
  if zb01 t0 = true then if ((zS s1 0 53 t0).1 0 53) = 0 then zbd (f_X12_here (zS s1 0 53 t0)) (fun r14 s15 => if r14 = 45 then f_X12_isClassText_c128 rc60 (-1) s15 else f_X12_isClassText_c128 rc60 1 s15) else rc60  (zS s1 0 53 t0) else none
def f_X12_isClassText_c101 (rc60 : SS → Option (Int32 × SS))  (s1 : SS) : Option (Int32 × SS) :=
  f_X12_isClassText_c102 rc60 0 s1
def f_X12_isClassText_c60  : Nat → SS → Option (Int32 × SS)
  | 0, _ => none
  | n + 1, s1 => if (s1.1 0 53) = 0 then if (s1.1 0 27) ≤ (s1.1 0 52) then f_X12_isClassText_c147  s1 else zbd (f_X12_here s1) (fun r10 s11 => if r10 = 43 then f_X12_isClassText_c101 (f_X12_isClassText_c60 n)  s11 else zbd (f_X12_here s11) (fun r20 s21 => if r20 = 45 then f_X12_isClassText_c101 (f_X12_isClassText_c60 n)  s21 else f_X12_isClassText_c102 (f_X12_isClassText_c60 n) 1 s21)) else f_X12_isClassText_c147  s1
def f_X12_isClassText_c51  (x1 : Int64) (t0 : Int32) (t1 : Int32) (s1 : SS) : Option (Int32 × SS) :=
  zbd (f_X12_readMember x1 (zS s1 0 52 (t1 + t0))) (fun _ s8 => f_X12_isClassText_c60 ZF  s8)
def f_X12_isClassText_c34  (t0 : Int64) (s1 : SS) : Option (Int32 × SS) :=
  if 0 ≤ (lg_cmp t0 (0 : Int64)) then f_X12_isClassText_c51 t0 0 (s1.1 0 52) s1 else f_X12_isClassText_c51 t0 1 (s1.1 0 52) s1
def f_X12_isClassText  (s0 : SS) : Option (Int32 × SS) :=
  zbd (f_X12_empty 15 (zS (zS s0 0 52 0) 0 53 0)) (fun _ s2 => zbd (f_X12_here s2) (fun r4 s5 => if r4 = 45 then f_X12_isClassText_c34 (-1) s5 else f_X12_isClassText_c34 1 s5))
def f_X12_read  (s0 : SS) : Option (Int32 × SS) :=
  zbd (f_X12_isClassText s0) (fun r1 s2 => if r1 = 0 then some (((-100 : Int32) - ((zS s2 0 27 0).1 0 52)), (zS s2 0 27 0)) else if ((zS s2 0 27 0).1 0 12) = 8 then some ((-3), (zS s2 0 27 0)) else zbd (f_X12_forget (zS s2 0 27 0)) (fun _ s5 => zbd (f_X12_comes 15 s5) (fun r7 s8 => some (r7, s8))))
def f_X12_isWord_c57 (rc20 : Int32 → Nat → Int32 → Int32 → SS → Option (Int32 × SS)) (x1 : Int32) (w3 : Nat) (x5 : Int32) (t0 : Int32) (s1 : SS) : Option (Int32 × SS) :=
  if zl5 w3 = true then rc20 x1 w3 t0 (x5 + 1) s1 else none
def f_X12_isWord_c20  : Nat → Int32 → Nat → Int32 → Int32 → SS → Option (Int32 × SS)
  | 0, _, _, _, _, _ => none
  | n + 1, x1, w3, x4, x5, s1 => if zl5 w3 = true then zbd (f_J0_length_8abf5 w3 s1) (fun r4 s5 => if r4 ≤ x5 then if znar .boolean x4 = true then some (x4, s5) else none else if x4 = 0 then if znar .boolean x4 = true then some (x4, s5) else none else if zin (x1 + x5) 80 = true then zbd (f_J0_charAt_5068e w3 x5 s5) (fun r10 s11 => if (s5.1 20 ((x1 + x5)).toNatClampNeg) = r10 then f_X12_isWord_c57 (f_X12_isWord_c20 n) x1 w3 x5 1 s11 else f_X12_isWord_c57 (f_X12_isWord_c20 n) x1 w3 x5 0 s11) else none) else none
def f_X12_isWord_c15  (x1 : Int32) (w3 : Nat) (t0 : Int32) (s1 : SS) : Option (Int32 × SS) :=
  if zl5 w3 = true then f_X12_isWord_c20 ZF x1 w3 t0 0 s1 else none
def f_X12_isWord (x1 : Int32) (x2 : Int32) (w3 : Nat) (s0 : SS) : Option (Int32 × SS) :=
  if zl5 w3 = true then zbd (f_J0_length_8abf5 w3 s0) (fun r1 s2 => if (x2 - x1) = r1 then f_X12_isWord_c15 x1 w3 1 s2 else f_X12_isWord_c15 x1 w3 0 s2) else none
def f_X12_wordOf (x1 : Int32) (x2 : Int32) (s0 : SS) : Option (Int32 × SS) :=
  zbd (f_X12_isWord x1 x2 0 s0) (fun r1 s2 => if r1 = 0 then zbd (f_X12_isWord x1 x2 1 s2) (fun r4 s5 => if r4 = 0 then zbd (f_X12_isWord x1 x2 2 s5) (fun r7 s8 => if r7 = 0 then zbd (f_X12_isWord x1 x2 3 s8) (fun r10 s11 => if r10 = 0 then zbd (f_X12_isWord x1 x2 4 s11) (fun r13 s14 => if r13 = 0 then some ((-1), s14) else some (4, s14)) else some (3, s11)) else some (2, s8)) else some (1, s5)) else some (0, s2))
def f_X12_readNumber_c87  (t0 : Int32) (s1 : SS) : Option (Int32 × SS) :=
  if (s1.1 0 53) = 0 then some (t0, (zS s1 0 52 ((s1.1 0 52) + (1 : Int32)))) else some (t0, (zS s1 0 52 ((s1.1 0 52) + (0 : Int32))))
def f_X12_readNumber_c66  (t0 : Int32) (s1 : SS) : Option (Int32 × SS) :=
  if zb01 t0 = true then if ((zS s1 0 53 t0).1 0 53) = 0 then zbd (f_X12_here (zS s1 0 53 t0)) (fun r3 s4 => f_X12_readNumber_c87 (r3 - (48 : Int32)) s4) else f_X12_readNumber_c87 0 (zS s1 0 53 t0) else none
def f_X12_readNumber_c61   (s1 : SS) : Option (Int32 × SS) :=
  f_X12_readNumber_c66 1 s1
def f_X12_readNumber_c42  (t0 : Int32) (t1 : Int32) (s1 : SS) : Option (Int32 × SS) :=
  if ((zS s1 0 52 (t1 + t0)).1 0 53) = 0 then zbd (f_X12_isFigure (zS s1 0 52 (t1 + t0))) (fun r6 s7 => if r6 = 0 then f_X12_readNumber_c61  s7 else f_X12_readNumber_c66 0 s7) else f_X12_readNumber_c61  (zS s1 0 52 (t1 + t0))
def f_X12_readNumber_c22  (t0 : Int32) (s1 : SS) : Option (Int32 × SS) :=
  if zb01 t0 = true then if ((zS s1 0 53 t0).1 0 53) = 0 then f_X12_readNumber_c42 1 ((zS s1 0 53 t0).1 0 52) (zS s1 0 53 t0) else f_X12_readNumber_c42 0 ((zS s1 0 53 t0).1 0 52) (zS s1 0 53 t0) else none
def f_X12_readNumber_c17   (s1 : SS) : Option (Int32 × SS) :=
  f_X12_readNumber_c22 1 s1
def f_X12_readNumber  (s0 : SS) : Option (Int32 × SS) :=
  if (s0.1 0 53) = 0 then zbd (f_X12_here s0) (fun r9 s10 => if r9 = 32 then f_X12_readNumber_c22 0 s10 else f_X12_readNumber_c17  s10) else f_X12_readNumber_c17  s0
def f_X12_readAct_c5  : Nat → Int32 → SS → Option (Unit × SS)
  | 0, _, _ => none
  | n + 1, x1, s1 => zbd (f_X12_here s1) (fun r1 s2 => zbd (f_X12_in ((r1).toInt64) (97 : Int64) (122 : Int64) s2) (fun r4 s5 => if r4 = 0 then zbd (f_X12_wordOf x1 (s5.1 0 52) s5) (fun r7 s8 => if 0 ≤ r7 then if zin (s8.1 0 54) 20 = true then zbd (f_X12_readNumber (zS s8 35 ((s8.1 0 54)).toNatClampNeg r7)) (fun r11 s12 => if zin ((zS s8 35 ((s8.1 0 54)).toNatClampNeg r7).1 0 54) 20 = true then zbd (f_X12_readNumber (zS s12 36 (((zS s8 35 ((s8.1 0 54)).toNatClampNeg r7).1 0 54)).toNatClampNeg r11)) (fun r15 s16 => if zin ((zS s12 36 (((zS s8 35 ((s8.1 0 54)).toNatClampNeg r7).1 0 54)).toNatClampNeg r11).1 0 54) 20 = true then if ((zS s16 37 (((zS s12 36 (((zS s8 35 ((s8.1 0 54)).toNatClampNeg r7).1 0 54)).toNatClampNeg r11).1 0 54)).toNatClampNeg r15).1 0 53) = 0 then some ((), (zS (zS s16 37 (((zS s12 36 (((zS s8 35 ((s8.1 0 54)).toNatClampNeg r7).1 0 54)).toNatClampNeg r11).1 0 54)).toNatClampNeg r15) 0 54 (((zS s16 37 (((zS s12 36 (((zS s8 35 ((s8.1 0 54)).toNatClampNeg r7).1 0 54)).toNatClampNeg r11).1 0 54)).toNatClampNeg r15).1 0 54) + (1 : Int32)))) else some ((), (zS (zS s16 37 (((zS s12 36 (((zS s8 35 ((s8.1 0 54)).toNatClampNeg r7).1 0 54)).toNatClampNeg r11).1 0 54)).toNatClampNeg r15) 0 54 (((zS s16 37 (((zS s12 36 (((zS s8 35 ((s8.1 0 54)).toNatClampNeg r7).1 0 54)).toNatClampNeg r11).1 0 54)).toNatClampNeg r15).1 0 54) + (0 : Int32)))) else none) else none) else none else some ((), (zS (zS s8 0 52 x1) 0 53 1))) else (f_X12_readAct_c5 n) x1 (zS s5 0 52 ((s5.1 0 52) + (1 : Int32)))))
def f_X12_readAct  (s0 : SS) : Option (Unit × SS) :=
  f_X12_readAct_c5 ZF (s0.1 0 52) s0
def f_X12_isActsText_c79   (s1 : SS) : Option (Int32 × SS) :=
  if (s1.1 0 53) = 0 then some (1, s1) else some (0, s1)
def f_X12_isActsText_c52 (rc19 : SS → Option (Int32 × SS)) (t0 : Int32) (s1 : SS) : Option (Int32 × SS) :=
  if zb01 t0 = true then if ((zS s1 0 53 t0).1 0 53) = 0 then zbd (f_X12_readAct (zS (zS s1 0 53 t0) 0 52 (((zS s1 0 53 t0).1 0 52) + (1 : Int32)))) (fun _ s9 => rc19  s9) else rc19  (zS s1 0 53 t0) else none
def f_X12_isActsText_c19  : Nat → SS → Option (Int32 × SS)
  | 0, _ => none
  | n + 1, s1 => if (s1.1 0 53) = 0 then if (s1.1 0 27) ≤ (s1.1 0 52) then f_X12_isActsText_c79  s1 else zbd (f_X12_here s1) (fun r4 s5 => if r4 = 59 then f_X12_isActsText_c52 (f_X12_isActsText_c19 n) 0 s5 else f_X12_isActsText_c52 (f_X12_isActsText_c19 n) 1 s5) else f_X12_isActsText_c79  s1
def f_X12_isActsText  (s0 : SS) : Option (Int32 × SS) :=
  zbd (f_X12_readAct (zS (zS (zS s0 0 52 0) 0 54 0) 0 53 0)) (fun _ s2 => f_X12_isActsText_c19 ZF  s2)
def f_X12_workOut_c181 (rc142 : Int32 → Int32 → SS → Option (Unit × SS)) (x1 : Int32) (x4 : Int32) (t0 : Int64) (t1 : Int64) (t2 : Int32) (s1 : SS) : Option (Unit × SS) :=
  if zin t2 462 = true then rc142 x1 (x4 + 1) (zSL s1 13 (t2).toNatClampNeg (t1 + t0)) else none
def f_X12_workOut_c142  : Nat → Int32 → Int32 → SS → Option (Unit × SS)
  | 0, _, _, _ => none
  | n + 1, x1, x4, s1 => if (s1.1 0 7) ≤ x4 then some ((), s1) else if zin x4 462 = true then if x1 = 0 then if zin x4 462 = true then f_X12_workOut_c181 (f_X12_workOut_c142 n) x1 x4 (s1.2 14 (x4).toNatClampNeg) (s1.2 13 (x4).toNatClampNeg) x4 s1 else none else if zin x4 462 = true then f_X12_workOut_c181 (f_X12_workOut_c142 n) x1 x4 (-(s1.2 14 (x4).toNatClampNeg)) (s1.2 13 (x4).toNatClampNeg) x4 s1 else none else none
def f_X12_workOut_c104 (rc67 : Int32 → Int32 → SS → Option (Unit × SS)) (x3 : Int32) (x4 : Int32) (t0 : Int64) (t1 : Int32) (s1 : SS) : Option (Unit × SS) :=
  if zin t1 462 = true then rc67 x3 (x4 + 1) (zSL s1 13 (t1).toNatClampNeg t0) else none
def f_X12_workOut_c67  : Nat → Int32 → Int32 → SS → Option (Unit × SS)
  | 0, _, _, _ => none
  | n + 1, x3, x4, s1 => if (s1.1 0 7) ≤ x4 then some ((), s1) else if zin x4 462 = true then if (s1.1 5 (x4).toNatClampNeg) = x3 then if zin x4 462 = true then f_X12_workOut_c104 (f_X12_workOut_c67 n) x3 x4 (s1.2 13 (x4).toNatClampNeg) x4 s1 else none else f_X12_workOut_c104 (f_X12_workOut_c67 n) x3 x4 0 x4 s1 else none
def f_X12_workOut_c25  : Nat → Int32 → Int32 → SS → Option (Unit × SS)
  | 0, _, _, _ => none
  | n + 1, x3, x4, s1 => if x3 ≤ x4 then some ((), s1) else zbd (f_X12_multiply 13 14 s1) (fun _ s24 => (f_X12_workOut_c25 n) x3 (x4 + 1) s24)
def f_X12_workOut (x1 : Int32) (x2 : Int32) (x3 : Int32) (s0 : SS) : Option (Unit × SS) :=
  if x1 = 3 then zbd (f_X12_layOne 13 s0) (fun _ s18 => zbd (f_X12_layClass x2 14 s18) (fun _ s21 => f_X12_workOut_c25 ZF x3 0 s21)) else zbd (f_X12_layClass x2 13 s0) (fun _ s2 => if x1 = 4 then f_X12_workOut_c67 ZF x3 0 s2 else zbd (f_X12_layClass x3 14 s2) (fun _ s5 => if x1 = 1 then zbd (f_X12_multiply 13 14 s5) (fun _ s12 => some ((), s12)) else f_X12_workOut_c142 ZF x1 0 s5))
def f_X12_acts_c103 (rc29 : Int32 → Int32 → SS → Option (Int32 × SS)) (x2 : Int32) (x3 : Int32) (t0 : Int32) (s1 : SS) : Option (Int32 × SS) :=
  if t0 = 0 then some (((-200 : Int32) - x3), (zS s1 0 12 x2)) else if zin x3 20 = true then if zin x3 20 = true then if zin x3 20 = true then zbd (f_X12_workOut (s1.1 35 (x3).toNatClampNeg) (s1.1 36 (x3).toNatClampNeg) (s1.1 37 (x3).toNatClampNeg) s1) (fun _ s11 => zbd (f_X12_comes 13 s11) (fun r13 s14 => rc29 x2 (x3 + 1) s14)) else none else none else none
def f_X12_acts_c102 (rc29 : Int32 → Int32 → SS → Option (Int32 × SS)) (x2 : Int32) (x3 : Int32) (s1 : SS) : Option (Int32 × SS) :=
  f_X12_acts_c103 rc29 x2 x3 0 s1
def f_X12_acts_c98 (rc29 : Int32 → Int32 → SS → Option (Int32 × SS)) (x2 : Int32) (x3 : Int32) (s1 : SS) : Option (Int32 × SS) :=
  f_X12_acts_c103 rc29 x2 x3 1 s1
def f_X12_acts_c29  : Nat → Int32 → Int32 → SS → Option (Int32 × SS)
  | 0, _, _, _ => none
  | n + 1, x2, x3, s1 => if (s1.1 0 54) ≤ x3 then zbd (f_X12_forget s1) (fun _ s5 => some ((s5.1 0 54), s5)) else if 8 ≤ (s1.1 0 12) then f_X12_acts_c102 (f_X12_acts_c29 n) x2 x3 s1 else if zin x3 20 = true then zbd (f_X12_isClass (((s1.1 36 (x3).toNatClampNeg)).toInt64) s1) (fun r17 s18 => if r17 = 0 then f_X12_acts_c102 (f_X12_acts_c29 n) x2 x3 s18 else if zin x3 20 = true then if 3 ≤ (s18.1 35 (x3).toNatClampNeg) then if zin x3 20 = true then if 6 < (s18.1 37 (x3).toNatClampNeg) then f_X12_acts_c102 (f_X12_acts_c29 n) x2 x3 s18 else f_X12_acts_c98 (f_X12_acts_c29 n) x2 x3 s18 else none else if zin x3 20 = true then zbd (f_X12_isClass (((s18.1 37 (x3).toNatClampNeg)).toInt64) s18) (fun r23 s24 => if r23 = 0 then f_X12_acts_c102 (f_X12_acts_c29 n) x2 x3 s24 else f_X12_acts_c98 (f_X12_acts_c29 n) x2 x3 s24) else none else none) else none
def f_X12_acts  (s0 : SS) : Option (Int32 × SS) :=
  zbd (f_X12_isActsText s0) (fun r1 s2 => if r1 = 0 then some (((-100 : Int32) - ((zS s2 0 27 0).1 0 52)), (zS s2 0 27 0)) else f_X12_acts_c29 ZF ((zS s2 0 27 0).1 0 12) 0 (zS s2 0 27 0))
def f_X12_lay (x1 : Int32) (s0 : SS) : Option (Unit × SS) :=
  if 200 ≤ (s0.1 0 58) then some ((), (zS s0 0 58 ((s0.1 0 58) + (1 : Int32)))) else if zin (s0.1 0 58) 200 = true then some ((), (zS (zS s0 21 ((s0.1 0 58)).toNatClampNeg x1) 0 58 (((zS s0 21 ((s0.1 0 58)).toNatClampNeg x1).1 0 58) + (1 : Int32)))) else none
def f_X12_layNumber_c44 (rc5 : Int32 → Int64 → SS → Option (Unit × SS)) (x3 : Int32) (x4 : Int64) (t0 : Int64) (t1 : Int32) (s1 : SS) : Option (Unit × SS) :=
  if zin t1 20 = true then rc5 (x3 + 1) (x4 / (10 : Int64)) (zS s1 38 (t1).toNatClampNeg ((t0).toInt32)) else none
def f_X12_layNumber_c16 (rc5 : Int32 → Int64 → SS → Option (Unit × SS)) (x3 : Int32) (x4 : Int64) (s1 : SS) : Option (Unit × SS) :=
  if 0 ≤ (lg_cmp (x4 - x4 / (10 : Int64) * (10 : Int64)) (0 : Int64)) then f_X12_layNumber_c44 rc5 x3 x4 (x4 - x4 / (10 : Int64) * (10 : Int64)) x3 s1 else f_X12_layNumber_c44 rc5 x3 x4 (-(x4 - x4 / (10 : Int64) * (10 : Int64))) x3 s1
def f_X12_layNumber_c65  : Nat → Int32 → SS → Option (Unit × SS)
  | 0, _, _ => none
  | n + 1, x6, s1 => if x6 < 0 then some ((), s1) else if zin x6 20 = true then zbd (f_X12_lay (((48 : Int32) + (s1.1 38 (x6).toNatClampNeg))) s1) (fun _ s4 => (f_X12_layNumber_c65 n) (x6 + (-1)) s4) else none
def f_X12_layNumber_c5  : Nat → Int32 → Int64 → SS → Option (Unit × SS)
  | 0, _, _, _ => none
  | n + 1, x3, x4, s1 => if (lg_cmp x4 (0 : Int64)) = 0 then if x3 = 0 then f_X12_layNumber_c16 (f_X12_layNumber_c5 n) x3 x4 s1 else f_X12_layNumber_c65 ZF (x3 - (1 : Int32)) s1 else f_X12_layNumber_c16 (f_X12_layNumber_c5 n) x3 x4 s1
def f_X12_layNumber (x1 : Int64) (s0 : SS) : Option (Unit × SS) :=
  f_X12_layNumber_c5 ZF 0 x1 s0
def f_X12_write_c183   (s1 : SS) : Option (Int32 × SS) :=
  if 200 ≤ (s1.1 0 58) then some (((zS s1 0 29 200).1 0 58), (zS s1 0 29 200)) else some (((zS s1 0 29 (s1.1 0 58)).1 0 58), (zS s1 0 29 (s1.1 0 58)))
def f_X12_write_c164 (rc18 : Int32 → Int32 → SS → Option (Int32 × SS)) (x1 : Int32) (x2 : Int32) (s1 : SS) : Option (Int32 × SS) :=
  rc18 x1 (x2 + 1) s1
def f_X12_write_c158 (rc100 : Int32 → Int32 → Int32 → SS → Option (Int32 × SS)) (rc18 : Int32 → Int32 → SS → Option (Int32 × SS)) (x1 : Int32) (x2 : Int32) (x5 : Int32) (s1 : SS) : Option (Int32 × SS) :=
  rc100 x1 x2 (x5 + 1) s1
def f_X12_write_c137 (rc100 : Int32 → Int32 → Int32 → SS → Option (Int32 × SS)) (rc18 : Int32 → Int32 → SS → Option (Int32 × SS)) (x1 : Int32) (x2 : Int32) (x5 : Int32) (x6 : Int32) (s1 : SS) : Option (Int32 × SS) :=
  if x6 ≤ 1 then f_X12_write_c158 rc100 rc18 x1 x2 x5 s1 else zbd (f_X12_lay (94 : Int32) s1) (fun _ s22 => zbd (f_X12_lay ((48 : Int32) + x6) s22) (fun _ s25 => f_X12_write_c158 rc100 rc18 x1 x2 x5 s25))
def f_X12_write_c100 (rc18 : Int32 → Int32 → SS → Option (Int32 × SS)) : Nat → Int32 → Int32 → Int32 → SS → Option (Int32 × SS)
  | 0, _, _, _, _ => none
  | n + 1, x1, x2, x5, s1 => zbd (f_X12_letters s1) (fun r14 s15 => if r14 ≤ x5 then f_X12_write_c164 rc18 x1 x2 s15 else if zin x2 462 = true then zbd (f_X12_powerIn (s15.1 4 (x2).toNatClampNeg) x5 s15) (fun r18 s19 => if r18 ≤ 0 then f_X12_write_c137 (f_X12_write_c100 rc18 n) rc18 x1 x2 x5 r18 s19 else zbd (f_X12_nameOf x5 s19) (fun r27 s28 => zbd (f_X12_lay r27 s28) (fun _ s31 => f_X12_write_c137 (f_X12_write_c100 rc18 n) rc18 x1 x2 x5 r18 s31))) else none)
def f_X12_write_c97 (rc18 : Int32 → Int32 → SS → Option (Int32 × SS)) (x1 : Int32) (x2 : Int32) (s1 : SS) : Option (Int32 × SS) :=
  f_X12_write_c100 rc18 ZF x1 x2 0 s1
def f_X12_write_c92 (rc18 : Int32 → Int32 → SS → Option (Int32 × SS)) (x1 : Int32) (x2 : Int32) (x3 : Int64) (s1 : SS) : Option (Int32 × SS) :=
  zbd (f_X12_layNumber x3 s1) (fun _ s34 => f_X12_write_c97 rc18 x1 x2 s34)
def f_X12_write_c83 (rc18 : Int32 → Int32 → SS → Option (Int32 × SS)) (x1 : Int32) (x2 : Int32) (x3 : Int64) (s1 : SS) : Option (Int32 × SS) :=
  if zin x2 462 = true then if (s1.1 5 (x2).toNatClampNeg) = 0 then f_X12_write_c92 rc18 x1 x2 x3 s1 else f_X12_write_c97 rc18 x1 x2 s1 else none
def f_X12_write_c69 (rc18 : Int32 → Int32 → SS → Option (Int32 × SS)) (x1 : Int32) (x2 : Int32) (x3 : Int64) (s1 : SS) : Option (Int32 × SS) :=
  if (lg_cmp x3 (1 : Int64)) = 0 then f_X12_write_c83 rc18 x1 x2 x3 s1 else if (lg_cmp x3 (-1 : Int64)) = 0 then f_X12_write_c83 rc18 x1 x2 x3 s1 else f_X12_write_c92 rc18 x1 x2 x3 s1
def f_X12_write_c66 (rc18 : Int32 → Int32 → SS → Option (Int32 × SS)) (x1 : Int32) (x2 : Int32) (x3 : Int64) (t0 : Int32) (s1 : SS) : Option (Int32 × SS) :=
  zbd (f_X12_lay t0 s1) (fun _ s11 => f_X12_write_c69 rc18 x1 x2 x3 s11)
def f_X12_write_c52 (rc18 : Int32 → Int32 → SS → Option (Int32 × SS)) (x1 : Int32) (x2 : Int32) (x3 : Int64) (s1 : SS) : Option (Int32 × SS) :=
  if 0 ≤ (lg_cmp x3 (0 : Int64)) then f_X12_write_c66 rc18 x1 x2 x3 43 s1 else f_X12_write_c66 rc18 x1 x2 x3 45 s1
def f_X12_write_c18  : Nat → Int32 → Int32 → SS → Option (Int32 × SS)
  | 0, _, _, _ => none
  | n + 1, x1, x2, s1 => if (s1.1 0 7) ≤ x2 then if (s1.1 0 58) = 0 then zbd (f_X12_lay (48 : Int32) s1) (fun _ s5 => f_X12_write_c183  s5) else f_X12_write_c183  s1 else zbd (f_X12_numberAt x1 x2 s1) (fun r7 s8 => if (lg_cmp r7 (0 : Int64)) = 0 then f_X12_write_c164 (f_X12_write_c18 n) x1 x2 s8 else if (lg_cmp r7 (0 : Int64)) < 0 then f_X12_write_c52 (f_X12_write_c18 n) x1 x2 r7 s8 else if (s8.1 0 58) ≤ 0 then f_X12_write_c69 (f_X12_write_c18 n) x1 x2 r7 s8 else f_X12_write_c52 (f_X12_write_c18 n) x1 x2 r7 s8)
def f_X12_write (x1 : Int32) (s0 : SS) : Option (Int32 × SS) :=
  zbd (f_X12_isClass ((x1).toInt64) s0) (fun r1 s2 => if r1 = 0 then some ((-1), s2) else f_X12_write_c18 ZF x1 0 (zS s2 0 58 0))
def f_X12_paper (x1 : Int32) (s0 : SS) : Option (Int32 × SS) :=
  zbd (f_X12_in ((x1).toInt64) (0 : Int64) ((((s0.1 0 29) - (1 : Int32))).toInt64) s0) (fun r1 s2 => if r1 = 0 then some ((-2), s2) else if zin x1 200 = true then some ((s2.1 21 (x1).toNatClampNeg), s2) else none)
def f_X12_list_c67  : Nat → Int32 → Int32 → SS → Option (Int32 × SS)
  | 0, _, _, _ => none
  | n + 1, x1, x4, s1 => if 20 ≤ x4 then some (1, s1) else if zin (((20 : Int32) * x1) + x4) 60 = true then (f_X12_list_c67 n) x1 (x4 + 1) (zSL s1 24 ((((20 : Int32) * x1) + x4)).toNatClampNeg 0) else none
def f_X12_list_c63  (x1 : Int32) (t0 : Int32) (t1 : Int32) (s1 : SS) : Option (Int32 × SS) :=
  if zin t1 3 = true then f_X12_list_c67 ZF x1 0 (zS s1 23 (t1).toNatClampNeg t0) else none
def f_X12_list_c42  (x1 : Int32) (x2 : Int32) (x3 : Int32) (s1 : SS) : Option (Int32 × SS) :=
  if zin x1 3 = true then if 0 ≤ x2 then f_X12_list_c63 x1 x3 x1 (zS s1 22 (x1).toNatClampNeg x2) else f_X12_list_c63 x1 0 x1 (zS s1 22 (x1).toNatClampNeg x2) else none
def f_X12_list_c31  (x1 : Int32) (x2 : Int32) (x3 : Int32) (s1 : SS) : Option (Int32 × SS) :=
  if x2 < 0 then f_X12_list_c42 x1 x2 x3 s1 else if 0 ≤ x3 then f_X12_list_c42 x1 x2 x3 s1 else some ((-14), s1)
def f_X12_list (x1 : Int32) (x2 : Int32) (x3 : Int32) (s0 : SS) : Option (Int32 × SS) :=
  zbd (f_X12_isList x1 s0) (fun r1 s2 => if r1 = 0 then some ((-1), s2) else zbd (f_X12_in ((x2).toInt64) (-1 : Int64) (1 : Int64) s2) (fun r4 s5 => if r4 = 0 then some ((-1), s5) else if x2 < 0 then f_X12_list_c31 x1 x2 x3 s5 else if x3 ≤ 20 then f_X12_list_c31 x1 x2 x3 s5 else some ((-1), s5)))
def f_X12_put_c68  (t0 : Int64) (t1 : Int32) (s1 : SS) : Option (Int32 × SS) :=
  if zin t1 60 = true then some (1, (zSL s1 24 (t1).toNatClampNeg t0)) else none
def f_X12_put (x1 : Int32) (x2 : Int32) (x3 : Int64) (s0 : SS) : Option (Int32 × SS) :=
  zbd (f_X12_isList x1 s0) (fun r1 s2 => if r1 = 0 then some ((-1), s2) else if zin x1 3 = true then if 0 ≤ (s2.1 22 (x1).toNatClampNeg) then if zin x1 3 = true then zbd (f_X12_in ((x2).toInt64) (0 : Int64) ((((s2.1 23 (x1).toNatClampNeg) - (1 : Int32))).toInt64) s2) (fun r6 s7 => if r6 = 0 then some ((-13), s7) else if zin x1 3 = true then if (s7.1 22 (x1).toNatClampNeg) = 0 then f_X12_put_c68 ((x3).toInt32).toInt64 (((20 : Int32) * x1) + x2) s7 else f_X12_put_c68 x3 (((20 : Int32) * x1) + x2) s7 else none) else none else some ((-11), s2) else none)
def f_X12_get (x1 : Int32) (x2 : Int32) (s0 : SS) : Option (Int64 × SS) :=
  zbd (f_X12_isThere x1 s0) (fun r1 s2 => if r1 = 0 then some ((-9223372036854775808), s2) else if zin x1 3 = true then zbd (f_X12_in ((x2).toInt64) (0 : Int64) ((((s2.1 23 (x1).toNatClampNeg) - (1 : Int32))).toInt64) s2) (fun r5 s6 => if r5 = 0 then some ((-9223372036854775808), s6) else if zin (((20 : Int32) * x1) + x2) 60 = true then some ((s6.2 24 ((((20 : Int32) * x1) + x2)).toNatClampNeg), s6) else none) else none)
def f_X12_copy_c147  : Nat → Int32 → Int32 → Int32 → Int32 → SS → Option (Int32 × SS)
  | 0, _, _, _, _, _ => none
  | n + 1, x3, x4, x5, x6, s1 => if x5 ≤ x6 then some (x5, s1) else if zin x6 20 = true then if zin ((((20 : Int32) * x3) + x4) + x6) 60 = true then (f_X12_copy_c147 n) x3 x4 x5 (x6 + 1) (zSL s1 24 (((((20 : Int32) * x3) + x4) + x6)).toNatClampNeg (s1.2 39 (x6).toNatClampNeg)) else none else none
def f_X12_copy_c110  : Nat → Int32 → Int32 → Int32 → Int32 → Int32 → Int32 → SS → Option (Int32 × SS)
  | 0, _, _, _, _, _, _, _ => none
  | n + 1, x1, x2, x3, x4, x5, x6, s1 => if x5 ≤ x6 then f_X12_copy_c147 ZF x3 x4 x5 0 s1 else if zin ((((20 : Int32) * x1) + x2) + x6) 60 = true then if zin x6 20 = true then (f_X12_copy_c110 n) x1 x2 x3 x4 x5 (x6 + 1) (zSL s1 39 (x6).toNatClampNeg (s1.2 24 (((((20 : Int32) * x1) + x2) + x6)).toNatClampNeg)) else none else none
def f_X12_copy (x1 : Int32) (x2 : Int32) (x3 : Int32) (x4 : Int32) (x5 : Int32) (s0 : SS) : Option (Int32 × SS) :=
  zbd (f_X12_isList x1 s0) (fun r1 s2 => if r1 = 0 then some ((-1), s2) else zbd (f_X12_isList x3 s2) (fun r4 s5 => if r4 = 0 then some ((-1), s5) else if zin x1 3 = true then if (s5.1 22 (x1).toNatClampNeg) < 0 then some ((-11), s5) else if zin x3 3 = true then if 0 ≤ (s5.1 22 (x3).toNatClampNeg) then if zin x1 3 = true then if zin x3 3 = true then if (s5.1 22 (x1).toNatClampNeg) = (s5.1 22 (x3).toNatClampNeg) then if x5 < 0 then some ((-13), s5) else if x2 < 0 then some ((-13), s5) else if x4 < 0 then some ((-13), s5) else if zin x1 3 = true then if 0 < (lg_cmp ((x2).toInt64 + (x5).toInt64) ((s5.1 23 (x1).toNatClampNeg)).toInt64) then some ((-13), s5) else if zin x3 3 = true then if (lg_cmp ((x4).toInt64 + (x5).toInt64) ((s5.1 23 (x3).toNatClampNeg)).toInt64) ≤ 0 then f_X12_copy_c110 ZF x1 x2 x3 x4 x5 0 s5 else some ((-13), s5) else none else none else some ((-12), s5) else none else none else some ((-11), s5) else none else none))
def f_X12_begins (x1 : Int32) (s0 : SS) : Option (Unit × SS) :=
  if 24 ≤ (s0.1 0 34) then some ((), s0) else if zin (s0.1 0 34) 24 = true then some ((), (zS (zS s0 25 ((s0.1 0 34)).toNatClampNeg x1) 0 34 (((zS s0 25 ((s0.1 0 34)).toNatClampNeg x1).1 0 34) + (1 : Int32)))) else none
def f_X12_meetsBy_c63  (x3 : Int32) (t0 : Int32) (s1 : SS) : Option (Int32 × SS) :=
  if x3 = 4 then some ((t0 * (3 : Int32)), s1) else some (t0, s1)
def f_X12_meetsBy_c55  (x3 : Int32) (x4 : Int32) (s1 : SS) : Option (Int32 × SS) :=
  f_X12_meetsBy_c63 x3 (-x4) s1
def f_X12_meetsBy_c34  (x1 : Int32) (x2 : Int32) (x3 : Int32) (s1 : SS) : Option (Int32 × SS) :=
  zbd (f_X12_begins (10 : Int32) s1) (fun _ s6 => if x3 = 2 then f_X12_meetsBy_c55 x3 (x2 + x1) s6 else if x3 = 4 then f_X12_meetsBy_c55 x3 (x2 + x1) s6 else f_X12_meetsBy_c63 x3 (x2 + x1) s6)
def f_X12_meetsBy_c28  (x1 : Int32) (x2 : Int32) (x3 : Int32) (s1 : SS) : Option (Int32 × SS) :=
  zbd (f_X12_begins (30 : Int32) s1) (fun _ s3 => f_X12_meetsBy_c34 x1 x2 x3 s3)
def f_X12_meetsBy_c18  (x1 : Int32) (x2 : Int32) (x3 : Int32) (s1 : SS) : Option (Int32 × SS) :=
  if x3 = 2 then f_X12_meetsBy_c28 x1 x2 x3 s1 else if x3 = 4 then f_X12_meetsBy_c28 x1 x2 x3 s1 else f_X12_meetsBy_c34 x1 x2 x3 s1
def f_X12_meetsBy (x1 : Int32) (x2 : Int32) (s0 : SS) : Option (Int32 × SS) :=
  if zin x1 8 = true then if (s0.1 8 (x1).toNatClampNeg) = 4 then zbd (f_X12_begins (41 : Int32) s0) (fun _ s9 => f_X12_meetsBy_c18 x1 x2 (s0.1 8 (x1).toNatClampNeg) s9) else f_X12_meetsBy_c18 x1 x2 (s0.1 8 (x1).toNatClampNeg) s0 else none
def f_X12_turnsBy_c34  (x1 : Int32) (x2 : Int32) (x3 : Int32) (s1 : SS) : Option (Int32 × SS) :=
  zbd (f_X12_begins (11 : Int32) s1) (fun _ s6 => zbd (f_X12_meetsBy x1 x2 s6) (fun r8 s9 => if x3 = 1 then some (((r8 * (2 : Int32)) ^^^ (3 : Int32)), s9) else if x3 = 5 then some (((r8 * (2 : Int32)) ^^^ (3 : Int32)), s9) else if x3 = 3 then zbd (f_X12_meetsBy x1 (2 : Int32) s9) (fun r11 s12 => some (((r8 * (2 : Int32)) + r11), s12)) else some ((r8 * (2 : Int32)), s9)))
def f_X12_turnsBy_c23  (x1 : Int32) (x2 : Int32) (x3 : Int32) (s1 : SS) : Option (Int32 × SS) :=
  if x3 = 3 then zbd (f_X12_begins (50 : Int32) s1) (fun _ s15 => f_X12_turnsBy_c34 x1 x2 x3 s15) else f_X12_turnsBy_c34 x1 x2 x3 s1
def f_X12_turnsBy_c17  (x1 : Int32) (x2 : Int32) (x3 : Int32) (s1 : SS) : Option (Int32 × SS) :=
  zbd (f_X12_begins (20 : Int32) s1) (fun _ s3 => f_X12_turnsBy_c23 x1 x2 x3 s3)
def f_X12_turnsBy (x1 : Int32) (x2 : Int32) (s0 : SS) : Option (Int32 × SS) :=
  if zin x1 8 = true then if (s0.1 8 (x1).toNatClampNeg) = 1 then f_X12_turnsBy_c17 x1 x2 (s0.1 8 (x1).toNatClampNeg) s0 else if (s0.1 8 (x1).toNatClampNeg) = 5 then f_X12_turnsBy_c17 x1 x2 (s0.1 8 (x1).toNatClampNeg) s0 else f_X12_turnsBy_c23 x1 x2 (s0.1 8 (x1).toNatClampNeg) s0 else none
def f_X12_tellsBy_c49  (x1 : Int32) (x3 : Int32) (t0 : Int32) (t1 : Int32) (s1 : SS) : Option (Int32 × SS) :=
  zbd (f_X12_turnsBy t1 t0 s1) (fun r5 s6 => if zin x1 8 = true then if x3 = 5 then if zin x1 8 = true then some (((r5 - (s6.1 9 (x1).toNatClampNeg)) ^^^ (s6.1 9 (x1).toNatClampNeg)), s6) else none else some ((r5 - (s6.1 9 (x1).toNatClampNeg)), s6) else none)
def f_X12_tellsBy_c29  (x1 : Int32) (x2 : Int32) (x3 : Int32) (s1 : SS) : Option (Int32 × SS) :=
  zbd (f_X12_begins (12 : Int32) s1) (fun _ s3 => if x3 = 4 then f_X12_tellsBy_c49 x1 x3 (x2 + (1 : Int32)) x1 s3 else f_X12_tellsBy_c49 x1 x3 x2 x1 s3)
def f_X12_tellsBy_c18  (x1 : Int32) (x2 : Int32) (x3 : Int32) (s1 : SS) : Option (Int32 × SS) :=
  if x3 = 5 then zbd (f_X12_begins (60 : Int32) s1) (fun _ s11 => f_X12_tellsBy_c29 x1 x2 x3 s11) else f_X12_tellsBy_c29 x1 x2 x3 s1
def f_X12_tellsBy (x1 : Int32) (x2 : Int32) (s0 : SS) : Option (Int32 × SS) :=
  if zin x1 8 = true then if (s0.1 8 (x1).toNatClampNeg) = 4 then zbd (f_X12_begins (40 : Int32) s0) (fun _ s14 => f_X12_tellsBy_c18 x1 x2 (s0.1 8 (x1).toNatClampNeg) s14) else f_X12_tellsBy_c18 x1 x2 (s0.1 8 (x1).toNatClampNeg) s0 else none
def f_X12_act (x1 : Int32) (x2 : Int32) (x3 : Int32) (s0 : SS) : Option (Int32 × SS) :=
  zbd (f_X12_isClass ((x1).toInt64) s0) (fun r1 s2 => if r1 = 0 then some (0, s2) else zbd (f_X12_in ((x2).toInt64) (0 : Int64) (2 : Int64) s2) (fun r4 s5 => if r4 = 0 then some (0, s5) else if x2 = 0 then zbd (f_X12_meetsBy x1 x3 (zS s5 0 34 0)) (fun r13 s14 => some (r13, s14)) else if x2 = 1 then zbd (f_X12_turnsBy x1 x3 (zS s5 0 34 0)) (fun r10 s11 => some (r10, s11)) else zbd (f_X12_tellsBy x1 x3 (zS s5 0 34 0)) (fun r7 s8 => some (r7, s8))))
def f_X12_trace (x1 : Int32) (s0 : SS) : Option (Int32 × SS) :=
  zbd (f_X12_in ((x1).toInt64) (0 : Int64) ((((s0.1 0 34) - (1 : Int32))).toInt64) s0) (fun r1 s2 => if r1 = 0 then some ((-2), s2) else if zin x1 24 = true then some ((s2.1 25 (x1).toNatClampNeg), s2) else none)
def f_X12_taken_c64  (x1 : Int32) (x2 : Int32) (t0 : Int32) (s1 : SS) : Option (Int32 × SS) :=
  if t0 = 0 then some ((-5), s1) else zbd (f_X12_in ((x2).toInt64) (2 : Int64) (4 : Int64) s1) (fun r8 s9 => if r8 = 0 then some (x1, s9) else if zin x1 8 = true then some ((s9.1 9 (x1).toNatClampNeg), s9) else none)
def f_X12_taken_c59  (x1 : Int32) (x2 : Int32) (s1 : SS) : Option (Int32 × SS) :=
  f_X12_taken_c64 x1 x2 1 s1
def f_X12_taken_c63  (x1 : Int32) (x2 : Int32) (s1 : SS) : Option (Int32 × SS) :=
  f_X12_taken_c64 x1 x2 0 s1
def f_X12_taken_c49  (x1 : Int32) (x2 : Int32) (x3 : Int32) (s1 : SS) : Option (Int32 × SS) :=
  if x2 = 1 then if x3 = 5 then f_X12_taken_c59 x1 x2 s1 else f_X12_taken_c63 x1 x2 s1 else f_X12_taken_c63 x1 x2 s1
def f_X12_taken (x1 : Int32) (x2 : Int32) (s0 : SS) : Option (Int32 × SS) :=
  zbd (f_X12_isClass ((x1).toInt64) s0) (fun r1 s2 => if r1 = 0 then some ((-1), s2) else zbd (f_X12_in ((x2).toInt64) (0 : Int64) (5 : Int64) s2) (fun r4 s5 => if r4 = 0 then some ((-1), s5) else if zin x1 8 = true then if x2 = 0 then f_X12_taken_c59 x1 x2 s5 else if x2 = (s5.1 8 (x1).toNatClampNeg) then f_X12_taken_c59 x1 x2 s5 else if x2 = 2 then if (s5.1 8 (x1).toNatClampNeg) = 4 then f_X12_taken_c59 x1 x2 s5 else f_X12_taken_c49 x1 x2 (s5.1 8 (x1).toNatClampNeg) s5 else f_X12_taken_c49 x1 x2 (s5.1 8 (x1).toNatClampNeg) s5 else none))
def f_X12_undo  (s0 : SS) : Option (Int32 × SS) :=
  if (s0.1 0 21) = 0 then some ((-5), s0) else if zin (((zS (zS s0 0 21 ((s0.1 0 21) - (1 : Int32))) 0 22 (((zS s0 0 21 ((s0.1 0 21) - (1 : Int32))).1 0 22) + (1 : Int32))).1 0 21)) 12 = true then if zin (((zS (zS s0 0 21 ((s0.1 0 21) - (1 : Int32))) 0 22 (((zS s0 0 21 ((s0.1 0 21) - (1 : Int32))).1 0 22) + (1 : Int32))).1 0 21)) 12 = true then if zin (((zS (zS s0 0 21 ((s0.1 0 21) - (1 : Int32))) 0 22 (((zS s0 0 21 ((s0.1 0 21) - (1 : Int32))).1 0 22) + (1 : Int32))).1 0 21)) 12 = true then zbd (f_X12_become (((zS (zS s0 0 21 ((s0.1 0 21) - (1 : Int32))) 0 22 (((zS s0 0 21 ((s0.1 0 21) - (1 : Int32))).1 0 22) + (1 : Int32))).1 16 (((zS (zS s0 0 21 ((s0.1 0 21) - (1 : Int32))) 0 22 (((zS s0 0 21 ((s0.1 0 21) - (1 : Int32))).1 0 22) + (1 : Int32))).1 0 21)).toNatClampNeg)) (((zS (zS s0 0 21 ((s0.1 0 21) - (1 : Int32))) 0 22 (((zS s0 0 21 ((s0.1 0 21) - (1 : Int32))).1 0 22) + (1 : Int32))).1 17 (((zS (zS s0 0 21 ((s0.1 0 21) - (1 : Int32))) 0 22 (((zS s0 0 21 ((s0.1 0 21) - (1 : Int32))).1 0 22) + (1 : Int32))).1 0 21)).toNatClampNeg)) (((zS (zS s0 0 21 ((s0.1 0 21) - (1 : Int32))) 0 22 (((zS s0 0 21 ((s0.1 0 21) - (1 : Int32))).1 0 22) + (1 : Int32))).1 18 (((zS (zS s0 0 21 ((s0.1 0 21) - (1 : Int32))) 0 22 (((zS s0 0 21 ((s0.1 0 21) - (1 : Int32))).1 0 22) + (1 : Int32))).1 0 21)).toNatClampNeg)) (zS (zS s0 0 21 ((s0.1 0 21) - (1 : Int32))) 0 22 (((zS s0 0 21 ((s0.1 0 21) - (1 : Int32))).1 0 22) + (1 : Int32)))) (fun _ s5 => some ((s5.1 0 21), s5)) else none else none else none
def f_X12_redo  (s0 : SS) : Option (Int32 × SS) :=
  if (s0.1 0 22) = 0 then some ((-5), s0) else if zin (s0.1 0 21) 12 = true then if zin (s0.1 0 21) 12 = true then if zin (s0.1 0 21) 12 = true then zbd (f_X12_become (s0.1 16 ((s0.1 0 21)).toNatClampNeg) (s0.1 17 ((s0.1 0 21)).toNatClampNeg) (s0.1 19 ((s0.1 0 21)).toNatClampNeg) s0) (fun _ s5 => some (((zS (zS s5 0 21 ((s5.1 0 21) + (1 : Int32))) 0 22 (((zS s5 0 21 ((s5.1 0 21) + (1 : Int32))).1 0 22) - (1 : Int32))).1 0 22), (zS (zS s5 0 21 ((s5.1 0 21) + (1 : Int32))) 0 22 (((zS s5 0 21 ((s5.1 0 21) + (1 : Int32))).1 0 22) - (1 : Int32))))) else none else none else none
def f_X12_image_c130 (rc96 : Int32 → SS → Option (Int32 × SS)) : Nat → Int32 → Int32 → SS → Option (Int32 × SS)
  | 0, _, _, _ => none
  | n + 1, x1, x2, s1 => if (s1.1 0 7) ≤ x2 then rc96 (x1 + 1) s1 else if zin (((462 : Int32) * x1) + x2) 3696 = true then if zin (((462 : Int32) * x1) + x2) 3696 = true then (f_X12_image_c130 rc96 n) x1 (x2 + 1) (zSL s1 31 ((((462 : Int32) * x1) + x2)).toNatClampNeg (s1.2 10 ((((462 : Int32) * x1) + x2)).toNatClampNeg)) else none else none
def f_X12_image_c96  : Nat → Int32 → SS → Option (Int32 × SS)
  | 0, _, _ => none
  | n + 1, x1, s1 => if (s1.1 0 12) ≤ x1 then some ((s1.1 0 12), s1) else if zin x1 8 = true then if zin x1 8 = true then if zin x1 8 = true then if zin x1 8 = true then f_X12_image_c130 (f_X12_image_c96 n) ZF x1 0 (zS (zS s1 29 (x1).toNatClampNeg (s1.1 8 (x1).toNatClampNeg)) 30 (x1).toNatClampNeg (((zS s1 29 (x1).toNatClampNeg (s1.1 8 (x1).toNatClampNeg)).1 9 (x1).toNatClampNeg))) else none else none else none else none
def f_X12_image_c39  : Nat → Int32 → SS → Option (Int32 × SS)
  | 0, _, _ => none
  | n + 1, x1, s1 => if 3 ≤ x1 then f_X12_image_c96 ZF 0 (zS s1 0 44 (s1.1 0 12)) else if zin x1 3 = true then if zin x1 3 = true then if zin x1 3 = true then if zin x1 3 = true then if zin x1 3 = true then if zin x1 3 = true then (f_X12_image_c39 n) (x1 + 1) (zS (zS (zS s1 26 (x1).toNatClampNeg (s1.1 1 (x1).toNatClampNeg)) 27 (x1).toNatClampNeg (((zS s1 26 (x1).toNatClampNeg (s1.1 1 (x1).toNatClampNeg)).1 2 (x1).toNatClampNeg))) 28 (x1).toNatClampNeg (((zS (zS s1 26 (x1).toNatClampNeg (s1.1 1 (x1).toNatClampNeg)) 27 (x1).toNatClampNeg (((zS s1 26 (x1).toNatClampNeg (s1.1 1 (x1).toNatClampNeg)).1 2 (x1).toNatClampNeg))).1 3 (x1).toNatClampNeg))) else none else none else none else none else none else none
def f_X12_image  (s0 : SS) : Option (Int32 × SS) :=
  f_X12_image_c39 ZF 0 (zS (zS (zS (zS (zS s0 0 36 1) 0 37 ((zS s0 0 36 1).1 0 0)) 0 38 ((zS (zS s0 0 36 1) 0 37 ((zS s0 0 36 1).1 0 0)).1 0 1)) 0 39 ((zS (zS (zS s0 0 36 1) 0 37 ((zS s0 0 36 1).1 0 0)) 0 38 ((zS (zS s0 0 36 1) 0 37 ((zS s0 0 36 1).1 0 0)).1 0 1)).1 0 2)) 0 41 ((zS (zS (zS (zS s0 0 36 1) 0 37 ((zS s0 0 36 1).1 0 0)) 0 38 ((zS (zS s0 0 36 1) 0 37 ((zS s0 0 36 1).1 0 0)).1 0 1)) 0 39 ((zS (zS (zS s0 0 36 1) 0 37 ((zS s0 0 36 1).1 0 0)) 0 38 ((zS (zS s0 0 36 1) 0 37 ((zS s0 0 36 1).1 0 0)).1 0 1)).1 0 2)).1 0 4))
def f_X12_isLikeSpace_c197 (rc150 : Int32 → Int32 → SS → Option (Int32 × SS)) (x2 : Int32) (t0 : Int32) (s1 : SS) : Option (Int32 × SS) :=
  rc150 t0 (x2 + 1) s1
def f_X12_isLikeSpace_c196 (rc150 : Int32 → Int32 → SS → Option (Int32 × SS)) (x2 : Int32) (s1 : SS) : Option (Int32 × SS) :=
  f_X12_isLikeSpace_c197 rc150 x2 0 s1
def f_X12_isLikeSpace_c150  : Nat → Int32 → Int32 → SS → Option (Int32 × SS)
  | 0, _, _, _ => none
  | n + 1, x1, x2, s1 => if (s1.1 0 4) ≤ x2 then if znar .boolean x1 = true then some (x1, s1) else none else if x1 = 0 then if znar .boolean x1 = true then some (x1, s1) else none else if zin x2 3 = true then if zin x2 3 = true then if (s1.1 2 (x2).toNatClampNeg) = (s1.1 27 (x2).toNatClampNeg) then if zin x2 3 = true then if zin x2 3 = true then if (s1.1 3 (x2).toNatClampNeg) = (s1.1 28 (x2).toNatClampNeg) then f_X12_isLikeSpace_c197 (f_X12_isLikeSpace_c150 n) x2 1 s1 else f_X12_isLikeSpace_c196 (f_X12_isLikeSpace_c150 n) x2 s1 else none else none else f_X12_isLikeSpace_c196 (f_X12_isLikeSpace_c150 n) x2 s1 else none else none
def f_X12_isLikeSpace_c147  (t0 : Int32) (s1 : SS) : Option (Int32 × SS) :=
  f_X12_isLikeSpace_c150 ZF t0 0 s1
def f_X12_isLikeSpace_c119  (x1 : Int32) (s1 : SS) : Option (Int32 × SS) :=
  if x1 = 0 then if znar .boolean x1 = true then some (x1, s1) else none else if (s1.1 0 0) = 1 then if (s1.1 0 4) = (s1.1 0 41) then f_X12_isLikeSpace_c147 1 s1 else f_X12_isLikeSpace_c147 0 s1 else if znar .boolean x1 = true then some (x1, s1) else none
def f_X12_isLikeSpace_c112 (rc80 : Int32 → Int32 → SS → Option (Int32 × SS)) (x2 : Int32) (t0 : Int32) (s1 : SS) : Option (Int32 × SS) :=
  rc80 t0 (x2 + 1) s1
def f_X12_isLikeSpace_c80  : Nat → Int32 → Int32 → SS → Option (Int32 × SS)
  | 0, _, _, _ => none
  | n + 1, x1, x2, s1 => if (s1.1 0 2) ≤ x2 then f_X12_isLikeSpace_c119 x1 s1 else if x1 = 0 then f_X12_isLikeSpace_c119 x1 s1 else if zin x2 3 = true then if zin x2 3 = true then if (s1.1 1 (x2).toNatClampNeg) = (s1.1 26 (x2).toNatClampNeg) then f_X12_isLikeSpace_c112 (f_X12_isLikeSpace_c80 n) x2 1 s1 else f_X12_isLikeSpace_c112 (f_X12_isLikeSpace_c80 n) x2 0 s1 else none else none
def f_X12_isLikeSpace_c77  (t0 : Int32) (s1 : SS) : Option (Int32 × SS) :=
  f_X12_isLikeSpace_c80 ZF t0 0 s1
def f_X12_isLikeSpace_c76   (s1 : SS) : Option (Int32 × SS) :=
  f_X12_isLikeSpace_c77 0 s1
def f_X12_isLikeSpace_c38  (t0 : Int32) (s1 : SS) : Option (Int32 × SS) :=
  if t0 = 0 then f_X12_isLikeSpace_c119 t0 s1 else if (s1.1 0 0) = 0 then if (s1.1 0 2) = (s1.1 0 39) then if (s1.1 0 4) = (s1.1 0 41) then f_X12_isLikeSpace_c77 1 s1 else f_X12_isLikeSpace_c76  s1 else f_X12_isLikeSpace_c76  s1 else f_X12_isLikeSpace_c119 t0 s1
def f_X12_isLikeSpace_c37   (s1 : SS) : Option (Int32 × SS) :=
  f_X12_isLikeSpace_c38 0 s1
def f_X12_isLikeSpace  (s0 : SS) : Option (Int32 × SS) :=
  if (s0.1 0 0) = (s0.1 0 37) then if (s0.1 0 1) = (s0.1 0 38) then if (s0.1 0 12) = (s0.1 0 44) then f_X12_isLikeSpace_c38 1 s0 else f_X12_isLikeSpace_c37  s0 else f_X12_isLikeSpace_c37  s0 else f_X12_isLikeSpace_c37  s0
def f_X12_alike_c125  (x1 : Int32) (s1 : SS) : Option (Int32 × SS) :=
  if x1 = 0 then some (0, s1) else some (1, s1)
def f_X12_alike_c119 (rc17 : Int32 → Int32 → SS → Option (Int32 × SS)) (x1 : Int32) (x2 : Int32) (s1 : SS) : Option (Int32 × SS) :=
  rc17 x1 (x2 + 1) s1
def f_X12_alike_c112 (rc67 : Int32 → Int32 → Int32 → SS → Option (Int32 × SS)) (rc17 : Int32 → Int32 → SS → Option (Int32 × SS)) (x2 : Int32) (x3 : Int32) (t0 : Int32) (s1 : SS) : Option (Int32 × SS) :=
  rc67 t0 x2 (x3 + 1) s1
def f_X12_alike_c67 (rc17 : Int32 → Int32 → SS → Option (Int32 × SS)) : Nat → Int32 → Int32 → Int32 → SS → Option (Int32 × SS)
  | 0, _, _, _, _ => none
  | n + 1, x1, x2, x3, s1 => if (s1.1 0 7) ≤ x3 then f_X12_alike_c119 rc17 x1 x2 s1 else if x1 = 0 then f_X12_alike_c119 rc17 x1 x2 s1 else if zin (((462 : Int32) * x2) + x3) 3696 = true then if zin (((462 : Int32) * x2) + x3) 3696 = true then if (lg_cmp (s1.2 10 ((((462 : Int32) * x2) + x3)).toNatClampNeg) (s1.2 31 ((((462 : Int32) * x2) + x3)).toNatClampNeg)) = 0 then f_X12_alike_c112 (f_X12_alike_c67 rc17 n) rc17 x2 x3 1 s1 else f_X12_alike_c112 (f_X12_alike_c67 rc17 n) rc17 x2 x3 0 s1 else none else none
def f_X12_alike_c64 (rc17 : Int32 → Int32 → SS → Option (Int32 × SS)) (x2 : Int32) (t0 : Int32) (s1 : SS) : Option (Int32 × SS) :=
  f_X12_alike_c67 rc17 ZF t0 x2 0 s1
def f_X12_alike_c63 (rc17 : Int32 → Int32 → SS → Option (Int32 × SS)) (x2 : Int32) (s1 : SS) : Option (Int32 × SS) :=
  f_X12_alike_c64 rc17 x2 0 s1
def f_X12_alike_c17  : Nat → Int32 → Int32 → SS → Option (Int32 × SS)
  | 0, _, _, _ => none
  | n + 1, x1, x2, s1 => if (s1.1 0 12) ≤ x2 then f_X12_alike_c125 x1 s1 else if x1 = 0 then f_X12_alike_c125 x1 s1 else if zin x2 8 = true then if zin x2 8 = true then if (s1.1 8 (x2).toNatClampNeg) = (s1.1 29 (x2).toNatClampNeg) then if zin x2 8 = true then if zin x2 8 = true then if (s1.1 9 (x2).toNatClampNeg) = (s1.1 30 (x2).toNatClampNeg) then f_X12_alike_c64 (f_X12_alike_c17 n) x2 1 s1 else f_X12_alike_c63 (f_X12_alike_c17 n) x2 s1 else none else none else f_X12_alike_c63 (f_X12_alike_c17 n) x2 s1 else none else none
def f_X12_alike  (s0 : SS) : Option (Int32 × SS) :=
  if (s0.1 0 36) = 0 then some ((-5), s0) else zbd (f_X12_isLikeSpace s0) (fun r1 s2 => f_X12_alike_c17 ZF r1 0 s2)
def f_X12_back_c144 (rc110 : Int32 → SS → Option (Int32 × SS)) : Nat → Int32 → Int32 → SS → Option (Int32 × SS)
  | 0, _, _, _ => none
  | n + 1, x1, x2, s1 => if (s1.1 0 7) ≤ x2 then rc110 (x1 + 1) s1 else if zin (((462 : Int32) * x1) + x2) 3696 = true then if zin (((462 : Int32) * x1) + x2) 3696 = true then (f_X12_back_c144 rc110 n) x1 (x2 + 1) (zSL s1 10 ((((462 : Int32) * x1) + x2)).toNatClampNeg (s1.2 31 ((((462 : Int32) * x1) + x2)).toNatClampNeg)) else none else none
def f_X12_back_c110  : Nat → Int32 → SS → Option (Int32 × SS)
  | 0, _, _ => none
  | n + 1, x1, s1 => if (s1.1 0 12) ≤ x1 then zbd (f_X12_forget s1) (fun _ s5 => some ((s5.1 0 12), s5)) else if zin x1 8 = true then if zin x1 8 = true then if zin x1 8 = true then if zin x1 8 = true then f_X12_back_c144 (f_X12_back_c110 n) ZF x1 0 (zS (zS s1 8 (x1).toNatClampNeg (s1.1 29 (x1).toNatClampNeg)) 9 (x1).toNatClampNeg (((zS s1 8 (x1).toNatClampNeg (s1.1 29 (x1).toNatClampNeg)).1 30 (x1).toNatClampNeg))) else none else none else none else none
def f_X12_back_c44  : Nat → Int32 → SS → Option (Int32 × SS)
  | 0, _, _ => none
  | n + 1, x1, s1 => if 3 ≤ x1 then zbd (f_X12_layTerms (zS s1 0 12 0)) (fun _ s2 => f_X12_back_c110 ZF 0 (zS s2 0 12 (s2.1 0 44))) else if zin x1 3 = true then if zin x1 3 = true then if zin x1 3 = true then if zin x1 3 = true then if zin x1 3 = true then if zin x1 3 = true then (f_X12_back_c44 n) (x1 + 1) (zS (zS (zS s1 1 (x1).toNatClampNeg (s1.1 26 (x1).toNatClampNeg)) 2 (x1).toNatClampNeg (((zS s1 1 (x1).toNatClampNeg (s1.1 26 (x1).toNatClampNeg)).1 27 (x1).toNatClampNeg))) 3 (x1).toNatClampNeg (((zS (zS s1 1 (x1).toNatClampNeg (s1.1 26 (x1).toNatClampNeg)) 2 (x1).toNatClampNeg (((zS s1 1 (x1).toNatClampNeg (s1.1 26 (x1).toNatClampNeg)).1 27 (x1).toNatClampNeg))).1 28 (x1).toNatClampNeg))) else none else none else none else none else none else none
def f_X12_back  (s0 : SS) : Option (Int32 × SS) :=
  if (s0.1 0 36) = 0 then some ((-5), s0) else f_X12_back_c44 ZF 0 (zS (zS (zS (zS s0 0 0 (s0.1 0 37)) 0 1 ((zS s0 0 0 (s0.1 0 37)).1 0 38)) 0 2 ((zS (zS s0 0 0 (s0.1 0 37)) 0 1 ((zS s0 0 0 (s0.1 0 37)).1 0 38)).1 0 39)) 0 4 ((zS (zS (zS s0 0 0 (s0.1 0 37)) 0 1 ((zS s0 0 0 (s0.1 0 37)).1 0 38)) 0 2 ((zS (zS s0 0 0 (s0.1 0 37)) 0 1 ((zS s0 0 0 (s0.1 0 37)).1 0 38)).1 0 39)).1 0 41))
def f_X12_count_c24 (rc4 : Int32 → Int32 → Int32 → SS → Option (Int32 × SS)) (x1 : Int32) (x3 : Int32) (t0 : Int32) (t1 : Int32) (s1 : SS) : Option (Int32 × SS) :=
  rc4 x1 (t1 + t0) (x3 + 1) s1
def f_X12_count_c4  : Nat → Int32 → Int32 → Int32 → SS → Option (Int32 × SS)
  | 0, _, _, _, _ => none
  | n + 1, x1, x2, x3, s1 => if 3 ≤ x3 then if x1 = 0 then some ((s1.1 0 12), s1) else if x1 = 1 then some ((s1.1 0 21), s1) else if x1 = 2 then some ((s1.1 0 22), s1) else if x1 = 3 then some ((s1.1 0 27), s1) else if x1 = 4 then some ((s1.1 0 29), s1) else if x1 = 5 then some (x2, s1) else some ((-1), s1) else if zin x3 3 = true then if (s1.1 22 (x3).toNatClampNeg) < 0 then f_X12_count_c24 (f_X12_count_c4 n) x1 x3 0 x2 s1 else f_X12_count_c24 (f_X12_count_c4 n) x1 x3 1 x2 s1 else none
def f_X12_count (x1 : Int32) (s0 : SS) : Option (Int32 × SS) :=
  f_X12_count_c4 ZF x1 0 0 s0
