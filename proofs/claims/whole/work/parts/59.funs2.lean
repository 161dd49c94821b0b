def f_X11_initT (s0 : SS) : Option (Unit × SS) :=
  zbd (f_X7_become 3 (0 : Int32) (2 : Int32) (0 : Int32) (0 : Int32) s0) (fun _ s2 => zbd (f_X10_layOut 3 s2) (fun _ s5 => some ((), s5)))
def f_X12_init_c357  : Nat → Int32 → SS → Option (Unit × SS)
  | 0, _, _ => none
  | n + 1, x1, s1 => if 600000 ≤ x1 then zbd (f_X12_layTerms s1) (fun _ s2 => some ((), s2)) else if zin x1 600000 = true then (f_X12_init_c357 n) (x1 + 1) (zS s1 7 (x1).toNatClampNeg (-1)) else none
def f_X12_initT (s0 : SS) : Option (Unit × SS) :=
  f_X12_init_c357 ZF 0 s0
def zs0x : SS := (fun k j => if k = 27 then (if j < 3 then -1 else 0) else 0, fun _ _ => 0)
def zs0m : SS := (fun k j => if k = 0 then (if j = 1 then 2 else if j = 2 then 1 else 0) else if k = 1 then upd (upd (upd (fun _ => 0) 0 2) 1 0) 2 0 j else if k = 22 then upd (upd (upd (fun _ => 0) 0 (-1)) 1 (-1)) 2 (-1) j else 0, fun _ _ => 0)
