def X11_isEdit (x0 : Int) (M : Mo) : Option RS :=
  if wr x0 = wr 4 then (some (0, 1, M)) else (if wr x0 = wr 5 then (some (0, 1, M)) else (some (0, 0, M)))
def X11_isMoved (x0 : Int) (M : Mo) : Option RS :=
  if wr x0 = wr 2 then (some (0, 1, M)) else (if wr x0 = wr 3 then (some (0, 1, M)) else (some (0, 0, M)))
def X11_versionsOf_7 : Nat → Int → Int → Int → Mo → Option RS
  | 0, _, _, _, _ => none
  | n + 1, x0, x1, x2, M => if okA (kd M x1) = true then if wr (ln M x1) ≤ wr x2 then (some (0, x1, M)) else (if okA (kd M x0) = true then if wr (ln M x0) ≤ wr x2 then (some (0, x1, M)) else (if kd M x0 = 112 then if 0 ≤ wr x2 ∧ wr x2 < ln M x0 then if kd M (el M 12 x0 (wr x2)) = 4 then if kd M x1 = 100 then if 0 ≤ wr x2 ∧ wr x2 < ln M x1 then pt (sE M 0 x1 (wr x2) (fd M 3 4 (el M 12 x0 (wr x2)))) fun M8 => X11_versionsOf_7 n x0 x1 (x2 + 1) M8 else none else none else none else none else none) else none) else none
def X11_versionsOf (x0 : Int) (M : Mo) : Option RS :=
  if nc M + 1 ≤ CAPC ∧ ns M + (wr 6).toNat ≤ CAPS then pt (nA M 0 (wr 6)) fun M3 => X11_versionsOf_7 FU x0 (nid M) 0 M3 else none
