def X8_init (x0 x1 : Int) (M : Mo) : Option RS :=
  if kd M x0 ≠ 0 then if nc M + 1 ≤ CAPC ∧ ns M + (wr 3).toNat ≤ CAPS then pt (nA M 2 (wr 3)) fun M4 => if kd M4 x0 = 10 then pt (sF M4 9 1 x0 (nid M)) fun M7 => if nc M7 + 1 ≤ CAPC ∧ ns M7 + (wr 3).toNat ≤ CAPS then pt (nA M7 16 (wr 3)) fun M11 => pt (sF M11 9 2 x0 (nid M7)) fun M13 => pt (sF M13 9 0 x0 x1) fun M15 => some (0, 0, M15) else none else none else none else none
def X8_waitsFor (x0 x1 : Int) (M : Mo) : Option RS :=
  if wr x1 < 0 then (some (0, 0, M)) else (if wr 3 ≤ wr x1 then (some (0, 0, M)) else (if kd M x0 = 10 then if kd M (fd M 9 1 x0) = 102 then if 0 ≤ wr x1 ∧ wr x1 < ln M (fd M 9 1 x0) then if wr (el M 2 (fd M 9 1 x0) (wr x1)) = 0 then (some (0, 0, M)) else (some (0, 1, M)) else none else none else none))
def X8_waitFor (x0 x1 : Int) (M : Mo) : Option RS :=
  if wr x1 < 0 then (some (0, 0, M)) else (if wr 3 ≤ wr x1 then (some (0, 0, M)) else (if kd M x0 = 10 then if kd M (fd M 9 1 x0) = 102 then if 0 ≤ wr x1 ∧ wr x1 < ln M (fd M 9 1 x0) then pt (sE M 2 (fd M 9 1 x0) (wr x1) (nB 1)) fun M4 => some (0, 0, M4) else none else none else none))
def X8_note (x0 x1 x2 : Int) (M : Mo) : Option RS :=
  if wr x1 < 0 then (some (0, 0, M)) else (if wr 3 ≤ wr x1 then (some (0, 0, M)) else (if kd M x0 = 10 then if kd M (fd M 9 1 x0) = 102 then if 0 ≤ wr x1 ∧ wr x1 < ln M (fd M 9 1 x0) then pt (sE M 2 (fd M 9 1 x0) (wr x1) (nB 0)) fun M4 => if kd M4 (fd M4 9 2 x0) = 116 then if x2 = 0 ∨ kd M4 x2 = 8 then if 0 ≤ wr x1 ∧ wr x1 < ln M4 (fd M4 9 2 x0) then pt (sE M4 16 (fd M4 9 2 x0) (wr x1) x2) fun M9 => some (0, 0, M9) else none else none else none else none else none else none))
def X8_isComplete_2 : Nat → Int → Int → Mo → Option RS
  | 0, _, _, _ => none
  | n + 1, x0, x1, M => if wr 3 ≤ wr x1 then (some (0, 1, M)) else (if kd M x0 = 10 then if kd M (fd M 9 1 x0) = 102 then if 0 ≤ wr x1 ∧ wr x1 < ln M (fd M 9 1 x0) then if wr (el M 2 (fd M 9 1 x0) (wr x1)) = 0 then (X8_isComplete_2 n x0 (x1 + 1) M) else (some (0, 0, M)) else none else none else none)
def X8_isComplete (x0 : Int) (M : Mo) : Option RS :=
  X8_isComplete_2 FU x0 0 M
def X8_answerOf (x0 x1 : Int) (M : Mo) : Option RS :=
  if wr x1 < 0 then (some (0, 0, M)) else (if wr 3 ≤ wr x1 then (some (0, 0, M)) else (if kd M x0 = 10 then if kd M (fd M 9 2 x0) = 116 then if 0 ≤ wr x1 ∧ wr x1 < ln M (fd M 9 2 x0) then some (0, (el M 16 (fd M 9 2 x0) (wr x1)), M) else none else none else none))
