def X4_init_58 : Nat → Int → Int → Mo → Option RS
  | 0, _, _, _ => none
  | n + 1, x0, x1, M => if wr 6 ≤ wr x1 then (some (0, 0, M)) else (if kd M x0 = 6 then if kd M (fd M 5 3 x0) = 100 then if 0 ≤ wr x1 ∧ wr x1 < ln M (fd M 5 3 x0) then pt (sE M 0 (fd M 5 3 x0) (wr x1) (-1)) fun M4 => if nc M4 + 1 ≤ CAPC ∧ ns M4 + 2 ≤ CAPS then pt (nO M4 11 2) fun M8 => cal0 (X10_init (nid M4) M8) fun _ M11 => if kd M11 (fd M4 5 4 x0) = 111 then if 0 ≤ wr x1 ∧ wr x1 < ln M11 (fd M4 5 4 x0) then pt (sE M11 11 (fd M4 5 4 x0) (wr x1) (nid M4)) fun M15 => X4_init_58 n x0 (x1 + 1) M15 else none else none else none else none else none else none)
def X4_init (x0 : Int) (M : Mo) : Option RS :=
  if kd M x0 ≠ 0 then if nc M + 1 ≤ CAPC ∧ ns M + (wr 6).toNat ≤ CAPS then pt (nA M 1 (wr 6)) fun M4 => if kd M4 x0 = 6 then pt (sF M4 5 0 x0 (nid M)) fun M7 => if nc M7 + 1 ≤ CAPC ∧ ns M7 + (wr 6).toNat ≤ CAPS then pt (nA M7 0 (wr 6)) fun M11 => pt (sF M11 5 1 x0 (nid M7)) fun M13 => if nc M13 + 1 ≤ CAPC ∧ ns M13 + (wr 6).toNat ≤ CAPS then pt (nA M13 0 (wr 6)) fun M17 => pt (sF M17 5 2 x0 (nid M13)) fun M19 => if nc M19 + 1 ≤ CAPC ∧ ns M19 + (wr 6).toNat ≤ CAPS then pt (nA M19 0 (wr 6)) fun M23 => pt (sF M23 5 3 x0 (nid M19)) fun M25 => if nc M25 + 1 ≤ CAPC ∧ ns M25 + (wr 6).toNat ≤ CAPS then pt (nA M25 11 (wr 6)) fun M29 => pt (sF M29 5 4 x0 (nid M25)) fun M31 => if nc M31 + 1 ≤ CAPC ∧ ns M31 + 2 ≤ CAPS then pt (nO M31 11 2) fun M35 => cal0 (X10_init (nid M31) M35) fun _ M38 => pt (sF M38 5 5 x0 (nid M31)) fun M40 => X4_init_58 FU x0 0 M40 else none else none else none else none else none else none else none else none
def X4_size (x0 : Int) (M : Mo) : Option RS :=
  if kd M x0 = 6 then some (0, (fd M 5 6 x0), M) else none
def X4_has (x0 x1 : Int) (M : Mo) : Option RS :=
  if wr x1 < 0 then (some (0, 0, M)) else (if kd M x0 = 6 then if wr (fd M 5 6 x0) ≤ wr x1 then (some (0, 0, M)) else (if wr 6 ≤ wr x1 then (some (0, 0, M)) else (some (0, 1, M))) else none)
def X4_isFull (x0 : Int) (M : Mo) : Option RS :=
  if kd M x0 = 6 then if wr (fd M 5 6 x0) < wr 6 then (some (0, 0, M)) else (some (0, 1, M)) else none
def X4_named_2 : Nat → Int → Int → Int → Mo → Option RS
  | 0, _, _, _, _ => none
  | n + 1, x0, x1, x2, M => if kd M x0 = 6 then if wr (fd M 5 6 x0) ≤ wr x2 then (some (0, (-1), M)) else (if wr 6 ≤ wr x2 then (some (0, (-1), M)) else (if kd M (fd M 5 0 x0) = 101 then if 0 ≤ wr x2 ∧ wr x2 < ln M (fd M 5 0 x0) then if wr (el M 1 (fd M 5 0 x0) (wr x2)) = wr x1 then (some (0, x2, M)) else (X4_named_2 n x0 x1 (x2 + 1) M) else none else none)) else none
def X4_named (x0 x1 : Int) (M : Mo) : Option RS :=
  X4_named_2 FU x0 x1 0 M
def X4_add (x0 x1 x2 : Int) (M : Mo) : Option RS :=
  if kd M x0 = 6 then if wr (fd M 5 6 x0) < wr 6 then (if kd M (fd M 5 0 x0) = 101 then if 0 ≤ wr (fd M 5 6 x0) ∧ wr (fd M 5 6 x0) < ln M (fd M 5 0 x0) then pt (sE M 1 (fd M 5 0 x0) (wr (fd M 5 6 x0)) (n16 (c16 x1))) fun M4 => if kd M4 (fd M4 5 1 x0) = 100 then if 0 ≤ wr (fd M4 5 6 x0) ∧ wr (fd M4 5 6 x0) < ln M4 (fd M4 5 1 x0) then pt (sE M4 0 (fd M4 5 1 x0) (wr (fd M4 5 6 x0)) x2) fun M8 => pt (sF M8 5 6 x0 ((fd M8 5 6 x0) + 1)) fun M10 => some (0, ((fd M10 5 6 x0) - 1), M10) else none else none else none else none) else (some (0, (-1), M)) else none
def X4_nameOf (x0 x1 : Int) (M : Mo) : Option RS :=
  if kd M x0 = 6 then cal (X4_has x0 x1 M) fun v1 M2 => if wr v1 = 0 then (some (0, 0, M2)) else (if kd M2 (fd M2 5 0 x0) = 101 then if 0 ≤ wr x1 ∧ wr x1 < ln M2 (fd M2 5 0 x0) then if n16 (el M2 1 (fd M2 5 0 x0) (wr x1)) = wr (el M2 1 (fd M2 5 0 x0) (wr x1)) then some (0, (el M2 1 (fd M2 5 0 x0) (wr x1)), M2) else none else none else none) else none
def X4_rename (x0 x1 x2 : Int) (M : Mo) : Option RS :=
  if kd M x0 = 6 then cal (X4_has x0 x1 M) fun v1 M2 => if wr v1 = 0 then (some (0, 0, M2)) else (if kd M2 (fd M2 5 0 x0) = 101 then if 0 ≤ wr x1 ∧ wr x1 < ln M2 (fd M2 5 0 x0) then pt (sE M2 1 (fd M2 5 0 x0) (wr x1) (n16 (c16 x2))) fun M7 => some (0, 0, M7) else none else none) else none
def X4_languageOf (x0 x1 : Int) (M : Mo) : Option RS :=
  if kd M x0 = 6 then cal (X4_has x0 x1 M) fun v1 M2 => if wr v1 = 0 then (some (0, 0, M2)) else (if kd M2 (fd M2 5 1 x0) = 100 then if 0 ≤ wr x1 ∧ wr x1 < ln M2 (fd M2 5 1 x0) then some (0, (el M2 0 (fd M2 5 1 x0) (wr x1)), M2) else none else none) else none
def X4_versionOf (x0 x1 : Int) (M : Mo) : Option RS :=
  if kd M x0 = 6 then cal (X4_has x0 x1 M) fun v1 M2 => if wr v1 = 0 then (some (0, 0, M2)) else (if kd M2 (fd M2 5 2 x0) = 100 then if 0 ≤ wr x1 ∧ wr x1 < ln M2 (fd M2 5 2 x0) then some (0, (el M2 0 (fd M2 5 2 x0) (wr x1)), M2) else none else none) else none
def X4_setVersion (x0 x1 x2 : Int) (M : Mo) : Option RS :=
  if kd M x0 = 6 then cal (X4_has x0 x1 M) fun v1 M2 => if wr v1 = 0 then (some (0, 0, M2)) else (if kd M2 (fd M2 5 2 x0) = 100 then if 0 ≤ wr x1 ∧ wr x1 < ln M2 (fd M2 5 2 x0) then pt (sE M2 0 (fd M2 5 2 x0) (wr x1) x2) fun M7 => some (0, 0, M7) else none else none) else none
def X4_holderOf (x0 x1 : Int) (M : Mo) : Option RS :=
  if kd M x0 = 6 then cal (X4_has x0 x1 M) fun v1 M2 => if wr v1 = 0 then (some (0, (-1), M2)) else (if kd M2 (fd M2 5 3 x0) = 100 then if 0 ≤ wr x1 ∧ wr x1 < ln M2 (fd M2 5 3 x0) then some (0, (el M2 0 (fd M2 5 3 x0) (wr x1)), M2) else none else none) else none
def X4_setHolder (x0 x1 x2 : Int) (M : Mo) : Option RS :=
  if kd M x0 = 6 then cal (X4_has x0 x1 M) fun v1 M2 => if wr v1 = 0 then (some (0, 0, M2)) else (if kd M2 (fd M2 5 3 x0) = 100 then if 0 ≤ wr x1 ∧ wr x1 < ln M2 (fd M2 5 3 x0) then pt (sE M2 0 (fd M2 5 3 x0) (wr x1) x2) fun M7 => some (0, 0, M7) else none else none) else none
def X4_isAnyHeld_2 : Nat → Int → Int → Mo → Option RS
  | 0, _, _, _ => none
  | n + 1, x0, x1, M => if kd M x0 = 6 then if wr (fd M 5 6 x0) ≤ wr x1 then (some (0, 0, M)) else (cal (X4_holderOf x0 x1 M) fun v2 M3 => if wr v2 = wr (-1) then (X4_isAnyHeld_2 n x0 (x1 + 1) M3) else (some (0, 1, M3))) else none
def X4_isAnyHeld (x0 : Int) (M : Mo) : Option RS :=
  X4_isAnyHeld_2 FU x0 0 M
def X4_textOf (x0 x1 : Int) (M : Mo) : Option RS :=
  if kd M x0 = 6 then cal (X4_has x0 x1 M) fun v1 M2 => if wr v1 = 0 then (some (0, (fd M2 5 5 x0), M2)) else (if kd M2 (fd M2 5 4 x0) = 111 then if 0 ≤ wr x1 ∧ wr x1 < ln M2 (fd M2 5 4 x0) then some (0, (el M2 11 (fd M2 5 4 x0) (wr x1)), M2) else none else none) else none
