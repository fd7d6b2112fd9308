def X9_init_75 : Nat → Int → Int → Mo → Option RS
  | 0, _, _, _ => none
  | n + 1, x0, x5, M => if wr 6 ≤ wr x5 then (some (0, 0, M)) else (if kd M x0 = 11 then if nc M + 1 ≤ CAPC ∧ ns M + 7 ≤ CAPS then pt (nO M 3 7) fun M4 => cal0 (X2_init (nid M) M4) fun _ M7 => if kd M7 (fd M 10 4 x0) = 112 then if 0 ≤ wr x5 ∧ wr x5 < ln M7 (fd M 10 4 x0) then pt (sE M7 12 (fd M 10 4 x0) (wr x5) (nid M)) fun M11 => X9_init_75 n x0 (x5 + 1) M11 else none else none else none else none)
def X9_init (x0 x1 x2 x3 x4 : Int) (M : Mo) : Option RS :=
  if kd M x0 ≠ 0 then if nc M + 1 ≤ CAPC ∧ ns M + (wr 6).toNat ≤ CAPS then pt (nA M 12 (wr 6)) fun M4 => if kd M4 x0 = 11 then pt (sF M4 10 4 x0 (nid M)) fun M7 => if nc M7 + 1 ≤ CAPC ∧ ns M7 + 7 ≤ CAPS then pt (nO M7 3 7) fun M11 => cal0 (X2_init (nid M7) M11) fun _ M14 => pt (sF M14 10 5 x0 (nid M7)) fun M16 => if nc M16 + 1 ≤ CAPC ∧ ns M16 + 3 ≤ CAPS then pt (nO M16 0 3) fun M20 => cal0 (Jx4a65c_init_da8c8 (nid M16) M20) fun _ M23 => pt (sF M23 10 6 x0 (nid M16)) fun M25 => if nc M25 + 1 ≤ CAPC ∧ ns M25 + 2 ≤ CAPS then pt (nO M25 6 2) fun M29 => cal0 (X5_init (nid M25) M29) fun _ M32 => pt (sF M32 10 7 x0 (nid M25)) fun M34 => pt (sF M34 10 8 x0 1) fun M36 => pt (sF M36 10 0 x0 x1) fun M38 => pt (sF M38 10 1 x0 x2) fun M40 => pt (sF M40 10 2 x0 x3) fun M42 => pt (sF M42 10 3 x0 x4) fun M44 => X9_init_75 FU x0 0 M44 else none else none else none else none else none else none
def X9_copyOf (x0 x1 : Int) (M : Mo) : Option RS :=
  if wr x1 < 0 then (if kd M x0 = 11 then some (0, (fd M 10 5 x0), M) else none) else (if wr 6 ≤ wr x1 then (if kd M x0 = 11 then some (0, (fd M 10 5 x0), M) else none) else (if kd M x0 = 11 then if kd M (fd M 10 4 x0) = 112 then if 0 ≤ wr x1 ∧ wr x1 < ln M (fd M 10 4 x0) then some (0, (el M 12 (fd M 10 4 x0) (wr x1)), M) else none else none else none))
def X9_requests (x0 : Int) (M : Mo) : Option RS :=
  if kd M x0 = 11 then if kd M (fd M 10 6 x0) = 1 then cal (Jx4a65c_size_8abf5 (fd M 10 6 x0) M) fun v2 M3 => some (0, v2, M3) else none else none
def X9_speaks (x0 x1 : Int) (M : Mo) : Option RS :=
  if kd M x0 = 11 then if wr (iand (ishr (fd M 10 1 x0) x1) 1) = wr 1 then (some (0, 1, M)) else (some (0, 0, M)) else none
def X9_does (x0 x1 : Int) (M : Mo) : Option RS :=
  if kd M x0 = 11 then if wr (iand (ishr (fd M 10 0 x0) x1) 1) = wr 1 then (some (0, 1, M)) else (some (0, 0, M)) else none
def X9_fall_14 : Nat → Int → Int → Mo → Option RS
  | 0, _, _, _ => none
  | n + 1, x0, x1, M => if wr 6 ≤ wr x1 then (some (0, 0, M)) else (if kd M x0 = 11 then if kd M (fd M 10 4 x0) = 112 then if 0 ≤ wr x1 ∧ wr x1 < ln M (fd M 10 4 x0) then if kd M (el M 12 (fd M 10 4 x0) (wr x1)) = 4 then cal (X2_end (el M 12 (fd M 10 4 x0) (wr x1)) M) fun _ M5 => X9_fall_14 n x0 (x1 + 1) M5 else none else none else none else none)
def X9_fall (x0 : Int) (M : Mo) : Option RS :=
  if kd M x0 = 11 then pt (sF M 10 8 x0 0) fun M2 => if kd M2 (fd M2 10 6 x0) = 1 then cal (Jx4a65c_clear_da8c8 (fd M2 10 6 x0) M2) fun _ M5 => X9_fall_14 FU x0 0 M5 else none else none
def X9_takeChange_65 (k15 : Int → Int → Int → Int → Mo → Option RS) (x0 x1 x2 x3 : Int) (M : Mo) : Option RS :=
  k15 x0 x1 x2 (x3 + 1) M
def X9_takeChange_15 : Nat → Int → Int → Int → Int → Mo → Option RS
  | 0, _, _, _, _, _ => none
  | n + 1, x0, x1, x2, x3, M => if kd M x0 = 11 then if kd M (fd M 10 6 x0) = 1 then cal (Jx4a65c_size_8abf5 (fd M 10 6 x0) M) fun v2 M3 => if wr v2 ≤ wr x3 then (some (0, 0, M3)) else (if kd M3 (fd M3 10 6 x0) = 1 then cal (Jx4a65c_get_915e3 (fd M3 10 6 x0) x3 M3) fun v6 M7 => if v6 = 0 ∨ kd M7 v6 = 8 then if kd M7 v6 = 8 then if kd M7 x2 = 8 then if wr (fd M7 7 1 v6) = wr (fd M7 7 1 x2) then (if kd M7 x1 = 4 then cal (X2_placeAfter x1 (fd M7 7 12 v6) M7) fun v13 M14 => pt (sF M14 7 12 v6 v13) fun M17 => X9_takeChange_65 (X9_takeChange_15 n) x0 x1 x2 x3 M17 else none) else (X9_takeChange_65 (X9_takeChange_15 n) x0 x1 x2 x3 M7) else none else none else none else none) else none else none
def X9_takeChange (x0 x1 x2 : Int) (M : Mo) : Option RS :=
  if kd M x1 = 4 then cal (X2_isHere x1 M) fun v1 M2 => if wr v1 = 0 then (some (0, 0, M2)) else (cal (X2_alter x1 x2 M2) fun _ M6 => X9_takeChange_15 FU x0 x1 x2 0 M6) else none
def X9_forget_41 (k10 : Int → Int → Int → Mo → Option RS) (x0 x1 x2 : Int) (M : Mo) : Option RS :=
  k10 x0 x1 (x2 + (-1)) M
def X9_forget_10 : Nat → Int → Int → Int → Mo → Option RS
  | 0, _, _, _, _ => none
  | n + 1, x0, x1, x2, M => if wr x2 < 0 then (some (0, 0, M)) else (if kd M x0 = 11 then if kd M (fd M 10 6 x0) = 1 then cal (Jx4a65c_get_915e3 (fd M 10 6 x0) x2 M) fun v2 M3 => if v2 = 0 ∨ kd M3 v2 = 8 then if kd M3 v2 = 8 then if wr (fd M3 7 11 v2) = wr x1 then (if kd M3 (fd M3 10 6 x0) = 1 then cal (Jx4a65c_remove_915e3 (fd M3 10 6 x0) x2 M3) fun v8 M9 => X9_forget_41 (X9_forget_10 n) x0 x1 x2 M9 else none) else (X9_forget_41 (X9_forget_10 n) x0 x1 x2 M3) else none else none else none else none)
def X9_forget (x0 x1 : Int) (M : Mo) : Option RS :=
  if kd M x0 = 11 then if kd M (fd M 10 6 x0) = 1 then cal (Jx4a65c_size_8abf5 (fd M 10 6 x0) M) fun v2 M3 => X9_forget_10 FU x0 x1 (v2 - 1) M3 else none else none
def X9_take_113 (x0 x1 y0 y1 : Int) (M : Mo) : Option RS :=
  if kd M y0 = 8 then pt (sF M 7 12 y0 y1) fun M2 => if kd M2 x0 = 11 then if kd M2 (fd M2 10 6 x0) = 1 then cal (Jx4a65c_add_9ea2d (fd M2 10 6 x0) x1 M2) fun v5 M6 => some (0, 0, M6) else none else none else none
def X9_take (x0 x1 : Int) (M : Mo) : Option RS :=
  if kd M x1 = 8 then if kd M x0 = 11 then cal (X9_copyOf x0 (fd M 7 1 x1) M) fun v2 M3 => if wr (fd M3 7 0 x1) = 0 then (if (fd M3 7 14 x1) = 0 then (some (0, 0, M3)) else (if kd M3 v2 = 4 then cal (X2_begin v2 (fd M3 7 5 x1) (fd M3 7 14 x1) (fd M3 7 2 x1) M3) fun _ M7 => some (0, 0, M7) else none)) else if wr (fd M3 7 0 x1) = 1 then (cal (X9_takeChange x0 v2 x1 M3) fun _ M11 => some (0, 0, M11)) else if wr (fd M3 7 0 x1) = 2 then (if kd M3 v2 = 4 then cal (X2_end v2 M3) fun _ M14 => some (0, 0, M14) else none) else if wr (fd M3 7 0 x1) = 3 then (if kd M3 v2 = 4 then cal (X2_isHere v2 M3) fun v17 M18 => if wr v17 = 0 then (X9_take_113 x0 x1 x1 0 M18) else (if kd M18 (fd M18 3 0 v2) = 12 then cal (X10_placeOf (fd M18 3 0 v2) (fd M18 7 6 x1) (fd M18 7 7 x1) M18) fun v21 M22 => X9_take_113 x0 x1 x1 v21 M22 else none) else none) else (cal (X9_forget x0 (fd M3 7 11 x1) M3) fun _ M26 => some (0, 0, M26)) else none else none
def X9_findLonger_79 (k15 : Int → Int → Int → Int → Int → Int → Int → Mo → Option RS) (x0 x1 x2 x3 x4 x6 x7 : Int) (M : Mo) : Option RS :=
  if kd M x0 = 11 then if kd M x2 = 12 then cal (X10_nextRun x2 x7 (fd M 10 2 x0) M) fun v2 M3 => k15 x0 x1 x2 x3 x4 v2 (x6 + (-1)) M3 else none else none
def X9_findLonger_15 : Nat → Int → Int → Int → Int → Int → Int → Int → Mo → Option RS
  | 0, _, _, _, _, _, _, _, _ => none
  | n + 1, x0, x1, x2, x3, x4, x5, x6, M => if wr x6 ≤ 0 then (some (0, 0, M)) else (if wr x5 = wr (-1) then (some (0, 0, M)) else (if kd M x2 = 12 then cal (X10_runEnd x2 x5 M) fun v1 M2 => if wr (v1 - x5) ≤ wr (x4 - x3) then (X9_findLonger_79 (X9_findLonger_15 n) x0 x1 x2 x3 x4 x6 v1 M2) else (cal (X10_alike x2 x5 ((x5 + x4) - x3) x2 x3 x4 M2) fun v5 M6 => if wr v5 = 0 then (X9_findLonger_79 (X9_findLonger_15 n) x0 x1 x2 x3 x4 x6 v1 M6) else (if kd M6 x0 = 11 then if kd M6 (fd M6 10 7 x0) = 7 then cal (X5_insertRun (fd M6 10 7 x0) x2 x1 x5 v1 M6) fun _ M10 => X9_findLonger_79 (X9_findLonger_15 n) x0 x1 x2 x3 x4 x6 v1 M10 else none else none)) else none))
def X9_findLonger (x0 x1 x2 x3 x4 : Int) (M : Mo) : Option RS :=
  if kd M x0 = 11 then if kd M x2 = 12 then cal (X10_nextRun x2 0 (fd M 10 2 x0) M) fun v2 M3 => X9_findLonger_15 FU x0 x1 x2 x3 x4 v2 100 M3 else none else none
def X9_findAll_14 : Nat → Int → Int → Int → Int → Int → Mo → Option RS
  | 0, _, _, _, _, _, _ => none
  | n + 1, x0, x1, x2, x3, x4, M => if wr x4 ≤ 0 then (some (0, 0, M)) else (if wr x3 = wr (-1) then (some (0, 0, M)) else (if kd M x2 = 12 then cal (X10_runEnd x2 x3 M) fun v1 M2 => if kd M2 x0 = 11 then cal (X10_tokenValue x2 x3 M2) fun v6 M7 => if kd M7 (fd M2 10 7 x0) = 7 then cal (X5_add (fd M2 10 7 x0) x1 x3 v1 v6 M7) fun _ M10 => cal (X10_nextRun x2 v1 (fd M10 10 2 x0) M10) fun v13 M14 => X9_findAll_14 n x0 x1 x2 v13 (x4 + (-1)) M14 else none else none else none))
def X9_findAll (x0 x1 x2 : Int) (M : Mo) : Option RS :=
  if kd M x0 = 11 then if kd M x2 = 12 then cal (X10_nextRun x2 0 (fd M 10 2 x0) M) fun v2 M3 => X9_findAll_14 FU x0 x1 x2 v2 100 M3 else none else none
def X9_findAlike_63 (k15 : Int → Int → Int → Int → Int → Int → Int → Int → Mo → Option RS) (x0 x1 x2 x3 x4 x5 x7 x8 : Int) (M : Mo) : Option RS :=
  if kd M x0 = 11 then if kd M x2 = 12 then cal (X10_nextRun x2 x8 (fd M 10 2 x0) M) fun v2 M3 => k15 x0 x1 x2 x3 x4 x5 v2 (x7 + (-1)) M3 else none else none
def X9_findAlike_15 : Nat → Int → Int → Int → Int → Int → Int → Int → Int → Mo → Option RS
  | 0, _, _, _, _, _, _, _, _, _ => none
  | n + 1, x0, x1, x2, x3, x4, x5, x6, x7, M => if wr x7 ≤ 0 then (some (0, 0, M)) else (if wr x6 = wr (-1) then (some (0, 0, M)) else (if kd M x2 = 12 then cal (X10_runEnd x2 x6 M) fun v1 M2 => cal (X10_alike x2 x6 v1 x3 x4 x5 M2) fun v5 M6 => if wr v5 = 0 then (X9_findAlike_63 (X9_findAlike_15 n) x0 x1 x2 x3 x4 x5 x7 v1 M6) else (if kd M6 x0 = 11 then if kd M6 (fd M6 10 7 x0) = 7 then cal (X5_add (fd M6 10 7 x0) x1 x6 v1 0 M6) fun _ M10 => X9_findAlike_63 (X9_findAlike_15 n) x0 x1 x2 x3 x4 x5 x7 v1 M10 else none else none) else none))
def X9_findAlike (x0 x1 x2 x3 x4 x5 : Int) (M : Mo) : Option RS :=
  if kd M x0 = 11 then if kd M x2 = 12 then cal (X10_nextRun x2 0 (fd M 10 2 x0) M) fun v2 M3 => X9_findAlike_15 FU x0 x1 x2 x3 x4 x5 v2 100 M3 else none else none
def X9_findEverywhere_81 (k3 : Int → Int → Int → Int → Int → Mo → Option RS) (x0 x1 x2 x3 x4 : Int) (M : Mo) : Option RS :=
  k3 x0 x1 x2 x3 (x4 + 1) M
def X9_findEverywhere_67 (k3 : Int → Int → Int → Int → Int → Mo → Option RS) (x0 x1 x2 x3 x4 x5 : Int) (M : Mo) : Option RS :=
  if kd M x5 = 4 then if kd M x0 = 11 then cal (X9_findAlike x0 x4 (fd M 3 0 x5) x1 x2 x3 M) fun _ M3 => X9_findEverywhere_81 k3 x0 x1 x2 x3 x4 M3 else none else none
def X9_findEverywhere_3 : Nat → Int → Int → Int → Int → Int → Mo → Option RS
  | 0, _, _, _, _, _, _ => none
  | n + 1, x0, x1, x2, x3, x4, M => if kd M x0 = 11 then if kd M (fd M 10 3 x0) = 6 then cal (X4_size (fd M 10 3 x0) M) fun v2 M3 => if wr v2 ≤ wr x4 then (some (0, 0, M3)) else (cal (X9_copyOf x0 x4 M3) fun v6 M7 => if kd M7 v6 = 4 then cal (X2_isHere v6 M7) fun v9 M10 => if wr v9 = 0 then (X9_findEverywhere_81 (X9_findEverywhere_3 n) x0 x1 x2 x3 x4 M10) else (if wr (x3 - x2) = wr 1 then (if kd M10 x1 = 12 then cal (X10_at x1 x2 M10) fun v13 M14 => if kd M14 (fd M14 10 3 x0) = 6 then cal (X4_nameOf (fd M14 10 3 x0) x4 M14) fun v17 M18 => if wr v13 = wr v17 then (if kd M18 (fd M18 10 7 x0) = 7 then cal (X5_add (fd M18 10 7 x0) x4 (-1) (-1) 0 M18) fun _ M22 => X9_findEverywhere_67 (X9_findEverywhere_3 n) x0 x1 x2 x3 x4 v6 M22 else none) else (X9_findEverywhere_67 (X9_findEverywhere_3 n) x0 x1 x2 x3 x4 v6 M18) else none else none) else (X9_findEverywhere_67 (X9_findEverywhere_3 n) x0 x1 x2 x3 x4 v6 M10)) else none) else none else none
def X9_findEverywhere (x0 x1 x2 x3 : Int) (M : Mo) : Option RS :=
  X9_findEverywhere_3 FU x0 x1 x2 x3 0 M
def X9_keepOne (x0 x1 x2 x3 x4 : Int) (M : Mo) : Option RS :=
  if kd M x0 = 11 then if kd M (fd M 10 7 x0) = 7 then cal (X5_size (fd M 10 7 x0) M) fun v2 M3 => if kd M3 (fd M3 10 7 x0) = 7 then cal (X5_startAt (fd M3 10 7 x0) 0 M3) fun v6 M7 => if kd M7 (fd M7 10 7 x0) = 7 then cal (X5_endAt (fd M7 10 7 x0) 0 M7) fun v10 M11 => if kd M11 (fd M11 10 7 x0) = 7 then cal (X5_clear (fd M11 10 7 x0) M11) fun _ M15 => if wr x1 = wr 1 then (if kd M15 (fd M15 10 7 x0) = 7 then cal (X5_add (fd M15 10 7 x0) x2 x3 x4 v2 M15) fun _ M23 => some (0, 0, M23) else none) else (if kd M15 (fd M15 10 7 x0) = 7 then cal (X5_add (fd M15 10 7 x0) x2 v6 v10 0 M15) fun _ M19 => some (0, 0, M19) else none) else none else none else none else none else none
def X9_find_64 (y0 y1 y2 y3 y4 : Int) (M : Mo) : Option RS :=
  if kd M y0 = 11 then cal (X9_findLonger y0 y1 y2 y3 y4 M) fun _ M2 => some (0, 0, M2) else none
def X9_find_161 (x0 x1 x2 x4 x5 x6 : Int) (M : Mo) : Option RS :=
  if wr x5 = wr (-1) then (some (0, 0, M)) else (if kd M x0 = 11 then cal (X9_findAlike x0 x4 x2 x2 x5 x6 M) fun _ M2 => if kd M2 x1 = 8 then cal (X9_keepOne x0 (fd M2 7 4 x1) x4 x5 x6 M2) fun _ M7 => some (0, 0, M7) else none else none)
def X9_find_38 (x0 x1 x2 x3 x4 x5 y0 : Int) (M : Mo) : Option RS :=
  if kd M x1 = 8 then if wr (fd M 7 4 x1) = 0 then (if wr x5 = wr (-1) then (X9_find_64 x0 x4 x2 x5 (-1) M) else (X9_find_64 x0 x4 x2 x5 x3 M)) else (if wr (fd M 7 4 x1) = wr 3 then (if kd M x0 = 11 then cal (X9_findAll x0 x4 x2 M) fun _ M19 => some (0, 0, M19) else none) else (if wr (fd M 7 4 x1) = wr 5 then (if kd M x2 = 12 then cal (X10_lineStart x2 x3 M) fun v6 M7 => cal (X10_lineEnd x2 v6 M7) fun v10 M11 => if wr v10 ≤ wr v6 then (some (0, 0, M11)) else (if kd M11 x0 = 11 then if kd M11 (fd M11 10 7 x0) = 7 then cal (X5_add (fd M11 10 7 x0) x4 v6 v10 0 M11) fun _ M15 => some (0, 0, M15) else none else none) else none) else (if wr x5 = wr (-1) then (X9_find_161 x0 x1 x2 x4 x5 y0 M) else (if wr (fd M 7 4 x1) = wr 4 then (if kd M x0 = 11 then cal (X9_findEverywhere x0 x2 x5 y0 M) fun _ M3 => some (0, 0, M3) else none) else (X9_find_161 x0 x1 x2 x4 x5 y0 M))))) else none
def X9_find (x0 x1 x2 : Int) (M : Mo) : Option RS :=
  if kd M x1 = 8 then if kd M x0 = 11 then if kd M x2 = 12 then cal (X10_runAt x2 (fd M 7 12 x1) (fd M 10 2 x0) M) fun v3 M4 => if wr v3 = wr (-1) then (X9_find_38 x0 x1 x2 (fd M 7 12 x1) (fd M 7 1 x1) v3 (-1) M4) else (cal (X10_runEnd x2 v3 M4) fun v7 M8 => X9_find_38 x0 x1 x2 (fd M 7 12 x1) (fd M 7 1 x1) v3 v7 M8) else none else none else none
def X9_answerTo_22 (M : Mo) : Option RS :=
  if nc M + 1 ≤ CAPC ∧ ns M + 17 ≤ CAPS then pt (nO M 7 17) fun M3 => cal0 (X6_init (nid M) 5 (-1) M3) fun _ M6 => some (0, (nid M), M6) else none
def X9_answerTo_78 (x0 x2 x3 : Int) (M : Mo) : Option RS :=
  if nc M + 1 ≤ CAPC ∧ ns M + 17 ≤ CAPS then pt (nO M 7 17) fun M3 => if kd M3 x2 = 8 then cal0 (X6_init (nid M) 5 (fd M3 7 1 x2) M3) fun _ M7 => pt (sF M7 7 11 (nid M) (fd M7 7 11 x2)) fun M9 => if kd M9 x3 = 4 then pt (sF M9 7 5 (nid M) (fd M9 3 4 x3)) fun M12 => if kd M12 x0 = 11 then if kd M12 (fd M12 10 7 x0) = 7 then cal (X5_copied (fd M12 10 7 x0) M12) fun v15 M16 => pt (sF M16 7 15 (nid M) v15) fun M19 => if wr (fd M19 7 4 x2) = wr 4 then (cal0 (X11_versionsOf (fd M19 10 4 x0) M19) fun v21 M22 => pt (sF M22 7 16 (nid M) v21) fun M24 => some (0, (nid M), M24)) else (some (0, (nid M), M19)) else none else none else none else none else none
def X9_answerTo (x0 x1 : Int) (M : Mo) : Option RS :=
  if kd M x0 = 11 then if kd M (fd M 10 7 x0) = 7 then cal (X5_clear (fd M 10 7 x0) M) fun _ M3 => if wr x1 < 0 then (X9_answerTo_22  M3) else (if kd M3 (fd M3 10 6 x0) = 1 then cal (Jx4a65c_size_8abf5 (fd M3 10 6 x0) M3) fun v6 M7 => if wr x1 < wr v6 then (if kd M7 (fd M7 10 6 x0) = 1 then cal (Jx4a65c_get_915e3 (fd M7 10 6 x0) x1 M7) fun v10 M11 => if v10 = 0 ∨ kd M11 v10 = 8 then if kd M11 (fd M11 10 6 x0) = 1 then cal (Jx4a65c_remove_915e3 (fd M11 10 6 x0) x1 M11) fun v15 M16 => if kd M16 v10 = 8 then cal (X9_copyOf x0 (fd M16 7 1 v10) M16) fun v20 M21 => if kd M21 v20 = 4 then cal (X2_isHere v20 M21) fun v23 M24 => if wr v23 = 0 then (X9_answerTo_78 x0 v10 v20 M24) else (cal (X9_find x0 v10 (fd M24 3 0 v20) M24) fun _ M28 => X9_answerTo_78 x0 v10 v20 M28) else none else none else none else none else none) else (X9_answerTo_22  M7) else none) else none else none
def X9_faultsOf_111 (k63 : Int → Int → Int → Int → Int → Int → Int → Int → Mo → Option RS) (x0 x1 x2 x3 x6 x7 x8 : Int) (M : Mo) : Option RS :=
  if kd M x0 = 11 then if kd M x3 = 12 then cal (X10_nextRun x3 x8 (fd M 10 2 x0) M) fun v2 M3 => k63 x0 x1 x2 x3 x6 x8 v2 (x7 + (-1)) M3 else none else none
def X9_faultsOf_137 (x0 x1 x2 : Int) (M : Mo) : Option RS :=
  if nc M + 1 ≤ CAPC ∧ ns M + 17 ≤ CAPS then pt (nO M 7 17) fun M3 => cal0 (X6_init (nid M) 6 x1 M3) fun _ M6 => if kd M6 x2 = 4 then pt (sF M6 7 5 (nid M) (fd M6 3 4 x2)) fun M9 => if kd M9 x0 = 11 then if kd M9 (fd M9 10 7 x0) = 7 then cal (X5_copied (fd M9 10 7 x0) M9) fun v12 M13 => pt (sF M13 7 15 (nid M) v12) fun M16 => some (0, (nid M), M16) else none else none else none else none
def X9_faultsOf_63 : Nat → Int → Int → Int → Int → Int → Int → Int → Int → Mo → Option RS
  | 0, _, _, _, _, _, _, _, _, _ => none
  | n + 1, x0, x1, x2, x3, x4, x5, x6, x7, M => if wr x7 ≤ 0 then (X9_faultsOf_137 x0 x1 x2 M) else (if wr x6 = wr (-1) then (X9_faultsOf_137 x0 x1 x2 M) else (if kd M x3 = 12 then cal (X10_runEnd x3 x6 M) fun v1 M2 => cal (X10_alike x3 x6 v1 x3 x4 x5 M2) fun v5 M6 => if wr v5 = 0 then (X9_faultsOf_111 (X9_faultsOf_63 n) x0 x1 x2 x3 x6 x7 v1 M6) else (if kd M6 x0 = 11 then if kd M6 (fd M6 10 7 x0) = 7 then cal (X5_add (fd M6 10 7 x0) x1 x6 v1 0 M6) fun _ M10 => X9_faultsOf_111 (X9_faultsOf_63 n) x0 x1 x2 x3 x6 x7 v1 M10 else none else none) else none))
def X9_faultsOf_45 (x0 x1 x2 x3 x4 y0 : Int) (M : Mo) : Option RS :=
  if kd M x0 = 11 then if kd M x3 = 12 then cal (X10_nextRun x3 y0 (fd M 10 2 x0) M) fun v2 M3 => X9_faultsOf_63 FU x0 x1 x2 x3 x4 y0 v2 100 M3 else none else none
def X9_faultsOf (x0 x1 : Int) (M : Mo) : Option RS :=
  if kd M x0 = 11 then cal (X9_copyOf x0 x1 M) fun v1 M2 => if kd M2 v1 = 4 then if kd M2 (fd M2 10 7 x0) = 7 then cal (X5_clear (fd M2 10 7 x0) M2) fun _ M7 => if kd M7 (fd M2 3 0 v1) = 12 then cal (X10_nextRun (fd M2 3 0 v1) 0 (fd M7 10 2 x0) M7) fun v10 M11 => if wr v10 = wr (-1) then (X9_faultsOf_45 x0 x1 v1 (fd M2 3 0 v1) v10 0 M11) else (cal (X10_runEnd (fd M2 3 0 v1) v10 M11) fun v14 M15 => X9_faultsOf_45 x0 x1 v1 (fd M2 3 0 v1) v10 v14 M15) else none else none else none else none
