def X5_init (x0 : Int) (M : Mo) : Option RS :=
  if kd M x0 ≠ 0 then if kd M x0 = 7 then pt (sF M 6 0 x0 1) fun M3 => some (0, 0, M3) else none else none
def X5_size (x0 : Int) (M : Mo) : Option RS :=
  if kd M x0 = 7 then some (0, (fd M 6 1 x0), M) else none
def X5_clear (x0 : Int) (M : Mo) : Option RS :=
  if kd M x0 = 7 then pt (sF M 6 1 x0 0) fun M2 => some (0, 0, M2) else none
def X5_cell (x0 x1 x2 : Int) (M : Mo) : Option RS :=
  if wr x1 < 0 then (some (0, 0, M)) else (if kd M x0 = 7 then if wr (fd M 6 1 x0) ≤ wr x1 then (some (0, 0, M)) else (if okA (kd M (fd M 6 0 x0)) = true then if wr (ln M (fd M 6 0 x0)) ≤ wr ((4 * x1) + x2) then (some (0, 0, M)) else (if kd M (fd M 6 0 x0) = 100 then if 0 ≤ wr ((4 * x1) + x2) ∧ wr ((4 * x1) + x2) < ln M (fd M 6 0 x0) then some (0, (el M 0 (fd M 6 0 x0) (wr ((4 * x1) + x2))), M) else none else none) else none) else none)
def X5_fileAt (x0 x1 : Int) (M : Mo) : Option RS :=
  if kd M x0 = 7 then cal (X5_cell x0 x1 0 M) fun v1 M2 => some (0, v1, M2) else none
def X5_startAt (x0 x1 : Int) (M : Mo) : Option RS :=
  if kd M x0 = 7 then cal (X5_cell x0 x1 1 M) fun v1 M2 => some (0, v1, M2) else none
def X5_endAt (x0 x1 : Int) (M : Mo) : Option RS :=
  if kd M x0 = 7 then cal (X5_cell x0 x1 2 M) fun v1 M2 => some (0, v1, M2) else none
def X5_valueAt (x0 x1 : Int) (M : Mo) : Option RS :=
  if kd M x0 = 7 then cal (X5_cell x0 x1 3 M) fun v1 M2 => some (0, v1, M2) else none
def X5_insert_59 (x0 x1 x2 x3 x4 x5 x6 : Int) (M : Mo) : Option RS :=
  if kd M x0 = 7 then if okA (kd M (fd M 6 0 x0)) = true then if wr (ln M (fd M 6 0 x0)) < wr (x6 + 4) then (some (0, 0, M)) else (if kd M (fd M 6 0 x0) = 100 then if 0 ≤ wr (4 * x1) ∧ 0 ≤ wr ((4 * x1) + 4) ∧ 0 ≤ wr (x6 - (4 * x1)) ∧ wr (4 * x1) + wr (x6 - (4 * x1)) ≤ ln M (fd M 6 0 x0) ∧ wr ((4 * x1) + 4) + wr (x6 - (4 * x1)) ≤ ln M (fd M 6 0 x0) then pt (cpE M 0 (fd M 6 0 x0) (wr (4 * x1)) (fd M 6 0 x0) (wr ((4 * x1) + 4)) (wr (x6 - (4 * x1)))) fun M5 => if kd M5 (fd M5 6 0 x0) = 100 then if 0 ≤ wr (4 * x1) ∧ wr (4 * x1) < ln M5 (fd M5 6 0 x0) then pt (sE M5 0 (fd M5 6 0 x0) (wr (4 * x1)) x2) fun M9 => if kd M9 (fd M9 6 0 x0) = 100 then if 0 ≤ wr ((4 * x1) + 1) ∧ wr ((4 * x1) + 1) < ln M9 (fd M9 6 0 x0) then pt (sE M9 0 (fd M9 6 0 x0) (wr ((4 * x1) + 1)) x3) fun M13 => if kd M13 (fd M13 6 0 x0) = 100 then if 0 ≤ wr ((4 * x1) + 2) ∧ wr ((4 * x1) + 2) < ln M13 (fd M13 6 0 x0) then pt (sE M13 0 (fd M13 6 0 x0) (wr ((4 * x1) + 2)) x4) fun M17 => if kd M17 (fd M17 6 0 x0) = 100 then if 0 ≤ wr ((4 * x1) + 3) ∧ wr ((4 * x1) + 3) < ln M17 (fd M17 6 0 x0) then pt (sE M17 0 (fd M17 6 0 x0) (wr ((4 * x1) + 3)) x5) fun M21 => pt (sF M21 6 1 x0 ((fd M21 6 1 x0) + 1)) fun M23 => some (0, 0, M23) else none else none else none else none else none else none else none else none else none else none) else none else none
def X5_insert (x0 x1 x2 x3 x4 x5 : Int) (M : Mo) : Option RS :=
  if wr x1 < 0 then (some (0, 0, M)) else (if kd M x0 = 7 then if wr x1 ≤ wr (fd M 6 1 x0) then (if okA (kd M (fd M 6 0 x0)) = true then if wr ((4 * (fd M 6 1 x0)) + 4) ≤ wr (ln M (fd M 6 0 x0)) then (X5_insert_59 x0 x1 x2 x3 x4 x5 (4 * (fd M 6 1 x0)) M) else (if wr 1000000 < wr ((4 * (fd M 6 1 x0)) + 4) then (X5_insert_59 x0 x1 x2 x3 x4 x5 (4 * (fd M 6 1 x0)) M) else (cal (J7_copyOf_59c91 (fd M 6 0 x0) (2 * ((4 * (fd M 6 1 x0)) + 4)) M) fun v3 M4 => pt (sF M4 6 0 x0 v3) fun M6 => X5_insert_59 x0 x1 x2 x3 x4 x5 (4 * (fd M 6 1 x0)) M6)) else none) else (some (0, 0, M)) else none)
def X5_add (x0 x1 x2 x3 x4 : Int) (M : Mo) : Option RS :=
  if kd M x0 = 7 then cal (X5_insert x0 (fd M 6 1 x0) x1 x2 x3 x4 M) fun _ M3 => some (0, 0, M3) else none
def X5_insertSpan_72 (k6 : Int → Int → Int → Int → Int → Int → Int → Mo → Option RS) (x0 x1 x2 x3 x4 x5 x6 : Int) (M : Mo) : Option RS :=
  k6 x0 x1 x2 x3 x4 x5 (x6 + 1) M
def X5_insertSpan_66 (k6 : Int → Int → Int → Int → Int → Int → Int → Mo → Option RS) (x0 x1 x2 x3 x4 x6 : Int) (M : Mo) : Option RS :=
  X5_insertSpan_72 k6 x0 x1 x2 x3 x4 (x6 + 1) x6 M
def X5_insertSpan_36 (k6 : Int → Int → Int → Int → Int → Int → Int → Mo → Option RS) (x0 x1 x2 x3 x4 x5 x6 : Int) (M : Mo) : Option RS :=
  if kd M x0 = 7 then cal (X5_startAt x0 x6 M) fun v1 M2 => if wr v1 < wr x2 then (X5_insertSpan_66 k6 x0 x1 x2 x3 x4 x6 M2) else (cal (X5_startAt x0 x6 M2) fun v5 M6 => if wr v5 = wr x2 then (cal (X5_endAt x0 x6 M6) fun v8 M9 => if wr x3 ≤ wr v8 then (X5_insertSpan_72 k6 x0 x1 x2 x3 x4 x5 x6 M9) else (X5_insertSpan_66 k6 x0 x1 x2 x3 x4 x6 M9)) else (X5_insertSpan_72 k6 x0 x1 x2 x3 x4 x5 x6 M6)) else none
def X5_insertSpan_6 : Nat → Int → Int → Int → Int → Int → Int → Int → Mo → Option RS
  | 0, _, _, _, _, _, _, _, _ => none
  | n + 1, x0, x1, x2, x3, x4, x5, x6, M => if kd M x0 = 7 then if wr (fd M 6 1 x0) ≤ wr x6 then (cal (X5_insert x0 x5 x1 x2 x3 x4 M) fun _ M3 => some (0, 0, M3)) else (cal (X5_startAt x0 x6 M) fun v5 M6 => if wr v5 = wr x2 then (cal (X5_endAt x0 x6 M6) fun v8 M9 => if wr v8 = wr x3 then (some (0, 0, M9)) else (X5_insertSpan_36 (X5_insertSpan_6 n) x0 x1 x2 x3 x4 x5 x6 M9)) else (X5_insertSpan_36 (X5_insertSpan_6 n) x0 x1 x2 x3 x4 x5 x6 M6)) else none
def X5_insertSpan (x0 x1 x2 x3 x4 : Int) (M : Mo) : Option RS :=
  X5_insertSpan_6 FU x0 x1 x2 x3 x4 0 0 M
def X5_insertApart_52 (k6 : Int → Int → Int → Int → Int → Int → Int → Mo → Option RS) (x0 x1 x2 x3 x4 x5 x6 : Int) (M : Mo) : Option RS :=
  k6 x0 x1 x2 x3 x4 x5 (x6 + 1) M
def X5_insertApart_36 (k6 : Int → Int → Int → Int → Int → Int → Int → Mo → Option RS) (x0 x1 x2 x3 x4 x5 x6 : Int) (M : Mo) : Option RS :=
  if kd M x0 = 7 then cal (X5_startAt x0 x6 M) fun v1 M2 => if wr x2 ≤ wr v1 then (X5_insertApart_52 k6 x0 x1 x2 x3 x4 x5 x6 M2) else (X5_insertApart_52 k6 x0 x1 x2 x3 x4 (x6 + 1) x6 M2) else none
def X5_insertApart_6 : Nat → Int → Int → Int → Int → Int → Int → Int → Mo → Option RS
  | 0, _, _, _, _, _, _, _, _ => none
  | n + 1, x0, x1, x2, x3, x4, x5, x6, M => if kd M x0 = 7 then if wr (fd M 6 1 x0) ≤ wr x6 then (cal (X5_insert x0 x5 x1 x2 x3 x4 M) fun _ M3 => some (0, 0, M3)) else (cal (X5_startAt x0 x6 M) fun v5 M6 => if wr x3 ≤ wr v5 then (X5_insertApart_36 (X5_insertApart_6 n) x0 x1 x2 x3 x4 x5 x6 M6) else (cal (X5_endAt x0 x6 M6) fun v8 M9 => if wr v8 ≤ wr x2 then (X5_insertApart_36 (X5_insertApart_6 n) x0 x1 x2 x3 x4 x5 x6 M9) else (some (0, 0, M9)))) else none
def X5_insertApart (x0 x1 x2 x3 x4 : Int) (M : Mo) : Option RS :=
  X5_insertApart_6 FU x0 x1 x2 x3 x4 0 0 M
def X5_insertRun_53 (k6 : Int → Int → Int → Int → Int → Int → Int → Mo → Option RS) (x0 x1 x2 x3 x4 x5 x6 : Int) (M : Mo) : Option RS :=
  k6 x0 x1 x2 x3 x4 x5 (x6 + 1) M
def X5_insertRun_6 : Nat → Int → Int → Int → Int → Int → Int → Int → Mo → Option RS
  | 0, _, _, _, _, _, _, _, _ => none
  | n + 1, x0, x1, x2, x3, x4, x5, x6, M => if kd M x0 = 7 then if wr (fd M 6 1 x0) ≤ wr x6 then (cal (X5_insert x0 x5 x2 x3 x4 0 M) fun _ M3 => some (0, 0, M3)) else (cal (X5_startAt x0 x6 M) fun v5 M6 => cal (X5_endAt x0 x6 M6) fun v8 M9 => if kd M9 x1 = 12 then cal (X10_compareRuns x1 v5 v8 x3 x4 M9) fun v11 M12 => if wr v11 = 0 then (some (0, 0, M12)) else (if 0 ≤ wr v11 then (X5_insertRun_53 (X5_insertRun_6 n) x0 x1 x2 x3 x4 x5 x6 M12) else (X5_insertRun_53 (X5_insertRun_6 n) x0 x1 x2 x3 x4 (x6 + 1) x6 M12)) else none) else none
def X5_insertRun (x0 x1 x2 x3 x4 : Int) (M : Mo) : Option RS :=
  X5_insertRun_6 FU x0 x1 x2 x3 x4 0 0 M
def X5_move_159 (k6 : Int → Int → Int → Int → Int → Int → Mo → Option RS) (x0 x1 x2 x3 x4 x5 : Int) (M : Mo) : Option RS :=
  k6 x0 x1 x2 x3 x4 (x5 + 1) M
def X5_move_82 (k6 : Int → Int → Int → Int → Int → Int → Mo → Option RS) (x0 x1 x2 x3 x4 x5 x6 x7 y0 : Int) (M : Mo) : Option RS :=
  if kd M x0 = 7 then if kd M (fd M 6 0 x0) = 100 then if 0 ≤ wr (4 * x5) ∧ wr (4 * x5) < ln M (fd M 6 0 x0) then if 0 ≤ wr (4 * x4) ∧ wr (4 * x4) < ln M (fd M 6 0 x0) then pt (sE M 0 (fd M 6 0 x0) (wr (4 * x4)) (el M 0 (fd M 6 0 x0) (wr (4 * x5)))) fun M5 => if kd M5 (fd M5 6 0 x0) = 100 then if 0 ≤ wr ((4 * x4) + 1) ∧ wr ((4 * x4) + 1) < ln M5 (fd M5 6 0 x0) then pt (sE M5 0 (fd M5 6 0 x0) (wr ((4 * x4) + 1)) (x6 + y0)) fun M9 => if kd M9 (fd M9 6 0 x0) = 100 then if 0 ≤ wr ((4 * x4) + 2) ∧ wr ((4 * x4) + 2) < ln M9 (fd M9 6 0 x0) then pt (sE M9 0 (fd M9 6 0 x0) (wr ((4 * x4) + 2)) (x7 + y0)) fun M13 => if kd M13 (fd M13 6 0 x0) = 100 then if 0 ≤ wr ((4 * x5) + 3) ∧ wr ((4 * x5) + 3) < ln M13 (fd M13 6 0 x0) then if 0 ≤ wr ((4 * x4) + 3) ∧ wr ((4 * x4) + 3) < ln M13 (fd M13 6 0 x0) then pt (sE M13 0 (fd M13 6 0 x0) (wr ((4 * x4) + 3)) (el M13 0 (fd M13 6 0 x0) (wr ((4 * x5) + 3)))) fun M18 => X5_move_159 k6 x0 x1 x2 x3 (x4 + 1) x5 M18 else none else none else none else none else none else none else none else none else none else none else none
def X5_move_67 (k6 : Int → Int → Int → Int → Int → Int → Mo → Option RS) (x0 x1 x2 x3 x4 x5 x6 x7 : Int) (M : Mo) : Option RS :=
  if wr x6 < wr x2 then (X5_move_82 k6 x0 x1 x2 x3 x4 x5 x6 x7 0 M) else (X5_move_82 k6 x0 x1 x2 x3 x4 x5 x6 x7 (x3 - (x2 - x1)) M)
def X5_move_165 (x0 x4 : Int) (M : Mo) : Option RS :=
  if kd M x0 = 7 then pt (sF M 6 1 x0 x4) fun M2 => some (0, 0, M2) else none
def X5_move_6 : Nat → Int → Int → Int → Int → Int → Int → Mo → Option RS
  | 0, _, _, _, _, _, _, _ => none
  | n + 1, x0, x1, x2, x3, x4, x5, M => if kd M x0 = 7 then if wr (fd M 6 1 x0) ≤ wr x5 then (X5_move_165 x0 x4 M) else (if okA (kd M (fd M 6 0 x0)) = true then if wr (ln M (fd M 6 0 x0)) ≤ wr ((4 * x5) + 3) then (X5_move_165 x0 x4 M) else (if kd M (fd M 6 0 x0) = 100 then if 0 ≤ wr ((4 * x5) + 1) ∧ wr ((4 * x5) + 1) < ln M (fd M 6 0 x0) then if 0 ≤ wr ((4 * x5) + 2) ∧ wr ((4 * x5) + 2) < ln M (fd M 6 0 x0) then if wr x2 ≤ wr (el M 0 (fd M 6 0 x0) (wr ((4 * x5) + 1))) then (X5_move_67 (X5_move_6 n) x0 x1 x2 x3 x4 x5 (el M 0 (fd M 6 0 x0) (wr ((4 * x5) + 1))) (el M 0 (fd M 6 0 x0) (wr ((4 * x5) + 2))) M) else (if wr x1 < wr (el M 0 (fd M 6 0 x0) (wr ((4 * x5) + 2))) then (X5_move_159 (X5_move_6 n) x0 x1 x2 x3 x4 x5 M) else (X5_move_67 (X5_move_6 n) x0 x1 x2 x3 x4 x5 (el M 0 (fd M 6 0 x0) (wr ((4 * x5) + 1))) (el M 0 (fd M 6 0 x0) (wr ((4 * x5) + 2))) M)) else none else none else none) else none) else none
def X5_move (x0 x1 x2 x3 : Int) (M : Mo) : Option RS :=
  X5_move_6 FU x0 x1 x2 x3 0 0 M
def X5_isIn_2 : Nat → Int → Int → Int → Mo → Option RS
  | 0, _, _, _, _ => none
  | n + 1, x0, x1, x2, M => if kd M x0 = 7 then if wr (fd M 6 1 x0) ≤ wr x2 then (some (0, 0, M)) else (cal (X5_fileAt x0 x2 M) fun v2 M3 => if wr v2 = wr x1 then (some (0, 1, M3)) else (X5_isIn_2 n x0 x1 (x2 + 1) M3)) else none
def X5_isIn (x0 x1 : Int) (M : Mo) : Option RS :=
  X5_isIn_2 FU x0 x1 0 M
def X5_takeAll_34 (x0 x1 x2 : Int) (M : Mo) : Option RS :=
  if wr x2 < 0 then (some (0, 0, M)) else (if kd M x0 = 7 then if okA (kd M (fd M 6 0 x0)) = true then if wr (ln M (fd M 6 0 x0)) < wr x2 then (some (0, 0, M)) else (if kd M x1 = 7 then if okA (kd M (fd M 6 0 x1)) = true then if wr (ln M (fd M 6 0 x1)) < wr x2 then (some (0, 0, M)) else (if kd M (fd M 6 0 x1) = 100 then if kd M (fd M 6 0 x0) = 100 then if 0 ≤ wr 0 ∧ 0 ≤ wr 0 ∧ 0 ≤ wr x2 ∧ wr 0 + wr x2 ≤ ln M (fd M 6 0 x1) ∧ wr 0 + wr x2 ≤ ln M (fd M 6 0 x0) then pt (cpE M 0 (fd M 6 0 x1) (wr 0) (fd M 6 0 x0) (wr 0) (wr x2)) fun M8 => pt (sF M8 6 1 x0 (fd M8 6 1 x1)) fun M10 => some (0, 0, M10) else none else none else none) else none else none) else none else none)
def X5_takeAll (x0 x1 : Int) (M : Mo) : Option RS :=
  if kd M x1 = 7 then if kd M x0 = 7 then if okA (kd M (fd M 6 0 x0)) = true then if wr (4 * (fd M 6 1 x1)) ≤ wr (ln M (fd M 6 0 x0)) then (X5_takeAll_34 x0 x1 (4 * (fd M 6 1 x1)) M) else (if wr 1000000 < wr (4 * (fd M 6 1 x1)) then (X5_takeAll_34 x0 x1 (4 * (fd M 6 1 x1)) M) else (cal (J7_copyOf_59c91 (fd M 6 0 x0) (4 * (fd M 6 1 x1)) M) fun v4 M5 => pt (sF M5 6 0 x0 v4) fun M7 => X5_takeAll_34 x0 x1 (4 * (fd M 6 1 x1)) M7)) else none else none else none
def X5_copied (x0 : Int) (M : Mo) : Option RS :=
  if nc M + 1 ≤ CAPC ∧ ns M + 2 ≤ CAPS then pt (nO M 6 2) fun M3 => cal0 (X5_init (nid M) M3) fun _ M6 => if kd M6 x0 = 7 then if wr (fd M6 6 1 x0) ≤ 0 then (some (0, (nid M), M6)) else (if okA (kd M6 (fd M6 6 0 x0)) = true then if wr (ln M6 (fd M6 6 0 x0)) < wr (4 * (fd M6 6 1 x0)) then (some (0, (nid M), M6)) else (cal (J7_copyOf_59c91 (fd M6 6 0 x0) (4 * (fd M6 6 1 x0)) M6) fun v10 M11 => pt (sF M11 6 0 (nid M) v10) fun M13 => pt (sF M13 6 1 (nid M) (fd M13 6 1 x0)) fun M15 => some (0, (nid M), M15)) else none) else none else none
