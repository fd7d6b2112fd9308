def X10_init (x0 : Int) (M : Mo) : Option RS :=
  if kd M x0 ≠ 0 then if nc M + 1 ≤ CAPC ∧ ns M + (wr 100).toNat ≤ CAPS then pt (nA M 1 (wr 100)) fun M4 => if kd M4 x0 = 12 then pt (sF M4 11 0 x0 (nid M)) fun M7 => some (0, 0, M7) else none else none else none
def X10_isLetter (x0 : Int) (M : Mo) : Option RS :=
  if wr x0 < wr 97 then (some (0, 0, M)) else (if wr 122 < wr x0 then (some (0, 0, M)) else (some (0, 1, M)))
def X10_isDigit (x0 : Int) (M : Mo) : Option RS :=
  if wr x0 < wr 48 then (some (0, 0, M)) else (if wr 57 < wr x0 then (some (0, 0, M)) else (some (0, 1, M)))
def X10_isFace (x0 : Int) (M : Mo) : Option RS :=
  if wr x0 < wr 128512 then (some (0, 0, M)) else (if wr 128591 < wr x0 then (some (0, 0, M)) else (some (0, 1, M)))
def X10_isCharacter (x0 : Int) (M : Mo) : Option RS :=
  cal (X10_isLetter x0 M) fun v1 M2 => if wr v1 = 0 then (cal (X10_isDigit x0 M2) fun v4 M5 => if wr v4 = 0 then (if wr x0 = wr 32 then (some (0, 1, M5)) else (if wr x0 = wr 10 then (some (0, 1, M5)) else (cal (X10_isFace x0 M5) fun v7 M8 => if wr v7 = 0 then (some (0, 0, M8)) else (some (0, 1, M8))))) else (some (0, 1, M5))) else (some (0, 1, M2))
def X10_unitsOf (x0 : Int) (M : Mo) : Option RS :=
  if wr x0 = wr (-1) then (some (0, 0, M)) else (if wr x0 < wr 128512 then (some (0, 1, M)) else (some (0, 2, M)))
def X10_size (x0 : Int) (M : Mo) : Option RS :=
  if kd M x0 = 12 then some (0, (fd M 11 1 x0), M) else none
def X10_at (x0 x1 : Int) (M : Mo) : Option RS :=
  if wr x1 < 0 then (some (0, (-1), M)) else (if kd M x0 = 12 then if wr (fd M 11 1 x0) ≤ wr x1 then (some (0, (-1), M)) else (if okA (kd M (fd M 11 0 x0)) = true then if wr (ln M (fd M 11 0 x0)) ≤ wr x1 then (some (0, (-1), M)) else (if kd M (fd M 11 0 x0) = 101 then if 0 ≤ wr x1 ∧ wr x1 < ln M (fd M 11 0 x0) then some (0, (el M 1 (fd M 11 0 x0) (wr x1)), M) else none else none) else none) else none)
def X10_takePart (x0 x1 x2 x3 : Int) (M : Mo) : Option RS :=
  if wr x2 < 0 then (some (0, 0, M)) else (if wr x3 < wr x2 then (some (0, 0, M)) else (if kd M x1 = 12 then if wr (fd M 11 1 x1) < wr x3 then (some (0, 0, M)) else (if okA (kd M (fd M 11 0 x1)) = true then if wr x3 ≤ wr (ln M (fd M 11 0 x1)) then (if kd M x0 = 12 then if kd M (fd M 11 0 x1) = 101 then if kd M (fd M 11 0 x0) = 101 then if 0 ≤ wr x2 ∧ 0 ≤ wr 0 ∧ 0 ≤ wr (x3 - x2) ∧ wr x2 + wr (x3 - x2) ≤ ln M (fd M 11 0 x1) ∧ wr 0 + wr (x3 - x2) ≤ ln M (fd M 11 0 x0) then pt (cpE M 1 (fd M 11 0 x1) (wr x2) (fd M 11 0 x0) (wr 0) (wr (x3 - x2))) fun M7 => pt (sF M7 11 1 x0 (x3 - x2)) fun M9 => some (0, 0, M9) else none else none else none else none) else (some (0, 0, M)) else none) else none))
def X10_takeAll (x0 x1 : Int) (M : Mo) : Option RS :=
  if kd M x1 = 12 then if kd M x0 = 12 then cal (X10_takePart x0 x1 0 (fd M 11 1 x1) M) fun _ M3 => some (0, 0, M3) else none else none
def X10_canReplace (x0 x1 x2 x3 : Int) (M : Mo) : Option RS :=
  if wr x1 < 0 then (some (0, 0, M)) else (if wr x2 < wr x1 then (some (0, 0, M)) else (if kd M x0 = 12 then if wr (fd M 11 1 x0) < wr x2 then (some (0, 0, M)) else (cal (X10_unitsOf x3 M) fun v2 M3 => if okA (kd M3 (fd M3 11 0 x0)) = true then if wr (ln M3 (fd M3 11 0 x0)) < wr (((fd M 11 1 x0) - (x2 - x1)) + v2) then (some (0, 0, M3)) else (some (0, 1, M3)) else none) else none))
def X10_replace_106 (x0 x1 x3 x4 : Int) (M : Mo) : Option RS :=
  if wr x4 = wr 2 then (if kd M x0 = 12 then if okA (kd M (fd M 11 0 x0)) = true then if wr (ln M (fd M 11 0 x0)) ≤ wr (x1 + 1) then (some (0, 0, M)) else (if kd M (fd M 11 0 x0) = 101 then if 0 ≤ wr x1 ∧ wr x1 < ln M (fd M 11 0 x0) then pt (sE M 1 (fd M 11 0 x0) (wr x1) (n16 (c16 (55296 + (ishr (x3 - 65536) 10))))) fun M5 => if kd M5 (fd M5 11 0 x0) = 101 then if 0 ≤ wr (x1 + 1) ∧ wr (x1 + 1) < ln M5 (fd M5 11 0 x0) then pt (sE M5 1 (fd M5 11 0 x0) (wr (x1 + 1)) (n16 (c16 (56320 + (iand (x3 - 65536) 1023))))) fun M9 => some (0, 0, M9) else none else none else none else none) else none else none) else (some (0, 0, M))
def X10_replace (x0 x1 x2 x3 : Int) (M : Mo) : Option RS :=
  cal (X10_unitsOf x3 M) fun v1 M2 => if wr x1 < 0 then (some (0, 0, M2)) else (if wr x2 < wr x1 then (some (0, 0, M2)) else (if kd M2 x0 = 12 then if wr (fd M2 11 1 x0) < wr x2 then (some (0, 0, M2)) else (if okA (kd M2 (fd M2 11 0 x0)) = true then if wr (((fd M2 11 1 x0) - (x2 - x1)) + v1) ≤ wr (ln M2 (fd M2 11 0 x0)) then (if kd M2 (fd M2 11 0 x0) = 101 then if 0 ≤ wr x2 ∧ 0 ≤ wr (x1 + v1) ∧ 0 ≤ wr ((fd M2 11 1 x0) - x2) ∧ wr x2 + wr ((fd M2 11 1 x0) - x2) ≤ ln M2 (fd M2 11 0 x0) ∧ wr (x1 + v1) + wr ((fd M2 11 1 x0) - x2) ≤ ln M2 (fd M2 11 0 x0) then pt (cpE M2 1 (fd M2 11 0 x0) (wr x2) (fd M2 11 0 x0) (wr (x1 + v1)) (wr ((fd M2 11 1 x0) - x2))) fun M8 => pt (sF M8 11 1 x0 (((fd M8 11 1 x0) - (x2 - x1)) + v1)) fun M10 => if wr v1 = wr 1 then (if okA (kd M10 (fd M10 11 0 x0)) = true then if wr (ln M10 (fd M10 11 0 x0)) ≤ wr x1 then (X10_replace_106 x0 x1 x3 v1 M10) else (if kd M10 (fd M10 11 0 x0) = 101 then if 0 ≤ wr x1 ∧ wr x1 < ln M10 (fd M10 11 0 x0) then pt (sE M10 1 (fd M10 11 0 x0) (wr x1) (n16 (c16 x3))) fun M15 => some (0, 0, M15) else none else none) else none) else (X10_replace_106 x0 x1 x3 v1 M10) else none else none) else (some (0, 0, M2)) else none) else none))
def X10_alike_16 : Nat → Int → Int → Int → Int → Int → Int → Mo → Option RS
  | 0, _, _, _, _, _, _, _ => none
  | n + 1, x0, x1, x2, x3, x4, x6, M => if wr (x2 - x1) ≤ wr x6 then (some (0, 1, M)) else (if kd M x0 = 12 then cal (X10_at x0 (x1 + x6) M) fun v1 M2 => if kd M2 x3 = 12 then cal (X10_at x3 (x4 + x6) M2) fun v5 M6 => if wr v1 = wr v5 then (X10_alike_16 n x0 x1 x2 x3 x4 (x6 + 1) M6) else (some (0, 0, M6)) else none else none)
def X10_alike (x0 x1 x2 x3 x4 x5 : Int) (M : Mo) : Option RS :=
  if wr (x2 - x1) = wr (x5 - x4) then (X10_alike_16 FU x0 x1 x2 x3 x4 0 M) else (some (0, 0, M))
def X10_isSame (x0 x1 : Int) (M : Mo) : Option RS :=
  if kd M x0 = 12 then if kd M x1 = 12 then cal (X10_alike x0 0 (fd M 11 1 x0) x1 0 (fd M 11 1 x1) M) fun v3 M4 => if nB v3 = wr v3 then some (0, v3, M4) else none else none else none
def X10_lineEnd_6 : Nat → Int → Int → Mo → Option RS
  | 0, _, _, _ => none
  | n + 1, x0, x2, M => if kd M x0 = 12 then if wr (fd M 11 1 x0) ≤ wr x2 then (some (0, (fd M 11 1 x0), M)) else (if okA (kd M (fd M 11 0 x0)) = true then if wr (ln M (fd M 11 0 x0)) ≤ wr x2 then (some (0, (fd M 11 1 x0), M)) else (if kd M (fd M 11 0 x0) = 101 then if 0 ≤ wr x2 ∧ wr x2 < ln M (fd M 11 0 x0) then if wr (el M 1 (fd M 11 0 x0) (wr x2)) = wr 10 then (some (0, x2, M)) else (X10_lineEnd_6 n x0 (x2 + 1) M) else none else none) else none) else none
def X10_lineEnd (x0 x1 : Int) (M : Mo) : Option RS :=
  X10_lineEnd_6 FU x0 (mxx x1 0) M
def X10_placeOf_42 (k8 : Int → Int → Int → Int → Int → Int → Mo → Option RS) (x0 x1 x2 x3 x4 x5 : Int) (M : Mo) : Option RS :=
  k8 x0 x1 x2 x3 x4 (x5 + 1) M
def X10_placeOf_100 (x5 y0 : Int) (M : Mo) : Option RS :=
  if wr y0 = 0 then (some (0, x5, M)) else (some (0, (x5 - 1), M))
def X10_placeOf_99 (x5 : Int) (M : Mo) : Option RS :=
  X10_placeOf_100 x5 0 M
def X10_placeOf_48 (x0 x1 x2 x3 x4 : Int) (M : Mo) : Option RS :=
  if wr x1 ≤ wr x3 then (if kd M x0 = 12 then cal (X10_lineEnd x0 x4 M) fun v1 M2 => cal (X10_at x0 (mnn (x4 + x2) v1) M2) fun v5 M6 => if wr v5 < wr 56320 then (X10_placeOf_99 (mnn (x4 + x2) v1) M6) else (cal (X10_at x0 (mnn (x4 + x2) v1) M6) fun v8 M9 => if wr 57343 < wr v8 then (X10_placeOf_99 (mnn (x4 + x2) v1) M9) else (X10_placeOf_100 (mnn (x4 + x2) v1) 1 M9)) else none) else (if kd M x0 = 12 then some (0, (fd M 11 1 x0), M) else none)
def X10_placeOf_8 : Nat → Int → Int → Int → Int → Int → Int → Mo → Option RS
  | 0, _, _, _, _, _, _, _ => none
  | n + 1, x0, x1, x2, x3, x4, x5, M => if kd M x0 = 12 then if wr (fd M 11 1 x0) ≤ wr x5 then (X10_placeOf_48 x0 x1 x2 x3 x4 M) else (if wr x1 ≤ wr x3 then (X10_placeOf_48 x0 x1 x2 x3 x4 M) else (cal (X10_at x0 x5 M) fun v2 M3 => if wr v2 = wr 10 then (X10_placeOf_42 (X10_placeOf_8 n) x0 x1 x2 (x3 + 1) (x5 + 1) x5 M3) else (X10_placeOf_42 (X10_placeOf_8 n) x0 x1 x2 x3 x4 x5 M3))) else none
def X10_placeOf (x0 x1 x2 : Int) (M : Mo) : Option RS :=
  X10_placeOf_8 FU x0 x1 x2 0 0 0 M
def X10_lineOf_30 (k4 : Int → Int → Int → Int → Mo → Option RS) (x0 x1 x2 x3 : Int) (M : Mo) : Option RS :=
  k4 x0 x1 x2 (x3 + 1) M
def X10_lineOf_4 : Nat → Int → Int → Int → Int → Mo → Option RS
  | 0, _, _, _, _, _ => none
  | n + 1, x0, x1, x2, x3, M => if wr x1 ≤ wr x3 then (some (0, x2, M)) else (if kd M x0 = 12 then if wr (fd M 11 1 x0) ≤ wr x3 then (some (0, x2, M)) else (cal (X10_at x0 x3 M) fun v2 M3 => if wr v2 = wr 10 then (X10_lineOf_30 (X10_lineOf_4 n) x0 x1 (x2 + 1) x3 M3) else (X10_lineOf_30 (X10_lineOf_4 n) x0 x1 x2 x3 M3)) else none)
def X10_lineOf (x0 x1 : Int) (M : Mo) : Option RS :=
  X10_lineOf_4 FU x0 x1 0 0 M
def X10_lineStart_31 (k4 : Int → Int → Int → Int → Mo → Option RS) (x0 x1 x2 x3 : Int) (M : Mo) : Option RS :=
  k4 x0 x1 x2 (x3 + 1) M
def X10_lineStart_4 : Nat → Int → Int → Int → Int → Mo → Option RS
  | 0, _, _, _, _, _ => none
  | n + 1, x0, x1, x2, x3, M => if wr x1 ≤ wr x3 then (some (0, x2, M)) else (if kd M x0 = 12 then if wr (fd M 11 1 x0) ≤ wr x3 then (some (0, x2, M)) else (cal (X10_at x0 x3 M) fun v2 M3 => if wr v2 = wr 10 then (X10_lineStart_31 (X10_lineStart_4 n) x0 x1 (x3 + 1) x3 M3) else (X10_lineStart_31 (X10_lineStart_4 n) x0 x1 x2 x3 M3)) else none)
def X10_lineStart (x0 x1 : Int) (M : Mo) : Option RS :=
  X10_lineStart_4 FU x0 x1 0 0 M
def X10_sortAt_46 (x2 : Int) (M : Mo) : Option RS :=
  if wr x2 < wr 48 then (some (0, (-1), M)) else (if wr 57 < wr x2 then (some (0, (-1), M)) else (some (0, 1, M)))
def X10_sortAt_31 (y0 : Int) (M : Mo) : Option RS :=
  if wr y0 < wr 97 then (X10_sortAt_46 y0 M) else (if wr 122 < wr y0 then (X10_sortAt_46 y0 M) else (some (0, 0, M)))
def X10_sortAt_30 (M : Mo) : Option RS :=
  X10_sortAt_31 (-1) M
def X10_sortAt (x0 x1 : Int) (M : Mo) : Option RS :=
  if wr x1 < 0 then (X10_sortAt_30  M) else (if kd M x0 = 12 then if wr (fd M 11 1 x0) ≤ wr x1 then (X10_sortAt_30  M) else (if okA (kd M (fd M 11 0 x0)) = true then if wr (ln M (fd M 11 0 x0)) ≤ wr x1 then (X10_sortAt_30  M) else (if kd M (fd M 11 0 x0) = 101 then if 0 ≤ wr x1 ∧ wr x1 < ln M (fd M 11 0 x0) then X10_sortAt_31 (el M 1 (fd M 11 0 x0) (wr x1)) M else none else none) else none) else none)
def X10_tokenValue (x0 x1 : Int) (M : Mo) : Option RS :=
  if kd M x0 = 12 then cal (X10_sortAt x0 x1 M) fun v1 M2 => if wr v1 = wr 1 then (some (0, 1, M2)) else (some (0, 0, M2)) else none
def X10_nextRun_81 (k6 : Int → Int → Int → Mo → Option RS) (x0 x2 x3 : Int) (M : Mo) : Option RS :=
  k6 x0 x2 (x3 + 1) M
def X10_nextRun_60 (k6 : Int → Int → Int → Mo → Option RS) (x0 x2 x3 x4 y0 : Int) (M : Mo) : Option RS :=
  if wr y0 = 0 then (X10_nextRun_81 k6 x0 x2 x3 M) else (if kd M x0 = 12 then cal (X10_sortAt x0 (x3 - 1) M) fun v1 M2 => if wr v1 = wr x4 then (X10_nextRun_81 k6 x0 x2 x3 M2) else (some (0, x3, M2)) else none)
def X10_nextRun_52 (k6 : Int → Int → Int → Mo → Option RS) (x0 x2 x3 x4 y0 y1 : Int) (M : Mo) : Option RS :=
  if wr y0 = wr y1 then (X10_nextRun_60 k6 x0 x2 x3 x4 1 M) else (X10_nextRun_60 k6 x0 x2 x3 x4 0 M)
def X10_nextRun_6 : Nat → Int → Int → Int → Mo → Option RS
  | 0, _, _, _, _ => none
  | n + 1, x0, x2, x3, M => if kd M x0 = 12 then if wr (fd M 11 1 x0) ≤ wr x3 then (some (0, (-1), M)) else (cal (X10_sortAt x0 x3 M) fun v2 M3 => if wr x2 = wr 2 then (if wr v2 = wr (-1) then (X10_nextRun_60 (X10_nextRun_6 n) x0 x2 x3 v2 0 M3) else (X10_nextRun_60 (X10_nextRun_6 n) x0 x2 x3 v2 1 M3)) else (if wr x2 = wr 1 then (X10_nextRun_52 (X10_nextRun_6 n) x0 x2 x3 v2 v2 1 M3) else (X10_nextRun_52 (X10_nextRun_6 n) x0 x2 x3 v2 v2 0 M3))) else none
def X10_nextRun (x0 x1 x2 : Int) (M : Mo) : Option RS :=
  X10_nextRun_6 FU x0 x2 (mxx x1 0) M
def X10_runEnd_10 : Nat → Int → Int → Int → Mo → Option RS
  | 0, _, _, _, _ => none
  | n + 1, x0, x2, x3, M => if kd M x0 = 12 then if wr (fd M 11 1 x0) ≤ wr x3 then (some (0, (fd M 11 1 x0), M)) else (cal (X10_sortAt x0 x3 M) fun v2 M3 => if wr v2 = wr x2 then (X10_runEnd_10 n x0 x2 (x3 + 1) M3) else (some (0, x3, M3))) else none
def X10_runEnd (x0 x1 : Int) (M : Mo) : Option RS :=
  if kd M x0 = 12 then cal (X10_sortAt x0 x1 M) fun v1 M2 => X10_runEnd_10 FU x0 v1 (x1 + 1) M2 else none
def X10_runAt_11 : Nat → Int → Int → Int → Int → Int → Mo → Option RS
  | 0, _, _, _, _, _, _ => none
  | n + 1, x0, x1, x2, x3, x4, M => if wr x4 ≤ 0 then (some (0, (-1), M)) else (if wr x3 = wr (-1) then (some (0, (-1), M)) else (if wr x1 < wr x3 then (some (0, (-1), M)) else (if kd M x0 = 12 then cal (X10_runEnd x0 x3 M) fun v1 M2 => if wr v1 < wr x1 then (cal (X10_nextRun x0 v1 x2 M2) fun v5 M6 => X10_runAt_11 n x0 x1 x2 v5 (x4 + (-1)) M6) else (some (0, x3, M2)) else none)))
def X10_runAt (x0 x1 x2 : Int) (M : Mo) : Option RS :=
  if kd M x0 = 12 then cal (X10_nextRun x0 0 x2 M) fun v1 M2 => X10_runAt_11 FU x0 x1 x2 v1 100 M2 else none
def X10_compareRuns_15 : Nat → Int → Int → Int → Int → Int → Int → Int → Mo → Option RS
  | 0, _, _, _, _, _, _, _, _ => none
  | n + 1, x0, x1, x2, x3, x4, x5, x6, M => if wr x5 ≤ wr x6 then (some (0, ((x2 - x1) - (x4 - x3)), M)) else (if kd M x0 = 12 then cal (X10_at x0 (x1 + x6) M) fun v1 M2 => cal (X10_at x0 (x3 + x6) M2) fun v5 M6 => if wr (v1 - v5) = 0 then (X10_compareRuns_15 n x0 x1 x2 x3 x4 x5 (x6 + 1) M6) else (some (0, (v1 - v5), M6)) else none)
def X10_compareRuns (x0 x1 x2 x3 x4 : Int) (M : Mo) : Option RS :=
  X10_compareRuns_15 FU x0 x1 x2 x3 x4 (mnn (x2 - x1) (x4 - x3)) 0 M
