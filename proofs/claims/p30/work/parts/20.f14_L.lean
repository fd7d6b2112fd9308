def L_part_25 (x2 y0 : Int) (M : Mo) : Option RS :=
  if ¬ wr x2 = 0 then some (0, (irm (iand y0 2147483647) x2), M) else none
def L_part (x0 x1 x2 : Int) (M : Mo) : Option RS :=
  if okA (kd M x0) = true then if wr (ln M x0) ≤ wr x1 then (L_part_25 x2 ((607 * x1) + ((461 * x1) * x1)) M) else (if kd M x0 = 200 then if 0 ≤ wr x1 ∧ wr x1 < ln M x0 then L_part_25 x2 (el M 90 x0 (wr x1)) M else none else none) else none
def L_closed (x0 x1 x2 : Int) (M : Mo) : Option RS :=
  if kd M x0 = 13 then cal (X11_close x0 x1 x2 M) fun _ M2 => some (0, 0, M2) else none
def L_cancelled (x0 x1 x2 : Int) (M : Mo) : Option RS :=
  if kd M x0 = 13 then cal (X11_cancel x0 x1 x2 M) fun _ M2 => some (0, 0, M2) else none
def L_does (x0 x1 x2 x3 x4 x5 x6 x7 x8 : Int) (M : Mo) : Option RS :=
  if wr x1 = 0 then (if kd M x0 = 13 then calh 3 (X11_file x0 x2 x3 M) fun v51 M52 => some (0, v51, M52) else none) else (if wr x1 = wr 1 then (if kd M x0 = 13 then calh 3 (X11_store x0 x2 x3 M) fun v47 M48 => some (0, v47, M48) else none) else (if wr x1 = wr 2 then (if kd M x0 = 13 then calh 3 (X11_server x0 x2 x3 x4 M) fun v43 M44 => some (0, v43, M44) else none) else (if wr x1 = wr 3 then (if kd M x0 = 13 then calh 3 (X11_open x0 x2 x3 M) fun v39 M40 => some (0, v39, M40) else none) else (if wr x1 = wr 4 then (calh 3 (L_closed x0 x2 x3 M) fun v36 M37 => some (0, v36, M37)) else (if wr x1 = wr 5 then (if kd M x0 = 13 then calh 3 (X11_change x0 x2 x3 x4 x5 x6 x7 x8 M) fun v32 M33 => some (0, v32, M33) else none) else (if wr x1 = wr 6 then (if kd M x0 = 13 then calh 3 (X11_request x0 x2 x3 x4 x5 x6 x7 M) fun v28 M29 => some (0, v28, M29) else none) else (if wr x1 = wr 7 then (calh 3 (L_cancelled x0 x2 x3 M) fun v25 M26 => some (0, v25, M26)) else (if wr x1 = wr 8 then (if kd M x0 = 13 then calh 3 (X11_apply x0 x2 x3 M) fun v21 M22 => some (0, v21, M22) else none) else (if wr x1 = wr 9 then (if kd M x0 = 13 then calh 3 (X11_answer x0 x2 x3 M) fun v17 M18 => some (0, v17, M18) else none) else (if wr x1 = wr 10 then (if kd M x0 = 13 then calh 3 (X11_tellFaults x0 x2 x3 M) fun v13 M14 => some (0, v13, M14) else none) else (if wr x1 = wr 11 then (if kd M x0 = 13 then calh 3 (X11_crash x0 x2 M) fun v9 M10 => some (0, v9, M10) else none) else (if wr x1 = wr 12 then (if kd M x0 = 13 then calh 3 (X11_start x0 x2 M) fun v5 M6 => some (0, v5, M6) else none) else (if kd M x0 = 13 then calh 3 (X11_deliver x0 x2 M) fun v1 M2 => some (0, v1, M2) else none)))))))))))))
def L_asks (x0 x1 x2 x3 x4 : Int) (M : Mo) : Option RS :=
  if wr x1 = 0 then (if kd M x0 = 13 then calh 1 (X11_name x0 x2 M) fun v41 M42 => some (0, v41, M42) else none) else (if wr x1 = wr 1 then (if kd M x0 = 13 then calh 1 (X11_waiting x0 x2 M) fun v37 M38 => some (0, v37, M38) else none) else (if wr x1 = wr 2 then (if kd M x0 = 13 then calh 1 (X11_version x0 x2 x3 M) fun v33 M34 => some (0, v33, M34) else none) else (if wr x1 = wr 3 then (if kd M x0 = 13 then calh 1 (X11_unit x0 x2 x3 x4 M) fun v29 M30 => some (0, v29, M30) else none) else (if wr x1 = wr 4 then (if kd M x0 = 13 then calh 1 (X11_standing x0 x2 x3 M) fun v25 M26 => some (0, v25, M26) else none) else (if wr x1 = wr 5 then (if kd M x0 = 13 then calh 1 (X11_item x0 x2 x3 x4 M) fun v21 M22 => some (0, v21, M22) else none) else (if wr x1 = wr 6 then (if kd M x0 = 13 then calh 1 (X11_value x0 x2 x3 x4 M) fun v17 M18 => some (0, v17, M18) else none) else (if wr x1 = wr 7 then (if kd M x0 = 13 then calh 1 (X11_token x0 x2 x3 x4 M) fun v13 M14 => some (0, v13, M14) else none) else (if wr x1 = wr 8 then (if kd M x0 = 13 then calh 1 (X11_id x0 x2 x3 x4 M) fun v9 M10 => some (0, v9, M10) else none) else (if wr x1 = wr 9 then (if kd M x0 = 13 then calh 1 (X11_faults x0 x2 x3 M) fun v5 M6 => some (0, v5, M6) else none) else (if kd M x0 = 13 then calh 1 (X11_fault x0 x2 x3 x4 M) fun v1 M2 => some (0, v1, M2) else none))))))))))
def L_isLetter (x0 : Int) (M : Mo) : Option RS :=
  if wr x0 ≤ wr 96 then (some (0, 0, M)) else (if wr 123 ≤ wr x0 then (some (0, 0, M)) else (some (0, 1, M)))
def L_isDigit (x0 : Int) (M : Mo) : Option RS :=
  if wr x0 ≤ wr 47 then (some (0, 0, M)) else (if wr 58 ≤ wr x0 then (some (0, 0, M)) else (some (0, 1, M)))
def L_place_33 (k5 : Int → Int → Int → Int → Mo → Option RS) (x0 x2 x3 y0 y1 : Int) (M : Mo) : Option RS :=
  k5 x0 x2 (x3 + 1) (y0 - y1) M
def L_place_87 (x0 x5 : Int) (M : Mo) : Option RS :=
  if kd M x0 = 100 then if 0 ≤ wr 63 ∧ wr 63 < ln M x0 then if wr (el M 0 x0 (wr 63)) ≤ wr x5 then (some (0, x5, M)) else (if 0 ≤ wr x5 ∧ wr x5 < ln M x0 then if wr (el M 0 x0 (wr x5)) ≤ wr 56319 then (some (0, x5, M)) else (if 0 ≤ wr x5 ∧ wr x5 < ln M x0 then if wr 57344 ≤ wr (el M 0 x0 (wr x5)) then (some (0, x5, M)) else (some (0, (x5 - 1), M)) else none) else none) else none else none
def L_place_55 : Nat → Int → Int → Int → Int → Mo → Option RS
  | 0, _, _, _, _, _ => none
  | n + 1, x0, x2, x3, x5, M => if kd M x0 = 100 then if 0 ≤ wr 63 ∧ wr 63 < ln M x0 then if wr (el M 0 x0 (wr 63)) ≤ wr x5 then (L_place_87 x0 x5 M) else (if 0 ≤ wr x5 ∧ wr x5 < ln M x0 then if wr (el M 0 x0 (wr x5)) = wr 10 then (L_place_87 x0 x5 M) else (if wr x2 ≤ wr (x5 - x3) then (L_place_87 x0 x5 M) else (L_place_55 n x0 x2 x3 (x5 + 1) M)) else none) else none else none
def L_place_42 (x0 x2 x3 x4 : Int) (M : Mo) : Option RS :=
  if wr x4 ≤ 0 then (L_place_55 FU x0 x2 x3 x3 M) else (if kd M x0 = 100 then if 0 ≤ wr 63 ∧ wr 63 < ln M x0 then some (0, (el M 0 x0 (wr 63)), M) else none else none)
def L_place_5 : Nat → Int → Int → Int → Int → Mo → Option RS
  | 0, _, _, _, _, _ => none
  | n + 1, x0, x2, x3, x4, M => if wr x4 ≤ 0 then (L_place_42 x0 x2 x3 x4 M) else (if kd M x0 = 100 then if 0 ≤ wr 63 ∧ wr 63 < ln M x0 then if wr (el M 0 x0 (wr 63)) ≤ wr x3 then (L_place_42 x0 x2 x3 x4 M) else (if 0 ≤ wr x3 ∧ wr x3 < ln M x0 then if wr (el M 0 x0 (wr x3)) = wr 10 then (L_place_33 (L_place_5 n) x0 x2 x3 x4 1 M) else (L_place_33 (L_place_5 n) x0 x2 x3 x4 0 M) else none) else none else none)
def L_place (x0 x1 x2 : Int) (M : Mo) : Option RS :=
  L_place_5 FU x0 x2 0 x1 M
def L_units (x0 : Int) (M : Mo) : Option RS :=
  if 0 ≤ wr x0 then (if wr x0 ≤ wr 1000 then (some (0, 1, M)) else (some (0, 2, M))) else (some (0, 0, M))
def L_replaces_136 (x0 x5 : Int) (M : Mo) : Option RS :=
  if kd M x0 = 100 then if 0 ≤ wr 63 ∧ wr 63 < ln M x0 then pt (sE M 0 x0 (wr 63) x5) fun M3 => some (0, 0, M3) else none else none
def L_replaces_100 (x0 x1 x3 x4 x5 : Int) (M : Mo) : Option RS :=
  if wr x4 = wr 1 then (if kd M x0 = 100 then if 0 ≤ wr x1 ∧ wr x1 < ln M x0 then pt (sE M 0 x0 (wr x1) x3) fun M10 => L_replaces_136 x0 x5 M10 else none else none) else (if wr x4 = wr 2 then (if kd M x0 = 100 then if 0 ≤ wr x1 ∧ wr x1 < ln M x0 then pt (sE M 0 x0 (wr x1) 55357) fun M3 => if 0 ≤ wr (x1 + 1) ∧ wr (x1 + 1) < ln M3 x0 then pt (sE M3 0 x0 (wr (x1 + 1)) ((56832 + x3) - 128512)) fun M6 => L_replaces_136 x0 x5 M6 else none else none else none) else (L_replaces_136 x0 x5 M))
def L_replaces_33 : Nat → Int → Int → Int → Int → Int → Int → Int → Mo → Option RS
  | 0, _, _, _, _, _, _, _, _ => none
  | n + 1, x0, x1, x2, x3, x4, x5, x6, M => if wr x6 < wr (x1 + x4) then (L_replaces_100 x0 x1 x3 x4 x5 M) else (if kd M x0 = 100 then if 0 ≤ wr (((x6 - x4) + x2) - x1) ∧ wr (((x6 - x4) + x2) - x1) < ln M x0 then if 0 ≤ wr x6 ∧ wr x6 < ln M x0 then pt (sE M 0 x0 (wr x6) (el M 0 x0 (wr (((x6 - x4) + x2) - x1)))) fun M4 => L_replaces_33 n x0 x1 x2 x3 x4 x5 (x6 + (-1)) M4 else none else none else none)
def L_replaces_72 : Nat → Int → Int → Int → Int → Int → Int → Int → Mo → Option RS
  | 0, _, _, _, _, _, _, _, _ => none
  | n + 1, x0, x1, x2, x3, x4, x5, x6, M => if wr x5 ≤ wr x6 then (L_replaces_100 x0 x1 x3 x4 x5 M) else (if kd M x0 = 100 then if 0 ≤ wr (((x6 - x4) + x2) - x1) ∧ wr (((x6 - x4) + x2) - x1) < ln M x0 then if 0 ≤ wr x6 ∧ wr x6 < ln M x0 then pt (sE M 0 x0 (wr x6) (el M 0 x0 (wr (((x6 - x4) + x2) - x1)))) fun M4 => L_replaces_72 n x0 x1 x2 x3 x4 x5 (x6 + 1) M4 else none else none else none)
def L_replaces (x0 x1 x2 x3 : Int) (M : Mo) : Option RS :=
  cal (L_units x3 M) fun v1 M2 => if kd M2 x0 = 100 then if 0 ≤ wr 63 ∧ wr 63 < ln M2 x0 then if wr v1 ≤ wr (x2 - x1) then (L_replaces_72 FU x0 x1 x2 x3 v1 ((((el M2 0 x0 (wr 63)) - x2) + x1) + v1) (x1 + v1) M2) else (L_replaces_33 FU x0 x1 x2 x3 v1 ((((el M2 0 x0 (wr 63)) - x2) + x1) + v1) (((((el M2 0 x0 (wr 63)) - x2) + x1) + v1) - 1) M2) else none else none
def L_isText_76 (k41 : Int → Int → Int → Int → Int → Int → Mo → Option RS) (x0 x1 x2 x3 x5 y0 : Int) (M : Mo) : Option RS :=
  k41 x0 x1 x2 x3 y0 (x5 + 1) M
def L_isText_41 : Nat → Int → Int → Int → Int → Int → Int → Mo → Option RS
  | 0, _, _, _, _, _, _, _ => none
  | n + 1, x0, x1, x2, x3, x4, x5, M => if kd M x3 = 100 then if 0 ≤ wr 63 ∧ wr 63 < ln M x3 then if wr (el M 0 x3 (wr 63)) ≤ wr x5 then (if nB x4 = wr x4 then some (0, x4, M) else none) else (if wr x4 = 0 then (if nB x4 = wr x4 then some (0, x4, M) else none) else (cal (L_asks x0 3 x1 x2 x5 M) fun v5 M6 => if 0 ≤ wr x5 ∧ wr x5 < ln M6 x3 then if wr v5 = wr (el M6 0 x3 (wr x5)) then (L_isText_76 (L_isText_41 n) x0 x1 x2 x3 x5 1 M6) else (L_isText_76 (L_isText_41 n) x0 x1 x2 x3 x5 0 M6) else none)) else none else none
def L_isText_36 (x0 x1 x2 x3 y0 : Int) (M : Mo) : Option RS :=
  L_isText_41 FU x0 x1 x2 x3 y0 0 M
def L_isText_35 (x0 x1 x2 x3 : Int) (M : Mo) : Option RS :=
  L_isText_36 x0 x1 x2 x3 0 M
def L_isText (x0 x1 x2 x3 : Int) (M : Mo) : Option RS :=
  if kd M x3 = 100 then if 0 ≤ wr 63 ∧ wr 63 < ln M x3 then cal (L_asks x0 3 x1 x2 (el M 0 x3 (wr 63)) M) fun v3 M4 => if wr v3 = wr (-3000) then (cal (L_asks x0 3 x1 x2 (-1) M4) fun v6 M7 => if wr v6 = wr (-3000) then (L_isText_36 x0 x1 x2 x3 1 M7) else (L_isText_35 x0 x1 x2 x3 M7)) else (L_isText_35 x0 x1 x2 x3 M4) else none else none
def L_areFiles_227 (k96 : Int → Int → Int → Int → Int → Int → Mo → Option RS) (k110 : Int → Int → Int → Int → Int → Int → Int → Mo → Option RS) (x0 x1 x2 x3 x5 x6 y0 : Int) (M : Mo) : Option RS :=
  k110 x0 x1 x2 x3 y0 x5 (x6 + 1) M
def L_areFiles_222 (k96 : Int → Int → Int → Int → Int → Int → Mo → Option RS) (k110 : Int → Int → Int → Int → Int → Int → Int → Mo → Option RS) (x0 x1 x2 x3 x5 x6 : Int) (M : Mo) : Option RS :=
  L_areFiles_227 k96 k110 x0 x1 x2 x3 x5 x6 1 M
def L_areFiles_226 (k96 : Int → Int → Int → Int → Int → Int → Mo → Option RS) (k110 : Int → Int → Int → Int → Int → Int → Int → Mo → Option RS) (x0 x1 x2 x3 x5 x6 : Int) (M : Mo) : Option RS :=
  L_areFiles_227 k96 k110 x0 x1 x2 x3 x5 x6 0 M
def L_areFiles_183 (k96 : Int → Int → Int → Int → Int → Int → Mo → Option RS) (k110 : Int → Int → Int → Int → Int → Int → Int → Mo → Option RS) (x0 x1 x2 x3 x5 x6 y0 y1 y2 y3 : Int) (M : Mo) : Option RS :=
  cal (L_isText y0 y1 y2 y3 M) fun v1 M2 => if wr v1 = 0 then (L_areFiles_226 k96 k110 x0 x1 x2 x3 x5 x6 M2) else (L_areFiles_222 k96 k110 x0 x1 x2 x3 x5 x6 M2)
def L_areFiles_160 (k96 : Int → Int → Int → Int → Int → Int → Mo → Option RS) (k110 : Int → Int → Int → Int → Int → Int → Int → Mo → Option RS) (x0 x1 x2 x3 x5 x6 x7 y0 y1 : Int) (M : Mo) : Option RS :=
  if wr y0 = wr y1 then (if wr x7 = 0 then (cal (L_asks x0 3 x6 x5 0 M) fun v1 M2 => if wr v1 = wr (-3000) then (cal (L_asks x0 9 x6 x5 0 M2) fun v4 M5 => if wr v4 = 0 then (L_areFiles_222 k96 k110 x0 x1 x2 x3 x5 x6 M5) else (L_areFiles_226 k96 k110 x0 x1 x2 x3 x5 x6 M5)) else (L_areFiles_226 k96 k110 x0 x1 x2 x3 x5 x6 M2)) else (if wr x5 = 0 then (L_areFiles_183 k96 k110 x0 x1 x2 x3 x5 x6 x0 x6 x5 x1 M) else (L_areFiles_183 k96 k110 x0 x1 x2 x3 x5 x6 x0 x6 x5 x2 M))) else (L_areFiles_226 k96 k110 x0 x1 x2 x3 x5 x6 M)
def L_areFiles_137 (k96 : Int → Int → Int → Int → Int → Int → Mo → Option RS) (k110 : Int → Int → Int → Int → Int → Int → Int → Mo → Option RS) (x0 x1 x2 x3 x5 x6 y0 : Int) (M : Mo) : Option RS :=
  if kd M x0 = 13 then cal (X11_version x0 x6 x5 M) fun v1 M2 => if wr y0 = 0 then (L_areFiles_160 k96 k110 x0 x1 x2 x3 x5 x6 y0 v1 (-1) M2) else (if kd M2 x3 = 100 then if 0 ≤ wr x5 ∧ wr x5 < ln M2 x3 then L_areFiles_160 k96 k110 x0 x1 x2 x3 x5 x6 y0 v1 (el M2 0 x3 (wr x5)) M2 else none else none) else none
def L_areFiles_276 (k96 : Int → Int → Int → Int → Int → Int → Mo → Option RS) (x0 x1 x2 x3 x5 y0 : Int) (M : Mo) : Option RS :=
  k96 x0 x1 x2 x3 y0 (x5 + 1) M
def L_areFiles_275 (k96 : Int → Int → Int → Int → Int → Int → Mo → Option RS) (x0 x1 x2 x3 x5 : Int) (M : Mo) : Option RS :=
  L_areFiles_276 k96 x0 x1 x2 x3 x5 0 M
def L_areFiles_235 (k96 : Int → Int → Int → Int → Int → Int → Mo → Option RS) (x0 x1 x2 x3 x4 x5 : Int) (M : Mo) : Option RS :=
  if wr x4 = 0 then (L_areFiles_275 k96 x0 x1 x2 x3 x5 M) else (if kd M x0 = 13 then cal (X11_agree x0 x5 M) fun v1 M2 => if wr v1 = 0 then (L_areFiles_275 k96 x0 x1 x2 x3 x5 M2) else (cal (X11_faults x0 0 x5 M2) fun v5 M6 => cal (L_asks x0 10 0 x5 v5 M6) fun v8 M9 => if wr v8 = wr (-3000) then (L_areFiles_276 k96 x0 x1 x2 x3 x5 1 M9) else (L_areFiles_275 k96 x0 x1 x2 x3 x5 M9)) else none)
def L_areFiles_110 (k96 : Int → Int → Int → Int → Int → Int → Mo → Option RS) : Nat → Int → Int → Int → Int → Int → Int → Int → Mo → Option RS
  | 0, _, _, _, _, _, _, _, _ => none
  | n + 1, x0, x1, x2, x3, x4, x5, x6, M => if wr 2 ≤ wr x6 then (L_areFiles_235 k96 x0 x1 x2 x3 x4 x5 M) else (if wr x4 = 0 then (L_areFiles_235 k96 x0 x1 x2 x3 x4 x5 M) else (if kd M x3 = 100 then if 0 ≤ wr (2 + x5) ∧ wr (2 + x5) < ln M x3 then if wr (el M 0 x3 (wr (2 + x5))) = wr x6 then (L_areFiles_137 k96 (L_areFiles_110 k96 n) x0 x1 x2 x3 x5 x6 1 M) else (L_areFiles_137 k96 (L_areFiles_110 k96 n) x0 x1 x2 x3 x5 x6 0 M) else none else none))
def L_areFiles_284 (x0 x3 x4 : Int) (M : Mo) : Option RS :=
  if wr x4 = 0 then (some (0, 0, M)) else (if kd M x3 = 100 then if 0 ≤ wr 4 ∧ wr 4 < ln M x3 then cal (L_asks x0 4 0 (el M 0 x3 (wr 4)) 0 M) fun v3 M4 => if wr v3 = wr (-3000) then (if 0 ≤ wr 5 ∧ wr 5 < ln M4 x3 then cal (L_asks x0 4 1 (el M4 0 x3 (wr 5)) 0 M4) fun v7 M8 => if wr v7 = wr (-3000) then (cal (L_asks x0 8 0 0 3 M8) fun v10 M11 => if wr v10 = wr (-3000) then (some (0, 1, M11)) else (some (0, 0, M11))) else (some (0, 0, M8)) else none) else (some (0, 0, M4)) else none else none)
def L_areFiles_96 : Nat → Int → Int → Int → Int → Int → Int → Mo → Option RS
  | 0, _, _, _, _, _, _, _ => none
  | n + 1, x0, x1, x2, x3, x4, x5, M => if wr 2 ≤ wr x5 then (L_areFiles_284 x0 x3 x4 M) else (if wr x4 = 0 then (L_areFiles_284 x0 x3 x4 M) else (L_areFiles_110 (L_areFiles_96 n) FU x0 x1 x2 x3 x4 x5 0 M))
def L_areFiles_91 (x0 x1 x2 x3 y0 : Int) (M : Mo) : Option RS :=
  L_areFiles_96 FU x0 x1 x2 x3 y0 0 M
def L_areFiles_90 (x0 x1 x2 x3 : Int) (M : Mo) : Option RS :=
  L_areFiles_91 x0 x1 x2 x3 0 M
def L_areFiles (x0 x1 x2 x3 : Int) (M : Mo) : Option RS :=
  cal (L_asks x0 0 2 0 0 M) fun v1 M2 => if wr v1 = wr (-3000) then (cal (L_asks x0 1 10 0 0 M2) fun v4 M5 => if wr v4 = wr (-3000) then (if kd M5 x3 = 100 then if 0 ≤ wr 8 ∧ wr 8 < ln M5 x3 then cal (L_asks x0 2 (3 + (el M5 0 x3 (wr 8))) 0 0 M5) fun v9 M10 => if wr v9 = wr (-3000) then (cal (L_asks x0 2 0 2 0 M10) fun v12 M13 => if wr v12 = wr (-3000) then (if kd M13 x0 = 13 then cal (X11_waiting x0 0 M13) fun v15 M16 => if 0 ≤ wr 6 ∧ wr 6 < ln M16 x3 then if wr v15 = wr (el M16 0 x3 (wr 6)) then (cal (X11_waiting x0 1 M16) fun v20 M21 => if 0 ≤ wr 7 ∧ wr 7 < ln M21 x3 then if wr v20 = wr (el M21 0 x3 (wr 7)) then (L_areFiles_91 x0 x1 x2 x3 1 M21) else (L_areFiles_90 x0 x1 x2 x3 M21) else none) else (L_areFiles_90 x0 x1 x2 x3 M16) else none else none) else (L_areFiles_90 x0 x1 x2 x3 M13)) else (L_areFiles_90 x0 x1 x2 x3 M10) else none else none) else (L_areFiles_90 x0 x1 x2 x3 M5)) else (L_areFiles_90 x0 x1 x2 x3 M2)
def L_areDelivered_99 (k63 : Int → Int → Int → Int → Int → Int → Mo → Option RS) (x0 x1 x2 x3 x7 y0 : Int) (M : Mo) : Option RS :=
  k63 x0 x1 x2 x3 y0 (x7 + 1) M
def L_areDelivered_98 (k63 : Int → Int → Int → Int → Int → Int → Mo → Option RS) (x0 x1 x2 x3 x7 : Int) (M : Mo) : Option RS :=
  L_areDelivered_99 k63 x0 x1 x2 x3 x7 0 M
def L_areDelivered_230 (k110 : Int → Int → Int → Int → Int → Int → Mo → Option RS) (k124 : Int → Int → Int → Int → Int → Int → Int → Mo → Option RS) (x0 x1 x2 x3 x7 x8 y0 : Int) (M : Mo) : Option RS :=
  k124 x0 x1 x2 x3 y0 x7 (x8 + 1) M
def L_areDelivered_225 (k110 : Int → Int → Int → Int → Int → Int → Mo → Option RS) (k124 : Int → Int → Int → Int → Int → Int → Int → Mo → Option RS) (x0 x1 x2 x3 x7 x8 : Int) (M : Mo) : Option RS :=
  L_areDelivered_230 k110 k124 x0 x1 x2 x3 x7 x8 1 M
def L_areDelivered_229 (k110 : Int → Int → Int → Int → Int → Int → Mo → Option RS) (k124 : Int → Int → Int → Int → Int → Int → Int → Mo → Option RS) (x0 x1 x2 x3 x7 x8 : Int) (M : Mo) : Option RS :=
  L_areDelivered_230 k110 k124 x0 x1 x2 x3 x7 x8 0 M
def L_areDelivered_219 (k110 : Int → Int → Int → Int → Int → Int → Mo → Option RS) (k124 : Int → Int → Int → Int → Int → Int → Int → Mo → Option RS) (x0 x1 x2 x3 x7 x8 y0 y1 y2 y3 : Int) (M : Mo) : Option RS :=
  cal (L_isText y0 y1 y2 y3 M) fun v1 M2 => if wr v1 = 0 then (L_areDelivered_229 k110 k124 x0 x1 x2 x3 x7 x8 M2) else (L_areDelivered_225 k110 k124 x0 x1 x2 x3 x7 x8 M2)
def L_areDelivered_196 (k110 : Int → Int → Int → Int → Int → Int → Mo → Option RS) (k124 : Int → Int → Int → Int → Int → Int → Int → Mo → Option RS) (x0 x1 x2 x3 x7 x8 x9 y0 y1 : Int) (M : Mo) : Option RS :=
  if wr y0 = wr y1 then (if wr x9 = 0 then (L_areDelivered_225 k110 k124 x0 x1 x2 x3 x7 x8 M) else (if wr x7 = 0 then (L_areDelivered_219 k110 k124 x0 x1 x2 x3 x7 x8 x0 x8 x7 x1 M) else (L_areDelivered_219 k110 k124 x0 x1 x2 x3 x7 x8 x0 x8 x7 x2 M))) else (L_areDelivered_229 k110 k124 x0 x1 x2 x3 x7 x8 M)
def L_areDelivered_173 (k110 : Int → Int → Int → Int → Int → Int → Mo → Option RS) (k124 : Int → Int → Int → Int → Int → Int → Int → Mo → Option RS) (x0 x1 x2 x3 x7 x8 y0 : Int) (M : Mo) : Option RS :=
  if kd M x0 = 13 then cal (X11_version x0 x8 x7 M) fun v1 M2 => if wr y0 = 0 then (L_areDelivered_196 k110 k124 x0 x1 x2 x3 x7 x8 y0 v1 (-1) M2) else (if kd M2 x3 = 100 then if 0 ≤ wr x7 ∧ wr x7 < ln M2 x3 then L_areDelivered_196 k110 k124 x0 x1 x2 x3 x7 x8 y0 v1 (el M2 0 x3 (wr x7)) M2 else none else none) else none
def L_areDelivered_168 (k110 : Int → Int → Int → Int → Int → Int → Mo → Option RS) (k124 : Int → Int → Int → Int → Int → Int → Int → Mo → Option RS) (x0 x1 x2 x3 x7 x8 : Int) (M : Mo) : Option RS :=
  L_areDelivered_173 k110 k124 x0 x1 x2 x3 x7 x8 1 M
def L_areDelivered_172 (k110 : Int → Int → Int → Int → Int → Int → Mo → Option RS) (k124 : Int → Int → Int → Int → Int → Int → Int → Mo → Option RS) (x0 x1 x2 x3 x7 x8 : Int) (M : Mo) : Option RS :=
  L_areDelivered_173 k110 k124 x0 x1 x2 x3 x7 x8 0 M
def L_areDelivered_238 (k110 : Int → Int → Int → Int → Int → Int → Mo → Option RS) (x0 x1 x2 x3 x6 x7 : Int) (M : Mo) : Option RS :=
  k110 x0 x1 x2 x3 x6 (x7 + 1) M
def L_areDelivered_124 (k110 : Int → Int → Int → Int → Int → Int → Mo → Option RS) : Nat → Int → Int → Int → Int → Int → Int → Int → Mo → Option RS
  | 0, _, _, _, _, _, _, _, _ => none
  | n + 1, x0, x1, x2, x3, x6, x7, x8, M => if kd M x3 = 100 then if 0 ≤ wr 8 ∧ wr 8 < ln M x3 then if wr (3 + (el M 0 x3 (wr 8))) ≤ wr x8 then (L_areDelivered_238 k110 x0 x1 x2 x3 x6 x7 M) else (if wr x6 = 0 then (L_areDelivered_238 k110 x0 x1 x2 x3 x6 x7 M) else (if 0 ≤ wr (2 + x7) ∧ wr (2 + x7) < ln M x3 then if wr (el M 0 x3 (wr (2 + x7))) < 0 then (L_areDelivered_172 k110 (L_areDelivered_124 k110 n) x0 x1 x2 x3 x7 x8 M) else (if wr x8 = wr 2 then (L_areDelivered_168 k110 (L_areDelivered_124 k110 n) x0 x1 x2 x3 x7 x8 M) else (if 0 ≤ wr ((15 + x8) - 3) ∧ wr ((15 + x8) - 3) < ln M x3 then if wr (el M 0 x3 (wr ((15 + x8) - 3))) = wr 1 then (L_areDelivered_168 k110 (L_areDelivered_124 k110 n) x0 x1 x2 x3 x7 x8 M) else (L_areDelivered_172 k110 (L_areDelivered_124 k110 n) x0 x1 x2 x3 x7 x8 M) else none)) else none)) else none else none
def L_areDelivered_110 : Nat → Int → Int → Int → Int → Int → Int → Mo → Option RS
  | 0, _, _, _, _, _, _, _ => none
  | n + 1, x0, x1, x2, x3, x6, x7, M => if wr 2 ≤ wr x7 then (if nB x6 = wr x6 then some (0, x6, M) else none) else (if wr x6 = 0 then (if nB x6 = wr x6 then some (0, x6, M) else none) else (L_areDelivered_124 (L_areDelivered_110 n) FU x0 x1 x2 x3 x6 x7 2 M))
def L_areDelivered_107 (x0 x1 x2 x3 x6 : Int) (M : Mo) : Option RS :=
  L_areDelivered_110 FU x0 x1 x2 x3 x6 0 M
def L_areDelivered_63 : Nat → Int → Int → Int → Int → Int → Int → Mo → Option RS
  | 0, _, _, _, _, _, _, _ => none
  | n + 1, x0, x1, x2, x3, x6, x7, M => if wr 10 ≤ wr x7 then (L_areDelivered_107 x0 x1 x2 x3 x6 M) else (if wr x6 = 0 then (L_areDelivered_107 x0 x1 x2 x3 x6 M) else (if kd M x0 = 13 then cal (X11_waiting x0 x7 M) fun v1 M2 => if wr v1 = 0 then (cal (X11_deliver x0 x7 M2) fun v5 M6 => if wr v5 = wr (-1) then (L_areDelivered_99 (L_areDelivered_63 n) x0 x1 x2 x3 x7 1 M6) else (L_areDelivered_98 (L_areDelivered_63 n) x0 x1 x2 x3 x7 M6)) else (L_areDelivered_98 (L_areDelivered_63 n) x0 x1 x2 x3 x7 M2) else none))
def L_areDelivered_58 (x0 x1 x2 x3 y0 : Int) (M : Mo) : Option RS :=
  L_areDelivered_63 FU x0 x1 x2 x3 y0 0 M
def L_areDelivered_6 : Nat → Int → Int → Int → Int → Int → Int → Mo → Option RS
  | 0, _, _, _, _, _, _, _ => none
  | n + 1, x0, x1, x2, x3, x4, x5, M => if wr 10 ≤ wr x5 then (if kd M x0 = 13 then cal (X11_deliverAll x0 M) fun v1 M2 => if kd M2 x3 = 100 then if 0 ≤ wr 6 ∧ wr 6 < ln M2 x3 then pt (sE M2 0 x3 (wr 6) 0) fun M7 => if 0 ≤ wr 7 ∧ wr 7 < ln M7 x3 then pt (sE M7 0 x3 (wr 7) 0) fun M10 => if wr v1 < wr x4 then (L_areDelivered_58 x0 x1 x2 x3 0 M10) else (L_areDelivered_58 x0 x1 x2 x3 1 M10) else none else none else none else none) else (if kd M x0 = 13 then cal (X11_waiting x0 x5 M) fun v12 M13 => L_areDelivered_6 n x0 x1 x2 x3 (x4 + v12) (x5 + 1) M13 else none)
def L_areDelivered (x0 x1 x2 x3 : Int) (M : Mo) : Option RS :=
  L_areDelivered_6 FU x0 x1 x2 x3 0 0 M
def L_isBegin_34 (x0 x1 x2 y0 : Int) (M : Mo) : Option RS :=
  if wr y0 = 0 then (if wr x2 = 0 then (some (0, 0, M)) else (if kd M x0 = 100 then if 0 ≤ wr x1 ∧ wr x1 < ln M x0 then cal (L_isDigit (el M 0 x0 (wr x1)) M) fun v3 M4 => if wr v3 = 0 then (some (0, 0, M4)) else (if wr x1 = 0 then (some (0, 1, M4)) else (if 0 ≤ wr (x1 - 1) ∧ wr (x1 - 1) < ln M4 x0 then cal (L_isDigit (el M4 0 x0 (wr (x1 - 1))) M4) fun v7 M8 => if wr v7 = 0 then (some (0, 1, M8)) else (some (0, 0, M8)) else none)) else none else none)) else (some (0, 1, M))
def L_isBegin_29 (x0 x1 x2 : Int) (M : Mo) : Option RS :=
  L_isBegin_34 x0 x1 x2 1 M
def L_isBegin_33 (x0 x1 x2 : Int) (M : Mo) : Option RS :=
  L_isBegin_34 x0 x1 x2 0 M
def L_isBegin (x0 x1 x2 : Int) (M : Mo) : Option RS :=
  if wr x2 = wr 1 then (L_isBegin_33 x0 x1 x2 M) else (if kd M x0 = 100 then if 0 ≤ wr x1 ∧ wr x1 < ln M x0 then cal (L_isLetter (el M 0 x0 (wr x1)) M) fun v3 M4 => if wr v3 = 0 then (L_isBegin_33 x0 x1 x2 M4) else (if wr x1 = 0 then (L_isBegin_29 x0 x1 x2 M4) else (if 0 ≤ wr (x1 - 1) ∧ wr (x1 - 1) < ln M4 x0 then cal (L_isLetter (el M4 0 x0 (wr (x1 - 1))) M4) fun v7 M8 => if wr v7 = 0 then (L_isBegin_29 x0 x1 x2 M8) else (L_isBegin_33 x0 x1 x2 M8) else none)) else none else none)
def L_behind_42 (k9 : Int → Int → Int → Mo → Option RS) (x0 x2 x3 : Int) (M : Mo) : Option RS :=
  k9 x0 x2 (x3 + 1) M
def L_behind_9 : Nat → Int → Int → Int → Mo → Option RS
  | 0, _, _, _, _ => none
  | n + 1, x0, x2, x3, M => if kd M x0 = 100 then if 0 ≤ wr 63 ∧ wr 63 < ln M x0 then if wr (el M 0 x0 (wr 63)) ≤ wr x3 then (some (0, x3, M)) else (if wr x2 = 0 then (if 0 ≤ wr x3 ∧ wr x3 < ln M x0 then cal (L_isDigit (el M 0 x0 (wr x3)) M) fun v4 M5 => if wr v4 = 0 then (some (0, x3, M5)) else (L_behind_42 (L_behind_9 n) x0 x2 x3 M5) else none) else (if 0 ≤ wr x3 ∧ wr x3 < ln M x0 then cal (L_isLetter (el M 0 x0 (wr x3)) M) fun v8 M9 => if wr v8 = 0 then (some (0, x3, M9)) else (L_behind_42 (L_behind_9 n) x0 x2 x3 M9) else none)) else none else none
def L_behind (x0 x1 : Int) (M : Mo) : Option RS :=
  if kd M x0 = 100 then if 0 ≤ wr x1 ∧ wr x1 < ln M x0 then cal (L_isLetter (el M 0 x0 (wr x1)) M) fun v3 M4 => L_behind_9 FU x0 v3 x1 M4 else none else none
def L_runAt_35 (k2 : Int → Int → Int → Int → Mo → Option RS) (x0 x1 x2 x3 : Int) (M : Mo) : Option RS :=
  k2 x0 x1 x2 (x3 + 1) M
def L_runAt_2 : Nat → Int → Int → Int → Int → Mo → Option RS
  | 0, _, _, _, _, _ => none
  | n + 1, x0, x1, x2, x3, M => if kd M x0 = 100 then if 0 ≤ wr 63 ∧ wr 63 < ln M x0 then if wr (el M 0 x0 (wr 63)) ≤ wr x3 then (some (0, (-1), M)) else (if wr x1 < wr x3 then (some (0, (-1), M)) else (cal (L_isBegin x0 x3 x2 M) fun v3 M4 => if wr v3 = 0 then (L_runAt_35 (L_runAt_2 n) x0 x1 x2 x3 M4) else (cal (L_behind x0 x3 M4) fun v6 M7 => if wr v6 < wr x1 then (L_runAt_35 (L_runAt_2 n) x0 x1 x2 x3 M7) else (some (0, x3, M7))))) else none else none
def L_runAt (x0 x1 x2 : Int) (M : Mo) : Option RS :=
  L_runAt_2 FU x0 x1 x2 0 M
def L_areLike_60 (k29 : Int → Int → Int → Int → Int → Int → Mo → Option RS) (x0 x1 x2 x3 x5 y0 : Int) (M : Mo) : Option RS :=
  k29 x0 x1 x2 x3 y0 (x5 + 1) M
def L_areLike_29 : Nat → Int → Int → Int → Int → Int → Int → Mo → Option RS
  | 0, _, _, _, _, _, _, _ => none
  | n + 1, x0, x1, x2, x3, x4, x5, M => if wr x3 ≤ wr x5 then (if nB x4 = wr x4 then some (0, x4, M) else none) else (if wr x4 = 0 then (if nB x4 = wr x4 then some (0, x4, M) else none) else (if kd M x0 = 100 then if 0 ≤ wr (x1 + x5) ∧ wr (x1 + x5) < ln M x0 then if 0 ≤ wr (x2 + x5) ∧ wr (x2 + x5) < ln M x0 then if wr (el M 0 x0 (wr (x1 + x5))) = wr (el M 0 x0 (wr (x2 + x5))) then (L_areLike_60 (L_areLike_29 n) x0 x1 x2 x3 x5 1 M) else (L_areLike_60 (L_areLike_29 n) x0 x1 x2 x3 x5 0 M) else none else none else none))
def L_areLike_24 (x0 x1 x2 x3 y0 : Int) (M : Mo) : Option RS :=
  L_areLike_29 FU x0 x1 x2 x3 y0 0 M
def L_areLike (x0 x1 x2 : Int) (M : Mo) : Option RS :=
  cal (L_behind x0 x1 M) fun v1 M2 => cal (L_behind x0 x2 M2) fun v4 M5 => if wr (v4 - x2) = wr (v1 - x1) then (L_areLike_24 x0 x1 x2 (v1 - x1) 1 M5) else (L_areLike_24 x0 x1 x2 (v1 - x1) 0 M5)
def L_likes_40 (k5 : Int → Int → Int → Int → Int → Mo → Option RS) (x0 x1 x2 x4 y0 y1 : Int) (M : Mo) : Option RS :=
  k5 x0 x1 x2 (y0 + y1) (x4 + 1) M
def L_likes_39 (k5 : Int → Int → Int → Int → Int → Mo → Option RS) (x0 x1 x2 x4 y0 : Int) (M : Mo) : Option RS :=
  L_likes_40 k5 x0 x1 x2 x4 y0 0 M
def L_likes_5 : Nat → Int → Int → Int → Int → Int → Mo → Option RS
  | 0, _, _, _, _, _, _ => none
  | n + 1, x0, x1, x2, x3, x4, M => if kd M x0 = 100 then if 0 ≤ wr 63 ∧ wr 63 < ln M x0 then if wr (el M 0 x0 (wr 63)) ≤ wr x4 then (some (0, x3, M)) else (cal (L_isBegin x0 x4 x2 M) fun v3 M4 => if wr v3 = 0 then (L_likes_39 (L_likes_5 n) x0 x1 x2 x4 x3 M4) else (cal (L_areLike x0 x1 x4 M4) fun v6 M7 => if wr v6 = 0 then (L_likes_39 (L_likes_5 n) x0 x1 x2 x4 x3 M7) else (L_likes_40 (L_likes_5 n) x0 x1 x2 x4 x3 1 M7))) else none else none
def L_likes (x0 x1 x2 : Int) (M : Mo) : Option RS :=
  L_likes_5 FU x0 x1 x2 0 0 M
def L_item_33 (k9 : Int → Int → Int → Int → Int → Int → Int → Mo → Option RS) (x0 x1 x2 x3 x4 x5 x6 : Int) (M : Mo) : Option RS :=
  k9 x0 x1 x2 x3 x4 x5 (x6 + 1) M
def L_item_9 : Nat → Int → Int → Int → Int → Int → Int → Int → Mo → Option RS
  | 0, _, _, _, _, _, _, _, _ => none
  | n + 1, x0, x1, x2, x3, x4, x5, x6, M => if wr x2 ≤ wr x6 then (some (0, ((((((((x1 * 128) + x4) * 128) + x2) - x5) * 128) + x3) - x2), M)) else (if kd M x0 = 100 then if 0 ≤ wr x6 ∧ wr x6 < ln M x0 then if wr (el M 0 x0 (wr x6)) = wr 10 then (L_item_33 (L_item_9 n) x0 x1 x2 x3 (x4 + 1) (x6 + 1) x6 M) else (L_item_33 (L_item_9 n) x0 x1 x2 x3 x4 x5 x6 M) else none else none)
def L_item (x0 x1 x2 x3 : Int) (M : Mo) : Option RS :=
  L_item_9 FU x0 x1 x2 x3 0 0 0 M
def L_isAhead_59 (x0 x1 x2 x3 y0 : Int) (M : Mo) : Option RS :=
  if wr y0 = 0 then (cal (L_behind x0 x2 M) fun v1 M2 => if wr v1 ≤ wr (x2 + x3) then (some (0, 0, M2)) else (if kd M2 x0 = 100 then if 0 ≤ wr (x1 + x3) ∧ wr (x1 + x3) < ln M2 x0 then if 0 ≤ wr (x2 + x3) ∧ wr (x2 + x3) < ln M2 x0 then if wr (el M2 0 x0 (wr (x2 + x3))) ≤ wr (el M2 0 x0 (wr (x1 + x3))) then (some (0, 0, M2)) else (some (0, 1, M2)) else none else none else none)) else (cal (L_behind x0 x2 M) fun v7 M8 => if wr v7 ≤ wr (x2 + x3) then (some (0, 0, M8)) else (some (0, 1, M8)))
def L_isAhead_43 (x0 x1 x2 x3 : Int) (M : Mo) : Option RS :=
  cal (L_behind x0 x1 M) fun v1 M2 => if wr (x1 + x3) = wr v1 then (L_isAhead_59 x0 x1 x2 x3 1 M2) else (L_isAhead_59 x0 x1 x2 x3 0 M2)
def L_isAhead_2 : Nat → Int → Int → Int → Int → Mo → Option RS
  | 0, _, _, _, _, _ => none
  | n + 1, x0, x1, x2, x3, M => cal (L_behind x0 x1 M) fun v1 M2 => if wr v1 ≤ wr (x1 + x3) then (L_isAhead_43 x0 x1 x2 x3 M2) else (cal (L_behind x0 x2 M2) fun v4 M5 => if wr v4 ≤ wr (x2 + x3) then (L_isAhead_43 x0 x1 x2 x3 M5) else (if kd M5 x0 = 100 then if 0 ≤ wr (x1 + x3) ∧ wr (x1 + x3) < ln M5 x0 then if 0 ≤ wr (x2 + x3) ∧ wr (x2 + x3) < ln M5 x0 then if wr (el M5 0 x0 (wr (x1 + x3))) = wr (el M5 0 x0 (wr (x2 + x3))) then (L_isAhead_2 n x0 x1 x2 (x3 + 1) M5) else (L_isAhead_43 x0 x1 x2 x3 M5) else none else none else none))
def L_isAhead (x0 x1 x2 : Int) (M : Mo) : Option RS :=
  L_isAhead_2 FU x0 x1 x2 0 M
def L_begins_52 (k21 : Int → Int → Int → Int → Int → Int → Mo → Option RS) (x0 x1 x2 x3 x5 y0 : Int) (M : Mo) : Option RS :=
  k21 x0 x1 x2 x3 y0 (x5 + 1) M
def L_begins_21 : Nat → Int → Int → Int → Int → Int → Int → Mo → Option RS
  | 0, _, _, _, _, _, _, _ => none
  | n + 1, x0, x1, x2, x3, x4, x5, M => if wr x3 ≤ wr x5 then (if nB x4 = wr x4 then some (0, x4, M) else none) else (if wr x4 = 0 then (if nB x4 = wr x4 then some (0, x4, M) else none) else (if kd M x0 = 100 then if 0 ≤ wr (x1 + x5) ∧ wr (x1 + x5) < ln M x0 then if 0 ≤ wr (x2 + x5) ∧ wr (x2 + x5) < ln M x0 then if wr (el M 0 x0 (wr (x1 + x5))) = wr (el M 0 x0 (wr (x2 + x5))) then (L_begins_52 (L_begins_21 n) x0 x1 x2 x3 x5 1 M) else (L_begins_52 (L_begins_21 n) x0 x1 x2 x3 x5 0 M) else none else none else none))
def L_begins_16 (x0 x1 x2 x3 y0 : Int) (M : Mo) : Option RS :=
  L_begins_21 FU x0 x1 x2 x3 y0 0 M
def L_begins (x0 x1 x2 x3 : Int) (M : Mo) : Option RS :=
  cal (L_behind x0 x1 M) fun v1 M2 => if wr (v1 - x1) ≤ wr x3 then (L_begins_16 x0 x1 x2 x3 0 M2) else (L_begins_16 x0 x1 x2 x3 1 M2)
def L_isFirstOf_40 (k5 : Int → Int → Int → Int → Int → Mo → Option RS) (x0 x1 x2 x4 y0 : Int) (M : Mo) : Option RS :=
  k5 x0 x1 x2 y0 (x4 + 1) M
def L_isFirstOf_35 (k5 : Int → Int → Int → Int → Int → Mo → Option RS) (x0 x1 x2 x4 : Int) (M : Mo) : Option RS :=
  L_isFirstOf_40 k5 x0 x1 x2 x4 1 M
def L_isFirstOf_39 (k5 : Int → Int → Int → Int → Int → Mo → Option RS) (x0 x1 x2 x4 : Int) (M : Mo) : Option RS :=
  L_isFirstOf_40 k5 x0 x1 x2 x4 0 M
def L_isFirstOf_5 : Nat → Int → Int → Int → Int → Int → Mo → Option RS
  | 0, _, _, _, _, _, _ => none
  | n + 1, x0, x1, x2, x3, x4, M => if wr x1 ≤ wr x4 then (if nB x3 = wr x3 then some (0, x3, M) else none) else (if wr x3 = 0 then (L_isFirstOf_39 (L_isFirstOf_5 n) x0 x1 x2 x4 M) else (cal (L_isBegin x0 x4 x2 M) fun v2 M3 => if wr v2 = 0 then (L_isFirstOf_35 (L_isFirstOf_5 n) x0 x1 x2 x4 M3) else (cal (L_areLike x0 x4 x1 M3) fun v5 M6 => if wr v5 = 0 then (L_isFirstOf_35 (L_isFirstOf_5 n) x0 x1 x2 x4 M6) else (L_isFirstOf_39 (L_isFirstOf_5 n) x0 x1 x2 x4 M6))))
def L_isFirstOf (x0 x1 x2 : Int) (M : Mo) : Option RS :=
  L_isFirstOf_5 FU x0 x1 x2 1 0 M
def L_isCompleted_125 (k46 : Int → Int → Int → Int → Int → Int → Int → Int → Int → Int → Int → Mo → Option RS) (k91 : Int → Int → Int → Int → Int → Int → Int → Int → Int → Int → Int → Int → Int → Mo → Option RS) (x0 x1 x2 x4 x5 x6 x8 x9 x10 x11 x12 x14 y0 : Int) (M : Mo) : Option RS :=
  k91 x0 x1 x2 x4 x5 x6 x8 x9 x10 x11 x12 y0 (x14 + 1) M
def L_isCompleted_124 (k46 : Int → Int → Int → Int → Int → Int → Int → Int → Int → Int → Int → Mo → Option RS) (k91 : Int → Int → Int → Int → Int → Int → Int → Int → Int → Int → Int → Int → Int → Mo → Option RS) (x0 x1 x2 x4 x5 x6 x8 x9 x10 x11 x12 x14 : Int) (M : Mo) : Option RS :=
  L_isCompleted_125 k46 k91 x0 x1 x2 x4 x5 x6 x8 x9 x10 x11 x12 x14 0 M
def L_isCompleted_198 (k46 : Int → Int → Int → Int → Int → Int → Int → Int → Int → Int → Int → Mo → Option RS) (k143 : Int → Int → Int → Int → Int → Int → Int → Int → Int → Int → Int → Int → Int → Int → Int → Mo → Option RS) (x0 x1 x2 x4 x5 x6 x8 x9 x10 x11 x12 x13 x14 x15 x16 : Int) (M : Mo) : Option RS :=
  k143 x0 x1 x2 x4 x5 x6 x8 x9 x10 x11 x12 x13 x14 x15 (x16 + 1) M
def L_isCompleted_196 (k46 : Int → Int → Int → Int → Int → Int → Int → Int → Int → Int → Int → Mo → Option RS) (k143 : Int → Int → Int → Int → Int → Int → Int → Int → Int → Int → Int → Int → Int → Int → Int → Mo → Option RS) (x0 x1 x2 x4 x5 x6 x8 x9 x10 x11 x12 x13 x15 x16 y0 : Int) (M : Mo) : Option RS :=
  L_isCompleted_198 k46 k143 x0 x1 x2 x4 x5 x6 x8 x9 x10 x11 x12 x13 y0 x15 x16 M
def L_isCompleted_191 (k46 : Int → Int → Int → Int → Int → Int → Int → Int → Int → Int → Int → Mo → Option RS) (k143 : Int → Int → Int → Int → Int → Int → Int → Int → Int → Int → Int → Int → Int → Int → Int → Mo → Option RS) (x0 x1 x2 x4 x5 x6 x8 x9 x10 x11 x12 x13 x15 x16 : Int) (M : Mo) : Option RS :=
  L_isCompleted_196 k46 k143 x0 x1 x2 x4 x5 x6 x8 x9 x10 x11 x12 x13 x15 x16 1 M
def L_isCompleted_195 (k46 : Int → Int → Int → Int → Int → Int → Int → Int → Int → Int → Int → Mo → Option RS) (k143 : Int → Int → Int → Int → Int → Int → Int → Int → Int → Int → Int → Int → Int → Int → Int → Mo → Option RS) (x0 x1 x2 x4 x5 x6 x8 x9 x10 x11 x12 x13 x15 x16 : Int) (M : Mo) : Option RS :=
  L_isCompleted_196 k46 k143 x0 x1 x2 x4 x5 x6 x8 x9 x10 x11 x12 x13 x15 x16 0 M
def L_isCompleted_274 (k46 : Int → Int → Int → Int → Int → Int → Int → Int → Int → Int → Int → Mo → Option RS) (k212 : Int → Int → Int → Int → Int → Int → Int → Int → Int → Int → Int → Int → Mo → Option RS) (x0 x1 x2 x4 x5 x6 x8 x9 x10 x12 x16 y0 y1 : Int) (M : Mo) : Option RS :=
  k212 x0 x1 x2 x4 x5 x6 x8 x9 x10 x12 (y0 + y1) (x16 + 1) M
def L_isCompleted_273 (k46 : Int → Int → Int → Int → Int → Int → Int → Int → Int → Int → Int → Mo → Option RS) (k212 : Int → Int → Int → Int → Int → Int → Int → Int → Int → Int → Int → Int → Mo → Option RS) (x0 x1 x2 x4 x5 x6 x8 x9 x10 x12 x16 y0 : Int) (M : Mo) : Option RS :=
  L_isCompleted_274 k46 k212 x0 x1 x2 x4 x5 x6 x8 x9 x10 x12 x16 y0 0 M
def L_isCompleted_335 (k46 : Int → Int → Int → Int → Int → Int → Int → Int → Int → Int → Int → Mo → Option RS) (x0 x1 x2 x4 x5 x6 x8 x9 x10 x11 x12 : Int) (M : Mo) : Option RS :=
  k46 x0 x1 x2 x4 x5 x6 x8 x9 x10 x11 (x12 + 1) M
def L_isCompleted_330 (k46 : Int → Int → Int → Int → Int → Int → Int → Int → Int → Int → Int → Mo → Option RS) (x0 x1 x2 x4 x5 x6 x8 x9 x10 x12 y0 : Int) (M : Mo) : Option RS :=
  L_isCompleted_335 k46 x0 x1 x2 x4 x5 x6 x8 x9 (x10 + 1) y0 x12 M
def L_isCompleted_329 (k46 : Int → Int → Int → Int → Int → Int → Int → Int → Int → Int → Int → Mo → Option RS) (x0 x1 x2 x4 x5 x6 x8 x9 x10 x12 : Int) (M : Mo) : Option RS :=
  L_isCompleted_330 k46 x0 x1 x2 x4 x5 x6 x8 x9 x10 x12 0 M
def L_isCompleted_212 (k46 : Int → Int → Int → Int → Int → Int → Int → Int → Int → Int → Int → Mo → Option RS) : Nat → Int → Int → Int → Int → Int → Int → Int → Int → Int → Int → Int → Int → Mo → Option RS
  | 0, _, _, _, _, _, _, _, _, _, _, _, _, _ => none
  | n + 1, x0, x1, x2, x4, x5, x6, x8, x9, x10, x12, x15, x16, M => if kd M x1 = 100 then if 0 ≤ wr 63 ∧ wr 63 < ln M x1 then if wr (el M 0 x1 (wr 63)) ≤ wr x16 then (cal (L_asks x0 5 x5 x6 x15 M) fun v3 M4 => cal (L_behind x1 x12 M4) fun v6 M7 => cal (L_item x1 x2 x12 v6 M7) fun v9 M10 => if wr v3 = wr v9 then (cal (L_asks x0 6 x5 x6 x15 M10) fun v12 M13 => if wr v12 = 0 then (L_isCompleted_330 k46 x0 x1 x2 x4 x5 x6 x8 x9 x10 x12 1 M13) else (L_isCompleted_329 k46 x0 x1 x2 x4 x5 x6 x8 x9 x10 x12 M13)) else (L_isCompleted_329 k46 x0 x1 x2 x4 x5 x6 x8 x9 x10 x12 M10)) else (cal (L_isBegin x1 x16 x4 M) fun v15 M16 => if wr v15 = 0 then (L_isCompleted_273 k46 (L_isCompleted_212 k46 n) x0 x1 x2 x4 x5 x6 x8 x9 x10 x12 x16 x15 M16) else (cal (L_isAhead x1 x16 x12 M16) fun v18 M19 => if wr v18 = 0 then (L_isCompleted_273 k46 (L_isCompleted_212 k46 n) x0 x1 x2 x4 x5 x6 x8 x9 x10 x12 x16 x15 M19) else (cal (L_begins x1 x16 x8 x9 M19) fun v21 M22 => if wr v21 = 0 then (L_isCompleted_273 k46 (L_isCompleted_212 k46 n) x0 x1 x2 x4 x5 x6 x8 x9 x10 x12 x16 x15 M22) else (cal (L_isFirstOf x1 x16 x4 M22) fun v24 M25 => if wr v24 = 0 then (L_isCompleted_273 k46 (L_isCompleted_212 k46 n) x0 x1 x2 x4 x5 x6 x8 x9 x10 x12 x16 x15 M25) else (L_isCompleted_274 k46 (L_isCompleted_212 k46 n) x0 x1 x2 x4 x5 x6 x8 x9 x10 x12 x16 x15 1 M25))))) else none else none
def L_isCompleted_143 (k46 : Int → Int → Int → Int → Int → Int → Int → Int → Int → Int → Int → Mo → Option RS) : Nat → Int → Int → Int → Int → Int → Int → Int → Int → Int → Int → Int → Int → Int → Int → Int → Mo → Option RS
  | 0, _, _, _, _, _, _, _, _, _, _, _, _, _, _, _, _ => none
  | n + 1, x0, x1, x2, x4, x5, x6, x8, x9, x10, x11, x12, x13, x14, x15, x16, M => if kd M x1 = 100 then if 0 ≤ wr 63 ∧ wr 63 < ln M x1 then if wr (el M 0 x1 (wr 63)) ≤ wr x16 then (if wr x14 = 0 then (L_isCompleted_335 k46 x0 x1 x2 x4 x5 x6 x8 x9 x10 x11 x12 M) else (L_isCompleted_212 k46 FU x0 x1 x2 x4 x5 x6 x8 x9 x10 x12 x15 0 M)) else (cal (L_isBegin x1 x16 x4 M) fun v3 M4 => if wr v3 = 0 then (L_isCompleted_198 k46 (L_isCompleted_143 k46 n) x0 x1 x2 x4 x5 x6 x8 x9 x10 x11 x12 x13 x14 x15 x16 M4) else (if wr x13 = 0 then (L_isCompleted_198 k46 (L_isCompleted_143 k46 n) x0 x1 x2 x4 x5 x6 x8 x9 x10 x11 x12 x13 x14 x15 x16 M4) else (if wr x14 = 0 then (L_isCompleted_195 k46 (L_isCompleted_143 k46 n) x0 x1 x2 x4 x5 x6 x8 x9 x10 x11 x12 x13 x15 x16 M4) else (if wr x12 ≤ wr x16 then (L_isCompleted_191 k46 (L_isCompleted_143 k46 n) x0 x1 x2 x4 x5 x6 x8 x9 x10 x11 x12 x13 x15 x16 M4) else (cal (L_areLike x1 x16 x12 M4) fun v6 M7 => if wr v6 = 0 then (L_isCompleted_191 k46 (L_isCompleted_143 k46 n) x0 x1 x2 x4 x5 x6 x8 x9 x10 x11 x12 x13 x15 x16 M7) else (L_isCompleted_195 k46 (L_isCompleted_143 k46 n) x0 x1 x2 x4 x5 x6 x8 x9 x10 x11 x12 x13 x15 x16 M7)))))) else none else none
def L_isCompleted_91 (k46 : Int → Int → Int → Int → Int → Int → Int → Int → Int → Int → Int → Mo → Option RS) : Nat → Int → Int → Int → Int → Int → Int → Int → Int → Int → Int → Int → Int → Int → Mo → Option RS
  | 0, _, _, _, _, _, _, _, _, _, _, _, _, _, _ => none
  | n + 1, x0, x1, x2, x4, x5, x6, x8, x9, x10, x11, x12, x13, x14, M => if wr x9 ≤ wr x14 then (L_isCompleted_143 k46 FU x0 x1 x2 x4 x5 x6 x8 x9 x10 x11 x12 x13 x13 0 0 M) else (if wr x13 = 0 then (L_isCompleted_124 k46 (L_isCompleted_91 k46 n) x0 x1 x2 x4 x5 x6 x8 x9 x10 x11 x12 x14 M) else (if kd M x1 = 100 then if 0 ≤ wr (x12 + x14) ∧ wr (x12 + x14) < ln M x1 then if 0 ≤ wr (x8 + x14) ∧ wr (x8 + x14) < ln M x1 then if wr (el M 0 x1 (wr (x12 + x14))) = wr (el M 0 x1 (wr (x8 + x14))) then (L_isCompleted_125 k46 (L_isCompleted_91 k46 n) x0 x1 x2 x4 x5 x6 x8 x9 x10 x11 x12 x14 1 M) else (L_isCompleted_124 k46 (L_isCompleted_91 k46 n) x0 x1 x2 x4 x5 x6 x8 x9 x10 x11 x12 x14 M) else none else none else none))
def L_isCompleted_341 (x0 x5 x6 x10 x11 : Int) (M : Mo) : Option RS :=
  if wr x11 = 0 then (some (0, 0, M)) else (if kd M x0 = 13 then cal (X11_standing x0 x5 x6 M) fun v1 M2 => if wr v1 = wr ((10 * x10) + 1) then (some (0, 1, M2)) else (some (0, 0, M2)) else none)
def L_isCompleted_46 : Nat → Int → Int → Int → Int → Int → Int → Int → Int → Int → Int → Int → Mo → Option RS
  | 0, _, _, _, _, _, _, _, _, _, _, _, _ => none
  | n + 1, x0, x1, x2, x4, x5, x6, x8, x9, x10, x11, x12, M => if kd M x1 = 100 then if 0 ≤ wr 63 ∧ wr 63 < ln M x1 then if wr (el M 0 x1 (wr 63)) ≤ wr x12 then (L_isCompleted_341 x0 x5 x6 x10 x11 M) else (if wr x11 = 0 then (L_isCompleted_341 x0 x5 x6 x10 x11 M) else (cal (L_isBegin x1 x12 x4 M) fun v3 M4 => if wr v3 = 0 then (L_isCompleted_335 (L_isCompleted_46 n) x0 x1 x2 x4 x5 x6 x8 x9 x10 x11 x12 M4) else (cal (L_behind x1 x12 M4) fun v6 M7 => if wr (v6 - x12) ≤ wr x9 then (L_isCompleted_335 (L_isCompleted_46 n) x0 x1 x2 x4 x5 x6 x8 x9 x10 x11 x12 M7) else (L_isCompleted_91 (L_isCompleted_46 n) FU x0 x1 x2 x4 x5 x6 x8 x9 x10 x11 x12 1 0 M7)))) else none else none
def L_isCompleted_35 (x0 x1 x2 x4 x5 x6 x8 y0 : Int) (M : Mo) : Option RS :=
  L_isCompleted_46 FU x0 x1 x2 x4 x5 x6 x8 y0 0 1 0 M
def L_isCompleted_20 (x0 x1 x2 x3 x4 x5 x6 x7 y0 : Int) (M : Mo) : Option RS :=
  if 0 ≤ wr x7 then (L_isCompleted_35 x0 x1 x2 x4 x5 x6 y0 (x3 - x7) M) else (L_isCompleted_35 x0 x1 x2 x4 x5 x6 y0 0 M)
def L_isCompleted (x0 x1 x2 x3 x4 x5 x6 : Int) (M : Mo) : Option RS :=
  cal (L_runAt x1 x3 x4 M) fun v1 M2 => if 0 ≤ wr v1 then (L_isCompleted_20 x0 x1 x2 x3 x4 x5 x6 v1 v1 M2) else (L_isCompleted_20 x0 x1 x2 x3 x4 x5 x6 v1 0 M2)
def L_areTokens_244 (k12 : Int → Int → Int → Int → Int → Int → Int → Int → Int → Int → Mo → Option RS) (x0 x1 x2 x3 x4 x5 x6 x7 x8 x9 : Int) (M : Mo) : Option RS :=
  k12 x0 x1 x2 x3 x4 x5 x6 x7 x8 (x9 + 1) M
def L_areTokens_235 (k12 : Int → Int → Int → Int → Int → Int → Int → Int → Int → Int → Mo → Option RS) (x0 x1 x2 x3 x4 x5 x6 x9 x10 y0 : Int) (M : Mo) : Option RS :=
  L_areTokens_244 k12 x0 x1 x2 x3 x4 x5 (x6 + 1) x10 y0 x9 M
def L_areTokens_234 (k12 : Int → Int → Int → Int → Int → Int → Int → Int → Int → Int → Mo → Option RS) (x0 x1 x2 x3 x4 x5 x6 x9 x10 : Int) (M : Mo) : Option RS :=
  L_areTokens_235 k12 x0 x1 x2 x3 x4 x5 x6 x9 x10 0 M
def L_areTokens_206 (k12 : Int → Int → Int → Int → Int → Int → Int → Int → Int → Int → Mo → Option RS) (x0 x1 x2 x3 x4 x5 x6 x9 x10 y0 y1 : Int) (M : Mo) : Option RS :=
  if wr y0 = wr y1 then (cal (L_asks x0 5 x4 x5 x6 M) fun v1 M2 => if wr v1 = wr ((x2 * 2097152) + x10) then (L_areTokens_235 k12 x0 x1 x2 x3 x4 x5 x6 x9 x10 1 M2) else (L_areTokens_234 k12 x0 x1 x2 x3 x4 x5 x6 x9 x10 M2)) else (L_areTokens_234 k12 x0 x1 x2 x3 x4 x5 x6 x9 x10 M)
def L_areTokens_107 (k12 : Int → Int → Int → Int → Int → Int → Int → Int → Int → Int → Mo → Option RS) (x0 x1 x2 x3 x4 x5 x6 x9 x10 x12 y0 y1 : Int) (M : Mo) : Option RS :=
  cal (L_asks x0 7 x4 x5 (4 * x6) M) fun v1 M2 => if wr v1 = wr x12 then (cal (L_asks x0 7 x4 x5 ((4 * x6) + 1) M2) fun v4 M5 => if wr v4 = wr (y0 - y1) then (cal (L_asks x0 7 x4 x5 ((4 * x6) + 2) M5) fun v7 M8 => if wr v7 = wr (irm x10 128) then (cal (L_asks x0 7 x4 x5 ((4 * x6) + 3) M8) fun v10 M11 => if kd M11 x1 = 100 then if 0 ≤ wr x9 ∧ wr x9 < ln M11 x1 then cal (L_isLetter (el M11 0 x1 (wr x9)) M11) fun v15 M16 => if wr v15 = 0 then (L_areTokens_206 k12 x0 x1 x2 x3 x4 x5 x6 x9 x10 v10 1 M16) else (L_areTokens_206 k12 x0 x1 x2 x3 x4 x5 x6 x9 x10 v10 0 M16) else none else none) else (L_areTokens_234 k12 x0 x1 x2 x3 x4 x5 x6 x9 x10 M8)) else (L_areTokens_234 k12 x0 x1 x2 x3 x4 x5 x6 x9 x10 M5)) else (L_areTokens_234 k12 x0 x1 x2 x3 x4 x5 x6 x9 x10 M2)
def L_areTokens_106 (k12 : Int → Int → Int → Int → Int → Int → Int → Int → Int → Int → Mo → Option RS) (x0 x1 x2 x3 x4 x5 x6 x9 x10 x12 y0 : Int) (M : Mo) : Option RS :=
  L_areTokens_107 k12 x0 x1 x2 x3 x4 x5 x6 x9 x10 x12 y0 0 M
def L_areTokens_250 (x0 x4 x5 x6 x8 : Int) (M : Mo) : Option RS :=
  if wr x8 = 0 then (some (0, 0, M)) else (if kd M x0 = 13 then cal (X11_standing x0 x4 x5 M) fun v1 M2 => if wr v1 = wr ((10 * x6) + 1) then (cal (L_asks x0 7 x4 x5 (4 * x6) M2) fun v5 M6 => if wr v5 = wr (-3000) then (cal (L_asks x0 7 x4 x5 (-1) M6) fun v8 M9 => if wr v8 = wr (-3000) then (some (0, 1, M9)) else (some (0, 0, M9))) else (some (0, 0, M6))) else (some (0, 0, M2)) else none)
def L_areTokens_12 : Nat → Int → Int → Int → Int → Int → Int → Int → Int → Int → Int → Mo → Option RS
  | 0, _, _, _, _, _, _, _, _, _, _, _ => none
  | n + 1, x0, x1, x2, x3, x4, x5, x6, x7, x8, x9, M => if kd M x1 = 100 then if 0 ≤ wr 63 ∧ wr 63 < ln M x1 then if wr (el M 0 x1 (wr 63)) ≤ wr x9 then (L_areTokens_250 x0 x4 x5 x6 x8 M) else (if wr x8 = 0 then (L_areTokens_250 x0 x4 x5 x6 x8 M) else (cal (L_isBegin x1 x9 x3 M) fun v3 M4 => if wr v3 = 0 then (L_areTokens_244 (L_areTokens_12 n) x0 x1 x2 x3 x4 x5 x6 x7 x8 x9 M4) else (cal (L_behind x1 x9 M4) fun v6 M7 => cal (L_item x1 x2 x9 v6 M7) fun v9 M10 => if wr x6 ≤ 0 then (L_areTokens_106 (L_areTokens_12 n) x0 x1 x2 x3 x4 x5 x6 x9 (irm v9 2097152) ((idv (irm v9 2097152) 16384) - (idv x7 16384)) (irm (idv (irm v9 2097152) 128) 128) M10) else (if wr ((idv (irm v9 2097152) 16384) - (idv x7 16384)) = 0 then (L_areTokens_107 (L_areTokens_12 n) x0 x1 x2 x3 x4 x5 x6 x9 (irm v9 2097152) ((idv (irm v9 2097152) 16384) - (idv x7 16384)) (irm (idv (irm v9 2097152) 128) 128) (irm (idv x7 128) 128) M10) else (L_areTokens_106 (L_areTokens_12 n) x0 x1 x2 x3 x4 x5 x6 x9 (irm v9 2097152) ((idv (irm v9 2097152) 16384) - (idv x7 16384)) (irm (idv (irm v9 2097152) 128) 128) M10))))) else none else none
def L_areTokens (x0 x1 x2 x3 x4 x5 : Int) (M : Mo) : Option RS :=
  L_areTokens_12 FU x0 x1 x2 x3 x4 x5 0 0 1 0 M
def L_isAnswered_158 (k119 : Int → Int → Int → Int → Int → Int → Int → Int → Int → Int → Mo → Option RS) (k136 : Int → Int → Int → Int → Int → Int → Int → Int → Int → Int → Mo → Option RS) (x0 x1 x2 x3 x5 x6 x7 x8 x10 x11 : Int) (M : Mo) : Option RS :=
  k136 x0 x1 x2 x3 x5 x6 x7 x8 x10 (x11 + (-1)) M
def L_isAnswered_136 (k119 : Int → Int → Int → Int → Int → Int → Int → Int → Int → Int → Mo → Option RS) : Nat → Int → Int → Int → Int → Int → Int → Int → Int → Int → Int → Mo → Option RS
  | 0, _, _, _, _, _, _, _, _, _, _, _ => none
  | n + 1, x0, x1, x2, x3, x5, x6, x7, x8, x10, x11, M => cal (L_isBegin x1 x11 x5 M) fun v1 M2 => if wr v1 = 0 then (L_isAnswered_158 k119 (L_isAnswered_136 k119 n) x0 x1 x2 x3 x5 x6 x7 x8 x10 x11 M2) else (cal (L_areLike x1 x11 x8 M2) fun v4 M5 => if wr v4 = 0 then (L_isAnswered_158 k119 (L_isAnswered_136 k119 n) x0 x1 x2 x3 x5 x6 x7 x8 x10 x11 M5) else (cal (L_behind x1 x11 M5) fun v7 M8 => k119 x0 x1 x2 x3 x5 x6 x7 x11 v7 x10 M8))
def L_isAnswered_344 (x0 x6 x7 : Int) (M : Mo) : Option RS :=
  cal (L_asks x0 7 x6 x7 0 M) fun v1 M2 => if wr v1 = wr (-3000) then (some (0, 1, M2)) else (some (0, 0, M2))
def L_isAnswered_292 (x0 x1 x2 x6 x7 x8 x9 x10 x11 y0 y1 y2 y3 y4 : Int) (M : Mo) : Option RS :=
  cal (L_asks y0 y1 y2 y3 y4 M) fun v1 M2 => if wr v1 = wr (-3000) then (if wr x11 = 0 then (L_isAnswered_344 x0 x6 x7 M2) else (cal (L_asks x0 5 x6 x7 0 M2) fun v4 M5 => cal (L_item x1 x2 x8 x9 M5) fun v7 M8 => if wr v4 = wr v7 then (cal (L_asks x0 6 x6 x7 0 M8) fun v10 M11 => if wr v10 = wr x10 then (L_isAnswered_344 x0 x6 x7 M11) else (some (0, 0, M11))) else (some (0, 0, M8)))) else (some (0, 0, M2))
def L_isAnswered_273 (x0 x1 x2 x6 x7 x8 x9 x10 x11 y0 y1 : Int) (M : Mo) : Option RS :=
  if wr y0 = wr y1 then (if wr x11 = 0 then (L_isAnswered_292 x0 x1 x2 x6 x7 x8 x9 x10 x11 x0 5 x6 x7 0 M) else (L_isAnswered_292 x0 x1 x2 x6 x7 x8 x9 x10 x11 x0 5 x6 x7 1 M)) else (some (0, 0, M))
def L_isAnswered_252 (x0 x1 x2 x6 x7 x8 x9 x10 y0 : Int) (M : Mo) : Option RS :=
  if kd M x0 = 13 then cal (X11_standing x0 x6 x7 M) fun v1 M2 => if wr y0 = 0 then (L_isAnswered_273 x0 x1 x2 x6 x7 x8 x9 x10 y0 v1 1 M2) else (L_isAnswered_273 x0 x1 x2 x6 x7 x8 x9 x10 y0 v1 11 M2) else none
def L_isAnswered_251 (x0 x1 x2 x6 x7 x8 x9 x10 : Int) (M : Mo) : Option RS :=
  L_isAnswered_252 x0 x1 x2 x6 x7 x8 x9 x10 0 M
def L_isAnswered_235 (x0 x1 x2 x6 x7 x8 x9 x10 : Int) (M : Mo) : Option RS :=
  if wr x8 < 0 then (L_isAnswered_251 x0 x1 x2 x6 x7 x8 x9 x10 M) else (if wr x9 ≤ wr x8 then (L_isAnswered_251 x0 x1 x2 x6 x7 x8 x9 x10 M) else (L_isAnswered_252 x0 x1 x2 x6 x7 x8 x9 x10 1 M))
def L_isAnswered_206 : Nat → Int → Int → Int → Int → Int → Int → Int → Int → Int → Mo → Option RS
  | 0, _, _, _, _, _, _, _, _, _, _ => none
  | n + 1, x0, x1, x2, x3, x6, x7, x8, x9, x10, M => if wr x3 = wr 5 then (if kd M x1 = 100 then if 0 ≤ wr 63 ∧ wr 63 < ln M x1 then if wr (el M 0 x1 (wr 63)) ≤ wr x9 then (L_isAnswered_235 x0 x1 x2 x6 x7 x8 x9 x10 M) else (if 0 ≤ wr x9 ∧ wr x9 < ln M x1 then if wr (el M 0 x1 (wr x9)) = wr 10 then (L_isAnswered_235 x0 x1 x2 x6 x7 x8 x9 x10 M) else (L_isAnswered_206 n x0 x1 x2 x3 x6 x7 x8 (x9 + 1) x10 M) else none) else none else none) else (L_isAnswered_235 x0 x1 x2 x6 x7 x8 x9 x10 M)
def L_isAnswered_179 : Nat → Int → Int → Int → Int → Int → Int → Int → Int → Int → Mo → Option RS
  | 0, _, _, _, _, _, _, _, _, _, _ => none
  | n + 1, x0, x1, x2, x3, x6, x7, x8, x9, x10, M => if wr x3 = wr 5 then (if wr x8 ≤ 0 then (L_isAnswered_206 FU x0 x1 x2 x3 x6 x7 x8 x9 x10 M) else (if kd M x1 = 100 then if 0 ≤ wr (x8 - 1) ∧ wr (x8 - 1) < ln M x1 then if wr (el M 0 x1 (wr (x8 - 1))) = wr 10 then (L_isAnswered_206 FU x0 x1 x2 x3 x6 x7 x8 x9 x10 M) else (L_isAnswered_179 n x0 x1 x2 x3 x6 x7 (x8 + (-1)) x9 x10 M) else none else none)) else (L_isAnswered_206 FU x0 x1 x2 x3 x6 x7 x8 x9 x10 M)
def L_isAnswered_119 : Nat → Int → Int → Int → Int → Int → Int → Int → Int → Int → Int → Mo → Option RS
  | 0, _, _, _, _, _, _, _, _, _, _, _ => none
  | n + 1, x0, x1, x2, x3, x5, x6, x7, x8, x9, x10, M => cal (L_isFirstOf x1 x8 x5 M) fun v1 M2 => if wr v1 = 0 then (L_isAnswered_136 (L_isAnswered_119 n) FU x0 x1 x2 x3 x5 x6 x7 x8 x10 (x8 - 1) M2) else (L_isAnswered_179 FU x0 x1 x2 x3 x6 x7 x8 x9 x10 M2)
def L_isAnswered_107 (x0 x1 x2 x3 x5 x6 x7 x8 x9 y0 : Int) (M : Mo) : Option RS :=
  if wr x3 = wr 2 then (if wr x8 < 0 then (L_isAnswered_179 FU x0 x1 x2 x3 x6 x7 x8 x9 y0 M) else (L_isAnswered_119 FU x0 x1 x2 x3 x5 x6 x7 x8 x9 y0 M)) else (L_isAnswered_179 FU x0 x1 x2 x3 x6 x7 x8 x9 y0 M)
def L_isAnswered_106 (x0 x1 x2 x3 x5 x6 x7 x8 x9 : Int) (M : Mo) : Option RS :=
  L_isAnswered_107 x0 x1 x2 x3 x5 x6 x7 x8 x9 0 M
def L_isAnswered_83 (x0 x1 x2 x3 x5 x6 x7 x8 y0 : Int) (M : Mo) : Option RS :=
  if wr x3 = wr 1 then (if wr x8 < 0 then (L_isAnswered_106 x0 x1 x2 x3 x5 x6 x7 x8 y0 M) else (cal (L_likes x1 x8 x5 M) fun v1 M2 => L_isAnswered_107 x0 x1 x2 x3 x5 x6 x7 x8 y0 v1 M2)) else (L_isAnswered_106 x0 x1 x2 x3 x5 x6 x7 x8 y0 M)
def L_isAnswered_55 (x0 x1 x2 x3 x4 x5 x6 x7 y0 : Int) (M : Mo) : Option RS :=
  if wr x3 = wr 5 then (L_isAnswered_83 x0 x1 x2 x3 x5 x6 x7 y0 x4 M) else (if 0 ≤ wr y0 then (cal (L_behind x1 y0 M) fun v1 M2 => L_isAnswered_83 x0 x1 x2 x3 x5 x6 x7 y0 v1 M2) else (L_isAnswered_83 x0 x1 x2 x3 x5 x6 x7 y0 y0 M))
def L_isAnswered (x0 x1 x2 x3 x4 x5 x6 x7 : Int) (M : Mo) : Option RS :=
  if wr x3 = 0 then (cal (L_isCompleted x0 x1 x2 x4 x5 x6 x7 M) fun v8 M9 => if nB v8 = wr v8 then some (0, v8, M9) else none) else (if wr x3 = wr 3 then (cal (L_areTokens x0 x1 x2 x5 x6 x7 M) fun v4 M5 => if nB v4 = wr v4 then some (0, v4, M5) else none) else (if wr x3 = wr 5 then (L_isAnswered_55 x0 x1 x2 x3 x4 x5 x6 x7 x4 M) else (cal (L_runAt x1 x4 x5 M) fun v1 M2 => L_isAnswered_55 x0 x1 x2 x3 x4 x5 x6 x7 v1 M2)))
def L_isServed_91 (x5 x7 : Int) (M : Mo) : Option RS :=
  if wr x7 < 0 then (some (0, 1, M)) else (if kd M x5 = 100 then if 0 ≤ wr (4 + x7) ∧ wr (4 + x7) < ln M x5 then if wr (el M 0 x5 (wr (4 + x7))) ≤ wr 30 then (some (0, 0, M)) else (some (0, 1, M)) else none else none)
def L_isServed_349 (k216 : Int → Int → Int → Int → Int → Int → Int → Int → Int → Int → Int → Int → Int → Int → Mo → Option RS) (x0 x3 x4 x5 x6 x7 x8 x11 x12 x13 x14 x15 x16 x17 : Int) (M : Mo) : Option RS :=
  k216 x0 x3 x4 x5 x6 x7 x8 x11 x12 x13 x14 x15 x16 (x17 + 1) M
def L_isServed_325 (k216 : Int → Int → Int → Int → Int → Int → Int → Int → Int → Int → Int → Int → Int → Int → Mo → Option RS) : Nat → Int → Int → Int → Int → Int → Int → Int → Int → Int → Int → Int → Int → Int → Int → Int → Mo → Option RS
  | 0, _, _, _, _, _, _, _, _, _, _, _, _, _, _, _, _ => none
  | n + 1, x0, x3, x4, x5, x6, x7, x8, x11, x12, x13, x14, x15, x16, x17, x19, M => if wr x19 < 0 then (L_isServed_349 k216 x0 x3 x4 x5 x6 x7 x8 x11 x12 x13 x14 x15 x16 x17 M) else (cal (L_does x0 9 x17 0 0 0 0 0 0 M) fun v1 M2 => L_isServed_325 k216 n x0 x3 x4 x5 x6 x7 x8 x11 x12 x13 x14 x15 x16 x17 v1 M2)
def L_isServed_297 (k216 : Int → Int → Int → Int → Int → Int → Int → Int → Int → Int → Int → Int → Int → Int → Mo → Option RS) (x0 x3 x4 x5 x6 x7 x8 x11 x12 x14 x15 x16 x17 x18 y0 : Int) (M : Mo) : Option RS :=
  if wr x18 = 0 then (L_isServed_349 k216 x0 x3 x4 x5 x6 x7 x8 x11 x12 y0 x14 x15 x16 x17 M) else (if wr y0 = 0 then (L_isServed_349 k216 x0 x3 x4 x5 x6 x7 x8 x11 x12 y0 x14 x15 x16 x17 M) else (if kd M x5 = 100 then if 0 ≤ wr (9 + x17) ∧ wr (9 + x17) < ln M x5 then L_isServed_325 k216 FU x0 x3 x4 x5 x6 x7 x8 x11 x12 y0 (x14 + 1) (el M 0 x5 (wr (9 + x17))) x16 x17 0 M else none else none))
def L_isServed_287 (k216 : Int → Int → Int → Int → Int → Int → Int → Int → Int → Int → Int → Int → Int → Int → Mo → Option RS) (x0 x3 x4 x5 x6 x7 x8 x11 x12 x14 x15 x16 x17 x18 y0 : Int) (M : Mo) : Option RS :=
  if wr y0 = wr x18 then (L_isServed_297 k216 x0 x3 x4 x5 x6 x7 x8 x11 x12 x14 x15 x16 x17 x18 1 M) else (L_isServed_297 k216 x0 x3 x4 x5 x6 x7 x8 x11 x12 x14 x15 x16 x17 x18 0 M)
def L_isServed_265 (k216 : Int → Int → Int → Int → Int → Int → Int → Int → Int → Int → Int → Int → Int → Int → Mo → Option RS) (x0 x3 x4 x5 x6 x7 x8 x11 x12 x14 x15 x16 x17 y0 : Int) (M : Mo) : Option RS :=
  cal (L_asks x0 8 x7 x12 x17 M) fun v1 M2 => if wr v1 < 0 then (L_isServed_287 k216 x0 x3 x4 x5 x6 x7 x8 x11 x12 x14 x15 x16 x17 y0 0 M2) else (L_isServed_287 k216 x0 x3 x4 x5 x6 x7 x8 x11 x12 x14 x15 x16 x17 y0 1 M2)
def L_isServed_264 (k216 : Int → Int → Int → Int → Int → Int → Int → Int → Int → Int → Int → Int → Int → Int → Mo → Option RS) (x0 x3 x4 x5 x6 x7 x8 x11 x12 x14 x15 x16 x17 : Int) (M : Mo) : Option RS :=
  L_isServed_265 k216 x0 x3 x4 x5 x6 x7 x8 x11 x12 x14 x15 x16 x17 0 M
def L_isServed_431 (x0 x6 x7 x8 x11 x12 x14 x15 x16 y0 : Int) (M : Mo) : Option RS :=
  if wr y0 = 0 then (some (0, 0, M)) else (if wr 1 < wr x14 then (some (0, 1, M)) else (cal (L_isAnswered x0 x11 x6 x8 x16 x15 x7 x12 M) fun v1 M2 => if wr v1 = 0 then (some (0, 0, M2)) else (some (0, 1, M2))))
def L_isServed_430 (x0 x6 x7 x8 x11 x12 x14 x15 x16 : Int) (M : Mo) : Option RS :=
  L_isServed_431 x0 x6 x7 x8 x11 x12 x14 x15 x16 0 M
def L_isServed_383 (x0 x3 x4 x5 x6 x7 x8 x11 x12 x13 x14 x15 x16 : Int) (M : Mo) : Option RS :=
  if wr x13 = 0 then (L_isServed_430 x0 x6 x7 x8 x11 x12 x14 x15 x16 M) else (if kd M x0 = 13 then cal (X11_standing x0 x7 x12 M) fun v1 M2 => if wr v1 = 0 then (cal (L_areDelivered x0 x3 x4 x5 M2) fun v5 M6 => if wr v5 = 0 then (L_isServed_430 x0 x6 x7 x8 x11 x12 x14 x15 x16 M6) else (cal (X11_standing x0 x7 x12 M6) fun v8 M9 => if wr (irm v8 10) = wr 1 then (L_isServed_431 x0 x6 x7 x8 x11 x12 x14 x15 x16 1 M9) else (L_isServed_430 x0 x6 x7 x8 x11 x12 x14 x15 x16 M9))) else (L_isServed_430 x0 x6 x7 x8 x11 x12 x14 x15 x16 M2) else none)
def L_isServed_355 (x0 x3 x4 x5 x6 x7 x8 x11 x12 x13 x14 x15 x16 : Int) (M : Mo) : Option RS :=
  if wr x13 = 0 then (L_isServed_383 x0 x3 x4 x5 x6 x7 x8 x11 x12 x13 x14 x15 x16 M) else (if wr x14 = 0 then (if kd M x0 = 13 then cal (X11_standing x0 x7 x12 M) fun v1 M2 => if wr v1 = wr 4 then (some (0, 1, M2)) else (some (0, 0, M2)) else none) else (L_isServed_383 x0 x3 x4 x5 x6 x7 x8 x11 x12 x13 x14 x15 x16 M))
def L_isServed_216 : Nat → Int → Int → Int → Int → Int → Int → Int → Int → Int → Int → Int → Int → Int → Int → Mo → Option RS
  | 0, _, _, _, _, _, _, _, _, _, _, _, _, _, _, _ => none
  | n + 1, x0, x3, x4, x5, x6, x7, x8, x11, x12, x13, x14, x15, x16, x17, M => if kd M x5 = 100 then if 0 ≤ wr 8 ∧ wr 8 < ln M x5 then if wr (el M 0 x5 (wr 8)) ≤ wr x17 then (L_isServed_355 x0 x3 x4 x5 x6 x7 x8 x11 x12 x13 x14 x15 x16 M) else (if wr x13 = 0 then (L_isServed_355 x0 x3 x4 x5 x6 x7 x8 x11 x12 x13 x14 x15 x16 M) else (if 0 ≤ wr (15 + x17) ∧ wr (15 + x17) < ln M x5 then if wr (el M 0 x5 (wr (15 + x17))) = wr 1 then (if 0 ≤ wr (12 + x17) ∧ wr (12 + x17) < ln M x5 then if wr (iand (ishr (el M 0 x5 (wr (12 + x17))) x8) 1) = wr 1 then (L_isServed_265 (L_isServed_216 n) x0 x3 x4 x5 x6 x7 x8 x11 x12 x14 x15 x16 x17 1 M) else (L_isServed_264 (L_isServed_216 n) x0 x3 x4 x5 x6 x7 x8 x11 x12 x14 x15 x16 x17 M) else none) else (L_isServed_264 (L_isServed_216 n) x0 x3 x4 x5 x6 x7 x8 x11 x12 x14 x15 x16 x17 M) else none)) else none else none
def L_isServed_194 (x0 x3 x4 x5 x6 x7 x8 x9 x10 x11 x12 y0 : Int) (M : Mo) : Option RS :=
  cal (L_place x11 x9 x10 M) fun v1 M2 => L_isServed_216 FU x0 x3 x4 x5 x6 x7 x8 x11 x12 y0 0 0 v1 0 M2
def L_isServed_193 (x0 x3 x4 x5 x6 x7 x8 x9 x10 x11 x12 : Int) (M : Mo) : Option RS :=
  L_isServed_194 x0 x3 x4 x5 x6 x7 x8 x9 x10 x11 x12 0 M
def L_isServed_125 (x0 x3 x4 x5 x6 x7 x8 x9 x10 y0 : Int) (M : Mo) : Option RS :=
  if kd M x5 = 100 then if 0 ≤ wr (4 + x7) ∧ wr (4 + x7) < ln M x5 then if 0 ≤ wr (4 + x7) ∧ wr (4 + x7) < ln M x5 then if 0 ≤ wr (4 + x7) ∧ wr (4 + x7) < ln M x5 then pt (sE M 0 x5 (wr (4 + x7)) ((el M 0 x5 (wr (4 + x7))) + 1)) fun M5 => cal (L_does x0 6 x7 x8 x6 x9 x10 97 0 M5) fun v7 M8 => if wr v7 = wr (el M 0 x5 (wr (4 + x7))) then (if kd M8 x0 = 13 then cal (X11_standing x0 x7 (el M 0 x5 (wr (4 + x7))) M8) fun v10 M11 => if wr v10 = 0 then (cal (X11_deliverAll x0 M11) fun v14 M15 => if wr v14 ≤ 0 then (L_isServed_193 x0 x3 x4 x5 x6 x7 x8 x9 x10 y0 (el M 0 x5 (wr (4 + x7))) M15) else (L_isServed_194 x0 x3 x4 x5 x6 x7 x8 x9 x10 y0 (el M 0 x5 (wr (4 + x7))) 1 M15)) else (L_isServed_193 x0 x3 x4 x5 x6 x7 x8 x9 x10 y0 (el M 0 x5 (wr (4 + x7))) M11) else none) else (L_isServed_193 x0 x3 x4 x5 x6 x7 x8 x9 x10 y0 (el M 0 x5 (wr (4 + x7))) M8) else none else none else none else none
def L_isServed_39 (x0 x1 x2 x3 x4 x5 x6 x7 y0 : Int) (M : Mo) : Option RS :=
  cal (L_part x1 (x2 + 2) 5 M) fun v1 M2 => cal (L_part x1 (x2 + 3) 12 M2) fun v4 M5 => if wr x7 < 0 then (L_isServed_91 x5 x7 M5) else (if kd M5 x5 = 100 then if 0 ≤ wr (4 + x7) ∧ wr (4 + x7) < ln M5 x5 then if wr 30 < wr (el M5 0 x5 (wr (4 + x7))) then (L_isServed_91 x5 x7 M5) else (cal (L_areDelivered x0 x3 x4 x5 M5) fun v9 M10 => if wr v9 = 0 then (L_isServed_91 x5 x7 M10) else (if wr x6 = 0 then (L_isServed_125 x0 x3 x4 x5 x6 x7 y0 v1 v4 x3 M10) else (L_isServed_125 x0 x3 x4 x5 x6 x7 y0 v1 v4 x4 M10))) else none else none)
def L_isServed (x0 x1 x2 x3 x4 x5 : Int) (M : Mo) : Option RS :=
  cal (L_part x1 x2 2 M) fun v1 M2 => if kd M2 x5 = 100 then if 0 ≤ wr (2 + v1) ∧ wr (2 + v1) < ln M2 x5 then cal (L_part x1 (x2 + 1) 5 M2) fun v6 M7 => if wr v6 = wr 4 then (L_isServed_39 x0 x1 x2 x3 x4 x5 v1 (el M2 0 x5 (wr (2 + v1))) 5 M7) else (L_isServed_39 x0 x1 x2 x3 x4 x5 v1 (el M2 0 x5 (wr (2 + v1))) v6 M7) else none else none
def L_areFaults_43 (x3 x4 x6 : Int) (M : Mo) : Option RS :=
  if wr x6 < 0 then (some (0, 1, M)) else (if kd M x3 = 100 then if 0 ≤ wr 8 ∧ wr 8 < ln M x3 then if wr (el M 0 x3 (wr 8)) = wr 1 then (if 0 < wr x4 then (some (0, 1, M)) else (if 0 ≤ wr 15 ∧ wr 15 < ln M x3 then if wr (el M 0 x3 (wr 15)) = 0 then (some (0, 1, M)) else (some (0, 0, M)) else none)) else (some (0, 1, M)) else none else none)
def L_areFaults_244 (k153 : Int → Int → Int → Int → Int → Int → Int → Int → Int → Int → Mo → Option RS) (x0 x3 x5 x6 x7 x8 x9 x10 x11 x12 : Int) (M : Mo) : Option RS :=
  k153 x0 x3 x5 x6 x7 x8 x9 x10 x11 (x12 + 1) M
def L_areFaults_240 (k153 : Int → Int → Int → Int → Int → Int → Int → Int → Int → Int → Mo → Option RS) (x0 x3 x5 x6 x7 x8 x9 x11 x12 : Int) (M : Mo) : Option RS :=
  L_areFaults_244 k153 x0 x3 x5 x6 x7 x8 x9 x12 x11 x12 M
def L_areFaults_235 (k153 : Int → Int → Int → Int → Int → Int → Int → Int → Int → Int → Mo → Option RS) (x0 x3 x5 x6 x7 x8 x11 x12 y0 : Int) (M : Mo) : Option RS :=
  L_areFaults_240 k153 x0 x3 x5 x6 x7 x8 y0 (x11 + 1) x12 M
def L_areFaults_250 (x8 x9 x11 : Int) (M : Mo) : Option RS :=
  if wr x9 = 0 then (some (0, 0, M)) else (if wr x11 = wr x8 then (some (0, 1, M)) else (some (0, 0, M)))
def L_areFaults_153 : Nat → Int → Int → Int → Int → Int → Int → Int → Int → Int → Int → Mo → Option RS
  | 0, _, _, _, _, _, _, _, _, _, _, _ => none
  | n + 1, x0, x3, x5, x6, x7, x8, x9, x10, x11, x12, M => if kd M x7 = 100 then if 0 ≤ wr 63 ∧ wr 63 < ln M x7 then if wr (el M 0 x7 (wr 63)) ≤ wr x12 then (L_areFaults_250 x8 x9 x11 M) else (if wr x9 = 0 then (L_areFaults_250 x8 x9 x11 M) else (if kd M x3 = 100 then if 0 ≤ wr 9 ∧ wr 9 < ln M x3 then cal (L_isBegin x7 x12 (el M 0 x3 (wr 9)) M) fun v5 M6 => if wr v5 = 0 then (L_areFaults_244 (L_areFaults_153 n) x0 x3 x5 x6 x7 x8 x9 x10 x11 x12 M6) else (if wr x10 < 0 then (L_areFaults_240 (L_areFaults_153 n) x0 x3 x5 x6 x7 x8 x9 x11 x12 M6) else (cal (L_areLike x7 x10 x12 M6) fun v8 M9 => if wr v8 = 0 then (L_areFaults_240 (L_areFaults_153 n) x0 x3 x5 x6 x7 x8 x9 x11 x12 M9) else (cal (L_asks x0 10 x6 x5 x11 M9) fun v11 M12 => cal (L_behind x7 x12 M12) fun v14 M15 => cal (L_item x7 x5 x12 v14 M15) fun v17 M18 => if wr v11 = wr v17 then (L_areFaults_235 (L_areFaults_153 n) x0 x3 x5 x6 x7 x8 x11 x12 1 M18) else (L_areFaults_235 (L_areFaults_153 n) x0 x3 x5 x6 x7 x8 x11 x12 0 M18)))) else none else none)) else none else none
def L_areFaults_142 (x0 x3 x5 x6 x7 x8 y0 : Int) (M : Mo) : Option RS :=
  L_areFaults_153 FU x0 x3 x5 x6 x7 x8 y0 (-1) 0 0 M
def L_areFaults_141 (x0 x3 x5 x6 x7 x8 : Int) (M : Mo) : Option RS :=
  L_areFaults_142 x0 x3 x5 x6 x7 x8 0 M
def L_areFaults_84 (x0 x3 x5 x6 y0 : Int) (M : Mo) : Option RS :=
  cal (L_does x0 10 0 x5 0 0 0 0 0 M) fun v1 M2 => if wr v1 < 0 then (L_areFaults_141 x0 x3 x5 x6 y0 v1 M2) else (if kd M2 x0 = 13 then cal (X11_waiting x0 5 M2) fun v4 M5 => if wr v4 = wr 1 then (cal (X11_deliverAll x0 M5) fun v8 M9 => if wr v8 = wr 2 then (cal (X11_faults x0 x6 x5 M9) fun v11 M12 => if wr v11 = wr v1 then (L_areFaults_142 x0 x3 x5 x6 y0 v1 1 M12) else (L_areFaults_141 x0 x3 x5 x6 y0 v1 M12)) else (L_areFaults_141 x0 x3 x5 x6 y0 v1 M9)) else (L_areFaults_141 x0 x3 x5 x6 y0 v1 M5) else none)
def L_areFaults (x0 x1 x2 x3 x4 x5 : Int) (M : Mo) : Option RS :=
  if kd M x3 = 100 then if 0 ≤ wr (2 + x5) ∧ wr (2 + x5) < ln M x3 then if wr (el M 0 x3 (wr (2 + x5))) < 0 then (L_areFaults_43 x3 x4 (el M 0 x3 (wr (2 + x5))) M) else (if 0 ≤ wr 8 ∧ wr 8 < ln M x3 then if wr (el M 0 x3 (wr 8)) = wr 1 then (if 0 < wr x4 then (L_areFaults_43 x3 x4 (el M 0 x3 (wr (2 + x5))) M) else (if 0 ≤ wr 15 ∧ wr 15 < ln M x3 then if wr (el M 0 x3 (wr 15)) = 0 then (L_areFaults_43 x3 x4 (el M 0 x3 (wr (2 + x5))) M) else (cal (L_areDelivered x0 x1 x2 x3 M) fun v5 M6 => if wr v5 = 0 then (L_areFaults_43 x3 x4 (el M 0 x3 (wr (2 + x5))) M6) else (if wr x5 = 0 then (L_areFaults_84 x0 x3 x5 (el M 0 x3 (wr (2 + x5))) x1 M6) else (L_areFaults_84 x0 x3 x5 (el M 0 x3 (wr (2 + x5))) x2 M6))) else none)) else (L_areFaults_43 x3 x4 (el M 0 x3 (wr (2 + x5))) M) else none) else none else none
def L_code (x0 : Int) (M : Mo) : Option RS :=
  if wr 8 ≤ wr (irm x0 20) then (if wr 11 ≤ wr (irm x0 20) then (if wr 14 ≤ wr (irm x0 20) then (if wr 16 ≤ wr (irm x0 20) then (if wr (irm x0 20) = wr 16 then (some (0, (128512 + (irm (idv x0 20) 80)), M)) else (if wr (irm x0 20) = wr 17 then (some (0, 65, M)) else (some (0, (-1), M)))) else (some (0, 10, M))) else (some (0, 32, M))) else (some (0, (48 + (irm (idv x0 20) 2)), M))) else (some (0, (97 + (irm (idv x0 20) 3)), M))
def L_isChanged_367 (y0 y1 : Int) (M : Mo) : Option RS :=
  if wr y0 = wr y1 then (some (0, 1, M)) else (some (0, 0, M))
def L_isChanged_311 (x0 x3 x4 x5 x9 x10 x11 x12 x13 x15 x16 x17 : Int) (M : Mo) : Option RS :=
  cal (L_does x0 5 x4 x5 x9 x10 x11 x12 x13 M) fun v1 M2 => if wr x15 = 0 then (L_isChanged_367 v1 (-3000) M2) else (if wr x16 = 0 then (L_isChanged_367 v1 (-2000) M2) else (if wr x17 = 0 then (L_isChanged_367 v1 (-1000) M2) else (if kd M2 x3 = 100 then if 0 ≤ wr x5 ∧ wr x5 < ln M2 x3 then L_isChanged_367 v1 (el M2 0 x3 (wr x5)) M2 else none else none)))
def L_isChanged_276 (x0 x3 x4 x5 x9 x10 x11 x12 x13 x14 x15 x16 x17 x18 x19 : Int) (M : Mo) : Option RS :=
  if wr x17 = 0 then (L_isChanged_311 x0 x3 x4 x5 x9 x10 x11 x12 x13 x15 x16 x17 M) else (cal (L_replaces x14 x18 x19 x13 M) fun _ M2 => if kd M2 x3 = 100 then if 0 ≤ wr x5 ∧ wr x5 < ln M2 x3 then if 0 ≤ wr x5 ∧ wr x5 < ln M2 x3 then pt (sE M2 0 x3 (wr x5) ((el M2 0 x3 (wr x5)) + 1)) fun M7 => if 0 ≤ wr (6 + x4) ∧ wr (6 + x4) < ln M7 x3 then if 0 ≤ wr (6 + x4) ∧ wr (6 + x4) < ln M7 x3 then pt (sE M7 0 x3 (wr (6 + x4)) ((el M7 0 x3 (wr (6 + x4))) + 1)) fun M11 => L_isChanged_311 x0 x3 x4 x5 x9 x10 x11 x12 x13 x15 x16 x17 M11 else none else none else none else none else none)
def L_isChanged_226 (x0 x3 x4 x5 x9 x10 x11 x12 x13 x14 x15 x16 x18 x19 y0 : Int) (M : Mo) : Option RS :=
  if wr y0 = 0 then (L_isChanged_276 x0 x3 x4 x5 x9 x10 x11 x12 x13 x14 x15 x16 y0 x18 x19 M) else (if kd M x14 = 100 then if 0 ≤ wr 63 ∧ wr 63 < ln M x14 then cal (L_units x13 M) fun v3 M4 => if wr ((((el M 0 x14 (wr 63)) - x19) + x18) + v3) ≤ wr 60 then (L_isChanged_276 x0 x3 x4 x5 x9 x10 x11 x12 x13 x14 x15 x16 y0 x18 x19 M4) else (if kd M4 x0 = 13 then cal (X11_version x0 x4 x5 M4) fun v6 M7 => if kd M7 x3 = 100 then if 0 ≤ wr x5 ∧ wr x5 < ln M7 x3 then if wr v6 = wr (el M7 0 x3 (wr x5)) then (some (0, 1, M7)) else (some (0, 0, M7)) else none else none else none) else none else none)
def L_isChanged_225 (x0 x3 x4 x5 x9 x10 x11 x12 x13 x14 x15 x16 x18 x19 : Int) (M : Mo) : Option RS :=
  L_isChanged_226 x0 x3 x4 x5 x9 x10 x11 x12 x13 x14 x15 x16 x18 x19 0 M
def L_isChanged_207 (x0 x3 x4 x5 x9 x10 x11 x12 x13 x14 x15 x16 x17 x18 y0 : Int) (M : Mo) : Option RS :=
  if wr x17 = 0 then (L_isChanged_225 x0 x3 x4 x5 x9 x10 x11 x12 x13 x14 x15 x16 x18 y0 M) else (if wr y0 < wr x18 then (L_isChanged_225 x0 x3 x4 x5 x9 x10 x11 x12 x13 x14 x15 x16 x18 y0 M) else (L_isChanged_226 x0 x3 x4 x5 x9 x10 x11 x12 x13 x14 x15 x16 x18 y0 1 M))
def L_isChanged_187 (x0 x3 x4 x5 x9 x10 x11 x12 x13 x14 x15 x16 x17 y0 : Int) (M : Mo) : Option RS :=
  if wr x17 = 0 then (L_isChanged_207 x0 x3 x4 x5 x9 x10 x11 x12 x13 x14 x15 x16 x17 y0 0 M) else (cal (L_place x14 x11 x12 M) fun v1 M2 => L_isChanged_207 x0 x3 x4 x5 x9 x10 x11 x12 x13 x14 x15 x16 x17 y0 v1 M2)
def L_isChanged_167 (x0 x3 x4 x5 x9 x10 x11 x12 x13 x14 x15 x16 y0 : Int) (M : Mo) : Option RS :=
  if wr y0 = 0 then (L_isChanged_187 x0 x3 x4 x5 x9 x10 x11 x12 x13 x14 x15 x16 y0 0 M) else (cal (L_place x14 x9 x10 M) fun v1 M2 => L_isChanged_187 x0 x3 x4 x5 x9 x10 x11 x12 x13 x14 x15 x16 y0 v1 M2)
def L_isChanged_166 (x0 x3 x4 x5 x9 x10 x11 x12 x13 x14 x15 x16 : Int) (M : Mo) : Option RS :=
  L_isChanged_167 x0 x3 x4 x5 x9 x10 x11 x12 x13 x14 x15 x16 0 M
def L_isChanged_139 (x0 x3 x4 x5 x9 x10 x11 x12 x13 x14 x15 y0 : Int) (M : Mo) : Option RS :=
  if wr x15 = 0 then (L_isChanged_166 x0 x3 x4 x5 x9 x10 x11 x12 x13 x14 x15 y0 M) else (if wr y0 = 0 then (L_isChanged_166 x0 x3 x4 x5 x9 x10 x11 x12 x13 x14 x15 y0 M) else (if kd M x3 = 100 then if 0 ≤ wr (2 + x5) ∧ wr (2 + x5) < ln M x3 then if wr (el M 0 x3 (wr (2 + x5))) = wr x4 then (L_isChanged_167 x0 x3 x4 x5 x9 x10 x11 x12 x13 x14 x15 y0 1 M) else (L_isChanged_166 x0 x3 x4 x5 x9 x10 x11 x12 x13 x14 x15 y0 M) else none else none))
def L_isChanged_138 (x0 x3 x4 x5 x9 x10 x11 x12 x13 x14 x15 : Int) (M : Mo) : Option RS :=
  L_isChanged_139 x0 x3 x4 x5 x9 x10 x11 x12 x13 x14 x15 0 M
def L_isChanged_117 (x0 x3 x4 x5 x9 x10 x11 x12 x13 x14 y0 : Int) (M : Mo) : Option RS :=
  if wr 1001 ≤ wr x10 then (L_isChanged_138 x0 x3 x4 x5 x9 x10 x11 x12 x13 x14 y0 M) else (if wr x13 = wr 65 then (L_isChanged_138 x0 x3 x4 x5 x9 x10 x11 x12 x13 x14 y0 M) else (L_isChanged_139 x0 x3 x4 x5 x9 x10 x11 x12 x13 x14 y0 1 M))
def L_isChanged_116 (x0 x3 x4 x5 x9 x10 x11 x12 x13 x14 : Int) (M : Mo) : Option RS :=
  L_isChanged_117 x0 x3 x4 x5 x9 x10 x11 x12 x13 x14 0 M
def L_isChanged_98 (x0 x3 x4 x5 x9 x10 x11 x12 x13 y0 : Int) (M : Mo) : Option RS :=
  if wr 2 ≤ wr x4 then (L_isChanged_116 x0 x3 x4 x5 x9 x10 x11 x12 x13 y0 M) else (if wr 2 ≤ wr x5 then (L_isChanged_116 x0 x3 x4 x5 x9 x10 x11 x12 x13 y0 M) else (L_isChanged_117 x0 x3 x4 x5 x9 x10 x11 x12 x13 y0 1 M))
def L_isChanged_79 (x0 x1 x2 x3 x4 x5 x8 x9 x10 x11 y0 : Int) (M : Mo) : Option RS :=
  cal (L_code x8 M) fun v1 M2 => if wr x5 = 0 then (L_isChanged_98 x0 x3 x4 x5 x9 x10 x11 y0 v1 x1 M2) else (L_isChanged_98 x0 x3 x4 x5 x9 x10 x11 y0 v1 x2 M2)
def L_isChanged_51 (x0 x1 x2 x3 x4 x5 x6 x7 x8 x9 x10 y0 : Int) (M : Mo) : Option RS :=
  if wr (irm (idv x6 4) 3) = wr 1 then (L_isChanged_79 x0 x1 x2 x3 x4 x5 x8 x9 x10 y0 (irm x7 14) M) else (L_isChanged_79 x0 x1 x2 x3 x4 x5 x8 x9 x10 y0 (irm (idv x7 14) 16) M)
def L_isChanged_25 (x0 x1 x2 x3 x4 x5 x6 x7 x8 x9 y0 : Int) (M : Mo) : Option RS :=
  if wr (irm (idv x6 4) 3) = 0 then (L_isChanged_51 x0 x1 x2 x3 x4 x5 x6 x7 x8 x9 y0 (x9 + (irm (idv x6 12) 2)) M) else (L_isChanged_51 x0 x1 x2 x3 x4 x5 x6 x7 x8 x9 y0 x9 M)
def L_isChanged (x0 x1 x2 x3 x4 x5 x6 x7 x8 : Int) (M : Mo) : Option RS :=
  if wr (irm x7 40) = 0 then (L_isChanged_25 x0 x1 x2 x3 x4 x5 x6 x7 x8 (irm x6 4) 1001 M) else (L_isChanged_25 x0 x1 x2 x3 x4 x5 x6 x7 x8 (irm x6 4) (irm x7 14) M)
def L_isDone_255 (x0 x11 x13 x16 : Int) (M : Mo) : Option RS :=
  cal (L_does x0 1 x11 x13 0 0 0 0 0 M) fun v1 M2 => if wr v1 = wr x16 then (some (0, 1, M2)) else (some (0, 0, M2))
def L_isDone_231 (x0 x11 x12 x13 x15 y0 : Int) (M : Mo) : Option RS :=
  if wr x15 = 0 then (L_isDone_255 x0 x11 x13 y0 M) else (if kd M x12 = 100 then if 0 ≤ wr 63 ∧ wr 63 < ln M x12 then if 0 ≤ wr 63 ∧ wr 63 < ln M x12 then cal (L_replaces x12 (el M 0 x12 (wr 63)) (el M 0 x12 (wr 63)) x13 M) fun _ M5 => L_isDone_255 x0 x11 x13 y0 M5 else none else none else none)
def L_isDone_186 (x0 x11 x12 x13 x14 x15 : Int) (M : Mo) : Option RS :=
  if wr x11 = wr 2 then (L_isDone_231 x0 x11 x12 x13 x15 (-3000) M) else (if wr x14 = 0 then (L_isDone_231 x0 x11 x12 x13 x15 (-2000) M) else (if wr x15 = 0 then (L_isDone_231 x0 x11 x12 x13 x15 (-1000) M) else (if kd M x12 = 100 then if 0 ≤ wr 63 ∧ wr 63 < ln M x12 then cal (L_units x13 M) fun v3 M4 => L_isDone_231 x0 x11 x12 x13 x15 ((el M 0 x12 (wr 63)) + v3) M4 else none else none)))
def L_isDone_156 (x0 x11 x12 x13 x14 y0 : Int) (M : Mo) : Option RS :=
  if wr y0 = 0 then (L_isDone_186 x0 x11 x12 x13 x14 y0 M) else (if kd M x12 = 100 then if 0 ≤ wr 63 ∧ wr 63 < ln M x12 then cal (L_units x13 M) fun v3 M4 => if wr ((el M 0 x12 (wr 63)) + v3) ≤ wr 60 then (L_isDone_186 x0 x11 x12 x13 x14 y0 M4) else (if kd M4 x0 = 13 then cal (X11_agree x0 x11 M4) fun v6 M7 => if nB v6 = wr v6 then some (0, v6, M7) else none else none) else none else none)
def L_isDone_155 (x0 x11 x12 x13 x14 : Int) (M : Mo) : Option RS :=
  L_isDone_156 x0 x11 x12 x13 x14 0 M
def L_isDone_126 (x0 x5 x11 x12 x13 y0 : Int) (M : Mo) : Option RS :=
  if wr 2 ≤ wr x11 then (L_isDone_155 x0 x11 x12 x13 y0 M) else (if wr y0 = 0 then (L_isDone_155 x0 x11 x12 x13 y0 M) else (if kd M x5 = 100 then if 0 ≤ wr (2 + (irm x11 2)) ∧ wr (2 + (irm x11 2)) < ln M x5 then if 0 ≤ wr (el M 0 x5 (wr (2 + (irm x11 2)))) then (L_isDone_155 x0 x11 x12 x13 y0 M) else (L_isDone_156 x0 x11 x12 x13 y0 1 M) else none else none))
def L_isDone_125 (x0 x5 x11 x12 x13 : Int) (M : Mo) : Option RS :=
  L_isDone_126 x0 x5 x11 x12 x13 0 M
def L_isDone_404 (y0 y1 : Int) (M : Mo) : Option RS :=
  if wr y0 = wr y1 then (some (0, 1, M)) else (some (0, 0, M))
def L_isDone_363 (x0 x5 x10 x11 x13 x14 : Int) (M : Mo) : Option RS :=
  cal (L_does x0 3 x10 x11 0 0 0 0 0 M) fun v1 M2 => if wr x13 = 0 then (L_isDone_404 v1 (-3000) M2) else (if wr x14 = 0 then (L_isDone_404 v1 (-1000) M2) else (if kd M2 x5 = 100 then if 0 ≤ wr x11 ∧ wr x11 < ln M2 x5 then L_isDone_404 v1 (el M2 0 x5 (wr x11)) M2 else none else none))
def L_isDone_326 (x0 x5 x10 x11 x13 y0 : Int) (M : Mo) : Option RS :=
  if wr y0 = 0 then (L_isDone_363 x0 x5 x10 x11 x13 y0 M) else (if kd M x5 = 100 then if 0 ≤ wr (2 + x11) ∧ wr (2 + x11) < ln M x5 then pt (sE M 0 x5 (wr (2 + x11)) x10) fun M3 => if 0 ≤ wr x11 ∧ wr x11 < ln M3 x5 then if 0 ≤ wr x11 ∧ wr x11 < ln M3 x5 then pt (sE M3 0 x5 (wr x11) ((el M3 0 x5 (wr x11)) + 1)) fun M7 => if 0 ≤ wr (6 + x10) ∧ wr (6 + x10) < ln M7 x5 then if 0 ≤ wr (6 + x10) ∧ wr (6 + x10) < ln M7 x5 then pt (sE M7 0 x5 (wr (6 + x10)) ((el M7 0 x5 (wr (6 + x10))) + 1)) fun M11 => L_isDone_363 x0 x5 x10 x11 x13 y0 M11 else none else none else none else none else none else none)
def L_isDone_325 (x0 x5 x10 x11 x13 : Int) (M : Mo) : Option RS :=
  L_isDone_326 x0 x5 x10 x11 x13 0 M
def L_isDone_304 (x0 x5 x10 x11 y0 : Int) (M : Mo) : Option RS :=
  if wr y0 = 0 then (L_isDone_325 x0 x5 x10 x11 y0 M) else (if kd M x5 = 100 then if 0 ≤ wr (2 + x11) ∧ wr (2 + x11) < ln M x5 then if 0 ≤ wr (el M 0 x5 (wr (2 + x11))) then (L_isDone_325 x0 x5 x10 x11 y0 M) else (L_isDone_326 x0 x5 x10 x11 y0 1 M) else none else none)
def L_isDone_303 (x0 x5 x10 x11 : Int) (M : Mo) : Option RS :=
  L_isDone_304 x0 x5 x10 x11 0 M
def L_isDone_525 (y0 y1 : Int) (M : Mo) : Option RS :=
  if wr y0 = wr y1 then (some (0, 1, M)) else (some (0, 0, M))
def L_isDone_488 (x0 x10 x11 x13 x14 : Int) (M : Mo) : Option RS :=
  cal (L_does x0 4 x10 x11 0 0 0 0 0 M) fun v1 M2 => if wr x13 = 0 then (L_isDone_525 v1 (-3000) M2) else (if wr x14 = 0 then (L_isDone_525 v1 (-1000) M2) else (L_isDone_525 v1 0 M2))
def L_isDone_461 (x0 x5 x10 x11 x13 y0 : Int) (M : Mo) : Option RS :=
  if wr y0 = 0 then (L_isDone_488 x0 x10 x11 x13 y0 M) else (if kd M x5 = 100 then if 0 ≤ wr (2 + x11) ∧ wr (2 + x11) < ln M x5 then pt (sE M 0 x5 (wr (2 + x11)) (-1)) fun M3 => if 0 ≤ wr (6 + x10) ∧ wr (6 + x10) < ln M3 x5 then if 0 ≤ wr (6 + x10) ∧ wr (6 + x10) < ln M3 x5 then pt (sE M3 0 x5 (wr (6 + x10)) ((el M3 0 x5 (wr (6 + x10))) + 1)) fun M7 => L_isDone_488 x0 x10 x11 x13 y0 M7 else none else none else none else none)
def L_isDone_460 (x0 x5 x10 x11 x13 : Int) (M : Mo) : Option RS :=
  L_isDone_461 x0 x5 x10 x11 x13 0 M
def L_isDone_437 (x0 x5 x10 x11 y0 : Int) (M : Mo) : Option RS :=
  if wr y0 = 0 then (L_isDone_460 x0 x5 x10 x11 y0 M) else (if kd M x5 = 100 then if 0 ≤ wr (2 + x11) ∧ wr (2 + x11) < ln M x5 then if wr (el M 0 x5 (wr (2 + x11))) = wr x10 then (L_isDone_461 x0 x5 x10 x11 y0 1 M) else (L_isDone_460 x0 x5 x10 x11 y0 M) else none else none)
def L_isDone_436 (x0 x5 x10 x11 : Int) (M : Mo) : Option RS :=
  L_isDone_437 x0 x5 x10 x11 0 M
def L_isDone_583 (x0 x3 x4 x5 x7 x8 x9 x11 y0 : Int) (M : Mo) : Option RS :=
  cal (L_isChanged x0 x3 x4 x5 y0 x11 x7 (idv x8 4) x9 M) fun v1 M2 => if nB v1 = wr v1 then some (0, v1, M2) else none
def L_isDone_581 (x0 x3 x4 x5 x7 x8 x9 x10 x11 : Int) (M : Mo) : Option RS :=
  L_isDone_583 x0 x3 x4 x5 x7 x8 x9 x11 x10 M
def L_isDone_767 (x15 y0 y1 y2 y3 : Int) (M : Mo) : Option RS :=
  if kd M y0 = 100 then if 0 ≤ wr y1 ∧ wr y1 < ln M y0 then pt (sE M 0 y0 (wr y1) (y2 - y3)) fun M3 => if nB x15 = wr x15 then some (0, x15, M3) else none else none else none
def L_isDone_740 (x5 x13 y0 : Int) (M : Mo) : Option RS :=
  if kd M x5 = 100 then if 0 ≤ wr (6 + x13) ∧ wr (6 + x13) < ln M x5 then if 0 ≤ wr (6 + x13) ∧ wr (6 + x13) < ln M x5 then if wr (el M 0 x5 (wr (6 + x13))) = 0 then (L_isDone_767 y0 x5 (6 + x13) (el M 0 x5 (wr (6 + x13))) 0 M) else (L_isDone_767 y0 x5 (6 + x13) (el M 0 x5 (wr (6 + x13))) 1 M) else none else none else none
def L_isDone_739 (x5 x13 : Int) (M : Mo) : Option RS :=
  L_isDone_740 x5 x13 0 M
def L_isDone_923 (y0 y1 : Int) (M : Mo) : Option RS :=
  if wr y0 = wr y1 then (some (0, 1, M)) else (some (0, 0, M))
def L_isDone_884 (x5 x13 x14 x15 : Int) (M : Mo) : Option RS :=
  if wr x14 = 0 then (if kd M x5 = 100 then if 0 ≤ wr 8 ∧ wr 8 < ln M x5 then if wr x13 = wr (el M 0 x5 (wr 8)) then (L_isDone_923 x15 (-3000) M) else (L_isDone_923 x15 (-1000) M) else none else none) else (if wr x15 < 0 then (some (0, 0, M)) else (some (0, 1, M)))
def L_isDone_883 (x5 x13 x14 x15 y0 y1 y2 : Int) (M : Mo) : Option RS :=
  if kd M y0 = 100 then if 0 ≤ wr y1 ∧ wr y1 < ln M y0 then pt (sE M 0 y0 (wr y1) y2) fun M3 => L_isDone_884 x5 x13 x14 x15 M3 else none else none
def L_isDone_846 (x5 x6 x13 x14 y0 y1 : Int) (M : Mo) : Option RS :=
  cal (L_does y0 y1 x13 0 0 0 0 0 0 M) fun v1 M2 => if wr x14 = 0 then (L_isDone_884 x5 x13 x14 v1 M2) else (if wr x6 = wr 35 then (L_isDone_883 x5 x13 x14 v1 x5 (15 + x13) 0 M2) else (L_isDone_883 x5 x13 x14 v1 x5 (15 + x13) 1 M2))
def L_isDone_829 (x0 x5 x6 x13 y0 : Int) (M : Mo) : Option RS :=
  if wr x6 = wr 35 then (L_isDone_846 x5 x6 x13 y0 x0 11 M) else (L_isDone_846 x5 x6 x13 y0 x0 12 M)
def L_isDone_828 (x0 x5 x6 x13 : Int) (M : Mo) : Option RS :=
  L_isDone_829 x0 x5 x6 x13 0 M
def L_isDone_821 (x0 x5 x6 x13 y0 y1 : Int) (M : Mo) : Option RS :=
  if wr y0 = wr y1 then (L_isDone_829 x0 x5 x6 x13 1 M) else (L_isDone_828 x0 x5 x6 x13 M)
def L_isDone_975 (x5 x13 x14 y0 y1 y2 y3 : Int) (M : Mo) : Option RS :=
  if kd M y0 = 100 then if 0 ≤ wr y1 ∧ wr y1 < ln M y0 then pt (sE M 0 y0 (wr y1) (y2 + y3)) fun M3 => if kd M3 x5 = 100 then if 0 ≤ wr 4 ∧ wr 4 < ln M3 x5 then if wr x13 = wr (el M3 0 x5 (wr 4)) then (if wr x14 = wr (-3000) then (some (0, 1, M3)) else (some (0, 0, M3))) else (if wr x14 = 0 then (some (0, 1, M3)) else (if wr x14 = wr (-1000) then (some (0, 1, M3)) else (some (0, 0, M3)))) else none else none else none else none
def L_isDone_94 (x0 x1 x2 x3 x4 x5 x6 x7 x8 x9 x10 x11 y0 : Int) (M : Mo) : Option RS :=
  if wr 4 ≤ wr x6 then (if wr 10 ≤ wr x6 then (if wr 12 ≤ wr x6 then (if wr 24 ≤ wr x6 then (if wr 30 ≤ wr x6 then (if wr 32 ≤ wr x6 then (if wr x6 = wr 32 then (cal (L_areDelivered x0 x3 x4 x5 M) fun v18 M19 => if nB v18 = wr v18 then some (0, v18, M19) else none) else (if wr 35 ≤ wr x6 then (if wr 38 ≤ wr x6 then (if kd M x5 = 100 then if 0 ≤ wr 4 ∧ wr 4 < ln M x5 then if ¬ wr ((el M 0 x5 (wr 4)) + 1) = 0 then cal (L_does x0 7 0 (irm x7 ((el M 0 x5 (wr 4)) + 1)) 0 0 0 0 0 M) fun v4 M5 => if 0 ≤ wr 6 ∧ wr 6 < ln M5 x5 then if wr v4 = 0 then (L_isDone_975 x5 (irm x7 ((el M 0 x5 (wr 4)) + 1)) v4 x5 6 (el M5 0 x5 (wr 6)) 1 M5) else (L_isDone_975 x5 (irm x7 ((el M 0 x5 (wr 4)) + 1)) v4 x5 6 (el M5 0 x5 (wr 6)) 0 M5) else none else none else none else none) else (if kd M x5 = 100 then if 0 ≤ wr 8 ∧ wr 8 < ln M x5 then if ¬ wr ((el M 0 x5 (wr 8)) + 1) = 0 then if 0 ≤ wr 8 ∧ wr 8 < ln M x5 then if wr (el M 0 x5 (wr 8)) ≤ wr (irm x7 ((el M 0 x5 (wr 8)) + 1)) then (L_isDone_828 x0 x5 x6 (irm x7 ((el M 0 x5 (wr 8)) + 1)) M) else (if 0 ≤ wr (15 + (irm x7 ((el M 0 x5 (wr 8)) + 1))) ∧ wr (15 + (irm x7 ((el M 0 x5 (wr 8)) + 1))) < ln M x5 then if wr x6 = wr 35 then (L_isDone_821 x0 x5 x6 (irm x7 ((el M 0 x5 (wr 8)) + 1)) (el M 0 x5 (wr (15 + (irm x7 ((el M 0 x5 (wr 8)) + 1))))) 1 M) else (L_isDone_821 x0 x5 x6 (irm x7 ((el M 0 x5 (wr 8)) + 1)) (el M 0 x5 (wr (15 + (irm x7 ((el M 0 x5 (wr 8)) + 1))))) 0 M) else none) else none else none else none else none)) else (cal (L_does x0 13 (irm x7 2) 0 0 0 0 0 0 M) fun v13 M14 => if kd M14 x5 = 100 then if 0 ≤ wr (6 + (irm x7 2)) ∧ wr (6 + (irm x7 2)) < ln M14 x5 then if wr (el M14 0 x5 (wr (6 + (irm x7 2)))) = 0 then (if wr v13 = wr (-1) then (L_isDone_740 x5 (irm x7 2) 1 M14) else (L_isDone_740 x5 (irm x7 2) 0 M14)) else (if wr v13 < 0 then (L_isDone_739 x5 (irm x7 2) M14) else (if wr 5 ≤ wr v13 then (L_isDone_739 x5 (irm x7 2) M14) else (L_isDone_740 x5 (irm x7 2) 1 M14))) else none else none))) else (cal (L_areFaults x0 x3 x4 x5 (irm x7 2) (irm x8 2) M) fun v22 M23 => if nB v22 = wr v22 then some (0, v22, M23) else none)) else (cal (L_isServed x0 x1 (x2 + 1) x3 x4 x5 M) fun v26 M27 => if nB v26 = wr v26 then some (0, v26, M27) else none)) else (if wr 2 ≤ wr x10 then (L_isDone_581 x0 x3 x4 x5 x7 x8 x9 x10 x11 M) else (if wr 2 ≤ wr x11 then (L_isDone_581 x0 x3 x4 x5 x7 x8 x9 x10 x11 M) else (if wr (irm x9 6) ≤ 0 then (L_isDone_581 x0 x3 x4 x5 x7 x8 x9 x10 x11 M) else (if kd M x5 = 100 then if 0 ≤ wr (2 + x11) ∧ wr (2 + x11) < ln M x5 then if wr (el M 0 x5 (wr (2 + x11))) < 0 then (L_isDone_581 x0 x3 x4 x5 x7 x8 x9 x10 x11 M) else (if 0 ≤ wr (2 + x11) ∧ wr (2 + x11) < ln M x5 then L_isDone_583 x0 x3 x4 x5 x7 x8 x9 x11 (el M 0 x5 (wr (2 + x11))) M else none) else none else none))))) else (if wr 2 ≤ wr x10 then (L_isDone_436 x0 x5 x10 x11 M) else (if wr 2 ≤ wr x11 then (L_isDone_436 x0 x5 x10 x11 M) else (L_isDone_437 x0 x5 x10 x11 1 M)))) else (if wr 2 ≤ wr x10 then (L_isDone_303 x0 x5 x10 x11 M) else (if wr 2 ≤ wr x11 then (L_isDone_303 x0 x5 x10 x11 M) else (L_isDone_304 x0 x5 x10 x11 1 M)))) else (cal (L_code x9 M) fun v33 M34 => if wr v33 = wr 65 then (L_isDone_125 x0 x5 x11 y0 v33 M34) else (if wr v33 < 0 then (L_isDone_125 x0 x5 x11 y0 v33 M34) else (L_isDone_126 x0 x5 x11 y0 v33 1 M34)))
def L_isDone_81 (x0 x1 x2 x3 x4 x5 x6 x7 x8 x9 x10 y0 : Int) (M : Mo) : Option RS :=
  if wr y0 = 0 then (L_isDone_94 x0 x1 x2 x3 x4 x5 x6 x7 x8 x9 x10 y0 x3 M) else (L_isDone_94 x0 x1 x2 x3 x4 x5 x6 x7 x8 x9 x10 y0 x4 M)
def L_isDone_61 (x0 x1 x2 x3 x4 x5 x6 x7 x8 x9 y0 : Int) (M : Mo) : Option RS :=
  if wr (irm x8 30) = 0 then (L_isDone_81 x0 x1 x2 x3 x4 x5 x6 x7 x8 x9 y0 2 M) else (L_isDone_81 x0 x1 x2 x3 x4 x5 x6 x7 x8 x9 y0 (irm (idv x8 2) 2) M)
def L_isDone (x0 x1 x2 x3 x4 x5 : Int) (M : Mo) : Option RS :=
  cal (L_part x1 x2 40 M) fun v1 M2 => cal (L_part x1 (x2 + 1) 6000 M2) fun v4 M5 => cal (L_part x1 (x2 + 2) 7000 M5) fun v7 M8 => cal (L_part x1 (x2 + 3) 8000 M8) fun v10 M11 => if wr (irm v4 30) = 0 then (L_isDone_61 x0 x1 x2 x3 x4 x5 v1 v4 v7 v10 2 M11) else (L_isDone_61 x0 x1 x2 x3 x4 x5 v1 v4 v7 v10 (irm v4 2) M11)
def L_law_225 (k131 : Int → Int → Int → Int → Int → Int → Int → Int → Mo → Option RS) (x0 x1 x2 x3 x4 x6 x7 y0 : Int) (M : Mo) : Option RS :=
  if kd M x4 = 100 then if 0 ≤ wr 8 ∧ wr 8 < ln M x4 then if 0 ≤ wr 8 ∧ wr 8 < ln M x4 then pt (sE M 0 x4 (wr 8) ((el M 0 x4 (wr 8)) + 1)) fun M4 => k131 x0 x1 x2 x3 x4 y0 x6 (x7 + 1) M4 else none else none else none
def L_law_358 (k311 : Int → Int → Int → Int → Int → Int → Int → Mo → Option RS) (x0 x1 x2 x3 x4 x7 y0 : Int) (M : Mo) : Option RS :=
  k311 x0 x1 x2 x3 x4 y0 (x7 + 1) M
def L_law_357 (k311 : Int → Int → Int → Int → Int → Int → Int → Mo → Option RS) (x0 x1 x2 x3 x4 x7 : Int) (M : Mo) : Option RS :=
  L_law_358 k311 x0 x1 x2 x3 x4 x7 0 M
def L_law_366 (x1 x2 x3 x4 x5 : Int) (M : Mo) : Option RS :=
  if wr x5 = 0 then (some (0, 0, M)) else (cal (L_areDelivered x1 x2 x3 x4 M) fun v1 M2 => if wr v1 = 0 then (some (0, 0, M2)) else (cal (L_does x1 3 2 0 0 0 0 0 0 M2) fun v4 M5 => if wr v4 = wr (-3000) then (cal (L_does x1 6 0 6 0 0 0 97 0 M5) fun v7 M8 => if wr v7 = wr (-2000) then (cal (L_does x1 8 0 40 0 0 0 0 0 M8) fun v10 M11 => if wr v10 = wr (-3000) then (cal (L_does x1 9 3 0 0 0 0 0 0 M11) fun v13 M14 => if wr v13 = wr (-3000) then (cal (L_does x1 10 3 0 0 0 0 0 0 M14) fun v16 M17 => if wr v16 = wr (-3000) then (cal (L_does x1 11 (-1) 0 0 0 0 0 0 M17) fun v19 M20 => if wr v19 = wr (-3000) then (cal (L_does x1 12 3 0 0 0 0 0 0 M20) fun v22 M23 => if wr v22 = wr (-3000) then (cal (L_does x1 13 10 0 0 0 0 0 0 M23) fun v25 M26 => if wr v25 = wr (-3000) then (some (0, 1, M26)) else (some (0, 0, M26))) else (some (0, 0, M23))) else (some (0, 0, M20))) else (some (0, 0, M17))) else (some (0, 0, M14))) else (some (0, 0, M11))) else (some (0, 0, M8))) else (some (0, 0, M5))))
def L_law_311 : Nat → Int → Int → Int → Int → Int → Int → Int → Mo → Option RS
  | 0, _, _, _, _, _, _, _, _ => none
  | n + 1, x0, x1, x2, x3, x4, x5, x7, M => if wr 56 ≤ wr x7 then (L_law_366 x1 x2 x3 x4 x5 M) else (if wr x5 = 0 then (L_law_366 x1 x2 x3 x4 x5 M) else (cal (L_isDone x1 x0 ((4 * x7) + 10) x2 x3 x4 M) fun v1 M2 => if wr v1 = 0 then (L_law_357 (L_law_311 n) x0 x1 x2 x3 x4 x7 M2) else (cal (L_areFiles x1 x2 x3 x4 M2) fun v4 M5 => if wr v4 = 0 then (L_law_357 (L_law_311 n) x0 x1 x2 x3 x4 x7 M5) else (L_law_358 (L_law_311 n) x0 x1 x2 x3 x4 x7 1 M5))))
def L_law_306 (x0 x1 x2 x3 x4 y0 : Int) (M : Mo) : Option RS :=
  L_law_311 FU x0 x1 x2 x3 x4 y0 0 M
def L_law_305 (x0 x1 x2 x3 x4 : Int) (M : Mo) : Option RS :=
  L_law_306 x0 x1 x2 x3 x4 0 M
def L_law_282 (x0 x1 x2 x3 x4 : Int) (M : Mo) : Option RS :=
  cal (L_does x1 2 64 1 0 0 0 0 0 M) fun v1 M2 => if wr v1 = wr (-2000) then (L_law_306 x0 x1 x2 x3 x4 1 M2) else (L_law_305 x0 x1 x2 x3 x4 M2)
def L_law_242 (x0 x1 x2 x3 x4 x5 x6 : Int) (M : Mo) : Option RS :=
  if wr x5 = 0 then (L_law_305 x0 x1 x2 x3 x4 M) else (cal (L_areFiles x1 x2 x3 x4 M) fun v1 M2 => if wr v1 = 0 then (L_law_305 x0 x1 x2 x3 x4 M2) else (if wr x6 < wr 3 then (L_law_282 x0 x1 x2 x3 x4 M2) else (cal (L_does x1 2 1 1 0 0 0 0 0 M2) fun v4 M5 => if wr v4 = wr (-1000) then (L_law_282 x0 x1 x2 x3 x4 M5) else (L_law_305 x0 x1 x2 x3 x4 M5))))
def L_law_131 : Nat → Int → Int → Int → Int → Int → Int → Int → Int → Mo → Option RS
  | 0, _, _, _, _, _, _, _, _, _ => none
  | n + 1, x0, x1, x2, x3, x4, x5, x6, x7, M => if wr x6 ≤ wr x7 then (L_law_242 x0 x1 x2 x3 x4 x5 x6 M) else (if wr x5 = 0 then (L_law_242 x0 x1 x2 x3 x4 x5 x6 M) else (cal (L_part x0 ((3 * x7) + 1) 3 M) fun v1 M2 => if kd M2 x4 = 100 then if 0 ≤ wr (9 + x7) ∧ wr (9 + x7) < ln M2 x4 then pt (sE M2 0 x4 (wr (9 + x7)) v1) fun M6 => cal (L_part x0 ((3 * x7) + 2) 63 M6) fun v8 M9 => if 0 ≤ wr (12 + x7) ∧ wr (12 + x7) < ln M9 x4 then pt (sE M9 0 x4 (wr (12 + x7)) (1 + v8)) fun M12 => if 0 ≤ wr (15 + x7) ∧ wr (15 + x7) < ln M12 x4 then pt (sE M12 0 x4 (wr (15 + x7)) 1) fun M15 => if 0 ≤ wr (12 + x7) ∧ wr (12 + x7) < ln M15 x4 then if 0 ≤ wr (9 + x7) ∧ wr (9 + x7) < ln M15 x4 then if kd M15 x1 = 13 then cal (X11_server x1 (el M15 0 x4 (wr (12 + x7))) 7 (el M15 0 x4 (wr (9 + x7))) M15) fun v19 M20 => if wr v19 = wr x7 then (L_law_225 (L_law_131 n) x0 x1 x2 x3 x4 x6 x7 1 M20) else (L_law_225 (L_law_131 n) x0 x1 x2 x3 x4 x6 x7 0 M20) else none else none else none else none else none else none else none))
def L_law_118 (x0 x1 x2 x3 x4 y0 : Int) (M : Mo) : Option RS :=
  cal (L_part x0 0 4 M) fun v1 M2 => L_law_131 FU x0 x1 x2 x3 x4 y0 v1 0 M2
def L_law_117 (x0 x1 x2 x3 x4 : Int) (M : Mo) : Option RS :=
  L_law_118 x0 x1 x2 x3 x4 0 M
def L_law (x0 : Int) (M : Mo) : Option RS :=
  if nc M + 1 ≤ CAPC ∧ ns M + 6 ≤ CAPS then pt (nO M 12 6) fun M3 => cal0 (X11_init (nid M) M3) fun _ M6 => if nc M6 + 1 ≤ CAPC ∧ ns M6 + (wr 64).toNat ≤ CAPS then pt (nA M6 0 (wr 64)) fun M10 => if nc M10 + 1 ≤ CAPC ∧ ns M10 + (wr 64).toNat ≤ CAPS then pt (nA M10 0 (wr 64)) fun M14 => if nc M14 + 1 ≤ CAPC ∧ ns M14 + (wr 18).toNat ≤ CAPS then pt (nA M14 0 (wr 18)) fun M18 => if 0 ≤ wr 2 ∧ wr 2 < ln M18 (nid M14) then pt (sE M18 0 (nid M14) (wr 2) (-1)) fun M21 => if 0 ≤ wr 3 ∧ wr 3 < ln M21 (nid M14) then pt (sE M21 0 (nid M14) (wr 3) (-1)) fun M24 => cal (L_does (nid M) 0 96 0 0 0 0 0 0 M24) fun v26 M27 => if wr v26 = wr (-2000) then (cal (X11_file (nid M) 98 0 M27) fun v29 M30 => if wr v29 = 0 then (cal (L_does (nid M) 0 98 1 0 0 0 0 0 M30) fun v32 M33 => if wr v32 = wr (-1000) then (cal (X11_file (nid M) 97 1 M33) fun v35 M36 => if wr v35 = wr 1 then (cal (X11_name (nid M) 0 M36) fun v38 M39 => if wr v38 = wr 98 then (cal (X11_name (nid M) 1 M39) fun v41 M42 => if wr v41 = wr 97 then (L_law_118 x0 (nid M) (nid M6) (nid M10) (nid M14) 1 M42) else (L_law_117 x0 (nid M) (nid M6) (nid M10) (nid M14) M42)) else (L_law_117 x0 (nid M) (nid M6) (nid M10) (nid M14) M39)) else (L_law_117 x0 (nid M) (nid M6) (nid M10) (nid M14) M36)) else (L_law_117 x0 (nid M) (nid M6) (nid M10) (nid M14) M33)) else (L_law_117 x0 (nid M) (nid M6) (nid M10) (nid M14) M30)) else (L_law_117 x0 (nid M) (nid M6) (nid M10) (nid M14) M27) else none else none else none else none else none else none
