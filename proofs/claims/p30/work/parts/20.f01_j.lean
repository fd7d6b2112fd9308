def Jxa1e45_init_da8c8 (x0 : Int) (M : Mo) : Option RS :=
  if kd M x0 ≠ 0 then some (0, 0, M) else none
def Jxc12de_init_da8c8 (x0 : Int) (M : Mo) : Option RS :=
  if kd M x0 ≠ 0 then cal0 (Jxa1e45_init_da8c8 x0 M) fun _ M2 => if kd M2 x0 = 1 then pt (sF M2 0 0 x0 0) fun M6 => some (0, 0, M6) else none else none
def Jx4a65c_init_da8c8 (x0 : Int) (M : Mo) : Option RS :=
  if kd M x0 ≠ 0 then cal0 (Jxc12de_init_da8c8 x0 M) fun _ M2 => if kd M2 x0 = 1 then pt (sF M2 0 1 x0 2) fun M6 => some (0, 0, M6) else none else none
def J8_newLength_cabcc_21 (x0 x1 : Int) (M : Mo) : Option RS :=
  none
def J8_newLength_cabcc (x0 x1 x2 : Int) (M : Mo) : Option RS :=
  if wr (x0 + (mxx x1 x2)) ≤ wr 0 then (J8_newLength_cabcc_21 x0 x1 M) else (if wr 2147483639 < wr (x0 + (mxx x1 x2)) then (J8_newLength_cabcc_21 x0 x1 M) else (some (0, (x0 + (mxx x1 x2)), M)))
def J7_copyOf_6403c (x0 x1 x2 : Int) (M : Mo) : Option RS :=
  if x2 = 4 ∨ ((0 < kd M x2 ∧ kd M x2 < 200) ∧ kd M 4 ≠ 0 ∧ kd M 4 < 302) ∨ ((0 < kd M 4 ∧ kd M 4 < 200) ∧ kd M x2 ≠ 0 ∧ kd M x2 < 302) then if x2 = 4 then (if 0 ≤ wr x1 then if nc M + 1 ≤ CAPC ∧ ns M + (wr x1).toNat ≤ CAPS then pt (nA M 10 (wr x1)) fun M5 => if okA (kd M5 x0) = true then if kd M5 x0 = 110 then if 0 ≤ wr 0 ∧ 0 ≤ wr 0 ∧ 0 ≤ wr (mnn (ln M5 x0) x1) ∧ wr 0 + wr (mnn (ln M5 x0) x1) ≤ ln M5 x0 ∧ wr 0 + wr (mnn (ln M5 x0) x1) ≤ ln M5 (nid M) then pt (cpE M5 10 x0 (wr 0) (nid M) (wr 0) (wr (mnn (ln M5 x0) x1))) fun M10 => some (0, (nid M), M10) else none else none else none else none else none) else (none) else none
def J7_copyOf_1904c (x0 x1 : Int) (M : Mo) : Option RS :=
  if kd M x0 = 110 then cal (J7_copyOf_6403c x0 x1 4 M) fun v2 M3 => some (0, v2, M3) else none
def Jx4a65c_grow_92f84_20 (x0 x1 x2 : Int) (M : Mo) : Option RS :=
  cal (J8_newLength_cabcc x2 (x1 - x2) (ishr x2 1) M) fun v1 M2 => if kd M2 x0 = 1 then cal (J7_copyOf_1904c (fd M2 0 1 x0) v1 M2) fun v5 M6 => pt (sF M6 0 1 x0 v5) fun M8 => some (0, v5, M8) else none
def Jx4a65c_grow_92f84 (x0 x1 : Int) (M : Mo) : Option RS :=
  if kd M x0 = 1 then if okA (kd M (fd M 0 1 x0)) = true then if 0 < wr (ln M (fd M 0 1 x0)) then (Jx4a65c_grow_92f84_20 x0 x1 (ln M (fd M 0 1 x0)) M) else (if (fd M 0 1 x0) = 2 ∨ ((0 < kd M (fd M 0 1 x0) ∧ kd M (fd M 0 1 x0) < 200) ∧ kd M 2 ≠ 0 ∧ kd M 2 < 302) ∨ ((0 < kd M 2 ∧ kd M 2 < 200) ∧ kd M (fd M 0 1 x0) ≠ 0 ∧ kd M (fd M 0 1 x0) < 302) then if (fd M 0 1 x0) = 2 then (if 0 ≤ wr (mxx 10 x1) then if nc M + 1 ≤ CAPC ∧ ns M + (wr (mxx 10 x1)).toNat ≤ CAPS then pt (nA M 10 (wr (mxx 10 x1))) fun M7 => pt (sF M7 0 1 x0 (nid M)) fun M9 => some (0, (nid M), M9) else none else none) else (Jx4a65c_grow_92f84_20 x0 x1 (ln M (fd M 0 1 x0)) M) else none) else none else none
def Jx4a65c_grow_d5877 (x0 : Int) (M : Mo) : Option RS :=
  if kd M x0 = 1 then cal (Jx4a65c_grow_92f84 x0 ((fd M 0 2 x0) + 1) M) fun v2 M3 => some (0, v2, M3) else none
def Jx4a65c_size_8abf5 (x0 : Int) (M : Mo) : Option RS :=
  if kd M x0 = 1 then some (0, (fd M 0 2 x0), M) else none
def Jx4a65c_isEmpty_aae02 (x0 : Int) (M : Mo) : Option RS :=
  if kd M x0 = 1 then if wr (fd M 0 2 x0) = 0 then (some (0, 1, M)) else (some (0, 0, M)) else none
def Jx4a65c_elementData_915e3 (x0 x1 : Int) (M : Mo) : Option RS :=
  if kd M x0 = 1 then if kd M (fd M 0 1 x0) = 110 then if 0 ≤ wr x1 ∧ wr x1 < ln M (fd M 0 1 x0) then some (0, (el M 10 (fd M 0 1 x0) (wr x1)), M) else none else none else none
def J3_checkIndex_8e157_9 (x0 x1 x2 : Int) (M : Mo) : Option RS :=
  none
def J3_checkIndex_8e157 (x0 x1 x2 : Int) (M : Mo) : Option RS :=
  if wr x0 < 0 then (J3_checkIndex_8e157_9 x0 x1 x2 M) else (if wr x0 < wr x1 then (some (0, x0, M)) else (J3_checkIndex_8e157_9 x0 x1 x2 M))
def J15_checkIndex_7cf53 (x0 x1 : Int) (M : Mo) : Option RS :=
  cal (J3_checkIndex_8e157 x0 x1 0 M) fun v1 M2 => some (0, v1, M2)
def Jx4a65c_get_915e3 (x0 x1 : Int) (M : Mo) : Option RS :=
  if kd M x0 = 1 then cal (J15_checkIndex_7cf53 x1 (fd M 0 2 x0) M) fun v2 M3 => cal (Jx4a65c_elementData_915e3 x0 x1 M3) fun v5 M6 => some (0, v5, M6) else none
def Jx4a65c_add_72be8_11 (x0 x1 x2 x3 : Int) (M : Mo) : Option RS :=
  if kd M x2 = 110 then if x1 = 0 ∨ okc 10 (kd M x1) = true then if 0 ≤ wr x3 ∧ wr x3 < ln M x2 then pt (sE M 10 x2 (wr x3) x1) fun M4 => if kd M4 x0 = 1 then pt (sF M4 0 2 x0 (x3 + 1)) fun M7 => some (0, 0, M7) else none else none else none else none
def Jx4a65c_add_72be8 (x0 x1 x2 x3 : Int) (M : Mo) : Option RS :=
  if okA (kd M x2) = true then if wr x3 = wr (ln M x2) then (if kd M x0 = 1 then cal (Jx4a65c_grow_d5877 x0 M) fun v2 M3 => Jx4a65c_add_72be8_11 x0 x1 v2 x3 M3 else none) else (Jx4a65c_add_72be8_11 x0 x1 x2 x3 M) else none
def Jx4a65c_add_9ea2d (x0 x1 : Int) (M : Mo) : Option RS :=
  if kd M x0 = 1 then pt (sF M 0 0 x0 ((fd M 0 0 x0) + 1)) fun M2 => cal (Jx4a65c_add_72be8 x0 x1 (fd M2 0 1 x0) (fd M2 0 2 x0) M2) fun _ M5 => some (0, 1, M5) else none
def Jx4a65c_fastRemove_b59b0_34 (x0 x1 x3 : Int) (M : Mo) : Option RS :=
  if kd M x0 = 1 then pt (sF M 0 2 x0 x3) fun M2 => if kd M2 x1 = 110 then if 0 ≤ wr x3 ∧ wr x3 < ln M2 x1 then pt (sE M2 10 x1 (wr x3) 0) fun M6 => some (0, 0, M6) else none else none else none
def Jx4a65c_fastRemove_b59b0 (x0 x1 x2 : Int) (M : Mo) : Option RS :=
  if kd M x0 = 1 then pt (sF M 0 0 x0 ((fd M 0 0 x0) + 1)) fun M2 => if wr ((fd M2 0 2 x0) - 1) ≤ wr x2 then (Jx4a65c_fastRemove_b59b0_34 x0 x1 ((fd M2 0 2 x0) - 1) M2) else (if kd M2 x1 = 110 then if 0 ≤ wr (x2 + 1) ∧ 0 ≤ wr x2 ∧ 0 ≤ wr (((fd M2 0 2 x0) - 1) - x2) ∧ wr (x2 + 1) + wr (((fd M2 0 2 x0) - 1) - x2) ≤ ln M2 x1 ∧ wr x2 + wr (((fd M2 0 2 x0) - 1) - x2) ≤ ln M2 x1 then pt (cpE M2 10 x1 (wr (x2 + 1)) x1 (wr x2) (wr (((fd M2 0 2 x0) - 1) - x2))) fun M6 => Jx4a65c_fastRemove_b59b0_34 x0 x1 ((fd M2 0 2 x0) - 1) M6 else none else none) else none
def Jx4a65c_remove_915e3 (x0 x1 : Int) (M : Mo) : Option RS :=
  if kd M x0 = 1 then cal (J15_checkIndex_7cf53 x1 (fd M 0 2 x0) M) fun v2 M3 => if kd M3 (fd M3 0 1 x0) = 110 then if 0 ≤ wr x1 ∧ wr x1 < ln M3 (fd M3 0 1 x0) then cal (Jx4a65c_fastRemove_b59b0 x0 (fd M3 0 1 x0) x1 M3) fun _ M8 => some (0, (el M3 10 (fd M3 0 1 x0) (wr x1)), M8) else none else none else none
def Jx4a65c_clear_da8c8_27 : Nat → Int → Int → Int → Mo → Option RS
  | 0, _, _, _, _ => none
  | n + 1, x1, x2, x3, M => if wr x2 ≤ wr x3 then (some (0, 0, M)) else (if kd M x1 = 110 then if 0 ≤ wr x3 ∧ wr x3 < ln M x1 then pt (sE M 10 x1 (wr x3) 0) fun M3 => Jx4a65c_clear_da8c8_27 n x1 x2 (x3 + 1) M3 else none else none)
def Jx4a65c_clear_da8c8 (x0 : Int) (M : Mo) : Option RS :=
  if kd M x0 = 1 then pt (sF M 0 0 x0 ((fd M 0 0 x0) + 1)) fun M2 => pt (sF M2 0 2 x0 0) fun M4 => Jx4a65c_clear_da8c8_27 FU (fd M2 0 1 x0) (fd M2 0 2 x0) 0 M4 else none
def J7_fill_53178_5 : Nat → Int → Int → Int → Int → Mo → Option RS
  | 0, _, _, _, _, _ => none
  | n + 1, x0, x1, x2, x3, M => if wr x3 ≤ wr x2 then (some (0, 0, M)) else (if kd M x0 = 100 then if 0 ≤ wr x2 ∧ wr x2 < ln M x0 then pt (sE M 0 x0 (wr x2) x1) fun M3 => J7_fill_53178_5 n x0 x1 (x2 + 1) x3 M3 else none else none)
def J7_fill_53178 (x0 x1 : Int) (M : Mo) : Option RS :=
  if okA (kd M x0) = true then J7_fill_53178_5 FU x0 x1 0 (ln M x0) M else none
def J7_copyOf_59c91 (x0 x1 : Int) (M : Mo) : Option RS :=
  if okA (kd M x0) = true then if wr x1 = wr (ln M x0) then (if kd M x0 = 100 then if nc M + 1 ≤ CAPC ∧ ns M + (ln M x0).toNat ≤ CAPS then pt (nK M 0 x0) fun M15 => some (0, (nid M), M15) else none else none) else (if 0 ≤ wr x1 then if nc M + 1 ≤ CAPC ∧ ns M + (wr x1).toNat ≤ CAPS then pt (nA M 0 (wr x1)) fun M5 => if okA (kd M5 x0) = true then if 0 ≤ wr 0 ∧ 0 ≤ wr 0 ∧ 0 ≤ wr (mnn (ln M5 x0) x1) ∧ wr 0 + wr (mnn (ln M5 x0) x1) ≤ ln M5 x0 ∧ wr 0 + wr (mnn (ln M5 x0) x1) ≤ ln M5 (nid M) then if kd M5 x0 = 300 then (some (0, (nid M), M5)) else (if kd M5 x0 = 100 then pt (cpE M5 0 x0 (wr 0) (nid M) (wr 0) (wr (mnn (ln M5 x0) x1))) fun M10 => some (0, (nid M), M10) else none) else none else none else none else none) else none
