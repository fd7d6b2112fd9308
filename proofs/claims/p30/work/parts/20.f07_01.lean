def X1_init (x0 : Int) (M : Mo) : Option RS :=
  if kd M x0 ≠ 0 then if nc M + 1 ≤ CAPC ∧ ns M + 3 ≤ CAPS then pt (nO M 0 3) fun M4 => cal0 (Jx4a65c_init_da8c8 (nid M) M4) fun _ M7 => if kd M7 x0 = 3 then pt (sF M7 2 0 x0 (nid M)) fun M10 => some (0, 0, M10) else none else none else none
def X1_size (x0 : Int) (M : Mo) : Option RS :=
  if kd M x0 = 3 then if kd M (fd M 2 0 x0) = 1 then cal (Jx4a65c_size_8abf5 (fd M 2 0 x0) M) fun v2 M3 => some (0, v2, M3) else none else none
def X1_send (x0 x1 : Int) (M : Mo) : Option RS :=
  if kd M x0 = 3 then if kd M (fd M 2 0 x0) = 1 then cal (Jx4a65c_add_9ea2d (fd M 2 0 x0) x1 M) fun v2 M3 => some (0, 0, M3) else none else none
def X1_takeFirst (x0 : Int) (M : Mo) : Option RS :=
  if kd M x0 = 3 then if kd M (fd M 2 0 x0) = 1 then cal (Jx4a65c_isEmpty_aae02 (fd M 2 0 x0) M) fun v2 M3 => if wr v2 = 0 then (if kd M3 (fd M3 2 0 x0) = 1 then cal (Jx4a65c_get_915e3 (fd M3 2 0 x0) 0 M3) fun v6 M7 => if v6 = 0 ∨ kd M7 v6 = 8 then if kd M7 (fd M7 2 0 x0) = 1 then cal (Jx4a65c_remove_915e3 (fd M7 2 0 x0) 0 M7) fun v11 M12 => some (0, v6, M12) else none else none else none) else (some (0, 0, M3)) else none else none
def X1_lose (x0 : Int) (M : Mo) : Option RS :=
  if kd M x0 = 3 then if kd M (fd M 2 0 x0) = 1 then cal (Jx4a65c_size_8abf5 (fd M 2 0 x0) M) fun v2 M3 => if kd M3 (fd M3 2 0 x0) = 1 then cal (Jx4a65c_clear_da8c8 (fd M3 2 0 x0) M3) fun _ M7 => some (0, v2, M7) else none else none else none
