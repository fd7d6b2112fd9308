theorem dX11_item_0 : decode cX11_item 0 = .ok (.aload_n 0, 1) := by decide +kernel
theorem dX11_item_1 : decode cX11_item 1 = .ok (.iload_n 1, 1) := by decide +kernel
theorem dX11_item_2 : decode cX11_item 2 = .ok (.invokevirtual 134, 3) := by decide +kernel
theorem dX11_item_5 : decode cX11_item 5 = .ok (.astore 4, 2) := by decide +kernel
theorem dX11_item_7 : decode cX11_item 7 = .ok (.aload_n 0, 1) := by decide +kernel
theorem dX11_item_8 : decode cX11_item 8 = .ok (.aload 4, 2) := by decide +kernel
theorem dX11_item_10 : decode cX11_item 10 = .ok (.iload_n 2, 1) := by decide +kernel
theorem dX11_item_11 : decode cX11_item 11 = .ok (.invokevirtual 207, 3) := by decide +kernel
theorem dX11_item_14 : decode cX11_item 14 = .ok (.astore 5, 2) := by decide +kernel
theorem dX11_item_16 : decode cX11_item 16 = .ok (.aload_n 0, 1) := by decide +kernel
theorem dX11_item_17 : decode cX11_item 17 = .ok (.aload 5, 2) := by decide +kernel
theorem dX11_item_19 : decode cX11_item 19 = .ok (.iload_n 3, 1) := by decide +kernel
set_option maxRecDepth 100000 in
theorem q1552 : Cond.code yX11_checkItem cX11_checkItem 3 none ∈ GT := gt 1552 (rfl) (by decide +kernel)
theorem M_X11_checkItem : MY yX11_checkItem cX11_checkItem 3 none 2 := ⟨q1552, q53, by decide +kernel, by decide +kernel⟩
set_option maxRecDepth 100000 in
theorem q1551 : Cond.instanceMethod yX11_checkItem ∈ GT := gt 1551 (by decide +kernel) (by decide +kernel)
set_option maxRecDepth 100000 in
theorem q50 : Cond.selects RX11 yX11_checkItem yX11_checkItem ∈ GT := gt 50 (by decide +kernel) (by decide +kernel)
set_option maxRecDepth 100000 in
theorem q1549 : Cond.methodLink RX11 332 yX11_checkItem ∈ GT := gt 1549 (by decide +kernel) (by decide +kernel)
theorem dX11_item_20 : decode cX11_item 20 = .ok (.invokevirtual 332, 3) := by decide +kernel
theorem dX11_item_23 : decode cX11_item 23 = .ok (.aload 4, 2) := by decide +kernel
theorem dX11_item_25 : decode cX11_item 25 = .ok (.aload 5, 2) := by decide +kernel
theorem dX11_item_27 : decode cX11_item 27 = .ok (.getfield 225, 3) := by decide +kernel
theorem dX11_item_30 : decode cX11_item 30 = .ok (.iload_n 3, 1) := by decide +kernel
set_option maxRecDepth 100000 in
theorem q1557 : Cond.code yX3_tell cX3_tell 8 (some FieldType.int) ∈ GT := gt 1557 (rfl) (by decide +kernel)
theorem M_X3_tell : MY yX3_tell cX3_tell 8 (some FieldType.int) 2 := ⟨q1557, q60, by decide +kernel, by decide +kernel⟩
set_option maxRecDepth 100000 in
theorem q1555 : Cond.instanceMethod yX3_tell ∈ GT := gt 1555 (by decide +kernel) (by decide +kernel)
set_option maxRecDepth 100000 in
theorem q1556 : Cond.selects RX3 yX3_tell yX3_tell ∈ GT := gt 1556 (by decide +kernel) (by decide +kernel)
set_option maxRecDepth 100000 in
theorem q1554 : Cond.methodLink RX11 336 yX3_tell ∈ GT := gt 1554 (by decide +kernel) (by decide +kernel)
theorem dX11_item_31 : decode cX11_item 31 = .ok (.invokevirtual 336, 3) := by decide +kernel
theorem dX11_item_34 : decode cX11_item 34 = .ok (.ireturn, 1) := by decide +kernel
set_option maxHeartbeats 4000000 in
set_option maxRecDepth 100000 in
theorem w_X11_item_0 {p : Program} {l : Launch} {e : Env} {R : Room} {s : State} {m : MethodId} {args : Array Value} {below : List Frame} {meth : Method} {c : Code} {G : Gt} {ρ0 : Int → Nat} {M0 : Mo} {res : RS} (F : Fx p l R s m args meth c cX11_item 6 RX11 G M0 7 (some FieldType.int)) (hno : ∀ x ∈ c.exceptionTable.toList, False) (hnm : meth.name = yX11_item.name) (x0 x1 x2 x3 : Int) (M : Mo) (h : X11_item x0 x1 x2 x3 M = some res) : J p l e R s m args below meth c 6 G ρ0 M0 1 res M 0 [(0, (false, x0)), (1, (true, x1)), (2, (true, x2)), (3, (true, x3))] [] := by
  unfold X11_item at h
  refine j_aload_n F 0 rfl rfl dX11_item_0 ?_
  refine j_iload_n F 1 rfl rfl dX11_item_1 ?_
  obtain ⟨g4, h⟩ := gua h
  refine j_callV (d' := 6) (argl := [(true, x1)]) (rk9 := 2) (st := []) F hno M_X11_editorAt q668 q6 q666 ⟨by decide, by decide⟩ (Nat.le_of_ble_eq_true rfl) (by decide) (ci := 12) rfl (by decide) g4 dX11_item_2 rfl h (fun z hz => c_X11_editorAt l F.ht G x0 x1 M z hz) (fun v1 M2 h kl3 => ?_)
  refine j_st (st' := [(false, v1)]) rfl ?_
  refine j_astore F (lv' := [(4, (false, v1)), (0, (false, x0)), (1, (true, x1)), (2, (true, x2)), (3, (true, x3))]) (by decide) rfl dX11_item_5 ?_
  refine j_aload_n F 1 rfl rfl dX11_item_7 ?_
  refine j_aload F 0 rfl dX11_item_8 ?_
  refine j_iload_n F 3 rfl rfl dX11_item_10 ?_
  refine j_callV (d' := 6) (argl := [(false, v1), (true, x2)]) (rk9 := 2) (st := []) F hno M_X11_askAt q1005 q11 q1003 ⟨by decide, by decide⟩ (Nat.le_of_ble_eq_true rfl) (by decide) (ci := 12) rfl (by decide) (kl3.is g4) dX11_item_11 rfl h (fun z hz => c_X11_askAt l F.ht G x0 v1 x2 M2 z hz) (fun v5 M6 h kl7 => ?_)
  refine j_st (st' := [(false, v5)]) rfl ?_
  refine j_astore F (lv' := [(5, (false, v5)), (4, (false, v1)), (0, (false, x0)), (1, (true, x1)), (2, (true, x2)), (3, (true, x3))]) (by decide) rfl dX11_item_14 ?_
  refine j_aload_n F 2 rfl rfl dX11_item_16 ?_
  refine j_aload F 0 rfl dX11_item_17 ?_
  refine j_iload_n F 5 rfl rfl dX11_item_19 ?_
  refine j_callV (d' := 6) (argl := [(false, v5), (true, x3)]) (rk9 := 0) (st := []) F hno M_X11_checkItem q1551 q50 q1549 ⟨by decide, by decide⟩ (Nat.le_of_ble_eq_true rfl) (by decide) (ci := 12) rfl (by decide) (kl7.is (kl3.is g4)) dX11_item_20 rfl h (fun z hz => c_X11_checkItem l F.ht G x0 v5 x3 M6 z hz) (fun v8 M9 h kl10 => ?_)
  refine j_st (st' := []) rfl ?_
  refine j_aload F 1 rfl dX11_item_23 ?_
  refine j_aload F 0 rfl dX11_item_25 ?_
  obtain ⟨g11, h⟩ := gua h
  refine j_get F ft_X11_225 rfl g11 dX11_item_27 ?_
  refine j_iload_n F 5 rfl rfl dX11_item_30 ?_
  obtain ⟨g15, h⟩ := gua h
  refine j_callV (d' := 2) (argl := [(false, (fd M9 1 4 v5)), (true, x3)]) (rk9 := 1) (st := []) F hno M_X3_tell q1555 q1556 q1554 ⟨by decide, by decide⟩ (Nat.le_of_ble_eq_true rfl) (by decide) (ci := 4) rfl (by decide) g15 dX11_item_31 rfl h (fun z hz => c_X3_tell l F.ht G v1 (fd M9 1 4 v5) x3 M9 z hz) (fun v12 M13 h kl14 => ?_)
  refine j_st (st' := [(true, v12)]) rfl ?_
  exact j_iret F h dX11_item_34
theorem c_X11_item (l : Launch) (hl : l.stackTraces = false) (G : Gt) (x0 x1 x2 x3 : Int) (M : Mo) (z : RS) (h : X11_item x0 x1 x2 x3 M = some z) : CT l G yX11_item (cn yX11_item cX11_item 6 (some FieldType.int)) 7 [(false, x0), (true, x1), (true, x2), (true, x3)] M 1 z :=
  ctOf hl (by decide) (Nat.le_of_ble_eq_true rfl) (fun p e R s m args below meth c ρ F hno hnm => w_X11_item_0 F hno hnm x0 x1 x2 x3 M h)
theorem dX11_value_0 : decode cX11_value 0 = .ok (.aload_n 0, 1) := by decide +kernel
theorem dX11_value_1 : decode cX11_value 1 = .ok (.aload_n 0, 1) := by decide +kernel
theorem dX11_value_2 : decode cX11_value 2 = .ok (.iload_n 1, 1) := by decide +kernel
theorem dX11_value_3 : decode cX11_value 3 = .ok (.invokevirtual 134, 3) := by decide +kernel
theorem dX11_value_6 : decode cX11_value 6 = .ok (.iload_n 2, 1) := by decide +kernel
theorem dX11_value_7 : decode cX11_value 7 = .ok (.invokevirtual 207, 3) := by decide +kernel
theorem dX11_value_10 : decode cX11_value 10 = .ok (.astore 4, 2) := by decide +kernel
theorem dX11_value_12 : decode cX11_value 12 = .ok (.aload_n 0, 1) := by decide +kernel
theorem dX11_value_13 : decode cX11_value 13 = .ok (.aload 4, 2) := by decide +kernel
theorem dX11_value_15 : decode cX11_value 15 = .ok (.iload_n 3, 1) := by decide +kernel
theorem dX11_value_16 : decode cX11_value 16 = .ok (.invokevirtual 332, 3) := by decide +kernel
theorem dX11_value_19 : decode cX11_value 19 = .ok (.aload 4, 2) := by decide +kernel
theorem dX11_value_21 : decode cX11_value 21 = .ok (.getfield 222, 3) := by decide +kernel
theorem dX11_value_24 : decode cX11_value 24 = .ok (.iconst 1, 1) := by decide +kernel
theorem dX11_value_25 : decode cX11_value 25 = .ok (.if_icmp .eq 12, 3) := by decide +kernel
theorem dX11_value_28 : decode cX11_value 28 = .ok (.aload 4, 2) := by decide +kernel
theorem dX11_value_30 : decode cX11_value 30 = .ok (.getfield 222, 3) := by decide +kernel
theorem dX11_value_33 : decode cX11_value 33 = .ok (.iconst 3, 1) := by decide +kernel
theorem dX11_value_34 : decode cX11_value 34 = .ok (.if_icmp .ne 15, 3) := by decide +kernel
theorem dX11_value_49 : decode cX11_value 49 = .ok (.iconst 0, 1) := by decide +kernel
theorem dX11_value_50 : decode cX11_value 50 = .ok (.ireturn, 1) := by decide +kernel
theorem dX11_value_37 : decode cX11_value 37 = .ok (.aload 4, 2) := by decide +kernel
theorem dX11_value_39 : decode cX11_value 39 = .ok (.getfield 225, 3) := by decide +kernel
theorem dX11_value_42 : decode cX11_value 42 = .ok (.iload_n 3, 1) := by decide +kernel
set_option maxRecDepth 100000 in
theorem q1562 : Cond.methodLink RX11 340 yX5_valueAt ∈ GT := gt 1562 (by decide +kernel) (by decide +kernel)
theorem dX11_value_43 : decode cX11_value 43 = .ok (.invokevirtual 340, 3) := by decide +kernel
theorem dX11_value_46 : decode cX11_value 46 = .ok (.goto 4, 3) := by decide +kernel
set_option maxHeartbeats 4000000 in
set_option maxRecDepth 100000 in
theorem w_X11_value_37 {p : Program} {l : Launch} {e : Env} {R : Room} {s : State} {m : MethodId} {args : Array Value} {below : List Frame} {meth : Method} {c : Code} {G : Gt} {ρ0 : Int → Nat} {M0 : Mo} {res : RS} (F : Fx p l R s m args meth c cX11_value 5 RX11 G M0 7 (some FieldType.int)) (hno : ∀ x ∈ c.exceptionTable.toList, False) (hnm : meth.name = yX11_value.name) (x3 x4 : Int) (M : Mo) (h : X11_value_37 x3 x4 M = some res) : J p l e R s m args below meth c 5 G ρ0 M0 1 res M 37 [(3, (true, x3)), (4, (false, x4))] [] := by
  unfold X11_value_37 at h
  refine j_aload F 1 rfl dX11_value_37 ?_
  obtain ⟨g1, h⟩ := gua h
  refine j_get F ft_X11_225 rfl g1 dX11_value_39 ?_
  refine j_iload_n F 0 rfl rfl dX11_value_42 ?_
  obtain ⟨g5, h⟩ := gua h
  refine j_callV (d' := 1) (argl := [(true, x3)]) (rk9 := 1) (st := []) F hno M_X5_valueAt q1286 q1287 q1562 ⟨by decide, by decide⟩ (Nat.le_of_ble_eq_true rfl) (by decide) (ci := 6) rfl (by decide) g5 dX11_value_43 rfl h (fun z hz => c_X5_valueAt l F.ht G (fd M 1 4 x4) x3 M z hz) (fun v2 M3 h kl4 => ?_)
  refine j_st (st' := [(true, v2)]) rfl ?_
  refine j_goto F 50 (by decide) dX11_value_46 ?_
  exact j_iret F h dX11_value_50
set_option maxHeartbeats 4000000 in
set_option maxRecDepth 100000 in
theorem w_X11_value_0 {p : Program} {l : Launch} {e : Env} {R : Room} {s : State} {m : MethodId} {args : Array Value} {below : List Frame} {meth : Method} {c : Code} {G : Gt} {ρ0 : Int → Nat} {M0 : Mo} {res : RS} (F : Fx p l R s m args meth c cX11_value 5 RX11 G M0 7 (some FieldType.int)) (hno : ∀ x ∈ c.exceptionTable.toList, False) (hnm : meth.name = yX11_value.name) (x0 x1 x2 x3 : Int) (M : Mo) (h : X11_value x0 x1 x2 x3 M = some res) : J p l e R s m args below meth c 5 G ρ0 M0 1 res M 0 [(0, (false, x0)), (1, (true, x1)), (2, (true, x2)), (3, (true, x3))] [] := by
  unfold X11_value at h
  refine j_aload_n F 0 rfl rfl dX11_value_0 ?_
  refine j_aload_n F 0 rfl rfl dX11_value_1 ?_
  refine j_iload_n F 1 rfl rfl dX11_value_2 ?_
  obtain ⟨g4, h⟩ := gua h
  refine j_callV (d' := 6) (argl := [(true, x1)]) (rk9 := 2) (st := [(false, x0)]) F hno M_X11_editorAt q668 q6 q666 ⟨by decide, by decide⟩ (Nat.le_of_ble_eq_true rfl) (by decide) (ci := 12) rfl (by decide) g4 dX11_value_3 rfl h (fun z hz => c_X11_editorAt l F.ht G x0 x1 M z hz) (fun v1 M2 h kl3 => ?_)
  refine j_st (st' := [(false, v1), (false, x0)]) rfl ?_
  refine j_iload_n F 2 rfl rfl dX11_value_6 ?_
  refine j_callV (d' := 6) (argl := [(false, v1), (true, x2)]) (rk9 := 2) (st := []) F hno M_X11_askAt q1005 q11 q1003 ⟨by decide, by decide⟩ (Nat.le_of_ble_eq_true rfl) (by decide) (ci := 12) rfl (by decide) (kl3.is g4) dX11_value_7 rfl h (fun z hz => c_X11_askAt l F.ht G x0 v1 x2 M2 z hz) (fun v5 M6 h kl7 => ?_)
  refine j_st (st' := [(false, v5)]) rfl ?_
  refine j_astore F (lv' := [(4, (false, v5)), (0, (false, x0)), (1, (true, x1)), (2, (true, x2)), (3, (true, x3))]) (by decide) rfl dX11_value_10 ?_
  refine j_aload_n F 1 rfl rfl dX11_value_12 ?_
  refine j_aload F 0 rfl dX11_value_13 ?_
  refine j_iload_n F 4 rfl rfl dX11_value_15 ?_
  refine j_callV (d' := 6) (argl := [(false, v5), (true, x3)]) (rk9 := 0) (st := []) F hno M_X11_checkItem q1551 q50 q1549 ⟨by decide, by decide⟩ (Nat.le_of_ble_eq_true rfl) (by decide) (ci := 12) rfl (by decide) (kl7.is (kl3.is g4)) dX11_value_16 rfl h (fun z hz => c_X11_checkItem l F.ht G x0 v5 x3 M6 z hz) (fun v8 M9 h kl10 => ?_)
  refine j_st (st' := []) rfl ?_
  refine j_aload F 0 rfl dX11_value_19 ?_
  obtain ⟨g11, h⟩ := gua h
  refine j_get F ft_X11_222 rfl g11 dX11_value_21 ?_
  refine j_iconst F dX11_value_24 ?_
  refine j_icmp_eq F 37 (by decide) dX11_value_25 h (fun h => ?_) (fun h => ?_)
  · skip
    refine j_sub (lv' := [(3, (true, x3)), (4, (false, v5))]) [4, 0] rfl ?_
    exact w_X11_value_37 F hno hnm x3 v5 M9 h
  · skip
    refine j_aload F 0 rfl dX11_value_28 ?_
    refine j_get F ft_X11_222 rfl g11 dX11_value_30 ?_
    refine j_iconst F dX11_value_33 ?_
    refine j_icmp_ne F 49 (by decide) dX11_value_34 h (fun h => ?_) (fun h => ?_)
    · skip
      refine j_iconst F dX11_value_49 ?_
      exact j_iret F h dX11_value_50
    · skip
      refine j_sub (lv' := [(3, (true, x3)), (4, (false, v5))]) [4, 0] rfl ?_
      exact w_X11_value_37 F hno hnm x3 v5 M9 h
theorem c_X11_value (l : Launch) (hl : l.stackTraces = false) (G : Gt) (x0 x1 x2 x3 : Int) (M : Mo) (z : RS) (h : X11_value x0 x1 x2 x3 M = some z) : CT l G yX11_value (cn yX11_value cX11_value 5 (some FieldType.int)) 7 [(false, x0), (true, x1), (true, x2), (true, x3)] M 1 z :=
  ctOf hl (by decide) (Nat.le_of_ble_eq_true rfl) (fun p e R s m args below meth c ρ F hno hnm => w_X11_value_0 F hno hnm x0 x1 x2 x3 M h)
theorem dX11_token_0 : decode cX11_token 0 = .ok (.aload_n 0, 1) := by decide +kernel
theorem dX11_token_1 : decode cX11_token 1 = .ok (.iload_n 1, 1) := by decide +kernel
theorem dX11_token_2 : decode cX11_token 2 = .ok (.invokevirtual 134, 3) := by decide +kernel
theorem dX11_token_5 : decode cX11_token 5 = .ok (.astore 4, 2) := by decide +kernel
theorem dX11_token_7 : decode cX11_token 7 = .ok (.aload_n 0, 1) := by decide +kernel
theorem dX11_token_8 : decode cX11_token 8 = .ok (.aload 4, 2) := by decide +kernel
theorem dX11_token_10 : decode cX11_token 10 = .ok (.iload_n 2, 1) := by decide +kernel
theorem dX11_token_11 : decode cX11_token 11 = .ok (.invokevirtual 207, 3) := by decide +kernel
theorem dX11_token_14 : decode cX11_token 14 = .ok (.astore 5, 2) := by decide +kernel
theorem dX11_token_16 : decode cX11_token 16 = .ok (.aload 5, 2) := by decide +kernel
theorem dX11_token_18 : decode cX11_token 18 = .ok (.getfield 222, 3) := by decide +kernel
theorem dX11_token_21 : decode cX11_token 21 = .ok (.iconst 3, 1) := by decide +kernel
theorem dX11_token_22 : decode cX11_token 22 = .ok (.if_icmp .ne 30, 3) := by decide +kernel
theorem dX11_token_52 : decode cX11_token 52 = .ok (.new 254, 3) := by decide +kernel
theorem dX11_token_55 : decode cX11_token 55 = .ok (.dup, 1) := by decide +kernel
theorem dX11_token_56 : decode cX11_token 56 = .ok (.ldc_w 343, 3) := by decide +kernel
theorem dX11_token_59 : decode cX11_token 59 = .ok (.invokespecial 258, 3) := by decide +kernel
theorem dX11_token_62 : decode cX11_token 62 = .ok (.athrow, 1) := by decide +kernel
theorem dX11_token_25 : decode cX11_token 25 = .ok (.aload 5, 2) := by decide +kernel
theorem dX11_token_27 : decode cX11_token 27 = .ok (.getfield 211, 3) := by decide +kernel
theorem dX11_token_30 : decode cX11_token 30 = .ok (.iconst 1, 1) := by decide +kernel
theorem dX11_token_31 : decode cX11_token 31 = .ok (.if_icmp .ne 21, 3) := by decide +kernel
theorem dX11_token_34 : decode cX11_token 34 = .ok (.iload_n 3, 1) := by decide +kernel
theorem dX11_token_35 : decode cX11_token 35 = .ok (.ifCond .lt 17, 3) := by decide +kernel
theorem dX11_token_38 : decode cX11_token 38 = .ok (.iload_n 3, 1) := by decide +kernel
theorem dX11_token_39 : decode cX11_token 39 = .ok (.iconst 4, 1) := by decide +kernel
theorem dX11_token_40 : decode cX11_token 40 = .ok (.aload 5, 2) := by decide +kernel
theorem dX11_token_42 : decode cX11_token 42 = .ok (.getfield 225, 3) := by decide +kernel
theorem dX11_token_45 : decode cX11_token 45 = .ok (.invokevirtual 229, 3) := by decide +kernel
theorem dX11_token_48 : decode cX11_token 48 = .ok (.imul, 1) := by decide +kernel
theorem dX11_token_49 : decode cX11_token 49 = .ok (.if_icmp .lt 14, 3) := by decide +kernel
theorem dX11_token_63 : decode cX11_token 63 = .ok (.aload 4, 2) := by decide +kernel
theorem dX11_token_65 : decode cX11_token 65 = .ok (.aload 5, 2) := by decide +kernel
theorem dX11_token_67 : decode cX11_token 67 = .ok (.iload_n 3, 1) := by decide +kernel
set_option maxRecDepth 100000 in
theorem q1571 : Cond.code yX3_tokenNumber cX3_tokenNumber 8 (some FieldType.int) ∈ GT := gt 1571 (rfl) (by decide +kernel)
theorem M_X3_tokenNumber : MY yX3_tokenNumber cX3_tokenNumber 8 (some FieldType.int) 2 := ⟨q1571, q60, by decide +kernel, by decide +kernel⟩
set_option maxRecDepth 100000 in
theorem q1569 : Cond.instanceMethod yX3_tokenNumber ∈ GT := gt 1569 (by decide +kernel) (by decide +kernel)
set_option maxRecDepth 100000 in
theorem q1570 : Cond.selects RX3 yX3_tokenNumber yX3_tokenNumber ∈ GT := gt 1570 (by decide +kernel) (by decide +kernel)
set_option maxRecDepth 100000 in
theorem q1568 : Cond.methodLink RX11 345 yX3_tokenNumber ∈ GT := gt 1568 (by decide +kernel) (by decide +kernel)
theorem dX11_token_68 : decode cX11_token 68 = .ok (.invokevirtual 345, 3) := by decide +kernel
theorem dX11_token_71 : decode cX11_token 71 = .ok (.ireturn, 1) := by decide +kernel
set_option maxHeartbeats 4000000 in
set_option maxRecDepth 100000 in
theorem w_X11_token_0 {p : Program} {l : Launch} {e : Env} {R : Room} {s : State} {m : MethodId} {args : Array Value} {below : List Frame} {meth : Method} {c : Code} {G : Gt} {ρ0 : Int → Nat} {M0 : Mo} {res : RS} (F : Fx p l R s m args meth c cX11_token 6 RX11 G M0 7 (some FieldType.int)) (hno : ∀ x ∈ c.exceptionTable.toList, False) (hnm : meth.name = yX11_token.name) (x0 x1 x2 x3 : Int) (M : Mo) (h : X11_token x0 x1 x2 x3 M = some res) : J p l e R s m args below meth c 6 G ρ0 M0 1 res M 0 [(0, (false, x0)), (1, (true, x1)), (2, (true, x2)), (3, (true, x3))] [] := by
  unfold X11_token at h
  refine j_aload_n F 0 rfl rfl dX11_token_0 ?_
  refine j_iload_n F 1 rfl rfl dX11_token_1 ?_
  obtain ⟨g4, h⟩ := gua h
  refine j_callV (d' := 6) (argl := [(true, x1)]) (rk9 := 2) (st := []) F hno M_X11_editorAt q668 q6 q666 ⟨by decide, by decide⟩ (Nat.le_of_ble_eq_true rfl) (by decide) (ci := 12) rfl (by decide) g4 dX11_token_2 rfl h (fun z hz => c_X11_editorAt l F.ht G x0 x1 M z hz) (fun v1 M2 h kl3 => ?_)
  refine j_st (st' := [(false, v1)]) rfl ?_
  refine j_astore F (lv' := [(4, (false, v1)), (0, (false, x0)), (1, (true, x1)), (2, (true, x2)), (3, (true, x3))]) (by decide) rfl dX11_token_5 ?_
  refine j_aload_n F 1 rfl rfl dX11_token_7 ?_
  refine j_aload F 0 rfl dX11_token_8 ?_
  refine j_iload_n F 3 rfl rfl dX11_token_10 ?_
  refine j_callV (d' := 6) (argl := [(false, v1), (true, x2)]) (rk9 := 2) (st := []) F hno M_X11_askAt q1005 q11 q1003 ⟨by decide, by decide⟩ (Nat.le_of_ble_eq_true rfl) (by decide) (ci := 12) rfl (by decide) (kl3.is g4) dX11_token_11 rfl h (fun z hz => c_X11_askAt l F.ht G x0 v1 x2 M2 z hz) (fun v5 M6 h kl7 => ?_)
  refine j_st (st' := [(false, v5)]) rfl ?_
  refine j_astore F (lv' := [(5, (false, v5)), (4, (false, v1)), (0, (false, x0)), (1, (true, x1)), (2, (true, x2)), (3, (true, x3))]) (by decide) rfl dX11_token_14 ?_
  refine j_aload F 0 rfl dX11_token_16 ?_
  obtain ⟨g8, h⟩ := gua h
  refine j_get F ft_X11_222 rfl g8 dX11_token_18 ?_
  refine j_iconst F dX11_token_21 ?_
  refine j_icmp_ne F 52 (by decide) dX11_token_22 h (fun h => ?_) (fun h => ?_)
  · skip
    obtain ⟨g9, h⟩ := gua h
    exact j_throwW F hno (ex := 1) (text := "no such number of tokens") rfl (by decide +kernel) q586 q70 (by decide +kernel) at_X11_258 (by decide +kernel) (by decide) (Nat.le_of_ble_eq_true rfl) rfl (by decide) g9 h dX11_token_52 dX11_token_55 dX11_token_56 dX11_token_59 dX11_token_62
  · skip
    refine j_aload F 0 rfl dX11_token_25 ?_
    refine j_get F ft_X11_211 rfl g8 dX11_token_27 ?_
    refine j_iconst F dX11_token_30 ?_
    refine j_icmp_ne F 52 (by decide) dX11_token_31 h (fun h => ?_) (fun h => ?_)
    · skip
      obtain ⟨g10, h⟩ := gua h
      exact j_throwW F hno (ex := 1) (text := "no such number of tokens") rfl (by decide +kernel) q586 q70 (by decide +kernel) at_X11_258 (by decide +kernel) (by decide) (Nat.le_of_ble_eq_true rfl) rfl (by decide) g10 h dX11_token_52 dX11_token_55 dX11_token_56 dX11_token_59 dX11_token_62
    · skip
      refine j_iload_n F 5 rfl rfl dX11_token_34 ?_
      refine j_if_lt F 52 (by decide) dX11_token_35 h (fun h => ?_) (fun h => ?_)
      · skip
        obtain ⟨g11, h⟩ := gua h
        exact j_throwW F hno (ex := 1) (text := "no such number of tokens") rfl (by decide +kernel) q586 q70 (by decide +kernel) at_X11_258 (by decide +kernel) (by decide) (Nat.le_of_ble_eq_true rfl) rfl (by decide) g11 h dX11_token_52 dX11_token_55 dX11_token_56 dX11_token_59 dX11_token_62
      · skip
        refine j_iload_n F 5 rfl rfl dX11_token_38 ?_
        refine j_iconst F dX11_token_39 ?_
        refine j_aload F 0 rfl dX11_token_40 ?_
        refine j_get F ft_X11_225 rfl g8 dX11_token_42 ?_
        obtain ⟨g15, h⟩ := gua h
        refine j_callV (d' := 0) (argl := []) (rk9 := 1) (st := [(true, 4), (true, x3)]) F hno M_X5_size q1022 q1023 q1021 ⟨by decide, by decide⟩ (Nat.le_of_ble_eq_true rfl) (by decide) (ci := 6) rfl (by decide) g15 dX11_token_45 rfl h (fun z hz => c_X5_size l F.ht G (fd M6 1 4 v5) M6 z hz) (fun v12 M13 h kl14 => ?_)
        refine j_st (st' := [(true, v12), (true, 4), (true, x3)]) rfl ?_
        refine j_imul F dX11_token_48 ?_
        refine j_icmp_lt F 63 (by decide) dX11_token_49 h (fun h => ?_) (fun h => ?_)
        · skip
          refine j_aload F 1 rfl dX11_token_63 ?_
          refine j_aload F 0 rfl dX11_token_65 ?_
          refine j_iload_n F 5 rfl rfl dX11_token_67 ?_
          obtain ⟨g19, h⟩ := gua h
          refine j_callV (d' := 2) (argl := [(false, v5), (true, x3)]) (rk9 := 1) (st := []) F hno M_X3_tokenNumber q1569 q1570 q1568 ⟨by decide, by decide⟩ (Nat.le_of_ble_eq_true rfl) (by decide) (ci := 4) rfl (by decide) g19 dX11_token_68 rfl h (fun z hz => c_X3_tokenNumber l F.ht G v1 v5 x3 M13 z hz) (fun v16 M17 h kl18 => ?_)
          refine j_st (st' := [(true, v16)]) rfl ?_
          exact j_iret F h dX11_token_71
        · skip
          obtain ⟨g20, h⟩ := gua h
          exact j_throwW F hno (ex := 1) (text := "no such number of tokens") rfl (by decide +kernel) q586 q70 (by decide +kernel) at_X11_258 (by decide +kernel) (by decide) (Nat.le_of_ble_eq_true rfl) rfl (by decide) g20 h dX11_token_52 dX11_token_55 dX11_token_56 dX11_token_59 dX11_token_62
theorem c_X11_token (l : Launch) (hl : l.stackTraces = false) (G : Gt) (x0 x1 x2 x3 : Int) (M : Mo) (z : RS) (h : X11_token x0 x1 x2 x3 M = some z) : CT l G yX11_token (cn yX11_token cX11_token 6 (some FieldType.int)) 7 [(false, x0), (true, x1), (true, x2), (true, x3)] M 1 z :=
  ctOf hl (by decide) (Nat.le_of_ble_eq_true rfl) (fun p e R s m args below meth c ρ F hno hnm => w_X11_token_0 F hno hnm x0 x1 x2 x3 M h)
theorem dX11_id_0 : decode cX11_id 0 = .ok (.aload_n 0, 1) := by decide +kernel
theorem dX11_id_1 : decode cX11_id 1 = .ok (.iload_n 1, 1) := by decide +kernel
theorem dX11_id_2 : decode cX11_id 2 = .ok (.invokevirtual 134, 3) := by decide +kernel
theorem dX11_id_5 : decode cX11_id 5 = .ok (.astore 4, 2) := by decide +kernel
theorem dX11_id_7 : decode cX11_id 7 = .ok (.aload_n 0, 1) := by decide +kernel
theorem dX11_id_8 : decode cX11_id 8 = .ok (.aload 4, 2) := by decide +kernel
theorem dX11_id_10 : decode cX11_id 10 = .ok (.iload_n 2, 1) := by decide +kernel
theorem dX11_id_11 : decode cX11_id 11 = .ok (.invokevirtual 207, 3) := by decide +kernel
theorem dX11_id_14 : decode cX11_id 14 = .ok (.pop, 1) := by decide +kernel
theorem dX11_id_15 : decode cX11_id 15 = .ok (.aload_n 0, 1) := by decide +kernel
theorem dX11_id_16 : decode cX11_id 16 = .ok (.iload_n 3, 1) := by decide +kernel
theorem dX11_id_17 : decode cX11_id 17 = .ok (.invokevirtual 247, 3) := by decide +kernel
theorem dX11_id_20 : decode cX11_id 20 = .ok (.pop, 1) := by decide +kernel
theorem dX11_id_21 : decode cX11_id 21 = .ok (.aload_n 0, 1) := by decide +kernel
theorem dX11_id_22 : decode cX11_id 22 = .ok (.getfield 35, 3) := by decide +kernel
theorem dX11_id_25 : decode cX11_id 25 = .ok (.iload_n 1, 1) := by decide +kernel
theorem dX11_id_26 : decode cX11_id 26 = .ok (.iload_n 2, 1) := by decide +kernel
theorem dX11_id_27 : decode cX11_id 27 = .ok (.iload_n 3, 1) := by decide +kernel
set_option maxRecDepth 100000 in
theorem q1577 : Cond.methodLink RX11 349 yX7_idOf ∈ GT := gt 1577 (by decide +kernel) (by decide +kernel)
theorem dX11_id_28 : decode cX11_id 28 = .ok (.invokevirtual 349, 3) := by decide +kernel
theorem dX11_id_31 : decode cX11_id 31 = .ok (.ireturn, 1) := by decide +kernel
set_option maxHeartbeats 4000000 in
set_option maxRecDepth 100000 in
theorem w_X11_id_0 {p : Program} {l : Launch} {e : Env} {R : Room} {s : State} {m : MethodId} {args : Array Value} {below : List Frame} {meth : Method} {c : Code} {G : Gt} {ρ0 : Int → Nat} {M0 : Mo} {res : RS} (F : Fx p l R s m args meth c cX11_id 5 RX11 G M0 7 (some FieldType.int)) (hno : ∀ x ∈ c.exceptionTable.toList, False) (hnm : meth.name = yX11_id.name) (x0 x1 x2 x3 : Int) (M : Mo) (h : X11_id x0 x1 x2 x3 M = some res) : J p l e R s m args below meth c 5 G ρ0 M0 1 res M 0 [(0, (false, x0)), (1, (true, x1)), (2, (true, x2)), (3, (true, x3))] [] := by
  unfold X11_id at h
  refine j_aload_n F 0 rfl rfl dX11_id_0 ?_
  refine j_iload_n F 1 rfl rfl dX11_id_1 ?_
  obtain ⟨g4, h⟩ := gua h
  refine j_callV (d' := 6) (argl := [(true, x1)]) (rk9 := 2) (st := []) F hno M_X11_editorAt q668 q6 q666 ⟨by decide, by decide⟩ (Nat.le_of_ble_eq_true rfl) (by decide) (ci := 12) rfl (by decide) g4 dX11_id_2 rfl h (fun z hz => c_X11_editorAt l F.ht G x0 x1 M z hz) (fun v1 M2 h kl3 => ?_)
  refine j_st (st' := [(false, v1)]) rfl ?_
  refine j_astore F (lv' := [(4, (false, v1)), (0, (false, x0)), (1, (true, x1)), (2, (true, x2)), (3, (true, x3))]) (by decide) rfl dX11_id_5 ?_
  refine j_aload_n F 1 rfl rfl dX11_id_7 ?_
  refine j_aload F 0 rfl dX11_id_8 ?_
  refine j_iload_n F 3 rfl rfl dX11_id_10 ?_
  refine j_callV (d' := 6) (argl := [(false, v1), (true, x2)]) (rk9 := 2) (st := []) F hno M_X11_askAt q1005 q11 q1003 ⟨by decide, by decide⟩ (Nat.le_of_ble_eq_true rfl) (by decide) (ci := 12) rfl (by decide) (kl3.is g4) dX11_id_11 rfl h (fun z hz => c_X11_askAt l F.ht G x0 v1 x2 M2 z hz) (fun v5 M6 h kl7 => ?_)
  refine j_st (st' := [(false, v5)]) rfl ?_
  refine j_pop F dX11_id_14 ?_
  refine j_aload_n F 1 rfl rfl dX11_id_15 ?_
  refine j_iload_n F 4 rfl rfl dX11_id_16 ?_
  refine j_callV (d' := 6) (argl := [(true, x3)]) (rk9 := 2) (st := []) F hno M_X11_serverAt q1084 q13 q1082 ⟨by decide, by decide⟩ (Nat.le_of_ble_eq_true rfl) (by decide) (ci := 12) rfl (by decide) (kl7.is (kl3.is g4)) dX11_id_17 rfl h (fun z hz => c_X11_serverAt l F.ht G x0 x3 M6 z hz) (fun v8 M9 h kl10 => ?_)
  refine j_st (st' := [(false, v8)]) rfl ?_
  refine j_pop F dX11_id_20 ?_
  refine j_aload_n F 1 rfl rfl dX11_id_21 ?_
  refine j_get F ft_X11_35 rfl (kl10.is (kl7.is (kl3.is g4))) dX11_id_22 ?_
  refine j_iload_n F 2 rfl rfl dX11_id_25 ?_
  refine j_iload_n F 3 rfl rfl dX11_id_26 ?_
  refine j_iload_n F 4 rfl rfl dX11_id_27 ?_
  obtain ⟨g14, h⟩ := gua h
  refine j_callV (d' := 1) (argl := [(true, x1), (true, x2), (true, x3)]) (rk9 := 1) (st := []) F hno M_X7_idOf q1402 q1403 q1577 ⟨by decide, by decide⟩ (Nat.le_of_ble_eq_true rfl) (by decide) (ci := 8) rfl (by decide) g14 dX11_id_28 rfl h (fun z hz => c_X7_idOf l F.ht G (fd M9 12 4 x0) x1 x2 x3 M9 z hz) (fun v11 M12 h kl13 => ?_)
  refine j_st (st' := [(true, v11)]) rfl ?_
  exact j_iret F h dX11_id_31
theorem c_X11_id (l : Launch) (hl : l.stackTraces = false) (G : Gt) (x0 x1 x2 x3 : Int) (M : Mo) (z : RS) (h : X11_id x0 x1 x2 x3 M = some z) : CT l G yX11_id (cn yX11_id cX11_id 5 (some FieldType.int)) 7 [(false, x0), (true, x1), (true, x2), (true, x3)] M 1 z :=
  ctOf hl (by decide) (Nat.le_of_ble_eq_true rfl) (fun p e R s m args below meth c ρ F hno hnm => w_X11_id_0 F hno hnm x0 x1 x2 x3 M h)
theorem dX11_faults_0 : decode cX11_faults 0 = .ok (.aload_n 0, 1) := by decide +kernel
theorem dX11_faults_1 : decode cX11_faults 1 = .ok (.iload_n 1, 1) := by decide +kernel
theorem dX11_faults_2 : decode cX11_faults 2 = .ok (.invokevirtual 134, 3) := by decide +kernel
theorem dX11_faults_5 : decode cX11_faults 5 = .ok (.astore_n 3, 1) := by decide +kernel
theorem dX11_faults_6 : decode cX11_faults 6 = .ok (.aload_n 0, 1) := by decide +kernel
theorem dX11_faults_7 : decode cX11_faults 7 = .ok (.iload_n 2, 1) := by decide +kernel
theorem dX11_faults_8 : decode cX11_faults 8 = .ok (.invokevirtual 83, 3) := by decide +kernel
theorem dX11_faults_11 : decode cX11_faults 11 = .ok (.aload_n 3, 1) := by decide +kernel
theorem dX11_faults_12 : decode cX11_faults 12 = .ok (.iload_n 2, 1) := by decide +kernel
set_option maxRecDepth 100000 in
theorem q1582 : Cond.methodLink RX11 353 yX3_faultsOf ∈ GT := gt 1582 (by decide +kernel) (by decide +kernel)
theorem dX11_faults_13 : decode cX11_faults 13 = .ok (.invokevirtual 353, 3) := by decide +kernel
theorem dX11_faults_16 : decode cX11_faults 16 = .ok (.invokevirtual 229, 3) := by decide +kernel
theorem dX11_faults_19 : decode cX11_faults 19 = .ok (.ireturn, 1) := by decide +kernel
set_option maxHeartbeats 4000000 in
set_option maxRecDepth 100000 in
theorem w_X11_faults_0 {p : Program} {l : Launch} {e : Env} {R : Room} {s : State} {m : MethodId} {args : Array Value} {below : List Frame} {meth : Method} {c : Code} {G : Gt} {ρ0 : Int → Nat} {M0 : Mo} {res : RS} (F : Fx p l R s m args meth c cX11_faults 4 RX11 G M0 7 (some FieldType.int)) (hno : ∀ x ∈ c.exceptionTable.toList, False) (hnm : meth.name = yX11_faults.name) (x0 x1 x2 : Int) (M : Mo) (h : X11_faults x0 x1 x2 M = some res) : J p l e R s m args below meth c 4 G ρ0 M0 1 res M 0 [(0, (false, x0)), (1, (true, x1)), (2, (true, x2))] [] := by
  unfold X11_faults at h
  refine j_aload_n F 0 rfl rfl dX11_faults_0 ?_
  refine j_iload_n F 1 rfl rfl dX11_faults_1 ?_
  obtain ⟨g4, h⟩ := gua h
  refine j_callV (d' := 6) (argl := [(true, x1)]) (rk9 := 2) (st := []) F hno M_X11_editorAt q668 q6 q666 ⟨by decide, by decide⟩ (Nat.le_of_ble_eq_true rfl) (by decide) (ci := 12) rfl (by decide) g4 dX11_faults_2 rfl h (fun z hz => c_X11_editorAt l F.ht G x0 x1 M z hz) (fun v1 M2 h kl3 => ?_)
  refine j_st (st' := [(false, v1)]) rfl ?_
  refine j_astore_n F (lv' := [(3, (false, v1)), (0, (false, x0)), (1, (true, x1)), (2, (true, x2))]) rfl (by decide) rfl dX11_faults_5 ?_
  refine j_aload_n F 1 rfl rfl dX11_faults_6 ?_
  refine j_iload_n F 3 rfl rfl dX11_faults_7 ?_
  refine j_callV (d' := 6) (argl := [(true, x2)]) (rk9 := 0) (st := []) F hno M_X11_checkFile q583 q4 q581 ⟨by decide, by decide⟩ (Nat.le_of_ble_eq_true rfl) (by decide) (ci := 12) rfl (by decide) (kl3.is g4) dX11_faults_8 rfl h (fun z hz => c_X11_checkFile l F.ht G x0 x2 M2 z hz) (fun v5 M6 h kl7 => ?_)
  refine j_st (st' := []) rfl ?_
  refine j_aload_n F 0 rfl rfl dX11_faults_11 ?_
  refine j_iload_n F 3 rfl rfl dX11_faults_12 ?_
  obtain ⟨g11, h⟩ := gua h
  refine j_callV (d' := 0) (argl := [(true, x2)]) (rk9 := 2) (st := []) F hno M_X3_faultsOf q847 q848 q1582 ⟨by decide, by decide⟩ (Nat.le_of_ble_eq_true rfl) (by decide) (ci := 4) rfl (by decide) g11 dX11_faults_13 rfl h (fun z hz => c_X3_faultsOf l F.ht G v1 x2 M6 z hz) (fun v8 M9 h kl10 => ?_)
  refine j_st (st' := [(false, v8)]) rfl ?_
  obtain ⟨g15, h⟩ := gua h
  refine j_callV (d' := 0) (argl := []) (rk9 := 1) (st := []) F hno M_X5_size q1022 q1023 q1021 ⟨by decide, by decide⟩ (Nat.le_of_ble_eq_true rfl) (by decide) (ci := 6) rfl (by decide) g15 dX11_faults_16 rfl h (fun z hz => c_X5_size l F.ht G v8 M9 z hz) (fun v12 M13 h kl14 => ?_)
  refine j_st (st' := [(true, v12)]) rfl ?_
  exact j_iret F h dX11_faults_19
theorem c_X11_faults (l : Launch) (hl : l.stackTraces = false) (G : Gt) (x0 x1 x2 : Int) (M : Mo) (z : RS) (h : X11_faults x0 x1 x2 M = some z) : CT l G yX11_faults (cn yX11_faults cX11_faults 4 (some FieldType.int)) 7 [(false, x0), (true, x1), (true, x2)] M 1 z :=
  ctOf hl (by decide) (Nat.le_of_ble_eq_true rfl) (fun p e R s m args below meth c ρ F hno hnm => w_X11_faults_0 F hno hnm x0 x1 x2 M h)
theorem dX11_fault_0 : decode cX11_fault 0 = .ok (.aload_n 0, 1) := by decide +kernel
theorem dX11_fault_1 : decode cX11_fault 1 = .ok (.iload_n 1, 1) := by decide +kernel
theorem dX11_fault_2 : decode cX11_fault 2 = .ok (.invokevirtual 134, 3) := by decide +kernel
theorem dX11_fault_5 : decode cX11_fault 5 = .ok (.astore 4, 2) := by decide +kernel
theorem dX11_fault_7 : decode cX11_fault 7 = .ok (.aload_n 0, 1) := by decide +kernel
theorem dX11_fault_8 : decode cX11_fault 8 = .ok (.iload_n 2, 1) := by decide +kernel
theorem dX11_fault_9 : decode cX11_fault 9 = .ok (.invokevirtual 83, 3) := by decide +kernel
theorem dX11_fault_12 : decode cX11_fault 12 = .ok (.aload 4, 2) := by decide +kernel
theorem dX11_fault_14 : decode cX11_fault 14 = .ok (.iload_n 2, 1) := by decide +kernel
theorem dX11_fault_15 : decode cX11_fault 15 = .ok (.invokevirtual 353, 3) := by decide +kernel
theorem dX11_fault_18 : decode cX11_fault 18 = .ok (.astore 5, 2) := by decide +kernel
theorem dX11_fault_20 : decode cX11_fault 20 = .ok (.iload_n 3, 1) := by decide +kernel
theorem dX11_fault_21 : decode cX11_fault 21 = .ok (.ifCond .lt 12, 3) := by decide +kernel
theorem dX11_fault_33 : decode cX11_fault 33 = .ok (.new 254, 3) := by decide +kernel
theorem dX11_fault_36 : decode cX11_fault 36 = .ok (.dup, 1) := by decide +kernel
theorem dX11_fault_37 : decode cX11_fault 37 = .ok (.ldc_w 356, 3) := by decide +kernel
theorem dX11_fault_40 : decode cX11_fault 40 = .ok (.invokespecial 258, 3) := by decide +kernel
theorem dX11_fault_43 : decode cX11_fault 43 = .ok (.athrow, 1) := by decide +kernel
theorem dX11_fault_24 : decode cX11_fault 24 = .ok (.iload_n 3, 1) := by decide +kernel
theorem dX11_fault_25 : decode cX11_fault 25 = .ok (.aload 5, 2) := by decide +kernel
theorem dX11_fault_27 : decode cX11_fault 27 = .ok (.invokevirtual 229, 3) := by decide +kernel
theorem dX11_fault_30 : decode cX11_fault 30 = .ok (.if_icmp .lt 14, 3) := by decide +kernel
theorem dX11_fault_44 : decode cX11_fault 44 = .ok (.aload 4, 2) := by decide +kernel
theorem dX11_fault_46 : decode cX11_fault 46 = .ok (.aload 5, 2) := by decide +kernel
theorem dX11_fault_48 : decode cX11_fault 48 = .ok (.iload_n 3, 1) := by decide +kernel
theorem dX11_fault_49 : decode cX11_fault 49 = .ok (.invokevirtual 336, 3) := by decide +kernel
theorem dX11_fault_52 : decode cX11_fault 52 = .ok (.ireturn, 1) := by decide +kernel
set_option maxHeartbeats 4000000 in
set_option maxRecDepth 100000 in
theorem w_X11_fault_0 {p : Program} {l : Launch} {e : Env} {R : Room} {s : State} {m : MethodId} {args : Array Value} {below : List Frame} {meth : Method} {c : Code} {G : Gt} {ρ0 : Int → Nat} {M0 : Mo} {res : RS} (F : Fx p l R s m args meth c cX11_fault 6 RX11 G M0 7 (some FieldType.int)) (hno : ∀ x ∈ c.exceptionTable.toList, False) (hnm : meth.name = yX11_fault.name) (x0 x1 x2 x3 : Int) (M : Mo) (h : X11_fault x0 x1 x2 x3 M = some res) : J p l e R s m args below meth c 6 G ρ0 M0 1 res M 0 [(0, (false, x0)), (1, (true, x1)), (2, (true, x2)), (3, (true, x3))] [] := by
  unfold X11_fault at h
  refine j_aload_n F 0 rfl rfl dX11_fault_0 ?_
  refine j_iload_n F 1 rfl rfl dX11_fault_1 ?_
  obtain ⟨g4, h⟩ := gua h
  refine j_callV (d' := 6) (argl := [(true, x1)]) (rk9 := 2) (st := []) F hno M_X11_editorAt q668 q6 q666 ⟨by decide, by decide⟩ (Nat.le_of_ble_eq_true rfl) (by decide) (ci := 12) rfl (by decide) g4 dX11_fault_2 rfl h (fun z hz => c_X11_editorAt l F.ht G x0 x1 M z hz) (fun v1 M2 h kl3 => ?_)
  refine j_st (st' := [(false, v1)]) rfl ?_
  refine j_astore F (lv' := [(4, (false, v1)), (0, (false, x0)), (1, (true, x1)), (2, (true, x2)), (3, (true, x3))]) (by decide) rfl dX11_fault_5 ?_
  refine j_aload_n F 1 rfl rfl dX11_fault_7 ?_
  refine j_iload_n F 3 rfl rfl dX11_fault_8 ?_
  refine j_callV (d' := 6) (argl := [(true, x2)]) (rk9 := 0) (st := []) F hno M_X11_checkFile q583 q4 q581 ⟨by decide, by decide⟩ (Nat.le_of_ble_eq_true rfl) (by decide) (ci := 12) rfl (by decide) (kl3.is g4) dX11_fault_9 rfl h (fun z hz => c_X11_checkFile l F.ht G x0 x2 M2 z hz) (fun v5 M6 h kl7 => ?_)
  refine j_st (st' := []) rfl ?_
  refine j_aload F 0 rfl dX11_fault_12 ?_
  refine j_iload_n F 3 rfl rfl dX11_fault_14 ?_
  obtain ⟨g11, h⟩ := gua h
  refine j_callV (d' := 0) (argl := [(true, x2)]) (rk9 := 2) (st := []) F hno M_X3_faultsOf q847 q848 q1582 ⟨by decide, by decide⟩ (Nat.le_of_ble_eq_true rfl) (by decide) (ci := 4) rfl (by decide) g11 dX11_fault_15 rfl h (fun z hz => c_X3_faultsOf l F.ht G v1 x2 M6 z hz) (fun v8 M9 h kl10 => ?_)
  refine j_st (st' := [(false, v8)]) rfl ?_
  refine j_astore F (lv' := [(5, (false, v8)), (4, (false, v1)), (0, (false, x0)), (1, (true, x1)), (2, (true, x2)), (3, (true, x3))]) (by decide) rfl dX11_fault_18 ?_
  refine j_iload_n F 5 rfl rfl dX11_fault_20 ?_
  refine j_if_lt F 33 (by decide) dX11_fault_21 h (fun h => ?_) (fun h => ?_)
  · skip
    obtain ⟨g12, h⟩ := gua h
    exact j_throwW F hno (ex := 1) (text := "no such fault") rfl (by decide +kernel) q586 q70 (by decide +kernel) at_X11_258 (by decide +kernel) (by decide) (Nat.le_of_ble_eq_true rfl) rfl (by decide) g12 h dX11_fault_33 dX11_fault_36 dX11_fault_37 dX11_fault_40 dX11_fault_43
  · skip
    refine j_iload_n F 5 rfl rfl dX11_fault_24 ?_
    refine j_aload F 0 rfl dX11_fault_25 ?_
    obtain ⟨g16, h⟩ := gua h
    refine j_callV (d' := 0) (argl := []) (rk9 := 1) (st := [(true, x3)]) F hno M_X5_size q1022 q1023 q1021 ⟨by decide, by decide⟩ (Nat.le_of_ble_eq_true rfl) (by decide) (ci := 6) rfl (by decide) g16 dX11_fault_27 rfl h (fun z hz => c_X5_size l F.ht G v8 M9 z hz) (fun v13 M14 h kl15 => ?_)
    refine j_st (st' := [(true, v13), (true, x3)]) rfl ?_
    refine j_icmp_lt F 44 (by decide) dX11_fault_30 h (fun h => ?_) (fun h => ?_)
    · skip
      refine j_aload F 1 rfl dX11_fault_44 ?_
      refine j_aload F 0 rfl dX11_fault_46 ?_
      refine j_iload_n F 5 rfl rfl dX11_fault_48 ?_
      refine j_callV (d' := 2) (argl := [(false, v8), (true, x3)]) (rk9 := 1) (st := []) F hno M_X3_tell q1555 q1556 q1554 ⟨by decide, by decide⟩ (Nat.le_of_ble_eq_true rfl) (by decide) (ci := 4) rfl (by decide) (kl15.is (kl10.is g11)) dX11_fault_49 rfl h (fun z hz => c_X3_tell l F.ht G v1 v8 x3 M14 z hz) (fun v17 M18 h kl19 => ?_)
      refine j_st (st' := [(true, v17)]) rfl ?_
      exact j_iret F h dX11_fault_52
    · skip
      obtain ⟨g20, h⟩ := gua h
      exact j_throwW F hno (ex := 1) (text := "no such fault") rfl (by decide +kernel) q586 q70 (by decide +kernel) at_X11_258 (by decide +kernel) (by decide) (Nat.le_of_ble_eq_true rfl) rfl (by decide) g20 h dX11_fault_33 dX11_fault_36 dX11_fault_37 dX11_fault_40 dX11_fault_43
theorem c_X11_fault (l : Launch) (hl : l.stackTraces = false) (G : Gt) (x0 x1 x2 x3 : Int) (M : Mo) (z : RS) (h : X11_fault x0 x1 x2 x3 M = some z) : CT l G yX11_fault (cn yX11_fault cX11_fault 6 (some FieldType.int)) 7 [(false, x0), (true, x1), (true, x2), (true, x3)] M 1 z :=
  ctOf hl (by decide) (Nat.le_of_ble_eq_true rfl) (fun p e R s m args below meth c ρ F hno hnm => w_X11_fault_0 F hno hnm x0 x1 x2 x3 M h)
