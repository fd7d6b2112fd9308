theorem dX1_init_0 : decode cX1_init 0 = .ok (.aload_n 0, 1) := by decide +kernel
set_option maxRecDepth 100000 in
theorem q166 : Cond.methodLink RX1 1 Lib.objectInit ∈ GT := gt 166 (by decide +kernel) (by decide +kernel)
theorem dX1_init_1 : decode cX1_init 1 = .ok (.invokespecial 1, 3) := by decide +kernel
theorem dX1_init_4 : decode cX1_init 4 = .ok (.aload_n 0, 1) := by decide +kernel
theorem dfJx4a65c : ∀ j, j < 3 → defaultValue (tyJx4a65c j) = vp_V ((lay 0).map (fun b => if b then Value.int 0 else .null)) j := by decide +kernel
set_option maxRecDepth 100000 in
theorem q167 : Cond.classLink RX1 7 RJx4a65c ∈ GT := gt 167 (by decide +kernel) (by decide +kernel)
set_option maxRecDepth 100000 in
theorem q135 : Cond.instantiable RJx4a65c 3 ∈ GT := gt 135 (by decide +kernel) (by decide +kernel)
theorem dX1_init_5 : decode cX1_init 5 = .ok (.new 7, 3) := by decide +kernel
theorem dX1_init_8 : decode cX1_init 8 = .ok (.dup, 1) := by decide +kernel
set_option maxRecDepth 100000 in
theorem q138 : Cond.code yJx4a65c_init_da8c8 cJx4a65c_init_da8c8 1 none ∈ GT := gt 138 (rfl) (by decide +kernel)
theorem M_Jx4a65c_init_da8c8 : MY yJx4a65c_init_da8c8 cJx4a65c_init_da8c8 1 none 0 := ⟨q138, q58, by decide +kernel, by decide +kernel⟩
set_option maxRecDepth 100000 in
theorem q137 : Cond.instanceMethod yJx4a65c_init_da8c8 ∈ GT := gt 137 (by decide +kernel) (by decide +kernel)
set_option maxRecDepth 100000 in
theorem q168 : Cond.methodLink RX1 9 yJx4a65c_init_da8c8 ∈ GT := gt 168 (by decide +kernel) (by decide +kernel)
theorem dX1_init_9 : decode cX1_init 9 = .ok (.invokespecial 9, 3) := by decide +kernel
set_option maxRecDepth 100000 in
theorem q169 : Cond.fieldLink RX1 10 "ToolPlex$Channel" "messages" "Ljava/util/ArrayList;" ∈ GT := gt 169 (by decide +kernel) (by decide +kernel)
theorem inGX1 : ∀ w ∈ u_ws RX1 TX1 1, w ∈ GT := gts [170] (by decide +kernel) (by decide +kernel)
theorem ft_X1_10 : FT RX1 10 RX1 2 RX1 TX1 1 0 := ⟨rfl, by decide, by decide, q169, Or.inl rfl, inGX1⟩
theorem dX1_init_12 : decode cX1_init 12 = .ok (.putfield 10, 3) := by decide +kernel
theorem dX1_init_15 : decode cX1_init 15 = .ok (.return_, 1) := by decide +kernel
set_option maxHeartbeats 4000000 in
set_option maxRecDepth 100000 in
theorem w_X1_init_0 {p : Program} {l : Launch} {e : Env} {R : Room} {s : State} {m : MethodId} {args : Array Value} {below : List Frame} {meth : Method} {c : Code} {G : Gt} {ρ0 : Int → Nat} {M0 : Mo} {res : RS} (F : Fx p l R s m args meth c cX1_init 1 RX1 G M0 4 none) (hno : ∀ x ∈ c.exceptionTable.toList, False) (hnm : meth.name = yX1_init.name) (x0 : Int) (M : Mo) (h : X1_init x0 M = some res) : J p l e R s m args below meth c 1 G ρ0 M0 0 res M 0 [(0, (false, x0))] [] := by
  unfold X1_init at h
  refine j_aload_n F 0 rfl rfl dX1_init_0 ?_
  obtain ⟨g1, h⟩ := gua h
  refine j_objInit F ⟨q166, q86, q87⟩ g1 (by decide) (Nat.le_of_ble_eq_true rfl) dX1_init_1 ?_
  refine j_aload_n F 0 rfl rfl dX1_init_4 ?_
  obtain ⟨g2, h⟩ := gua h
  refine j_new (ci := 0) F inGJx4a65c tyJx4a65c tyJx4a65c_ok q167 q135 q58 rfl (by decide) dfJx4a65c g2 dX1_init_5 (fun kl3 => ?_)
  obtain ⟨M4, hM4⟩ : ∃ Z, Z = nO M 0 3 := ⟨_, rfl⟩
  have g5 : kd M4 (nid M) = 1 := by rw [hM4]; exact kd_nO
  rw [← hM4] at kl3 ⊢
  replace h := pt_as h hM4
  refine j_dup F dX1_init_8 ?_
  refine j_callI (d' := 3) (argl := []) (rk9 := 0) (st := [(false, (nid M)), (false, x0)]) F M_Jx4a65c_init_da8c8 q137 rfl q168 ⟨by decide, by decide⟩ (Nat.le_of_ble_eq_true rfl) (by decide) (by rw [g5]; decide) dX1_init_9 rfl h (fun z hz => c_Jx4a65c_init_da8c8 l F.ht G (nid M) M4 z hz) (fun v6 M7 h kl8 => ?_)
  refine j_st (st' := [(false, (nid M)), (false, x0)]) rfl ?_
  obtain ⟨g9, h⟩ := gua h
  refine j_putF (ty := .object "java/util/ArrayList") F ft_X1_10 rfl rfl hnm rfl tyX1 tyX1_ok nmX1 (by decide +kernel) (nf_ref (Or.inl ⟨_, rfl⟩) _) g9 dX1_init_12 ?_
  obtain ⟨M10, hM10⟩ : ∃ Z, Z = sF M7 2 0 x0 (nid M) := ⟨_, rfl⟩
  have kl11 : kle M7 M10 := by rw [hM10]; exact kle_sF
  rw [← hM10]
  replace h := pt_as h hM10
  exact j_vret F (v := 0) h dX1_init_15
theorem c_X1_init (l : Launch) (hl : l.stackTraces = false) (G : Gt) (x0 : Int) (M : Mo) (z : RS) (h : X1_init x0 M = some z) : CT l G yX1_init (cn yX1_init cX1_init 1 none) 4 [(false, x0)] M 0 z :=
  ctOf hl (by decide) (Nat.le_of_ble_eq_true rfl) (fun p e R s m args below meth c ρ F hno hnm => w_X1_init_0 F hno hnm x0 M h)
theorem dX1_size_0 : decode cX1_size 0 = .ok (.aload_n 0, 1) := by decide +kernel
theorem dX1_size_1 : decode cX1_size 1 = .ok (.getfield 10, 3) := by decide +kernel
set_option maxRecDepth 100000 in
theorem q450 : Cond.code yJx4a65c_size_8abf5 cJx4a65c_size_8abf5 1 (some FieldType.int) ∈ GT := gt 450 (rfl) (by decide +kernel)
theorem M_Jx4a65c_size_8abf5 : MY yJx4a65c_size_8abf5 cJx4a65c_size_8abf5 1 (some FieldType.int) 0 := ⟨q450, q58, by decide +kernel, by decide +kernel⟩
set_option maxRecDepth 100000 in
theorem q448 : Cond.instanceMethod yJx4a65c_size_8abf5 ∈ GT := gt 448 (by decide +kernel) (by decide +kernel)
set_option maxRecDepth 100000 in
theorem q449 : Cond.selects RJx4a65c yJx4a65c_size_8abf5 yJx4a65c_size_8abf5 ∈ GT := gt 449 (by decide +kernel) (by decide +kernel)
set_option maxRecDepth 100000 in
theorem q1240 : Cond.methodLink RX1 16 yJx4a65c_size_8abf5 ∈ GT := gt 1240 (by decide +kernel) (by decide +kernel)
theorem dX1_size_4 : decode cX1_size 4 = .ok (.invokevirtual 16, 3) := by decide +kernel
theorem dX1_size_7 : decode cX1_size 7 = .ok (.ireturn, 1) := by decide +kernel
set_option maxHeartbeats 4000000 in
set_option maxRecDepth 100000 in
theorem w_X1_size_0 {p : Program} {l : Launch} {e : Env} {R : Room} {s : State} {m : MethodId} {args : Array Value} {below : List Frame} {meth : Method} {c : Code} {G : Gt} {ρ0 : Int → Nat} {M0 : Mo} {res : RS} (F : Fx p l R s m args meth c cX1_size 1 RX1 G M0 1 (some FieldType.int)) (hno : ∀ x ∈ c.exceptionTable.toList, False) (hnm : meth.name = yX1_size.name) (x0 : Int) (M : Mo) (h : X1_size x0 M = some res) : J p l e R s m args below meth c 1 G ρ0 M0 1 res M 0 [(0, (false, x0))] [] := by
  unfold X1_size at h
  refine j_aload_n F 0 rfl rfl dX1_size_0 ?_
  obtain ⟨g1, h⟩ := gua h
  refine j_get F ft_X1_10 rfl g1 dX1_size_1 ?_
  obtain ⟨g5, h⟩ := gua h
  refine j_callV (d' := 0) (argl := []) (rk9 := 1) (st := []) F hno M_Jx4a65c_size_8abf5 q448 q449 q1240 ⟨by decide, by decide⟩ (Nat.le_of_ble_eq_true rfl) (by decide) (ci := 0) rfl (by decide) g5 dX1_size_4 rfl h (fun z hz => c_Jx4a65c_size_8abf5 l F.ht G (fd M 2 0 x0) M z hz) (fun v2 M3 h kl4 => ?_)
  refine j_st (st' := [(true, v2)]) rfl ?_
  exact j_iret F h dX1_size_7
theorem c_X1_size (l : Launch) (hl : l.stackTraces = false) (G : Gt) (x0 : Int) (M : Mo) (z : RS) (h : X1_size x0 M = some z) : CT l G yX1_size (cn yX1_size cX1_size 1 (some FieldType.int)) 1 [(false, x0)] M 1 z :=
  ctOf hl (by decide) (Nat.le_of_ble_eq_true rfl) (fun p e R s m args below meth c ρ F hno hnm => w_X1_size_0 F hno hnm x0 M h)
theorem dX1_send_0 : decode cX1_send 0 = .ok (.aload_n 0, 1) := by decide +kernel
theorem dX1_send_1 : decode cX1_send 1 = .ok (.getfield 10, 3) := by decide +kernel
theorem dX1_send_4 : decode cX1_send 4 = .ok (.aload_n 1, 1) := by decide +kernel
set_option maxRecDepth 100000 in
theorem q517 : Cond.code yJx4a65c_add_9ea2d cJx4a65c_add_9ea2d 2 (some FieldType.boolean) ∈ GT := gt 517 (rfl) (by decide +kernel)
theorem M_Jx4a65c_add_9ea2d : MY yJx4a65c_add_9ea2d cJx4a65c_add_9ea2d 2 (some FieldType.boolean) 1 := ⟨q517, q58, by decide +kernel, by decide +kernel⟩
set_option maxRecDepth 100000 in
theorem q515 : Cond.instanceMethod yJx4a65c_add_9ea2d ∈ GT := gt 515 (by decide +kernel) (by decide +kernel)
set_option maxRecDepth 100000 in
theorem q516 : Cond.selects RJx4a65c yJx4a65c_add_9ea2d yJx4a65c_add_9ea2d ∈ GT := gt 516 (by decide +kernel) (by decide +kernel)
set_option maxRecDepth 100000 in
theorem q823 : Cond.methodLink RX1 20 yJx4a65c_add_9ea2d ∈ GT := gt 823 (by decide +kernel) (by decide +kernel)
theorem dX1_send_5 : decode cX1_send 5 = .ok (.invokevirtual 20, 3) := by decide +kernel
theorem dX1_send_8 : decode cX1_send 8 = .ok (.pop, 1) := by decide +kernel
theorem dX1_send_9 : decode cX1_send 9 = .ok (.return_, 1) := by decide +kernel
set_option maxHeartbeats 4000000 in
set_option maxRecDepth 100000 in
theorem w_X1_send_0 {p : Program} {l : Launch} {e : Env} {R : Room} {s : State} {m : MethodId} {args : Array Value} {below : List Frame} {meth : Method} {c : Code} {G : Gt} {ρ0 : Int → Nat} {M0 : Mo} {res : RS} (F : Fx p l R s m args meth c cX1_send 2 RX1 G M0 7 none) (hno : ∀ x ∈ c.exceptionTable.toList, False) (hnm : meth.name = yX1_send.name) (x0 x1 : Int) (M : Mo) (h : X1_send x0 x1 M = some res) : J p l e R s m args below meth c 2 G ρ0 M0 0 res M 0 [(0, (false, x0)), (1, (false, x1))] [] := by
  unfold X1_send at h
  refine j_aload_n F 0 rfl rfl dX1_send_0 ?_
  obtain ⟨g1, h⟩ := gua h
  refine j_get F ft_X1_10 rfl g1 dX1_send_1 ?_
  refine j_aload_n F 1 rfl rfl dX1_send_4 ?_
  obtain ⟨g5, h⟩ := gua h
  refine j_callV (d' := 6) (argl := [(false, x1)]) (rk9 := 1) (st := []) F hno M_Jx4a65c_add_9ea2d q515 q516 q823 ⟨by decide, by decide⟩ (Nat.le_of_ble_eq_true rfl) (by decide) (ci := 0) rfl (by decide) g5 dX1_send_5 rfl h (fun z hz => c_Jx4a65c_add_9ea2d l F.ht G (fd M 2 0 x0) x1 M z hz) (fun v2 M3 h kl4 => ?_)
  refine j_st (st' := [(true, v2)]) rfl ?_
  refine j_pop F dX1_send_8 ?_
  exact j_vret F (v := 0) h dX1_send_9
theorem c_X1_send (l : Launch) (hl : l.stackTraces = false) (G : Gt) (x0 x1 : Int) (M : Mo) (z : RS) (h : X1_send x0 x1 M = some z) : CT l G yX1_send (cn yX1_send cX1_send 2 none) 7 [(false, x0), (false, x1)] M 0 z :=
  ctOf hl (by decide) (Nat.le_of_ble_eq_true rfl) (fun p e R s m args below meth c ρ F hno hnm => w_X1_send_0 F hno hnm x0 x1 M h)
theorem dX1_takeFirst_0 : decode cX1_takeFirst 0 = .ok (.aload_n 0, 1) := by decide +kernel
theorem dX1_takeFirst_1 : decode cX1_takeFirst 1 = .ok (.getfield 10, 3) := by decide +kernel
set_option maxRecDepth 100000 in
theorem q1369 : Cond.code yJx4a65c_isEmpty_aae02 cJx4a65c_isEmpty_aae02 1 (some FieldType.boolean) ∈ GT := gt 1369 (rfl) (by decide +kernel)
theorem M_Jx4a65c_isEmpty_aae02 : MY yJx4a65c_isEmpty_aae02 cJx4a65c_isEmpty_aae02 1 (some FieldType.boolean) 0 := ⟨q1369, q58, by decide +kernel, by decide +kernel⟩
set_option maxRecDepth 100000 in
theorem q1367 : Cond.instanceMethod yJx4a65c_isEmpty_aae02 ∈ GT := gt 1367 (by decide +kernel) (by decide +kernel)
set_option maxRecDepth 100000 in
theorem q1368 : Cond.selects RJx4a65c yJx4a65c_isEmpty_aae02 yJx4a65c_isEmpty_aae02 ∈ GT := gt 1368 (by decide +kernel) (by decide +kernel)
set_option maxRecDepth 100000 in
theorem q1366 : Cond.methodLink RX1 24 yJx4a65c_isEmpty_aae02 ∈ GT := gt 1366 (by decide +kernel) (by decide +kernel)
theorem dX1_takeFirst_4 : decode cX1_takeFirst 4 = .ok (.invokevirtual 24, 3) := by decide +kernel
theorem dX1_takeFirst_7 : decode cX1_takeFirst 7 = .ok (.ifCond .eq 5, 3) := by decide +kernel
theorem dX1_takeFirst_12 : decode cX1_takeFirst 12 = .ok (.aload_n 0, 1) := by decide +kernel
theorem dX1_takeFirst_13 : decode cX1_takeFirst 13 = .ok (.getfield 10, 3) := by decide +kernel
theorem dX1_takeFirst_16 : decode cX1_takeFirst 16 = .ok (.iconst 0, 1) := by decide +kernel
set_option maxRecDepth 100000 in
theorem q858 : Cond.code yJx4a65c_get_915e3 cJx4a65c_get_915e3 2 (some (FieldType.object "java/lang/Object")) ∈ GT := gt 858 (rfl) (by decide +kernel)
theorem M_Jx4a65c_get_915e3 : MY yJx4a65c_get_915e3 cJx4a65c_get_915e3 2 (some (FieldType.object "java/lang/Object")) 1 := ⟨q858, q58, by decide +kernel, by decide +kernel⟩
set_option maxRecDepth 100000 in
theorem q856 : Cond.instanceMethod yJx4a65c_get_915e3 ∈ GT := gt 856 (by decide +kernel) (by decide +kernel)
set_option maxRecDepth 100000 in
theorem q857 : Cond.selects RJx4a65c yJx4a65c_get_915e3 yJx4a65c_get_915e3 ∈ GT := gt 857 (by decide +kernel) (by decide +kernel)
set_option maxRecDepth 100000 in
theorem q1370 : Cond.methodLink RX1 28 yJx4a65c_get_915e3 ∈ GT := gt 1370 (by decide +kernel) (by decide +kernel)
theorem dX1_takeFirst_17 : decode cX1_takeFirst 17 = .ok (.invokevirtual 28, 3) := by decide +kernel
set_option maxRecDepth 100000 in
theorem q1371 : Cond.classLink RX1 32 RX6 ∈ GT := gt 1371 (by decide +kernel) (by decide +kernel)
theorem dX1_takeFirst_20 : decode cX1_takeFirst 20 = .ok (.checkcast 32, 3) := by decide +kernel
theorem dX1_takeFirst_23 : decode cX1_takeFirst 23 = .ok (.astore_n 1, 1) := by decide +kernel
theorem dX1_takeFirst_24 : decode cX1_takeFirst 24 = .ok (.aload_n 0, 1) := by decide +kernel
theorem dX1_takeFirst_25 : decode cX1_takeFirst 25 = .ok (.getfield 10, 3) := by decide +kernel
theorem dX1_takeFirst_28 : decode cX1_takeFirst 28 = .ok (.iconst 0, 1) := by decide +kernel
set_option maxRecDepth 100000 in
theorem q1104 : Cond.code yJx4a65c_remove_915e3 cJx4a65c_remove_915e3 4 (some (FieldType.object "java/lang/Object")) ∈ GT := gt 1104 (rfl) (by decide +kernel)
theorem M_Jx4a65c_remove_915e3 : MY yJx4a65c_remove_915e3 cJx4a65c_remove_915e3 4 (some (FieldType.object "java/lang/Object")) 1 := ⟨q1104, q58, by decide +kernel, by decide +kernel⟩
set_option maxRecDepth 100000 in
theorem q1102 : Cond.instanceMethod yJx4a65c_remove_915e3 ∈ GT := gt 1102 (by decide +kernel) (by decide +kernel)
set_option maxRecDepth 100000 in
theorem q1103 : Cond.selects RJx4a65c yJx4a65c_remove_915e3 yJx4a65c_remove_915e3 ∈ GT := gt 1103 (by decide +kernel) (by decide +kernel)
set_option maxRecDepth 100000 in
theorem q1372 : Cond.methodLink RX1 34 yJx4a65c_remove_915e3 ∈ GT := gt 1372 (by decide +kernel) (by decide +kernel)
theorem dX1_takeFirst_29 : decode cX1_takeFirst 29 = .ok (.invokevirtual 34, 3) := by decide +kernel
theorem dX1_takeFirst_32 : decode cX1_takeFirst 32 = .ok (.pop, 1) := by decide +kernel
theorem dX1_takeFirst_33 : decode cX1_takeFirst 33 = .ok (.aload_n 1, 1) := by decide +kernel
theorem dX1_takeFirst_34 : decode cX1_takeFirst 34 = .ok (.areturn, 1) := by decide +kernel
theorem dX1_takeFirst_10 : decode cX1_takeFirst 10 = .ok (.aconst_null, 1) := by decide +kernel
theorem dX1_takeFirst_11 : decode cX1_takeFirst 11 = .ok (.areturn, 1) := by decide +kernel
set_option maxHeartbeats 4000000 in
set_option maxRecDepth 100000 in
theorem w_X1_takeFirst_0 {p : Program} {l : Launch} {e : Env} {R : Room} {s : State} {m : MethodId} {args : Array Value} {below : List Frame} {meth : Method} {c : Code} {G : Gt} {ρ0 : Int → Nat} {M0 : Mo} {res : RS} (F : Fx p l R s m args meth c cX1_takeFirst 2 RX1 G M0 3 (some (FieldType.object "ToolPlex$Message"))) (hno : ∀ x ∈ c.exceptionTable.toList, False) (hnm : meth.name = yX1_takeFirst.name) (x0 : Int) (M : Mo) (h : X1_takeFirst x0 M = some res) : J p l e R s m args below meth c 2 G ρ0 M0 2 res M 0 [(0, (false, x0))] [] := by
  unfold X1_takeFirst at h
  refine j_aload_n F 0 rfl rfl dX1_takeFirst_0 ?_
  obtain ⟨g1, h⟩ := gua h
  refine j_get F ft_X1_10 rfl g1 dX1_takeFirst_1 ?_
  obtain ⟨g5, h⟩ := gua h
  refine j_callV (d' := 0) (argl := []) (rk9 := 1) (st := []) F hno M_Jx4a65c_isEmpty_aae02 q1367 q1368 q1366 ⟨by decide, by decide⟩ (Nat.le_of_ble_eq_true rfl) (by decide) (ci := 0) rfl (by decide) g5 dX1_takeFirst_4 rfl h (fun z hz => c_Jx4a65c_isEmpty_aae02 l F.ht G (fd M 2 0 x0) M z hz) (fun v2 M3 h kl4 => ?_)
  refine j_st (st' := [(true, v2)]) rfl ?_
  refine j_if_eq F 12 (by decide) dX1_takeFirst_7 h (fun h => ?_) (fun h => ?_)
  · skip
    refine j_aload_n F 0 rfl rfl dX1_takeFirst_12 ?_
    refine j_get F ft_X1_10 rfl (kl4.is g1) dX1_takeFirst_13 ?_
    refine j_iconst F dX1_takeFirst_16 ?_
    obtain ⟨g9, h⟩ := gua h
    refine j_callV (d' := 2) (argl := [(true, 0)]) (rk9 := 2) (st := []) F hno M_Jx4a65c_get_915e3 q856 q857 q1370 ⟨by decide, by decide⟩ (Nat.le_of_ble_eq_true rfl) (by decide) (ci := 0) rfl (by decide) g9 dX1_takeFirst_17 rfl h (fun z hz => c_Jx4a65c_get_915e3 l F.ht G (fd M3 2 0 x0) 0 M3 z hz) (fun v6 M7 h kl8 => ?_)
    refine j_st (st' := [(false, v6)]) rfl ?_
    obtain ⟨g10, h⟩ := gua h
    refine j_cast F q1371 rfl (by decide) g10 dX1_takeFirst_20 ?_
    refine j_astore_n F (lv' := [(1, (false, v6)), (0, (false, x0))]) rfl (by decide) rfl dX1_takeFirst_23 ?_
    refine j_aload_n F 1 rfl rfl dX1_takeFirst_24 ?_
    refine j_get F ft_X1_10 rfl (kl8.is (kl4.is g1)) dX1_takeFirst_25 ?_
    refine j_iconst F dX1_takeFirst_28 ?_
    obtain ⟨g14, h⟩ := gua h
    refine j_callV (d' := 2) (argl := [(true, 0)]) (rk9 := 2) (st := []) F hno M_Jx4a65c_remove_915e3 q1102 q1103 q1372 ⟨by decide, by decide⟩ (Nat.le_of_ble_eq_true rfl) (by decide) (ci := 0) rfl (by decide) g14 dX1_takeFirst_29 rfl h (fun z hz => c_Jx4a65c_remove_915e3 l F.ht G (fd M7 2 0 x0) 0 M7 z hz) (fun v11 M12 h kl13 => ?_)
    refine j_st (st' := [(false, v11)]) rfl ?_
    refine j_pop F dX1_takeFirst_32 ?_
    refine j_aload_n F 0 rfl rfl dX1_takeFirst_33 ?_
    exact j_aret F (Or.inl ⟨_, rfl⟩) h dX1_takeFirst_34
  · skip
    refine j_null F dX1_takeFirst_10 ?_
    exact j_aret F (Or.inl ⟨_, rfl⟩) h dX1_takeFirst_11
theorem c_X1_takeFirst (l : Launch) (hl : l.stackTraces = false) (G : Gt) (x0 : Int) (M : Mo) (z : RS) (h : X1_takeFirst x0 M = some z) : CT l G yX1_takeFirst (cn yX1_takeFirst cX1_takeFirst 2 (some (FieldType.object "ToolPlex$Message"))) 3 [(false, x0)] M 2 z :=
  ctOf hl (by decide) (Nat.le_of_ble_eq_true rfl) (fun p e R s m args below meth c ρ F hno hnm => w_X1_takeFirst_0 F hno hnm x0 M h)
theorem dX1_lose_0 : decode cX1_lose 0 = .ok (.aload_n 0, 1) := by decide +kernel
theorem dX1_lose_1 : decode cX1_lose 1 = .ok (.getfield 10, 3) := by decide +kernel
theorem dX1_lose_4 : decode cX1_lose 4 = .ok (.invokevirtual 16, 3) := by decide +kernel
theorem dX1_lose_7 : decode cX1_lose 7 = .ok (.istore_n 1, 1) := by decide +kernel
theorem dX1_lose_8 : decode cX1_lose 8 = .ok (.aload_n 0, 1) := by decide +kernel
theorem dX1_lose_9 : decode cX1_lose 9 = .ok (.getfield 10, 3) := by decide +kernel
set_option maxRecDepth 100000 in
theorem q1230 : Cond.code yJx4a65c_clear_da8c8 cJx4a65c_clear_da8c8 4 none ∈ GT := gt 1230 (rfl) (by decide +kernel)
theorem M_Jx4a65c_clear_da8c8 : MY yJx4a65c_clear_da8c8 cJx4a65c_clear_da8c8 4 none 0 := ⟨q1230, q58, by decide +kernel, by decide +kernel⟩
set_option maxRecDepth 100000 in
theorem q1228 : Cond.instanceMethod yJx4a65c_clear_da8c8 ∈ GT := gt 1228 (by decide +kernel) (by decide +kernel)
set_option maxRecDepth 100000 in
theorem q1229 : Cond.selects RJx4a65c yJx4a65c_clear_da8c8 yJx4a65c_clear_da8c8 ∈ GT := gt 1229 (by decide +kernel) (by decide +kernel)
set_option maxRecDepth 100000 in
theorem q1241 : Cond.methodLink RX1 37 yJx4a65c_clear_da8c8 ∈ GT := gt 1241 (by decide +kernel) (by decide +kernel)
theorem dX1_lose_12 : decode cX1_lose 12 = .ok (.invokevirtual 37, 3) := by decide +kernel
theorem dX1_lose_15 : decode cX1_lose 15 = .ok (.iload_n 1, 1) := by decide +kernel
theorem dX1_lose_16 : decode cX1_lose 16 = .ok (.ireturn, 1) := by decide +kernel
set_option maxHeartbeats 4000000 in
set_option maxRecDepth 100000 in
theorem w_X1_lose_0 {p : Program} {l : Launch} {e : Env} {R : Room} {s : State} {m : MethodId} {args : Array Value} {below : List Frame} {meth : Method} {c : Code} {G : Gt} {ρ0 : Int → Nat} {M0 : Mo} {res : RS} (F : Fx p l R s m args meth c cX1_lose 2 RX1 G M0 1 (some FieldType.int)) (hno : ∀ x ∈ c.exceptionTable.toList, False) (hnm : meth.name = yX1_lose.name) (x0 : Int) (M : Mo) (h : X1_lose x0 M = some res) : J p l e R s m args below meth c 2 G ρ0 M0 1 res M 0 [(0, (false, x0))] [] := by
  unfold X1_lose at h
  refine j_aload_n F 0 rfl rfl dX1_lose_0 ?_
  obtain ⟨g1, h⟩ := gua h
  refine j_get F ft_X1_10 rfl g1 dX1_lose_1 ?_
  obtain ⟨g5, h⟩ := gua h
  refine j_callV (d' := 0) (argl := []) (rk9 := 1) (st := []) F hno M_Jx4a65c_size_8abf5 q448 q449 q1240 ⟨by decide, by decide⟩ (Nat.le_of_ble_eq_true rfl) (by decide) (ci := 0) rfl (by decide) g5 dX1_lose_4 rfl h (fun z hz => c_Jx4a65c_size_8abf5 l F.ht G (fd M 2 0 x0) M z hz) (fun v2 M3 h kl4 => ?_)
  refine j_st (st' := [(true, v2)]) rfl ?_
  refine j_istore_n F (lv' := [(1, (true, v2)), (0, (false, x0))]) rfl (by decide) rfl dX1_lose_7 ?_
  refine j_aload_n F 1 rfl rfl dX1_lose_8 ?_
  refine j_get F ft_X1_10 rfl (kl4.is g1) dX1_lose_9 ?_
  obtain ⟨g9, h⟩ := gua h
  refine j_callV (d' := 0) (argl := []) (rk9 := 0) (st := []) F hno M_Jx4a65c_clear_da8c8 q1228 q1229 q1241 ⟨by decide, by decide⟩ (Nat.le_of_ble_eq_true rfl) (by decide) (ci := 0) rfl (by decide) g9 dX1_lose_12 rfl h (fun z hz => c_Jx4a65c_clear_da8c8 l F.ht G (fd M3 2 0 x0) M3 z hz) (fun v6 M7 h kl8 => ?_)
  refine j_st (st' := []) rfl ?_
  refine j_iload_n F 0 rfl rfl dX1_lose_15 ?_
  exact j_iret F h dX1_lose_16
theorem c_X1_lose (l : Launch) (hl : l.stackTraces = false) (G : Gt) (x0 : Int) (M : Mo) (z : RS) (h : X1_lose x0 M = some z) : CT l G yX1_lose (cn yX1_lose cX1_lose 2 (some FieldType.int)) 1 [(false, x0)] M 1 z :=
  ctOf hl (by decide) (Nat.le_of_ble_eq_true rfl) (fun p e R s m args below meth c ρ F hno hnm => w_X1_lose_0 F hno hnm x0 M h)
