theorem dJxa1e45_init_da8c8_0 : decode cJxa1e45_init_da8c8 0 = .ok (.aload_n 0, 1) := by decide +kernel
set_option maxRecDepth 100000 in
theorem q145 : Cond.methodLink RJxa1e45 1 Lib.objectInit ∈ GT := gt 145 (by decide +kernel) (by decide +kernel)
theorem dJxa1e45_init_da8c8_1 : decode cJxa1e45_init_da8c8 1 = .ok (.invokespecial 1, 3) := by decide +kernel
theorem dJxa1e45_init_da8c8_4 : decode cJxa1e45_init_da8c8 4 = .ok (.return_, 1) := by decide +kernel
set_option maxHeartbeats 4000000 in
set_option maxRecDepth 100000 in
theorem w_Jxa1e45_init_da8c8_0 {p : Program} {l : Launch} {e : Env} {R : Room} {s : State} {m : MethodId} {args : Array Value} {below : List Frame} {meth : Method} {c : Code} {G : Gt} {ρ0 : Int → Nat} {M0 : Mo} {res : RS} (F : Fx p l R s m args meth c cJxa1e45_init_da8c8 1 RJxa1e45 G M0 1 none) (hno : ∀ x ∈ c.exceptionTable.toList, False) (hnm : meth.name = yJxa1e45_init_da8c8.name) (x0 : Int) (M : Mo) (h : Jxa1e45_init_da8c8 x0 M = some res) : J p l e R s m args below meth c 1 G ρ0 M0 0 res M 0 [(0, (false, x0))] [] := by
  unfold Jxa1e45_init_da8c8 at h
  refine j_aload_n F 0 rfl rfl dJxa1e45_init_da8c8_0 ?_
  obtain ⟨g1, h⟩ := gua h
  refine j_objInit F ⟨q145, q86, q87⟩ g1 (by decide) (Nat.le_of_ble_eq_true rfl) dJxa1e45_init_da8c8_1 ?_
  exact j_vret F (v := 0) h dJxa1e45_init_da8c8_4
theorem c_Jxa1e45_init_da8c8 (l : Launch) (hl : l.stackTraces = false) (G : Gt) (x0 : Int) (M : Mo) (z : RS) (h : Jxa1e45_init_da8c8 x0 M = some z) : CT l G yJxa1e45_init_da8c8 (cn yJxa1e45_init_da8c8 cJxa1e45_init_da8c8 1 none) 1 [(false, x0)] M 0 z :=
  ctOf hl (by decide) (Nat.le_of_ble_eq_true rfl) (fun p e R s m args below meth c ρ F hno hnm => w_Jxa1e45_init_da8c8_0 F hno hnm x0 M h)
theorem dJxc12de_init_da8c8_0 : decode cJxc12de_init_da8c8 0 = .ok (.aload_n 0, 1) := by decide +kernel
set_option maxRecDepth 100000 in
theorem q144 : Cond.code yJxa1e45_init_da8c8 cJxa1e45_init_da8c8 1 none ∈ GT := gt 144 (rfl) (by decide +kernel)
set_option maxRecDepth 100000 in
theorem q56 : Cond.initialized RJxa1e45 ∈ GT := gt 56 (by decide +kernel) (by decide +kernel)
theorem M_Jxa1e45_init_da8c8 : MY yJxa1e45_init_da8c8 cJxa1e45_init_da8c8 1 none 0 := ⟨q144, q56, by decide +kernel, by decide +kernel⟩
set_option maxRecDepth 100000 in
theorem q143 : Cond.instanceMethod yJxa1e45_init_da8c8 ∈ GT := gt 143 (by decide +kernel) (by decide +kernel)
set_option maxRecDepth 100000 in
theorem q142 : Cond.methodLink RJxc12de 1 yJxa1e45_init_da8c8 ∈ GT := gt 142 (by decide +kernel) (by decide +kernel)
theorem dJxc12de_init_da8c8_1 : decode cJxc12de_init_da8c8 1 = .ok (.invokespecial 1, 3) := by decide +kernel
theorem dJxc12de_init_da8c8_4 : decode cJxc12de_init_da8c8 4 = .ok (.aload_n 0, 1) := by decide +kernel
theorem dJxc12de_init_da8c8_5 : decode cJxc12de_init_da8c8 5 = .ok (.iconst 0, 1) := by decide +kernel
set_option maxRecDepth 100000 in
theorem q150 : Cond.fieldLink RJxc12de 7 "java/util/AbstractList" "modCount" "I" ∈ GT := gt 150 (by decide +kernel) (by decide +kernel)
theorem inGJx4a65c : ∀ w ∈ u_ws RJx4a65c TJx4a65c 3, w ∈ GT := gts [157, 153, 155] (by decide +kernel) (by decide +kernel)
theorem ft_Jxc12de_7 : FT RJxc12de 7 RJxc12de 0 RJx4a65c TJx4a65c 3 0 := ⟨rfl, by decide, by decide, q150, Or.inl rfl, inGJx4a65c⟩
theorem dJxc12de_init_da8c8_6 : decode cJxc12de_init_da8c8 6 = .ok (.putfield 7, 3) := by decide +kernel
theorem dJxc12de_init_da8c8_9 : decode cJxc12de_init_da8c8 9 = .ok (.return_, 1) := by decide +kernel
set_option maxHeartbeats 4000000 in
set_option maxRecDepth 100000 in
theorem w_Jxc12de_init_da8c8_0 {p : Program} {l : Launch} {e : Env} {R : Room} {s : State} {m : MethodId} {args : Array Value} {below : List Frame} {meth : Method} {c : Code} {G : Gt} {ρ0 : Int → Nat} {M0 : Mo} {res : RS} (F : Fx p l R s m args meth c cJxc12de_init_da8c8 1 RJxc12de G M0 2 none) (hno : ∀ x ∈ c.exceptionTable.toList, False) (hnm : meth.name = yJxc12de_init_da8c8.name) (x0 : Int) (M : Mo) (h : Jxc12de_init_da8c8 x0 M = some res) : J p l e R s m args below meth c 1 G ρ0 M0 0 res M 0 [(0, (false, x0))] [] := by
  unfold Jxc12de_init_da8c8 at h
  refine j_aload_n F 0 rfl rfl dJxc12de_init_da8c8_0 ?_
  obtain ⟨g4, h⟩ := gua h
  refine j_callI (d' := 1) (argl := []) (rk9 := 0) (st := []) F M_Jxa1e45_init_da8c8 q143 rfl q142 ⟨by decide, by decide⟩ (Nat.le_of_ble_eq_true rfl) (by decide) g4 dJxc12de_init_da8c8_1 rfl h (fun z hz => c_Jxa1e45_init_da8c8 l F.ht G x0 M z hz) (fun v1 M2 h kl3 => ?_)
  refine j_st (st' := []) rfl ?_
  refine j_aload_n F 0 rfl rfl dJxc12de_init_da8c8_4 ?_
  refine j_iconst F dJxc12de_init_da8c8_5 ?_
  obtain ⟨g5, h⟩ := gua h
  refine j_put (ty := .int) F ft_Jxc12de_7 rfl rfl tyJx4a65c tyJx4a65c_ok nmJx4a65c (by decide +kernel) (nf_int _) g5 dJxc12de_init_da8c8_6 ?_
  obtain ⟨M6, hM6⟩ : ∃ Z, Z = sF M2 0 0 x0 0 := ⟨_, rfl⟩
  have kl7 : kle M2 M6 := by rw [hM6]; exact kle_sF
  rw [← hM6]
  replace h := pt_as h hM6
  exact j_vret F (v := 0) h dJxc12de_init_da8c8_9
theorem c_Jxc12de_init_da8c8 (l : Launch) (hl : l.stackTraces = false) (G : Gt) (x0 : Int) (M : Mo) (z : RS) (h : Jxc12de_init_da8c8 x0 M = some z) : CT l G yJxc12de_init_da8c8 (cn yJxc12de_init_da8c8 cJxc12de_init_da8c8 1 none) 2 [(false, x0)] M 0 z :=
  ctOf hl (by decide) (Nat.le_of_ble_eq_true rfl) (fun p e R s m args below meth c ρ F hno hnm => w_Jxc12de_init_da8c8_0 F hno hnm x0 M h)
theorem dJx4a65c_init_da8c8_0 : decode cJx4a65c_init_da8c8 0 = .ok (.aload_n 0, 1) := by decide +kernel
set_option maxRecDepth 100000 in
theorem q141 : Cond.code yJxc12de_init_da8c8 cJxc12de_init_da8c8 1 none ∈ GT := gt 141 (rfl) (by decide +kernel)
set_option maxRecDepth 100000 in
theorem q57 : Cond.initialized RJxc12de ∈ GT := gt 57 (by decide +kernel) (by decide +kernel)
theorem M_Jxc12de_init_da8c8 : MY yJxc12de_init_da8c8 cJxc12de_init_da8c8 1 none 0 := ⟨q141, q57, by decide +kernel, by decide +kernel⟩
set_option maxRecDepth 100000 in
theorem q140 : Cond.instanceMethod yJxc12de_init_da8c8 ∈ GT := gt 140 (by decide +kernel) (by decide +kernel)
set_option maxRecDepth 100000 in
theorem q139 : Cond.methodLink RJx4a65c 1 yJxc12de_init_da8c8 ∈ GT := gt 139 (by decide +kernel) (by decide +kernel)
theorem dJx4a65c_init_da8c8_1 : decode cJx4a65c_init_da8c8 1 = .ok (.invokespecial 1, 3) := by decide +kernel
theorem dJx4a65c_init_da8c8_4 : decode cJx4a65c_init_da8c8 4 = .ok (.aload_n 0, 1) := by decide +kernel
set_option maxRecDepth 100000 in
theorem q146 : Cond.fieldLink RJx4a65c 39 "java/util/ArrayList" "DEFAULTCAPACITY_EMPTY_ELEMENTDATA" "[Ljava/lang/Object;" ∈ GT := gt 146 (by decide +kernel) (by decide +kernel)
theorem dJx4a65c_init_da8c8_5 : decode cJx4a65c_init_da8c8 5 = .ok (.getstatic 39, 3) := by decide +kernel
set_option maxRecDepth 100000 in
theorem q148 : Cond.fieldLink RJx4a65c 9 "java/util/ArrayList" "elementData" "[Ljava/lang/Object;" ∈ GT := gt 148 (by decide +kernel) (by decide +kernel)
theorem ft_Jx4a65c_9 : FT RJx4a65c 9 RJx4a65c 0 RJx4a65c TJx4a65c 3 1 := ⟨rfl, by decide, by decide, q148, Or.inl rfl, inGJx4a65c⟩
theorem dJx4a65c_init_da8c8_8 : decode cJx4a65c_init_da8c8 8 = .ok (.putfield 9, 3) := by decide +kernel
theorem dJx4a65c_init_da8c8_11 : decode cJx4a65c_init_da8c8 11 = .ok (.return_, 1) := by decide +kernel
set_option maxHeartbeats 4000000 in
set_option maxRecDepth 100000 in
theorem w_Jx4a65c_init_da8c8_0 {p : Program} {l : Launch} {e : Env} {R : Room} {s : State} {m : MethodId} {args : Array Value} {below : List Frame} {meth : Method} {c : Code} {G : Gt} {ρ0 : Int → Nat} {M0 : Mo} {res : RS} (F : Fx p l R s m args meth c cJx4a65c_init_da8c8 1 RJx4a65c G M0 3 none) (hno : ∀ x ∈ c.exceptionTable.toList, False) (hnm : meth.name = yJx4a65c_init_da8c8.name) (x0 : Int) (M : Mo) (h : Jx4a65c_init_da8c8 x0 M = some res) : J p l e R s m args below meth c 1 G ρ0 M0 0 res M 0 [(0, (false, x0))] [] := by
  unfold Jx4a65c_init_da8c8 at h
  refine j_aload_n F 0 rfl rfl dJx4a65c_init_da8c8_0 ?_
  obtain ⟨g4, h⟩ := gua h
  refine j_callI (d' := 2) (argl := []) (rk9 := 0) (st := []) F M_Jxc12de_init_da8c8 q140 rfl q139 ⟨by decide, by decide⟩ (Nat.le_of_ble_eq_true rfl) (by decide) g4 dJx4a65c_init_da8c8_1 rfl h (fun z hz => c_Jxc12de_init_da8c8 l F.ht G x0 M z hz) (fun v1 M2 h kl3 => ?_)
  refine j_st (st' := []) rfl ?_
  refine j_aload_n F 0 rfl rfl dJx4a65c_init_da8c8_4 ?_
  refine j_empty F q146 dJx4a65c_init_da8c8_5 ?_
  obtain ⟨g5, h⟩ := gua h
  refine j_put (ty := .array (.object "java/lang/Object")) F ft_Jx4a65c_9 rfl rfl tyJx4a65c tyJx4a65c_ok nmJx4a65c (by decide +kernel) (nf_ref (Or.inr ⟨_, rfl⟩) _) g5 dJx4a65c_init_da8c8_8 ?_
  obtain ⟨M6, hM6⟩ : ∃ Z, Z = sF M2 0 1 x0 2 := ⟨_, rfl⟩
  have kl7 : kle M2 M6 := by rw [hM6]; exact kle_sF
  rw [← hM6]
  replace h := pt_as h hM6
  exact j_vret F (v := 0) h dJx4a65c_init_da8c8_11
theorem c_Jx4a65c_init_da8c8 (l : Launch) (hl : l.stackTraces = false) (G : Gt) (x0 : Int) (M : Mo) (z : RS) (h : Jx4a65c_init_da8c8 x0 M = some z) : CT l G yJx4a65c_init_da8c8 (cn yJx4a65c_init_da8c8 cJx4a65c_init_da8c8 1 none) 3 [(false, x0)] M 0 z :=
  ctOf hl (by decide) (Nat.le_of_ble_eq_true rfl) (fun p e R s m args below meth c ρ F hno hnm => w_Jx4a65c_init_da8c8_0 F hno hnm x0 M h)
theorem dJ8_newLength_cabcc_0 : decode cJ8_newLength_cabcc 0 = .ok (.iload_n 0, 1) := by decide +kernel
theorem dJ8_newLength_cabcc_1 : decode cJ8_newLength_cabcc 1 = .ok (.iload_n 1, 1) := by decide +kernel
theorem dJ8_newLength_cabcc_2 : decode cJ8_newLength_cabcc 2 = .ok (.iload_n 2, 1) := by decide +kernel
set_option maxRecDepth 100000 in
theorem q533 : Cond.methodLink RJ8 194 Lib.Math.max.name ∈ GT := gt 533 (by decide +kernel) (by decide +kernel)
theorem dJ8_newLength_cabcc_3 : decode cJ8_newLength_cabcc 3 = .ok (.invokestatic 194, 3) := by decide +kernel
theorem dJ8_newLength_cabcc_6 : decode cJ8_newLength_cabcc 6 = .ok (.iadd, 1) := by decide +kernel
theorem dJ8_newLength_cabcc_7 : decode cJ8_newLength_cabcc 7 = .ok (.istore_n 3, 1) := by decide +kernel
theorem dJ8_newLength_cabcc_8 : decode cJ8_newLength_cabcc 8 = .ok (.iconst 0, 1) := by decide +kernel
theorem dJ8_newLength_cabcc_9 : decode cJ8_newLength_cabcc 9 = .ok (.iload_n 3, 1) := by decide +kernel
theorem dJ8_newLength_cabcc_10 : decode cJ8_newLength_cabcc 10 = .ok (.if_icmp .ge 11, 3) := by decide +kernel
theorem dJ8_newLength_cabcc_13 : decode cJ8_newLength_cabcc 13 = .ok (.iload_n 3, 1) := by decide +kernel
set_option maxRecDepth 100000 in
theorem q536 : Cond.constant RJ8 200 (iI (2147483639)) ∈ GT := gt 536 (by decide +kernel) (by decide +kernel)
theorem dJ8_newLength_cabcc_14 : decode cJ8_newLength_cabcc 14 = .ok (.ldc 200, 2) := by decide +kernel
theorem dJ8_newLength_cabcc_16 : decode cJ8_newLength_cabcc 16 = .ok (.if_icmp .gt 5, 3) := by decide +kernel
theorem dJ8_newLength_cabcc_19 : decode cJ8_newLength_cabcc 19 = .ok (.iload_n 3, 1) := by decide +kernel
theorem dJ8_newLength_cabcc_20 : decode cJ8_newLength_cabcc 20 = .ok (.ireturn, 1) := by decide +kernel
theorem dJ8_newLength_cabcc_21 : decode cJ8_newLength_cabcc 21 = .ok (.iload_n 0, 1) := by decide +kernel
theorem dJ8_newLength_cabcc_22 : decode cJ8_newLength_cabcc 22 = .ok (.iload_n 1, 1) := by decide +kernel
set_option maxHeartbeats 4000000 in
set_option maxRecDepth 100000 in
theorem w_J8_newLength_cabcc_21 {p : Program} {l : Launch} {e : Env} {R : Room} {s : State} {m : MethodId} {args : Array Value} {below : List Frame} {meth : Method} {c : Code} {G : Gt} {ρ0 : Int → Nat} {M0 : Mo} {res : RS} (F : Fx p l R s m args meth c cJ8_newLength_cabcc 4 RJ8 G M0 1 (some FieldType.int)) (hno : ∀ x ∈ c.exceptionTable.toList, False) (hnm : meth.name = yJ8_newLength_cabcc.name) (x0 x1 : Int) (M : Mo) (h : J8_newLength_cabcc_21 x0 x1 M = some res) : J p l e R s m args below meth c 4 G ρ0 M0 1 res M 21 [(0, (true, x0)), (1, (true, x1))] [] := by
  unfold J8_newLength_cabcc_21 at h
  refine j_iload_n F 0 rfl rfl dJ8_newLength_cabcc_21 ?_
  refine j_iload_n F 1 rfl rfl dJ8_newLength_cabcc_22 ?_
  cases h
set_option maxHeartbeats 4000000 in
set_option maxRecDepth 100000 in
theorem w_J8_newLength_cabcc_0 {p : Program} {l : Launch} {e : Env} {R : Room} {s : State} {m : MethodId} {args : Array Value} {below : List Frame} {meth : Method} {c : Code} {G : Gt} {ρ0 : Int → Nat} {M0 : Mo} {res : RS} (F : Fx p l R s m args meth c cJ8_newLength_cabcc 4 RJ8 G M0 1 (some FieldType.int)) (hno : ∀ x ∈ c.exceptionTable.toList, False) (hnm : meth.name = yJ8_newLength_cabcc.name) (x0 x1 x2 : Int) (M : Mo) (h : J8_newLength_cabcc x0 x1 x2 M = some res) : J p l e R s m args below meth c 4 G ρ0 M0 1 res M 0 [(0, (true, x0)), (1, (true, x1)), (2, (true, x2))] [] := by
  unfold J8_newLength_cabcc at h
  refine j_iload_n F 0 rfl rfl dJ8_newLength_cabcc_0 ?_
  refine j_iload_n F 1 rfl rfl dJ8_newLength_cabcc_1 ?_
  refine j_iload_n F 2 rfl rfl dJ8_newLength_cabcc_2 ?_
  refine j_max F ⟨q533, q534, q74, q535⟩ (by decide) (Nat.le_of_ble_eq_true rfl) dJ8_newLength_cabcc_3 ?_
  refine j_iadd F dJ8_newLength_cabcc_6 ?_
  refine j_istore_n F (lv' := [(3, (true, (x0 + (mxx x1 x2)))), (0, (true, x0)), (1, (true, x1)), (2, (true, x2))]) rfl (by decide) rfl dJ8_newLength_cabcc_7 ?_
  refine j_iconst F dJ8_newLength_cabcc_8 ?_
  refine j_iload_n F 0 rfl rfl dJ8_newLength_cabcc_9 ?_
  refine j_icmp_ge F 21 (by decide) dJ8_newLength_cabcc_10 h (fun h => ?_) (fun h => ?_)
  · skip
    refine j_sub (lv' := [(0, (true, x0)), (1, (true, x1))]) [1, 2] rfl ?_
    exact w_J8_newLength_cabcc_21 F hno hnm x0 x1 M h
  · skip
    refine j_iload_n F 0 rfl rfl dJ8_newLength_cabcc_13 ?_
    refine j_ldc (n := 2147483639) F q536 dJ8_newLength_cabcc_14 ?_
    refine j_icmp_gt F 21 (by decide) dJ8_newLength_cabcc_16 h (fun h => ?_) (fun h => ?_)
    · skip
      refine j_sub (lv' := [(0, (true, x0)), (1, (true, x1))]) [1, 2] rfl ?_
      exact w_J8_newLength_cabcc_21 F hno hnm x0 x1 M h
    · skip
      refine j_iload_n F 0 rfl rfl dJ8_newLength_cabcc_19 ?_
      exact j_iret F h dJ8_newLength_cabcc_20
theorem c_J8_newLength_cabcc (l : Launch) (hl : l.stackTraces = false) (G : Gt) (x0 x1 x2 : Int) (M : Mo) (z : RS) (h : J8_newLength_cabcc x0 x1 x2 M = some z) : CT l G yJ8_newLength_cabcc (cn yJ8_newLength_cabcc cJ8_newLength_cabcc 4 (some FieldType.int)) 1 [(true, x0), (true, x1), (true, x2)] M 1 z :=
  ctOf hl (by decide) (Nat.le_of_ble_eq_true rfl) (fun p e R s m args below meth c ρ F hno hnm => w_J8_newLength_cabcc_0 F hno hnm x0 x1 x2 M h)
theorem dJ7_copyOf_6403c_0 : decode cJ7_copyOf_6403c 0 = .ok (.aload_n 2, 1) := by decide +kernel
set_option maxRecDepth 100000 in
theorem q566 : Cond.classLink RJ7 110 "[Ljava/lang/Object;" ∈ GT := gt 566 (by decide +kernel) (by decide +kernel)
theorem dJ7_copyOf_6403c_1 : decode cJ7_copyOf_6403c 1 = .ok (.ldc 110, 2) := by decide +kernel
theorem dJ7_copyOf_6403c_3 : decode cJ7_copyOf_6403c 3 = .ok (.if_acmp .ne 10, 3) := by decide +kernel
theorem dJ7_copyOf_6403c_13 : decode cJ7_copyOf_6403c 13 = .ok (.aload_n 2, 1) := by decide +kernel
theorem dJ7_copyOf_6403c_6 : decode cJ7_copyOf_6403c 6 = .ok (.iload_n 1, 1) := by decide +kernel
set_option maxRecDepth 100000 in
theorem q568 : Cond.classLink RJ7 2 "java/lang/Object" ∈ GT := gt 568 (by decide +kernel) (by decide +kernel)
theorem dJ7_copyOf_6403c_7 : decode cJ7_copyOf_6403c 7 = .ok (.anewarray 2, 3) := by decide +kernel
theorem dJ7_copyOf_6403c_10 : decode cJ7_copyOf_6403c 10 = .ok (.goto 14, 3) := by decide +kernel
theorem dJ7_copyOf_6403c_24 : decode cJ7_copyOf_6403c 24 = .ok (.astore_n 3, 1) := by decide +kernel
theorem dJ7_copyOf_6403c_25 : decode cJ7_copyOf_6403c 25 = .ok (.aload_n 0, 1) := by decide +kernel
theorem dJ7_copyOf_6403c_26 : decode cJ7_copyOf_6403c 26 = .ok (.iconst 0, 1) := by decide +kernel
theorem dJ7_copyOf_6403c_27 : decode cJ7_copyOf_6403c 27 = .ok (.aload_n 3, 1) := by decide +kernel
theorem dJ7_copyOf_6403c_28 : decode cJ7_copyOf_6403c 28 = .ok (.iconst 0, 1) := by decide +kernel
theorem dJ7_copyOf_6403c_29 : decode cJ7_copyOf_6403c 29 = .ok (.aload_n 0, 1) := by decide +kernel
theorem dJ7_copyOf_6403c_30 : decode cJ7_copyOf_6403c 30 = .ok (.arraylength, 1) := by decide +kernel
theorem dJ7_copyOf_6403c_31 : decode cJ7_copyOf_6403c 31 = .ok (.iload_n 1, 1) := by decide +kernel
set_option maxRecDepth 100000 in
theorem q569 : Cond.methodLink RJ7 304 Lib.Math.min.name ∈ GT := gt 569 (by decide +kernel) (by decide +kernel)
theorem dJ7_copyOf_6403c_32 : decode cJ7_copyOf_6403c 32 = .ok (.invokestatic 304, 3) := by decide +kernel
set_option maxRecDepth 100000 in
theorem q572 : Cond.methodLink RJ7 150 arraycopyName ∈ GT := gt 572 (by decide +kernel) (by decide +kernel)
theorem dJ7_copyOf_6403c_35 : decode cJ7_copyOf_6403c 35 = .ok (.invokestatic 150, 3) := by decide +kernel
theorem dJ7_copyOf_6403c_38 : decode cJ7_copyOf_6403c 38 = .ok (.aload_n 3, 1) := by decide +kernel
theorem dJ7_copyOf_6403c_39 : decode cJ7_copyOf_6403c 39 = .ok (.areturn, 1) := by decide +kernel
set_option maxHeartbeats 4000000 in
set_option maxRecDepth 100000 in
theorem w_J7_copyOf_6403c_0 {p : Program} {l : Launch} {e : Env} {R : Room} {s : State} {m : MethodId} {args : Array Value} {below : List Frame} {meth : Method} {c : Code} {G : Gt} {ρ0 : Int → Nat} {M0 : Mo} {res : RS} (F : Fx p l R s m args meth c cJ7_copyOf_6403c 4 RJ7 G M0 1 (some (FieldType.array (FieldType.object "java/lang/Object")))) (hno : ∀ x ∈ c.exceptionTable.toList, False) (hnm : meth.name = yJ7_copyOf_6403c.name) (x0 x1 x2 : Int) (M : Mo) (h : J7_copyOf_6403c x0 x1 x2 M = some res) : J p l e R s m args below meth c 4 G ρ0 M0 2 res M 0 [(0, (false, x0)), (1, (true, x1)), (2, (false, x2))] [] := by
  unfold J7_copyOf_6403c at h
  refine j_aload_n F 2 rfl rfl dJ7_copyOf_6403c_0 ?_
  refine j_ldcM F q566 dJ7_copyOf_6403c_1 ?_
  obtain ⟨g1, h⟩ := gua h
  refine j_acmp_ne F 13 g1 (by decide) dJ7_copyOf_6403c_3 h (fun h => ?_) (fun h => ?_)
  · skip
    refine j_aload_n F 2 rfl rfl dJ7_copyOf_6403c_13 ?_
    cases h
  · skip
    refine j_iload_n F 1 rfl rfl dJ7_copyOf_6403c_6 ?_
    obtain ⟨g2, h⟩ := gua h
    obtain ⟨g3, h⟩ := gua h
    refine j_anewa F 10 3 (by decide) rfl q568 F.2.2.2.2.2.1.1.1.2.2.2.2.2 g2 g3 dJ7_copyOf_6403c_7 (fun kl4 => ?_)
    obtain ⟨M5, hM5⟩ : ∃ Z, Z = nA M 10 (wr x1) := ⟨_, rfl⟩
    have g6 : kd M5 (nid M) = 110 := by rw [hM5]; exact kd_nA
    rw [← hM5] at kl4 ⊢
    replace h := pt_as h hM5
    refine j_goto F 24 (by decide) dJ7_copyOf_6403c_10 ?_
    refine j_astore_n F (lv' := [(3, (false, (nid M))), (0, (false, x0)), (1, (true, x1)), (2, (false, x2))]) rfl (by decide) rfl dJ7_copyOf_6403c_24 ?_
    refine j_aload_n F 1 rfl rfl dJ7_copyOf_6403c_25 ?_
    refine j_iconst F dJ7_copyOf_6403c_26 ?_
    refine j_aload_n F 0 rfl rfl dJ7_copyOf_6403c_27 ?_
    refine j_iconst F dJ7_copyOf_6403c_28 ?_
    refine j_aload_n F 1 rfl rfl dJ7_copyOf_6403c_29 ?_
    obtain ⟨g7, h⟩ := gua h
    refine j_alen F g7 dJ7_copyOf_6403c_30 ?_
    refine j_iload_n F 2 rfl rfl dJ7_copyOf_6403c_31 ?_
    refine j_min F ⟨q569, q570, q74, q571⟩ (by decide) (Nat.le_of_ble_eq_true rfl) dJ7_copyOf_6403c_32 ?_
    obtain ⟨g8, h⟩ := gua h
    obtain ⟨g9, h⟩ := gua h
    refine j_copyO F castO ⟨q572, q574, q573, q71⟩ g8 g6 g9 (by decide) (Nat.le_of_ble_eq_true rfl) dJ7_copyOf_6403c_35 ?_
    obtain ⟨M10, hM10⟩ : ∃ Z, Z = cpE M5 10 x0 (wr 0) (nid M) (wr 0) (wr (mnn (ln M5 x0) x1)) := ⟨_, rfl⟩
    have kl11 : kle M5 M10 := by rw [hM10]; exact kle_cpE
    rw [← hM10]
    replace h := pt_as h hM10
    refine j_aload_n F 0 rfl rfl dJ7_copyOf_6403c_38 ?_
    exact j_aret F (Or.inr ⟨_, rfl⟩) h dJ7_copyOf_6403c_39
theorem c_J7_copyOf_6403c (l : Launch) (hl : l.stackTraces = false) (G : Gt) (x0 x1 x2 : Int) (M : Mo) (z : RS) (h : J7_copyOf_6403c x0 x1 x2 M = some z) : CT l G yJ7_copyOf_6403c (cn yJ7_copyOf_6403c cJ7_copyOf_6403c 4 (some (FieldType.array (FieldType.object "java/lang/Object")))) 1 [(false, x0), (true, x1), (false, x2)] M 2 z :=
  ctOf hl (by decide) (Nat.le_of_ble_eq_true rfl) (fun p e R s m args below meth c ρ F hno hnm => w_J7_copyOf_6403c_0 F hno hnm x0 x1 x2 M h)
theorem dJ7_copyOf_1904c_0 : decode cJ7_copyOf_1904c 0 = .ok (.aload_n 0, 1) := by decide +kernel
theorem dJ7_copyOf_1904c_1 : decode cJ7_copyOf_1904c 1 = .ok (.iload_n 1, 1) := by decide +kernel
theorem dJ7_copyOf_1904c_2 : decode cJ7_copyOf_1904c 2 = .ok (.aload_n 0, 1) := by decide +kernel
set_option maxRecDepth 100000 in
theorem q543 : Cond.methodLink RJ7 86 ⟨"java/lang/Object", "getClass", "()Ljava/lang/Class;"⟩ ∈ GT := gt 543 (by decide +kernel) (by decide +kernel)
set_option maxRecDepth 100000 in
theorem q1708 : Cond.selects "[Ljava/lang/Object;" ⟨"java/lang/Object", "getClass", "()Ljava/lang/Class;"⟩ ⟨"java/lang/Object", "getClass", "()Ljava/lang/Class;"⟩ ∈ GT := gt 1708 (by decide +kernel) (by decide +kernel)
set_option maxRecDepth 100000 in
theorem q544 : Cond.instanceMethod ⟨"java/lang/Object", "getClass", "()Ljava/lang/Class;"⟩ ∈ GT := gt 544 (by decide +kernel) (by decide +kernel)
set_option maxRecDepth 100000 in
theorem q562 : Cond.native ⟨"java/lang/Object", "getClass", "()Ljava/lang/Class;"⟩ ∈ GT := gt 562 (by decide +kernel) (by decide +kernel)
theorem dJ7_copyOf_1904c_3 : decode cJ7_copyOf_1904c 3 = .ok (.invokevirtual 86, 3) := by decide +kernel
set_option maxRecDepth 100000 in
theorem q565 : Cond.code yJ7_copyOf_6403c cJ7_copyOf_6403c 4 (some (FieldType.array (FieldType.object "java/lang/Object"))) ∈ GT := gt 565 (rfl) (by decide +kernel)
set_option maxRecDepth 100000 in
theorem q64 : Cond.initialized RJ7 ∈ GT := gt 64 (by decide +kernel) (by decide +kernel)
theorem M_J7_copyOf_6403c : MY yJ7_copyOf_6403c cJ7_copyOf_6403c 4 (some (FieldType.array (FieldType.object "java/lang/Object"))) 3 := ⟨q565, q64, by decide +kernel, by decide +kernel⟩
set_option maxRecDepth 100000 in
theorem q564 : Cond.static yJ7_copyOf_6403c ∈ GT := gt 564 (by decide +kernel) (by decide +kernel)
set_option maxRecDepth 100000 in
theorem q563 : Cond.methodLink RJ7 300 yJ7_copyOf_6403c ∈ GT := gt 563 (by decide +kernel) (by decide +kernel)
theorem dJ7_copyOf_1904c_6 : decode cJ7_copyOf_1904c 6 = .ok (.invokestatic 300, 3) := by decide +kernel
theorem dJ7_copyOf_1904c_9 : decode cJ7_copyOf_1904c 9 = .ok (.areturn, 1) := by decide +kernel
set_option maxHeartbeats 4000000 in
set_option maxRecDepth 100000 in
theorem w_J7_copyOf_1904c_0 {p : Program} {l : Launch} {e : Env} {R : Room} {s : State} {m : MethodId} {args : Array Value} {below : List Frame} {meth : Method} {c : Code} {G : Gt} {ρ0 : Int → Nat} {M0 : Mo} {res : RS} (F : Fx p l R s m args meth c cJ7_copyOf_1904c 2 RJ7 G M0 2 (some (FieldType.array (FieldType.object "java/lang/Object")))) (hno : ∀ x ∈ c.exceptionTable.toList, False) (hnm : meth.name = yJ7_copyOf_1904c.name) (x0 x1 : Int) (M : Mo) (h : J7_copyOf_1904c x0 x1 M = some res) : J p l e R s m args below meth c 2 G ρ0 M0 2 res M 0 [(0, (false, x0)), (1, (true, x1))] [] := by
  unfold J7_copyOf_1904c at h
  refine j_aload_n F 0 rfl rfl dJ7_copyOf_1904c_0 ?_
  refine j_iload_n F 1 rfl rfl dJ7_copyOf_1904c_1 ?_
  refine j_aload_n F 0 rfl rfl dJ7_copyOf_1904c_2 ?_
  obtain ⟨g1, h⟩ := gua h
  refine j_getC F ⟨q543, q1708, q544, q562⟩ g1 (by decide) (Nat.le_of_ble_eq_true rfl) dJ7_copyOf_1904c_3 ?_
  refine j_callS (d' := 1) (argl := [(false, x0), (true, x1), (false, 4)]) (rk9 := 2) (st := []) F hno M_J7_copyOf_6403c q564 q563 ⟨by decide, by decide⟩ (Nat.le_of_ble_eq_true rfl) (by decide) dJ7_copyOf_1904c_6 rfl h (fun z hz => c_J7_copyOf_6403c l F.ht G x0 x1 4 M z hz) (fun v2 M3 h kl4 => ?_)
  refine j_st (st' := [(false, v2)]) rfl ?_
  exact j_aret F (Or.inr ⟨_, rfl⟩) h dJ7_copyOf_1904c_9
theorem c_J7_copyOf_1904c (l : Launch) (hl : l.stackTraces = false) (G : Gt) (x0 x1 : Int) (M : Mo) (z : RS) (h : J7_copyOf_1904c x0 x1 M = some z) : CT l G yJ7_copyOf_1904c (cn yJ7_copyOf_1904c cJ7_copyOf_1904c 2 (some (FieldType.array (FieldType.object "java/lang/Object")))) 2 [(false, x0), (true, x1)] M 2 z :=
  ctOf hl (by decide) (Nat.le_of_ble_eq_true rfl) (fun p e R s m args below meth c ρ F hno hnm => w_J7_copyOf_1904c_0 F hno hnm x0 x1 M h)
theorem dJx4a65c_grow_92f84_0 : decode cJx4a65c_grow_92f84 0 = .ok (.aload_n 0, 1) := by decide +kernel
theorem dJx4a65c_grow_92f84_1 : decode cJx4a65c_grow_92f84 1 = .ok (.getfield 9, 3) := by decide +kernel
theorem dJx4a65c_grow_92f84_4 : decode cJx4a65c_grow_92f84 4 = .ok (.arraylength, 1) := by decide +kernel
theorem dJx4a65c_grow_92f84_5 : decode cJx4a65c_grow_92f84 5 = .ok (.istore_n 2, 1) := by decide +kernel
theorem dJx4a65c_grow_92f84_6 : decode cJx4a65c_grow_92f84 6 = .ok (.iload_n 2, 1) := by decide +kernel
theorem dJx4a65c_grow_92f84_7 : decode cJx4a65c_grow_92f84 7 = .ok (.ifCond .gt 13, 3) := by decide +kernel
theorem dJx4a65c_grow_92f84_10 : decode cJx4a65c_grow_92f84 10 = .ok (.aload_n 0, 1) := by decide +kernel
theorem dJx4a65c_grow_92f84_11 : decode cJx4a65c_grow_92f84 11 = .ok (.getfield 9, 3) := by decide +kernel
theorem dJx4a65c_grow_92f84_14 : decode cJx4a65c_grow_92f84 14 = .ok (.getstatic 39, 3) := by decide +kernel
theorem dJx4a65c_grow_92f84_17 : decode cJx4a65c_grow_92f84 17 = .ok (.if_acmp .eq 28, 3) := by decide +kernel
theorem dJx4a65c_grow_92f84_45 : decode cJx4a65c_grow_92f84 45 = .ok (.aload_n 0, 1) := by decide +kernel
theorem dJx4a65c_grow_92f84_46 : decode cJx4a65c_grow_92f84 46 = .ok (.bipush 10, 2) := by decide +kernel
theorem dJx4a65c_grow_92f84_48 : decode cJx4a65c_grow_92f84 48 = .ok (.iload_n 1, 1) := by decide +kernel
set_option maxRecDepth 100000 in
theorem q575 : Cond.methodLink RJx4a65c 79 Lib.Math.max.name ∈ GT := gt 575 (by decide +kernel) (by decide +kernel)
theorem dJx4a65c_grow_92f84_49 : decode cJx4a65c_grow_92f84 49 = .ok (.invokestatic 79, 3) := by decide +kernel
set_option maxRecDepth 100000 in
theorem q576 : Cond.classLink RJx4a65c 7 "java/lang/Object" ∈ GT := gt 576 (by decide +kernel) (by decide +kernel)
theorem dJx4a65c_grow_92f84_52 : decode cJx4a65c_grow_92f84 52 = .ok (.anewarray 7, 3) := by decide +kernel
theorem dJx4a65c_grow_92f84_55 : decode cJx4a65c_grow_92f84 55 = .ok (.dup_x1, 1) := by decide +kernel
theorem dJx4a65c_grow_92f84_56 : decode cJx4a65c_grow_92f84 56 = .ok (.putfield 9, 3) := by decide +kernel
theorem dJx4a65c_grow_92f84_59 : decode cJx4a65c_grow_92f84 59 = .ok (.areturn, 1) := by decide +kernel
theorem dJx4a65c_grow_92f84_20 : decode cJx4a65c_grow_92f84 20 = .ok (.iload_n 2, 1) := by decide +kernel
theorem dJx4a65c_grow_92f84_21 : decode cJx4a65c_grow_92f84 21 = .ok (.iload_n 1, 1) := by decide +kernel
theorem dJx4a65c_grow_92f84_22 : decode cJx4a65c_grow_92f84 22 = .ok (.iload_n 2, 1) := by decide +kernel
theorem dJx4a65c_grow_92f84_23 : decode cJx4a65c_grow_92f84 23 = .ok (.isub, 1) := by decide +kernel
theorem dJx4a65c_grow_92f84_24 : decode cJx4a65c_grow_92f84 24 = .ok (.iload_n 2, 1) := by decide +kernel
theorem dJx4a65c_grow_92f84_25 : decode cJx4a65c_grow_92f84 25 = .ok (.iconst 1, 1) := by decide +kernel
theorem dJx4a65c_grow_92f84_26 : decode cJx4a65c_grow_92f84 26 = .ok (.ishr, 1) := by decide +kernel
set_option maxRecDepth 100000 in
theorem q532 : Cond.code yJ8_newLength_cabcc cJ8_newLength_cabcc 4 (some FieldType.int) ∈ GT := gt 532 (rfl) (by decide +kernel)
set_option maxRecDepth 100000 in
theorem q73 : Cond.initialized RJ8 ∈ GT := gt 73 (by decide +kernel) (by decide +kernel)
theorem M_J8_newLength_cabcc : MY yJ8_newLength_cabcc cJ8_newLength_cabcc 4 (some FieldType.int) 3 := ⟨q532, q73, by decide +kernel, by decide +kernel⟩
set_option maxRecDepth 100000 in
theorem q531 : Cond.static yJ8_newLength_cabcc ∈ GT := gt 531 (by decide +kernel) (by decide +kernel)
set_option maxRecDepth 100000 in
theorem q530 : Cond.methodLink RJx4a65c 73 yJ8_newLength_cabcc ∈ GT := gt 530 (by decide +kernel) (by decide +kernel)
theorem dJx4a65c_grow_92f84_27 : decode cJx4a65c_grow_92f84 27 = .ok (.invokestatic 73, 3) := by decide +kernel
theorem dJx4a65c_grow_92f84_30 : decode cJx4a65c_grow_92f84 30 = .ok (.istore_n 3, 1) := by decide +kernel
theorem dJx4a65c_grow_92f84_31 : decode cJx4a65c_grow_92f84 31 = .ok (.aload_n 0, 1) := by decide +kernel
theorem dJx4a65c_grow_92f84_32 : decode cJx4a65c_grow_92f84 32 = .ok (.aload_n 0, 1) := by decide +kernel
theorem dJx4a65c_grow_92f84_33 : decode cJx4a65c_grow_92f84 33 = .ok (.getfield 9, 3) := by decide +kernel
theorem dJx4a65c_grow_92f84_36 : decode cJx4a65c_grow_92f84 36 = .ok (.iload_n 3, 1) := by decide +kernel
set_option maxRecDepth 100000 in
theorem q542 : Cond.code yJ7_copyOf_1904c cJ7_copyOf_1904c 2 (some (FieldType.array (FieldType.object "java/lang/Object"))) ∈ GT := gt 542 (rfl) (by decide +kernel)
theorem M_J7_copyOf_1904c : MY yJ7_copyOf_1904c cJ7_copyOf_1904c 2 (some (FieldType.array (FieldType.object "java/lang/Object"))) 2 := ⟨q542, q64, by decide +kernel, by decide +kernel⟩
set_option maxRecDepth 100000 in
theorem q541 : Cond.static yJ7_copyOf_1904c ∈ GT := gt 541 (by decide +kernel) (by decide +kernel)
set_option maxRecDepth 100000 in
theorem q540 : Cond.methodLink RJx4a65c 66 yJ7_copyOf_1904c ∈ GT := gt 540 (by decide +kernel) (by decide +kernel)
theorem dJx4a65c_grow_92f84_37 : decode cJx4a65c_grow_92f84 37 = .ok (.invokestatic 66, 3) := by decide +kernel
theorem dJx4a65c_grow_92f84_40 : decode cJx4a65c_grow_92f84 40 = .ok (.dup_x1, 1) := by decide +kernel
theorem dJx4a65c_grow_92f84_41 : decode cJx4a65c_grow_92f84 41 = .ok (.putfield 9, 3) := by decide +kernel
theorem dJx4a65c_grow_92f84_44 : decode cJx4a65c_grow_92f84 44 = .ok (.areturn, 1) := by decide +kernel
set_option maxHeartbeats 4000000 in
set_option maxRecDepth 100000 in
theorem w_Jx4a65c_grow_92f84_20 {p : Program} {l : Launch} {e : Env} {R : Room} {s : State} {m : MethodId} {args : Array Value} {below : List Frame} {meth : Method} {c : Code} {G : Gt} {ρ0 : Int → Nat} {M0 : Mo} {res : RS} (F : Fx p l R s m args meth c cJx4a65c_grow_92f84 4 RJx4a65c G M0 3 (some (FieldType.array (FieldType.object "java/lang/Object")))) (hno : ∀ x ∈ c.exceptionTable.toList, False) (hnm : meth.name = yJx4a65c_grow_92f84.name) (x0 x1 x2 : Int) (M : Mo) (h : Jx4a65c_grow_92f84_20 x0 x1 x2 M = some res) : J p l e R s m args below meth c 4 G ρ0 M0 2 res M 20 [(0, (false, x0)), (1, (true, x1)), (2, (true, x2))] [] := by
  unfold Jx4a65c_grow_92f84_20 at h
  refine j_iload_n F 2 rfl rfl dJx4a65c_grow_92f84_20 ?_
  refine j_iload_n F 1 rfl rfl dJx4a65c_grow_92f84_21 ?_
  refine j_iload_n F 2 rfl rfl dJx4a65c_grow_92f84_22 ?_
  refine j_isub F dJx4a65c_grow_92f84_23 ?_
  refine j_iload_n F 2 rfl rfl dJx4a65c_grow_92f84_24 ?_
  refine j_iconst F dJx4a65c_grow_92f84_25 ?_
  refine j_ishr F dJx4a65c_grow_92f84_26 ?_
  refine j_callS (d' := 1) (argl := [(true, x2), (true, (x1 - x2)), (true, (ishr x2 1))]) (rk9 := 1) (st := []) F hno M_J8_newLength_cabcc q531 q530 ⟨by decide, by decide⟩ (Nat.le_of_ble_eq_true rfl) (by decide) dJx4a65c_grow_92f84_27 rfl h (fun z hz => c_J8_newLength_cabcc l F.ht G x2 (x1 - x2) (ishr x2 1) M z hz) (fun v1 M2 h kl3 => ?_)
  refine j_st (st' := [(true, v1)]) rfl ?_
  refine j_istore_n F (lv' := [(3, (true, v1)), (0, (false, x0)), (1, (true, x1)), (2, (true, x2))]) rfl (by decide) rfl dJx4a65c_grow_92f84_30 ?_
  refine j_aload_n F 1 rfl rfl dJx4a65c_grow_92f84_31 ?_
  refine j_aload_n F 1 rfl rfl dJx4a65c_grow_92f84_32 ?_
  obtain ⟨g4, h⟩ := gua h
  refine j_get F ft_Jx4a65c_9 rfl g4 dJx4a65c_grow_92f84_33 ?_
  refine j_iload_n F 0 rfl rfl dJx4a65c_grow_92f84_36 ?_
  refine j_callS (d' := 2) (argl := [(false, (fd M2 0 1 x0)), (true, v1)]) (rk9 := 2) (st := [(false, x0)]) F hno M_J7_copyOf_1904c q541 q540 ⟨by decide, by decide⟩ (Nat.le_of_ble_eq_true rfl) (by decide) dJx4a65c_grow_92f84_37 rfl h (fun z hz => c_J7_copyOf_1904c l F.ht G (fd M2 0 1 x0) v1 M2 z hz) (fun v5 M6 h kl7 => ?_)
  refine j_st (st' := [(false, v5), (false, x0)]) rfl ?_
  refine j_dup_x1 F dJx4a65c_grow_92f84_40 ?_
  refine j_put (ty := .array (.object "java/lang/Object")) F ft_Jx4a65c_9 rfl rfl tyJx4a65c tyJx4a65c_ok nmJx4a65c (by decide +kernel) (nf_ref (Or.inr ⟨_, rfl⟩) _) (kl7.is g4) dJx4a65c_grow_92f84_41 ?_
  obtain ⟨M8, hM8⟩ : ∃ Z, Z = sF M6 0 1 x0 v5 := ⟨_, rfl⟩
  have kl9 : kle M6 M8 := by rw [hM8]; exact kle_sF
  rw [← hM8]
  replace h := pt_as h hM8
  exact j_aret F (Or.inr ⟨_, rfl⟩) h dJx4a65c_grow_92f84_44
set_option maxHeartbeats 4000000 in
set_option maxRecDepth 100000 in
theorem w_Jx4a65c_grow_92f84_0 {p : Program} {l : Launch} {e : Env} {R : Room} {s : State} {m : MethodId} {args : Array Value} {below : List Frame} {meth : Method} {c : Code} {G : Gt} {ρ0 : Int → Nat} {M0 : Mo} {res : RS} (F : Fx p l R s m args meth c cJx4a65c_grow_92f84 4 RJx4a65c G M0 3 (some (FieldType.array (FieldType.object "java/lang/Object")))) (hno : ∀ x ∈ c.exceptionTable.toList, False) (hnm : meth.name = yJx4a65c_grow_92f84.name) (x0 x1 : Int) (M : Mo) (h : Jx4a65c_grow_92f84 x0 x1 M = some res) : J p l e R s m args below meth c 4 G ρ0 M0 2 res M 0 [(0, (false, x0)), (1, (true, x1))] [] := by
  unfold Jx4a65c_grow_92f84 at h
  refine j_aload_n F 0 rfl rfl dJx4a65c_grow_92f84_0 ?_
  obtain ⟨g1, h⟩ := gua h
  refine j_get F ft_Jx4a65c_9 rfl g1 dJx4a65c_grow_92f84_1 ?_
  obtain ⟨g2, h⟩ := gua h
  refine j_alen F g2 dJx4a65c_grow_92f84_4 ?_
  refine j_istore_n F (lv' := [(2, (true, (ln M (fd M 0 1 x0)))), (0, (false, x0)), (1, (true, x1))]) rfl (by decide) rfl dJx4a65c_grow_92f84_5 ?_
  refine j_iload_n F 0 rfl rfl dJx4a65c_grow_92f84_6 ?_
  refine j_if_gt F 20 (by decide) dJx4a65c_grow_92f84_7 h (fun h => ?_) (fun h => ?_)
  · skip
    refine j_sub (lv' := [(0, (false, x0)), (1, (true, x1)), (2, (true, (ln M (fd M 0 1 x0))))]) [1, 2, 0] rfl ?_
    exact w_Jx4a65c_grow_92f84_20 F hno hnm x0 x1 (ln M (fd M 0 1 x0)) M h
  · skip
    refine j_aload_n F 1 rfl rfl dJx4a65c_grow_92f84_10 ?_
    refine j_get F ft_Jx4a65c_9 rfl g1 dJx4a65c_grow_92f84_11 ?_
    refine j_empty F q146 dJx4a65c_grow_92f84_14 ?_
    obtain ⟨g3, h⟩ := gua h
    refine j_acmp_eq F 45 g3 (by decide) dJx4a65c_grow_92f84_17 h (fun h => ?_) (fun h => ?_)
    · skip
      refine j_aload_n F 1 rfl rfl dJx4a65c_grow_92f84_45 ?_
      refine j_bipush F (by decide) dJx4a65c_grow_92f84_46 ?_
      refine j_iload_n F 2 rfl rfl dJx4a65c_grow_92f84_48 ?_
      refine j_max F ⟨q575, q534, q74, q535⟩ (by decide) (Nat.le_of_ble_eq_true rfl) dJx4a65c_grow_92f84_49 ?_
      obtain ⟨g4, h⟩ := gua h
      obtain ⟨g5, h⟩ := gua h
      refine j_anewa F 10 3 (by decide) rfl q576 F.2.2.2.2.2.1.1.1.2.2.2.2.2 g4 g5 dJx4a65c_grow_92f84_52 (fun kl6 => ?_)
      obtain ⟨M7, hM7⟩ : ∃ Z, Z = nA M 10 (wr (mxx 10 x1)) := ⟨_, rfl⟩
      have g8 : kd M7 (nid M) = 110 := by rw [hM7]; exact kd_nA
      rw [← hM7] at kl6 ⊢
      replace h := pt_as h hM7
      refine j_dup_x1 F dJx4a65c_grow_92f84_55 ?_
      refine j_put (ty := .array (.object "java/lang/Object")) F ft_Jx4a65c_9 rfl rfl tyJx4a65c tyJx4a65c_ok nmJx4a65c (by decide +kernel) (nf_ref (Or.inr ⟨_, rfl⟩) _) (kl6.is g1) dJx4a65c_grow_92f84_56 ?_
      obtain ⟨M9, hM9⟩ : ∃ Z, Z = sF M7 0 1 x0 (nid M) := ⟨_, rfl⟩
      have kl10 : kle M7 M9 := by rw [hM9]; exact kle_sF
      rw [← hM9]
      replace h := pt_as h hM9
      exact j_aret F (Or.inr ⟨_, rfl⟩) h dJx4a65c_grow_92f84_59
    · skip
      refine j_sub (lv' := [(0, (false, x0)), (1, (true, x1)), (2, (true, (ln M (fd M 0 1 x0))))]) [1, 2, 0] rfl ?_
      exact w_Jx4a65c_grow_92f84_20 F hno hnm x0 x1 (ln M (fd M 0 1 x0)) M h
theorem c_Jx4a65c_grow_92f84 (l : Launch) (hl : l.stackTraces = false) (G : Gt) (x0 x1 : Int) (M : Mo) (z : RS) (h : Jx4a65c_grow_92f84 x0 x1 M = some z) : CT l G yJx4a65c_grow_92f84 (cn yJx4a65c_grow_92f84 cJx4a65c_grow_92f84 4 (some (FieldType.array (FieldType.object "java/lang/Object")))) 3 [(false, x0), (true, x1)] M 2 z :=
  ctOf hl (by decide) (Nat.le_of_ble_eq_true rfl) (fun p e R s m args below meth c ρ F hno hnm => w_Jx4a65c_grow_92f84_0 F hno hnm x0 x1 M h)
theorem dJx4a65c_grow_d5877_0 : decode cJx4a65c_grow_d5877 0 = .ok (.aload_n 0, 1) := by decide +kernel
theorem dJx4a65c_grow_d5877_1 : decode cJx4a65c_grow_d5877 1 = .ok (.aload_n 0, 1) := by decide +kernel
set_option maxRecDepth 100000 in
theorem q149 : Cond.fieldLink RJx4a65c 48 "java/util/ArrayList" "size" "I" ∈ GT := gt 149 (by decide +kernel) (by decide +kernel)
theorem ft_Jx4a65c_48 : FT RJx4a65c 48 RJx4a65c 0 RJx4a65c TJx4a65c 3 2 := ⟨rfl, by decide, by decide, q149, Or.inl rfl, inGJx4a65c⟩
theorem dJx4a65c_grow_d5877_2 : decode cJx4a65c_grow_d5877 2 = .ok (.getfield 48, 3) := by decide +kernel
theorem dJx4a65c_grow_d5877_5 : decode cJx4a65c_grow_d5877 5 = .ok (.iconst 1, 1) := by decide +kernel
theorem dJx4a65c_grow_d5877_6 : decode cJx4a65c_grow_d5877 6 = .ok (.iadd, 1) := by decide +kernel
set_option maxRecDepth 100000 in
theorem q529 : Cond.code yJx4a65c_grow_92f84 cJx4a65c_grow_92f84 4 (some (FieldType.array (FieldType.object "java/lang/Object"))) ∈ GT := gt 529 (rfl) (by decide +kernel)
set_option maxRecDepth 100000 in
theorem q58 : Cond.initialized RJx4a65c ∈ GT := gt 58 (by decide +kernel) (by decide +kernel)
theorem M_Jx4a65c_grow_92f84 : MY yJx4a65c_grow_92f84 cJx4a65c_grow_92f84 4 (some (FieldType.array (FieldType.object "java/lang/Object"))) 1 := ⟨q529, q58, by decide +kernel, by decide +kernel⟩
set_option maxRecDepth 100000 in
theorem q528 : Cond.instanceMethod yJx4a65c_grow_92f84 ∈ GT := gt 528 (by decide +kernel) (by decide +kernel)
set_option maxRecDepth 100000 in
theorem q3 : Cond.selects RJx4a65c yJx4a65c_grow_92f84 yJx4a65c_grow_92f84 ∈ GT := gt 3 (by decide +kernel) (by decide +kernel)
set_option maxRecDepth 100000 in
theorem q526 : Cond.methodLink RJx4a65c 69 yJx4a65c_grow_92f84 ∈ GT := gt 526 (by decide +kernel) (by decide +kernel)
theorem dJx4a65c_grow_d5877_7 : decode cJx4a65c_grow_d5877 7 = .ok (.invokevirtual 69, 3) := by decide +kernel
theorem dJx4a65c_grow_d5877_10 : decode cJx4a65c_grow_d5877 10 = .ok (.areturn, 1) := by decide +kernel
set_option maxHeartbeats 4000000 in
set_option maxRecDepth 100000 in
theorem w_Jx4a65c_grow_d5877_0 {p : Program} {l : Launch} {e : Env} {R : Room} {s : State} {m : MethodId} {args : Array Value} {below : List Frame} {meth : Method} {c : Code} {G : Gt} {ρ0 : Int → Nat} {M0 : Mo} {res : RS} (F : Fx p l R s m args meth c cJx4a65c_grow_d5877 1 RJx4a65c G M0 4 (some (FieldType.array (FieldType.object "java/lang/Object")))) (hno : ∀ x ∈ c.exceptionTable.toList, False) (hnm : meth.name = yJx4a65c_grow_d5877.name) (x0 : Int) (M : Mo) (h : Jx4a65c_grow_d5877 x0 M = some res) : J p l e R s m args below meth c 1 G ρ0 M0 2 res M 0 [(0, (false, x0))] [] := by
  unfold Jx4a65c_grow_d5877 at h
  refine j_aload_n F 0 rfl rfl dJx4a65c_grow_d5877_0 ?_
  refine j_aload_n F 0 rfl rfl dJx4a65c_grow_d5877_1 ?_
  obtain ⟨g1, h⟩ := gua h
  refine j_get F ft_Jx4a65c_48 rfl g1 dJx4a65c_grow_d5877_2 ?_
  refine j_iconst F dJx4a65c_grow_d5877_5 ?_
  refine j_iadd F dJx4a65c_grow_d5877_6 ?_
  refine j_callV (d' := 3) (argl := [(true, ((fd M 0 2 x0) + 1))]) (rk9 := 2) (st := []) F hno M_Jx4a65c_grow_92f84 q528 q3 q526 ⟨by decide, by decide⟩ (Nat.le_of_ble_eq_true rfl) (by decide) (ci := 0) rfl (by decide) g1 dJx4a65c_grow_d5877_7 rfl h (fun z hz => c_Jx4a65c_grow_92f84 l F.ht G x0 ((fd M 0 2 x0) + 1) M z hz) (fun v2 M3 h kl4 => ?_)
  refine j_st (st' := [(false, v2)]) rfl ?_
  exact j_aret F (Or.inr ⟨_, rfl⟩) h dJx4a65c_grow_d5877_10
theorem c_Jx4a65c_grow_d5877 (l : Launch) (hl : l.stackTraces = false) (G : Gt) (x0 : Int) (M : Mo) (z : RS) (h : Jx4a65c_grow_d5877 x0 M = some z) : CT l G yJx4a65c_grow_d5877 (cn yJx4a65c_grow_d5877 cJx4a65c_grow_d5877 1 (some (FieldType.array (FieldType.object "java/lang/Object")))) 4 [(false, x0)] M 2 z :=
  ctOf hl (by decide) (Nat.le_of_ble_eq_true rfl) (fun p e R s m args below meth c ρ F hno hnm => w_Jx4a65c_grow_d5877_0 F hno hnm x0 M h)
theorem dJx4a65c_size_8abf5_0 : decode cJx4a65c_size_8abf5 0 = .ok (.aload_n 0, 1) := by decide +kernel
theorem dJx4a65c_size_8abf5_1 : decode cJx4a65c_size_8abf5 1 = .ok (.getfield 48, 3) := by decide +kernel
theorem dJx4a65c_size_8abf5_4 : decode cJx4a65c_size_8abf5 4 = .ok (.ireturn, 1) := by decide +kernel
set_option maxHeartbeats 4000000 in
set_option maxRecDepth 100000 in
theorem w_Jx4a65c_size_8abf5_0 {p : Program} {l : Launch} {e : Env} {R : Room} {s : State} {m : MethodId} {args : Array Value} {below : List Frame} {meth : Method} {c : Code} {G : Gt} {ρ0 : Int → Nat} {M0 : Mo} {res : RS} (F : Fx p l R s m args meth c cJx4a65c_size_8abf5 1 RJx4a65c G M0 0 (some FieldType.int)) (hno : ∀ x ∈ c.exceptionTable.toList, False) (hnm : meth.name = yJx4a65c_size_8abf5.name) (x0 : Int) (M : Mo) (h : Jx4a65c_size_8abf5 x0 M = some res) : J p l e R s m args below meth c 1 G ρ0 M0 1 res M 0 [(0, (false, x0))] [] := by
  unfold Jx4a65c_size_8abf5 at h
  refine j_aload_n F 0 rfl rfl dJx4a65c_size_8abf5_0 ?_
  obtain ⟨g1, h⟩ := gua h
  refine j_get F ft_Jx4a65c_48 rfl g1 dJx4a65c_size_8abf5_1 ?_
  exact j_iret F h dJx4a65c_size_8abf5_4
theorem c_Jx4a65c_size_8abf5 (l : Launch) (hl : l.stackTraces = false) (G : Gt) (x0 : Int) (M : Mo) (z : RS) (h : Jx4a65c_size_8abf5 x0 M = some z) : CT l G yJx4a65c_size_8abf5 (cn yJx4a65c_size_8abf5 cJx4a65c_size_8abf5 1 (some FieldType.int)) 0 [(false, x0)] M 1 z :=
  ctOf hl (by decide) (Nat.le_of_ble_eq_true rfl) (fun p e R s m args below meth c ρ F hno hnm => w_Jx4a65c_size_8abf5_0 F hno hnm x0 M h)
theorem dJx4a65c_isEmpty_aae02_0 : decode cJx4a65c_isEmpty_aae02 0 = .ok (.aload_n 0, 1) := by decide +kernel
theorem dJx4a65c_isEmpty_aae02_1 : decode cJx4a65c_isEmpty_aae02 1 = .ok (.getfield 48, 3) := by decide +kernel
theorem dJx4a65c_isEmpty_aae02_4 : decode cJx4a65c_isEmpty_aae02 4 = .ok (.ifCond .ne 7, 3) := by decide +kernel
theorem dJx4a65c_isEmpty_aae02_11 : decode cJx4a65c_isEmpty_aae02 11 = .ok (.iconst 0, 1) := by decide +kernel
theorem dJx4a65c_isEmpty_aae02_12 : decode cJx4a65c_isEmpty_aae02 12 = .ok (.ireturn, 1) := by decide +kernel
theorem dJx4a65c_isEmpty_aae02_7 : decode cJx4a65c_isEmpty_aae02 7 = .ok (.iconst 1, 1) := by decide +kernel
theorem dJx4a65c_isEmpty_aae02_8 : decode cJx4a65c_isEmpty_aae02 8 = .ok (.goto 4, 3) := by decide +kernel
set_option maxHeartbeats 4000000 in
set_option maxRecDepth 100000 in
theorem w_Jx4a65c_isEmpty_aae02_0 {p : Program} {l : Launch} {e : Env} {R : Room} {s : State} {m : MethodId} {args : Array Value} {below : List Frame} {meth : Method} {c : Code} {G : Gt} {ρ0 : Int → Nat} {M0 : Mo} {res : RS} (F : Fx p l R s m args meth c cJx4a65c_isEmpty_aae02 1 RJx4a65c G M0 0 (some FieldType.boolean)) (hno : ∀ x ∈ c.exceptionTable.toList, False) (hnm : meth.name = yJx4a65c_isEmpty_aae02.name) (x0 : Int) (M : Mo) (h : Jx4a65c_isEmpty_aae02 x0 M = some res) : J p l e R s m args below meth c 1 G ρ0 M0 1 res M 0 [(0, (false, x0))] [] := by
  unfold Jx4a65c_isEmpty_aae02 at h
  refine j_aload_n F 0 rfl rfl dJx4a65c_isEmpty_aae02_0 ?_
  obtain ⟨g1, h⟩ := gua h
  refine j_get F ft_Jx4a65c_48 rfl g1 dJx4a65c_isEmpty_aae02_1 ?_
  refine j_if_ne F 11 (by decide) dJx4a65c_isEmpty_aae02_4 h (fun h => ?_) (fun h => ?_)
  · skip
    refine j_iconst F dJx4a65c_isEmpty_aae02_11 ?_
    exact j_zret F (by decide) h dJx4a65c_isEmpty_aae02_12
  · skip
    refine j_iconst F dJx4a65c_isEmpty_aae02_7 ?_
    refine j_goto F 12 (by decide) dJx4a65c_isEmpty_aae02_8 ?_
    exact j_zret F (by decide) h dJx4a65c_isEmpty_aae02_12
theorem c_Jx4a65c_isEmpty_aae02 (l : Launch) (hl : l.stackTraces = false) (G : Gt) (x0 : Int) (M : Mo) (z : RS) (h : Jx4a65c_isEmpty_aae02 x0 M = some z) : CT l G yJx4a65c_isEmpty_aae02 (cn yJx4a65c_isEmpty_aae02 cJx4a65c_isEmpty_aae02 1 (some FieldType.boolean)) 0 [(false, x0)] M 1 z :=
  ctOf hl (by decide) (Nat.le_of_ble_eq_true rfl) (fun p e R s m args below meth c ρ F hno hnm => w_Jx4a65c_isEmpty_aae02_0 F hno hnm x0 M h)
theorem dJx4a65c_elementData_915e3_0 : decode cJx4a65c_elementData_915e3 0 = .ok (.aload_n 0, 1) := by decide +kernel
theorem dJx4a65c_elementData_915e3_1 : decode cJx4a65c_elementData_915e3 1 = .ok (.getfield 9, 3) := by decide +kernel
theorem dJx4a65c_elementData_915e3_4 : decode cJx4a65c_elementData_915e3 4 = .ok (.iload_n 1, 1) := by decide +kernel
theorem dJx4a65c_elementData_915e3_5 : decode cJx4a65c_elementData_915e3 5 = .ok (.aaload, 1) := by decide +kernel
theorem dJx4a65c_elementData_915e3_6 : decode cJx4a65c_elementData_915e3 6 = .ok (.areturn, 1) := by decide +kernel
set_option maxHeartbeats 4000000 in
set_option maxRecDepth 100000 in
theorem w_Jx4a65c_elementData_915e3_0 {p : Program} {l : Launch} {e : Env} {R : Room} {s : State} {m : MethodId} {args : Array Value} {below : List Frame} {meth : Method} {c : Code} {G : Gt} {ρ0 : Int → Nat} {M0 : Mo} {res : RS} (F : Fx p l R s m args meth c cJx4a65c_elementData_915e3 2 RJx4a65c G M0 0 (some (FieldType.object "java/lang/Object"))) (hno : ∀ x ∈ c.exceptionTable.toList, False) (hnm : meth.name = yJx4a65c_elementData_915e3.name) (x0 x1 : Int) (M : Mo) (h : Jx4a65c_elementData_915e3 x0 x1 M = some res) : J p l e R s m args below meth c 2 G ρ0 M0 2 res M 0 [(0, (false, x0)), (1, (true, x1))] [] := by
  unfold Jx4a65c_elementData_915e3 at h
  refine j_aload_n F 0 rfl rfl dJx4a65c_elementData_915e3_0 ?_
  obtain ⟨g1, h⟩ := gua h
  refine j_get F ft_Jx4a65c_9 rfl g1 dJx4a65c_elementData_915e3_1 ?_
  refine j_iload_n F 1 rfl rfl dJx4a65c_elementData_915e3_4 ?_
  obtain ⟨g2, h⟩ := gua h
  obtain ⟨g3, h⟩ := gua h
  refine j_aaload F 10 3 g2 (by decide) rfl g3 dJx4a65c_elementData_915e3_5 ?_
  exact j_aret F (Or.inl ⟨_, rfl⟩) h dJx4a65c_elementData_915e3_6
theorem c_Jx4a65c_elementData_915e3 (l : Launch) (hl : l.stackTraces = false) (G : Gt) (x0 x1 : Int) (M : Mo) (z : RS) (h : Jx4a65c_elementData_915e3 x0 x1 M = some z) : CT l G yJx4a65c_elementData_915e3 (cn yJx4a65c_elementData_915e3 cJx4a65c_elementData_915e3 2 (some (FieldType.object "java/lang/Object"))) 0 [(false, x0), (true, x1)] M 2 z :=
  ctOf hl (by decide) (Nat.le_of_ble_eq_true rfl) (fun p e R s m args below meth c ρ F hno hnm => w_Jx4a65c_elementData_915e3_0 F hno hnm x0 x1 M h)
theorem dJ3_checkIndex_8e157_0 : decode cJ3_checkIndex_8e157 0 = .ok (.iload_n 0, 1) := by decide +kernel
theorem dJ3_checkIndex_8e157_1 : decode cJ3_checkIndex_8e157 1 = .ok (.ifCond .lt 8, 3) := by decide +kernel
theorem dJ3_checkIndex_8e157_4 : decode cJ3_checkIndex_8e157 4 = .ok (.iload_n 0, 1) := by decide +kernel
theorem dJ3_checkIndex_8e157_5 : decode cJ3_checkIndex_8e157 5 = .ok (.iload_n 1, 1) := by decide +kernel
theorem dJ3_checkIndex_8e157_6 : decode cJ3_checkIndex_8e157 6 = .ok (.if_icmp .lt 10, 3) := by decide +kernel
theorem dJ3_checkIndex_8e157_16 : decode cJ3_checkIndex_8e157 16 = .ok (.iload_n 0, 1) := by decide +kernel
theorem dJ3_checkIndex_8e157_17 : decode cJ3_checkIndex_8e157 17 = .ok (.ireturn, 1) := by decide +kernel
theorem dJ3_checkIndex_8e157_9 : decode cJ3_checkIndex_8e157 9 = .ok (.aload_n 2, 1) := by decide +kernel
theorem dJ3_checkIndex_8e157_10 : decode cJ3_checkIndex_8e157 10 = .ok (.iload_n 0, 1) := by decide +kernel
theorem dJ3_checkIndex_8e157_11 : decode cJ3_checkIndex_8e157 11 = .ok (.iload_n 1, 1) := by decide +kernel
set_option maxHeartbeats 4000000 in
set_option maxRecDepth 100000 in
theorem w_J3_checkIndex_8e157_9 {p : Program} {l : Launch} {e : Env} {R : Room} {s : State} {m : MethodId} {args : Array Value} {below : List Frame} {meth : Method} {c : Code} {G : Gt} {ρ0 : Int → Nat} {M0 : Mo} {res : RS} (F : Fx p l R s m args meth c cJ3_checkIndex_8e157 3 RJ3 G M0 0 (some FieldType.int)) (hno : ∀ x ∈ c.exceptionTable.toList, False) (hnm : meth.name = yJ3_checkIndex_8e157.name) (x0 x1 x2 : Int) (M : Mo) (h : J3_checkIndex_8e157_9 x0 x1 x2 M = some res) : J p l e R s m args below meth c 3 G ρ0 M0 1 res M 9 [(0, (true, x0)), (1, (true, x1)), (2, (false, x2))] [] := by
  unfold J3_checkIndex_8e157_9 at h
  refine j_aload_n F 2 rfl rfl dJ3_checkIndex_8e157_9 ?_
  refine j_iload_n F 0 rfl rfl dJ3_checkIndex_8e157_10 ?_
  refine j_iload_n F 1 rfl rfl dJ3_checkIndex_8e157_11 ?_
  cases h
set_option maxHeartbeats 4000000 in
set_option maxRecDepth 100000 in
theorem w_J3_checkIndex_8e157_0 {p : Program} {l : Launch} {e : Env} {R : Room} {s : State} {m : MethodId} {args : Array Value} {below : List Frame} {meth : Method} {c : Code} {G : Gt} {ρ0 : Int → Nat} {M0 : Mo} {res : RS} (F : Fx p l R s m args meth c cJ3_checkIndex_8e157 3 RJ3 G M0 0 (some FieldType.int)) (hno : ∀ x ∈ c.exceptionTable.toList, False) (hnm : meth.name = yJ3_checkIndex_8e157.name) (x0 x1 x2 : Int) (M : Mo) (h : J3_checkIndex_8e157 x0 x1 x2 M = some res) : J p l e R s m args below meth c 3 G ρ0 M0 1 res M 0 [(0, (true, x0)), (1, (true, x1)), (2, (false, x2))] [] := by
  unfold J3_checkIndex_8e157 at h
  refine j_iload_n F 0 rfl rfl dJ3_checkIndex_8e157_0 ?_
  refine j_if_lt F 9 (by decide) dJ3_checkIndex_8e157_1 h (fun h => ?_) (fun h => ?_)
  · skip
    refine j_sub (lv' := [(0, (true, x0)), (1, (true, x1)), (2, (false, x2))]) [0, 1, 2] rfl ?_
    exact w_J3_checkIndex_8e157_9 F hno hnm x0 x1 x2 M h
  · skip
    refine j_iload_n F 0 rfl rfl dJ3_checkIndex_8e157_4 ?_
    refine j_iload_n F 1 rfl rfl dJ3_checkIndex_8e157_5 ?_
    refine j_icmp_lt F 16 (by decide) dJ3_checkIndex_8e157_6 h (fun h => ?_) (fun h => ?_)
    · skip
      refine j_iload_n F 0 rfl rfl dJ3_checkIndex_8e157_16 ?_
      exact j_iret F h dJ3_checkIndex_8e157_17
    · skip
      refine j_sub (lv' := [(0, (true, x0)), (1, (true, x1)), (2, (false, x2))]) [0, 1, 2] rfl ?_
      exact w_J3_checkIndex_8e157_9 F hno hnm x0 x1 x2 M h
theorem c_J3_checkIndex_8e157 (l : Launch) (hl : l.stackTraces = false) (G : Gt) (x0 x1 x2 : Int) (M : Mo) (z : RS) (h : J3_checkIndex_8e157 x0 x1 x2 M = some z) : CT l G yJ3_checkIndex_8e157 (cn yJ3_checkIndex_8e157 cJ3_checkIndex_8e157 3 (some FieldType.int)) 0 [(true, x0), (true, x1), (false, x2)] M 1 z :=
  ctOf hl (by decide) (Nat.le_of_ble_eq_true rfl) (fun p e R s m args below meth c ρ F hno hnm => w_J3_checkIndex_8e157_0 F hno hnm x0 x1 x2 M h)
theorem dJ15_checkIndex_7cf53_0 : decode cJ15_checkIndex_7cf53 0 = .ok (.iload_n 0, 1) := by decide +kernel
theorem dJ15_checkIndex_7cf53_1 : decode cJ15_checkIndex_7cf53 1 = .ok (.iload_n 1, 1) := by decide +kernel
theorem dJ15_checkIndex_7cf53_2 : decode cJ15_checkIndex_7cf53 2 = .ok (.aconst_null, 1) := by decide +kernel
set_option maxRecDepth 100000 in
theorem q864 : Cond.code yJ3_checkIndex_8e157 cJ3_checkIndex_8e157 3 (some FieldType.int) ∈ GT := gt 864 (rfl) (by decide +kernel)
set_option maxRecDepth 100000 in
theorem q77 : Cond.initialized RJ3 ∈ GT := gt 77 (by decide +kernel) (by decide +kernel)
theorem M_J3_checkIndex_8e157 : MY yJ3_checkIndex_8e157 cJ3_checkIndex_8e157 3 (some FieldType.int) 3 := ⟨q864, q77, by decide +kernel, by decide +kernel⟩
set_option maxRecDepth 100000 in
theorem q863 : Cond.static yJ3_checkIndex_8e157 ∈ GT := gt 863 (by decide +kernel) (by decide +kernel)
set_option maxRecDepth 100000 in
theorem q862 : Cond.methodLink RJ15 105 yJ3_checkIndex_8e157 ∈ GT := gt 862 (by decide +kernel) (by decide +kernel)
theorem dJ15_checkIndex_7cf53_3 : decode cJ15_checkIndex_7cf53 3 = .ok (.invokestatic 105, 3) := by decide +kernel
theorem dJ15_checkIndex_7cf53_6 : decode cJ15_checkIndex_7cf53 6 = .ok (.ireturn, 1) := by decide +kernel
set_option maxHeartbeats 4000000 in
set_option maxRecDepth 100000 in
theorem w_J15_checkIndex_7cf53_0 {p : Program} {l : Launch} {e : Env} {R : Room} {s : State} {m : MethodId} {args : Array Value} {below : List Frame} {meth : Method} {c : Code} {G : Gt} {ρ0 : Int → Nat} {M0 : Mo} {res : RS} (F : Fx p l R s m args meth c cJ15_checkIndex_7cf53 2 RJ15 G M0 1 (some FieldType.int)) (hno : ∀ x ∈ c.exceptionTable.toList, False) (hnm : meth.name = yJ15_checkIndex_7cf53.name) (x0 x1 : Int) (M : Mo) (h : J15_checkIndex_7cf53 x0 x1 M = some res) : J p l e R s m args below meth c 2 G ρ0 M0 1 res M 0 [(0, (true, x0)), (1, (true, x1))] [] := by
  unfold J15_checkIndex_7cf53 at h
  refine j_iload_n F 0 rfl rfl dJ15_checkIndex_7cf53_0 ?_
  refine j_iload_n F 1 rfl rfl dJ15_checkIndex_7cf53_1 ?_
  refine j_null F dJ15_checkIndex_7cf53_2 ?_
  refine j_callS (d' := 0) (argl := [(true, x0), (true, x1), (false, 0)]) (rk9 := 1) (st := []) F hno M_J3_checkIndex_8e157 q863 q862 ⟨by decide, by decide⟩ (Nat.le_of_ble_eq_true rfl) (by decide) dJ15_checkIndex_7cf53_3 rfl h (fun z hz => c_J3_checkIndex_8e157 l F.ht G x0 x1 0 M z hz) (fun v1 M2 h kl3 => ?_)
  refine j_st (st' := [(true, v1)]) rfl ?_
  exact j_iret F h dJ15_checkIndex_7cf53_6
theorem c_J15_checkIndex_7cf53 (l : Launch) (hl : l.stackTraces = false) (G : Gt) (x0 x1 : Int) (M : Mo) (z : RS) (h : J15_checkIndex_7cf53 x0 x1 M = some z) : CT l G yJ15_checkIndex_7cf53 (cn yJ15_checkIndex_7cf53 cJ15_checkIndex_7cf53 2 (some FieldType.int)) 1 [(true, x0), (true, x1)] M 1 z :=
  ctOf hl (by decide) (Nat.le_of_ble_eq_true rfl) (fun p e R s m args below meth c ρ F hno hnm => w_J15_checkIndex_7cf53_0 F hno hnm x0 x1 M h)
theorem dJx4a65c_get_915e3_0 : decode cJx4a65c_get_915e3 0 = .ok (.iload_n 1, 1) := by decide +kernel
theorem dJx4a65c_get_915e3_1 : decode cJx4a65c_get_915e3 1 = .ok (.aload_n 0, 1) := by decide +kernel
theorem dJx4a65c_get_915e3_2 : decode cJx4a65c_get_915e3 2 = .ok (.getfield 48, 3) := by decide +kernel
set_option maxRecDepth 100000 in
theorem q861 : Cond.code yJ15_checkIndex_7cf53 cJ15_checkIndex_7cf53 2 (some FieldType.int) ∈ GT := gt 861 (rfl) (by decide +kernel)
set_option maxRecDepth 100000 in
theorem q76 : Cond.initialized RJ15 ∈ GT := gt 76 (by decide +kernel) (by decide +kernel)
theorem M_J15_checkIndex_7cf53 : MY yJ15_checkIndex_7cf53 cJ15_checkIndex_7cf53 2 (some FieldType.int) 2 := ⟨q861, q76, by decide +kernel, by decide +kernel⟩
set_option maxRecDepth 100000 in
theorem q860 : Cond.static yJ15_checkIndex_7cf53 ∈ GT := gt 860 (by decide +kernel) (by decide +kernel)
set_option maxRecDepth 100000 in
theorem q859 : Cond.methodLink RJx4a65c 118 yJ15_checkIndex_7cf53 ∈ GT := gt 859 (by decide +kernel) (by decide +kernel)
theorem dJx4a65c_get_915e3_5 : decode cJx4a65c_get_915e3 5 = .ok (.invokestatic 118, 3) := by decide +kernel
theorem dJx4a65c_get_915e3_8 : decode cJx4a65c_get_915e3 8 = .ok (.pop, 1) := by decide +kernel
theorem dJx4a65c_get_915e3_9 : decode cJx4a65c_get_915e3 9 = .ok (.aload_n 0, 1) := by decide +kernel
theorem dJx4a65c_get_915e3_10 : decode cJx4a65c_get_915e3 10 = .ok (.iload_n 1, 1) := by decide +kernel
set_option maxRecDepth 100000 in
theorem q868 : Cond.code yJx4a65c_elementData_915e3 cJx4a65c_elementData_915e3 2 (some (FieldType.object "java/lang/Object")) ∈ GT := gt 868 (rfl) (by decide +kernel)
theorem M_Jx4a65c_elementData_915e3 : MY yJx4a65c_elementData_915e3 cJx4a65c_elementData_915e3 2 (some (FieldType.object "java/lang/Object")) 1 := ⟨q868, q58, by decide +kernel, by decide +kernel⟩
set_option maxRecDepth 100000 in
theorem q866 : Cond.instanceMethod yJx4a65c_elementData_915e3 ∈ GT := gt 866 (by decide +kernel) (by decide +kernel)
set_option maxRecDepth 100000 in
theorem q867 : Cond.selects RJx4a65c yJx4a65c_elementData_915e3 yJx4a65c_elementData_915e3 ∈ GT := gt 867 (by decide +kernel) (by decide +kernel)
set_option maxRecDepth 100000 in
theorem q865 : Cond.methodLink RJx4a65c 123 yJx4a65c_elementData_915e3 ∈ GT := gt 865 (by decide +kernel) (by decide +kernel)
theorem dJx4a65c_get_915e3_11 : decode cJx4a65c_get_915e3 11 = .ok (.invokevirtual 123, 3) := by decide +kernel
theorem dJx4a65c_get_915e3_14 : decode cJx4a65c_get_915e3 14 = .ok (.areturn, 1) := by decide +kernel
set_option maxHeartbeats 4000000 in
set_option maxRecDepth 100000 in
theorem w_Jx4a65c_get_915e3_0 {p : Program} {l : Launch} {e : Env} {R : Room} {s : State} {m : MethodId} {args : Array Value} {below : List Frame} {meth : Method} {c : Code} {G : Gt} {ρ0 : Int → Nat} {M0 : Mo} {res : RS} (F : Fx p l R s m args meth c cJx4a65c_get_915e3 2 RJx4a65c G M0 2 (some (FieldType.object "java/lang/Object"))) (hno : ∀ x ∈ c.exceptionTable.toList, False) (hnm : meth.name = yJx4a65c_get_915e3.name) (x0 x1 : Int) (M : Mo) (h : Jx4a65c_get_915e3 x0 x1 M = some res) : J p l e R s m args below meth c 2 G ρ0 M0 2 res M 0 [(0, (false, x0)), (1, (true, x1))] [] := by
  unfold Jx4a65c_get_915e3 at h
  refine j_iload_n F 1 rfl rfl dJx4a65c_get_915e3_0 ?_
  refine j_aload_n F 0 rfl rfl dJx4a65c_get_915e3_1 ?_
  obtain ⟨g1, h⟩ := gua h
  refine j_get F ft_Jx4a65c_48 rfl g1 dJx4a65c_get_915e3_2 ?_
  refine j_callS (d' := 1) (argl := [(true, x1), (true, (fd M 0 2 x0))]) (rk9 := 1) (st := []) F hno M_J15_checkIndex_7cf53 q860 q859 ⟨by decide, by decide⟩ (Nat.le_of_ble_eq_true rfl) (by decide) dJx4a65c_get_915e3_5 rfl h (fun z hz => c_J15_checkIndex_7cf53 l F.ht G x1 (fd M 0 2 x0) M z hz) (fun v2 M3 h kl4 => ?_)
  refine j_st (st' := [(true, v2)]) rfl ?_
  refine j_pop F dJx4a65c_get_915e3_8 ?_
  refine j_aload_n F 0 rfl rfl dJx4a65c_get_915e3_9 ?_
  refine j_iload_n F 1 rfl rfl dJx4a65c_get_915e3_10 ?_
  refine j_callV (d' := 0) (argl := [(true, x1)]) (rk9 := 2) (st := []) F hno M_Jx4a65c_elementData_915e3 q866 q867 q865 ⟨by decide, by decide⟩ (Nat.le_of_ble_eq_true rfl) (by decide) (ci := 0) rfl (by decide) (kl4.is g1) dJx4a65c_get_915e3_11 rfl h (fun z hz => c_Jx4a65c_elementData_915e3 l F.ht G x0 x1 M3 z hz) (fun v5 M6 h kl7 => ?_)
  refine j_st (st' := [(false, v5)]) rfl ?_
  exact j_aret F (Or.inl ⟨_, rfl⟩) h dJx4a65c_get_915e3_14
theorem c_Jx4a65c_get_915e3 (l : Launch) (hl : l.stackTraces = false) (G : Gt) (x0 x1 : Int) (M : Mo) (z : RS) (h : Jx4a65c_get_915e3 x0 x1 M = some z) : CT l G yJx4a65c_get_915e3 (cn yJx4a65c_get_915e3 cJx4a65c_get_915e3 2 (some (FieldType.object "java/lang/Object"))) 2 [(false, x0), (true, x1)] M 2 z :=
  ctOf hl (by decide) (Nat.le_of_ble_eq_true rfl) (fun p e R s m args below meth c ρ F hno hnm => w_Jx4a65c_get_915e3_0 F hno hnm x0 x1 M h)
theorem dJx4a65c_add_72be8_0 : decode cJx4a65c_add_72be8 0 = .ok (.iload_n 3, 1) := by decide +kernel
theorem dJx4a65c_add_72be8_1 : decode cJx4a65c_add_72be8 1 = .ok (.aload_n 2, 1) := by decide +kernel
theorem dJx4a65c_add_72be8_2 : decode cJx4a65c_add_72be8 2 = .ok (.arraylength, 1) := by decide +kernel
theorem dJx4a65c_add_72be8_3 : decode cJx4a65c_add_72be8 3 = .ok (.if_icmp .ne 8, 3) := by decide +kernel
theorem dJx4a65c_add_72be8_6 : decode cJx4a65c_add_72be8 6 = .ok (.aload_n 0, 1) := by decide +kernel
set_option maxRecDepth 100000 in
theorem q525 : Cond.code yJx4a65c_grow_d5877 cJx4a65c_grow_d5877 1 (some (FieldType.array (FieldType.object "java/lang/Object"))) ∈ GT := gt 525 (rfl) (by decide +kernel)
theorem M_Jx4a65c_grow_d5877 : MY yJx4a65c_grow_d5877 cJx4a65c_grow_d5877 1 (some (FieldType.array (FieldType.object "java/lang/Object"))) 0 := ⟨q525, q58, by decide +kernel, by decide +kernel⟩
set_option maxRecDepth 100000 in
theorem q524 : Cond.instanceMethod yJx4a65c_grow_d5877 ∈ GT := gt 524 (by decide +kernel) (by decide +kernel)
set_option maxRecDepth 100000 in
theorem q2 : Cond.selects RJx4a65c yJx4a65c_grow_d5877 yJx4a65c_grow_d5877 ∈ GT := gt 2 (by decide +kernel) (by decide +kernel)
set_option maxRecDepth 100000 in
theorem q522 : Cond.methodLink RJx4a65c 129 yJx4a65c_grow_d5877 ∈ GT := gt 522 (by decide +kernel) (by decide +kernel)
theorem dJx4a65c_add_72be8_7 : decode cJx4a65c_add_72be8 7 = .ok (.invokevirtual 129, 3) := by decide +kernel
theorem dJx4a65c_add_72be8_10 : decode cJx4a65c_add_72be8 10 = .ok (.astore_n 2, 1) := by decide +kernel
theorem dJx4a65c_add_72be8_11 : decode cJx4a65c_add_72be8 11 = .ok (.aload_n 2, 1) := by decide +kernel
theorem dJx4a65c_add_72be8_12 : decode cJx4a65c_add_72be8 12 = .ok (.iload_n 3, 1) := by decide +kernel
theorem dJx4a65c_add_72be8_13 : decode cJx4a65c_add_72be8 13 = .ok (.aload_n 1, 1) := by decide +kernel
theorem dJx4a65c_add_72be8_14 : decode cJx4a65c_add_72be8 14 = .ok (.aastore, 1) := by decide +kernel
theorem dJx4a65c_add_72be8_15 : decode cJx4a65c_add_72be8 15 = .ok (.aload_n 0, 1) := by decide +kernel
theorem dJx4a65c_add_72be8_16 : decode cJx4a65c_add_72be8 16 = .ok (.iload_n 3, 1) := by decide +kernel
theorem dJx4a65c_add_72be8_17 : decode cJx4a65c_add_72be8 17 = .ok (.iconst 1, 1) := by decide +kernel
theorem dJx4a65c_add_72be8_18 : decode cJx4a65c_add_72be8 18 = .ok (.iadd, 1) := by decide +kernel
theorem dJx4a65c_add_72be8_19 : decode cJx4a65c_add_72be8 19 = .ok (.putfield 48, 3) := by decide +kernel
theorem dJx4a65c_add_72be8_22 : decode cJx4a65c_add_72be8 22 = .ok (.return_, 1) := by decide +kernel
set_option maxHeartbeats 4000000 in
set_option maxRecDepth 100000 in
theorem w_Jx4a65c_add_72be8_11 {p : Program} {l : Launch} {e : Env} {R : Room} {s : State} {m : MethodId} {args : Array Value} {below : List Frame} {meth : Method} {c : Code} {G : Gt} {ρ0 : Int → Nat} {M0 : Mo} {res : RS} (F : Fx p l R s m args meth c cJx4a65c_add_72be8 4 RJx4a65c G M0 5 none) (hno : ∀ x ∈ c.exceptionTable.toList, False) (hnm : meth.name = yJx4a65c_add_72be8.name) (x0 x1 x2 x3 : Int) (M : Mo) (h : Jx4a65c_add_72be8_11 x0 x1 x2 x3 M = some res) : J p l e R s m args below meth c 4 G ρ0 M0 0 res M 11 [(0, (false, x0)), (1, (false, x1)), (2, (false, x2)), (3, (true, x3))] [] := by
  unfold Jx4a65c_add_72be8_11 at h
  refine j_aload_n F 2 rfl rfl dJx4a65c_add_72be8_11 ?_
  refine j_iload_n F 3 rfl rfl dJx4a65c_add_72be8_12 ?_
  refine j_aload_n F 1 rfl rfl dJx4a65c_add_72be8_13 ?_
  obtain ⟨g1, h⟩ := gua h
  obtain ⟨g2, h⟩ := gua h
  obtain ⟨g3, h⟩ := gua h
  refine j_aastoreO F castO g1 g3 g2 dJx4a65c_add_72be8_14 ?_
  obtain ⟨M4, hM4⟩ : ∃ Z, Z = sE M 10 x2 (wr x3) x1 := ⟨_, rfl⟩
  have kl5 : kle M M4 := by rw [hM4]; exact kle_sE
  rw [← hM4]
  replace h := pt_as h hM4
  refine j_aload_n F 0 rfl rfl dJx4a65c_add_72be8_15 ?_
  refine j_iload_n F 3 rfl rfl dJx4a65c_add_72be8_16 ?_
  refine j_iconst F dJx4a65c_add_72be8_17 ?_
  refine j_iadd F dJx4a65c_add_72be8_18 ?_
  obtain ⟨g6, h⟩ := gua h
  refine j_put (ty := .int) F ft_Jx4a65c_48 rfl rfl tyJx4a65c tyJx4a65c_ok nmJx4a65c (by decide +kernel) (nf_int _) g6 dJx4a65c_add_72be8_19 ?_
  obtain ⟨M7, hM7⟩ : ∃ Z, Z = sF M4 0 2 x0 (x3 + 1) := ⟨_, rfl⟩
  have kl8 : kle M4 M7 := by rw [hM7]; exact kle_sF
  rw [← hM7]
  replace h := pt_as h hM7
  exact j_vret F (v := 0) h dJx4a65c_add_72be8_22
set_option maxHeartbeats 4000000 in
set_option maxRecDepth 100000 in
theorem w_Jx4a65c_add_72be8_0 {p : Program} {l : Launch} {e : Env} {R : Room} {s : State} {m : MethodId} {args : Array Value} {below : List Frame} {meth : Method} {c : Code} {G : Gt} {ρ0 : Int → Nat} {M0 : Mo} {res : RS} (F : Fx p l R s m args meth c cJx4a65c_add_72be8 4 RJx4a65c G M0 5 none) (hno : ∀ x ∈ c.exceptionTable.toList, False) (hnm : meth.name = yJx4a65c_add_72be8.name) (x0 x1 x2 x3 : Int) (M : Mo) (h : Jx4a65c_add_72be8 x0 x1 x2 x3 M = some res) : J p l e R s m args below meth c 4 G ρ0 M0 0 res M 0 [(0, (false, x0)), (1, (false, x1)), (2, (false, x2)), (3, (true, x3))] [] := by
  unfold Jx4a65c_add_72be8 at h
  refine j_iload_n F 3 rfl rfl dJx4a65c_add_72be8_0 ?_
  refine j_aload_n F 2 rfl rfl dJx4a65c_add_72be8_1 ?_
  obtain ⟨g1, h⟩ := gua h
  refine j_alen F g1 dJx4a65c_add_72be8_2 ?_
  refine j_icmp_ne F 11 (by decide) dJx4a65c_add_72be8_3 h (fun h => ?_) (fun h => ?_)
  · skip
    refine j_sub (lv' := [(0, (false, x0)), (1, (false, x1)), (2, (false, x2)), (3, (true, x3))]) [0, 1, 2, 3] rfl ?_
    exact w_Jx4a65c_add_72be8_11 F hno hnm x0 x1 x2 x3 M h
  · skip
    refine j_aload_n F 0 rfl rfl dJx4a65c_add_72be8_6 ?_
    obtain ⟨g5, h⟩ := gua h
    refine j_callV (d' := 4) (argl := []) (rk9 := 2) (st := []) F hno M_Jx4a65c_grow_d5877 q524 q2 q522 ⟨by decide, by decide⟩ (Nat.le_of_ble_eq_true rfl) (by decide) (ci := 0) rfl (by decide) g5 dJx4a65c_add_72be8_7 rfl h (fun z hz => c_Jx4a65c_grow_d5877 l F.ht G x0 M z hz) (fun v2 M3 h kl4 => ?_)
    refine j_st (st' := [(false, v2)]) rfl ?_
    refine j_astore_n F (lv' := [(2, (false, v2)), (0, (false, x0)), (1, (false, x1)), (3, (true, x3))]) rfl (by decide) rfl dJx4a65c_add_72be8_10 ?_
    refine j_sub (lv' := [(0, (false, x0)), (1, (false, x1)), (2, (false, v2)), (3, (true, x3))]) [1, 2, 0, 3] rfl ?_
    exact w_Jx4a65c_add_72be8_11 F hno hnm x0 x1 v2 x3 M3 h
theorem c_Jx4a65c_add_72be8 (l : Launch) (hl : l.stackTraces = false) (G : Gt) (x0 x1 x2 x3 : Int) (M : Mo) (z : RS) (h : Jx4a65c_add_72be8 x0 x1 x2 x3 M = some z) : CT l G yJx4a65c_add_72be8 (cn yJx4a65c_add_72be8 cJx4a65c_add_72be8 4 none) 5 [(false, x0), (false, x1), (false, x2), (true, x3)] M 0 z :=
  ctOf hl (by decide) (Nat.le_of_ble_eq_true rfl) (fun p e R s m args below meth c ρ F hno hnm => w_Jx4a65c_add_72be8_0 F hno hnm x0 x1 x2 x3 M h)
theorem dJx4a65c_add_9ea2d_0 : decode cJx4a65c_add_9ea2d 0 = .ok (.aload_n 0, 1) := by decide +kernel
theorem dJx4a65c_add_9ea2d_1 : decode cJx4a65c_add_9ea2d 1 = .ok (.dup, 1) := by decide +kernel
set_option maxRecDepth 100000 in
theorem q152 : Cond.sameField "java/util/ArrayList" "java/util/AbstractList" "modCount" "I" ∈ GT := gt 152 (by decide +kernel) (by decide +kernel)
set_option maxRecDepth 100000 in
theorem q151 : Cond.fieldLink RJx4a65c 63 "java/util/ArrayList" "modCount" "I" ∈ GT := gt 151 (by decide +kernel) (by decide +kernel)
theorem ft_Jx4a65c_63 : FT RJx4a65c 63 RJx4a65c 0 RJx4a65c TJx4a65c 3 0 := ⟨rfl, by decide, by decide, q151, Or.inr q152, inGJx4a65c⟩
theorem dJx4a65c_add_9ea2d_2 : decode cJx4a65c_add_9ea2d 2 = .ok (.getfield 63, 3) := by decide +kernel
theorem dJx4a65c_add_9ea2d_5 : decode cJx4a65c_add_9ea2d 5 = .ok (.iconst 1, 1) := by decide +kernel
theorem dJx4a65c_add_9ea2d_6 : decode cJx4a65c_add_9ea2d 6 = .ok (.iadd, 1) := by decide +kernel
theorem dJx4a65c_add_9ea2d_7 : decode cJx4a65c_add_9ea2d 7 = .ok (.putfield 63, 3) := by decide +kernel
theorem dJx4a65c_add_9ea2d_10 : decode cJx4a65c_add_9ea2d 10 = .ok (.aload_n 0, 1) := by decide +kernel
theorem dJx4a65c_add_9ea2d_11 : decode cJx4a65c_add_9ea2d 11 = .ok (.aload_n 1, 1) := by decide +kernel
theorem dJx4a65c_add_9ea2d_12 : decode cJx4a65c_add_9ea2d 12 = .ok (.aload_n 0, 1) := by decide +kernel
theorem dJx4a65c_add_9ea2d_13 : decode cJx4a65c_add_9ea2d 13 = .ok (.getfield 9, 3) := by decide +kernel
theorem dJx4a65c_add_9ea2d_16 : decode cJx4a65c_add_9ea2d 16 = .ok (.aload_n 0, 1) := by decide +kernel
theorem dJx4a65c_add_9ea2d_17 : decode cJx4a65c_add_9ea2d 17 = .ok (.getfield 48, 3) := by decide +kernel
set_option maxRecDepth 100000 in
theorem q521 : Cond.code yJx4a65c_add_72be8 cJx4a65c_add_72be8 4 none ∈ GT := gt 521 (rfl) (by decide +kernel)
theorem M_Jx4a65c_add_72be8 : MY yJx4a65c_add_72be8 cJx4a65c_add_72be8 4 none 3 := ⟨q521, q58, by decide +kernel, by decide +kernel⟩
set_option maxRecDepth 100000 in
theorem q520 : Cond.instanceMethod yJx4a65c_add_72be8 ∈ GT := gt 520 (by decide +kernel) (by decide +kernel)
set_option maxRecDepth 100000 in
theorem q1 : Cond.selects RJx4a65c yJx4a65c_add_72be8 yJx4a65c_add_72be8 ∈ GT := gt 1 (by decide +kernel) (by decide +kernel)
set_option maxRecDepth 100000 in
theorem q518 : Cond.methodLink RJx4a65c 131 yJx4a65c_add_72be8 ∈ GT := gt 518 (by decide +kernel) (by decide +kernel)
theorem dJx4a65c_add_9ea2d_20 : decode cJx4a65c_add_9ea2d 20 = .ok (.invokevirtual 131, 3) := by decide +kernel
theorem dJx4a65c_add_9ea2d_23 : decode cJx4a65c_add_9ea2d 23 = .ok (.iconst 1, 1) := by decide +kernel
theorem dJx4a65c_add_9ea2d_24 : decode cJx4a65c_add_9ea2d 24 = .ok (.ireturn, 1) := by decide +kernel
set_option maxHeartbeats 4000000 in
set_option maxRecDepth 100000 in
theorem w_Jx4a65c_add_9ea2d_0 {p : Program} {l : Launch} {e : Env} {R : Room} {s : State} {m : MethodId} {args : Array Value} {below : List Frame} {meth : Method} {c : Code} {G : Gt} {ρ0 : Int → Nat} {M0 : Mo} {res : RS} (F : Fx p l R s m args meth c cJx4a65c_add_9ea2d 2 RJx4a65c G M0 6 (some FieldType.boolean)) (hno : ∀ x ∈ c.exceptionTable.toList, False) (hnm : meth.name = yJx4a65c_add_9ea2d.name) (x0 x1 : Int) (M : Mo) (h : Jx4a65c_add_9ea2d x0 x1 M = some res) : J p l e R s m args below meth c 2 G ρ0 M0 1 res M 0 [(0, (false, x0)), (1, (false, x1))] [] := by
  unfold Jx4a65c_add_9ea2d at h
  refine j_aload_n F 0 rfl rfl dJx4a65c_add_9ea2d_0 ?_
  refine j_dup F dJx4a65c_add_9ea2d_1 ?_
  obtain ⟨g1, h⟩ := gua h
  refine j_get F ft_Jx4a65c_63 rfl g1 dJx4a65c_add_9ea2d_2 ?_
  refine j_iconst F dJx4a65c_add_9ea2d_5 ?_
  refine j_iadd F dJx4a65c_add_9ea2d_6 ?_
  refine j_put (ty := .int) F ft_Jx4a65c_63 rfl rfl tyJx4a65c tyJx4a65c_ok nmJx4a65c (by decide +kernel) (nf_int _) g1 dJx4a65c_add_9ea2d_7 ?_
  obtain ⟨M2, hM2⟩ : ∃ Z, Z = sF M 0 0 x0 ((fd M 0 0 x0) + 1) := ⟨_, rfl⟩
  have kl3 : kle M M2 := by rw [hM2]; exact kle_sF
  rw [← hM2]
  replace h := pt_as h hM2
  refine j_aload_n F 0 rfl rfl dJx4a65c_add_9ea2d_10 ?_
  refine j_aload_n F 1 rfl rfl dJx4a65c_add_9ea2d_11 ?_
  refine j_aload_n F 0 rfl rfl dJx4a65c_add_9ea2d_12 ?_
  refine j_get F ft_Jx4a65c_9 rfl (kl3.is g1) dJx4a65c_add_9ea2d_13 ?_
  refine j_aload_n F 0 rfl rfl dJx4a65c_add_9ea2d_16 ?_
  refine j_get F ft_Jx4a65c_48 rfl (kl3.is g1) dJx4a65c_add_9ea2d_17 ?_
  refine j_callV (d' := 5) (argl := [(false, x1), (false, (fd M2 0 1 x0)), (true, (fd M2 0 2 x0))]) (rk9 := 0) (st := []) F hno M_Jx4a65c_add_72be8 q520 q1 q518 ⟨by decide, by decide⟩ (Nat.le_of_ble_eq_true rfl) (by decide) (ci := 0) rfl (by decide) (kl3.is g1) dJx4a65c_add_9ea2d_20 rfl h (fun z hz => c_Jx4a65c_add_72be8 l F.ht G x0 x1 (fd M2 0 1 x0) (fd M2 0 2 x0) M2 z hz) (fun v4 M5 h kl6 => ?_)
  refine j_st (st' := []) rfl ?_
  refine j_iconst F dJx4a65c_add_9ea2d_23 ?_
  exact j_zret F (by decide) h dJx4a65c_add_9ea2d_24
theorem c_Jx4a65c_add_9ea2d (l : Launch) (hl : l.stackTraces = false) (G : Gt) (x0 x1 : Int) (M : Mo) (z : RS) (h : Jx4a65c_add_9ea2d x0 x1 M = some z) : CT l G yJx4a65c_add_9ea2d (cn yJx4a65c_add_9ea2d cJx4a65c_add_9ea2d 2 (some FieldType.boolean)) 6 [(false, x0), (false, x1)] M 1 z :=
  ctOf hl (by decide) (Nat.le_of_ble_eq_true rfl) (fun p e R s m args below meth c ρ F hno hnm => w_Jx4a65c_add_9ea2d_0 F hno hnm x0 x1 M h)
theorem dJx4a65c_fastRemove_b59b0_0 : decode cJx4a65c_fastRemove_b59b0 0 = .ok (.aload_n 0, 1) := by decide +kernel
theorem dJx4a65c_fastRemove_b59b0_1 : decode cJx4a65c_fastRemove_b59b0 1 = .ok (.dup, 1) := by decide +kernel
theorem dJx4a65c_fastRemove_b59b0_2 : decode cJx4a65c_fastRemove_b59b0 2 = .ok (.getfield 63, 3) := by decide +kernel
theorem dJx4a65c_fastRemove_b59b0_5 : decode cJx4a65c_fastRemove_b59b0 5 = .ok (.iconst 1, 1) := by decide +kernel
theorem dJx4a65c_fastRemove_b59b0_6 : decode cJx4a65c_fastRemove_b59b0 6 = .ok (.iadd, 1) := by decide +kernel
theorem dJx4a65c_fastRemove_b59b0_7 : decode cJx4a65c_fastRemove_b59b0 7 = .ok (.putfield 63, 3) := by decide +kernel
theorem dJx4a65c_fastRemove_b59b0_10 : decode cJx4a65c_fastRemove_b59b0 10 = .ok (.aload_n 0, 1) := by decide +kernel
theorem dJx4a65c_fastRemove_b59b0_11 : decode cJx4a65c_fastRemove_b59b0 11 = .ok (.getfield 48, 3) := by decide +kernel
theorem dJx4a65c_fastRemove_b59b0_14 : decode cJx4a65c_fastRemove_b59b0 14 = .ok (.iconst 1, 1) := by decide +kernel
theorem dJx4a65c_fastRemove_b59b0_15 : decode cJx4a65c_fastRemove_b59b0 15 = .ok (.isub, 1) := by decide +kernel
theorem dJx4a65c_fastRemove_b59b0_16 : decode cJx4a65c_fastRemove_b59b0 16 = .ok (.dup, 1) := by decide +kernel
theorem dJx4a65c_fastRemove_b59b0_17 : decode cJx4a65c_fastRemove_b59b0 17 = .ok (.istore_n 3, 1) := by decide +kernel
theorem dJx4a65c_fastRemove_b59b0_18 : decode cJx4a65c_fastRemove_b59b0 18 = .ok (.iload_n 2, 1) := by decide +kernel
theorem dJx4a65c_fastRemove_b59b0_19 : decode cJx4a65c_fastRemove_b59b0 19 = .ok (.if_icmp .le 15, 3) := by decide +kernel
theorem dJx4a65c_fastRemove_b59b0_22 : decode cJx4a65c_fastRemove_b59b0 22 = .ok (.aload_n 1, 1) := by decide +kernel
theorem dJx4a65c_fastRemove_b59b0_23 : decode cJx4a65c_fastRemove_b59b0 23 = .ok (.iload_n 2, 1) := by decide +kernel
theorem dJx4a65c_fastRemove_b59b0_24 : decode cJx4a65c_fastRemove_b59b0 24 = .ok (.iconst 1, 1) := by decide +kernel
theorem dJx4a65c_fastRemove_b59b0_25 : decode cJx4a65c_fastRemove_b59b0 25 = .ok (.iadd, 1) := by decide +kernel
theorem dJx4a65c_fastRemove_b59b0_26 : decode cJx4a65c_fastRemove_b59b0 26 = .ok (.aload_n 1, 1) := by decide +kernel
theorem dJx4a65c_fastRemove_b59b0_27 : decode cJx4a65c_fastRemove_b59b0 27 = .ok (.iload_n 2, 1) := by decide +kernel
theorem dJx4a65c_fastRemove_b59b0_28 : decode cJx4a65c_fastRemove_b59b0 28 = .ok (.iload_n 3, 1) := by decide +kernel
theorem dJx4a65c_fastRemove_b59b0_29 : decode cJx4a65c_fastRemove_b59b0 29 = .ok (.iload_n 2, 1) := by decide +kernel
theorem dJx4a65c_fastRemove_b59b0_30 : decode cJx4a65c_fastRemove_b59b0 30 = .ok (.isub, 1) := by decide +kernel
set_option maxRecDepth 100000 in
theorem q1109 : Cond.methodLink RJx4a65c 112 arraycopyName ∈ GT := gt 1109 (by decide +kernel) (by decide +kernel)
theorem dJx4a65c_fastRemove_b59b0_31 : decode cJx4a65c_fastRemove_b59b0 31 = .ok (.invokestatic 112, 3) := by decide +kernel
theorem dJx4a65c_fastRemove_b59b0_34 : decode cJx4a65c_fastRemove_b59b0 34 = .ok (.aload_n 1, 1) := by decide +kernel
theorem dJx4a65c_fastRemove_b59b0_35 : decode cJx4a65c_fastRemove_b59b0 35 = .ok (.aload_n 0, 1) := by decide +kernel
theorem dJx4a65c_fastRemove_b59b0_36 : decode cJx4a65c_fastRemove_b59b0 36 = .ok (.iload_n 3, 1) := by decide +kernel
theorem dJx4a65c_fastRemove_b59b0_37 : decode cJx4a65c_fastRemove_b59b0 37 = .ok (.dup_x1, 1) := by decide +kernel
theorem dJx4a65c_fastRemove_b59b0_38 : decode cJx4a65c_fastRemove_b59b0 38 = .ok (.putfield 48, 3) := by decide +kernel
theorem dJx4a65c_fastRemove_b59b0_41 : decode cJx4a65c_fastRemove_b59b0 41 = .ok (.aconst_null, 1) := by decide +kernel
theorem dJx4a65c_fastRemove_b59b0_42 : decode cJx4a65c_fastRemove_b59b0 42 = .ok (.aastore, 1) := by decide +kernel
theorem dJx4a65c_fastRemove_b59b0_43 : decode cJx4a65c_fastRemove_b59b0 43 = .ok (.return_, 1) := by decide +kernel
set_option maxHeartbeats 4000000 in
set_option maxRecDepth 100000 in
theorem w_Jx4a65c_fastRemove_b59b0_34 {p : Program} {l : Launch} {e : Env} {R : Room} {s : State} {m : MethodId} {args : Array Value} {below : List Frame} {meth : Method} {c : Code} {G : Gt} {ρ0 : Int → Nat} {M0 : Mo} {res : RS} (F : Fx p l R s m args meth c cJx4a65c_fastRemove_b59b0 4 RJx4a65c G M0 1 none) (hno : ∀ x ∈ c.exceptionTable.toList, False) (hnm : meth.name = yJx4a65c_fastRemove_b59b0.name) (x0 x1 x3 : Int) (M : Mo) (h : Jx4a65c_fastRemove_b59b0_34 x0 x1 x3 M = some res) : J p l e R s m args below meth c 4 G ρ0 M0 0 res M 34 [(0, (false, x0)), (1, (false, x1)), (3, (true, x3))] [] := by
  unfold Jx4a65c_fastRemove_b59b0_34 at h
  refine j_aload_n F 1 rfl rfl dJx4a65c_fastRemove_b59b0_34 ?_
  refine j_aload_n F 0 rfl rfl dJx4a65c_fastRemove_b59b0_35 ?_
  refine j_iload_n F 2 rfl rfl dJx4a65c_fastRemove_b59b0_36 ?_
  refine j_dup_x1 F dJx4a65c_fastRemove_b59b0_37 ?_
  obtain ⟨g1, h⟩ := gua h
  refine j_put (ty := .int) F ft_Jx4a65c_48 rfl rfl tyJx4a65c tyJx4a65c_ok nmJx4a65c (by decide +kernel) (nf_int _) g1 dJx4a65c_fastRemove_b59b0_38 ?_
  obtain ⟨M2, hM2⟩ : ∃ Z, Z = sF M 0 2 x0 x3 := ⟨_, rfl⟩
  have kl3 : kle M M2 := by rw [hM2]; exact kle_sF
  rw [← hM2]
  replace h := pt_as h hM2
  refine j_null F dJx4a65c_fastRemove_b59b0_41 ?_
  obtain ⟨g4, h⟩ := gua h
  obtain ⟨g5, h⟩ := gua h
  refine j_aastoreO F castO g4 g5 (Or.inl rfl) dJx4a65c_fastRemove_b59b0_42 ?_
  obtain ⟨M6, hM6⟩ : ∃ Z, Z = sE M2 10 x1 (wr x3) 0 := ⟨_, rfl⟩
  have kl7 : kle M2 M6 := by rw [hM6]; exact kle_sE
  rw [← hM6]
  replace h := pt_as h hM6
  exact j_vret F (v := 0) h dJx4a65c_fastRemove_b59b0_43
set_option maxHeartbeats 4000000 in
set_option maxRecDepth 100000 in
theorem w_Jx4a65c_fastRemove_b59b0_0 {p : Program} {l : Launch} {e : Env} {R : Room} {s : State} {m : MethodId} {args : Array Value} {below : List Frame} {meth : Method} {c : Code} {G : Gt} {ρ0 : Int → Nat} {M0 : Mo} {res : RS} (F : Fx p l R s m args meth c cJx4a65c_fastRemove_b59b0 4 RJx4a65c G M0 1 none) (hno : ∀ x ∈ c.exceptionTable.toList, False) (hnm : meth.name = yJx4a65c_fastRemove_b59b0.name) (x0 x1 x2 : Int) (M : Mo) (h : Jx4a65c_fastRemove_b59b0 x0 x1 x2 M = some res) : J p l e R s m args below meth c 4 G ρ0 M0 0 res M 0 [(0, (false, x0)), (1, (false, x1)), (2, (true, x2))] [] := by
  unfold Jx4a65c_fastRemove_b59b0 at h
  refine j_aload_n F 0 rfl rfl dJx4a65c_fastRemove_b59b0_0 ?_
  refine j_dup F dJx4a65c_fastRemove_b59b0_1 ?_
  obtain ⟨g1, h⟩ := gua h
  refine j_get F ft_Jx4a65c_63 rfl g1 dJx4a65c_fastRemove_b59b0_2 ?_
  refine j_iconst F dJx4a65c_fastRemove_b59b0_5 ?_
  refine j_iadd F dJx4a65c_fastRemove_b59b0_6 ?_
  refine j_put (ty := .int) F ft_Jx4a65c_63 rfl rfl tyJx4a65c tyJx4a65c_ok nmJx4a65c (by decide +kernel) (nf_int _) g1 dJx4a65c_fastRemove_b59b0_7 ?_
  obtain ⟨M2, hM2⟩ : ∃ Z, Z = sF M 0 0 x0 ((fd M 0 0 x0) + 1) := ⟨_, rfl⟩
  have kl3 : kle M M2 := by rw [hM2]; exact kle_sF
  rw [← hM2]
  replace h := pt_as h hM2
  refine j_aload_n F 0 rfl rfl dJx4a65c_fastRemove_b59b0_10 ?_
  refine j_get F ft_Jx4a65c_48 rfl (kl3.is g1) dJx4a65c_fastRemove_b59b0_11 ?_
  refine j_iconst F dJx4a65c_fastRemove_b59b0_14 ?_
  refine j_isub F dJx4a65c_fastRemove_b59b0_15 ?_
  refine j_dup F dJx4a65c_fastRemove_b59b0_16 ?_
  refine j_istore_n F (lv' := [(3, (true, ((fd M2 0 2 x0) - 1))), (0, (false, x0)), (1, (false, x1)), (2, (true, x2))]) rfl (by decide) rfl dJx4a65c_fastRemove_b59b0_17 ?_
  refine j_iload_n F 3 rfl rfl dJx4a65c_fastRemove_b59b0_18 ?_
  refine j_icmp_le F 34 (by decide) dJx4a65c_fastRemove_b59b0_19 h (fun h => ?_) (fun h => ?_)
  · skip
    refine j_sub (lv' := [(0, (false, x0)), (1, (false, x1)), (3, (true, ((fd M2 0 2 x0) - 1)))]) [1, 2, 0] rfl ?_
    exact w_Jx4a65c_fastRemove_b59b0_34 F hno hnm x0 x1 ((fd M2 0 2 x0) - 1) M2 h
  · skip
    refine j_aload_n F 2 rfl rfl dJx4a65c_fastRemove_b59b0_22 ?_
    refine j_iload_n F 3 rfl rfl dJx4a65c_fastRemove_b59b0_23 ?_
    refine j_iconst F dJx4a65c_fastRemove_b59b0_24 ?_
    refine j_iadd F dJx4a65c_fastRemove_b59b0_25 ?_
    refine j_aload_n F 2 rfl rfl dJx4a65c_fastRemove_b59b0_26 ?_
    refine j_iload_n F 3 rfl rfl dJx4a65c_fastRemove_b59b0_27 ?_
    refine j_iload_n F 0 rfl rfl dJx4a65c_fastRemove_b59b0_28 ?_
    refine j_iload_n F 3 rfl rfl dJx4a65c_fastRemove_b59b0_29 ?_
    refine j_isub F dJx4a65c_fastRemove_b59b0_30 ?_
    obtain ⟨g4, h⟩ := gua h
    obtain ⟨g5, h⟩ := gua h
    refine j_copyO F castO ⟨q1109, q574, q573, q71⟩ g4 g4 g5 (by decide) (Nat.le_of_ble_eq_true rfl) dJx4a65c_fastRemove_b59b0_31 ?_
    obtain ⟨M6, hM6⟩ : ∃ Z, Z = cpE M2 10 x1 (wr (x2 + 1)) x1 (wr x2) (wr (((fd M2 0 2 x0) - 1) - x2)) := ⟨_, rfl⟩
    have kl7 : kle M2 M6 := by rw [hM6]; exact kle_cpE
    rw [← hM6]
    replace h := pt_as h hM6
    refine j_sub (lv' := [(0, (false, x0)), (1, (false, x1)), (3, (true, ((fd M2 0 2 x0) - 1)))]) [1, 2, 0] rfl ?_
    exact w_Jx4a65c_fastRemove_b59b0_34 F hno hnm x0 x1 ((fd M2 0 2 x0) - 1) M6 h
theorem c_Jx4a65c_fastRemove_b59b0 (l : Launch) (hl : l.stackTraces = false) (G : Gt) (x0 x1 x2 : Int) (M : Mo) (z : RS) (h : Jx4a65c_fastRemove_b59b0 x0 x1 x2 M = some z) : CT l G yJx4a65c_fastRemove_b59b0 (cn yJx4a65c_fastRemove_b59b0 cJx4a65c_fastRemove_b59b0 4 none) 1 [(false, x0), (false, x1), (true, x2)] M 0 z :=
  ctOf hl (by decide) (Nat.le_of_ble_eq_true rfl) (fun p e R s m args below meth c ρ F hno hnm => w_Jx4a65c_fastRemove_b59b0_0 F hno hnm x0 x1 x2 M h)
theorem dJx4a65c_remove_915e3_0 : decode cJx4a65c_remove_915e3 0 = .ok (.iload_n 1, 1) := by decide +kernel
theorem dJx4a65c_remove_915e3_1 : decode cJx4a65c_remove_915e3 1 = .ok (.aload_n 0, 1) := by decide +kernel
theorem dJx4a65c_remove_915e3_2 : decode cJx4a65c_remove_915e3 2 = .ok (.getfield 48, 3) := by decide +kernel
theorem dJx4a65c_remove_915e3_5 : decode cJx4a65c_remove_915e3 5 = .ok (.invokestatic 118, 3) := by decide +kernel
theorem dJx4a65c_remove_915e3_8 : decode cJx4a65c_remove_915e3 8 = .ok (.pop, 1) := by decide +kernel
theorem dJx4a65c_remove_915e3_9 : decode cJx4a65c_remove_915e3 9 = .ok (.aload_n 0, 1) := by decide +kernel
theorem dJx4a65c_remove_915e3_10 : decode cJx4a65c_remove_915e3 10 = .ok (.getfield 9, 3) := by decide +kernel
theorem dJx4a65c_remove_915e3_13 : decode cJx4a65c_remove_915e3 13 = .ok (.astore_n 2, 1) := by decide +kernel
theorem dJx4a65c_remove_915e3_14 : decode cJx4a65c_remove_915e3 14 = .ok (.aload_n 2, 1) := by decide +kernel
theorem dJx4a65c_remove_915e3_15 : decode cJx4a65c_remove_915e3 15 = .ok (.iload_n 1, 1) := by decide +kernel
theorem dJx4a65c_remove_915e3_16 : decode cJx4a65c_remove_915e3 16 = .ok (.aaload, 1) := by decide +kernel
theorem dJx4a65c_remove_915e3_17 : decode cJx4a65c_remove_915e3 17 = .ok (.astore_n 3, 1) := by decide +kernel
theorem dJx4a65c_remove_915e3_18 : decode cJx4a65c_remove_915e3 18 = .ok (.aload_n 0, 1) := by decide +kernel
theorem dJx4a65c_remove_915e3_19 : decode cJx4a65c_remove_915e3 19 = .ok (.aload_n 2, 1) := by decide +kernel
theorem dJx4a65c_remove_915e3_20 : decode cJx4a65c_remove_915e3 20 = .ok (.iload_n 1, 1) := by decide +kernel
set_option maxRecDepth 100000 in
theorem q1108 : Cond.code yJx4a65c_fastRemove_b59b0 cJx4a65c_fastRemove_b59b0 4 none ∈ GT := gt 1108 (rfl) (by decide +kernel)
theorem M_Jx4a65c_fastRemove_b59b0 : MY yJx4a65c_fastRemove_b59b0 cJx4a65c_fastRemove_b59b0 4 none 2 := ⟨q1108, q58, by decide +kernel, by decide +kernel⟩
set_option maxRecDepth 100000 in
theorem q1107 : Cond.instanceMethod yJx4a65c_fastRemove_b59b0 ∈ GT := gt 1107 (by decide +kernel) (by decide +kernel)
set_option maxRecDepth 100000 in
theorem q14 : Cond.selects RJx4a65c yJx4a65c_fastRemove_b59b0 yJx4a65c_fastRemove_b59b0 ∈ GT := gt 14 (by decide +kernel) (by decide +kernel)
set_option maxRecDepth 100000 in
theorem q1105 : Cond.methodLink RJx4a65c 144 yJx4a65c_fastRemove_b59b0 ∈ GT := gt 1105 (by decide +kernel) (by decide +kernel)
theorem dJx4a65c_remove_915e3_21 : decode cJx4a65c_remove_915e3 21 = .ok (.invokevirtual 144, 3) := by decide +kernel
theorem dJx4a65c_remove_915e3_24 : decode cJx4a65c_remove_915e3 24 = .ok (.aload_n 3, 1) := by decide +kernel
theorem dJx4a65c_remove_915e3_25 : decode cJx4a65c_remove_915e3 25 = .ok (.areturn, 1) := by decide +kernel
set_option maxHeartbeats 4000000 in
set_option maxRecDepth 100000 in
theorem w_Jx4a65c_remove_915e3_0 {p : Program} {l : Launch} {e : Env} {R : Room} {s : State} {m : MethodId} {args : Array Value} {below : List Frame} {meth : Method} {c : Code} {G : Gt} {ρ0 : Int → Nat} {M0 : Mo} {res : RS} (F : Fx p l R s m args meth c cJx4a65c_remove_915e3 4 RJx4a65c G M0 2 (some (FieldType.object "java/lang/Object"))) (hno : ∀ x ∈ c.exceptionTable.toList, False) (hnm : meth.name = yJx4a65c_remove_915e3.name) (x0 x1 : Int) (M : Mo) (h : Jx4a65c_remove_915e3 x0 x1 M = some res) : J p l e R s m args below meth c 4 G ρ0 M0 2 res M 0 [(0, (false, x0)), (1, (true, x1))] [] := by
  unfold Jx4a65c_remove_915e3 at h
  refine j_iload_n F 1 rfl rfl dJx4a65c_remove_915e3_0 ?_
  refine j_aload_n F 0 rfl rfl dJx4a65c_remove_915e3_1 ?_
  obtain ⟨g1, h⟩ := gua h
  refine j_get F ft_Jx4a65c_48 rfl g1 dJx4a65c_remove_915e3_2 ?_
  refine j_callS (d' := 1) (argl := [(true, x1), (true, (fd M 0 2 x0))]) (rk9 := 1) (st := []) F hno M_J15_checkIndex_7cf53 q860 q859 ⟨by decide, by decide⟩ (Nat.le_of_ble_eq_true rfl) (by decide) dJx4a65c_remove_915e3_5 rfl h (fun z hz => c_J15_checkIndex_7cf53 l F.ht G x1 (fd M 0 2 x0) M z hz) (fun v2 M3 h kl4 => ?_)
  refine j_st (st' := [(true, v2)]) rfl ?_
  refine j_pop F dJx4a65c_remove_915e3_8 ?_
  refine j_aload_n F 0 rfl rfl dJx4a65c_remove_915e3_9 ?_
  refine j_get F ft_Jx4a65c_9 rfl (kl4.is g1) dJx4a65c_remove_915e3_10 ?_
  refine j_astore_n F (lv' := [(2, (false, (fd M3 0 1 x0))), (0, (false, x0)), (1, (true, x1))]) rfl (by decide) rfl dJx4a65c_remove_915e3_13 ?_
  refine j_aload_n F 0 rfl rfl dJx4a65c_remove_915e3_14 ?_
  refine j_iload_n F 2 rfl rfl dJx4a65c_remove_915e3_15 ?_
  obtain ⟨g5, h⟩ := gua h
  obtain ⟨g6, h⟩ := gua h
  refine j_aaload F 10 3 g5 (by decide) rfl g6 dJx4a65c_remove_915e3_16 ?_
  refine j_astore_n F (lv' := [(3, (false, (el M3 10 (fd M3 0 1 x0) (wr x1)))), (2, (false, (fd M3 0 1 x0))), (0, (false, x0)), (1, (true, x1))]) rfl (by decide) rfl dJx4a65c_remove_915e3_17 ?_
  refine j_aload_n F 2 rfl rfl dJx4a65c_remove_915e3_18 ?_
  refine j_aload_n F 1 rfl rfl dJx4a65c_remove_915e3_19 ?_
  refine j_iload_n F 3 rfl rfl dJx4a65c_remove_915e3_20 ?_
  refine j_callV (d' := 1) (argl := [(false, (fd M3 0 1 x0)), (true, x1)]) (rk9 := 0) (st := []) F hno M_Jx4a65c_fastRemove_b59b0 q1107 q14 q1105 ⟨by decide, by decide⟩ (Nat.le_of_ble_eq_true rfl) (by decide) (ci := 0) rfl (by decide) (kl4.is g1) dJx4a65c_remove_915e3_21 rfl h (fun z hz => c_Jx4a65c_fastRemove_b59b0 l F.ht G x0 (fd M3 0 1 x0) x1 M3 z hz) (fun v7 M8 h kl9 => ?_)
  refine j_st (st' := []) rfl ?_
  refine j_aload_n F 0 rfl rfl dJx4a65c_remove_915e3_24 ?_
  exact j_aret F (Or.inl ⟨_, rfl⟩) h dJx4a65c_remove_915e3_25
theorem c_Jx4a65c_remove_915e3 (l : Launch) (hl : l.stackTraces = false) (G : Gt) (x0 x1 : Int) (M : Mo) (z : RS) (h : Jx4a65c_remove_915e3 x0 x1 M = some z) : CT l G yJx4a65c_remove_915e3 (cn yJx4a65c_remove_915e3 cJx4a65c_remove_915e3 4 (some (FieldType.object "java/lang/Object"))) 2 [(false, x0), (true, x1)] M 2 z :=
  ctOf hl (by decide) (Nat.le_of_ble_eq_true rfl) (fun p e R s m args below meth c ρ F hno hnm => w_Jx4a65c_remove_915e3_0 F hno hnm x0 x1 M h)
theorem dJx4a65c_clear_da8c8_0 : decode cJx4a65c_clear_da8c8 0 = .ok (.aload_n 0, 1) := by decide +kernel
theorem dJx4a65c_clear_da8c8_1 : decode cJx4a65c_clear_da8c8 1 = .ok (.dup, 1) := by decide +kernel
theorem dJx4a65c_clear_da8c8_2 : decode cJx4a65c_clear_da8c8 2 = .ok (.getfield 63, 3) := by decide +kernel
theorem dJx4a65c_clear_da8c8_5 : decode cJx4a65c_clear_da8c8 5 = .ok (.iconst 1, 1) := by decide +kernel
theorem dJx4a65c_clear_da8c8_6 : decode cJx4a65c_clear_da8c8 6 = .ok (.iadd, 1) := by decide +kernel
theorem dJx4a65c_clear_da8c8_7 : decode cJx4a65c_clear_da8c8 7 = .ok (.putfield 63, 3) := by decide +kernel
theorem dJx4a65c_clear_da8c8_10 : decode cJx4a65c_clear_da8c8 10 = .ok (.aload_n 0, 1) := by decide +kernel
theorem dJx4a65c_clear_da8c8_11 : decode cJx4a65c_clear_da8c8 11 = .ok (.getfield 9, 3) := by decide +kernel
theorem dJx4a65c_clear_da8c8_14 : decode cJx4a65c_clear_da8c8 14 = .ok (.astore_n 1, 1) := by decide +kernel
theorem dJx4a65c_clear_da8c8_15 : decode cJx4a65c_clear_da8c8 15 = .ok (.aload_n 0, 1) := by decide +kernel
theorem dJx4a65c_clear_da8c8_16 : decode cJx4a65c_clear_da8c8 16 = .ok (.getfield 48, 3) := by decide +kernel
theorem dJx4a65c_clear_da8c8_19 : decode cJx4a65c_clear_da8c8 19 = .ok (.istore_n 2, 1) := by decide +kernel
theorem dJx4a65c_clear_da8c8_20 : decode cJx4a65c_clear_da8c8 20 = .ok (.aload_n 0, 1) := by decide +kernel
theorem dJx4a65c_clear_da8c8_21 : decode cJx4a65c_clear_da8c8 21 = .ok (.iconst 0, 1) := by decide +kernel
theorem dJx4a65c_clear_da8c8_22 : decode cJx4a65c_clear_da8c8 22 = .ok (.dup_x1, 1) := by decide +kernel
theorem dJx4a65c_clear_da8c8_23 : decode cJx4a65c_clear_da8c8 23 = .ok (.putfield 48, 3) := by decide +kernel
theorem dJx4a65c_clear_da8c8_26 : decode cJx4a65c_clear_da8c8 26 = .ok (.istore_n 3, 1) := by decide +kernel
theorem dJx4a65c_clear_da8c8_27 : decode cJx4a65c_clear_da8c8 27 = .ok (.iload_n 3, 1) := by decide +kernel
theorem dJx4a65c_clear_da8c8_28 : decode cJx4a65c_clear_da8c8 28 = .ok (.iload_n 2, 1) := by decide +kernel
theorem dJx4a65c_clear_da8c8_29 : decode cJx4a65c_clear_da8c8 29 = .ok (.if_icmp .ge 13, 3) := by decide +kernel
theorem dJx4a65c_clear_da8c8_42 : decode cJx4a65c_clear_da8c8 42 = .ok (.return_, 1) := by decide +kernel
theorem dJx4a65c_clear_da8c8_32 : decode cJx4a65c_clear_da8c8 32 = .ok (.aload_n 1, 1) := by decide +kernel
theorem dJx4a65c_clear_da8c8_33 : decode cJx4a65c_clear_da8c8 33 = .ok (.iload_n 3, 1) := by decide +kernel
theorem dJx4a65c_clear_da8c8_34 : decode cJx4a65c_clear_da8c8 34 = .ok (.aconst_null, 1) := by decide +kernel
theorem dJx4a65c_clear_da8c8_35 : decode cJx4a65c_clear_da8c8 35 = .ok (.aastore, 1) := by decide +kernel
theorem dJx4a65c_clear_da8c8_36 : decode cJx4a65c_clear_da8c8 36 = .ok (.iinc 3 1, 3) := by decide +kernel
theorem dJx4a65c_clear_da8c8_39 : decode cJx4a65c_clear_da8c8 39 = .ok (.goto (-12), 3) := by decide +kernel
set_option maxHeartbeats 4000000 in
set_option maxRecDepth 100000 in
theorem w_Jx4a65c_clear_da8c8_27 {p : Program} {l : Launch} {e : Env} {R : Room} {s : State} {m : MethodId} {args : Array Value} {below : List Frame} {meth : Method} {c : Code} {G : Gt} {ρ0 : Int → Nat} {M0 : Mo} {res : RS} (F : Fx p l R s m args meth c cJx4a65c_clear_da8c8 4 RJx4a65c G M0 0 none) (hno : ∀ x ∈ c.exceptionTable.toList, False) (hnm : meth.name = yJx4a65c_clear_da8c8.name) (n : Nat) : ∀ (x1 x2 x3 : Int) (M : Mo), Jx4a65c_clear_da8c8_27 n x1 x2 x3 M = some res → J p l e R s m args below meth c 4 G ρ0 M0 0 res M 27 [(1, (false, x1)), (2, (true, x2)), (3, (true, x3))] [] := by
  induction n with
  | zero => intro x1 x2 x3 M h; cases h
  | succ n ih =>
    intro x1 x2 x3 M h
    rw [Jx4a65c_clear_da8c8_27] at h
    refine j_iload_n F 2 rfl rfl dJx4a65c_clear_da8c8_27 ?_
    refine j_iload_n F 1 rfl rfl dJx4a65c_clear_da8c8_28 ?_
    refine j_icmp_ge F 42 (by decide) dJx4a65c_clear_da8c8_29 h (fun h => ?_) (fun h => ?_)
    · skip
      exact j_vret F (v := 0) h dJx4a65c_clear_da8c8_42
    · skip
      refine j_aload_n F 0 rfl rfl dJx4a65c_clear_da8c8_32 ?_
      refine j_iload_n F 2 rfl rfl dJx4a65c_clear_da8c8_33 ?_
      refine j_null F dJx4a65c_clear_da8c8_34 ?_
      obtain ⟨g1, h⟩ := gua h
      obtain ⟨g2, h⟩ := gua h
      refine j_aastoreO F castO g1 g2 (Or.inl rfl) dJx4a65c_clear_da8c8_35 ?_
      obtain ⟨M3, hM3⟩ : ∃ Z, Z = sE M 10 x1 (wr x3) 0 := ⟨_, rfl⟩
      have kl4 : kle M M3 := by rw [hM3]; exact kle_sE
      rw [← hM3]
      replace h := pt_as h hM3
      refine j_iinc F 2 (lv' := [(3, (true, (x3 + 1))), (1, (false, x1)), (2, (true, x2))]) rfl (by decide) rfl dJx4a65c_clear_da8c8_36 ?_
      refine j_goto F 27 (by decide) dJx4a65c_clear_da8c8_39 ?_
      refine j_sub (lv' := [(1, (false, x1)), (2, (true, x2)), (3, (true, (x3 + 1)))]) [1, 2, 0] rfl ?_
      exact ih x1 x2 (x3 + 1) M3 h
set_option maxHeartbeats 4000000 in
set_option maxRecDepth 100000 in
theorem w_Jx4a65c_clear_da8c8_0 {p : Program} {l : Launch} {e : Env} {R : Room} {s : State} {m : MethodId} {args : Array Value} {below : List Frame} {meth : Method} {c : Code} {G : Gt} {ρ0 : Int → Nat} {M0 : Mo} {res : RS} (F : Fx p l R s m args meth c cJx4a65c_clear_da8c8 4 RJx4a65c G M0 0 none) (hno : ∀ x ∈ c.exceptionTable.toList, False) (hnm : meth.name = yJx4a65c_clear_da8c8.name) (x0 : Int) (M : Mo) (h : Jx4a65c_clear_da8c8 x0 M = some res) : J p l e R s m args below meth c 4 G ρ0 M0 0 res M 0 [(0, (false, x0))] [] := by
  unfold Jx4a65c_clear_da8c8 at h
  refine j_aload_n F 0 rfl rfl dJx4a65c_clear_da8c8_0 ?_
  refine j_dup F dJx4a65c_clear_da8c8_1 ?_
  obtain ⟨g1, h⟩ := gua h
  refine j_get F ft_Jx4a65c_63 rfl g1 dJx4a65c_clear_da8c8_2 ?_
  refine j_iconst F dJx4a65c_clear_da8c8_5 ?_
  refine j_iadd F dJx4a65c_clear_da8c8_6 ?_
  refine j_put (ty := .int) F ft_Jx4a65c_63 rfl rfl tyJx4a65c tyJx4a65c_ok nmJx4a65c (by decide +kernel) (nf_int _) g1 dJx4a65c_clear_da8c8_7 ?_
  obtain ⟨M2, hM2⟩ : ∃ Z, Z = sF M 0 0 x0 ((fd M 0 0 x0) + 1) := ⟨_, rfl⟩
  have kl3 : kle M M2 := by rw [hM2]; exact kle_sF
  rw [← hM2]
  replace h := pt_as h hM2
  refine j_aload_n F 0 rfl rfl dJx4a65c_clear_da8c8_10 ?_
  refine j_get F ft_Jx4a65c_9 rfl (kl3.is g1) dJx4a65c_clear_da8c8_11 ?_
  refine j_astore_n F (lv' := [(1, (false, (fd M2 0 1 x0))), (0, (false, x0))]) rfl (by decide) rfl dJx4a65c_clear_da8c8_14 ?_
  refine j_aload_n F 1 rfl rfl dJx4a65c_clear_da8c8_15 ?_
  refine j_get F ft_Jx4a65c_48 rfl (kl3.is g1) dJx4a65c_clear_da8c8_16 ?_
  refine j_istore_n F (lv' := [(2, (true, (fd M2 0 2 x0))), (1, (false, (fd M2 0 1 x0))), (0, (false, x0))]) rfl (by decide) rfl dJx4a65c_clear_da8c8_19 ?_
  refine j_aload_n F 2 rfl rfl dJx4a65c_clear_da8c8_20 ?_
  refine j_iconst F dJx4a65c_clear_da8c8_21 ?_
  refine j_dup_x1 F dJx4a65c_clear_da8c8_22 ?_
  refine j_put (ty := .int) F ft_Jx4a65c_48 rfl rfl tyJx4a65c tyJx4a65c_ok nmJx4a65c (by decide +kernel) (nf_int _) (kl3.is g1) dJx4a65c_clear_da8c8_23 ?_
  obtain ⟨M4, hM4⟩ : ∃ Z, Z = sF M2 0 2 x0 0 := ⟨_, rfl⟩
  have kl5 : kle M2 M4 := by rw [hM4]; exact kle_sF
  rw [← hM4]
  replace h := pt_as h hM4
  refine j_istore_n F (lv' := [(3, (true, 0)), (2, (true, (fd M2 0 2 x0))), (1, (false, (fd M2 0 1 x0))), (0, (false, x0))]) rfl (by decide) rfl dJx4a65c_clear_da8c8_26 ?_
  refine j_sub (lv' := [(1, (false, (fd M2 0 1 x0))), (2, (true, (fd M2 0 2 x0))), (3, (true, 0))]) [2, 1, 0] rfl ?_
  exact w_Jx4a65c_clear_da8c8_27 F hno hnm FU (fd M2 0 1 x0) (fd M2 0 2 x0) 0 M4 h
theorem c_Jx4a65c_clear_da8c8 (l : Launch) (hl : l.stackTraces = false) (G : Gt) (x0 : Int) (M : Mo) (z : RS) (h : Jx4a65c_clear_da8c8 x0 M = some z) : CT l G yJx4a65c_clear_da8c8 (cn yJx4a65c_clear_da8c8 cJx4a65c_clear_da8c8 4 none) 0 [(false, x0)] M 0 z :=
  ctOf hl (by decide) (Nat.le_of_ble_eq_true rfl) (fun p e R s m args below meth c ρ F hno hnm => w_Jx4a65c_clear_da8c8_0 F hno hnm x0 M h)
theorem dJ7_fill_53178_0 : decode cJ7_fill_53178 0 = .ok (.iconst 0, 1) := by decide +kernel
theorem dJ7_fill_53178_1 : decode cJ7_fill_53178 1 = .ok (.istore_n 2, 1) := by decide +kernel
theorem dJ7_fill_53178_2 : decode cJ7_fill_53178 2 = .ok (.aload_n 0, 1) := by decide +kernel
theorem dJ7_fill_53178_3 : decode cJ7_fill_53178 3 = .ok (.arraylength, 1) := by decide +kernel
theorem dJ7_fill_53178_4 : decode cJ7_fill_53178 4 = .ok (.istore_n 3, 1) := by decide +kernel
theorem dJ7_fill_53178_5 : decode cJ7_fill_53178 5 = .ok (.iload_n 2, 1) := by decide +kernel
theorem dJ7_fill_53178_6 : decode cJ7_fill_53178 6 = .ok (.iload_n 3, 1) := by decide +kernel
theorem dJ7_fill_53178_7 : decode cJ7_fill_53178 7 = .ok (.if_icmp .ge 13, 3) := by decide +kernel
theorem dJ7_fill_53178_20 : decode cJ7_fill_53178 20 = .ok (.return_, 1) := by decide +kernel
theorem dJ7_fill_53178_10 : decode cJ7_fill_53178 10 = .ok (.aload_n 0, 1) := by decide +kernel
theorem dJ7_fill_53178_11 : decode cJ7_fill_53178 11 = .ok (.iload_n 2, 1) := by decide +kernel
theorem dJ7_fill_53178_12 : decode cJ7_fill_53178 12 = .ok (.iload_n 1, 1) := by decide +kernel
theorem dJ7_fill_53178_13 : decode cJ7_fill_53178 13 = .ok (.iastore, 1) := by decide +kernel
theorem dJ7_fill_53178_14 : decode cJ7_fill_53178 14 = .ok (.iinc 2 1, 3) := by decide +kernel
theorem dJ7_fill_53178_17 : decode cJ7_fill_53178 17 = .ok (.goto (-12), 3) := by decide +kernel
set_option maxHeartbeats 4000000 in
set_option maxRecDepth 100000 in
theorem w_J7_fill_53178_5 {p : Program} {l : Launch} {e : Env} {R : Room} {s : State} {m : MethodId} {args : Array Value} {below : List Frame} {meth : Method} {c : Code} {G : Gt} {ρ0 : Int → Nat} {M0 : Mo} {res : RS} (F : Fx p l R s m args meth c cJ7_fill_53178 4 RJ7 G M0 0 none) (hno : ∀ x ∈ c.exceptionTable.toList, False) (hnm : meth.name = yJ7_fill_53178.name) (n : Nat) : ∀ (x0 x1 x2 x3 : Int) (M : Mo), J7_fill_53178_5 n x0 x1 x2 x3 M = some res → J p l e R s m args below meth c 4 G ρ0 M0 0 res M 5 [(0, (false, x0)), (1, (true, x1)), (2, (true, x2)), (3, (true, x3))] [] := by
  induction n with
  | zero => intro x0 x1 x2 x3 M h; cases h
  | succ n ih =>
    intro x0 x1 x2 x3 M h
    rw [J7_fill_53178_5] at h
    refine j_iload_n F 2 rfl rfl dJ7_fill_53178_5 ?_
    refine j_iload_n F 3 rfl rfl dJ7_fill_53178_6 ?_
    refine j_icmp_ge F 20 (by decide) dJ7_fill_53178_7 h (fun h => ?_) (fun h => ?_)
    · skip
      exact j_vret F (v := 0) h dJ7_fill_53178_20
    · skip
      refine j_aload_n F 0 rfl rfl dJ7_fill_53178_10 ?_
      refine j_iload_n F 2 rfl rfl dJ7_fill_53178_11 ?_
      refine j_iload_n F 1 rfl rfl dJ7_fill_53178_12 ?_
      obtain ⟨g1, h⟩ := gua h
      obtain ⟨g2, h⟩ := gua h
      refine j_iastore F g1 g2 dJ7_fill_53178_13 ?_
      obtain ⟨M3, hM3⟩ : ∃ Z, Z = sE M 0 x0 (wr x2) x1 := ⟨_, rfl⟩
      have kl4 : kle M M3 := by rw [hM3]; exact kle_sE
      rw [← hM3]
      replace h := pt_as h hM3
      refine j_iinc F 2 (lv' := [(2, (true, (x2 + 1))), (0, (false, x0)), (1, (true, x1)), (3, (true, x3))]) rfl (by decide) rfl dJ7_fill_53178_14 ?_
      refine j_goto F 5 (by decide) dJ7_fill_53178_17 ?_
      refine j_sub (lv' := [(0, (false, x0)), (1, (true, x1)), (2, (true, (x2 + 1))), (3, (true, x3))]) [1, 2, 0, 3] rfl ?_
      exact ih x0 x1 (x2 + 1) x3 M3 h
set_option maxHeartbeats 4000000 in
set_option maxRecDepth 100000 in
theorem w_J7_fill_53178_0 {p : Program} {l : Launch} {e : Env} {R : Room} {s : State} {m : MethodId} {args : Array Value} {below : List Frame} {meth : Method} {c : Code} {G : Gt} {ρ0 : Int → Nat} {M0 : Mo} {res : RS} (F : Fx p l R s m args meth c cJ7_fill_53178 4 RJ7 G M0 0 none) (hno : ∀ x ∈ c.exceptionTable.toList, False) (hnm : meth.name = yJ7_fill_53178.name) (x0 x1 : Int) (M : Mo) (h : J7_fill_53178 x0 x1 M = some res) : J p l e R s m args below meth c 4 G ρ0 M0 0 res M 0 [(0, (false, x0)), (1, (true, x1))] [] := by
  unfold J7_fill_53178 at h
  refine j_iconst F dJ7_fill_53178_0 ?_
  refine j_istore_n F (lv' := [(2, (true, 0)), (0, (false, x0)), (1, (true, x1))]) rfl (by decide) rfl dJ7_fill_53178_1 ?_
  refine j_aload_n F 1 rfl rfl dJ7_fill_53178_2 ?_
  obtain ⟨g1, h⟩ := gua h
  refine j_alen F g1 dJ7_fill_53178_3 ?_
  refine j_istore_n F (lv' := [(3, (true, (ln M x0))), (2, (true, 0)), (0, (false, x0)), (1, (true, x1))]) rfl (by decide) rfl dJ7_fill_53178_4 ?_
  refine j_sub (lv' := [(0, (false, x0)), (1, (true, x1)), (2, (true, 0)), (3, (true, (ln M x0)))]) [2, 3, 1, 0] rfl ?_
  exact w_J7_fill_53178_5 F hno hnm FU x0 x1 0 (ln M x0) M h
theorem c_J7_fill_53178 (l : Launch) (hl : l.stackTraces = false) (G : Gt) (x0 x1 : Int) (M : Mo) (z : RS) (h : J7_fill_53178 x0 x1 M = some z) : CT l G yJ7_fill_53178 (cn yJ7_fill_53178 cJ7_fill_53178 4 none) 0 [(false, x0), (true, x1)] M 0 z :=
  ctOf hl (by decide) (Nat.le_of_ble_eq_true rfl) (fun p e R s m args below meth c ρ F hno hnm => w_J7_fill_53178_0 F hno hnm x0 x1 M h)
theorem dJ7_copyOf_59c91_0 : decode cJ7_copyOf_59c91 0 = .ok (.iload_n 1, 1) := by decide +kernel
theorem dJ7_copyOf_59c91_1 : decode cJ7_copyOf_59c91 1 = .ok (.aload_n 0, 1) := by decide +kernel
theorem dJ7_copyOf_59c91_2 : decode cJ7_copyOf_59c91 2 = .ok (.arraylength, 1) := by decide +kernel
theorem dJ7_copyOf_59c91_3 : decode cJ7_copyOf_59c91 3 = .ok (.if_icmp .ne 11, 3) := by decide +kernel
theorem dJ7_copyOf_59c91_14 : decode cJ7_copyOf_59c91 14 = .ok (.iload_n 1, 1) := by decide +kernel
set_option maxRecDepth 100000 in
theorem q133 : Cond.arrayClass FieldType.int ∈ GT := gt 133 (by decide +kernel) (by decide +kernel)
theorem dJ7_copyOf_59c91_15 : decode cJ7_copyOf_59c91 15 = .ok (.newarray .int, 2) := by decide +kernel
theorem dJ7_copyOf_59c91_17 : decode cJ7_copyOf_59c91 17 = .ok (.astore_n 2, 1) := by decide +kernel
theorem dJ7_copyOf_59c91_18 : decode cJ7_copyOf_59c91 18 = .ok (.aload_n 0, 1) := by decide +kernel
theorem dJ7_copyOf_59c91_19 : decode cJ7_copyOf_59c91 19 = .ok (.iconst 0, 1) := by decide +kernel
theorem dJ7_copyOf_59c91_20 : decode cJ7_copyOf_59c91 20 = .ok (.aload_n 2, 1) := by decide +kernel
theorem dJ7_copyOf_59c91_21 : decode cJ7_copyOf_59c91 21 = .ok (.iconst 0, 1) := by decide +kernel
theorem dJ7_copyOf_59c91_22 : decode cJ7_copyOf_59c91 22 = .ok (.aload_n 0, 1) := by decide +kernel
theorem dJ7_copyOf_59c91_23 : decode cJ7_copyOf_59c91 23 = .ok (.arraylength, 1) := by decide +kernel
theorem dJ7_copyOf_59c91_24 : decode cJ7_copyOf_59c91 24 = .ok (.iload_n 1, 1) := by decide +kernel
theorem dJ7_copyOf_59c91_25 : decode cJ7_copyOf_59c91 25 = .ok (.invokestatic 304, 3) := by decide +kernel
theorem dJ7_copyOf_59c91_28 : decode cJ7_copyOf_59c91 28 = .ok (.invokestatic 150, 3) := by decide +kernel
theorem dJ7_copyOf_59c91_31 : decode cJ7_copyOf_59c91 31 = .ok (.aload_n 2, 1) := by decide +kernel
theorem dJ7_copyOf_59c91_32 : decode cJ7_copyOf_59c91 32 = .ok (.areturn, 1) := by decide +kernel
theorem dJ7_copyOf_59c91_6 : decode cJ7_copyOf_59c91 6 = .ok (.aload_n 0, 1) := by decide +kernel
set_option maxRecDepth 100000 in
theorem q923 : Cond.methodLink RJ7 316 ⟨"[I", "clone", "()Ljava/lang/Object;"⟩ ∈ GT := gt 923 (by decide +kernel) (by decide +kernel)
set_option maxRecDepth 100000 in
theorem q924 : Cond.sameMethod "[I" "java/lang/Object" "clone" "()Ljava/lang/Object;" ∈ GT := gt 924 (by decide +kernel) (by decide +kernel)
set_option maxRecDepth 100000 in
theorem q925 : Cond.native ⟨"java/lang/Object", "clone", "()Ljava/lang/Object;"⟩ ∈ GT := gt 925 (by decide +kernel) (by decide +kernel)
set_option maxRecDepth 100000 in
theorem q926 : Cond.instanceMethod ⟨"java/lang/Object", "clone", "()Ljava/lang/Object;"⟩ ∈ GT := gt 926 (by decide +kernel) (by decide +kernel)
set_option maxRecDepth 100000 in
theorem q927 : Cond.selects "[I" ⟨"[I", "clone", "()Ljava/lang/Object;"⟩ ⟨"java/lang/Object", "clone", "()Ljava/lang/Object;"⟩ ∈ GT := gt 927 (by decide +kernel) (by decide +kernel)
set_option maxRecDepth 100000 in
theorem q928 : Cond.castable "[I" RJx8e188 ∈ GT := gt 928 (by decide +kernel) (by decide +kernel)
theorem dJ7_copyOf_59c91_7 : decode cJ7_copyOf_59c91 7 = .ok (.invokevirtual 316, 3) := by decide +kernel
set_option maxRecDepth 100000 in
theorem q929 : Cond.classLink RJ7 317 "[I" ∈ GT := gt 929 (by decide +kernel) (by decide +kernel)
theorem dJ7_copyOf_59c91_10 : decode cJ7_copyOf_59c91 10 = .ok (.checkcast 317, 3) := by decide +kernel
theorem dJ7_copyOf_59c91_13 : decode cJ7_copyOf_59c91 13 = .ok (.areturn, 1) := by decide +kernel
set_option maxHeartbeats 4000000 in
set_option maxRecDepth 100000 in
theorem w_J7_copyOf_59c91_0 {p : Program} {l : Launch} {e : Env} {R : Room} {s : State} {m : MethodId} {args : Array Value} {below : List Frame} {meth : Method} {c : Code} {G : Gt} {ρ0 : Int → Nat} {M0 : Mo} {res : RS} (F : Fx p l R s m args meth c cJ7_copyOf_59c91 3 RJ7 G M0 1 (some (FieldType.array FieldType.int))) (hno : ∀ x ∈ c.exceptionTable.toList, False) (hnm : meth.name = yJ7_copyOf_59c91.name) (x0 x1 : Int) (M : Mo) (h : J7_copyOf_59c91 x0 x1 M = some res) : J p l e R s m args below meth c 3 G ρ0 M0 2 res M 0 [(0, (false, x0)), (1, (true, x1))] [] := by
  unfold J7_copyOf_59c91 at h
  refine j_iload_n F 1 rfl rfl dJ7_copyOf_59c91_0 ?_
  refine j_aload_n F 0 rfl rfl dJ7_copyOf_59c91_1 ?_
  obtain ⟨g1, h⟩ := gua h
  refine j_alen F g1 dJ7_copyOf_59c91_2 ?_
  refine j_icmp_ne F 14 (by decide) dJ7_copyOf_59c91_3 h (fun h => ?_) (fun h => ?_)
  · skip
    refine j_iload_n F 1 rfl rfl dJ7_copyOf_59c91_14 ?_
    obtain ⟨g2, h⟩ := gua h
    obtain ⟨g3, h⟩ := gua h
    refine j_newaI F q133 g2 g3 dJ7_copyOf_59c91_15 (fun kl4 => ?_)
    obtain ⟨M5, hM5⟩ : ∃ Z, Z = nA M 0 (wr x1) := ⟨_, rfl⟩
    have g6 : kd M5 (nid M) = 100 := by rw [hM5]; exact kd_nA
    rw [← hM5] at kl4 ⊢
    replace h := pt_as h hM5
    refine j_astore_n F (lv' := [(2, (false, (nid M))), (0, (false, x0)), (1, (true, x1))]) rfl (by decide) rfl dJ7_copyOf_59c91_17 ?_
    refine j_aload_n F 1 rfl rfl dJ7_copyOf_59c91_18 ?_
    refine j_iconst F dJ7_copyOf_59c91_19 ?_
    refine j_aload_n F 0 rfl rfl dJ7_copyOf_59c91_20 ?_
    refine j_iconst F dJ7_copyOf_59c91_21 ?_
    refine j_aload_n F 1 rfl rfl dJ7_copyOf_59c91_22 ?_
    obtain ⟨g7, h⟩ := gua h
    refine j_alen F g7 dJ7_copyOf_59c91_23 ?_
    refine j_iload_n F 2 rfl rfl dJ7_copyOf_59c91_24 ?_
    refine j_min F ⟨q569, q570, q74, q571⟩ (by decide) (Nat.le_of_ble_eq_true rfl) dJ7_copyOf_59c91_25 ?_
    obtain ⟨g8, h⟩ := gua h
    by_cases c9 : kd M5 x0 = 300
    · rw [if_pos c9] at h
      refine j_copyN F ⟨q572, q574, q573, q71⟩ c9 g6 g8 (by decide) (Nat.le_of_ble_eq_true rfl) dJ7_copyOf_59c91_28 ?_
      refine j_aload_n F 0 rfl rfl dJ7_copyOf_59c91_31 ?_
      exact j_aret F (Or.inr ⟨_, rfl⟩) h dJ7_copyOf_59c91_32
    · rw [if_neg c9] at h
      obtain ⟨g9, h⟩ := gua h
      refine j_copyI F ⟨q572, q574, q573, q71⟩ g9 g6 g8 (by decide) (Nat.le_of_ble_eq_true rfl) dJ7_copyOf_59c91_28 ?_
      obtain ⟨M10, hM10⟩ : ∃ Z, Z = cpE M5 0 x0 (wr 0) (nid M) (wr 0) (wr (mnn (ln M5 x0) x1)) := ⟨_, rfl⟩
      have kl11 : kle M5 M10 := by rw [hM10]; exact kle_cpE
      rw [← hM10]
      replace h := pt_as h hM10
      refine j_aload_n F 0 rfl rfl dJ7_copyOf_59c91_31 ?_
      exact j_aret F (Or.inr ⟨_, rfl⟩) h dJ7_copyOf_59c91_32
  · skip
    refine j_aload_n F 0 rfl rfl dJ7_copyOf_59c91_6 ?_
    obtain ⟨g12, h⟩ := gua h
    obtain ⟨g13, h⟩ := gua h
    refine j_clone F ⟨q923, q924, q925, q926, q927, q928⟩ g12 (by decide) (Nat.le_of_ble_eq_true rfl) g13 dJ7_copyOf_59c91_7 (fun kl14 => ?_)
    obtain ⟨M15, hM15⟩ : ∃ Z, Z = nK M 0 x0 := ⟨_, rfl⟩
    have g16 : kd M15 (nid M) = 100 := by rw [hM15]; exact kd_nK
    rw [← hM15] at kl14 ⊢
    replace h := pt_as h hM15
    refine j_castI F q929 g16 dJ7_copyOf_59c91_10 ?_
    exact j_aret F (Or.inr ⟨_, rfl⟩) h dJ7_copyOf_59c91_13
theorem c_J7_copyOf_59c91 (l : Launch) (hl : l.stackTraces = false) (G : Gt) (x0 x1 : Int) (M : Mo) (z : RS) (h : J7_copyOf_59c91 x0 x1 M = some z) : CT l G yJ7_copyOf_59c91 (cn yJ7_copyOf_59c91 cJ7_copyOf_59c91 3 (some (FieldType.array FieldType.int))) 1 [(false, x0), (true, x1)] M 2 z :=
  ctOf hl (by decide) (Nat.le_of_ble_eq_true rfl) (fun p e R s m args below meth c ρ F hno hnm => w_J7_copyOf_59c91_0 F hno hnm x0 x1 M h)
