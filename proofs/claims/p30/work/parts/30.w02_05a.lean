theorem dX5_init_0 : decode cX5_init 0 = .ok (.aload_n 0, 1) := by decide +kernel
set_option maxRecDepth 100000 in
theorem q230 : Cond.methodLink RX5 3 Lib.objectInit ∈ GT := gt 230 (by decide +kernel) (by decide +kernel)
theorem dX5_init_1 : decode cX5_init 1 = .ok (.invokespecial 3, 3) := by decide +kernel
theorem dX5_init_4 : decode cX5_init 4 = .ok (.aload_n 0, 1) := by decide +kernel
set_option maxRecDepth 100000 in
theorem q231 : Cond.fieldLinkNest RX5 9 "ToolPlex" "NOTHING" "[I" "ToolPlex" ∈ GT := gt 231 (by decide +kernel) (by decide +kernel)
theorem dX5_init_5 : decode cX5_init 5 = .ok (.getstatic 9, 3) := by decide +kernel
set_option maxRecDepth 100000 in
theorem q232 : Cond.fieldLink RX5 13 "ToolPlex$Items" "cells" "[I" ∈ GT := gt 232 (by decide +kernel) (by decide +kernel)
theorem inGX5 : ∀ w ∈ u_ws RX5 TX5 2, w ∈ GT := gts [234, 236] (by decide +kernel) (by decide +kernel)
theorem ft_X5_13 : FT RX5 13 RX5 6 RX5 TX5 2 0 := ⟨rfl, by decide, by decide, q232, Or.inl rfl, inGX5⟩
theorem dX5_init_8 : decode cX5_init 8 = .ok (.putfield 13, 3) := by decide +kernel
theorem dX5_init_11 : decode cX5_init 11 = .ok (.return_, 1) := by decide +kernel
set_option maxHeartbeats 4000000 in
set_option maxRecDepth 100000 in
theorem w_X5_init_0 {p : Program} {l : Launch} {e : Env} {R : Room} {s : State} {m : MethodId} {args : Array Value} {below : List Frame} {meth : Method} {c : Code} {G : Gt} {ρ0 : Int → Nat} {M0 : Mo} {res : RS} (F : Fx p l R s m args meth c cX5_init 1 RX5 G M0 1 none) (hno : ∀ x ∈ c.exceptionTable.toList, False) (hnm : meth.name = yX5_init.name) (x0 : Int) (M : Mo) (h : X5_init x0 M = some res) : J p l e R s m args below meth c 1 G ρ0 M0 0 res M 0 [(0, (false, x0))] [] := by
  unfold X5_init at h
  refine j_aload_n F 0 rfl rfl dX5_init_0 ?_
  obtain ⟨g1, h⟩ := gua h
  refine j_objInit F ⟨q230, q86, q87⟩ g1 (by decide) (Nat.le_of_ble_eq_true rfl) dX5_init_1 ?_
  refine j_aload_n F 0 rfl rfl dX5_init_4 ?_
  refine j_nothingN F q231 dX5_init_5 ?_
  obtain ⟨g2, h⟩ := gua h
  refine j_put (ty := .array .int) F ft_X5_13 rfl rfl tyX5 tyX5_ok nmX5 (by decide +kernel) (nf_ref (Or.inr ⟨_, rfl⟩) _) g2 dX5_init_8 ?_
  obtain ⟨M3, hM3⟩ : ∃ Z, Z = sF M 6 0 x0 1 := ⟨_, rfl⟩
  have kl4 : kle M M3 := by rw [hM3]; exact kle_sF
  rw [← hM3]
  replace h := pt_as h hM3
  exact j_vret F (v := 0) h dX5_init_11
theorem c_X5_init (l : Launch) (hl : l.stackTraces = false) (G : Gt) (x0 : Int) (M : Mo) (z : RS) (h : X5_init x0 M = some z) : CT l G yX5_init (cn yX5_init cX5_init 1 none) 1 [(false, x0)] M 0 z :=
  ctOf hl (by decide) (Nat.le_of_ble_eq_true rfl) (fun p e R s m args below meth c ρ F hno hnm => w_X5_init_0 F hno hnm x0 M h)
theorem dX5_size_0 : decode cX5_size 0 = .ok (.aload_n 0, 1) := by decide +kernel
set_option maxRecDepth 100000 in
theorem q233 : Cond.fieldLink RX5 18 "ToolPlex$Items" "count" "I" ∈ GT := gt 233 (by decide +kernel) (by decide +kernel)
theorem ft_X5_18 : FT RX5 18 RX5 6 RX5 TX5 2 1 := ⟨rfl, by decide, by decide, q233, Or.inl rfl, inGX5⟩
theorem dX5_size_1 : decode cX5_size 1 = .ok (.getfield 18, 3) := by decide +kernel
theorem dX5_size_4 : decode cX5_size 4 = .ok (.ireturn, 1) := by decide +kernel
set_option maxHeartbeats 4000000 in
set_option maxRecDepth 100000 in
theorem w_X5_size_0 {p : Program} {l : Launch} {e : Env} {R : Room} {s : State} {m : MethodId} {args : Array Value} {below : List Frame} {meth : Method} {c : Code} {G : Gt} {ρ0 : Int → Nat} {M0 : Mo} {res : RS} (F : Fx p l R s m args meth c cX5_size 1 RX5 G M0 0 (some FieldType.int)) (hno : ∀ x ∈ c.exceptionTable.toList, False) (hnm : meth.name = yX5_size.name) (x0 : Int) (M : Mo) (h : X5_size x0 M = some res) : J p l e R s m args below meth c 1 G ρ0 M0 1 res M 0 [(0, (false, x0))] [] := by
  unfold X5_size at h
  refine j_aload_n F 0 rfl rfl dX5_size_0 ?_
  obtain ⟨g1, h⟩ := gua h
  refine j_get F ft_X5_18 rfl g1 dX5_size_1 ?_
  exact j_iret F h dX5_size_4
theorem c_X5_size (l : Launch) (hl : l.stackTraces = false) (G : Gt) (x0 : Int) (M : Mo) (z : RS) (h : X5_size x0 M = some z) : CT l G yX5_size (cn yX5_size cX5_size 1 (some FieldType.int)) 0 [(false, x0)] M 1 z :=
  ctOf hl (by decide) (Nat.le_of_ble_eq_true rfl) (fun p e R s m args below meth c ρ F hno hnm => w_X5_size_0 F hno hnm x0 M h)
theorem dX5_clear_0 : decode cX5_clear 0 = .ok (.aload_n 0, 1) := by decide +kernel
theorem dX5_clear_1 : decode cX5_clear 1 = .ok (.iconst 0, 1) := by decide +kernel
theorem dX5_clear_2 : decode cX5_clear 2 = .ok (.putfield 18, 3) := by decide +kernel
theorem dX5_clear_5 : decode cX5_clear 5 = .ok (.return_, 1) := by decide +kernel
set_option maxHeartbeats 4000000 in
set_option maxRecDepth 100000 in
theorem w_X5_clear_0 {p : Program} {l : Launch} {e : Env} {R : Room} {s : State} {m : MethodId} {args : Array Value} {below : List Frame} {meth : Method} {c : Code} {G : Gt} {ρ0 : Int → Nat} {M0 : Mo} {res : RS} (F : Fx p l R s m args meth c cX5_clear 1 RX5 G M0 0 none) (hno : ∀ x ∈ c.exceptionTable.toList, False) (hnm : meth.name = yX5_clear.name) (x0 : Int) (M : Mo) (h : X5_clear x0 M = some res) : J p l e R s m args below meth c 1 G ρ0 M0 0 res M 0 [(0, (false, x0))] [] := by
  unfold X5_clear at h
  refine j_aload_n F 0 rfl rfl dX5_clear_0 ?_
  refine j_iconst F dX5_clear_1 ?_
  obtain ⟨g1, h⟩ := gua h
  refine j_put (ty := .int) F ft_X5_18 rfl rfl tyX5 tyX5_ok nmX5 (by decide +kernel) (nf_int _) g1 dX5_clear_2 ?_
  obtain ⟨M2, hM2⟩ : ∃ Z, Z = sF M 6 1 x0 0 := ⟨_, rfl⟩
  have kl3 : kle M M2 := by rw [hM2]; exact kle_sF
  rw [← hM2]
  replace h := pt_as h hM2
  exact j_vret F (v := 0) h dX5_clear_5
theorem c_X5_clear (l : Launch) (hl : l.stackTraces = false) (G : Gt) (x0 : Int) (M : Mo) (z : RS) (h : X5_clear x0 M = some z) : CT l G yX5_clear (cn yX5_clear cX5_clear 1 none) 0 [(false, x0)] M 0 z :=
  ctOf hl (by decide) (Nat.le_of_ble_eq_true rfl) (fun p e R s m args below meth c ρ F hno hnm => w_X5_clear_0 F hno hnm x0 M h)
theorem dX5_cell_0 : decode cX5_cell 0 = .ok (.iconst 4, 1) := by decide +kernel
theorem dX5_cell_1 : decode cX5_cell 1 = .ok (.iload_n 1, 1) := by decide +kernel
theorem dX5_cell_2 : decode cX5_cell 2 = .ok (.imul, 1) := by decide +kernel
theorem dX5_cell_3 : decode cX5_cell 3 = .ok (.iload_n 2, 1) := by decide +kernel
theorem dX5_cell_4 : decode cX5_cell 4 = .ok (.iadd, 1) := by decide +kernel
theorem dX5_cell_5 : decode cX5_cell 5 = .ok (.istore_n 3, 1) := by decide +kernel
theorem dX5_cell_6 : decode cX5_cell 6 = .ok (.iload_n 1, 1) := by decide +kernel
theorem dX5_cell_7 : decode cX5_cell 7 = .ok (.ifCond .lt 29, 3) := by decide +kernel
theorem dX5_cell_36 : decode cX5_cell 36 = .ok (.iconst 0, 1) := by decide +kernel
theorem dX5_cell_37 : decode cX5_cell 37 = .ok (.ireturn, 1) := by decide +kernel
theorem dX5_cell_10 : decode cX5_cell 10 = .ok (.iload_n 1, 1) := by decide +kernel
theorem dX5_cell_11 : decode cX5_cell 11 = .ok (.aload_n 0, 1) := by decide +kernel
theorem dX5_cell_12 : decode cX5_cell 12 = .ok (.getfield 18, 3) := by decide +kernel
theorem dX5_cell_15 : decode cX5_cell 15 = .ok (.if_icmp .ge 21, 3) := by decide +kernel
theorem dX5_cell_18 : decode cX5_cell 18 = .ok (.iload_n 3, 1) := by decide +kernel
theorem dX5_cell_19 : decode cX5_cell 19 = .ok (.aload_n 0, 1) := by decide +kernel
theorem dX5_cell_20 : decode cX5_cell 20 = .ok (.getfield 13, 3) := by decide +kernel
theorem dX5_cell_23 : decode cX5_cell 23 = .ok (.arraylength, 1) := by decide +kernel
theorem dX5_cell_24 : decode cX5_cell 24 = .ok (.if_icmp .ge 12, 3) := by decide +kernel
theorem dX5_cell_27 : decode cX5_cell 27 = .ok (.aload_n 0, 1) := by decide +kernel
theorem dX5_cell_28 : decode cX5_cell 28 = .ok (.getfield 13, 3) := by decide +kernel
theorem dX5_cell_31 : decode cX5_cell 31 = .ok (.iload_n 3, 1) := by decide +kernel
theorem dX5_cell_32 : decode cX5_cell 32 = .ok (.iaload, 1) := by decide +kernel
theorem dX5_cell_33 : decode cX5_cell 33 = .ok (.goto 4, 3) := by decide +kernel
set_option maxHeartbeats 4000000 in
set_option maxRecDepth 100000 in
theorem w_X5_cell_0 {p : Program} {l : Launch} {e : Env} {R : Room} {s : State} {m : MethodId} {args : Array Value} {below : List Frame} {meth : Method} {c : Code} {G : Gt} {ρ0 : Int → Nat} {M0 : Mo} {res : RS} (F : Fx p l R s m args meth c cX5_cell 4 RX5 G M0 0 (some FieldType.int)) (hno : ∀ x ∈ c.exceptionTable.toList, False) (hnm : meth.name = yX5_cell.name) (x0 x1 x2 : Int) (M : Mo) (h : X5_cell x0 x1 x2 M = some res) : J p l e R s m args below meth c 4 G ρ0 M0 1 res M 0 [(0, (false, x0)), (1, (true, x1)), (2, (true, x2))] [] := by
  unfold X5_cell at h
  refine j_iconst F dX5_cell_0 ?_
  refine j_iload_n F 1 rfl rfl dX5_cell_1 ?_
  refine j_imul F dX5_cell_2 ?_
  refine j_iload_n F 2 rfl rfl dX5_cell_3 ?_
  refine j_iadd F dX5_cell_4 ?_
  refine j_istore_n F (lv' := [(3, (true, ((4 * x1) + x2))), (0, (false, x0)), (1, (true, x1)), (2, (true, x2))]) rfl (by decide) rfl dX5_cell_5 ?_
  refine j_iload_n F 2 rfl rfl dX5_cell_6 ?_
  refine j_if_lt F 36 (by decide) dX5_cell_7 h (fun h => ?_) (fun h => ?_)
  · skip
    refine j_iconst F dX5_cell_36 ?_
    exact j_iret F h dX5_cell_37
  · skip
    refine j_iload_n F 2 rfl rfl dX5_cell_10 ?_
    refine j_aload_n F 1 rfl rfl dX5_cell_11 ?_
    obtain ⟨g1, h⟩ := gua h
    refine j_get F ft_X5_18 rfl g1 dX5_cell_12 ?_
    refine j_icmp_ge F 36 (by decide) dX5_cell_15 h (fun h => ?_) (fun h => ?_)
    · skip
      refine j_iconst F dX5_cell_36 ?_
      exact j_iret F h dX5_cell_37
    · skip
      refine j_iload_n F 0 rfl rfl dX5_cell_18 ?_
      refine j_aload_n F 1 rfl rfl dX5_cell_19 ?_
      refine j_get F ft_X5_13 rfl g1 dX5_cell_20 ?_
      obtain ⟨g2, h⟩ := gua h
      refine j_alen F g2 dX5_cell_23 ?_
      refine j_icmp_ge F 36 (by decide) dX5_cell_24 h (fun h => ?_) (fun h => ?_)
      · skip
        refine j_iconst F dX5_cell_36 ?_
        exact j_iret F h dX5_cell_37
      · skip
        refine j_aload_n F 1 rfl rfl dX5_cell_27 ?_
        refine j_get F ft_X5_13 rfl g1 dX5_cell_28 ?_
        refine j_iload_n F 0 rfl rfl dX5_cell_31 ?_
        obtain ⟨g3, h⟩ := gua h
        obtain ⟨g4, h⟩ := gua h
        refine j_iaload F g3 g4 dX5_cell_32 ?_
        refine j_goto F 37 (by decide) dX5_cell_33 ?_
        exact j_iret F h dX5_cell_37
theorem c_X5_cell (l : Launch) (hl : l.stackTraces = false) (G : Gt) (x0 x1 x2 : Int) (M : Mo) (z : RS) (h : X5_cell x0 x1 x2 M = some z) : CT l G yX5_cell (cn yX5_cell cX5_cell 4 (some FieldType.int)) 0 [(false, x0), (true, x1), (true, x2)] M 1 z :=
  ctOf hl (by decide) (Nat.le_of_ble_eq_true rfl) (fun p e R s m args below meth c ρ F hno hnm => w_X5_cell_0 F hno hnm x0 x1 x2 M h)
theorem dX5_fileAt_0 : decode cX5_fileAt 0 = .ok (.aload_n 0, 1) := by decide +kernel
theorem dX5_fileAt_1 : decode cX5_fileAt 1 = .ok (.iload_n 1, 1) := by decide +kernel
theorem dX5_fileAt_2 : decode cX5_fileAt 2 = .ok (.iconst 0, 1) := by decide +kernel
set_option maxRecDepth 100000 in
theorem q881 : Cond.code yX5_cell cX5_cell 4 (some FieldType.int) ∈ GT := gt 881 (rfl) (by decide +kernel)
set_option maxRecDepth 100000 in
theorem q62 : Cond.initialized RX5 ∈ GT := gt 62 (by decide +kernel) (by decide +kernel)
theorem M_X5_cell : MY yX5_cell cX5_cell 4 (some FieldType.int) 2 := ⟨q881, q62, by decide +kernel, by decide +kernel⟩
set_option maxRecDepth 100000 in
theorem q880 : Cond.instanceMethod yX5_cell ∈ GT := gt 880 (by decide +kernel) (by decide +kernel)
set_option maxRecDepth 100000 in
theorem q9 : Cond.selects RX5 yX5_cell yX5_cell ∈ GT := gt 9 (by decide +kernel) (by decide +kernel)
set_option maxRecDepth 100000 in
theorem q878 : Cond.methodLink RX5 22 yX5_cell ∈ GT := gt 878 (by decide +kernel) (by decide +kernel)
theorem dX5_fileAt_3 : decode cX5_fileAt 3 = .ok (.invokevirtual 22, 3) := by decide +kernel
theorem dX5_fileAt_6 : decode cX5_fileAt 6 = .ok (.ireturn, 1) := by decide +kernel
set_option maxHeartbeats 4000000 in
set_option maxRecDepth 100000 in
theorem w_X5_fileAt_0 {p : Program} {l : Launch} {e : Env} {R : Room} {s : State} {m : MethodId} {args : Array Value} {below : List Frame} {meth : Method} {c : Code} {G : Gt} {ρ0 : Int → Nat} {M0 : Mo} {res : RS} (F : Fx p l R s m args meth c cX5_fileAt 2 RX5 G M0 1 (some FieldType.int)) (hno : ∀ x ∈ c.exceptionTable.toList, False) (hnm : meth.name = yX5_fileAt.name) (x0 x1 : Int) (M : Mo) (h : X5_fileAt x0 x1 M = some res) : J p l e R s m args below meth c 2 G ρ0 M0 1 res M 0 [(0, (false, x0)), (1, (true, x1))] [] := by
  unfold X5_fileAt at h
  refine j_aload_n F 0 rfl rfl dX5_fileAt_0 ?_
  refine j_iload_n F 1 rfl rfl dX5_fileAt_1 ?_
  refine j_iconst F dX5_fileAt_2 ?_
  obtain ⟨g4, h⟩ := gua h
  refine j_callV (d' := 0) (argl := [(true, x1), (true, 0)]) (rk9 := 1) (st := []) F hno M_X5_cell q880 q9 q878 ⟨by decide, by decide⟩ (Nat.le_of_ble_eq_true rfl) (by decide) (ci := 6) rfl (by decide) g4 dX5_fileAt_3 rfl h (fun z hz => c_X5_cell l F.ht G x0 x1 0 M z hz) (fun v1 M2 h kl3 => ?_)
  refine j_st (st' := [(true, v1)]) rfl ?_
  exact j_iret F h dX5_fileAt_6
theorem c_X5_fileAt (l : Launch) (hl : l.stackTraces = false) (G : Gt) (x0 x1 : Int) (M : Mo) (z : RS) (h : X5_fileAt x0 x1 M = some z) : CT l G yX5_fileAt (cn yX5_fileAt cX5_fileAt 2 (some FieldType.int)) 1 [(false, x0), (true, x1)] M 1 z :=
  ctOf hl (by decide) (Nat.le_of_ble_eq_true rfl) (fun p e R s m args below meth c ρ F hno hnm => w_X5_fileAt_0 F hno hnm x0 x1 M h)
theorem dX5_startAt_0 : decode cX5_startAt 0 = .ok (.aload_n 0, 1) := by decide +kernel
theorem dX5_startAt_1 : decode cX5_startAt 1 = .ok (.iload_n 1, 1) := by decide +kernel
theorem dX5_startAt_2 : decode cX5_startAt 2 = .ok (.iconst 1, 1) := by decide +kernel
theorem dX5_startAt_3 : decode cX5_startAt 3 = .ok (.invokevirtual 22, 3) := by decide +kernel
theorem dX5_startAt_6 : decode cX5_startAt 6 = .ok (.ireturn, 1) := by decide +kernel
set_option maxHeartbeats 4000000 in
set_option maxRecDepth 100000 in
theorem w_X5_startAt_0 {p : Program} {l : Launch} {e : Env} {R : Room} {s : State} {m : MethodId} {args : Array Value} {below : List Frame} {meth : Method} {c : Code} {G : Gt} {ρ0 : Int → Nat} {M0 : Mo} {res : RS} (F : Fx p l R s m args meth c cX5_startAt 2 RX5 G M0 1 (some FieldType.int)) (hno : ∀ x ∈ c.exceptionTable.toList, False) (hnm : meth.name = yX5_startAt.name) (x0 x1 : Int) (M : Mo) (h : X5_startAt x0 x1 M = some res) : J p l e R s m args below meth c 2 G ρ0 M0 1 res M 0 [(0, (false, x0)), (1, (true, x1))] [] := by
  unfold X5_startAt at h
  refine j_aload_n F 0 rfl rfl dX5_startAt_0 ?_
  refine j_iload_n F 1 rfl rfl dX5_startAt_1 ?_
  refine j_iconst F dX5_startAt_2 ?_
  obtain ⟨g4, h⟩ := gua h
  refine j_callV (d' := 0) (argl := [(true, x1), (true, 1)]) (rk9 := 1) (st := []) F hno M_X5_cell q880 q9 q878 ⟨by decide, by decide⟩ (Nat.le_of_ble_eq_true rfl) (by decide) (ci := 6) rfl (by decide) g4 dX5_startAt_3 rfl h (fun z hz => c_X5_cell l F.ht G x0 x1 1 M z hz) (fun v1 M2 h kl3 => ?_)
  refine j_st (st' := [(true, v1)]) rfl ?_
  exact j_iret F h dX5_startAt_6
theorem c_X5_startAt (l : Launch) (hl : l.stackTraces = false) (G : Gt) (x0 x1 : Int) (M : Mo) (z : RS) (h : X5_startAt x0 x1 M = some z) : CT l G yX5_startAt (cn yX5_startAt cX5_startAt 2 (some FieldType.int)) 1 [(false, x0), (true, x1)] M 1 z :=
  ctOf hl (by decide) (Nat.le_of_ble_eq_true rfl) (fun p e R s m args below meth c ρ F hno hnm => w_X5_startAt_0 F hno hnm x0 x1 M h)
theorem dX5_endAt_0 : decode cX5_endAt 0 = .ok (.aload_n 0, 1) := by decide +kernel
theorem dX5_endAt_1 : decode cX5_endAt 1 = .ok (.iload_n 1, 1) := by decide +kernel
theorem dX5_endAt_2 : decode cX5_endAt 2 = .ok (.iconst 2, 1) := by decide +kernel
theorem dX5_endAt_3 : decode cX5_endAt 3 = .ok (.invokevirtual 22, 3) := by decide +kernel
theorem dX5_endAt_6 : decode cX5_endAt 6 = .ok (.ireturn, 1) := by decide +kernel
set_option maxHeartbeats 4000000 in
set_option maxRecDepth 100000 in
theorem w_X5_endAt_0 {p : Program} {l : Launch} {e : Env} {R : Room} {s : State} {m : MethodId} {args : Array Value} {below : List Frame} {meth : Method} {c : Code} {G : Gt} {ρ0 : Int → Nat} {M0 : Mo} {res : RS} (F : Fx p l R s m args meth c cX5_endAt 2 RX5 G M0 1 (some FieldType.int)) (hno : ∀ x ∈ c.exceptionTable.toList, False) (hnm : meth.name = yX5_endAt.name) (x0 x1 : Int) (M : Mo) (h : X5_endAt x0 x1 M = some res) : J p l e R s m args below meth c 2 G ρ0 M0 1 res M 0 [(0, (false, x0)), (1, (true, x1))] [] := by
  unfold X5_endAt at h
  refine j_aload_n F 0 rfl rfl dX5_endAt_0 ?_
  refine j_iload_n F 1 rfl rfl dX5_endAt_1 ?_
  refine j_iconst F dX5_endAt_2 ?_
  obtain ⟨g4, h⟩ := gua h
  refine j_callV (d' := 0) (argl := [(true, x1), (true, 2)]) (rk9 := 1) (st := []) F hno M_X5_cell q880 q9 q878 ⟨by decide, by decide⟩ (Nat.le_of_ble_eq_true rfl) (by decide) (ci := 6) rfl (by decide) g4 dX5_endAt_3 rfl h (fun z hz => c_X5_cell l F.ht G x0 x1 2 M z hz) (fun v1 M2 h kl3 => ?_)
  refine j_st (st' := [(true, v1)]) rfl ?_
  exact j_iret F h dX5_endAt_6
theorem c_X5_endAt (l : Launch) (hl : l.stackTraces = false) (G : Gt) (x0 x1 : Int) (M : Mo) (z : RS) (h : X5_endAt x0 x1 M = some z) : CT l G yX5_endAt (cn yX5_endAt cX5_endAt 2 (some FieldType.int)) 1 [(false, x0), (true, x1)] M 1 z :=
  ctOf hl (by decide) (Nat.le_of_ble_eq_true rfl) (fun p e R s m args below meth c ρ F hno hnm => w_X5_endAt_0 F hno hnm x0 x1 M h)
theorem dX5_valueAt_0 : decode cX5_valueAt 0 = .ok (.aload_n 0, 1) := by decide +kernel
theorem dX5_valueAt_1 : decode cX5_valueAt 1 = .ok (.iload_n 1, 1) := by decide +kernel
theorem dX5_valueAt_2 : decode cX5_valueAt 2 = .ok (.iconst 3, 1) := by decide +kernel
theorem dX5_valueAt_3 : decode cX5_valueAt 3 = .ok (.invokevirtual 22, 3) := by decide +kernel
theorem dX5_valueAt_6 : decode cX5_valueAt 6 = .ok (.ireturn, 1) := by decide +kernel
set_option maxHeartbeats 4000000 in
set_option maxRecDepth 100000 in
theorem w_X5_valueAt_0 {p : Program} {l : Launch} {e : Env} {R : Room} {s : State} {m : MethodId} {args : Array Value} {below : List Frame} {meth : Method} {c : Code} {G : Gt} {ρ0 : Int → Nat} {M0 : Mo} {res : RS} (F : Fx p l R s m args meth c cX5_valueAt 2 RX5 G M0 1 (some FieldType.int)) (hno : ∀ x ∈ c.exceptionTable.toList, False) (hnm : meth.name = yX5_valueAt.name) (x0 x1 : Int) (M : Mo) (h : X5_valueAt x0 x1 M = some res) : J p l e R s m args below meth c 2 G ρ0 M0 1 res M 0 [(0, (false, x0)), (1, (true, x1))] [] := by
  unfold X5_valueAt at h
  refine j_aload_n F 0 rfl rfl dX5_valueAt_0 ?_
  refine j_iload_n F 1 rfl rfl dX5_valueAt_1 ?_
  refine j_iconst F dX5_valueAt_2 ?_
  obtain ⟨g4, h⟩ := gua h
  refine j_callV (d' := 0) (argl := [(true, x1), (true, 3)]) (rk9 := 1) (st := []) F hno M_X5_cell q880 q9 q878 ⟨by decide, by decide⟩ (Nat.le_of_ble_eq_true rfl) (by decide) (ci := 6) rfl (by decide) g4 dX5_valueAt_3 rfl h (fun z hz => c_X5_cell l F.ht G x0 x1 3 M z hz) (fun v1 M2 h kl3 => ?_)
  refine j_st (st' := [(true, v1)]) rfl ?_
  exact j_iret F h dX5_valueAt_6
theorem c_X5_valueAt (l : Launch) (hl : l.stackTraces = false) (G : Gt) (x0 x1 : Int) (M : Mo) (z : RS) (h : X5_valueAt x0 x1 M = some z) : CT l G yX5_valueAt (cn yX5_valueAt cX5_valueAt 2 (some FieldType.int)) 1 [(false, x0), (true, x1)] M 1 z :=
  ctOf hl (by decide) (Nat.le_of_ble_eq_true rfl) (fun p e R s m args below meth c ρ F hno hnm => w_X5_valueAt_0 F hno hnm x0 x1 M h)
theorem dX5_insert_0 : decode cX5_insert 0 = .ok (.iload_n 1, 1) := by decide +kernel
theorem dX5_insert_1 : decode cX5_insert 1 = .ok (.ifCond .lt 11, 3) := by decide +kernel
theorem dX5_insert_12 : decode cX5_insert 12 = .ok (.return_, 1) := by decide +kernel
theorem dX5_insert_4 : decode cX5_insert 4 = .ok (.iload_n 1, 1) := by decide +kernel
theorem dX5_insert_5 : decode cX5_insert 5 = .ok (.aload_n 0, 1) := by decide +kernel
theorem dX5_insert_6 : decode cX5_insert 6 = .ok (.getfield 18, 3) := by decide +kernel
theorem dX5_insert_9 : decode cX5_insert 9 = .ok (.if_icmp .le 4, 3) := by decide +kernel
theorem dX5_insert_13 : decode cX5_insert 13 = .ok (.iconst 4, 1) := by decide +kernel
theorem dX5_insert_14 : decode cX5_insert 14 = .ok (.aload_n 0, 1) := by decide +kernel
theorem dX5_insert_15 : decode cX5_insert 15 = .ok (.getfield 18, 3) := by decide +kernel
theorem dX5_insert_18 : decode cX5_insert 18 = .ok (.imul, 1) := by decide +kernel
theorem dX5_insert_19 : decode cX5_insert 19 = .ok (.istore 6, 2) := by decide +kernel
theorem dX5_insert_21 : decode cX5_insert 21 = .ok (.iload 6, 2) := by decide +kernel
theorem dX5_insert_23 : decode cX5_insert 23 = .ok (.iconst 4, 1) := by decide +kernel
theorem dX5_insert_24 : decode cX5_insert 24 = .ok (.iadd, 1) := by decide +kernel
theorem dX5_insert_25 : decode cX5_insert 25 = .ok (.aload_n 0, 1) := by decide +kernel
theorem dX5_insert_26 : decode cX5_insert 26 = .ok (.getfield 13, 3) := by decide +kernel
theorem dX5_insert_29 : decode cX5_insert 29 = .ok (.arraylength, 1) := by decide +kernel
theorem dX5_insert_30 : decode cX5_insert 30 = .ok (.if_icmp .le 29, 3) := by decide +kernel
theorem dX5_insert_33 : decode cX5_insert 33 = .ok (.iload 6, 2) := by decide +kernel
theorem dX5_insert_35 : decode cX5_insert 35 = .ok (.iconst 4, 1) := by decide +kernel
theorem dX5_insert_36 : decode cX5_insert 36 = .ok (.iadd, 1) := by decide +kernel
set_option maxRecDepth 100000 in
theorem q1159 : Cond.constant RX5 30 (iI (1000000)) ∈ GT := gt 1159 (by decide +kernel) (by decide +kernel)
theorem dX5_insert_37 : decode cX5_insert 37 = .ok (.ldc 30, 2) := by decide +kernel
theorem dX5_insert_39 : decode cX5_insert 39 = .ok (.if_icmp .gt 20, 3) := by decide +kernel
theorem dX5_insert_42 : decode cX5_insert 42 = .ok (.aload_n 0, 1) := by decide +kernel
theorem dX5_insert_43 : decode cX5_insert 43 = .ok (.aload_n 0, 1) := by decide +kernel
theorem dX5_insert_44 : decode cX5_insert 44 = .ok (.getfield 13, 3) := by decide +kernel
theorem dX5_insert_47 : decode cX5_insert 47 = .ok (.iconst 2, 1) := by decide +kernel
theorem dX5_insert_48 : decode cX5_insert 48 = .ok (.iload 6, 2) := by decide +kernel
theorem dX5_insert_50 : decode cX5_insert 50 = .ok (.iconst 4, 1) := by decide +kernel
theorem dX5_insert_51 : decode cX5_insert 51 = .ok (.iadd, 1) := by decide +kernel
theorem dX5_insert_52 : decode cX5_insert 52 = .ok (.imul, 1) := by decide +kernel
set_option maxRecDepth 100000 in
theorem q922 : Cond.code yJ7_copyOf_59c91 cJ7_copyOf_59c91 3 (some (FieldType.array FieldType.int)) ∈ GT := gt 922 (rfl) (by decide +kernel)
theorem M_J7_copyOf_59c91 : MY yJ7_copyOf_59c91 cJ7_copyOf_59c91 3 (some (FieldType.array FieldType.int)) 2 := ⟨q922, q64, by decide +kernel, by decide +kernel⟩
set_option maxRecDepth 100000 in
theorem q921 : Cond.static yJ7_copyOf_59c91 ∈ GT := gt 921 (by decide +kernel) (by decide +kernel)
set_option maxRecDepth 100000 in
theorem q1160 : Cond.methodLink RX5 31 yJ7_copyOf_59c91 ∈ GT := gt 1160 (by decide +kernel) (by decide +kernel)
theorem dX5_insert_53 : decode cX5_insert 53 = .ok (.invokestatic 31, 3) := by decide +kernel
theorem dX5_insert_56 : decode cX5_insert 56 = .ok (.putfield 13, 3) := by decide +kernel
theorem dX5_insert_59 : decode cX5_insert 59 = .ok (.iconst 4, 1) := by decide +kernel
theorem dX5_insert_60 : decode cX5_insert 60 = .ok (.iload_n 1, 1) := by decide +kernel
theorem dX5_insert_61 : decode cX5_insert 61 = .ok (.imul, 1) := by decide +kernel
theorem dX5_insert_62 : decode cX5_insert 62 = .ok (.istore 7, 2) := by decide +kernel
theorem dX5_insert_64 : decode cX5_insert 64 = .ok (.iload 6, 2) := by decide +kernel
theorem dX5_insert_66 : decode cX5_insert 66 = .ok (.iconst 4, 1) := by decide +kernel
theorem dX5_insert_67 : decode cX5_insert 67 = .ok (.iadd, 1) := by decide +kernel
theorem dX5_insert_68 : decode cX5_insert 68 = .ok (.aload_n 0, 1) := by decide +kernel
theorem dX5_insert_69 : decode cX5_insert 69 = .ok (.getfield 13, 3) := by decide +kernel
theorem dX5_insert_72 : decode cX5_insert 72 = .ok (.arraylength, 1) := by decide +kernel
theorem dX5_insert_73 : decode cX5_insert 73 = .ok (.if_icmp .gt 75, 3) := by decide +kernel
theorem dX5_insert_148 : decode cX5_insert 148 = .ok (.return_, 1) := by decide +kernel
theorem dX5_insert_76 : decode cX5_insert 76 = .ok (.aload_n 0, 1) := by decide +kernel
theorem dX5_insert_77 : decode cX5_insert 77 = .ok (.getfield 13, 3) := by decide +kernel
theorem dX5_insert_80 : decode cX5_insert 80 = .ok (.iload 7, 2) := by decide +kernel
theorem dX5_insert_82 : decode cX5_insert 82 = .ok (.aload_n 0, 1) := by decide +kernel
theorem dX5_insert_83 : decode cX5_insert 83 = .ok (.getfield 13, 3) := by decide +kernel
theorem dX5_insert_86 : decode cX5_insert 86 = .ok (.iload 7, 2) := by decide +kernel
theorem dX5_insert_88 : decode cX5_insert 88 = .ok (.iconst 4, 1) := by decide +kernel
theorem dX5_insert_89 : decode cX5_insert 89 = .ok (.iadd, 1) := by decide +kernel
theorem dX5_insert_90 : decode cX5_insert 90 = .ok (.iload 6, 2) := by decide +kernel
theorem dX5_insert_92 : decode cX5_insert 92 = .ok (.iload 7, 2) := by decide +kernel
theorem dX5_insert_94 : decode cX5_insert 94 = .ok (.isub, 1) := by decide +kernel
set_option maxRecDepth 100000 in
theorem q1161 : Cond.methodLink RX5 37 arraycopyName ∈ GT := gt 1161 (by decide +kernel) (by decide +kernel)
theorem dX5_insert_95 : decode cX5_insert 95 = .ok (.invokestatic 37, 3) := by decide +kernel
theorem dX5_insert_98 : decode cX5_insert 98 = .ok (.aload_n 0, 1) := by decide +kernel
theorem dX5_insert_99 : decode cX5_insert 99 = .ok (.getfield 13, 3) := by decide +kernel
theorem dX5_insert_102 : decode cX5_insert 102 = .ok (.iload 7, 2) := by decide +kernel
theorem dX5_insert_104 : decode cX5_insert 104 = .ok (.iload_n 2, 1) := by decide +kernel
theorem dX5_insert_105 : decode cX5_insert 105 = .ok (.iastore, 1) := by decide +kernel
theorem dX5_insert_106 : decode cX5_insert 106 = .ok (.aload_n 0, 1) := by decide +kernel
theorem dX5_insert_107 : decode cX5_insert 107 = .ok (.getfield 13, 3) := by decide +kernel
theorem dX5_insert_110 : decode cX5_insert 110 = .ok (.iload 7, 2) := by decide +kernel
theorem dX5_insert_112 : decode cX5_insert 112 = .ok (.iconst 1, 1) := by decide +kernel
theorem dX5_insert_113 : decode cX5_insert 113 = .ok (.iadd, 1) := by decide +kernel
theorem dX5_insert_114 : decode cX5_insert 114 = .ok (.iload_n 3, 1) := by decide +kernel
theorem dX5_insert_115 : decode cX5_insert 115 = .ok (.iastore, 1) := by decide +kernel
theorem dX5_insert_116 : decode cX5_insert 116 = .ok (.aload_n 0, 1) := by decide +kernel
theorem dX5_insert_117 : decode cX5_insert 117 = .ok (.getfield 13, 3) := by decide +kernel
theorem dX5_insert_120 : decode cX5_insert 120 = .ok (.iload 7, 2) := by decide +kernel
theorem dX5_insert_122 : decode cX5_insert 122 = .ok (.iconst 2, 1) := by decide +kernel
theorem dX5_insert_123 : decode cX5_insert 123 = .ok (.iadd, 1) := by decide +kernel
theorem dX5_insert_124 : decode cX5_insert 124 = .ok (.iload 4, 2) := by decide +kernel
theorem dX5_insert_126 : decode cX5_insert 126 = .ok (.iastore, 1) := by decide +kernel
theorem dX5_insert_127 : decode cX5_insert 127 = .ok (.aload_n 0, 1) := by decide +kernel
theorem dX5_insert_128 : decode cX5_insert 128 = .ok (.getfield 13, 3) := by decide +kernel
theorem dX5_insert_131 : decode cX5_insert 131 = .ok (.iload 7, 2) := by decide +kernel
theorem dX5_insert_133 : decode cX5_insert 133 = .ok (.iconst 3, 1) := by decide +kernel
theorem dX5_insert_134 : decode cX5_insert 134 = .ok (.iadd, 1) := by decide +kernel
theorem dX5_insert_135 : decode cX5_insert 135 = .ok (.iload 5, 2) := by decide +kernel
theorem dX5_insert_137 : decode cX5_insert 137 = .ok (.iastore, 1) := by decide +kernel
theorem dX5_insert_138 : decode cX5_insert 138 = .ok (.aload_n 0, 1) := by decide +kernel
theorem dX5_insert_139 : decode cX5_insert 139 = .ok (.dup, 1) := by decide +kernel
theorem dX5_insert_140 : decode cX5_insert 140 = .ok (.getfield 18, 3) := by decide +kernel
theorem dX5_insert_143 : decode cX5_insert 143 = .ok (.iconst 1, 1) := by decide +kernel
theorem dX5_insert_144 : decode cX5_insert 144 = .ok (.iadd, 1) := by decide +kernel
theorem dX5_insert_145 : decode cX5_insert 145 = .ok (.putfield 18, 3) := by decide +kernel
set_option maxHeartbeats 4000000 in
set_option maxRecDepth 100000 in
theorem w_X5_insert_59 {p : Program} {l : Launch} {e : Env} {R : Room} {s : State} {m : MethodId} {args : Array Value} {below : List Frame} {meth : Method} {c : Code} {G : Gt} {ρ0 : Int → Nat} {M0 : Mo} {res : RS} (F : Fx p l R s m args meth c cX5_insert 8 RX5 G M0 2 none) (hno : ∀ x ∈ c.exceptionTable.toList, False) (hnm : meth.name = yX5_insert.name) (x0 x1 x2 x3 x4 x5 x6 : Int) (M : Mo) (h : X5_insert_59 x0 x1 x2 x3 x4 x5 x6 M = some res) : J p l e R s m args below meth c 8 G ρ0 M0 0 res M 59 [(0, (false, x0)), (1, (true, x1)), (2, (true, x2)), (3, (true, x3)), (4, (true, x4)), (5, (true, x5)), (6, (true, x6))] [] := by
  unfold X5_insert_59 at h
  refine j_iconst F dX5_insert_59 ?_
  refine j_iload_n F 1 rfl rfl dX5_insert_60 ?_
  refine j_imul F dX5_insert_61 ?_
  refine j_istore F (lv' := [(7, (true, (4 * x1))), (0, (false, x0)), (1, (true, x1)), (2, (true, x2)), (3, (true, x3)), (4, (true, x4)), (5, (true, x5)), (6, (true, x6))]) (by decide) rfl dX5_insert_62 ?_
  refine j_iload F 7 rfl dX5_insert_64 ?_
  refine j_iconst F dX5_insert_66 ?_
  refine j_iadd F dX5_insert_67 ?_
  refine j_aload_n F 1 rfl rfl dX5_insert_68 ?_
  obtain ⟨g1, h⟩ := gua h
  refine j_get F ft_X5_13 rfl g1 dX5_insert_69 ?_
  obtain ⟨g2, h⟩ := gua h
  refine j_alen F g2 dX5_insert_72 ?_
  refine j_icmp_gt F 148 (by decide) dX5_insert_73 h (fun h => ?_) (fun h => ?_)
  · skip
    exact j_vret F (v := 0) h dX5_insert_148
  · skip
    refine j_aload_n F 1 rfl rfl dX5_insert_76 ?_
    refine j_get F ft_X5_13 rfl g1 dX5_insert_77 ?_
    refine j_iload F 0 rfl dX5_insert_80 ?_
    refine j_aload_n F 1 rfl rfl dX5_insert_82 ?_
    refine j_get F ft_X5_13 rfl g1 dX5_insert_83 ?_
    refine j_iload F 0 rfl dX5_insert_86 ?_
    refine j_iconst F dX5_insert_88 ?_
    refine j_iadd F dX5_insert_89 ?_
    refine j_iload F 7 rfl dX5_insert_90 ?_
    refine j_iload F 0 rfl dX5_insert_92 ?_
    refine j_isub F dX5_insert_94 ?_
    obtain ⟨g3, h⟩ := gua h
    obtain ⟨g4, h⟩ := gua h
    refine j_copyI F ⟨q1161, q574, q573, q71⟩ g3 g3 g4 (by decide) (Nat.le_of_ble_eq_true rfl) dX5_insert_95 ?_
    obtain ⟨M5, hM5⟩ : ∃ Z, Z = cpE M 0 (fd M 6 0 x0) (wr (4 * x1)) (fd M 6 0 x0) (wr ((4 * x1) + 4)) (wr (x6 - (4 * x1))) := ⟨_, rfl⟩
    have kl6 : kle M M5 := by rw [hM5]; exact kle_cpE
    rw [← hM5]
    replace h := pt_as h hM5
    refine j_aload_n F 1 rfl rfl dX5_insert_98 ?_
    refine j_get F ft_X5_13 rfl (kl6.is g1) dX5_insert_99 ?_
    refine j_iload F 0 rfl dX5_insert_102 ?_
    refine j_iload_n F 3 rfl rfl dX5_insert_104 ?_
    obtain ⟨g7, h⟩ := gua h
    obtain ⟨g8, h⟩ := gua h
    refine j_iastore F g7 g8 dX5_insert_105 ?_
    obtain ⟨M9, hM9⟩ : ∃ Z, Z = sE M5 0 (fd M5 6 0 x0) (wr (4 * x1)) x2 := ⟨_, rfl⟩
    have kl10 : kle M5 M9 := by rw [hM9]; exact kle_sE
    rw [← hM9]
    replace h := pt_as h hM9
    refine j_aload_n F 1 rfl rfl dX5_insert_106 ?_
    refine j_get F ft_X5_13 rfl (kl10.is (kl6.is g1)) dX5_insert_107 ?_
    refine j_iload F 0 rfl dX5_insert_110 ?_
    refine j_iconst F dX5_insert_112 ?_
    refine j_iadd F dX5_insert_113 ?_
    refine j_iload_n F 4 rfl rfl dX5_insert_114 ?_
    obtain ⟨g11, h⟩ := gua h
    obtain ⟨g12, h⟩ := gua h
    refine j_iastore F g11 g12 dX5_insert_115 ?_
    obtain ⟨M13, hM13⟩ : ∃ Z, Z = sE M9 0 (fd M9 6 0 x0) (wr ((4 * x1) + 1)) x3 := ⟨_, rfl⟩
    have kl14 : kle M9 M13 := by rw [hM13]; exact kle_sE
    rw [← hM13]
    replace h := pt_as h hM13
    refine j_aload_n F 1 rfl rfl dX5_insert_116 ?_
    refine j_get F ft_X5_13 rfl (kl14.is (kl10.is (kl6.is g1))) dX5_insert_117 ?_
    refine j_iload F 0 rfl dX5_insert_120 ?_
    refine j_iconst F dX5_insert_122 ?_
    refine j_iadd F dX5_insert_123 ?_
    refine j_iload F 5 rfl dX5_insert_124 ?_
    obtain ⟨g15, h⟩ := gua h
    obtain ⟨g16, h⟩ := gua h
    refine j_iastore F g15 g16 dX5_insert_126 ?_
    obtain ⟨M17, hM17⟩ : ∃ Z, Z = sE M13 0 (fd M13 6 0 x0) (wr ((4 * x1) + 2)) x4 := ⟨_, rfl⟩
    have kl18 : kle M13 M17 := by rw [hM17]; exact kle_sE
    rw [← hM17]
    replace h := pt_as h hM17
    refine j_aload_n F 1 rfl rfl dX5_insert_127 ?_
    refine j_get F ft_X5_13 rfl (kl18.is (kl14.is (kl10.is (kl6.is g1)))) dX5_insert_128 ?_
    refine j_iload F 0 rfl dX5_insert_131 ?_
    refine j_iconst F dX5_insert_133 ?_
    refine j_iadd F dX5_insert_134 ?_
    refine j_iload F 6 rfl dX5_insert_135 ?_
    obtain ⟨g19, h⟩ := gua h
    obtain ⟨g20, h⟩ := gua h
    refine j_iastore F g19 g20 dX5_insert_137 ?_
    obtain ⟨M21, hM21⟩ : ∃ Z, Z = sE M17 0 (fd M17 6 0 x0) (wr ((4 * x1) + 3)) x5 := ⟨_, rfl⟩
    have kl22 : kle M17 M21 := by rw [hM21]; exact kle_sE
    rw [← hM21]
    replace h := pt_as h hM21
    refine j_aload_n F 1 rfl rfl dX5_insert_138 ?_
    refine j_dup F dX5_insert_139 ?_
    refine j_get F ft_X5_18 rfl (kl22.is (kl18.is (kl14.is (kl10.is (kl6.is g1))))) dX5_insert_140 ?_
    refine j_iconst F dX5_insert_143 ?_
    refine j_iadd F dX5_insert_144 ?_
    refine j_put (ty := .int) F ft_X5_18 rfl rfl tyX5 tyX5_ok nmX5 (by decide +kernel) (nf_int _) (kl22.is (kl18.is (kl14.is (kl10.is (kl6.is g1))))) dX5_insert_145 ?_
    obtain ⟨M23, hM23⟩ : ∃ Z, Z = sF M21 6 1 x0 ((fd M21 6 1 x0) + 1) := ⟨_, rfl⟩
    have kl24 : kle M21 M23 := by rw [hM23]; exact kle_sF
    rw [← hM23]
    replace h := pt_as h hM23
    exact j_vret F (v := 0) h dX5_insert_148
set_option maxHeartbeats 4000000 in
set_option maxRecDepth 100000 in
theorem w_X5_insert_0 {p : Program} {l : Launch} {e : Env} {R : Room} {s : State} {m : MethodId} {args : Array Value} {below : List Frame} {meth : Method} {c : Code} {G : Gt} {ρ0 : Int → Nat} {M0 : Mo} {res : RS} (F : Fx p l R s m args meth c cX5_insert 8 RX5 G M0 2 none) (hno : ∀ x ∈ c.exceptionTable.toList, False) (hnm : meth.name = yX5_insert.name) (x0 x1 x2 x3 x4 x5 : Int) (M : Mo) (h : X5_insert x0 x1 x2 x3 x4 x5 M = some res) : J p l e R s m args below meth c 8 G ρ0 M0 0 res M 0 [(0, (false, x0)), (1, (true, x1)), (2, (true, x2)), (3, (true, x3)), (4, (true, x4)), (5, (true, x5))] [] := by
  unfold X5_insert at h
  refine j_iload_n F 1 rfl rfl dX5_insert_0 ?_
  refine j_if_lt F 12 (by decide) dX5_insert_1 h (fun h => ?_) (fun h => ?_)
  · skip
    exact j_vret F (v := 0) h dX5_insert_12
  · skip
    refine j_iload_n F 1 rfl rfl dX5_insert_4 ?_
    refine j_aload_n F 0 rfl rfl dX5_insert_5 ?_
    obtain ⟨g1, h⟩ := gua h
    refine j_get F ft_X5_18 rfl g1 dX5_insert_6 ?_
    refine j_icmp_le F 13 (by decide) dX5_insert_9 h (fun h => ?_) (fun h => ?_)
    · skip
      refine j_iconst F dX5_insert_13 ?_
      refine j_aload_n F 0 rfl rfl dX5_insert_14 ?_
      refine j_get F ft_X5_18 rfl g1 dX5_insert_15 ?_
      refine j_imul F dX5_insert_18 ?_
      refine j_istore F (lv' := [(6, (true, (4 * (fd M 6 1 x0)))), (0, (false, x0)), (1, (true, x1)), (2, (true, x2)), (3, (true, x3)), (4, (true, x4)), (5, (true, x5))]) (by decide) rfl dX5_insert_19 ?_
      refine j_iload F 0 rfl dX5_insert_21 ?_
      refine j_iconst F dX5_insert_23 ?_
      refine j_iadd F dX5_insert_24 ?_
      refine j_aload_n F 1 rfl rfl dX5_insert_25 ?_
      refine j_get F ft_X5_13 rfl g1 dX5_insert_26 ?_
      obtain ⟨g2, h⟩ := gua h
      refine j_alen F g2 dX5_insert_29 ?_
      refine j_icmp_le F 59 (by decide) dX5_insert_30 h (fun h => ?_) (fun h => ?_)
      · skip
        refine j_sub (lv' := [(0, (false, x0)), (1, (true, x1)), (2, (true, x2)), (3, (true, x3)), (4, (true, x4)), (5, (true, x5)), (6, (true, (4 * (fd M 6 1 x0))))]) [1, 2, 3, 4, 5, 6, 0] rfl ?_
        exact w_X5_insert_59 F hno hnm x0 x1 x2 x3 x4 x5 (4 * (fd M 6 1 x0)) M h
      · skip
        refine j_iload F 0 rfl dX5_insert_33 ?_
        refine j_iconst F dX5_insert_35 ?_
        refine j_iadd F dX5_insert_36 ?_
        refine j_ldc (n := 1000000) F q1159 dX5_insert_37 ?_
        refine j_icmp_gt F 59 (by decide) dX5_insert_39 h (fun h => ?_) (fun h => ?_)
        · skip
          refine j_sub (lv' := [(0, (false, x0)), (1, (true, x1)), (2, (true, x2)), (3, (true, x3)), (4, (true, x4)), (5, (true, x5)), (6, (true, (4 * (fd M 6 1 x0))))]) [1, 2, 3, 4, 5, 6, 0] rfl ?_
          exact w_X5_insert_59 F hno hnm x0 x1 x2 x3 x4 x5 (4 * (fd M 6 1 x0)) M h
        · skip
          refine j_aload_n F 1 rfl rfl dX5_insert_42 ?_
          refine j_aload_n F 1 rfl rfl dX5_insert_43 ?_
          refine j_get F ft_X5_13 rfl g1 dX5_insert_44 ?_
          refine j_iconst F dX5_insert_47 ?_
          refine j_iload F 0 rfl dX5_insert_48 ?_
          refine j_iconst F dX5_insert_50 ?_
          refine j_iadd F dX5_insert_51 ?_
          refine j_imul F dX5_insert_52 ?_
          refine j_callS (d' := 1) (argl := [(false, (fd M 6 0 x0)), (true, (2 * ((4 * (fd M 6 1 x0)) + 4)))]) (rk9 := 2) (st := [(false, x0)]) F hno M_J7_copyOf_59c91 q921 q1160 ⟨by decide, by decide⟩ (Nat.le_of_ble_eq_true rfl) (by decide) dX5_insert_53 rfl h (fun z hz => c_J7_copyOf_59c91 l F.ht G (fd M 6 0 x0) (2 * ((4 * (fd M 6 1 x0)) + 4)) M z hz) (fun v3 M4 h kl5 => ?_)
          refine j_st (st' := [(false, v3), (false, x0)]) rfl ?_
          refine j_put (ty := .array .int) F ft_X5_13 rfl rfl tyX5 tyX5_ok nmX5 (by decide +kernel) (nf_ref (Or.inr ⟨_, rfl⟩) _) (kl5.is g1) dX5_insert_56 ?_
          obtain ⟨M6, hM6⟩ : ∃ Z, Z = sF M4 6 0 x0 v3 := ⟨_, rfl⟩
          have kl7 : kle M4 M6 := by rw [hM6]; exact kle_sF
          rw [← hM6]
          replace h := pt_as h hM6
          refine j_sub (lv' := [(0, (false, x0)), (1, (true, x1)), (2, (true, x2)), (3, (true, x3)), (4, (true, x4)), (5, (true, x5)), (6, (true, (4 * (fd M 6 1 x0))))]) [1, 2, 3, 4, 5, 6, 0] rfl ?_
          exact w_X5_insert_59 F hno hnm x0 x1 x2 x3 x4 x5 (4 * (fd M 6 1 x0)) M6 h
    · skip
      exact j_vret F (v := 0) h dX5_insert_12
theorem c_X5_insert (l : Launch) (hl : l.stackTraces = false) (G : Gt) (x0 x1 x2 x3 x4 x5 : Int) (M : Mo) (z : RS) (h : X5_insert x0 x1 x2 x3 x4 x5 M = some z) : CT l G yX5_insert (cn yX5_insert cX5_insert 8 none) 2 [(false, x0), (true, x1), (true, x2), (true, x3), (true, x4), (true, x5)] M 0 z :=
  ctOf hl (by decide) (Nat.le_of_ble_eq_true rfl) (fun p e R s m args below meth c ρ F hno hnm => w_X5_insert_0 F hno hnm x0 x1 x2 x3 x4 x5 M h)
theorem dX5_add_0 : decode cX5_add 0 = .ok (.aload_n 0, 1) := by decide +kernel
theorem dX5_add_1 : decode cX5_add 1 = .ok (.aload_n 0, 1) := by decide +kernel
theorem dX5_add_2 : decode cX5_add 2 = .ok (.getfield 18, 3) := by decide +kernel
theorem dX5_add_5 : decode cX5_add 5 = .ok (.iload_n 1, 1) := by decide +kernel
theorem dX5_add_6 : decode cX5_add 6 = .ok (.iload_n 2, 1) := by decide +kernel
theorem dX5_add_7 : decode cX5_add 7 = .ok (.iload_n 3, 1) := by decide +kernel
theorem dX5_add_8 : decode cX5_add 8 = .ok (.iload 4, 2) := by decide +kernel
set_option maxRecDepth 100000 in
theorem q1158 : Cond.code yX5_insert cX5_insert 8 none ∈ GT := gt 1158 (rfl) (by decide +kernel)
theorem M_X5_insert : MY yX5_insert cX5_insert 8 none 5 := ⟨q1158, q62, by decide +kernel, by decide +kernel⟩
set_option maxRecDepth 100000 in
theorem q1157 : Cond.instanceMethod yX5_insert ∈ GT := gt 1157 (by decide +kernel) (by decide +kernel)
set_option maxRecDepth 100000 in
theorem q18 : Cond.selects RX5 yX5_insert yX5_insert ∈ GT := gt 18 (by decide +kernel) (by decide +kernel)
set_option maxRecDepth 100000 in
theorem q1155 : Cond.methodLink RX5 26 yX5_insert ∈ GT := gt 1155 (by decide +kernel) (by decide +kernel)
theorem dX5_add_10 : decode cX5_add 10 = .ok (.invokevirtual 26, 3) := by decide +kernel
theorem dX5_add_13 : decode cX5_add 13 = .ok (.return_, 1) := by decide +kernel
set_option maxHeartbeats 4000000 in
set_option maxRecDepth 100000 in
theorem w_X5_add_0 {p : Program} {l : Launch} {e : Env} {R : Room} {s : State} {m : MethodId} {args : Array Value} {below : List Frame} {meth : Method} {c : Code} {G : Gt} {ρ0 : Int → Nat} {M0 : Mo} {res : RS} (F : Fx p l R s m args meth c cX5_add 5 RX5 G M0 3 none) (hno : ∀ x ∈ c.exceptionTable.toList, False) (hnm : meth.name = yX5_add.name) (x0 x1 x2 x3 x4 : Int) (M : Mo) (h : X5_add x0 x1 x2 x3 x4 M = some res) : J p l e R s m args below meth c 5 G ρ0 M0 0 res M 0 [(0, (false, x0)), (1, (true, x1)), (2, (true, x2)), (3, (true, x3)), (4, (true, x4))] [] := by
  unfold X5_add at h
  refine j_aload_n F 0 rfl rfl dX5_add_0 ?_
  refine j_aload_n F 0 rfl rfl dX5_add_1 ?_
  obtain ⟨g1, h⟩ := gua h
  refine j_get F ft_X5_18 rfl g1 dX5_add_2 ?_
  refine j_iload_n F 1 rfl rfl dX5_add_5 ?_
  refine j_iload_n F 2 rfl rfl dX5_add_6 ?_
  refine j_iload_n F 3 rfl rfl dX5_add_7 ?_
  refine j_iload F 4 rfl dX5_add_8 ?_
  refine j_callV (d' := 2) (argl := [(true, (fd M 6 1 x0)), (true, x1), (true, x2), (true, x3), (true, x4)]) (rk9 := 0) (st := []) F hno M_X5_insert q1157 q18 q1155 ⟨by decide, by decide⟩ (Nat.le_of_ble_eq_true rfl) (by decide) (ci := 6) rfl (by decide) g1 dX5_add_10 rfl h (fun z hz => c_X5_insert l F.ht G x0 (fd M 6 1 x0) x1 x2 x3 x4 M z hz) (fun v2 M3 h kl4 => ?_)
  refine j_st (st' := []) rfl ?_
  exact j_vret F (v := 0) h dX5_add_13
theorem c_X5_add (l : Launch) (hl : l.stackTraces = false) (G : Gt) (x0 x1 x2 x3 x4 : Int) (M : Mo) (z : RS) (h : X5_add x0 x1 x2 x3 x4 M = some z) : CT l G yX5_add (cn yX5_add cX5_add 5 none) 3 [(false, x0), (true, x1), (true, x2), (true, x3), (true, x4)] M 0 z :=
  ctOf hl (by decide) (Nat.le_of_ble_eq_true rfl) (fun p e R s m args below meth c ρ F hno hnm => w_X5_add_0 F hno hnm x0 x1 x2 x3 x4 M h)
theorem dX5_insertSpan_0 : decode cX5_insertSpan 0 = .ok (.iconst 0, 1) := by decide +kernel
theorem dX5_insertSpan_1 : decode cX5_insertSpan 1 = .ok (.istore 5, 2) := by decide +kernel
theorem dX5_insertSpan_3 : decode cX5_insertSpan 3 = .ok (.iconst 0, 1) := by decide +kernel
theorem dX5_insertSpan_4 : decode cX5_insertSpan 4 = .ok (.istore 6, 2) := by decide +kernel
theorem dX5_insertSpan_6 : decode cX5_insertSpan 6 = .ok (.iload 6, 2) := by decide +kernel
theorem dX5_insertSpan_8 : decode cX5_insertSpan 8 = .ok (.aload_n 0, 1) := by decide +kernel
theorem dX5_insertSpan_9 : decode cX5_insertSpan 9 = .ok (.getfield 18, 3) := by decide +kernel
theorem dX5_insertSpan_12 : decode cX5_insertSpan 12 = .ok (.if_icmp .ge 66, 3) := by decide +kernel
theorem dX5_insertSpan_78 : decode cX5_insertSpan 78 = .ok (.aload_n 0, 1) := by decide +kernel
theorem dX5_insertSpan_79 : decode cX5_insertSpan 79 = .ok (.iload 5, 2) := by decide +kernel
theorem dX5_insertSpan_81 : decode cX5_insertSpan 81 = .ok (.iload_n 1, 1) := by decide +kernel
theorem dX5_insertSpan_82 : decode cX5_insertSpan 82 = .ok (.iload_n 2, 1) := by decide +kernel
theorem dX5_insertSpan_83 : decode cX5_insertSpan 83 = .ok (.iload_n 3, 1) := by decide +kernel
theorem dX5_insertSpan_84 : decode cX5_insertSpan 84 = .ok (.iload 4, 2) := by decide +kernel
theorem dX5_insertSpan_86 : decode cX5_insertSpan 86 = .ok (.invokevirtual 26, 3) := by decide +kernel
theorem dX5_insertSpan_89 : decode cX5_insertSpan 89 = .ok (.return_, 1) := by decide +kernel
theorem dX5_insertSpan_15 : decode cX5_insertSpan 15 = .ok (.aload_n 0, 1) := by decide +kernel
theorem dX5_insertSpan_16 : decode cX5_insertSpan 16 = .ok (.iload 6, 2) := by decide +kernel
set_option maxRecDepth 100000 in
theorem q1036 : Cond.code yX5_startAt cX5_startAt 2 (some FieldType.int) ∈ GT := gt 1036 (rfl) (by decide +kernel)
theorem M_X5_startAt : MY yX5_startAt cX5_startAt 2 (some FieldType.int) 1 := ⟨q1036, q62, by decide +kernel, by decide +kernel⟩
set_option maxRecDepth 100000 in
theorem q1034 : Cond.instanceMethod yX5_startAt ∈ GT := gt 1034 (by decide +kernel) (by decide +kernel)
set_option maxRecDepth 100000 in
theorem q1035 : Cond.selects RX5 yX5_startAt yX5_startAt ∈ GT := gt 1035 (by decide +kernel) (by decide +kernel)
set_option maxRecDepth 100000 in
theorem q1149 : Cond.methodLink RX5 43 yX5_startAt ∈ GT := gt 1149 (by decide +kernel) (by decide +kernel)
theorem dX5_insertSpan_18 : decode cX5_insertSpan 18 = .ok (.invokevirtual 43, 3) := by decide +kernel
theorem dX5_insertSpan_21 : decode cX5_insertSpan 21 = .ok (.iload_n 2, 1) := by decide +kernel
theorem dX5_insertSpan_22 : decode cX5_insertSpan 22 = .ok (.if_icmp .ne 14, 3) := by decide +kernel
theorem dX5_insertSpan_25 : decode cX5_insertSpan 25 = .ok (.aload_n 0, 1) := by decide +kernel
theorem dX5_insertSpan_26 : decode cX5_insertSpan 26 = .ok (.iload 6, 2) := by decide +kernel
set_option maxRecDepth 100000 in
theorem q1054 : Cond.code yX5_endAt cX5_endAt 2 (some FieldType.int) ∈ GT := gt 1054 (rfl) (by decide +kernel)
theorem M_X5_endAt : MY yX5_endAt cX5_endAt 2 (some FieldType.int) 1 := ⟨q1054, q62, by decide +kernel, by decide +kernel⟩
set_option maxRecDepth 100000 in
theorem q1052 : Cond.instanceMethod yX5_endAt ∈ GT := gt 1052 (by decide +kernel) (by decide +kernel)
set_option maxRecDepth 100000 in
theorem q1053 : Cond.selects RX5 yX5_endAt yX5_endAt ∈ GT := gt 1053 (by decide +kernel) (by decide +kernel)
set_option maxRecDepth 100000 in
theorem q1150 : Cond.methodLink RX5 47 yX5_endAt ∈ GT := gt 1150 (by decide +kernel) (by decide +kernel)
theorem dX5_insertSpan_28 : decode cX5_insertSpan 28 = .ok (.invokevirtual 47, 3) := by decide +kernel
theorem dX5_insertSpan_31 : decode cX5_insertSpan 31 = .ok (.iload_n 3, 1) := by decide +kernel
theorem dX5_insertSpan_32 : decode cX5_insertSpan 32 = .ok (.if_icmp .ne 4, 3) := by decide +kernel
theorem dX5_insertSpan_35 : decode cX5_insertSpan 35 = .ok (.return_, 1) := by decide +kernel
theorem dX5_insertSpan_36 : decode cX5_insertSpan 36 = .ok (.aload_n 0, 1) := by decide +kernel
theorem dX5_insertSpan_37 : decode cX5_insertSpan 37 = .ok (.iload 6, 2) := by decide +kernel
theorem dX5_insertSpan_39 : decode cX5_insertSpan 39 = .ok (.invokevirtual 43, 3) := by decide +kernel
theorem dX5_insertSpan_42 : decode cX5_insertSpan 42 = .ok (.iload_n 2, 1) := by decide +kernel
theorem dX5_insertSpan_43 : decode cX5_insertSpan 43 = .ok (.if_icmp .lt 23, 3) := by decide +kernel
theorem dX5_insertSpan_46 : decode cX5_insertSpan 46 = .ok (.aload_n 0, 1) := by decide +kernel
theorem dX5_insertSpan_47 : decode cX5_insertSpan 47 = .ok (.iload 6, 2) := by decide +kernel
theorem dX5_insertSpan_49 : decode cX5_insertSpan 49 = .ok (.invokevirtual 43, 3) := by decide +kernel
theorem dX5_insertSpan_52 : decode cX5_insertSpan 52 = .ok (.iload_n 2, 1) := by decide +kernel
theorem dX5_insertSpan_53 : decode cX5_insertSpan 53 = .ok (.if_icmp .ne 19, 3) := by decide +kernel
theorem dX5_insertSpan_56 : decode cX5_insertSpan 56 = .ok (.aload_n 0, 1) := by decide +kernel
theorem dX5_insertSpan_57 : decode cX5_insertSpan 57 = .ok (.iload 6, 2) := by decide +kernel
theorem dX5_insertSpan_59 : decode cX5_insertSpan 59 = .ok (.invokevirtual 47, 3) := by decide +kernel
theorem dX5_insertSpan_62 : decode cX5_insertSpan 62 = .ok (.iload_n 3, 1) := by decide +kernel
theorem dX5_insertSpan_63 : decode cX5_insertSpan 63 = .ok (.if_icmp .ge 9, 3) := by decide +kernel
theorem dX5_insertSpan_66 : decode cX5_insertSpan 66 = .ok (.iload 6, 2) := by decide +kernel
theorem dX5_insertSpan_68 : decode cX5_insertSpan 68 = .ok (.iconst 1, 1) := by decide +kernel
theorem dX5_insertSpan_69 : decode cX5_insertSpan 69 = .ok (.iadd, 1) := by decide +kernel
theorem dX5_insertSpan_70 : decode cX5_insertSpan 70 = .ok (.istore 5, 2) := by decide +kernel
theorem dX5_insertSpan_72 : decode cX5_insertSpan 72 = .ok (.iinc 6 1, 3) := by decide +kernel
theorem dX5_insertSpan_75 : decode cX5_insertSpan 75 = .ok (.goto (-69), 3) := by decide +kernel
set_option maxHeartbeats 4000000 in
set_option maxRecDepth 100000 in
theorem w_X5_insertSpan_72 {p : Program} {l : Launch} {e : Env} {R : Room} {s : State} {m : MethodId} {args : Array Value} {below : List Frame} {meth : Method} {c : Code} {G : Gt} {ρ0 : Int → Nat} {M0 : Mo} {res : RS} (F : Fx p l R s m args meth c cX5_insertSpan 7 RX5 G M0 3 none) (hno : ∀ x ∈ c.exceptionTable.toList, False) (hnm : meth.name = yX5_insertSpan.name) (k6 : Int → Int → Int → Int → Int → Int → Int → Mo → Option RS) (hk6 : ∀ (x0 x1 x2 x3 x4 x5 x6 : Int) (M : Mo), k6 x0 x1 x2 x3 x4 x5 x6 M = some res → J p l e R s m args below meth c 7 G ρ0 M0 0 res M 6 [(0, (false, x0)), (1, (true, x1)), (2, (true, x2)), (3, (true, x3)), (4, (true, x4)), (5, (true, x5)), (6, (true, x6))] []) (x0 x1 x2 x3 x4 x5 x6 : Int) (M : Mo) (h : X5_insertSpan_72 k6 x0 x1 x2 x3 x4 x5 x6 M = some res) : J p l e R s m args below meth c 7 G ρ0 M0 0 res M 72 [(0, (false, x0)), (1, (true, x1)), (2, (true, x2)), (3, (true, x3)), (4, (true, x4)), (5, (true, x5)), (6, (true, x6))] [] := by
  unfold X5_insertSpan_72 at h
  refine j_iinc F 6 (lv' := [(6, (true, (x6 + 1))), (0, (false, x0)), (1, (true, x1)), (2, (true, x2)), (3, (true, x3)), (4, (true, x4)), (5, (true, x5))]) rfl (by decide) rfl dX5_insertSpan_72 ?_
  refine j_goto F 6 (by decide) dX5_insertSpan_75 ?_
  refine j_sub (lv' := [(0, (false, x0)), (1, (true, x1)), (2, (true, x2)), (3, (true, x3)), (4, (true, x4)), (5, (true, x5)), (6, (true, (x6 + 1)))]) [1, 2, 3, 4, 5, 6, 0] rfl ?_
  exact hk6 x0 x1 x2 x3 x4 x5 (x6 + 1) M h
set_option maxHeartbeats 4000000 in
set_option maxRecDepth 100000 in
theorem w_X5_insertSpan_66 {p : Program} {l : Launch} {e : Env} {R : Room} {s : State} {m : MethodId} {args : Array Value} {below : List Frame} {meth : Method} {c : Code} {G : Gt} {ρ0 : Int → Nat} {M0 : Mo} {res : RS} (F : Fx p l R s m args meth c cX5_insertSpan 7 RX5 G M0 3 none) (hno : ∀ x ∈ c.exceptionTable.toList, False) (hnm : meth.name = yX5_insertSpan.name) (k6 : Int → Int → Int → Int → Int → Int → Int → Mo → Option RS) (hk6 : ∀ (x0 x1 x2 x3 x4 x5 x6 : Int) (M : Mo), k6 x0 x1 x2 x3 x4 x5 x6 M = some res → J p l e R s m args below meth c 7 G ρ0 M0 0 res M 6 [(0, (false, x0)), (1, (true, x1)), (2, (true, x2)), (3, (true, x3)), (4, (true, x4)), (5, (true, x5)), (6, (true, x6))] []) (x0 x1 x2 x3 x4 x6 : Int) (M : Mo) (h : X5_insertSpan_66 k6 x0 x1 x2 x3 x4 x6 M = some res) : J p l e R s m args below meth c 7 G ρ0 M0 0 res M 66 [(0, (false, x0)), (1, (true, x1)), (2, (true, x2)), (3, (true, x3)), (4, (true, x4)), (6, (true, x6))] [] := by
  unfold X5_insertSpan_66 at h
  refine j_iload F 5 rfl dX5_insertSpan_66 ?_
  refine j_iconst F dX5_insertSpan_68 ?_
  refine j_iadd F dX5_insertSpan_69 ?_
  refine j_istore F (lv' := [(5, (true, (x6 + 1))), (0, (false, x0)), (1, (true, x1)), (2, (true, x2)), (3, (true, x3)), (4, (true, x4)), (6, (true, x6))]) (by decide) rfl dX5_insertSpan_70 ?_
  refine j_sub (lv' := [(0, (false, x0)), (1, (true, x1)), (2, (true, x2)), (3, (true, x3)), (4, (true, x4)), (5, (true, (x6 + 1))), (6, (true, x6))]) [1, 2, 3, 4, 5, 0, 6] rfl ?_
  exact w_X5_insertSpan_72 F hno hnm k6 hk6 x0 x1 x2 x3 x4 (x6 + 1) x6 M h
set_option maxHeartbeats 4000000 in
set_option maxRecDepth 100000 in
theorem w_X5_insertSpan_36 {p : Program} {l : Launch} {e : Env} {R : Room} {s : State} {m : MethodId} {args : Array Value} {below : List Frame} {meth : Method} {c : Code} {G : Gt} {ρ0 : Int → Nat} {M0 : Mo} {res : RS} (F : Fx p l R s m args meth c cX5_insertSpan 7 RX5 G M0 3 none) (hno : ∀ x ∈ c.exceptionTable.toList, False) (hnm : meth.name = yX5_insertSpan.name) (k6 : Int → Int → Int → Int → Int → Int → Int → Mo → Option RS) (hk6 : ∀ (x0 x1 x2 x3 x4 x5 x6 : Int) (M : Mo), k6 x0 x1 x2 x3 x4 x5 x6 M = some res → J p l e R s m args below meth c 7 G ρ0 M0 0 res M 6 [(0, (false, x0)), (1, (true, x1)), (2, (true, x2)), (3, (true, x3)), (4, (true, x4)), (5, (true, x5)), (6, (true, x6))] []) (x0 x1 x2 x3 x4 x5 x6 : Int) (M : Mo) (h : X5_insertSpan_36 k6 x0 x1 x2 x3 x4 x5 x6 M = some res) : J p l e R s m args below meth c 7 G ρ0 M0 0 res M 36 [(0, (false, x0)), (1, (true, x1)), (2, (true, x2)), (3, (true, x3)), (4, (true, x4)), (5, (true, x5)), (6, (true, x6))] [] := by
  unfold X5_insertSpan_36 at h
  refine j_aload_n F 0 rfl rfl dX5_insertSpan_36 ?_
  refine j_iload F 6 rfl dX5_insertSpan_37 ?_
  obtain ⟨g4, h⟩ := gua h
  refine j_callV (d' := 1) (argl := [(true, x6)]) (rk9 := 1) (st := []) F hno M_X5_startAt q1034 q1035 q1149 ⟨by decide, by decide⟩ (Nat.le_of_ble_eq_true rfl) (by decide) (ci := 6) rfl (by decide) g4 dX5_insertSpan_39 rfl h (fun z hz => c_X5_startAt l F.ht G x0 x6 M z hz) (fun v1 M2 h kl3 => ?_)
  refine j_st (st' := [(true, v1)]) rfl ?_
  refine j_iload_n F 2 rfl rfl dX5_insertSpan_42 ?_
  refine j_icmp_lt F 66 (by decide) dX5_insertSpan_43 h (fun h => ?_) (fun h => ?_)
  · skip
    refine j_sub (lv' := [(0, (false, x0)), (1, (true, x1)), (2, (true, x2)), (3, (true, x3)), (4, (true, x4)), (6, (true, x6))]) [0, 1, 2, 3, 4, 6] rfl ?_
    exact w_X5_insertSpan_66 F hno hnm k6 hk6 x0 x1 x2 x3 x4 x6 M2 h
  · skip
    refine j_aload_n F 0 rfl rfl dX5_insertSpan_46 ?_
    refine j_iload F 6 rfl dX5_insertSpan_47 ?_
    refine j_callV (d' := 1) (argl := [(true, x6)]) (rk9 := 1) (st := []) F hno M_X5_startAt q1034 q1035 q1149 ⟨by decide, by decide⟩ (Nat.le_of_ble_eq_true rfl) (by decide) (ci := 6) rfl (by decide) (kl3.is g4) dX5_insertSpan_49 rfl h (fun z hz => c_X5_startAt l F.ht G x0 x6 M2 z hz) (fun v5 M6 h kl7 => ?_)
    refine j_st (st' := [(true, v5)]) rfl ?_
    refine j_iload_n F 2 rfl rfl dX5_insertSpan_52 ?_
    refine j_icmp_ne F 72 (by decide) dX5_insertSpan_53 h (fun h => ?_) (fun h => ?_)
    · skip
      refine j_sub (lv' := [(0, (false, x0)), (1, (true, x1)), (2, (true, x2)), (3, (true, x3)), (4, (true, x4)), (5, (true, x5)), (6, (true, x6))]) [0, 1, 2, 3, 4, 5, 6] rfl ?_
      exact w_X5_insertSpan_72 F hno hnm k6 hk6 x0 x1 x2 x3 x4 x5 x6 M6 h
    · skip
      refine j_aload_n F 0 rfl rfl dX5_insertSpan_56 ?_
      refine j_iload F 6 rfl dX5_insertSpan_57 ?_
      refine j_callV (d' := 1) (argl := [(true, x6)]) (rk9 := 1) (st := []) F hno M_X5_endAt q1052 q1053 q1150 ⟨by decide, by decide⟩ (Nat.le_of_ble_eq_true rfl) (by decide) (ci := 6) rfl (by decide) (kl7.is (kl3.is g4)) dX5_insertSpan_59 rfl h (fun z hz => c_X5_endAt l F.ht G x0 x6 M6 z hz) (fun v8 M9 h kl10 => ?_)
      refine j_st (st' := [(true, v8)]) rfl ?_
      refine j_iload_n F 3 rfl rfl dX5_insertSpan_62 ?_
      refine j_icmp_ge F 72 (by decide) dX5_insertSpan_63 h (fun h => ?_) (fun h => ?_)
      · skip
        refine j_sub (lv' := [(0, (false, x0)), (1, (true, x1)), (2, (true, x2)), (3, (true, x3)), (4, (true, x4)), (5, (true, x5)), (6, (true, x6))]) [0, 1, 2, 3, 4, 5, 6] rfl ?_
        exact w_X5_insertSpan_72 F hno hnm k6 hk6 x0 x1 x2 x3 x4 x5 x6 M9 h
      · skip
        refine j_sub (lv' := [(0, (false, x0)), (1, (true, x1)), (2, (true, x2)), (3, (true, x3)), (4, (true, x4)), (6, (true, x6))]) [0, 1, 2, 3, 4, 6] rfl ?_
        exact w_X5_insertSpan_66 F hno hnm k6 hk6 x0 x1 x2 x3 x4 x6 M9 h
set_option maxHeartbeats 4000000 in
set_option maxRecDepth 100000 in
theorem w_X5_insertSpan_6 {p : Program} {l : Launch} {e : Env} {R : Room} {s : State} {m : MethodId} {args : Array Value} {below : List Frame} {meth : Method} {c : Code} {G : Gt} {ρ0 : Int → Nat} {M0 : Mo} {res : RS} (F : Fx p l R s m args meth c cX5_insertSpan 7 RX5 G M0 3 none) (hno : ∀ x ∈ c.exceptionTable.toList, False) (hnm : meth.name = yX5_insertSpan.name) (n : Nat) : ∀ (x0 x1 x2 x3 x4 x5 x6 : Int) (M : Mo), X5_insertSpan_6 n x0 x1 x2 x3 x4 x5 x6 M = some res → J p l e R s m args below meth c 7 G ρ0 M0 0 res M 6 [(0, (false, x0)), (1, (true, x1)), (2, (true, x2)), (3, (true, x3)), (4, (true, x4)), (5, (true, x5)), (6, (true, x6))] [] := by
  induction n with
  | zero => intro x0 x1 x2 x3 x4 x5 x6 M h; cases h
  | succ n ih =>
    intro x0 x1 x2 x3 x4 x5 x6 M h
    rw [X5_insertSpan_6] at h
    refine j_iload F 6 rfl dX5_insertSpan_6 ?_
    refine j_aload_n F 0 rfl rfl dX5_insertSpan_8 ?_
    obtain ⟨g1, h⟩ := gua h
    refine j_get F ft_X5_18 rfl g1 dX5_insertSpan_9 ?_
    refine j_icmp_ge F 78 (by decide) dX5_insertSpan_12 h (fun h => ?_) (fun h => ?_)
    · skip
      refine j_aload_n F 0 rfl rfl dX5_insertSpan_78 ?_
      refine j_iload F 5 rfl dX5_insertSpan_79 ?_
      refine j_iload_n F 1 rfl rfl dX5_insertSpan_81 ?_
      refine j_iload_n F 2 rfl rfl dX5_insertSpan_82 ?_
      refine j_iload_n F 3 rfl rfl dX5_insertSpan_83 ?_
      refine j_iload F 4 rfl dX5_insertSpan_84 ?_
      refine j_callV (d' := 2) (argl := [(true, x5), (true, x1), (true, x2), (true, x3), (true, x4)]) (rk9 := 0) (st := []) F hno M_X5_insert q1157 q18 q1155 ⟨by decide, by decide⟩ (Nat.le_of_ble_eq_true rfl) (by decide) (ci := 6) rfl (by decide) g1 dX5_insertSpan_86 rfl h (fun z hz => c_X5_insert l F.ht G x0 x5 x1 x2 x3 x4 M z hz) (fun v2 M3 h kl4 => ?_)
      refine j_st (st' := []) rfl ?_
      exact j_vret F (v := 0) h dX5_insertSpan_89
    · skip
      refine j_aload_n F 0 rfl rfl dX5_insertSpan_15 ?_
      refine j_iload F 6 rfl dX5_insertSpan_16 ?_
      refine j_callV (d' := 1) (argl := [(true, x6)]) (rk9 := 1) (st := []) F hno M_X5_startAt q1034 q1035 q1149 ⟨by decide, by decide⟩ (Nat.le_of_ble_eq_true rfl) (by decide) (ci := 6) rfl (by decide) g1 dX5_insertSpan_18 rfl h (fun z hz => c_X5_startAt l F.ht G x0 x6 M z hz) (fun v5 M6 h kl7 => ?_)
      refine j_st (st' := [(true, v5)]) rfl ?_
      refine j_iload_n F 2 rfl rfl dX5_insertSpan_21 ?_
      refine j_icmp_ne F 36 (by decide) dX5_insertSpan_22 h (fun h => ?_) (fun h => ?_)
      · skip
        refine j_sub (lv' := [(0, (false, x0)), (1, (true, x1)), (2, (true, x2)), (3, (true, x3)), (4, (true, x4)), (5, (true, x5)), (6, (true, x6))]) [0, 1, 2, 3, 4, 5, 6] rfl ?_
        exact w_X5_insertSpan_36 F hno hnm (X5_insertSpan_6 n) ih x0 x1 x2 x3 x4 x5 x6 M6 h
      · skip
        refine j_aload_n F 0 rfl rfl dX5_insertSpan_25 ?_
        refine j_iload F 6 rfl dX5_insertSpan_26 ?_
        refine j_callV (d' := 1) (argl := [(true, x6)]) (rk9 := 1) (st := []) F hno M_X5_endAt q1052 q1053 q1150 ⟨by decide, by decide⟩ (Nat.le_of_ble_eq_true rfl) (by decide) (ci := 6) rfl (by decide) (kl7.is g1) dX5_insertSpan_28 rfl h (fun z hz => c_X5_endAt l F.ht G x0 x6 M6 z hz) (fun v8 M9 h kl10 => ?_)
        refine j_st (st' := [(true, v8)]) rfl ?_
        refine j_iload_n F 3 rfl rfl dX5_insertSpan_31 ?_
        refine j_icmp_ne F 36 (by decide) dX5_insertSpan_32 h (fun h => ?_) (fun h => ?_)
        · skip
          refine j_sub (lv' := [(0, (false, x0)), (1, (true, x1)), (2, (true, x2)), (3, (true, x3)), (4, (true, x4)), (5, (true, x5)), (6, (true, x6))]) [0, 1, 2, 3, 4, 5, 6] rfl ?_
          exact w_X5_insertSpan_36 F hno hnm (X5_insertSpan_6 n) ih x0 x1 x2 x3 x4 x5 x6 M9 h
        · skip
          exact j_vret F (v := 0) h dX5_insertSpan_35
set_option maxHeartbeats 4000000 in
set_option maxRecDepth 100000 in
theorem w_X5_insertSpan_0 {p : Program} {l : Launch} {e : Env} {R : Room} {s : State} {m : MethodId} {args : Array Value} {below : List Frame} {meth : Method} {c : Code} {G : Gt} {ρ0 : Int → Nat} {M0 : Mo} {res : RS} (F : Fx p l R s m args meth c cX5_insertSpan 7 RX5 G M0 3 none) (hno : ∀ x ∈ c.exceptionTable.toList, False) (hnm : meth.name = yX5_insertSpan.name) (x0 x1 x2 x3 x4 : Int) (M : Mo) (h : X5_insertSpan x0 x1 x2 x3 x4 M = some res) : J p l e R s m args below meth c 7 G ρ0 M0 0 res M 0 [(0, (false, x0)), (1, (true, x1)), (2, (true, x2)), (3, (true, x3)), (4, (true, x4))] [] := by
  unfold X5_insertSpan at h
  refine j_iconst F dX5_insertSpan_0 ?_
  refine j_istore F (lv' := [(5, (true, 0)), (0, (false, x0)), (1, (true, x1)), (2, (true, x2)), (3, (true, x3)), (4, (true, x4))]) (by decide) rfl dX5_insertSpan_1 ?_
  refine j_iconst F dX5_insertSpan_3 ?_
  refine j_istore F (lv' := [(6, (true, 0)), (5, (true, 0)), (0, (false, x0)), (1, (true, x1)), (2, (true, x2)), (3, (true, x3)), (4, (true, x4))]) (by decide) rfl dX5_insertSpan_4 ?_
  refine j_sub (lv' := [(0, (false, x0)), (1, (true, x1)), (2, (true, x2)), (3, (true, x3)), (4, (true, x4)), (5, (true, 0)), (6, (true, 0))]) [2, 3, 4, 5, 6, 1, 0] rfl ?_
  exact w_X5_insertSpan_6 F hno hnm FU x0 x1 x2 x3 x4 0 0 M h
theorem c_X5_insertSpan (l : Launch) (hl : l.stackTraces = false) (G : Gt) (x0 x1 x2 x3 x4 : Int) (M : Mo) (z : RS) (h : X5_insertSpan x0 x1 x2 x3 x4 M = some z) : CT l G yX5_insertSpan (cn yX5_insertSpan cX5_insertSpan 7 none) 3 [(false, x0), (true, x1), (true, x2), (true, x3), (true, x4)] M 0 z :=
  ctOf hl (by decide) (Nat.le_of_ble_eq_true rfl) (fun p e R s m args below meth c ρ F hno hnm => w_X5_insertSpan_0 F hno hnm x0 x1 x2 x3 x4 M h)
theorem dX5_insertApart_0 : decode cX5_insertApart 0 = .ok (.iconst 0, 1) := by decide +kernel
theorem dX5_insertApart_1 : decode cX5_insertApart 1 = .ok (.istore 5, 2) := by decide +kernel
theorem dX5_insertApart_3 : decode cX5_insertApart 3 = .ok (.iconst 0, 1) := by decide +kernel
theorem dX5_insertApart_4 : decode cX5_insertApart 4 = .ok (.istore 6, 2) := by decide +kernel
theorem dX5_insertApart_6 : decode cX5_insertApart 6 = .ok (.iload 6, 2) := by decide +kernel
theorem dX5_insertApart_8 : decode cX5_insertApart 8 = .ok (.aload_n 0, 1) := by decide +kernel
theorem dX5_insertApart_9 : decode cX5_insertApart 9 = .ok (.getfield 18, 3) := by decide +kernel
theorem dX5_insertApart_12 : decode cX5_insertApart 12 = .ok (.if_icmp .ge 46, 3) := by decide +kernel
theorem dX5_insertApart_58 : decode cX5_insertApart 58 = .ok (.aload_n 0, 1) := by decide +kernel
theorem dX5_insertApart_59 : decode cX5_insertApart 59 = .ok (.iload 5, 2) := by decide +kernel
theorem dX5_insertApart_61 : decode cX5_insertApart 61 = .ok (.iload_n 1, 1) := by decide +kernel
theorem dX5_insertApart_62 : decode cX5_insertApart 62 = .ok (.iload_n 2, 1) := by decide +kernel
theorem dX5_insertApart_63 : decode cX5_insertApart 63 = .ok (.iload_n 3, 1) := by decide +kernel
theorem dX5_insertApart_64 : decode cX5_insertApart 64 = .ok (.iload 4, 2) := by decide +kernel
theorem dX5_insertApart_66 : decode cX5_insertApart 66 = .ok (.invokevirtual 26, 3) := by decide +kernel
theorem dX5_insertApart_69 : decode cX5_insertApart 69 = .ok (.return_, 1) := by decide +kernel
theorem dX5_insertApart_15 : decode cX5_insertApart 15 = .ok (.aload_n 0, 1) := by decide +kernel
theorem dX5_insertApart_16 : decode cX5_insertApart 16 = .ok (.iload 6, 2) := by decide +kernel
theorem dX5_insertApart_18 : decode cX5_insertApart 18 = .ok (.invokevirtual 43, 3) := by decide +kernel
theorem dX5_insertApart_21 : decode cX5_insertApart 21 = .ok (.iload_n 3, 1) := by decide +kernel
theorem dX5_insertApart_22 : decode cX5_insertApart 22 = .ok (.if_icmp .ge 14, 3) := by decide +kernel
theorem dX5_insertApart_25 : decode cX5_insertApart 25 = .ok (.iload_n 2, 1) := by decide +kernel
theorem dX5_insertApart_26 : decode cX5_insertApart 26 = .ok (.aload_n 0, 1) := by decide +kernel
theorem dX5_insertApart_27 : decode cX5_insertApart 27 = .ok (.iload 6, 2) := by decide +kernel
theorem dX5_insertApart_29 : decode cX5_insertApart 29 = .ok (.invokevirtual 47, 3) := by decide +kernel
theorem dX5_insertApart_32 : decode cX5_insertApart 32 = .ok (.if_icmp .ge 4, 3) := by decide +kernel
theorem dX5_insertApart_35 : decode cX5_insertApart 35 = .ok (.return_, 1) := by decide +kernel
theorem dX5_insertApart_36 : decode cX5_insertApart 36 = .ok (.aload_n 0, 1) := by decide +kernel
theorem dX5_insertApart_37 : decode cX5_insertApart 37 = .ok (.iload 6, 2) := by decide +kernel
theorem dX5_insertApart_39 : decode cX5_insertApart 39 = .ok (.invokevirtual 43, 3) := by decide +kernel
theorem dX5_insertApart_42 : decode cX5_insertApart 42 = .ok (.iload_n 2, 1) := by decide +kernel
theorem dX5_insertApart_43 : decode cX5_insertApart 43 = .ok (.if_icmp .ge 9, 3) := by decide +kernel
theorem dX5_insertApart_46 : decode cX5_insertApart 46 = .ok (.iload 6, 2) := by decide +kernel
theorem dX5_insertApart_48 : decode cX5_insertApart 48 = .ok (.iconst 1, 1) := by decide +kernel
theorem dX5_insertApart_49 : decode cX5_insertApart 49 = .ok (.iadd, 1) := by decide +kernel
theorem dX5_insertApart_50 : decode cX5_insertApart 50 = .ok (.istore 5, 2) := by decide +kernel
theorem dX5_insertApart_52 : decode cX5_insertApart 52 = .ok (.iinc 6 1, 3) := by decide +kernel
theorem dX5_insertApart_55 : decode cX5_insertApart 55 = .ok (.goto (-49), 3) := by decide +kernel
set_option maxHeartbeats 4000000 in
set_option maxRecDepth 100000 in
theorem w_X5_insertApart_52 {p : Program} {l : Launch} {e : Env} {R : Room} {s : State} {m : MethodId} {args : Array Value} {below : List Frame} {meth : Method} {c : Code} {G : Gt} {ρ0 : Int → Nat} {M0 : Mo} {res : RS} (F : Fx p l R s m args meth c cX5_insertApart 7 RX5 G M0 3 none) (hno : ∀ x ∈ c.exceptionTable.toList, False) (hnm : meth.name = yX5_insertApart.name) (k6 : Int → Int → Int → Int → Int → Int → Int → Mo → Option RS) (hk6 : ∀ (x0 x1 x2 x3 x4 x5 x6 : Int) (M : Mo), k6 x0 x1 x2 x3 x4 x5 x6 M = some res → J p l e R s m args below meth c 7 G ρ0 M0 0 res M 6 [(0, (false, x0)), (1, (true, x1)), (2, (true, x2)), (3, (true, x3)), (4, (true, x4)), (5, (true, x5)), (6, (true, x6))] []) (x0 x1 x2 x3 x4 x5 x6 : Int) (M : Mo) (h : X5_insertApart_52 k6 x0 x1 x2 x3 x4 x5 x6 M = some res) : J p l e R s m args below meth c 7 G ρ0 M0 0 res M 52 [(0, (false, x0)), (1, (true, x1)), (2, (true, x2)), (3, (true, x3)), (4, (true, x4)), (5, (true, x5)), (6, (true, x6))] [] := by
  unfold X5_insertApart_52 at h
  refine j_iinc F 6 (lv' := [(6, (true, (x6 + 1))), (0, (false, x0)), (1, (true, x1)), (2, (true, x2)), (3, (true, x3)), (4, (true, x4)), (5, (true, x5))]) rfl (by decide) rfl dX5_insertApart_52 ?_
  refine j_goto F 6 (by decide) dX5_insertApart_55 ?_
  refine j_sub (lv' := [(0, (false, x0)), (1, (true, x1)), (2, (true, x2)), (3, (true, x3)), (4, (true, x4)), (5, (true, x5)), (6, (true, (x6 + 1)))]) [1, 2, 3, 4, 5, 6, 0] rfl ?_
  exact hk6 x0 x1 x2 x3 x4 x5 (x6 + 1) M h
set_option maxHeartbeats 4000000 in
set_option maxRecDepth 100000 in
theorem w_X5_insertApart_36 {p : Program} {l : Launch} {e : Env} {R : Room} {s : State} {m : MethodId} {args : Array Value} {below : List Frame} {meth : Method} {c : Code} {G : Gt} {ρ0 : Int → Nat} {M0 : Mo} {res : RS} (F : Fx p l R s m args meth c cX5_insertApart 7 RX5 G M0 3 none) (hno : ∀ x ∈ c.exceptionTable.toList, False) (hnm : meth.name = yX5_insertApart.name) (k6 : Int → Int → Int → Int → Int → Int → Int → Mo → Option RS) (hk6 : ∀ (x0 x1 x2 x3 x4 x5 x6 : Int) (M : Mo), k6 x0 x1 x2 x3 x4 x5 x6 M = some res → J p l e R s m args below meth c 7 G ρ0 M0 0 res M 6 [(0, (false, x0)), (1, (true, x1)), (2, (true, x2)), (3, (true, x3)), (4, (true, x4)), (5, (true, x5)), (6, (true, x6))] []) (x0 x1 x2 x3 x4 x5 x6 : Int) (M : Mo) (h : X5_insertApart_36 k6 x0 x1 x2 x3 x4 x5 x6 M = some res) : J p l e R s m args below meth c 7 G ρ0 M0 0 res M 36 [(0, (false, x0)), (1, (true, x1)), (2, (true, x2)), (3, (true, x3)), (4, (true, x4)), (5, (true, x5)), (6, (true, x6))] [] := by
  unfold X5_insertApart_36 at h
  refine j_aload_n F 0 rfl rfl dX5_insertApart_36 ?_
  refine j_iload F 6 rfl dX5_insertApart_37 ?_
  obtain ⟨g4, h⟩ := gua h
  refine j_callV (d' := 1) (argl := [(true, x6)]) (rk9 := 1) (st := []) F hno M_X5_startAt q1034 q1035 q1149 ⟨by decide, by decide⟩ (Nat.le_of_ble_eq_true rfl) (by decide) (ci := 6) rfl (by decide) g4 dX5_insertApart_39 rfl h (fun z hz => c_X5_startAt l F.ht G x0 x6 M z hz) (fun v1 M2 h kl3 => ?_)
  refine j_st (st' := [(true, v1)]) rfl ?_
  refine j_iload_n F 2 rfl rfl dX5_insertApart_42 ?_
  refine j_icmp_ge F 52 (by decide) dX5_insertApart_43 h (fun h => ?_) (fun h => ?_)
  · skip
    refine j_sub (lv' := [(0, (false, x0)), (1, (true, x1)), (2, (true, x2)), (3, (true, x3)), (4, (true, x4)), (5, (true, x5)), (6, (true, x6))]) [0, 1, 2, 3, 4, 5, 6] rfl ?_
    exact w_X5_insertApart_52 F hno hnm k6 hk6 x0 x1 x2 x3 x4 x5 x6 M2 h
  · skip
    refine j_iload F 6 rfl dX5_insertApart_46 ?_
    refine j_iconst F dX5_insertApart_48 ?_
    refine j_iadd F dX5_insertApart_49 ?_
    refine j_istore F (lv' := [(5, (true, (x6 + 1))), (0, (false, x0)), (1, (true, x1)), (2, (true, x2)), (3, (true, x3)), (4, (true, x4)), (6, (true, x6))]) (by decide) rfl dX5_insertApart_50 ?_
    refine j_sub (lv' := [(0, (false, x0)), (1, (true, x1)), (2, (true, x2)), (3, (true, x3)), (4, (true, x4)), (5, (true, (x6 + 1))), (6, (true, x6))]) [1, 2, 3, 4, 5, 0, 6] rfl ?_
    exact w_X5_insertApart_52 F hno hnm k6 hk6 x0 x1 x2 x3 x4 (x6 + 1) x6 M2 h
set_option maxHeartbeats 4000000 in
set_option maxRecDepth 100000 in
theorem w_X5_insertApart_6 {p : Program} {l : Launch} {e : Env} {R : Room} {s : State} {m : MethodId} {args : Array Value} {below : List Frame} {meth : Method} {c : Code} {G : Gt} {ρ0 : Int → Nat} {M0 : Mo} {res : RS} (F : Fx p l R s m args meth c cX5_insertApart 7 RX5 G M0 3 none) (hno : ∀ x ∈ c.exceptionTable.toList, False) (hnm : meth.name = yX5_insertApart.name) (n : Nat) : ∀ (x0 x1 x2 x3 x4 x5 x6 : Int) (M : Mo), X5_insertApart_6 n x0 x1 x2 x3 x4 x5 x6 M = some res → J p l e R s m args below meth c 7 G ρ0 M0 0 res M 6 [(0, (false, x0)), (1, (true, x1)), (2, (true, x2)), (3, (true, x3)), (4, (true, x4)), (5, (true, x5)), (6, (true, x6))] [] := by
  induction n with
  | zero => intro x0 x1 x2 x3 x4 x5 x6 M h; cases h
  | succ n ih =>
    intro x0 x1 x2 x3 x4 x5 x6 M h
    rw [X5_insertApart_6] at h
    refine j_iload F 6 rfl dX5_insertApart_6 ?_
    refine j_aload_n F 0 rfl rfl dX5_insertApart_8 ?_
    obtain ⟨g1, h⟩ := gua h
    refine j_get F ft_X5_18 rfl g1 dX5_insertApart_9 ?_
    refine j_icmp_ge F 58 (by decide) dX5_insertApart_12 h (fun h => ?_) (fun h => ?_)
    · skip
      refine j_aload_n F 0 rfl rfl dX5_insertApart_58 ?_
      refine j_iload F 5 rfl dX5_insertApart_59 ?_
      refine j_iload_n F 1 rfl rfl dX5_insertApart_61 ?_
      refine j_iload_n F 2 rfl rfl dX5_insertApart_62 ?_
      refine j_iload_n F 3 rfl rfl dX5_insertApart_63 ?_
      refine j_iload F 4 rfl dX5_insertApart_64 ?_
      refine j_callV (d' := 2) (argl := [(true, x5), (true, x1), (true, x2), (true, x3), (true, x4)]) (rk9 := 0) (st := []) F hno M_X5_insert q1157 q18 q1155 ⟨by decide, by decide⟩ (Nat.le_of_ble_eq_true rfl) (by decide) (ci := 6) rfl (by decide) g1 dX5_insertApart_66 rfl h (fun z hz => c_X5_insert l F.ht G x0 x5 x1 x2 x3 x4 M z hz) (fun v2 M3 h kl4 => ?_)
      refine j_st (st' := []) rfl ?_
      exact j_vret F (v := 0) h dX5_insertApart_69
    · skip
      refine j_aload_n F 0 rfl rfl dX5_insertApart_15 ?_
      refine j_iload F 6 rfl dX5_insertApart_16 ?_
      refine j_callV (d' := 1) (argl := [(true, x6)]) (rk9 := 1) (st := []) F hno M_X5_startAt q1034 q1035 q1149 ⟨by decide, by decide⟩ (Nat.le_of_ble_eq_true rfl) (by decide) (ci := 6) rfl (by decide) g1 dX5_insertApart_18 rfl h (fun z hz => c_X5_startAt l F.ht G x0 x6 M z hz) (fun v5 M6 h kl7 => ?_)
      refine j_st (st' := [(true, v5)]) rfl ?_
      refine j_iload_n F 3 rfl rfl dX5_insertApart_21 ?_
      refine j_icmp_ge F 36 (by decide) dX5_insertApart_22 h (fun h => ?_) (fun h => ?_)
      · skip
        refine j_sub (lv' := [(0, (false, x0)), (1, (true, x1)), (2, (true, x2)), (3, (true, x3)), (4, (true, x4)), (5, (true, x5)), (6, (true, x6))]) [0, 1, 2, 3, 4, 5, 6] rfl ?_
        exact w_X5_insertApart_36 F hno hnm (X5_insertApart_6 n) ih x0 x1 x2 x3 x4 x5 x6 M6 h
      · skip
        refine j_iload_n F 2 rfl rfl dX5_insertApart_25 ?_
        refine j_aload_n F 0 rfl rfl dX5_insertApart_26 ?_
        refine j_iload F 6 rfl dX5_insertApart_27 ?_
        refine j_callV (d' := 1) (argl := [(true, x6)]) (rk9 := 1) (st := [(true, x2)]) F hno M_X5_endAt q1052 q1053 q1150 ⟨by decide, by decide⟩ (Nat.le_of_ble_eq_true rfl) (by decide) (ci := 6) rfl (by decide) (kl7.is g1) dX5_insertApart_29 rfl h (fun z hz => c_X5_endAt l F.ht G x0 x6 M6 z hz) (fun v8 M9 h kl10 => ?_)
        refine j_st (st' := [(true, v8), (true, x2)]) rfl ?_
        refine j_icmp_ge F 36 (by decide) dX5_insertApart_32 h (fun h => ?_) (fun h => ?_)
        · skip
          refine j_sub (lv' := [(0, (false, x0)), (1, (true, x1)), (2, (true, x2)), (3, (true, x3)), (4, (true, x4)), (5, (true, x5)), (6, (true, x6))]) [0, 1, 2, 3, 4, 5, 6] rfl ?_
          exact w_X5_insertApart_36 F hno hnm (X5_insertApart_6 n) ih x0 x1 x2 x3 x4 x5 x6 M9 h
        · skip
          exact j_vret F (v := 0) h dX5_insertApart_35
set_option maxHeartbeats 4000000 in
set_option maxRecDepth 100000 in
theorem w_X5_insertApart_0 {p : Program} {l : Launch} {e : Env} {R : Room} {s : State} {m : MethodId} {args : Array Value} {below : List Frame} {meth : Method} {c : Code} {G : Gt} {ρ0 : Int → Nat} {M0 : Mo} {res : RS} (F : Fx p l R s m args meth c cX5_insertApart 7 RX5 G M0 3 none) (hno : ∀ x ∈ c.exceptionTable.toList, False) (hnm : meth.name = yX5_insertApart.name) (x0 x1 x2 x3 x4 : Int) (M : Mo) (h : X5_insertApart x0 x1 x2 x3 x4 M = some res) : J p l e R s m args below meth c 7 G ρ0 M0 0 res M 0 [(0, (false, x0)), (1, (true, x1)), (2, (true, x2)), (3, (true, x3)), (4, (true, x4))] [] := by
  unfold X5_insertApart at h
  refine j_iconst F dX5_insertApart_0 ?_
  refine j_istore F (lv' := [(5, (true, 0)), (0, (false, x0)), (1, (true, x1)), (2, (true, x2)), (3, (true, x3)), (4, (true, x4))]) (by decide) rfl dX5_insertApart_1 ?_
  refine j_iconst F dX5_insertApart_3 ?_
  refine j_istore F (lv' := [(6, (true, 0)), (5, (true, 0)), (0, (false, x0)), (1, (true, x1)), (2, (true, x2)), (3, (true, x3)), (4, (true, x4))]) (by decide) rfl dX5_insertApart_4 ?_
  refine j_sub (lv' := [(0, (false, x0)), (1, (true, x1)), (2, (true, x2)), (3, (true, x3)), (4, (true, x4)), (5, (true, 0)), (6, (true, 0))]) [2, 3, 4, 5, 6, 1, 0] rfl ?_
  exact w_X5_insertApart_6 F hno hnm FU x0 x1 x2 x3 x4 0 0 M h
theorem c_X5_insertApart (l : Launch) (hl : l.stackTraces = false) (G : Gt) (x0 x1 x2 x3 x4 : Int) (M : Mo) (z : RS) (h : X5_insertApart x0 x1 x2 x3 x4 M = some z) : CT l G yX5_insertApart (cn yX5_insertApart cX5_insertApart 7 none) 3 [(false, x0), (true, x1), (true, x2), (true, x3), (true, x4)] M 0 z :=
  ctOf hl (by decide) (Nat.le_of_ble_eq_true rfl) (fun p e R s m args below meth c ρ F hno hnm => w_X5_insertApart_0 F hno hnm x0 x1 x2 x3 x4 M h)
theorem dX5_insertRun_0 : decode cX5_insertRun 0 = .ok (.iconst 0, 1) := by decide +kernel
theorem dX5_insertRun_1 : decode cX5_insertRun 1 = .ok (.istore 5, 2) := by decide +kernel
theorem dX5_insertRun_3 : decode cX5_insertRun 3 = .ok (.iconst 0, 1) := by decide +kernel
theorem dX5_insertRun_4 : decode cX5_insertRun 4 = .ok (.istore 6, 2) := by decide +kernel
theorem dX5_insertRun_6 : decode cX5_insertRun 6 = .ok (.iload 6, 2) := by decide +kernel
theorem dX5_insertRun_8 : decode cX5_insertRun 8 = .ok (.aload_n 0, 1) := by decide +kernel
theorem dX5_insertRun_9 : decode cX5_insertRun 9 = .ok (.getfield 18, 3) := by decide +kernel
theorem dX5_insertRun_12 : decode cX5_insertRun 12 = .ok (.if_icmp .ge 47, 3) := by decide +kernel
theorem dX5_insertRun_59 : decode cX5_insertRun 59 = .ok (.aload_n 0, 1) := by decide +kernel
theorem dX5_insertRun_60 : decode cX5_insertRun 60 = .ok (.iload 5, 2) := by decide +kernel
theorem dX5_insertRun_62 : decode cX5_insertRun 62 = .ok (.iload_n 2, 1) := by decide +kernel
theorem dX5_insertRun_63 : decode cX5_insertRun 63 = .ok (.iload_n 3, 1) := by decide +kernel
theorem dX5_insertRun_64 : decode cX5_insertRun 64 = .ok (.iload 4, 2) := by decide +kernel
theorem dX5_insertRun_66 : decode cX5_insertRun 66 = .ok (.iconst 0, 1) := by decide +kernel
theorem dX5_insertRun_67 : decode cX5_insertRun 67 = .ok (.invokevirtual 26, 3) := by decide +kernel
theorem dX5_insertRun_70 : decode cX5_insertRun 70 = .ok (.return_, 1) := by decide +kernel
theorem dX5_insertRun_15 : decode cX5_insertRun 15 = .ok (.aload_n 1, 1) := by decide +kernel
theorem dX5_insertRun_16 : decode cX5_insertRun 16 = .ok (.aload_n 0, 1) := by decide +kernel
theorem dX5_insertRun_17 : decode cX5_insertRun 17 = .ok (.iload 6, 2) := by decide +kernel
theorem dX5_insertRun_19 : decode cX5_insertRun 19 = .ok (.invokevirtual 43, 3) := by decide +kernel
theorem dX5_insertRun_22 : decode cX5_insertRun 22 = .ok (.aload_n 0, 1) := by decide +kernel
theorem dX5_insertRun_23 : decode cX5_insertRun 23 = .ok (.iload 6, 2) := by decide +kernel
theorem dX5_insertRun_25 : decode cX5_insertRun 25 = .ok (.invokevirtual 47, 3) := by decide +kernel
theorem dX5_insertRun_28 : decode cX5_insertRun 28 = .ok (.iload_n 3, 1) := by decide +kernel
theorem dX5_insertRun_29 : decode cX5_insertRun 29 = .ok (.iload 4, 2) := by decide +kernel
set_option maxRecDepth 100000 in
theorem q1154 : Cond.code yX10_compareRuns cX10_compareRuns 8 (some FieldType.int) ∈ GT := gt 1154 (rfl) (by decide +kernel)
theorem M_X10_compareRuns : MY yX10_compareRuns cX10_compareRuns 8 (some FieldType.int) 4 := ⟨q1154, q54, by decide +kernel, by decide +kernel⟩
set_option maxRecDepth 100000 in
theorem q1152 : Cond.instanceMethod yX10_compareRuns ∈ GT := gt 1152 (by decide +kernel) (by decide +kernel)
set_option maxRecDepth 100000 in
theorem q1153 : Cond.selects RX10 yX10_compareRuns yX10_compareRuns ∈ GT := gt 1153 (by decide +kernel) (by decide +kernel)
set_option maxRecDepth 100000 in
theorem q1151 : Cond.methodLink RX5 50 yX10_compareRuns ∈ GT := gt 1151 (by decide +kernel) (by decide +kernel)
theorem dX5_insertRun_31 : decode cX5_insertRun 31 = .ok (.invokevirtual 50, 3) := by decide +kernel
theorem dX5_insertRun_34 : decode cX5_insertRun 34 = .ok (.istore 7, 2) := by decide +kernel
theorem dX5_insertRun_36 : decode cX5_insertRun 36 = .ok (.iload 7, 2) := by decide +kernel
theorem dX5_insertRun_38 : decode cX5_insertRun 38 = .ok (.ifCond .ne 4, 3) := by decide +kernel
theorem dX5_insertRun_42 : decode cX5_insertRun 42 = .ok (.iload 7, 2) := by decide +kernel
theorem dX5_insertRun_44 : decode cX5_insertRun 44 = .ok (.ifCond .ge 9, 3) := by decide +kernel
theorem dX5_insertRun_47 : decode cX5_insertRun 47 = .ok (.iload 6, 2) := by decide +kernel
theorem dX5_insertRun_49 : decode cX5_insertRun 49 = .ok (.iconst 1, 1) := by decide +kernel
theorem dX5_insertRun_50 : decode cX5_insertRun 50 = .ok (.iadd, 1) := by decide +kernel
theorem dX5_insertRun_51 : decode cX5_insertRun 51 = .ok (.istore 5, 2) := by decide +kernel
theorem dX5_insertRun_41 : decode cX5_insertRun 41 = .ok (.return_, 1) := by decide +kernel
theorem dX5_insertRun_53 : decode cX5_insertRun 53 = .ok (.iinc 6 1, 3) := by decide +kernel
theorem dX5_insertRun_56 : decode cX5_insertRun 56 = .ok (.goto (-50), 3) := by decide +kernel
set_option maxHeartbeats 4000000 in
set_option maxRecDepth 100000 in
theorem w_X5_insertRun_53 {p : Program} {l : Launch} {e : Env} {R : Room} {s : State} {m : MethodId} {args : Array Value} {below : List Frame} {meth : Method} {c : Code} {G : Gt} {ρ0 : Int → Nat} {M0 : Mo} {res : RS} (F : Fx p l R s m args meth c cX5_insertRun 8 RX5 G M0 3 none) (hno : ∀ x ∈ c.exceptionTable.toList, False) (hnm : meth.name = yX5_insertRun.name) (k6 : Int → Int → Int → Int → Int → Int → Int → Mo → Option RS) (hk6 : ∀ (x0 x1 x2 x3 x4 x5 x6 : Int) (M : Mo), k6 x0 x1 x2 x3 x4 x5 x6 M = some res → J p l e R s m args below meth c 8 G ρ0 M0 0 res M 6 [(0, (false, x0)), (1, (false, x1)), (2, (true, x2)), (3, (true, x3)), (4, (true, x4)), (5, (true, x5)), (6, (true, x6))] []) (x0 x1 x2 x3 x4 x5 x6 : Int) (M : Mo) (h : X5_insertRun_53 k6 x0 x1 x2 x3 x4 x5 x6 M = some res) : J p l e R s m args below meth c 8 G ρ0 M0 0 res M 53 [(0, (false, x0)), (1, (false, x1)), (2, (true, x2)), (3, (true, x3)), (4, (true, x4)), (5, (true, x5)), (6, (true, x6))] [] := by
  unfold X5_insertRun_53 at h
  refine j_iinc F 6 (lv' := [(6, (true, (x6 + 1))), (0, (false, x0)), (1, (false, x1)), (2, (true, x2)), (3, (true, x3)), (4, (true, x4)), (5, (true, x5))]) rfl (by decide) rfl dX5_insertRun_53 ?_
  refine j_goto F 6 (by decide) dX5_insertRun_56 ?_
  refine j_sub (lv' := [(0, (false, x0)), (1, (false, x1)), (2, (true, x2)), (3, (true, x3)), (4, (true, x4)), (5, (true, x5)), (6, (true, (x6 + 1)))]) [1, 2, 3, 4, 5, 6, 0] rfl ?_
  exact hk6 x0 x1 x2 x3 x4 x5 (x6 + 1) M h
set_option maxHeartbeats 4000000 in
set_option maxRecDepth 100000 in
theorem w_X5_insertRun_6 {p : Program} {l : Launch} {e : Env} {R : Room} {s : State} {m : MethodId} {args : Array Value} {below : List Frame} {meth : Method} {c : Code} {G : Gt} {ρ0 : Int → Nat} {M0 : Mo} {res : RS} (F : Fx p l R s m args meth c cX5_insertRun 8 RX5 G M0 3 none) (hno : ∀ x ∈ c.exceptionTable.toList, False) (hnm : meth.name = yX5_insertRun.name) (n : Nat) : ∀ (x0 x1 x2 x3 x4 x5 x6 : Int) (M : Mo), X5_insertRun_6 n x0 x1 x2 x3 x4 x5 x6 M = some res → J p l e R s m args below meth c 8 G ρ0 M0 0 res M 6 [(0, (false, x0)), (1, (false, x1)), (2, (true, x2)), (3, (true, x3)), (4, (true, x4)), (5, (true, x5)), (6, (true, x6))] [] := by
  induction n with
  | zero => intro x0 x1 x2 x3 x4 x5 x6 M h; cases h
  | succ n ih =>
    intro x0 x1 x2 x3 x4 x5 x6 M h
    rw [X5_insertRun_6] at h
    refine j_iload F 6 rfl dX5_insertRun_6 ?_
    refine j_aload_n F 0 rfl rfl dX5_insertRun_8 ?_
    obtain ⟨g1, h⟩ := gua h
    refine j_get F ft_X5_18 rfl g1 dX5_insertRun_9 ?_
    refine j_icmp_ge F 59 (by decide) dX5_insertRun_12 h (fun h => ?_) (fun h => ?_)
    · skip
      refine j_aload_n F 0 rfl rfl dX5_insertRun_59 ?_
      refine j_iload F 5 rfl dX5_insertRun_60 ?_
      refine j_iload_n F 2 rfl rfl dX5_insertRun_62 ?_
      refine j_iload_n F 3 rfl rfl dX5_insertRun_63 ?_
      refine j_iload F 4 rfl dX5_insertRun_64 ?_
      refine j_iconst F dX5_insertRun_66 ?_
      refine j_callV (d' := 2) (argl := [(true, x5), (true, x2), (true, x3), (true, x4), (true, 0)]) (rk9 := 0) (st := []) F hno M_X5_insert q1157 q18 q1155 ⟨by decide, by decide⟩ (Nat.le_of_ble_eq_true rfl) (by decide) (ci := 6) rfl (by decide) g1 dX5_insertRun_67 rfl h (fun z hz => c_X5_insert l F.ht G x0 x5 x2 x3 x4 0 M z hz) (fun v2 M3 h kl4 => ?_)
      refine j_st (st' := []) rfl ?_
      exact j_vret F (v := 0) h dX5_insertRun_70
    · skip
      refine j_aload_n F 1 rfl rfl dX5_insertRun_15 ?_
      refine j_aload_n F 0 rfl rfl dX5_insertRun_16 ?_
      refine j_iload F 6 rfl dX5_insertRun_17 ?_
      refine j_callV (d' := 1) (argl := [(true, x6)]) (rk9 := 1) (st := [(false, x1)]) F hno M_X5_startAt q1034 q1035 q1149 ⟨by decide, by decide⟩ (Nat.le_of_ble_eq_true rfl) (by decide) (ci := 6) rfl (by decide) g1 dX5_insertRun_19 rfl h (fun z hz => c_X5_startAt l F.ht G x0 x6 M z hz) (fun v5 M6 h kl7 => ?_)
      refine j_st (st' := [(true, v5), (false, x1)]) rfl ?_
      refine j_aload_n F 0 rfl rfl dX5_insertRun_22 ?_
      refine j_iload F 6 rfl dX5_insertRun_23 ?_
      refine j_callV (d' := 1) (argl := [(true, x6)]) (rk9 := 1) (st := [(true, v5), (false, x1)]) F hno M_X5_endAt q1052 q1053 q1150 ⟨by decide, by decide⟩ (Nat.le_of_ble_eq_true rfl) (by decide) (ci := 6) rfl (by decide) (kl7.is g1) dX5_insertRun_25 rfl h (fun z hz => c_X5_endAt l F.ht G x0 x6 M6 z hz) (fun v8 M9 h kl10 => ?_)
      refine j_st (st' := [(true, v8), (true, v5), (false, x1)]) rfl ?_
      refine j_iload_n F 3 rfl rfl dX5_insertRun_28 ?_
      refine j_iload F 4 rfl dX5_insertRun_29 ?_
      obtain ⟨g14, h⟩ := gua h
      refine j_callV (d' := 1) (argl := [(true, v5), (true, v8), (true, x3), (true, x4)]) (rk9 := 1) (st := []) F hno M_X10_compareRuns q1152 q1153 q1151 ⟨by decide, by decide⟩ (Nat.le_of_ble_eq_true rfl) (by decide) (ci := 11) rfl (by decide) g14 dX5_insertRun_31 rfl h (fun z hz => c_X10_compareRuns l F.ht G x1 v5 v8 x3 x4 M9 z hz) (fun v11 M12 h kl13 => ?_)
      refine j_st (st' := [(true, v11)]) rfl ?_
      refine j_istore F (lv' := [(7, (true, v11)), (0, (false, x0)), (1, (false, x1)), (2, (true, x2)), (3, (true, x3)), (4, (true, x4)), (5, (true, x5)), (6, (true, x6))]) (by decide) rfl dX5_insertRun_34 ?_
      refine j_iload F 0 rfl dX5_insertRun_36 ?_
      refine j_if_ne F 42 (by decide) dX5_insertRun_38 h (fun h => ?_) (fun h => ?_)
      · skip
        refine j_iload F 0 rfl dX5_insertRun_42 ?_
        refine j_if_ge F 53 (by decide) dX5_insertRun_44 h (fun h => ?_) (fun h => ?_)
        · skip
          refine j_sub (lv' := [(0, (false, x0)), (1, (false, x1)), (2, (true, x2)), (3, (true, x3)), (4, (true, x4)), (5, (true, x5)), (6, (true, x6))]) [1, 2, 3, 4, 5, 6, 7] rfl ?_
          exact w_X5_insertRun_53 F hno hnm (X5_insertRun_6 n) ih x0 x1 x2 x3 x4 x5 x6 M12 h
        · skip
          refine j_iload F 7 rfl dX5_insertRun_47 ?_
          refine j_iconst F dX5_insertRun_49 ?_
          refine j_iadd F dX5_insertRun_50 ?_
          refine j_istore F (lv' := [(5, (true, (x6 + 1))), (7, (true, v11)), (0, (false, x0)), (1, (false, x1)), (2, (true, x2)), (3, (true, x3)), (4, (true, x4)), (6, (true, x6))]) (by decide) rfl dX5_insertRun_51 ?_
          refine j_sub (lv' := [(0, (false, x0)), (1, (false, x1)), (2, (true, x2)), (3, (true, x3)), (4, (true, x4)), (5, (true, (x6 + 1))), (6, (true, x6))]) [2, 3, 4, 5, 6, 0, 7] rfl ?_
          exact w_X5_insertRun_53 F hno hnm (X5_insertRun_6 n) ih x0 x1 x2 x3 x4 (x6 + 1) x6 M12 h
      · skip
        exact j_vret F (v := 0) h dX5_insertRun_41
set_option maxHeartbeats 4000000 in
set_option maxRecDepth 100000 in
theorem w_X5_insertRun_0 {p : Program} {l : Launch} {e : Env} {R : Room} {s : State} {m : MethodId} {args : Array Value} {below : List Frame} {meth : Method} {c : Code} {G : Gt} {ρ0 : Int → Nat} {M0 : Mo} {res : RS} (F : Fx p l R s m args meth c cX5_insertRun 8 RX5 G M0 3 none) (hno : ∀ x ∈ c.exceptionTable.toList, False) (hnm : meth.name = yX5_insertRun.name) (x0 x1 x2 x3 x4 : Int) (M : Mo) (h : X5_insertRun x0 x1 x2 x3 x4 M = some res) : J p l e R s m args below meth c 8 G ρ0 M0 0 res M 0 [(0, (false, x0)), (1, (false, x1)), (2, (true, x2)), (3, (true, x3)), (4, (true, x4))] [] := by
  unfold X5_insertRun at h
  refine j_iconst F dX5_insertRun_0 ?_
  refine j_istore F (lv' := [(5, (true, 0)), (0, (false, x0)), (1, (false, x1)), (2, (true, x2)), (3, (true, x3)), (4, (true, x4))]) (by decide) rfl dX5_insertRun_1 ?_
  refine j_iconst F dX5_insertRun_3 ?_
  refine j_istore F (lv' := [(6, (true, 0)), (5, (true, 0)), (0, (false, x0)), (1, (false, x1)), (2, (true, x2)), (3, (true, x3)), (4, (true, x4))]) (by decide) rfl dX5_insertRun_4 ?_
  refine j_sub (lv' := [(0, (false, x0)), (1, (false, x1)), (2, (true, x2)), (3, (true, x3)), (4, (true, x4)), (5, (true, 0)), (6, (true, 0))]) [2, 3, 4, 5, 6, 1, 0] rfl ?_
  exact w_X5_insertRun_6 F hno hnm FU x0 x1 x2 x3 x4 0 0 M h
theorem c_X5_insertRun (l : Launch) (hl : l.stackTraces = false) (G : Gt) (x0 x1 x2 x3 x4 : Int) (M : Mo) (z : RS) (h : X5_insertRun x0 x1 x2 x3 x4 M = some z) : CT l G yX5_insertRun (cn yX5_insertRun cX5_insertRun 8 none) 3 [(false, x0), (false, x1), (true, x2), (true, x3), (true, x4)] M 0 z :=
  ctOf hl (by decide) (Nat.le_of_ble_eq_true rfl) (fun p e R s m args below meth c ρ F hno hnm => w_X5_insertRun_0 F hno hnm x0 x1 x2 x3 x4 M h)
theorem dX5_move_0 : decode cX5_move 0 = .ok (.iconst 0, 1) := by decide +kernel
theorem dX5_move_1 : decode cX5_move 1 = .ok (.istore 4, 2) := by decide +kernel
theorem dX5_move_3 : decode cX5_move 3 = .ok (.iconst 0, 1) := by decide +kernel
theorem dX5_move_4 : decode cX5_move 4 = .ok (.istore 5, 2) := by decide +kernel
theorem dX5_move_6 : decode cX5_move 6 = .ok (.iload 5, 2) := by decide +kernel
theorem dX5_move_8 : decode cX5_move 8 = .ok (.aload_n 0, 1) := by decide +kernel
theorem dX5_move_9 : decode cX5_move 9 = .ok (.getfield 18, 3) := by decide +kernel
theorem dX5_move_12 : decode cX5_move 12 = .ok (.if_icmp .ge 153, 3) := by decide +kernel
theorem dX5_move_15 : decode cX5_move 15 = .ok (.iconst 4, 1) := by decide +kernel
theorem dX5_move_16 : decode cX5_move 16 = .ok (.iload 5, 2) := by decide +kernel
theorem dX5_move_18 : decode cX5_move 18 = .ok (.imul, 1) := by decide +kernel
theorem dX5_move_19 : decode cX5_move 19 = .ok (.iconst 3, 1) := by decide +kernel
theorem dX5_move_20 : decode cX5_move 20 = .ok (.iadd, 1) := by decide +kernel
theorem dX5_move_21 : decode cX5_move 21 = .ok (.aload_n 0, 1) := by decide +kernel
theorem dX5_move_22 : decode cX5_move 22 = .ok (.getfield 13, 3) := by decide +kernel
theorem dX5_move_25 : decode cX5_move 25 = .ok (.arraylength, 1) := by decide +kernel
theorem dX5_move_26 : decode cX5_move 26 = .ok (.if_icmp .ge 139, 3) := by decide +kernel
theorem dX5_move_29 : decode cX5_move 29 = .ok (.aload_n 0, 1) := by decide +kernel
theorem dX5_move_30 : decode cX5_move 30 = .ok (.getfield 13, 3) := by decide +kernel
theorem dX5_move_33 : decode cX5_move 33 = .ok (.iconst 4, 1) := by decide +kernel
theorem dX5_move_34 : decode cX5_move 34 = .ok (.iload 5, 2) := by decide +kernel
theorem dX5_move_36 : decode cX5_move 36 = .ok (.imul, 1) := by decide +kernel
theorem dX5_move_37 : decode cX5_move 37 = .ok (.iconst 1, 1) := by decide +kernel
theorem dX5_move_38 : decode cX5_move 38 = .ok (.iadd, 1) := by decide +kernel
theorem dX5_move_39 : decode cX5_move 39 = .ok (.iaload, 1) := by decide +kernel
theorem dX5_move_40 : decode cX5_move 40 = .ok (.istore 6, 2) := by decide +kernel
theorem dX5_move_42 : decode cX5_move 42 = .ok (.aload_n 0, 1) := by decide +kernel
theorem dX5_move_43 : decode cX5_move 43 = .ok (.getfield 13, 3) := by decide +kernel
theorem dX5_move_46 : decode cX5_move 46 = .ok (.iconst 4, 1) := by decide +kernel
theorem dX5_move_47 : decode cX5_move 47 = .ok (.iload 5, 2) := by decide +kernel
theorem dX5_move_49 : decode cX5_move 49 = .ok (.imul, 1) := by decide +kernel
theorem dX5_move_50 : decode cX5_move 50 = .ok (.iconst 2, 1) := by decide +kernel
theorem dX5_move_51 : decode cX5_move 51 = .ok (.iadd, 1) := by decide +kernel
theorem dX5_move_52 : decode cX5_move 52 = .ok (.iaload, 1) := by decide +kernel
theorem dX5_move_53 : decode cX5_move 53 = .ok (.istore 7, 2) := by decide +kernel
theorem dX5_move_55 : decode cX5_move 55 = .ok (.iload_n 2, 1) := by decide +kernel
theorem dX5_move_56 : decode cX5_move 56 = .ok (.iload 6, 2) := by decide +kernel
theorem dX5_move_58 : decode cX5_move 58 = .ok (.if_icmp .le 9, 3) := by decide +kernel
theorem dX5_move_61 : decode cX5_move 61 = .ok (.iload_n 1, 1) := by decide +kernel
theorem dX5_move_62 : decode cX5_move 62 = .ok (.iload 7, 2) := by decide +kernel
theorem dX5_move_64 : decode cX5_move 64 = .ok (.if_icmp .lt 95, 3) := by decide +kernel
theorem dX5_move_67 : decode cX5_move 67 = .ok (.iload_n 2, 1) := by decide +kernel
theorem dX5_move_68 : decode cX5_move 68 = .ok (.iload 6, 2) := by decide +kernel
theorem dX5_move_70 : decode cX5_move 70 = .ok (.if_icmp .gt 11, 3) := by decide +kernel
theorem dX5_move_81 : decode cX5_move 81 = .ok (.iconst 0, 1) := by decide +kernel
theorem dX5_move_73 : decode cX5_move 73 = .ok (.iload_n 3, 1) := by decide +kernel
theorem dX5_move_74 : decode cX5_move 74 = .ok (.iload_n 2, 1) := by decide +kernel
theorem dX5_move_75 : decode cX5_move 75 = .ok (.iload_n 1, 1) := by decide +kernel
theorem dX5_move_76 : decode cX5_move 76 = .ok (.isub, 1) := by decide +kernel
theorem dX5_move_77 : decode cX5_move 77 = .ok (.isub, 1) := by decide +kernel
theorem dX5_move_78 : decode cX5_move 78 = .ok (.goto 4, 3) := by decide +kernel
theorem dX5_move_82 : decode cX5_move 82 = .ok (.istore 8, 2) := by decide +kernel
theorem dX5_move_84 : decode cX5_move 84 = .ok (.aload_n 0, 1) := by decide +kernel
theorem dX5_move_85 : decode cX5_move 85 = .ok (.getfield 13, 3) := by decide +kernel
theorem dX5_move_88 : decode cX5_move 88 = .ok (.iconst 4, 1) := by decide +kernel
theorem dX5_move_89 : decode cX5_move 89 = .ok (.iload 4, 2) := by decide +kernel
theorem dX5_move_91 : decode cX5_move 91 = .ok (.imul, 1) := by decide +kernel
theorem dX5_move_92 : decode cX5_move 92 = .ok (.aload_n 0, 1) := by decide +kernel
theorem dX5_move_93 : decode cX5_move 93 = .ok (.getfield 13, 3) := by decide +kernel
theorem dX5_move_96 : decode cX5_move 96 = .ok (.iconst 4, 1) := by decide +kernel
theorem dX5_move_97 : decode cX5_move 97 = .ok (.iload 5, 2) := by decide +kernel
theorem dX5_move_99 : decode cX5_move 99 = .ok (.imul, 1) := by decide +kernel
theorem dX5_move_100 : decode cX5_move 100 = .ok (.iaload, 1) := by decide +kernel
theorem dX5_move_101 : decode cX5_move 101 = .ok (.iastore, 1) := by decide +kernel
theorem dX5_move_102 : decode cX5_move 102 = .ok (.aload_n 0, 1) := by decide +kernel
theorem dX5_move_103 : decode cX5_move 103 = .ok (.getfield 13, 3) := by decide +kernel
theorem dX5_move_106 : decode cX5_move 106 = .ok (.iconst 4, 1) := by decide +kernel
theorem dX5_move_107 : decode cX5_move 107 = .ok (.iload 4, 2) := by decide +kernel
theorem dX5_move_109 : decode cX5_move 109 = .ok (.imul, 1) := by decide +kernel
theorem dX5_move_110 : decode cX5_move 110 = .ok (.iconst 1, 1) := by decide +kernel
theorem dX5_move_111 : decode cX5_move 111 = .ok (.iadd, 1) := by decide +kernel
theorem dX5_move_112 : decode cX5_move 112 = .ok (.iload 6, 2) := by decide +kernel
theorem dX5_move_114 : decode cX5_move 114 = .ok (.iload 8, 2) := by decide +kernel
theorem dX5_move_116 : decode cX5_move 116 = .ok (.iadd, 1) := by decide +kernel
theorem dX5_move_117 : decode cX5_move 117 = .ok (.iastore, 1) := by decide +kernel
theorem dX5_move_118 : decode cX5_move 118 = .ok (.aload_n 0, 1) := by decide +kernel
theorem dX5_move_119 : decode cX5_move 119 = .ok (.getfield 13, 3) := by decide +kernel
theorem dX5_move_122 : decode cX5_move 122 = .ok (.iconst 4, 1) := by decide +kernel
theorem dX5_move_123 : decode cX5_move 123 = .ok (.iload 4, 2) := by decide +kernel
theorem dX5_move_125 : decode cX5_move 125 = .ok (.imul, 1) := by decide +kernel
theorem dX5_move_126 : decode cX5_move 126 = .ok (.iconst 2, 1) := by decide +kernel
theorem dX5_move_127 : decode cX5_move 127 = .ok (.iadd, 1) := by decide +kernel
theorem dX5_move_128 : decode cX5_move 128 = .ok (.iload 7, 2) := by decide +kernel
theorem dX5_move_130 : decode cX5_move 130 = .ok (.iload 8, 2) := by decide +kernel
theorem dX5_move_132 : decode cX5_move 132 = .ok (.iadd, 1) := by decide +kernel
theorem dX5_move_133 : decode cX5_move 133 = .ok (.iastore, 1) := by decide +kernel
theorem dX5_move_134 : decode cX5_move 134 = .ok (.aload_n 0, 1) := by decide +kernel
theorem dX5_move_135 : decode cX5_move 135 = .ok (.getfield 13, 3) := by decide +kernel
theorem dX5_move_138 : decode cX5_move 138 = .ok (.iconst 4, 1) := by decide +kernel
theorem dX5_move_139 : decode cX5_move 139 = .ok (.iload 4, 2) := by decide +kernel
theorem dX5_move_141 : decode cX5_move 141 = .ok (.imul, 1) := by decide +kernel
theorem dX5_move_142 : decode cX5_move 142 = .ok (.iconst 3, 1) := by decide +kernel
theorem dX5_move_143 : decode cX5_move 143 = .ok (.iadd, 1) := by decide +kernel
theorem dX5_move_144 : decode cX5_move 144 = .ok (.aload_n 0, 1) := by decide +kernel
theorem dX5_move_145 : decode cX5_move 145 = .ok (.getfield 13, 3) := by decide +kernel
theorem dX5_move_148 : decode cX5_move 148 = .ok (.iconst 4, 1) := by decide +kernel
theorem dX5_move_149 : decode cX5_move 149 = .ok (.iload 5, 2) := by decide +kernel
theorem dX5_move_151 : decode cX5_move 151 = .ok (.imul, 1) := by decide +kernel
theorem dX5_move_152 : decode cX5_move 152 = .ok (.iconst 3, 1) := by decide +kernel
theorem dX5_move_153 : decode cX5_move 153 = .ok (.iadd, 1) := by decide +kernel
theorem dX5_move_154 : decode cX5_move 154 = .ok (.iaload, 1) := by decide +kernel
theorem dX5_move_155 : decode cX5_move 155 = .ok (.iastore, 1) := by decide +kernel
theorem dX5_move_156 : decode cX5_move 156 = .ok (.iinc 4 1, 3) := by decide +kernel
theorem dX5_move_159 : decode cX5_move 159 = .ok (.iinc 5 1, 3) := by decide +kernel
theorem dX5_move_162 : decode cX5_move 162 = .ok (.goto (-156), 3) := by decide +kernel
theorem dX5_move_165 : decode cX5_move 165 = .ok (.aload_n 0, 1) := by decide +kernel
theorem dX5_move_166 : decode cX5_move 166 = .ok (.iload 4, 2) := by decide +kernel
theorem dX5_move_168 : decode cX5_move 168 = .ok (.putfield 18, 3) := by decide +kernel
theorem dX5_move_171 : decode cX5_move 171 = .ok (.return_, 1) := by decide +kernel
set_option maxHeartbeats 4000000 in
set_option maxRecDepth 100000 in
theorem w_X5_move_159 {p : Program} {l : Launch} {e : Env} {R : Room} {s : State} {m : MethodId} {args : Array Value} {below : List Frame} {meth : Method} {c : Code} {G : Gt} {ρ0 : Int → Nat} {M0 : Mo} {res : RS} (F : Fx p l R s m args meth c cX5_move 9 RX5 G M0 0 none) (hno : ∀ x ∈ c.exceptionTable.toList, False) (hnm : meth.name = yX5_move.name) (k6 : Int → Int → Int → Int → Int → Int → Mo → Option RS) (hk6 : ∀ (x0 x1 x2 x3 x4 x5 : Int) (M : Mo), k6 x0 x1 x2 x3 x4 x5 M = some res → J p l e R s m args below meth c 9 G ρ0 M0 0 res M 6 [(0, (false, x0)), (1, (true, x1)), (2, (true, x2)), (3, (true, x3)), (4, (true, x4)), (5, (true, x5))] []) (x0 x1 x2 x3 x4 x5 : Int) (M : Mo) (h : X5_move_159 k6 x0 x1 x2 x3 x4 x5 M = some res) : J p l e R s m args below meth c 9 G ρ0 M0 0 res M 159 [(0, (false, x0)), (1, (true, x1)), (2, (true, x2)), (3, (true, x3)), (4, (true, x4)), (5, (true, x5))] [] := by
  unfold X5_move_159 at h
  refine j_iinc F 5 (lv' := [(5, (true, (x5 + 1))), (0, (false, x0)), (1, (true, x1)), (2, (true, x2)), (3, (true, x3)), (4, (true, x4))]) rfl (by decide) rfl dX5_move_159 ?_
  refine j_goto F 6 (by decide) dX5_move_162 ?_
  refine j_sub (lv' := [(0, (false, x0)), (1, (true, x1)), (2, (true, x2)), (3, (true, x3)), (4, (true, x4)), (5, (true, (x5 + 1)))]) [1, 2, 3, 4, 5, 0] rfl ?_
  exact hk6 x0 x1 x2 x3 x4 (x5 + 1) M h
set_option maxHeartbeats 4000000 in
set_option maxRecDepth 100000 in
theorem w_X5_move_82 {p : Program} {l : Launch} {e : Env} {R : Room} {s : State} {m : MethodId} {args : Array Value} {below : List Frame} {meth : Method} {c : Code} {G : Gt} {ρ0 : Int → Nat} {M0 : Mo} {res : RS} (F : Fx p l R s m args meth c cX5_move 9 RX5 G M0 0 none) (hno : ∀ x ∈ c.exceptionTable.toList, False) (hnm : meth.name = yX5_move.name) (k6 : Int → Int → Int → Int → Int → Int → Mo → Option RS) (hk6 : ∀ (x0 x1 x2 x3 x4 x5 : Int) (M : Mo), k6 x0 x1 x2 x3 x4 x5 M = some res → J p l e R s m args below meth c 9 G ρ0 M0 0 res M 6 [(0, (false, x0)), (1, (true, x1)), (2, (true, x2)), (3, (true, x3)), (4, (true, x4)), (5, (true, x5))] []) (x0 x1 x2 x3 x4 x5 x6 x7 y0 : Int) (M : Mo) (h : X5_move_82 k6 x0 x1 x2 x3 x4 x5 x6 x7 y0 M = some res) : J p l e R s m args below meth c 9 G ρ0 M0 0 res M 82 [(0, (false, x0)), (1, (true, x1)), (2, (true, x2)), (3, (true, x3)), (4, (true, x4)), (5, (true, x5)), (6, (true, x6)), (7, (true, x7))] [(true, y0)] := by
  unfold X5_move_82 at h
  refine j_istore F (lv' := [(8, (true, y0)), (0, (false, x0)), (1, (true, x1)), (2, (true, x2)), (3, (true, x3)), (4, (true, x4)), (5, (true, x5)), (6, (true, x6)), (7, (true, x7))]) (by decide) rfl dX5_move_82 ?_
  refine j_aload_n F 1 rfl rfl dX5_move_84 ?_
  obtain ⟨g1, h⟩ := gua h
  refine j_get F ft_X5_13 rfl g1 dX5_move_85 ?_
  refine j_iconst F dX5_move_88 ?_
  refine j_iload F 5 rfl dX5_move_89 ?_
  refine j_imul F dX5_move_91 ?_
  refine j_aload_n F 1 rfl rfl dX5_move_92 ?_
  refine j_get F ft_X5_13 rfl g1 dX5_move_93 ?_
  refine j_iconst F dX5_move_96 ?_
  refine j_iload F 6 rfl dX5_move_97 ?_
  refine j_imul F dX5_move_99 ?_
  obtain ⟨g2, h⟩ := gua h
  obtain ⟨g3, h⟩ := gua h
  refine j_iaload F g2 g3 dX5_move_100 ?_
  obtain ⟨g4, h⟩ := gua h
  refine j_iastore F g2 g4 dX5_move_101 ?_
  obtain ⟨M5, hM5⟩ : ∃ Z, Z = sE M 0 (fd M 6 0 x0) (wr (4 * x4)) (el M 0 (fd M 6 0 x0) (wr (4 * x5))) := ⟨_, rfl⟩
  have kl6 : kle M M5 := by rw [hM5]; exact kle_sE
  rw [← hM5]
  replace h := pt_as h hM5
  refine j_aload_n F 1 rfl rfl dX5_move_102 ?_
  refine j_get F ft_X5_13 rfl (kl6.is g1) dX5_move_103 ?_
  refine j_iconst F dX5_move_106 ?_
  refine j_iload F 5 rfl dX5_move_107 ?_
  refine j_imul F dX5_move_109 ?_
  refine j_iconst F dX5_move_110 ?_
  refine j_iadd F dX5_move_111 ?_
  refine j_iload F 7 rfl dX5_move_112 ?_
  refine j_iload F 0 rfl dX5_move_114 ?_
  refine j_iadd F dX5_move_116 ?_
  obtain ⟨g7, h⟩ := gua h
  obtain ⟨g8, h⟩ := gua h
  refine j_iastore F g7 g8 dX5_move_117 ?_
  obtain ⟨M9, hM9⟩ : ∃ Z, Z = sE M5 0 (fd M5 6 0 x0) (wr ((4 * x4) + 1)) (x6 + y0) := ⟨_, rfl⟩
  have kl10 : kle M5 M9 := by rw [hM9]; exact kle_sE
  rw [← hM9]
  replace h := pt_as h hM9
  refine j_aload_n F 1 rfl rfl dX5_move_118 ?_
  refine j_get F ft_X5_13 rfl (kl10.is (kl6.is g1)) dX5_move_119 ?_
  refine j_iconst F dX5_move_122 ?_
  refine j_iload F 5 rfl dX5_move_123 ?_
  refine j_imul F dX5_move_125 ?_
  refine j_iconst F dX5_move_126 ?_
  refine j_iadd F dX5_move_127 ?_
  refine j_iload F 8 rfl dX5_move_128 ?_
  refine j_iload F 0 rfl dX5_move_130 ?_
  refine j_iadd F dX5_move_132 ?_
  obtain ⟨g11, h⟩ := gua h
  obtain ⟨g12, h⟩ := gua h
  refine j_iastore F g11 g12 dX5_move_133 ?_
  obtain ⟨M13, hM13⟩ : ∃ Z, Z = sE M9 0 (fd M9 6 0 x0) (wr ((4 * x4) + 2)) (x7 + y0) := ⟨_, rfl⟩
  have kl14 : kle M9 M13 := by rw [hM13]; exact kle_sE
  rw [← hM13]
  replace h := pt_as h hM13
  refine j_aload_n F 1 rfl rfl dX5_move_134 ?_
  refine j_get F ft_X5_13 rfl (kl14.is (kl10.is (kl6.is g1))) dX5_move_135 ?_
  refine j_iconst F dX5_move_138 ?_
  refine j_iload F 5 rfl dX5_move_139 ?_
  refine j_imul F dX5_move_141 ?_
  refine j_iconst F dX5_move_142 ?_
  refine j_iadd F dX5_move_143 ?_
  refine j_aload_n F 1 rfl rfl dX5_move_144 ?_
  refine j_get F ft_X5_13 rfl (kl14.is (kl10.is (kl6.is g1))) dX5_move_145 ?_
  refine j_iconst F dX5_move_148 ?_
  refine j_iload F 6 rfl dX5_move_149 ?_
  refine j_imul F dX5_move_151 ?_
  refine j_iconst F dX5_move_152 ?_
  refine j_iadd F dX5_move_153 ?_
  obtain ⟨g15, h⟩ := gua h
  obtain ⟨g16, h⟩ := gua h
  refine j_iaload F g15 g16 dX5_move_154 ?_
  obtain ⟨g17, h⟩ := gua h
  refine j_iastore F g15 g17 dX5_move_155 ?_
  obtain ⟨M18, hM18⟩ : ∃ Z, Z = sE M13 0 (fd M13 6 0 x0) (wr ((4 * x4) + 3)) (el M13 0 (fd M13 6 0 x0) (wr ((4 * x5) + 3))) := ⟨_, rfl⟩
  have kl19 : kle M13 M18 := by rw [hM18]; exact kle_sE
  rw [← hM18]
  replace h := pt_as h hM18
  refine j_iinc F 5 (lv' := [(4, (true, (x4 + 1))), (8, (true, y0)), (0, (false, x0)), (1, (true, x1)), (2, (true, x2)), (3, (true, x3)), (5, (true, x5)), (6, (true, x6)), (7, (true, x7))]) rfl (by decide) rfl dX5_move_156 ?_
  refine j_sub (lv' := [(0, (false, x0)), (1, (true, x1)), (2, (true, x2)), (3, (true, x3)), (4, (true, (x4 + 1))), (5, (true, x5))]) [2, 3, 4, 5, 0, 6] rfl ?_
  exact w_X5_move_159 F hno hnm k6 hk6 x0 x1 x2 x3 (x4 + 1) x5 M18 h
set_option maxHeartbeats 4000000 in
set_option maxRecDepth 100000 in
theorem w_X5_move_67 {p : Program} {l : Launch} {e : Env} {R : Room} {s : State} {m : MethodId} {args : Array Value} {below : List Frame} {meth : Method} {c : Code} {G : Gt} {ρ0 : Int → Nat} {M0 : Mo} {res : RS} (F : Fx p l R s m args meth c cX5_move 9 RX5 G M0 0 none) (hno : ∀ x ∈ c.exceptionTable.toList, False) (hnm : meth.name = yX5_move.name) (k6 : Int → Int → Int → Int → Int → Int → Mo → Option RS) (hk6 : ∀ (x0 x1 x2 x3 x4 x5 : Int) (M : Mo), k6 x0 x1 x2 x3 x4 x5 M = some res → J p l e R s m args below meth c 9 G ρ0 M0 0 res M 6 [(0, (false, x0)), (1, (true, x1)), (2, (true, x2)), (3, (true, x3)), (4, (true, x4)), (5, (true, x5))] []) (x0 x1 x2 x3 x4 x5 x6 x7 : Int) (M : Mo) (h : X5_move_67 k6 x0 x1 x2 x3 x4 x5 x6 x7 M = some res) : J p l e R s m args below meth c 9 G ρ0 M0 0 res M 67 [(0, (false, x0)), (1, (true, x1)), (2, (true, x2)), (3, (true, x3)), (4, (true, x4)), (5, (true, x5)), (6, (true, x6)), (7, (true, x7))] [] := by
  unfold X5_move_67 at h
  refine j_iload_n F 2 rfl rfl dX5_move_67 ?_
  refine j_iload F 6 rfl dX5_move_68 ?_
  refine j_icmp_gt F 81 (by decide) dX5_move_70 h (fun h => ?_) (fun h => ?_)
  · skip
    refine j_iconst F dX5_move_81 ?_
    refine j_sub (lv' := [(0, (false, x0)), (1, (true, x1)), (2, (true, x2)), (3, (true, x3)), (4, (true, x4)), (5, (true, x5)), (6, (true, x6)), (7, (true, x7))]) [0, 1, 2, 3, 4, 5, 6, 7] rfl ?_
    exact w_X5_move_82 F hno hnm k6 hk6 x0 x1 x2 x3 x4 x5 x6 x7 0 M h
  · skip
    refine j_iload_n F 3 rfl rfl dX5_move_73 ?_
    refine j_iload_n F 2 rfl rfl dX5_move_74 ?_
    refine j_iload_n F 1 rfl rfl dX5_move_75 ?_
    refine j_isub F dX5_move_76 ?_
    refine j_isub F dX5_move_77 ?_
    refine j_goto F 82 (by decide) dX5_move_78 ?_
    refine j_sub (lv' := [(0, (false, x0)), (1, (true, x1)), (2, (true, x2)), (3, (true, x3)), (4, (true, x4)), (5, (true, x5)), (6, (true, x6)), (7, (true, x7))]) [0, 1, 2, 3, 4, 5, 6, 7] rfl ?_
    exact w_X5_move_82 F hno hnm k6 hk6 x0 x1 x2 x3 x4 x5 x6 x7 (x3 - (x2 - x1)) M h
set_option maxHeartbeats 4000000 in
set_option maxRecDepth 100000 in
theorem w_X5_move_165 {p : Program} {l : Launch} {e : Env} {R : Room} {s : State} {m : MethodId} {args : Array Value} {below : List Frame} {meth : Method} {c : Code} {G : Gt} {ρ0 : Int → Nat} {M0 : Mo} {res : RS} (F : Fx p l R s m args meth c cX5_move 9 RX5 G M0 0 none) (hno : ∀ x ∈ c.exceptionTable.toList, False) (hnm : meth.name = yX5_move.name) (x0 x4 : Int) (M : Mo) (h : X5_move_165 x0 x4 M = some res) : J p l e R s m args below meth c 9 G ρ0 M0 0 res M 165 [(0, (false, x0)), (4, (true, x4))] [] := by
  unfold X5_move_165 at h
  refine j_aload_n F 0 rfl rfl dX5_move_165 ?_
  refine j_iload F 1 rfl dX5_move_166 ?_
  obtain ⟨g1, h⟩ := gua h
  refine j_put (ty := .int) F ft_X5_18 rfl rfl tyX5 tyX5_ok nmX5 (by decide +kernel) (nf_int _) g1 dX5_move_168 ?_
  obtain ⟨M2, hM2⟩ : ∃ Z, Z = sF M 6 1 x0 x4 := ⟨_, rfl⟩
  have kl3 : kle M M2 := by rw [hM2]; exact kle_sF
  rw [← hM2]
  replace h := pt_as h hM2
  exact j_vret F (v := 0) h dX5_move_171
set_option maxHeartbeats 4000000 in
set_option maxRecDepth 100000 in
theorem w_X5_move_6 {p : Program} {l : Launch} {e : Env} {R : Room} {s : State} {m : MethodId} {args : Array Value} {below : List Frame} {meth : Method} {c : Code} {G : Gt} {ρ0 : Int → Nat} {M0 : Mo} {res : RS} (F : Fx p l R s m args meth c cX5_move 9 RX5 G M0 0 none) (hno : ∀ x ∈ c.exceptionTable.toList, False) (hnm : meth.name = yX5_move.name) (n : Nat) : ∀ (x0 x1 x2 x3 x4 x5 : Int) (M : Mo), X5_move_6 n x0 x1 x2 x3 x4 x5 M = some res → J p l e R s m args below meth c 9 G ρ0 M0 0 res M 6 [(0, (false, x0)), (1, (true, x1)), (2, (true, x2)), (3, (true, x3)), (4, (true, x4)), (5, (true, x5))] [] := by
  induction n with
  | zero => intro x0 x1 x2 x3 x4 x5 M h; cases h
  | succ n ih =>
    intro x0 x1 x2 x3 x4 x5 M h
    rw [X5_move_6] at h
    refine j_iload F 5 rfl dX5_move_6 ?_
    refine j_aload_n F 0 rfl rfl dX5_move_8 ?_
    obtain ⟨g1, h⟩ := gua h
    refine j_get F ft_X5_18 rfl g1 dX5_move_9 ?_
    refine j_icmp_ge F 165 (by decide) dX5_move_12 h (fun h => ?_) (fun h => ?_)
    · skip
      refine j_sub (lv' := [(0, (false, x0)), (4, (true, x4))]) [0, 4] rfl ?_
      exact w_X5_move_165 F hno hnm x0 x4 M h
    · skip
      refine j_iconst F dX5_move_15 ?_
      refine j_iload F 5 rfl dX5_move_16 ?_
      refine j_imul F dX5_move_18 ?_
      refine j_iconst F dX5_move_19 ?_
      refine j_iadd F dX5_move_20 ?_
      refine j_aload_n F 0 rfl rfl dX5_move_21 ?_
      refine j_get F ft_X5_13 rfl g1 dX5_move_22 ?_
      obtain ⟨g2, h⟩ := gua h
      refine j_alen F g2 dX5_move_25 ?_
      refine j_icmp_ge F 165 (by decide) dX5_move_26 h (fun h => ?_) (fun h => ?_)
      · skip
        refine j_sub (lv' := [(0, (false, x0)), (4, (true, x4))]) [0, 4] rfl ?_
        exact w_X5_move_165 F hno hnm x0 x4 M h
      · skip
        refine j_aload_n F 0 rfl rfl dX5_move_29 ?_
        refine j_get F ft_X5_13 rfl g1 dX5_move_30 ?_
        refine j_iconst F dX5_move_33 ?_
        refine j_iload F 5 rfl dX5_move_34 ?_
        refine j_imul F dX5_move_36 ?_
        refine j_iconst F dX5_move_37 ?_
        refine j_iadd F dX5_move_38 ?_
        obtain ⟨g3, h⟩ := gua h
        obtain ⟨g4, h⟩ := gua h
        refine j_iaload F g3 g4 dX5_move_39 ?_
        refine j_istore F (lv' := [(6, (true, (el M 0 (fd M 6 0 x0) (wr ((4 * x5) + 1))))), (0, (false, x0)), (1, (true, x1)), (2, (true, x2)), (3, (true, x3)), (4, (true, x4)), (5, (true, x5))]) (by decide) rfl dX5_move_40 ?_
        refine j_aload_n F 1 rfl rfl dX5_move_42 ?_
        refine j_get F ft_X5_13 rfl g1 dX5_move_43 ?_
        refine j_iconst F dX5_move_46 ?_
        refine j_iload F 6 rfl dX5_move_47 ?_
        refine j_imul F dX5_move_49 ?_
        refine j_iconst F dX5_move_50 ?_
        refine j_iadd F dX5_move_51 ?_
        obtain ⟨g5, h⟩ := gua h
        refine j_iaload F g3 g5 dX5_move_52 ?_
        refine j_istore F (lv' := [(7, (true, (el M 0 (fd M 6 0 x0) (wr ((4 * x5) + 2))))), (6, (true, (el M 0 (fd M 6 0 x0) (wr ((4 * x5) + 1))))), (0, (false, x0)), (1, (true, x1)), (2, (true, x2)), (3, (true, x3)), (4, (true, x4)), (5, (true, x5))]) (by decide) rfl dX5_move_53 ?_
        refine j_iload_n F 4 rfl rfl dX5_move_55 ?_
        refine j_iload F 1 rfl dX5_move_56 ?_
        refine j_icmp_le F 67 (by decide) dX5_move_58 h (fun h => ?_) (fun h => ?_)
        · skip
          refine j_sub (lv' := [(0, (false, x0)), (1, (true, x1)), (2, (true, x2)), (3, (true, x3)), (4, (true, x4)), (5, (true, x5)), (6, (true, (el M 0 (fd M 6 0 x0) (wr ((4 * x5) + 1))))), (7, (true, (el M 0 (fd M 6 0 x0) (wr ((4 * x5) + 2)))))]) [2, 3, 4, 5, 6, 7, 1, 0] rfl ?_
          exact w_X5_move_67 F hno hnm (X5_move_6 n) ih x0 x1 x2 x3 x4 x5 (el M 0 (fd M 6 0 x0) (wr ((4 * x5) + 1))) (el M 0 (fd M 6 0 x0) (wr ((4 * x5) + 2))) M h
        · skip
          refine j_iload_n F 3 rfl rfl dX5_move_61 ?_
          refine j_iload F 0 rfl dX5_move_62 ?_
          refine j_icmp_lt F 159 (by decide) dX5_move_64 h (fun h => ?_) (fun h => ?_)
          · skip
            refine j_sub (lv' := [(0, (false, x0)), (1, (true, x1)), (2, (true, x2)), (3, (true, x3)), (4, (true, x4)), (5, (true, x5))]) [2, 3, 4, 5, 6, 7] rfl ?_
            exact w_X5_move_159 F hno hnm (X5_move_6 n) ih x0 x1 x2 x3 x4 x5 M h
          · skip
            refine j_sub (lv' := [(0, (false, x0)), (1, (true, x1)), (2, (true, x2)), (3, (true, x3)), (4, (true, x4)), (5, (true, x5)), (6, (true, (el M 0 (fd M 6 0 x0) (wr ((4 * x5) + 1))))), (7, (true, (el M 0 (fd M 6 0 x0) (wr ((4 * x5) + 2)))))]) [2, 3, 4, 5, 6, 7, 1, 0] rfl ?_
            exact w_X5_move_67 F hno hnm (X5_move_6 n) ih x0 x1 x2 x3 x4 x5 (el M 0 (fd M 6 0 x0) (wr ((4 * x5) + 1))) (el M 0 (fd M 6 0 x0) (wr ((4 * x5) + 2))) M h
set_option maxHeartbeats 4000000 in
set_option maxRecDepth 100000 in
theorem w_X5_move_0 {p : Program} {l : Launch} {e : Env} {R : Room} {s : State} {m : MethodId} {args : Array Value} {below : List Frame} {meth : Method} {c : Code} {G : Gt} {ρ0 : Int → Nat} {M0 : Mo} {res : RS} (F : Fx p l R s m args meth c cX5_move 9 RX5 G M0 0 none) (hno : ∀ x ∈ c.exceptionTable.toList, False) (hnm : meth.name = yX5_move.name) (x0 x1 x2 x3 : Int) (M : Mo) (h : X5_move x0 x1 x2 x3 M = some res) : J p l e R s m args below meth c 9 G ρ0 M0 0 res M 0 [(0, (false, x0)), (1, (true, x1)), (2, (true, x2)), (3, (true, x3))] [] := by
  unfold X5_move at h
  refine j_iconst F dX5_move_0 ?_
  refine j_istore F (lv' := [(4, (true, 0)), (0, (false, x0)), (1, (true, x1)), (2, (true, x2)), (3, (true, x3))]) (by decide) rfl dX5_move_1 ?_
  refine j_iconst F dX5_move_3 ?_
  refine j_istore F (lv' := [(5, (true, 0)), (4, (true, 0)), (0, (false, x0)), (1, (true, x1)), (2, (true, x2)), (3, (true, x3))]) (by decide) rfl dX5_move_4 ?_
  refine j_sub (lv' := [(0, (false, x0)), (1, (true, x1)), (2, (true, x2)), (3, (true, x3)), (4, (true, 0)), (5, (true, 0))]) [2, 3, 4, 5, 1, 0] rfl ?_
  exact w_X5_move_6 F hno hnm FU x0 x1 x2 x3 0 0 M h
theorem c_X5_move (l : Launch) (hl : l.stackTraces = false) (G : Gt) (x0 x1 x2 x3 : Int) (M : Mo) (z : RS) (h : X5_move x0 x1 x2 x3 M = some z) : CT l G yX5_move (cn yX5_move cX5_move 9 none) 0 [(false, x0), (true, x1), (true, x2), (true, x3)] M 0 z :=
  ctOf hl (by decide) (Nat.le_of_ble_eq_true rfl) (fun p e R s m args below meth c ρ F hno hnm => w_X5_move_0 F hno hnm x0 x1 x2 x3 M h)
theorem dX5_isIn_0 : decode cX5_isIn 0 = .ok (.iconst 0, 1) := by decide +kernel
theorem dX5_isIn_1 : decode cX5_isIn 1 = .ok (.istore_n 2, 1) := by decide +kernel
theorem dX5_isIn_2 : decode cX5_isIn 2 = .ok (.iload_n 2, 1) := by decide +kernel
theorem dX5_isIn_3 : decode cX5_isIn 3 = .ok (.aload_n 0, 1) := by decide +kernel
theorem dX5_isIn_4 : decode cX5_isIn 4 = .ok (.getfield 18, 3) := by decide +kernel
theorem dX5_isIn_7 : decode cX5_isIn 7 = .ok (.if_icmp .ge 20, 3) := by decide +kernel
theorem dX5_isIn_27 : decode cX5_isIn 27 = .ok (.iconst 0, 1) := by decide +kernel
theorem dX5_isIn_28 : decode cX5_isIn 28 = .ok (.ireturn, 1) := by decide +kernel
theorem dX5_isIn_10 : decode cX5_isIn 10 = .ok (.aload_n 0, 1) := by decide +kernel
theorem dX5_isIn_11 : decode cX5_isIn 11 = .ok (.iload_n 2, 1) := by decide +kernel
set_option maxRecDepth 100000 in
theorem q877 : Cond.code yX5_fileAt cX5_fileAt 2 (some FieldType.int) ∈ GT := gt 877 (rfl) (by decide +kernel)
theorem M_X5_fileAt : MY yX5_fileAt cX5_fileAt 2 (some FieldType.int) 1 := ⟨q877, q62, by decide +kernel, by decide +kernel⟩
set_option maxRecDepth 100000 in
theorem q875 : Cond.instanceMethod yX5_fileAt ∈ GT := gt 875 (by decide +kernel) (by decide +kernel)
set_option maxRecDepth 100000 in
theorem q876 : Cond.selects RX5 yX5_fileAt yX5_fileAt ∈ GT := gt 876 (by decide +kernel) (by decide +kernel)
set_option maxRecDepth 100000 in
theorem q874 : Cond.methodLink RX5 56 yX5_fileAt ∈ GT := gt 874 (by decide +kernel) (by decide +kernel)
theorem dX5_isIn_12 : decode cX5_isIn 12 = .ok (.invokevirtual 56, 3) := by decide +kernel
theorem dX5_isIn_15 : decode cX5_isIn 15 = .ok (.iload_n 1, 1) := by decide +kernel
theorem dX5_isIn_16 : decode cX5_isIn 16 = .ok (.if_icmp .ne 5, 3) := by decide +kernel
theorem dX5_isIn_21 : decode cX5_isIn 21 = .ok (.iinc 2 1, 3) := by decide +kernel
theorem dX5_isIn_24 : decode cX5_isIn 24 = .ok (.goto (-22), 3) := by decide +kernel
theorem dX5_isIn_19 : decode cX5_isIn 19 = .ok (.iconst 1, 1) := by decide +kernel
theorem dX5_isIn_20 : decode cX5_isIn 20 = .ok (.ireturn, 1) := by decide +kernel
set_option maxHeartbeats 4000000 in
set_option maxRecDepth 100000 in
theorem w_X5_isIn_2 {p : Program} {l : Launch} {e : Env} {R : Room} {s : State} {m : MethodId} {args : Array Value} {below : List Frame} {meth : Method} {c : Code} {G : Gt} {ρ0 : Int → Nat} {M0 : Mo} {res : RS} (F : Fx p l R s m args meth c cX5_isIn 3 RX5 G M0 2 (some FieldType.boolean)) (hno : ∀ x ∈ c.exceptionTable.toList, False) (hnm : meth.name = yX5_isIn.name) (n : Nat) : ∀ (x0 x1 x2 : Int) (M : Mo), X5_isIn_2 n x0 x1 x2 M = some res → J p l e R s m args below meth c 3 G ρ0 M0 1 res M 2 [(0, (false, x0)), (1, (true, x1)), (2, (true, x2))] [] := by
  induction n with
  | zero => intro x0 x1 x2 M h; cases h
  | succ n ih =>
    intro x0 x1 x2 M h
    rw [X5_isIn_2] at h
    refine j_iload_n F 2 rfl rfl dX5_isIn_2 ?_
    refine j_aload_n F 0 rfl rfl dX5_isIn_3 ?_
    obtain ⟨g1, h⟩ := gua h
    refine j_get F ft_X5_18 rfl g1 dX5_isIn_4 ?_
    refine j_icmp_ge F 27 (by decide) dX5_isIn_7 h (fun h => ?_) (fun h => ?_)
    · skip
      refine j_iconst F dX5_isIn_27 ?_
      exact j_zret F (by decide) h dX5_isIn_28
    · skip
      refine j_aload_n F 0 rfl rfl dX5_isIn_10 ?_
      refine j_iload_n F 2 rfl rfl dX5_isIn_11 ?_
      refine j_callV (d' := 1) (argl := [(true, x2)]) (rk9 := 1) (st := []) F hno M_X5_fileAt q875 q876 q874 ⟨by decide, by decide⟩ (Nat.le_of_ble_eq_true rfl) (by decide) (ci := 6) rfl (by decide) g1 dX5_isIn_12 rfl h (fun z hz => c_X5_fileAt l F.ht G x0 x2 M z hz) (fun v2 M3 h kl4 => ?_)
      refine j_st (st' := [(true, v2)]) rfl ?_
      refine j_iload_n F 1 rfl rfl dX5_isIn_15 ?_
      refine j_icmp_ne F 21 (by decide) dX5_isIn_16 h (fun h => ?_) (fun h => ?_)
      · skip
        refine j_iinc F 2 (lv' := [(2, (true, (x2 + 1))), (0, (false, x0)), (1, (true, x1))]) rfl (by decide) rfl dX5_isIn_21 ?_
        refine j_goto F 2 (by decide) dX5_isIn_24 ?_
        refine j_sub (lv' := [(0, (false, x0)), (1, (true, x1)), (2, (true, (x2 + 1)))]) [1, 2, 0] rfl ?_
        exact ih x0 x1 (x2 + 1) M3 h
      · skip
        refine j_iconst F dX5_isIn_19 ?_
        exact j_zret F (by decide) h dX5_isIn_20
set_option maxHeartbeats 4000000 in
set_option maxRecDepth 100000 in
theorem w_X5_isIn_0 {p : Program} {l : Launch} {e : Env} {R : Room} {s : State} {m : MethodId} {args : Array Value} {below : List Frame} {meth : Method} {c : Code} {G : Gt} {ρ0 : Int → Nat} {M0 : Mo} {res : RS} (F : Fx p l R s m args meth c cX5_isIn 3 RX5 G M0 2 (some FieldType.boolean)) (hno : ∀ x ∈ c.exceptionTable.toList, False) (hnm : meth.name = yX5_isIn.name) (x0 x1 : Int) (M : Mo) (h : X5_isIn x0 x1 M = some res) : J p l e R s m args below meth c 3 G ρ0 M0 1 res M 0 [(0, (false, x0)), (1, (true, x1))] [] := by
  unfold X5_isIn at h
  refine j_iconst F dX5_isIn_0 ?_
  refine j_istore_n F (lv' := [(2, (true, 0)), (0, (false, x0)), (1, (true, x1))]) rfl (by decide) rfl dX5_isIn_1 ?_
  refine j_sub (lv' := [(0, (false, x0)), (1, (true, x1)), (2, (true, 0))]) [1, 2, 0] rfl ?_
  exact w_X5_isIn_2 F hno hnm FU x0 x1 0 M h
theorem c_X5_isIn (l : Launch) (hl : l.stackTraces = false) (G : Gt) (x0 x1 : Int) (M : Mo) (z : RS) (h : X5_isIn x0 x1 M = some z) : CT l G yX5_isIn (cn yX5_isIn cX5_isIn 3 (some FieldType.boolean)) 2 [(false, x0), (true, x1)] M 1 z :=
  ctOf hl (by decide) (Nat.le_of_ble_eq_true rfl) (fun p e R s m args below meth c ρ F hno hnm => w_X5_isIn_0 F hno hnm x0 x1 M h)
theorem dX5_takeAll_0 : decode cX5_takeAll 0 = .ok (.iconst 4, 1) := by decide +kernel
theorem dX5_takeAll_1 : decode cX5_takeAll 1 = .ok (.aload_n 1, 1) := by decide +kernel
theorem dX5_takeAll_2 : decode cX5_takeAll 2 = .ok (.getfield 18, 3) := by decide +kernel
theorem dX5_takeAll_5 : decode cX5_takeAll 5 = .ok (.imul, 1) := by decide +kernel
theorem dX5_takeAll_6 : decode cX5_takeAll 6 = .ok (.istore_n 2, 1) := by decide +kernel
theorem dX5_takeAll_7 : decode cX5_takeAll 7 = .ok (.iload_n 2, 1) := by decide +kernel
theorem dX5_takeAll_8 : decode cX5_takeAll 8 = .ok (.aload_n 0, 1) := by decide +kernel
theorem dX5_takeAll_9 : decode cX5_takeAll 9 = .ok (.getfield 13, 3) := by decide +kernel
theorem dX5_takeAll_12 : decode cX5_takeAll 12 = .ok (.arraylength, 1) := by decide +kernel
theorem dX5_takeAll_13 : decode cX5_takeAll 13 = .ok (.if_icmp .le 21, 3) := by decide +kernel
theorem dX5_takeAll_16 : decode cX5_takeAll 16 = .ok (.iload_n 2, 1) := by decide +kernel
theorem dX5_takeAll_17 : decode cX5_takeAll 17 = .ok (.ldc 30, 2) := by decide +kernel
theorem dX5_takeAll_19 : decode cX5_takeAll 19 = .ok (.if_icmp .gt 15, 3) := by decide +kernel
theorem dX5_takeAll_22 : decode cX5_takeAll 22 = .ok (.aload_n 0, 1) := by decide +kernel
theorem dX5_takeAll_23 : decode cX5_takeAll 23 = .ok (.aload_n 0, 1) := by decide +kernel
theorem dX5_takeAll_24 : decode cX5_takeAll 24 = .ok (.getfield 13, 3) := by decide +kernel
theorem dX5_takeAll_27 : decode cX5_takeAll 27 = .ok (.iload_n 2, 1) := by decide +kernel
theorem dX5_takeAll_28 : decode cX5_takeAll 28 = .ok (.invokestatic 31, 3) := by decide +kernel
theorem dX5_takeAll_31 : decode cX5_takeAll 31 = .ok (.putfield 13, 3) := by decide +kernel
theorem dX5_takeAll_34 : decode cX5_takeAll 34 = .ok (.iload_n 2, 1) := by decide +kernel
theorem dX5_takeAll_35 : decode cX5_takeAll 35 = .ok (.ifCond .lt 43, 3) := by decide +kernel
theorem dX5_takeAll_78 : decode cX5_takeAll 78 = .ok (.return_, 1) := by decide +kernel
theorem dX5_takeAll_38 : decode cX5_takeAll 38 = .ok (.iload_n 2, 1) := by decide +kernel
theorem dX5_takeAll_39 : decode cX5_takeAll 39 = .ok (.aload_n 0, 1) := by decide +kernel
theorem dX5_takeAll_40 : decode cX5_takeAll 40 = .ok (.getfield 13, 3) := by decide +kernel
theorem dX5_takeAll_43 : decode cX5_takeAll 43 = .ok (.arraylength, 1) := by decide +kernel
theorem dX5_takeAll_44 : decode cX5_takeAll 44 = .ok (.if_icmp .gt 34, 3) := by decide +kernel
theorem dX5_takeAll_47 : decode cX5_takeAll 47 = .ok (.iload_n 2, 1) := by decide +kernel
theorem dX5_takeAll_48 : decode cX5_takeAll 48 = .ok (.aload_n 1, 1) := by decide +kernel
theorem dX5_takeAll_49 : decode cX5_takeAll 49 = .ok (.getfield 13, 3) := by decide +kernel
theorem dX5_takeAll_52 : decode cX5_takeAll 52 = .ok (.arraylength, 1) := by decide +kernel
theorem dX5_takeAll_53 : decode cX5_takeAll 53 = .ok (.if_icmp .gt 25, 3) := by decide +kernel
theorem dX5_takeAll_56 : decode cX5_takeAll 56 = .ok (.aload_n 1, 1) := by decide +kernel
theorem dX5_takeAll_57 : decode cX5_takeAll 57 = .ok (.getfield 13, 3) := by decide +kernel
theorem dX5_takeAll_60 : decode cX5_takeAll 60 = .ok (.iconst 0, 1) := by decide +kernel
theorem dX5_takeAll_61 : decode cX5_takeAll 61 = .ok (.aload_n 0, 1) := by decide +kernel
theorem dX5_takeAll_62 : decode cX5_takeAll 62 = .ok (.getfield 13, 3) := by decide +kernel
theorem dX5_takeAll_65 : decode cX5_takeAll 65 = .ok (.iconst 0, 1) := by decide +kernel
theorem dX5_takeAll_66 : decode cX5_takeAll 66 = .ok (.iload_n 2, 1) := by decide +kernel
theorem dX5_takeAll_67 : decode cX5_takeAll 67 = .ok (.invokestatic 37, 3) := by decide +kernel
theorem dX5_takeAll_70 : decode cX5_takeAll 70 = .ok (.aload_n 0, 1) := by decide +kernel
theorem dX5_takeAll_71 : decode cX5_takeAll 71 = .ok (.aload_n 1, 1) := by decide +kernel
theorem dX5_takeAll_72 : decode cX5_takeAll 72 = .ok (.getfield 18, 3) := by decide +kernel
theorem dX5_takeAll_75 : decode cX5_takeAll 75 = .ok (.putfield 18, 3) := by decide +kernel
set_option maxHeartbeats 4000000 in
set_option maxRecDepth 100000 in
theorem w_X5_takeAll_34 {p : Program} {l : Launch} {e : Env} {R : Room} {s : State} {m : MethodId} {args : Array Value} {below : List Frame} {meth : Method} {c : Code} {G : Gt} {ρ0 : Int → Nat} {M0 : Mo} {res : RS} (F : Fx p l R s m args meth c cX5_takeAll 3 RX5 G M0 2 none) (hno : ∀ x ∈ c.exceptionTable.toList, False) (hnm : meth.name = yX5_takeAll.name) (x0 x1 x2 : Int) (M : Mo) (h : X5_takeAll_34 x0 x1 x2 M = some res) : J p l e R s m args below meth c 3 G ρ0 M0 0 res M 34 [(0, (false, x0)), (1, (false, x1)), (2, (true, x2))] [] := by
  unfold X5_takeAll_34 at h
  refine j_iload_n F 2 rfl rfl dX5_takeAll_34 ?_
  refine j_if_lt F 78 (by decide) dX5_takeAll_35 h (fun h => ?_) (fun h => ?_)
  · skip
    exact j_vret F (v := 0) h dX5_takeAll_78
  · skip
    refine j_iload_n F 2 rfl rfl dX5_takeAll_38 ?_
    refine j_aload_n F 0 rfl rfl dX5_takeAll_39 ?_
    obtain ⟨g1, h⟩ := gua h
    refine j_get F ft_X5_13 rfl g1 dX5_takeAll_40 ?_
    obtain ⟨g2, h⟩ := gua h
    refine j_alen F g2 dX5_takeAll_43 ?_
    refine j_icmp_gt F 78 (by decide) dX5_takeAll_44 h (fun h => ?_) (fun h => ?_)
    · skip
      exact j_vret F (v := 0) h dX5_takeAll_78
    · skip
      refine j_iload_n F 2 rfl rfl dX5_takeAll_47 ?_
      refine j_aload_n F 1 rfl rfl dX5_takeAll_48 ?_
      obtain ⟨g3, h⟩ := gua h
      refine j_get F ft_X5_13 rfl g3 dX5_takeAll_49 ?_
      obtain ⟨g4, h⟩ := gua h
      refine j_alen F g4 dX5_takeAll_52 ?_
      refine j_icmp_gt F 78 (by decide) dX5_takeAll_53 h (fun h => ?_) (fun h => ?_)
      · skip
        exact j_vret F (v := 0) h dX5_takeAll_78
      · skip
        refine j_aload_n F 1 rfl rfl dX5_takeAll_56 ?_
        refine j_get F ft_X5_13 rfl g3 dX5_takeAll_57 ?_
        refine j_iconst F dX5_takeAll_60 ?_
        refine j_aload_n F 0 rfl rfl dX5_takeAll_61 ?_
        refine j_get F ft_X5_13 rfl g1 dX5_takeAll_62 ?_
        refine j_iconst F dX5_takeAll_65 ?_
        refine j_iload_n F 2 rfl rfl dX5_takeAll_66 ?_
        obtain ⟨g5, h⟩ := gua h
        obtain ⟨g6, h⟩ := gua h
        obtain ⟨g7, h⟩ := gua h
        refine j_copyI F ⟨q1161, q574, q573, q71⟩ g5 g6 g7 (by decide) (Nat.le_of_ble_eq_true rfl) dX5_takeAll_67 ?_
        obtain ⟨M8, hM8⟩ : ∃ Z, Z = cpE M 0 (fd M 6 0 x1) (wr 0) (fd M 6 0 x0) (wr 0) (wr x2) := ⟨_, rfl⟩
        have kl9 : kle M M8 := by rw [hM8]; exact kle_cpE
        rw [← hM8]
        replace h := pt_as h hM8
        refine j_aload_n F 0 rfl rfl dX5_takeAll_70 ?_
        refine j_aload_n F 1 rfl rfl dX5_takeAll_71 ?_
        refine j_get F ft_X5_18 rfl (kl9.is g3) dX5_takeAll_72 ?_
        refine j_put (ty := .int) F ft_X5_18 rfl rfl tyX5 tyX5_ok nmX5 (by decide +kernel) (nf_int _) (kl9.is g1) dX5_takeAll_75 ?_
        obtain ⟨M10, hM10⟩ : ∃ Z, Z = sF M8 6 1 x0 (fd M8 6 1 x1) := ⟨_, rfl⟩
        have kl11 : kle M8 M10 := by rw [hM10]; exact kle_sF
        rw [← hM10]
        replace h := pt_as h hM10
        exact j_vret F (v := 0) h dX5_takeAll_78
set_option maxHeartbeats 4000000 in
set_option maxRecDepth 100000 in
theorem w_X5_takeAll_0 {p : Program} {l : Launch} {e : Env} {R : Room} {s : State} {m : MethodId} {args : Array Value} {below : List Frame} {meth : Method} {c : Code} {G : Gt} {ρ0 : Int → Nat} {M0 : Mo} {res : RS} (F : Fx p l R s m args meth c cX5_takeAll 3 RX5 G M0 2 none) (hno : ∀ x ∈ c.exceptionTable.toList, False) (hnm : meth.name = yX5_takeAll.name) (x0 x1 : Int) (M : Mo) (h : X5_takeAll x0 x1 M = some res) : J p l e R s m args below meth c 3 G ρ0 M0 0 res M 0 [(0, (false, x0)), (1, (false, x1))] [] := by
  unfold X5_takeAll at h
  refine j_iconst F dX5_takeAll_0 ?_
  refine j_aload_n F 1 rfl rfl dX5_takeAll_1 ?_
  obtain ⟨g1, h⟩ := gua h
  refine j_get F ft_X5_18 rfl g1 dX5_takeAll_2 ?_
  refine j_imul F dX5_takeAll_5 ?_
  refine j_istore_n F (lv' := [(2, (true, (4 * (fd M 6 1 x1)))), (0, (false, x0)), (1, (false, x1))]) rfl (by decide) rfl dX5_takeAll_6 ?_
  refine j_iload_n F 0 rfl rfl dX5_takeAll_7 ?_
  refine j_aload_n F 1 rfl rfl dX5_takeAll_8 ?_
  obtain ⟨g2, h⟩ := gua h
  refine j_get F ft_X5_13 rfl g2 dX5_takeAll_9 ?_
  obtain ⟨g3, h⟩ := gua h
  refine j_alen F g3 dX5_takeAll_12 ?_
  refine j_icmp_le F 34 (by decide) dX5_takeAll_13 h (fun h => ?_) (fun h => ?_)
  · skip
    refine j_sub (lv' := [(0, (false, x0)), (1, (false, x1)), (2, (true, (4 * (fd M 6 1 x1))))]) [1, 2, 0] rfl ?_
    exact w_X5_takeAll_34 F hno hnm x0 x1 (4 * (fd M 6 1 x1)) M h
  · skip
    refine j_iload_n F 0 rfl rfl dX5_takeAll_16 ?_
    refine j_ldc (n := 1000000) F q1159 dX5_takeAll_17 ?_
    refine j_icmp_gt F 34 (by decide) dX5_takeAll_19 h (fun h => ?_) (fun h => ?_)
    · skip
      refine j_sub (lv' := [(0, (false, x0)), (1, (false, x1)), (2, (true, (4 * (fd M 6 1 x1))))]) [1, 2, 0] rfl ?_
      exact w_X5_takeAll_34 F hno hnm x0 x1 (4 * (fd M 6 1 x1)) M h
    · skip
      refine j_aload_n F 1 rfl rfl dX5_takeAll_22 ?_
      refine j_aload_n F 1 rfl rfl dX5_takeAll_23 ?_
      refine j_get F ft_X5_13 rfl g2 dX5_takeAll_24 ?_
      refine j_iload_n F 0 rfl rfl dX5_takeAll_27 ?_
      refine j_callS (d' := 1) (argl := [(false, (fd M 6 0 x0)), (true, (4 * (fd M 6 1 x1)))]) (rk9 := 2) (st := [(false, x0)]) F hno M_J7_copyOf_59c91 q921 q1160 ⟨by decide, by decide⟩ (Nat.le_of_ble_eq_true rfl) (by decide) dX5_takeAll_28 rfl h (fun z hz => c_J7_copyOf_59c91 l F.ht G (fd M 6 0 x0) (4 * (fd M 6 1 x1)) M z hz) (fun v4 M5 h kl6 => ?_)
      refine j_st (st' := [(false, v4), (false, x0)]) rfl ?_
      refine j_put (ty := .array .int) F ft_X5_13 rfl rfl tyX5 tyX5_ok nmX5 (by decide +kernel) (nf_ref (Or.inr ⟨_, rfl⟩) _) (kl6.is g2) dX5_takeAll_31 ?_
      obtain ⟨M7, hM7⟩ : ∃ Z, Z = sF M5 6 0 x0 v4 := ⟨_, rfl⟩
      have kl8 : kle M5 M7 := by rw [hM7]; exact kle_sF
      rw [← hM7]
      replace h := pt_as h hM7
      refine j_sub (lv' := [(0, (false, x0)), (1, (false, x1)), (2, (true, (4 * (fd M 6 1 x1))))]) [1, 2, 0] rfl ?_
      exact w_X5_takeAll_34 F hno hnm x0 x1 (4 * (fd M 6 1 x1)) M7 h
theorem c_X5_takeAll (l : Launch) (hl : l.stackTraces = false) (G : Gt) (x0 x1 : Int) (M : Mo) (z : RS) (h : X5_takeAll x0 x1 M = some z) : CT l G yX5_takeAll (cn yX5_takeAll cX5_takeAll 3 none) 2 [(false, x0), (false, x1)] M 0 z :=
  ctOf hl (by decide) (Nat.le_of_ble_eq_true rfl) (fun p e R s m args below meth c ρ F hno hnm => w_X5_takeAll_0 F hno hnm x0 x1 M h)
theorem dfX5 : ∀ j, j < 2 → defaultValue (tyX5 j) = vp_V ((lay 6).map (fun b => if b then Value.int 0 else .null)) j := by decide +kernel
set_option maxRecDepth 100000 in
theorem q1198 : Cond.classLink RX5 14 RX5 ∈ GT := gt 1198 (by decide +kernel) (by decide +kernel)
set_option maxRecDepth 100000 in
theorem q226 : Cond.instantiable RX5 2 ∈ GT := gt 226 (by decide +kernel) (by decide +kernel)
theorem dX5_copied_0 : decode cX5_copied 0 = .ok (.new 14, 3) := by decide +kernel
theorem dX5_copied_3 : decode cX5_copied 3 = .ok (.dup, 1) := by decide +kernel
set_option maxRecDepth 100000 in
theorem q229 : Cond.code yX5_init cX5_init 1 none ∈ GT := gt 229 (rfl) (by decide +kernel)
theorem M_X5_init : MY yX5_init cX5_init 1 none 0 := ⟨q229, q62, by decide +kernel, by decide +kernel⟩
set_option maxRecDepth 100000 in
theorem q228 : Cond.instanceMethod yX5_init ∈ GT := gt 228 (by decide +kernel) (by decide +kernel)
set_option maxRecDepth 100000 in
theorem q1199 : Cond.methodLink RX5 59 yX5_init ∈ GT := gt 1199 (by decide +kernel) (by decide +kernel)
theorem dX5_copied_4 : decode cX5_copied 4 = .ok (.invokespecial 59, 3) := by decide +kernel
theorem dX5_copied_7 : decode cX5_copied 7 = .ok (.astore_n 1, 1) := by decide +kernel
theorem dX5_copied_8 : decode cX5_copied 8 = .ok (.aload_n 0, 1) := by decide +kernel
theorem dX5_copied_9 : decode cX5_copied 9 = .ok (.getfield 18, 3) := by decide +kernel
theorem dX5_copied_12 : decode cX5_copied 12 = .ok (.ifCond .le 42, 3) := by decide +kernel
theorem dX5_copied_54 : decode cX5_copied 54 = .ok (.aload_n 1, 1) := by decide +kernel
theorem dX5_copied_55 : decode cX5_copied 55 = .ok (.areturn, 1) := by decide +kernel
theorem dX5_copied_15 : decode cX5_copied 15 = .ok (.iconst 4, 1) := by decide +kernel
theorem dX5_copied_16 : decode cX5_copied 16 = .ok (.aload_n 0, 1) := by decide +kernel
theorem dX5_copied_17 : decode cX5_copied 17 = .ok (.getfield 18, 3) := by decide +kernel
theorem dX5_copied_20 : decode cX5_copied 20 = .ok (.imul, 1) := by decide +kernel
theorem dX5_copied_21 : decode cX5_copied 21 = .ok (.aload_n 0, 1) := by decide +kernel
theorem dX5_copied_22 : decode cX5_copied 22 = .ok (.getfield 13, 3) := by decide +kernel
theorem dX5_copied_25 : decode cX5_copied 25 = .ok (.arraylength, 1) := by decide +kernel
theorem dX5_copied_26 : decode cX5_copied 26 = .ok (.if_icmp .gt 28, 3) := by decide +kernel
theorem dX5_copied_29 : decode cX5_copied 29 = .ok (.aload_n 1, 1) := by decide +kernel
theorem dX5_copied_30 : decode cX5_copied 30 = .ok (.aload_n 0, 1) := by decide +kernel
theorem dX5_copied_31 : decode cX5_copied 31 = .ok (.getfield 13, 3) := by decide +kernel
theorem dX5_copied_34 : decode cX5_copied 34 = .ok (.iconst 4, 1) := by decide +kernel
theorem dX5_copied_35 : decode cX5_copied 35 = .ok (.aload_n 0, 1) := by decide +kernel
theorem dX5_copied_36 : decode cX5_copied 36 = .ok (.getfield 18, 3) := by decide +kernel
theorem dX5_copied_39 : decode cX5_copied 39 = .ok (.imul, 1) := by decide +kernel
theorem dX5_copied_40 : decode cX5_copied 40 = .ok (.invokestatic 31, 3) := by decide +kernel
theorem dX5_copied_43 : decode cX5_copied 43 = .ok (.putfield 13, 3) := by decide +kernel
theorem dX5_copied_46 : decode cX5_copied 46 = .ok (.aload_n 1, 1) := by decide +kernel
theorem dX5_copied_47 : decode cX5_copied 47 = .ok (.aload_n 0, 1) := by decide +kernel
theorem dX5_copied_48 : decode cX5_copied 48 = .ok (.getfield 18, 3) := by decide +kernel
theorem dX5_copied_51 : decode cX5_copied 51 = .ok (.putfield 18, 3) := by decide +kernel
set_option maxHeartbeats 4000000 in
set_option maxRecDepth 100000 in
theorem w_X5_copied_0 {p : Program} {l : Launch} {e : Env} {R : Room} {s : State} {m : MethodId} {args : Array Value} {below : List Frame} {meth : Method} {c : Code} {G : Gt} {ρ0 : Int → Nat} {M0 : Mo} {res : RS} (F : Fx p l R s m args meth c cX5_copied 2 RX5 G M0 2 (some (FieldType.object "ToolPlex$Items"))) (hno : ∀ x ∈ c.exceptionTable.toList, False) (hnm : meth.name = yX5_copied.name) (x0 : Int) (M : Mo) (h : X5_copied x0 M = some res) : J p l e R s m args below meth c 2 G ρ0 M0 2 res M 0 [(0, (false, x0))] [] := by
  unfold X5_copied at h
  obtain ⟨g1, h⟩ := gua h
  refine j_new (ci := 6) F inGX5 tyX5 tyX5_ok q1198 q226 q62 rfl (by decide) dfX5 g1 dX5_copied_0 (fun kl2 => ?_)
  obtain ⟨M3, hM3⟩ : ∃ Z, Z = nO M 6 2 := ⟨_, rfl⟩
  have g4 : kd M3 (nid M) = 7 := by rw [hM3]; exact kd_nO
  rw [← hM3] at kl2 ⊢
  replace h := pt_as h hM3
  refine j_dup F dX5_copied_3 ?_
  refine j_callI (d' := 1) (argl := []) (rk9 := 0) (st := [(false, (nid M))]) F M_X5_init q228 rfl q1199 ⟨by decide, by decide⟩ (Nat.le_of_ble_eq_true rfl) (by decide) (by rw [g4]; decide) dX5_copied_4 rfl h (fun z hz => c_X5_init l F.ht G (nid M) M3 z hz) (fun v5 M6 h kl7 => ?_)
  refine j_st (st' := [(false, (nid M))]) rfl ?_
  refine j_astore_n F (lv' := [(1, (false, (nid M))), (0, (false, x0))]) rfl (by decide) rfl dX5_copied_7 ?_
  refine j_aload_n F 1 rfl rfl dX5_copied_8 ?_
  obtain ⟨g8, h⟩ := gua h
  refine j_get F ft_X5_18 rfl g8 dX5_copied_9 ?_
  refine j_if_le F 54 (by decide) dX5_copied_12 h (fun h => ?_) (fun h => ?_)
  · skip
    refine j_aload_n F 0 rfl rfl dX5_copied_54 ?_
    exact j_aret F (Or.inl ⟨_, rfl⟩) h dX5_copied_55
  · skip
    refine j_iconst F dX5_copied_15 ?_
    refine j_aload_n F 1 rfl rfl dX5_copied_16 ?_
    refine j_get F ft_X5_18 rfl g8 dX5_copied_17 ?_
    refine j_imul F dX5_copied_20 ?_
    refine j_aload_n F 1 rfl rfl dX5_copied_21 ?_
    refine j_get F ft_X5_13 rfl g8 dX5_copied_22 ?_
    obtain ⟨g9, h⟩ := gua h
    refine j_alen F g9 dX5_copied_25 ?_
    refine j_icmp_gt F 54 (by decide) dX5_copied_26 h (fun h => ?_) (fun h => ?_)
    · skip
      refine j_aload_n F 0 rfl rfl dX5_copied_54 ?_
      exact j_aret F (Or.inl ⟨_, rfl⟩) h dX5_copied_55
    · skip
      refine j_aload_n F 0 rfl rfl dX5_copied_29 ?_
      refine j_aload_n F 1 rfl rfl dX5_copied_30 ?_
      refine j_get F ft_X5_13 rfl g8 dX5_copied_31 ?_
      refine j_iconst F dX5_copied_34 ?_
      refine j_aload_n F 1 rfl rfl dX5_copied_35 ?_
      refine j_get F ft_X5_18 rfl g8 dX5_copied_36 ?_
      refine j_imul F dX5_copied_39 ?_
      refine j_callS (d' := 1) (argl := [(false, (fd M6 6 0 x0)), (true, (4 * (fd M6 6 1 x0)))]) (rk9 := 2) (st := [(false, (nid M))]) F hno M_J7_copyOf_59c91 q921 q1160 ⟨by decide, by decide⟩ (Nat.le_of_ble_eq_true rfl) (by decide) dX5_copied_40 rfl h (fun z hz => c_J7_copyOf_59c91 l F.ht G (fd M6 6 0 x0) (4 * (fd M6 6 1 x0)) M6 z hz) (fun v10 M11 h kl12 => ?_)
      refine j_st (st' := [(false, v10), (false, (nid M))]) rfl ?_
      refine j_put (ty := .array .int) F ft_X5_13 rfl rfl tyX5 tyX5_ok nmX5 (by decide +kernel) (nf_ref (Or.inr ⟨_, rfl⟩) _) (kl12.is (kl7.is g4)) dX5_copied_43 ?_
      obtain ⟨M13, hM13⟩ : ∃ Z, Z = sF M11 6 0 (nid M) v10 := ⟨_, rfl⟩
      have kl14 : kle M11 M13 := by rw [hM13]; exact kle_sF
      rw [← hM13]
      replace h := pt_as h hM13
      refine j_aload_n F 0 rfl rfl dX5_copied_46 ?_
      refine j_aload_n F 1 rfl rfl dX5_copied_47 ?_
      refine j_get F ft_X5_18 rfl (kl14.is (kl12.is g8)) dX5_copied_48 ?_
      refine j_put (ty := .int) F ft_X5_18 rfl rfl tyX5 tyX5_ok nmX5 (by decide +kernel) (nf_int _) (kl14.is (kl12.is (kl7.is g4))) dX5_copied_51 ?_
      obtain ⟨M15, hM15⟩ : ∃ Z, Z = sF M13 6 1 (nid M) (fd M13 6 1 x0) := ⟨_, rfl⟩
      have kl16 : kle M13 M15 := by rw [hM15]; exact kle_sF
      rw [← hM15]
      replace h := pt_as h hM15
      refine j_aload_n F 0 rfl rfl dX5_copied_54 ?_
      exact j_aret F (Or.inl ⟨_, rfl⟩) h dX5_copied_55
theorem c_X5_copied (l : Launch) (hl : l.stackTraces = false) (G : Gt) (x0 : Int) (M : Mo) (z : RS) (h : X5_copied x0 M = some z) : CT l G yX5_copied (cn yX5_copied cX5_copied 2 (some (FieldType.object "ToolPlex$Items"))) 2 [(false, x0)] M 2 z :=
  ctOf hl (by decide) (Nat.le_of_ble_eq_true rfl) (fun p e R s m args below meth c ρ F hno hnm => w_X5_copied_0 F hno hnm x0 M h)
