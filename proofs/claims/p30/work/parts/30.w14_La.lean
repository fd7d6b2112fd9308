theorem dL_part_0 : decode cL_part 0 = .ok (.iload_n 1, 1) := by decide +kernel
theorem dL_part_1 : decode cL_part 1 = .ok (.aload_n 0, 1) := by decide +kernel
theorem dL_part_2 : decode cL_part 2 = .ok (.arraylength, 1) := by decide +kernel
theorem dL_part_3 : decode cL_part 3 = .ok (.if_icmp .ge 9, 3) := by decide +kernel
theorem dL_part_12 : decode cL_part 12 = .ok (.sipush 607, 3) := by decide +kernel
theorem dL_part_15 : decode cL_part 15 = .ok (.iload_n 1, 1) := by decide +kernel
theorem dL_part_16 : decode cL_part 16 = .ok (.imul, 1) := by decide +kernel
theorem dL_part_17 : decode cL_part 17 = .ok (.sipush 461, 3) := by decide +kernel
theorem dL_part_20 : decode cL_part 20 = .ok (.iload_n 1, 1) := by decide +kernel
theorem dL_part_21 : decode cL_part 21 = .ok (.imul, 1) := by decide +kernel
theorem dL_part_22 : decode cL_part 22 = .ok (.iload_n 1, 1) := by decide +kernel
theorem dL_part_23 : decode cL_part 23 = .ok (.imul, 1) := by decide +kernel
theorem dL_part_24 : decode cL_part 24 = .ok (.iadd, 1) := by decide +kernel
theorem dL_part_6 : decode cL_part 6 = .ok (.aload_n 0, 1) := by decide +kernel
theorem dL_part_7 : decode cL_part 7 = .ok (.iload_n 1, 1) := by decide +kernel
theorem dL_part_8 : decode cL_part 8 = .ok (.iaload, 1) := by decide +kernel
theorem dL_part_9 : decode cL_part 9 = .ok (.goto 16, 3) := by decide +kernel
theorem dL_part_25 : decode cL_part 25 = .ok (.istore_n 3, 1) := by decide +kernel
theorem dL_part_26 : decode cL_part 26 = .ok (.iload_n 3, 1) := by decide +kernel
set_option maxRecDepth 100000 in
theorem q609 : Cond.constant RL 7 (iI (2147483647)) ∈ GT := gt 609 (by decide +kernel) (by decide +kernel)
theorem dL_part_27 : decode cL_part 27 = .ok (.ldc 7, 2) := by decide +kernel
theorem dL_part_29 : decode cL_part 29 = .ok (.iand, 1) := by decide +kernel
theorem dL_part_30 : decode cL_part 30 = .ok (.iload_n 2, 1) := by decide +kernel
theorem dL_part_31 : decode cL_part 31 = .ok (.irem, 1) := by decide +kernel
theorem dL_part_32 : decode cL_part 32 = .ok (.ireturn, 1) := by decide +kernel
set_option maxHeartbeats 4000000 in
set_option maxRecDepth 100000 in
theorem w_L_part_25 {p : Program} {l : Launch} {e : Env} {R : Room} {s : State} {m : MethodId} {args : Array Value} {below : List Frame} {meth : Method} {c : Code} {G : Gt} {ρ0 : Int → Nat} {M0 : Mo} {res : RS} (F : Fx p l R s m args meth c cL_part 4 RL G M0 0 (some FieldType.int)) (hno : ∀ x ∈ c.exceptionTable.toList, False) (hnm : meth.name = yL_part.name) (x2 y0 : Int) (M : Mo) (h : L_part_25 x2 y0 M = some res) : J p l e R s m args below meth c 4 G ρ0 M0 1 res M 25 [(2, (true, x2))] [(true, y0)] := by
  unfold L_part_25 at h
  refine j_istore_n F (lv' := [(3, (true, y0)), (2, (true, x2))]) rfl (by decide) rfl dL_part_25 ?_
  refine j_iload_n F 0 rfl rfl dL_part_26 ?_
  refine j_ldc (n := 2147483647) F q609 dL_part_27 ?_
  refine j_iand F dL_part_29 ?_
  refine j_iload_n F 1 rfl rfl dL_part_30 ?_
  obtain ⟨g1, h⟩ := gua h
  refine j_irem F (fun q9 => g1 ((wr_eq _ 0).mp q9 |>.trans wr_0)) dL_part_31 ?_
  exact j_iret F h dL_part_32
set_option maxHeartbeats 4000000 in
set_option maxRecDepth 100000 in
theorem w_L_part_0 {p : Program} {l : Launch} {e : Env} {R : Room} {s : State} {m : MethodId} {args : Array Value} {below : List Frame} {meth : Method} {c : Code} {G : Gt} {ρ0 : Int → Nat} {M0 : Mo} {res : RS} (F : Fx p l R s m args meth c cL_part 4 RL G M0 0 (some FieldType.int)) (hno : ∀ x ∈ c.exceptionTable.toList, False) (hnm : meth.name = yL_part.name) (x0 x1 x2 : Int) (M : Mo) (h : L_part x0 x1 x2 M = some res) : J p l e R s m args below meth c 4 G ρ0 M0 1 res M 0 [(0, (false, x0)), (1, (true, x1)), (2, (true, x2))] [] := by
  unfold L_part at h
  refine j_iload_n F 1 rfl rfl dL_part_0 ?_
  refine j_aload_n F 0 rfl rfl dL_part_1 ?_
  obtain ⟨g1, h⟩ := gua h
  refine j_alen F g1 dL_part_2 ?_
  refine j_icmp_ge F 12 (by decide) dL_part_3 h (fun h => ?_) (fun h => ?_)
  · skip
    refine j_sipush F (by decide) dL_part_12 ?_
    refine j_iload_n F 1 rfl rfl dL_part_15 ?_
    refine j_imul F dL_part_16 ?_
    refine j_sipush F (by decide) dL_part_17 ?_
    refine j_iload_n F 1 rfl rfl dL_part_20 ?_
    refine j_imul F dL_part_21 ?_
    refine j_iload_n F 1 rfl rfl dL_part_22 ?_
    refine j_imul F dL_part_23 ?_
    refine j_iadd F dL_part_24 ?_
    refine j_sub (lv' := [(2, (true, x2))]) [2] rfl ?_
    exact w_L_part_25 F hno hnm x2 ((607 * x1) + ((461 * x1) * x1)) M h
  · skip
    refine j_aload_n F 0 rfl rfl dL_part_6 ?_
    refine j_iload_n F 1 rfl rfl dL_part_7 ?_
    obtain ⟨g2, h⟩ := gua h
    obtain ⟨g3, h⟩ := gua h
    refine j_sload F g2 g3 dL_part_8 ?_
    refine j_goto F 25 (by decide) dL_part_9 ?_
    refine j_sub (lv' := [(2, (true, x2))]) [2] rfl ?_
    exact w_L_part_25 F hno hnm x2 (el M 90 x0 (wr x1)) M h
theorem c_L_part (l : Launch) (hl : l.stackTraces = false) (G : Gt) (x0 x1 x2 : Int) (M : Mo) (z : RS) (h : L_part x0 x1 x2 M = some z) : CT l G yL_part (cn yL_part cL_part 4 (some FieldType.int)) 0 [(false, x0), (true, x1), (true, x2)] M 1 z :=
  ctOf hl (by decide) (Nat.le_of_ble_eq_true rfl) (fun p e R s m args below meth c ρ F hno hnm => w_L_part_0 F hno hnm x0 x1 x2 M h)
theorem dL_closed_0 : decode cL_closed 0 = .ok (.aload_n 0, 1) := by decide +kernel
theorem dL_closed_1 : decode cL_closed 1 = .ok (.iload_n 1, 1) := by decide +kernel
theorem dL_closed_2 : decode cL_closed 2 = .ok (.iload_n 2, 1) := by decide +kernel
set_option maxRecDepth 100000 in
theorem q830 : Cond.code yX11_close cX11_close 4 none ∈ GT := gt 830 (rfl) (by decide +kernel)
theorem M_X11_close : MY yX11_close cX11_close 4 none 2 := ⟨q830, q53, by decide +kernel, by decide +kernel⟩
set_option maxRecDepth 100000 in
theorem q828 : Cond.instanceMethod yX11_close ∈ GT := gt 828 (by decide +kernel) (by decide +kernel)
set_option maxRecDepth 100000 in
theorem q829 : Cond.selects RX11 yX11_close yX11_close ∈ GT := gt 829 (by decide +kernel) (by decide +kernel)
set_option maxRecDepth 100000 in
theorem q827 : Cond.methodLink RL 8 yX11_close ∈ GT := gt 827 (by decide +kernel) (by decide +kernel)
theorem dL_closed_3 : decode cL_closed 3 = .ok (.invokevirtual 8, 3) := by decide +kernel
theorem dL_closed_6 : decode cL_closed 6 = .ok (.iconst 0, 1) := by decide +kernel
theorem dL_closed_7 : decode cL_closed 7 = .ok (.ireturn, 1) := by decide +kernel
set_option maxHeartbeats 4000000 in
set_option maxRecDepth 100000 in
theorem w_L_closed_0 {p : Program} {l : Launch} {e : Env} {R : Room} {s : State} {m : MethodId} {args : Array Value} {below : List Frame} {meth : Method} {c : Code} {G : Gt} {ρ0 : Int → Nat} {M0 : Mo} {res : RS} (F : Fx p l R s m args meth c cL_closed 3 RL G M0 11 (some FieldType.int)) (hno : ∀ x ∈ c.exceptionTable.toList, False) (hnm : meth.name = yL_closed.name) (x0 x1 x2 : Int) (M : Mo) (h : L_closed x0 x1 x2 M = some res) : J p l e R s m args below meth c 3 G ρ0 M0 1 res M 0 [(0, (false, x0)), (1, (true, x1)), (2, (true, x2))] [] := by
  unfold L_closed at h
  refine j_aload_n F 0 rfl rfl dL_closed_0 ?_
  refine j_iload_n F 1 rfl rfl dL_closed_1 ?_
  refine j_iload_n F 2 rfl rfl dL_closed_2 ?_
  obtain ⟨g4, h⟩ := gua h
  refine j_callV (d' := 10) (argl := [(true, x1), (true, x2)]) (rk9 := 0) (st := []) F hno M_X11_close q828 q829 q827 ⟨by decide, by decide⟩ (Nat.le_of_ble_eq_true rfl) (by decide) (ci := 12) rfl (by decide) g4 dL_closed_3 rfl h (fun z hz => c_X11_close l F.ht G x0 x1 x2 M z hz) (fun v1 M2 h kl3 => ?_)
  refine j_st (st' := []) rfl ?_
  refine j_iconst F dL_closed_6 ?_
  exact j_iret F h dL_closed_7
theorem c_L_closed (l : Launch) (hl : l.stackTraces = false) (G : Gt) (x0 x1 x2 : Int) (M : Mo) (z : RS) (h : L_closed x0 x1 x2 M = some z) : CT l G yL_closed (cn yL_closed cL_closed 3 (some FieldType.int)) 11 [(false, x0), (true, x1), (true, x2)] M 1 z :=
  ctOf hl (by decide) (Nat.le_of_ble_eq_true rfl) (fun p e R s m args below meth c ρ F hno hnm => w_L_closed_0 F hno hnm x0 x1 x2 M h)
theorem dL_cancelled_0 : decode cL_cancelled 0 = .ok (.aload_n 0, 1) := by decide +kernel
theorem dL_cancelled_1 : decode cL_cancelled 1 = .ok (.iload_n 1, 1) := by decide +kernel
theorem dL_cancelled_2 : decode cL_cancelled 2 = .ok (.iload_n 2, 1) := by decide +kernel
set_option maxRecDepth 100000 in
theorem q1002 : Cond.code yX11_cancel cX11_cancel 5 none ∈ GT := gt 1002 (rfl) (by decide +kernel)
theorem M_X11_cancel : MY yX11_cancel cX11_cancel 5 none 2 := ⟨q1002, q53, by decide +kernel, by decide +kernel⟩
set_option maxRecDepth 100000 in
theorem q1000 : Cond.instanceMethod yX11_cancel ∈ GT := gt 1000 (by decide +kernel) (by decide +kernel)
set_option maxRecDepth 100000 in
theorem q1001 : Cond.selects RX11 yX11_cancel yX11_cancel ∈ GT := gt 1001 (by decide +kernel) (by decide +kernel)
set_option maxRecDepth 100000 in
theorem q999 : Cond.methodLink RL 14 yX11_cancel ∈ GT := gt 999 (by decide +kernel) (by decide +kernel)
theorem dL_cancelled_3 : decode cL_cancelled 3 = .ok (.invokevirtual 14, 3) := by decide +kernel
theorem dL_cancelled_6 : decode cL_cancelled 6 = .ok (.iconst 0, 1) := by decide +kernel
theorem dL_cancelled_7 : decode cL_cancelled 7 = .ok (.ireturn, 1) := by decide +kernel
set_option maxHeartbeats 4000000 in
set_option maxRecDepth 100000 in
theorem w_L_cancelled_0 {p : Program} {l : Launch} {e : Env} {R : Room} {s : State} {m : MethodId} {args : Array Value} {below : List Frame} {meth : Method} {c : Code} {G : Gt} {ρ0 : Int → Nat} {M0 : Mo} {res : RS} (F : Fx p l R s m args meth c cL_cancelled 3 RL G M0 11 (some FieldType.int)) (hno : ∀ x ∈ c.exceptionTable.toList, False) (hnm : meth.name = yL_cancelled.name) (x0 x1 x2 : Int) (M : Mo) (h : L_cancelled x0 x1 x2 M = some res) : J p l e R s m args below meth c 3 G ρ0 M0 1 res M 0 [(0, (false, x0)), (1, (true, x1)), (2, (true, x2))] [] := by
  unfold L_cancelled at h
  refine j_aload_n F 0 rfl rfl dL_cancelled_0 ?_
  refine j_iload_n F 1 rfl rfl dL_cancelled_1 ?_
  refine j_iload_n F 2 rfl rfl dL_cancelled_2 ?_
  obtain ⟨g4, h⟩ := gua h
  refine j_callV (d' := 10) (argl := [(true, x1), (true, x2)]) (rk9 := 0) (st := []) F hno M_X11_cancel q1000 q1001 q999 ⟨by decide, by decide⟩ (Nat.le_of_ble_eq_true rfl) (by decide) (ci := 12) rfl (by decide) g4 dL_cancelled_3 rfl h (fun z hz => c_X11_cancel l F.ht G x0 x1 x2 M z hz) (fun v1 M2 h kl3 => ?_)
  refine j_st (st' := []) rfl ?_
  refine j_iconst F dL_cancelled_6 ?_
  exact j_iret F h dL_cancelled_7
theorem c_L_cancelled (l : Launch) (hl : l.stackTraces = false) (G : Gt) (x0 x1 x2 : Int) (M : Mo) (z : RS) (h : L_cancelled x0 x1 x2 M = some z) : CT l G yL_cancelled (cn yL_cancelled cL_cancelled 3 (some FieldType.int)) 11 [(false, x0), (true, x1), (true, x2)] M 1 z :=
  ctOf hl (by decide) (Nat.le_of_ble_eq_true rfl) (fun p e R s m args below meth c ρ F hno hnm => w_L_cancelled_0 F hno hnm x0 x1 x2 M h)
theorem dL_does_0 : decode cL_does 0 = .ok (.iload_n 1, 1) := by decide +kernel
theorem dL_does_1 : decode cL_does 1 = .ok (.ifCond .ne 12, 3) := by decide +kernel
theorem dL_does_13 : decode cL_does 13 = .ok (.iload_n 1, 1) := by decide +kernel
theorem dL_does_14 : decode cL_does 14 = .ok (.iconst 1, 1) := by decide +kernel
theorem dL_does_15 : decode cL_does 15 = .ok (.if_icmp .ne 12, 3) := by decide +kernel
theorem dL_does_27 : decode cL_does 27 = .ok (.iload_n 1, 1) := by decide +kernel
theorem dL_does_28 : decode cL_does 28 = .ok (.iconst 2, 1) := by decide +kernel
theorem dL_does_29 : decode cL_does 29 = .ok (.if_icmp .ne 14, 3) := by decide +kernel
theorem dL_does_43 : decode cL_does 43 = .ok (.iload_n 1, 1) := by decide +kernel
theorem dL_does_44 : decode cL_does 44 = .ok (.iconst 3, 1) := by decide +kernel
theorem dL_does_45 : decode cL_does 45 = .ok (.if_icmp .ne 12, 3) := by decide +kernel
theorem dL_does_57 : decode cL_does 57 = .ok (.iload_n 1, 1) := by decide +kernel
theorem dL_does_58 : decode cL_does 58 = .ok (.iconst 4, 1) := by decide +kernel
theorem dL_does_59 : decode cL_does 59 = .ok (.if_icmp .ne 12, 3) := by decide +kernel
theorem dL_does_71 : decode cL_does 71 = .ok (.iload_n 1, 1) := by decide +kernel
theorem dL_does_72 : decode cL_does 72 = .ok (.iconst 5, 1) := by decide +kernel
theorem dL_does_73 : decode cL_does 73 = .ok (.if_icmp .ne 22, 3) := by decide +kernel
theorem dL_does_95 : decode cL_does 95 = .ok (.iload_n 1, 1) := by decide +kernel
theorem dL_does_96 : decode cL_does 96 = .ok (.bipush 6, 2) := by decide +kernel
theorem dL_does_98 : decode cL_does 98 = .ok (.if_icmp .ne 20, 3) := by decide +kernel
theorem dL_does_118 : decode cL_does 118 = .ok (.iload_n 1, 1) := by decide +kernel
theorem dL_does_119 : decode cL_does 119 = .ok (.bipush 7, 2) := by decide +kernel
theorem dL_does_121 : decode cL_does 121 = .ok (.if_icmp .ne 12, 3) := by decide +kernel
theorem dL_does_133 : decode cL_does 133 = .ok (.iload_n 1, 1) := by decide +kernel
theorem dL_does_134 : decode cL_does 134 = .ok (.bipush 8, 2) := by decide +kernel
theorem dL_does_136 : decode cL_does 136 = .ok (.if_icmp .ne 12, 3) := by decide +kernel
theorem dL_does_148 : decode cL_does 148 = .ok (.iload_n 1, 1) := by decide +kernel
theorem dL_does_149 : decode cL_does 149 = .ok (.bipush 9, 2) := by decide +kernel
theorem dL_does_151 : decode cL_does 151 = .ok (.if_icmp .ne 12, 3) := by decide +kernel
theorem dL_does_163 : decode cL_does 163 = .ok (.iload_n 1, 1) := by decide +kernel
theorem dL_does_164 : decode cL_does 164 = .ok (.bipush 10, 2) := by decide +kernel
theorem dL_does_166 : decode cL_does 166 = .ok (.if_icmp .ne 12, 3) := by decide +kernel
theorem dL_does_178 : decode cL_does 178 = .ok (.iload_n 1, 1) := by decide +kernel
theorem dL_does_179 : decode cL_does 179 = .ok (.bipush 11, 2) := by decide +kernel
theorem dL_does_181 : decode cL_does 181 = .ok (.if_icmp .ne 11, 3) := by decide +kernel
theorem dL_does_192 : decode cL_does 192 = .ok (.iload_n 1, 1) := by decide +kernel
theorem dL_does_193 : decode cL_does 193 = .ok (.bipush 12, 2) := by decide +kernel
theorem dL_does_195 : decode cL_does 195 = .ok (.if_icmp .ne 11, 3) := by decide +kernel
theorem dL_does_206 : decode cL_does 206 = .ok (.aload_n 0, 1) := by decide +kernel
theorem dL_does_207 : decode cL_does 207 = .ok (.iload_n 2, 1) := by decide +kernel
set_option maxRecDepth 100000 in
theorem q1352 : Cond.code yX11_deliver cX11_deliver 2 (some FieldType.int) ∈ GT := gt 1352 (rfl) (by decide +kernel)
theorem M_X11_deliver : MY yX11_deliver cX11_deliver 2 (some FieldType.int) 1 := ⟨q1352, q53, by decide +kernel, by decide +kernel⟩
set_option maxRecDepth 100000 in
theorem q1350 : Cond.instanceMethod yX11_deliver ∈ GT := gt 1350 (by decide +kernel) (by decide +kernel)
set_option maxRecDepth 100000 in
theorem q1351 : Cond.selects RX11 yX11_deliver yX11_deliver ∈ GT := gt 1351 (by decide +kernel) (by decide +kernel)
set_option maxRecDepth 100000 in
theorem q1349 : Cond.methodLink RL 64 yX11_deliver ∈ GT := gt 1349 (by decide +kernel) (by decide +kernel)
theorem dL_does_208 : decode cL_does 208 = .ok (.invokevirtual 64, 3) := by decide +kernel
theorem dL_does_211 : decode cL_does 211 = .ok (.ireturn, 1) := by decide +kernel
theorem dL_does_198 : decode cL_does 198 = .ok (.aload_n 0, 1) := by decide +kernel
theorem dL_does_199 : decode cL_does 199 = .ok (.iload_n 2, 1) := by decide +kernel
set_option maxRecDepth 100000 in
theorem q1334 : Cond.code yX11_start cX11_start 3 (some FieldType.int) ∈ GT := gt 1334 (rfl) (by decide +kernel)
theorem M_X11_start : MY yX11_start cX11_start 3 (some FieldType.int) 1 := ⟨q1334, q53, by decide +kernel, by decide +kernel⟩
set_option maxRecDepth 100000 in
theorem q1332 : Cond.instanceMethod yX11_start ∈ GT := gt 1332 (by decide +kernel) (by decide +kernel)
set_option maxRecDepth 100000 in
theorem q1333 : Cond.selects RX11 yX11_start yX11_start ∈ GT := gt 1333 (by decide +kernel) (by decide +kernel)
set_option maxRecDepth 100000 in
theorem q1331 : Cond.methodLink RL 61 yX11_start ∈ GT := gt 1331 (by decide +kernel) (by decide +kernel)
theorem dL_does_200 : decode cL_does 200 = .ok (.invokevirtual 61, 3) := by decide +kernel
theorem dL_does_203 : decode cL_does 203 = .ok (.goto 8, 3) := by decide +kernel
theorem dL_does_184 : decode cL_does 184 = .ok (.aload_n 0, 1) := by decide +kernel
theorem dL_does_185 : decode cL_does 185 = .ok (.iload_n 2, 1) := by decide +kernel
set_option maxRecDepth 100000 in
theorem q1221 : Cond.code yX11_crash cX11_crash 4 (some FieldType.int) ∈ GT := gt 1221 (rfl) (by decide +kernel)
theorem M_X11_crash : MY yX11_crash cX11_crash 4 (some FieldType.int) 1 := ⟨q1221, q53, by decide +kernel, by decide +kernel⟩
set_option maxRecDepth 100000 in
theorem q1219 : Cond.instanceMethod yX11_crash ∈ GT := gt 1219 (by decide +kernel) (by decide +kernel)
set_option maxRecDepth 100000 in
theorem q1220 : Cond.selects RX11 yX11_crash yX11_crash ∈ GT := gt 1220 (by decide +kernel) (by decide +kernel)
set_option maxRecDepth 100000 in
theorem q1218 : Cond.methodLink RL 57 yX11_crash ∈ GT := gt 1218 (by decide +kernel) (by decide +kernel)
theorem dL_does_186 : decode cL_does 186 = .ok (.invokevirtual 57, 3) := by decide +kernel
theorem dL_does_189 : decode cL_does 189 = .ok (.goto 22, 3) := by decide +kernel
theorem dL_does_169 : decode cL_does 169 = .ok (.aload_n 0, 1) := by decide +kernel
theorem dL_does_170 : decode cL_does 170 = .ok (.iload_n 2, 1) := by decide +kernel
theorem dL_does_171 : decode cL_does 171 = .ok (.iload_n 3, 1) := by decide +kernel
set_option maxRecDepth 100000 in
theorem q1211 : Cond.code yX11_tellFaults cX11_tellFaults 5 (some FieldType.int) ∈ GT := gt 1211 (rfl) (by decide +kernel)
theorem M_X11_tellFaults : MY yX11_tellFaults cX11_tellFaults 5 (some FieldType.int) 2 := ⟨q1211, q53, by decide +kernel, by decide +kernel⟩
set_option maxRecDepth 100000 in
theorem q1209 : Cond.instanceMethod yX11_tellFaults ∈ GT := gt 1209 (by decide +kernel) (by decide +kernel)
set_option maxRecDepth 100000 in
theorem q1210 : Cond.selects RX11 yX11_tellFaults yX11_tellFaults ∈ GT := gt 1210 (by decide +kernel) (by decide +kernel)
set_option maxRecDepth 100000 in
theorem q1208 : Cond.methodLink RL 54 yX11_tellFaults ∈ GT := gt 1208 (by decide +kernel) (by decide +kernel)
theorem dL_does_172 : decode cL_does 172 = .ok (.invokevirtual 54, 3) := by decide +kernel
theorem dL_does_175 : decode cL_does 175 = .ok (.goto 36, 3) := by decide +kernel
theorem dL_does_154 : decode cL_does 154 = .ok (.aload_n 0, 1) := by decide +kernel
theorem dL_does_155 : decode cL_does 155 = .ok (.iload_n 2, 1) := by decide +kernel
theorem dL_does_156 : decode cL_does 156 = .ok (.iload_n 3, 1) := by decide +kernel
set_option maxRecDepth 100000 in
theorem q1081 : Cond.code yX11_answer cX11_answer 5 (some FieldType.int) ∈ GT := gt 1081 (rfl) (by decide +kernel)
theorem M_X11_answer : MY yX11_answer cX11_answer 5 (some FieldType.int) 2 := ⟨q1081, q53, by decide +kernel, by decide +kernel⟩
set_option maxRecDepth 100000 in
theorem q1079 : Cond.instanceMethod yX11_answer ∈ GT := gt 1079 (by decide +kernel) (by decide +kernel)
set_option maxRecDepth 100000 in
theorem q1080 : Cond.selects RX11 yX11_answer yX11_answer ∈ GT := gt 1080 (by decide +kernel) (by decide +kernel)
set_option maxRecDepth 100000 in
theorem q1078 : Cond.methodLink RL 51 yX11_answer ∈ GT := gt 1078 (by decide +kernel) (by decide +kernel)
theorem dL_does_157 : decode cL_does 157 = .ok (.invokevirtual 51, 3) := by decide +kernel
theorem dL_does_160 : decode cL_does 160 = .ok (.goto 51, 3) := by decide +kernel
theorem dL_does_139 : decode cL_does 139 = .ok (.aload_n 0, 1) := by decide +kernel
theorem dL_does_140 : decode cL_does 140 = .ok (.iload_n 2, 1) := by decide +kernel
theorem dL_does_141 : decode cL_does 141 = .ok (.iload_n 3, 1) := by decide +kernel
set_option maxRecDepth 100000 in
theorem q1020 : Cond.code yX11_apply cX11_apply 5 (some FieldType.int) ∈ GT := gt 1020 (rfl) (by decide +kernel)
theorem M_X11_apply : MY yX11_apply cX11_apply 5 (some FieldType.int) 2 := ⟨q1020, q53, by decide +kernel, by decide +kernel⟩
set_option maxRecDepth 100000 in
theorem q1018 : Cond.instanceMethod yX11_apply ∈ GT := gt 1018 (by decide +kernel) (by decide +kernel)
set_option maxRecDepth 100000 in
theorem q1019 : Cond.selects RX11 yX11_apply yX11_apply ∈ GT := gt 1019 (by decide +kernel) (by decide +kernel)
set_option maxRecDepth 100000 in
theorem q1017 : Cond.methodLink RL 48 yX11_apply ∈ GT := gt 1017 (by decide +kernel) (by decide +kernel)
theorem dL_does_142 : decode cL_does 142 = .ok (.invokevirtual 48, 3) := by decide +kernel
theorem dL_does_145 : decode cL_does 145 = .ok (.goto 66, 3) := by decide +kernel
theorem dL_does_124 : decode cL_does 124 = .ok (.aload_n 0, 1) := by decide +kernel
theorem dL_does_125 : decode cL_does 125 = .ok (.iload_n 2, 1) := by decide +kernel
theorem dL_does_126 : decode cL_does 126 = .ok (.iload_n 3, 1) := by decide +kernel
set_option maxRecDepth 100000 in
theorem q998 : Cond.code yL_cancelled cL_cancelled 3 (some FieldType.int) ∈ GT := gt 998 (rfl) (by decide +kernel)
set_option maxRecDepth 100000 in
theorem q52 : Cond.initialized RL ∈ GT := gt 52 (by decide +kernel) (by decide +kernel)
theorem M_L_cancelled : MY yL_cancelled cL_cancelled 3 (some FieldType.int) 3 := ⟨q998, q52, by decide +kernel, by decide +kernel⟩
set_option maxRecDepth 100000 in
theorem q997 : Cond.static yL_cancelled ∈ GT := gt 997 (by decide +kernel) (by decide +kernel)
set_option maxRecDepth 100000 in
theorem q996 : Cond.methodLink RL 45 yL_cancelled ∈ GT := gt 996 (by decide +kernel) (by decide +kernel)
theorem dL_does_127 : decode cL_does 127 = .ok (.invokestatic 45, 3) := by decide +kernel
theorem dL_does_130 : decode cL_does 130 = .ok (.goto 81, 3) := by decide +kernel
theorem dL_does_101 : decode cL_does 101 = .ok (.aload_n 0, 1) := by decide +kernel
theorem dL_does_102 : decode cL_does 102 = .ok (.iload_n 2, 1) := by decide +kernel
theorem dL_does_103 : decode cL_does 103 = .ok (.iload_n 3, 1) := by decide +kernel
theorem dL_does_104 : decode cL_does 104 = .ok (.iload 4, 2) := by decide +kernel
theorem dL_does_106 : decode cL_does 106 = .ok (.iload 5, 2) := by decide +kernel
theorem dL_does_108 : decode cL_does 108 = .ok (.iload 6, 2) := by decide +kernel
theorem dL_does_110 : decode cL_does 110 = .ok (.iload 7, 2) := by decide +kernel
set_option maxRecDepth 100000 in
theorem q950 : Cond.code yX11_request cX11_request 9 (some FieldType.int) ∈ GT := gt 950 (rfl) (by decide +kernel)
theorem M_X11_request : MY yX11_request cX11_request 9 (some FieldType.int) 6 := ⟨q950, q53, by decide +kernel, by decide +kernel⟩
set_option maxRecDepth 100000 in
theorem q948 : Cond.instanceMethod yX11_request ∈ GT := gt 948 (by decide +kernel) (by decide +kernel)
set_option maxRecDepth 100000 in
theorem q949 : Cond.selects RX11 yX11_request yX11_request ∈ GT := gt 949 (by decide +kernel) (by decide +kernel)
set_option maxRecDepth 100000 in
theorem q947 : Cond.methodLink RL 41 yX11_request ∈ GT := gt 947 (by decide +kernel) (by decide +kernel)
theorem dL_does_112 : decode cL_does 112 = .ok (.invokevirtual 41, 3) := by decide +kernel
theorem dL_does_115 : decode cL_does 115 = .ok (.goto 96, 3) := by decide +kernel
theorem dL_does_76 : decode cL_does 76 = .ok (.aload_n 0, 1) := by decide +kernel
theorem dL_does_77 : decode cL_does 77 = .ok (.iload_n 2, 1) := by decide +kernel
theorem dL_does_78 : decode cL_does 78 = .ok (.iload_n 3, 1) := by decide +kernel
theorem dL_does_79 : decode cL_does 79 = .ok (.iload 4, 2) := by decide +kernel
theorem dL_does_81 : decode cL_does 81 = .ok (.iload 5, 2) := by decide +kernel
theorem dL_does_83 : decode cL_does 83 = .ok (.iload 6, 2) := by decide +kernel
theorem dL_does_85 : decode cL_does 85 = .ok (.iload 7, 2) := by decide +kernel
theorem dL_does_87 : decode cL_does 87 = .ok (.iload 8, 2) := by decide +kernel
set_option maxRecDepth 100000 in
theorem q885 : Cond.code yX11_change cX11_change 11 (some FieldType.int) ∈ GT := gt 885 (rfl) (by decide +kernel)
theorem M_X11_change : MY yX11_change cX11_change 11 (some FieldType.int) 7 := ⟨q885, q53, by decide +kernel, by decide +kernel⟩
set_option maxRecDepth 100000 in
theorem q883 : Cond.instanceMethod yX11_change ∈ GT := gt 883 (by decide +kernel) (by decide +kernel)
set_option maxRecDepth 100000 in
theorem q884 : Cond.selects RX11 yX11_change yX11_change ∈ GT := gt 884 (by decide +kernel) (by decide +kernel)
set_option maxRecDepth 100000 in
theorem q882 : Cond.methodLink RL 37 yX11_change ∈ GT := gt 882 (by decide +kernel) (by decide +kernel)
theorem dL_does_89 : decode cL_does 89 = .ok (.invokevirtual 37, 3) := by decide +kernel
theorem dL_does_92 : decode cL_does 92 = .ok (.goto 119, 3) := by decide +kernel
theorem dL_does_62 : decode cL_does 62 = .ok (.aload_n 0, 1) := by decide +kernel
theorem dL_does_63 : decode cL_does 63 = .ok (.iload_n 2, 1) := by decide +kernel
theorem dL_does_64 : decode cL_does 64 = .ok (.iload_n 3, 1) := by decide +kernel
set_option maxRecDepth 100000 in
theorem q826 : Cond.code yL_closed cL_closed 3 (some FieldType.int) ∈ GT := gt 826 (rfl) (by decide +kernel)
theorem M_L_closed : MY yL_closed cL_closed 3 (some FieldType.int) 3 := ⟨q826, q52, by decide +kernel, by decide +kernel⟩
set_option maxRecDepth 100000 in
theorem q825 : Cond.static yL_closed ∈ GT := gt 825 (by decide +kernel) (by decide +kernel)
set_option maxRecDepth 100000 in
theorem q824 : Cond.methodLink RL 31 yL_closed ∈ GT := gt 824 (by decide +kernel) (by decide +kernel)
theorem dL_does_65 : decode cL_does 65 = .ok (.invokestatic 31, 3) := by decide +kernel
theorem dL_does_68 : decode cL_does 68 = .ok (.goto 143, 3) := by decide +kernel
theorem dL_does_48 : decode cL_does 48 = .ok (.aload_n 0, 1) := by decide +kernel
theorem dL_does_49 : decode cL_does 49 = .ok (.iload_n 2, 1) := by decide +kernel
theorem dL_does_50 : decode cL_does 50 = .ok (.iload_n 3, 1) := by decide +kernel
set_option maxRecDepth 100000 in
theorem q665 : Cond.code yX11_open cX11_open 4 (some FieldType.int) ∈ GT := gt 665 (rfl) (by decide +kernel)
theorem M_X11_open : MY yX11_open cX11_open 4 (some FieldType.int) 2 := ⟨q665, q53, by decide +kernel, by decide +kernel⟩
set_option maxRecDepth 100000 in
theorem q663 : Cond.instanceMethod yX11_open ∈ GT := gt 663 (by decide +kernel) (by decide +kernel)
set_option maxRecDepth 100000 in
theorem q664 : Cond.selects RX11 yX11_open yX11_open ∈ GT := gt 664 (by decide +kernel) (by decide +kernel)
set_option maxRecDepth 100000 in
theorem q662 : Cond.methodLink RL 28 yX11_open ∈ GT := gt 662 (by decide +kernel) (by decide +kernel)
theorem dL_does_51 : decode cL_does 51 = .ok (.invokevirtual 28, 3) := by decide +kernel
theorem dL_does_54 : decode cL_does 54 = .ok (.goto 157, 3) := by decide +kernel
theorem dL_does_32 : decode cL_does 32 = .ok (.aload_n 0, 1) := by decide +kernel
theorem dL_does_33 : decode cL_does 33 = .ok (.iload_n 2, 1) := by decide +kernel
theorem dL_does_34 : decode cL_does 34 = .ok (.iload_n 3, 1) := by decide +kernel
theorem dL_does_35 : decode cL_does 35 = .ok (.iload 4, 2) := by decide +kernel
set_option maxRecDepth 100000 in
theorem q445 : Cond.code yX11_server cX11_server 6 (some FieldType.int) ∈ GT := gt 445 (rfl) (by decide +kernel)
theorem M_X11_server : MY yX11_server cX11_server 6 (some FieldType.int) 3 := ⟨q445, q53, by decide +kernel, by decide +kernel⟩
set_option maxRecDepth 100000 in
theorem q443 : Cond.instanceMethod yX11_server ∈ GT := gt 443 (by decide +kernel) (by decide +kernel)
set_option maxRecDepth 100000 in
theorem q444 : Cond.selects RX11 yX11_server yX11_server ∈ GT := gt 444 (by decide +kernel) (by decide +kernel)
set_option maxRecDepth 100000 in
theorem q442 : Cond.methodLink RL 24 yX11_server ∈ GT := gt 442 (by decide +kernel) (by decide +kernel)
theorem dL_does_37 : decode cL_does 37 = .ok (.invokevirtual 24, 3) := by decide +kernel
theorem dL_does_40 : decode cL_does 40 = .ok (.goto 171, 3) := by decide +kernel
theorem dL_does_18 : decode cL_does 18 = .ok (.aload_n 0, 1) := by decide +kernel
theorem dL_does_19 : decode cL_does 19 = .ok (.iload_n 2, 1) := by decide +kernel
theorem dL_does_20 : decode cL_does 20 = .ok (.iload_n 3, 1) := by decide +kernel
set_option maxRecDepth 100000 in
theorem q619 : Cond.code yX11_store cX11_store 4 (some FieldType.int) ∈ GT := gt 619 (rfl) (by decide +kernel)
theorem M_X11_store : MY yX11_store cX11_store 4 (some FieldType.int) 2 := ⟨q619, q53, by decide +kernel, by decide +kernel⟩
set_option maxRecDepth 100000 in
theorem q617 : Cond.instanceMethod yX11_store ∈ GT := gt 617 (by decide +kernel) (by decide +kernel)
set_option maxRecDepth 100000 in
theorem q618 : Cond.selects RX11 yX11_store yX11_store ∈ GT := gt 618 (by decide +kernel) (by decide +kernel)
set_option maxRecDepth 100000 in
theorem q616 : Cond.methodLink RL 21 yX11_store ∈ GT := gt 616 (by decide +kernel) (by decide +kernel)
theorem dL_does_21 : decode cL_does 21 = .ok (.invokevirtual 21, 3) := by decide +kernel
theorem dL_does_24 : decode cL_does 24 = .ok (.goto 187, 3) := by decide +kernel
theorem dL_does_4 : decode cL_does 4 = .ok (.aload_n 0, 1) := by decide +kernel
theorem dL_does_5 : decode cL_does 5 = .ok (.iload_n 2, 1) := by decide +kernel
theorem dL_does_6 : decode cL_does 6 = .ok (.iload_n 3, 1) := by decide +kernel
set_option maxRecDepth 100000 in
theorem q342 : Cond.code yX11_file cX11_file 3 (some FieldType.int) ∈ GT := gt 342 (rfl) (by decide +kernel)
theorem M_X11_file : MY yX11_file cX11_file 3 (some FieldType.int) 2 := ⟨q342, q53, by decide +kernel, by decide +kernel⟩
set_option maxRecDepth 100000 in
theorem q340 : Cond.instanceMethod yX11_file ∈ GT := gt 340 (by decide +kernel) (by decide +kernel)
set_option maxRecDepth 100000 in
theorem q341 : Cond.selects RX11 yX11_file yX11_file ∈ GT := gt 341 (by decide +kernel) (by decide +kernel)
set_option maxRecDepth 100000 in
theorem q339 : Cond.methodLink RL 17 yX11_file ∈ GT := gt 339 (by decide +kernel) (by decide +kernel)
theorem dL_does_7 : decode cL_does 7 = .ok (.invokevirtual 17, 3) := by decide +kernel
theorem dL_does_10 : decode cL_does 10 = .ok (.goto 201, 3) := by decide +kernel
set_option maxHeartbeats 4000000 in
set_option maxRecDepth 100000 in
theorem w_L_does_0 {p : Program} {l : Launch} {e : Env} {R : Room} {s : State} {m : MethodId} {args : Array Value} {below : List Frame} {meth : Method} {c : Code} {G : Gt} {ρ0 : Int → Nat} {M0 : Mo} {res : RS} (F : Fx p l R s m args meth c cL_does 10 RL G M0 13 (some FieldType.int)) (htb : c.exceptionTable.toList = tableOf [(0, 211, 212, 67), (0, 211, 218, 69), (0, 211, 224, 71)]) (hnm : meth.name = yL_does.name) (x0 x1 x2 x3 x4 x5 x6 x7 x8 : Int) (M : Mo) (h : L_does x0 x1 x2 x3 x4 x5 x6 x7 x8 M = some res) : J p l e R s m args below meth c 10 G ρ0 M0 1 res M 0 [(0, (false, x0)), (1, (true, x1)), (2, (true, x2)), (3, (true, x3)), (4, (true, x4)), (5, (true, x5)), (6, (true, x6)), (7, (true, x7)), (8, (true, x8))] [] := by
  unfold L_does at h
  refine j_iload_n F 1 rfl rfl dL_does_0 ?_
  refine j_if_ne F 13 (by decide) dL_does_1 h (fun h => ?_) (fun h => ?_)
  · skip
    refine j_iload_n F 1 rfl rfl dL_does_13 ?_
    refine j_iconst F dL_does_14 ?_
    refine j_icmp_ne F 27 (by decide) dL_does_15 h (fun h => ?_) (fun h => ?_)
    · skip
      refine j_iload_n F 1 rfl rfl dL_does_27 ?_
      refine j_iconst F dL_does_28 ?_
      refine j_icmp_ne F 43 (by decide) dL_does_29 h (fun h => ?_) (fun h => ?_)
      · skip
        refine j_iload_n F 1 rfl rfl dL_does_43 ?_
        refine j_iconst F dL_does_44 ?_
        refine j_icmp_ne F 57 (by decide) dL_does_45 h (fun h => ?_) (fun h => ?_)
        · skip
          refine j_iload_n F 1 rfl rfl dL_does_57 ?_
          refine j_iconst F dL_does_58 ?_
          refine j_icmp_ne F 71 (by decide) dL_does_59 h (fun h => ?_) (fun h => ?_)
          · skip
            refine j_iload_n F 1 rfl rfl dL_does_71 ?_
            refine j_iconst F dL_does_72 ?_
            refine j_icmp_ne F 95 (by decide) dL_does_73 h (fun h => ?_) (fun h => ?_)
            · skip
              refine j_iload_n F 1 rfl rfl dL_does_95 ?_
              refine j_bipush F (by decide) dL_does_96 ?_
              refine j_icmp_ne F 118 (by decide) dL_does_98 h (fun h => ?_) (fun h => ?_)
              · skip
                refine j_iload_n F 1 rfl rfl dL_does_118 ?_
                refine j_bipush F (by decide) dL_does_119 ?_
                refine j_icmp_ne F 133 (by decide) dL_does_121 h (fun h => ?_) (fun h => ?_)
                · skip
                  refine j_iload_n F 1 rfl rfl dL_does_133 ?_
                  refine j_bipush F (by decide) dL_does_134 ?_
                  refine j_icmp_ne F 148 (by decide) dL_does_136 h (fun h => ?_) (fun h => ?_)
                  · skip
                    refine j_iload_n F 1 rfl rfl dL_does_148 ?_
                    refine j_bipush F (by decide) dL_does_149 ?_
                    refine j_icmp_ne F 163 (by decide) dL_does_151 h (fun h => ?_) (fun h => ?_)
                    · skip
                      refine j_iload_n F 1 rfl rfl dL_does_163 ?_
                      refine j_bipush F (by decide) dL_does_164 ?_
                      refine j_icmp_ne F 178 (by decide) dL_does_166 h (fun h => ?_) (fun h => ?_)
                      · skip
                        refine j_iload_n F 1 rfl rfl dL_does_178 ?_
                        refine j_bipush F (by decide) dL_does_179 ?_
                        refine j_icmp_ne F 192 (by decide) dL_does_181 h (fun h => ?_) (fun h => ?_)
                        · skip
                          refine j_iload_n F 1 rfl rfl dL_does_192 ?_
                          refine j_bipush F (by decide) dL_does_193 ?_
                          refine j_icmp_ne F 206 (by decide) dL_does_195 h (fun h => ?_) (fun h => ?_)
                          · skip
                            refine j_aload_n F 0 rfl rfl dL_does_206 ?_
                            refine j_iload_n F 2 rfl rfl dL_does_207 ?_
                            obtain ⟨g4, h⟩ := gua h
                            refine j_callVH (nh := 3) (d' := 12) (argl := [(true, x2)]) (rk9 := 1) (st := []) F M_X11_deliver q1350 q1351 q1349 ⟨by decide, by decide⟩ (Nat.le_of_ble_eq_true rfl) (by decide) (ci := 12) rfl (by decide) g4 dL_does_208 rfl h (fun z hz => c_X11_deliver l F.ht G x0 x2 M z hz) (fun ex v1 M1 hex hcs hres E ce q ρ1 H1 locs1 ls1 hE hD hl hce hcv hcl rest => hndDoes F htb (by decide) (by decide) (by decide) (hcs.elim Or.inl (fun z => Or.inr z.2)) hres hE hD hl hce hcv hcl rest) (fun v1 M2 h kl3 => ?_)
                            refine j_st (st' := [(true, v1)]) rfl ?_
                            exact j_iret F h dL_does_211
                          · skip
                            refine j_aload_n F 0 rfl rfl dL_does_198 ?_
                            refine j_iload_n F 2 rfl rfl dL_does_199 ?_
                            obtain ⟨g8, h⟩ := gua h
                            refine j_callVH (nh := 3) (d' := 9) (argl := [(true, x2)]) (rk9 := 1) (st := []) F M_X11_start q1332 q1333 q1331 ⟨by decide, by decide⟩ (Nat.le_of_ble_eq_true rfl) (by decide) (ci := 12) rfl (by decide) g8 dL_does_200 rfl h (fun z hz => c_X11_start l F.ht G x0 x2 M z hz) (fun ex v1 M1 hex hcs hres E ce q ρ1 H1 locs1 ls1 hE hD hl hce hcv hcl rest => hndDoes F htb (by decide) (by decide) (by decide) (hcs.elim Or.inl (fun z => Or.inr z.2)) hres hE hD hl hce hcv hcl rest) (fun v5 M6 h kl7 => ?_)
                            refine j_st (st' := [(true, v5)]) rfl ?_
                            refine j_goto F 211 (by decide) dL_does_203 ?_
                            exact j_iret F h dL_does_211
                        · skip
                          refine j_aload_n F 0 rfl rfl dL_does_184 ?_
                          refine j_iload_n F 2 rfl rfl dL_does_185 ?_
                          obtain ⟨g12, h⟩ := gua h
                          refine j_callVH (nh := 3) (d' := 11) (argl := [(true, x2)]) (rk9 := 1) (st := []) F M_X11_crash q1219 q1220 q1218 ⟨by decide, by decide⟩ (Nat.le_of_ble_eq_true rfl) (by decide) (ci := 12) rfl (by decide) g12 dL_does_186 rfl h (fun z hz => c_X11_crash l F.ht G x0 x2 M z hz) (fun ex v1 M1 hex hcs hres E ce q ρ1 H1 locs1 ls1 hE hD hl hce hcv hcl rest => hndDoes F htb (by decide) (by decide) (by decide) (hcs.elim Or.inl (fun z => Or.inr z.2)) hres hE hD hl hce hcv hcl rest) (fun v9 M10 h kl11 => ?_)
                          refine j_st (st' := [(true, v9)]) rfl ?_
                          refine j_goto F 211 (by decide) dL_does_189 ?_
                          exact j_iret F h dL_does_211
                      · skip
                        refine j_aload_n F 0 rfl rfl dL_does_169 ?_
                        refine j_iload_n F 2 rfl rfl dL_does_170 ?_
                        refine j_iload_n F 3 rfl rfl dL_does_171 ?_
                        obtain ⟨g16, h⟩ := gua h
                        refine j_callVH (nh := 3) (d' := 9) (argl := [(true, x2), (true, x3)]) (rk9 := 1) (st := []) F M_X11_tellFaults q1209 q1210 q1208 ⟨by decide, by decide⟩ (Nat.le_of_ble_eq_true rfl) (by decide) (ci := 12) rfl (by decide) g16 dL_does_172 rfl h (fun z hz => c_X11_tellFaults l F.ht G x0 x2 x3 M z hz) (fun ex v1 M1 hex hcs hres E ce q ρ1 H1 locs1 ls1 hE hD hl hce hcv hcl rest => hndDoes F htb (by decide) (by decide) (by decide) (hcs.elim Or.inl (fun z => Or.inr z.2)) hres hE hD hl hce hcv hcl rest) (fun v13 M14 h kl15 => ?_)
                        refine j_st (st' := [(true, v13)]) rfl ?_
                        refine j_goto F 211 (by decide) dL_does_175 ?_
                        exact j_iret F h dL_does_211
                    · skip
                      refine j_aload_n F 0 rfl rfl dL_does_154 ?_
                      refine j_iload_n F 2 rfl rfl dL_does_155 ?_
                      refine j_iload_n F 3 rfl rfl dL_does_156 ?_
                      obtain ⟨g20, h⟩ := gua h
                      refine j_callVH (nh := 3) (d' := 9) (argl := [(true, x2), (true, x3)]) (rk9 := 1) (st := []) F M_X11_answer q1079 q1080 q1078 ⟨by decide, by decide⟩ (Nat.le_of_ble_eq_true rfl) (by decide) (ci := 12) rfl (by decide) g20 dL_does_157 rfl h (fun z hz => c_X11_answer l F.ht G x0 x2 x3 M z hz) (fun ex v1 M1 hex hcs hres E ce q ρ1 H1 locs1 ls1 hE hD hl hce hcv hcl rest => hndDoes F htb (by decide) (by decide) (by decide) (hcs.elim Or.inl (fun z => Or.inr z.2)) hres hE hD hl hce hcv hcl rest) (fun v17 M18 h kl19 => ?_)
                      refine j_st (st' := [(true, v17)]) rfl ?_
                      refine j_goto F 211 (by decide) dL_does_160 ?_
                      exact j_iret F h dL_does_211
                  · skip
                    refine j_aload_n F 0 rfl rfl dL_does_139 ?_
                    refine j_iload_n F 2 rfl rfl dL_does_140 ?_
                    refine j_iload_n F 3 rfl rfl dL_does_141 ?_
                    obtain ⟨g24, h⟩ := gua h
                    refine j_callVH (nh := 3) (d' := 12) (argl := [(true, x2), (true, x3)]) (rk9 := 1) (st := []) F M_X11_apply q1018 q1019 q1017 ⟨by decide, by decide⟩ (Nat.le_of_ble_eq_true rfl) (by decide) (ci := 12) rfl (by decide) g24 dL_does_142 rfl h (fun z hz => c_X11_apply l F.ht G x0 x2 x3 M z hz) (fun ex v1 M1 hex hcs hres E ce q ρ1 H1 locs1 ls1 hE hD hl hce hcv hcl rest => hndDoes F htb (by decide) (by decide) (by decide) (hcs.elim Or.inl (fun z => Or.inr z.2)) hres hE hD hl hce hcv hcl rest) (fun v21 M22 h kl23 => ?_)
                    refine j_st (st' := [(true, v21)]) rfl ?_
                    refine j_goto F 211 (by decide) dL_does_145 ?_
                    exact j_iret F h dL_does_211
                · skip
                  refine j_aload_n F 0 rfl rfl dL_does_124 ?_
                  refine j_iload_n F 2 rfl rfl dL_does_125 ?_
                  refine j_iload_n F 3 rfl rfl dL_does_126 ?_
                  refine j_callSH (nh := 3) (d' := 11) (argl := [(false, x0), (true, x2), (true, x3)]) (rk9 := 1) (st := []) F M_L_cancelled q997 q996 ⟨by decide, by decide⟩ (Nat.le_of_ble_eq_true rfl) (by decide) dL_does_127 rfl h (fun z hz => c_L_cancelled l F.ht G x0 x2 x3 M z hz) (fun ex v1 M1 hex hcs hres E ce q ρ1 H1 locs1 ls1 hE hD hl hce hcv hcl rest => hndDoes F htb (by decide) (by decide) (by decide) (hcs.elim Or.inl (fun z => Or.inr z.2)) hres hE hD hl hce hcv hcl rest) (fun v25 M26 h kl27 => ?_)
                  refine j_st (st' := [(true, v25)]) rfl ?_
                  refine j_goto F 211 (by decide) dL_does_130 ?_
                  exact j_iret F h dL_does_211
              · skip
                refine j_aload_n F 0 rfl rfl dL_does_101 ?_
                refine j_iload_n F 2 rfl rfl dL_does_102 ?_
                refine j_iload_n F 3 rfl rfl dL_does_103 ?_
                refine j_iload F 4 rfl dL_does_104 ?_
                refine j_iload F 5 rfl dL_does_106 ?_
                refine j_iload F 6 rfl dL_does_108 ?_
                refine j_iload F 7 rfl dL_does_110 ?_
                obtain ⟨g31, h⟩ := gua h
                refine j_callVH (nh := 3) (d' := 10) (argl := [(true, x2), (true, x3), (true, x4), (true, x5), (true, x6), (true, x7)]) (rk9 := 1) (st := []) F M_X11_request q948 q949 q947 ⟨by decide, by decide⟩ (Nat.le_of_ble_eq_true rfl) (by decide) (ci := 12) rfl (by decide) g31 dL_does_112 rfl h (fun z hz => c_X11_request l F.ht G x0 x2 x3 x4 x5 x6 x7 M z hz) (fun ex v1 M1 hex hcs hres E ce q ρ1 H1 locs1 ls1 hE hD hl hce hcv hcl rest => hndDoes F htb (by decide) (by decide) (by decide) (hcs.elim Or.inl (fun z => Or.inr z.2)) hres hE hD hl hce hcv hcl rest) (fun v28 M29 h kl30 => ?_)
                refine j_st (st' := [(true, v28)]) rfl ?_
                refine j_goto F 211 (by decide) dL_does_115 ?_
                exact j_iret F h dL_does_211
            · skip
              refine j_aload_n F 0 rfl rfl dL_does_76 ?_
              refine j_iload_n F 2 rfl rfl dL_does_77 ?_
              refine j_iload_n F 3 rfl rfl dL_does_78 ?_
              refine j_iload F 4 rfl dL_does_79 ?_
              refine j_iload F 5 rfl dL_does_81 ?_
              refine j_iload F 6 rfl dL_does_83 ?_
              refine j_iload F 7 rfl dL_does_85 ?_
              refine j_iload F 8 rfl dL_does_87 ?_
              obtain ⟨g35, h⟩ := gua h
              refine j_callVH (nh := 3) (d' := 10) (argl := [(true, x2), (true, x3), (true, x4), (true, x5), (true, x6), (true, x7), (true, x8)]) (rk9 := 1) (st := []) F M_X11_change q883 q884 q882 ⟨by decide, by decide⟩ (Nat.le_of_ble_eq_true rfl) (by decide) (ci := 12) rfl (by decide) g35 dL_does_89 rfl h (fun z hz => c_X11_change l F.ht G x0 x2 x3 x4 x5 x6 x7 x8 M z hz) (fun ex v1 M1 hex hcs hres E ce q ρ1 H1 locs1 ls1 hE hD hl hce hcv hcl rest => hndDoes F htb (by decide) (by decide) (by decide) (hcs.elim Or.inl (fun z => Or.inr z.2)) hres hE hD hl hce hcv hcl rest) (fun v32 M33 h kl34 => ?_)
              refine j_st (st' := [(true, v32)]) rfl ?_
              refine j_goto F 211 (by decide) dL_does_92 ?_
              exact j_iret F h dL_does_211
          · skip
            refine j_aload_n F 0 rfl rfl dL_does_62 ?_
            refine j_iload_n F 2 rfl rfl dL_does_63 ?_
            refine j_iload_n F 3 rfl rfl dL_does_64 ?_
            refine j_callSH (nh := 3) (d' := 11) (argl := [(false, x0), (true, x2), (true, x3)]) (rk9 := 1) (st := []) F M_L_closed q825 q824 ⟨by decide, by decide⟩ (Nat.le_of_ble_eq_true rfl) (by decide) dL_does_65 rfl h (fun z hz => c_L_closed l F.ht G x0 x2 x3 M z hz) (fun ex v1 M1 hex hcs hres E ce q ρ1 H1 locs1 ls1 hE hD hl hce hcv hcl rest => hndDoes F htb (by decide) (by decide) (by decide) (hcs.elim Or.inl (fun z => Or.inr z.2)) hres hE hD hl hce hcv hcl rest) (fun v36 M37 h kl38 => ?_)
            refine j_st (st' := [(true, v36)]) rfl ?_
            refine j_goto F 211 (by decide) dL_does_68 ?_
            exact j_iret F h dL_does_211
        · skip
          refine j_aload_n F 0 rfl rfl dL_does_48 ?_
          refine j_iload_n F 2 rfl rfl dL_does_49 ?_
          refine j_iload_n F 3 rfl rfl dL_does_50 ?_
          obtain ⟨g42, h⟩ := gua h
          refine j_callVH (nh := 3) (d' := 10) (argl := [(true, x2), (true, x3)]) (rk9 := 1) (st := []) F M_X11_open q663 q664 q662 ⟨by decide, by decide⟩ (Nat.le_of_ble_eq_true rfl) (by decide) (ci := 12) rfl (by decide) g42 dL_does_51 rfl h (fun z hz => c_X11_open l F.ht G x0 x2 x3 M z hz) (fun ex v1 M1 hex hcs hres E ce q ρ1 H1 locs1 ls1 hE hD hl hce hcv hcl rest => hndDoes F htb (by decide) (by decide) (by decide) (hcs.elim Or.inl (fun z => Or.inr z.2)) hres hE hD hl hce hcv hcl rest) (fun v39 M40 h kl41 => ?_)
          refine j_st (st' := [(true, v39)]) rfl ?_
          refine j_goto F 211 (by decide) dL_does_54 ?_
          exact j_iret F h dL_does_211
      · skip
        refine j_aload_n F 0 rfl rfl dL_does_32 ?_
        refine j_iload_n F 2 rfl rfl dL_does_33 ?_
        refine j_iload_n F 3 rfl rfl dL_does_34 ?_
        refine j_iload F 4 rfl dL_does_35 ?_
        obtain ⟨g46, h⟩ := gua h
        refine j_callVH (nh := 3) (d' := 7) (argl := [(true, x2), (true, x3), (true, x4)]) (rk9 := 1) (st := []) F M_X11_server q443 q444 q442 ⟨by decide, by decide⟩ (Nat.le_of_ble_eq_true rfl) (by decide) (ci := 12) rfl (by decide) g46 dL_does_37 rfl h (fun z hz => c_X11_server l F.ht G x0 x2 x3 x4 M z hz) (fun ex v1 M1 hex hcs hres E ce q ρ1 H1 locs1 ls1 hE hD hl hce hcv hcl rest => hndDoes F htb (by decide) (by decide) (by decide) (hcs.elim Or.inl (fun z => Or.inr z.2)) hres hE hD hl hce hcv hcl rest) (fun v43 M44 h kl45 => ?_)
        refine j_st (st' := [(true, v43)]) rfl ?_
        refine j_goto F 211 (by decide) dL_does_40 ?_
        exact j_iret F h dL_does_211
    · skip
      refine j_aload_n F 0 rfl rfl dL_does_18 ?_
      refine j_iload_n F 2 rfl rfl dL_does_19 ?_
      refine j_iload_n F 3 rfl rfl dL_does_20 ?_
      obtain ⟨g50, h⟩ := gua h
      refine j_callVH (nh := 3) (d' := 7) (argl := [(true, x2), (true, x3)]) (rk9 := 1) (st := []) F M_X11_store q617 q618 q616 ⟨by decide, by decide⟩ (Nat.le_of_ble_eq_true rfl) (by decide) (ci := 12) rfl (by decide) g50 dL_does_21 rfl h (fun z hz => c_X11_store l F.ht G x0 x2 x3 M z hz) (fun ex v1 M1 hex hcs hres E ce q ρ1 H1 locs1 ls1 hE hD hl hce hcv hcl rest => hndDoes F htb (by decide) (by decide) (by decide) (hcs.elim Or.inl (fun z => Or.inr z.2)) hres hE hD hl hce hcv hcl rest) (fun v47 M48 h kl49 => ?_)
      refine j_st (st' := [(true, v47)]) rfl ?_
      refine j_goto F 211 (by decide) dL_does_24 ?_
      exact j_iret F h dL_does_211
  · skip
    refine j_aload_n F 0 rfl rfl dL_does_4 ?_
    refine j_iload_n F 2 rfl rfl dL_does_5 ?_
    refine j_iload_n F 3 rfl rfl dL_does_6 ?_
    obtain ⟨g54, h⟩ := gua h
    refine j_callVH (nh := 3) (d' := 6) (argl := [(true, x2), (true, x3)]) (rk9 := 1) (st := []) F M_X11_file q340 q341 q339 ⟨by decide, by decide⟩ (Nat.le_of_ble_eq_true rfl) (by decide) (ci := 12) rfl (by decide) g54 dL_does_7 rfl h (fun z hz => c_X11_file l F.ht G x0 x2 x3 M z hz) (fun ex v1 M1 hex hcs hres E ce q ρ1 H1 locs1 ls1 hE hD hl hce hcv hcl rest => hndDoes F htb (by decide) (by decide) (by decide) (hcs.elim Or.inl (fun z => Or.inr z.2)) hres hE hD hl hce hcv hcl rest) (fun v51 M52 h kl53 => ?_)
    refine j_st (st' := [(true, v51)]) rfl ?_
    refine j_goto F 211 (by decide) dL_does_10 ?_
    exact j_iret F h dL_does_211
theorem c_L_does (l : Launch) (hl : l.stackTraces = false) (G : Gt) (x0 x1 x2 x3 x4 x5 x6 x7 x8 : Int) (M : Mo) (z : RS) (h : L_does x0 x1 x2 x3 x4 x5 x6 x7 x8 M = some z) : CT l G yL_does (cnW yL_does cL_does 10 (some FieldType.int) [(0, 211, 212, 67), (0, 211, 218, 69), (0, 211, 224, 71)]) 13 [(false, x0), (true, x1), (true, x2), (true, x3), (true, x4), (true, x5), (true, x6), (true, x7), (true, x8)] M 1 z :=
  ctOfH hl (by decide) (Nat.le_of_ble_eq_true rfl) (fun p e R s m args below meth c ρ F htb hnm => w_L_does_0 F htb hnm x0 x1 x2 x3 x4 x5 x6 x7 x8 M h)
theorem dL_asks_0 : decode cL_asks 0 = .ok (.iload_n 1, 1) := by decide +kernel
theorem dL_asks_1 : decode cL_asks 1 = .ok (.ifCond .ne 11, 3) := by decide +kernel
theorem dL_asks_12 : decode cL_asks 12 = .ok (.iload_n 1, 1) := by decide +kernel
theorem dL_asks_13 : decode cL_asks 13 = .ok (.iconst 1, 1) := by decide +kernel
theorem dL_asks_14 : decode cL_asks 14 = .ok (.if_icmp .ne 11, 3) := by decide +kernel
theorem dL_asks_25 : decode cL_asks 25 = .ok (.iload_n 1, 1) := by decide +kernel
theorem dL_asks_26 : decode cL_asks 26 = .ok (.iconst 2, 1) := by decide +kernel
theorem dL_asks_27 : decode cL_asks 27 = .ok (.if_icmp .ne 12, 3) := by decide +kernel
theorem dL_asks_39 : decode cL_asks 39 = .ok (.iload_n 1, 1) := by decide +kernel
theorem dL_asks_40 : decode cL_asks 40 = .ok (.iconst 3, 1) := by decide +kernel
theorem dL_asks_41 : decode cL_asks 41 = .ok (.if_icmp .ne 14, 3) := by decide +kernel
theorem dL_asks_55 : decode cL_asks 55 = .ok (.iload_n 1, 1) := by decide +kernel
theorem dL_asks_56 : decode cL_asks 56 = .ok (.iconst 4, 1) := by decide +kernel
theorem dL_asks_57 : decode cL_asks 57 = .ok (.if_icmp .ne 12, 3) := by decide +kernel
theorem dL_asks_69 : decode cL_asks 69 = .ok (.iload_n 1, 1) := by decide +kernel
theorem dL_asks_70 : decode cL_asks 70 = .ok (.iconst 5, 1) := by decide +kernel
theorem dL_asks_71 : decode cL_asks 71 = .ok (.if_icmp .ne 14, 3) := by decide +kernel
theorem dL_asks_85 : decode cL_asks 85 = .ok (.iload_n 1, 1) := by decide +kernel
theorem dL_asks_86 : decode cL_asks 86 = .ok (.bipush 6, 2) := by decide +kernel
theorem dL_asks_88 : decode cL_asks 88 = .ok (.if_icmp .ne 14, 3) := by decide +kernel
theorem dL_asks_102 : decode cL_asks 102 = .ok (.iload_n 1, 1) := by decide +kernel
theorem dL_asks_103 : decode cL_asks 103 = .ok (.bipush 7, 2) := by decide +kernel
theorem dL_asks_105 : decode cL_asks 105 = .ok (.if_icmp .ne 14, 3) := by decide +kernel
theorem dL_asks_119 : decode cL_asks 119 = .ok (.iload_n 1, 1) := by decide +kernel
theorem dL_asks_120 : decode cL_asks 120 = .ok (.bipush 8, 2) := by decide +kernel
theorem dL_asks_122 : decode cL_asks 122 = .ok (.if_icmp .ne 14, 3) := by decide +kernel
theorem dL_asks_136 : decode cL_asks 136 = .ok (.iload_n 1, 1) := by decide +kernel
theorem dL_asks_137 : decode cL_asks 137 = .ok (.bipush 9, 2) := by decide +kernel
theorem dL_asks_139 : decode cL_asks 139 = .ok (.if_icmp .ne 12, 3) := by decide +kernel
theorem dL_asks_151 : decode cL_asks 151 = .ok (.aload_n 0, 1) := by decide +kernel
theorem dL_asks_152 : decode cL_asks 152 = .ok (.iload_n 2, 1) := by decide +kernel
theorem dL_asks_153 : decode cL_asks 153 = .ok (.iload_n 3, 1) := by decide +kernel
theorem dL_asks_154 : decode cL_asks 154 = .ok (.iload 4, 2) := by decide +kernel
set_option maxRecDepth 100000 in
theorem q1586 : Cond.code yX11_fault cX11_fault 6 (some FieldType.int) ∈ GT := gt 1586 (rfl) (by decide +kernel)
theorem M_X11_fault : MY yX11_fault cX11_fault 6 (some FieldType.int) 3 := ⟨q1586, q53, by decide +kernel, by decide +kernel⟩
set_option maxRecDepth 100000 in
theorem q1584 : Cond.instanceMethod yX11_fault ∈ GT := gt 1584 (by decide +kernel) (by decide +kernel)
set_option maxRecDepth 100000 in
theorem q1585 : Cond.selects RX11 yX11_fault yX11_fault ∈ GT := gt 1585 (by decide +kernel) (by decide +kernel)
set_option maxRecDepth 100000 in
theorem q1583 : Cond.methodLink RL 105 yX11_fault ∈ GT := gt 1583 (by decide +kernel) (by decide +kernel)
theorem dL_asks_156 : decode cL_asks 156 = .ok (.invokevirtual 105, 3) := by decide +kernel
theorem dL_asks_159 : decode cL_asks 159 = .ok (.ireturn, 1) := by decide +kernel
theorem dL_asks_142 : decode cL_asks 142 = .ok (.aload_n 0, 1) := by decide +kernel
theorem dL_asks_143 : decode cL_asks 143 = .ok (.iload_n 2, 1) := by decide +kernel
theorem dL_asks_144 : decode cL_asks 144 = .ok (.iload_n 3, 1) := by decide +kernel
set_option maxRecDepth 100000 in
theorem q1581 : Cond.code yX11_faults cX11_faults 4 (some FieldType.int) ∈ GT := gt 1581 (rfl) (by decide +kernel)
theorem M_X11_faults : MY yX11_faults cX11_faults 4 (some FieldType.int) 2 := ⟨q1581, q53, by decide +kernel, by decide +kernel⟩
set_option maxRecDepth 100000 in
theorem q1579 : Cond.instanceMethod yX11_faults ∈ GT := gt 1579 (by decide +kernel) (by decide +kernel)
set_option maxRecDepth 100000 in
theorem q1580 : Cond.selects RX11 yX11_faults yX11_faults ∈ GT := gt 1580 (by decide +kernel) (by decide +kernel)
set_option maxRecDepth 100000 in
theorem q1578 : Cond.methodLink RL 102 yX11_faults ∈ GT := gt 1578 (by decide +kernel) (by decide +kernel)
theorem dL_asks_145 : decode cL_asks 145 = .ok (.invokevirtual 102, 3) := by decide +kernel
theorem dL_asks_148 : decode cL_asks 148 = .ok (.goto 11, 3) := by decide +kernel
theorem dL_asks_125 : decode cL_asks 125 = .ok (.aload_n 0, 1) := by decide +kernel
theorem dL_asks_126 : decode cL_asks 126 = .ok (.iload_n 2, 1) := by decide +kernel
theorem dL_asks_127 : decode cL_asks 127 = .ok (.iload_n 3, 1) := by decide +kernel
theorem dL_asks_128 : decode cL_asks 128 = .ok (.iload 4, 2) := by decide +kernel
set_option maxRecDepth 100000 in
theorem q1576 : Cond.code yX11_id cX11_id 5 (some FieldType.int) ∈ GT := gt 1576 (rfl) (by decide +kernel)
theorem M_X11_id : MY yX11_id cX11_id 5 (some FieldType.int) 3 := ⟨q1576, q53, by decide +kernel, by decide +kernel⟩
set_option maxRecDepth 100000 in
theorem q1574 : Cond.instanceMethod yX11_id ∈ GT := gt 1574 (by decide +kernel) (by decide +kernel)
set_option maxRecDepth 100000 in
theorem q1575 : Cond.selects RX11 yX11_id yX11_id ∈ GT := gt 1575 (by decide +kernel) (by decide +kernel)
set_option maxRecDepth 100000 in
theorem q1573 : Cond.methodLink RL 99 yX11_id ∈ GT := gt 1573 (by decide +kernel) (by decide +kernel)
theorem dL_asks_130 : decode cL_asks 130 = .ok (.invokevirtual 99, 3) := by decide +kernel
theorem dL_asks_133 : decode cL_asks 133 = .ok (.goto 26, 3) := by decide +kernel
theorem dL_asks_108 : decode cL_asks 108 = .ok (.aload_n 0, 1) := by decide +kernel
theorem dL_asks_109 : decode cL_asks 109 = .ok (.iload_n 2, 1) := by decide +kernel
theorem dL_asks_110 : decode cL_asks 110 = .ok (.iload_n 3, 1) := by decide +kernel
theorem dL_asks_111 : decode cL_asks 111 = .ok (.iload 4, 2) := by decide +kernel
set_option maxRecDepth 100000 in
theorem q1566 : Cond.code yX11_token cX11_token 6 (some FieldType.int) ∈ GT := gt 1566 (rfl) (by decide +kernel)
theorem M_X11_token : MY yX11_token cX11_token 6 (some FieldType.int) 3 := ⟨q1566, q53, by decide +kernel, by decide +kernel⟩
set_option maxRecDepth 100000 in
theorem q1564 : Cond.instanceMethod yX11_token ∈ GT := gt 1564 (by decide +kernel) (by decide +kernel)
set_option maxRecDepth 100000 in
theorem q1565 : Cond.selects RX11 yX11_token yX11_token ∈ GT := gt 1565 (by decide +kernel) (by decide +kernel)
set_option maxRecDepth 100000 in
theorem q1563 : Cond.methodLink RL 96 yX11_token ∈ GT := gt 1563 (by decide +kernel) (by decide +kernel)
theorem dL_asks_113 : decode cL_asks 113 = .ok (.invokevirtual 96, 3) := by decide +kernel
theorem dL_asks_116 : decode cL_asks 116 = .ok (.goto 43, 3) := by decide +kernel
theorem dL_asks_91 : decode cL_asks 91 = .ok (.aload_n 0, 1) := by decide +kernel
theorem dL_asks_92 : decode cL_asks 92 = .ok (.iload_n 2, 1) := by decide +kernel
theorem dL_asks_93 : decode cL_asks 93 = .ok (.iload_n 3, 1) := by decide +kernel
theorem dL_asks_94 : decode cL_asks 94 = .ok (.iload 4, 2) := by decide +kernel
set_option maxRecDepth 100000 in
theorem q1561 : Cond.code yX11_value cX11_value 5 (some FieldType.int) ∈ GT := gt 1561 (rfl) (by decide +kernel)
theorem M_X11_value : MY yX11_value cX11_value 5 (some FieldType.int) 3 := ⟨q1561, q53, by decide +kernel, by decide +kernel⟩
set_option maxRecDepth 100000 in
theorem q1559 : Cond.instanceMethod yX11_value ∈ GT := gt 1559 (by decide +kernel) (by decide +kernel)
set_option maxRecDepth 100000 in
theorem q1560 : Cond.selects RX11 yX11_value yX11_value ∈ GT := gt 1560 (by decide +kernel) (by decide +kernel)
set_option maxRecDepth 100000 in
theorem q1558 : Cond.methodLink RL 93 yX11_value ∈ GT := gt 1558 (by decide +kernel) (by decide +kernel)
theorem dL_asks_96 : decode cL_asks 96 = .ok (.invokevirtual 93, 3) := by decide +kernel
theorem dL_asks_99 : decode cL_asks 99 = .ok (.goto 60, 3) := by decide +kernel
theorem dL_asks_74 : decode cL_asks 74 = .ok (.aload_n 0, 1) := by decide +kernel
theorem dL_asks_75 : decode cL_asks 75 = .ok (.iload_n 2, 1) := by decide +kernel
theorem dL_asks_76 : decode cL_asks 76 = .ok (.iload_n 3, 1) := by decide +kernel
theorem dL_asks_77 : decode cL_asks 77 = .ok (.iload 4, 2) := by decide +kernel
set_option maxRecDepth 100000 in
theorem q1548 : Cond.code yX11_item cX11_item 6 (some FieldType.int) ∈ GT := gt 1548 (rfl) (by decide +kernel)
theorem M_X11_item : MY yX11_item cX11_item 6 (some FieldType.int) 3 := ⟨q1548, q53, by decide +kernel, by decide +kernel⟩
set_option maxRecDepth 100000 in
theorem q1546 : Cond.instanceMethod yX11_item ∈ GT := gt 1546 (by decide +kernel) (by decide +kernel)
set_option maxRecDepth 100000 in
theorem q1547 : Cond.selects RX11 yX11_item yX11_item ∈ GT := gt 1547 (by decide +kernel) (by decide +kernel)
set_option maxRecDepth 100000 in
theorem q1545 : Cond.methodLink RL 90 yX11_item ∈ GT := gt 1545 (by decide +kernel) (by decide +kernel)
theorem dL_asks_79 : decode cL_asks 79 = .ok (.invokevirtual 90, 3) := by decide +kernel
theorem dL_asks_82 : decode cL_asks 82 = .ok (.goto 77, 3) := by decide +kernel
theorem dL_asks_60 : decode cL_asks 60 = .ok (.aload_n 0, 1) := by decide +kernel
theorem dL_asks_61 : decode cL_asks 61 = .ok (.iload_n 2, 1) := by decide +kernel
theorem dL_asks_62 : decode cL_asks 62 = .ok (.iload_n 3, 1) := by decide +kernel
set_option maxRecDepth 100000 in
theorem q1544 : Cond.code yX11_standing cX11_standing 4 (some FieldType.int) ∈ GT := gt 1544 (rfl) (by decide +kernel)
theorem M_X11_standing : MY yX11_standing cX11_standing 4 (some FieldType.int) 2 := ⟨q1544, q53, by decide +kernel, by decide +kernel⟩
set_option maxRecDepth 100000 in
theorem q1542 : Cond.instanceMethod yX11_standing ∈ GT := gt 1542 (by decide +kernel) (by decide +kernel)
set_option maxRecDepth 100000 in
theorem q1543 : Cond.selects RX11 yX11_standing yX11_standing ∈ GT := gt 1543 (by decide +kernel) (by decide +kernel)
set_option maxRecDepth 100000 in
theorem q1541 : Cond.methodLink RL 87 yX11_standing ∈ GT := gt 1541 (by decide +kernel) (by decide +kernel)
theorem dL_asks_63 : decode cL_asks 63 = .ok (.invokevirtual 87, 3) := by decide +kernel
theorem dL_asks_66 : decode cL_asks 66 = .ok (.goto 93, 3) := by decide +kernel
theorem dL_asks_44 : decode cL_asks 44 = .ok (.aload_n 0, 1) := by decide +kernel
theorem dL_asks_45 : decode cL_asks 45 = .ok (.iload_n 2, 1) := by decide +kernel
theorem dL_asks_46 : decode cL_asks 46 = .ok (.iload_n 3, 1) := by decide +kernel
theorem dL_asks_47 : decode cL_asks 47 = .ok (.iload 4, 2) := by decide +kernel
set_option maxRecDepth 100000 in
theorem q1538 : Cond.code yX11_unit cX11_unit 6 (some FieldType.char) ∈ GT := gt 1538 (rfl) (by decide +kernel)
theorem M_X11_unit : MY yX11_unit cX11_unit 6 (some FieldType.char) 3 := ⟨q1538, q53, by decide +kernel, by decide +kernel⟩
set_option maxRecDepth 100000 in
theorem q1536 : Cond.instanceMethod yX11_unit ∈ GT := gt 1536 (by decide +kernel) (by decide +kernel)
set_option maxRecDepth 100000 in
theorem q1537 : Cond.selects RX11 yX11_unit yX11_unit ∈ GT := gt 1537 (by decide +kernel) (by decide +kernel)
set_option maxRecDepth 100000 in
theorem q1535 : Cond.methodLink RL 83 yX11_unit ∈ GT := gt 1535 (by decide +kernel) (by decide +kernel)
theorem dL_asks_49 : decode cL_asks 49 = .ok (.invokevirtual 83, 3) := by decide +kernel
theorem dL_asks_52 : decode cL_asks 52 = .ok (.goto 107, 3) := by decide +kernel
theorem dL_asks_30 : decode cL_asks 30 = .ok (.aload_n 0, 1) := by decide +kernel
theorem dL_asks_31 : decode cL_asks 31 = .ok (.iload_n 2, 1) := by decide +kernel
theorem dL_asks_32 : decode cL_asks 32 = .ok (.iload_n 3, 1) := by decide +kernel
set_option maxRecDepth 100000 in
theorem q1529 : Cond.code yX11_version cX11_version 3 (some FieldType.int) ∈ GT := gt 1529 (rfl) (by decide +kernel)
theorem M_X11_version : MY yX11_version cX11_version 3 (some FieldType.int) 2 := ⟨q1529, q53, by decide +kernel, by decide +kernel⟩
set_option maxRecDepth 100000 in
theorem q1527 : Cond.instanceMethod yX11_version ∈ GT := gt 1527 (by decide +kernel) (by decide +kernel)
set_option maxRecDepth 100000 in
theorem q1528 : Cond.selects RX11 yX11_version yX11_version ∈ GT := gt 1528 (by decide +kernel) (by decide +kernel)
set_option maxRecDepth 100000 in
theorem q1526 : Cond.methodLink RL 80 yX11_version ∈ GT := gt 1526 (by decide +kernel) (by decide +kernel)
theorem dL_asks_33 : decode cL_asks 33 = .ok (.invokevirtual 80, 3) := by decide +kernel
theorem dL_asks_36 : decode cL_asks 36 = .ok (.goto 123, 3) := by decide +kernel
theorem dL_asks_17 : decode cL_asks 17 = .ok (.aload_n 0, 1) := by decide +kernel
theorem dL_asks_18 : decode cL_asks 18 = .ok (.iload_n 2, 1) := by decide +kernel
set_option maxRecDepth 100000 in
theorem q1517 : Cond.code yX11_waiting cX11_waiting 2 (some FieldType.int) ∈ GT := gt 1517 (rfl) (by decide +kernel)
theorem M_X11_waiting : MY yX11_waiting cX11_waiting 2 (some FieldType.int) 1 := ⟨q1517, q53, by decide +kernel, by decide +kernel⟩
set_option maxRecDepth 100000 in
theorem q1515 : Cond.instanceMethod yX11_waiting ∈ GT := gt 1515 (by decide +kernel) (by decide +kernel)
set_option maxRecDepth 100000 in
theorem q1516 : Cond.selects RX11 yX11_waiting yX11_waiting ∈ GT := gt 1516 (by decide +kernel) (by decide +kernel)
set_option maxRecDepth 100000 in
theorem q1514 : Cond.methodLink RL 77 yX11_waiting ∈ GT := gt 1514 (by decide +kernel) (by decide +kernel)
theorem dL_asks_19 : decode cL_asks 19 = .ok (.invokevirtual 77, 3) := by decide +kernel
theorem dL_asks_22 : decode cL_asks 22 = .ok (.goto 137, 3) := by decide +kernel
theorem dL_asks_4 : decode cL_asks 4 = .ok (.aload_n 0, 1) := by decide +kernel
theorem dL_asks_5 : decode cL_asks 5 = .ok (.iload_n 2, 1) := by decide +kernel
set_option maxRecDepth 100000 in
theorem q580 : Cond.code yX11_name cX11_name 2 (some FieldType.char) ∈ GT := gt 580 (rfl) (by decide +kernel)
theorem M_X11_name : MY yX11_name cX11_name 2 (some FieldType.char) 1 := ⟨q580, q53, by decide +kernel, by decide +kernel⟩
set_option maxRecDepth 100000 in
theorem q578 : Cond.instanceMethod yX11_name ∈ GT := gt 578 (by decide +kernel) (by decide +kernel)
set_option maxRecDepth 100000 in
theorem q579 : Cond.selects RX11 yX11_name yX11_name ∈ GT := gt 579 (by decide +kernel) (by decide +kernel)
set_option maxRecDepth 100000 in
theorem q577 : Cond.methodLink RL 73 yX11_name ∈ GT := gt 577 (by decide +kernel) (by decide +kernel)
theorem dL_asks_6 : decode cL_asks 6 = .ok (.invokevirtual 73, 3) := by decide +kernel
theorem dL_asks_9 : decode cL_asks 9 = .ok (.goto 150, 3) := by decide +kernel
set_option maxHeartbeats 4000000 in
set_option maxRecDepth 100000 in
theorem w_L_asks_0 {p : Program} {l : Launch} {e : Env} {R : Room} {s : State} {m : MethodId} {args : Array Value} {below : List Frame} {meth : Method} {c : Code} {G : Gt} {ρ0 : Int → Nat} {M0 : Mo} {res : RS} (F : Fx p l R s m args meth c cL_asks 6 RL G M0 9 (some FieldType.int)) (htb : c.exceptionTable.toList = tableOf [(0, 159, 160, 67)]) (hnm : meth.name = yL_asks.name) (x0 x1 x2 x3 x4 : Int) (M : Mo) (h : L_asks x0 x1 x2 x3 x4 M = some res) : J p l e R s m args below meth c 6 G ρ0 M0 1 res M 0 [(0, (false, x0)), (1, (true, x1)), (2, (true, x2)), (3, (true, x3)), (4, (true, x4))] [] := by
  unfold L_asks at h
  refine j_iload_n F 1 rfl rfl dL_asks_0 ?_
  refine j_if_ne F 12 (by decide) dL_asks_1 h (fun h => ?_) (fun h => ?_)
  · skip
    refine j_iload_n F 1 rfl rfl dL_asks_12 ?_
    refine j_iconst F dL_asks_13 ?_
    refine j_icmp_ne F 25 (by decide) dL_asks_14 h (fun h => ?_) (fun h => ?_)
    · skip
      refine j_iload_n F 1 rfl rfl dL_asks_25 ?_
      refine j_iconst F dL_asks_26 ?_
      refine j_icmp_ne F 39 (by decide) dL_asks_27 h (fun h => ?_) (fun h => ?_)
      · skip
        refine j_iload_n F 1 rfl rfl dL_asks_39 ?_
        refine j_iconst F dL_asks_40 ?_
        refine j_icmp_ne F 55 (by decide) dL_asks_41 h (fun h => ?_) (fun h => ?_)
        · skip
          refine j_iload_n F 1 rfl rfl dL_asks_55 ?_
          refine j_iconst F dL_asks_56 ?_
          refine j_icmp_ne F 69 (by decide) dL_asks_57 h (fun h => ?_) (fun h => ?_)
          · skip
            refine j_iload_n F 1 rfl rfl dL_asks_69 ?_
            refine j_iconst F dL_asks_70 ?_
            refine j_icmp_ne F 85 (by decide) dL_asks_71 h (fun h => ?_) (fun h => ?_)
            · skip
              refine j_iload_n F 1 rfl rfl dL_asks_85 ?_
              refine j_bipush F (by decide) dL_asks_86 ?_
              refine j_icmp_ne F 102 (by decide) dL_asks_88 h (fun h => ?_) (fun h => ?_)
              · skip
                refine j_iload_n F 1 rfl rfl dL_asks_102 ?_
                refine j_bipush F (by decide) dL_asks_103 ?_
                refine j_icmp_ne F 119 (by decide) dL_asks_105 h (fun h => ?_) (fun h => ?_)
                · skip
                  refine j_iload_n F 1 rfl rfl dL_asks_119 ?_
                  refine j_bipush F (by decide) dL_asks_120 ?_
                  refine j_icmp_ne F 136 (by decide) dL_asks_122 h (fun h => ?_) (fun h => ?_)
                  · skip
                    refine j_iload_n F 1 rfl rfl dL_asks_136 ?_
                    refine j_bipush F (by decide) dL_asks_137 ?_
                    refine j_icmp_ne F 151 (by decide) dL_asks_139 h (fun h => ?_) (fun h => ?_)
                    · skip
                      refine j_aload_n F 0 rfl rfl dL_asks_151 ?_
                      refine j_iload_n F 2 rfl rfl dL_asks_152 ?_
                      refine j_iload_n F 3 rfl rfl dL_asks_153 ?_
                      refine j_iload F 4 rfl dL_asks_154 ?_
                      obtain ⟨g4, h⟩ := gua h
                      refine j_callVH (nh := 1) (d' := 7) (argl := [(true, x2), (true, x3), (true, x4)]) (rk9 := 1) (st := []) F M_X11_fault q1584 q1585 q1583 ⟨by decide, by decide⟩ (Nat.le_of_ble_eq_true rfl) (by decide) (ci := 12) rfl (by decide) g4 dL_asks_156 rfl h (fun z hz => c_X11_fault l F.ht G x0 x2 x3 x4 M z hz) (fun ex v1 M1 hex hcs hres E ce q ρ1 H1 locs1 ls1 hE hD hl hce hcv hcl rest => hndAsks F htb (by decide) (hcs.elim id (fun z => absurd rfl z.1)) hres hE hD hl hce hcv hcl rest) (fun v1 M2 h kl3 => ?_)
                      refine j_st (st' := [(true, v1)]) rfl ?_
                      exact j_iret F h dL_asks_159
                    · skip
                      refine j_aload_n F 0 rfl rfl dL_asks_142 ?_
                      refine j_iload_n F 2 rfl rfl dL_asks_143 ?_
                      refine j_iload_n F 3 rfl rfl dL_asks_144 ?_
                      obtain ⟨g8, h⟩ := gua h
                      refine j_callVH (nh := 1) (d' := 7) (argl := [(true, x2), (true, x3)]) (rk9 := 1) (st := []) F M_X11_faults q1579 q1580 q1578 ⟨by decide, by decide⟩ (Nat.le_of_ble_eq_true rfl) (by decide) (ci := 12) rfl (by decide) g8 dL_asks_145 rfl h (fun z hz => c_X11_faults l F.ht G x0 x2 x3 M z hz) (fun ex v1 M1 hex hcs hres E ce q ρ1 H1 locs1 ls1 hE hD hl hce hcv hcl rest => hndAsks F htb (by decide) (hcs.elim id (fun z => absurd rfl z.1)) hres hE hD hl hce hcv hcl rest) (fun v5 M6 h kl7 => ?_)
                      refine j_st (st' := [(true, v5)]) rfl ?_
                      refine j_goto F 159 (by decide) dL_asks_148 ?_
                      exact j_iret F h dL_asks_159
                  · skip
                    refine j_aload_n F 0 rfl rfl dL_asks_125 ?_
                    refine j_iload_n F 2 rfl rfl dL_asks_126 ?_
                    refine j_iload_n F 3 rfl rfl dL_asks_127 ?_
                    refine j_iload F 4 rfl dL_asks_128 ?_
                    obtain ⟨g12, h⟩ := gua h
                    refine j_callVH (nh := 1) (d' := 7) (argl := [(true, x2), (true, x3), (true, x4)]) (rk9 := 1) (st := []) F M_X11_id q1574 q1575 q1573 ⟨by decide, by decide⟩ (Nat.le_of_ble_eq_true rfl) (by decide) (ci := 12) rfl (by decide) g12 dL_asks_130 rfl h (fun z hz => c_X11_id l F.ht G x0 x2 x3 x4 M z hz) (fun ex v1 M1 hex hcs hres E ce q ρ1 H1 locs1 ls1 hE hD hl hce hcv hcl rest => hndAsks F htb (by decide) (hcs.elim id (fun z => absurd rfl z.1)) hres hE hD hl hce hcv hcl rest) (fun v9 M10 h kl11 => ?_)
                    refine j_st (st' := [(true, v9)]) rfl ?_
                    refine j_goto F 159 (by decide) dL_asks_133 ?_
                    exact j_iret F h dL_asks_159
                · skip
                  refine j_aload_n F 0 rfl rfl dL_asks_108 ?_
                  refine j_iload_n F 2 rfl rfl dL_asks_109 ?_
                  refine j_iload_n F 3 rfl rfl dL_asks_110 ?_
                  refine j_iload F 4 rfl dL_asks_111 ?_
                  obtain ⟨g16, h⟩ := gua h
                  refine j_callVH (nh := 1) (d' := 7) (argl := [(true, x2), (true, x3), (true, x4)]) (rk9 := 1) (st := []) F M_X11_token q1564 q1565 q1563 ⟨by decide, by decide⟩ (Nat.le_of_ble_eq_true rfl) (by decide) (ci := 12) rfl (by decide) g16 dL_asks_113 rfl h (fun z hz => c_X11_token l F.ht G x0 x2 x3 x4 M z hz) (fun ex v1 M1 hex hcs hres E ce q ρ1 H1 locs1 ls1 hE hD hl hce hcv hcl rest => hndAsks F htb (by decide) (hcs.elim id (fun z => absurd rfl z.1)) hres hE hD hl hce hcv hcl rest) (fun v13 M14 h kl15 => ?_)
                  refine j_st (st' := [(true, v13)]) rfl ?_
                  refine j_goto F 159 (by decide) dL_asks_116 ?_
                  exact j_iret F h dL_asks_159
              · skip
                refine j_aload_n F 0 rfl rfl dL_asks_91 ?_
                refine j_iload_n F 2 rfl rfl dL_asks_92 ?_
                refine j_iload_n F 3 rfl rfl dL_asks_93 ?_
                refine j_iload F 4 rfl dL_asks_94 ?_
                obtain ⟨g20, h⟩ := gua h
                refine j_callVH (nh := 1) (d' := 7) (argl := [(true, x2), (true, x3), (true, x4)]) (rk9 := 1) (st := []) F M_X11_value q1559 q1560 q1558 ⟨by decide, by decide⟩ (Nat.le_of_ble_eq_true rfl) (by decide) (ci := 12) rfl (by decide) g20 dL_asks_96 rfl h (fun z hz => c_X11_value l F.ht G x0 x2 x3 x4 M z hz) (fun ex v1 M1 hex hcs hres E ce q ρ1 H1 locs1 ls1 hE hD hl hce hcv hcl rest => hndAsks F htb (by decide) (hcs.elim id (fun z => absurd rfl z.1)) hres hE hD hl hce hcv hcl rest) (fun v17 M18 h kl19 => ?_)
                refine j_st (st' := [(true, v17)]) rfl ?_
                refine j_goto F 159 (by decide) dL_asks_99 ?_
                exact j_iret F h dL_asks_159
            · skip
              refine j_aload_n F 0 rfl rfl dL_asks_74 ?_
              refine j_iload_n F 2 rfl rfl dL_asks_75 ?_
              refine j_iload_n F 3 rfl rfl dL_asks_76 ?_
              refine j_iload F 4 rfl dL_asks_77 ?_
              obtain ⟨g24, h⟩ := gua h
              refine j_callVH (nh := 1) (d' := 7) (argl := [(true, x2), (true, x3), (true, x4)]) (rk9 := 1) (st := []) F M_X11_item q1546 q1547 q1545 ⟨by decide, by decide⟩ (Nat.le_of_ble_eq_true rfl) (by decide) (ci := 12) rfl (by decide) g24 dL_asks_79 rfl h (fun z hz => c_X11_item l F.ht G x0 x2 x3 x4 M z hz) (fun ex v1 M1 hex hcs hres E ce q ρ1 H1 locs1 ls1 hE hD hl hce hcv hcl rest => hndAsks F htb (by decide) (hcs.elim id (fun z => absurd rfl z.1)) hres hE hD hl hce hcv hcl rest) (fun v21 M22 h kl23 => ?_)
              refine j_st (st' := [(true, v21)]) rfl ?_
              refine j_goto F 159 (by decide) dL_asks_82 ?_
              exact j_iret F h dL_asks_159
          · skip
            refine j_aload_n F 0 rfl rfl dL_asks_60 ?_
            refine j_iload_n F 2 rfl rfl dL_asks_61 ?_
            refine j_iload_n F 3 rfl rfl dL_asks_62 ?_
            obtain ⟨g28, h⟩ := gua h
            refine j_callVH (nh := 1) (d' := 7) (argl := [(true, x2), (true, x3)]) (rk9 := 1) (st := []) F M_X11_standing q1542 q1543 q1541 ⟨by decide, by decide⟩ (Nat.le_of_ble_eq_true rfl) (by decide) (ci := 12) rfl (by decide) g28 dL_asks_63 rfl h (fun z hz => c_X11_standing l F.ht G x0 x2 x3 M z hz) (fun ex v1 M1 hex hcs hres E ce q ρ1 H1 locs1 ls1 hE hD hl hce hcv hcl rest => hndAsks F htb (by decide) (hcs.elim id (fun z => absurd rfl z.1)) hres hE hD hl hce hcv hcl rest) (fun v25 M26 h kl27 => ?_)
            refine j_st (st' := [(true, v25)]) rfl ?_
            refine j_goto F 159 (by decide) dL_asks_66 ?_
            exact j_iret F h dL_asks_159
        · skip
          refine j_aload_n F 0 rfl rfl dL_asks_44 ?_
          refine j_iload_n F 2 rfl rfl dL_asks_45 ?_
          refine j_iload_n F 3 rfl rfl dL_asks_46 ?_
          refine j_iload F 4 rfl dL_asks_47 ?_
          obtain ⟨g32, h⟩ := gua h
          refine j_callVH (nh := 1) (d' := 8) (argl := [(true, x2), (true, x3), (true, x4)]) (rk9 := 1) (st := []) F M_X11_unit q1536 q1537 q1535 ⟨by decide, by decide⟩ (Nat.le_of_ble_eq_true rfl) (by decide) (ci := 12) rfl (by decide) g32 dL_asks_49 rfl h (fun z hz => c_X11_unit l F.ht G x0 x2 x3 x4 M z hz) (fun ex v1 M1 hex hcs hres E ce q ρ1 H1 locs1 ls1 hE hD hl hce hcv hcl rest => hndAsks F htb (by decide) (hcs.elim id (fun z => absurd rfl z.1)) hres hE hD hl hce hcv hcl rest) (fun v29 M30 h kl31 => ?_)
          refine j_st (st' := [(true, v29)]) rfl ?_
          refine j_goto F 159 (by decide) dL_asks_52 ?_
          exact j_iret F h dL_asks_159
      · skip
        refine j_aload_n F 0 rfl rfl dL_asks_30 ?_
        refine j_iload_n F 2 rfl rfl dL_asks_31 ?_
        refine j_iload_n F 3 rfl rfl dL_asks_32 ?_
        obtain ⟨g36, h⟩ := gua h
        refine j_callVH (nh := 1) (d' := 8) (argl := [(true, x2), (true, x3)]) (rk9 := 1) (st := []) F M_X11_version q1527 q1528 q1526 ⟨by decide, by decide⟩ (Nat.le_of_ble_eq_true rfl) (by decide) (ci := 12) rfl (by decide) g36 dL_asks_33 rfl h (fun z hz => c_X11_version l F.ht G x0 x2 x3 M z hz) (fun ex v1 M1 hex hcs hres E ce q ρ1 H1 locs1 ls1 hE hD hl hce hcv hcl rest => hndAsks F htb (by decide) (hcs.elim id (fun z => absurd rfl z.1)) hres hE hD hl hce hcv hcl rest) (fun v33 M34 h kl35 => ?_)
        refine j_st (st' := [(true, v33)]) rfl ?_
        refine j_goto F 159 (by decide) dL_asks_36 ?_
        exact j_iret F h dL_asks_159
    · skip
      refine j_aload_n F 0 rfl rfl dL_asks_17 ?_
      refine j_iload_n F 2 rfl rfl dL_asks_18 ?_
      obtain ⟨g40, h⟩ := gua h
      refine j_callVH (nh := 1) (d' := 7) (argl := [(true, x2)]) (rk9 := 1) (st := []) F M_X11_waiting q1515 q1516 q1514 ⟨by decide, by decide⟩ (Nat.le_of_ble_eq_true rfl) (by decide) (ci := 12) rfl (by decide) g40 dL_asks_19 rfl h (fun z hz => c_X11_waiting l F.ht G x0 x2 M z hz) (fun ex v1 M1 hex hcs hres E ce q ρ1 H1 locs1 ls1 hE hD hl hce hcv hcl rest => hndAsks F htb (by decide) (hcs.elim id (fun z => absurd rfl z.1)) hres hE hD hl hce hcv hcl rest) (fun v37 M38 h kl39 => ?_)
      refine j_st (st' := [(true, v37)]) rfl ?_
      refine j_goto F 159 (by decide) dL_asks_22 ?_
      exact j_iret F h dL_asks_159
  · skip
    refine j_aload_n F 0 rfl rfl dL_asks_4 ?_
    refine j_iload_n F 2 rfl rfl dL_asks_5 ?_
    obtain ⟨g44, h⟩ := gua h
    refine j_callVH (nh := 1) (d' := 7) (argl := [(true, x2)]) (rk9 := 1) (st := []) F M_X11_name q578 q579 q577 ⟨by decide, by decide⟩ (Nat.le_of_ble_eq_true rfl) (by decide) (ci := 12) rfl (by decide) g44 dL_asks_6 rfl h (fun z hz => c_X11_name l F.ht G x0 x2 M z hz) (fun ex v1 M1 hex hcs hres E ce q ρ1 H1 locs1 ls1 hE hD hl hce hcv hcl rest => hndAsks F htb (by decide) (hcs.elim id (fun z => absurd rfl z.1)) hres hE hD hl hce hcv hcl rest) (fun v41 M42 h kl43 => ?_)
    refine j_st (st' := [(true, v41)]) rfl ?_
    refine j_goto F 159 (by decide) dL_asks_9 ?_
    exact j_iret F h dL_asks_159
theorem c_L_asks (l : Launch) (hl : l.stackTraces = false) (G : Gt) (x0 x1 x2 x3 x4 : Int) (M : Mo) (z : RS) (h : L_asks x0 x1 x2 x3 x4 M = some z) : CT l G yL_asks (cnW yL_asks cL_asks 6 (some FieldType.int) [(0, 159, 160, 67)]) 9 [(false, x0), (true, x1), (true, x2), (true, x3), (true, x4)] M 1 z :=
  ctOfH hl (by decide) (Nat.le_of_ble_eq_true rfl) (fun p e R s m args below meth c ρ F htb hnm => w_L_asks_0 F htb hnm x0 x1 x2 x3 x4 M h)
theorem dL_isLetter_0 : decode cL_isLetter 0 = .ok (.iload_n 0, 1) := by decide +kernel
theorem dL_isLetter_1 : decode cL_isLetter 1 = .ok (.bipush 96, 2) := by decide +kernel
theorem dL_isLetter_3 : decode cL_isLetter 3 = .ok (.if_icmp .le 13, 3) := by decide +kernel
theorem dL_isLetter_16 : decode cL_isLetter 16 = .ok (.iconst 0, 1) := by decide +kernel
theorem dL_isLetter_17 : decode cL_isLetter 17 = .ok (.ireturn, 1) := by decide +kernel
theorem dL_isLetter_6 : decode cL_isLetter 6 = .ok (.iload_n 0, 1) := by decide +kernel
theorem dL_isLetter_7 : decode cL_isLetter 7 = .ok (.bipush 123, 2) := by decide +kernel
theorem dL_isLetter_9 : decode cL_isLetter 9 = .ok (.if_icmp .ge 7, 3) := by decide +kernel
theorem dL_isLetter_12 : decode cL_isLetter 12 = .ok (.iconst 1, 1) := by decide +kernel
theorem dL_isLetter_13 : decode cL_isLetter 13 = .ok (.goto 4, 3) := by decide +kernel
set_option maxHeartbeats 4000000 in
set_option maxRecDepth 100000 in
theorem w_L_isLetter_0 {p : Program} {l : Launch} {e : Env} {R : Room} {s : State} {m : MethodId} {args : Array Value} {below : List Frame} {meth : Method} {c : Code} {G : Gt} {ρ0 : Int → Nat} {M0 : Mo} {res : RS} (F : Fx p l R s m args meth c cL_isLetter 1 RL G M0 0 (some FieldType.boolean)) (hno : ∀ x ∈ c.exceptionTable.toList, False) (hnm : meth.name = yL_isLetter.name) (x0 : Int) (M : Mo) (h : L_isLetter x0 M = some res) : J p l e R s m args below meth c 1 G ρ0 M0 1 res M 0 [(0, (true, x0))] [] := by
  unfold L_isLetter at h
  refine j_iload_n F 0 rfl rfl dL_isLetter_0 ?_
  refine j_bipush F (by decide) dL_isLetter_1 ?_
  refine j_icmp_le F 16 (by decide) dL_isLetter_3 h (fun h => ?_) (fun h => ?_)
  · skip
    refine j_iconst F dL_isLetter_16 ?_
    exact j_zret F (by decide) h dL_isLetter_17
  · skip
    refine j_iload_n F 0 rfl rfl dL_isLetter_6 ?_
    refine j_bipush F (by decide) dL_isLetter_7 ?_
    refine j_icmp_ge F 16 (by decide) dL_isLetter_9 h (fun h => ?_) (fun h => ?_)
    · skip
      refine j_iconst F dL_isLetter_16 ?_
      exact j_zret F (by decide) h dL_isLetter_17
    · skip
      refine j_iconst F dL_isLetter_12 ?_
      refine j_goto F 17 (by decide) dL_isLetter_13 ?_
      exact j_zret F (by decide) h dL_isLetter_17
theorem c_L_isLetter (l : Launch) (hl : l.stackTraces = false) (G : Gt) (x0 : Int) (M : Mo) (z : RS) (h : L_isLetter x0 M = some z) : CT l G yL_isLetter (cn yL_isLetter cL_isLetter 1 (some FieldType.boolean)) 0 [(true, x0)] M 1 z :=
  ctOf hl (by decide) (Nat.le_of_ble_eq_true rfl) (fun p e R s m args below meth c ρ F hno hnm => w_L_isLetter_0 F hno hnm x0 M h)
theorem dL_isDigit_0 : decode cL_isDigit 0 = .ok (.iload_n 0, 1) := by decide +kernel
theorem dL_isDigit_1 : decode cL_isDigit 1 = .ok (.bipush 47, 2) := by decide +kernel
theorem dL_isDigit_3 : decode cL_isDigit 3 = .ok (.if_icmp .le 13, 3) := by decide +kernel
theorem dL_isDigit_16 : decode cL_isDigit 16 = .ok (.iconst 0, 1) := by decide +kernel
theorem dL_isDigit_17 : decode cL_isDigit 17 = .ok (.ireturn, 1) := by decide +kernel
theorem dL_isDigit_6 : decode cL_isDigit 6 = .ok (.iload_n 0, 1) := by decide +kernel
theorem dL_isDigit_7 : decode cL_isDigit 7 = .ok (.bipush 58, 2) := by decide +kernel
theorem dL_isDigit_9 : decode cL_isDigit 9 = .ok (.if_icmp .ge 7, 3) := by decide +kernel
theorem dL_isDigit_12 : decode cL_isDigit 12 = .ok (.iconst 1, 1) := by decide +kernel
theorem dL_isDigit_13 : decode cL_isDigit 13 = .ok (.goto 4, 3) := by decide +kernel
set_option maxHeartbeats 4000000 in
set_option maxRecDepth 100000 in
theorem w_L_isDigit_0 {p : Program} {l : Launch} {e : Env} {R : Room} {s : State} {m : MethodId} {args : Array Value} {below : List Frame} {meth : Method} {c : Code} {G : Gt} {ρ0 : Int → Nat} {M0 : Mo} {res : RS} (F : Fx p l R s m args meth c cL_isDigit 1 RL G M0 0 (some FieldType.boolean)) (hno : ∀ x ∈ c.exceptionTable.toList, False) (hnm : meth.name = yL_isDigit.name) (x0 : Int) (M : Mo) (h : L_isDigit x0 M = some res) : J p l e R s m args below meth c 1 G ρ0 M0 1 res M 0 [(0, (true, x0))] [] := by
  unfold L_isDigit at h
  refine j_iload_n F 0 rfl rfl dL_isDigit_0 ?_
  refine j_bipush F (by decide) dL_isDigit_1 ?_
  refine j_icmp_le F 16 (by decide) dL_isDigit_3 h (fun h => ?_) (fun h => ?_)
  · skip
    refine j_iconst F dL_isDigit_16 ?_
    exact j_zret F (by decide) h dL_isDigit_17
  · skip
    refine j_iload_n F 0 rfl rfl dL_isDigit_6 ?_
    refine j_bipush F (by decide) dL_isDigit_7 ?_
    refine j_icmp_ge F 16 (by decide) dL_isDigit_9 h (fun h => ?_) (fun h => ?_)
    · skip
      refine j_iconst F dL_isDigit_16 ?_
      exact j_zret F (by decide) h dL_isDigit_17
    · skip
      refine j_iconst F dL_isDigit_12 ?_
      refine j_goto F 17 (by decide) dL_isDigit_13 ?_
      exact j_zret F (by decide) h dL_isDigit_17
theorem c_L_isDigit (l : Launch) (hl : l.stackTraces = false) (G : Gt) (x0 : Int) (M : Mo) (z : RS) (h : L_isDigit x0 M = some z) : CT l G yL_isDigit (cn yL_isDigit cL_isDigit 1 (some FieldType.boolean)) 0 [(true, x0)] M 1 z :=
  ctOf hl (by decide) (Nat.le_of_ble_eq_true rfl) (fun p e R s m args below meth c ρ F hno hnm => w_L_isDigit_0 F hno hnm x0 M h)
theorem dL_place_0 : decode cL_place 0 = .ok (.iconst 0, 1) := by decide +kernel
theorem dL_place_1 : decode cL_place 1 = .ok (.istore_n 3, 1) := by decide +kernel
theorem dL_place_2 : decode cL_place 2 = .ok (.iload_n 1, 1) := by decide +kernel
theorem dL_place_3 : decode cL_place 3 = .ok (.istore 4, 2) := by decide +kernel
theorem dL_place_5 : decode cL_place 5 = .ok (.iload 4, 2) := by decide +kernel
theorem dL_place_7 : decode cL_place 7 = .ok (.ifCond .le 35, 3) := by decide +kernel
theorem dL_place_10 : decode cL_place 10 = .ok (.iload_n 3, 1) := by decide +kernel
theorem dL_place_11 : decode cL_place 11 = .ok (.aload_n 0, 1) := by decide +kernel
theorem dL_place_12 : decode cL_place 12 = .ok (.bipush 63, 2) := by decide +kernel
theorem dL_place_14 : decode cL_place 14 = .ok (.iaload, 1) := by decide +kernel
theorem dL_place_15 : decode cL_place 15 = .ok (.if_icmp .ge 27, 3) := by decide +kernel
theorem dL_place_18 : decode cL_place 18 = .ok (.iload 4, 2) := by decide +kernel
theorem dL_place_20 : decode cL_place 20 = .ok (.aload_n 0, 1) := by decide +kernel
theorem dL_place_21 : decode cL_place 21 = .ok (.iload_n 3, 1) := by decide +kernel
theorem dL_place_22 : decode cL_place 22 = .ok (.iaload, 1) := by decide +kernel
theorem dL_place_23 : decode cL_place 23 = .ok (.bipush 10, 2) := by decide +kernel
theorem dL_place_25 : decode cL_place 25 = .ok (.if_icmp .ne 7, 3) := by decide +kernel
theorem dL_place_32 : decode cL_place 32 = .ok (.iconst 0, 1) := by decide +kernel
theorem dL_place_28 : decode cL_place 28 = .ok (.iconst 1, 1) := by decide +kernel
theorem dL_place_29 : decode cL_place 29 = .ok (.goto 4, 3) := by decide +kernel
theorem dL_place_33 : decode cL_place 33 = .ok (.isub, 1) := by decide +kernel
theorem dL_place_34 : decode cL_place 34 = .ok (.istore 4, 2) := by decide +kernel
theorem dL_place_36 : decode cL_place 36 = .ok (.iinc 3 1, 3) := by decide +kernel
theorem dL_place_39 : decode cL_place 39 = .ok (.goto (-34), 3) := by decide +kernel
theorem dL_place_42 : decode cL_place 42 = .ok (.iload 4, 2) := by decide +kernel
theorem dL_place_44 : decode cL_place 44 = .ok (.ifCond .le 8, 3) := by decide +kernel
theorem dL_place_52 : decode cL_place 52 = .ok (.iload_n 3, 1) := by decide +kernel
theorem dL_place_53 : decode cL_place 53 = .ok (.istore 5, 2) := by decide +kernel
theorem dL_place_47 : decode cL_place 47 = .ok (.aload_n 0, 1) := by decide +kernel
theorem dL_place_48 : decode cL_place 48 = .ok (.bipush 63, 2) := by decide +kernel
theorem dL_place_50 : decode cL_place 50 = .ok (.iaload, 1) := by decide +kernel
theorem dL_place_51 : decode cL_place 51 = .ok (.ireturn, 1) := by decide +kernel
theorem dL_place_55 : decode cL_place 55 = .ok (.iload 5, 2) := by decide +kernel
theorem dL_place_57 : decode cL_place 57 = .ok (.aload_n 0, 1) := by decide +kernel
theorem dL_place_58 : decode cL_place 58 = .ok (.bipush 63, 2) := by decide +kernel
theorem dL_place_60 : decode cL_place 60 = .ok (.iaload, 1) := by decide +kernel
theorem dL_place_61 : decode cL_place 61 = .ok (.if_icmp .ge 26, 3) := by decide +kernel
theorem dL_place_64 : decode cL_place 64 = .ok (.aload_n 0, 1) := by decide +kernel
theorem dL_place_65 : decode cL_place 65 = .ok (.iload 5, 2) := by decide +kernel
theorem dL_place_67 : decode cL_place 67 = .ok (.iaload, 1) := by decide +kernel
theorem dL_place_68 : decode cL_place 68 = .ok (.bipush 10, 2) := by decide +kernel
theorem dL_place_70 : decode cL_place 70 = .ok (.if_icmp .eq 17, 3) := by decide +kernel
theorem dL_place_73 : decode cL_place 73 = .ok (.iload 5, 2) := by decide +kernel
theorem dL_place_75 : decode cL_place 75 = .ok (.iload_n 3, 1) := by decide +kernel
theorem dL_place_76 : decode cL_place 76 = .ok (.isub, 1) := by decide +kernel
theorem dL_place_77 : decode cL_place 77 = .ok (.iload_n 2, 1) := by decide +kernel
theorem dL_place_78 : decode cL_place 78 = .ok (.if_icmp .ge 9, 3) := by decide +kernel
theorem dL_place_81 : decode cL_place 81 = .ok (.iinc 5 1, 3) := by decide +kernel
theorem dL_place_84 : decode cL_place 84 = .ok (.goto (-29), 3) := by decide +kernel
theorem dL_place_87 : decode cL_place 87 = .ok (.iload 5, 2) := by decide +kernel
theorem dL_place_89 : decode cL_place 89 = .ok (.aload_n 0, 1) := by decide +kernel
theorem dL_place_90 : decode cL_place 90 = .ok (.bipush 63, 2) := by decide +kernel
theorem dL_place_92 : decode cL_place 92 = .ok (.iaload, 1) := by decide +kernel
theorem dL_place_93 : decode cL_place 93 = .ok (.if_icmp .ge 28, 3) := by decide +kernel
theorem dL_place_121 : decode cL_place 121 = .ok (.iload 5, 2) := by decide +kernel
theorem dL_place_123 : decode cL_place 123 = .ok (.ireturn, 1) := by decide +kernel
theorem dL_place_96 : decode cL_place 96 = .ok (.aload_n 0, 1) := by decide +kernel
theorem dL_place_97 : decode cL_place 97 = .ok (.iload 5, 2) := by decide +kernel
theorem dL_place_99 : decode cL_place 99 = .ok (.iaload, 1) := by decide +kernel
set_option maxRecDepth 100000 in
theorem q1637 : Cond.constant RL 108 (iI (56319)) ∈ GT := gt 1637 (by decide +kernel) (by decide +kernel)
theorem dL_place_100 : decode cL_place 100 = .ok (.ldc 108, 2) := by decide +kernel
theorem dL_place_102 : decode cL_place 102 = .ok (.if_icmp .le 19, 3) := by decide +kernel
theorem dL_place_105 : decode cL_place 105 = .ok (.aload_n 0, 1) := by decide +kernel
theorem dL_place_106 : decode cL_place 106 = .ok (.iload 5, 2) := by decide +kernel
theorem dL_place_108 : decode cL_place 108 = .ok (.iaload, 1) := by decide +kernel
set_option maxRecDepth 100000 in
theorem q1638 : Cond.constant RL 109 (iI (57344)) ∈ GT := gt 1638 (by decide +kernel) (by decide +kernel)
theorem dL_place_109 : decode cL_place 109 = .ok (.ldc 109, 2) := by decide +kernel
theorem dL_place_111 : decode cL_place 111 = .ok (.if_icmp .ge 10, 3) := by decide +kernel
theorem dL_place_114 : decode cL_place 114 = .ok (.iload 5, 2) := by decide +kernel
theorem dL_place_116 : decode cL_place 116 = .ok (.iconst 1, 1) := by decide +kernel
theorem dL_place_117 : decode cL_place 117 = .ok (.isub, 1) := by decide +kernel
theorem dL_place_118 : decode cL_place 118 = .ok (.goto 5, 3) := by decide +kernel
set_option maxHeartbeats 4000000 in
set_option maxRecDepth 100000 in
theorem w_L_place_33 {p : Program} {l : Launch} {e : Env} {R : Room} {s : State} {m : MethodId} {args : Array Value} {below : List Frame} {meth : Method} {c : Code} {G : Gt} {ρ0 : Int → Nat} {M0 : Mo} {res : RS} (F : Fx p l R s m args meth c cL_place 6 RL G M0 0 (some FieldType.int)) (hno : ∀ x ∈ c.exceptionTable.toList, False) (hnm : meth.name = yL_place.name) (k5 : Int → Int → Int → Int → Mo → Option RS) (hk5 : ∀ (x0 x2 x3 x4 : Int) (M : Mo), k5 x0 x2 x3 x4 M = some res → J p l e R s m args below meth c 6 G ρ0 M0 1 res M 5 [(0, (false, x0)), (2, (true, x2)), (3, (true, x3)), (4, (true, x4))] []) (x0 x2 x3 y0 y1 : Int) (M : Mo) (h : L_place_33 k5 x0 x2 x3 y0 y1 M = some res) : J p l e R s m args below meth c 6 G ρ0 M0 1 res M 33 [(0, (false, x0)), (2, (true, x2)), (3, (true, x3))] [(true, y1), (true, y0)] := by
  unfold L_place_33 at h
  refine j_isub F dL_place_33 ?_
  refine j_istore F (lv' := [(4, (true, (y0 - y1))), (0, (false, x0)), (2, (true, x2)), (3, (true, x3))]) (by decide) rfl dL_place_34 ?_
  refine j_iinc F 3 (lv' := [(3, (true, (x3 + 1))), (4, (true, (y0 - y1))), (0, (false, x0)), (2, (true, x2))]) rfl (by decide) rfl dL_place_36 ?_
  refine j_goto F 5 (by decide) dL_place_39 ?_
  refine j_sub (lv' := [(0, (false, x0)), (2, (true, x2)), (3, (true, (x3 + 1))), (4, (true, (y0 - y1)))]) [2, 3, 0, 1] rfl ?_
  exact hk5 x0 x2 (x3 + 1) (y0 - y1) M h
set_option maxHeartbeats 4000000 in
set_option maxRecDepth 100000 in
theorem w_L_place_87 {p : Program} {l : Launch} {e : Env} {R : Room} {s : State} {m : MethodId} {args : Array Value} {below : List Frame} {meth : Method} {c : Code} {G : Gt} {ρ0 : Int → Nat} {M0 : Mo} {res : RS} (F : Fx p l R s m args meth c cL_place 6 RL G M0 0 (some FieldType.int)) (hno : ∀ x ∈ c.exceptionTable.toList, False) (hnm : meth.name = yL_place.name) (x0 x5 : Int) (M : Mo) (h : L_place_87 x0 x5 M = some res) : J p l e R s m args below meth c 6 G ρ0 M0 1 res M 87 [(0, (false, x0)), (5, (true, x5))] [] := by
  unfold L_place_87 at h
  refine j_iload F 1 rfl dL_place_87 ?_
  refine j_aload_n F 0 rfl rfl dL_place_89 ?_
  refine j_bipush F (by decide) dL_place_90 ?_
  obtain ⟨g1, h⟩ := gua h
  obtain ⟨g2, h⟩ := gua h
  refine j_iaload F g1 g2 dL_place_92 ?_
  refine j_icmp_ge F 121 (by decide) dL_place_93 h (fun h => ?_) (fun h => ?_)
  · skip
    refine j_iload F 1 rfl dL_place_121 ?_
    exact j_iret F h dL_place_123
  · skip
    refine j_aload_n F 0 rfl rfl dL_place_96 ?_
    refine j_iload F 1 rfl dL_place_97 ?_
    obtain ⟨g3, h⟩ := gua h
    refine j_iaload F g1 g3 dL_place_99 ?_
    refine j_ldc (n := 56319) F q1637 dL_place_100 ?_
    refine j_icmp_le F 121 (by decide) dL_place_102 h (fun h => ?_) (fun h => ?_)
    · skip
      refine j_iload F 1 rfl dL_place_121 ?_
      exact j_iret F h dL_place_123
    · skip
      refine j_aload_n F 0 rfl rfl dL_place_105 ?_
      refine j_iload F 1 rfl dL_place_106 ?_
      obtain ⟨g4, h⟩ := gua h
      refine j_iaload F g1 g4 dL_place_108 ?_
      refine j_ldc (n := 57344) F q1638 dL_place_109 ?_
      refine j_icmp_ge F 121 (by decide) dL_place_111 h (fun h => ?_) (fun h => ?_)
      · skip
        refine j_iload F 1 rfl dL_place_121 ?_
        exact j_iret F h dL_place_123
      · skip
        refine j_iload F 1 rfl dL_place_114 ?_
        refine j_iconst F dL_place_116 ?_
        refine j_isub F dL_place_117 ?_
        refine j_goto F 123 (by decide) dL_place_118 ?_
        exact j_iret F h dL_place_123
set_option maxHeartbeats 4000000 in
set_option maxRecDepth 100000 in
theorem w_L_place_55 {p : Program} {l : Launch} {e : Env} {R : Room} {s : State} {m : MethodId} {args : Array Value} {below : List Frame} {meth : Method} {c : Code} {G : Gt} {ρ0 : Int → Nat} {M0 : Mo} {res : RS} (F : Fx p l R s m args meth c cL_place 6 RL G M0 0 (some FieldType.int)) (hno : ∀ x ∈ c.exceptionTable.toList, False) (hnm : meth.name = yL_place.name) (n : Nat) : ∀ (x0 x2 x3 x5 : Int) (M : Mo), L_place_55 n x0 x2 x3 x5 M = some res → J p l e R s m args below meth c 6 G ρ0 M0 1 res M 55 [(0, (false, x0)), (2, (true, x2)), (3, (true, x3)), (5, (true, x5))] [] := by
  induction n with
  | zero => intro x0 x2 x3 x5 M h; cases h
  | succ n ih =>
    intro x0 x2 x3 x5 M h
    rw [L_place_55] at h
    refine j_iload F 3 rfl dL_place_55 ?_
    refine j_aload_n F 0 rfl rfl dL_place_57 ?_
    refine j_bipush F (by decide) dL_place_58 ?_
    obtain ⟨g1, h⟩ := gua h
    obtain ⟨g2, h⟩ := gua h
    refine j_iaload F g1 g2 dL_place_60 ?_
    refine j_icmp_ge F 87 (by decide) dL_place_61 h (fun h => ?_) (fun h => ?_)
    · skip
      refine j_sub (lv' := [(0, (false, x0)), (5, (true, x5))]) [0, 3] rfl ?_
      exact w_L_place_87 F hno hnm x0 x5 M h
    · skip
      refine j_aload_n F 0 rfl rfl dL_place_64 ?_
      refine j_iload F 3 rfl dL_place_65 ?_
      obtain ⟨g3, h⟩ := gua h
      refine j_iaload F g1 g3 dL_place_67 ?_
      refine j_bipush F (by decide) dL_place_68 ?_
      refine j_icmp_eq F 87 (by decide) dL_place_70 h (fun h => ?_) (fun h => ?_)
      · skip
        refine j_sub (lv' := [(0, (false, x0)), (5, (true, x5))]) [0, 3] rfl ?_
        exact w_L_place_87 F hno hnm x0 x5 M h
      · skip
        refine j_iload F 3 rfl dL_place_73 ?_
        refine j_iload_n F 2 rfl rfl dL_place_75 ?_
        refine j_isub F dL_place_76 ?_
        refine j_iload_n F 1 rfl rfl dL_place_77 ?_
        refine j_icmp_ge F 87 (by decide) dL_place_78 h (fun h => ?_) (fun h => ?_)
        · skip
          refine j_sub (lv' := [(0, (false, x0)), (5, (true, x5))]) [0, 3] rfl ?_
          exact w_L_place_87 F hno hnm x0 x5 M h
        · skip
          refine j_iinc F 3 (lv' := [(5, (true, (x5 + 1))), (0, (false, x0)), (2, (true, x2)), (3, (true, x3))]) rfl (by decide) rfl dL_place_81 ?_
          refine j_goto F 55 (by decide) dL_place_84 ?_
          refine j_sub (lv' := [(0, (false, x0)), (2, (true, x2)), (3, (true, x3)), (5, (true, (x5 + 1)))]) [1, 2, 3, 0] rfl ?_
          exact ih x0 x2 x3 (x5 + 1) M h
set_option maxHeartbeats 4000000 in
set_option maxRecDepth 100000 in
theorem w_L_place_42 {p : Program} {l : Launch} {e : Env} {R : Room} {s : State} {m : MethodId} {args : Array Value} {below : List Frame} {meth : Method} {c : Code} {G : Gt} {ρ0 : Int → Nat} {M0 : Mo} {res : RS} (F : Fx p l R s m args meth c cL_place 6 RL G M0 0 (some FieldType.int)) (hno : ∀ x ∈ c.exceptionTable.toList, False) (hnm : meth.name = yL_place.name) (x0 x2 x3 x4 : Int) (M : Mo) (h : L_place_42 x0 x2 x3 x4 M = some res) : J p l e R s m args below meth c 6 G ρ0 M0 1 res M 42 [(0, (false, x0)), (2, (true, x2)), (3, (true, x3)), (4, (true, x4))] [] := by
  unfold L_place_42 at h
  refine j_iload F 3 rfl dL_place_42 ?_
  refine j_if_le F 52 (by decide) dL_place_44 h (fun h => ?_) (fun h => ?_)
  · skip
    refine j_iload_n F 2 rfl rfl dL_place_52 ?_
    refine j_istore F (lv' := [(5, (true, x3)), (0, (false, x0)), (2, (true, x2)), (3, (true, x3)), (4, (true, x4))]) (by decide) rfl dL_place_53 ?_
    refine j_sub (lv' := [(0, (false, x0)), (2, (true, x2)), (3, (true, x3)), (5, (true, x3))]) [1, 2, 3, 0] rfl ?_
    exact w_L_place_55 F hno hnm FU x0 x2 x3 x3 M h
  · skip
    refine j_aload_n F 0 rfl rfl dL_place_47 ?_
    refine j_bipush F (by decide) dL_place_48 ?_
    obtain ⟨g1, h⟩ := gua h
    obtain ⟨g2, h⟩ := gua h
    refine j_iaload F g1 g2 dL_place_50 ?_
    exact j_iret F h dL_place_51
set_option maxHeartbeats 4000000 in
set_option maxRecDepth 100000 in
theorem w_L_place_5 {p : Program} {l : Launch} {e : Env} {R : Room} {s : State} {m : MethodId} {args : Array Value} {below : List Frame} {meth : Method} {c : Code} {G : Gt} {ρ0 : Int → Nat} {M0 : Mo} {res : RS} (F : Fx p l R s m args meth c cL_place 6 RL G M0 0 (some FieldType.int)) (hno : ∀ x ∈ c.exceptionTable.toList, False) (hnm : meth.name = yL_place.name) (n : Nat) : ∀ (x0 x2 x3 x4 : Int) (M : Mo), L_place_5 n x0 x2 x3 x4 M = some res → J p l e R s m args below meth c 6 G ρ0 M0 1 res M 5 [(0, (false, x0)), (2, (true, x2)), (3, (true, x3)), (4, (true, x4))] [] := by
  induction n with
  | zero => intro x0 x2 x3 x4 M h; cases h
  | succ n ih =>
    intro x0 x2 x3 x4 M h
    rw [L_place_5] at h
    refine j_iload F 3 rfl dL_place_5 ?_
    refine j_if_le F 42 (by decide) dL_place_7 h (fun h => ?_) (fun h => ?_)
    · skip
      refine j_sub (lv' := [(0, (false, x0)), (2, (true, x2)), (3, (true, x3)), (4, (true, x4))]) [0, 1, 2, 3] rfl ?_
      exact w_L_place_42 F hno hnm x0 x2 x3 x4 M h
    · skip
      refine j_iload_n F 2 rfl rfl dL_place_10 ?_
      refine j_aload_n F 0 rfl rfl dL_place_11 ?_
      refine j_bipush F (by decide) dL_place_12 ?_
      obtain ⟨g1, h⟩ := gua h
      obtain ⟨g2, h⟩ := gua h
      refine j_iaload F g1 g2 dL_place_14 ?_
      refine j_icmp_ge F 42 (by decide) dL_place_15 h (fun h => ?_) (fun h => ?_)
      · skip
        refine j_sub (lv' := [(0, (false, x0)), (2, (true, x2)), (3, (true, x3)), (4, (true, x4))]) [0, 1, 2, 3] rfl ?_
        exact w_L_place_42 F hno hnm x0 x2 x3 x4 M h
      · skip
        refine j_iload F 3 rfl dL_place_18 ?_
        refine j_aload_n F 0 rfl rfl dL_place_20 ?_
        refine j_iload_n F 2 rfl rfl dL_place_21 ?_
        obtain ⟨g3, h⟩ := gua h
        refine j_iaload F g1 g3 dL_place_22 ?_
        refine j_bipush F (by decide) dL_place_23 ?_
        refine j_icmp_ne F 32 (by decide) dL_place_25 h (fun h => ?_) (fun h => ?_)
        · skip
          refine j_iconst F dL_place_32 ?_
          refine j_sub (lv' := [(0, (false, x0)), (2, (true, x2)), (3, (true, x3))]) [0, 1, 2] rfl ?_
          exact w_L_place_33 F hno hnm (L_place_5 n) ih x0 x2 x3 x4 0 M h
        · skip
          refine j_iconst F dL_place_28 ?_
          refine j_goto F 33 (by decide) dL_place_29 ?_
          refine j_sub (lv' := [(0, (false, x0)), (2, (true, x2)), (3, (true, x3))]) [0, 1, 2] rfl ?_
          exact w_L_place_33 F hno hnm (L_place_5 n) ih x0 x2 x3 x4 1 M h
set_option maxHeartbeats 4000000 in
set_option maxRecDepth 100000 in
theorem w_L_place_0 {p : Program} {l : Launch} {e : Env} {R : Room} {s : State} {m : MethodId} {args : Array Value} {below : List Frame} {meth : Method} {c : Code} {G : Gt} {ρ0 : Int → Nat} {M0 : Mo} {res : RS} (F : Fx p l R s m args meth c cL_place 6 RL G M0 0 (some FieldType.int)) (hno : ∀ x ∈ c.exceptionTable.toList, False) (hnm : meth.name = yL_place.name) (x0 x1 x2 : Int) (M : Mo) (h : L_place x0 x1 x2 M = some res) : J p l e R s m args below meth c 6 G ρ0 M0 1 res M 0 [(0, (false, x0)), (1, (true, x1)), (2, (true, x2))] [] := by
  unfold L_place at h
  refine j_iconst F dL_place_0 ?_
  refine j_istore_n F (lv' := [(3, (true, 0)), (0, (false, x0)), (1, (true, x1)), (2, (true, x2))]) rfl (by decide) rfl dL_place_1 ?_
  refine j_iload_n F 2 rfl rfl dL_place_2 ?_
  refine j_istore F (lv' := [(4, (true, x1)), (3, (true, 0)), (0, (false, x0)), (1, (true, x1)), (2, (true, x2))]) (by decide) rfl dL_place_3 ?_
  refine j_sub (lv' := [(0, (false, x0)), (2, (true, x2)), (3, (true, 0)), (4, (true, x1))]) [2, 4, 1, 0] rfl ?_
  exact w_L_place_5 F hno hnm FU x0 x2 0 x1 M h
theorem c_L_place (l : Launch) (hl : l.stackTraces = false) (G : Gt) (x0 x1 x2 : Int) (M : Mo) (z : RS) (h : L_place x0 x1 x2 M = some z) : CT l G yL_place (cn yL_place cL_place 6 (some FieldType.int)) 0 [(false, x0), (true, x1), (true, x2)] M 1 z :=
  ctOf hl (by decide) (Nat.le_of_ble_eq_true rfl) (fun p e R s m args below meth c ρ F hno hnm => w_L_place_0 F hno hnm x0 x1 x2 M h)
theorem dL_units_0 : decode cL_units 0 = .ok (.iload_n 0, 1) := by decide +kernel
theorem dL_units_1 : decode cL_units 1 = .ok (.ifCond .ge 7, 3) := by decide +kernel
theorem dL_units_8 : decode cL_units 8 = .ok (.iload_n 0, 1) := by decide +kernel
theorem dL_units_9 : decode cL_units 9 = .ok (.sipush 1000, 3) := by decide +kernel
theorem dL_units_12 : decode cL_units 12 = .ok (.if_icmp .le 7, 3) := by decide +kernel
theorem dL_units_19 : decode cL_units 19 = .ok (.iconst 1, 1) := by decide +kernel
theorem dL_units_20 : decode cL_units 20 = .ok (.ireturn, 1) := by decide +kernel
theorem dL_units_15 : decode cL_units 15 = .ok (.iconst 2, 1) := by decide +kernel
theorem dL_units_16 : decode cL_units 16 = .ok (.goto 4, 3) := by decide +kernel
theorem dL_units_4 : decode cL_units 4 = .ok (.iconst 0, 1) := by decide +kernel
theorem dL_units_5 : decode cL_units 5 = .ok (.goto 15, 3) := by decide +kernel
set_option maxHeartbeats 4000000 in
set_option maxRecDepth 100000 in
theorem w_L_units_0 {p : Program} {l : Launch} {e : Env} {R : Room} {s : State} {m : MethodId} {args : Array Value} {below : List Frame} {meth : Method} {c : Code} {G : Gt} {ρ0 : Int → Nat} {M0 : Mo} {res : RS} (F : Fx p l R s m args meth c cL_units 1 RL G M0 0 (some FieldType.int)) (hno : ∀ x ∈ c.exceptionTable.toList, False) (hnm : meth.name = yL_units.name) (x0 : Int) (M : Mo) (h : L_units x0 M = some res) : J p l e R s m args below meth c 1 G ρ0 M0 1 res M 0 [(0, (true, x0))] [] := by
  unfold L_units at h
  refine j_iload_n F 0 rfl rfl dL_units_0 ?_
  refine j_if_ge F 8 (by decide) dL_units_1 h (fun h => ?_) (fun h => ?_)
  · skip
    refine j_iload_n F 0 rfl rfl dL_units_8 ?_
    refine j_sipush F (by decide) dL_units_9 ?_
    refine j_icmp_le F 19 (by decide) dL_units_12 h (fun h => ?_) (fun h => ?_)
    · skip
      refine j_iconst F dL_units_19 ?_
      exact j_iret F h dL_units_20
    · skip
      refine j_iconst F dL_units_15 ?_
      refine j_goto F 20 (by decide) dL_units_16 ?_
      exact j_iret F h dL_units_20
  · skip
    refine j_iconst F dL_units_4 ?_
    refine j_goto F 20 (by decide) dL_units_5 ?_
    exact j_iret F h dL_units_20
theorem c_L_units (l : Launch) (hl : l.stackTraces = false) (G : Gt) (x0 : Int) (M : Mo) (z : RS) (h : L_units x0 M = some z) : CT l G yL_units (cn yL_units cL_units 1 (some FieldType.int)) 0 [(true, x0)] M 1 z :=
  ctOf hl (by decide) (Nat.le_of_ble_eq_true rfl) (fun p e R s m args below meth c ρ F hno hnm => w_L_units_0 F hno hnm x0 M h)
theorem dL_replaces_0 : decode cL_replaces 0 = .ok (.iload_n 3, 1) := by decide +kernel
set_option maxRecDepth 100000 in
theorem q1625 : Cond.code yL_units cL_units 1 (some FieldType.int) ∈ GT := gt 1625 (rfl) (by decide +kernel)
theorem M_L_units : MY yL_units cL_units 1 (some FieldType.int) 1 := ⟨q1625, q52, by decide +kernel, by decide +kernel⟩
set_option maxRecDepth 100000 in
theorem q1624 : Cond.static yL_units ∈ GT := gt 1624 (by decide +kernel) (by decide +kernel)
set_option maxRecDepth 100000 in
theorem q1623 : Cond.methodLink RL 110 yL_units ∈ GT := gt 1623 (by decide +kernel) (by decide +kernel)
theorem dL_replaces_1 : decode cL_replaces 1 = .ok (.invokestatic 110, 3) := by decide +kernel
theorem dL_replaces_4 : decode cL_replaces 4 = .ok (.istore 4, 2) := by decide +kernel
theorem dL_replaces_6 : decode cL_replaces 6 = .ok (.aload_n 0, 1) := by decide +kernel
theorem dL_replaces_7 : decode cL_replaces 7 = .ok (.bipush 63, 2) := by decide +kernel
theorem dL_replaces_9 : decode cL_replaces 9 = .ok (.iaload, 1) := by decide +kernel
theorem dL_replaces_10 : decode cL_replaces 10 = .ok (.iload_n 2, 1) := by decide +kernel
theorem dL_replaces_11 : decode cL_replaces 11 = .ok (.isub, 1) := by decide +kernel
theorem dL_replaces_12 : decode cL_replaces 12 = .ok (.iload_n 1, 1) := by decide +kernel
theorem dL_replaces_13 : decode cL_replaces 13 = .ok (.iadd, 1) := by decide +kernel
theorem dL_replaces_14 : decode cL_replaces 14 = .ok (.iload 4, 2) := by decide +kernel
theorem dL_replaces_16 : decode cL_replaces 16 = .ok (.iadd, 1) := by decide +kernel
theorem dL_replaces_17 : decode cL_replaces 17 = .ok (.istore 5, 2) := by decide +kernel
theorem dL_replaces_19 : decode cL_replaces 19 = .ok (.iload 4, 2) := by decide +kernel
theorem dL_replaces_21 : decode cL_replaces 21 = .ok (.iload_n 2, 1) := by decide +kernel
theorem dL_replaces_22 : decode cL_replaces 22 = .ok (.iload_n 1, 1) := by decide +kernel
theorem dL_replaces_23 : decode cL_replaces 23 = .ok (.isub, 1) := by decide +kernel
theorem dL_replaces_24 : decode cL_replaces 24 = .ok (.if_icmp .le 42, 3) := by decide +kernel
theorem dL_replaces_66 : decode cL_replaces 66 = .ok (.iload_n 1, 1) := by decide +kernel
theorem dL_replaces_67 : decode cL_replaces 67 = .ok (.iload 4, 2) := by decide +kernel
theorem dL_replaces_69 : decode cL_replaces 69 = .ok (.iadd, 1) := by decide +kernel
theorem dL_replaces_70 : decode cL_replaces 70 = .ok (.istore 6, 2) := by decide +kernel
theorem dL_replaces_27 : decode cL_replaces 27 = .ok (.iload 5, 2) := by decide +kernel
theorem dL_replaces_29 : decode cL_replaces 29 = .ok (.iconst 1, 1) := by decide +kernel
theorem dL_replaces_30 : decode cL_replaces 30 = .ok (.isub, 1) := by decide +kernel
theorem dL_replaces_31 : decode cL_replaces 31 = .ok (.istore 6, 2) := by decide +kernel
theorem dL_replaces_33 : decode cL_replaces 33 = .ok (.iload 6, 2) := by decide +kernel
theorem dL_replaces_35 : decode cL_replaces 35 = .ok (.iload_n 1, 1) := by decide +kernel
theorem dL_replaces_36 : decode cL_replaces 36 = .ok (.iload 4, 2) := by decide +kernel
theorem dL_replaces_38 : decode cL_replaces 38 = .ok (.iadd, 1) := by decide +kernel
theorem dL_replaces_39 : decode cL_replaces 39 = .ok (.if_icmp .lt 24, 3) := by decide +kernel
theorem dL_replaces_63 : decode cL_replaces 63 = .ok (.goto 37, 3) := by decide +kernel
theorem dL_replaces_42 : decode cL_replaces 42 = .ok (.aload_n 0, 1) := by decide +kernel
theorem dL_replaces_43 : decode cL_replaces 43 = .ok (.iload 6, 2) := by decide +kernel
theorem dL_replaces_45 : decode cL_replaces 45 = .ok (.aload_n 0, 1) := by decide +kernel
theorem dL_replaces_46 : decode cL_replaces 46 = .ok (.iload 6, 2) := by decide +kernel
theorem dL_replaces_48 : decode cL_replaces 48 = .ok (.iload 4, 2) := by decide +kernel
theorem dL_replaces_50 : decode cL_replaces 50 = .ok (.isub, 1) := by decide +kernel
theorem dL_replaces_51 : decode cL_replaces 51 = .ok (.iload_n 2, 1) := by decide +kernel
theorem dL_replaces_52 : decode cL_replaces 52 = .ok (.iadd, 1) := by decide +kernel
theorem dL_replaces_53 : decode cL_replaces 53 = .ok (.iload_n 1, 1) := by decide +kernel
theorem dL_replaces_54 : decode cL_replaces 54 = .ok (.isub, 1) := by decide +kernel
theorem dL_replaces_55 : decode cL_replaces 55 = .ok (.iaload, 1) := by decide +kernel
theorem dL_replaces_56 : decode cL_replaces 56 = .ok (.iastore, 1) := by decide +kernel
theorem dL_replaces_57 : decode cL_replaces 57 = .ok (.iinc 6 (-1), 3) := by decide +kernel
theorem dL_replaces_60 : decode cL_replaces 60 = .ok (.goto (-27), 3) := by decide +kernel
theorem dL_replaces_72 : decode cL_replaces 72 = .ok (.iload 6, 2) := by decide +kernel
theorem dL_replaces_74 : decode cL_replaces 74 = .ok (.iload 5, 2) := by decide +kernel
theorem dL_replaces_76 : decode cL_replaces 76 = .ok (.if_icmp .ge 24, 3) := by decide +kernel
theorem dL_replaces_79 : decode cL_replaces 79 = .ok (.aload_n 0, 1) := by decide +kernel
theorem dL_replaces_80 : decode cL_replaces 80 = .ok (.iload 6, 2) := by decide +kernel
theorem dL_replaces_82 : decode cL_replaces 82 = .ok (.aload_n 0, 1) := by decide +kernel
theorem dL_replaces_83 : decode cL_replaces 83 = .ok (.iload 6, 2) := by decide +kernel
theorem dL_replaces_85 : decode cL_replaces 85 = .ok (.iload 4, 2) := by decide +kernel
theorem dL_replaces_87 : decode cL_replaces 87 = .ok (.isub, 1) := by decide +kernel
theorem dL_replaces_88 : decode cL_replaces 88 = .ok (.iload_n 2, 1) := by decide +kernel
theorem dL_replaces_89 : decode cL_replaces 89 = .ok (.iadd, 1) := by decide +kernel
theorem dL_replaces_90 : decode cL_replaces 90 = .ok (.iload_n 1, 1) := by decide +kernel
theorem dL_replaces_91 : decode cL_replaces 91 = .ok (.isub, 1) := by decide +kernel
theorem dL_replaces_92 : decode cL_replaces 92 = .ok (.iaload, 1) := by decide +kernel
theorem dL_replaces_93 : decode cL_replaces 93 = .ok (.iastore, 1) := by decide +kernel
theorem dL_replaces_94 : decode cL_replaces 94 = .ok (.iinc 6 1, 3) := by decide +kernel
theorem dL_replaces_97 : decode cL_replaces 97 = .ok (.goto (-25), 3) := by decide +kernel
theorem dL_replaces_100 : decode cL_replaces 100 = .ok (.iload 4, 2) := by decide +kernel
theorem dL_replaces_102 : decode cL_replaces 102 = .ok (.iconst 1, 1) := by decide +kernel
theorem dL_replaces_103 : decode cL_replaces 103 = .ok (.if_icmp .ne 10, 3) := by decide +kernel
theorem dL_replaces_113 : decode cL_replaces 113 = .ok (.iload 4, 2) := by decide +kernel
theorem dL_replaces_115 : decode cL_replaces 115 = .ok (.iconst 2, 1) := by decide +kernel
theorem dL_replaces_116 : decode cL_replaces 116 = .ok (.if_icmp .ne 20, 3) := by decide +kernel
theorem dL_replaces_119 : decode cL_replaces 119 = .ok (.aload_n 0, 1) := by decide +kernel
theorem dL_replaces_120 : decode cL_replaces 120 = .ok (.iload_n 1, 1) := by decide +kernel
set_option maxRecDepth 100000 in
theorem q1629 : Cond.constant RL 113 (iI (55357)) ∈ GT := gt 1629 (by decide +kernel) (by decide +kernel)
theorem dL_replaces_121 : decode cL_replaces 121 = .ok (.ldc 113, 2) := by decide +kernel
theorem dL_replaces_123 : decode cL_replaces 123 = .ok (.iastore, 1) := by decide +kernel
theorem dL_replaces_124 : decode cL_replaces 124 = .ok (.aload_n 0, 1) := by decide +kernel
theorem dL_replaces_125 : decode cL_replaces 125 = .ok (.iload_n 1, 1) := by decide +kernel
theorem dL_replaces_126 : decode cL_replaces 126 = .ok (.iconst 1, 1) := by decide +kernel
theorem dL_replaces_127 : decode cL_replaces 127 = .ok (.iadd, 1) := by decide +kernel
set_option maxRecDepth 100000 in
theorem q1630 : Cond.constant RL 114 (iI (56832)) ∈ GT := gt 1630 (by decide +kernel) (by decide +kernel)
theorem dL_replaces_128 : decode cL_replaces 128 = .ok (.ldc 114, 2) := by decide +kernel
theorem dL_replaces_130 : decode cL_replaces 130 = .ok (.iload_n 3, 1) := by decide +kernel
theorem dL_replaces_131 : decode cL_replaces 131 = .ok (.iadd, 1) := by decide +kernel
set_option maxRecDepth 100000 in
theorem q1622 : Cond.constant RL 115 (iI (128512)) ∈ GT := gt 1622 (by decide +kernel) (by decide +kernel)
theorem dL_replaces_132 : decode cL_replaces 132 = .ok (.ldc 115, 2) := by decide +kernel
theorem dL_replaces_134 : decode cL_replaces 134 = .ok (.isub, 1) := by decide +kernel
theorem dL_replaces_135 : decode cL_replaces 135 = .ok (.iastore, 1) := by decide +kernel
theorem dL_replaces_106 : decode cL_replaces 106 = .ok (.aload_n 0, 1) := by decide +kernel
theorem dL_replaces_107 : decode cL_replaces 107 = .ok (.iload_n 1, 1) := by decide +kernel
theorem dL_replaces_108 : decode cL_replaces 108 = .ok (.iload_n 3, 1) := by decide +kernel
theorem dL_replaces_109 : decode cL_replaces 109 = .ok (.iastore, 1) := by decide +kernel
theorem dL_replaces_110 : decode cL_replaces 110 = .ok (.goto 26, 3) := by decide +kernel
theorem dL_replaces_136 : decode cL_replaces 136 = .ok (.aload_n 0, 1) := by decide +kernel
theorem dL_replaces_137 : decode cL_replaces 137 = .ok (.bipush 63, 2) := by decide +kernel
theorem dL_replaces_139 : decode cL_replaces 139 = .ok (.iload 5, 2) := by decide +kernel
theorem dL_replaces_141 : decode cL_replaces 141 = .ok (.iastore, 1) := by decide +kernel
theorem dL_replaces_142 : decode cL_replaces 142 = .ok (.return_, 1) := by decide +kernel
set_option maxHeartbeats 4000000 in
set_option maxRecDepth 100000 in
theorem w_L_replaces_136 {p : Program} {l : Launch} {e : Env} {R : Room} {s : State} {m : MethodId} {args : Array Value} {below : List Frame} {meth : Method} {c : Code} {G : Gt} {ρ0 : Int → Nat} {M0 : Mo} {res : RS} (F : Fx p l R s m args meth c cL_replaces 7 RL G M0 1 none) (hno : ∀ x ∈ c.exceptionTable.toList, False) (hnm : meth.name = yL_replaces.name) (x0 x5 : Int) (M : Mo) (h : L_replaces_136 x0 x5 M = some res) : J p l e R s m args below meth c 7 G ρ0 M0 0 res M 136 [(0, (false, x0)), (5, (true, x5))] [] := by
  unfold L_replaces_136 at h
  refine j_aload_n F 0 rfl rfl dL_replaces_136 ?_
  refine j_bipush F (by decide) dL_replaces_137 ?_
  refine j_iload F 1 rfl dL_replaces_139 ?_
  obtain ⟨g1, h⟩ := gua h
  obtain ⟨g2, h⟩ := gua h
  refine j_iastore F g1 g2 dL_replaces_141 ?_
  obtain ⟨M3, hM3⟩ : ∃ Z, Z = sE M 0 x0 (wr 63) x5 := ⟨_, rfl⟩
  have kl4 : kle M M3 := by rw [hM3]; exact kle_sE
  rw [← hM3]
  replace h := pt_as h hM3
  exact j_vret F (v := 0) h dL_replaces_142
set_option maxHeartbeats 4000000 in
set_option maxRecDepth 100000 in
theorem w_L_replaces_100 {p : Program} {l : Launch} {e : Env} {R : Room} {s : State} {m : MethodId} {args : Array Value} {below : List Frame} {meth : Method} {c : Code} {G : Gt} {ρ0 : Int → Nat} {M0 : Mo} {res : RS} (F : Fx p l R s m args meth c cL_replaces 7 RL G M0 1 none) (hno : ∀ x ∈ c.exceptionTable.toList, False) (hnm : meth.name = yL_replaces.name) (x0 x1 x3 x4 x5 : Int) (M : Mo) (h : L_replaces_100 x0 x1 x3 x4 x5 M = some res) : J p l e R s m args below meth c 7 G ρ0 M0 0 res M 100 [(0, (false, x0)), (1, (true, x1)), (3, (true, x3)), (4, (true, x4)), (5, (true, x5))] [] := by
  unfold L_replaces_100 at h
  refine j_iload F 3 rfl dL_replaces_100 ?_
  refine j_iconst F dL_replaces_102 ?_
  refine j_icmp_ne F 113 (by decide) dL_replaces_103 h (fun h => ?_) (fun h => ?_)
  · skip
    refine j_iload F 3 rfl dL_replaces_113 ?_
    refine j_iconst F dL_replaces_115 ?_
    refine j_icmp_ne F 136 (by decide) dL_replaces_116 h (fun h => ?_) (fun h => ?_)
    · skip
      refine j_sub (lv' := [(0, (false, x0)), (5, (true, x5))]) [0, 4] rfl ?_
      exact w_L_replaces_136 F hno hnm x0 x5 M h
    · skip
      refine j_aload_n F 0 rfl rfl dL_replaces_119 ?_
      refine j_iload_n F 1 rfl rfl dL_replaces_120 ?_
      refine j_ldc (n := 55357) F q1629 dL_replaces_121 ?_
      obtain ⟨g1, h⟩ := gua h
      obtain ⟨g2, h⟩ := gua h
      refine j_iastore F g1 g2 dL_replaces_123 ?_
      obtain ⟨M3, hM3⟩ : ∃ Z, Z = sE M 0 x0 (wr x1) 55357 := ⟨_, rfl⟩
      have kl4 : kle M M3 := by rw [hM3]; exact kle_sE
      rw [← hM3]
      replace h := pt_as h hM3
      refine j_aload_n F 0 rfl rfl dL_replaces_124 ?_
      refine j_iload_n F 1 rfl rfl dL_replaces_125 ?_
      refine j_iconst F dL_replaces_126 ?_
      refine j_iadd F dL_replaces_127 ?_
      refine j_ldc (n := 56832) F q1630 dL_replaces_128 ?_
      refine j_iload_n F 2 rfl rfl dL_replaces_130 ?_
      refine j_iadd F dL_replaces_131 ?_
      refine j_ldc (n := 128512) F q1622 dL_replaces_132 ?_
      refine j_isub F dL_replaces_134 ?_
      obtain ⟨g5, h⟩ := gua h
      refine j_iastore F (kl4.is g1) g5 dL_replaces_135 ?_
      obtain ⟨M6, hM6⟩ : ∃ Z, Z = sE M3 0 x0 (wr (x1 + 1)) ((56832 + x3) - 128512) := ⟨_, rfl⟩
      have kl7 : kle M3 M6 := by rw [hM6]; exact kle_sE
      rw [← hM6]
      replace h := pt_as h hM6
      refine j_sub (lv' := [(0, (false, x0)), (5, (true, x5))]) [0, 4] rfl ?_
      exact w_L_replaces_136 F hno hnm x0 x5 M6 h
  · skip
    refine j_aload_n F 0 rfl rfl dL_replaces_106 ?_
    refine j_iload_n F 1 rfl rfl dL_replaces_107 ?_
    refine j_iload_n F 2 rfl rfl dL_replaces_108 ?_
    obtain ⟨g8, h⟩ := gua h
    obtain ⟨g9, h⟩ := gua h
    refine j_iastore F g8 g9 dL_replaces_109 ?_
    obtain ⟨M10, hM10⟩ : ∃ Z, Z = sE M 0 x0 (wr x1) x3 := ⟨_, rfl⟩
    have kl11 : kle M M10 := by rw [hM10]; exact kle_sE
    rw [← hM10]
    replace h := pt_as h hM10
    refine j_goto F 136 (by decide) dL_replaces_110 ?_
    refine j_sub (lv' := [(0, (false, x0)), (5, (true, x5))]) [0, 4] rfl ?_
    exact w_L_replaces_136 F hno hnm x0 x5 M10 h
set_option maxHeartbeats 4000000 in
set_option maxRecDepth 100000 in
theorem w_L_replaces_33 {p : Program} {l : Launch} {e : Env} {R : Room} {s : State} {m : MethodId} {args : Array Value} {below : List Frame} {meth : Method} {c : Code} {G : Gt} {ρ0 : Int → Nat} {M0 : Mo} {res : RS} (F : Fx p l R s m args meth c cL_replaces 7 RL G M0 1 none) (hno : ∀ x ∈ c.exceptionTable.toList, False) (hnm : meth.name = yL_replaces.name) (n : Nat) : ∀ (x0 x1 x2 x3 x4 x5 x6 : Int) (M : Mo), L_replaces_33 n x0 x1 x2 x3 x4 x5 x6 M = some res → J p l e R s m args below meth c 7 G ρ0 M0 0 res M 33 [(0, (false, x0)), (1, (true, x1)), (2, (true, x2)), (3, (true, x3)), (4, (true, x4)), (5, (true, x5)), (6, (true, x6))] [] := by
  induction n with
  | zero => intro x0 x1 x2 x3 x4 x5 x6 M h; cases h
  | succ n ih =>
    intro x0 x1 x2 x3 x4 x5 x6 M h
    rw [L_replaces_33] at h
    refine j_iload F 6 rfl dL_replaces_33 ?_
    refine j_iload_n F 1 rfl rfl dL_replaces_35 ?_
    refine j_iload F 4 rfl dL_replaces_36 ?_
    refine j_iadd F dL_replaces_38 ?_
    refine j_icmp_lt F 63 (by decide) dL_replaces_39 h (fun h => ?_) (fun h => ?_)
    · skip
      refine j_goto F 100 (by decide) dL_replaces_63 ?_
      refine j_sub (lv' := [(0, (false, x0)), (1, (true, x1)), (3, (true, x3)), (4, (true, x4)), (5, (true, x5))]) [0, 1, 3, 4, 5] rfl ?_
      exact w_L_replaces_100 F hno hnm x0 x1 x3 x4 x5 M h
    · skip
      refine j_aload_n F 0 rfl rfl dL_replaces_42 ?_
      refine j_iload F 6 rfl dL_replaces_43 ?_
      refine j_aload_n F 0 rfl rfl dL_replaces_45 ?_
      refine j_iload F 6 rfl dL_replaces_46 ?_
      refine j_iload F 4 rfl dL_replaces_48 ?_
      refine j_isub F dL_replaces_50 ?_
      refine j_iload_n F 2 rfl rfl dL_replaces_51 ?_
      refine j_iadd F dL_replaces_52 ?_
      refine j_iload_n F 1 rfl rfl dL_replaces_53 ?_
      refine j_isub F dL_replaces_54 ?_
      obtain ⟨g1, h⟩ := gua h
      obtain ⟨g2, h⟩ := gua h
      refine j_iaload F g1 g2 dL_replaces_55 ?_
      obtain ⟨g3, h⟩ := gua h
      refine j_iastore F g1 g3 dL_replaces_56 ?_
      obtain ⟨M4, hM4⟩ : ∃ Z, Z = sE M 0 x0 (wr x6) (el M 0 x0 (wr (((x6 - x4) + x2) - x1))) := ⟨_, rfl⟩
      have kl5 : kle M M4 := by rw [hM4]; exact kle_sE
      rw [← hM4]
      replace h := pt_as h hM4
      refine j_iinc F 6 (lv' := [(6, (true, (x6 + (-1)))), (0, (false, x0)), (1, (true, x1)), (2, (true, x2)), (3, (true, x3)), (4, (true, x4)), (5, (true, x5))]) rfl (by decide) rfl dL_replaces_57 ?_
      refine j_goto F 33 (by decide) dL_replaces_60 ?_
      refine j_sub (lv' := [(0, (false, x0)), (1, (true, x1)), (2, (true, x2)), (3, (true, x3)), (4, (true, x4)), (5, (true, x5)), (6, (true, (x6 + (-1))))]) [1, 2, 3, 4, 5, 6, 0] rfl ?_
      exact ih x0 x1 x2 x3 x4 x5 (x6 + (-1)) M4 h
set_option maxHeartbeats 4000000 in
set_option maxRecDepth 100000 in
theorem w_L_replaces_72 {p : Program} {l : Launch} {e : Env} {R : Room} {s : State} {m : MethodId} {args : Array Value} {below : List Frame} {meth : Method} {c : Code} {G : Gt} {ρ0 : Int → Nat} {M0 : Mo} {res : RS} (F : Fx p l R s m args meth c cL_replaces 7 RL G M0 1 none) (hno : ∀ x ∈ c.exceptionTable.toList, False) (hnm : meth.name = yL_replaces.name) (n : Nat) : ∀ (x0 x1 x2 x3 x4 x5 x6 : Int) (M : Mo), L_replaces_72 n x0 x1 x2 x3 x4 x5 x6 M = some res → J p l e R s m args below meth c 7 G ρ0 M0 0 res M 72 [(0, (false, x0)), (1, (true, x1)), (2, (true, x2)), (3, (true, x3)), (4, (true, x4)), (5, (true, x5)), (6, (true, x6))] [] := by
  induction n with
  | zero => intro x0 x1 x2 x3 x4 x5 x6 M h; cases h
  | succ n ih =>
    intro x0 x1 x2 x3 x4 x5 x6 M h
    rw [L_replaces_72] at h
    refine j_iload F 6 rfl dL_replaces_72 ?_
    refine j_iload F 5 rfl dL_replaces_74 ?_
    refine j_icmp_ge F 100 (by decide) dL_replaces_76 h (fun h => ?_) (fun h => ?_)
    · skip
      refine j_sub (lv' := [(0, (false, x0)), (1, (true, x1)), (3, (true, x3)), (4, (true, x4)), (5, (true, x5))]) [0, 1, 3, 4, 5] rfl ?_
      exact w_L_replaces_100 F hno hnm x0 x1 x3 x4 x5 M h
    · skip
      refine j_aload_n F 0 rfl rfl dL_replaces_79 ?_
      refine j_iload F 6 rfl dL_replaces_80 ?_
      refine j_aload_n F 0 rfl rfl dL_replaces_82 ?_
      refine j_iload F 6 rfl dL_replaces_83 ?_
      refine j_iload F 4 rfl dL_replaces_85 ?_
      refine j_isub F dL_replaces_87 ?_
      refine j_iload_n F 2 rfl rfl dL_replaces_88 ?_
      refine j_iadd F dL_replaces_89 ?_
      refine j_iload_n F 1 rfl rfl dL_replaces_90 ?_
      refine j_isub F dL_replaces_91 ?_
      obtain ⟨g1, h⟩ := gua h
      obtain ⟨g2, h⟩ := gua h
      refine j_iaload F g1 g2 dL_replaces_92 ?_
      obtain ⟨g3, h⟩ := gua h
      refine j_iastore F g1 g3 dL_replaces_93 ?_
      obtain ⟨M4, hM4⟩ : ∃ Z, Z = sE M 0 x0 (wr x6) (el M 0 x0 (wr (((x6 - x4) + x2) - x1))) := ⟨_, rfl⟩
      have kl5 : kle M M4 := by rw [hM4]; exact kle_sE
      rw [← hM4]
      replace h := pt_as h hM4
      refine j_iinc F 6 (lv' := [(6, (true, (x6 + 1))), (0, (false, x0)), (1, (true, x1)), (2, (true, x2)), (3, (true, x3)), (4, (true, x4)), (5, (true, x5))]) rfl (by decide) rfl dL_replaces_94 ?_
      refine j_goto F 72 (by decide) dL_replaces_97 ?_
      refine j_sub (lv' := [(0, (false, x0)), (1, (true, x1)), (2, (true, x2)), (3, (true, x3)), (4, (true, x4)), (5, (true, x5)), (6, (true, (x6 + 1)))]) [1, 2, 3, 4, 5, 6, 0] rfl ?_
      exact ih x0 x1 x2 x3 x4 x5 (x6 + 1) M4 h
set_option maxHeartbeats 4000000 in
set_option maxRecDepth 100000 in
theorem w_L_replaces_0 {p : Program} {l : Launch} {e : Env} {R : Room} {s : State} {m : MethodId} {args : Array Value} {below : List Frame} {meth : Method} {c : Code} {G : Gt} {ρ0 : Int → Nat} {M0 : Mo} {res : RS} (F : Fx p l R s m args meth c cL_replaces 7 RL G M0 1 none) (hno : ∀ x ∈ c.exceptionTable.toList, False) (hnm : meth.name = yL_replaces.name) (x0 x1 x2 x3 : Int) (M : Mo) (h : L_replaces x0 x1 x2 x3 M = some res) : J p l e R s m args below meth c 7 G ρ0 M0 0 res M 0 [(0, (false, x0)), (1, (true, x1)), (2, (true, x2)), (3, (true, x3))] [] := by
  unfold L_replaces at h
  refine j_iload_n F 3 rfl rfl dL_replaces_0 ?_
  refine j_callS (d' := 0) (argl := [(true, x3)]) (rk9 := 1) (st := []) F hno M_L_units q1624 q1623 ⟨by decide, by decide⟩ (Nat.le_of_ble_eq_true rfl) (by decide) dL_replaces_1 rfl h (fun z hz => c_L_units l F.ht G x3 M z hz) (fun v1 M2 h kl3 => ?_)
  refine j_st (st' := [(true, v1)]) rfl ?_
  refine j_istore F (lv' := [(4, (true, v1)), (0, (false, x0)), (1, (true, x1)), (2, (true, x2)), (3, (true, x3))]) (by decide) rfl dL_replaces_4 ?_
  refine j_aload_n F 1 rfl rfl dL_replaces_6 ?_
  refine j_bipush F (by decide) dL_replaces_7 ?_
  obtain ⟨g4, h⟩ := gua h
  obtain ⟨g5, h⟩ := gua h
  refine j_iaload F g4 g5 dL_replaces_9 ?_
  refine j_iload_n F 3 rfl rfl dL_replaces_10 ?_
  refine j_isub F dL_replaces_11 ?_
  refine j_iload_n F 2 rfl rfl dL_replaces_12 ?_
  refine j_iadd F dL_replaces_13 ?_
  refine j_iload F 0 rfl dL_replaces_14 ?_
  refine j_iadd F dL_replaces_16 ?_
  refine j_istore F (lv' := [(5, (true, ((((el M2 0 x0 (wr 63)) - x2) + x1) + v1))), (4, (true, v1)), (0, (false, x0)), (1, (true, x1)), (2, (true, x2)), (3, (true, x3))]) (by decide) rfl dL_replaces_17 ?_
  refine j_iload F 1 rfl dL_replaces_19 ?_
  refine j_iload_n F 4 rfl rfl dL_replaces_21 ?_
  refine j_iload_n F 3 rfl rfl dL_replaces_22 ?_
  refine j_isub F dL_replaces_23 ?_
  refine j_icmp_le F 66 (by decide) dL_replaces_24 h (fun h => ?_) (fun h => ?_)
  · skip
    refine j_iload_n F 3 rfl rfl dL_replaces_66 ?_
    refine j_iload F 1 rfl dL_replaces_67 ?_
    refine j_iadd F dL_replaces_69 ?_
    refine j_istore F (lv' := [(6, (true, (x1 + v1))), (5, (true, ((((el M2 0 x0 (wr 63)) - x2) + x1) + v1))), (4, (true, v1)), (0, (false, x0)), (1, (true, x1)), (2, (true, x2)), (3, (true, x3))]) (by decide) rfl dL_replaces_70 ?_
    refine j_sub (lv' := [(0, (false, x0)), (1, (true, x1)), (2, (true, x2)), (3, (true, x3)), (4, (true, v1)), (5, (true, ((((el M2 0 x0 (wr 63)) - x2) + x1) + v1))), (6, (true, (x1 + v1)))]) [3, 4, 5, 6, 2, 1, 0] rfl ?_
    exact w_L_replaces_72 F hno hnm FU x0 x1 x2 x3 v1 ((((el M2 0 x0 (wr 63)) - x2) + x1) + v1) (x1 + v1) M2 h
  · skip
    refine j_iload F 0 rfl dL_replaces_27 ?_
    refine j_iconst F dL_replaces_29 ?_
    refine j_isub F dL_replaces_30 ?_
    refine j_istore F (lv' := [(6, (true, (((((el M2 0 x0 (wr 63)) - x2) + x1) + v1) - 1))), (5, (true, ((((el M2 0 x0 (wr 63)) - x2) + x1) + v1))), (4, (true, v1)), (0, (false, x0)), (1, (true, x1)), (2, (true, x2)), (3, (true, x3))]) (by decide) rfl dL_replaces_31 ?_
    refine j_sub (lv' := [(0, (false, x0)), (1, (true, x1)), (2, (true, x2)), (3, (true, x3)), (4, (true, v1)), (5, (true, ((((el M2 0 x0 (wr 63)) - x2) + x1) + v1))), (6, (true, (((((el M2 0 x0 (wr 63)) - x2) + x1) + v1) - 1)))]) [3, 4, 5, 6, 2, 1, 0] rfl ?_
    exact w_L_replaces_33 F hno hnm FU x0 x1 x2 x3 v1 ((((el M2 0 x0 (wr 63)) - x2) + x1) + v1) (((((el M2 0 x0 (wr 63)) - x2) + x1) + v1) - 1) M2 h
theorem c_L_replaces (l : Launch) (hl : l.stackTraces = false) (G : Gt) (x0 x1 x2 x3 : Int) (M : Mo) (z : RS) (h : L_replaces x0 x1 x2 x3 M = some z) : CT l G yL_replaces (cn yL_replaces cL_replaces 7 none) 1 [(false, x0), (true, x1), (true, x2), (true, x3)] M 0 z :=
  ctOf hl (by decide) (Nat.le_of_ble_eq_true rfl) (fun p e R s m args below meth c ρ F hno hnm => w_L_replaces_0 F hno hnm x0 x1 x2 x3 M h)
theorem dL_isText_0 : decode cL_isText 0 = .ok (.aload_n 0, 1) := by decide +kernel
theorem dL_isText_1 : decode cL_isText 1 = .ok (.iconst 3, 1) := by decide +kernel
theorem dL_isText_2 : decode cL_isText 2 = .ok (.iload_n 1, 1) := by decide +kernel
theorem dL_isText_3 : decode cL_isText 3 = .ok (.iload_n 2, 1) := by decide +kernel
theorem dL_isText_4 : decode cL_isText 4 = .ok (.aload_n 3, 1) := by decide +kernel
theorem dL_isText_5 : decode cL_isText 5 = .ok (.bipush 63, 2) := by decide +kernel
theorem dL_isText_7 : decode cL_isText 7 = .ok (.iaload, 1) := by decide +kernel
set_option maxRecDepth 100000 in
theorem q1513 : Cond.codeWith yL_asks cL_asks 6 (some FieldType.int) [(0, 159, 160, 67)] ∈ GT := gt 1513 (rfl) (by decide +kernel)
theorem M_L_asks : MYW yL_asks cL_asks 6 (some FieldType.int) [(0, 159, 160, 67)] 5 := ⟨q1513, q52, by decide +kernel, by decide +kernel⟩
set_option maxRecDepth 100000 in
theorem q1512 : Cond.static yL_asks ∈ GT := gt 1512 (by decide +kernel) (by decide +kernel)
set_option maxRecDepth 100000 in
theorem q1511 : Cond.methodLink RL 116 yL_asks ∈ GT := gt 1511 (by decide +kernel) (by decide +kernel)
theorem dL_isText_8 : decode cL_isText 8 = .ok (.invokestatic 116, 3) := by decide +kernel
theorem dL_isText_11 : decode cL_isText 11 = .ok (.sipush (-3000), 3) := by decide +kernel
theorem dL_isText_14 : decode cL_isText 14 = .ok (.if_icmp .ne 21, 3) := by decide +kernel
theorem dL_isText_17 : decode cL_isText 17 = .ok (.aload_n 0, 1) := by decide +kernel
theorem dL_isText_18 : decode cL_isText 18 = .ok (.iconst 3, 1) := by decide +kernel
theorem dL_isText_19 : decode cL_isText 19 = .ok (.iload_n 1, 1) := by decide +kernel
theorem dL_isText_20 : decode cL_isText 20 = .ok (.iload_n 2, 1) := by decide +kernel
theorem dL_isText_21 : decode cL_isText 21 = .ok (.iconst (-1), 1) := by decide +kernel
theorem dL_isText_22 : decode cL_isText 22 = .ok (.invokestatic 116, 3) := by decide +kernel
theorem dL_isText_25 : decode cL_isText 25 = .ok (.sipush (-3000), 3) := by decide +kernel
theorem dL_isText_28 : decode cL_isText 28 = .ok (.if_icmp .ne 7, 3) := by decide +kernel
theorem dL_isText_31 : decode cL_isText 31 = .ok (.iconst 1, 1) := by decide +kernel
theorem dL_isText_32 : decode cL_isText 32 = .ok (.goto 4, 3) := by decide +kernel
theorem dL_isText_35 : decode cL_isText 35 = .ok (.iconst 0, 1) := by decide +kernel
theorem dL_isText_36 : decode cL_isText 36 = .ok (.istore 4, 2) := by decide +kernel
theorem dL_isText_38 : decode cL_isText 38 = .ok (.iconst 0, 1) := by decide +kernel
theorem dL_isText_39 : decode cL_isText 39 = .ok (.istore 5, 2) := by decide +kernel
theorem dL_isText_41 : decode cL_isText 41 = .ok (.iload 5, 2) := by decide +kernel
theorem dL_isText_43 : decode cL_isText 43 = .ok (.aload_n 3, 1) := by decide +kernel
theorem dL_isText_44 : decode cL_isText 44 = .ok (.bipush 63, 2) := by decide +kernel
theorem dL_isText_46 : decode cL_isText 46 = .ok (.iaload, 1) := by decide +kernel
theorem dL_isText_47 : decode cL_isText 47 = .ok (.if_icmp .ge 37, 3) := by decide +kernel
theorem dL_isText_84 : decode cL_isText 84 = .ok (.iload 4, 2) := by decide +kernel
theorem dL_isText_86 : decode cL_isText 86 = .ok (.ireturn, 1) := by decide +kernel
theorem dL_isText_50 : decode cL_isText 50 = .ok (.iload 4, 2) := by decide +kernel
theorem dL_isText_52 : decode cL_isText 52 = .ok (.ifCond .eq 32, 3) := by decide +kernel
theorem dL_isText_55 : decode cL_isText 55 = .ok (.aload_n 0, 1) := by decide +kernel
theorem dL_isText_56 : decode cL_isText 56 = .ok (.iconst 3, 1) := by decide +kernel
theorem dL_isText_57 : decode cL_isText 57 = .ok (.iload_n 1, 1) := by decide +kernel
theorem dL_isText_58 : decode cL_isText 58 = .ok (.iload_n 2, 1) := by decide +kernel
theorem dL_isText_59 : decode cL_isText 59 = .ok (.iload 5, 2) := by decide +kernel
theorem dL_isText_61 : decode cL_isText 61 = .ok (.invokestatic 116, 3) := by decide +kernel
theorem dL_isText_64 : decode cL_isText 64 = .ok (.aload_n 3, 1) := by decide +kernel
theorem dL_isText_65 : decode cL_isText 65 = .ok (.iload 5, 2) := by decide +kernel
theorem dL_isText_67 : decode cL_isText 67 = .ok (.iaload, 1) := by decide +kernel
theorem dL_isText_68 : decode cL_isText 68 = .ok (.if_icmp .ne 7, 3) := by decide +kernel
theorem dL_isText_75 : decode cL_isText 75 = .ok (.iconst 0, 1) := by decide +kernel
theorem dL_isText_71 : decode cL_isText 71 = .ok (.iconst 1, 1) := by decide +kernel
theorem dL_isText_72 : decode cL_isText 72 = .ok (.goto 4, 3) := by decide +kernel
theorem dL_isText_76 : decode cL_isText 76 = .ok (.istore 4, 2) := by decide +kernel
theorem dL_isText_78 : decode cL_isText 78 = .ok (.iinc 5 1, 3) := by decide +kernel
theorem dL_isText_81 : decode cL_isText 81 = .ok (.goto (-40), 3) := by decide +kernel
set_option maxHeartbeats 4000000 in
set_option maxRecDepth 100000 in
theorem w_L_isText_76 {p : Program} {l : Launch} {e : Env} {R : Room} {s : State} {m : MethodId} {args : Array Value} {below : List Frame} {meth : Method} {c : Code} {G : Gt} {ρ0 : Int → Nat} {M0 : Mo} {res : RS} (F : Fx p l R s m args meth c cL_isText 6 RL G M0 10 (some FieldType.boolean)) (hno : ∀ x ∈ c.exceptionTable.toList, False) (hnm : meth.name = yL_isText.name) (k41 : Int → Int → Int → Int → Int → Int → Mo → Option RS) (hk41 : ∀ (x0 x1 x2 x3 x4 x5 : Int) (M : Mo), k41 x0 x1 x2 x3 x4 x5 M = some res → J p l e R s m args below meth c 6 G ρ0 M0 1 res M 41 [(0, (false, x0)), (1, (true, x1)), (2, (true, x2)), (3, (false, x3)), (4, (true, x4)), (5, (true, x5))] []) (x0 x1 x2 x3 x5 y0 : Int) (M : Mo) (h : L_isText_76 k41 x0 x1 x2 x3 x5 y0 M = some res) : J p l e R s m args below meth c 6 G ρ0 M0 1 res M 76 [(0, (false, x0)), (1, (true, x1)), (2, (true, x2)), (3, (false, x3)), (5, (true, x5))] [(true, y0)] := by
  unfold L_isText_76 at h
  refine j_istore F (lv' := [(4, (true, y0)), (0, (false, x0)), (1, (true, x1)), (2, (true, x2)), (3, (false, x3)), (5, (true, x5))]) (by decide) rfl dL_isText_76 ?_
  refine j_iinc F 5 (lv' := [(5, (true, (x5 + 1))), (4, (true, y0)), (0, (false, x0)), (1, (true, x1)), (2, (true, x2)), (3, (false, x3))]) rfl (by decide) rfl dL_isText_78 ?_
  refine j_goto F 41 (by decide) dL_isText_81 ?_
  refine j_sub (lv' := [(0, (false, x0)), (1, (true, x1)), (2, (true, x2)), (3, (false, x3)), (4, (true, y0)), (5, (true, (x5 + 1)))]) [2, 3, 4, 5, 1, 0] rfl ?_
  exact hk41 x0 x1 x2 x3 y0 (x5 + 1) M h
set_option maxHeartbeats 4000000 in
set_option maxRecDepth 100000 in
theorem w_L_isText_41 {p : Program} {l : Launch} {e : Env} {R : Room} {s : State} {m : MethodId} {args : Array Value} {below : List Frame} {meth : Method} {c : Code} {G : Gt} {ρ0 : Int → Nat} {M0 : Mo} {res : RS} (F : Fx p l R s m args meth c cL_isText 6 RL G M0 10 (some FieldType.boolean)) (hno : ∀ x ∈ c.exceptionTable.toList, False) (hnm : meth.name = yL_isText.name) (n : Nat) : ∀ (x0 x1 x2 x3 x4 x5 : Int) (M : Mo), L_isText_41 n x0 x1 x2 x3 x4 x5 M = some res → J p l e R s m args below meth c 6 G ρ0 M0 1 res M 41 [(0, (false, x0)), (1, (true, x1)), (2, (true, x2)), (3, (false, x3)), (4, (true, x4)), (5, (true, x5))] [] := by
  induction n with
  | zero => intro x0 x1 x2 x3 x4 x5 M h; cases h
  | succ n ih =>
    intro x0 x1 x2 x3 x4 x5 M h
    rw [L_isText_41] at h
    refine j_iload F 5 rfl dL_isText_41 ?_
    refine j_aload_n F 3 rfl rfl dL_isText_43 ?_
    refine j_bipush F (by decide) dL_isText_44 ?_
    obtain ⟨g1, h⟩ := gua h
    obtain ⟨g2, h⟩ := gua h
    refine j_iaload F g1 g2 dL_isText_46 ?_
    refine j_icmp_ge F 84 (by decide) dL_isText_47 h (fun h => ?_) (fun h => ?_)
    · skip
      refine j_iload F 4 rfl dL_isText_84 ?_
      obtain ⟨g3, h⟩ := gua h
      exact j_zret F (nz_b g3) h dL_isText_86
    · skip
      refine j_iload F 4 rfl dL_isText_50 ?_
      refine j_if_eq F 84 (by decide) dL_isText_52 h (fun h => ?_) (fun h => ?_)
      · skip
        refine j_iload F 4 rfl dL_isText_84 ?_
        obtain ⟨g4, h⟩ := gua h
        exact j_zret F (nz_b g4) h dL_isText_86
      · skip
        refine j_aload_n F 0 rfl rfl dL_isText_55 ?_
        refine j_iconst F dL_isText_56 ?_
        refine j_iload_n F 1 rfl rfl dL_isText_57 ?_
        refine j_iload_n F 2 rfl rfl dL_isText_58 ?_
        refine j_iload F 5 rfl dL_isText_59 ?_
        refine j_callX (d' := 9) (argl := [(false, x0), (true, 3), (true, x1), (true, x2), (true, x5)]) (rk9 := 1) (st := []) F hno M_L_asks q1512 q1511 ⟨by decide, by decide⟩ (Nat.le_of_ble_eq_true rfl) (by decide) dL_isText_61 rfl h (fun z hz => c_L_asks l F.ht G x0 3 x1 x2 x5 M z hz) (fun v5 M6 h kl7 => ?_)
        refine j_st (st' := [(true, v5)]) rfl ?_
        refine j_aload_n F 3 rfl rfl dL_isText_64 ?_
        refine j_iload F 5 rfl dL_isText_65 ?_
        obtain ⟨g8, h⟩ := gua h
        refine j_iaload F (kl7.is g1) g8 dL_isText_67 ?_
        refine j_icmp_ne F 75 (by decide) dL_isText_68 h (fun h => ?_) (fun h => ?_)
        · skip
          refine j_iconst F dL_isText_75 ?_
          refine j_sub (lv' := [(0, (false, x0)), (1, (true, x1)), (2, (true, x2)), (3, (false, x3)), (5, (true, x5))]) [0, 1, 2, 3, 5] rfl ?_
          exact w_L_isText_76 F hno hnm (L_isText_41 n) ih x0 x1 x2 x3 x5 0 M6 h
        · skip
          refine j_iconst F dL_isText_71 ?_
          refine j_goto F 76 (by decide) dL_isText_72 ?_
          refine j_sub (lv' := [(0, (false, x0)), (1, (true, x1)), (2, (true, x2)), (3, (false, x3)), (5, (true, x5))]) [0, 1, 2, 3, 5] rfl ?_
          exact w_L_isText_76 F hno hnm (L_isText_41 n) ih x0 x1 x2 x3 x5 1 M6 h
set_option maxHeartbeats 4000000 in
set_option maxRecDepth 100000 in
theorem w_L_isText_36 {p : Program} {l : Launch} {e : Env} {R : Room} {s : State} {m : MethodId} {args : Array Value} {below : List Frame} {meth : Method} {c : Code} {G : Gt} {ρ0 : Int → Nat} {M0 : Mo} {res : RS} (F : Fx p l R s m args meth c cL_isText 6 RL G M0 10 (some FieldType.boolean)) (hno : ∀ x ∈ c.exceptionTable.toList, False) (hnm : meth.name = yL_isText.name) (x0 x1 x2 x3 y0 : Int) (M : Mo) (h : L_isText_36 x0 x1 x2 x3 y0 M = some res) : J p l e R s m args below meth c 6 G ρ0 M0 1 res M 36 [(0, (false, x0)), (1, (true, x1)), (2, (true, x2)), (3, (false, x3))] [(true, y0)] := by
  unfold L_isText_36 at h
  refine j_istore F (lv' := [(4, (true, y0)), (0, (false, x0)), (1, (true, x1)), (2, (true, x2)), (3, (false, x3))]) (by decide) rfl dL_isText_36 ?_
  refine j_iconst F dL_isText_38 ?_
  refine j_istore F (lv' := [(5, (true, 0)), (4, (true, y0)), (0, (false, x0)), (1, (true, x1)), (2, (true, x2)), (3, (false, x3))]) (by decide) rfl dL_isText_39 ?_
  refine j_sub (lv' := [(0, (false, x0)), (1, (true, x1)), (2, (true, x2)), (3, (false, x3)), (4, (true, y0)), (5, (true, 0))]) [2, 3, 4, 5, 1, 0] rfl ?_
  exact w_L_isText_41 F hno hnm FU x0 x1 x2 x3 y0 0 M h
set_option maxHeartbeats 4000000 in
set_option maxRecDepth 100000 in
theorem w_L_isText_35 {p : Program} {l : Launch} {e : Env} {R : Room} {s : State} {m : MethodId} {args : Array Value} {below : List Frame} {meth : Method} {c : Code} {G : Gt} {ρ0 : Int → Nat} {M0 : Mo} {res : RS} (F : Fx p l R s m args meth c cL_isText 6 RL G M0 10 (some FieldType.boolean)) (hno : ∀ x ∈ c.exceptionTable.toList, False) (hnm : meth.name = yL_isText.name) (x0 x1 x2 x3 : Int) (M : Mo) (h : L_isText_35 x0 x1 x2 x3 M = some res) : J p l e R s m args below meth c 6 G ρ0 M0 1 res M 35 [(0, (false, x0)), (1, (true, x1)), (2, (true, x2)), (3, (false, x3))] [] := by
  unfold L_isText_35 at h
  refine j_iconst F dL_isText_35 ?_
  refine j_sub (lv' := [(0, (false, x0)), (1, (true, x1)), (2, (true, x2)), (3, (false, x3))]) [0, 1, 2, 3] rfl ?_
  exact w_L_isText_36 F hno hnm x0 x1 x2 x3 0 M h
set_option maxHeartbeats 4000000 in
set_option maxRecDepth 100000 in
theorem w_L_isText_0 {p : Program} {l : Launch} {e : Env} {R : Room} {s : State} {m : MethodId} {args : Array Value} {below : List Frame} {meth : Method} {c : Code} {G : Gt} {ρ0 : Int → Nat} {M0 : Mo} {res : RS} (F : Fx p l R s m args meth c cL_isText 6 RL G M0 10 (some FieldType.boolean)) (hno : ∀ x ∈ c.exceptionTable.toList, False) (hnm : meth.name = yL_isText.name) (x0 x1 x2 x3 : Int) (M : Mo) (h : L_isText x0 x1 x2 x3 M = some res) : J p l e R s m args below meth c 6 G ρ0 M0 1 res M 0 [(0, (false, x0)), (1, (true, x1)), (2, (true, x2)), (3, (false, x3))] [] := by
  unfold L_isText at h
  refine j_aload_n F 0 rfl rfl dL_isText_0 ?_
  refine j_iconst F dL_isText_1 ?_
  refine j_iload_n F 1 rfl rfl dL_isText_2 ?_
  refine j_iload_n F 2 rfl rfl dL_isText_3 ?_
  refine j_aload_n F 3 rfl rfl dL_isText_4 ?_
  refine j_bipush F (by decide) dL_isText_5 ?_
  obtain ⟨g1, h⟩ := gua h
  obtain ⟨g2, h⟩ := gua h
  refine j_iaload F g1 g2 dL_isText_7 ?_
  refine j_callX (d' := 9) (argl := [(false, x0), (true, 3), (true, x1), (true, x2), (true, (el M 0 x3 (wr 63)))]) (rk9 := 1) (st := []) F hno M_L_asks q1512 q1511 ⟨by decide, by decide⟩ (Nat.le_of_ble_eq_true rfl) (by decide) dL_isText_8 rfl h (fun z hz => c_L_asks l F.ht G x0 3 x1 x2 (el M 0 x3 (wr 63)) M z hz) (fun v3 M4 h kl5 => ?_)
  refine j_st (st' := [(true, v3)]) rfl ?_
  refine j_sipush F (by decide) dL_isText_11 ?_
  refine j_icmp_ne F 35 (by decide) dL_isText_14 h (fun h => ?_) (fun h => ?_)
  · skip
    refine j_sub (lv' := [(0, (false, x0)), (1, (true, x1)), (2, (true, x2)), (3, (false, x3))]) [0, 1, 2, 3] rfl ?_
    exact w_L_isText_35 F hno hnm x0 x1 x2 x3 M4 h
  · skip
    refine j_aload_n F 0 rfl rfl dL_isText_17 ?_
    refine j_iconst F dL_isText_18 ?_
    refine j_iload_n F 1 rfl rfl dL_isText_19 ?_
    refine j_iload_n F 2 rfl rfl dL_isText_20 ?_
    refine j_iconst F dL_isText_21 ?_
    refine j_callX (d' := 9) (argl := [(false, x0), (true, 3), (true, x1), (true, x2), (true, (-1))]) (rk9 := 1) (st := []) F hno M_L_asks q1512 q1511 ⟨by decide, by decide⟩ (Nat.le_of_ble_eq_true rfl) (by decide) dL_isText_22 rfl h (fun z hz => c_L_asks l F.ht G x0 3 x1 x2 (-1) M4 z hz) (fun v6 M7 h kl8 => ?_)
    refine j_st (st' := [(true, v6)]) rfl ?_
    refine j_sipush F (by decide) dL_isText_25 ?_
    refine j_icmp_ne F 35 (by decide) dL_isText_28 h (fun h => ?_) (fun h => ?_)
    · skip
      refine j_sub (lv' := [(0, (false, x0)), (1, (true, x1)), (2, (true, x2)), (3, (false, x3))]) [0, 1, 2, 3] rfl ?_
      exact w_L_isText_35 F hno hnm x0 x1 x2 x3 M7 h
    · skip
      refine j_iconst F dL_isText_31 ?_
      refine j_goto F 36 (by decide) dL_isText_32 ?_
      refine j_sub (lv' := [(0, (false, x0)), (1, (true, x1)), (2, (true, x2)), (3, (false, x3))]) [0, 1, 2, 3] rfl ?_
      exact w_L_isText_36 F hno hnm x0 x1 x2 x3 1 M7 h
theorem c_L_isText (l : Launch) (hl : l.stackTraces = false) (G : Gt) (x0 x1 x2 x3 : Int) (M : Mo) (z : RS) (h : L_isText x0 x1 x2 x3 M = some z) : CT l G yL_isText (cn yL_isText cL_isText 6 (some FieldType.boolean)) 10 [(false, x0), (true, x1), (true, x2), (false, x3)] M 1 z :=
  ctOf hl (by decide) (Nat.le_of_ble_eq_true rfl) (fun p e R s m args below meth c ρ F hno hnm => w_L_isText_0 F hno hnm x0 x1 x2 x3 M h)
theorem dL_areFiles_0 : decode cL_areFiles 0 = .ok (.aload_n 0, 1) := by decide +kernel
theorem dL_areFiles_1 : decode cL_areFiles 1 = .ok (.iconst 0, 1) := by decide +kernel
theorem dL_areFiles_2 : decode cL_areFiles 2 = .ok (.iconst 2, 1) := by decide +kernel
theorem dL_areFiles_3 : decode cL_areFiles 3 = .ok (.iconst 0, 1) := by decide +kernel
theorem dL_areFiles_4 : decode cL_areFiles 4 = .ok (.iconst 0, 1) := by decide +kernel
theorem dL_areFiles_5 : decode cL_areFiles 5 = .ok (.invokestatic 116, 3) := by decide +kernel
theorem dL_areFiles_8 : decode cL_areFiles 8 = .ok (.sipush (-3000), 3) := by decide +kernel
theorem dL_areFiles_11 : decode cL_areFiles 11 = .ok (.if_icmp .ne 79, 3) := by decide +kernel
theorem dL_areFiles_14 : decode cL_areFiles 14 = .ok (.aload_n 0, 1) := by decide +kernel
theorem dL_areFiles_15 : decode cL_areFiles 15 = .ok (.iconst 1, 1) := by decide +kernel
theorem dL_areFiles_16 : decode cL_areFiles 16 = .ok (.bipush 10, 2) := by decide +kernel
theorem dL_areFiles_18 : decode cL_areFiles 18 = .ok (.iconst 0, 1) := by decide +kernel
theorem dL_areFiles_19 : decode cL_areFiles 19 = .ok (.iconst 0, 1) := by decide +kernel
theorem dL_areFiles_20 : decode cL_areFiles 20 = .ok (.invokestatic 116, 3) := by decide +kernel
theorem dL_areFiles_23 : decode cL_areFiles 23 = .ok (.sipush (-3000), 3) := by decide +kernel
theorem dL_areFiles_26 : decode cL_areFiles 26 = .ok (.if_icmp .ne 64, 3) := by decide +kernel
theorem dL_areFiles_29 : decode cL_areFiles 29 = .ok (.aload_n 0, 1) := by decide +kernel
theorem dL_areFiles_30 : decode cL_areFiles 30 = .ok (.iconst 2, 1) := by decide +kernel
theorem dL_areFiles_31 : decode cL_areFiles 31 = .ok (.iconst 3, 1) := by decide +kernel
theorem dL_areFiles_32 : decode cL_areFiles 32 = .ok (.aload_n 3, 1) := by decide +kernel
theorem dL_areFiles_33 : decode cL_areFiles 33 = .ok (.bipush 8, 2) := by decide +kernel
theorem dL_areFiles_35 : decode cL_areFiles 35 = .ok (.iaload, 1) := by decide +kernel
theorem dL_areFiles_36 : decode cL_areFiles 36 = .ok (.iadd, 1) := by decide +kernel
theorem dL_areFiles_37 : decode cL_areFiles 37 = .ok (.iconst 0, 1) := by decide +kernel
theorem dL_areFiles_38 : decode cL_areFiles 38 = .ok (.iconst 0, 1) := by decide +kernel
theorem dL_areFiles_39 : decode cL_areFiles 39 = .ok (.invokestatic 116, 3) := by decide +kernel
theorem dL_areFiles_42 : decode cL_areFiles 42 = .ok (.sipush (-3000), 3) := by decide +kernel
theorem dL_areFiles_45 : decode cL_areFiles 45 = .ok (.if_icmp .ne 45, 3) := by decide +kernel
theorem dL_areFiles_48 : decode cL_areFiles 48 = .ok (.aload_n 0, 1) := by decide +kernel
theorem dL_areFiles_49 : decode cL_areFiles 49 = .ok (.iconst 2, 1) := by decide +kernel
theorem dL_areFiles_50 : decode cL_areFiles 50 = .ok (.iconst 0, 1) := by decide +kernel
theorem dL_areFiles_51 : decode cL_areFiles 51 = .ok (.iconst 2, 1) := by decide +kernel
theorem dL_areFiles_52 : decode cL_areFiles 52 = .ok (.iconst 0, 1) := by decide +kernel
theorem dL_areFiles_53 : decode cL_areFiles 53 = .ok (.invokestatic 116, 3) := by decide +kernel
theorem dL_areFiles_56 : decode cL_areFiles 56 = .ok (.sipush (-3000), 3) := by decide +kernel
theorem dL_areFiles_59 : decode cL_areFiles 59 = .ok (.if_icmp .ne 31, 3) := by decide +kernel
theorem dL_areFiles_62 : decode cL_areFiles 62 = .ok (.aload_n 0, 1) := by decide +kernel
theorem dL_areFiles_63 : decode cL_areFiles 63 = .ok (.iconst 0, 1) := by decide +kernel
theorem dL_areFiles_64 : decode cL_areFiles 64 = .ok (.invokevirtual 77, 3) := by decide +kernel
theorem dL_areFiles_67 : decode cL_areFiles 67 = .ok (.aload_n 3, 1) := by decide +kernel
theorem dL_areFiles_68 : decode cL_areFiles 68 = .ok (.bipush 6, 2) := by decide +kernel
theorem dL_areFiles_70 : decode cL_areFiles 70 = .ok (.iaload, 1) := by decide +kernel
theorem dL_areFiles_71 : decode cL_areFiles 71 = .ok (.if_icmp .ne 19, 3) := by decide +kernel
theorem dL_areFiles_74 : decode cL_areFiles 74 = .ok (.aload_n 0, 1) := by decide +kernel
theorem dL_areFiles_75 : decode cL_areFiles 75 = .ok (.iconst 1, 1) := by decide +kernel
theorem dL_areFiles_76 : decode cL_areFiles 76 = .ok (.invokevirtual 77, 3) := by decide +kernel
theorem dL_areFiles_79 : decode cL_areFiles 79 = .ok (.aload_n 3, 1) := by decide +kernel
theorem dL_areFiles_80 : decode cL_areFiles 80 = .ok (.bipush 7, 2) := by decide +kernel
theorem dL_areFiles_82 : decode cL_areFiles 82 = .ok (.iaload, 1) := by decide +kernel
theorem dL_areFiles_83 : decode cL_areFiles 83 = .ok (.if_icmp .ne 7, 3) := by decide +kernel
theorem dL_areFiles_86 : decode cL_areFiles 86 = .ok (.iconst 1, 1) := by decide +kernel
theorem dL_areFiles_87 : decode cL_areFiles 87 = .ok (.goto 4, 3) := by decide +kernel
theorem dL_areFiles_90 : decode cL_areFiles 90 = .ok (.iconst 0, 1) := by decide +kernel
theorem dL_areFiles_91 : decode cL_areFiles 91 = .ok (.istore 4, 2) := by decide +kernel
theorem dL_areFiles_93 : decode cL_areFiles 93 = .ok (.iconst 0, 1) := by decide +kernel
theorem dL_areFiles_94 : decode cL_areFiles 94 = .ok (.istore 5, 2) := by decide +kernel
theorem dL_areFiles_96 : decode cL_areFiles 96 = .ok (.iload 5, 2) := by decide +kernel
theorem dL_areFiles_98 : decode cL_areFiles 98 = .ok (.iconst 2, 1) := by decide +kernel
theorem dL_areFiles_99 : decode cL_areFiles 99 = .ok (.if_icmp .ge 185, 3) := by decide +kernel
theorem dL_areFiles_102 : decode cL_areFiles 102 = .ok (.iload 4, 2) := by decide +kernel
theorem dL_areFiles_104 : decode cL_areFiles 104 = .ok (.ifCond .eq 180, 3) := by decide +kernel
theorem dL_areFiles_107 : decode cL_areFiles 107 = .ok (.iconst 0, 1) := by decide +kernel
theorem dL_areFiles_108 : decode cL_areFiles 108 = .ok (.istore 6, 2) := by decide +kernel
theorem dL_areFiles_110 : decode cL_areFiles 110 = .ok (.iload 6, 2) := by decide +kernel
theorem dL_areFiles_112 : decode cL_areFiles 112 = .ok (.iconst 2, 1) := by decide +kernel
theorem dL_areFiles_113 : decode cL_areFiles 113 = .ok (.if_icmp .ge 122, 3) := by decide +kernel
theorem dL_areFiles_116 : decode cL_areFiles 116 = .ok (.iload 4, 2) := by decide +kernel
theorem dL_areFiles_118 : decode cL_areFiles 118 = .ok (.ifCond .eq 117, 3) := by decide +kernel
theorem dL_areFiles_121 : decode cL_areFiles 121 = .ok (.aload_n 3, 1) := by decide +kernel
theorem dL_areFiles_122 : decode cL_areFiles 122 = .ok (.iconst 2, 1) := by decide +kernel
theorem dL_areFiles_123 : decode cL_areFiles 123 = .ok (.iload 5, 2) := by decide +kernel
theorem dL_areFiles_125 : decode cL_areFiles 125 = .ok (.iadd, 1) := by decide +kernel
theorem dL_areFiles_126 : decode cL_areFiles 126 = .ok (.iaload, 1) := by decide +kernel
theorem dL_areFiles_127 : decode cL_areFiles 127 = .ok (.iload 6, 2) := by decide +kernel
theorem dL_areFiles_129 : decode cL_areFiles 129 = .ok (.if_icmp .ne 7, 3) := by decide +kernel
theorem dL_areFiles_136 : decode cL_areFiles 136 = .ok (.iconst 0, 1) := by decide +kernel
theorem dL_areFiles_132 : decode cL_areFiles 132 = .ok (.iconst 1, 1) := by decide +kernel
theorem dL_areFiles_133 : decode cL_areFiles 133 = .ok (.goto 4, 3) := by decide +kernel
theorem dL_areFiles_137 : decode cL_areFiles 137 = .ok (.istore 7, 2) := by decide +kernel
theorem dL_areFiles_139 : decode cL_areFiles 139 = .ok (.aload_n 0, 1) := by decide +kernel
theorem dL_areFiles_140 : decode cL_areFiles 140 = .ok (.iload 6, 2) := by decide +kernel
theorem dL_areFiles_142 : decode cL_areFiles 142 = .ok (.iload 5, 2) := by decide +kernel
theorem dL_areFiles_144 : decode cL_areFiles 144 = .ok (.invokevirtual 80, 3) := by decide +kernel
theorem dL_areFiles_147 : decode cL_areFiles 147 = .ok (.iload 7, 2) := by decide +kernel
theorem dL_areFiles_149 : decode cL_areFiles 149 = .ok (.ifCond .eq 10, 3) := by decide +kernel
theorem dL_areFiles_159 : decode cL_areFiles 159 = .ok (.iconst (-1), 1) := by decide +kernel
theorem dL_areFiles_152 : decode cL_areFiles 152 = .ok (.aload_n 3, 1) := by decide +kernel
theorem dL_areFiles_153 : decode cL_areFiles 153 = .ok (.iload 5, 2) := by decide +kernel
theorem dL_areFiles_155 : decode cL_areFiles 155 = .ok (.iaload, 1) := by decide +kernel
theorem dL_areFiles_156 : decode cL_areFiles 156 = .ok (.goto 4, 3) := by decide +kernel
theorem dL_areFiles_160 : decode cL_areFiles 160 = .ok (.if_icmp .ne 66, 3) := by decide +kernel
theorem dL_areFiles_163 : decode cL_areFiles 163 = .ok (.iload 7, 2) := by decide +kernel
theorem dL_areFiles_165 : decode cL_areFiles 165 = .ok (.ifCond .eq 27, 3) := by decide +kernel
theorem dL_areFiles_192 : decode cL_areFiles 192 = .ok (.aload_n 0, 1) := by decide +kernel
theorem dL_areFiles_193 : decode cL_areFiles 193 = .ok (.iconst 3, 1) := by decide +kernel
theorem dL_areFiles_194 : decode cL_areFiles 194 = .ok (.iload 6, 2) := by decide +kernel
theorem dL_areFiles_196 : decode cL_areFiles 196 = .ok (.iload 5, 2) := by decide +kernel
theorem dL_areFiles_198 : decode cL_areFiles 198 = .ok (.iconst 0, 1) := by decide +kernel
theorem dL_areFiles_199 : decode cL_areFiles 199 = .ok (.invokestatic 116, 3) := by decide +kernel
theorem dL_areFiles_202 : decode cL_areFiles 202 = .ok (.sipush (-3000), 3) := by decide +kernel
theorem dL_areFiles_205 : decode cL_areFiles 205 = .ok (.if_icmp .ne 21, 3) := by decide +kernel
theorem dL_areFiles_208 : decode cL_areFiles 208 = .ok (.aload_n 0, 1) := by decide +kernel
theorem dL_areFiles_209 : decode cL_areFiles 209 = .ok (.bipush 9, 2) := by decide +kernel
theorem dL_areFiles_211 : decode cL_areFiles 211 = .ok (.iload 6, 2) := by decide +kernel
theorem dL_areFiles_213 : decode cL_areFiles 213 = .ok (.iload 5, 2) := by decide +kernel
theorem dL_areFiles_215 : decode cL_areFiles 215 = .ok (.iconst 0, 1) := by decide +kernel
theorem dL_areFiles_216 : decode cL_areFiles 216 = .ok (.invokestatic 116, 3) := by decide +kernel
theorem dL_areFiles_219 : decode cL_areFiles 219 = .ok (.ifCond .ne 7, 3) := by decide +kernel
theorem dL_areFiles_168 : decode cL_areFiles 168 = .ok (.aload_n 0, 1) := by decide +kernel
theorem dL_areFiles_169 : decode cL_areFiles 169 = .ok (.iload 6, 2) := by decide +kernel
theorem dL_areFiles_171 : decode cL_areFiles 171 = .ok (.iload 5, 2) := by decide +kernel
theorem dL_areFiles_173 : decode cL_areFiles 173 = .ok (.iload 5, 2) := by decide +kernel
theorem dL_areFiles_175 : decode cL_areFiles 175 = .ok (.ifCond .ne 7, 3) := by decide +kernel
theorem dL_areFiles_182 : decode cL_areFiles 182 = .ok (.aload_n 2, 1) := by decide +kernel
theorem dL_areFiles_178 : decode cL_areFiles 178 = .ok (.aload_n 1, 1) := by decide +kernel
theorem dL_areFiles_179 : decode cL_areFiles 179 = .ok (.goto 4, 3) := by decide +kernel
set_option maxRecDepth 100000 in
theorem q1590 : Cond.code yL_isText cL_isText 6 (some FieldType.boolean) ∈ GT := gt 1590 (rfl) (by decide +kernel)
theorem M_L_isText : MY yL_isText cL_isText 6 (some FieldType.boolean) 4 := ⟨q1590, q52, by decide +kernel, by decide +kernel⟩
set_option maxRecDepth 100000 in
theorem q1589 : Cond.static yL_isText ∈ GT := gt 1589 (by decide +kernel) (by decide +kernel)
set_option maxRecDepth 100000 in
theorem q1588 : Cond.methodLink RL 120 yL_isText ∈ GT := gt 1588 (by decide +kernel) (by decide +kernel)
theorem dL_areFiles_183 : decode cL_areFiles 183 = .ok (.invokestatic 120, 3) := by decide +kernel
theorem dL_areFiles_186 : decode cL_areFiles 186 = .ok (.ifCond .eq 40, 3) := by decide +kernel
theorem dL_areFiles_189 : decode cL_areFiles 189 = .ok (.goto 33, 3) := by decide +kernel
theorem dL_areFiles_222 : decode cL_areFiles 222 = .ok (.iconst 1, 1) := by decide +kernel
theorem dL_areFiles_223 : decode cL_areFiles 223 = .ok (.goto 4, 3) := by decide +kernel
theorem dL_areFiles_226 : decode cL_areFiles 226 = .ok (.iconst 0, 1) := by decide +kernel
theorem dL_areFiles_227 : decode cL_areFiles 227 = .ok (.istore 4, 2) := by decide +kernel
theorem dL_areFiles_229 : decode cL_areFiles 229 = .ok (.iinc 6 1, 3) := by decide +kernel
theorem dL_areFiles_232 : decode cL_areFiles 232 = .ok (.goto (-122), 3) := by decide +kernel
theorem dL_areFiles_235 : decode cL_areFiles 235 = .ok (.iload 4, 2) := by decide +kernel
theorem dL_areFiles_237 : decode cL_areFiles 237 = .ok (.ifCond .eq 38, 3) := by decide +kernel
theorem dL_areFiles_240 : decode cL_areFiles 240 = .ok (.aload_n 0, 1) := by decide +kernel
theorem dL_areFiles_241 : decode cL_areFiles 241 = .ok (.iload 5, 2) := by decide +kernel
set_option maxRecDepth 100000 in
theorem q1594 : Cond.code yX11_agree cX11_agree 6 (some FieldType.boolean) ∈ GT := gt 1594 (rfl) (by decide +kernel)
theorem M_X11_agree : MY yX11_agree cX11_agree 6 (some FieldType.boolean) 1 := ⟨q1594, q53, by decide +kernel, by decide +kernel⟩
set_option maxRecDepth 100000 in
theorem q1592 : Cond.instanceMethod yX11_agree ∈ GT := gt 1592 (by decide +kernel) (by decide +kernel)
set_option maxRecDepth 100000 in
theorem q1593 : Cond.selects RX11 yX11_agree yX11_agree ∈ GT := gt 1593 (by decide +kernel) (by decide +kernel)
set_option maxRecDepth 100000 in
theorem q1591 : Cond.methodLink RL 124 yX11_agree ∈ GT := gt 1591 (by decide +kernel) (by decide +kernel)
theorem dL_areFiles_243 : decode cL_areFiles 243 = .ok (.invokevirtual 124, 3) := by decide +kernel
theorem dL_areFiles_246 : decode cL_areFiles 246 = .ok (.ifCond .eq 29, 3) := by decide +kernel
theorem dL_areFiles_249 : decode cL_areFiles 249 = .ok (.aload_n 0, 1) := by decide +kernel
theorem dL_areFiles_250 : decode cL_areFiles 250 = .ok (.bipush 10, 2) := by decide +kernel
theorem dL_areFiles_252 : decode cL_areFiles 252 = .ok (.iconst 0, 1) := by decide +kernel
theorem dL_areFiles_253 : decode cL_areFiles 253 = .ok (.iload 5, 2) := by decide +kernel
theorem dL_areFiles_255 : decode cL_areFiles 255 = .ok (.aload_n 0, 1) := by decide +kernel
theorem dL_areFiles_256 : decode cL_areFiles 256 = .ok (.iconst 0, 1) := by decide +kernel
theorem dL_areFiles_257 : decode cL_areFiles 257 = .ok (.iload 5, 2) := by decide +kernel
theorem dL_areFiles_259 : decode cL_areFiles 259 = .ok (.invokevirtual 102, 3) := by decide +kernel
theorem dL_areFiles_262 : decode cL_areFiles 262 = .ok (.invokestatic 116, 3) := by decide +kernel
theorem dL_areFiles_265 : decode cL_areFiles 265 = .ok (.sipush (-3000), 3) := by decide +kernel
theorem dL_areFiles_268 : decode cL_areFiles 268 = .ok (.if_icmp .ne 7, 3) := by decide +kernel
theorem dL_areFiles_271 : decode cL_areFiles 271 = .ok (.iconst 1, 1) := by decide +kernel
theorem dL_areFiles_272 : decode cL_areFiles 272 = .ok (.goto 4, 3) := by decide +kernel
theorem dL_areFiles_275 : decode cL_areFiles 275 = .ok (.iconst 0, 1) := by decide +kernel
theorem dL_areFiles_276 : decode cL_areFiles 276 = .ok (.istore 4, 2) := by decide +kernel
theorem dL_areFiles_278 : decode cL_areFiles 278 = .ok (.iinc 5 1, 3) := by decide +kernel
theorem dL_areFiles_281 : decode cL_areFiles 281 = .ok (.goto (-185), 3) := by decide +kernel
theorem dL_areFiles_284 : decode cL_areFiles 284 = .ok (.iload 4, 2) := by decide +kernel
theorem dL_areFiles_286 : decode cL_areFiles 286 = .ok (.ifCond .eq 54, 3) := by decide +kernel
theorem dL_areFiles_340 : decode cL_areFiles 340 = .ok (.iconst 0, 1) := by decide +kernel
theorem dL_areFiles_341 : decode cL_areFiles 341 = .ok (.ireturn, 1) := by decide +kernel
theorem dL_areFiles_289 : decode cL_areFiles 289 = .ok (.aload_n 0, 1) := by decide +kernel
theorem dL_areFiles_290 : decode cL_areFiles 290 = .ok (.iconst 4, 1) := by decide +kernel
theorem dL_areFiles_291 : decode cL_areFiles 291 = .ok (.iconst 0, 1) := by decide +kernel
theorem dL_areFiles_292 : decode cL_areFiles 292 = .ok (.aload_n 3, 1) := by decide +kernel
theorem dL_areFiles_293 : decode cL_areFiles 293 = .ok (.iconst 4, 1) := by decide +kernel
theorem dL_areFiles_294 : decode cL_areFiles 294 = .ok (.iaload, 1) := by decide +kernel
theorem dL_areFiles_295 : decode cL_areFiles 295 = .ok (.iconst 0, 1) := by decide +kernel
theorem dL_areFiles_296 : decode cL_areFiles 296 = .ok (.invokestatic 116, 3) := by decide +kernel
theorem dL_areFiles_299 : decode cL_areFiles 299 = .ok (.sipush (-3000), 3) := by decide +kernel
theorem dL_areFiles_302 : decode cL_areFiles 302 = .ok (.if_icmp .ne 38, 3) := by decide +kernel
theorem dL_areFiles_305 : decode cL_areFiles 305 = .ok (.aload_n 0, 1) := by decide +kernel
theorem dL_areFiles_306 : decode cL_areFiles 306 = .ok (.iconst 4, 1) := by decide +kernel
theorem dL_areFiles_307 : decode cL_areFiles 307 = .ok (.iconst 1, 1) := by decide +kernel
theorem dL_areFiles_308 : decode cL_areFiles 308 = .ok (.aload_n 3, 1) := by decide +kernel
theorem dL_areFiles_309 : decode cL_areFiles 309 = .ok (.iconst 5, 1) := by decide +kernel
theorem dL_areFiles_310 : decode cL_areFiles 310 = .ok (.iaload, 1) := by decide +kernel
theorem dL_areFiles_311 : decode cL_areFiles 311 = .ok (.iconst 0, 1) := by decide +kernel
theorem dL_areFiles_312 : decode cL_areFiles 312 = .ok (.invokestatic 116, 3) := by decide +kernel
theorem dL_areFiles_315 : decode cL_areFiles 315 = .ok (.sipush (-3000), 3) := by decide +kernel
theorem dL_areFiles_318 : decode cL_areFiles 318 = .ok (.if_icmp .ne 22, 3) := by decide +kernel
theorem dL_areFiles_321 : decode cL_areFiles 321 = .ok (.aload_n 0, 1) := by decide +kernel
theorem dL_areFiles_322 : decode cL_areFiles 322 = .ok (.bipush 8, 2) := by decide +kernel
theorem dL_areFiles_324 : decode cL_areFiles 324 = .ok (.iconst 0, 1) := by decide +kernel
theorem dL_areFiles_325 : decode cL_areFiles 325 = .ok (.iconst 0, 1) := by decide +kernel
theorem dL_areFiles_326 : decode cL_areFiles 326 = .ok (.iconst 3, 1) := by decide +kernel
theorem dL_areFiles_327 : decode cL_areFiles 327 = .ok (.invokestatic 116, 3) := by decide +kernel
theorem dL_areFiles_330 : decode cL_areFiles 330 = .ok (.sipush (-3000), 3) := by decide +kernel
theorem dL_areFiles_333 : decode cL_areFiles 333 = .ok (.if_icmp .ne 7, 3) := by decide +kernel
theorem dL_areFiles_336 : decode cL_areFiles 336 = .ok (.iconst 1, 1) := by decide +kernel
theorem dL_areFiles_337 : decode cL_areFiles 337 = .ok (.goto 4, 3) := by decide +kernel
set_option maxHeartbeats 4000000 in
set_option maxRecDepth 100000 in
theorem w_L_areFiles_227 {p : Program} {l : Launch} {e : Env} {R : Room} {s : State} {m : MethodId} {args : Array Value} {below : List Frame} {meth : Method} {c : Code} {G : Gt} {ρ0 : Int → Nat} {M0 : Mo} {res : RS} (F : Fx p l R s m args meth c cL_areFiles 8 RL G M0 11 (some FieldType.boolean)) (hno : ∀ x ∈ c.exceptionTable.toList, False) (hnm : meth.name = yL_areFiles.name) (k96 : Int → Int → Int → Int → Int → Int → Mo → Option RS) (hk96 : ∀ (x0 x1 x2 x3 x4 x5 : Int) (M : Mo), k96 x0 x1 x2 x3 x4 x5 M = some res → J p l e R s m args below meth c 8 G ρ0 M0 1 res M 96 [(0, (false, x0)), (1, (false, x1)), (2, (false, x2)), (3, (false, x3)), (4, (true, x4)), (5, (true, x5))] []) (k110 : Int → Int → Int → Int → Int → Int → Int → Mo → Option RS) (hk110 : ∀ (x0 x1 x2 x3 x4 x5 x6 : Int) (M : Mo), k110 x0 x1 x2 x3 x4 x5 x6 M = some res → J p l e R s m args below meth c 8 G ρ0 M0 1 res M 110 [(0, (false, x0)), (1, (false, x1)), (2, (false, x2)), (3, (false, x3)), (4, (true, x4)), (5, (true, x5)), (6, (true, x6))] []) (x0 x1 x2 x3 x5 x6 y0 : Int) (M : Mo) (h : L_areFiles_227 k96 k110 x0 x1 x2 x3 x5 x6 y0 M = some res) : J p l e R s m args below meth c 8 G ρ0 M0 1 res M 227 [(0, (false, x0)), (1, (false, x1)), (2, (false, x2)), (3, (false, x3)), (5, (true, x5)), (6, (true, x6))] [(true, y0)] := by
  unfold L_areFiles_227 at h
  refine j_istore F (lv' := [(4, (true, y0)), (0, (false, x0)), (1, (false, x1)), (2, (false, x2)), (3, (false, x3)), (5, (true, x5)), (6, (true, x6))]) (by decide) rfl dL_areFiles_227 ?_
  refine j_iinc F 6 (lv' := [(6, (true, (x6 + 1))), (4, (true, y0)), (0, (false, x0)), (1, (false, x1)), (2, (false, x2)), (3, (false, x3)), (5, (true, x5))]) rfl (by decide) rfl dL_areFiles_229 ?_
  refine j_goto F 110 (by decide) dL_areFiles_232 ?_
  refine j_sub (lv' := [(0, (false, x0)), (1, (false, x1)), (2, (false, x2)), (3, (false, x3)), (4, (true, y0)), (5, (true, x5)), (6, (true, (x6 + 1)))]) [2, 3, 4, 5, 1, 6, 0] rfl ?_
  exact hk110 x0 x1 x2 x3 y0 x5 (x6 + 1) M h
set_option maxHeartbeats 4000000 in
set_option maxRecDepth 100000 in
theorem w_L_areFiles_222 {p : Program} {l : Launch} {e : Env} {R : Room} {s : State} {m : MethodId} {args : Array Value} {below : List Frame} {meth : Method} {c : Code} {G : Gt} {ρ0 : Int → Nat} {M0 : Mo} {res : RS} (F : Fx p l R s m args meth c cL_areFiles 8 RL G M0 11 (some FieldType.boolean)) (hno : ∀ x ∈ c.exceptionTable.toList, False) (hnm : meth.name = yL_areFiles.name) (k96 : Int → Int → Int → Int → Int → Int → Mo → Option RS) (hk96 : ∀ (x0 x1 x2 x3 x4 x5 : Int) (M : Mo), k96 x0 x1 x2 x3 x4 x5 M = some res → J p l e R s m args below meth c 8 G ρ0 M0 1 res M 96 [(0, (false, x0)), (1, (false, x1)), (2, (false, x2)), (3, (false, x3)), (4, (true, x4)), (5, (true, x5))] []) (k110 : Int → Int → Int → Int → Int → Int → Int → Mo → Option RS) (hk110 : ∀ (x0 x1 x2 x3 x4 x5 x6 : Int) (M : Mo), k110 x0 x1 x2 x3 x4 x5 x6 M = some res → J p l e R s m args below meth c 8 G ρ0 M0 1 res M 110 [(0, (false, x0)), (1, (false, x1)), (2, (false, x2)), (3, (false, x3)), (4, (true, x4)), (5, (true, x5)), (6, (true, x6))] []) (x0 x1 x2 x3 x5 x6 : Int) (M : Mo) (h : L_areFiles_222 k96 k110 x0 x1 x2 x3 x5 x6 M = some res) : J p l e R s m args below meth c 8 G ρ0 M0 1 res M 222 [(0, (false, x0)), (1, (false, x1)), (2, (false, x2)), (3, (false, x3)), (5, (true, x5)), (6, (true, x6))] [] := by
  unfold L_areFiles_222 at h
  refine j_iconst F dL_areFiles_222 ?_
  refine j_goto F 227 (by decide) dL_areFiles_223 ?_
  refine j_sub (lv' := [(0, (false, x0)), (1, (false, x1)), (2, (false, x2)), (3, (false, x3)), (5, (true, x5)), (6, (true, x6))]) [0, 1, 2, 3, 4, 5] rfl ?_
  exact w_L_areFiles_227 F hno hnm k96 hk96 k110 hk110 x0 x1 x2 x3 x5 x6 1 M h
set_option maxHeartbeats 4000000 in
set_option maxRecDepth 100000 in
theorem w_L_areFiles_226 {p : Program} {l : Launch} {e : Env} {R : Room} {s : State} {m : MethodId} {args : Array Value} {below : List Frame} {meth : Method} {c : Code} {G : Gt} {ρ0 : Int → Nat} {M0 : Mo} {res : RS} (F : Fx p l R s m args meth c cL_areFiles 8 RL G M0 11 (some FieldType.boolean)) (hno : ∀ x ∈ c.exceptionTable.toList, False) (hnm : meth.name = yL_areFiles.name) (k96 : Int → Int → Int → Int → Int → Int → Mo → Option RS) (hk96 : ∀ (x0 x1 x2 x3 x4 x5 : Int) (M : Mo), k96 x0 x1 x2 x3 x4 x5 M = some res → J p l e R s m args below meth c 8 G ρ0 M0 1 res M 96 [(0, (false, x0)), (1, (false, x1)), (2, (false, x2)), (3, (false, x3)), (4, (true, x4)), (5, (true, x5))] []) (k110 : Int → Int → Int → Int → Int → Int → Int → Mo → Option RS) (hk110 : ∀ (x0 x1 x2 x3 x4 x5 x6 : Int) (M : Mo), k110 x0 x1 x2 x3 x4 x5 x6 M = some res → J p l e R s m args below meth c 8 G ρ0 M0 1 res M 110 [(0, (false, x0)), (1, (false, x1)), (2, (false, x2)), (3, (false, x3)), (4, (true, x4)), (5, (true, x5)), (6, (true, x6))] []) (x0 x1 x2 x3 x5 x6 : Int) (M : Mo) (h : L_areFiles_226 k96 k110 x0 x1 x2 x3 x5 x6 M = some res) : J p l e R s m args below meth c 8 G ρ0 M0 1 res M 226 [(0, (false, x0)), (1, (false, x1)), (2, (false, x2)), (3, (false, x3)), (5, (true, x5)), (6, (true, x6))] [] := by
  unfold L_areFiles_226 at h
  refine j_iconst F dL_areFiles_226 ?_
  refine j_sub (lv' := [(0, (false, x0)), (1, (false, x1)), (2, (false, x2)), (3, (false, x3)), (5, (true, x5)), (6, (true, x6))]) [0, 1, 2, 3, 4, 5] rfl ?_
  exact w_L_areFiles_227 F hno hnm k96 hk96 k110 hk110 x0 x1 x2 x3 x5 x6 0 M h
set_option maxHeartbeats 4000000 in
set_option maxRecDepth 100000 in
theorem w_L_areFiles_183 {p : Program} {l : Launch} {e : Env} {R : Room} {s : State} {m : MethodId} {args : Array Value} {below : List Frame} {meth : Method} {c : Code} {G : Gt} {ρ0 : Int → Nat} {M0 : Mo} {res : RS} (F : Fx p l R s m args meth c cL_areFiles 8 RL G M0 11 (some FieldType.boolean)) (hno : ∀ x ∈ c.exceptionTable.toList, False) (hnm : meth.name = yL_areFiles.name) (k96 : Int → Int → Int → Int → Int → Int → Mo → Option RS) (hk96 : ∀ (x0 x1 x2 x3 x4 x5 : Int) (M : Mo), k96 x0 x1 x2 x3 x4 x5 M = some res → J p l e R s m args below meth c 8 G ρ0 M0 1 res M 96 [(0, (false, x0)), (1, (false, x1)), (2, (false, x2)), (3, (false, x3)), (4, (true, x4)), (5, (true, x5))] []) (k110 : Int → Int → Int → Int → Int → Int → Int → Mo → Option RS) (hk110 : ∀ (x0 x1 x2 x3 x4 x5 x6 : Int) (M : Mo), k110 x0 x1 x2 x3 x4 x5 x6 M = some res → J p l e R s m args below meth c 8 G ρ0 M0 1 res M 110 [(0, (false, x0)), (1, (false, x1)), (2, (false, x2)), (3, (false, x3)), (4, (true, x4)), (5, (true, x5)), (6, (true, x6))] []) (x0 x1 x2 x3 x5 x6 y0 y1 y2 y3 : Int) (M : Mo) (h : L_areFiles_183 k96 k110 x0 x1 x2 x3 x5 x6 y0 y1 y2 y3 M = some res) : J p l e R s m args below meth c 8 G ρ0 M0 1 res M 183 [(0, (false, x0)), (1, (false, x1)), (2, (false, x2)), (3, (false, x3)), (5, (true, x5)), (6, (true, x6))] [(false, y3), (true, y2), (true, y1), (false, y0)] := by
  unfold L_areFiles_183 at h
  refine j_callS (d' := 10) (argl := [(false, y0), (true, y1), (true, y2), (false, y3)]) (rk9 := 1) (st := []) F hno M_L_isText q1589 q1588 ⟨by decide, by decide⟩ (Nat.le_of_ble_eq_true rfl) (by decide) dL_areFiles_183 rfl h (fun z hz => c_L_isText l F.ht G y0 y1 y2 y3 M z hz) (fun v1 M2 h kl3 => ?_)
  refine j_st (st' := [(true, v1)]) rfl ?_
  refine j_if_eq F 226 (by decide) dL_areFiles_186 h (fun h => ?_) (fun h => ?_)
  · skip
    refine j_sub (lv' := [(0, (false, x0)), (1, (false, x1)), (2, (false, x2)), (3, (false, x3)), (5, (true, x5)), (6, (true, x6))]) [0, 1, 2, 3, 4, 5] rfl ?_
    exact w_L_areFiles_226 F hno hnm k96 hk96 k110 hk110 x0 x1 x2 x3 x5 x6 M2 h
  · skip
    refine j_goto F 222 (by decide) dL_areFiles_189 ?_
    refine j_sub (lv' := [(0, (false, x0)), (1, (false, x1)), (2, (false, x2)), (3, (false, x3)), (5, (true, x5)), (6, (true, x6))]) [0, 1, 2, 3, 4, 5] rfl ?_
    exact w_L_areFiles_222 F hno hnm k96 hk96 k110 hk110 x0 x1 x2 x3 x5 x6 M2 h
set_option maxHeartbeats 4000000 in
set_option maxRecDepth 100000 in
theorem w_L_areFiles_160 {p : Program} {l : Launch} {e : Env} {R : Room} {s : State} {m : MethodId} {args : Array Value} {below : List Frame} {meth : Method} {c : Code} {G : Gt} {ρ0 : Int → Nat} {M0 : Mo} {res : RS} (F : Fx p l R s m args meth c cL_areFiles 8 RL G M0 11 (some FieldType.boolean)) (hno : ∀ x ∈ c.exceptionTable.toList, False) (hnm : meth.name = yL_areFiles.name) (k96 : Int → Int → Int → Int → Int → Int → Mo → Option RS) (hk96 : ∀ (x0 x1 x2 x3 x4 x5 : Int) (M : Mo), k96 x0 x1 x2 x3 x4 x5 M = some res → J p l e R s m args below meth c 8 G ρ0 M0 1 res M 96 [(0, (false, x0)), (1, (false, x1)), (2, (false, x2)), (3, (false, x3)), (4, (true, x4)), (5, (true, x5))] []) (k110 : Int → Int → Int → Int → Int → Int → Int → Mo → Option RS) (hk110 : ∀ (x0 x1 x2 x3 x4 x5 x6 : Int) (M : Mo), k110 x0 x1 x2 x3 x4 x5 x6 M = some res → J p l e R s m args below meth c 8 G ρ0 M0 1 res M 110 [(0, (false, x0)), (1, (false, x1)), (2, (false, x2)), (3, (false, x3)), (4, (true, x4)), (5, (true, x5)), (6, (true, x6))] []) (x0 x1 x2 x3 x5 x6 x7 y0 y1 : Int) (M : Mo) (h : L_areFiles_160 k96 k110 x0 x1 x2 x3 x5 x6 x7 y0 y1 M = some res) : J p l e R s m args below meth c 8 G ρ0 M0 1 res M 160 [(0, (false, x0)), (1, (false, x1)), (2, (false, x2)), (3, (false, x3)), (5, (true, x5)), (6, (true, x6)), (7, (true, x7))] [(true, y1), (true, y0)] := by
  unfold L_areFiles_160 at h
  refine j_icmp_ne F 226 (by decide) dL_areFiles_160 h (fun h => ?_) (fun h => ?_)
  · skip
    refine j_sub (lv' := [(0, (false, x0)), (1, (false, x1)), (2, (false, x2)), (3, (false, x3)), (5, (true, x5)), (6, (true, x6))]) [0, 1, 2, 3, 4, 5] rfl ?_
    exact w_L_areFiles_226 F hno hnm k96 hk96 k110 hk110 x0 x1 x2 x3 x5 x6 M h
  · skip
    refine j_iload F 6 rfl dL_areFiles_163 ?_
    refine j_if_eq F 192 (by decide) dL_areFiles_165 h (fun h => ?_) (fun h => ?_)
    · skip
      refine j_aload_n F 0 rfl rfl dL_areFiles_192 ?_
      refine j_iconst F dL_areFiles_193 ?_
      refine j_iload F 5 rfl dL_areFiles_194 ?_
      refine j_iload F 4 rfl dL_areFiles_196 ?_
      refine j_iconst F dL_areFiles_198 ?_
      refine j_callX (d' := 9) (argl := [(false, x0), (true, 3), (true, x6), (true, x5), (true, 0)]) (rk9 := 1) (st := []) F hno M_L_asks q1512 q1511 ⟨by decide, by decide⟩ (Nat.le_of_ble_eq_true rfl) (by decide) dL_areFiles_199 rfl h (fun z hz => c_L_asks l F.ht G x0 3 x6 x5 0 M z hz) (fun v1 M2 h kl3 => ?_)
      refine j_st (st' := [(true, v1)]) rfl ?_
      refine j_sipush F (by decide) dL_areFiles_202 ?_
      refine j_icmp_ne F 226 (by decide) dL_areFiles_205 h (fun h => ?_) (fun h => ?_)
      · skip
        refine j_sub (lv' := [(0, (false, x0)), (1, (false, x1)), (2, (false, x2)), (3, (false, x3)), (5, (true, x5)), (6, (true, x6))]) [0, 1, 2, 3, 4, 5] rfl ?_
        exact w_L_areFiles_226 F hno hnm k96 hk96 k110 hk110 x0 x1 x2 x3 x5 x6 M2 h
      · skip
        refine j_aload_n F 0 rfl rfl dL_areFiles_208 ?_
        refine j_bipush F (by decide) dL_areFiles_209 ?_
        refine j_iload F 5 rfl dL_areFiles_211 ?_
        refine j_iload F 4 rfl dL_areFiles_213 ?_
        refine j_iconst F dL_areFiles_215 ?_
        refine j_callX (d' := 9) (argl := [(false, x0), (true, 9), (true, x6), (true, x5), (true, 0)]) (rk9 := 1) (st := []) F hno M_L_asks q1512 q1511 ⟨by decide, by decide⟩ (Nat.le_of_ble_eq_true rfl) (by decide) dL_areFiles_216 rfl h (fun z hz => c_L_asks l F.ht G x0 9 x6 x5 0 M2 z hz) (fun v4 M5 h kl6 => ?_)
        refine j_st (st' := [(true, v4)]) rfl ?_
        refine j_if_ne F 226 (by decide) dL_areFiles_219 h (fun h => ?_) (fun h => ?_)
        · skip
          refine j_sub (lv' := [(0, (false, x0)), (1, (false, x1)), (2, (false, x2)), (3, (false, x3)), (5, (true, x5)), (6, (true, x6))]) [0, 1, 2, 3, 4, 5] rfl ?_
          exact w_L_areFiles_226 F hno hnm k96 hk96 k110 hk110 x0 x1 x2 x3 x5 x6 M5 h
        · skip
          refine j_sub (lv' := [(0, (false, x0)), (1, (false, x1)), (2, (false, x2)), (3, (false, x3)), (5, (true, x5)), (6, (true, x6))]) [0, 1, 2, 3, 4, 5] rfl ?_
          exact w_L_areFiles_222 F hno hnm k96 hk96 k110 hk110 x0 x1 x2 x3 x5 x6 M5 h
    · skip
      refine j_aload_n F 0 rfl rfl dL_areFiles_168 ?_
      refine j_iload F 5 rfl dL_areFiles_169 ?_
      refine j_iload F 4 rfl dL_areFiles_171 ?_
      refine j_iload F 4 rfl dL_areFiles_173 ?_
      refine j_if_ne F 182 (by decide) dL_areFiles_175 h (fun h => ?_) (fun h => ?_)
      · skip
        refine j_aload_n F 2 rfl rfl dL_areFiles_182 ?_
        refine j_sub (lv' := [(0, (false, x0)), (1, (false, x1)), (2, (false, x2)), (3, (false, x3)), (5, (true, x5)), (6, (true, x6))]) [0, 1, 2, 3, 4, 5] rfl ?_
        exact w_L_areFiles_183 F hno hnm k96 hk96 k110 hk110 x0 x1 x2 x3 x5 x6 x0 x6 x5 x2 M h
      · skip
        refine j_aload_n F 1 rfl rfl dL_areFiles_178 ?_
        refine j_goto F 183 (by decide) dL_areFiles_179 ?_
        refine j_sub (lv' := [(0, (false, x0)), (1, (false, x1)), (2, (false, x2)), (3, (false, x3)), (5, (true, x5)), (6, (true, x6))]) [0, 1, 2, 3, 4, 5] rfl ?_
        exact w_L_areFiles_183 F hno hnm k96 hk96 k110 hk110 x0 x1 x2 x3 x5 x6 x0 x6 x5 x1 M h
set_option maxHeartbeats 4000000 in
set_option maxRecDepth 100000 in
theorem w_L_areFiles_137 {p : Program} {l : Launch} {e : Env} {R : Room} {s : State} {m : MethodId} {args : Array Value} {below : List Frame} {meth : Method} {c : Code} {G : Gt} {ρ0 : Int → Nat} {M0 : Mo} {res : RS} (F : Fx p l R s m args meth c cL_areFiles 8 RL G M0 11 (some FieldType.boolean)) (hno : ∀ x ∈ c.exceptionTable.toList, False) (hnm : meth.name = yL_areFiles.name) (k96 : Int → Int → Int → Int → Int → Int → Mo → Option RS) (hk96 : ∀ (x0 x1 x2 x3 x4 x5 : Int) (M : Mo), k96 x0 x1 x2 x3 x4 x5 M = some res → J p l e R s m args below meth c 8 G ρ0 M0 1 res M 96 [(0, (false, x0)), (1, (false, x1)), (2, (false, x2)), (3, (false, x3)), (4, (true, x4)), (5, (true, x5))] []) (k110 : Int → Int → Int → Int → Int → Int → Int → Mo → Option RS) (hk110 : ∀ (x0 x1 x2 x3 x4 x5 x6 : Int) (M : Mo), k110 x0 x1 x2 x3 x4 x5 x6 M = some res → J p l e R s m args below meth c 8 G ρ0 M0 1 res M 110 [(0, (false, x0)), (1, (false, x1)), (2, (false, x2)), (3, (false, x3)), (4, (true, x4)), (5, (true, x5)), (6, (true, x6))] []) (x0 x1 x2 x3 x5 x6 y0 : Int) (M : Mo) (h : L_areFiles_137 k96 k110 x0 x1 x2 x3 x5 x6 y0 M = some res) : J p l e R s m args below meth c 8 G ρ0 M0 1 res M 137 [(0, (false, x0)), (1, (false, x1)), (2, (false, x2)), (3, (false, x3)), (5, (true, x5)), (6, (true, x6))] [(true, y0)] := by
  unfold L_areFiles_137 at h
  refine j_istore F (lv' := [(7, (true, y0)), (0, (false, x0)), (1, (false, x1)), (2, (false, x2)), (3, (false, x3)), (5, (true, x5)), (6, (true, x6))]) (by decide) rfl dL_areFiles_137 ?_
  refine j_aload_n F 1 rfl rfl dL_areFiles_139 ?_
  refine j_iload F 6 rfl dL_areFiles_140 ?_
  refine j_iload F 5 rfl dL_areFiles_142 ?_
  obtain ⟨g4, h⟩ := gua h
  refine j_callV (d' := 8) (argl := [(true, x6), (true, x5)]) (rk9 := 1) (st := []) F hno M_X11_version q1527 q1528 q1526 ⟨by decide, by decide⟩ (Nat.le_of_ble_eq_true rfl) (by decide) (ci := 12) rfl (by decide) g4 dL_areFiles_144 rfl h (fun z hz => c_X11_version l F.ht G x0 x6 x5 M z hz) (fun v1 M2 h kl3 => ?_)
  refine j_st (st' := [(true, v1)]) rfl ?_
  refine j_iload F 0 rfl dL_areFiles_147 ?_
  refine j_if_eq F 159 (by decide) dL_areFiles_149 h (fun h => ?_) (fun h => ?_)
  · skip
    refine j_iconst F dL_areFiles_159 ?_
    refine j_sub (lv' := [(0, (false, x0)), (1, (false, x1)), (2, (false, x2)), (3, (false, x3)), (5, (true, x5)), (6, (true, x6)), (7, (true, y0))]) [1, 2, 3, 4, 5, 6, 0] rfl ?_
    exact w_L_areFiles_160 F hno hnm k96 hk96 k110 hk110 x0 x1 x2 x3 x5 x6 y0 v1 (-1) M2 h
  · skip
    refine j_aload_n F 4 rfl rfl dL_areFiles_152 ?_
    refine j_iload F 5 rfl dL_areFiles_153 ?_
    obtain ⟨g5, h⟩ := gua h
    obtain ⟨g6, h⟩ := gua h
    refine j_iaload F g5 g6 dL_areFiles_155 ?_
    refine j_goto F 160 (by decide) dL_areFiles_156 ?_
    refine j_sub (lv' := [(0, (false, x0)), (1, (false, x1)), (2, (false, x2)), (3, (false, x3)), (5, (true, x5)), (6, (true, x6)), (7, (true, y0))]) [1, 2, 3, 4, 5, 6, 0] rfl ?_
    exact w_L_areFiles_160 F hno hnm k96 hk96 k110 hk110 x0 x1 x2 x3 x5 x6 y0 v1 (el M2 0 x3 (wr x5)) M2 h
set_option maxHeartbeats 4000000 in
set_option maxRecDepth 100000 in
theorem w_L_areFiles_276 {p : Program} {l : Launch} {e : Env} {R : Room} {s : State} {m : MethodId} {args : Array Value} {below : List Frame} {meth : Method} {c : Code} {G : Gt} {ρ0 : Int → Nat} {M0 : Mo} {res : RS} (F : Fx p l R s m args meth c cL_areFiles 8 RL G M0 11 (some FieldType.boolean)) (hno : ∀ x ∈ c.exceptionTable.toList, False) (hnm : meth.name = yL_areFiles.name) (k96 : Int → Int → Int → Int → Int → Int → Mo → Option RS) (hk96 : ∀ (x0 x1 x2 x3 x4 x5 : Int) (M : Mo), k96 x0 x1 x2 x3 x4 x5 M = some res → J p l e R s m args below meth c 8 G ρ0 M0 1 res M 96 [(0, (false, x0)), (1, (false, x1)), (2, (false, x2)), (3, (false, x3)), (4, (true, x4)), (5, (true, x5))] []) (x0 x1 x2 x3 x5 y0 : Int) (M : Mo) (h : L_areFiles_276 k96 x0 x1 x2 x3 x5 y0 M = some res) : J p l e R s m args below meth c 8 G ρ0 M0 1 res M 276 [(0, (false, x0)), (1, (false, x1)), (2, (false, x2)), (3, (false, x3)), (5, (true, x5))] [(true, y0)] := by
  unfold L_areFiles_276 at h
  refine j_istore F (lv' := [(4, (true, y0)), (0, (false, x0)), (1, (false, x1)), (2, (false, x2)), (3, (false, x3)), (5, (true, x5))]) (by decide) rfl dL_areFiles_276 ?_
  refine j_iinc F 5 (lv' := [(5, (true, (x5 + 1))), (4, (true, y0)), (0, (false, x0)), (1, (false, x1)), (2, (false, x2)), (3, (false, x3))]) rfl (by decide) rfl dL_areFiles_278 ?_
  refine j_goto F 96 (by decide) dL_areFiles_281 ?_
  refine j_sub (lv' := [(0, (false, x0)), (1, (false, x1)), (2, (false, x2)), (3, (false, x3)), (4, (true, y0)), (5, (true, (x5 + 1)))]) [2, 3, 4, 5, 1, 0] rfl ?_
  exact hk96 x0 x1 x2 x3 y0 (x5 + 1) M h
set_option maxHeartbeats 4000000 in
set_option maxRecDepth 100000 in
theorem w_L_areFiles_275 {p : Program} {l : Launch} {e : Env} {R : Room} {s : State} {m : MethodId} {args : Array Value} {below : List Frame} {meth : Method} {c : Code} {G : Gt} {ρ0 : Int → Nat} {M0 : Mo} {res : RS} (F : Fx p l R s m args meth c cL_areFiles 8 RL G M0 11 (some FieldType.boolean)) (hno : ∀ x ∈ c.exceptionTable.toList, False) (hnm : meth.name = yL_areFiles.name) (k96 : Int → Int → Int → Int → Int → Int → Mo → Option RS) (hk96 : ∀ (x0 x1 x2 x3 x4 x5 : Int) (M : Mo), k96 x0 x1 x2 x3 x4 x5 M = some res → J p l e R s m args below meth c 8 G ρ0 M0 1 res M 96 [(0, (false, x0)), (1, (false, x1)), (2, (false, x2)), (3, (false, x3)), (4, (true, x4)), (5, (true, x5))] []) (x0 x1 x2 x3 x5 : Int) (M : Mo) (h : L_areFiles_275 k96 x0 x1 x2 x3 x5 M = some res) : J p l e R s m args below meth c 8 G ρ0 M0 1 res M 275 [(0, (false, x0)), (1, (false, x1)), (2, (false, x2)), (3, (false, x3)), (5, (true, x5))] [] := by
  unfold L_areFiles_275 at h
  refine j_iconst F dL_areFiles_275 ?_
  refine j_sub (lv' := [(0, (false, x0)), (1, (false, x1)), (2, (false, x2)), (3, (false, x3)), (5, (true, x5))]) [0, 1, 2, 3, 4] rfl ?_
  exact w_L_areFiles_276 F hno hnm k96 hk96 x0 x1 x2 x3 x5 0 M h
set_option maxHeartbeats 4000000 in
set_option maxRecDepth 100000 in
theorem w_L_areFiles_235 {p : Program} {l : Launch} {e : Env} {R : Room} {s : State} {m : MethodId} {args : Array Value} {below : List Frame} {meth : Method} {c : Code} {G : Gt} {ρ0 : Int → Nat} {M0 : Mo} {res : RS} (F : Fx p l R s m args meth c cL_areFiles 8 RL G M0 11 (some FieldType.boolean)) (hno : ∀ x ∈ c.exceptionTable.toList, False) (hnm : meth.name = yL_areFiles.name) (k96 : Int → Int → Int → Int → Int → Int → Mo → Option RS) (hk96 : ∀ (x0 x1 x2 x3 x4 x5 : Int) (M : Mo), k96 x0 x1 x2 x3 x4 x5 M = some res → J p l e R s m args below meth c 8 G ρ0 M0 1 res M 96 [(0, (false, x0)), (1, (false, x1)), (2, (false, x2)), (3, (false, x3)), (4, (true, x4)), (5, (true, x5))] []) (x0 x1 x2 x3 x4 x5 : Int) (M : Mo) (h : L_areFiles_235 k96 x0 x1 x2 x3 x4 x5 M = some res) : J p l e R s m args below meth c 8 G ρ0 M0 1 res M 235 [(0, (false, x0)), (1, (false, x1)), (2, (false, x2)), (3, (false, x3)), (4, (true, x4)), (5, (true, x5))] [] := by
  unfold L_areFiles_235 at h
  refine j_iload F 4 rfl dL_areFiles_235 ?_
  refine j_if_eq F 275 (by decide) dL_areFiles_237 h (fun h => ?_) (fun h => ?_)
  · skip
    refine j_sub (lv' := [(0, (false, x0)), (1, (false, x1)), (2, (false, x2)), (3, (false, x3)), (5, (true, x5))]) [0, 1, 2, 3, 5] rfl ?_
    exact w_L_areFiles_275 F hno hnm k96 hk96 x0 x1 x2 x3 x5 M h
  · skip
    refine j_aload_n F 0 rfl rfl dL_areFiles_240 ?_
    refine j_iload F 5 rfl dL_areFiles_241 ?_
    obtain ⟨g4, h⟩ := gua h
    refine j_callV (d' := 7) (argl := [(true, x5)]) (rk9 := 1) (st := []) F hno M_X11_agree q1592 q1593 q1591 ⟨by decide, by decide⟩ (Nat.le_of_ble_eq_true rfl) (by decide) (ci := 12) rfl (by decide) g4 dL_areFiles_243 rfl h (fun z hz => c_X11_agree l F.ht G x0 x5 M z hz) (fun v1 M2 h kl3 => ?_)
    refine j_st (st' := [(true, v1)]) rfl ?_
    refine j_if_eq F 275 (by decide) dL_areFiles_246 h (fun h => ?_) (fun h => ?_)
    · skip
      refine j_sub (lv' := [(0, (false, x0)), (1, (false, x1)), (2, (false, x2)), (3, (false, x3)), (5, (true, x5))]) [0, 1, 2, 3, 5] rfl ?_
      exact w_L_areFiles_275 F hno hnm k96 hk96 x0 x1 x2 x3 x5 M2 h
    · skip
      refine j_aload_n F 0 rfl rfl dL_areFiles_249 ?_
      refine j_bipush F (by decide) dL_areFiles_250 ?_
      refine j_iconst F dL_areFiles_252 ?_
      refine j_iload F 5 rfl dL_areFiles_253 ?_
      refine j_aload_n F 0 rfl rfl dL_areFiles_255 ?_
      refine j_iconst F dL_areFiles_256 ?_
      refine j_iload F 5 rfl dL_areFiles_257 ?_
      refine j_callV (d' := 7) (argl := [(true, 0), (true, x5)]) (rk9 := 1) (st := [(true, x5), (true, 0), (true, 10), (false, x0)]) F hno M_X11_faults q1579 q1580 q1578 ⟨by decide, by decide⟩ (Nat.le_of_ble_eq_true rfl) (by decide) (ci := 12) rfl (by decide) (kl3.is g4) dL_areFiles_259 rfl h (fun z hz => c_X11_faults l F.ht G x0 0 x5 M2 z hz) (fun v5 M6 h kl7 => ?_)
      refine j_st (st' := [(true, v5), (true, x5), (true, 0), (true, 10), (false, x0)]) rfl ?_
      refine j_callX (d' := 9) (argl := [(false, x0), (true, 10), (true, 0), (true, x5), (true, v5)]) (rk9 := 1) (st := []) F hno M_L_asks q1512 q1511 ⟨by decide, by decide⟩ (Nat.le_of_ble_eq_true rfl) (by decide) dL_areFiles_262 rfl h (fun z hz => c_L_asks l F.ht G x0 10 0 x5 v5 M6 z hz) (fun v8 M9 h kl10 => ?_)
      refine j_st (st' := [(true, v8)]) rfl ?_
      refine j_sipush F (by decide) dL_areFiles_265 ?_
      refine j_icmp_ne F 275 (by decide) dL_areFiles_268 h (fun h => ?_) (fun h => ?_)
      · skip
        refine j_sub (lv' := [(0, (false, x0)), (1, (false, x1)), (2, (false, x2)), (3, (false, x3)), (5, (true, x5))]) [0, 1, 2, 3, 5] rfl ?_
        exact w_L_areFiles_275 F hno hnm k96 hk96 x0 x1 x2 x3 x5 M9 h
      · skip
        refine j_iconst F dL_areFiles_271 ?_
        refine j_goto F 276 (by decide) dL_areFiles_272 ?_
        refine j_sub (lv' := [(0, (false, x0)), (1, (false, x1)), (2, (false, x2)), (3, (false, x3)), (5, (true, x5))]) [0, 1, 2, 3, 5] rfl ?_
        exact w_L_areFiles_276 F hno hnm k96 hk96 x0 x1 x2 x3 x5 1 M9 h
set_option maxHeartbeats 4000000 in
set_option maxRecDepth 100000 in
theorem w_L_areFiles_110 {p : Program} {l : Launch} {e : Env} {R : Room} {s : State} {m : MethodId} {args : Array Value} {below : List Frame} {meth : Method} {c : Code} {G : Gt} {ρ0 : Int → Nat} {M0 : Mo} {res : RS} (F : Fx p l R s m args meth c cL_areFiles 8 RL G M0 11 (some FieldType.boolean)) (hno : ∀ x ∈ c.exceptionTable.toList, False) (hnm : meth.name = yL_areFiles.name) (k96 : Int → Int → Int → Int → Int → Int → Mo → Option RS) (hk96 : ∀ (x0 x1 x2 x3 x4 x5 : Int) (M : Mo), k96 x0 x1 x2 x3 x4 x5 M = some res → J p l e R s m args below meth c 8 G ρ0 M0 1 res M 96 [(0, (false, x0)), (1, (false, x1)), (2, (false, x2)), (3, (false, x3)), (4, (true, x4)), (5, (true, x5))] []) (n : Nat) : ∀ (x0 x1 x2 x3 x4 x5 x6 : Int) (M : Mo), L_areFiles_110 k96 n x0 x1 x2 x3 x4 x5 x6 M = some res → J p l e R s m args below meth c 8 G ρ0 M0 1 res M 110 [(0, (false, x0)), (1, (false, x1)), (2, (false, x2)), (3, (false, x3)), (4, (true, x4)), (5, (true, x5)), (6, (true, x6))] [] := by
  induction n with
  | zero => intro x0 x1 x2 x3 x4 x5 x6 M h; cases h
  | succ n ih =>
    intro x0 x1 x2 x3 x4 x5 x6 M h
    rw [L_areFiles_110] at h
    refine j_iload F 6 rfl dL_areFiles_110 ?_
    refine j_iconst F dL_areFiles_112 ?_
    refine j_icmp_ge F 235 (by decide) dL_areFiles_113 h (fun h => ?_) (fun h => ?_)
    · skip
      refine j_sub (lv' := [(0, (false, x0)), (1, (false, x1)), (2, (false, x2)), (3, (false, x3)), (4, (true, x4)), (5, (true, x5))]) [0, 1, 2, 3, 4, 5] rfl ?_
      exact w_L_areFiles_235 F hno hnm k96 hk96 x0 x1 x2 x3 x4 x5 M h
    · skip
      refine j_iload F 4 rfl dL_areFiles_116 ?_
      refine j_if_eq F 235 (by decide) dL_areFiles_118 h (fun h => ?_) (fun h => ?_)
      · skip
        refine j_sub (lv' := [(0, (false, x0)), (1, (false, x1)), (2, (false, x2)), (3, (false, x3)), (4, (true, x4)), (5, (true, x5))]) [0, 1, 2, 3, 4, 5] rfl ?_
        exact w_L_areFiles_235 F hno hnm k96 hk96 x0 x1 x2 x3 x4 x5 M h
      · skip
        refine j_aload_n F 3 rfl rfl dL_areFiles_121 ?_
        refine j_iconst F dL_areFiles_122 ?_
        refine j_iload F 5 rfl dL_areFiles_123 ?_
        refine j_iadd F dL_areFiles_125 ?_
        obtain ⟨g1, h⟩ := gua h
        obtain ⟨g2, h⟩ := gua h
        refine j_iaload F g1 g2 dL_areFiles_126 ?_
        refine j_iload F 6 rfl dL_areFiles_127 ?_
        refine j_icmp_ne F 136 (by decide) dL_areFiles_129 h (fun h => ?_) (fun h => ?_)
        · skip
          refine j_iconst F dL_areFiles_136 ?_
          refine j_sub (lv' := [(0, (false, x0)), (1, (false, x1)), (2, (false, x2)), (3, (false, x3)), (5, (true, x5)), (6, (true, x6))]) [0, 1, 2, 3, 5, 6] rfl ?_
          exact w_L_areFiles_137 F hno hnm k96 hk96 (L_areFiles_110 k96 n) ih x0 x1 x2 x3 x5 x6 0 M h
        · skip
          refine j_iconst F dL_areFiles_132 ?_
          refine j_goto F 137 (by decide) dL_areFiles_133 ?_
          refine j_sub (lv' := [(0, (false, x0)), (1, (false, x1)), (2, (false, x2)), (3, (false, x3)), (5, (true, x5)), (6, (true, x6))]) [0, 1, 2, 3, 5, 6] rfl ?_
          exact w_L_areFiles_137 F hno hnm k96 hk96 (L_areFiles_110 k96 n) ih x0 x1 x2 x3 x5 x6 1 M h
set_option maxHeartbeats 4000000 in
set_option maxRecDepth 100000 in
theorem w_L_areFiles_284 {p : Program} {l : Launch} {e : Env} {R : Room} {s : State} {m : MethodId} {args : Array Value} {below : List Frame} {meth : Method} {c : Code} {G : Gt} {ρ0 : Int → Nat} {M0 : Mo} {res : RS} (F : Fx p l R s m args meth c cL_areFiles 8 RL G M0 11 (some FieldType.boolean)) (hno : ∀ x ∈ c.exceptionTable.toList, False) (hnm : meth.name = yL_areFiles.name) (x0 x3 x4 : Int) (M : Mo) (h : L_areFiles_284 x0 x3 x4 M = some res) : J p l e R s m args below meth c 8 G ρ0 M0 1 res M 284 [(0, (false, x0)), (3, (false, x3)), (4, (true, x4))] [] := by
  unfold L_areFiles_284 at h
  refine j_iload F 2 rfl dL_areFiles_284 ?_
  refine j_if_eq F 340 (by decide) dL_areFiles_286 h (fun h => ?_) (fun h => ?_)
  · skip
    refine j_iconst F dL_areFiles_340 ?_
    exact j_zret F (by decide) h dL_areFiles_341
  · skip
    refine j_aload_n F 0 rfl rfl dL_areFiles_289 ?_
    refine j_iconst F dL_areFiles_290 ?_
    refine j_iconst F dL_areFiles_291 ?_
    refine j_aload_n F 1 rfl rfl dL_areFiles_292 ?_
    refine j_iconst F dL_areFiles_293 ?_
    obtain ⟨g1, h⟩ := gua h
    obtain ⟨g2, h⟩ := gua h
    refine j_iaload F g1 g2 dL_areFiles_294 ?_
    refine j_iconst F dL_areFiles_295 ?_
    refine j_callX (d' := 9) (argl := [(false, x0), (true, 4), (true, 0), (true, (el M 0 x3 (wr 4))), (true, 0)]) (rk9 := 1) (st := []) F hno M_L_asks q1512 q1511 ⟨by decide, by decide⟩ (Nat.le_of_ble_eq_true rfl) (by decide) dL_areFiles_296 rfl h (fun z hz => c_L_asks l F.ht G x0 4 0 (el M 0 x3 (wr 4)) 0 M z hz) (fun v3 M4 h kl5 => ?_)
    refine j_st (st' := [(true, v3)]) rfl ?_
    refine j_sipush F (by decide) dL_areFiles_299 ?_
    refine j_icmp_ne F 340 (by decide) dL_areFiles_302 h (fun h => ?_) (fun h => ?_)
    · skip
      refine j_iconst F dL_areFiles_340 ?_
      exact j_zret F (by decide) h dL_areFiles_341
    · skip
      refine j_aload_n F 0 rfl rfl dL_areFiles_305 ?_
      refine j_iconst F dL_areFiles_306 ?_
      refine j_iconst F dL_areFiles_307 ?_
      refine j_aload_n F 1 rfl rfl dL_areFiles_308 ?_
      refine j_iconst F dL_areFiles_309 ?_
      obtain ⟨g6, h⟩ := gua h
      refine j_iaload F (kl5.is g1) g6 dL_areFiles_310 ?_
      refine j_iconst F dL_areFiles_311 ?_
      refine j_callX (d' := 9) (argl := [(false, x0), (true, 4), (true, 1), (true, (el M4 0 x3 (wr 5))), (true, 0)]) (rk9 := 1) (st := []) F hno M_L_asks q1512 q1511 ⟨by decide, by decide⟩ (Nat.le_of_ble_eq_true rfl) (by decide) dL_areFiles_312 rfl h (fun z hz => c_L_asks l F.ht G x0 4 1 (el M4 0 x3 (wr 5)) 0 M4 z hz) (fun v7 M8 h kl9 => ?_)
      refine j_st (st' := [(true, v7)]) rfl ?_
      refine j_sipush F (by decide) dL_areFiles_315 ?_
      refine j_icmp_ne F 340 (by decide) dL_areFiles_318 h (fun h => ?_) (fun h => ?_)
      · skip
        refine j_iconst F dL_areFiles_340 ?_
        exact j_zret F (by decide) h dL_areFiles_341
      · skip
        refine j_aload_n F 0 rfl rfl dL_areFiles_321 ?_
        refine j_bipush F (by decide) dL_areFiles_322 ?_
        refine j_iconst F dL_areFiles_324 ?_
        refine j_iconst F dL_areFiles_325 ?_
        refine j_iconst F dL_areFiles_326 ?_
        refine j_callX (d' := 9) (argl := [(false, x0), (true, 8), (true, 0), (true, 0), (true, 3)]) (rk9 := 1) (st := []) F hno M_L_asks q1512 q1511 ⟨by decide, by decide⟩ (Nat.le_of_ble_eq_true rfl) (by decide) dL_areFiles_327 rfl h (fun z hz => c_L_asks l F.ht G x0 8 0 0 3 M8 z hz) (fun v10 M11 h kl12 => ?_)
        refine j_st (st' := [(true, v10)]) rfl ?_
        refine j_sipush F (by decide) dL_areFiles_330 ?_
        refine j_icmp_ne F 340 (by decide) dL_areFiles_333 h (fun h => ?_) (fun h => ?_)
        · skip
          refine j_iconst F dL_areFiles_340 ?_
          exact j_zret F (by decide) h dL_areFiles_341
        · skip
          refine j_iconst F dL_areFiles_336 ?_
          refine j_goto F 341 (by decide) dL_areFiles_337 ?_
          exact j_zret F (by decide) h dL_areFiles_341
set_option maxHeartbeats 4000000 in
set_option maxRecDepth 100000 in
theorem w_L_areFiles_96 {p : Program} {l : Launch} {e : Env} {R : Room} {s : State} {m : MethodId} {args : Array Value} {below : List Frame} {meth : Method} {c : Code} {G : Gt} {ρ0 : Int → Nat} {M0 : Mo} {res : RS} (F : Fx p l R s m args meth c cL_areFiles 8 RL G M0 11 (some FieldType.boolean)) (hno : ∀ x ∈ c.exceptionTable.toList, False) (hnm : meth.name = yL_areFiles.name) (n : Nat) : ∀ (x0 x1 x2 x3 x4 x5 : Int) (M : Mo), L_areFiles_96 n x0 x1 x2 x3 x4 x5 M = some res → J p l e R s m args below meth c 8 G ρ0 M0 1 res M 96 [(0, (false, x0)), (1, (false, x1)), (2, (false, x2)), (3, (false, x3)), (4, (true, x4)), (5, (true, x5))] [] := by
  induction n with
  | zero => intro x0 x1 x2 x3 x4 x5 M h; cases h
  | succ n ih =>
    intro x0 x1 x2 x3 x4 x5 M h
    rw [L_areFiles_96] at h
    refine j_iload F 5 rfl dL_areFiles_96 ?_
    refine j_iconst F dL_areFiles_98 ?_
    refine j_icmp_ge F 284 (by decide) dL_areFiles_99 h (fun h => ?_) (fun h => ?_)
    · skip
      refine j_sub (lv' := [(0, (false, x0)), (3, (false, x3)), (4, (true, x4))]) [0, 3, 4] rfl ?_
      exact w_L_areFiles_284 F hno hnm x0 x3 x4 M h
    · skip
      refine j_iload F 4 rfl dL_areFiles_102 ?_
      refine j_if_eq F 284 (by decide) dL_areFiles_104 h (fun h => ?_) (fun h => ?_)
      · skip
        refine j_sub (lv' := [(0, (false, x0)), (3, (false, x3)), (4, (true, x4))]) [0, 3, 4] rfl ?_
        exact w_L_areFiles_284 F hno hnm x0 x3 x4 M h
      · skip
        refine j_iconst F dL_areFiles_107 ?_
        refine j_istore F (lv' := [(6, (true, 0)), (0, (false, x0)), (1, (false, x1)), (2, (false, x2)), (3, (false, x3)), (4, (true, x4)), (5, (true, x5))]) (by decide) rfl dL_areFiles_108 ?_
        refine j_sub (lv' := [(0, (false, x0)), (1, (false, x1)), (2, (false, x2)), (3, (false, x3)), (4, (true, x4)), (5, (true, x5)), (6, (true, 0))]) [1, 2, 3, 4, 5, 6, 0] rfl ?_
        exact w_L_areFiles_110 F hno hnm (L_areFiles_96 n) ih FU x0 x1 x2 x3 x4 x5 0 M h
set_option maxHeartbeats 4000000 in
set_option maxRecDepth 100000 in
theorem w_L_areFiles_91 {p : Program} {l : Launch} {e : Env} {R : Room} {s : State} {m : MethodId} {args : Array Value} {below : List Frame} {meth : Method} {c : Code} {G : Gt} {ρ0 : Int → Nat} {M0 : Mo} {res : RS} (F : Fx p l R s m args meth c cL_areFiles 8 RL G M0 11 (some FieldType.boolean)) (hno : ∀ x ∈ c.exceptionTable.toList, False) (hnm : meth.name = yL_areFiles.name) (x0 x1 x2 x3 y0 : Int) (M : Mo) (h : L_areFiles_91 x0 x1 x2 x3 y0 M = some res) : J p l e R s m args below meth c 8 G ρ0 M0 1 res M 91 [(0, (false, x0)), (1, (false, x1)), (2, (false, x2)), (3, (false, x3))] [(true, y0)] := by
  unfold L_areFiles_91 at h
  refine j_istore F (lv' := [(4, (true, y0)), (0, (false, x0)), (1, (false, x1)), (2, (false, x2)), (3, (false, x3))]) (by decide) rfl dL_areFiles_91 ?_
  refine j_iconst F dL_areFiles_93 ?_
  refine j_istore F (lv' := [(5, (true, 0)), (4, (true, y0)), (0, (false, x0)), (1, (false, x1)), (2, (false, x2)), (3, (false, x3))]) (by decide) rfl dL_areFiles_94 ?_
  refine j_sub (lv' := [(0, (false, x0)), (1, (false, x1)), (2, (false, x2)), (3, (false, x3)), (4, (true, y0)), (5, (true, 0))]) [2, 3, 4, 5, 1, 0] rfl ?_
  exact w_L_areFiles_96 F hno hnm FU x0 x1 x2 x3 y0 0 M h
set_option maxHeartbeats 4000000 in
set_option maxRecDepth 100000 in
theorem w_L_areFiles_90 {p : Program} {l : Launch} {e : Env} {R : Room} {s : State} {m : MethodId} {args : Array Value} {below : List Frame} {meth : Method} {c : Code} {G : Gt} {ρ0 : Int → Nat} {M0 : Mo} {res : RS} (F : Fx p l R s m args meth c cL_areFiles 8 RL G M0 11 (some FieldType.boolean)) (hno : ∀ x ∈ c.exceptionTable.toList, False) (hnm : meth.name = yL_areFiles.name) (x0 x1 x2 x3 : Int) (M : Mo) (h : L_areFiles_90 x0 x1 x2 x3 M = some res) : J p l e R s m args below meth c 8 G ρ0 M0 1 res M 90 [(0, (false, x0)), (1, (false, x1)), (2, (false, x2)), (3, (false, x3))] [] := by
  unfold L_areFiles_90 at h
  refine j_iconst F dL_areFiles_90 ?_
  refine j_sub (lv' := [(0, (false, x0)), (1, (false, x1)), (2, (false, x2)), (3, (false, x3))]) [0, 1, 2, 3] rfl ?_
  exact w_L_areFiles_91 F hno hnm x0 x1 x2 x3 0 M h
set_option maxHeartbeats 4000000 in
set_option maxRecDepth 100000 in
theorem w_L_areFiles_0 {p : Program} {l : Launch} {e : Env} {R : Room} {s : State} {m : MethodId} {args : Array Value} {below : List Frame} {meth : Method} {c : Code} {G : Gt} {ρ0 : Int → Nat} {M0 : Mo} {res : RS} (F : Fx p l R s m args meth c cL_areFiles 8 RL G M0 11 (some FieldType.boolean)) (hno : ∀ x ∈ c.exceptionTable.toList, False) (hnm : meth.name = yL_areFiles.name) (x0 x1 x2 x3 : Int) (M : Mo) (h : L_areFiles x0 x1 x2 x3 M = some res) : J p l e R s m args below meth c 8 G ρ0 M0 1 res M 0 [(0, (false, x0)), (1, (false, x1)), (2, (false, x2)), (3, (false, x3))] [] := by
  unfold L_areFiles at h
  refine j_aload_n F 0 rfl rfl dL_areFiles_0 ?_
  refine j_iconst F dL_areFiles_1 ?_
  refine j_iconst F dL_areFiles_2 ?_
  refine j_iconst F dL_areFiles_3 ?_
  refine j_iconst F dL_areFiles_4 ?_
  refine j_callX (d' := 9) (argl := [(false, x0), (true, 0), (true, 2), (true, 0), (true, 0)]) (rk9 := 1) (st := []) F hno M_L_asks q1512 q1511 ⟨by decide, by decide⟩ (Nat.le_of_ble_eq_true rfl) (by decide) dL_areFiles_5 rfl h (fun z hz => c_L_asks l F.ht G x0 0 2 0 0 M z hz) (fun v1 M2 h kl3 => ?_)
  refine j_st (st' := [(true, v1)]) rfl ?_
  refine j_sipush F (by decide) dL_areFiles_8 ?_
  refine j_icmp_ne F 90 (by decide) dL_areFiles_11 h (fun h => ?_) (fun h => ?_)
  · skip
    refine j_sub (lv' := [(0, (false, x0)), (1, (false, x1)), (2, (false, x2)), (3, (false, x3))]) [0, 1, 2, 3] rfl ?_
    exact w_L_areFiles_90 F hno hnm x0 x1 x2 x3 M2 h
  · skip
    refine j_aload_n F 0 rfl rfl dL_areFiles_14 ?_
    refine j_iconst F dL_areFiles_15 ?_
    refine j_bipush F (by decide) dL_areFiles_16 ?_
    refine j_iconst F dL_areFiles_18 ?_
    refine j_iconst F dL_areFiles_19 ?_
    refine j_callX (d' := 9) (argl := [(false, x0), (true, 1), (true, 10), (true, 0), (true, 0)]) (rk9 := 1) (st := []) F hno M_L_asks q1512 q1511 ⟨by decide, by decide⟩ (Nat.le_of_ble_eq_true rfl) (by decide) dL_areFiles_20 rfl h (fun z hz => c_L_asks l F.ht G x0 1 10 0 0 M2 z hz) (fun v4 M5 h kl6 => ?_)
    refine j_st (st' := [(true, v4)]) rfl ?_
    refine j_sipush F (by decide) dL_areFiles_23 ?_
    refine j_icmp_ne F 90 (by decide) dL_areFiles_26 h (fun h => ?_) (fun h => ?_)
    · skip
      refine j_sub (lv' := [(0, (false, x0)), (1, (false, x1)), (2, (false, x2)), (3, (false, x3))]) [0, 1, 2, 3] rfl ?_
      exact w_L_areFiles_90 F hno hnm x0 x1 x2 x3 M5 h
    · skip
      refine j_aload_n F 0 rfl rfl dL_areFiles_29 ?_
      refine j_iconst F dL_areFiles_30 ?_
      refine j_iconst F dL_areFiles_31 ?_
      refine j_aload_n F 3 rfl rfl dL_areFiles_32 ?_
      refine j_bipush F (by decide) dL_areFiles_33 ?_
      obtain ⟨g7, h⟩ := gua h
      obtain ⟨g8, h⟩ := gua h
      refine j_iaload F g7 g8 dL_areFiles_35 ?_
      refine j_iadd F dL_areFiles_36 ?_
      refine j_iconst F dL_areFiles_37 ?_
      refine j_iconst F dL_areFiles_38 ?_
      refine j_callX (d' := 9) (argl := [(false, x0), (true, 2), (true, (3 + (el M5 0 x3 (wr 8)))), (true, 0), (true, 0)]) (rk9 := 1) (st := []) F hno M_L_asks q1512 q1511 ⟨by decide, by decide⟩ (Nat.le_of_ble_eq_true rfl) (by decide) dL_areFiles_39 rfl h (fun z hz => c_L_asks l F.ht G x0 2 (3 + (el M5 0 x3 (wr 8))) 0 0 M5 z hz) (fun v9 M10 h kl11 => ?_)
      refine j_st (st' := [(true, v9)]) rfl ?_
      refine j_sipush F (by decide) dL_areFiles_42 ?_
      refine j_icmp_ne F 90 (by decide) dL_areFiles_45 h (fun h => ?_) (fun h => ?_)
      · skip
        refine j_sub (lv' := [(0, (false, x0)), (1, (false, x1)), (2, (false, x2)), (3, (false, x3))]) [0, 1, 2, 3] rfl ?_
        exact w_L_areFiles_90 F hno hnm x0 x1 x2 x3 M10 h
      · skip
        refine j_aload_n F 0 rfl rfl dL_areFiles_48 ?_
        refine j_iconst F dL_areFiles_49 ?_
        refine j_iconst F dL_areFiles_50 ?_
        refine j_iconst F dL_areFiles_51 ?_
        refine j_iconst F dL_areFiles_52 ?_
        refine j_callX (d' := 9) (argl := [(false, x0), (true, 2), (true, 0), (true, 2), (true, 0)]) (rk9 := 1) (st := []) F hno M_L_asks q1512 q1511 ⟨by decide, by decide⟩ (Nat.le_of_ble_eq_true rfl) (by decide) dL_areFiles_53 rfl h (fun z hz => c_L_asks l F.ht G x0 2 0 2 0 M10 z hz) (fun v12 M13 h kl14 => ?_)
        refine j_st (st' := [(true, v12)]) rfl ?_
        refine j_sipush F (by decide) dL_areFiles_56 ?_
        refine j_icmp_ne F 90 (by decide) dL_areFiles_59 h (fun h => ?_) (fun h => ?_)
        · skip
          refine j_sub (lv' := [(0, (false, x0)), (1, (false, x1)), (2, (false, x2)), (3, (false, x3))]) [0, 1, 2, 3] rfl ?_
          exact w_L_areFiles_90 F hno hnm x0 x1 x2 x3 M13 h
        · skip
          refine j_aload_n F 0 rfl rfl dL_areFiles_62 ?_
          refine j_iconst F dL_areFiles_63 ?_
          obtain ⟨g18, h⟩ := gua h
          refine j_callV (d' := 7) (argl := [(true, 0)]) (rk9 := 1) (st := []) F hno M_X11_waiting q1515 q1516 q1514 ⟨by decide, by decide⟩ (Nat.le_of_ble_eq_true rfl) (by decide) (ci := 12) rfl (by decide) g18 dL_areFiles_64 rfl h (fun z hz => c_X11_waiting l F.ht G x0 0 M13 z hz) (fun v15 M16 h kl17 => ?_)
          refine j_st (st' := [(true, v15)]) rfl ?_
          refine j_aload_n F 3 rfl rfl dL_areFiles_67 ?_
          refine j_bipush F (by decide) dL_areFiles_68 ?_
          obtain ⟨g19, h⟩ := gua h
          refine j_iaload F (kl17.is (kl14.is (kl11.is g7))) g19 dL_areFiles_70 ?_
          refine j_icmp_ne F 90 (by decide) dL_areFiles_71 h (fun h => ?_) (fun h => ?_)
          · skip
            refine j_sub (lv' := [(0, (false, x0)), (1, (false, x1)), (2, (false, x2)), (3, (false, x3))]) [0, 1, 2, 3] rfl ?_
            exact w_L_areFiles_90 F hno hnm x0 x1 x2 x3 M16 h
          · skip
            refine j_aload_n F 0 rfl rfl dL_areFiles_74 ?_
            refine j_iconst F dL_areFiles_75 ?_
            refine j_callV (d' := 7) (argl := [(true, 1)]) (rk9 := 1) (st := []) F hno M_X11_waiting q1515 q1516 q1514 ⟨by decide, by decide⟩ (Nat.le_of_ble_eq_true rfl) (by decide) (ci := 12) rfl (by decide) (kl17.is g18) dL_areFiles_76 rfl h (fun z hz => c_X11_waiting l F.ht G x0 1 M16 z hz) (fun v20 M21 h kl22 => ?_)
            refine j_st (st' := [(true, v20)]) rfl ?_
            refine j_aload_n F 3 rfl rfl dL_areFiles_79 ?_
            refine j_bipush F (by decide) dL_areFiles_80 ?_
            obtain ⟨g23, h⟩ := gua h
            refine j_iaload F (kl22.is (kl17.is (kl14.is (kl11.is g7)))) g23 dL_areFiles_82 ?_
            refine j_icmp_ne F 90 (by decide) dL_areFiles_83 h (fun h => ?_) (fun h => ?_)
            · skip
              refine j_sub (lv' := [(0, (false, x0)), (1, (false, x1)), (2, (false, x2)), (3, (false, x3))]) [0, 1, 2, 3] rfl ?_
              exact w_L_areFiles_90 F hno hnm x0 x1 x2 x3 M21 h
            · skip
              refine j_iconst F dL_areFiles_86 ?_
              refine j_goto F 91 (by decide) dL_areFiles_87 ?_
              refine j_sub (lv' := [(0, (false, x0)), (1, (false, x1)), (2, (false, x2)), (3, (false, x3))]) [0, 1, 2, 3] rfl ?_
              exact w_L_areFiles_91 F hno hnm x0 x1 x2 x3 1 M21 h
theorem c_L_areFiles (l : Launch) (hl : l.stackTraces = false) (G : Gt) (x0 x1 x2 x3 : Int) (M : Mo) (z : RS) (h : L_areFiles x0 x1 x2 x3 M = some z) : CT l G yL_areFiles (cn yL_areFiles cL_areFiles 8 (some FieldType.boolean)) 11 [(false, x0), (false, x1), (false, x2), (false, x3)] M 1 z :=
  ctOf hl (by decide) (Nat.le_of_ble_eq_true rfl) (fun p e R s m args below meth c ρ F hno hnm => w_L_areFiles_0 F hno hnm x0 x1 x2 x3 M h)
theorem dL_areDelivered_0 : decode cL_areDelivered 0 = .ok (.iconst 0, 1) := by decide +kernel
theorem dL_areDelivered_1 : decode cL_areDelivered 1 = .ok (.istore 4, 2) := by decide +kernel
theorem dL_areDelivered_3 : decode cL_areDelivered 3 = .ok (.iconst 0, 1) := by decide +kernel
theorem dL_areDelivered_4 : decode cL_areDelivered 4 = .ok (.istore 5, 2) := by decide +kernel
theorem dL_areDelivered_6 : decode cL_areDelivered 6 = .ok (.iload 5, 2) := by decide +kernel
theorem dL_areDelivered_8 : decode cL_areDelivered 8 = .ok (.bipush 10, 2) := by decide +kernel
theorem dL_areDelivered_10 : decode cL_areDelivered 10 = .ok (.if_icmp .ge 20, 3) := by decide +kernel
theorem dL_areDelivered_30 : decode cL_areDelivered 30 = .ok (.aload_n 0, 1) := by decide +kernel
set_option maxRecDepth 100000 in
theorem q1610 : Cond.code yX11_deliverAll cX11_deliverAll 4 (some FieldType.int) ∈ GT := gt 1610 (rfl) (by decide +kernel)
theorem M_X11_deliverAll : MY yX11_deliverAll cX11_deliverAll 4 (some FieldType.int) 0 := ⟨q1610, q53, by decide +kernel, by decide +kernel⟩
set_option maxRecDepth 100000 in
theorem q1608 : Cond.instanceMethod yX11_deliverAll ∈ GT := gt 1608 (by decide +kernel) (by decide +kernel)
set_option maxRecDepth 100000 in
theorem q1609 : Cond.selects RX11 yX11_deliverAll yX11_deliverAll ∈ GT := gt 1609 (by decide +kernel) (by decide +kernel)
set_option maxRecDepth 100000 in
theorem q1607 : Cond.methodLink RL 128 yX11_deliverAll ∈ GT := gt 1607 (by decide +kernel) (by decide +kernel)
theorem dL_areDelivered_31 : decode cL_areDelivered 31 = .ok (.invokevirtual 128, 3) := by decide +kernel
theorem dL_areDelivered_34 : decode cL_areDelivered 34 = .ok (.istore 5, 2) := by decide +kernel
theorem dL_areDelivered_36 : decode cL_areDelivered 36 = .ok (.aload_n 3, 1) := by decide +kernel
theorem dL_areDelivered_37 : decode cL_areDelivered 37 = .ok (.bipush 6, 2) := by decide +kernel
theorem dL_areDelivered_39 : decode cL_areDelivered 39 = .ok (.iconst 0, 1) := by decide +kernel
theorem dL_areDelivered_40 : decode cL_areDelivered 40 = .ok (.iastore, 1) := by decide +kernel
theorem dL_areDelivered_41 : decode cL_areDelivered 41 = .ok (.aload_n 3, 1) := by decide +kernel
theorem dL_areDelivered_42 : decode cL_areDelivered 42 = .ok (.bipush 7, 2) := by decide +kernel
theorem dL_areDelivered_44 : decode cL_areDelivered 44 = .ok (.iconst 0, 1) := by decide +kernel
theorem dL_areDelivered_45 : decode cL_areDelivered 45 = .ok (.iastore, 1) := by decide +kernel
theorem dL_areDelivered_46 : decode cL_areDelivered 46 = .ok (.iload 5, 2) := by decide +kernel
theorem dL_areDelivered_48 : decode cL_areDelivered 48 = .ok (.iload 4, 2) := by decide +kernel
theorem dL_areDelivered_50 : decode cL_areDelivered 50 = .ok (.if_icmp .lt 7, 3) := by decide +kernel
theorem dL_areDelivered_57 : decode cL_areDelivered 57 = .ok (.iconst 0, 1) := by decide +kernel
theorem dL_areDelivered_53 : decode cL_areDelivered 53 = .ok (.iconst 1, 1) := by decide +kernel
theorem dL_areDelivered_54 : decode cL_areDelivered 54 = .ok (.goto 4, 3) := by decide +kernel
theorem dL_areDelivered_13 : decode cL_areDelivered 13 = .ok (.iload 4, 2) := by decide +kernel
theorem dL_areDelivered_15 : decode cL_areDelivered 15 = .ok (.aload_n 0, 1) := by decide +kernel
theorem dL_areDelivered_16 : decode cL_areDelivered 16 = .ok (.iload 5, 2) := by decide +kernel
theorem dL_areDelivered_18 : decode cL_areDelivered 18 = .ok (.invokevirtual 77, 3) := by decide +kernel
theorem dL_areDelivered_21 : decode cL_areDelivered 21 = .ok (.iadd, 1) := by decide +kernel
theorem dL_areDelivered_22 : decode cL_areDelivered 22 = .ok (.istore 4, 2) := by decide +kernel
theorem dL_areDelivered_24 : decode cL_areDelivered 24 = .ok (.iinc 5 1, 3) := by decide +kernel
theorem dL_areDelivered_27 : decode cL_areDelivered 27 = .ok (.goto (-21), 3) := by decide +kernel
theorem dL_areDelivered_58 : decode cL_areDelivered 58 = .ok (.istore 6, 2) := by decide +kernel
theorem dL_areDelivered_60 : decode cL_areDelivered 60 = .ok (.iconst 0, 1) := by decide +kernel
theorem dL_areDelivered_61 : decode cL_areDelivered 61 = .ok (.istore 7, 2) := by decide +kernel
theorem dL_areDelivered_63 : decode cL_areDelivered 63 = .ok (.iload 7, 2) := by decide +kernel
theorem dL_areDelivered_65 : decode cL_areDelivered 65 = .ok (.bipush 10, 2) := by decide +kernel
theorem dL_areDelivered_67 : decode cL_areDelivered 67 = .ok (.if_icmp .ge 40, 3) := by decide +kernel
theorem dL_areDelivered_70 : decode cL_areDelivered 70 = .ok (.iload 6, 2) := by decide +kernel
theorem dL_areDelivered_72 : decode cL_areDelivered 72 = .ok (.ifCond .eq 35, 3) := by decide +kernel
theorem dL_areDelivered_75 : decode cL_areDelivered 75 = .ok (.aload_n 0, 1) := by decide +kernel
theorem dL_areDelivered_76 : decode cL_areDelivered 76 = .ok (.iload 7, 2) := by decide +kernel
theorem dL_areDelivered_78 : decode cL_areDelivered 78 = .ok (.invokevirtual 77, 3) := by decide +kernel
theorem dL_areDelivered_81 : decode cL_areDelivered 81 = .ok (.ifCond .ne 17, 3) := by decide +kernel
theorem dL_areDelivered_84 : decode cL_areDelivered 84 = .ok (.aload_n 0, 1) := by decide +kernel
theorem dL_areDelivered_85 : decode cL_areDelivered 85 = .ok (.iload 7, 2) := by decide +kernel
theorem dL_areDelivered_87 : decode cL_areDelivered 87 = .ok (.invokevirtual 64, 3) := by decide +kernel
theorem dL_areDelivered_90 : decode cL_areDelivered 90 = .ok (.iconst (-1), 1) := by decide +kernel
theorem dL_areDelivered_91 : decode cL_areDelivered 91 = .ok (.if_icmp .ne 7, 3) := by decide +kernel
theorem dL_areDelivered_94 : decode cL_areDelivered 94 = .ok (.iconst 1, 1) := by decide +kernel
theorem dL_areDelivered_95 : decode cL_areDelivered 95 = .ok (.goto 4, 3) := by decide +kernel
theorem dL_areDelivered_98 : decode cL_areDelivered 98 = .ok (.iconst 0, 1) := by decide +kernel
theorem dL_areDelivered_99 : decode cL_areDelivered 99 = .ok (.istore 6, 2) := by decide +kernel
theorem dL_areDelivered_101 : decode cL_areDelivered 101 = .ok (.iinc 7 1, 3) := by decide +kernel
theorem dL_areDelivered_104 : decode cL_areDelivered 104 = .ok (.goto (-41), 3) := by decide +kernel
theorem dL_areDelivered_107 : decode cL_areDelivered 107 = .ok (.iconst 0, 1) := by decide +kernel
theorem dL_areDelivered_108 : decode cL_areDelivered 108 = .ok (.istore 7, 2) := by decide +kernel
theorem dL_areDelivered_110 : decode cL_areDelivered 110 = .ok (.iload 7, 2) := by decide +kernel
theorem dL_areDelivered_112 : decode cL_areDelivered 112 = .ok (.iconst 2, 1) := by decide +kernel
theorem dL_areDelivered_113 : decode cL_areDelivered 113 = .ok (.if_icmp .ge 131, 3) := by decide +kernel
theorem dL_areDelivered_244 : decode cL_areDelivered 244 = .ok (.iload 6, 2) := by decide +kernel
theorem dL_areDelivered_246 : decode cL_areDelivered 246 = .ok (.ireturn, 1) := by decide +kernel
theorem dL_areDelivered_116 : decode cL_areDelivered 116 = .ok (.iload 6, 2) := by decide +kernel
theorem dL_areDelivered_118 : decode cL_areDelivered 118 = .ok (.ifCond .eq 126, 3) := by decide +kernel
theorem dL_areDelivered_121 : decode cL_areDelivered 121 = .ok (.iconst 2, 1) := by decide +kernel
theorem dL_areDelivered_122 : decode cL_areDelivered 122 = .ok (.istore 8, 2) := by decide +kernel
theorem dL_areDelivered_124 : decode cL_areDelivered 124 = .ok (.iload 8, 2) := by decide +kernel
theorem dL_areDelivered_126 : decode cL_areDelivered 126 = .ok (.iconst 3, 1) := by decide +kernel
theorem dL_areDelivered_127 : decode cL_areDelivered 127 = .ok (.aload_n 3, 1) := by decide +kernel
theorem dL_areDelivered_128 : decode cL_areDelivered 128 = .ok (.bipush 8, 2) := by decide +kernel
theorem dL_areDelivered_130 : decode cL_areDelivered 130 = .ok (.iaload, 1) := by decide +kernel
theorem dL_areDelivered_131 : decode cL_areDelivered 131 = .ok (.iadd, 1) := by decide +kernel
theorem dL_areDelivered_132 : decode cL_areDelivered 132 = .ok (.if_icmp .ge 106, 3) := by decide +kernel
theorem dL_areDelivered_135 : decode cL_areDelivered 135 = .ok (.iload 6, 2) := by decide +kernel
theorem dL_areDelivered_137 : decode cL_areDelivered 137 = .ok (.ifCond .eq 101, 3) := by decide +kernel
theorem dL_areDelivered_140 : decode cL_areDelivered 140 = .ok (.aload_n 3, 1) := by decide +kernel
theorem dL_areDelivered_141 : decode cL_areDelivered 141 = .ok (.iconst 2, 1) := by decide +kernel
theorem dL_areDelivered_142 : decode cL_areDelivered 142 = .ok (.iload 7, 2) := by decide +kernel
theorem dL_areDelivered_144 : decode cL_areDelivered 144 = .ok (.iadd, 1) := by decide +kernel
theorem dL_areDelivered_145 : decode cL_areDelivered 145 = .ok (.iaload, 1) := by decide +kernel
theorem dL_areDelivered_146 : decode cL_areDelivered 146 = .ok (.ifCond .lt 26, 3) := by decide +kernel
theorem dL_areDelivered_149 : decode cL_areDelivered 149 = .ok (.iload 8, 2) := by decide +kernel
theorem dL_areDelivered_151 : decode cL_areDelivered 151 = .ok (.iconst 2, 1) := by decide +kernel
theorem dL_areDelivered_152 : decode cL_areDelivered 152 = .ok (.if_icmp .eq 16, 3) := by decide +kernel
theorem dL_areDelivered_155 : decode cL_areDelivered 155 = .ok (.aload_n 3, 1) := by decide +kernel
theorem dL_areDelivered_156 : decode cL_areDelivered 156 = .ok (.bipush 15, 2) := by decide +kernel
theorem dL_areDelivered_158 : decode cL_areDelivered 158 = .ok (.iload 8, 2) := by decide +kernel
theorem dL_areDelivered_160 : decode cL_areDelivered 160 = .ok (.iadd, 1) := by decide +kernel
theorem dL_areDelivered_161 : decode cL_areDelivered 161 = .ok (.iconst 3, 1) := by decide +kernel
theorem dL_areDelivered_162 : decode cL_areDelivered 162 = .ok (.isub, 1) := by decide +kernel
theorem dL_areDelivered_163 : decode cL_areDelivered 163 = .ok (.iaload, 1) := by decide +kernel
theorem dL_areDelivered_164 : decode cL_areDelivered 164 = .ok (.iconst 1, 1) := by decide +kernel
theorem dL_areDelivered_165 : decode cL_areDelivered 165 = .ok (.if_icmp .ne 7, 3) := by decide +kernel
theorem dL_areDelivered_168 : decode cL_areDelivered 168 = .ok (.iconst 1, 1) := by decide +kernel
theorem dL_areDelivered_169 : decode cL_areDelivered 169 = .ok (.goto 4, 3) := by decide +kernel
theorem dL_areDelivered_172 : decode cL_areDelivered 172 = .ok (.iconst 0, 1) := by decide +kernel
theorem dL_areDelivered_173 : decode cL_areDelivered 173 = .ok (.istore 9, 2) := by decide +kernel
theorem dL_areDelivered_175 : decode cL_areDelivered 175 = .ok (.aload_n 0, 1) := by decide +kernel
theorem dL_areDelivered_176 : decode cL_areDelivered 176 = .ok (.iload 8, 2) := by decide +kernel
theorem dL_areDelivered_178 : decode cL_areDelivered 178 = .ok (.iload 7, 2) := by decide +kernel
theorem dL_areDelivered_180 : decode cL_areDelivered 180 = .ok (.invokevirtual 80, 3) := by decide +kernel
theorem dL_areDelivered_183 : decode cL_areDelivered 183 = .ok (.iload 9, 2) := by decide +kernel
theorem dL_areDelivered_185 : decode cL_areDelivered 185 = .ok (.ifCond .eq 10, 3) := by decide +kernel
theorem dL_areDelivered_195 : decode cL_areDelivered 195 = .ok (.iconst (-1), 1) := by decide +kernel
theorem dL_areDelivered_188 : decode cL_areDelivered 188 = .ok (.aload_n 3, 1) := by decide +kernel
theorem dL_areDelivered_189 : decode cL_areDelivered 189 = .ok (.iload 7, 2) := by decide +kernel
theorem dL_areDelivered_191 : decode cL_areDelivered 191 = .ok (.iaload, 1) := by decide +kernel
theorem dL_areDelivered_192 : decode cL_areDelivered 192 = .ok (.goto 4, 3) := by decide +kernel
theorem dL_areDelivered_196 : decode cL_areDelivered 196 = .ok (.if_icmp .ne 33, 3) := by decide +kernel
theorem dL_areDelivered_199 : decode cL_areDelivered 199 = .ok (.iload 9, 2) := by decide +kernel
theorem dL_areDelivered_201 : decode cL_areDelivered 201 = .ok (.ifCond .eq 24, 3) := by decide +kernel
theorem dL_areDelivered_204 : decode cL_areDelivered 204 = .ok (.aload_n 0, 1) := by decide +kernel
theorem dL_areDelivered_205 : decode cL_areDelivered 205 = .ok (.iload 8, 2) := by decide +kernel
theorem dL_areDelivered_207 : decode cL_areDelivered 207 = .ok (.iload 7, 2) := by decide +kernel
theorem dL_areDelivered_209 : decode cL_areDelivered 209 = .ok (.iload 7, 2) := by decide +kernel
theorem dL_areDelivered_211 : decode cL_areDelivered 211 = .ok (.ifCond .ne 7, 3) := by decide +kernel
theorem dL_areDelivered_218 : decode cL_areDelivered 218 = .ok (.aload_n 2, 1) := by decide +kernel
theorem dL_areDelivered_214 : decode cL_areDelivered 214 = .ok (.aload_n 1, 1) := by decide +kernel
theorem dL_areDelivered_215 : decode cL_areDelivered 215 = .ok (.goto 4, 3) := by decide +kernel
theorem dL_areDelivered_219 : decode cL_areDelivered 219 = .ok (.invokestatic 120, 3) := by decide +kernel
theorem dL_areDelivered_222 : decode cL_areDelivered 222 = .ok (.ifCond .eq 7, 3) := by decide +kernel
theorem dL_areDelivered_225 : decode cL_areDelivered 225 = .ok (.iconst 1, 1) := by decide +kernel
theorem dL_areDelivered_226 : decode cL_areDelivered 226 = .ok (.goto 4, 3) := by decide +kernel
theorem dL_areDelivered_229 : decode cL_areDelivered 229 = .ok (.iconst 0, 1) := by decide +kernel
theorem dL_areDelivered_230 : decode cL_areDelivered 230 = .ok (.istore 6, 2) := by decide +kernel
theorem dL_areDelivered_232 : decode cL_areDelivered 232 = .ok (.iinc 8 1, 3) := by decide +kernel
theorem dL_areDelivered_235 : decode cL_areDelivered 235 = .ok (.goto (-111), 3) := by decide +kernel
theorem dL_areDelivered_238 : decode cL_areDelivered 238 = .ok (.iinc 7 1, 3) := by decide +kernel
theorem dL_areDelivered_241 : decode cL_areDelivered 241 = .ok (.goto (-131), 3) := by decide +kernel
set_option maxHeartbeats 4000000 in
set_option maxRecDepth 100000 in
theorem w_L_areDelivered_99 {p : Program} {l : Launch} {e : Env} {R : Room} {s : State} {m : MethodId} {args : Array Value} {below : List Frame} {meth : Method} {c : Code} {G : Gt} {ρ0 : Int → Nat} {M0 : Mo} {res : RS} (F : Fx p l R s m args meth c cL_areDelivered 10 RL G M0 13 (some FieldType.boolean)) (hno : ∀ x ∈ c.exceptionTable.toList, False) (hnm : meth.name = yL_areDelivered.name) (k63 : Int → Int → Int → Int → Int → Int → Mo → Option RS) (hk63 : ∀ (x0 x1 x2 x3 x6 x7 : Int) (M : Mo), k63 x0 x1 x2 x3 x6 x7 M = some res → J p l e R s m args below meth c 10 G ρ0 M0 1 res M 63 [(0, (false, x0)), (1, (false, x1)), (2, (false, x2)), (3, (false, x3)), (6, (true, x6)), (7, (true, x7))] []) (x0 x1 x2 x3 x7 y0 : Int) (M : Mo) (h : L_areDelivered_99 k63 x0 x1 x2 x3 x7 y0 M = some res) : J p l e R s m args below meth c 10 G ρ0 M0 1 res M 99 [(0, (false, x0)), (1, (false, x1)), (2, (false, x2)), (3, (false, x3)), (7, (true, x7))] [(true, y0)] := by
  unfold L_areDelivered_99 at h
  refine j_istore F (lv' := [(6, (true, y0)), (0, (false, x0)), (1, (false, x1)), (2, (false, x2)), (3, (false, x3)), (7, (true, x7))]) (by decide) rfl dL_areDelivered_99 ?_
  refine j_iinc F 5 (lv' := [(7, (true, (x7 + 1))), (6, (true, y0)), (0, (false, x0)), (1, (false, x1)), (2, (false, x2)), (3, (false, x3))]) rfl (by decide) rfl dL_areDelivered_101 ?_
  refine j_goto F 63 (by decide) dL_areDelivered_104 ?_
  refine j_sub (lv' := [(0, (false, x0)), (1, (false, x1)), (2, (false, x2)), (3, (false, x3)), (6, (true, y0)), (7, (true, (x7 + 1)))]) [2, 3, 4, 5, 1, 0] rfl ?_
  exact hk63 x0 x1 x2 x3 y0 (x7 + 1) M h
set_option maxHeartbeats 4000000 in
set_option maxRecDepth 100000 in
theorem w_L_areDelivered_98 {p : Program} {l : Launch} {e : Env} {R : Room} {s : State} {m : MethodId} {args : Array Value} {below : List Frame} {meth : Method} {c : Code} {G : Gt} {ρ0 : Int → Nat} {M0 : Mo} {res : RS} (F : Fx p l R s m args meth c cL_areDelivered 10 RL G M0 13 (some FieldType.boolean)) (hno : ∀ x ∈ c.exceptionTable.toList, False) (hnm : meth.name = yL_areDelivered.name) (k63 : Int → Int → Int → Int → Int → Int → Mo → Option RS) (hk63 : ∀ (x0 x1 x2 x3 x6 x7 : Int) (M : Mo), k63 x0 x1 x2 x3 x6 x7 M = some res → J p l e R s m args below meth c 10 G ρ0 M0 1 res M 63 [(0, (false, x0)), (1, (false, x1)), (2, (false, x2)), (3, (false, x3)), (6, (true, x6)), (7, (true, x7))] []) (x0 x1 x2 x3 x7 : Int) (M : Mo) (h : L_areDelivered_98 k63 x0 x1 x2 x3 x7 M = some res) : J p l e R s m args below meth c 10 G ρ0 M0 1 res M 98 [(0, (false, x0)), (1, (false, x1)), (2, (false, x2)), (3, (false, x3)), (7, (true, x7))] [] := by
  unfold L_areDelivered_98 at h
  refine j_iconst F dL_areDelivered_98 ?_
  refine j_sub (lv' := [(0, (false, x0)), (1, (false, x1)), (2, (false, x2)), (3, (false, x3)), (7, (true, x7))]) [0, 1, 2, 3, 4] rfl ?_
  exact w_L_areDelivered_99 F hno hnm k63 hk63 x0 x1 x2 x3 x7 0 M h
set_option maxHeartbeats 4000000 in
set_option maxRecDepth 100000 in
theorem w_L_areDelivered_230 {p : Program} {l : Launch} {e : Env} {R : Room} {s : State} {m : MethodId} {args : Array Value} {below : List Frame} {meth : Method} {c : Code} {G : Gt} {ρ0 : Int → Nat} {M0 : Mo} {res : RS} (F : Fx p l R s m args meth c cL_areDelivered 10 RL G M0 13 (some FieldType.boolean)) (hno : ∀ x ∈ c.exceptionTable.toList, False) (hnm : meth.name = yL_areDelivered.name) (k110 : Int → Int → Int → Int → Int → Int → Mo → Option RS) (hk110 : ∀ (x0 x1 x2 x3 x6 x7 : Int) (M : Mo), k110 x0 x1 x2 x3 x6 x7 M = some res → J p l e R s m args below meth c 10 G ρ0 M0 1 res M 110 [(0, (false, x0)), (1, (false, x1)), (2, (false, x2)), (3, (false, x3)), (6, (true, x6)), (7, (true, x7))] []) (k124 : Int → Int → Int → Int → Int → Int → Int → Mo → Option RS) (hk124 : ∀ (x0 x1 x2 x3 x6 x7 x8 : Int) (M : Mo), k124 x0 x1 x2 x3 x6 x7 x8 M = some res → J p l e R s m args below meth c 10 G ρ0 M0 1 res M 124 [(0, (false, x0)), (1, (false, x1)), (2, (false, x2)), (3, (false, x3)), (6, (true, x6)), (7, (true, x7)), (8, (true, x8))] []) (x0 x1 x2 x3 x7 x8 y0 : Int) (M : Mo) (h : L_areDelivered_230 k110 k124 x0 x1 x2 x3 x7 x8 y0 M = some res) : J p l e R s m args below meth c 10 G ρ0 M0 1 res M 230 [(0, (false, x0)), (1, (false, x1)), (2, (false, x2)), (3, (false, x3)), (7, (true, x7)), (8, (true, x8))] [(true, y0)] := by
  unfold L_areDelivered_230 at h
  refine j_istore F (lv' := [(6, (true, y0)), (0, (false, x0)), (1, (false, x1)), (2, (false, x2)), (3, (false, x3)), (7, (true, x7)), (8, (true, x8))]) (by decide) rfl dL_areDelivered_230 ?_
  refine j_iinc F 6 (lv' := [(8, (true, (x8 + 1))), (6, (true, y0)), (0, (false, x0)), (1, (false, x1)), (2, (false, x2)), (3, (false, x3)), (7, (true, x7))]) rfl (by decide) rfl dL_areDelivered_232 ?_
  refine j_goto F 124 (by decide) dL_areDelivered_235 ?_
  refine j_sub (lv' := [(0, (false, x0)), (1, (false, x1)), (2, (false, x2)), (3, (false, x3)), (6, (true, y0)), (7, (true, x7)), (8, (true, (x8 + 1)))]) [2, 3, 4, 5, 1, 6, 0] rfl ?_
  exact hk124 x0 x1 x2 x3 y0 x7 (x8 + 1) M h
set_option maxHeartbeats 4000000 in
set_option maxRecDepth 100000 in
theorem w_L_areDelivered_225 {p : Program} {l : Launch} {e : Env} {R : Room} {s : State} {m : MethodId} {args : Array Value} {below : List Frame} {meth : Method} {c : Code} {G : Gt} {ρ0 : Int → Nat} {M0 : Mo} {res : RS} (F : Fx p l R s m args meth c cL_areDelivered 10 RL G M0 13 (some FieldType.boolean)) (hno : ∀ x ∈ c.exceptionTable.toList, False) (hnm : meth.name = yL_areDelivered.name) (k110 : Int → Int → Int → Int → Int → Int → Mo → Option RS) (hk110 : ∀ (x0 x1 x2 x3 x6 x7 : Int) (M : Mo), k110 x0 x1 x2 x3 x6 x7 M = some res → J p l e R s m args below meth c 10 G ρ0 M0 1 res M 110 [(0, (false, x0)), (1, (false, x1)), (2, (false, x2)), (3, (false, x3)), (6, (true, x6)), (7, (true, x7))] []) (k124 : Int → Int → Int → Int → Int → Int → Int → Mo → Option RS) (hk124 : ∀ (x0 x1 x2 x3 x6 x7 x8 : Int) (M : Mo), k124 x0 x1 x2 x3 x6 x7 x8 M = some res → J p l e R s m args below meth c 10 G ρ0 M0 1 res M 124 [(0, (false, x0)), (1, (false, x1)), (2, (false, x2)), (3, (false, x3)), (6, (true, x6)), (7, (true, x7)), (8, (true, x8))] []) (x0 x1 x2 x3 x7 x8 : Int) (M : Mo) (h : L_areDelivered_225 k110 k124 x0 x1 x2 x3 x7 x8 M = some res) : J p l e R s m args below meth c 10 G ρ0 M0 1 res M 225 [(0, (false, x0)), (1, (false, x1)), (2, (false, x2)), (3, (false, x3)), (7, (true, x7)), (8, (true, x8))] [] := by
  unfold L_areDelivered_225 at h
  refine j_iconst F dL_areDelivered_225 ?_
  refine j_goto F 230 (by decide) dL_areDelivered_226 ?_
  refine j_sub (lv' := [(0, (false, x0)), (1, (false, x1)), (2, (false, x2)), (3, (false, x3)), (7, (true, x7)), (8, (true, x8))]) [0, 1, 2, 3, 4, 5] rfl ?_
  exact w_L_areDelivered_230 F hno hnm k110 hk110 k124 hk124 x0 x1 x2 x3 x7 x8 1 M h
set_option maxHeartbeats 4000000 in
set_option maxRecDepth 100000 in
theorem w_L_areDelivered_229 {p : Program} {l : Launch} {e : Env} {R : Room} {s : State} {m : MethodId} {args : Array Value} {below : List Frame} {meth : Method} {c : Code} {G : Gt} {ρ0 : Int → Nat} {M0 : Mo} {res : RS} (F : Fx p l R s m args meth c cL_areDelivered 10 RL G M0 13 (some FieldType.boolean)) (hno : ∀ x ∈ c.exceptionTable.toList, False) (hnm : meth.name = yL_areDelivered.name) (k110 : Int → Int → Int → Int → Int → Int → Mo → Option RS) (hk110 : ∀ (x0 x1 x2 x3 x6 x7 : Int) (M : Mo), k110 x0 x1 x2 x3 x6 x7 M = some res → J p l e R s m args below meth c 10 G ρ0 M0 1 res M 110 [(0, (false, x0)), (1, (false, x1)), (2, (false, x2)), (3, (false, x3)), (6, (true, x6)), (7, (true, x7))] []) (k124 : Int → Int → Int → Int → Int → Int → Int → Mo → Option RS) (hk124 : ∀ (x0 x1 x2 x3 x6 x7 x8 : Int) (M : Mo), k124 x0 x1 x2 x3 x6 x7 x8 M = some res → J p l e R s m args below meth c 10 G ρ0 M0 1 res M 124 [(0, (false, x0)), (1, (false, x1)), (2, (false, x2)), (3, (false, x3)), (6, (true, x6)), (7, (true, x7)), (8, (true, x8))] []) (x0 x1 x2 x3 x7 x8 : Int) (M : Mo) (h : L_areDelivered_229 k110 k124 x0 x1 x2 x3 x7 x8 M = some res) : J p l e R s m args below meth c 10 G ρ0 M0 1 res M 229 [(0, (false, x0)), (1, (false, x1)), (2, (false, x2)), (3, (false, x3)), (7, (true, x7)), (8, (true, x8))] [] := by
  unfold L_areDelivered_229 at h
  refine j_iconst F dL_areDelivered_229 ?_
  refine j_sub (lv' := [(0, (false, x0)), (1, (false, x1)), (2, (false, x2)), (3, (false, x3)), (7, (true, x7)), (8, (true, x8))]) [0, 1, 2, 3, 4, 5] rfl ?_
  exact w_L_areDelivered_230 F hno hnm k110 hk110 k124 hk124 x0 x1 x2 x3 x7 x8 0 M h
set_option maxHeartbeats 4000000 in
set_option maxRecDepth 100000 in
theorem w_L_areDelivered_219 {p : Program} {l : Launch} {e : Env} {R : Room} {s : State} {m : MethodId} {args : Array Value} {below : List Frame} {meth : Method} {c : Code} {G : Gt} {ρ0 : Int → Nat} {M0 : Mo} {res : RS} (F : Fx p l R s m args meth c cL_areDelivered 10 RL G M0 13 (some FieldType.boolean)) (hno : ∀ x ∈ c.exceptionTable.toList, False) (hnm : meth.name = yL_areDelivered.name) (k110 : Int → Int → Int → Int → Int → Int → Mo → Option RS) (hk110 : ∀ (x0 x1 x2 x3 x6 x7 : Int) (M : Mo), k110 x0 x1 x2 x3 x6 x7 M = some res → J p l e R s m args below meth c 10 G ρ0 M0 1 res M 110 [(0, (false, x0)), (1, (false, x1)), (2, (false, x2)), (3, (false, x3)), (6, (true, x6)), (7, (true, x7))] []) (k124 : Int → Int → Int → Int → Int → Int → Int → Mo → Option RS) (hk124 : ∀ (x0 x1 x2 x3 x6 x7 x8 : Int) (M : Mo), k124 x0 x1 x2 x3 x6 x7 x8 M = some res → J p l e R s m args below meth c 10 G ρ0 M0 1 res M 124 [(0, (false, x0)), (1, (false, x1)), (2, (false, x2)), (3, (false, x3)), (6, (true, x6)), (7, (true, x7)), (8, (true, x8))] []) (x0 x1 x2 x3 x7 x8 y0 y1 y2 y3 : Int) (M : Mo) (h : L_areDelivered_219 k110 k124 x0 x1 x2 x3 x7 x8 y0 y1 y2 y3 M = some res) : J p l e R s m args below meth c 10 G ρ0 M0 1 res M 219 [(0, (false, x0)), (1, (false, x1)), (2, (false, x2)), (3, (false, x3)), (7, (true, x7)), (8, (true, x8))] [(false, y3), (true, y2), (true, y1), (false, y0)] := by
  unfold L_areDelivered_219 at h
  refine j_callS (d' := 10) (argl := [(false, y0), (true, y1), (true, y2), (false, y3)]) (rk9 := 1) (st := []) F hno M_L_isText q1589 q1588 ⟨by decide, by decide⟩ (Nat.le_of_ble_eq_true rfl) (by decide) dL_areDelivered_219 rfl h (fun z hz => c_L_isText l F.ht G y0 y1 y2 y3 M z hz) (fun v1 M2 h kl3 => ?_)
  refine j_st (st' := [(true, v1)]) rfl ?_
  refine j_if_eq F 229 (by decide) dL_areDelivered_222 h (fun h => ?_) (fun h => ?_)
  · skip
    refine j_sub (lv' := [(0, (false, x0)), (1, (false, x1)), (2, (false, x2)), (3, (false, x3)), (7, (true, x7)), (8, (true, x8))]) [0, 1, 2, 3, 4, 5] rfl ?_
    exact w_L_areDelivered_229 F hno hnm k110 hk110 k124 hk124 x0 x1 x2 x3 x7 x8 M2 h
  · skip
    refine j_sub (lv' := [(0, (false, x0)), (1, (false, x1)), (2, (false, x2)), (3, (false, x3)), (7, (true, x7)), (8, (true, x8))]) [0, 1, 2, 3, 4, 5] rfl ?_
    exact w_L_areDelivered_225 F hno hnm k110 hk110 k124 hk124 x0 x1 x2 x3 x7 x8 M2 h
set_option maxHeartbeats 4000000 in
set_option maxRecDepth 100000 in
theorem w_L_areDelivered_196 {p : Program} {l : Launch} {e : Env} {R : Room} {s : State} {m : MethodId} {args : Array Value} {below : List Frame} {meth : Method} {c : Code} {G : Gt} {ρ0 : Int → Nat} {M0 : Mo} {res : RS} (F : Fx p l R s m args meth c cL_areDelivered 10 RL G M0 13 (some FieldType.boolean)) (hno : ∀ x ∈ c.exceptionTable.toList, False) (hnm : meth.name = yL_areDelivered.name) (k110 : Int → Int → Int → Int → Int → Int → Mo → Option RS) (hk110 : ∀ (x0 x1 x2 x3 x6 x7 : Int) (M : Mo), k110 x0 x1 x2 x3 x6 x7 M = some res → J p l e R s m args below meth c 10 G ρ0 M0 1 res M 110 [(0, (false, x0)), (1, (false, x1)), (2, (false, x2)), (3, (false, x3)), (6, (true, x6)), (7, (true, x7))] []) (k124 : Int → Int → Int → Int → Int → Int → Int → Mo → Option RS) (hk124 : ∀ (x0 x1 x2 x3 x6 x7 x8 : Int) (M : Mo), k124 x0 x1 x2 x3 x6 x7 x8 M = some res → J p l e R s m args below meth c 10 G ρ0 M0 1 res M 124 [(0, (false, x0)), (1, (false, x1)), (2, (false, x2)), (3, (false, x3)), (6, (true, x6)), (7, (true, x7)), (8, (true, x8))] []) (x0 x1 x2 x3 x7 x8 x9 y0 y1 : Int) (M : Mo) (h : L_areDelivered_196 k110 k124 x0 x1 x2 x3 x7 x8 x9 y0 y1 M = some res) : J p l e R s m args below meth c 10 G ρ0 M0 1 res M 196 [(0, (false, x0)), (1, (false, x1)), (2, (false, x2)), (3, (false, x3)), (7, (true, x7)), (8, (true, x8)), (9, (true, x9))] [(true, y1), (true, y0)] := by
  unfold L_areDelivered_196 at h
  refine j_icmp_ne F 229 (by decide) dL_areDelivered_196 h (fun h => ?_) (fun h => ?_)
  · skip
    refine j_sub (lv' := [(0, (false, x0)), (1, (false, x1)), (2, (false, x2)), (3, (false, x3)), (7, (true, x7)), (8, (true, x8))]) [0, 1, 2, 3, 4, 5] rfl ?_
    exact w_L_areDelivered_229 F hno hnm k110 hk110 k124 hk124 x0 x1 x2 x3 x7 x8 M h
  · skip
    refine j_iload F 6 rfl dL_areDelivered_199 ?_
    refine j_if_eq F 225 (by decide) dL_areDelivered_201 h (fun h => ?_) (fun h => ?_)
    · skip
      refine j_sub (lv' := [(0, (false, x0)), (1, (false, x1)), (2, (false, x2)), (3, (false, x3)), (7, (true, x7)), (8, (true, x8))]) [0, 1, 2, 3, 4, 5] rfl ?_
      exact w_L_areDelivered_225 F hno hnm k110 hk110 k124 hk124 x0 x1 x2 x3 x7 x8 M h
    · skip
      refine j_aload_n F 0 rfl rfl dL_areDelivered_204 ?_
      refine j_iload F 5 rfl dL_areDelivered_205 ?_
      refine j_iload F 4 rfl dL_areDelivered_207 ?_
      refine j_iload F 4 rfl dL_areDelivered_209 ?_
      refine j_if_ne F 218 (by decide) dL_areDelivered_211 h (fun h => ?_) (fun h => ?_)
      · skip
        refine j_aload_n F 2 rfl rfl dL_areDelivered_218 ?_
        refine j_sub (lv' := [(0, (false, x0)), (1, (false, x1)), (2, (false, x2)), (3, (false, x3)), (7, (true, x7)), (8, (true, x8))]) [0, 1, 2, 3, 4, 5] rfl ?_
        exact w_L_areDelivered_219 F hno hnm k110 hk110 k124 hk124 x0 x1 x2 x3 x7 x8 x0 x8 x7 x2 M h
      · skip
        refine j_aload_n F 1 rfl rfl dL_areDelivered_214 ?_
        refine j_goto F 219 (by decide) dL_areDelivered_215 ?_
        refine j_sub (lv' := [(0, (false, x0)), (1, (false, x1)), (2, (false, x2)), (3, (false, x3)), (7, (true, x7)), (8, (true, x8))]) [0, 1, 2, 3, 4, 5] rfl ?_
        exact w_L_areDelivered_219 F hno hnm k110 hk110 k124 hk124 x0 x1 x2 x3 x7 x8 x0 x8 x7 x1 M h
set_option maxHeartbeats 4000000 in
set_option maxRecDepth 100000 in
theorem w_L_areDelivered_173 {p : Program} {l : Launch} {e : Env} {R : Room} {s : State} {m : MethodId} {args : Array Value} {below : List Frame} {meth : Method} {c : Code} {G : Gt} {ρ0 : Int → Nat} {M0 : Mo} {res : RS} (F : Fx p l R s m args meth c cL_areDelivered 10 RL G M0 13 (some FieldType.boolean)) (hno : ∀ x ∈ c.exceptionTable.toList, False) (hnm : meth.name = yL_areDelivered.name) (k110 : Int → Int → Int → Int → Int → Int → Mo → Option RS) (hk110 : ∀ (x0 x1 x2 x3 x6 x7 : Int) (M : Mo), k110 x0 x1 x2 x3 x6 x7 M = some res → J p l e R s m args below meth c 10 G ρ0 M0 1 res M 110 [(0, (false, x0)), (1, (false, x1)), (2, (false, x2)), (3, (false, x3)), (6, (true, x6)), (7, (true, x7))] []) (k124 : Int → Int → Int → Int → Int → Int → Int → Mo → Option RS) (hk124 : ∀ (x0 x1 x2 x3 x6 x7 x8 : Int) (M : Mo), k124 x0 x1 x2 x3 x6 x7 x8 M = some res → J p l e R s m args below meth c 10 G ρ0 M0 1 res M 124 [(0, (false, x0)), (1, (false, x1)), (2, (false, x2)), (3, (false, x3)), (6, (true, x6)), (7, (true, x7)), (8, (true, x8))] []) (x0 x1 x2 x3 x7 x8 y0 : Int) (M : Mo) (h : L_areDelivered_173 k110 k124 x0 x1 x2 x3 x7 x8 y0 M = some res) : J p l e R s m args below meth c 10 G ρ0 M0 1 res M 173 [(0, (false, x0)), (1, (false, x1)), (2, (false, x2)), (3, (false, x3)), (7, (true, x7)), (8, (true, x8))] [(true, y0)] := by
  unfold L_areDelivered_173 at h
  refine j_istore F (lv' := [(9, (true, y0)), (0, (false, x0)), (1, (false, x1)), (2, (false, x2)), (3, (false, x3)), (7, (true, x7)), (8, (true, x8))]) (by decide) rfl dL_areDelivered_173 ?_
  refine j_aload_n F 1 rfl rfl dL_areDelivered_175 ?_
  refine j_iload F 6 rfl dL_areDelivered_176 ?_
  refine j_iload F 5 rfl dL_areDelivered_178 ?_
  obtain ⟨g4, h⟩ := gua h
  refine j_callV (d' := 8) (argl := [(true, x8), (true, x7)]) (rk9 := 1) (st := []) F hno M_X11_version q1527 q1528 q1526 ⟨by decide, by decide⟩ (Nat.le_of_ble_eq_true rfl) (by decide) (ci := 12) rfl (by decide) g4 dL_areDelivered_180 rfl h (fun z hz => c_X11_version l F.ht G x0 x8 x7 M z hz) (fun v1 M2 h kl3 => ?_)
  refine j_st (st' := [(true, v1)]) rfl ?_
  refine j_iload F 0 rfl dL_areDelivered_183 ?_
  refine j_if_eq F 195 (by decide) dL_areDelivered_185 h (fun h => ?_) (fun h => ?_)
  · skip
    refine j_iconst F dL_areDelivered_195 ?_
    refine j_sub (lv' := [(0, (false, x0)), (1, (false, x1)), (2, (false, x2)), (3, (false, x3)), (7, (true, x7)), (8, (true, x8)), (9, (true, y0))]) [1, 2, 3, 4, 5, 6, 0] rfl ?_
    exact w_L_areDelivered_196 F hno hnm k110 hk110 k124 hk124 x0 x1 x2 x3 x7 x8 y0 v1 (-1) M2 h
  · skip
    refine j_aload_n F 4 rfl rfl dL_areDelivered_188 ?_
    refine j_iload F 5 rfl dL_areDelivered_189 ?_
    obtain ⟨g5, h⟩ := gua h
    obtain ⟨g6, h⟩ := gua h
    refine j_iaload F g5 g6 dL_areDelivered_191 ?_
    refine j_goto F 196 (by decide) dL_areDelivered_192 ?_
    refine j_sub (lv' := [(0, (false, x0)), (1, (false, x1)), (2, (false, x2)), (3, (false, x3)), (7, (true, x7)), (8, (true, x8)), (9, (true, y0))]) [1, 2, 3, 4, 5, 6, 0] rfl ?_
    exact w_L_areDelivered_196 F hno hnm k110 hk110 k124 hk124 x0 x1 x2 x3 x7 x8 y0 v1 (el M2 0 x3 (wr x7)) M2 h
set_option maxHeartbeats 4000000 in
set_option maxRecDepth 100000 in
theorem w_L_areDelivered_168 {p : Program} {l : Launch} {e : Env} {R : Room} {s : State} {m : MethodId} {args : Array Value} {below : List Frame} {meth : Method} {c : Code} {G : Gt} {ρ0 : Int → Nat} {M0 : Mo} {res : RS} (F : Fx p l R s m args meth c cL_areDelivered 10 RL G M0 13 (some FieldType.boolean)) (hno : ∀ x ∈ c.exceptionTable.toList, False) (hnm : meth.name = yL_areDelivered.name) (k110 : Int → Int → Int → Int → Int → Int → Mo → Option RS) (hk110 : ∀ (x0 x1 x2 x3 x6 x7 : Int) (M : Mo), k110 x0 x1 x2 x3 x6 x7 M = some res → J p l e R s m args below meth c 10 G ρ0 M0 1 res M 110 [(0, (false, x0)), (1, (false, x1)), (2, (false, x2)), (3, (false, x3)), (6, (true, x6)), (7, (true, x7))] []) (k124 : Int → Int → Int → Int → Int → Int → Int → Mo → Option RS) (hk124 : ∀ (x0 x1 x2 x3 x6 x7 x8 : Int) (M : Mo), k124 x0 x1 x2 x3 x6 x7 x8 M = some res → J p l e R s m args below meth c 10 G ρ0 M0 1 res M 124 [(0, (false, x0)), (1, (false, x1)), (2, (false, x2)), (3, (false, x3)), (6, (true, x6)), (7, (true, x7)), (8, (true, x8))] []) (x0 x1 x2 x3 x7 x8 : Int) (M : Mo) (h : L_areDelivered_168 k110 k124 x0 x1 x2 x3 x7 x8 M = some res) : J p l e R s m args below meth c 10 G ρ0 M0 1 res M 168 [(0, (false, x0)), (1, (false, x1)), (2, (false, x2)), (3, (false, x3)), (7, (true, x7)), (8, (true, x8))] [] := by
  unfold L_areDelivered_168 at h
  refine j_iconst F dL_areDelivered_168 ?_
  refine j_goto F 173 (by decide) dL_areDelivered_169 ?_
  refine j_sub (lv' := [(0, (false, x0)), (1, (false, x1)), (2, (false, x2)), (3, (false, x3)), (7, (true, x7)), (8, (true, x8))]) [0, 1, 2, 3, 4, 5] rfl ?_
  exact w_L_areDelivered_173 F hno hnm k110 hk110 k124 hk124 x0 x1 x2 x3 x7 x8 1 M h
set_option maxHeartbeats 4000000 in
set_option maxRecDepth 100000 in
theorem w_L_areDelivered_172 {p : Program} {l : Launch} {e : Env} {R : Room} {s : State} {m : MethodId} {args : Array Value} {below : List Frame} {meth : Method} {c : Code} {G : Gt} {ρ0 : Int → Nat} {M0 : Mo} {res : RS} (F : Fx p l R s m args meth c cL_areDelivered 10 RL G M0 13 (some FieldType.boolean)) (hno : ∀ x ∈ c.exceptionTable.toList, False) (hnm : meth.name = yL_areDelivered.name) (k110 : Int → Int → Int → Int → Int → Int → Mo → Option RS) (hk110 : ∀ (x0 x1 x2 x3 x6 x7 : Int) (M : Mo), k110 x0 x1 x2 x3 x6 x7 M = some res → J p l e R s m args below meth c 10 G ρ0 M0 1 res M 110 [(0, (false, x0)), (1, (false, x1)), (2, (false, x2)), (3, (false, x3)), (6, (true, x6)), (7, (true, x7))] []) (k124 : Int → Int → Int → Int → Int → Int → Int → Mo → Option RS) (hk124 : ∀ (x0 x1 x2 x3 x6 x7 x8 : Int) (M : Mo), k124 x0 x1 x2 x3 x6 x7 x8 M = some res → J p l e R s m args below meth c 10 G ρ0 M0 1 res M 124 [(0, (false, x0)), (1, (false, x1)), (2, (false, x2)), (3, (false, x3)), (6, (true, x6)), (7, (true, x7)), (8, (true, x8))] []) (x0 x1 x2 x3 x7 x8 : Int) (M : Mo) (h : L_areDelivered_172 k110 k124 x0 x1 x2 x3 x7 x8 M = some res) : J p l e R s m args below meth c 10 G ρ0 M0 1 res M 172 [(0, (false, x0)), (1, (false, x1)), (2, (false, x2)), (3, (false, x3)), (7, (true, x7)), (8, (true, x8))] [] := by
  unfold L_areDelivered_172 at h
  refine j_iconst F dL_areDelivered_172 ?_
  refine j_sub (lv' := [(0, (false, x0)), (1, (false, x1)), (2, (false, x2)), (3, (false, x3)), (7, (true, x7)), (8, (true, x8))]) [0, 1, 2, 3, 4, 5] rfl ?_
  exact w_L_areDelivered_173 F hno hnm k110 hk110 k124 hk124 x0 x1 x2 x3 x7 x8 0 M h
set_option maxHeartbeats 4000000 in
set_option maxRecDepth 100000 in
theorem w_L_areDelivered_238 {p : Program} {l : Launch} {e : Env} {R : Room} {s : State} {m : MethodId} {args : Array Value} {below : List Frame} {meth : Method} {c : Code} {G : Gt} {ρ0 : Int → Nat} {M0 : Mo} {res : RS} (F : Fx p l R s m args meth c cL_areDelivered 10 RL G M0 13 (some FieldType.boolean)) (hno : ∀ x ∈ c.exceptionTable.toList, False) (hnm : meth.name = yL_areDelivered.name) (k110 : Int → Int → Int → Int → Int → Int → Mo → Option RS) (hk110 : ∀ (x0 x1 x2 x3 x6 x7 : Int) (M : Mo), k110 x0 x1 x2 x3 x6 x7 M = some res → J p l e R s m args below meth c 10 G ρ0 M0 1 res M 110 [(0, (false, x0)), (1, (false, x1)), (2, (false, x2)), (3, (false, x3)), (6, (true, x6)), (7, (true, x7))] []) (x0 x1 x2 x3 x6 x7 : Int) (M : Mo) (h : L_areDelivered_238 k110 x0 x1 x2 x3 x6 x7 M = some res) : J p l e R s m args below meth c 10 G ρ0 M0 1 res M 238 [(0, (false, x0)), (1, (false, x1)), (2, (false, x2)), (3, (false, x3)), (6, (true, x6)), (7, (true, x7))] [] := by
  unfold L_areDelivered_238 at h
  refine j_iinc F 5 (lv' := [(7, (true, (x7 + 1))), (0, (false, x0)), (1, (false, x1)), (2, (false, x2)), (3, (false, x3)), (6, (true, x6))]) rfl (by decide) rfl dL_areDelivered_238 ?_
  refine j_goto F 110 (by decide) dL_areDelivered_241 ?_
  refine j_sub (lv' := [(0, (false, x0)), (1, (false, x1)), (2, (false, x2)), (3, (false, x3)), (6, (true, x6)), (7, (true, (x7 + 1)))]) [1, 2, 3, 4, 5, 0] rfl ?_
  exact hk110 x0 x1 x2 x3 x6 (x7 + 1) M h
set_option maxHeartbeats 4000000 in
set_option maxRecDepth 100000 in
theorem w_L_areDelivered_124 {p : Program} {l : Launch} {e : Env} {R : Room} {s : State} {m : MethodId} {args : Array Value} {below : List Frame} {meth : Method} {c : Code} {G : Gt} {ρ0 : Int → Nat} {M0 : Mo} {res : RS} (F : Fx p l R s m args meth c cL_areDelivered 10 RL G M0 13 (some FieldType.boolean)) (hno : ∀ x ∈ c.exceptionTable.toList, False) (hnm : meth.name = yL_areDelivered.name) (k110 : Int → Int → Int → Int → Int → Int → Mo → Option RS) (hk110 : ∀ (x0 x1 x2 x3 x6 x7 : Int) (M : Mo), k110 x0 x1 x2 x3 x6 x7 M = some res → J p l e R s m args below meth c 10 G ρ0 M0 1 res M 110 [(0, (false, x0)), (1, (false, x1)), (2, (false, x2)), (3, (false, x3)), (6, (true, x6)), (7, (true, x7))] []) (n : Nat) : ∀ (x0 x1 x2 x3 x6 x7 x8 : Int) (M : Mo), L_areDelivered_124 k110 n x0 x1 x2 x3 x6 x7 x8 M = some res → J p l e R s m args below meth c 10 G ρ0 M0 1 res M 124 [(0, (false, x0)), (1, (false, x1)), (2, (false, x2)), (3, (false, x3)), (6, (true, x6)), (7, (true, x7)), (8, (true, x8))] [] := by
  induction n with
  | zero => intro x0 x1 x2 x3 x6 x7 x8 M h; cases h
  | succ n ih =>
    intro x0 x1 x2 x3 x6 x7 x8 M h
    rw [L_areDelivered_124] at h
    refine j_iload F 6 rfl dL_areDelivered_124 ?_
    refine j_iconst F dL_areDelivered_126 ?_
    refine j_aload_n F 3 rfl rfl dL_areDelivered_127 ?_
    refine j_bipush F (by decide) dL_areDelivered_128 ?_
    obtain ⟨g1, h⟩ := gua h
    obtain ⟨g2, h⟩ := gua h
    refine j_iaload F g1 g2 dL_areDelivered_130 ?_
    refine j_iadd F dL_areDelivered_131 ?_
    refine j_icmp_ge F 238 (by decide) dL_areDelivered_132 h (fun h => ?_) (fun h => ?_)
    · skip
      refine j_sub (lv' := [(0, (false, x0)), (1, (false, x1)), (2, (false, x2)), (3, (false, x3)), (6, (true, x6)), (7, (true, x7))]) [0, 1, 2, 3, 4, 5] rfl ?_
      exact w_L_areDelivered_238 F hno hnm k110 hk110 x0 x1 x2 x3 x6 x7 M h
    · skip
      refine j_iload F 4 rfl dL_areDelivered_135 ?_
      refine j_if_eq F 238 (by decide) dL_areDelivered_137 h (fun h => ?_) (fun h => ?_)
      · skip
        refine j_sub (lv' := [(0, (false, x0)), (1, (false, x1)), (2, (false, x2)), (3, (false, x3)), (6, (true, x6)), (7, (true, x7))]) [0, 1, 2, 3, 4, 5] rfl ?_
        exact w_L_areDelivered_238 F hno hnm k110 hk110 x0 x1 x2 x3 x6 x7 M h
      · skip
        refine j_aload_n F 3 rfl rfl dL_areDelivered_140 ?_
        refine j_iconst F dL_areDelivered_141 ?_
        refine j_iload F 5 rfl dL_areDelivered_142 ?_
        refine j_iadd F dL_areDelivered_144 ?_
        obtain ⟨g3, h⟩ := gua h
        refine j_iaload F g1 g3 dL_areDelivered_145 ?_
        refine j_if_lt F 172 (by decide) dL_areDelivered_146 h (fun h => ?_) (fun h => ?_)
        · skip
          refine j_sub (lv' := [(0, (false, x0)), (1, (false, x1)), (2, (false, x2)), (3, (false, x3)), (7, (true, x7)), (8, (true, x8))]) [0, 1, 2, 3, 5, 6] rfl ?_
          exact w_L_areDelivered_172 F hno hnm k110 hk110 (L_areDelivered_124 k110 n) ih x0 x1 x2 x3 x7 x8 M h
        · skip
          refine j_iload F 6 rfl dL_areDelivered_149 ?_
          refine j_iconst F dL_areDelivered_151 ?_
          refine j_icmp_eq F 168 (by decide) dL_areDelivered_152 h (fun h => ?_) (fun h => ?_)
          · skip
            refine j_sub (lv' := [(0, (false, x0)), (1, (false, x1)), (2, (false, x2)), (3, (false, x3)), (7, (true, x7)), (8, (true, x8))]) [0, 1, 2, 3, 5, 6] rfl ?_
            exact w_L_areDelivered_168 F hno hnm k110 hk110 (L_areDelivered_124 k110 n) ih x0 x1 x2 x3 x7 x8 M h
          · skip
            refine j_aload_n F 3 rfl rfl dL_areDelivered_155 ?_
            refine j_bipush F (by decide) dL_areDelivered_156 ?_
            refine j_iload F 6 rfl dL_areDelivered_158 ?_
            refine j_iadd F dL_areDelivered_160 ?_
            refine j_iconst F dL_areDelivered_161 ?_
            refine j_isub F dL_areDelivered_162 ?_
            obtain ⟨g4, h⟩ := gua h
            refine j_iaload F g1 g4 dL_areDelivered_163 ?_
            refine j_iconst F dL_areDelivered_164 ?_
            refine j_icmp_ne F 172 (by decide) dL_areDelivered_165 h (fun h => ?_) (fun h => ?_)
            · skip
              refine j_sub (lv' := [(0, (false, x0)), (1, (false, x1)), (2, (false, x2)), (3, (false, x3)), (7, (true, x7)), (8, (true, x8))]) [0, 1, 2, 3, 5, 6] rfl ?_
              exact w_L_areDelivered_172 F hno hnm k110 hk110 (L_areDelivered_124 k110 n) ih x0 x1 x2 x3 x7 x8 M h
            · skip
              refine j_sub (lv' := [(0, (false, x0)), (1, (false, x1)), (2, (false, x2)), (3, (false, x3)), (7, (true, x7)), (8, (true, x8))]) [0, 1, 2, 3, 5, 6] rfl ?_
              exact w_L_areDelivered_168 F hno hnm k110 hk110 (L_areDelivered_124 k110 n) ih x0 x1 x2 x3 x7 x8 M h
set_option maxHeartbeats 4000000 in
set_option maxRecDepth 100000 in
theorem w_L_areDelivered_110 {p : Program} {l : Launch} {e : Env} {R : Room} {s : State} {m : MethodId} {args : Array Value} {below : List Frame} {meth : Method} {c : Code} {G : Gt} {ρ0 : Int → Nat} {M0 : Mo} {res : RS} (F : Fx p l R s m args meth c cL_areDelivered 10 RL G M0 13 (some FieldType.boolean)) (hno : ∀ x ∈ c.exceptionTable.toList, False) (hnm : meth.name = yL_areDelivered.name) (n : Nat) : ∀ (x0 x1 x2 x3 x6 x7 : Int) (M : Mo), L_areDelivered_110 n x0 x1 x2 x3 x6 x7 M = some res → J p l e R s m args below meth c 10 G ρ0 M0 1 res M 110 [(0, (false, x0)), (1, (false, x1)), (2, (false, x2)), (3, (false, x3)), (6, (true, x6)), (7, (true, x7))] [] := by
  induction n with
  | zero => intro x0 x1 x2 x3 x6 x7 M h; cases h
  | succ n ih =>
    intro x0 x1 x2 x3 x6 x7 M h
    rw [L_areDelivered_110] at h
    refine j_iload F 5 rfl dL_areDelivered_110 ?_
    refine j_iconst F dL_areDelivered_112 ?_
    refine j_icmp_ge F 244 (by decide) dL_areDelivered_113 h (fun h => ?_) (fun h => ?_)
    · skip
      refine j_iload F 4 rfl dL_areDelivered_244 ?_
      obtain ⟨g1, h⟩ := gua h
      exact j_zret F (nz_b g1) h dL_areDelivered_246
    · skip
      refine j_iload F 4 rfl dL_areDelivered_116 ?_
      refine j_if_eq F 244 (by decide) dL_areDelivered_118 h (fun h => ?_) (fun h => ?_)
      · skip
        refine j_iload F 4 rfl dL_areDelivered_244 ?_
        obtain ⟨g2, h⟩ := gua h
        exact j_zret F (nz_b g2) h dL_areDelivered_246
      · skip
        refine j_iconst F dL_areDelivered_121 ?_
        refine j_istore F (lv' := [(8, (true, 2)), (0, (false, x0)), (1, (false, x1)), (2, (false, x2)), (3, (false, x3)), (6, (true, x6)), (7, (true, x7))]) (by decide) rfl dL_areDelivered_122 ?_
        refine j_sub (lv' := [(0, (false, x0)), (1, (false, x1)), (2, (false, x2)), (3, (false, x3)), (6, (true, x6)), (7, (true, x7)), (8, (true, 2))]) [1, 2, 3, 4, 5, 6, 0] rfl ?_
        exact w_L_areDelivered_124 F hno hnm (L_areDelivered_110 n) ih FU x0 x1 x2 x3 x6 x7 2 M h
set_option maxHeartbeats 4000000 in
set_option maxRecDepth 100000 in
theorem w_L_areDelivered_107 {p : Program} {l : Launch} {e : Env} {R : Room} {s : State} {m : MethodId} {args : Array Value} {below : List Frame} {meth : Method} {c : Code} {G : Gt} {ρ0 : Int → Nat} {M0 : Mo} {res : RS} (F : Fx p l R s m args meth c cL_areDelivered 10 RL G M0 13 (some FieldType.boolean)) (hno : ∀ x ∈ c.exceptionTable.toList, False) (hnm : meth.name = yL_areDelivered.name) (x0 x1 x2 x3 x6 : Int) (M : Mo) (h : L_areDelivered_107 x0 x1 x2 x3 x6 M = some res) : J p l e R s m args below meth c 10 G ρ0 M0 1 res M 107 [(0, (false, x0)), (1, (false, x1)), (2, (false, x2)), (3, (false, x3)), (6, (true, x6))] [] := by
  unfold L_areDelivered_107 at h
  refine j_iconst F dL_areDelivered_107 ?_
  refine j_istore F (lv' := [(7, (true, 0)), (0, (false, x0)), (1, (false, x1)), (2, (false, x2)), (3, (false, x3)), (6, (true, x6))]) (by decide) rfl dL_areDelivered_108 ?_
  refine j_sub (lv' := [(0, (false, x0)), (1, (false, x1)), (2, (false, x2)), (3, (false, x3)), (6, (true, x6)), (7, (true, 0))]) [1, 2, 3, 4, 5, 0] rfl ?_
  exact w_L_areDelivered_110 F hno hnm FU x0 x1 x2 x3 x6 0 M h
set_option maxHeartbeats 4000000 in
set_option maxRecDepth 100000 in
theorem w_L_areDelivered_63 {p : Program} {l : Launch} {e : Env} {R : Room} {s : State} {m : MethodId} {args : Array Value} {below : List Frame} {meth : Method} {c : Code} {G : Gt} {ρ0 : Int → Nat} {M0 : Mo} {res : RS} (F : Fx p l R s m args meth c cL_areDelivered 10 RL G M0 13 (some FieldType.boolean)) (hno : ∀ x ∈ c.exceptionTable.toList, False) (hnm : meth.name = yL_areDelivered.name) (n : Nat) : ∀ (x0 x1 x2 x3 x6 x7 : Int) (M : Mo), L_areDelivered_63 n x0 x1 x2 x3 x6 x7 M = some res → J p l e R s m args below meth c 10 G ρ0 M0 1 res M 63 [(0, (false, x0)), (1, (false, x1)), (2, (false, x2)), (3, (false, x3)), (6, (true, x6)), (7, (true, x7))] [] := by
  induction n with
  | zero => intro x0 x1 x2 x3 x6 x7 M h; cases h
  | succ n ih =>
    intro x0 x1 x2 x3 x6 x7 M h
    rw [L_areDelivered_63] at h
    refine j_iload F 5 rfl dL_areDelivered_63 ?_
    refine j_bipush F (by decide) dL_areDelivered_65 ?_
    refine j_icmp_ge F 107 (by decide) dL_areDelivered_67 h (fun h => ?_) (fun h => ?_)
    · skip
      refine j_sub (lv' := [(0, (false, x0)), (1, (false, x1)), (2, (false, x2)), (3, (false, x3)), (6, (true, x6))]) [0, 1, 2, 3, 4] rfl ?_
      exact w_L_areDelivered_107 F hno hnm x0 x1 x2 x3 x6 M h
    · skip
      refine j_iload F 4 rfl dL_areDelivered_70 ?_
      refine j_if_eq F 107 (by decide) dL_areDelivered_72 h (fun h => ?_) (fun h => ?_)
      · skip
        refine j_sub (lv' := [(0, (false, x0)), (1, (false, x1)), (2, (false, x2)), (3, (false, x3)), (6, (true, x6))]) [0, 1, 2, 3, 4] rfl ?_
        exact w_L_areDelivered_107 F hno hnm x0 x1 x2 x3 x6 M h
      · skip
        refine j_aload_n F 0 rfl rfl dL_areDelivered_75 ?_
        refine j_iload F 5 rfl dL_areDelivered_76 ?_
        obtain ⟨g4, h⟩ := gua h
        refine j_callV (d' := 7) (argl := [(true, x7)]) (rk9 := 1) (st := []) F hno M_X11_waiting q1515 q1516 q1514 ⟨by decide, by decide⟩ (Nat.le_of_ble_eq_true rfl) (by decide) (ci := 12) rfl (by decide) g4 dL_areDelivered_78 rfl h (fun z hz => c_X11_waiting l F.ht G x0 x7 M z hz) (fun v1 M2 h kl3 => ?_)
        refine j_st (st' := [(true, v1)]) rfl ?_
        refine j_if_ne F 98 (by decide) dL_areDelivered_81 h (fun h => ?_) (fun h => ?_)
        · skip
          refine j_sub (lv' := [(0, (false, x0)), (1, (false, x1)), (2, (false, x2)), (3, (false, x3)), (7, (true, x7))]) [0, 1, 2, 3, 5] rfl ?_
          exact w_L_areDelivered_98 F hno hnm (L_areDelivered_63 n) ih x0 x1 x2 x3 x7 M2 h
        · skip
          refine j_aload_n F 0 rfl rfl dL_areDelivered_84 ?_
          refine j_iload F 5 rfl dL_areDelivered_85 ?_
          refine j_callV (d' := 12) (argl := [(true, x7)]) (rk9 := 1) (st := []) F hno M_X11_deliver q1350 q1351 q1349 ⟨by decide, by decide⟩ (Nat.le_of_ble_eq_true rfl) (by decide) (ci := 12) rfl (by decide) (kl3.is g4) dL_areDelivered_87 rfl h (fun z hz => c_X11_deliver l F.ht G x0 x7 M2 z hz) (fun v5 M6 h kl7 => ?_)
          refine j_st (st' := [(true, v5)]) rfl ?_
          refine j_iconst F dL_areDelivered_90 ?_
          refine j_icmp_ne F 98 (by decide) dL_areDelivered_91 h (fun h => ?_) (fun h => ?_)
          · skip
            refine j_sub (lv' := [(0, (false, x0)), (1, (false, x1)), (2, (false, x2)), (3, (false, x3)), (7, (true, x7))]) [0, 1, 2, 3, 5] rfl ?_
            exact w_L_areDelivered_98 F hno hnm (L_areDelivered_63 n) ih x0 x1 x2 x3 x7 M6 h
          · skip
            refine j_iconst F dL_areDelivered_94 ?_
            refine j_goto F 99 (by decide) dL_areDelivered_95 ?_
            refine j_sub (lv' := [(0, (false, x0)), (1, (false, x1)), (2, (false, x2)), (3, (false, x3)), (7, (true, x7))]) [0, 1, 2, 3, 5] rfl ?_
            exact w_L_areDelivered_99 F hno hnm (L_areDelivered_63 n) ih x0 x1 x2 x3 x7 1 M6 h
set_option maxHeartbeats 4000000 in
set_option maxRecDepth 100000 in
theorem w_L_areDelivered_58 {p : Program} {l : Launch} {e : Env} {R : Room} {s : State} {m : MethodId} {args : Array Value} {below : List Frame} {meth : Method} {c : Code} {G : Gt} {ρ0 : Int → Nat} {M0 : Mo} {res : RS} (F : Fx p l R s m args meth c cL_areDelivered 10 RL G M0 13 (some FieldType.boolean)) (hno : ∀ x ∈ c.exceptionTable.toList, False) (hnm : meth.name = yL_areDelivered.name) (x0 x1 x2 x3 y0 : Int) (M : Mo) (h : L_areDelivered_58 x0 x1 x2 x3 y0 M = some res) : J p l e R s m args below meth c 10 G ρ0 M0 1 res M 58 [(0, (false, x0)), (1, (false, x1)), (2, (false, x2)), (3, (false, x3))] [(true, y0)] := by
  unfold L_areDelivered_58 at h
  refine j_istore F (lv' := [(6, (true, y0)), (0, (false, x0)), (1, (false, x1)), (2, (false, x2)), (3, (false, x3))]) (by decide) rfl dL_areDelivered_58 ?_
  refine j_iconst F dL_areDelivered_60 ?_
  refine j_istore F (lv' := [(7, (true, 0)), (6, (true, y0)), (0, (false, x0)), (1, (false, x1)), (2, (false, x2)), (3, (false, x3))]) (by decide) rfl dL_areDelivered_61 ?_
  refine j_sub (lv' := [(0, (false, x0)), (1, (false, x1)), (2, (false, x2)), (3, (false, x3)), (6, (true, y0)), (7, (true, 0))]) [2, 3, 4, 5, 1, 0] rfl ?_
  exact w_L_areDelivered_63 F hno hnm FU x0 x1 x2 x3 y0 0 M h
set_option maxHeartbeats 4000000 in
set_option maxRecDepth 100000 in
theorem w_L_areDelivered_6 {p : Program} {l : Launch} {e : Env} {R : Room} {s : State} {m : MethodId} {args : Array Value} {below : List Frame} {meth : Method} {c : Code} {G : Gt} {ρ0 : Int → Nat} {M0 : Mo} {res : RS} (F : Fx p l R s m args meth c cL_areDelivered 10 RL G M0 13 (some FieldType.boolean)) (hno : ∀ x ∈ c.exceptionTable.toList, False) (hnm : meth.name = yL_areDelivered.name) (n : Nat) : ∀ (x0 x1 x2 x3 x4 x5 : Int) (M : Mo), L_areDelivered_6 n x0 x1 x2 x3 x4 x5 M = some res → J p l e R s m args below meth c 10 G ρ0 M0 1 res M 6 [(0, (false, x0)), (1, (false, x1)), (2, (false, x2)), (3, (false, x3)), (4, (true, x4)), (5, (true, x5))] [] := by
  induction n with
  | zero => intro x0 x1 x2 x3 x4 x5 M h; cases h
  | succ n ih =>
    intro x0 x1 x2 x3 x4 x5 M h
    rw [L_areDelivered_6] at h
    refine j_iload F 5 rfl dL_areDelivered_6 ?_
    refine j_bipush F (by decide) dL_areDelivered_8 ?_
    refine j_icmp_ge F 30 (by decide) dL_areDelivered_10 h (fun h => ?_) (fun h => ?_)
    · skip
      refine j_aload_n F 0 rfl rfl dL_areDelivered_30 ?_
      obtain ⟨g4, h⟩ := gua h
      refine j_callV (d' := 12) (argl := []) (rk9 := 1) (st := []) F hno M_X11_deliverAll q1608 q1609 q1607 ⟨by decide, by decide⟩ (Nat.le_of_ble_eq_true rfl) (by decide) (ci := 12) rfl (by decide) g4 dL_areDelivered_31 rfl h (fun z hz => c_X11_deliverAll l F.ht G x0 M z hz) (fun v1 M2 h kl3 => ?_)
      refine j_st (st' := [(true, v1)]) rfl ?_
      refine j_istore F (lv' := [(5, (true, v1)), (0, (false, x0)), (1, (false, x1)), (2, (false, x2)), (3, (false, x3)), (4, (true, x4))]) (by decide) rfl dL_areDelivered_34 ?_
      refine j_aload_n F 4 rfl rfl dL_areDelivered_36 ?_
      refine j_bipush F (by decide) dL_areDelivered_37 ?_
      refine j_iconst F dL_areDelivered_39 ?_
      obtain ⟨g5, h⟩ := gua h
      obtain ⟨g6, h⟩ := gua h
      refine j_iastore F g5 g6 dL_areDelivered_40 ?_
      obtain ⟨M7, hM7⟩ : ∃ Z, Z = sE M2 0 x3 (wr 6) 0 := ⟨_, rfl⟩
      have kl8 : kle M2 M7 := by rw [hM7]; exact kle_sE
      rw [← hM7]
      replace h := pt_as h hM7
      refine j_aload_n F 4 rfl rfl dL_areDelivered_41 ?_
      refine j_bipush F (by decide) dL_areDelivered_42 ?_
      refine j_iconst F dL_areDelivered_44 ?_
      obtain ⟨g9, h⟩ := gua h
      refine j_iastore F (kl8.is g5) g9 dL_areDelivered_45 ?_
      obtain ⟨M10, hM10⟩ : ∃ Z, Z = sE M7 0 x3 (wr 7) 0 := ⟨_, rfl⟩
      have kl11 : kle M7 M10 := by rw [hM10]; exact kle_sE
      rw [← hM10]
      replace h := pt_as h hM10
      refine j_iload F 0 rfl dL_areDelivered_46 ?_
      refine j_iload F 5 rfl dL_areDelivered_48 ?_
      refine j_icmp_lt F 57 (by decide) dL_areDelivered_50 h (fun h => ?_) (fun h => ?_)
      · skip
        refine j_iconst F dL_areDelivered_57 ?_
        refine j_sub (lv' := [(0, (false, x0)), (1, (false, x1)), (2, (false, x2)), (3, (false, x3))]) [1, 2, 3, 4] rfl ?_
        exact w_L_areDelivered_58 F hno hnm x0 x1 x2 x3 0 M10 h
      · skip
        refine j_iconst F dL_areDelivered_53 ?_
        refine j_goto F 58 (by decide) dL_areDelivered_54 ?_
        refine j_sub (lv' := [(0, (false, x0)), (1, (false, x1)), (2, (false, x2)), (3, (false, x3))]) [1, 2, 3, 4] rfl ?_
        exact w_L_areDelivered_58 F hno hnm x0 x1 x2 x3 1 M10 h
    · skip
      refine j_iload F 4 rfl dL_areDelivered_13 ?_
      refine j_aload_n F 0 rfl rfl dL_areDelivered_15 ?_
      refine j_iload F 5 rfl dL_areDelivered_16 ?_
      obtain ⟨g15, h⟩ := gua h
      refine j_callV (d' := 7) (argl := [(true, x5)]) (rk9 := 1) (st := [(true, x4)]) F hno M_X11_waiting q1515 q1516 q1514 ⟨by decide, by decide⟩ (Nat.le_of_ble_eq_true rfl) (by decide) (ci := 12) rfl (by decide) g15 dL_areDelivered_18 rfl h (fun z hz => c_X11_waiting l F.ht G x0 x5 M z hz) (fun v12 M13 h kl14 => ?_)
      refine j_st (st' := [(true, v12), (true, x4)]) rfl ?_
      refine j_iadd F dL_areDelivered_21 ?_
      refine j_istore F (lv' := [(4, (true, (x4 + v12))), (0, (false, x0)), (1, (false, x1)), (2, (false, x2)), (3, (false, x3)), (5, (true, x5))]) (by decide) rfl dL_areDelivered_22 ?_
      refine j_iinc F 5 (lv' := [(5, (true, (x5 + 1))), (4, (true, (x4 + v12))), (0, (false, x0)), (1, (false, x1)), (2, (false, x2)), (3, (false, x3))]) rfl (by decide) rfl dL_areDelivered_24 ?_
      refine j_goto F 6 (by decide) dL_areDelivered_27 ?_
      refine j_sub (lv' := [(0, (false, x0)), (1, (false, x1)), (2, (false, x2)), (3, (false, x3)), (4, (true, (x4 + v12))), (5, (true, (x5 + 1)))]) [2, 3, 4, 5, 1, 0] rfl ?_
      exact ih x0 x1 x2 x3 (x4 + v12) (x5 + 1) M13 h
set_option maxHeartbeats 4000000 in
set_option maxRecDepth 100000 in
theorem w_L_areDelivered_0 {p : Program} {l : Launch} {e : Env} {R : Room} {s : State} {m : MethodId} {args : Array Value} {below : List Frame} {meth : Method} {c : Code} {G : Gt} {ρ0 : Int → Nat} {M0 : Mo} {res : RS} (F : Fx p l R s m args meth c cL_areDelivered 10 RL G M0 13 (some FieldType.boolean)) (hno : ∀ x ∈ c.exceptionTable.toList, False) (hnm : meth.name = yL_areDelivered.name) (x0 x1 x2 x3 : Int) (M : Mo) (h : L_areDelivered x0 x1 x2 x3 M = some res) : J p l e R s m args below meth c 10 G ρ0 M0 1 res M 0 [(0, (false, x0)), (1, (false, x1)), (2, (false, x2)), (3, (false, x3))] [] := by
  unfold L_areDelivered at h
  refine j_iconst F dL_areDelivered_0 ?_
  refine j_istore F (lv' := [(4, (true, 0)), (0, (false, x0)), (1, (false, x1)), (2, (false, x2)), (3, (false, x3))]) (by decide) rfl dL_areDelivered_1 ?_
  refine j_iconst F dL_areDelivered_3 ?_
  refine j_istore F (lv' := [(5, (true, 0)), (4, (true, 0)), (0, (false, x0)), (1, (false, x1)), (2, (false, x2)), (3, (false, x3))]) (by decide) rfl dL_areDelivered_4 ?_
  refine j_sub (lv' := [(0, (false, x0)), (1, (false, x1)), (2, (false, x2)), (3, (false, x3)), (4, (true, 0)), (5, (true, 0))]) [2, 3, 4, 5, 1, 0] rfl ?_
  exact w_L_areDelivered_6 F hno hnm FU x0 x1 x2 x3 0 0 M h
theorem c_L_areDelivered (l : Launch) (hl : l.stackTraces = false) (G : Gt) (x0 x1 x2 x3 : Int) (M : Mo) (z : RS) (h : L_areDelivered x0 x1 x2 x3 M = some z) : CT l G yL_areDelivered (cn yL_areDelivered cL_areDelivered 10 (some FieldType.boolean)) 13 [(false, x0), (false, x1), (false, x2), (false, x3)] M 1 z :=
  ctOf hl (by decide) (Nat.le_of_ble_eq_true rfl) (fun p e R s m args below meth c ρ F hno hnm => w_L_areDelivered_0 F hno hnm x0 x1 x2 x3 M h)
theorem dL_isBegin_0 : decode cL_isBegin 0 = .ok (.iload_n 2, 1) := by decide +kernel
theorem dL_isBegin_1 : decode cL_isBegin 1 = .ok (.iconst 1, 1) := by decide +kernel
theorem dL_isBegin_2 : decode cL_isBegin 2 = .ok (.if_icmp .eq 31, 3) := by decide +kernel
theorem dL_isBegin_5 : decode cL_isBegin 5 = .ok (.aload_n 0, 1) := by decide +kernel
theorem dL_isBegin_6 : decode cL_isBegin 6 = .ok (.iload_n 1, 1) := by decide +kernel
theorem dL_isBegin_7 : decode cL_isBegin 7 = .ok (.iaload, 1) := by decide +kernel
set_option maxRecDepth 100000 in
theorem q1656 : Cond.code yL_isLetter cL_isLetter 1 (some FieldType.boolean) ∈ GT := gt 1656 (rfl) (by decide +kernel)
theorem M_L_isLetter : MY yL_isLetter cL_isLetter 1 (some FieldType.boolean) 1 := ⟨q1656, q52, by decide +kernel, by decide +kernel⟩
set_option maxRecDepth 100000 in
theorem q1655 : Cond.static yL_isLetter ∈ GT := gt 1655 (by decide +kernel) (by decide +kernel)
set_option maxRecDepth 100000 in
theorem q1654 : Cond.methodLink RL 132 yL_isLetter ∈ GT := gt 1654 (by decide +kernel) (by decide +kernel)
theorem dL_isBegin_8 : decode cL_isBegin 8 = .ok (.invokestatic 132, 3) := by decide +kernel
theorem dL_isBegin_11 : decode cL_isBegin 11 = .ok (.ifCond .eq 22, 3) := by decide +kernel
theorem dL_isBegin_14 : decode cL_isBegin 14 = .ok (.iload_n 1, 1) := by decide +kernel
theorem dL_isBegin_15 : decode cL_isBegin 15 = .ok (.ifCond .eq 14, 3) := by decide +kernel
theorem dL_isBegin_18 : decode cL_isBegin 18 = .ok (.aload_n 0, 1) := by decide +kernel
theorem dL_isBegin_19 : decode cL_isBegin 19 = .ok (.iload_n 1, 1) := by decide +kernel
theorem dL_isBegin_20 : decode cL_isBegin 20 = .ok (.iconst 1, 1) := by decide +kernel
theorem dL_isBegin_21 : decode cL_isBegin 21 = .ok (.isub, 1) := by decide +kernel
theorem dL_isBegin_22 : decode cL_isBegin 22 = .ok (.iaload, 1) := by decide +kernel
theorem dL_isBegin_23 : decode cL_isBegin 23 = .ok (.invokestatic 132, 3) := by decide +kernel
theorem dL_isBegin_26 : decode cL_isBegin 26 = .ok (.ifCond .ne 7, 3) := by decide +kernel
theorem dL_isBegin_29 : decode cL_isBegin 29 = .ok (.iconst 1, 1) := by decide +kernel
theorem dL_isBegin_30 : decode cL_isBegin 30 = .ok (.goto 4, 3) := by decide +kernel
theorem dL_isBegin_33 : decode cL_isBegin 33 = .ok (.iconst 0, 1) := by decide +kernel
theorem dL_isBegin_34 : decode cL_isBegin 34 = .ok (.istore_n 3, 1) := by decide +kernel
theorem dL_isBegin_35 : decode cL_isBegin 35 = .ok (.iload_n 3, 1) := by decide +kernel
theorem dL_isBegin_36 : decode cL_isBegin 36 = .ok (.ifCond .ne 31, 3) := by decide +kernel
theorem dL_isBegin_67 : decode cL_isBegin 67 = .ok (.iconst 1, 1) := by decide +kernel
theorem dL_isBegin_68 : decode cL_isBegin 68 = .ok (.goto 4, 3) := by decide +kernel
theorem dL_isBegin_72 : decode cL_isBegin 72 = .ok (.ireturn, 1) := by decide +kernel
theorem dL_isBegin_39 : decode cL_isBegin 39 = .ok (.iload_n 2, 1) := by decide +kernel
theorem dL_isBegin_40 : decode cL_isBegin 40 = .ok (.ifCond .eq 31, 3) := by decide +kernel
theorem dL_isBegin_71 : decode cL_isBegin 71 = .ok (.iconst 0, 1) := by decide +kernel
theorem dL_isBegin_43 : decode cL_isBegin 43 = .ok (.aload_n 0, 1) := by decide +kernel
theorem dL_isBegin_44 : decode cL_isBegin 44 = .ok (.iload_n 1, 1) := by decide +kernel
theorem dL_isBegin_45 : decode cL_isBegin 45 = .ok (.iaload, 1) := by decide +kernel
set_option maxRecDepth 100000 in
theorem q1659 : Cond.code yL_isDigit cL_isDigit 1 (some FieldType.boolean) ∈ GT := gt 1659 (rfl) (by decide +kernel)
theorem M_L_isDigit : MY yL_isDigit cL_isDigit 1 (some FieldType.boolean) 1 := ⟨q1659, q52, by decide +kernel, by decide +kernel⟩
set_option maxRecDepth 100000 in
theorem q1658 : Cond.static yL_isDigit ∈ GT := gt 1658 (by decide +kernel) (by decide +kernel)
set_option maxRecDepth 100000 in
theorem q1657 : Cond.methodLink RL 135 yL_isDigit ∈ GT := gt 1657 (by decide +kernel) (by decide +kernel)
theorem dL_isBegin_46 : decode cL_isBegin 46 = .ok (.invokestatic 135, 3) := by decide +kernel
theorem dL_isBegin_49 : decode cL_isBegin 49 = .ok (.ifCond .eq 22, 3) := by decide +kernel
theorem dL_isBegin_52 : decode cL_isBegin 52 = .ok (.iload_n 1, 1) := by decide +kernel
theorem dL_isBegin_53 : decode cL_isBegin 53 = .ok (.ifCond .eq 14, 3) := by decide +kernel
theorem dL_isBegin_56 : decode cL_isBegin 56 = .ok (.aload_n 0, 1) := by decide +kernel
theorem dL_isBegin_57 : decode cL_isBegin 57 = .ok (.iload_n 1, 1) := by decide +kernel
theorem dL_isBegin_58 : decode cL_isBegin 58 = .ok (.iconst 1, 1) := by decide +kernel
theorem dL_isBegin_59 : decode cL_isBegin 59 = .ok (.isub, 1) := by decide +kernel
theorem dL_isBegin_60 : decode cL_isBegin 60 = .ok (.iaload, 1) := by decide +kernel
theorem dL_isBegin_61 : decode cL_isBegin 61 = .ok (.invokestatic 135, 3) := by decide +kernel
theorem dL_isBegin_64 : decode cL_isBegin 64 = .ok (.ifCond .ne 7, 3) := by decide +kernel
set_option maxHeartbeats 4000000 in
set_option maxRecDepth 100000 in
theorem w_L_isBegin_34 {p : Program} {l : Launch} {e : Env} {R : Room} {s : State} {m : MethodId} {args : Array Value} {below : List Frame} {meth : Method} {c : Code} {G : Gt} {ρ0 : Int → Nat} {M0 : Mo} {res : RS} (F : Fx p l R s m args meth c cL_isBegin 4 RL G M0 1 (some FieldType.boolean)) (hno : ∀ x ∈ c.exceptionTable.toList, False) (hnm : meth.name = yL_isBegin.name) (x0 x1 x2 y0 : Int) (M : Mo) (h : L_isBegin_34 x0 x1 x2 y0 M = some res) : J p l e R s m args below meth c 4 G ρ0 M0 1 res M 34 [(0, (false, x0)), (1, (true, x1)), (2, (true, x2))] [(true, y0)] := by
  unfold L_isBegin_34 at h
  refine j_istore_n F (lv' := [(3, (true, y0)), (0, (false, x0)), (1, (true, x1)), (2, (true, x2))]) rfl (by decide) rfl dL_isBegin_34 ?_
  refine j_iload_n F 0 rfl rfl dL_isBegin_35 ?_
  refine j_if_ne F 67 (by decide) dL_isBegin_36 h (fun h => ?_) (fun h => ?_)
  · skip
    refine j_iconst F dL_isBegin_67 ?_
    refine j_goto F 72 (by decide) dL_isBegin_68 ?_
    exact j_zret F (by decide) h dL_isBegin_72
  · skip
    refine j_iload_n F 3 rfl rfl dL_isBegin_39 ?_
    refine j_if_eq F 71 (by decide) dL_isBegin_40 h (fun h => ?_) (fun h => ?_)
    · skip
      refine j_iconst F dL_isBegin_71 ?_
      exact j_zret F (by decide) h dL_isBegin_72
    · skip
      refine j_aload_n F 1 rfl rfl dL_isBegin_43 ?_
      refine j_iload_n F 2 rfl rfl dL_isBegin_44 ?_
      obtain ⟨g1, h⟩ := gua h
      obtain ⟨g2, h⟩ := gua h
      refine j_iaload F g1 g2 dL_isBegin_45 ?_
      refine j_callS (d' := 0) (argl := [(true, (el M 0 x0 (wr x1)))]) (rk9 := 1) (st := []) F hno M_L_isDigit q1658 q1657 ⟨by decide, by decide⟩ (Nat.le_of_ble_eq_true rfl) (by decide) dL_isBegin_46 rfl h (fun z hz => c_L_isDigit l F.ht G (el M 0 x0 (wr x1)) M z hz) (fun v3 M4 h kl5 => ?_)
      refine j_st (st' := [(true, v3)]) rfl ?_
      refine j_if_eq F 71 (by decide) dL_isBegin_49 h (fun h => ?_) (fun h => ?_)
      · skip
        refine j_iconst F dL_isBegin_71 ?_
        exact j_zret F (by decide) h dL_isBegin_72
      · skip
        refine j_iload_n F 2 rfl rfl dL_isBegin_52 ?_
        refine j_if_eq F 67 (by decide) dL_isBegin_53 h (fun h => ?_) (fun h => ?_)
        · skip
          refine j_iconst F dL_isBegin_67 ?_
          refine j_goto F 72 (by decide) dL_isBegin_68 ?_
          exact j_zret F (by decide) h dL_isBegin_72
        · skip
          refine j_aload_n F 1 rfl rfl dL_isBegin_56 ?_
          refine j_iload_n F 2 rfl rfl dL_isBegin_57 ?_
          refine j_iconst F dL_isBegin_58 ?_
          refine j_isub F dL_isBegin_59 ?_
          obtain ⟨g6, h⟩ := gua h
          refine j_iaload F (kl5.is g1) g6 dL_isBegin_60 ?_
          refine j_callS (d' := 0) (argl := [(true, (el M4 0 x0 (wr (x1 - 1))))]) (rk9 := 1) (st := []) F hno M_L_isDigit q1658 q1657 ⟨by decide, by decide⟩ (Nat.le_of_ble_eq_true rfl) (by decide) dL_isBegin_61 rfl h (fun z hz => c_L_isDigit l F.ht G (el M4 0 x0 (wr (x1 - 1))) M4 z hz) (fun v7 M8 h kl9 => ?_)
          refine j_st (st' := [(true, v7)]) rfl ?_
          refine j_if_ne F 71 (by decide) dL_isBegin_64 h (fun h => ?_) (fun h => ?_)
          · skip
            refine j_iconst F dL_isBegin_71 ?_
            exact j_zret F (by decide) h dL_isBegin_72
          · skip
            refine j_iconst F dL_isBegin_67 ?_
            refine j_goto F 72 (by decide) dL_isBegin_68 ?_
            exact j_zret F (by decide) h dL_isBegin_72
set_option maxHeartbeats 4000000 in
set_option maxRecDepth 100000 in
theorem w_L_isBegin_29 {p : Program} {l : Launch} {e : Env} {R : Room} {s : State} {m : MethodId} {args : Array Value} {below : List Frame} {meth : Method} {c : Code} {G : Gt} {ρ0 : Int → Nat} {M0 : Mo} {res : RS} (F : Fx p l R s m args meth c cL_isBegin 4 RL G M0 1 (some FieldType.boolean)) (hno : ∀ x ∈ c.exceptionTable.toList, False) (hnm : meth.name = yL_isBegin.name) (x0 x1 x2 : Int) (M : Mo) (h : L_isBegin_29 x0 x1 x2 M = some res) : J p l e R s m args below meth c 4 G ρ0 M0 1 res M 29 [(0, (false, x0)), (1, (true, x1)), (2, (true, x2))] [] := by
  unfold L_isBegin_29 at h
  refine j_iconst F dL_isBegin_29 ?_
  refine j_goto F 34 (by decide) dL_isBegin_30 ?_
  refine j_sub (lv' := [(0, (false, x0)), (1, (true, x1)), (2, (true, x2))]) [0, 1, 2] rfl ?_
  exact w_L_isBegin_34 F hno hnm x0 x1 x2 1 M h
set_option maxHeartbeats 4000000 in
set_option maxRecDepth 100000 in
theorem w_L_isBegin_33 {p : Program} {l : Launch} {e : Env} {R : Room} {s : State} {m : MethodId} {args : Array Value} {below : List Frame} {meth : Method} {c : Code} {G : Gt} {ρ0 : Int → Nat} {M0 : Mo} {res : RS} (F : Fx p l R s m args meth c cL_isBegin 4 RL G M0 1 (some FieldType.boolean)) (hno : ∀ x ∈ c.exceptionTable.toList, False) (hnm : meth.name = yL_isBegin.name) (x0 x1 x2 : Int) (M : Mo) (h : L_isBegin_33 x0 x1 x2 M = some res) : J p l e R s m args below meth c 4 G ρ0 M0 1 res M 33 [(0, (false, x0)), (1, (true, x1)), (2, (true, x2))] [] := by
  unfold L_isBegin_33 at h
  refine j_iconst F dL_isBegin_33 ?_
  refine j_sub (lv' := [(0, (false, x0)), (1, (true, x1)), (2, (true, x2))]) [0, 1, 2] rfl ?_
  exact w_L_isBegin_34 F hno hnm x0 x1 x2 0 M h
set_option maxHeartbeats 4000000 in
set_option maxRecDepth 100000 in
theorem w_L_isBegin_0 {p : Program} {l : Launch} {e : Env} {R : Room} {s : State} {m : MethodId} {args : Array Value} {below : List Frame} {meth : Method} {c : Code} {G : Gt} {ρ0 : Int → Nat} {M0 : Mo} {res : RS} (F : Fx p l R s m args meth c cL_isBegin 4 RL G M0 1 (some FieldType.boolean)) (hno : ∀ x ∈ c.exceptionTable.toList, False) (hnm : meth.name = yL_isBegin.name) (x0 x1 x2 : Int) (M : Mo) (h : L_isBegin x0 x1 x2 M = some res) : J p l e R s m args below meth c 4 G ρ0 M0 1 res M 0 [(0, (false, x0)), (1, (true, x1)), (2, (true, x2))] [] := by
  unfold L_isBegin at h
  refine j_iload_n F 2 rfl rfl dL_isBegin_0 ?_
  refine j_iconst F dL_isBegin_1 ?_
  refine j_icmp_eq F 33 (by decide) dL_isBegin_2 h (fun h => ?_) (fun h => ?_)
  · skip
    refine j_sub (lv' := [(0, (false, x0)), (1, (true, x1)), (2, (true, x2))]) [0, 1, 2] rfl ?_
    exact w_L_isBegin_33 F hno hnm x0 x1 x2 M h
  · skip
    refine j_aload_n F 0 rfl rfl dL_isBegin_5 ?_
    refine j_iload_n F 1 rfl rfl dL_isBegin_6 ?_
    obtain ⟨g1, h⟩ := gua h
    obtain ⟨g2, h⟩ := gua h
    refine j_iaload F g1 g2 dL_isBegin_7 ?_
    refine j_callS (d' := 0) (argl := [(true, (el M 0 x0 (wr x1)))]) (rk9 := 1) (st := []) F hno M_L_isLetter q1655 q1654 ⟨by decide, by decide⟩ (Nat.le_of_ble_eq_true rfl) (by decide) dL_isBegin_8 rfl h (fun z hz => c_L_isLetter l F.ht G (el M 0 x0 (wr x1)) M z hz) (fun v3 M4 h kl5 => ?_)
    refine j_st (st' := [(true, v3)]) rfl ?_
    refine j_if_eq F 33 (by decide) dL_isBegin_11 h (fun h => ?_) (fun h => ?_)
    · skip
      refine j_sub (lv' := [(0, (false, x0)), (1, (true, x1)), (2, (true, x2))]) [0, 1, 2] rfl ?_
      exact w_L_isBegin_33 F hno hnm x0 x1 x2 M4 h
    · skip
      refine j_iload_n F 1 rfl rfl dL_isBegin_14 ?_
      refine j_if_eq F 29 (by decide) dL_isBegin_15 h (fun h => ?_) (fun h => ?_)
      · skip
        refine j_sub (lv' := [(0, (false, x0)), (1, (true, x1)), (2, (true, x2))]) [0, 1, 2] rfl ?_
        exact w_L_isBegin_29 F hno hnm x0 x1 x2 M4 h
      · skip
        refine j_aload_n F 0 rfl rfl dL_isBegin_18 ?_
        refine j_iload_n F 1 rfl rfl dL_isBegin_19 ?_
        refine j_iconst F dL_isBegin_20 ?_
        refine j_isub F dL_isBegin_21 ?_
        obtain ⟨g6, h⟩ := gua h
        refine j_iaload F (kl5.is g1) g6 dL_isBegin_22 ?_
        refine j_callS (d' := 0) (argl := [(true, (el M4 0 x0 (wr (x1 - 1))))]) (rk9 := 1) (st := []) F hno M_L_isLetter q1655 q1654 ⟨by decide, by decide⟩ (Nat.le_of_ble_eq_true rfl) (by decide) dL_isBegin_23 rfl h (fun z hz => c_L_isLetter l F.ht G (el M4 0 x0 (wr (x1 - 1))) M4 z hz) (fun v7 M8 h kl9 => ?_)
        refine j_st (st' := [(true, v7)]) rfl ?_
        refine j_if_ne F 33 (by decide) dL_isBegin_26 h (fun h => ?_) (fun h => ?_)
        · skip
          refine j_sub (lv' := [(0, (false, x0)), (1, (true, x1)), (2, (true, x2))]) [0, 1, 2] rfl ?_
          exact w_L_isBegin_33 F hno hnm x0 x1 x2 M8 h
        · skip
          refine j_sub (lv' := [(0, (false, x0)), (1, (true, x1)), (2, (true, x2))]) [0, 1, 2] rfl ?_
          exact w_L_isBegin_29 F hno hnm x0 x1 x2 M8 h
theorem c_L_isBegin (l : Launch) (hl : l.stackTraces = false) (G : Gt) (x0 x1 x2 : Int) (M : Mo) (z : RS) (h : L_isBegin x0 x1 x2 M = some z) : CT l G yL_isBegin (cn yL_isBegin cL_isBegin 4 (some FieldType.boolean)) 1 [(false, x0), (true, x1), (true, x2)] M 1 z :=
  ctOf hl (by decide) (Nat.le_of_ble_eq_true rfl) (fun p e R s m args below meth c ρ F hno hnm => w_L_isBegin_0 F hno hnm x0 x1 x2 M h)
theorem dL_behind_0 : decode cL_behind 0 = .ok (.aload_n 0, 1) := by decide +kernel
theorem dL_behind_1 : decode cL_behind 1 = .ok (.iload_n 1, 1) := by decide +kernel
theorem dL_behind_2 : decode cL_behind 2 = .ok (.iaload, 1) := by decide +kernel
theorem dL_behind_3 : decode cL_behind 3 = .ok (.invokestatic 132, 3) := by decide +kernel
theorem dL_behind_6 : decode cL_behind 6 = .ok (.istore_n 2, 1) := by decide +kernel
theorem dL_behind_7 : decode cL_behind 7 = .ok (.iload_n 1, 1) := by decide +kernel
theorem dL_behind_8 : decode cL_behind 8 = .ok (.istore_n 3, 1) := by decide +kernel
theorem dL_behind_9 : decode cL_behind 9 = .ok (.iload_n 3, 1) := by decide +kernel
theorem dL_behind_10 : decode cL_behind 10 = .ok (.aload_n 0, 1) := by decide +kernel
theorem dL_behind_11 : decode cL_behind 11 = .ok (.bipush 63, 2) := by decide +kernel
theorem dL_behind_13 : decode cL_behind 13 = .ok (.iaload, 1) := by decide +kernel
theorem dL_behind_14 : decode cL_behind 14 = .ok (.if_icmp .ge 34, 3) := by decide +kernel
theorem dL_behind_48 : decode cL_behind 48 = .ok (.iload_n 3, 1) := by decide +kernel
theorem dL_behind_49 : decode cL_behind 49 = .ok (.ireturn, 1) := by decide +kernel
theorem dL_behind_17 : decode cL_behind 17 = .ok (.iload_n 2, 1) := by decide +kernel
theorem dL_behind_18 : decode cL_behind 18 = .ok (.ifCond .eq 15, 3) := by decide +kernel
theorem dL_behind_33 : decode cL_behind 33 = .ok (.aload_n 0, 1) := by decide +kernel
theorem dL_behind_34 : decode cL_behind 34 = .ok (.iload_n 3, 1) := by decide +kernel
theorem dL_behind_35 : decode cL_behind 35 = .ok (.iaload, 1) := by decide +kernel
theorem dL_behind_36 : decode cL_behind 36 = .ok (.invokestatic 135, 3) := by decide +kernel
theorem dL_behind_39 : decode cL_behind 39 = .ok (.ifCond .eq 9, 3) := by decide +kernel
theorem dL_behind_21 : decode cL_behind 21 = .ok (.aload_n 0, 1) := by decide +kernel
theorem dL_behind_22 : decode cL_behind 22 = .ok (.iload_n 3, 1) := by decide +kernel
theorem dL_behind_23 : decode cL_behind 23 = .ok (.iaload, 1) := by decide +kernel
theorem dL_behind_24 : decode cL_behind 24 = .ok (.invokestatic 132, 3) := by decide +kernel
theorem dL_behind_27 : decode cL_behind 27 = .ok (.ifCond .eq 21, 3) := by decide +kernel
theorem dL_behind_30 : decode cL_behind 30 = .ok (.goto 12, 3) := by decide +kernel
theorem dL_behind_42 : decode cL_behind 42 = .ok (.iinc 3 1, 3) := by decide +kernel
theorem dL_behind_45 : decode cL_behind 45 = .ok (.goto (-36), 3) := by decide +kernel
set_option maxHeartbeats 4000000 in
set_option maxRecDepth 100000 in
theorem w_L_behind_42 {p : Program} {l : Launch} {e : Env} {R : Room} {s : State} {m : MethodId} {args : Array Value} {below : List Frame} {meth : Method} {c : Code} {G : Gt} {ρ0 : Int → Nat} {M0 : Mo} {res : RS} (F : Fx p l R s m args meth c cL_behind 4 RL G M0 1 (some FieldType.int)) (hno : ∀ x ∈ c.exceptionTable.toList, False) (hnm : meth.name = yL_behind.name) (k9 : Int → Int → Int → Mo → Option RS) (hk9 : ∀ (x0 x2 x3 : Int) (M : Mo), k9 x0 x2 x3 M = some res → J p l e R s m args below meth c 4 G ρ0 M0 1 res M 9 [(0, (false, x0)), (2, (true, x2)), (3, (true, x3))] []) (x0 x2 x3 : Int) (M : Mo) (h : L_behind_42 k9 x0 x2 x3 M = some res) : J p l e R s m args below meth c 4 G ρ0 M0 1 res M 42 [(0, (false, x0)), (2, (true, x2)), (3, (true, x3))] [] := by
  unfold L_behind_42 at h
  refine j_iinc F 2 (lv' := [(3, (true, (x3 + 1))), (0, (false, x0)), (2, (true, x2))]) rfl (by decide) rfl dL_behind_42 ?_
  refine j_goto F 9 (by decide) dL_behind_45 ?_
  refine j_sub (lv' := [(0, (false, x0)), (2, (true, x2)), (3, (true, (x3 + 1)))]) [1, 2, 0] rfl ?_
  exact hk9 x0 x2 (x3 + 1) M h
set_option maxHeartbeats 4000000 in
set_option maxRecDepth 100000 in
theorem w_L_behind_9 {p : Program} {l : Launch} {e : Env} {R : Room} {s : State} {m : MethodId} {args : Array Value} {below : List Frame} {meth : Method} {c : Code} {G : Gt} {ρ0 : Int → Nat} {M0 : Mo} {res : RS} (F : Fx p l R s m args meth c cL_behind 4 RL G M0 1 (some FieldType.int)) (hno : ∀ x ∈ c.exceptionTable.toList, False) (hnm : meth.name = yL_behind.name) (n : Nat) : ∀ (x0 x2 x3 : Int) (M : Mo), L_behind_9 n x0 x2 x3 M = some res → J p l e R s m args below meth c 4 G ρ0 M0 1 res M 9 [(0, (false, x0)), (2, (true, x2)), (3, (true, x3))] [] := by
  induction n with
  | zero => intro x0 x2 x3 M h; cases h
  | succ n ih =>
    intro x0 x2 x3 M h
    rw [L_behind_9] at h
    refine j_iload_n F 2 rfl rfl dL_behind_9 ?_
    refine j_aload_n F 0 rfl rfl dL_behind_10 ?_
    refine j_bipush F (by decide) dL_behind_11 ?_
    obtain ⟨g1, h⟩ := gua h
    obtain ⟨g2, h⟩ := gua h
    refine j_iaload F g1 g2 dL_behind_13 ?_
    refine j_icmp_ge F 48 (by decide) dL_behind_14 h (fun h => ?_) (fun h => ?_)
    · skip
      refine j_iload_n F 2 rfl rfl dL_behind_48 ?_
      exact j_iret F h dL_behind_49
    · skip
      refine j_iload_n F 1 rfl rfl dL_behind_17 ?_
      refine j_if_eq F 33 (by decide) dL_behind_18 h (fun h => ?_) (fun h => ?_)
      · skip
        refine j_aload_n F 0 rfl rfl dL_behind_33 ?_
        refine j_iload_n F 2 rfl rfl dL_behind_34 ?_
        obtain ⟨g3, h⟩ := gua h
        refine j_iaload F g1 g3 dL_behind_35 ?_
        refine j_callS (d' := 0) (argl := [(true, (el M 0 x0 (wr x3)))]) (rk9 := 1) (st := []) F hno M_L_isDigit q1658 q1657 ⟨by decide, by decide⟩ (Nat.le_of_ble_eq_true rfl) (by decide) dL_behind_36 rfl h (fun z hz => c_L_isDigit l F.ht G (el M 0 x0 (wr x3)) M z hz) (fun v4 M5 h kl6 => ?_)
        refine j_st (st' := [(true, v4)]) rfl ?_
        refine j_if_eq F 48 (by decide) dL_behind_39 h (fun h => ?_) (fun h => ?_)
        · skip
          refine j_iload_n F 2 rfl rfl dL_behind_48 ?_
          exact j_iret F h dL_behind_49
        · skip
          refine j_sub (lv' := [(0, (false, x0)), (2, (true, x2)), (3, (true, x3))]) [0, 1, 2] rfl ?_
          exact w_L_behind_42 F hno hnm (L_behind_9 n) ih x0 x2 x3 M5 h
      · skip
        refine j_aload_n F 0 rfl rfl dL_behind_21 ?_
        refine j_iload_n F 2 rfl rfl dL_behind_22 ?_
        obtain ⟨g7, h⟩ := gua h
        refine j_iaload F g1 g7 dL_behind_23 ?_
        refine j_callS (d' := 0) (argl := [(true, (el M 0 x0 (wr x3)))]) (rk9 := 1) (st := []) F hno M_L_isLetter q1655 q1654 ⟨by decide, by decide⟩ (Nat.le_of_ble_eq_true rfl) (by decide) dL_behind_24 rfl h (fun z hz => c_L_isLetter l F.ht G (el M 0 x0 (wr x3)) M z hz) (fun v8 M9 h kl10 => ?_)
        refine j_st (st' := [(true, v8)]) rfl ?_
        refine j_if_eq F 48 (by decide) dL_behind_27 h (fun h => ?_) (fun h => ?_)
        · skip
          refine j_iload_n F 2 rfl rfl dL_behind_48 ?_
          exact j_iret F h dL_behind_49
        · skip
          refine j_goto F 42 (by decide) dL_behind_30 ?_
          refine j_sub (lv' := [(0, (false, x0)), (2, (true, x2)), (3, (true, x3))]) [0, 1, 2] rfl ?_
          exact w_L_behind_42 F hno hnm (L_behind_9 n) ih x0 x2 x3 M9 h
set_option maxHeartbeats 4000000 in
set_option maxRecDepth 100000 in
theorem w_L_behind_0 {p : Program} {l : Launch} {e : Env} {R : Room} {s : State} {m : MethodId} {args : Array Value} {below : List Frame} {meth : Method} {c : Code} {G : Gt} {ρ0 : Int → Nat} {M0 : Mo} {res : RS} (F : Fx p l R s m args meth c cL_behind 4 RL G M0 1 (some FieldType.int)) (hno : ∀ x ∈ c.exceptionTable.toList, False) (hnm : meth.name = yL_behind.name) (x0 x1 : Int) (M : Mo) (h : L_behind x0 x1 M = some res) : J p l e R s m args below meth c 4 G ρ0 M0 1 res M 0 [(0, (false, x0)), (1, (true, x1))] [] := by
  unfold L_behind at h
  refine j_aload_n F 0 rfl rfl dL_behind_0 ?_
  refine j_iload_n F 1 rfl rfl dL_behind_1 ?_
  obtain ⟨g1, h⟩ := gua h
  obtain ⟨g2, h⟩ := gua h
  refine j_iaload F g1 g2 dL_behind_2 ?_
  refine j_callS (d' := 0) (argl := [(true, (el M 0 x0 (wr x1)))]) (rk9 := 1) (st := []) F hno M_L_isLetter q1655 q1654 ⟨by decide, by decide⟩ (Nat.le_of_ble_eq_true rfl) (by decide) dL_behind_3 rfl h (fun z hz => c_L_isLetter l F.ht G (el M 0 x0 (wr x1)) M z hz) (fun v3 M4 h kl5 => ?_)
  refine j_st (st' := [(true, v3)]) rfl ?_
  refine j_istore_n F (lv' := [(2, (true, v3)), (0, (false, x0)), (1, (true, x1))]) rfl (by decide) rfl dL_behind_6 ?_
  refine j_iload_n F 2 rfl rfl dL_behind_7 ?_
  refine j_istore_n F (lv' := [(3, (true, x1)), (2, (true, v3)), (0, (false, x0)), (1, (true, x1))]) rfl (by decide) rfl dL_behind_8 ?_
  refine j_sub (lv' := [(0, (false, x0)), (2, (true, v3)), (3, (true, x1))]) [2, 1, 0] rfl ?_
  exact w_L_behind_9 F hno hnm FU x0 v3 x1 M4 h
theorem c_L_behind (l : Launch) (hl : l.stackTraces = false) (G : Gt) (x0 x1 : Int) (M : Mo) (z : RS) (h : L_behind x0 x1 M = some z) : CT l G yL_behind (cn yL_behind cL_behind 4 (some FieldType.int)) 1 [(false, x0), (true, x1)] M 1 z :=
  ctOf hl (by decide) (Nat.le_of_ble_eq_true rfl) (fun p e R s m args below meth c ρ F hno hnm => w_L_behind_0 F hno hnm x0 x1 M h)
theorem dL_runAt_0 : decode cL_runAt 0 = .ok (.iconst 0, 1) := by decide +kernel
theorem dL_runAt_1 : decode cL_runAt 1 = .ok (.istore_n 3, 1) := by decide +kernel
theorem dL_runAt_2 : decode cL_runAt 2 = .ok (.iload_n 3, 1) := by decide +kernel
theorem dL_runAt_3 : decode cL_runAt 3 = .ok (.aload_n 0, 1) := by decide +kernel
theorem dL_runAt_4 : decode cL_runAt 4 = .ok (.bipush 63, 2) := by decide +kernel
theorem dL_runAt_6 : decode cL_runAt 6 = .ok (.iaload, 1) := by decide +kernel
theorem dL_runAt_7 : decode cL_runAt 7 = .ok (.if_icmp .ge 34, 3) := by decide +kernel
theorem dL_runAt_41 : decode cL_runAt 41 = .ok (.iconst (-1), 1) := by decide +kernel
theorem dL_runAt_42 : decode cL_runAt 42 = .ok (.ireturn, 1) := by decide +kernel
theorem dL_runAt_10 : decode cL_runAt 10 = .ok (.iload_n 3, 1) := by decide +kernel
theorem dL_runAt_11 : decode cL_runAt 11 = .ok (.iload_n 1, 1) := by decide +kernel
theorem dL_runAt_12 : decode cL_runAt 12 = .ok (.if_icmp .gt 29, 3) := by decide +kernel
theorem dL_runAt_15 : decode cL_runAt 15 = .ok (.aload_n 0, 1) := by decide +kernel
theorem dL_runAt_16 : decode cL_runAt 16 = .ok (.iload_n 3, 1) := by decide +kernel
theorem dL_runAt_17 : decode cL_runAt 17 = .ok (.iload_n 2, 1) := by decide +kernel
set_option maxRecDepth 100000 in
theorem q1653 : Cond.code yL_isBegin cL_isBegin 4 (some FieldType.boolean) ∈ GT := gt 1653 (rfl) (by decide +kernel)
theorem M_L_isBegin : MY yL_isBegin cL_isBegin 4 (some FieldType.boolean) 3 := ⟨q1653, q52, by decide +kernel, by decide +kernel⟩
set_option maxRecDepth 100000 in
theorem q1652 : Cond.static yL_isBegin ∈ GT := gt 1652 (by decide +kernel) (by decide +kernel)
set_option maxRecDepth 100000 in
theorem q1651 : Cond.methodLink RL 138 yL_isBegin ∈ GT := gt 1651 (by decide +kernel) (by decide +kernel)
theorem dL_runAt_18 : decode cL_runAt 18 = .ok (.invokestatic 138, 3) := by decide +kernel
theorem dL_runAt_21 : decode cL_runAt 21 = .ok (.ifCond .eq 14, 3) := by decide +kernel
theorem dL_runAt_24 : decode cL_runAt 24 = .ok (.aload_n 0, 1) := by decide +kernel
theorem dL_runAt_25 : decode cL_runAt 25 = .ok (.iload_n 3, 1) := by decide +kernel
set_option maxRecDepth 100000 in
theorem q1662 : Cond.code yL_behind cL_behind 4 (some FieldType.int) ∈ GT := gt 1662 (rfl) (by decide +kernel)
theorem M_L_behind : MY yL_behind cL_behind 4 (some FieldType.int) 2 := ⟨q1662, q52, by decide +kernel, by decide +kernel⟩
set_option maxRecDepth 100000 in
theorem q1661 : Cond.static yL_behind ∈ GT := gt 1661 (by decide +kernel) (by decide +kernel)
set_option maxRecDepth 100000 in
theorem q1660 : Cond.methodLink RL 142 yL_behind ∈ GT := gt 1660 (by decide +kernel) (by decide +kernel)
theorem dL_runAt_26 : decode cL_runAt 26 = .ok (.invokestatic 142, 3) := by decide +kernel
theorem dL_runAt_29 : decode cL_runAt 29 = .ok (.iload_n 1, 1) := by decide +kernel
theorem dL_runAt_30 : decode cL_runAt 30 = .ok (.if_icmp .lt 5, 3) := by decide +kernel
theorem dL_runAt_33 : decode cL_runAt 33 = .ok (.iload_n 3, 1) := by decide +kernel
theorem dL_runAt_34 : decode cL_runAt 34 = .ok (.ireturn, 1) := by decide +kernel
theorem dL_runAt_35 : decode cL_runAt 35 = .ok (.iinc 3 1, 3) := by decide +kernel
theorem dL_runAt_38 : decode cL_runAt 38 = .ok (.goto (-36), 3) := by decide +kernel
set_option maxHeartbeats 4000000 in
set_option maxRecDepth 100000 in
theorem w_L_runAt_35 {p : Program} {l : Launch} {e : Env} {R : Room} {s : State} {m : MethodId} {args : Array Value} {below : List Frame} {meth : Method} {c : Code} {G : Gt} {ρ0 : Int → Nat} {M0 : Mo} {res : RS} (F : Fx p l R s m args meth c cL_runAt 4 RL G M0 2 (some FieldType.int)) (hno : ∀ x ∈ c.exceptionTable.toList, False) (hnm : meth.name = yL_runAt.name) (k2 : Int → Int → Int → Int → Mo → Option RS) (hk2 : ∀ (x0 x1 x2 x3 : Int) (M : Mo), k2 x0 x1 x2 x3 M = some res → J p l e R s m args below meth c 4 G ρ0 M0 1 res M 2 [(0, (false, x0)), (1, (true, x1)), (2, (true, x2)), (3, (true, x3))] []) (x0 x1 x2 x3 : Int) (M : Mo) (h : L_runAt_35 k2 x0 x1 x2 x3 M = some res) : J p l e R s m args below meth c 4 G ρ0 M0 1 res M 35 [(0, (false, x0)), (1, (true, x1)), (2, (true, x2)), (3, (true, x3))] [] := by
  unfold L_runAt_35 at h
  refine j_iinc F 3 (lv' := [(3, (true, (x3 + 1))), (0, (false, x0)), (1, (true, x1)), (2, (true, x2))]) rfl (by decide) rfl dL_runAt_35 ?_
  refine j_goto F 2 (by decide) dL_runAt_38 ?_
  refine j_sub (lv' := [(0, (false, x0)), (1, (true, x1)), (2, (true, x2)), (3, (true, (x3 + 1)))]) [1, 2, 3, 0] rfl ?_
  exact hk2 x0 x1 x2 (x3 + 1) M h
set_option maxHeartbeats 4000000 in
set_option maxRecDepth 100000 in
theorem w_L_runAt_2 {p : Program} {l : Launch} {e : Env} {R : Room} {s : State} {m : MethodId} {args : Array Value} {below : List Frame} {meth : Method} {c : Code} {G : Gt} {ρ0 : Int → Nat} {M0 : Mo} {res : RS} (F : Fx p l R s m args meth c cL_runAt 4 RL G M0 2 (some FieldType.int)) (hno : ∀ x ∈ c.exceptionTable.toList, False) (hnm : meth.name = yL_runAt.name) (n : Nat) : ∀ (x0 x1 x2 x3 : Int) (M : Mo), L_runAt_2 n x0 x1 x2 x3 M = some res → J p l e R s m args below meth c 4 G ρ0 M0 1 res M 2 [(0, (false, x0)), (1, (true, x1)), (2, (true, x2)), (3, (true, x3))] [] := by
  induction n with
  | zero => intro x0 x1 x2 x3 M h; cases h
  | succ n ih =>
    intro x0 x1 x2 x3 M h
    rw [L_runAt_2] at h
    refine j_iload_n F 3 rfl rfl dL_runAt_2 ?_
    refine j_aload_n F 0 rfl rfl dL_runAt_3 ?_
    refine j_bipush F (by decide) dL_runAt_4 ?_
    obtain ⟨g1, h⟩ := gua h
    obtain ⟨g2, h⟩ := gua h
    refine j_iaload F g1 g2 dL_runAt_6 ?_
    refine j_icmp_ge F 41 (by decide) dL_runAt_7 h (fun h => ?_) (fun h => ?_)
    · skip
      refine j_iconst F dL_runAt_41 ?_
      exact j_iret F h dL_runAt_42
    · skip
      refine j_iload_n F 3 rfl rfl dL_runAt_10 ?_
      refine j_iload_n F 1 rfl rfl dL_runAt_11 ?_
      refine j_icmp_gt F 41 (by decide) dL_runAt_12 h (fun h => ?_) (fun h => ?_)
      · skip
        refine j_iconst F dL_runAt_41 ?_
        exact j_iret F h dL_runAt_42
      · skip
        refine j_aload_n F 0 rfl rfl dL_runAt_15 ?_
        refine j_iload_n F 3 rfl rfl dL_runAt_16 ?_
        refine j_iload_n F 2 rfl rfl dL_runAt_17 ?_
        refine j_callS (d' := 1) (argl := [(false, x0), (true, x3), (true, x2)]) (rk9 := 1) (st := []) F hno M_L_isBegin q1652 q1651 ⟨by decide, by decide⟩ (Nat.le_of_ble_eq_true rfl) (by decide) dL_runAt_18 rfl h (fun z hz => c_L_isBegin l F.ht G x0 x3 x2 M z hz) (fun v3 M4 h kl5 => ?_)
        refine j_st (st' := [(true, v3)]) rfl ?_
        refine j_if_eq F 35 (by decide) dL_runAt_21 h (fun h => ?_) (fun h => ?_)
        · skip
          refine j_sub (lv' := [(0, (false, x0)), (1, (true, x1)), (2, (true, x2)), (3, (true, x3))]) [0, 1, 2, 3] rfl ?_
          exact w_L_runAt_35 F hno hnm (L_runAt_2 n) ih x0 x1 x2 x3 M4 h
        · skip
          refine j_aload_n F 0 rfl rfl dL_runAt_24 ?_
          refine j_iload_n F 3 rfl rfl dL_runAt_25 ?_
          refine j_callS (d' := 1) (argl := [(false, x0), (true, x3)]) (rk9 := 1) (st := []) F hno M_L_behind q1661 q1660 ⟨by decide, by decide⟩ (Nat.le_of_ble_eq_true rfl) (by decide) dL_runAt_26 rfl h (fun z hz => c_L_behind l F.ht G x0 x3 M4 z hz) (fun v6 M7 h kl8 => ?_)
          refine j_st (st' := [(true, v6)]) rfl ?_
          refine j_iload_n F 1 rfl rfl dL_runAt_29 ?_
          refine j_icmp_lt F 35 (by decide) dL_runAt_30 h (fun h => ?_) (fun h => ?_)
          · skip
            refine j_sub (lv' := [(0, (false, x0)), (1, (true, x1)), (2, (true, x2)), (3, (true, x3))]) [0, 1, 2, 3] rfl ?_
            exact w_L_runAt_35 F hno hnm (L_runAt_2 n) ih x0 x1 x2 x3 M7 h
          · skip
            refine j_iload_n F 3 rfl rfl dL_runAt_33 ?_
            exact j_iret F h dL_runAt_34
set_option maxHeartbeats 4000000 in
set_option maxRecDepth 100000 in
theorem w_L_runAt_0 {p : Program} {l : Launch} {e : Env} {R : Room} {s : State} {m : MethodId} {args : Array Value} {below : List Frame} {meth : Method} {c : Code} {G : Gt} {ρ0 : Int → Nat} {M0 : Mo} {res : RS} (F : Fx p l R s m args meth c cL_runAt 4 RL G M0 2 (some FieldType.int)) (hno : ∀ x ∈ c.exceptionTable.toList, False) (hnm : meth.name = yL_runAt.name) (x0 x1 x2 : Int) (M : Mo) (h : L_runAt x0 x1 x2 M = some res) : J p l e R s m args below meth c 4 G ρ0 M0 1 res M 0 [(0, (false, x0)), (1, (true, x1)), (2, (true, x2))] [] := by
  unfold L_runAt at h
  refine j_iconst F dL_runAt_0 ?_
  refine j_istore_n F (lv' := [(3, (true, 0)), (0, (false, x0)), (1, (true, x1)), (2, (true, x2))]) rfl (by decide) rfl dL_runAt_1 ?_
  refine j_sub (lv' := [(0, (false, x0)), (1, (true, x1)), (2, (true, x2)), (3, (true, 0))]) [1, 2, 3, 0] rfl ?_
  exact w_L_runAt_2 F hno hnm FU x0 x1 x2 0 M h
theorem c_L_runAt (l : Launch) (hl : l.stackTraces = false) (G : Gt) (x0 x1 x2 : Int) (M : Mo) (z : RS) (h : L_runAt x0 x1 x2 M = some z) : CT l G yL_runAt (cn yL_runAt cL_runAt 4 (some FieldType.int)) 2 [(false, x0), (true, x1), (true, x2)] M 1 z :=
  ctOf hl (by decide) (Nat.le_of_ble_eq_true rfl) (fun p e R s m args below meth c ρ F hno hnm => w_L_runAt_0 F hno hnm x0 x1 x2 M h)
theorem dL_areLike_0 : decode cL_areLike 0 = .ok (.aload_n 0, 1) := by decide +kernel
theorem dL_areLike_1 : decode cL_areLike 1 = .ok (.iload_n 1, 1) := by decide +kernel
theorem dL_areLike_2 : decode cL_areLike 2 = .ok (.invokestatic 142, 3) := by decide +kernel
theorem dL_areLike_5 : decode cL_areLike 5 = .ok (.iload_n 1, 1) := by decide +kernel
theorem dL_areLike_6 : decode cL_areLike 6 = .ok (.isub, 1) := by decide +kernel
theorem dL_areLike_7 : decode cL_areLike 7 = .ok (.istore_n 3, 1) := by decide +kernel
theorem dL_areLike_8 : decode cL_areLike 8 = .ok (.aload_n 0, 1) := by decide +kernel
theorem dL_areLike_9 : decode cL_areLike 9 = .ok (.iload_n 2, 1) := by decide +kernel
theorem dL_areLike_10 : decode cL_areLike 10 = .ok (.invokestatic 142, 3) := by decide +kernel
theorem dL_areLike_13 : decode cL_areLike 13 = .ok (.iload_n 2, 1) := by decide +kernel
theorem dL_areLike_14 : decode cL_areLike 14 = .ok (.isub, 1) := by decide +kernel
theorem dL_areLike_15 : decode cL_areLike 15 = .ok (.iload_n 3, 1) := by decide +kernel
theorem dL_areLike_16 : decode cL_areLike 16 = .ok (.if_icmp .ne 7, 3) := by decide +kernel
theorem dL_areLike_23 : decode cL_areLike 23 = .ok (.iconst 0, 1) := by decide +kernel
theorem dL_areLike_19 : decode cL_areLike 19 = .ok (.iconst 1, 1) := by decide +kernel
theorem dL_areLike_20 : decode cL_areLike 20 = .ok (.goto 4, 3) := by decide +kernel
theorem dL_areLike_24 : decode cL_areLike 24 = .ok (.istore 4, 2) := by decide +kernel
theorem dL_areLike_26 : decode cL_areLike 26 = .ok (.iconst 0, 1) := by decide +kernel
theorem dL_areLike_27 : decode cL_areLike 27 = .ok (.istore 5, 2) := by decide +kernel
theorem dL_areLike_29 : decode cL_areLike 29 = .ok (.iload 5, 2) := by decide +kernel
theorem dL_areLike_31 : decode cL_areLike 31 = .ok (.iload_n 3, 1) := by decide +kernel
theorem dL_areLike_32 : decode cL_areLike 32 = .ok (.if_icmp .ge 36, 3) := by decide +kernel
theorem dL_areLike_68 : decode cL_areLike 68 = .ok (.iload 4, 2) := by decide +kernel
theorem dL_areLike_70 : decode cL_areLike 70 = .ok (.ireturn, 1) := by decide +kernel
theorem dL_areLike_35 : decode cL_areLike 35 = .ok (.iload 4, 2) := by decide +kernel
theorem dL_areLike_37 : decode cL_areLike 37 = .ok (.ifCond .eq 31, 3) := by decide +kernel
theorem dL_areLike_40 : decode cL_areLike 40 = .ok (.aload_n 0, 1) := by decide +kernel
theorem dL_areLike_41 : decode cL_areLike 41 = .ok (.iload_n 1, 1) := by decide +kernel
theorem dL_areLike_42 : decode cL_areLike 42 = .ok (.iload 5, 2) := by decide +kernel
theorem dL_areLike_44 : decode cL_areLike 44 = .ok (.iadd, 1) := by decide +kernel
theorem dL_areLike_45 : decode cL_areLike 45 = .ok (.iaload, 1) := by decide +kernel
theorem dL_areLike_46 : decode cL_areLike 46 = .ok (.aload_n 0, 1) := by decide +kernel
theorem dL_areLike_47 : decode cL_areLike 47 = .ok (.iload_n 2, 1) := by decide +kernel
theorem dL_areLike_48 : decode cL_areLike 48 = .ok (.iload 5, 2) := by decide +kernel
theorem dL_areLike_50 : decode cL_areLike 50 = .ok (.iadd, 1) := by decide +kernel
theorem dL_areLike_51 : decode cL_areLike 51 = .ok (.iaload, 1) := by decide +kernel
theorem dL_areLike_52 : decode cL_areLike 52 = .ok (.if_icmp .ne 7, 3) := by decide +kernel
theorem dL_areLike_59 : decode cL_areLike 59 = .ok (.iconst 0, 1) := by decide +kernel
theorem dL_areLike_55 : decode cL_areLike 55 = .ok (.iconst 1, 1) := by decide +kernel
theorem dL_areLike_56 : decode cL_areLike 56 = .ok (.goto 4, 3) := by decide +kernel
theorem dL_areLike_60 : decode cL_areLike 60 = .ok (.istore 4, 2) := by decide +kernel
theorem dL_areLike_62 : decode cL_areLike 62 = .ok (.iinc 5 1, 3) := by decide +kernel
theorem dL_areLike_65 : decode cL_areLike 65 = .ok (.goto (-36), 3) := by decide +kernel
set_option maxHeartbeats 4000000 in
set_option maxRecDepth 100000 in
theorem w_L_areLike_60 {p : Program} {l : Launch} {e : Env} {R : Room} {s : State} {m : MethodId} {args : Array Value} {below : List Frame} {meth : Method} {c : Code} {G : Gt} {ρ0 : Int → Nat} {M0 : Mo} {res : RS} (F : Fx p l R s m args meth c cL_areLike 6 RL G M0 2 (some FieldType.boolean)) (hno : ∀ x ∈ c.exceptionTable.toList, False) (hnm : meth.name = yL_areLike.name) (k29 : Int → Int → Int → Int → Int → Int → Mo → Option RS) (hk29 : ∀ (x0 x1 x2 x3 x4 x5 : Int) (M : Mo), k29 x0 x1 x2 x3 x4 x5 M = some res → J p l e R s m args below meth c 6 G ρ0 M0 1 res M 29 [(0, (false, x0)), (1, (true, x1)), (2, (true, x2)), (3, (true, x3)), (4, (true, x4)), (5, (true, x5))] []) (x0 x1 x2 x3 x5 y0 : Int) (M : Mo) (h : L_areLike_60 k29 x0 x1 x2 x3 x5 y0 M = some res) : J p l e R s m args below meth c 6 G ρ0 M0 1 res M 60 [(0, (false, x0)), (1, (true, x1)), (2, (true, x2)), (3, (true, x3)), (5, (true, x5))] [(true, y0)] := by
  unfold L_areLike_60 at h
  refine j_istore F (lv' := [(4, (true, y0)), (0, (false, x0)), (1, (true, x1)), (2, (true, x2)), (3, (true, x3)), (5, (true, x5))]) (by decide) rfl dL_areLike_60 ?_
  refine j_iinc F 5 (lv' := [(5, (true, (x5 + 1))), (4, (true, y0)), (0, (false, x0)), (1, (true, x1)), (2, (true, x2)), (3, (true, x3))]) rfl (by decide) rfl dL_areLike_62 ?_
  refine j_goto F 29 (by decide) dL_areLike_65 ?_
  refine j_sub (lv' := [(0, (false, x0)), (1, (true, x1)), (2, (true, x2)), (3, (true, x3)), (4, (true, y0)), (5, (true, (x5 + 1)))]) [2, 3, 4, 5, 1, 0] rfl ?_
  exact hk29 x0 x1 x2 x3 y0 (x5 + 1) M h
set_option maxHeartbeats 4000000 in
set_option maxRecDepth 100000 in
theorem w_L_areLike_29 {p : Program} {l : Launch} {e : Env} {R : Room} {s : State} {m : MethodId} {args : Array Value} {below : List Frame} {meth : Method} {c : Code} {G : Gt} {ρ0 : Int → Nat} {M0 : Mo} {res : RS} (F : Fx p l R s m args meth c cL_areLike 6 RL G M0 2 (some FieldType.boolean)) (hno : ∀ x ∈ c.exceptionTable.toList, False) (hnm : meth.name = yL_areLike.name) (n : Nat) : ∀ (x0 x1 x2 x3 x4 x5 : Int) (M : Mo), L_areLike_29 n x0 x1 x2 x3 x4 x5 M = some res → J p l e R s m args below meth c 6 G ρ0 M0 1 res M 29 [(0, (false, x0)), (1, (true, x1)), (2, (true, x2)), (3, (true, x3)), (4, (true, x4)), (5, (true, x5))] [] := by
  induction n with
  | zero => intro x0 x1 x2 x3 x4 x5 M h; cases h
  | succ n ih =>
    intro x0 x1 x2 x3 x4 x5 M h
    rw [L_areLike_29] at h
    refine j_iload F 5 rfl dL_areLike_29 ?_
    refine j_iload_n F 3 rfl rfl dL_areLike_31 ?_
    refine j_icmp_ge F 68 (by decide) dL_areLike_32 h (fun h => ?_) (fun h => ?_)
    · skip
      refine j_iload F 4 rfl dL_areLike_68 ?_
      obtain ⟨g1, h⟩ := gua h
      exact j_zret F (nz_b g1) h dL_areLike_70
    · skip
      refine j_iload F 4 rfl dL_areLike_35 ?_
      refine j_if_eq F 68 (by decide) dL_areLike_37 h (fun h => ?_) (fun h => ?_)
      · skip
        refine j_iload F 4 rfl dL_areLike_68 ?_
        obtain ⟨g2, h⟩ := gua h
        exact j_zret F (nz_b g2) h dL_areLike_70
      · skip
        refine j_aload_n F 0 rfl rfl dL_areLike_40 ?_
        refine j_iload_n F 1 rfl rfl dL_areLike_41 ?_
        refine j_iload F 5 rfl dL_areLike_42 ?_
        refine j_iadd F dL_areLike_44 ?_
        obtain ⟨g3, h⟩ := gua h
        obtain ⟨g4, h⟩ := gua h
        refine j_iaload F g3 g4 dL_areLike_45 ?_
        refine j_aload_n F 0 rfl rfl dL_areLike_46 ?_
        refine j_iload_n F 2 rfl rfl dL_areLike_47 ?_
        refine j_iload F 5 rfl dL_areLike_48 ?_
        refine j_iadd F dL_areLike_50 ?_
        obtain ⟨g5, h⟩ := gua h
        refine j_iaload F g3 g5 dL_areLike_51 ?_
        refine j_icmp_ne F 59 (by decide) dL_areLike_52 h (fun h => ?_) (fun h => ?_)
        · skip
          refine j_iconst F dL_areLike_59 ?_
          refine j_sub (lv' := [(0, (false, x0)), (1, (true, x1)), (2, (true, x2)), (3, (true, x3)), (5, (true, x5))]) [0, 1, 2, 3, 5] rfl ?_
          exact w_L_areLike_60 F hno hnm (L_areLike_29 n) ih x0 x1 x2 x3 x5 0 M h
        · skip
          refine j_iconst F dL_areLike_55 ?_
          refine j_goto F 60 (by decide) dL_areLike_56 ?_
          refine j_sub (lv' := [(0, (false, x0)), (1, (true, x1)), (2, (true, x2)), (3, (true, x3)), (5, (true, x5))]) [0, 1, 2, 3, 5] rfl ?_
          exact w_L_areLike_60 F hno hnm (L_areLike_29 n) ih x0 x1 x2 x3 x5 1 M h
set_option maxHeartbeats 4000000 in
set_option maxRecDepth 100000 in
theorem w_L_areLike_24 {p : Program} {l : Launch} {e : Env} {R : Room} {s : State} {m : MethodId} {args : Array Value} {below : List Frame} {meth : Method} {c : Code} {G : Gt} {ρ0 : Int → Nat} {M0 : Mo} {res : RS} (F : Fx p l R s m args meth c cL_areLike 6 RL G M0 2 (some FieldType.boolean)) (hno : ∀ x ∈ c.exceptionTable.toList, False) (hnm : meth.name = yL_areLike.name) (x0 x1 x2 x3 y0 : Int) (M : Mo) (h : L_areLike_24 x0 x1 x2 x3 y0 M = some res) : J p l e R s m args below meth c 6 G ρ0 M0 1 res M 24 [(0, (false, x0)), (1, (true, x1)), (2, (true, x2)), (3, (true, x3))] [(true, y0)] := by
  unfold L_areLike_24 at h
  refine j_istore F (lv' := [(4, (true, y0)), (0, (false, x0)), (1, (true, x1)), (2, (true, x2)), (3, (true, x3))]) (by decide) rfl dL_areLike_24 ?_
  refine j_iconst F dL_areLike_26 ?_
  refine j_istore F (lv' := [(5, (true, 0)), (4, (true, y0)), (0, (false, x0)), (1, (true, x1)), (2, (true, x2)), (3, (true, x3))]) (by decide) rfl dL_areLike_27 ?_
  refine j_sub (lv' := [(0, (false, x0)), (1, (true, x1)), (2, (true, x2)), (3, (true, x3)), (4, (true, y0)), (5, (true, 0))]) [2, 3, 4, 5, 1, 0] rfl ?_
  exact w_L_areLike_29 F hno hnm FU x0 x1 x2 x3 y0 0 M h
set_option maxHeartbeats 4000000 in
set_option maxRecDepth 100000 in
theorem w_L_areLike_0 {p : Program} {l : Launch} {e : Env} {R : Room} {s : State} {m : MethodId} {args : Array Value} {below : List Frame} {meth : Method} {c : Code} {G : Gt} {ρ0 : Int → Nat} {M0 : Mo} {res : RS} (F : Fx p l R s m args meth c cL_areLike 6 RL G M0 2 (some FieldType.boolean)) (hno : ∀ x ∈ c.exceptionTable.toList, False) (hnm : meth.name = yL_areLike.name) (x0 x1 x2 : Int) (M : Mo) (h : L_areLike x0 x1 x2 M = some res) : J p l e R s m args below meth c 6 G ρ0 M0 1 res M 0 [(0, (false, x0)), (1, (true, x1)), (2, (true, x2))] [] := by
  unfold L_areLike at h
  refine j_aload_n F 0 rfl rfl dL_areLike_0 ?_
  refine j_iload_n F 1 rfl rfl dL_areLike_1 ?_
  refine j_callS (d' := 1) (argl := [(false, x0), (true, x1)]) (rk9 := 1) (st := []) F hno M_L_behind q1661 q1660 ⟨by decide, by decide⟩ (Nat.le_of_ble_eq_true rfl) (by decide) dL_areLike_2 rfl h (fun z hz => c_L_behind l F.ht G x0 x1 M z hz) (fun v1 M2 h kl3 => ?_)
  refine j_st (st' := [(true, v1)]) rfl ?_
  refine j_iload_n F 1 rfl rfl dL_areLike_5 ?_
  refine j_isub F dL_areLike_6 ?_
  refine j_istore_n F (lv' := [(3, (true, (v1 - x1))), (0, (false, x0)), (1, (true, x1)), (2, (true, x2))]) rfl (by decide) rfl dL_areLike_7 ?_
  refine j_aload_n F 1 rfl rfl dL_areLike_8 ?_
  refine j_iload_n F 3 rfl rfl dL_areLike_9 ?_
  refine j_callS (d' := 1) (argl := [(false, x0), (true, x2)]) (rk9 := 1) (st := []) F hno M_L_behind q1661 q1660 ⟨by decide, by decide⟩ (Nat.le_of_ble_eq_true rfl) (by decide) dL_areLike_10 rfl h (fun z hz => c_L_behind l F.ht G x0 x2 M2 z hz) (fun v4 M5 h kl6 => ?_)
  refine j_st (st' := [(true, v4)]) rfl ?_
  refine j_iload_n F 3 rfl rfl dL_areLike_13 ?_
  refine j_isub F dL_areLike_14 ?_
  refine j_iload_n F 0 rfl rfl dL_areLike_15 ?_
  refine j_icmp_ne F 23 (by decide) dL_areLike_16 h (fun h => ?_) (fun h => ?_)
  · skip
    refine j_iconst F dL_areLike_23 ?_
    refine j_sub (lv' := [(0, (false, x0)), (1, (true, x1)), (2, (true, x2)), (3, (true, (v1 - x1)))]) [1, 2, 3, 0] rfl ?_
    exact w_L_areLike_24 F hno hnm x0 x1 x2 (v1 - x1) 0 M5 h
  · skip
    refine j_iconst F dL_areLike_19 ?_
    refine j_goto F 24 (by decide) dL_areLike_20 ?_
    refine j_sub (lv' := [(0, (false, x0)), (1, (true, x1)), (2, (true, x2)), (3, (true, (v1 - x1)))]) [1, 2, 3, 0] rfl ?_
    exact w_L_areLike_24 F hno hnm x0 x1 x2 (v1 - x1) 1 M5 h
theorem c_L_areLike (l : Launch) (hl : l.stackTraces = false) (G : Gt) (x0 x1 x2 : Int) (M : Mo) (z : RS) (h : L_areLike x0 x1 x2 M = some z) : CT l G yL_areLike (cn yL_areLike cL_areLike 6 (some FieldType.boolean)) 2 [(false, x0), (true, x1), (true, x2)] M 1 z :=
  ctOf hl (by decide) (Nat.le_of_ble_eq_true rfl) (fun p e R s m args below meth c ρ F hno hnm => w_L_areLike_0 F hno hnm x0 x1 x2 M h)
theorem dL_likes_0 : decode cL_likes 0 = .ok (.iconst 0, 1) := by decide +kernel
theorem dL_likes_1 : decode cL_likes 1 = .ok (.istore_n 3, 1) := by decide +kernel
theorem dL_likes_2 : decode cL_likes 2 = .ok (.iconst 0, 1) := by decide +kernel
theorem dL_likes_3 : decode cL_likes 3 = .ok (.istore 4, 2) := by decide +kernel
theorem dL_likes_5 : decode cL_likes 5 = .ok (.iload 4, 2) := by decide +kernel
theorem dL_likes_7 : decode cL_likes 7 = .ok (.aload_n 0, 1) := by decide +kernel
theorem dL_likes_8 : decode cL_likes 8 = .ok (.bipush 63, 2) := by decide +kernel
theorem dL_likes_10 : decode cL_likes 10 = .ok (.iaload, 1) := by decide +kernel
theorem dL_likes_11 : decode cL_likes 11 = .ok (.if_icmp .ge 37, 3) := by decide +kernel
theorem dL_likes_48 : decode cL_likes 48 = .ok (.iload_n 3, 1) := by decide +kernel
theorem dL_likes_49 : decode cL_likes 49 = .ok (.ireturn, 1) := by decide +kernel
theorem dL_likes_14 : decode cL_likes 14 = .ok (.iload_n 3, 1) := by decide +kernel
theorem dL_likes_15 : decode cL_likes 15 = .ok (.aload_n 0, 1) := by decide +kernel
theorem dL_likes_16 : decode cL_likes 16 = .ok (.iload 4, 2) := by decide +kernel
theorem dL_likes_18 : decode cL_likes 18 = .ok (.iload_n 2, 1) := by decide +kernel
theorem dL_likes_19 : decode cL_likes 19 = .ok (.invokestatic 138, 3) := by decide +kernel
theorem dL_likes_22 : decode cL_likes 22 = .ok (.ifCond .eq 17, 3) := by decide +kernel
theorem dL_likes_25 : decode cL_likes 25 = .ok (.aload_n 0, 1) := by decide +kernel
theorem dL_likes_26 : decode cL_likes 26 = .ok (.iload_n 1, 1) := by decide +kernel
theorem dL_likes_27 : decode cL_likes 27 = .ok (.iload 4, 2) := by decide +kernel
set_option maxRecDepth 100000 in
theorem q1665 : Cond.code yL_areLike cL_areLike 6 (some FieldType.boolean) ∈ GT := gt 1665 (rfl) (by decide +kernel)
theorem M_L_areLike : MY yL_areLike cL_areLike 6 (some FieldType.boolean) 3 := ⟨q1665, q52, by decide +kernel, by decide +kernel⟩
set_option maxRecDepth 100000 in
theorem q1664 : Cond.static yL_areLike ∈ GT := gt 1664 (by decide +kernel) (by decide +kernel)
set_option maxRecDepth 100000 in
theorem q1663 : Cond.methodLink RL 146 yL_areLike ∈ GT := gt 1663 (by decide +kernel) (by decide +kernel)
theorem dL_likes_29 : decode cL_likes 29 = .ok (.invokestatic 146, 3) := by decide +kernel
theorem dL_likes_32 : decode cL_likes 32 = .ok (.ifCond .eq 7, 3) := by decide +kernel
theorem dL_likes_35 : decode cL_likes 35 = .ok (.iconst 1, 1) := by decide +kernel
theorem dL_likes_36 : decode cL_likes 36 = .ok (.goto 4, 3) := by decide +kernel
theorem dL_likes_39 : decode cL_likes 39 = .ok (.iconst 0, 1) := by decide +kernel
theorem dL_likes_40 : decode cL_likes 40 = .ok (.iadd, 1) := by decide +kernel
theorem dL_likes_41 : decode cL_likes 41 = .ok (.istore_n 3, 1) := by decide +kernel
theorem dL_likes_42 : decode cL_likes 42 = .ok (.iinc 4 1, 3) := by decide +kernel
theorem dL_likes_45 : decode cL_likes 45 = .ok (.goto (-40), 3) := by decide +kernel
set_option maxHeartbeats 4000000 in
set_option maxRecDepth 100000 in
theorem w_L_likes_40 {p : Program} {l : Launch} {e : Env} {R : Room} {s : State} {m : MethodId} {args : Array Value} {below : List Frame} {meth : Method} {c : Code} {G : Gt} {ρ0 : Int → Nat} {M0 : Mo} {res : RS} (F : Fx p l R s m args meth c cL_likes 5 RL G M0 3 (some FieldType.int)) (hno : ∀ x ∈ c.exceptionTable.toList, False) (hnm : meth.name = yL_likes.name) (k5 : Int → Int → Int → Int → Int → Mo → Option RS) (hk5 : ∀ (x0 x1 x2 x3 x4 : Int) (M : Mo), k5 x0 x1 x2 x3 x4 M = some res → J p l e R s m args below meth c 5 G ρ0 M0 1 res M 5 [(0, (false, x0)), (1, (true, x1)), (2, (true, x2)), (3, (true, x3)), (4, (true, x4))] []) (x0 x1 x2 x4 y0 y1 : Int) (M : Mo) (h : L_likes_40 k5 x0 x1 x2 x4 y0 y1 M = some res) : J p l e R s m args below meth c 5 G ρ0 M0 1 res M 40 [(0, (false, x0)), (1, (true, x1)), (2, (true, x2)), (4, (true, x4))] [(true, y1), (true, y0)] := by
  unfold L_likes_40 at h
  refine j_iadd F dL_likes_40 ?_
  refine j_istore_n F (lv' := [(3, (true, (y0 + y1))), (0, (false, x0)), (1, (true, x1)), (2, (true, x2)), (4, (true, x4))]) rfl (by decide) rfl dL_likes_41 ?_
  refine j_iinc F 4 (lv' := [(4, (true, (x4 + 1))), (3, (true, (y0 + y1))), (0, (false, x0)), (1, (true, x1)), (2, (true, x2))]) rfl (by decide) rfl dL_likes_42 ?_
  refine j_goto F 5 (by decide) dL_likes_45 ?_
  refine j_sub (lv' := [(0, (false, x0)), (1, (true, x1)), (2, (true, x2)), (3, (true, (y0 + y1))), (4, (true, (x4 + 1)))]) [2, 3, 4, 1, 0] rfl ?_
  exact hk5 x0 x1 x2 (y0 + y1) (x4 + 1) M h
set_option maxHeartbeats 4000000 in
set_option maxRecDepth 100000 in
theorem w_L_likes_39 {p : Program} {l : Launch} {e : Env} {R : Room} {s : State} {m : MethodId} {args : Array Value} {below : List Frame} {meth : Method} {c : Code} {G : Gt} {ρ0 : Int → Nat} {M0 : Mo} {res : RS} (F : Fx p l R s m args meth c cL_likes 5 RL G M0 3 (some FieldType.int)) (hno : ∀ x ∈ c.exceptionTable.toList, False) (hnm : meth.name = yL_likes.name) (k5 : Int → Int → Int → Int → Int → Mo → Option RS) (hk5 : ∀ (x0 x1 x2 x3 x4 : Int) (M : Mo), k5 x0 x1 x2 x3 x4 M = some res → J p l e R s m args below meth c 5 G ρ0 M0 1 res M 5 [(0, (false, x0)), (1, (true, x1)), (2, (true, x2)), (3, (true, x3)), (4, (true, x4))] []) (x0 x1 x2 x4 y0 : Int) (M : Mo) (h : L_likes_39 k5 x0 x1 x2 x4 y0 M = some res) : J p l e R s m args below meth c 5 G ρ0 M0 1 res M 39 [(0, (false, x0)), (1, (true, x1)), (2, (true, x2)), (4, (true, x4))] [(true, y0)] := by
  unfold L_likes_39 at h
  refine j_iconst F dL_likes_39 ?_
  refine j_sub (lv' := [(0, (false, x0)), (1, (true, x1)), (2, (true, x2)), (4, (true, x4))]) [0, 1, 2, 3] rfl ?_
  exact w_L_likes_40 F hno hnm k5 hk5 x0 x1 x2 x4 y0 0 M h
set_option maxHeartbeats 4000000 in
set_option maxRecDepth 100000 in
theorem w_L_likes_5 {p : Program} {l : Launch} {e : Env} {R : Room} {s : State} {m : MethodId} {args : Array Value} {below : List Frame} {meth : Method} {c : Code} {G : Gt} {ρ0 : Int → Nat} {M0 : Mo} {res : RS} (F : Fx p l R s m args meth c cL_likes 5 RL G M0 3 (some FieldType.int)) (hno : ∀ x ∈ c.exceptionTable.toList, False) (hnm : meth.name = yL_likes.name) (n : Nat) : ∀ (x0 x1 x2 x3 x4 : Int) (M : Mo), L_likes_5 n x0 x1 x2 x3 x4 M = some res → J p l e R s m args below meth c 5 G ρ0 M0 1 res M 5 [(0, (false, x0)), (1, (true, x1)), (2, (true, x2)), (3, (true, x3)), (4, (true, x4))] [] := by
  induction n with
  | zero => intro x0 x1 x2 x3 x4 M h; cases h
  | succ n ih =>
    intro x0 x1 x2 x3 x4 M h
    rw [L_likes_5] at h
    refine j_iload F 4 rfl dL_likes_5 ?_
    refine j_aload_n F 0 rfl rfl dL_likes_7 ?_
    refine j_bipush F (by decide) dL_likes_8 ?_
    obtain ⟨g1, h⟩ := gua h
    obtain ⟨g2, h⟩ := gua h
    refine j_iaload F g1 g2 dL_likes_10 ?_
    refine j_icmp_ge F 48 (by decide) dL_likes_11 h (fun h => ?_) (fun h => ?_)
    · skip
      refine j_iload_n F 3 rfl rfl dL_likes_48 ?_
      exact j_iret F h dL_likes_49
    · skip
      refine j_iload_n F 3 rfl rfl dL_likes_14 ?_
      refine j_aload_n F 0 rfl rfl dL_likes_15 ?_
      refine j_iload F 4 rfl dL_likes_16 ?_
      refine j_iload_n F 2 rfl rfl dL_likes_18 ?_
      refine j_callS (d' := 1) (argl := [(false, x0), (true, x4), (true, x2)]) (rk9 := 1) (st := [(true, x3)]) F hno M_L_isBegin q1652 q1651 ⟨by decide, by decide⟩ (Nat.le_of_ble_eq_true rfl) (by decide) dL_likes_19 rfl h (fun z hz => c_L_isBegin l F.ht G x0 x4 x2 M z hz) (fun v3 M4 h kl5 => ?_)
      refine j_st (st' := [(true, v3), (true, x3)]) rfl ?_
      refine j_if_eq F 39 (by decide) dL_likes_22 h (fun h => ?_) (fun h => ?_)
      · skip
        refine j_sub (lv' := [(0, (false, x0)), (1, (true, x1)), (2, (true, x2)), (4, (true, x4))]) [0, 1, 2, 4] rfl ?_
        exact w_L_likes_39 F hno hnm (L_likes_5 n) ih x0 x1 x2 x4 x3 M4 h
      · skip
        refine j_aload_n F 0 rfl rfl dL_likes_25 ?_
        refine j_iload_n F 1 rfl rfl dL_likes_26 ?_
        refine j_iload F 4 rfl dL_likes_27 ?_
        refine j_callS (d' := 2) (argl := [(false, x0), (true, x1), (true, x4)]) (rk9 := 1) (st := [(true, x3)]) F hno M_L_areLike q1664 q1663 ⟨by decide, by decide⟩ (Nat.le_of_ble_eq_true rfl) (by decide) dL_likes_29 rfl h (fun z hz => c_L_areLike l F.ht G x0 x1 x4 M4 z hz) (fun v6 M7 h kl8 => ?_)
        refine j_st (st' := [(true, v6), (true, x3)]) rfl ?_
        refine j_if_eq F 39 (by decide) dL_likes_32 h (fun h => ?_) (fun h => ?_)
        · skip
          refine j_sub (lv' := [(0, (false, x0)), (1, (true, x1)), (2, (true, x2)), (4, (true, x4))]) [0, 1, 2, 4] rfl ?_
          exact w_L_likes_39 F hno hnm (L_likes_5 n) ih x0 x1 x2 x4 x3 M7 h
        · skip
          refine j_iconst F dL_likes_35 ?_
          refine j_goto F 40 (by decide) dL_likes_36 ?_
          refine j_sub (lv' := [(0, (false, x0)), (1, (true, x1)), (2, (true, x2)), (4, (true, x4))]) [0, 1, 2, 4] rfl ?_
          exact w_L_likes_40 F hno hnm (L_likes_5 n) ih x0 x1 x2 x4 x3 1 M7 h
set_option maxHeartbeats 4000000 in
set_option maxRecDepth 100000 in
theorem w_L_likes_0 {p : Program} {l : Launch} {e : Env} {R : Room} {s : State} {m : MethodId} {args : Array Value} {below : List Frame} {meth : Method} {c : Code} {G : Gt} {ρ0 : Int → Nat} {M0 : Mo} {res : RS} (F : Fx p l R s m args meth c cL_likes 5 RL G M0 3 (some FieldType.int)) (hno : ∀ x ∈ c.exceptionTable.toList, False) (hnm : meth.name = yL_likes.name) (x0 x1 x2 : Int) (M : Mo) (h : L_likes x0 x1 x2 M = some res) : J p l e R s m args below meth c 5 G ρ0 M0 1 res M 0 [(0, (false, x0)), (1, (true, x1)), (2, (true, x2))] [] := by
  unfold L_likes at h
  refine j_iconst F dL_likes_0 ?_
  refine j_istore_n F (lv' := [(3, (true, 0)), (0, (false, x0)), (1, (true, x1)), (2, (true, x2))]) rfl (by decide) rfl dL_likes_1 ?_
  refine j_iconst F dL_likes_2 ?_
  refine j_istore F (lv' := [(4, (true, 0)), (3, (true, 0)), (0, (false, x0)), (1, (true, x1)), (2, (true, x2))]) (by decide) rfl dL_likes_3 ?_
  refine j_sub (lv' := [(0, (false, x0)), (1, (true, x1)), (2, (true, x2)), (3, (true, 0)), (4, (true, 0))]) [2, 3, 4, 1, 0] rfl ?_
  exact w_L_likes_5 F hno hnm FU x0 x1 x2 0 0 M h
theorem c_L_likes (l : Launch) (hl : l.stackTraces = false) (G : Gt) (x0 x1 x2 : Int) (M : Mo) (z : RS) (h : L_likes x0 x1 x2 M = some z) : CT l G yL_likes (cn yL_likes cL_likes 5 (some FieldType.int)) 3 [(false, x0), (true, x1), (true, x2)] M 1 z :=
  ctOf hl (by decide) (Nat.le_of_ble_eq_true rfl) (fun p e R s m args below meth c ρ F hno hnm => w_L_likes_0 F hno hnm x0 x1 x2 M h)
theorem dL_item_0 : decode cL_item 0 = .ok (.iconst 0, 1) := by decide +kernel
theorem dL_item_1 : decode cL_item 1 = .ok (.istore 4, 2) := by decide +kernel
theorem dL_item_3 : decode cL_item 3 = .ok (.iconst 0, 1) := by decide +kernel
theorem dL_item_4 : decode cL_item 4 = .ok (.istore 5, 2) := by decide +kernel
theorem dL_item_6 : decode cL_item 6 = .ok (.iconst 0, 1) := by decide +kernel
theorem dL_item_7 : decode cL_item 7 = .ok (.istore 6, 2) := by decide +kernel
theorem dL_item_9 : decode cL_item 9 = .ok (.iload 6, 2) := by decide +kernel
theorem dL_item_11 : decode cL_item 11 = .ok (.iload_n 2, 1) := by decide +kernel
theorem dL_item_12 : decode cL_item 12 = .ok (.if_icmp .ge 27, 3) := by decide +kernel
theorem dL_item_39 : decode cL_item 39 = .ok (.iload_n 1, 1) := by decide +kernel
theorem dL_item_40 : decode cL_item 40 = .ok (.sipush 128, 3) := by decide +kernel
theorem dL_item_43 : decode cL_item 43 = .ok (.imul, 1) := by decide +kernel
theorem dL_item_44 : decode cL_item 44 = .ok (.iload 4, 2) := by decide +kernel
theorem dL_item_46 : decode cL_item 46 = .ok (.iadd, 1) := by decide +kernel
theorem dL_item_47 : decode cL_item 47 = .ok (.sipush 128, 3) := by decide +kernel
theorem dL_item_50 : decode cL_item 50 = .ok (.imul, 1) := by decide +kernel
theorem dL_item_51 : decode cL_item 51 = .ok (.iload_n 2, 1) := by decide +kernel
theorem dL_item_52 : decode cL_item 52 = .ok (.iadd, 1) := by decide +kernel
theorem dL_item_53 : decode cL_item 53 = .ok (.iload 5, 2) := by decide +kernel
theorem dL_item_55 : decode cL_item 55 = .ok (.isub, 1) := by decide +kernel
theorem dL_item_56 : decode cL_item 56 = .ok (.sipush 128, 3) := by decide +kernel
theorem dL_item_59 : decode cL_item 59 = .ok (.imul, 1) := by decide +kernel
theorem dL_item_60 : decode cL_item 60 = .ok (.iload_n 3, 1) := by decide +kernel
theorem dL_item_61 : decode cL_item 61 = .ok (.iadd, 1) := by decide +kernel
theorem dL_item_62 : decode cL_item 62 = .ok (.iload_n 2, 1) := by decide +kernel
theorem dL_item_63 : decode cL_item 63 = .ok (.isub, 1) := by decide +kernel
theorem dL_item_64 : decode cL_item 64 = .ok (.ireturn, 1) := by decide +kernel
theorem dL_item_15 : decode cL_item 15 = .ok (.aload_n 0, 1) := by decide +kernel
theorem dL_item_16 : decode cL_item 16 = .ok (.iload 6, 2) := by decide +kernel
theorem dL_item_18 : decode cL_item 18 = .ok (.iaload, 1) := by decide +kernel
theorem dL_item_19 : decode cL_item 19 = .ok (.bipush 10, 2) := by decide +kernel
theorem dL_item_21 : decode cL_item 21 = .ok (.if_icmp .ne 12, 3) := by decide +kernel
theorem dL_item_24 : decode cL_item 24 = .ok (.iinc 4 1, 3) := by decide +kernel
theorem dL_item_27 : decode cL_item 27 = .ok (.iload 6, 2) := by decide +kernel
theorem dL_item_29 : decode cL_item 29 = .ok (.iconst 1, 1) := by decide +kernel
theorem dL_item_30 : decode cL_item 30 = .ok (.iadd, 1) := by decide +kernel
theorem dL_item_31 : decode cL_item 31 = .ok (.istore 5, 2) := by decide +kernel
theorem dL_item_33 : decode cL_item 33 = .ok (.iinc 6 1, 3) := by decide +kernel
theorem dL_item_36 : decode cL_item 36 = .ok (.goto (-27), 3) := by decide +kernel
set_option maxHeartbeats 4000000 in
set_option maxRecDepth 100000 in
theorem w_L_item_33 {p : Program} {l : Launch} {e : Env} {R : Room} {s : State} {m : MethodId} {args : Array Value} {below : List Frame} {meth : Method} {c : Code} {G : Gt} {ρ0 : Int → Nat} {M0 : Mo} {res : RS} (F : Fx p l R s m args meth c cL_item 7 RL G M0 0 (some FieldType.int)) (hno : ∀ x ∈ c.exceptionTable.toList, False) (hnm : meth.name = yL_item.name) (k9 : Int → Int → Int → Int → Int → Int → Int → Mo → Option RS) (hk9 : ∀ (x0 x1 x2 x3 x4 x5 x6 : Int) (M : Mo), k9 x0 x1 x2 x3 x4 x5 x6 M = some res → J p l e R s m args below meth c 7 G ρ0 M0 1 res M 9 [(0, (false, x0)), (1, (true, x1)), (2, (true, x2)), (3, (true, x3)), (4, (true, x4)), (5, (true, x5)), (6, (true, x6))] []) (x0 x1 x2 x3 x4 x5 x6 : Int) (M : Mo) (h : L_item_33 k9 x0 x1 x2 x3 x4 x5 x6 M = some res) : J p l e R s m args below meth c 7 G ρ0 M0 1 res M 33 [(0, (false, x0)), (1, (true, x1)), (2, (true, x2)), (3, (true, x3)), (4, (true, x4)), (5, (true, x5)), (6, (true, x6))] [] := by
  unfold L_item_33 at h
  refine j_iinc F 6 (lv' := [(6, (true, (x6 + 1))), (0, (false, x0)), (1, (true, x1)), (2, (true, x2)), (3, (true, x3)), (4, (true, x4)), (5, (true, x5))]) rfl (by decide) rfl dL_item_33 ?_
  refine j_goto F 9 (by decide) dL_item_36 ?_
  refine j_sub (lv' := [(0, (false, x0)), (1, (true, x1)), (2, (true, x2)), (3, (true, x3)), (4, (true, x4)), (5, (true, x5)), (6, (true, (x6 + 1)))]) [1, 2, 3, 4, 5, 6, 0] rfl ?_
  exact hk9 x0 x1 x2 x3 x4 x5 (x6 + 1) M h
set_option maxHeartbeats 4000000 in
set_option maxRecDepth 100000 in
theorem w_L_item_9 {p : Program} {l : Launch} {e : Env} {R : Room} {s : State} {m : MethodId} {args : Array Value} {below : List Frame} {meth : Method} {c : Code} {G : Gt} {ρ0 : Int → Nat} {M0 : Mo} {res : RS} (F : Fx p l R s m args meth c cL_item 7 RL G M0 0 (some FieldType.int)) (hno : ∀ x ∈ c.exceptionTable.toList, False) (hnm : meth.name = yL_item.name) (n : Nat) : ∀ (x0 x1 x2 x3 x4 x5 x6 : Int) (M : Mo), L_item_9 n x0 x1 x2 x3 x4 x5 x6 M = some res → J p l e R s m args below meth c 7 G ρ0 M0 1 res M 9 [(0, (false, x0)), (1, (true, x1)), (2, (true, x2)), (3, (true, x3)), (4, (true, x4)), (5, (true, x5)), (6, (true, x6))] [] := by
  induction n with
  | zero => intro x0 x1 x2 x3 x4 x5 x6 M h; cases h
  | succ n ih =>
    intro x0 x1 x2 x3 x4 x5 x6 M h
    rw [L_item_9] at h
    refine j_iload F 6 rfl dL_item_9 ?_
    refine j_iload_n F 2 rfl rfl dL_item_11 ?_
    refine j_icmp_ge F 39 (by decide) dL_item_12 h (fun h => ?_) (fun h => ?_)
    · skip
      refine j_iload_n F 1 rfl rfl dL_item_39 ?_
      refine j_sipush F (by decide) dL_item_40 ?_
      refine j_imul F dL_item_43 ?_
      refine j_iload F 4 rfl dL_item_44 ?_
      refine j_iadd F dL_item_46 ?_
      refine j_sipush F (by decide) dL_item_47 ?_
      refine j_imul F dL_item_50 ?_
      refine j_iload_n F 2 rfl rfl dL_item_51 ?_
      refine j_iadd F dL_item_52 ?_
      refine j_iload F 5 rfl dL_item_53 ?_
      refine j_isub F dL_item_55 ?_
      refine j_sipush F (by decide) dL_item_56 ?_
      refine j_imul F dL_item_59 ?_
      refine j_iload_n F 3 rfl rfl dL_item_60 ?_
      refine j_iadd F dL_item_61 ?_
      refine j_iload_n F 2 rfl rfl dL_item_62 ?_
      refine j_isub F dL_item_63 ?_
      exact j_iret F h dL_item_64
    · skip
      refine j_aload_n F 0 rfl rfl dL_item_15 ?_
      refine j_iload F 6 rfl dL_item_16 ?_
      obtain ⟨g1, h⟩ := gua h
      obtain ⟨g2, h⟩ := gua h
      refine j_iaload F g1 g2 dL_item_18 ?_
      refine j_bipush F (by decide) dL_item_19 ?_
      refine j_icmp_ne F 33 (by decide) dL_item_21 h (fun h => ?_) (fun h => ?_)
      · skip
        refine j_sub (lv' := [(0, (false, x0)), (1, (true, x1)), (2, (true, x2)), (3, (true, x3)), (4, (true, x4)), (5, (true, x5)), (6, (true, x6))]) [0, 1, 2, 3, 4, 5, 6] rfl ?_
        exact w_L_item_33 F hno hnm (L_item_9 n) ih x0 x1 x2 x3 x4 x5 x6 M h
      · skip
        refine j_iinc F 4 (lv' := [(4, (true, (x4 + 1))), (0, (false, x0)), (1, (true, x1)), (2, (true, x2)), (3, (true, x3)), (5, (true, x5)), (6, (true, x6))]) rfl (by decide) rfl dL_item_24 ?_
        refine j_iload F 6 rfl dL_item_27 ?_
        refine j_iconst F dL_item_29 ?_
        refine j_iadd F dL_item_30 ?_
        refine j_istore F (lv' := [(5, (true, (x6 + 1))), (4, (true, (x4 + 1))), (0, (false, x0)), (1, (true, x1)), (2, (true, x2)), (3, (true, x3)), (6, (true, x6))]) (by decide) rfl dL_item_31 ?_
        refine j_sub (lv' := [(0, (false, x0)), (1, (true, x1)), (2, (true, x2)), (3, (true, x3)), (4, (true, (x4 + 1))), (5, (true, (x6 + 1))), (6, (true, x6))]) [2, 3, 4, 5, 1, 0, 6] rfl ?_
        exact w_L_item_33 F hno hnm (L_item_9 n) ih x0 x1 x2 x3 (x4 + 1) (x6 + 1) x6 M h
set_option maxHeartbeats 4000000 in
set_option maxRecDepth 100000 in
theorem w_L_item_0 {p : Program} {l : Launch} {e : Env} {R : Room} {s : State} {m : MethodId} {args : Array Value} {below : List Frame} {meth : Method} {c : Code} {G : Gt} {ρ0 : Int → Nat} {M0 : Mo} {res : RS} (F : Fx p l R s m args meth c cL_item 7 RL G M0 0 (some FieldType.int)) (hno : ∀ x ∈ c.exceptionTable.toList, False) (hnm : meth.name = yL_item.name) (x0 x1 x2 x3 : Int) (M : Mo) (h : L_item x0 x1 x2 x3 M = some res) : J p l e R s m args below meth c 7 G ρ0 M0 1 res M 0 [(0, (false, x0)), (1, (true, x1)), (2, (true, x2)), (3, (true, x3))] [] := by
  unfold L_item at h
  refine j_iconst F dL_item_0 ?_
  refine j_istore F (lv' := [(4, (true, 0)), (0, (false, x0)), (1, (true, x1)), (2, (true, x2)), (3, (true, x3))]) (by decide) rfl dL_item_1 ?_
  refine j_iconst F dL_item_3 ?_
  refine j_istore F (lv' := [(5, (true, 0)), (4, (true, 0)), (0, (false, x0)), (1, (true, x1)), (2, (true, x2)), (3, (true, x3))]) (by decide) rfl dL_item_4 ?_
  refine j_iconst F dL_item_6 ?_
  refine j_istore F (lv' := [(6, (true, 0)), (5, (true, 0)), (4, (true, 0)), (0, (false, x0)), (1, (true, x1)), (2, (true, x2)), (3, (true, x3))]) (by decide) rfl dL_item_7 ?_
  refine j_sub (lv' := [(0, (false, x0)), (1, (true, x1)), (2, (true, x2)), (3, (true, x3)), (4, (true, 0)), (5, (true, 0)), (6, (true, 0))]) [3, 4, 5, 6, 2, 1, 0] rfl ?_
  exact w_L_item_9 F hno hnm FU x0 x1 x2 x3 0 0 0 M h
theorem c_L_item (l : Launch) (hl : l.stackTraces = false) (G : Gt) (x0 x1 x2 x3 : Int) (M : Mo) (z : RS) (h : L_item x0 x1 x2 x3 M = some z) : CT l G yL_item (cn yL_item cL_item 7 (some FieldType.int)) 0 [(false, x0), (true, x1), (true, x2), (true, x3)] M 1 z :=
  ctOf hl (by decide) (Nat.le_of_ble_eq_true rfl) (fun p e R s m args below meth c ρ F hno hnm => w_L_item_0 F hno hnm x0 x1 x2 x3 M h)
