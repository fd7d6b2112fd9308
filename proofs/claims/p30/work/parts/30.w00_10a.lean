theorem dX10_init_0 : decode cX10_init 0 = .ok (.aload_n 0, 1) := by decide +kernel
set_option maxRecDepth 100000 in
theorem q93 : Cond.methodLink RX10 3 Lib.objectInit ∈ GT := gt 93 (by decide +kernel) (by decide +kernel)
set_option maxRecDepth 100000 in
theorem q86 : Cond.instanceMethod Lib.objectInit ∈ GT := gt 86 (by decide +kernel) (by decide +kernel)
set_option maxRecDepth 100000 in
theorem q87 : Cond.code Lib.objectInit ⟨#[0xb1]⟩ 1 none ∈ GT := gt 87 (rfl) (by decide +kernel)
theorem dX10_init_1 : decode cX10_init 1 = .ok (.invokespecial 3, 3) := by decide +kernel
theorem dX10_init_4 : decode cX10_init 4 = .ok (.aload_n 0, 1) := by decide +kernel
theorem dX10_init_5 : decode cX10_init 5 = .ok (.bipush 100, 2) := by decide +kernel
set_option maxRecDepth 100000 in
theorem q101 : Cond.arrayClass FieldType.char ∈ GT := gt 101 (by decide +kernel) (by decide +kernel)
theorem dX10_init_7 : decode cX10_init 7 = .ok (.newarray .char, 2) := by decide +kernel
set_option maxRecDepth 100000 in
theorem q94 : Cond.fieldLink RX10 9 "ToolPlex$Text" "units" "[C" ∈ GT := gt 94 (by decide +kernel) (by decide +kernel)
theorem inGX10 : ∀ w ∈ u_ws RX10 TX10 2, w ∈ GT := gts [96, 98] (by decide +kernel) (by decide +kernel)
theorem ft_X10_9 : FT RX10 9 RX10 11 RX10 TX10 2 0 := ⟨rfl, by decide, by decide, q94, Or.inl rfl, inGX10⟩
theorem dX10_init_9 : decode cX10_init 9 = .ok (.putfield 9, 3) := by decide +kernel
theorem dX10_init_12 : decode cX10_init 12 = .ok (.return_, 1) := by decide +kernel
set_option maxHeartbeats 4000000 in
set_option maxRecDepth 100000 in
theorem w_X10_init_0 {p : Program} {l : Launch} {e : Env} {R : Room} {s : State} {m : MethodId} {args : Array Value} {below : List Frame} {meth : Method} {c : Code} {G : Gt} {ρ0 : Int → Nat} {M0 : Mo} {res : RS} (F : Fx p l R s m args meth c cX10_init 1 RX10 G M0 1 none) (hno : ∀ x ∈ c.exceptionTable.toList, False) (hnm : meth.name = yX10_init.name) (x0 : Int) (M : Mo) (h : X10_init x0 M = some res) : J p l e R s m args below meth c 1 G ρ0 M0 0 res M 0 [(0, (false, x0))] [] := by
  unfold X10_init at h
  refine j_aload_n F 0 rfl rfl dX10_init_0 ?_
  obtain ⟨g1, h⟩ := gua h
  refine j_objInit F ⟨q93, q86, q87⟩ g1 (by decide) (Nat.le_of_ble_eq_true rfl) dX10_init_1 ?_
  refine j_aload_n F 0 rfl rfl dX10_init_4 ?_
  refine j_bipush F (by decide) dX10_init_5 ?_
  obtain ⟨g2, h⟩ := gua h
  refine j_newaC F q101 (by decide) g2 dX10_init_7 (fun kl3 => ?_)
  obtain ⟨M4, hM4⟩ : ∃ Z, Z = nA M 1 (wr 100) := ⟨_, rfl⟩
  have g5 : kd M4 (nid M) = 101 := by rw [hM4]; exact kd_nA
  rw [← hM4] at kl3 ⊢
  replace h := pt_as h hM4
  obtain ⟨g6, h⟩ := gua h
  refine j_putF (ty := .array .char) F ft_X10_9 rfl rfl hnm rfl tyX10 tyX10_ok nmX10 (by decide +kernel) (nf_ref (Or.inr ⟨_, rfl⟩) _) g6 dX10_init_9 ?_
  obtain ⟨M7, hM7⟩ : ∃ Z, Z = sF M4 11 0 x0 (nid M) := ⟨_, rfl⟩
  have kl8 : kle M4 M7 := by rw [hM7]; exact kle_sF
  rw [← hM7]
  replace h := pt_as h hM7
  exact j_vret F (v := 0) h dX10_init_12
theorem c_X10_init (l : Launch) (hl : l.stackTraces = false) (G : Gt) (x0 : Int) (M : Mo) (z : RS) (h : X10_init x0 M = some z) : CT l G yX10_init (cn yX10_init cX10_init 1 none) 1 [(false, x0)] M 0 z :=
  ctOf hl (by decide) (Nat.le_of_ble_eq_true rfl) (fun p e R s m args below meth c ρ F hno hnm => w_X10_init_0 F hno hnm x0 M h)
theorem dX10_isLetter_0 : decode cX10_isLetter 0 = .ok (.iload_n 0, 1) := by decide +kernel
theorem dX10_isLetter_1 : decode cX10_isLetter 1 = .ok (.bipush 97, 2) := by decide +kernel
theorem dX10_isLetter_3 : decode cX10_isLetter 3 = .ok (.if_icmp .lt 13, 3) := by decide +kernel
theorem dX10_isLetter_16 : decode cX10_isLetter 16 = .ok (.iconst 0, 1) := by decide +kernel
theorem dX10_isLetter_17 : decode cX10_isLetter 17 = .ok (.ireturn, 1) := by decide +kernel
theorem dX10_isLetter_6 : decode cX10_isLetter 6 = .ok (.iload_n 0, 1) := by decide +kernel
theorem dX10_isLetter_7 : decode cX10_isLetter 7 = .ok (.bipush 122, 2) := by decide +kernel
theorem dX10_isLetter_9 : decode cX10_isLetter 9 = .ok (.if_icmp .gt 7, 3) := by decide +kernel
theorem dX10_isLetter_12 : decode cX10_isLetter 12 = .ok (.iconst 1, 1) := by decide +kernel
theorem dX10_isLetter_13 : decode cX10_isLetter 13 = .ok (.goto 4, 3) := by decide +kernel
set_option maxHeartbeats 4000000 in
set_option maxRecDepth 100000 in
theorem w_X10_isLetter_0 {p : Program} {l : Launch} {e : Env} {R : Room} {s : State} {m : MethodId} {args : Array Value} {below : List Frame} {meth : Method} {c : Code} {G : Gt} {ρ0 : Int → Nat} {M0 : Mo} {res : RS} (F : Fx p l R s m args meth c cX10_isLetter 1 RX10 G M0 0 (some FieldType.boolean)) (hno : ∀ x ∈ c.exceptionTable.toList, False) (hnm : meth.name = yX10_isLetter.name) (x0 : Int) (M : Mo) (h : X10_isLetter x0 M = some res) : J p l e R s m args below meth c 1 G ρ0 M0 1 res M 0 [(0, (true, x0))] [] := by
  unfold X10_isLetter at h
  refine j_iload_n F 0 rfl rfl dX10_isLetter_0 ?_
  refine j_bipush F (by decide) dX10_isLetter_1 ?_
  refine j_icmp_lt F 16 (by decide) dX10_isLetter_3 h (fun h => ?_) (fun h => ?_)
  · skip
    refine j_iconst F dX10_isLetter_16 ?_
    exact j_zret F (by decide) h dX10_isLetter_17
  · skip
    refine j_iload_n F 0 rfl rfl dX10_isLetter_6 ?_
    refine j_bipush F (by decide) dX10_isLetter_7 ?_
    refine j_icmp_gt F 16 (by decide) dX10_isLetter_9 h (fun h => ?_) (fun h => ?_)
    · skip
      refine j_iconst F dX10_isLetter_16 ?_
      exact j_zret F (by decide) h dX10_isLetter_17
    · skip
      refine j_iconst F dX10_isLetter_12 ?_
      refine j_goto F 17 (by decide) dX10_isLetter_13 ?_
      exact j_zret F (by decide) h dX10_isLetter_17
theorem c_X10_isLetter (l : Launch) (hl : l.stackTraces = false) (G : Gt) (x0 : Int) (M : Mo) (z : RS) (h : X10_isLetter x0 M = some z) : CT l G yX10_isLetter (cn yX10_isLetter cX10_isLetter 1 (some FieldType.boolean)) 0 [(true, x0)] M 1 z :=
  ctOf hl (by decide) (Nat.le_of_ble_eq_true rfl) (fun p e R s m args below meth c ρ F hno hnm => w_X10_isLetter_0 F hno hnm x0 M h)
theorem dX10_isDigit_0 : decode cX10_isDigit 0 = .ok (.iload_n 0, 1) := by decide +kernel
theorem dX10_isDigit_1 : decode cX10_isDigit 1 = .ok (.bipush 48, 2) := by decide +kernel
theorem dX10_isDigit_3 : decode cX10_isDigit 3 = .ok (.if_icmp .lt 13, 3) := by decide +kernel
theorem dX10_isDigit_16 : decode cX10_isDigit 16 = .ok (.iconst 0, 1) := by decide +kernel
theorem dX10_isDigit_17 : decode cX10_isDigit 17 = .ok (.ireturn, 1) := by decide +kernel
theorem dX10_isDigit_6 : decode cX10_isDigit 6 = .ok (.iload_n 0, 1) := by decide +kernel
theorem dX10_isDigit_7 : decode cX10_isDigit 7 = .ok (.bipush 57, 2) := by decide +kernel
theorem dX10_isDigit_9 : decode cX10_isDigit 9 = .ok (.if_icmp .gt 7, 3) := by decide +kernel
theorem dX10_isDigit_12 : decode cX10_isDigit 12 = .ok (.iconst 1, 1) := by decide +kernel
theorem dX10_isDigit_13 : decode cX10_isDigit 13 = .ok (.goto 4, 3) := by decide +kernel
set_option maxHeartbeats 4000000 in
set_option maxRecDepth 100000 in
theorem w_X10_isDigit_0 {p : Program} {l : Launch} {e : Env} {R : Room} {s : State} {m : MethodId} {args : Array Value} {below : List Frame} {meth : Method} {c : Code} {G : Gt} {ρ0 : Int → Nat} {M0 : Mo} {res : RS} (F : Fx p l R s m args meth c cX10_isDigit 1 RX10 G M0 0 (some FieldType.boolean)) (hno : ∀ x ∈ c.exceptionTable.toList, False) (hnm : meth.name = yX10_isDigit.name) (x0 : Int) (M : Mo) (h : X10_isDigit x0 M = some res) : J p l e R s m args below meth c 1 G ρ0 M0 1 res M 0 [(0, (true, x0))] [] := by
  unfold X10_isDigit at h
  refine j_iload_n F 0 rfl rfl dX10_isDigit_0 ?_
  refine j_bipush F (by decide) dX10_isDigit_1 ?_
  refine j_icmp_lt F 16 (by decide) dX10_isDigit_3 h (fun h => ?_) (fun h => ?_)
  · skip
    refine j_iconst F dX10_isDigit_16 ?_
    exact j_zret F (by decide) h dX10_isDigit_17
  · skip
    refine j_iload_n F 0 rfl rfl dX10_isDigit_6 ?_
    refine j_bipush F (by decide) dX10_isDigit_7 ?_
    refine j_icmp_gt F 16 (by decide) dX10_isDigit_9 h (fun h => ?_) (fun h => ?_)
    · skip
      refine j_iconst F dX10_isDigit_16 ?_
      exact j_zret F (by decide) h dX10_isDigit_17
    · skip
      refine j_iconst F dX10_isDigit_12 ?_
      refine j_goto F 17 (by decide) dX10_isDigit_13 ?_
      exact j_zret F (by decide) h dX10_isDigit_17
theorem c_X10_isDigit (l : Launch) (hl : l.stackTraces = false) (G : Gt) (x0 : Int) (M : Mo) (z : RS) (h : X10_isDigit x0 M = some z) : CT l G yX10_isDigit (cn yX10_isDigit cX10_isDigit 1 (some FieldType.boolean)) 0 [(true, x0)] M 1 z :=
  ctOf hl (by decide) (Nat.le_of_ble_eq_true rfl) (fun p e R s m args below meth c ρ F hno hnm => w_X10_isDigit_0 F hno hnm x0 M h)
theorem dX10_isFace_0 : decode cX10_isFace 0 = .ok (.iload_n 0, 1) := by decide +kernel
set_option maxRecDepth 100000 in
theorem q634 : Cond.constant RX10 15 (iI (128512)) ∈ GT := gt 634 (by decide +kernel) (by decide +kernel)
theorem dX10_isFace_1 : decode cX10_isFace 1 = .ok (.ldc 15, 2) := by decide +kernel
theorem dX10_isFace_3 : decode cX10_isFace 3 = .ok (.if_icmp .lt 13, 3) := by decide +kernel
theorem dX10_isFace_16 : decode cX10_isFace 16 = .ok (.iconst 0, 1) := by decide +kernel
theorem dX10_isFace_17 : decode cX10_isFace 17 = .ok (.ireturn, 1) := by decide +kernel
theorem dX10_isFace_6 : decode cX10_isFace 6 = .ok (.iload_n 0, 1) := by decide +kernel
set_option maxRecDepth 100000 in
theorem q635 : Cond.constant RX10 16 (iI (128591)) ∈ GT := gt 635 (by decide +kernel) (by decide +kernel)
theorem dX10_isFace_7 : decode cX10_isFace 7 = .ok (.ldc 16, 2) := by decide +kernel
theorem dX10_isFace_9 : decode cX10_isFace 9 = .ok (.if_icmp .gt 7, 3) := by decide +kernel
theorem dX10_isFace_12 : decode cX10_isFace 12 = .ok (.iconst 1, 1) := by decide +kernel
theorem dX10_isFace_13 : decode cX10_isFace 13 = .ok (.goto 4, 3) := by decide +kernel
set_option maxHeartbeats 4000000 in
set_option maxRecDepth 100000 in
theorem w_X10_isFace_0 {p : Program} {l : Launch} {e : Env} {R : Room} {s : State} {m : MethodId} {args : Array Value} {below : List Frame} {meth : Method} {c : Code} {G : Gt} {ρ0 : Int → Nat} {M0 : Mo} {res : RS} (F : Fx p l R s m args meth c cX10_isFace 1 RX10 G M0 0 (some FieldType.boolean)) (hno : ∀ x ∈ c.exceptionTable.toList, False) (hnm : meth.name = yX10_isFace.name) (x0 : Int) (M : Mo) (h : X10_isFace x0 M = some res) : J p l e R s m args below meth c 1 G ρ0 M0 1 res M 0 [(0, (true, x0))] [] := by
  unfold X10_isFace at h
  refine j_iload_n F 0 rfl rfl dX10_isFace_0 ?_
  refine j_ldc (n := 128512) F q634 dX10_isFace_1 ?_
  refine j_icmp_lt F 16 (by decide) dX10_isFace_3 h (fun h => ?_) (fun h => ?_)
  · skip
    refine j_iconst F dX10_isFace_16 ?_
    exact j_zret F (by decide) h dX10_isFace_17
  · skip
    refine j_iload_n F 0 rfl rfl dX10_isFace_6 ?_
    refine j_ldc (n := 128591) F q635 dX10_isFace_7 ?_
    refine j_icmp_gt F 16 (by decide) dX10_isFace_9 h (fun h => ?_) (fun h => ?_)
    · skip
      refine j_iconst F dX10_isFace_16 ?_
      exact j_zret F (by decide) h dX10_isFace_17
    · skip
      refine j_iconst F dX10_isFace_12 ?_
      refine j_goto F 17 (by decide) dX10_isFace_13 ?_
      exact j_zret F (by decide) h dX10_isFace_17
theorem c_X10_isFace (l : Launch) (hl : l.stackTraces = false) (G : Gt) (x0 : Int) (M : Mo) (z : RS) (h : X10_isFace x0 M = some z) : CT l G yX10_isFace (cn yX10_isFace cX10_isFace 1 (some FieldType.boolean)) 0 [(true, x0)] M 1 z :=
  ctOf hl (by decide) (Nat.le_of_ble_eq_true rfl) (fun p e R s m args below meth c ρ F hno hnm => w_X10_isFace_0 F hno hnm x0 M h)
theorem dX10_isCharacter_0 : decode cX10_isCharacter 0 = .ok (.iload_n 0, 1) := by decide +kernel
set_option maxRecDepth 100000 in
theorem q345 : Cond.code yX10_isLetter cX10_isLetter 1 (some FieldType.boolean) ∈ GT := gt 345 (rfl) (by decide +kernel)
set_option maxRecDepth 100000 in
theorem q54 : Cond.initialized RX10 ∈ GT := gt 54 (by decide +kernel) (by decide +kernel)
theorem M_X10_isLetter : MY yX10_isLetter cX10_isLetter 1 (some FieldType.boolean) 1 := ⟨q345, q54, by decide +kernel, by decide +kernel⟩
set_option maxRecDepth 100000 in
theorem q344 : Cond.static yX10_isLetter ∈ GT := gt 344 (by decide +kernel) (by decide +kernel)
set_option maxRecDepth 100000 in
theorem q627 : Cond.methodLink RX10 17 yX10_isLetter ∈ GT := gt 627 (by decide +kernel) (by decide +kernel)
theorem dX10_isCharacter_1 : decode cX10_isCharacter 1 = .ok (.invokestatic 17, 3) := by decide +kernel
theorem dX10_isCharacter_4 : decode cX10_isCharacter 4 = .ok (.ifCond .ne 29, 3) := by decide +kernel
theorem dX10_isCharacter_33 : decode cX10_isCharacter 33 = .ok (.iconst 1, 1) := by decide +kernel
theorem dX10_isCharacter_34 : decode cX10_isCharacter 34 = .ok (.goto 4, 3) := by decide +kernel
theorem dX10_isCharacter_38 : decode cX10_isCharacter 38 = .ok (.ireturn, 1) := by decide +kernel
theorem dX10_isCharacter_7 : decode cX10_isCharacter 7 = .ok (.iload_n 0, 1) := by decide +kernel
set_option maxRecDepth 100000 in
theorem q630 : Cond.code yX10_isDigit cX10_isDigit 1 (some FieldType.boolean) ∈ GT := gt 630 (rfl) (by decide +kernel)
theorem M_X10_isDigit : MY yX10_isDigit cX10_isDigit 1 (some FieldType.boolean) 1 := ⟨q630, q54, by decide +kernel, by decide +kernel⟩
set_option maxRecDepth 100000 in
theorem q629 : Cond.static yX10_isDigit ∈ GT := gt 629 (by decide +kernel) (by decide +kernel)
set_option maxRecDepth 100000 in
theorem q628 : Cond.methodLink RX10 21 yX10_isDigit ∈ GT := gt 628 (by decide +kernel) (by decide +kernel)
theorem dX10_isCharacter_8 : decode cX10_isCharacter 8 = .ok (.invokestatic 21, 3) := by decide +kernel
theorem dX10_isCharacter_11 : decode cX10_isCharacter 11 = .ok (.ifCond .ne 22, 3) := by decide +kernel
theorem dX10_isCharacter_14 : decode cX10_isCharacter 14 = .ok (.iload_n 0, 1) := by decide +kernel
theorem dX10_isCharacter_15 : decode cX10_isCharacter 15 = .ok (.bipush 32, 2) := by decide +kernel
theorem dX10_isCharacter_17 : decode cX10_isCharacter 17 = .ok (.if_icmp .eq 16, 3) := by decide +kernel
theorem dX10_isCharacter_20 : decode cX10_isCharacter 20 = .ok (.iload_n 0, 1) := by decide +kernel
theorem dX10_isCharacter_21 : decode cX10_isCharacter 21 = .ok (.bipush 10, 2) := by decide +kernel
theorem dX10_isCharacter_23 : decode cX10_isCharacter 23 = .ok (.if_icmp .eq 10, 3) := by decide +kernel
theorem dX10_isCharacter_26 : decode cX10_isCharacter 26 = .ok (.iload_n 0, 1) := by decide +kernel
set_option maxRecDepth 100000 in
theorem q633 : Cond.code yX10_isFace cX10_isFace 1 (some FieldType.boolean) ∈ GT := gt 633 (rfl) (by decide +kernel)
theorem M_X10_isFace : MY yX10_isFace cX10_isFace 1 (some FieldType.boolean) 1 := ⟨q633, q54, by decide +kernel, by decide +kernel⟩
set_option maxRecDepth 100000 in
theorem q632 : Cond.static yX10_isFace ∈ GT := gt 632 (by decide +kernel) (by decide +kernel)
set_option maxRecDepth 100000 in
theorem q631 : Cond.methodLink RX10 24 yX10_isFace ∈ GT := gt 631 (by decide +kernel) (by decide +kernel)
theorem dX10_isCharacter_27 : decode cX10_isCharacter 27 = .ok (.invokestatic 24, 3) := by decide +kernel
theorem dX10_isCharacter_30 : decode cX10_isCharacter 30 = .ok (.ifCond .eq 7, 3) := by decide +kernel
theorem dX10_isCharacter_37 : decode cX10_isCharacter 37 = .ok (.iconst 0, 1) := by decide +kernel
set_option maxHeartbeats 4000000 in
set_option maxRecDepth 100000 in
theorem w_X10_isCharacter_0 {p : Program} {l : Launch} {e : Env} {R : Room} {s : State} {m : MethodId} {args : Array Value} {below : List Frame} {meth : Method} {c : Code} {G : Gt} {ρ0 : Int → Nat} {M0 : Mo} {res : RS} (F : Fx p l R s m args meth c cX10_isCharacter 1 RX10 G M0 1 (some FieldType.boolean)) (hno : ∀ x ∈ c.exceptionTable.toList, False) (hnm : meth.name = yX10_isCharacter.name) (x0 : Int) (M : Mo) (h : X10_isCharacter x0 M = some res) : J p l e R s m args below meth c 1 G ρ0 M0 1 res M 0 [(0, (true, x0))] [] := by
  unfold X10_isCharacter at h
  refine j_iload_n F 0 rfl rfl dX10_isCharacter_0 ?_
  refine j_callS (d' := 0) (argl := [(true, x0)]) (rk9 := 1) (st := []) F hno M_X10_isLetter q344 q627 ⟨by decide, by decide⟩ (Nat.le_of_ble_eq_true rfl) (by decide) dX10_isCharacter_1 rfl h (fun z hz => c_X10_isLetter l F.ht G x0 M z hz) (fun v1 M2 h kl3 => ?_)
  refine j_st (st' := [(true, v1)]) rfl ?_
  refine j_if_ne F 33 (by decide) dX10_isCharacter_4 h (fun h => ?_) (fun h => ?_)
  · skip
    refine j_iconst F dX10_isCharacter_33 ?_
    refine j_goto F 38 (by decide) dX10_isCharacter_34 ?_
    exact j_zret F (by decide) h dX10_isCharacter_38
  · skip
    refine j_iload_n F 0 rfl rfl dX10_isCharacter_7 ?_
    refine j_callS (d' := 0) (argl := [(true, x0)]) (rk9 := 1) (st := []) F hno M_X10_isDigit q629 q628 ⟨by decide, by decide⟩ (Nat.le_of_ble_eq_true rfl) (by decide) dX10_isCharacter_8 rfl h (fun z hz => c_X10_isDigit l F.ht G x0 M2 z hz) (fun v4 M5 h kl6 => ?_)
    refine j_st (st' := [(true, v4)]) rfl ?_
    refine j_if_ne F 33 (by decide) dX10_isCharacter_11 h (fun h => ?_) (fun h => ?_)
    · skip
      refine j_iconst F dX10_isCharacter_33 ?_
      refine j_goto F 38 (by decide) dX10_isCharacter_34 ?_
      exact j_zret F (by decide) h dX10_isCharacter_38
    · skip
      refine j_iload_n F 0 rfl rfl dX10_isCharacter_14 ?_
      refine j_bipush F (by decide) dX10_isCharacter_15 ?_
      refine j_icmp_eq F 33 (by decide) dX10_isCharacter_17 h (fun h => ?_) (fun h => ?_)
      · skip
        refine j_iconst F dX10_isCharacter_33 ?_
        refine j_goto F 38 (by decide) dX10_isCharacter_34 ?_
        exact j_zret F (by decide) h dX10_isCharacter_38
      · skip
        refine j_iload_n F 0 rfl rfl dX10_isCharacter_20 ?_
        refine j_bipush F (by decide) dX10_isCharacter_21 ?_
        refine j_icmp_eq F 33 (by decide) dX10_isCharacter_23 h (fun h => ?_) (fun h => ?_)
        · skip
          refine j_iconst F dX10_isCharacter_33 ?_
          refine j_goto F 38 (by decide) dX10_isCharacter_34 ?_
          exact j_zret F (by decide) h dX10_isCharacter_38
        · skip
          refine j_iload_n F 0 rfl rfl dX10_isCharacter_26 ?_
          refine j_callS (d' := 0) (argl := [(true, x0)]) (rk9 := 1) (st := []) F hno M_X10_isFace q632 q631 ⟨by decide, by decide⟩ (Nat.le_of_ble_eq_true rfl) (by decide) dX10_isCharacter_27 rfl h (fun z hz => c_X10_isFace l F.ht G x0 M5 z hz) (fun v7 M8 h kl9 => ?_)
          refine j_st (st' := [(true, v7)]) rfl ?_
          refine j_if_eq F 37 (by decide) dX10_isCharacter_30 h (fun h => ?_) (fun h => ?_)
          · skip
            refine j_iconst F dX10_isCharacter_37 ?_
            exact j_zret F (by decide) h dX10_isCharacter_38
          · skip
            refine j_iconst F dX10_isCharacter_33 ?_
            refine j_goto F 38 (by decide) dX10_isCharacter_34 ?_
            exact j_zret F (by decide) h dX10_isCharacter_38
theorem c_X10_isCharacter (l : Launch) (hl : l.stackTraces = false) (G : Gt) (x0 : Int) (M : Mo) (z : RS) (h : X10_isCharacter x0 M = some z) : CT l G yX10_isCharacter (cn yX10_isCharacter cX10_isCharacter 1 (some FieldType.boolean)) 1 [(true, x0)] M 1 z :=
  ctOf hl (by decide) (Nat.le_of_ble_eq_true rfl) (fun p e R s m args below meth c ρ F hno hnm => w_X10_isCharacter_0 F hno hnm x0 M h)
theorem dX10_unitsOf_0 : decode cX10_unitsOf 0 = .ok (.iload_n 0, 1) := by decide +kernel
theorem dX10_unitsOf_1 : decode cX10_unitsOf 1 = .ok (.iconst (-1), 1) := by decide +kernel
theorem dX10_unitsOf_2 : decode cX10_unitsOf 2 = .ok (.if_icmp .ne 5, 3) := by decide +kernel
theorem dX10_unitsOf_7 : decode cX10_unitsOf 7 = .ok (.iload_n 0, 1) := by decide +kernel
theorem dX10_unitsOf_8 : decode cX10_unitsOf 8 = .ok (.ldc 15, 2) := by decide +kernel
theorem dX10_unitsOf_10 : decode cX10_unitsOf 10 = .ok (.if_icmp .lt 7, 3) := by decide +kernel
theorem dX10_unitsOf_17 : decode cX10_unitsOf 17 = .ok (.iconst 1, 1) := by decide +kernel
theorem dX10_unitsOf_18 : decode cX10_unitsOf 18 = .ok (.ireturn, 1) := by decide +kernel
theorem dX10_unitsOf_13 : decode cX10_unitsOf 13 = .ok (.iconst 2, 1) := by decide +kernel
theorem dX10_unitsOf_14 : decode cX10_unitsOf 14 = .ok (.goto 4, 3) := by decide +kernel
theorem dX10_unitsOf_5 : decode cX10_unitsOf 5 = .ok (.iconst 0, 1) := by decide +kernel
theorem dX10_unitsOf_6 : decode cX10_unitsOf 6 = .ok (.ireturn, 1) := by decide +kernel
set_option maxHeartbeats 4000000 in
set_option maxRecDepth 100000 in
theorem w_X10_unitsOf_0 {p : Program} {l : Launch} {e : Env} {R : Room} {s : State} {m : MethodId} {args : Array Value} {below : List Frame} {meth : Method} {c : Code} {G : Gt} {ρ0 : Int → Nat} {M0 : Mo} {res : RS} (F : Fx p l R s m args meth c cX10_unitsOf 1 RX10 G M0 0 (some FieldType.int)) (hno : ∀ x ∈ c.exceptionTable.toList, False) (hnm : meth.name = yX10_unitsOf.name) (x0 : Int) (M : Mo) (h : X10_unitsOf x0 M = some res) : J p l e R s m args below meth c 1 G ρ0 M0 1 res M 0 [(0, (true, x0))] [] := by
  unfold X10_unitsOf at h
  refine j_iload_n F 0 rfl rfl dX10_unitsOf_0 ?_
  refine j_iconst F dX10_unitsOf_1 ?_
  refine j_icmp_ne F 7 (by decide) dX10_unitsOf_2 h (fun h => ?_) (fun h => ?_)
  · skip
    refine j_iload_n F 0 rfl rfl dX10_unitsOf_7 ?_
    refine j_ldc (n := 128512) F q634 dX10_unitsOf_8 ?_
    refine j_icmp_lt F 17 (by decide) dX10_unitsOf_10 h (fun h => ?_) (fun h => ?_)
    · skip
      refine j_iconst F dX10_unitsOf_17 ?_
      exact j_iret F h dX10_unitsOf_18
    · skip
      refine j_iconst F dX10_unitsOf_13 ?_
      refine j_goto F 18 (by decide) dX10_unitsOf_14 ?_
      exact j_iret F h dX10_unitsOf_18
  · skip
    refine j_iconst F dX10_unitsOf_5 ?_
    exact j_iret F h dX10_unitsOf_6
theorem c_X10_unitsOf (l : Launch) (hl : l.stackTraces = false) (G : Gt) (x0 : Int) (M : Mo) (z : RS) (h : X10_unitsOf x0 M = some z) : CT l G yX10_unitsOf (cn yX10_unitsOf cX10_unitsOf 1 (some FieldType.int)) 0 [(true, x0)] M 1 z :=
  ctOf hl (by decide) (Nat.le_of_ble_eq_true rfl) (fun p e R s m args below meth c ρ F hno hnm => w_X10_unitsOf_0 F hno hnm x0 M h)
theorem dX10_size_0 : decode cX10_size 0 = .ok (.aload_n 0, 1) := by decide +kernel
set_option maxRecDepth 100000 in
theorem q95 : Cond.fieldLink RX10 27 "ToolPlex$Text" "length" "I" ∈ GT := gt 95 (by decide +kernel) (by decide +kernel)
theorem ft_X10_27 : FT RX10 27 RX10 11 RX10 TX10 2 1 := ⟨rfl, by decide, by decide, q95, Or.inl rfl, inGX10⟩
theorem dX10_size_1 : decode cX10_size 1 = .ok (.getfield 27, 3) := by decide +kernel
theorem dX10_size_4 : decode cX10_size 4 = .ok (.ireturn, 1) := by decide +kernel
set_option maxHeartbeats 4000000 in
set_option maxRecDepth 100000 in
theorem w_X10_size_0 {p : Program} {l : Launch} {e : Env} {R : Room} {s : State} {m : MethodId} {args : Array Value} {below : List Frame} {meth : Method} {c : Code} {G : Gt} {ρ0 : Int → Nat} {M0 : Mo} {res : RS} (F : Fx p l R s m args meth c cX10_size 1 RX10 G M0 0 (some FieldType.int)) (hno : ∀ x ∈ c.exceptionTable.toList, False) (hnm : meth.name = yX10_size.name) (x0 : Int) (M : Mo) (h : X10_size x0 M = some res) : J p l e R s m args below meth c 1 G ρ0 M0 1 res M 0 [(0, (false, x0))] [] := by
  unfold X10_size at h
  refine j_aload_n F 0 rfl rfl dX10_size_0 ?_
  obtain ⟨g1, h⟩ := gua h
  refine j_get F ft_X10_27 rfl g1 dX10_size_1 ?_
  exact j_iret F h dX10_size_4
theorem c_X10_size (l : Launch) (hl : l.stackTraces = false) (G : Gt) (x0 : Int) (M : Mo) (z : RS) (h : X10_size x0 M = some z) : CT l G yX10_size (cn yX10_size cX10_size 1 (some FieldType.int)) 0 [(false, x0)] M 1 z :=
  ctOf hl (by decide) (Nat.le_of_ble_eq_true rfl) (fun p e R s m args below meth c ρ F hno hnm => w_X10_size_0 F hno hnm x0 M h)
theorem dX10_at_0 : decode cX10_at 0 = .ok (.iload_n 1, 1) := by decide +kernel
theorem dX10_at_1 : decode cX10_at 1 = .ok (.ifCond .lt 29, 3) := by decide +kernel
theorem dX10_at_30 : decode cX10_at 30 = .ok (.iconst (-1), 1) := by decide +kernel
theorem dX10_at_31 : decode cX10_at 31 = .ok (.ireturn, 1) := by decide +kernel
theorem dX10_at_4 : decode cX10_at 4 = .ok (.iload_n 1, 1) := by decide +kernel
theorem dX10_at_5 : decode cX10_at 5 = .ok (.aload_n 0, 1) := by decide +kernel
theorem dX10_at_6 : decode cX10_at 6 = .ok (.getfield 27, 3) := by decide +kernel
theorem dX10_at_9 : decode cX10_at 9 = .ok (.if_icmp .ge 21, 3) := by decide +kernel
theorem dX10_at_12 : decode cX10_at 12 = .ok (.iload_n 1, 1) := by decide +kernel
theorem dX10_at_13 : decode cX10_at 13 = .ok (.aload_n 0, 1) := by decide +kernel
theorem dX10_at_14 : decode cX10_at 14 = .ok (.getfield 9, 3) := by decide +kernel
theorem dX10_at_17 : decode cX10_at 17 = .ok (.arraylength, 1) := by decide +kernel
theorem dX10_at_18 : decode cX10_at 18 = .ok (.if_icmp .ge 12, 3) := by decide +kernel
theorem dX10_at_21 : decode cX10_at 21 = .ok (.aload_n 0, 1) := by decide +kernel
theorem dX10_at_22 : decode cX10_at 22 = .ok (.getfield 9, 3) := by decide +kernel
theorem dX10_at_25 : decode cX10_at 25 = .ok (.iload_n 1, 1) := by decide +kernel
theorem dX10_at_26 : decode cX10_at 26 = .ok (.caload, 1) := by decide +kernel
theorem dX10_at_27 : decode cX10_at 27 = .ok (.goto 4, 3) := by decide +kernel
set_option maxHeartbeats 4000000 in
set_option maxRecDepth 100000 in
theorem w_X10_at_0 {p : Program} {l : Launch} {e : Env} {R : Room} {s : State} {m : MethodId} {args : Array Value} {below : List Frame} {meth : Method} {c : Code} {G : Gt} {ρ0 : Int → Nat} {M0 : Mo} {res : RS} (F : Fx p l R s m args meth c cX10_at 2 RX10 G M0 0 (some FieldType.int)) (hno : ∀ x ∈ c.exceptionTable.toList, False) (hnm : meth.name = yX10_at.name) (x0 x1 : Int) (M : Mo) (h : X10_at x0 x1 M = some res) : J p l e R s m args below meth c 2 G ρ0 M0 1 res M 0 [(0, (false, x0)), (1, (true, x1))] [] := by
  unfold X10_at at h
  refine j_iload_n F 1 rfl rfl dX10_at_0 ?_
  refine j_if_lt F 30 (by decide) dX10_at_1 h (fun h => ?_) (fun h => ?_)
  · skip
    refine j_iconst F dX10_at_30 ?_
    exact j_iret F h dX10_at_31
  · skip
    refine j_iload_n F 1 rfl rfl dX10_at_4 ?_
    refine j_aload_n F 0 rfl rfl dX10_at_5 ?_
    obtain ⟨g1, h⟩ := gua h
    refine j_get F ft_X10_27 rfl g1 dX10_at_6 ?_
    refine j_icmp_ge F 30 (by decide) dX10_at_9 h (fun h => ?_) (fun h => ?_)
    · skip
      refine j_iconst F dX10_at_30 ?_
      exact j_iret F h dX10_at_31
    · skip
      refine j_iload_n F 1 rfl rfl dX10_at_12 ?_
      refine j_aload_n F 0 rfl rfl dX10_at_13 ?_
      refine j_get F ft_X10_9 rfl g1 dX10_at_14 ?_
      obtain ⟨g2, h⟩ := gua h
      refine j_alen F g2 dX10_at_17 ?_
      refine j_icmp_ge F 30 (by decide) dX10_at_18 h (fun h => ?_) (fun h => ?_)
      · skip
        refine j_iconst F dX10_at_30 ?_
        exact j_iret F h dX10_at_31
      · skip
        refine j_aload_n F 0 rfl rfl dX10_at_21 ?_
        refine j_get F ft_X10_9 rfl g1 dX10_at_22 ?_
        refine j_iload_n F 1 rfl rfl dX10_at_25 ?_
        obtain ⟨g3, h⟩ := gua h
        obtain ⟨g4, h⟩ := gua h
        refine j_caload F g3 g4 dX10_at_26 ?_
        refine j_goto F 31 (by decide) dX10_at_27 ?_
        exact j_iret F h dX10_at_31
theorem c_X10_at (l : Launch) (hl : l.stackTraces = false) (G : Gt) (x0 x1 : Int) (M : Mo) (z : RS) (h : X10_at x0 x1 M = some z) : CT l G yX10_at (cn yX10_at cX10_at 2 (some FieldType.int)) 0 [(false, x0), (true, x1)] M 1 z :=
  ctOf hl (by decide) (Nat.le_of_ble_eq_true rfl) (fun p e R s m args below meth c ρ F hno hnm => w_X10_at_0 F hno hnm x0 x1 M h)
theorem dX10_takePart_0 : decode cX10_takePart 0 = .ok (.iload_n 2, 1) := by decide +kernel
theorem dX10_takePart_1 : decode cX10_takePart 1 = .ok (.ifCond .lt 25, 3) := by decide +kernel
theorem dX10_takePart_26 : decode cX10_takePart 26 = .ok (.return_, 1) := by decide +kernel
theorem dX10_takePart_4 : decode cX10_takePart 4 = .ok (.iload_n 3, 1) := by decide +kernel
theorem dX10_takePart_5 : decode cX10_takePart 5 = .ok (.iload_n 2, 1) := by decide +kernel
theorem dX10_takePart_6 : decode cX10_takePart 6 = .ok (.if_icmp .lt 20, 3) := by decide +kernel
theorem dX10_takePart_9 : decode cX10_takePart 9 = .ok (.iload_n 3, 1) := by decide +kernel
theorem dX10_takePart_10 : decode cX10_takePart 10 = .ok (.aload_n 1, 1) := by decide +kernel
theorem dX10_takePart_11 : decode cX10_takePart 11 = .ok (.getfield 27, 3) := by decide +kernel
theorem dX10_takePart_14 : decode cX10_takePart 14 = .ok (.if_icmp .gt 12, 3) := by decide +kernel
theorem dX10_takePart_17 : decode cX10_takePart 17 = .ok (.iload_n 3, 1) := by decide +kernel
theorem dX10_takePart_18 : decode cX10_takePart 18 = .ok (.aload_n 1, 1) := by decide +kernel
theorem dX10_takePart_19 : decode cX10_takePart 19 = .ok (.getfield 9, 3) := by decide +kernel
theorem dX10_takePart_22 : decode cX10_takePart 22 = .ok (.arraylength, 1) := by decide +kernel
theorem dX10_takePart_23 : decode cX10_takePart 23 = .ok (.if_icmp .le 4, 3) := by decide +kernel
theorem dX10_takePart_27 : decode cX10_takePart 27 = .ok (.aload_n 1, 1) := by decide +kernel
theorem dX10_takePart_28 : decode cX10_takePart 28 = .ok (.getfield 9, 3) := by decide +kernel
theorem dX10_takePart_31 : decode cX10_takePart 31 = .ok (.iload_n 2, 1) := by decide +kernel
theorem dX10_takePart_32 : decode cX10_takePart 32 = .ok (.aload_n 0, 1) := by decide +kernel
theorem dX10_takePart_33 : decode cX10_takePart 33 = .ok (.getfield 9, 3) := by decide +kernel
theorem dX10_takePart_36 : decode cX10_takePart 36 = .ok (.iconst 0, 1) := by decide +kernel
theorem dX10_takePart_37 : decode cX10_takePart 37 = .ok (.iload_n 3, 1) := by decide +kernel
theorem dX10_takePart_38 : decode cX10_takePart 38 = .ok (.iload_n 2, 1) := by decide +kernel
theorem dX10_takePart_39 : decode cX10_takePart 39 = .ok (.isub, 1) := by decide +kernel
set_option maxRecDepth 100000 in
theorem q658 : Cond.methodLink RX10 35 arraycopyName ∈ GT := gt 658 (by decide +kernel) (by decide +kernel)
set_option maxRecDepth 100000 in
theorem q574 : Cond.native arraycopyName ∈ GT := gt 574 (by decide +kernel) (by decide +kernel)
set_option maxRecDepth 100000 in
theorem q573 : Cond.static arraycopyName ∈ GT := gt 573 (by decide +kernel) (by decide +kernel)
set_option maxRecDepth 100000 in
theorem q71 : Cond.initialized RJ10 ∈ GT := gt 71 (by decide +kernel) (by decide +kernel)
theorem dX10_takePart_40 : decode cX10_takePart 40 = .ok (.invokestatic 35, 3) := by decide +kernel
theorem dX10_takePart_43 : decode cX10_takePart 43 = .ok (.aload_n 0, 1) := by decide +kernel
theorem dX10_takePart_44 : decode cX10_takePart 44 = .ok (.iload_n 3, 1) := by decide +kernel
theorem dX10_takePart_45 : decode cX10_takePart 45 = .ok (.iload_n 2, 1) := by decide +kernel
theorem dX10_takePart_46 : decode cX10_takePart 46 = .ok (.isub, 1) := by decide +kernel
theorem dX10_takePart_47 : decode cX10_takePart 47 = .ok (.putfield 27, 3) := by decide +kernel
theorem dX10_takePart_50 : decode cX10_takePart 50 = .ok (.return_, 1) := by decide +kernel
set_option maxHeartbeats 4000000 in
set_option maxRecDepth 100000 in
theorem w_X10_takePart_0 {p : Program} {l : Launch} {e : Env} {R : Room} {s : State} {m : MethodId} {args : Array Value} {below : List Frame} {meth : Method} {c : Code} {G : Gt} {ρ0 : Int → Nat} {M0 : Mo} {res : RS} (F : Fx p l R s m args meth c cX10_takePart 4 RX10 G M0 1 none) (hno : ∀ x ∈ c.exceptionTable.toList, False) (hnm : meth.name = yX10_takePart.name) (x0 x1 x2 x3 : Int) (M : Mo) (h : X10_takePart x0 x1 x2 x3 M = some res) : J p l e R s m args below meth c 4 G ρ0 M0 0 res M 0 [(0, (false, x0)), (1, (false, x1)), (2, (true, x2)), (3, (true, x3))] [] := by
  unfold X10_takePart at h
  refine j_iload_n F 2 rfl rfl dX10_takePart_0 ?_
  refine j_if_lt F 26 (by decide) dX10_takePart_1 h (fun h => ?_) (fun h => ?_)
  · skip
    exact j_vret F (v := 0) h dX10_takePart_26
  · skip
    refine j_iload_n F 3 rfl rfl dX10_takePart_4 ?_
    refine j_iload_n F 2 rfl rfl dX10_takePart_5 ?_
    refine j_icmp_lt F 26 (by decide) dX10_takePart_6 h (fun h => ?_) (fun h => ?_)
    · skip
      exact j_vret F (v := 0) h dX10_takePart_26
    · skip
      refine j_iload_n F 3 rfl rfl dX10_takePart_9 ?_
      refine j_aload_n F 1 rfl rfl dX10_takePart_10 ?_
      obtain ⟨g1, h⟩ := gua h
      refine j_get F ft_X10_27 rfl g1 dX10_takePart_11 ?_
      refine j_icmp_gt F 26 (by decide) dX10_takePart_14 h (fun h => ?_) (fun h => ?_)
      · skip
        exact j_vret F (v := 0) h dX10_takePart_26
      · skip
        refine j_iload_n F 3 rfl rfl dX10_takePart_17 ?_
        refine j_aload_n F 1 rfl rfl dX10_takePart_18 ?_
        refine j_get F ft_X10_9 rfl g1 dX10_takePart_19 ?_
        obtain ⟨g2, h⟩ := gua h
        refine j_alen F g2 dX10_takePart_22 ?_
        refine j_icmp_le F 27 (by decide) dX10_takePart_23 h (fun h => ?_) (fun h => ?_)
        · skip
          refine j_aload_n F 1 rfl rfl dX10_takePart_27 ?_
          refine j_get F ft_X10_9 rfl g1 dX10_takePart_28 ?_
          refine j_iload_n F 2 rfl rfl dX10_takePart_31 ?_
          refine j_aload_n F 0 rfl rfl dX10_takePart_32 ?_
          obtain ⟨g3, h⟩ := gua h
          refine j_get F ft_X10_9 rfl g3 dX10_takePart_33 ?_
          refine j_iconst F dX10_takePart_36 ?_
          refine j_iload_n F 3 rfl rfl dX10_takePart_37 ?_
          refine j_iload_n F 2 rfl rfl dX10_takePart_38 ?_
          refine j_isub F dX10_takePart_39 ?_
          obtain ⟨g4, h⟩ := gua h
          obtain ⟨g5, h⟩ := gua h
          obtain ⟨g6, h⟩ := gua h
          refine j_copyC F ⟨q658, q574, q573, q71⟩ g4 g5 g6 (by decide) (Nat.le_of_ble_eq_true rfl) dX10_takePart_40 ?_
          obtain ⟨M7, hM7⟩ : ∃ Z, Z = cpE M 1 (fd M 11 0 x1) (wr x2) (fd M 11 0 x0) (wr 0) (wr (x3 - x2)) := ⟨_, rfl⟩
          have kl8 : kle M M7 := by rw [hM7]; exact kle_cpE
          rw [← hM7]
          replace h := pt_as h hM7
          refine j_aload_n F 0 rfl rfl dX10_takePart_43 ?_
          refine j_iload_n F 3 rfl rfl dX10_takePart_44 ?_
          refine j_iload_n F 2 rfl rfl dX10_takePart_45 ?_
          refine j_isub F dX10_takePart_46 ?_
          refine j_put (ty := .int) F ft_X10_27 rfl rfl tyX10 tyX10_ok nmX10 (by decide +kernel) (nf_int _) (kl8.is g3) dX10_takePart_47 ?_
          obtain ⟨M9, hM9⟩ : ∃ Z, Z = sF M7 11 1 x0 (x3 - x2) := ⟨_, rfl⟩
          have kl10 : kle M7 M9 := by rw [hM9]; exact kle_sF
          rw [← hM9]
          replace h := pt_as h hM9
          exact j_vret F (v := 0) h dX10_takePart_50
        · skip
          exact j_vret F (v := 0) h dX10_takePart_26
theorem c_X10_takePart (l : Launch) (hl : l.stackTraces = false) (G : Gt) (x0 x1 x2 x3 : Int) (M : Mo) (z : RS) (h : X10_takePart x0 x1 x2 x3 M = some z) : CT l G yX10_takePart (cn yX10_takePart cX10_takePart 4 none) 1 [(false, x0), (false, x1), (true, x2), (true, x3)] M 0 z :=
  ctOf hl (by decide) (Nat.le_of_ble_eq_true rfl) (fun p e R s m args below meth c ρ F hno hnm => w_X10_takePart_0 F hno hnm x0 x1 x2 x3 M h)
theorem dX10_takeAll_0 : decode cX10_takeAll 0 = .ok (.aload_n 0, 1) := by decide +kernel
theorem dX10_takeAll_1 : decode cX10_takeAll 1 = .ok (.aload_n 1, 1) := by decide +kernel
theorem dX10_takeAll_2 : decode cX10_takeAll 2 = .ok (.iconst 0, 1) := by decide +kernel
theorem dX10_takeAll_3 : decode cX10_takeAll 3 = .ok (.aload_n 1, 1) := by decide +kernel
theorem dX10_takeAll_4 : decode cX10_takeAll 4 = .ok (.getfield 27, 3) := by decide +kernel
set_option maxRecDepth 100000 in
theorem q704 : Cond.code yX10_takePart cX10_takePart 4 none ∈ GT := gt 704 (rfl) (by decide +kernel)
theorem M_X10_takePart : MY yX10_takePart cX10_takePart 4 none 3 := ⟨q704, q54, by decide +kernel, by decide +kernel⟩
set_option maxRecDepth 100000 in
theorem q702 : Cond.instanceMethod yX10_takePart ∈ GT := gt 702 (by decide +kernel) (by decide +kernel)
set_option maxRecDepth 100000 in
theorem q703 : Cond.selects RX10 yX10_takePart yX10_takePart ∈ GT := gt 703 (by decide +kernel) (by decide +kernel)
set_option maxRecDepth 100000 in
theorem q701 : Cond.methodLink RX10 31 yX10_takePart ∈ GT := gt 701 (by decide +kernel) (by decide +kernel)
theorem dX10_takeAll_7 : decode cX10_takeAll 7 = .ok (.invokevirtual 31, 3) := by decide +kernel
theorem dX10_takeAll_10 : decode cX10_takeAll 10 = .ok (.return_, 1) := by decide +kernel
set_option maxHeartbeats 4000000 in
set_option maxRecDepth 100000 in
theorem w_X10_takeAll_0 {p : Program} {l : Launch} {e : Env} {R : Room} {s : State} {m : MethodId} {args : Array Value} {below : List Frame} {meth : Method} {c : Code} {G : Gt} {ρ0 : Int → Nat} {M0 : Mo} {res : RS} (F : Fx p l R s m args meth c cX10_takeAll 2 RX10 G M0 2 none) (hno : ∀ x ∈ c.exceptionTable.toList, False) (hnm : meth.name = yX10_takeAll.name) (x0 x1 : Int) (M : Mo) (h : X10_takeAll x0 x1 M = some res) : J p l e R s m args below meth c 2 G ρ0 M0 0 res M 0 [(0, (false, x0)), (1, (false, x1))] [] := by
  unfold X10_takeAll at h
  refine j_aload_n F 0 rfl rfl dX10_takeAll_0 ?_
  refine j_aload_n F 1 rfl rfl dX10_takeAll_1 ?_
  refine j_iconst F dX10_takeAll_2 ?_
  refine j_aload_n F 1 rfl rfl dX10_takeAll_3 ?_
  obtain ⟨g1, h⟩ := gua h
  refine j_get F ft_X10_27 rfl g1 dX10_takeAll_4 ?_
  obtain ⟨g5, h⟩ := gua h
  refine j_callV (d' := 1) (argl := [(false, x1), (true, 0), (true, (fd M 11 1 x1))]) (rk9 := 0) (st := []) F hno M_X10_takePart q702 q703 q701 ⟨by decide, by decide⟩ (Nat.le_of_ble_eq_true rfl) (by decide) (ci := 11) rfl (by decide) g5 dX10_takeAll_7 rfl h (fun z hz => c_X10_takePart l F.ht G x0 x1 0 (fd M 11 1 x1) M z hz) (fun v2 M3 h kl4 => ?_)
  refine j_st (st' := []) rfl ?_
  exact j_vret F (v := 0) h dX10_takeAll_10
theorem c_X10_takeAll (l : Launch) (hl : l.stackTraces = false) (G : Gt) (x0 x1 : Int) (M : Mo) (z : RS) (h : X10_takeAll x0 x1 M = some z) : CT l G yX10_takeAll (cn yX10_takeAll cX10_takeAll 2 none) 2 [(false, x0), (false, x1)] M 0 z :=
  ctOf hl (by decide) (Nat.le_of_ble_eq_true rfl) (fun p e R s m args below meth c ρ F hno hnm => w_X10_takeAll_0 F hno hnm x0 x1 M h)
theorem dX10_canReplace_0 : decode cX10_canReplace 0 = .ok (.iload_n 1, 1) := by decide +kernel
theorem dX10_canReplace_1 : decode cX10_canReplace 1 = .ok (.ifCond .lt 41, 3) := by decide +kernel
theorem dX10_canReplace_42 : decode cX10_canReplace 42 = .ok (.iconst 0, 1) := by decide +kernel
theorem dX10_canReplace_43 : decode cX10_canReplace 43 = .ok (.ireturn, 1) := by decide +kernel
theorem dX10_canReplace_4 : decode cX10_canReplace 4 = .ok (.iload_n 1, 1) := by decide +kernel
theorem dX10_canReplace_5 : decode cX10_canReplace 5 = .ok (.iload_n 2, 1) := by decide +kernel
theorem dX10_canReplace_6 : decode cX10_canReplace 6 = .ok (.if_icmp .gt 36, 3) := by decide +kernel
theorem dX10_canReplace_9 : decode cX10_canReplace 9 = .ok (.iload_n 2, 1) := by decide +kernel
theorem dX10_canReplace_10 : decode cX10_canReplace 10 = .ok (.aload_n 0, 1) := by decide +kernel
theorem dX10_canReplace_11 : decode cX10_canReplace 11 = .ok (.getfield 27, 3) := by decide +kernel
theorem dX10_canReplace_14 : decode cX10_canReplace 14 = .ok (.if_icmp .gt 28, 3) := by decide +kernel
theorem dX10_canReplace_17 : decode cX10_canReplace 17 = .ok (.aload_n 0, 1) := by decide +kernel
theorem dX10_canReplace_18 : decode cX10_canReplace 18 = .ok (.getfield 27, 3) := by decide +kernel
theorem dX10_canReplace_21 : decode cX10_canReplace 21 = .ok (.iload_n 2, 1) := by decide +kernel
theorem dX10_canReplace_22 : decode cX10_canReplace 22 = .ok (.iload_n 1, 1) := by decide +kernel
theorem dX10_canReplace_23 : decode cX10_canReplace 23 = .ok (.isub, 1) := by decide +kernel
theorem dX10_canReplace_24 : decode cX10_canReplace 24 = .ok (.isub, 1) := by decide +kernel
theorem dX10_canReplace_25 : decode cX10_canReplace 25 = .ok (.iload_n 3, 1) := by decide +kernel
set_option maxRecDepth 100000 in
theorem q652 : Cond.code yX10_unitsOf cX10_unitsOf 1 (some FieldType.int) ∈ GT := gt 652 (rfl) (by decide +kernel)
theorem M_X10_unitsOf : MY yX10_unitsOf cX10_unitsOf 1 (some FieldType.int) 1 := ⟨q652, q54, by decide +kernel, by decide +kernel⟩
set_option maxRecDepth 100000 in
theorem q651 : Cond.static yX10_unitsOf ∈ GT := gt 651 (by decide +kernel) (by decide +kernel)
set_option maxRecDepth 100000 in
theorem q650 : Cond.methodLink RX10 41 yX10_unitsOf ∈ GT := gt 650 (by decide +kernel) (by decide +kernel)
theorem dX10_canReplace_26 : decode cX10_canReplace 26 = .ok (.invokestatic 41, 3) := by decide +kernel
theorem dX10_canReplace_29 : decode cX10_canReplace 29 = .ok (.iadd, 1) := by decide +kernel
theorem dX10_canReplace_30 : decode cX10_canReplace 30 = .ok (.aload_n 0, 1) := by decide +kernel
theorem dX10_canReplace_31 : decode cX10_canReplace 31 = .ok (.getfield 9, 3) := by decide +kernel
theorem dX10_canReplace_34 : decode cX10_canReplace 34 = .ok (.arraylength, 1) := by decide +kernel
theorem dX10_canReplace_35 : decode cX10_canReplace 35 = .ok (.if_icmp .gt 7, 3) := by decide +kernel
theorem dX10_canReplace_38 : decode cX10_canReplace 38 = .ok (.iconst 1, 1) := by decide +kernel
theorem dX10_canReplace_39 : decode cX10_canReplace 39 = .ok (.goto 4, 3) := by decide +kernel
set_option maxHeartbeats 4000000 in
set_option maxRecDepth 100000 in
theorem w_X10_canReplace_0 {p : Program} {l : Launch} {e : Env} {R : Room} {s : State} {m : MethodId} {args : Array Value} {below : List Frame} {meth : Method} {c : Code} {G : Gt} {ρ0 : Int → Nat} {M0 : Mo} {res : RS} (F : Fx p l R s m args meth c cX10_canReplace 4 RX10 G M0 1 (some FieldType.boolean)) (hno : ∀ x ∈ c.exceptionTable.toList, False) (hnm : meth.name = yX10_canReplace.name) (x0 x1 x2 x3 : Int) (M : Mo) (h : X10_canReplace x0 x1 x2 x3 M = some res) : J p l e R s m args below meth c 4 G ρ0 M0 1 res M 0 [(0, (false, x0)), (1, (true, x1)), (2, (true, x2)), (3, (true, x3))] [] := by
  unfold X10_canReplace at h
  refine j_iload_n F 1 rfl rfl dX10_canReplace_0 ?_
  refine j_if_lt F 42 (by decide) dX10_canReplace_1 h (fun h => ?_) (fun h => ?_)
  · skip
    refine j_iconst F dX10_canReplace_42 ?_
    exact j_zret F (by decide) h dX10_canReplace_43
  · skip
    refine j_iload_n F 1 rfl rfl dX10_canReplace_4 ?_
    refine j_iload_n F 2 rfl rfl dX10_canReplace_5 ?_
    refine j_icmp_gt F 42 (by decide) dX10_canReplace_6 h (fun h => ?_) (fun h => ?_)
    · skip
      refine j_iconst F dX10_canReplace_42 ?_
      exact j_zret F (by decide) h dX10_canReplace_43
    · skip
      refine j_iload_n F 2 rfl rfl dX10_canReplace_9 ?_
      refine j_aload_n F 0 rfl rfl dX10_canReplace_10 ?_
      obtain ⟨g1, h⟩ := gua h
      refine j_get F ft_X10_27 rfl g1 dX10_canReplace_11 ?_
      refine j_icmp_gt F 42 (by decide) dX10_canReplace_14 h (fun h => ?_) (fun h => ?_)
      · skip
        refine j_iconst F dX10_canReplace_42 ?_
        exact j_zret F (by decide) h dX10_canReplace_43
      · skip
        refine j_aload_n F 0 rfl rfl dX10_canReplace_17 ?_
        refine j_get F ft_X10_27 rfl g1 dX10_canReplace_18 ?_
        refine j_iload_n F 2 rfl rfl dX10_canReplace_21 ?_
        refine j_iload_n F 1 rfl rfl dX10_canReplace_22 ?_
        refine j_isub F dX10_canReplace_23 ?_
        refine j_isub F dX10_canReplace_24 ?_
        refine j_iload_n F 3 rfl rfl dX10_canReplace_25 ?_
        refine j_callS (d' := 0) (argl := [(true, x3)]) (rk9 := 1) (st := [(true, ((fd M 11 1 x0) - (x2 - x1)))]) F hno M_X10_unitsOf q651 q650 ⟨by decide, by decide⟩ (Nat.le_of_ble_eq_true rfl) (by decide) dX10_canReplace_26 rfl h (fun z hz => c_X10_unitsOf l F.ht G x3 M z hz) (fun v2 M3 h kl4 => ?_)
        refine j_st (st' := [(true, v2), (true, ((fd M 11 1 x0) - (x2 - x1)))]) rfl ?_
        refine j_iadd F dX10_canReplace_29 ?_
        refine j_aload_n F 0 rfl rfl dX10_canReplace_30 ?_
        refine j_get F ft_X10_9 rfl (kl4.is g1) dX10_canReplace_31 ?_
        obtain ⟨g5, h⟩ := gua h
        refine j_alen F g5 dX10_canReplace_34 ?_
        refine j_icmp_gt F 42 (by decide) dX10_canReplace_35 h (fun h => ?_) (fun h => ?_)
        · skip
          refine j_iconst F dX10_canReplace_42 ?_
          exact j_zret F (by decide) h dX10_canReplace_43
        · skip
          refine j_iconst F dX10_canReplace_38 ?_
          refine j_goto F 43 (by decide) dX10_canReplace_39 ?_
          exact j_zret F (by decide) h dX10_canReplace_43
theorem c_X10_canReplace (l : Launch) (hl : l.stackTraces = false) (G : Gt) (x0 x1 x2 x3 : Int) (M : Mo) (z : RS) (h : X10_canReplace x0 x1 x2 x3 M = some z) : CT l G yX10_canReplace (cn yX10_canReplace cX10_canReplace 4 (some FieldType.boolean)) 1 [(false, x0), (true, x1), (true, x2), (true, x3)] M 1 z :=
  ctOf hl (by decide) (Nat.le_of_ble_eq_true rfl) (fun p e R s m args below meth c ρ F hno hnm => w_X10_canReplace_0 F hno hnm x0 x1 x2 x3 M h)
theorem dX10_replace_0 : decode cX10_replace 0 = .ok (.iload_n 3, 1) := by decide +kernel
theorem dX10_replace_1 : decode cX10_replace 1 = .ok (.invokestatic 41, 3) := by decide +kernel
theorem dX10_replace_4 : decode cX10_replace 4 = .ok (.istore 4, 2) := by decide +kernel
theorem dX10_replace_6 : decode cX10_replace 6 = .ok (.iload_n 1, 1) := by decide +kernel
theorem dX10_replace_7 : decode cX10_replace 7 = .ok (.ifCond .lt 35, 3) := by decide +kernel
theorem dX10_replace_42 : decode cX10_replace 42 = .ok (.return_, 1) := by decide +kernel
theorem dX10_replace_10 : decode cX10_replace 10 = .ok (.iload_n 1, 1) := by decide +kernel
theorem dX10_replace_11 : decode cX10_replace 11 = .ok (.iload_n 2, 1) := by decide +kernel
theorem dX10_replace_12 : decode cX10_replace 12 = .ok (.if_icmp .gt 30, 3) := by decide +kernel
theorem dX10_replace_15 : decode cX10_replace 15 = .ok (.iload_n 2, 1) := by decide +kernel
theorem dX10_replace_16 : decode cX10_replace 16 = .ok (.aload_n 0, 1) := by decide +kernel
theorem dX10_replace_17 : decode cX10_replace 17 = .ok (.getfield 27, 3) := by decide +kernel
theorem dX10_replace_20 : decode cX10_replace 20 = .ok (.if_icmp .gt 22, 3) := by decide +kernel
theorem dX10_replace_23 : decode cX10_replace 23 = .ok (.aload_n 0, 1) := by decide +kernel
theorem dX10_replace_24 : decode cX10_replace 24 = .ok (.getfield 27, 3) := by decide +kernel
theorem dX10_replace_27 : decode cX10_replace 27 = .ok (.iload_n 2, 1) := by decide +kernel
theorem dX10_replace_28 : decode cX10_replace 28 = .ok (.iload_n 1, 1) := by decide +kernel
theorem dX10_replace_29 : decode cX10_replace 29 = .ok (.isub, 1) := by decide +kernel
theorem dX10_replace_30 : decode cX10_replace 30 = .ok (.isub, 1) := by decide +kernel
theorem dX10_replace_31 : decode cX10_replace 31 = .ok (.iload 4, 2) := by decide +kernel
theorem dX10_replace_33 : decode cX10_replace 33 = .ok (.iadd, 1) := by decide +kernel
theorem dX10_replace_34 : decode cX10_replace 34 = .ok (.aload_n 0, 1) := by decide +kernel
theorem dX10_replace_35 : decode cX10_replace 35 = .ok (.getfield 9, 3) := by decide +kernel
theorem dX10_replace_38 : decode cX10_replace 38 = .ok (.arraylength, 1) := by decide +kernel
theorem dX10_replace_39 : decode cX10_replace 39 = .ok (.if_icmp .le 4, 3) := by decide +kernel
theorem dX10_replace_43 : decode cX10_replace 43 = .ok (.aload_n 0, 1) := by decide +kernel
theorem dX10_replace_44 : decode cX10_replace 44 = .ok (.getfield 9, 3) := by decide +kernel
theorem dX10_replace_47 : decode cX10_replace 47 = .ok (.iload_n 2, 1) := by decide +kernel
theorem dX10_replace_48 : decode cX10_replace 48 = .ok (.aload_n 0, 1) := by decide +kernel
theorem dX10_replace_49 : decode cX10_replace 49 = .ok (.getfield 9, 3) := by decide +kernel
theorem dX10_replace_52 : decode cX10_replace 52 = .ok (.iload_n 1, 1) := by decide +kernel
theorem dX10_replace_53 : decode cX10_replace 53 = .ok (.iload 4, 2) := by decide +kernel
theorem dX10_replace_55 : decode cX10_replace 55 = .ok (.iadd, 1) := by decide +kernel
theorem dX10_replace_56 : decode cX10_replace 56 = .ok (.aload_n 0, 1) := by decide +kernel
theorem dX10_replace_57 : decode cX10_replace 57 = .ok (.getfield 27, 3) := by decide +kernel
theorem dX10_replace_60 : decode cX10_replace 60 = .ok (.iload_n 2, 1) := by decide +kernel
theorem dX10_replace_61 : decode cX10_replace 61 = .ok (.isub, 1) := by decide +kernel
theorem dX10_replace_62 : decode cX10_replace 62 = .ok (.invokestatic 35, 3) := by decide +kernel
theorem dX10_replace_65 : decode cX10_replace 65 = .ok (.aload_n 0, 1) := by decide +kernel
theorem dX10_replace_66 : decode cX10_replace 66 = .ok (.aload_n 0, 1) := by decide +kernel
theorem dX10_replace_67 : decode cX10_replace 67 = .ok (.getfield 27, 3) := by decide +kernel
theorem dX10_replace_70 : decode cX10_replace 70 = .ok (.iload_n 2, 1) := by decide +kernel
theorem dX10_replace_71 : decode cX10_replace 71 = .ok (.iload_n 1, 1) := by decide +kernel
theorem dX10_replace_72 : decode cX10_replace 72 = .ok (.isub, 1) := by decide +kernel
theorem dX10_replace_73 : decode cX10_replace 73 = .ok (.isub, 1) := by decide +kernel
theorem dX10_replace_74 : decode cX10_replace 74 = .ok (.iload 4, 2) := by decide +kernel
theorem dX10_replace_76 : decode cX10_replace 76 = .ok (.iadd, 1) := by decide +kernel
theorem dX10_replace_77 : decode cX10_replace 77 = .ok (.putfield 27, 3) := by decide +kernel
theorem dX10_replace_80 : decode cX10_replace 80 = .ok (.iload 4, 2) := by decide +kernel
theorem dX10_replace_82 : decode cX10_replace 82 = .ok (.iconst 1, 1) := by decide +kernel
theorem dX10_replace_83 : decode cX10_replace 83 = .ok (.if_icmp .ne 23, 3) := by decide +kernel
theorem dX10_replace_86 : decode cX10_replace 86 = .ok (.iload_n 1, 1) := by decide +kernel
theorem dX10_replace_87 : decode cX10_replace 87 = .ok (.aload_n 0, 1) := by decide +kernel
theorem dX10_replace_88 : decode cX10_replace 88 = .ok (.getfield 9, 3) := by decide +kernel
theorem dX10_replace_91 : decode cX10_replace 91 = .ok (.arraylength, 1) := by decide +kernel
theorem dX10_replace_92 : decode cX10_replace 92 = .ok (.if_icmp .ge 14, 3) := by decide +kernel
theorem dX10_replace_95 : decode cX10_replace 95 = .ok (.aload_n 0, 1) := by decide +kernel
theorem dX10_replace_96 : decode cX10_replace 96 = .ok (.getfield 9, 3) := by decide +kernel
theorem dX10_replace_99 : decode cX10_replace 99 = .ok (.iload_n 1, 1) := by decide +kernel
theorem dX10_replace_100 : decode cX10_replace 100 = .ok (.iload_n 3, 1) := by decide +kernel
theorem dX10_replace_101 : decode cX10_replace 101 = .ok (.i2c, 1) := by decide +kernel
theorem dX10_replace_102 : decode cX10_replace 102 = .ok (.castore, 1) := by decide +kernel
theorem dX10_replace_103 : decode cX10_replace 103 = .ok (.goto 57, 3) := by decide +kernel
theorem dX10_replace_160 : decode cX10_replace 160 = .ok (.return_, 1) := by decide +kernel
theorem dX10_replace_106 : decode cX10_replace 106 = .ok (.iload 4, 2) := by decide +kernel
theorem dX10_replace_108 : decode cX10_replace 108 = .ok (.iconst 2, 1) := by decide +kernel
theorem dX10_replace_109 : decode cX10_replace 109 = .ok (.if_icmp .ne 51, 3) := by decide +kernel
theorem dX10_replace_112 : decode cX10_replace 112 = .ok (.iload_n 1, 1) := by decide +kernel
theorem dX10_replace_113 : decode cX10_replace 113 = .ok (.iconst 1, 1) := by decide +kernel
theorem dX10_replace_114 : decode cX10_replace 114 = .ok (.iadd, 1) := by decide +kernel
theorem dX10_replace_115 : decode cX10_replace 115 = .ok (.aload_n 0, 1) := by decide +kernel
theorem dX10_replace_116 : decode cX10_replace 116 = .ok (.getfield 9, 3) := by decide +kernel
theorem dX10_replace_119 : decode cX10_replace 119 = .ok (.arraylength, 1) := by decide +kernel
theorem dX10_replace_120 : decode cX10_replace 120 = .ok (.if_icmp .ge 40, 3) := by decide +kernel
theorem dX10_replace_123 : decode cX10_replace 123 = .ok (.aload_n 0, 1) := by decide +kernel
theorem dX10_replace_124 : decode cX10_replace 124 = .ok (.getfield 9, 3) := by decide +kernel
theorem dX10_replace_127 : decode cX10_replace 127 = .ok (.iload_n 1, 1) := by decide +kernel
set_option maxRecDepth 100000 in
theorem q659 : Cond.constant RX10 45 (iI (55296)) ∈ GT := gt 659 (by decide +kernel) (by decide +kernel)
theorem dX10_replace_128 : decode cX10_replace 128 = .ok (.ldc 45, 2) := by decide +kernel
theorem dX10_replace_130 : decode cX10_replace 130 = .ok (.iload_n 3, 1) := by decide +kernel
set_option maxRecDepth 100000 in
theorem q660 : Cond.constant RX10 46 (iI (65536)) ∈ GT := gt 660 (by decide +kernel) (by decide +kernel)
theorem dX10_replace_131 : decode cX10_replace 131 = .ok (.ldc 46, 2) := by decide +kernel
theorem dX10_replace_133 : decode cX10_replace 133 = .ok (.isub, 1) := by decide +kernel
theorem dX10_replace_134 : decode cX10_replace 134 = .ok (.bipush 10, 2) := by decide +kernel
theorem dX10_replace_136 : decode cX10_replace 136 = .ok (.ishr, 1) := by decide +kernel
theorem dX10_replace_137 : decode cX10_replace 137 = .ok (.iadd, 1) := by decide +kernel
theorem dX10_replace_138 : decode cX10_replace 138 = .ok (.i2c, 1) := by decide +kernel
theorem dX10_replace_139 : decode cX10_replace 139 = .ok (.castore, 1) := by decide +kernel
theorem dX10_replace_140 : decode cX10_replace 140 = .ok (.aload_n 0, 1) := by decide +kernel
theorem dX10_replace_141 : decode cX10_replace 141 = .ok (.getfield 9, 3) := by decide +kernel
theorem dX10_replace_144 : decode cX10_replace 144 = .ok (.iload_n 1, 1) := by decide +kernel
theorem dX10_replace_145 : decode cX10_replace 145 = .ok (.iconst 1, 1) := by decide +kernel
theorem dX10_replace_146 : decode cX10_replace 146 = .ok (.iadd, 1) := by decide +kernel
set_option maxRecDepth 100000 in
theorem q661 : Cond.constant RX10 47 (iI (56320)) ∈ GT := gt 661 (by decide +kernel) (by decide +kernel)
theorem dX10_replace_147 : decode cX10_replace 147 = .ok (.ldc 47, 2) := by decide +kernel
theorem dX10_replace_149 : decode cX10_replace 149 = .ok (.iload_n 3, 1) := by decide +kernel
theorem dX10_replace_150 : decode cX10_replace 150 = .ok (.ldc 46, 2) := by decide +kernel
theorem dX10_replace_152 : decode cX10_replace 152 = .ok (.isub, 1) := by decide +kernel
theorem dX10_replace_153 : decode cX10_replace 153 = .ok (.sipush 1023, 3) := by decide +kernel
theorem dX10_replace_156 : decode cX10_replace 156 = .ok (.iand, 1) := by decide +kernel
theorem dX10_replace_157 : decode cX10_replace 157 = .ok (.iadd, 1) := by decide +kernel
theorem dX10_replace_158 : decode cX10_replace 158 = .ok (.i2c, 1) := by decide +kernel
theorem dX10_replace_159 : decode cX10_replace 159 = .ok (.castore, 1) := by decide +kernel
set_option maxHeartbeats 4000000 in
set_option maxRecDepth 100000 in
theorem w_X10_replace_106 {p : Program} {l : Launch} {e : Env} {R : Room} {s : State} {m : MethodId} {args : Array Value} {below : List Frame} {meth : Method} {c : Code} {G : Gt} {ρ0 : Int → Nat} {M0 : Mo} {res : RS} (F : Fx p l R s m args meth c cX10_replace 5 RX10 G M0 1 none) (hno : ∀ x ∈ c.exceptionTable.toList, False) (hnm : meth.name = yX10_replace.name) (x0 x1 x3 x4 : Int) (M : Mo) (h : X10_replace_106 x0 x1 x3 x4 M = some res) : J p l e R s m args below meth c 5 G ρ0 M0 0 res M 106 [(0, (false, x0)), (1, (true, x1)), (3, (true, x3)), (4, (true, x4))] [] := by
  unfold X10_replace_106 at h
  refine j_iload F 3 rfl dX10_replace_106 ?_
  refine j_iconst F dX10_replace_108 ?_
  refine j_icmp_ne F 160 (by decide) dX10_replace_109 h (fun h => ?_) (fun h => ?_)
  · skip
    exact j_vret F (v := 0) h dX10_replace_160
  · skip
    refine j_iload_n F 1 rfl rfl dX10_replace_112 ?_
    refine j_iconst F dX10_replace_113 ?_
    refine j_iadd F dX10_replace_114 ?_
    refine j_aload_n F 0 rfl rfl dX10_replace_115 ?_
    obtain ⟨g1, h⟩ := gua h
    refine j_get F ft_X10_9 rfl g1 dX10_replace_116 ?_
    obtain ⟨g2, h⟩ := gua h
    refine j_alen F g2 dX10_replace_119 ?_
    refine j_icmp_ge F 160 (by decide) dX10_replace_120 h (fun h => ?_) (fun h => ?_)
    · skip
      exact j_vret F (v := 0) h dX10_replace_160
    · skip
      refine j_aload_n F 0 rfl rfl dX10_replace_123 ?_
      refine j_get F ft_X10_9 rfl g1 dX10_replace_124 ?_
      refine j_iload_n F 1 rfl rfl dX10_replace_127 ?_
      refine j_ldc (n := 55296) F q659 dX10_replace_128 ?_
      refine j_iload_n F 2 rfl rfl dX10_replace_130 ?_
      refine j_ldc (n := 65536) F q660 dX10_replace_131 ?_
      refine j_isub F dX10_replace_133 ?_
      refine j_bipush F (by decide) dX10_replace_134 ?_
      refine j_ishr F dX10_replace_136 ?_
      refine j_iadd F dX10_replace_137 ?_
      refine j_i2c F dX10_replace_138 ?_
      obtain ⟨g3, h⟩ := gua h
      obtain ⟨g4, h⟩ := gua h
      refine j_castore F g3 g4 (fits_n16 _) dX10_replace_139 ?_
      obtain ⟨M5, hM5⟩ : ∃ Z, Z = sE M 1 (fd M 11 0 x0) (wr x1) (n16 (c16 (55296 + (ishr (x3 - 65536) 10)))) := ⟨_, rfl⟩
      have kl6 : kle M M5 := by rw [hM5]; exact kle_sE
      rw [← hM5]
      replace h := pt_as h hM5
      refine j_aload_n F 0 rfl rfl dX10_replace_140 ?_
      refine j_get F ft_X10_9 rfl (kl6.is g1) dX10_replace_141 ?_
      refine j_iload_n F 1 rfl rfl dX10_replace_144 ?_
      refine j_iconst F dX10_replace_145 ?_
      refine j_iadd F dX10_replace_146 ?_
      refine j_ldc (n := 56320) F q661 dX10_replace_147 ?_
      refine j_iload_n F 2 rfl rfl dX10_replace_149 ?_
      refine j_ldc (n := 65536) F q660 dX10_replace_150 ?_
      refine j_isub F dX10_replace_152 ?_
      refine j_sipush F (by decide) dX10_replace_153 ?_
      refine j_iand F dX10_replace_156 ?_
      refine j_iadd F dX10_replace_157 ?_
      refine j_i2c F dX10_replace_158 ?_
      obtain ⟨g7, h⟩ := gua h
      obtain ⟨g8, h⟩ := gua h
      refine j_castore F g7 g8 (fits_n16 _) dX10_replace_159 ?_
      obtain ⟨M9, hM9⟩ : ∃ Z, Z = sE M5 1 (fd M5 11 0 x0) (wr (x1 + 1)) (n16 (c16 (56320 + (iand (x3 - 65536) 1023)))) := ⟨_, rfl⟩
      have kl10 : kle M5 M9 := by rw [hM9]; exact kle_sE
      rw [← hM9]
      replace h := pt_as h hM9
      exact j_vret F (v := 0) h dX10_replace_160
set_option maxHeartbeats 4000000 in
set_option maxRecDepth 100000 in
theorem w_X10_replace_0 {p : Program} {l : Launch} {e : Env} {R : Room} {s : State} {m : MethodId} {args : Array Value} {below : List Frame} {meth : Method} {c : Code} {G : Gt} {ρ0 : Int → Nat} {M0 : Mo} {res : RS} (F : Fx p l R s m args meth c cX10_replace 5 RX10 G M0 1 none) (hno : ∀ x ∈ c.exceptionTable.toList, False) (hnm : meth.name = yX10_replace.name) (x0 x1 x2 x3 : Int) (M : Mo) (h : X10_replace x0 x1 x2 x3 M = some res) : J p l e R s m args below meth c 5 G ρ0 M0 0 res M 0 [(0, (false, x0)), (1, (true, x1)), (2, (true, x2)), (3, (true, x3))] [] := by
  unfold X10_replace at h
  refine j_iload_n F 3 rfl rfl dX10_replace_0 ?_
  refine j_callS (d' := 0) (argl := [(true, x3)]) (rk9 := 1) (st := []) F hno M_X10_unitsOf q651 q650 ⟨by decide, by decide⟩ (Nat.le_of_ble_eq_true rfl) (by decide) dX10_replace_1 rfl h (fun z hz => c_X10_unitsOf l F.ht G x3 M z hz) (fun v1 M2 h kl3 => ?_)
  refine j_st (st' := [(true, v1)]) rfl ?_
  refine j_istore F (lv' := [(4, (true, v1)), (0, (false, x0)), (1, (true, x1)), (2, (true, x2)), (3, (true, x3))]) (by decide) rfl dX10_replace_4 ?_
  refine j_iload_n F 2 rfl rfl dX10_replace_6 ?_
  refine j_if_lt F 42 (by decide) dX10_replace_7 h (fun h => ?_) (fun h => ?_)
  · skip
    exact j_vret F (v := 0) h dX10_replace_42
  · skip
    refine j_iload_n F 2 rfl rfl dX10_replace_10 ?_
    refine j_iload_n F 3 rfl rfl dX10_replace_11 ?_
    refine j_icmp_gt F 42 (by decide) dX10_replace_12 h (fun h => ?_) (fun h => ?_)
    · skip
      exact j_vret F (v := 0) h dX10_replace_42
    · skip
      refine j_iload_n F 3 rfl rfl dX10_replace_15 ?_
      refine j_aload_n F 1 rfl rfl dX10_replace_16 ?_
      obtain ⟨g4, h⟩ := gua h
      refine j_get F ft_X10_27 rfl g4 dX10_replace_17 ?_
      refine j_icmp_gt F 42 (by decide) dX10_replace_20 h (fun h => ?_) (fun h => ?_)
      · skip
        exact j_vret F (v := 0) h dX10_replace_42
      · skip
        refine j_aload_n F 1 rfl rfl dX10_replace_23 ?_
        refine j_get F ft_X10_27 rfl g4 dX10_replace_24 ?_
        refine j_iload_n F 3 rfl rfl dX10_replace_27 ?_
        refine j_iload_n F 2 rfl rfl dX10_replace_28 ?_
        refine j_isub F dX10_replace_29 ?_
        refine j_isub F dX10_replace_30 ?_
        refine j_iload F 0 rfl dX10_replace_31 ?_
        refine j_iadd F dX10_replace_33 ?_
        refine j_aload_n F 1 rfl rfl dX10_replace_34 ?_
        refine j_get F ft_X10_9 rfl g4 dX10_replace_35 ?_
        obtain ⟨g5, h⟩ := gua h
        refine j_alen F g5 dX10_replace_38 ?_
        refine j_icmp_le F 43 (by decide) dX10_replace_39 h (fun h => ?_) (fun h => ?_)
        · skip
          refine j_aload_n F 1 rfl rfl dX10_replace_43 ?_
          refine j_get F ft_X10_9 rfl g4 dX10_replace_44 ?_
          refine j_iload_n F 3 rfl rfl dX10_replace_47 ?_
          refine j_aload_n F 1 rfl rfl dX10_replace_48 ?_
          refine j_get F ft_X10_9 rfl g4 dX10_replace_49 ?_
          refine j_iload_n F 2 rfl rfl dX10_replace_52 ?_
          refine j_iload F 0 rfl dX10_replace_53 ?_
          refine j_iadd F dX10_replace_55 ?_
          refine j_aload_n F 1 rfl rfl dX10_replace_56 ?_
          refine j_get F ft_X10_27 rfl g4 dX10_replace_57 ?_
          refine j_iload_n F 3 rfl rfl dX10_replace_60 ?_
          refine j_isub F dX10_replace_61 ?_
          obtain ⟨g6, h⟩ := gua h
          obtain ⟨g7, h⟩ := gua h
          refine j_copyC F ⟨q658, q574, q573, q71⟩ g6 g6 g7 (by decide) (Nat.le_of_ble_eq_true rfl) dX10_replace_62 ?_
          obtain ⟨M8, hM8⟩ : ∃ Z, Z = cpE M2 1 (fd M2 11 0 x0) (wr x2) (fd M2 11 0 x0) (wr (x1 + v1)) (wr ((fd M2 11 1 x0) - x2)) := ⟨_, rfl⟩
          have kl9 : kle M2 M8 := by rw [hM8]; exact kle_cpE
          rw [← hM8]
          replace h := pt_as h hM8
          refine j_aload_n F 1 rfl rfl dX10_replace_65 ?_
          refine j_aload_n F 1 rfl rfl dX10_replace_66 ?_
          refine j_get F ft_X10_27 rfl (kl9.is g4) dX10_replace_67 ?_
          refine j_iload_n F 3 rfl rfl dX10_replace_70 ?_
          refine j_iload_n F 2 rfl rfl dX10_replace_71 ?_
          refine j_isub F dX10_replace_72 ?_
          refine j_isub F dX10_replace_73 ?_
          refine j_iload F 0 rfl dX10_replace_74 ?_
          refine j_iadd F dX10_replace_76 ?_
          refine j_put (ty := .int) F ft_X10_27 rfl rfl tyX10 tyX10_ok nmX10 (by decide +kernel) (nf_int _) (kl9.is g4) dX10_replace_77 ?_
          obtain ⟨M10, hM10⟩ : ∃ Z, Z = sF M8 11 1 x0 (((fd M8 11 1 x0) - (x2 - x1)) + v1) := ⟨_, rfl⟩
          have kl11 : kle M8 M10 := by rw [hM10]; exact kle_sF
          rw [← hM10]
          replace h := pt_as h hM10
          refine j_iload F 0 rfl dX10_replace_80 ?_
          refine j_iconst F dX10_replace_82 ?_
          refine j_icmp_ne F 106 (by decide) dX10_replace_83 h (fun h => ?_) (fun h => ?_)
          · skip
            refine j_sub (lv' := [(0, (false, x0)), (1, (true, x1)), (3, (true, x3)), (4, (true, v1))]) [1, 2, 4, 0] rfl ?_
            exact w_X10_replace_106 F hno hnm x0 x1 x3 v1 M10 h
          · skip
            refine j_iload_n F 2 rfl rfl dX10_replace_86 ?_
            refine j_aload_n F 1 rfl rfl dX10_replace_87 ?_
            refine j_get F ft_X10_9 rfl (kl11.is (kl9.is g4)) dX10_replace_88 ?_
            obtain ⟨g12, h⟩ := gua h
            refine j_alen F g12 dX10_replace_91 ?_
            refine j_icmp_ge F 106 (by decide) dX10_replace_92 h (fun h => ?_) (fun h => ?_)
            · skip
              refine j_sub (lv' := [(0, (false, x0)), (1, (true, x1)), (3, (true, x3)), (4, (true, v1))]) [1, 2, 4, 0] rfl ?_
              exact w_X10_replace_106 F hno hnm x0 x1 x3 v1 M10 h
            · skip
              refine j_aload_n F 1 rfl rfl dX10_replace_95 ?_
              refine j_get F ft_X10_9 rfl (kl11.is (kl9.is g4)) dX10_replace_96 ?_
              refine j_iload_n F 2 rfl rfl dX10_replace_99 ?_
              refine j_iload_n F 4 rfl rfl dX10_replace_100 ?_
              refine j_i2c F dX10_replace_101 ?_
              obtain ⟨g13, h⟩ := gua h
              obtain ⟨g14, h⟩ := gua h
              refine j_castore F g13 g14 (fits_n16 _) dX10_replace_102 ?_
              obtain ⟨M15, hM15⟩ : ∃ Z, Z = sE M10 1 (fd M10 11 0 x0) (wr x1) (n16 (c16 x3)) := ⟨_, rfl⟩
              have kl16 : kle M10 M15 := by rw [hM15]; exact kle_sE
              rw [← hM15]
              replace h := pt_as h hM15
              refine j_goto F 160 (by decide) dX10_replace_103 ?_
              exact j_vret F (v := 0) h dX10_replace_160
        · skip
          exact j_vret F (v := 0) h dX10_replace_42
theorem c_X10_replace (l : Launch) (hl : l.stackTraces = false) (G : Gt) (x0 x1 x2 x3 : Int) (M : Mo) (z : RS) (h : X10_replace x0 x1 x2 x3 M = some z) : CT l G yX10_replace (cn yX10_replace cX10_replace 5 none) 1 [(false, x0), (true, x1), (true, x2), (true, x3)] M 0 z :=
  ctOf hl (by decide) (Nat.le_of_ble_eq_true rfl) (fun p e R s m args below meth c ρ F hno hnm => w_X10_replace_0 F hno hnm x0 x1 x2 x3 M h)
theorem dX10_alike_0 : decode cX10_alike 0 = .ok (.iload_n 2, 1) := by decide +kernel
theorem dX10_alike_1 : decode cX10_alike 1 = .ok (.iload_n 1, 1) := by decide +kernel
theorem dX10_alike_2 : decode cX10_alike 2 = .ok (.isub, 1) := by decide +kernel
theorem dX10_alike_3 : decode cX10_alike 3 = .ok (.iload 5, 2) := by decide +kernel
theorem dX10_alike_5 : decode cX10_alike 5 = .ok (.iload 4, 2) := by decide +kernel
theorem dX10_alike_7 : decode cX10_alike 7 = .ok (.isub, 1) := by decide +kernel
theorem dX10_alike_8 : decode cX10_alike 8 = .ok (.if_icmp .eq 5, 3) := by decide +kernel
theorem dX10_alike_13 : decode cX10_alike 13 = .ok (.iconst 0, 1) := by decide +kernel
theorem dX10_alike_14 : decode cX10_alike 14 = .ok (.istore 6, 2) := by decide +kernel
theorem dX10_alike_11 : decode cX10_alike 11 = .ok (.iconst 0, 1) := by decide +kernel
theorem dX10_alike_12 : decode cX10_alike 12 = .ok (.ireturn, 1) := by decide +kernel
theorem dX10_alike_16 : decode cX10_alike 16 = .ok (.iload 6, 2) := by decide +kernel
theorem dX10_alike_18 : decode cX10_alike 18 = .ok (.iload_n 2, 1) := by decide +kernel
theorem dX10_alike_19 : decode cX10_alike 19 = .ok (.iload_n 1, 1) := by decide +kernel
theorem dX10_alike_20 : decode cX10_alike 20 = .ok (.isub, 1) := by decide +kernel
theorem dX10_alike_21 : decode cX10_alike 21 = .ok (.if_icmp .ge 31, 3) := by decide +kernel
theorem dX10_alike_52 : decode cX10_alike 52 = .ok (.iconst 1, 1) := by decide +kernel
theorem dX10_alike_53 : decode cX10_alike 53 = .ok (.ireturn, 1) := by decide +kernel
theorem dX10_alike_24 : decode cX10_alike 24 = .ok (.aload_n 0, 1) := by decide +kernel
theorem dX10_alike_25 : decode cX10_alike 25 = .ok (.iload_n 1, 1) := by decide +kernel
theorem dX10_alike_26 : decode cX10_alike 26 = .ok (.iload 6, 2) := by decide +kernel
theorem dX10_alike_28 : decode cX10_alike 28 = .ok (.iadd, 1) := by decide +kernel
set_option maxRecDepth 100000 in
theorem q898 : Cond.code yX10_at cX10_at 2 (some FieldType.int) ∈ GT := gt 898 (rfl) (by decide +kernel)
theorem M_X10_at : MY yX10_at cX10_at 2 (some FieldType.int) 1 := ⟨q898, q54, by decide +kernel, by decide +kernel⟩
set_option maxRecDepth 100000 in
theorem q896 : Cond.instanceMethod yX10_at ∈ GT := gt 896 (by decide +kernel) (by decide +kernel)
set_option maxRecDepth 100000 in
theorem q897 : Cond.selects RX10 yX10_at yX10_at ∈ GT := gt 897 (by decide +kernel) (by decide +kernel)
set_option maxRecDepth 100000 in
theorem q895 : Cond.methodLink RX10 52 yX10_at ∈ GT := gt 895 (by decide +kernel) (by decide +kernel)
theorem dX10_alike_29 : decode cX10_alike 29 = .ok (.invokevirtual 52, 3) := by decide +kernel
theorem dX10_alike_32 : decode cX10_alike 32 = .ok (.aload_n 3, 1) := by decide +kernel
theorem dX10_alike_33 : decode cX10_alike 33 = .ok (.iload 4, 2) := by decide +kernel
theorem dX10_alike_35 : decode cX10_alike 35 = .ok (.iload 6, 2) := by decide +kernel
theorem dX10_alike_37 : decode cX10_alike 37 = .ok (.iadd, 1) := by decide +kernel
theorem dX10_alike_38 : decode cX10_alike 38 = .ok (.invokevirtual 52, 3) := by decide +kernel
theorem dX10_alike_41 : decode cX10_alike 41 = .ok (.if_icmp .eq 5, 3) := by decide +kernel
theorem dX10_alike_46 : decode cX10_alike 46 = .ok (.iinc 6 1, 3) := by decide +kernel
theorem dX10_alike_49 : decode cX10_alike 49 = .ok (.goto (-33), 3) := by decide +kernel
theorem dX10_alike_44 : decode cX10_alike 44 = .ok (.iconst 0, 1) := by decide +kernel
theorem dX10_alike_45 : decode cX10_alike 45 = .ok (.ireturn, 1) := by decide +kernel
set_option maxHeartbeats 4000000 in
set_option maxRecDepth 100000 in
theorem w_X10_alike_16 {p : Program} {l : Launch} {e : Env} {R : Room} {s : State} {m : MethodId} {args : Array Value} {below : List Frame} {meth : Method} {c : Code} {G : Gt} {ρ0 : Int → Nat} {M0 : Mo} {res : RS} (F : Fx p l R s m args meth c cX10_alike 7 RX10 G M0 1 (some FieldType.boolean)) (hno : ∀ x ∈ c.exceptionTable.toList, False) (hnm : meth.name = yX10_alike.name) (n : Nat) : ∀ (x0 x1 x2 x3 x4 x6 : Int) (M : Mo), X10_alike_16 n x0 x1 x2 x3 x4 x6 M = some res → J p l e R s m args below meth c 7 G ρ0 M0 1 res M 16 [(0, (false, x0)), (1, (true, x1)), (2, (true, x2)), (3, (false, x3)), (4, (true, x4)), (6, (true, x6))] [] := by
  induction n with
  | zero => intro x0 x1 x2 x3 x4 x6 M h; cases h
  | succ n ih =>
    intro x0 x1 x2 x3 x4 x6 M h
    rw [X10_alike_16] at h
    refine j_iload F 5 rfl dX10_alike_16 ?_
    refine j_iload_n F 2 rfl rfl dX10_alike_18 ?_
    refine j_iload_n F 1 rfl rfl dX10_alike_19 ?_
    refine j_isub F dX10_alike_20 ?_
    refine j_icmp_ge F 52 (by decide) dX10_alike_21 h (fun h => ?_) (fun h => ?_)
    · skip
      refine j_iconst F dX10_alike_52 ?_
      exact j_zret F (by decide) h dX10_alike_53
    · skip
      refine j_aload_n F 0 rfl rfl dX10_alike_24 ?_
      refine j_iload_n F 1 rfl rfl dX10_alike_25 ?_
      refine j_iload F 5 rfl dX10_alike_26 ?_
      refine j_iadd F dX10_alike_28 ?_
      obtain ⟨g4, h⟩ := gua h
      refine j_callV (d' := 0) (argl := [(true, (x1 + x6))]) (rk9 := 1) (st := []) F hno M_X10_at q896 q897 q895 ⟨by decide, by decide⟩ (Nat.le_of_ble_eq_true rfl) (by decide) (ci := 11) rfl (by decide) g4 dX10_alike_29 rfl h (fun z hz => c_X10_at l F.ht G x0 (x1 + x6) M z hz) (fun v1 M2 h kl3 => ?_)
      refine j_st (st' := [(true, v1)]) rfl ?_
      refine j_aload_n F 3 rfl rfl dX10_alike_32 ?_
      refine j_iload F 4 rfl dX10_alike_33 ?_
      refine j_iload F 5 rfl dX10_alike_35 ?_
      refine j_iadd F dX10_alike_37 ?_
      obtain ⟨g8, h⟩ := gua h
      refine j_callV (d' := 0) (argl := [(true, (x4 + x6))]) (rk9 := 1) (st := [(true, v1)]) F hno M_X10_at q896 q897 q895 ⟨by decide, by decide⟩ (Nat.le_of_ble_eq_true rfl) (by decide) (ci := 11) rfl (by decide) g8 dX10_alike_38 rfl h (fun z hz => c_X10_at l F.ht G x3 (x4 + x6) M2 z hz) (fun v5 M6 h kl7 => ?_)
      refine j_st (st' := [(true, v5), (true, v1)]) rfl ?_
      refine j_icmp_eq F 46 (by decide) dX10_alike_41 h (fun h => ?_) (fun h => ?_)
      · skip
        refine j_iinc F 5 (lv' := [(6, (true, (x6 + 1))), (0, (false, x0)), (1, (true, x1)), (2, (true, x2)), (3, (false, x3)), (4, (true, x4))]) rfl (by decide) rfl dX10_alike_46 ?_
        refine j_goto F 16 (by decide) dX10_alike_49 ?_
        refine j_sub (lv' := [(0, (false, x0)), (1, (true, x1)), (2, (true, x2)), (3, (false, x3)), (4, (true, x4)), (6, (true, (x6 + 1)))]) [1, 2, 3, 4, 5, 0] rfl ?_
        exact ih x0 x1 x2 x3 x4 (x6 + 1) M6 h
      · skip
        refine j_iconst F dX10_alike_44 ?_
        exact j_zret F (by decide) h dX10_alike_45
set_option maxHeartbeats 4000000 in
set_option maxRecDepth 100000 in
theorem w_X10_alike_0 {p : Program} {l : Launch} {e : Env} {R : Room} {s : State} {m : MethodId} {args : Array Value} {below : List Frame} {meth : Method} {c : Code} {G : Gt} {ρ0 : Int → Nat} {M0 : Mo} {res : RS} (F : Fx p l R s m args meth c cX10_alike 7 RX10 G M0 1 (some FieldType.boolean)) (hno : ∀ x ∈ c.exceptionTable.toList, False) (hnm : meth.name = yX10_alike.name) (x0 x1 x2 x3 x4 x5 : Int) (M : Mo) (h : X10_alike x0 x1 x2 x3 x4 x5 M = some res) : J p l e R s m args below meth c 7 G ρ0 M0 1 res M 0 [(0, (false, x0)), (1, (true, x1)), (2, (true, x2)), (3, (false, x3)), (4, (true, x4)), (5, (true, x5))] [] := by
  unfold X10_alike at h
  refine j_iload_n F 2 rfl rfl dX10_alike_0 ?_
  refine j_iload_n F 1 rfl rfl dX10_alike_1 ?_
  refine j_isub F dX10_alike_2 ?_
  refine j_iload F 5 rfl dX10_alike_3 ?_
  refine j_iload F 4 rfl dX10_alike_5 ?_
  refine j_isub F dX10_alike_7 ?_
  refine j_icmp_eq F 13 (by decide) dX10_alike_8 h (fun h => ?_) (fun h => ?_)
  · skip
    refine j_iconst F dX10_alike_13 ?_
    refine j_istore F (lv' := [(6, (true, 0)), (0, (false, x0)), (1, (true, x1)), (2, (true, x2)), (3, (false, x3)), (4, (true, x4)), (5, (true, x5))]) (by decide) rfl dX10_alike_14 ?_
    refine j_sub (lv' := [(0, (false, x0)), (1, (true, x1)), (2, (true, x2)), (3, (false, x3)), (4, (true, x4)), (6, (true, 0))]) [1, 2, 3, 4, 5, 0] rfl ?_
    exact w_X10_alike_16 F hno hnm FU x0 x1 x2 x3 x4 0 M h
  · skip
    refine j_iconst F dX10_alike_11 ?_
    exact j_zret F (by decide) h dX10_alike_12
theorem c_X10_alike (l : Launch) (hl : l.stackTraces = false) (G : Gt) (x0 x1 x2 x3 x4 x5 : Int) (M : Mo) (z : RS) (h : X10_alike x0 x1 x2 x3 x4 x5 M = some z) : CT l G yX10_alike (cn yX10_alike cX10_alike 7 (some FieldType.boolean)) 1 [(false, x0), (true, x1), (true, x2), (false, x3), (true, x4), (true, x5)] M 1 z :=
  ctOf hl (by decide) (Nat.le_of_ble_eq_true rfl) (fun p e R s m args below meth c ρ F hno hnm => w_X10_alike_0 F hno hnm x0 x1 x2 x3 x4 x5 M h)
theorem dX10_isSame_0 : decode cX10_isSame 0 = .ok (.aload_n 0, 1) := by decide +kernel
theorem dX10_isSame_1 : decode cX10_isSame 1 = .ok (.iconst 0, 1) := by decide +kernel
theorem dX10_isSame_2 : decode cX10_isSame 2 = .ok (.aload_n 0, 1) := by decide +kernel
theorem dX10_isSame_3 : decode cX10_isSame 3 = .ok (.getfield 27, 3) := by decide +kernel
theorem dX10_isSame_6 : decode cX10_isSame 6 = .ok (.aload_n 1, 1) := by decide +kernel
theorem dX10_isSame_7 : decode cX10_isSame 7 = .ok (.iconst 0, 1) := by decide +kernel
theorem dX10_isSame_8 : decode cX10_isSame 8 = .ok (.aload_n 1, 1) := by decide +kernel
theorem dX10_isSame_9 : decode cX10_isSame 9 = .ok (.getfield 27, 3) := by decide +kernel
set_option maxRecDepth 100000 in
theorem q1144 : Cond.code yX10_alike cX10_alike 7 (some FieldType.boolean) ∈ GT := gt 1144 (rfl) (by decide +kernel)
theorem M_X10_alike : MY yX10_alike cX10_alike 7 (some FieldType.boolean) 5 := ⟨q1144, q54, by decide +kernel, by decide +kernel⟩
set_option maxRecDepth 100000 in
theorem q1142 : Cond.instanceMethod yX10_alike ∈ GT := gt 1142 (by decide +kernel) (by decide +kernel)
set_option maxRecDepth 100000 in
theorem q1143 : Cond.selects RX10 yX10_alike yX10_alike ∈ GT := gt 1143 (by decide +kernel) (by decide +kernel)
set_option maxRecDepth 100000 in
theorem q1603 : Cond.methodLink RX10 48 yX10_alike ∈ GT := gt 1603 (by decide +kernel) (by decide +kernel)
theorem dX10_isSame_12 : decode cX10_isSame 12 = .ok (.invokevirtual 48, 3) := by decide +kernel
theorem dX10_isSame_15 : decode cX10_isSame 15 = .ok (.ireturn, 1) := by decide +kernel
set_option maxHeartbeats 4000000 in
set_option maxRecDepth 100000 in
theorem w_X10_isSame_0 {p : Program} {l : Launch} {e : Env} {R : Room} {s : State} {m : MethodId} {args : Array Value} {below : List Frame} {meth : Method} {c : Code} {G : Gt} {ρ0 : Int → Nat} {M0 : Mo} {res : RS} (F : Fx p l R s m args meth c cX10_isSame 2 RX10 G M0 2 (some FieldType.boolean)) (hno : ∀ x ∈ c.exceptionTable.toList, False) (hnm : meth.name = yX10_isSame.name) (x0 x1 : Int) (M : Mo) (h : X10_isSame x0 x1 M = some res) : J p l e R s m args below meth c 2 G ρ0 M0 1 res M 0 [(0, (false, x0)), (1, (false, x1))] [] := by
  unfold X10_isSame at h
  refine j_aload_n F 0 rfl rfl dX10_isSame_0 ?_
  refine j_iconst F dX10_isSame_1 ?_
  refine j_aload_n F 0 rfl rfl dX10_isSame_2 ?_
  obtain ⟨g1, h⟩ := gua h
  refine j_get F ft_X10_27 rfl g1 dX10_isSame_3 ?_
  refine j_aload_n F 1 rfl rfl dX10_isSame_6 ?_
  refine j_iconst F dX10_isSame_7 ?_
  refine j_aload_n F 1 rfl rfl dX10_isSame_8 ?_
  obtain ⟨g2, h⟩ := gua h
  refine j_get F ft_X10_27 rfl g2 dX10_isSame_9 ?_
  refine j_callV (d' := 1) (argl := [(true, 0), (true, (fd M 11 1 x0)), (false, x1), (true, 0), (true, (fd M 11 1 x1))]) (rk9 := 1) (st := []) F hno M_X10_alike q1142 q1143 q1603 ⟨by decide, by decide⟩ (Nat.le_of_ble_eq_true rfl) (by decide) (ci := 11) rfl (by decide) g1 dX10_isSame_12 rfl h (fun z hz => c_X10_alike l F.ht G x0 0 (fd M 11 1 x0) x1 0 (fd M 11 1 x1) M z hz) (fun v3 M4 h kl5 => ?_)
  refine j_st (st' := [(true, v3)]) rfl ?_
  obtain ⟨g6, h⟩ := gua h
  exact j_zret F (nz_b g6) h dX10_isSame_15
theorem c_X10_isSame (l : Launch) (hl : l.stackTraces = false) (G : Gt) (x0 x1 : Int) (M : Mo) (z : RS) (h : X10_isSame x0 x1 M = some z) : CT l G yX10_isSame (cn yX10_isSame cX10_isSame 2 (some FieldType.boolean)) 2 [(false, x0), (false, x1)] M 1 z :=
  ctOf hl (by decide) (Nat.le_of_ble_eq_true rfl) (fun p e R s m args below meth c ρ F hno hnm => w_X10_isSame_0 F hno hnm x0 x1 M h)
theorem dX10_lineEnd_0 : decode cX10_lineEnd 0 = .ok (.iload_n 1, 1) := by decide +kernel
theorem dX10_lineEnd_1 : decode cX10_lineEnd 1 = .ok (.iconst 0, 1) := by decide +kernel
set_option maxRecDepth 100000 in
theorem q903 : Cond.methodLink RX10 65 Lib.Math.max.name ∈ GT := gt 903 (by decide +kernel) (by decide +kernel)
set_option maxRecDepth 100000 in
theorem q534 : Cond.static Lib.Math.max.name ∈ GT := gt 534 (by decide +kernel) (by decide +kernel)
set_option maxRecDepth 100000 in
theorem q74 : Cond.initialized RJ9 ∈ GT := gt 74 (by decide +kernel) (by decide +kernel)
set_option maxRecDepth 100000 in
theorem q535 : Cond.code Lib.Math.max.name Lib.Math.max.code 2 (some FieldType.int) ∈ GT := gt 535 (rfl) (by decide +kernel)
theorem dX10_lineEnd_2 : decode cX10_lineEnd 2 = .ok (.invokestatic 65, 3) := by decide +kernel
theorem dX10_lineEnd_5 : decode cX10_lineEnd 5 = .ok (.istore_n 2, 1) := by decide +kernel
theorem dX10_lineEnd_6 : decode cX10_lineEnd 6 = .ok (.iload_n 2, 1) := by decide +kernel
theorem dX10_lineEnd_7 : decode cX10_lineEnd 7 = .ok (.aload_n 0, 1) := by decide +kernel
theorem dX10_lineEnd_8 : decode cX10_lineEnd 8 = .ok (.getfield 27, 3) := by decide +kernel
theorem dX10_lineEnd_11 : decode cX10_lineEnd 11 = .ok (.if_icmp .ge 31, 3) := by decide +kernel
theorem dX10_lineEnd_42 : decode cX10_lineEnd 42 = .ok (.aload_n 0, 1) := by decide +kernel
theorem dX10_lineEnd_43 : decode cX10_lineEnd 43 = .ok (.getfield 27, 3) := by decide +kernel
theorem dX10_lineEnd_46 : decode cX10_lineEnd 46 = .ok (.ireturn, 1) := by decide +kernel
theorem dX10_lineEnd_14 : decode cX10_lineEnd 14 = .ok (.iload_n 2, 1) := by decide +kernel
theorem dX10_lineEnd_15 : decode cX10_lineEnd 15 = .ok (.aload_n 0, 1) := by decide +kernel
theorem dX10_lineEnd_16 : decode cX10_lineEnd 16 = .ok (.getfield 9, 3) := by decide +kernel
theorem dX10_lineEnd_19 : decode cX10_lineEnd 19 = .ok (.arraylength, 1) := by decide +kernel
theorem dX10_lineEnd_20 : decode cX10_lineEnd 20 = .ok (.if_icmp .ge 22, 3) := by decide +kernel
theorem dX10_lineEnd_23 : decode cX10_lineEnd 23 = .ok (.aload_n 0, 1) := by decide +kernel
theorem dX10_lineEnd_24 : decode cX10_lineEnd 24 = .ok (.getfield 9, 3) := by decide +kernel
theorem dX10_lineEnd_27 : decode cX10_lineEnd 27 = .ok (.iload_n 2, 1) := by decide +kernel
theorem dX10_lineEnd_28 : decode cX10_lineEnd 28 = .ok (.caload, 1) := by decide +kernel
theorem dX10_lineEnd_29 : decode cX10_lineEnd 29 = .ok (.bipush 10, 2) := by decide +kernel
theorem dX10_lineEnd_31 : decode cX10_lineEnd 31 = .ok (.if_icmp .ne 5, 3) := by decide +kernel
theorem dX10_lineEnd_36 : decode cX10_lineEnd 36 = .ok (.iinc 2 1, 3) := by decide +kernel
theorem dX10_lineEnd_39 : decode cX10_lineEnd 39 = .ok (.goto (-33), 3) := by decide +kernel
theorem dX10_lineEnd_34 : decode cX10_lineEnd 34 = .ok (.iload_n 2, 1) := by decide +kernel
theorem dX10_lineEnd_35 : decode cX10_lineEnd 35 = .ok (.ireturn, 1) := by decide +kernel
set_option maxHeartbeats 4000000 in
set_option maxRecDepth 100000 in
theorem w_X10_lineEnd_6 {p : Program} {l : Launch} {e : Env} {R : Room} {s : State} {m : MethodId} {args : Array Value} {below : List Frame} {meth : Method} {c : Code} {G : Gt} {ρ0 : Int → Nat} {M0 : Mo} {res : RS} (F : Fx p l R s m args meth c cX10_lineEnd 3 RX10 G M0 1 (some FieldType.int)) (hno : ∀ x ∈ c.exceptionTable.toList, False) (hnm : meth.name = yX10_lineEnd.name) (n : Nat) : ∀ (x0 x2 : Int) (M : Mo), X10_lineEnd_6 n x0 x2 M = some res → J p l e R s m args below meth c 3 G ρ0 M0 1 res M 6 [(0, (false, x0)), (2, (true, x2))] [] := by
  induction n with
  | zero => intro x0 x2 M h; cases h
  | succ n ih =>
    intro x0 x2 M h
    rw [X10_lineEnd_6] at h
    refine j_iload_n F 1 rfl rfl dX10_lineEnd_6 ?_
    refine j_aload_n F 0 rfl rfl dX10_lineEnd_7 ?_
    obtain ⟨g1, h⟩ := gua h
    refine j_get F ft_X10_27 rfl g1 dX10_lineEnd_8 ?_
    refine j_icmp_ge F 42 (by decide) dX10_lineEnd_11 h (fun h => ?_) (fun h => ?_)
    · skip
      refine j_aload_n F 0 rfl rfl dX10_lineEnd_42 ?_
      refine j_get F ft_X10_27 rfl g1 dX10_lineEnd_43 ?_
      exact j_iret F h dX10_lineEnd_46
    · skip
      refine j_iload_n F 1 rfl rfl dX10_lineEnd_14 ?_
      refine j_aload_n F 0 rfl rfl dX10_lineEnd_15 ?_
      refine j_get F ft_X10_9 rfl g1 dX10_lineEnd_16 ?_
      obtain ⟨g2, h⟩ := gua h
      refine j_alen F g2 dX10_lineEnd_19 ?_
      refine j_icmp_ge F 42 (by decide) dX10_lineEnd_20 h (fun h => ?_) (fun h => ?_)
      · skip
        refine j_aload_n F 0 rfl rfl dX10_lineEnd_42 ?_
        refine j_get F ft_X10_27 rfl g1 dX10_lineEnd_43 ?_
        exact j_iret F h dX10_lineEnd_46
      · skip
        refine j_aload_n F 0 rfl rfl dX10_lineEnd_23 ?_
        refine j_get F ft_X10_9 rfl g1 dX10_lineEnd_24 ?_
        refine j_iload_n F 1 rfl rfl dX10_lineEnd_27 ?_
        obtain ⟨g3, h⟩ := gua h
        obtain ⟨g4, h⟩ := gua h
        refine j_caload F g3 g4 dX10_lineEnd_28 ?_
        refine j_bipush F (by decide) dX10_lineEnd_29 ?_
        refine j_icmp_ne F 36 (by decide) dX10_lineEnd_31 h (fun h => ?_) (fun h => ?_)
        · skip
          refine j_iinc F 1 (lv' := [(2, (true, (x2 + 1))), (0, (false, x0))]) rfl (by decide) rfl dX10_lineEnd_36 ?_
          refine j_goto F 6 (by decide) dX10_lineEnd_39 ?_
          refine j_sub (lv' := [(0, (false, x0)), (2, (true, (x2 + 1)))]) [1, 0] rfl ?_
          exact ih x0 (x2 + 1) M h
        · skip
          refine j_iload_n F 1 rfl rfl dX10_lineEnd_34 ?_
          exact j_iret F h dX10_lineEnd_35
set_option maxHeartbeats 4000000 in
set_option maxRecDepth 100000 in
theorem w_X10_lineEnd_0 {p : Program} {l : Launch} {e : Env} {R : Room} {s : State} {m : MethodId} {args : Array Value} {below : List Frame} {meth : Method} {c : Code} {G : Gt} {ρ0 : Int → Nat} {M0 : Mo} {res : RS} (F : Fx p l R s m args meth c cX10_lineEnd 3 RX10 G M0 1 (some FieldType.int)) (hno : ∀ x ∈ c.exceptionTable.toList, False) (hnm : meth.name = yX10_lineEnd.name) (x0 x1 : Int) (M : Mo) (h : X10_lineEnd x0 x1 M = some res) : J p l e R s m args below meth c 3 G ρ0 M0 1 res M 0 [(0, (false, x0)), (1, (true, x1))] [] := by
  unfold X10_lineEnd at h
  refine j_iload_n F 1 rfl rfl dX10_lineEnd_0 ?_
  refine j_iconst F dX10_lineEnd_1 ?_
  refine j_max F ⟨q903, q534, q74, q535⟩ (by decide) (Nat.le_of_ble_eq_true rfl) dX10_lineEnd_2 ?_
  refine j_istore_n F (lv' := [(2, (true, (mxx x1 0))), (0, (false, x0)), (1, (true, x1))]) rfl (by decide) rfl dX10_lineEnd_5 ?_
  refine j_sub (lv' := [(0, (false, x0)), (2, (true, (mxx x1 0)))]) [1, 0] rfl ?_
  exact w_X10_lineEnd_6 F hno hnm FU x0 (mxx x1 0) M h
theorem c_X10_lineEnd (l : Launch) (hl : l.stackTraces = false) (G : Gt) (x0 x1 : Int) (M : Mo) (z : RS) (h : X10_lineEnd x0 x1 M = some z) : CT l G yX10_lineEnd (cn yX10_lineEnd cX10_lineEnd 3 (some FieldType.int)) 1 [(false, x0), (true, x1)] M 1 z :=
  ctOf hl (by decide) (Nat.le_of_ble_eq_true rfl) (fun p e R s m args below meth c ρ F hno hnm => w_X10_lineEnd_0 F hno hnm x0 x1 M h)
theorem dX10_placeOf_0 : decode cX10_placeOf 0 = .ok (.iconst 0, 1) := by decide +kernel
theorem dX10_placeOf_1 : decode cX10_placeOf 1 = .ok (.istore_n 3, 1) := by decide +kernel
theorem dX10_placeOf_2 : decode cX10_placeOf 2 = .ok (.iconst 0, 1) := by decide +kernel
theorem dX10_placeOf_3 : decode cX10_placeOf 3 = .ok (.istore 4, 2) := by decide +kernel
theorem dX10_placeOf_5 : decode cX10_placeOf 5 = .ok (.iconst 0, 1) := by decide +kernel
theorem dX10_placeOf_6 : decode cX10_placeOf 6 = .ok (.istore 5, 2) := by decide +kernel
theorem dX10_placeOf_8 : decode cX10_placeOf 8 = .ok (.iload 5, 2) := by decide +kernel
theorem dX10_placeOf_10 : decode cX10_placeOf 10 = .ok (.aload_n 0, 1) := by decide +kernel
theorem dX10_placeOf_11 : decode cX10_placeOf 11 = .ok (.getfield 27, 3) := by decide +kernel
theorem dX10_placeOf_14 : decode cX10_placeOf 14 = .ok (.if_icmp .ge 34, 3) := by decide +kernel
theorem dX10_placeOf_17 : decode cX10_placeOf 17 = .ok (.iload_n 3, 1) := by decide +kernel
theorem dX10_placeOf_18 : decode cX10_placeOf 18 = .ok (.iload_n 1, 1) := by decide +kernel
theorem dX10_placeOf_19 : decode cX10_placeOf 19 = .ok (.if_icmp .ge 29, 3) := by decide +kernel
theorem dX10_placeOf_22 : decode cX10_placeOf 22 = .ok (.aload_n 0, 1) := by decide +kernel
theorem dX10_placeOf_23 : decode cX10_placeOf 23 = .ok (.iload 5, 2) := by decide +kernel
theorem dX10_placeOf_25 : decode cX10_placeOf 25 = .ok (.invokevirtual 52, 3) := by decide +kernel
theorem dX10_placeOf_28 : decode cX10_placeOf 28 = .ok (.bipush 10, 2) := by decide +kernel
theorem dX10_placeOf_30 : decode cX10_placeOf 30 = .ok (.if_icmp .ne 12, 3) := by decide +kernel
theorem dX10_placeOf_33 : decode cX10_placeOf 33 = .ok (.iinc 3 1, 3) := by decide +kernel
theorem dX10_placeOf_36 : decode cX10_placeOf 36 = .ok (.iload 5, 2) := by decide +kernel
theorem dX10_placeOf_38 : decode cX10_placeOf 38 = .ok (.iconst 1, 1) := by decide +kernel
theorem dX10_placeOf_39 : decode cX10_placeOf 39 = .ok (.iadd, 1) := by decide +kernel
theorem dX10_placeOf_40 : decode cX10_placeOf 40 = .ok (.istore 4, 2) := by decide +kernel
theorem dX10_placeOf_42 : decode cX10_placeOf 42 = .ok (.iinc 5 1, 3) := by decide +kernel
theorem dX10_placeOf_45 : decode cX10_placeOf 45 = .ok (.goto (-37), 3) := by decide +kernel
theorem dX10_placeOf_48 : decode cX10_placeOf 48 = .ok (.iload_n 3, 1) := by decide +kernel
theorem dX10_placeOf_49 : decode cX10_placeOf 49 = .ok (.iload_n 1, 1) := by decide +kernel
theorem dX10_placeOf_50 : decode cX10_placeOf 50 = .ok (.if_icmp .ge 8, 3) := by decide +kernel
theorem dX10_placeOf_58 : decode cX10_placeOf 58 = .ok (.iload 4, 2) := by decide +kernel
theorem dX10_placeOf_60 : decode cX10_placeOf 60 = .ok (.iload_n 2, 1) := by decide +kernel
theorem dX10_placeOf_61 : decode cX10_placeOf 61 = .ok (.iadd, 1) := by decide +kernel
theorem dX10_placeOf_62 : decode cX10_placeOf 62 = .ok (.aload_n 0, 1) := by decide +kernel
theorem dX10_placeOf_63 : decode cX10_placeOf 63 = .ok (.iload 4, 2) := by decide +kernel
set_option maxRecDepth 100000 in
theorem q902 : Cond.code yX10_lineEnd cX10_lineEnd 3 (some FieldType.int) ∈ GT := gt 902 (rfl) (by decide +kernel)
theorem M_X10_lineEnd : MY yX10_lineEnd cX10_lineEnd 3 (some FieldType.int) 1 := ⟨q902, q54, by decide +kernel, by decide +kernel⟩
set_option maxRecDepth 100000 in
theorem q900 : Cond.instanceMethod yX10_lineEnd ∈ GT := gt 900 (by decide +kernel) (by decide +kernel)
set_option maxRecDepth 100000 in
theorem q901 : Cond.selects RX10 yX10_lineEnd yX10_lineEnd ∈ GT := gt 901 (by decide +kernel) (by decide +kernel)
set_option maxRecDepth 100000 in
theorem q899 : Cond.methodLink RX10 55 yX10_lineEnd ∈ GT := gt 899 (by decide +kernel) (by decide +kernel)
theorem dX10_placeOf_65 : decode cX10_placeOf 65 = .ok (.invokevirtual 55, 3) := by decide +kernel
set_option maxRecDepth 100000 in
theorem q904 : Cond.methodLink RX10 58 Lib.Math.min.name ∈ GT := gt 904 (by decide +kernel) (by decide +kernel)
set_option maxRecDepth 100000 in
theorem q570 : Cond.static Lib.Math.min.name ∈ GT := gt 570 (by decide +kernel) (by decide +kernel)
set_option maxRecDepth 100000 in
theorem q571 : Cond.code Lib.Math.min.name Lib.Math.min.code 2 (some FieldType.int) ∈ GT := gt 571 (rfl) (by decide +kernel)
theorem dX10_placeOf_68 : decode cX10_placeOf 68 = .ok (.invokestatic 58, 3) := by decide +kernel
theorem dX10_placeOf_71 : decode cX10_placeOf 71 = .ok (.istore 5, 2) := by decide +kernel
theorem dX10_placeOf_73 : decode cX10_placeOf 73 = .ok (.aload_n 0, 1) := by decide +kernel
theorem dX10_placeOf_74 : decode cX10_placeOf 74 = .ok (.iload 5, 2) := by decide +kernel
theorem dX10_placeOf_76 : decode cX10_placeOf 76 = .ok (.invokevirtual 52, 3) := by decide +kernel
theorem dX10_placeOf_79 : decode cX10_placeOf 79 = .ok (.ldc 47, 2) := by decide +kernel
theorem dX10_placeOf_81 : decode cX10_placeOf 81 = .ok (.if_icmp .lt 18, 3) := by decide +kernel
theorem dX10_placeOf_84 : decode cX10_placeOf 84 = .ok (.aload_n 0, 1) := by decide +kernel
theorem dX10_placeOf_85 : decode cX10_placeOf 85 = .ok (.iload 5, 2) := by decide +kernel
theorem dX10_placeOf_87 : decode cX10_placeOf 87 = .ok (.invokevirtual 52, 3) := by decide +kernel
set_option maxRecDepth 100000 in
theorem q905 : Cond.constant RX10 64 (iI (57343)) ∈ GT := gt 905 (by decide +kernel) (by decide +kernel)
theorem dX10_placeOf_90 : decode cX10_placeOf 90 = .ok (.ldc 64, 2) := by decide +kernel
theorem dX10_placeOf_92 : decode cX10_placeOf 92 = .ok (.if_icmp .gt 7, 3) := by decide +kernel
theorem dX10_placeOf_95 : decode cX10_placeOf 95 = .ok (.iconst 1, 1) := by decide +kernel
theorem dX10_placeOf_96 : decode cX10_placeOf 96 = .ok (.goto 4, 3) := by decide +kernel
theorem dX10_placeOf_53 : decode cX10_placeOf 53 = .ok (.aload_n 0, 1) := by decide +kernel
theorem dX10_placeOf_54 : decode cX10_placeOf 54 = .ok (.getfield 27, 3) := by decide +kernel
theorem dX10_placeOf_57 : decode cX10_placeOf 57 = .ok (.ireturn, 1) := by decide +kernel
theorem dX10_placeOf_99 : decode cX10_placeOf 99 = .ok (.iconst 0, 1) := by decide +kernel
theorem dX10_placeOf_100 : decode cX10_placeOf 100 = .ok (.istore 6, 2) := by decide +kernel
theorem dX10_placeOf_102 : decode cX10_placeOf 102 = .ok (.iload 6, 2) := by decide +kernel
theorem dX10_placeOf_104 : decode cX10_placeOf 104 = .ok (.ifCond .eq 10, 3) := by decide +kernel
theorem dX10_placeOf_114 : decode cX10_placeOf 114 = .ok (.iload 5, 2) := by decide +kernel
theorem dX10_placeOf_116 : decode cX10_placeOf 116 = .ok (.ireturn, 1) := by decide +kernel
theorem dX10_placeOf_107 : decode cX10_placeOf 107 = .ok (.iload 5, 2) := by decide +kernel
theorem dX10_placeOf_109 : decode cX10_placeOf 109 = .ok (.iconst 1, 1) := by decide +kernel
theorem dX10_placeOf_110 : decode cX10_placeOf 110 = .ok (.isub, 1) := by decide +kernel
theorem dX10_placeOf_111 : decode cX10_placeOf 111 = .ok (.goto 5, 3) := by decide +kernel
set_option maxHeartbeats 4000000 in
set_option maxRecDepth 100000 in
theorem w_X10_placeOf_42 {p : Program} {l : Launch} {e : Env} {R : Room} {s : State} {m : MethodId} {args : Array Value} {below : List Frame} {meth : Method} {c : Code} {G : Gt} {ρ0 : Int → Nat} {M0 : Mo} {res : RS} (F : Fx p l R s m args meth c cX10_placeOf 7 RX10 G M0 2 (some FieldType.int)) (hno : ∀ x ∈ c.exceptionTable.toList, False) (hnm : meth.name = yX10_placeOf.name) (k8 : Int → Int → Int → Int → Int → Int → Mo → Option RS) (hk8 : ∀ (x0 x1 x2 x3 x4 x5 : Int) (M : Mo), k8 x0 x1 x2 x3 x4 x5 M = some res → J p l e R s m args below meth c 7 G ρ0 M0 1 res M 8 [(0, (false, x0)), (1, (true, x1)), (2, (true, x2)), (3, (true, x3)), (4, (true, x4)), (5, (true, x5))] []) (x0 x1 x2 x3 x4 x5 : Int) (M : Mo) (h : X10_placeOf_42 k8 x0 x1 x2 x3 x4 x5 M = some res) : J p l e R s m args below meth c 7 G ρ0 M0 1 res M 42 [(0, (false, x0)), (1, (true, x1)), (2, (true, x2)), (3, (true, x3)), (4, (true, x4)), (5, (true, x5))] [] := by
  unfold X10_placeOf_42 at h
  refine j_iinc F 5 (lv' := [(5, (true, (x5 + 1))), (0, (false, x0)), (1, (true, x1)), (2, (true, x2)), (3, (true, x3)), (4, (true, x4))]) rfl (by decide) rfl dX10_placeOf_42 ?_
  refine j_goto F 8 (by decide) dX10_placeOf_45 ?_
  refine j_sub (lv' := [(0, (false, x0)), (1, (true, x1)), (2, (true, x2)), (3, (true, x3)), (4, (true, x4)), (5, (true, (x5 + 1)))]) [1, 2, 3, 4, 5, 0] rfl ?_
  exact hk8 x0 x1 x2 x3 x4 (x5 + 1) M h
set_option maxHeartbeats 4000000 in
set_option maxRecDepth 100000 in
theorem w_X10_placeOf_100 {p : Program} {l : Launch} {e : Env} {R : Room} {s : State} {m : MethodId} {args : Array Value} {below : List Frame} {meth : Method} {c : Code} {G : Gt} {ρ0 : Int → Nat} {M0 : Mo} {res : RS} (F : Fx p l R s m args meth c cX10_placeOf 7 RX10 G M0 2 (some FieldType.int)) (hno : ∀ x ∈ c.exceptionTable.toList, False) (hnm : meth.name = yX10_placeOf.name) (x5 y0 : Int) (M : Mo) (h : X10_placeOf_100 x5 y0 M = some res) : J p l e R s m args below meth c 7 G ρ0 M0 1 res M 100 [(5, (true, x5))] [(true, y0)] := by
  unfold X10_placeOf_100 at h
  refine j_istore F (lv' := [(6, (true, y0)), (5, (true, x5))]) (by decide) rfl dX10_placeOf_100 ?_
  refine j_iload F 0 rfl dX10_placeOf_102 ?_
  refine j_if_eq F 114 (by decide) dX10_placeOf_104 h (fun h => ?_) (fun h => ?_)
  · skip
    refine j_iload F 1 rfl dX10_placeOf_114 ?_
    exact j_iret F h dX10_placeOf_116
  · skip
    refine j_iload F 1 rfl dX10_placeOf_107 ?_
    refine j_iconst F dX10_placeOf_109 ?_
    refine j_isub F dX10_placeOf_110 ?_
    refine j_goto F 116 (by decide) dX10_placeOf_111 ?_
    exact j_iret F h dX10_placeOf_116
set_option maxHeartbeats 4000000 in
set_option maxRecDepth 100000 in
theorem w_X10_placeOf_99 {p : Program} {l : Launch} {e : Env} {R : Room} {s : State} {m : MethodId} {args : Array Value} {below : List Frame} {meth : Method} {c : Code} {G : Gt} {ρ0 : Int → Nat} {M0 : Mo} {res : RS} (F : Fx p l R s m args meth c cX10_placeOf 7 RX10 G M0 2 (some FieldType.int)) (hno : ∀ x ∈ c.exceptionTable.toList, False) (hnm : meth.name = yX10_placeOf.name) (x5 : Int) (M : Mo) (h : X10_placeOf_99 x5 M = some res) : J p l e R s m args below meth c 7 G ρ0 M0 1 res M 99 [(5, (true, x5))] [] := by
  unfold X10_placeOf_99 at h
  refine j_iconst F dX10_placeOf_99 ?_
  refine j_sub (lv' := [(5, (true, x5))]) [0] rfl ?_
  exact w_X10_placeOf_100 F hno hnm x5 0 M h
set_option maxHeartbeats 4000000 in
set_option maxRecDepth 100000 in
theorem w_X10_placeOf_48 {p : Program} {l : Launch} {e : Env} {R : Room} {s : State} {m : MethodId} {args : Array Value} {below : List Frame} {meth : Method} {c : Code} {G : Gt} {ρ0 : Int → Nat} {M0 : Mo} {res : RS} (F : Fx p l R s m args meth c cX10_placeOf 7 RX10 G M0 2 (some FieldType.int)) (hno : ∀ x ∈ c.exceptionTable.toList, False) (hnm : meth.name = yX10_placeOf.name) (x0 x1 x2 x3 x4 : Int) (M : Mo) (h : X10_placeOf_48 x0 x1 x2 x3 x4 M = some res) : J p l e R s m args below meth c 7 G ρ0 M0 1 res M 48 [(0, (false, x0)), (1, (true, x1)), (2, (true, x2)), (3, (true, x3)), (4, (true, x4))] [] := by
  unfold X10_placeOf_48 at h
  refine j_iload_n F 3 rfl rfl dX10_placeOf_48 ?_
  refine j_iload_n F 1 rfl rfl dX10_placeOf_49 ?_
  refine j_icmp_ge F 58 (by decide) dX10_placeOf_50 h (fun h => ?_) (fun h => ?_)
  · skip
    refine j_iload F 4 rfl dX10_placeOf_58 ?_
    refine j_iload_n F 2 rfl rfl dX10_placeOf_60 ?_
    refine j_iadd F dX10_placeOf_61 ?_
    refine j_aload_n F 0 rfl rfl dX10_placeOf_62 ?_
    refine j_iload F 4 rfl dX10_placeOf_63 ?_
    obtain ⟨g4, h⟩ := gua h
    refine j_callV (d' := 1) (argl := [(true, x4)]) (rk9 := 1) (st := [(true, (x4 + x2))]) F hno M_X10_lineEnd q900 q901 q899 ⟨by decide, by decide⟩ (Nat.le_of_ble_eq_true rfl) (by decide) (ci := 11) rfl (by decide) g4 dX10_placeOf_65 rfl h (fun z hz => c_X10_lineEnd l F.ht G x0 x4 M z hz) (fun v1 M2 h kl3 => ?_)
    refine j_st (st' := [(true, v1), (true, (x4 + x2))]) rfl ?_
    refine j_min F ⟨q904, q570, q74, q571⟩ (by decide) (Nat.le_of_ble_eq_true rfl) dX10_placeOf_68 ?_
    refine j_istore F (lv' := [(5, (true, (mnn (x4 + x2) v1))), (0, (false, x0)), (1, (true, x1)), (2, (true, x2)), (3, (true, x3)), (4, (true, x4))]) (by decide) rfl dX10_placeOf_71 ?_
    refine j_aload_n F 1 rfl rfl dX10_placeOf_73 ?_
    refine j_iload F 0 rfl dX10_placeOf_74 ?_
    refine j_callV (d' := 0) (argl := [(true, (mnn (x4 + x2) v1))]) (rk9 := 1) (st := []) F hno M_X10_at q896 q897 q895 ⟨by decide, by decide⟩ (Nat.le_of_ble_eq_true rfl) (by decide) (ci := 11) rfl (by decide) (kl3.is g4) dX10_placeOf_76 rfl h (fun z hz => c_X10_at l F.ht G x0 (mnn (x4 + x2) v1) M2 z hz) (fun v5 M6 h kl7 => ?_)
    refine j_st (st' := [(true, v5)]) rfl ?_
    refine j_ldc (n := 56320) F q661 dX10_placeOf_79 ?_
    refine j_icmp_lt F 99 (by decide) dX10_placeOf_81 h (fun h => ?_) (fun h => ?_)
    · skip
      refine j_sub (lv' := [(5, (true, (mnn (x4 + x2) v1)))]) [0] rfl ?_
      exact w_X10_placeOf_99 F hno hnm (mnn (x4 + x2) v1) M6 h
    · skip
      refine j_aload_n F 1 rfl rfl dX10_placeOf_84 ?_
      refine j_iload F 0 rfl dX10_placeOf_85 ?_
      refine j_callV (d' := 0) (argl := [(true, (mnn (x4 + x2) v1))]) (rk9 := 1) (st := []) F hno M_X10_at q896 q897 q895 ⟨by decide, by decide⟩ (Nat.le_of_ble_eq_true rfl) (by decide) (ci := 11) rfl (by decide) (kl7.is (kl3.is g4)) dX10_placeOf_87 rfl h (fun z hz => c_X10_at l F.ht G x0 (mnn (x4 + x2) v1) M6 z hz) (fun v8 M9 h kl10 => ?_)
      refine j_st (st' := [(true, v8)]) rfl ?_
      refine j_ldc (n := 57343) F q905 dX10_placeOf_90 ?_
      refine j_icmp_gt F 99 (by decide) dX10_placeOf_92 h (fun h => ?_) (fun h => ?_)
      · skip
        refine j_sub (lv' := [(5, (true, (mnn (x4 + x2) v1)))]) [0] rfl ?_
        exact w_X10_placeOf_99 F hno hnm (mnn (x4 + x2) v1) M9 h
      · skip
        refine j_iconst F dX10_placeOf_95 ?_
        refine j_goto F 100 (by decide) dX10_placeOf_96 ?_
        refine j_sub (lv' := [(5, (true, (mnn (x4 + x2) v1)))]) [0] rfl ?_
        exact w_X10_placeOf_100 F hno hnm (mnn (x4 + x2) v1) 1 M9 h
  · skip
    refine j_aload_n F 0 rfl rfl dX10_placeOf_53 ?_
    obtain ⟨g11, h⟩ := gua h
    refine j_get F ft_X10_27 rfl g11 dX10_placeOf_54 ?_
    exact j_iret F h dX10_placeOf_57
set_option maxHeartbeats 4000000 in
set_option maxRecDepth 100000 in
theorem w_X10_placeOf_8 {p : Program} {l : Launch} {e : Env} {R : Room} {s : State} {m : MethodId} {args : Array Value} {below : List Frame} {meth : Method} {c : Code} {G : Gt} {ρ0 : Int → Nat} {M0 : Mo} {res : RS} (F : Fx p l R s m args meth c cX10_placeOf 7 RX10 G M0 2 (some FieldType.int)) (hno : ∀ x ∈ c.exceptionTable.toList, False) (hnm : meth.name = yX10_placeOf.name) (n : Nat) : ∀ (x0 x1 x2 x3 x4 x5 : Int) (M : Mo), X10_placeOf_8 n x0 x1 x2 x3 x4 x5 M = some res → J p l e R s m args below meth c 7 G ρ0 M0 1 res M 8 [(0, (false, x0)), (1, (true, x1)), (2, (true, x2)), (3, (true, x3)), (4, (true, x4)), (5, (true, x5))] [] := by
  induction n with
  | zero => intro x0 x1 x2 x3 x4 x5 M h; cases h
  | succ n ih =>
    intro x0 x1 x2 x3 x4 x5 M h
    rw [X10_placeOf_8] at h
    refine j_iload F 5 rfl dX10_placeOf_8 ?_
    refine j_aload_n F 0 rfl rfl dX10_placeOf_10 ?_
    obtain ⟨g1, h⟩ := gua h
    refine j_get F ft_X10_27 rfl g1 dX10_placeOf_11 ?_
    refine j_icmp_ge F 48 (by decide) dX10_placeOf_14 h (fun h => ?_) (fun h => ?_)
    · skip
      refine j_sub (lv' := [(0, (false, x0)), (1, (true, x1)), (2, (true, x2)), (3, (true, x3)), (4, (true, x4))]) [0, 1, 2, 3, 4] rfl ?_
      exact w_X10_placeOf_48 F hno hnm x0 x1 x2 x3 x4 M h
    · skip
      refine j_iload_n F 3 rfl rfl dX10_placeOf_17 ?_
      refine j_iload_n F 1 rfl rfl dX10_placeOf_18 ?_
      refine j_icmp_ge F 48 (by decide) dX10_placeOf_19 h (fun h => ?_) (fun h => ?_)
      · skip
        refine j_sub (lv' := [(0, (false, x0)), (1, (true, x1)), (2, (true, x2)), (3, (true, x3)), (4, (true, x4))]) [0, 1, 2, 3, 4] rfl ?_
        exact w_X10_placeOf_48 F hno hnm x0 x1 x2 x3 x4 M h
      · skip
        refine j_aload_n F 0 rfl rfl dX10_placeOf_22 ?_
        refine j_iload F 5 rfl dX10_placeOf_23 ?_
        refine j_callV (d' := 0) (argl := [(true, x5)]) (rk9 := 1) (st := []) F hno M_X10_at q896 q897 q895 ⟨by decide, by decide⟩ (Nat.le_of_ble_eq_true rfl) (by decide) (ci := 11) rfl (by decide) g1 dX10_placeOf_25 rfl h (fun z hz => c_X10_at l F.ht G x0 x5 M z hz) (fun v2 M3 h kl4 => ?_)
        refine j_st (st' := [(true, v2)]) rfl ?_
        refine j_bipush F (by decide) dX10_placeOf_28 ?_
        refine j_icmp_ne F 42 (by decide) dX10_placeOf_30 h (fun h => ?_) (fun h => ?_)
        · skip
          refine j_sub (lv' := [(0, (false, x0)), (1, (true, x1)), (2, (true, x2)), (3, (true, x3)), (4, (true, x4)), (5, (true, x5))]) [0, 1, 2, 3, 4, 5] rfl ?_
          exact w_X10_placeOf_42 F hno hnm (X10_placeOf_8 n) ih x0 x1 x2 x3 x4 x5 M3 h
        · skip
          refine j_iinc F 3 (lv' := [(3, (true, (x3 + 1))), (0, (false, x0)), (1, (true, x1)), (2, (true, x2)), (4, (true, x4)), (5, (true, x5))]) rfl (by decide) rfl dX10_placeOf_33 ?_
          refine j_iload F 5 rfl dX10_placeOf_36 ?_
          refine j_iconst F dX10_placeOf_38 ?_
          refine j_iadd F dX10_placeOf_39 ?_
          refine j_istore F (lv' := [(4, (true, (x5 + 1))), (3, (true, (x3 + 1))), (0, (false, x0)), (1, (true, x1)), (2, (true, x2)), (5, (true, x5))]) (by decide) rfl dX10_placeOf_40 ?_
          refine j_sub (lv' := [(0, (false, x0)), (1, (true, x1)), (2, (true, x2)), (3, (true, (x3 + 1))), (4, (true, (x5 + 1))), (5, (true, x5))]) [2, 3, 4, 1, 0, 5] rfl ?_
          exact w_X10_placeOf_42 F hno hnm (X10_placeOf_8 n) ih x0 x1 x2 (x3 + 1) (x5 + 1) x5 M3 h
set_option maxHeartbeats 4000000 in
set_option maxRecDepth 100000 in
theorem w_X10_placeOf_0 {p : Program} {l : Launch} {e : Env} {R : Room} {s : State} {m : MethodId} {args : Array Value} {below : List Frame} {meth : Method} {c : Code} {G : Gt} {ρ0 : Int → Nat} {M0 : Mo} {res : RS} (F : Fx p l R s m args meth c cX10_placeOf 7 RX10 G M0 2 (some FieldType.int)) (hno : ∀ x ∈ c.exceptionTable.toList, False) (hnm : meth.name = yX10_placeOf.name) (x0 x1 x2 : Int) (M : Mo) (h : X10_placeOf x0 x1 x2 M = some res) : J p l e R s m args below meth c 7 G ρ0 M0 1 res M 0 [(0, (false, x0)), (1, (true, x1)), (2, (true, x2))] [] := by
  unfold X10_placeOf at h
  refine j_iconst F dX10_placeOf_0 ?_
  refine j_istore_n F (lv' := [(3, (true, 0)), (0, (false, x0)), (1, (true, x1)), (2, (true, x2))]) rfl (by decide) rfl dX10_placeOf_1 ?_
  refine j_iconst F dX10_placeOf_2 ?_
  refine j_istore F (lv' := [(4, (true, 0)), (3, (true, 0)), (0, (false, x0)), (1, (true, x1)), (2, (true, x2))]) (by decide) rfl dX10_placeOf_3 ?_
  refine j_iconst F dX10_placeOf_5 ?_
  refine j_istore F (lv' := [(5, (true, 0)), (4, (true, 0)), (3, (true, 0)), (0, (false, x0)), (1, (true, x1)), (2, (true, x2))]) (by decide) rfl dX10_placeOf_6 ?_
  refine j_sub (lv' := [(0, (false, x0)), (1, (true, x1)), (2, (true, x2)), (3, (true, 0)), (4, (true, 0)), (5, (true, 0))]) [3, 4, 5, 2, 1, 0] rfl ?_
  exact w_X10_placeOf_8 F hno hnm FU x0 x1 x2 0 0 0 M h
theorem c_X10_placeOf (l : Launch) (hl : l.stackTraces = false) (G : Gt) (x0 x1 x2 : Int) (M : Mo) (z : RS) (h : X10_placeOf x0 x1 x2 M = some z) : CT l G yX10_placeOf (cn yX10_placeOf cX10_placeOf 7 (some FieldType.int)) 2 [(false, x0), (true, x1), (true, x2)] M 1 z :=
  ctOf hl (by decide) (Nat.le_of_ble_eq_true rfl) (fun p e R s m args below meth c ρ F hno hnm => w_X10_placeOf_0 F hno hnm x0 x1 x2 M h)
theorem dX10_lineOf_0 : decode cX10_lineOf 0 = .ok (.iconst 0, 1) := by decide +kernel
theorem dX10_lineOf_1 : decode cX10_lineOf 1 = .ok (.istore_n 2, 1) := by decide +kernel
theorem dX10_lineOf_2 : decode cX10_lineOf 2 = .ok (.iconst 0, 1) := by decide +kernel
theorem dX10_lineOf_3 : decode cX10_lineOf 3 = .ok (.istore_n 3, 1) := by decide +kernel
theorem dX10_lineOf_4 : decode cX10_lineOf 4 = .ok (.iload_n 3, 1) := by decide +kernel
theorem dX10_lineOf_5 : decode cX10_lineOf 5 = .ok (.iload_n 1, 1) := by decide +kernel
theorem dX10_lineOf_6 : decode cX10_lineOf 6 = .ok (.if_icmp .ge 30, 3) := by decide +kernel
theorem dX10_lineOf_36 : decode cX10_lineOf 36 = .ok (.iload_n 2, 1) := by decide +kernel
theorem dX10_lineOf_37 : decode cX10_lineOf 37 = .ok (.ireturn, 1) := by decide +kernel
theorem dX10_lineOf_9 : decode cX10_lineOf 9 = .ok (.iload_n 3, 1) := by decide +kernel
theorem dX10_lineOf_10 : decode cX10_lineOf 10 = .ok (.aload_n 0, 1) := by decide +kernel
theorem dX10_lineOf_11 : decode cX10_lineOf 11 = .ok (.getfield 27, 3) := by decide +kernel
theorem dX10_lineOf_14 : decode cX10_lineOf 14 = .ok (.if_icmp .ge 22, 3) := by decide +kernel
theorem dX10_lineOf_17 : decode cX10_lineOf 17 = .ok (.aload_n 0, 1) := by decide +kernel
theorem dX10_lineOf_18 : decode cX10_lineOf 18 = .ok (.iload_n 3, 1) := by decide +kernel
theorem dX10_lineOf_19 : decode cX10_lineOf 19 = .ok (.invokevirtual 52, 3) := by decide +kernel
theorem dX10_lineOf_22 : decode cX10_lineOf 22 = .ok (.bipush 10, 2) := by decide +kernel
theorem dX10_lineOf_24 : decode cX10_lineOf 24 = .ok (.if_icmp .ne 6, 3) := by decide +kernel
theorem dX10_lineOf_27 : decode cX10_lineOf 27 = .ok (.iinc 2 1, 3) := by decide +kernel
theorem dX10_lineOf_30 : decode cX10_lineOf 30 = .ok (.iinc 3 1, 3) := by decide +kernel
theorem dX10_lineOf_33 : decode cX10_lineOf 33 = .ok (.goto (-29), 3) := by decide +kernel
set_option maxHeartbeats 4000000 in
set_option maxRecDepth 100000 in
theorem w_X10_lineOf_30 {p : Program} {l : Launch} {e : Env} {R : Room} {s : State} {m : MethodId} {args : Array Value} {below : List Frame} {meth : Method} {c : Code} {G : Gt} {ρ0 : Int → Nat} {M0 : Mo} {res : RS} (F : Fx p l R s m args meth c cX10_lineOf 4 RX10 G M0 1 (some FieldType.int)) (hno : ∀ x ∈ c.exceptionTable.toList, False) (hnm : meth.name = yX10_lineOf.name) (k4 : Int → Int → Int → Int → Mo → Option RS) (hk4 : ∀ (x0 x1 x2 x3 : Int) (M : Mo), k4 x0 x1 x2 x3 M = some res → J p l e R s m args below meth c 4 G ρ0 M0 1 res M 4 [(0, (false, x0)), (1, (true, x1)), (2, (true, x2)), (3, (true, x3))] []) (x0 x1 x2 x3 : Int) (M : Mo) (h : X10_lineOf_30 k4 x0 x1 x2 x3 M = some res) : J p l e R s m args below meth c 4 G ρ0 M0 1 res M 30 [(0, (false, x0)), (1, (true, x1)), (2, (true, x2)), (3, (true, x3))] [] := by
  unfold X10_lineOf_30 at h
  refine j_iinc F 3 (lv' := [(3, (true, (x3 + 1))), (0, (false, x0)), (1, (true, x1)), (2, (true, x2))]) rfl (by decide) rfl dX10_lineOf_30 ?_
  refine j_goto F 4 (by decide) dX10_lineOf_33 ?_
  refine j_sub (lv' := [(0, (false, x0)), (1, (true, x1)), (2, (true, x2)), (3, (true, (x3 + 1)))]) [1, 2, 3, 0] rfl ?_
  exact hk4 x0 x1 x2 (x3 + 1) M h
set_option maxHeartbeats 4000000 in
set_option maxRecDepth 100000 in
theorem w_X10_lineOf_4 {p : Program} {l : Launch} {e : Env} {R : Room} {s : State} {m : MethodId} {args : Array Value} {below : List Frame} {meth : Method} {c : Code} {G : Gt} {ρ0 : Int → Nat} {M0 : Mo} {res : RS} (F : Fx p l R s m args meth c cX10_lineOf 4 RX10 G M0 1 (some FieldType.int)) (hno : ∀ x ∈ c.exceptionTable.toList, False) (hnm : meth.name = yX10_lineOf.name) (n : Nat) : ∀ (x0 x1 x2 x3 : Int) (M : Mo), X10_lineOf_4 n x0 x1 x2 x3 M = some res → J p l e R s m args below meth c 4 G ρ0 M0 1 res M 4 [(0, (false, x0)), (1, (true, x1)), (2, (true, x2)), (3, (true, x3))] [] := by
  induction n with
  | zero => intro x0 x1 x2 x3 M h; cases h
  | succ n ih =>
    intro x0 x1 x2 x3 M h
    rw [X10_lineOf_4] at h
    refine j_iload_n F 3 rfl rfl dX10_lineOf_4 ?_
    refine j_iload_n F 1 rfl rfl dX10_lineOf_5 ?_
    refine j_icmp_ge F 36 (by decide) dX10_lineOf_6 h (fun h => ?_) (fun h => ?_)
    · skip
      refine j_iload_n F 2 rfl rfl dX10_lineOf_36 ?_
      exact j_iret F h dX10_lineOf_37
    · skip
      refine j_iload_n F 3 rfl rfl dX10_lineOf_9 ?_
      refine j_aload_n F 0 rfl rfl dX10_lineOf_10 ?_
      obtain ⟨g1, h⟩ := gua h
      refine j_get F ft_X10_27 rfl g1 dX10_lineOf_11 ?_
      refine j_icmp_ge F 36 (by decide) dX10_lineOf_14 h (fun h => ?_) (fun h => ?_)
      · skip
        refine j_iload_n F 2 rfl rfl dX10_lineOf_36 ?_
        exact j_iret F h dX10_lineOf_37
      · skip
        refine j_aload_n F 0 rfl rfl dX10_lineOf_17 ?_
        refine j_iload_n F 3 rfl rfl dX10_lineOf_18 ?_
        refine j_callV (d' := 0) (argl := [(true, x3)]) (rk9 := 1) (st := []) F hno M_X10_at q896 q897 q895 ⟨by decide, by decide⟩ (Nat.le_of_ble_eq_true rfl) (by decide) (ci := 11) rfl (by decide) g1 dX10_lineOf_19 rfl h (fun z hz => c_X10_at l F.ht G x0 x3 M z hz) (fun v2 M3 h kl4 => ?_)
        refine j_st (st' := [(true, v2)]) rfl ?_
        refine j_bipush F (by decide) dX10_lineOf_22 ?_
        refine j_icmp_ne F 30 (by decide) dX10_lineOf_24 h (fun h => ?_) (fun h => ?_)
        · skip
          refine j_sub (lv' := [(0, (false, x0)), (1, (true, x1)), (2, (true, x2)), (3, (true, x3))]) [0, 1, 2, 3] rfl ?_
          exact w_X10_lineOf_30 F hno hnm (X10_lineOf_4 n) ih x0 x1 x2 x3 M3 h
        · skip
          refine j_iinc F 2 (lv' := [(2, (true, (x2 + 1))), (0, (false, x0)), (1, (true, x1)), (3, (true, x3))]) rfl (by decide) rfl dX10_lineOf_27 ?_
          refine j_sub (lv' := [(0, (false, x0)), (1, (true, x1)), (2, (true, (x2 + 1))), (3, (true, x3))]) [1, 2, 0, 3] rfl ?_
          exact w_X10_lineOf_30 F hno hnm (X10_lineOf_4 n) ih x0 x1 (x2 + 1) x3 M3 h
set_option maxHeartbeats 4000000 in
set_option maxRecDepth 100000 in
theorem w_X10_lineOf_0 {p : Program} {l : Launch} {e : Env} {R : Room} {s : State} {m : MethodId} {args : Array Value} {below : List Frame} {meth : Method} {c : Code} {G : Gt} {ρ0 : Int → Nat} {M0 : Mo} {res : RS} (F : Fx p l R s m args meth c cX10_lineOf 4 RX10 G M0 1 (some FieldType.int)) (hno : ∀ x ∈ c.exceptionTable.toList, False) (hnm : meth.name = yX10_lineOf.name) (x0 x1 : Int) (M : Mo) (h : X10_lineOf x0 x1 M = some res) : J p l e R s m args below meth c 4 G ρ0 M0 1 res M 0 [(0, (false, x0)), (1, (true, x1))] [] := by
  unfold X10_lineOf at h
  refine j_iconst F dX10_lineOf_0 ?_
  refine j_istore_n F (lv' := [(2, (true, 0)), (0, (false, x0)), (1, (true, x1))]) rfl (by decide) rfl dX10_lineOf_1 ?_
  refine j_iconst F dX10_lineOf_2 ?_
  refine j_istore_n F (lv' := [(3, (true, 0)), (2, (true, 0)), (0, (false, x0)), (1, (true, x1))]) rfl (by decide) rfl dX10_lineOf_3 ?_
  refine j_sub (lv' := [(0, (false, x0)), (1, (true, x1)), (2, (true, 0)), (3, (true, 0))]) [2, 3, 1, 0] rfl ?_
  exact w_X10_lineOf_4 F hno hnm FU x0 x1 0 0 M h
theorem c_X10_lineOf (l : Launch) (hl : l.stackTraces = false) (G : Gt) (x0 x1 : Int) (M : Mo) (z : RS) (h : X10_lineOf x0 x1 M = some z) : CT l G yX10_lineOf (cn yX10_lineOf cX10_lineOf 4 (some FieldType.int)) 1 [(false, x0), (true, x1)] M 1 z :=
  ctOf hl (by decide) (Nat.le_of_ble_eq_true rfl) (fun p e R s m args below meth c ρ F hno hnm => w_X10_lineOf_0 F hno hnm x0 x1 M h)
theorem dX10_lineStart_0 : decode cX10_lineStart 0 = .ok (.iconst 0, 1) := by decide +kernel
theorem dX10_lineStart_1 : decode cX10_lineStart 1 = .ok (.istore_n 2, 1) := by decide +kernel
theorem dX10_lineStart_2 : decode cX10_lineStart 2 = .ok (.iconst 0, 1) := by decide +kernel
theorem dX10_lineStart_3 : decode cX10_lineStart 3 = .ok (.istore_n 3, 1) := by decide +kernel
theorem dX10_lineStart_4 : decode cX10_lineStart 4 = .ok (.iload_n 3, 1) := by decide +kernel
theorem dX10_lineStart_5 : decode cX10_lineStart 5 = .ok (.iload_n 1, 1) := by decide +kernel
theorem dX10_lineStart_6 : decode cX10_lineStart 6 = .ok (.if_icmp .ge 31, 3) := by decide +kernel
theorem dX10_lineStart_37 : decode cX10_lineStart 37 = .ok (.iload_n 2, 1) := by decide +kernel
theorem dX10_lineStart_38 : decode cX10_lineStart 38 = .ok (.ireturn, 1) := by decide +kernel
theorem dX10_lineStart_9 : decode cX10_lineStart 9 = .ok (.iload_n 3, 1) := by decide +kernel
theorem dX10_lineStart_10 : decode cX10_lineStart 10 = .ok (.aload_n 0, 1) := by decide +kernel
theorem dX10_lineStart_11 : decode cX10_lineStart 11 = .ok (.getfield 27, 3) := by decide +kernel
theorem dX10_lineStart_14 : decode cX10_lineStart 14 = .ok (.if_icmp .ge 23, 3) := by decide +kernel
theorem dX10_lineStart_17 : decode cX10_lineStart 17 = .ok (.aload_n 0, 1) := by decide +kernel
theorem dX10_lineStart_18 : decode cX10_lineStart 18 = .ok (.iload_n 3, 1) := by decide +kernel
theorem dX10_lineStart_19 : decode cX10_lineStart 19 = .ok (.invokevirtual 52, 3) := by decide +kernel
theorem dX10_lineStart_22 : decode cX10_lineStart 22 = .ok (.bipush 10, 2) := by decide +kernel
theorem dX10_lineStart_24 : decode cX10_lineStart 24 = .ok (.if_icmp .ne 7, 3) := by decide +kernel
theorem dX10_lineStart_27 : decode cX10_lineStart 27 = .ok (.iload_n 3, 1) := by decide +kernel
theorem dX10_lineStart_28 : decode cX10_lineStart 28 = .ok (.iconst 1, 1) := by decide +kernel
theorem dX10_lineStart_29 : decode cX10_lineStart 29 = .ok (.iadd, 1) := by decide +kernel
theorem dX10_lineStart_30 : decode cX10_lineStart 30 = .ok (.istore_n 2, 1) := by decide +kernel
theorem dX10_lineStart_31 : decode cX10_lineStart 31 = .ok (.iinc 3 1, 3) := by decide +kernel
theorem dX10_lineStart_34 : decode cX10_lineStart 34 = .ok (.goto (-30), 3) := by decide +kernel
set_option maxHeartbeats 4000000 in
set_option maxRecDepth 100000 in
theorem w_X10_lineStart_31 {p : Program} {l : Launch} {e : Env} {R : Room} {s : State} {m : MethodId} {args : Array Value} {below : List Frame} {meth : Method} {c : Code} {G : Gt} {ρ0 : Int → Nat} {M0 : Mo} {res : RS} (F : Fx p l R s m args meth c cX10_lineStart 4 RX10 G M0 1 (some FieldType.int)) (hno : ∀ x ∈ c.exceptionTable.toList, False) (hnm : meth.name = yX10_lineStart.name) (k4 : Int → Int → Int → Int → Mo → Option RS) (hk4 : ∀ (x0 x1 x2 x3 : Int) (M : Mo), k4 x0 x1 x2 x3 M = some res → J p l e R s m args below meth c 4 G ρ0 M0 1 res M 4 [(0, (false, x0)), (1, (true, x1)), (2, (true, x2)), (3, (true, x3))] []) (x0 x1 x2 x3 : Int) (M : Mo) (h : X10_lineStart_31 k4 x0 x1 x2 x3 M = some res) : J p l e R s m args below meth c 4 G ρ0 M0 1 res M 31 [(0, (false, x0)), (1, (true, x1)), (2, (true, x2)), (3, (true, x3))] [] := by
  unfold X10_lineStart_31 at h
  refine j_iinc F 3 (lv' := [(3, (true, (x3 + 1))), (0, (false, x0)), (1, (true, x1)), (2, (true, x2))]) rfl (by decide) rfl dX10_lineStart_31 ?_
  refine j_goto F 4 (by decide) dX10_lineStart_34 ?_
  refine j_sub (lv' := [(0, (false, x0)), (1, (true, x1)), (2, (true, x2)), (3, (true, (x3 + 1)))]) [1, 2, 3, 0] rfl ?_
  exact hk4 x0 x1 x2 (x3 + 1) M h
set_option maxHeartbeats 4000000 in
set_option maxRecDepth 100000 in
theorem w_X10_lineStart_4 {p : Program} {l : Launch} {e : Env} {R : Room} {s : State} {m : MethodId} {args : Array Value} {below : List Frame} {meth : Method} {c : Code} {G : Gt} {ρ0 : Int → Nat} {M0 : Mo} {res : RS} (F : Fx p l R s m args meth c cX10_lineStart 4 RX10 G M0 1 (some FieldType.int)) (hno : ∀ x ∈ c.exceptionTable.toList, False) (hnm : meth.name = yX10_lineStart.name) (n : Nat) : ∀ (x0 x1 x2 x3 : Int) (M : Mo), X10_lineStart_4 n x0 x1 x2 x3 M = some res → J p l e R s m args below meth c 4 G ρ0 M0 1 res M 4 [(0, (false, x0)), (1, (true, x1)), (2, (true, x2)), (3, (true, x3))] [] := by
  induction n with
  | zero => intro x0 x1 x2 x3 M h; cases h
  | succ n ih =>
    intro x0 x1 x2 x3 M h
    rw [X10_lineStart_4] at h
    refine j_iload_n F 3 rfl rfl dX10_lineStart_4 ?_
    refine j_iload_n F 1 rfl rfl dX10_lineStart_5 ?_
    refine j_icmp_ge F 37 (by decide) dX10_lineStart_6 h (fun h => ?_) (fun h => ?_)
    · skip
      refine j_iload_n F 2 rfl rfl dX10_lineStart_37 ?_
      exact j_iret F h dX10_lineStart_38
    · skip
      refine j_iload_n F 3 rfl rfl dX10_lineStart_9 ?_
      refine j_aload_n F 0 rfl rfl dX10_lineStart_10 ?_
      obtain ⟨g1, h⟩ := gua h
      refine j_get F ft_X10_27 rfl g1 dX10_lineStart_11 ?_
      refine j_icmp_ge F 37 (by decide) dX10_lineStart_14 h (fun h => ?_) (fun h => ?_)
      · skip
        refine j_iload_n F 2 rfl rfl dX10_lineStart_37 ?_
        exact j_iret F h dX10_lineStart_38
      · skip
        refine j_aload_n F 0 rfl rfl dX10_lineStart_17 ?_
        refine j_iload_n F 3 rfl rfl dX10_lineStart_18 ?_
        refine j_callV (d' := 0) (argl := [(true, x3)]) (rk9 := 1) (st := []) F hno M_X10_at q896 q897 q895 ⟨by decide, by decide⟩ (Nat.le_of_ble_eq_true rfl) (by decide) (ci := 11) rfl (by decide) g1 dX10_lineStart_19 rfl h (fun z hz => c_X10_at l F.ht G x0 x3 M z hz) (fun v2 M3 h kl4 => ?_)
        refine j_st (st' := [(true, v2)]) rfl ?_
        refine j_bipush F (by decide) dX10_lineStart_22 ?_
        refine j_icmp_ne F 31 (by decide) dX10_lineStart_24 h (fun h => ?_) (fun h => ?_)
        · skip
          refine j_sub (lv' := [(0, (false, x0)), (1, (true, x1)), (2, (true, x2)), (3, (true, x3))]) [0, 1, 2, 3] rfl ?_
          exact w_X10_lineStart_31 F hno hnm (X10_lineStart_4 n) ih x0 x1 x2 x3 M3 h
        · skip
          refine j_iload_n F 3 rfl rfl dX10_lineStart_27 ?_
          refine j_iconst F dX10_lineStart_28 ?_
          refine j_iadd F dX10_lineStart_29 ?_
          refine j_istore_n F (lv' := [(2, (true, (x3 + 1))), (0, (false, x0)), (1, (true, x1)), (3, (true, x3))]) rfl (by decide) rfl dX10_lineStart_30 ?_
          refine j_sub (lv' := [(0, (false, x0)), (1, (true, x1)), (2, (true, (x3 + 1))), (3, (true, x3))]) [1, 2, 0, 3] rfl ?_
          exact w_X10_lineStart_31 F hno hnm (X10_lineStart_4 n) ih x0 x1 (x3 + 1) x3 M3 h
set_option maxHeartbeats 4000000 in
set_option maxRecDepth 100000 in
theorem w_X10_lineStart_0 {p : Program} {l : Launch} {e : Env} {R : Room} {s : State} {m : MethodId} {args : Array Value} {below : List Frame} {meth : Method} {c : Code} {G : Gt} {ρ0 : Int → Nat} {M0 : Mo} {res : RS} (F : Fx p l R s m args meth c cX10_lineStart 4 RX10 G M0 1 (some FieldType.int)) (hno : ∀ x ∈ c.exceptionTable.toList, False) (hnm : meth.name = yX10_lineStart.name) (x0 x1 : Int) (M : Mo) (h : X10_lineStart x0 x1 M = some res) : J p l e R s m args below meth c 4 G ρ0 M0 1 res M 0 [(0, (false, x0)), (1, (true, x1))] [] := by
  unfold X10_lineStart at h
  refine j_iconst F dX10_lineStart_0 ?_
  refine j_istore_n F (lv' := [(2, (true, 0)), (0, (false, x0)), (1, (true, x1))]) rfl (by decide) rfl dX10_lineStart_1 ?_
  refine j_iconst F dX10_lineStart_2 ?_
  refine j_istore_n F (lv' := [(3, (true, 0)), (2, (true, 0)), (0, (false, x0)), (1, (true, x1))]) rfl (by decide) rfl dX10_lineStart_3 ?_
  refine j_sub (lv' := [(0, (false, x0)), (1, (true, x1)), (2, (true, 0)), (3, (true, 0))]) [2, 3, 1, 0] rfl ?_
  exact w_X10_lineStart_4 F hno hnm FU x0 x1 0 0 M h
theorem c_X10_lineStart (l : Launch) (hl : l.stackTraces = false) (G : Gt) (x0 x1 : Int) (M : Mo) (z : RS) (h : X10_lineStart x0 x1 M = some z) : CT l G yX10_lineStart (cn yX10_lineStart cX10_lineStart 4 (some FieldType.int)) 1 [(false, x0), (true, x1)] M 1 z :=
  ctOf hl (by decide) (Nat.le_of_ble_eq_true rfl) (fun p e R s m args below meth c ρ F hno hnm => w_X10_lineStart_0 F hno hnm x0 x1 M h)
theorem dX10_sortAt_0 : decode cX10_sortAt 0 = .ok (.iload_n 1, 1) := by decide +kernel
theorem dX10_sortAt_1 : decode cX10_sortAt 1 = .ok (.ifCond .lt 29, 3) := by decide +kernel
theorem dX10_sortAt_4 : decode cX10_sortAt 4 = .ok (.iload_n 1, 1) := by decide +kernel
theorem dX10_sortAt_5 : decode cX10_sortAt 5 = .ok (.aload_n 0, 1) := by decide +kernel
theorem dX10_sortAt_6 : decode cX10_sortAt 6 = .ok (.getfield 27, 3) := by decide +kernel
theorem dX10_sortAt_9 : decode cX10_sortAt 9 = .ok (.if_icmp .ge 21, 3) := by decide +kernel
theorem dX10_sortAt_12 : decode cX10_sortAt 12 = .ok (.iload_n 1, 1) := by decide +kernel
theorem dX10_sortAt_13 : decode cX10_sortAt 13 = .ok (.aload_n 0, 1) := by decide +kernel
theorem dX10_sortAt_14 : decode cX10_sortAt 14 = .ok (.getfield 9, 3) := by decide +kernel
theorem dX10_sortAt_17 : decode cX10_sortAt 17 = .ok (.arraylength, 1) := by decide +kernel
theorem dX10_sortAt_18 : decode cX10_sortAt 18 = .ok (.if_icmp .ge 12, 3) := by decide +kernel
theorem dX10_sortAt_21 : decode cX10_sortAt 21 = .ok (.aload_n 0, 1) := by decide +kernel
theorem dX10_sortAt_22 : decode cX10_sortAt 22 = .ok (.getfield 9, 3) := by decide +kernel
theorem dX10_sortAt_25 : decode cX10_sortAt 25 = .ok (.iload_n 1, 1) := by decide +kernel
theorem dX10_sortAt_26 : decode cX10_sortAt 26 = .ok (.caload, 1) := by decide +kernel
theorem dX10_sortAt_27 : decode cX10_sortAt 27 = .ok (.goto 4, 3) := by decide +kernel
theorem dX10_sortAt_30 : decode cX10_sortAt 30 = .ok (.iconst (-1), 1) := by decide +kernel
theorem dX10_sortAt_31 : decode cX10_sortAt 31 = .ok (.istore_n 2, 1) := by decide +kernel
theorem dX10_sortAt_32 : decode cX10_sortAt 32 = .ok (.iload_n 2, 1) := by decide +kernel
theorem dX10_sortAt_33 : decode cX10_sortAt 33 = .ok (.bipush 97, 2) := by decide +kernel
theorem dX10_sortAt_35 : decode cX10_sortAt 35 = .ok (.if_icmp .lt 11, 3) := by decide +kernel
theorem dX10_sortAt_38 : decode cX10_sortAt 38 = .ok (.iload_n 2, 1) := by decide +kernel
theorem dX10_sortAt_39 : decode cX10_sortAt 39 = .ok (.bipush 122, 2) := by decide +kernel
theorem dX10_sortAt_41 : decode cX10_sortAt 41 = .ok (.if_icmp .gt 5, 3) := by decide +kernel
theorem dX10_sortAt_44 : decode cX10_sortAt 44 = .ok (.iconst 0, 1) := by decide +kernel
theorem dX10_sortAt_45 : decode cX10_sortAt 45 = .ok (.ireturn, 1) := by decide +kernel
theorem dX10_sortAt_46 : decode cX10_sortAt 46 = .ok (.iload_n 2, 1) := by decide +kernel
theorem dX10_sortAt_47 : decode cX10_sortAt 47 = .ok (.bipush 48, 2) := by decide +kernel
theorem dX10_sortAt_49 : decode cX10_sortAt 49 = .ok (.if_icmp .lt 13, 3) := by decide +kernel
theorem dX10_sortAt_62 : decode cX10_sortAt 62 = .ok (.iconst (-1), 1) := by decide +kernel
theorem dX10_sortAt_63 : decode cX10_sortAt 63 = .ok (.ireturn, 1) := by decide +kernel
theorem dX10_sortAt_52 : decode cX10_sortAt 52 = .ok (.iload_n 2, 1) := by decide +kernel
theorem dX10_sortAt_53 : decode cX10_sortAt 53 = .ok (.bipush 57, 2) := by decide +kernel
theorem dX10_sortAt_55 : decode cX10_sortAt 55 = .ok (.if_icmp .gt 7, 3) := by decide +kernel
theorem dX10_sortAt_58 : decode cX10_sortAt 58 = .ok (.iconst 1, 1) := by decide +kernel
theorem dX10_sortAt_59 : decode cX10_sortAt 59 = .ok (.goto 4, 3) := by decide +kernel
set_option maxHeartbeats 4000000 in
set_option maxRecDepth 100000 in
theorem w_X10_sortAt_46 {p : Program} {l : Launch} {e : Env} {R : Room} {s : State} {m : MethodId} {args : Array Value} {below : List Frame} {meth : Method} {c : Code} {G : Gt} {ρ0 : Int → Nat} {M0 : Mo} {res : RS} (F : Fx p l R s m args meth c cX10_sortAt 3 RX10 G M0 0 (some FieldType.int)) (hno : ∀ x ∈ c.exceptionTable.toList, False) (hnm : meth.name = yX10_sortAt.name) (x2 : Int) (M : Mo) (h : X10_sortAt_46 x2 M = some res) : J p l e R s m args below meth c 3 G ρ0 M0 1 res M 46 [(2, (true, x2))] [] := by
  unfold X10_sortAt_46 at h
  refine j_iload_n F 0 rfl rfl dX10_sortAt_46 ?_
  refine j_bipush F (by decide) dX10_sortAt_47 ?_
  refine j_icmp_lt F 62 (by decide) dX10_sortAt_49 h (fun h => ?_) (fun h => ?_)
  · skip
    refine j_iconst F dX10_sortAt_62 ?_
    exact j_iret F h dX10_sortAt_63
  · skip
    refine j_iload_n F 0 rfl rfl dX10_sortAt_52 ?_
    refine j_bipush F (by decide) dX10_sortAt_53 ?_
    refine j_icmp_gt F 62 (by decide) dX10_sortAt_55 h (fun h => ?_) (fun h => ?_)
    · skip
      refine j_iconst F dX10_sortAt_62 ?_
      exact j_iret F h dX10_sortAt_63
    · skip
      refine j_iconst F dX10_sortAt_58 ?_
      refine j_goto F 63 (by decide) dX10_sortAt_59 ?_
      exact j_iret F h dX10_sortAt_63
set_option maxHeartbeats 4000000 in
set_option maxRecDepth 100000 in
theorem w_X10_sortAt_31 {p : Program} {l : Launch} {e : Env} {R : Room} {s : State} {m : MethodId} {args : Array Value} {below : List Frame} {meth : Method} {c : Code} {G : Gt} {ρ0 : Int → Nat} {M0 : Mo} {res : RS} (F : Fx p l R s m args meth c cX10_sortAt 3 RX10 G M0 0 (some FieldType.int)) (hno : ∀ x ∈ c.exceptionTable.toList, False) (hnm : meth.name = yX10_sortAt.name) (y0 : Int) (M : Mo) (h : X10_sortAt_31 y0 M = some res) : J p l e R s m args below meth c 3 G ρ0 M0 1 res M 31 [] [(true, y0)] := by
  unfold X10_sortAt_31 at h
  refine j_istore_n F (lv' := [(2, (true, y0))]) rfl (by decide) rfl dX10_sortAt_31 ?_
  refine j_iload_n F 0 rfl rfl dX10_sortAt_32 ?_
  refine j_bipush F (by decide) dX10_sortAt_33 ?_
  refine j_icmp_lt F 46 (by decide) dX10_sortAt_35 h (fun h => ?_) (fun h => ?_)
  · skip
    refine j_sub (lv' := [(2, (true, y0))]) [0] rfl ?_
    exact w_X10_sortAt_46 F hno hnm y0 M h
  · skip
    refine j_iload_n F 0 rfl rfl dX10_sortAt_38 ?_
    refine j_bipush F (by decide) dX10_sortAt_39 ?_
    refine j_icmp_gt F 46 (by decide) dX10_sortAt_41 h (fun h => ?_) (fun h => ?_)
    · skip
      refine j_sub (lv' := [(2, (true, y0))]) [0] rfl ?_
      exact w_X10_sortAt_46 F hno hnm y0 M h
    · skip
      refine j_iconst F dX10_sortAt_44 ?_
      exact j_iret F h dX10_sortAt_45
set_option maxHeartbeats 4000000 in
set_option maxRecDepth 100000 in
theorem w_X10_sortAt_30 {p : Program} {l : Launch} {e : Env} {R : Room} {s : State} {m : MethodId} {args : Array Value} {below : List Frame} {meth : Method} {c : Code} {G : Gt} {ρ0 : Int → Nat} {M0 : Mo} {res : RS} (F : Fx p l R s m args meth c cX10_sortAt 3 RX10 G M0 0 (some FieldType.int)) (hno : ∀ x ∈ c.exceptionTable.toList, False) (hnm : meth.name = yX10_sortAt.name) (M : Mo) (h : X10_sortAt_30  M = some res) : J p l e R s m args below meth c 3 G ρ0 M0 1 res M 30 [] [] := by
  unfold X10_sortAt_30 at h
  refine j_iconst F dX10_sortAt_30 ?_
  refine j_sub (lv' := []) [] rfl ?_
  exact w_X10_sortAt_31 F hno hnm (-1) M h
set_option maxHeartbeats 4000000 in
set_option maxRecDepth 100000 in
theorem w_X10_sortAt_0 {p : Program} {l : Launch} {e : Env} {R : Room} {s : State} {m : MethodId} {args : Array Value} {below : List Frame} {meth : Method} {c : Code} {G : Gt} {ρ0 : Int → Nat} {M0 : Mo} {res : RS} (F : Fx p l R s m args meth c cX10_sortAt 3 RX10 G M0 0 (some FieldType.int)) (hno : ∀ x ∈ c.exceptionTable.toList, False) (hnm : meth.name = yX10_sortAt.name) (x0 x1 : Int) (M : Mo) (h : X10_sortAt x0 x1 M = some res) : J p l e R s m args below meth c 3 G ρ0 M0 1 res M 0 [(0, (false, x0)), (1, (true, x1))] [] := by
  unfold X10_sortAt at h
  refine j_iload_n F 1 rfl rfl dX10_sortAt_0 ?_
  refine j_if_lt F 30 (by decide) dX10_sortAt_1 h (fun h => ?_) (fun h => ?_)
  · skip
    refine j_sub (lv' := []) [] rfl ?_
    exact w_X10_sortAt_30 F hno hnm  M h
  · skip
    refine j_iload_n F 1 rfl rfl dX10_sortAt_4 ?_
    refine j_aload_n F 0 rfl rfl dX10_sortAt_5 ?_
    obtain ⟨g1, h⟩ := gua h
    refine j_get F ft_X10_27 rfl g1 dX10_sortAt_6 ?_
    refine j_icmp_ge F 30 (by decide) dX10_sortAt_9 h (fun h => ?_) (fun h => ?_)
    · skip
      refine j_sub (lv' := []) [] rfl ?_
      exact w_X10_sortAt_30 F hno hnm  M h
    · skip
      refine j_iload_n F 1 rfl rfl dX10_sortAt_12 ?_
      refine j_aload_n F 0 rfl rfl dX10_sortAt_13 ?_
      refine j_get F ft_X10_9 rfl g1 dX10_sortAt_14 ?_
      obtain ⟨g2, h⟩ := gua h
      refine j_alen F g2 dX10_sortAt_17 ?_
      refine j_icmp_ge F 30 (by decide) dX10_sortAt_18 h (fun h => ?_) (fun h => ?_)
      · skip
        refine j_sub (lv' := []) [] rfl ?_
        exact w_X10_sortAt_30 F hno hnm  M h
      · skip
        refine j_aload_n F 0 rfl rfl dX10_sortAt_21 ?_
        refine j_get F ft_X10_9 rfl g1 dX10_sortAt_22 ?_
        refine j_iload_n F 1 rfl rfl dX10_sortAt_25 ?_
        obtain ⟨g3, h⟩ := gua h
        obtain ⟨g4, h⟩ := gua h
        refine j_caload F g3 g4 dX10_sortAt_26 ?_
        refine j_goto F 31 (by decide) dX10_sortAt_27 ?_
        refine j_sub (lv' := []) [] rfl ?_
        exact w_X10_sortAt_31 F hno hnm (el M 1 (fd M 11 0 x0) (wr x1)) M h
theorem c_X10_sortAt (l : Launch) (hl : l.stackTraces = false) (G : Gt) (x0 x1 : Int) (M : Mo) (z : RS) (h : X10_sortAt x0 x1 M = some z) : CT l G yX10_sortAt (cn yX10_sortAt cX10_sortAt 3 (some FieldType.int)) 0 [(false, x0), (true, x1)] M 1 z :=
  ctOf hl (by decide) (Nat.le_of_ble_eq_true rfl) (fun p e R s m args below meth c ρ F hno hnm => w_X10_sortAt_0 F hno hnm x0 x1 M h)
theorem dX10_tokenValue_0 : decode cX10_tokenValue 0 = .ok (.aload_n 0, 1) := by decide +kernel
theorem dX10_tokenValue_1 : decode cX10_tokenValue 1 = .ok (.iload_n 1, 1) := by decide +kernel
set_option maxRecDepth 100000 in
theorem q1130 : Cond.code yX10_sortAt cX10_sortAt 3 (some FieldType.int) ∈ GT := gt 1130 (rfl) (by decide +kernel)
theorem M_X10_sortAt : MY yX10_sortAt cX10_sortAt 3 (some FieldType.int) 1 := ⟨q1130, q54, by decide +kernel, by decide +kernel⟩
set_option maxRecDepth 100000 in
theorem q1129 : Cond.instanceMethod yX10_sortAt ∈ GT := gt 1129 (by decide +kernel) (by decide +kernel)
set_option maxRecDepth 100000 in
theorem q16 : Cond.selects RX10 yX10_sortAt yX10_sortAt ∈ GT := gt 16 (by decide +kernel) (by decide +kernel)
set_option maxRecDepth 100000 in
theorem q1127 : Cond.methodLink RX10 68 yX10_sortAt ∈ GT := gt 1127 (by decide +kernel) (by decide +kernel)
theorem dX10_tokenValue_2 : decode cX10_tokenValue 2 = .ok (.invokevirtual 68, 3) := by decide +kernel
theorem dX10_tokenValue_5 : decode cX10_tokenValue 5 = .ok (.iconst 1, 1) := by decide +kernel
theorem dX10_tokenValue_6 : decode cX10_tokenValue 6 = .ok (.if_icmp .ne 7, 3) := by decide +kernel
theorem dX10_tokenValue_13 : decode cX10_tokenValue 13 = .ok (.iconst 0, 1) := by decide +kernel
theorem dX10_tokenValue_14 : decode cX10_tokenValue 14 = .ok (.ireturn, 1) := by decide +kernel
theorem dX10_tokenValue_9 : decode cX10_tokenValue 9 = .ok (.iconst 1, 1) := by decide +kernel
theorem dX10_tokenValue_10 : decode cX10_tokenValue 10 = .ok (.goto 4, 3) := by decide +kernel
set_option maxHeartbeats 4000000 in
set_option maxRecDepth 100000 in
theorem w_X10_tokenValue_0 {p : Program} {l : Launch} {e : Env} {R : Room} {s : State} {m : MethodId} {args : Array Value} {below : List Frame} {meth : Method} {c : Code} {G : Gt} {ρ0 : Int → Nat} {M0 : Mo} {res : RS} (F : Fx p l R s m args meth c cX10_tokenValue 2 RX10 G M0 1 (some FieldType.int)) (hno : ∀ x ∈ c.exceptionTable.toList, False) (hnm : meth.name = yX10_tokenValue.name) (x0 x1 : Int) (M : Mo) (h : X10_tokenValue x0 x1 M = some res) : J p l e R s m args below meth c 2 G ρ0 M0 1 res M 0 [(0, (false, x0)), (1, (true, x1))] [] := by
  unfold X10_tokenValue at h
  refine j_aload_n F 0 rfl rfl dX10_tokenValue_0 ?_
  refine j_iload_n F 1 rfl rfl dX10_tokenValue_1 ?_
  obtain ⟨g4, h⟩ := gua h
  refine j_callV (d' := 0) (argl := [(true, x1)]) (rk9 := 1) (st := []) F hno M_X10_sortAt q1129 q16 q1127 ⟨by decide, by decide⟩ (Nat.le_of_ble_eq_true rfl) (by decide) (ci := 11) rfl (by decide) g4 dX10_tokenValue_2 rfl h (fun z hz => c_X10_sortAt l F.ht G x0 x1 M z hz) (fun v1 M2 h kl3 => ?_)
  refine j_st (st' := [(true, v1)]) rfl ?_
  refine j_iconst F dX10_tokenValue_5 ?_
  refine j_icmp_ne F 13 (by decide) dX10_tokenValue_6 h (fun h => ?_) (fun h => ?_)
  · skip
    refine j_iconst F dX10_tokenValue_13 ?_
    exact j_iret F h dX10_tokenValue_14
  · skip
    refine j_iconst F dX10_tokenValue_9 ?_
    refine j_goto F 14 (by decide) dX10_tokenValue_10 ?_
    exact j_iret F h dX10_tokenValue_14
theorem c_X10_tokenValue (l : Launch) (hl : l.stackTraces = false) (G : Gt) (x0 x1 : Int) (M : Mo) (z : RS) (h : X10_tokenValue x0 x1 M = some z) : CT l G yX10_tokenValue (cn yX10_tokenValue cX10_tokenValue 2 (some FieldType.int)) 1 [(false, x0), (true, x1)] M 1 z :=
  ctOf hl (by decide) (Nat.le_of_ble_eq_true rfl) (fun p e R s m args below meth c ρ F hno hnm => w_X10_tokenValue_0 F hno hnm x0 x1 M h)
theorem dX10_nextRun_0 : decode cX10_nextRun 0 = .ok (.iload_n 1, 1) := by decide +kernel
theorem dX10_nextRun_1 : decode cX10_nextRun 1 = .ok (.iconst 0, 1) := by decide +kernel
theorem dX10_nextRun_2 : decode cX10_nextRun 2 = .ok (.invokestatic 65, 3) := by decide +kernel
theorem dX10_nextRun_5 : decode cX10_nextRun 5 = .ok (.istore_n 3, 1) := by decide +kernel
theorem dX10_nextRun_6 : decode cX10_nextRun 6 = .ok (.iload_n 3, 1) := by decide +kernel
theorem dX10_nextRun_7 : decode cX10_nextRun 7 = .ok (.aload_n 0, 1) := by decide +kernel
theorem dX10_nextRun_8 : decode cX10_nextRun 8 = .ok (.getfield 27, 3) := by decide +kernel
theorem dX10_nextRun_11 : decode cX10_nextRun 11 = .ok (.if_icmp .ge 76, 3) := by decide +kernel
theorem dX10_nextRun_87 : decode cX10_nextRun 87 = .ok (.iconst (-1), 1) := by decide +kernel
theorem dX10_nextRun_88 : decode cX10_nextRun 88 = .ok (.ireturn, 1) := by decide +kernel
theorem dX10_nextRun_14 : decode cX10_nextRun 14 = .ok (.aload_n 0, 1) := by decide +kernel
theorem dX10_nextRun_15 : decode cX10_nextRun 15 = .ok (.iload_n 3, 1) := by decide +kernel
theorem dX10_nextRun_16 : decode cX10_nextRun 16 = .ok (.invokevirtual 68, 3) := by decide +kernel
theorem dX10_nextRun_19 : decode cX10_nextRun 19 = .ok (.istore 4, 2) := by decide +kernel
theorem dX10_nextRun_21 : decode cX10_nextRun 21 = .ok (.iload_n 2, 1) := by decide +kernel
theorem dX10_nextRun_22 : decode cX10_nextRun 22 = .ok (.iconst 2, 1) := by decide +kernel
theorem dX10_nextRun_23 : decode cX10_nextRun 23 = .ok (.if_icmp .ne 17, 3) := by decide +kernel
theorem dX10_nextRun_40 : decode cX10_nextRun 40 = .ok (.iload 4, 2) := by decide +kernel
theorem dX10_nextRun_42 : decode cX10_nextRun 42 = .ok (.iload_n 2, 1) := by decide +kernel
theorem dX10_nextRun_43 : decode cX10_nextRun 43 = .ok (.iconst 1, 1) := by decide +kernel
theorem dX10_nextRun_44 : decode cX10_nextRun 44 = .ok (.if_icmp .ne 7, 3) := by decide +kernel
theorem dX10_nextRun_51 : decode cX10_nextRun 51 = .ok (.iconst 0, 1) := by decide +kernel
theorem dX10_nextRun_47 : decode cX10_nextRun 47 = .ok (.iconst 1, 1) := by decide +kernel
theorem dX10_nextRun_48 : decode cX10_nextRun 48 = .ok (.goto 4, 3) := by decide +kernel
theorem dX10_nextRun_26 : decode cX10_nextRun 26 = .ok (.iload 4, 2) := by decide +kernel
theorem dX10_nextRun_28 : decode cX10_nextRun 28 = .ok (.iconst (-1), 1) := by decide +kernel
theorem dX10_nextRun_29 : decode cX10_nextRun 29 = .ok (.if_icmp .eq 7, 3) := by decide +kernel
theorem dX10_nextRun_36 : decode cX10_nextRun 36 = .ok (.iconst 0, 1) := by decide +kernel
theorem dX10_nextRun_37 : decode cX10_nextRun 37 = .ok (.goto 23, 3) := by decide +kernel
theorem dX10_nextRun_32 : decode cX10_nextRun 32 = .ok (.iconst 1, 1) := by decide +kernel
theorem dX10_nextRun_33 : decode cX10_nextRun 33 = .ok (.goto 27, 3) := by decide +kernel
theorem dX10_nextRun_52 : decode cX10_nextRun 52 = .ok (.if_icmp .ne 7, 3) := by decide +kernel
theorem dX10_nextRun_59 : decode cX10_nextRun 59 = .ok (.iconst 0, 1) := by decide +kernel
theorem dX10_nextRun_55 : decode cX10_nextRun 55 = .ok (.iconst 1, 1) := by decide +kernel
theorem dX10_nextRun_56 : decode cX10_nextRun 56 = .ok (.goto 4, 3) := by decide +kernel
theorem dX10_nextRun_60 : decode cX10_nextRun 60 = .ok (.istore 5, 2) := by decide +kernel
theorem dX10_nextRun_62 : decode cX10_nextRun 62 = .ok (.iload 5, 2) := by decide +kernel
theorem dX10_nextRun_64 : decode cX10_nextRun 64 = .ok (.ifCond .eq 17, 3) := by decide +kernel
theorem dX10_nextRun_67 : decode cX10_nextRun 67 = .ok (.aload_n 0, 1) := by decide +kernel
theorem dX10_nextRun_68 : decode cX10_nextRun 68 = .ok (.iload_n 3, 1) := by decide +kernel
theorem dX10_nextRun_69 : decode cX10_nextRun 69 = .ok (.iconst 1, 1) := by decide +kernel
theorem dX10_nextRun_70 : decode cX10_nextRun 70 = .ok (.isub, 1) := by decide +kernel
theorem dX10_nextRun_71 : decode cX10_nextRun 71 = .ok (.invokevirtual 68, 3) := by decide +kernel
theorem dX10_nextRun_74 : decode cX10_nextRun 74 = .ok (.iload 4, 2) := by decide +kernel
theorem dX10_nextRun_76 : decode cX10_nextRun 76 = .ok (.if_icmp .eq 5, 3) := by decide +kernel
theorem dX10_nextRun_79 : decode cX10_nextRun 79 = .ok (.iload_n 3, 1) := by decide +kernel
theorem dX10_nextRun_80 : decode cX10_nextRun 80 = .ok (.ireturn, 1) := by decide +kernel
theorem dX10_nextRun_81 : decode cX10_nextRun 81 = .ok (.iinc 3 1, 3) := by decide +kernel
theorem dX10_nextRun_84 : decode cX10_nextRun 84 = .ok (.goto (-78), 3) := by decide +kernel
set_option maxHeartbeats 4000000 in
set_option maxRecDepth 100000 in
theorem w_X10_nextRun_81 {p : Program} {l : Launch} {e : Env} {R : Room} {s : State} {m : MethodId} {args : Array Value} {below : List Frame} {meth : Method} {c : Code} {G : Gt} {ρ0 : Int → Nat} {M0 : Mo} {res : RS} (F : Fx p l R s m args meth c cX10_nextRun 6 RX10 G M0 1 (some FieldType.int)) (hno : ∀ x ∈ c.exceptionTable.toList, False) (hnm : meth.name = yX10_nextRun.name) (k6 : Int → Int → Int → Mo → Option RS) (hk6 : ∀ (x0 x2 x3 : Int) (M : Mo), k6 x0 x2 x3 M = some res → J p l e R s m args below meth c 6 G ρ0 M0 1 res M 6 [(0, (false, x0)), (2, (true, x2)), (3, (true, x3))] []) (x0 x2 x3 : Int) (M : Mo) (h : X10_nextRun_81 k6 x0 x2 x3 M = some res) : J p l e R s m args below meth c 6 G ρ0 M0 1 res M 81 [(0, (false, x0)), (2, (true, x2)), (3, (true, x3))] [] := by
  unfold X10_nextRun_81 at h
  refine j_iinc F 2 (lv' := [(3, (true, (x3 + 1))), (0, (false, x0)), (2, (true, x2))]) rfl (by decide) rfl dX10_nextRun_81 ?_
  refine j_goto F 6 (by decide) dX10_nextRun_84 ?_
  refine j_sub (lv' := [(0, (false, x0)), (2, (true, x2)), (3, (true, (x3 + 1)))]) [1, 2, 0] rfl ?_
  exact hk6 x0 x2 (x3 + 1) M h
set_option maxHeartbeats 4000000 in
set_option maxRecDepth 100000 in
theorem w_X10_nextRun_60 {p : Program} {l : Launch} {e : Env} {R : Room} {s : State} {m : MethodId} {args : Array Value} {below : List Frame} {meth : Method} {c : Code} {G : Gt} {ρ0 : Int → Nat} {M0 : Mo} {res : RS} (F : Fx p l R s m args meth c cX10_nextRun 6 RX10 G M0 1 (some FieldType.int)) (hno : ∀ x ∈ c.exceptionTable.toList, False) (hnm : meth.name = yX10_nextRun.name) (k6 : Int → Int → Int → Mo → Option RS) (hk6 : ∀ (x0 x2 x3 : Int) (M : Mo), k6 x0 x2 x3 M = some res → J p l e R s m args below meth c 6 G ρ0 M0 1 res M 6 [(0, (false, x0)), (2, (true, x2)), (3, (true, x3))] []) (x0 x2 x3 x4 y0 : Int) (M : Mo) (h : X10_nextRun_60 k6 x0 x2 x3 x4 y0 M = some res) : J p l e R s m args below meth c 6 G ρ0 M0 1 res M 60 [(0, (false, x0)), (2, (true, x2)), (3, (true, x3)), (4, (true, x4))] [(true, y0)] := by
  unfold X10_nextRun_60 at h
  refine j_istore F (lv' := [(5, (true, y0)), (0, (false, x0)), (2, (true, x2)), (3, (true, x3)), (4, (true, x4))]) (by decide) rfl dX10_nextRun_60 ?_
  refine j_iload F 0 rfl dX10_nextRun_62 ?_
  refine j_if_eq F 81 (by decide) dX10_nextRun_64 h (fun h => ?_) (fun h => ?_)
  · skip
    refine j_sub (lv' := [(0, (false, x0)), (2, (true, x2)), (3, (true, x3))]) [1, 2, 3] rfl ?_
    exact w_X10_nextRun_81 F hno hnm k6 hk6 x0 x2 x3 M h
  · skip
    refine j_aload_n F 1 rfl rfl dX10_nextRun_67 ?_
    refine j_iload_n F 3 rfl rfl dX10_nextRun_68 ?_
    refine j_iconst F dX10_nextRun_69 ?_
    refine j_isub F dX10_nextRun_70 ?_
    obtain ⟨g4, h⟩ := gua h
    refine j_callV (d' := 0) (argl := [(true, (x3 - 1))]) (rk9 := 1) (st := []) F hno M_X10_sortAt q1129 q16 q1127 ⟨by decide, by decide⟩ (Nat.le_of_ble_eq_true rfl) (by decide) (ci := 11) rfl (by decide) g4 dX10_nextRun_71 rfl h (fun z hz => c_X10_sortAt l F.ht G x0 (x3 - 1) M z hz) (fun v1 M2 h kl3 => ?_)
    refine j_st (st' := [(true, v1)]) rfl ?_
    refine j_iload F 4 rfl dX10_nextRun_74 ?_
    refine j_icmp_eq F 81 (by decide) dX10_nextRun_76 h (fun h => ?_) (fun h => ?_)
    · skip
      refine j_sub (lv' := [(0, (false, x0)), (2, (true, x2)), (3, (true, x3))]) [1, 2, 3] rfl ?_
      exact w_X10_nextRun_81 F hno hnm k6 hk6 x0 x2 x3 M2 h
    · skip
      refine j_iload_n F 3 rfl rfl dX10_nextRun_79 ?_
      exact j_iret F h dX10_nextRun_80
set_option maxHeartbeats 4000000 in
set_option maxRecDepth 100000 in
theorem w_X10_nextRun_52 {p : Program} {l : Launch} {e : Env} {R : Room} {s : State} {m : MethodId} {args : Array Value} {below : List Frame} {meth : Method} {c : Code} {G : Gt} {ρ0 : Int → Nat} {M0 : Mo} {res : RS} (F : Fx p l R s m args meth c cX10_nextRun 6 RX10 G M0 1 (some FieldType.int)) (hno : ∀ x ∈ c.exceptionTable.toList, False) (hnm : meth.name = yX10_nextRun.name) (k6 : Int → Int → Int → Mo → Option RS) (hk6 : ∀ (x0 x2 x3 : Int) (M : Mo), k6 x0 x2 x3 M = some res → J p l e R s m args below meth c 6 G ρ0 M0 1 res M 6 [(0, (false, x0)), (2, (true, x2)), (3, (true, x3))] []) (x0 x2 x3 x4 y0 y1 : Int) (M : Mo) (h : X10_nextRun_52 k6 x0 x2 x3 x4 y0 y1 M = some res) : J p l e R s m args below meth c 6 G ρ0 M0 1 res M 52 [(0, (false, x0)), (2, (true, x2)), (3, (true, x3)), (4, (true, x4))] [(true, y1), (true, y0)] := by
  unfold X10_nextRun_52 at h
  refine j_icmp_ne F 59 (by decide) dX10_nextRun_52 h (fun h => ?_) (fun h => ?_)
  · skip
    refine j_iconst F dX10_nextRun_59 ?_
    refine j_sub (lv' := [(0, (false, x0)), (2, (true, x2)), (3, (true, x3)), (4, (true, x4))]) [0, 1, 2, 3] rfl ?_
    exact w_X10_nextRun_60 F hno hnm k6 hk6 x0 x2 x3 x4 0 M h
  · skip
    refine j_iconst F dX10_nextRun_55 ?_
    refine j_goto F 60 (by decide) dX10_nextRun_56 ?_
    refine j_sub (lv' := [(0, (false, x0)), (2, (true, x2)), (3, (true, x3)), (4, (true, x4))]) [0, 1, 2, 3] rfl ?_
    exact w_X10_nextRun_60 F hno hnm k6 hk6 x0 x2 x3 x4 1 M h
set_option maxHeartbeats 4000000 in
set_option maxRecDepth 100000 in
theorem w_X10_nextRun_6 {p : Program} {l : Launch} {e : Env} {R : Room} {s : State} {m : MethodId} {args : Array Value} {below : List Frame} {meth : Method} {c : Code} {G : Gt} {ρ0 : Int → Nat} {M0 : Mo} {res : RS} (F : Fx p l R s m args meth c cX10_nextRun 6 RX10 G M0 1 (some FieldType.int)) (hno : ∀ x ∈ c.exceptionTable.toList, False) (hnm : meth.name = yX10_nextRun.name) (n : Nat) : ∀ (x0 x2 x3 : Int) (M : Mo), X10_nextRun_6 n x0 x2 x3 M = some res → J p l e R s m args below meth c 6 G ρ0 M0 1 res M 6 [(0, (false, x0)), (2, (true, x2)), (3, (true, x3))] [] := by
  induction n with
  | zero => intro x0 x2 x3 M h; cases h
  | succ n ih =>
    intro x0 x2 x3 M h
    rw [X10_nextRun_6] at h
    refine j_iload_n F 2 rfl rfl dX10_nextRun_6 ?_
    refine j_aload_n F 0 rfl rfl dX10_nextRun_7 ?_
    obtain ⟨g1, h⟩ := gua h
    refine j_get F ft_X10_27 rfl g1 dX10_nextRun_8 ?_
    refine j_icmp_ge F 87 (by decide) dX10_nextRun_11 h (fun h => ?_) (fun h => ?_)
    · skip
      refine j_iconst F dX10_nextRun_87 ?_
      exact j_iret F h dX10_nextRun_88
    · skip
      refine j_aload_n F 0 rfl rfl dX10_nextRun_14 ?_
      refine j_iload_n F 2 rfl rfl dX10_nextRun_15 ?_
      refine j_callV (d' := 0) (argl := [(true, x3)]) (rk9 := 1) (st := []) F hno M_X10_sortAt q1129 q16 q1127 ⟨by decide, by decide⟩ (Nat.le_of_ble_eq_true rfl) (by decide) (ci := 11) rfl (by decide) g1 dX10_nextRun_16 rfl h (fun z hz => c_X10_sortAt l F.ht G x0 x3 M z hz) (fun v2 M3 h kl4 => ?_)
      refine j_st (st' := [(true, v2)]) rfl ?_
      refine j_istore F (lv' := [(4, (true, v2)), (0, (false, x0)), (2, (true, x2)), (3, (true, x3))]) (by decide) rfl dX10_nextRun_19 ?_
      refine j_iload_n F 2 rfl rfl dX10_nextRun_21 ?_
      refine j_iconst F dX10_nextRun_22 ?_
      refine j_icmp_ne F 40 (by decide) dX10_nextRun_23 h (fun h => ?_) (fun h => ?_)
      · skip
        refine j_iload F 0 rfl dX10_nextRun_40 ?_
        refine j_iload_n F 2 rfl rfl dX10_nextRun_42 ?_
        refine j_iconst F dX10_nextRun_43 ?_
        refine j_icmp_ne F 51 (by decide) dX10_nextRun_44 h (fun h => ?_) (fun h => ?_)
        · skip
          refine j_iconst F dX10_nextRun_51 ?_
          refine j_sub (lv' := [(0, (false, x0)), (2, (true, x2)), (3, (true, x3)), (4, (true, v2))]) [1, 2, 3, 0] rfl ?_
          exact w_X10_nextRun_52 F hno hnm (X10_nextRun_6 n) ih x0 x2 x3 v2 v2 0 M3 h
        · skip
          refine j_iconst F dX10_nextRun_47 ?_
          refine j_goto F 52 (by decide) dX10_nextRun_48 ?_
          refine j_sub (lv' := [(0, (false, x0)), (2, (true, x2)), (3, (true, x3)), (4, (true, v2))]) [1, 2, 3, 0] rfl ?_
          exact w_X10_nextRun_52 F hno hnm (X10_nextRun_6 n) ih x0 x2 x3 v2 v2 1 M3 h
      · skip
        refine j_iload F 0 rfl dX10_nextRun_26 ?_
        refine j_iconst F dX10_nextRun_28 ?_
        refine j_icmp_eq F 36 (by decide) dX10_nextRun_29 h (fun h => ?_) (fun h => ?_)
        · skip
          refine j_iconst F dX10_nextRun_36 ?_
          refine j_goto F 60 (by decide) dX10_nextRun_37 ?_
          refine j_sub (lv' := [(0, (false, x0)), (2, (true, x2)), (3, (true, x3)), (4, (true, v2))]) [1, 2, 3, 0] rfl ?_
          exact w_X10_nextRun_60 F hno hnm (X10_nextRun_6 n) ih x0 x2 x3 v2 0 M3 h
        · skip
          refine j_iconst F dX10_nextRun_32 ?_
          refine j_goto F 60 (by decide) dX10_nextRun_33 ?_
          refine j_sub (lv' := [(0, (false, x0)), (2, (true, x2)), (3, (true, x3)), (4, (true, v2))]) [1, 2, 3, 0] rfl ?_
          exact w_X10_nextRun_60 F hno hnm (X10_nextRun_6 n) ih x0 x2 x3 v2 1 M3 h
set_option maxHeartbeats 4000000 in
set_option maxRecDepth 100000 in
theorem w_X10_nextRun_0 {p : Program} {l : Launch} {e : Env} {R : Room} {s : State} {m : MethodId} {args : Array Value} {below : List Frame} {meth : Method} {c : Code} {G : Gt} {ρ0 : Int → Nat} {M0 : Mo} {res : RS} (F : Fx p l R s m args meth c cX10_nextRun 6 RX10 G M0 1 (some FieldType.int)) (hno : ∀ x ∈ c.exceptionTable.toList, False) (hnm : meth.name = yX10_nextRun.name) (x0 x1 x2 : Int) (M : Mo) (h : X10_nextRun x0 x1 x2 M = some res) : J p l e R s m args below meth c 6 G ρ0 M0 1 res M 0 [(0, (false, x0)), (1, (true, x1)), (2, (true, x2))] [] := by
  unfold X10_nextRun at h
  refine j_iload_n F 1 rfl rfl dX10_nextRun_0 ?_
  refine j_iconst F dX10_nextRun_1 ?_
  refine j_max F ⟨q903, q534, q74, q535⟩ (by decide) (Nat.le_of_ble_eq_true rfl) dX10_nextRun_2 ?_
  refine j_istore_n F (lv' := [(3, (true, (mxx x1 0))), (0, (false, x0)), (1, (true, x1)), (2, (true, x2))]) rfl (by decide) rfl dX10_nextRun_5 ?_
  refine j_sub (lv' := [(0, (false, x0)), (2, (true, x2)), (3, (true, (mxx x1 0)))]) [1, 3, 0] rfl ?_
  exact w_X10_nextRun_6 F hno hnm FU x0 x2 (mxx x1 0) M h
theorem c_X10_nextRun (l : Launch) (hl : l.stackTraces = false) (G : Gt) (x0 x1 x2 : Int) (M : Mo) (z : RS) (h : X10_nextRun x0 x1 x2 M = some z) : CT l G yX10_nextRun (cn yX10_nextRun cX10_nextRun 6 (some FieldType.int)) 1 [(false, x0), (true, x1), (true, x2)] M 1 z :=
  ctOf hl (by decide) (Nat.le_of_ble_eq_true rfl) (fun p e R s m args below meth c ρ F hno hnm => w_X10_nextRun_0 F hno hnm x0 x1 x2 M h)
theorem dX10_runEnd_0 : decode cX10_runEnd 0 = .ok (.aload_n 0, 1) := by decide +kernel
theorem dX10_runEnd_1 : decode cX10_runEnd 1 = .ok (.iload_n 1, 1) := by decide +kernel
theorem dX10_runEnd_2 : decode cX10_runEnd 2 = .ok (.invokevirtual 68, 3) := by decide +kernel
theorem dX10_runEnd_5 : decode cX10_runEnd 5 = .ok (.istore_n 2, 1) := by decide +kernel
theorem dX10_runEnd_6 : decode cX10_runEnd 6 = .ok (.iload_n 1, 1) := by decide +kernel
theorem dX10_runEnd_7 : decode cX10_runEnd 7 = .ok (.iconst 1, 1) := by decide +kernel
theorem dX10_runEnd_8 : decode cX10_runEnd 8 = .ok (.iadd, 1) := by decide +kernel
theorem dX10_runEnd_9 : decode cX10_runEnd 9 = .ok (.istore_n 3, 1) := by decide +kernel
theorem dX10_runEnd_10 : decode cX10_runEnd 10 = .ok (.iload_n 3, 1) := by decide +kernel
theorem dX10_runEnd_11 : decode cX10_runEnd 11 = .ok (.aload_n 0, 1) := by decide +kernel
theorem dX10_runEnd_12 : decode cX10_runEnd 12 = .ok (.getfield 27, 3) := by decide +kernel
theorem dX10_runEnd_15 : decode cX10_runEnd 15 = .ok (.if_icmp .ge 20, 3) := by decide +kernel
theorem dX10_runEnd_35 : decode cX10_runEnd 35 = .ok (.aload_n 0, 1) := by decide +kernel
theorem dX10_runEnd_36 : decode cX10_runEnd 36 = .ok (.getfield 27, 3) := by decide +kernel
theorem dX10_runEnd_39 : decode cX10_runEnd 39 = .ok (.ireturn, 1) := by decide +kernel
theorem dX10_runEnd_18 : decode cX10_runEnd 18 = .ok (.aload_n 0, 1) := by decide +kernel
theorem dX10_runEnd_19 : decode cX10_runEnd 19 = .ok (.iload_n 3, 1) := by decide +kernel
theorem dX10_runEnd_20 : decode cX10_runEnd 20 = .ok (.invokevirtual 68, 3) := by decide +kernel
theorem dX10_runEnd_23 : decode cX10_runEnd 23 = .ok (.iload_n 2, 1) := by decide +kernel
theorem dX10_runEnd_24 : decode cX10_runEnd 24 = .ok (.if_icmp .eq 5, 3) := by decide +kernel
theorem dX10_runEnd_29 : decode cX10_runEnd 29 = .ok (.iinc 3 1, 3) := by decide +kernel
theorem dX10_runEnd_32 : decode cX10_runEnd 32 = .ok (.goto (-22), 3) := by decide +kernel
theorem dX10_runEnd_27 : decode cX10_runEnd 27 = .ok (.iload_n 3, 1) := by decide +kernel
theorem dX10_runEnd_28 : decode cX10_runEnd 28 = .ok (.ireturn, 1) := by decide +kernel
set_option maxHeartbeats 4000000 in
set_option maxRecDepth 100000 in
theorem w_X10_runEnd_10 {p : Program} {l : Launch} {e : Env} {R : Room} {s : State} {m : MethodId} {args : Array Value} {below : List Frame} {meth : Method} {c : Code} {G : Gt} {ρ0 : Int → Nat} {M0 : Mo} {res : RS} (F : Fx p l R s m args meth c cX10_runEnd 4 RX10 G M0 1 (some FieldType.int)) (hno : ∀ x ∈ c.exceptionTable.toList, False) (hnm : meth.name = yX10_runEnd.name) (n : Nat) : ∀ (x0 x2 x3 : Int) (M : Mo), X10_runEnd_10 n x0 x2 x3 M = some res → J p l e R s m args below meth c 4 G ρ0 M0 1 res M 10 [(0, (false, x0)), (2, (true, x2)), (3, (true, x3))] [] := by
  induction n with
  | zero => intro x0 x2 x3 M h; cases h
  | succ n ih =>
    intro x0 x2 x3 M h
    rw [X10_runEnd_10] at h
    refine j_iload_n F 2 rfl rfl dX10_runEnd_10 ?_
    refine j_aload_n F 0 rfl rfl dX10_runEnd_11 ?_
    obtain ⟨g1, h⟩ := gua h
    refine j_get F ft_X10_27 rfl g1 dX10_runEnd_12 ?_
    refine j_icmp_ge F 35 (by decide) dX10_runEnd_15 h (fun h => ?_) (fun h => ?_)
    · skip
      refine j_aload_n F 0 rfl rfl dX10_runEnd_35 ?_
      refine j_get F ft_X10_27 rfl g1 dX10_runEnd_36 ?_
      exact j_iret F h dX10_runEnd_39
    · skip
      refine j_aload_n F 0 rfl rfl dX10_runEnd_18 ?_
      refine j_iload_n F 2 rfl rfl dX10_runEnd_19 ?_
      refine j_callV (d' := 0) (argl := [(true, x3)]) (rk9 := 1) (st := []) F hno M_X10_sortAt q1129 q16 q1127 ⟨by decide, by decide⟩ (Nat.le_of_ble_eq_true rfl) (by decide) (ci := 11) rfl (by decide) g1 dX10_runEnd_20 rfl h (fun z hz => c_X10_sortAt l F.ht G x0 x3 M z hz) (fun v2 M3 h kl4 => ?_)
      refine j_st (st' := [(true, v2)]) rfl ?_
      refine j_iload_n F 1 rfl rfl dX10_runEnd_23 ?_
      refine j_icmp_eq F 29 (by decide) dX10_runEnd_24 h (fun h => ?_) (fun h => ?_)
      · skip
        refine j_iinc F 2 (lv' := [(3, (true, (x3 + 1))), (0, (false, x0)), (2, (true, x2))]) rfl (by decide) rfl dX10_runEnd_29 ?_
        refine j_goto F 10 (by decide) dX10_runEnd_32 ?_
        refine j_sub (lv' := [(0, (false, x0)), (2, (true, x2)), (3, (true, (x3 + 1)))]) [1, 2, 0] rfl ?_
        exact ih x0 x2 (x3 + 1) M3 h
      · skip
        refine j_iload_n F 2 rfl rfl dX10_runEnd_27 ?_
        exact j_iret F h dX10_runEnd_28
set_option maxHeartbeats 4000000 in
set_option maxRecDepth 100000 in
theorem w_X10_runEnd_0 {p : Program} {l : Launch} {e : Env} {R : Room} {s : State} {m : MethodId} {args : Array Value} {below : List Frame} {meth : Method} {c : Code} {G : Gt} {ρ0 : Int → Nat} {M0 : Mo} {res : RS} (F : Fx p l R s m args meth c cX10_runEnd 4 RX10 G M0 1 (some FieldType.int)) (hno : ∀ x ∈ c.exceptionTable.toList, False) (hnm : meth.name = yX10_runEnd.name) (x0 x1 : Int) (M : Mo) (h : X10_runEnd x0 x1 M = some res) : J p l e R s m args below meth c 4 G ρ0 M0 1 res M 0 [(0, (false, x0)), (1, (true, x1))] [] := by
  unfold X10_runEnd at h
  refine j_aload_n F 0 rfl rfl dX10_runEnd_0 ?_
  refine j_iload_n F 1 rfl rfl dX10_runEnd_1 ?_
  obtain ⟨g4, h⟩ := gua h
  refine j_callV (d' := 0) (argl := [(true, x1)]) (rk9 := 1) (st := []) F hno M_X10_sortAt q1129 q16 q1127 ⟨by decide, by decide⟩ (Nat.le_of_ble_eq_true rfl) (by decide) (ci := 11) rfl (by decide) g4 dX10_runEnd_2 rfl h (fun z hz => c_X10_sortAt l F.ht G x0 x1 M z hz) (fun v1 M2 h kl3 => ?_)
  refine j_st (st' := [(true, v1)]) rfl ?_
  refine j_istore_n F (lv' := [(2, (true, v1)), (0, (false, x0)), (1, (true, x1))]) rfl (by decide) rfl dX10_runEnd_5 ?_
  refine j_iload_n F 2 rfl rfl dX10_runEnd_6 ?_
  refine j_iconst F dX10_runEnd_7 ?_
  refine j_iadd F dX10_runEnd_8 ?_
  refine j_istore_n F (lv' := [(3, (true, (x1 + 1))), (2, (true, v1)), (0, (false, x0)), (1, (true, x1))]) rfl (by decide) rfl dX10_runEnd_9 ?_
  refine j_sub (lv' := [(0, (false, x0)), (2, (true, v1)), (3, (true, (x1 + 1)))]) [2, 1, 0] rfl ?_
  exact w_X10_runEnd_10 F hno hnm FU x0 v1 (x1 + 1) M2 h
theorem c_X10_runEnd (l : Launch) (hl : l.stackTraces = false) (G : Gt) (x0 x1 : Int) (M : Mo) (z : RS) (h : X10_runEnd x0 x1 M = some z) : CT l G yX10_runEnd (cn yX10_runEnd cX10_runEnd 4 (some FieldType.int)) 1 [(false, x0), (true, x1)] M 1 z :=
  ctOf hl (by decide) (Nat.le_of_ble_eq_true rfl) (fun p e R s m args below meth c ρ F hno hnm => w_X10_runEnd_0 F hno hnm x0 x1 M h)
theorem dX10_runAt_0 : decode cX10_runAt 0 = .ok (.aload_n 0, 1) := by decide +kernel
theorem dX10_runAt_1 : decode cX10_runAt 1 = .ok (.iconst 0, 1) := by decide +kernel
theorem dX10_runAt_2 : decode cX10_runAt 2 = .ok (.iload_n 2, 1) := by decide +kernel
set_option maxRecDepth 100000 in
theorem q1126 : Cond.code yX10_nextRun cX10_nextRun 6 (some FieldType.int) ∈ GT := gt 1126 (rfl) (by decide +kernel)
theorem M_X10_nextRun : MY yX10_nextRun cX10_nextRun 6 (some FieldType.int) 2 := ⟨q1126, q54, by decide +kernel, by decide +kernel⟩
set_option maxRecDepth 100000 in
theorem q1124 : Cond.instanceMethod yX10_nextRun ∈ GT := gt 1124 (by decide +kernel) (by decide +kernel)
set_option maxRecDepth 100000 in
theorem q1125 : Cond.selects RX10 yX10_nextRun yX10_nextRun ∈ GT := gt 1125 (by decide +kernel) (by decide +kernel)
set_option maxRecDepth 100000 in
theorem q1123 : Cond.methodLink RX10 71 yX10_nextRun ∈ GT := gt 1123 (by decide +kernel) (by decide +kernel)
theorem dX10_runAt_3 : decode cX10_runAt 3 = .ok (.invokevirtual 71, 3) := by decide +kernel
theorem dX10_runAt_6 : decode cX10_runAt 6 = .ok (.istore_n 3, 1) := by decide +kernel
theorem dX10_runAt_7 : decode cX10_runAt 7 = .ok (.bipush 100, 2) := by decide +kernel
theorem dX10_runAt_9 : decode cX10_runAt 9 = .ok (.istore 4, 2) := by decide +kernel
theorem dX10_runAt_11 : decode cX10_runAt 11 = .ok (.iload 4, 2) := by decide +kernel
theorem dX10_runAt_13 : decode cX10_runAt 13 = .ok (.ifCond .le 42, 3) := by decide +kernel
theorem dX10_runAt_55 : decode cX10_runAt 55 = .ok (.iconst (-1), 1) := by decide +kernel
theorem dX10_runAt_56 : decode cX10_runAt 56 = .ok (.ireturn, 1) := by decide +kernel
theorem dX10_runAt_16 : decode cX10_runAt 16 = .ok (.iload_n 3, 1) := by decide +kernel
theorem dX10_runAt_17 : decode cX10_runAt 17 = .ok (.iconst (-1), 1) := by decide +kernel
theorem dX10_runAt_18 : decode cX10_runAt 18 = .ok (.if_icmp .eq 37, 3) := by decide +kernel
theorem dX10_runAt_21 : decode cX10_runAt 21 = .ok (.iload_n 3, 1) := by decide +kernel
theorem dX10_runAt_22 : decode cX10_runAt 22 = .ok (.iload_n 1, 1) := by decide +kernel
theorem dX10_runAt_23 : decode cX10_runAt 23 = .ok (.if_icmp .gt 32, 3) := by decide +kernel
theorem dX10_runAt_26 : decode cX10_runAt 26 = .ok (.aload_n 0, 1) := by decide +kernel
theorem dX10_runAt_27 : decode cX10_runAt 27 = .ok (.iload_n 3, 1) := by decide +kernel
set_option maxRecDepth 100000 in
theorem q1134 : Cond.code yX10_runEnd cX10_runEnd 4 (some FieldType.int) ∈ GT := gt 1134 (rfl) (by decide +kernel)
theorem M_X10_runEnd : MY yX10_runEnd cX10_runEnd 4 (some FieldType.int) 1 := ⟨q1134, q54, by decide +kernel, by decide +kernel⟩
set_option maxRecDepth 100000 in
theorem q1132 : Cond.instanceMethod yX10_runEnd ∈ GT := gt 1132 (by decide +kernel) (by decide +kernel)
set_option maxRecDepth 100000 in
theorem q1133 : Cond.selects RX10 yX10_runEnd yX10_runEnd ∈ GT := gt 1133 (by decide +kernel) (by decide +kernel)
set_option maxRecDepth 100000 in
theorem q1131 : Cond.methodLink RX10 74 yX10_runEnd ∈ GT := gt 1131 (by decide +kernel) (by decide +kernel)
theorem dX10_runAt_28 : decode cX10_runAt 28 = .ok (.invokevirtual 74, 3) := by decide +kernel
theorem dX10_runAt_31 : decode cX10_runAt 31 = .ok (.istore 5, 2) := by decide +kernel
theorem dX10_runAt_33 : decode cX10_runAt 33 = .ok (.iload 5, 2) := by decide +kernel
theorem dX10_runAt_35 : decode cX10_runAt 35 = .ok (.iload_n 1, 1) := by decide +kernel
theorem dX10_runAt_36 : decode cX10_runAt 36 = .ok (.if_icmp .lt 5, 3) := by decide +kernel
theorem dX10_runAt_41 : decode cX10_runAt 41 = .ok (.aload_n 0, 1) := by decide +kernel
theorem dX10_runAt_42 : decode cX10_runAt 42 = .ok (.iload 5, 2) := by decide +kernel
theorem dX10_runAt_44 : decode cX10_runAt 44 = .ok (.iload_n 2, 1) := by decide +kernel
theorem dX10_runAt_45 : decode cX10_runAt 45 = .ok (.invokevirtual 71, 3) := by decide +kernel
theorem dX10_runAt_48 : decode cX10_runAt 48 = .ok (.istore_n 3, 1) := by decide +kernel
theorem dX10_runAt_49 : decode cX10_runAt 49 = .ok (.iinc 4 (-1), 3) := by decide +kernel
theorem dX10_runAt_52 : decode cX10_runAt 52 = .ok (.goto (-41), 3) := by decide +kernel
theorem dX10_runAt_39 : decode cX10_runAt 39 = .ok (.iload_n 3, 1) := by decide +kernel
theorem dX10_runAt_40 : decode cX10_runAt 40 = .ok (.ireturn, 1) := by decide +kernel
set_option maxHeartbeats 4000000 in
set_option maxRecDepth 100000 in
theorem w_X10_runAt_11 {p : Program} {l : Launch} {e : Env} {R : Room} {s : State} {m : MethodId} {args : Array Value} {below : List Frame} {meth : Method} {c : Code} {G : Gt} {ρ0 : Int → Nat} {M0 : Mo} {res : RS} (F : Fx p l R s m args meth c cX10_runAt 6 RX10 G M0 2 (some FieldType.int)) (hno : ∀ x ∈ c.exceptionTable.toList, False) (hnm : meth.name = yX10_runAt.name) (n : Nat) : ∀ (x0 x1 x2 x3 x4 : Int) (M : Mo), X10_runAt_11 n x0 x1 x2 x3 x4 M = some res → J p l e R s m args below meth c 6 G ρ0 M0 1 res M 11 [(0, (false, x0)), (1, (true, x1)), (2, (true, x2)), (3, (true, x3)), (4, (true, x4))] [] := by
  induction n with
  | zero => intro x0 x1 x2 x3 x4 M h; cases h
  | succ n ih =>
    intro x0 x1 x2 x3 x4 M h
    rw [X10_runAt_11] at h
    refine j_iload F 4 rfl dX10_runAt_11 ?_
    refine j_if_le F 55 (by decide) dX10_runAt_13 h (fun h => ?_) (fun h => ?_)
    · skip
      refine j_iconst F dX10_runAt_55 ?_
      exact j_iret F h dX10_runAt_56
    · skip
      refine j_iload_n F 3 rfl rfl dX10_runAt_16 ?_
      refine j_iconst F dX10_runAt_17 ?_
      refine j_icmp_eq F 55 (by decide) dX10_runAt_18 h (fun h => ?_) (fun h => ?_)
      · skip
        refine j_iconst F dX10_runAt_55 ?_
        exact j_iret F h dX10_runAt_56
      · skip
        refine j_iload_n F 3 rfl rfl dX10_runAt_21 ?_
        refine j_iload_n F 1 rfl rfl dX10_runAt_22 ?_
        refine j_icmp_gt F 55 (by decide) dX10_runAt_23 h (fun h => ?_) (fun h => ?_)
        · skip
          refine j_iconst F dX10_runAt_55 ?_
          exact j_iret F h dX10_runAt_56
        · skip
          refine j_aload_n F 0 rfl rfl dX10_runAt_26 ?_
          refine j_iload_n F 3 rfl rfl dX10_runAt_27 ?_
          obtain ⟨g4, h⟩ := gua h
          refine j_callV (d' := 1) (argl := [(true, x3)]) (rk9 := 1) (st := []) F hno M_X10_runEnd q1132 q1133 q1131 ⟨by decide, by decide⟩ (Nat.le_of_ble_eq_true rfl) (by decide) (ci := 11) rfl (by decide) g4 dX10_runAt_28 rfl h (fun z hz => c_X10_runEnd l F.ht G x0 x3 M z hz) (fun v1 M2 h kl3 => ?_)
          refine j_st (st' := [(true, v1)]) rfl ?_
          refine j_istore F (lv' := [(5, (true, v1)), (0, (false, x0)), (1, (true, x1)), (2, (true, x2)), (3, (true, x3)), (4, (true, x4))]) (by decide) rfl dX10_runAt_31 ?_
          refine j_iload F 0 rfl dX10_runAt_33 ?_
          refine j_iload_n F 2 rfl rfl dX10_runAt_35 ?_
          refine j_icmp_lt F 41 (by decide) dX10_runAt_36 h (fun h => ?_) (fun h => ?_)
          · skip
            refine j_aload_n F 1 rfl rfl dX10_runAt_41 ?_
            refine j_iload F 0 rfl dX10_runAt_42 ?_
            refine j_iload_n F 3 rfl rfl dX10_runAt_44 ?_
            refine j_callV (d' := 1) (argl := [(true, v1), (true, x2)]) (rk9 := 1) (st := []) F hno M_X10_nextRun q1124 q1125 q1123 ⟨by decide, by decide⟩ (Nat.le_of_ble_eq_true rfl) (by decide) (ci := 11) rfl (by decide) (kl3.is g4) dX10_runAt_45 rfl h (fun z hz => c_X10_nextRun l F.ht G x0 v1 x2 M2 z hz) (fun v5 M6 h kl7 => ?_)
            refine j_st (st' := [(true, v5)]) rfl ?_
            refine j_istore_n F (lv' := [(3, (true, v5)), (5, (true, v1)), (0, (false, x0)), (1, (true, x1)), (2, (true, x2)), (4, (true, x4))]) rfl (by decide) rfl dX10_runAt_48 ?_
            refine j_iinc F 5 (lv' := [(4, (true, (x4 + (-1)))), (3, (true, v5)), (5, (true, v1)), (0, (false, x0)), (1, (true, x1)), (2, (true, x2))]) rfl (by decide) rfl dX10_runAt_49 ?_
            refine j_goto F 11 (by decide) dX10_runAt_52 ?_
            refine j_sub (lv' := [(0, (false, x0)), (1, (true, x1)), (2, (true, x2)), (3, (true, v5)), (4, (true, (x4 + (-1))))]) [3, 4, 5, 1, 0] rfl ?_
            exact ih x0 x1 x2 v5 (x4 + (-1)) M6 h
          · skip
            refine j_iload_n F 4 rfl rfl dX10_runAt_39 ?_
            exact j_iret F h dX10_runAt_40
set_option maxHeartbeats 4000000 in
set_option maxRecDepth 100000 in
theorem w_X10_runAt_0 {p : Program} {l : Launch} {e : Env} {R : Room} {s : State} {m : MethodId} {args : Array Value} {below : List Frame} {meth : Method} {c : Code} {G : Gt} {ρ0 : Int → Nat} {M0 : Mo} {res : RS} (F : Fx p l R s m args meth c cX10_runAt 6 RX10 G M0 2 (some FieldType.int)) (hno : ∀ x ∈ c.exceptionTable.toList, False) (hnm : meth.name = yX10_runAt.name) (x0 x1 x2 : Int) (M : Mo) (h : X10_runAt x0 x1 x2 M = some res) : J p l e R s m args below meth c 6 G ρ0 M0 1 res M 0 [(0, (false, x0)), (1, (true, x1)), (2, (true, x2))] [] := by
  unfold X10_runAt at h
  refine j_aload_n F 0 rfl rfl dX10_runAt_0 ?_
  refine j_iconst F dX10_runAt_1 ?_
  refine j_iload_n F 2 rfl rfl dX10_runAt_2 ?_
  obtain ⟨g4, h⟩ := gua h
  refine j_callV (d' := 1) (argl := [(true, 0), (true, x2)]) (rk9 := 1) (st := []) F hno M_X10_nextRun q1124 q1125 q1123 ⟨by decide, by decide⟩ (Nat.le_of_ble_eq_true rfl) (by decide) (ci := 11) rfl (by decide) g4 dX10_runAt_3 rfl h (fun z hz => c_X10_nextRun l F.ht G x0 0 x2 M z hz) (fun v1 M2 h kl3 => ?_)
  refine j_st (st' := [(true, v1)]) rfl ?_
  refine j_istore_n F (lv' := [(3, (true, v1)), (0, (false, x0)), (1, (true, x1)), (2, (true, x2))]) rfl (by decide) rfl dX10_runAt_6 ?_
  refine j_bipush F (by decide) dX10_runAt_7 ?_
  refine j_istore F (lv' := [(4, (true, 100)), (3, (true, v1)), (0, (false, x0)), (1, (true, x1)), (2, (true, x2))]) (by decide) rfl dX10_runAt_9 ?_
  refine j_sub (lv' := [(0, (false, x0)), (1, (true, x1)), (2, (true, x2)), (3, (true, v1)), (4, (true, 100))]) [2, 3, 4, 1, 0] rfl ?_
  exact w_X10_runAt_11 F hno hnm FU x0 x1 x2 v1 100 M2 h
theorem c_X10_runAt (l : Launch) (hl : l.stackTraces = false) (G : Gt) (x0 x1 x2 : Int) (M : Mo) (z : RS) (h : X10_runAt x0 x1 x2 M = some z) : CT l G yX10_runAt (cn yX10_runAt cX10_runAt 6 (some FieldType.int)) 2 [(false, x0), (true, x1), (true, x2)] M 1 z :=
  ctOf hl (by decide) (Nat.le_of_ble_eq_true rfl) (fun p e R s m args below meth c ρ F hno hnm => w_X10_runAt_0 F hno hnm x0 x1 x2 M h)
theorem dX10_compareRuns_0 : decode cX10_compareRuns 0 = .ok (.iload_n 2, 1) := by decide +kernel
theorem dX10_compareRuns_1 : decode cX10_compareRuns 1 = .ok (.iload_n 1, 1) := by decide +kernel
theorem dX10_compareRuns_2 : decode cX10_compareRuns 2 = .ok (.isub, 1) := by decide +kernel
theorem dX10_compareRuns_3 : decode cX10_compareRuns 3 = .ok (.iload 4, 2) := by decide +kernel
theorem dX10_compareRuns_5 : decode cX10_compareRuns 5 = .ok (.iload_n 3, 1) := by decide +kernel
theorem dX10_compareRuns_6 : decode cX10_compareRuns 6 = .ok (.isub, 1) := by decide +kernel
theorem dX10_compareRuns_7 : decode cX10_compareRuns 7 = .ok (.invokestatic 58, 3) := by decide +kernel
theorem dX10_compareRuns_10 : decode cX10_compareRuns 10 = .ok (.istore 5, 2) := by decide +kernel
theorem dX10_compareRuns_12 : decode cX10_compareRuns 12 = .ok (.iconst 0, 1) := by decide +kernel
theorem dX10_compareRuns_13 : decode cX10_compareRuns 13 = .ok (.istore 6, 2) := by decide +kernel
theorem dX10_compareRuns_15 : decode cX10_compareRuns 15 = .ok (.iload 6, 2) := by decide +kernel
theorem dX10_compareRuns_17 : decode cX10_compareRuns 17 = .ok (.iload 5, 2) := by decide +kernel
theorem dX10_compareRuns_19 : decode cX10_compareRuns 19 = .ok (.if_icmp .ge 36, 3) := by decide +kernel
theorem dX10_compareRuns_55 : decode cX10_compareRuns 55 = .ok (.iload_n 2, 1) := by decide +kernel
theorem dX10_compareRuns_56 : decode cX10_compareRuns 56 = .ok (.iload_n 1, 1) := by decide +kernel
theorem dX10_compareRuns_57 : decode cX10_compareRuns 57 = .ok (.isub, 1) := by decide +kernel
theorem dX10_compareRuns_58 : decode cX10_compareRuns 58 = .ok (.iload 4, 2) := by decide +kernel
theorem dX10_compareRuns_60 : decode cX10_compareRuns 60 = .ok (.iload_n 3, 1) := by decide +kernel
theorem dX10_compareRuns_61 : decode cX10_compareRuns 61 = .ok (.isub, 1) := by decide +kernel
theorem dX10_compareRuns_62 : decode cX10_compareRuns 62 = .ok (.isub, 1) := by decide +kernel
theorem dX10_compareRuns_63 : decode cX10_compareRuns 63 = .ok (.ireturn, 1) := by decide +kernel
theorem dX10_compareRuns_22 : decode cX10_compareRuns 22 = .ok (.aload_n 0, 1) := by decide +kernel
theorem dX10_compareRuns_23 : decode cX10_compareRuns 23 = .ok (.iload_n 1, 1) := by decide +kernel
theorem dX10_compareRuns_24 : decode cX10_compareRuns 24 = .ok (.iload 6, 2) := by decide +kernel
theorem dX10_compareRuns_26 : decode cX10_compareRuns 26 = .ok (.iadd, 1) := by decide +kernel
theorem dX10_compareRuns_27 : decode cX10_compareRuns 27 = .ok (.invokevirtual 52, 3) := by decide +kernel
theorem dX10_compareRuns_30 : decode cX10_compareRuns 30 = .ok (.aload_n 0, 1) := by decide +kernel
theorem dX10_compareRuns_31 : decode cX10_compareRuns 31 = .ok (.iload_n 3, 1) := by decide +kernel
theorem dX10_compareRuns_32 : decode cX10_compareRuns 32 = .ok (.iload 6, 2) := by decide +kernel
theorem dX10_compareRuns_34 : decode cX10_compareRuns 34 = .ok (.iadd, 1) := by decide +kernel
theorem dX10_compareRuns_35 : decode cX10_compareRuns 35 = .ok (.invokevirtual 52, 3) := by decide +kernel
theorem dX10_compareRuns_38 : decode cX10_compareRuns 38 = .ok (.isub, 1) := by decide +kernel
theorem dX10_compareRuns_39 : decode cX10_compareRuns 39 = .ok (.istore 7, 2) := by decide +kernel
theorem dX10_compareRuns_41 : decode cX10_compareRuns 41 = .ok (.iload 7, 2) := by decide +kernel
theorem dX10_compareRuns_43 : decode cX10_compareRuns 43 = .ok (.ifCond .eq 6, 3) := by decide +kernel
theorem dX10_compareRuns_49 : decode cX10_compareRuns 49 = .ok (.iinc 6 1, 3) := by decide +kernel
theorem dX10_compareRuns_52 : decode cX10_compareRuns 52 = .ok (.goto (-37), 3) := by decide +kernel
theorem dX10_compareRuns_46 : decode cX10_compareRuns 46 = .ok (.iload 7, 2) := by decide +kernel
theorem dX10_compareRuns_48 : decode cX10_compareRuns 48 = .ok (.ireturn, 1) := by decide +kernel
set_option maxHeartbeats 4000000 in
set_option maxRecDepth 100000 in
theorem w_X10_compareRuns_15 {p : Program} {l : Launch} {e : Env} {R : Room} {s : State} {m : MethodId} {args : Array Value} {below : List Frame} {meth : Method} {c : Code} {G : Gt} {ρ0 : Int → Nat} {M0 : Mo} {res : RS} (F : Fx p l R s m args meth c cX10_compareRuns 8 RX10 G M0 1 (some FieldType.int)) (hno : ∀ x ∈ c.exceptionTable.toList, False) (hnm : meth.name = yX10_compareRuns.name) (n : Nat) : ∀ (x0 x1 x2 x3 x4 x5 x6 : Int) (M : Mo), X10_compareRuns_15 n x0 x1 x2 x3 x4 x5 x6 M = some res → J p l e R s m args below meth c 8 G ρ0 M0 1 res M 15 [(0, (false, x0)), (1, (true, x1)), (2, (true, x2)), (3, (true, x3)), (4, (true, x4)), (5, (true, x5)), (6, (true, x6))] [] := by
  induction n with
  | zero => intro x0 x1 x2 x3 x4 x5 x6 M h; cases h
  | succ n ih =>
    intro x0 x1 x2 x3 x4 x5 x6 M h
    rw [X10_compareRuns_15] at h
    refine j_iload F 6 rfl dX10_compareRuns_15 ?_
    refine j_iload F 5 rfl dX10_compareRuns_17 ?_
    refine j_icmp_ge F 55 (by decide) dX10_compareRuns_19 h (fun h => ?_) (fun h => ?_)
    · skip
      refine j_iload_n F 2 rfl rfl dX10_compareRuns_55 ?_
      refine j_iload_n F 1 rfl rfl dX10_compareRuns_56 ?_
      refine j_isub F dX10_compareRuns_57 ?_
      refine j_iload F 4 rfl dX10_compareRuns_58 ?_
      refine j_iload_n F 3 rfl rfl dX10_compareRuns_60 ?_
      refine j_isub F dX10_compareRuns_61 ?_
      refine j_isub F dX10_compareRuns_62 ?_
      exact j_iret F h dX10_compareRuns_63
    · skip
      refine j_aload_n F 0 rfl rfl dX10_compareRuns_22 ?_
      refine j_iload_n F 1 rfl rfl dX10_compareRuns_23 ?_
      refine j_iload F 6 rfl dX10_compareRuns_24 ?_
      refine j_iadd F dX10_compareRuns_26 ?_
      obtain ⟨g4, h⟩ := gua h
      refine j_callV (d' := 0) (argl := [(true, (x1 + x6))]) (rk9 := 1) (st := []) F hno M_X10_at q896 q897 q895 ⟨by decide, by decide⟩ (Nat.le_of_ble_eq_true rfl) (by decide) (ci := 11) rfl (by decide) g4 dX10_compareRuns_27 rfl h (fun z hz => c_X10_at l F.ht G x0 (x1 + x6) M z hz) (fun v1 M2 h kl3 => ?_)
      refine j_st (st' := [(true, v1)]) rfl ?_
      refine j_aload_n F 0 rfl rfl dX10_compareRuns_30 ?_
      refine j_iload_n F 3 rfl rfl dX10_compareRuns_31 ?_
      refine j_iload F 6 rfl dX10_compareRuns_32 ?_
      refine j_iadd F dX10_compareRuns_34 ?_
      refine j_callV (d' := 0) (argl := [(true, (x3 + x6))]) (rk9 := 1) (st := [(true, v1)]) F hno M_X10_at q896 q897 q895 ⟨by decide, by decide⟩ (Nat.le_of_ble_eq_true rfl) (by decide) (ci := 11) rfl (by decide) (kl3.is g4) dX10_compareRuns_35 rfl h (fun z hz => c_X10_at l F.ht G x0 (x3 + x6) M2 z hz) (fun v5 M6 h kl7 => ?_)
      refine j_st (st' := [(true, v5), (true, v1)]) rfl ?_
      refine j_isub F dX10_compareRuns_38 ?_
      refine j_istore F (lv' := [(7, (true, (v1 - v5))), (0, (false, x0)), (1, (true, x1)), (2, (true, x2)), (3, (true, x3)), (4, (true, x4)), (5, (true, x5)), (6, (true, x6))]) (by decide) rfl dX10_compareRuns_39 ?_
      refine j_iload F 0 rfl dX10_compareRuns_41 ?_
      refine j_if_eq F 49 (by decide) dX10_compareRuns_43 h (fun h => ?_) (fun h => ?_)
      · skip
        refine j_iinc F 7 (lv' := [(6, (true, (x6 + 1))), (7, (true, (v1 - v5))), (0, (false, x0)), (1, (true, x1)), (2, (true, x2)), (3, (true, x3)), (4, (true, x4)), (5, (true, x5))]) rfl (by decide) rfl dX10_compareRuns_49 ?_
        refine j_goto F 15 (by decide) dX10_compareRuns_52 ?_
        refine j_sub (lv' := [(0, (false, x0)), (1, (true, x1)), (2, (true, x2)), (3, (true, x3)), (4, (true, x4)), (5, (true, x5)), (6, (true, (x6 + 1)))]) [2, 3, 4, 5, 6, 7, 0] rfl ?_
        exact ih x0 x1 x2 x3 x4 x5 (x6 + 1) M6 h
      · skip
        refine j_iload F 0 rfl dX10_compareRuns_46 ?_
        exact j_iret F h dX10_compareRuns_48
set_option maxHeartbeats 4000000 in
set_option maxRecDepth 100000 in
theorem w_X10_compareRuns_0 {p : Program} {l : Launch} {e : Env} {R : Room} {s : State} {m : MethodId} {args : Array Value} {below : List Frame} {meth : Method} {c : Code} {G : Gt} {ρ0 : Int → Nat} {M0 : Mo} {res : RS} (F : Fx p l R s m args meth c cX10_compareRuns 8 RX10 G M0 1 (some FieldType.int)) (hno : ∀ x ∈ c.exceptionTable.toList, False) (hnm : meth.name = yX10_compareRuns.name) (x0 x1 x2 x3 x4 : Int) (M : Mo) (h : X10_compareRuns x0 x1 x2 x3 x4 M = some res) : J p l e R s m args below meth c 8 G ρ0 M0 1 res M 0 [(0, (false, x0)), (1, (true, x1)), (2, (true, x2)), (3, (true, x3)), (4, (true, x4))] [] := by
  unfold X10_compareRuns at h
  refine j_iload_n F 2 rfl rfl dX10_compareRuns_0 ?_
  refine j_iload_n F 1 rfl rfl dX10_compareRuns_1 ?_
  refine j_isub F dX10_compareRuns_2 ?_
  refine j_iload F 4 rfl dX10_compareRuns_3 ?_
  refine j_iload_n F 3 rfl rfl dX10_compareRuns_5 ?_
  refine j_isub F dX10_compareRuns_6 ?_
  refine j_min F ⟨q904, q570, q74, q571⟩ (by decide) (Nat.le_of_ble_eq_true rfl) dX10_compareRuns_7 ?_
  refine j_istore F (lv' := [(5, (true, (mnn (x2 - x1) (x4 - x3)))), (0, (false, x0)), (1, (true, x1)), (2, (true, x2)), (3, (true, x3)), (4, (true, x4))]) (by decide) rfl dX10_compareRuns_10 ?_
  refine j_iconst F dX10_compareRuns_12 ?_
  refine j_istore F (lv' := [(6, (true, 0)), (5, (true, (mnn (x2 - x1) (x4 - x3)))), (0, (false, x0)), (1, (true, x1)), (2, (true, x2)), (3, (true, x3)), (4, (true, x4))]) (by decide) rfl dX10_compareRuns_13 ?_
  refine j_sub (lv' := [(0, (false, x0)), (1, (true, x1)), (2, (true, x2)), (3, (true, x3)), (4, (true, x4)), (5, (true, (mnn (x2 - x1) (x4 - x3)))), (6, (true, 0))]) [2, 3, 4, 5, 6, 1, 0] rfl ?_
  exact w_X10_compareRuns_15 F hno hnm FU x0 x1 x2 x3 x4 (mnn (x2 - x1) (x4 - x3)) 0 M h
theorem c_X10_compareRuns (l : Launch) (hl : l.stackTraces = false) (G : Gt) (x0 x1 x2 x3 x4 : Int) (M : Mo) (z : RS) (h : X10_compareRuns x0 x1 x2 x3 x4 M = some z) : CT l G yX10_compareRuns (cn yX10_compareRuns cX10_compareRuns 8 (some FieldType.int)) 1 [(false, x0), (true, x1), (true, x2), (true, x3), (true, x4)] M 1 z :=
  ctOf hl (by decide) (Nat.le_of_ble_eq_true rfl) (fun p e R s m args below meth c ρ F hno hnm => w_X10_compareRuns_0 F hno hnm x0 x1 x2 x3 x4 M h)
