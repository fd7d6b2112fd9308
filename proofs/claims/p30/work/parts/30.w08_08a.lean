theorem dX8_init_0 : decode cX8_init 0 = .ok (.aload_n 0, 1) := by decide +kernel
set_option maxRecDepth 100000 in
theorem q1455 : Cond.methodLink RX8 3 Lib.objectInit ∈ GT := gt 1455 (by decide +kernel) (by decide +kernel)
theorem dX8_init_1 : decode cX8_init 1 = .ok (.invokespecial 3, 3) := by decide +kernel
theorem dX8_init_4 : decode cX8_init 4 = .ok (.aload_n 0, 1) := by decide +kernel
theorem dX8_init_5 : decode cX8_init 5 = .ok (.iconst 3, 1) := by decide +kernel
set_option maxRecDepth 100000 in
theorem q1469 : Cond.arrayClass FieldType.boolean ∈ GT := gt 1469 (by decide +kernel) (by decide +kernel)
theorem dX8_init_6 : decode cX8_init 6 = .ok (.newarray .boolean, 2) := by decide +kernel
set_option maxRecDepth 100000 in
theorem q1460 : Cond.fieldLink RX8 9 "ToolPlex$Pending" "waits" "[Z" ∈ GT := gt 1460 (by decide +kernel) (by decide +kernel)
theorem inGX8 : ∀ w ∈ u_ws RX8 TX8 3, w ∈ GT := gts [1462, 1464, 1466] (by decide +kernel) (by decide +kernel)
theorem ft_X8_9 : FT RX8 9 RX8 9 RX8 TX8 3 1 := ⟨rfl, by decide, by decide, q1460, Or.inl rfl, inGX8⟩
theorem dX8_init_8 : decode cX8_init 8 = .ok (.putfield 9, 3) := by decide +kernel
theorem dX8_init_11 : decode cX8_init 11 = .ok (.aload_n 0, 1) := by decide +kernel
theorem dX8_init_12 : decode cX8_init 12 = .ok (.iconst 3, 1) := by decide +kernel
set_option maxRecDepth 100000 in
theorem q1456 : Cond.classLink RX8 15 RX6 ∈ GT := gt 1456 (by decide +kernel) (by decide +kernel)
theorem dX8_init_13 : decode cX8_init 13 = .ok (.anewarray 15, 3) := by decide +kernel
set_option maxRecDepth 100000 in
theorem q1461 : Cond.fieldLink RX8 17 "ToolPlex$Pending" "answers" "[LToolPlex$Message;" ∈ GT := gt 1461 (by decide +kernel) (by decide +kernel)
theorem ft_X8_17 : FT RX8 17 RX8 9 RX8 TX8 3 2 := ⟨rfl, by decide, by decide, q1461, Or.inl rfl, inGX8⟩
theorem dX8_init_16 : decode cX8_init 16 = .ok (.putfield 17, 3) := by decide +kernel
theorem dX8_init_19 : decode cX8_init 19 = .ok (.aload_n 0, 1) := by decide +kernel
theorem dX8_init_20 : decode cX8_init 20 = .ok (.aload_n 1, 1) := by decide +kernel
set_option maxRecDepth 100000 in
theorem q1458 : Cond.fieldLink RX8 21 "ToolPlex$Pending" "question" "LToolPlex$Message;" ∈ GT := gt 1458 (by decide +kernel) (by decide +kernel)
theorem ft_X8_21 : FT RX8 21 RX8 9 RX8 TX8 3 0 := ⟨rfl, by decide, by decide, q1458, Or.inl rfl, inGX8⟩
theorem dX8_init_21 : decode cX8_init 21 = .ok (.putfield 21, 3) := by decide +kernel
theorem dX8_init_24 : decode cX8_init 24 = .ok (.return_, 1) := by decide +kernel
set_option maxHeartbeats 4000000 in
set_option maxRecDepth 100000 in
theorem w_X8_init_0 {p : Program} {l : Launch} {e : Env} {R : Room} {s : State} {m : MethodId} {args : Array Value} {below : List Frame} {meth : Method} {c : Code} {G : Gt} {ρ0 : Int → Nat} {M0 : Mo} {res : RS} (F : Fx p l R s m args meth c cX8_init 2 RX8 G M0 1 none) (hno : ∀ x ∈ c.exceptionTable.toList, False) (hnm : meth.name = yX8_init.name) (x0 x1 : Int) (M : Mo) (h : X8_init x0 x1 M = some res) : J p l e R s m args below meth c 2 G ρ0 M0 0 res M 0 [(0, (false, x0)), (1, (false, x1))] [] := by
  unfold X8_init at h
  refine j_aload_n F 0 rfl rfl dX8_init_0 ?_
  obtain ⟨g1, h⟩ := gua h
  refine j_objInit F ⟨q1455, q86, q87⟩ g1 (by decide) (Nat.le_of_ble_eq_true rfl) dX8_init_1 ?_
  refine j_aload_n F 0 rfl rfl dX8_init_4 ?_
  refine j_iconst F dX8_init_5 ?_
  obtain ⟨g2, h⟩ := gua h
  refine j_newaZ F q1469 (by decide) g2 dX8_init_6 (fun kl3 => ?_)
  obtain ⟨M4, hM4⟩ : ∃ Z, Z = nA M 2 (wr 3) := ⟨_, rfl⟩
  have g5 : kd M4 (nid M) = 102 := by rw [hM4]; exact kd_nA
  rw [← hM4] at kl3 ⊢
  replace h := pt_as h hM4
  obtain ⟨g6, h⟩ := gua h
  refine j_putF (ty := .array .boolean) F ft_X8_9 rfl rfl hnm rfl tyX8 tyX8_ok nmX8 (by decide +kernel) (nf_ref (Or.inr ⟨_, rfl⟩) _) g6 dX8_init_8 ?_
  obtain ⟨M7, hM7⟩ : ∃ Z, Z = sF M4 9 1 x0 (nid M) := ⟨_, rfl⟩
  have kl8 : kle M4 M7 := by rw [hM7]; exact kle_sF
  rw [← hM7]
  replace h := pt_as h hM7
  refine j_aload_n F 0 rfl rfl dX8_init_11 ?_
  refine j_iconst F dX8_init_12 ?_
  obtain ⟨g9, h⟩ := gua h
  refine j_anewa F 16 9 (by decide) rfl q1456 F.2.2.2.2.2.1.1.2 (by decide) g9 dX8_init_13 (fun kl10 => ?_)
  obtain ⟨M11, hM11⟩ : ∃ Z, Z = nA M7 16 (wr 3) := ⟨_, rfl⟩
  have g12 : kd M11 (nid M7) = 116 := by rw [hM11]; exact kd_nA
  rw [← hM11] at kl10 ⊢
  replace h := pt_as h hM11
  refine j_putF (ty := .array (.object "ToolPlex$Message")) F ft_X8_17 rfl rfl hnm rfl tyX8 tyX8_ok nmX8 (by decide +kernel) (nf_ref (Or.inr ⟨_, rfl⟩) _) (kl10.is (kl8.is g6)) dX8_init_16 ?_
  obtain ⟨M13, hM13⟩ : ∃ Z, Z = sF M11 9 2 x0 (nid M7) := ⟨_, rfl⟩
  have kl14 : kle M11 M13 := by rw [hM13]; exact kle_sF
  rw [← hM13]
  replace h := pt_as h hM13
  refine j_aload_n F 0 rfl rfl dX8_init_19 ?_
  refine j_aload_n F 1 rfl rfl dX8_init_20 ?_
  refine j_putF (ty := .object "ToolPlex$Message") F ft_X8_21 rfl rfl hnm rfl tyX8 tyX8_ok nmX8 (by decide +kernel) (nf_ref (Or.inl ⟨_, rfl⟩) _) (kl14.is (kl10.is (kl8.is g6))) dX8_init_21 ?_
  obtain ⟨M15, hM15⟩ : ∃ Z, Z = sF M13 9 0 x0 x1 := ⟨_, rfl⟩
  have kl16 : kle M13 M15 := by rw [hM15]; exact kle_sF
  rw [← hM15]
  replace h := pt_as h hM15
  exact j_vret F (v := 0) h dX8_init_24
theorem c_X8_init (l : Launch) (hl : l.stackTraces = false) (G : Gt) (x0 x1 : Int) (M : Mo) (z : RS) (h : X8_init x0 x1 M = some z) : CT l G yX8_init (cn yX8_init cX8_init 2 none) 1 [(false, x0), (false, x1)] M 0 z :=
  ctOf hl (by decide) (Nat.le_of_ble_eq_true rfl) (fun p e R s m args below meth c ρ F hno hnm => w_X8_init_0 F hno hnm x0 x1 M h)
theorem dX8_waitsFor_0 : decode cX8_waitsFor 0 = .ok (.iload_n 1, 1) := by decide +kernel
theorem dX8_waitsFor_1 : decode cX8_waitsFor 1 = .ok (.ifCond .lt 21, 3) := by decide +kernel
theorem dX8_waitsFor_22 : decode cX8_waitsFor 22 = .ok (.iconst 0, 1) := by decide +kernel
theorem dX8_waitsFor_23 : decode cX8_waitsFor 23 = .ok (.ireturn, 1) := by decide +kernel
theorem dX8_waitsFor_4 : decode cX8_waitsFor 4 = .ok (.iload_n 1, 1) := by decide +kernel
theorem dX8_waitsFor_5 : decode cX8_waitsFor 5 = .ok (.iconst 3, 1) := by decide +kernel
theorem dX8_waitsFor_6 : decode cX8_waitsFor 6 = .ok (.if_icmp .ge 16, 3) := by decide +kernel
theorem dX8_waitsFor_9 : decode cX8_waitsFor 9 = .ok (.aload_n 0, 1) := by decide +kernel
theorem dX8_waitsFor_10 : decode cX8_waitsFor 10 = .ok (.getfield 9, 3) := by decide +kernel
theorem dX8_waitsFor_13 : decode cX8_waitsFor 13 = .ok (.iload_n 1, 1) := by decide +kernel
theorem dX8_waitsFor_14 : decode cX8_waitsFor 14 = .ok (.baload, 1) := by decide +kernel
theorem dX8_waitsFor_15 : decode cX8_waitsFor 15 = .ok (.ifCond .eq 7, 3) := by decide +kernel
theorem dX8_waitsFor_18 : decode cX8_waitsFor 18 = .ok (.iconst 1, 1) := by decide +kernel
theorem dX8_waitsFor_19 : decode cX8_waitsFor 19 = .ok (.goto 4, 3) := by decide +kernel
set_option maxHeartbeats 4000000 in
set_option maxRecDepth 100000 in
theorem w_X8_waitsFor_0 {p : Program} {l : Launch} {e : Env} {R : Room} {s : State} {m : MethodId} {args : Array Value} {below : List Frame} {meth : Method} {c : Code} {G : Gt} {ρ0 : Int → Nat} {M0 : Mo} {res : RS} (F : Fx p l R s m args meth c cX8_waitsFor 2 RX8 G M0 0 (some FieldType.boolean)) (hno : ∀ x ∈ c.exceptionTable.toList, False) (hnm : meth.name = yX8_waitsFor.name) (x0 x1 : Int) (M : Mo) (h : X8_waitsFor x0 x1 M = some res) : J p l e R s m args below meth c 2 G ρ0 M0 1 res M 0 [(0, (false, x0)), (1, (true, x1))] [] := by
  unfold X8_waitsFor at h
  refine j_iload_n F 1 rfl rfl dX8_waitsFor_0 ?_
  refine j_if_lt F 22 (by decide) dX8_waitsFor_1 h (fun h => ?_) (fun h => ?_)
  · skip
    refine j_iconst F dX8_waitsFor_22 ?_
    exact j_zret F (by decide) h dX8_waitsFor_23
  · skip
    refine j_iload_n F 1 rfl rfl dX8_waitsFor_4 ?_
    refine j_iconst F dX8_waitsFor_5 ?_
    refine j_icmp_ge F 22 (by decide) dX8_waitsFor_6 h (fun h => ?_) (fun h => ?_)
    · skip
      refine j_iconst F dX8_waitsFor_22 ?_
      exact j_zret F (by decide) h dX8_waitsFor_23
    · skip
      refine j_aload_n F 0 rfl rfl dX8_waitsFor_9 ?_
      obtain ⟨g1, h⟩ := gua h
      refine j_get F ft_X8_9 rfl g1 dX8_waitsFor_10 ?_
      refine j_iload_n F 1 rfl rfl dX8_waitsFor_13 ?_
      obtain ⟨g2, h⟩ := gua h
      obtain ⟨g3, h⟩ := gua h
      refine j_baload F g2 g3 dX8_waitsFor_14 ?_
      refine j_if_eq F 22 (by decide) dX8_waitsFor_15 h (fun h => ?_) (fun h => ?_)
      · skip
        refine j_iconst F dX8_waitsFor_22 ?_
        exact j_zret F (by decide) h dX8_waitsFor_23
      · skip
        refine j_iconst F dX8_waitsFor_18 ?_
        refine j_goto F 23 (by decide) dX8_waitsFor_19 ?_
        exact j_zret F (by decide) h dX8_waitsFor_23
theorem c_X8_waitsFor (l : Launch) (hl : l.stackTraces = false) (G : Gt) (x0 x1 : Int) (M : Mo) (z : RS) (h : X8_waitsFor x0 x1 M = some z) : CT l G yX8_waitsFor (cn yX8_waitsFor cX8_waitsFor 2 (some FieldType.boolean)) 0 [(false, x0), (true, x1)] M 1 z :=
  ctOf hl (by decide) (Nat.le_of_ble_eq_true rfl) (fun p e R s m args below meth c ρ F hno hnm => w_X8_waitsFor_0 F hno hnm x0 x1 M h)
theorem dX8_waitFor_0 : decode cX8_waitFor 0 = .ok (.iload_n 1, 1) := by decide +kernel
theorem dX8_waitFor_1 : decode cX8_waitFor 1 = .ok (.ifCond .lt 15, 3) := by decide +kernel
theorem dX8_waitFor_16 : decode cX8_waitFor 16 = .ok (.return_, 1) := by decide +kernel
theorem dX8_waitFor_4 : decode cX8_waitFor 4 = .ok (.iload_n 1, 1) := by decide +kernel
theorem dX8_waitFor_5 : decode cX8_waitFor 5 = .ok (.iconst 3, 1) := by decide +kernel
theorem dX8_waitFor_6 : decode cX8_waitFor 6 = .ok (.if_icmp .ge 10, 3) := by decide +kernel
theorem dX8_waitFor_9 : decode cX8_waitFor 9 = .ok (.aload_n 0, 1) := by decide +kernel
theorem dX8_waitFor_10 : decode cX8_waitFor 10 = .ok (.getfield 9, 3) := by decide +kernel
theorem dX8_waitFor_13 : decode cX8_waitFor 13 = .ok (.iload_n 1, 1) := by decide +kernel
theorem dX8_waitFor_14 : decode cX8_waitFor 14 = .ok (.iconst 1, 1) := by decide +kernel
theorem dX8_waitFor_15 : decode cX8_waitFor 15 = .ok (.bastore, 1) := by decide +kernel
set_option maxHeartbeats 4000000 in
set_option maxRecDepth 100000 in
theorem w_X8_waitFor_0 {p : Program} {l : Launch} {e : Env} {R : Room} {s : State} {m : MethodId} {args : Array Value} {below : List Frame} {meth : Method} {c : Code} {G : Gt} {ρ0 : Int → Nat} {M0 : Mo} {res : RS} (F : Fx p l R s m args meth c cX8_waitFor 2 RX8 G M0 0 none) (hno : ∀ x ∈ c.exceptionTable.toList, False) (hnm : meth.name = yX8_waitFor.name) (x0 x1 : Int) (M : Mo) (h : X8_waitFor x0 x1 M = some res) : J p l e R s m args below meth c 2 G ρ0 M0 0 res M 0 [(0, (false, x0)), (1, (true, x1))] [] := by
  unfold X8_waitFor at h
  refine j_iload_n F 1 rfl rfl dX8_waitFor_0 ?_
  refine j_if_lt F 16 (by decide) dX8_waitFor_1 h (fun h => ?_) (fun h => ?_)
  · skip
    exact j_vret F (v := 0) h dX8_waitFor_16
  · skip
    refine j_iload_n F 1 rfl rfl dX8_waitFor_4 ?_
    refine j_iconst F dX8_waitFor_5 ?_
    refine j_icmp_ge F 16 (by decide) dX8_waitFor_6 h (fun h => ?_) (fun h => ?_)
    · skip
      exact j_vret F (v := 0) h dX8_waitFor_16
    · skip
      refine j_aload_n F 0 rfl rfl dX8_waitFor_9 ?_
      obtain ⟨g1, h⟩ := gua h
      refine j_get F ft_X8_9 rfl g1 dX8_waitFor_10 ?_
      refine j_iload_n F 1 rfl rfl dX8_waitFor_13 ?_
      refine j_iconst F dX8_waitFor_14 ?_
      obtain ⟨g2, h⟩ := gua h
      obtain ⟨g3, h⟩ := gua h
      refine j_bastore F g2 g3 dX8_waitFor_15 ?_
      obtain ⟨M4, hM4⟩ : ∃ Z, Z = sE M 2 (fd M 9 1 x0) (wr x1) (nB 1) := ⟨_, rfl⟩
      have kl5 : kle M M4 := by rw [hM4]; exact kle_sE
      rw [← hM4]
      replace h := pt_as h hM4
      exact j_vret F (v := 0) h dX8_waitFor_16
theorem c_X8_waitFor (l : Launch) (hl : l.stackTraces = false) (G : Gt) (x0 x1 : Int) (M : Mo) (z : RS) (h : X8_waitFor x0 x1 M = some z) : CT l G yX8_waitFor (cn yX8_waitFor cX8_waitFor 2 none) 0 [(false, x0), (true, x1)] M 0 z :=
  ctOf hl (by decide) (Nat.le_of_ble_eq_true rfl) (fun p e R s m args below meth c ρ F hno hnm => w_X8_waitFor_0 F hno hnm x0 x1 M h)
theorem dX8_note_0 : decode cX8_note 0 = .ok (.iload_n 1, 1) := by decide +kernel
theorem dX8_note_1 : decode cX8_note 1 = .ok (.ifCond .lt 22, 3) := by decide +kernel
theorem dX8_note_23 : decode cX8_note 23 = .ok (.return_, 1) := by decide +kernel
theorem dX8_note_4 : decode cX8_note 4 = .ok (.iload_n 1, 1) := by decide +kernel
theorem dX8_note_5 : decode cX8_note 5 = .ok (.iconst 3, 1) := by decide +kernel
theorem dX8_note_6 : decode cX8_note 6 = .ok (.if_icmp .ge 17, 3) := by decide +kernel
theorem dX8_note_9 : decode cX8_note 9 = .ok (.aload_n 0, 1) := by decide +kernel
theorem dX8_note_10 : decode cX8_note 10 = .ok (.getfield 9, 3) := by decide +kernel
theorem dX8_note_13 : decode cX8_note 13 = .ok (.iload_n 1, 1) := by decide +kernel
theorem dX8_note_14 : decode cX8_note 14 = .ok (.iconst 0, 1) := by decide +kernel
theorem dX8_note_15 : decode cX8_note 15 = .ok (.bastore, 1) := by decide +kernel
theorem dX8_note_16 : decode cX8_note 16 = .ok (.aload_n 0, 1) := by decide +kernel
theorem dX8_note_17 : decode cX8_note 17 = .ok (.getfield 17, 3) := by decide +kernel
theorem dX8_note_20 : decode cX8_note 20 = .ok (.iload_n 1, 1) := by decide +kernel
theorem dX8_note_21 : decode cX8_note 21 = .ok (.aload_n 2, 1) := by decide +kernel
theorem dX8_note_22 : decode cX8_note 22 = .ok (.aastore, 1) := by decide +kernel
set_option maxHeartbeats 4000000 in
set_option maxRecDepth 100000 in
theorem w_X8_note_0 {p : Program} {l : Launch} {e : Env} {R : Room} {s : State} {m : MethodId} {args : Array Value} {below : List Frame} {meth : Method} {c : Code} {G : Gt} {ρ0 : Int → Nat} {M0 : Mo} {res : RS} (F : Fx p l R s m args meth c cX8_note 3 RX8 G M0 0 none) (hno : ∀ x ∈ c.exceptionTable.toList, False) (hnm : meth.name = yX8_note.name) (x0 x1 x2 : Int) (M : Mo) (h : X8_note x0 x1 x2 M = some res) : J p l e R s m args below meth c 3 G ρ0 M0 0 res M 0 [(0, (false, x0)), (1, (true, x1)), (2, (false, x2))] [] := by
  unfold X8_note at h
  refine j_iload_n F 1 rfl rfl dX8_note_0 ?_
  refine j_if_lt F 23 (by decide) dX8_note_1 h (fun h => ?_) (fun h => ?_)
  · skip
    exact j_vret F (v := 0) h dX8_note_23
  · skip
    refine j_iload_n F 1 rfl rfl dX8_note_4 ?_
    refine j_iconst F dX8_note_5 ?_
    refine j_icmp_ge F 23 (by decide) dX8_note_6 h (fun h => ?_) (fun h => ?_)
    · skip
      exact j_vret F (v := 0) h dX8_note_23
    · skip
      refine j_aload_n F 0 rfl rfl dX8_note_9 ?_
      obtain ⟨g1, h⟩ := gua h
      refine j_get F ft_X8_9 rfl g1 dX8_note_10 ?_
      refine j_iload_n F 1 rfl rfl dX8_note_13 ?_
      refine j_iconst F dX8_note_14 ?_
      obtain ⟨g2, h⟩ := gua h
      obtain ⟨g3, h⟩ := gua h
      refine j_bastore F g2 g3 dX8_note_15 ?_
      obtain ⟨M4, hM4⟩ : ∃ Z, Z = sE M 2 (fd M 9 1 x0) (wr x1) (nB 0) := ⟨_, rfl⟩
      have kl5 : kle M M4 := by rw [hM4]; exact kle_sE
      rw [← hM4]
      replace h := pt_as h hM4
      refine j_aload_n F 0 rfl rfl dX8_note_16 ?_
      refine j_get F ft_X8_17 rfl (kl5.is g1) dX8_note_17 ?_
      refine j_iload_n F 1 rfl rfl dX8_note_20 ?_
      refine j_aload_n F 2 rfl rfl dX8_note_21 ?_
      obtain ⟨g6, h⟩ := gua h
      obtain ⟨g7, h⟩ := gua h
      obtain ⟨g8, h⟩ := gua h
      refine j_aastore F 16 9 7 g6 (by decide) rfl rfl (by decide) rfl g8 g7 dX8_note_22 ?_
      obtain ⟨M9, hM9⟩ : ∃ Z, Z = sE M4 16 (fd M4 9 2 x0) (wr x1) x2 := ⟨_, rfl⟩
      have kl10 : kle M4 M9 := by rw [hM9]; exact kle_sE
      rw [← hM9]
      replace h := pt_as h hM9
      exact j_vret F (v := 0) h dX8_note_23
theorem c_X8_note (l : Launch) (hl : l.stackTraces = false) (G : Gt) (x0 x1 x2 : Int) (M : Mo) (z : RS) (h : X8_note x0 x1 x2 M = some z) : CT l G yX8_note (cn yX8_note cX8_note 3 none) 0 [(false, x0), (true, x1), (false, x2)] M 0 z :=
  ctOf hl (by decide) (Nat.le_of_ble_eq_true rfl) (fun p e R s m args below meth c ρ F hno hnm => w_X8_note_0 F hno hnm x0 x1 x2 M h)
theorem dX8_isComplete_0 : decode cX8_isComplete 0 = .ok (.iconst 0, 1) := by decide +kernel
theorem dX8_isComplete_1 : decode cX8_isComplete 1 = .ok (.istore_n 1, 1) := by decide +kernel
theorem dX8_isComplete_2 : decode cX8_isComplete 2 = .ok (.iload_n 1, 1) := by decide +kernel
theorem dX8_isComplete_3 : decode cX8_isComplete 3 = .ok (.iconst 3, 1) := by decide +kernel
theorem dX8_isComplete_4 : decode cX8_isComplete 4 = .ok (.if_icmp .ge 20, 3) := by decide +kernel
theorem dX8_isComplete_24 : decode cX8_isComplete 24 = .ok (.iconst 1, 1) := by decide +kernel
theorem dX8_isComplete_25 : decode cX8_isComplete 25 = .ok (.ireturn, 1) := by decide +kernel
theorem dX8_isComplete_7 : decode cX8_isComplete 7 = .ok (.aload_n 0, 1) := by decide +kernel
theorem dX8_isComplete_8 : decode cX8_isComplete 8 = .ok (.getfield 9, 3) := by decide +kernel
theorem dX8_isComplete_11 : decode cX8_isComplete 11 = .ok (.iload_n 1, 1) := by decide +kernel
theorem dX8_isComplete_12 : decode cX8_isComplete 12 = .ok (.baload, 1) := by decide +kernel
theorem dX8_isComplete_13 : decode cX8_isComplete 13 = .ok (.ifCond .eq 5, 3) := by decide +kernel
theorem dX8_isComplete_18 : decode cX8_isComplete 18 = .ok (.iinc 1 1, 3) := by decide +kernel
theorem dX8_isComplete_21 : decode cX8_isComplete 21 = .ok (.goto (-19), 3) := by decide +kernel
theorem dX8_isComplete_16 : decode cX8_isComplete 16 = .ok (.iconst 0, 1) := by decide +kernel
theorem dX8_isComplete_17 : decode cX8_isComplete 17 = .ok (.ireturn, 1) := by decide +kernel
set_option maxHeartbeats 4000000 in
set_option maxRecDepth 100000 in
theorem w_X8_isComplete_2 {p : Program} {l : Launch} {e : Env} {R : Room} {s : State} {m : MethodId} {args : Array Value} {below : List Frame} {meth : Method} {c : Code} {G : Gt} {ρ0 : Int → Nat} {M0 : Mo} {res : RS} (F : Fx p l R s m args meth c cX8_isComplete 2 RX8 G M0 0 (some FieldType.boolean)) (hno : ∀ x ∈ c.exceptionTable.toList, False) (hnm : meth.name = yX8_isComplete.name) (n : Nat) : ∀ (x0 x1 : Int) (M : Mo), X8_isComplete_2 n x0 x1 M = some res → J p l e R s m args below meth c 2 G ρ0 M0 1 res M 2 [(0, (false, x0)), (1, (true, x1))] [] := by
  induction n with
  | zero => intro x0 x1 M h; cases h
  | succ n ih =>
    intro x0 x1 M h
    rw [X8_isComplete_2] at h
    refine j_iload_n F 1 rfl rfl dX8_isComplete_2 ?_
    refine j_iconst F dX8_isComplete_3 ?_
    refine j_icmp_ge F 24 (by decide) dX8_isComplete_4 h (fun h => ?_) (fun h => ?_)
    · skip
      refine j_iconst F dX8_isComplete_24 ?_
      exact j_zret F (by decide) h dX8_isComplete_25
    · skip
      refine j_aload_n F 0 rfl rfl dX8_isComplete_7 ?_
      obtain ⟨g1, h⟩ := gua h
      refine j_get F ft_X8_9 rfl g1 dX8_isComplete_8 ?_
      refine j_iload_n F 1 rfl rfl dX8_isComplete_11 ?_
      obtain ⟨g2, h⟩ := gua h
      obtain ⟨g3, h⟩ := gua h
      refine j_baload F g2 g3 dX8_isComplete_12 ?_
      refine j_if_eq F 18 (by decide) dX8_isComplete_13 h (fun h => ?_) (fun h => ?_)
      · skip
        refine j_iinc F 1 (lv' := [(1, (true, (x1 + 1))), (0, (false, x0))]) rfl (by decide) rfl dX8_isComplete_18 ?_
        refine j_goto F 2 (by decide) dX8_isComplete_21 ?_
        refine j_sub (lv' := [(0, (false, x0)), (1, (true, (x1 + 1)))]) [1, 0] rfl ?_
        exact ih x0 (x1 + 1) M h
      · skip
        refine j_iconst F dX8_isComplete_16 ?_
        exact j_zret F (by decide) h dX8_isComplete_17
set_option maxHeartbeats 4000000 in
set_option maxRecDepth 100000 in
theorem w_X8_isComplete_0 {p : Program} {l : Launch} {e : Env} {R : Room} {s : State} {m : MethodId} {args : Array Value} {below : List Frame} {meth : Method} {c : Code} {G : Gt} {ρ0 : Int → Nat} {M0 : Mo} {res : RS} (F : Fx p l R s m args meth c cX8_isComplete 2 RX8 G M0 0 (some FieldType.boolean)) (hno : ∀ x ∈ c.exceptionTable.toList, False) (hnm : meth.name = yX8_isComplete.name) (x0 : Int) (M : Mo) (h : X8_isComplete x0 M = some res) : J p l e R s m args below meth c 2 G ρ0 M0 1 res M 0 [(0, (false, x0))] [] := by
  unfold X8_isComplete at h
  refine j_iconst F dX8_isComplete_0 ?_
  refine j_istore_n F (lv' := [(1, (true, 0)), (0, (false, x0))]) rfl (by decide) rfl dX8_isComplete_1 ?_
  refine j_sub (lv' := [(0, (false, x0)), (1, (true, 0))]) [1, 0] rfl ?_
  exact w_X8_isComplete_2 F hno hnm FU x0 0 M h
theorem c_X8_isComplete (l : Launch) (hl : l.stackTraces = false) (G : Gt) (x0 : Int) (M : Mo) (z : RS) (h : X8_isComplete x0 M = some z) : CT l G yX8_isComplete (cn yX8_isComplete cX8_isComplete 2 (some FieldType.boolean)) 0 [(false, x0)] M 1 z :=
  ctOf hl (by decide) (Nat.le_of_ble_eq_true rfl) (fun p e R s m args below meth c ρ F hno hnm => w_X8_isComplete_0 F hno hnm x0 M h)
theorem dX8_answerOf_0 : decode cX8_answerOf 0 = .ok (.iload_n 1, 1) := by decide +kernel
theorem dX8_answerOf_1 : decode cX8_answerOf 1 = .ok (.ifCond .lt 17, 3) := by decide +kernel
theorem dX8_answerOf_18 : decode cX8_answerOf 18 = .ok (.aconst_null, 1) := by decide +kernel
theorem dX8_answerOf_19 : decode cX8_answerOf 19 = .ok (.areturn, 1) := by decide +kernel
theorem dX8_answerOf_4 : decode cX8_answerOf 4 = .ok (.iload_n 1, 1) := by decide +kernel
theorem dX8_answerOf_5 : decode cX8_answerOf 5 = .ok (.iconst 3, 1) := by decide +kernel
theorem dX8_answerOf_6 : decode cX8_answerOf 6 = .ok (.if_icmp .ge 12, 3) := by decide +kernel
theorem dX8_answerOf_9 : decode cX8_answerOf 9 = .ok (.aload_n 0, 1) := by decide +kernel
theorem dX8_answerOf_10 : decode cX8_answerOf 10 = .ok (.getfield 17, 3) := by decide +kernel
theorem dX8_answerOf_13 : decode cX8_answerOf 13 = .ok (.iload_n 1, 1) := by decide +kernel
theorem dX8_answerOf_14 : decode cX8_answerOf 14 = .ok (.aaload, 1) := by decide +kernel
theorem dX8_answerOf_15 : decode cX8_answerOf 15 = .ok (.goto 4, 3) := by decide +kernel
set_option maxHeartbeats 4000000 in
set_option maxRecDepth 100000 in
theorem w_X8_answerOf_0 {p : Program} {l : Launch} {e : Env} {R : Room} {s : State} {m : MethodId} {args : Array Value} {below : List Frame} {meth : Method} {c : Code} {G : Gt} {ρ0 : Int → Nat} {M0 : Mo} {res : RS} (F : Fx p l R s m args meth c cX8_answerOf 2 RX8 G M0 0 (some (FieldType.object "ToolPlex$Message"))) (hno : ∀ x ∈ c.exceptionTable.toList, False) (hnm : meth.name = yX8_answerOf.name) (x0 x1 : Int) (M : Mo) (h : X8_answerOf x0 x1 M = some res) : J p l e R s m args below meth c 2 G ρ0 M0 2 res M 0 [(0, (false, x0)), (1, (true, x1))] [] := by
  unfold X8_answerOf at h
  refine j_iload_n F 1 rfl rfl dX8_answerOf_0 ?_
  refine j_if_lt F 18 (by decide) dX8_answerOf_1 h (fun h => ?_) (fun h => ?_)
  · skip
    refine j_null F dX8_answerOf_18 ?_
    exact j_aret F (Or.inl ⟨_, rfl⟩) h dX8_answerOf_19
  · skip
    refine j_iload_n F 1 rfl rfl dX8_answerOf_4 ?_
    refine j_iconst F dX8_answerOf_5 ?_
    refine j_icmp_ge F 18 (by decide) dX8_answerOf_6 h (fun h => ?_) (fun h => ?_)
    · skip
      refine j_null F dX8_answerOf_18 ?_
      exact j_aret F (Or.inl ⟨_, rfl⟩) h dX8_answerOf_19
    · skip
      refine j_aload_n F 0 rfl rfl dX8_answerOf_9 ?_
      obtain ⟨g1, h⟩ := gua h
      refine j_get F ft_X8_17 rfl g1 dX8_answerOf_10 ?_
      refine j_iload_n F 1 rfl rfl dX8_answerOf_13 ?_
      obtain ⟨g2, h⟩ := gua h
      obtain ⟨g3, h⟩ := gua h
      refine j_aaload F 16 9 g2 (by decide) rfl g3 dX8_answerOf_14 ?_
      refine j_goto F 19 (by decide) dX8_answerOf_15 ?_
      exact j_aret F (Or.inl ⟨_, rfl⟩) h dX8_answerOf_19
theorem c_X8_answerOf (l : Launch) (hl : l.stackTraces = false) (G : Gt) (x0 x1 : Int) (M : Mo) (z : RS) (h : X8_answerOf x0 x1 M = some z) : CT l G yX8_answerOf (cn yX8_answerOf cX8_answerOf 2 (some (FieldType.object "ToolPlex$Message"))) 0 [(false, x0), (true, x1)] M 2 z :=
  ctOf hl (by decide) (Nat.le_of_ble_eq_true rfl) (fun p e R s m args below meth c ρ F hno hnm => w_X8_answerOf_0 F hno hnm x0 x1 M h)
