theorem dX11_isEdit_0 : decode cX11_isEdit 0 = .ok (.iload_n 0, 1) := by decide +kernel
theorem dX11_isEdit_1 : decode cX11_isEdit 1 = .ok (.iconst 4, 1) := by decide +kernel
theorem dX11_isEdit_2 : decode cX11_isEdit 2 = .ok (.if_icmp .eq 8, 3) := by decide +kernel
theorem dX11_isEdit_10 : decode cX11_isEdit 10 = .ok (.iconst 1, 1) := by decide +kernel
theorem dX11_isEdit_11 : decode cX11_isEdit 11 = .ok (.goto 4, 3) := by decide +kernel
theorem dX11_isEdit_15 : decode cX11_isEdit 15 = .ok (.ireturn, 1) := by decide +kernel
theorem dX11_isEdit_5 : decode cX11_isEdit 5 = .ok (.iload_n 0, 1) := by decide +kernel
theorem dX11_isEdit_6 : decode cX11_isEdit 6 = .ok (.iconst 5, 1) := by decide +kernel
theorem dX11_isEdit_7 : decode cX11_isEdit 7 = .ok (.if_icmp .ne 7, 3) := by decide +kernel
theorem dX11_isEdit_14 : decode cX11_isEdit 14 = .ok (.iconst 0, 1) := by decide +kernel
set_option maxHeartbeats 4000000 in
set_option maxRecDepth 100000 in
theorem w_X11_isEdit_0 {p : Program} {l : Launch} {e : Env} {R : Room} {s : State} {m : MethodId} {args : Array Value} {below : List Frame} {meth : Method} {c : Code} {G : Gt} {ρ0 : Int → Nat} {M0 : Mo} {res : RS} (F : Fx p l R s m args meth c cX11_isEdit 1 RX11 G M0 0 (some FieldType.boolean)) (hno : ∀ x ∈ c.exceptionTable.toList, False) (hnm : meth.name = yX11_isEdit.name) (x0 : Int) (M : Mo) (h : X11_isEdit x0 M = some res) : J p l e R s m args below meth c 1 G ρ0 M0 1 res M 0 [(0, (true, x0))] [] := by
  unfold X11_isEdit at h
  refine j_iload_n F 0 rfl rfl dX11_isEdit_0 ?_
  refine j_iconst F dX11_isEdit_1 ?_
  refine j_icmp_eq F 10 (by decide) dX11_isEdit_2 h (fun h => ?_) (fun h => ?_)
  · skip
    refine j_iconst F dX11_isEdit_10 ?_
    refine j_goto F 15 (by decide) dX11_isEdit_11 ?_
    exact j_zret F (by decide) h dX11_isEdit_15
  · skip
    refine j_iload_n F 0 rfl rfl dX11_isEdit_5 ?_
    refine j_iconst F dX11_isEdit_6 ?_
    refine j_icmp_ne F 14 (by decide) dX11_isEdit_7 h (fun h => ?_) (fun h => ?_)
    · skip
      refine j_iconst F dX11_isEdit_14 ?_
      exact j_zret F (by decide) h dX11_isEdit_15
    · skip
      refine j_iconst F dX11_isEdit_10 ?_
      refine j_goto F 15 (by decide) dX11_isEdit_11 ?_
      exact j_zret F (by decide) h dX11_isEdit_15
theorem c_X11_isEdit (l : Launch) (hl : l.stackTraces = false) (G : Gt) (x0 : Int) (M : Mo) (z : RS) (h : X11_isEdit x0 M = some z) : CT l G yX11_isEdit (cn yX11_isEdit cX11_isEdit 1 (some FieldType.boolean)) 0 [(true, x0)] M 1 z :=
  ctOf hl (by decide) (Nat.le_of_ble_eq_true rfl) (fun p e R s m args below meth c ρ F hno hnm => w_X11_isEdit_0 F hno hnm x0 M h)
theorem dX11_isMoved_0 : decode cX11_isMoved 0 = .ok (.iload_n 0, 1) := by decide +kernel
theorem dX11_isMoved_1 : decode cX11_isMoved 1 = .ok (.iconst 2, 1) := by decide +kernel
theorem dX11_isMoved_2 : decode cX11_isMoved 2 = .ok (.if_icmp .eq 8, 3) := by decide +kernel
theorem dX11_isMoved_10 : decode cX11_isMoved 10 = .ok (.iconst 1, 1) := by decide +kernel
theorem dX11_isMoved_11 : decode cX11_isMoved 11 = .ok (.goto 4, 3) := by decide +kernel
theorem dX11_isMoved_15 : decode cX11_isMoved 15 = .ok (.ireturn, 1) := by decide +kernel
theorem dX11_isMoved_5 : decode cX11_isMoved 5 = .ok (.iload_n 0, 1) := by decide +kernel
theorem dX11_isMoved_6 : decode cX11_isMoved 6 = .ok (.iconst 3, 1) := by decide +kernel
theorem dX11_isMoved_7 : decode cX11_isMoved 7 = .ok (.if_icmp .ne 7, 3) := by decide +kernel
theorem dX11_isMoved_14 : decode cX11_isMoved 14 = .ok (.iconst 0, 1) := by decide +kernel
set_option maxHeartbeats 4000000 in
set_option maxRecDepth 100000 in
theorem w_X11_isMoved_0 {p : Program} {l : Launch} {e : Env} {R : Room} {s : State} {m : MethodId} {args : Array Value} {below : List Frame} {meth : Method} {c : Code} {G : Gt} {ρ0 : Int → Nat} {M0 : Mo} {res : RS} (F : Fx p l R s m args meth c cX11_isMoved 1 RX11 G M0 0 (some FieldType.boolean)) (hno : ∀ x ∈ c.exceptionTable.toList, False) (hnm : meth.name = yX11_isMoved.name) (x0 : Int) (M : Mo) (h : X11_isMoved x0 M = some res) : J p l e R s m args below meth c 1 G ρ0 M0 1 res M 0 [(0, (true, x0))] [] := by
  unfold X11_isMoved at h
  refine j_iload_n F 0 rfl rfl dX11_isMoved_0 ?_
  refine j_iconst F dX11_isMoved_1 ?_
  refine j_icmp_eq F 10 (by decide) dX11_isMoved_2 h (fun h => ?_) (fun h => ?_)
  · skip
    refine j_iconst F dX11_isMoved_10 ?_
    refine j_goto F 15 (by decide) dX11_isMoved_11 ?_
    exact j_zret F (by decide) h dX11_isMoved_15
  · skip
    refine j_iload_n F 0 rfl rfl dX11_isMoved_5 ?_
    refine j_iconst F dX11_isMoved_6 ?_
    refine j_icmp_ne F 14 (by decide) dX11_isMoved_7 h (fun h => ?_) (fun h => ?_)
    · skip
      refine j_iconst F dX11_isMoved_14 ?_
      exact j_zret F (by decide) h dX11_isMoved_15
    · skip
      refine j_iconst F dX11_isMoved_10 ?_
      refine j_goto F 15 (by decide) dX11_isMoved_11 ?_
      exact j_zret F (by decide) h dX11_isMoved_15
theorem c_X11_isMoved (l : Launch) (hl : l.stackTraces = false) (G : Gt) (x0 : Int) (M : Mo) (z : RS) (h : X11_isMoved x0 M = some z) : CT l G yX11_isMoved (cn yX11_isMoved cX11_isMoved 1 (some FieldType.boolean)) 0 [(true, x0)] M 1 z :=
  ctOf hl (by decide) (Nat.le_of_ble_eq_true rfl) (fun p e R s m args below meth c ρ F hno hnm => w_X11_isMoved_0 F hno hnm x0 M h)
theorem dX11_versionsOf_0 : decode cX11_versionsOf 0 = .ok (.bipush 6, 2) := by decide +kernel
theorem dX11_versionsOf_2 : decode cX11_versionsOf 2 = .ok (.newarray .int, 2) := by decide +kernel
theorem dX11_versionsOf_4 : decode cX11_versionsOf 4 = .ok (.astore_n 1, 1) := by decide +kernel
theorem dX11_versionsOf_5 : decode cX11_versionsOf 5 = .ok (.iconst 0, 1) := by decide +kernel
theorem dX11_versionsOf_6 : decode cX11_versionsOf 6 = .ok (.istore_n 2, 1) := by decide +kernel
theorem dX11_versionsOf_7 : decode cX11_versionsOf 7 = .ok (.iload_n 2, 1) := by decide +kernel
theorem dX11_versionsOf_8 : decode cX11_versionsOf 8 = .ok (.aload_n 1, 1) := by decide +kernel
theorem dX11_versionsOf_9 : decode cX11_versionsOf 9 = .ok (.arraylength, 1) := by decide +kernel
theorem dX11_versionsOf_10 : decode cX11_versionsOf 10 = .ok (.if_icmp .ge 24, 3) := by decide +kernel
theorem dX11_versionsOf_34 : decode cX11_versionsOf 34 = .ok (.aload_n 1, 1) := by decide +kernel
theorem dX11_versionsOf_35 : decode cX11_versionsOf 35 = .ok (.areturn, 1) := by decide +kernel
theorem dX11_versionsOf_13 : decode cX11_versionsOf 13 = .ok (.iload_n 2, 1) := by decide +kernel
theorem dX11_versionsOf_14 : decode cX11_versionsOf 14 = .ok (.aload_n 0, 1) := by decide +kernel
theorem dX11_versionsOf_15 : decode cX11_versionsOf 15 = .ok (.arraylength, 1) := by decide +kernel
theorem dX11_versionsOf_16 : decode cX11_versionsOf 16 = .ok (.if_icmp .ge 18, 3) := by decide +kernel
theorem dX11_versionsOf_19 : decode cX11_versionsOf 19 = .ok (.aload_n 1, 1) := by decide +kernel
theorem dX11_versionsOf_20 : decode cX11_versionsOf 20 = .ok (.iload_n 2, 1) := by decide +kernel
theorem dX11_versionsOf_21 : decode cX11_versionsOf 21 = .ok (.aload_n 0, 1) := by decide +kernel
theorem dX11_versionsOf_22 : decode cX11_versionsOf 22 = .ok (.iload_n 2, 1) := by decide +kernel
theorem dX11_versionsOf_23 : decode cX11_versionsOf 23 = .ok (.aaload, 1) := by decide +kernel
set_option maxRecDepth 100000 in
theorem q203 : Cond.fieldLink RX11 315 "ToolPlex$Copy" "version" "I" ∈ GT := gt 203 (by decide +kernel) (by decide +kernel)
theorem ft_X11_315 : FT RX11 315 RX2 3 RX2 TX2 7 4 := ⟨rfl, by decide, by decide, q203, Or.inl rfl, inGX2⟩
theorem dX11_versionsOf_24 : decode cX11_versionsOf 24 = .ok (.getfield 315, 3) := by decide +kernel
theorem dX11_versionsOf_27 : decode cX11_versionsOf 27 = .ok (.iastore, 1) := by decide +kernel
theorem dX11_versionsOf_28 : decode cX11_versionsOf 28 = .ok (.iinc 2 1, 3) := by decide +kernel
theorem dX11_versionsOf_31 : decode cX11_versionsOf 31 = .ok (.goto (-24), 3) := by decide +kernel
set_option maxHeartbeats 4000000 in
set_option maxRecDepth 100000 in
theorem w_X11_versionsOf_7 {p : Program} {l : Launch} {e : Env} {R : Room} {s : State} {m : MethodId} {args : Array Value} {below : List Frame} {meth : Method} {c : Code} {G : Gt} {ρ0 : Int → Nat} {M0 : Mo} {res : RS} (F : Fx p l R s m args meth c cX11_versionsOf 3 RX11 G M0 0 (some (FieldType.array FieldType.int))) (hno : ∀ x ∈ c.exceptionTable.toList, False) (hnm : meth.name = yX11_versionsOf.name) (n : Nat) : ∀ (x0 x1 x2 : Int) (M : Mo), X11_versionsOf_7 n x0 x1 x2 M = some res → J p l e R s m args below meth c 3 G ρ0 M0 2 res M 7 [(0, (false, x0)), (1, (false, x1)), (2, (true, x2))] [] := by
  induction n with
  | zero => intro x0 x1 x2 M h; cases h
  | succ n ih =>
    intro x0 x1 x2 M h
    rw [X11_versionsOf_7] at h
    refine j_iload_n F 2 rfl rfl dX11_versionsOf_7 ?_
    refine j_aload_n F 1 rfl rfl dX11_versionsOf_8 ?_
    obtain ⟨g1, h⟩ := gua h
    refine j_alen F g1 dX11_versionsOf_9 ?_
    refine j_icmp_ge F 34 (by decide) dX11_versionsOf_10 h (fun h => ?_) (fun h => ?_)
    · skip
      refine j_aload_n F 1 rfl rfl dX11_versionsOf_34 ?_
      exact j_aret F (Or.inr ⟨_, rfl⟩) h dX11_versionsOf_35
    · skip
      refine j_iload_n F 2 rfl rfl dX11_versionsOf_13 ?_
      refine j_aload_n F 0 rfl rfl dX11_versionsOf_14 ?_
      obtain ⟨g2, h⟩ := gua h
      refine j_alen F g2 dX11_versionsOf_15 ?_
      refine j_icmp_ge F 34 (by decide) dX11_versionsOf_16 h (fun h => ?_) (fun h => ?_)
      · skip
        refine j_aload_n F 1 rfl rfl dX11_versionsOf_34 ?_
        exact j_aret F (Or.inr ⟨_, rfl⟩) h dX11_versionsOf_35
      · skip
        refine j_aload_n F 1 rfl rfl dX11_versionsOf_19 ?_
        refine j_iload_n F 2 rfl rfl dX11_versionsOf_20 ?_
        refine j_aload_n F 0 rfl rfl dX11_versionsOf_21 ?_
        refine j_iload_n F 2 rfl rfl dX11_versionsOf_22 ?_
        obtain ⟨g3, h⟩ := gua h
        obtain ⟨g4, h⟩ := gua h
        refine j_aaload F 12 5 g3 (by decide) rfl g4 dX11_versionsOf_23 ?_
        obtain ⟨g5, h⟩ := gua h
        refine j_get F ft_X11_315 rfl g5 dX11_versionsOf_24 ?_
        obtain ⟨g6, h⟩ := gua h
        obtain ⟨g7, h⟩ := gua h
        refine j_iastore F g6 g7 dX11_versionsOf_27 ?_
        obtain ⟨M8, hM8⟩ : ∃ Z, Z = sE M 0 x1 (wr x2) (fd M 3 4 (el M 12 x0 (wr x2))) := ⟨_, rfl⟩
        have kl9 : kle M M8 := by rw [hM8]; exact kle_sE
        rw [← hM8]
        replace h := pt_as h hM8
        refine j_iinc F 2 (lv' := [(2, (true, (x2 + 1))), (0, (false, x0)), (1, (false, x1))]) rfl (by decide) rfl dX11_versionsOf_28 ?_
        refine j_goto F 7 (by decide) dX11_versionsOf_31 ?_
        refine j_sub (lv' := [(0, (false, x0)), (1, (false, x1)), (2, (true, (x2 + 1)))]) [1, 2, 0] rfl ?_
        exact ih x0 x1 (x2 + 1) M8 h
set_option maxHeartbeats 4000000 in
set_option maxRecDepth 100000 in
theorem w_X11_versionsOf_0 {p : Program} {l : Launch} {e : Env} {R : Room} {s : State} {m : MethodId} {args : Array Value} {below : List Frame} {meth : Method} {c : Code} {G : Gt} {ρ0 : Int → Nat} {M0 : Mo} {res : RS} (F : Fx p l R s m args meth c cX11_versionsOf 3 RX11 G M0 0 (some (FieldType.array FieldType.int))) (hno : ∀ x ∈ c.exceptionTable.toList, False) (hnm : meth.name = yX11_versionsOf.name) (x0 : Int) (M : Mo) (h : X11_versionsOf x0 M = some res) : J p l e R s m args below meth c 3 G ρ0 M0 2 res M 0 [(0, (false, x0))] [] := by
  unfold X11_versionsOf at h
  refine j_bipush F (by decide) dX11_versionsOf_0 ?_
  obtain ⟨g1, h⟩ := gua h
  refine j_newaI F q133 (by decide) g1 dX11_versionsOf_2 (fun kl2 => ?_)
  obtain ⟨M3, hM3⟩ : ∃ Z, Z = nA M 0 (wr 6) := ⟨_, rfl⟩
  have g4 : kd M3 (nid M) = 100 := by rw [hM3]; exact kd_nA
  rw [← hM3] at kl2 ⊢
  replace h := pt_as h hM3
  refine j_astore_n F (lv' := [(1, (false, (nid M))), (0, (false, x0))]) rfl (by decide) rfl dX11_versionsOf_4 ?_
  refine j_iconst F dX11_versionsOf_5 ?_
  refine j_istore_n F (lv' := [(2, (true, 0)), (1, (false, (nid M))), (0, (false, x0))]) rfl (by decide) rfl dX11_versionsOf_6 ?_
  refine j_sub (lv' := [(0, (false, x0)), (1, (false, (nid M))), (2, (true, 0))]) [2, 1, 0] rfl ?_
  exact w_X11_versionsOf_7 F hno hnm FU x0 (nid M) 0 M3 h
theorem c_X11_versionsOf (l : Launch) (hl : l.stackTraces = false) (G : Gt) (x0 : Int) (M : Mo) (z : RS) (h : X11_versionsOf x0 M = some z) : CT l G yX11_versionsOf (cn yX11_versionsOf cX11_versionsOf 3 (some (FieldType.array FieldType.int))) 0 [(false, x0)] M 2 z :=
  ctOf hl (by decide) (Nat.le_of_ble_eq_true rfl) (fun p e R s m args below meth c ρ F hno hnm => w_X11_versionsOf_0 F hno hnm x0 M h)
