theorem dL_isAhead_0 : decode cL_isAhead 0 = .ok (.iconst 0, 1) := by decide +kernel
theorem dL_isAhead_1 : decode cL_isAhead 1 = .ok (.istore_n 3, 1) := by decide +kernel
theorem dL_isAhead_2 : decode cL_isAhead 2 = .ok (.iload_n 1, 1) := by decide +kernel
theorem dL_isAhead_3 : decode cL_isAhead 3 = .ok (.iload_n 3, 1) := by decide +kernel
theorem dL_isAhead_4 : decode cL_isAhead 4 = .ok (.iadd, 1) := by decide +kernel
theorem dL_isAhead_5 : decode cL_isAhead 5 = .ok (.aload_n 0, 1) := by decide +kernel
theorem dL_isAhead_6 : decode cL_isAhead 6 = .ok (.iload_n 1, 1) := by decide +kernel
theorem dL_isAhead_7 : decode cL_isAhead 7 = .ok (.invokestatic 142, 3) := by decide +kernel
theorem dL_isAhead_10 : decode cL_isAhead 10 = .ok (.if_icmp .ge 33, 3) := by decide +kernel
theorem dL_isAhead_13 : decode cL_isAhead 13 = .ok (.iload_n 2, 1) := by decide +kernel
theorem dL_isAhead_14 : decode cL_isAhead 14 = .ok (.iload_n 3, 1) := by decide +kernel
theorem dL_isAhead_15 : decode cL_isAhead 15 = .ok (.iadd, 1) := by decide +kernel
theorem dL_isAhead_16 : decode cL_isAhead 16 = .ok (.aload_n 0, 1) := by decide +kernel
theorem dL_isAhead_17 : decode cL_isAhead 17 = .ok (.iload_n 2, 1) := by decide +kernel
theorem dL_isAhead_18 : decode cL_isAhead 18 = .ok (.invokestatic 142, 3) := by decide +kernel
theorem dL_isAhead_21 : decode cL_isAhead 21 = .ok (.if_icmp .ge 22, 3) := by decide +kernel
theorem dL_isAhead_24 : decode cL_isAhead 24 = .ok (.aload_n 0, 1) := by decide +kernel
theorem dL_isAhead_25 : decode cL_isAhead 25 = .ok (.iload_n 1, 1) := by decide +kernel
theorem dL_isAhead_26 : decode cL_isAhead 26 = .ok (.iload_n 3, 1) := by decide +kernel
theorem dL_isAhead_27 : decode cL_isAhead 27 = .ok (.iadd, 1) := by decide +kernel
theorem dL_isAhead_28 : decode cL_isAhead 28 = .ok (.iaload, 1) := by decide +kernel
theorem dL_isAhead_29 : decode cL_isAhead 29 = .ok (.aload_n 0, 1) := by decide +kernel
theorem dL_isAhead_30 : decode cL_isAhead 30 = .ok (.iload_n 2, 1) := by decide +kernel
theorem dL_isAhead_31 : decode cL_isAhead 31 = .ok (.iload_n 3, 1) := by decide +kernel
theorem dL_isAhead_32 : decode cL_isAhead 32 = .ok (.iadd, 1) := by decide +kernel
theorem dL_isAhead_33 : decode cL_isAhead 33 = .ok (.iaload, 1) := by decide +kernel
theorem dL_isAhead_34 : decode cL_isAhead 34 = .ok (.if_icmp .ne 9, 3) := by decide +kernel
theorem dL_isAhead_37 : decode cL_isAhead 37 = .ok (.iinc 3 1, 3) := by decide +kernel
theorem dL_isAhead_40 : decode cL_isAhead 40 = .ok (.goto (-38), 3) := by decide +kernel
theorem dL_isAhead_43 : decode cL_isAhead 43 = .ok (.iload_n 1, 1) := by decide +kernel
theorem dL_isAhead_44 : decode cL_isAhead 44 = .ok (.iload_n 3, 1) := by decide +kernel
theorem dL_isAhead_45 : decode cL_isAhead 45 = .ok (.iadd, 1) := by decide +kernel
theorem dL_isAhead_46 : decode cL_isAhead 46 = .ok (.aload_n 0, 1) := by decide +kernel
theorem dL_isAhead_47 : decode cL_isAhead 47 = .ok (.iload_n 1, 1) := by decide +kernel
theorem dL_isAhead_48 : decode cL_isAhead 48 = .ok (.invokestatic 142, 3) := by decide +kernel
theorem dL_isAhead_51 : decode cL_isAhead 51 = .ok (.if_icmp .ne 7, 3) := by decide +kernel
theorem dL_isAhead_58 : decode cL_isAhead 58 = .ok (.iconst 0, 1) := by decide +kernel
theorem dL_isAhead_54 : decode cL_isAhead 54 = .ok (.iconst 1, 1) := by decide +kernel
theorem dL_isAhead_55 : decode cL_isAhead 55 = .ok (.goto 4, 3) := by decide +kernel
theorem dL_isAhead_59 : decode cL_isAhead 59 = .ok (.istore 4, 2) := by decide +kernel
theorem dL_isAhead_61 : decode cL_isAhead 61 = .ok (.iload 4, 2) := by decide +kernel
theorem dL_isAhead_63 : decode cL_isAhead 63 = .ok (.ifCond .eq 22, 3) := by decide +kernel
theorem dL_isAhead_85 : decode cL_isAhead 85 = .ok (.iload_n 2, 1) := by decide +kernel
theorem dL_isAhead_86 : decode cL_isAhead 86 = .ok (.iload_n 3, 1) := by decide +kernel
theorem dL_isAhead_87 : decode cL_isAhead 87 = .ok (.iadd, 1) := by decide +kernel
theorem dL_isAhead_88 : decode cL_isAhead 88 = .ok (.aload_n 0, 1) := by decide +kernel
theorem dL_isAhead_89 : decode cL_isAhead 89 = .ok (.iload_n 2, 1) := by decide +kernel
theorem dL_isAhead_90 : decode cL_isAhead 90 = .ok (.invokestatic 142, 3) := by decide +kernel
theorem dL_isAhead_93 : decode cL_isAhead 93 = .ok (.if_icmp .ge 20, 3) := by decide +kernel
theorem dL_isAhead_113 : decode cL_isAhead 113 = .ok (.iconst 0, 1) := by decide +kernel
theorem dL_isAhead_114 : decode cL_isAhead 114 = .ok (.ireturn, 1) := by decide +kernel
theorem dL_isAhead_96 : decode cL_isAhead 96 = .ok (.aload_n 0, 1) := by decide +kernel
theorem dL_isAhead_97 : decode cL_isAhead 97 = .ok (.iload_n 1, 1) := by decide +kernel
theorem dL_isAhead_98 : decode cL_isAhead 98 = .ok (.iload_n 3, 1) := by decide +kernel
theorem dL_isAhead_99 : decode cL_isAhead 99 = .ok (.iadd, 1) := by decide +kernel
theorem dL_isAhead_100 : decode cL_isAhead 100 = .ok (.iaload, 1) := by decide +kernel
theorem dL_isAhead_101 : decode cL_isAhead 101 = .ok (.aload_n 0, 1) := by decide +kernel
theorem dL_isAhead_102 : decode cL_isAhead 102 = .ok (.iload_n 2, 1) := by decide +kernel
theorem dL_isAhead_103 : decode cL_isAhead 103 = .ok (.iload_n 3, 1) := by decide +kernel
theorem dL_isAhead_104 : decode cL_isAhead 104 = .ok (.iadd, 1) := by decide +kernel
theorem dL_isAhead_105 : decode cL_isAhead 105 = .ok (.iaload, 1) := by decide +kernel
theorem dL_isAhead_106 : decode cL_isAhead 106 = .ok (.if_icmp .ge 7, 3) := by decide +kernel
theorem dL_isAhead_109 : decode cL_isAhead 109 = .ok (.iconst 1, 1) := by decide +kernel
theorem dL_isAhead_110 : decode cL_isAhead 110 = .ok (.goto 4, 3) := by decide +kernel
theorem dL_isAhead_66 : decode cL_isAhead 66 = .ok (.iload_n 2, 1) := by decide +kernel
theorem dL_isAhead_67 : decode cL_isAhead 67 = .ok (.iload_n 3, 1) := by decide +kernel
theorem dL_isAhead_68 : decode cL_isAhead 68 = .ok (.iadd, 1) := by decide +kernel
theorem dL_isAhead_69 : decode cL_isAhead 69 = .ok (.aload_n 0, 1) := by decide +kernel
theorem dL_isAhead_70 : decode cL_isAhead 70 = .ok (.iload_n 2, 1) := by decide +kernel
theorem dL_isAhead_71 : decode cL_isAhead 71 = .ok (.invokestatic 142, 3) := by decide +kernel
theorem dL_isAhead_74 : decode cL_isAhead 74 = .ok (.if_icmp .ge 7, 3) := by decide +kernel
theorem dL_isAhead_81 : decode cL_isAhead 81 = .ok (.iconst 0, 1) := by decide +kernel
theorem dL_isAhead_82 : decode cL_isAhead 82 = .ok (.goto 32, 3) := by decide +kernel
theorem dL_isAhead_77 : decode cL_isAhead 77 = .ok (.iconst 1, 1) := by decide +kernel
theorem dL_isAhead_78 : decode cL_isAhead 78 = .ok (.goto 36, 3) := by decide +kernel
set_option maxHeartbeats 4000000 in
set_option maxRecDepth 100000 in
theorem w_L_isAhead_59 {p : Program} {l : Launch} {e : Env} {R : Room} {s : State} {m : MethodId} {args : Array Value} {below : List Frame} {meth : Method} {c : Code} {G : Gt} {ρ0 : Int → Nat} {M0 : Mo} {res : RS} (F : Fx p l R s m args meth c cL_isAhead 5 RL G M0 2 (some FieldType.boolean)) (hno : ∀ x ∈ c.exceptionTable.toList, False) (hnm : meth.name = yL_isAhead.name) (x0 x1 x2 x3 y0 : Int) (M : Mo) (h : L_isAhead_59 x0 x1 x2 x3 y0 M = some res) : J p l e R s m args below meth c 5 G ρ0 M0 1 res M 59 [(0, (false, x0)), (1, (true, x1)), (2, (true, x2)), (3, (true, x3))] [(true, y0)] := by
  unfold L_isAhead_59 at h
  refine j_istore F (lv' := [(4, (true, y0)), (0, (false, x0)), (1, (true, x1)), (2, (true, x2)), (3, (true, x3))]) (by decide) rfl dL_isAhead_59 ?_
  refine j_iload F 0 rfl dL_isAhead_61 ?_
  refine j_if_eq F 85 (by decide) dL_isAhead_63 h (fun h => ?_) (fun h => ?_)
  · skip
    refine j_iload_n F 3 rfl rfl dL_isAhead_85 ?_
    refine j_iload_n F 4 rfl rfl dL_isAhead_86 ?_
    refine j_iadd F dL_isAhead_87 ?_
    refine j_aload_n F 1 rfl rfl dL_isAhead_88 ?_
    refine j_iload_n F 3 rfl rfl dL_isAhead_89 ?_
    refine j_callS (d' := 1) (argl := [(false, x0), (true, x2)]) (rk9 := 1) (st := [(true, (x2 + x3))]) F hno M_L_behind q1661 q1660 ⟨by decide, by decide⟩ (Nat.le_of_ble_eq_true rfl) (by decide) dL_isAhead_90 rfl h (fun z hz => c_L_behind l F.ht G x0 x2 M z hz) (fun v1 M2 h kl3 => ?_)
    refine j_st (st' := [(true, v1), (true, (x2 + x3))]) rfl ?_
    refine j_icmp_ge F 113 (by decide) dL_isAhead_93 h (fun h => ?_) (fun h => ?_)
    · skip
      refine j_iconst F dL_isAhead_113 ?_
      exact j_zret F (by decide) h dL_isAhead_114
    · skip
      refine j_aload_n F 1 rfl rfl dL_isAhead_96 ?_
      refine j_iload_n F 2 rfl rfl dL_isAhead_97 ?_
      refine j_iload_n F 4 rfl rfl dL_isAhead_98 ?_
      refine j_iadd F dL_isAhead_99 ?_
      obtain ⟨g4, h⟩ := gua h
      obtain ⟨g5, h⟩ := gua h
      refine j_iaload F g4 g5 dL_isAhead_100 ?_
      refine j_aload_n F 1 rfl rfl dL_isAhead_101 ?_
      refine j_iload_n F 3 rfl rfl dL_isAhead_102 ?_
      refine j_iload_n F 4 rfl rfl dL_isAhead_103 ?_
      refine j_iadd F dL_isAhead_104 ?_
      obtain ⟨g6, h⟩ := gua h
      refine j_iaload F g4 g6 dL_isAhead_105 ?_
      refine j_icmp_ge F 113 (by decide) dL_isAhead_106 h (fun h => ?_) (fun h => ?_)
      · skip
        refine j_iconst F dL_isAhead_113 ?_
        exact j_zret F (by decide) h dL_isAhead_114
      · skip
        refine j_iconst F dL_isAhead_109 ?_
        refine j_goto F 114 (by decide) dL_isAhead_110 ?_
        exact j_zret F (by decide) h dL_isAhead_114
  · skip
    refine j_iload_n F 3 rfl rfl dL_isAhead_66 ?_
    refine j_iload_n F 4 rfl rfl dL_isAhead_67 ?_
    refine j_iadd F dL_isAhead_68 ?_
    refine j_aload_n F 1 rfl rfl dL_isAhead_69 ?_
    refine j_iload_n F 3 rfl rfl dL_isAhead_70 ?_
    refine j_callS (d' := 1) (argl := [(false, x0), (true, x2)]) (rk9 := 1) (st := [(true, (x2 + x3))]) F hno M_L_behind q1661 q1660 ⟨by decide, by decide⟩ (Nat.le_of_ble_eq_true rfl) (by decide) dL_isAhead_71 rfl h (fun z hz => c_L_behind l F.ht G x0 x2 M z hz) (fun v7 M8 h kl9 => ?_)
    refine j_st (st' := [(true, v7), (true, (x2 + x3))]) rfl ?_
    refine j_icmp_ge F 81 (by decide) dL_isAhead_74 h (fun h => ?_) (fun h => ?_)
    · skip
      refine j_iconst F dL_isAhead_81 ?_
      refine j_goto F 114 (by decide) dL_isAhead_82 ?_
      exact j_zret F (by decide) h dL_isAhead_114
    · skip
      refine j_iconst F dL_isAhead_77 ?_
      refine j_goto F 114 (by decide) dL_isAhead_78 ?_
      exact j_zret F (by decide) h dL_isAhead_114
set_option maxHeartbeats 4000000 in
set_option maxRecDepth 100000 in
theorem w_L_isAhead_43 {p : Program} {l : Launch} {e : Env} {R : Room} {s : State} {m : MethodId} {args : Array Value} {below : List Frame} {meth : Method} {c : Code} {G : Gt} {ρ0 : Int → Nat} {M0 : Mo} {res : RS} (F : Fx p l R s m args meth c cL_isAhead 5 RL G M0 2 (some FieldType.boolean)) (hno : ∀ x ∈ c.exceptionTable.toList, False) (hnm : meth.name = yL_isAhead.name) (x0 x1 x2 x3 : Int) (M : Mo) (h : L_isAhead_43 x0 x1 x2 x3 M = some res) : J p l e R s m args below meth c 5 G ρ0 M0 1 res M 43 [(0, (false, x0)), (1, (true, x1)), (2, (true, x2)), (3, (true, x3))] [] := by
  unfold L_isAhead_43 at h
  refine j_iload_n F 1 rfl rfl dL_isAhead_43 ?_
  refine j_iload_n F 3 rfl rfl dL_isAhead_44 ?_
  refine j_iadd F dL_isAhead_45 ?_
  refine j_aload_n F 0 rfl rfl dL_isAhead_46 ?_
  refine j_iload_n F 1 rfl rfl dL_isAhead_47 ?_
  refine j_callS (d' := 1) (argl := [(false, x0), (true, x1)]) (rk9 := 1) (st := [(true, (x1 + x3))]) F hno M_L_behind q1661 q1660 ⟨by decide, by decide⟩ (Nat.le_of_ble_eq_true rfl) (by decide) dL_isAhead_48 rfl h (fun z hz => c_L_behind l F.ht G x0 x1 M z hz) (fun v1 M2 h kl3 => ?_)
  refine j_st (st' := [(true, v1), (true, (x1 + x3))]) rfl ?_
  refine j_icmp_ne F 58 (by decide) dL_isAhead_51 h (fun h => ?_) (fun h => ?_)
  · skip
    refine j_iconst F dL_isAhead_58 ?_
    refine j_sub (lv' := [(0, (false, x0)), (1, (true, x1)), (2, (true, x2)), (3, (true, x3))]) [0, 1, 2, 3] rfl ?_
    exact w_L_isAhead_59 F hno hnm x0 x1 x2 x3 0 M2 h
  · skip
    refine j_iconst F dL_isAhead_54 ?_
    refine j_goto F 59 (by decide) dL_isAhead_55 ?_
    refine j_sub (lv' := [(0, (false, x0)), (1, (true, x1)), (2, (true, x2)), (3, (true, x3))]) [0, 1, 2, 3] rfl ?_
    exact w_L_isAhead_59 F hno hnm x0 x1 x2 x3 1 M2 h
set_option maxHeartbeats 4000000 in
set_option maxRecDepth 100000 in
theorem w_L_isAhead_2 {p : Program} {l : Launch} {e : Env} {R : Room} {s : State} {m : MethodId} {args : Array Value} {below : List Frame} {meth : Method} {c : Code} {G : Gt} {ρ0 : Int → Nat} {M0 : Mo} {res : RS} (F : Fx p l R s m args meth c cL_isAhead 5 RL G M0 2 (some FieldType.boolean)) (hno : ∀ x ∈ c.exceptionTable.toList, False) (hnm : meth.name = yL_isAhead.name) (n : Nat) : ∀ (x0 x1 x2 x3 : Int) (M : Mo), L_isAhead_2 n x0 x1 x2 x3 M = some res → J p l e R s m args below meth c 5 G ρ0 M0 1 res M 2 [(0, (false, x0)), (1, (true, x1)), (2, (true, x2)), (3, (true, x3))] [] := by
  induction n with
  | zero => intro x0 x1 x2 x3 M h; cases h
  | succ n ih =>
    intro x0 x1 x2 x3 M h
    rw [L_isAhead_2] at h
    refine j_iload_n F 1 rfl rfl dL_isAhead_2 ?_
    refine j_iload_n F 3 rfl rfl dL_isAhead_3 ?_
    refine j_iadd F dL_isAhead_4 ?_
    refine j_aload_n F 0 rfl rfl dL_isAhead_5 ?_
    refine j_iload_n F 1 rfl rfl dL_isAhead_6 ?_
    refine j_callS (d' := 1) (argl := [(false, x0), (true, x1)]) (rk9 := 1) (st := [(true, (x1 + x3))]) F hno M_L_behind q1661 q1660 ⟨by decide, by decide⟩ (Nat.le_of_ble_eq_true rfl) (by decide) dL_isAhead_7 rfl h (fun z hz => c_L_behind l F.ht G x0 x1 M z hz) (fun v1 M2 h kl3 => ?_)
    refine j_st (st' := [(true, v1), (true, (x1 + x3))]) rfl ?_
    refine j_icmp_ge F 43 (by decide) dL_isAhead_10 h (fun h => ?_) (fun h => ?_)
    · skip
      refine j_sub (lv' := [(0, (false, x0)), (1, (true, x1)), (2, (true, x2)), (3, (true, x3))]) [0, 1, 2, 3] rfl ?_
      exact w_L_isAhead_43 F hno hnm x0 x1 x2 x3 M2 h
    · skip
      refine j_iload_n F 2 rfl rfl dL_isAhead_13 ?_
      refine j_iload_n F 3 rfl rfl dL_isAhead_14 ?_
      refine j_iadd F dL_isAhead_15 ?_
      refine j_aload_n F 0 rfl rfl dL_isAhead_16 ?_
      refine j_iload_n F 2 rfl rfl dL_isAhead_17 ?_
      refine j_callS (d' := 1) (argl := [(false, x0), (true, x2)]) (rk9 := 1) (st := [(true, (x2 + x3))]) F hno M_L_behind q1661 q1660 ⟨by decide, by decide⟩ (Nat.le_of_ble_eq_true rfl) (by decide) dL_isAhead_18 rfl h (fun z hz => c_L_behind l F.ht G x0 x2 M2 z hz) (fun v4 M5 h kl6 => ?_)
      refine j_st (st' := [(true, v4), (true, (x2 + x3))]) rfl ?_
      refine j_icmp_ge F 43 (by decide) dL_isAhead_21 h (fun h => ?_) (fun h => ?_)
      · skip
        refine j_sub (lv' := [(0, (false, x0)), (1, (true, x1)), (2, (true, x2)), (3, (true, x3))]) [0, 1, 2, 3] rfl ?_
        exact w_L_isAhead_43 F hno hnm x0 x1 x2 x3 M5 h
      · skip
        refine j_aload_n F 0 rfl rfl dL_isAhead_24 ?_
        refine j_iload_n F 1 rfl rfl dL_isAhead_25 ?_
        refine j_iload_n F 3 rfl rfl dL_isAhead_26 ?_
        refine j_iadd F dL_isAhead_27 ?_
        obtain ⟨g7, h⟩ := gua h
        obtain ⟨g8, h⟩ := gua h
        refine j_iaload F g7 g8 dL_isAhead_28 ?_
        refine j_aload_n F 0 rfl rfl dL_isAhead_29 ?_
        refine j_iload_n F 2 rfl rfl dL_isAhead_30 ?_
        refine j_iload_n F 3 rfl rfl dL_isAhead_31 ?_
        refine j_iadd F dL_isAhead_32 ?_
        obtain ⟨g9, h⟩ := gua h
        refine j_iaload F g7 g9 dL_isAhead_33 ?_
        refine j_icmp_ne F 43 (by decide) dL_isAhead_34 h (fun h => ?_) (fun h => ?_)
        · skip
          refine j_sub (lv' := [(0, (false, x0)), (1, (true, x1)), (2, (true, x2)), (3, (true, x3))]) [0, 1, 2, 3] rfl ?_
          exact w_L_isAhead_43 F hno hnm x0 x1 x2 x3 M5 h
        · skip
          refine j_iinc F 3 (lv' := [(3, (true, (x3 + 1))), (0, (false, x0)), (1, (true, x1)), (2, (true, x2))]) rfl (by decide) rfl dL_isAhead_37 ?_
          refine j_goto F 2 (by decide) dL_isAhead_40 ?_
          refine j_sub (lv' := [(0, (false, x0)), (1, (true, x1)), (2, (true, x2)), (3, (true, (x3 + 1)))]) [1, 2, 3, 0] rfl ?_
          exact ih x0 x1 x2 (x3 + 1) M5 h
set_option maxHeartbeats 4000000 in
set_option maxRecDepth 100000 in
theorem w_L_isAhead_0 {p : Program} {l : Launch} {e : Env} {R : Room} {s : State} {m : MethodId} {args : Array Value} {below : List Frame} {meth : Method} {c : Code} {G : Gt} {ρ0 : Int → Nat} {M0 : Mo} {res : RS} (F : Fx p l R s m args meth c cL_isAhead 5 RL G M0 2 (some FieldType.boolean)) (hno : ∀ x ∈ c.exceptionTable.toList, False) (hnm : meth.name = yL_isAhead.name) (x0 x1 x2 : Int) (M : Mo) (h : L_isAhead x0 x1 x2 M = some res) : J p l e R s m args below meth c 5 G ρ0 M0 1 res M 0 [(0, (false, x0)), (1, (true, x1)), (2, (true, x2))] [] := by
  unfold L_isAhead at h
  refine j_iconst F dL_isAhead_0 ?_
  refine j_istore_n F (lv' := [(3, (true, 0)), (0, (false, x0)), (1, (true, x1)), (2, (true, x2))]) rfl (by decide) rfl dL_isAhead_1 ?_
  refine j_sub (lv' := [(0, (false, x0)), (1, (true, x1)), (2, (true, x2)), (3, (true, 0))]) [1, 2, 3, 0] rfl ?_
  exact w_L_isAhead_2 F hno hnm FU x0 x1 x2 0 M h
theorem c_L_isAhead (l : Launch) (hl : l.stackTraces = false) (G : Gt) (x0 x1 x2 : Int) (M : Mo) (z : RS) (h : L_isAhead x0 x1 x2 M = some z) : CT l G yL_isAhead (cn yL_isAhead cL_isAhead 5 (some FieldType.boolean)) 2 [(false, x0), (true, x1), (true, x2)] M 1 z :=
  ctOf hl (by decide) (Nat.le_of_ble_eq_true rfl) (fun p e R s m args below meth c ρ F hno hnm => w_L_isAhead_0 F hno hnm x0 x1 x2 M h)
theorem dL_begins_0 : decode cL_begins 0 = .ok (.aload_n 0, 1) := by decide +kernel
theorem dL_begins_1 : decode cL_begins 1 = .ok (.iload_n 1, 1) := by decide +kernel
theorem dL_begins_2 : decode cL_begins 2 = .ok (.invokestatic 142, 3) := by decide +kernel
theorem dL_begins_5 : decode cL_begins 5 = .ok (.iload_n 1, 1) := by decide +kernel
theorem dL_begins_6 : decode cL_begins 6 = .ok (.isub, 1) := by decide +kernel
theorem dL_begins_7 : decode cL_begins 7 = .ok (.iload_n 3, 1) := by decide +kernel
theorem dL_begins_8 : decode cL_begins 8 = .ok (.if_icmp .le 7, 3) := by decide +kernel
theorem dL_begins_15 : decode cL_begins 15 = .ok (.iconst 0, 1) := by decide +kernel
theorem dL_begins_11 : decode cL_begins 11 = .ok (.iconst 1, 1) := by decide +kernel
theorem dL_begins_12 : decode cL_begins 12 = .ok (.goto 4, 3) := by decide +kernel
theorem dL_begins_16 : decode cL_begins 16 = .ok (.istore 4, 2) := by decide +kernel
theorem dL_begins_18 : decode cL_begins 18 = .ok (.iconst 0, 1) := by decide +kernel
theorem dL_begins_19 : decode cL_begins 19 = .ok (.istore 5, 2) := by decide +kernel
theorem dL_begins_21 : decode cL_begins 21 = .ok (.iload 5, 2) := by decide +kernel
theorem dL_begins_23 : decode cL_begins 23 = .ok (.iload_n 3, 1) := by decide +kernel
theorem dL_begins_24 : decode cL_begins 24 = .ok (.if_icmp .ge 36, 3) := by decide +kernel
theorem dL_begins_60 : decode cL_begins 60 = .ok (.iload 4, 2) := by decide +kernel
theorem dL_begins_62 : decode cL_begins 62 = .ok (.ireturn, 1) := by decide +kernel
theorem dL_begins_27 : decode cL_begins 27 = .ok (.iload 4, 2) := by decide +kernel
theorem dL_begins_29 : decode cL_begins 29 = .ok (.ifCond .eq 31, 3) := by decide +kernel
theorem dL_begins_32 : decode cL_begins 32 = .ok (.aload_n 0, 1) := by decide +kernel
theorem dL_begins_33 : decode cL_begins 33 = .ok (.iload_n 1, 1) := by decide +kernel
theorem dL_begins_34 : decode cL_begins 34 = .ok (.iload 5, 2) := by decide +kernel
theorem dL_begins_36 : decode cL_begins 36 = .ok (.iadd, 1) := by decide +kernel
theorem dL_begins_37 : decode cL_begins 37 = .ok (.iaload, 1) := by decide +kernel
theorem dL_begins_38 : decode cL_begins 38 = .ok (.aload_n 0, 1) := by decide +kernel
theorem dL_begins_39 : decode cL_begins 39 = .ok (.iload_n 2, 1) := by decide +kernel
theorem dL_begins_40 : decode cL_begins 40 = .ok (.iload 5, 2) := by decide +kernel
theorem dL_begins_42 : decode cL_begins 42 = .ok (.iadd, 1) := by decide +kernel
theorem dL_begins_43 : decode cL_begins 43 = .ok (.iaload, 1) := by decide +kernel
theorem dL_begins_44 : decode cL_begins 44 = .ok (.if_icmp .ne 7, 3) := by decide +kernel
theorem dL_begins_51 : decode cL_begins 51 = .ok (.iconst 0, 1) := by decide +kernel
theorem dL_begins_47 : decode cL_begins 47 = .ok (.iconst 1, 1) := by decide +kernel
theorem dL_begins_48 : decode cL_begins 48 = .ok (.goto 4, 3) := by decide +kernel
theorem dL_begins_52 : decode cL_begins 52 = .ok (.istore 4, 2) := by decide +kernel
theorem dL_begins_54 : decode cL_begins 54 = .ok (.iinc 5 1, 3) := by decide +kernel
theorem dL_begins_57 : decode cL_begins 57 = .ok (.goto (-36), 3) := by decide +kernel
set_option maxHeartbeats 4000000 in
set_option maxRecDepth 100000 in
theorem w_L_begins_52 {p : Program} {l : Launch} {e : Env} {R : Room} {s : State} {m : MethodId} {args : Array Value} {below : List Frame} {meth : Method} {c : Code} {G : Gt} {ρ0 : Int → Nat} {M0 : Mo} {res : RS} (F : Fx p l R s m args meth c cL_begins 6 RL G M0 2 (some FieldType.boolean)) (hno : ∀ x ∈ c.exceptionTable.toList, False) (hnm : meth.name = yL_begins.name) (k21 : Int → Int → Int → Int → Int → Int → Mo → Option RS) (hk21 : ∀ (x0 x1 x2 x3 x4 x5 : Int) (M : Mo), k21 x0 x1 x2 x3 x4 x5 M = some res → J p l e R s m args below meth c 6 G ρ0 M0 1 res M 21 [(0, (false, x0)), (1, (true, x1)), (2, (true, x2)), (3, (true, x3)), (4, (true, x4)), (5, (true, x5))] []) (x0 x1 x2 x3 x5 y0 : Int) (M : Mo) (h : L_begins_52 k21 x0 x1 x2 x3 x5 y0 M = some res) : J p l e R s m args below meth c 6 G ρ0 M0 1 res M 52 [(0, (false, x0)), (1, (true, x1)), (2, (true, x2)), (3, (true, x3)), (5, (true, x5))] [(true, y0)] := by
  unfold L_begins_52 at h
  refine j_istore F (lv' := [(4, (true, y0)), (0, (false, x0)), (1, (true, x1)), (2, (true, x2)), (3, (true, x3)), (5, (true, x5))]) (by decide) rfl dL_begins_52 ?_
  refine j_iinc F 5 (lv' := [(5, (true, (x5 + 1))), (4, (true, y0)), (0, (false, x0)), (1, (true, x1)), (2, (true, x2)), (3, (true, x3))]) rfl (by decide) rfl dL_begins_54 ?_
  refine j_goto F 21 (by decide) dL_begins_57 ?_
  refine j_sub (lv' := [(0, (false, x0)), (1, (true, x1)), (2, (true, x2)), (3, (true, x3)), (4, (true, y0)), (5, (true, (x5 + 1)))]) [2, 3, 4, 5, 1, 0] rfl ?_
  exact hk21 x0 x1 x2 x3 y0 (x5 + 1) M h
set_option maxHeartbeats 4000000 in
set_option maxRecDepth 100000 in
theorem w_L_begins_21 {p : Program} {l : Launch} {e : Env} {R : Room} {s : State} {m : MethodId} {args : Array Value} {below : List Frame} {meth : Method} {c : Code} {G : Gt} {ρ0 : Int → Nat} {M0 : Mo} {res : RS} (F : Fx p l R s m args meth c cL_begins 6 RL G M0 2 (some FieldType.boolean)) (hno : ∀ x ∈ c.exceptionTable.toList, False) (hnm : meth.name = yL_begins.name) (n : Nat) : ∀ (x0 x1 x2 x3 x4 x5 : Int) (M : Mo), L_begins_21 n x0 x1 x2 x3 x4 x5 M = some res → J p l e R s m args below meth c 6 G ρ0 M0 1 res M 21 [(0, (false, x0)), (1, (true, x1)), (2, (true, x2)), (3, (true, x3)), (4, (true, x4)), (5, (true, x5))] [] := by
  induction n with
  | zero => intro x0 x1 x2 x3 x4 x5 M h; cases h
  | succ n ih =>
    intro x0 x1 x2 x3 x4 x5 M h
    rw [L_begins_21] at h
    refine j_iload F 5 rfl dL_begins_21 ?_
    refine j_iload_n F 3 rfl rfl dL_begins_23 ?_
    refine j_icmp_ge F 60 (by decide) dL_begins_24 h (fun h => ?_) (fun h => ?_)
    · skip
      refine j_iload F 4 rfl dL_begins_60 ?_
      obtain ⟨g1, h⟩ := gua h
      exact j_zret F (nz_b g1) h dL_begins_62
    · skip
      refine j_iload F 4 rfl dL_begins_27 ?_
      refine j_if_eq F 60 (by decide) dL_begins_29 h (fun h => ?_) (fun h => ?_)
      · skip
        refine j_iload F 4 rfl dL_begins_60 ?_
        obtain ⟨g2, h⟩ := gua h
        exact j_zret F (nz_b g2) h dL_begins_62
      · skip
        refine j_aload_n F 0 rfl rfl dL_begins_32 ?_
        refine j_iload_n F 1 rfl rfl dL_begins_33 ?_
        refine j_iload F 5 rfl dL_begins_34 ?_
        refine j_iadd F dL_begins_36 ?_
        obtain ⟨g3, h⟩ := gua h
        obtain ⟨g4, h⟩ := gua h
        refine j_iaload F g3 g4 dL_begins_37 ?_
        refine j_aload_n F 0 rfl rfl dL_begins_38 ?_
        refine j_iload_n F 2 rfl rfl dL_begins_39 ?_
        refine j_iload F 5 rfl dL_begins_40 ?_
        refine j_iadd F dL_begins_42 ?_
        obtain ⟨g5, h⟩ := gua h
        refine j_iaload F g3 g5 dL_begins_43 ?_
        refine j_icmp_ne F 51 (by decide) dL_begins_44 h (fun h => ?_) (fun h => ?_)
        · skip
          refine j_iconst F dL_begins_51 ?_
          refine j_sub (lv' := [(0, (false, x0)), (1, (true, x1)), (2, (true, x2)), (3, (true, x3)), (5, (true, x5))]) [0, 1, 2, 3, 5] rfl ?_
          exact w_L_begins_52 F hno hnm (L_begins_21 n) ih x0 x1 x2 x3 x5 0 M h
        · skip
          refine j_iconst F dL_begins_47 ?_
          refine j_goto F 52 (by decide) dL_begins_48 ?_
          refine j_sub (lv' := [(0, (false, x0)), (1, (true, x1)), (2, (true, x2)), (3, (true, x3)), (5, (true, x5))]) [0, 1, 2, 3, 5] rfl ?_
          exact w_L_begins_52 F hno hnm (L_begins_21 n) ih x0 x1 x2 x3 x5 1 M h
set_option maxHeartbeats 4000000 in
set_option maxRecDepth 100000 in
theorem w_L_begins_16 {p : Program} {l : Launch} {e : Env} {R : Room} {s : State} {m : MethodId} {args : Array Value} {below : List Frame} {meth : Method} {c : Code} {G : Gt} {ρ0 : Int → Nat} {M0 : Mo} {res : RS} (F : Fx p l R s m args meth c cL_begins 6 RL G M0 2 (some FieldType.boolean)) (hno : ∀ x ∈ c.exceptionTable.toList, False) (hnm : meth.name = yL_begins.name) (x0 x1 x2 x3 y0 : Int) (M : Mo) (h : L_begins_16 x0 x1 x2 x3 y0 M = some res) : J p l e R s m args below meth c 6 G ρ0 M0 1 res M 16 [(0, (false, x0)), (1, (true, x1)), (2, (true, x2)), (3, (true, x3))] [(true, y0)] := by
  unfold L_begins_16 at h
  refine j_istore F (lv' := [(4, (true, y0)), (0, (false, x0)), (1, (true, x1)), (2, (true, x2)), (3, (true, x3))]) (by decide) rfl dL_begins_16 ?_
  refine j_iconst F dL_begins_18 ?_
  refine j_istore F (lv' := [(5, (true, 0)), (4, (true, y0)), (0, (false, x0)), (1, (true, x1)), (2, (true, x2)), (3, (true, x3))]) (by decide) rfl dL_begins_19 ?_
  refine j_sub (lv' := [(0, (false, x0)), (1, (true, x1)), (2, (true, x2)), (3, (true, x3)), (4, (true, y0)), (5, (true, 0))]) [2, 3, 4, 5, 1, 0] rfl ?_
  exact w_L_begins_21 F hno hnm FU x0 x1 x2 x3 y0 0 M h
set_option maxHeartbeats 4000000 in
set_option maxRecDepth 100000 in
theorem w_L_begins_0 {p : Program} {l : Launch} {e : Env} {R : Room} {s : State} {m : MethodId} {args : Array Value} {below : List Frame} {meth : Method} {c : Code} {G : Gt} {ρ0 : Int → Nat} {M0 : Mo} {res : RS} (F : Fx p l R s m args meth c cL_begins 6 RL G M0 2 (some FieldType.boolean)) (hno : ∀ x ∈ c.exceptionTable.toList, False) (hnm : meth.name = yL_begins.name) (x0 x1 x2 x3 : Int) (M : Mo) (h : L_begins x0 x1 x2 x3 M = some res) : J p l e R s m args below meth c 6 G ρ0 M0 1 res M 0 [(0, (false, x0)), (1, (true, x1)), (2, (true, x2)), (3, (true, x3))] [] := by
  unfold L_begins at h
  refine j_aload_n F 0 rfl rfl dL_begins_0 ?_
  refine j_iload_n F 1 rfl rfl dL_begins_1 ?_
  refine j_callS (d' := 1) (argl := [(false, x0), (true, x1)]) (rk9 := 1) (st := []) F hno M_L_behind q1661 q1660 ⟨by decide, by decide⟩ (Nat.le_of_ble_eq_true rfl) (by decide) dL_begins_2 rfl h (fun z hz => c_L_behind l F.ht G x0 x1 M z hz) (fun v1 M2 h kl3 => ?_)
  refine j_st (st' := [(true, v1)]) rfl ?_
  refine j_iload_n F 1 rfl rfl dL_begins_5 ?_
  refine j_isub F dL_begins_6 ?_
  refine j_iload_n F 3 rfl rfl dL_begins_7 ?_
  refine j_icmp_le F 15 (by decide) dL_begins_8 h (fun h => ?_) (fun h => ?_)
  · skip
    refine j_iconst F dL_begins_15 ?_
    refine j_sub (lv' := [(0, (false, x0)), (1, (true, x1)), (2, (true, x2)), (3, (true, x3))]) [0, 1, 2, 3] rfl ?_
    exact w_L_begins_16 F hno hnm x0 x1 x2 x3 0 M2 h
  · skip
    refine j_iconst F dL_begins_11 ?_
    refine j_goto F 16 (by decide) dL_begins_12 ?_
    refine j_sub (lv' := [(0, (false, x0)), (1, (true, x1)), (2, (true, x2)), (3, (true, x3))]) [0, 1, 2, 3] rfl ?_
    exact w_L_begins_16 F hno hnm x0 x1 x2 x3 1 M2 h
theorem c_L_begins (l : Launch) (hl : l.stackTraces = false) (G : Gt) (x0 x1 x2 x3 : Int) (M : Mo) (z : RS) (h : L_begins x0 x1 x2 x3 M = some z) : CT l G yL_begins (cn yL_begins cL_begins 6 (some FieldType.boolean)) 2 [(false, x0), (true, x1), (true, x2), (true, x3)] M 1 z :=
  ctOf hl (by decide) (Nat.le_of_ble_eq_true rfl) (fun p e R s m args below meth c ρ F hno hnm => w_L_begins_0 F hno hnm x0 x1 x2 x3 M h)
theorem dL_isFirstOf_0 : decode cL_isFirstOf 0 = .ok (.iconst 1, 1) := by decide +kernel
theorem dL_isFirstOf_1 : decode cL_isFirstOf 1 = .ok (.istore_n 3, 1) := by decide +kernel
theorem dL_isFirstOf_2 : decode cL_isFirstOf 2 = .ok (.iconst 0, 1) := by decide +kernel
theorem dL_isFirstOf_3 : decode cL_isFirstOf 3 = .ok (.istore 4, 2) := by decide +kernel
theorem dL_isFirstOf_5 : decode cL_isFirstOf 5 = .ok (.iload 4, 2) := by decide +kernel
theorem dL_isFirstOf_7 : decode cL_isFirstOf 7 = .ok (.iload_n 1, 1) := by decide +kernel
theorem dL_isFirstOf_8 : decode cL_isFirstOf 8 = .ok (.if_icmp .ge 39, 3) := by decide +kernel
theorem dL_isFirstOf_47 : decode cL_isFirstOf 47 = .ok (.iload_n 3, 1) := by decide +kernel
theorem dL_isFirstOf_48 : decode cL_isFirstOf 48 = .ok (.ireturn, 1) := by decide +kernel
theorem dL_isFirstOf_11 : decode cL_isFirstOf 11 = .ok (.iload_n 3, 1) := by decide +kernel
theorem dL_isFirstOf_12 : decode cL_isFirstOf 12 = .ok (.ifCond .eq 27, 3) := by decide +kernel
theorem dL_isFirstOf_15 : decode cL_isFirstOf 15 = .ok (.aload_n 0, 1) := by decide +kernel
theorem dL_isFirstOf_16 : decode cL_isFirstOf 16 = .ok (.iload 4, 2) := by decide +kernel
theorem dL_isFirstOf_18 : decode cL_isFirstOf 18 = .ok (.iload_n 2, 1) := by decide +kernel
theorem dL_isFirstOf_19 : decode cL_isFirstOf 19 = .ok (.invokestatic 138, 3) := by decide +kernel
theorem dL_isFirstOf_22 : decode cL_isFirstOf 22 = .ok (.ifCond .eq 13, 3) := by decide +kernel
theorem dL_isFirstOf_25 : decode cL_isFirstOf 25 = .ok (.aload_n 0, 1) := by decide +kernel
theorem dL_isFirstOf_26 : decode cL_isFirstOf 26 = .ok (.iload 4, 2) := by decide +kernel
theorem dL_isFirstOf_28 : decode cL_isFirstOf 28 = .ok (.iload_n 1, 1) := by decide +kernel
theorem dL_isFirstOf_29 : decode cL_isFirstOf 29 = .ok (.invokestatic 146, 3) := by decide +kernel
theorem dL_isFirstOf_32 : decode cL_isFirstOf 32 = .ok (.ifCond .ne 7, 3) := by decide +kernel
theorem dL_isFirstOf_35 : decode cL_isFirstOf 35 = .ok (.iconst 1, 1) := by decide +kernel
theorem dL_isFirstOf_36 : decode cL_isFirstOf 36 = .ok (.goto 4, 3) := by decide +kernel
theorem dL_isFirstOf_39 : decode cL_isFirstOf 39 = .ok (.iconst 0, 1) := by decide +kernel
theorem dL_isFirstOf_40 : decode cL_isFirstOf 40 = .ok (.istore_n 3, 1) := by decide +kernel
theorem dL_isFirstOf_41 : decode cL_isFirstOf 41 = .ok (.iinc 4 1, 3) := by decide +kernel
theorem dL_isFirstOf_44 : decode cL_isFirstOf 44 = .ok (.goto (-39), 3) := by decide +kernel
set_option maxHeartbeats 4000000 in
set_option maxRecDepth 100000 in
theorem w_L_isFirstOf_40 {p : Program} {l : Launch} {e : Env} {R : Room} {s : State} {m : MethodId} {args : Array Value} {below : List Frame} {meth : Method} {c : Code} {G : Gt} {ρ0 : Int → Nat} {M0 : Mo} {res : RS} (F : Fx p l R s m args meth c cL_isFirstOf 5 RL G M0 3 (some FieldType.boolean)) (hno : ∀ x ∈ c.exceptionTable.toList, False) (hnm : meth.name = yL_isFirstOf.name) (k5 : Int → Int → Int → Int → Int → Mo → Option RS) (hk5 : ∀ (x0 x1 x2 x3 x4 : Int) (M : Mo), k5 x0 x1 x2 x3 x4 M = some res → J p l e R s m args below meth c 5 G ρ0 M0 1 res M 5 [(0, (false, x0)), (1, (true, x1)), (2, (true, x2)), (3, (true, x3)), (4, (true, x4))] []) (x0 x1 x2 x4 y0 : Int) (M : Mo) (h : L_isFirstOf_40 k5 x0 x1 x2 x4 y0 M = some res) : J p l e R s m args below meth c 5 G ρ0 M0 1 res M 40 [(0, (false, x0)), (1, (true, x1)), (2, (true, x2)), (4, (true, x4))] [(true, y0)] := by
  unfold L_isFirstOf_40 at h
  refine j_istore_n F (lv' := [(3, (true, y0)), (0, (false, x0)), (1, (true, x1)), (2, (true, x2)), (4, (true, x4))]) rfl (by decide) rfl dL_isFirstOf_40 ?_
  refine j_iinc F 4 (lv' := [(4, (true, (x4 + 1))), (3, (true, y0)), (0, (false, x0)), (1, (true, x1)), (2, (true, x2))]) rfl (by decide) rfl dL_isFirstOf_41 ?_
  refine j_goto F 5 (by decide) dL_isFirstOf_44 ?_
  refine j_sub (lv' := [(0, (false, x0)), (1, (true, x1)), (2, (true, x2)), (3, (true, y0)), (4, (true, (x4 + 1)))]) [2, 3, 4, 1, 0] rfl ?_
  exact hk5 x0 x1 x2 y0 (x4 + 1) M h
set_option maxHeartbeats 4000000 in
set_option maxRecDepth 100000 in
theorem w_L_isFirstOf_35 {p : Program} {l : Launch} {e : Env} {R : Room} {s : State} {m : MethodId} {args : Array Value} {below : List Frame} {meth : Method} {c : Code} {G : Gt} {ρ0 : Int → Nat} {M0 : Mo} {res : RS} (F : Fx p l R s m args meth c cL_isFirstOf 5 RL G M0 3 (some FieldType.boolean)) (hno : ∀ x ∈ c.exceptionTable.toList, False) (hnm : meth.name = yL_isFirstOf.name) (k5 : Int → Int → Int → Int → Int → Mo → Option RS) (hk5 : ∀ (x0 x1 x2 x3 x4 : Int) (M : Mo), k5 x0 x1 x2 x3 x4 M = some res → J p l e R s m args below meth c 5 G ρ0 M0 1 res M 5 [(0, (false, x0)), (1, (true, x1)), (2, (true, x2)), (3, (true, x3)), (4, (true, x4))] []) (x0 x1 x2 x4 : Int) (M : Mo) (h : L_isFirstOf_35 k5 x0 x1 x2 x4 M = some res) : J p l e R s m args below meth c 5 G ρ0 M0 1 res M 35 [(0, (false, x0)), (1, (true, x1)), (2, (true, x2)), (4, (true, x4))] [] := by
  unfold L_isFirstOf_35 at h
  refine j_iconst F dL_isFirstOf_35 ?_
  refine j_goto F 40 (by decide) dL_isFirstOf_36 ?_
  refine j_sub (lv' := [(0, (false, x0)), (1, (true, x1)), (2, (true, x2)), (4, (true, x4))]) [0, 1, 2, 3] rfl ?_
  exact w_L_isFirstOf_40 F hno hnm k5 hk5 x0 x1 x2 x4 1 M h
set_option maxHeartbeats 4000000 in
set_option maxRecDepth 100000 in
theorem w_L_isFirstOf_39 {p : Program} {l : Launch} {e : Env} {R : Room} {s : State} {m : MethodId} {args : Array Value} {below : List Frame} {meth : Method} {c : Code} {G : Gt} {ρ0 : Int → Nat} {M0 : Mo} {res : RS} (F : Fx p l R s m args meth c cL_isFirstOf 5 RL G M0 3 (some FieldType.boolean)) (hno : ∀ x ∈ c.exceptionTable.toList, False) (hnm : meth.name = yL_isFirstOf.name) (k5 : Int → Int → Int → Int → Int → Mo → Option RS) (hk5 : ∀ (x0 x1 x2 x3 x4 : Int) (M : Mo), k5 x0 x1 x2 x3 x4 M = some res → J p l e R s m args below meth c 5 G ρ0 M0 1 res M 5 [(0, (false, x0)), (1, (true, x1)), (2, (true, x2)), (3, (true, x3)), (4, (true, x4))] []) (x0 x1 x2 x4 : Int) (M : Mo) (h : L_isFirstOf_39 k5 x0 x1 x2 x4 M = some res) : J p l e R s m args below meth c 5 G ρ0 M0 1 res M 39 [(0, (false, x0)), (1, (true, x1)), (2, (true, x2)), (4, (true, x4))] [] := by
  unfold L_isFirstOf_39 at h
  refine j_iconst F dL_isFirstOf_39 ?_
  refine j_sub (lv' := [(0, (false, x0)), (1, (true, x1)), (2, (true, x2)), (4, (true, x4))]) [0, 1, 2, 3] rfl ?_
  exact w_L_isFirstOf_40 F hno hnm k5 hk5 x0 x1 x2 x4 0 M h
set_option maxHeartbeats 4000000 in
set_option maxRecDepth 100000 in
theorem w_L_isFirstOf_5 {p : Program} {l : Launch} {e : Env} {R : Room} {s : State} {m : MethodId} {args : Array Value} {below : List Frame} {meth : Method} {c : Code} {G : Gt} {ρ0 : Int → Nat} {M0 : Mo} {res : RS} (F : Fx p l R s m args meth c cL_isFirstOf 5 RL G M0 3 (some FieldType.boolean)) (hno : ∀ x ∈ c.exceptionTable.toList, False) (hnm : meth.name = yL_isFirstOf.name) (n : Nat) : ∀ (x0 x1 x2 x3 x4 : Int) (M : Mo), L_isFirstOf_5 n x0 x1 x2 x3 x4 M = some res → J p l e R s m args below meth c 5 G ρ0 M0 1 res M 5 [(0, (false, x0)), (1, (true, x1)), (2, (true, x2)), (3, (true, x3)), (4, (true, x4))] [] := by
  induction n with
  | zero => intro x0 x1 x2 x3 x4 M h; cases h
  | succ n ih =>
    intro x0 x1 x2 x3 x4 M h
    rw [L_isFirstOf_5] at h
    refine j_iload F 4 rfl dL_isFirstOf_5 ?_
    refine j_iload_n F 1 rfl rfl dL_isFirstOf_7 ?_
    refine j_icmp_ge F 47 (by decide) dL_isFirstOf_8 h (fun h => ?_) (fun h => ?_)
    · skip
      refine j_iload_n F 3 rfl rfl dL_isFirstOf_47 ?_
      obtain ⟨g1, h⟩ := gua h
      exact j_zret F (nz_b g1) h dL_isFirstOf_48
    · skip
      refine j_iload_n F 3 rfl rfl dL_isFirstOf_11 ?_
      refine j_if_eq F 39 (by decide) dL_isFirstOf_12 h (fun h => ?_) (fun h => ?_)
      · skip
        refine j_sub (lv' := [(0, (false, x0)), (1, (true, x1)), (2, (true, x2)), (4, (true, x4))]) [0, 1, 2, 4] rfl ?_
        exact w_L_isFirstOf_39 F hno hnm (L_isFirstOf_5 n) ih x0 x1 x2 x4 M h
      · skip
        refine j_aload_n F 0 rfl rfl dL_isFirstOf_15 ?_
        refine j_iload F 4 rfl dL_isFirstOf_16 ?_
        refine j_iload_n F 2 rfl rfl dL_isFirstOf_18 ?_
        refine j_callS (d' := 1) (argl := [(false, x0), (true, x4), (true, x2)]) (rk9 := 1) (st := []) F hno M_L_isBegin q1652 q1651 ⟨by decide, by decide⟩ (Nat.le_of_ble_eq_true rfl) (by decide) dL_isFirstOf_19 rfl h (fun z hz => c_L_isBegin l F.ht G x0 x4 x2 M z hz) (fun v2 M3 h kl4 => ?_)
        refine j_st (st' := [(true, v2)]) rfl ?_
        refine j_if_eq F 35 (by decide) dL_isFirstOf_22 h (fun h => ?_) (fun h => ?_)
        · skip
          refine j_sub (lv' := [(0, (false, x0)), (1, (true, x1)), (2, (true, x2)), (4, (true, x4))]) [0, 1, 2, 4] rfl ?_
          exact w_L_isFirstOf_35 F hno hnm (L_isFirstOf_5 n) ih x0 x1 x2 x4 M3 h
        · skip
          refine j_aload_n F 0 rfl rfl dL_isFirstOf_25 ?_
          refine j_iload F 4 rfl dL_isFirstOf_26 ?_
          refine j_iload_n F 1 rfl rfl dL_isFirstOf_28 ?_
          refine j_callS (d' := 2) (argl := [(false, x0), (true, x4), (true, x1)]) (rk9 := 1) (st := []) F hno M_L_areLike q1664 q1663 ⟨by decide, by decide⟩ (Nat.le_of_ble_eq_true rfl) (by decide) dL_isFirstOf_29 rfl h (fun z hz => c_L_areLike l F.ht G x0 x4 x1 M3 z hz) (fun v5 M6 h kl7 => ?_)
          refine j_st (st' := [(true, v5)]) rfl ?_
          refine j_if_ne F 39 (by decide) dL_isFirstOf_32 h (fun h => ?_) (fun h => ?_)
          · skip
            refine j_sub (lv' := [(0, (false, x0)), (1, (true, x1)), (2, (true, x2)), (4, (true, x4))]) [0, 1, 2, 4] rfl ?_
            exact w_L_isFirstOf_39 F hno hnm (L_isFirstOf_5 n) ih x0 x1 x2 x4 M6 h
          · skip
            refine j_sub (lv' := [(0, (false, x0)), (1, (true, x1)), (2, (true, x2)), (4, (true, x4))]) [0, 1, 2, 4] rfl ?_
            exact w_L_isFirstOf_35 F hno hnm (L_isFirstOf_5 n) ih x0 x1 x2 x4 M6 h
set_option maxHeartbeats 4000000 in
set_option maxRecDepth 100000 in
theorem w_L_isFirstOf_0 {p : Program} {l : Launch} {e : Env} {R : Room} {s : State} {m : MethodId} {args : Array Value} {below : List Frame} {meth : Method} {c : Code} {G : Gt} {ρ0 : Int → Nat} {M0 : Mo} {res : RS} (F : Fx p l R s m args meth c cL_isFirstOf 5 RL G M0 3 (some FieldType.boolean)) (hno : ∀ x ∈ c.exceptionTable.toList, False) (hnm : meth.name = yL_isFirstOf.name) (x0 x1 x2 : Int) (M : Mo) (h : L_isFirstOf x0 x1 x2 M = some res) : J p l e R s m args below meth c 5 G ρ0 M0 1 res M 0 [(0, (false, x0)), (1, (true, x1)), (2, (true, x2))] [] := by
  unfold L_isFirstOf at h
  refine j_iconst F dL_isFirstOf_0 ?_
  refine j_istore_n F (lv' := [(3, (true, 1)), (0, (false, x0)), (1, (true, x1)), (2, (true, x2))]) rfl (by decide) rfl dL_isFirstOf_1 ?_
  refine j_iconst F dL_isFirstOf_2 ?_
  refine j_istore F (lv' := [(4, (true, 0)), (3, (true, 1)), (0, (false, x0)), (1, (true, x1)), (2, (true, x2))]) (by decide) rfl dL_isFirstOf_3 ?_
  refine j_sub (lv' := [(0, (false, x0)), (1, (true, x1)), (2, (true, x2)), (3, (true, 1)), (4, (true, 0))]) [2, 3, 4, 1, 0] rfl ?_
  exact w_L_isFirstOf_5 F hno hnm FU x0 x1 x2 1 0 M h
theorem c_L_isFirstOf (l : Launch) (hl : l.stackTraces = false) (G : Gt) (x0 x1 x2 : Int) (M : Mo) (z : RS) (h : L_isFirstOf x0 x1 x2 M = some z) : CT l G yL_isFirstOf (cn yL_isFirstOf cL_isFirstOf 5 (some FieldType.boolean)) 3 [(false, x0), (true, x1), (true, x2)] M 1 z :=
  ctOf hl (by decide) (Nat.le_of_ble_eq_true rfl) (fun p e R s m args below meth c ρ F hno hnm => w_L_isFirstOf_0 F hno hnm x0 x1 x2 M h)
theorem dL_isCompleted_0 : decode cL_isCompleted 0 = .ok (.aload_n 1, 1) := by decide +kernel
theorem dL_isCompleted_1 : decode cL_isCompleted 1 = .ok (.iload_n 3, 1) := by decide +kernel
theorem dL_isCompleted_2 : decode cL_isCompleted 2 = .ok (.iload 4, 2) := by decide +kernel
set_option maxRecDepth 100000 in
theorem q1650 : Cond.code yL_runAt cL_runAt 4 (some FieldType.int) ∈ GT := gt 1650 (rfl) (by decide +kernel)
theorem M_L_runAt : MY yL_runAt cL_runAt 4 (some FieldType.int) 3 := ⟨q1650, q52, by decide +kernel, by decide +kernel⟩
set_option maxRecDepth 100000 in
theorem q1649 : Cond.static yL_runAt ∈ GT := gt 1649 (by decide +kernel) (by decide +kernel)
set_option maxRecDepth 100000 in
theorem q1648 : Cond.methodLink RL 149 yL_runAt ∈ GT := gt 1648 (by decide +kernel) (by decide +kernel)
theorem dL_isCompleted_4 : decode cL_isCompleted 4 = .ok (.invokestatic 149, 3) := by decide +kernel
theorem dL_isCompleted_7 : decode cL_isCompleted 7 = .ok (.istore 7, 2) := by decide +kernel
theorem dL_isCompleted_9 : decode cL_isCompleted 9 = .ok (.iload 7, 2) := by decide +kernel
theorem dL_isCompleted_11 : decode cL_isCompleted 11 = .ok (.ifCond .ge 7, 3) := by decide +kernel
theorem dL_isCompleted_18 : decode cL_isCompleted 18 = .ok (.iload 7, 2) := by decide +kernel
theorem dL_isCompleted_14 : decode cL_isCompleted 14 = .ok (.iconst 0, 1) := by decide +kernel
theorem dL_isCompleted_15 : decode cL_isCompleted 15 = .ok (.goto 5, 3) := by decide +kernel
theorem dL_isCompleted_20 : decode cL_isCompleted 20 = .ok (.istore 8, 2) := by decide +kernel
theorem dL_isCompleted_22 : decode cL_isCompleted 22 = .ok (.iload 7, 2) := by decide +kernel
theorem dL_isCompleted_24 : decode cL_isCompleted 24 = .ok (.ifCond .ge 7, 3) := by decide +kernel
theorem dL_isCompleted_31 : decode cL_isCompleted 31 = .ok (.iload_n 3, 1) := by decide +kernel
theorem dL_isCompleted_32 : decode cL_isCompleted 32 = .ok (.iload 7, 2) := by decide +kernel
theorem dL_isCompleted_34 : decode cL_isCompleted 34 = .ok (.isub, 1) := by decide +kernel
theorem dL_isCompleted_27 : decode cL_isCompleted 27 = .ok (.iconst 0, 1) := by decide +kernel
theorem dL_isCompleted_28 : decode cL_isCompleted 28 = .ok (.goto 7, 3) := by decide +kernel
theorem dL_isCompleted_35 : decode cL_isCompleted 35 = .ok (.istore 9, 2) := by decide +kernel
theorem dL_isCompleted_37 : decode cL_isCompleted 37 = .ok (.iconst 0, 1) := by decide +kernel
theorem dL_isCompleted_38 : decode cL_isCompleted 38 = .ok (.istore 10, 2) := by decide +kernel
theorem dL_isCompleted_40 : decode cL_isCompleted 40 = .ok (.iconst 1, 1) := by decide +kernel
theorem dL_isCompleted_41 : decode cL_isCompleted 41 = .ok (.istore 11, 2) := by decide +kernel
theorem dL_isCompleted_43 : decode cL_isCompleted 43 = .ok (.iconst 0, 1) := by decide +kernel
theorem dL_isCompleted_44 : decode cL_isCompleted 44 = .ok (.istore 12, 2) := by decide +kernel
theorem dL_isCompleted_46 : decode cL_isCompleted 46 = .ok (.iload 12, 2) := by decide +kernel
theorem dL_isCompleted_48 : decode cL_isCompleted 48 = .ok (.aload_n 1, 1) := by decide +kernel
theorem dL_isCompleted_49 : decode cL_isCompleted 49 = .ok (.bipush 63, 2) := by decide +kernel
theorem dL_isCompleted_51 : decode cL_isCompleted 51 = .ok (.iaload, 1) := by decide +kernel
theorem dL_isCompleted_52 : decode cL_isCompleted 52 = .ok (.if_icmp .ge 289, 3) := by decide +kernel
theorem dL_isCompleted_55 : decode cL_isCompleted 55 = .ok (.iload 11, 2) := by decide +kernel
theorem dL_isCompleted_57 : decode cL_isCompleted 57 = .ok (.ifCond .eq 284, 3) := by decide +kernel
theorem dL_isCompleted_60 : decode cL_isCompleted 60 = .ok (.aload_n 1, 1) := by decide +kernel
theorem dL_isCompleted_61 : decode cL_isCompleted 61 = .ok (.iload 12, 2) := by decide +kernel
theorem dL_isCompleted_63 : decode cL_isCompleted 63 = .ok (.iload 4, 2) := by decide +kernel
theorem dL_isCompleted_65 : decode cL_isCompleted 65 = .ok (.invokestatic 138, 3) := by decide +kernel
theorem dL_isCompleted_68 : decode cL_isCompleted 68 = .ok (.ifCond .eq 267, 3) := by decide +kernel
theorem dL_isCompleted_71 : decode cL_isCompleted 71 = .ok (.aload_n 1, 1) := by decide +kernel
theorem dL_isCompleted_72 : decode cL_isCompleted 72 = .ok (.iload 12, 2) := by decide +kernel
theorem dL_isCompleted_74 : decode cL_isCompleted 74 = .ok (.invokestatic 142, 3) := by decide +kernel
theorem dL_isCompleted_77 : decode cL_isCompleted 77 = .ok (.iload 12, 2) := by decide +kernel
theorem dL_isCompleted_79 : decode cL_isCompleted 79 = .ok (.isub, 1) := by decide +kernel
theorem dL_isCompleted_80 : decode cL_isCompleted 80 = .ok (.iload 9, 2) := by decide +kernel
theorem dL_isCompleted_82 : decode cL_isCompleted 82 = .ok (.if_icmp .le 253, 3) := by decide +kernel
theorem dL_isCompleted_85 : decode cL_isCompleted 85 = .ok (.iconst 1, 1) := by decide +kernel
theorem dL_isCompleted_86 : decode cL_isCompleted 86 = .ok (.istore 13, 2) := by decide +kernel
theorem dL_isCompleted_88 : decode cL_isCompleted 88 = .ok (.iconst 0, 1) := by decide +kernel
theorem dL_isCompleted_89 : decode cL_isCompleted 89 = .ok (.istore 14, 2) := by decide +kernel
theorem dL_isCompleted_91 : decode cL_isCompleted 91 = .ok (.iload 14, 2) := by decide +kernel
theorem dL_isCompleted_93 : decode cL_isCompleted 93 = .ok (.iload 9, 2) := by decide +kernel
theorem dL_isCompleted_95 : decode cL_isCompleted 95 = .ok (.if_icmp .ge 38, 3) := by decide +kernel
theorem dL_isCompleted_133 : decode cL_isCompleted 133 = .ok (.iload 13, 2) := by decide +kernel
theorem dL_isCompleted_135 : decode cL_isCompleted 135 = .ok (.istore 14, 2) := by decide +kernel
theorem dL_isCompleted_137 : decode cL_isCompleted 137 = .ok (.iconst 0, 1) := by decide +kernel
theorem dL_isCompleted_138 : decode cL_isCompleted 138 = .ok (.istore 15, 2) := by decide +kernel
theorem dL_isCompleted_140 : decode cL_isCompleted 140 = .ok (.iconst 0, 1) := by decide +kernel
theorem dL_isCompleted_141 : decode cL_isCompleted 141 = .ok (.istore 16, 2) := by decide +kernel
theorem dL_isCompleted_98 : decode cL_isCompleted 98 = .ok (.iload 13, 2) := by decide +kernel
theorem dL_isCompleted_100 : decode cL_isCompleted 100 = .ok (.ifCond .eq 24, 3) := by decide +kernel
theorem dL_isCompleted_103 : decode cL_isCompleted 103 = .ok (.aload_n 1, 1) := by decide +kernel
theorem dL_isCompleted_104 : decode cL_isCompleted 104 = .ok (.iload 12, 2) := by decide +kernel
theorem dL_isCompleted_106 : decode cL_isCompleted 106 = .ok (.iload 14, 2) := by decide +kernel
theorem dL_isCompleted_108 : decode cL_isCompleted 108 = .ok (.iadd, 1) := by decide +kernel
theorem dL_isCompleted_109 : decode cL_isCompleted 109 = .ok (.iaload, 1) := by decide +kernel
theorem dL_isCompleted_110 : decode cL_isCompleted 110 = .ok (.aload_n 1, 1) := by decide +kernel
theorem dL_isCompleted_111 : decode cL_isCompleted 111 = .ok (.iload 8, 2) := by decide +kernel
theorem dL_isCompleted_113 : decode cL_isCompleted 113 = .ok (.iload 14, 2) := by decide +kernel
theorem dL_isCompleted_115 : decode cL_isCompleted 115 = .ok (.iadd, 1) := by decide +kernel
theorem dL_isCompleted_116 : decode cL_isCompleted 116 = .ok (.iaload, 1) := by decide +kernel
theorem dL_isCompleted_117 : decode cL_isCompleted 117 = .ok (.if_icmp .ne 7, 3) := by decide +kernel
theorem dL_isCompleted_120 : decode cL_isCompleted 120 = .ok (.iconst 1, 1) := by decide +kernel
theorem dL_isCompleted_121 : decode cL_isCompleted 121 = .ok (.goto 4, 3) := by decide +kernel
theorem dL_isCompleted_124 : decode cL_isCompleted 124 = .ok (.iconst 0, 1) := by decide +kernel
theorem dL_isCompleted_125 : decode cL_isCompleted 125 = .ok (.istore 13, 2) := by decide +kernel
theorem dL_isCompleted_127 : decode cL_isCompleted 127 = .ok (.iinc 14 1, 3) := by decide +kernel
theorem dL_isCompleted_130 : decode cL_isCompleted 130 = .ok (.goto (-39), 3) := by decide +kernel
theorem dL_isCompleted_143 : decode cL_isCompleted 143 = .ok (.iload 16, 2) := by decide +kernel
theorem dL_isCompleted_145 : decode cL_isCompleted 145 = .ok (.aload_n 1, 1) := by decide +kernel
theorem dL_isCompleted_146 : decode cL_isCompleted 146 = .ok (.bipush 63, 2) := by decide +kernel
theorem dL_isCompleted_148 : decode cL_isCompleted 148 = .ok (.iaload, 1) := by decide +kernel
theorem dL_isCompleted_149 : decode cL_isCompleted 149 = .ok (.if_icmp .ge 55, 3) := by decide +kernel
theorem dL_isCompleted_204 : decode cL_isCompleted 204 = .ok (.iload 14, 2) := by decide +kernel
theorem dL_isCompleted_206 : decode cL_isCompleted 206 = .ok (.ifCond .eq 129, 3) := by decide +kernel
theorem dL_isCompleted_209 : decode cL_isCompleted 209 = .ok (.iconst 0, 1) := by decide +kernel
theorem dL_isCompleted_210 : decode cL_isCompleted 210 = .ok (.istore 16, 2) := by decide +kernel
theorem dL_isCompleted_152 : decode cL_isCompleted 152 = .ok (.aload_n 1, 1) := by decide +kernel
theorem dL_isCompleted_153 : decode cL_isCompleted 153 = .ok (.iload 16, 2) := by decide +kernel
theorem dL_isCompleted_155 : decode cL_isCompleted 155 = .ok (.iload 4, 2) := by decide +kernel
theorem dL_isCompleted_157 : decode cL_isCompleted 157 = .ok (.invokestatic 138, 3) := by decide +kernel
theorem dL_isCompleted_160 : decode cL_isCompleted 160 = .ok (.ifCond .eq 38, 3) := by decide +kernel
theorem dL_isCompleted_163 : decode cL_isCompleted 163 = .ok (.iload 13, 2) := by decide +kernel
theorem dL_isCompleted_165 : decode cL_isCompleted 165 = .ok (.ifCond .eq 33, 3) := by decide +kernel
theorem dL_isCompleted_168 : decode cL_isCompleted 168 = .ok (.iload 14, 2) := by decide +kernel
theorem dL_isCompleted_170 : decode cL_isCompleted 170 = .ok (.ifCond .eq 25, 3) := by decide +kernel
theorem dL_isCompleted_173 : decode cL_isCompleted 173 = .ok (.iload 16, 2) := by decide +kernel
theorem dL_isCompleted_175 : decode cL_isCompleted 175 = .ok (.iload 12, 2) := by decide +kernel
theorem dL_isCompleted_177 : decode cL_isCompleted 177 = .ok (.if_icmp .ge 14, 3) := by decide +kernel
theorem dL_isCompleted_180 : decode cL_isCompleted 180 = .ok (.aload_n 1, 1) := by decide +kernel
theorem dL_isCompleted_181 : decode cL_isCompleted 181 = .ok (.iload 16, 2) := by decide +kernel
theorem dL_isCompleted_183 : decode cL_isCompleted 183 = .ok (.iload 12, 2) := by decide +kernel
theorem dL_isCompleted_185 : decode cL_isCompleted 185 = .ok (.invokestatic 146, 3) := by decide +kernel
theorem dL_isCompleted_188 : decode cL_isCompleted 188 = .ok (.ifCond .ne 7, 3) := by decide +kernel
theorem dL_isCompleted_191 : decode cL_isCompleted 191 = .ok (.iconst 1, 1) := by decide +kernel
theorem dL_isCompleted_192 : decode cL_isCompleted 192 = .ok (.goto 4, 3) := by decide +kernel
theorem dL_isCompleted_195 : decode cL_isCompleted 195 = .ok (.iconst 0, 1) := by decide +kernel
theorem dL_isCompleted_196 : decode cL_isCompleted 196 = .ok (.istore 14, 2) := by decide +kernel
theorem dL_isCompleted_198 : decode cL_isCompleted 198 = .ok (.iinc 16 1, 3) := by decide +kernel
theorem dL_isCompleted_201 : decode cL_isCompleted 201 = .ok (.goto (-58), 3) := by decide +kernel
theorem dL_isCompleted_212 : decode cL_isCompleted 212 = .ok (.iload 16, 2) := by decide +kernel
theorem dL_isCompleted_214 : decode cL_isCompleted 214 = .ok (.aload_n 1, 1) := by decide +kernel
theorem dL_isCompleted_215 : decode cL_isCompleted 215 = .ok (.bipush 63, 2) := by decide +kernel
theorem dL_isCompleted_217 : decode cL_isCompleted 217 = .ok (.iaload, 1) := by decide +kernel
theorem dL_isCompleted_218 : decode cL_isCompleted 218 = .ok (.if_icmp .ge 65, 3) := by decide +kernel
theorem dL_isCompleted_283 : decode cL_isCompleted 283 = .ok (.aload_n 0, 1) := by decide +kernel
theorem dL_isCompleted_284 : decode cL_isCompleted 284 = .ok (.iconst 5, 1) := by decide +kernel
theorem dL_isCompleted_285 : decode cL_isCompleted 285 = .ok (.iload 5, 2) := by decide +kernel
theorem dL_isCompleted_287 : decode cL_isCompleted 287 = .ok (.iload 6, 2) := by decide +kernel
theorem dL_isCompleted_289 : decode cL_isCompleted 289 = .ok (.iload 15, 2) := by decide +kernel
theorem dL_isCompleted_291 : decode cL_isCompleted 291 = .ok (.invokestatic 116, 3) := by decide +kernel
theorem dL_isCompleted_294 : decode cL_isCompleted 294 = .ok (.aload_n 1, 1) := by decide +kernel
theorem dL_isCompleted_295 : decode cL_isCompleted 295 = .ok (.iload_n 2, 1) := by decide +kernel
theorem dL_isCompleted_296 : decode cL_isCompleted 296 = .ok (.iload 12, 2) := by decide +kernel
theorem dL_isCompleted_298 : decode cL_isCompleted 298 = .ok (.aload_n 1, 1) := by decide +kernel
theorem dL_isCompleted_299 : decode cL_isCompleted 299 = .ok (.iload 12, 2) := by decide +kernel
theorem dL_isCompleted_301 : decode cL_isCompleted 301 = .ok (.invokestatic 142, 3) := by decide +kernel
set_option maxRecDepth 100000 in
theorem q1677 : Cond.code yL_item cL_item 7 (some FieldType.int) ∈ GT := gt 1677 (rfl) (by decide +kernel)
theorem M_L_item : MY yL_item cL_item 7 (some FieldType.int) 4 := ⟨q1677, q52, by decide +kernel, by decide +kernel⟩
set_option maxRecDepth 100000 in
theorem q1676 : Cond.static yL_item ∈ GT := gt 1676 (by decide +kernel) (by decide +kernel)
set_option maxRecDepth 100000 in
theorem q1675 : Cond.methodLink RL 163 yL_item ∈ GT := gt 1675 (by decide +kernel) (by decide +kernel)
theorem dL_isCompleted_304 : decode cL_isCompleted 304 = .ok (.invokestatic 163, 3) := by decide +kernel
theorem dL_isCompleted_307 : decode cL_isCompleted 307 = .ok (.if_icmp .ne 22, 3) := by decide +kernel
theorem dL_isCompleted_310 : decode cL_isCompleted 310 = .ok (.aload_n 0, 1) := by decide +kernel
theorem dL_isCompleted_311 : decode cL_isCompleted 311 = .ok (.bipush 6, 2) := by decide +kernel
theorem dL_isCompleted_313 : decode cL_isCompleted 313 = .ok (.iload 5, 2) := by decide +kernel
theorem dL_isCompleted_315 : decode cL_isCompleted 315 = .ok (.iload 6, 2) := by decide +kernel
theorem dL_isCompleted_317 : decode cL_isCompleted 317 = .ok (.iload 15, 2) := by decide +kernel
theorem dL_isCompleted_319 : decode cL_isCompleted 319 = .ok (.invokestatic 116, 3) := by decide +kernel
theorem dL_isCompleted_322 : decode cL_isCompleted 322 = .ok (.ifCond .ne 7, 3) := by decide +kernel
theorem dL_isCompleted_325 : decode cL_isCompleted 325 = .ok (.iconst 1, 1) := by decide +kernel
theorem dL_isCompleted_326 : decode cL_isCompleted 326 = .ok (.goto 4, 3) := by decide +kernel
theorem dL_isCompleted_221 : decode cL_isCompleted 221 = .ok (.iload 15, 2) := by decide +kernel
theorem dL_isCompleted_223 : decode cL_isCompleted 223 = .ok (.aload_n 1, 1) := by decide +kernel
theorem dL_isCompleted_224 : decode cL_isCompleted 224 = .ok (.iload 16, 2) := by decide +kernel
theorem dL_isCompleted_226 : decode cL_isCompleted 226 = .ok (.iload 4, 2) := by decide +kernel
theorem dL_isCompleted_228 : decode cL_isCompleted 228 = .ok (.invokestatic 138, 3) := by decide +kernel
theorem dL_isCompleted_231 : decode cL_isCompleted 231 = .ok (.ifCond .eq 42, 3) := by decide +kernel
theorem dL_isCompleted_234 : decode cL_isCompleted 234 = .ok (.aload_n 1, 1) := by decide +kernel
theorem dL_isCompleted_235 : decode cL_isCompleted 235 = .ok (.iload 16, 2) := by decide +kernel
theorem dL_isCompleted_237 : decode cL_isCompleted 237 = .ok (.iload 12, 2) := by decide +kernel
set_option maxRecDepth 100000 in
theorem q1668 : Cond.code yL_isAhead cL_isAhead 5 (some FieldType.boolean) ∈ GT := gt 1668 (rfl) (by decide +kernel)
theorem M_L_isAhead : MY yL_isAhead cL_isAhead 5 (some FieldType.boolean) 3 := ⟨q1668, q52, by decide +kernel, by decide +kernel⟩
set_option maxRecDepth 100000 in
theorem q1667 : Cond.static yL_isAhead ∈ GT := gt 1667 (by decide +kernel) (by decide +kernel)
set_option maxRecDepth 100000 in
theorem q1666 : Cond.methodLink RL 153 yL_isAhead ∈ GT := gt 1666 (by decide +kernel) (by decide +kernel)
theorem dL_isCompleted_239 : decode cL_isCompleted 239 = .ok (.invokestatic 153, 3) := by decide +kernel
theorem dL_isCompleted_242 : decode cL_isCompleted 242 = .ok (.ifCond .eq 31, 3) := by decide +kernel
theorem dL_isCompleted_245 : decode cL_isCompleted 245 = .ok (.aload_n 1, 1) := by decide +kernel
theorem dL_isCompleted_246 : decode cL_isCompleted 246 = .ok (.iload 16, 2) := by decide +kernel
theorem dL_isCompleted_248 : decode cL_isCompleted 248 = .ok (.iload 8, 2) := by decide +kernel
theorem dL_isCompleted_250 : decode cL_isCompleted 250 = .ok (.iload 9, 2) := by decide +kernel
set_option maxRecDepth 100000 in
theorem q1671 : Cond.code yL_begins cL_begins 6 (some FieldType.boolean) ∈ GT := gt 1671 (rfl) (by decide +kernel)
theorem M_L_begins : MY yL_begins cL_begins 6 (some FieldType.boolean) 4 := ⟨q1671, q52, by decide +kernel, by decide +kernel⟩
set_option maxRecDepth 100000 in
theorem q1670 : Cond.static yL_begins ∈ GT := gt 1670 (by decide +kernel) (by decide +kernel)
set_option maxRecDepth 100000 in
theorem q1669 : Cond.methodLink RL 156 yL_begins ∈ GT := gt 1669 (by decide +kernel) (by decide +kernel)
theorem dL_isCompleted_252 : decode cL_isCompleted 252 = .ok (.invokestatic 156, 3) := by decide +kernel
theorem dL_isCompleted_255 : decode cL_isCompleted 255 = .ok (.ifCond .eq 18, 3) := by decide +kernel
theorem dL_isCompleted_258 : decode cL_isCompleted 258 = .ok (.aload_n 1, 1) := by decide +kernel
theorem dL_isCompleted_259 : decode cL_isCompleted 259 = .ok (.iload 16, 2) := by decide +kernel
theorem dL_isCompleted_261 : decode cL_isCompleted 261 = .ok (.iload 4, 2) := by decide +kernel
set_option maxRecDepth 100000 in
theorem q1674 : Cond.code yL_isFirstOf cL_isFirstOf 5 (some FieldType.boolean) ∈ GT := gt 1674 (rfl) (by decide +kernel)
theorem M_L_isFirstOf : MY yL_isFirstOf cL_isFirstOf 5 (some FieldType.boolean) 3 := ⟨q1674, q52, by decide +kernel, by decide +kernel⟩
set_option maxRecDepth 100000 in
theorem q1673 : Cond.static yL_isFirstOf ∈ GT := gt 1673 (by decide +kernel) (by decide +kernel)
set_option maxRecDepth 100000 in
theorem q1672 : Cond.methodLink RL 160 yL_isFirstOf ∈ GT := gt 1672 (by decide +kernel) (by decide +kernel)
theorem dL_isCompleted_263 : decode cL_isCompleted 263 = .ok (.invokestatic 160, 3) := by decide +kernel
theorem dL_isCompleted_266 : decode cL_isCompleted 266 = .ok (.ifCond .eq 7, 3) := by decide +kernel
theorem dL_isCompleted_269 : decode cL_isCompleted 269 = .ok (.iconst 1, 1) := by decide +kernel
theorem dL_isCompleted_270 : decode cL_isCompleted 270 = .ok (.goto 4, 3) := by decide +kernel
theorem dL_isCompleted_273 : decode cL_isCompleted 273 = .ok (.iconst 0, 1) := by decide +kernel
theorem dL_isCompleted_274 : decode cL_isCompleted 274 = .ok (.iadd, 1) := by decide +kernel
theorem dL_isCompleted_275 : decode cL_isCompleted 275 = .ok (.istore 15, 2) := by decide +kernel
theorem dL_isCompleted_277 : decode cL_isCompleted 277 = .ok (.iinc 16 1, 3) := by decide +kernel
theorem dL_isCompleted_280 : decode cL_isCompleted 280 = .ok (.goto (-68), 3) := by decide +kernel
theorem dL_isCompleted_329 : decode cL_isCompleted 329 = .ok (.iconst 0, 1) := by decide +kernel
theorem dL_isCompleted_330 : decode cL_isCompleted 330 = .ok (.istore 11, 2) := by decide +kernel
theorem dL_isCompleted_332 : decode cL_isCompleted 332 = .ok (.iinc 10 1, 3) := by decide +kernel
theorem dL_isCompleted_335 : decode cL_isCompleted 335 = .ok (.iinc 12 1, 3) := by decide +kernel
theorem dL_isCompleted_338 : decode cL_isCompleted 338 = .ok (.goto (-292), 3) := by decide +kernel
theorem dL_isCompleted_341 : decode cL_isCompleted 341 = .ok (.iload 11, 2) := by decide +kernel
theorem dL_isCompleted_343 : decode cL_isCompleted 343 = .ok (.ifCond .eq 25, 3) := by decide +kernel
theorem dL_isCompleted_368 : decode cL_isCompleted 368 = .ok (.iconst 0, 1) := by decide +kernel
theorem dL_isCompleted_369 : decode cL_isCompleted 369 = .ok (.ireturn, 1) := by decide +kernel
theorem dL_isCompleted_346 : decode cL_isCompleted 346 = .ok (.aload_n 0, 1) := by decide +kernel
theorem dL_isCompleted_347 : decode cL_isCompleted 347 = .ok (.iload 5, 2) := by decide +kernel
theorem dL_isCompleted_349 : decode cL_isCompleted 349 = .ok (.iload 6, 2) := by decide +kernel
theorem dL_isCompleted_351 : decode cL_isCompleted 351 = .ok (.invokevirtual 87, 3) := by decide +kernel
theorem dL_isCompleted_354 : decode cL_isCompleted 354 = .ok (.bipush 10, 2) := by decide +kernel
theorem dL_isCompleted_356 : decode cL_isCompleted 356 = .ok (.iload 10, 2) := by decide +kernel
theorem dL_isCompleted_358 : decode cL_isCompleted 358 = .ok (.imul, 1) := by decide +kernel
theorem dL_isCompleted_359 : decode cL_isCompleted 359 = .ok (.iconst 1, 1) := by decide +kernel
theorem dL_isCompleted_360 : decode cL_isCompleted 360 = .ok (.iadd, 1) := by decide +kernel
theorem dL_isCompleted_361 : decode cL_isCompleted 361 = .ok (.if_icmp .ne 7, 3) := by decide +kernel
theorem dL_isCompleted_364 : decode cL_isCompleted 364 = .ok (.iconst 1, 1) := by decide +kernel
theorem dL_isCompleted_365 : decode cL_isCompleted 365 = .ok (.goto 4, 3) := by decide +kernel
set_option maxHeartbeats 4000000 in
set_option maxRecDepth 100000 in
theorem w_L_isCompleted_125 {p : Program} {l : Launch} {e : Env} {R : Room} {s : State} {m : MethodId} {args : Array Value} {below : List Frame} {meth : Method} {c : Code} {G : Gt} {ρ0 : Int → Nat} {M0 : Mo} {res : RS} (F : Fx p l R s m args meth c cL_isCompleted 17 RL G M0 10 (some FieldType.boolean)) (hno : ∀ x ∈ c.exceptionTable.toList, False) (hnm : meth.name = yL_isCompleted.name) (k46 : Int → Int → Int → Int → Int → Int → Int → Int → Int → Int → Int → Mo → Option RS) (hk46 : ∀ (x0 x1 x2 x4 x5 x6 x8 x9 x10 x11 x12 : Int) (M : Mo), k46 x0 x1 x2 x4 x5 x6 x8 x9 x10 x11 x12 M = some res → J p l e R s m args below meth c 17 G ρ0 M0 1 res M 46 [(0, (false, x0)), (1, (false, x1)), (2, (true, x2)), (4, (true, x4)), (5, (true, x5)), (6, (true, x6)), (8, (true, x8)), (9, (true, x9)), (10, (true, x10)), (11, (true, x11)), (12, (true, x12))] []) (k91 : Int → Int → Int → Int → Int → Int → Int → Int → Int → Int → Int → Int → Int → Mo → Option RS) (hk91 : ∀ (x0 x1 x2 x4 x5 x6 x8 x9 x10 x11 x12 x13 x14 : Int) (M : Mo), k91 x0 x1 x2 x4 x5 x6 x8 x9 x10 x11 x12 x13 x14 M = some res → J p l e R s m args below meth c 17 G ρ0 M0 1 res M 91 [(0, (false, x0)), (1, (false, x1)), (2, (true, x2)), (4, (true, x4)), (5, (true, x5)), (6, (true, x6)), (8, (true, x8)), (9, (true, x9)), (10, (true, x10)), (11, (true, x11)), (12, (true, x12)), (13, (true, x13)), (14, (true, x14))] []) (x0 x1 x2 x4 x5 x6 x8 x9 x10 x11 x12 x14 y0 : Int) (M : Mo) (h : L_isCompleted_125 k46 k91 x0 x1 x2 x4 x5 x6 x8 x9 x10 x11 x12 x14 y0 M = some res) : J p l e R s m args below meth c 17 G ρ0 M0 1 res M 125 [(0, (false, x0)), (1, (false, x1)), (2, (true, x2)), (4, (true, x4)), (5, (true, x5)), (6, (true, x6)), (8, (true, x8)), (9, (true, x9)), (10, (true, x10)), (11, (true, x11)), (12, (true, x12)), (14, (true, x14))] [(true, y0)] := by
  unfold L_isCompleted_125 at h
  refine j_istore F (lv' := [(13, (true, y0)), (0, (false, x0)), (1, (false, x1)), (2, (true, x2)), (4, (true, x4)), (5, (true, x5)), (6, (true, x6)), (8, (true, x8)), (9, (true, x9)), (10, (true, x10)), (11, (true, x11)), (12, (true, x12)), (14, (true, x14))]) (by decide) rfl dL_isCompleted_125 ?_
  refine j_iinc F 12 (lv' := [(14, (true, (x14 + 1))), (13, (true, y0)), (0, (false, x0)), (1, (false, x1)), (2, (true, x2)), (4, (true, x4)), (5, (true, x5)), (6, (true, x6)), (8, (true, x8)), (9, (true, x9)), (10, (true, x10)), (11, (true, x11)), (12, (true, x12))]) rfl (by decide) rfl dL_isCompleted_127 ?_
  refine j_goto F 91 (by decide) dL_isCompleted_130 ?_
  refine j_sub (lv' := [(0, (false, x0)), (1, (false, x1)), (2, (true, x2)), (4, (true, x4)), (5, (true, x5)), (6, (true, x6)), (8, (true, x8)), (9, (true, x9)), (10, (true, x10)), (11, (true, x11)), (12, (true, x12)), (13, (true, y0)), (14, (true, (x14 + 1)))]) [2, 3, 4, 5, 6, 7, 8, 9, 10, 11, 12, 1, 0] rfl ?_
  exact hk91 x0 x1 x2 x4 x5 x6 x8 x9 x10 x11 x12 y0 (x14 + 1) M h
set_option maxHeartbeats 4000000 in
set_option maxRecDepth 100000 in
theorem w_L_isCompleted_124 {p : Program} {l : Launch} {e : Env} {R : Room} {s : State} {m : MethodId} {args : Array Value} {below : List Frame} {meth : Method} {c : Code} {G : Gt} {ρ0 : Int → Nat} {M0 : Mo} {res : RS} (F : Fx p l R s m args meth c cL_isCompleted 17 RL G M0 10 (some FieldType.boolean)) (hno : ∀ x ∈ c.exceptionTable.toList, False) (hnm : meth.name = yL_isCompleted.name) (k46 : Int → Int → Int → Int → Int → Int → Int → Int → Int → Int → Int → Mo → Option RS) (hk46 : ∀ (x0 x1 x2 x4 x5 x6 x8 x9 x10 x11 x12 : Int) (M : Mo), k46 x0 x1 x2 x4 x5 x6 x8 x9 x10 x11 x12 M = some res → J p l e R s m args below meth c 17 G ρ0 M0 1 res M 46 [(0, (false, x0)), (1, (false, x1)), (2, (true, x2)), (4, (true, x4)), (5, (true, x5)), (6, (true, x6)), (8, (true, x8)), (9, (true, x9)), (10, (true, x10)), (11, (true, x11)), (12, (true, x12))] []) (k91 : Int → Int → Int → Int → Int → Int → Int → Int → Int → Int → Int → Int → Int → Mo → Option RS) (hk91 : ∀ (x0 x1 x2 x4 x5 x6 x8 x9 x10 x11 x12 x13 x14 : Int) (M : Mo), k91 x0 x1 x2 x4 x5 x6 x8 x9 x10 x11 x12 x13 x14 M = some res → J p l e R s m args below meth c 17 G ρ0 M0 1 res M 91 [(0, (false, x0)), (1, (false, x1)), (2, (true, x2)), (4, (true, x4)), (5, (true, x5)), (6, (true, x6)), (8, (true, x8)), (9, (true, x9)), (10, (true, x10)), (11, (true, x11)), (12, (true, x12)), (13, (true, x13)), (14, (true, x14))] []) (x0 x1 x2 x4 x5 x6 x8 x9 x10 x11 x12 x14 : Int) (M : Mo) (h : L_isCompleted_124 k46 k91 x0 x1 x2 x4 x5 x6 x8 x9 x10 x11 x12 x14 M = some res) : J p l e R s m args below meth c 17 G ρ0 M0 1 res M 124 [(0, (false, x0)), (1, (false, x1)), (2, (true, x2)), (4, (true, x4)), (5, (true, x5)), (6, (true, x6)), (8, (true, x8)), (9, (true, x9)), (10, (true, x10)), (11, (true, x11)), (12, (true, x12)), (14, (true, x14))] [] := by
  unfold L_isCompleted_124 at h
  refine j_iconst F dL_isCompleted_124 ?_
  refine j_sub (lv' := [(0, (false, x0)), (1, (false, x1)), (2, (true, x2)), (4, (true, x4)), (5, (true, x5)), (6, (true, x6)), (8, (true, x8)), (9, (true, x9)), (10, (true, x10)), (11, (true, x11)), (12, (true, x12)), (14, (true, x14))]) [0, 1, 2, 3, 4, 5, 6, 7, 8, 9, 10, 11] rfl ?_
  exact w_L_isCompleted_125 F hno hnm k46 hk46 k91 hk91 x0 x1 x2 x4 x5 x6 x8 x9 x10 x11 x12 x14 0 M h
set_option maxHeartbeats 4000000 in
set_option maxRecDepth 100000 in
theorem w_L_isCompleted_198 {p : Program} {l : Launch} {e : Env} {R : Room} {s : State} {m : MethodId} {args : Array Value} {below : List Frame} {meth : Method} {c : Code} {G : Gt} {ρ0 : Int → Nat} {M0 : Mo} {res : RS} (F : Fx p l R s m args meth c cL_isCompleted 17 RL G M0 10 (some FieldType.boolean)) (hno : ∀ x ∈ c.exceptionTable.toList, False) (hnm : meth.name = yL_isCompleted.name) (k46 : Int → Int → Int → Int → Int → Int → Int → Int → Int → Int → Int → Mo → Option RS) (hk46 : ∀ (x0 x1 x2 x4 x5 x6 x8 x9 x10 x11 x12 : Int) (M : Mo), k46 x0 x1 x2 x4 x5 x6 x8 x9 x10 x11 x12 M = some res → J p l e R s m args below meth c 17 G ρ0 M0 1 res M 46 [(0, (false, x0)), (1, (false, x1)), (2, (true, x2)), (4, (true, x4)), (5, (true, x5)), (6, (true, x6)), (8, (true, x8)), (9, (true, x9)), (10, (true, x10)), (11, (true, x11)), (12, (true, x12))] []) (k143 : Int → Int → Int → Int → Int → Int → Int → Int → Int → Int → Int → Int → Int → Int → Int → Mo → Option RS) (hk143 : ∀ (x0 x1 x2 x4 x5 x6 x8 x9 x10 x11 x12 x13 x14 x15 x16 : Int) (M : Mo), k143 x0 x1 x2 x4 x5 x6 x8 x9 x10 x11 x12 x13 x14 x15 x16 M = some res → J p l e R s m args below meth c 17 G ρ0 M0 1 res M 143 [(0, (false, x0)), (1, (false, x1)), (2, (true, x2)), (4, (true, x4)), (5, (true, x5)), (6, (true, x6)), (8, (true, x8)), (9, (true, x9)), (10, (true, x10)), (11, (true, x11)), (12, (true, x12)), (13, (true, x13)), (14, (true, x14)), (15, (true, x15)), (16, (true, x16))] []) (x0 x1 x2 x4 x5 x6 x8 x9 x10 x11 x12 x13 x14 x15 x16 : Int) (M : Mo) (h : L_isCompleted_198 k46 k143 x0 x1 x2 x4 x5 x6 x8 x9 x10 x11 x12 x13 x14 x15 x16 M = some res) : J p l e R s m args below meth c 17 G ρ0 M0 1 res M 198 [(0, (false, x0)), (1, (false, x1)), (2, (true, x2)), (4, (true, x4)), (5, (true, x5)), (6, (true, x6)), (8, (true, x8)), (9, (true, x9)), (10, (true, x10)), (11, (true, x11)), (12, (true, x12)), (13, (true, x13)), (14, (true, x14)), (15, (true, x15)), (16, (true, x16))] [] := by
  unfold L_isCompleted_198 at h
  refine j_iinc F 14 (lv' := [(16, (true, (x16 + 1))), (0, (false, x0)), (1, (false, x1)), (2, (true, x2)), (4, (true, x4)), (5, (true, x5)), (6, (true, x6)), (8, (true, x8)), (9, (true, x9)), (10, (true, x10)), (11, (true, x11)), (12, (true, x12)), (13, (true, x13)), (14, (true, x14)), (15, (true, x15))]) rfl (by decide) rfl dL_isCompleted_198 ?_
  refine j_goto F 143 (by decide) dL_isCompleted_201 ?_
  refine j_sub (lv' := [(0, (false, x0)), (1, (false, x1)), (2, (true, x2)), (4, (true, x4)), (5, (true, x5)), (6, (true, x6)), (8, (true, x8)), (9, (true, x9)), (10, (true, x10)), (11, (true, x11)), (12, (true, x12)), (13, (true, x13)), (14, (true, x14)), (15, (true, x15)), (16, (true, (x16 + 1)))]) [1, 2, 3, 4, 5, 6, 7, 8, 9, 10, 11, 12, 13, 14, 0] rfl ?_
  exact hk143 x0 x1 x2 x4 x5 x6 x8 x9 x10 x11 x12 x13 x14 x15 (x16 + 1) M h
set_option maxHeartbeats 4000000 in
set_option maxRecDepth 100000 in
theorem w_L_isCompleted_196 {p : Program} {l : Launch} {e : Env} {R : Room} {s : State} {m : MethodId} {args : Array Value} {below : List Frame} {meth : Method} {c : Code} {G : Gt} {ρ0 : Int → Nat} {M0 : Mo} {res : RS} (F : Fx p l R s m args meth c cL_isCompleted 17 RL G M0 10 (some FieldType.boolean)) (hno : ∀ x ∈ c.exceptionTable.toList, False) (hnm : meth.name = yL_isCompleted.name) (k46 : Int → Int → Int → Int → Int → Int → Int → Int → Int → Int → Int → Mo → Option RS) (hk46 : ∀ (x0 x1 x2 x4 x5 x6 x8 x9 x10 x11 x12 : Int) (M : Mo), k46 x0 x1 x2 x4 x5 x6 x8 x9 x10 x11 x12 M = some res → J p l e R s m args below meth c 17 G ρ0 M0 1 res M 46 [(0, (false, x0)), (1, (false, x1)), (2, (true, x2)), (4, (true, x4)), (5, (true, x5)), (6, (true, x6)), (8, (true, x8)), (9, (true, x9)), (10, (true, x10)), (11, (true, x11)), (12, (true, x12))] []) (k143 : Int → Int → Int → Int → Int → Int → Int → Int → Int → Int → Int → Int → Int → Int → Int → Mo → Option RS) (hk143 : ∀ (x0 x1 x2 x4 x5 x6 x8 x9 x10 x11 x12 x13 x14 x15 x16 : Int) (M : Mo), k143 x0 x1 x2 x4 x5 x6 x8 x9 x10 x11 x12 x13 x14 x15 x16 M = some res → J p l e R s m args below meth c 17 G ρ0 M0 1 res M 143 [(0, (false, x0)), (1, (false, x1)), (2, (true, x2)), (4, (true, x4)), (5, (true, x5)), (6, (true, x6)), (8, (true, x8)), (9, (true, x9)), (10, (true, x10)), (11, (true, x11)), (12, (true, x12)), (13, (true, x13)), (14, (true, x14)), (15, (true, x15)), (16, (true, x16))] []) (x0 x1 x2 x4 x5 x6 x8 x9 x10 x11 x12 x13 x15 x16 y0 : Int) (M : Mo) (h : L_isCompleted_196 k46 k143 x0 x1 x2 x4 x5 x6 x8 x9 x10 x11 x12 x13 x15 x16 y0 M = some res) : J p l e R s m args below meth c 17 G ρ0 M0 1 res M 196 [(0, (false, x0)), (1, (false, x1)), (2, (true, x2)), (4, (true, x4)), (5, (true, x5)), (6, (true, x6)), (8, (true, x8)), (9, (true, x9)), (10, (true, x10)), (11, (true, x11)), (12, (true, x12)), (13, (true, x13)), (15, (true, x15)), (16, (true, x16))] [(true, y0)] := by
  unfold L_isCompleted_196 at h
  refine j_istore F (lv' := [(14, (true, y0)), (0, (false, x0)), (1, (false, x1)), (2, (true, x2)), (4, (true, x4)), (5, (true, x5)), (6, (true, x6)), (8, (true, x8)), (9, (true, x9)), (10, (true, x10)), (11, (true, x11)), (12, (true, x12)), (13, (true, x13)), (15, (true, x15)), (16, (true, x16))]) (by decide) rfl dL_isCompleted_196 ?_
  refine j_sub (lv' := [(0, (false, x0)), (1, (false, x1)), (2, (true, x2)), (4, (true, x4)), (5, (true, x5)), (6, (true, x6)), (8, (true, x8)), (9, (true, x9)), (10, (true, x10)), (11, (true, x11)), (12, (true, x12)), (13, (true, x13)), (14, (true, y0)), (15, (true, x15)), (16, (true, x16))]) [1, 2, 3, 4, 5, 6, 7, 8, 9, 10, 11, 12, 0, 13, 14] rfl ?_
  exact w_L_isCompleted_198 F hno hnm k46 hk46 k143 hk143 x0 x1 x2 x4 x5 x6 x8 x9 x10 x11 x12 x13 y0 x15 x16 M h
set_option maxHeartbeats 4000000 in
set_option maxRecDepth 100000 in
theorem w_L_isCompleted_191 {p : Program} {l : Launch} {e : Env} {R : Room} {s : State} {m : MethodId} {args : Array Value} {below : List Frame} {meth : Method} {c : Code} {G : Gt} {ρ0 : Int → Nat} {M0 : Mo} {res : RS} (F : Fx p l R s m args meth c cL_isCompleted 17 RL G M0 10 (some FieldType.boolean)) (hno : ∀ x ∈ c.exceptionTable.toList, False) (hnm : meth.name = yL_isCompleted.name) (k46 : Int → Int → Int → Int → Int → Int → Int → Int → Int → Int → Int → Mo → Option RS) (hk46 : ∀ (x0 x1 x2 x4 x5 x6 x8 x9 x10 x11 x12 : Int) (M : Mo), k46 x0 x1 x2 x4 x5 x6 x8 x9 x10 x11 x12 M = some res → J p l e R s m args below meth c 17 G ρ0 M0 1 res M 46 [(0, (false, x0)), (1, (false, x1)), (2, (true, x2)), (4, (true, x4)), (5, (true, x5)), (6, (true, x6)), (8, (true, x8)), (9, (true, x9)), (10, (true, x10)), (11, (true, x11)), (12, (true, x12))] []) (k143 : Int → Int → Int → Int → Int → Int → Int → Int → Int → Int → Int → Int → Int → Int → Int → Mo → Option RS) (hk143 : ∀ (x0 x1 x2 x4 x5 x6 x8 x9 x10 x11 x12 x13 x14 x15 x16 : Int) (M : Mo), k143 x0 x1 x2 x4 x5 x6 x8 x9 x10 x11 x12 x13 x14 x15 x16 M = some res → J p l e R s m args below meth c 17 G ρ0 M0 1 res M 143 [(0, (false, x0)), (1, (false, x1)), (2, (true, x2)), (4, (true, x4)), (5, (true, x5)), (6, (true, x6)), (8, (true, x8)), (9, (true, x9)), (10, (true, x10)), (11, (true, x11)), (12, (true, x12)), (13, (true, x13)), (14, (true, x14)), (15, (true, x15)), (16, (true, x16))] []) (x0 x1 x2 x4 x5 x6 x8 x9 x10 x11 x12 x13 x15 x16 : Int) (M : Mo) (h : L_isCompleted_191 k46 k143 x0 x1 x2 x4 x5 x6 x8 x9 x10 x11 x12 x13 x15 x16 M = some res) : J p l e R s m args below meth c 17 G ρ0 M0 1 res M 191 [(0, (false, x0)), (1, (false, x1)), (2, (true, x2)), (4, (true, x4)), (5, (true, x5)), (6, (true, x6)), (8, (true, x8)), (9, (true, x9)), (10, (true, x10)), (11, (true, x11)), (12, (true, x12)), (13, (true, x13)), (15, (true, x15)), (16, (true, x16))] [] := by
  unfold L_isCompleted_191 at h
  refine j_iconst F dL_isCompleted_191 ?_
  refine j_goto F 196 (by decide) dL_isCompleted_192 ?_
  refine j_sub (lv' := [(0, (false, x0)), (1, (false, x1)), (2, (true, x2)), (4, (true, x4)), (5, (true, x5)), (6, (true, x6)), (8, (true, x8)), (9, (true, x9)), (10, (true, x10)), (11, (true, x11)), (12, (true, x12)), (13, (true, x13)), (15, (true, x15)), (16, (true, x16))]) [0, 1, 2, 3, 4, 5, 6, 7, 8, 9, 10, 11, 12, 13] rfl ?_
  exact w_L_isCompleted_196 F hno hnm k46 hk46 k143 hk143 x0 x1 x2 x4 x5 x6 x8 x9 x10 x11 x12 x13 x15 x16 1 M h
set_option maxHeartbeats 4000000 in
set_option maxRecDepth 100000 in
theorem w_L_isCompleted_195 {p : Program} {l : Launch} {e : Env} {R : Room} {s : State} {m : MethodId} {args : Array Value} {below : List Frame} {meth : Method} {c : Code} {G : Gt} {ρ0 : Int → Nat} {M0 : Mo} {res : RS} (F : Fx p l R s m args meth c cL_isCompleted 17 RL G M0 10 (some FieldType.boolean)) (hno : ∀ x ∈ c.exceptionTable.toList, False) (hnm : meth.name = yL_isCompleted.name) (k46 : Int → Int → Int → Int → Int → Int → Int → Int → Int → Int → Int → Mo → Option RS) (hk46 : ∀ (x0 x1 x2 x4 x5 x6 x8 x9 x10 x11 x12 : Int) (M : Mo), k46 x0 x1 x2 x4 x5 x6 x8 x9 x10 x11 x12 M = some res → J p l e R s m args below meth c 17 G ρ0 M0 1 res M 46 [(0, (false, x0)), (1, (false, x1)), (2, (true, x2)), (4, (true, x4)), (5, (true, x5)), (6, (true, x6)), (8, (true, x8)), (9, (true, x9)), (10, (true, x10)), (11, (true, x11)), (12, (true, x12))] []) (k143 : Int → Int → Int → Int → Int → Int → Int → Int → Int → Int → Int → Int → Int → Int → Int → Mo → Option RS) (hk143 : ∀ (x0 x1 x2 x4 x5 x6 x8 x9 x10 x11 x12 x13 x14 x15 x16 : Int) (M : Mo), k143 x0 x1 x2 x4 x5 x6 x8 x9 x10 x11 x12 x13 x14 x15 x16 M = some res → J p l e R s m args below meth c 17 G ρ0 M0 1 res M 143 [(0, (false, x0)), (1, (false, x1)), (2, (true, x2)), (4, (true, x4)), (5, (true, x5)), (6, (true, x6)), (8, (true, x8)), (9, (true, x9)), (10, (true, x10)), (11, (true, x11)), (12, (true, x12)), (13, (true, x13)), (14, (true, x14)), (15, (true, x15)), (16, (true, x16))] []) (x0 x1 x2 x4 x5 x6 x8 x9 x10 x11 x12 x13 x15 x16 : Int) (M : Mo) (h : L_isCompleted_195 k46 k143 x0 x1 x2 x4 x5 x6 x8 x9 x10 x11 x12 x13 x15 x16 M = some res) : J p l e R s m args below meth c 17 G ρ0 M0 1 res M 195 [(0, (false, x0)), (1, (false, x1)), (2, (true, x2)), (4, (true, x4)), (5, (true, x5)), (6, (true, x6)), (8, (true, x8)), (9, (true, x9)), (10, (true, x10)), (11, (true, x11)), (12, (true, x12)), (13, (true, x13)), (15, (true, x15)), (16, (true, x16))] [] := by
  unfold L_isCompleted_195 at h
  refine j_iconst F dL_isCompleted_195 ?_
  refine j_sub (lv' := [(0, (false, x0)), (1, (false, x1)), (2, (true, x2)), (4, (true, x4)), (5, (true, x5)), (6, (true, x6)), (8, (true, x8)), (9, (true, x9)), (10, (true, x10)), (11, (true, x11)), (12, (true, x12)), (13, (true, x13)), (15, (true, x15)), (16, (true, x16))]) [0, 1, 2, 3, 4, 5, 6, 7, 8, 9, 10, 11, 12, 13] rfl ?_
  exact w_L_isCompleted_196 F hno hnm k46 hk46 k143 hk143 x0 x1 x2 x4 x5 x6 x8 x9 x10 x11 x12 x13 x15 x16 0 M h
set_option maxHeartbeats 4000000 in
set_option maxRecDepth 100000 in
theorem w_L_isCompleted_274 {p : Program} {l : Launch} {e : Env} {R : Room} {s : State} {m : MethodId} {args : Array Value} {below : List Frame} {meth : Method} {c : Code} {G : Gt} {ρ0 : Int → Nat} {M0 : Mo} {res : RS} (F : Fx p l R s m args meth c cL_isCompleted 17 RL G M0 10 (some FieldType.boolean)) (hno : ∀ x ∈ c.exceptionTable.toList, False) (hnm : meth.name = yL_isCompleted.name) (k46 : Int → Int → Int → Int → Int → Int → Int → Int → Int → Int → Int → Mo → Option RS) (hk46 : ∀ (x0 x1 x2 x4 x5 x6 x8 x9 x10 x11 x12 : Int) (M : Mo), k46 x0 x1 x2 x4 x5 x6 x8 x9 x10 x11 x12 M = some res → J p l e R s m args below meth c 17 G ρ0 M0 1 res M 46 [(0, (false, x0)), (1, (false, x1)), (2, (true, x2)), (4, (true, x4)), (5, (true, x5)), (6, (true, x6)), (8, (true, x8)), (9, (true, x9)), (10, (true, x10)), (11, (true, x11)), (12, (true, x12))] []) (k212 : Int → Int → Int → Int → Int → Int → Int → Int → Int → Int → Int → Int → Mo → Option RS) (hk212 : ∀ (x0 x1 x2 x4 x5 x6 x8 x9 x10 x12 x15 x16 : Int) (M : Mo), k212 x0 x1 x2 x4 x5 x6 x8 x9 x10 x12 x15 x16 M = some res → J p l e R s m args below meth c 17 G ρ0 M0 1 res M 212 [(0, (false, x0)), (1, (false, x1)), (2, (true, x2)), (4, (true, x4)), (5, (true, x5)), (6, (true, x6)), (8, (true, x8)), (9, (true, x9)), (10, (true, x10)), (12, (true, x12)), (15, (true, x15)), (16, (true, x16))] []) (x0 x1 x2 x4 x5 x6 x8 x9 x10 x12 x16 y0 y1 : Int) (M : Mo) (h : L_isCompleted_274 k46 k212 x0 x1 x2 x4 x5 x6 x8 x9 x10 x12 x16 y0 y1 M = some res) : J p l e R s m args below meth c 17 G ρ0 M0 1 res M 274 [(0, (false, x0)), (1, (false, x1)), (2, (true, x2)), (4, (true, x4)), (5, (true, x5)), (6, (true, x6)), (8, (true, x8)), (9, (true, x9)), (10, (true, x10)), (12, (true, x12)), (16, (true, x16))] [(true, y1), (true, y0)] := by
  unfold L_isCompleted_274 at h
  refine j_iadd F dL_isCompleted_274 ?_
  refine j_istore F (lv' := [(15, (true, (y0 + y1))), (0, (false, x0)), (1, (false, x1)), (2, (true, x2)), (4, (true, x4)), (5, (true, x5)), (6, (true, x6)), (8, (true, x8)), (9, (true, x9)), (10, (true, x10)), (12, (true, x12)), (16, (true, x16))]) (by decide) rfl dL_isCompleted_275 ?_
  refine j_iinc F 11 (lv' := [(16, (true, (x16 + 1))), (15, (true, (y0 + y1))), (0, (false, x0)), (1, (false, x1)), (2, (true, x2)), (4, (true, x4)), (5, (true, x5)), (6, (true, x6)), (8, (true, x8)), (9, (true, x9)), (10, (true, x10)), (12, (true, x12))]) rfl (by decide) rfl dL_isCompleted_277 ?_
  refine j_goto F 212 (by decide) dL_isCompleted_280 ?_
  refine j_sub (lv' := [(0, (false, x0)), (1, (false, x1)), (2, (true, x2)), (4, (true, x4)), (5, (true, x5)), (6, (true, x6)), (8, (true, x8)), (9, (true, x9)), (10, (true, x10)), (12, (true, x12)), (15, (true, (y0 + y1))), (16, (true, (x16 + 1)))]) [2, 3, 4, 5, 6, 7, 8, 9, 10, 11, 1, 0] rfl ?_
  exact hk212 x0 x1 x2 x4 x5 x6 x8 x9 x10 x12 (y0 + y1) (x16 + 1) M h
set_option maxHeartbeats 4000000 in
set_option maxRecDepth 100000 in
theorem w_L_isCompleted_273 {p : Program} {l : Launch} {e : Env} {R : Room} {s : State} {m : MethodId} {args : Array Value} {below : List Frame} {meth : Method} {c : Code} {G : Gt} {ρ0 : Int → Nat} {M0 : Mo} {res : RS} (F : Fx p l R s m args meth c cL_isCompleted 17 RL G M0 10 (some FieldType.boolean)) (hno : ∀ x ∈ c.exceptionTable.toList, False) (hnm : meth.name = yL_isCompleted.name) (k46 : Int → Int → Int → Int → Int → Int → Int → Int → Int → Int → Int → Mo → Option RS) (hk46 : ∀ (x0 x1 x2 x4 x5 x6 x8 x9 x10 x11 x12 : Int) (M : Mo), k46 x0 x1 x2 x4 x5 x6 x8 x9 x10 x11 x12 M = some res → J p l e R s m args below meth c 17 G ρ0 M0 1 res M 46 [(0, (false, x0)), (1, (false, x1)), (2, (true, x2)), (4, (true, x4)), (5, (true, x5)), (6, (true, x6)), (8, (true, x8)), (9, (true, x9)), (10, (true, x10)), (11, (true, x11)), (12, (true, x12))] []) (k212 : Int → Int → Int → Int → Int → Int → Int → Int → Int → Int → Int → Int → Mo → Option RS) (hk212 : ∀ (x0 x1 x2 x4 x5 x6 x8 x9 x10 x12 x15 x16 : Int) (M : Mo), k212 x0 x1 x2 x4 x5 x6 x8 x9 x10 x12 x15 x16 M = some res → J p l e R s m args below meth c 17 G ρ0 M0 1 res M 212 [(0, (false, x0)), (1, (false, x1)), (2, (true, x2)), (4, (true, x4)), (5, (true, x5)), (6, (true, x6)), (8, (true, x8)), (9, (true, x9)), (10, (true, x10)), (12, (true, x12)), (15, (true, x15)), (16, (true, x16))] []) (x0 x1 x2 x4 x5 x6 x8 x9 x10 x12 x16 y0 : Int) (M : Mo) (h : L_isCompleted_273 k46 k212 x0 x1 x2 x4 x5 x6 x8 x9 x10 x12 x16 y0 M = some res) : J p l e R s m args below meth c 17 G ρ0 M0 1 res M 273 [(0, (false, x0)), (1, (false, x1)), (2, (true, x2)), (4, (true, x4)), (5, (true, x5)), (6, (true, x6)), (8, (true, x8)), (9, (true, x9)), (10, (true, x10)), (12, (true, x12)), (16, (true, x16))] [(true, y0)] := by
  unfold L_isCompleted_273 at h
  refine j_iconst F dL_isCompleted_273 ?_
  refine j_sub (lv' := [(0, (false, x0)), (1, (false, x1)), (2, (true, x2)), (4, (true, x4)), (5, (true, x5)), (6, (true, x6)), (8, (true, x8)), (9, (true, x9)), (10, (true, x10)), (12, (true, x12)), (16, (true, x16))]) [0, 1, 2, 3, 4, 5, 6, 7, 8, 9, 10] rfl ?_
  exact w_L_isCompleted_274 F hno hnm k46 hk46 k212 hk212 x0 x1 x2 x4 x5 x6 x8 x9 x10 x12 x16 y0 0 M h
set_option maxHeartbeats 4000000 in
set_option maxRecDepth 100000 in
theorem w_L_isCompleted_335 {p : Program} {l : Launch} {e : Env} {R : Room} {s : State} {m : MethodId} {args : Array Value} {below : List Frame} {meth : Method} {c : Code} {G : Gt} {ρ0 : Int → Nat} {M0 : Mo} {res : RS} (F : Fx p l R s m args meth c cL_isCompleted 17 RL G M0 10 (some FieldType.boolean)) (hno : ∀ x ∈ c.exceptionTable.toList, False) (hnm : meth.name = yL_isCompleted.name) (k46 : Int → Int → Int → Int → Int → Int → Int → Int → Int → Int → Int → Mo → Option RS) (hk46 : ∀ (x0 x1 x2 x4 x5 x6 x8 x9 x10 x11 x12 : Int) (M : Mo), k46 x0 x1 x2 x4 x5 x6 x8 x9 x10 x11 x12 M = some res → J p l e R s m args below meth c 17 G ρ0 M0 1 res M 46 [(0, (false, x0)), (1, (false, x1)), (2, (true, x2)), (4, (true, x4)), (5, (true, x5)), (6, (true, x6)), (8, (true, x8)), (9, (true, x9)), (10, (true, x10)), (11, (true, x11)), (12, (true, x12))] []) (x0 x1 x2 x4 x5 x6 x8 x9 x10 x11 x12 : Int) (M : Mo) (h : L_isCompleted_335 k46 x0 x1 x2 x4 x5 x6 x8 x9 x10 x11 x12 M = some res) : J p l e R s m args below meth c 17 G ρ0 M0 1 res M 335 [(0, (false, x0)), (1, (false, x1)), (2, (true, x2)), (4, (true, x4)), (5, (true, x5)), (6, (true, x6)), (8, (true, x8)), (9, (true, x9)), (10, (true, x10)), (11, (true, x11)), (12, (true, x12))] [] := by
  unfold L_isCompleted_335 at h
  refine j_iinc F 10 (lv' := [(12, (true, (x12 + 1))), (0, (false, x0)), (1, (false, x1)), (2, (true, x2)), (4, (true, x4)), (5, (true, x5)), (6, (true, x6)), (8, (true, x8)), (9, (true, x9)), (10, (true, x10)), (11, (true, x11))]) rfl (by decide) rfl dL_isCompleted_335 ?_
  refine j_goto F 46 (by decide) dL_isCompleted_338 ?_
  refine j_sub (lv' := [(0, (false, x0)), (1, (false, x1)), (2, (true, x2)), (4, (true, x4)), (5, (true, x5)), (6, (true, x6)), (8, (true, x8)), (9, (true, x9)), (10, (true, x10)), (11, (true, x11)), (12, (true, (x12 + 1)))]) [1, 2, 3, 4, 5, 6, 7, 8, 9, 10, 0] rfl ?_
  exact hk46 x0 x1 x2 x4 x5 x6 x8 x9 x10 x11 (x12 + 1) M h
set_option maxHeartbeats 4000000 in
set_option maxRecDepth 100000 in
theorem w_L_isCompleted_330 {p : Program} {l : Launch} {e : Env} {R : Room} {s : State} {m : MethodId} {args : Array Value} {below : List Frame} {meth : Method} {c : Code} {G : Gt} {ρ0 : Int → Nat} {M0 : Mo} {res : RS} (F : Fx p l R s m args meth c cL_isCompleted 17 RL G M0 10 (some FieldType.boolean)) (hno : ∀ x ∈ c.exceptionTable.toList, False) (hnm : meth.name = yL_isCompleted.name) (k46 : Int → Int → Int → Int → Int → Int → Int → Int → Int → Int → Int → Mo → Option RS) (hk46 : ∀ (x0 x1 x2 x4 x5 x6 x8 x9 x10 x11 x12 : Int) (M : Mo), k46 x0 x1 x2 x4 x5 x6 x8 x9 x10 x11 x12 M = some res → J p l e R s m args below meth c 17 G ρ0 M0 1 res M 46 [(0, (false, x0)), (1, (false, x1)), (2, (true, x2)), (4, (true, x4)), (5, (true, x5)), (6, (true, x6)), (8, (true, x8)), (9, (true, x9)), (10, (true, x10)), (11, (true, x11)), (12, (true, x12))] []) (x0 x1 x2 x4 x5 x6 x8 x9 x10 x12 y0 : Int) (M : Mo) (h : L_isCompleted_330 k46 x0 x1 x2 x4 x5 x6 x8 x9 x10 x12 y0 M = some res) : J p l e R s m args below meth c 17 G ρ0 M0 1 res M 330 [(0, (false, x0)), (1, (false, x1)), (2, (true, x2)), (4, (true, x4)), (5, (true, x5)), (6, (true, x6)), (8, (true, x8)), (9, (true, x9)), (10, (true, x10)), (12, (true, x12))] [(true, y0)] := by
  unfold L_isCompleted_330 at h
  refine j_istore F (lv' := [(11, (true, y0)), (0, (false, x0)), (1, (false, x1)), (2, (true, x2)), (4, (true, x4)), (5, (true, x5)), (6, (true, x6)), (8, (true, x8)), (9, (true, x9)), (10, (true, x10)), (12, (true, x12))]) (by decide) rfl dL_isCompleted_330 ?_
  refine j_iinc F 9 (lv' := [(10, (true, (x10 + 1))), (11, (true, y0)), (0, (false, x0)), (1, (false, x1)), (2, (true, x2)), (4, (true, x4)), (5, (true, x5)), (6, (true, x6)), (8, (true, x8)), (9, (true, x9)), (12, (true, x12))]) rfl (by decide) rfl dL_isCompleted_332 ?_
  refine j_sub (lv' := [(0, (false, x0)), (1, (false, x1)), (2, (true, x2)), (4, (true, x4)), (5, (true, x5)), (6, (true, x6)), (8, (true, x8)), (9, (true, x9)), (10, (true, (x10 + 1))), (11, (true, y0)), (12, (true, x12))]) [2, 3, 4, 5, 6, 7, 8, 9, 0, 1, 10] rfl ?_
  exact w_L_isCompleted_335 F hno hnm k46 hk46 x0 x1 x2 x4 x5 x6 x8 x9 (x10 + 1) y0 x12 M h
set_option maxHeartbeats 4000000 in
set_option maxRecDepth 100000 in
theorem w_L_isCompleted_329 {p : Program} {l : Launch} {e : Env} {R : Room} {s : State} {m : MethodId} {args : Array Value} {below : List Frame} {meth : Method} {c : Code} {G : Gt} {ρ0 : Int → Nat} {M0 : Mo} {res : RS} (F : Fx p l R s m args meth c cL_isCompleted 17 RL G M0 10 (some FieldType.boolean)) (hno : ∀ x ∈ c.exceptionTable.toList, False) (hnm : meth.name = yL_isCompleted.name) (k46 : Int → Int → Int → Int → Int → Int → Int → Int → Int → Int → Int → Mo → Option RS) (hk46 : ∀ (x0 x1 x2 x4 x5 x6 x8 x9 x10 x11 x12 : Int) (M : Mo), k46 x0 x1 x2 x4 x5 x6 x8 x9 x10 x11 x12 M = some res → J p l e R s m args below meth c 17 G ρ0 M0 1 res M 46 [(0, (false, x0)), (1, (false, x1)), (2, (true, x2)), (4, (true, x4)), (5, (true, x5)), (6, (true, x6)), (8, (true, x8)), (9, (true, x9)), (10, (true, x10)), (11, (true, x11)), (12, (true, x12))] []) (x0 x1 x2 x4 x5 x6 x8 x9 x10 x12 : Int) (M : Mo) (h : L_isCompleted_329 k46 x0 x1 x2 x4 x5 x6 x8 x9 x10 x12 M = some res) : J p l e R s m args below meth c 17 G ρ0 M0 1 res M 329 [(0, (false, x0)), (1, (false, x1)), (2, (true, x2)), (4, (true, x4)), (5, (true, x5)), (6, (true, x6)), (8, (true, x8)), (9, (true, x9)), (10, (true, x10)), (12, (true, x12))] [] := by
  unfold L_isCompleted_329 at h
  refine j_iconst F dL_isCompleted_329 ?_
  refine j_sub (lv' := [(0, (false, x0)), (1, (false, x1)), (2, (true, x2)), (4, (true, x4)), (5, (true, x5)), (6, (true, x6)), (8, (true, x8)), (9, (true, x9)), (10, (true, x10)), (12, (true, x12))]) [0, 1, 2, 3, 4, 5, 6, 7, 8, 9] rfl ?_
  exact w_L_isCompleted_330 F hno hnm k46 hk46 x0 x1 x2 x4 x5 x6 x8 x9 x10 x12 0 M h
set_option maxHeartbeats 4000000 in
set_option maxRecDepth 100000 in
theorem w_L_isCompleted_212 {p : Program} {l : Launch} {e : Env} {R : Room} {s : State} {m : MethodId} {args : Array Value} {below : List Frame} {meth : Method} {c : Code} {G : Gt} {ρ0 : Int → Nat} {M0 : Mo} {res : RS} (F : Fx p l R s m args meth c cL_isCompleted 17 RL G M0 10 (some FieldType.boolean)) (hno : ∀ x ∈ c.exceptionTable.toList, False) (hnm : meth.name = yL_isCompleted.name) (k46 : Int → Int → Int → Int → Int → Int → Int → Int → Int → Int → Int → Mo → Option RS) (hk46 : ∀ (x0 x1 x2 x4 x5 x6 x8 x9 x10 x11 x12 : Int) (M : Mo), k46 x0 x1 x2 x4 x5 x6 x8 x9 x10 x11 x12 M = some res → J p l e R s m args below meth c 17 G ρ0 M0 1 res M 46 [(0, (false, x0)), (1, (false, x1)), (2, (true, x2)), (4, (true, x4)), (5, (true, x5)), (6, (true, x6)), (8, (true, x8)), (9, (true, x9)), (10, (true, x10)), (11, (true, x11)), (12, (true, x12))] []) (n : Nat) : ∀ (x0 x1 x2 x4 x5 x6 x8 x9 x10 x12 x15 x16 : Int) (M : Mo), L_isCompleted_212 k46 n x0 x1 x2 x4 x5 x6 x8 x9 x10 x12 x15 x16 M = some res → J p l e R s m args below meth c 17 G ρ0 M0 1 res M 212 [(0, (false, x0)), (1, (false, x1)), (2, (true, x2)), (4, (true, x4)), (5, (true, x5)), (6, (true, x6)), (8, (true, x8)), (9, (true, x9)), (10, (true, x10)), (12, (true, x12)), (15, (true, x15)), (16, (true, x16))] [] := by
  induction n with
  | zero => intro x0 x1 x2 x4 x5 x6 x8 x9 x10 x12 x15 x16 M h; cases h
  | succ n ih =>
    intro x0 x1 x2 x4 x5 x6 x8 x9 x10 x12 x15 x16 M h
    rw [L_isCompleted_212] at h
    refine j_iload F 11 rfl dL_isCompleted_212 ?_
    refine j_aload_n F 1 rfl rfl dL_isCompleted_214 ?_
    refine j_bipush F (by decide) dL_isCompleted_215 ?_
    obtain ⟨g1, h⟩ := gua h
    obtain ⟨g2, h⟩ := gua h
    refine j_iaload F g1 g2 dL_isCompleted_217 ?_
    refine j_icmp_ge F 283 (by decide) dL_isCompleted_218 h (fun h => ?_) (fun h => ?_)
    · skip
      refine j_aload_n F 0 rfl rfl dL_isCompleted_283 ?_
      refine j_iconst F dL_isCompleted_284 ?_
      refine j_iload F 4 rfl dL_isCompleted_285 ?_
      refine j_iload F 5 rfl dL_isCompleted_287 ?_
      refine j_iload F 10 rfl dL_isCompleted_289 ?_
      refine j_callX (d' := 9) (argl := [(false, x0), (true, 5), (true, x5), (true, x6), (true, x15)]) (rk9 := 1) (st := []) F hno M_L_asks q1512 q1511 ⟨by decide, by decide⟩ (Nat.le_of_ble_eq_true rfl) (by decide) dL_isCompleted_291 rfl h (fun z hz => c_L_asks l F.ht G x0 5 x5 x6 x15 M z hz) (fun v3 M4 h kl5 => ?_)
      refine j_st (st' := [(true, v3)]) rfl ?_
      refine j_aload_n F 1 rfl rfl dL_isCompleted_294 ?_
      refine j_iload_n F 2 rfl rfl dL_isCompleted_295 ?_
      refine j_iload F 9 rfl dL_isCompleted_296 ?_
      refine j_aload_n F 1 rfl rfl dL_isCompleted_298 ?_
      refine j_iload F 9 rfl dL_isCompleted_299 ?_
      refine j_callS (d' := 1) (argl := [(false, x1), (true, x12)]) (rk9 := 1) (st := [(true, x12), (true, x2), (false, x1), (true, v3)]) F hno M_L_behind q1661 q1660 ⟨by decide, by decide⟩ (Nat.le_of_ble_eq_true rfl) (by decide) dL_isCompleted_301 rfl h (fun z hz => c_L_behind l F.ht G x1 x12 M4 z hz) (fun v6 M7 h kl8 => ?_)
      refine j_st (st' := [(true, v6), (true, x12), (true, x2), (false, x1), (true, v3)]) rfl ?_
      refine j_callS (d' := 0) (argl := [(false, x1), (true, x2), (true, x12), (true, v6)]) (rk9 := 1) (st := [(true, v3)]) F hno M_L_item q1676 q1675 ⟨by decide, by decide⟩ (Nat.le_of_ble_eq_true rfl) (by decide) dL_isCompleted_304 rfl h (fun z hz => c_L_item l F.ht G x1 x2 x12 v6 M7 z hz) (fun v9 M10 h kl11 => ?_)
      refine j_st (st' := [(true, v9), (true, v3)]) rfl ?_
      refine j_icmp_ne F 329 (by decide) dL_isCompleted_307 h (fun h => ?_) (fun h => ?_)
      · skip
        refine j_sub (lv' := [(0, (false, x0)), (1, (false, x1)), (2, (true, x2)), (4, (true, x4)), (5, (true, x5)), (6, (true, x6)), (8, (true, x8)), (9, (true, x9)), (10, (true, x10)), (12, (true, x12))]) [0, 1, 2, 3, 4, 5, 6, 7, 8, 9] rfl ?_
        exact w_L_isCompleted_329 F hno hnm k46 hk46 x0 x1 x2 x4 x5 x6 x8 x9 x10 x12 M10 h
      · skip
        refine j_aload_n F 0 rfl rfl dL_isCompleted_310 ?_
        refine j_bipush F (by decide) dL_isCompleted_311 ?_
        refine j_iload F 4 rfl dL_isCompleted_313 ?_
        refine j_iload F 5 rfl dL_isCompleted_315 ?_
        refine j_iload F 10 rfl dL_isCompleted_317 ?_
        refine j_callX (d' := 9) (argl := [(false, x0), (true, 6), (true, x5), (true, x6), (true, x15)]) (rk9 := 1) (st := []) F hno M_L_asks q1512 q1511 ⟨by decide, by decide⟩ (Nat.le_of_ble_eq_true rfl) (by decide) dL_isCompleted_319 rfl h (fun z hz => c_L_asks l F.ht G x0 6 x5 x6 x15 M10 z hz) (fun v12 M13 h kl14 => ?_)
        refine j_st (st' := [(true, v12)]) rfl ?_
        refine j_if_ne F 329 (by decide) dL_isCompleted_322 h (fun h => ?_) (fun h => ?_)
        · skip
          refine j_sub (lv' := [(0, (false, x0)), (1, (false, x1)), (2, (true, x2)), (4, (true, x4)), (5, (true, x5)), (6, (true, x6)), (8, (true, x8)), (9, (true, x9)), (10, (true, x10)), (12, (true, x12))]) [0, 1, 2, 3, 4, 5, 6, 7, 8, 9] rfl ?_
          exact w_L_isCompleted_329 F hno hnm k46 hk46 x0 x1 x2 x4 x5 x6 x8 x9 x10 x12 M13 h
        · skip
          refine j_iconst F dL_isCompleted_325 ?_
          refine j_goto F 330 (by decide) dL_isCompleted_326 ?_
          refine j_sub (lv' := [(0, (false, x0)), (1, (false, x1)), (2, (true, x2)), (4, (true, x4)), (5, (true, x5)), (6, (true, x6)), (8, (true, x8)), (9, (true, x9)), (10, (true, x10)), (12, (true, x12))]) [0, 1, 2, 3, 4, 5, 6, 7, 8, 9] rfl ?_
          exact w_L_isCompleted_330 F hno hnm k46 hk46 x0 x1 x2 x4 x5 x6 x8 x9 x10 x12 1 M13 h
    · skip
      refine j_iload F 10 rfl dL_isCompleted_221 ?_
      refine j_aload_n F 1 rfl rfl dL_isCompleted_223 ?_
      refine j_iload F 11 rfl dL_isCompleted_224 ?_
      refine j_iload F 3 rfl dL_isCompleted_226 ?_
      refine j_callS (d' := 1) (argl := [(false, x1), (true, x16), (true, x4)]) (rk9 := 1) (st := [(true, x15)]) F hno M_L_isBegin q1652 q1651 ⟨by decide, by decide⟩ (Nat.le_of_ble_eq_true rfl) (by decide) dL_isCompleted_228 rfl h (fun z hz => c_L_isBegin l F.ht G x1 x16 x4 M z hz) (fun v15 M16 h kl17 => ?_)
      refine j_st (st' := [(true, v15), (true, x15)]) rfl ?_
      refine j_if_eq F 273 (by decide) dL_isCompleted_231 h (fun h => ?_) (fun h => ?_)
      · skip
        refine j_sub (lv' := [(0, (false, x0)), (1, (false, x1)), (2, (true, x2)), (4, (true, x4)), (5, (true, x5)), (6, (true, x6)), (8, (true, x8)), (9, (true, x9)), (10, (true, x10)), (12, (true, x12)), (16, (true, x16))]) [0, 1, 2, 3, 4, 5, 6, 7, 8, 9, 11] rfl ?_
        exact w_L_isCompleted_273 F hno hnm k46 hk46 (L_isCompleted_212 k46 n) ih x0 x1 x2 x4 x5 x6 x8 x9 x10 x12 x16 x15 M16 h
      · skip
        refine j_aload_n F 1 rfl rfl dL_isCompleted_234 ?_
        refine j_iload F 11 rfl dL_isCompleted_235 ?_
        refine j_iload F 9 rfl dL_isCompleted_237 ?_
        refine j_callS (d' := 2) (argl := [(false, x1), (true, x16), (true, x12)]) (rk9 := 1) (st := [(true, x15)]) F hno M_L_isAhead q1667 q1666 ⟨by decide, by decide⟩ (Nat.le_of_ble_eq_true rfl) (by decide) dL_isCompleted_239 rfl h (fun z hz => c_L_isAhead l F.ht G x1 x16 x12 M16 z hz) (fun v18 M19 h kl20 => ?_)
        refine j_st (st' := [(true, v18), (true, x15)]) rfl ?_
        refine j_if_eq F 273 (by decide) dL_isCompleted_242 h (fun h => ?_) (fun h => ?_)
        · skip
          refine j_sub (lv' := [(0, (false, x0)), (1, (false, x1)), (2, (true, x2)), (4, (true, x4)), (5, (true, x5)), (6, (true, x6)), (8, (true, x8)), (9, (true, x9)), (10, (true, x10)), (12, (true, x12)), (16, (true, x16))]) [0, 1, 2, 3, 4, 5, 6, 7, 8, 9, 11] rfl ?_
          exact w_L_isCompleted_273 F hno hnm k46 hk46 (L_isCompleted_212 k46 n) ih x0 x1 x2 x4 x5 x6 x8 x9 x10 x12 x16 x15 M19 h
        · skip
          refine j_aload_n F 1 rfl rfl dL_isCompleted_245 ?_
          refine j_iload F 11 rfl dL_isCompleted_246 ?_
          refine j_iload F 6 rfl dL_isCompleted_248 ?_
          refine j_iload F 7 rfl dL_isCompleted_250 ?_
          refine j_callS (d' := 2) (argl := [(false, x1), (true, x16), (true, x8), (true, x9)]) (rk9 := 1) (st := [(true, x15)]) F hno M_L_begins q1670 q1669 ⟨by decide, by decide⟩ (Nat.le_of_ble_eq_true rfl) (by decide) dL_isCompleted_252 rfl h (fun z hz => c_L_begins l F.ht G x1 x16 x8 x9 M19 z hz) (fun v21 M22 h kl23 => ?_)
          refine j_st (st' := [(true, v21), (true, x15)]) rfl ?_
          refine j_if_eq F 273 (by decide) dL_isCompleted_255 h (fun h => ?_) (fun h => ?_)
          · skip
            refine j_sub (lv' := [(0, (false, x0)), (1, (false, x1)), (2, (true, x2)), (4, (true, x4)), (5, (true, x5)), (6, (true, x6)), (8, (true, x8)), (9, (true, x9)), (10, (true, x10)), (12, (true, x12)), (16, (true, x16))]) [0, 1, 2, 3, 4, 5, 6, 7, 8, 9, 11] rfl ?_
            exact w_L_isCompleted_273 F hno hnm k46 hk46 (L_isCompleted_212 k46 n) ih x0 x1 x2 x4 x5 x6 x8 x9 x10 x12 x16 x15 M22 h
          · skip
            refine j_aload_n F 1 rfl rfl dL_isCompleted_258 ?_
            refine j_iload F 11 rfl dL_isCompleted_259 ?_
            refine j_iload F 3 rfl dL_isCompleted_261 ?_
            refine j_callS (d' := 3) (argl := [(false, x1), (true, x16), (true, x4)]) (rk9 := 1) (st := [(true, x15)]) F hno M_L_isFirstOf q1673 q1672 ⟨by decide, by decide⟩ (Nat.le_of_ble_eq_true rfl) (by decide) dL_isCompleted_263 rfl h (fun z hz => c_L_isFirstOf l F.ht G x1 x16 x4 M22 z hz) (fun v24 M25 h kl26 => ?_)
            refine j_st (st' := [(true, v24), (true, x15)]) rfl ?_
            refine j_if_eq F 273 (by decide) dL_isCompleted_266 h (fun h => ?_) (fun h => ?_)
            · skip
              refine j_sub (lv' := [(0, (false, x0)), (1, (false, x1)), (2, (true, x2)), (4, (true, x4)), (5, (true, x5)), (6, (true, x6)), (8, (true, x8)), (9, (true, x9)), (10, (true, x10)), (12, (true, x12)), (16, (true, x16))]) [0, 1, 2, 3, 4, 5, 6, 7, 8, 9, 11] rfl ?_
              exact w_L_isCompleted_273 F hno hnm k46 hk46 (L_isCompleted_212 k46 n) ih x0 x1 x2 x4 x5 x6 x8 x9 x10 x12 x16 x15 M25 h
            · skip
              refine j_iconst F dL_isCompleted_269 ?_
              refine j_goto F 274 (by decide) dL_isCompleted_270 ?_
              refine j_sub (lv' := [(0, (false, x0)), (1, (false, x1)), (2, (true, x2)), (4, (true, x4)), (5, (true, x5)), (6, (true, x6)), (8, (true, x8)), (9, (true, x9)), (10, (true, x10)), (12, (true, x12)), (16, (true, x16))]) [0, 1, 2, 3, 4, 5, 6, 7, 8, 9, 11] rfl ?_
              exact w_L_isCompleted_274 F hno hnm k46 hk46 (L_isCompleted_212 k46 n) ih x0 x1 x2 x4 x5 x6 x8 x9 x10 x12 x16 x15 1 M25 h
set_option maxHeartbeats 4000000 in
set_option maxRecDepth 100000 in
theorem w_L_isCompleted_143 {p : Program} {l : Launch} {e : Env} {R : Room} {s : State} {m : MethodId} {args : Array Value} {below : List Frame} {meth : Method} {c : Code} {G : Gt} {ρ0 : Int → Nat} {M0 : Mo} {res : RS} (F : Fx p l R s m args meth c cL_isCompleted 17 RL G M0 10 (some FieldType.boolean)) (hno : ∀ x ∈ c.exceptionTable.toList, False) (hnm : meth.name = yL_isCompleted.name) (k46 : Int → Int → Int → Int → Int → Int → Int → Int → Int → Int → Int → Mo → Option RS) (hk46 : ∀ (x0 x1 x2 x4 x5 x6 x8 x9 x10 x11 x12 : Int) (M : Mo), k46 x0 x1 x2 x4 x5 x6 x8 x9 x10 x11 x12 M = some res → J p l e R s m args below meth c 17 G ρ0 M0 1 res M 46 [(0, (false, x0)), (1, (false, x1)), (2, (true, x2)), (4, (true, x4)), (5, (true, x5)), (6, (true, x6)), (8, (true, x8)), (9, (true, x9)), (10, (true, x10)), (11, (true, x11)), (12, (true, x12))] []) (n : Nat) : ∀ (x0 x1 x2 x4 x5 x6 x8 x9 x10 x11 x12 x13 x14 x15 x16 : Int) (M : Mo), L_isCompleted_143 k46 n x0 x1 x2 x4 x5 x6 x8 x9 x10 x11 x12 x13 x14 x15 x16 M = some res → J p l e R s m args below meth c 17 G ρ0 M0 1 res M 143 [(0, (false, x0)), (1, (false, x1)), (2, (true, x2)), (4, (true, x4)), (5, (true, x5)), (6, (true, x6)), (8, (true, x8)), (9, (true, x9)), (10, (true, x10)), (11, (true, x11)), (12, (true, x12)), (13, (true, x13)), (14, (true, x14)), (15, (true, x15)), (16, (true, x16))] [] := by
  induction n with
  | zero => intro x0 x1 x2 x4 x5 x6 x8 x9 x10 x11 x12 x13 x14 x15 x16 M h; cases h
  | succ n ih =>
    intro x0 x1 x2 x4 x5 x6 x8 x9 x10 x11 x12 x13 x14 x15 x16 M h
    rw [L_isCompleted_143] at h
    refine j_iload F 14 rfl dL_isCompleted_143 ?_
    refine j_aload_n F 1 rfl rfl dL_isCompleted_145 ?_
    refine j_bipush F (by decide) dL_isCompleted_146 ?_
    obtain ⟨g1, h⟩ := gua h
    obtain ⟨g2, h⟩ := gua h
    refine j_iaload F g1 g2 dL_isCompleted_148 ?_
    refine j_icmp_ge F 204 (by decide) dL_isCompleted_149 h (fun h => ?_) (fun h => ?_)
    · skip
      refine j_iload F 12 rfl dL_isCompleted_204 ?_
      refine j_if_eq F 335 (by decide) dL_isCompleted_206 h (fun h => ?_) (fun h => ?_)
      · skip
        refine j_sub (lv' := [(0, (false, x0)), (1, (false, x1)), (2, (true, x2)), (4, (true, x4)), (5, (true, x5)), (6, (true, x6)), (8, (true, x8)), (9, (true, x9)), (10, (true, x10)), (11, (true, x11)), (12, (true, x12))]) [0, 1, 2, 3, 4, 5, 6, 7, 8, 9, 10] rfl ?_
        exact w_L_isCompleted_335 F hno hnm k46 hk46 x0 x1 x2 x4 x5 x6 x8 x9 x10 x11 x12 M h
      · skip
        refine j_iconst F dL_isCompleted_209 ?_
        refine j_istore F (lv' := [(16, (true, 0)), (0, (false, x0)), (1, (false, x1)), (2, (true, x2)), (4, (true, x4)), (5, (true, x5)), (6, (true, x6)), (8, (true, x8)), (9, (true, x9)), (10, (true, x10)), (11, (true, x11)), (12, (true, x12)), (13, (true, x13)), (14, (true, x14)), (15, (true, x15))]) (by decide) rfl dL_isCompleted_210 ?_
        refine j_sub (lv' := [(0, (false, x0)), (1, (false, x1)), (2, (true, x2)), (4, (true, x4)), (5, (true, x5)), (6, (true, x6)), (8, (true, x8)), (9, (true, x9)), (10, (true, x10)), (12, (true, x12)), (15, (true, x15)), (16, (true, 0))]) [1, 2, 3, 4, 5, 6, 7, 8, 9, 11, 14, 0] rfl ?_
        exact w_L_isCompleted_212 F hno hnm k46 hk46 FU x0 x1 x2 x4 x5 x6 x8 x9 x10 x12 x15 0 M h
    · skip
      refine j_aload_n F 1 rfl rfl dL_isCompleted_152 ?_
      refine j_iload F 14 rfl dL_isCompleted_153 ?_
      refine j_iload F 3 rfl dL_isCompleted_155 ?_
      refine j_callS (d' := 1) (argl := [(false, x1), (true, x16), (true, x4)]) (rk9 := 1) (st := []) F hno M_L_isBegin q1652 q1651 ⟨by decide, by decide⟩ (Nat.le_of_ble_eq_true rfl) (by decide) dL_isCompleted_157 rfl h (fun z hz => c_L_isBegin l F.ht G x1 x16 x4 M z hz) (fun v3 M4 h kl5 => ?_)
      refine j_st (st' := [(true, v3)]) rfl ?_
      refine j_if_eq F 198 (by decide) dL_isCompleted_160 h (fun h => ?_) (fun h => ?_)
      · skip
        refine j_sub (lv' := [(0, (false, x0)), (1, (false, x1)), (2, (true, x2)), (4, (true, x4)), (5, (true, x5)), (6, (true, x6)), (8, (true, x8)), (9, (true, x9)), (10, (true, x10)), (11, (true, x11)), (12, (true, x12)), (13, (true, x13)), (14, (true, x14)), (15, (true, x15)), (16, (true, x16))]) [0, 1, 2, 3, 4, 5, 6, 7, 8, 9, 10, 11, 12, 13, 14] rfl ?_
        exact w_L_isCompleted_198 F hno hnm k46 hk46 (L_isCompleted_143 k46 n) ih x0 x1 x2 x4 x5 x6 x8 x9 x10 x11 x12 x13 x14 x15 x16 M4 h
      · skip
        refine j_iload F 11 rfl dL_isCompleted_163 ?_
        refine j_if_eq F 198 (by decide) dL_isCompleted_165 h (fun h => ?_) (fun h => ?_)
        · skip
          refine j_sub (lv' := [(0, (false, x0)), (1, (false, x1)), (2, (true, x2)), (4, (true, x4)), (5, (true, x5)), (6, (true, x6)), (8, (true, x8)), (9, (true, x9)), (10, (true, x10)), (11, (true, x11)), (12, (true, x12)), (13, (true, x13)), (14, (true, x14)), (15, (true, x15)), (16, (true, x16))]) [0, 1, 2, 3, 4, 5, 6, 7, 8, 9, 10, 11, 12, 13, 14] rfl ?_
          exact w_L_isCompleted_198 F hno hnm k46 hk46 (L_isCompleted_143 k46 n) ih x0 x1 x2 x4 x5 x6 x8 x9 x10 x11 x12 x13 x14 x15 x16 M4 h
        · skip
          refine j_iload F 12 rfl dL_isCompleted_168 ?_
          refine j_if_eq F 195 (by decide) dL_isCompleted_170 h (fun h => ?_) (fun h => ?_)
          · skip
            refine j_sub (lv' := [(0, (false, x0)), (1, (false, x1)), (2, (true, x2)), (4, (true, x4)), (5, (true, x5)), (6, (true, x6)), (8, (true, x8)), (9, (true, x9)), (10, (true, x10)), (11, (true, x11)), (12, (true, x12)), (13, (true, x13)), (15, (true, x15)), (16, (true, x16))]) [0, 1, 2, 3, 4, 5, 6, 7, 8, 9, 10, 11, 13, 14] rfl ?_
            exact w_L_isCompleted_195 F hno hnm k46 hk46 (L_isCompleted_143 k46 n) ih x0 x1 x2 x4 x5 x6 x8 x9 x10 x11 x12 x13 x15 x16 M4 h
          · skip
            refine j_iload F 14 rfl dL_isCompleted_173 ?_
            refine j_iload F 10 rfl dL_isCompleted_175 ?_
            refine j_icmp_ge F 191 (by decide) dL_isCompleted_177 h (fun h => ?_) (fun h => ?_)
            · skip
              refine j_sub (lv' := [(0, (false, x0)), (1, (false, x1)), (2, (true, x2)), (4, (true, x4)), (5, (true, x5)), (6, (true, x6)), (8, (true, x8)), (9, (true, x9)), (10, (true, x10)), (11, (true, x11)), (12, (true, x12)), (13, (true, x13)), (15, (true, x15)), (16, (true, x16))]) [0, 1, 2, 3, 4, 5, 6, 7, 8, 9, 10, 11, 13, 14] rfl ?_
              exact w_L_isCompleted_191 F hno hnm k46 hk46 (L_isCompleted_143 k46 n) ih x0 x1 x2 x4 x5 x6 x8 x9 x10 x11 x12 x13 x15 x16 M4 h
            · skip
              refine j_aload_n F 1 rfl rfl dL_isCompleted_180 ?_
              refine j_iload F 14 rfl dL_isCompleted_181 ?_
              refine j_iload F 10 rfl dL_isCompleted_183 ?_
              refine j_callS (d' := 2) (argl := [(false, x1), (true, x16), (true, x12)]) (rk9 := 1) (st := []) F hno M_L_areLike q1664 q1663 ⟨by decide, by decide⟩ (Nat.le_of_ble_eq_true rfl) (by decide) dL_isCompleted_185 rfl h (fun z hz => c_L_areLike l F.ht G x1 x16 x12 M4 z hz) (fun v6 M7 h kl8 => ?_)
              refine j_st (st' := [(true, v6)]) rfl ?_
              refine j_if_ne F 195 (by decide) dL_isCompleted_188 h (fun h => ?_) (fun h => ?_)
              · skip
                refine j_sub (lv' := [(0, (false, x0)), (1, (false, x1)), (2, (true, x2)), (4, (true, x4)), (5, (true, x5)), (6, (true, x6)), (8, (true, x8)), (9, (true, x9)), (10, (true, x10)), (11, (true, x11)), (12, (true, x12)), (13, (true, x13)), (15, (true, x15)), (16, (true, x16))]) [0, 1, 2, 3, 4, 5, 6, 7, 8, 9, 10, 11, 13, 14] rfl ?_
                exact w_L_isCompleted_195 F hno hnm k46 hk46 (L_isCompleted_143 k46 n) ih x0 x1 x2 x4 x5 x6 x8 x9 x10 x11 x12 x13 x15 x16 M7 h
              · skip
                refine j_sub (lv' := [(0, (false, x0)), (1, (false, x1)), (2, (true, x2)), (4, (true, x4)), (5, (true, x5)), (6, (true, x6)), (8, (true, x8)), (9, (true, x9)), (10, (true, x10)), (11, (true, x11)), (12, (true, x12)), (13, (true, x13)), (15, (true, x15)), (16, (true, x16))]) [0, 1, 2, 3, 4, 5, 6, 7, 8, 9, 10, 11, 13, 14] rfl ?_
                exact w_L_isCompleted_191 F hno hnm k46 hk46 (L_isCompleted_143 k46 n) ih x0 x1 x2 x4 x5 x6 x8 x9 x10 x11 x12 x13 x15 x16 M7 h
set_option maxHeartbeats 4000000 in
set_option maxRecDepth 100000 in
theorem w_L_isCompleted_91 {p : Program} {l : Launch} {e : Env} {R : Room} {s : State} {m : MethodId} {args : Array Value} {below : List Frame} {meth : Method} {c : Code} {G : Gt} {ρ0 : Int → Nat} {M0 : Mo} {res : RS} (F : Fx p l R s m args meth c cL_isCompleted 17 RL G M0 10 (some FieldType.boolean)) (hno : ∀ x ∈ c.exceptionTable.toList, False) (hnm : meth.name = yL_isCompleted.name) (k46 : Int → Int → Int → Int → Int → Int → Int → Int → Int → Int → Int → Mo → Option RS) (hk46 : ∀ (x0 x1 x2 x4 x5 x6 x8 x9 x10 x11 x12 : Int) (M : Mo), k46 x0 x1 x2 x4 x5 x6 x8 x9 x10 x11 x12 M = some res → J p l e R s m args below meth c 17 G ρ0 M0 1 res M 46 [(0, (false, x0)), (1, (false, x1)), (2, (true, x2)), (4, (true, x4)), (5, (true, x5)), (6, (true, x6)), (8, (true, x8)), (9, (true, x9)), (10, (true, x10)), (11, (true, x11)), (12, (true, x12))] []) (n : Nat) : ∀ (x0 x1 x2 x4 x5 x6 x8 x9 x10 x11 x12 x13 x14 : Int) (M : Mo), L_isCompleted_91 k46 n x0 x1 x2 x4 x5 x6 x8 x9 x10 x11 x12 x13 x14 M = some res → J p l e R s m args below meth c 17 G ρ0 M0 1 res M 91 [(0, (false, x0)), (1, (false, x1)), (2, (true, x2)), (4, (true, x4)), (5, (true, x5)), (6, (true, x6)), (8, (true, x8)), (9, (true, x9)), (10, (true, x10)), (11, (true, x11)), (12, (true, x12)), (13, (true, x13)), (14, (true, x14))] [] := by
  induction n with
  | zero => intro x0 x1 x2 x4 x5 x6 x8 x9 x10 x11 x12 x13 x14 M h; cases h
  | succ n ih =>
    intro x0 x1 x2 x4 x5 x6 x8 x9 x10 x11 x12 x13 x14 M h
    rw [L_isCompleted_91] at h
    refine j_iload F 12 rfl dL_isCompleted_91 ?_
    refine j_iload F 7 rfl dL_isCompleted_93 ?_
    refine j_icmp_ge F 133 (by decide) dL_isCompleted_95 h (fun h => ?_) (fun h => ?_)
    · skip
      refine j_iload F 11 rfl dL_isCompleted_133 ?_
      refine j_istore F (lv' := [(14, (true, x13)), (0, (false, x0)), (1, (false, x1)), (2, (true, x2)), (4, (true, x4)), (5, (true, x5)), (6, (true, x6)), (8, (true, x8)), (9, (true, x9)), (10, (true, x10)), (11, (true, x11)), (12, (true, x12)), (13, (true, x13))]) (by decide) rfl dL_isCompleted_135 ?_
      refine j_iconst F dL_isCompleted_137 ?_
      refine j_istore F (lv' := [(15, (true, 0)), (14, (true, x13)), (0, (false, x0)), (1, (false, x1)), (2, (true, x2)), (4, (true, x4)), (5, (true, x5)), (6, (true, x6)), (8, (true, x8)), (9, (true, x9)), (10, (true, x10)), (11, (true, x11)), (12, (true, x12)), (13, (true, x13))]) (by decide) rfl dL_isCompleted_138 ?_
      refine j_iconst F dL_isCompleted_140 ?_
      refine j_istore F (lv' := [(16, (true, 0)), (15, (true, 0)), (14, (true, x13)), (0, (false, x0)), (1, (false, x1)), (2, (true, x2)), (4, (true, x4)), (5, (true, x5)), (6, (true, x6)), (8, (true, x8)), (9, (true, x9)), (10, (true, x10)), (11, (true, x11)), (12, (true, x12)), (13, (true, x13))]) (by decide) rfl dL_isCompleted_141 ?_
      refine j_sub (lv' := [(0, (false, x0)), (1, (false, x1)), (2, (true, x2)), (4, (true, x4)), (5, (true, x5)), (6, (true, x6)), (8, (true, x8)), (9, (true, x9)), (10, (true, x10)), (11, (true, x11)), (12, (true, x12)), (13, (true, x13)), (14, (true, x13)), (15, (true, 0)), (16, (true, 0))]) [3, 4, 5, 6, 7, 8, 9, 10, 11, 12, 13, 14, 2, 1, 0] rfl ?_
      exact w_L_isCompleted_143 F hno hnm k46 hk46 FU x0 x1 x2 x4 x5 x6 x8 x9 x10 x11 x12 x13 x13 0 0 M h
    · skip
      refine j_iload F 11 rfl dL_isCompleted_98 ?_
      refine j_if_eq F 124 (by decide) dL_isCompleted_100 h (fun h => ?_) (fun h => ?_)
      · skip
        refine j_sub (lv' := [(0, (false, x0)), (1, (false, x1)), (2, (true, x2)), (4, (true, x4)), (5, (true, x5)), (6, (true, x6)), (8, (true, x8)), (9, (true, x9)), (10, (true, x10)), (11, (true, x11)), (12, (true, x12)), (14, (true, x14))]) [0, 1, 2, 3, 4, 5, 6, 7, 8, 9, 10, 12] rfl ?_
        exact w_L_isCompleted_124 F hno hnm k46 hk46 (L_isCompleted_91 k46 n) ih x0 x1 x2 x4 x5 x6 x8 x9 x10 x11 x12 x14 M h
      · skip
        refine j_aload_n F 1 rfl rfl dL_isCompleted_103 ?_
        refine j_iload F 10 rfl dL_isCompleted_104 ?_
        refine j_iload F 12 rfl dL_isCompleted_106 ?_
        refine j_iadd F dL_isCompleted_108 ?_
        obtain ⟨g1, h⟩ := gua h
        obtain ⟨g2, h⟩ := gua h
        refine j_iaload F g1 g2 dL_isCompleted_109 ?_
        refine j_aload_n F 1 rfl rfl dL_isCompleted_110 ?_
        refine j_iload F 6 rfl dL_isCompleted_111 ?_
        refine j_iload F 12 rfl dL_isCompleted_113 ?_
        refine j_iadd F dL_isCompleted_115 ?_
        obtain ⟨g3, h⟩ := gua h
        refine j_iaload F g1 g3 dL_isCompleted_116 ?_
        refine j_icmp_ne F 124 (by decide) dL_isCompleted_117 h (fun h => ?_) (fun h => ?_)
        · skip
          refine j_sub (lv' := [(0, (false, x0)), (1, (false, x1)), (2, (true, x2)), (4, (true, x4)), (5, (true, x5)), (6, (true, x6)), (8, (true, x8)), (9, (true, x9)), (10, (true, x10)), (11, (true, x11)), (12, (true, x12)), (14, (true, x14))]) [0, 1, 2, 3, 4, 5, 6, 7, 8, 9, 10, 12] rfl ?_
          exact w_L_isCompleted_124 F hno hnm k46 hk46 (L_isCompleted_91 k46 n) ih x0 x1 x2 x4 x5 x6 x8 x9 x10 x11 x12 x14 M h
        · skip
          refine j_iconst F dL_isCompleted_120 ?_
          refine j_goto F 125 (by decide) dL_isCompleted_121 ?_
          refine j_sub (lv' := [(0, (false, x0)), (1, (false, x1)), (2, (true, x2)), (4, (true, x4)), (5, (true, x5)), (6, (true, x6)), (8, (true, x8)), (9, (true, x9)), (10, (true, x10)), (11, (true, x11)), (12, (true, x12)), (14, (true, x14))]) [0, 1, 2, 3, 4, 5, 6, 7, 8, 9, 10, 12] rfl ?_
          exact w_L_isCompleted_125 F hno hnm k46 hk46 (L_isCompleted_91 k46 n) ih x0 x1 x2 x4 x5 x6 x8 x9 x10 x11 x12 x14 1 M h
set_option maxHeartbeats 4000000 in
set_option maxRecDepth 100000 in
theorem w_L_isCompleted_341 {p : Program} {l : Launch} {e : Env} {R : Room} {s : State} {m : MethodId} {args : Array Value} {below : List Frame} {meth : Method} {c : Code} {G : Gt} {ρ0 : Int → Nat} {M0 : Mo} {res : RS} (F : Fx p l R s m args meth c cL_isCompleted 17 RL G M0 10 (some FieldType.boolean)) (hno : ∀ x ∈ c.exceptionTable.toList, False) (hnm : meth.name = yL_isCompleted.name) (x0 x5 x6 x10 x11 : Int) (M : Mo) (h : L_isCompleted_341 x0 x5 x6 x10 x11 M = some res) : J p l e R s m args below meth c 17 G ρ0 M0 1 res M 341 [(0, (false, x0)), (5, (true, x5)), (6, (true, x6)), (10, (true, x10)), (11, (true, x11))] [] := by
  unfold L_isCompleted_341 at h
  refine j_iload F 4 rfl dL_isCompleted_341 ?_
  refine j_if_eq F 368 (by decide) dL_isCompleted_343 h (fun h => ?_) (fun h => ?_)
  · skip
    refine j_iconst F dL_isCompleted_368 ?_
    exact j_zret F (by decide) h dL_isCompleted_369
  · skip
    refine j_aload_n F 0 rfl rfl dL_isCompleted_346 ?_
    refine j_iload F 1 rfl dL_isCompleted_347 ?_
    refine j_iload F 2 rfl dL_isCompleted_349 ?_
    obtain ⟨g4, h⟩ := gua h
    refine j_callV (d' := 7) (argl := [(true, x5), (true, x6)]) (rk9 := 1) (st := []) F hno M_X11_standing q1542 q1543 q1541 ⟨by decide, by decide⟩ (Nat.le_of_ble_eq_true rfl) (by decide) (ci := 12) rfl (by decide) g4 dL_isCompleted_351 rfl h (fun z hz => c_X11_standing l F.ht G x0 x5 x6 M z hz) (fun v1 M2 h kl3 => ?_)
    refine j_st (st' := [(true, v1)]) rfl ?_
    refine j_bipush F (by decide) dL_isCompleted_354 ?_
    refine j_iload F 3 rfl dL_isCompleted_356 ?_
    refine j_imul F dL_isCompleted_358 ?_
    refine j_iconst F dL_isCompleted_359 ?_
    refine j_iadd F dL_isCompleted_360 ?_
    refine j_icmp_ne F 368 (by decide) dL_isCompleted_361 h (fun h => ?_) (fun h => ?_)
    · skip
      refine j_iconst F dL_isCompleted_368 ?_
      exact j_zret F (by decide) h dL_isCompleted_369
    · skip
      refine j_iconst F dL_isCompleted_364 ?_
      refine j_goto F 369 (by decide) dL_isCompleted_365 ?_
      exact j_zret F (by decide) h dL_isCompleted_369
set_option maxHeartbeats 4000000 in
set_option maxRecDepth 100000 in
theorem w_L_isCompleted_46 {p : Program} {l : Launch} {e : Env} {R : Room} {s : State} {m : MethodId} {args : Array Value} {below : List Frame} {meth : Method} {c : Code} {G : Gt} {ρ0 : Int → Nat} {M0 : Mo} {res : RS} (F : Fx p l R s m args meth c cL_isCompleted 17 RL G M0 10 (some FieldType.boolean)) (hno : ∀ x ∈ c.exceptionTable.toList, False) (hnm : meth.name = yL_isCompleted.name) (n : Nat) : ∀ (x0 x1 x2 x4 x5 x6 x8 x9 x10 x11 x12 : Int) (M : Mo), L_isCompleted_46 n x0 x1 x2 x4 x5 x6 x8 x9 x10 x11 x12 M = some res → J p l e R s m args below meth c 17 G ρ0 M0 1 res M 46 [(0, (false, x0)), (1, (false, x1)), (2, (true, x2)), (4, (true, x4)), (5, (true, x5)), (6, (true, x6)), (8, (true, x8)), (9, (true, x9)), (10, (true, x10)), (11, (true, x11)), (12, (true, x12))] [] := by
  induction n with
  | zero => intro x0 x1 x2 x4 x5 x6 x8 x9 x10 x11 x12 M h; cases h
  | succ n ih =>
    intro x0 x1 x2 x4 x5 x6 x8 x9 x10 x11 x12 M h
    rw [L_isCompleted_46] at h
    refine j_iload F 10 rfl dL_isCompleted_46 ?_
    refine j_aload_n F 1 rfl rfl dL_isCompleted_48 ?_
    refine j_bipush F (by decide) dL_isCompleted_49 ?_
    obtain ⟨g1, h⟩ := gua h
    obtain ⟨g2, h⟩ := gua h
    refine j_iaload F g1 g2 dL_isCompleted_51 ?_
    refine j_icmp_ge F 341 (by decide) dL_isCompleted_52 h (fun h => ?_) (fun h => ?_)
    · skip
      refine j_sub (lv' := [(0, (false, x0)), (5, (true, x5)), (6, (true, x6)), (10, (true, x10)), (11, (true, x11))]) [0, 4, 5, 8, 9] rfl ?_
      exact w_L_isCompleted_341 F hno hnm x0 x5 x6 x10 x11 M h
    · skip
      refine j_iload F 9 rfl dL_isCompleted_55 ?_
      refine j_if_eq F 341 (by decide) dL_isCompleted_57 h (fun h => ?_) (fun h => ?_)
      · skip
        refine j_sub (lv' := [(0, (false, x0)), (5, (true, x5)), (6, (true, x6)), (10, (true, x10)), (11, (true, x11))]) [0, 4, 5, 8, 9] rfl ?_
        exact w_L_isCompleted_341 F hno hnm x0 x5 x6 x10 x11 M h
      · skip
        refine j_aload_n F 1 rfl rfl dL_isCompleted_60 ?_
        refine j_iload F 10 rfl dL_isCompleted_61 ?_
        refine j_iload F 3 rfl dL_isCompleted_63 ?_
        refine j_callS (d' := 1) (argl := [(false, x1), (true, x12), (true, x4)]) (rk9 := 1) (st := []) F hno M_L_isBegin q1652 q1651 ⟨by decide, by decide⟩ (Nat.le_of_ble_eq_true rfl) (by decide) dL_isCompleted_65 rfl h (fun z hz => c_L_isBegin l F.ht G x1 x12 x4 M z hz) (fun v3 M4 h kl5 => ?_)
        refine j_st (st' := [(true, v3)]) rfl ?_
        refine j_if_eq F 335 (by decide) dL_isCompleted_68 h (fun h => ?_) (fun h => ?_)
        · skip
          refine j_sub (lv' := [(0, (false, x0)), (1, (false, x1)), (2, (true, x2)), (4, (true, x4)), (5, (true, x5)), (6, (true, x6)), (8, (true, x8)), (9, (true, x9)), (10, (true, x10)), (11, (true, x11)), (12, (true, x12))]) [0, 1, 2, 3, 4, 5, 6, 7, 8, 9, 10] rfl ?_
          exact w_L_isCompleted_335 F hno hnm (L_isCompleted_46 n) ih x0 x1 x2 x4 x5 x6 x8 x9 x10 x11 x12 M4 h
        · skip
          refine j_aload_n F 1 rfl rfl dL_isCompleted_71 ?_
          refine j_iload F 10 rfl dL_isCompleted_72 ?_
          refine j_callS (d' := 1) (argl := [(false, x1), (true, x12)]) (rk9 := 1) (st := []) F hno M_L_behind q1661 q1660 ⟨by decide, by decide⟩ (Nat.le_of_ble_eq_true rfl) (by decide) dL_isCompleted_74 rfl h (fun z hz => c_L_behind l F.ht G x1 x12 M4 z hz) (fun v6 M7 h kl8 => ?_)
          refine j_st (st' := [(true, v6)]) rfl ?_
          refine j_iload F 10 rfl dL_isCompleted_77 ?_
          refine j_isub F dL_isCompleted_79 ?_
          refine j_iload F 7 rfl dL_isCompleted_80 ?_
          refine j_icmp_le F 335 (by decide) dL_isCompleted_82 h (fun h => ?_) (fun h => ?_)
          · skip
            refine j_sub (lv' := [(0, (false, x0)), (1, (false, x1)), (2, (true, x2)), (4, (true, x4)), (5, (true, x5)), (6, (true, x6)), (8, (true, x8)), (9, (true, x9)), (10, (true, x10)), (11, (true, x11)), (12, (true, x12))]) [0, 1, 2, 3, 4, 5, 6, 7, 8, 9, 10] rfl ?_
            exact w_L_isCompleted_335 F hno hnm (L_isCompleted_46 n) ih x0 x1 x2 x4 x5 x6 x8 x9 x10 x11 x12 M7 h
          · skip
            refine j_iconst F dL_isCompleted_85 ?_
            refine j_istore F (lv' := [(13, (true, 1)), (0, (false, x0)), (1, (false, x1)), (2, (true, x2)), (4, (true, x4)), (5, (true, x5)), (6, (true, x6)), (8, (true, x8)), (9, (true, x9)), (10, (true, x10)), (11, (true, x11)), (12, (true, x12))]) (by decide) rfl dL_isCompleted_86 ?_
            refine j_iconst F dL_isCompleted_88 ?_
            refine j_istore F (lv' := [(14, (true, 0)), (13, (true, 1)), (0, (false, x0)), (1, (false, x1)), (2, (true, x2)), (4, (true, x4)), (5, (true, x5)), (6, (true, x6)), (8, (true, x8)), (9, (true, x9)), (10, (true, x10)), (11, (true, x11)), (12, (true, x12))]) (by decide) rfl dL_isCompleted_89 ?_
            refine j_sub (lv' := [(0, (false, x0)), (1, (false, x1)), (2, (true, x2)), (4, (true, x4)), (5, (true, x5)), (6, (true, x6)), (8, (true, x8)), (9, (true, x9)), (10, (true, x10)), (11, (true, x11)), (12, (true, x12)), (13, (true, 1)), (14, (true, 0))]) [2, 3, 4, 5, 6, 7, 8, 9, 10, 11, 12, 1, 0] rfl ?_
            exact w_L_isCompleted_91 F hno hnm (L_isCompleted_46 n) ih FU x0 x1 x2 x4 x5 x6 x8 x9 x10 x11 x12 1 0 M7 h
set_option maxHeartbeats 4000000 in
set_option maxRecDepth 100000 in
theorem w_L_isCompleted_35 {p : Program} {l : Launch} {e : Env} {R : Room} {s : State} {m : MethodId} {args : Array Value} {below : List Frame} {meth : Method} {c : Code} {G : Gt} {ρ0 : Int → Nat} {M0 : Mo} {res : RS} (F : Fx p l R s m args meth c cL_isCompleted 17 RL G M0 10 (some FieldType.boolean)) (hno : ∀ x ∈ c.exceptionTable.toList, False) (hnm : meth.name = yL_isCompleted.name) (x0 x1 x2 x4 x5 x6 x8 y0 : Int) (M : Mo) (h : L_isCompleted_35 x0 x1 x2 x4 x5 x6 x8 y0 M = some res) : J p l e R s m args below meth c 17 G ρ0 M0 1 res M 35 [(0, (false, x0)), (1, (false, x1)), (2, (true, x2)), (4, (true, x4)), (5, (true, x5)), (6, (true, x6)), (8, (true, x8))] [(true, y0)] := by
  unfold L_isCompleted_35 at h
  refine j_istore F (lv' := [(9, (true, y0)), (0, (false, x0)), (1, (false, x1)), (2, (true, x2)), (4, (true, x4)), (5, (true, x5)), (6, (true, x6)), (8, (true, x8))]) (by decide) rfl dL_isCompleted_35 ?_
  refine j_iconst F dL_isCompleted_37 ?_
  refine j_istore F (lv' := [(10, (true, 0)), (9, (true, y0)), (0, (false, x0)), (1, (false, x1)), (2, (true, x2)), (4, (true, x4)), (5, (true, x5)), (6, (true, x6)), (8, (true, x8))]) (by decide) rfl dL_isCompleted_38 ?_
  refine j_iconst F dL_isCompleted_40 ?_
  refine j_istore F (lv' := [(11, (true, 1)), (10, (true, 0)), (9, (true, y0)), (0, (false, x0)), (1, (false, x1)), (2, (true, x2)), (4, (true, x4)), (5, (true, x5)), (6, (true, x6)), (8, (true, x8))]) (by decide) rfl dL_isCompleted_41 ?_
  refine j_iconst F dL_isCompleted_43 ?_
  refine j_istore F (lv' := [(12, (true, 0)), (11, (true, 1)), (10, (true, 0)), (9, (true, y0)), (0, (false, x0)), (1, (false, x1)), (2, (true, x2)), (4, (true, x4)), (5, (true, x5)), (6, (true, x6)), (8, (true, x8))]) (by decide) rfl dL_isCompleted_44 ?_
  refine j_sub (lv' := [(0, (false, x0)), (1, (false, x1)), (2, (true, x2)), (4, (true, x4)), (5, (true, x5)), (6, (true, x6)), (8, (true, x8)), (9, (true, y0)), (10, (true, 0)), (11, (true, 1)), (12, (true, 0))]) [4, 5, 6, 7, 8, 9, 10, 3, 2, 1, 0] rfl ?_
  exact w_L_isCompleted_46 F hno hnm FU x0 x1 x2 x4 x5 x6 x8 y0 0 1 0 M h
set_option maxHeartbeats 4000000 in
set_option maxRecDepth 100000 in
theorem w_L_isCompleted_20 {p : Program} {l : Launch} {e : Env} {R : Room} {s : State} {m : MethodId} {args : Array Value} {below : List Frame} {meth : Method} {c : Code} {G : Gt} {ρ0 : Int → Nat} {M0 : Mo} {res : RS} (F : Fx p l R s m args meth c cL_isCompleted 17 RL G M0 10 (some FieldType.boolean)) (hno : ∀ x ∈ c.exceptionTable.toList, False) (hnm : meth.name = yL_isCompleted.name) (x0 x1 x2 x3 x4 x5 x6 x7 y0 : Int) (M : Mo) (h : L_isCompleted_20 x0 x1 x2 x3 x4 x5 x6 x7 y0 M = some res) : J p l e R s m args below meth c 17 G ρ0 M0 1 res M 20 [(0, (false, x0)), (1, (false, x1)), (2, (true, x2)), (3, (true, x3)), (4, (true, x4)), (5, (true, x5)), (6, (true, x6)), (7, (true, x7))] [(true, y0)] := by
  unfold L_isCompleted_20 at h
  refine j_istore F (lv' := [(8, (true, y0)), (0, (false, x0)), (1, (false, x1)), (2, (true, x2)), (3, (true, x3)), (4, (true, x4)), (5, (true, x5)), (6, (true, x6)), (7, (true, x7))]) (by decide) rfl dL_isCompleted_20 ?_
  refine j_iload F 8 rfl dL_isCompleted_22 ?_
  refine j_if_ge F 31 (by decide) dL_isCompleted_24 h (fun h => ?_) (fun h => ?_)
  · skip
    refine j_iload_n F 4 rfl rfl dL_isCompleted_31 ?_
    refine j_iload F 8 rfl dL_isCompleted_32 ?_
    refine j_isub F dL_isCompleted_34 ?_
    refine j_sub (lv' := [(0, (false, x0)), (1, (false, x1)), (2, (true, x2)), (4, (true, x4)), (5, (true, x5)), (6, (true, x6)), (8, (true, y0))]) [1, 2, 3, 5, 6, 7, 0] rfl ?_
    exact w_L_isCompleted_35 F hno hnm x0 x1 x2 x4 x5 x6 y0 (x3 - x7) M h
  · skip
    refine j_iconst F dL_isCompleted_27 ?_
    refine j_goto F 35 (by decide) dL_isCompleted_28 ?_
    refine j_sub (lv' := [(0, (false, x0)), (1, (false, x1)), (2, (true, x2)), (4, (true, x4)), (5, (true, x5)), (6, (true, x6)), (8, (true, y0))]) [1, 2, 3, 5, 6, 7, 0] rfl ?_
    exact w_L_isCompleted_35 F hno hnm x0 x1 x2 x4 x5 x6 y0 0 M h
set_option maxHeartbeats 4000000 in
set_option maxRecDepth 100000 in
theorem w_L_isCompleted_0 {p : Program} {l : Launch} {e : Env} {R : Room} {s : State} {m : MethodId} {args : Array Value} {below : List Frame} {meth : Method} {c : Code} {G : Gt} {ρ0 : Int → Nat} {M0 : Mo} {res : RS} (F : Fx p l R s m args meth c cL_isCompleted 17 RL G M0 10 (some FieldType.boolean)) (hno : ∀ x ∈ c.exceptionTable.toList, False) (hnm : meth.name = yL_isCompleted.name) (x0 x1 x2 x3 x4 x5 x6 : Int) (M : Mo) (h : L_isCompleted x0 x1 x2 x3 x4 x5 x6 M = some res) : J p l e R s m args below meth c 17 G ρ0 M0 1 res M 0 [(0, (false, x0)), (1, (false, x1)), (2, (true, x2)), (3, (true, x3)), (4, (true, x4)), (5, (true, x5)), (6, (true, x6))] [] := by
  unfold L_isCompleted at h
  refine j_aload_n F 1 rfl rfl dL_isCompleted_0 ?_
  refine j_iload_n F 3 rfl rfl dL_isCompleted_1 ?_
  refine j_iload F 4 rfl dL_isCompleted_2 ?_
  refine j_callS (d' := 2) (argl := [(false, x1), (true, x3), (true, x4)]) (rk9 := 1) (st := []) F hno M_L_runAt q1649 q1648 ⟨by decide, by decide⟩ (Nat.le_of_ble_eq_true rfl) (by decide) dL_isCompleted_4 rfl h (fun z hz => c_L_runAt l F.ht G x1 x3 x4 M z hz) (fun v1 M2 h kl3 => ?_)
  refine j_st (st' := [(true, v1)]) rfl ?_
  refine j_istore F (lv' := [(7, (true, v1)), (0, (false, x0)), (1, (false, x1)), (2, (true, x2)), (3, (true, x3)), (4, (true, x4)), (5, (true, x5)), (6, (true, x6))]) (by decide) rfl dL_isCompleted_7 ?_
  refine j_iload F 0 rfl dL_isCompleted_9 ?_
  refine j_if_ge F 18 (by decide) dL_isCompleted_11 h (fun h => ?_) (fun h => ?_)
  · skip
    refine j_iload F 0 rfl dL_isCompleted_18 ?_
    refine j_sub (lv' := [(0, (false, x0)), (1, (false, x1)), (2, (true, x2)), (3, (true, x3)), (4, (true, x4)), (5, (true, x5)), (6, (true, x6)), (7, (true, v1))]) [1, 2, 3, 4, 5, 6, 7, 0] rfl ?_
    exact w_L_isCompleted_20 F hno hnm x0 x1 x2 x3 x4 x5 x6 v1 v1 M2 h
  · skip
    refine j_iconst F dL_isCompleted_14 ?_
    refine j_goto F 20 (by decide) dL_isCompleted_15 ?_
    refine j_sub (lv' := [(0, (false, x0)), (1, (false, x1)), (2, (true, x2)), (3, (true, x3)), (4, (true, x4)), (5, (true, x5)), (6, (true, x6)), (7, (true, v1))]) [1, 2, 3, 4, 5, 6, 7, 0] rfl ?_
    exact w_L_isCompleted_20 F hno hnm x0 x1 x2 x3 x4 x5 x6 v1 0 M2 h
theorem c_L_isCompleted (l : Launch) (hl : l.stackTraces = false) (G : Gt) (x0 x1 x2 x3 x4 x5 x6 : Int) (M : Mo) (z : RS) (h : L_isCompleted x0 x1 x2 x3 x4 x5 x6 M = some z) : CT l G yL_isCompleted (cn yL_isCompleted cL_isCompleted 17 (some FieldType.boolean)) 10 [(false, x0), (false, x1), (true, x2), (true, x3), (true, x4), (true, x5), (true, x6)] M 1 z :=
  ctOf hl (by decide) (Nat.le_of_ble_eq_true rfl) (fun p e R s m args below meth c ρ F hno hnm => w_L_isCompleted_0 F hno hnm x0 x1 x2 x3 x4 x5 x6 M h)
theorem dL_areTokens_0 : decode cL_areTokens 0 = .ok (.iconst 0, 1) := by decide +kernel
theorem dL_areTokens_1 : decode cL_areTokens 1 = .ok (.istore 6, 2) := by decide +kernel
theorem dL_areTokens_3 : decode cL_areTokens 3 = .ok (.iconst 0, 1) := by decide +kernel
theorem dL_areTokens_4 : decode cL_areTokens 4 = .ok (.istore 7, 2) := by decide +kernel
theorem dL_areTokens_6 : decode cL_areTokens 6 = .ok (.iconst 1, 1) := by decide +kernel
theorem dL_areTokens_7 : decode cL_areTokens 7 = .ok (.istore 8, 2) := by decide +kernel
theorem dL_areTokens_9 : decode cL_areTokens 9 = .ok (.iconst 0, 1) := by decide +kernel
theorem dL_areTokens_10 : decode cL_areTokens 10 = .ok (.istore 9, 2) := by decide +kernel
theorem dL_areTokens_12 : decode cL_areTokens 12 = .ok (.iload 9, 2) := by decide +kernel
theorem dL_areTokens_14 : decode cL_areTokens 14 = .ok (.aload_n 1, 1) := by decide +kernel
theorem dL_areTokens_15 : decode cL_areTokens 15 = .ok (.bipush 63, 2) := by decide +kernel
theorem dL_areTokens_17 : decode cL_areTokens 17 = .ok (.iaload, 1) := by decide +kernel
theorem dL_areTokens_18 : decode cL_areTokens 18 = .ok (.if_icmp .ge 232, 3) := by decide +kernel
theorem dL_areTokens_21 : decode cL_areTokens 21 = .ok (.iload 8, 2) := by decide +kernel
theorem dL_areTokens_23 : decode cL_areTokens 23 = .ok (.ifCond .eq 227, 3) := by decide +kernel
theorem dL_areTokens_26 : decode cL_areTokens 26 = .ok (.aload_n 1, 1) := by decide +kernel
theorem dL_areTokens_27 : decode cL_areTokens 27 = .ok (.iload 9, 2) := by decide +kernel
theorem dL_areTokens_29 : decode cL_areTokens 29 = .ok (.iload_n 3, 1) := by decide +kernel
theorem dL_areTokens_30 : decode cL_areTokens 30 = .ok (.invokestatic 138, 3) := by decide +kernel
theorem dL_areTokens_33 : decode cL_areTokens 33 = .ok (.ifCond .eq 211, 3) := by decide +kernel
theorem dL_areTokens_36 : decode cL_areTokens 36 = .ok (.aload_n 1, 1) := by decide +kernel
theorem dL_areTokens_37 : decode cL_areTokens 37 = .ok (.iload_n 2, 1) := by decide +kernel
theorem dL_areTokens_38 : decode cL_areTokens 38 = .ok (.iload 9, 2) := by decide +kernel
theorem dL_areTokens_40 : decode cL_areTokens 40 = .ok (.aload_n 1, 1) := by decide +kernel
theorem dL_areTokens_41 : decode cL_areTokens 41 = .ok (.iload 9, 2) := by decide +kernel
theorem dL_areTokens_43 : decode cL_areTokens 43 = .ok (.invokestatic 142, 3) := by decide +kernel
theorem dL_areTokens_46 : decode cL_areTokens 46 = .ok (.invokestatic 163, 3) := by decide +kernel
set_option maxRecDepth 100000 in
theorem q1681 : Cond.constant RL 166 (iI (2097152)) ∈ GT := gt 1681 (by decide +kernel) (by decide +kernel)
theorem dL_areTokens_49 : decode cL_areTokens 49 = .ok (.ldc 166, 2) := by decide +kernel
theorem dL_areTokens_51 : decode cL_areTokens 51 = .ok (.irem, 1) := by decide +kernel
theorem dL_areTokens_52 : decode cL_areTokens 52 = .ok (.istore 10, 2) := by decide +kernel
theorem dL_areTokens_54 : decode cL_areTokens 54 = .ok (.iload 10, 2) := by decide +kernel
theorem dL_areTokens_56 : decode cL_areTokens 56 = .ok (.sipush 16384, 3) := by decide +kernel
theorem dL_areTokens_59 : decode cL_areTokens 59 = .ok (.idiv, 1) := by decide +kernel
theorem dL_areTokens_60 : decode cL_areTokens 60 = .ok (.istore 11, 2) := by decide +kernel
theorem dL_areTokens_62 : decode cL_areTokens 62 = .ok (.iload 11, 2) := by decide +kernel
theorem dL_areTokens_64 : decode cL_areTokens 64 = .ok (.iload 7, 2) := by decide +kernel
theorem dL_areTokens_66 : decode cL_areTokens 66 = .ok (.sipush 16384, 3) := by decide +kernel
theorem dL_areTokens_69 : decode cL_areTokens 69 = .ok (.idiv, 1) := by decide +kernel
theorem dL_areTokens_70 : decode cL_areTokens 70 = .ok (.isub, 1) := by decide +kernel
theorem dL_areTokens_71 : decode cL_areTokens 71 = .ok (.istore 12, 2) := by decide +kernel
theorem dL_areTokens_73 : decode cL_areTokens 73 = .ok (.iload 10, 2) := by decide +kernel
theorem dL_areTokens_75 : decode cL_areTokens 75 = .ok (.sipush 128, 3) := by decide +kernel
theorem dL_areTokens_78 : decode cL_areTokens 78 = .ok (.idiv, 1) := by decide +kernel
theorem dL_areTokens_79 : decode cL_areTokens 79 = .ok (.sipush 128, 3) := by decide +kernel
theorem dL_areTokens_82 : decode cL_areTokens 82 = .ok (.irem, 1) := by decide +kernel
theorem dL_areTokens_83 : decode cL_areTokens 83 = .ok (.iload 6, 2) := by decide +kernel
theorem dL_areTokens_85 : decode cL_areTokens 85 = .ok (.ifCond .le 21, 3) := by decide +kernel
theorem dL_areTokens_88 : decode cL_areTokens 88 = .ok (.iload 12, 2) := by decide +kernel
theorem dL_areTokens_90 : decode cL_areTokens 90 = .ok (.ifCond .ne 16, 3) := by decide +kernel
theorem dL_areTokens_93 : decode cL_areTokens 93 = .ok (.iload 7, 2) := by decide +kernel
theorem dL_areTokens_95 : decode cL_areTokens 95 = .ok (.sipush 128, 3) := by decide +kernel
theorem dL_areTokens_98 : decode cL_areTokens 98 = .ok (.idiv, 1) := by decide +kernel
theorem dL_areTokens_99 : decode cL_areTokens 99 = .ok (.sipush 128, 3) := by decide +kernel
theorem dL_areTokens_102 : decode cL_areTokens 102 = .ok (.irem, 1) := by decide +kernel
theorem dL_areTokens_103 : decode cL_areTokens 103 = .ok (.goto 4, 3) := by decide +kernel
theorem dL_areTokens_106 : decode cL_areTokens 106 = .ok (.iconst 0, 1) := by decide +kernel
theorem dL_areTokens_107 : decode cL_areTokens 107 = .ok (.isub, 1) := by decide +kernel
theorem dL_areTokens_108 : decode cL_areTokens 108 = .ok (.istore 13, 2) := by decide +kernel
theorem dL_areTokens_110 : decode cL_areTokens 110 = .ok (.aload_n 0, 1) := by decide +kernel
theorem dL_areTokens_111 : decode cL_areTokens 111 = .ok (.bipush 7, 2) := by decide +kernel
theorem dL_areTokens_113 : decode cL_areTokens 113 = .ok (.iload 4, 2) := by decide +kernel
theorem dL_areTokens_115 : decode cL_areTokens 115 = .ok (.iload 5, 2) := by decide +kernel
theorem dL_areTokens_117 : decode cL_areTokens 117 = .ok (.iconst 4, 1) := by decide +kernel
theorem dL_areTokens_118 : decode cL_areTokens 118 = .ok (.iload 6, 2) := by decide +kernel
theorem dL_areTokens_120 : decode cL_areTokens 120 = .ok (.imul, 1) := by decide +kernel
theorem dL_areTokens_121 : decode cL_areTokens 121 = .ok (.invokestatic 116, 3) := by decide +kernel
theorem dL_areTokens_124 : decode cL_areTokens 124 = .ok (.iload 12, 2) := by decide +kernel
theorem dL_areTokens_126 : decode cL_areTokens 126 = .ok (.if_icmp .ne 108, 3) := by decide +kernel
theorem dL_areTokens_129 : decode cL_areTokens 129 = .ok (.aload_n 0, 1) := by decide +kernel
theorem dL_areTokens_130 : decode cL_areTokens 130 = .ok (.bipush 7, 2) := by decide +kernel
theorem dL_areTokens_132 : decode cL_areTokens 132 = .ok (.iload 4, 2) := by decide +kernel
theorem dL_areTokens_134 : decode cL_areTokens 134 = .ok (.iload 5, 2) := by decide +kernel
theorem dL_areTokens_136 : decode cL_areTokens 136 = .ok (.iconst 4, 1) := by decide +kernel
theorem dL_areTokens_137 : decode cL_areTokens 137 = .ok (.iload 6, 2) := by decide +kernel
theorem dL_areTokens_139 : decode cL_areTokens 139 = .ok (.imul, 1) := by decide +kernel
theorem dL_areTokens_140 : decode cL_areTokens 140 = .ok (.iconst 1, 1) := by decide +kernel
theorem dL_areTokens_141 : decode cL_areTokens 141 = .ok (.iadd, 1) := by decide +kernel
theorem dL_areTokens_142 : decode cL_areTokens 142 = .ok (.invokestatic 116, 3) := by decide +kernel
theorem dL_areTokens_145 : decode cL_areTokens 145 = .ok (.iload 13, 2) := by decide +kernel
theorem dL_areTokens_147 : decode cL_areTokens 147 = .ok (.if_icmp .ne 87, 3) := by decide +kernel
theorem dL_areTokens_150 : decode cL_areTokens 150 = .ok (.aload_n 0, 1) := by decide +kernel
theorem dL_areTokens_151 : decode cL_areTokens 151 = .ok (.bipush 7, 2) := by decide +kernel
theorem dL_areTokens_153 : decode cL_areTokens 153 = .ok (.iload 4, 2) := by decide +kernel
theorem dL_areTokens_155 : decode cL_areTokens 155 = .ok (.iload 5, 2) := by decide +kernel
theorem dL_areTokens_157 : decode cL_areTokens 157 = .ok (.iconst 4, 1) := by decide +kernel
theorem dL_areTokens_158 : decode cL_areTokens 158 = .ok (.iload 6, 2) := by decide +kernel
theorem dL_areTokens_160 : decode cL_areTokens 160 = .ok (.imul, 1) := by decide +kernel
theorem dL_areTokens_161 : decode cL_areTokens 161 = .ok (.iconst 2, 1) := by decide +kernel
theorem dL_areTokens_162 : decode cL_areTokens 162 = .ok (.iadd, 1) := by decide +kernel
theorem dL_areTokens_163 : decode cL_areTokens 163 = .ok (.invokestatic 116, 3) := by decide +kernel
theorem dL_areTokens_166 : decode cL_areTokens 166 = .ok (.iload 10, 2) := by decide +kernel
theorem dL_areTokens_168 : decode cL_areTokens 168 = .ok (.sipush 128, 3) := by decide +kernel
theorem dL_areTokens_171 : decode cL_areTokens 171 = .ok (.irem, 1) := by decide +kernel
theorem dL_areTokens_172 : decode cL_areTokens 172 = .ok (.if_icmp .ne 62, 3) := by decide +kernel
theorem dL_areTokens_175 : decode cL_areTokens 175 = .ok (.aload_n 0, 1) := by decide +kernel
theorem dL_areTokens_176 : decode cL_areTokens 176 = .ok (.bipush 7, 2) := by decide +kernel
theorem dL_areTokens_178 : decode cL_areTokens 178 = .ok (.iload 4, 2) := by decide +kernel
theorem dL_areTokens_180 : decode cL_areTokens 180 = .ok (.iload 5, 2) := by decide +kernel
theorem dL_areTokens_182 : decode cL_areTokens 182 = .ok (.iconst 4, 1) := by decide +kernel
theorem dL_areTokens_183 : decode cL_areTokens 183 = .ok (.iload 6, 2) := by decide +kernel
theorem dL_areTokens_185 : decode cL_areTokens 185 = .ok (.imul, 1) := by decide +kernel
theorem dL_areTokens_186 : decode cL_areTokens 186 = .ok (.iconst 3, 1) := by decide +kernel
theorem dL_areTokens_187 : decode cL_areTokens 187 = .ok (.iadd, 1) := by decide +kernel
theorem dL_areTokens_188 : decode cL_areTokens 188 = .ok (.invokestatic 116, 3) := by decide +kernel
theorem dL_areTokens_191 : decode cL_areTokens 191 = .ok (.aload_n 1, 1) := by decide +kernel
theorem dL_areTokens_192 : decode cL_areTokens 192 = .ok (.iload 9, 2) := by decide +kernel
theorem dL_areTokens_194 : decode cL_areTokens 194 = .ok (.iaload, 1) := by decide +kernel
theorem dL_areTokens_195 : decode cL_areTokens 195 = .ok (.invokestatic 132, 3) := by decide +kernel
theorem dL_areTokens_198 : decode cL_areTokens 198 = .ok (.ifCond .eq 7, 3) := by decide +kernel
theorem dL_areTokens_205 : decode cL_areTokens 205 = .ok (.iconst 1, 1) := by decide +kernel
theorem dL_areTokens_201 : decode cL_areTokens 201 = .ok (.iconst 0, 1) := by decide +kernel
theorem dL_areTokens_202 : decode cL_areTokens 202 = .ok (.goto 4, 3) := by decide +kernel
theorem dL_areTokens_206 : decode cL_areTokens 206 = .ok (.if_icmp .ne 28, 3) := by decide +kernel
theorem dL_areTokens_209 : decode cL_areTokens 209 = .ok (.aload_n 0, 1) := by decide +kernel
theorem dL_areTokens_210 : decode cL_areTokens 210 = .ok (.iconst 5, 1) := by decide +kernel
theorem dL_areTokens_211 : decode cL_areTokens 211 = .ok (.iload 4, 2) := by decide +kernel
theorem dL_areTokens_213 : decode cL_areTokens 213 = .ok (.iload 5, 2) := by decide +kernel
theorem dL_areTokens_215 : decode cL_areTokens 215 = .ok (.iload 6, 2) := by decide +kernel
theorem dL_areTokens_217 : decode cL_areTokens 217 = .ok (.invokestatic 116, 3) := by decide +kernel
theorem dL_areTokens_220 : decode cL_areTokens 220 = .ok (.iload_n 2, 1) := by decide +kernel
theorem dL_areTokens_221 : decode cL_areTokens 221 = .ok (.ldc 166, 2) := by decide +kernel
theorem dL_areTokens_223 : decode cL_areTokens 223 = .ok (.imul, 1) := by decide +kernel
theorem dL_areTokens_224 : decode cL_areTokens 224 = .ok (.iload 10, 2) := by decide +kernel
theorem dL_areTokens_226 : decode cL_areTokens 226 = .ok (.iadd, 1) := by decide +kernel
theorem dL_areTokens_227 : decode cL_areTokens 227 = .ok (.if_icmp .ne 7, 3) := by decide +kernel
theorem dL_areTokens_230 : decode cL_areTokens 230 = .ok (.iconst 1, 1) := by decide +kernel
theorem dL_areTokens_231 : decode cL_areTokens 231 = .ok (.goto 4, 3) := by decide +kernel
theorem dL_areTokens_234 : decode cL_areTokens 234 = .ok (.iconst 0, 1) := by decide +kernel
theorem dL_areTokens_235 : decode cL_areTokens 235 = .ok (.istore 8, 2) := by decide +kernel
theorem dL_areTokens_237 : decode cL_areTokens 237 = .ok (.iload 10, 2) := by decide +kernel
theorem dL_areTokens_239 : decode cL_areTokens 239 = .ok (.istore 7, 2) := by decide +kernel
theorem dL_areTokens_241 : decode cL_areTokens 241 = .ok (.iinc 6 1, 3) := by decide +kernel
theorem dL_areTokens_244 : decode cL_areTokens 244 = .ok (.iinc 9 1, 3) := by decide +kernel
theorem dL_areTokens_247 : decode cL_areTokens 247 = .ok (.goto (-235), 3) := by decide +kernel
theorem dL_areTokens_250 : decode cL_areTokens 250 = .ok (.iload 8, 2) := by decide +kernel
theorem dL_areTokens_252 : decode cL_areTokens 252 = .ok (.ifCond .eq 62, 3) := by decide +kernel
theorem dL_areTokens_314 : decode cL_areTokens 314 = .ok (.iconst 0, 1) := by decide +kernel
theorem dL_areTokens_315 : decode cL_areTokens 315 = .ok (.ireturn, 1) := by decide +kernel
theorem dL_areTokens_255 : decode cL_areTokens 255 = .ok (.aload_n 0, 1) := by decide +kernel
theorem dL_areTokens_256 : decode cL_areTokens 256 = .ok (.iload 4, 2) := by decide +kernel
theorem dL_areTokens_258 : decode cL_areTokens 258 = .ok (.iload 5, 2) := by decide +kernel
theorem dL_areTokens_260 : decode cL_areTokens 260 = .ok (.invokevirtual 87, 3) := by decide +kernel
theorem dL_areTokens_263 : decode cL_areTokens 263 = .ok (.bipush 10, 2) := by decide +kernel
theorem dL_areTokens_265 : decode cL_areTokens 265 = .ok (.iload 6, 2) := by decide +kernel
theorem dL_areTokens_267 : decode cL_areTokens 267 = .ok (.imul, 1) := by decide +kernel
theorem dL_areTokens_268 : decode cL_areTokens 268 = .ok (.iconst 1, 1) := by decide +kernel
theorem dL_areTokens_269 : decode cL_areTokens 269 = .ok (.iadd, 1) := by decide +kernel
theorem dL_areTokens_270 : decode cL_areTokens 270 = .ok (.if_icmp .ne 44, 3) := by decide +kernel
theorem dL_areTokens_273 : decode cL_areTokens 273 = .ok (.aload_n 0, 1) := by decide +kernel
theorem dL_areTokens_274 : decode cL_areTokens 274 = .ok (.bipush 7, 2) := by decide +kernel
theorem dL_areTokens_276 : decode cL_areTokens 276 = .ok (.iload 4, 2) := by decide +kernel
theorem dL_areTokens_278 : decode cL_areTokens 278 = .ok (.iload 5, 2) := by decide +kernel
theorem dL_areTokens_280 : decode cL_areTokens 280 = .ok (.iconst 4, 1) := by decide +kernel
theorem dL_areTokens_281 : decode cL_areTokens 281 = .ok (.iload 6, 2) := by decide +kernel
theorem dL_areTokens_283 : decode cL_areTokens 283 = .ok (.imul, 1) := by decide +kernel
theorem dL_areTokens_284 : decode cL_areTokens 284 = .ok (.invokestatic 116, 3) := by decide +kernel
theorem dL_areTokens_287 : decode cL_areTokens 287 = .ok (.sipush (-3000), 3) := by decide +kernel
theorem dL_areTokens_290 : decode cL_areTokens 290 = .ok (.if_icmp .ne 24, 3) := by decide +kernel
theorem dL_areTokens_293 : decode cL_areTokens 293 = .ok (.aload_n 0, 1) := by decide +kernel
theorem dL_areTokens_294 : decode cL_areTokens 294 = .ok (.bipush 7, 2) := by decide +kernel
theorem dL_areTokens_296 : decode cL_areTokens 296 = .ok (.iload 4, 2) := by decide +kernel
theorem dL_areTokens_298 : decode cL_areTokens 298 = .ok (.iload 5, 2) := by decide +kernel
theorem dL_areTokens_300 : decode cL_areTokens 300 = .ok (.iconst (-1), 1) := by decide +kernel
theorem dL_areTokens_301 : decode cL_areTokens 301 = .ok (.invokestatic 116, 3) := by decide +kernel
theorem dL_areTokens_304 : decode cL_areTokens 304 = .ok (.sipush (-3000), 3) := by decide +kernel
theorem dL_areTokens_307 : decode cL_areTokens 307 = .ok (.if_icmp .ne 7, 3) := by decide +kernel
theorem dL_areTokens_310 : decode cL_areTokens 310 = .ok (.iconst 1, 1) := by decide +kernel
theorem dL_areTokens_311 : decode cL_areTokens 311 = .ok (.goto 4, 3) := by decide +kernel
set_option maxHeartbeats 4000000 in
set_option maxRecDepth 100000 in
theorem w_L_areTokens_244 {p : Program} {l : Launch} {e : Env} {R : Room} {s : State} {m : MethodId} {args : Array Value} {below : List Frame} {meth : Method} {c : Code} {G : Gt} {ρ0 : Int → Nat} {M0 : Mo} {res : RS} (F : Fx p l R s m args meth c cL_areTokens 14 RL G M0 10 (some FieldType.boolean)) (hno : ∀ x ∈ c.exceptionTable.toList, False) (hnm : meth.name = yL_areTokens.name) (k12 : Int → Int → Int → Int → Int → Int → Int → Int → Int → Int → Mo → Option RS) (hk12 : ∀ (x0 x1 x2 x3 x4 x5 x6 x7 x8 x9 : Int) (M : Mo), k12 x0 x1 x2 x3 x4 x5 x6 x7 x8 x9 M = some res → J p l e R s m args below meth c 14 G ρ0 M0 1 res M 12 [(0, (false, x0)), (1, (false, x1)), (2, (true, x2)), (3, (true, x3)), (4, (true, x4)), (5, (true, x5)), (6, (true, x6)), (7, (true, x7)), (8, (true, x8)), (9, (true, x9))] []) (x0 x1 x2 x3 x4 x5 x6 x7 x8 x9 : Int) (M : Mo) (h : L_areTokens_244 k12 x0 x1 x2 x3 x4 x5 x6 x7 x8 x9 M = some res) : J p l e R s m args below meth c 14 G ρ0 M0 1 res M 244 [(0, (false, x0)), (1, (false, x1)), (2, (true, x2)), (3, (true, x3)), (4, (true, x4)), (5, (true, x5)), (6, (true, x6)), (7, (true, x7)), (8, (true, x8)), (9, (true, x9))] [] := by
  unfold L_areTokens_244 at h
  refine j_iinc F 9 (lv' := [(9, (true, (x9 + 1))), (0, (false, x0)), (1, (false, x1)), (2, (true, x2)), (3, (true, x3)), (4, (true, x4)), (5, (true, x5)), (6, (true, x6)), (7, (true, x7)), (8, (true, x8))]) rfl (by decide) rfl dL_areTokens_244 ?_
  refine j_goto F 12 (by decide) dL_areTokens_247 ?_
  refine j_sub (lv' := [(0, (false, x0)), (1, (false, x1)), (2, (true, x2)), (3, (true, x3)), (4, (true, x4)), (5, (true, x5)), (6, (true, x6)), (7, (true, x7)), (8, (true, x8)), (9, (true, (x9 + 1)))]) [1, 2, 3, 4, 5, 6, 7, 8, 9, 0] rfl ?_
  exact hk12 x0 x1 x2 x3 x4 x5 x6 x7 x8 (x9 + 1) M h
set_option maxHeartbeats 4000000 in
set_option maxRecDepth 100000 in
theorem w_L_areTokens_235 {p : Program} {l : Launch} {e : Env} {R : Room} {s : State} {m : MethodId} {args : Array Value} {below : List Frame} {meth : Method} {c : Code} {G : Gt} {ρ0 : Int → Nat} {M0 : Mo} {res : RS} (F : Fx p l R s m args meth c cL_areTokens 14 RL G M0 10 (some FieldType.boolean)) (hno : ∀ x ∈ c.exceptionTable.toList, False) (hnm : meth.name = yL_areTokens.name) (k12 : Int → Int → Int → Int → Int → Int → Int → Int → Int → Int → Mo → Option RS) (hk12 : ∀ (x0 x1 x2 x3 x4 x5 x6 x7 x8 x9 : Int) (M : Mo), k12 x0 x1 x2 x3 x4 x5 x6 x7 x8 x9 M = some res → J p l e R s m args below meth c 14 G ρ0 M0 1 res M 12 [(0, (false, x0)), (1, (false, x1)), (2, (true, x2)), (3, (true, x3)), (4, (true, x4)), (5, (true, x5)), (6, (true, x6)), (7, (true, x7)), (8, (true, x8)), (9, (true, x9))] []) (x0 x1 x2 x3 x4 x5 x6 x9 x10 y0 : Int) (M : Mo) (h : L_areTokens_235 k12 x0 x1 x2 x3 x4 x5 x6 x9 x10 y0 M = some res) : J p l e R s m args below meth c 14 G ρ0 M0 1 res M 235 [(0, (false, x0)), (1, (false, x1)), (2, (true, x2)), (3, (true, x3)), (4, (true, x4)), (5, (true, x5)), (6, (true, x6)), (9, (true, x9)), (10, (true, x10))] [(true, y0)] := by
  unfold L_areTokens_235 at h
  refine j_istore F (lv' := [(8, (true, y0)), (0, (false, x0)), (1, (false, x1)), (2, (true, x2)), (3, (true, x3)), (4, (true, x4)), (5, (true, x5)), (6, (true, x6)), (9, (true, x9)), (10, (true, x10))]) (by decide) rfl dL_areTokens_235 ?_
  refine j_iload F 9 rfl dL_areTokens_237 ?_
  refine j_istore F (lv' := [(7, (true, x10)), (8, (true, y0)), (0, (false, x0)), (1, (false, x1)), (2, (true, x2)), (3, (true, x3)), (4, (true, x4)), (5, (true, x5)), (6, (true, x6)), (9, (true, x9)), (10, (true, x10))]) (by decide) rfl dL_areTokens_239 ?_
  refine j_iinc F 8 (lv' := [(6, (true, (x6 + 1))), (7, (true, x10)), (8, (true, y0)), (0, (false, x0)), (1, (false, x1)), (2, (true, x2)), (3, (true, x3)), (4, (true, x4)), (5, (true, x5)), (9, (true, x9)), (10, (true, x10))]) rfl (by decide) rfl dL_areTokens_241 ?_
  refine j_sub (lv' := [(0, (false, x0)), (1, (false, x1)), (2, (true, x2)), (3, (true, x3)), (4, (true, x4)), (5, (true, x5)), (6, (true, (x6 + 1))), (7, (true, x10)), (8, (true, y0)), (9, (true, x9))]) [3, 4, 5, 6, 7, 8, 0, 1, 2, 9] rfl ?_
  exact w_L_areTokens_244 F hno hnm k12 hk12 x0 x1 x2 x3 x4 x5 (x6 + 1) x10 y0 x9 M h
set_option maxHeartbeats 4000000 in
set_option maxRecDepth 100000 in
theorem w_L_areTokens_234 {p : Program} {l : Launch} {e : Env} {R : Room} {s : State} {m : MethodId} {args : Array Value} {below : List Frame} {meth : Method} {c : Code} {G : Gt} {ρ0 : Int → Nat} {M0 : Mo} {res : RS} (F : Fx p l R s m args meth c cL_areTokens 14 RL G M0 10 (some FieldType.boolean)) (hno : ∀ x ∈ c.exceptionTable.toList, False) (hnm : meth.name = yL_areTokens.name) (k12 : Int → Int → Int → Int → Int → Int → Int → Int → Int → Int → Mo → Option RS) (hk12 : ∀ (x0 x1 x2 x3 x4 x5 x6 x7 x8 x9 : Int) (M : Mo), k12 x0 x1 x2 x3 x4 x5 x6 x7 x8 x9 M = some res → J p l e R s m args below meth c 14 G ρ0 M0 1 res M 12 [(0, (false, x0)), (1, (false, x1)), (2, (true, x2)), (3, (true, x3)), (4, (true, x4)), (5, (true, x5)), (6, (true, x6)), (7, (true, x7)), (8, (true, x8)), (9, (true, x9))] []) (x0 x1 x2 x3 x4 x5 x6 x9 x10 : Int) (M : Mo) (h : L_areTokens_234 k12 x0 x1 x2 x3 x4 x5 x6 x9 x10 M = some res) : J p l e R s m args below meth c 14 G ρ0 M0 1 res M 234 [(0, (false, x0)), (1, (false, x1)), (2, (true, x2)), (3, (true, x3)), (4, (true, x4)), (5, (true, x5)), (6, (true, x6)), (9, (true, x9)), (10, (true, x10))] [] := by
  unfold L_areTokens_234 at h
  refine j_iconst F dL_areTokens_234 ?_
  refine j_sub (lv' := [(0, (false, x0)), (1, (false, x1)), (2, (true, x2)), (3, (true, x3)), (4, (true, x4)), (5, (true, x5)), (6, (true, x6)), (9, (true, x9)), (10, (true, x10))]) [0, 1, 2, 3, 4, 5, 6, 7, 8] rfl ?_
  exact w_L_areTokens_235 F hno hnm k12 hk12 x0 x1 x2 x3 x4 x5 x6 x9 x10 0 M h
set_option maxHeartbeats 4000000 in
set_option maxRecDepth 100000 in
theorem w_L_areTokens_206 {p : Program} {l : Launch} {e : Env} {R : Room} {s : State} {m : MethodId} {args : Array Value} {below : List Frame} {meth : Method} {c : Code} {G : Gt} {ρ0 : Int → Nat} {M0 : Mo} {res : RS} (F : Fx p l R s m args meth c cL_areTokens 14 RL G M0 10 (some FieldType.boolean)) (hno : ∀ x ∈ c.exceptionTable.toList, False) (hnm : meth.name = yL_areTokens.name) (k12 : Int → Int → Int → Int → Int → Int → Int → Int → Int → Int → Mo → Option RS) (hk12 : ∀ (x0 x1 x2 x3 x4 x5 x6 x7 x8 x9 : Int) (M : Mo), k12 x0 x1 x2 x3 x4 x5 x6 x7 x8 x9 M = some res → J p l e R s m args below meth c 14 G ρ0 M0 1 res M 12 [(0, (false, x0)), (1, (false, x1)), (2, (true, x2)), (3, (true, x3)), (4, (true, x4)), (5, (true, x5)), (6, (true, x6)), (7, (true, x7)), (8, (true, x8)), (9, (true, x9))] []) (x0 x1 x2 x3 x4 x5 x6 x9 x10 y0 y1 : Int) (M : Mo) (h : L_areTokens_206 k12 x0 x1 x2 x3 x4 x5 x6 x9 x10 y0 y1 M = some res) : J p l e R s m args below meth c 14 G ρ0 M0 1 res M 206 [(0, (false, x0)), (1, (false, x1)), (2, (true, x2)), (3, (true, x3)), (4, (true, x4)), (5, (true, x5)), (6, (true, x6)), (9, (true, x9)), (10, (true, x10))] [(true, y1), (true, y0)] := by
  unfold L_areTokens_206 at h
  refine j_icmp_ne F 234 (by decide) dL_areTokens_206 h (fun h => ?_) (fun h => ?_)
  · skip
    refine j_sub (lv' := [(0, (false, x0)), (1, (false, x1)), (2, (true, x2)), (3, (true, x3)), (4, (true, x4)), (5, (true, x5)), (6, (true, x6)), (9, (true, x9)), (10, (true, x10))]) [0, 1, 2, 3, 4, 5, 6, 7, 8] rfl ?_
    exact w_L_areTokens_234 F hno hnm k12 hk12 x0 x1 x2 x3 x4 x5 x6 x9 x10 M h
  · skip
    refine j_aload_n F 0 rfl rfl dL_areTokens_209 ?_
    refine j_iconst F dL_areTokens_210 ?_
    refine j_iload F 4 rfl dL_areTokens_211 ?_
    refine j_iload F 5 rfl dL_areTokens_213 ?_
    refine j_iload F 6 rfl dL_areTokens_215 ?_
    refine j_callX (d' := 9) (argl := [(false, x0), (true, 5), (true, x4), (true, x5), (true, x6)]) (rk9 := 1) (st := []) F hno M_L_asks q1512 q1511 ⟨by decide, by decide⟩ (Nat.le_of_ble_eq_true rfl) (by decide) dL_areTokens_217 rfl h (fun z hz => c_L_asks l F.ht G x0 5 x4 x5 x6 M z hz) (fun v1 M2 h kl3 => ?_)
    refine j_st (st' := [(true, v1)]) rfl ?_
    refine j_iload_n F 2 rfl rfl dL_areTokens_220 ?_
    refine j_ldc (n := 2097152) F q1681 dL_areTokens_221 ?_
    refine j_imul F dL_areTokens_223 ?_
    refine j_iload F 8 rfl dL_areTokens_224 ?_
    refine j_iadd F dL_areTokens_226 ?_
    refine j_icmp_ne F 234 (by decide) dL_areTokens_227 h (fun h => ?_) (fun h => ?_)
    · skip
      refine j_sub (lv' := [(0, (false, x0)), (1, (false, x1)), (2, (true, x2)), (3, (true, x3)), (4, (true, x4)), (5, (true, x5)), (6, (true, x6)), (9, (true, x9)), (10, (true, x10))]) [0, 1, 2, 3, 4, 5, 6, 7, 8] rfl ?_
      exact w_L_areTokens_234 F hno hnm k12 hk12 x0 x1 x2 x3 x4 x5 x6 x9 x10 M2 h
    · skip
      refine j_iconst F dL_areTokens_230 ?_
      refine j_goto F 235 (by decide) dL_areTokens_231 ?_
      refine j_sub (lv' := [(0, (false, x0)), (1, (false, x1)), (2, (true, x2)), (3, (true, x3)), (4, (true, x4)), (5, (true, x5)), (6, (true, x6)), (9, (true, x9)), (10, (true, x10))]) [0, 1, 2, 3, 4, 5, 6, 7, 8] rfl ?_
      exact w_L_areTokens_235 F hno hnm k12 hk12 x0 x1 x2 x3 x4 x5 x6 x9 x10 1 M2 h
set_option maxHeartbeats 4000000 in
set_option maxRecDepth 100000 in
theorem w_L_areTokens_107 {p : Program} {l : Launch} {e : Env} {R : Room} {s : State} {m : MethodId} {args : Array Value} {below : List Frame} {meth : Method} {c : Code} {G : Gt} {ρ0 : Int → Nat} {M0 : Mo} {res : RS} (F : Fx p l R s m args meth c cL_areTokens 14 RL G M0 10 (some FieldType.boolean)) (hno : ∀ x ∈ c.exceptionTable.toList, False) (hnm : meth.name = yL_areTokens.name) (k12 : Int → Int → Int → Int → Int → Int → Int → Int → Int → Int → Mo → Option RS) (hk12 : ∀ (x0 x1 x2 x3 x4 x5 x6 x7 x8 x9 : Int) (M : Mo), k12 x0 x1 x2 x3 x4 x5 x6 x7 x8 x9 M = some res → J p l e R s m args below meth c 14 G ρ0 M0 1 res M 12 [(0, (false, x0)), (1, (false, x1)), (2, (true, x2)), (3, (true, x3)), (4, (true, x4)), (5, (true, x5)), (6, (true, x6)), (7, (true, x7)), (8, (true, x8)), (9, (true, x9))] []) (x0 x1 x2 x3 x4 x5 x6 x9 x10 x12 y0 y1 : Int) (M : Mo) (h : L_areTokens_107 k12 x0 x1 x2 x3 x4 x5 x6 x9 x10 x12 y0 y1 M = some res) : J p l e R s m args below meth c 14 G ρ0 M0 1 res M 107 [(0, (false, x0)), (1, (false, x1)), (2, (true, x2)), (3, (true, x3)), (4, (true, x4)), (5, (true, x5)), (6, (true, x6)), (9, (true, x9)), (10, (true, x10)), (12, (true, x12))] [(true, y1), (true, y0)] := by
  unfold L_areTokens_107 at h
  refine j_isub F dL_areTokens_107 ?_
  refine j_istore F (lv' := [(13, (true, (y0 - y1))), (0, (false, x0)), (1, (false, x1)), (2, (true, x2)), (3, (true, x3)), (4, (true, x4)), (5, (true, x5)), (6, (true, x6)), (9, (true, x9)), (10, (true, x10)), (12, (true, x12))]) (by decide) rfl dL_areTokens_108 ?_
  refine j_aload_n F 1 rfl rfl dL_areTokens_110 ?_
  refine j_bipush F (by decide) dL_areTokens_111 ?_
  refine j_iload F 5 rfl dL_areTokens_113 ?_
  refine j_iload F 6 rfl dL_areTokens_115 ?_
  refine j_iconst F dL_areTokens_117 ?_
  refine j_iload F 7 rfl dL_areTokens_118 ?_
  refine j_imul F dL_areTokens_120 ?_
  refine j_callX (d' := 9) (argl := [(false, x0), (true, 7), (true, x4), (true, x5), (true, (4 * x6))]) (rk9 := 1) (st := []) F hno M_L_asks q1512 q1511 ⟨by decide, by decide⟩ (Nat.le_of_ble_eq_true rfl) (by decide) dL_areTokens_121 rfl h (fun z hz => c_L_asks l F.ht G x0 7 x4 x5 (4 * x6) M z hz) (fun v1 M2 h kl3 => ?_)
  refine j_st (st' := [(true, v1)]) rfl ?_
  refine j_iload F 10 rfl dL_areTokens_124 ?_
  refine j_icmp_ne F 234 (by decide) dL_areTokens_126 h (fun h => ?_) (fun h => ?_)
  · skip
    refine j_sub (lv' := [(0, (false, x0)), (1, (false, x1)), (2, (true, x2)), (3, (true, x3)), (4, (true, x4)), (5, (true, x5)), (6, (true, x6)), (9, (true, x9)), (10, (true, x10))]) [1, 2, 3, 4, 5, 6, 7, 8, 9] rfl ?_
    exact w_L_areTokens_234 F hno hnm k12 hk12 x0 x1 x2 x3 x4 x5 x6 x9 x10 M2 h
  · skip
    refine j_aload_n F 1 rfl rfl dL_areTokens_129 ?_
    refine j_bipush F (by decide) dL_areTokens_130 ?_
    refine j_iload F 5 rfl dL_areTokens_132 ?_
    refine j_iload F 6 rfl dL_areTokens_134 ?_
    refine j_iconst F dL_areTokens_136 ?_
    refine j_iload F 7 rfl dL_areTokens_137 ?_
    refine j_imul F dL_areTokens_139 ?_
    refine j_iconst F dL_areTokens_140 ?_
    refine j_iadd F dL_areTokens_141 ?_
    refine j_callX (d' := 9) (argl := [(false, x0), (true, 7), (true, x4), (true, x5), (true, ((4 * x6) + 1))]) (rk9 := 1) (st := []) F hno M_L_asks q1512 q1511 ⟨by decide, by decide⟩ (Nat.le_of_ble_eq_true rfl) (by decide) dL_areTokens_142 rfl h (fun z hz => c_L_asks l F.ht G x0 7 x4 x5 ((4 * x6) + 1) M2 z hz) (fun v4 M5 h kl6 => ?_)
    refine j_st (st' := [(true, v4)]) rfl ?_
    refine j_iload F 0 rfl dL_areTokens_145 ?_
    refine j_icmp_ne F 234 (by decide) dL_areTokens_147 h (fun h => ?_) (fun h => ?_)
    · skip
      refine j_sub (lv' := [(0, (false, x0)), (1, (false, x1)), (2, (true, x2)), (3, (true, x3)), (4, (true, x4)), (5, (true, x5)), (6, (true, x6)), (9, (true, x9)), (10, (true, x10))]) [1, 2, 3, 4, 5, 6, 7, 8, 9] rfl ?_
      exact w_L_areTokens_234 F hno hnm k12 hk12 x0 x1 x2 x3 x4 x5 x6 x9 x10 M5 h
    · skip
      refine j_aload_n F 1 rfl rfl dL_areTokens_150 ?_
      refine j_bipush F (by decide) dL_areTokens_151 ?_
      refine j_iload F 5 rfl dL_areTokens_153 ?_
      refine j_iload F 6 rfl dL_areTokens_155 ?_
      refine j_iconst F dL_areTokens_157 ?_
      refine j_iload F 7 rfl dL_areTokens_158 ?_
      refine j_imul F dL_areTokens_160 ?_
      refine j_iconst F dL_areTokens_161 ?_
      refine j_iadd F dL_areTokens_162 ?_
      refine j_callX (d' := 9) (argl := [(false, x0), (true, 7), (true, x4), (true, x5), (true, ((4 * x6) + 2))]) (rk9 := 1) (st := []) F hno M_L_asks q1512 q1511 ⟨by decide, by decide⟩ (Nat.le_of_ble_eq_true rfl) (by decide) dL_areTokens_163 rfl h (fun z hz => c_L_asks l F.ht G x0 7 x4 x5 ((4 * x6) + 2) M5 z hz) (fun v7 M8 h kl9 => ?_)
      refine j_st (st' := [(true, v7)]) rfl ?_
      refine j_iload F 9 rfl dL_areTokens_166 ?_
      refine j_sipush F (by decide) dL_areTokens_168 ?_
      refine j_irem F (by decide) dL_areTokens_171 ?_
      refine j_icmp_ne F 234 (by decide) dL_areTokens_172 h (fun h => ?_) (fun h => ?_)
      · skip
        refine j_sub (lv' := [(0, (false, x0)), (1, (false, x1)), (2, (true, x2)), (3, (true, x3)), (4, (true, x4)), (5, (true, x5)), (6, (true, x6)), (9, (true, x9)), (10, (true, x10))]) [1, 2, 3, 4, 5, 6, 7, 8, 9] rfl ?_
        exact w_L_areTokens_234 F hno hnm k12 hk12 x0 x1 x2 x3 x4 x5 x6 x9 x10 M8 h
      · skip
        refine j_aload_n F 1 rfl rfl dL_areTokens_175 ?_
        refine j_bipush F (by decide) dL_areTokens_176 ?_
        refine j_iload F 5 rfl dL_areTokens_178 ?_
        refine j_iload F 6 rfl dL_areTokens_180 ?_
        refine j_iconst F dL_areTokens_182 ?_
        refine j_iload F 7 rfl dL_areTokens_183 ?_
        refine j_imul F dL_areTokens_185 ?_
        refine j_iconst F dL_areTokens_186 ?_
        refine j_iadd F dL_areTokens_187 ?_
        refine j_callX (d' := 9) (argl := [(false, x0), (true, 7), (true, x4), (true, x5), (true, ((4 * x6) + 3))]) (rk9 := 1) (st := []) F hno M_L_asks q1512 q1511 ⟨by decide, by decide⟩ (Nat.le_of_ble_eq_true rfl) (by decide) dL_areTokens_188 rfl h (fun z hz => c_L_asks l F.ht G x0 7 x4 x5 ((4 * x6) + 3) M8 z hz) (fun v10 M11 h kl12 => ?_)
        refine j_st (st' := [(true, v10)]) rfl ?_
        refine j_aload_n F 2 rfl rfl dL_areTokens_191 ?_
        refine j_iload F 8 rfl dL_areTokens_192 ?_
        obtain ⟨g13, h⟩ := gua h
        obtain ⟨g14, h⟩ := gua h
        refine j_iaload F g13 g14 dL_areTokens_194 ?_
        refine j_callS (d' := 0) (argl := [(true, (el M11 0 x1 (wr x9)))]) (rk9 := 1) (st := [(true, v10)]) F hno M_L_isLetter q1655 q1654 ⟨by decide, by decide⟩ (Nat.le_of_ble_eq_true rfl) (by decide) dL_areTokens_195 rfl h (fun z hz => c_L_isLetter l F.ht G (el M11 0 x1 (wr x9)) M11 z hz) (fun v15 M16 h kl17 => ?_)
        refine j_st (st' := [(true, v15), (true, v10)]) rfl ?_
        refine j_if_eq F 205 (by decide) dL_areTokens_198 h (fun h => ?_) (fun h => ?_)
        · skip
          refine j_iconst F dL_areTokens_205 ?_
          refine j_sub (lv' := [(0, (false, x0)), (1, (false, x1)), (2, (true, x2)), (3, (true, x3)), (4, (true, x4)), (5, (true, x5)), (6, (true, x6)), (9, (true, x9)), (10, (true, x10))]) [1, 2, 3, 4, 5, 6, 7, 8, 9] rfl ?_
          exact w_L_areTokens_206 F hno hnm k12 hk12 x0 x1 x2 x3 x4 x5 x6 x9 x10 v10 1 M16 h
        · skip
          refine j_iconst F dL_areTokens_201 ?_
          refine j_goto F 206 (by decide) dL_areTokens_202 ?_
          refine j_sub (lv' := [(0, (false, x0)), (1, (false, x1)), (2, (true, x2)), (3, (true, x3)), (4, (true, x4)), (5, (true, x5)), (6, (true, x6)), (9, (true, x9)), (10, (true, x10))]) [1, 2, 3, 4, 5, 6, 7, 8, 9] rfl ?_
          exact w_L_areTokens_206 F hno hnm k12 hk12 x0 x1 x2 x3 x4 x5 x6 x9 x10 v10 0 M16 h
set_option maxHeartbeats 4000000 in
set_option maxRecDepth 100000 in
theorem w_L_areTokens_106 {p : Program} {l : Launch} {e : Env} {R : Room} {s : State} {m : MethodId} {args : Array Value} {below : List Frame} {meth : Method} {c : Code} {G : Gt} {ρ0 : Int → Nat} {M0 : Mo} {res : RS} (F : Fx p l R s m args meth c cL_areTokens 14 RL G M0 10 (some FieldType.boolean)) (hno : ∀ x ∈ c.exceptionTable.toList, False) (hnm : meth.name = yL_areTokens.name) (k12 : Int → Int → Int → Int → Int → Int → Int → Int → Int → Int → Mo → Option RS) (hk12 : ∀ (x0 x1 x2 x3 x4 x5 x6 x7 x8 x9 : Int) (M : Mo), k12 x0 x1 x2 x3 x4 x5 x6 x7 x8 x9 M = some res → J p l e R s m args below meth c 14 G ρ0 M0 1 res M 12 [(0, (false, x0)), (1, (false, x1)), (2, (true, x2)), (3, (true, x3)), (4, (true, x4)), (5, (true, x5)), (6, (true, x6)), (7, (true, x7)), (8, (true, x8)), (9, (true, x9))] []) (x0 x1 x2 x3 x4 x5 x6 x9 x10 x12 y0 : Int) (M : Mo) (h : L_areTokens_106 k12 x0 x1 x2 x3 x4 x5 x6 x9 x10 x12 y0 M = some res) : J p l e R s m args below meth c 14 G ρ0 M0 1 res M 106 [(0, (false, x0)), (1, (false, x1)), (2, (true, x2)), (3, (true, x3)), (4, (true, x4)), (5, (true, x5)), (6, (true, x6)), (9, (true, x9)), (10, (true, x10)), (12, (true, x12))] [(true, y0)] := by
  unfold L_areTokens_106 at h
  refine j_iconst F dL_areTokens_106 ?_
  refine j_sub (lv' := [(0, (false, x0)), (1, (false, x1)), (2, (true, x2)), (3, (true, x3)), (4, (true, x4)), (5, (true, x5)), (6, (true, x6)), (9, (true, x9)), (10, (true, x10)), (12, (true, x12))]) [0, 1, 2, 3, 4, 5, 6, 7, 8, 9] rfl ?_
  exact w_L_areTokens_107 F hno hnm k12 hk12 x0 x1 x2 x3 x4 x5 x6 x9 x10 x12 y0 0 M h
set_option maxHeartbeats 4000000 in
set_option maxRecDepth 100000 in
theorem w_L_areTokens_250 {p : Program} {l : Launch} {e : Env} {R : Room} {s : State} {m : MethodId} {args : Array Value} {below : List Frame} {meth : Method} {c : Code} {G : Gt} {ρ0 : Int → Nat} {M0 : Mo} {res : RS} (F : Fx p l R s m args meth c cL_areTokens 14 RL G M0 10 (some FieldType.boolean)) (hno : ∀ x ∈ c.exceptionTable.toList, False) (hnm : meth.name = yL_areTokens.name) (x0 x4 x5 x6 x8 : Int) (M : Mo) (h : L_areTokens_250 x0 x4 x5 x6 x8 M = some res) : J p l e R s m args below meth c 14 G ρ0 M0 1 res M 250 [(0, (false, x0)), (4, (true, x4)), (5, (true, x5)), (6, (true, x6)), (8, (true, x8))] [] := by
  unfold L_areTokens_250 at h
  refine j_iload F 4 rfl dL_areTokens_250 ?_
  refine j_if_eq F 314 (by decide) dL_areTokens_252 h (fun h => ?_) (fun h => ?_)
  · skip
    refine j_iconst F dL_areTokens_314 ?_
    exact j_zret F (by decide) h dL_areTokens_315
  · skip
    refine j_aload_n F 0 rfl rfl dL_areTokens_255 ?_
    refine j_iload F 1 rfl dL_areTokens_256 ?_
    refine j_iload F 2 rfl dL_areTokens_258 ?_
    obtain ⟨g4, h⟩ := gua h
    refine j_callV (d' := 7) (argl := [(true, x4), (true, x5)]) (rk9 := 1) (st := []) F hno M_X11_standing q1542 q1543 q1541 ⟨by decide, by decide⟩ (Nat.le_of_ble_eq_true rfl) (by decide) (ci := 12) rfl (by decide) g4 dL_areTokens_260 rfl h (fun z hz => c_X11_standing l F.ht G x0 x4 x5 M z hz) (fun v1 M2 h kl3 => ?_)
    refine j_st (st' := [(true, v1)]) rfl ?_
    refine j_bipush F (by decide) dL_areTokens_263 ?_
    refine j_iload F 3 rfl dL_areTokens_265 ?_
    refine j_imul F dL_areTokens_267 ?_
    refine j_iconst F dL_areTokens_268 ?_
    refine j_iadd F dL_areTokens_269 ?_
    refine j_icmp_ne F 314 (by decide) dL_areTokens_270 h (fun h => ?_) (fun h => ?_)
    · skip
      refine j_iconst F dL_areTokens_314 ?_
      exact j_zret F (by decide) h dL_areTokens_315
    · skip
      refine j_aload_n F 0 rfl rfl dL_areTokens_273 ?_
      refine j_bipush F (by decide) dL_areTokens_274 ?_
      refine j_iload F 1 rfl dL_areTokens_276 ?_
      refine j_iload F 2 rfl dL_areTokens_278 ?_
      refine j_iconst F dL_areTokens_280 ?_
      refine j_iload F 3 rfl dL_areTokens_281 ?_
      refine j_imul F dL_areTokens_283 ?_
      refine j_callX (d' := 9) (argl := [(false, x0), (true, 7), (true, x4), (true, x5), (true, (4 * x6))]) (rk9 := 1) (st := []) F hno M_L_asks q1512 q1511 ⟨by decide, by decide⟩ (Nat.le_of_ble_eq_true rfl) (by decide) dL_areTokens_284 rfl h (fun z hz => c_L_asks l F.ht G x0 7 x4 x5 (4 * x6) M2 z hz) (fun v5 M6 h kl7 => ?_)
      refine j_st (st' := [(true, v5)]) rfl ?_
      refine j_sipush F (by decide) dL_areTokens_287 ?_
      refine j_icmp_ne F 314 (by decide) dL_areTokens_290 h (fun h => ?_) (fun h => ?_)
      · skip
        refine j_iconst F dL_areTokens_314 ?_
        exact j_zret F (by decide) h dL_areTokens_315
      · skip
        refine j_aload_n F 0 rfl rfl dL_areTokens_293 ?_
        refine j_bipush F (by decide) dL_areTokens_294 ?_
        refine j_iload F 1 rfl dL_areTokens_296 ?_
        refine j_iload F 2 rfl dL_areTokens_298 ?_
        refine j_iconst F dL_areTokens_300 ?_
        refine j_callX (d' := 9) (argl := [(false, x0), (true, 7), (true, x4), (true, x5), (true, (-1))]) (rk9 := 1) (st := []) F hno M_L_asks q1512 q1511 ⟨by decide, by decide⟩ (Nat.le_of_ble_eq_true rfl) (by decide) dL_areTokens_301 rfl h (fun z hz => c_L_asks l F.ht G x0 7 x4 x5 (-1) M6 z hz) (fun v8 M9 h kl10 => ?_)
        refine j_st (st' := [(true, v8)]) rfl ?_
        refine j_sipush F (by decide) dL_areTokens_304 ?_
        refine j_icmp_ne F 314 (by decide) dL_areTokens_307 h (fun h => ?_) (fun h => ?_)
        · skip
          refine j_iconst F dL_areTokens_314 ?_
          exact j_zret F (by decide) h dL_areTokens_315
        · skip
          refine j_iconst F dL_areTokens_310 ?_
          refine j_goto F 315 (by decide) dL_areTokens_311 ?_
          exact j_zret F (by decide) h dL_areTokens_315
set_option maxHeartbeats 4000000 in
set_option maxRecDepth 100000 in
theorem w_L_areTokens_12 {p : Program} {l : Launch} {e : Env} {R : Room} {s : State} {m : MethodId} {args : Array Value} {below : List Frame} {meth : Method} {c : Code} {G : Gt} {ρ0 : Int → Nat} {M0 : Mo} {res : RS} (F : Fx p l R s m args meth c cL_areTokens 14 RL G M0 10 (some FieldType.boolean)) (hno : ∀ x ∈ c.exceptionTable.toList, False) (hnm : meth.name = yL_areTokens.name) (n : Nat) : ∀ (x0 x1 x2 x3 x4 x5 x6 x7 x8 x9 : Int) (M : Mo), L_areTokens_12 n x0 x1 x2 x3 x4 x5 x6 x7 x8 x9 M = some res → J p l e R s m args below meth c 14 G ρ0 M0 1 res M 12 [(0, (false, x0)), (1, (false, x1)), (2, (true, x2)), (3, (true, x3)), (4, (true, x4)), (5, (true, x5)), (6, (true, x6)), (7, (true, x7)), (8, (true, x8)), (9, (true, x9))] [] := by
  induction n with
  | zero => intro x0 x1 x2 x3 x4 x5 x6 x7 x8 x9 M h; cases h
  | succ n ih =>
    intro x0 x1 x2 x3 x4 x5 x6 x7 x8 x9 M h
    rw [L_areTokens_12] at h
    refine j_iload F 9 rfl dL_areTokens_12 ?_
    refine j_aload_n F 1 rfl rfl dL_areTokens_14 ?_
    refine j_bipush F (by decide) dL_areTokens_15 ?_
    obtain ⟨g1, h⟩ := gua h
    obtain ⟨g2, h⟩ := gua h
    refine j_iaload F g1 g2 dL_areTokens_17 ?_
    refine j_icmp_ge F 250 (by decide) dL_areTokens_18 h (fun h => ?_) (fun h => ?_)
    · skip
      refine j_sub (lv' := [(0, (false, x0)), (4, (true, x4)), (5, (true, x5)), (6, (true, x6)), (8, (true, x8))]) [0, 4, 5, 6, 8] rfl ?_
      exact w_L_areTokens_250 F hno hnm x0 x4 x5 x6 x8 M h
    · skip
      refine j_iload F 8 rfl dL_areTokens_21 ?_
      refine j_if_eq F 250 (by decide) dL_areTokens_23 h (fun h => ?_) (fun h => ?_)
      · skip
        refine j_sub (lv' := [(0, (false, x0)), (4, (true, x4)), (5, (true, x5)), (6, (true, x6)), (8, (true, x8))]) [0, 4, 5, 6, 8] rfl ?_
        exact w_L_areTokens_250 F hno hnm x0 x4 x5 x6 x8 M h
      · skip
        refine j_aload_n F 1 rfl rfl dL_areTokens_26 ?_
        refine j_iload F 9 rfl dL_areTokens_27 ?_
        refine j_iload_n F 3 rfl rfl dL_areTokens_29 ?_
        refine j_callS (d' := 1) (argl := [(false, x1), (true, x9), (true, x3)]) (rk9 := 1) (st := []) F hno M_L_isBegin q1652 q1651 ⟨by decide, by decide⟩ (Nat.le_of_ble_eq_true rfl) (by decide) dL_areTokens_30 rfl h (fun z hz => c_L_isBegin l F.ht G x1 x9 x3 M z hz) (fun v3 M4 h kl5 => ?_)
        refine j_st (st' := [(true, v3)]) rfl ?_
        refine j_if_eq F 244 (by decide) dL_areTokens_33 h (fun h => ?_) (fun h => ?_)
        · skip
          refine j_sub (lv' := [(0, (false, x0)), (1, (false, x1)), (2, (true, x2)), (3, (true, x3)), (4, (true, x4)), (5, (true, x5)), (6, (true, x6)), (7, (true, x7)), (8, (true, x8)), (9, (true, x9))]) [0, 1, 2, 3, 4, 5, 6, 7, 8, 9] rfl ?_
          exact w_L_areTokens_244 F hno hnm (L_areTokens_12 n) ih x0 x1 x2 x3 x4 x5 x6 x7 x8 x9 M4 h
        · skip
          refine j_aload_n F 1 rfl rfl dL_areTokens_36 ?_
          refine j_iload_n F 2 rfl rfl dL_areTokens_37 ?_
          refine j_iload F 9 rfl dL_areTokens_38 ?_
          refine j_aload_n F 1 rfl rfl dL_areTokens_40 ?_
          refine j_iload F 9 rfl dL_areTokens_41 ?_
          refine j_callS (d' := 1) (argl := [(false, x1), (true, x9)]) (rk9 := 1) (st := [(true, x9), (true, x2), (false, x1)]) F hno M_L_behind q1661 q1660 ⟨by decide, by decide⟩ (Nat.le_of_ble_eq_true rfl) (by decide) dL_areTokens_43 rfl h (fun z hz => c_L_behind l F.ht G x1 x9 M4 z hz) (fun v6 M7 h kl8 => ?_)
          refine j_st (st' := [(true, v6), (true, x9), (true, x2), (false, x1)]) rfl ?_
          refine j_callS (d' := 0) (argl := [(false, x1), (true, x2), (true, x9), (true, v6)]) (rk9 := 1) (st := []) F hno M_L_item q1676 q1675 ⟨by decide, by decide⟩ (Nat.le_of_ble_eq_true rfl) (by decide) dL_areTokens_46 rfl h (fun z hz => c_L_item l F.ht G x1 x2 x9 v6 M7 z hz) (fun v9 M10 h kl11 => ?_)
          refine j_st (st' := [(true, v9)]) rfl ?_
          refine j_ldc (n := 2097152) F q1681 dL_areTokens_49 ?_
          refine j_irem F (by decide) dL_areTokens_51 ?_
          refine j_istore F (lv' := [(10, (true, (irm v9 2097152))), (0, (false, x0)), (1, (false, x1)), (2, (true, x2)), (3, (true, x3)), (4, (true, x4)), (5, (true, x5)), (6, (true, x6)), (7, (true, x7)), (8, (true, x8)), (9, (true, x9))]) (by decide) rfl dL_areTokens_52 ?_
          refine j_iload F 0 rfl dL_areTokens_54 ?_
          refine j_sipush F (by decide) dL_areTokens_56 ?_
          refine j_idiv F (by decide) dL_areTokens_59 ?_
          refine j_istore F (lv' := [(11, (true, (idv (irm v9 2097152) 16384))), (10, (true, (irm v9 2097152))), (0, (false, x0)), (1, (false, x1)), (2, (true, x2)), (3, (true, x3)), (4, (true, x4)), (5, (true, x5)), (6, (true, x6)), (7, (true, x7)), (8, (true, x8)), (9, (true, x9))]) (by decide) rfl dL_areTokens_60 ?_
          refine j_iload F 0 rfl dL_areTokens_62 ?_
          refine j_iload F 9 rfl dL_areTokens_64 ?_
          refine j_sipush F (by decide) dL_areTokens_66 ?_
          refine j_idiv F (by decide) dL_areTokens_69 ?_
          refine j_isub F dL_areTokens_70 ?_
          refine j_istore F (lv' := [(12, (true, ((idv (irm v9 2097152) 16384) - (idv x7 16384)))), (11, (true, (idv (irm v9 2097152) 16384))), (10, (true, (irm v9 2097152))), (0, (false, x0)), (1, (false, x1)), (2, (true, x2)), (3, (true, x3)), (4, (true, x4)), (5, (true, x5)), (6, (true, x6)), (7, (true, x7)), (8, (true, x8)), (9, (true, x9))]) (by decide) rfl dL_areTokens_71 ?_
          refine j_iload F 2 rfl dL_areTokens_73 ?_
          refine j_sipush F (by decide) dL_areTokens_75 ?_
          refine j_idiv F (by decide) dL_areTokens_78 ?_
          refine j_sipush F (by decide) dL_areTokens_79 ?_
          refine j_irem F (by decide) dL_areTokens_82 ?_
          refine j_iload F 9 rfl dL_areTokens_83 ?_
          refine j_if_le F 106 (by decide) dL_areTokens_85 h (fun h => ?_) (fun h => ?_)
          · skip
            refine j_sub (lv' := [(0, (false, x0)), (1, (false, x1)), (2, (true, x2)), (3, (true, x3)), (4, (true, x4)), (5, (true, x5)), (6, (true, x6)), (9, (true, x9)), (10, (true, (irm v9 2097152))), (12, (true, ((idv (irm v9 2097152) 16384) - (idv x7 16384))))]) [3, 4, 5, 6, 7, 8, 9, 12, 2, 0] rfl ?_
            exact w_L_areTokens_106 F hno hnm (L_areTokens_12 n) ih x0 x1 x2 x3 x4 x5 x6 x9 (irm v9 2097152) ((idv (irm v9 2097152) 16384) - (idv x7 16384)) (irm (idv (irm v9 2097152) 128) 128) M10 h
          · skip
            refine j_iload F 0 rfl dL_areTokens_88 ?_
            refine j_if_ne F 106 (by decide) dL_areTokens_90 h (fun h => ?_) (fun h => ?_)
            · skip
              refine j_sub (lv' := [(0, (false, x0)), (1, (false, x1)), (2, (true, x2)), (3, (true, x3)), (4, (true, x4)), (5, (true, x5)), (6, (true, x6)), (9, (true, x9)), (10, (true, (irm v9 2097152))), (12, (true, ((idv (irm v9 2097152) 16384) - (idv x7 16384))))]) [3, 4, 5, 6, 7, 8, 9, 12, 2, 0] rfl ?_
              exact w_L_areTokens_106 F hno hnm (L_areTokens_12 n) ih x0 x1 x2 x3 x4 x5 x6 x9 (irm v9 2097152) ((idv (irm v9 2097152) 16384) - (idv x7 16384)) (irm (idv (irm v9 2097152) 128) 128) M10 h
            · skip
              refine j_iload F 10 rfl dL_areTokens_93 ?_
              refine j_sipush F (by decide) dL_areTokens_95 ?_
              refine j_idiv F (by decide) dL_areTokens_98 ?_
              refine j_sipush F (by decide) dL_areTokens_99 ?_
              refine j_irem F (by decide) dL_areTokens_102 ?_
              refine j_goto F 107 (by decide) dL_areTokens_103 ?_
              refine j_sub (lv' := [(0, (false, x0)), (1, (false, x1)), (2, (true, x2)), (3, (true, x3)), (4, (true, x4)), (5, (true, x5)), (6, (true, x6)), (9, (true, x9)), (10, (true, (irm v9 2097152))), (12, (true, ((idv (irm v9 2097152) 16384) - (idv x7 16384))))]) [3, 4, 5, 6, 7, 8, 9, 12, 2, 0] rfl ?_
              exact w_L_areTokens_107 F hno hnm (L_areTokens_12 n) ih x0 x1 x2 x3 x4 x5 x6 x9 (irm v9 2097152) ((idv (irm v9 2097152) 16384) - (idv x7 16384)) (irm (idv (irm v9 2097152) 128) 128) (irm (idv x7 128) 128) M10 h
set_option maxHeartbeats 4000000 in
set_option maxRecDepth 100000 in
theorem w_L_areTokens_0 {p : Program} {l : Launch} {e : Env} {R : Room} {s : State} {m : MethodId} {args : Array Value} {below : List Frame} {meth : Method} {c : Code} {G : Gt} {ρ0 : Int → Nat} {M0 : Mo} {res : RS} (F : Fx p l R s m args meth c cL_areTokens 14 RL G M0 10 (some FieldType.boolean)) (hno : ∀ x ∈ c.exceptionTable.toList, False) (hnm : meth.name = yL_areTokens.name) (x0 x1 x2 x3 x4 x5 : Int) (M : Mo) (h : L_areTokens x0 x1 x2 x3 x4 x5 M = some res) : J p l e R s m args below meth c 14 G ρ0 M0 1 res M 0 [(0, (false, x0)), (1, (false, x1)), (2, (true, x2)), (3, (true, x3)), (4, (true, x4)), (5, (true, x5))] [] := by
  unfold L_areTokens at h
  refine j_iconst F dL_areTokens_0 ?_
  refine j_istore F (lv' := [(6, (true, 0)), (0, (false, x0)), (1, (false, x1)), (2, (true, x2)), (3, (true, x3)), (4, (true, x4)), (5, (true, x5))]) (by decide) rfl dL_areTokens_1 ?_
  refine j_iconst F dL_areTokens_3 ?_
  refine j_istore F (lv' := [(7, (true, 0)), (6, (true, 0)), (0, (false, x0)), (1, (false, x1)), (2, (true, x2)), (3, (true, x3)), (4, (true, x4)), (5, (true, x5))]) (by decide) rfl dL_areTokens_4 ?_
  refine j_iconst F dL_areTokens_6 ?_
  refine j_istore F (lv' := [(8, (true, 1)), (7, (true, 0)), (6, (true, 0)), (0, (false, x0)), (1, (false, x1)), (2, (true, x2)), (3, (true, x3)), (4, (true, x4)), (5, (true, x5))]) (by decide) rfl dL_areTokens_7 ?_
  refine j_iconst F dL_areTokens_9 ?_
  refine j_istore F (lv' := [(9, (true, 0)), (8, (true, 1)), (7, (true, 0)), (6, (true, 0)), (0, (false, x0)), (1, (false, x1)), (2, (true, x2)), (3, (true, x3)), (4, (true, x4)), (5, (true, x5))]) (by decide) rfl dL_areTokens_10 ?_
  refine j_sub (lv' := [(0, (false, x0)), (1, (false, x1)), (2, (true, x2)), (3, (true, x3)), (4, (true, x4)), (5, (true, x5)), (6, (true, 0)), (7, (true, 0)), (8, (true, 1)), (9, (true, 0))]) [4, 5, 6, 7, 8, 9, 3, 2, 1, 0] rfl ?_
  exact w_L_areTokens_12 F hno hnm FU x0 x1 x2 x3 x4 x5 0 0 1 0 M h
theorem c_L_areTokens (l : Launch) (hl : l.stackTraces = false) (G : Gt) (x0 x1 x2 x3 x4 x5 : Int) (M : Mo) (z : RS) (h : L_areTokens x0 x1 x2 x3 x4 x5 M = some z) : CT l G yL_areTokens (cn yL_areTokens cL_areTokens 14 (some FieldType.boolean)) 10 [(false, x0), (false, x1), (true, x2), (true, x3), (true, x4), (true, x5)] M 1 z :=
  ctOf hl (by decide) (Nat.le_of_ble_eq_true rfl) (fun p e R s m args below meth c ρ F hno hnm => w_L_areTokens_0 F hno hnm x0 x1 x2 x3 x4 x5 M h)
theorem dL_isAnswered_0 : decode cL_isAnswered 0 = .ok (.iload_n 3, 1) := by decide +kernel
theorem dL_isAnswered_1 : decode cL_isAnswered 1 = .ok (.ifCond .ne 18, 3) := by decide +kernel
theorem dL_isAnswered_19 : decode cL_isAnswered 19 = .ok (.iload_n 3, 1) := by decide +kernel
theorem dL_isAnswered_20 : decode cL_isAnswered 20 = .ok (.iconst 3, 1) := by decide +kernel
theorem dL_isAnswered_21 : decode cL_isAnswered 21 = .ok (.if_icmp .ne 16, 3) := by decide +kernel
theorem dL_isAnswered_37 : decode cL_isAnswered 37 = .ok (.iload_n 3, 1) := by decide +kernel
theorem dL_isAnswered_38 : decode cL_isAnswered 38 = .ok (.iconst 5, 1) := by decide +kernel
theorem dL_isAnswered_39 : decode cL_isAnswered 39 = .ok (.if_icmp .ne 8, 3) := by decide +kernel
theorem dL_isAnswered_47 : decode cL_isAnswered 47 = .ok (.aload_n 1, 1) := by decide +kernel
theorem dL_isAnswered_48 : decode cL_isAnswered 48 = .ok (.iload 4, 2) := by decide +kernel
theorem dL_isAnswered_50 : decode cL_isAnswered 50 = .ok (.iload 5, 2) := by decide +kernel
theorem dL_isAnswered_52 : decode cL_isAnswered 52 = .ok (.invokestatic 149, 3) := by decide +kernel
theorem dL_isAnswered_42 : decode cL_isAnswered 42 = .ok (.iload 4, 2) := by decide +kernel
theorem dL_isAnswered_44 : decode cL_isAnswered 44 = .ok (.goto 11, 3) := by decide +kernel
theorem dL_isAnswered_24 : decode cL_isAnswered 24 = .ok (.aload_n 0, 1) := by decide +kernel
theorem dL_isAnswered_25 : decode cL_isAnswered 25 = .ok (.aload_n 1, 1) := by decide +kernel
theorem dL_isAnswered_26 : decode cL_isAnswered 26 = .ok (.iload_n 2, 1) := by decide +kernel
theorem dL_isAnswered_27 : decode cL_isAnswered 27 = .ok (.iload 5, 2) := by decide +kernel
theorem dL_isAnswered_29 : decode cL_isAnswered 29 = .ok (.iload 6, 2) := by decide +kernel
theorem dL_isAnswered_31 : decode cL_isAnswered 31 = .ok (.iload 7, 2) := by decide +kernel
set_option maxRecDepth 100000 in
theorem q1680 : Cond.code yL_areTokens cL_areTokens 14 (some FieldType.boolean) ∈ GT := gt 1680 (rfl) (by decide +kernel)
theorem M_L_areTokens : MY yL_areTokens cL_areTokens 14 (some FieldType.boolean) 6 := ⟨q1680, q52, by decide +kernel, by decide +kernel⟩
set_option maxRecDepth 100000 in
theorem q1679 : Cond.static yL_areTokens ∈ GT := gt 1679 (by decide +kernel) (by decide +kernel)
set_option maxRecDepth 100000 in
theorem q1678 : Cond.methodLink RL 171 yL_areTokens ∈ GT := gt 1678 (by decide +kernel) (by decide +kernel)
theorem dL_isAnswered_33 : decode cL_isAnswered 33 = .ok (.invokestatic 171, 3) := by decide +kernel
theorem dL_isAnswered_36 : decode cL_isAnswered 36 = .ok (.ireturn, 1) := by decide +kernel
theorem dL_isAnswered_4 : decode cL_isAnswered 4 = .ok (.aload_n 0, 1) := by decide +kernel
theorem dL_isAnswered_5 : decode cL_isAnswered 5 = .ok (.aload_n 1, 1) := by decide +kernel
theorem dL_isAnswered_6 : decode cL_isAnswered 6 = .ok (.iload_n 2, 1) := by decide +kernel
theorem dL_isAnswered_7 : decode cL_isAnswered 7 = .ok (.iload 4, 2) := by decide +kernel
theorem dL_isAnswered_9 : decode cL_isAnswered 9 = .ok (.iload 5, 2) := by decide +kernel
theorem dL_isAnswered_11 : decode cL_isAnswered 11 = .ok (.iload 6, 2) := by decide +kernel
theorem dL_isAnswered_13 : decode cL_isAnswered 13 = .ok (.iload 7, 2) := by decide +kernel
set_option maxRecDepth 100000 in
theorem q1647 : Cond.code yL_isCompleted cL_isCompleted 17 (some FieldType.boolean) ∈ GT := gt 1647 (rfl) (by decide +kernel)
theorem M_L_isCompleted : MY yL_isCompleted cL_isCompleted 17 (some FieldType.boolean) 7 := ⟨q1647, q52, by decide +kernel, by decide +kernel⟩
set_option maxRecDepth 100000 in
theorem q1646 : Cond.static yL_isCompleted ∈ GT := gt 1646 (by decide +kernel) (by decide +kernel)
set_option maxRecDepth 100000 in
theorem q1645 : Cond.methodLink RL 167 yL_isCompleted ∈ GT := gt 1645 (by decide +kernel) (by decide +kernel)
theorem dL_isAnswered_15 : decode cL_isAnswered 15 = .ok (.invokestatic 167, 3) := by decide +kernel
theorem dL_isAnswered_18 : decode cL_isAnswered 18 = .ok (.ireturn, 1) := by decide +kernel
theorem dL_isAnswered_55 : decode cL_isAnswered 55 = .ok (.istore 8, 2) := by decide +kernel
theorem dL_isAnswered_57 : decode cL_isAnswered 57 = .ok (.iload_n 3, 1) := by decide +kernel
theorem dL_isAnswered_58 : decode cL_isAnswered 58 = .ok (.iconst 5, 1) := by decide +kernel
theorem dL_isAnswered_59 : decode cL_isAnswered 59 = .ok (.if_icmp .ne 8, 3) := by decide +kernel
theorem dL_isAnswered_67 : decode cL_isAnswered 67 = .ok (.iload 8, 2) := by decide +kernel
theorem dL_isAnswered_69 : decode cL_isAnswered 69 = .ok (.ifCond .ge 8, 3) := by decide +kernel
theorem dL_isAnswered_77 : decode cL_isAnswered 77 = .ok (.aload_n 1, 1) := by decide +kernel
theorem dL_isAnswered_78 : decode cL_isAnswered 78 = .ok (.iload 8, 2) := by decide +kernel
theorem dL_isAnswered_80 : decode cL_isAnswered 80 = .ok (.invokestatic 142, 3) := by decide +kernel
theorem dL_isAnswered_72 : decode cL_isAnswered 72 = .ok (.iload 8, 2) := by decide +kernel
theorem dL_isAnswered_74 : decode cL_isAnswered 74 = .ok (.goto 9, 3) := by decide +kernel
theorem dL_isAnswered_62 : decode cL_isAnswered 62 = .ok (.iload 4, 2) := by decide +kernel
theorem dL_isAnswered_64 : decode cL_isAnswered 64 = .ok (.goto 19, 3) := by decide +kernel
theorem dL_isAnswered_83 : decode cL_isAnswered 83 = .ok (.istore 9, 2) := by decide +kernel
theorem dL_isAnswered_85 : decode cL_isAnswered 85 = .ok (.iload_n 3, 1) := by decide +kernel
theorem dL_isAnswered_86 : decode cL_isAnswered 86 = .ok (.iconst 1, 1) := by decide +kernel
theorem dL_isAnswered_87 : decode cL_isAnswered 87 = .ok (.if_icmp .ne 19, 3) := by decide +kernel
theorem dL_isAnswered_90 : decode cL_isAnswered 90 = .ok (.iload 8, 2) := by decide +kernel
theorem dL_isAnswered_92 : decode cL_isAnswered 92 = .ok (.ifCond .lt 14, 3) := by decide +kernel
theorem dL_isAnswered_95 : decode cL_isAnswered 95 = .ok (.aload_n 1, 1) := by decide +kernel
theorem dL_isAnswered_96 : decode cL_isAnswered 96 = .ok (.iload 8, 2) := by decide +kernel
theorem dL_isAnswered_98 : decode cL_isAnswered 98 = .ok (.iload 5, 2) := by decide +kernel
set_option maxRecDepth 100000 in
theorem q1684 : Cond.code yL_likes cL_likes 5 (some FieldType.int) ∈ GT := gt 1684 (rfl) (by decide +kernel)
theorem M_L_likes : MY yL_likes cL_likes 5 (some FieldType.int) 3 := ⟨q1684, q52, by decide +kernel, by decide +kernel⟩
set_option maxRecDepth 100000 in
theorem q1683 : Cond.static yL_likes ∈ GT := gt 1683 (by decide +kernel) (by decide +kernel)
set_option maxRecDepth 100000 in
theorem q1682 : Cond.methodLink RL 175 yL_likes ∈ GT := gt 1682 (by decide +kernel) (by decide +kernel)
theorem dL_isAnswered_100 : decode cL_isAnswered 100 = .ok (.invokestatic 175, 3) := by decide +kernel
theorem dL_isAnswered_103 : decode cL_isAnswered 103 = .ok (.goto 4, 3) := by decide +kernel
theorem dL_isAnswered_106 : decode cL_isAnswered 106 = .ok (.iconst 0, 1) := by decide +kernel
theorem dL_isAnswered_107 : decode cL_isAnswered 107 = .ok (.istore 10, 2) := by decide +kernel
theorem dL_isAnswered_109 : decode cL_isAnswered 109 = .ok (.iload_n 3, 1) := by decide +kernel
theorem dL_isAnswered_110 : decode cL_isAnswered 110 = .ok (.iconst 2, 1) := by decide +kernel
theorem dL_isAnswered_111 : decode cL_isAnswered 111 = .ok (.if_icmp .ne 68, 3) := by decide +kernel
theorem dL_isAnswered_114 : decode cL_isAnswered 114 = .ok (.iload 8, 2) := by decide +kernel
theorem dL_isAnswered_116 : decode cL_isAnswered 116 = .ok (.ifCond .lt 63, 3) := by decide +kernel
theorem dL_isAnswered_119 : decode cL_isAnswered 119 = .ok (.aload_n 1, 1) := by decide +kernel
theorem dL_isAnswered_120 : decode cL_isAnswered 120 = .ok (.iload 8, 2) := by decide +kernel
theorem dL_isAnswered_122 : decode cL_isAnswered 122 = .ok (.iload 5, 2) := by decide +kernel
theorem dL_isAnswered_124 : decode cL_isAnswered 124 = .ok (.invokestatic 160, 3) := by decide +kernel
theorem dL_isAnswered_127 : decode cL_isAnswered 127 = .ok (.ifCond .ne 52, 3) := by decide +kernel
theorem dL_isAnswered_130 : decode cL_isAnswered 130 = .ok (.iload 8, 2) := by decide +kernel
theorem dL_isAnswered_132 : decode cL_isAnswered 132 = .ok (.iconst 1, 1) := by decide +kernel
theorem dL_isAnswered_133 : decode cL_isAnswered 133 = .ok (.isub, 1) := by decide +kernel
theorem dL_isAnswered_134 : decode cL_isAnswered 134 = .ok (.istore 11, 2) := by decide +kernel
theorem dL_isAnswered_136 : decode cL_isAnswered 136 = .ok (.aload_n 1, 1) := by decide +kernel
theorem dL_isAnswered_137 : decode cL_isAnswered 137 = .ok (.iload 11, 2) := by decide +kernel
theorem dL_isAnswered_139 : decode cL_isAnswered 139 = .ok (.iload 5, 2) := by decide +kernel
theorem dL_isAnswered_141 : decode cL_isAnswered 141 = .ok (.invokestatic 138, 3) := by decide +kernel
theorem dL_isAnswered_144 : decode cL_isAnswered 144 = .ok (.ifCond .eq 14, 3) := by decide +kernel
theorem dL_isAnswered_147 : decode cL_isAnswered 147 = .ok (.aload_n 1, 1) := by decide +kernel
theorem dL_isAnswered_148 : decode cL_isAnswered 148 = .ok (.iload 11, 2) := by decide +kernel
theorem dL_isAnswered_150 : decode cL_isAnswered 150 = .ok (.iload 8, 2) := by decide +kernel
theorem dL_isAnswered_152 : decode cL_isAnswered 152 = .ok (.invokestatic 146, 3) := by decide +kernel
theorem dL_isAnswered_155 : decode cL_isAnswered 155 = .ok (.ifCond .ne 9, 3) := by decide +kernel
theorem dL_isAnswered_164 : decode cL_isAnswered 164 = .ok (.iload 11, 2) := by decide +kernel
theorem dL_isAnswered_166 : decode cL_isAnswered 166 = .ok (.istore 8, 2) := by decide +kernel
theorem dL_isAnswered_168 : decode cL_isAnswered 168 = .ok (.aload_n 1, 1) := by decide +kernel
theorem dL_isAnswered_169 : decode cL_isAnswered 169 = .ok (.iload 8, 2) := by decide +kernel
theorem dL_isAnswered_171 : decode cL_isAnswered 171 = .ok (.invokestatic 142, 3) := by decide +kernel
theorem dL_isAnswered_174 : decode cL_isAnswered 174 = .ok (.istore 9, 2) := by decide +kernel
theorem dL_isAnswered_176 : decode cL_isAnswered 176 = .ok (.goto (-57), 3) := by decide +kernel
theorem dL_isAnswered_158 : decode cL_isAnswered 158 = .ok (.iinc 11 (-1), 3) := by decide +kernel
theorem dL_isAnswered_161 : decode cL_isAnswered 161 = .ok (.goto (-25), 3) := by decide +kernel
theorem dL_isAnswered_179 : decode cL_isAnswered 179 = .ok (.iload_n 3, 1) := by decide +kernel
theorem dL_isAnswered_180 : decode cL_isAnswered 180 = .ok (.iconst 5, 1) := by decide +kernel
theorem dL_isAnswered_181 : decode cL_isAnswered 181 = .ok (.if_icmp .ne 25, 3) := by decide +kernel
theorem dL_isAnswered_184 : decode cL_isAnswered 184 = .ok (.iload 8, 2) := by decide +kernel
theorem dL_isAnswered_186 : decode cL_isAnswered 186 = .ok (.ifCond .le 20, 3) := by decide +kernel
theorem dL_isAnswered_189 : decode cL_isAnswered 189 = .ok (.aload_n 1, 1) := by decide +kernel
theorem dL_isAnswered_190 : decode cL_isAnswered 190 = .ok (.iload 8, 2) := by decide +kernel
theorem dL_isAnswered_192 : decode cL_isAnswered 192 = .ok (.iconst 1, 1) := by decide +kernel
theorem dL_isAnswered_193 : decode cL_isAnswered 193 = .ok (.isub, 1) := by decide +kernel
theorem dL_isAnswered_194 : decode cL_isAnswered 194 = .ok (.iaload, 1) := by decide +kernel
theorem dL_isAnswered_195 : decode cL_isAnswered 195 = .ok (.bipush 10, 2) := by decide +kernel
theorem dL_isAnswered_197 : decode cL_isAnswered 197 = .ok (.if_icmp .eq 9, 3) := by decide +kernel
theorem dL_isAnswered_200 : decode cL_isAnswered 200 = .ok (.iinc 8 (-1), 3) := by decide +kernel
theorem dL_isAnswered_203 : decode cL_isAnswered 203 = .ok (.goto (-24), 3) := by decide +kernel
theorem dL_isAnswered_206 : decode cL_isAnswered 206 = .ok (.iload_n 3, 1) := by decide +kernel
theorem dL_isAnswered_207 : decode cL_isAnswered 207 = .ok (.iconst 5, 1) := by decide +kernel
theorem dL_isAnswered_208 : decode cL_isAnswered 208 = .ok (.if_icmp .ne 27, 3) := by decide +kernel
theorem dL_isAnswered_211 : decode cL_isAnswered 211 = .ok (.iload 9, 2) := by decide +kernel
theorem dL_isAnswered_213 : decode cL_isAnswered 213 = .ok (.aload_n 1, 1) := by decide +kernel
theorem dL_isAnswered_214 : decode cL_isAnswered 214 = .ok (.bipush 63, 2) := by decide +kernel
theorem dL_isAnswered_216 : decode cL_isAnswered 216 = .ok (.iaload, 1) := by decide +kernel
theorem dL_isAnswered_217 : decode cL_isAnswered 217 = .ok (.if_icmp .ge 18, 3) := by decide +kernel
theorem dL_isAnswered_220 : decode cL_isAnswered 220 = .ok (.aload_n 1, 1) := by decide +kernel
theorem dL_isAnswered_221 : decode cL_isAnswered 221 = .ok (.iload 9, 2) := by decide +kernel
theorem dL_isAnswered_223 : decode cL_isAnswered 223 = .ok (.iaload, 1) := by decide +kernel
theorem dL_isAnswered_224 : decode cL_isAnswered 224 = .ok (.bipush 10, 2) := by decide +kernel
theorem dL_isAnswered_226 : decode cL_isAnswered 226 = .ok (.if_icmp .eq 9, 3) := by decide +kernel
theorem dL_isAnswered_229 : decode cL_isAnswered 229 = .ok (.iinc 9 1, 3) := by decide +kernel
theorem dL_isAnswered_232 : decode cL_isAnswered 232 = .ok (.goto (-26), 3) := by decide +kernel
theorem dL_isAnswered_235 : decode cL_isAnswered 235 = .ok (.iload 8, 2) := by decide +kernel
theorem dL_isAnswered_237 : decode cL_isAnswered 237 = .ok (.ifCond .lt 14, 3) := by decide +kernel
theorem dL_isAnswered_240 : decode cL_isAnswered 240 = .ok (.iload 9, 2) := by decide +kernel
theorem dL_isAnswered_242 : decode cL_isAnswered 242 = .ok (.iload 8, 2) := by decide +kernel
theorem dL_isAnswered_244 : decode cL_isAnswered 244 = .ok (.if_icmp .le 7, 3) := by decide +kernel
theorem dL_isAnswered_247 : decode cL_isAnswered 247 = .ok (.iconst 1, 1) := by decide +kernel
theorem dL_isAnswered_248 : decode cL_isAnswered 248 = .ok (.goto 4, 3) := by decide +kernel
theorem dL_isAnswered_251 : decode cL_isAnswered 251 = .ok (.iconst 0, 1) := by decide +kernel
theorem dL_isAnswered_252 : decode cL_isAnswered 252 = .ok (.istore 11, 2) := by decide +kernel
theorem dL_isAnswered_254 : decode cL_isAnswered 254 = .ok (.aload_n 0, 1) := by decide +kernel
theorem dL_isAnswered_255 : decode cL_isAnswered 255 = .ok (.iload 6, 2) := by decide +kernel
theorem dL_isAnswered_257 : decode cL_isAnswered 257 = .ok (.iload 7, 2) := by decide +kernel
theorem dL_isAnswered_259 : decode cL_isAnswered 259 = .ok (.invokevirtual 87, 3) := by decide +kernel
theorem dL_isAnswered_262 : decode cL_isAnswered 262 = .ok (.iload 11, 2) := by decide +kernel
theorem dL_isAnswered_264 : decode cL_isAnswered 264 = .ok (.ifCond .eq 8, 3) := by decide +kernel
theorem dL_isAnswered_272 : decode cL_isAnswered 272 = .ok (.iconst 1, 1) := by decide +kernel
theorem dL_isAnswered_267 : decode cL_isAnswered 267 = .ok (.bipush 11, 2) := by decide +kernel
theorem dL_isAnswered_269 : decode cL_isAnswered 269 = .ok (.goto 4, 3) := by decide +kernel
theorem dL_isAnswered_273 : decode cL_isAnswered 273 = .ok (.if_icmp .ne 92, 3) := by decide +kernel
theorem dL_isAnswered_365 : decode cL_isAnswered 365 = .ok (.iconst 0, 1) := by decide +kernel
theorem dL_isAnswered_366 : decode cL_isAnswered 366 = .ok (.ireturn, 1) := by decide +kernel
theorem dL_isAnswered_276 : decode cL_isAnswered 276 = .ok (.aload_n 0, 1) := by decide +kernel
theorem dL_isAnswered_277 : decode cL_isAnswered 277 = .ok (.iconst 5, 1) := by decide +kernel
theorem dL_isAnswered_278 : decode cL_isAnswered 278 = .ok (.iload 6, 2) := by decide +kernel
theorem dL_isAnswered_280 : decode cL_isAnswered 280 = .ok (.iload 7, 2) := by decide +kernel
theorem dL_isAnswered_282 : decode cL_isAnswered 282 = .ok (.iload 11, 2) := by decide +kernel
theorem dL_isAnswered_284 : decode cL_isAnswered 284 = .ok (.ifCond .eq 7, 3) := by decide +kernel
theorem dL_isAnswered_291 : decode cL_isAnswered 291 = .ok (.iconst 0, 1) := by decide +kernel
theorem dL_isAnswered_287 : decode cL_isAnswered 287 = .ok (.iconst 1, 1) := by decide +kernel
theorem dL_isAnswered_288 : decode cL_isAnswered 288 = .ok (.goto 4, 3) := by decide +kernel
theorem dL_isAnswered_292 : decode cL_isAnswered 292 = .ok (.invokestatic 116, 3) := by decide +kernel
theorem dL_isAnswered_295 : decode cL_isAnswered 295 = .ok (.sipush (-3000), 3) := by decide +kernel
theorem dL_isAnswered_298 : decode cL_isAnswered 298 = .ok (.if_icmp .ne 67, 3) := by decide +kernel
theorem dL_isAnswered_301 : decode cL_isAnswered 301 = .ok (.iload 11, 2) := by decide +kernel
theorem dL_isAnswered_303 : decode cL_isAnswered 303 = .ok (.ifCond .eq 41, 3) := by decide +kernel
theorem dL_isAnswered_306 : decode cL_isAnswered 306 = .ok (.aload_n 0, 1) := by decide +kernel
theorem dL_isAnswered_307 : decode cL_isAnswered 307 = .ok (.iconst 5, 1) := by decide +kernel
theorem dL_isAnswered_308 : decode cL_isAnswered 308 = .ok (.iload 6, 2) := by decide +kernel
theorem dL_isAnswered_310 : decode cL_isAnswered 310 = .ok (.iload 7, 2) := by decide +kernel
theorem dL_isAnswered_312 : decode cL_isAnswered 312 = .ok (.iconst 0, 1) := by decide +kernel
theorem dL_isAnswered_313 : decode cL_isAnswered 313 = .ok (.invokestatic 116, 3) := by decide +kernel
theorem dL_isAnswered_316 : decode cL_isAnswered 316 = .ok (.aload_n 1, 1) := by decide +kernel
theorem dL_isAnswered_317 : decode cL_isAnswered 317 = .ok (.iload_n 2, 1) := by decide +kernel
theorem dL_isAnswered_318 : decode cL_isAnswered 318 = .ok (.iload 8, 2) := by decide +kernel
theorem dL_isAnswered_320 : decode cL_isAnswered 320 = .ok (.iload 9, 2) := by decide +kernel
theorem dL_isAnswered_322 : decode cL_isAnswered 322 = .ok (.invokestatic 163, 3) := by decide +kernel
theorem dL_isAnswered_325 : decode cL_isAnswered 325 = .ok (.if_icmp .ne 40, 3) := by decide +kernel
theorem dL_isAnswered_328 : decode cL_isAnswered 328 = .ok (.aload_n 0, 1) := by decide +kernel
theorem dL_isAnswered_329 : decode cL_isAnswered 329 = .ok (.bipush 6, 2) := by decide +kernel
theorem dL_isAnswered_331 : decode cL_isAnswered 331 = .ok (.iload 6, 2) := by decide +kernel
theorem dL_isAnswered_333 : decode cL_isAnswered 333 = .ok (.iload 7, 2) := by decide +kernel
theorem dL_isAnswered_335 : decode cL_isAnswered 335 = .ok (.iconst 0, 1) := by decide +kernel
theorem dL_isAnswered_336 : decode cL_isAnswered 336 = .ok (.invokestatic 116, 3) := by decide +kernel
theorem dL_isAnswered_339 : decode cL_isAnswered 339 = .ok (.iload 10, 2) := by decide +kernel
theorem dL_isAnswered_341 : decode cL_isAnswered 341 = .ok (.if_icmp .ne 24, 3) := by decide +kernel
theorem dL_isAnswered_344 : decode cL_isAnswered 344 = .ok (.aload_n 0, 1) := by decide +kernel
theorem dL_isAnswered_345 : decode cL_isAnswered 345 = .ok (.bipush 7, 2) := by decide +kernel
theorem dL_isAnswered_347 : decode cL_isAnswered 347 = .ok (.iload 6, 2) := by decide +kernel
theorem dL_isAnswered_349 : decode cL_isAnswered 349 = .ok (.iload 7, 2) := by decide +kernel
theorem dL_isAnswered_351 : decode cL_isAnswered 351 = .ok (.iconst 0, 1) := by decide +kernel
theorem dL_isAnswered_352 : decode cL_isAnswered 352 = .ok (.invokestatic 116, 3) := by decide +kernel
theorem dL_isAnswered_355 : decode cL_isAnswered 355 = .ok (.sipush (-3000), 3) := by decide +kernel
theorem dL_isAnswered_358 : decode cL_isAnswered 358 = .ok (.if_icmp .ne 7, 3) := by decide +kernel
theorem dL_isAnswered_361 : decode cL_isAnswered 361 = .ok (.iconst 1, 1) := by decide +kernel
theorem dL_isAnswered_362 : decode cL_isAnswered 362 = .ok (.goto 4, 3) := by decide +kernel
set_option maxHeartbeats 4000000 in
set_option maxRecDepth 100000 in
theorem w_L_isAnswered_158 {p : Program} {l : Launch} {e : Env} {R : Room} {s : State} {m : MethodId} {args : Array Value} {below : List Frame} {meth : Method} {c : Code} {G : Gt} {ρ0 : Int → Nat} {M0 : Mo} {res : RS} (F : Fx p l R s m args meth c cL_isAnswered 12 RL G M0 11 (some FieldType.boolean)) (hno : ∀ x ∈ c.exceptionTable.toList, False) (hnm : meth.name = yL_isAnswered.name) (k119 : Int → Int → Int → Int → Int → Int → Int → Int → Int → Int → Mo → Option RS) (hk119 : ∀ (x0 x1 x2 x3 x5 x6 x7 x8 x9 x10 : Int) (M : Mo), k119 x0 x1 x2 x3 x5 x6 x7 x8 x9 x10 M = some res → J p l e R s m args below meth c 12 G ρ0 M0 1 res M 119 [(0, (false, x0)), (1, (false, x1)), (2, (true, x2)), (3, (true, x3)), (5, (true, x5)), (6, (true, x6)), (7, (true, x7)), (8, (true, x8)), (9, (true, x9)), (10, (true, x10))] []) (k136 : Int → Int → Int → Int → Int → Int → Int → Int → Int → Int → Mo → Option RS) (hk136 : ∀ (x0 x1 x2 x3 x5 x6 x7 x8 x10 x11 : Int) (M : Mo), k136 x0 x1 x2 x3 x5 x6 x7 x8 x10 x11 M = some res → J p l e R s m args below meth c 12 G ρ0 M0 1 res M 136 [(0, (false, x0)), (1, (false, x1)), (2, (true, x2)), (3, (true, x3)), (5, (true, x5)), (6, (true, x6)), (7, (true, x7)), (8, (true, x8)), (10, (true, x10)), (11, (true, x11))] []) (x0 x1 x2 x3 x5 x6 x7 x8 x10 x11 : Int) (M : Mo) (h : L_isAnswered_158 k119 k136 x0 x1 x2 x3 x5 x6 x7 x8 x10 x11 M = some res) : J p l e R s m args below meth c 12 G ρ0 M0 1 res M 158 [(0, (false, x0)), (1, (false, x1)), (2, (true, x2)), (3, (true, x3)), (5, (true, x5)), (6, (true, x6)), (7, (true, x7)), (8, (true, x8)), (10, (true, x10)), (11, (true, x11))] [] := by
  unfold L_isAnswered_158 at h
  refine j_iinc F 9 (lv' := [(11, (true, (x11 + (-1)))), (0, (false, x0)), (1, (false, x1)), (2, (true, x2)), (3, (true, x3)), (5, (true, x5)), (6, (true, x6)), (7, (true, x7)), (8, (true, x8)), (10, (true, x10))]) rfl (by decide) rfl dL_isAnswered_158 ?_
  refine j_goto F 136 (by decide) dL_isAnswered_161 ?_
  refine j_sub (lv' := [(0, (false, x0)), (1, (false, x1)), (2, (true, x2)), (3, (true, x3)), (5, (true, x5)), (6, (true, x6)), (7, (true, x7)), (8, (true, x8)), (10, (true, x10)), (11, (true, (x11 + (-1))))]) [1, 2, 3, 4, 5, 6, 7, 8, 9, 0] rfl ?_
  exact hk136 x0 x1 x2 x3 x5 x6 x7 x8 x10 (x11 + (-1)) M h
set_option maxHeartbeats 4000000 in
set_option maxRecDepth 100000 in
theorem w_L_isAnswered_136 {p : Program} {l : Launch} {e : Env} {R : Room} {s : State} {m : MethodId} {args : Array Value} {below : List Frame} {meth : Method} {c : Code} {G : Gt} {ρ0 : Int → Nat} {M0 : Mo} {res : RS} (F : Fx p l R s m args meth c cL_isAnswered 12 RL G M0 11 (some FieldType.boolean)) (hno : ∀ x ∈ c.exceptionTable.toList, False) (hnm : meth.name = yL_isAnswered.name) (k119 : Int → Int → Int → Int → Int → Int → Int → Int → Int → Int → Mo → Option RS) (hk119 : ∀ (x0 x1 x2 x3 x5 x6 x7 x8 x9 x10 : Int) (M : Mo), k119 x0 x1 x2 x3 x5 x6 x7 x8 x9 x10 M = some res → J p l e R s m args below meth c 12 G ρ0 M0 1 res M 119 [(0, (false, x0)), (1, (false, x1)), (2, (true, x2)), (3, (true, x3)), (5, (true, x5)), (6, (true, x6)), (7, (true, x7)), (8, (true, x8)), (9, (true, x9)), (10, (true, x10))] []) (n : Nat) : ∀ (x0 x1 x2 x3 x5 x6 x7 x8 x10 x11 : Int) (M : Mo), L_isAnswered_136 k119 n x0 x1 x2 x3 x5 x6 x7 x8 x10 x11 M = some res → J p l e R s m args below meth c 12 G ρ0 M0 1 res M 136 [(0, (false, x0)), (1, (false, x1)), (2, (true, x2)), (3, (true, x3)), (5, (true, x5)), (6, (true, x6)), (7, (true, x7)), (8, (true, x8)), (10, (true, x10)), (11, (true, x11))] [] := by
  induction n with
  | zero => intro x0 x1 x2 x3 x5 x6 x7 x8 x10 x11 M h; cases h
  | succ n ih =>
    intro x0 x1 x2 x3 x5 x6 x7 x8 x10 x11 M h
    rw [L_isAnswered_136] at h
    refine j_aload_n F 1 rfl rfl dL_isAnswered_136 ?_
    refine j_iload F 9 rfl dL_isAnswered_137 ?_
    refine j_iload F 4 rfl dL_isAnswered_139 ?_
    refine j_callS (d' := 1) (argl := [(false, x1), (true, x11), (true, x5)]) (rk9 := 1) (st := []) F hno M_L_isBegin q1652 q1651 ⟨by decide, by decide⟩ (Nat.le_of_ble_eq_true rfl) (by decide) dL_isAnswered_141 rfl h (fun z hz => c_L_isBegin l F.ht G x1 x11 x5 M z hz) (fun v1 M2 h kl3 => ?_)
    refine j_st (st' := [(true, v1)]) rfl ?_
    refine j_if_eq F 158 (by decide) dL_isAnswered_144 h (fun h => ?_) (fun h => ?_)
    · skip
      refine j_sub (lv' := [(0, (false, x0)), (1, (false, x1)), (2, (true, x2)), (3, (true, x3)), (5, (true, x5)), (6, (true, x6)), (7, (true, x7)), (8, (true, x8)), (10, (true, x10)), (11, (true, x11))]) [0, 1, 2, 3, 4, 5, 6, 7, 8, 9] rfl ?_
      exact w_L_isAnswered_158 F hno hnm k119 hk119 (L_isAnswered_136 k119 n) ih x0 x1 x2 x3 x5 x6 x7 x8 x10 x11 M2 h
    · skip
      refine j_aload_n F 1 rfl rfl dL_isAnswered_147 ?_
      refine j_iload F 9 rfl dL_isAnswered_148 ?_
      refine j_iload F 7 rfl dL_isAnswered_150 ?_
      refine j_callS (d' := 2) (argl := [(false, x1), (true, x11), (true, x8)]) (rk9 := 1) (st := []) F hno M_L_areLike q1664 q1663 ⟨by decide, by decide⟩ (Nat.le_of_ble_eq_true rfl) (by decide) dL_isAnswered_152 rfl h (fun z hz => c_L_areLike l F.ht G x1 x11 x8 M2 z hz) (fun v4 M5 h kl6 => ?_)
      refine j_st (st' := [(true, v4)]) rfl ?_
      refine j_if_ne F 164 (by decide) dL_isAnswered_155 h (fun h => ?_) (fun h => ?_)
      · skip
        refine j_iload F 9 rfl dL_isAnswered_164 ?_
        refine j_istore F (lv' := [(8, (true, x11)), (0, (false, x0)), (1, (false, x1)), (2, (true, x2)), (3, (true, x3)), (5, (true, x5)), (6, (true, x6)), (7, (true, x7)), (10, (true, x10)), (11, (true, x11))]) (by decide) rfl dL_isAnswered_166 ?_
        refine j_aload_n F 2 rfl rfl dL_isAnswered_168 ?_
        refine j_iload F 0 rfl dL_isAnswered_169 ?_
        refine j_callS (d' := 1) (argl := [(false, x1), (true, x11)]) (rk9 := 1) (st := []) F hno M_L_behind q1661 q1660 ⟨by decide, by decide⟩ (Nat.le_of_ble_eq_true rfl) (by decide) dL_isAnswered_171 rfl h (fun z hz => c_L_behind l F.ht G x1 x11 M5 z hz) (fun v7 M8 h kl9 => ?_)
        refine j_st (st' := [(true, v7)]) rfl ?_
        refine j_istore F (lv' := [(9, (true, v7)), (8, (true, x11)), (0, (false, x0)), (1, (false, x1)), (2, (true, x2)), (3, (true, x3)), (5, (true, x5)), (6, (true, x6)), (7, (true, x7)), (10, (true, x10)), (11, (true, x11))]) (by decide) rfl dL_isAnswered_174 ?_
        refine j_goto F 119 (by decide) dL_isAnswered_176 ?_
        refine j_sub (lv' := [(0, (false, x0)), (1, (false, x1)), (2, (true, x2)), (3, (true, x3)), (5, (true, x5)), (6, (true, x6)), (7, (true, x7)), (8, (true, x11)), (9, (true, v7)), (10, (true, x10))]) [2, 3, 4, 5, 6, 7, 8, 1, 0, 9] rfl ?_
        exact hk119 x0 x1 x2 x3 x5 x6 x7 x11 v7 x10 M8 h
      · skip
        refine j_sub (lv' := [(0, (false, x0)), (1, (false, x1)), (2, (true, x2)), (3, (true, x3)), (5, (true, x5)), (6, (true, x6)), (7, (true, x7)), (8, (true, x8)), (10, (true, x10)), (11, (true, x11))]) [0, 1, 2, 3, 4, 5, 6, 7, 8, 9] rfl ?_
        exact w_L_isAnswered_158 F hno hnm k119 hk119 (L_isAnswered_136 k119 n) ih x0 x1 x2 x3 x5 x6 x7 x8 x10 x11 M5 h
set_option maxHeartbeats 4000000 in
set_option maxRecDepth 100000 in
theorem w_L_isAnswered_344 {p : Program} {l : Launch} {e : Env} {R : Room} {s : State} {m : MethodId} {args : Array Value} {below : List Frame} {meth : Method} {c : Code} {G : Gt} {ρ0 : Int → Nat} {M0 : Mo} {res : RS} (F : Fx p l R s m args meth c cL_isAnswered 12 RL G M0 11 (some FieldType.boolean)) (hno : ∀ x ∈ c.exceptionTable.toList, False) (hnm : meth.name = yL_isAnswered.name) (x0 x6 x7 : Int) (M : Mo) (h : L_isAnswered_344 x0 x6 x7 M = some res) : J p l e R s m args below meth c 12 G ρ0 M0 1 res M 344 [(0, (false, x0)), (6, (true, x6)), (7, (true, x7))] [] := by
  unfold L_isAnswered_344 at h
  refine j_aload_n F 0 rfl rfl dL_isAnswered_344 ?_
  refine j_bipush F (by decide) dL_isAnswered_345 ?_
  refine j_iload F 1 rfl dL_isAnswered_347 ?_
  refine j_iload F 2 rfl dL_isAnswered_349 ?_
  refine j_iconst F dL_isAnswered_351 ?_
  refine j_callX (d' := 9) (argl := [(false, x0), (true, 7), (true, x6), (true, x7), (true, 0)]) (rk9 := 1) (st := []) F hno M_L_asks q1512 q1511 ⟨by decide, by decide⟩ (Nat.le_of_ble_eq_true rfl) (by decide) dL_isAnswered_352 rfl h (fun z hz => c_L_asks l F.ht G x0 7 x6 x7 0 M z hz) (fun v1 M2 h kl3 => ?_)
  refine j_st (st' := [(true, v1)]) rfl ?_
  refine j_sipush F (by decide) dL_isAnswered_355 ?_
  refine j_icmp_ne F 365 (by decide) dL_isAnswered_358 h (fun h => ?_) (fun h => ?_)
  · skip
    refine j_iconst F dL_isAnswered_365 ?_
    exact j_zret F (by decide) h dL_isAnswered_366
  · skip
    refine j_iconst F dL_isAnswered_361 ?_
    refine j_goto F 366 (by decide) dL_isAnswered_362 ?_
    exact j_zret F (by decide) h dL_isAnswered_366
set_option maxHeartbeats 4000000 in
set_option maxRecDepth 100000 in
theorem w_L_isAnswered_292 {p : Program} {l : Launch} {e : Env} {R : Room} {s : State} {m : MethodId} {args : Array Value} {below : List Frame} {meth : Method} {c : Code} {G : Gt} {ρ0 : Int → Nat} {M0 : Mo} {res : RS} (F : Fx p l R s m args meth c cL_isAnswered 12 RL G M0 11 (some FieldType.boolean)) (hno : ∀ x ∈ c.exceptionTable.toList, False) (hnm : meth.name = yL_isAnswered.name) (x0 x1 x2 x6 x7 x8 x9 x10 x11 y0 y1 y2 y3 y4 : Int) (M : Mo) (h : L_isAnswered_292 x0 x1 x2 x6 x7 x8 x9 x10 x11 y0 y1 y2 y3 y4 M = some res) : J p l e R s m args below meth c 12 G ρ0 M0 1 res M 292 [(0, (false, x0)), (1, (false, x1)), (2, (true, x2)), (6, (true, x6)), (7, (true, x7)), (8, (true, x8)), (9, (true, x9)), (10, (true, x10)), (11, (true, x11))] [(true, y4), (true, y3), (true, y2), (true, y1), (false, y0)] := by
  unfold L_isAnswered_292 at h
  refine j_callX (d' := 9) (argl := [(false, y0), (true, y1), (true, y2), (true, y3), (true, y4)]) (rk9 := 1) (st := []) F hno M_L_asks q1512 q1511 ⟨by decide, by decide⟩ (Nat.le_of_ble_eq_true rfl) (by decide) dL_isAnswered_292 rfl h (fun z hz => c_L_asks l F.ht G y0 y1 y2 y3 y4 M z hz) (fun v1 M2 h kl3 => ?_)
  refine j_st (st' := [(true, v1)]) rfl ?_
  refine j_sipush F (by decide) dL_isAnswered_295 ?_
  refine j_icmp_ne F 365 (by decide) dL_isAnswered_298 h (fun h => ?_) (fun h => ?_)
  · skip
    refine j_iconst F dL_isAnswered_365 ?_
    exact j_zret F (by decide) h dL_isAnswered_366
  · skip
    refine j_iload F 8 rfl dL_isAnswered_301 ?_
    refine j_if_eq F 344 (by decide) dL_isAnswered_303 h (fun h => ?_) (fun h => ?_)
    · skip
      refine j_sub (lv' := [(0, (false, x0)), (6, (true, x6)), (7, (true, x7))]) [0, 3, 4] rfl ?_
      exact w_L_isAnswered_344 F hno hnm x0 x6 x7 M2 h
    · skip
      refine j_aload_n F 0 rfl rfl dL_isAnswered_306 ?_
      refine j_iconst F dL_isAnswered_307 ?_
      refine j_iload F 3 rfl dL_isAnswered_308 ?_
      refine j_iload F 4 rfl dL_isAnswered_310 ?_
      refine j_iconst F dL_isAnswered_312 ?_
      refine j_callX (d' := 9) (argl := [(false, x0), (true, 5), (true, x6), (true, x7), (true, 0)]) (rk9 := 1) (st := []) F hno M_L_asks q1512 q1511 ⟨by decide, by decide⟩ (Nat.le_of_ble_eq_true rfl) (by decide) dL_isAnswered_313 rfl h (fun z hz => c_L_asks l F.ht G x0 5 x6 x7 0 M2 z hz) (fun v4 M5 h kl6 => ?_)
      refine j_st (st' := [(true, v4)]) rfl ?_
      refine j_aload_n F 1 rfl rfl dL_isAnswered_316 ?_
      refine j_iload_n F 2 rfl rfl dL_isAnswered_317 ?_
      refine j_iload F 5 rfl dL_isAnswered_318 ?_
      refine j_iload F 6 rfl dL_isAnswered_320 ?_
      refine j_callS (d' := 0) (argl := [(false, x1), (true, x2), (true, x8), (true, x9)]) (rk9 := 1) (st := [(true, v4)]) F hno M_L_item q1676 q1675 ⟨by decide, by decide⟩ (Nat.le_of_ble_eq_true rfl) (by decide) dL_isAnswered_322 rfl h (fun z hz => c_L_item l F.ht G x1 x2 x8 x9 M5 z hz) (fun v7 M8 h kl9 => ?_)
      refine j_st (st' := [(true, v7), (true, v4)]) rfl ?_
      refine j_icmp_ne F 365 (by decide) dL_isAnswered_325 h (fun h => ?_) (fun h => ?_)
      · skip
        refine j_iconst F dL_isAnswered_365 ?_
        exact j_zret F (by decide) h dL_isAnswered_366
      · skip
        refine j_aload_n F 0 rfl rfl dL_isAnswered_328 ?_
        refine j_bipush F (by decide) dL_isAnswered_329 ?_
        refine j_iload F 3 rfl dL_isAnswered_331 ?_
        refine j_iload F 4 rfl dL_isAnswered_333 ?_
        refine j_iconst F dL_isAnswered_335 ?_
        refine j_callX (d' := 9) (argl := [(false, x0), (true, 6), (true, x6), (true, x7), (true, 0)]) (rk9 := 1) (st := []) F hno M_L_asks q1512 q1511 ⟨by decide, by decide⟩ (Nat.le_of_ble_eq_true rfl) (by decide) dL_isAnswered_336 rfl h (fun z hz => c_L_asks l F.ht G x0 6 x6 x7 0 M8 z hz) (fun v10 M11 h kl12 => ?_)
        refine j_st (st' := [(true, v10)]) rfl ?_
        refine j_iload F 7 rfl dL_isAnswered_339 ?_
        refine j_icmp_ne F 365 (by decide) dL_isAnswered_341 h (fun h => ?_) (fun h => ?_)
        · skip
          refine j_iconst F dL_isAnswered_365 ?_
          exact j_zret F (by decide) h dL_isAnswered_366
        · skip
          refine j_sub (lv' := [(0, (false, x0)), (6, (true, x6)), (7, (true, x7))]) [0, 3, 4] rfl ?_
          exact w_L_isAnswered_344 F hno hnm x0 x6 x7 M11 h
set_option maxHeartbeats 4000000 in
set_option maxRecDepth 100000 in
theorem w_L_isAnswered_273 {p : Program} {l : Launch} {e : Env} {R : Room} {s : State} {m : MethodId} {args : Array Value} {below : List Frame} {meth : Method} {c : Code} {G : Gt} {ρ0 : Int → Nat} {M0 : Mo} {res : RS} (F : Fx p l R s m args meth c cL_isAnswered 12 RL G M0 11 (some FieldType.boolean)) (hno : ∀ x ∈ c.exceptionTable.toList, False) (hnm : meth.name = yL_isAnswered.name) (x0 x1 x2 x6 x7 x8 x9 x10 x11 y0 y1 : Int) (M : Mo) (h : L_isAnswered_273 x0 x1 x2 x6 x7 x8 x9 x10 x11 y0 y1 M = some res) : J p l e R s m args below meth c 12 G ρ0 M0 1 res M 273 [(0, (false, x0)), (1, (false, x1)), (2, (true, x2)), (6, (true, x6)), (7, (true, x7)), (8, (true, x8)), (9, (true, x9)), (10, (true, x10)), (11, (true, x11))] [(true, y1), (true, y0)] := by
  unfold L_isAnswered_273 at h
  refine j_icmp_ne F 365 (by decide) dL_isAnswered_273 h (fun h => ?_) (fun h => ?_)
  · skip
    refine j_iconst F dL_isAnswered_365 ?_
    exact j_zret F (by decide) h dL_isAnswered_366
  · skip
    refine j_aload_n F 0 rfl rfl dL_isAnswered_276 ?_
    refine j_iconst F dL_isAnswered_277 ?_
    refine j_iload F 3 rfl dL_isAnswered_278 ?_
    refine j_iload F 4 rfl dL_isAnswered_280 ?_
    refine j_iload F 8 rfl dL_isAnswered_282 ?_
    refine j_if_eq F 291 (by decide) dL_isAnswered_284 h (fun h => ?_) (fun h => ?_)
    · skip
      refine j_iconst F dL_isAnswered_291 ?_
      refine j_sub (lv' := [(0, (false, x0)), (1, (false, x1)), (2, (true, x2)), (6, (true, x6)), (7, (true, x7)), (8, (true, x8)), (9, (true, x9)), (10, (true, x10)), (11, (true, x11))]) [0, 1, 2, 3, 4, 5, 6, 7, 8] rfl ?_
      exact w_L_isAnswered_292 F hno hnm x0 x1 x2 x6 x7 x8 x9 x10 x11 x0 5 x6 x7 0 M h
    · skip
      refine j_iconst F dL_isAnswered_287 ?_
      refine j_goto F 292 (by decide) dL_isAnswered_288 ?_
      refine j_sub (lv' := [(0, (false, x0)), (1, (false, x1)), (2, (true, x2)), (6, (true, x6)), (7, (true, x7)), (8, (true, x8)), (9, (true, x9)), (10, (true, x10)), (11, (true, x11))]) [0, 1, 2, 3, 4, 5, 6, 7, 8] rfl ?_
      exact w_L_isAnswered_292 F hno hnm x0 x1 x2 x6 x7 x8 x9 x10 x11 x0 5 x6 x7 1 M h
set_option maxHeartbeats 4000000 in
set_option maxRecDepth 100000 in
theorem w_L_isAnswered_252 {p : Program} {l : Launch} {e : Env} {R : Room} {s : State} {m : MethodId} {args : Array Value} {below : List Frame} {meth : Method} {c : Code} {G : Gt} {ρ0 : Int → Nat} {M0 : Mo} {res : RS} (F : Fx p l R s m args meth c cL_isAnswered 12 RL G M0 11 (some FieldType.boolean)) (hno : ∀ x ∈ c.exceptionTable.toList, False) (hnm : meth.name = yL_isAnswered.name) (x0 x1 x2 x6 x7 x8 x9 x10 y0 : Int) (M : Mo) (h : L_isAnswered_252 x0 x1 x2 x6 x7 x8 x9 x10 y0 M = some res) : J p l e R s m args below meth c 12 G ρ0 M0 1 res M 252 [(0, (false, x0)), (1, (false, x1)), (2, (true, x2)), (6, (true, x6)), (7, (true, x7)), (8, (true, x8)), (9, (true, x9)), (10, (true, x10))] [(true, y0)] := by
  unfold L_isAnswered_252 at h
  refine j_istore F (lv' := [(11, (true, y0)), (0, (false, x0)), (1, (false, x1)), (2, (true, x2)), (6, (true, x6)), (7, (true, x7)), (8, (true, x8)), (9, (true, x9)), (10, (true, x10))]) (by decide) rfl dL_isAnswered_252 ?_
  refine j_aload_n F 1 rfl rfl dL_isAnswered_254 ?_
  refine j_iload F 4 rfl dL_isAnswered_255 ?_
  refine j_iload F 5 rfl dL_isAnswered_257 ?_
  obtain ⟨g4, h⟩ := gua h
  refine j_callV (d' := 7) (argl := [(true, x6), (true, x7)]) (rk9 := 1) (st := []) F hno M_X11_standing q1542 q1543 q1541 ⟨by decide, by decide⟩ (Nat.le_of_ble_eq_true rfl) (by decide) (ci := 12) rfl (by decide) g4 dL_isAnswered_259 rfl h (fun z hz => c_X11_standing l F.ht G x0 x6 x7 M z hz) (fun v1 M2 h kl3 => ?_)
  refine j_st (st' := [(true, v1)]) rfl ?_
  refine j_iload F 0 rfl dL_isAnswered_262 ?_
  refine j_if_eq F 272 (by decide) dL_isAnswered_264 h (fun h => ?_) (fun h => ?_)
  · skip
    refine j_iconst F dL_isAnswered_272 ?_
    refine j_sub (lv' := [(0, (false, x0)), (1, (false, x1)), (2, (true, x2)), (6, (true, x6)), (7, (true, x7)), (8, (true, x8)), (9, (true, x9)), (10, (true, x10)), (11, (true, y0))]) [1, 2, 3, 4, 5, 6, 7, 8, 0] rfl ?_
    exact w_L_isAnswered_273 F hno hnm x0 x1 x2 x6 x7 x8 x9 x10 y0 v1 1 M2 h
  · skip
    refine j_bipush F (by decide) dL_isAnswered_267 ?_
    refine j_goto F 273 (by decide) dL_isAnswered_269 ?_
    refine j_sub (lv' := [(0, (false, x0)), (1, (false, x1)), (2, (true, x2)), (6, (true, x6)), (7, (true, x7)), (8, (true, x8)), (9, (true, x9)), (10, (true, x10)), (11, (true, y0))]) [1, 2, 3, 4, 5, 6, 7, 8, 0] rfl ?_
    exact w_L_isAnswered_273 F hno hnm x0 x1 x2 x6 x7 x8 x9 x10 y0 v1 11 M2 h
set_option maxHeartbeats 4000000 in
set_option maxRecDepth 100000 in
theorem w_L_isAnswered_251 {p : Program} {l : Launch} {e : Env} {R : Room} {s : State} {m : MethodId} {args : Array Value} {below : List Frame} {meth : Method} {c : Code} {G : Gt} {ρ0 : Int → Nat} {M0 : Mo} {res : RS} (F : Fx p l R s m args meth c cL_isAnswered 12 RL G M0 11 (some FieldType.boolean)) (hno : ∀ x ∈ c.exceptionTable.toList, False) (hnm : meth.name = yL_isAnswered.name) (x0 x1 x2 x6 x7 x8 x9 x10 : Int) (M : Mo) (h : L_isAnswered_251 x0 x1 x2 x6 x7 x8 x9 x10 M = some res) : J p l e R s m args below meth c 12 G ρ0 M0 1 res M 251 [(0, (false, x0)), (1, (false, x1)), (2, (true, x2)), (6, (true, x6)), (7, (true, x7)), (8, (true, x8)), (9, (true, x9)), (10, (true, x10))] [] := by
  unfold L_isAnswered_251 at h
  refine j_iconst F dL_isAnswered_251 ?_
  refine j_sub (lv' := [(0, (false, x0)), (1, (false, x1)), (2, (true, x2)), (6, (true, x6)), (7, (true, x7)), (8, (true, x8)), (9, (true, x9)), (10, (true, x10))]) [0, 1, 2, 3, 4, 5, 6, 7] rfl ?_
  exact w_L_isAnswered_252 F hno hnm x0 x1 x2 x6 x7 x8 x9 x10 0 M h
set_option maxHeartbeats 4000000 in
set_option maxRecDepth 100000 in
theorem w_L_isAnswered_235 {p : Program} {l : Launch} {e : Env} {R : Room} {s : State} {m : MethodId} {args : Array Value} {below : List Frame} {meth : Method} {c : Code} {G : Gt} {ρ0 : Int → Nat} {M0 : Mo} {res : RS} (F : Fx p l R s m args meth c cL_isAnswered 12 RL G M0 11 (some FieldType.boolean)) (hno : ∀ x ∈ c.exceptionTable.toList, False) (hnm : meth.name = yL_isAnswered.name) (x0 x1 x2 x6 x7 x8 x9 x10 : Int) (M : Mo) (h : L_isAnswered_235 x0 x1 x2 x6 x7 x8 x9 x10 M = some res) : J p l e R s m args below meth c 12 G ρ0 M0 1 res M 235 [(0, (false, x0)), (1, (false, x1)), (2, (true, x2)), (6, (true, x6)), (7, (true, x7)), (8, (true, x8)), (9, (true, x9)), (10, (true, x10))] [] := by
  unfold L_isAnswered_235 at h
  refine j_iload F 5 rfl dL_isAnswered_235 ?_
  refine j_if_lt F 251 (by decide) dL_isAnswered_237 h (fun h => ?_) (fun h => ?_)
  · skip
    refine j_sub (lv' := [(0, (false, x0)), (1, (false, x1)), (2, (true, x2)), (6, (true, x6)), (7, (true, x7)), (8, (true, x8)), (9, (true, x9)), (10, (true, x10))]) [0, 1, 2, 3, 4, 5, 6, 7] rfl ?_
    exact w_L_isAnswered_251 F hno hnm x0 x1 x2 x6 x7 x8 x9 x10 M h
  · skip
    refine j_iload F 6 rfl dL_isAnswered_240 ?_
    refine j_iload F 5 rfl dL_isAnswered_242 ?_
    refine j_icmp_le F 251 (by decide) dL_isAnswered_244 h (fun h => ?_) (fun h => ?_)
    · skip
      refine j_sub (lv' := [(0, (false, x0)), (1, (false, x1)), (2, (true, x2)), (6, (true, x6)), (7, (true, x7)), (8, (true, x8)), (9, (true, x9)), (10, (true, x10))]) [0, 1, 2, 3, 4, 5, 6, 7] rfl ?_
      exact w_L_isAnswered_251 F hno hnm x0 x1 x2 x6 x7 x8 x9 x10 M h
    · skip
      refine j_iconst F dL_isAnswered_247 ?_
      refine j_goto F 252 (by decide) dL_isAnswered_248 ?_
      refine j_sub (lv' := [(0, (false, x0)), (1, (false, x1)), (2, (true, x2)), (6, (true, x6)), (7, (true, x7)), (8, (true, x8)), (9, (true, x9)), (10, (true, x10))]) [0, 1, 2, 3, 4, 5, 6, 7] rfl ?_
      exact w_L_isAnswered_252 F hno hnm x0 x1 x2 x6 x7 x8 x9 x10 1 M h
set_option maxHeartbeats 4000000 in
set_option maxRecDepth 100000 in
theorem w_L_isAnswered_206 {p : Program} {l : Launch} {e : Env} {R : Room} {s : State} {m : MethodId} {args : Array Value} {below : List Frame} {meth : Method} {c : Code} {G : Gt} {ρ0 : Int → Nat} {M0 : Mo} {res : RS} (F : Fx p l R s m args meth c cL_isAnswered 12 RL G M0 11 (some FieldType.boolean)) (hno : ∀ x ∈ c.exceptionTable.toList, False) (hnm : meth.name = yL_isAnswered.name) (n : Nat) : ∀ (x0 x1 x2 x3 x6 x7 x8 x9 x10 : Int) (M : Mo), L_isAnswered_206 n x0 x1 x2 x3 x6 x7 x8 x9 x10 M = some res → J p l e R s m args below meth c 12 G ρ0 M0 1 res M 206 [(0, (false, x0)), (1, (false, x1)), (2, (true, x2)), (3, (true, x3)), (6, (true, x6)), (7, (true, x7)), (8, (true, x8)), (9, (true, x9)), (10, (true, x10))] [] := by
  induction n with
  | zero => intro x0 x1 x2 x3 x6 x7 x8 x9 x10 M h; cases h
  | succ n ih =>
    intro x0 x1 x2 x3 x6 x7 x8 x9 x10 M h
    rw [L_isAnswered_206] at h
    refine j_iload_n F 3 rfl rfl dL_isAnswered_206 ?_
    refine j_iconst F dL_isAnswered_207 ?_
    refine j_icmp_ne F 235 (by decide) dL_isAnswered_208 h (fun h => ?_) (fun h => ?_)
    · skip
      refine j_sub (lv' := [(0, (false, x0)), (1, (false, x1)), (2, (true, x2)), (6, (true, x6)), (7, (true, x7)), (8, (true, x8)), (9, (true, x9)), (10, (true, x10))]) [0, 1, 2, 4, 5, 6, 7, 8] rfl ?_
      exact w_L_isAnswered_235 F hno hnm x0 x1 x2 x6 x7 x8 x9 x10 M h
    · skip
      refine j_iload F 7 rfl dL_isAnswered_211 ?_
      refine j_aload_n F 1 rfl rfl dL_isAnswered_213 ?_
      refine j_bipush F (by decide) dL_isAnswered_214 ?_
      obtain ⟨g1, h⟩ := gua h
      obtain ⟨g2, h⟩ := gua h
      refine j_iaload F g1 g2 dL_isAnswered_216 ?_
      refine j_icmp_ge F 235 (by decide) dL_isAnswered_217 h (fun h => ?_) (fun h => ?_)
      · skip
        refine j_sub (lv' := [(0, (false, x0)), (1, (false, x1)), (2, (true, x2)), (6, (true, x6)), (7, (true, x7)), (8, (true, x8)), (9, (true, x9)), (10, (true, x10))]) [0, 1, 2, 4, 5, 6, 7, 8] rfl ?_
        exact w_L_isAnswered_235 F hno hnm x0 x1 x2 x6 x7 x8 x9 x10 M h
      · skip
        refine j_aload_n F 1 rfl rfl dL_isAnswered_220 ?_
        refine j_iload F 7 rfl dL_isAnswered_221 ?_
        obtain ⟨g3, h⟩ := gua h
        refine j_iaload F g1 g3 dL_isAnswered_223 ?_
        refine j_bipush F (by decide) dL_isAnswered_224 ?_
        refine j_icmp_eq F 235 (by decide) dL_isAnswered_226 h (fun h => ?_) (fun h => ?_)
        · skip
          refine j_sub (lv' := [(0, (false, x0)), (1, (false, x1)), (2, (true, x2)), (6, (true, x6)), (7, (true, x7)), (8, (true, x8)), (9, (true, x9)), (10, (true, x10))]) [0, 1, 2, 4, 5, 6, 7, 8] rfl ?_
          exact w_L_isAnswered_235 F hno hnm x0 x1 x2 x6 x7 x8 x9 x10 M h
        · skip
          refine j_iinc F 7 (lv' := [(9, (true, (x9 + 1))), (0, (false, x0)), (1, (false, x1)), (2, (true, x2)), (3, (true, x3)), (6, (true, x6)), (7, (true, x7)), (8, (true, x8)), (10, (true, x10))]) rfl (by decide) rfl dL_isAnswered_229 ?_
          refine j_goto F 206 (by decide) dL_isAnswered_232 ?_
          refine j_sub (lv' := [(0, (false, x0)), (1, (false, x1)), (2, (true, x2)), (3, (true, x3)), (6, (true, x6)), (7, (true, x7)), (8, (true, x8)), (9, (true, (x9 + 1))), (10, (true, x10))]) [1, 2, 3, 4, 5, 6, 7, 0, 8] rfl ?_
          exact ih x0 x1 x2 x3 x6 x7 x8 (x9 + 1) x10 M h
set_option maxHeartbeats 4000000 in
set_option maxRecDepth 100000 in
theorem w_L_isAnswered_179 {p : Program} {l : Launch} {e : Env} {R : Room} {s : State} {m : MethodId} {args : Array Value} {below : List Frame} {meth : Method} {c : Code} {G : Gt} {ρ0 : Int → Nat} {M0 : Mo} {res : RS} (F : Fx p l R s m args meth c cL_isAnswered 12 RL G M0 11 (some FieldType.boolean)) (hno : ∀ x ∈ c.exceptionTable.toList, False) (hnm : meth.name = yL_isAnswered.name) (n : Nat) : ∀ (x0 x1 x2 x3 x6 x7 x8 x9 x10 : Int) (M : Mo), L_isAnswered_179 n x0 x1 x2 x3 x6 x7 x8 x9 x10 M = some res → J p l e R s m args below meth c 12 G ρ0 M0 1 res M 179 [(0, (false, x0)), (1, (false, x1)), (2, (true, x2)), (3, (true, x3)), (6, (true, x6)), (7, (true, x7)), (8, (true, x8)), (9, (true, x9)), (10, (true, x10))] [] := by
  induction n with
  | zero => intro x0 x1 x2 x3 x6 x7 x8 x9 x10 M h; cases h
  | succ n ih =>
    intro x0 x1 x2 x3 x6 x7 x8 x9 x10 M h
    rw [L_isAnswered_179] at h
    refine j_iload_n F 3 rfl rfl dL_isAnswered_179 ?_
    refine j_iconst F dL_isAnswered_180 ?_
    refine j_icmp_ne F 206 (by decide) dL_isAnswered_181 h (fun h => ?_) (fun h => ?_)
    · skip
      refine j_sub (lv' := [(0, (false, x0)), (1, (false, x1)), (2, (true, x2)), (3, (true, x3)), (6, (true, x6)), (7, (true, x7)), (8, (true, x8)), (9, (true, x9)), (10, (true, x10))]) [0, 1, 2, 3, 4, 5, 6, 7, 8] rfl ?_
      exact w_L_isAnswered_206 F hno hnm FU x0 x1 x2 x3 x6 x7 x8 x9 x10 M h
    · skip
      refine j_iload F 6 rfl dL_isAnswered_184 ?_
      refine j_if_le F 206 (by decide) dL_isAnswered_186 h (fun h => ?_) (fun h => ?_)
      · skip
        refine j_sub (lv' := [(0, (false, x0)), (1, (false, x1)), (2, (true, x2)), (3, (true, x3)), (6, (true, x6)), (7, (true, x7)), (8, (true, x8)), (9, (true, x9)), (10, (true, x10))]) [0, 1, 2, 3, 4, 5, 6, 7, 8] rfl ?_
        exact w_L_isAnswered_206 F hno hnm FU x0 x1 x2 x3 x6 x7 x8 x9 x10 M h
      · skip
        refine j_aload_n F 1 rfl rfl dL_isAnswered_189 ?_
        refine j_iload F 6 rfl dL_isAnswered_190 ?_
        refine j_iconst F dL_isAnswered_192 ?_
        refine j_isub F dL_isAnswered_193 ?_
        obtain ⟨g1, h⟩ := gua h
        obtain ⟨g2, h⟩ := gua h
        refine j_iaload F g1 g2 dL_isAnswered_194 ?_
        refine j_bipush F (by decide) dL_isAnswered_195 ?_
        refine j_icmp_eq F 206 (by decide) dL_isAnswered_197 h (fun h => ?_) (fun h => ?_)
        · skip
          refine j_sub (lv' := [(0, (false, x0)), (1, (false, x1)), (2, (true, x2)), (3, (true, x3)), (6, (true, x6)), (7, (true, x7)), (8, (true, x8)), (9, (true, x9)), (10, (true, x10))]) [0, 1, 2, 3, 4, 5, 6, 7, 8] rfl ?_
          exact w_L_isAnswered_206 F hno hnm FU x0 x1 x2 x3 x6 x7 x8 x9 x10 M h
        · skip
          refine j_iinc F 6 (lv' := [(8, (true, (x8 + (-1)))), (0, (false, x0)), (1, (false, x1)), (2, (true, x2)), (3, (true, x3)), (6, (true, x6)), (7, (true, x7)), (9, (true, x9)), (10, (true, x10))]) rfl (by decide) rfl dL_isAnswered_200 ?_
          refine j_goto F 179 (by decide) dL_isAnswered_203 ?_
          refine j_sub (lv' := [(0, (false, x0)), (1, (false, x1)), (2, (true, x2)), (3, (true, x3)), (6, (true, x6)), (7, (true, x7)), (8, (true, (x8 + (-1)))), (9, (true, x9)), (10, (true, x10))]) [1, 2, 3, 4, 5, 6, 0, 7, 8] rfl ?_
          exact ih x0 x1 x2 x3 x6 x7 (x8 + (-1)) x9 x10 M h
set_option maxHeartbeats 4000000 in
set_option maxRecDepth 100000 in
theorem w_L_isAnswered_119 {p : Program} {l : Launch} {e : Env} {R : Room} {s : State} {m : MethodId} {args : Array Value} {below : List Frame} {meth : Method} {c : Code} {G : Gt} {ρ0 : Int → Nat} {M0 : Mo} {res : RS} (F : Fx p l R s m args meth c cL_isAnswered 12 RL G M0 11 (some FieldType.boolean)) (hno : ∀ x ∈ c.exceptionTable.toList, False) (hnm : meth.name = yL_isAnswered.name) (n : Nat) : ∀ (x0 x1 x2 x3 x5 x6 x7 x8 x9 x10 : Int) (M : Mo), L_isAnswered_119 n x0 x1 x2 x3 x5 x6 x7 x8 x9 x10 M = some res → J p l e R s m args below meth c 12 G ρ0 M0 1 res M 119 [(0, (false, x0)), (1, (false, x1)), (2, (true, x2)), (3, (true, x3)), (5, (true, x5)), (6, (true, x6)), (7, (true, x7)), (8, (true, x8)), (9, (true, x9)), (10, (true, x10))] [] := by
  induction n with
  | zero => intro x0 x1 x2 x3 x5 x6 x7 x8 x9 x10 M h; cases h
  | succ n ih =>
    intro x0 x1 x2 x3 x5 x6 x7 x8 x9 x10 M h
    rw [L_isAnswered_119] at h
    refine j_aload_n F 1 rfl rfl dL_isAnswered_119 ?_
    refine j_iload F 7 rfl dL_isAnswered_120 ?_
    refine j_iload F 4 rfl dL_isAnswered_122 ?_
    refine j_callS (d' := 3) (argl := [(false, x1), (true, x8), (true, x5)]) (rk9 := 1) (st := []) F hno M_L_isFirstOf q1673 q1672 ⟨by decide, by decide⟩ (Nat.le_of_ble_eq_true rfl) (by decide) dL_isAnswered_124 rfl h (fun z hz => c_L_isFirstOf l F.ht G x1 x8 x5 M z hz) (fun v1 M2 h kl3 => ?_)
    refine j_st (st' := [(true, v1)]) rfl ?_
    refine j_if_ne F 179 (by decide) dL_isAnswered_127 h (fun h => ?_) (fun h => ?_)
    · skip
      refine j_sub (lv' := [(0, (false, x0)), (1, (false, x1)), (2, (true, x2)), (3, (true, x3)), (6, (true, x6)), (7, (true, x7)), (8, (true, x8)), (9, (true, x9)), (10, (true, x10))]) [0, 1, 2, 3, 5, 6, 7, 8, 9] rfl ?_
      exact w_L_isAnswered_179 F hno hnm FU x0 x1 x2 x3 x6 x7 x8 x9 x10 M2 h
    · skip
      refine j_iload F 7 rfl dL_isAnswered_130 ?_
      refine j_iconst F dL_isAnswered_132 ?_
      refine j_isub F dL_isAnswered_133 ?_
      refine j_istore F (lv' := [(11, (true, (x8 - 1))), (0, (false, x0)), (1, (false, x1)), (2, (true, x2)), (3, (true, x3)), (5, (true, x5)), (6, (true, x6)), (7, (true, x7)), (8, (true, x8)), (9, (true, x9)), (10, (true, x10))]) (by decide) rfl dL_isAnswered_134 ?_
      refine j_sub (lv' := [(0, (false, x0)), (1, (false, x1)), (2, (true, x2)), (3, (true, x3)), (5, (true, x5)), (6, (true, x6)), (7, (true, x7)), (8, (true, x8)), (10, (true, x10)), (11, (true, (x8 - 1)))]) [1, 2, 3, 4, 5, 6, 7, 8, 10, 0] rfl ?_
      exact w_L_isAnswered_136 F hno hnm (L_isAnswered_119 n) ih FU x0 x1 x2 x3 x5 x6 x7 x8 x10 (x8 - 1) M2 h
set_option maxHeartbeats 4000000 in
set_option maxRecDepth 100000 in
theorem w_L_isAnswered_107 {p : Program} {l : Launch} {e : Env} {R : Room} {s : State} {m : MethodId} {args : Array Value} {below : List Frame} {meth : Method} {c : Code} {G : Gt} {ρ0 : Int → Nat} {M0 : Mo} {res : RS} (F : Fx p l R s m args meth c cL_isAnswered 12 RL G M0 11 (some FieldType.boolean)) (hno : ∀ x ∈ c.exceptionTable.toList, False) (hnm : meth.name = yL_isAnswered.name) (x0 x1 x2 x3 x5 x6 x7 x8 x9 y0 : Int) (M : Mo) (h : L_isAnswered_107 x0 x1 x2 x3 x5 x6 x7 x8 x9 y0 M = some res) : J p l e R s m args below meth c 12 G ρ0 M0 1 res M 107 [(0, (false, x0)), (1, (false, x1)), (2, (true, x2)), (3, (true, x3)), (5, (true, x5)), (6, (true, x6)), (7, (true, x7)), (8, (true, x8)), (9, (true, x9))] [(true, y0)] := by
  unfold L_isAnswered_107 at h
  refine j_istore F (lv' := [(10, (true, y0)), (0, (false, x0)), (1, (false, x1)), (2, (true, x2)), (3, (true, x3)), (5, (true, x5)), (6, (true, x6)), (7, (true, x7)), (8, (true, x8)), (9, (true, x9))]) (by decide) rfl dL_isAnswered_107 ?_
  refine j_iload_n F 4 rfl rfl dL_isAnswered_109 ?_
  refine j_iconst F dL_isAnswered_110 ?_
  refine j_icmp_ne F 179 (by decide) dL_isAnswered_111 h (fun h => ?_) (fun h => ?_)
  · skip
    refine j_sub (lv' := [(0, (false, x0)), (1, (false, x1)), (2, (true, x2)), (3, (true, x3)), (6, (true, x6)), (7, (true, x7)), (8, (true, x8)), (9, (true, x9)), (10, (true, y0))]) [1, 2, 3, 4, 6, 7, 8, 9, 0] rfl ?_
    exact w_L_isAnswered_179 F hno hnm FU x0 x1 x2 x3 x6 x7 x8 x9 y0 M h
  · skip
    refine j_iload F 8 rfl dL_isAnswered_114 ?_
    refine j_if_lt F 179 (by decide) dL_isAnswered_116 h (fun h => ?_) (fun h => ?_)
    · skip
      refine j_sub (lv' := [(0, (false, x0)), (1, (false, x1)), (2, (true, x2)), (3, (true, x3)), (6, (true, x6)), (7, (true, x7)), (8, (true, x8)), (9, (true, x9)), (10, (true, y0))]) [1, 2, 3, 4, 6, 7, 8, 9, 0] rfl ?_
      exact w_L_isAnswered_179 F hno hnm FU x0 x1 x2 x3 x6 x7 x8 x9 y0 M h
    · skip
      refine j_sub (lv' := [(0, (false, x0)), (1, (false, x1)), (2, (true, x2)), (3, (true, x3)), (5, (true, x5)), (6, (true, x6)), (7, (true, x7)), (8, (true, x8)), (9, (true, x9)), (10, (true, y0))]) [1, 2, 3, 4, 5, 6, 7, 8, 9, 0] rfl ?_
      exact w_L_isAnswered_119 F hno hnm FU x0 x1 x2 x3 x5 x6 x7 x8 x9 y0 M h
set_option maxHeartbeats 4000000 in
set_option maxRecDepth 100000 in
theorem w_L_isAnswered_106 {p : Program} {l : Launch} {e : Env} {R : Room} {s : State} {m : MethodId} {args : Array Value} {below : List Frame} {meth : Method} {c : Code} {G : Gt} {ρ0 : Int → Nat} {M0 : Mo} {res : RS} (F : Fx p l R s m args meth c cL_isAnswered 12 RL G M0 11 (some FieldType.boolean)) (hno : ∀ x ∈ c.exceptionTable.toList, False) (hnm : meth.name = yL_isAnswered.name) (x0 x1 x2 x3 x5 x6 x7 x8 x9 : Int) (M : Mo) (h : L_isAnswered_106 x0 x1 x2 x3 x5 x6 x7 x8 x9 M = some res) : J p l e R s m args below meth c 12 G ρ0 M0 1 res M 106 [(0, (false, x0)), (1, (false, x1)), (2, (true, x2)), (3, (true, x3)), (5, (true, x5)), (6, (true, x6)), (7, (true, x7)), (8, (true, x8)), (9, (true, x9))] [] := by
  unfold L_isAnswered_106 at h
  refine j_iconst F dL_isAnswered_106 ?_
  refine j_sub (lv' := [(0, (false, x0)), (1, (false, x1)), (2, (true, x2)), (3, (true, x3)), (5, (true, x5)), (6, (true, x6)), (7, (true, x7)), (8, (true, x8)), (9, (true, x9))]) [0, 1, 2, 3, 4, 5, 6, 7, 8] rfl ?_
  exact w_L_isAnswered_107 F hno hnm x0 x1 x2 x3 x5 x6 x7 x8 x9 0 M h
set_option maxHeartbeats 4000000 in
set_option maxRecDepth 100000 in
theorem w_L_isAnswered_83 {p : Program} {l : Launch} {e : Env} {R : Room} {s : State} {m : MethodId} {args : Array Value} {below : List Frame} {meth : Method} {c : Code} {G : Gt} {ρ0 : Int → Nat} {M0 : Mo} {res : RS} (F : Fx p l R s m args meth c cL_isAnswered 12 RL G M0 11 (some FieldType.boolean)) (hno : ∀ x ∈ c.exceptionTable.toList, False) (hnm : meth.name = yL_isAnswered.name) (x0 x1 x2 x3 x5 x6 x7 x8 y0 : Int) (M : Mo) (h : L_isAnswered_83 x0 x1 x2 x3 x5 x6 x7 x8 y0 M = some res) : J p l e R s m args below meth c 12 G ρ0 M0 1 res M 83 [(0, (false, x0)), (1, (false, x1)), (2, (true, x2)), (3, (true, x3)), (5, (true, x5)), (6, (true, x6)), (7, (true, x7)), (8, (true, x8))] [(true, y0)] := by
  unfold L_isAnswered_83 at h
  refine j_istore F (lv' := [(9, (true, y0)), (0, (false, x0)), (1, (false, x1)), (2, (true, x2)), (3, (true, x3)), (5, (true, x5)), (6, (true, x6)), (7, (true, x7)), (8, (true, x8))]) (by decide) rfl dL_isAnswered_83 ?_
  refine j_iload_n F 4 rfl rfl dL_isAnswered_85 ?_
  refine j_iconst F dL_isAnswered_86 ?_
  refine j_icmp_ne F 106 (by decide) dL_isAnswered_87 h (fun h => ?_) (fun h => ?_)
  · skip
    refine j_sub (lv' := [(0, (false, x0)), (1, (false, x1)), (2, (true, x2)), (3, (true, x3)), (5, (true, x5)), (6, (true, x6)), (7, (true, x7)), (8, (true, x8)), (9, (true, y0))]) [1, 2, 3, 4, 5, 6, 7, 8, 0] rfl ?_
    exact w_L_isAnswered_106 F hno hnm x0 x1 x2 x3 x5 x6 x7 x8 y0 M h
  · skip
    refine j_iload F 8 rfl dL_isAnswered_90 ?_
    refine j_if_lt F 106 (by decide) dL_isAnswered_92 h (fun h => ?_) (fun h => ?_)
    · skip
      refine j_sub (lv' := [(0, (false, x0)), (1, (false, x1)), (2, (true, x2)), (3, (true, x3)), (5, (true, x5)), (6, (true, x6)), (7, (true, x7)), (8, (true, x8)), (9, (true, y0))]) [1, 2, 3, 4, 5, 6, 7, 8, 0] rfl ?_
      exact w_L_isAnswered_106 F hno hnm x0 x1 x2 x3 x5 x6 x7 x8 y0 M h
    · skip
      refine j_aload_n F 2 rfl rfl dL_isAnswered_95 ?_
      refine j_iload F 8 rfl dL_isAnswered_96 ?_
      refine j_iload F 5 rfl dL_isAnswered_98 ?_
      refine j_callS (d' := 3) (argl := [(false, x1), (true, x8), (true, x5)]) (rk9 := 1) (st := []) F hno M_L_likes q1683 q1682 ⟨by decide, by decide⟩ (Nat.le_of_ble_eq_true rfl) (by decide) dL_isAnswered_100 rfl h (fun z hz => c_L_likes l F.ht G x1 x8 x5 M z hz) (fun v1 M2 h kl3 => ?_)
      refine j_st (st' := [(true, v1)]) rfl ?_
      refine j_goto F 107 (by decide) dL_isAnswered_103 ?_
      refine j_sub (lv' := [(0, (false, x0)), (1, (false, x1)), (2, (true, x2)), (3, (true, x3)), (5, (true, x5)), (6, (true, x6)), (7, (true, x7)), (8, (true, x8)), (9, (true, y0))]) [1, 2, 3, 4, 5, 6, 7, 8, 0] rfl ?_
      exact w_L_isAnswered_107 F hno hnm x0 x1 x2 x3 x5 x6 x7 x8 y0 v1 M2 h
set_option maxHeartbeats 4000000 in
set_option maxRecDepth 100000 in
theorem w_L_isAnswered_55 {p : Program} {l : Launch} {e : Env} {R : Room} {s : State} {m : MethodId} {args : Array Value} {below : List Frame} {meth : Method} {c : Code} {G : Gt} {ρ0 : Int → Nat} {M0 : Mo} {res : RS} (F : Fx p l R s m args meth c cL_isAnswered 12 RL G M0 11 (some FieldType.boolean)) (hno : ∀ x ∈ c.exceptionTable.toList, False) (hnm : meth.name = yL_isAnswered.name) (x0 x1 x2 x3 x4 x5 x6 x7 y0 : Int) (M : Mo) (h : L_isAnswered_55 x0 x1 x2 x3 x4 x5 x6 x7 y0 M = some res) : J p l e R s m args below meth c 12 G ρ0 M0 1 res M 55 [(0, (false, x0)), (1, (false, x1)), (2, (true, x2)), (3, (true, x3)), (4, (true, x4)), (5, (true, x5)), (6, (true, x6)), (7, (true, x7))] [(true, y0)] := by
  unfold L_isAnswered_55 at h
  refine j_istore F (lv' := [(8, (true, y0)), (0, (false, x0)), (1, (false, x1)), (2, (true, x2)), (3, (true, x3)), (4, (true, x4)), (5, (true, x5)), (6, (true, x6)), (7, (true, x7))]) (by decide) rfl dL_isAnswered_55 ?_
  refine j_iload_n F 4 rfl rfl dL_isAnswered_57 ?_
  refine j_iconst F dL_isAnswered_58 ?_
  refine j_icmp_ne F 67 (by decide) dL_isAnswered_59 h (fun h => ?_) (fun h => ?_)
  · skip
    refine j_iload F 0 rfl dL_isAnswered_67 ?_
    refine j_if_ge F 77 (by decide) dL_isAnswered_69 h (fun h => ?_) (fun h => ?_)
    · skip
      refine j_aload_n F 2 rfl rfl dL_isAnswered_77 ?_
      refine j_iload F 0 rfl dL_isAnswered_78 ?_
      refine j_callS (d' := 1) (argl := [(false, x1), (true, y0)]) (rk9 := 1) (st := []) F hno M_L_behind q1661 q1660 ⟨by decide, by decide⟩ (Nat.le_of_ble_eq_true rfl) (by decide) dL_isAnswered_80 rfl h (fun z hz => c_L_behind l F.ht G x1 y0 M z hz) (fun v1 M2 h kl3 => ?_)
      refine j_st (st' := [(true, v1)]) rfl ?_
      refine j_sub (lv' := [(0, (false, x0)), (1, (false, x1)), (2, (true, x2)), (3, (true, x3)), (5, (true, x5)), (6, (true, x6)), (7, (true, x7)), (8, (true, y0))]) [1, 2, 3, 4, 6, 7, 8, 0] rfl ?_
      exact w_L_isAnswered_83 F hno hnm x0 x1 x2 x3 x5 x6 x7 y0 v1 M2 h
    · skip
      refine j_iload F 0 rfl dL_isAnswered_72 ?_
      refine j_goto F 83 (by decide) dL_isAnswered_74 ?_
      refine j_sub (lv' := [(0, (false, x0)), (1, (false, x1)), (2, (true, x2)), (3, (true, x3)), (5, (true, x5)), (6, (true, x6)), (7, (true, x7)), (8, (true, y0))]) [1, 2, 3, 4, 6, 7, 8, 0] rfl ?_
      exact w_L_isAnswered_83 F hno hnm x0 x1 x2 x3 x5 x6 x7 y0 y0 M h
  · skip
    refine j_iload F 5 rfl dL_isAnswered_62 ?_
    refine j_goto F 83 (by decide) dL_isAnswered_64 ?_
    refine j_sub (lv' := [(0, (false, x0)), (1, (false, x1)), (2, (true, x2)), (3, (true, x3)), (5, (true, x5)), (6, (true, x6)), (7, (true, x7)), (8, (true, y0))]) [1, 2, 3, 4, 6, 7, 8, 0] rfl ?_
    exact w_L_isAnswered_83 F hno hnm x0 x1 x2 x3 x5 x6 x7 y0 x4 M h
set_option maxHeartbeats 4000000 in
set_option maxRecDepth 100000 in
theorem w_L_isAnswered_0 {p : Program} {l : Launch} {e : Env} {R : Room} {s : State} {m : MethodId} {args : Array Value} {below : List Frame} {meth : Method} {c : Code} {G : Gt} {ρ0 : Int → Nat} {M0 : Mo} {res : RS} (F : Fx p l R s m args meth c cL_isAnswered 12 RL G M0 11 (some FieldType.boolean)) (hno : ∀ x ∈ c.exceptionTable.toList, False) (hnm : meth.name = yL_isAnswered.name) (x0 x1 x2 x3 x4 x5 x6 x7 : Int) (M : Mo) (h : L_isAnswered x0 x1 x2 x3 x4 x5 x6 x7 M = some res) : J p l e R s m args below meth c 12 G ρ0 M0 1 res M 0 [(0, (false, x0)), (1, (false, x1)), (2, (true, x2)), (3, (true, x3)), (4, (true, x4)), (5, (true, x5)), (6, (true, x6)), (7, (true, x7))] [] := by
  unfold L_isAnswered at h
  refine j_iload_n F 3 rfl rfl dL_isAnswered_0 ?_
  refine j_if_ne F 19 (by decide) dL_isAnswered_1 h (fun h => ?_) (fun h => ?_)
  · skip
    refine j_iload_n F 3 rfl rfl dL_isAnswered_19 ?_
    refine j_iconst F dL_isAnswered_20 ?_
    refine j_icmp_ne F 37 (by decide) dL_isAnswered_21 h (fun h => ?_) (fun h => ?_)
    · skip
      refine j_iload_n F 3 rfl rfl dL_isAnswered_37 ?_
      refine j_iconst F dL_isAnswered_38 ?_
      refine j_icmp_ne F 47 (by decide) dL_isAnswered_39 h (fun h => ?_) (fun h => ?_)
      · skip
        refine j_aload_n F 1 rfl rfl dL_isAnswered_47 ?_
        refine j_iload F 4 rfl dL_isAnswered_48 ?_
        refine j_iload F 5 rfl dL_isAnswered_50 ?_
        refine j_callS (d' := 2) (argl := [(false, x1), (true, x4), (true, x5)]) (rk9 := 1) (st := []) F hno M_L_runAt q1649 q1648 ⟨by decide, by decide⟩ (Nat.le_of_ble_eq_true rfl) (by decide) dL_isAnswered_52 rfl h (fun z hz => c_L_runAt l F.ht G x1 x4 x5 M z hz) (fun v1 M2 h kl3 => ?_)
        refine j_st (st' := [(true, v1)]) rfl ?_
        refine j_sub (lv' := [(0, (false, x0)), (1, (false, x1)), (2, (true, x2)), (3, (true, x3)), (4, (true, x4)), (5, (true, x5)), (6, (true, x6)), (7, (true, x7))]) [0, 1, 2, 3, 4, 5, 6, 7] rfl ?_
        exact w_L_isAnswered_55 F hno hnm x0 x1 x2 x3 x4 x5 x6 x7 v1 M2 h
      · skip
        refine j_iload F 4 rfl dL_isAnswered_42 ?_
        refine j_goto F 55 (by decide) dL_isAnswered_44 ?_
        refine j_sub (lv' := [(0, (false, x0)), (1, (false, x1)), (2, (true, x2)), (3, (true, x3)), (4, (true, x4)), (5, (true, x5)), (6, (true, x6)), (7, (true, x7))]) [0, 1, 2, 3, 4, 5, 6, 7] rfl ?_
        exact w_L_isAnswered_55 F hno hnm x0 x1 x2 x3 x4 x5 x6 x7 x4 M h
    · skip
      refine j_aload_n F 0 rfl rfl dL_isAnswered_24 ?_
      refine j_aload_n F 1 rfl rfl dL_isAnswered_25 ?_
      refine j_iload_n F 2 rfl rfl dL_isAnswered_26 ?_
      refine j_iload F 5 rfl dL_isAnswered_27 ?_
      refine j_iload F 6 rfl dL_isAnswered_29 ?_
      refine j_iload F 7 rfl dL_isAnswered_31 ?_
      refine j_callS (d' := 10) (argl := [(false, x0), (false, x1), (true, x2), (true, x5), (true, x6), (true, x7)]) (rk9 := 1) (st := []) F hno M_L_areTokens q1679 q1678 ⟨by decide, by decide⟩ (Nat.le_of_ble_eq_true rfl) (by decide) dL_isAnswered_33 rfl h (fun z hz => c_L_areTokens l F.ht G x0 x1 x2 x5 x6 x7 M z hz) (fun v4 M5 h kl6 => ?_)
      refine j_st (st' := [(true, v4)]) rfl ?_
      obtain ⟨g7, h⟩ := gua h
      exact j_zret F (nz_b g7) h dL_isAnswered_36
  · skip
    refine j_aload_n F 0 rfl rfl dL_isAnswered_4 ?_
    refine j_aload_n F 1 rfl rfl dL_isAnswered_5 ?_
    refine j_iload_n F 2 rfl rfl dL_isAnswered_6 ?_
    refine j_iload F 4 rfl dL_isAnswered_7 ?_
    refine j_iload F 5 rfl dL_isAnswered_9 ?_
    refine j_iload F 6 rfl dL_isAnswered_11 ?_
    refine j_iload F 7 rfl dL_isAnswered_13 ?_
    refine j_callS (d' := 10) (argl := [(false, x0), (false, x1), (true, x2), (true, x4), (true, x5), (true, x6), (true, x7)]) (rk9 := 1) (st := []) F hno M_L_isCompleted q1646 q1645 ⟨by decide, by decide⟩ (Nat.le_of_ble_eq_true rfl) (by decide) dL_isAnswered_15 rfl h (fun z hz => c_L_isCompleted l F.ht G x0 x1 x2 x4 x5 x6 x7 M z hz) (fun v8 M9 h kl10 => ?_)
    refine j_st (st' := [(true, v8)]) rfl ?_
    obtain ⟨g11, h⟩ := gua h
    exact j_zret F (nz_b g11) h dL_isAnswered_18
theorem c_L_isAnswered (l : Launch) (hl : l.stackTraces = false) (G : Gt) (x0 x1 x2 x3 x4 x5 x6 x7 : Int) (M : Mo) (z : RS) (h : L_isAnswered x0 x1 x2 x3 x4 x5 x6 x7 M = some z) : CT l G yL_isAnswered (cn yL_isAnswered cL_isAnswered 12 (some FieldType.boolean)) 11 [(false, x0), (false, x1), (true, x2), (true, x3), (true, x4), (true, x5), (true, x6), (true, x7)] M 1 z :=
  ctOf hl (by decide) (Nat.le_of_ble_eq_true rfl) (fun p e R s m args below meth c ρ F hno hnm => w_L_isAnswered_0 F hno hnm x0 x1 x2 x3 x4 x5 x6 x7 M h)
theorem dL_isServed_0 : decode cL_isServed 0 = .ok (.aload_n 1, 1) := by decide +kernel
theorem dL_isServed_1 : decode cL_isServed 1 = .ok (.iload_n 2, 1) := by decide +kernel
theorem dL_isServed_2 : decode cL_isServed 2 = .ok (.iconst 2, 1) := by decide +kernel
set_option maxRecDepth 100000 in
theorem q608 : Cond.code yL_part cL_part 4 (some FieldType.int) ∈ GT := gt 608 (rfl) (by decide +kernel)
theorem M_L_part : MY yL_part cL_part 4 (some FieldType.int) 3 := ⟨q608, q52, by decide +kernel, by decide +kernel⟩
set_option maxRecDepth 100000 in
theorem q607 : Cond.static yL_part ∈ GT := gt 607 (by decide +kernel) (by decide +kernel)
set_option maxRecDepth 100000 in
theorem q606 : Cond.methodLink RL 178 yL_part ∈ GT := gt 606 (by decide +kernel) (by decide +kernel)
theorem dL_isServed_3 : decode cL_isServed 3 = .ok (.invokestatic 178, 3) := by decide +kernel
theorem dL_isServed_6 : decode cL_isServed 6 = .ok (.istore 6, 2) := by decide +kernel
theorem dL_isServed_8 : decode cL_isServed 8 = .ok (.aload 5, 2) := by decide +kernel
theorem dL_isServed_10 : decode cL_isServed 10 = .ok (.iconst 2, 1) := by decide +kernel
theorem dL_isServed_11 : decode cL_isServed 11 = .ok (.iload 6, 2) := by decide +kernel
theorem dL_isServed_13 : decode cL_isServed 13 = .ok (.iadd, 1) := by decide +kernel
theorem dL_isServed_14 : decode cL_isServed 14 = .ok (.iaload, 1) := by decide +kernel
theorem dL_isServed_15 : decode cL_isServed 15 = .ok (.istore 7, 2) := by decide +kernel
theorem dL_isServed_17 : decode cL_isServed 17 = .ok (.aload_n 1, 1) := by decide +kernel
theorem dL_isServed_18 : decode cL_isServed 18 = .ok (.iload_n 2, 1) := by decide +kernel
theorem dL_isServed_19 : decode cL_isServed 19 = .ok (.iconst 1, 1) := by decide +kernel
theorem dL_isServed_20 : decode cL_isServed 20 = .ok (.iadd, 1) := by decide +kernel
theorem dL_isServed_21 : decode cL_isServed 21 = .ok (.iconst 5, 1) := by decide +kernel
theorem dL_isServed_22 : decode cL_isServed 22 = .ok (.invokestatic 178, 3) := by decide +kernel
theorem dL_isServed_25 : decode cL_isServed 25 = .ok (.istore 8, 2) := by decide +kernel
theorem dL_isServed_27 : decode cL_isServed 27 = .ok (.iload 8, 2) := by decide +kernel
theorem dL_isServed_29 : decode cL_isServed 29 = .ok (.iconst 4, 1) := by decide +kernel
theorem dL_isServed_30 : decode cL_isServed 30 = .ok (.if_icmp .ne 7, 3) := by decide +kernel
theorem dL_isServed_37 : decode cL_isServed 37 = .ok (.iload 8, 2) := by decide +kernel
theorem dL_isServed_33 : decode cL_isServed 33 = .ok (.iconst 5, 1) := by decide +kernel
theorem dL_isServed_34 : decode cL_isServed 34 = .ok (.goto 5, 3) := by decide +kernel
theorem dL_isServed_39 : decode cL_isServed 39 = .ok (.istore 8, 2) := by decide +kernel
theorem dL_isServed_41 : decode cL_isServed 41 = .ok (.aload_n 1, 1) := by decide +kernel
theorem dL_isServed_42 : decode cL_isServed 42 = .ok (.iload_n 2, 1) := by decide +kernel
theorem dL_isServed_43 : decode cL_isServed 43 = .ok (.iconst 2, 1) := by decide +kernel
theorem dL_isServed_44 : decode cL_isServed 44 = .ok (.iadd, 1) := by decide +kernel
theorem dL_isServed_45 : decode cL_isServed 45 = .ok (.iconst 5, 1) := by decide +kernel
theorem dL_isServed_46 : decode cL_isServed 46 = .ok (.invokestatic 178, 3) := by decide +kernel
theorem dL_isServed_49 : decode cL_isServed 49 = .ok (.istore 9, 2) := by decide +kernel
theorem dL_isServed_51 : decode cL_isServed 51 = .ok (.aload_n 1, 1) := by decide +kernel
theorem dL_isServed_52 : decode cL_isServed 52 = .ok (.iload_n 2, 1) := by decide +kernel
theorem dL_isServed_53 : decode cL_isServed 53 = .ok (.iconst 3, 1) := by decide +kernel
theorem dL_isServed_54 : decode cL_isServed 54 = .ok (.iadd, 1) := by decide +kernel
theorem dL_isServed_55 : decode cL_isServed 55 = .ok (.bipush 12, 2) := by decide +kernel
theorem dL_isServed_57 : decode cL_isServed 57 = .ok (.invokestatic 178, 3) := by decide +kernel
theorem dL_isServed_60 : decode cL_isServed 60 = .ok (.istore 10, 2) := by decide +kernel
theorem dL_isServed_62 : decode cL_isServed 62 = .ok (.iload 7, 2) := by decide +kernel
theorem dL_isServed_64 : decode cL_isServed 64 = .ok (.ifCond .lt 27, 3) := by decide +kernel
theorem dL_isServed_67 : decode cL_isServed 67 = .ok (.aload 5, 2) := by decide +kernel
theorem dL_isServed_69 : decode cL_isServed 69 = .ok (.iconst 4, 1) := by decide +kernel
theorem dL_isServed_70 : decode cL_isServed 70 = .ok (.iload 7, 2) := by decide +kernel
theorem dL_isServed_72 : decode cL_isServed 72 = .ok (.iadd, 1) := by decide +kernel
theorem dL_isServed_73 : decode cL_isServed 73 = .ok (.iaload, 1) := by decide +kernel
theorem dL_isServed_74 : decode cL_isServed 74 = .ok (.bipush 30, 2) := by decide +kernel
theorem dL_isServed_76 : decode cL_isServed 76 = .ok (.if_icmp .gt 15, 3) := by decide +kernel
theorem dL_isServed_79 : decode cL_isServed 79 = .ok (.aload_n 0, 1) := by decide +kernel
theorem dL_isServed_80 : decode cL_isServed 80 = .ok (.aload_n 3, 1) := by decide +kernel
theorem dL_isServed_81 : decode cL_isServed 81 = .ok (.aload 4, 2) := by decide +kernel
theorem dL_isServed_83 : decode cL_isServed 83 = .ok (.aload 5, 2) := by decide +kernel
set_option maxRecDepth 100000 in
theorem q1606 : Cond.code yL_areDelivered cL_areDelivered 10 (some FieldType.boolean) ∈ GT := gt 1606 (rfl) (by decide +kernel)
theorem M_L_areDelivered : MY yL_areDelivered cL_areDelivered 10 (some FieldType.boolean) 4 := ⟨q1606, q52, by decide +kernel, by decide +kernel⟩
set_option maxRecDepth 100000 in
theorem q1605 : Cond.static yL_areDelivered ∈ GT := gt 1605 (by decide +kernel) (by decide +kernel)
set_option maxRecDepth 100000 in
theorem q1604 : Cond.methodLink RL 181 yL_areDelivered ∈ GT := gt 1604 (by decide +kernel) (by decide +kernel)
theorem dL_isServed_85 : decode cL_isServed 85 = .ok (.invokestatic 181, 3) := by decide +kernel
theorem dL_isServed_88 : decode cL_isServed 88 = .ok (.ifCond .ne 26, 3) := by decide +kernel
theorem dL_isServed_114 : decode cL_isServed 114 = .ok (.iload 6, 2) := by decide +kernel
theorem dL_isServed_116 : decode cL_isServed 116 = .ok (.ifCond .ne 7, 3) := by decide +kernel
theorem dL_isServed_123 : decode cL_isServed 123 = .ok (.aload 4, 2) := by decide +kernel
theorem dL_isServed_119 : decode cL_isServed 119 = .ok (.aload_n 3, 1) := by decide +kernel
theorem dL_isServed_120 : decode cL_isServed 120 = .ok (.goto 5, 3) := by decide +kernel
theorem dL_isServed_91 : decode cL_isServed 91 = .ok (.iload 7, 2) := by decide +kernel
theorem dL_isServed_93 : decode cL_isServed 93 = .ok (.ifCond .lt 15, 3) := by decide +kernel
theorem dL_isServed_108 : decode cL_isServed 108 = .ok (.iconst 1, 1) := by decide +kernel
theorem dL_isServed_109 : decode cL_isServed 109 = .ok (.goto 4, 3) := by decide +kernel
theorem dL_isServed_113 : decode cL_isServed 113 = .ok (.ireturn, 1) := by decide +kernel
theorem dL_isServed_96 : decode cL_isServed 96 = .ok (.aload 5, 2) := by decide +kernel
theorem dL_isServed_98 : decode cL_isServed 98 = .ok (.iconst 4, 1) := by decide +kernel
theorem dL_isServed_99 : decode cL_isServed 99 = .ok (.iload 7, 2) := by decide +kernel
theorem dL_isServed_101 : decode cL_isServed 101 = .ok (.iadd, 1) := by decide +kernel
theorem dL_isServed_102 : decode cL_isServed 102 = .ok (.iaload, 1) := by decide +kernel
theorem dL_isServed_103 : decode cL_isServed 103 = .ok (.bipush 30, 2) := by decide +kernel
theorem dL_isServed_105 : decode cL_isServed 105 = .ok (.if_icmp .le 7, 3) := by decide +kernel
theorem dL_isServed_112 : decode cL_isServed 112 = .ok (.iconst 0, 1) := by decide +kernel
theorem dL_isServed_125 : decode cL_isServed 125 = .ok (.astore 11, 2) := by decide +kernel
theorem dL_isServed_127 : decode cL_isServed 127 = .ok (.aload 5, 2) := by decide +kernel
theorem dL_isServed_129 : decode cL_isServed 129 = .ok (.iconst 4, 1) := by decide +kernel
theorem dL_isServed_130 : decode cL_isServed 130 = .ok (.iload 7, 2) := by decide +kernel
theorem dL_isServed_132 : decode cL_isServed 132 = .ok (.iadd, 1) := by decide +kernel
theorem dL_isServed_133 : decode cL_isServed 133 = .ok (.iaload, 1) := by decide +kernel
theorem dL_isServed_134 : decode cL_isServed 134 = .ok (.istore 12, 2) := by decide +kernel
theorem dL_isServed_136 : decode cL_isServed 136 = .ok (.aload 5, 2) := by decide +kernel
theorem dL_isServed_138 : decode cL_isServed 138 = .ok (.iconst 4, 1) := by decide +kernel
theorem dL_isServed_139 : decode cL_isServed 139 = .ok (.iload 7, 2) := by decide +kernel
theorem dL_isServed_141 : decode cL_isServed 141 = .ok (.iadd, 1) := by decide +kernel
theorem dL_isServed_142 : decode cL_isServed 142 = .ok (.dup2, 1) := by decide +kernel
theorem dL_isServed_143 : decode cL_isServed 143 = .ok (.iaload, 1) := by decide +kernel
theorem dL_isServed_144 : decode cL_isServed 144 = .ok (.iconst 1, 1) := by decide +kernel
theorem dL_isServed_145 : decode cL_isServed 145 = .ok (.iadd, 1) := by decide +kernel
theorem dL_isServed_146 : decode cL_isServed 146 = .ok (.iastore, 1) := by decide +kernel
theorem dL_isServed_147 : decode cL_isServed 147 = .ok (.aload_n 0, 1) := by decide +kernel
theorem dL_isServed_148 : decode cL_isServed 148 = .ok (.bipush 6, 2) := by decide +kernel
theorem dL_isServed_150 : decode cL_isServed 150 = .ok (.iload 7, 2) := by decide +kernel
theorem dL_isServed_152 : decode cL_isServed 152 = .ok (.iload 8, 2) := by decide +kernel
theorem dL_isServed_154 : decode cL_isServed 154 = .ok (.iload 6, 2) := by decide +kernel
theorem dL_isServed_156 : decode cL_isServed 156 = .ok (.iload 9, 2) := by decide +kernel
theorem dL_isServed_158 : decode cL_isServed 158 = .ok (.iload 10, 2) := by decide +kernel
theorem dL_isServed_160 : decode cL_isServed 160 = .ok (.bipush 97, 2) := by decide +kernel
theorem dL_isServed_162 : decode cL_isServed 162 = .ok (.iconst 0, 1) := by decide +kernel
set_option maxRecDepth 100000 in
theorem q612 : Cond.codeWith yL_does cL_does 10 (some FieldType.int) [(0, 211, 212, 67), (0, 211, 218, 69), (0, 211, 224, 71)] ∈ GT := gt 612 (rfl) (by decide +kernel)
theorem M_L_does : MYW yL_does cL_does 10 (some FieldType.int) [(0, 211, 212, 67), (0, 211, 218, 69), (0, 211, 224, 71)] 9 := ⟨q612, q52, by decide +kernel, by decide +kernel⟩
set_option maxRecDepth 100000 in
theorem q611 : Cond.static yL_does ∈ GT := gt 611 (by decide +kernel) (by decide +kernel)
set_option maxRecDepth 100000 in
theorem q610 : Cond.methodLink RL 185 yL_does ∈ GT := gt 610 (by decide +kernel) (by decide +kernel)
theorem dL_isServed_163 : decode cL_isServed 163 = .ok (.invokestatic 185, 3) := by decide +kernel
theorem dL_isServed_166 : decode cL_isServed 166 = .ok (.iload 12, 2) := by decide +kernel
theorem dL_isServed_168 : decode cL_isServed 168 = .ok (.if_icmp .ne 25, 3) := by decide +kernel
theorem dL_isServed_171 : decode cL_isServed 171 = .ok (.aload_n 0, 1) := by decide +kernel
theorem dL_isServed_172 : decode cL_isServed 172 = .ok (.iload 7, 2) := by decide +kernel
theorem dL_isServed_174 : decode cL_isServed 174 = .ok (.iload 12, 2) := by decide +kernel
theorem dL_isServed_176 : decode cL_isServed 176 = .ok (.invokevirtual 87, 3) := by decide +kernel
theorem dL_isServed_179 : decode cL_isServed 179 = .ok (.ifCond .ne 14, 3) := by decide +kernel
theorem dL_isServed_182 : decode cL_isServed 182 = .ok (.aload_n 0, 1) := by decide +kernel
theorem dL_isServed_183 : decode cL_isServed 183 = .ok (.invokevirtual 128, 3) := by decide +kernel
theorem dL_isServed_186 : decode cL_isServed 186 = .ok (.ifCond .le 7, 3) := by decide +kernel
theorem dL_isServed_189 : decode cL_isServed 189 = .ok (.iconst 1, 1) := by decide +kernel
theorem dL_isServed_190 : decode cL_isServed 190 = .ok (.goto 4, 3) := by decide +kernel
theorem dL_isServed_193 : decode cL_isServed 193 = .ok (.iconst 0, 1) := by decide +kernel
theorem dL_isServed_194 : decode cL_isServed 194 = .ok (.istore 13, 2) := by decide +kernel
theorem dL_isServed_196 : decode cL_isServed 196 = .ok (.iconst 0, 1) := by decide +kernel
theorem dL_isServed_197 : decode cL_isServed 197 = .ok (.istore 14, 2) := by decide +kernel
theorem dL_isServed_199 : decode cL_isServed 199 = .ok (.iconst 0, 1) := by decide +kernel
theorem dL_isServed_200 : decode cL_isServed 200 = .ok (.istore 15, 2) := by decide +kernel
theorem dL_isServed_202 : decode cL_isServed 202 = .ok (.aload 11, 2) := by decide +kernel
theorem dL_isServed_204 : decode cL_isServed 204 = .ok (.iload 9, 2) := by decide +kernel
theorem dL_isServed_206 : decode cL_isServed 206 = .ok (.iload 10, 2) := by decide +kernel
set_option maxRecDepth 100000 in
theorem q1636 : Cond.code yL_place cL_place 6 (some FieldType.int) ∈ GT := gt 1636 (rfl) (by decide +kernel)
theorem M_L_place : MY yL_place cL_place 6 (some FieldType.int) 3 := ⟨q1636, q52, by decide +kernel, by decide +kernel⟩
set_option maxRecDepth 100000 in
theorem q1635 : Cond.static yL_place ∈ GT := gt 1635 (by decide +kernel) (by decide +kernel)
set_option maxRecDepth 100000 in
theorem q1634 : Cond.methodLink RL 189 yL_place ∈ GT := gt 1634 (by decide +kernel) (by decide +kernel)
theorem dL_isServed_208 : decode cL_isServed 208 = .ok (.invokestatic 189, 3) := by decide +kernel
theorem dL_isServed_211 : decode cL_isServed 211 = .ok (.istore 16, 2) := by decide +kernel
theorem dL_isServed_213 : decode cL_isServed 213 = .ok (.iconst 0, 1) := by decide +kernel
theorem dL_isServed_214 : decode cL_isServed 214 = .ok (.istore 17, 2) := by decide +kernel
theorem dL_isServed_216 : decode cL_isServed 216 = .ok (.iload 17, 2) := by decide +kernel
theorem dL_isServed_218 : decode cL_isServed 218 = .ok (.aload 5, 2) := by decide +kernel
theorem dL_isServed_220 : decode cL_isServed 220 = .ok (.bipush 8, 2) := by decide +kernel
theorem dL_isServed_222 : decode cL_isServed 222 = .ok (.iaload, 1) := by decide +kernel
theorem dL_isServed_223 : decode cL_isServed 223 = .ok (.if_icmp .ge 132, 3) := by decide +kernel
theorem dL_isServed_226 : decode cL_isServed 226 = .ok (.iload 13, 2) := by decide +kernel
theorem dL_isServed_228 : decode cL_isServed 228 = .ok (.ifCond .eq 127, 3) := by decide +kernel
theorem dL_isServed_231 : decode cL_isServed 231 = .ok (.aload 5, 2) := by decide +kernel
theorem dL_isServed_233 : decode cL_isServed 233 = .ok (.bipush 15, 2) := by decide +kernel
theorem dL_isServed_235 : decode cL_isServed 235 = .ok (.iload 17, 2) := by decide +kernel
theorem dL_isServed_237 : decode cL_isServed 237 = .ok (.iadd, 1) := by decide +kernel
theorem dL_isServed_238 : decode cL_isServed 238 = .ok (.iaload, 1) := by decide +kernel
theorem dL_isServed_239 : decode cL_isServed 239 = .ok (.iconst 1, 1) := by decide +kernel
theorem dL_isServed_240 : decode cL_isServed 240 = .ok (.if_icmp .ne 24, 3) := by decide +kernel
theorem dL_isServed_243 : decode cL_isServed 243 = .ok (.aload 5, 2) := by decide +kernel
theorem dL_isServed_245 : decode cL_isServed 245 = .ok (.bipush 12, 2) := by decide +kernel
theorem dL_isServed_247 : decode cL_isServed 247 = .ok (.iload 17, 2) := by decide +kernel
theorem dL_isServed_249 : decode cL_isServed 249 = .ok (.iadd, 1) := by decide +kernel
theorem dL_isServed_250 : decode cL_isServed 250 = .ok (.iaload, 1) := by decide +kernel
theorem dL_isServed_251 : decode cL_isServed 251 = .ok (.iload 8, 2) := by decide +kernel
theorem dL_isServed_253 : decode cL_isServed 253 = .ok (.ishr, 1) := by decide +kernel
theorem dL_isServed_254 : decode cL_isServed 254 = .ok (.iconst 1, 1) := by decide +kernel
theorem dL_isServed_255 : decode cL_isServed 255 = .ok (.iand, 1) := by decide +kernel
theorem dL_isServed_256 : decode cL_isServed 256 = .ok (.iconst 1, 1) := by decide +kernel
theorem dL_isServed_257 : decode cL_isServed 257 = .ok (.if_icmp .ne 7, 3) := by decide +kernel
theorem dL_isServed_260 : decode cL_isServed 260 = .ok (.iconst 1, 1) := by decide +kernel
theorem dL_isServed_261 : decode cL_isServed 261 = .ok (.goto 4, 3) := by decide +kernel
theorem dL_isServed_264 : decode cL_isServed 264 = .ok (.iconst 0, 1) := by decide +kernel
theorem dL_isServed_265 : decode cL_isServed 265 = .ok (.istore 18, 2) := by decide +kernel
theorem dL_isServed_267 : decode cL_isServed 267 = .ok (.aload_n 0, 1) := by decide +kernel
theorem dL_isServed_268 : decode cL_isServed 268 = .ok (.bipush 8, 2) := by decide +kernel
theorem dL_isServed_270 : decode cL_isServed 270 = .ok (.iload 7, 2) := by decide +kernel
theorem dL_isServed_272 : decode cL_isServed 272 = .ok (.iload 12, 2) := by decide +kernel
theorem dL_isServed_274 : decode cL_isServed 274 = .ok (.iload 17, 2) := by decide +kernel
theorem dL_isServed_276 : decode cL_isServed 276 = .ok (.invokestatic 116, 3) := by decide +kernel
theorem dL_isServed_279 : decode cL_isServed 279 = .ok (.ifCond .lt 7, 3) := by decide +kernel
theorem dL_isServed_286 : decode cL_isServed 286 = .ok (.iconst 0, 1) := by decide +kernel
theorem dL_isServed_282 : decode cL_isServed 282 = .ok (.iconst 1, 1) := by decide +kernel
theorem dL_isServed_283 : decode cL_isServed 283 = .ok (.goto 4, 3) := by decide +kernel
theorem dL_isServed_287 : decode cL_isServed 287 = .ok (.iload 18, 2) := by decide +kernel
theorem dL_isServed_289 : decode cL_isServed 289 = .ok (.if_icmp .ne 7, 3) := by decide +kernel
theorem dL_isServed_296 : decode cL_isServed 296 = .ok (.iconst 0, 1) := by decide +kernel
theorem dL_isServed_292 : decode cL_isServed 292 = .ok (.iconst 1, 1) := by decide +kernel
theorem dL_isServed_293 : decode cL_isServed 293 = .ok (.goto 4, 3) := by decide +kernel
theorem dL_isServed_297 : decode cL_isServed 297 = .ok (.istore 13, 2) := by decide +kernel
theorem dL_isServed_299 : decode cL_isServed 299 = .ok (.iload 18, 2) := by decide +kernel
theorem dL_isServed_301 : decode cL_isServed 301 = .ok (.ifCond .eq 48, 3) := by decide +kernel
theorem dL_isServed_304 : decode cL_isServed 304 = .ok (.iload 13, 2) := by decide +kernel
theorem dL_isServed_306 : decode cL_isServed 306 = .ok (.ifCond .eq 43, 3) := by decide +kernel
theorem dL_isServed_309 : decode cL_isServed 309 = .ok (.iinc 14 1, 3) := by decide +kernel
theorem dL_isServed_312 : decode cL_isServed 312 = .ok (.aload 5, 2) := by decide +kernel
theorem dL_isServed_314 : decode cL_isServed 314 = .ok (.bipush 9, 2) := by decide +kernel
theorem dL_isServed_316 : decode cL_isServed 316 = .ok (.iload 17, 2) := by decide +kernel
theorem dL_isServed_318 : decode cL_isServed 318 = .ok (.iadd, 1) := by decide +kernel
theorem dL_isServed_319 : decode cL_isServed 319 = .ok (.iaload, 1) := by decide +kernel
theorem dL_isServed_320 : decode cL_isServed 320 = .ok (.istore 15, 2) := by decide +kernel
theorem dL_isServed_322 : decode cL_isServed 322 = .ok (.iconst 0, 1) := by decide +kernel
theorem dL_isServed_323 : decode cL_isServed 323 = .ok (.istore 19, 2) := by decide +kernel
theorem dL_isServed_325 : decode cL_isServed 325 = .ok (.iload 19, 2) := by decide +kernel
theorem dL_isServed_327 : decode cL_isServed 327 = .ok (.ifCond .lt 22, 3) := by decide +kernel
theorem dL_isServed_330 : decode cL_isServed 330 = .ok (.aload_n 0, 1) := by decide +kernel
theorem dL_isServed_331 : decode cL_isServed 331 = .ok (.bipush 9, 2) := by decide +kernel
theorem dL_isServed_333 : decode cL_isServed 333 = .ok (.iload 17, 2) := by decide +kernel
theorem dL_isServed_335 : decode cL_isServed 335 = .ok (.iconst 0, 1) := by decide +kernel
theorem dL_isServed_336 : decode cL_isServed 336 = .ok (.iconst 0, 1) := by decide +kernel
theorem dL_isServed_337 : decode cL_isServed 337 = .ok (.iconst 0, 1) := by decide +kernel
theorem dL_isServed_338 : decode cL_isServed 338 = .ok (.iconst 0, 1) := by decide +kernel
theorem dL_isServed_339 : decode cL_isServed 339 = .ok (.iconst 0, 1) := by decide +kernel
theorem dL_isServed_340 : decode cL_isServed 340 = .ok (.iconst 0, 1) := by decide +kernel
theorem dL_isServed_341 : decode cL_isServed 341 = .ok (.invokestatic 185, 3) := by decide +kernel
theorem dL_isServed_344 : decode cL_isServed 344 = .ok (.istore 19, 2) := by decide +kernel
theorem dL_isServed_346 : decode cL_isServed 346 = .ok (.goto (-21), 3) := by decide +kernel
theorem dL_isServed_349 : decode cL_isServed 349 = .ok (.iinc 17 1, 3) := by decide +kernel
theorem dL_isServed_352 : decode cL_isServed 352 = .ok (.goto (-136), 3) := by decide +kernel
theorem dL_isServed_355 : decode cL_isServed 355 = .ok (.iload 13, 2) := by decide +kernel
theorem dL_isServed_357 : decode cL_isServed 357 = .ok (.ifCond .eq 26, 3) := by decide +kernel
theorem dL_isServed_360 : decode cL_isServed 360 = .ok (.iload 14, 2) := by decide +kernel
theorem dL_isServed_362 : decode cL_isServed 362 = .ok (.ifCond .ne 21, 3) := by decide +kernel
theorem dL_isServed_365 : decode cL_isServed 365 = .ok (.aload_n 0, 1) := by decide +kernel
theorem dL_isServed_366 : decode cL_isServed 366 = .ok (.iload 7, 2) := by decide +kernel
theorem dL_isServed_368 : decode cL_isServed 368 = .ok (.iload 12, 2) := by decide +kernel
theorem dL_isServed_370 : decode cL_isServed 370 = .ok (.invokevirtual 87, 3) := by decide +kernel
theorem dL_isServed_373 : decode cL_isServed 373 = .ok (.iconst 4, 1) := by decide +kernel
theorem dL_isServed_374 : decode cL_isServed 374 = .ok (.if_icmp .ne 7, 3) := by decide +kernel
theorem dL_isServed_381 : decode cL_isServed 381 = .ok (.iconst 0, 1) := by decide +kernel
theorem dL_isServed_382 : decode cL_isServed 382 = .ok (.ireturn, 1) := by decide +kernel
theorem dL_isServed_377 : decode cL_isServed 377 = .ok (.iconst 1, 1) := by decide +kernel
theorem dL_isServed_378 : decode cL_isServed 378 = .ok (.goto 4, 3) := by decide +kernel
theorem dL_isServed_383 : decode cL_isServed 383 = .ok (.iload 13, 2) := by decide +kernel
theorem dL_isServed_385 : decode cL_isServed 385 = .ok (.ifCond .eq 45, 3) := by decide +kernel
theorem dL_isServed_388 : decode cL_isServed 388 = .ok (.aload_n 0, 1) := by decide +kernel
theorem dL_isServed_389 : decode cL_isServed 389 = .ok (.iload 7, 2) := by decide +kernel
theorem dL_isServed_391 : decode cL_isServed 391 = .ok (.iload 12, 2) := by decide +kernel
theorem dL_isServed_393 : decode cL_isServed 393 = .ok (.invokevirtual 87, 3) := by decide +kernel
theorem dL_isServed_396 : decode cL_isServed 396 = .ok (.ifCond .ne 34, 3) := by decide +kernel
theorem dL_isServed_399 : decode cL_isServed 399 = .ok (.aload_n 0, 1) := by decide +kernel
theorem dL_isServed_400 : decode cL_isServed 400 = .ok (.aload_n 3, 1) := by decide +kernel
theorem dL_isServed_401 : decode cL_isServed 401 = .ok (.aload 4, 2) := by decide +kernel
theorem dL_isServed_403 : decode cL_isServed 403 = .ok (.aload 5, 2) := by decide +kernel
theorem dL_isServed_405 : decode cL_isServed 405 = .ok (.invokestatic 181, 3) := by decide +kernel
theorem dL_isServed_408 : decode cL_isServed 408 = .ok (.ifCond .eq 22, 3) := by decide +kernel
theorem dL_isServed_411 : decode cL_isServed 411 = .ok (.aload_n 0, 1) := by decide +kernel
theorem dL_isServed_412 : decode cL_isServed 412 = .ok (.iload 7, 2) := by decide +kernel
theorem dL_isServed_414 : decode cL_isServed 414 = .ok (.iload 12, 2) := by decide +kernel
theorem dL_isServed_416 : decode cL_isServed 416 = .ok (.invokevirtual 87, 3) := by decide +kernel
theorem dL_isServed_419 : decode cL_isServed 419 = .ok (.bipush 10, 2) := by decide +kernel
theorem dL_isServed_421 : decode cL_isServed 421 = .ok (.irem, 1) := by decide +kernel
theorem dL_isServed_422 : decode cL_isServed 422 = .ok (.iconst 1, 1) := by decide +kernel
theorem dL_isServed_423 : decode cL_isServed 423 = .ok (.if_icmp .ne 7, 3) := by decide +kernel
theorem dL_isServed_426 : decode cL_isServed 426 = .ok (.iconst 1, 1) := by decide +kernel
theorem dL_isServed_427 : decode cL_isServed 427 = .ok (.goto 4, 3) := by decide +kernel
theorem dL_isServed_430 : decode cL_isServed 430 = .ok (.iconst 0, 1) := by decide +kernel
theorem dL_isServed_431 : decode cL_isServed 431 = .ok (.istore 13, 2) := by decide +kernel
theorem dL_isServed_433 : decode cL_isServed 433 = .ok (.iload 13, 2) := by decide +kernel
theorem dL_isServed_435 : decode cL_isServed 435 = .ok (.ifCond .eq 34, 3) := by decide +kernel
theorem dL_isServed_469 : decode cL_isServed 469 = .ok (.iconst 0, 1) := by decide +kernel
theorem dL_isServed_470 : decode cL_isServed 470 = .ok (.ireturn, 1) := by decide +kernel
theorem dL_isServed_438 : decode cL_isServed 438 = .ok (.iload 14, 2) := by decide +kernel
theorem dL_isServed_440 : decode cL_isServed 440 = .ok (.iconst 1, 1) := by decide +kernel
theorem dL_isServed_441 : decode cL_isServed 441 = .ok (.if_icmp .gt 24, 3) := by decide +kernel
theorem dL_isServed_465 : decode cL_isServed 465 = .ok (.iconst 1, 1) := by decide +kernel
theorem dL_isServed_466 : decode cL_isServed 466 = .ok (.goto 4, 3) := by decide +kernel
theorem dL_isServed_444 : decode cL_isServed 444 = .ok (.aload_n 0, 1) := by decide +kernel
theorem dL_isServed_445 : decode cL_isServed 445 = .ok (.aload 11, 2) := by decide +kernel
theorem dL_isServed_447 : decode cL_isServed 447 = .ok (.iload 6, 2) := by decide +kernel
theorem dL_isServed_449 : decode cL_isServed 449 = .ok (.iload 8, 2) := by decide +kernel
theorem dL_isServed_451 : decode cL_isServed 451 = .ok (.iload 16, 2) := by decide +kernel
theorem dL_isServed_453 : decode cL_isServed 453 = .ok (.iload 15, 2) := by decide +kernel
theorem dL_isServed_455 : decode cL_isServed 455 = .ok (.iload 7, 2) := by decide +kernel
theorem dL_isServed_457 : decode cL_isServed 457 = .ok (.iload 12, 2) := by decide +kernel
set_option maxRecDepth 100000 in
theorem q1644 : Cond.code yL_isAnswered cL_isAnswered 12 (some FieldType.boolean) ∈ GT := gt 1644 (rfl) (by decide +kernel)
theorem M_L_isAnswered : MY yL_isAnswered cL_isAnswered 12 (some FieldType.boolean) 8 := ⟨q1644, q52, by decide +kernel, by decide +kernel⟩
set_option maxRecDepth 100000 in
theorem q1643 : Cond.static yL_isAnswered ∈ GT := gt 1643 (by decide +kernel) (by decide +kernel)
set_option maxRecDepth 100000 in
theorem q1642 : Cond.methodLink RL 192 yL_isAnswered ∈ GT := gt 1642 (by decide +kernel) (by decide +kernel)
theorem dL_isServed_459 : decode cL_isServed 459 = .ok (.invokestatic 192, 3) := by decide +kernel
theorem dL_isServed_462 : decode cL_isServed 462 = .ok (.ifCond .eq 7, 3) := by decide +kernel
set_option maxHeartbeats 4000000 in
set_option maxRecDepth 100000 in
theorem w_L_isServed_91 {p : Program} {l : Launch} {e : Env} {R : Room} {s : State} {m : MethodId} {args : Array Value} {below : List Frame} {meth : Method} {c : Code} {G : Gt} {ρ0 : Int → Nat} {M0 : Mo} {res : RS} (F : Fx p l R s m args meth c cL_isServed 20 RL G M0 14 (some FieldType.boolean)) (hno : ∀ x ∈ c.exceptionTable.toList, False) (hnm : meth.name = yL_isServed.name) (x5 x7 : Int) (M : Mo) (h : L_isServed_91 x5 x7 M = some res) : J p l e R s m args below meth c 20 G ρ0 M0 1 res M 91 [(5, (false, x5)), (7, (true, x7))] [] := by
  unfold L_isServed_91 at h
  refine j_iload F 1 rfl dL_isServed_91 ?_
  refine j_if_lt F 108 (by decide) dL_isServed_93 h (fun h => ?_) (fun h => ?_)
  · skip
    refine j_iconst F dL_isServed_108 ?_
    refine j_goto F 113 (by decide) dL_isServed_109 ?_
    exact j_zret F (by decide) h dL_isServed_113
  · skip
    refine j_aload F 0 rfl dL_isServed_96 ?_
    refine j_iconst F dL_isServed_98 ?_
    refine j_iload F 1 rfl dL_isServed_99 ?_
    refine j_iadd F dL_isServed_101 ?_
    obtain ⟨g1, h⟩ := gua h
    obtain ⟨g2, h⟩ := gua h
    refine j_iaload F g1 g2 dL_isServed_102 ?_
    refine j_bipush F (by decide) dL_isServed_103 ?_
    refine j_icmp_le F 112 (by decide) dL_isServed_105 h (fun h => ?_) (fun h => ?_)
    · skip
      refine j_iconst F dL_isServed_112 ?_
      exact j_zret F (by decide) h dL_isServed_113
    · skip
      refine j_iconst F dL_isServed_108 ?_
      refine j_goto F 113 (by decide) dL_isServed_109 ?_
      exact j_zret F (by decide) h dL_isServed_113
set_option maxHeartbeats 4000000 in
set_option maxRecDepth 100000 in
theorem w_L_isServed_349 {p : Program} {l : Launch} {e : Env} {R : Room} {s : State} {m : MethodId} {args : Array Value} {below : List Frame} {meth : Method} {c : Code} {G : Gt} {ρ0 : Int → Nat} {M0 : Mo} {res : RS} (F : Fx p l R s m args meth c cL_isServed 20 RL G M0 14 (some FieldType.boolean)) (hno : ∀ x ∈ c.exceptionTable.toList, False) (hnm : meth.name = yL_isServed.name) (k216 : Int → Int → Int → Int → Int → Int → Int → Int → Int → Int → Int → Int → Int → Int → Mo → Option RS) (hk216 : ∀ (x0 x3 x4 x5 x6 x7 x8 x11 x12 x13 x14 x15 x16 x17 : Int) (M : Mo), k216 x0 x3 x4 x5 x6 x7 x8 x11 x12 x13 x14 x15 x16 x17 M = some res → J p l e R s m args below meth c 20 G ρ0 M0 1 res M 216 [(0, (false, x0)), (3, (false, x3)), (4, (false, x4)), (5, (false, x5)), (6, (true, x6)), (7, (true, x7)), (8, (true, x8)), (11, (false, x11)), (12, (true, x12)), (13, (true, x13)), (14, (true, x14)), (15, (true, x15)), (16, (true, x16)), (17, (true, x17))] []) (x0 x3 x4 x5 x6 x7 x8 x11 x12 x13 x14 x15 x16 x17 : Int) (M : Mo) (h : L_isServed_349 k216 x0 x3 x4 x5 x6 x7 x8 x11 x12 x13 x14 x15 x16 x17 M = some res) : J p l e R s m args below meth c 20 G ρ0 M0 1 res M 349 [(0, (false, x0)), (3, (false, x3)), (4, (false, x4)), (5, (false, x5)), (6, (true, x6)), (7, (true, x7)), (8, (true, x8)), (11, (false, x11)), (12, (true, x12)), (13, (true, x13)), (14, (true, x14)), (15, (true, x15)), (16, (true, x16)), (17, (true, x17))] [] := by
  unfold L_isServed_349 at h
  refine j_iinc F 13 (lv' := [(17, (true, (x17 + 1))), (0, (false, x0)), (3, (false, x3)), (4, (false, x4)), (5, (false, x5)), (6, (true, x6)), (7, (true, x7)), (8, (true, x8)), (11, (false, x11)), (12, (true, x12)), (13, (true, x13)), (14, (true, x14)), (15, (true, x15)), (16, (true, x16))]) rfl (by decide) rfl dL_isServed_349 ?_
  refine j_goto F 216 (by decide) dL_isServed_352 ?_
  refine j_sub (lv' := [(0, (false, x0)), (3, (false, x3)), (4, (false, x4)), (5, (false, x5)), (6, (true, x6)), (7, (true, x7)), (8, (true, x8)), (11, (false, x11)), (12, (true, x12)), (13, (true, x13)), (14, (true, x14)), (15, (true, x15)), (16, (true, x16)), (17, (true, (x17 + 1)))]) [1, 2, 3, 4, 5, 6, 7, 8, 9, 10, 11, 12, 13, 0] rfl ?_
  exact hk216 x0 x3 x4 x5 x6 x7 x8 x11 x12 x13 x14 x15 x16 (x17 + 1) M h
set_option maxHeartbeats 4000000 in
set_option maxRecDepth 100000 in
theorem w_L_isServed_325 {p : Program} {l : Launch} {e : Env} {R : Room} {s : State} {m : MethodId} {args : Array Value} {below : List Frame} {meth : Method} {c : Code} {G : Gt} {ρ0 : Int → Nat} {M0 : Mo} {res : RS} (F : Fx p l R s m args meth c cL_isServed 20 RL G M0 14 (some FieldType.boolean)) (hno : ∀ x ∈ c.exceptionTable.toList, False) (hnm : meth.name = yL_isServed.name) (k216 : Int → Int → Int → Int → Int → Int → Int → Int → Int → Int → Int → Int → Int → Int → Mo → Option RS) (hk216 : ∀ (x0 x3 x4 x5 x6 x7 x8 x11 x12 x13 x14 x15 x16 x17 : Int) (M : Mo), k216 x0 x3 x4 x5 x6 x7 x8 x11 x12 x13 x14 x15 x16 x17 M = some res → J p l e R s m args below meth c 20 G ρ0 M0 1 res M 216 [(0, (false, x0)), (3, (false, x3)), (4, (false, x4)), (5, (false, x5)), (6, (true, x6)), (7, (true, x7)), (8, (true, x8)), (11, (false, x11)), (12, (true, x12)), (13, (true, x13)), (14, (true, x14)), (15, (true, x15)), (16, (true, x16)), (17, (true, x17))] []) (n : Nat) : ∀ (x0 x3 x4 x5 x6 x7 x8 x11 x12 x13 x14 x15 x16 x17 x19 : Int) (M : Mo), L_isServed_325 k216 n x0 x3 x4 x5 x6 x7 x8 x11 x12 x13 x14 x15 x16 x17 x19 M = some res → J p l e R s m args below meth c 20 G ρ0 M0 1 res M 325 [(0, (false, x0)), (3, (false, x3)), (4, (false, x4)), (5, (false, x5)), (6, (true, x6)), (7, (true, x7)), (8, (true, x8)), (11, (false, x11)), (12, (true, x12)), (13, (true, x13)), (14, (true, x14)), (15, (true, x15)), (16, (true, x16)), (17, (true, x17)), (19, (true, x19))] [] := by
  induction n with
  | zero => intro x0 x3 x4 x5 x6 x7 x8 x11 x12 x13 x14 x15 x16 x17 x19 M h; cases h
  | succ n ih =>
    intro x0 x3 x4 x5 x6 x7 x8 x11 x12 x13 x14 x15 x16 x17 x19 M h
    rw [L_isServed_325] at h
    refine j_iload F 14 rfl dL_isServed_325 ?_
    refine j_if_lt F 349 (by decide) dL_isServed_327 h (fun h => ?_) (fun h => ?_)
    · skip
      refine j_sub (lv' := [(0, (false, x0)), (3, (false, x3)), (4, (false, x4)), (5, (false, x5)), (6, (true, x6)), (7, (true, x7)), (8, (true, x8)), (11, (false, x11)), (12, (true, x12)), (13, (true, x13)), (14, (true, x14)), (15, (true, x15)), (16, (true, x16)), (17, (true, x17))]) [0, 1, 2, 3, 4, 5, 6, 7, 8, 9, 10, 11, 12, 13] rfl ?_
      exact w_L_isServed_349 F hno hnm k216 hk216 x0 x3 x4 x5 x6 x7 x8 x11 x12 x13 x14 x15 x16 x17 M h
    · skip
      refine j_aload_n F 0 rfl rfl dL_isServed_330 ?_
      refine j_bipush F (by decide) dL_isServed_331 ?_
      refine j_iload F 13 rfl dL_isServed_333 ?_
      refine j_iconst F dL_isServed_335 ?_
      refine j_iconst F dL_isServed_336 ?_
      refine j_iconst F dL_isServed_337 ?_
      refine j_iconst F dL_isServed_338 ?_
      refine j_iconst F dL_isServed_339 ?_
      refine j_iconst F dL_isServed_340 ?_
      refine j_callX (d' := 13) (argl := [(false, x0), (true, 9), (true, x17), (true, 0), (true, 0), (true, 0), (true, 0), (true, 0), (true, 0)]) (rk9 := 1) (st := []) F hno M_L_does q611 q610 ⟨by decide, by decide⟩ (Nat.le_of_ble_eq_true rfl) (by decide) dL_isServed_341 rfl h (fun z hz => c_L_does l F.ht G x0 9 x17 0 0 0 0 0 0 M z hz) (fun v1 M2 h kl3 => ?_)
      refine j_st (st' := [(true, v1)]) rfl ?_
      refine j_istore F (lv' := [(19, (true, v1)), (0, (false, x0)), (3, (false, x3)), (4, (false, x4)), (5, (false, x5)), (6, (true, x6)), (7, (true, x7)), (8, (true, x8)), (11, (false, x11)), (12, (true, x12)), (13, (true, x13)), (14, (true, x14)), (15, (true, x15)), (16, (true, x16)), (17, (true, x17))]) (by decide) rfl dL_isServed_344 ?_
      refine j_goto F 325 (by decide) dL_isServed_346 ?_
      refine j_sub (lv' := [(0, (false, x0)), (3, (false, x3)), (4, (false, x4)), (5, (false, x5)), (6, (true, x6)), (7, (true, x7)), (8, (true, x8)), (11, (false, x11)), (12, (true, x12)), (13, (true, x13)), (14, (true, x14)), (15, (true, x15)), (16, (true, x16)), (17, (true, x17)), (19, (true, v1))]) [1, 2, 3, 4, 5, 6, 7, 8, 9, 10, 11, 12, 13, 14, 0] rfl ?_
      exact ih x0 x3 x4 x5 x6 x7 x8 x11 x12 x13 x14 x15 x16 x17 v1 M2 h
set_option maxHeartbeats 4000000 in
set_option maxRecDepth 100000 in
theorem w_L_isServed_297 {p : Program} {l : Launch} {e : Env} {R : Room} {s : State} {m : MethodId} {args : Array Value} {below : List Frame} {meth : Method} {c : Code} {G : Gt} {ρ0 : Int → Nat} {M0 : Mo} {res : RS} (F : Fx p l R s m args meth c cL_isServed 20 RL G M0 14 (some FieldType.boolean)) (hno : ∀ x ∈ c.exceptionTable.toList, False) (hnm : meth.name = yL_isServed.name) (k216 : Int → Int → Int → Int → Int → Int → Int → Int → Int → Int → Int → Int → Int → Int → Mo → Option RS) (hk216 : ∀ (x0 x3 x4 x5 x6 x7 x8 x11 x12 x13 x14 x15 x16 x17 : Int) (M : Mo), k216 x0 x3 x4 x5 x6 x7 x8 x11 x12 x13 x14 x15 x16 x17 M = some res → J p l e R s m args below meth c 20 G ρ0 M0 1 res M 216 [(0, (false, x0)), (3, (false, x3)), (4, (false, x4)), (5, (false, x5)), (6, (true, x6)), (7, (true, x7)), (8, (true, x8)), (11, (false, x11)), (12, (true, x12)), (13, (true, x13)), (14, (true, x14)), (15, (true, x15)), (16, (true, x16)), (17, (true, x17))] []) (x0 x3 x4 x5 x6 x7 x8 x11 x12 x14 x15 x16 x17 x18 y0 : Int) (M : Mo) (h : L_isServed_297 k216 x0 x3 x4 x5 x6 x7 x8 x11 x12 x14 x15 x16 x17 x18 y0 M = some res) : J p l e R s m args below meth c 20 G ρ0 M0 1 res M 297 [(0, (false, x0)), (3, (false, x3)), (4, (false, x4)), (5, (false, x5)), (6, (true, x6)), (7, (true, x7)), (8, (true, x8)), (11, (false, x11)), (12, (true, x12)), (14, (true, x14)), (15, (true, x15)), (16, (true, x16)), (17, (true, x17)), (18, (true, x18))] [(true, y0)] := by
  unfold L_isServed_297 at h
  refine j_istore F (lv' := [(13, (true, y0)), (0, (false, x0)), (3, (false, x3)), (4, (false, x4)), (5, (false, x5)), (6, (true, x6)), (7, (true, x7)), (8, (true, x8)), (11, (false, x11)), (12, (true, x12)), (14, (true, x14)), (15, (true, x15)), (16, (true, x16)), (17, (true, x17)), (18, (true, x18))]) (by decide) rfl dL_isServed_297 ?_
  refine j_iload F 14 rfl dL_isServed_299 ?_
  refine j_if_eq F 349 (by decide) dL_isServed_301 h (fun h => ?_) (fun h => ?_)
  · skip
    refine j_sub (lv' := [(0, (false, x0)), (3, (false, x3)), (4, (false, x4)), (5, (false, x5)), (6, (true, x6)), (7, (true, x7)), (8, (true, x8)), (11, (false, x11)), (12, (true, x12)), (13, (true, y0)), (14, (true, x14)), (15, (true, x15)), (16, (true, x16)), (17, (true, x17))]) [1, 2, 3, 4, 5, 6, 7, 8, 9, 0, 10, 11, 12, 13] rfl ?_
    exact w_L_isServed_349 F hno hnm k216 hk216 x0 x3 x4 x5 x6 x7 x8 x11 x12 y0 x14 x15 x16 x17 M h
  · skip
    refine j_iload F 0 rfl dL_isServed_304 ?_
    refine j_if_eq F 349 (by decide) dL_isServed_306 h (fun h => ?_) (fun h => ?_)
    · skip
      refine j_sub (lv' := [(0, (false, x0)), (3, (false, x3)), (4, (false, x4)), (5, (false, x5)), (6, (true, x6)), (7, (true, x7)), (8, (true, x8)), (11, (false, x11)), (12, (true, x12)), (13, (true, y0)), (14, (true, x14)), (15, (true, x15)), (16, (true, x16)), (17, (true, x17))]) [1, 2, 3, 4, 5, 6, 7, 8, 9, 0, 10, 11, 12, 13] rfl ?_
      exact w_L_isServed_349 F hno hnm k216 hk216 x0 x3 x4 x5 x6 x7 x8 x11 x12 y0 x14 x15 x16 x17 M h
    · skip
      refine j_iinc F 10 (lv' := [(14, (true, (x14 + 1))), (13, (true, y0)), (0, (false, x0)), (3, (false, x3)), (4, (false, x4)), (5, (false, x5)), (6, (true, x6)), (7, (true, x7)), (8, (true, x8)), (11, (false, x11)), (12, (true, x12)), (15, (true, x15)), (16, (true, x16)), (17, (true, x17)), (18, (true, x18))]) rfl (by decide) rfl dL_isServed_309 ?_
      refine j_aload F 5 rfl dL_isServed_312 ?_
      refine j_bipush F (by decide) dL_isServed_314 ?_
      refine j_iload F 13 rfl dL_isServed_316 ?_
      refine j_iadd F dL_isServed_318 ?_
      obtain ⟨g1, h⟩ := gua h
      obtain ⟨g2, h⟩ := gua h
      refine j_iaload F g1 g2 dL_isServed_319 ?_
      refine j_istore F (lv' := [(15, (true, (el M 0 x5 (wr (9 + x17))))), (14, (true, (x14 + 1))), (13, (true, y0)), (0, (false, x0)), (3, (false, x3)), (4, (false, x4)), (5, (false, x5)), (6, (true, x6)), (7, (true, x7)), (8, (true, x8)), (11, (false, x11)), (12, (true, x12)), (16, (true, x16)), (17, (true, x17)), (18, (true, x18))]) (by decide) rfl dL_isServed_320 ?_
      refine j_iconst F dL_isServed_322 ?_
      refine j_istore F (lv' := [(19, (true, 0)), (15, (true, (el M 0 x5 (wr (9 + x17))))), (14, (true, (x14 + 1))), (13, (true, y0)), (0, (false, x0)), (3, (false, x3)), (4, (false, x4)), (5, (false, x5)), (6, (true, x6)), (7, (true, x7)), (8, (true, x8)), (11, (false, x11)), (12, (true, x12)), (16, (true, x16)), (17, (true, x17)), (18, (true, x18))]) (by decide) rfl dL_isServed_323 ?_
      refine j_sub (lv' := [(0, (false, x0)), (3, (false, x3)), (4, (false, x4)), (5, (false, x5)), (6, (true, x6)), (7, (true, x7)), (8, (true, x8)), (11, (false, x11)), (12, (true, x12)), (13, (true, y0)), (14, (true, (x14 + 1))), (15, (true, (el M 0 x5 (wr (9 + x17))))), (16, (true, x16)), (17, (true, x17)), (19, (true, 0))]) [4, 5, 6, 7, 8, 9, 10, 11, 12, 3, 2, 1, 13, 14, 0] rfl ?_
      exact w_L_isServed_325 F hno hnm k216 hk216 FU x0 x3 x4 x5 x6 x7 x8 x11 x12 y0 (x14 + 1) (el M 0 x5 (wr (9 + x17))) x16 x17 0 M h
set_option maxHeartbeats 4000000 in
set_option maxRecDepth 100000 in
theorem w_L_isServed_287 {p : Program} {l : Launch} {e : Env} {R : Room} {s : State} {m : MethodId} {args : Array Value} {below : List Frame} {meth : Method} {c : Code} {G : Gt} {ρ0 : Int → Nat} {M0 : Mo} {res : RS} (F : Fx p l R s m args meth c cL_isServed 20 RL G M0 14 (some FieldType.boolean)) (hno : ∀ x ∈ c.exceptionTable.toList, False) (hnm : meth.name = yL_isServed.name) (k216 : Int → Int → Int → Int → Int → Int → Int → Int → Int → Int → Int → Int → Int → Int → Mo → Option RS) (hk216 : ∀ (x0 x3 x4 x5 x6 x7 x8 x11 x12 x13 x14 x15 x16 x17 : Int) (M : Mo), k216 x0 x3 x4 x5 x6 x7 x8 x11 x12 x13 x14 x15 x16 x17 M = some res → J p l e R s m args below meth c 20 G ρ0 M0 1 res M 216 [(0, (false, x0)), (3, (false, x3)), (4, (false, x4)), (5, (false, x5)), (6, (true, x6)), (7, (true, x7)), (8, (true, x8)), (11, (false, x11)), (12, (true, x12)), (13, (true, x13)), (14, (true, x14)), (15, (true, x15)), (16, (true, x16)), (17, (true, x17))] []) (x0 x3 x4 x5 x6 x7 x8 x11 x12 x14 x15 x16 x17 x18 y0 : Int) (M : Mo) (h : L_isServed_287 k216 x0 x3 x4 x5 x6 x7 x8 x11 x12 x14 x15 x16 x17 x18 y0 M = some res) : J p l e R s m args below meth c 20 G ρ0 M0 1 res M 287 [(0, (false, x0)), (3, (false, x3)), (4, (false, x4)), (5, (false, x5)), (6, (true, x6)), (7, (true, x7)), (8, (true, x8)), (11, (false, x11)), (12, (true, x12)), (14, (true, x14)), (15, (true, x15)), (16, (true, x16)), (17, (true, x17)), (18, (true, x18))] [(true, y0)] := by
  unfold L_isServed_287 at h
  refine j_iload F 13 rfl dL_isServed_287 ?_
  refine j_icmp_ne F 296 (by decide) dL_isServed_289 h (fun h => ?_) (fun h => ?_)
  · skip
    refine j_iconst F dL_isServed_296 ?_
    refine j_sub (lv' := [(0, (false, x0)), (3, (false, x3)), (4, (false, x4)), (5, (false, x5)), (6, (true, x6)), (7, (true, x7)), (8, (true, x8)), (11, (false, x11)), (12, (true, x12)), (14, (true, x14)), (15, (true, x15)), (16, (true, x16)), (17, (true, x17)), (18, (true, x18))]) [0, 1, 2, 3, 4, 5, 6, 7, 8, 9, 10, 11, 12, 13] rfl ?_
    exact w_L_isServed_297 F hno hnm k216 hk216 x0 x3 x4 x5 x6 x7 x8 x11 x12 x14 x15 x16 x17 x18 0 M h
  · skip
    refine j_iconst F dL_isServed_292 ?_
    refine j_goto F 297 (by decide) dL_isServed_293 ?_
    refine j_sub (lv' := [(0, (false, x0)), (3, (false, x3)), (4, (false, x4)), (5, (false, x5)), (6, (true, x6)), (7, (true, x7)), (8, (true, x8)), (11, (false, x11)), (12, (true, x12)), (14, (true, x14)), (15, (true, x15)), (16, (true, x16)), (17, (true, x17)), (18, (true, x18))]) [0, 1, 2, 3, 4, 5, 6, 7, 8, 9, 10, 11, 12, 13] rfl ?_
    exact w_L_isServed_297 F hno hnm k216 hk216 x0 x3 x4 x5 x6 x7 x8 x11 x12 x14 x15 x16 x17 x18 1 M h
set_option maxHeartbeats 4000000 in
set_option maxRecDepth 100000 in
theorem w_L_isServed_265 {p : Program} {l : Launch} {e : Env} {R : Room} {s : State} {m : MethodId} {args : Array Value} {below : List Frame} {meth : Method} {c : Code} {G : Gt} {ρ0 : Int → Nat} {M0 : Mo} {res : RS} (F : Fx p l R s m args meth c cL_isServed 20 RL G M0 14 (some FieldType.boolean)) (hno : ∀ x ∈ c.exceptionTable.toList, False) (hnm : meth.name = yL_isServed.name) (k216 : Int → Int → Int → Int → Int → Int → Int → Int → Int → Int → Int → Int → Int → Int → Mo → Option RS) (hk216 : ∀ (x0 x3 x4 x5 x6 x7 x8 x11 x12 x13 x14 x15 x16 x17 : Int) (M : Mo), k216 x0 x3 x4 x5 x6 x7 x8 x11 x12 x13 x14 x15 x16 x17 M = some res → J p l e R s m args below meth c 20 G ρ0 M0 1 res M 216 [(0, (false, x0)), (3, (false, x3)), (4, (false, x4)), (5, (false, x5)), (6, (true, x6)), (7, (true, x7)), (8, (true, x8)), (11, (false, x11)), (12, (true, x12)), (13, (true, x13)), (14, (true, x14)), (15, (true, x15)), (16, (true, x16)), (17, (true, x17))] []) (x0 x3 x4 x5 x6 x7 x8 x11 x12 x14 x15 x16 x17 y0 : Int) (M : Mo) (h : L_isServed_265 k216 x0 x3 x4 x5 x6 x7 x8 x11 x12 x14 x15 x16 x17 y0 M = some res) : J p l e R s m args below meth c 20 G ρ0 M0 1 res M 265 [(0, (false, x0)), (3, (false, x3)), (4, (false, x4)), (5, (false, x5)), (6, (true, x6)), (7, (true, x7)), (8, (true, x8)), (11, (false, x11)), (12, (true, x12)), (14, (true, x14)), (15, (true, x15)), (16, (true, x16)), (17, (true, x17))] [(true, y0)] := by
  unfold L_isServed_265 at h
  refine j_istore F (lv' := [(18, (true, y0)), (0, (false, x0)), (3, (false, x3)), (4, (false, x4)), (5, (false, x5)), (6, (true, x6)), (7, (true, x7)), (8, (true, x8)), (11, (false, x11)), (12, (true, x12)), (14, (true, x14)), (15, (true, x15)), (16, (true, x16)), (17, (true, x17))]) (by decide) rfl dL_isServed_265 ?_
  refine j_aload_n F 1 rfl rfl dL_isServed_267 ?_
  refine j_bipush F (by decide) dL_isServed_268 ?_
  refine j_iload F 6 rfl dL_isServed_270 ?_
  refine j_iload F 9 rfl dL_isServed_272 ?_
  refine j_iload F 13 rfl dL_isServed_274 ?_
  refine j_callX (d' := 9) (argl := [(false, x0), (true, 8), (true, x7), (true, x12), (true, x17)]) (rk9 := 1) (st := []) F hno M_L_asks q1512 q1511 ⟨by decide, by decide⟩ (Nat.le_of_ble_eq_true rfl) (by decide) dL_isServed_276 rfl h (fun z hz => c_L_asks l F.ht G x0 8 x7 x12 x17 M z hz) (fun v1 M2 h kl3 => ?_)
  refine j_st (st' := [(true, v1)]) rfl ?_
  refine j_if_lt F 286 (by decide) dL_isServed_279 h (fun h => ?_) (fun h => ?_)
  · skip
    refine j_iconst F dL_isServed_286 ?_
    refine j_sub (lv' := [(0, (false, x0)), (3, (false, x3)), (4, (false, x4)), (5, (false, x5)), (6, (true, x6)), (7, (true, x7)), (8, (true, x8)), (11, (false, x11)), (12, (true, x12)), (14, (true, x14)), (15, (true, x15)), (16, (true, x16)), (17, (true, x17)), (18, (true, y0))]) [1, 2, 3, 4, 5, 6, 7, 8, 9, 10, 11, 12, 13, 0] rfl ?_
    exact w_L_isServed_287 F hno hnm k216 hk216 x0 x3 x4 x5 x6 x7 x8 x11 x12 x14 x15 x16 x17 y0 0 M2 h
  · skip
    refine j_iconst F dL_isServed_282 ?_
    refine j_goto F 287 (by decide) dL_isServed_283 ?_
    refine j_sub (lv' := [(0, (false, x0)), (3, (false, x3)), (4, (false, x4)), (5, (false, x5)), (6, (true, x6)), (7, (true, x7)), (8, (true, x8)), (11, (false, x11)), (12, (true, x12)), (14, (true, x14)), (15, (true, x15)), (16, (true, x16)), (17, (true, x17)), (18, (true, y0))]) [1, 2, 3, 4, 5, 6, 7, 8, 9, 10, 11, 12, 13, 0] rfl ?_
    exact w_L_isServed_287 F hno hnm k216 hk216 x0 x3 x4 x5 x6 x7 x8 x11 x12 x14 x15 x16 x17 y0 1 M2 h
set_option maxHeartbeats 4000000 in
set_option maxRecDepth 100000 in
theorem w_L_isServed_264 {p : Program} {l : Launch} {e : Env} {R : Room} {s : State} {m : MethodId} {args : Array Value} {below : List Frame} {meth : Method} {c : Code} {G : Gt} {ρ0 : Int → Nat} {M0 : Mo} {res : RS} (F : Fx p l R s m args meth c cL_isServed 20 RL G M0 14 (some FieldType.boolean)) (hno : ∀ x ∈ c.exceptionTable.toList, False) (hnm : meth.name = yL_isServed.name) (k216 : Int → Int → Int → Int → Int → Int → Int → Int → Int → Int → Int → Int → Int → Int → Mo → Option RS) (hk216 : ∀ (x0 x3 x4 x5 x6 x7 x8 x11 x12 x13 x14 x15 x16 x17 : Int) (M : Mo), k216 x0 x3 x4 x5 x6 x7 x8 x11 x12 x13 x14 x15 x16 x17 M = some res → J p l e R s m args below meth c 20 G ρ0 M0 1 res M 216 [(0, (false, x0)), (3, (false, x3)), (4, (false, x4)), (5, (false, x5)), (6, (true, x6)), (7, (true, x7)), (8, (true, x8)), (11, (false, x11)), (12, (true, x12)), (13, (true, x13)), (14, (true, x14)), (15, (true, x15)), (16, (true, x16)), (17, (true, x17))] []) (x0 x3 x4 x5 x6 x7 x8 x11 x12 x14 x15 x16 x17 : Int) (M : Mo) (h : L_isServed_264 k216 x0 x3 x4 x5 x6 x7 x8 x11 x12 x14 x15 x16 x17 M = some res) : J p l e R s m args below meth c 20 G ρ0 M0 1 res M 264 [(0, (false, x0)), (3, (false, x3)), (4, (false, x4)), (5, (false, x5)), (6, (true, x6)), (7, (true, x7)), (8, (true, x8)), (11, (false, x11)), (12, (true, x12)), (14, (true, x14)), (15, (true, x15)), (16, (true, x16)), (17, (true, x17))] [] := by
  unfold L_isServed_264 at h
  refine j_iconst F dL_isServed_264 ?_
  refine j_sub (lv' := [(0, (false, x0)), (3, (false, x3)), (4, (false, x4)), (5, (false, x5)), (6, (true, x6)), (7, (true, x7)), (8, (true, x8)), (11, (false, x11)), (12, (true, x12)), (14, (true, x14)), (15, (true, x15)), (16, (true, x16)), (17, (true, x17))]) [0, 1, 2, 3, 4, 5, 6, 7, 8, 9, 10, 11, 12] rfl ?_
  exact w_L_isServed_265 F hno hnm k216 hk216 x0 x3 x4 x5 x6 x7 x8 x11 x12 x14 x15 x16 x17 0 M h
set_option maxHeartbeats 4000000 in
set_option maxRecDepth 100000 in
theorem w_L_isServed_431 {p : Program} {l : Launch} {e : Env} {R : Room} {s : State} {m : MethodId} {args : Array Value} {below : List Frame} {meth : Method} {c : Code} {G : Gt} {ρ0 : Int → Nat} {M0 : Mo} {res : RS} (F : Fx p l R s m args meth c cL_isServed 20 RL G M0 14 (some FieldType.boolean)) (hno : ∀ x ∈ c.exceptionTable.toList, False) (hnm : meth.name = yL_isServed.name) (x0 x6 x7 x8 x11 x12 x14 x15 x16 y0 : Int) (M : Mo) (h : L_isServed_431 x0 x6 x7 x8 x11 x12 x14 x15 x16 y0 M = some res) : J p l e R s m args below meth c 20 G ρ0 M0 1 res M 431 [(0, (false, x0)), (6, (true, x6)), (7, (true, x7)), (8, (true, x8)), (11, (false, x11)), (12, (true, x12)), (14, (true, x14)), (15, (true, x15)), (16, (true, x16))] [(true, y0)] := by
  unfold L_isServed_431 at h
  refine j_istore F (lv' := [(13, (true, y0)), (0, (false, x0)), (6, (true, x6)), (7, (true, x7)), (8, (true, x8)), (11, (false, x11)), (12, (true, x12)), (14, (true, x14)), (15, (true, x15)), (16, (true, x16))]) (by decide) rfl dL_isServed_431 ?_
  refine j_iload F 0 rfl dL_isServed_433 ?_
  refine j_if_eq F 469 (by decide) dL_isServed_435 h (fun h => ?_) (fun h => ?_)
  · skip
    refine j_iconst F dL_isServed_469 ?_
    exact j_zret F (by decide) h dL_isServed_470
  · skip
    refine j_iload F 7 rfl dL_isServed_438 ?_
    refine j_iconst F dL_isServed_440 ?_
    refine j_icmp_gt F 465 (by decide) dL_isServed_441 h (fun h => ?_) (fun h => ?_)
    · skip
      refine j_iconst F dL_isServed_465 ?_
      refine j_goto F 470 (by decide) dL_isServed_466 ?_
      exact j_zret F (by decide) h dL_isServed_470
    · skip
      refine j_aload_n F 1 rfl rfl dL_isServed_444 ?_
      refine j_aload F 5 rfl dL_isServed_445 ?_
      refine j_iload F 2 rfl dL_isServed_447 ?_
      refine j_iload F 4 rfl dL_isServed_449 ?_
      refine j_iload F 9 rfl dL_isServed_451 ?_
      refine j_iload F 8 rfl dL_isServed_453 ?_
      refine j_iload F 3 rfl dL_isServed_455 ?_
      refine j_iload F 6 rfl dL_isServed_457 ?_
      refine j_callS (d' := 11) (argl := [(false, x0), (false, x11), (true, x6), (true, x8), (true, x16), (true, x15), (true, x7), (true, x12)]) (rk9 := 1) (st := []) F hno M_L_isAnswered q1643 q1642 ⟨by decide, by decide⟩ (Nat.le_of_ble_eq_true rfl) (by decide) dL_isServed_459 rfl h (fun z hz => c_L_isAnswered l F.ht G x0 x11 x6 x8 x16 x15 x7 x12 M z hz) (fun v1 M2 h kl3 => ?_)
      refine j_st (st' := [(true, v1)]) rfl ?_
      refine j_if_eq F 469 (by decide) dL_isServed_462 h (fun h => ?_) (fun h => ?_)
      · skip
        refine j_iconst F dL_isServed_469 ?_
        exact j_zret F (by decide) h dL_isServed_470
      · skip
        refine j_iconst F dL_isServed_465 ?_
        refine j_goto F 470 (by decide) dL_isServed_466 ?_
        exact j_zret F (by decide) h dL_isServed_470
set_option maxHeartbeats 4000000 in
set_option maxRecDepth 100000 in
theorem w_L_isServed_430 {p : Program} {l : Launch} {e : Env} {R : Room} {s : State} {m : MethodId} {args : Array Value} {below : List Frame} {meth : Method} {c : Code} {G : Gt} {ρ0 : Int → Nat} {M0 : Mo} {res : RS} (F : Fx p l R s m args meth c cL_isServed 20 RL G M0 14 (some FieldType.boolean)) (hno : ∀ x ∈ c.exceptionTable.toList, False) (hnm : meth.name = yL_isServed.name) (x0 x6 x7 x8 x11 x12 x14 x15 x16 : Int) (M : Mo) (h : L_isServed_430 x0 x6 x7 x8 x11 x12 x14 x15 x16 M = some res) : J p l e R s m args below meth c 20 G ρ0 M0 1 res M 430 [(0, (false, x0)), (6, (true, x6)), (7, (true, x7)), (8, (true, x8)), (11, (false, x11)), (12, (true, x12)), (14, (true, x14)), (15, (true, x15)), (16, (true, x16))] [] := by
  unfold L_isServed_430 at h
  refine j_iconst F dL_isServed_430 ?_
  refine j_sub (lv' := [(0, (false, x0)), (6, (true, x6)), (7, (true, x7)), (8, (true, x8)), (11, (false, x11)), (12, (true, x12)), (14, (true, x14)), (15, (true, x15)), (16, (true, x16))]) [0, 1, 2, 3, 4, 5, 6, 7, 8] rfl ?_
  exact w_L_isServed_431 F hno hnm x0 x6 x7 x8 x11 x12 x14 x15 x16 0 M h
set_option maxHeartbeats 4000000 in
set_option maxRecDepth 100000 in
theorem w_L_isServed_383 {p : Program} {l : Launch} {e : Env} {R : Room} {s : State} {m : MethodId} {args : Array Value} {below : List Frame} {meth : Method} {c : Code} {G : Gt} {ρ0 : Int → Nat} {M0 : Mo} {res : RS} (F : Fx p l R s m args meth c cL_isServed 20 RL G M0 14 (some FieldType.boolean)) (hno : ∀ x ∈ c.exceptionTable.toList, False) (hnm : meth.name = yL_isServed.name) (x0 x3 x4 x5 x6 x7 x8 x11 x12 x13 x14 x15 x16 : Int) (M : Mo) (h : L_isServed_383 x0 x3 x4 x5 x6 x7 x8 x11 x12 x13 x14 x15 x16 M = some res) : J p l e R s m args below meth c 20 G ρ0 M0 1 res M 383 [(0, (false, x0)), (3, (false, x3)), (4, (false, x4)), (5, (false, x5)), (6, (true, x6)), (7, (true, x7)), (8, (true, x8)), (11, (false, x11)), (12, (true, x12)), (13, (true, x13)), (14, (true, x14)), (15, (true, x15)), (16, (true, x16))] [] := by
  unfold L_isServed_383 at h
  refine j_iload F 9 rfl dL_isServed_383 ?_
  refine j_if_eq F 430 (by decide) dL_isServed_385 h (fun h => ?_) (fun h => ?_)
  · skip
    refine j_sub (lv' := [(0, (false, x0)), (6, (true, x6)), (7, (true, x7)), (8, (true, x8)), (11, (false, x11)), (12, (true, x12)), (14, (true, x14)), (15, (true, x15)), (16, (true, x16))]) [0, 4, 5, 6, 7, 8, 10, 11, 12] rfl ?_
    exact w_L_isServed_430 F hno hnm x0 x6 x7 x8 x11 x12 x14 x15 x16 M h
  · skip
    refine j_aload_n F 0 rfl rfl dL_isServed_388 ?_
    refine j_iload F 5 rfl dL_isServed_389 ?_
    refine j_iload F 8 rfl dL_isServed_391 ?_
    obtain ⟨g4, h⟩ := gua h
    refine j_callV (d' := 7) (argl := [(true, x7), (true, x12)]) (rk9 := 1) (st := []) F hno M_X11_standing q1542 q1543 q1541 ⟨by decide, by decide⟩ (Nat.le_of_ble_eq_true rfl) (by decide) (ci := 12) rfl (by decide) g4 dL_isServed_393 rfl h (fun z hz => c_X11_standing l F.ht G x0 x7 x12 M z hz) (fun v1 M2 h kl3 => ?_)
    refine j_st (st' := [(true, v1)]) rfl ?_
    refine j_if_ne F 430 (by decide) dL_isServed_396 h (fun h => ?_) (fun h => ?_)
    · skip
      refine j_sub (lv' := [(0, (false, x0)), (6, (true, x6)), (7, (true, x7)), (8, (true, x8)), (11, (false, x11)), (12, (true, x12)), (14, (true, x14)), (15, (true, x15)), (16, (true, x16))]) [0, 4, 5, 6, 7, 8, 10, 11, 12] rfl ?_
      exact w_L_isServed_430 F hno hnm x0 x6 x7 x8 x11 x12 x14 x15 x16 M2 h
    · skip
      refine j_aload_n F 0 rfl rfl dL_isServed_399 ?_
      refine j_aload_n F 1 rfl rfl dL_isServed_400 ?_
      refine j_aload F 2 rfl dL_isServed_401 ?_
      refine j_aload F 3 rfl dL_isServed_403 ?_
      refine j_callS (d' := 13) (argl := [(false, x0), (false, x3), (false, x4), (false, x5)]) (rk9 := 1) (st := []) F hno M_L_areDelivered q1605 q1604 ⟨by decide, by decide⟩ (Nat.le_of_ble_eq_true rfl) (by decide) dL_isServed_405 rfl h (fun z hz => c_L_areDelivered l F.ht G x0 x3 x4 x5 M2 z hz) (fun v5 M6 h kl7 => ?_)
      refine j_st (st' := [(true, v5)]) rfl ?_
      refine j_if_eq F 430 (by decide) dL_isServed_408 h (fun h => ?_) (fun h => ?_)
      · skip
        refine j_sub (lv' := [(0, (false, x0)), (6, (true, x6)), (7, (true, x7)), (8, (true, x8)), (11, (false, x11)), (12, (true, x12)), (14, (true, x14)), (15, (true, x15)), (16, (true, x16))]) [0, 4, 5, 6, 7, 8, 10, 11, 12] rfl ?_
        exact w_L_isServed_430 F hno hnm x0 x6 x7 x8 x11 x12 x14 x15 x16 M6 h
      · skip
        refine j_aload_n F 0 rfl rfl dL_isServed_411 ?_
        refine j_iload F 5 rfl dL_isServed_412 ?_
        refine j_iload F 8 rfl dL_isServed_414 ?_
        refine j_callV (d' := 7) (argl := [(true, x7), (true, x12)]) (rk9 := 1) (st := []) F hno M_X11_standing q1542 q1543 q1541 ⟨by decide, by decide⟩ (Nat.le_of_ble_eq_true rfl) (by decide) (ci := 12) rfl (by decide) (kl7.is (kl3.is g4)) dL_isServed_416 rfl h (fun z hz => c_X11_standing l F.ht G x0 x7 x12 M6 z hz) (fun v8 M9 h kl10 => ?_)
        refine j_st (st' := [(true, v8)]) rfl ?_
        refine j_bipush F (by decide) dL_isServed_419 ?_
        refine j_irem F (by decide) dL_isServed_421 ?_
        refine j_iconst F dL_isServed_422 ?_
        refine j_icmp_ne F 430 (by decide) dL_isServed_423 h (fun h => ?_) (fun h => ?_)
        · skip
          refine j_sub (lv' := [(0, (false, x0)), (6, (true, x6)), (7, (true, x7)), (8, (true, x8)), (11, (false, x11)), (12, (true, x12)), (14, (true, x14)), (15, (true, x15)), (16, (true, x16))]) [0, 4, 5, 6, 7, 8, 10, 11, 12] rfl ?_
          exact w_L_isServed_430 F hno hnm x0 x6 x7 x8 x11 x12 x14 x15 x16 M9 h
        · skip
          refine j_iconst F dL_isServed_426 ?_
          refine j_goto F 431 (by decide) dL_isServed_427 ?_
          refine j_sub (lv' := [(0, (false, x0)), (6, (true, x6)), (7, (true, x7)), (8, (true, x8)), (11, (false, x11)), (12, (true, x12)), (14, (true, x14)), (15, (true, x15)), (16, (true, x16))]) [0, 4, 5, 6, 7, 8, 10, 11, 12] rfl ?_
          exact w_L_isServed_431 F hno hnm x0 x6 x7 x8 x11 x12 x14 x15 x16 1 M9 h
set_option maxHeartbeats 4000000 in
set_option maxRecDepth 100000 in
theorem w_L_isServed_355 {p : Program} {l : Launch} {e : Env} {R : Room} {s : State} {m : MethodId} {args : Array Value} {below : List Frame} {meth : Method} {c : Code} {G : Gt} {ρ0 : Int → Nat} {M0 : Mo} {res : RS} (F : Fx p l R s m args meth c cL_isServed 20 RL G M0 14 (some FieldType.boolean)) (hno : ∀ x ∈ c.exceptionTable.toList, False) (hnm : meth.name = yL_isServed.name) (x0 x3 x4 x5 x6 x7 x8 x11 x12 x13 x14 x15 x16 : Int) (M : Mo) (h : L_isServed_355 x0 x3 x4 x5 x6 x7 x8 x11 x12 x13 x14 x15 x16 M = some res) : J p l e R s m args below meth c 20 G ρ0 M0 1 res M 355 [(0, (false, x0)), (3, (false, x3)), (4, (false, x4)), (5, (false, x5)), (6, (true, x6)), (7, (true, x7)), (8, (true, x8)), (11, (false, x11)), (12, (true, x12)), (13, (true, x13)), (14, (true, x14)), (15, (true, x15)), (16, (true, x16))] [] := by
  unfold L_isServed_355 at h
  refine j_iload F 9 rfl dL_isServed_355 ?_
  refine j_if_eq F 383 (by decide) dL_isServed_357 h (fun h => ?_) (fun h => ?_)
  · skip
    refine j_sub (lv' := [(0, (false, x0)), (3, (false, x3)), (4, (false, x4)), (5, (false, x5)), (6, (true, x6)), (7, (true, x7)), (8, (true, x8)), (11, (false, x11)), (12, (true, x12)), (13, (true, x13)), (14, (true, x14)), (15, (true, x15)), (16, (true, x16))]) [0, 1, 2, 3, 4, 5, 6, 7, 8, 9, 10, 11, 12] rfl ?_
    exact w_L_isServed_383 F hno hnm x0 x3 x4 x5 x6 x7 x8 x11 x12 x13 x14 x15 x16 M h
  · skip
    refine j_iload F 10 rfl dL_isServed_360 ?_
    refine j_if_ne F 383 (by decide) dL_isServed_362 h (fun h => ?_) (fun h => ?_)
    · skip
      refine j_sub (lv' := [(0, (false, x0)), (3, (false, x3)), (4, (false, x4)), (5, (false, x5)), (6, (true, x6)), (7, (true, x7)), (8, (true, x8)), (11, (false, x11)), (12, (true, x12)), (13, (true, x13)), (14, (true, x14)), (15, (true, x15)), (16, (true, x16))]) [0, 1, 2, 3, 4, 5, 6, 7, 8, 9, 10, 11, 12] rfl ?_
      exact w_L_isServed_383 F hno hnm x0 x3 x4 x5 x6 x7 x8 x11 x12 x13 x14 x15 x16 M h
    · skip
      refine j_aload_n F 0 rfl rfl dL_isServed_365 ?_
      refine j_iload F 5 rfl dL_isServed_366 ?_
      refine j_iload F 8 rfl dL_isServed_368 ?_
      obtain ⟨g4, h⟩ := gua h
      refine j_callV (d' := 7) (argl := [(true, x7), (true, x12)]) (rk9 := 1) (st := []) F hno M_X11_standing q1542 q1543 q1541 ⟨by decide, by decide⟩ (Nat.le_of_ble_eq_true rfl) (by decide) (ci := 12) rfl (by decide) g4 dL_isServed_370 rfl h (fun z hz => c_X11_standing l F.ht G x0 x7 x12 M z hz) (fun v1 M2 h kl3 => ?_)
      refine j_st (st' := [(true, v1)]) rfl ?_
      refine j_iconst F dL_isServed_373 ?_
      refine j_icmp_ne F 381 (by decide) dL_isServed_374 h (fun h => ?_) (fun h => ?_)
      · skip
        refine j_iconst F dL_isServed_381 ?_
        exact j_zret F (by decide) h dL_isServed_382
      · skip
        refine j_iconst F dL_isServed_377 ?_
        refine j_goto F 382 (by decide) dL_isServed_378 ?_
        exact j_zret F (by decide) h dL_isServed_382
set_option maxHeartbeats 4000000 in
set_option maxRecDepth 100000 in
theorem w_L_isServed_216 {p : Program} {l : Launch} {e : Env} {R : Room} {s : State} {m : MethodId} {args : Array Value} {below : List Frame} {meth : Method} {c : Code} {G : Gt} {ρ0 : Int → Nat} {M0 : Mo} {res : RS} (F : Fx p l R s m args meth c cL_isServed 20 RL G M0 14 (some FieldType.boolean)) (hno : ∀ x ∈ c.exceptionTable.toList, False) (hnm : meth.name = yL_isServed.name) (n : Nat) : ∀ (x0 x3 x4 x5 x6 x7 x8 x11 x12 x13 x14 x15 x16 x17 : Int) (M : Mo), L_isServed_216 n x0 x3 x4 x5 x6 x7 x8 x11 x12 x13 x14 x15 x16 x17 M = some res → J p l e R s m args below meth c 20 G ρ0 M0 1 res M 216 [(0, (false, x0)), (3, (false, x3)), (4, (false, x4)), (5, (false, x5)), (6, (true, x6)), (7, (true, x7)), (8, (true, x8)), (11, (false, x11)), (12, (true, x12)), (13, (true, x13)), (14, (true, x14)), (15, (true, x15)), (16, (true, x16)), (17, (true, x17))] [] := by
  induction n with
  | zero => intro x0 x3 x4 x5 x6 x7 x8 x11 x12 x13 x14 x15 x16 x17 M h; cases h
  | succ n ih =>
    intro x0 x3 x4 x5 x6 x7 x8 x11 x12 x13 x14 x15 x16 x17 M h
    rw [L_isServed_216] at h
    refine j_iload F 13 rfl dL_isServed_216 ?_
    refine j_aload F 3 rfl dL_isServed_218 ?_
    refine j_bipush F (by decide) dL_isServed_220 ?_
    obtain ⟨g1, h⟩ := gua h
    obtain ⟨g2, h⟩ := gua h
    refine j_iaload F g1 g2 dL_isServed_222 ?_
    refine j_icmp_ge F 355 (by decide) dL_isServed_223 h (fun h => ?_) (fun h => ?_)
    · skip
      refine j_sub (lv' := [(0, (false, x0)), (3, (false, x3)), (4, (false, x4)), (5, (false, x5)), (6, (true, x6)), (7, (true, x7)), (8, (true, x8)), (11, (false, x11)), (12, (true, x12)), (13, (true, x13)), (14, (true, x14)), (15, (true, x15)), (16, (true, x16))]) [0, 1, 2, 3, 4, 5, 6, 7, 8, 9, 10, 11, 12] rfl ?_
      exact w_L_isServed_355 F hno hnm x0 x3 x4 x5 x6 x7 x8 x11 x12 x13 x14 x15 x16 M h
    · skip
      refine j_iload F 9 rfl dL_isServed_226 ?_
      refine j_if_eq F 355 (by decide) dL_isServed_228 h (fun h => ?_) (fun h => ?_)
      · skip
        refine j_sub (lv' := [(0, (false, x0)), (3, (false, x3)), (4, (false, x4)), (5, (false, x5)), (6, (true, x6)), (7, (true, x7)), (8, (true, x8)), (11, (false, x11)), (12, (true, x12)), (13, (true, x13)), (14, (true, x14)), (15, (true, x15)), (16, (true, x16))]) [0, 1, 2, 3, 4, 5, 6, 7, 8, 9, 10, 11, 12] rfl ?_
        exact w_L_isServed_355 F hno hnm x0 x3 x4 x5 x6 x7 x8 x11 x12 x13 x14 x15 x16 M h
      · skip
        refine j_aload F 3 rfl dL_isServed_231 ?_
        refine j_bipush F (by decide) dL_isServed_233 ?_
        refine j_iload F 13 rfl dL_isServed_235 ?_
        refine j_iadd F dL_isServed_237 ?_
        obtain ⟨g3, h⟩ := gua h
        refine j_iaload F g1 g3 dL_isServed_238 ?_
        refine j_iconst F dL_isServed_239 ?_
        refine j_icmp_ne F 264 (by decide) dL_isServed_240 h (fun h => ?_) (fun h => ?_)
        · skip
          refine j_sub (lv' := [(0, (false, x0)), (3, (false, x3)), (4, (false, x4)), (5, (false, x5)), (6, (true, x6)), (7, (true, x7)), (8, (true, x8)), (11, (false, x11)), (12, (true, x12)), (14, (true, x14)), (15, (true, x15)), (16, (true, x16)), (17, (true, x17))]) [0, 1, 2, 3, 4, 5, 6, 7, 8, 10, 11, 12, 13] rfl ?_
          exact w_L_isServed_264 F hno hnm (L_isServed_216 n) ih x0 x3 x4 x5 x6 x7 x8 x11 x12 x14 x15 x16 x17 M h
        · skip
          refine j_aload F 3 rfl dL_isServed_243 ?_
          refine j_bipush F (by decide) dL_isServed_245 ?_
          refine j_iload F 13 rfl dL_isServed_247 ?_
          refine j_iadd F dL_isServed_249 ?_
          obtain ⟨g4, h⟩ := gua h
          refine j_iaload F g1 g4 dL_isServed_250 ?_
          refine j_iload F 6 rfl dL_isServed_251 ?_
          refine j_ishr F dL_isServed_253 ?_
          refine j_iconst F dL_isServed_254 ?_
          refine j_iand F dL_isServed_255 ?_
          refine j_iconst F dL_isServed_256 ?_
          refine j_icmp_ne F 264 (by decide) dL_isServed_257 h (fun h => ?_) (fun h => ?_)
          · skip
            refine j_sub (lv' := [(0, (false, x0)), (3, (false, x3)), (4, (false, x4)), (5, (false, x5)), (6, (true, x6)), (7, (true, x7)), (8, (true, x8)), (11, (false, x11)), (12, (true, x12)), (14, (true, x14)), (15, (true, x15)), (16, (true, x16)), (17, (true, x17))]) [0, 1, 2, 3, 4, 5, 6, 7, 8, 10, 11, 12, 13] rfl ?_
            exact w_L_isServed_264 F hno hnm (L_isServed_216 n) ih x0 x3 x4 x5 x6 x7 x8 x11 x12 x14 x15 x16 x17 M h
          · skip
            refine j_iconst F dL_isServed_260 ?_
            refine j_goto F 265 (by decide) dL_isServed_261 ?_
            refine j_sub (lv' := [(0, (false, x0)), (3, (false, x3)), (4, (false, x4)), (5, (false, x5)), (6, (true, x6)), (7, (true, x7)), (8, (true, x8)), (11, (false, x11)), (12, (true, x12)), (14, (true, x14)), (15, (true, x15)), (16, (true, x16)), (17, (true, x17))]) [0, 1, 2, 3, 4, 5, 6, 7, 8, 10, 11, 12, 13] rfl ?_
            exact w_L_isServed_265 F hno hnm (L_isServed_216 n) ih x0 x3 x4 x5 x6 x7 x8 x11 x12 x14 x15 x16 x17 1 M h
set_option maxHeartbeats 4000000 in
set_option maxRecDepth 100000 in
theorem w_L_isServed_194 {p : Program} {l : Launch} {e : Env} {R : Room} {s : State} {m : MethodId} {args : Array Value} {below : List Frame} {meth : Method} {c : Code} {G : Gt} {ρ0 : Int → Nat} {M0 : Mo} {res : RS} (F : Fx p l R s m args meth c cL_isServed 20 RL G M0 14 (some FieldType.boolean)) (hno : ∀ x ∈ c.exceptionTable.toList, False) (hnm : meth.name = yL_isServed.name) (x0 x3 x4 x5 x6 x7 x8 x9 x10 x11 x12 y0 : Int) (M : Mo) (h : L_isServed_194 x0 x3 x4 x5 x6 x7 x8 x9 x10 x11 x12 y0 M = some res) : J p l e R s m args below meth c 20 G ρ0 M0 1 res M 194 [(0, (false, x0)), (3, (false, x3)), (4, (false, x4)), (5, (false, x5)), (6, (true, x6)), (7, (true, x7)), (8, (true, x8)), (9, (true, x9)), (10, (true, x10)), (11, (false, x11)), (12, (true, x12))] [(true, y0)] := by
  unfold L_isServed_194 at h
  refine j_istore F (lv' := [(13, (true, y0)), (0, (false, x0)), (3, (false, x3)), (4, (false, x4)), (5, (false, x5)), (6, (true, x6)), (7, (true, x7)), (8, (true, x8)), (9, (true, x9)), (10, (true, x10)), (11, (false, x11)), (12, (true, x12))]) (by decide) rfl dL_isServed_194 ?_
  refine j_iconst F dL_isServed_196 ?_
  refine j_istore F (lv' := [(14, (true, 0)), (13, (true, y0)), (0, (false, x0)), (3, (false, x3)), (4, (false, x4)), (5, (false, x5)), (6, (true, x6)), (7, (true, x7)), (8, (true, x8)), (9, (true, x9)), (10, (true, x10)), (11, (false, x11)), (12, (true, x12))]) (by decide) rfl dL_isServed_197 ?_
  refine j_iconst F dL_isServed_199 ?_
  refine j_istore F (lv' := [(15, (true, 0)), (14, (true, 0)), (13, (true, y0)), (0, (false, x0)), (3, (false, x3)), (4, (false, x4)), (5, (false, x5)), (6, (true, x6)), (7, (true, x7)), (8, (true, x8)), (9, (true, x9)), (10, (true, x10)), (11, (false, x11)), (12, (true, x12))]) (by decide) rfl dL_isServed_200 ?_
  refine j_aload F 12 rfl dL_isServed_202 ?_
  refine j_iload F 10 rfl dL_isServed_204 ?_
  refine j_iload F 11 rfl dL_isServed_206 ?_
  refine j_callS (d' := 0) (argl := [(false, x11), (true, x9), (true, x10)]) (rk9 := 1) (st := []) F hno M_L_place q1635 q1634 ⟨by decide, by decide⟩ (Nat.le_of_ble_eq_true rfl) (by decide) dL_isServed_208 rfl h (fun z hz => c_L_place l F.ht G x11 x9 x10 M z hz) (fun v1 M2 h kl3 => ?_)
  refine j_st (st' := [(true, v1)]) rfl ?_
  refine j_istore F (lv' := [(16, (true, v1)), (15, (true, 0)), (14, (true, 0)), (13, (true, y0)), (0, (false, x0)), (3, (false, x3)), (4, (false, x4)), (5, (false, x5)), (6, (true, x6)), (7, (true, x7)), (8, (true, x8)), (9, (true, x9)), (10, (true, x10)), (11, (false, x11)), (12, (true, x12))]) (by decide) rfl dL_isServed_211 ?_
  refine j_iconst F dL_isServed_213 ?_
  refine j_istore F (lv' := [(17, (true, 0)), (16, (true, v1)), (15, (true, 0)), (14, (true, 0)), (13, (true, y0)), (0, (false, x0)), (3, (false, x3)), (4, (false, x4)), (5, (false, x5)), (6, (true, x6)), (7, (true, x7)), (8, (true, x8)), (9, (true, x9)), (10, (true, x10)), (11, (false, x11)), (12, (true, x12))]) (by decide) rfl dL_isServed_214 ?_
  refine j_sub (lv' := [(0, (false, x0)), (3, (false, x3)), (4, (false, x4)), (5, (false, x5)), (6, (true, x6)), (7, (true, x7)), (8, (true, x8)), (11, (false, x11)), (12, (true, x12)), (13, (true, y0)), (14, (true, 0)), (15, (true, 0)), (16, (true, v1)), (17, (true, 0))]) [5, 6, 7, 8, 9, 10, 11, 14, 15, 4, 3, 2, 1, 0] rfl ?_
  exact w_L_isServed_216 F hno hnm FU x0 x3 x4 x5 x6 x7 x8 x11 x12 y0 0 0 v1 0 M2 h
set_option maxHeartbeats 4000000 in
set_option maxRecDepth 100000 in
theorem w_L_isServed_193 {p : Program} {l : Launch} {e : Env} {R : Room} {s : State} {m : MethodId} {args : Array Value} {below : List Frame} {meth : Method} {c : Code} {G : Gt} {ρ0 : Int → Nat} {M0 : Mo} {res : RS} (F : Fx p l R s m args meth c cL_isServed 20 RL G M0 14 (some FieldType.boolean)) (hno : ∀ x ∈ c.exceptionTable.toList, False) (hnm : meth.name = yL_isServed.name) (x0 x3 x4 x5 x6 x7 x8 x9 x10 x11 x12 : Int) (M : Mo) (h : L_isServed_193 x0 x3 x4 x5 x6 x7 x8 x9 x10 x11 x12 M = some res) : J p l e R s m args below meth c 20 G ρ0 M0 1 res M 193 [(0, (false, x0)), (3, (false, x3)), (4, (false, x4)), (5, (false, x5)), (6, (true, x6)), (7, (true, x7)), (8, (true, x8)), (9, (true, x9)), (10, (true, x10)), (11, (false, x11)), (12, (true, x12))] [] := by
  unfold L_isServed_193 at h
  refine j_iconst F dL_isServed_193 ?_
  refine j_sub (lv' := [(0, (false, x0)), (3, (false, x3)), (4, (false, x4)), (5, (false, x5)), (6, (true, x6)), (7, (true, x7)), (8, (true, x8)), (9, (true, x9)), (10, (true, x10)), (11, (false, x11)), (12, (true, x12))]) [0, 1, 2, 3, 4, 5, 6, 7, 8, 9, 10] rfl ?_
  exact w_L_isServed_194 F hno hnm x0 x3 x4 x5 x6 x7 x8 x9 x10 x11 x12 0 M h
set_option maxHeartbeats 4000000 in
set_option maxRecDepth 100000 in
theorem w_L_isServed_125 {p : Program} {l : Launch} {e : Env} {R : Room} {s : State} {m : MethodId} {args : Array Value} {below : List Frame} {meth : Method} {c : Code} {G : Gt} {ρ0 : Int → Nat} {M0 : Mo} {res : RS} (F : Fx p l R s m args meth c cL_isServed 20 RL G M0 14 (some FieldType.boolean)) (hno : ∀ x ∈ c.exceptionTable.toList, False) (hnm : meth.name = yL_isServed.name) (x0 x3 x4 x5 x6 x7 x8 x9 x10 y0 : Int) (M : Mo) (h : L_isServed_125 x0 x3 x4 x5 x6 x7 x8 x9 x10 y0 M = some res) : J p l e R s m args below meth c 20 G ρ0 M0 1 res M 125 [(0, (false, x0)), (3, (false, x3)), (4, (false, x4)), (5, (false, x5)), (6, (true, x6)), (7, (true, x7)), (8, (true, x8)), (9, (true, x9)), (10, (true, x10))] [(false, y0)] := by
  unfold L_isServed_125 at h
  refine j_astore F (lv' := [(11, (false, y0)), (0, (false, x0)), (3, (false, x3)), (4, (false, x4)), (5, (false, x5)), (6, (true, x6)), (7, (true, x7)), (8, (true, x8)), (9, (true, x9)), (10, (true, x10))]) (by decide) rfl dL_isServed_125 ?_
  refine j_aload F 4 rfl dL_isServed_127 ?_
  refine j_iconst F dL_isServed_129 ?_
  refine j_iload F 6 rfl dL_isServed_130 ?_
  refine j_iadd F dL_isServed_132 ?_
  obtain ⟨g1, h⟩ := gua h
  obtain ⟨g2, h⟩ := gua h
  refine j_iaload F g1 g2 dL_isServed_133 ?_
  refine j_istore F (lv' := [(12, (true, (el M 0 x5 (wr (4 + x7))))), (11, (false, y0)), (0, (false, x0)), (3, (false, x3)), (4, (false, x4)), (5, (false, x5)), (6, (true, x6)), (7, (true, x7)), (8, (true, x8)), (9, (true, x9)), (10, (true, x10))]) (by decide) rfl dL_isServed_134 ?_
  refine j_aload F 5 rfl dL_isServed_136 ?_
  refine j_iconst F dL_isServed_138 ?_
  refine j_iload F 7 rfl dL_isServed_139 ?_
  refine j_iadd F dL_isServed_141 ?_
  refine j_dup2 F dL_isServed_142 ?_
  obtain ⟨g3, h⟩ := gua h
  refine j_iaload F g1 g3 dL_isServed_143 ?_
  refine j_iconst F dL_isServed_144 ?_
  refine j_iadd F dL_isServed_145 ?_
  obtain ⟨g4, h⟩ := gua h
  refine j_iastore F g1 g4 dL_isServed_146 ?_
  obtain ⟨M5, hM5⟩ : ∃ Z, Z = sE M 0 x5 (wr (4 + x7)) ((el M 0 x5 (wr (4 + x7))) + 1) := ⟨_, rfl⟩
  have kl6 : kle M M5 := by rw [hM5]; exact kle_sE
  rw [← hM5]
  replace h := pt_as h hM5
  refine j_aload_n F 2 rfl rfl dL_isServed_147 ?_
  refine j_bipush F (by decide) dL_isServed_148 ?_
  refine j_iload F 7 rfl dL_isServed_150 ?_
  refine j_iload F 8 rfl dL_isServed_152 ?_
  refine j_iload F 6 rfl dL_isServed_154 ?_
  refine j_iload F 9 rfl dL_isServed_156 ?_
  refine j_iload F 10 rfl dL_isServed_158 ?_
  refine j_bipush F (by decide) dL_isServed_160 ?_
  refine j_iconst F dL_isServed_162 ?_
  refine j_callX (d' := 13) (argl := [(false, x0), (true, 6), (true, x7), (true, x8), (true, x6), (true, x9), (true, x10), (true, 97), (true, 0)]) (rk9 := 1) (st := []) F hno M_L_does q611 q610 ⟨by decide, by decide⟩ (Nat.le_of_ble_eq_true rfl) (by decide) dL_isServed_163 rfl h (fun z hz => c_L_does l F.ht G x0 6 x7 x8 x6 x9 x10 97 0 M5 z hz) (fun v7 M8 h kl9 => ?_)
  refine j_st (st' := [(true, v7)]) rfl ?_
  refine j_iload F 0 rfl dL_isServed_166 ?_
  refine j_icmp_ne F 193 (by decide) dL_isServed_168 h (fun h => ?_) (fun h => ?_)
  · skip
    refine j_sub (lv' := [(0, (false, x0)), (3, (false, x3)), (4, (false, x4)), (5, (false, x5)), (6, (true, x6)), (7, (true, x7)), (8, (true, x8)), (9, (true, x9)), (10, (true, x10)), (11, (false, y0)), (12, (true, (el M 0 x5 (wr (4 + x7)))))]) [2, 3, 4, 5, 6, 7, 8, 9, 10, 1, 0] rfl ?_
    exact w_L_isServed_193 F hno hnm x0 x3 x4 x5 x6 x7 x8 x9 x10 y0 (el M 0 x5 (wr (4 + x7))) M8 h
  · skip
    refine j_aload_n F 2 rfl rfl dL_isServed_171 ?_
    refine j_iload F 7 rfl dL_isServed_172 ?_
    refine j_iload F 0 rfl dL_isServed_174 ?_
    obtain ⟨g13, h⟩ := gua h
    refine j_callV (d' := 7) (argl := [(true, x7), (true, (el M 0 x5 (wr (4 + x7))))]) (rk9 := 1) (st := []) F hno M_X11_standing q1542 q1543 q1541 ⟨by decide, by decide⟩ (Nat.le_of_ble_eq_true rfl) (by decide) (ci := 12) rfl (by decide) g13 dL_isServed_176 rfl h (fun z hz => c_X11_standing l F.ht G x0 x7 (el M 0 x5 (wr (4 + x7))) M8 z hz) (fun v10 M11 h kl12 => ?_)
    refine j_st (st' := [(true, v10)]) rfl ?_
    refine j_if_ne F 193 (by decide) dL_isServed_179 h (fun h => ?_) (fun h => ?_)
    · skip
      refine j_sub (lv' := [(0, (false, x0)), (3, (false, x3)), (4, (false, x4)), (5, (false, x5)), (6, (true, x6)), (7, (true, x7)), (8, (true, x8)), (9, (true, x9)), (10, (true, x10)), (11, (false, y0)), (12, (true, (el M 0 x5 (wr (4 + x7)))))]) [2, 3, 4, 5, 6, 7, 8, 9, 10, 1, 0] rfl ?_
      exact w_L_isServed_193 F hno hnm x0 x3 x4 x5 x6 x7 x8 x9 x10 y0 (el M 0 x5 (wr (4 + x7))) M11 h
    · skip
      refine j_aload_n F 2 rfl rfl dL_isServed_182 ?_
      refine j_callV (d' := 12) (argl := []) (rk9 := 1) (st := []) F hno M_X11_deliverAll q1608 q1609 q1607 ⟨by decide, by decide⟩ (Nat.le_of_ble_eq_true rfl) (by decide) (ci := 12) rfl (by decide) (kl12.is g13) dL_isServed_183 rfl h (fun z hz => c_X11_deliverAll l F.ht G x0 M11 z hz) (fun v14 M15 h kl16 => ?_)
      refine j_st (st' := [(true, v14)]) rfl ?_
      refine j_if_le F 193 (by decide) dL_isServed_186 h (fun h => ?_) (fun h => ?_)
      · skip
        refine j_sub (lv' := [(0, (false, x0)), (3, (false, x3)), (4, (false, x4)), (5, (false, x5)), (6, (true, x6)), (7, (true, x7)), (8, (true, x8)), (9, (true, x9)), (10, (true, x10)), (11, (false, y0)), (12, (true, (el M 0 x5 (wr (4 + x7)))))]) [2, 3, 4, 5, 6, 7, 8, 9, 10, 1, 0] rfl ?_
        exact w_L_isServed_193 F hno hnm x0 x3 x4 x5 x6 x7 x8 x9 x10 y0 (el M 0 x5 (wr (4 + x7))) M15 h
      · skip
        refine j_iconst F dL_isServed_189 ?_
        refine j_goto F 194 (by decide) dL_isServed_190 ?_
        refine j_sub (lv' := [(0, (false, x0)), (3, (false, x3)), (4, (false, x4)), (5, (false, x5)), (6, (true, x6)), (7, (true, x7)), (8, (true, x8)), (9, (true, x9)), (10, (true, x10)), (11, (false, y0)), (12, (true, (el M 0 x5 (wr (4 + x7)))))]) [2, 3, 4, 5, 6, 7, 8, 9, 10, 1, 0] rfl ?_
        exact w_L_isServed_194 F hno hnm x0 x3 x4 x5 x6 x7 x8 x9 x10 y0 (el M 0 x5 (wr (4 + x7))) 1 M15 h
set_option maxHeartbeats 4000000 in
set_option maxRecDepth 100000 in
theorem w_L_isServed_39 {p : Program} {l : Launch} {e : Env} {R : Room} {s : State} {m : MethodId} {args : Array Value} {below : List Frame} {meth : Method} {c : Code} {G : Gt} {ρ0 : Int → Nat} {M0 : Mo} {res : RS} (F : Fx p l R s m args meth c cL_isServed 20 RL G M0 14 (some FieldType.boolean)) (hno : ∀ x ∈ c.exceptionTable.toList, False) (hnm : meth.name = yL_isServed.name) (x0 x1 x2 x3 x4 x5 x6 x7 y0 : Int) (M : Mo) (h : L_isServed_39 x0 x1 x2 x3 x4 x5 x6 x7 y0 M = some res) : J p l e R s m args below meth c 20 G ρ0 M0 1 res M 39 [(0, (false, x0)), (1, (false, x1)), (2, (true, x2)), (3, (false, x3)), (4, (false, x4)), (5, (false, x5)), (6, (true, x6)), (7, (true, x7))] [(true, y0)] := by
  unfold L_isServed_39 at h
  refine j_istore F (lv' := [(8, (true, y0)), (0, (false, x0)), (1, (false, x1)), (2, (true, x2)), (3, (false, x3)), (4, (false, x4)), (5, (false, x5)), (6, (true, x6)), (7, (true, x7))]) (by decide) rfl dL_isServed_39 ?_
  refine j_aload_n F 2 rfl rfl dL_isServed_41 ?_
  refine j_iload_n F 3 rfl rfl dL_isServed_42 ?_
  refine j_iconst F dL_isServed_43 ?_
  refine j_iadd F dL_isServed_44 ?_
  refine j_iconst F dL_isServed_45 ?_
  refine j_callS (d' := 0) (argl := [(false, x1), (true, (x2 + 2)), (true, 5)]) (rk9 := 1) (st := []) F hno M_L_part q607 q606 ⟨by decide, by decide⟩ (Nat.le_of_ble_eq_true rfl) (by decide) dL_isServed_46 rfl h (fun z hz => c_L_part l F.ht G x1 (x2 + 2) 5 M z hz) (fun v1 M2 h kl3 => ?_)
  refine j_st (st' := [(true, v1)]) rfl ?_
  refine j_istore F (lv' := [(9, (true, v1)), (8, (true, y0)), (0, (false, x0)), (1, (false, x1)), (2, (true, x2)), (3, (false, x3)), (4, (false, x4)), (5, (false, x5)), (6, (true, x6)), (7, (true, x7))]) (by decide) rfl dL_isServed_49 ?_
  refine j_aload_n F 3 rfl rfl dL_isServed_51 ?_
  refine j_iload_n F 4 rfl rfl dL_isServed_52 ?_
  refine j_iconst F dL_isServed_53 ?_
  refine j_iadd F dL_isServed_54 ?_
  refine j_bipush F (by decide) dL_isServed_55 ?_
  refine j_callS (d' := 0) (argl := [(false, x1), (true, (x2 + 3)), (true, 12)]) (rk9 := 1) (st := []) F hno M_L_part q607 q606 ⟨by decide, by decide⟩ (Nat.le_of_ble_eq_true rfl) (by decide) dL_isServed_57 rfl h (fun z hz => c_L_part l F.ht G x1 (x2 + 3) 12 M2 z hz) (fun v4 M5 h kl6 => ?_)
  refine j_st (st' := [(true, v4)]) rfl ?_
  refine j_istore F (lv' := [(10, (true, v4)), (9, (true, v1)), (8, (true, y0)), (0, (false, x0)), (1, (false, x1)), (2, (true, x2)), (3, (false, x3)), (4, (false, x4)), (5, (false, x5)), (6, (true, x6)), (7, (true, x7))]) (by decide) rfl dL_isServed_60 ?_
  refine j_iload F 10 rfl dL_isServed_62 ?_
  refine j_if_lt F 91 (by decide) dL_isServed_64 h (fun h => ?_) (fun h => ?_)
  · skip
    refine j_sub (lv' := [(5, (false, x5)), (7, (true, x7))]) [8, 10] rfl ?_
    exact w_L_isServed_91 F hno hnm x5 x7 M5 h
  · skip
    refine j_aload F 8 rfl dL_isServed_67 ?_
    refine j_iconst F dL_isServed_69 ?_
    refine j_iload F 10 rfl dL_isServed_70 ?_
    refine j_iadd F dL_isServed_72 ?_
    obtain ⟨g7, h⟩ := gua h
    obtain ⟨g8, h⟩ := gua h
    refine j_iaload F g7 g8 dL_isServed_73 ?_
    refine j_bipush F (by decide) dL_isServed_74 ?_
    refine j_icmp_gt F 91 (by decide) dL_isServed_76 h (fun h => ?_) (fun h => ?_)
    · skip
      refine j_sub (lv' := [(5, (false, x5)), (7, (true, x7))]) [8, 10] rfl ?_
      exact w_L_isServed_91 F hno hnm x5 x7 M5 h
    · skip
      refine j_aload_n F 3 rfl rfl dL_isServed_79 ?_
      refine j_aload_n F 6 rfl rfl dL_isServed_80 ?_
      refine j_aload F 7 rfl dL_isServed_81 ?_
      refine j_aload F 8 rfl dL_isServed_83 ?_
      refine j_callS (d' := 13) (argl := [(false, x0), (false, x3), (false, x4), (false, x5)]) (rk9 := 1) (st := []) F hno M_L_areDelivered q1605 q1604 ⟨by decide, by decide⟩ (Nat.le_of_ble_eq_true rfl) (by decide) dL_isServed_85 rfl h (fun z hz => c_L_areDelivered l F.ht G x0 x3 x4 x5 M5 z hz) (fun v9 M10 h kl11 => ?_)
      refine j_st (st' := [(true, v9)]) rfl ?_
      refine j_if_ne F 114 (by decide) dL_isServed_88 h (fun h => ?_) (fun h => ?_)
      · skip
        refine j_iload F 9 rfl dL_isServed_114 ?_
        refine j_if_ne F 123 (by decide) dL_isServed_116 h (fun h => ?_) (fun h => ?_)
        · skip
          refine j_aload F 7 rfl dL_isServed_123 ?_
          refine j_sub (lv' := [(0, (false, x0)), (3, (false, x3)), (4, (false, x4)), (5, (false, x5)), (6, (true, x6)), (7, (true, x7)), (8, (true, y0)), (9, (true, v1)), (10, (true, v4))]) [3, 6, 7, 8, 9, 10, 2, 1, 0] rfl ?_
          exact w_L_isServed_125 F hno hnm x0 x3 x4 x5 x6 x7 y0 v1 v4 x4 M10 h
        · skip
          refine j_aload_n F 6 rfl rfl dL_isServed_119 ?_
          refine j_goto F 125 (by decide) dL_isServed_120 ?_
          refine j_sub (lv' := [(0, (false, x0)), (3, (false, x3)), (4, (false, x4)), (5, (false, x5)), (6, (true, x6)), (7, (true, x7)), (8, (true, y0)), (9, (true, v1)), (10, (true, v4))]) [3, 6, 7, 8, 9, 10, 2, 1, 0] rfl ?_
          exact w_L_isServed_125 F hno hnm x0 x3 x4 x5 x6 x7 y0 v1 v4 x3 M10 h
      · skip
        refine j_sub (lv' := [(5, (false, x5)), (7, (true, x7))]) [8, 10] rfl ?_
        exact w_L_isServed_91 F hno hnm x5 x7 M10 h
set_option maxHeartbeats 4000000 in
set_option maxRecDepth 100000 in
theorem w_L_isServed_0 {p : Program} {l : Launch} {e : Env} {R : Room} {s : State} {m : MethodId} {args : Array Value} {below : List Frame} {meth : Method} {c : Code} {G : Gt} {ρ0 : Int → Nat} {M0 : Mo} {res : RS} (F : Fx p l R s m args meth c cL_isServed 20 RL G M0 14 (some FieldType.boolean)) (hno : ∀ x ∈ c.exceptionTable.toList, False) (hnm : meth.name = yL_isServed.name) (x0 x1 x2 x3 x4 x5 : Int) (M : Mo) (h : L_isServed x0 x1 x2 x3 x4 x5 M = some res) : J p l e R s m args below meth c 20 G ρ0 M0 1 res M 0 [(0, (false, x0)), (1, (false, x1)), (2, (true, x2)), (3, (false, x3)), (4, (false, x4)), (5, (false, x5))] [] := by
  unfold L_isServed at h
  refine j_aload_n F 1 rfl rfl dL_isServed_0 ?_
  refine j_iload_n F 2 rfl rfl dL_isServed_1 ?_
  refine j_iconst F dL_isServed_2 ?_
  refine j_callS (d' := 0) (argl := [(false, x1), (true, x2), (true, 2)]) (rk9 := 1) (st := []) F hno M_L_part q607 q606 ⟨by decide, by decide⟩ (Nat.le_of_ble_eq_true rfl) (by decide) dL_isServed_3 rfl h (fun z hz => c_L_part l F.ht G x1 x2 2 M z hz) (fun v1 M2 h kl3 => ?_)
  refine j_st (st' := [(true, v1)]) rfl ?_
  refine j_istore F (lv' := [(6, (true, v1)), (0, (false, x0)), (1, (false, x1)), (2, (true, x2)), (3, (false, x3)), (4, (false, x4)), (5, (false, x5))]) (by decide) rfl dL_isServed_6 ?_
  refine j_aload F 6 rfl dL_isServed_8 ?_
  refine j_iconst F dL_isServed_10 ?_
  refine j_iload F 0 rfl dL_isServed_11 ?_
  refine j_iadd F dL_isServed_13 ?_
  obtain ⟨g4, h⟩ := gua h
  obtain ⟨g5, h⟩ := gua h
  refine j_iaload F g4 g5 dL_isServed_14 ?_
  refine j_istore F (lv' := [(7, (true, (el M2 0 x5 (wr (2 + v1))))), (6, (true, v1)), (0, (false, x0)), (1, (false, x1)), (2, (true, x2)), (3, (false, x3)), (4, (false, x4)), (5, (false, x5))]) (by decide) rfl dL_isServed_15 ?_
  refine j_aload_n F 3 rfl rfl dL_isServed_17 ?_
  refine j_iload_n F 4 rfl rfl dL_isServed_18 ?_
  refine j_iconst F dL_isServed_19 ?_
  refine j_iadd F dL_isServed_20 ?_
  refine j_iconst F dL_isServed_21 ?_
  refine j_callS (d' := 0) (argl := [(false, x1), (true, (x2 + 1)), (true, 5)]) (rk9 := 1) (st := []) F hno M_L_part q607 q606 ⟨by decide, by decide⟩ (Nat.le_of_ble_eq_true rfl) (by decide) dL_isServed_22 rfl h (fun z hz => c_L_part l F.ht G x1 (x2 + 1) 5 M2 z hz) (fun v6 M7 h kl8 => ?_)
  refine j_st (st' := [(true, v6)]) rfl ?_
  refine j_istore F (lv' := [(8, (true, v6)), (7, (true, (el M2 0 x5 (wr (2 + v1))))), (6, (true, v1)), (0, (false, x0)), (1, (false, x1)), (2, (true, x2)), (3, (false, x3)), (4, (false, x4)), (5, (false, x5))]) (by decide) rfl dL_isServed_25 ?_
  refine j_iload F 0 rfl dL_isServed_27 ?_
  refine j_iconst F dL_isServed_29 ?_
  refine j_icmp_ne F 37 (by decide) dL_isServed_30 h (fun h => ?_) (fun h => ?_)
  · skip
    refine j_iload F 0 rfl dL_isServed_37 ?_
    refine j_sub (lv' := [(0, (false, x0)), (1, (false, x1)), (2, (true, x2)), (3, (false, x3)), (4, (false, x4)), (5, (false, x5)), (6, (true, v1)), (7, (true, (el M2 0 x5 (wr (2 + v1)))))]) [3, 4, 5, 6, 7, 8, 2, 1] rfl ?_
    exact w_L_isServed_39 F hno hnm x0 x1 x2 x3 x4 x5 v1 (el M2 0 x5 (wr (2 + v1))) v6 M7 h
  · skip
    refine j_iconst F dL_isServed_33 ?_
    refine j_goto F 39 (by decide) dL_isServed_34 ?_
    refine j_sub (lv' := [(0, (false, x0)), (1, (false, x1)), (2, (true, x2)), (3, (false, x3)), (4, (false, x4)), (5, (false, x5)), (6, (true, v1)), (7, (true, (el M2 0 x5 (wr (2 + v1)))))]) [3, 4, 5, 6, 7, 8, 2, 1] rfl ?_
    exact w_L_isServed_39 F hno hnm x0 x1 x2 x3 x4 x5 v1 (el M2 0 x5 (wr (2 + v1))) 5 M7 h
theorem c_L_isServed (l : Launch) (hl : l.stackTraces = false) (G : Gt) (x0 x1 x2 x3 x4 x5 : Int) (M : Mo) (z : RS) (h : L_isServed x0 x1 x2 x3 x4 x5 M = some z) : CT l G yL_isServed (cn yL_isServed cL_isServed 20 (some FieldType.boolean)) 14 [(false, x0), (false, x1), (true, x2), (false, x3), (false, x4), (false, x5)] M 1 z :=
  ctOf hl (by decide) (Nat.le_of_ble_eq_true rfl) (fun p e R s m args below meth c ρ F hno hnm => w_L_isServed_0 F hno hnm x0 x1 x2 x3 x4 x5 M h)
