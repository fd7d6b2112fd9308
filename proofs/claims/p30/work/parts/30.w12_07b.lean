theorem dX7_miss_0 : decode cX7_miss 0 = .ok (.iconst 0, 1) := by decide +kernel
theorem dX7_miss_1 : decode cX7_miss 1 = .ok (.istore_n 2, 1) := by decide +kernel
theorem dX7_miss_2 : decode cX7_miss 2 = .ok (.aload_n 0, 1) := by decide +kernel
theorem dX7_miss_3 : decode cX7_miss 3 = .ok (.getfield 35, 3) := by decide +kernel
theorem dX7_miss_6 : decode cX7_miss 6 = .ok (.invokevirtual 149, 3) := by decide +kernel
theorem dX7_miss_9 : decode cX7_miss 9 = .ok (.istore_n 3, 1) := by decide +kernel
theorem dX7_miss_10 : decode cX7_miss 10 = .ok (.iload_n 3, 1) := by decide +kernel
theorem dX7_miss_11 : decode cX7_miss 11 = .ok (.ifCond .le 87, 3) := by decide +kernel
theorem dX7_miss_98 : decode cX7_miss 98 = .ok (.return_, 1) := by decide +kernel
theorem dX7_miss_14 : decode cX7_miss 14 = .ok (.iload_n 2, 1) := by decide +kernel
theorem dX7_miss_15 : decode cX7_miss 15 = .ok (.aload_n 0, 1) := by decide +kernel
theorem dX7_miss_16 : decode cX7_miss 16 = .ok (.getfield 35, 3) := by decide +kernel
theorem dX7_miss_19 : decode cX7_miss 19 = .ok (.invokevirtual 149, 3) := by decide +kernel
theorem dX7_miss_22 : decode cX7_miss 22 = .ok (.if_icmp .ge 76, 3) := by decide +kernel
theorem dX7_miss_25 : decode cX7_miss 25 = .ok (.aload_n 0, 1) := by decide +kernel
theorem dX7_miss_26 : decode cX7_miss 26 = .ok (.getfield 35, 3) := by decide +kernel
theorem dX7_miss_29 : decode cX7_miss 29 = .ok (.iload_n 2, 1) := by decide +kernel
theorem dX7_miss_30 : decode cX7_miss 30 = .ok (.invokevirtual 153, 3) := by decide +kernel
theorem dX7_miss_33 : decode cX7_miss 33 = .ok (.checkcast 174, 3) := by decide +kernel
theorem dX7_miss_36 : decode cX7_miss 36 = .ok (.astore 4, 2) := by decide +kernel
theorem dX7_miss_38 : decode cX7_miss 38 = .ok (.aload 4, 2) := by decide +kernel
theorem dX7_miss_40 : decode cX7_miss 40 = .ok (.iload_n 1, 1) := by decide +kernel
theorem dX7_miss_41 : decode cX7_miss 41 = .ok (.invokevirtual 230, 3) := by decide +kernel
theorem dX7_miss_44 : decode cX7_miss 44 = .ok (.istore 5, 2) := by decide +kernel
theorem dX7_miss_46 : decode cX7_miss 46 = .ok (.iload 5, 2) := by decide +kernel
theorem dX7_miss_48 : decode cX7_miss 48 = .ok (.ifCond .eq 10, 3) := by decide +kernel
theorem dX7_miss_51 : decode cX7_miss 51 = .ok (.aload 4, 2) := by decide +kernel
theorem dX7_miss_53 : decode cX7_miss 53 = .ok (.iload_n 1, 1) := by decide +kernel
theorem dX7_miss_54 : decode cX7_miss 54 = .ok (.aconst_null, 1) := by decide +kernel
theorem dX7_miss_55 : decode cX7_miss 55 = .ok (.invokevirtual 239, 3) := by decide +kernel
theorem dX7_miss_58 : decode cX7_miss 58 = .ok (.iload 5, 2) := by decide +kernel
theorem dX7_miss_60 : decode cX7_miss 60 = .ok (.ifCond .eq 29, 3) := by decide +kernel
theorem dX7_miss_63 : decode cX7_miss 63 = .ok (.aload 4, 2) := by decide +kernel
theorem dX7_miss_65 : decode cX7_miss 65 = .ok (.invokevirtual 199, 3) := by decide +kernel
theorem dX7_miss_68 : decode cX7_miss 68 = .ok (.ifCond .eq 21, 3) := by decide +kernel
theorem dX7_miss_71 : decode cX7_miss 71 = .ok (.aload_n 0, 1) := by decide +kernel
theorem dX7_miss_72 : decode cX7_miss 72 = .ok (.getfield 35, 3) := by decide +kernel
theorem dX7_miss_75 : decode cX7_miss 75 = .ok (.iload_n 2, 1) := by decide +kernel
theorem dX7_miss_76 : decode cX7_miss 76 = .ok (.invokevirtual 227, 3) := by decide +kernel
theorem dX7_miss_79 : decode cX7_miss 79 = .ok (.pop, 1) := by decide +kernel
theorem dX7_miss_80 : decode cX7_miss 80 = .ok (.aload_n 0, 1) := by decide +kernel
theorem dX7_miss_81 : decode cX7_miss 81 = .ok (.aload 4, 2) := by decide +kernel
set_option maxRecDepth 100000 in
theorem q1265 : Cond.code yX7_settle cX7_settle 7 none ∈ GT := gt 1265 (rfl) (by decide +kernel)
theorem M_X7_settle : MY yX7_settle cX7_settle 7 none 1 := ⟨q1265, q63, by decide +kernel, by decide +kernel⟩
set_option maxRecDepth 100000 in
theorem q1263 : Cond.instanceMethod yX7_settle ∈ GT := gt 1263 (by decide +kernel) (by decide +kernel)
set_option maxRecDepth 100000 in
theorem q1264 : Cond.selects RX7 yX7_settle yX7_settle ∈ GT := gt 1264 (by decide +kernel) (by decide +kernel)
set_option maxRecDepth 100000 in
theorem q1262 : Cond.methodLink RX7 243 yX7_settle ∈ GT := gt 1262 (by decide +kernel) (by decide +kernel)
theorem dX7_miss_83 : decode cX7_miss 83 = .ok (.invokevirtual 243, 3) := by decide +kernel
theorem dX7_miss_86 : decode cX7_miss 86 = .ok (.goto 6, 3) := by decide +kernel
theorem dX7_miss_89 : decode cX7_miss 89 = .ok (.iinc 2 1, 3) := by decide +kernel
theorem dX7_miss_92 : decode cX7_miss 92 = .ok (.iinc 3 (-1), 3) := by decide +kernel
theorem dX7_miss_95 : decode cX7_miss 95 = .ok (.goto (-85), 3) := by decide +kernel
set_option maxHeartbeats 4000000 in
set_option maxRecDepth 100000 in
theorem w_X7_miss_92 {p : Program} {l : Launch} {e : Env} {R : Room} {s : State} {m : MethodId} {args : Array Value} {below : List Frame} {meth : Method} {c : Code} {G : Gt} {ρ0 : Int → Nat} {M0 : Mo} {res : RS} (F : Fx p l R s m args meth c cX7_miss 6 RX7 G M0 10 none) (hno : ∀ x ∈ c.exceptionTable.toList, False) (hnm : meth.name = yX7_miss.name) (k10 : Int → Int → Int → Int → Mo → Option RS) (hk10 : ∀ (x0 x1 x2 x3 : Int) (M : Mo), k10 x0 x1 x2 x3 M = some res → J p l e R s m args below meth c 6 G ρ0 M0 0 res M 10 [(0, (false, x0)), (1, (true, x1)), (2, (true, x2)), (3, (true, x3))] []) (x0 x1 x2 x3 : Int) (M : Mo) (h : X7_miss_92 k10 x0 x1 x2 x3 M = some res) : J p l e R s m args below meth c 6 G ρ0 M0 0 res M 92 [(0, (false, x0)), (1, (true, x1)), (2, (true, x2)), (3, (true, x3))] [] := by
  unfold X7_miss_92 at h
  refine j_iinc F 3 (lv' := [(3, (true, (x3 + (-1)))), (0, (false, x0)), (1, (true, x1)), (2, (true, x2))]) rfl (by decide) rfl dX7_miss_92 ?_
  refine j_goto F 10 (by decide) dX7_miss_95 ?_
  refine j_sub (lv' := [(0, (false, x0)), (1, (true, x1)), (2, (true, x2)), (3, (true, (x3 + (-1))))]) [1, 2, 3, 0] rfl ?_
  exact hk10 x0 x1 x2 (x3 + (-1)) M h
set_option maxHeartbeats 4000000 in
set_option maxRecDepth 100000 in
theorem w_X7_miss_89 {p : Program} {l : Launch} {e : Env} {R : Room} {s : State} {m : MethodId} {args : Array Value} {below : List Frame} {meth : Method} {c : Code} {G : Gt} {ρ0 : Int → Nat} {M0 : Mo} {res : RS} (F : Fx p l R s m args meth c cX7_miss 6 RX7 G M0 10 none) (hno : ∀ x ∈ c.exceptionTable.toList, False) (hnm : meth.name = yX7_miss.name) (k10 : Int → Int → Int → Int → Mo → Option RS) (hk10 : ∀ (x0 x1 x2 x3 : Int) (M : Mo), k10 x0 x1 x2 x3 M = some res → J p l e R s m args below meth c 6 G ρ0 M0 0 res M 10 [(0, (false, x0)), (1, (true, x1)), (2, (true, x2)), (3, (true, x3))] []) (x0 x1 x2 x3 : Int) (M : Mo) (h : X7_miss_89 k10 x0 x1 x2 x3 M = some res) : J p l e R s m args below meth c 6 G ρ0 M0 0 res M 89 [(0, (false, x0)), (1, (true, x1)), (2, (true, x2)), (3, (true, x3))] [] := by
  unfold X7_miss_89 at h
  refine j_iinc F 2 (lv' := [(2, (true, (x2 + 1))), (0, (false, x0)), (1, (true, x1)), (3, (true, x3))]) rfl (by decide) rfl dX7_miss_89 ?_
  refine j_sub (lv' := [(0, (false, x0)), (1, (true, x1)), (2, (true, (x2 + 1))), (3, (true, x3))]) [1, 2, 0, 3] rfl ?_
  exact w_X7_miss_92 F hno hnm k10 hk10 x0 x1 (x2 + 1) x3 M h
set_option maxHeartbeats 4000000 in
set_option maxRecDepth 100000 in
theorem w_X7_miss_58 {p : Program} {l : Launch} {e : Env} {R : Room} {s : State} {m : MethodId} {args : Array Value} {below : List Frame} {meth : Method} {c : Code} {G : Gt} {ρ0 : Int → Nat} {M0 : Mo} {res : RS} (F : Fx p l R s m args meth c cX7_miss 6 RX7 G M0 10 none) (hno : ∀ x ∈ c.exceptionTable.toList, False) (hnm : meth.name = yX7_miss.name) (k10 : Int → Int → Int → Int → Mo → Option RS) (hk10 : ∀ (x0 x1 x2 x3 : Int) (M : Mo), k10 x0 x1 x2 x3 M = some res → J p l e R s m args below meth c 6 G ρ0 M0 0 res M 10 [(0, (false, x0)), (1, (true, x1)), (2, (true, x2)), (3, (true, x3))] []) (x0 x1 x2 x3 x4 x5 : Int) (M : Mo) (h : X7_miss_58 k10 x0 x1 x2 x3 x4 x5 M = some res) : J p l e R s m args below meth c 6 G ρ0 M0 0 res M 58 [(0, (false, x0)), (1, (true, x1)), (2, (true, x2)), (3, (true, x3)), (4, (false, x4)), (5, (true, x5))] [] := by
  unfold X7_miss_58 at h
  refine j_iload F 5 rfl dX7_miss_58 ?_
  refine j_if_eq F 89 (by decide) dX7_miss_60 h (fun h => ?_) (fun h => ?_)
  · skip
    refine j_sub (lv' := [(0, (false, x0)), (1, (true, x1)), (2, (true, x2)), (3, (true, x3))]) [0, 1, 2, 3] rfl ?_
    exact w_X7_miss_89 F hno hnm k10 hk10 x0 x1 x2 x3 M h
  · skip
    refine j_aload F 4 rfl dX7_miss_63 ?_
    obtain ⟨g4, h⟩ := gua h
    refine j_callV (d' := 0) (argl := []) (rk9 := 1) (st := []) F hno M_X8_isComplete q1258 q1259 q1257 ⟨by decide, by decide⟩ (Nat.le_of_ble_eq_true rfl) (by decide) (ci := 9) rfl (by decide) g4 dX7_miss_65 rfl h (fun z hz => c_X8_isComplete l F.ht G x4 M z hz) (fun v1 M2 h kl3 => ?_)
    refine j_st (st' := [(true, v1)]) rfl ?_
    refine j_if_eq F 89 (by decide) dX7_miss_68 h (fun h => ?_) (fun h => ?_)
    · skip
      refine j_sub (lv' := [(0, (false, x0)), (1, (true, x1)), (2, (true, x2)), (3, (true, x3))]) [0, 1, 2, 3] rfl ?_
      exact w_X7_miss_89 F hno hnm k10 hk10 x0 x1 x2 x3 M2 h
    · skip
      refine j_aload_n F 0 rfl rfl dX7_miss_71 ?_
      obtain ⟨g5, h⟩ := gua h
      refine j_get F ft_X7_35 rfl g5 dX7_miss_72 ?_
      refine j_iload_n F 2 rfl rfl dX7_miss_75 ?_
      obtain ⟨g9, h⟩ := gua h
      refine j_callV (d' := 2) (argl := [(true, x2)]) (rk9 := 2) (st := []) F hno M_Jx4a65c_remove_915e3 q1102 q1103 q1261 ⟨by decide, by decide⟩ (Nat.le_of_ble_eq_true rfl) (by decide) (ci := 0) rfl (by decide) g9 dX7_miss_76 rfl h (fun z hz => c_Jx4a65c_remove_915e3 l F.ht G (fd M2 8 7 x0) x2 M2 z hz) (fun v6 M7 h kl8 => ?_)
      refine j_st (st' := [(false, v6)]) rfl ?_
      refine j_pop F dX7_miss_79 ?_
      refine j_aload_n F 0 rfl rfl dX7_miss_80 ?_
      refine j_aload F 4 rfl dX7_miss_81 ?_
      refine j_callV (d' := 9) (argl := [(false, x4)]) (rk9 := 0) (st := []) F hno M_X7_settle q1263 q1264 q1262 ⟨by decide, by decide⟩ (Nat.le_of_ble_eq_true rfl) (by decide) (ci := 8) rfl (by decide) (kl8.is g5) dX7_miss_83 rfl h (fun z hz => c_X7_settle l F.ht G x0 x4 M7 z hz) (fun v10 M11 h kl12 => ?_)
      refine j_st (st' := []) rfl ?_
      refine j_goto F 92 (by decide) dX7_miss_86 ?_
      refine j_sub (lv' := [(0, (false, x0)), (1, (true, x1)), (2, (true, x2)), (3, (true, x3))]) [0, 1, 2, 3] rfl ?_
      exact w_X7_miss_92 F hno hnm k10 hk10 x0 x1 x2 x3 M11 h
set_option maxHeartbeats 4000000 in
set_option maxRecDepth 100000 in
theorem w_X7_miss_10 {p : Program} {l : Launch} {e : Env} {R : Room} {s : State} {m : MethodId} {args : Array Value} {below : List Frame} {meth : Method} {c : Code} {G : Gt} {ρ0 : Int → Nat} {M0 : Mo} {res : RS} (F : Fx p l R s m args meth c cX7_miss 6 RX7 G M0 10 none) (hno : ∀ x ∈ c.exceptionTable.toList, False) (hnm : meth.name = yX7_miss.name) (n : Nat) : ∀ (x0 x1 x2 x3 : Int) (M : Mo), X7_miss_10 n x0 x1 x2 x3 M = some res → J p l e R s m args below meth c 6 G ρ0 M0 0 res M 10 [(0, (false, x0)), (1, (true, x1)), (2, (true, x2)), (3, (true, x3))] [] := by
  induction n with
  | zero => intro x0 x1 x2 x3 M h; cases h
  | succ n ih =>
    intro x0 x1 x2 x3 M h
    rw [X7_miss_10] at h
    refine j_iload_n F 3 rfl rfl dX7_miss_10 ?_
    refine j_if_le F 98 (by decide) dX7_miss_11 h (fun h => ?_) (fun h => ?_)
    · skip
      exact j_vret F (v := 0) h dX7_miss_98
    · skip
      refine j_iload_n F 2 rfl rfl dX7_miss_14 ?_
      refine j_aload_n F 0 rfl rfl dX7_miss_15 ?_
      obtain ⟨g1, h⟩ := gua h
      refine j_get F ft_X7_35 rfl g1 dX7_miss_16 ?_
      obtain ⟨g5, h⟩ := gua h
      refine j_callV (d' := 0) (argl := []) (rk9 := 1) (st := [(true, x2)]) F hno M_Jx4a65c_size_8abf5 q448 q449 q1246 ⟨by decide, by decide⟩ (Nat.le_of_ble_eq_true rfl) (by decide) (ci := 0) rfl (by decide) g5 dX7_miss_19 rfl h (fun z hz => c_Jx4a65c_size_8abf5 l F.ht G (fd M 8 7 x0) M z hz) (fun v2 M3 h kl4 => ?_)
      refine j_st (st' := [(true, v2), (true, x2)]) rfl ?_
      refine j_icmp_ge F 98 (by decide) dX7_miss_22 h (fun h => ?_) (fun h => ?_)
      · skip
        exact j_vret F (v := 0) h dX7_miss_98
      · skip
        refine j_aload_n F 0 rfl rfl dX7_miss_25 ?_
        refine j_get F ft_X7_35 rfl (kl4.is g1) dX7_miss_26 ?_
        refine j_iload_n F 2 rfl rfl dX7_miss_29 ?_
        obtain ⟨g9, h⟩ := gua h
        refine j_callV (d' := 2) (argl := [(true, x2)]) (rk9 := 2) (st := []) F hno M_Jx4a65c_get_915e3 q856 q857 q1247 ⟨by decide, by decide⟩ (Nat.le_of_ble_eq_true rfl) (by decide) (ci := 0) rfl (by decide) g9 dX7_miss_30 rfl h (fun z hz => c_Jx4a65c_get_915e3 l F.ht G (fd M3 8 7 x0) x2 M3 z hz) (fun v6 M7 h kl8 => ?_)
        refine j_st (st' := [(false, v6)]) rfl ?_
        obtain ⟨g10, h⟩ := gua h
        refine j_cast F q1248 rfl (by decide) g10 dX7_miss_33 ?_
        refine j_astore F (lv' := [(4, (false, v6)), (0, (false, x0)), (1, (true, x1)), (2, (true, x2)), (3, (true, x3))]) (by decide) rfl dX7_miss_36 ?_
        refine j_aload F 0 rfl dX7_miss_38 ?_
        refine j_iload_n F 2 rfl rfl dX7_miss_40 ?_
        obtain ⟨g14, h⟩ := gua h
        refine j_callV (d' := 0) (argl := [(true, x1)]) (rk9 := 1) (st := []) F hno M_X8_waitsFor q1250 q1251 q1249 ⟨by decide, by decide⟩ (Nat.le_of_ble_eq_true rfl) (by decide) (ci := 9) rfl (by decide) g14 dX7_miss_41 rfl h (fun z hz => c_X8_waitsFor l F.ht G v6 x1 M7 z hz) (fun v11 M12 h kl13 => ?_)
        refine j_st (st' := [(true, v11)]) rfl ?_
        refine j_istore F (lv' := [(5, (true, v11)), (4, (false, v6)), (0, (false, x0)), (1, (true, x1)), (2, (true, x2)), (3, (true, x3))]) (by decide) rfl dX7_miss_44 ?_
        refine j_iload F 0 rfl dX7_miss_46 ?_
        refine j_if_eq F 58 (by decide) dX7_miss_48 h (fun h => ?_) (fun h => ?_)
        · skip
          refine j_sub (lv' := [(0, (false, x0)), (1, (true, x1)), (2, (true, x2)), (3, (true, x3)), (4, (false, v6)), (5, (true, v11))]) [2, 3, 4, 5, 1, 0] rfl ?_
          exact w_X7_miss_58 F hno hnm (X7_miss_10 n) ih x0 x1 x2 x3 v6 v11 M12 h
        · skip
          refine j_aload F 1 rfl dX7_miss_51 ?_
          refine j_iload_n F 3 rfl rfl dX7_miss_53 ?_
          refine j_null F dX7_miss_54 ?_
          refine j_callV (d' := 0) (argl := [(true, x1), (false, 0)]) (rk9 := 0) (st := []) F hno M_X8_note q1254 q1255 q1253 ⟨by decide, by decide⟩ (Nat.le_of_ble_eq_true rfl) (by decide) (ci := 9) rfl (by decide) (kl13.is g14) dX7_miss_55 rfl h (fun z hz => c_X8_note l F.ht G v6 x1 0 M12 z hz) (fun v15 M16 h kl17 => ?_)
          refine j_st (st' := []) rfl ?_
          refine j_sub (lv' := [(0, (false, x0)), (1, (true, x1)), (2, (true, x2)), (3, (true, x3)), (4, (false, v6)), (5, (true, v11))]) [2, 3, 4, 5, 1, 0] rfl ?_
          exact w_X7_miss_58 F hno hnm (X7_miss_10 n) ih x0 x1 x2 x3 v6 v11 M16 h
set_option maxHeartbeats 4000000 in
set_option maxRecDepth 100000 in
theorem w_X7_miss_0 {p : Program} {l : Launch} {e : Env} {R : Room} {s : State} {m : MethodId} {args : Array Value} {below : List Frame} {meth : Method} {c : Code} {G : Gt} {ρ0 : Int → Nat} {M0 : Mo} {res : RS} (F : Fx p l R s m args meth c cX7_miss 6 RX7 G M0 10 none) (hno : ∀ x ∈ c.exceptionTable.toList, False) (hnm : meth.name = yX7_miss.name) (x0 x1 : Int) (M : Mo) (h : X7_miss x0 x1 M = some res) : J p l e R s m args below meth c 6 G ρ0 M0 0 res M 0 [(0, (false, x0)), (1, (true, x1))] [] := by
  unfold X7_miss at h
  refine j_iconst F dX7_miss_0 ?_
  refine j_istore_n F (lv' := [(2, (true, 0)), (0, (false, x0)), (1, (true, x1))]) rfl (by decide) rfl dX7_miss_1 ?_
  refine j_aload_n F 1 rfl rfl dX7_miss_2 ?_
  obtain ⟨g1, h⟩ := gua h
  refine j_get F ft_X7_35 rfl g1 dX7_miss_3 ?_
  obtain ⟨g5, h⟩ := gua h
  refine j_callV (d' := 0) (argl := []) (rk9 := 1) (st := []) F hno M_Jx4a65c_size_8abf5 q448 q449 q1246 ⟨by decide, by decide⟩ (Nat.le_of_ble_eq_true rfl) (by decide) (ci := 0) rfl (by decide) g5 dX7_miss_6 rfl h (fun z hz => c_Jx4a65c_size_8abf5 l F.ht G (fd M 8 7 x0) M z hz) (fun v2 M3 h kl4 => ?_)
  refine j_st (st' := [(true, v2)]) rfl ?_
  refine j_istore_n F (lv' := [(3, (true, v2)), (2, (true, 0)), (0, (false, x0)), (1, (true, x1))]) rfl (by decide) rfl dX7_miss_9 ?_
  refine j_sub (lv' := [(0, (false, x0)), (1, (true, x1)), (2, (true, 0)), (3, (true, v2))]) [2, 3, 1, 0] rfl ?_
  exact w_X7_miss_10 F hno hnm FU x0 x1 0 v2 M3 h
theorem c_X7_miss (l : Launch) (hl : l.stackTraces = false) (G : Gt) (x0 x1 : Int) (M : Mo) (z : RS) (h : X7_miss x0 x1 M = some z) : CT l G yX7_miss (cn yX7_miss cX7_miss 6 none) 10 [(false, x0), (true, x1)] M 0 z :=
  ctOf hl (by decide) (Nat.le_of_ble_eq_true rfl) (fun p e R s m args below meth c ρ F hno hnm => w_X7_miss_0 F hno hnm x0 x1 M h)
theorem dX7_giveCopies_0 : decode cX7_giveCopies 0 = .ok (.iconst 0, 1) := by decide +kernel
theorem dX7_giveCopies_1 : decode cX7_giveCopies 1 = .ok (.istore_n 3, 1) := by decide +kernel
theorem dX7_giveCopies_2 : decode cX7_giveCopies 2 = .ok (.iconst 0, 1) := by decide +kernel
theorem dX7_giveCopies_3 : decode cX7_giveCopies 3 = .ok (.istore 4, 2) := by decide +kernel
theorem dX7_giveCopies_5 : decode cX7_giveCopies 5 = .ok (.iload 4, 2) := by decide +kernel
theorem dX7_giveCopies_7 : decode cX7_giveCopies 7 = .ok (.aload_n 0, 1) := by decide +kernel
theorem dX7_giveCopies_8 : decode cX7_giveCopies 8 = .ok (.getfield 54, 3) := by decide +kernel
set_option maxRecDepth 100000 in
theorem q1340 : Cond.methodLink RX7 247 yX4_size ∈ GT := gt 1340 (by decide +kernel) (by decide +kernel)
theorem dX7_giveCopies_11 : decode cX7_giveCopies 11 = .ok (.invokevirtual 247, 3) := by decide +kernel
theorem dX7_giveCopies_14 : decode cX7_giveCopies 14 = .ok (.if_icmp .ge 113, 3) := by decide +kernel
theorem dX7_giveCopies_127 : decode cX7_giveCopies 127 = .ok (.iload_n 3, 1) := by decide +kernel
theorem dX7_giveCopies_128 : decode cX7_giveCopies 128 = .ok (.ireturn, 1) := by decide +kernel
theorem dX7_giveCopies_17 : decode cX7_giveCopies 17 = .ok (.aload_n 0, 1) := by decide +kernel
theorem dX7_giveCopies_18 : decode cX7_giveCopies 18 = .ok (.iload 4, 2) := by decide +kernel
theorem dX7_giveCopies_20 : decode cX7_giveCopies 20 = .ok (.invokevirtual 125, 3) := by decide +kernel
theorem dX7_giveCopies_23 : decode cX7_giveCopies 23 = .ok (.astore 5, 2) := by decide +kernel
theorem dX7_giveCopies_25 : decode cX7_giveCopies 25 = .ok (.aload 5, 2) := by decide +kernel
theorem dX7_giveCopies_27 : decode cX7_giveCopies 27 = .ok (.invokevirtual 71, 3) := by decide +kernel
theorem dX7_giveCopies_30 : decode cX7_giveCopies 30 = .ok (.ifCond .eq 91, 3) := by decide +kernel
theorem dX7_giveCopies_33 : decode cX7_giveCopies 33 = .ok (.aload_n 2, 1) := by decide +kernel
theorem dX7_giveCopies_34 : decode cX7_giveCopies 34 = .ok (.aload_n 0, 1) := by decide +kernel
theorem dX7_giveCopies_35 : decode cX7_giveCopies 35 = .ok (.getfield 54, 3) := by decide +kernel
theorem dX7_giveCopies_38 : decode cX7_giveCopies 38 = .ok (.iload 4, 2) := by decide +kernel
theorem dX7_giveCopies_40 : decode cX7_giveCopies 40 = .ok (.invokevirtual 143, 3) := by decide +kernel
theorem dX7_giveCopies_43 : decode cX7_giveCopies 43 = .ok (.invokevirtual 163, 3) := by decide +kernel
theorem dX7_giveCopies_46 : decode cX7_giveCopies 46 = .ok (.ifCond .eq 75, 3) := by decide +kernel
theorem dX7_giveCopies_49 : decode cX7_giveCopies 49 = .ok (.new 80, 3) := by decide +kernel
theorem dX7_giveCopies_52 : decode cX7_giveCopies 52 = .ok (.dup, 1) := by decide +kernel
theorem dX7_giveCopies_53 : decode cX7_giveCopies 53 = .ok (.iconst 0, 1) := by decide +kernel
theorem dX7_giveCopies_54 : decode cX7_giveCopies 54 = .ok (.iload 4, 2) := by decide +kernel
theorem dX7_giveCopies_56 : decode cX7_giveCopies 56 = .ok (.invokespecial 206, 3) := by decide +kernel
theorem dX7_giveCopies_59 : decode cX7_giveCopies 59 = .ok (.astore 6, 2) := by decide +kernel
theorem dX7_giveCopies_61 : decode cX7_giveCopies 61 = .ok (.aload 6, 2) := by decide +kernel
theorem dX7_giveCopies_63 : decode cX7_giveCopies 63 = .ok (.aload 5, 2) := by decide +kernel
set_option maxRecDepth 100000 in
theorem q208 : Cond.fieldLink RX7 248 "ToolPlex$Copy" "editor" "I" ∈ GT := gt 208 (by decide +kernel) (by decide +kernel)
theorem ft_X7_248 : FT RX7 248 RX2 3 RX2 TX2 7 6 := ⟨rfl, by decide, by decide, q208, Or.inl rfl, inGX2⟩
theorem dX7_giveCopies_65 : decode cX7_giveCopies 65 = .ok (.getfield 248, 3) := by decide +kernel
theorem dX7_giveCopies_68 : decode cX7_giveCopies 68 = .ok (.putfield 111, 3) := by decide +kernel
theorem dX7_giveCopies_71 : decode cX7_giveCopies 71 = .ok (.aload 6, 2) := by decide +kernel
theorem dX7_giveCopies_73 : decode cX7_giveCopies 73 = .ok (.aload 5, 2) := by decide +kernel
theorem dX7_giveCopies_75 : decode cX7_giveCopies 75 = .ok (.getfield 129, 3) := by decide +kernel
theorem dX7_giveCopies_78 : decode cX7_giveCopies 78 = .ok (.putfield 104, 3) := by decide +kernel
theorem dX7_giveCopies_81 : decode cX7_giveCopies 81 = .ok (.aload 6, 2) := by decide +kernel
set_option maxRecDepth 100000 in
theorem q1346 : Cond.classLink RX7 249 RX10 ∈ GT := gt 1346 (by decide +kernel) (by decide +kernel)
theorem dX7_giveCopies_83 : decode cX7_giveCopies 83 = .ok (.new 249, 3) := by decide +kernel
theorem dX7_giveCopies_86 : decode cX7_giveCopies 86 = .ok (.dup, 1) := by decide +kernel
set_option maxRecDepth 100000 in
theorem q1347 : Cond.methodLinkNest RX7 251 yX10_init "ToolPlex" ∈ GT := gt 1347 (by decide +kernel) (by decide +kernel)
theorem dX7_giveCopies_87 : decode cX7_giveCopies 87 = .ok (.invokespecial 251, 3) := by decide +kernel
theorem dX7_giveCopies_90 : decode cX7_giveCopies 90 = .ok (.putfield 107, 3) := by decide +kernel
theorem dX7_giveCopies_93 : decode cX7_giveCopies 93 = .ok (.aload 6, 2) := by decide +kernel
theorem dX7_giveCopies_95 : decode cX7_giveCopies 95 = .ok (.getfield 107, 3) := by decide +kernel
theorem dX7_giveCopies_98 : decode cX7_giveCopies 98 = .ok (.aload 5, 2) := by decide +kernel
theorem dX7_giveCopies_100 : decode cX7_giveCopies 100 = .ok (.getfield 252, 3) := by decide +kernel
set_option maxRecDepth 100000 in
theorem q1348 : Cond.methodLink RX7 253 yX10_takeAll ∈ GT := gt 1348 (by decide +kernel) (by decide +kernel)
theorem dX7_giveCopies_103 : decode cX7_giveCopies 103 = .ok (.invokevirtual 253, 3) := by decide +kernel
theorem dX7_giveCopies_106 : decode cX7_giveCopies 106 = .ok (.aload_n 0, 1) := by decide +kernel
theorem dX7_giveCopies_107 : decode cX7_giveCopies 107 = .ok (.iconst 2, 1) := by decide +kernel
theorem dX7_giveCopies_108 : decode cX7_giveCopies 108 = .ok (.iload_n 1, 1) := by decide +kernel
theorem dX7_giveCopies_109 : decode cX7_giveCopies 109 = .ok (.iadd, 1) := by decide +kernel
theorem dX7_giveCopies_110 : decode cX7_giveCopies 110 = .ok (.invokevirtual 167, 3) := by decide +kernel
theorem dX7_giveCopies_113 : decode cX7_giveCopies 113 = .ok (.aload 6, 2) := by decide +kernel
theorem dX7_giveCopies_115 : decode cX7_giveCopies 115 = .ok (.invokevirtual 171, 3) := by decide +kernel
theorem dX7_giveCopies_118 : decode cX7_giveCopies 118 = .ok (.iinc 3 1, 3) := by decide +kernel
theorem dX7_giveCopies_121 : decode cX7_giveCopies 121 = .ok (.iinc 4 1, 3) := by decide +kernel
theorem dX7_giveCopies_124 : decode cX7_giveCopies 124 = .ok (.goto (-119), 3) := by decide +kernel
set_option maxHeartbeats 4000000 in
set_option maxRecDepth 100000 in
theorem w_X7_giveCopies_121 {p : Program} {l : Launch} {e : Env} {R : Room} {s : State} {m : MethodId} {args : Array Value} {below : List Frame} {meth : Method} {c : Code} {G : Gt} {ρ0 : Int → Nat} {M0 : Mo} {res : RS} (F : Fx p l R s m args meth c cX7_giveCopies 7 RX7 G M0 8 (some FieldType.int)) (hno : ∀ x ∈ c.exceptionTable.toList, False) (hnm : meth.name = yX7_giveCopies.name) (k5 : Int → Int → Int → Int → Int → Mo → Option RS) (hk5 : ∀ (x0 x1 x2 x3 x4 : Int) (M : Mo), k5 x0 x1 x2 x3 x4 M = some res → J p l e R s m args below meth c 7 G ρ0 M0 1 res M 5 [(0, (false, x0)), (1, (true, x1)), (2, (false, x2)), (3, (true, x3)), (4, (true, x4))] []) (x0 x1 x2 x3 x4 : Int) (M : Mo) (h : X7_giveCopies_121 k5 x0 x1 x2 x3 x4 M = some res) : J p l e R s m args below meth c 7 G ρ0 M0 1 res M 121 [(0, (false, x0)), (1, (true, x1)), (2, (false, x2)), (3, (true, x3)), (4, (true, x4))] [] := by
  unfold X7_giveCopies_121 at h
  refine j_iinc F 4 (lv' := [(4, (true, (x4 + 1))), (0, (false, x0)), (1, (true, x1)), (2, (false, x2)), (3, (true, x3))]) rfl (by decide) rfl dX7_giveCopies_121 ?_
  refine j_goto F 5 (by decide) dX7_giveCopies_124 ?_
  refine j_sub (lv' := [(0, (false, x0)), (1, (true, x1)), (2, (false, x2)), (3, (true, x3)), (4, (true, (x4 + 1)))]) [1, 2, 3, 4, 0] rfl ?_
  exact hk5 x0 x1 x2 x3 (x4 + 1) M h
set_option maxHeartbeats 4000000 in
set_option maxRecDepth 100000 in
theorem w_X7_giveCopies_5 {p : Program} {l : Launch} {e : Env} {R : Room} {s : State} {m : MethodId} {args : Array Value} {below : List Frame} {meth : Method} {c : Code} {G : Gt} {ρ0 : Int → Nat} {M0 : Mo} {res : RS} (F : Fx p l R s m args meth c cX7_giveCopies 7 RX7 G M0 8 (some FieldType.int)) (hno : ∀ x ∈ c.exceptionTable.toList, False) (hnm : meth.name = yX7_giveCopies.name) (n : Nat) : ∀ (x0 x1 x2 x3 x4 : Int) (M : Mo), X7_giveCopies_5 n x0 x1 x2 x3 x4 M = some res → J p l e R s m args below meth c 7 G ρ0 M0 1 res M 5 [(0, (false, x0)), (1, (true, x1)), (2, (false, x2)), (3, (true, x3)), (4, (true, x4))] [] := by
  induction n with
  | zero => intro x0 x1 x2 x3 x4 M h; cases h
  | succ n ih =>
    intro x0 x1 x2 x3 x4 M h
    rw [X7_giveCopies_5] at h
    refine j_iload F 4 rfl dX7_giveCopies_5 ?_
    refine j_aload_n F 0 rfl rfl dX7_giveCopies_7 ?_
    obtain ⟨g1, h⟩ := gua h
    refine j_get F ft_X7_54 rfl g1 dX7_giveCopies_8 ?_
    obtain ⟨g5, h⟩ := gua h
    refine j_callV (d' := 0) (argl := []) (rk9 := 1) (st := [(true, x4)]) F hno M_X4_size q1044 q1045 q1340 ⟨by decide, by decide⟩ (Nat.le_of_ble_eq_true rfl) (by decide) (ci := 5) rfl (by decide) g5 dX7_giveCopies_11 rfl h (fun z hz => c_X4_size l F.ht G (fd M 8 0 x0) M z hz) (fun v2 M3 h kl4 => ?_)
    refine j_st (st' := [(true, v2), (true, x4)]) rfl ?_
    refine j_icmp_ge F 127 (by decide) dX7_giveCopies_14 h (fun h => ?_) (fun h => ?_)
    · skip
      refine j_iload_n F 3 rfl rfl dX7_giveCopies_127 ?_
      exact j_iret F h dX7_giveCopies_128
    · skip
      refine j_aload_n F 0 rfl rfl dX7_giveCopies_17 ?_
      refine j_iload F 4 rfl dX7_giveCopies_18 ?_
      refine j_callV (d' := 0) (argl := [(true, x4)]) (rk9 := 2) (st := []) F hno M_X7_copyOf q1267 q1268 q1266 ⟨by decide, by decide⟩ (Nat.le_of_ble_eq_true rfl) (by decide) (ci := 8) rfl (by decide) (kl4.is g1) dX7_giveCopies_20 rfl h (fun z hz => c_X7_copyOf l F.ht G x0 x4 M3 z hz) (fun v6 M7 h kl8 => ?_)
      refine j_st (st' := [(false, v6)]) rfl ?_
      refine j_astore F (lv' := [(5, (false, v6)), (0, (false, x0)), (1, (true, x1)), (2, (false, x2)), (3, (true, x3)), (4, (true, x4))]) (by decide) rfl dX7_giveCopies_23 ?_
      refine j_aload F 0 rfl dX7_giveCopies_25 ?_
      obtain ⟨g12, h⟩ := gua h
      refine j_callV (d' := 0) (argl := []) (rk9 := 1) (st := []) F hno M_X2_isHere q468 q469 q467 ⟨by decide, by decide⟩ (Nat.le_of_ble_eq_true rfl) (by decide) (ci := 3) rfl (by decide) g12 dX7_giveCopies_27 rfl h (fun z hz => c_X2_isHere l F.ht G v6 M7 z hz) (fun v9 M10 h kl11 => ?_)
      refine j_st (st' := [(true, v9)]) rfl ?_
      refine j_if_eq F 121 (by decide) dX7_giveCopies_30 h (fun h => ?_) (fun h => ?_)
      · skip
        refine j_sub (lv' := [(0, (false, x0)), (1, (true, x1)), (2, (false, x2)), (3, (true, x3)), (4, (true, x4))]) [1, 2, 3, 4, 5] rfl ?_
        exact w_X7_giveCopies_121 F hno hnm (X7_giveCopies_5 n) ih x0 x1 x2 x3 x4 M10 h
      · skip
        refine j_aload_n F 3 rfl rfl dX7_giveCopies_33 ?_
        refine j_aload_n F 1 rfl rfl dX7_giveCopies_34 ?_
        refine j_get F ft_X7_54 rfl (kl11.is (kl8.is (kl4.is g1))) dX7_giveCopies_35 ?_
        refine j_iload F 5 rfl dX7_giveCopies_38 ?_
        obtain ⟨g16, h⟩ := gua h
        refine j_callV (d' := 1) (argl := [(true, x4)]) (rk9 := 1) (st := [(false, x2)]) F hno M_X4_languageOf q1073 q1074 q1341 ⟨by decide, by decide⟩ (Nat.le_of_ble_eq_true rfl) (by decide) (ci := 5) rfl (by decide) g16 dX7_giveCopies_40 rfl h (fun z hz => c_X4_languageOf l F.ht G (fd M10 8 0 x0) x4 M10 z hz) (fun v13 M14 h kl15 => ?_)
        refine j_st (st' := [(true, v13), (false, x2)]) rfl ?_
        obtain ⟨g20, h⟩ := gua h
        refine j_callV (d' := 0) (argl := [(true, v13)]) (rk9 := 1) (st := []) F hno M_X9_speaks q1343 q1344 q1342 ⟨by decide, by decide⟩ (Nat.le_of_ble_eq_true rfl) (by decide) (ci := 10) rfl (by decide) g20 dX7_giveCopies_43 rfl h (fun z hz => c_X9_speaks l F.ht G x2 v13 M14 z hz) (fun v17 M18 h kl19 => ?_)
        refine j_st (st' := [(true, v17)]) rfl ?_
        refine j_if_eq F 121 (by decide) dX7_giveCopies_46 h (fun h => ?_) (fun h => ?_)
        · skip
          refine j_sub (lv' := [(0, (false, x0)), (1, (true, x1)), (2, (false, x2)), (3, (true, x3)), (4, (true, x4))]) [1, 2, 3, 4, 5] rfl ?_
          exact w_X7_giveCopies_121 F hno hnm (X7_giveCopies_5 n) ih x0 x1 x2 x3 x4 M18 h
        · skip
          obtain ⟨g21, h⟩ := gua h
          refine j_new (ci := 7) F inGX6 tyX6 tyX6_ok q1322 q706 q75 rfl (by decide) dfX6 g21 dX7_giveCopies_49 (fun kl22 => ?_)
          obtain ⟨M23, hM23⟩ : ∃ Z, Z = nO M18 7 17 := ⟨_, rfl⟩
          have g24 : kd M23 (nid M18) = 8 := by rw [hM23]; exact kd_nO
          rw [← hM23] at kl22 ⊢
          replace h := pt_as h hM23
          refine j_dup F dX7_giveCopies_52 ?_
          refine j_iconst F dX7_giveCopies_53 ?_
          refine j_iload F 5 rfl dX7_giveCopies_54 ?_
          refine j_callI (d' := 2) (argl := [(true, 0), (true, x4)]) (rk9 := 0) (st := [(false, (nid M18))]) F M_X6_init q708 rfl q1323 ⟨by decide, by decide⟩ (Nat.le_of_ble_eq_true rfl) (by decide) (by rw [g24]; decide) dX7_giveCopies_56 rfl h (fun z hz => c_X6_init l F.ht G (nid M18) 0 x4 M23 z hz) (fun v25 M26 h kl27 => ?_)
          refine j_st (st' := [(false, (nid M18))]) rfl ?_
          refine j_astore F (lv' := [(6, (false, (nid M18))), (5, (false, v6)), (0, (false, x0)), (1, (true, x1)), (2, (false, x2)), (3, (true, x3)), (4, (true, x4))]) (by decide) rfl dX7_giveCopies_59 ?_
          refine j_aload F 0 rfl dX7_giveCopies_61 ?_
          refine j_aload F 1 rfl dX7_giveCopies_63 ?_
          refine j_get F ft_X7_248 rfl (kl27.is (kl22.is (kl19.is (kl15.is (kl11.is g12))))) dX7_giveCopies_65 ?_
          refine j_put (ty := .int) F ft_X7_111 rfl rfl tyX6 tyX6_ok nmX6 (by decide +kernel) (nf_int _) (kl27.is g24) dX7_giveCopies_68 ?_
          obtain ⟨M28, hM28⟩ : ∃ Z, Z = sF M26 7 2 (nid M18) (fd M26 3 6 v6) := ⟨_, rfl⟩
          have kl29 : kle M26 M28 := by rw [hM28]; exact kle_sF
          rw [← hM28]
          replace h := pt_as h hM28
          refine j_aload F 0 rfl dX7_giveCopies_71 ?_
          refine j_aload F 1 rfl dX7_giveCopies_73 ?_
          refine j_get F ft_X7_129 rfl (kl29.is (kl27.is (kl22.is (kl19.is (kl15.is (kl11.is g12)))))) dX7_giveCopies_75 ?_
          refine j_put (ty := .int) F ft_X7_104 rfl rfl tyX6 tyX6_ok nmX6 (by decide +kernel) (nf_int _) (kl29.is (kl27.is g24)) dX7_giveCopies_78 ?_
          obtain ⟨M30, hM30⟩ : ∃ Z, Z = sF M28 7 5 (nid M18) (fd M28 3 4 v6) := ⟨_, rfl⟩
          have kl31 : kle M28 M30 := by rw [hM30]; exact kle_sF
          rw [← hM30]
          replace h := pt_as h hM30
          refine j_aload F 0 rfl dX7_giveCopies_81 ?_
          obtain ⟨g32, h⟩ := gua h
          refine j_new (ci := 11) F inGX10 tyX10 tyX10_ok q1346 q89 q54 rfl (by decide) dfX10 g32 dX7_giveCopies_83 (fun kl33 => ?_)
          obtain ⟨M34, hM34⟩ : ∃ Z, Z = nO M30 11 2 := ⟨_, rfl⟩
          have g35 : kd M34 (nid M30) = 12 := by rw [hM34]; exact kd_nO
          rw [← hM34] at kl33 ⊢
          replace h := pt_as h hM34
          refine j_dup F dX7_giveCopies_86 ?_
          refine j_callIN (d' := 1) (argl := []) (rk9 := 0) (st := [(false, (nid M30)), (false, (nid M18))]) F M_X10_init q91 rfl q1347 ⟨by decide, by decide⟩ (Nat.le_of_ble_eq_true rfl) (by decide) (by rw [g35]; decide) dX7_giveCopies_87 rfl h (fun z hz => c_X10_init l F.ht G (nid M30) M34 z hz) (fun v36 M37 h kl38 => ?_)
          refine j_st (st' := [(false, (nid M30)), (false, (nid M18))]) rfl ?_
          refine j_put (ty := .object "ToolPlex$Text") F ft_X7_107 rfl rfl tyX6 tyX6_ok nmX6 (by decide +kernel) (nf_ref (Or.inl ⟨_, rfl⟩) _) (kl38.is (kl33.is (kl31.is (kl29.is (kl27.is g24))))) dX7_giveCopies_90 ?_
          obtain ⟨M39, hM39⟩ : ∃ Z, Z = sF M37 7 14 (nid M18) (nid M30) := ⟨_, rfl⟩
          have kl40 : kle M37 M39 := by rw [hM39]; exact kle_sF
          rw [← hM39]
          replace h := pt_as h hM39
          refine j_aload F 0 rfl dX7_giveCopies_93 ?_
          refine j_get F ft_X7_107 rfl (kl40.is (kl38.is (kl33.is (kl31.is (kl29.is (kl27.is g24)))))) dX7_giveCopies_95 ?_
          refine j_aload F 1 rfl dX7_giveCopies_98 ?_
          refine j_get F ft_X7_252 rfl (kl40.is (kl38.is (kl33.is (kl31.is (kl29.is (kl27.is (kl22.is (kl19.is (kl15.is (kl11.is g12)))))))))) dX7_giveCopies_100 ?_
          obtain ⟨g44, h⟩ := gua h
          refine j_callV (d' := 2) (argl := [(false, (fd M39 3 0 v6))]) (rk9 := 0) (st := []) F hno M_X10_takeAll q698 q699 q1348 ⟨by decide, by decide⟩ (Nat.le_of_ble_eq_true rfl) (by decide) (ci := 11) rfl (by decide) g44 dX7_giveCopies_103 rfl h (fun z hz => c_X10_takeAll l F.ht G (fd M39 7 14 (nid M18)) (fd M39 3 0 v6) M39 z hz) (fun v41 M42 h kl43 => ?_)
          refine j_st (st' := []) rfl ?_
          refine j_aload_n F 2 rfl rfl dX7_giveCopies_106 ?_
          refine j_iconst F dX7_giveCopies_107 ?_
          refine j_iload_n F 3 rfl rfl dX7_giveCopies_108 ?_
          refine j_iadd F dX7_giveCopies_109 ?_
          refine j_callV (d' := 0) (argl := [(true, (2 + x1))]) (rk9 := 2) (st := []) F hno M_X7_channelAt q1326 q30 q1324 ⟨by decide, by decide⟩ (Nat.le_of_ble_eq_true rfl) (by decide) (ci := 8) rfl (by decide) (kl43.is (kl40.is (kl38.is (kl33.is (kl31.is (kl29.is (kl27.is (kl22.is (kl19.is (kl15.is (kl11.is (kl8.is (kl4.is g1))))))))))))) dX7_giveCopies_110 rfl h (fun z hz => c_X7_channelAt l F.ht G x0 (2 + x1) M42 z hz) (fun v45 M46 h kl47 => ?_)
          refine j_st (st' := [(false, v45)]) rfl ?_
          refine j_aload F 0 rfl dX7_giveCopies_113 ?_
          obtain ⟨g51, h⟩ := gua h
          refine j_callV (d' := 7) (argl := [(false, (nid M18))]) (rk9 := 0) (st := []) F hno M_X1_send q820 q821 q1328 ⟨by decide, by decide⟩ (Nat.le_of_ble_eq_true rfl) (by decide) (ci := 2) rfl (by decide) g51 dX7_giveCopies_115 rfl h (fun z hz => c_X1_send l F.ht G v45 (nid M18) M46 z hz) (fun v48 M49 h kl50 => ?_)
          refine j_st (st' := []) rfl ?_
          refine j_iinc F 5 (lv' := [(3, (true, (x3 + 1))), (6, (false, (nid M18))), (5, (false, v6)), (0, (false, x0)), (1, (true, x1)), (2, (false, x2)), (4, (true, x4))]) rfl (by decide) rfl dX7_giveCopies_118 ?_
          refine j_sub (lv' := [(0, (false, x0)), (1, (true, x1)), (2, (false, x2)), (3, (true, (x3 + 1))), (4, (true, x4))]) [3, 4, 5, 0, 6] rfl ?_
          exact w_X7_giveCopies_121 F hno hnm (X7_giveCopies_5 n) ih x0 x1 x2 (x3 + 1) x4 M49 h
set_option maxHeartbeats 4000000 in
set_option maxRecDepth 100000 in
theorem w_X7_giveCopies_0 {p : Program} {l : Launch} {e : Env} {R : Room} {s : State} {m : MethodId} {args : Array Value} {below : List Frame} {meth : Method} {c : Code} {G : Gt} {ρ0 : Int → Nat} {M0 : Mo} {res : RS} (F : Fx p l R s m args meth c cX7_giveCopies 7 RX7 G M0 8 (some FieldType.int)) (hno : ∀ x ∈ c.exceptionTable.toList, False) (hnm : meth.name = yX7_giveCopies.name) (x0 x1 x2 : Int) (M : Mo) (h : X7_giveCopies x0 x1 x2 M = some res) : J p l e R s m args below meth c 7 G ρ0 M0 1 res M 0 [(0, (false, x0)), (1, (true, x1)), (2, (false, x2))] [] := by
  unfold X7_giveCopies at h
  refine j_iconst F dX7_giveCopies_0 ?_
  refine j_istore_n F (lv' := [(3, (true, 0)), (0, (false, x0)), (1, (true, x1)), (2, (false, x2))]) rfl (by decide) rfl dX7_giveCopies_1 ?_
  refine j_iconst F dX7_giveCopies_2 ?_
  refine j_istore F (lv' := [(4, (true, 0)), (3, (true, 0)), (0, (false, x0)), (1, (true, x1)), (2, (false, x2))]) (by decide) rfl dX7_giveCopies_3 ?_
  refine j_sub (lv' := [(0, (false, x0)), (1, (true, x1)), (2, (false, x2)), (3, (true, 0)), (4, (true, 0))]) [2, 3, 4, 1, 0] rfl ?_
  exact w_X7_giveCopies_5 F hno hnm FU x0 x1 x2 0 0 M h
theorem c_X7_giveCopies (l : Launch) (hl : l.stackTraces = false) (G : Gt) (x0 x1 x2 : Int) (M : Mo) (z : RS) (h : X7_giveCopies x0 x1 x2 M = some z) : CT l G yX7_giveCopies (cn yX7_giveCopies cX7_giveCopies 7 (some FieldType.int)) 8 [(false, x0), (true, x1), (false, x2)] M 1 z :=
  ctOf hl (by decide) (Nat.le_of_ble_eq_true rfl) (fun p e R s m args below meth c ρ F hno hnm => w_X7_giveCopies_0 F hno hnm x0 x1 x2 M h)
theorem dX7_takeFaults_0 : decode cX7_takeFaults 0 = .ok (.aload_n 2, 1) := by decide +kernel
theorem dX7_takeFaults_1 : decode cX7_takeFaults 1 = .ok (.getfield 101, 3) := by decide +kernel
theorem dX7_takeFaults_4 : decode cX7_takeFaults 4 = .ok (.istore_n 3, 1) := by decide +kernel
theorem dX7_takeFaults_5 : decode cX7_takeFaults 5 = .ok (.aload_n 0, 1) := by decide +kernel
theorem dX7_takeFaults_6 : decode cX7_takeFaults 6 = .ok (.iload_n 3, 1) := by decide +kernel
theorem dX7_takeFaults_7 : decode cX7_takeFaults 7 = .ok (.invokevirtual 125, 3) := by decide +kernel
theorem dX7_takeFaults_10 : decode cX7_takeFaults 10 = .ok (.astore 4, 2) := by decide +kernel
theorem dX7_takeFaults_12 : decode cX7_takeFaults 12 = .ok (.aload 4, 2) := by decide +kernel
theorem dX7_takeFaults_14 : decode cX7_takeFaults 14 = .ok (.invokevirtual 71, 3) := by decide +kernel
theorem dX7_takeFaults_17 : decode cX7_takeFaults 17 = .ok (.ifCond .eq 15, 3) := by decide +kernel
theorem dX7_takeFaults_32 : decode cX7_takeFaults 32 = .ok (.return_, 1) := by decide +kernel
theorem dX7_takeFaults_20 : decode cX7_takeFaults 20 = .ok (.aload_n 2, 1) := by decide +kernel
theorem dX7_takeFaults_21 : decode cX7_takeFaults 21 = .ok (.getfield 104, 3) := by decide +kernel
theorem dX7_takeFaults_24 : decode cX7_takeFaults 24 = .ok (.aload 4, 2) := by decide +kernel
theorem dX7_takeFaults_26 : decode cX7_takeFaults 26 = .ok (.getfield 257, 3) := by decide +kernel
theorem dX7_takeFaults_29 : decode cX7_takeFaults 29 = .ok (.if_icmp .ge 4, 3) := by decide +kernel
theorem dX7_takeFaults_33 : decode cX7_takeFaults 33 = .ok (.iload_n 3, 1) := by decide +kernel
theorem dX7_takeFaults_34 : decode cX7_takeFaults 34 = .ok (.ifCond .lt 18, 3) := by decide +kernel
theorem dX7_takeFaults_52 : decode cX7_takeFaults 52 = .ok (.return_, 1) := by decide +kernel
theorem dX7_takeFaults_37 : decode cX7_takeFaults 37 = .ok (.iload_n 3, 1) := by decide +kernel
theorem dX7_takeFaults_38 : decode cX7_takeFaults 38 = .ok (.bipush 6, 2) := by decide +kernel
theorem dX7_takeFaults_40 : decode cX7_takeFaults 40 = .ok (.if_icmp .ge 12, 3) := by decide +kernel
theorem dX7_takeFaults_43 : decode cX7_takeFaults 43 = .ok (.iload_n 1, 1) := by decide +kernel
theorem dX7_takeFaults_44 : decode cX7_takeFaults 44 = .ok (.ifCond .lt 8, 3) := by decide +kernel
theorem dX7_takeFaults_47 : decode cX7_takeFaults 47 = .ok (.iload_n 1, 1) := by decide +kernel
theorem dX7_takeFaults_48 : decode cX7_takeFaults 48 = .ok (.iconst 3, 1) := by decide +kernel
theorem dX7_takeFaults_49 : decode cX7_takeFaults 49 = .ok (.if_icmp .lt 4, 3) := by decide +kernel
theorem dX7_takeFaults_53 : decode cX7_takeFaults 53 = .ok (.aload 4, 2) := by decide +kernel
theorem dX7_takeFaults_55 : decode cX7_takeFaults 55 = .ok (.aload_n 2, 1) := by decide +kernel
theorem dX7_takeFaults_56 : decode cX7_takeFaults 56 = .ok (.getfield 279, 3) := by decide +kernel
theorem dX7_takeFaults_59 : decode cX7_takeFaults 59 = .ok (.aload_n 2, 1) := by decide +kernel
theorem dX7_takeFaults_60 : decode cX7_takeFaults 60 = .ok (.getfield 104, 3) := by decide +kernel
theorem dX7_takeFaults_63 : decode cX7_takeFaults 63 = .ok (.invokevirtual 293, 3) := by decide +kernel
theorem dX7_takeFaults_66 : decode cX7_takeFaults 66 = .ok (.aload_n 0, 1) := by decide +kernel
theorem dX7_takeFaults_67 : decode cX7_takeFaults 67 = .ok (.getfield 28, 3) := by decide +kernel
theorem dX7_takeFaults_70 : decode cX7_takeFaults 70 = .ok (.iload_n 3, 1) := by decide +kernel
theorem dX7_takeFaults_71 : decode cX7_takeFaults 71 = .ok (.iconst 3, 1) := by decide +kernel
theorem dX7_takeFaults_72 : decode cX7_takeFaults 72 = .ok (.imul, 1) := by decide +kernel
theorem dX7_takeFaults_73 : decode cX7_takeFaults 73 = .ok (.iload_n 1, 1) := by decide +kernel
theorem dX7_takeFaults_74 : decode cX7_takeFaults 74 = .ok (.iadd, 1) := by decide +kernel
theorem dX7_takeFaults_75 : decode cX7_takeFaults 75 = .ok (.aload_n 2, 1) := by decide +kernel
theorem dX7_takeFaults_76 : decode cX7_takeFaults 76 = .ok (.getfield 279, 3) := by decide +kernel
theorem dX7_takeFaults_79 : decode cX7_takeFaults 79 = .ok (.aastore, 1) := by decide +kernel
theorem dX7_takeFaults_80 : decode cX7_takeFaults 80 = .ok (.aload_n 0, 1) := by decide +kernel
theorem dX7_takeFaults_81 : decode cX7_takeFaults 81 = .ok (.getfield 43, 3) := by decide +kernel
theorem dX7_takeFaults_84 : decode cX7_takeFaults 84 = .ok (.invokevirtual 140, 3) := by decide +kernel
theorem dX7_takeFaults_87 : decode cX7_takeFaults 87 = .ok (.iconst 0, 1) := by decide +kernel
theorem dX7_takeFaults_88 : decode cX7_takeFaults 88 = .ok (.istore 5, 2) := by decide +kernel
theorem dX7_takeFaults_90 : decode cX7_takeFaults 90 = .ok (.iload 5, 2) := by decide +kernel
theorem dX7_takeFaults_92 : decode cX7_takeFaults 92 = .ok (.iconst 3, 1) := by decide +kernel
theorem dX7_takeFaults_93 : decode cX7_takeFaults 93 = .ok (.if_icmp .ge 64, 3) := by decide +kernel
theorem dX7_takeFaults_157 : decode cX7_takeFaults 157 = .ok (.new 80, 3) := by decide +kernel
theorem dX7_takeFaults_160 : decode cX7_takeFaults 160 = .ok (.dup, 1) := by decide +kernel
theorem dX7_takeFaults_161 : decode cX7_takeFaults 161 = .ok (.bipush 6, 2) := by decide +kernel
theorem dX7_takeFaults_163 : decode cX7_takeFaults 163 = .ok (.iload_n 3, 1) := by decide +kernel
theorem dX7_takeFaults_164 : decode cX7_takeFaults 164 = .ok (.invokespecial 206, 3) := by decide +kernel
theorem dX7_takeFaults_167 : decode cX7_takeFaults 167 = .ok (.astore 5, 2) := by decide +kernel
theorem dX7_takeFaults_169 : decode cX7_takeFaults 169 = .ok (.aload 5, 2) := by decide +kernel
theorem dX7_takeFaults_171 : decode cX7_takeFaults 171 = .ok (.aload 4, 2) := by decide +kernel
theorem dX7_takeFaults_173 : decode cX7_takeFaults 173 = .ok (.getfield 129, 3) := by decide +kernel
theorem dX7_takeFaults_176 : decode cX7_takeFaults 176 = .ok (.putfield 104, 3) := by decide +kernel
theorem dX7_takeFaults_179 : decode cX7_takeFaults 179 = .ok (.aload 5, 2) := by decide +kernel
theorem dX7_takeFaults_181 : decode cX7_takeFaults 181 = .ok (.aload_n 0, 1) := by decide +kernel
theorem dX7_takeFaults_182 : decode cX7_takeFaults 182 = .ok (.getfield 43, 3) := by decide +kernel
theorem dX7_takeFaults_185 : decode cX7_takeFaults 185 = .ok (.invokevirtual 275, 3) := by decide +kernel
theorem dX7_takeFaults_188 : decode cX7_takeFaults 188 = .ok (.putfield 279, 3) := by decide +kernel
theorem dX7_takeFaults_191 : decode cX7_takeFaults 191 = .ok (.aload_n 0, 1) := by decide +kernel
theorem dX7_takeFaults_192 : decode cX7_takeFaults 192 = .ok (.bipush 8, 2) := by decide +kernel
theorem dX7_takeFaults_194 : decode cX7_takeFaults 194 = .ok (.aload 4, 2) := by decide +kernel
theorem dX7_takeFaults_196 : decode cX7_takeFaults 196 = .ok (.getfield 248, 3) := by decide +kernel
theorem dX7_takeFaults_199 : decode cX7_takeFaults 199 = .ok (.iadd, 1) := by decide +kernel
theorem dX7_takeFaults_200 : decode cX7_takeFaults 200 = .ok (.invokevirtual 167, 3) := by decide +kernel
theorem dX7_takeFaults_203 : decode cX7_takeFaults 203 = .ok (.aload 5, 2) := by decide +kernel
theorem dX7_takeFaults_205 : decode cX7_takeFaults 205 = .ok (.invokevirtual 171, 3) := by decide +kernel
theorem dX7_takeFaults_208 : decode cX7_takeFaults 208 = .ok (.return_, 1) := by decide +kernel
theorem dX7_takeFaults_96 : decode cX7_takeFaults 96 = .ok (.aload_n 0, 1) := by decide +kernel
theorem dX7_takeFaults_97 : decode cX7_takeFaults 97 = .ok (.getfield 28, 3) := by decide +kernel
theorem dX7_takeFaults_100 : decode cX7_takeFaults 100 = .ok (.iload_n 3, 1) := by decide +kernel
theorem dX7_takeFaults_101 : decode cX7_takeFaults 101 = .ok (.iconst 3, 1) := by decide +kernel
theorem dX7_takeFaults_102 : decode cX7_takeFaults 102 = .ok (.imul, 1) := by decide +kernel
theorem dX7_takeFaults_103 : decode cX7_takeFaults 103 = .ok (.iload 5, 2) := by decide +kernel
theorem dX7_takeFaults_105 : decode cX7_takeFaults 105 = .ok (.iadd, 1) := by decide +kernel
theorem dX7_takeFaults_106 : decode cX7_takeFaults 106 = .ok (.aaload, 1) := by decide +kernel
theorem dX7_takeFaults_107 : decode cX7_takeFaults 107 = .ok (.astore 6, 2) := by decide +kernel
theorem dX7_takeFaults_109 : decode cX7_takeFaults 109 = .ok (.iconst 0, 1) := by decide +kernel
theorem dX7_takeFaults_110 : decode cX7_takeFaults 110 = .ok (.istore 7, 2) := by decide +kernel
theorem dX7_takeFaults_112 : decode cX7_takeFaults 112 = .ok (.iload 7, 2) := by decide +kernel
theorem dX7_takeFaults_114 : decode cX7_takeFaults 114 = .ok (.aload 6, 2) := by decide +kernel
theorem dX7_takeFaults_116 : decode cX7_takeFaults 116 = .ok (.invokevirtual 297, 3) := by decide +kernel
theorem dX7_takeFaults_119 : decode cX7_takeFaults 119 = .ok (.if_icmp .ge 32, 3) := by decide +kernel
theorem dX7_takeFaults_151 : decode cX7_takeFaults 151 = .ok (.iinc 5 1, 3) := by decide +kernel
theorem dX7_takeFaults_154 : decode cX7_takeFaults 154 = .ok (.goto (-64), 3) := by decide +kernel
theorem dX7_takeFaults_122 : decode cX7_takeFaults 122 = .ok (.aload_n 0, 1) := by decide +kernel
theorem dX7_takeFaults_123 : decode cX7_takeFaults 123 = .ok (.getfield 43, 3) := by decide +kernel
theorem dX7_takeFaults_126 : decode cX7_takeFaults 126 = .ok (.iload_n 3, 1) := by decide +kernel
theorem dX7_takeFaults_127 : decode cX7_takeFaults 127 = .ok (.aload 6, 2) := by decide +kernel
theorem dX7_takeFaults_129 : decode cX7_takeFaults 129 = .ok (.iload 7, 2) := by decide +kernel
theorem dX7_takeFaults_131 : decode cX7_takeFaults 131 = .ok (.invokevirtual 301, 3) := by decide +kernel
theorem dX7_takeFaults_134 : decode cX7_takeFaults 134 = .ok (.aload 6, 2) := by decide +kernel
theorem dX7_takeFaults_136 : decode cX7_takeFaults 136 = .ok (.iload 7, 2) := by decide +kernel
theorem dX7_takeFaults_138 : decode cX7_takeFaults 138 = .ok (.invokevirtual 304, 3) := by decide +kernel
theorem dX7_takeFaults_141 : decode cX7_takeFaults 141 = .ok (.iconst 0, 1) := by decide +kernel
theorem dX7_takeFaults_142 : decode cX7_takeFaults 142 = .ok (.invokevirtual 314, 3) := by decide +kernel
theorem dX7_takeFaults_145 : decode cX7_takeFaults 145 = .ok (.iinc 7 1, 3) := by decide +kernel
theorem dX7_takeFaults_148 : decode cX7_takeFaults 148 = .ok (.goto (-36), 3) := by decide +kernel
set_option maxHeartbeats 4000000 in
set_option maxRecDepth 100000 in
theorem w_X7_takeFaults_112 {p : Program} {l : Launch} {e : Env} {R : Room} {s : State} {m : MethodId} {args : Array Value} {below : List Frame} {meth : Method} {c : Code} {G : Gt} {ρ0 : Int → Nat} {M0 : Mo} {res : RS} (F : Fx p l R s m args meth c cX7_takeFaults 8 RX7 G M0 8 none) (hno : ∀ x ∈ c.exceptionTable.toList, False) (hnm : meth.name = yX7_takeFaults.name) (k90 : Int → Int → Int → Int → Mo → Option RS) (hk90 : ∀ (x0 x3 x4 x5 : Int) (M : Mo), k90 x0 x3 x4 x5 M = some res → J p l e R s m args below meth c 8 G ρ0 M0 0 res M 90 [(0, (false, x0)), (3, (true, x3)), (4, (false, x4)), (5, (true, x5))] []) (n : Nat) : ∀ (x0 x3 x4 x5 x6 x7 : Int) (M : Mo), X7_takeFaults_112 k90 n x0 x3 x4 x5 x6 x7 M = some res → J p l e R s m args below meth c 8 G ρ0 M0 0 res M 112 [(0, (false, x0)), (3, (true, x3)), (4, (false, x4)), (5, (true, x5)), (6, (false, x6)), (7, (true, x7))] [] := by
  induction n with
  | zero => intro x0 x3 x4 x5 x6 x7 M h; cases h
  | succ n ih =>
    intro x0 x3 x4 x5 x6 x7 M h
    rw [X7_takeFaults_112] at h
    refine j_iload F 5 rfl dX7_takeFaults_112 ?_
    refine j_aload F 4 rfl dX7_takeFaults_114 ?_
    obtain ⟨g4, h⟩ := gua h
    refine j_callV (d' := 0) (argl := []) (rk9 := 1) (st := [(true, x7)]) F hno M_X5_size q1022 q1023 q1281 ⟨by decide, by decide⟩ (Nat.le_of_ble_eq_true rfl) (by decide) (ci := 6) rfl (by decide) g4 dX7_takeFaults_116 rfl h (fun z hz => c_X5_size l F.ht G x6 M z hz) (fun v1 M2 h kl3 => ?_)
    refine j_st (st' := [(true, v1), (true, x7)]) rfl ?_
    refine j_icmp_ge F 151 (by decide) dX7_takeFaults_119 h (fun h => ?_) (fun h => ?_)
    · skip
      refine j_iinc F 3 (lv' := [(5, (true, (x5 + 1))), (0, (false, x0)), (3, (true, x3)), (4, (false, x4)), (6, (false, x6)), (7, (true, x7))]) rfl (by decide) rfl dX7_takeFaults_151 ?_
      refine j_goto F 90 (by decide) dX7_takeFaults_154 ?_
      refine j_sub (lv' := [(0, (false, x0)), (3, (true, x3)), (4, (false, x4)), (5, (true, (x5 + 1)))]) [1, 2, 3, 0] rfl ?_
      exact hk90 x0 x3 x4 (x5 + 1) M2 h
    · skip
      refine j_aload_n F 0 rfl rfl dX7_takeFaults_122 ?_
      obtain ⟨g5, h⟩ := gua h
      refine j_get F ft_X7_43 rfl g5 dX7_takeFaults_123 ?_
      refine j_iload_n F 1 rfl rfl dX7_takeFaults_126 ?_
      refine j_aload F 4 rfl dX7_takeFaults_127 ?_
      refine j_iload F 5 rfl dX7_takeFaults_129 ?_
      refine j_callV (d' := 1) (argl := [(true, x7)]) (rk9 := 1) (st := [(true, x3), (false, (fd M2 8 10 x0))]) F hno M_X5_startAt q1034 q1035 q1283 ⟨by decide, by decide⟩ (Nat.le_of_ble_eq_true rfl) (by decide) (ci := 6) rfl (by decide) (kl3.is g4) dX7_takeFaults_131 rfl h (fun z hz => c_X5_startAt l F.ht G x6 x7 M2 z hz) (fun v6 M7 h kl8 => ?_)
      refine j_st (st' := [(true, v6), (true, x3), (false, (fd M2 8 10 x0))]) rfl ?_
      refine j_aload F 4 rfl dX7_takeFaults_134 ?_
      refine j_iload F 5 rfl dX7_takeFaults_136 ?_
      refine j_callV (d' := 1) (argl := [(true, x7)]) (rk9 := 1) (st := [(true, v6), (true, x3), (false, (fd M2 8 10 x0))]) F hno M_X5_endAt q1052 q1053 q1284 ⟨by decide, by decide⟩ (Nat.le_of_ble_eq_true rfl) (by decide) (ci := 6) rfl (by decide) (kl8.is (kl3.is g4)) dX7_takeFaults_138 rfl h (fun z hz => c_X5_endAt l F.ht G x6 x7 M7 z hz) (fun v9 M10 h kl11 => ?_)
      refine j_st (st' := [(true, v9), (true, v6), (true, x3), (false, (fd M2 8 10 x0))]) rfl ?_
      refine j_iconst F dX7_takeFaults_141 ?_
      obtain ⟨g15, h⟩ := gua h
      refine j_callV (d' := 3) (argl := [(true, x3), (true, v6), (true, v9), (true, 0)]) (rk9 := 0) (st := []) F hno M_X5_insertSpan q1294 q1295 q1293 ⟨by decide, by decide⟩ (Nat.le_of_ble_eq_true rfl) (by decide) (ci := 6) rfl (by decide) g15 dX7_takeFaults_142 rfl h (fun z hz => c_X5_insertSpan l F.ht G (fd M2 8 10 x0) x3 v6 v9 0 M10 z hz) (fun v12 M13 h kl14 => ?_)
      refine j_st (st' := []) rfl ?_
      refine j_iinc F 5 (lv' := [(7, (true, (x7 + 1))), (0, (false, x0)), (3, (true, x3)), (4, (false, x4)), (5, (true, x5)), (6, (false, x6))]) rfl (by decide) rfl dX7_takeFaults_145 ?_
      refine j_goto F 112 (by decide) dX7_takeFaults_148 ?_
      refine j_sub (lv' := [(0, (false, x0)), (3, (true, x3)), (4, (false, x4)), (5, (true, x5)), (6, (false, x6)), (7, (true, (x7 + 1)))]) [1, 2, 3, 4, 5, 0] rfl ?_
      exact ih x0 x3 x4 x5 x6 (x7 + 1) M13 h
set_option maxHeartbeats 4000000 in
set_option maxRecDepth 100000 in
theorem w_X7_takeFaults_90 {p : Program} {l : Launch} {e : Env} {R : Room} {s : State} {m : MethodId} {args : Array Value} {below : List Frame} {meth : Method} {c : Code} {G : Gt} {ρ0 : Int → Nat} {M0 : Mo} {res : RS} (F : Fx p l R s m args meth c cX7_takeFaults 8 RX7 G M0 8 none) (hno : ∀ x ∈ c.exceptionTable.toList, False) (hnm : meth.name = yX7_takeFaults.name) (n : Nat) : ∀ (x0 x3 x4 x5 : Int) (M : Mo), X7_takeFaults_90 n x0 x3 x4 x5 M = some res → J p l e R s m args below meth c 8 G ρ0 M0 0 res M 90 [(0, (false, x0)), (3, (true, x3)), (4, (false, x4)), (5, (true, x5))] [] := by
  induction n with
  | zero => intro x0 x3 x4 x5 M h; cases h
  | succ n ih =>
    intro x0 x3 x4 x5 M h
    rw [X7_takeFaults_90] at h
    refine j_iload F 3 rfl dX7_takeFaults_90 ?_
    refine j_iconst F dX7_takeFaults_92 ?_
    refine j_icmp_ge F 157 (by decide) dX7_takeFaults_93 h (fun h => ?_) (fun h => ?_)
    · skip
      obtain ⟨g1, h⟩ := gua h
      refine j_new (ci := 7) F inGX6 tyX6 tyX6_ok q1322 q706 q75 rfl (by decide) dfX6 g1 dX7_takeFaults_157 (fun kl2 => ?_)
      obtain ⟨M3, hM3⟩ : ∃ Z, Z = nO M 7 17 := ⟨_, rfl⟩
      have g4 : kd M3 (nid M) = 8 := by rw [hM3]; exact kd_nO
      rw [← hM3] at kl2 ⊢
      replace h := pt_as h hM3
      refine j_dup F dX7_takeFaults_160 ?_
      refine j_bipush F (by decide) dX7_takeFaults_161 ?_
      refine j_iload_n F 1 rfl rfl dX7_takeFaults_163 ?_
      refine j_callI (d' := 2) (argl := [(true, 6), (true, x3)]) (rk9 := 0) (st := [(false, (nid M))]) F M_X6_init q708 rfl q1323 ⟨by decide, by decide⟩ (Nat.le_of_ble_eq_true rfl) (by decide) (by rw [g4]; decide) dX7_takeFaults_164 rfl h (fun z hz => c_X6_init l F.ht G (nid M) 6 x3 M3 z hz) (fun v5 M6 h kl7 => ?_)
      refine j_st (st' := [(false, (nid M))]) rfl ?_
      refine j_astore F (lv' := [(5, (false, (nid M))), (0, (false, x0)), (3, (true, x3)), (4, (false, x4))]) (by decide) rfl dX7_takeFaults_167 ?_
      refine j_aload F 0 rfl dX7_takeFaults_169 ?_
      refine j_aload F 3 rfl dX7_takeFaults_171 ?_
      obtain ⟨g8, h⟩ := gua h
      refine j_get F ft_X7_129 rfl g8 dX7_takeFaults_173 ?_
      refine j_put (ty := .int) F ft_X7_104 rfl rfl tyX6 tyX6_ok nmX6 (by decide +kernel) (nf_int _) (kl7.is g4) dX7_takeFaults_176 ?_
      obtain ⟨M9, hM9⟩ : ∃ Z, Z = sF M6 7 5 (nid M) (fd M6 3 4 x4) := ⟨_, rfl⟩
      have kl10 : kle M6 M9 := by rw [hM9]; exact kle_sF
      rw [← hM9]
      replace h := pt_as h hM9
      refine j_aload F 0 rfl dX7_takeFaults_179 ?_
      refine j_aload_n F 1 rfl rfl dX7_takeFaults_181 ?_
      obtain ⟨g11, h⟩ := gua h
      refine j_get F ft_X7_43 rfl g11 dX7_takeFaults_182 ?_
      obtain ⟨g15, h⟩ := gua h
      refine j_callV (d' := 2) (argl := []) (rk9 := 2) (st := [(false, (nid M))]) F hno M_X5_copied q1195 q1196 q1329 ⟨by decide, by decide⟩ (Nat.le_of_ble_eq_true rfl) (by decide) (ci := 6) rfl (by decide) g15 dX7_takeFaults_185 rfl h (fun z hz => c_X5_copied l F.ht G (fd M9 8 10 x0) M9 z hz) (fun v12 M13 h kl14 => ?_)
      refine j_st (st' := [(false, v12), (false, (nid M))]) rfl ?_
      refine j_put (ty := .object "ToolPlex$Items") F ft_X7_279 rfl rfl tyX6 tyX6_ok nmX6 (by decide +kernel) (nf_ref (Or.inl ⟨_, rfl⟩) _) (kl14.is (kl10.is (kl7.is g4))) dX7_takeFaults_188 ?_
      obtain ⟨M16, hM16⟩ : ∃ Z, Z = sF M13 7 15 (nid M) v12 := ⟨_, rfl⟩
      have kl17 : kle M13 M16 := by rw [hM16]; exact kle_sF
      rw [← hM16]
      replace h := pt_as h hM16
      refine j_aload_n F 1 rfl rfl dX7_takeFaults_191 ?_
      refine j_bipush F (by decide) dX7_takeFaults_192 ?_
      refine j_aload F 3 rfl dX7_takeFaults_194 ?_
      refine j_get F ft_X7_248 rfl (kl17.is (kl14.is (kl10.is g8))) dX7_takeFaults_196 ?_
      refine j_iadd F dX7_takeFaults_199 ?_
      refine j_callV (d' := 0) (argl := [(true, (8 + (fd M16 3 6 x4)))]) (rk9 := 2) (st := []) F hno M_X7_channelAt q1326 q30 q1324 ⟨by decide, by decide⟩ (Nat.le_of_ble_eq_true rfl) (by decide) (ci := 8) rfl (by decide) (kl17.is (kl14.is g11)) dX7_takeFaults_200 rfl h (fun z hz => c_X7_channelAt l F.ht G x0 (8 + (fd M16 3 6 x4)) M16 z hz) (fun v18 M19 h kl20 => ?_)
      refine j_st (st' := [(false, v18)]) rfl ?_
      refine j_aload F 0 rfl dX7_takeFaults_203 ?_
      obtain ⟨g24, h⟩ := gua h
      refine j_callV (d' := 7) (argl := [(false, (nid M))]) (rk9 := 0) (st := []) F hno M_X1_send q820 q821 q1328 ⟨by decide, by decide⟩ (Nat.le_of_ble_eq_true rfl) (by decide) (ci := 2) rfl (by decide) g24 dX7_takeFaults_205 rfl h (fun z hz => c_X1_send l F.ht G v18 (nid M) M19 z hz) (fun v21 M22 h kl23 => ?_)
      refine j_st (st' := []) rfl ?_
      exact j_vret F (v := 0) h dX7_takeFaults_208
    · skip
      refine j_aload_n F 0 rfl rfl dX7_takeFaults_96 ?_
      obtain ⟨g25, h⟩ := gua h
      refine j_get F ft_X7_28 rfl g25 dX7_takeFaults_97 ?_
      refine j_iload_n F 1 rfl rfl dX7_takeFaults_100 ?_
      refine j_iconst F dX7_takeFaults_101 ?_
      refine j_imul F dX7_takeFaults_102 ?_
      refine j_iload F 3 rfl dX7_takeFaults_103 ?_
      refine j_iadd F dX7_takeFaults_105 ?_
      obtain ⟨g26, h⟩ := gua h
      obtain ⟨g27, h⟩ := gua h
      refine j_aaload F 13 6 g26 (by decide) rfl g27 dX7_takeFaults_106 ?_
      refine j_astore F (lv' := [(6, (false, (el M 13 (fd M 8 6 x0) (wr ((x3 * 3) + x5))))), (0, (false, x0)), (3, (true, x3)), (4, (false, x4)), (5, (true, x5))]) (by decide) rfl dX7_takeFaults_107 ?_
      refine j_iconst F dX7_takeFaults_109 ?_
      refine j_istore F (lv' := [(7, (true, 0)), (6, (false, (el M 13 (fd M 8 6 x0) (wr ((x3 * 3) + x5))))), (0, (false, x0)), (3, (true, x3)), (4, (false, x4)), (5, (true, x5))]) (by decide) rfl dX7_takeFaults_110 ?_
      refine j_sub (lv' := [(0, (false, x0)), (3, (true, x3)), (4, (false, x4)), (5, (true, x5)), (6, (false, (el M 13 (fd M 8 6 x0) (wr ((x3 * 3) + x5))))), (7, (true, 0))]) [2, 3, 4, 5, 1, 0] rfl ?_
      exact w_X7_takeFaults_112 F hno hnm (X7_takeFaults_90 n) ih FU x0 x3 x4 x5 (el M 13 (fd M 8 6 x0) (wr ((x3 * 3) + x5))) 0 M h
set_option maxHeartbeats 4000000 in
set_option maxRecDepth 100000 in
theorem w_X7_takeFaults_0 {p : Program} {l : Launch} {e : Env} {R : Room} {s : State} {m : MethodId} {args : Array Value} {below : List Frame} {meth : Method} {c : Code} {G : Gt} {ρ0 : Int → Nat} {M0 : Mo} {res : RS} (F : Fx p l R s m args meth c cX7_takeFaults 8 RX7 G M0 8 none) (hno : ∀ x ∈ c.exceptionTable.toList, False) (hnm : meth.name = yX7_takeFaults.name) (x0 x1 x2 : Int) (M : Mo) (h : X7_takeFaults x0 x1 x2 M = some res) : J p l e R s m args below meth c 8 G ρ0 M0 0 res M 0 [(0, (false, x0)), (1, (true, x1)), (2, (false, x2))] [] := by
  unfold X7_takeFaults at h
  refine j_aload_n F 2 rfl rfl dX7_takeFaults_0 ?_
  obtain ⟨g1, h⟩ := gua h
  refine j_get F ft_X7_101 rfl g1 dX7_takeFaults_1 ?_
  refine j_istore_n F (lv' := [(3, (true, (fd M 7 1 x2))), (0, (false, x0)), (1, (true, x1)), (2, (false, x2))]) rfl (by decide) rfl dX7_takeFaults_4 ?_
  refine j_aload_n F 1 rfl rfl dX7_takeFaults_5 ?_
  refine j_iload_n F 0 rfl rfl dX7_takeFaults_6 ?_
  obtain ⟨g5, h⟩ := gua h
  refine j_callV (d' := 0) (argl := [(true, (fd M 7 1 x2))]) (rk9 := 2) (st := []) F hno M_X7_copyOf q1267 q1268 q1266 ⟨by decide, by decide⟩ (Nat.le_of_ble_eq_true rfl) (by decide) (ci := 8) rfl (by decide) g5 dX7_takeFaults_7 rfl h (fun z hz => c_X7_copyOf l F.ht G x0 (fd M 7 1 x2) M z hz) (fun v2 M3 h kl4 => ?_)
  refine j_st (st' := [(false, v2)]) rfl ?_
  refine j_astore F (lv' := [(4, (false, v2)), (3, (true, (fd M 7 1 x2))), (0, (false, x0)), (1, (true, x1)), (2, (false, x2))]) (by decide) rfl dX7_takeFaults_10 ?_
  refine j_aload F 0 rfl dX7_takeFaults_12 ?_
  obtain ⟨g9, h⟩ := gua h
  refine j_callV (d' := 0) (argl := []) (rk9 := 1) (st := []) F hno M_X2_isHere q468 q469 q467 ⟨by decide, by decide⟩ (Nat.le_of_ble_eq_true rfl) (by decide) (ci := 3) rfl (by decide) g9 dX7_takeFaults_14 rfl h (fun z hz => c_X2_isHere l F.ht G v2 M3 z hz) (fun v6 M7 h kl8 => ?_)
  refine j_st (st' := [(true, v6)]) rfl ?_
  refine j_if_eq F 32 (by decide) dX7_takeFaults_17 h (fun h => ?_) (fun h => ?_)
  · skip
    exact j_vret F (v := 0) h dX7_takeFaults_32
  · skip
    refine j_aload_n F 4 rfl rfl dX7_takeFaults_20 ?_
    refine j_get F ft_X7_104 rfl (kl8.is (kl4.is g1)) dX7_takeFaults_21 ?_
    refine j_aload F 0 rfl dX7_takeFaults_24 ?_
    refine j_get F ft_X7_257 rfl (kl8.is g9) dX7_takeFaults_26 ?_
    refine j_icmp_ge F 33 (by decide) dX7_takeFaults_29 h (fun h => ?_) (fun h => ?_)
    · skip
      refine j_iload_n F 1 rfl rfl dX7_takeFaults_33 ?_
      refine j_if_lt F 52 (by decide) dX7_takeFaults_34 h (fun h => ?_) (fun h => ?_)
      · skip
        exact j_vret F (v := 0) h dX7_takeFaults_52
      · skip
        refine j_iload_n F 1 rfl rfl dX7_takeFaults_37 ?_
        refine j_bipush F (by decide) dX7_takeFaults_38 ?_
        refine j_icmp_ge F 52 (by decide) dX7_takeFaults_40 h (fun h => ?_) (fun h => ?_)
        · skip
          exact j_vret F (v := 0) h dX7_takeFaults_52
        · skip
          refine j_iload_n F 3 rfl rfl dX7_takeFaults_43 ?_
          refine j_if_lt F 52 (by decide) dX7_takeFaults_44 h (fun h => ?_) (fun h => ?_)
          · skip
            exact j_vret F (v := 0) h dX7_takeFaults_52
          · skip
            refine j_iload_n F 3 rfl rfl dX7_takeFaults_47 ?_
            refine j_iconst F dX7_takeFaults_48 ?_
            refine j_icmp_lt F 53 (by decide) dX7_takeFaults_49 h (fun h => ?_) (fun h => ?_)
            · skip
              refine j_aload F 0 rfl dX7_takeFaults_53 ?_
              refine j_aload_n F 4 rfl rfl dX7_takeFaults_55 ?_
              refine j_get F ft_X7_279 rfl (kl8.is (kl4.is g1)) dX7_takeFaults_56 ?_
              refine j_aload_n F 4 rfl rfl dX7_takeFaults_59 ?_
              refine j_get F ft_X7_104 rfl (kl8.is (kl4.is g1)) dX7_takeFaults_60 ?_
              refine j_callV (d' := 1) (argl := [(false, (fd M7 7 15 x2)), (true, (fd M7 7 5 x2))]) (rk9 := 0) (st := []) F hno M_X2_moveAlong q935 q936 q1280 ⟨by decide, by decide⟩ (Nat.le_of_ble_eq_true rfl) (by decide) (ci := 3) rfl (by decide) (kl8.is g9) dX7_takeFaults_63 rfl h (fun z hz => c_X2_moveAlong l F.ht G v2 (fd M7 7 15 x2) (fd M7 7 5 x2) M7 z hz) (fun v10 M11 h kl12 => ?_)
              refine j_st (st' := []) rfl ?_
              refine j_aload_n F 2 rfl rfl dX7_takeFaults_66 ?_
              refine j_get F ft_X7_28 rfl (kl12.is (kl8.is (kl4.is g5))) dX7_takeFaults_67 ?_
              refine j_iload_n F 1 rfl rfl dX7_takeFaults_70 ?_
              refine j_iconst F dX7_takeFaults_71 ?_
              refine j_imul F dX7_takeFaults_72 ?_
              refine j_iload_n F 3 rfl rfl dX7_takeFaults_73 ?_
              refine j_iadd F dX7_takeFaults_74 ?_
              refine j_aload_n F 4 rfl rfl dX7_takeFaults_75 ?_
              refine j_get F ft_X7_279 rfl (kl12.is (kl8.is (kl4.is g1))) dX7_takeFaults_76 ?_
              obtain ⟨g13, h⟩ := gua h
              obtain ⟨g14, h⟩ := gua h
              obtain ⟨g15, h⟩ := gua h
              refine j_aastore F 13 6 6 g13 (by decide) rfl rfl (by decide) rfl g15 g14 dX7_takeFaults_79 ?_
              obtain ⟨M16, hM16⟩ : ∃ Z, Z = sE M11 13 (fd M11 8 6 x0) (wr (((fd M 7 1 x2) * 3) + x1)) (fd M11 7 15 x2) := ⟨_, rfl⟩
              have kl17 : kle M11 M16 := by rw [hM16]; exact kle_sE
              rw [← hM16]
              replace h := pt_as h hM16
              refine j_aload_n F 2 rfl rfl dX7_takeFaults_80 ?_
              refine j_get F ft_X7_43 rfl (kl17.is (kl12.is (kl8.is (kl4.is g5)))) dX7_takeFaults_81 ?_
              obtain ⟨g21, h⟩ := gua h
              refine j_callV (d' := 0) (argl := []) (rk9 := 0) (st := []) F hno M_X5_clear q851 q852 q1271 ⟨by decide, by decide⟩ (Nat.le_of_ble_eq_true rfl) (by decide) (ci := 6) rfl (by decide) g21 dX7_takeFaults_84 rfl h (fun z hz => c_X5_clear l F.ht G (fd M16 8 10 x0) M16 z hz) (fun v18 M19 h kl20 => ?_)
              refine j_st (st' := []) rfl ?_
              refine j_iconst F dX7_takeFaults_87 ?_
              refine j_istore F (lv' := [(5, (true, 0)), (4, (false, v2)), (3, (true, (fd M 7 1 x2))), (0, (false, x0)), (1, (true, x1)), (2, (false, x2))]) (by decide) rfl dX7_takeFaults_88 ?_
              refine j_sub (lv' := [(0, (false, x0)), (3, (true, (fd M 7 1 x2))), (4, (false, v2)), (5, (true, 0))]) [3, 2, 1, 0] rfl ?_
              exact w_X7_takeFaults_90 F hno hnm FU x0 (fd M 7 1 x2) v2 0 M19 h
            · skip
              exact j_vret F (v := 0) h dX7_takeFaults_52
    · skip
      exact j_vret F (v := 0) h dX7_takeFaults_32
theorem c_X7_takeFaults (l : Launch) (hl : l.stackTraces = false) (G : Gt) (x0 x1 x2 : Int) (M : Mo) (z : RS) (h : X7_takeFaults x0 x1 x2 M = some z) : CT l G yX7_takeFaults (cn yX7_takeFaults cX7_takeFaults 8 none) 8 [(false, x0), (true, x1), (false, x2)] M 0 z :=
  ctOf hl (by decide) (Nat.le_of_ble_eq_true rfl) (fun p e R s m args below meth c ρ F hno hnm => w_X7_takeFaults_0 F hno hnm x0 x1 x2 M h)
