theorem dX9_init_0 : decode cX9_init 0 = .ok (.aload_n 0, 1) := by decide +kernel
set_option maxRecDepth 100000 in
theorem q477 : Cond.methodLink RX9 3 Lib.objectInit ∈ GT := gt 477 (by decide +kernel) (by decide +kernel)
theorem dX9_init_1 : decode cX9_init 1 = .ok (.invokespecial 3, 3) := by decide +kernel
theorem dX9_init_4 : decode cX9_init 4 = .ok (.aload_n 0, 1) := by decide +kernel
theorem dX9_init_5 : decode cX9_init 5 = .ok (.bipush 6, 2) := by decide +kernel
set_option maxRecDepth 100000 in
theorem q478 : Cond.classLink RX9 9 RX2 ∈ GT := gt 478 (by decide +kernel) (by decide +kernel)
theorem dX9_init_7 : decode cX9_init 7 = .ok (.anewarray 9, 3) := by decide +kernel
set_option maxRecDepth 100000 in
theorem q488 : Cond.fieldLink RX9 11 "ToolPlex$Server" "copies" "[LToolPlex$Copy;" ∈ GT := gt 488 (by decide +kernel) (by decide +kernel)
theorem inGX9 : ∀ w ∈ u_ws RX9 TX9 9, w ∈ GT := gts [495, 497, 499, 501, 503, 505, 507, 509, 511] (by decide +kernel) (by decide +kernel)
theorem ft_X9_11 : FT RX9 11 RX9 10 RX9 TX9 9 4 := ⟨rfl, by decide, by decide, q488, Or.inl rfl, inGX9⟩
theorem dX9_init_10 : decode cX9_init 10 = .ok (.putfield 11, 3) := by decide +kernel
theorem dX9_init_13 : decode cX9_init 13 = .ok (.aload_n 0, 1) := by decide +kernel
theorem dfX2 : ∀ j, j < 7 → defaultValue (tyX2 j) = vp_V ((lay 3).map (fun b => if b then Value.int 0 else .null)) j := by decide +kernel
set_option maxRecDepth 100000 in
theorem q182 : Cond.instantiable RX2 7 ∈ GT := gt 182 (by decide +kernel) (by decide +kernel)
theorem dX9_init_14 : decode cX9_init 14 = .ok (.new 9, 3) := by decide +kernel
theorem dX9_init_17 : decode cX9_init 17 = .ok (.dup, 1) := by decide +kernel
set_option maxRecDepth 100000 in
theorem q185 : Cond.code yX2_init cX2_init 1 none ∈ GT := gt 185 (rfl) (by decide +kernel)
theorem M_X2_init : MY yX2_init cX2_init 1 none 0 := ⟨q185, q61, by decide +kernel, by decide +kernel⟩
set_option maxRecDepth 100000 in
theorem q184 : Cond.instanceMethod yX2_init ∈ GT := gt 184 (by decide +kernel) (by decide +kernel)
set_option maxRecDepth 100000 in
theorem q479 : Cond.methodLinkNest RX9 17 yX2_init "ToolPlex" ∈ GT := gt 479 (by decide +kernel) (by decide +kernel)
theorem dX9_init_18 : decode cX9_init 18 = .ok (.invokespecial 17, 3) := by decide +kernel
set_option maxRecDepth 100000 in
theorem q489 : Cond.fieldLink RX9 18 "ToolPlex$Server" "nothing" "LToolPlex$Copy;" ∈ GT := gt 489 (by decide +kernel) (by decide +kernel)
theorem ft_X9_18 : FT RX9 18 RX9 10 RX9 TX9 9 5 := ⟨rfl, by decide, by decide, q489, Or.inl rfl, inGX9⟩
theorem dX9_init_21 : decode cX9_init 21 = .ok (.putfield 18, 3) := by decide +kernel
theorem dX9_init_24 : decode cX9_init 24 = .ok (.aload_n 0, 1) := by decide +kernel
set_option maxRecDepth 100000 in
theorem q480 : Cond.classLink RX9 22 RJx4a65c ∈ GT := gt 480 (by decide +kernel) (by decide +kernel)
theorem dX9_init_25 : decode cX9_init 25 = .ok (.new 22, 3) := by decide +kernel
theorem dX9_init_28 : decode cX9_init 28 = .ok (.dup, 1) := by decide +kernel
set_option maxRecDepth 100000 in
theorem q481 : Cond.methodLink RX9 24 yJx4a65c_init_da8c8 ∈ GT := gt 481 (by decide +kernel) (by decide +kernel)
theorem dX9_init_29 : decode cX9_init 29 = .ok (.invokespecial 24, 3) := by decide +kernel
set_option maxRecDepth 100000 in
theorem q490 : Cond.fieldLink RX9 25 "ToolPlex$Server" "questions" "Ljava/util/ArrayList;" ∈ GT := gt 490 (by decide +kernel) (by decide +kernel)
theorem ft_X9_25 : FT RX9 25 RX9 10 RX9 TX9 9 6 := ⟨rfl, by decide, by decide, q490, Or.inl rfl, inGX9⟩
theorem dX9_init_32 : decode cX9_init 32 = .ok (.putfield 25, 3) := by decide +kernel
theorem dX9_init_35 : decode cX9_init 35 = .ok (.aload_n 0, 1) := by decide +kernel
set_option maxRecDepth 100000 in
theorem q482 : Cond.classLink RX9 29 RX5 ∈ GT := gt 482 (by decide +kernel) (by decide +kernel)
theorem dX9_init_36 : decode cX9_init 36 = .ok (.new 29, 3) := by decide +kernel
theorem dX9_init_39 : decode cX9_init 39 = .ok (.dup, 1) := by decide +kernel
set_option maxRecDepth 100000 in
theorem q483 : Cond.methodLinkNest RX9 31 yX5_init "ToolPlex" ∈ GT := gt 483 (by decide +kernel) (by decide +kernel)
theorem dX9_init_40 : decode cX9_init 40 = .ok (.invokespecial 31, 3) := by decide +kernel
set_option maxRecDepth 100000 in
theorem q491 : Cond.fieldLink RX9 32 "ToolPlex$Server" "found" "LToolPlex$Items;" ∈ GT := gt 491 (by decide +kernel) (by decide +kernel)
theorem ft_X9_32 : FT RX9 32 RX9 10 RX9 TX9 9 7 := ⟨rfl, by decide, by decide, q491, Or.inl rfl, inGX9⟩
theorem dX9_init_43 : decode cX9_init 43 = .ok (.putfield 32, 3) := by decide +kernel
theorem dX9_init_46 : decode cX9_init 46 = .ok (.aload_n 0, 1) := by decide +kernel
theorem dX9_init_47 : decode cX9_init 47 = .ok (.iconst 1, 1) := by decide +kernel
set_option maxRecDepth 100000 in
theorem q492 : Cond.fieldLink RX9 36 "ToolPlex$Server" "up" "Z" ∈ GT := gt 492 (by decide +kernel) (by decide +kernel)
theorem ft_X9_36 : FT RX9 36 RX9 10 RX9 TX9 9 8 := ⟨rfl, by decide, by decide, q492, Or.inl rfl, inGX9⟩
theorem dX9_init_48 : decode cX9_init 48 = .ok (.putfield 36, 3) := by decide +kernel
theorem dX9_init_51 : decode cX9_init 51 = .ok (.aload_n 0, 1) := by decide +kernel
theorem dX9_init_52 : decode cX9_init 52 = .ok (.iload_n 1, 1) := by decide +kernel
set_option maxRecDepth 100000 in
theorem q484 : Cond.fieldLink RX9 40 "ToolPlex$Server" "kinds" "I" ∈ GT := gt 484 (by decide +kernel) (by decide +kernel)
theorem ft_X9_40 : FT RX9 40 RX9 10 RX9 TX9 9 0 := ⟨rfl, by decide, by decide, q484, Or.inl rfl, inGX9⟩
theorem dX9_init_53 : decode cX9_init 53 = .ok (.putfield 40, 3) := by decide +kernel
theorem dX9_init_56 : decode cX9_init 56 = .ok (.aload_n 0, 1) := by decide +kernel
theorem dX9_init_57 : decode cX9_init 57 = .ok (.iload_n 2, 1) := by decide +kernel
set_option maxRecDepth 100000 in
theorem q485 : Cond.fieldLink RX9 44 "ToolPlex$Server" "languages" "I" ∈ GT := gt 485 (by decide +kernel) (by decide +kernel)
theorem ft_X9_44 : FT RX9 44 RX9 10 RX9 TX9 9 1 := ⟨rfl, by decide, by decide, q485, Or.inl rfl, inGX9⟩
theorem dX9_init_58 : decode cX9_init 58 = .ok (.putfield 44, 3) := by decide +kernel
theorem dX9_init_61 : decode cX9_init 61 = .ok (.aload_n 0, 1) := by decide +kernel
theorem dX9_init_62 : decode cX9_init 62 = .ok (.iload_n 3, 1) := by decide +kernel
set_option maxRecDepth 100000 in
theorem q486 : Cond.fieldLink RX9 47 "ToolPlex$Server" "style" "I" ∈ GT := gt 486 (by decide +kernel) (by decide +kernel)
theorem ft_X9_47 : FT RX9 47 RX9 10 RX9 TX9 9 2 := ⟨rfl, by decide, by decide, q486, Or.inl rfl, inGX9⟩
theorem dX9_init_63 : decode cX9_init 63 = .ok (.putfield 47, 3) := by decide +kernel
theorem dX9_init_66 : decode cX9_init 66 = .ok (.aload_n 0, 1) := by decide +kernel
theorem dX9_init_67 : decode cX9_init 67 = .ok (.aload 4, 2) := by decide +kernel
set_option maxRecDepth 100000 in
theorem q487 : Cond.fieldLink RX9 50 "ToolPlex$Server" "files" "LToolPlex$Files;" ∈ GT := gt 487 (by decide +kernel) (by decide +kernel)
theorem ft_X9_50 : FT RX9 50 RX9 10 RX9 TX9 9 3 := ⟨rfl, by decide, by decide, q487, Or.inl rfl, inGX9⟩
theorem dX9_init_69 : decode cX9_init 69 = .ok (.putfield 50, 3) := by decide +kernel
theorem dX9_init_72 : decode cX9_init 72 = .ok (.iconst 0, 1) := by decide +kernel
theorem dX9_init_73 : decode cX9_init 73 = .ok (.istore 5, 2) := by decide +kernel
theorem dX9_init_75 : decode cX9_init 75 = .ok (.iload 5, 2) := by decide +kernel
theorem dX9_init_77 : decode cX9_init 77 = .ok (.bipush 6, 2) := by decide +kernel
theorem dX9_init_79 : decode cX9_init 79 = .ok (.if_icmp .ge 23, 3) := by decide +kernel
theorem dX9_init_102 : decode cX9_init 102 = .ok (.return_, 1) := by decide +kernel
theorem dX9_init_82 : decode cX9_init 82 = .ok (.aload_n 0, 1) := by decide +kernel
theorem dX9_init_83 : decode cX9_init 83 = .ok (.getfield 11, 3) := by decide +kernel
theorem dX9_init_86 : decode cX9_init 86 = .ok (.iload 5, 2) := by decide +kernel
theorem dX9_init_88 : decode cX9_init 88 = .ok (.new 9, 3) := by decide +kernel
theorem dX9_init_91 : decode cX9_init 91 = .ok (.dup, 1) := by decide +kernel
theorem dX9_init_92 : decode cX9_init 92 = .ok (.invokespecial 17, 3) := by decide +kernel
theorem dX9_init_95 : decode cX9_init 95 = .ok (.aastore, 1) := by decide +kernel
theorem dX9_init_96 : decode cX9_init 96 = .ok (.iinc 5 1, 3) := by decide +kernel
theorem dX9_init_99 : decode cX9_init 99 = .ok (.goto (-24), 3) := by decide +kernel
set_option maxHeartbeats 4000000 in
set_option maxRecDepth 100000 in
theorem w_X9_init_75 {p : Program} {l : Launch} {e : Env} {R : Room} {s : State} {m : MethodId} {args : Array Value} {below : List Frame} {meth : Method} {c : Code} {G : Gt} {ρ0 : Int → Nat} {M0 : Mo} {res : RS} (F : Fx p l R s m args meth c cX9_init 6 RX9 G M0 4 none) (hno : ∀ x ∈ c.exceptionTable.toList, False) (hnm : meth.name = yX9_init.name) (n : Nat) : ∀ (x0 x5 : Int) (M : Mo), X9_init_75 n x0 x5 M = some res → J p l e R s m args below meth c 6 G ρ0 M0 0 res M 75 [(0, (false, x0)), (5, (true, x5))] [] := by
  induction n with
  | zero => intro x0 x5 M h; cases h
  | succ n ih =>
    intro x0 x5 M h
    rw [X9_init_75] at h
    refine j_iload F 1 rfl dX9_init_75 ?_
    refine j_bipush F (by decide) dX9_init_77 ?_
    refine j_icmp_ge F 102 (by decide) dX9_init_79 h (fun h => ?_) (fun h => ?_)
    · skip
      exact j_vret F (v := 0) h dX9_init_102
    · skip
      refine j_aload_n F 0 rfl rfl dX9_init_82 ?_
      obtain ⟨g1, h⟩ := gua h
      refine j_get F ft_X9_11 rfl g1 dX9_init_83 ?_
      refine j_iload F 1 rfl dX9_init_86 ?_
      obtain ⟨g2, h⟩ := gua h
      refine j_new (ci := 3) F inGX2 tyX2 tyX2_ok q478 q182 q61 rfl (by decide) dfX2 g2 dX9_init_88 (fun kl3 => ?_)
      obtain ⟨M4, hM4⟩ : ∃ Z, Z = nO M 3 7 := ⟨_, rfl⟩
      have g5 : kd M4 (nid M) = 4 := by rw [hM4]; exact kd_nO
      rw [← hM4] at kl3 ⊢
      replace h := pt_as h hM4
      refine j_dup F dX9_init_91 ?_
      refine j_callIN (d' := 2) (argl := []) (rk9 := 0) (st := [(false, (nid M)), (true, x5), (false, (fd M 10 4 x0))]) F M_X2_init q184 rfl q479 ⟨by decide, by decide⟩ (Nat.le_of_ble_eq_true rfl) (by decide) (by rw [g5]; decide) dX9_init_92 rfl h (fun z hz => c_X2_init l F.ht G (nid M) M4 z hz) (fun v6 M7 h kl8 => ?_)
      refine j_st (st' := [(false, (nid M)), (true, x5), (false, (fd M 10 4 x0))]) rfl ?_
      obtain ⟨g9, h⟩ := gua h
      obtain ⟨g10, h⟩ := gua h
      refine j_aastore F 12 5 3 g9 (by decide) rfl rfl (by decide) rfl g10 (Or.inr (kl8.is g5)) dX9_init_95 ?_
      obtain ⟨M11, hM11⟩ : ∃ Z, Z = sE M7 12 (fd M 10 4 x0) (wr x5) (nid M) := ⟨_, rfl⟩
      have kl12 : kle M7 M11 := by rw [hM11]; exact kle_sE
      rw [← hM11]
      replace h := pt_as h hM11
      refine j_iinc F 1 (lv' := [(5, (true, (x5 + 1))), (0, (false, x0))]) rfl (by decide) rfl dX9_init_96 ?_
      refine j_goto F 75 (by decide) dX9_init_99 ?_
      refine j_sub (lv' := [(0, (false, x0)), (5, (true, (x5 + 1)))]) [1, 0] rfl ?_
      exact ih x0 (x5 + 1) M11 h
set_option maxHeartbeats 4000000 in
set_option maxRecDepth 100000 in
theorem w_X9_init_0 {p : Program} {l : Launch} {e : Env} {R : Room} {s : State} {m : MethodId} {args : Array Value} {below : List Frame} {meth : Method} {c : Code} {G : Gt} {ρ0 : Int → Nat} {M0 : Mo} {res : RS} (F : Fx p l R s m args meth c cX9_init 6 RX9 G M0 4 none) (hno : ∀ x ∈ c.exceptionTable.toList, False) (hnm : meth.name = yX9_init.name) (x0 x1 x2 x3 x4 : Int) (M : Mo) (h : X9_init x0 x1 x2 x3 x4 M = some res) : J p l e R s m args below meth c 6 G ρ0 M0 0 res M 0 [(0, (false, x0)), (1, (true, x1)), (2, (true, x2)), (3, (true, x3)), (4, (false, x4))] [] := by
  unfold X9_init at h
  refine j_aload_n F 0 rfl rfl dX9_init_0 ?_
  obtain ⟨g1, h⟩ := gua h
  refine j_objInit F ⟨q477, q86, q87⟩ g1 (by decide) (Nat.le_of_ble_eq_true rfl) dX9_init_1 ?_
  refine j_aload_n F 0 rfl rfl dX9_init_4 ?_
  refine j_bipush F (by decide) dX9_init_5 ?_
  obtain ⟨g2, h⟩ := gua h
  refine j_anewa F 12 5 (by decide) rfl q478 F.2.2.2.2.2.1.1.1.2.1 (by decide) g2 dX9_init_7 (fun kl3 => ?_)
  obtain ⟨M4, hM4⟩ : ∃ Z, Z = nA M 12 (wr 6) := ⟨_, rfl⟩
  have g5 : kd M4 (nid M) = 112 := by rw [hM4]; exact kd_nA
  rw [← hM4] at kl3 ⊢
  replace h := pt_as h hM4
  obtain ⟨g6, h⟩ := gua h
  refine j_putF (ty := .array (.object "ToolPlex$Copy")) F ft_X9_11 rfl rfl hnm rfl tyX9 tyX9_ok nmX9 (by decide +kernel) (nf_ref (Or.inr ⟨_, rfl⟩) _) g6 dX9_init_10 ?_
  obtain ⟨M7, hM7⟩ : ∃ Z, Z = sF M4 10 4 x0 (nid M) := ⟨_, rfl⟩
  have kl8 : kle M4 M7 := by rw [hM7]; exact kle_sF
  rw [← hM7]
  replace h := pt_as h hM7
  refine j_aload_n F 0 rfl rfl dX9_init_13 ?_
  obtain ⟨g9, h⟩ := gua h
  refine j_new (ci := 3) F inGX2 tyX2 tyX2_ok q478 q182 q61 rfl (by decide) dfX2 g9 dX9_init_14 (fun kl10 => ?_)
  obtain ⟨M11, hM11⟩ : ∃ Z, Z = nO M7 3 7 := ⟨_, rfl⟩
  have g12 : kd M11 (nid M7) = 4 := by rw [hM11]; exact kd_nO
  rw [← hM11] at kl10 ⊢
  replace h := pt_as h hM11
  refine j_dup F dX9_init_17 ?_
  refine j_callIN (d' := 2) (argl := []) (rk9 := 0) (st := [(false, (nid M7)), (false, x0)]) F M_X2_init q184 rfl q479 ⟨by decide, by decide⟩ (Nat.le_of_ble_eq_true rfl) (by decide) (by rw [g12]; decide) dX9_init_18 rfl h (fun z hz => c_X2_init l F.ht G (nid M7) M11 z hz) (fun v13 M14 h kl15 => ?_)
  refine j_st (st' := [(false, (nid M7)), (false, x0)]) rfl ?_
  refine j_putF (ty := .object "ToolPlex$Copy") F ft_X9_18 rfl rfl hnm rfl tyX9 tyX9_ok nmX9 (by decide +kernel) (nf_ref (Or.inl ⟨_, rfl⟩) _) (kl15.is (kl10.is (kl8.is g6))) dX9_init_21 ?_
  obtain ⟨M16, hM16⟩ : ∃ Z, Z = sF M14 10 5 x0 (nid M7) := ⟨_, rfl⟩
  have kl17 : kle M14 M16 := by rw [hM16]; exact kle_sF
  rw [← hM16]
  replace h := pt_as h hM16
  refine j_aload_n F 0 rfl rfl dX9_init_24 ?_
  obtain ⟨g18, h⟩ := gua h
  refine j_new (ci := 0) F inGJx4a65c tyJx4a65c tyJx4a65c_ok q480 q135 q58 rfl (by decide) dfJx4a65c g18 dX9_init_25 (fun kl19 => ?_)
  obtain ⟨M20, hM20⟩ : ∃ Z, Z = nO M16 0 3 := ⟨_, rfl⟩
  have g21 : kd M20 (nid M16) = 1 := by rw [hM20]; exact kd_nO
  rw [← hM20] at kl19 ⊢
  replace h := pt_as h hM20
  refine j_dup F dX9_init_28 ?_
  refine j_callI (d' := 3) (argl := []) (rk9 := 0) (st := [(false, (nid M16)), (false, x0)]) F M_Jx4a65c_init_da8c8 q137 rfl q481 ⟨by decide, by decide⟩ (Nat.le_of_ble_eq_true rfl) (by decide) (by rw [g21]; decide) dX9_init_29 rfl h (fun z hz => c_Jx4a65c_init_da8c8 l F.ht G (nid M16) M20 z hz) (fun v22 M23 h kl24 => ?_)
  refine j_st (st' := [(false, (nid M16)), (false, x0)]) rfl ?_
  refine j_putF (ty := .object "java/util/ArrayList") F ft_X9_25 rfl rfl hnm rfl tyX9 tyX9_ok nmX9 (by decide +kernel) (nf_ref (Or.inl ⟨_, rfl⟩) _) (kl24.is (kl19.is (kl17.is (kl15.is (kl10.is (kl8.is g6)))))) dX9_init_32 ?_
  obtain ⟨M25, hM25⟩ : ∃ Z, Z = sF M23 10 6 x0 (nid M16) := ⟨_, rfl⟩
  have kl26 : kle M23 M25 := by rw [hM25]; exact kle_sF
  rw [← hM25]
  replace h := pt_as h hM25
  refine j_aload_n F 0 rfl rfl dX9_init_35 ?_
  obtain ⟨g27, h⟩ := gua h
  refine j_new (ci := 6) F inGX5 tyX5 tyX5_ok q482 q226 q62 rfl (by decide) dfX5 g27 dX9_init_36 (fun kl28 => ?_)
  obtain ⟨M29, hM29⟩ : ∃ Z, Z = nO M25 6 2 := ⟨_, rfl⟩
  have g30 : kd M29 (nid M25) = 7 := by rw [hM29]; exact kd_nO
  rw [← hM29] at kl28 ⊢
  replace h := pt_as h hM29
  refine j_dup F dX9_init_39 ?_
  refine j_callIN (d' := 1) (argl := []) (rk9 := 0) (st := [(false, (nid M25)), (false, x0)]) F M_X5_init q228 rfl q483 ⟨by decide, by decide⟩ (Nat.le_of_ble_eq_true rfl) (by decide) (by rw [g30]; decide) dX9_init_40 rfl h (fun z hz => c_X5_init l F.ht G (nid M25) M29 z hz) (fun v31 M32 h kl33 => ?_)
  refine j_st (st' := [(false, (nid M25)), (false, x0)]) rfl ?_
  refine j_putF (ty := .object "ToolPlex$Items") F ft_X9_32 rfl rfl hnm rfl tyX9 tyX9_ok nmX9 (by decide +kernel) (nf_ref (Or.inl ⟨_, rfl⟩) _) (kl33.is (kl28.is (kl26.is (kl24.is (kl19.is (kl17.is (kl15.is (kl10.is (kl8.is g6))))))))) dX9_init_43 ?_
  obtain ⟨M34, hM34⟩ : ∃ Z, Z = sF M32 10 7 x0 (nid M25) := ⟨_, rfl⟩
  have kl35 : kle M32 M34 := by rw [hM34]; exact kle_sF
  rw [← hM34]
  replace h := pt_as h hM34
  refine j_aload_n F 0 rfl rfl dX9_init_46 ?_
  refine j_iconst F dX9_init_47 ?_
  refine j_put (ty := .boolean) F ft_X9_36 rfl rfl tyX9 tyX9_ok nmX9 (by decide +kernel) nf_z1 (kl35.is (kl33.is (kl28.is (kl26.is (kl24.is (kl19.is (kl17.is (kl15.is (kl10.is (kl8.is g6)))))))))) dX9_init_48 ?_
  obtain ⟨M36, hM36⟩ : ∃ Z, Z = sF M34 10 8 x0 1 := ⟨_, rfl⟩
  have kl37 : kle M34 M36 := by rw [hM36]; exact kle_sF
  rw [← hM36]
  replace h := pt_as h hM36
  refine j_aload_n F 0 rfl rfl dX9_init_51 ?_
  refine j_iload_n F 1 rfl rfl dX9_init_52 ?_
  refine j_putF (ty := .int) F ft_X9_40 rfl rfl hnm rfl tyX9 tyX9_ok nmX9 (by decide +kernel) (nf_int _) (kl37.is (kl35.is (kl33.is (kl28.is (kl26.is (kl24.is (kl19.is (kl17.is (kl15.is (kl10.is (kl8.is g6))))))))))) dX9_init_53 ?_
  obtain ⟨M38, hM38⟩ : ∃ Z, Z = sF M36 10 0 x0 x1 := ⟨_, rfl⟩
  have kl39 : kle M36 M38 := by rw [hM38]; exact kle_sF
  rw [← hM38]
  replace h := pt_as h hM38
  refine j_aload_n F 0 rfl rfl dX9_init_56 ?_
  refine j_iload_n F 2 rfl rfl dX9_init_57 ?_
  refine j_putF (ty := .int) F ft_X9_44 rfl rfl hnm rfl tyX9 tyX9_ok nmX9 (by decide +kernel) (nf_int _) (kl39.is (kl37.is (kl35.is (kl33.is (kl28.is (kl26.is (kl24.is (kl19.is (kl17.is (kl15.is (kl10.is (kl8.is g6)))))))))))) dX9_init_58 ?_
  obtain ⟨M40, hM40⟩ : ∃ Z, Z = sF M38 10 1 x0 x2 := ⟨_, rfl⟩
  have kl41 : kle M38 M40 := by rw [hM40]; exact kle_sF
  rw [← hM40]
  replace h := pt_as h hM40
  refine j_aload_n F 0 rfl rfl dX9_init_61 ?_
  refine j_iload_n F 3 rfl rfl dX9_init_62 ?_
  refine j_putF (ty := .int) F ft_X9_47 rfl rfl hnm rfl tyX9 tyX9_ok nmX9 (by decide +kernel) (nf_int _) (kl41.is (kl39.is (kl37.is (kl35.is (kl33.is (kl28.is (kl26.is (kl24.is (kl19.is (kl17.is (kl15.is (kl10.is (kl8.is g6))))))))))))) dX9_init_63 ?_
  obtain ⟨M42, hM42⟩ : ∃ Z, Z = sF M40 10 2 x0 x3 := ⟨_, rfl⟩
  have kl43 : kle M40 M42 := by rw [hM42]; exact kle_sF
  rw [← hM42]
  replace h := pt_as h hM42
  refine j_aload_n F 0 rfl rfl dX9_init_66 ?_
  refine j_aload F 4 rfl dX9_init_67 ?_
  refine j_putF (ty := .object "ToolPlex$Files") F ft_X9_50 rfl rfl hnm rfl tyX9 tyX9_ok nmX9 (by decide +kernel) (nf_ref (Or.inl ⟨_, rfl⟩) _) (kl43.is (kl41.is (kl39.is (kl37.is (kl35.is (kl33.is (kl28.is (kl26.is (kl24.is (kl19.is (kl17.is (kl15.is (kl10.is (kl8.is g6)))))))))))))) dX9_init_69 ?_
  obtain ⟨M44, hM44⟩ : ∃ Z, Z = sF M42 10 3 x0 x4 := ⟨_, rfl⟩
  have kl45 : kle M42 M44 := by rw [hM44]; exact kle_sF
  rw [← hM44]
  replace h := pt_as h hM44
  refine j_iconst F dX9_init_72 ?_
  refine j_istore F (lv' := [(5, (true, 0)), (0, (false, x0)), (1, (true, x1)), (2, (true, x2)), (3, (true, x3)), (4, (false, x4))]) (by decide) rfl dX9_init_73 ?_
  refine j_sub (lv' := [(0, (false, x0)), (5, (true, 0))]) [1, 0] rfl ?_
  exact w_X9_init_75 F hno hnm FU x0 0 M44 h
theorem c_X9_init (l : Launch) (hl : l.stackTraces = false) (G : Gt) (x0 x1 x2 x3 x4 : Int) (M : Mo) (z : RS) (h : X9_init x0 x1 x2 x3 x4 M = some z) : CT l G yX9_init (cn yX9_init cX9_init 6 none) 4 [(false, x0), (true, x1), (true, x2), (true, x3), (false, x4)] M 0 z :=
  ctOf hl (by decide) (Nat.le_of_ble_eq_true rfl) (fun p e R s m args below meth c ρ F hno hnm => w_X9_init_0 F hno hnm x0 x1 x2 x3 x4 M h)
theorem dX9_copyOf_0 : decode cX9_copyOf 0 = .ok (.iload_n 1, 1) := by decide +kernel
theorem dX9_copyOf_1 : decode cX9_copyOf 1 = .ok (.ifCond .lt 18, 3) := by decide +kernel
theorem dX9_copyOf_19 : decode cX9_copyOf 19 = .ok (.aload_n 0, 1) := by decide +kernel
theorem dX9_copyOf_20 : decode cX9_copyOf 20 = .ok (.getfield 18, 3) := by decide +kernel
theorem dX9_copyOf_23 : decode cX9_copyOf 23 = .ok (.areturn, 1) := by decide +kernel
theorem dX9_copyOf_4 : decode cX9_copyOf 4 = .ok (.iload_n 1, 1) := by decide +kernel
theorem dX9_copyOf_5 : decode cX9_copyOf 5 = .ok (.bipush 6, 2) := by decide +kernel
theorem dX9_copyOf_7 : decode cX9_copyOf 7 = .ok (.if_icmp .ge 12, 3) := by decide +kernel
theorem dX9_copyOf_10 : decode cX9_copyOf 10 = .ok (.aload_n 0, 1) := by decide +kernel
theorem dX9_copyOf_11 : decode cX9_copyOf 11 = .ok (.getfield 11, 3) := by decide +kernel
theorem dX9_copyOf_14 : decode cX9_copyOf 14 = .ok (.iload_n 1, 1) := by decide +kernel
theorem dX9_copyOf_15 : decode cX9_copyOf 15 = .ok (.aaload, 1) := by decide +kernel
theorem dX9_copyOf_16 : decode cX9_copyOf 16 = .ok (.goto 7, 3) := by decide +kernel
set_option maxHeartbeats 4000000 in
set_option maxRecDepth 100000 in
theorem w_X9_copyOf_0 {p : Program} {l : Launch} {e : Env} {R : Room} {s : State} {m : MethodId} {args : Array Value} {below : List Frame} {meth : Method} {c : Code} {G : Gt} {ρ0 : Int → Nat} {M0 : Mo} {res : RS} (F : Fx p l R s m args meth c cX9_copyOf 2 RX9 G M0 0 (some (FieldType.object "ToolPlex$Copy"))) (hno : ∀ x ∈ c.exceptionTable.toList, False) (hnm : meth.name = yX9_copyOf.name) (x0 x1 : Int) (M : Mo) (h : X9_copyOf x0 x1 M = some res) : J p l e R s m args below meth c 2 G ρ0 M0 2 res M 0 [(0, (false, x0)), (1, (true, x1))] [] := by
  unfold X9_copyOf at h
  refine j_iload_n F 1 rfl rfl dX9_copyOf_0 ?_
  refine j_if_lt F 19 (by decide) dX9_copyOf_1 h (fun h => ?_) (fun h => ?_)
  · skip
    refine j_aload_n F 0 rfl rfl dX9_copyOf_19 ?_
    obtain ⟨g1, h⟩ := gua h
    refine j_get F ft_X9_18 rfl g1 dX9_copyOf_20 ?_
    exact j_aret F (Or.inl ⟨_, rfl⟩) h dX9_copyOf_23
  · skip
    refine j_iload_n F 1 rfl rfl dX9_copyOf_4 ?_
    refine j_bipush F (by decide) dX9_copyOf_5 ?_
    refine j_icmp_ge F 19 (by decide) dX9_copyOf_7 h (fun h => ?_) (fun h => ?_)
    · skip
      refine j_aload_n F 0 rfl rfl dX9_copyOf_19 ?_
      obtain ⟨g2, h⟩ := gua h
      refine j_get F ft_X9_18 rfl g2 dX9_copyOf_20 ?_
      exact j_aret F (Or.inl ⟨_, rfl⟩) h dX9_copyOf_23
    · skip
      refine j_aload_n F 0 rfl rfl dX9_copyOf_10 ?_
      obtain ⟨g3, h⟩ := gua h
      refine j_get F ft_X9_11 rfl g3 dX9_copyOf_11 ?_
      refine j_iload_n F 1 rfl rfl dX9_copyOf_14 ?_
      obtain ⟨g4, h⟩ := gua h
      obtain ⟨g5, h⟩ := gua h
      refine j_aaload F 12 5 g4 (by decide) rfl g5 dX9_copyOf_15 ?_
      refine j_goto F 23 (by decide) dX9_copyOf_16 ?_
      exact j_aret F (Or.inl ⟨_, rfl⟩) h dX9_copyOf_23
theorem c_X9_copyOf (l : Launch) (hl : l.stackTraces = false) (G : Gt) (x0 x1 : Int) (M : Mo) (z : RS) (h : X9_copyOf x0 x1 M = some z) : CT l G yX9_copyOf (cn yX9_copyOf cX9_copyOf 2 (some (FieldType.object "ToolPlex$Copy"))) 0 [(false, x0), (true, x1)] M 2 z :=
  ctOf hl (by decide) (Nat.le_of_ble_eq_true rfl) (fun p e R s m args below meth c ρ F hno hnm => w_X9_copyOf_0 F hno hnm x0 x1 M h)
theorem dX9_requests_0 : decode cX9_requests 0 = .ok (.aload_n 0, 1) := by decide +kernel
theorem dX9_requests_1 : decode cX9_requests 1 = .ok (.getfield 25, 3) := by decide +kernel
set_option maxRecDepth 100000 in
theorem q1092 : Cond.methodLink RX9 54 yJx4a65c_size_8abf5 ∈ GT := gt 1092 (by decide +kernel) (by decide +kernel)
theorem dX9_requests_4 : decode cX9_requests 4 = .ok (.invokevirtual 54, 3) := by decide +kernel
theorem dX9_requests_7 : decode cX9_requests 7 = .ok (.ireturn, 1) := by decide +kernel
set_option maxHeartbeats 4000000 in
set_option maxRecDepth 100000 in
theorem w_X9_requests_0 {p : Program} {l : Launch} {e : Env} {R : Room} {s : State} {m : MethodId} {args : Array Value} {below : List Frame} {meth : Method} {c : Code} {G : Gt} {ρ0 : Int → Nat} {M0 : Mo} {res : RS} (F : Fx p l R s m args meth c cX9_requests 1 RX9 G M0 1 (some FieldType.int)) (hno : ∀ x ∈ c.exceptionTable.toList, False) (hnm : meth.name = yX9_requests.name) (x0 : Int) (M : Mo) (h : X9_requests x0 M = some res) : J p l e R s m args below meth c 1 G ρ0 M0 1 res M 0 [(0, (false, x0))] [] := by
  unfold X9_requests at h
  refine j_aload_n F 0 rfl rfl dX9_requests_0 ?_
  obtain ⟨g1, h⟩ := gua h
  refine j_get F ft_X9_25 rfl g1 dX9_requests_1 ?_
  obtain ⟨g5, h⟩ := gua h
  refine j_callV (d' := 0) (argl := []) (rk9 := 1) (st := []) F hno M_Jx4a65c_size_8abf5 q448 q449 q1092 ⟨by decide, by decide⟩ (Nat.le_of_ble_eq_true rfl) (by decide) (ci := 0) rfl (by decide) g5 dX9_requests_4 rfl h (fun z hz => c_Jx4a65c_size_8abf5 l F.ht G (fd M 10 6 x0) M z hz) (fun v2 M3 h kl4 => ?_)
  refine j_st (st' := [(true, v2)]) rfl ?_
  exact j_iret F h dX9_requests_7
theorem c_X9_requests (l : Launch) (hl : l.stackTraces = false) (G : Gt) (x0 : Int) (M : Mo) (z : RS) (h : X9_requests x0 M = some z) : CT l G yX9_requests (cn yX9_requests cX9_requests 1 (some FieldType.int)) 1 [(false, x0)] M 1 z :=
  ctOf hl (by decide) (Nat.le_of_ble_eq_true rfl) (fun p e R s m args below meth c ρ F hno hnm => w_X9_requests_0 F hno hnm x0 M h)
theorem dX9_speaks_0 : decode cX9_speaks 0 = .ok (.aload_n 0, 1) := by decide +kernel
theorem dX9_speaks_1 : decode cX9_speaks 1 = .ok (.getfield 44, 3) := by decide +kernel
theorem dX9_speaks_4 : decode cX9_speaks 4 = .ok (.iload_n 1, 1) := by decide +kernel
theorem dX9_speaks_5 : decode cX9_speaks 5 = .ok (.ishr, 1) := by decide +kernel
theorem dX9_speaks_6 : decode cX9_speaks 6 = .ok (.iconst 1, 1) := by decide +kernel
theorem dX9_speaks_7 : decode cX9_speaks 7 = .ok (.iand, 1) := by decide +kernel
theorem dX9_speaks_8 : decode cX9_speaks 8 = .ok (.iconst 1, 1) := by decide +kernel
theorem dX9_speaks_9 : decode cX9_speaks 9 = .ok (.if_icmp .ne 7, 3) := by decide +kernel
theorem dX9_speaks_16 : decode cX9_speaks 16 = .ok (.iconst 0, 1) := by decide +kernel
theorem dX9_speaks_17 : decode cX9_speaks 17 = .ok (.ireturn, 1) := by decide +kernel
theorem dX9_speaks_12 : decode cX9_speaks 12 = .ok (.iconst 1, 1) := by decide +kernel
theorem dX9_speaks_13 : decode cX9_speaks 13 = .ok (.goto 4, 3) := by decide +kernel
set_option maxHeartbeats 4000000 in
set_option maxRecDepth 100000 in
theorem w_X9_speaks_0 {p : Program} {l : Launch} {e : Env} {R : Room} {s : State} {m : MethodId} {args : Array Value} {below : List Frame} {meth : Method} {c : Code} {G : Gt} {ρ0 : Int → Nat} {M0 : Mo} {res : RS} (F : Fx p l R s m args meth c cX9_speaks 2 RX9 G M0 0 (some FieldType.boolean)) (hno : ∀ x ∈ c.exceptionTable.toList, False) (hnm : meth.name = yX9_speaks.name) (x0 x1 : Int) (M : Mo) (h : X9_speaks x0 x1 M = some res) : J p l e R s m args below meth c 2 G ρ0 M0 1 res M 0 [(0, (false, x0)), (1, (true, x1))] [] := by
  unfold X9_speaks at h
  refine j_aload_n F 0 rfl rfl dX9_speaks_0 ?_
  obtain ⟨g1, h⟩ := gua h
  refine j_get F ft_X9_44 rfl g1 dX9_speaks_1 ?_
  refine j_iload_n F 1 rfl rfl dX9_speaks_4 ?_
  refine j_ishr F dX9_speaks_5 ?_
  refine j_iconst F dX9_speaks_6 ?_
  refine j_iand F dX9_speaks_7 ?_
  refine j_iconst F dX9_speaks_8 ?_
  refine j_icmp_ne F 16 (by decide) dX9_speaks_9 h (fun h => ?_) (fun h => ?_)
  · skip
    refine j_iconst F dX9_speaks_16 ?_
    exact j_zret F (by decide) h dX9_speaks_17
  · skip
    refine j_iconst F dX9_speaks_12 ?_
    refine j_goto F 17 (by decide) dX9_speaks_13 ?_
    exact j_zret F (by decide) h dX9_speaks_17
theorem c_X9_speaks (l : Launch) (hl : l.stackTraces = false) (G : Gt) (x0 x1 : Int) (M : Mo) (z : RS) (h : X9_speaks x0 x1 M = some z) : CT l G yX9_speaks (cn yX9_speaks cX9_speaks 2 (some FieldType.boolean)) 0 [(false, x0), (true, x1)] M 1 z :=
  ctOf hl (by decide) (Nat.le_of_ble_eq_true rfl) (fun p e R s m args below meth c ρ F hno hnm => w_X9_speaks_0 F hno hnm x0 x1 M h)
theorem dX9_does_0 : decode cX9_does 0 = .ok (.aload_n 0, 1) := by decide +kernel
theorem dX9_does_1 : decode cX9_does 1 = .ok (.getfield 40, 3) := by decide +kernel
theorem dX9_does_4 : decode cX9_does 4 = .ok (.iload_n 1, 1) := by decide +kernel
theorem dX9_does_5 : decode cX9_does 5 = .ok (.ishr, 1) := by decide +kernel
theorem dX9_does_6 : decode cX9_does 6 = .ok (.iconst 1, 1) := by decide +kernel
theorem dX9_does_7 : decode cX9_does 7 = .ok (.iand, 1) := by decide +kernel
theorem dX9_does_8 : decode cX9_does 8 = .ok (.iconst 1, 1) := by decide +kernel
theorem dX9_does_9 : decode cX9_does 9 = .ok (.if_icmp .ne 7, 3) := by decide +kernel
theorem dX9_does_16 : decode cX9_does 16 = .ok (.iconst 0, 1) := by decide +kernel
theorem dX9_does_17 : decode cX9_does 17 = .ok (.ireturn, 1) := by decide +kernel
theorem dX9_does_12 : decode cX9_does 12 = .ok (.iconst 1, 1) := by decide +kernel
theorem dX9_does_13 : decode cX9_does 13 = .ok (.goto 4, 3) := by decide +kernel
set_option maxHeartbeats 4000000 in
set_option maxRecDepth 100000 in
theorem w_X9_does_0 {p : Program} {l : Launch} {e : Env} {R : Room} {s : State} {m : MethodId} {args : Array Value} {below : List Frame} {meth : Method} {c : Code} {G : Gt} {ρ0 : Int → Nat} {M0 : Mo} {res : RS} (F : Fx p l R s m args meth c cX9_does 2 RX9 G M0 0 (some FieldType.boolean)) (hno : ∀ x ∈ c.exceptionTable.toList, False) (hnm : meth.name = yX9_does.name) (x0 x1 : Int) (M : Mo) (h : X9_does x0 x1 M = some res) : J p l e R s m args below meth c 2 G ρ0 M0 1 res M 0 [(0, (false, x0)), (1, (true, x1))] [] := by
  unfold X9_does at h
  refine j_aload_n F 0 rfl rfl dX9_does_0 ?_
  obtain ⟨g1, h⟩ := gua h
  refine j_get F ft_X9_40 rfl g1 dX9_does_1 ?_
  refine j_iload_n F 1 rfl rfl dX9_does_4 ?_
  refine j_ishr F dX9_does_5 ?_
  refine j_iconst F dX9_does_6 ?_
  refine j_iand F dX9_does_7 ?_
  refine j_iconst F dX9_does_8 ?_
  refine j_icmp_ne F 16 (by decide) dX9_does_9 h (fun h => ?_) (fun h => ?_)
  · skip
    refine j_iconst F dX9_does_16 ?_
    exact j_zret F (by decide) h dX9_does_17
  · skip
    refine j_iconst F dX9_does_12 ?_
    refine j_goto F 17 (by decide) dX9_does_13 ?_
    exact j_zret F (by decide) h dX9_does_17
theorem c_X9_does (l : Launch) (hl : l.stackTraces = false) (G : Gt) (x0 x1 : Int) (M : Mo) (z : RS) (h : X9_does x0 x1 M = some z) : CT l G yX9_does (cn yX9_does cX9_does 2 (some FieldType.boolean)) 0 [(false, x0), (true, x1)] M 1 z :=
  ctOf hl (by decide) (Nat.le_of_ble_eq_true rfl) (fun p e R s m args below meth c ρ F hno hnm => w_X9_does_0 F hno hnm x0 x1 M h)
theorem dX9_fall_0 : decode cX9_fall 0 = .ok (.aload_n 0, 1) := by decide +kernel
theorem dX9_fall_1 : decode cX9_fall 1 = .ok (.iconst 0, 1) := by decide +kernel
theorem dX9_fall_2 : decode cX9_fall 2 = .ok (.putfield 36, 3) := by decide +kernel
theorem dX9_fall_5 : decode cX9_fall 5 = .ok (.aload_n 0, 1) := by decide +kernel
theorem dX9_fall_6 : decode cX9_fall 6 = .ok (.getfield 25, 3) := by decide +kernel
set_option maxRecDepth 100000 in
theorem q1227 : Cond.methodLink RX9 58 yJx4a65c_clear_da8c8 ∈ GT := gt 1227 (by decide +kernel) (by decide +kernel)
theorem dX9_fall_9 : decode cX9_fall 9 = .ok (.invokevirtual 58, 3) := by decide +kernel
theorem dX9_fall_12 : decode cX9_fall 12 = .ok (.iconst 0, 1) := by decide +kernel
theorem dX9_fall_13 : decode cX9_fall 13 = .ok (.istore_n 1, 1) := by decide +kernel
theorem dX9_fall_14 : decode cX9_fall 14 = .ok (.iload_n 1, 1) := by decide +kernel
theorem dX9_fall_15 : decode cX9_fall 15 = .ok (.bipush 6, 2) := by decide +kernel
theorem dX9_fall_17 : decode cX9_fall 17 = .ok (.if_icmp .ge 18, 3) := by decide +kernel
theorem dX9_fall_35 : decode cX9_fall 35 = .ok (.return_, 1) := by decide +kernel
theorem dX9_fall_20 : decode cX9_fall 20 = .ok (.aload_n 0, 1) := by decide +kernel
theorem dX9_fall_21 : decode cX9_fall 21 = .ok (.getfield 11, 3) := by decide +kernel
theorem dX9_fall_24 : decode cX9_fall 24 = .ok (.iload_n 1, 1) := by decide +kernel
theorem dX9_fall_25 : decode cX9_fall 25 = .ok (.aaload, 1) := by decide +kernel
set_option maxRecDepth 100000 in
theorem q845 : Cond.code yX2_end cX2_end 1 none ∈ GT := gt 845 (rfl) (by decide +kernel)
theorem M_X2_end : MY yX2_end cX2_end 1 none 0 := ⟨q845, q61, by decide +kernel, by decide +kernel⟩
set_option maxRecDepth 100000 in
theorem q843 : Cond.instanceMethod yX2_end ∈ GT := gt 843 (by decide +kernel) (by decide +kernel)
set_option maxRecDepth 100000 in
theorem q844 : Cond.selects RX2 yX2_end yX2_end ∈ GT := gt 844 (by decide +kernel) (by decide +kernel)
set_option maxRecDepth 100000 in
theorem q1231 : Cond.methodLink RX9 61 yX2_end ∈ GT := gt 1231 (by decide +kernel) (by decide +kernel)
theorem dX9_fall_26 : decode cX9_fall 26 = .ok (.invokevirtual 61, 3) := by decide +kernel
theorem dX9_fall_29 : decode cX9_fall 29 = .ok (.iinc 1 1, 3) := by decide +kernel
theorem dX9_fall_32 : decode cX9_fall 32 = .ok (.goto (-18), 3) := by decide +kernel
set_option maxHeartbeats 4000000 in
set_option maxRecDepth 100000 in
theorem w_X9_fall_14 {p : Program} {l : Launch} {e : Env} {R : Room} {s : State} {m : MethodId} {args : Array Value} {below : List Frame} {meth : Method} {c : Code} {G : Gt} {ρ0 : Int → Nat} {M0 : Mo} {res : RS} (F : Fx p l R s m args meth c cX9_fall 2 RX9 G M0 1 none) (hno : ∀ x ∈ c.exceptionTable.toList, False) (hnm : meth.name = yX9_fall.name) (n : Nat) : ∀ (x0 x1 : Int) (M : Mo), X9_fall_14 n x0 x1 M = some res → J p l e R s m args below meth c 2 G ρ0 M0 0 res M 14 [(0, (false, x0)), (1, (true, x1))] [] := by
  induction n with
  | zero => intro x0 x1 M h; cases h
  | succ n ih =>
    intro x0 x1 M h
    rw [X9_fall_14] at h
    refine j_iload_n F 1 rfl rfl dX9_fall_14 ?_
    refine j_bipush F (by decide) dX9_fall_15 ?_
    refine j_icmp_ge F 35 (by decide) dX9_fall_17 h (fun h => ?_) (fun h => ?_)
    · skip
      exact j_vret F (v := 0) h dX9_fall_35
    · skip
      refine j_aload_n F 0 rfl rfl dX9_fall_20 ?_
      obtain ⟨g1, h⟩ := gua h
      refine j_get F ft_X9_11 rfl g1 dX9_fall_21 ?_
      refine j_iload_n F 1 rfl rfl dX9_fall_24 ?_
      obtain ⟨g2, h⟩ := gua h
      obtain ⟨g3, h⟩ := gua h
      refine j_aaload F 12 5 g2 (by decide) rfl g3 dX9_fall_25 ?_
      obtain ⟨g7, h⟩ := gua h
      refine j_callV (d' := 0) (argl := []) (rk9 := 0) (st := []) F hno M_X2_end q843 q844 q1231 ⟨by decide, by decide⟩ (Nat.le_of_ble_eq_true rfl) (by decide) (ci := 3) rfl (by decide) g7 dX9_fall_26 rfl h (fun z hz => c_X2_end l F.ht G (el M 12 (fd M 10 4 x0) (wr x1)) M z hz) (fun v4 M5 h kl6 => ?_)
      refine j_st (st' := []) rfl ?_
      refine j_iinc F 1 (lv' := [(1, (true, (x1 + 1))), (0, (false, x0))]) rfl (by decide) rfl dX9_fall_29 ?_
      refine j_goto F 14 (by decide) dX9_fall_32 ?_
      refine j_sub (lv' := [(0, (false, x0)), (1, (true, (x1 + 1)))]) [1, 0] rfl ?_
      exact ih x0 (x1 + 1) M5 h
set_option maxHeartbeats 4000000 in
set_option maxRecDepth 100000 in
theorem w_X9_fall_0 {p : Program} {l : Launch} {e : Env} {R : Room} {s : State} {m : MethodId} {args : Array Value} {below : List Frame} {meth : Method} {c : Code} {G : Gt} {ρ0 : Int → Nat} {M0 : Mo} {res : RS} (F : Fx p l R s m args meth c cX9_fall 2 RX9 G M0 1 none) (hno : ∀ x ∈ c.exceptionTable.toList, False) (hnm : meth.name = yX9_fall.name) (x0 : Int) (M : Mo) (h : X9_fall x0 M = some res) : J p l e R s m args below meth c 2 G ρ0 M0 0 res M 0 [(0, (false, x0))] [] := by
  unfold X9_fall at h
  refine j_aload_n F 0 rfl rfl dX9_fall_0 ?_
  refine j_iconst F dX9_fall_1 ?_
  obtain ⟨g1, h⟩ := gua h
  refine j_put (ty := .boolean) F ft_X9_36 rfl rfl tyX9 tyX9_ok nmX9 (by decide +kernel) nf_z0 g1 dX9_fall_2 ?_
  obtain ⟨M2, hM2⟩ : ∃ Z, Z = sF M 10 8 x0 0 := ⟨_, rfl⟩
  have kl3 : kle M M2 := by rw [hM2]; exact kle_sF
  rw [← hM2]
  replace h := pt_as h hM2
  refine j_aload_n F 0 rfl rfl dX9_fall_5 ?_
  refine j_get F ft_X9_25 rfl (kl3.is g1) dX9_fall_6 ?_
  obtain ⟨g7, h⟩ := gua h
  refine j_callV (d' := 0) (argl := []) (rk9 := 0) (st := []) F hno M_Jx4a65c_clear_da8c8 q1228 q1229 q1227 ⟨by decide, by decide⟩ (Nat.le_of_ble_eq_true rfl) (by decide) (ci := 0) rfl (by decide) g7 dX9_fall_9 rfl h (fun z hz => c_Jx4a65c_clear_da8c8 l F.ht G (fd M2 10 6 x0) M2 z hz) (fun v4 M5 h kl6 => ?_)
  refine j_st (st' := []) rfl ?_
  refine j_iconst F dX9_fall_12 ?_
  refine j_istore_n F (lv' := [(1, (true, 0)), (0, (false, x0))]) rfl (by decide) rfl dX9_fall_13 ?_
  refine j_sub (lv' := [(0, (false, x0)), (1, (true, 0))]) [1, 0] rfl ?_
  exact w_X9_fall_14 F hno hnm FU x0 0 M5 h
theorem c_X9_fall (l : Launch) (hl : l.stackTraces = false) (G : Gt) (x0 : Int) (M : Mo) (z : RS) (h : X9_fall x0 M = some z) : CT l G yX9_fall (cn yX9_fall cX9_fall 2 none) 1 [(false, x0)] M 0 z :=
  ctOf hl (by decide) (Nat.le_of_ble_eq_true rfl) (fun p e R s m args below meth c ρ F hno hnm => w_X9_fall_0 F hno hnm x0 M h)
theorem dX9_takeChange_0 : decode cX9_takeChange 0 = .ok (.aload_n 1, 1) := by decide +kernel
set_option maxRecDepth 100000 in
theorem q470 : Cond.code yX2_isHere cX2_isHere 1 (some FieldType.boolean) ∈ GT := gt 470 (rfl) (by decide +kernel)
theorem M_X2_isHere : MY yX2_isHere cX2_isHere 1 (some FieldType.boolean) 0 := ⟨q470, q61, by decide +kernel, by decide +kernel⟩
set_option maxRecDepth 100000 in
theorem q468 : Cond.instanceMethod yX2_isHere ∈ GT := gt 468 (by decide +kernel) (by decide +kernel)
set_option maxRecDepth 100000 in
theorem q469 : Cond.selects RX2 yX2_isHere yX2_isHere ∈ GT := gt 469 (by decide +kernel) (by decide +kernel)
set_option maxRecDepth 100000 in
theorem q1114 : Cond.methodLink RX9 94 yX2_isHere ∈ GT := gt 1114 (by decide +kernel) (by decide +kernel)
theorem dX9_takeChange_1 : decode cX9_takeChange 1 = .ok (.invokevirtual 94, 3) := by decide +kernel
theorem dX9_takeChange_4 : decode cX9_takeChange 4 = .ok (.ifCond .ne 4, 3) := by decide +kernel
theorem dX9_takeChange_8 : decode cX9_takeChange 8 = .ok (.aload_n 1, 1) := by decide +kernel
theorem dX9_takeChange_9 : decode cX9_takeChange 9 = .ok (.aload_n 2, 1) := by decide +kernel
set_option maxRecDepth 100000 in
theorem q916 : Cond.code yX2_alter cX2_alter 5 none ∈ GT := gt 916 (rfl) (by decide +kernel)
theorem M_X2_alter : MY yX2_alter cX2_alter 5 none 1 := ⟨q916, q61, by decide +kernel, by decide +kernel⟩
set_option maxRecDepth 100000 in
theorem q914 : Cond.instanceMethod yX2_alter ∈ GT := gt 914 (by decide +kernel) (by decide +kernel)
set_option maxRecDepth 100000 in
theorem q915 : Cond.selects RX2 yX2_alter yX2_alter ∈ GT := gt 915 (by decide +kernel) (by decide +kernel)
set_option maxRecDepth 100000 in
theorem q1496 : Cond.methodLink RX9 125 yX2_alter ∈ GT := gt 1496 (by decide +kernel) (by decide +kernel)
theorem dX9_takeChange_10 : decode cX9_takeChange 10 = .ok (.invokevirtual 125, 3) := by decide +kernel
theorem dX9_takeChange_13 : decode cX9_takeChange 13 = .ok (.iconst 0, 1) := by decide +kernel
theorem dX9_takeChange_14 : decode cX9_takeChange 14 = .ok (.istore_n 3, 1) := by decide +kernel
theorem dX9_takeChange_7 : decode cX9_takeChange 7 = .ok (.return_, 1) := by decide +kernel
theorem dX9_takeChange_15 : decode cX9_takeChange 15 = .ok (.iload_n 3, 1) := by decide +kernel
theorem dX9_takeChange_16 : decode cX9_takeChange 16 = .ok (.aload_n 0, 1) := by decide +kernel
theorem dX9_takeChange_17 : decode cX9_takeChange 17 = .ok (.getfield 25, 3) := by decide +kernel
theorem dX9_takeChange_20 : decode cX9_takeChange 20 = .ok (.invokevirtual 54, 3) := by decide +kernel
theorem dX9_takeChange_23 : decode cX9_takeChange 23 = .ok (.if_icmp .ge 48, 3) := by decide +kernel
theorem dX9_takeChange_71 : decode cX9_takeChange 71 = .ok (.return_, 1) := by decide +kernel
theorem dX9_takeChange_26 : decode cX9_takeChange 26 = .ok (.aload_n 0, 1) := by decide +kernel
theorem dX9_takeChange_27 : decode cX9_takeChange 27 = .ok (.getfield 25, 3) := by decide +kernel
theorem dX9_takeChange_30 : decode cX9_takeChange 30 = .ok (.iload_n 3, 1) := by decide +kernel
set_option maxRecDepth 100000 in
theorem q1100 : Cond.methodLink RX9 129 yJx4a65c_get_915e3 ∈ GT := gt 1100 (by decide +kernel) (by decide +kernel)
theorem dX9_takeChange_31 : decode cX9_takeChange 31 = .ok (.invokevirtual 129, 3) := by decide +kernel
set_option maxRecDepth 100000 in
theorem q1098 : Cond.classLink RX9 65 RX6 ∈ GT := gt 1098 (by decide +kernel) (by decide +kernel)
theorem dX9_takeChange_34 : decode cX9_takeChange 34 = .ok (.checkcast 65, 3) := by decide +kernel
theorem dX9_takeChange_37 : decode cX9_takeChange 37 = .ok (.astore 4, 2) := by decide +kernel
theorem dX9_takeChange_39 : decode cX9_takeChange 39 = .ok (.aload 4, 2) := by decide +kernel
set_option maxRecDepth 100000 in
theorem q719 : Cond.fieldLink RX9 64 "ToolPlex$Message" "file" "I" ∈ GT := gt 719 (by decide +kernel) (by decide +kernel)
theorem ft_X9_64 : FT RX9 64 RX6 7 RX6 TX6 17 1 := ⟨rfl, by decide, by decide, q719, Or.inl rfl, inGX6⟩
theorem dX9_takeChange_41 : decode cX9_takeChange 41 = .ok (.getfield 64, 3) := by decide +kernel
theorem dX9_takeChange_44 : decode cX9_takeChange 44 = .ok (.aload_n 2, 1) := by decide +kernel
theorem dX9_takeChange_45 : decode cX9_takeChange 45 = .ok (.getfield 64, 3) := by decide +kernel
theorem dX9_takeChange_48 : decode cX9_takeChange 48 = .ok (.if_icmp .ne 17, 3) := by decide +kernel
theorem dX9_takeChange_51 : decode cX9_takeChange 51 = .ok (.aload 4, 2) := by decide +kernel
theorem dX9_takeChange_53 : decode cX9_takeChange 53 = .ok (.aload_n 1, 1) := by decide +kernel
theorem dX9_takeChange_54 : decode cX9_takeChange 54 = .ok (.aload 4, 2) := by decide +kernel
set_option maxRecDepth 100000 in
theorem q761 : Cond.fieldLink RX9 111 "ToolPlex$Message" "place" "I" ∈ GT := gt 761 (by decide +kernel) (by decide +kernel)
theorem ft_X9_111 : FT RX9 111 RX6 7 RX6 TX6 17 12 := ⟨rfl, by decide, by decide, q761, Or.inl rfl, inGX6⟩
theorem dX9_takeChange_56 : decode cX9_takeChange 56 = .ok (.getfield 111, 3) := by decide +kernel
set_option maxRecDepth 100000 in
theorem q1500 : Cond.code yX2_placeAfter cX2_placeAfter 5 (some FieldType.int) ∈ GT := gt 1500 (rfl) (by decide +kernel)
theorem M_X2_placeAfter : MY yX2_placeAfter cX2_placeAfter 5 (some FieldType.int) 1 := ⟨q1500, q61, by decide +kernel, by decide +kernel⟩
set_option maxRecDepth 100000 in
theorem q1498 : Cond.instanceMethod yX2_placeAfter ∈ GT := gt 1498 (by decide +kernel) (by decide +kernel)
set_option maxRecDepth 100000 in
theorem q1499 : Cond.selects RX2 yX2_placeAfter yX2_placeAfter ∈ GT := gt 1499 (by decide +kernel) (by decide +kernel)
set_option maxRecDepth 100000 in
theorem q1497 : Cond.methodLink RX9 133 yX2_placeAfter ∈ GT := gt 1497 (by decide +kernel) (by decide +kernel)
theorem dX9_takeChange_59 : decode cX9_takeChange 59 = .ok (.invokevirtual 133, 3) := by decide +kernel
theorem dX9_takeChange_62 : decode cX9_takeChange 62 = .ok (.putfield 111, 3) := by decide +kernel
theorem dX9_takeChange_65 : decode cX9_takeChange 65 = .ok (.iinc 3 1, 3) := by decide +kernel
theorem dX9_takeChange_68 : decode cX9_takeChange 68 = .ok (.goto (-53), 3) := by decide +kernel
set_option maxHeartbeats 4000000 in
set_option maxRecDepth 100000 in
theorem w_X9_takeChange_65 {p : Program} {l : Launch} {e : Env} {R : Room} {s : State} {m : MethodId} {args : Array Value} {below : List Frame} {meth : Method} {c : Code} {G : Gt} {ρ0 : Int → Nat} {M0 : Mo} {res : RS} (F : Fx p l R s m args meth c cX9_takeChange 5 RX9 G M0 4 none) (hno : ∀ x ∈ c.exceptionTable.toList, False) (hnm : meth.name = yX9_takeChange.name) (k15 : Int → Int → Int → Int → Mo → Option RS) (hk15 : ∀ (x0 x1 x2 x3 : Int) (M : Mo), k15 x0 x1 x2 x3 M = some res → J p l e R s m args below meth c 5 G ρ0 M0 0 res M 15 [(0, (false, x0)), (1, (false, x1)), (2, (false, x2)), (3, (true, x3))] []) (x0 x1 x2 x3 : Int) (M : Mo) (h : X9_takeChange_65 k15 x0 x1 x2 x3 M = some res) : J p l e R s m args below meth c 5 G ρ0 M0 0 res M 65 [(0, (false, x0)), (1, (false, x1)), (2, (false, x2)), (3, (true, x3))] [] := by
  unfold X9_takeChange_65 at h
  refine j_iinc F 3 (lv' := [(3, (true, (x3 + 1))), (0, (false, x0)), (1, (false, x1)), (2, (false, x2))]) rfl (by decide) rfl dX9_takeChange_65 ?_
  refine j_goto F 15 (by decide) dX9_takeChange_68 ?_
  refine j_sub (lv' := [(0, (false, x0)), (1, (false, x1)), (2, (false, x2)), (3, (true, (x3 + 1)))]) [1, 2, 3, 0] rfl ?_
  exact hk15 x0 x1 x2 (x3 + 1) M h
set_option maxHeartbeats 4000000 in
set_option maxRecDepth 100000 in
theorem w_X9_takeChange_15 {p : Program} {l : Launch} {e : Env} {R : Room} {s : State} {m : MethodId} {args : Array Value} {below : List Frame} {meth : Method} {c : Code} {G : Gt} {ρ0 : Int → Nat} {M0 : Mo} {res : RS} (F : Fx p l R s m args meth c cX9_takeChange 5 RX9 G M0 4 none) (hno : ∀ x ∈ c.exceptionTable.toList, False) (hnm : meth.name = yX9_takeChange.name) (n : Nat) : ∀ (x0 x1 x2 x3 : Int) (M : Mo), X9_takeChange_15 n x0 x1 x2 x3 M = some res → J p l e R s m args below meth c 5 G ρ0 M0 0 res M 15 [(0, (false, x0)), (1, (false, x1)), (2, (false, x2)), (3, (true, x3))] [] := by
  induction n with
  | zero => intro x0 x1 x2 x3 M h; cases h
  | succ n ih =>
    intro x0 x1 x2 x3 M h
    rw [X9_takeChange_15] at h
    refine j_iload_n F 3 rfl rfl dX9_takeChange_15 ?_
    refine j_aload_n F 0 rfl rfl dX9_takeChange_16 ?_
    obtain ⟨g1, h⟩ := gua h
    refine j_get F ft_X9_25 rfl g1 dX9_takeChange_17 ?_
    obtain ⟨g5, h⟩ := gua h
    refine j_callV (d' := 0) (argl := []) (rk9 := 1) (st := [(true, x3)]) F hno M_Jx4a65c_size_8abf5 q448 q449 q1092 ⟨by decide, by decide⟩ (Nat.le_of_ble_eq_true rfl) (by decide) (ci := 0) rfl (by decide) g5 dX9_takeChange_20 rfl h (fun z hz => c_Jx4a65c_size_8abf5 l F.ht G (fd M 10 6 x0) M z hz) (fun v2 M3 h kl4 => ?_)
    refine j_st (st' := [(true, v2), (true, x3)]) rfl ?_
    refine j_icmp_ge F 71 (by decide) dX9_takeChange_23 h (fun h => ?_) (fun h => ?_)
    · skip
      exact j_vret F (v := 0) h dX9_takeChange_71
    · skip
      refine j_aload_n F 0 rfl rfl dX9_takeChange_26 ?_
      refine j_get F ft_X9_25 rfl (kl4.is g1) dX9_takeChange_27 ?_
      refine j_iload_n F 3 rfl rfl dX9_takeChange_30 ?_
      obtain ⟨g9, h⟩ := gua h
      refine j_callV (d' := 2) (argl := [(true, x3)]) (rk9 := 2) (st := []) F hno M_Jx4a65c_get_915e3 q856 q857 q1100 ⟨by decide, by decide⟩ (Nat.le_of_ble_eq_true rfl) (by decide) (ci := 0) rfl (by decide) g9 dX9_takeChange_31 rfl h (fun z hz => c_Jx4a65c_get_915e3 l F.ht G (fd M3 10 6 x0) x3 M3 z hz) (fun v6 M7 h kl8 => ?_)
      refine j_st (st' := [(false, v6)]) rfl ?_
      obtain ⟨g10, h⟩ := gua h
      refine j_cast F q1098 rfl (by decide) g10 dX9_takeChange_34 ?_
      refine j_astore F (lv' := [(4, (false, v6)), (0, (false, x0)), (1, (false, x1)), (2, (false, x2)), (3, (true, x3))]) (by decide) rfl dX9_takeChange_37 ?_
      refine j_aload F 0 rfl dX9_takeChange_39 ?_
      obtain ⟨g11, h⟩ := gua h
      refine j_get F ft_X9_64 rfl g11 dX9_takeChange_41 ?_
      refine j_aload_n F 3 rfl rfl dX9_takeChange_44 ?_
      obtain ⟨g12, h⟩ := gua h
      refine j_get F ft_X9_64 rfl g12 dX9_takeChange_45 ?_
      refine j_icmp_ne F 65 (by decide) dX9_takeChange_48 h (fun h => ?_) (fun h => ?_)
      · skip
        refine j_sub (lv' := [(0, (false, x0)), (1, (false, x1)), (2, (false, x2)), (3, (true, x3))]) [1, 2, 3, 4] rfl ?_
        exact w_X9_takeChange_65 F hno hnm (X9_takeChange_15 n) ih x0 x1 x2 x3 M7 h
      · skip
        refine j_aload F 0 rfl dX9_takeChange_51 ?_
        refine j_aload_n F 2 rfl rfl dX9_takeChange_53 ?_
        refine j_aload F 0 rfl dX9_takeChange_54 ?_
        refine j_get F ft_X9_111 rfl g11 dX9_takeChange_56 ?_
        obtain ⟨g16, h⟩ := gua h
        refine j_callV (d' := 1) (argl := [(true, (fd M7 7 12 v6))]) (rk9 := 1) (st := [(false, v6)]) F hno M_X2_placeAfter q1498 q1499 q1497 ⟨by decide, by decide⟩ (Nat.le_of_ble_eq_true rfl) (by decide) (ci := 3) rfl (by decide) g16 dX9_takeChange_59 rfl h (fun z hz => c_X2_placeAfter l F.ht G x1 (fd M7 7 12 v6) M7 z hz) (fun v13 M14 h kl15 => ?_)
        refine j_st (st' := [(true, v13), (false, v6)]) rfl ?_
        refine j_put (ty := .int) F ft_X9_111 rfl rfl tyX6 tyX6_ok nmX6 (by decide +kernel) (nf_int _) (kl15.is g11) dX9_takeChange_62 ?_
        obtain ⟨M17, hM17⟩ : ∃ Z, Z = sF M14 7 12 v6 v13 := ⟨_, rfl⟩
        have kl18 : kle M14 M17 := by rw [hM17]; exact kle_sF
        rw [← hM17]
        replace h := pt_as h hM17
        refine j_sub (lv' := [(0, (false, x0)), (1, (false, x1)), (2, (false, x2)), (3, (true, x3))]) [1, 2, 3, 4] rfl ?_
        exact w_X9_takeChange_65 F hno hnm (X9_takeChange_15 n) ih x0 x1 x2 x3 M17 h
set_option maxHeartbeats 4000000 in
set_option maxRecDepth 100000 in
theorem w_X9_takeChange_0 {p : Program} {l : Launch} {e : Env} {R : Room} {s : State} {m : MethodId} {args : Array Value} {below : List Frame} {meth : Method} {c : Code} {G : Gt} {ρ0 : Int → Nat} {M0 : Mo} {res : RS} (F : Fx p l R s m args meth c cX9_takeChange 5 RX9 G M0 4 none) (hno : ∀ x ∈ c.exceptionTable.toList, False) (hnm : meth.name = yX9_takeChange.name) (x0 x1 x2 : Int) (M : Mo) (h : X9_takeChange x0 x1 x2 M = some res) : J p l e R s m args below meth c 5 G ρ0 M0 0 res M 0 [(0, (false, x0)), (1, (false, x1)), (2, (false, x2))] [] := by
  unfold X9_takeChange at h
  refine j_aload_n F 1 rfl rfl dX9_takeChange_0 ?_
  obtain ⟨g4, h⟩ := gua h
  refine j_callV (d' := 0) (argl := []) (rk9 := 1) (st := []) F hno M_X2_isHere q468 q469 q1114 ⟨by decide, by decide⟩ (Nat.le_of_ble_eq_true rfl) (by decide) (ci := 3) rfl (by decide) g4 dX9_takeChange_1 rfl h (fun z hz => c_X2_isHere l F.ht G x1 M z hz) (fun v1 M2 h kl3 => ?_)
  refine j_st (st' := [(true, v1)]) rfl ?_
  refine j_if_ne F 8 (by decide) dX9_takeChange_4 h (fun h => ?_) (fun h => ?_)
  · skip
    refine j_aload_n F 1 rfl rfl dX9_takeChange_8 ?_
    refine j_aload_n F 2 rfl rfl dX9_takeChange_9 ?_
    refine j_callV (d' := 3) (argl := [(false, x2)]) (rk9 := 0) (st := []) F hno M_X2_alter q914 q915 q1496 ⟨by decide, by decide⟩ (Nat.le_of_ble_eq_true rfl) (by decide) (ci := 3) rfl (by decide) (kl3.is g4) dX9_takeChange_10 rfl h (fun z hz => c_X2_alter l F.ht G x1 x2 M2 z hz) (fun v5 M6 h kl7 => ?_)
    refine j_st (st' := []) rfl ?_
    refine j_iconst F dX9_takeChange_13 ?_
    refine j_istore_n F (lv' := [(3, (true, 0)), (0, (false, x0)), (1, (false, x1)), (2, (false, x2))]) rfl (by decide) rfl dX9_takeChange_14 ?_
    refine j_sub (lv' := [(0, (false, x0)), (1, (false, x1)), (2, (false, x2)), (3, (true, 0))]) [1, 2, 3, 0] rfl ?_
    exact w_X9_takeChange_15 F hno hnm FU x0 x1 x2 0 M6 h
  · skip
    exact j_vret F (v := 0) h dX9_takeChange_7
theorem c_X9_takeChange (l : Launch) (hl : l.stackTraces = false) (G : Gt) (x0 x1 x2 : Int) (M : Mo) (z : RS) (h : X9_takeChange x0 x1 x2 M = some z) : CT l G yX9_takeChange (cn yX9_takeChange cX9_takeChange 5 none) 4 [(false, x0), (false, x1), (false, x2)] M 0 z :=
  ctOf hl (by decide) (Nat.le_of_ble_eq_true rfl) (fun p e R s m args below meth c ρ F hno hnm => w_X9_takeChange_0 F hno hnm x0 x1 x2 M h)
theorem dX9_forget_0 : decode cX9_forget 0 = .ok (.aload_n 0, 1) := by decide +kernel
theorem dX9_forget_1 : decode cX9_forget 1 = .ok (.getfield 25, 3) := by decide +kernel
theorem dX9_forget_4 : decode cX9_forget 4 = .ok (.invokevirtual 54, 3) := by decide +kernel
theorem dX9_forget_7 : decode cX9_forget 7 = .ok (.iconst 1, 1) := by decide +kernel
theorem dX9_forget_8 : decode cX9_forget 8 = .ok (.isub, 1) := by decide +kernel
theorem dX9_forget_9 : decode cX9_forget 9 = .ok (.istore_n 2, 1) := by decide +kernel
theorem dX9_forget_10 : decode cX9_forget 10 = .ok (.iload_n 2, 1) := by decide +kernel
theorem dX9_forget_11 : decode cX9_forget 11 = .ok (.ifCond .lt 36, 3) := by decide +kernel
theorem dX9_forget_47 : decode cX9_forget 47 = .ok (.return_, 1) := by decide +kernel
theorem dX9_forget_14 : decode cX9_forget 14 = .ok (.aload_n 0, 1) := by decide +kernel
theorem dX9_forget_15 : decode cX9_forget 15 = .ok (.getfield 25, 3) := by decide +kernel
theorem dX9_forget_18 : decode cX9_forget 18 = .ok (.iload_n 2, 1) := by decide +kernel
theorem dX9_forget_19 : decode cX9_forget 19 = .ok (.invokevirtual 129, 3) := by decide +kernel
theorem dX9_forget_22 : decode cX9_forget 22 = .ok (.checkcast 65, 3) := by decide +kernel
set_option maxRecDepth 100000 in
theorem q759 : Cond.fieldLink RX9 118 "ToolPlex$Message" "id" "I" ∈ GT := gt 759 (by decide +kernel) (by decide +kernel)
theorem ft_X9_118 : FT RX9 118 RX6 7 RX6 TX6 17 11 := ⟨rfl, by decide, by decide, q759, Or.inl rfl, inGX6⟩
theorem dX9_forget_25 : decode cX9_forget 25 = .ok (.getfield 118, 3) := by decide +kernel
theorem dX9_forget_28 : decode cX9_forget 28 = .ok (.iload_n 1, 1) := by decide +kernel
theorem dX9_forget_29 : decode cX9_forget 29 = .ok (.if_icmp .ne 12, 3) := by decide +kernel
theorem dX9_forget_32 : decode cX9_forget 32 = .ok (.aload_n 0, 1) := by decide +kernel
theorem dX9_forget_33 : decode cX9_forget 33 = .ok (.getfield 25, 3) := by decide +kernel
theorem dX9_forget_36 : decode cX9_forget 36 = .ok (.iload_n 2, 1) := by decide +kernel
set_option maxRecDepth 100000 in
theorem q1101 : Cond.methodLink RX9 137 yJx4a65c_remove_915e3 ∈ GT := gt 1101 (by decide +kernel) (by decide +kernel)
theorem dX9_forget_37 : decode cX9_forget 37 = .ok (.invokevirtual 137, 3) := by decide +kernel
theorem dX9_forget_40 : decode cX9_forget 40 = .ok (.pop, 1) := by decide +kernel
theorem dX9_forget_41 : decode cX9_forget 41 = .ok (.iinc 2 (-1), 3) := by decide +kernel
theorem dX9_forget_44 : decode cX9_forget 44 = .ok (.goto (-34), 3) := by decide +kernel
set_option maxHeartbeats 4000000 in
set_option maxRecDepth 100000 in
theorem w_X9_forget_41 {p : Program} {l : Launch} {e : Env} {R : Room} {s : State} {m : MethodId} {args : Array Value} {below : List Frame} {meth : Method} {c : Code} {G : Gt} {ρ0 : Int → Nat} {M0 : Mo} {res : RS} (F : Fx p l R s m args meth c cX9_forget 3 RX9 G M0 3 none) (hno : ∀ x ∈ c.exceptionTable.toList, False) (hnm : meth.name = yX9_forget.name) (k10 : Int → Int → Int → Mo → Option RS) (hk10 : ∀ (x0 x1 x2 : Int) (M : Mo), k10 x0 x1 x2 M = some res → J p l e R s m args below meth c 3 G ρ0 M0 0 res M 10 [(0, (false, x0)), (1, (true, x1)), (2, (true, x2))] []) (x0 x1 x2 : Int) (M : Mo) (h : X9_forget_41 k10 x0 x1 x2 M = some res) : J p l e R s m args below meth c 3 G ρ0 M0 0 res M 41 [(0, (false, x0)), (1, (true, x1)), (2, (true, x2))] [] := by
  unfold X9_forget_41 at h
  refine j_iinc F 2 (lv' := [(2, (true, (x2 + (-1)))), (0, (false, x0)), (1, (true, x1))]) rfl (by decide) rfl dX9_forget_41 ?_
  refine j_goto F 10 (by decide) dX9_forget_44 ?_
  refine j_sub (lv' := [(0, (false, x0)), (1, (true, x1)), (2, (true, (x2 + (-1))))]) [1, 2, 0] rfl ?_
  exact hk10 x0 x1 (x2 + (-1)) M h
set_option maxHeartbeats 4000000 in
set_option maxRecDepth 100000 in
theorem w_X9_forget_10 {p : Program} {l : Launch} {e : Env} {R : Room} {s : State} {m : MethodId} {args : Array Value} {below : List Frame} {meth : Method} {c : Code} {G : Gt} {ρ0 : Int → Nat} {M0 : Mo} {res : RS} (F : Fx p l R s m args meth c cX9_forget 3 RX9 G M0 3 none) (hno : ∀ x ∈ c.exceptionTable.toList, False) (hnm : meth.name = yX9_forget.name) (n : Nat) : ∀ (x0 x1 x2 : Int) (M : Mo), X9_forget_10 n x0 x1 x2 M = some res → J p l e R s m args below meth c 3 G ρ0 M0 0 res M 10 [(0, (false, x0)), (1, (true, x1)), (2, (true, x2))] [] := by
  induction n with
  | zero => intro x0 x1 x2 M h; cases h
  | succ n ih =>
    intro x0 x1 x2 M h
    rw [X9_forget_10] at h
    refine j_iload_n F 2 rfl rfl dX9_forget_10 ?_
    refine j_if_lt F 47 (by decide) dX9_forget_11 h (fun h => ?_) (fun h => ?_)
    · skip
      exact j_vret F (v := 0) h dX9_forget_47
    · skip
      refine j_aload_n F 0 rfl rfl dX9_forget_14 ?_
      obtain ⟨g1, h⟩ := gua h
      refine j_get F ft_X9_25 rfl g1 dX9_forget_15 ?_
      refine j_iload_n F 2 rfl rfl dX9_forget_18 ?_
      obtain ⟨g5, h⟩ := gua h
      refine j_callV (d' := 2) (argl := [(true, x2)]) (rk9 := 2) (st := []) F hno M_Jx4a65c_get_915e3 q856 q857 q1100 ⟨by decide, by decide⟩ (Nat.le_of_ble_eq_true rfl) (by decide) (ci := 0) rfl (by decide) g5 dX9_forget_19 rfl h (fun z hz => c_Jx4a65c_get_915e3 l F.ht G (fd M 10 6 x0) x2 M z hz) (fun v2 M3 h kl4 => ?_)
      refine j_st (st' := [(false, v2)]) rfl ?_
      obtain ⟨g6, h⟩ := gua h
      refine j_cast F q1098 rfl (by decide) g6 dX9_forget_22 ?_
      obtain ⟨g7, h⟩ := gua h
      refine j_get F ft_X9_118 rfl g7 dX9_forget_25 ?_
      refine j_iload_n F 1 rfl rfl dX9_forget_28 ?_
      refine j_icmp_ne F 41 (by decide) dX9_forget_29 h (fun h => ?_) (fun h => ?_)
      · skip
        refine j_sub (lv' := [(0, (false, x0)), (1, (true, x1)), (2, (true, x2))]) [0, 1, 2] rfl ?_
        exact w_X9_forget_41 F hno hnm (X9_forget_10 n) ih x0 x1 x2 M3 h
      · skip
        refine j_aload_n F 0 rfl rfl dX9_forget_32 ?_
        refine j_get F ft_X9_25 rfl (kl4.is g1) dX9_forget_33 ?_
        refine j_iload_n F 2 rfl rfl dX9_forget_36 ?_
        obtain ⟨g11, h⟩ := gua h
        refine j_callV (d' := 2) (argl := [(true, x2)]) (rk9 := 2) (st := []) F hno M_Jx4a65c_remove_915e3 q1102 q1103 q1101 ⟨by decide, by decide⟩ (Nat.le_of_ble_eq_true rfl) (by decide) (ci := 0) rfl (by decide) g11 dX9_forget_37 rfl h (fun z hz => c_Jx4a65c_remove_915e3 l F.ht G (fd M3 10 6 x0) x2 M3 z hz) (fun v8 M9 h kl10 => ?_)
        refine j_st (st' := [(false, v8)]) rfl ?_
        refine j_pop F dX9_forget_40 ?_
        refine j_sub (lv' := [(0, (false, x0)), (1, (true, x1)), (2, (true, x2))]) [0, 1, 2] rfl ?_
        exact w_X9_forget_41 F hno hnm (X9_forget_10 n) ih x0 x1 x2 M9 h
set_option maxHeartbeats 4000000 in
set_option maxRecDepth 100000 in
theorem w_X9_forget_0 {p : Program} {l : Launch} {e : Env} {R : Room} {s : State} {m : MethodId} {args : Array Value} {below : List Frame} {meth : Method} {c : Code} {G : Gt} {ρ0 : Int → Nat} {M0 : Mo} {res : RS} (F : Fx p l R s m args meth c cX9_forget 3 RX9 G M0 3 none) (hno : ∀ x ∈ c.exceptionTable.toList, False) (hnm : meth.name = yX9_forget.name) (x0 x1 : Int) (M : Mo) (h : X9_forget x0 x1 M = some res) : J p l e R s m args below meth c 3 G ρ0 M0 0 res M 0 [(0, (false, x0)), (1, (true, x1))] [] := by
  unfold X9_forget at h
  refine j_aload_n F 0 rfl rfl dX9_forget_0 ?_
  obtain ⟨g1, h⟩ := gua h
  refine j_get F ft_X9_25 rfl g1 dX9_forget_1 ?_
  obtain ⟨g5, h⟩ := gua h
  refine j_callV (d' := 0) (argl := []) (rk9 := 1) (st := []) F hno M_Jx4a65c_size_8abf5 q448 q449 q1092 ⟨by decide, by decide⟩ (Nat.le_of_ble_eq_true rfl) (by decide) (ci := 0) rfl (by decide) g5 dX9_forget_4 rfl h (fun z hz => c_Jx4a65c_size_8abf5 l F.ht G (fd M 10 6 x0) M z hz) (fun v2 M3 h kl4 => ?_)
  refine j_st (st' := [(true, v2)]) rfl ?_
  refine j_iconst F dX9_forget_7 ?_
  refine j_isub F dX9_forget_8 ?_
  refine j_istore_n F (lv' := [(2, (true, (v2 - 1))), (0, (false, x0)), (1, (true, x1))]) rfl (by decide) rfl dX9_forget_9 ?_
  refine j_sub (lv' := [(0, (false, x0)), (1, (true, x1)), (2, (true, (v2 - 1)))]) [1, 2, 0] rfl ?_
  exact w_X9_forget_10 F hno hnm FU x0 x1 (v2 - 1) M3 h
theorem c_X9_forget (l : Launch) (hl : l.stackTraces = false) (G : Gt) (x0 x1 : Int) (M : Mo) (z : RS) (h : X9_forget x0 x1 M = some z) : CT l G yX9_forget (cn yX9_forget cX9_forget 3 none) 3 [(false, x0), (true, x1)] M 0 z :=
  ctOf hl (by decide) (Nat.le_of_ble_eq_true rfl) (fun p e R s m args below meth c ρ F hno hnm => w_X9_forget_0 F hno hnm x0 x1 M h)
theorem dX9_take_0 : decode cX9_take 0 = .ok (.aload_n 0, 1) := by decide +kernel
theorem dX9_take_1 : decode cX9_take 1 = .ok (.aload_n 1, 1) := by decide +kernel
theorem dX9_take_2 : decode cX9_take 2 = .ok (.getfield 64, 3) := by decide +kernel
set_option maxRecDepth 100000 in
theorem q1113 : Cond.code yX9_copyOf cX9_copyOf 2 (some (FieldType.object "ToolPlex$Copy")) ∈ GT := gt 1113 (rfl) (by decide +kernel)
set_option maxRecDepth 100000 in
theorem q72 : Cond.initialized RX9 ∈ GT := gt 72 (by decide +kernel) (by decide +kernel)
theorem M_X9_copyOf : MY yX9_copyOf cX9_copyOf 2 (some (FieldType.object "ToolPlex$Copy")) 1 := ⟨q1113, q72, by decide +kernel, by decide +kernel⟩
set_option maxRecDepth 100000 in
theorem q1111 : Cond.instanceMethod yX9_copyOf ∈ GT := gt 1111 (by decide +kernel) (by decide +kernel)
set_option maxRecDepth 100000 in
theorem q1112 : Cond.selects RX9 yX9_copyOf yX9_copyOf ∈ GT := gt 1112 (by decide +kernel) (by decide +kernel)
set_option maxRecDepth 100000 in
theorem q1110 : Cond.methodLink RX9 69 yX9_copyOf ∈ GT := gt 1110 (by decide +kernel) (by decide +kernel)
theorem dX9_take_5 : decode cX9_take 5 = .ok (.invokevirtual 69, 3) := by decide +kernel
theorem dX9_take_8 : decode cX9_take 8 = .ok (.astore_n 2, 1) := by decide +kernel
theorem dX9_take_9 : decode cX9_take 9 = .ok (.aload_n 1, 1) := by decide +kernel
set_option maxRecDepth 100000 in
theorem q716 : Cond.fieldLink RX9 73 "ToolPlex$Message" "kind" "I" ∈ GT := gt 716 (by decide +kernel) (by decide +kernel)
theorem ft_X9_73 : FT RX9 73 RX6 7 RX6 TX6 17 0 := ⟨rfl, by decide, by decide, q716, Or.inl rfl, inGX6⟩
theorem dX9_take_10 : decode cX9_take 10 = .ok (.getfield 73, 3) := by decide +kernel
theorem dX9_take_13 : decode cX9_take 13 = .ok (.tableswitch 115 0 3 #[31, 57, 66, 73], 31) := by decide +kernel
theorem dX9_take_44 : decode cX9_take 44 = .ok (.aload_n 1, 1) := by decide +kernel
set_option maxRecDepth 100000 in
theorem q766 : Cond.fieldLink RX9 76 "ToolPlex$Message" "text" "LToolPlex$Text;" ∈ GT := gt 766 (by decide +kernel) (by decide +kernel)
theorem ft_X9_76 : FT RX9 76 RX6 7 RX6 TX6 17 14 := ⟨rfl, by decide, by decide, q766, Or.inl rfl, inGX6⟩
theorem dX9_take_45 : decode cX9_take 45 = .ok (.getfield 76, 3) := by decide +kernel
theorem dX9_take_48 : decode cX9_take 48 = .ok (.ifnull 88, 3) := by decide +kernel
theorem dX9_take_136 : decode cX9_take 136 = .ok (.return_, 1) := by decide +kernel
theorem dX9_take_51 : decode cX9_take 51 = .ok (.aload_n 2, 1) := by decide +kernel
theorem dX9_take_52 : decode cX9_take 52 = .ok (.aload_n 1, 1) := by decide +kernel
set_option maxRecDepth 100000 in
theorem q736 : Cond.fieldLink RX9 80 "ToolPlex$Message" "version" "I" ∈ GT := gt 736 (by decide +kernel) (by decide +kernel)
theorem ft_X9_80 : FT RX9 80 RX6 7 RX6 TX6 17 5 := ⟨rfl, by decide, by decide, q736, Or.inl rfl, inGX6⟩
theorem dX9_take_53 : decode cX9_take 53 = .ok (.getfield 80, 3) := by decide +kernel
theorem dX9_take_56 : decode cX9_take 56 = .ok (.aload_n 1, 1) := by decide +kernel
theorem dX9_take_57 : decode cX9_take 57 = .ok (.getfield 76, 3) := by decide +kernel
theorem dX9_take_60 : decode cX9_take 60 = .ok (.aload_n 1, 1) := by decide +kernel
set_option maxRecDepth 100000 in
theorem q724 : Cond.fieldLink RX9 83 "ToolPlex$Message" "editor" "I" ∈ GT := gt 724 (by decide +kernel) (by decide +kernel)
theorem ft_X9_83 : FT RX9 83 RX6 7 RX6 TX6 17 2 := ⟨rfl, by decide, by decide, q724, Or.inl rfl, inGX6⟩
theorem dX9_take_61 : decode cX9_take 61 = .ok (.getfield 83, 3) := by decide +kernel
set_option maxRecDepth 100000 in
theorem q696 : Cond.code yX2_begin cX2_begin 4 none ∈ GT := gt 696 (rfl) (by decide +kernel)
theorem M_X2_begin : MY yX2_begin cX2_begin 4 none 3 := ⟨q696, q61, by decide +kernel, by decide +kernel⟩
set_option maxRecDepth 100000 in
theorem q694 : Cond.instanceMethod yX2_begin ∈ GT := gt 694 (by decide +kernel) (by decide +kernel)
set_option maxRecDepth 100000 in
theorem q695 : Cond.selects RX2 yX2_begin yX2_begin ∈ GT := gt 695 (by decide +kernel) (by decide +kernel)
set_option maxRecDepth 100000 in
theorem q1491 : Cond.methodLink RX9 86 yX2_begin ∈ GT := gt 1491 (by decide +kernel) (by decide +kernel)
theorem dX9_take_64 : decode cX9_take 64 = .ok (.invokevirtual 86, 3) := by decide +kernel
theorem dX9_take_67 : decode cX9_take 67 = .ok (.goto 69, 3) := by decide +kernel
theorem dX9_take_70 : decode cX9_take 70 = .ok (.aload_n 0, 1) := by decide +kernel
theorem dX9_take_71 : decode cX9_take 71 = .ok (.aload_n 2, 1) := by decide +kernel
theorem dX9_take_72 : decode cX9_take 72 = .ok (.aload_n 1, 1) := by decide +kernel
set_option maxRecDepth 100000 in
theorem q1495 : Cond.code yX9_takeChange cX9_takeChange 5 none ∈ GT := gt 1495 (rfl) (by decide +kernel)
theorem M_X9_takeChange : MY yX9_takeChange cX9_takeChange 5 none 2 := ⟨q1495, q72, by decide +kernel, by decide +kernel⟩
set_option maxRecDepth 100000 in
theorem q1494 : Cond.instanceMethod yX9_takeChange ∈ GT := gt 1494 (by decide +kernel) (by decide +kernel)
set_option maxRecDepth 100000 in
theorem q46 : Cond.selects RX9 yX9_takeChange yX9_takeChange ∈ GT := gt 46 (by decide +kernel) (by decide +kernel)
set_option maxRecDepth 100000 in
theorem q1492 : Cond.methodLink RX9 90 yX9_takeChange ∈ GT := gt 1492 (by decide +kernel) (by decide +kernel)
theorem dX9_take_73 : decode cX9_take 73 = .ok (.invokevirtual 90, 3) := by decide +kernel
theorem dX9_take_76 : decode cX9_take 76 = .ok (.goto 60, 3) := by decide +kernel
theorem dX9_take_79 : decode cX9_take 79 = .ok (.aload_n 2, 1) := by decide +kernel
theorem dX9_take_80 : decode cX9_take 80 = .ok (.invokevirtual 61, 3) := by decide +kernel
theorem dX9_take_83 : decode cX9_take 83 = .ok (.goto 53, 3) := by decide +kernel
theorem dX9_take_86 : decode cX9_take 86 = .ok (.aload_n 1, 1) := by decide +kernel
theorem dX9_take_87 : decode cX9_take 87 = .ok (.aload_n 2, 1) := by decide +kernel
theorem dX9_take_88 : decode cX9_take 88 = .ok (.invokevirtual 94, 3) := by decide +kernel
theorem dX9_take_91 : decode cX9_take 91 = .ok (.ifCond .eq 21, 3) := by decide +kernel
theorem dX9_take_112 : decode cX9_take 112 = .ok (.iconst 0, 1) := by decide +kernel
theorem dX9_take_94 : decode cX9_take 94 = .ok (.aload_n 2, 1) := by decide +kernel
set_option maxRecDepth 100000 in
theorem q192 : Cond.fieldLink RX9 98 "ToolPlex$Copy" "text" "LToolPlex$Text;" ∈ GT := gt 192 (by decide +kernel) (by decide +kernel)
theorem ft_X9_98 : FT RX9 98 RX2 3 RX2 TX2 7 0 := ⟨rfl, by decide, by decide, q192, Or.inl rfl, inGX2⟩
theorem dX9_take_95 : decode cX9_take 95 = .ok (.getfield 98, 3) := by decide +kernel
theorem dX9_take_98 : decode cX9_take 98 = .ok (.aload_n 1, 1) := by decide +kernel
set_option maxRecDepth 100000 in
theorem q739 : Cond.fieldLink RX9 99 "ToolPlex$Message" "line" "I" ∈ GT := gt 739 (by decide +kernel) (by decide +kernel)
theorem ft_X9_99 : FT RX9 99 RX6 7 RX6 TX6 17 6 := ⟨rfl, by decide, by decide, q739, Or.inl rfl, inGX6⟩
theorem dX9_take_99 : decode cX9_take 99 = .ok (.getfield 99, 3) := by decide +kernel
theorem dX9_take_102 : decode cX9_take 102 = .ok (.aload_n 1, 1) := by decide +kernel
set_option maxRecDepth 100000 in
theorem q744 : Cond.fieldLink RX9 102 "ToolPlex$Message" "unit" "I" ∈ GT := gt 744 (by decide +kernel) (by decide +kernel)
theorem ft_X9_102 : FT RX9 102 RX6 7 RX6 TX6 17 7 := ⟨rfl, by decide, by decide, q744, Or.inl rfl, inGX6⟩
theorem dX9_take_103 : decode cX9_take 103 = .ok (.getfield 102, 3) := by decide +kernel
set_option maxRecDepth 100000 in
theorem q1502 : Cond.methodLink RX9 105 yX10_placeOf ∈ GT := gt 1502 (by decide +kernel) (by decide +kernel)
theorem dX9_take_106 : decode cX9_take 106 = .ok (.invokevirtual 105, 3) := by decide +kernel
theorem dX9_take_109 : decode cX9_take 109 = .ok (.goto 4, 3) := by decide +kernel
theorem dX9_take_128 : decode cX9_take 128 = .ok (.aload_n 0, 1) := by decide +kernel
theorem dX9_take_129 : decode cX9_take 129 = .ok (.aload_n 1, 1) := by decide +kernel
theorem dX9_take_130 : decode cX9_take 130 = .ok (.getfield 118, 3) := by decide +kernel
set_option maxRecDepth 100000 in
theorem q1507 : Cond.code yX9_forget cX9_forget 3 none ∈ GT := gt 1507 (rfl) (by decide +kernel)
theorem M_X9_forget : MY yX9_forget cX9_forget 3 none 1 := ⟨q1507, q72, by decide +kernel, by decide +kernel⟩
set_option maxRecDepth 100000 in
theorem q1506 : Cond.instanceMethod yX9_forget ∈ GT := gt 1506 (by decide +kernel) (by decide +kernel)
set_option maxRecDepth 100000 in
theorem q47 : Cond.selects RX9 yX9_forget yX9_forget ∈ GT := gt 47 (by decide +kernel) (by decide +kernel)
set_option maxRecDepth 100000 in
theorem q1504 : Cond.methodLink RX9 121 yX9_forget ∈ GT := gt 1504 (by decide +kernel) (by decide +kernel)
theorem dX9_take_133 : decode cX9_take 133 = .ok (.invokevirtual 121, 3) := by decide +kernel
theorem dX9_take_113 : decode cX9_take 113 = .ok (.putfield 111, 3) := by decide +kernel
theorem dX9_take_116 : decode cX9_take 116 = .ok (.aload_n 0, 1) := by decide +kernel
theorem dX9_take_117 : decode cX9_take 117 = .ok (.getfield 25, 3) := by decide +kernel
theorem dX9_take_120 : decode cX9_take 120 = .ok (.aload_n 1, 1) := by decide +kernel
set_option maxRecDepth 100000 in
theorem q1503 : Cond.methodLink RX9 114 yJx4a65c_add_9ea2d ∈ GT := gt 1503 (by decide +kernel) (by decide +kernel)
theorem dX9_take_121 : decode cX9_take 121 = .ok (.invokevirtual 114, 3) := by decide +kernel
theorem dX9_take_124 : decode cX9_take 124 = .ok (.pop, 1) := by decide +kernel
theorem dX9_take_125 : decode cX9_take 125 = .ok (.goto 11, 3) := by decide +kernel
set_option maxHeartbeats 4000000 in
set_option maxRecDepth 100000 in
theorem w_X9_take_113 {p : Program} {l : Launch} {e : Env} {R : Room} {s : State} {m : MethodId} {args : Array Value} {below : List Frame} {meth : Method} {c : Code} {G : Gt} {ρ0 : Int → Nat} {M0 : Mo} {res : RS} (F : Fx p l R s m args meth c cX9_take 3 RX9 G M0 7 none) (hno : ∀ x ∈ c.exceptionTable.toList, False) (hnm : meth.name = yX9_take.name) (x0 x1 y0 y1 : Int) (M : Mo) (h : X9_take_113 x0 x1 y0 y1 M = some res) : J p l e R s m args below meth c 3 G ρ0 M0 0 res M 113 [(0, (false, x0)), (1, (false, x1))] [(true, y1), (false, y0)] := by
  unfold X9_take_113 at h
  obtain ⟨g1, h⟩ := gua h
  refine j_put (ty := .int) F ft_X9_111 rfl rfl tyX6 tyX6_ok nmX6 (by decide +kernel) (nf_int _) g1 dX9_take_113 ?_
  obtain ⟨M2, hM2⟩ : ∃ Z, Z = sF M 7 12 y0 y1 := ⟨_, rfl⟩
  have kl3 : kle M M2 := by rw [hM2]; exact kle_sF
  rw [← hM2]
  replace h := pt_as h hM2
  refine j_aload_n F 0 rfl rfl dX9_take_116 ?_
  obtain ⟨g4, h⟩ := gua h
  refine j_get F ft_X9_25 rfl g4 dX9_take_117 ?_
  refine j_aload_n F 1 rfl rfl dX9_take_120 ?_
  obtain ⟨g8, h⟩ := gua h
  refine j_callV (d' := 6) (argl := [(false, x1)]) (rk9 := 1) (st := []) F hno M_Jx4a65c_add_9ea2d q515 q516 q1503 ⟨by decide, by decide⟩ (Nat.le_of_ble_eq_true rfl) (by decide) (ci := 0) rfl (by decide) g8 dX9_take_121 rfl h (fun z hz => c_Jx4a65c_add_9ea2d l F.ht G (fd M2 10 6 x0) x1 M2 z hz) (fun v5 M6 h kl7 => ?_)
  refine j_st (st' := [(true, v5)]) rfl ?_
  refine j_pop F dX9_take_124 ?_
  refine j_goto F 136 (by decide) dX9_take_125 ?_
  exact j_vret F (v := 0) h dX9_take_136
set_option maxHeartbeats 4000000 in
set_option maxRecDepth 100000 in
theorem w_X9_take_0 {p : Program} {l : Launch} {e : Env} {R : Room} {s : State} {m : MethodId} {args : Array Value} {below : List Frame} {meth : Method} {c : Code} {G : Gt} {ρ0 : Int → Nat} {M0 : Mo} {res : RS} (F : Fx p l R s m args meth c cX9_take 3 RX9 G M0 7 none) (hno : ∀ x ∈ c.exceptionTable.toList, False) (hnm : meth.name = yX9_take.name) (x0 x1 : Int) (M : Mo) (h : X9_take x0 x1 M = some res) : J p l e R s m args below meth c 3 G ρ0 M0 0 res M 0 [(0, (false, x0)), (1, (false, x1))] [] := by
  unfold X9_take at h
  refine j_aload_n F 0 rfl rfl dX9_take_0 ?_
  refine j_aload_n F 1 rfl rfl dX9_take_1 ?_
  obtain ⟨g1, h⟩ := gua h
  refine j_get F ft_X9_64 rfl g1 dX9_take_2 ?_
  obtain ⟨g5, h⟩ := gua h
  refine j_callV (d' := 0) (argl := [(true, (fd M 7 1 x1))]) (rk9 := 2) (st := []) F hno M_X9_copyOf q1111 q1112 q1110 ⟨by decide, by decide⟩ (Nat.le_of_ble_eq_true rfl) (by decide) (ci := 10) rfl (by decide) g5 dX9_take_5 rfl h (fun z hz => c_X9_copyOf l F.ht G x0 (fd M 7 1 x1) M z hz) (fun v2 M3 h kl4 => ?_)
  refine j_st (st' := [(false, v2)]) rfl ?_
  refine j_astore_n F (lv' := [(2, (false, v2)), (0, (false, x0)), (1, (false, x1))]) rfl (by decide) rfl dX9_take_8 ?_
  refine j_aload_n F 2 rfl rfl dX9_take_9 ?_
  refine j_get F ft_X9_73 rfl (kl4.is g1) dX9_take_10 ?_
  by_cases c0 : wr (fd M3 7 0 x1) = 0
  · rw [if_pos c0] at h
    refine j_tableIn F 44 (by rw [c0]; decide) (off := 31) (by rw [c0]; rfl) (by decide) dX9_take_13 ?_
    refine j_aload_n F 2 rfl rfl dX9_take_44 ?_
    refine j_get F ft_X9_76 rfl (kl4.is g1) dX9_take_45 ?_
    refine j_ifnull F 136 (by decide) dX9_take_48 h (fun h => ?_) (fun h => ?_)
    · skip
      exact j_vret F (v := 0) h dX9_take_136
    · skip
      refine j_aload_n F 0 rfl rfl dX9_take_51 ?_
      refine j_aload_n F 2 rfl rfl dX9_take_52 ?_
      refine j_get F ft_X9_80 rfl (kl4.is g1) dX9_take_53 ?_
      refine j_aload_n F 2 rfl rfl dX9_take_56 ?_
      refine j_get F ft_X9_76 rfl (kl4.is g1) dX9_take_57 ?_
      refine j_aload_n F 2 rfl rfl dX9_take_60 ?_
      refine j_get F ft_X9_83 rfl (kl4.is g1) dX9_take_61 ?_
      obtain ⟨g9, h⟩ := gua h
      refine j_callV (d' := 3) (argl := [(true, (fd M3 7 5 x1)), (false, (fd M3 7 14 x1)), (true, (fd M3 7 2 x1))]) (rk9 := 0) (st := []) F hno M_X2_begin q694 q695 q1491 ⟨by decide, by decide⟩ (Nat.le_of_ble_eq_true rfl) (by decide) (ci := 3) rfl (by decide) g9 dX9_take_64 rfl h (fun z hz => c_X2_begin l F.ht G v2 (fd M3 7 5 x1) (fd M3 7 14 x1) (fd M3 7 2 x1) M3 z hz) (fun v6 M7 h kl8 => ?_)
      refine j_st (st' := []) rfl ?_
      refine j_goto F 136 (by decide) dX9_take_67 ?_
      exact j_vret F (v := 0) h dX9_take_136
  · rw [if_neg c0] at h
    by_cases c1 : wr (fd M3 7 0 x1) = 1
    · rw [if_pos c1] at h
      refine j_tableIn F 70 (by rw [c1]; decide) (off := 57) (by rw [c1]; rfl) (by decide) dX9_take_13 ?_
      refine j_aload_n F 1 rfl rfl dX9_take_70 ?_
      refine j_aload_n F 0 rfl rfl dX9_take_71 ?_
      refine j_aload_n F 2 rfl rfl dX9_take_72 ?_
      refine j_callV (d' := 4) (argl := [(false, v2), (false, x1)]) (rk9 := 0) (st := []) F hno M_X9_takeChange q1494 q46 q1492 ⟨by decide, by decide⟩ (Nat.le_of_ble_eq_true rfl) (by decide) (ci := 10) rfl (by decide) (kl4.is g5) dX9_take_73 rfl h (fun z hz => c_X9_takeChange l F.ht G x0 v2 x1 M3 z hz) (fun v10 M11 h kl12 => ?_)
      refine j_st (st' := []) rfl ?_
      refine j_goto F 136 (by decide) dX9_take_76 ?_
      exact j_vret F (v := 0) h dX9_take_136
    · rw [if_neg c1] at h
      by_cases c2 : wr (fd M3 7 0 x1) = 2
      · rw [if_pos c2] at h
        refine j_tableIn F 79 (by rw [c2]; decide) (off := 66) (by rw [c2]; rfl) (by decide) dX9_take_13 ?_
        refine j_aload_n F 0 rfl rfl dX9_take_79 ?_
        obtain ⟨g16, h⟩ := gua h
        refine j_callV (d' := 0) (argl := []) (rk9 := 0) (st := []) F hno M_X2_end q843 q844 q1231 ⟨by decide, by decide⟩ (Nat.le_of_ble_eq_true rfl) (by decide) (ci := 3) rfl (by decide) g16 dX9_take_80 rfl h (fun z hz => c_X2_end l F.ht G v2 M3 z hz) (fun v13 M14 h kl15 => ?_)
        refine j_st (st' := []) rfl ?_
        refine j_goto F 136 (by decide) dX9_take_83 ?_
        exact j_vret F (v := 0) h dX9_take_136
      · rw [if_neg c2] at h
        by_cases c3 : wr (fd M3 7 0 x1) = 3
        · rw [if_pos c3] at h
          refine j_tableIn F 86 (by rw [c3]; decide) (off := 73) (by rw [c3]; rfl) (by decide) dX9_take_13 ?_
          refine j_aload_n F 2 rfl rfl dX9_take_86 ?_
          refine j_aload_n F 0 rfl rfl dX9_take_87 ?_
          obtain ⟨g20, h⟩ := gua h
          refine j_callV (d' := 0) (argl := []) (rk9 := 1) (st := [(false, x1)]) F hno M_X2_isHere q468 q469 q1114 ⟨by decide, by decide⟩ (Nat.le_of_ble_eq_true rfl) (by decide) (ci := 3) rfl (by decide) g20 dX9_take_88 rfl h (fun z hz => c_X2_isHere l F.ht G v2 M3 z hz) (fun v17 M18 h kl19 => ?_)
          refine j_st (st' := [(true, v17), (false, x1)]) rfl ?_
          refine j_if_eq F 112 (by decide) dX9_take_91 h (fun h => ?_) (fun h => ?_)
          · skip
            refine j_iconst F dX9_take_112 ?_
            refine j_sub (lv' := [(0, (false, x0)), (1, (false, x1))]) [1, 2] rfl ?_
            exact w_X9_take_113 F hno hnm x0 x1 x1 0 M18 h
          · skip
            refine j_aload_n F 0 rfl rfl dX9_take_94 ?_
            refine j_get F ft_X9_98 rfl (kl19.is g20) dX9_take_95 ?_
            refine j_aload_n F 2 rfl rfl dX9_take_98 ?_
            refine j_get F ft_X9_99 rfl (kl19.is (kl4.is g1)) dX9_take_99 ?_
            refine j_aload_n F 2 rfl rfl dX9_take_102 ?_
            refine j_get F ft_X9_102 rfl (kl19.is (kl4.is g1)) dX9_take_103 ?_
            obtain ⟨g24, h⟩ := gua h
            refine j_callV (d' := 2) (argl := [(true, (fd M18 7 6 x1)), (true, (fd M18 7 7 x1))]) (rk9 := 1) (st := [(false, x1)]) F hno M_X10_placeOf q892 q893 q1502 ⟨by decide, by decide⟩ (Nat.le_of_ble_eq_true rfl) (by decide) (ci := 11) rfl (by decide) g24 dX9_take_106 rfl h (fun z hz => c_X10_placeOf l F.ht G (fd M18 3 0 v2) (fd M18 7 6 x1) (fd M18 7 7 x1) M18 z hz) (fun v21 M22 h kl23 => ?_)
            refine j_st (st' := [(true, v21), (false, x1)]) rfl ?_
            refine j_goto F 113 (by decide) dX9_take_109 ?_
            refine j_sub (lv' := [(0, (false, x0)), (1, (false, x1))]) [1, 2] rfl ?_
            exact w_X9_take_113 F hno hnm x0 x1 x1 v21 M22 h
        · rw [if_neg c3] at h
          refine j_tableOut F 128 (by omega) (by decide) dX9_take_13 ?_
          refine j_aload_n F 1 rfl rfl dX9_take_128 ?_
          refine j_aload_n F 2 rfl rfl dX9_take_129 ?_
          refine j_get F ft_X9_118 rfl (kl4.is g1) dX9_take_130 ?_
          refine j_callV (d' := 3) (argl := [(true, (fd M3 7 11 x1))]) (rk9 := 0) (st := []) F hno M_X9_forget q1506 q47 q1504 ⟨by decide, by decide⟩ (Nat.le_of_ble_eq_true rfl) (by decide) (ci := 10) rfl (by decide) (kl4.is g5) dX9_take_133 rfl h (fun z hz => c_X9_forget l F.ht G x0 (fd M3 7 11 x1) M3 z hz) (fun v25 M26 h kl27 => ?_)
          refine j_st (st' := []) rfl ?_
          exact j_vret F (v := 0) h dX9_take_136
theorem c_X9_take (l : Launch) (hl : l.stackTraces = false) (G : Gt) (x0 x1 : Int) (M : Mo) (z : RS) (h : X9_take x0 x1 M = some z) : CT l G yX9_take (cn yX9_take cX9_take 3 none) 7 [(false, x0), (false, x1)] M 0 z :=
  ctOf hl (by decide) (Nat.le_of_ble_eq_true rfl) (fun p e R s m args below meth c ρ F hno hnm => w_X9_take_0 F hno hnm x0 x1 M h)
theorem dX9_findLonger_0 : decode cX9_findLonger 0 = .ok (.aload_n 2, 1) := by decide +kernel
theorem dX9_findLonger_1 : decode cX9_findLonger 1 = .ok (.iconst 0, 1) := by decide +kernel
theorem dX9_findLonger_2 : decode cX9_findLonger 2 = .ok (.aload_n 0, 1) := by decide +kernel
theorem dX9_findLonger_3 : decode cX9_findLonger 3 = .ok (.getfield 47, 3) := by decide +kernel
set_option maxRecDepth 100000 in
theorem q1140 : Cond.methodLink RX9 208 yX10_nextRun ∈ GT := gt 1140 (by decide +kernel) (by decide +kernel)
theorem dX9_findLonger_6 : decode cX9_findLonger 6 = .ok (.invokevirtual 208, 3) := by decide +kernel
theorem dX9_findLonger_9 : decode cX9_findLonger 9 = .ok (.istore 5, 2) := by decide +kernel
theorem dX9_findLonger_11 : decode cX9_findLonger 11 = .ok (.bipush 100, 2) := by decide +kernel
theorem dX9_findLonger_13 : decode cX9_findLonger 13 = .ok (.istore 6, 2) := by decide +kernel
theorem dX9_findLonger_15 : decode cX9_findLonger 15 = .ok (.iload 6, 2) := by decide +kernel
theorem dX9_findLonger_17 : decode cX9_findLonger 17 = .ok (.ifCond .le 80, 3) := by decide +kernel
theorem dX9_findLonger_97 : decode cX9_findLonger 97 = .ok (.return_, 1) := by decide +kernel
theorem dX9_findLonger_20 : decode cX9_findLonger 20 = .ok (.iload 5, 2) := by decide +kernel
theorem dX9_findLonger_22 : decode cX9_findLonger 22 = .ok (.iconst (-1), 1) := by decide +kernel
theorem dX9_findLonger_23 : decode cX9_findLonger 23 = .ok (.if_icmp .eq 74, 3) := by decide +kernel
theorem dX9_findLonger_26 : decode cX9_findLonger 26 = .ok (.aload_n 2, 1) := by decide +kernel
theorem dX9_findLonger_27 : decode cX9_findLonger 27 = .ok (.iload 5, 2) := by decide +kernel
set_option maxRecDepth 100000 in
theorem q1135 : Cond.methodLink RX9 170 yX10_runEnd ∈ GT := gt 1135 (by decide +kernel) (by decide +kernel)
theorem dX9_findLonger_29 : decode cX9_findLonger 29 = .ok (.invokevirtual 170, 3) := by decide +kernel
theorem dX9_findLonger_32 : decode cX9_findLonger 32 = .ok (.istore 7, 2) := by decide +kernel
theorem dX9_findLonger_34 : decode cX9_findLonger 34 = .ok (.iload 7, 2) := by decide +kernel
theorem dX9_findLonger_36 : decode cX9_findLonger 36 = .ok (.iload 5, 2) := by decide +kernel
theorem dX9_findLonger_38 : decode cX9_findLonger 38 = .ok (.isub, 1) := by decide +kernel
theorem dX9_findLonger_39 : decode cX9_findLonger 39 = .ok (.iload 4, 2) := by decide +kernel
theorem dX9_findLonger_41 : decode cX9_findLonger 41 = .ok (.iload_n 3, 1) := by decide +kernel
theorem dX9_findLonger_42 : decode cX9_findLonger 42 = .ok (.isub, 1) := by decide +kernel
theorem dX9_findLonger_43 : decode cX9_findLonger 43 = .ok (.if_icmp .le 36, 3) := by decide +kernel
theorem dX9_findLonger_46 : decode cX9_findLonger 46 = .ok (.aload_n 2, 1) := by decide +kernel
theorem dX9_findLonger_47 : decode cX9_findLonger 47 = .ok (.iload 5, 2) := by decide +kernel
theorem dX9_findLonger_49 : decode cX9_findLonger 49 = .ok (.iload 5, 2) := by decide +kernel
theorem dX9_findLonger_51 : decode cX9_findLonger 51 = .ok (.iload 4, 2) := by decide +kernel
theorem dX9_findLonger_53 : decode cX9_findLonger 53 = .ok (.iadd, 1) := by decide +kernel
theorem dX9_findLonger_54 : decode cX9_findLonger 54 = .ok (.iload_n 3, 1) := by decide +kernel
theorem dX9_findLonger_55 : decode cX9_findLonger 55 = .ok (.isub, 1) := by decide +kernel
theorem dX9_findLonger_56 : decode cX9_findLonger 56 = .ok (.aload_n 2, 1) := by decide +kernel
theorem dX9_findLonger_57 : decode cX9_findLonger 57 = .ok (.iload_n 3, 1) := by decide +kernel
theorem dX9_findLonger_58 : decode cX9_findLonger 58 = .ok (.iload 4, 2) := by decide +kernel
set_option maxRecDepth 100000 in
theorem q1141 : Cond.methodLink RX9 211 yX10_alike ∈ GT := gt 1141 (by decide +kernel) (by decide +kernel)
theorem dX9_findLonger_60 : decode cX9_findLonger 60 = .ok (.invokevirtual 211, 3) := by decide +kernel
theorem dX9_findLonger_63 : decode cX9_findLonger 63 = .ok (.ifCond .eq 16, 3) := by decide +kernel
theorem dX9_findLonger_66 : decode cX9_findLonger 66 = .ok (.aload_n 0, 1) := by decide +kernel
theorem dX9_findLonger_67 : decode cX9_findLonger 67 = .ok (.getfield 32, 3) := by decide +kernel
theorem dX9_findLonger_70 : decode cX9_findLonger 70 = .ok (.aload_n 2, 1) := by decide +kernel
theorem dX9_findLonger_71 : decode cX9_findLonger 71 = .ok (.iload_n 1, 1) := by decide +kernel
theorem dX9_findLonger_72 : decode cX9_findLonger 72 = .ok (.iload 5, 2) := by decide +kernel
theorem dX9_findLonger_74 : decode cX9_findLonger 74 = .ok (.iload 7, 2) := by decide +kernel
set_option maxRecDepth 100000 in
theorem q1148 : Cond.code yX5_insertRun cX5_insertRun 8 none ∈ GT := gt 1148 (rfl) (by decide +kernel)
theorem M_X5_insertRun : MY yX5_insertRun cX5_insertRun 8 none 4 := ⟨q1148, q62, by decide +kernel, by decide +kernel⟩
set_option maxRecDepth 100000 in
theorem q1146 : Cond.instanceMethod yX5_insertRun ∈ GT := gt 1146 (by decide +kernel) (by decide +kernel)
set_option maxRecDepth 100000 in
theorem q1147 : Cond.selects RX5 yX5_insertRun yX5_insertRun ∈ GT := gt 1147 (by decide +kernel) (by decide +kernel)
set_option maxRecDepth 100000 in
theorem q1145 : Cond.methodLink RX9 215 yX5_insertRun ∈ GT := gt 1145 (by decide +kernel) (by decide +kernel)
theorem dX9_findLonger_76 : decode cX9_findLonger 76 = .ok (.invokevirtual 215, 3) := by decide +kernel
theorem dX9_findLonger_79 : decode cX9_findLonger 79 = .ok (.aload_n 2, 1) := by decide +kernel
theorem dX9_findLonger_80 : decode cX9_findLonger 80 = .ok (.iload 7, 2) := by decide +kernel
theorem dX9_findLonger_82 : decode cX9_findLonger 82 = .ok (.aload_n 0, 1) := by decide +kernel
theorem dX9_findLonger_83 : decode cX9_findLonger 83 = .ok (.getfield 47, 3) := by decide +kernel
theorem dX9_findLonger_86 : decode cX9_findLonger 86 = .ok (.invokevirtual 208, 3) := by decide +kernel
theorem dX9_findLonger_89 : decode cX9_findLonger 89 = .ok (.istore 5, 2) := by decide +kernel
theorem dX9_findLonger_91 : decode cX9_findLonger 91 = .ok (.iinc 6 (-1), 3) := by decide +kernel
theorem dX9_findLonger_94 : decode cX9_findLonger 94 = .ok (.goto (-79), 3) := by decide +kernel
set_option maxHeartbeats 4000000 in
set_option maxRecDepth 100000 in
theorem w_X9_findLonger_79 {p : Program} {l : Launch} {e : Env} {R : Room} {s : State} {m : MethodId} {args : Array Value} {below : List Frame} {meth : Method} {c : Code} {G : Gt} {ρ0 : Int → Nat} {M0 : Mo} {res : RS} (F : Fx p l R s m args meth c cX9_findLonger 8 RX9 G M0 4 none) (hno : ∀ x ∈ c.exceptionTable.toList, False) (hnm : meth.name = yX9_findLonger.name) (k15 : Int → Int → Int → Int → Int → Int → Int → Mo → Option RS) (hk15 : ∀ (x0 x1 x2 x3 x4 x5 x6 : Int) (M : Mo), k15 x0 x1 x2 x3 x4 x5 x6 M = some res → J p l e R s m args below meth c 8 G ρ0 M0 0 res M 15 [(0, (false, x0)), (1, (true, x1)), (2, (false, x2)), (3, (true, x3)), (4, (true, x4)), (5, (true, x5)), (6, (true, x6))] []) (x0 x1 x2 x3 x4 x6 x7 : Int) (M : Mo) (h : X9_findLonger_79 k15 x0 x1 x2 x3 x4 x6 x7 M = some res) : J p l e R s m args below meth c 8 G ρ0 M0 0 res M 79 [(0, (false, x0)), (1, (true, x1)), (2, (false, x2)), (3, (true, x3)), (4, (true, x4)), (6, (true, x6)), (7, (true, x7))] [] := by
  unfold X9_findLonger_79 at h
  refine j_aload_n F 2 rfl rfl dX9_findLonger_79 ?_
  refine j_iload F 6 rfl dX9_findLonger_80 ?_
  refine j_aload_n F 0 rfl rfl dX9_findLonger_82 ?_
  obtain ⟨g1, h⟩ := gua h
  refine j_get F ft_X9_47 rfl g1 dX9_findLonger_83 ?_
  obtain ⟨g5, h⟩ := gua h
  refine j_callV (d' := 1) (argl := [(true, x7), (true, (fd M 10 2 x0))]) (rk9 := 1) (st := []) F hno M_X10_nextRun q1124 q1125 q1140 ⟨by decide, by decide⟩ (Nat.le_of_ble_eq_true rfl) (by decide) (ci := 11) rfl (by decide) g5 dX9_findLonger_86 rfl h (fun z hz => c_X10_nextRun l F.ht G x2 x7 (fd M 10 2 x0) M z hz) (fun v2 M3 h kl4 => ?_)
  refine j_st (st' := [(true, v2)]) rfl ?_
  refine j_istore F (lv' := [(5, (true, v2)), (0, (false, x0)), (1, (true, x1)), (2, (false, x2)), (3, (true, x3)), (4, (true, x4)), (6, (true, x6)), (7, (true, x7))]) (by decide) rfl dX9_findLonger_89 ?_
  refine j_iinc F 6 (lv' := [(6, (true, (x6 + (-1)))), (5, (true, v2)), (0, (false, x0)), (1, (true, x1)), (2, (false, x2)), (3, (true, x3)), (4, (true, x4)), (7, (true, x7))]) rfl (by decide) rfl dX9_findLonger_91 ?_
  refine j_goto F 15 (by decide) dX9_findLonger_94 ?_
  refine j_sub (lv' := [(0, (false, x0)), (1, (true, x1)), (2, (false, x2)), (3, (true, x3)), (4, (true, x4)), (5, (true, v2)), (6, (true, (x6 + (-1))))]) [2, 3, 4, 5, 6, 1, 0] rfl ?_
  exact hk15 x0 x1 x2 x3 x4 v2 (x6 + (-1)) M3 h
set_option maxHeartbeats 4000000 in
set_option maxRecDepth 100000 in
theorem w_X9_findLonger_15 {p : Program} {l : Launch} {e : Env} {R : Room} {s : State} {m : MethodId} {args : Array Value} {below : List Frame} {meth : Method} {c : Code} {G : Gt} {ρ0 : Int → Nat} {M0 : Mo} {res : RS} (F : Fx p l R s m args meth c cX9_findLonger 8 RX9 G M0 4 none) (hno : ∀ x ∈ c.exceptionTable.toList, False) (hnm : meth.name = yX9_findLonger.name) (n : Nat) : ∀ (x0 x1 x2 x3 x4 x5 x6 : Int) (M : Mo), X9_findLonger_15 n x0 x1 x2 x3 x4 x5 x6 M = some res → J p l e R s m args below meth c 8 G ρ0 M0 0 res M 15 [(0, (false, x0)), (1, (true, x1)), (2, (false, x2)), (3, (true, x3)), (4, (true, x4)), (5, (true, x5)), (6, (true, x6))] [] := by
  induction n with
  | zero => intro x0 x1 x2 x3 x4 x5 x6 M h; cases h
  | succ n ih =>
    intro x0 x1 x2 x3 x4 x5 x6 M h
    rw [X9_findLonger_15] at h
    refine j_iload F 6 rfl dX9_findLonger_15 ?_
    refine j_if_le F 97 (by decide) dX9_findLonger_17 h (fun h => ?_) (fun h => ?_)
    · skip
      exact j_vret F (v := 0) h dX9_findLonger_97
    · skip
      refine j_iload F 5 rfl dX9_findLonger_20 ?_
      refine j_iconst F dX9_findLonger_22 ?_
      refine j_icmp_eq F 97 (by decide) dX9_findLonger_23 h (fun h => ?_) (fun h => ?_)
      · skip
        exact j_vret F (v := 0) h dX9_findLonger_97
      · skip
        refine j_aload_n F 2 rfl rfl dX9_findLonger_26 ?_
        refine j_iload F 5 rfl dX9_findLonger_27 ?_
        obtain ⟨g4, h⟩ := gua h
        refine j_callV (d' := 1) (argl := [(true, x5)]) (rk9 := 1) (st := []) F hno M_X10_runEnd q1132 q1133 q1135 ⟨by decide, by decide⟩ (Nat.le_of_ble_eq_true rfl) (by decide) (ci := 11) rfl (by decide) g4 dX9_findLonger_29 rfl h (fun z hz => c_X10_runEnd l F.ht G x2 x5 M z hz) (fun v1 M2 h kl3 => ?_)
        refine j_st (st' := [(true, v1)]) rfl ?_
        refine j_istore F (lv' := [(7, (true, v1)), (0, (false, x0)), (1, (true, x1)), (2, (false, x2)), (3, (true, x3)), (4, (true, x4)), (5, (true, x5)), (6, (true, x6))]) (by decide) rfl dX9_findLonger_32 ?_
        refine j_iload F 0 rfl dX9_findLonger_34 ?_
        refine j_iload F 6 rfl dX9_findLonger_36 ?_
        refine j_isub F dX9_findLonger_38 ?_
        refine j_iload F 5 rfl dX9_findLonger_39 ?_
        refine j_iload_n F 4 rfl rfl dX9_findLonger_41 ?_
        refine j_isub F dX9_findLonger_42 ?_
        refine j_icmp_le F 79 (by decide) dX9_findLonger_43 h (fun h => ?_) (fun h => ?_)
        · skip
          refine j_sub (lv' := [(0, (false, x0)), (1, (true, x1)), (2, (false, x2)), (3, (true, x3)), (4, (true, x4)), (6, (true, x6)), (7, (true, v1))]) [1, 2, 3, 4, 5, 7, 0] rfl ?_
          exact w_X9_findLonger_79 F hno hnm (X9_findLonger_15 n) ih x0 x1 x2 x3 x4 x6 v1 M2 h
        · skip
          refine j_aload_n F 3 rfl rfl dX9_findLonger_46 ?_
          refine j_iload F 6 rfl dX9_findLonger_47 ?_
          refine j_iload F 6 rfl dX9_findLonger_49 ?_
          refine j_iload F 5 rfl dX9_findLonger_51 ?_
          refine j_iadd F dX9_findLonger_53 ?_
          refine j_iload_n F 4 rfl rfl dX9_findLonger_54 ?_
          refine j_isub F dX9_findLonger_55 ?_
          refine j_aload_n F 3 rfl rfl dX9_findLonger_56 ?_
          refine j_iload_n F 4 rfl rfl dX9_findLonger_57 ?_
          refine j_iload F 5 rfl dX9_findLonger_58 ?_
          refine j_callV (d' := 1) (argl := [(true, x5), (true, ((x5 + x4) - x3)), (false, x2), (true, x3), (true, x4)]) (rk9 := 1) (st := []) F hno M_X10_alike q1142 q1143 q1141 ⟨by decide, by decide⟩ (Nat.le_of_ble_eq_true rfl) (by decide) (ci := 11) rfl (by decide) (kl3.is g4) dX9_findLonger_60 rfl h (fun z hz => c_X10_alike l F.ht G x2 x5 ((x5 + x4) - x3) x2 x3 x4 M2 z hz) (fun v5 M6 h kl7 => ?_)
          refine j_st (st' := [(true, v5)]) rfl ?_
          refine j_if_eq F 79 (by decide) dX9_findLonger_63 h (fun h => ?_) (fun h => ?_)
          · skip
            refine j_sub (lv' := [(0, (false, x0)), (1, (true, x1)), (2, (false, x2)), (3, (true, x3)), (4, (true, x4)), (6, (true, x6)), (7, (true, v1))]) [1, 2, 3, 4, 5, 7, 0] rfl ?_
            exact w_X9_findLonger_79 F hno hnm (X9_findLonger_15 n) ih x0 x1 x2 x3 x4 x6 v1 M6 h
          · skip
            refine j_aload_n F 1 rfl rfl dX9_findLonger_66 ?_
            obtain ⟨g8, h⟩ := gua h
            refine j_get F ft_X9_32 rfl g8 dX9_findLonger_67 ?_
            refine j_aload_n F 3 rfl rfl dX9_findLonger_70 ?_
            refine j_iload_n F 2 rfl rfl dX9_findLonger_71 ?_
            refine j_iload F 6 rfl dX9_findLonger_72 ?_
            refine j_iload F 0 rfl dX9_findLonger_74 ?_
            obtain ⟨g12, h⟩ := gua h
            refine j_callV (d' := 3) (argl := [(false, x2), (true, x1), (true, x5), (true, v1)]) (rk9 := 0) (st := []) F hno M_X5_insertRun q1146 q1147 q1145 ⟨by decide, by decide⟩ (Nat.le_of_ble_eq_true rfl) (by decide) (ci := 6) rfl (by decide) g12 dX9_findLonger_76 rfl h (fun z hz => c_X5_insertRun l F.ht G (fd M6 10 7 x0) x2 x1 x5 v1 M6 z hz) (fun v9 M10 h kl11 => ?_)
            refine j_st (st' := []) rfl ?_
            refine j_sub (lv' := [(0, (false, x0)), (1, (true, x1)), (2, (false, x2)), (3, (true, x3)), (4, (true, x4)), (6, (true, x6)), (7, (true, v1))]) [1, 2, 3, 4, 5, 7, 0] rfl ?_
            exact w_X9_findLonger_79 F hno hnm (X9_findLonger_15 n) ih x0 x1 x2 x3 x4 x6 v1 M10 h
set_option maxHeartbeats 4000000 in
set_option maxRecDepth 100000 in
theorem w_X9_findLonger_0 {p : Program} {l : Launch} {e : Env} {R : Room} {s : State} {m : MethodId} {args : Array Value} {below : List Frame} {meth : Method} {c : Code} {G : Gt} {ρ0 : Int → Nat} {M0 : Mo} {res : RS} (F : Fx p l R s m args meth c cX9_findLonger 8 RX9 G M0 4 none) (hno : ∀ x ∈ c.exceptionTable.toList, False) (hnm : meth.name = yX9_findLonger.name) (x0 x1 x2 x3 x4 : Int) (M : Mo) (h : X9_findLonger x0 x1 x2 x3 x4 M = some res) : J p l e R s m args below meth c 8 G ρ0 M0 0 res M 0 [(0, (false, x0)), (1, (true, x1)), (2, (false, x2)), (3, (true, x3)), (4, (true, x4))] [] := by
  unfold X9_findLonger at h
  refine j_aload_n F 2 rfl rfl dX9_findLonger_0 ?_
  refine j_iconst F dX9_findLonger_1 ?_
  refine j_aload_n F 0 rfl rfl dX9_findLonger_2 ?_
  obtain ⟨g1, h⟩ := gua h
  refine j_get F ft_X9_47 rfl g1 dX9_findLonger_3 ?_
  obtain ⟨g5, h⟩ := gua h
  refine j_callV (d' := 1) (argl := [(true, 0), (true, (fd M 10 2 x0))]) (rk9 := 1) (st := []) F hno M_X10_nextRun q1124 q1125 q1140 ⟨by decide, by decide⟩ (Nat.le_of_ble_eq_true rfl) (by decide) (ci := 11) rfl (by decide) g5 dX9_findLonger_6 rfl h (fun z hz => c_X10_nextRun l F.ht G x2 0 (fd M 10 2 x0) M z hz) (fun v2 M3 h kl4 => ?_)
  refine j_st (st' := [(true, v2)]) rfl ?_
  refine j_istore F (lv' := [(5, (true, v2)), (0, (false, x0)), (1, (true, x1)), (2, (false, x2)), (3, (true, x3)), (4, (true, x4))]) (by decide) rfl dX9_findLonger_9 ?_
  refine j_bipush F (by decide) dX9_findLonger_11 ?_
  refine j_istore F (lv' := [(6, (true, 100)), (5, (true, v2)), (0, (false, x0)), (1, (true, x1)), (2, (false, x2)), (3, (true, x3)), (4, (true, x4))]) (by decide) rfl dX9_findLonger_13 ?_
  refine j_sub (lv' := [(0, (false, x0)), (1, (true, x1)), (2, (false, x2)), (3, (true, x3)), (4, (true, x4)), (5, (true, v2)), (6, (true, 100))]) [2, 3, 4, 5, 6, 1, 0] rfl ?_
  exact w_X9_findLonger_15 F hno hnm FU x0 x1 x2 x3 x4 v2 100 M3 h
theorem c_X9_findLonger (l : Launch) (hl : l.stackTraces = false) (G : Gt) (x0 x1 x2 x3 x4 : Int) (M : Mo) (z : RS) (h : X9_findLonger x0 x1 x2 x3 x4 M = some z) : CT l G yX9_findLonger (cn yX9_findLonger cX9_findLonger 8 none) 4 [(false, x0), (true, x1), (false, x2), (true, x3), (true, x4)] M 0 z :=
  ctOf hl (by decide) (Nat.le_of_ble_eq_true rfl) (fun p e R s m args below meth c ρ F hno hnm => w_X9_findLonger_0 F hno hnm x0 x1 x2 x3 x4 M h)
theorem dX9_findAll_0 : decode cX9_findAll 0 = .ok (.aload_n 2, 1) := by decide +kernel
theorem dX9_findAll_1 : decode cX9_findAll 1 = .ok (.iconst 0, 1) := by decide +kernel
theorem dX9_findAll_2 : decode cX9_findAll 2 = .ok (.aload_n 0, 1) := by decide +kernel
theorem dX9_findAll_3 : decode cX9_findAll 3 = .ok (.getfield 47, 3) := by decide +kernel
theorem dX9_findAll_6 : decode cX9_findAll 6 = .ok (.invokevirtual 208, 3) := by decide +kernel
theorem dX9_findAll_9 : decode cX9_findAll 9 = .ok (.istore_n 3, 1) := by decide +kernel
theorem dX9_findAll_10 : decode cX9_findAll 10 = .ok (.bipush 100, 2) := by decide +kernel
theorem dX9_findAll_12 : decode cX9_findAll 12 = .ok (.istore 4, 2) := by decide +kernel
theorem dX9_findAll_14 : decode cX9_findAll 14 = .ok (.iload 4, 2) := by decide +kernel
theorem dX9_findAll_16 : decode cX9_findAll 16 = .ok (.ifCond .le 48, 3) := by decide +kernel
theorem dX9_findAll_64 : decode cX9_findAll 64 = .ok (.return_, 1) := by decide +kernel
theorem dX9_findAll_19 : decode cX9_findAll 19 = .ok (.iload_n 3, 1) := by decide +kernel
theorem dX9_findAll_20 : decode cX9_findAll 20 = .ok (.iconst (-1), 1) := by decide +kernel
theorem dX9_findAll_21 : decode cX9_findAll 21 = .ok (.if_icmp .eq 43, 3) := by decide +kernel
theorem dX9_findAll_24 : decode cX9_findAll 24 = .ok (.aload_n 2, 1) := by decide +kernel
theorem dX9_findAll_25 : decode cX9_findAll 25 = .ok (.iload_n 3, 1) := by decide +kernel
theorem dX9_findAll_26 : decode cX9_findAll 26 = .ok (.invokevirtual 170, 3) := by decide +kernel
theorem dX9_findAll_29 : decode cX9_findAll 29 = .ok (.istore 5, 2) := by decide +kernel
theorem dX9_findAll_31 : decode cX9_findAll 31 = .ok (.aload_n 0, 1) := by decide +kernel
theorem dX9_findAll_32 : decode cX9_findAll 32 = .ok (.getfield 32, 3) := by decide +kernel
theorem dX9_findAll_35 : decode cX9_findAll 35 = .ok (.iload_n 1, 1) := by decide +kernel
theorem dX9_findAll_36 : decode cX9_findAll 36 = .ok (.iload_n 3, 1) := by decide +kernel
theorem dX9_findAll_37 : decode cX9_findAll 37 = .ok (.iload 5, 2) := by decide +kernel
theorem dX9_findAll_39 : decode cX9_findAll 39 = .ok (.aload_n 2, 1) := by decide +kernel
theorem dX9_findAll_40 : decode cX9_findAll 40 = .ok (.iload_n 3, 1) := by decide +kernel
set_option maxRecDepth 100000 in
theorem q1169 : Cond.code yX10_tokenValue cX10_tokenValue 2 (some FieldType.int) ∈ GT := gt 1169 (rfl) (by decide +kernel)
theorem M_X10_tokenValue : MY yX10_tokenValue cX10_tokenValue 2 (some FieldType.int) 1 := ⟨q1169, q54, by decide +kernel, by decide +kernel⟩
set_option maxRecDepth 100000 in
theorem q1167 : Cond.instanceMethod yX10_tokenValue ∈ GT := gt 1167 (by decide +kernel) (by decide +kernel)
set_option maxRecDepth 100000 in
theorem q1168 : Cond.selects RX10 yX10_tokenValue yX10_tokenValue ∈ GT := gt 1168 (by decide +kernel) (by decide +kernel)
set_option maxRecDepth 100000 in
theorem q1166 : Cond.methodLink RX9 219 yX10_tokenValue ∈ GT := gt 1166 (by decide +kernel) (by decide +kernel)
theorem dX9_findAll_41 : decode cX9_findAll 41 = .ok (.invokevirtual 219, 3) := by decide +kernel
set_option maxRecDepth 100000 in
theorem q1173 : Cond.code yX5_add cX5_add 5 none ∈ GT := gt 1173 (rfl) (by decide +kernel)
theorem M_X5_add : MY yX5_add cX5_add 5 none 4 := ⟨q1173, q62, by decide +kernel, by decide +kernel⟩
set_option maxRecDepth 100000 in
theorem q1171 : Cond.instanceMethod yX5_add ∈ GT := gt 1171 (by decide +kernel) (by decide +kernel)
set_option maxRecDepth 100000 in
theorem q1172 : Cond.selects RX5 yX5_add yX5_add ∈ GT := gt 1172 (by decide +kernel) (by decide +kernel)
set_option maxRecDepth 100000 in
theorem q1170 : Cond.methodLink RX9 187 yX5_add ∈ GT := gt 1170 (by decide +kernel) (by decide +kernel)
theorem dX9_findAll_44 : decode cX9_findAll 44 = .ok (.invokevirtual 187, 3) := by decide +kernel
theorem dX9_findAll_47 : decode cX9_findAll 47 = .ok (.aload_n 2, 1) := by decide +kernel
theorem dX9_findAll_48 : decode cX9_findAll 48 = .ok (.iload 5, 2) := by decide +kernel
theorem dX9_findAll_50 : decode cX9_findAll 50 = .ok (.aload_n 0, 1) := by decide +kernel
theorem dX9_findAll_51 : decode cX9_findAll 51 = .ok (.getfield 47, 3) := by decide +kernel
theorem dX9_findAll_54 : decode cX9_findAll 54 = .ok (.invokevirtual 208, 3) := by decide +kernel
theorem dX9_findAll_57 : decode cX9_findAll 57 = .ok (.istore_n 3, 1) := by decide +kernel
theorem dX9_findAll_58 : decode cX9_findAll 58 = .ok (.iinc 4 (-1), 3) := by decide +kernel
theorem dX9_findAll_61 : decode cX9_findAll 61 = .ok (.goto (-47), 3) := by decide +kernel
set_option maxHeartbeats 4000000 in
set_option maxRecDepth 100000 in
theorem w_X9_findAll_14 {p : Program} {l : Launch} {e : Env} {R : Room} {s : State} {m : MethodId} {args : Array Value} {below : List Frame} {meth : Method} {c : Code} {G : Gt} {ρ0 : Int → Nat} {M0 : Mo} {res : RS} (F : Fx p l R s m args meth c cX9_findAll 6 RX9 G M0 4 none) (hno : ∀ x ∈ c.exceptionTable.toList, False) (hnm : meth.name = yX9_findAll.name) (n : Nat) : ∀ (x0 x1 x2 x3 x4 : Int) (M : Mo), X9_findAll_14 n x0 x1 x2 x3 x4 M = some res → J p l e R s m args below meth c 6 G ρ0 M0 0 res M 14 [(0, (false, x0)), (1, (true, x1)), (2, (false, x2)), (3, (true, x3)), (4, (true, x4))] [] := by
  induction n with
  | zero => intro x0 x1 x2 x3 x4 M h; cases h
  | succ n ih =>
    intro x0 x1 x2 x3 x4 M h
    rw [X9_findAll_14] at h
    refine j_iload F 4 rfl dX9_findAll_14 ?_
    refine j_if_le F 64 (by decide) dX9_findAll_16 h (fun h => ?_) (fun h => ?_)
    · skip
      exact j_vret F (v := 0) h dX9_findAll_64
    · skip
      refine j_iload_n F 3 rfl rfl dX9_findAll_19 ?_
      refine j_iconst F dX9_findAll_20 ?_
      refine j_icmp_eq F 64 (by decide) dX9_findAll_21 h (fun h => ?_) (fun h => ?_)
      · skip
        exact j_vret F (v := 0) h dX9_findAll_64
      · skip
        refine j_aload_n F 2 rfl rfl dX9_findAll_24 ?_
        refine j_iload_n F 3 rfl rfl dX9_findAll_25 ?_
        obtain ⟨g4, h⟩ := gua h
        refine j_callV (d' := 1) (argl := [(true, x3)]) (rk9 := 1) (st := []) F hno M_X10_runEnd q1132 q1133 q1135 ⟨by decide, by decide⟩ (Nat.le_of_ble_eq_true rfl) (by decide) (ci := 11) rfl (by decide) g4 dX9_findAll_26 rfl h (fun z hz => c_X10_runEnd l F.ht G x2 x3 M z hz) (fun v1 M2 h kl3 => ?_)
        refine j_st (st' := [(true, v1)]) rfl ?_
        refine j_istore F (lv' := [(5, (true, v1)), (0, (false, x0)), (1, (true, x1)), (2, (false, x2)), (3, (true, x3)), (4, (true, x4))]) (by decide) rfl dX9_findAll_29 ?_
        refine j_aload_n F 1 rfl rfl dX9_findAll_31 ?_
        obtain ⟨g5, h⟩ := gua h
        refine j_get F ft_X9_32 rfl g5 dX9_findAll_32 ?_
        refine j_iload_n F 2 rfl rfl dX9_findAll_35 ?_
        refine j_iload_n F 4 rfl rfl dX9_findAll_36 ?_
        refine j_iload F 0 rfl dX9_findAll_37 ?_
        refine j_aload_n F 3 rfl rfl dX9_findAll_39 ?_
        refine j_iload_n F 4 rfl rfl dX9_findAll_40 ?_
        refine j_callV (d' := 1) (argl := [(true, x3)]) (rk9 := 1) (st := [(true, v1), (true, x3), (true, x1), (false, (fd M2 10 7 x0))]) F hno M_X10_tokenValue q1167 q1168 q1166 ⟨by decide, by decide⟩ (Nat.le_of_ble_eq_true rfl) (by decide) (ci := 11) rfl (by decide) (kl3.is g4) dX9_findAll_41 rfl h (fun z hz => c_X10_tokenValue l F.ht G x2 x3 M2 z hz) (fun v6 M7 h kl8 => ?_)
        refine j_st (st' := [(true, v6), (true, v1), (true, x3), (true, x1), (false, (fd M2 10 7 x0))]) rfl ?_
        obtain ⟨g12, h⟩ := gua h
        refine j_callV (d' := 3) (argl := [(true, x1), (true, x3), (true, v1), (true, v6)]) (rk9 := 0) (st := []) F hno M_X5_add q1171 q1172 q1170 ⟨by decide, by decide⟩ (Nat.le_of_ble_eq_true rfl) (by decide) (ci := 6) rfl (by decide) g12 dX9_findAll_44 rfl h (fun z hz => c_X5_add l F.ht G (fd M2 10 7 x0) x1 x3 v1 v6 M7 z hz) (fun v9 M10 h kl11 => ?_)
        refine j_st (st' := []) rfl ?_
        refine j_aload_n F 3 rfl rfl dX9_findAll_47 ?_
        refine j_iload F 0 rfl dX9_findAll_48 ?_
        refine j_aload_n F 1 rfl rfl dX9_findAll_50 ?_
        refine j_get F ft_X9_47 rfl (kl11.is (kl8.is g5)) dX9_findAll_51 ?_
        refine j_callV (d' := 1) (argl := [(true, v1), (true, (fd M10 10 2 x0))]) (rk9 := 1) (st := []) F hno M_X10_nextRun q1124 q1125 q1140 ⟨by decide, by decide⟩ (Nat.le_of_ble_eq_true rfl) (by decide) (ci := 11) rfl (by decide) (kl11.is (kl8.is (kl3.is g4))) dX9_findAll_54 rfl h (fun z hz => c_X10_nextRun l F.ht G x2 v1 (fd M10 10 2 x0) M10 z hz) (fun v13 M14 h kl15 => ?_)
        refine j_st (st' := [(true, v13)]) rfl ?_
        refine j_istore_n F (lv' := [(3, (true, v13)), (5, (true, v1)), (0, (false, x0)), (1, (true, x1)), (2, (false, x2)), (4, (true, x4))]) rfl (by decide) rfl dX9_findAll_57 ?_
        refine j_iinc F 5 (lv' := [(4, (true, (x4 + (-1)))), (3, (true, v13)), (5, (true, v1)), (0, (false, x0)), (1, (true, x1)), (2, (false, x2))]) rfl (by decide) rfl dX9_findAll_58 ?_
        refine j_goto F 14 (by decide) dX9_findAll_61 ?_
        refine j_sub (lv' := [(0, (false, x0)), (1, (true, x1)), (2, (false, x2)), (3, (true, v13)), (4, (true, (x4 + (-1))))]) [3, 4, 5, 1, 0] rfl ?_
        exact ih x0 x1 x2 v13 (x4 + (-1)) M14 h
set_option maxHeartbeats 4000000 in
set_option maxRecDepth 100000 in
theorem w_X9_findAll_0 {p : Program} {l : Launch} {e : Env} {R : Room} {s : State} {m : MethodId} {args : Array Value} {below : List Frame} {meth : Method} {c : Code} {G : Gt} {ρ0 : Int → Nat} {M0 : Mo} {res : RS} (F : Fx p l R s m args meth c cX9_findAll 6 RX9 G M0 4 none) (hno : ∀ x ∈ c.exceptionTable.toList, False) (hnm : meth.name = yX9_findAll.name) (x0 x1 x2 : Int) (M : Mo) (h : X9_findAll x0 x1 x2 M = some res) : J p l e R s m args below meth c 6 G ρ0 M0 0 res M 0 [(0, (false, x0)), (1, (true, x1)), (2, (false, x2))] [] := by
  unfold X9_findAll at h
  refine j_aload_n F 2 rfl rfl dX9_findAll_0 ?_
  refine j_iconst F dX9_findAll_1 ?_
  refine j_aload_n F 0 rfl rfl dX9_findAll_2 ?_
  obtain ⟨g1, h⟩ := gua h
  refine j_get F ft_X9_47 rfl g1 dX9_findAll_3 ?_
  obtain ⟨g5, h⟩ := gua h
  refine j_callV (d' := 1) (argl := [(true, 0), (true, (fd M 10 2 x0))]) (rk9 := 1) (st := []) F hno M_X10_nextRun q1124 q1125 q1140 ⟨by decide, by decide⟩ (Nat.le_of_ble_eq_true rfl) (by decide) (ci := 11) rfl (by decide) g5 dX9_findAll_6 rfl h (fun z hz => c_X10_nextRun l F.ht G x2 0 (fd M 10 2 x0) M z hz) (fun v2 M3 h kl4 => ?_)
  refine j_st (st' := [(true, v2)]) rfl ?_
  refine j_istore_n F (lv' := [(3, (true, v2)), (0, (false, x0)), (1, (true, x1)), (2, (false, x2))]) rfl (by decide) rfl dX9_findAll_9 ?_
  refine j_bipush F (by decide) dX9_findAll_10 ?_
  refine j_istore F (lv' := [(4, (true, 100)), (3, (true, v2)), (0, (false, x0)), (1, (true, x1)), (2, (false, x2))]) (by decide) rfl dX9_findAll_12 ?_
  refine j_sub (lv' := [(0, (false, x0)), (1, (true, x1)), (2, (false, x2)), (3, (true, v2)), (4, (true, 100))]) [2, 3, 4, 1, 0] rfl ?_
  exact w_X9_findAll_14 F hno hnm FU x0 x1 x2 v2 100 M3 h
theorem c_X9_findAll (l : Launch) (hl : l.stackTraces = false) (G : Gt) (x0 x1 x2 : Int) (M : Mo) (z : RS) (h : X9_findAll x0 x1 x2 M = some z) : CT l G yX9_findAll (cn yX9_findAll cX9_findAll 6 none) 4 [(false, x0), (true, x1), (false, x2)] M 0 z :=
  ctOf hl (by decide) (Nat.le_of_ble_eq_true rfl) (fun p e R s m args below meth c ρ F hno hnm => w_X9_findAll_0 F hno hnm x0 x1 x2 M h)
theorem dX9_findAlike_0 : decode cX9_findAlike 0 = .ok (.aload_n 2, 1) := by decide +kernel
theorem dX9_findAlike_1 : decode cX9_findAlike 1 = .ok (.iconst 0, 1) := by decide +kernel
theorem dX9_findAlike_2 : decode cX9_findAlike 2 = .ok (.aload_n 0, 1) := by decide +kernel
theorem dX9_findAlike_3 : decode cX9_findAlike 3 = .ok (.getfield 47, 3) := by decide +kernel
theorem dX9_findAlike_6 : decode cX9_findAlike 6 = .ok (.invokevirtual 208, 3) := by decide +kernel
theorem dX9_findAlike_9 : decode cX9_findAlike 9 = .ok (.istore 6, 2) := by decide +kernel
theorem dX9_findAlike_11 : decode cX9_findAlike 11 = .ok (.bipush 100, 2) := by decide +kernel
theorem dX9_findAlike_13 : decode cX9_findAlike 13 = .ok (.istore 7, 2) := by decide +kernel
theorem dX9_findAlike_15 : decode cX9_findAlike 15 = .ok (.iload 7, 2) := by decide +kernel
theorem dX9_findAlike_17 : decode cX9_findAlike 17 = .ok (.ifCond .le 64, 3) := by decide +kernel
theorem dX9_findAlike_81 : decode cX9_findAlike 81 = .ok (.return_, 1) := by decide +kernel
theorem dX9_findAlike_20 : decode cX9_findAlike 20 = .ok (.iload 6, 2) := by decide +kernel
theorem dX9_findAlike_22 : decode cX9_findAlike 22 = .ok (.iconst (-1), 1) := by decide +kernel
theorem dX9_findAlike_23 : decode cX9_findAlike 23 = .ok (.if_icmp .eq 58, 3) := by decide +kernel
theorem dX9_findAlike_26 : decode cX9_findAlike 26 = .ok (.aload_n 2, 1) := by decide +kernel
theorem dX9_findAlike_27 : decode cX9_findAlike 27 = .ok (.iload 6, 2) := by decide +kernel
theorem dX9_findAlike_29 : decode cX9_findAlike 29 = .ok (.invokevirtual 170, 3) := by decide +kernel
theorem dX9_findAlike_32 : decode cX9_findAlike 32 = .ok (.istore 8, 2) := by decide +kernel
theorem dX9_findAlike_34 : decode cX9_findAlike 34 = .ok (.aload_n 2, 1) := by decide +kernel
theorem dX9_findAlike_35 : decode cX9_findAlike 35 = .ok (.iload 6, 2) := by decide +kernel
theorem dX9_findAlike_37 : decode cX9_findAlike 37 = .ok (.iload 8, 2) := by decide +kernel
theorem dX9_findAlike_39 : decode cX9_findAlike 39 = .ok (.aload_n 3, 1) := by decide +kernel
theorem dX9_findAlike_40 : decode cX9_findAlike 40 = .ok (.iload 4, 2) := by decide +kernel
theorem dX9_findAlike_42 : decode cX9_findAlike 42 = .ok (.iload 5, 2) := by decide +kernel
theorem dX9_findAlike_44 : decode cX9_findAlike 44 = .ok (.invokevirtual 211, 3) := by decide +kernel
theorem dX9_findAlike_47 : decode cX9_findAlike 47 = .ok (.ifCond .eq 16, 3) := by decide +kernel
theorem dX9_findAlike_50 : decode cX9_findAlike 50 = .ok (.aload_n 0, 1) := by decide +kernel
theorem dX9_findAlike_51 : decode cX9_findAlike 51 = .ok (.getfield 32, 3) := by decide +kernel
theorem dX9_findAlike_54 : decode cX9_findAlike 54 = .ok (.iload_n 1, 1) := by decide +kernel
theorem dX9_findAlike_55 : decode cX9_findAlike 55 = .ok (.iload 6, 2) := by decide +kernel
theorem dX9_findAlike_57 : decode cX9_findAlike 57 = .ok (.iload 8, 2) := by decide +kernel
theorem dX9_findAlike_59 : decode cX9_findAlike 59 = .ok (.iconst 0, 1) := by decide +kernel
theorem dX9_findAlike_60 : decode cX9_findAlike 60 = .ok (.invokevirtual 187, 3) := by decide +kernel
theorem dX9_findAlike_63 : decode cX9_findAlike 63 = .ok (.aload_n 2, 1) := by decide +kernel
theorem dX9_findAlike_64 : decode cX9_findAlike 64 = .ok (.iload 8, 2) := by decide +kernel
theorem dX9_findAlike_66 : decode cX9_findAlike 66 = .ok (.aload_n 0, 1) := by decide +kernel
theorem dX9_findAlike_67 : decode cX9_findAlike 67 = .ok (.getfield 47, 3) := by decide +kernel
theorem dX9_findAlike_70 : decode cX9_findAlike 70 = .ok (.invokevirtual 208, 3) := by decide +kernel
theorem dX9_findAlike_73 : decode cX9_findAlike 73 = .ok (.istore 6, 2) := by decide +kernel
theorem dX9_findAlike_75 : decode cX9_findAlike 75 = .ok (.iinc 7 (-1), 3) := by decide +kernel
theorem dX9_findAlike_78 : decode cX9_findAlike 78 = .ok (.goto (-63), 3) := by decide +kernel
set_option maxHeartbeats 4000000 in
set_option maxRecDepth 100000 in
theorem w_X9_findAlike_63 {p : Program} {l : Launch} {e : Env} {R : Room} {s : State} {m : MethodId} {args : Array Value} {below : List Frame} {meth : Method} {c : Code} {G : Gt} {ρ0 : Int → Nat} {M0 : Mo} {res : RS} (F : Fx p l R s m args meth c cX9_findAlike 9 RX9 G M0 4 none) (hno : ∀ x ∈ c.exceptionTable.toList, False) (hnm : meth.name = yX9_findAlike.name) (k15 : Int → Int → Int → Int → Int → Int → Int → Int → Mo → Option RS) (hk15 : ∀ (x0 x1 x2 x3 x4 x5 x6 x7 : Int) (M : Mo), k15 x0 x1 x2 x3 x4 x5 x6 x7 M = some res → J p l e R s m args below meth c 9 G ρ0 M0 0 res M 15 [(0, (false, x0)), (1, (true, x1)), (2, (false, x2)), (3, (false, x3)), (4, (true, x4)), (5, (true, x5)), (6, (true, x6)), (7, (true, x7))] []) (x0 x1 x2 x3 x4 x5 x7 x8 : Int) (M : Mo) (h : X9_findAlike_63 k15 x0 x1 x2 x3 x4 x5 x7 x8 M = some res) : J p l e R s m args below meth c 9 G ρ0 M0 0 res M 63 [(0, (false, x0)), (1, (true, x1)), (2, (false, x2)), (3, (false, x3)), (4, (true, x4)), (5, (true, x5)), (7, (true, x7)), (8, (true, x8))] [] := by
  unfold X9_findAlike_63 at h
  refine j_aload_n F 2 rfl rfl dX9_findAlike_63 ?_
  refine j_iload F 7 rfl dX9_findAlike_64 ?_
  refine j_aload_n F 0 rfl rfl dX9_findAlike_66 ?_
  obtain ⟨g1, h⟩ := gua h
  refine j_get F ft_X9_47 rfl g1 dX9_findAlike_67 ?_
  obtain ⟨g5, h⟩ := gua h
  refine j_callV (d' := 1) (argl := [(true, x8), (true, (fd M 10 2 x0))]) (rk9 := 1) (st := []) F hno M_X10_nextRun q1124 q1125 q1140 ⟨by decide, by decide⟩ (Nat.le_of_ble_eq_true rfl) (by decide) (ci := 11) rfl (by decide) g5 dX9_findAlike_70 rfl h (fun z hz => c_X10_nextRun l F.ht G x2 x8 (fd M 10 2 x0) M z hz) (fun v2 M3 h kl4 => ?_)
  refine j_st (st' := [(true, v2)]) rfl ?_
  refine j_istore F (lv' := [(6, (true, v2)), (0, (false, x0)), (1, (true, x1)), (2, (false, x2)), (3, (false, x3)), (4, (true, x4)), (5, (true, x5)), (7, (true, x7)), (8, (true, x8))]) (by decide) rfl dX9_findAlike_73 ?_
  refine j_iinc F 7 (lv' := [(7, (true, (x7 + (-1)))), (6, (true, v2)), (0, (false, x0)), (1, (true, x1)), (2, (false, x2)), (3, (false, x3)), (4, (true, x4)), (5, (true, x5)), (8, (true, x8))]) rfl (by decide) rfl dX9_findAlike_75 ?_
  refine j_goto F 15 (by decide) dX9_findAlike_78 ?_
  refine j_sub (lv' := [(0, (false, x0)), (1, (true, x1)), (2, (false, x2)), (3, (false, x3)), (4, (true, x4)), (5, (true, x5)), (6, (true, v2)), (7, (true, (x7 + (-1))))]) [2, 3, 4, 5, 6, 7, 1, 0] rfl ?_
  exact hk15 x0 x1 x2 x3 x4 x5 v2 (x7 + (-1)) M3 h
set_option maxHeartbeats 4000000 in
set_option maxRecDepth 100000 in
theorem w_X9_findAlike_15 {p : Program} {l : Launch} {e : Env} {R : Room} {s : State} {m : MethodId} {args : Array Value} {below : List Frame} {meth : Method} {c : Code} {G : Gt} {ρ0 : Int → Nat} {M0 : Mo} {res : RS} (F : Fx p l R s m args meth c cX9_findAlike 9 RX9 G M0 4 none) (hno : ∀ x ∈ c.exceptionTable.toList, False) (hnm : meth.name = yX9_findAlike.name) (n : Nat) : ∀ (x0 x1 x2 x3 x4 x5 x6 x7 : Int) (M : Mo), X9_findAlike_15 n x0 x1 x2 x3 x4 x5 x6 x7 M = some res → J p l e R s m args below meth c 9 G ρ0 M0 0 res M 15 [(0, (false, x0)), (1, (true, x1)), (2, (false, x2)), (3, (false, x3)), (4, (true, x4)), (5, (true, x5)), (6, (true, x6)), (7, (true, x7))] [] := by
  induction n with
  | zero => intro x0 x1 x2 x3 x4 x5 x6 x7 M h; cases h
  | succ n ih =>
    intro x0 x1 x2 x3 x4 x5 x6 x7 M h
    rw [X9_findAlike_15] at h
    refine j_iload F 7 rfl dX9_findAlike_15 ?_
    refine j_if_le F 81 (by decide) dX9_findAlike_17 h (fun h => ?_) (fun h => ?_)
    · skip
      exact j_vret F (v := 0) h dX9_findAlike_81
    · skip
      refine j_iload F 6 rfl dX9_findAlike_20 ?_
      refine j_iconst F dX9_findAlike_22 ?_
      refine j_icmp_eq F 81 (by decide) dX9_findAlike_23 h (fun h => ?_) (fun h => ?_)
      · skip
        exact j_vret F (v := 0) h dX9_findAlike_81
      · skip
        refine j_aload_n F 2 rfl rfl dX9_findAlike_26 ?_
        refine j_iload F 6 rfl dX9_findAlike_27 ?_
        obtain ⟨g4, h⟩ := gua h
        refine j_callV (d' := 1) (argl := [(true, x6)]) (rk9 := 1) (st := []) F hno M_X10_runEnd q1132 q1133 q1135 ⟨by decide, by decide⟩ (Nat.le_of_ble_eq_true rfl) (by decide) (ci := 11) rfl (by decide) g4 dX9_findAlike_29 rfl h (fun z hz => c_X10_runEnd l F.ht G x2 x6 M z hz) (fun v1 M2 h kl3 => ?_)
        refine j_st (st' := [(true, v1)]) rfl ?_
        refine j_istore F (lv' := [(8, (true, v1)), (0, (false, x0)), (1, (true, x1)), (2, (false, x2)), (3, (false, x3)), (4, (true, x4)), (5, (true, x5)), (6, (true, x6)), (7, (true, x7))]) (by decide) rfl dX9_findAlike_32 ?_
        refine j_aload_n F 3 rfl rfl dX9_findAlike_34 ?_
        refine j_iload F 7 rfl dX9_findAlike_35 ?_
        refine j_iload F 0 rfl dX9_findAlike_37 ?_
        refine j_aload_n F 4 rfl rfl dX9_findAlike_39 ?_
        refine j_iload F 5 rfl dX9_findAlike_40 ?_
        refine j_iload F 6 rfl dX9_findAlike_42 ?_
        refine j_callV (d' := 1) (argl := [(true, x6), (true, v1), (false, x3), (true, x4), (true, x5)]) (rk9 := 1) (st := []) F hno M_X10_alike q1142 q1143 q1141 ⟨by decide, by decide⟩ (Nat.le_of_ble_eq_true rfl) (by decide) (ci := 11) rfl (by decide) (kl3.is g4) dX9_findAlike_44 rfl h (fun z hz => c_X10_alike l F.ht G x2 x6 v1 x3 x4 x5 M2 z hz) (fun v5 M6 h kl7 => ?_)
        refine j_st (st' := [(true, v5)]) rfl ?_
        refine j_if_eq F 63 (by decide) dX9_findAlike_47 h (fun h => ?_) (fun h => ?_)
        · skip
          refine j_sub (lv' := [(0, (false, x0)), (1, (true, x1)), (2, (false, x2)), (3, (false, x3)), (4, (true, x4)), (5, (true, x5)), (7, (true, x7)), (8, (true, v1))]) [1, 2, 3, 4, 5, 6, 8, 0] rfl ?_
          exact w_X9_findAlike_63 F hno hnm (X9_findAlike_15 n) ih x0 x1 x2 x3 x4 x5 x7 v1 M6 h
        · skip
          refine j_aload_n F 1 rfl rfl dX9_findAlike_50 ?_
          obtain ⟨g8, h⟩ := gua h
          refine j_get F ft_X9_32 rfl g8 dX9_findAlike_51 ?_
          refine j_iload_n F 2 rfl rfl dX9_findAlike_54 ?_
          refine j_iload F 7 rfl dX9_findAlike_55 ?_
          refine j_iload F 0 rfl dX9_findAlike_57 ?_
          refine j_iconst F dX9_findAlike_59 ?_
          obtain ⟨g12, h⟩ := gua h
          refine j_callV (d' := 3) (argl := [(true, x1), (true, x6), (true, v1), (true, 0)]) (rk9 := 0) (st := []) F hno M_X5_add q1171 q1172 q1170 ⟨by decide, by decide⟩ (Nat.le_of_ble_eq_true rfl) (by decide) (ci := 6) rfl (by decide) g12 dX9_findAlike_60 rfl h (fun z hz => c_X5_add l F.ht G (fd M6 10 7 x0) x1 x6 v1 0 M6 z hz) (fun v9 M10 h kl11 => ?_)
          refine j_st (st' := []) rfl ?_
          refine j_sub (lv' := [(0, (false, x0)), (1, (true, x1)), (2, (false, x2)), (3, (false, x3)), (4, (true, x4)), (5, (true, x5)), (7, (true, x7)), (8, (true, v1))]) [1, 2, 3, 4, 5, 6, 8, 0] rfl ?_
          exact w_X9_findAlike_63 F hno hnm (X9_findAlike_15 n) ih x0 x1 x2 x3 x4 x5 x7 v1 M10 h
set_option maxHeartbeats 4000000 in
set_option maxRecDepth 100000 in
theorem w_X9_findAlike_0 {p : Program} {l : Launch} {e : Env} {R : Room} {s : State} {m : MethodId} {args : Array Value} {below : List Frame} {meth : Method} {c : Code} {G : Gt} {ρ0 : Int → Nat} {M0 : Mo} {res : RS} (F : Fx p l R s m args meth c cX9_findAlike 9 RX9 G M0 4 none) (hno : ∀ x ∈ c.exceptionTable.toList, False) (hnm : meth.name = yX9_findAlike.name) (x0 x1 x2 x3 x4 x5 : Int) (M : Mo) (h : X9_findAlike x0 x1 x2 x3 x4 x5 M = some res) : J p l e R s m args below meth c 9 G ρ0 M0 0 res M 0 [(0, (false, x0)), (1, (true, x1)), (2, (false, x2)), (3, (false, x3)), (4, (true, x4)), (5, (true, x5))] [] := by
  unfold X9_findAlike at h
  refine j_aload_n F 2 rfl rfl dX9_findAlike_0 ?_
  refine j_iconst F dX9_findAlike_1 ?_
  refine j_aload_n F 0 rfl rfl dX9_findAlike_2 ?_
  obtain ⟨g1, h⟩ := gua h
  refine j_get F ft_X9_47 rfl g1 dX9_findAlike_3 ?_
  obtain ⟨g5, h⟩ := gua h
  refine j_callV (d' := 1) (argl := [(true, 0), (true, (fd M 10 2 x0))]) (rk9 := 1) (st := []) F hno M_X10_nextRun q1124 q1125 q1140 ⟨by decide, by decide⟩ (Nat.le_of_ble_eq_true rfl) (by decide) (ci := 11) rfl (by decide) g5 dX9_findAlike_6 rfl h (fun z hz => c_X10_nextRun l F.ht G x2 0 (fd M 10 2 x0) M z hz) (fun v2 M3 h kl4 => ?_)
  refine j_st (st' := [(true, v2)]) rfl ?_
  refine j_istore F (lv' := [(6, (true, v2)), (0, (false, x0)), (1, (true, x1)), (2, (false, x2)), (3, (false, x3)), (4, (true, x4)), (5, (true, x5))]) (by decide) rfl dX9_findAlike_9 ?_
  refine j_bipush F (by decide) dX9_findAlike_11 ?_
  refine j_istore F (lv' := [(7, (true, 100)), (6, (true, v2)), (0, (false, x0)), (1, (true, x1)), (2, (false, x2)), (3, (false, x3)), (4, (true, x4)), (5, (true, x5))]) (by decide) rfl dX9_findAlike_13 ?_
  refine j_sub (lv' := [(0, (false, x0)), (1, (true, x1)), (2, (false, x2)), (3, (false, x3)), (4, (true, x4)), (5, (true, x5)), (6, (true, v2)), (7, (true, 100))]) [2, 3, 4, 5, 6, 7, 1, 0] rfl ?_
  exact w_X9_findAlike_15 F hno hnm FU x0 x1 x2 x3 x4 x5 v2 100 M3 h
theorem c_X9_findAlike (l : Launch) (hl : l.stackTraces = false) (G : Gt) (x0 x1 x2 x3 x4 x5 : Int) (M : Mo) (z : RS) (h : X9_findAlike x0 x1 x2 x3 x4 x5 M = some z) : CT l G yX9_findAlike (cn yX9_findAlike cX9_findAlike 9 none) 4 [(false, x0), (true, x1), (false, x2), (false, x3), (true, x4), (true, x5)] M 0 z :=
  ctOf hl (by decide) (Nat.le_of_ble_eq_true rfl) (fun p e R s m args below meth c ρ F hno hnm => w_X9_findAlike_0 F hno hnm x0 x1 x2 x3 x4 x5 M h)
theorem dX9_findEverywhere_0 : decode cX9_findEverywhere 0 = .ok (.iconst 0, 1) := by decide +kernel
theorem dX9_findEverywhere_1 : decode cX9_findEverywhere 1 = .ok (.istore 4, 2) := by decide +kernel
theorem dX9_findEverywhere_3 : decode cX9_findEverywhere 3 = .ok (.iload 4, 2) := by decide +kernel
theorem dX9_findEverywhere_5 : decode cX9_findEverywhere 5 = .ok (.aload_n 0, 1) := by decide +kernel
theorem dX9_findEverywhere_6 : decode cX9_findEverywhere 6 = .ok (.getfield 50, 3) := by decide +kernel
set_option maxRecDepth 100000 in
theorem q1046 : Cond.code yX4_size cX4_size 1 (some FieldType.int) ∈ GT := gt 1046 (rfl) (by decide +kernel)
theorem M_X4_size : MY yX4_size cX4_size 1 (some FieldType.int) 0 := ⟨q1046, q55, by decide +kernel, by decide +kernel⟩
set_option maxRecDepth 100000 in
theorem q1044 : Cond.instanceMethod yX4_size ∈ GT := gt 1044 (by decide +kernel) (by decide +kernel)
set_option maxRecDepth 100000 in
theorem q1045 : Cond.selects RX4 yX4_size yX4_size ∈ GT := gt 1045 (by decide +kernel) (by decide +kernel)
set_option maxRecDepth 100000 in
theorem q1180 : Cond.methodLink RX9 222 yX4_size ∈ GT := gt 1180 (by decide +kernel) (by decide +kernel)
theorem dX9_findEverywhere_9 : decode cX9_findEverywhere 9 = .ok (.invokevirtual 222, 3) := by decide +kernel
theorem dX9_findEverywhere_12 : decode cX9_findEverywhere 12 = .ok (.if_icmp .ge 75, 3) := by decide +kernel
theorem dX9_findEverywhere_87 : decode cX9_findEverywhere 87 = .ok (.return_, 1) := by decide +kernel
theorem dX9_findEverywhere_15 : decode cX9_findEverywhere 15 = .ok (.aload_n 0, 1) := by decide +kernel
theorem dX9_findEverywhere_16 : decode cX9_findEverywhere 16 = .ok (.iload 4, 2) := by decide +kernel
theorem dX9_findEverywhere_18 : decode cX9_findEverywhere 18 = .ok (.invokevirtual 69, 3) := by decide +kernel
theorem dX9_findEverywhere_21 : decode cX9_findEverywhere 21 = .ok (.astore 5, 2) := by decide +kernel
theorem dX9_findEverywhere_23 : decode cX9_findEverywhere 23 = .ok (.aload 5, 2) := by decide +kernel
theorem dX9_findEverywhere_25 : decode cX9_findEverywhere 25 = .ok (.invokevirtual 94, 3) := by decide +kernel
theorem dX9_findEverywhere_28 : decode cX9_findEverywhere 28 = .ok (.ifCond .eq 53, 3) := by decide +kernel
theorem dX9_findEverywhere_31 : decode cX9_findEverywhere 31 = .ok (.iload_n 3, 1) := by decide +kernel
theorem dX9_findEverywhere_32 : decode cX9_findEverywhere 32 = .ok (.iload_n 2, 1) := by decide +kernel
theorem dX9_findEverywhere_33 : decode cX9_findEverywhere 33 = .ok (.isub, 1) := by decide +kernel
theorem dX9_findEverywhere_34 : decode cX9_findEverywhere 34 = .ok (.iconst 1, 1) := by decide +kernel
theorem dX9_findEverywhere_35 : decode cX9_findEverywhere 35 = .ok (.if_icmp .ne 32, 3) := by decide +kernel
theorem dX9_findEverywhere_38 : decode cX9_findEverywhere 38 = .ok (.aload_n 1, 1) := by decide +kernel
theorem dX9_findEverywhere_39 : decode cX9_findEverywhere 39 = .ok (.iload_n 2, 1) := by decide +kernel
set_option maxRecDepth 100000 in
theorem q1181 : Cond.methodLink RX9 225 yX10_at ∈ GT := gt 1181 (by decide +kernel) (by decide +kernel)
theorem dX9_findEverywhere_40 : decode cX9_findEverywhere 40 = .ok (.invokevirtual 225, 3) := by decide +kernel
theorem dX9_findEverywhere_43 : decode cX9_findEverywhere 43 = .ok (.aload_n 0, 1) := by decide +kernel
theorem dX9_findEverywhere_44 : decode cX9_findEverywhere 44 = .ok (.getfield 50, 3) := by decide +kernel
theorem dX9_findEverywhere_47 : decode cX9_findEverywhere 47 = .ok (.iload 4, 2) := by decide +kernel
set_option maxRecDepth 100000 in
theorem q605 : Cond.code yX4_nameOf cX4_nameOf 2 (some FieldType.char) ∈ GT := gt 605 (rfl) (by decide +kernel)
theorem M_X4_nameOf : MY yX4_nameOf cX4_nameOf 2 (some FieldType.char) 1 := ⟨q605, q55, by decide +kernel, by decide +kernel⟩
set_option maxRecDepth 100000 in
theorem q603 : Cond.instanceMethod yX4_nameOf ∈ GT := gt 603 (by decide +kernel) (by decide +kernel)
set_option maxRecDepth 100000 in
theorem q604 : Cond.selects RX4 yX4_nameOf yX4_nameOf ∈ GT := gt 604 (by decide +kernel) (by decide +kernel)
set_option maxRecDepth 100000 in
theorem q1182 : Cond.methodLink RX9 228 yX4_nameOf ∈ GT := gt 1182 (by decide +kernel) (by decide +kernel)
theorem dX9_findEverywhere_49 : decode cX9_findEverywhere 49 = .ok (.invokevirtual 228, 3) := by decide +kernel
theorem dX9_findEverywhere_52 : decode cX9_findEverywhere 52 = .ok (.if_icmp .ne 15, 3) := by decide +kernel
theorem dX9_findEverywhere_55 : decode cX9_findEverywhere 55 = .ok (.aload_n 0, 1) := by decide +kernel
theorem dX9_findEverywhere_56 : decode cX9_findEverywhere 56 = .ok (.getfield 32, 3) := by decide +kernel
theorem dX9_findEverywhere_59 : decode cX9_findEverywhere 59 = .ok (.iload 4, 2) := by decide +kernel
theorem dX9_findEverywhere_61 : decode cX9_findEverywhere 61 = .ok (.iconst (-1), 1) := by decide +kernel
theorem dX9_findEverywhere_62 : decode cX9_findEverywhere 62 = .ok (.iconst (-1), 1) := by decide +kernel
theorem dX9_findEverywhere_63 : decode cX9_findEverywhere 63 = .ok (.iconst 0, 1) := by decide +kernel
theorem dX9_findEverywhere_64 : decode cX9_findEverywhere 64 = .ok (.invokevirtual 187, 3) := by decide +kernel
theorem dX9_findEverywhere_67 : decode cX9_findEverywhere 67 = .ok (.aload_n 0, 1) := by decide +kernel
theorem dX9_findEverywhere_68 : decode cX9_findEverywhere 68 = .ok (.iload 4, 2) := by decide +kernel
theorem dX9_findEverywhere_70 : decode cX9_findEverywhere 70 = .ok (.aload 5, 2) := by decide +kernel
theorem dX9_findEverywhere_72 : decode cX9_findEverywhere 72 = .ok (.getfield 98, 3) := by decide +kernel
theorem dX9_findEverywhere_75 : decode cX9_findEverywhere 75 = .ok (.aload_n 1, 1) := by decide +kernel
theorem dX9_findEverywhere_76 : decode cX9_findEverywhere 76 = .ok (.iload_n 2, 1) := by decide +kernel
theorem dX9_findEverywhere_77 : decode cX9_findEverywhere 77 = .ok (.iload_n 3, 1) := by decide +kernel
set_option maxRecDepth 100000 in
theorem q1186 : Cond.code yX9_findAlike cX9_findAlike 9 none ∈ GT := gt 1186 (rfl) (by decide +kernel)
theorem M_X9_findAlike : MY yX9_findAlike cX9_findAlike 9 none 5 := ⟨q1186, q72, by decide +kernel, by decide +kernel⟩
set_option maxRecDepth 100000 in
theorem q1185 : Cond.instanceMethod yX9_findAlike ∈ GT := gt 1185 (by decide +kernel) (by decide +kernel)
set_option maxRecDepth 100000 in
theorem q21 : Cond.selects RX9 yX9_findAlike yX9_findAlike ∈ GT := gt 21 (by decide +kernel) (by decide +kernel)
set_option maxRecDepth 100000 in
theorem q1183 : Cond.methodLink RX9 194 yX9_findAlike ∈ GT := gt 1183 (by decide +kernel) (by decide +kernel)
theorem dX9_findEverywhere_78 : decode cX9_findEverywhere 78 = .ok (.invokevirtual 194, 3) := by decide +kernel
theorem dX9_findEverywhere_81 : decode cX9_findEverywhere 81 = .ok (.iinc 4 1, 3) := by decide +kernel
theorem dX9_findEverywhere_84 : decode cX9_findEverywhere 84 = .ok (.goto (-81), 3) := by decide +kernel
set_option maxHeartbeats 4000000 in
set_option maxRecDepth 100000 in
theorem w_X9_findEverywhere_81 {p : Program} {l : Launch} {e : Env} {R : Room} {s : State} {m : MethodId} {args : Array Value} {below : List Frame} {meth : Method} {c : Code} {G : Gt} {ρ0 : Int → Nat} {M0 : Mo} {res : RS} (F : Fx p l R s m args meth c cX9_findEverywhere 6 RX9 G M0 5 none) (hno : ∀ x ∈ c.exceptionTable.toList, False) (hnm : meth.name = yX9_findEverywhere.name) (k3 : Int → Int → Int → Int → Int → Mo → Option RS) (hk3 : ∀ (x0 x1 x2 x3 x4 : Int) (M : Mo), k3 x0 x1 x2 x3 x4 M = some res → J p l e R s m args below meth c 6 G ρ0 M0 0 res M 3 [(0, (false, x0)), (1, (false, x1)), (2, (true, x2)), (3, (true, x3)), (4, (true, x4))] []) (x0 x1 x2 x3 x4 : Int) (M : Mo) (h : X9_findEverywhere_81 k3 x0 x1 x2 x3 x4 M = some res) : J p l e R s m args below meth c 6 G ρ0 M0 0 res M 81 [(0, (false, x0)), (1, (false, x1)), (2, (true, x2)), (3, (true, x3)), (4, (true, x4))] [] := by
  unfold X9_findEverywhere_81 at h
  refine j_iinc F 4 (lv' := [(4, (true, (x4 + 1))), (0, (false, x0)), (1, (false, x1)), (2, (true, x2)), (3, (true, x3))]) rfl (by decide) rfl dX9_findEverywhere_81 ?_
  refine j_goto F 3 (by decide) dX9_findEverywhere_84 ?_
  refine j_sub (lv' := [(0, (false, x0)), (1, (false, x1)), (2, (true, x2)), (3, (true, x3)), (4, (true, (x4 + 1)))]) [1, 2, 3, 4, 0] rfl ?_
  exact hk3 x0 x1 x2 x3 (x4 + 1) M h
set_option maxHeartbeats 4000000 in
set_option maxRecDepth 100000 in
theorem w_X9_findEverywhere_67 {p : Program} {l : Launch} {e : Env} {R : Room} {s : State} {m : MethodId} {args : Array Value} {below : List Frame} {meth : Method} {c : Code} {G : Gt} {ρ0 : Int → Nat} {M0 : Mo} {res : RS} (F : Fx p l R s m args meth c cX9_findEverywhere 6 RX9 G M0 5 none) (hno : ∀ x ∈ c.exceptionTable.toList, False) (hnm : meth.name = yX9_findEverywhere.name) (k3 : Int → Int → Int → Int → Int → Mo → Option RS) (hk3 : ∀ (x0 x1 x2 x3 x4 : Int) (M : Mo), k3 x0 x1 x2 x3 x4 M = some res → J p l e R s m args below meth c 6 G ρ0 M0 0 res M 3 [(0, (false, x0)), (1, (false, x1)), (2, (true, x2)), (3, (true, x3)), (4, (true, x4))] []) (x0 x1 x2 x3 x4 x5 : Int) (M : Mo) (h : X9_findEverywhere_67 k3 x0 x1 x2 x3 x4 x5 M = some res) : J p l e R s m args below meth c 6 G ρ0 M0 0 res M 67 [(0, (false, x0)), (1, (false, x1)), (2, (true, x2)), (3, (true, x3)), (4, (true, x4)), (5, (false, x5))] [] := by
  unfold X9_findEverywhere_67 at h
  refine j_aload_n F 0 rfl rfl dX9_findEverywhere_67 ?_
  refine j_iload F 4 rfl dX9_findEverywhere_68 ?_
  refine j_aload F 5 rfl dX9_findEverywhere_70 ?_
  obtain ⟨g1, h⟩ := gua h
  refine j_get F ft_X9_98 rfl g1 dX9_findEverywhere_72 ?_
  refine j_aload_n F 1 rfl rfl dX9_findEverywhere_75 ?_
  refine j_iload_n F 2 rfl rfl dX9_findEverywhere_76 ?_
  refine j_iload_n F 3 rfl rfl dX9_findEverywhere_77 ?_
  obtain ⟨g5, h⟩ := gua h
  refine j_callV (d' := 4) (argl := [(true, x4), (false, (fd M 3 0 x5)), (false, x1), (true, x2), (true, x3)]) (rk9 := 0) (st := []) F hno M_X9_findAlike q1185 q21 q1183 ⟨by decide, by decide⟩ (Nat.le_of_ble_eq_true rfl) (by decide) (ci := 10) rfl (by decide) g5 dX9_findEverywhere_78 rfl h (fun z hz => c_X9_findAlike l F.ht G x0 x4 (fd M 3 0 x5) x1 x2 x3 M z hz) (fun v2 M3 h kl4 => ?_)
  refine j_st (st' := []) rfl ?_
  refine j_sub (lv' := [(0, (false, x0)), (1, (false, x1)), (2, (true, x2)), (3, (true, x3)), (4, (true, x4))]) [0, 1, 2, 3, 4] rfl ?_
  exact w_X9_findEverywhere_81 F hno hnm k3 hk3 x0 x1 x2 x3 x4 M3 h
set_option maxHeartbeats 4000000 in
set_option maxRecDepth 100000 in
theorem w_X9_findEverywhere_3 {p : Program} {l : Launch} {e : Env} {R : Room} {s : State} {m : MethodId} {args : Array Value} {below : List Frame} {meth : Method} {c : Code} {G : Gt} {ρ0 : Int → Nat} {M0 : Mo} {res : RS} (F : Fx p l R s m args meth c cX9_findEverywhere 6 RX9 G M0 5 none) (hno : ∀ x ∈ c.exceptionTable.toList, False) (hnm : meth.name = yX9_findEverywhere.name) (n : Nat) : ∀ (x0 x1 x2 x3 x4 : Int) (M : Mo), X9_findEverywhere_3 n x0 x1 x2 x3 x4 M = some res → J p l e R s m args below meth c 6 G ρ0 M0 0 res M 3 [(0, (false, x0)), (1, (false, x1)), (2, (true, x2)), (3, (true, x3)), (4, (true, x4))] [] := by
  induction n with
  | zero => intro x0 x1 x2 x3 x4 M h; cases h
  | succ n ih =>
    intro x0 x1 x2 x3 x4 M h
    rw [X9_findEverywhere_3] at h
    refine j_iload F 4 rfl dX9_findEverywhere_3 ?_
    refine j_aload_n F 0 rfl rfl dX9_findEverywhere_5 ?_
    obtain ⟨g1, h⟩ := gua h
    refine j_get F ft_X9_50 rfl g1 dX9_findEverywhere_6 ?_
    obtain ⟨g5, h⟩ := gua h
    refine j_callV (d' := 0) (argl := []) (rk9 := 1) (st := [(true, x4)]) F hno M_X4_size q1044 q1045 q1180 ⟨by decide, by decide⟩ (Nat.le_of_ble_eq_true rfl) (by decide) (ci := 5) rfl (by decide) g5 dX9_findEverywhere_9 rfl h (fun z hz => c_X4_size l F.ht G (fd M 10 3 x0) M z hz) (fun v2 M3 h kl4 => ?_)
    refine j_st (st' := [(true, v2), (true, x4)]) rfl ?_
    refine j_icmp_ge F 87 (by decide) dX9_findEverywhere_12 h (fun h => ?_) (fun h => ?_)
    · skip
      exact j_vret F (v := 0) h dX9_findEverywhere_87
    · skip
      refine j_aload_n F 0 rfl rfl dX9_findEverywhere_15 ?_
      refine j_iload F 4 rfl dX9_findEverywhere_16 ?_
      refine j_callV (d' := 0) (argl := [(true, x4)]) (rk9 := 2) (st := []) F hno M_X9_copyOf q1111 q1112 q1110 ⟨by decide, by decide⟩ (Nat.le_of_ble_eq_true rfl) (by decide) (ci := 10) rfl (by decide) (kl4.is g1) dX9_findEverywhere_18 rfl h (fun z hz => c_X9_copyOf l F.ht G x0 x4 M3 z hz) (fun v6 M7 h kl8 => ?_)
      refine j_st (st' := [(false, v6)]) rfl ?_
      refine j_astore F (lv' := [(5, (false, v6)), (0, (false, x0)), (1, (false, x1)), (2, (true, x2)), (3, (true, x3)), (4, (true, x4))]) (by decide) rfl dX9_findEverywhere_21 ?_
      refine j_aload F 0 rfl dX9_findEverywhere_23 ?_
      obtain ⟨g12, h⟩ := gua h
      refine j_callV (d' := 0) (argl := []) (rk9 := 1) (st := []) F hno M_X2_isHere q468 q469 q1114 ⟨by decide, by decide⟩ (Nat.le_of_ble_eq_true rfl) (by decide) (ci := 3) rfl (by decide) g12 dX9_findEverywhere_25 rfl h (fun z hz => c_X2_isHere l F.ht G v6 M7 z hz) (fun v9 M10 h kl11 => ?_)
      refine j_st (st' := [(true, v9)]) rfl ?_
      refine j_if_eq F 81 (by decide) dX9_findEverywhere_28 h (fun h => ?_) (fun h => ?_)
      · skip
        refine j_sub (lv' := [(0, (false, x0)), (1, (false, x1)), (2, (true, x2)), (3, (true, x3)), (4, (true, x4))]) [1, 2, 3, 4, 5] rfl ?_
        exact w_X9_findEverywhere_81 F hno hnm (X9_findEverywhere_3 n) ih x0 x1 x2 x3 x4 M10 h
      · skip
        refine j_iload_n F 4 rfl rfl dX9_findEverywhere_31 ?_
        refine j_iload_n F 3 rfl rfl dX9_findEverywhere_32 ?_
        refine j_isub F dX9_findEverywhere_33 ?_
        refine j_iconst F dX9_findEverywhere_34 ?_
        refine j_icmp_ne F 67 (by decide) dX9_findEverywhere_35 h (fun h => ?_) (fun h => ?_)
        · skip
          refine j_sub (lv' := [(0, (false, x0)), (1, (false, x1)), (2, (true, x2)), (3, (true, x3)), (4, (true, x4)), (5, (false, v6))]) [1, 2, 3, 4, 5, 0] rfl ?_
          exact w_X9_findEverywhere_67 F hno hnm (X9_findEverywhere_3 n) ih x0 x1 x2 x3 x4 v6 M10 h
        · skip
          refine j_aload_n F 2 rfl rfl dX9_findEverywhere_38 ?_
          refine j_iload_n F 3 rfl rfl dX9_findEverywhere_39 ?_
          obtain ⟨g16, h⟩ := gua h
          refine j_callV (d' := 0) (argl := [(true, x2)]) (rk9 := 1) (st := []) F hno M_X10_at q896 q897 q1181 ⟨by decide, by decide⟩ (Nat.le_of_ble_eq_true rfl) (by decide) (ci := 11) rfl (by decide) g16 dX9_findEverywhere_40 rfl h (fun z hz => c_X10_at l F.ht G x1 x2 M10 z hz) (fun v13 M14 h kl15 => ?_)
          refine j_st (st' := [(true, v13)]) rfl ?_
          refine j_aload_n F 1 rfl rfl dX9_findEverywhere_43 ?_
          refine j_get F ft_X9_50 rfl (kl15.is (kl11.is (kl8.is (kl4.is g1)))) dX9_findEverywhere_44 ?_
          refine j_iload F 5 rfl dX9_findEverywhere_47 ?_
          obtain ⟨g20, h⟩ := gua h
          refine j_callV (d' := 1) (argl := [(true, x4)]) (rk9 := 1) (st := [(true, v13)]) F hno M_X4_nameOf q603 q604 q1182 ⟨by decide, by decide⟩ (Nat.le_of_ble_eq_true rfl) (by decide) (ci := 5) rfl (by decide) g20 dX9_findEverywhere_49 rfl h (fun z hz => c_X4_nameOf l F.ht G (fd M14 10 3 x0) x4 M14 z hz) (fun v17 M18 h kl19 => ?_)
          refine j_st (st' := [(true, v17), (true, v13)]) rfl ?_
          refine j_icmp_ne F 67 (by decide) dX9_findEverywhere_52 h (fun h => ?_) (fun h => ?_)
          · skip
            refine j_sub (lv' := [(0, (false, x0)), (1, (false, x1)), (2, (true, x2)), (3, (true, x3)), (4, (true, x4)), (5, (false, v6))]) [1, 2, 3, 4, 5, 0] rfl ?_
            exact w_X9_findEverywhere_67 F hno hnm (X9_findEverywhere_3 n) ih x0 x1 x2 x3 x4 v6 M18 h
          · skip
            refine j_aload_n F 1 rfl rfl dX9_findEverywhere_55 ?_
            refine j_get F ft_X9_32 rfl (kl19.is (kl15.is (kl11.is (kl8.is (kl4.is g1))))) dX9_findEverywhere_56 ?_
            refine j_iload F 5 rfl dX9_findEverywhere_59 ?_
            refine j_iconst F dX9_findEverywhere_61 ?_
            refine j_iconst F dX9_findEverywhere_62 ?_
            refine j_iconst F dX9_findEverywhere_63 ?_
            obtain ⟨g24, h⟩ := gua h
            refine j_callV (d' := 3) (argl := [(true, x4), (true, (-1)), (true, (-1)), (true, 0)]) (rk9 := 0) (st := []) F hno M_X5_add q1171 q1172 q1170 ⟨by decide, by decide⟩ (Nat.le_of_ble_eq_true rfl) (by decide) (ci := 6) rfl (by decide) g24 dX9_findEverywhere_64 rfl h (fun z hz => c_X5_add l F.ht G (fd M18 10 7 x0) x4 (-1) (-1) 0 M18 z hz) (fun v21 M22 h kl23 => ?_)
            refine j_st (st' := []) rfl ?_
            refine j_sub (lv' := [(0, (false, x0)), (1, (false, x1)), (2, (true, x2)), (3, (true, x3)), (4, (true, x4)), (5, (false, v6))]) [1, 2, 3, 4, 5, 0] rfl ?_
            exact w_X9_findEverywhere_67 F hno hnm (X9_findEverywhere_3 n) ih x0 x1 x2 x3 x4 v6 M22 h
set_option maxHeartbeats 4000000 in
set_option maxRecDepth 100000 in
theorem w_X9_findEverywhere_0 {p : Program} {l : Launch} {e : Env} {R : Room} {s : State} {m : MethodId} {args : Array Value} {below : List Frame} {meth : Method} {c : Code} {G : Gt} {ρ0 : Int → Nat} {M0 : Mo} {res : RS} (F : Fx p l R s m args meth c cX9_findEverywhere 6 RX9 G M0 5 none) (hno : ∀ x ∈ c.exceptionTable.toList, False) (hnm : meth.name = yX9_findEverywhere.name) (x0 x1 x2 x3 : Int) (M : Mo) (h : X9_findEverywhere x0 x1 x2 x3 M = some res) : J p l e R s m args below meth c 6 G ρ0 M0 0 res M 0 [(0, (false, x0)), (1, (false, x1)), (2, (true, x2)), (3, (true, x3))] [] := by
  unfold X9_findEverywhere at h
  refine j_iconst F dX9_findEverywhere_0 ?_
  refine j_istore F (lv' := [(4, (true, 0)), (0, (false, x0)), (1, (false, x1)), (2, (true, x2)), (3, (true, x3))]) (by decide) rfl dX9_findEverywhere_1 ?_
  refine j_sub (lv' := [(0, (false, x0)), (1, (false, x1)), (2, (true, x2)), (3, (true, x3)), (4, (true, 0))]) [1, 2, 3, 4, 0] rfl ?_
  exact w_X9_findEverywhere_3 F hno hnm FU x0 x1 x2 x3 0 M h
theorem c_X9_findEverywhere (l : Launch) (hl : l.stackTraces = false) (G : Gt) (x0 x1 x2 x3 : Int) (M : Mo) (z : RS) (h : X9_findEverywhere x0 x1 x2 x3 M = some z) : CT l G yX9_findEverywhere (cn yX9_findEverywhere cX9_findEverywhere 6 none) 5 [(false, x0), (false, x1), (true, x2), (true, x3)] M 0 z :=
  ctOf hl (by decide) (Nat.le_of_ble_eq_true rfl) (fun p e R s m args below meth c ρ F hno hnm => w_X9_findEverywhere_0 F hno hnm x0 x1 x2 x3 M h)
theorem dX9_keepOne_0 : decode cX9_keepOne 0 = .ok (.aload_n 0, 1) := by decide +kernel
theorem dX9_keepOne_1 : decode cX9_keepOne 1 = .ok (.getfield 32, 3) := by decide +kernel
set_option maxRecDepth 100000 in
theorem q1024 : Cond.code yX5_size cX5_size 1 (some FieldType.int) ∈ GT := gt 1024 (rfl) (by decide +kernel)
theorem M_X5_size : MY yX5_size cX5_size 1 (some FieldType.int) 0 := ⟨q1024, q62, by decide +kernel, by decide +kernel⟩
set_option maxRecDepth 100000 in
theorem q1022 : Cond.instanceMethod yX5_size ∈ GT := gt 1022 (by decide +kernel) (by decide +kernel)
set_option maxRecDepth 100000 in
theorem q1023 : Cond.selects RX5 yX5_size yX5_size ∈ GT := gt 1023 (by decide +kernel) (by decide +kernel)
set_option maxRecDepth 100000 in
theorem q1191 : Cond.methodLink RX9 201 yX5_size ∈ GT := gt 1191 (by decide +kernel) (by decide +kernel)
theorem dX9_keepOne_4 : decode cX9_keepOne 4 = .ok (.invokevirtual 201, 3) := by decide +kernel
theorem dX9_keepOne_7 : decode cX9_keepOne 7 = .ok (.istore 5, 2) := by decide +kernel
theorem dX9_keepOne_9 : decode cX9_keepOne 9 = .ok (.aload_n 0, 1) := by decide +kernel
theorem dX9_keepOne_10 : decode cX9_keepOne 10 = .ok (.getfield 32, 3) := by decide +kernel
theorem dX9_keepOne_13 : decode cX9_keepOne 13 = .ok (.iconst 0, 1) := by decide +kernel
set_option maxRecDepth 100000 in
theorem q1192 : Cond.methodLink RX9 202 yX5_startAt ∈ GT := gt 1192 (by decide +kernel) (by decide +kernel)
theorem dX9_keepOne_14 : decode cX9_keepOne 14 = .ok (.invokevirtual 202, 3) := by decide +kernel
theorem dX9_keepOne_17 : decode cX9_keepOne 17 = .ok (.istore 6, 2) := by decide +kernel
theorem dX9_keepOne_19 : decode cX9_keepOne 19 = .ok (.aload_n 0, 1) := by decide +kernel
theorem dX9_keepOne_20 : decode cX9_keepOne 20 = .ok (.getfield 32, 3) := by decide +kernel
theorem dX9_keepOne_23 : decode cX9_keepOne 23 = .ok (.iconst 0, 1) := by decide +kernel
set_option maxRecDepth 100000 in
theorem q1193 : Cond.methodLink RX9 205 yX5_endAt ∈ GT := gt 1193 (by decide +kernel) (by decide +kernel)
theorem dX9_keepOne_24 : decode cX9_keepOne 24 = .ok (.invokevirtual 205, 3) := by decide +kernel
theorem dX9_keepOne_27 : decode cX9_keepOne 27 = .ok (.istore 7, 2) := by decide +kernel
theorem dX9_keepOne_29 : decode cX9_keepOne 29 = .ok (.aload_n 0, 1) := by decide +kernel
theorem dX9_keepOne_30 : decode cX9_keepOne 30 = .ok (.getfield 32, 3) := by decide +kernel
set_option maxRecDepth 100000 in
theorem q853 : Cond.code yX5_clear cX5_clear 1 none ∈ GT := gt 853 (rfl) (by decide +kernel)
theorem M_X5_clear : MY yX5_clear cX5_clear 1 none 0 := ⟨q853, q62, by decide +kernel, by decide +kernel⟩
set_option maxRecDepth 100000 in
theorem q851 : Cond.instanceMethod yX5_clear ∈ GT := gt 851 (by decide +kernel) (by decide +kernel)
set_option maxRecDepth 100000 in
theorem q852 : Cond.selects RX5 yX5_clear yX5_clear ∈ GT := gt 852 (by decide +kernel) (by decide +kernel)
set_option maxRecDepth 100000 in
theorem q1097 : Cond.methodLink RX9 140 yX5_clear ∈ GT := gt 1097 (by decide +kernel) (by decide +kernel)
theorem dX9_keepOne_33 : decode cX9_keepOne 33 = .ok (.invokevirtual 140, 3) := by decide +kernel
theorem dX9_keepOne_36 : decode cX9_keepOne 36 = .ok (.iload_n 1, 1) := by decide +kernel
theorem dX9_keepOne_37 : decode cX9_keepOne 37 = .ok (.iconst 1, 1) := by decide +kernel
theorem dX9_keepOne_38 : decode cX9_keepOne 38 = .ok (.if_icmp .ne 19, 3) := by decide +kernel
theorem dX9_keepOne_57 : decode cX9_keepOne 57 = .ok (.aload_n 0, 1) := by decide +kernel
theorem dX9_keepOne_58 : decode cX9_keepOne 58 = .ok (.getfield 32, 3) := by decide +kernel
theorem dX9_keepOne_61 : decode cX9_keepOne 61 = .ok (.iload_n 2, 1) := by decide +kernel
theorem dX9_keepOne_62 : decode cX9_keepOne 62 = .ok (.iload 6, 2) := by decide +kernel
theorem dX9_keepOne_64 : decode cX9_keepOne 64 = .ok (.iload 7, 2) := by decide +kernel
theorem dX9_keepOne_66 : decode cX9_keepOne 66 = .ok (.iconst 0, 1) := by decide +kernel
theorem dX9_keepOne_67 : decode cX9_keepOne 67 = .ok (.invokevirtual 187, 3) := by decide +kernel
theorem dX9_keepOne_70 : decode cX9_keepOne 70 = .ok (.return_, 1) := by decide +kernel
theorem dX9_keepOne_41 : decode cX9_keepOne 41 = .ok (.aload_n 0, 1) := by decide +kernel
theorem dX9_keepOne_42 : decode cX9_keepOne 42 = .ok (.getfield 32, 3) := by decide +kernel
theorem dX9_keepOne_45 : decode cX9_keepOne 45 = .ok (.iload_n 2, 1) := by decide +kernel
theorem dX9_keepOne_46 : decode cX9_keepOne 46 = .ok (.iload_n 3, 1) := by decide +kernel
theorem dX9_keepOne_47 : decode cX9_keepOne 47 = .ok (.iload 4, 2) := by decide +kernel
theorem dX9_keepOne_49 : decode cX9_keepOne 49 = .ok (.iload 5, 2) := by decide +kernel
theorem dX9_keepOne_51 : decode cX9_keepOne 51 = .ok (.invokevirtual 187, 3) := by decide +kernel
theorem dX9_keepOne_54 : decode cX9_keepOne 54 = .ok (.goto 16, 3) := by decide +kernel
set_option maxHeartbeats 4000000 in
set_option maxRecDepth 100000 in
theorem w_X9_keepOne_0 {p : Program} {l : Launch} {e : Env} {R : Room} {s : State} {m : MethodId} {args : Array Value} {below : List Frame} {meth : Method} {c : Code} {G : Gt} {ρ0 : Int → Nat} {M0 : Mo} {res : RS} (F : Fx p l R s m args meth c cX9_keepOne 8 RX9 G M0 4 none) (hno : ∀ x ∈ c.exceptionTable.toList, False) (hnm : meth.name = yX9_keepOne.name) (x0 x1 x2 x3 x4 : Int) (M : Mo) (h : X9_keepOne x0 x1 x2 x3 x4 M = some res) : J p l e R s m args below meth c 8 G ρ0 M0 0 res M 0 [(0, (false, x0)), (1, (true, x1)), (2, (true, x2)), (3, (true, x3)), (4, (true, x4))] [] := by
  unfold X9_keepOne at h
  refine j_aload_n F 0 rfl rfl dX9_keepOne_0 ?_
  obtain ⟨g1, h⟩ := gua h
  refine j_get F ft_X9_32 rfl g1 dX9_keepOne_1 ?_
  obtain ⟨g5, h⟩ := gua h
  refine j_callV (d' := 0) (argl := []) (rk9 := 1) (st := []) F hno M_X5_size q1022 q1023 q1191 ⟨by decide, by decide⟩ (Nat.le_of_ble_eq_true rfl) (by decide) (ci := 6) rfl (by decide) g5 dX9_keepOne_4 rfl h (fun z hz => c_X5_size l F.ht G (fd M 10 7 x0) M z hz) (fun v2 M3 h kl4 => ?_)
  refine j_st (st' := [(true, v2)]) rfl ?_
  refine j_istore F (lv' := [(5, (true, v2)), (0, (false, x0)), (1, (true, x1)), (2, (true, x2)), (3, (true, x3)), (4, (true, x4))]) (by decide) rfl dX9_keepOne_7 ?_
  refine j_aload_n F 1 rfl rfl dX9_keepOne_9 ?_
  refine j_get F ft_X9_32 rfl (kl4.is g1) dX9_keepOne_10 ?_
  refine j_iconst F dX9_keepOne_13 ?_
  obtain ⟨g9, h⟩ := gua h
  refine j_callV (d' := 1) (argl := [(true, 0)]) (rk9 := 1) (st := []) F hno M_X5_startAt q1034 q1035 q1192 ⟨by decide, by decide⟩ (Nat.le_of_ble_eq_true rfl) (by decide) (ci := 6) rfl (by decide) g9 dX9_keepOne_14 rfl h (fun z hz => c_X5_startAt l F.ht G (fd M3 10 7 x0) 0 M3 z hz) (fun v6 M7 h kl8 => ?_)
  refine j_st (st' := [(true, v6)]) rfl ?_
  refine j_istore F (lv' := [(6, (true, v6)), (5, (true, v2)), (0, (false, x0)), (1, (true, x1)), (2, (true, x2)), (3, (true, x3)), (4, (true, x4))]) (by decide) rfl dX9_keepOne_17 ?_
  refine j_aload_n F 2 rfl rfl dX9_keepOne_19 ?_
  refine j_get F ft_X9_32 rfl (kl8.is (kl4.is g1)) dX9_keepOne_20 ?_
  refine j_iconst F dX9_keepOne_23 ?_
  obtain ⟨g13, h⟩ := gua h
  refine j_callV (d' := 1) (argl := [(true, 0)]) (rk9 := 1) (st := []) F hno M_X5_endAt q1052 q1053 q1193 ⟨by decide, by decide⟩ (Nat.le_of_ble_eq_true rfl) (by decide) (ci := 6) rfl (by decide) g13 dX9_keepOne_24 rfl h (fun z hz => c_X5_endAt l F.ht G (fd M7 10 7 x0) 0 M7 z hz) (fun v10 M11 h kl12 => ?_)
  refine j_st (st' := [(true, v10)]) rfl ?_
  refine j_istore F (lv' := [(7, (true, v10)), (6, (true, v6)), (5, (true, v2)), (0, (false, x0)), (1, (true, x1)), (2, (true, x2)), (3, (true, x3)), (4, (true, x4))]) (by decide) rfl dX9_keepOne_27 ?_
  refine j_aload_n F 3 rfl rfl dX9_keepOne_29 ?_
  refine j_get F ft_X9_32 rfl (kl12.is (kl8.is (kl4.is g1))) dX9_keepOne_30 ?_
  obtain ⟨g17, h⟩ := gua h
  refine j_callV (d' := 0) (argl := []) (rk9 := 0) (st := []) F hno M_X5_clear q851 q852 q1097 ⟨by decide, by decide⟩ (Nat.le_of_ble_eq_true rfl) (by decide) (ci := 6) rfl (by decide) g17 dX9_keepOne_33 rfl h (fun z hz => c_X5_clear l F.ht G (fd M11 10 7 x0) M11 z hz) (fun v14 M15 h kl16 => ?_)
  refine j_st (st' := []) rfl ?_
  refine j_iload_n F 4 rfl rfl dX9_keepOne_36 ?_
  refine j_iconst F dX9_keepOne_37 ?_
  refine j_icmp_ne F 57 (by decide) dX9_keepOne_38 h (fun h => ?_) (fun h => ?_)
  · skip
    refine j_aload_n F 3 rfl rfl dX9_keepOne_57 ?_
    refine j_get F ft_X9_32 rfl (kl16.is (kl12.is (kl8.is (kl4.is g1)))) dX9_keepOne_58 ?_
    refine j_iload_n F 5 rfl rfl dX9_keepOne_61 ?_
    refine j_iload F 1 rfl dX9_keepOne_62 ?_
    refine j_iload F 0 rfl dX9_keepOne_64 ?_
    refine j_iconst F dX9_keepOne_66 ?_
    obtain ⟨g21, h⟩ := gua h
    refine j_callV (d' := 3) (argl := [(true, x2), (true, v6), (true, v10), (true, 0)]) (rk9 := 0) (st := []) F hno M_X5_add q1171 q1172 q1170 ⟨by decide, by decide⟩ (Nat.le_of_ble_eq_true rfl) (by decide) (ci := 6) rfl (by decide) g21 dX9_keepOne_67 rfl h (fun z hz => c_X5_add l F.ht G (fd M15 10 7 x0) x2 v6 v10 0 M15 z hz) (fun v18 M19 h kl20 => ?_)
    refine j_st (st' := []) rfl ?_
    exact j_vret F (v := 0) h dX9_keepOne_70
  · skip
    refine j_aload_n F 3 rfl rfl dX9_keepOne_41 ?_
    refine j_get F ft_X9_32 rfl (kl16.is (kl12.is (kl8.is (kl4.is g1)))) dX9_keepOne_42 ?_
    refine j_iload_n F 5 rfl rfl dX9_keepOne_45 ?_
    refine j_iload_n F 6 rfl rfl dX9_keepOne_46 ?_
    refine j_iload F 7 rfl dX9_keepOne_47 ?_
    refine j_iload F 2 rfl dX9_keepOne_49 ?_
    obtain ⟨g25, h⟩ := gua h
    refine j_callV (d' := 3) (argl := [(true, x2), (true, x3), (true, x4), (true, v2)]) (rk9 := 0) (st := []) F hno M_X5_add q1171 q1172 q1170 ⟨by decide, by decide⟩ (Nat.le_of_ble_eq_true rfl) (by decide) (ci := 6) rfl (by decide) g25 dX9_keepOne_51 rfl h (fun z hz => c_X5_add l F.ht G (fd M15 10 7 x0) x2 x3 x4 v2 M15 z hz) (fun v22 M23 h kl24 => ?_)
    refine j_st (st' := []) rfl ?_
    refine j_goto F 70 (by decide) dX9_keepOne_54 ?_
    exact j_vret F (v := 0) h dX9_keepOne_70
theorem c_X9_keepOne (l : Launch) (hl : l.stackTraces = false) (G : Gt) (x0 x1 x2 x3 x4 : Int) (M : Mo) (z : RS) (h : X9_keepOne x0 x1 x2 x3 x4 M = some z) : CT l G yX9_keepOne (cn yX9_keepOne cX9_keepOne 8 none) 4 [(false, x0), (true, x1), (true, x2), (true, x3), (true, x4)] M 0 z :=
  ctOf hl (by decide) (Nat.le_of_ble_eq_true rfl) (fun p e R s m args below meth c ρ F hno hnm => w_X9_keepOne_0 F hno hnm x0 x1 x2 x3 x4 M h)
theorem dX9_find_0 : decode cX9_find 0 = .ok (.aload_n 1, 1) := by decide +kernel
theorem dX9_find_1 : decode cX9_find 1 = .ok (.getfield 111, 3) := by decide +kernel
theorem dX9_find_4 : decode cX9_find 4 = .ok (.istore_n 3, 1) := by decide +kernel
theorem dX9_find_5 : decode cX9_find 5 = .ok (.aload_n 1, 1) := by decide +kernel
theorem dX9_find_6 : decode cX9_find 6 = .ok (.getfield 64, 3) := by decide +kernel
theorem dX9_find_9 : decode cX9_find 9 = .ok (.istore 4, 2) := by decide +kernel
theorem dX9_find_11 : decode cX9_find 11 = .ok (.aload_n 2, 1) := by decide +kernel
theorem dX9_find_12 : decode cX9_find 12 = .ok (.iload_n 3, 1) := by decide +kernel
theorem dX9_find_13 : decode cX9_find 13 = .ok (.aload_n 0, 1) := by decide +kernel
theorem dX9_find_14 : decode cX9_find 14 = .ok (.getfield 47, 3) := by decide +kernel
set_option maxRecDepth 100000 in
theorem q1122 : Cond.code yX10_runAt cX10_runAt 6 (some FieldType.int) ∈ GT := gt 1122 (rfl) (by decide +kernel)
theorem M_X10_runAt : MY yX10_runAt cX10_runAt 6 (some FieldType.int) 2 := ⟨q1122, q54, by decide +kernel, by decide +kernel⟩
set_option maxRecDepth 100000 in
theorem q1120 : Cond.instanceMethod yX10_runAt ∈ GT := gt 1120 (by decide +kernel) (by decide +kernel)
set_option maxRecDepth 100000 in
theorem q1121 : Cond.selects RX10 yX10_runAt yX10_runAt ∈ GT := gt 1121 (by decide +kernel) (by decide +kernel)
set_option maxRecDepth 100000 in
theorem q1119 : Cond.methodLink RX9 167 yX10_runAt ∈ GT := gt 1119 (by decide +kernel) (by decide +kernel)
theorem dX9_find_17 : decode cX9_find 17 = .ok (.invokevirtual 167, 3) := by decide +kernel
theorem dX9_find_20 : decode cX9_find 20 = .ok (.istore 5, 2) := by decide +kernel
theorem dX9_find_22 : decode cX9_find 22 = .ok (.iload 5, 2) := by decide +kernel
theorem dX9_find_24 : decode cX9_find 24 = .ok (.iconst (-1), 1) := by decide +kernel
theorem dX9_find_25 : decode cX9_find 25 = .ok (.if_icmp .ne 7, 3) := by decide +kernel
theorem dX9_find_32 : decode cX9_find 32 = .ok (.aload_n 2, 1) := by decide +kernel
theorem dX9_find_33 : decode cX9_find 33 = .ok (.iload 5, 2) := by decide +kernel
theorem dX9_find_35 : decode cX9_find 35 = .ok (.invokevirtual 170, 3) := by decide +kernel
theorem dX9_find_28 : decode cX9_find 28 = .ok (.iconst (-1), 1) := by decide +kernel
theorem dX9_find_29 : decode cX9_find 29 = .ok (.goto 9, 3) := by decide +kernel
theorem dX9_find_38 : decode cX9_find 38 = .ok (.istore 6, 2) := by decide +kernel
theorem dX9_find_40 : decode cX9_find 40 = .ok (.aload_n 1, 1) := by decide +kernel
set_option maxRecDepth 100000 in
theorem q731 : Cond.fieldLink RX9 156 "ToolPlex$Message" "asked" "I" ∈ GT := gt 731 (by decide +kernel) (by decide +kernel)
theorem ft_X9_156 : FT RX9 156 RX6 7 RX6 TX6 17 4 := ⟨rfl, by decide, by decide, q731, Or.inl rfl, inGX6⟩
theorem dX9_find_41 : decode cX9_find 41 = .ok (.getfield 156, 3) := by decide +kernel
theorem dX9_find_44 : decode cX9_find 44 = .ok (.ifCond .ne 26, 3) := by decide +kernel
theorem dX9_find_70 : decode cX9_find 70 = .ok (.aload_n 1, 1) := by decide +kernel
theorem dX9_find_71 : decode cX9_find 71 = .ok (.getfield 156, 3) := by decide +kernel
theorem dX9_find_74 : decode cX9_find 74 = .ok (.iconst 3, 1) := by decide +kernel
theorem dX9_find_75 : decode cX9_find 75 = .ok (.if_icmp .ne 13, 3) := by decide +kernel
theorem dX9_find_88 : decode cX9_find 88 = .ok (.aload_n 1, 1) := by decide +kernel
theorem dX9_find_89 : decode cX9_find 89 = .ok (.getfield 156, 3) := by decide +kernel
theorem dX9_find_92 : decode cX9_find 92 = .ok (.iconst 5, 1) := by decide +kernel
theorem dX9_find_93 : decode cX9_find 93 = .ok (.if_icmp .ne 42, 3) := by decide +kernel
theorem dX9_find_135 : decode cX9_find 135 = .ok (.iload 5, 2) := by decide +kernel
theorem dX9_find_137 : decode cX9_find 137 = .ok (.iconst (-1), 1) := by decide +kernel
theorem dX9_find_138 : decode cX9_find 138 = .ok (.if_icmp .eq 23, 3) := by decide +kernel
theorem dX9_find_141 : decode cX9_find 141 = .ok (.aload_n 1, 1) := by decide +kernel
theorem dX9_find_142 : decode cX9_find 142 = .ok (.getfield 156, 3) := by decide +kernel
theorem dX9_find_145 : decode cX9_find 145 = .ok (.iconst 4, 1) := by decide +kernel
theorem dX9_find_146 : decode cX9_find 146 = .ok (.if_icmp .ne 15, 3) := by decide +kernel
theorem dX9_find_149 : decode cX9_find 149 = .ok (.aload_n 0, 1) := by decide +kernel
theorem dX9_find_150 : decode cX9_find 150 = .ok (.aload_n 2, 1) := by decide +kernel
theorem dX9_find_151 : decode cX9_find 151 = .ok (.iload 5, 2) := by decide +kernel
theorem dX9_find_153 : decode cX9_find 153 = .ok (.iload 6, 2) := by decide +kernel
set_option maxRecDepth 100000 in
theorem q1179 : Cond.code yX9_findEverywhere cX9_findEverywhere 6 none ∈ GT := gt 1179 (rfl) (by decide +kernel)
theorem M_X9_findEverywhere : MY yX9_findEverywhere cX9_findEverywhere 6 none 3 := ⟨q1179, q72, by decide +kernel, by decide +kernel⟩
set_option maxRecDepth 100000 in
theorem q1178 : Cond.instanceMethod yX9_findEverywhere ∈ GT := gt 1178 (by decide +kernel) (by decide +kernel)
set_option maxRecDepth 100000 in
theorem q20 : Cond.selects RX9 yX9_findEverywhere yX9_findEverywhere ∈ GT := gt 20 (by decide +kernel) (by decide +kernel)
set_option maxRecDepth 100000 in
theorem q1176 : Cond.methodLink RX9 190 yX9_findEverywhere ∈ GT := gt 1176 (by decide +kernel) (by decide +kernel)
theorem dX9_find_155 : decode cX9_find 155 = .ok (.invokevirtual 190, 3) := by decide +kernel
theorem dX9_find_158 : decode cX9_find 158 = .ok (.goto 35, 3) := by decide +kernel
theorem dX9_find_193 : decode cX9_find 193 = .ok (.return_, 1) := by decide +kernel
theorem dX9_find_96 : decode cX9_find 96 = .ok (.aload_n 2, 1) := by decide +kernel
theorem dX9_find_97 : decode cX9_find 97 = .ok (.iload_n 3, 1) := by decide +kernel
set_option maxRecDepth 100000 in
theorem q1066 : Cond.code yX10_lineStart cX10_lineStart 4 (some FieldType.int) ∈ GT := gt 1066 (rfl) (by decide +kernel)
theorem M_X10_lineStart : MY yX10_lineStart cX10_lineStart 4 (some FieldType.int) 1 := ⟨q1066, q54, by decide +kernel, by decide +kernel⟩
set_option maxRecDepth 100000 in
theorem q1064 : Cond.instanceMethod yX10_lineStart ∈ GT := gt 1064 (by decide +kernel) (by decide +kernel)
set_option maxRecDepth 100000 in
theorem q1065 : Cond.selects RX10 yX10_lineStart yX10_lineStart ∈ GT := gt 1065 (by decide +kernel) (by decide +kernel)
set_option maxRecDepth 100000 in
theorem q1174 : Cond.methodLink RX9 181 yX10_lineStart ∈ GT := gt 1174 (by decide +kernel) (by decide +kernel)
theorem dX9_find_98 : decode cX9_find 98 = .ok (.invokevirtual 181, 3) := by decide +kernel
theorem dX9_find_101 : decode cX9_find 101 = .ok (.istore 7, 2) := by decide +kernel
theorem dX9_find_103 : decode cX9_find 103 = .ok (.aload_n 2, 1) := by decide +kernel
theorem dX9_find_104 : decode cX9_find 104 = .ok (.iload 7, 2) := by decide +kernel
set_option maxRecDepth 100000 in
theorem q1175 : Cond.methodLink RX9 184 yX10_lineEnd ∈ GT := gt 1175 (by decide +kernel) (by decide +kernel)
theorem dX9_find_106 : decode cX9_find 106 = .ok (.invokevirtual 184, 3) := by decide +kernel
theorem dX9_find_109 : decode cX9_find 109 = .ok (.istore 8, 2) := by decide +kernel
theorem dX9_find_111 : decode cX9_find 111 = .ok (.iload 8, 2) := by decide +kernel
theorem dX9_find_113 : decode cX9_find 113 = .ok (.iload 7, 2) := by decide +kernel
theorem dX9_find_115 : decode cX9_find 115 = .ok (.if_icmp .le 17, 3) := by decide +kernel
theorem dX9_find_132 : decode cX9_find 132 = .ok (.goto 61, 3) := by decide +kernel
theorem dX9_find_118 : decode cX9_find 118 = .ok (.aload_n 0, 1) := by decide +kernel
theorem dX9_find_119 : decode cX9_find 119 = .ok (.getfield 32, 3) := by decide +kernel
theorem dX9_find_122 : decode cX9_find 122 = .ok (.iload 4, 2) := by decide +kernel
theorem dX9_find_124 : decode cX9_find 124 = .ok (.iload 7, 2) := by decide +kernel
theorem dX9_find_126 : decode cX9_find 126 = .ok (.iload 8, 2) := by decide +kernel
theorem dX9_find_128 : decode cX9_find 128 = .ok (.iconst 0, 1) := by decide +kernel
theorem dX9_find_129 : decode cX9_find 129 = .ok (.invokevirtual 187, 3) := by decide +kernel
theorem dX9_find_78 : decode cX9_find 78 = .ok (.aload_n 0, 1) := by decide +kernel
theorem dX9_find_79 : decode cX9_find 79 = .ok (.iload 4, 2) := by decide +kernel
theorem dX9_find_81 : decode cX9_find 81 = .ok (.aload_n 2, 1) := by decide +kernel
set_option maxRecDepth 100000 in
theorem q1165 : Cond.code yX9_findAll cX9_findAll 6 none ∈ GT := gt 1165 (rfl) (by decide +kernel)
theorem M_X9_findAll : MY yX9_findAll cX9_findAll 6 none 2 := ⟨q1165, q72, by decide +kernel, by decide +kernel⟩
set_option maxRecDepth 100000 in
theorem q1164 : Cond.instanceMethod yX9_findAll ∈ GT := gt 1164 (by decide +kernel) (by decide +kernel)
set_option maxRecDepth 100000 in
theorem q19 : Cond.selects RX9 yX9_findAll yX9_findAll ∈ GT := gt 19 (by decide +kernel) (by decide +kernel)
set_option maxRecDepth 100000 in
theorem q1162 : Cond.methodLink RX9 177 yX9_findAll ∈ GT := gt 1162 (by decide +kernel) (by decide +kernel)
theorem dX9_find_82 : decode cX9_find 82 = .ok (.invokevirtual 177, 3) := by decide +kernel
theorem dX9_find_85 : decode cX9_find 85 = .ok (.goto 108, 3) := by decide +kernel
theorem dX9_find_47 : decode cX9_find 47 = .ok (.aload_n 0, 1) := by decide +kernel
theorem dX9_find_48 : decode cX9_find 48 = .ok (.iload 4, 2) := by decide +kernel
theorem dX9_find_50 : decode cX9_find 50 = .ok (.aload_n 2, 1) := by decide +kernel
theorem dX9_find_51 : decode cX9_find 51 = .ok (.iload 5, 2) := by decide +kernel
theorem dX9_find_53 : decode cX9_find 53 = .ok (.iload 5, 2) := by decide +kernel
theorem dX9_find_55 : decode cX9_find 55 = .ok (.iconst (-1), 1) := by decide +kernel
theorem dX9_find_56 : decode cX9_find 56 = .ok (.if_icmp .ne 7, 3) := by decide +kernel
theorem dX9_find_63 : decode cX9_find 63 = .ok (.iload_n 3, 1) := by decide +kernel
theorem dX9_find_59 : decode cX9_find 59 = .ok (.iconst (-1), 1) := by decide +kernel
theorem dX9_find_60 : decode cX9_find 60 = .ok (.goto 4, 3) := by decide +kernel
set_option maxRecDepth 100000 in
theorem q1139 : Cond.code yX9_findLonger cX9_findLonger 8 none ∈ GT := gt 1139 (rfl) (by decide +kernel)
theorem M_X9_findLonger : MY yX9_findLonger cX9_findLonger 8 none 4 := ⟨q1139, q72, by decide +kernel, by decide +kernel⟩
set_option maxRecDepth 100000 in
theorem q1138 : Cond.instanceMethod yX9_findLonger ∈ GT := gt 1138 (by decide +kernel) (by decide +kernel)
set_option maxRecDepth 100000 in
theorem q17 : Cond.selects RX9 yX9_findLonger yX9_findLonger ∈ GT := gt 17 (by decide +kernel) (by decide +kernel)
set_option maxRecDepth 100000 in
theorem q1136 : Cond.methodLink RX9 173 yX9_findLonger ∈ GT := gt 1136 (by decide +kernel) (by decide +kernel)
theorem dX9_find_64 : decode cX9_find 64 = .ok (.invokevirtual 173, 3) := by decide +kernel
theorem dX9_find_67 : decode cX9_find 67 = .ok (.goto 126, 3) := by decide +kernel
theorem dX9_find_161 : decode cX9_find 161 = .ok (.iload 5, 2) := by decide +kernel
theorem dX9_find_163 : decode cX9_find 163 = .ok (.iconst (-1), 1) := by decide +kernel
theorem dX9_find_164 : decode cX9_find 164 = .ok (.if_icmp .eq 29, 3) := by decide +kernel
theorem dX9_find_167 : decode cX9_find 167 = .ok (.aload_n 0, 1) := by decide +kernel
theorem dX9_find_168 : decode cX9_find 168 = .ok (.iload 4, 2) := by decide +kernel
theorem dX9_find_170 : decode cX9_find 170 = .ok (.aload_n 2, 1) := by decide +kernel
theorem dX9_find_171 : decode cX9_find 171 = .ok (.aload_n 2, 1) := by decide +kernel
theorem dX9_find_172 : decode cX9_find 172 = .ok (.iload 5, 2) := by decide +kernel
theorem dX9_find_174 : decode cX9_find 174 = .ok (.iload 6, 2) := by decide +kernel
theorem dX9_find_176 : decode cX9_find 176 = .ok (.invokevirtual 194, 3) := by decide +kernel
theorem dX9_find_179 : decode cX9_find 179 = .ok (.aload_n 0, 1) := by decide +kernel
theorem dX9_find_180 : decode cX9_find 180 = .ok (.aload_n 1, 1) := by decide +kernel
theorem dX9_find_181 : decode cX9_find 181 = .ok (.getfield 156, 3) := by decide +kernel
theorem dX9_find_184 : decode cX9_find 184 = .ok (.iload 4, 2) := by decide +kernel
theorem dX9_find_186 : decode cX9_find 186 = .ok (.iload 5, 2) := by decide +kernel
theorem dX9_find_188 : decode cX9_find 188 = .ok (.iload 6, 2) := by decide +kernel
set_option maxRecDepth 100000 in
theorem q1190 : Cond.code yX9_keepOne cX9_keepOne 8 none ∈ GT := gt 1190 (rfl) (by decide +kernel)
theorem M_X9_keepOne : MY yX9_keepOne cX9_keepOne 8 none 4 := ⟨q1190, q72, by decide +kernel, by decide +kernel⟩
set_option maxRecDepth 100000 in
theorem q1189 : Cond.instanceMethod yX9_keepOne ∈ GT := gt 1189 (by decide +kernel) (by decide +kernel)
set_option maxRecDepth 100000 in
theorem q22 : Cond.selects RX9 yX9_keepOne yX9_keepOne ∈ GT := gt 22 (by decide +kernel) (by decide +kernel)
set_option maxRecDepth 100000 in
theorem q1187 : Cond.methodLink RX9 198 yX9_keepOne ∈ GT := gt 1187 (by decide +kernel) (by decide +kernel)
theorem dX9_find_190 : decode cX9_find 190 = .ok (.invokevirtual 198, 3) := by decide +kernel
set_option maxHeartbeats 4000000 in
set_option maxRecDepth 100000 in
theorem w_X9_find_64 {p : Program} {l : Launch} {e : Env} {R : Room} {s : State} {m : MethodId} {args : Array Value} {below : List Frame} {meth : Method} {c : Code} {G : Gt} {ρ0 : Int → Nat} {M0 : Mo} {res : RS} (F : Fx p l R s m args meth c cX9_find 9 RX9 G M0 6 none) (hno : ∀ x ∈ c.exceptionTable.toList, False) (hnm : meth.name = yX9_find.name) (y0 y1 y2 y3 y4 : Int) (M : Mo) (h : X9_find_64 y0 y1 y2 y3 y4 M = some res) : J p l e R s m args below meth c 9 G ρ0 M0 0 res M 64 [] [(true, y4), (true, y3), (false, y2), (true, y1), (false, y0)] := by
  unfold X9_find_64 at h
  obtain ⟨g4, h⟩ := gua h
  refine j_callV (d' := 4) (argl := [(true, y1), (false, y2), (true, y3), (true, y4)]) (rk9 := 0) (st := []) F hno M_X9_findLonger q1138 q17 q1136 ⟨by decide, by decide⟩ (Nat.le_of_ble_eq_true rfl) (by decide) (ci := 10) rfl (by decide) g4 dX9_find_64 rfl h (fun z hz => c_X9_findLonger l F.ht G y0 y1 y2 y3 y4 M z hz) (fun v1 M2 h kl3 => ?_)
  refine j_st (st' := []) rfl ?_
  refine j_goto F 193 (by decide) dX9_find_67 ?_
  exact j_vret F (v := 0) h dX9_find_193
set_option maxHeartbeats 4000000 in
set_option maxRecDepth 100000 in
theorem w_X9_find_161 {p : Program} {l : Launch} {e : Env} {R : Room} {s : State} {m : MethodId} {args : Array Value} {below : List Frame} {meth : Method} {c : Code} {G : Gt} {ρ0 : Int → Nat} {M0 : Mo} {res : RS} (F : Fx p l R s m args meth c cX9_find 9 RX9 G M0 6 none) (hno : ∀ x ∈ c.exceptionTable.toList, False) (hnm : meth.name = yX9_find.name) (x0 x1 x2 x4 x5 x6 : Int) (M : Mo) (h : X9_find_161 x0 x1 x2 x4 x5 x6 M = some res) : J p l e R s m args below meth c 9 G ρ0 M0 0 res M 161 [(0, (false, x0)), (1, (false, x1)), (2, (false, x2)), (4, (true, x4)), (5, (true, x5)), (6, (true, x6))] [] := by
  unfold X9_find_161 at h
  refine j_iload F 4 rfl dX9_find_161 ?_
  refine j_iconst F dX9_find_163 ?_
  refine j_icmp_eq F 193 (by decide) dX9_find_164 h (fun h => ?_) (fun h => ?_)
  · skip
    exact j_vret F (v := 0) h dX9_find_193
  · skip
    refine j_aload_n F 0 rfl rfl dX9_find_167 ?_
    refine j_iload F 3 rfl dX9_find_168 ?_
    refine j_aload_n F 2 rfl rfl dX9_find_170 ?_
    refine j_aload_n F 2 rfl rfl dX9_find_171 ?_
    refine j_iload F 4 rfl dX9_find_172 ?_
    refine j_iload F 5 rfl dX9_find_174 ?_
    obtain ⟨g4, h⟩ := gua h
    refine j_callV (d' := 4) (argl := [(true, x4), (false, x2), (false, x2), (true, x5), (true, x6)]) (rk9 := 0) (st := []) F hno M_X9_findAlike q1185 q21 q1183 ⟨by decide, by decide⟩ (Nat.le_of_ble_eq_true rfl) (by decide) (ci := 10) rfl (by decide) g4 dX9_find_176 rfl h (fun z hz => c_X9_findAlike l F.ht G x0 x4 x2 x2 x5 x6 M z hz) (fun v1 M2 h kl3 => ?_)
    refine j_st (st' := []) rfl ?_
    refine j_aload_n F 0 rfl rfl dX9_find_179 ?_
    refine j_aload_n F 1 rfl rfl dX9_find_180 ?_
    obtain ⟨g5, h⟩ := gua h
    refine j_get F ft_X9_156 rfl g5 dX9_find_181 ?_
    refine j_iload F 3 rfl dX9_find_184 ?_
    refine j_iload F 4 rfl dX9_find_186 ?_
    refine j_iload F 5 rfl dX9_find_188 ?_
    refine j_callV (d' := 4) (argl := [(true, (fd M2 7 4 x1)), (true, x4), (true, x5), (true, x6)]) (rk9 := 0) (st := []) F hno M_X9_keepOne q1189 q22 q1187 ⟨by decide, by decide⟩ (Nat.le_of_ble_eq_true rfl) (by decide) (ci := 10) rfl (by decide) (kl3.is g4) dX9_find_190 rfl h (fun z hz => c_X9_keepOne l F.ht G x0 (fd M2 7 4 x1) x4 x5 x6 M2 z hz) (fun v6 M7 h kl8 => ?_)
    refine j_st (st' := []) rfl ?_
    exact j_vret F (v := 0) h dX9_find_193
set_option maxHeartbeats 4000000 in
set_option maxRecDepth 100000 in
theorem w_X9_find_38 {p : Program} {l : Launch} {e : Env} {R : Room} {s : State} {m : MethodId} {args : Array Value} {below : List Frame} {meth : Method} {c : Code} {G : Gt} {ρ0 : Int → Nat} {M0 : Mo} {res : RS} (F : Fx p l R s m args meth c cX9_find 9 RX9 G M0 6 none) (hno : ∀ x ∈ c.exceptionTable.toList, False) (hnm : meth.name = yX9_find.name) (x0 x1 x2 x3 x4 x5 y0 : Int) (M : Mo) (h : X9_find_38 x0 x1 x2 x3 x4 x5 y0 M = some res) : J p l e R s m args below meth c 9 G ρ0 M0 0 res M 38 [(0, (false, x0)), (1, (false, x1)), (2, (false, x2)), (3, (true, x3)), (4, (true, x4)), (5, (true, x5))] [(true, y0)] := by
  unfold X9_find_38 at h
  refine j_istore F (lv' := [(6, (true, y0)), (0, (false, x0)), (1, (false, x1)), (2, (false, x2)), (3, (true, x3)), (4, (true, x4)), (5, (true, x5))]) (by decide) rfl dX9_find_38 ?_
  refine j_aload_n F 2 rfl rfl dX9_find_40 ?_
  obtain ⟨g1, h⟩ := gua h
  refine j_get F ft_X9_156 rfl g1 dX9_find_41 ?_
  refine j_if_ne F 70 (by decide) dX9_find_44 h (fun h => ?_) (fun h => ?_)
  · skip
    refine j_aload_n F 2 rfl rfl dX9_find_70 ?_
    refine j_get F ft_X9_156 rfl g1 dX9_find_71 ?_
    refine j_iconst F dX9_find_74 ?_
    refine j_icmp_ne F 88 (by decide) dX9_find_75 h (fun h => ?_) (fun h => ?_)
    · skip
      refine j_aload_n F 2 rfl rfl dX9_find_88 ?_
      refine j_get F ft_X9_156 rfl g1 dX9_find_89 ?_
      refine j_iconst F dX9_find_92 ?_
      refine j_icmp_ne F 135 (by decide) dX9_find_93 h (fun h => ?_) (fun h => ?_)
      · skip
        refine j_iload F 6 rfl dX9_find_135 ?_
        refine j_iconst F dX9_find_137 ?_
        refine j_icmp_eq F 161 (by decide) dX9_find_138 h (fun h => ?_) (fun h => ?_)
        · skip
          refine j_sub (lv' := [(0, (false, x0)), (1, (false, x1)), (2, (false, x2)), (4, (true, x4)), (5, (true, x5)), (6, (true, y0))]) [1, 2, 3, 5, 6, 0] rfl ?_
          exact w_X9_find_161 F hno hnm x0 x1 x2 x4 x5 y0 M h
        · skip
          refine j_aload_n F 2 rfl rfl dX9_find_141 ?_
          refine j_get F ft_X9_156 rfl g1 dX9_find_142 ?_
          refine j_iconst F dX9_find_145 ?_
          refine j_icmp_ne F 161 (by decide) dX9_find_146 h (fun h => ?_) (fun h => ?_)
          · skip
            refine j_sub (lv' := [(0, (false, x0)), (1, (false, x1)), (2, (false, x2)), (4, (true, x4)), (5, (true, x5)), (6, (true, y0))]) [1, 2, 3, 5, 6, 0] rfl ?_
            exact w_X9_find_161 F hno hnm x0 x1 x2 x4 x5 y0 M h
          · skip
            refine j_aload_n F 1 rfl rfl dX9_find_149 ?_
            refine j_aload_n F 3 rfl rfl dX9_find_150 ?_
            refine j_iload F 6 rfl dX9_find_151 ?_
            refine j_iload F 0 rfl dX9_find_153 ?_
            obtain ⟨g5, h⟩ := gua h
            refine j_callV (d' := 5) (argl := [(false, x2), (true, x5), (true, y0)]) (rk9 := 0) (st := []) F hno M_X9_findEverywhere q1178 q20 q1176 ⟨by decide, by decide⟩ (Nat.le_of_ble_eq_true rfl) (by decide) (ci := 10) rfl (by decide) g5 dX9_find_155 rfl h (fun z hz => c_X9_findEverywhere l F.ht G x0 x2 x5 y0 M z hz) (fun v2 M3 h kl4 => ?_)
            refine j_st (st' := []) rfl ?_
            refine j_goto F 193 (by decide) dX9_find_158 ?_
            exact j_vret F (v := 0) h dX9_find_193
      · skip
        refine j_aload_n F 3 rfl rfl dX9_find_96 ?_
        refine j_iload_n F 4 rfl rfl dX9_find_97 ?_
        obtain ⟨g9, h⟩ := gua h
        refine j_callV (d' := 1) (argl := [(true, x3)]) (rk9 := 1) (st := []) F hno M_X10_lineStart q1064 q1065 q1174 ⟨by decide, by decide⟩ (Nat.le_of_ble_eq_true rfl) (by decide) (ci := 11) rfl (by decide) g9 dX9_find_98 rfl h (fun z hz => c_X10_lineStart l F.ht G x2 x3 M z hz) (fun v6 M7 h kl8 => ?_)
        refine j_st (st' := [(true, v6)]) rfl ?_
        refine j_istore F (lv' := [(7, (true, v6)), (6, (true, y0)), (0, (false, x0)), (1, (false, x1)), (2, (false, x2)), (3, (true, x3)), (4, (true, x4)), (5, (true, x5))]) (by decide) rfl dX9_find_101 ?_
        refine j_aload_n F 4 rfl rfl dX9_find_103 ?_
        refine j_iload F 0 rfl dX9_find_104 ?_
        refine j_callV (d' := 1) (argl := [(true, v6)]) (rk9 := 1) (st := []) F hno M_X10_lineEnd q900 q901 q1175 ⟨by decide, by decide⟩ (Nat.le_of_ble_eq_true rfl) (by decide) (ci := 11) rfl (by decide) (kl8.is g9) dX9_find_106 rfl h (fun z hz => c_X10_lineEnd l F.ht G x2 v6 M7 z hz) (fun v10 M11 h kl12 => ?_)
        refine j_st (st' := [(true, v10)]) rfl ?_
        refine j_istore F (lv' := [(8, (true, v10)), (7, (true, v6)), (6, (true, y0)), (0, (false, x0)), (1, (false, x1)), (2, (false, x2)), (3, (true, x3)), (4, (true, x4)), (5, (true, x5))]) (by decide) rfl dX9_find_109 ?_
        refine j_iload F 0 rfl dX9_find_111 ?_
        refine j_iload F 1 rfl dX9_find_113 ?_
        refine j_icmp_le F 132 (by decide) dX9_find_115 h (fun h => ?_) (fun h => ?_)
        · skip
          refine j_goto F 193 (by decide) dX9_find_132 ?_
          exact j_vret F (v := 0) h dX9_find_193
        · skip
          refine j_aload_n F 3 rfl rfl dX9_find_118 ?_
          obtain ⟨g13, h⟩ := gua h
          refine j_get F ft_X9_32 rfl g13 dX9_find_119 ?_
          refine j_iload F 7 rfl dX9_find_122 ?_
          refine j_iload F 1 rfl dX9_find_124 ?_
          refine j_iload F 0 rfl dX9_find_126 ?_
          refine j_iconst F dX9_find_128 ?_
          obtain ⟨g17, h⟩ := gua h
          refine j_callV (d' := 3) (argl := [(true, x4), (true, v6), (true, v10), (true, 0)]) (rk9 := 0) (st := []) F hno M_X5_add q1171 q1172 q1170 ⟨by decide, by decide⟩ (Nat.le_of_ble_eq_true rfl) (by decide) (ci := 6) rfl (by decide) g17 dX9_find_129 rfl h (fun z hz => c_X5_add l F.ht G (fd M11 10 7 x0) x4 v6 v10 0 M11 z hz) (fun v14 M15 h kl16 => ?_)
          refine j_st (st' := []) rfl ?_
          refine j_goto F 193 (by decide) dX9_find_132 ?_
          exact j_vret F (v := 0) h dX9_find_193
    · skip
      refine j_aload_n F 1 rfl rfl dX9_find_78 ?_
      refine j_iload F 5 rfl dX9_find_79 ?_
      refine j_aload_n F 3 rfl rfl dX9_find_81 ?_
      obtain ⟨g21, h⟩ := gua h
      refine j_callV (d' := 4) (argl := [(true, x4), (false, x2)]) (rk9 := 0) (st := []) F hno M_X9_findAll q1164 q19 q1162 ⟨by decide, by decide⟩ (Nat.le_of_ble_eq_true rfl) (by decide) (ci := 10) rfl (by decide) g21 dX9_find_82 rfl h (fun z hz => c_X9_findAll l F.ht G x0 x4 x2 M z hz) (fun v18 M19 h kl20 => ?_)
      refine j_st (st' := []) rfl ?_
      refine j_goto F 193 (by decide) dX9_find_85 ?_
      exact j_vret F (v := 0) h dX9_find_193
  · skip
    refine j_aload_n F 1 rfl rfl dX9_find_47 ?_
    refine j_iload F 5 rfl dX9_find_48 ?_
    refine j_aload_n F 3 rfl rfl dX9_find_50 ?_
    refine j_iload F 6 rfl dX9_find_51 ?_
    refine j_iload F 6 rfl dX9_find_53 ?_
    refine j_iconst F dX9_find_55 ?_
    refine j_icmp_ne F 63 (by decide) dX9_find_56 h (fun h => ?_) (fun h => ?_)
    · skip
      refine j_iload_n F 4 rfl rfl dX9_find_63 ?_
      refine j_sub (lv' := []) [] rfl ?_
      exact w_X9_find_64 F hno hnm x0 x4 x2 x5 x3 M h
    · skip
      refine j_iconst F dX9_find_59 ?_
      refine j_goto F 64 (by decide) dX9_find_60 ?_
      refine j_sub (lv' := []) [] rfl ?_
      exact w_X9_find_64 F hno hnm x0 x4 x2 x5 (-1) M h
set_option maxHeartbeats 4000000 in
set_option maxRecDepth 100000 in
theorem w_X9_find_0 {p : Program} {l : Launch} {e : Env} {R : Room} {s : State} {m : MethodId} {args : Array Value} {below : List Frame} {meth : Method} {c : Code} {G : Gt} {ρ0 : Int → Nat} {M0 : Mo} {res : RS} (F : Fx p l R s m args meth c cX9_find 9 RX9 G M0 6 none) (hno : ∀ x ∈ c.exceptionTable.toList, False) (hnm : meth.name = yX9_find.name) (x0 x1 x2 : Int) (M : Mo) (h : X9_find x0 x1 x2 M = some res) : J p l e R s m args below meth c 9 G ρ0 M0 0 res M 0 [(0, (false, x0)), (1, (false, x1)), (2, (false, x2))] [] := by
  unfold X9_find at h
  refine j_aload_n F 1 rfl rfl dX9_find_0 ?_
  obtain ⟨g1, h⟩ := gua h
  refine j_get F ft_X9_111 rfl g1 dX9_find_1 ?_
  refine j_istore_n F (lv' := [(3, (true, (fd M 7 12 x1))), (0, (false, x0)), (1, (false, x1)), (2, (false, x2))]) rfl (by decide) rfl dX9_find_4 ?_
  refine j_aload_n F 2 rfl rfl dX9_find_5 ?_
  refine j_get F ft_X9_64 rfl g1 dX9_find_6 ?_
  refine j_istore F (lv' := [(4, (true, (fd M 7 1 x1))), (3, (true, (fd M 7 12 x1))), (0, (false, x0)), (1, (false, x1)), (2, (false, x2))]) (by decide) rfl dX9_find_9 ?_
  refine j_aload_n F 4 rfl rfl dX9_find_11 ?_
  refine j_iload_n F 1 rfl rfl dX9_find_12 ?_
  refine j_aload_n F 2 rfl rfl dX9_find_13 ?_
  obtain ⟨g2, h⟩ := gua h
  refine j_get F ft_X9_47 rfl g2 dX9_find_14 ?_
  obtain ⟨g6, h⟩ := gua h
  refine j_callV (d' := 2) (argl := [(true, (fd M 7 12 x1)), (true, (fd M 10 2 x0))]) (rk9 := 1) (st := []) F hno M_X10_runAt q1120 q1121 q1119 ⟨by decide, by decide⟩ (Nat.le_of_ble_eq_true rfl) (by decide) (ci := 11) rfl (by decide) g6 dX9_find_17 rfl h (fun z hz => c_X10_runAt l F.ht G x2 (fd M 7 12 x1) (fd M 10 2 x0) M z hz) (fun v3 M4 h kl5 => ?_)
  refine j_st (st' := [(true, v3)]) rfl ?_
  refine j_istore F (lv' := [(5, (true, v3)), (4, (true, (fd M 7 1 x1))), (3, (true, (fd M 7 12 x1))), (0, (false, x0)), (1, (false, x1)), (2, (false, x2))]) (by decide) rfl dX9_find_20 ?_
  refine j_iload F 0 rfl dX9_find_22 ?_
  refine j_iconst F dX9_find_24 ?_
  refine j_icmp_ne F 32 (by decide) dX9_find_25 h (fun h => ?_) (fun h => ?_)
  · skip
    refine j_aload_n F 5 rfl rfl dX9_find_32 ?_
    refine j_iload F 0 rfl dX9_find_33 ?_
    refine j_callV (d' := 1) (argl := [(true, v3)]) (rk9 := 1) (st := []) F hno M_X10_runEnd q1132 q1133 q1135 ⟨by decide, by decide⟩ (Nat.le_of_ble_eq_true rfl) (by decide) (ci := 11) rfl (by decide) (kl5.is g6) dX9_find_35 rfl h (fun z hz => c_X10_runEnd l F.ht G x2 v3 M4 z hz) (fun v7 M8 h kl9 => ?_)
    refine j_st (st' := [(true, v7)]) rfl ?_
    refine j_sub (lv' := [(0, (false, x0)), (1, (false, x1)), (2, (false, x2)), (3, (true, (fd M 7 12 x1))), (4, (true, (fd M 7 1 x1))), (5, (true, v3))]) [3, 4, 5, 2, 1, 0] rfl ?_
    exact w_X9_find_38 F hno hnm x0 x1 x2 (fd M 7 12 x1) (fd M 7 1 x1) v3 v7 M8 h
  · skip
    refine j_iconst F dX9_find_28 ?_
    refine j_goto F 38 (by decide) dX9_find_29 ?_
    refine j_sub (lv' := [(0, (false, x0)), (1, (false, x1)), (2, (false, x2)), (3, (true, (fd M 7 12 x1))), (4, (true, (fd M 7 1 x1))), (5, (true, v3))]) [3, 4, 5, 2, 1, 0] rfl ?_
    exact w_X9_find_38 F hno hnm x0 x1 x2 (fd M 7 12 x1) (fd M 7 1 x1) v3 (-1) M4 h
theorem c_X9_find (l : Launch) (hl : l.stackTraces = false) (G : Gt) (x0 x1 x2 : Int) (M : Mo) (z : RS) (h : X9_find x0 x1 x2 M = some z) : CT l G yX9_find (cn yX9_find cX9_find 9 none) 6 [(false, x0), (false, x1), (false, x2)] M 0 z :=
  ctOf hl (by decide) (Nat.le_of_ble_eq_true rfl) (fun p e R s m args below meth c ρ F hno hnm => w_X9_find_0 F hno hnm x0 x1 x2 M h)
theorem dX9_answerTo_0 : decode cX9_answerTo 0 = .ok (.aload_n 0, 1) := by decide +kernel
theorem dX9_answerTo_1 : decode cX9_answerTo 1 = .ok (.getfield 32, 3) := by decide +kernel
theorem dX9_answerTo_4 : decode cX9_answerTo 4 = .ok (.invokevirtual 140, 3) := by decide +kernel
theorem dX9_answerTo_7 : decode cX9_answerTo 7 = .ok (.iload_n 1, 1) := by decide +kernel
theorem dX9_answerTo_8 : decode cX9_answerTo 8 = .ok (.ifCond .lt 14, 3) := by decide +kernel
theorem dX9_answerTo_11 : decode cX9_answerTo 11 = .ok (.iload_n 1, 1) := by decide +kernel
theorem dX9_answerTo_12 : decode cX9_answerTo 12 = .ok (.aload_n 0, 1) := by decide +kernel
theorem dX9_answerTo_13 : decode cX9_answerTo 13 = .ok (.getfield 25, 3) := by decide +kernel
theorem dX9_answerTo_16 : decode cX9_answerTo 16 = .ok (.invokevirtual 54, 3) := by decide +kernel
theorem dX9_answerTo_19 : decode cX9_answerTo 19 = .ok (.if_icmp .lt 13, 3) := by decide +kernel
theorem dX9_answerTo_32 : decode cX9_answerTo 32 = .ok (.aload_n 0, 1) := by decide +kernel
theorem dX9_answerTo_33 : decode cX9_answerTo 33 = .ok (.getfield 25, 3) := by decide +kernel
theorem dX9_answerTo_36 : decode cX9_answerTo 36 = .ok (.iload_n 1, 1) := by decide +kernel
theorem dX9_answerTo_37 : decode cX9_answerTo 37 = .ok (.invokevirtual 129, 3) := by decide +kernel
theorem dX9_answerTo_40 : decode cX9_answerTo 40 = .ok (.checkcast 65, 3) := by decide +kernel
theorem dX9_answerTo_43 : decode cX9_answerTo 43 = .ok (.astore_n 2, 1) := by decide +kernel
theorem dX9_answerTo_44 : decode cX9_answerTo 44 = .ok (.aload_n 0, 1) := by decide +kernel
theorem dX9_answerTo_45 : decode cX9_answerTo 45 = .ok (.getfield 25, 3) := by decide +kernel
theorem dX9_answerTo_48 : decode cX9_answerTo 48 = .ok (.iload_n 1, 1) := by decide +kernel
theorem dX9_answerTo_49 : decode cX9_answerTo 49 = .ok (.invokevirtual 137, 3) := by decide +kernel
theorem dX9_answerTo_52 : decode cX9_answerTo 52 = .ok (.pop, 1) := by decide +kernel
theorem dX9_answerTo_53 : decode cX9_answerTo 53 = .ok (.aload_n 0, 1) := by decide +kernel
theorem dX9_answerTo_54 : decode cX9_answerTo 54 = .ok (.aload_n 2, 1) := by decide +kernel
theorem dX9_answerTo_55 : decode cX9_answerTo 55 = .ok (.getfield 64, 3) := by decide +kernel
theorem dX9_answerTo_58 : decode cX9_answerTo 58 = .ok (.invokevirtual 69, 3) := by decide +kernel
theorem dX9_answerTo_61 : decode cX9_answerTo 61 = .ok (.astore_n 3, 1) := by decide +kernel
theorem dX9_answerTo_62 : decode cX9_answerTo 62 = .ok (.aload_n 3, 1) := by decide +kernel
theorem dX9_answerTo_63 : decode cX9_answerTo 63 = .ok (.invokevirtual 94, 3) := by decide +kernel
theorem dX9_answerTo_66 : decode cX9_answerTo 66 = .ok (.ifCond .eq 12, 3) := by decide +kernel
theorem dX9_answerTo_69 : decode cX9_answerTo 69 = .ok (.aload_n 0, 1) := by decide +kernel
theorem dX9_answerTo_70 : decode cX9_answerTo 70 = .ok (.aload_n 2, 1) := by decide +kernel
theorem dX9_answerTo_71 : decode cX9_answerTo 71 = .ok (.aload_n 3, 1) := by decide +kernel
theorem dX9_answerTo_72 : decode cX9_answerTo 72 = .ok (.getfield 98, 3) := by decide +kernel
set_option maxRecDepth 100000 in
theorem q1118 : Cond.code yX9_find cX9_find 9 none ∈ GT := gt 1118 (rfl) (by decide +kernel)
theorem M_X9_find : MY yX9_find cX9_find 9 none 2 := ⟨q1118, q72, by decide +kernel, by decide +kernel⟩
set_option maxRecDepth 100000 in
theorem q1117 : Cond.instanceMethod yX9_find ∈ GT := gt 1117 (by decide +kernel) (by decide +kernel)
set_option maxRecDepth 100000 in
theorem q15 : Cond.selects RX9 yX9_find yX9_find ∈ GT := gt 15 (by decide +kernel) (by decide +kernel)
set_option maxRecDepth 100000 in
theorem q1115 : Cond.methodLink RX9 144 yX9_find ∈ GT := gt 1115 (by decide +kernel) (by decide +kernel)
theorem dX9_answerTo_75 : decode cX9_answerTo 75 = .ok (.invokevirtual 144, 3) := by decide +kernel
theorem dfX6 : ∀ j, j < 17 → defaultValue (tyX6 j) = vp_V ((lay 7).map (fun b => if b then Value.int 0 else .null)) j := by decide +kernel
set_option maxRecDepth 100000 in
theorem q706 : Cond.instantiable RX6 17 ∈ GT := gt 706 (by decide +kernel) (by decide +kernel)
set_option maxRecDepth 100000 in
theorem q75 : Cond.initialized RX6 ∈ GT := gt 75 (by decide +kernel) (by decide +kernel)
theorem dX9_answerTo_22 : decode cX9_answerTo 22 = .ok (.new 65, 3) := by decide +kernel
theorem dX9_answerTo_25 : decode cX9_answerTo 25 = .ok (.dup, 1) := by decide +kernel
theorem dX9_answerTo_26 : decode cX9_answerTo 26 = .ok (.iconst 5, 1) := by decide +kernel
theorem dX9_answerTo_27 : decode cX9_answerTo 27 = .ok (.iconst (-1), 1) := by decide +kernel
set_option maxRecDepth 100000 in
theorem q709 : Cond.code yX6_init cX6_init 3 none ∈ GT := gt 709 (rfl) (by decide +kernel)
theorem M_X6_init : MY yX6_init cX6_init 3 none 2 := ⟨q709, q75, by decide +kernel, by decide +kernel⟩
set_option maxRecDepth 100000 in
theorem q708 : Cond.instanceMethod yX6_init ∈ GT := gt 708 (by decide +kernel) (by decide +kernel)
set_option maxRecDepth 100000 in
theorem q1099 : Cond.methodLink RX9 141 yX6_init ∈ GT := gt 1099 (by decide +kernel) (by decide +kernel)
theorem dX9_answerTo_28 : decode cX9_answerTo 28 = .ok (.invokespecial 141, 3) := by decide +kernel
theorem dX9_answerTo_31 : decode cX9_answerTo 31 = .ok (.areturn, 1) := by decide +kernel
theorem dX9_answerTo_78 : decode cX9_answerTo 78 = .ok (.new 65, 3) := by decide +kernel
theorem dX9_answerTo_81 : decode cX9_answerTo 81 = .ok (.dup, 1) := by decide +kernel
theorem dX9_answerTo_82 : decode cX9_answerTo 82 = .ok (.iconst 5, 1) := by decide +kernel
theorem dX9_answerTo_83 : decode cX9_answerTo 83 = .ok (.aload_n 2, 1) := by decide +kernel
theorem dX9_answerTo_84 : decode cX9_answerTo 84 = .ok (.getfield 64, 3) := by decide +kernel
theorem dX9_answerTo_87 : decode cX9_answerTo 87 = .ok (.invokespecial 141, 3) := by decide +kernel
theorem dX9_answerTo_90 : decode cX9_answerTo 90 = .ok (.astore 4, 2) := by decide +kernel
theorem dX9_answerTo_92 : decode cX9_answerTo 92 = .ok (.aload 4, 2) := by decide +kernel
theorem dX9_answerTo_94 : decode cX9_answerTo 94 = .ok (.aload_n 2, 1) := by decide +kernel
theorem dX9_answerTo_95 : decode cX9_answerTo 95 = .ok (.getfield 118, 3) := by decide +kernel
theorem dX9_answerTo_98 : decode cX9_answerTo 98 = .ok (.putfield 118, 3) := by decide +kernel
theorem dX9_answerTo_101 : decode cX9_answerTo 101 = .ok (.aload 4, 2) := by decide +kernel
theorem dX9_answerTo_103 : decode cX9_answerTo 103 = .ok (.aload_n 3, 1) := by decide +kernel
set_option maxRecDepth 100000 in
theorem q202 : Cond.fieldLink RX9 148 "ToolPlex$Copy" "version" "I" ∈ GT := gt 202 (by decide +kernel) (by decide +kernel)
theorem ft_X9_148 : FT RX9 148 RX2 3 RX2 TX2 7 4 := ⟨rfl, by decide, by decide, q202, Or.inl rfl, inGX2⟩
theorem dX9_answerTo_104 : decode cX9_answerTo 104 = .ok (.getfield 148, 3) := by decide +kernel
theorem dX9_answerTo_107 : decode cX9_answerTo 107 = .ok (.putfield 80, 3) := by decide +kernel
theorem dX9_answerTo_110 : decode cX9_answerTo 110 = .ok (.aload 4, 2) := by decide +kernel
theorem dX9_answerTo_112 : decode cX9_answerTo 112 = .ok (.aload_n 0, 1) := by decide +kernel
theorem dX9_answerTo_113 : decode cX9_answerTo 113 = .ok (.getfield 32, 3) := by decide +kernel
set_option maxRecDepth 100000 in
theorem q1197 : Cond.code yX5_copied cX5_copied 2 (some (FieldType.object "ToolPlex$Items")) ∈ GT := gt 1197 (rfl) (by decide +kernel)
theorem M_X5_copied : MY yX5_copied cX5_copied 2 (some (FieldType.object "ToolPlex$Items")) 0 := ⟨q1197, q62, by decide +kernel, by decide +kernel⟩
set_option maxRecDepth 100000 in
theorem q1195 : Cond.instanceMethod yX5_copied ∈ GT := gt 1195 (by decide +kernel) (by decide +kernel)
set_option maxRecDepth 100000 in
theorem q1196 : Cond.selects RX5 yX5_copied yX5_copied ∈ GT := gt 1196 (by decide +kernel) (by decide +kernel)
set_option maxRecDepth 100000 in
theorem q1194 : Cond.methodLink RX9 149 yX5_copied ∈ GT := gt 1194 (by decide +kernel) (by decide +kernel)
theorem dX9_answerTo_116 : decode cX9_answerTo 116 = .ok (.invokevirtual 149, 3) := by decide +kernel
set_option maxRecDepth 100000 in
theorem q770 : Cond.fieldLink RX9 153 "ToolPlex$Message" "items" "LToolPlex$Items;" ∈ GT := gt 770 (by decide +kernel) (by decide +kernel)
theorem ft_X9_153 : FT RX9 153 RX6 7 RX6 TX6 17 15 := ⟨rfl, by decide, by decide, q770, Or.inl rfl, inGX6⟩
theorem dX9_answerTo_119 : decode cX9_answerTo 119 = .ok (.putfield 153, 3) := by decide +kernel
theorem dX9_answerTo_122 : decode cX9_answerTo 122 = .ok (.aload_n 2, 1) := by decide +kernel
theorem dX9_answerTo_123 : decode cX9_answerTo 123 = .ok (.getfield 156, 3) := by decide +kernel
theorem dX9_answerTo_126 : decode cX9_answerTo 126 = .ok (.iconst 4, 1) := by decide +kernel
theorem dX9_answerTo_127 : decode cX9_answerTo 127 = .ok (.if_icmp .ne 15, 3) := by decide +kernel
theorem dX9_answerTo_142 : decode cX9_answerTo 142 = .ok (.aload 4, 2) := by decide +kernel
theorem dX9_answerTo_144 : decode cX9_answerTo 144 = .ok (.areturn, 1) := by decide +kernel
theorem dX9_answerTo_130 : decode cX9_answerTo 130 = .ok (.aload 4, 2) := by decide +kernel
theorem dX9_answerTo_132 : decode cX9_answerTo 132 = .ok (.aload_n 0, 1) := by decide +kernel
theorem dX9_answerTo_133 : decode cX9_answerTo 133 = .ok (.getfield 11, 3) := by decide +kernel
set_option maxRecDepth 100000 in
theorem q1202 : Cond.code yX11_versionsOf cX11_versionsOf 3 (some (FieldType.array FieldType.int)) ∈ GT := gt 1202 (rfl) (by decide +kernel)
set_option maxRecDepth 100000 in
theorem q53 : Cond.initialized RX11 ∈ GT := gt 53 (by decide +kernel) (by decide +kernel)
theorem M_X11_versionsOf : MY yX11_versionsOf cX11_versionsOf 3 (some (FieldType.array FieldType.int)) 1 := ⟨q1202, q53, by decide +kernel, by decide +kernel⟩
set_option maxRecDepth 100000 in
theorem q1201 : Cond.static yX11_versionsOf ∈ GT := gt 1201 (by decide +kernel) (by decide +kernel)
set_option maxRecDepth 100000 in
theorem q1200 : Cond.methodLinkNest RX9 159 yX11_versionsOf "ToolPlex" ∈ GT := gt 1200 (by decide +kernel) (by decide +kernel)
theorem dX9_answerTo_136 : decode cX9_answerTo 136 = .ok (.invokestatic 159, 3) := by decide +kernel
set_option maxRecDepth 100000 in
theorem q775 : Cond.fieldLink RX9 163 "ToolPlex$Message" "versions" "[I" ∈ GT := gt 775 (by decide +kernel) (by decide +kernel)
theorem ft_X9_163 : FT RX9 163 RX6 7 RX6 TX6 17 16 := ⟨rfl, by decide, by decide, q775, Or.inl rfl, inGX6⟩
theorem dX9_answerTo_139 : decode cX9_answerTo 139 = .ok (.putfield 163, 3) := by decide +kernel
set_option maxHeartbeats 4000000 in
set_option maxRecDepth 100000 in
theorem w_X9_answerTo_22 {p : Program} {l : Launch} {e : Env} {R : Room} {s : State} {m : MethodId} {args : Array Value} {below : List Frame} {meth : Method} {c : Code} {G : Gt} {ρ0 : Int → Nat} {M0 : Mo} {res : RS} (F : Fx p l R s m args meth c cX9_answerTo 5 RX9 G M0 7 (some (FieldType.object "ToolPlex$Message"))) (hno : ∀ x ∈ c.exceptionTable.toList, False) (hnm : meth.name = yX9_answerTo.name) (M : Mo) (h : X9_answerTo_22  M = some res) : J p l e R s m args below meth c 5 G ρ0 M0 2 res M 22 [] [] := by
  unfold X9_answerTo_22 at h
  obtain ⟨g1, h⟩ := gua h
  refine j_new (ci := 7) F inGX6 tyX6 tyX6_ok q1098 q706 q75 rfl (by decide) dfX6 g1 dX9_answerTo_22 (fun kl2 => ?_)
  obtain ⟨M3, hM3⟩ : ∃ Z, Z = nO M 7 17 := ⟨_, rfl⟩
  have g4 : kd M3 (nid M) = 8 := by rw [hM3]; exact kd_nO
  rw [← hM3] at kl2 ⊢
  replace h := pt_as h hM3
  refine j_dup F dX9_answerTo_25 ?_
  refine j_iconst F dX9_answerTo_26 ?_
  refine j_iconst F dX9_answerTo_27 ?_
  refine j_callI (d' := 2) (argl := [(true, 5), (true, (-1))]) (rk9 := 0) (st := [(false, (nid M))]) F M_X6_init q708 rfl q1099 ⟨by decide, by decide⟩ (Nat.le_of_ble_eq_true rfl) (by decide) (by rw [g4]; decide) dX9_answerTo_28 rfl h (fun z hz => c_X6_init l F.ht G (nid M) 5 (-1) M3 z hz) (fun v5 M6 h kl7 => ?_)
  refine j_st (st' := [(false, (nid M))]) rfl ?_
  exact j_aret F (Or.inl ⟨_, rfl⟩) h dX9_answerTo_31
set_option maxHeartbeats 4000000 in
set_option maxRecDepth 100000 in
theorem w_X9_answerTo_78 {p : Program} {l : Launch} {e : Env} {R : Room} {s : State} {m : MethodId} {args : Array Value} {below : List Frame} {meth : Method} {c : Code} {G : Gt} {ρ0 : Int → Nat} {M0 : Mo} {res : RS} (F : Fx p l R s m args meth c cX9_answerTo 5 RX9 G M0 7 (some (FieldType.object "ToolPlex$Message"))) (hno : ∀ x ∈ c.exceptionTable.toList, False) (hnm : meth.name = yX9_answerTo.name) (x0 x2 x3 : Int) (M : Mo) (h : X9_answerTo_78 x0 x2 x3 M = some res) : J p l e R s m args below meth c 5 G ρ0 M0 2 res M 78 [(0, (false, x0)), (2, (false, x2)), (3, (false, x3))] [] := by
  unfold X9_answerTo_78 at h
  obtain ⟨g1, h⟩ := gua h
  refine j_new (ci := 7) F inGX6 tyX6 tyX6_ok q1098 q706 q75 rfl (by decide) dfX6 g1 dX9_answerTo_78 (fun kl2 => ?_)
  obtain ⟨M3, hM3⟩ : ∃ Z, Z = nO M 7 17 := ⟨_, rfl⟩
  have g4 : kd M3 (nid M) = 8 := by rw [hM3]; exact kd_nO
  rw [← hM3] at kl2 ⊢
  replace h := pt_as h hM3
  refine j_dup F dX9_answerTo_81 ?_
  refine j_iconst F dX9_answerTo_82 ?_
  refine j_aload_n F 1 rfl rfl dX9_answerTo_83 ?_
  obtain ⟨g5, h⟩ := gua h
  refine j_get F ft_X9_64 rfl g5 dX9_answerTo_84 ?_
  refine j_callI (d' := 2) (argl := [(true, 5), (true, (fd M3 7 1 x2))]) (rk9 := 0) (st := [(false, (nid M))]) F M_X6_init q708 rfl q1099 ⟨by decide, by decide⟩ (Nat.le_of_ble_eq_true rfl) (by decide) (by rw [g4]; decide) dX9_answerTo_87 rfl h (fun z hz => c_X6_init l F.ht G (nid M) 5 (fd M3 7 1 x2) M3 z hz) (fun v6 M7 h kl8 => ?_)
  refine j_st (st' := [(false, (nid M))]) rfl ?_
  refine j_astore F (lv' := [(4, (false, (nid M))), (0, (false, x0)), (2, (false, x2)), (3, (false, x3))]) (by decide) rfl dX9_answerTo_90 ?_
  refine j_aload F 0 rfl dX9_answerTo_92 ?_
  refine j_aload_n F 2 rfl rfl dX9_answerTo_94 ?_
  refine j_get F ft_X9_118 rfl (kl8.is g5) dX9_answerTo_95 ?_
  refine j_put (ty := .int) F ft_X9_118 rfl rfl tyX6 tyX6_ok nmX6 (by decide +kernel) (nf_int _) (kl8.is g4) dX9_answerTo_98 ?_
  obtain ⟨M9, hM9⟩ : ∃ Z, Z = sF M7 7 11 (nid M) (fd M7 7 11 x2) := ⟨_, rfl⟩
  have kl10 : kle M7 M9 := by rw [hM9]; exact kle_sF
  rw [← hM9]
  replace h := pt_as h hM9
  refine j_aload F 0 rfl dX9_answerTo_101 ?_
  refine j_aload_n F 3 rfl rfl dX9_answerTo_103 ?_
  obtain ⟨g11, h⟩ := gua h
  refine j_get F ft_X9_148 rfl g11 dX9_answerTo_104 ?_
  refine j_put (ty := .int) F ft_X9_80 rfl rfl tyX6 tyX6_ok nmX6 (by decide +kernel) (nf_int _) (kl10.is (kl8.is g4)) dX9_answerTo_107 ?_
  obtain ⟨M12, hM12⟩ : ∃ Z, Z = sF M9 7 5 (nid M) (fd M9 3 4 x3) := ⟨_, rfl⟩
  have kl13 : kle M9 M12 := by rw [hM12]; exact kle_sF
  rw [← hM12]
  replace h := pt_as h hM12
  refine j_aload F 0 rfl dX9_answerTo_110 ?_
  refine j_aload_n F 1 rfl rfl dX9_answerTo_112 ?_
  obtain ⟨g14, h⟩ := gua h
  refine j_get F ft_X9_32 rfl g14 dX9_answerTo_113 ?_
  obtain ⟨g18, h⟩ := gua h
  refine j_callV (d' := 2) (argl := []) (rk9 := 2) (st := [(false, (nid M))]) F hno M_X5_copied q1195 q1196 q1194 ⟨by decide, by decide⟩ (Nat.le_of_ble_eq_true rfl) (by decide) (ci := 6) rfl (by decide) g18 dX9_answerTo_116 rfl h (fun z hz => c_X5_copied l F.ht G (fd M12 10 7 x0) M12 z hz) (fun v15 M16 h kl17 => ?_)
  refine j_st (st' := [(false, v15), (false, (nid M))]) rfl ?_
  refine j_put (ty := .object "ToolPlex$Items") F ft_X9_153 rfl rfl tyX6 tyX6_ok nmX6 (by decide +kernel) (nf_ref (Or.inl ⟨_, rfl⟩) _) (kl17.is (kl13.is (kl10.is (kl8.is g4)))) dX9_answerTo_119 ?_
  obtain ⟨M19, hM19⟩ : ∃ Z, Z = sF M16 7 15 (nid M) v15 := ⟨_, rfl⟩
  have kl20 : kle M16 M19 := by rw [hM19]; exact kle_sF
  rw [← hM19]
  replace h := pt_as h hM19
  refine j_aload_n F 2 rfl rfl dX9_answerTo_122 ?_
  refine j_get F ft_X9_156 rfl (kl20.is (kl17.is (kl13.is (kl10.is (kl8.is g5))))) dX9_answerTo_123 ?_
  refine j_iconst F dX9_answerTo_126 ?_
  refine j_icmp_ne F 142 (by decide) dX9_answerTo_127 h (fun h => ?_) (fun h => ?_)
  · skip
    refine j_aload F 0 rfl dX9_answerTo_142 ?_
    exact j_aret F (Or.inl ⟨_, rfl⟩) h dX9_answerTo_144
  · skip
    refine j_aload F 0 rfl dX9_answerTo_130 ?_
    refine j_aload_n F 1 rfl rfl dX9_answerTo_132 ?_
    refine j_get F ft_X9_11 rfl (kl20.is (kl17.is g14)) dX9_answerTo_133 ?_
    refine j_callSN (d' := 0) (argl := [(false, (fd M19 10 4 x0))]) (rk9 := 2) (st := [(false, (nid M))]) F M_X11_versionsOf q1201 q1200 ⟨by decide, by decide⟩ (Nat.le_of_ble_eq_true rfl) (by decide) dX9_answerTo_136 rfl h (fun z hz => c_X11_versionsOf l F.ht G (fd M19 10 4 x0) M19 z hz) (fun v21 M22 h kl23 => ?_)
    refine j_st (st' := [(false, v21), (false, (nid M))]) rfl ?_
    refine j_put (ty := .array .int) F ft_X9_163 rfl rfl tyX6 tyX6_ok nmX6 (by decide +kernel) (nf_ref (Or.inr ⟨_, rfl⟩) _) (kl23.is (kl20.is (kl17.is (kl13.is (kl10.is (kl8.is g4)))))) dX9_answerTo_139 ?_
    obtain ⟨M24, hM24⟩ : ∃ Z, Z = sF M22 7 16 (nid M) v21 := ⟨_, rfl⟩
    have kl25 : kle M22 M24 := by rw [hM24]; exact kle_sF
    rw [← hM24]
    replace h := pt_as h hM24
    refine j_aload F 0 rfl dX9_answerTo_142 ?_
    exact j_aret F (Or.inl ⟨_, rfl⟩) h dX9_answerTo_144
set_option maxHeartbeats 4000000 in
set_option maxRecDepth 100000 in
theorem w_X9_answerTo_0 {p : Program} {l : Launch} {e : Env} {R : Room} {s : State} {m : MethodId} {args : Array Value} {below : List Frame} {meth : Method} {c : Code} {G : Gt} {ρ0 : Int → Nat} {M0 : Mo} {res : RS} (F : Fx p l R s m args meth c cX9_answerTo 5 RX9 G M0 7 (some (FieldType.object "ToolPlex$Message"))) (hno : ∀ x ∈ c.exceptionTable.toList, False) (hnm : meth.name = yX9_answerTo.name) (x0 x1 : Int) (M : Mo) (h : X9_answerTo x0 x1 M = some res) : J p l e R s m args below meth c 5 G ρ0 M0 2 res M 0 [(0, (false, x0)), (1, (true, x1))] [] := by
  unfold X9_answerTo at h
  refine j_aload_n F 0 rfl rfl dX9_answerTo_0 ?_
  obtain ⟨g1, h⟩ := gua h
  refine j_get F ft_X9_32 rfl g1 dX9_answerTo_1 ?_
  obtain ⟨g5, h⟩ := gua h
  refine j_callV (d' := 0) (argl := []) (rk9 := 0) (st := []) F hno M_X5_clear q851 q852 q1097 ⟨by decide, by decide⟩ (Nat.le_of_ble_eq_true rfl) (by decide) (ci := 6) rfl (by decide) g5 dX9_answerTo_4 rfl h (fun z hz => c_X5_clear l F.ht G (fd M 10 7 x0) M z hz) (fun v2 M3 h kl4 => ?_)
  refine j_st (st' := []) rfl ?_
  refine j_iload_n F 1 rfl rfl dX9_answerTo_7 ?_
  refine j_if_lt F 22 (by decide) dX9_answerTo_8 h (fun h => ?_) (fun h => ?_)
  · skip
    refine j_sub (lv' := []) [] rfl ?_
    exact w_X9_answerTo_22 F hno hnm  M3 h
  · skip
    refine j_iload_n F 1 rfl rfl dX9_answerTo_11 ?_
    refine j_aload_n F 0 rfl rfl dX9_answerTo_12 ?_
    refine j_get F ft_X9_25 rfl (kl4.is g1) dX9_answerTo_13 ?_
    obtain ⟨g9, h⟩ := gua h
    refine j_callV (d' := 0) (argl := []) (rk9 := 1) (st := [(true, x1)]) F hno M_Jx4a65c_size_8abf5 q448 q449 q1092 ⟨by decide, by decide⟩ (Nat.le_of_ble_eq_true rfl) (by decide) (ci := 0) rfl (by decide) g9 dX9_answerTo_16 rfl h (fun z hz => c_Jx4a65c_size_8abf5 l F.ht G (fd M3 10 6 x0) M3 z hz) (fun v6 M7 h kl8 => ?_)
    refine j_st (st' := [(true, v6), (true, x1)]) rfl ?_
    refine j_icmp_lt F 32 (by decide) dX9_answerTo_19 h (fun h => ?_) (fun h => ?_)
    · skip
      refine j_aload_n F 0 rfl rfl dX9_answerTo_32 ?_
      refine j_get F ft_X9_25 rfl (kl8.is (kl4.is g1)) dX9_answerTo_33 ?_
      refine j_iload_n F 1 rfl rfl dX9_answerTo_36 ?_
      obtain ⟨g13, h⟩ := gua h
      refine j_callV (d' := 2) (argl := [(true, x1)]) (rk9 := 2) (st := []) F hno M_Jx4a65c_get_915e3 q856 q857 q1100 ⟨by decide, by decide⟩ (Nat.le_of_ble_eq_true rfl) (by decide) (ci := 0) rfl (by decide) g13 dX9_answerTo_37 rfl h (fun z hz => c_Jx4a65c_get_915e3 l F.ht G (fd M7 10 6 x0) x1 M7 z hz) (fun v10 M11 h kl12 => ?_)
      refine j_st (st' := [(false, v10)]) rfl ?_
      obtain ⟨g14, h⟩ := gua h
      refine j_cast F q1098 rfl (by decide) g14 dX9_answerTo_40 ?_
      refine j_astore_n F (lv' := [(2, (false, v10)), (0, (false, x0)), (1, (true, x1))]) rfl (by decide) rfl dX9_answerTo_43 ?_
      refine j_aload_n F 1 rfl rfl dX9_answerTo_44 ?_
      refine j_get F ft_X9_25 rfl (kl12.is (kl8.is (kl4.is g1))) dX9_answerTo_45 ?_
      refine j_iload_n F 2 rfl rfl dX9_answerTo_48 ?_
      obtain ⟨g18, h⟩ := gua h
      refine j_callV (d' := 2) (argl := [(true, x1)]) (rk9 := 2) (st := []) F hno M_Jx4a65c_remove_915e3 q1102 q1103 q1101 ⟨by decide, by decide⟩ (Nat.le_of_ble_eq_true rfl) (by decide) (ci := 0) rfl (by decide) g18 dX9_answerTo_49 rfl h (fun z hz => c_Jx4a65c_remove_915e3 l F.ht G (fd M11 10 6 x0) x1 M11 z hz) (fun v15 M16 h kl17 => ?_)
      refine j_st (st' := [(false, v15)]) rfl ?_
      refine j_pop F dX9_answerTo_52 ?_
      refine j_aload_n F 1 rfl rfl dX9_answerTo_53 ?_
      refine j_aload_n F 0 rfl rfl dX9_answerTo_54 ?_
      obtain ⟨g19, h⟩ := gua h
      refine j_get F ft_X9_64 rfl g19 dX9_answerTo_55 ?_
      refine j_callV (d' := 0) (argl := [(true, (fd M16 7 1 v10))]) (rk9 := 2) (st := []) F hno M_X9_copyOf q1111 q1112 q1110 ⟨by decide, by decide⟩ (Nat.le_of_ble_eq_true rfl) (by decide) (ci := 10) rfl (by decide) (kl17.is (kl12.is (kl8.is (kl4.is g1)))) dX9_answerTo_58 rfl h (fun z hz => c_X9_copyOf l F.ht G x0 (fd M16 7 1 v10) M16 z hz) (fun v20 M21 h kl22 => ?_)
      refine j_st (st' := [(false, v20)]) rfl ?_
      refine j_astore_n F (lv' := [(3, (false, v20)), (2, (false, v10)), (0, (false, x0)), (1, (true, x1))]) rfl (by decide) rfl dX9_answerTo_61 ?_
      refine j_aload_n F 0 rfl rfl dX9_answerTo_62 ?_
      obtain ⟨g26, h⟩ := gua h
      refine j_callV (d' := 0) (argl := []) (rk9 := 1) (st := []) F hno M_X2_isHere q468 q469 q1114 ⟨by decide, by decide⟩ (Nat.le_of_ble_eq_true rfl) (by decide) (ci := 3) rfl (by decide) g26 dX9_answerTo_63 rfl h (fun z hz => c_X2_isHere l F.ht G v20 M21 z hz) (fun v23 M24 h kl25 => ?_)
      refine j_st (st' := [(true, v23)]) rfl ?_
      refine j_if_eq F 78 (by decide) dX9_answerTo_66 h (fun h => ?_) (fun h => ?_)
      · skip
        refine j_sub (lv' := [(0, (false, x0)), (2, (false, v10)), (3, (false, v20))]) [2, 1, 0] rfl ?_
        exact w_X9_answerTo_78 F hno hnm x0 v10 v20 M24 h
      · skip
        refine j_aload_n F 2 rfl rfl dX9_answerTo_69 ?_
        refine j_aload_n F 1 rfl rfl dX9_answerTo_70 ?_
        refine j_aload_n F 0 rfl rfl dX9_answerTo_71 ?_
        refine j_get F ft_X9_98 rfl (kl25.is g26) dX9_answerTo_72 ?_
        refine j_callV (d' := 6) (argl := [(false, v10), (false, (fd M24 3 0 v20))]) (rk9 := 0) (st := []) F hno M_X9_find q1117 q15 q1115 ⟨by decide, by decide⟩ (Nat.le_of_ble_eq_true rfl) (by decide) (ci := 10) rfl (by decide) (kl25.is (kl22.is (kl17.is (kl12.is (kl8.is (kl4.is g1)))))) dX9_answerTo_75 rfl h (fun z hz => c_X9_find l F.ht G x0 v10 (fd M24 3 0 v20) M24 z hz) (fun v27 M28 h kl29 => ?_)
        refine j_st (st' := []) rfl ?_
        refine j_sub (lv' := [(0, (false, x0)), (2, (false, v10)), (3, (false, v20))]) [2, 1, 0] rfl ?_
        exact w_X9_answerTo_78 F hno hnm x0 v10 v20 M28 h
    · skip
      refine j_sub (lv' := []) [] rfl ?_
      exact w_X9_answerTo_22 F hno hnm  M7 h
theorem c_X9_answerTo (l : Launch) (hl : l.stackTraces = false) (G : Gt) (x0 x1 : Int) (M : Mo) (z : RS) (h : X9_answerTo x0 x1 M = some z) : CT l G yX9_answerTo (cn yX9_answerTo cX9_answerTo 5 (some (FieldType.object "ToolPlex$Message"))) 7 [(false, x0), (true, x1)] M 2 z :=
  ctOf hl (by decide) (Nat.le_of_ble_eq_true rfl) (fun p e R s m args below meth c ρ F hno hnm => w_X9_answerTo_0 F hno hnm x0 x1 M h)
theorem dX9_faultsOf_0 : decode cX9_faultsOf 0 = .ok (.aload_n 0, 1) := by decide +kernel
theorem dX9_faultsOf_1 : decode cX9_faultsOf 1 = .ok (.iload_n 1, 1) := by decide +kernel
theorem dX9_faultsOf_2 : decode cX9_faultsOf 2 = .ok (.invokevirtual 69, 3) := by decide +kernel
theorem dX9_faultsOf_5 : decode cX9_faultsOf 5 = .ok (.astore_n 2, 1) := by decide +kernel
theorem dX9_faultsOf_6 : decode cX9_faultsOf 6 = .ok (.aload_n 2, 1) := by decide +kernel
theorem dX9_faultsOf_7 : decode cX9_faultsOf 7 = .ok (.getfield 98, 3) := by decide +kernel
theorem dX9_faultsOf_10 : decode cX9_faultsOf 10 = .ok (.astore_n 3, 1) := by decide +kernel
theorem dX9_faultsOf_11 : decode cX9_faultsOf 11 = .ok (.aload_n 0, 1) := by decide +kernel
theorem dX9_faultsOf_12 : decode cX9_faultsOf 12 = .ok (.getfield 32, 3) := by decide +kernel
theorem dX9_faultsOf_15 : decode cX9_faultsOf 15 = .ok (.invokevirtual 140, 3) := by decide +kernel
theorem dX9_faultsOf_18 : decode cX9_faultsOf 18 = .ok (.aload_n 3, 1) := by decide +kernel
theorem dX9_faultsOf_19 : decode cX9_faultsOf 19 = .ok (.iconst 0, 1) := by decide +kernel
theorem dX9_faultsOf_20 : decode cX9_faultsOf 20 = .ok (.aload_n 0, 1) := by decide +kernel
theorem dX9_faultsOf_21 : decode cX9_faultsOf 21 = .ok (.getfield 47, 3) := by decide +kernel
theorem dX9_faultsOf_24 : decode cX9_faultsOf 24 = .ok (.invokevirtual 208, 3) := by decide +kernel
theorem dX9_faultsOf_27 : decode cX9_faultsOf 27 = .ok (.istore 4, 2) := by decide +kernel
theorem dX9_faultsOf_29 : decode cX9_faultsOf 29 = .ok (.iload 4, 2) := by decide +kernel
theorem dX9_faultsOf_31 : decode cX9_faultsOf 31 = .ok (.iconst (-1), 1) := by decide +kernel
theorem dX9_faultsOf_32 : decode cX9_faultsOf 32 = .ok (.if_icmp .ne 7, 3) := by decide +kernel
theorem dX9_faultsOf_39 : decode cX9_faultsOf 39 = .ok (.aload_n 3, 1) := by decide +kernel
theorem dX9_faultsOf_40 : decode cX9_faultsOf 40 = .ok (.iload 4, 2) := by decide +kernel
theorem dX9_faultsOf_42 : decode cX9_faultsOf 42 = .ok (.invokevirtual 170, 3) := by decide +kernel
theorem dX9_faultsOf_35 : decode cX9_faultsOf 35 = .ok (.iconst 0, 1) := by decide +kernel
theorem dX9_faultsOf_36 : decode cX9_faultsOf 36 = .ok (.goto 9, 3) := by decide +kernel
theorem dX9_faultsOf_45 : decode cX9_faultsOf 45 = .ok (.istore 5, 2) := by decide +kernel
theorem dX9_faultsOf_47 : decode cX9_faultsOf 47 = .ok (.aload_n 3, 1) := by decide +kernel
theorem dX9_faultsOf_48 : decode cX9_faultsOf 48 = .ok (.iload 5, 2) := by decide +kernel
theorem dX9_faultsOf_50 : decode cX9_faultsOf 50 = .ok (.aload_n 0, 1) := by decide +kernel
theorem dX9_faultsOf_51 : decode cX9_faultsOf 51 = .ok (.getfield 47, 3) := by decide +kernel
theorem dX9_faultsOf_54 : decode cX9_faultsOf 54 = .ok (.invokevirtual 208, 3) := by decide +kernel
theorem dX9_faultsOf_57 : decode cX9_faultsOf 57 = .ok (.istore 6, 2) := by decide +kernel
theorem dX9_faultsOf_59 : decode cX9_faultsOf 59 = .ok (.bipush 100, 2) := by decide +kernel
theorem dX9_faultsOf_61 : decode cX9_faultsOf 61 = .ok (.istore 7, 2) := by decide +kernel
theorem dX9_faultsOf_63 : decode cX9_faultsOf 63 = .ok (.iload 7, 2) := by decide +kernel
theorem dX9_faultsOf_65 : decode cX9_faultsOf 65 = .ok (.ifCond .le 72, 3) := by decide +kernel
theorem dX9_faultsOf_68 : decode cX9_faultsOf 68 = .ok (.iload 6, 2) := by decide +kernel
theorem dX9_faultsOf_70 : decode cX9_faultsOf 70 = .ok (.iconst (-1), 1) := by decide +kernel
theorem dX9_faultsOf_71 : decode cX9_faultsOf 71 = .ok (.if_icmp .eq 66, 3) := by decide +kernel
theorem dX9_faultsOf_74 : decode cX9_faultsOf 74 = .ok (.aload_n 3, 1) := by decide +kernel
theorem dX9_faultsOf_75 : decode cX9_faultsOf 75 = .ok (.iload 6, 2) := by decide +kernel
theorem dX9_faultsOf_77 : decode cX9_faultsOf 77 = .ok (.invokevirtual 170, 3) := by decide +kernel
theorem dX9_faultsOf_80 : decode cX9_faultsOf 80 = .ok (.istore 8, 2) := by decide +kernel
theorem dX9_faultsOf_82 : decode cX9_faultsOf 82 = .ok (.aload_n 3, 1) := by decide +kernel
theorem dX9_faultsOf_83 : decode cX9_faultsOf 83 = .ok (.iload 6, 2) := by decide +kernel
theorem dX9_faultsOf_85 : decode cX9_faultsOf 85 = .ok (.iload 8, 2) := by decide +kernel
theorem dX9_faultsOf_87 : decode cX9_faultsOf 87 = .ok (.aload_n 3, 1) := by decide +kernel
theorem dX9_faultsOf_88 : decode cX9_faultsOf 88 = .ok (.iload 4, 2) := by decide +kernel
theorem dX9_faultsOf_90 : decode cX9_faultsOf 90 = .ok (.iload 5, 2) := by decide +kernel
theorem dX9_faultsOf_92 : decode cX9_faultsOf 92 = .ok (.invokevirtual 211, 3) := by decide +kernel
theorem dX9_faultsOf_95 : decode cX9_faultsOf 95 = .ok (.ifCond .eq 16, 3) := by decide +kernel
theorem dX9_faultsOf_98 : decode cX9_faultsOf 98 = .ok (.aload_n 0, 1) := by decide +kernel
theorem dX9_faultsOf_99 : decode cX9_faultsOf 99 = .ok (.getfield 32, 3) := by decide +kernel
theorem dX9_faultsOf_102 : decode cX9_faultsOf 102 = .ok (.iload_n 1, 1) := by decide +kernel
theorem dX9_faultsOf_103 : decode cX9_faultsOf 103 = .ok (.iload 6, 2) := by decide +kernel
theorem dX9_faultsOf_105 : decode cX9_faultsOf 105 = .ok (.iload 8, 2) := by decide +kernel
theorem dX9_faultsOf_107 : decode cX9_faultsOf 107 = .ok (.iconst 0, 1) := by decide +kernel
theorem dX9_faultsOf_108 : decode cX9_faultsOf 108 = .ok (.invokevirtual 187, 3) := by decide +kernel
theorem dX9_faultsOf_111 : decode cX9_faultsOf 111 = .ok (.iload 6, 2) := by decide +kernel
theorem dX9_faultsOf_113 : decode cX9_faultsOf 113 = .ok (.istore 4, 2) := by decide +kernel
theorem dX9_faultsOf_115 : decode cX9_faultsOf 115 = .ok (.iload 8, 2) := by decide +kernel
theorem dX9_faultsOf_117 : decode cX9_faultsOf 117 = .ok (.istore 5, 2) := by decide +kernel
theorem dX9_faultsOf_119 : decode cX9_faultsOf 119 = .ok (.aload_n 3, 1) := by decide +kernel
theorem dX9_faultsOf_120 : decode cX9_faultsOf 120 = .ok (.iload 8, 2) := by decide +kernel
theorem dX9_faultsOf_122 : decode cX9_faultsOf 122 = .ok (.aload_n 0, 1) := by decide +kernel
theorem dX9_faultsOf_123 : decode cX9_faultsOf 123 = .ok (.getfield 47, 3) := by decide +kernel
theorem dX9_faultsOf_126 : decode cX9_faultsOf 126 = .ok (.invokevirtual 208, 3) := by decide +kernel
theorem dX9_faultsOf_129 : decode cX9_faultsOf 129 = .ok (.istore 6, 2) := by decide +kernel
theorem dX9_faultsOf_131 : decode cX9_faultsOf 131 = .ok (.iinc 7 (-1), 3) := by decide +kernel
theorem dX9_faultsOf_134 : decode cX9_faultsOf 134 = .ok (.goto (-71), 3) := by decide +kernel
theorem dX9_faultsOf_137 : decode cX9_faultsOf 137 = .ok (.new 65, 3) := by decide +kernel
theorem dX9_faultsOf_140 : decode cX9_faultsOf 140 = .ok (.dup, 1) := by decide +kernel
theorem dX9_faultsOf_141 : decode cX9_faultsOf 141 = .ok (.bipush 6, 2) := by decide +kernel
theorem dX9_faultsOf_143 : decode cX9_faultsOf 143 = .ok (.iload_n 1, 1) := by decide +kernel
theorem dX9_faultsOf_144 : decode cX9_faultsOf 144 = .ok (.invokespecial 141, 3) := by decide +kernel
theorem dX9_faultsOf_147 : decode cX9_faultsOf 147 = .ok (.astore 7, 2) := by decide +kernel
theorem dX9_faultsOf_149 : decode cX9_faultsOf 149 = .ok (.aload 7, 2) := by decide +kernel
theorem dX9_faultsOf_151 : decode cX9_faultsOf 151 = .ok (.aload_n 2, 1) := by decide +kernel
theorem dX9_faultsOf_152 : decode cX9_faultsOf 152 = .ok (.getfield 148, 3) := by decide +kernel
theorem dX9_faultsOf_155 : decode cX9_faultsOf 155 = .ok (.putfield 80, 3) := by decide +kernel
theorem dX9_faultsOf_158 : decode cX9_faultsOf 158 = .ok (.aload 7, 2) := by decide +kernel
theorem dX9_faultsOf_160 : decode cX9_faultsOf 160 = .ok (.aload_n 0, 1) := by decide +kernel
theorem dX9_faultsOf_161 : decode cX9_faultsOf 161 = .ok (.getfield 32, 3) := by decide +kernel
theorem dX9_faultsOf_164 : decode cX9_faultsOf 164 = .ok (.invokevirtual 149, 3) := by decide +kernel
theorem dX9_faultsOf_167 : decode cX9_faultsOf 167 = .ok (.putfield 153, 3) := by decide +kernel
theorem dX9_faultsOf_170 : decode cX9_faultsOf 170 = .ok (.aload 7, 2) := by decide +kernel
theorem dX9_faultsOf_172 : decode cX9_faultsOf 172 = .ok (.areturn, 1) := by decide +kernel
set_option maxHeartbeats 4000000 in
set_option maxRecDepth 100000 in
theorem w_X9_faultsOf_111 {p : Program} {l : Launch} {e : Env} {R : Room} {s : State} {m : MethodId} {args : Array Value} {below : List Frame} {meth : Method} {c : Code} {G : Gt} {ρ0 : Int → Nat} {M0 : Mo} {res : RS} (F : Fx p l R s m args meth c cX9_faultsOf 9 RX9 G M0 4 (some (FieldType.object "ToolPlex$Message"))) (hno : ∀ x ∈ c.exceptionTable.toList, False) (hnm : meth.name = yX9_faultsOf.name) (k63 : Int → Int → Int → Int → Int → Int → Int → Int → Mo → Option RS) (hk63 : ∀ (x0 x1 x2 x3 x4 x5 x6 x7 : Int) (M : Mo), k63 x0 x1 x2 x3 x4 x5 x6 x7 M = some res → J p l e R s m args below meth c 9 G ρ0 M0 2 res M 63 [(0, (false, x0)), (1, (true, x1)), (2, (false, x2)), (3, (false, x3)), (4, (true, x4)), (5, (true, x5)), (6, (true, x6)), (7, (true, x7))] []) (x0 x1 x2 x3 x6 x7 x8 : Int) (M : Mo) (h : X9_faultsOf_111 k63 x0 x1 x2 x3 x6 x7 x8 M = some res) : J p l e R s m args below meth c 9 G ρ0 M0 2 res M 111 [(0, (false, x0)), (1, (true, x1)), (2, (false, x2)), (3, (false, x3)), (6, (true, x6)), (7, (true, x7)), (8, (true, x8))] [] := by
  unfold X9_faultsOf_111 at h
  refine j_iload F 4 rfl dX9_faultsOf_111 ?_
  refine j_istore F (lv' := [(4, (true, x6)), (0, (false, x0)), (1, (true, x1)), (2, (false, x2)), (3, (false, x3)), (6, (true, x6)), (7, (true, x7)), (8, (true, x8))]) (by decide) rfl dX9_faultsOf_113 ?_
  refine j_iload F 7 rfl dX9_faultsOf_115 ?_
  refine j_istore F (lv' := [(5, (true, x8)), (4, (true, x6)), (0, (false, x0)), (1, (true, x1)), (2, (false, x2)), (3, (false, x3)), (6, (true, x6)), (7, (true, x7)), (8, (true, x8))]) (by decide) rfl dX9_faultsOf_117 ?_
  refine j_aload_n F 5 rfl rfl dX9_faultsOf_119 ?_
  refine j_iload F 8 rfl dX9_faultsOf_120 ?_
  refine j_aload_n F 2 rfl rfl dX9_faultsOf_122 ?_
  obtain ⟨g1, h⟩ := gua h
  refine j_get F ft_X9_47 rfl g1 dX9_faultsOf_123 ?_
  obtain ⟨g5, h⟩ := gua h
  refine j_callV (d' := 1) (argl := [(true, x8), (true, (fd M 10 2 x0))]) (rk9 := 1) (st := []) F hno M_X10_nextRun q1124 q1125 q1140 ⟨by decide, by decide⟩ (Nat.le_of_ble_eq_true rfl) (by decide) (ci := 11) rfl (by decide) g5 dX9_faultsOf_126 rfl h (fun z hz => c_X10_nextRun l F.ht G x3 x8 (fd M 10 2 x0) M z hz) (fun v2 M3 h kl4 => ?_)
  refine j_st (st' := [(true, v2)]) rfl ?_
  refine j_istore F (lv' := [(6, (true, v2)), (5, (true, x8)), (4, (true, x6)), (0, (false, x0)), (1, (true, x1)), (2, (false, x2)), (3, (false, x3)), (7, (true, x7)), (8, (true, x8))]) (by decide) rfl dX9_faultsOf_129 ?_
  refine j_iinc F 7 (lv' := [(7, (true, (x7 + (-1)))), (6, (true, v2)), (5, (true, x8)), (4, (true, x6)), (0, (false, x0)), (1, (true, x1)), (2, (false, x2)), (3, (false, x3)), (8, (true, x8))]) rfl (by decide) rfl dX9_faultsOf_131 ?_
  refine j_goto F 63 (by decide) dX9_faultsOf_134 ?_
  refine j_sub (lv' := [(0, (false, x0)), (1, (true, x1)), (2, (false, x2)), (3, (false, x3)), (4, (true, x6)), (5, (true, x8)), (6, (true, v2)), (7, (true, (x7 + (-1))))]) [4, 5, 6, 7, 3, 2, 1, 0] rfl ?_
  exact hk63 x0 x1 x2 x3 x6 x8 v2 (x7 + (-1)) M3 h
set_option maxHeartbeats 4000000 in
set_option maxRecDepth 100000 in
theorem w_X9_faultsOf_137 {p : Program} {l : Launch} {e : Env} {R : Room} {s : State} {m : MethodId} {args : Array Value} {below : List Frame} {meth : Method} {c : Code} {G : Gt} {ρ0 : Int → Nat} {M0 : Mo} {res : RS} (F : Fx p l R s m args meth c cX9_faultsOf 9 RX9 G M0 4 (some (FieldType.object "ToolPlex$Message"))) (hno : ∀ x ∈ c.exceptionTable.toList, False) (hnm : meth.name = yX9_faultsOf.name) (x0 x1 x2 : Int) (M : Mo) (h : X9_faultsOf_137 x0 x1 x2 M = some res) : J p l e R s m args below meth c 9 G ρ0 M0 2 res M 137 [(0, (false, x0)), (1, (true, x1)), (2, (false, x2))] [] := by
  unfold X9_faultsOf_137 at h
  obtain ⟨g1, h⟩ := gua h
  refine j_new (ci := 7) F inGX6 tyX6 tyX6_ok q1098 q706 q75 rfl (by decide) dfX6 g1 dX9_faultsOf_137 (fun kl2 => ?_)
  obtain ⟨M3, hM3⟩ : ∃ Z, Z = nO M 7 17 := ⟨_, rfl⟩
  have g4 : kd M3 (nid M) = 8 := by rw [hM3]; exact kd_nO
  rw [← hM3] at kl2 ⊢
  replace h := pt_as h hM3
  refine j_dup F dX9_faultsOf_140 ?_
  refine j_bipush F (by decide) dX9_faultsOf_141 ?_
  refine j_iload_n F 1 rfl rfl dX9_faultsOf_143 ?_
  refine j_callI (d' := 2) (argl := [(true, 6), (true, x1)]) (rk9 := 0) (st := [(false, (nid M))]) F M_X6_init q708 rfl q1099 ⟨by decide, by decide⟩ (Nat.le_of_ble_eq_true rfl) (by decide) (by rw [g4]; decide) dX9_faultsOf_144 rfl h (fun z hz => c_X6_init l F.ht G (nid M) 6 x1 M3 z hz) (fun v5 M6 h kl7 => ?_)
  refine j_st (st' := [(false, (nid M))]) rfl ?_
  refine j_astore F (lv' := [(7, (false, (nid M))), (0, (false, x0)), (1, (true, x1)), (2, (false, x2))]) (by decide) rfl dX9_faultsOf_147 ?_
  refine j_aload F 0 rfl dX9_faultsOf_149 ?_
  refine j_aload_n F 3 rfl rfl dX9_faultsOf_151 ?_
  obtain ⟨g8, h⟩ := gua h
  refine j_get F ft_X9_148 rfl g8 dX9_faultsOf_152 ?_
  refine j_put (ty := .int) F ft_X9_80 rfl rfl tyX6 tyX6_ok nmX6 (by decide +kernel) (nf_int _) (kl7.is g4) dX9_faultsOf_155 ?_
  obtain ⟨M9, hM9⟩ : ∃ Z, Z = sF M6 7 5 (nid M) (fd M6 3 4 x2) := ⟨_, rfl⟩
  have kl10 : kle M6 M9 := by rw [hM9]; exact kle_sF
  rw [← hM9]
  replace h := pt_as h hM9
  refine j_aload F 0 rfl dX9_faultsOf_158 ?_
  refine j_aload_n F 1 rfl rfl dX9_faultsOf_160 ?_
  obtain ⟨g11, h⟩ := gua h
  refine j_get F ft_X9_32 rfl g11 dX9_faultsOf_161 ?_
  obtain ⟨g15, h⟩ := gua h
  refine j_callV (d' := 2) (argl := []) (rk9 := 2) (st := [(false, (nid M))]) F hno M_X5_copied q1195 q1196 q1194 ⟨by decide, by decide⟩ (Nat.le_of_ble_eq_true rfl) (by decide) (ci := 6) rfl (by decide) g15 dX9_faultsOf_164 rfl h (fun z hz => c_X5_copied l F.ht G (fd M9 10 7 x0) M9 z hz) (fun v12 M13 h kl14 => ?_)
  refine j_st (st' := [(false, v12), (false, (nid M))]) rfl ?_
  refine j_put (ty := .object "ToolPlex$Items") F ft_X9_153 rfl rfl tyX6 tyX6_ok nmX6 (by decide +kernel) (nf_ref (Or.inl ⟨_, rfl⟩) _) (kl14.is (kl10.is (kl7.is g4))) dX9_faultsOf_167 ?_
  obtain ⟨M16, hM16⟩ : ∃ Z, Z = sF M13 7 15 (nid M) v12 := ⟨_, rfl⟩
  have kl17 : kle M13 M16 := by rw [hM16]; exact kle_sF
  rw [← hM16]
  replace h := pt_as h hM16
  refine j_aload F 0 rfl dX9_faultsOf_170 ?_
  exact j_aret F (Or.inl ⟨_, rfl⟩) h dX9_faultsOf_172
set_option maxHeartbeats 4000000 in
set_option maxRecDepth 100000 in
theorem w_X9_faultsOf_63 {p : Program} {l : Launch} {e : Env} {R : Room} {s : State} {m : MethodId} {args : Array Value} {below : List Frame} {meth : Method} {c : Code} {G : Gt} {ρ0 : Int → Nat} {M0 : Mo} {res : RS} (F : Fx p l R s m args meth c cX9_faultsOf 9 RX9 G M0 4 (some (FieldType.object "ToolPlex$Message"))) (hno : ∀ x ∈ c.exceptionTable.toList, False) (hnm : meth.name = yX9_faultsOf.name) (n : Nat) : ∀ (x0 x1 x2 x3 x4 x5 x6 x7 : Int) (M : Mo), X9_faultsOf_63 n x0 x1 x2 x3 x4 x5 x6 x7 M = some res → J p l e R s m args below meth c 9 G ρ0 M0 2 res M 63 [(0, (false, x0)), (1, (true, x1)), (2, (false, x2)), (3, (false, x3)), (4, (true, x4)), (5, (true, x5)), (6, (true, x6)), (7, (true, x7))] [] := by
  induction n with
  | zero => intro x0 x1 x2 x3 x4 x5 x6 x7 M h; cases h
  | succ n ih =>
    intro x0 x1 x2 x3 x4 x5 x6 x7 M h
    rw [X9_faultsOf_63] at h
    refine j_iload F 7 rfl dX9_faultsOf_63 ?_
    refine j_if_le F 137 (by decide) dX9_faultsOf_65 h (fun h => ?_) (fun h => ?_)
    · skip
      refine j_sub (lv' := [(0, (false, x0)), (1, (true, x1)), (2, (false, x2))]) [0, 1, 2] rfl ?_
      exact w_X9_faultsOf_137 F hno hnm x0 x1 x2 M h
    · skip
      refine j_iload F 6 rfl dX9_faultsOf_68 ?_
      refine j_iconst F dX9_faultsOf_70 ?_
      refine j_icmp_eq F 137 (by decide) dX9_faultsOf_71 h (fun h => ?_) (fun h => ?_)
      · skip
        refine j_sub (lv' := [(0, (false, x0)), (1, (true, x1)), (2, (false, x2))]) [0, 1, 2] rfl ?_
        exact w_X9_faultsOf_137 F hno hnm x0 x1 x2 M h
      · skip
        refine j_aload_n F 3 rfl rfl dX9_faultsOf_74 ?_
        refine j_iload F 6 rfl dX9_faultsOf_75 ?_
        obtain ⟨g4, h⟩ := gua h
        refine j_callV (d' := 1) (argl := [(true, x6)]) (rk9 := 1) (st := []) F hno M_X10_runEnd q1132 q1133 q1135 ⟨by decide, by decide⟩ (Nat.le_of_ble_eq_true rfl) (by decide) (ci := 11) rfl (by decide) g4 dX9_faultsOf_77 rfl h (fun z hz => c_X10_runEnd l F.ht G x3 x6 M z hz) (fun v1 M2 h kl3 => ?_)
        refine j_st (st' := [(true, v1)]) rfl ?_
        refine j_istore F (lv' := [(8, (true, v1)), (0, (false, x0)), (1, (true, x1)), (2, (false, x2)), (3, (false, x3)), (4, (true, x4)), (5, (true, x5)), (6, (true, x6)), (7, (true, x7))]) (by decide) rfl dX9_faultsOf_80 ?_
        refine j_aload_n F 4 rfl rfl dX9_faultsOf_82 ?_
        refine j_iload F 7 rfl dX9_faultsOf_83 ?_
        refine j_iload F 0 rfl dX9_faultsOf_85 ?_
        refine j_aload_n F 4 rfl rfl dX9_faultsOf_87 ?_
        refine j_iload F 5 rfl dX9_faultsOf_88 ?_
        refine j_iload F 6 rfl dX9_faultsOf_90 ?_
        refine j_callV (d' := 1) (argl := [(true, x6), (true, v1), (false, x3), (true, x4), (true, x5)]) (rk9 := 1) (st := []) F hno M_X10_alike q1142 q1143 q1141 ⟨by decide, by decide⟩ (Nat.le_of_ble_eq_true rfl) (by decide) (ci := 11) rfl (by decide) (kl3.is g4) dX9_faultsOf_92 rfl h (fun z hz => c_X10_alike l F.ht G x3 x6 v1 x3 x4 x5 M2 z hz) (fun v5 M6 h kl7 => ?_)
        refine j_st (st' := [(true, v5)]) rfl ?_
        refine j_if_eq F 111 (by decide) dX9_faultsOf_95 h (fun h => ?_) (fun h => ?_)
        · skip
          refine j_sub (lv' := [(0, (false, x0)), (1, (true, x1)), (2, (false, x2)), (3, (false, x3)), (6, (true, x6)), (7, (true, x7)), (8, (true, v1))]) [1, 2, 3, 4, 7, 8, 0] rfl ?_
          exact w_X9_faultsOf_111 F hno hnm (X9_faultsOf_63 n) ih x0 x1 x2 x3 x6 x7 v1 M6 h
        · skip
          refine j_aload_n F 1 rfl rfl dX9_faultsOf_98 ?_
          obtain ⟨g8, h⟩ := gua h
          refine j_get F ft_X9_32 rfl g8 dX9_faultsOf_99 ?_
          refine j_iload_n F 2 rfl rfl dX9_faultsOf_102 ?_
          refine j_iload F 7 rfl dX9_faultsOf_103 ?_
          refine j_iload F 0 rfl dX9_faultsOf_105 ?_
          refine j_iconst F dX9_faultsOf_107 ?_
          obtain ⟨g12, h⟩ := gua h
          refine j_callV (d' := 3) (argl := [(true, x1), (true, x6), (true, v1), (true, 0)]) (rk9 := 0) (st := []) F hno M_X5_add q1171 q1172 q1170 ⟨by decide, by decide⟩ (Nat.le_of_ble_eq_true rfl) (by decide) (ci := 6) rfl (by decide) g12 dX9_faultsOf_108 rfl h (fun z hz => c_X5_add l F.ht G (fd M6 10 7 x0) x1 x6 v1 0 M6 z hz) (fun v9 M10 h kl11 => ?_)
          refine j_st (st' := []) rfl ?_
          refine j_sub (lv' := [(0, (false, x0)), (1, (true, x1)), (2, (false, x2)), (3, (false, x3)), (6, (true, x6)), (7, (true, x7)), (8, (true, v1))]) [1, 2, 3, 4, 7, 8, 0] rfl ?_
          exact w_X9_faultsOf_111 F hno hnm (X9_faultsOf_63 n) ih x0 x1 x2 x3 x6 x7 v1 M10 h
set_option maxHeartbeats 4000000 in
set_option maxRecDepth 100000 in
theorem w_X9_faultsOf_45 {p : Program} {l : Launch} {e : Env} {R : Room} {s : State} {m : MethodId} {args : Array Value} {below : List Frame} {meth : Method} {c : Code} {G : Gt} {ρ0 : Int → Nat} {M0 : Mo} {res : RS} (F : Fx p l R s m args meth c cX9_faultsOf 9 RX9 G M0 4 (some (FieldType.object "ToolPlex$Message"))) (hno : ∀ x ∈ c.exceptionTable.toList, False) (hnm : meth.name = yX9_faultsOf.name) (x0 x1 x2 x3 x4 y0 : Int) (M : Mo) (h : X9_faultsOf_45 x0 x1 x2 x3 x4 y0 M = some res) : J p l e R s m args below meth c 9 G ρ0 M0 2 res M 45 [(0, (false, x0)), (1, (true, x1)), (2, (false, x2)), (3, (false, x3)), (4, (true, x4))] [(true, y0)] := by
  unfold X9_faultsOf_45 at h
  refine j_istore F (lv' := [(5, (true, y0)), (0, (false, x0)), (1, (true, x1)), (2, (false, x2)), (3, (false, x3)), (4, (true, x4))]) (by decide) rfl dX9_faultsOf_45 ?_
  refine j_aload_n F 4 rfl rfl dX9_faultsOf_47 ?_
  refine j_iload F 0 rfl dX9_faultsOf_48 ?_
  refine j_aload_n F 1 rfl rfl dX9_faultsOf_50 ?_
  obtain ⟨g1, h⟩ := gua h
  refine j_get F ft_X9_47 rfl g1 dX9_faultsOf_51 ?_
  obtain ⟨g5, h⟩ := gua h
  refine j_callV (d' := 1) (argl := [(true, y0), (true, (fd M 10 2 x0))]) (rk9 := 1) (st := []) F hno M_X10_nextRun q1124 q1125 q1140 ⟨by decide, by decide⟩ (Nat.le_of_ble_eq_true rfl) (by decide) (ci := 11) rfl (by decide) g5 dX9_faultsOf_54 rfl h (fun z hz => c_X10_nextRun l F.ht G x3 y0 (fd M 10 2 x0) M z hz) (fun v2 M3 h kl4 => ?_)
  refine j_st (st' := [(true, v2)]) rfl ?_
  refine j_istore F (lv' := [(6, (true, v2)), (5, (true, y0)), (0, (false, x0)), (1, (true, x1)), (2, (false, x2)), (3, (false, x3)), (4, (true, x4))]) (by decide) rfl dX9_faultsOf_57 ?_
  refine j_bipush F (by decide) dX9_faultsOf_59 ?_
  refine j_istore F (lv' := [(7, (true, 100)), (6, (true, v2)), (5, (true, y0)), (0, (false, x0)), (1, (true, x1)), (2, (false, x2)), (3, (false, x3)), (4, (true, x4))]) (by decide) rfl dX9_faultsOf_61 ?_
  refine j_sub (lv' := [(0, (false, x0)), (1, (true, x1)), (2, (false, x2)), (3, (false, x3)), (4, (true, x4)), (5, (true, y0)), (6, (true, v2)), (7, (true, 100))]) [3, 4, 5, 6, 7, 2, 1, 0] rfl ?_
  exact w_X9_faultsOf_63 F hno hnm FU x0 x1 x2 x3 x4 y0 v2 100 M3 h
set_option maxHeartbeats 4000000 in
set_option maxRecDepth 100000 in
theorem w_X9_faultsOf_0 {p : Program} {l : Launch} {e : Env} {R : Room} {s : State} {m : MethodId} {args : Array Value} {below : List Frame} {meth : Method} {c : Code} {G : Gt} {ρ0 : Int → Nat} {M0 : Mo} {res : RS} (F : Fx p l R s m args meth c cX9_faultsOf 9 RX9 G M0 4 (some (FieldType.object "ToolPlex$Message"))) (hno : ∀ x ∈ c.exceptionTable.toList, False) (hnm : meth.name = yX9_faultsOf.name) (x0 x1 : Int) (M : Mo) (h : X9_faultsOf x0 x1 M = some res) : J p l e R s m args below meth c 9 G ρ0 M0 2 res M 0 [(0, (false, x0)), (1, (true, x1))] [] := by
  unfold X9_faultsOf at h
  refine j_aload_n F 0 rfl rfl dX9_faultsOf_0 ?_
  refine j_iload_n F 1 rfl rfl dX9_faultsOf_1 ?_
  obtain ⟨g4, h⟩ := gua h
  refine j_callV (d' := 0) (argl := [(true, x1)]) (rk9 := 2) (st := []) F hno M_X9_copyOf q1111 q1112 q1110 ⟨by decide, by decide⟩ (Nat.le_of_ble_eq_true rfl) (by decide) (ci := 10) rfl (by decide) g4 dX9_faultsOf_2 rfl h (fun z hz => c_X9_copyOf l F.ht G x0 x1 M z hz) (fun v1 M2 h kl3 => ?_)
  refine j_st (st' := [(false, v1)]) rfl ?_
  refine j_astore_n F (lv' := [(2, (false, v1)), (0, (false, x0)), (1, (true, x1))]) rfl (by decide) rfl dX9_faultsOf_5 ?_
  refine j_aload_n F 0 rfl rfl dX9_faultsOf_6 ?_
  obtain ⟨g5, h⟩ := gua h
  refine j_get F ft_X9_98 rfl g5 dX9_faultsOf_7 ?_
  refine j_astore_n F (lv' := [(3, (false, (fd M2 3 0 v1))), (2, (false, v1)), (0, (false, x0)), (1, (true, x1))]) rfl (by decide) rfl dX9_faultsOf_10 ?_
  refine j_aload_n F 2 rfl rfl dX9_faultsOf_11 ?_
  refine j_get F ft_X9_32 rfl (kl3.is g4) dX9_faultsOf_12 ?_
  obtain ⟨g9, h⟩ := gua h
  refine j_callV (d' := 0) (argl := []) (rk9 := 0) (st := []) F hno M_X5_clear q851 q852 q1097 ⟨by decide, by decide⟩ (Nat.le_of_ble_eq_true rfl) (by decide) (ci := 6) rfl (by decide) g9 dX9_faultsOf_15 rfl h (fun z hz => c_X5_clear l F.ht G (fd M2 10 7 x0) M2 z hz) (fun v6 M7 h kl8 => ?_)
  refine j_st (st' := []) rfl ?_
  refine j_aload_n F 0 rfl rfl dX9_faultsOf_18 ?_
  refine j_iconst F dX9_faultsOf_19 ?_
  refine j_aload_n F 2 rfl rfl dX9_faultsOf_20 ?_
  refine j_get F ft_X9_47 rfl (kl8.is (kl3.is g4)) dX9_faultsOf_21 ?_
  obtain ⟨g13, h⟩ := gua h
  refine j_callV (d' := 1) (argl := [(true, 0), (true, (fd M7 10 2 x0))]) (rk9 := 1) (st := []) F hno M_X10_nextRun q1124 q1125 q1140 ⟨by decide, by decide⟩ (Nat.le_of_ble_eq_true rfl) (by decide) (ci := 11) rfl (by decide) g13 dX9_faultsOf_24 rfl h (fun z hz => c_X10_nextRun l F.ht G (fd M2 3 0 v1) 0 (fd M7 10 2 x0) M7 z hz) (fun v10 M11 h kl12 => ?_)
  refine j_st (st' := [(true, v10)]) rfl ?_
  refine j_istore F (lv' := [(4, (true, v10)), (3, (false, (fd M2 3 0 v1))), (2, (false, v1)), (0, (false, x0)), (1, (true, x1))]) (by decide) rfl dX9_faultsOf_27 ?_
  refine j_iload F 0 rfl dX9_faultsOf_29 ?_
  refine j_iconst F dX9_faultsOf_31 ?_
  refine j_icmp_ne F 39 (by decide) dX9_faultsOf_32 h (fun h => ?_) (fun h => ?_)
  · skip
    refine j_aload_n F 1 rfl rfl dX9_faultsOf_39 ?_
    refine j_iload F 0 rfl dX9_faultsOf_40 ?_
    refine j_callV (d' := 1) (argl := [(true, v10)]) (rk9 := 1) (st := []) F hno M_X10_runEnd q1132 q1133 q1135 ⟨by decide, by decide⟩ (Nat.le_of_ble_eq_true rfl) (by decide) (ci := 11) rfl (by decide) (kl12.is g13) dX9_faultsOf_42 rfl h (fun z hz => c_X10_runEnd l F.ht G (fd M2 3 0 v1) v10 M11 z hz) (fun v14 M15 h kl16 => ?_)
    refine j_st (st' := [(true, v14)]) rfl ?_
    refine j_sub (lv' := [(0, (false, x0)), (1, (true, x1)), (2, (false, v1)), (3, (false, (fd M2 3 0 v1))), (4, (true, v10))]) [3, 4, 2, 1, 0] rfl ?_
    exact w_X9_faultsOf_45 F hno hnm x0 x1 v1 (fd M2 3 0 v1) v10 v14 M15 h
  · skip
    refine j_iconst F dX9_faultsOf_35 ?_
    refine j_goto F 45 (by decide) dX9_faultsOf_36 ?_
    refine j_sub (lv' := [(0, (false, x0)), (1, (true, x1)), (2, (false, v1)), (3, (false, (fd M2 3 0 v1))), (4, (true, v10))]) [3, 4, 2, 1, 0] rfl ?_
    exact w_X9_faultsOf_45 F hno hnm x0 x1 v1 (fd M2 3 0 v1) v10 0 M11 h
theorem c_X9_faultsOf (l : Launch) (hl : l.stackTraces = false) (G : Gt) (x0 x1 : Int) (M : Mo) (z : RS) (h : X9_faultsOf x0 x1 M = some z) : CT l G yX9_faultsOf (cn yX9_faultsOf cX9_faultsOf 9 (some (FieldType.object "ToolPlex$Message"))) 4 [(false, x0), (true, x1)] M 2 z :=
  ctOf hl (by decide) (Nat.le_of_ble_eq_true rfl) (fun p e R s m args below meth c ρ F hno hnm => w_X9_faultsOf_0 F hno hnm x0 x1 M h)
