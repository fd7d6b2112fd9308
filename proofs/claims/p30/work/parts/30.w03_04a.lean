theorem dX4_init_0 : decode cX4_init 0 = .ok (.aload_n 0, 1) := by decide +kernel
set_option maxRecDepth 100000 in
theorem q107 : Cond.methodLink RX4 3 Lib.objectInit ∈ GT := gt 107 (by decide +kernel) (by decide +kernel)
theorem dX4_init_1 : decode cX4_init 1 = .ok (.invokespecial 3, 3) := by decide +kernel
theorem dX4_init_4 : decode cX4_init 4 = .ok (.aload_n 0, 1) := by decide +kernel
theorem dX4_init_5 : decode cX4_init 5 = .ok (.bipush 6, 2) := by decide +kernel
theorem dX4_init_7 : decode cX4_init 7 = .ok (.newarray .char, 2) := by decide +kernel
set_option maxRecDepth 100000 in
theorem q111 : Cond.fieldLink RX4 9 "ToolPlex$Files" "names" "[C" ∈ GT := gt 111 (by decide +kernel) (by decide +kernel)
theorem inGX4 : ∀ w ∈ u_ws RX4 TX4 7, w ∈ GT := gts [118, 120, 122, 124, 126, 128, 130] (by decide +kernel) (by decide +kernel)
theorem ft_X4_9 : FT RX4 9 RX4 5 RX4 TX4 7 0 := ⟨rfl, by decide, by decide, q111, Or.inl rfl, inGX4⟩
theorem dX4_init_9 : decode cX4_init 9 = .ok (.putfield 9, 3) := by decide +kernel
theorem dX4_init_12 : decode cX4_init 12 = .ok (.aload_n 0, 1) := by decide +kernel
theorem dX4_init_13 : decode cX4_init 13 = .ok (.bipush 6, 2) := by decide +kernel
theorem dX4_init_15 : decode cX4_init 15 = .ok (.newarray .int, 2) := by decide +kernel
set_option maxRecDepth 100000 in
theorem q112 : Cond.fieldLink RX4 15 "ToolPlex$Files" "languages" "[I" ∈ GT := gt 112 (by decide +kernel) (by decide +kernel)
theorem ft_X4_15 : FT RX4 15 RX4 5 RX4 TX4 7 1 := ⟨rfl, by decide, by decide, q112, Or.inl rfl, inGX4⟩
theorem dX4_init_17 : decode cX4_init 17 = .ok (.putfield 15, 3) := by decide +kernel
theorem dX4_init_20 : decode cX4_init 20 = .ok (.aload_n 0, 1) := by decide +kernel
theorem dX4_init_21 : decode cX4_init 21 = .ok (.bipush 6, 2) := by decide +kernel
theorem dX4_init_23 : decode cX4_init 23 = .ok (.newarray .int, 2) := by decide +kernel
set_option maxRecDepth 100000 in
theorem q113 : Cond.fieldLink RX4 19 "ToolPlex$Files" "versions" "[I" ∈ GT := gt 113 (by decide +kernel) (by decide +kernel)
theorem ft_X4_19 : FT RX4 19 RX4 5 RX4 TX4 7 2 := ⟨rfl, by decide, by decide, q113, Or.inl rfl, inGX4⟩
theorem dX4_init_25 : decode cX4_init 25 = .ok (.putfield 19, 3) := by decide +kernel
theorem dX4_init_28 : decode cX4_init 28 = .ok (.aload_n 0, 1) := by decide +kernel
theorem dX4_init_29 : decode cX4_init 29 = .ok (.bipush 6, 2) := by decide +kernel
theorem dX4_init_31 : decode cX4_init 31 = .ok (.newarray .int, 2) := by decide +kernel
set_option maxRecDepth 100000 in
theorem q114 : Cond.fieldLink RX4 22 "ToolPlex$Files" "holders" "[I" ∈ GT := gt 114 (by decide +kernel) (by decide +kernel)
theorem ft_X4_22 : FT RX4 22 RX4 5 RX4 TX4 7 3 := ⟨rfl, by decide, by decide, q114, Or.inl rfl, inGX4⟩
theorem dX4_init_33 : decode cX4_init 33 = .ok (.putfield 22, 3) := by decide +kernel
theorem dX4_init_36 : decode cX4_init 36 = .ok (.aload_n 0, 1) := by decide +kernel
theorem dX4_init_37 : decode cX4_init 37 = .ok (.bipush 6, 2) := by decide +kernel
set_option maxRecDepth 100000 in
theorem q108 : Cond.classLink RX4 25 RX10 ∈ GT := gt 108 (by decide +kernel) (by decide +kernel)
theorem dX4_init_39 : decode cX4_init 39 = .ok (.anewarray 25, 3) := by decide +kernel
set_option maxRecDepth 100000 in
theorem q115 : Cond.fieldLink RX4 27 "ToolPlex$Files" "texts" "[LToolPlex$Text;" ∈ GT := gt 115 (by decide +kernel) (by decide +kernel)
theorem ft_X4_27 : FT RX4 27 RX4 5 RX4 TX4 7 4 := ⟨rfl, by decide, by decide, q115, Or.inl rfl, inGX4⟩
theorem dX4_init_42 : decode cX4_init 42 = .ok (.putfield 27, 3) := by decide +kernel
theorem dX4_init_45 : decode cX4_init 45 = .ok (.aload_n 0, 1) := by decide +kernel
theorem dfX10 : ∀ j, j < 2 → defaultValue (tyX10 j) = vp_V ((lay 11).map (fun b => if b then Value.int 0 else .null)) j := by decide +kernel
set_option maxRecDepth 100000 in
theorem q89 : Cond.instantiable RX10 2 ∈ GT := gt 89 (by decide +kernel) (by decide +kernel)
theorem dX4_init_46 : decode cX4_init 46 = .ok (.new 25, 3) := by decide +kernel
theorem dX4_init_49 : decode cX4_init 49 = .ok (.dup, 1) := by decide +kernel
set_option maxRecDepth 100000 in
theorem q92 : Cond.code yX10_init cX10_init 1 none ∈ GT := gt 92 (rfl) (by decide +kernel)
theorem M_X10_init : MY yX10_init cX10_init 1 none 0 := ⟨q92, q54, by decide +kernel, by decide +kernel⟩
set_option maxRecDepth 100000 in
theorem q91 : Cond.instanceMethod yX10_init ∈ GT := gt 91 (by decide +kernel) (by decide +kernel)
set_option maxRecDepth 100000 in
theorem q110 : Cond.methodLinkNest RX4 31 yX10_init "ToolPlex" ∈ GT := gt 110 (by decide +kernel) (by decide +kernel)
theorem dX4_init_50 : decode cX4_init 50 = .ok (.invokespecial 31, 3) := by decide +kernel
set_option maxRecDepth 100000 in
theorem q116 : Cond.fieldLink RX4 32 "ToolPlex$Files" "nothing" "LToolPlex$Text;" ∈ GT := gt 116 (by decide +kernel) (by decide +kernel)
theorem ft_X4_32 : FT RX4 32 RX4 5 RX4 TX4 7 5 := ⟨rfl, by decide, by decide, q116, Or.inl rfl, inGX4⟩
theorem dX4_init_53 : decode cX4_init 53 = .ok (.putfield 32, 3) := by decide +kernel
theorem dX4_init_56 : decode cX4_init 56 = .ok (.iconst 0, 1) := by decide +kernel
theorem dX4_init_57 : decode cX4_init 57 = .ok (.istore_n 1, 1) := by decide +kernel
theorem dX4_init_58 : decode cX4_init 58 = .ok (.iload_n 1, 1) := by decide +kernel
theorem dX4_init_59 : decode cX4_init 59 = .ok (.bipush 6, 2) := by decide +kernel
theorem dX4_init_61 : decode cX4_init 61 = .ok (.if_icmp .ge 29, 3) := by decide +kernel
theorem dX4_init_90 : decode cX4_init 90 = .ok (.return_, 1) := by decide +kernel
theorem dX4_init_64 : decode cX4_init 64 = .ok (.aload_n 0, 1) := by decide +kernel
theorem dX4_init_65 : decode cX4_init 65 = .ok (.getfield 22, 3) := by decide +kernel
theorem dX4_init_68 : decode cX4_init 68 = .ok (.iload_n 1, 1) := by decide +kernel
theorem dX4_init_69 : decode cX4_init 69 = .ok (.iconst (-1), 1) := by decide +kernel
theorem dX4_init_70 : decode cX4_init 70 = .ok (.iastore, 1) := by decide +kernel
theorem dX4_init_71 : decode cX4_init 71 = .ok (.aload_n 0, 1) := by decide +kernel
theorem dX4_init_72 : decode cX4_init 72 = .ok (.getfield 27, 3) := by decide +kernel
theorem dX4_init_75 : decode cX4_init 75 = .ok (.iload_n 1, 1) := by decide +kernel
theorem dX4_init_76 : decode cX4_init 76 = .ok (.new 25, 3) := by decide +kernel
theorem dX4_init_79 : decode cX4_init 79 = .ok (.dup, 1) := by decide +kernel
theorem dX4_init_80 : decode cX4_init 80 = .ok (.invokespecial 31, 3) := by decide +kernel
theorem dX4_init_83 : decode cX4_init 83 = .ok (.aastore, 1) := by decide +kernel
theorem dX4_init_84 : decode cX4_init 84 = .ok (.iinc 1 1, 3) := by decide +kernel
theorem dX4_init_87 : decode cX4_init 87 = .ok (.goto (-29), 3) := by decide +kernel
set_option maxHeartbeats 4000000 in
set_option maxRecDepth 100000 in
theorem w_X4_init_58 {p : Program} {l : Launch} {e : Env} {R : Room} {s : State} {m : MethodId} {args : Array Value} {below : List Frame} {meth : Method} {c : Code} {G : Gt} {ρ0 : Int → Nat} {M0 : Mo} {res : RS} (F : Fx p l R s m args meth c cX4_init 2 RX4 G M0 2 none) (hno : ∀ x ∈ c.exceptionTable.toList, False) (hnm : meth.name = yX4_init.name) (n : Nat) : ∀ (x0 x1 : Int) (M : Mo), X4_init_58 n x0 x1 M = some res → J p l e R s m args below meth c 2 G ρ0 M0 0 res M 58 [(0, (false, x0)), (1, (true, x1))] [] := by
  induction n with
  | zero => intro x0 x1 M h; cases h
  | succ n ih =>
    intro x0 x1 M h
    rw [X4_init_58] at h
    refine j_iload_n F 1 rfl rfl dX4_init_58 ?_
    refine j_bipush F (by decide) dX4_init_59 ?_
    refine j_icmp_ge F 90 (by decide) dX4_init_61 h (fun h => ?_) (fun h => ?_)
    · skip
      exact j_vret F (v := 0) h dX4_init_90
    · skip
      refine j_aload_n F 0 rfl rfl dX4_init_64 ?_
      obtain ⟨g1, h⟩ := gua h
      refine j_get F ft_X4_22 rfl g1 dX4_init_65 ?_
      refine j_iload_n F 1 rfl rfl dX4_init_68 ?_
      refine j_iconst F dX4_init_69 ?_
      obtain ⟨g2, h⟩ := gua h
      obtain ⟨g3, h⟩ := gua h
      refine j_iastore F g2 g3 dX4_init_70 ?_
      obtain ⟨M4, hM4⟩ : ∃ Z, Z = sE M 0 (fd M 5 3 x0) (wr x1) (-1) := ⟨_, rfl⟩
      have kl5 : kle M M4 := by rw [hM4]; exact kle_sE
      rw [← hM4]
      replace h := pt_as h hM4
      refine j_aload_n F 0 rfl rfl dX4_init_71 ?_
      refine j_get F ft_X4_27 rfl (kl5.is g1) dX4_init_72 ?_
      refine j_iload_n F 1 rfl rfl dX4_init_75 ?_
      obtain ⟨g6, h⟩ := gua h
      refine j_new (ci := 11) F inGX10 tyX10 tyX10_ok q108 q89 q54 rfl (by decide) dfX10 g6 dX4_init_76 (fun kl7 => ?_)
      obtain ⟨M8, hM8⟩ : ∃ Z, Z = nO M4 11 2 := ⟨_, rfl⟩
      have g9 : kd M8 (nid M4) = 12 := by rw [hM8]; exact kd_nO
      rw [← hM8] at kl7 ⊢
      replace h := pt_as h hM8
      refine j_dup F dX4_init_79 ?_
      refine j_callIN (d' := 1) (argl := []) (rk9 := 0) (st := [(false, (nid M4)), (true, x1), (false, (fd M4 5 4 x0))]) F M_X10_init q91 rfl q110 ⟨by decide, by decide⟩ (Nat.le_of_ble_eq_true rfl) (by decide) (by rw [g9]; decide) dX4_init_80 rfl h (fun z hz => c_X10_init l F.ht G (nid M4) M8 z hz) (fun v10 M11 h kl12 => ?_)
      refine j_st (st' := [(false, (nid M4)), (true, x1), (false, (fd M4 5 4 x0))]) rfl ?_
      obtain ⟨g13, h⟩ := gua h
      obtain ⟨g14, h⟩ := gua h
      refine j_aastore F 11 4 11 g13 (by decide) rfl rfl (by decide) rfl g14 (Or.inr (kl12.is g9)) dX4_init_83 ?_
      obtain ⟨M15, hM15⟩ : ∃ Z, Z = sE M11 11 (fd M4 5 4 x0) (wr x1) (nid M4) := ⟨_, rfl⟩
      have kl16 : kle M11 M15 := by rw [hM15]; exact kle_sE
      rw [← hM15]
      replace h := pt_as h hM15
      refine j_iinc F 1 (lv' := [(1, (true, (x1 + 1))), (0, (false, x0))]) rfl (by decide) rfl dX4_init_84 ?_
      refine j_goto F 58 (by decide) dX4_init_87 ?_
      refine j_sub (lv' := [(0, (false, x0)), (1, (true, (x1 + 1)))]) [1, 0] rfl ?_
      exact ih x0 (x1 + 1) M15 h
set_option maxHeartbeats 4000000 in
set_option maxRecDepth 100000 in
theorem w_X4_init_0 {p : Program} {l : Launch} {e : Env} {R : Room} {s : State} {m : MethodId} {args : Array Value} {below : List Frame} {meth : Method} {c : Code} {G : Gt} {ρ0 : Int → Nat} {M0 : Mo} {res : RS} (F : Fx p l R s m args meth c cX4_init 2 RX4 G M0 2 none) (hno : ∀ x ∈ c.exceptionTable.toList, False) (hnm : meth.name = yX4_init.name) (x0 : Int) (M : Mo) (h : X4_init x0 M = some res) : J p l e R s m args below meth c 2 G ρ0 M0 0 res M 0 [(0, (false, x0))] [] := by
  unfold X4_init at h
  refine j_aload_n F 0 rfl rfl dX4_init_0 ?_
  obtain ⟨g1, h⟩ := gua h
  refine j_objInit F ⟨q107, q86, q87⟩ g1 (by decide) (Nat.le_of_ble_eq_true rfl) dX4_init_1 ?_
  refine j_aload_n F 0 rfl rfl dX4_init_4 ?_
  refine j_bipush F (by decide) dX4_init_5 ?_
  obtain ⟨g2, h⟩ := gua h
  refine j_newaC F q101 (by decide) g2 dX4_init_7 (fun kl3 => ?_)
  obtain ⟨M4, hM4⟩ : ∃ Z, Z = nA M 1 (wr 6) := ⟨_, rfl⟩
  have g5 : kd M4 (nid M) = 101 := by rw [hM4]; exact kd_nA
  rw [← hM4] at kl3 ⊢
  replace h := pt_as h hM4
  obtain ⟨g6, h⟩ := gua h
  refine j_putF (ty := .array .char) F ft_X4_9 rfl rfl hnm rfl tyX4 tyX4_ok nmX4 (by decide +kernel) (nf_ref (Or.inr ⟨_, rfl⟩) _) g6 dX4_init_9 ?_
  obtain ⟨M7, hM7⟩ : ∃ Z, Z = sF M4 5 0 x0 (nid M) := ⟨_, rfl⟩
  have kl8 : kle M4 M7 := by rw [hM7]; exact kle_sF
  rw [← hM7]
  replace h := pt_as h hM7
  refine j_aload_n F 0 rfl rfl dX4_init_12 ?_
  refine j_bipush F (by decide) dX4_init_13 ?_
  obtain ⟨g9, h⟩ := gua h
  refine j_newaI F q133 (by decide) g9 dX4_init_15 (fun kl10 => ?_)
  obtain ⟨M11, hM11⟩ : ∃ Z, Z = nA M7 0 (wr 6) := ⟨_, rfl⟩
  have g12 : kd M11 (nid M7) = 100 := by rw [hM11]; exact kd_nA
  rw [← hM11] at kl10 ⊢
  replace h := pt_as h hM11
  refine j_putF (ty := .array .int) F ft_X4_15 rfl rfl hnm rfl tyX4 tyX4_ok nmX4 (by decide +kernel) (nf_ref (Or.inr ⟨_, rfl⟩) _) (kl10.is (kl8.is g6)) dX4_init_17 ?_
  obtain ⟨M13, hM13⟩ : ∃ Z, Z = sF M11 5 1 x0 (nid M7) := ⟨_, rfl⟩
  have kl14 : kle M11 M13 := by rw [hM13]; exact kle_sF
  rw [← hM13]
  replace h := pt_as h hM13
  refine j_aload_n F 0 rfl rfl dX4_init_20 ?_
  refine j_bipush F (by decide) dX4_init_21 ?_
  obtain ⟨g15, h⟩ := gua h
  refine j_newaI F q133 (by decide) g15 dX4_init_23 (fun kl16 => ?_)
  obtain ⟨M17, hM17⟩ : ∃ Z, Z = nA M13 0 (wr 6) := ⟨_, rfl⟩
  have g18 : kd M17 (nid M13) = 100 := by rw [hM17]; exact kd_nA
  rw [← hM17] at kl16 ⊢
  replace h := pt_as h hM17
  refine j_putF (ty := .array .int) F ft_X4_19 rfl rfl hnm rfl tyX4 tyX4_ok nmX4 (by decide +kernel) (nf_ref (Or.inr ⟨_, rfl⟩) _) (kl16.is (kl14.is (kl10.is (kl8.is g6)))) dX4_init_25 ?_
  obtain ⟨M19, hM19⟩ : ∃ Z, Z = sF M17 5 2 x0 (nid M13) := ⟨_, rfl⟩
  have kl20 : kle M17 M19 := by rw [hM19]; exact kle_sF
  rw [← hM19]
  replace h := pt_as h hM19
  refine j_aload_n F 0 rfl rfl dX4_init_28 ?_
  refine j_bipush F (by decide) dX4_init_29 ?_
  obtain ⟨g21, h⟩ := gua h
  refine j_newaI F q133 (by decide) g21 dX4_init_31 (fun kl22 => ?_)
  obtain ⟨M23, hM23⟩ : ∃ Z, Z = nA M19 0 (wr 6) := ⟨_, rfl⟩
  have g24 : kd M23 (nid M19) = 100 := by rw [hM23]; exact kd_nA
  rw [← hM23] at kl22 ⊢
  replace h := pt_as h hM23
  refine j_putF (ty := .array .int) F ft_X4_22 rfl rfl hnm rfl tyX4 tyX4_ok nmX4 (by decide +kernel) (nf_ref (Or.inr ⟨_, rfl⟩) _) (kl22.is (kl20.is (kl16.is (kl14.is (kl10.is (kl8.is g6)))))) dX4_init_33 ?_
  obtain ⟨M25, hM25⟩ : ∃ Z, Z = sF M23 5 3 x0 (nid M19) := ⟨_, rfl⟩
  have kl26 : kle M23 M25 := by rw [hM25]; exact kle_sF
  rw [← hM25]
  replace h := pt_as h hM25
  refine j_aload_n F 0 rfl rfl dX4_init_36 ?_
  refine j_bipush F (by decide) dX4_init_37 ?_
  obtain ⟨g27, h⟩ := gua h
  refine j_anewa F 11 4 (by decide) rfl q108 F.2.2.2.2.2.1.1.1.1 (by decide) g27 dX4_init_39 (fun kl28 => ?_)
  obtain ⟨M29, hM29⟩ : ∃ Z, Z = nA M25 11 (wr 6) := ⟨_, rfl⟩
  have g30 : kd M29 (nid M25) = 111 := by rw [hM29]; exact kd_nA
  rw [← hM29] at kl28 ⊢
  replace h := pt_as h hM29
  refine j_putF (ty := .array (.object "ToolPlex$Text")) F ft_X4_27 rfl rfl hnm rfl tyX4 tyX4_ok nmX4 (by decide +kernel) (nf_ref (Or.inr ⟨_, rfl⟩) _) (kl28.is (kl26.is (kl22.is (kl20.is (kl16.is (kl14.is (kl10.is (kl8.is g6)))))))) dX4_init_42 ?_
  obtain ⟨M31, hM31⟩ : ∃ Z, Z = sF M29 5 4 x0 (nid M25) := ⟨_, rfl⟩
  have kl32 : kle M29 M31 := by rw [hM31]; exact kle_sF
  rw [← hM31]
  replace h := pt_as h hM31
  refine j_aload_n F 0 rfl rfl dX4_init_45 ?_
  obtain ⟨g33, h⟩ := gua h
  refine j_new (ci := 11) F inGX10 tyX10 tyX10_ok q108 q89 q54 rfl (by decide) dfX10 g33 dX4_init_46 (fun kl34 => ?_)
  obtain ⟨M35, hM35⟩ : ∃ Z, Z = nO M31 11 2 := ⟨_, rfl⟩
  have g36 : kd M35 (nid M31) = 12 := by rw [hM35]; exact kd_nO
  rw [← hM35] at kl34 ⊢
  replace h := pt_as h hM35
  refine j_dup F dX4_init_49 ?_
  refine j_callIN (d' := 1) (argl := []) (rk9 := 0) (st := [(false, (nid M31)), (false, x0)]) F M_X10_init q91 rfl q110 ⟨by decide, by decide⟩ (Nat.le_of_ble_eq_true rfl) (by decide) (by rw [g36]; decide) dX4_init_50 rfl h (fun z hz => c_X10_init l F.ht G (nid M31) M35 z hz) (fun v37 M38 h kl39 => ?_)
  refine j_st (st' := [(false, (nid M31)), (false, x0)]) rfl ?_
  refine j_putF (ty := .object "ToolPlex$Text") F ft_X4_32 rfl rfl hnm rfl tyX4 tyX4_ok nmX4 (by decide +kernel) (nf_ref (Or.inl ⟨_, rfl⟩) _) (kl39.is (kl34.is (kl32.is (kl28.is (kl26.is (kl22.is (kl20.is (kl16.is (kl14.is (kl10.is (kl8.is g6))))))))))) dX4_init_53 ?_
  obtain ⟨M40, hM40⟩ : ∃ Z, Z = sF M38 5 5 x0 (nid M31) := ⟨_, rfl⟩
  have kl41 : kle M38 M40 := by rw [hM40]; exact kle_sF
  rw [← hM40]
  replace h := pt_as h hM40
  refine j_iconst F dX4_init_56 ?_
  refine j_istore_n F (lv' := [(1, (true, 0)), (0, (false, x0))]) rfl (by decide) rfl dX4_init_57 ?_
  refine j_sub (lv' := [(0, (false, x0)), (1, (true, 0))]) [1, 0] rfl ?_
  exact w_X4_init_58 F hno hnm FU x0 0 M40 h
theorem c_X4_init (l : Launch) (hl : l.stackTraces = false) (G : Gt) (x0 : Int) (M : Mo) (z : RS) (h : X4_init x0 M = some z) : CT l G yX4_init (cn yX4_init cX4_init 2 none) 2 [(false, x0)] M 0 z :=
  ctOf hl (by decide) (Nat.le_of_ble_eq_true rfl) (fun p e R s m args below meth c ρ F hno hnm => w_X4_init_0 F hno hnm x0 M h)
theorem dX4_size_0 : decode cX4_size 0 = .ok (.aload_n 0, 1) := by decide +kernel
set_option maxRecDepth 100000 in
theorem q117 : Cond.fieldLink RX4 36 "ToolPlex$Files" "count" "I" ∈ GT := gt 117 (by decide +kernel) (by decide +kernel)
theorem ft_X4_36 : FT RX4 36 RX4 5 RX4 TX4 7 6 := ⟨rfl, by decide, by decide, q117, Or.inl rfl, inGX4⟩
theorem dX4_size_1 : decode cX4_size 1 = .ok (.getfield 36, 3) := by decide +kernel
theorem dX4_size_4 : decode cX4_size 4 = .ok (.ireturn, 1) := by decide +kernel
set_option maxHeartbeats 4000000 in
set_option maxRecDepth 100000 in
theorem w_X4_size_0 {p : Program} {l : Launch} {e : Env} {R : Room} {s : State} {m : MethodId} {args : Array Value} {below : List Frame} {meth : Method} {c : Code} {G : Gt} {ρ0 : Int → Nat} {M0 : Mo} {res : RS} (F : Fx p l R s m args meth c cX4_size 1 RX4 G M0 0 (some FieldType.int)) (hno : ∀ x ∈ c.exceptionTable.toList, False) (hnm : meth.name = yX4_size.name) (x0 : Int) (M : Mo) (h : X4_size x0 M = some res) : J p l e R s m args below meth c 1 G ρ0 M0 1 res M 0 [(0, (false, x0))] [] := by
  unfold X4_size at h
  refine j_aload_n F 0 rfl rfl dX4_size_0 ?_
  obtain ⟨g1, h⟩ := gua h
  refine j_get F ft_X4_36 rfl g1 dX4_size_1 ?_
  exact j_iret F h dX4_size_4
theorem c_X4_size (l : Launch) (hl : l.stackTraces = false) (G : Gt) (x0 : Int) (M : Mo) (z : RS) (h : X4_size x0 M = some z) : CT l G yX4_size (cn yX4_size cX4_size 1 (some FieldType.int)) 0 [(false, x0)] M 1 z :=
  ctOf hl (by decide) (Nat.le_of_ble_eq_true rfl) (fun p e R s m args below meth c ρ F hno hnm => w_X4_size_0 F hno hnm x0 M h)
theorem dX4_has_0 : decode cX4_has 0 = .ok (.iload_n 1, 1) := by decide +kernel
theorem dX4_has_1 : decode cX4_has 1 = .ok (.ifCond .lt 21, 3) := by decide +kernel
theorem dX4_has_22 : decode cX4_has 22 = .ok (.iconst 0, 1) := by decide +kernel
theorem dX4_has_23 : decode cX4_has 23 = .ok (.ireturn, 1) := by decide +kernel
theorem dX4_has_4 : decode cX4_has 4 = .ok (.iload_n 1, 1) := by decide +kernel
theorem dX4_has_5 : decode cX4_has 5 = .ok (.aload_n 0, 1) := by decide +kernel
theorem dX4_has_6 : decode cX4_has 6 = .ok (.getfield 36, 3) := by decide +kernel
theorem dX4_has_9 : decode cX4_has 9 = .ok (.if_icmp .ge 13, 3) := by decide +kernel
theorem dX4_has_12 : decode cX4_has 12 = .ok (.iload_n 1, 1) := by decide +kernel
theorem dX4_has_13 : decode cX4_has 13 = .ok (.bipush 6, 2) := by decide +kernel
theorem dX4_has_15 : decode cX4_has 15 = .ok (.if_icmp .ge 7, 3) := by decide +kernel
theorem dX4_has_18 : decode cX4_has 18 = .ok (.iconst 1, 1) := by decide +kernel
theorem dX4_has_19 : decode cX4_has 19 = .ok (.goto 4, 3) := by decide +kernel
set_option maxHeartbeats 4000000 in
set_option maxRecDepth 100000 in
theorem w_X4_has_0 {p : Program} {l : Launch} {e : Env} {R : Room} {s : State} {m : MethodId} {args : Array Value} {below : List Frame} {meth : Method} {c : Code} {G : Gt} {ρ0 : Int → Nat} {M0 : Mo} {res : RS} (F : Fx p l R s m args meth c cX4_has 2 RX4 G M0 0 (some FieldType.boolean)) (hno : ∀ x ∈ c.exceptionTable.toList, False) (hnm : meth.name = yX4_has.name) (x0 x1 : Int) (M : Mo) (h : X4_has x0 x1 M = some res) : J p l e R s m args below meth c 2 G ρ0 M0 1 res M 0 [(0, (false, x0)), (1, (true, x1))] [] := by
  unfold X4_has at h
  refine j_iload_n F 1 rfl rfl dX4_has_0 ?_
  refine j_if_lt F 22 (by decide) dX4_has_1 h (fun h => ?_) (fun h => ?_)
  · skip
    refine j_iconst F dX4_has_22 ?_
    exact j_zret F (by decide) h dX4_has_23
  · skip
    refine j_iload_n F 1 rfl rfl dX4_has_4 ?_
    refine j_aload_n F 0 rfl rfl dX4_has_5 ?_
    obtain ⟨g1, h⟩ := gua h
    refine j_get F ft_X4_36 rfl g1 dX4_has_6 ?_
    refine j_icmp_ge F 22 (by decide) dX4_has_9 h (fun h => ?_) (fun h => ?_)
    · skip
      refine j_iconst F dX4_has_22 ?_
      exact j_zret F (by decide) h dX4_has_23
    · skip
      refine j_iload_n F 1 rfl rfl dX4_has_12 ?_
      refine j_bipush F (by decide) dX4_has_13 ?_
      refine j_icmp_ge F 22 (by decide) dX4_has_15 h (fun h => ?_) (fun h => ?_)
      · skip
        refine j_iconst F dX4_has_22 ?_
        exact j_zret F (by decide) h dX4_has_23
      · skip
        refine j_iconst F dX4_has_18 ?_
        refine j_goto F 23 (by decide) dX4_has_19 ?_
        exact j_zret F (by decide) h dX4_has_23
theorem c_X4_has (l : Launch) (hl : l.stackTraces = false) (G : Gt) (x0 x1 : Int) (M : Mo) (z : RS) (h : X4_has x0 x1 M = some z) : CT l G yX4_has (cn yX4_has cX4_has 2 (some FieldType.boolean)) 0 [(false, x0), (true, x1)] M 1 z :=
  ctOf hl (by decide) (Nat.le_of_ble_eq_true rfl) (fun p e R s m args below meth c ρ F hno hnm => w_X4_has_0 F hno hnm x0 x1 M h)
theorem dX4_isFull_0 : decode cX4_isFull 0 = .ok (.aload_n 0, 1) := by decide +kernel
theorem dX4_isFull_1 : decode cX4_isFull 1 = .ok (.getfield 36, 3) := by decide +kernel
theorem dX4_isFull_4 : decode cX4_isFull 4 = .ok (.bipush 6, 2) := by decide +kernel
theorem dX4_isFull_6 : decode cX4_isFull 6 = .ok (.if_icmp .lt 7, 3) := by decide +kernel
theorem dX4_isFull_13 : decode cX4_isFull 13 = .ok (.iconst 0, 1) := by decide +kernel
theorem dX4_isFull_14 : decode cX4_isFull 14 = .ok (.ireturn, 1) := by decide +kernel
theorem dX4_isFull_9 : decode cX4_isFull 9 = .ok (.iconst 1, 1) := by decide +kernel
theorem dX4_isFull_10 : decode cX4_isFull 10 = .ok (.goto 4, 3) := by decide +kernel
set_option maxHeartbeats 4000000 in
set_option maxRecDepth 100000 in
theorem w_X4_isFull_0 {p : Program} {l : Launch} {e : Env} {R : Room} {s : State} {m : MethodId} {args : Array Value} {below : List Frame} {meth : Method} {c : Code} {G : Gt} {ρ0 : Int → Nat} {M0 : Mo} {res : RS} (F : Fx p l R s m args meth c cX4_isFull 1 RX4 G M0 0 (some FieldType.boolean)) (hno : ∀ x ∈ c.exceptionTable.toList, False) (hnm : meth.name = yX4_isFull.name) (x0 : Int) (M : Mo) (h : X4_isFull x0 M = some res) : J p l e R s m args below meth c 1 G ρ0 M0 1 res M 0 [(0, (false, x0))] [] := by
  unfold X4_isFull at h
  refine j_aload_n F 0 rfl rfl dX4_isFull_0 ?_
  obtain ⟨g1, h⟩ := gua h
  refine j_get F ft_X4_36 rfl g1 dX4_isFull_1 ?_
  refine j_bipush F (by decide) dX4_isFull_4 ?_
  refine j_icmp_lt F 13 (by decide) dX4_isFull_6 h (fun h => ?_) (fun h => ?_)
  · skip
    refine j_iconst F dX4_isFull_13 ?_
    exact j_zret F (by decide) h dX4_isFull_14
  · skip
    refine j_iconst F dX4_isFull_9 ?_
    refine j_goto F 14 (by decide) dX4_isFull_10 ?_
    exact j_zret F (by decide) h dX4_isFull_14
theorem c_X4_isFull (l : Launch) (hl : l.stackTraces = false) (G : Gt) (x0 : Int) (M : Mo) (z : RS) (h : X4_isFull x0 M = some z) : CT l G yX4_isFull (cn yX4_isFull cX4_isFull 1 (some FieldType.boolean)) 0 [(false, x0)] M 1 z :=
  ctOf hl (by decide) (Nat.le_of_ble_eq_true rfl) (fun p e R s m args below meth c ρ F hno hnm => w_X4_isFull_0 F hno hnm x0 M h)
theorem dX4_named_0 : decode cX4_named 0 = .ok (.iconst 0, 1) := by decide +kernel
theorem dX4_named_1 : decode cX4_named 1 = .ok (.istore_n 2, 1) := by decide +kernel
theorem dX4_named_2 : decode cX4_named 2 = .ok (.iload_n 2, 1) := by decide +kernel
theorem dX4_named_3 : decode cX4_named 3 = .ok (.aload_n 0, 1) := by decide +kernel
theorem dX4_named_4 : decode cX4_named 4 = .ok (.getfield 36, 3) := by decide +kernel
theorem dX4_named_7 : decode cX4_named 7 = .ok (.if_icmp .ge 27, 3) := by decide +kernel
theorem dX4_named_34 : decode cX4_named 34 = .ok (.iconst (-1), 1) := by decide +kernel
theorem dX4_named_35 : decode cX4_named 35 = .ok (.ireturn, 1) := by decide +kernel
theorem dX4_named_10 : decode cX4_named 10 = .ok (.iload_n 2, 1) := by decide +kernel
theorem dX4_named_11 : decode cX4_named 11 = .ok (.bipush 6, 2) := by decide +kernel
theorem dX4_named_13 : decode cX4_named 13 = .ok (.if_icmp .ge 21, 3) := by decide +kernel
theorem dX4_named_16 : decode cX4_named 16 = .ok (.aload_n 0, 1) := by decide +kernel
theorem dX4_named_17 : decode cX4_named 17 = .ok (.getfield 9, 3) := by decide +kernel
theorem dX4_named_20 : decode cX4_named 20 = .ok (.iload_n 2, 1) := by decide +kernel
theorem dX4_named_21 : decode cX4_named 21 = .ok (.caload, 1) := by decide +kernel
theorem dX4_named_22 : decode cX4_named 22 = .ok (.iload_n 1, 1) := by decide +kernel
theorem dX4_named_23 : decode cX4_named 23 = .ok (.if_icmp .ne 5, 3) := by decide +kernel
theorem dX4_named_28 : decode cX4_named 28 = .ok (.iinc 2 1, 3) := by decide +kernel
theorem dX4_named_31 : decode cX4_named 31 = .ok (.goto (-29), 3) := by decide +kernel
theorem dX4_named_26 : decode cX4_named 26 = .ok (.iload_n 2, 1) := by decide +kernel
theorem dX4_named_27 : decode cX4_named 27 = .ok (.ireturn, 1) := by decide +kernel
set_option maxHeartbeats 4000000 in
set_option maxRecDepth 100000 in
theorem w_X4_named_2 {p : Program} {l : Launch} {e : Env} {R : Room} {s : State} {m : MethodId} {args : Array Value} {below : List Frame} {meth : Method} {c : Code} {G : Gt} {ρ0 : Int → Nat} {M0 : Mo} {res : RS} (F : Fx p l R s m args meth c cX4_named 3 RX4 G M0 0 (some FieldType.int)) (hno : ∀ x ∈ c.exceptionTable.toList, False) (hnm : meth.name = yX4_named.name) (n : Nat) : ∀ (x0 x1 x2 : Int) (M : Mo), X4_named_2 n x0 x1 x2 M = some res → J p l e R s m args below meth c 3 G ρ0 M0 1 res M 2 [(0, (false, x0)), (1, (true, x1)), (2, (true, x2))] [] := by
  induction n with
  | zero => intro x0 x1 x2 M h; cases h
  | succ n ih =>
    intro x0 x1 x2 M h
    rw [X4_named_2] at h
    refine j_iload_n F 2 rfl rfl dX4_named_2 ?_
    refine j_aload_n F 0 rfl rfl dX4_named_3 ?_
    obtain ⟨g1, h⟩ := gua h
    refine j_get F ft_X4_36 rfl g1 dX4_named_4 ?_
    refine j_icmp_ge F 34 (by decide) dX4_named_7 h (fun h => ?_) (fun h => ?_)
    · skip
      refine j_iconst F dX4_named_34 ?_
      exact j_iret F h dX4_named_35
    · skip
      refine j_iload_n F 2 rfl rfl dX4_named_10 ?_
      refine j_bipush F (by decide) dX4_named_11 ?_
      refine j_icmp_ge F 34 (by decide) dX4_named_13 h (fun h => ?_) (fun h => ?_)
      · skip
        refine j_iconst F dX4_named_34 ?_
        exact j_iret F h dX4_named_35
      · skip
        refine j_aload_n F 0 rfl rfl dX4_named_16 ?_
        refine j_get F ft_X4_9 rfl g1 dX4_named_17 ?_
        refine j_iload_n F 2 rfl rfl dX4_named_20 ?_
        obtain ⟨g2, h⟩ := gua h
        obtain ⟨g3, h⟩ := gua h
        refine j_caload F g2 g3 dX4_named_21 ?_
        refine j_iload_n F 1 rfl rfl dX4_named_22 ?_
        refine j_icmp_ne F 28 (by decide) dX4_named_23 h (fun h => ?_) (fun h => ?_)
        · skip
          refine j_iinc F 2 (lv' := [(2, (true, (x2 + 1))), (0, (false, x0)), (1, (true, x1))]) rfl (by decide) rfl dX4_named_28 ?_
          refine j_goto F 2 (by decide) dX4_named_31 ?_
          refine j_sub (lv' := [(0, (false, x0)), (1, (true, x1)), (2, (true, (x2 + 1)))]) [1, 2, 0] rfl ?_
          exact ih x0 x1 (x2 + 1) M h
        · skip
          refine j_iload_n F 2 rfl rfl dX4_named_26 ?_
          exact j_iret F h dX4_named_27
set_option maxHeartbeats 4000000 in
set_option maxRecDepth 100000 in
theorem w_X4_named_0 {p : Program} {l : Launch} {e : Env} {R : Room} {s : State} {m : MethodId} {args : Array Value} {below : List Frame} {meth : Method} {c : Code} {G : Gt} {ρ0 : Int → Nat} {M0 : Mo} {res : RS} (F : Fx p l R s m args meth c cX4_named 3 RX4 G M0 0 (some FieldType.int)) (hno : ∀ x ∈ c.exceptionTable.toList, False) (hnm : meth.name = yX4_named.name) (x0 x1 : Int) (M : Mo) (h : X4_named x0 x1 M = some res) : J p l e R s m args below meth c 3 G ρ0 M0 1 res M 0 [(0, (false, x0)), (1, (true, x1))] [] := by
  unfold X4_named at h
  refine j_iconst F dX4_named_0 ?_
  refine j_istore_n F (lv' := [(2, (true, 0)), (0, (false, x0)), (1, (true, x1))]) rfl (by decide) rfl dX4_named_1 ?_
  refine j_sub (lv' := [(0, (false, x0)), (1, (true, x1)), (2, (true, 0))]) [1, 2, 0] rfl ?_
  exact w_X4_named_2 F hno hnm FU x0 x1 0 M h
theorem c_X4_named (l : Launch) (hl : l.stackTraces = false) (G : Gt) (x0 x1 : Int) (M : Mo) (z : RS) (h : X4_named x0 x1 M = some z) : CT l G yX4_named (cn yX4_named cX4_named 3 (some FieldType.int)) 0 [(false, x0), (true, x1)] M 1 z :=
  ctOf hl (by decide) (Nat.le_of_ble_eq_true rfl) (fun p e R s m args below meth c ρ F hno hnm => w_X4_named_0 F hno hnm x0 x1 M h)
theorem dX4_add_0 : decode cX4_add 0 = .ok (.aload_n 0, 1) := by decide +kernel
theorem dX4_add_1 : decode cX4_add 1 = .ok (.getfield 36, 3) := by decide +kernel
theorem dX4_add_4 : decode cX4_add 4 = .ok (.bipush 6, 2) := by decide +kernel
theorem dX4_add_6 : decode cX4_add 6 = .ok (.if_icmp .lt 5, 3) := by decide +kernel
theorem dX4_add_11 : decode cX4_add 11 = .ok (.aload_n 0, 1) := by decide +kernel
theorem dX4_add_12 : decode cX4_add 12 = .ok (.getfield 9, 3) := by decide +kernel
theorem dX4_add_15 : decode cX4_add 15 = .ok (.aload_n 0, 1) := by decide +kernel
theorem dX4_add_16 : decode cX4_add 16 = .ok (.getfield 36, 3) := by decide +kernel
theorem dX4_add_19 : decode cX4_add 19 = .ok (.iload_n 1, 1) := by decide +kernel
theorem dX4_add_20 : decode cX4_add 20 = .ok (.i2c, 1) := by decide +kernel
theorem dX4_add_21 : decode cX4_add 21 = .ok (.castore, 1) := by decide +kernel
theorem dX4_add_22 : decode cX4_add 22 = .ok (.aload_n 0, 1) := by decide +kernel
theorem dX4_add_23 : decode cX4_add 23 = .ok (.getfield 15, 3) := by decide +kernel
theorem dX4_add_26 : decode cX4_add 26 = .ok (.aload_n 0, 1) := by decide +kernel
theorem dX4_add_27 : decode cX4_add 27 = .ok (.getfield 36, 3) := by decide +kernel
theorem dX4_add_30 : decode cX4_add 30 = .ok (.iload_n 2, 1) := by decide +kernel
theorem dX4_add_31 : decode cX4_add 31 = .ok (.iastore, 1) := by decide +kernel
theorem dX4_add_32 : decode cX4_add 32 = .ok (.aload_n 0, 1) := by decide +kernel
theorem dX4_add_33 : decode cX4_add 33 = .ok (.dup, 1) := by decide +kernel
theorem dX4_add_34 : decode cX4_add 34 = .ok (.getfield 36, 3) := by decide +kernel
theorem dX4_add_37 : decode cX4_add 37 = .ok (.iconst 1, 1) := by decide +kernel
theorem dX4_add_38 : decode cX4_add 38 = .ok (.iadd, 1) := by decide +kernel
theorem dX4_add_39 : decode cX4_add 39 = .ok (.putfield 36, 3) := by decide +kernel
theorem dX4_add_42 : decode cX4_add 42 = .ok (.aload_n 0, 1) := by decide +kernel
theorem dX4_add_43 : decode cX4_add 43 = .ok (.getfield 36, 3) := by decide +kernel
theorem dX4_add_46 : decode cX4_add 46 = .ok (.iconst 1, 1) := by decide +kernel
theorem dX4_add_47 : decode cX4_add 47 = .ok (.isub, 1) := by decide +kernel
theorem dX4_add_48 : decode cX4_add 48 = .ok (.ireturn, 1) := by decide +kernel
theorem dX4_add_9 : decode cX4_add 9 = .ok (.iconst (-1), 1) := by decide +kernel
theorem dX4_add_10 : decode cX4_add 10 = .ok (.ireturn, 1) := by decide +kernel
set_option maxHeartbeats 4000000 in
set_option maxRecDepth 100000 in
theorem w_X4_add_0 {p : Program} {l : Launch} {e : Env} {R : Room} {s : State} {m : MethodId} {args : Array Value} {below : List Frame} {meth : Method} {c : Code} {G : Gt} {ρ0 : Int → Nat} {M0 : Mo} {res : RS} (F : Fx p l R s m args meth c cX4_add 3 RX4 G M0 0 (some FieldType.int)) (hno : ∀ x ∈ c.exceptionTable.toList, False) (hnm : meth.name = yX4_add.name) (x0 x1 x2 : Int) (M : Mo) (h : X4_add x0 x1 x2 M = some res) : J p l e R s m args below meth c 3 G ρ0 M0 1 res M 0 [(0, (false, x0)), (1, (true, x1)), (2, (true, x2))] [] := by
  unfold X4_add at h
  refine j_aload_n F 0 rfl rfl dX4_add_0 ?_
  obtain ⟨g1, h⟩ := gua h
  refine j_get F ft_X4_36 rfl g1 dX4_add_1 ?_
  refine j_bipush F (by decide) dX4_add_4 ?_
  refine j_icmp_lt F 11 (by decide) dX4_add_6 h (fun h => ?_) (fun h => ?_)
  · skip
    refine j_aload_n F 0 rfl rfl dX4_add_11 ?_
    refine j_get F ft_X4_9 rfl g1 dX4_add_12 ?_
    refine j_aload_n F 0 rfl rfl dX4_add_15 ?_
    refine j_get F ft_X4_36 rfl g1 dX4_add_16 ?_
    refine j_iload_n F 1 rfl rfl dX4_add_19 ?_
    refine j_i2c F dX4_add_20 ?_
    obtain ⟨g2, h⟩ := gua h
    obtain ⟨g3, h⟩ := gua h
    refine j_castore F g2 g3 (fits_n16 _) dX4_add_21 ?_
    obtain ⟨M4, hM4⟩ : ∃ Z, Z = sE M 1 (fd M 5 0 x0) (wr (fd M 5 6 x0)) (n16 (c16 x1)) := ⟨_, rfl⟩
    have kl5 : kle M M4 := by rw [hM4]; exact kle_sE
    rw [← hM4]
    replace h := pt_as h hM4
    refine j_aload_n F 0 rfl rfl dX4_add_22 ?_
    refine j_get F ft_X4_15 rfl (kl5.is g1) dX4_add_23 ?_
    refine j_aload_n F 0 rfl rfl dX4_add_26 ?_
    refine j_get F ft_X4_36 rfl (kl5.is g1) dX4_add_27 ?_
    refine j_iload_n F 2 rfl rfl dX4_add_30 ?_
    obtain ⟨g6, h⟩ := gua h
    obtain ⟨g7, h⟩ := gua h
    refine j_iastore F g6 g7 dX4_add_31 ?_
    obtain ⟨M8, hM8⟩ : ∃ Z, Z = sE M4 0 (fd M4 5 1 x0) (wr (fd M4 5 6 x0)) x2 := ⟨_, rfl⟩
    have kl9 : kle M4 M8 := by rw [hM8]; exact kle_sE
    rw [← hM8]
    replace h := pt_as h hM8
    refine j_aload_n F 0 rfl rfl dX4_add_32 ?_
    refine j_dup F dX4_add_33 ?_
    refine j_get F ft_X4_36 rfl (kl9.is (kl5.is g1)) dX4_add_34 ?_
    refine j_iconst F dX4_add_37 ?_
    refine j_iadd F dX4_add_38 ?_
    refine j_put (ty := .int) F ft_X4_36 rfl rfl tyX4 tyX4_ok nmX4 (by decide +kernel) (nf_int _) (kl9.is (kl5.is g1)) dX4_add_39 ?_
    obtain ⟨M10, hM10⟩ : ∃ Z, Z = sF M8 5 6 x0 ((fd M8 5 6 x0) + 1) := ⟨_, rfl⟩
    have kl11 : kle M8 M10 := by rw [hM10]; exact kle_sF
    rw [← hM10]
    replace h := pt_as h hM10
    refine j_aload_n F 0 rfl rfl dX4_add_42 ?_
    refine j_get F ft_X4_36 rfl (kl11.is (kl9.is (kl5.is g1))) dX4_add_43 ?_
    refine j_iconst F dX4_add_46 ?_
    refine j_isub F dX4_add_47 ?_
    exact j_iret F h dX4_add_48
  · skip
    refine j_iconst F dX4_add_9 ?_
    exact j_iret F h dX4_add_10
theorem c_X4_add (l : Launch) (hl : l.stackTraces = false) (G : Gt) (x0 x1 x2 : Int) (M : Mo) (z : RS) (h : X4_add x0 x1 x2 M = some z) : CT l G yX4_add (cn yX4_add cX4_add 3 (some FieldType.int)) 0 [(false, x0), (true, x1), (true, x2)] M 1 z :=
  ctOf hl (by decide) (Nat.le_of_ble_eq_true rfl) (fun p e R s m args below meth c ρ F hno hnm => w_X4_add_0 F hno hnm x0 x1 x2 M h)
theorem dX4_nameOf_0 : decode cX4_nameOf 0 = .ok (.aload_n 0, 1) := by decide +kernel
theorem dX4_nameOf_1 : decode cX4_nameOf 1 = .ok (.iload_n 1, 1) := by decide +kernel
set_option maxRecDepth 100000 in
theorem q462 : Cond.code yX4_has cX4_has 2 (some FieldType.boolean) ∈ GT := gt 462 (rfl) (by decide +kernel)
set_option maxRecDepth 100000 in
theorem q55 : Cond.initialized RX4 ∈ GT := gt 55 (by decide +kernel) (by decide +kernel)
theorem M_X4_has : MY yX4_has cX4_has 2 (some FieldType.boolean) 1 := ⟨q462, q55, by decide +kernel, by decide +kernel⟩
set_option maxRecDepth 100000 in
theorem q460 : Cond.instanceMethod yX4_has ∈ GT := gt 460 (by decide +kernel) (by decide +kernel)
set_option maxRecDepth 100000 in
theorem q461 : Cond.selects RX4 yX4_has yX4_has ∈ GT := gt 461 (by decide +kernel) (by decide +kernel)
set_option maxRecDepth 100000 in
theorem q459 : Cond.methodLink RX4 40 yX4_has ∈ GT := gt 459 (by decide +kernel) (by decide +kernel)
theorem dX4_nameOf_2 : decode cX4_nameOf 2 = .ok (.invokevirtual 40, 3) := by decide +kernel
theorem dX4_nameOf_5 : decode cX4_nameOf 5 = .ok (.ifCond .eq 12, 3) := by decide +kernel
theorem dX4_nameOf_17 : decode cX4_nameOf 17 = .ok (.iconst 0, 1) := by decide +kernel
theorem dX4_nameOf_18 : decode cX4_nameOf 18 = .ok (.ireturn, 1) := by decide +kernel
theorem dX4_nameOf_8 : decode cX4_nameOf 8 = .ok (.aload_n 0, 1) := by decide +kernel
theorem dX4_nameOf_9 : decode cX4_nameOf 9 = .ok (.getfield 9, 3) := by decide +kernel
theorem dX4_nameOf_12 : decode cX4_nameOf 12 = .ok (.iload_n 1, 1) := by decide +kernel
theorem dX4_nameOf_13 : decode cX4_nameOf 13 = .ok (.caload, 1) := by decide +kernel
theorem dX4_nameOf_14 : decode cX4_nameOf 14 = .ok (.goto 4, 3) := by decide +kernel
set_option maxHeartbeats 4000000 in
set_option maxRecDepth 100000 in
theorem w_X4_nameOf_0 {p : Program} {l : Launch} {e : Env} {R : Room} {s : State} {m : MethodId} {args : Array Value} {below : List Frame} {meth : Method} {c : Code} {G : Gt} {ρ0 : Int → Nat} {M0 : Mo} {res : RS} (F : Fx p l R s m args meth c cX4_nameOf 2 RX4 G M0 1 (some FieldType.char)) (hno : ∀ x ∈ c.exceptionTable.toList, False) (hnm : meth.name = yX4_nameOf.name) (x0 x1 : Int) (M : Mo) (h : X4_nameOf x0 x1 M = some res) : J p l e R s m args below meth c 2 G ρ0 M0 1 res M 0 [(0, (false, x0)), (1, (true, x1))] [] := by
  unfold X4_nameOf at h
  refine j_aload_n F 0 rfl rfl dX4_nameOf_0 ?_
  refine j_iload_n F 1 rfl rfl dX4_nameOf_1 ?_
  obtain ⟨g4, h⟩ := gua h
  refine j_callV (d' := 0) (argl := [(true, x1)]) (rk9 := 1) (st := []) F hno M_X4_has q460 q461 q459 ⟨by decide, by decide⟩ (Nat.le_of_ble_eq_true rfl) (by decide) (ci := 5) rfl (by decide) g4 dX4_nameOf_2 rfl h (fun z hz => c_X4_has l F.ht G x0 x1 M z hz) (fun v1 M2 h kl3 => ?_)
  refine j_st (st' := [(true, v1)]) rfl ?_
  refine j_if_eq F 17 (by decide) dX4_nameOf_5 h (fun h => ?_) (fun h => ?_)
  · skip
    refine j_iconst F dX4_nameOf_17 ?_
    exact j_zret F (by decide) h dX4_nameOf_18
  · skip
    refine j_aload_n F 0 rfl rfl dX4_nameOf_8 ?_
    refine j_get F ft_X4_9 rfl (kl3.is g4) dX4_nameOf_9 ?_
    refine j_iload_n F 1 rfl rfl dX4_nameOf_12 ?_
    obtain ⟨g5, h⟩ := gua h
    obtain ⟨g6, h⟩ := gua h
    refine j_caload F g5 g6 dX4_nameOf_13 ?_
    refine j_goto F 18 (by decide) dX4_nameOf_14 ?_
    obtain ⟨g7, h⟩ := gua h
    exact j_zret F (nz_c g7) h dX4_nameOf_18
theorem c_X4_nameOf (l : Launch) (hl : l.stackTraces = false) (G : Gt) (x0 x1 : Int) (M : Mo) (z : RS) (h : X4_nameOf x0 x1 M = some z) : CT l G yX4_nameOf (cn yX4_nameOf cX4_nameOf 2 (some FieldType.char)) 1 [(false, x0), (true, x1)] M 1 z :=
  ctOf hl (by decide) (Nat.le_of_ble_eq_true rfl) (fun p e R s m args below meth c ρ F hno hnm => w_X4_nameOf_0 F hno hnm x0 x1 M h)
theorem dX4_rename_0 : decode cX4_rename 0 = .ok (.aload_n 0, 1) := by decide +kernel
theorem dX4_rename_1 : decode cX4_rename 1 = .ok (.iload_n 1, 1) := by decide +kernel
theorem dX4_rename_2 : decode cX4_rename 2 = .ok (.invokevirtual 40, 3) := by decide +kernel
theorem dX4_rename_5 : decode cX4_rename 5 = .ok (.ifCond .eq 11, 3) := by decide +kernel
theorem dX4_rename_16 : decode cX4_rename 16 = .ok (.return_, 1) := by decide +kernel
theorem dX4_rename_8 : decode cX4_rename 8 = .ok (.aload_n 0, 1) := by decide +kernel
theorem dX4_rename_9 : decode cX4_rename 9 = .ok (.getfield 9, 3) := by decide +kernel
theorem dX4_rename_12 : decode cX4_rename 12 = .ok (.iload_n 1, 1) := by decide +kernel
theorem dX4_rename_13 : decode cX4_rename 13 = .ok (.iload_n 2, 1) := by decide +kernel
theorem dX4_rename_14 : decode cX4_rename 14 = .ok (.i2c, 1) := by decide +kernel
theorem dX4_rename_15 : decode cX4_rename 15 = .ok (.castore, 1) := by decide +kernel
set_option maxHeartbeats 4000000 in
set_option maxRecDepth 100000 in
theorem w_X4_rename_0 {p : Program} {l : Launch} {e : Env} {R : Room} {s : State} {m : MethodId} {args : Array Value} {below : List Frame} {meth : Method} {c : Code} {G : Gt} {ρ0 : Int → Nat} {M0 : Mo} {res : RS} (F : Fx p l R s m args meth c cX4_rename 3 RX4 G M0 1 none) (hno : ∀ x ∈ c.exceptionTable.toList, False) (hnm : meth.name = yX4_rename.name) (x0 x1 x2 : Int) (M : Mo) (h : X4_rename x0 x1 x2 M = some res) : J p l e R s m args below meth c 3 G ρ0 M0 0 res M 0 [(0, (false, x0)), (1, (true, x1)), (2, (true, x2))] [] := by
  unfold X4_rename at h
  refine j_aload_n F 0 rfl rfl dX4_rename_0 ?_
  refine j_iload_n F 1 rfl rfl dX4_rename_1 ?_
  obtain ⟨g4, h⟩ := gua h
  refine j_callV (d' := 0) (argl := [(true, x1)]) (rk9 := 1) (st := []) F hno M_X4_has q460 q461 q459 ⟨by decide, by decide⟩ (Nat.le_of_ble_eq_true rfl) (by decide) (ci := 5) rfl (by decide) g4 dX4_rename_2 rfl h (fun z hz => c_X4_has l F.ht G x0 x1 M z hz) (fun v1 M2 h kl3 => ?_)
  refine j_st (st' := [(true, v1)]) rfl ?_
  refine j_if_eq F 16 (by decide) dX4_rename_5 h (fun h => ?_) (fun h => ?_)
  · skip
    exact j_vret F (v := 0) h dX4_rename_16
  · skip
    refine j_aload_n F 0 rfl rfl dX4_rename_8 ?_
    refine j_get F ft_X4_9 rfl (kl3.is g4) dX4_rename_9 ?_
    refine j_iload_n F 1 rfl rfl dX4_rename_12 ?_
    refine j_iload_n F 2 rfl rfl dX4_rename_13 ?_
    refine j_i2c F dX4_rename_14 ?_
    obtain ⟨g5, h⟩ := gua h
    obtain ⟨g6, h⟩ := gua h
    refine j_castore F g5 g6 (fits_n16 _) dX4_rename_15 ?_
    obtain ⟨M7, hM7⟩ : ∃ Z, Z = sE M2 1 (fd M2 5 0 x0) (wr x1) (n16 (c16 x2)) := ⟨_, rfl⟩
    have kl8 : kle M2 M7 := by rw [hM7]; exact kle_sE
    rw [← hM7]
    replace h := pt_as h hM7
    exact j_vret F (v := 0) h dX4_rename_16
theorem c_X4_rename (l : Launch) (hl : l.stackTraces = false) (G : Gt) (x0 x1 x2 : Int) (M : Mo) (z : RS) (h : X4_rename x0 x1 x2 M = some z) : CT l G yX4_rename (cn yX4_rename cX4_rename 3 none) 1 [(false, x0), (true, x1), (true, x2)] M 0 z :=
  ctOf hl (by decide) (Nat.le_of_ble_eq_true rfl) (fun p e R s m args below meth c ρ F hno hnm => w_X4_rename_0 F hno hnm x0 x1 x2 M h)
theorem dX4_languageOf_0 : decode cX4_languageOf 0 = .ok (.aload_n 0, 1) := by decide +kernel
theorem dX4_languageOf_1 : decode cX4_languageOf 1 = .ok (.iload_n 1, 1) := by decide +kernel
theorem dX4_languageOf_2 : decode cX4_languageOf 2 = .ok (.invokevirtual 40, 3) := by decide +kernel
theorem dX4_languageOf_5 : decode cX4_languageOf 5 = .ok (.ifCond .eq 12, 3) := by decide +kernel
theorem dX4_languageOf_17 : decode cX4_languageOf 17 = .ok (.iconst 0, 1) := by decide +kernel
theorem dX4_languageOf_18 : decode cX4_languageOf 18 = .ok (.ireturn, 1) := by decide +kernel
theorem dX4_languageOf_8 : decode cX4_languageOf 8 = .ok (.aload_n 0, 1) := by decide +kernel
theorem dX4_languageOf_9 : decode cX4_languageOf 9 = .ok (.getfield 15, 3) := by decide +kernel
theorem dX4_languageOf_12 : decode cX4_languageOf 12 = .ok (.iload_n 1, 1) := by decide +kernel
theorem dX4_languageOf_13 : decode cX4_languageOf 13 = .ok (.iaload, 1) := by decide +kernel
theorem dX4_languageOf_14 : decode cX4_languageOf 14 = .ok (.goto 4, 3) := by decide +kernel
set_option maxHeartbeats 4000000 in
set_option maxRecDepth 100000 in
theorem w_X4_languageOf_0 {p : Program} {l : Launch} {e : Env} {R : Room} {s : State} {m : MethodId} {args : Array Value} {below : List Frame} {meth : Method} {c : Code} {G : Gt} {ρ0 : Int → Nat} {M0 : Mo} {res : RS} (F : Fx p l R s m args meth c cX4_languageOf 2 RX4 G M0 1 (some FieldType.int)) (hno : ∀ x ∈ c.exceptionTable.toList, False) (hnm : meth.name = yX4_languageOf.name) (x0 x1 : Int) (M : Mo) (h : X4_languageOf x0 x1 M = some res) : J p l e R s m args below meth c 2 G ρ0 M0 1 res M 0 [(0, (false, x0)), (1, (true, x1))] [] := by
  unfold X4_languageOf at h
  refine j_aload_n F 0 rfl rfl dX4_languageOf_0 ?_
  refine j_iload_n F 1 rfl rfl dX4_languageOf_1 ?_
  obtain ⟨g4, h⟩ := gua h
  refine j_callV (d' := 0) (argl := [(true, x1)]) (rk9 := 1) (st := []) F hno M_X4_has q460 q461 q459 ⟨by decide, by decide⟩ (Nat.le_of_ble_eq_true rfl) (by decide) (ci := 5) rfl (by decide) g4 dX4_languageOf_2 rfl h (fun z hz => c_X4_has l F.ht G x0 x1 M z hz) (fun v1 M2 h kl3 => ?_)
  refine j_st (st' := [(true, v1)]) rfl ?_
  refine j_if_eq F 17 (by decide) dX4_languageOf_5 h (fun h => ?_) (fun h => ?_)
  · skip
    refine j_iconst F dX4_languageOf_17 ?_
    exact j_iret F h dX4_languageOf_18
  · skip
    refine j_aload_n F 0 rfl rfl dX4_languageOf_8 ?_
    refine j_get F ft_X4_15 rfl (kl3.is g4) dX4_languageOf_9 ?_
    refine j_iload_n F 1 rfl rfl dX4_languageOf_12 ?_
    obtain ⟨g5, h⟩ := gua h
    obtain ⟨g6, h⟩ := gua h
    refine j_iaload F g5 g6 dX4_languageOf_13 ?_
    refine j_goto F 18 (by decide) dX4_languageOf_14 ?_
    exact j_iret F h dX4_languageOf_18
theorem c_X4_languageOf (l : Launch) (hl : l.stackTraces = false) (G : Gt) (x0 x1 : Int) (M : Mo) (z : RS) (h : X4_languageOf x0 x1 M = some z) : CT l G yX4_languageOf (cn yX4_languageOf cX4_languageOf 2 (some FieldType.int)) 1 [(false, x0), (true, x1)] M 1 z :=
  ctOf hl (by decide) (Nat.le_of_ble_eq_true rfl) (fun p e R s m args below meth c ρ F hno hnm => w_X4_languageOf_0 F hno hnm x0 x1 M h)
theorem dX4_versionOf_0 : decode cX4_versionOf 0 = .ok (.aload_n 0, 1) := by decide +kernel
theorem dX4_versionOf_1 : decode cX4_versionOf 1 = .ok (.iload_n 1, 1) := by decide +kernel
theorem dX4_versionOf_2 : decode cX4_versionOf 2 = .ok (.invokevirtual 40, 3) := by decide +kernel
theorem dX4_versionOf_5 : decode cX4_versionOf 5 = .ok (.ifCond .eq 12, 3) := by decide +kernel
theorem dX4_versionOf_17 : decode cX4_versionOf 17 = .ok (.iconst 0, 1) := by decide +kernel
theorem dX4_versionOf_18 : decode cX4_versionOf 18 = .ok (.ireturn, 1) := by decide +kernel
theorem dX4_versionOf_8 : decode cX4_versionOf 8 = .ok (.aload_n 0, 1) := by decide +kernel
theorem dX4_versionOf_9 : decode cX4_versionOf 9 = .ok (.getfield 19, 3) := by decide +kernel
theorem dX4_versionOf_12 : decode cX4_versionOf 12 = .ok (.iload_n 1, 1) := by decide +kernel
theorem dX4_versionOf_13 : decode cX4_versionOf 13 = .ok (.iaload, 1) := by decide +kernel
theorem dX4_versionOf_14 : decode cX4_versionOf 14 = .ok (.goto 4, 3) := by decide +kernel
set_option maxHeartbeats 4000000 in
set_option maxRecDepth 100000 in
theorem w_X4_versionOf_0 {p : Program} {l : Launch} {e : Env} {R : Room} {s : State} {m : MethodId} {args : Array Value} {below : List Frame} {meth : Method} {c : Code} {G : Gt} {ρ0 : Int → Nat} {M0 : Mo} {res : RS} (F : Fx p l R s m args meth c cX4_versionOf 2 RX4 G M0 1 (some FieldType.int)) (hno : ∀ x ∈ c.exceptionTable.toList, False) (hnm : meth.name = yX4_versionOf.name) (x0 x1 : Int) (M : Mo) (h : X4_versionOf x0 x1 M = some res) : J p l e R s m args below meth c 2 G ρ0 M0 1 res M 0 [(0, (false, x0)), (1, (true, x1))] [] := by
  unfold X4_versionOf at h
  refine j_aload_n F 0 rfl rfl dX4_versionOf_0 ?_
  refine j_iload_n F 1 rfl rfl dX4_versionOf_1 ?_
  obtain ⟨g4, h⟩ := gua h
  refine j_callV (d' := 0) (argl := [(true, x1)]) (rk9 := 1) (st := []) F hno M_X4_has q460 q461 q459 ⟨by decide, by decide⟩ (Nat.le_of_ble_eq_true rfl) (by decide) (ci := 5) rfl (by decide) g4 dX4_versionOf_2 rfl h (fun z hz => c_X4_has l F.ht G x0 x1 M z hz) (fun v1 M2 h kl3 => ?_)
  refine j_st (st' := [(true, v1)]) rfl ?_
  refine j_if_eq F 17 (by decide) dX4_versionOf_5 h (fun h => ?_) (fun h => ?_)
  · skip
    refine j_iconst F dX4_versionOf_17 ?_
    exact j_iret F h dX4_versionOf_18
  · skip
    refine j_aload_n F 0 rfl rfl dX4_versionOf_8 ?_
    refine j_get F ft_X4_19 rfl (kl3.is g4) dX4_versionOf_9 ?_
    refine j_iload_n F 1 rfl rfl dX4_versionOf_12 ?_
    obtain ⟨g5, h⟩ := gua h
    obtain ⟨g6, h⟩ := gua h
    refine j_iaload F g5 g6 dX4_versionOf_13 ?_
    refine j_goto F 18 (by decide) dX4_versionOf_14 ?_
    exact j_iret F h dX4_versionOf_18
theorem c_X4_versionOf (l : Launch) (hl : l.stackTraces = false) (G : Gt) (x0 x1 : Int) (M : Mo) (z : RS) (h : X4_versionOf x0 x1 M = some z) : CT l G yX4_versionOf (cn yX4_versionOf cX4_versionOf 2 (some FieldType.int)) 1 [(false, x0), (true, x1)] M 1 z :=
  ctOf hl (by decide) (Nat.le_of_ble_eq_true rfl) (fun p e R s m args below meth c ρ F hno hnm => w_X4_versionOf_0 F hno hnm x0 x1 M h)
theorem dX4_setVersion_0 : decode cX4_setVersion 0 = .ok (.aload_n 0, 1) := by decide +kernel
theorem dX4_setVersion_1 : decode cX4_setVersion 1 = .ok (.iload_n 1, 1) := by decide +kernel
theorem dX4_setVersion_2 : decode cX4_setVersion 2 = .ok (.invokevirtual 40, 3) := by decide +kernel
theorem dX4_setVersion_5 : decode cX4_setVersion 5 = .ok (.ifCond .eq 10, 3) := by decide +kernel
theorem dX4_setVersion_15 : decode cX4_setVersion 15 = .ok (.return_, 1) := by decide +kernel
theorem dX4_setVersion_8 : decode cX4_setVersion 8 = .ok (.aload_n 0, 1) := by decide +kernel
theorem dX4_setVersion_9 : decode cX4_setVersion 9 = .ok (.getfield 19, 3) := by decide +kernel
theorem dX4_setVersion_12 : decode cX4_setVersion 12 = .ok (.iload_n 1, 1) := by decide +kernel
theorem dX4_setVersion_13 : decode cX4_setVersion 13 = .ok (.iload_n 2, 1) := by decide +kernel
theorem dX4_setVersion_14 : decode cX4_setVersion 14 = .ok (.iastore, 1) := by decide +kernel
set_option maxHeartbeats 4000000 in
set_option maxRecDepth 100000 in
theorem w_X4_setVersion_0 {p : Program} {l : Launch} {e : Env} {R : Room} {s : State} {m : MethodId} {args : Array Value} {below : List Frame} {meth : Method} {c : Code} {G : Gt} {ρ0 : Int → Nat} {M0 : Mo} {res : RS} (F : Fx p l R s m args meth c cX4_setVersion 3 RX4 G M0 1 none) (hno : ∀ x ∈ c.exceptionTable.toList, False) (hnm : meth.name = yX4_setVersion.name) (x0 x1 x2 : Int) (M : Mo) (h : X4_setVersion x0 x1 x2 M = some res) : J p l e R s m args below meth c 3 G ρ0 M0 0 res M 0 [(0, (false, x0)), (1, (true, x1)), (2, (true, x2))] [] := by
  unfold X4_setVersion at h
  refine j_aload_n F 0 rfl rfl dX4_setVersion_0 ?_
  refine j_iload_n F 1 rfl rfl dX4_setVersion_1 ?_
  obtain ⟨g4, h⟩ := gua h
  refine j_callV (d' := 0) (argl := [(true, x1)]) (rk9 := 1) (st := []) F hno M_X4_has q460 q461 q459 ⟨by decide, by decide⟩ (Nat.le_of_ble_eq_true rfl) (by decide) (ci := 5) rfl (by decide) g4 dX4_setVersion_2 rfl h (fun z hz => c_X4_has l F.ht G x0 x1 M z hz) (fun v1 M2 h kl3 => ?_)
  refine j_st (st' := [(true, v1)]) rfl ?_
  refine j_if_eq F 15 (by decide) dX4_setVersion_5 h (fun h => ?_) (fun h => ?_)
  · skip
    exact j_vret F (v := 0) h dX4_setVersion_15
  · skip
    refine j_aload_n F 0 rfl rfl dX4_setVersion_8 ?_
    refine j_get F ft_X4_19 rfl (kl3.is g4) dX4_setVersion_9 ?_
    refine j_iload_n F 1 rfl rfl dX4_setVersion_12 ?_
    refine j_iload_n F 2 rfl rfl dX4_setVersion_13 ?_
    obtain ⟨g5, h⟩ := gua h
    obtain ⟨g6, h⟩ := gua h
    refine j_iastore F g5 g6 dX4_setVersion_14 ?_
    obtain ⟨M7, hM7⟩ : ∃ Z, Z = sE M2 0 (fd M2 5 2 x0) (wr x1) x2 := ⟨_, rfl⟩
    have kl8 : kle M2 M7 := by rw [hM7]; exact kle_sE
    rw [← hM7]
    replace h := pt_as h hM7
    exact j_vret F (v := 0) h dX4_setVersion_15
theorem c_X4_setVersion (l : Launch) (hl : l.stackTraces = false) (G : Gt) (x0 x1 x2 : Int) (M : Mo) (z : RS) (h : X4_setVersion x0 x1 x2 M = some z) : CT l G yX4_setVersion (cn yX4_setVersion cX4_setVersion 3 none) 1 [(false, x0), (true, x1), (true, x2)] M 0 z :=
  ctOf hl (by decide) (Nat.le_of_ble_eq_true rfl) (fun p e R s m args below meth c ρ F hno hnm => w_X4_setVersion_0 F hno hnm x0 x1 x2 M h)
theorem dX4_holderOf_0 : decode cX4_holderOf 0 = .ok (.aload_n 0, 1) := by decide +kernel
theorem dX4_holderOf_1 : decode cX4_holderOf 1 = .ok (.iload_n 1, 1) := by decide +kernel
theorem dX4_holderOf_2 : decode cX4_holderOf 2 = .ok (.invokevirtual 40, 3) := by decide +kernel
theorem dX4_holderOf_5 : decode cX4_holderOf 5 = .ok (.ifCond .eq 12, 3) := by decide +kernel
theorem dX4_holderOf_17 : decode cX4_holderOf 17 = .ok (.iconst (-1), 1) := by decide +kernel
theorem dX4_holderOf_18 : decode cX4_holderOf 18 = .ok (.ireturn, 1) := by decide +kernel
theorem dX4_holderOf_8 : decode cX4_holderOf 8 = .ok (.aload_n 0, 1) := by decide +kernel
theorem dX4_holderOf_9 : decode cX4_holderOf 9 = .ok (.getfield 22, 3) := by decide +kernel
theorem dX4_holderOf_12 : decode cX4_holderOf 12 = .ok (.iload_n 1, 1) := by decide +kernel
theorem dX4_holderOf_13 : decode cX4_holderOf 13 = .ok (.iaload, 1) := by decide +kernel
theorem dX4_holderOf_14 : decode cX4_holderOf 14 = .ok (.goto 4, 3) := by decide +kernel
set_option maxHeartbeats 4000000 in
set_option maxRecDepth 100000 in
theorem w_X4_holderOf_0 {p : Program} {l : Launch} {e : Env} {R : Room} {s : State} {m : MethodId} {args : Array Value} {below : List Frame} {meth : Method} {c : Code} {G : Gt} {ρ0 : Int → Nat} {M0 : Mo} {res : RS} (F : Fx p l R s m args meth c cX4_holderOf 2 RX4 G M0 1 (some FieldType.int)) (hno : ∀ x ∈ c.exceptionTable.toList, False) (hnm : meth.name = yX4_holderOf.name) (x0 x1 : Int) (M : Mo) (h : X4_holderOf x0 x1 M = some res) : J p l e R s m args below meth c 2 G ρ0 M0 1 res M 0 [(0, (false, x0)), (1, (true, x1))] [] := by
  unfold X4_holderOf at h
  refine j_aload_n F 0 rfl rfl dX4_holderOf_0 ?_
  refine j_iload_n F 1 rfl rfl dX4_holderOf_1 ?_
  obtain ⟨g4, h⟩ := gua h
  refine j_callV (d' := 0) (argl := [(true, x1)]) (rk9 := 1) (st := []) F hno M_X4_has q460 q461 q459 ⟨by decide, by decide⟩ (Nat.le_of_ble_eq_true rfl) (by decide) (ci := 5) rfl (by decide) g4 dX4_holderOf_2 rfl h (fun z hz => c_X4_has l F.ht G x0 x1 M z hz) (fun v1 M2 h kl3 => ?_)
  refine j_st (st' := [(true, v1)]) rfl ?_
  refine j_if_eq F 17 (by decide) dX4_holderOf_5 h (fun h => ?_) (fun h => ?_)
  · skip
    refine j_iconst F dX4_holderOf_17 ?_
    exact j_iret F h dX4_holderOf_18
  · skip
    refine j_aload_n F 0 rfl rfl dX4_holderOf_8 ?_
    refine j_get F ft_X4_22 rfl (kl3.is g4) dX4_holderOf_9 ?_
    refine j_iload_n F 1 rfl rfl dX4_holderOf_12 ?_
    obtain ⟨g5, h⟩ := gua h
    obtain ⟨g6, h⟩ := gua h
    refine j_iaload F g5 g6 dX4_holderOf_13 ?_
    refine j_goto F 18 (by decide) dX4_holderOf_14 ?_
    exact j_iret F h dX4_holderOf_18
theorem c_X4_holderOf (l : Launch) (hl : l.stackTraces = false) (G : Gt) (x0 x1 : Int) (M : Mo) (z : RS) (h : X4_holderOf x0 x1 M = some z) : CT l G yX4_holderOf (cn yX4_holderOf cX4_holderOf 2 (some FieldType.int)) 1 [(false, x0), (true, x1)] M 1 z :=
  ctOf hl (by decide) (Nat.le_of_ble_eq_true rfl) (fun p e R s m args below meth c ρ F hno hnm => w_X4_holderOf_0 F hno hnm x0 x1 M h)
theorem dX4_setHolder_0 : decode cX4_setHolder 0 = .ok (.aload_n 0, 1) := by decide +kernel
theorem dX4_setHolder_1 : decode cX4_setHolder 1 = .ok (.iload_n 1, 1) := by decide +kernel
theorem dX4_setHolder_2 : decode cX4_setHolder 2 = .ok (.invokevirtual 40, 3) := by decide +kernel
theorem dX4_setHolder_5 : decode cX4_setHolder 5 = .ok (.ifCond .eq 10, 3) := by decide +kernel
theorem dX4_setHolder_15 : decode cX4_setHolder 15 = .ok (.return_, 1) := by decide +kernel
theorem dX4_setHolder_8 : decode cX4_setHolder 8 = .ok (.aload_n 0, 1) := by decide +kernel
theorem dX4_setHolder_9 : decode cX4_setHolder 9 = .ok (.getfield 22, 3) := by decide +kernel
theorem dX4_setHolder_12 : decode cX4_setHolder 12 = .ok (.iload_n 1, 1) := by decide +kernel
theorem dX4_setHolder_13 : decode cX4_setHolder 13 = .ok (.iload_n 2, 1) := by decide +kernel
theorem dX4_setHolder_14 : decode cX4_setHolder 14 = .ok (.iastore, 1) := by decide +kernel
set_option maxHeartbeats 4000000 in
set_option maxRecDepth 100000 in
theorem w_X4_setHolder_0 {p : Program} {l : Launch} {e : Env} {R : Room} {s : State} {m : MethodId} {args : Array Value} {below : List Frame} {meth : Method} {c : Code} {G : Gt} {ρ0 : Int → Nat} {M0 : Mo} {res : RS} (F : Fx p l R s m args meth c cX4_setHolder 3 RX4 G M0 1 none) (hno : ∀ x ∈ c.exceptionTable.toList, False) (hnm : meth.name = yX4_setHolder.name) (x0 x1 x2 : Int) (M : Mo) (h : X4_setHolder x0 x1 x2 M = some res) : J p l e R s m args below meth c 3 G ρ0 M0 0 res M 0 [(0, (false, x0)), (1, (true, x1)), (2, (true, x2))] [] := by
  unfold X4_setHolder at h
  refine j_aload_n F 0 rfl rfl dX4_setHolder_0 ?_
  refine j_iload_n F 1 rfl rfl dX4_setHolder_1 ?_
  obtain ⟨g4, h⟩ := gua h
  refine j_callV (d' := 0) (argl := [(true, x1)]) (rk9 := 1) (st := []) F hno M_X4_has q460 q461 q459 ⟨by decide, by decide⟩ (Nat.le_of_ble_eq_true rfl) (by decide) (ci := 5) rfl (by decide) g4 dX4_setHolder_2 rfl h (fun z hz => c_X4_has l F.ht G x0 x1 M z hz) (fun v1 M2 h kl3 => ?_)
  refine j_st (st' := [(true, v1)]) rfl ?_
  refine j_if_eq F 15 (by decide) dX4_setHolder_5 h (fun h => ?_) (fun h => ?_)
  · skip
    exact j_vret F (v := 0) h dX4_setHolder_15
  · skip
    refine j_aload_n F 0 rfl rfl dX4_setHolder_8 ?_
    refine j_get F ft_X4_22 rfl (kl3.is g4) dX4_setHolder_9 ?_
    refine j_iload_n F 1 rfl rfl dX4_setHolder_12 ?_
    refine j_iload_n F 2 rfl rfl dX4_setHolder_13 ?_
    obtain ⟨g5, h⟩ := gua h
    obtain ⟨g6, h⟩ := gua h
    refine j_iastore F g5 g6 dX4_setHolder_14 ?_
    obtain ⟨M7, hM7⟩ : ∃ Z, Z = sE M2 0 (fd M2 5 3 x0) (wr x1) x2 := ⟨_, rfl⟩
    have kl8 : kle M2 M7 := by rw [hM7]; exact kle_sE
    rw [← hM7]
    replace h := pt_as h hM7
    exact j_vret F (v := 0) h dX4_setHolder_15
theorem c_X4_setHolder (l : Launch) (hl : l.stackTraces = false) (G : Gt) (x0 x1 x2 : Int) (M : Mo) (z : RS) (h : X4_setHolder x0 x1 x2 M = some z) : CT l G yX4_setHolder (cn yX4_setHolder cX4_setHolder 3 none) 1 [(false, x0), (true, x1), (true, x2)] M 0 z :=
  ctOf hl (by decide) (Nat.le_of_ble_eq_true rfl) (fun p e R s m args below meth c ρ F hno hnm => w_X4_setHolder_0 F hno hnm x0 x1 x2 M h)
theorem dX4_isAnyHeld_0 : decode cX4_isAnyHeld 0 = .ok (.iconst 0, 1) := by decide +kernel
theorem dX4_isAnyHeld_1 : decode cX4_isAnyHeld 1 = .ok (.istore_n 1, 1) := by decide +kernel
theorem dX4_isAnyHeld_2 : decode cX4_isAnyHeld 2 = .ok (.iload_n 1, 1) := by decide +kernel
theorem dX4_isAnyHeld_3 : decode cX4_isAnyHeld 3 = .ok (.aload_n 0, 1) := by decide +kernel
theorem dX4_isAnyHeld_4 : decode cX4_isAnyHeld 4 = .ok (.getfield 36, 3) := by decide +kernel
theorem dX4_isAnyHeld_7 : decode cX4_isAnyHeld 7 = .ok (.if_icmp .ge 20, 3) := by decide +kernel
theorem dX4_isAnyHeld_27 : decode cX4_isAnyHeld 27 = .ok (.iconst 0, 1) := by decide +kernel
theorem dX4_isAnyHeld_28 : decode cX4_isAnyHeld 28 = .ok (.ireturn, 1) := by decide +kernel
theorem dX4_isAnyHeld_10 : decode cX4_isAnyHeld 10 = .ok (.aload_n 0, 1) := by decide +kernel
theorem dX4_isAnyHeld_11 : decode cX4_isAnyHeld 11 = .ok (.iload_n 1, 1) := by decide +kernel
set_option maxRecDepth 100000 in
theorem q458 : Cond.code yX4_holderOf cX4_holderOf 2 (some FieldType.int) ∈ GT := gt 458 (rfl) (by decide +kernel)
theorem M_X4_holderOf : MY yX4_holderOf cX4_holderOf 2 (some FieldType.int) 1 := ⟨q458, q55, by decide +kernel, by decide +kernel⟩
set_option maxRecDepth 100000 in
theorem q456 : Cond.instanceMethod yX4_holderOf ∈ GT := gt 456 (by decide +kernel) (by decide +kernel)
set_option maxRecDepth 100000 in
theorem q457 : Cond.selects RX4 yX4_holderOf yX4_holderOf ∈ GT := gt 457 (by decide +kernel) (by decide +kernel)
set_option maxRecDepth 100000 in
theorem q455 : Cond.methodLink RX4 44 yX4_holderOf ∈ GT := gt 455 (by decide +kernel) (by decide +kernel)
theorem dX4_isAnyHeld_12 : decode cX4_isAnyHeld 12 = .ok (.invokevirtual 44, 3) := by decide +kernel
theorem dX4_isAnyHeld_15 : decode cX4_isAnyHeld 15 = .ok (.iconst (-1), 1) := by decide +kernel
theorem dX4_isAnyHeld_16 : decode cX4_isAnyHeld 16 = .ok (.if_icmp .eq 5, 3) := by decide +kernel
theorem dX4_isAnyHeld_21 : decode cX4_isAnyHeld 21 = .ok (.iinc 1 1, 3) := by decide +kernel
theorem dX4_isAnyHeld_24 : decode cX4_isAnyHeld 24 = .ok (.goto (-22), 3) := by decide +kernel
theorem dX4_isAnyHeld_19 : decode cX4_isAnyHeld 19 = .ok (.iconst 1, 1) := by decide +kernel
theorem dX4_isAnyHeld_20 : decode cX4_isAnyHeld 20 = .ok (.ireturn, 1) := by decide +kernel
set_option maxHeartbeats 4000000 in
set_option maxRecDepth 100000 in
theorem w_X4_isAnyHeld_2 {p : Program} {l : Launch} {e : Env} {R : Room} {s : State} {m : MethodId} {args : Array Value} {below : List Frame} {meth : Method} {c : Code} {G : Gt} {ρ0 : Int → Nat} {M0 : Mo} {res : RS} (F : Fx p l R s m args meth c cX4_isAnyHeld 2 RX4 G M0 2 (some FieldType.boolean)) (hno : ∀ x ∈ c.exceptionTable.toList, False) (hnm : meth.name = yX4_isAnyHeld.name) (n : Nat) : ∀ (x0 x1 : Int) (M : Mo), X4_isAnyHeld_2 n x0 x1 M = some res → J p l e R s m args below meth c 2 G ρ0 M0 1 res M 2 [(0, (false, x0)), (1, (true, x1))] [] := by
  induction n with
  | zero => intro x0 x1 M h; cases h
  | succ n ih =>
    intro x0 x1 M h
    rw [X4_isAnyHeld_2] at h
    refine j_iload_n F 1 rfl rfl dX4_isAnyHeld_2 ?_
    refine j_aload_n F 0 rfl rfl dX4_isAnyHeld_3 ?_
    obtain ⟨g1, h⟩ := gua h
    refine j_get F ft_X4_36 rfl g1 dX4_isAnyHeld_4 ?_
    refine j_icmp_ge F 27 (by decide) dX4_isAnyHeld_7 h (fun h => ?_) (fun h => ?_)
    · skip
      refine j_iconst F dX4_isAnyHeld_27 ?_
      exact j_zret F (by decide) h dX4_isAnyHeld_28
    · skip
      refine j_aload_n F 0 rfl rfl dX4_isAnyHeld_10 ?_
      refine j_iload_n F 1 rfl rfl dX4_isAnyHeld_11 ?_
      refine j_callV (d' := 1) (argl := [(true, x1)]) (rk9 := 1) (st := []) F hno M_X4_holderOf q456 q457 q455 ⟨by decide, by decide⟩ (Nat.le_of_ble_eq_true rfl) (by decide) (ci := 5) rfl (by decide) g1 dX4_isAnyHeld_12 rfl h (fun z hz => c_X4_holderOf l F.ht G x0 x1 M z hz) (fun v2 M3 h kl4 => ?_)
      refine j_st (st' := [(true, v2)]) rfl ?_
      refine j_iconst F dX4_isAnyHeld_15 ?_
      refine j_icmp_eq F 21 (by decide) dX4_isAnyHeld_16 h (fun h => ?_) (fun h => ?_)
      · skip
        refine j_iinc F 1 (lv' := [(1, (true, (x1 + 1))), (0, (false, x0))]) rfl (by decide) rfl dX4_isAnyHeld_21 ?_
        refine j_goto F 2 (by decide) dX4_isAnyHeld_24 ?_
        refine j_sub (lv' := [(0, (false, x0)), (1, (true, (x1 + 1)))]) [1, 0] rfl ?_
        exact ih x0 (x1 + 1) M3 h
      · skip
        refine j_iconst F dX4_isAnyHeld_19 ?_
        exact j_zret F (by decide) h dX4_isAnyHeld_20
set_option maxHeartbeats 4000000 in
set_option maxRecDepth 100000 in
theorem w_X4_isAnyHeld_0 {p : Program} {l : Launch} {e : Env} {R : Room} {s : State} {m : MethodId} {args : Array Value} {below : List Frame} {meth : Method} {c : Code} {G : Gt} {ρ0 : Int → Nat} {M0 : Mo} {res : RS} (F : Fx p l R s m args meth c cX4_isAnyHeld 2 RX4 G M0 2 (some FieldType.boolean)) (hno : ∀ x ∈ c.exceptionTable.toList, False) (hnm : meth.name = yX4_isAnyHeld.name) (x0 : Int) (M : Mo) (h : X4_isAnyHeld x0 M = some res) : J p l e R s m args below meth c 2 G ρ0 M0 1 res M 0 [(0, (false, x0))] [] := by
  unfold X4_isAnyHeld at h
  refine j_iconst F dX4_isAnyHeld_0 ?_
  refine j_istore_n F (lv' := [(1, (true, 0)), (0, (false, x0))]) rfl (by decide) rfl dX4_isAnyHeld_1 ?_
  refine j_sub (lv' := [(0, (false, x0)), (1, (true, 0))]) [1, 0] rfl ?_
  exact w_X4_isAnyHeld_2 F hno hnm FU x0 0 M h
theorem c_X4_isAnyHeld (l : Launch) (hl : l.stackTraces = false) (G : Gt) (x0 : Int) (M : Mo) (z : RS) (h : X4_isAnyHeld x0 M = some z) : CT l G yX4_isAnyHeld (cn yX4_isAnyHeld cX4_isAnyHeld 2 (some FieldType.boolean)) 2 [(false, x0)] M 1 z :=
  ctOf hl (by decide) (Nat.le_of_ble_eq_true rfl) (fun p e R s m args below meth c ρ F hno hnm => w_X4_isAnyHeld_0 F hno hnm x0 M h)
theorem dX4_textOf_0 : decode cX4_textOf 0 = .ok (.aload_n 0, 1) := by decide +kernel
theorem dX4_textOf_1 : decode cX4_textOf 1 = .ok (.iload_n 1, 1) := by decide +kernel
theorem dX4_textOf_2 : decode cX4_textOf 2 = .ok (.invokevirtual 40, 3) := by decide +kernel
theorem dX4_textOf_5 : decode cX4_textOf 5 = .ok (.ifCond .eq 12, 3) := by decide +kernel
theorem dX4_textOf_17 : decode cX4_textOf 17 = .ok (.aload_n 0, 1) := by decide +kernel
theorem dX4_textOf_18 : decode cX4_textOf 18 = .ok (.getfield 32, 3) := by decide +kernel
theorem dX4_textOf_21 : decode cX4_textOf 21 = .ok (.areturn, 1) := by decide +kernel
theorem dX4_textOf_8 : decode cX4_textOf 8 = .ok (.aload_n 0, 1) := by decide +kernel
theorem dX4_textOf_9 : decode cX4_textOf 9 = .ok (.getfield 27, 3) := by decide +kernel
theorem dX4_textOf_12 : decode cX4_textOf 12 = .ok (.iload_n 1, 1) := by decide +kernel
theorem dX4_textOf_13 : decode cX4_textOf 13 = .ok (.aaload, 1) := by decide +kernel
theorem dX4_textOf_14 : decode cX4_textOf 14 = .ok (.goto 7, 3) := by decide +kernel
set_option maxHeartbeats 4000000 in
set_option maxRecDepth 100000 in
theorem w_X4_textOf_0 {p : Program} {l : Launch} {e : Env} {R : Room} {s : State} {m : MethodId} {args : Array Value} {below : List Frame} {meth : Method} {c : Code} {G : Gt} {ρ0 : Int → Nat} {M0 : Mo} {res : RS} (F : Fx p l R s m args meth c cX4_textOf 2 RX4 G M0 1 (some (FieldType.object "ToolPlex$Text"))) (hno : ∀ x ∈ c.exceptionTable.toList, False) (hnm : meth.name = yX4_textOf.name) (x0 x1 : Int) (M : Mo) (h : X4_textOf x0 x1 M = some res) : J p l e R s m args below meth c 2 G ρ0 M0 2 res M 0 [(0, (false, x0)), (1, (true, x1))] [] := by
  unfold X4_textOf at h
  refine j_aload_n F 0 rfl rfl dX4_textOf_0 ?_
  refine j_iload_n F 1 rfl rfl dX4_textOf_1 ?_
  obtain ⟨g4, h⟩ := gua h
  refine j_callV (d' := 0) (argl := [(true, x1)]) (rk9 := 1) (st := []) F hno M_X4_has q460 q461 q459 ⟨by decide, by decide⟩ (Nat.le_of_ble_eq_true rfl) (by decide) (ci := 5) rfl (by decide) g4 dX4_textOf_2 rfl h (fun z hz => c_X4_has l F.ht G x0 x1 M z hz) (fun v1 M2 h kl3 => ?_)
  refine j_st (st' := [(true, v1)]) rfl ?_
  refine j_if_eq F 17 (by decide) dX4_textOf_5 h (fun h => ?_) (fun h => ?_)
  · skip
    refine j_aload_n F 0 rfl rfl dX4_textOf_17 ?_
    refine j_get F ft_X4_32 rfl (kl3.is g4) dX4_textOf_18 ?_
    exact j_aret F (Or.inl ⟨_, rfl⟩) h dX4_textOf_21
  · skip
    refine j_aload_n F 0 rfl rfl dX4_textOf_8 ?_
    refine j_get F ft_X4_27 rfl (kl3.is g4) dX4_textOf_9 ?_
    refine j_iload_n F 1 rfl rfl dX4_textOf_12 ?_
    obtain ⟨g5, h⟩ := gua h
    obtain ⟨g6, h⟩ := gua h
    refine j_aaload F 11 4 g5 (by decide) rfl g6 dX4_textOf_13 ?_
    refine j_goto F 21 (by decide) dX4_textOf_14 ?_
    exact j_aret F (Or.inl ⟨_, rfl⟩) h dX4_textOf_21
theorem c_X4_textOf (l : Launch) (hl : l.stackTraces = false) (G : Gt) (x0 x1 : Int) (M : Mo) (z : RS) (h : X4_textOf x0 x1 M = some z) : CT l G yX4_textOf (cn yX4_textOf cX4_textOf 2 (some (FieldType.object "ToolPlex$Text"))) 1 [(false, x0), (true, x1)] M 2 z :=
  ctOf hl (by decide) (Nat.le_of_ble_eq_true rfl) (fun p e R s m args below meth c ρ F hno hnm => w_X4_textOf_0 F hno hnm x0 x1 M h)
