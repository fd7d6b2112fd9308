theorem dX3_init_0 : decode cX3_init 0 = .ok (.aload_n 0, 1) := by decide +kernel
set_option maxRecDepth 100000 in
theorem q179 : Cond.methodLink RX3 3 Lib.objectInit ∈ GT := gt 179 (by decide +kernel) (by decide +kernel)
theorem dX3_init_1 : decode cX3_init 1 = .ok (.invokespecial 3, 3) := by decide +kernel
theorem dX3_init_4 : decode cX3_init 4 = .ok (.aload_n 0, 1) := by decide +kernel
theorem dX3_init_5 : decode cX3_init 5 = .ok (.bipush 6, 2) := by decide +kernel
set_option maxRecDepth 100000 in
theorem q180 : Cond.classLink RX3 9 RX2 ∈ GT := gt 180 (by decide +kernel) (by decide +kernel)
theorem dX3_init_7 : decode cX3_init 7 = .ok (.anewarray 9, 3) := by decide +kernel
set_option maxRecDepth 100000 in
theorem q244 : Cond.fieldLink RX3 11 "ToolPlex$Editor" "copies" "[LToolPlex$Copy;" ∈ GT := gt 244 (by decide +kernel) (by decide +kernel)
theorem inGX3 : ∀ w ∈ u_ws RX3 TX3 8, w ∈ GT := gts [249, 251, 253, 255, 257, 259, 261, 263] (by decide +kernel) (by decide +kernel)
theorem ft_X3_11 : FT RX3 11 RX3 4 RX3 TX3 8 3 := ⟨rfl, by decide, by decide, q244, Or.inl rfl, inGX3⟩
theorem dX3_init_10 : decode cX3_init 10 = .ok (.putfield 11, 3) := by decide +kernel
theorem dX3_init_13 : decode cX3_init 13 = .ok (.aload_n 0, 1) := by decide +kernel
theorem dX3_init_14 : decode cX3_init 14 = .ok (.new 9, 3) := by decide +kernel
theorem dX3_init_17 : decode cX3_init 17 = .ok (.dup, 1) := by decide +kernel
set_option maxRecDepth 100000 in
theorem q183 : Cond.methodLinkNest RX3 17 yX2_init "ToolPlex" ∈ GT := gt 183 (by decide +kernel) (by decide +kernel)
theorem dX3_init_18 : decode cX3_init 18 = .ok (.invokespecial 17, 3) := by decide +kernel
set_option maxRecDepth 100000 in
theorem q245 : Cond.fieldLink RX3 18 "ToolPlex$Editor" "nothing" "LToolPlex$Copy;" ∈ GT := gt 245 (by decide +kernel) (by decide +kernel)
theorem ft_X3_18 : FT RX3 18 RX3 4 RX3 TX3 8 4 := ⟨rfl, by decide, by decide, q245, Or.inl rfl, inGX3⟩
theorem dX3_init_21 : decode cX3_init 21 = .ok (.putfield 18, 3) := by decide +kernel
theorem dX3_init_24 : decode cX3_init 24 = .ok (.aload_n 0, 1) := by decide +kernel
theorem dX3_init_25 : decode cX3_init 25 = .ok (.bipush 6, 2) := by decide +kernel
set_option maxRecDepth 100000 in
theorem q224 : Cond.classLink RX3 22 RX5 ∈ GT := gt 224 (by decide +kernel) (by decide +kernel)
theorem dX3_init_27 : decode cX3_init 27 = .ok (.anewarray 22, 3) := by decide +kernel
set_option maxRecDepth 100000 in
theorem q246 : Cond.fieldLink RX3 24 "ToolPlex$Editor" "faults" "[LToolPlex$Items;" ∈ GT := gt 246 (by decide +kernel) (by decide +kernel)
theorem ft_X3_24 : FT RX3 24 RX3 4 RX3 TX3 8 5 := ⟨rfl, by decide, by decide, q246, Or.inl rfl, inGX3⟩
theorem dX3_init_30 : decode cX3_init 30 = .ok (.putfield 24, 3) := by decide +kernel
theorem dX3_init_33 : decode cX3_init 33 = .ok (.aload_n 0, 1) := by decide +kernel
theorem dX3_init_34 : decode cX3_init 34 = .ok (.new 22, 3) := by decide +kernel
theorem dX3_init_37 : decode cX3_init 37 = .ok (.dup, 1) := by decide +kernel
set_option maxRecDepth 100000 in
theorem q227 : Cond.methodLinkNest RX3 28 yX5_init "ToolPlex" ∈ GT := gt 227 (by decide +kernel) (by decide +kernel)
theorem dX3_init_38 : decode cX3_init 38 = .ok (.invokespecial 28, 3) := by decide +kernel
set_option maxRecDepth 100000 in
theorem q247 : Cond.fieldLink RX3 29 "ToolPlex$Editor" "noFaults" "LToolPlex$Items;" ∈ GT := gt 247 (by decide +kernel) (by decide +kernel)
theorem ft_X3_29 : FT RX3 29 RX3 4 RX3 TX3 8 6 := ⟨rfl, by decide, by decide, q247, Or.inl rfl, inGX3⟩
theorem dX3_init_41 : decode cX3_init 41 = .ok (.putfield 29, 3) := by decide +kernel
theorem dX3_init_44 : decode cX3_init 44 = .ok (.aload_n 0, 1) := by decide +kernel
set_option maxRecDepth 100000 in
theorem q239 : Cond.classLink RX3 33 RJx4a65c ∈ GT := gt 239 (by decide +kernel) (by decide +kernel)
theorem dX3_init_45 : decode cX3_init 45 = .ok (.new 33, 3) := by decide +kernel
theorem dX3_init_48 : decode cX3_init 48 = .ok (.dup, 1) := by decide +kernel
set_option maxRecDepth 100000 in
theorem q240 : Cond.methodLink RX3 35 yJx4a65c_init_da8c8 ∈ GT := gt 240 (by decide +kernel) (by decide +kernel)
theorem dX3_init_49 : decode cX3_init 49 = .ok (.invokespecial 35, 3) := by decide +kernel
set_option maxRecDepth 100000 in
theorem q248 : Cond.fieldLink RX3 36 "ToolPlex$Editor" "asks" "Ljava/util/ArrayList;" ∈ GT := gt 248 (by decide +kernel) (by decide +kernel)
theorem ft_X3_36 : FT RX3 36 RX3 4 RX3 TX3 8 7 := ⟨rfl, by decide, by decide, q248, Or.inl rfl, inGX3⟩
theorem dX3_init_52 : decode cX3_init 52 = .ok (.putfield 36, 3) := by decide +kernel
theorem dX3_init_55 : decode cX3_init 55 = .ok (.aload_n 0, 1) := by decide +kernel
theorem dX3_init_56 : decode cX3_init 56 = .ok (.iload_n 1, 1) := by decide +kernel
set_option maxRecDepth 100000 in
theorem q241 : Cond.fieldLink RX3 40 "ToolPlex$Editor" "number" "I" ∈ GT := gt 241 (by decide +kernel) (by decide +kernel)
theorem ft_X3_40 : FT RX3 40 RX3 4 RX3 TX3 8 0 := ⟨rfl, by decide, by decide, q241, Or.inl rfl, inGX3⟩
theorem dX3_init_57 : decode cX3_init 57 = .ok (.putfield 40, 3) := by decide +kernel
theorem dX3_init_60 : decode cX3_init 60 = .ok (.aload_n 0, 1) := by decide +kernel
theorem dX3_init_61 : decode cX3_init 61 = .ok (.aload_n 2, 1) := by decide +kernel
set_option maxRecDepth 100000 in
theorem q242 : Cond.fieldLink RX3 44 "ToolPlex$Editor" "files" "LToolPlex$Files;" ∈ GT := gt 242 (by decide +kernel) (by decide +kernel)
theorem ft_X3_44 : FT RX3 44 RX3 4 RX3 TX3 8 1 := ⟨rfl, by decide, by decide, q242, Or.inl rfl, inGX3⟩
theorem dX3_init_62 : decode cX3_init 62 = .ok (.putfield 44, 3) := by decide +kernel
theorem dX3_init_65 : decode cX3_init 65 = .ok (.aload_n 0, 1) := by decide +kernel
theorem dX3_init_66 : decode cX3_init 66 = .ok (.aload_n 3, 1) := by decide +kernel
set_option maxRecDepth 100000 in
theorem q243 : Cond.fieldLink RX3 48 "ToolPlex$Editor" "out" "LToolPlex$Channel;" ∈ GT := gt 243 (by decide +kernel) (by decide +kernel)
theorem ft_X3_48 : FT RX3 48 RX3 4 RX3 TX3 8 2 := ⟨rfl, by decide, by decide, q243, Or.inl rfl, inGX3⟩
theorem dX3_init_67 : decode cX3_init 67 = .ok (.putfield 48, 3) := by decide +kernel
theorem dX3_init_70 : decode cX3_init 70 = .ok (.iconst 0, 1) := by decide +kernel
theorem dX3_init_71 : decode cX3_init 71 = .ok (.istore 4, 2) := by decide +kernel
theorem dX3_init_73 : decode cX3_init 73 = .ok (.iload 4, 2) := by decide +kernel
theorem dX3_init_75 : decode cX3_init 75 = .ok (.bipush 6, 2) := by decide +kernel
theorem dX3_init_77 : decode cX3_init 77 = .ok (.if_icmp .ge 37, 3) := by decide +kernel
theorem dX3_init_114 : decode cX3_init 114 = .ok (.return_, 1) := by decide +kernel
theorem dX3_init_80 : decode cX3_init 80 = .ok (.aload_n 0, 1) := by decide +kernel
theorem dX3_init_81 : decode cX3_init 81 = .ok (.getfield 11, 3) := by decide +kernel
theorem dX3_init_84 : decode cX3_init 84 = .ok (.iload 4, 2) := by decide +kernel
theorem dX3_init_86 : decode cX3_init 86 = .ok (.new 9, 3) := by decide +kernel
theorem dX3_init_89 : decode cX3_init 89 = .ok (.dup, 1) := by decide +kernel
theorem dX3_init_90 : decode cX3_init 90 = .ok (.invokespecial 17, 3) := by decide +kernel
theorem dX3_init_93 : decode cX3_init 93 = .ok (.aastore, 1) := by decide +kernel
theorem dX3_init_94 : decode cX3_init 94 = .ok (.aload_n 0, 1) := by decide +kernel
theorem dX3_init_95 : decode cX3_init 95 = .ok (.getfield 24, 3) := by decide +kernel
theorem dX3_init_98 : decode cX3_init 98 = .ok (.iload 4, 2) := by decide +kernel
theorem dX3_init_100 : decode cX3_init 100 = .ok (.new 22, 3) := by decide +kernel
theorem dX3_init_103 : decode cX3_init 103 = .ok (.dup, 1) := by decide +kernel
theorem dX3_init_104 : decode cX3_init 104 = .ok (.invokespecial 28, 3) := by decide +kernel
theorem dX3_init_107 : decode cX3_init 107 = .ok (.aastore, 1) := by decide +kernel
theorem dX3_init_108 : decode cX3_init 108 = .ok (.iinc 4 1, 3) := by decide +kernel
theorem dX3_init_111 : decode cX3_init 111 = .ok (.goto (-38), 3) := by decide +kernel
set_option maxHeartbeats 4000000 in
set_option maxRecDepth 100000 in
theorem w_X3_init_73 {p : Program} {l : Launch} {e : Env} {R : Room} {s : State} {m : MethodId} {args : Array Value} {below : List Frame} {meth : Method} {c : Code} {G : Gt} {ρ0 : Int → Nat} {M0 : Mo} {res : RS} (F : Fx p l R s m args meth c cX3_init 5 RX3 G M0 4 none) (hno : ∀ x ∈ c.exceptionTable.toList, False) (hnm : meth.name = yX3_init.name) (n : Nat) : ∀ (x0 x4 : Int) (M : Mo), X3_init_73 n x0 x4 M = some res → J p l e R s m args below meth c 5 G ρ0 M0 0 res M 73 [(0, (false, x0)), (4, (true, x4))] [] := by
  induction n with
  | zero => intro x0 x4 M h; cases h
  | succ n ih =>
    intro x0 x4 M h
    rw [X3_init_73] at h
    refine j_iload F 1 rfl dX3_init_73 ?_
    refine j_bipush F (by decide) dX3_init_75 ?_
    refine j_icmp_ge F 114 (by decide) dX3_init_77 h (fun h => ?_) (fun h => ?_)
    · skip
      exact j_vret F (v := 0) h dX3_init_114
    · skip
      refine j_aload_n F 0 rfl rfl dX3_init_80 ?_
      obtain ⟨g1, h⟩ := gua h
      refine j_get F ft_X3_11 rfl g1 dX3_init_81 ?_
      refine j_iload F 1 rfl dX3_init_84 ?_
      obtain ⟨g2, h⟩ := gua h
      refine j_new (ci := 3) F inGX2 tyX2 tyX2_ok q180 q182 q61 rfl (by decide) dfX2 g2 dX3_init_86 (fun kl3 => ?_)
      obtain ⟨M4, hM4⟩ : ∃ Z, Z = nO M 3 7 := ⟨_, rfl⟩
      have g5 : kd M4 (nid M) = 4 := by rw [hM4]; exact kd_nO
      rw [← hM4] at kl3 ⊢
      replace h := pt_as h hM4
      refine j_dup F dX3_init_89 ?_
      refine j_callIN (d' := 2) (argl := []) (rk9 := 0) (st := [(false, (nid M)), (true, x4), (false, (fd M 4 3 x0))]) F M_X2_init q184 rfl q183 ⟨by decide, by decide⟩ (Nat.le_of_ble_eq_true rfl) (by decide) (by rw [g5]; decide) dX3_init_90 rfl h (fun z hz => c_X2_init l F.ht G (nid M) M4 z hz) (fun v6 M7 h kl8 => ?_)
      refine j_st (st' := [(false, (nid M)), (true, x4), (false, (fd M 4 3 x0))]) rfl ?_
      obtain ⟨g9, h⟩ := gua h
      obtain ⟨g10, h⟩ := gua h
      refine j_aastore F 12 5 3 g9 (by decide) rfl rfl (by decide) rfl g10 (Or.inr (kl8.is g5)) dX3_init_93 ?_
      obtain ⟨M11, hM11⟩ : ∃ Z, Z = sE M7 12 (fd M 4 3 x0) (wr x4) (nid M) := ⟨_, rfl⟩
      have kl12 : kle M7 M11 := by rw [hM11]; exact kle_sE
      rw [← hM11]
      replace h := pt_as h hM11
      refine j_aload_n F 0 rfl rfl dX3_init_94 ?_
      refine j_get F ft_X3_24 rfl (kl12.is (kl8.is (kl3.is g1))) dX3_init_95 ?_
      refine j_iload F 1 rfl dX3_init_98 ?_
      obtain ⟨g13, h⟩ := gua h
      refine j_new (ci := 6) F inGX5 tyX5 tyX5_ok q224 q226 q62 rfl (by decide) dfX5 g13 dX3_init_100 (fun kl14 => ?_)
      obtain ⟨M15, hM15⟩ : ∃ Z, Z = nO M11 6 2 := ⟨_, rfl⟩
      have g16 : kd M15 (nid M11) = 7 := by rw [hM15]; exact kd_nO
      rw [← hM15] at kl14 ⊢
      replace h := pt_as h hM15
      refine j_dup F dX3_init_103 ?_
      refine j_callIN (d' := 1) (argl := []) (rk9 := 0) (st := [(false, (nid M11)), (true, x4), (false, (fd M11 4 5 x0))]) F M_X5_init q228 rfl q227 ⟨by decide, by decide⟩ (Nat.le_of_ble_eq_true rfl) (by decide) (by rw [g16]; decide) dX3_init_104 rfl h (fun z hz => c_X5_init l F.ht G (nid M11) M15 z hz) (fun v17 M18 h kl19 => ?_)
      refine j_st (st' := [(false, (nid M11)), (true, x4), (false, (fd M11 4 5 x0))]) rfl ?_
      obtain ⟨g20, h⟩ := gua h
      obtain ⟨g21, h⟩ := gua h
      refine j_aastore F 13 6 6 g20 (by decide) rfl rfl (by decide) rfl g21 (Or.inr (kl19.is g16)) dX3_init_107 ?_
      obtain ⟨M22, hM22⟩ : ∃ Z, Z = sE M18 13 (fd M11 4 5 x0) (wr x4) (nid M11) := ⟨_, rfl⟩
      have kl23 : kle M18 M22 := by rw [hM22]; exact kle_sE
      rw [← hM22]
      replace h := pt_as h hM22
      refine j_iinc F 1 (lv' := [(4, (true, (x4 + 1))), (0, (false, x0))]) rfl (by decide) rfl dX3_init_108 ?_
      refine j_goto F 73 (by decide) dX3_init_111 ?_
      refine j_sub (lv' := [(0, (false, x0)), (4, (true, (x4 + 1)))]) [1, 0] rfl ?_
      exact ih x0 (x4 + 1) M22 h
set_option maxHeartbeats 4000000 in
set_option maxRecDepth 100000 in
theorem w_X3_init_0 {p : Program} {l : Launch} {e : Env} {R : Room} {s : State} {m : MethodId} {args : Array Value} {below : List Frame} {meth : Method} {c : Code} {G : Gt} {ρ0 : Int → Nat} {M0 : Mo} {res : RS} (F : Fx p l R s m args meth c cX3_init 5 RX3 G M0 4 none) (hno : ∀ x ∈ c.exceptionTable.toList, False) (hnm : meth.name = yX3_init.name) (x0 x1 x2 x3 : Int) (M : Mo) (h : X3_init x0 x1 x2 x3 M = some res) : J p l e R s m args below meth c 5 G ρ0 M0 0 res M 0 [(0, (false, x0)), (1, (true, x1)), (2, (false, x2)), (3, (false, x3))] [] := by
  unfold X3_init at h
  refine j_aload_n F 0 rfl rfl dX3_init_0 ?_
  obtain ⟨g1, h⟩ := gua h
  refine j_objInit F ⟨q179, q86, q87⟩ g1 (by decide) (Nat.le_of_ble_eq_true rfl) dX3_init_1 ?_
  refine j_aload_n F 0 rfl rfl dX3_init_4 ?_
  refine j_bipush F (by decide) dX3_init_5 ?_
  obtain ⟨g2, h⟩ := gua h
  refine j_anewa F 12 5 (by decide) rfl q180 F.2.2.2.2.2.1.1.1.2.1 (by decide) g2 dX3_init_7 (fun kl3 => ?_)
  obtain ⟨M4, hM4⟩ : ∃ Z, Z = nA M 12 (wr 6) := ⟨_, rfl⟩
  have g5 : kd M4 (nid M) = 112 := by rw [hM4]; exact kd_nA
  rw [← hM4] at kl3 ⊢
  replace h := pt_as h hM4
  obtain ⟨g6, h⟩ := gua h
  refine j_putF (ty := .array (.object "ToolPlex$Copy")) F ft_X3_11 rfl rfl hnm rfl tyX3 tyX3_ok nmX3 (by decide +kernel) (nf_ref (Or.inr ⟨_, rfl⟩) _) g6 dX3_init_10 ?_
  obtain ⟨M7, hM7⟩ : ∃ Z, Z = sF M4 4 3 x0 (nid M) := ⟨_, rfl⟩
  have kl8 : kle M4 M7 := by rw [hM7]; exact kle_sF
  rw [← hM7]
  replace h := pt_as h hM7
  refine j_aload_n F 0 rfl rfl dX3_init_13 ?_
  obtain ⟨g9, h⟩ := gua h
  refine j_new (ci := 3) F inGX2 tyX2 tyX2_ok q180 q182 q61 rfl (by decide) dfX2 g9 dX3_init_14 (fun kl10 => ?_)
  obtain ⟨M11, hM11⟩ : ∃ Z, Z = nO M7 3 7 := ⟨_, rfl⟩
  have g12 : kd M11 (nid M7) = 4 := by rw [hM11]; exact kd_nO
  rw [← hM11] at kl10 ⊢
  replace h := pt_as h hM11
  refine j_dup F dX3_init_17 ?_
  refine j_callIN (d' := 2) (argl := []) (rk9 := 0) (st := [(false, (nid M7)), (false, x0)]) F M_X2_init q184 rfl q183 ⟨by decide, by decide⟩ (Nat.le_of_ble_eq_true rfl) (by decide) (by rw [g12]; decide) dX3_init_18 rfl h (fun z hz => c_X2_init l F.ht G (nid M7) M11 z hz) (fun v13 M14 h kl15 => ?_)
  refine j_st (st' := [(false, (nid M7)), (false, x0)]) rfl ?_
  refine j_putF (ty := .object "ToolPlex$Copy") F ft_X3_18 rfl rfl hnm rfl tyX3 tyX3_ok nmX3 (by decide +kernel) (nf_ref (Or.inl ⟨_, rfl⟩) _) (kl15.is (kl10.is (kl8.is g6))) dX3_init_21 ?_
  obtain ⟨M16, hM16⟩ : ∃ Z, Z = sF M14 4 4 x0 (nid M7) := ⟨_, rfl⟩
  have kl17 : kle M14 M16 := by rw [hM16]; exact kle_sF
  rw [← hM16]
  replace h := pt_as h hM16
  refine j_aload_n F 0 rfl rfl dX3_init_24 ?_
  refine j_bipush F (by decide) dX3_init_25 ?_
  obtain ⟨g18, h⟩ := gua h
  refine j_anewa F 13 6 (by decide) rfl q224 F.2.2.2.2.2.1.1.1.2.2.1 (by decide) g18 dX3_init_27 (fun kl19 => ?_)
  obtain ⟨M20, hM20⟩ : ∃ Z, Z = nA M16 13 (wr 6) := ⟨_, rfl⟩
  have g21 : kd M20 (nid M16) = 113 := by rw [hM20]; exact kd_nA
  rw [← hM20] at kl19 ⊢
  replace h := pt_as h hM20
  refine j_putF (ty := .array (.object "ToolPlex$Items")) F ft_X3_24 rfl rfl hnm rfl tyX3 tyX3_ok nmX3 (by decide +kernel) (nf_ref (Or.inr ⟨_, rfl⟩) _) (kl19.is (kl17.is (kl15.is (kl10.is (kl8.is g6))))) dX3_init_30 ?_
  obtain ⟨M22, hM22⟩ : ∃ Z, Z = sF M20 4 5 x0 (nid M16) := ⟨_, rfl⟩
  have kl23 : kle M20 M22 := by rw [hM22]; exact kle_sF
  rw [← hM22]
  replace h := pt_as h hM22
  refine j_aload_n F 0 rfl rfl dX3_init_33 ?_
  obtain ⟨g24, h⟩ := gua h
  refine j_new (ci := 6) F inGX5 tyX5 tyX5_ok q224 q226 q62 rfl (by decide) dfX5 g24 dX3_init_34 (fun kl25 => ?_)
  obtain ⟨M26, hM26⟩ : ∃ Z, Z = nO M22 6 2 := ⟨_, rfl⟩
  have g27 : kd M26 (nid M22) = 7 := by rw [hM26]; exact kd_nO
  rw [← hM26] at kl25 ⊢
  replace h := pt_as h hM26
  refine j_dup F dX3_init_37 ?_
  refine j_callIN (d' := 1) (argl := []) (rk9 := 0) (st := [(false, (nid M22)), (false, x0)]) F M_X5_init q228 rfl q227 ⟨by decide, by decide⟩ (Nat.le_of_ble_eq_true rfl) (by decide) (by rw [g27]; decide) dX3_init_38 rfl h (fun z hz => c_X5_init l F.ht G (nid M22) M26 z hz) (fun v28 M29 h kl30 => ?_)
  refine j_st (st' := [(false, (nid M22)), (false, x0)]) rfl ?_
  refine j_putF (ty := .object "ToolPlex$Items") F ft_X3_29 rfl rfl hnm rfl tyX3 tyX3_ok nmX3 (by decide +kernel) (nf_ref (Or.inl ⟨_, rfl⟩) _) (kl30.is (kl25.is (kl23.is (kl19.is (kl17.is (kl15.is (kl10.is (kl8.is g6)))))))) dX3_init_41 ?_
  obtain ⟨M31, hM31⟩ : ∃ Z, Z = sF M29 4 6 x0 (nid M22) := ⟨_, rfl⟩
  have kl32 : kle M29 M31 := by rw [hM31]; exact kle_sF
  rw [← hM31]
  replace h := pt_as h hM31
  refine j_aload_n F 0 rfl rfl dX3_init_44 ?_
  obtain ⟨g33, h⟩ := gua h
  refine j_new (ci := 0) F inGJx4a65c tyJx4a65c tyJx4a65c_ok q239 q135 q58 rfl (by decide) dfJx4a65c g33 dX3_init_45 (fun kl34 => ?_)
  obtain ⟨M35, hM35⟩ : ∃ Z, Z = nO M31 0 3 := ⟨_, rfl⟩
  have g36 : kd M35 (nid M31) = 1 := by rw [hM35]; exact kd_nO
  rw [← hM35] at kl34 ⊢
  replace h := pt_as h hM35
  refine j_dup F dX3_init_48 ?_
  refine j_callI (d' := 3) (argl := []) (rk9 := 0) (st := [(false, (nid M31)), (false, x0)]) F M_Jx4a65c_init_da8c8 q137 rfl q240 ⟨by decide, by decide⟩ (Nat.le_of_ble_eq_true rfl) (by decide) (by rw [g36]; decide) dX3_init_49 rfl h (fun z hz => c_Jx4a65c_init_da8c8 l F.ht G (nid M31) M35 z hz) (fun v37 M38 h kl39 => ?_)
  refine j_st (st' := [(false, (nid M31)), (false, x0)]) rfl ?_
  refine j_putF (ty := .object "java/util/ArrayList") F ft_X3_36 rfl rfl hnm rfl tyX3 tyX3_ok nmX3 (by decide +kernel) (nf_ref (Or.inl ⟨_, rfl⟩) _) (kl39.is (kl34.is (kl32.is (kl30.is (kl25.is (kl23.is (kl19.is (kl17.is (kl15.is (kl10.is (kl8.is g6))))))))))) dX3_init_52 ?_
  obtain ⟨M40, hM40⟩ : ∃ Z, Z = sF M38 4 7 x0 (nid M31) := ⟨_, rfl⟩
  have kl41 : kle M38 M40 := by rw [hM40]; exact kle_sF
  rw [← hM40]
  replace h := pt_as h hM40
  refine j_aload_n F 0 rfl rfl dX3_init_55 ?_
  refine j_iload_n F 1 rfl rfl dX3_init_56 ?_
  refine j_putF (ty := .int) F ft_X3_40 rfl rfl hnm rfl tyX3 tyX3_ok nmX3 (by decide +kernel) (nf_int _) (kl41.is (kl39.is (kl34.is (kl32.is (kl30.is (kl25.is (kl23.is (kl19.is (kl17.is (kl15.is (kl10.is (kl8.is g6)))))))))))) dX3_init_57 ?_
  obtain ⟨M42, hM42⟩ : ∃ Z, Z = sF M40 4 0 x0 x1 := ⟨_, rfl⟩
  have kl43 : kle M40 M42 := by rw [hM42]; exact kle_sF
  rw [← hM42]
  replace h := pt_as h hM42
  refine j_aload_n F 0 rfl rfl dX3_init_60 ?_
  refine j_aload_n F 2 rfl rfl dX3_init_61 ?_
  refine j_putF (ty := .object "ToolPlex$Files") F ft_X3_44 rfl rfl hnm rfl tyX3 tyX3_ok nmX3 (by decide +kernel) (nf_ref (Or.inl ⟨_, rfl⟩) _) (kl43.is (kl41.is (kl39.is (kl34.is (kl32.is (kl30.is (kl25.is (kl23.is (kl19.is (kl17.is (kl15.is (kl10.is (kl8.is g6))))))))))))) dX3_init_62 ?_
  obtain ⟨M44, hM44⟩ : ∃ Z, Z = sF M42 4 1 x0 x2 := ⟨_, rfl⟩
  have kl45 : kle M42 M44 := by rw [hM44]; exact kle_sF
  rw [← hM44]
  replace h := pt_as h hM44
  refine j_aload_n F 0 rfl rfl dX3_init_65 ?_
  refine j_aload_n F 3 rfl rfl dX3_init_66 ?_
  refine j_putF (ty := .object "ToolPlex$Channel") F ft_X3_48 rfl rfl hnm rfl tyX3 tyX3_ok nmX3 (by decide +kernel) (nf_ref (Or.inl ⟨_, rfl⟩) _) (kl45.is (kl43.is (kl41.is (kl39.is (kl34.is (kl32.is (kl30.is (kl25.is (kl23.is (kl19.is (kl17.is (kl15.is (kl10.is (kl8.is g6)))))))))))))) dX3_init_67 ?_
  obtain ⟨M46, hM46⟩ : ∃ Z, Z = sF M44 4 2 x0 x3 := ⟨_, rfl⟩
  have kl47 : kle M44 M46 := by rw [hM46]; exact kle_sF
  rw [← hM46]
  replace h := pt_as h hM46
  refine j_iconst F dX3_init_70 ?_
  refine j_istore F (lv' := [(4, (true, 0)), (0, (false, x0)), (1, (true, x1)), (2, (false, x2)), (3, (false, x3))]) (by decide) rfl dX3_init_71 ?_
  refine j_sub (lv' := [(0, (false, x0)), (4, (true, 0))]) [1, 0] rfl ?_
  exact w_X3_init_73 F hno hnm FU x0 0 M46 h
theorem c_X3_init (l : Launch) (hl : l.stackTraces = false) (G : Gt) (x0 x1 x2 x3 : Int) (M : Mo) (z : RS) (h : X3_init x0 x1 x2 x3 M = some z) : CT l G yX3_init (cn yX3_init cX3_init 5 none) 4 [(false, x0), (true, x1), (false, x2), (false, x3)] M 0 z :=
  ctOf hl (by decide) (Nat.le_of_ble_eq_true rfl) (fun p e R s m args below meth c ρ F hno hnm => w_X3_init_0 F hno hnm x0 x1 x2 x3 M h)
theorem dX3_copyOf_0 : decode cX3_copyOf 0 = .ok (.iload_n 1, 1) := by decide +kernel
theorem dX3_copyOf_1 : decode cX3_copyOf 1 = .ok (.ifCond .lt 18, 3) := by decide +kernel
theorem dX3_copyOf_19 : decode cX3_copyOf 19 = .ok (.aload_n 0, 1) := by decide +kernel
theorem dX3_copyOf_20 : decode cX3_copyOf 20 = .ok (.getfield 18, 3) := by decide +kernel
theorem dX3_copyOf_23 : decode cX3_copyOf 23 = .ok (.areturn, 1) := by decide +kernel
theorem dX3_copyOf_4 : decode cX3_copyOf 4 = .ok (.iload_n 1, 1) := by decide +kernel
theorem dX3_copyOf_5 : decode cX3_copyOf 5 = .ok (.bipush 6, 2) := by decide +kernel
theorem dX3_copyOf_7 : decode cX3_copyOf 7 = .ok (.if_icmp .ge 12, 3) := by decide +kernel
theorem dX3_copyOf_10 : decode cX3_copyOf 10 = .ok (.aload_n 0, 1) := by decide +kernel
theorem dX3_copyOf_11 : decode cX3_copyOf 11 = .ok (.getfield 11, 3) := by decide +kernel
theorem dX3_copyOf_14 : decode cX3_copyOf 14 = .ok (.iload_n 1, 1) := by decide +kernel
theorem dX3_copyOf_15 : decode cX3_copyOf 15 = .ok (.aaload, 1) := by decide +kernel
theorem dX3_copyOf_16 : decode cX3_copyOf 16 = .ok (.goto 7, 3) := by decide +kernel
set_option maxHeartbeats 4000000 in
set_option maxRecDepth 100000 in
theorem w_X3_copyOf_0 {p : Program} {l : Launch} {e : Env} {R : Room} {s : State} {m : MethodId} {args : Array Value} {below : List Frame} {meth : Method} {c : Code} {G : Gt} {ρ0 : Int → Nat} {M0 : Mo} {res : RS} (F : Fx p l R s m args meth c cX3_copyOf 2 RX3 G M0 0 (some (FieldType.object "ToolPlex$Copy"))) (hno : ∀ x ∈ c.exceptionTable.toList, False) (hnm : meth.name = yX3_copyOf.name) (x0 x1 : Int) (M : Mo) (h : X3_copyOf x0 x1 M = some res) : J p l e R s m args below meth c 2 G ρ0 M0 2 res M 0 [(0, (false, x0)), (1, (true, x1))] [] := by
  unfold X3_copyOf at h
  refine j_iload_n F 1 rfl rfl dX3_copyOf_0 ?_
  refine j_if_lt F 19 (by decide) dX3_copyOf_1 h (fun h => ?_) (fun h => ?_)
  · skip
    refine j_aload_n F 0 rfl rfl dX3_copyOf_19 ?_
    obtain ⟨g1, h⟩ := gua h
    refine j_get F ft_X3_18 rfl g1 dX3_copyOf_20 ?_
    exact j_aret F (Or.inl ⟨_, rfl⟩) h dX3_copyOf_23
  · skip
    refine j_iload_n F 1 rfl rfl dX3_copyOf_4 ?_
    refine j_bipush F (by decide) dX3_copyOf_5 ?_
    refine j_icmp_ge F 19 (by decide) dX3_copyOf_7 h (fun h => ?_) (fun h => ?_)
    · skip
      refine j_aload_n F 0 rfl rfl dX3_copyOf_19 ?_
      obtain ⟨g2, h⟩ := gua h
      refine j_get F ft_X3_18 rfl g2 dX3_copyOf_20 ?_
      exact j_aret F (Or.inl ⟨_, rfl⟩) h dX3_copyOf_23
    · skip
      refine j_aload_n F 0 rfl rfl dX3_copyOf_10 ?_
      obtain ⟨g3, h⟩ := gua h
      refine j_get F ft_X3_11 rfl g3 dX3_copyOf_11 ?_
      refine j_iload_n F 1 rfl rfl dX3_copyOf_14 ?_
      obtain ⟨g4, h⟩ := gua h
      obtain ⟨g5, h⟩ := gua h
      refine j_aaload F 12 5 g4 (by decide) rfl g5 dX3_copyOf_15 ?_
      refine j_goto F 23 (by decide) dX3_copyOf_16 ?_
      exact j_aret F (Or.inl ⟨_, rfl⟩) h dX3_copyOf_23
theorem c_X3_copyOf (l : Launch) (hl : l.stackTraces = false) (G : Gt) (x0 x1 : Int) (M : Mo) (z : RS) (h : X3_copyOf x0 x1 M = some z) : CT l G yX3_copyOf (cn yX3_copyOf cX3_copyOf 2 (some (FieldType.object "ToolPlex$Copy"))) 0 [(false, x0), (true, x1)] M 2 z :=
  ctOf hl (by decide) (Nat.le_of_ble_eq_true rfl) (fun p e R s m args below meth c ρ F hno hnm => w_X3_copyOf_0 F hno hnm x0 x1 M h)
theorem dX3_faultsOf_0 : decode cX3_faultsOf 0 = .ok (.iload_n 1, 1) := by decide +kernel
theorem dX3_faultsOf_1 : decode cX3_faultsOf 1 = .ok (.ifCond .lt 18, 3) := by decide +kernel
theorem dX3_faultsOf_19 : decode cX3_faultsOf 19 = .ok (.aload_n 0, 1) := by decide +kernel
theorem dX3_faultsOf_20 : decode cX3_faultsOf 20 = .ok (.getfield 29, 3) := by decide +kernel
theorem dX3_faultsOf_23 : decode cX3_faultsOf 23 = .ok (.areturn, 1) := by decide +kernel
theorem dX3_faultsOf_4 : decode cX3_faultsOf 4 = .ok (.iload_n 1, 1) := by decide +kernel
theorem dX3_faultsOf_5 : decode cX3_faultsOf 5 = .ok (.bipush 6, 2) := by decide +kernel
theorem dX3_faultsOf_7 : decode cX3_faultsOf 7 = .ok (.if_icmp .ge 12, 3) := by decide +kernel
theorem dX3_faultsOf_10 : decode cX3_faultsOf 10 = .ok (.aload_n 0, 1) := by decide +kernel
theorem dX3_faultsOf_11 : decode cX3_faultsOf 11 = .ok (.getfield 24, 3) := by decide +kernel
theorem dX3_faultsOf_14 : decode cX3_faultsOf 14 = .ok (.iload_n 1, 1) := by decide +kernel
theorem dX3_faultsOf_15 : decode cX3_faultsOf 15 = .ok (.aaload, 1) := by decide +kernel
theorem dX3_faultsOf_16 : decode cX3_faultsOf 16 = .ok (.goto 7, 3) := by decide +kernel
set_option maxHeartbeats 4000000 in
set_option maxRecDepth 100000 in
theorem w_X3_faultsOf_0 {p : Program} {l : Launch} {e : Env} {R : Room} {s : State} {m : MethodId} {args : Array Value} {below : List Frame} {meth : Method} {c : Code} {G : Gt} {ρ0 : Int → Nat} {M0 : Mo} {res : RS} (F : Fx p l R s m args meth c cX3_faultsOf 2 RX3 G M0 0 (some (FieldType.object "ToolPlex$Items"))) (hno : ∀ x ∈ c.exceptionTable.toList, False) (hnm : meth.name = yX3_faultsOf.name) (x0 x1 : Int) (M : Mo) (h : X3_faultsOf x0 x1 M = some res) : J p l e R s m args below meth c 2 G ρ0 M0 2 res M 0 [(0, (false, x0)), (1, (true, x1))] [] := by
  unfold X3_faultsOf at h
  refine j_iload_n F 1 rfl rfl dX3_faultsOf_0 ?_
  refine j_if_lt F 19 (by decide) dX3_faultsOf_1 h (fun h => ?_) (fun h => ?_)
  · skip
    refine j_aload_n F 0 rfl rfl dX3_faultsOf_19 ?_
    obtain ⟨g1, h⟩ := gua h
    refine j_get F ft_X3_29 rfl g1 dX3_faultsOf_20 ?_
    exact j_aret F (Or.inl ⟨_, rfl⟩) h dX3_faultsOf_23
  · skip
    refine j_iload_n F 1 rfl rfl dX3_faultsOf_4 ?_
    refine j_bipush F (by decide) dX3_faultsOf_5 ?_
    refine j_icmp_ge F 19 (by decide) dX3_faultsOf_7 h (fun h => ?_) (fun h => ?_)
    · skip
      refine j_aload_n F 0 rfl rfl dX3_faultsOf_19 ?_
      obtain ⟨g2, h⟩ := gua h
      refine j_get F ft_X3_29 rfl g2 dX3_faultsOf_20 ?_
      exact j_aret F (Or.inl ⟨_, rfl⟩) h dX3_faultsOf_23
    · skip
      refine j_aload_n F 0 rfl rfl dX3_faultsOf_10 ?_
      obtain ⟨g3, h⟩ := gua h
      refine j_get F ft_X3_24 rfl g3 dX3_faultsOf_11 ?_
      refine j_iload_n F 1 rfl rfl dX3_faultsOf_14 ?_
      obtain ⟨g4, h⟩ := gua h
      obtain ⟨g5, h⟩ := gua h
      refine j_aaload F 13 6 g4 (by decide) rfl g5 dX3_faultsOf_15 ?_
      refine j_goto F 23 (by decide) dX3_faultsOf_16 ?_
      exact j_aret F (Or.inl ⟨_, rfl⟩) h dX3_faultsOf_23
theorem c_X3_faultsOf (l : Launch) (hl : l.stackTraces = false) (G : Gt) (x0 x1 : Int) (M : Mo) (z : RS) (h : X3_faultsOf x0 x1 M = some z) : CT l G yX3_faultsOf (cn yX3_faultsOf cX3_faultsOf 2 (some (FieldType.object "ToolPlex$Items"))) 0 [(false, x0), (true, x1)] M 2 z :=
  ctOf hl (by decide) (Nat.le_of_ble_eq_true rfl) (fun p e R s m args below meth c ρ F hno hnm => w_X3_faultsOf_0 F hno hnm x0 x1 M h)
theorem dX3_askAt_0 : decode cX3_askAt 0 = .ok (.iload_n 1, 1) := by decide +kernel
theorem dX3_askAt_1 : decode cX3_askAt 1 = .ok (.ifCond .lt 28, 3) := by decide +kernel
theorem dX3_askAt_29 : decode cX3_askAt 29 = .ok (.aconst_null, 1) := by decide +kernel
theorem dX3_askAt_30 : decode cX3_askAt 30 = .ok (.areturn, 1) := by decide +kernel
theorem dX3_askAt_4 : decode cX3_askAt 4 = .ok (.iload_n 1, 1) := by decide +kernel
theorem dX3_askAt_5 : decode cX3_askAt 5 = .ok (.aload_n 0, 1) := by decide +kernel
theorem dX3_askAt_6 : decode cX3_askAt 6 = .ok (.getfield 36, 3) := by decide +kernel
set_option maxRecDepth 100000 in
theorem q854 : Cond.methodLink RX3 52 yJx4a65c_size_8abf5 ∈ GT := gt 854 (by decide +kernel) (by decide +kernel)
theorem dX3_askAt_9 : decode cX3_askAt 9 = .ok (.invokevirtual 52, 3) := by decide +kernel
theorem dX3_askAt_12 : decode cX3_askAt 12 = .ok (.if_icmp .ge 17, 3) := by decide +kernel
theorem dX3_askAt_15 : decode cX3_askAt 15 = .ok (.aload_n 0, 1) := by decide +kernel
theorem dX3_askAt_16 : decode cX3_askAt 16 = .ok (.getfield 36, 3) := by decide +kernel
theorem dX3_askAt_19 : decode cX3_askAt 19 = .ok (.iload_n 1, 1) := by decide +kernel
set_option maxRecDepth 100000 in
theorem q855 : Cond.methodLink RX3 56 yJx4a65c_get_915e3 ∈ GT := gt 855 (by decide +kernel) (by decide +kernel)
theorem dX3_askAt_20 : decode cX3_askAt 20 = .ok (.invokevirtual 56, 3) := by decide +kernel
set_option maxRecDepth 100000 in
theorem q869 : Cond.classLink RX3 60 RX0 ∈ GT := gt 869 (by decide +kernel) (by decide +kernel)
theorem dX3_askAt_23 : decode cX3_askAt 23 = .ok (.checkcast 60, 3) := by decide +kernel
theorem dX3_askAt_26 : decode cX3_askAt 26 = .ok (.goto 4, 3) := by decide +kernel
set_option maxHeartbeats 4000000 in
set_option maxRecDepth 100000 in
theorem w_X3_askAt_0 {p : Program} {l : Launch} {e : Env} {R : Room} {s : State} {m : MethodId} {args : Array Value} {below : List Frame} {meth : Method} {c : Code} {G : Gt} {ρ0 : Int → Nat} {M0 : Mo} {res : RS} (F : Fx p l R s m args meth c cX3_askAt 2 RX3 G M0 3 (some (FieldType.object "ToolPlex$Ask"))) (hno : ∀ x ∈ c.exceptionTable.toList, False) (hnm : meth.name = yX3_askAt.name) (x0 x1 : Int) (M : Mo) (h : X3_askAt x0 x1 M = some res) : J p l e R s m args below meth c 2 G ρ0 M0 2 res M 0 [(0, (false, x0)), (1, (true, x1))] [] := by
  unfold X3_askAt at h
  refine j_iload_n F 1 rfl rfl dX3_askAt_0 ?_
  refine j_if_lt F 29 (by decide) dX3_askAt_1 h (fun h => ?_) (fun h => ?_)
  · skip
    refine j_null F dX3_askAt_29 ?_
    exact j_aret F (Or.inl ⟨_, rfl⟩) h dX3_askAt_30
  · skip
    refine j_iload_n F 1 rfl rfl dX3_askAt_4 ?_
    refine j_aload_n F 0 rfl rfl dX3_askAt_5 ?_
    obtain ⟨g1, h⟩ := gua h
    refine j_get F ft_X3_36 rfl g1 dX3_askAt_6 ?_
    obtain ⟨g5, h⟩ := gua h
    refine j_callV (d' := 0) (argl := []) (rk9 := 1) (st := [(true, x1)]) F hno M_Jx4a65c_size_8abf5 q448 q449 q854 ⟨by decide, by decide⟩ (Nat.le_of_ble_eq_true rfl) (by decide) (ci := 0) rfl (by decide) g5 dX3_askAt_9 rfl h (fun z hz => c_Jx4a65c_size_8abf5 l F.ht G (fd M 4 7 x0) M z hz) (fun v2 M3 h kl4 => ?_)
    refine j_st (st' := [(true, v2), (true, x1)]) rfl ?_
    refine j_icmp_ge F 29 (by decide) dX3_askAt_12 h (fun h => ?_) (fun h => ?_)
    · skip
      refine j_null F dX3_askAt_29 ?_
      exact j_aret F (Or.inl ⟨_, rfl⟩) h dX3_askAt_30
    · skip
      refine j_aload_n F 0 rfl rfl dX3_askAt_15 ?_
      refine j_get F ft_X3_36 rfl (kl4.is g1) dX3_askAt_16 ?_
      refine j_iload_n F 1 rfl rfl dX3_askAt_19 ?_
      obtain ⟨g9, h⟩ := gua h
      refine j_callV (d' := 2) (argl := [(true, x1)]) (rk9 := 2) (st := []) F hno M_Jx4a65c_get_915e3 q856 q857 q855 ⟨by decide, by decide⟩ (Nat.le_of_ble_eq_true rfl) (by decide) (ci := 0) rfl (by decide) g9 dX3_askAt_20 rfl h (fun z hz => c_Jx4a65c_get_915e3 l F.ht G (fd M3 4 7 x0) x1 M3 z hz) (fun v6 M7 h kl8 => ?_)
      refine j_st (st' := [(false, v6)]) rfl ?_
      obtain ⟨g10, h⟩ := gua h
      refine j_cast F q869 rfl (by decide) g10 dX3_askAt_23 ?_
      refine j_goto F 30 (by decide) dX3_askAt_26 ?_
      exact j_aret F (Or.inl ⟨_, rfl⟩) h dX3_askAt_30
theorem c_X3_askAt (l : Launch) (hl : l.stackTraces = false) (G : Gt) (x0 x1 : Int) (M : Mo) (z : RS) (h : X3_askAt x0 x1 M = some z) : CT l G yX3_askAt (cn yX3_askAt cX3_askAt 2 (some (FieldType.object "ToolPlex$Ask"))) 3 [(false, x0), (true, x1)] M 2 z :=
  ctOf hl (by decide) (Nat.le_of_ble_eq_true rfl) (fun p e R s m args below meth c ρ F hno hnm => w_X3_askAt_0 F hno hnm x0 x1 M h)
theorem dX3_asked_0 : decode cX3_asked 0 = .ok (.aload_n 0, 1) := by decide +kernel
theorem dX3_asked_1 : decode cX3_asked 1 = .ok (.getfield 36, 3) := by decide +kernel
theorem dX3_asked_4 : decode cX3_asked 4 = .ok (.invokevirtual 52, 3) := by decide +kernel
theorem dX3_asked_7 : decode cX3_asked 7 = .ok (.ireturn, 1) := by decide +kernel
set_option maxHeartbeats 4000000 in
set_option maxRecDepth 100000 in
theorem w_X3_asked_0 {p : Program} {l : Launch} {e : Env} {R : Room} {s : State} {m : MethodId} {args : Array Value} {below : List Frame} {meth : Method} {c : Code} {G : Gt} {ρ0 : Int → Nat} {M0 : Mo} {res : RS} (F : Fx p l R s m args meth c cX3_asked 1 RX3 G M0 1 (some FieldType.int)) (hno : ∀ x ∈ c.exceptionTable.toList, False) (hnm : meth.name = yX3_asked.name) (x0 : Int) (M : Mo) (h : X3_asked x0 M = some res) : J p l e R s m args below meth c 1 G ρ0 M0 1 res M 0 [(0, (false, x0))] [] := by
  unfold X3_asked at h
  refine j_aload_n F 0 rfl rfl dX3_asked_0 ?_
  obtain ⟨g1, h⟩ := gua h
  refine j_get F ft_X3_36 rfl g1 dX3_asked_1 ?_
  obtain ⟨g5, h⟩ := gua h
  refine j_callV (d' := 0) (argl := []) (rk9 := 1) (st := []) F hno M_Jx4a65c_size_8abf5 q448 q449 q854 ⟨by decide, by decide⟩ (Nat.le_of_ble_eq_true rfl) (by decide) (ci := 0) rfl (by decide) g5 dX3_asked_4 rfl h (fun z hz => c_Jx4a65c_size_8abf5 l F.ht G (fd M 4 7 x0) M z hz) (fun v2 M3 h kl4 => ?_)
  refine j_st (st' := [(true, v2)]) rfl ?_
  exact j_iret F h dX3_asked_7
theorem c_X3_asked (l : Launch) (hl : l.stackTraces = false) (G : Gt) (x0 : Int) (M : Mo) (z : RS) (h : X3_asked x0 M = some z) : CT l G yX3_asked (cn yX3_asked cX3_asked 1 (some FieldType.int)) 1 [(false, x0)] M 1 z :=
  ctOf hl (by decide) (Nat.le_of_ble_eq_true rfl) (fun p e R s m args below meth c ρ F hno hnm => w_X3_asked_0 F hno hnm x0 M h)
theorem dX3_send_0 : decode cX3_send 0 = .ok (.aload_n 1, 1) := by decide +kernel
theorem dX3_send_1 : decode cX3_send 1 = .ok (.aload_n 0, 1) := by decide +kernel
theorem dX3_send_2 : decode cX3_send 2 = .ok (.getfield 40, 3) := by decide +kernel
set_option maxRecDepth 100000 in
theorem q723 : Cond.fieldLink RX3 62 "ToolPlex$Message" "editor" "I" ∈ GT := gt 723 (by decide +kernel) (by decide +kernel)
theorem ft_X3_62 : FT RX3 62 RX6 7 RX6 TX6 17 2 := ⟨rfl, by decide, by decide, q723, Or.inl rfl, inGX6⟩
theorem dX3_send_5 : decode cX3_send 5 = .ok (.putfield 62, 3) := by decide +kernel
theorem dX3_send_8 : decode cX3_send 8 = .ok (.aload_n 1, 1) := by decide +kernel
theorem dX3_send_9 : decode cX3_send 9 = .ok (.iload_n 2, 1) := by decide +kernel
set_option maxRecDepth 100000 in
theorem q735 : Cond.fieldLink RX3 67 "ToolPlex$Message" "version" "I" ∈ GT := gt 735 (by decide +kernel) (by decide +kernel)
theorem ft_X3_67 : FT RX3 67 RX6 7 RX6 TX6 17 5 := ⟨rfl, by decide, by decide, q735, Or.inl rfl, inGX6⟩
theorem dX3_send_10 : decode cX3_send 10 = .ok (.putfield 67, 3) := by decide +kernel
theorem dX3_send_13 : decode cX3_send 13 = .ok (.aload_n 0, 1) := by decide +kernel
theorem dX3_send_14 : decode cX3_send 14 = .ok (.getfield 48, 3) := by decide +kernel
theorem dX3_send_17 : decode cX3_send 17 = .ok (.aload_n 1, 1) := by decide +kernel
set_option maxRecDepth 100000 in
theorem q822 : Cond.code yX1_send cX1_send 2 none ∈ GT := gt 822 (rfl) (by decide +kernel)
set_option maxRecDepth 100000 in
theorem q59 : Cond.initialized RX1 ∈ GT := gt 59 (by decide +kernel) (by decide +kernel)
theorem M_X1_send : MY yX1_send cX1_send 2 none 1 := ⟨q822, q59, by decide +kernel, by decide +kernel⟩
set_option maxRecDepth 100000 in
theorem q820 : Cond.instanceMethod yX1_send ∈ GT := gt 820 (by decide +kernel) (by decide +kernel)
set_option maxRecDepth 100000 in
theorem q821 : Cond.selects RX1 yX1_send yX1_send ∈ GT := gt 821 (by decide +kernel) (by decide +kernel)
set_option maxRecDepth 100000 in
theorem q819 : Cond.methodLink RX3 70 yX1_send ∈ GT := gt 819 (by decide +kernel) (by decide +kernel)
theorem dX3_send_18 : decode cX3_send 18 = .ok (.invokevirtual 70, 3) := by decide +kernel
theorem dX3_send_21 : decode cX3_send 21 = .ok (.return_, 1) := by decide +kernel
set_option maxHeartbeats 4000000 in
set_option maxRecDepth 100000 in
theorem w_X3_send_0 {p : Program} {l : Launch} {e : Env} {R : Room} {s : State} {m : MethodId} {args : Array Value} {below : List Frame} {meth : Method} {c : Code} {G : Gt} {ρ0 : Int → Nat} {M0 : Mo} {res : RS} (F : Fx p l R s m args meth c cX3_send 3 RX3 G M0 8 none) (hno : ∀ x ∈ c.exceptionTable.toList, False) (hnm : meth.name = yX3_send.name) (x0 x1 x2 : Int) (M : Mo) (h : X3_send x0 x1 x2 M = some res) : J p l e R s m args below meth c 3 G ρ0 M0 0 res M 0 [(0, (false, x0)), (1, (false, x1)), (2, (true, x2))] [] := by
  unfold X3_send at h
  refine j_aload_n F 1 rfl rfl dX3_send_0 ?_
  refine j_aload_n F 0 rfl rfl dX3_send_1 ?_
  obtain ⟨g1, h⟩ := gua h
  refine j_get F ft_X3_40 rfl g1 dX3_send_2 ?_
  obtain ⟨g2, h⟩ := gua h
  refine j_put (ty := .int) F ft_X3_62 rfl rfl tyX6 tyX6_ok nmX6 (by decide +kernel) (nf_int _) g2 dX3_send_5 ?_
  obtain ⟨M3, hM3⟩ : ∃ Z, Z = sF M 7 2 x1 (fd M 4 0 x0) := ⟨_, rfl⟩
  have kl4 : kle M M3 := by rw [hM3]; exact kle_sF
  rw [← hM3]
  replace h := pt_as h hM3
  refine j_aload_n F 1 rfl rfl dX3_send_8 ?_
  refine j_iload_n F 2 rfl rfl dX3_send_9 ?_
  refine j_put (ty := .int) F ft_X3_67 rfl rfl tyX6 tyX6_ok nmX6 (by decide +kernel) (nf_int _) (kl4.is g2) dX3_send_10 ?_
  obtain ⟨M5, hM5⟩ : ∃ Z, Z = sF M3 7 5 x1 x2 := ⟨_, rfl⟩
  have kl6 : kle M3 M5 := by rw [hM5]; exact kle_sF
  rw [← hM5]
  replace h := pt_as h hM5
  refine j_aload_n F 0 rfl rfl dX3_send_13 ?_
  refine j_get F ft_X3_48 rfl (kl6.is (kl4.is g1)) dX3_send_14 ?_
  refine j_aload_n F 1 rfl rfl dX3_send_17 ?_
  obtain ⟨g10, h⟩ := gua h
  refine j_callV (d' := 7) (argl := [(false, x1)]) (rk9 := 0) (st := []) F hno M_X1_send q820 q821 q819 ⟨by decide, by decide⟩ (Nat.le_of_ble_eq_true rfl) (by decide) (ci := 2) rfl (by decide) g10 dX3_send_18 rfl h (fun z hz => c_X1_send l F.ht G (fd M5 4 2 x0) x1 M5 z hz) (fun v7 M8 h kl9 => ?_)
  refine j_st (st' := []) rfl ?_
  exact j_vret F (v := 0) h dX3_send_21
theorem c_X3_send (l : Launch) (hl : l.stackTraces = false) (G : Gt) (x0 x1 x2 : Int) (M : Mo) (z : RS) (h : X3_send x0 x1 x2 M = some z) : CT l G yX3_send (cn yX3_send cX3_send 3 none) 8 [(false, x0), (false, x1), (true, x2)] M 0 z :=
  ctOf hl (by decide) (Nat.le_of_ble_eq_true rfl) (fun p e R s m args below meth c ρ F hno hnm => w_X3_send_0 F hno hnm x0 x1 x2 M h)
theorem dX3_begin_0 : decode cX3_begin 0 = .ok (.aload_n 0, 1) := by decide +kernel
theorem dX3_begin_1 : decode cX3_begin 1 = .ok (.getfield 44, 3) := by decide +kernel
theorem dX3_begin_4 : decode cX3_begin 4 = .ok (.iload_n 1, 1) := by decide +kernel
set_option maxRecDepth 100000 in
theorem q679 : Cond.code yX4_versionOf cX4_versionOf 2 (some FieldType.int) ∈ GT := gt 679 (rfl) (by decide +kernel)
theorem M_X4_versionOf : MY yX4_versionOf cX4_versionOf 2 (some FieldType.int) 1 := ⟨q679, q55, by decide +kernel, by decide +kernel⟩
set_option maxRecDepth 100000 in
theorem q677 : Cond.instanceMethod yX4_versionOf ∈ GT := gt 677 (by decide +kernel) (by decide +kernel)
set_option maxRecDepth 100000 in
theorem q678 : Cond.selects RX4 yX4_versionOf yX4_versionOf ∈ GT := gt 678 (by decide +kernel) (by decide +kernel)
set_option maxRecDepth 100000 in
theorem q676 : Cond.methodLink RX3 76 yX4_versionOf ∈ GT := gt 676 (by decide +kernel) (by decide +kernel)
theorem dX3_begin_5 : decode cX3_begin 5 = .ok (.invokevirtual 76, 3) := by decide +kernel
theorem dX3_begin_8 : decode cX3_begin 8 = .ok (.iconst 1, 1) := by decide +kernel
theorem dX3_begin_9 : decode cX3_begin 9 = .ok (.iadd, 1) := by decide +kernel
theorem dX3_begin_10 : decode cX3_begin 10 = .ok (.istore_n 2, 1) := by decide +kernel
theorem dX3_begin_11 : decode cX3_begin 11 = .ok (.aload_n 0, 1) := by decide +kernel
theorem dX3_begin_12 : decode cX3_begin 12 = .ok (.getfield 44, 3) := by decide +kernel
theorem dX3_begin_15 : decode cX3_begin 15 = .ok (.iload_n 1, 1) := by decide +kernel
theorem dX3_begin_16 : decode cX3_begin 16 = .ok (.iload_n 2, 1) := by decide +kernel
set_option maxRecDepth 100000 in
theorem q683 : Cond.code yX4_setVersion cX4_setVersion 3 none ∈ GT := gt 683 (rfl) (by decide +kernel)
theorem M_X4_setVersion : MY yX4_setVersion cX4_setVersion 3 none 2 := ⟨q683, q55, by decide +kernel, by decide +kernel⟩
set_option maxRecDepth 100000 in
theorem q681 : Cond.instanceMethod yX4_setVersion ∈ GT := gt 681 (by decide +kernel) (by decide +kernel)
set_option maxRecDepth 100000 in
theorem q682 : Cond.selects RX4 yX4_setVersion yX4_setVersion ∈ GT := gt 682 (by decide +kernel) (by decide +kernel)
set_option maxRecDepth 100000 in
theorem q680 : Cond.methodLink RX3 82 yX4_setVersion ∈ GT := gt 680 (by decide +kernel) (by decide +kernel)
theorem dX3_begin_17 : decode cX3_begin 17 = .ok (.invokevirtual 82, 3) := by decide +kernel
theorem dX3_begin_20 : decode cX3_begin 20 = .ok (.aload_n 0, 1) := by decide +kernel
theorem dX3_begin_21 : decode cX3_begin 21 = .ok (.getfield 44, 3) := by decide +kernel
theorem dX3_begin_24 : decode cX3_begin 24 = .ok (.iload_n 1, 1) := by decide +kernel
theorem dX3_begin_25 : decode cX3_begin 25 = .ok (.aload_n 0, 1) := by decide +kernel
theorem dX3_begin_26 : decode cX3_begin 26 = .ok (.getfield 40, 3) := by decide +kernel
set_option maxRecDepth 100000 in
theorem q687 : Cond.code yX4_setHolder cX4_setHolder 3 none ∈ GT := gt 687 (rfl) (by decide +kernel)
theorem M_X4_setHolder : MY yX4_setHolder cX4_setHolder 3 none 2 := ⟨q687, q55, by decide +kernel, by decide +kernel⟩
set_option maxRecDepth 100000 in
theorem q685 : Cond.instanceMethod yX4_setHolder ∈ GT := gt 685 (by decide +kernel) (by decide +kernel)
set_option maxRecDepth 100000 in
theorem q686 : Cond.selects RX4 yX4_setHolder yX4_setHolder ∈ GT := gt 686 (by decide +kernel) (by decide +kernel)
set_option maxRecDepth 100000 in
theorem q684 : Cond.methodLink RX3 86 yX4_setHolder ∈ GT := gt 684 (by decide +kernel) (by decide +kernel)
theorem dX3_begin_29 : decode cX3_begin 29 = .ok (.invokevirtual 86, 3) := by decide +kernel
theorem dX3_begin_32 : decode cX3_begin 32 = .ok (.aload_n 0, 1) := by decide +kernel
theorem dX3_begin_33 : decode cX3_begin 33 = .ok (.iload_n 1, 1) := by decide +kernel
set_option maxRecDepth 100000 in
theorem q691 : Cond.code yX3_copyOf cX3_copyOf 2 (some (FieldType.object "ToolPlex$Copy")) ∈ GT := gt 691 (rfl) (by decide +kernel)
set_option maxRecDepth 100000 in
theorem q60 : Cond.initialized RX3 ∈ GT := gt 60 (by decide +kernel) (by decide +kernel)
theorem M_X3_copyOf : MY yX3_copyOf cX3_copyOf 2 (some (FieldType.object "ToolPlex$Copy")) 1 := ⟨q691, q60, by decide +kernel, by decide +kernel⟩
set_option maxRecDepth 100000 in
theorem q689 : Cond.instanceMethod yX3_copyOf ∈ GT := gt 689 (by decide +kernel) (by decide +kernel)
set_option maxRecDepth 100000 in
theorem q690 : Cond.selects RX3 yX3_copyOf yX3_copyOf ∈ GT := gt 690 (by decide +kernel) (by decide +kernel)
set_option maxRecDepth 100000 in
theorem q688 : Cond.methodLink RX3 89 yX3_copyOf ∈ GT := gt 688 (by decide +kernel) (by decide +kernel)
theorem dX3_begin_34 : decode cX3_begin 34 = .ok (.invokevirtual 89, 3) := by decide +kernel
theorem dX3_begin_37 : decode cX3_begin 37 = .ok (.iload_n 2, 1) := by decide +kernel
theorem dX3_begin_38 : decode cX3_begin 38 = .ok (.aload_n 0, 1) := by decide +kernel
theorem dX3_begin_39 : decode cX3_begin 39 = .ok (.getfield 44, 3) := by decide +kernel
theorem dX3_begin_42 : decode cX3_begin 42 = .ok (.iload_n 1, 1) := by decide +kernel
set_option maxRecDepth 100000 in
theorem q640 : Cond.code yX4_textOf cX4_textOf 2 (some (FieldType.object "ToolPlex$Text")) ∈ GT := gt 640 (rfl) (by decide +kernel)
theorem M_X4_textOf : MY yX4_textOf cX4_textOf 2 (some (FieldType.object "ToolPlex$Text")) 1 := ⟨q640, q55, by decide +kernel, by decide +kernel⟩
set_option maxRecDepth 100000 in
theorem q638 : Cond.instanceMethod yX4_textOf ∈ GT := gt 638 (by decide +kernel) (by decide +kernel)
set_option maxRecDepth 100000 in
theorem q639 : Cond.selects RX4 yX4_textOf yX4_textOf ∈ GT := gt 639 (by decide +kernel) (by decide +kernel)
set_option maxRecDepth 100000 in
theorem q692 : Cond.methodLink RX3 93 yX4_textOf ∈ GT := gt 692 (by decide +kernel) (by decide +kernel)
theorem dX3_begin_43 : decode cX3_begin 43 = .ok (.invokevirtual 93, 3) := by decide +kernel
theorem dX3_begin_46 : decode cX3_begin 46 = .ok (.aload_n 0, 1) := by decide +kernel
theorem dX3_begin_47 : decode cX3_begin 47 = .ok (.getfield 40, 3) := by decide +kernel
set_option maxRecDepth 100000 in
theorem q693 : Cond.methodLink RX3 97 yX2_begin ∈ GT := gt 693 (by decide +kernel) (by decide +kernel)
theorem dX3_begin_50 : decode cX3_begin 50 = .ok (.invokevirtual 97, 3) := by decide +kernel
set_option maxRecDepth 100000 in
theorem q705 : Cond.classLink RX3 63 RX6 ∈ GT := gt 705 (by decide +kernel) (by decide +kernel)
theorem dX3_begin_53 : decode cX3_begin 53 = .ok (.new 63, 3) := by decide +kernel
theorem dX3_begin_56 : decode cX3_begin 56 = .ok (.dup, 1) := by decide +kernel
theorem dX3_begin_57 : decode cX3_begin 57 = .ok (.iconst 0, 1) := by decide +kernel
theorem dX3_begin_58 : decode cX3_begin 58 = .ok (.iload_n 1, 1) := by decide +kernel
set_option maxRecDepth 100000 in
theorem q707 : Cond.methodLink RX3 101 yX6_init ∈ GT := gt 707 (by decide +kernel) (by decide +kernel)
theorem dX3_begin_59 : decode cX3_begin 59 = .ok (.invokespecial 101, 3) := by decide +kernel
theorem dX3_begin_62 : decode cX3_begin 62 = .ok (.astore_n 3, 1) := by decide +kernel
theorem dX3_begin_63 : decode cX3_begin 63 = .ok (.aload_n 3, 1) := by decide +kernel
set_option maxRecDepth 100000 in
theorem q812 : Cond.classLink RX3 103 RX10 ∈ GT := gt 812 (by decide +kernel) (by decide +kernel)
theorem dX3_begin_64 : decode cX3_begin 64 = .ok (.new 103, 3) := by decide +kernel
theorem dX3_begin_67 : decode cX3_begin 67 = .ok (.dup, 1) := by decide +kernel
set_option maxRecDepth 100000 in
theorem q813 : Cond.methodLinkNest RX3 105 yX10_init "ToolPlex" ∈ GT := gt 813 (by decide +kernel) (by decide +kernel)
theorem dX3_begin_68 : decode cX3_begin 68 = .ok (.invokespecial 105, 3) := by decide +kernel
set_option maxRecDepth 100000 in
theorem q767 : Cond.fieldLink RX3 106 "ToolPlex$Message" "text" "LToolPlex$Text;" ∈ GT := gt 767 (by decide +kernel) (by decide +kernel)
theorem ft_X3_106 : FT RX3 106 RX6 7 RX6 TX6 17 14 := ⟨rfl, by decide, by decide, q767, Or.inl rfl, inGX6⟩
theorem dX3_begin_71 : decode cX3_begin 71 = .ok (.putfield 106, 3) := by decide +kernel
theorem dX3_begin_74 : decode cX3_begin 74 = .ok (.aload_n 3, 1) := by decide +kernel
theorem dX3_begin_75 : decode cX3_begin 75 = .ok (.getfield 106, 3) := by decide +kernel
theorem dX3_begin_78 : decode cX3_begin 78 = .ok (.aload_n 0, 1) := by decide +kernel
theorem dX3_begin_79 : decode cX3_begin 79 = .ok (.getfield 44, 3) := by decide +kernel
theorem dX3_begin_82 : decode cX3_begin 82 = .ok (.iload_n 1, 1) := by decide +kernel
theorem dX3_begin_83 : decode cX3_begin 83 = .ok (.invokevirtual 93, 3) := by decide +kernel
set_option maxRecDepth 100000 in
theorem q814 : Cond.methodLink RX3 110 yX10_takeAll ∈ GT := gt 814 (by decide +kernel) (by decide +kernel)
theorem dX3_begin_86 : decode cX3_begin 86 = .ok (.invokevirtual 110, 3) := by decide +kernel
theorem dX3_begin_89 : decode cX3_begin 89 = .ok (.aload_n 0, 1) := by decide +kernel
theorem dX3_begin_90 : decode cX3_begin 90 = .ok (.aload_n 3, 1) := by decide +kernel
theorem dX3_begin_91 : decode cX3_begin 91 = .ok (.iload_n 2, 1) := by decide +kernel
set_option maxRecDepth 100000 in
theorem q818 : Cond.code yX3_send cX3_send 3 none ∈ GT := gt 818 (rfl) (by decide +kernel)
theorem M_X3_send : MY yX3_send cX3_send 3 none 2 := ⟨q818, q60, by decide +kernel, by decide +kernel⟩
set_option maxRecDepth 100000 in
theorem q817 : Cond.instanceMethod yX3_send ∈ GT := gt 817 (by decide +kernel) (by decide +kernel)
set_option maxRecDepth 100000 in
theorem q7 : Cond.selects RX3 yX3_send yX3_send ∈ GT := gt 7 (by decide +kernel) (by decide +kernel)
set_option maxRecDepth 100000 in
theorem q815 : Cond.methodLink RX3 114 yX3_send ∈ GT := gt 815 (by decide +kernel) (by decide +kernel)
theorem dX3_begin_92 : decode cX3_begin 92 = .ok (.invokevirtual 114, 3) := by decide +kernel
theorem dX3_begin_95 : decode cX3_begin 95 = .ok (.iload_n 2, 1) := by decide +kernel
theorem dX3_begin_96 : decode cX3_begin 96 = .ok (.ireturn, 1) := by decide +kernel
set_option maxHeartbeats 4000000 in
set_option maxRecDepth 100000 in
theorem w_X3_begin_0 {p : Program} {l : Launch} {e : Env} {R : Room} {s : State} {m : MethodId} {args : Array Value} {below : List Frame} {meth : Method} {c : Code} {G : Gt} {ρ0 : Int → Nat} {M0 : Mo} {res : RS} (F : Fx p l R s m args meth c cX3_begin 4 RX3 G M0 9 (some FieldType.int)) (hno : ∀ x ∈ c.exceptionTable.toList, False) (hnm : meth.name = yX3_begin.name) (x0 x1 : Int) (M : Mo) (h : X3_begin x0 x1 M = some res) : J p l e R s m args below meth c 4 G ρ0 M0 1 res M 0 [(0, (false, x0)), (1, (true, x1))] [] := by
  unfold X3_begin at h
  refine j_aload_n F 0 rfl rfl dX3_begin_0 ?_
  obtain ⟨g1, h⟩ := gua h
  refine j_get F ft_X3_44 rfl g1 dX3_begin_1 ?_
  refine j_iload_n F 1 rfl rfl dX3_begin_4 ?_
  obtain ⟨g5, h⟩ := gua h
  refine j_callV (d' := 1) (argl := [(true, x1)]) (rk9 := 1) (st := []) F hno M_X4_versionOf q677 q678 q676 ⟨by decide, by decide⟩ (Nat.le_of_ble_eq_true rfl) (by decide) (ci := 5) rfl (by decide) g5 dX3_begin_5 rfl h (fun z hz => c_X4_versionOf l F.ht G (fd M 4 1 x0) x1 M z hz) (fun v2 M3 h kl4 => ?_)
  refine j_st (st' := [(true, v2)]) rfl ?_
  refine j_iconst F dX3_begin_8 ?_
  refine j_iadd F dX3_begin_9 ?_
  refine j_istore_n F (lv' := [(2, (true, (v2 + 1))), (0, (false, x0)), (1, (true, x1))]) rfl (by decide) rfl dX3_begin_10 ?_
  refine j_aload_n F 1 rfl rfl dX3_begin_11 ?_
  refine j_get F ft_X3_44 rfl (kl4.is g1) dX3_begin_12 ?_
  refine j_iload_n F 2 rfl rfl dX3_begin_15 ?_
  refine j_iload_n F 0 rfl rfl dX3_begin_16 ?_
  obtain ⟨g9, h⟩ := gua h
  refine j_callV (d' := 1) (argl := [(true, x1), (true, (v2 + 1))]) (rk9 := 0) (st := []) F hno M_X4_setVersion q681 q682 q680 ⟨by decide, by decide⟩ (Nat.le_of_ble_eq_true rfl) (by decide) (ci := 5) rfl (by decide) g9 dX3_begin_17 rfl h (fun z hz => c_X4_setVersion l F.ht G (fd M3 4 1 x0) x1 (v2 + 1) M3 z hz) (fun v6 M7 h kl8 => ?_)
  refine j_st (st' := []) rfl ?_
  refine j_aload_n F 1 rfl rfl dX3_begin_20 ?_
  refine j_get F ft_X3_44 rfl (kl8.is (kl4.is g1)) dX3_begin_21 ?_
  refine j_iload_n F 2 rfl rfl dX3_begin_24 ?_
  refine j_aload_n F 1 rfl rfl dX3_begin_25 ?_
  refine j_get F ft_X3_40 rfl (kl8.is (kl4.is g1)) dX3_begin_26 ?_
  obtain ⟨g13, h⟩ := gua h
  refine j_callV (d' := 1) (argl := [(true, x1), (true, (fd M7 4 0 x0))]) (rk9 := 0) (st := []) F hno M_X4_setHolder q685 q686 q684 ⟨by decide, by decide⟩ (Nat.le_of_ble_eq_true rfl) (by decide) (ci := 5) rfl (by decide) g13 dX3_begin_29 rfl h (fun z hz => c_X4_setHolder l F.ht G (fd M7 4 1 x0) x1 (fd M7 4 0 x0) M7 z hz) (fun v10 M11 h kl12 => ?_)
  refine j_st (st' := []) rfl ?_
  refine j_aload_n F 1 rfl rfl dX3_begin_32 ?_
  refine j_iload_n F 2 rfl rfl dX3_begin_33 ?_
  refine j_callV (d' := 0) (argl := [(true, x1)]) (rk9 := 2) (st := []) F hno M_X3_copyOf q689 q690 q688 ⟨by decide, by decide⟩ (Nat.le_of_ble_eq_true rfl) (by decide) (ci := 4) rfl (by decide) (kl12.is (kl8.is (kl4.is g1))) dX3_begin_34 rfl h (fun z hz => c_X3_copyOf l F.ht G x0 x1 M11 z hz) (fun v14 M15 h kl16 => ?_)
  refine j_st (st' := [(false, v14)]) rfl ?_
  refine j_iload_n F 0 rfl rfl dX3_begin_37 ?_
  refine j_aload_n F 1 rfl rfl dX3_begin_38 ?_
  refine j_get F ft_X3_44 rfl (kl16.is (kl12.is (kl8.is (kl4.is g1)))) dX3_begin_39 ?_
  refine j_iload_n F 2 rfl rfl dX3_begin_42 ?_
  obtain ⟨g20, h⟩ := gua h
  refine j_callV (d' := 1) (argl := [(true, x1)]) (rk9 := 2) (st := [(true, (v2 + 1)), (false, v14)]) F hno M_X4_textOf q638 q639 q692 ⟨by decide, by decide⟩ (Nat.le_of_ble_eq_true rfl) (by decide) (ci := 5) rfl (by decide) g20 dX3_begin_43 rfl h (fun z hz => c_X4_textOf l F.ht G (fd M15 4 1 x0) x1 M15 z hz) (fun v17 M18 h kl19 => ?_)
  refine j_st (st' := [(false, v17), (true, (v2 + 1)), (false, v14)]) rfl ?_
  refine j_aload_n F 1 rfl rfl dX3_begin_46 ?_
  refine j_get F ft_X3_40 rfl (kl19.is (kl16.is (kl12.is (kl8.is (kl4.is g1))))) dX3_begin_47 ?_
  obtain ⟨g24, h⟩ := gua h
  refine j_callV (d' := 3) (argl := [(true, (v2 + 1)), (false, v17), (true, (fd M18 4 0 x0))]) (rk9 := 0) (st := []) F hno M_X2_begin q694 q695 q693 ⟨by decide, by decide⟩ (Nat.le_of_ble_eq_true rfl) (by decide) (ci := 3) rfl (by decide) g24 dX3_begin_50 rfl h (fun z hz => c_X2_begin l F.ht G v14 (v2 + 1) v17 (fd M18 4 0 x0) M18 z hz) (fun v21 M22 h kl23 => ?_)
  refine j_st (st' := []) rfl ?_
  obtain ⟨g25, h⟩ := gua h
  refine j_new (ci := 7) F inGX6 tyX6 tyX6_ok q705 q706 q75 rfl (by decide) dfX6 g25 dX3_begin_53 (fun kl26 => ?_)
  obtain ⟨M27, hM27⟩ : ∃ Z, Z = nO M22 7 17 := ⟨_, rfl⟩
  have g28 : kd M27 (nid M22) = 8 := by rw [hM27]; exact kd_nO
  rw [← hM27] at kl26 ⊢
  replace h := pt_as h hM27
  refine j_dup F dX3_begin_56 ?_
  refine j_iconst F dX3_begin_57 ?_
  refine j_iload_n F 2 rfl rfl dX3_begin_58 ?_
  refine j_callI (d' := 2) (argl := [(true, 0), (true, x1)]) (rk9 := 0) (st := [(false, (nid M22))]) F M_X6_init q708 rfl q707 ⟨by decide, by decide⟩ (Nat.le_of_ble_eq_true rfl) (by decide) (by rw [g28]; decide) dX3_begin_59 rfl h (fun z hz => c_X6_init l F.ht G (nid M22) 0 x1 M27 z hz) (fun v29 M30 h kl31 => ?_)
  refine j_st (st' := [(false, (nid M22))]) rfl ?_
  refine j_astore_n F (lv' := [(3, (false, (nid M22))), (2, (true, (v2 + 1))), (0, (false, x0)), (1, (true, x1))]) rfl (by decide) rfl dX3_begin_62 ?_
  refine j_aload_n F 0 rfl rfl dX3_begin_63 ?_
  obtain ⟨g32, h⟩ := gua h
  refine j_new (ci := 11) F inGX10 tyX10 tyX10_ok q812 q89 q54 rfl (by decide) dfX10 g32 dX3_begin_64 (fun kl33 => ?_)
  obtain ⟨M34, hM34⟩ : ∃ Z, Z = nO M30 11 2 := ⟨_, rfl⟩
  have g35 : kd M34 (nid M30) = 12 := by rw [hM34]; exact kd_nO
  rw [← hM34] at kl33 ⊢
  replace h := pt_as h hM34
  refine j_dup F dX3_begin_67 ?_
  refine j_callIN (d' := 1) (argl := []) (rk9 := 0) (st := [(false, (nid M30)), (false, (nid M22))]) F M_X10_init q91 rfl q813 ⟨by decide, by decide⟩ (Nat.le_of_ble_eq_true rfl) (by decide) (by rw [g35]; decide) dX3_begin_68 rfl h (fun z hz => c_X10_init l F.ht G (nid M30) M34 z hz) (fun v36 M37 h kl38 => ?_)
  refine j_st (st' := [(false, (nid M30)), (false, (nid M22))]) rfl ?_
  refine j_put (ty := .object "ToolPlex$Text") F ft_X3_106 rfl rfl tyX6 tyX6_ok nmX6 (by decide +kernel) (nf_ref (Or.inl ⟨_, rfl⟩) _) (kl38.is (kl33.is (kl31.is g28))) dX3_begin_71 ?_
  obtain ⟨M39, hM39⟩ : ∃ Z, Z = sF M37 7 14 (nid M22) (nid M30) := ⟨_, rfl⟩
  have kl40 : kle M37 M39 := by rw [hM39]; exact kle_sF
  rw [← hM39]
  replace h := pt_as h hM39
  refine j_aload_n F 0 rfl rfl dX3_begin_74 ?_
  refine j_get F ft_X3_106 rfl (kl40.is (kl38.is (kl33.is (kl31.is g28)))) dX3_begin_75 ?_
  refine j_aload_n F 2 rfl rfl dX3_begin_78 ?_
  refine j_get F ft_X3_44 rfl (kl40.is (kl38.is (kl33.is (kl31.is (kl26.is (kl23.is (kl19.is (kl16.is (kl12.is (kl8.is (kl4.is g1))))))))))) dX3_begin_79 ?_
  refine j_iload_n F 3 rfl rfl dX3_begin_82 ?_
  obtain ⟨g44, h⟩ := gua h
  refine j_callV (d' := 1) (argl := [(true, x1)]) (rk9 := 2) (st := [(false, (fd M39 7 14 (nid M22)))]) F hno M_X4_textOf q638 q639 q692 ⟨by decide, by decide⟩ (Nat.le_of_ble_eq_true rfl) (by decide) (ci := 5) rfl (by decide) g44 dX3_begin_83 rfl h (fun z hz => c_X4_textOf l F.ht G (fd M39 4 1 x0) x1 M39 z hz) (fun v41 M42 h kl43 => ?_)
  refine j_st (st' := [(false, v41), (false, (fd M39 7 14 (nid M22)))]) rfl ?_
  obtain ⟨g48, h⟩ := gua h
  refine j_callV (d' := 2) (argl := [(false, v41)]) (rk9 := 0) (st := []) F hno M_X10_takeAll q698 q699 q814 ⟨by decide, by decide⟩ (Nat.le_of_ble_eq_true rfl) (by decide) (ci := 11) rfl (by decide) g48 dX3_begin_86 rfl h (fun z hz => c_X10_takeAll l F.ht G (fd M39 7 14 (nid M22)) v41 M42 z hz) (fun v45 M46 h kl47 => ?_)
  refine j_st (st' := []) rfl ?_
  refine j_aload_n F 2 rfl rfl dX3_begin_89 ?_
  refine j_aload_n F 0 rfl rfl dX3_begin_90 ?_
  refine j_iload_n F 1 rfl rfl dX3_begin_91 ?_
  refine j_callV (d' := 8) (argl := [(false, (nid M22)), (true, (v2 + 1))]) (rk9 := 0) (st := []) F hno M_X3_send q817 q7 q815 ⟨by decide, by decide⟩ (Nat.le_of_ble_eq_true rfl) (by decide) (ci := 4) rfl (by decide) (kl47.is (kl43.is (kl40.is (kl38.is (kl33.is (kl31.is (kl26.is (kl23.is (kl19.is (kl16.is (kl12.is (kl8.is (kl4.is g1))))))))))))) dX3_begin_92 rfl h (fun z hz => c_X3_send l F.ht G x0 (nid M22) (v2 + 1) M46 z hz) (fun v49 M50 h kl51 => ?_)
  refine j_st (st' := []) rfl ?_
  refine j_iload_n F 1 rfl rfl dX3_begin_95 ?_
  exact j_iret F h dX3_begin_96
theorem c_X3_begin (l : Launch) (hl : l.stackTraces = false) (G : Gt) (x0 x1 : Int) (M : Mo) (z : RS) (h : X3_begin x0 x1 M = some z) : CT l G yX3_begin (cn yX3_begin cX3_begin 4 (some FieldType.int)) 9 [(false, x0), (true, x1)] M 1 z :=
  ctOf hl (by decide) (Nat.le_of_ble_eq_true rfl) (fun p e R s m args below meth c ρ F hno hnm => w_X3_begin_0 F hno hnm x0 x1 M h)
theorem dX3_finish_0 : decode cX3_finish 0 = .ok (.aload_n 0, 1) := by decide +kernel
theorem dX3_finish_1 : decode cX3_finish 1 = .ok (.iload_n 1, 1) := by decide +kernel
theorem dX3_finish_2 : decode cX3_finish 2 = .ok (.invokevirtual 89, 3) := by decide +kernel
theorem dX3_finish_5 : decode cX3_finish 5 = .ok (.astore_n 2, 1) := by decide +kernel
theorem dX3_finish_6 : decode cX3_finish 6 = .ok (.aload_n 0, 1) := by decide +kernel
theorem dX3_finish_7 : decode cX3_finish 7 = .ok (.getfield 44, 3) := by decide +kernel
theorem dX3_finish_10 : decode cX3_finish 10 = .ok (.iload_n 1, 1) := by decide +kernel
theorem dX3_finish_11 : decode cX3_finish 11 = .ok (.invokevirtual 93, 3) := by decide +kernel
theorem dX3_finish_14 : decode cX3_finish 14 = .ok (.aload_n 2, 1) := by decide +kernel
set_option maxRecDepth 100000 in
theorem q193 : Cond.fieldLink RX3 117 "ToolPlex$Copy" "text" "LToolPlex$Text;" ∈ GT := gt 193 (by decide +kernel) (by decide +kernel)
theorem ft_X3_117 : FT RX3 117 RX2 3 RX2 TX2 7 0 := ⟨rfl, by decide, by decide, q193, Or.inl rfl, inGX2⟩
theorem dX3_finish_15 : decode cX3_finish 15 = .ok (.getfield 117, 3) := by decide +kernel
theorem dX3_finish_18 : decode cX3_finish 18 = .ok (.invokevirtual 110, 3) := by decide +kernel
theorem dX3_finish_21 : decode cX3_finish 21 = .ok (.aload_n 0, 1) := by decide +kernel
theorem dX3_finish_22 : decode cX3_finish 22 = .ok (.getfield 44, 3) := by decide +kernel
theorem dX3_finish_25 : decode cX3_finish 25 = .ok (.iload_n 1, 1) := by decide +kernel
theorem dX3_finish_26 : decode cX3_finish 26 = .ok (.iconst (-1), 1) := by decide +kernel
theorem dX3_finish_27 : decode cX3_finish 27 = .ok (.invokevirtual 86, 3) := by decide +kernel
theorem dX3_finish_30 : decode cX3_finish 30 = .ok (.aload_n 0, 1) := by decide +kernel
theorem dX3_finish_31 : decode cX3_finish 31 = .ok (.new 63, 3) := by decide +kernel
theorem dX3_finish_34 : decode cX3_finish 34 = .ok (.dup, 1) := by decide +kernel
theorem dX3_finish_35 : decode cX3_finish 35 = .ok (.iconst 2, 1) := by decide +kernel
theorem dX3_finish_36 : decode cX3_finish 36 = .ok (.iload_n 1, 1) := by decide +kernel
theorem dX3_finish_37 : decode cX3_finish 37 = .ok (.invokespecial 101, 3) := by decide +kernel
theorem dX3_finish_40 : decode cX3_finish 40 = .ok (.aload_n 2, 1) := by decide +kernel
set_option maxRecDepth 100000 in
theorem q200 : Cond.fieldLink RX3 118 "ToolPlex$Copy" "version" "I" ∈ GT := gt 200 (by decide +kernel) (by decide +kernel)
theorem ft_X3_118 : FT RX3 118 RX2 3 RX2 TX2 7 4 := ⟨rfl, by decide, by decide, q200, Or.inl rfl, inGX2⟩
theorem dX3_finish_41 : decode cX3_finish 41 = .ok (.getfield 118, 3) := by decide +kernel
theorem dX3_finish_44 : decode cX3_finish 44 = .ok (.invokevirtual 114, 3) := by decide +kernel
theorem dX3_finish_47 : decode cX3_finish 47 = .ok (.aload_n 2, 1) := by decide +kernel
set_option maxRecDepth 100000 in
theorem q842 : Cond.methodLink RX3 119 yX2_end ∈ GT := gt 842 (by decide +kernel) (by decide +kernel)
theorem dX3_finish_48 : decode cX3_finish 48 = .ok (.invokevirtual 119, 3) := by decide +kernel
theorem dX3_finish_51 : decode cX3_finish 51 = .ok (.aload_n 0, 1) := by decide +kernel
theorem dX3_finish_52 : decode cX3_finish 52 = .ok (.iload_n 1, 1) := by decide +kernel
set_option maxRecDepth 100000 in
theorem q849 : Cond.code yX3_faultsOf cX3_faultsOf 2 (some (FieldType.object "ToolPlex$Items")) ∈ GT := gt 849 (rfl) (by decide +kernel)
theorem M_X3_faultsOf : MY yX3_faultsOf cX3_faultsOf 2 (some (FieldType.object "ToolPlex$Items")) 1 := ⟨q849, q60, by decide +kernel, by decide +kernel⟩
set_option maxRecDepth 100000 in
theorem q847 : Cond.instanceMethod yX3_faultsOf ∈ GT := gt 847 (by decide +kernel) (by decide +kernel)
set_option maxRecDepth 100000 in
theorem q848 : Cond.selects RX3 yX3_faultsOf yX3_faultsOf ∈ GT := gt 848 (by decide +kernel) (by decide +kernel)
set_option maxRecDepth 100000 in
theorem q846 : Cond.methodLink RX3 122 yX3_faultsOf ∈ GT := gt 846 (by decide +kernel) (by decide +kernel)
theorem dX3_finish_53 : decode cX3_finish 53 = .ok (.invokevirtual 122, 3) := by decide +kernel
set_option maxRecDepth 100000 in
theorem q850 : Cond.methodLink RX3 126 yX5_clear ∈ GT := gt 850 (by decide +kernel) (by decide +kernel)
theorem dX3_finish_56 : decode cX3_finish 56 = .ok (.invokevirtual 126, 3) := by decide +kernel
theorem dX3_finish_59 : decode cX3_finish 59 = .ok (.iconst 0, 1) := by decide +kernel
theorem dX3_finish_60 : decode cX3_finish 60 = .ok (.istore_n 3, 1) := by decide +kernel
theorem dX3_finish_61 : decode cX3_finish 61 = .ok (.iload_n 3, 1) := by decide +kernel
theorem dX3_finish_62 : decode cX3_finish 62 = .ok (.aload_n 0, 1) := by decide +kernel
theorem dX3_finish_63 : decode cX3_finish 63 = .ok (.getfield 36, 3) := by decide +kernel
theorem dX3_finish_66 : decode cX3_finish 66 = .ok (.invokevirtual 52, 3) := by decide +kernel
theorem dX3_finish_69 : decode cX3_finish 69 = .ok (.if_icmp .ge 58, 3) := by decide +kernel
theorem dX3_finish_127 : decode cX3_finish 127 = .ok (.return_, 1) := by decide +kernel
theorem dX3_finish_72 : decode cX3_finish 72 = .ok (.aload_n 0, 1) := by decide +kernel
theorem dX3_finish_73 : decode cX3_finish 73 = .ok (.getfield 36, 3) := by decide +kernel
theorem dX3_finish_76 : decode cX3_finish 76 = .ok (.iload_n 3, 1) := by decide +kernel
theorem dX3_finish_77 : decode cX3_finish 77 = .ok (.invokevirtual 56, 3) := by decide +kernel
theorem dX3_finish_80 : decode cX3_finish 80 = .ok (.checkcast 60, 3) := by decide +kernel
theorem dX3_finish_83 : decode cX3_finish 83 = .ok (.astore 4, 2) := by decide +kernel
theorem dX3_finish_85 : decode cX3_finish 85 = .ok (.aload 4, 2) := by decide +kernel
set_option maxRecDepth 100000 in
theorem q979 : Cond.fieldLink RX3 129 "ToolPlex$Ask" "standing" "I" ∈ GT := gt 979 (by decide +kernel) (by decide +kernel)
theorem ft_X3_129 : FT RX3 129 RX0 1 RX0 TX0 5 3 := ⟨rfl, by decide, by decide, q979, Or.inl rfl, inGX0⟩
theorem dX3_finish_87 : decode cX3_finish 87 = .ok (.getfield 129, 3) := by decide +kernel
theorem dX3_finish_90 : decode cX3_finish 90 = .ok (.iconst 1, 1) := by decide +kernel
theorem dX3_finish_91 : decode cX3_finish 91 = .ok (.if_icmp .ne 30, 3) := by decide +kernel
theorem dX3_finish_94 : decode cX3_finish 94 = .ok (.aload 4, 2) := by decide +kernel
set_option maxRecDepth 100000 in
theorem q975 : Cond.fieldLink RX3 132 "ToolPlex$Ask" "file" "I" ∈ GT := gt 975 (by decide +kernel) (by decide +kernel)
theorem ft_X3_132 : FT RX3 132 RX0 1 RX0 TX0 5 1 := ⟨rfl, by decide, by decide, q975, Or.inl rfl, inGX0⟩
theorem dX3_finish_96 : decode cX3_finish 96 = .ok (.getfield 132, 3) := by decide +kernel
theorem dX3_finish_99 : decode cX3_finish 99 = .ok (.iload_n 1, 1) := by decide +kernel
theorem dX3_finish_100 : decode cX3_finish 100 = .ok (.if_icmp .eq 15, 3) := by decide +kernel
theorem dX3_finish_103 : decode cX3_finish 103 = .ok (.aload 4, 2) := by decide +kernel
set_option maxRecDepth 100000 in
theorem q982 : Cond.fieldLink RX3 135 "ToolPlex$Ask" "items" "LToolPlex$Items;" ∈ GT := gt 982 (by decide +kernel) (by decide +kernel)
theorem ft_X3_135 : FT RX3 135 RX0 1 RX0 TX0 5 4 := ⟨rfl, by decide, by decide, q982, Or.inl rfl, inGX0⟩
theorem dX3_finish_105 : decode cX3_finish 105 = .ok (.getfield 135, 3) := by decide +kernel
theorem dX3_finish_108 : decode cX3_finish 108 = .ok (.iload_n 1, 1) := by decide +kernel
set_option maxRecDepth 100000 in
theorem q873 : Cond.code yX5_isIn cX5_isIn 3 (some FieldType.boolean) ∈ GT := gt 873 (rfl) (by decide +kernel)
theorem M_X5_isIn : MY yX5_isIn cX5_isIn 3 (some FieldType.boolean) 1 := ⟨q873, q62, by decide +kernel, by decide +kernel⟩
set_option maxRecDepth 100000 in
theorem q871 : Cond.instanceMethod yX5_isIn ∈ GT := gt 871 (by decide +kernel) (by decide +kernel)
set_option maxRecDepth 100000 in
theorem q872 : Cond.selects RX5 yX5_isIn yX5_isIn ∈ GT := gt 872 (by decide +kernel) (by decide +kernel)
set_option maxRecDepth 100000 in
theorem q870 : Cond.methodLink RX3 138 yX5_isIn ∈ GT := gt 870 (by decide +kernel) (by decide +kernel)
theorem dX3_finish_109 : decode cX3_finish 109 = .ok (.invokevirtual 138, 3) := by decide +kernel
theorem dX3_finish_112 : decode cX3_finish 112 = .ok (.ifCond .eq 9, 3) := by decide +kernel
theorem dX3_finish_115 : decode cX3_finish 115 = .ok (.aload 4, 2) := by decide +kernel
theorem dX3_finish_117 : decode cX3_finish 117 = .ok (.iconst 3, 1) := by decide +kernel
theorem dX3_finish_118 : decode cX3_finish 118 = .ok (.putfield 129, 3) := by decide +kernel
theorem dX3_finish_121 : decode cX3_finish 121 = .ok (.iinc 3 1, 3) := by decide +kernel
theorem dX3_finish_124 : decode cX3_finish 124 = .ok (.goto (-63), 3) := by decide +kernel
set_option maxHeartbeats 4000000 in
set_option maxRecDepth 100000 in
theorem w_X3_finish_121 {p : Program} {l : Launch} {e : Env} {R : Room} {s : State} {m : MethodId} {args : Array Value} {below : List Frame} {meth : Method} {c : Code} {G : Gt} {ρ0 : Int → Nat} {M0 : Mo} {res : RS} (F : Fx p l R s m args meth c cX3_finish 5 RX3 G M0 9 none) (hno : ∀ x ∈ c.exceptionTable.toList, False) (hnm : meth.name = yX3_finish.name) (k61 : Int → Int → Int → Mo → Option RS) (hk61 : ∀ (x0 x1 x3 : Int) (M : Mo), k61 x0 x1 x3 M = some res → J p l e R s m args below meth c 5 G ρ0 M0 0 res M 61 [(0, (false, x0)), (1, (true, x1)), (3, (true, x3))] []) (x0 x1 x3 : Int) (M : Mo) (h : X3_finish_121 k61 x0 x1 x3 M = some res) : J p l e R s m args below meth c 5 G ρ0 M0 0 res M 121 [(0, (false, x0)), (1, (true, x1)), (3, (true, x3))] [] := by
  unfold X3_finish_121 at h
  refine j_iinc F 2 (lv' := [(3, (true, (x3 + 1))), (0, (false, x0)), (1, (true, x1))]) rfl (by decide) rfl dX3_finish_121 ?_
  refine j_goto F 61 (by decide) dX3_finish_124 ?_
  refine j_sub (lv' := [(0, (false, x0)), (1, (true, x1)), (3, (true, (x3 + 1)))]) [1, 2, 0] rfl ?_
  exact hk61 x0 x1 (x3 + 1) M h
set_option maxHeartbeats 4000000 in
set_option maxRecDepth 100000 in
theorem w_X3_finish_115 {p : Program} {l : Launch} {e : Env} {R : Room} {s : State} {m : MethodId} {args : Array Value} {below : List Frame} {meth : Method} {c : Code} {G : Gt} {ρ0 : Int → Nat} {M0 : Mo} {res : RS} (F : Fx p l R s m args meth c cX3_finish 5 RX3 G M0 9 none) (hno : ∀ x ∈ c.exceptionTable.toList, False) (hnm : meth.name = yX3_finish.name) (k61 : Int → Int → Int → Mo → Option RS) (hk61 : ∀ (x0 x1 x3 : Int) (M : Mo), k61 x0 x1 x3 M = some res → J p l e R s m args below meth c 5 G ρ0 M0 0 res M 61 [(0, (false, x0)), (1, (true, x1)), (3, (true, x3))] []) (x0 x1 x3 x4 : Int) (M : Mo) (h : X3_finish_115 k61 x0 x1 x3 x4 M = some res) : J p l e R s m args below meth c 5 G ρ0 M0 0 res M 115 [(0, (false, x0)), (1, (true, x1)), (3, (true, x3)), (4, (false, x4))] [] := by
  unfold X3_finish_115 at h
  refine j_aload F 3 rfl dX3_finish_115 ?_
  refine j_iconst F dX3_finish_117 ?_
  obtain ⟨g1, h⟩ := gua h
  refine j_put (ty := .int) F ft_X3_129 rfl rfl tyX0 tyX0_ok nmX0 (by decide +kernel) (nf_int _) g1 dX3_finish_118 ?_
  obtain ⟨M2, hM2⟩ : ∃ Z, Z = sF M 1 3 x4 3 := ⟨_, rfl⟩
  have kl3 : kle M M2 := by rw [hM2]; exact kle_sF
  rw [← hM2]
  replace h := pt_as h hM2
  refine j_sub (lv' := [(0, (false, x0)), (1, (true, x1)), (3, (true, x3))]) [0, 1, 2] rfl ?_
  exact w_X3_finish_121 F hno hnm k61 hk61 x0 x1 x3 M2 h
set_option maxHeartbeats 4000000 in
set_option maxRecDepth 100000 in
theorem w_X3_finish_61 {p : Program} {l : Launch} {e : Env} {R : Room} {s : State} {m : MethodId} {args : Array Value} {below : List Frame} {meth : Method} {c : Code} {G : Gt} {ρ0 : Int → Nat} {M0 : Mo} {res : RS} (F : Fx p l R s m args meth c cX3_finish 5 RX3 G M0 9 none) (hno : ∀ x ∈ c.exceptionTable.toList, False) (hnm : meth.name = yX3_finish.name) (n : Nat) : ∀ (x0 x1 x3 : Int) (M : Mo), X3_finish_61 n x0 x1 x3 M = some res → J p l e R s m args below meth c 5 G ρ0 M0 0 res M 61 [(0, (false, x0)), (1, (true, x1)), (3, (true, x3))] [] := by
  induction n with
  | zero => intro x0 x1 x3 M h; cases h
  | succ n ih =>
    intro x0 x1 x3 M h
    rw [X3_finish_61] at h
    refine j_iload_n F 2 rfl rfl dX3_finish_61 ?_
    refine j_aload_n F 0 rfl rfl dX3_finish_62 ?_
    obtain ⟨g1, h⟩ := gua h
    refine j_get F ft_X3_36 rfl g1 dX3_finish_63 ?_
    obtain ⟨g5, h⟩ := gua h
    refine j_callV (d' := 0) (argl := []) (rk9 := 1) (st := [(true, x3)]) F hno M_Jx4a65c_size_8abf5 q448 q449 q854 ⟨by decide, by decide⟩ (Nat.le_of_ble_eq_true rfl) (by decide) (ci := 0) rfl (by decide) g5 dX3_finish_66 rfl h (fun z hz => c_Jx4a65c_size_8abf5 l F.ht G (fd M 4 7 x0) M z hz) (fun v2 M3 h kl4 => ?_)
    refine j_st (st' := [(true, v2), (true, x3)]) rfl ?_
    refine j_icmp_ge F 127 (by decide) dX3_finish_69 h (fun h => ?_) (fun h => ?_)
    · skip
      exact j_vret F (v := 0) h dX3_finish_127
    · skip
      refine j_aload_n F 0 rfl rfl dX3_finish_72 ?_
      refine j_get F ft_X3_36 rfl (kl4.is g1) dX3_finish_73 ?_
      refine j_iload_n F 2 rfl rfl dX3_finish_76 ?_
      obtain ⟨g9, h⟩ := gua h
      refine j_callV (d' := 2) (argl := [(true, x3)]) (rk9 := 2) (st := []) F hno M_Jx4a65c_get_915e3 q856 q857 q855 ⟨by decide, by decide⟩ (Nat.le_of_ble_eq_true rfl) (by decide) (ci := 0) rfl (by decide) g9 dX3_finish_77 rfl h (fun z hz => c_Jx4a65c_get_915e3 l F.ht G (fd M3 4 7 x0) x3 M3 z hz) (fun v6 M7 h kl8 => ?_)
      refine j_st (st' := [(false, v6)]) rfl ?_
      obtain ⟨g10, h⟩ := gua h
      refine j_cast F q869 rfl (by decide) g10 dX3_finish_80 ?_
      refine j_astore F (lv' := [(4, (false, v6)), (0, (false, x0)), (1, (true, x1)), (3, (true, x3))]) (by decide) rfl dX3_finish_83 ?_
      refine j_aload F 0 rfl dX3_finish_85 ?_
      obtain ⟨g11, h⟩ := gua h
      refine j_get F ft_X3_129 rfl g11 dX3_finish_87 ?_
      refine j_iconst F dX3_finish_90 ?_
      refine j_icmp_ne F 121 (by decide) dX3_finish_91 h (fun h => ?_) (fun h => ?_)
      · skip
        refine j_sub (lv' := [(0, (false, x0)), (1, (true, x1)), (3, (true, x3))]) [1, 2, 3] rfl ?_
        exact w_X3_finish_121 F hno hnm (X3_finish_61 n) ih x0 x1 x3 M7 h
      · skip
        refine j_aload F 0 rfl dX3_finish_94 ?_
        refine j_get F ft_X3_132 rfl g11 dX3_finish_96 ?_
        refine j_iload_n F 2 rfl rfl dX3_finish_99 ?_
        refine j_icmp_eq F 115 (by decide) dX3_finish_100 h (fun h => ?_) (fun h => ?_)
        · skip
          refine j_sub (lv' := [(0, (false, x0)), (1, (true, x1)), (3, (true, x3)), (4, (false, v6))]) [1, 2, 3, 0] rfl ?_
          exact w_X3_finish_115 F hno hnm (X3_finish_61 n) ih x0 x1 x3 v6 M7 h
        · skip
          refine j_aload F 0 rfl dX3_finish_103 ?_
          refine j_get F ft_X3_135 rfl g11 dX3_finish_105 ?_
          refine j_iload_n F 2 rfl rfl dX3_finish_108 ?_
          obtain ⟨g15, h⟩ := gua h
          refine j_callV (d' := 2) (argl := [(true, x1)]) (rk9 := 1) (st := []) F hno M_X5_isIn q871 q872 q870 ⟨by decide, by decide⟩ (Nat.le_of_ble_eq_true rfl) (by decide) (ci := 6) rfl (by decide) g15 dX3_finish_109 rfl h (fun z hz => c_X5_isIn l F.ht G (fd M7 1 4 v6) x1 M7 z hz) (fun v12 M13 h kl14 => ?_)
          refine j_st (st' := [(true, v12)]) rfl ?_
          refine j_if_eq F 121 (by decide) dX3_finish_112 h (fun h => ?_) (fun h => ?_)
          · skip
            refine j_sub (lv' := [(0, (false, x0)), (1, (true, x1)), (3, (true, x3))]) [1, 2, 3] rfl ?_
            exact w_X3_finish_121 F hno hnm (X3_finish_61 n) ih x0 x1 x3 M13 h
          · skip
            refine j_sub (lv' := [(0, (false, x0)), (1, (true, x1)), (3, (true, x3)), (4, (false, v6))]) [1, 2, 3, 0] rfl ?_
            exact w_X3_finish_115 F hno hnm (X3_finish_61 n) ih x0 x1 x3 v6 M13 h
set_option maxHeartbeats 4000000 in
set_option maxRecDepth 100000 in
theorem w_X3_finish_0 {p : Program} {l : Launch} {e : Env} {R : Room} {s : State} {m : MethodId} {args : Array Value} {below : List Frame} {meth : Method} {c : Code} {G : Gt} {ρ0 : Int → Nat} {M0 : Mo} {res : RS} (F : Fx p l R s m args meth c cX3_finish 5 RX3 G M0 9 none) (hno : ∀ x ∈ c.exceptionTable.toList, False) (hnm : meth.name = yX3_finish.name) (x0 x1 : Int) (M : Mo) (h : X3_finish x0 x1 M = some res) : J p l e R s m args below meth c 5 G ρ0 M0 0 res M 0 [(0, (false, x0)), (1, (true, x1))] [] := by
  unfold X3_finish at h
  refine j_aload_n F 0 rfl rfl dX3_finish_0 ?_
  refine j_iload_n F 1 rfl rfl dX3_finish_1 ?_
  obtain ⟨g4, h⟩ := gua h
  refine j_callV (d' := 0) (argl := [(true, x1)]) (rk9 := 2) (st := []) F hno M_X3_copyOf q689 q690 q688 ⟨by decide, by decide⟩ (Nat.le_of_ble_eq_true rfl) (by decide) (ci := 4) rfl (by decide) g4 dX3_finish_2 rfl h (fun z hz => c_X3_copyOf l F.ht G x0 x1 M z hz) (fun v1 M2 h kl3 => ?_)
  refine j_st (st' := [(false, v1)]) rfl ?_
  refine j_astore_n F (lv' := [(2, (false, v1)), (0, (false, x0)), (1, (true, x1))]) rfl (by decide) rfl dX3_finish_5 ?_
  refine j_aload_n F 1 rfl rfl dX3_finish_6 ?_
  refine j_get F ft_X3_44 rfl (kl3.is g4) dX3_finish_7 ?_
  refine j_iload_n F 2 rfl rfl dX3_finish_10 ?_
  obtain ⟨g8, h⟩ := gua h
  refine j_callV (d' := 1) (argl := [(true, x1)]) (rk9 := 2) (st := []) F hno M_X4_textOf q638 q639 q692 ⟨by decide, by decide⟩ (Nat.le_of_ble_eq_true rfl) (by decide) (ci := 5) rfl (by decide) g8 dX3_finish_11 rfl h (fun z hz => c_X4_textOf l F.ht G (fd M2 4 1 x0) x1 M2 z hz) (fun v5 M6 h kl7 => ?_)
  refine j_st (st' := [(false, v5)]) rfl ?_
  refine j_aload_n F 0 rfl rfl dX3_finish_14 ?_
  obtain ⟨g9, h⟩ := gua h
  refine j_get F ft_X3_117 rfl g9 dX3_finish_15 ?_
  obtain ⟨g13, h⟩ := gua h
  refine j_callV (d' := 2) (argl := [(false, (fd M6 3 0 v1))]) (rk9 := 0) (st := []) F hno M_X10_takeAll q698 q699 q814 ⟨by decide, by decide⟩ (Nat.le_of_ble_eq_true rfl) (by decide) (ci := 11) rfl (by decide) g13 dX3_finish_18 rfl h (fun z hz => c_X10_takeAll l F.ht G v5 (fd M6 3 0 v1) M6 z hz) (fun v10 M11 h kl12 => ?_)
  refine j_st (st' := []) rfl ?_
  refine j_aload_n F 1 rfl rfl dX3_finish_21 ?_
  refine j_get F ft_X3_44 rfl (kl12.is (kl7.is (kl3.is g4))) dX3_finish_22 ?_
  refine j_iload_n F 2 rfl rfl dX3_finish_25 ?_
  refine j_iconst F dX3_finish_26 ?_
  obtain ⟨g17, h⟩ := gua h
  refine j_callV (d' := 1) (argl := [(true, x1), (true, (-1))]) (rk9 := 0) (st := []) F hno M_X4_setHolder q685 q686 q684 ⟨by decide, by decide⟩ (Nat.le_of_ble_eq_true rfl) (by decide) (ci := 5) rfl (by decide) g17 dX3_finish_27 rfl h (fun z hz => c_X4_setHolder l F.ht G (fd M11 4 1 x0) x1 (-1) M11 z hz) (fun v14 M15 h kl16 => ?_)
  refine j_st (st' := []) rfl ?_
  refine j_aload_n F 1 rfl rfl dX3_finish_30 ?_
  obtain ⟨g18, h⟩ := gua h
  refine j_new (ci := 7) F inGX6 tyX6 tyX6_ok q705 q706 q75 rfl (by decide) dfX6 g18 dX3_finish_31 (fun kl19 => ?_)
  obtain ⟨M20, hM20⟩ : ∃ Z, Z = nO M15 7 17 := ⟨_, rfl⟩
  have g21 : kd M20 (nid M15) = 8 := by rw [hM20]; exact kd_nO
  rw [← hM20] at kl19 ⊢
  replace h := pt_as h hM20
  refine j_dup F dX3_finish_34 ?_
  refine j_iconst F dX3_finish_35 ?_
  refine j_iload_n F 2 rfl rfl dX3_finish_36 ?_
  refine j_callI (d' := 2) (argl := [(true, 2), (true, x1)]) (rk9 := 0) (st := [(false, (nid M15)), (false, x0)]) F M_X6_init q708 rfl q707 ⟨by decide, by decide⟩ (Nat.le_of_ble_eq_true rfl) (by decide) (by rw [g21]; decide) dX3_finish_37 rfl h (fun z hz => c_X6_init l F.ht G (nid M15) 2 x1 M20 z hz) (fun v22 M23 h kl24 => ?_)
  refine j_st (st' := [(false, (nid M15)), (false, x0)]) rfl ?_
  refine j_aload_n F 0 rfl rfl dX3_finish_40 ?_
  refine j_get F ft_X3_118 rfl (kl24.is (kl19.is (kl16.is (kl12.is g9)))) dX3_finish_41 ?_
  refine j_callV (d' := 8) (argl := [(false, (nid M15)), (true, (fd M23 3 4 v1))]) (rk9 := 0) (st := []) F hno M_X3_send q817 q7 q815 ⟨by decide, by decide⟩ (Nat.le_of_ble_eq_true rfl) (by decide) (ci := 4) rfl (by decide) (kl24.is (kl19.is (kl16.is (kl12.is (kl7.is (kl3.is g4)))))) dX3_finish_44 rfl h (fun z hz => c_X3_send l F.ht G x0 (nid M15) (fd M23 3 4 v1) M23 z hz) (fun v25 M26 h kl27 => ?_)
  refine j_st (st' := []) rfl ?_
  refine j_aload_n F 0 rfl rfl dX3_finish_47 ?_
  refine j_callV (d' := 0) (argl := []) (rk9 := 0) (st := []) F hno M_X2_end q843 q844 q842 ⟨by decide, by decide⟩ (Nat.le_of_ble_eq_true rfl) (by decide) (ci := 3) rfl (by decide) (kl27.is (kl24.is (kl19.is (kl16.is (kl12.is g9))))) dX3_finish_48 rfl h (fun z hz => c_X2_end l F.ht G v1 M26 z hz) (fun v28 M29 h kl30 => ?_)
  refine j_st (st' := []) rfl ?_
  refine j_aload_n F 1 rfl rfl dX3_finish_51 ?_
  refine j_iload_n F 2 rfl rfl dX3_finish_52 ?_
  refine j_callV (d' := 0) (argl := [(true, x1)]) (rk9 := 2) (st := []) F hno M_X3_faultsOf q847 q848 q846 ⟨by decide, by decide⟩ (Nat.le_of_ble_eq_true rfl) (by decide) (ci := 4) rfl (by decide) (kl30.is (kl27.is (kl24.is (kl19.is (kl16.is (kl12.is (kl7.is (kl3.is g4)))))))) dX3_finish_53 rfl h (fun z hz => c_X3_faultsOf l F.ht G x0 x1 M29 z hz) (fun v31 M32 h kl33 => ?_)
  refine j_st (st' := [(false, v31)]) rfl ?_
  obtain ⟨g37, h⟩ := gua h
  refine j_callV (d' := 0) (argl := []) (rk9 := 0) (st := []) F hno M_X5_clear q851 q852 q850 ⟨by decide, by decide⟩ (Nat.le_of_ble_eq_true rfl) (by decide) (ci := 6) rfl (by decide) g37 dX3_finish_56 rfl h (fun z hz => c_X5_clear l F.ht G v31 M32 z hz) (fun v34 M35 h kl36 => ?_)
  refine j_st (st' := []) rfl ?_
  refine j_iconst F dX3_finish_59 ?_
  refine j_istore_n F (lv' := [(3, (true, 0)), (2, (false, v1)), (0, (false, x0)), (1, (true, x1))]) rfl (by decide) rfl dX3_finish_60 ?_
  refine j_sub (lv' := [(0, (false, x0)), (1, (true, x1)), (3, (true, 0))]) [2, 3, 0] rfl ?_
  exact w_X3_finish_61 F hno hnm FU x0 x1 0 M35 h
theorem c_X3_finish (l : Launch) (hl : l.stackTraces = false) (G : Gt) (x0 x1 : Int) (M : Mo) (z : RS) (h : X3_finish x0 x1 M = some z) : CT l G yX3_finish (cn yX3_finish cX3_finish 5 none) 9 [(false, x0), (true, x1)] M 0 z :=
  ctOf hl (by decide) (Nat.le_of_ble_eq_true rfl) (fun p e R s m args below meth c ρ F hno hnm => w_X3_finish_0 F hno hnm x0 x1 M h)
theorem dX3_alter_0 : decode cX3_alter 0 = .ok (.aload_n 1, 1) := by decide +kernel
set_option maxRecDepth 100000 in
theorem q721 : Cond.fieldLink RX3 142 "ToolPlex$Message" "file" "I" ∈ GT := gt 721 (by decide +kernel) (by decide +kernel)
theorem ft_X3_142 : FT RX3 142 RX6 7 RX6 TX6 17 1 := ⟨rfl, by decide, by decide, q721, Or.inl rfl, inGX6⟩
theorem dX3_alter_1 : decode cX3_alter 1 = .ok (.getfield 142, 3) := by decide +kernel
theorem dX3_alter_4 : decode cX3_alter 4 = .ok (.istore_n 2, 1) := by decide +kernel
theorem dX3_alter_5 : decode cX3_alter 5 = .ok (.aload_n 0, 1) := by decide +kernel
theorem dX3_alter_6 : decode cX3_alter 6 = .ok (.iload_n 2, 1) := by decide +kernel
theorem dX3_alter_7 : decode cX3_alter 7 = .ok (.invokevirtual 89, 3) := by decide +kernel
theorem dX3_alter_10 : decode cX3_alter 10 = .ok (.astore_n 3, 1) := by decide +kernel
theorem dX3_alter_11 : decode cX3_alter 11 = .ok (.aload_n 3, 1) := by decide +kernel
theorem dX3_alter_12 : decode cX3_alter 12 = .ok (.aload_n 1, 1) := by decide +kernel
set_option maxRecDepth 100000 in
theorem q913 : Cond.methodLink RX3 143 yX2_alter ∈ GT := gt 913 (by decide +kernel) (by decide +kernel)
theorem dX3_alter_13 : decode cX3_alter 13 = .ok (.invokevirtual 143, 3) := by decide +kernel
theorem dX3_alter_16 : decode cX3_alter 16 = .ok (.aload_n 0, 1) := by decide +kernel
theorem dX3_alter_17 : decode cX3_alter 17 = .ok (.getfield 44, 3) := by decide +kernel
theorem dX3_alter_20 : decode cX3_alter 20 = .ok (.iload_n 2, 1) := by decide +kernel
theorem dX3_alter_21 : decode cX3_alter 21 = .ok (.aload_n 3, 1) := by decide +kernel
theorem dX3_alter_22 : decode cX3_alter 22 = .ok (.getfield 118, 3) := by decide +kernel
theorem dX3_alter_25 : decode cX3_alter 25 = .ok (.invokevirtual 82, 3) := by decide +kernel
theorem dX3_alter_28 : decode cX3_alter 28 = .ok (.aload_n 0, 1) := by decide +kernel
theorem dX3_alter_29 : decode cX3_alter 29 = .ok (.aload_n 1, 1) := by decide +kernel
theorem dX3_alter_30 : decode cX3_alter 30 = .ok (.aload_n 3, 1) := by decide +kernel
theorem dX3_alter_31 : decode cX3_alter 31 = .ok (.getfield 118, 3) := by decide +kernel
theorem dX3_alter_34 : decode cX3_alter 34 = .ok (.invokevirtual 114, 3) := by decide +kernel
theorem dX3_alter_37 : decode cX3_alter 37 = .ok (.aload_n 3, 1) := by decide +kernel
theorem dX3_alter_38 : decode cX3_alter 38 = .ok (.aload_n 0, 1) := by decide +kernel
theorem dX3_alter_39 : decode cX3_alter 39 = .ok (.iload_n 2, 1) := by decide +kernel
theorem dX3_alter_40 : decode cX3_alter 40 = .ok (.invokevirtual 122, 3) := by decide +kernel
set_option maxRecDepth 100000 in
theorem q933 : Cond.code yX2_moveOn cX2_moveOn 2 none ∈ GT := gt 933 (rfl) (by decide +kernel)
theorem M_X2_moveOn : MY yX2_moveOn cX2_moveOn 2 none 1 := ⟨q933, q61, by decide +kernel, by decide +kernel⟩
set_option maxRecDepth 100000 in
theorem q931 : Cond.instanceMethod yX2_moveOn ∈ GT := gt 931 (by decide +kernel) (by decide +kernel)
set_option maxRecDepth 100000 in
theorem q932 : Cond.selects RX2 yX2_moveOn yX2_moveOn ∈ GT := gt 932 (by decide +kernel) (by decide +kernel)
set_option maxRecDepth 100000 in
theorem q930 : Cond.methodLink RX3 146 yX2_moveOn ∈ GT := gt 930 (by decide +kernel) (by decide +kernel)
theorem dX3_alter_43 : decode cX3_alter 43 = .ok (.invokevirtual 146, 3) := by decide +kernel
theorem dX3_alter_46 : decode cX3_alter 46 = .ok (.iconst 0, 1) := by decide +kernel
theorem dX3_alter_47 : decode cX3_alter 47 = .ok (.istore 4, 2) := by decide +kernel
theorem dX3_alter_49 : decode cX3_alter 49 = .ok (.iload 4, 2) := by decide +kernel
theorem dX3_alter_51 : decode cX3_alter 51 = .ok (.aload_n 0, 1) := by decide +kernel
theorem dX3_alter_52 : decode cX3_alter 52 = .ok (.getfield 36, 3) := by decide +kernel
theorem dX3_alter_55 : decode cX3_alter 55 = .ok (.invokevirtual 52, 3) := by decide +kernel
theorem dX3_alter_58 : decode cX3_alter 58 = .ok (.if_icmp .ge 100, 3) := by decide +kernel
theorem dX3_alter_158 : decode cX3_alter 158 = .ok (.aload_n 3, 1) := by decide +kernel
theorem dX3_alter_159 : decode cX3_alter 159 = .ok (.getfield 118, 3) := by decide +kernel
theorem dX3_alter_162 : decode cX3_alter 162 = .ok (.ireturn, 1) := by decide +kernel
theorem dX3_alter_61 : decode cX3_alter 61 = .ok (.aload_n 0, 1) := by decide +kernel
theorem dX3_alter_62 : decode cX3_alter 62 = .ok (.getfield 36, 3) := by decide +kernel
theorem dX3_alter_65 : decode cX3_alter 65 = .ok (.iload 4, 2) := by decide +kernel
theorem dX3_alter_67 : decode cX3_alter 67 = .ok (.invokevirtual 56, 3) := by decide +kernel
theorem dX3_alter_70 : decode cX3_alter 70 = .ok (.checkcast 60, 3) := by decide +kernel
theorem dX3_alter_73 : decode cX3_alter 73 = .ok (.astore 5, 2) := by decide +kernel
theorem dX3_alter_75 : decode cX3_alter 75 = .ok (.aload 5, 2) := by decide +kernel
theorem dX3_alter_77 : decode cX3_alter 77 = .ok (.getfield 129, 3) := by decide +kernel
theorem dX3_alter_80 : decode cX3_alter 80 = .ok (.iconst 1, 1) := by decide +kernel
theorem dX3_alter_81 : decode cX3_alter 81 = .ok (.if_icmp .ne 35, 3) := by decide +kernel
theorem dX3_alter_84 : decode cX3_alter 84 = .ok (.aload 5, 2) := by decide +kernel
set_option maxRecDepth 100000 in
theorem q972 : Cond.fieldLink RX3 150 "ToolPlex$Ask" "kind" "I" ∈ GT := gt 972 (by decide +kernel) (by decide +kernel)
theorem ft_X3_150 : FT RX3 150 RX0 1 RX0 TX0 5 0 := ⟨rfl, by decide, by decide, q972, Or.inl rfl, inGX0⟩
theorem dX3_alter_86 : decode cX3_alter 86 = .ok (.getfield 150, 3) := by decide +kernel
set_option maxRecDepth 100000 in
theorem q946 : Cond.code yX11_isMoved cX11_isMoved 1 (some FieldType.boolean) ∈ GT := gt 946 (rfl) (by decide +kernel)
theorem M_X11_isMoved : MY yX11_isMoved cX11_isMoved 1 (some FieldType.boolean) 1 := ⟨q946, q53, by decide +kernel, by decide +kernel⟩
set_option maxRecDepth 100000 in
theorem q945 : Cond.static yX11_isMoved ∈ GT := gt 945 (by decide +kernel) (by decide +kernel)
set_option maxRecDepth 100000 in
theorem q944 : Cond.methodLinkNest RX3 153 yX11_isMoved "ToolPlex" ∈ GT := gt 944 (by decide +kernel) (by decide +kernel)
theorem dX3_alter_89 : decode cX3_alter 89 = .ok (.invokestatic 153, 3) := by decide +kernel
theorem dX3_alter_92 : decode cX3_alter 92 = .ok (.ifCond .eq 24, 3) := by decide +kernel
theorem dX3_alter_95 : decode cX3_alter 95 = .ok (.aload 5, 2) := by decide +kernel
theorem dX3_alter_97 : decode cX3_alter 97 = .ok (.getfield 132, 3) := by decide +kernel
theorem dX3_alter_100 : decode cX3_alter 100 = .ok (.iload_n 2, 1) := by decide +kernel
theorem dX3_alter_101 : decode cX3_alter 101 = .ok (.if_icmp .ne 15, 3) := by decide +kernel
theorem dX3_alter_104 : decode cX3_alter 104 = .ok (.aload_n 3, 1) := by decide +kernel
theorem dX3_alter_105 : decode cX3_alter 105 = .ok (.aload 5, 2) := by decide +kernel
theorem dX3_alter_107 : decode cX3_alter 107 = .ok (.getfield 135, 3) := by decide +kernel
theorem dX3_alter_110 : decode cX3_alter 110 = .ok (.invokevirtual 146, 3) := by decide +kernel
theorem dX3_alter_113 : decode cX3_alter 113 = .ok (.goto 39, 3) := by decide +kernel
theorem dX3_alter_116 : decode cX3_alter 116 = .ok (.aload 5, 2) := by decide +kernel
theorem dX3_alter_118 : decode cX3_alter 118 = .ok (.getfield 129, 3) := by decide +kernel
theorem dX3_alter_121 : decode cX3_alter 121 = .ok (.iconst 1, 1) := by decide +kernel
theorem dX3_alter_122 : decode cX3_alter 122 = .ok (.if_icmp .ne 30, 3) := by decide +kernel
theorem dX3_alter_125 : decode cX3_alter 125 = .ok (.aload 5, 2) := by decide +kernel
theorem dX3_alter_127 : decode cX3_alter 127 = .ok (.getfield 132, 3) := by decide +kernel
theorem dX3_alter_130 : decode cX3_alter 130 = .ok (.iload_n 2, 1) := by decide +kernel
theorem dX3_alter_131 : decode cX3_alter 131 = .ok (.if_icmp .eq 15, 3) := by decide +kernel
theorem dX3_alter_134 : decode cX3_alter 134 = .ok (.aload 5, 2) := by decide +kernel
theorem dX3_alter_136 : decode cX3_alter 136 = .ok (.getfield 135, 3) := by decide +kernel
theorem dX3_alter_139 : decode cX3_alter 139 = .ok (.iload_n 2, 1) := by decide +kernel
theorem dX3_alter_140 : decode cX3_alter 140 = .ok (.invokevirtual 138, 3) := by decide +kernel
theorem dX3_alter_143 : decode cX3_alter 143 = .ok (.ifCond .eq 9, 3) := by decide +kernel
theorem dX3_alter_146 : decode cX3_alter 146 = .ok (.aload 5, 2) := by decide +kernel
theorem dX3_alter_148 : decode cX3_alter 148 = .ok (.iconst 3, 1) := by decide +kernel
theorem dX3_alter_149 : decode cX3_alter 149 = .ok (.putfield 129, 3) := by decide +kernel
theorem dX3_alter_152 : decode cX3_alter 152 = .ok (.iinc 4 1, 3) := by decide +kernel
theorem dX3_alter_155 : decode cX3_alter 155 = .ok (.goto (-106), 3) := by decide +kernel
set_option maxHeartbeats 4000000 in
set_option maxRecDepth 100000 in
theorem w_X3_alter_152 {p : Program} {l : Launch} {e : Env} {R : Room} {s : State} {m : MethodId} {args : Array Value} {below : List Frame} {meth : Method} {c : Code} {G : Gt} {ρ0 : Int → Nat} {M0 : Mo} {res : RS} (F : Fx p l R s m args meth c cX3_alter 6 RX3 G M0 9 (some FieldType.int)) (hno : ∀ x ∈ c.exceptionTable.toList, False) (hnm : meth.name = yX3_alter.name) (k49 : Int → Int → Int → Int → Mo → Option RS) (hk49 : ∀ (x0 x2 x3 x4 : Int) (M : Mo), k49 x0 x2 x3 x4 M = some res → J p l e R s m args below meth c 6 G ρ0 M0 1 res M 49 [(0, (false, x0)), (2, (true, x2)), (3, (false, x3)), (4, (true, x4))] []) (x0 x2 x3 x4 : Int) (M : Mo) (h : X3_alter_152 k49 x0 x2 x3 x4 M = some res) : J p l e R s m args below meth c 6 G ρ0 M0 1 res M 152 [(0, (false, x0)), (2, (true, x2)), (3, (false, x3)), (4, (true, x4))] [] := by
  unfold X3_alter_152 at h
  refine j_iinc F 3 (lv' := [(4, (true, (x4 + 1))), (0, (false, x0)), (2, (true, x2)), (3, (false, x3))]) rfl (by decide) rfl dX3_alter_152 ?_
  refine j_goto F 49 (by decide) dX3_alter_155 ?_
  refine j_sub (lv' := [(0, (false, x0)), (2, (true, x2)), (3, (false, x3)), (4, (true, (x4 + 1)))]) [1, 2, 3, 0] rfl ?_
  exact hk49 x0 x2 x3 (x4 + 1) M h
set_option maxHeartbeats 4000000 in
set_option maxRecDepth 100000 in
theorem w_X3_alter_146 {p : Program} {l : Launch} {e : Env} {R : Room} {s : State} {m : MethodId} {args : Array Value} {below : List Frame} {meth : Method} {c : Code} {G : Gt} {ρ0 : Int → Nat} {M0 : Mo} {res : RS} (F : Fx p l R s m args meth c cX3_alter 6 RX3 G M0 9 (some FieldType.int)) (hno : ∀ x ∈ c.exceptionTable.toList, False) (hnm : meth.name = yX3_alter.name) (k49 : Int → Int → Int → Int → Mo → Option RS) (hk49 : ∀ (x0 x2 x3 x4 : Int) (M : Mo), k49 x0 x2 x3 x4 M = some res → J p l e R s m args below meth c 6 G ρ0 M0 1 res M 49 [(0, (false, x0)), (2, (true, x2)), (3, (false, x3)), (4, (true, x4))] []) (x0 x2 x3 x4 x5 : Int) (M : Mo) (h : X3_alter_146 k49 x0 x2 x3 x4 x5 M = some res) : J p l e R s m args below meth c 6 G ρ0 M0 1 res M 146 [(0, (false, x0)), (2, (true, x2)), (3, (false, x3)), (4, (true, x4)), (5, (false, x5))] [] := by
  unfold X3_alter_146 at h
  refine j_aload F 4 rfl dX3_alter_146 ?_
  refine j_iconst F dX3_alter_148 ?_
  obtain ⟨g1, h⟩ := gua h
  refine j_put (ty := .int) F ft_X3_129 rfl rfl tyX0 tyX0_ok nmX0 (by decide +kernel) (nf_int _) g1 dX3_alter_149 ?_
  obtain ⟨M2, hM2⟩ : ∃ Z, Z = sF M 1 3 x5 3 := ⟨_, rfl⟩
  have kl3 : kle M M2 := by rw [hM2]; exact kle_sF
  rw [← hM2]
  replace h := pt_as h hM2
  refine j_sub (lv' := [(0, (false, x0)), (2, (true, x2)), (3, (false, x3)), (4, (true, x4))]) [0, 1, 2, 3] rfl ?_
  exact w_X3_alter_152 F hno hnm k49 hk49 x0 x2 x3 x4 M2 h
set_option maxHeartbeats 4000000 in
set_option maxRecDepth 100000 in
theorem w_X3_alter_116 {p : Program} {l : Launch} {e : Env} {R : Room} {s : State} {m : MethodId} {args : Array Value} {below : List Frame} {meth : Method} {c : Code} {G : Gt} {ρ0 : Int → Nat} {M0 : Mo} {res : RS} (F : Fx p l R s m args meth c cX3_alter 6 RX3 G M0 9 (some FieldType.int)) (hno : ∀ x ∈ c.exceptionTable.toList, False) (hnm : meth.name = yX3_alter.name) (k49 : Int → Int → Int → Int → Mo → Option RS) (hk49 : ∀ (x0 x2 x3 x4 : Int) (M : Mo), k49 x0 x2 x3 x4 M = some res → J p l e R s m args below meth c 6 G ρ0 M0 1 res M 49 [(0, (false, x0)), (2, (true, x2)), (3, (false, x3)), (4, (true, x4))] []) (x0 x2 x3 x4 x5 : Int) (M : Mo) (h : X3_alter_116 k49 x0 x2 x3 x4 x5 M = some res) : J p l e R s m args below meth c 6 G ρ0 M0 1 res M 116 [(0, (false, x0)), (2, (true, x2)), (3, (false, x3)), (4, (true, x4)), (5, (false, x5))] [] := by
  unfold X3_alter_116 at h
  refine j_aload F 4 rfl dX3_alter_116 ?_
  obtain ⟨g1, h⟩ := gua h
  refine j_get F ft_X3_129 rfl g1 dX3_alter_118 ?_
  refine j_iconst F dX3_alter_121 ?_
  refine j_icmp_ne F 152 (by decide) dX3_alter_122 h (fun h => ?_) (fun h => ?_)
  · skip
    refine j_sub (lv' := [(0, (false, x0)), (2, (true, x2)), (3, (false, x3)), (4, (true, x4))]) [0, 1, 2, 3] rfl ?_
    exact w_X3_alter_152 F hno hnm k49 hk49 x0 x2 x3 x4 M h
  · skip
    refine j_aload F 4 rfl dX3_alter_125 ?_
    refine j_get F ft_X3_132 rfl g1 dX3_alter_127 ?_
    refine j_iload_n F 1 rfl rfl dX3_alter_130 ?_
    refine j_icmp_eq F 146 (by decide) dX3_alter_131 h (fun h => ?_) (fun h => ?_)
    · skip
      refine j_sub (lv' := [(0, (false, x0)), (2, (true, x2)), (3, (false, x3)), (4, (true, x4)), (5, (false, x5))]) [0, 1, 2, 3, 4] rfl ?_
      exact w_X3_alter_146 F hno hnm k49 hk49 x0 x2 x3 x4 x5 M h
    · skip
      refine j_aload F 4 rfl dX3_alter_134 ?_
      refine j_get F ft_X3_135 rfl g1 dX3_alter_136 ?_
      refine j_iload_n F 1 rfl rfl dX3_alter_139 ?_
      obtain ⟨g5, h⟩ := gua h
      refine j_callV (d' := 2) (argl := [(true, x2)]) (rk9 := 1) (st := []) F hno M_X5_isIn q871 q872 q870 ⟨by decide, by decide⟩ (Nat.le_of_ble_eq_true rfl) (by decide) (ci := 6) rfl (by decide) g5 dX3_alter_140 rfl h (fun z hz => c_X5_isIn l F.ht G (fd M 1 4 x5) x2 M z hz) (fun v2 M3 h kl4 => ?_)
      refine j_st (st' := [(true, v2)]) rfl ?_
      refine j_if_eq F 152 (by decide) dX3_alter_143 h (fun h => ?_) (fun h => ?_)
      · skip
        refine j_sub (lv' := [(0, (false, x0)), (2, (true, x2)), (3, (false, x3)), (4, (true, x4))]) [0, 1, 2, 3] rfl ?_
        exact w_X3_alter_152 F hno hnm k49 hk49 x0 x2 x3 x4 M3 h
      · skip
        refine j_sub (lv' := [(0, (false, x0)), (2, (true, x2)), (3, (false, x3)), (4, (true, x4)), (5, (false, x5))]) [0, 1, 2, 3, 4] rfl ?_
        exact w_X3_alter_146 F hno hnm k49 hk49 x0 x2 x3 x4 x5 M3 h
set_option maxHeartbeats 4000000 in
set_option maxRecDepth 100000 in
theorem w_X3_alter_49 {p : Program} {l : Launch} {e : Env} {R : Room} {s : State} {m : MethodId} {args : Array Value} {below : List Frame} {meth : Method} {c : Code} {G : Gt} {ρ0 : Int → Nat} {M0 : Mo} {res : RS} (F : Fx p l R s m args meth c cX3_alter 6 RX3 G M0 9 (some FieldType.int)) (hno : ∀ x ∈ c.exceptionTable.toList, False) (hnm : meth.name = yX3_alter.name) (n : Nat) : ∀ (x0 x2 x3 x4 : Int) (M : Mo), X3_alter_49 n x0 x2 x3 x4 M = some res → J p l e R s m args below meth c 6 G ρ0 M0 1 res M 49 [(0, (false, x0)), (2, (true, x2)), (3, (false, x3)), (4, (true, x4))] [] := by
  induction n with
  | zero => intro x0 x2 x3 x4 M h; cases h
  | succ n ih =>
    intro x0 x2 x3 x4 M h
    rw [X3_alter_49] at h
    refine j_iload F 3 rfl dX3_alter_49 ?_
    refine j_aload_n F 0 rfl rfl dX3_alter_51 ?_
    obtain ⟨g1, h⟩ := gua h
    refine j_get F ft_X3_36 rfl g1 dX3_alter_52 ?_
    obtain ⟨g5, h⟩ := gua h
    refine j_callV (d' := 0) (argl := []) (rk9 := 1) (st := [(true, x4)]) F hno M_Jx4a65c_size_8abf5 q448 q449 q854 ⟨by decide, by decide⟩ (Nat.le_of_ble_eq_true rfl) (by decide) (ci := 0) rfl (by decide) g5 dX3_alter_55 rfl h (fun z hz => c_Jx4a65c_size_8abf5 l F.ht G (fd M 4 7 x0) M z hz) (fun v2 M3 h kl4 => ?_)
    refine j_st (st' := [(true, v2), (true, x4)]) rfl ?_
    refine j_icmp_ge F 158 (by decide) dX3_alter_58 h (fun h => ?_) (fun h => ?_)
    · skip
      refine j_aload_n F 2 rfl rfl dX3_alter_158 ?_
      obtain ⟨g6, h⟩ := gua h
      refine j_get F ft_X3_118 rfl g6 dX3_alter_159 ?_
      exact j_iret F h dX3_alter_162
    · skip
      refine j_aload_n F 0 rfl rfl dX3_alter_61 ?_
      refine j_get F ft_X3_36 rfl (kl4.is g1) dX3_alter_62 ?_
      refine j_iload F 3 rfl dX3_alter_65 ?_
      obtain ⟨g10, h⟩ := gua h
      refine j_callV (d' := 2) (argl := [(true, x4)]) (rk9 := 2) (st := []) F hno M_Jx4a65c_get_915e3 q856 q857 q855 ⟨by decide, by decide⟩ (Nat.le_of_ble_eq_true rfl) (by decide) (ci := 0) rfl (by decide) g10 dX3_alter_67 rfl h (fun z hz => c_Jx4a65c_get_915e3 l F.ht G (fd M3 4 7 x0) x4 M3 z hz) (fun v7 M8 h kl9 => ?_)
      refine j_st (st' := [(false, v7)]) rfl ?_
      obtain ⟨g11, h⟩ := gua h
      refine j_cast F q869 rfl (by decide) g11 dX3_alter_70 ?_
      refine j_astore F (lv' := [(5, (false, v7)), (0, (false, x0)), (2, (true, x2)), (3, (false, x3)), (4, (true, x4))]) (by decide) rfl dX3_alter_73 ?_
      refine j_aload F 0 rfl dX3_alter_75 ?_
      obtain ⟨g12, h⟩ := gua h
      refine j_get F ft_X3_129 rfl g12 dX3_alter_77 ?_
      refine j_iconst F dX3_alter_80 ?_
      refine j_icmp_ne F 116 (by decide) dX3_alter_81 h (fun h => ?_) (fun h => ?_)
      · skip
        refine j_sub (lv' := [(0, (false, x0)), (2, (true, x2)), (3, (false, x3)), (4, (true, x4)), (5, (false, v7))]) [1, 2, 3, 4, 0] rfl ?_
        exact w_X3_alter_116 F hno hnm (X3_alter_49 n) ih x0 x2 x3 x4 v7 M8 h
      · skip
        refine j_aload F 0 rfl dX3_alter_84 ?_
        refine j_get F ft_X3_150 rfl g12 dX3_alter_86 ?_
        refine j_callSN (d' := 0) (argl := [(true, (fd M8 1 0 v7))]) (rk9 := 1) (st := []) F M_X11_isMoved q945 q944 ⟨by decide, by decide⟩ (Nat.le_of_ble_eq_true rfl) (by decide) dX3_alter_89 rfl h (fun z hz => c_X11_isMoved l F.ht G (fd M8 1 0 v7) M8 z hz) (fun v13 M14 h kl15 => ?_)
        refine j_st (st' := [(true, v13)]) rfl ?_
        refine j_if_eq F 116 (by decide) dX3_alter_92 h (fun h => ?_) (fun h => ?_)
        · skip
          refine j_sub (lv' := [(0, (false, x0)), (2, (true, x2)), (3, (false, x3)), (4, (true, x4)), (5, (false, v7))]) [1, 2, 3, 4, 0] rfl ?_
          exact w_X3_alter_116 F hno hnm (X3_alter_49 n) ih x0 x2 x3 x4 v7 M14 h
        · skip
          refine j_aload F 0 rfl dX3_alter_95 ?_
          refine j_get F ft_X3_132 rfl (kl15.is g12) dX3_alter_97 ?_
          refine j_iload_n F 2 rfl rfl dX3_alter_100 ?_
          refine j_icmp_ne F 116 (by decide) dX3_alter_101 h (fun h => ?_) (fun h => ?_)
          · skip
            refine j_sub (lv' := [(0, (false, x0)), (2, (true, x2)), (3, (false, x3)), (4, (true, x4)), (5, (false, v7))]) [1, 2, 3, 4, 0] rfl ?_
            exact w_X3_alter_116 F hno hnm (X3_alter_49 n) ih x0 x2 x3 x4 v7 M14 h
          · skip
            refine j_aload_n F 3 rfl rfl dX3_alter_104 ?_
            refine j_aload F 0 rfl dX3_alter_105 ?_
            refine j_get F ft_X3_135 rfl (kl15.is g12) dX3_alter_107 ?_
            obtain ⟨g19, h⟩ := gua h
            refine j_callV (d' := 2) (argl := [(false, (fd M14 1 4 v7))]) (rk9 := 0) (st := []) F hno M_X2_moveOn q931 q932 q930 ⟨by decide, by decide⟩ (Nat.le_of_ble_eq_true rfl) (by decide) (ci := 3) rfl (by decide) g19 dX3_alter_110 rfl h (fun z hz => c_X2_moveOn l F.ht G x3 (fd M14 1 4 v7) M14 z hz) (fun v16 M17 h kl18 => ?_)
            refine j_st (st' := []) rfl ?_
            refine j_goto F 152 (by decide) dX3_alter_113 ?_
            refine j_sub (lv' := [(0, (false, x0)), (2, (true, x2)), (3, (false, x3)), (4, (true, x4))]) [1, 2, 3, 4] rfl ?_
            exact w_X3_alter_152 F hno hnm (X3_alter_49 n) ih x0 x2 x3 x4 M17 h
set_option maxHeartbeats 4000000 in
set_option maxRecDepth 100000 in
theorem w_X3_alter_0 {p : Program} {l : Launch} {e : Env} {R : Room} {s : State} {m : MethodId} {args : Array Value} {below : List Frame} {meth : Method} {c : Code} {G : Gt} {ρ0 : Int → Nat} {M0 : Mo} {res : RS} (F : Fx p l R s m args meth c cX3_alter 6 RX3 G M0 9 (some FieldType.int)) (hno : ∀ x ∈ c.exceptionTable.toList, False) (hnm : meth.name = yX3_alter.name) (x0 x1 : Int) (M : Mo) (h : X3_alter x0 x1 M = some res) : J p l e R s m args below meth c 6 G ρ0 M0 1 res M 0 [(0, (false, x0)), (1, (false, x1))] [] := by
  unfold X3_alter at h
  refine j_aload_n F 1 rfl rfl dX3_alter_0 ?_
  obtain ⟨g1, h⟩ := gua h
  refine j_get F ft_X3_142 rfl g1 dX3_alter_1 ?_
  refine j_istore_n F (lv' := [(2, (true, (fd M 7 1 x1))), (0, (false, x0)), (1, (false, x1))]) rfl (by decide) rfl dX3_alter_4 ?_
  refine j_aload_n F 1 rfl rfl dX3_alter_5 ?_
  refine j_iload_n F 0 rfl rfl dX3_alter_6 ?_
  obtain ⟨g5, h⟩ := gua h
  refine j_callV (d' := 0) (argl := [(true, (fd M 7 1 x1))]) (rk9 := 2) (st := []) F hno M_X3_copyOf q689 q690 q688 ⟨by decide, by decide⟩ (Nat.le_of_ble_eq_true rfl) (by decide) (ci := 4) rfl (by decide) g5 dX3_alter_7 rfl h (fun z hz => c_X3_copyOf l F.ht G x0 (fd M 7 1 x1) M z hz) (fun v2 M3 h kl4 => ?_)
  refine j_st (st' := [(false, v2)]) rfl ?_
  refine j_astore_n F (lv' := [(3, (false, v2)), (2, (true, (fd M 7 1 x1))), (0, (false, x0)), (1, (false, x1))]) rfl (by decide) rfl dX3_alter_10 ?_
  refine j_aload_n F 0 rfl rfl dX3_alter_11 ?_
  refine j_aload_n F 3 rfl rfl dX3_alter_12 ?_
  obtain ⟨g9, h⟩ := gua h
  refine j_callV (d' := 3) (argl := [(false, x1)]) (rk9 := 0) (st := []) F hno M_X2_alter q914 q915 q913 ⟨by decide, by decide⟩ (Nat.le_of_ble_eq_true rfl) (by decide) (ci := 3) rfl (by decide) g9 dX3_alter_13 rfl h (fun z hz => c_X2_alter l F.ht G v2 x1 M3 z hz) (fun v6 M7 h kl8 => ?_)
  refine j_st (st' := []) rfl ?_
  refine j_aload_n F 2 rfl rfl dX3_alter_16 ?_
  refine j_get F ft_X3_44 rfl (kl8.is (kl4.is g5)) dX3_alter_17 ?_
  refine j_iload_n F 1 rfl rfl dX3_alter_20 ?_
  refine j_aload_n F 0 rfl rfl dX3_alter_21 ?_
  refine j_get F ft_X3_118 rfl (kl8.is g9) dX3_alter_22 ?_
  obtain ⟨g13, h⟩ := gua h
  refine j_callV (d' := 1) (argl := [(true, (fd M 7 1 x1)), (true, (fd M7 3 4 v2))]) (rk9 := 0) (st := []) F hno M_X4_setVersion q681 q682 q680 ⟨by decide, by decide⟩ (Nat.le_of_ble_eq_true rfl) (by decide) (ci := 5) rfl (by decide) g13 dX3_alter_25 rfl h (fun z hz => c_X4_setVersion l F.ht G (fd M7 4 1 x0) (fd M 7 1 x1) (fd M7 3 4 v2) M7 z hz) (fun v10 M11 h kl12 => ?_)
  refine j_st (st' := []) rfl ?_
  refine j_aload_n F 2 rfl rfl dX3_alter_28 ?_
  refine j_aload_n F 3 rfl rfl dX3_alter_29 ?_
  refine j_aload_n F 0 rfl rfl dX3_alter_30 ?_
  refine j_get F ft_X3_118 rfl (kl12.is (kl8.is g9)) dX3_alter_31 ?_
  refine j_callV (d' := 8) (argl := [(false, x1), (true, (fd M11 3 4 v2))]) (rk9 := 0) (st := []) F hno M_X3_send q817 q7 q815 ⟨by decide, by decide⟩ (Nat.le_of_ble_eq_true rfl) (by decide) (ci := 4) rfl (by decide) (kl12.is (kl8.is (kl4.is g5))) dX3_alter_34 rfl h (fun z hz => c_X3_send l F.ht G x0 x1 (fd M11 3 4 v2) M11 z hz) (fun v14 M15 h kl16 => ?_)
  refine j_st (st' := []) rfl ?_
  refine j_aload_n F 0 rfl rfl dX3_alter_37 ?_
  refine j_aload_n F 2 rfl rfl dX3_alter_38 ?_
  refine j_iload_n F 1 rfl rfl dX3_alter_39 ?_
  refine j_callV (d' := 0) (argl := [(true, (fd M 7 1 x1))]) (rk9 := 2) (st := [(false, v2)]) F hno M_X3_faultsOf q847 q848 q846 ⟨by decide, by decide⟩ (Nat.le_of_ble_eq_true rfl) (by decide) (ci := 4) rfl (by decide) (kl16.is (kl12.is (kl8.is (kl4.is g5)))) dX3_alter_40 rfl h (fun z hz => c_X3_faultsOf l F.ht G x0 (fd M 7 1 x1) M15 z hz) (fun v17 M18 h kl19 => ?_)
  refine j_st (st' := [(false, v17), (false, v2)]) rfl ?_
  refine j_callV (d' := 2) (argl := [(false, v17)]) (rk9 := 0) (st := []) F hno M_X2_moveOn q931 q932 q930 ⟨by decide, by decide⟩ (Nat.le_of_ble_eq_true rfl) (by decide) (ci := 3) rfl (by decide) (kl19.is (kl16.is (kl12.is (kl8.is g9)))) dX3_alter_43 rfl h (fun z hz => c_X2_moveOn l F.ht G v2 v17 M18 z hz) (fun v20 M21 h kl22 => ?_)
  refine j_st (st' := []) rfl ?_
  refine j_iconst F dX3_alter_46 ?_
  refine j_istore F (lv' := [(4, (true, 0)), (3, (false, v2)), (2, (true, (fd M 7 1 x1))), (0, (false, x0)), (1, (false, x1))]) (by decide) rfl dX3_alter_47 ?_
  refine j_sub (lv' := [(0, (false, x0)), (2, (true, (fd M 7 1 x1))), (3, (false, v2)), (4, (true, 0))]) [3, 2, 1, 0] rfl ?_
  exact w_X3_alter_49 F hno hnm FU x0 (fd M 7 1 x1) v2 0 M21 h
theorem c_X3_alter (l : Launch) (hl : l.stackTraces = false) (G : Gt) (x0 x1 : Int) (M : Mo) (z : RS) (h : X3_alter x0 x1 M = some z) : CT l G yX3_alter (cn yX3_alter cX3_alter 6 (some FieldType.int)) 9 [(false, x0), (false, x1)] M 1 z :=
  ctOf hl (by decide) (Nat.le_of_ble_eq_true rfl) (fun p e R s m args below meth c ρ F hno hnm => w_X3_alter_0 F hno hnm x0 x1 M h)
theorem dX3_replaceSpan_0 : decode cX3_replaceSpan 0 = .ok (.aload_n 0, 1) := by decide +kernel
theorem dX3_replaceSpan_1 : decode cX3_replaceSpan 1 = .ok (.iload_n 1, 1) := by decide +kernel
theorem dX3_replaceSpan_2 : decode cX3_replaceSpan 2 = .ok (.invokevirtual 89, 3) := by decide +kernel
theorem dX3_replaceSpan_5 : decode cX3_replaceSpan 5 = .ok (.getfield 117, 3) := by decide +kernel
theorem dX3_replaceSpan_8 : decode cX3_replaceSpan 8 = .ok (.astore 5, 2) := by decide +kernel
theorem dX3_replaceSpan_10 : decode cX3_replaceSpan 10 = .ok (.new 63, 3) := by decide +kernel
theorem dX3_replaceSpan_13 : decode cX3_replaceSpan 13 = .ok (.dup, 1) := by decide +kernel
theorem dX3_replaceSpan_14 : decode cX3_replaceSpan 14 = .ok (.iconst 1, 1) := by decide +kernel
theorem dX3_replaceSpan_15 : decode cX3_replaceSpan 15 = .ok (.iload_n 1, 1) := by decide +kernel
theorem dX3_replaceSpan_16 : decode cX3_replaceSpan 16 = .ok (.invokespecial 101, 3) := by decide +kernel
theorem dX3_replaceSpan_19 : decode cX3_replaceSpan 19 = .ok (.astore 6, 2) := by decide +kernel
theorem dX3_replaceSpan_21 : decode cX3_replaceSpan 21 = .ok (.aload 6, 2) := by decide +kernel
theorem dX3_replaceSpan_23 : decode cX3_replaceSpan 23 = .ok (.aload 5, 2) := by decide +kernel
theorem dX3_replaceSpan_25 : decode cX3_replaceSpan 25 = .ok (.iload_n 2, 1) := by decide +kernel
set_option maxRecDepth 100000 in
theorem q1062 : Cond.code yX10_lineOf cX10_lineOf 4 (some FieldType.int) ∈ GT := gt 1062 (rfl) (by decide +kernel)
theorem M_X10_lineOf : MY yX10_lineOf cX10_lineOf 4 (some FieldType.int) 1 := ⟨q1062, q54, by decide +kernel, by decide +kernel⟩
set_option maxRecDepth 100000 in
theorem q1060 : Cond.instanceMethod yX10_lineOf ∈ GT := gt 1060 (by decide +kernel) (by decide +kernel)
set_option maxRecDepth 100000 in
theorem q1061 : Cond.selects RX10 yX10_lineOf yX10_lineOf ∈ GT := gt 1061 (by decide +kernel) (by decide +kernel)
set_option maxRecDepth 100000 in
theorem q1059 : Cond.methodLink RX3 156 yX10_lineOf ∈ GT := gt 1059 (by decide +kernel) (by decide +kernel)
theorem dX3_replaceSpan_26 : decode cX3_replaceSpan 26 = .ok (.invokevirtual 156, 3) := by decide +kernel
set_option maxRecDepth 100000 in
theorem q741 : Cond.fieldLink RX3 159 "ToolPlex$Message" "line" "I" ∈ GT := gt 741 (by decide +kernel) (by decide +kernel)
theorem ft_X3_159 : FT RX3 159 RX6 7 RX6 TX6 17 6 := ⟨rfl, by decide, by decide, q741, Or.inl rfl, inGX6⟩
theorem dX3_replaceSpan_29 : decode cX3_replaceSpan 29 = .ok (.putfield 159, 3) := by decide +kernel
theorem dX3_replaceSpan_32 : decode cX3_replaceSpan 32 = .ok (.aload 6, 2) := by decide +kernel
theorem dX3_replaceSpan_34 : decode cX3_replaceSpan 34 = .ok (.iload_n 2, 1) := by decide +kernel
theorem dX3_replaceSpan_35 : decode cX3_replaceSpan 35 = .ok (.aload 5, 2) := by decide +kernel
theorem dX3_replaceSpan_37 : decode cX3_replaceSpan 37 = .ok (.iload_n 2, 1) := by decide +kernel
set_option maxRecDepth 100000 in
theorem q1063 : Cond.methodLink RX3 162 yX10_lineStart ∈ GT := gt 1063 (by decide +kernel) (by decide +kernel)
theorem dX3_replaceSpan_38 : decode cX3_replaceSpan 38 = .ok (.invokevirtual 162, 3) := by decide +kernel
theorem dX3_replaceSpan_41 : decode cX3_replaceSpan 41 = .ok (.isub, 1) := by decide +kernel
set_option maxRecDepth 100000 in
theorem q746 : Cond.fieldLink RX3 165 "ToolPlex$Message" "unit" "I" ∈ GT := gt 746 (by decide +kernel) (by decide +kernel)
theorem ft_X3_165 : FT RX3 165 RX6 7 RX6 TX6 17 7 := ⟨rfl, by decide, by decide, q746, Or.inl rfl, inGX6⟩
theorem dX3_replaceSpan_42 : decode cX3_replaceSpan 42 = .ok (.putfield 165, 3) := by decide +kernel
theorem dX3_replaceSpan_45 : decode cX3_replaceSpan 45 = .ok (.aload 6, 2) := by decide +kernel
theorem dX3_replaceSpan_47 : decode cX3_replaceSpan 47 = .ok (.aload 5, 2) := by decide +kernel
theorem dX3_replaceSpan_49 : decode cX3_replaceSpan 49 = .ok (.iload_n 3, 1) := by decide +kernel
theorem dX3_replaceSpan_50 : decode cX3_replaceSpan 50 = .ok (.invokevirtual 156, 3) := by decide +kernel
set_option maxRecDepth 100000 in
theorem q750 : Cond.fieldLink RX3 168 "ToolPlex$Message" "toLine" "I" ∈ GT := gt 750 (by decide +kernel) (by decide +kernel)
theorem ft_X3_168 : FT RX3 168 RX6 7 RX6 TX6 17 8 := ⟨rfl, by decide, by decide, q750, Or.inl rfl, inGX6⟩
theorem dX3_replaceSpan_53 : decode cX3_replaceSpan 53 = .ok (.putfield 168, 3) := by decide +kernel
theorem dX3_replaceSpan_56 : decode cX3_replaceSpan 56 = .ok (.aload 6, 2) := by decide +kernel
theorem dX3_replaceSpan_58 : decode cX3_replaceSpan 58 = .ok (.iload_n 3, 1) := by decide +kernel
theorem dX3_replaceSpan_59 : decode cX3_replaceSpan 59 = .ok (.aload 5, 2) := by decide +kernel
theorem dX3_replaceSpan_61 : decode cX3_replaceSpan 61 = .ok (.iload_n 3, 1) := by decide +kernel
theorem dX3_replaceSpan_62 : decode cX3_replaceSpan 62 = .ok (.invokevirtual 162, 3) := by decide +kernel
theorem dX3_replaceSpan_65 : decode cX3_replaceSpan 65 = .ok (.isub, 1) := by decide +kernel
set_option maxRecDepth 100000 in
theorem q753 : Cond.fieldLink RX3 171 "ToolPlex$Message" "toUnit" "I" ∈ GT := gt 753 (by decide +kernel) (by decide +kernel)
theorem ft_X3_171 : FT RX3 171 RX6 7 RX6 TX6 17 9 := ⟨rfl, by decide, by decide, q753, Or.inl rfl, inGX6⟩
theorem dX3_replaceSpan_66 : decode cX3_replaceSpan 66 = .ok (.putfield 171, 3) := by decide +kernel
theorem dX3_replaceSpan_69 : decode cX3_replaceSpan 69 = .ok (.aload 6, 2) := by decide +kernel
theorem dX3_replaceSpan_71 : decode cX3_replaceSpan 71 = .ok (.iload 4, 2) := by decide +kernel
set_option maxRecDepth 100000 in
theorem q757 : Cond.fieldLink RX3 174 "ToolPlex$Message" "code" "I" ∈ GT := gt 757 (by decide +kernel) (by decide +kernel)
theorem ft_X3_174 : FT RX3 174 RX6 7 RX6 TX6 17 10 := ⟨rfl, by decide, by decide, q757, Or.inl rfl, inGX6⟩
theorem dX3_replaceSpan_73 : decode cX3_replaceSpan 73 = .ok (.putfield 174, 3) := by decide +kernel
theorem dX3_replaceSpan_76 : decode cX3_replaceSpan 76 = .ok (.aload_n 0, 1) := by decide +kernel
theorem dX3_replaceSpan_77 : decode cX3_replaceSpan 77 = .ok (.aload 6, 2) := by decide +kernel
set_option maxRecDepth 100000 in
theorem q912 : Cond.code yX3_alter cX3_alter 6 (some FieldType.int) ∈ GT := gt 912 (rfl) (by decide +kernel)
theorem M_X3_alter : MY yX3_alter cX3_alter 6 (some FieldType.int) 1 := ⟨q912, q60, by decide +kernel, by decide +kernel⟩
set_option maxRecDepth 100000 in
theorem q910 : Cond.instanceMethod yX3_alter ∈ GT := gt 910 (by decide +kernel) (by decide +kernel)
set_option maxRecDepth 100000 in
theorem q911 : Cond.selects RX3 yX3_alter yX3_alter ∈ GT := gt 911 (by decide +kernel) (by decide +kernel)
set_option maxRecDepth 100000 in
theorem q1067 : Cond.methodLink RX3 177 yX3_alter ∈ GT := gt 1067 (by decide +kernel) (by decide +kernel)
theorem dX3_replaceSpan_79 : decode cX3_replaceSpan 79 = .ok (.invokevirtual 177, 3) := by decide +kernel
theorem dX3_replaceSpan_82 : decode cX3_replaceSpan 82 = .ok (.pop, 1) := by decide +kernel
theorem dX3_replaceSpan_83 : decode cX3_replaceSpan 83 = .ok (.return_, 1) := by decide +kernel
set_option maxHeartbeats 4000000 in
set_option maxRecDepth 100000 in
theorem w_X3_replaceSpan_0 {p : Program} {l : Launch} {e : Env} {R : Room} {s : State} {m : MethodId} {args : Array Value} {below : List Frame} {meth : Method} {c : Code} {G : Gt} {ρ0 : Int → Nat} {M0 : Mo} {res : RS} (F : Fx p l R s m args meth c cX3_replaceSpan 7 RX3 G M0 10 none) (hno : ∀ x ∈ c.exceptionTable.toList, False) (hnm : meth.name = yX3_replaceSpan.name) (x0 x1 x2 x3 x4 : Int) (M : Mo) (h : X3_replaceSpan x0 x1 x2 x3 x4 M = some res) : J p l e R s m args below meth c 7 G ρ0 M0 0 res M 0 [(0, (false, x0)), (1, (true, x1)), (2, (true, x2)), (3, (true, x3)), (4, (true, x4))] [] := by
  unfold X3_replaceSpan at h
  refine j_aload_n F 0 rfl rfl dX3_replaceSpan_0 ?_
  refine j_iload_n F 1 rfl rfl dX3_replaceSpan_1 ?_
  obtain ⟨g4, h⟩ := gua h
  refine j_callV (d' := 0) (argl := [(true, x1)]) (rk9 := 2) (st := []) F hno M_X3_copyOf q689 q690 q688 ⟨by decide, by decide⟩ (Nat.le_of_ble_eq_true rfl) (by decide) (ci := 4) rfl (by decide) g4 dX3_replaceSpan_2 rfl h (fun z hz => c_X3_copyOf l F.ht G x0 x1 M z hz) (fun v1 M2 h kl3 => ?_)
  refine j_st (st' := [(false, v1)]) rfl ?_
  obtain ⟨g5, h⟩ := gua h
  refine j_get F ft_X3_117 rfl g5 dX3_replaceSpan_5 ?_
  refine j_astore F (lv' := [(5, (false, (fd M2 3 0 v1))), (0, (false, x0)), (1, (true, x1)), (2, (true, x2)), (3, (true, x3)), (4, (true, x4))]) (by decide) rfl dX3_replaceSpan_8 ?_
  obtain ⟨g6, h⟩ := gua h
  refine j_new (ci := 7) F inGX6 tyX6 tyX6_ok q705 q706 q75 rfl (by decide) dfX6 g6 dX3_replaceSpan_10 (fun kl7 => ?_)
  obtain ⟨M8, hM8⟩ : ∃ Z, Z = nO M2 7 17 := ⟨_, rfl⟩
  have g9 : kd M8 (nid M2) = 8 := by rw [hM8]; exact kd_nO
  rw [← hM8] at kl7 ⊢
  replace h := pt_as h hM8
  refine j_dup F dX3_replaceSpan_13 ?_
  refine j_iconst F dX3_replaceSpan_14 ?_
  refine j_iload_n F 2 rfl rfl dX3_replaceSpan_15 ?_
  refine j_callI (d' := 2) (argl := [(true, 1), (true, x1)]) (rk9 := 0) (st := [(false, (nid M2))]) F M_X6_init q708 rfl q707 ⟨by decide, by decide⟩ (Nat.le_of_ble_eq_true rfl) (by decide) (by rw [g9]; decide) dX3_replaceSpan_16 rfl h (fun z hz => c_X6_init l F.ht G (nid M2) 1 x1 M8 z hz) (fun v10 M11 h kl12 => ?_)
  refine j_st (st' := [(false, (nid M2))]) rfl ?_
  refine j_astore F (lv' := [(6, (false, (nid M2))), (5, (false, (fd M2 3 0 v1))), (0, (false, x0)), (1, (true, x1)), (2, (true, x2)), (3, (true, x3)), (4, (true, x4))]) (by decide) rfl dX3_replaceSpan_19 ?_
  refine j_aload F 0 rfl dX3_replaceSpan_21 ?_
  refine j_aload F 1 rfl dX3_replaceSpan_23 ?_
  refine j_iload_n F 4 rfl rfl dX3_replaceSpan_25 ?_
  obtain ⟨g16, h⟩ := gua h
  refine j_callV (d' := 1) (argl := [(true, x2)]) (rk9 := 1) (st := [(false, (nid M2))]) F hno M_X10_lineOf q1060 q1061 q1059 ⟨by decide, by decide⟩ (Nat.le_of_ble_eq_true rfl) (by decide) (ci := 11) rfl (by decide) g16 dX3_replaceSpan_26 rfl h (fun z hz => c_X10_lineOf l F.ht G (fd M2 3 0 v1) x2 M11 z hz) (fun v13 M14 h kl15 => ?_)
  refine j_st (st' := [(true, v13), (false, (nid M2))]) rfl ?_
  refine j_put (ty := .int) F ft_X3_159 rfl rfl tyX6 tyX6_ok nmX6 (by decide +kernel) (nf_int _) (kl15.is (kl12.is g9)) dX3_replaceSpan_29 ?_
  obtain ⟨M17, hM17⟩ : ∃ Z, Z = sF M14 7 6 (nid M2) v13 := ⟨_, rfl⟩
  have kl18 : kle M14 M17 := by rw [hM17]; exact kle_sF
  rw [← hM17]
  replace h := pt_as h hM17
  refine j_aload F 0 rfl dX3_replaceSpan_32 ?_
  refine j_iload_n F 4 rfl rfl dX3_replaceSpan_34 ?_
  refine j_aload F 1 rfl dX3_replaceSpan_35 ?_
  refine j_iload_n F 4 rfl rfl dX3_replaceSpan_37 ?_
  refine j_callV (d' := 1) (argl := [(true, x2)]) (rk9 := 1) (st := [(true, x2), (false, (nid M2))]) F hno M_X10_lineStart q1064 q1065 q1063 ⟨by decide, by decide⟩ (Nat.le_of_ble_eq_true rfl) (by decide) (ci := 11) rfl (by decide) (kl18.is (kl15.is g16)) dX3_replaceSpan_38 rfl h (fun z hz => c_X10_lineStart l F.ht G (fd M2 3 0 v1) x2 M17 z hz) (fun v19 M20 h kl21 => ?_)
  refine j_st (st' := [(true, v19), (true, x2), (false, (nid M2))]) rfl ?_
  refine j_isub F dX3_replaceSpan_41 ?_
  refine j_put (ty := .int) F ft_X3_165 rfl rfl tyX6 tyX6_ok nmX6 (by decide +kernel) (nf_int _) (kl21.is (kl18.is (kl15.is (kl12.is g9)))) dX3_replaceSpan_42 ?_
  obtain ⟨M22, hM22⟩ : ∃ Z, Z = sF M20 7 7 (nid M2) (x2 - v19) := ⟨_, rfl⟩
  have kl23 : kle M20 M22 := by rw [hM22]; exact kle_sF
  rw [← hM22]
  replace h := pt_as h hM22
  refine j_aload F 0 rfl dX3_replaceSpan_45 ?_
  refine j_aload F 1 rfl dX3_replaceSpan_47 ?_
  refine j_iload_n F 5 rfl rfl dX3_replaceSpan_49 ?_
  refine j_callV (d' := 1) (argl := [(true, x3)]) (rk9 := 1) (st := [(false, (nid M2))]) F hno M_X10_lineOf q1060 q1061 q1059 ⟨by decide, by decide⟩ (Nat.le_of_ble_eq_true rfl) (by decide) (ci := 11) rfl (by decide) (kl23.is (kl21.is (kl18.is (kl15.is g16)))) dX3_replaceSpan_50 rfl h (fun z hz => c_X10_lineOf l F.ht G (fd M2 3 0 v1) x3 M22 z hz) (fun v24 M25 h kl26 => ?_)
  refine j_st (st' := [(true, v24), (false, (nid M2))]) rfl ?_
  refine j_put (ty := .int) F ft_X3_168 rfl rfl tyX6 tyX6_ok nmX6 (by decide +kernel) (nf_int _) (kl26.is (kl23.is (kl21.is (kl18.is (kl15.is (kl12.is g9)))))) dX3_replaceSpan_53 ?_
  obtain ⟨M27, hM27⟩ : ∃ Z, Z = sF M25 7 8 (nid M2) v24 := ⟨_, rfl⟩
  have kl28 : kle M25 M27 := by rw [hM27]; exact kle_sF
  rw [← hM27]
  replace h := pt_as h hM27
  refine j_aload F 0 rfl dX3_replaceSpan_56 ?_
  refine j_iload_n F 5 rfl rfl dX3_replaceSpan_58 ?_
  refine j_aload F 1 rfl dX3_replaceSpan_59 ?_
  refine j_iload_n F 5 rfl rfl dX3_replaceSpan_61 ?_
  refine j_callV (d' := 1) (argl := [(true, x3)]) (rk9 := 1) (st := [(true, x3), (false, (nid M2))]) F hno M_X10_lineStart q1064 q1065 q1063 ⟨by decide, by decide⟩ (Nat.le_of_ble_eq_true rfl) (by decide) (ci := 11) rfl (by decide) (kl28.is (kl26.is (kl23.is (kl21.is (kl18.is (kl15.is g16)))))) dX3_replaceSpan_62 rfl h (fun z hz => c_X10_lineStart l F.ht G (fd M2 3 0 v1) x3 M27 z hz) (fun v29 M30 h kl31 => ?_)
  refine j_st (st' := [(true, v29), (true, x3), (false, (nid M2))]) rfl ?_
  refine j_isub F dX3_replaceSpan_65 ?_
  refine j_put (ty := .int) F ft_X3_171 rfl rfl tyX6 tyX6_ok nmX6 (by decide +kernel) (nf_int _) (kl31.is (kl28.is (kl26.is (kl23.is (kl21.is (kl18.is (kl15.is (kl12.is g9)))))))) dX3_replaceSpan_66 ?_
  obtain ⟨M32, hM32⟩ : ∃ Z, Z = sF M30 7 9 (nid M2) (x3 - v29) := ⟨_, rfl⟩
  have kl33 : kle M30 M32 := by rw [hM32]; exact kle_sF
  rw [← hM32]
  replace h := pt_as h hM32
  refine j_aload F 0 rfl dX3_replaceSpan_69 ?_
  refine j_iload F 6 rfl dX3_replaceSpan_71 ?_
  refine j_put (ty := .int) F ft_X3_174 rfl rfl tyX6 tyX6_ok nmX6 (by decide +kernel) (nf_int _) (kl33.is (kl31.is (kl28.is (kl26.is (kl23.is (kl21.is (kl18.is (kl15.is (kl12.is g9))))))))) dX3_replaceSpan_73 ?_
  obtain ⟨M34, hM34⟩ : ∃ Z, Z = sF M32 7 10 (nid M2) x4 := ⟨_, rfl⟩
  have kl35 : kle M32 M34 := by rw [hM34]; exact kle_sF
  rw [← hM34]
  replace h := pt_as h hM34
  refine j_aload_n F 2 rfl rfl dX3_replaceSpan_76 ?_
  refine j_aload F 0 rfl dX3_replaceSpan_77 ?_
  refine j_callV (d' := 9) (argl := [(false, (nid M2))]) (rk9 := 1) (st := []) F hno M_X3_alter q910 q911 q1067 ⟨by decide, by decide⟩ (Nat.le_of_ble_eq_true rfl) (by decide) (ci := 4) rfl (by decide) (kl35.is (kl33.is (kl31.is (kl28.is (kl26.is (kl23.is (kl21.is (kl18.is (kl15.is (kl12.is (kl7.is (kl3.is g4)))))))))))) dX3_replaceSpan_79 rfl h (fun z hz => c_X3_alter l F.ht G x0 (nid M2) M34 z hz) (fun v36 M37 h kl38 => ?_)
  refine j_st (st' := [(true, v36)]) rfl ?_
  refine j_pop F dX3_replaceSpan_82 ?_
  exact j_vret F (v := 0) h dX3_replaceSpan_83
theorem c_X3_replaceSpan (l : Launch) (hl : l.stackTraces = false) (G : Gt) (x0 x1 x2 x3 x4 : Int) (M : Mo) (z : RS) (h : X3_replaceSpan x0 x1 x2 x3 x4 M = some z) : CT l G yX3_replaceSpan (cn yX3_replaceSpan cX3_replaceSpan 7 none) 10 [(false, x0), (true, x1), (true, x2), (true, x3), (true, x4)] M 0 z :=
  ctOf hl (by decide) (Nat.le_of_ble_eq_true rfl) (fun p e R s m args below meth c ρ F hno hnm => w_X3_replaceSpan_0 F hno hnm x0 x1 x2 x3 x4 M h)
theorem dX3_ask_0 : decode cX3_ask 0 = .ok (.aload_n 0, 1) := by decide +kernel
theorem dX3_ask_1 : decode cX3_ask 1 = .ok (.getfield 36, 3) := by decide +kernel
theorem dX3_ask_4 : decode cX3_ask 4 = .ok (.invokevirtual 52, 3) := by decide +kernel
theorem dX3_ask_7 : decode cX3_ask 7 = .ok (.istore_n 2, 1) := by decide +kernel
theorem dX3_ask_8 : decode cX3_ask 8 = .ok (.aload_n 0, 1) := by decide +kernel
theorem dX3_ask_9 : decode cX3_ask 9 = .ok (.getfield 36, 3) := by decide +kernel
theorem dfX0 : ∀ j, j < 5 → defaultValue (tyX0 j) = vp_V ((lay 1).map (fun b => if b then Value.int 0 else .null)) j := by decide +kernel
set_option maxRecDepth 100000 in
theorem q964 : Cond.instantiable RX0 5 ∈ GT := gt 964 (by decide +kernel) (by decide +kernel)
set_option maxRecDepth 100000 in
theorem q78 : Cond.initialized RX0 ∈ GT := gt 78 (by decide +kernel) (by decide +kernel)
theorem dX3_ask_12 : decode cX3_ask 12 = .ok (.new 60, 3) := by decide +kernel
theorem dX3_ask_15 : decode cX3_ask 15 = .ok (.dup, 1) := by decide +kernel
theorem dX3_ask_16 : decode cX3_ask 16 = .ok (.aload_n 1, 1) := by decide +kernel
set_option maxRecDepth 100000 in
theorem q732 : Cond.fieldLink RX3 180 "ToolPlex$Message" "asked" "I" ∈ GT := gt 732 (by decide +kernel) (by decide +kernel)
theorem ft_X3_180 : FT RX3 180 RX6 7 RX6 TX6 17 4 := ⟨rfl, by decide, by decide, q732, Or.inl rfl, inGX6⟩
theorem dX3_ask_17 : decode cX3_ask 17 = .ok (.getfield 180, 3) := by decide +kernel
theorem dX3_ask_20 : decode cX3_ask 20 = .ok (.aload_n 1, 1) := by decide +kernel
theorem dX3_ask_21 : decode cX3_ask 21 = .ok (.getfield 142, 3) := by decide +kernel
theorem dX3_ask_24 : decode cX3_ask 24 = .ok (.aload_n 1, 1) := by decide +kernel
theorem dX3_ask_25 : decode cX3_ask 25 = .ok (.getfield 174, 3) := by decide +kernel
set_option maxRecDepth 100000 in
theorem q967 : Cond.code yX0_init cX0_init 4 none ∈ GT := gt 967 (rfl) (by decide +kernel)
theorem M_X0_init : MY yX0_init cX0_init 4 none 3 := ⟨q967, q78, by decide +kernel, by decide +kernel⟩
set_option maxRecDepth 100000 in
theorem q966 : Cond.instanceMethod yX0_init ∈ GT := gt 966 (by decide +kernel) (by decide +kernel)
set_option maxRecDepth 100000 in
theorem q965 : Cond.methodLink RX3 183 yX0_init ∈ GT := gt 965 (by decide +kernel) (by decide +kernel)
theorem dX3_ask_28 : decode cX3_ask 28 = .ok (.invokespecial 183, 3) := by decide +kernel
set_option maxRecDepth 100000 in
theorem q995 : Cond.methodLink RX3 186 yJx4a65c_add_9ea2d ∈ GT := gt 995 (by decide +kernel) (by decide +kernel)
theorem dX3_ask_31 : decode cX3_ask 31 = .ok (.invokevirtual 186, 3) := by decide +kernel
theorem dX3_ask_34 : decode cX3_ask 34 = .ok (.pop, 1) := by decide +kernel
theorem dX3_ask_35 : decode cX3_ask 35 = .ok (.aload_n 1, 1) := by decide +kernel
theorem dX3_ask_36 : decode cX3_ask 36 = .ok (.iload_n 2, 1) := by decide +kernel
set_option maxRecDepth 100000 in
theorem q727 : Cond.fieldLink RX3 190 "ToolPlex$Message" "number" "I" ∈ GT := gt 727 (by decide +kernel) (by decide +kernel)
theorem ft_X3_190 : FT RX3 190 RX6 7 RX6 TX6 17 3 := ⟨rfl, by decide, by decide, q727, Or.inl rfl, inGX6⟩
theorem dX3_ask_37 : decode cX3_ask 37 = .ok (.putfield 190, 3) := by decide +kernel
theorem dX3_ask_40 : decode cX3_ask 40 = .ok (.aload_n 0, 1) := by decide +kernel
theorem dX3_ask_41 : decode cX3_ask 41 = .ok (.aload_n 1, 1) := by decide +kernel
theorem dX3_ask_42 : decode cX3_ask 42 = .ok (.aload_n 0, 1) := by decide +kernel
theorem dX3_ask_43 : decode cX3_ask 43 = .ok (.aload_n 1, 1) := by decide +kernel
theorem dX3_ask_44 : decode cX3_ask 44 = .ok (.getfield 142, 3) := by decide +kernel
theorem dX3_ask_47 : decode cX3_ask 47 = .ok (.invokevirtual 89, 3) := by decide +kernel
theorem dX3_ask_50 : decode cX3_ask 50 = .ok (.getfield 118, 3) := by decide +kernel
theorem dX3_ask_53 : decode cX3_ask 53 = .ok (.invokevirtual 114, 3) := by decide +kernel
theorem dX3_ask_56 : decode cX3_ask 56 = .ok (.iload_n 2, 1) := by decide +kernel
theorem dX3_ask_57 : decode cX3_ask 57 = .ok (.ireturn, 1) := by decide +kernel
set_option maxHeartbeats 4000000 in
set_option maxRecDepth 100000 in
theorem w_X3_ask_0 {p : Program} {l : Launch} {e : Env} {R : Room} {s : State} {m : MethodId} {args : Array Value} {below : List Frame} {meth : Method} {c : Code} {G : Gt} {ρ0 : Int → Nat} {M0 : Mo} {res : RS} (F : Fx p l R s m args meth c cX3_ask 3 RX3 G M0 9 (some FieldType.int)) (hno : ∀ x ∈ c.exceptionTable.toList, False) (hnm : meth.name = yX3_ask.name) (x0 x1 : Int) (M : Mo) (h : X3_ask x0 x1 M = some res) : J p l e R s m args below meth c 3 G ρ0 M0 1 res M 0 [(0, (false, x0)), (1, (false, x1))] [] := by
  unfold X3_ask at h
  refine j_aload_n F 0 rfl rfl dX3_ask_0 ?_
  obtain ⟨g1, h⟩ := gua h
  refine j_get F ft_X3_36 rfl g1 dX3_ask_1 ?_
  obtain ⟨g5, h⟩ := gua h
  refine j_callV (d' := 0) (argl := []) (rk9 := 1) (st := []) F hno M_Jx4a65c_size_8abf5 q448 q449 q854 ⟨by decide, by decide⟩ (Nat.le_of_ble_eq_true rfl) (by decide) (ci := 0) rfl (by decide) g5 dX3_ask_4 rfl h (fun z hz => c_Jx4a65c_size_8abf5 l F.ht G (fd M 4 7 x0) M z hz) (fun v2 M3 h kl4 => ?_)
  refine j_st (st' := [(true, v2)]) rfl ?_
  refine j_istore_n F (lv' := [(2, (true, v2)), (0, (false, x0)), (1, (false, x1))]) rfl (by decide) rfl dX3_ask_7 ?_
  refine j_aload_n F 1 rfl rfl dX3_ask_8 ?_
  refine j_get F ft_X3_36 rfl (kl4.is g1) dX3_ask_9 ?_
  obtain ⟨g6, h⟩ := gua h
  refine j_new (ci := 1) F inGX0 tyX0 tyX0_ok q869 q964 q78 rfl (by decide) dfX0 g6 dX3_ask_12 (fun kl7 => ?_)
  obtain ⟨M8, hM8⟩ : ∃ Z, Z = nO M3 1 5 := ⟨_, rfl⟩
  have g9 : kd M8 (nid M3) = 2 := by rw [hM8]; exact kd_nO
  rw [← hM8] at kl7 ⊢
  replace h := pt_as h hM8
  refine j_dup F dX3_ask_15 ?_
  refine j_aload_n F 2 rfl rfl dX3_ask_16 ?_
  obtain ⟨g10, h⟩ := gua h
  refine j_get F ft_X3_180 rfl g10 dX3_ask_17 ?_
  refine j_aload_n F 2 rfl rfl dX3_ask_20 ?_
  refine j_get F ft_X3_142 rfl g10 dX3_ask_21 ?_
  refine j_aload_n F 2 rfl rfl dX3_ask_24 ?_
  refine j_get F ft_X3_174 rfl g10 dX3_ask_25 ?_
  refine j_callI (d' := 2) (argl := [(true, (fd M8 7 4 x1)), (true, (fd M8 7 1 x1)), (true, (fd M8 7 10 x1))]) (rk9 := 0) (st := [(false, (nid M3)), (false, (fd M3 4 7 x0))]) F M_X0_init q966 rfl q965 ⟨by decide, by decide⟩ (Nat.le_of_ble_eq_true rfl) (by decide) (by rw [g9]; decide) dX3_ask_28 rfl h (fun z hz => c_X0_init l F.ht G (nid M3) (fd M8 7 4 x1) (fd M8 7 1 x1) (fd M8 7 10 x1) M8 z hz) (fun v11 M12 h kl13 => ?_)
  refine j_st (st' := [(false, (nid M3)), (false, (fd M3 4 7 x0))]) rfl ?_
  obtain ⟨g17, h⟩ := gua h
  refine j_callV (d' := 6) (argl := [(false, (nid M3))]) (rk9 := 1) (st := []) F hno M_Jx4a65c_add_9ea2d q515 q516 q995 ⟨by decide, by decide⟩ (Nat.le_of_ble_eq_true rfl) (by decide) (ci := 0) rfl (by decide) g17 dX3_ask_31 rfl h (fun z hz => c_Jx4a65c_add_9ea2d l F.ht G (fd M3 4 7 x0) (nid M3) M12 z hz) (fun v14 M15 h kl16 => ?_)
  refine j_st (st' := [(true, v14)]) rfl ?_
  refine j_pop F dX3_ask_34 ?_
  refine j_aload_n F 2 rfl rfl dX3_ask_35 ?_
  refine j_iload_n F 0 rfl rfl dX3_ask_36 ?_
  refine j_put (ty := .int) F ft_X3_190 rfl rfl tyX6 tyX6_ok nmX6 (by decide +kernel) (nf_int _) (kl16.is (kl13.is g10)) dX3_ask_37 ?_
  obtain ⟨M18, hM18⟩ : ∃ Z, Z = sF M15 7 3 x1 v2 := ⟨_, rfl⟩
  have kl19 : kle M15 M18 := by rw [hM18]; exact kle_sF
  rw [← hM18]
  replace h := pt_as h hM18
  refine j_aload_n F 1 rfl rfl dX3_ask_40 ?_
  refine j_aload_n F 2 rfl rfl dX3_ask_41 ?_
  refine j_aload_n F 1 rfl rfl dX3_ask_42 ?_
  refine j_aload_n F 2 rfl rfl dX3_ask_43 ?_
  refine j_get F ft_X3_142 rfl (kl19.is (kl16.is (kl13.is g10))) dX3_ask_44 ?_
  refine j_callV (d' := 0) (argl := [(true, (fd M18 7 1 x1))]) (rk9 := 2) (st := [(false, x1), (false, x0)]) F hno M_X3_copyOf q689 q690 q688 ⟨by decide, by decide⟩ (Nat.le_of_ble_eq_true rfl) (by decide) (ci := 4) rfl (by decide) (kl19.is (kl16.is (kl13.is (kl7.is (kl4.is g1))))) dX3_ask_47 rfl h (fun z hz => c_X3_copyOf l F.ht G x0 (fd M18 7 1 x1) M18 z hz) (fun v20 M21 h kl22 => ?_)
  refine j_st (st' := [(false, v20), (false, x1), (false, x0)]) rfl ?_
  obtain ⟨g23, h⟩ := gua h
  refine j_get F ft_X3_118 rfl g23 dX3_ask_50 ?_
  refine j_callV (d' := 8) (argl := [(false, x1), (true, (fd M21 3 4 v20))]) (rk9 := 0) (st := []) F hno M_X3_send q817 q7 q815 ⟨by decide, by decide⟩ (Nat.le_of_ble_eq_true rfl) (by decide) (ci := 4) rfl (by decide) (kl22.is (kl19.is (kl16.is (kl13.is (kl7.is (kl4.is g1)))))) dX3_ask_53 rfl h (fun z hz => c_X3_send l F.ht G x0 x1 (fd M21 3 4 v20) M21 z hz) (fun v24 M25 h kl26 => ?_)
  refine j_st (st' := []) rfl ?_
  refine j_iload_n F 0 rfl rfl dX3_ask_56 ?_
  exact j_iret F h dX3_ask_57
theorem c_X3_ask (l : Launch) (hl : l.stackTraces = false) (G : Gt) (x0 x1 : Int) (M : Mo) (z : RS) (h : X3_ask x0 x1 M = some z) : CT l G yX3_ask (cn yX3_ask cX3_ask 3 (some FieldType.int)) 9 [(false, x0), (false, x1)] M 1 z :=
  ctOf hl (by decide) (Nat.le_of_ble_eq_true rfl) (fun p e R s m args below meth c ρ F hno hnm => w_X3_ask_0 F hno hnm x0 x1 M h)
theorem dX3_withdraw_0 : decode cX3_withdraw 0 = .ok (.new 63, 3) := by decide +kernel
theorem dX3_withdraw_3 : decode cX3_withdraw 3 = .ok (.dup, 1) := by decide +kernel
theorem dX3_withdraw_4 : decode cX3_withdraw 4 = .ok (.iconst 4, 1) := by decide +kernel
theorem dX3_withdraw_5 : decode cX3_withdraw 5 = .ok (.aload_n 2, 1) := by decide +kernel
theorem dX3_withdraw_6 : decode cX3_withdraw 6 = .ok (.getfield 132, 3) := by decide +kernel
theorem dX3_withdraw_9 : decode cX3_withdraw 9 = .ok (.invokespecial 101, 3) := by decide +kernel
theorem dX3_withdraw_12 : decode cX3_withdraw 12 = .ok (.astore_n 3, 1) := by decide +kernel
theorem dX3_withdraw_13 : decode cX3_withdraw 13 = .ok (.aload_n 3, 1) := by decide +kernel
theorem dX3_withdraw_14 : decode cX3_withdraw 14 = .ok (.iload_n 1, 1) := by decide +kernel
theorem dX3_withdraw_15 : decode cX3_withdraw 15 = .ok (.putfield 190, 3) := by decide +kernel
theorem dX3_withdraw_18 : decode cX3_withdraw 18 = .ok (.aload_n 0, 1) := by decide +kernel
theorem dX3_withdraw_19 : decode cX3_withdraw 19 = .ok (.aload_n 3, 1) := by decide +kernel
theorem dX3_withdraw_20 : decode cX3_withdraw 20 = .ok (.iconst (-1), 1) := by decide +kernel
theorem dX3_withdraw_21 : decode cX3_withdraw 21 = .ok (.invokevirtual 114, 3) := by decide +kernel
theorem dX3_withdraw_24 : decode cX3_withdraw 24 = .ok (.return_, 1) := by decide +kernel
set_option maxHeartbeats 4000000 in
set_option maxRecDepth 100000 in
theorem w_X3_withdraw_0 {p : Program} {l : Launch} {e : Env} {R : Room} {s : State} {m : MethodId} {args : Array Value} {below : List Frame} {meth : Method} {c : Code} {G : Gt} {ρ0 : Int → Nat} {M0 : Mo} {res : RS} (F : Fx p l R s m args meth c cX3_withdraw 4 RX3 G M0 9 none) (hno : ∀ x ∈ c.exceptionTable.toList, False) (hnm : meth.name = yX3_withdraw.name) (x0 x1 x2 : Int) (M : Mo) (h : X3_withdraw x0 x1 x2 M = some res) : J p l e R s m args below meth c 4 G ρ0 M0 0 res M 0 [(0, (false, x0)), (1, (true, x1)), (2, (false, x2))] [] := by
  unfold X3_withdraw at h
  obtain ⟨g1, h⟩ := gua h
  refine j_new (ci := 7) F inGX6 tyX6 tyX6_ok q705 q706 q75 rfl (by decide) dfX6 g1 dX3_withdraw_0 (fun kl2 => ?_)
  obtain ⟨M3, hM3⟩ : ∃ Z, Z = nO M 7 17 := ⟨_, rfl⟩
  have g4 : kd M3 (nid M) = 8 := by rw [hM3]; exact kd_nO
  rw [← hM3] at kl2 ⊢
  replace h := pt_as h hM3
  refine j_dup F dX3_withdraw_3 ?_
  refine j_iconst F dX3_withdraw_4 ?_
  refine j_aload_n F 2 rfl rfl dX3_withdraw_5 ?_
  obtain ⟨g5, h⟩ := gua h
  refine j_get F ft_X3_132 rfl g5 dX3_withdraw_6 ?_
  refine j_callI (d' := 2) (argl := [(true, 4), (true, (fd M3 1 1 x2))]) (rk9 := 0) (st := [(false, (nid M))]) F M_X6_init q708 rfl q707 ⟨by decide, by decide⟩ (Nat.le_of_ble_eq_true rfl) (by decide) (by rw [g4]; decide) dX3_withdraw_9 rfl h (fun z hz => c_X6_init l F.ht G (nid M) 4 (fd M3 1 1 x2) M3 z hz) (fun v6 M7 h kl8 => ?_)
  refine j_st (st' := [(false, (nid M))]) rfl ?_
  refine j_astore_n F (lv' := [(3, (false, (nid M))), (0, (false, x0)), (1, (true, x1)), (2, (false, x2))]) rfl (by decide) rfl dX3_withdraw_12 ?_
  refine j_aload_n F 0 rfl rfl dX3_withdraw_13 ?_
  refine j_iload_n F 2 rfl rfl dX3_withdraw_14 ?_
  refine j_put (ty := .int) F ft_X3_190 rfl rfl tyX6 tyX6_ok nmX6 (by decide +kernel) (nf_int _) (kl8.is g4) dX3_withdraw_15 ?_
  obtain ⟨M9, hM9⟩ : ∃ Z, Z = sF M7 7 3 (nid M) x1 := ⟨_, rfl⟩
  have kl10 : kle M7 M9 := by rw [hM9]; exact kle_sF
  rw [← hM9]
  replace h := pt_as h hM9
  refine j_aload_n F 1 rfl rfl dX3_withdraw_18 ?_
  refine j_aload_n F 0 rfl rfl dX3_withdraw_19 ?_
  refine j_iconst F dX3_withdraw_20 ?_
  obtain ⟨g14, h⟩ := gua h
  refine j_callV (d' := 8) (argl := [(false, (nid M)), (true, (-1))]) (rk9 := 0) (st := []) F hno M_X3_send q817 q7 q815 ⟨by decide, by decide⟩ (Nat.le_of_ble_eq_true rfl) (by decide) (ci := 4) rfl (by decide) g14 dX3_withdraw_21 rfl h (fun z hz => c_X3_send l F.ht G x0 (nid M) (-1) M9 z hz) (fun v11 M12 h kl13 => ?_)
  refine j_st (st' := []) rfl ?_
  exact j_vret F (v := 0) h dX3_withdraw_24
theorem c_X3_withdraw (l : Launch) (hl : l.stackTraces = false) (G : Gt) (x0 x1 x2 : Int) (M : Mo) (z : RS) (h : X3_withdraw x0 x1 x2 M = some z) : CT l G yX3_withdraw (cn yX3_withdraw cX3_withdraw 4 none) 9 [(false, x0), (true, x1), (false, x2)] M 0 z :=
  ctOf hl (by decide) (Nat.le_of_ble_eq_true rfl) (fun p e R s m args below meth c ρ F hno hnm => w_X3_withdraw_0 F hno hnm x0 x1 x2 M h)
theorem dX3_canApply_0 : decode cX3_canApply 0 = .ok (.aload_n 0, 1) := by decide +kernel
theorem dX3_canApply_1 : decode cX3_canApply 1 = .ok (.getfield 44, 3) := by decide +kernel
theorem dX3_canApply_4 : decode cX3_canApply 4 = .ok (.aload_n 1, 1) := by decide +kernel
set_option maxRecDepth 100000 in
theorem q977 : Cond.fieldLink RX3 191 "ToolPlex$Ask" "letter" "I" ∈ GT := gt 977 (by decide +kernel) (by decide +kernel)
theorem ft_X3_191 : FT RX3 191 RX0 1 RX0 TX0 5 2 := ⟨rfl, by decide, by decide, q977, Or.inl rfl, inGX0⟩
theorem dX3_canApply_5 : decode cX3_canApply 5 = .ok (.getfield 191, 3) := by decide +kernel
set_option maxRecDepth 100000 in
theorem q421 : Cond.code yX4_named cX4_named 3 (some FieldType.int) ∈ GT := gt 421 (rfl) (by decide +kernel)
theorem M_X4_named : MY yX4_named cX4_named 3 (some FieldType.int) 1 := ⟨q421, q55, by decide +kernel, by decide +kernel⟩
set_option maxRecDepth 100000 in
theorem q419 : Cond.instanceMethod yX4_named ∈ GT := gt 419 (by decide +kernel) (by decide +kernel)
set_option maxRecDepth 100000 in
theorem q420 : Cond.selects RX4 yX4_named yX4_named ∈ GT := gt 420 (by decide +kernel) (by decide +kernel)
set_option maxRecDepth 100000 in
theorem q1030 : Cond.methodLink RX3 194 yX4_named ∈ GT := gt 1030 (by decide +kernel) (by decide +kernel)
theorem dX3_canApply_8 : decode cX3_canApply 8 = .ok (.invokevirtual 194, 3) := by decide +kernel
theorem dX3_canApply_11 : decode cX3_canApply 11 = .ok (.istore_n 2, 1) := by decide +kernel
theorem dX3_canApply_12 : decode cX3_canApply 12 = .ok (.aload_n 1, 1) := by decide +kernel
theorem dX3_canApply_13 : decode cX3_canApply 13 = .ok (.getfield 150, 3) := by decide +kernel
theorem dX3_canApply_16 : decode cX3_canApply 16 = .ok (.iconst 5, 1) := by decide +kernel
theorem dX3_canApply_17 : decode cX3_canApply 17 = .ok (.if_icmp .ne 24, 3) := by decide +kernel
theorem dX3_canApply_41 : decode cX3_canApply 41 = .ok (.iconst 0, 1) := by decide +kernel
theorem dX3_canApply_42 : decode cX3_canApply 42 = .ok (.istore_n 3, 1) := by decide +kernel
theorem dX3_canApply_20 : decode cX3_canApply 20 = .ok (.iload_n 2, 1) := by decide +kernel
theorem dX3_canApply_21 : decode cX3_canApply 21 = .ok (.iconst (-1), 1) := by decide +kernel
theorem dX3_canApply_22 : decode cX3_canApply 22 = .ok (.if_icmp .ne 17, 3) := by decide +kernel
theorem dX3_canApply_39 : decode cX3_canApply 39 = .ok (.iconst 0, 1) := by decide +kernel
theorem dX3_canApply_40 : decode cX3_canApply 40 = .ok (.ireturn, 1) := by decide +kernel
theorem dX3_canApply_25 : decode cX3_canApply 25 = .ok (.aload_n 0, 1) := by decide +kernel
theorem dX3_canApply_26 : decode cX3_canApply 26 = .ok (.getfield 44, 3) := by decide +kernel
set_option maxRecDepth 100000 in
theorem q417 : Cond.code yX4_isFull cX4_isFull 1 (some FieldType.boolean) ∈ GT := gt 417 (rfl) (by decide +kernel)
theorem M_X4_isFull : MY yX4_isFull cX4_isFull 1 (some FieldType.boolean) 0 := ⟨q417, q55, by decide +kernel, by decide +kernel⟩
set_option maxRecDepth 100000 in
theorem q415 : Cond.instanceMethod yX4_isFull ∈ GT := gt 415 (by decide +kernel) (by decide +kernel)
set_option maxRecDepth 100000 in
theorem q416 : Cond.selects RX4 yX4_isFull yX4_isFull ∈ GT := gt 416 (by decide +kernel) (by decide +kernel)
set_option maxRecDepth 100000 in
theorem q1031 : Cond.methodLink RX3 197 yX4_isFull ∈ GT := gt 1031 (by decide +kernel) (by decide +kernel)
theorem dX3_canApply_29 : decode cX3_canApply 29 = .ok (.invokevirtual 197, 3) := by decide +kernel
theorem dX3_canApply_32 : decode cX3_canApply 32 = .ok (.ifCond .ne 7, 3) := by decide +kernel
theorem dX3_canApply_35 : decode cX3_canApply 35 = .ok (.iconst 1, 1) := by decide +kernel
theorem dX3_canApply_36 : decode cX3_canApply 36 = .ok (.goto 4, 3) := by decide +kernel
theorem dX3_canApply_43 : decode cX3_canApply 43 = .ok (.iload_n 3, 1) := by decide +kernel
theorem dX3_canApply_44 : decode cX3_canApply 44 = .ok (.aload_n 1, 1) := by decide +kernel
theorem dX3_canApply_45 : decode cX3_canApply 45 = .ok (.getfield 135, 3) := by decide +kernel
set_option maxRecDepth 100000 in
theorem q1032 : Cond.methodLink RX3 201 yX5_size ∈ GT := gt 1032 (by decide +kernel) (by decide +kernel)
theorem dX3_canApply_48 : decode cX3_canApply 48 = .ok (.invokevirtual 201, 3) := by decide +kernel
theorem dX3_canApply_51 : decode cX3_canApply 51 = .ok (.if_icmp .ge 40, 3) := by decide +kernel
theorem dX3_canApply_91 : decode cX3_canApply 91 = .ok (.iconst 1, 1) := by decide +kernel
theorem dX3_canApply_92 : decode cX3_canApply 92 = .ok (.ireturn, 1) := by decide +kernel
theorem dX3_canApply_54 : decode cX3_canApply 54 = .ok (.aload_n 1, 1) := by decide +kernel
theorem dX3_canApply_55 : decode cX3_canApply 55 = .ok (.getfield 135, 3) := by decide +kernel
theorem dX3_canApply_58 : decode cX3_canApply 58 = .ok (.iload_n 3, 1) := by decide +kernel
set_option maxRecDepth 100000 in
theorem q1033 : Cond.methodLink RX3 202 yX5_startAt ∈ GT := gt 1033 (by decide +kernel) (by decide +kernel)
theorem dX3_canApply_59 : decode cX3_canApply 59 = .ok (.invokevirtual 202, 3) := by decide +kernel
theorem dX3_canApply_62 : decode cX3_canApply 62 = .ok (.iconst (-1), 1) := by decide +kernel
theorem dX3_canApply_63 : decode cX3_canApply 63 = .ok (.if_icmp .ne 22, 3) := by decide +kernel
theorem dX3_canApply_66 : decode cX3_canApply 66 = .ok (.iload_n 2, 1) := by decide +kernel
theorem dX3_canApply_67 : decode cX3_canApply 67 = .ok (.iconst (-1), 1) := by decide +kernel
theorem dX3_canApply_68 : decode cX3_canApply 68 = .ok (.if_icmp .eq 17, 3) := by decide +kernel
theorem dX3_canApply_71 : decode cX3_canApply 71 = .ok (.iload_n 2, 1) := by decide +kernel
theorem dX3_canApply_72 : decode cX3_canApply 72 = .ok (.aload_n 1, 1) := by decide +kernel
theorem dX3_canApply_73 : decode cX3_canApply 73 = .ok (.getfield 135, 3) := by decide +kernel
theorem dX3_canApply_76 : decode cX3_canApply 76 = .ok (.iload_n 3, 1) := by decide +kernel
set_option maxRecDepth 100000 in
theorem q1037 : Cond.methodLink RX3 205 yX5_fileAt ∈ GT := gt 1037 (by decide +kernel) (by decide +kernel)
theorem dX3_canApply_77 : decode cX3_canApply 77 = .ok (.invokevirtual 205, 3) := by decide +kernel
theorem dX3_canApply_80 : decode cX3_canApply 80 = .ok (.if_icmp .eq 5, 3) := by decide +kernel
theorem dX3_canApply_83 : decode cX3_canApply 83 = .ok (.iconst 0, 1) := by decide +kernel
theorem dX3_canApply_84 : decode cX3_canApply 84 = .ok (.ireturn, 1) := by decide +kernel
theorem dX3_canApply_85 : decode cX3_canApply 85 = .ok (.iinc 3 1, 3) := by decide +kernel
theorem dX3_canApply_88 : decode cX3_canApply 88 = .ok (.goto (-45), 3) := by decide +kernel
set_option maxHeartbeats 4000000 in
set_option maxRecDepth 100000 in
theorem w_X3_canApply_85 {p : Program} {l : Launch} {e : Env} {R : Room} {s : State} {m : MethodId} {args : Array Value} {below : List Frame} {meth : Method} {c : Code} {G : Gt} {ρ0 : Int → Nat} {M0 : Mo} {res : RS} (F : Fx p l R s m args meth c cX3_canApply 4 RX3 G M0 2 (some FieldType.boolean)) (hno : ∀ x ∈ c.exceptionTable.toList, False) (hnm : meth.name = yX3_canApply.name) (k43 : Int → Int → Int → Mo → Option RS) (hk43 : ∀ (x1 x2 x3 : Int) (M : Mo), k43 x1 x2 x3 M = some res → J p l e R s m args below meth c 4 G ρ0 M0 1 res M 43 [(1, (false, x1)), (2, (true, x2)), (3, (true, x3))] []) (x1 x2 x3 : Int) (M : Mo) (h : X3_canApply_85 k43 x1 x2 x3 M = some res) : J p l e R s m args below meth c 4 G ρ0 M0 1 res M 85 [(1, (false, x1)), (2, (true, x2)), (3, (true, x3))] [] := by
  unfold X3_canApply_85 at h
  refine j_iinc F 2 (lv' := [(3, (true, (x3 + 1))), (1, (false, x1)), (2, (true, x2))]) rfl (by decide) rfl dX3_canApply_85 ?_
  refine j_goto F 43 (by decide) dX3_canApply_88 ?_
  refine j_sub (lv' := [(1, (false, x1)), (2, (true, x2)), (3, (true, (x3 + 1)))]) [1, 2, 0] rfl ?_
  exact hk43 x1 x2 (x3 + 1) M h
set_option maxHeartbeats 4000000 in
set_option maxRecDepth 100000 in
theorem w_X3_canApply_43 {p : Program} {l : Launch} {e : Env} {R : Room} {s : State} {m : MethodId} {args : Array Value} {below : List Frame} {meth : Method} {c : Code} {G : Gt} {ρ0 : Int → Nat} {M0 : Mo} {res : RS} (F : Fx p l R s m args meth c cX3_canApply 4 RX3 G M0 2 (some FieldType.boolean)) (hno : ∀ x ∈ c.exceptionTable.toList, False) (hnm : meth.name = yX3_canApply.name) (n : Nat) : ∀ (x1 x2 x3 : Int) (M : Mo), X3_canApply_43 n x1 x2 x3 M = some res → J p l e R s m args below meth c 4 G ρ0 M0 1 res M 43 [(1, (false, x1)), (2, (true, x2)), (3, (true, x3))] [] := by
  induction n with
  | zero => intro x1 x2 x3 M h; cases h
  | succ n ih =>
    intro x1 x2 x3 M h
    rw [X3_canApply_43] at h
    refine j_iload_n F 2 rfl rfl dX3_canApply_43 ?_
    refine j_aload_n F 0 rfl rfl dX3_canApply_44 ?_
    obtain ⟨g1, h⟩ := gua h
    refine j_get F ft_X3_135 rfl g1 dX3_canApply_45 ?_
    obtain ⟨g5, h⟩ := gua h
    refine j_callV (d' := 0) (argl := []) (rk9 := 1) (st := [(true, x3)]) F hno M_X5_size q1022 q1023 q1032 ⟨by decide, by decide⟩ (Nat.le_of_ble_eq_true rfl) (by decide) (ci := 6) rfl (by decide) g5 dX3_canApply_48 rfl h (fun z hz => c_X5_size l F.ht G (fd M 1 4 x1) M z hz) (fun v2 M3 h kl4 => ?_)
    refine j_st (st' := [(true, v2), (true, x3)]) rfl ?_
    refine j_icmp_ge F 91 (by decide) dX3_canApply_51 h (fun h => ?_) (fun h => ?_)
    · skip
      refine j_iconst F dX3_canApply_91 ?_
      exact j_zret F (by decide) h dX3_canApply_92
    · skip
      refine j_aload_n F 0 rfl rfl dX3_canApply_54 ?_
      refine j_get F ft_X3_135 rfl (kl4.is g1) dX3_canApply_55 ?_
      refine j_iload_n F 2 rfl rfl dX3_canApply_58 ?_
      obtain ⟨g9, h⟩ := gua h
      refine j_callV (d' := 1) (argl := [(true, x3)]) (rk9 := 1) (st := []) F hno M_X5_startAt q1034 q1035 q1033 ⟨by decide, by decide⟩ (Nat.le_of_ble_eq_true rfl) (by decide) (ci := 6) rfl (by decide) g9 dX3_canApply_59 rfl h (fun z hz => c_X5_startAt l F.ht G (fd M3 1 4 x1) x3 M3 z hz) (fun v6 M7 h kl8 => ?_)
      refine j_st (st' := [(true, v6)]) rfl ?_
      refine j_iconst F dX3_canApply_62 ?_
      refine j_icmp_ne F 85 (by decide) dX3_canApply_63 h (fun h => ?_) (fun h => ?_)
      · skip
        refine j_sub (lv' := [(1, (false, x1)), (2, (true, x2)), (3, (true, x3))]) [0, 1, 2] rfl ?_
        exact w_X3_canApply_85 F hno hnm (X3_canApply_43 n) ih x1 x2 x3 M7 h
      · skip
        refine j_iload_n F 1 rfl rfl dX3_canApply_66 ?_
        refine j_iconst F dX3_canApply_67 ?_
        refine j_icmp_eq F 85 (by decide) dX3_canApply_68 h (fun h => ?_) (fun h => ?_)
        · skip
          refine j_sub (lv' := [(1, (false, x1)), (2, (true, x2)), (3, (true, x3))]) [0, 1, 2] rfl ?_
          exact w_X3_canApply_85 F hno hnm (X3_canApply_43 n) ih x1 x2 x3 M7 h
        · skip
          refine j_iload_n F 1 rfl rfl dX3_canApply_71 ?_
          refine j_aload_n F 0 rfl rfl dX3_canApply_72 ?_
          refine j_get F ft_X3_135 rfl (kl8.is (kl4.is g1)) dX3_canApply_73 ?_
          refine j_iload_n F 2 rfl rfl dX3_canApply_76 ?_
          obtain ⟨g13, h⟩ := gua h
          refine j_callV (d' := 1) (argl := [(true, x3)]) (rk9 := 1) (st := [(true, x2)]) F hno M_X5_fileAt q875 q876 q1037 ⟨by decide, by decide⟩ (Nat.le_of_ble_eq_true rfl) (by decide) (ci := 6) rfl (by decide) g13 dX3_canApply_77 rfl h (fun z hz => c_X5_fileAt l F.ht G (fd M7 1 4 x1) x3 M7 z hz) (fun v10 M11 h kl12 => ?_)
          refine j_st (st' := [(true, v10), (true, x2)]) rfl ?_
          refine j_icmp_eq F 85 (by decide) dX3_canApply_80 h (fun h => ?_) (fun h => ?_)
          · skip
            refine j_sub (lv' := [(1, (false, x1)), (2, (true, x2)), (3, (true, x3))]) [0, 1, 2] rfl ?_
            exact w_X3_canApply_85 F hno hnm (X3_canApply_43 n) ih x1 x2 x3 M11 h
          · skip
            refine j_iconst F dX3_canApply_83 ?_
            exact j_zret F (by decide) h dX3_canApply_84
set_option maxHeartbeats 4000000 in
set_option maxRecDepth 100000 in
theorem w_X3_canApply_0 {p : Program} {l : Launch} {e : Env} {R : Room} {s : State} {m : MethodId} {args : Array Value} {below : List Frame} {meth : Method} {c : Code} {G : Gt} {ρ0 : Int → Nat} {M0 : Mo} {res : RS} (F : Fx p l R s m args meth c cX3_canApply 4 RX3 G M0 2 (some FieldType.boolean)) (hno : ∀ x ∈ c.exceptionTable.toList, False) (hnm : meth.name = yX3_canApply.name) (x0 x1 : Int) (M : Mo) (h : X3_canApply x0 x1 M = some res) : J p l e R s m args below meth c 4 G ρ0 M0 1 res M 0 [(0, (false, x0)), (1, (false, x1))] [] := by
  unfold X3_canApply at h
  refine j_aload_n F 0 rfl rfl dX3_canApply_0 ?_
  obtain ⟨g1, h⟩ := gua h
  refine j_get F ft_X3_44 rfl g1 dX3_canApply_1 ?_
  refine j_aload_n F 1 rfl rfl dX3_canApply_4 ?_
  obtain ⟨g2, h⟩ := gua h
  refine j_get F ft_X3_191 rfl g2 dX3_canApply_5 ?_
  obtain ⟨g6, h⟩ := gua h
  refine j_callV (d' := 0) (argl := [(true, (fd M 1 2 x1))]) (rk9 := 1) (st := []) F hno M_X4_named q419 q420 q1030 ⟨by decide, by decide⟩ (Nat.le_of_ble_eq_true rfl) (by decide) (ci := 5) rfl (by decide) g6 dX3_canApply_8 rfl h (fun z hz => c_X4_named l F.ht G (fd M 4 1 x0) (fd M 1 2 x1) M z hz) (fun v3 M4 h kl5 => ?_)
  refine j_st (st' := [(true, v3)]) rfl ?_
  refine j_istore_n F (lv' := [(2, (true, v3)), (0, (false, x0)), (1, (false, x1))]) rfl (by decide) rfl dX3_canApply_11 ?_
  refine j_aload_n F 2 rfl rfl dX3_canApply_12 ?_
  refine j_get F ft_X3_150 rfl (kl5.is g2) dX3_canApply_13 ?_
  refine j_iconst F dX3_canApply_16 ?_
  refine j_icmp_ne F 41 (by decide) dX3_canApply_17 h (fun h => ?_) (fun h => ?_)
  · skip
    refine j_iconst F dX3_canApply_41 ?_
    refine j_istore_n F (lv' := [(3, (true, 0)), (2, (true, v3)), (0, (false, x0)), (1, (false, x1))]) rfl (by decide) rfl dX3_canApply_42 ?_
    refine j_sub (lv' := [(1, (false, x1)), (2, (true, v3)), (3, (true, 0))]) [3, 1, 0] rfl ?_
    exact w_X3_canApply_43 F hno hnm FU x1 v3 0 M4 h
  · skip
    refine j_iload_n F 0 rfl rfl dX3_canApply_20 ?_
    refine j_iconst F dX3_canApply_21 ?_
    refine j_icmp_ne F 39 (by decide) dX3_canApply_22 h (fun h => ?_) (fun h => ?_)
    · skip
      refine j_iconst F dX3_canApply_39 ?_
      exact j_zret F (by decide) h dX3_canApply_40
    · skip
      refine j_aload_n F 1 rfl rfl dX3_canApply_25 ?_
      refine j_get F ft_X3_44 rfl (kl5.is g1) dX3_canApply_26 ?_
      obtain ⟨g10, h⟩ := gua h
      refine j_callV (d' := 0) (argl := []) (rk9 := 1) (st := []) F hno M_X4_isFull q415 q416 q1031 ⟨by decide, by decide⟩ (Nat.le_of_ble_eq_true rfl) (by decide) (ci := 5) rfl (by decide) g10 dX3_canApply_29 rfl h (fun z hz => c_X4_isFull l F.ht G (fd M4 4 1 x0) M4 z hz) (fun v7 M8 h kl9 => ?_)
      refine j_st (st' := [(true, v7)]) rfl ?_
      refine j_if_ne F 39 (by decide) dX3_canApply_32 h (fun h => ?_) (fun h => ?_)
      · skip
        refine j_iconst F dX3_canApply_39 ?_
        exact j_zret F (by decide) h dX3_canApply_40
      · skip
        refine j_iconst F dX3_canApply_35 ?_
        refine j_goto F 40 (by decide) dX3_canApply_36 ?_
        exact j_zret F (by decide) h dX3_canApply_40
theorem c_X3_canApply (l : Launch) (hl : l.stackTraces = false) (G : Gt) (x0 x1 : Int) (M : Mo) (z : RS) (h : X3_canApply x0 x1 M = some z) : CT l G yX3_canApply (cn yX3_canApply cX3_canApply 4 (some FieldType.boolean)) 2 [(false, x0), (false, x1)] M 1 z :=
  ctOf hl (by decide) (Nat.le_of_ble_eq_true rfl) (fun p e R s m args below meth c ρ F hno hnm => w_X3_canApply_0 F hno hnm x0 x1 M h)
theorem dX3_applyRename_0 : decode cX3_applyRename 0 = .ok (.aload_n 1, 1) := by decide +kernel
theorem dX3_applyRename_1 : decode cX3_applyRename 1 = .ok (.getfield 135, 3) := by decide +kernel
theorem dX3_applyRename_4 : decode cX3_applyRename 4 = .ok (.astore_n 2, 1) := by decide +kernel
theorem dX3_applyRename_5 : decode cX3_applyRename 5 = .ok (.iconst 0, 1) := by decide +kernel
theorem dX3_applyRename_6 : decode cX3_applyRename 6 = .ok (.istore_n 3, 1) := by decide +kernel
theorem dX3_applyRename_7 : decode cX3_applyRename 7 = .ok (.iconst 0, 1) := by decide +kernel
theorem dX3_applyRename_8 : decode cX3_applyRename 8 = .ok (.istore 4, 2) := by decide +kernel
theorem dX3_applyRename_10 : decode cX3_applyRename 10 = .ok (.iload 4, 2) := by decide +kernel
theorem dX3_applyRename_12 : decode cX3_applyRename 12 = .ok (.aload_n 0, 1) := by decide +kernel
theorem dX3_applyRename_13 : decode cX3_applyRename 13 = .ok (.getfield 44, 3) := by decide +kernel
set_option maxRecDepth 100000 in
theorem q1043 : Cond.methodLink RX3 208 yX4_size ∈ GT := gt 1043 (by decide +kernel) (by decide +kernel)
theorem dX3_applyRename_16 : decode cX3_applyRename 16 = .ok (.invokevirtual 208, 3) := by decide +kernel
theorem dX3_applyRename_19 : decode cX3_applyRename 19 = .ok (.if_icmp .ge 101, 3) := by decide +kernel
theorem dX3_applyRename_120 : decode cX3_applyRename 120 = .ok (.aload_n 1, 1) := by decide +kernel
theorem dX3_applyRename_121 : decode cX3_applyRename 121 = .ok (.iconst 3, 1) := by decide +kernel
theorem dX3_applyRename_122 : decode cX3_applyRename 122 = .ok (.putfield 129, 3) := by decide +kernel
theorem dX3_applyRename_125 : decode cX3_applyRename 125 = .ok (.iload_n 3, 1) := by decide +kernel
theorem dX3_applyRename_126 : decode cX3_applyRename 126 = .ok (.ireturn, 1) := by decide +kernel
theorem dX3_applyRename_22 : decode cX3_applyRename 22 = .ok (.aload_n 2, 1) := by decide +kernel
theorem dX3_applyRename_23 : decode cX3_applyRename 23 = .ok (.invokevirtual 201, 3) := by decide +kernel
theorem dX3_applyRename_26 : decode cX3_applyRename 26 = .ok (.iconst 1, 1) := by decide +kernel
theorem dX3_applyRename_27 : decode cX3_applyRename 27 = .ok (.isub, 1) := by decide +kernel
theorem dX3_applyRename_28 : decode cX3_applyRename 28 = .ok (.istore 5, 2) := by decide +kernel
theorem dX3_applyRename_30 : decode cX3_applyRename 30 = .ok (.iload 5, 2) := by decide +kernel
theorem dX3_applyRename_32 : decode cX3_applyRename 32 = .ok (.ifCond .lt 82, 3) := by decide +kernel
theorem dX3_applyRename_114 : decode cX3_applyRename 114 = .ok (.iinc 4 1, 3) := by decide +kernel
theorem dX3_applyRename_117 : decode cX3_applyRename 117 = .ok (.goto (-107), 3) := by decide +kernel
theorem dX3_applyRename_35 : decode cX3_applyRename 35 = .ok (.aload_n 2, 1) := by decide +kernel
theorem dX3_applyRename_36 : decode cX3_applyRename 36 = .ok (.iload 5, 2) := by decide +kernel
theorem dX3_applyRename_38 : decode cX3_applyRename 38 = .ok (.invokevirtual 205, 3) := by decide +kernel
theorem dX3_applyRename_41 : decode cX3_applyRename 41 = .ok (.iload 4, 2) := by decide +kernel
theorem dX3_applyRename_43 : decode cX3_applyRename 43 = .ok (.if_icmp .ne 29, 3) := by decide +kernel
theorem dX3_applyRename_46 : decode cX3_applyRename 46 = .ok (.aload_n 2, 1) := by decide +kernel
theorem dX3_applyRename_47 : decode cX3_applyRename 47 = .ok (.iload 5, 2) := by decide +kernel
theorem dX3_applyRename_49 : decode cX3_applyRename 49 = .ok (.invokevirtual 202, 3) := by decide +kernel
theorem dX3_applyRename_52 : decode cX3_applyRename 52 = .ok (.iconst (-1), 1) := by decide +kernel
theorem dX3_applyRename_53 : decode cX3_applyRename 53 = .ok (.if_icmp .ne 19, 3) := by decide +kernel
theorem dX3_applyRename_56 : decode cX3_applyRename 56 = .ok (.aload_n 0, 1) := by decide +kernel
theorem dX3_applyRename_57 : decode cX3_applyRename 57 = .ok (.getfield 44, 3) := by decide +kernel
theorem dX3_applyRename_60 : decode cX3_applyRename 60 = .ok (.iload 4, 2) := by decide +kernel
theorem dX3_applyRename_62 : decode cX3_applyRename 62 = .ok (.aload_n 1, 1) := by decide +kernel
theorem dX3_applyRename_63 : decode cX3_applyRename 63 = .ok (.getfield 191, 3) := by decide +kernel
set_option maxRecDepth 100000 in
theorem q1050 : Cond.code yX4_rename cX4_rename 3 none ∈ GT := gt 1050 (rfl) (by decide +kernel)
theorem M_X4_rename : MY yX4_rename cX4_rename 3 none 2 := ⟨q1050, q55, by decide +kernel, by decide +kernel⟩
set_option maxRecDepth 100000 in
theorem q1048 : Cond.instanceMethod yX4_rename ∈ GT := gt 1048 (by decide +kernel) (by decide +kernel)
set_option maxRecDepth 100000 in
theorem q1049 : Cond.selects RX4 yX4_rename yX4_rename ∈ GT := gt 1049 (by decide +kernel) (by decide +kernel)
set_option maxRecDepth 100000 in
theorem q1047 : Cond.methodLink RX3 209 yX4_rename ∈ GT := gt 1047 (by decide +kernel) (by decide +kernel)
theorem dX3_applyRename_66 : decode cX3_applyRename 66 = .ok (.invokevirtual 209, 3) := by decide +kernel
theorem dX3_applyRename_69 : decode cX3_applyRename 69 = .ok (.goto 39, 3) := by decide +kernel
theorem dX3_applyRename_72 : decode cX3_applyRename 72 = .ok (.aload_n 2, 1) := by decide +kernel
theorem dX3_applyRename_73 : decode cX3_applyRename 73 = .ok (.iload 5, 2) := by decide +kernel
theorem dX3_applyRename_75 : decode cX3_applyRename 75 = .ok (.invokevirtual 205, 3) := by decide +kernel
theorem dX3_applyRename_78 : decode cX3_applyRename 78 = .ok (.iload 4, 2) := by decide +kernel
theorem dX3_applyRename_80 : decode cX3_applyRename 80 = .ok (.if_icmp .ne 28, 3) := by decide +kernel
theorem dX3_applyRename_83 : decode cX3_applyRename 83 = .ok (.aload_n 0, 1) := by decide +kernel
theorem dX3_applyRename_84 : decode cX3_applyRename 84 = .ok (.iload 4, 2) := by decide +kernel
theorem dX3_applyRename_86 : decode cX3_applyRename 86 = .ok (.aload_n 2, 1) := by decide +kernel
theorem dX3_applyRename_87 : decode cX3_applyRename 87 = .ok (.iload 5, 2) := by decide +kernel
theorem dX3_applyRename_89 : decode cX3_applyRename 89 = .ok (.invokevirtual 202, 3) := by decide +kernel
theorem dX3_applyRename_92 : decode cX3_applyRename 92 = .ok (.aload_n 2, 1) := by decide +kernel
theorem dX3_applyRename_93 : decode cX3_applyRename 93 = .ok (.iload 5, 2) := by decide +kernel
set_option maxRecDepth 100000 in
theorem q1051 : Cond.methodLink RX3 212 yX5_endAt ∈ GT := gt 1051 (by decide +kernel) (by decide +kernel)
theorem dX3_applyRename_95 : decode cX3_applyRename 95 = .ok (.invokevirtual 212, 3) := by decide +kernel
theorem dX3_applyRename_98 : decode cX3_applyRename 98 = .ok (.aload_n 1, 1) := by decide +kernel
theorem dX3_applyRename_99 : decode cX3_applyRename 99 = .ok (.getfield 191, 3) := by decide +kernel
set_option maxRecDepth 100000 in
theorem q1058 : Cond.code yX3_replaceSpan cX3_replaceSpan 7 none ∈ GT := gt 1058 (rfl) (by decide +kernel)
theorem M_X3_replaceSpan : MY yX3_replaceSpan cX3_replaceSpan 7 none 4 := ⟨q1058, q60, by decide +kernel, by decide +kernel⟩
set_option maxRecDepth 100000 in
theorem q1057 : Cond.instanceMethod yX3_replaceSpan ∈ GT := gt 1057 (by decide +kernel) (by decide +kernel)
set_option maxRecDepth 100000 in
theorem q12 : Cond.selects RX3 yX3_replaceSpan yX3_replaceSpan ∈ GT := gt 12 (by decide +kernel) (by decide +kernel)
set_option maxRecDepth 100000 in
theorem q1055 : Cond.methodLink RX3 215 yX3_replaceSpan ∈ GT := gt 1055 (by decide +kernel) (by decide +kernel)
theorem dX3_applyRename_102 : decode cX3_applyRename 102 = .ok (.invokevirtual 215, 3) := by decide +kernel
theorem dX3_applyRename_105 : decode cX3_applyRename 105 = .ok (.iinc 3 1, 3) := by decide +kernel
theorem dX3_applyRename_108 : decode cX3_applyRename 108 = .ok (.iinc 5 (-1), 3) := by decide +kernel
theorem dX3_applyRename_111 : decode cX3_applyRename 111 = .ok (.goto (-81), 3) := by decide +kernel
set_option maxHeartbeats 4000000 in
set_option maxRecDepth 100000 in
theorem w_X3_applyRename_108 {p : Program} {l : Launch} {e : Env} {R : Room} {s : State} {m : MethodId} {args : Array Value} {below : List Frame} {meth : Method} {c : Code} {G : Gt} {ρ0 : Int → Nat} {M0 : Mo} {res : RS} (F : Fx p l R s m args meth c cX3_applyRename 6 RX3 G M0 11 (some FieldType.int)) (hno : ∀ x ∈ c.exceptionTable.toList, False) (hnm : meth.name = yX3_applyRename.name) (k10 : Int → Int → Int → Int → Int → Mo → Option RS) (hk10 : ∀ (x0 x1 x2 x3 x4 : Int) (M : Mo), k10 x0 x1 x2 x3 x4 M = some res → J p l e R s m args below meth c 6 G ρ0 M0 1 res M 10 [(0, (false, x0)), (1, (false, x1)), (2, (false, x2)), (3, (true, x3)), (4, (true, x4))] []) (k30 : Int → Int → Int → Int → Int → Int → Mo → Option RS) (hk30 : ∀ (x0 x1 x2 x3 x4 x5 : Int) (M : Mo), k30 x0 x1 x2 x3 x4 x5 M = some res → J p l e R s m args below meth c 6 G ρ0 M0 1 res M 30 [(0, (false, x0)), (1, (false, x1)), (2, (false, x2)), (3, (true, x3)), (4, (true, x4)), (5, (true, x5))] []) (x0 x1 x2 x3 x4 x5 : Int) (M : Mo) (h : X3_applyRename_108 k10 k30 x0 x1 x2 x3 x4 x5 M = some res) : J p l e R s m args below meth c 6 G ρ0 M0 1 res M 108 [(0, (false, x0)), (1, (false, x1)), (2, (false, x2)), (3, (true, x3)), (4, (true, x4)), (5, (true, x5))] [] := by
  unfold X3_applyRename_108 at h
  refine j_iinc F 5 (lv' := [(5, (true, (x5 + (-1)))), (0, (false, x0)), (1, (false, x1)), (2, (false, x2)), (3, (true, x3)), (4, (true, x4))]) rfl (by decide) rfl dX3_applyRename_108 ?_
  refine j_goto F 30 (by decide) dX3_applyRename_111 ?_
  refine j_sub (lv' := [(0, (false, x0)), (1, (false, x1)), (2, (false, x2)), (3, (true, x3)), (4, (true, x4)), (5, (true, (x5 + (-1))))]) [1, 2, 3, 4, 5, 0] rfl ?_
  exact hk30 x0 x1 x2 x3 x4 (x5 + (-1)) M h
set_option maxHeartbeats 4000000 in
set_option maxRecDepth 100000 in
theorem w_X3_applyRename_72 {p : Program} {l : Launch} {e : Env} {R : Room} {s : State} {m : MethodId} {args : Array Value} {below : List Frame} {meth : Method} {c : Code} {G : Gt} {ρ0 : Int → Nat} {M0 : Mo} {res : RS} (F : Fx p l R s m args meth c cX3_applyRename 6 RX3 G M0 11 (some FieldType.int)) (hno : ∀ x ∈ c.exceptionTable.toList, False) (hnm : meth.name = yX3_applyRename.name) (k10 : Int → Int → Int → Int → Int → Mo → Option RS) (hk10 : ∀ (x0 x1 x2 x3 x4 : Int) (M : Mo), k10 x0 x1 x2 x3 x4 M = some res → J p l e R s m args below meth c 6 G ρ0 M0 1 res M 10 [(0, (false, x0)), (1, (false, x1)), (2, (false, x2)), (3, (true, x3)), (4, (true, x4))] []) (k30 : Int → Int → Int → Int → Int → Int → Mo → Option RS) (hk30 : ∀ (x0 x1 x2 x3 x4 x5 : Int) (M : Mo), k30 x0 x1 x2 x3 x4 x5 M = some res → J p l e R s m args below meth c 6 G ρ0 M0 1 res M 30 [(0, (false, x0)), (1, (false, x1)), (2, (false, x2)), (3, (true, x3)), (4, (true, x4)), (5, (true, x5))] []) (x0 x1 x2 x3 x4 x5 : Int) (M : Mo) (h : X3_applyRename_72 k10 k30 x0 x1 x2 x3 x4 x5 M = some res) : J p l e R s m args below meth c 6 G ρ0 M0 1 res M 72 [(0, (false, x0)), (1, (false, x1)), (2, (false, x2)), (3, (true, x3)), (4, (true, x4)), (5, (true, x5))] [] := by
  unfold X3_applyRename_72 at h
  refine j_aload_n F 2 rfl rfl dX3_applyRename_72 ?_
  refine j_iload F 5 rfl dX3_applyRename_73 ?_
  obtain ⟨g4, h⟩ := gua h
  refine j_callV (d' := 1) (argl := [(true, x5)]) (rk9 := 1) (st := []) F hno M_X5_fileAt q875 q876 q1037 ⟨by decide, by decide⟩ (Nat.le_of_ble_eq_true rfl) (by decide) (ci := 6) rfl (by decide) g4 dX3_applyRename_75 rfl h (fun z hz => c_X5_fileAt l F.ht G x2 x5 M z hz) (fun v1 M2 h kl3 => ?_)
  refine j_st (st' := [(true, v1)]) rfl ?_
  refine j_iload F 4 rfl dX3_applyRename_78 ?_
  refine j_icmp_ne F 108 (by decide) dX3_applyRename_80 h (fun h => ?_) (fun h => ?_)
  · skip
    refine j_sub (lv' := [(0, (false, x0)), (1, (false, x1)), (2, (false, x2)), (3, (true, x3)), (4, (true, x4)), (5, (true, x5))]) [0, 1, 2, 3, 4, 5] rfl ?_
    exact w_X3_applyRename_108 F hno hnm k10 hk10 k30 hk30 x0 x1 x2 x3 x4 x5 M2 h
  · skip
    refine j_aload_n F 0 rfl rfl dX3_applyRename_83 ?_
    refine j_iload F 4 rfl dX3_applyRename_84 ?_
    refine j_aload_n F 2 rfl rfl dX3_applyRename_86 ?_
    refine j_iload F 5 rfl dX3_applyRename_87 ?_
    refine j_callV (d' := 1) (argl := [(true, x5)]) (rk9 := 1) (st := [(true, x4), (false, x0)]) F hno M_X5_startAt q1034 q1035 q1033 ⟨by decide, by decide⟩ (Nat.le_of_ble_eq_true rfl) (by decide) (ci := 6) rfl (by decide) (kl3.is g4) dX3_applyRename_89 rfl h (fun z hz => c_X5_startAt l F.ht G x2 x5 M2 z hz) (fun v5 M6 h kl7 => ?_)
    refine j_st (st' := [(true, v5), (true, x4), (false, x0)]) rfl ?_
    refine j_aload_n F 2 rfl rfl dX3_applyRename_92 ?_
    refine j_iload F 5 rfl dX3_applyRename_93 ?_
    refine j_callV (d' := 1) (argl := [(true, x5)]) (rk9 := 1) (st := [(true, v5), (true, x4), (false, x0)]) F hno M_X5_endAt q1052 q1053 q1051 ⟨by decide, by decide⟩ (Nat.le_of_ble_eq_true rfl) (by decide) (ci := 6) rfl (by decide) (kl7.is (kl3.is g4)) dX3_applyRename_95 rfl h (fun z hz => c_X5_endAt l F.ht G x2 x5 M6 z hz) (fun v8 M9 h kl10 => ?_)
    refine j_st (st' := [(true, v8), (true, v5), (true, x4), (false, x0)]) rfl ?_
    refine j_aload_n F 1 rfl rfl dX3_applyRename_98 ?_
    obtain ⟨g11, h⟩ := gua h
    refine j_get F ft_X3_191 rfl g11 dX3_applyRename_99 ?_
    obtain ⟨g15, h⟩ := gua h
    refine j_callV (d' := 10) (argl := [(true, x4), (true, v5), (true, v8), (true, (fd M9 1 2 x1))]) (rk9 := 0) (st := []) F hno M_X3_replaceSpan q1057 q12 q1055 ⟨by decide, by decide⟩ (Nat.le_of_ble_eq_true rfl) (by decide) (ci := 4) rfl (by decide) g15 dX3_applyRename_102 rfl h (fun z hz => c_X3_replaceSpan l F.ht G x0 x4 v5 v8 (fd M9 1 2 x1) M9 z hz) (fun v12 M13 h kl14 => ?_)
    refine j_st (st' := []) rfl ?_
    refine j_iinc F 3 (lv' := [(3, (true, (x3 + 1))), (0, (false, x0)), (1, (false, x1)), (2, (false, x2)), (4, (true, x4)), (5, (true, x5))]) rfl (by decide) rfl dX3_applyRename_105 ?_
    refine j_sub (lv' := [(0, (false, x0)), (1, (false, x1)), (2, (false, x2)), (3, (true, (x3 + 1))), (4, (true, x4)), (5, (true, x5))]) [1, 2, 3, 0, 4, 5] rfl ?_
    exact w_X3_applyRename_108 F hno hnm k10 hk10 k30 hk30 x0 x1 x2 (x3 + 1) x4 x5 M13 h
set_option maxHeartbeats 4000000 in
set_option maxRecDepth 100000 in
theorem w_X3_applyRename_30 {p : Program} {l : Launch} {e : Env} {R : Room} {s : State} {m : MethodId} {args : Array Value} {below : List Frame} {meth : Method} {c : Code} {G : Gt} {ρ0 : Int → Nat} {M0 : Mo} {res : RS} (F : Fx p l R s m args meth c cX3_applyRename 6 RX3 G M0 11 (some FieldType.int)) (hno : ∀ x ∈ c.exceptionTable.toList, False) (hnm : meth.name = yX3_applyRename.name) (k10 : Int → Int → Int → Int → Int → Mo → Option RS) (hk10 : ∀ (x0 x1 x2 x3 x4 : Int) (M : Mo), k10 x0 x1 x2 x3 x4 M = some res → J p l e R s m args below meth c 6 G ρ0 M0 1 res M 10 [(0, (false, x0)), (1, (false, x1)), (2, (false, x2)), (3, (true, x3)), (4, (true, x4))] []) (n : Nat) : ∀ (x0 x1 x2 x3 x4 x5 : Int) (M : Mo), X3_applyRename_30 k10 n x0 x1 x2 x3 x4 x5 M = some res → J p l e R s m args below meth c 6 G ρ0 M0 1 res M 30 [(0, (false, x0)), (1, (false, x1)), (2, (false, x2)), (3, (true, x3)), (4, (true, x4)), (5, (true, x5))] [] := by
  induction n with
  | zero => intro x0 x1 x2 x3 x4 x5 M h; cases h
  | succ n ih =>
    intro x0 x1 x2 x3 x4 x5 M h
    rw [X3_applyRename_30] at h
    refine j_iload F 5 rfl dX3_applyRename_30 ?_
    refine j_if_lt F 114 (by decide) dX3_applyRename_32 h (fun h => ?_) (fun h => ?_)
    · skip
      refine j_iinc F 4 (lv' := [(4, (true, (x4 + 1))), (0, (false, x0)), (1, (false, x1)), (2, (false, x2)), (3, (true, x3)), (5, (true, x5))]) rfl (by decide) rfl dX3_applyRename_114 ?_
      refine j_goto F 10 (by decide) dX3_applyRename_117 ?_
      refine j_sub (lv' := [(0, (false, x0)), (1, (false, x1)), (2, (false, x2)), (3, (true, x3)), (4, (true, (x4 + 1)))]) [1, 2, 3, 4, 0] rfl ?_
      exact hk10 x0 x1 x2 x3 (x4 + 1) M h
    · skip
      refine j_aload_n F 2 rfl rfl dX3_applyRename_35 ?_
      refine j_iload F 5 rfl dX3_applyRename_36 ?_
      obtain ⟨g4, h⟩ := gua h
      refine j_callV (d' := 1) (argl := [(true, x5)]) (rk9 := 1) (st := []) F hno M_X5_fileAt q875 q876 q1037 ⟨by decide, by decide⟩ (Nat.le_of_ble_eq_true rfl) (by decide) (ci := 6) rfl (by decide) g4 dX3_applyRename_38 rfl h (fun z hz => c_X5_fileAt l F.ht G x2 x5 M z hz) (fun v1 M2 h kl3 => ?_)
      refine j_st (st' := [(true, v1)]) rfl ?_
      refine j_iload F 4 rfl dX3_applyRename_41 ?_
      refine j_icmp_ne F 72 (by decide) dX3_applyRename_43 h (fun h => ?_) (fun h => ?_)
      · skip
        refine j_sub (lv' := [(0, (false, x0)), (1, (false, x1)), (2, (false, x2)), (3, (true, x3)), (4, (true, x4)), (5, (true, x5))]) [0, 1, 2, 3, 4, 5] rfl ?_
        exact w_X3_applyRename_72 F hno hnm k10 hk10 (X3_applyRename_30 k10 n) ih x0 x1 x2 x3 x4 x5 M2 h
      · skip
        refine j_aload_n F 2 rfl rfl dX3_applyRename_46 ?_
        refine j_iload F 5 rfl dX3_applyRename_47 ?_
        refine j_callV (d' := 1) (argl := [(true, x5)]) (rk9 := 1) (st := []) F hno M_X5_startAt q1034 q1035 q1033 ⟨by decide, by decide⟩ (Nat.le_of_ble_eq_true rfl) (by decide) (ci := 6) rfl (by decide) (kl3.is g4) dX3_applyRename_49 rfl h (fun z hz => c_X5_startAt l F.ht G x2 x5 M2 z hz) (fun v5 M6 h kl7 => ?_)
        refine j_st (st' := [(true, v5)]) rfl ?_
        refine j_iconst F dX3_applyRename_52 ?_
        refine j_icmp_ne F 72 (by decide) dX3_applyRename_53 h (fun h => ?_) (fun h => ?_)
        · skip
          refine j_sub (lv' := [(0, (false, x0)), (1, (false, x1)), (2, (false, x2)), (3, (true, x3)), (4, (true, x4)), (5, (true, x5))]) [0, 1, 2, 3, 4, 5] rfl ?_
          exact w_X3_applyRename_72 F hno hnm k10 hk10 (X3_applyRename_30 k10 n) ih x0 x1 x2 x3 x4 x5 M6 h
        · skip
          refine j_aload_n F 0 rfl rfl dX3_applyRename_56 ?_
          obtain ⟨g8, h⟩ := gua h
          refine j_get F ft_X3_44 rfl g8 dX3_applyRename_57 ?_
          refine j_iload F 4 rfl dX3_applyRename_60 ?_
          refine j_aload_n F 1 rfl rfl dX3_applyRename_62 ?_
          obtain ⟨g9, h⟩ := gua h
          refine j_get F ft_X3_191 rfl g9 dX3_applyRename_63 ?_
          obtain ⟨g13, h⟩ := gua h
          refine j_callV (d' := 1) (argl := [(true, x4), (true, (fd M6 1 2 x1))]) (rk9 := 0) (st := []) F hno M_X4_rename q1048 q1049 q1047 ⟨by decide, by decide⟩ (Nat.le_of_ble_eq_true rfl) (by decide) (ci := 5) rfl (by decide) g13 dX3_applyRename_66 rfl h (fun z hz => c_X4_rename l F.ht G (fd M6 4 1 x0) x4 (fd M6 1 2 x1) M6 z hz) (fun v10 M11 h kl12 => ?_)
          refine j_st (st' := []) rfl ?_
          refine j_goto F 108 (by decide) dX3_applyRename_69 ?_
          refine j_sub (lv' := [(0, (false, x0)), (1, (false, x1)), (2, (false, x2)), (3, (true, x3)), (4, (true, x4)), (5, (true, x5))]) [0, 1, 2, 3, 4, 5] rfl ?_
          exact w_X3_applyRename_108 F hno hnm k10 hk10 (X3_applyRename_30 k10 n) ih x0 x1 x2 x3 x4 x5 M11 h
set_option maxHeartbeats 4000000 in
set_option maxRecDepth 100000 in
theorem w_X3_applyRename_10 {p : Program} {l : Launch} {e : Env} {R : Room} {s : State} {m : MethodId} {args : Array Value} {below : List Frame} {meth : Method} {c : Code} {G : Gt} {ρ0 : Int → Nat} {M0 : Mo} {res : RS} (F : Fx p l R s m args meth c cX3_applyRename 6 RX3 G M0 11 (some FieldType.int)) (hno : ∀ x ∈ c.exceptionTable.toList, False) (hnm : meth.name = yX3_applyRename.name) (n : Nat) : ∀ (x0 x1 x2 x3 x4 : Int) (M : Mo), X3_applyRename_10 n x0 x1 x2 x3 x4 M = some res → J p l e R s m args below meth c 6 G ρ0 M0 1 res M 10 [(0, (false, x0)), (1, (false, x1)), (2, (false, x2)), (3, (true, x3)), (4, (true, x4))] [] := by
  induction n with
  | zero => intro x0 x1 x2 x3 x4 M h; cases h
  | succ n ih =>
    intro x0 x1 x2 x3 x4 M h
    rw [X3_applyRename_10] at h
    refine j_iload F 4 rfl dX3_applyRename_10 ?_
    refine j_aload_n F 0 rfl rfl dX3_applyRename_12 ?_
    obtain ⟨g1, h⟩ := gua h
    refine j_get F ft_X3_44 rfl g1 dX3_applyRename_13 ?_
    obtain ⟨g5, h⟩ := gua h
    refine j_callV (d' := 0) (argl := []) (rk9 := 1) (st := [(true, x4)]) F hno M_X4_size q1044 q1045 q1043 ⟨by decide, by decide⟩ (Nat.le_of_ble_eq_true rfl) (by decide) (ci := 5) rfl (by decide) g5 dX3_applyRename_16 rfl h (fun z hz => c_X4_size l F.ht G (fd M 4 1 x0) M z hz) (fun v2 M3 h kl4 => ?_)
    refine j_st (st' := [(true, v2), (true, x4)]) rfl ?_
    refine j_icmp_ge F 120 (by decide) dX3_applyRename_19 h (fun h => ?_) (fun h => ?_)
    · skip
      refine j_aload_n F 1 rfl rfl dX3_applyRename_120 ?_
      refine j_iconst F dX3_applyRename_121 ?_
      obtain ⟨g6, h⟩ := gua h
      refine j_put (ty := .int) F ft_X3_129 rfl rfl tyX0 tyX0_ok nmX0 (by decide +kernel) (nf_int _) g6 dX3_applyRename_122 ?_
      obtain ⟨M7, hM7⟩ : ∃ Z, Z = sF M3 1 3 x1 3 := ⟨_, rfl⟩
      have kl8 : kle M3 M7 := by rw [hM7]; exact kle_sF
      rw [← hM7]
      replace h := pt_as h hM7
      refine j_iload_n F 3 rfl rfl dX3_applyRename_125 ?_
      exact j_iret F h dX3_applyRename_126
    · skip
      refine j_aload_n F 2 rfl rfl dX3_applyRename_22 ?_
      obtain ⟨g12, h⟩ := gua h
      refine j_callV (d' := 0) (argl := []) (rk9 := 1) (st := []) F hno M_X5_size q1022 q1023 q1032 ⟨by decide, by decide⟩ (Nat.le_of_ble_eq_true rfl) (by decide) (ci := 6) rfl (by decide) g12 dX3_applyRename_23 rfl h (fun z hz => c_X5_size l F.ht G x2 M3 z hz) (fun v9 M10 h kl11 => ?_)
      refine j_st (st' := [(true, v9)]) rfl ?_
      refine j_iconst F dX3_applyRename_26 ?_
      refine j_isub F dX3_applyRename_27 ?_
      refine j_istore F (lv' := [(5, (true, (v9 - 1))), (0, (false, x0)), (1, (false, x1)), (2, (false, x2)), (3, (true, x3)), (4, (true, x4))]) (by decide) rfl dX3_applyRename_28 ?_
      refine j_sub (lv' := [(0, (false, x0)), (1, (false, x1)), (2, (false, x2)), (3, (true, x3)), (4, (true, x4)), (5, (true, (v9 - 1)))]) [1, 2, 3, 4, 5, 0] rfl ?_
      exact w_X3_applyRename_30 F hno hnm (X3_applyRename_10 n) ih FU x0 x1 x2 x3 x4 (v9 - 1) M10 h
set_option maxHeartbeats 4000000 in
set_option maxRecDepth 100000 in
theorem w_X3_applyRename_0 {p : Program} {l : Launch} {e : Env} {R : Room} {s : State} {m : MethodId} {args : Array Value} {below : List Frame} {meth : Method} {c : Code} {G : Gt} {ρ0 : Int → Nat} {M0 : Mo} {res : RS} (F : Fx p l R s m args meth c cX3_applyRename 6 RX3 G M0 11 (some FieldType.int)) (hno : ∀ x ∈ c.exceptionTable.toList, False) (hnm : meth.name = yX3_applyRename.name) (x0 x1 : Int) (M : Mo) (h : X3_applyRename x0 x1 M = some res) : J p l e R s m args below meth c 6 G ρ0 M0 1 res M 0 [(0, (false, x0)), (1, (false, x1))] [] := by
  unfold X3_applyRename at h
  refine j_aload_n F 1 rfl rfl dX3_applyRename_0 ?_
  obtain ⟨g1, h⟩ := gua h
  refine j_get F ft_X3_135 rfl g1 dX3_applyRename_1 ?_
  refine j_astore_n F (lv' := [(2, (false, (fd M 1 4 x1))), (0, (false, x0)), (1, (false, x1))]) rfl (by decide) rfl dX3_applyRename_4 ?_
  refine j_iconst F dX3_applyRename_5 ?_
  refine j_istore_n F (lv' := [(3, (true, 0)), (2, (false, (fd M 1 4 x1))), (0, (false, x0)), (1, (false, x1))]) rfl (by decide) rfl dX3_applyRename_6 ?_
  refine j_iconst F dX3_applyRename_7 ?_
  refine j_istore F (lv' := [(4, (true, 0)), (3, (true, 0)), (2, (false, (fd M 1 4 x1))), (0, (false, x0)), (1, (false, x1))]) (by decide) rfl dX3_applyRename_8 ?_
  refine j_sub (lv' := [(0, (false, x0)), (1, (false, x1)), (2, (false, (fd M 1 4 x1))), (3, (true, 0)), (4, (true, 0))]) [3, 4, 2, 1, 0] rfl ?_
  exact w_X3_applyRename_10 F hno hnm FU x0 x1 (fd M 1 4 x1) 0 0 M h
theorem c_X3_applyRename (l : Launch) (hl : l.stackTraces = false) (G : Gt) (x0 x1 : Int) (M : Mo) (z : RS) (h : X3_applyRename x0 x1 M = some z) : CT l G yX3_applyRename (cn yX3_applyRename cX3_applyRename 6 (some FieldType.int)) 11 [(false, x0), (false, x1)] M 1 z :=
  ctOf hl (by decide) (Nat.le_of_ble_eq_true rfl) (fun p e R s m args below meth c ρ F hno hnm => w_X3_applyRename_0 F hno hnm x0 x1 M h)
theorem dX3_applyExtract_0 : decode cX3_applyExtract 0 = .ok (.aload_n 1, 1) := by decide +kernel
theorem dX3_applyExtract_1 : decode cX3_applyExtract 1 = .ok (.getfield 135, 3) := by decide +kernel
theorem dX3_applyExtract_4 : decode cX3_applyExtract 4 = .ok (.iconst 0, 1) := by decide +kernel
theorem dX3_applyExtract_5 : decode cX3_applyExtract 5 = .ok (.invokevirtual 202, 3) := by decide +kernel
theorem dX3_applyExtract_8 : decode cX3_applyExtract 8 = .ok (.istore_n 2, 1) := by decide +kernel
theorem dX3_applyExtract_9 : decode cX3_applyExtract 9 = .ok (.aload_n 1, 1) := by decide +kernel
theorem dX3_applyExtract_10 : decode cX3_applyExtract 10 = .ok (.getfield 135, 3) := by decide +kernel
theorem dX3_applyExtract_13 : decode cX3_applyExtract 13 = .ok (.iconst 0, 1) := by decide +kernel
theorem dX3_applyExtract_14 : decode cX3_applyExtract 14 = .ok (.invokevirtual 212, 3) := by decide +kernel
theorem dX3_applyExtract_17 : decode cX3_applyExtract 17 = .ok (.istore_n 3, 1) := by decide +kernel
theorem dX3_applyExtract_18 : decode cX3_applyExtract 18 = .ok (.aload_n 0, 1) := by decide +kernel
theorem dX3_applyExtract_19 : decode cX3_applyExtract 19 = .ok (.getfield 44, 3) := by decide +kernel
theorem dX3_applyExtract_22 : decode cX3_applyExtract 22 = .ok (.aload_n 1, 1) := by decide +kernel
theorem dX3_applyExtract_23 : decode cX3_applyExtract 23 = .ok (.getfield 191, 3) := by decide +kernel
theorem dX3_applyExtract_26 : decode cX3_applyExtract 26 = .ok (.aload_n 0, 1) := by decide +kernel
theorem dX3_applyExtract_27 : decode cX3_applyExtract 27 = .ok (.getfield 44, 3) := by decide +kernel
theorem dX3_applyExtract_30 : decode cX3_applyExtract 30 = .ok (.aload_n 1, 1) := by decide +kernel
theorem dX3_applyExtract_31 : decode cX3_applyExtract 31 = .ok (.getfield 132, 3) := by decide +kernel
set_option maxRecDepth 100000 in
theorem q1075 : Cond.code yX4_languageOf cX4_languageOf 2 (some FieldType.int) ∈ GT := gt 1075 (rfl) (by decide +kernel)
theorem M_X4_languageOf : MY yX4_languageOf cX4_languageOf 2 (some FieldType.int) 1 := ⟨q1075, q55, by decide +kernel, by decide +kernel⟩
set_option maxRecDepth 100000 in
theorem q1073 : Cond.instanceMethod yX4_languageOf ∈ GT := gt 1073 (by decide +kernel) (by decide +kernel)
set_option maxRecDepth 100000 in
theorem q1074 : Cond.selects RX4 yX4_languageOf yX4_languageOf ∈ GT := gt 1074 (by decide +kernel) (by decide +kernel)
set_option maxRecDepth 100000 in
theorem q1072 : Cond.methodLink RX3 219 yX4_languageOf ∈ GT := gt 1072 (by decide +kernel) (by decide +kernel)
theorem dX3_applyExtract_34 : decode cX3_applyExtract 34 = .ok (.invokevirtual 219, 3) := by decide +kernel
set_option maxRecDepth 100000 in
theorem q441 : Cond.code yX4_add cX4_add 3 (some FieldType.int) ∈ GT := gt 441 (rfl) (by decide +kernel)
theorem M_X4_add : MY yX4_add cX4_add 3 (some FieldType.int) 2 := ⟨q441, q55, by decide +kernel, by decide +kernel⟩
set_option maxRecDepth 100000 in
theorem q439 : Cond.instanceMethod yX4_add ∈ GT := gt 439 (by decide +kernel) (by decide +kernel)
set_option maxRecDepth 100000 in
theorem q440 : Cond.selects RX4 yX4_add yX4_add ∈ GT := gt 440 (by decide +kernel) (by decide +kernel)
set_option maxRecDepth 100000 in
theorem q1076 : Cond.methodLink RX3 222 yX4_add ∈ GT := gt 1076 (by decide +kernel) (by decide +kernel)
theorem dX3_applyExtract_37 : decode cX3_applyExtract 37 = .ok (.invokevirtual 222, 3) := by decide +kernel
theorem dX3_applyExtract_40 : decode cX3_applyExtract 40 = .ok (.istore 4, 2) := by decide +kernel
theorem dX3_applyExtract_42 : decode cX3_applyExtract 42 = .ok (.aload_n 0, 1) := by decide +kernel
theorem dX3_applyExtract_43 : decode cX3_applyExtract 43 = .ok (.getfield 44, 3) := by decide +kernel
theorem dX3_applyExtract_46 : decode cX3_applyExtract 46 = .ok (.iload 4, 2) := by decide +kernel
theorem dX3_applyExtract_48 : decode cX3_applyExtract 48 = .ok (.invokevirtual 93, 3) := by decide +kernel
theorem dX3_applyExtract_51 : decode cX3_applyExtract 51 = .ok (.aload_n 0, 1) := by decide +kernel
theorem dX3_applyExtract_52 : decode cX3_applyExtract 52 = .ok (.aload_n 1, 1) := by decide +kernel
theorem dX3_applyExtract_53 : decode cX3_applyExtract 53 = .ok (.getfield 132, 3) := by decide +kernel
theorem dX3_applyExtract_56 : decode cX3_applyExtract 56 = .ok (.invokevirtual 89, 3) := by decide +kernel
theorem dX3_applyExtract_59 : decode cX3_applyExtract 59 = .ok (.getfield 117, 3) := by decide +kernel
theorem dX3_applyExtract_62 : decode cX3_applyExtract 62 = .ok (.iload_n 2, 1) := by decide +kernel
theorem dX3_applyExtract_63 : decode cX3_applyExtract 63 = .ok (.iload_n 3, 1) := by decide +kernel
set_option maxRecDepth 100000 in
theorem q1077 : Cond.methodLink RX3 225 yX10_takePart ∈ GT := gt 1077 (by decide +kernel) (by decide +kernel)
theorem dX3_applyExtract_64 : decode cX3_applyExtract 64 = .ok (.invokevirtual 225, 3) := by decide +kernel
theorem dX3_applyExtract_67 : decode cX3_applyExtract 67 = .ok (.aload_n 0, 1) := by decide +kernel
theorem dX3_applyExtract_68 : decode cX3_applyExtract 68 = .ok (.aload_n 1, 1) := by decide +kernel
theorem dX3_applyExtract_69 : decode cX3_applyExtract 69 = .ok (.getfield 132, 3) := by decide +kernel
theorem dX3_applyExtract_72 : decode cX3_applyExtract 72 = .ok (.iload_n 2, 1) := by decide +kernel
theorem dX3_applyExtract_73 : decode cX3_applyExtract 73 = .ok (.iload_n 3, 1) := by decide +kernel
theorem dX3_applyExtract_74 : decode cX3_applyExtract 74 = .ok (.iconst (-1), 1) := by decide +kernel
theorem dX3_applyExtract_75 : decode cX3_applyExtract 75 = .ok (.invokevirtual 215, 3) := by decide +kernel
theorem dX3_applyExtract_78 : decode cX3_applyExtract 78 = .ok (.aload_n 1, 1) := by decide +kernel
theorem dX3_applyExtract_79 : decode cX3_applyExtract 79 = .ok (.iconst 3, 1) := by decide +kernel
theorem dX3_applyExtract_80 : decode cX3_applyExtract 80 = .ok (.putfield 129, 3) := by decide +kernel
theorem dX3_applyExtract_83 : decode cX3_applyExtract 83 = .ok (.iconst 1, 1) := by decide +kernel
theorem dX3_applyExtract_84 : decode cX3_applyExtract 84 = .ok (.ireturn, 1) := by decide +kernel
set_option maxHeartbeats 4000000 in
set_option maxRecDepth 100000 in
theorem w_X3_applyExtract_0 {p : Program} {l : Launch} {e : Env} {R : Room} {s : State} {m : MethodId} {args : Array Value} {below : List Frame} {meth : Method} {c : Code} {G : Gt} {ρ0 : Int → Nat} {M0 : Mo} {res : RS} (F : Fx p l R s m args meth c cX3_applyExtract 5 RX3 G M0 11 (some FieldType.int)) (hno : ∀ x ∈ c.exceptionTable.toList, False) (hnm : meth.name = yX3_applyExtract.name) (x0 x1 : Int) (M : Mo) (h : X3_applyExtract x0 x1 M = some res) : J p l e R s m args below meth c 5 G ρ0 M0 1 res M 0 [(0, (false, x0)), (1, (false, x1))] [] := by
  unfold X3_applyExtract at h
  refine j_aload_n F 1 rfl rfl dX3_applyExtract_0 ?_
  obtain ⟨g1, h⟩ := gua h
  refine j_get F ft_X3_135 rfl g1 dX3_applyExtract_1 ?_
  refine j_iconst F dX3_applyExtract_4 ?_
  obtain ⟨g5, h⟩ := gua h
  refine j_callV (d' := 1) (argl := [(true, 0)]) (rk9 := 1) (st := []) F hno M_X5_startAt q1034 q1035 q1033 ⟨by decide, by decide⟩ (Nat.le_of_ble_eq_true rfl) (by decide) (ci := 6) rfl (by decide) g5 dX3_applyExtract_5 rfl h (fun z hz => c_X5_startAt l F.ht G (fd M 1 4 x1) 0 M z hz) (fun v2 M3 h kl4 => ?_)
  refine j_st (st' := [(true, v2)]) rfl ?_
  refine j_istore_n F (lv' := [(2, (true, v2)), (0, (false, x0)), (1, (false, x1))]) rfl (by decide) rfl dX3_applyExtract_8 ?_
  refine j_aload_n F 2 rfl rfl dX3_applyExtract_9 ?_
  refine j_get F ft_X3_135 rfl (kl4.is g1) dX3_applyExtract_10 ?_
  refine j_iconst F dX3_applyExtract_13 ?_
  obtain ⟨g9, h⟩ := gua h
  refine j_callV (d' := 1) (argl := [(true, 0)]) (rk9 := 1) (st := []) F hno M_X5_endAt q1052 q1053 q1051 ⟨by decide, by decide⟩ (Nat.le_of_ble_eq_true rfl) (by decide) (ci := 6) rfl (by decide) g9 dX3_applyExtract_14 rfl h (fun z hz => c_X5_endAt l F.ht G (fd M3 1 4 x1) 0 M3 z hz) (fun v6 M7 h kl8 => ?_)
  refine j_st (st' := [(true, v6)]) rfl ?_
  refine j_istore_n F (lv' := [(3, (true, v6)), (2, (true, v2)), (0, (false, x0)), (1, (false, x1))]) rfl (by decide) rfl dX3_applyExtract_17 ?_
  refine j_aload_n F 2 rfl rfl dX3_applyExtract_18 ?_
  obtain ⟨g10, h⟩ := gua h
  refine j_get F ft_X3_44 rfl g10 dX3_applyExtract_19 ?_
  refine j_aload_n F 3 rfl rfl dX3_applyExtract_22 ?_
  refine j_get F ft_X3_191 rfl (kl8.is (kl4.is g1)) dX3_applyExtract_23 ?_
  refine j_aload_n F 2 rfl rfl dX3_applyExtract_26 ?_
  refine j_get F ft_X3_44 rfl g10 dX3_applyExtract_27 ?_
  refine j_aload_n F 3 rfl rfl dX3_applyExtract_30 ?_
  refine j_get F ft_X3_132 rfl (kl8.is (kl4.is g1)) dX3_applyExtract_31 ?_
  obtain ⟨g14, h⟩ := gua h
  refine j_callV (d' := 1) (argl := [(true, (fd M7 1 1 x1))]) (rk9 := 1) (st := [(true, (fd M7 1 2 x1)), (false, (fd M7 4 1 x0))]) F hno M_X4_languageOf q1073 q1074 q1072 ⟨by decide, by decide⟩ (Nat.le_of_ble_eq_true rfl) (by decide) (ci := 5) rfl (by decide) g14 dX3_applyExtract_34 rfl h (fun z hz => c_X4_languageOf l F.ht G (fd M7 4 1 x0) (fd M7 1 1 x1) M7 z hz) (fun v11 M12 h kl13 => ?_)
  refine j_st (st' := [(true, v11), (true, (fd M7 1 2 x1)), (false, (fd M7 4 1 x0))]) rfl ?_
  refine j_callV (d' := 0) (argl := [(true, (fd M7 1 2 x1)), (true, v11)]) (rk9 := 1) (st := []) F hno M_X4_add q439 q440 q1076 ⟨by decide, by decide⟩ (Nat.le_of_ble_eq_true rfl) (by decide) (ci := 5) rfl (by decide) (kl13.is g14) dX3_applyExtract_37 rfl h (fun z hz => c_X4_add l F.ht G (fd M7 4 1 x0) (fd M7 1 2 x1) v11 M12 z hz) (fun v15 M16 h kl17 => ?_)
  refine j_st (st' := [(true, v15)]) rfl ?_
  refine j_istore F (lv' := [(4, (true, v15)), (3, (true, v6)), (2, (true, v2)), (0, (false, x0)), (1, (false, x1))]) (by decide) rfl dX3_applyExtract_40 ?_
  refine j_aload_n F 3 rfl rfl dX3_applyExtract_42 ?_
  refine j_get F ft_X3_44 rfl (kl17.is (kl13.is g10)) dX3_applyExtract_43 ?_
  refine j_iload F 0 rfl dX3_applyExtract_46 ?_
  obtain ⟨g21, h⟩ := gua h
  refine j_callV (d' := 1) (argl := [(true, v15)]) (rk9 := 2) (st := []) F hno M_X4_textOf q638 q639 q692 ⟨by decide, by decide⟩ (Nat.le_of_ble_eq_true rfl) (by decide) (ci := 5) rfl (by decide) g21 dX3_applyExtract_48 rfl h (fun z hz => c_X4_textOf l F.ht G (fd M16 4 1 x0) v15 M16 z hz) (fun v18 M19 h kl20 => ?_)
  refine j_st (st' := [(false, v18)]) rfl ?_
  refine j_aload_n F 3 rfl rfl dX3_applyExtract_51 ?_
  refine j_aload_n F 4 rfl rfl dX3_applyExtract_52 ?_
  refine j_get F ft_X3_132 rfl (kl20.is (kl17.is (kl13.is (kl8.is (kl4.is g1))))) dX3_applyExtract_53 ?_
  refine j_callV (d' := 0) (argl := [(true, (fd M19 1 1 x1))]) (rk9 := 2) (st := [(false, v18)]) F hno M_X3_copyOf q689 q690 q688 ⟨by decide, by decide⟩ (Nat.le_of_ble_eq_true rfl) (by decide) (ci := 4) rfl (by decide) (kl20.is (kl17.is (kl13.is g10))) dX3_applyExtract_56 rfl h (fun z hz => c_X3_copyOf l F.ht G x0 (fd M19 1 1 x1) M19 z hz) (fun v22 M23 h kl24 => ?_)
  refine j_st (st' := [(false, v22), (false, v18)]) rfl ?_
  obtain ⟨g25, h⟩ := gua h
  refine j_get F ft_X3_117 rfl g25 dX3_applyExtract_59 ?_
  refine j_iload_n F 2 rfl rfl dX3_applyExtract_62 ?_
  refine j_iload_n F 1 rfl rfl dX3_applyExtract_63 ?_
  obtain ⟨g29, h⟩ := gua h
  refine j_callV (d' := 1) (argl := [(false, (fd M23 3 0 v22)), (true, v2), (true, v6)]) (rk9 := 0) (st := []) F hno M_X10_takePart q702 q703 q1077 ⟨by decide, by decide⟩ (Nat.le_of_ble_eq_true rfl) (by decide) (ci := 11) rfl (by decide) g29 dX3_applyExtract_64 rfl h (fun z hz => c_X10_takePart l F.ht G v18 (fd M23 3 0 v22) v2 v6 M23 z hz) (fun v26 M27 h kl28 => ?_)
  refine j_st (st' := []) rfl ?_
  refine j_aload_n F 3 rfl rfl dX3_applyExtract_67 ?_
  refine j_aload_n F 4 rfl rfl dX3_applyExtract_68 ?_
  refine j_get F ft_X3_132 rfl (kl28.is (kl24.is (kl20.is (kl17.is (kl13.is (kl8.is (kl4.is g1))))))) dX3_applyExtract_69 ?_
  refine j_iload_n F 2 rfl rfl dX3_applyExtract_72 ?_
  refine j_iload_n F 1 rfl rfl dX3_applyExtract_73 ?_
  refine j_iconst F dX3_applyExtract_74 ?_
  refine j_callV (d' := 10) (argl := [(true, (fd M27 1 1 x1)), (true, v2), (true, v6), (true, (-1))]) (rk9 := 0) (st := []) F hno M_X3_replaceSpan q1057 q12 q1055 ⟨by decide, by decide⟩ (Nat.le_of_ble_eq_true rfl) (by decide) (ci := 4) rfl (by decide) (kl28.is (kl24.is (kl20.is (kl17.is (kl13.is g10))))) dX3_applyExtract_75 rfl h (fun z hz => c_X3_replaceSpan l F.ht G x0 (fd M27 1 1 x1) v2 v6 (-1) M27 z hz) (fun v30 M31 h kl32 => ?_)
  refine j_st (st' := []) rfl ?_
  refine j_aload_n F 4 rfl rfl dX3_applyExtract_78 ?_
  refine j_iconst F dX3_applyExtract_79 ?_
  refine j_put (ty := .int) F ft_X3_129 rfl rfl tyX0 tyX0_ok nmX0 (by decide +kernel) (nf_int _) (kl32.is (kl28.is (kl24.is (kl20.is (kl17.is (kl13.is (kl8.is (kl4.is g1)))))))) dX3_applyExtract_80 ?_
  obtain ⟨M33, hM33⟩ : ∃ Z, Z = sF M31 1 3 x1 3 := ⟨_, rfl⟩
  have kl34 : kle M31 M33 := by rw [hM33]; exact kle_sF
  rw [← hM33]
  replace h := pt_as h hM33
  refine j_iconst F dX3_applyExtract_83 ?_
  exact j_iret F h dX3_applyExtract_84
theorem c_X3_applyExtract (l : Launch) (hl : l.stackTraces = false) (G : Gt) (x0 x1 : Int) (M : Mo) (z : RS) (h : X3_applyExtract x0 x1 M = some z) : CT l G yX3_applyExtract (cn yX3_applyExtract cX3_applyExtract 5 (some FieldType.int)) 11 [(false, x0), (false, x1)] M 1 z :=
  ctOf hl (by decide) (Nat.le_of_ble_eq_true rfl) (fun p e R s m args below meth c ρ F hno hnm => w_X3_applyExtract_0 F hno hnm x0 x1 M h)
theorem dX3_isLate_0 : decode cX3_isLate 0 = .ok (.aload_n 1, 1) := by decide +kernel
set_option maxRecDepth 100000 in
theorem q1386 : Cond.methodLink RX3 247 yX2_isHere ∈ GT := gt 1386 (by decide +kernel) (by decide +kernel)
theorem dX3_isLate_1 : decode cX3_isLate 1 = .ok (.invokevirtual 247, 3) := by decide +kernel
theorem dX3_isLate_4 : decode cX3_isLate 4 = .ok (.ifCond .eq 11, 3) := by decide +kernel
theorem dX3_isLate_15 : decode cX3_isLate 15 = .ok (.iconst 1, 1) := by decide +kernel
theorem dX3_isLate_16 : decode cX3_isLate 16 = .ok (.goto 4, 3) := by decide +kernel
theorem dX3_isLate_20 : decode cX3_isLate 20 = .ok (.ireturn, 1) := by decide +kernel
theorem dX3_isLate_7 : decode cX3_isLate 7 = .ok (.aload_n 1, 1) := by decide +kernel
set_option maxRecDepth 100000 in
theorem q205 : Cond.fieldLink RX3 250 "ToolPlex$Copy" "opened" "I" ∈ GT := gt 205 (by decide +kernel) (by decide +kernel)
theorem ft_X3_250 : FT RX3 250 RX2 3 RX2 TX2 7 5 := ⟨rfl, by decide, by decide, q205, Or.inl rfl, inGX2⟩
theorem dX3_isLate_8 : decode cX3_isLate 8 = .ok (.getfield 250, 3) := by decide +kernel
theorem dX3_isLate_11 : decode cX3_isLate 11 = .ok (.iload_n 2, 1) := by decide +kernel
theorem dX3_isLate_12 : decode cX3_isLate 12 = .ok (.if_icmp .le 7, 3) := by decide +kernel
theorem dX3_isLate_19 : decode cX3_isLate 19 = .ok (.iconst 0, 1) := by decide +kernel
set_option maxHeartbeats 4000000 in
set_option maxRecDepth 100000 in
theorem w_X3_isLate_0 {p : Program} {l : Launch} {e : Env} {R : Room} {s : State} {m : MethodId} {args : Array Value} {below : List Frame} {meth : Method} {c : Code} {G : Gt} {ρ0 : Int → Nat} {M0 : Mo} {res : RS} (F : Fx p l R s m args meth c cX3_isLate 3 RX3 G M0 1 (some FieldType.boolean)) (hno : ∀ x ∈ c.exceptionTable.toList, False) (hnm : meth.name = yX3_isLate.name) (x0 x1 x2 : Int) (M : Mo) (h : X3_isLate x0 x1 x2 M = some res) : J p l e R s m args below meth c 3 G ρ0 M0 1 res M 0 [(0, (false, x0)), (1, (false, x1)), (2, (true, x2))] [] := by
  unfold X3_isLate at h
  refine j_aload_n F 1 rfl rfl dX3_isLate_0 ?_
  obtain ⟨g4, h⟩ := gua h
  refine j_callV (d' := 0) (argl := []) (rk9 := 1) (st := []) F hno M_X2_isHere q468 q469 q1386 ⟨by decide, by decide⟩ (Nat.le_of_ble_eq_true rfl) (by decide) (ci := 3) rfl (by decide) g4 dX3_isLate_1 rfl h (fun z hz => c_X2_isHere l F.ht G x1 M z hz) (fun v1 M2 h kl3 => ?_)
  refine j_st (st' := [(true, v1)]) rfl ?_
  refine j_if_eq F 15 (by decide) dX3_isLate_4 h (fun h => ?_) (fun h => ?_)
  · skip
    refine j_iconst F dX3_isLate_15 ?_
    refine j_goto F 20 (by decide) dX3_isLate_16 ?_
    exact j_zret F (by decide) h dX3_isLate_20
  · skip
    refine j_aload_n F 1 rfl rfl dX3_isLate_7 ?_
    refine j_get F ft_X3_250 rfl (kl3.is g4) dX3_isLate_8 ?_
    refine j_iload_n F 2 rfl rfl dX3_isLate_11 ?_
    refine j_icmp_le F 19 (by decide) dX3_isLate_12 h (fun h => ?_) (fun h => ?_)
    · skip
      refine j_iconst F dX3_isLate_19 ?_
      exact j_zret F (by decide) h dX3_isLate_20
    · skip
      refine j_iconst F dX3_isLate_15 ?_
      refine j_goto F 20 (by decide) dX3_isLate_16 ?_
      exact j_zret F (by decide) h dX3_isLate_20
theorem c_X3_isLate (l : Launch) (hl : l.stackTraces = false) (G : Gt) (x0 x1 x2 : Int) (M : Mo) (z : RS) (h : X3_isLate x0 x1 x2 M = some z) : CT l G yX3_isLate (cn yX3_isLate cX3_isLate 3 (some FieldType.boolean)) 1 [(false, x0), (false, x1), (true, x2)] M 1 z :=
  ctOf hl (by decide) (Nat.le_of_ble_eq_true rfl) (fun p e R s m args below meth c ρ F hno hnm => w_X3_isLate_0 F hno hnm x0 x1 x2 M h)
theorem dX3_isCurrent_0 : decode cX3_isCurrent 0 = .ok (.aload_n 1, 1) := by decide +kernel
theorem dX3_isCurrent_1 : decode cX3_isCurrent 1 = .ok (.invokevirtual 247, 3) := by decide +kernel
theorem dX3_isCurrent_4 : decode cX3_isCurrent 4 = .ok (.ifCond .eq 14, 3) := by decide +kernel
theorem dX3_isCurrent_18 : decode cX3_isCurrent 18 = .ok (.iconst 0, 1) := by decide +kernel
theorem dX3_isCurrent_19 : decode cX3_isCurrent 19 = .ok (.ireturn, 1) := by decide +kernel
theorem dX3_isCurrent_7 : decode cX3_isCurrent 7 = .ok (.aload_n 1, 1) := by decide +kernel
theorem dX3_isCurrent_8 : decode cX3_isCurrent 8 = .ok (.getfield 118, 3) := by decide +kernel
theorem dX3_isCurrent_11 : decode cX3_isCurrent 11 = .ok (.aload_n 3, 1) := by decide +kernel
theorem dX3_isCurrent_12 : decode cX3_isCurrent 12 = .ok (.getfield 67, 3) := by decide +kernel
theorem dX3_isCurrent_15 : decode cX3_isCurrent 15 = .ok (.if_icmp .eq 5, 3) := by decide +kernel
theorem dX3_isCurrent_20 : decode cX3_isCurrent 20 = .ok (.iconst 0, 1) := by decide +kernel
theorem dX3_isCurrent_21 : decode cX3_isCurrent 21 = .ok (.istore 4, 2) := by decide +kernel
theorem dX3_isCurrent_23 : decode cX3_isCurrent 23 = .ok (.iload_n 2, 1) := by decide +kernel
theorem dX3_isCurrent_24 : decode cX3_isCurrent 24 = .ok (.iconst 4, 1) := by decide +kernel
theorem dX3_isCurrent_25 : decode cX3_isCurrent 25 = .ok (.if_icmp .ne 64, 3) := by decide +kernel
theorem dX3_isCurrent_89 : decode cX3_isCurrent 89 = .ok (.iconst 1, 1) := by decide +kernel
theorem dX3_isCurrent_90 : decode cX3_isCurrent 90 = .ok (.ireturn, 1) := by decide +kernel
theorem dX3_isCurrent_28 : decode cX3_isCurrent 28 = .ok (.iload 4, 2) := by decide +kernel
theorem dX3_isCurrent_30 : decode cX3_isCurrent 30 = .ok (.aload_n 3, 1) := by decide +kernel
set_option maxRecDepth 100000 in
theorem q772 : Cond.fieldLink RX3 242 "ToolPlex$Message" "items" "LToolPlex$Items;" ∈ GT := gt 772 (by decide +kernel) (by decide +kernel)
theorem ft_X3_242 : FT RX3 242 RX6 7 RX6 TX6 17 15 := ⟨rfl, by decide, by decide, q772, Or.inl rfl, inGX6⟩
theorem dX3_isCurrent_31 : decode cX3_isCurrent 31 = .ok (.getfield 242, 3) := by decide +kernel
theorem dX3_isCurrent_34 : decode cX3_isCurrent 34 = .ok (.invokevirtual 201, 3) := by decide +kernel
theorem dX3_isCurrent_37 : decode cX3_isCurrent 37 = .ok (.if_icmp .ge 52, 3) := by decide +kernel
theorem dX3_isCurrent_40 : decode cX3_isCurrent 40 = .ok (.aload_n 3, 1) := by decide +kernel
theorem dX3_isCurrent_41 : decode cX3_isCurrent 41 = .ok (.getfield 242, 3) := by decide +kernel
theorem dX3_isCurrent_44 : decode cX3_isCurrent 44 = .ok (.iload 4, 2) := by decide +kernel
theorem dX3_isCurrent_46 : decode cX3_isCurrent 46 = .ok (.invokevirtual 205, 3) := by decide +kernel
theorem dX3_isCurrent_49 : decode cX3_isCurrent 49 = .ok (.istore 5, 2) := by decide +kernel
theorem dX3_isCurrent_51 : decode cX3_isCurrent 51 = .ok (.aload_n 0, 1) := by decide +kernel
theorem dX3_isCurrent_52 : decode cX3_isCurrent 52 = .ok (.iload 5, 2) := by decide +kernel
theorem dX3_isCurrent_54 : decode cX3_isCurrent 54 = .ok (.invokevirtual 89, 3) := by decide +kernel
theorem dX3_isCurrent_57 : decode cX3_isCurrent 57 = .ok (.invokevirtual 247, 3) := by decide +kernel
theorem dX3_isCurrent_60 : decode cX3_isCurrent 60 = .ok (.ifCond .eq 21, 3) := by decide +kernel
theorem dX3_isCurrent_81 : decode cX3_isCurrent 81 = .ok (.iconst 0, 1) := by decide +kernel
theorem dX3_isCurrent_82 : decode cX3_isCurrent 82 = .ok (.ireturn, 1) := by decide +kernel
theorem dX3_isCurrent_63 : decode cX3_isCurrent 63 = .ok (.aload_n 0, 1) := by decide +kernel
theorem dX3_isCurrent_64 : decode cX3_isCurrent 64 = .ok (.iload 5, 2) := by decide +kernel
theorem dX3_isCurrent_66 : decode cX3_isCurrent 66 = .ok (.invokevirtual 89, 3) := by decide +kernel
theorem dX3_isCurrent_69 : decode cX3_isCurrent 69 = .ok (.getfield 118, 3) := by decide +kernel
theorem dX3_isCurrent_72 : decode cX3_isCurrent 72 = .ok (.aload_n 3, 1) := by decide +kernel
theorem dX3_isCurrent_73 : decode cX3_isCurrent 73 = .ok (.iload 5, 2) := by decide +kernel
set_option maxRecDepth 100000 in
theorem q1313 : Cond.code yX6_versionOf cX6_versionOf 2 (some FieldType.int) ∈ GT := gt 1313 (rfl) (by decide +kernel)
theorem M_X6_versionOf : MY yX6_versionOf cX6_versionOf 2 (some FieldType.int) 1 := ⟨q1313, q75, by decide +kernel, by decide +kernel⟩
set_option maxRecDepth 100000 in
theorem q1311 : Cond.instanceMethod yX6_versionOf ∈ GT := gt 1311 (by decide +kernel) (by decide +kernel)
set_option maxRecDepth 100000 in
theorem q1312 : Cond.selects RX6 yX6_versionOf yX6_versionOf ∈ GT := gt 1312 (by decide +kernel) (by decide +kernel)
set_option maxRecDepth 100000 in
theorem q1391 : Cond.methodLink RX3 253 yX6_versionOf ∈ GT := gt 1391 (by decide +kernel) (by decide +kernel)
theorem dX3_isCurrent_75 : decode cX3_isCurrent 75 = .ok (.invokevirtual 253, 3) := by decide +kernel
theorem dX3_isCurrent_78 : decode cX3_isCurrent 78 = .ok (.if_icmp .eq 5, 3) := by decide +kernel
theorem dX3_isCurrent_83 : decode cX3_isCurrent 83 = .ok (.iinc 4 1, 3) := by decide +kernel
theorem dX3_isCurrent_86 : decode cX3_isCurrent 86 = .ok (.goto (-63), 3) := by decide +kernel
set_option maxHeartbeats 4000000 in
set_option maxRecDepth 100000 in
theorem w_X3_isCurrent_23 {p : Program} {l : Launch} {e : Env} {R : Room} {s : State} {m : MethodId} {args : Array Value} {below : List Frame} {meth : Method} {c : Code} {G : Gt} {ρ0 : Int → Nat} {M0 : Mo} {res : RS} (F : Fx p l R s m args meth c cX3_isCurrent 6 RX3 G M0 2 (some FieldType.boolean)) (hno : ∀ x ∈ c.exceptionTable.toList, False) (hnm : meth.name = yX3_isCurrent.name) (n : Nat) : ∀ (x0 x2 x3 x4 : Int) (M : Mo), X3_isCurrent_23 n x0 x2 x3 x4 M = some res → J p l e R s m args below meth c 6 G ρ0 M0 1 res M 23 [(0, (false, x0)), (2, (true, x2)), (3, (false, x3)), (4, (true, x4))] [] := by
  induction n with
  | zero => intro x0 x2 x3 x4 M h; cases h
  | succ n ih =>
    intro x0 x2 x3 x4 M h
    rw [X3_isCurrent_23] at h
    refine j_iload_n F 1 rfl rfl dX3_isCurrent_23 ?_
    refine j_iconst F dX3_isCurrent_24 ?_
    refine j_icmp_ne F 89 (by decide) dX3_isCurrent_25 h (fun h => ?_) (fun h => ?_)
    · skip
      refine j_iconst F dX3_isCurrent_89 ?_
      exact j_zret F (by decide) h dX3_isCurrent_90
    · skip
      refine j_iload F 3 rfl dX3_isCurrent_28 ?_
      refine j_aload_n F 2 rfl rfl dX3_isCurrent_30 ?_
      obtain ⟨g1, h⟩ := gua h
      refine j_get F ft_X3_242 rfl g1 dX3_isCurrent_31 ?_
      obtain ⟨g5, h⟩ := gua h
      refine j_callV (d' := 0) (argl := []) (rk9 := 1) (st := [(true, x4)]) F hno M_X5_size q1022 q1023 q1032 ⟨by decide, by decide⟩ (Nat.le_of_ble_eq_true rfl) (by decide) (ci := 6) rfl (by decide) g5 dX3_isCurrent_34 rfl h (fun z hz => c_X5_size l F.ht G (fd M 7 15 x3) M z hz) (fun v2 M3 h kl4 => ?_)
      refine j_st (st' := [(true, v2), (true, x4)]) rfl ?_
      refine j_icmp_ge F 89 (by decide) dX3_isCurrent_37 h (fun h => ?_) (fun h => ?_)
      · skip
        refine j_iconst F dX3_isCurrent_89 ?_
        exact j_zret F (by decide) h dX3_isCurrent_90
      · skip
        refine j_aload_n F 2 rfl rfl dX3_isCurrent_40 ?_
        refine j_get F ft_X3_242 rfl (kl4.is g1) dX3_isCurrent_41 ?_
        refine j_iload F 3 rfl dX3_isCurrent_44 ?_
        obtain ⟨g9, h⟩ := gua h
        refine j_callV (d' := 1) (argl := [(true, x4)]) (rk9 := 1) (st := []) F hno M_X5_fileAt q875 q876 q1037 ⟨by decide, by decide⟩ (Nat.le_of_ble_eq_true rfl) (by decide) (ci := 6) rfl (by decide) g9 dX3_isCurrent_46 rfl h (fun z hz => c_X5_fileAt l F.ht G (fd M3 7 15 x3) x4 M3 z hz) (fun v6 M7 h kl8 => ?_)
        refine j_st (st' := [(true, v6)]) rfl ?_
        refine j_istore F (lv' := [(5, (true, v6)), (0, (false, x0)), (2, (true, x2)), (3, (false, x3)), (4, (true, x4))]) (by decide) rfl dX3_isCurrent_49 ?_
        refine j_aload_n F 1 rfl rfl dX3_isCurrent_51 ?_
        refine j_iload F 0 rfl dX3_isCurrent_52 ?_
        obtain ⟨g13, h⟩ := gua h
        refine j_callV (d' := 0) (argl := [(true, v6)]) (rk9 := 2) (st := []) F hno M_X3_copyOf q689 q690 q688 ⟨by decide, by decide⟩ (Nat.le_of_ble_eq_true rfl) (by decide) (ci := 4) rfl (by decide) g13 dX3_isCurrent_54 rfl h (fun z hz => c_X3_copyOf l F.ht G x0 v6 M7 z hz) (fun v10 M11 h kl12 => ?_)
        refine j_st (st' := [(false, v10)]) rfl ?_
        obtain ⟨g17, h⟩ := gua h
        refine j_callV (d' := 0) (argl := []) (rk9 := 1) (st := []) F hno M_X2_isHere q468 q469 q1386 ⟨by decide, by decide⟩ (Nat.le_of_ble_eq_true rfl) (by decide) (ci := 3) rfl (by decide) g17 dX3_isCurrent_57 rfl h (fun z hz => c_X2_isHere l F.ht G v10 M11 z hz) (fun v14 M15 h kl16 => ?_)
        refine j_st (st' := [(true, v14)]) rfl ?_
        refine j_if_eq F 81 (by decide) dX3_isCurrent_60 h (fun h => ?_) (fun h => ?_)
        · skip
          refine j_iconst F dX3_isCurrent_81 ?_
          exact j_zret F (by decide) h dX3_isCurrent_82
        · skip
          refine j_aload_n F 1 rfl rfl dX3_isCurrent_63 ?_
          refine j_iload F 0 rfl dX3_isCurrent_64 ?_
          refine j_callV (d' := 0) (argl := [(true, v6)]) (rk9 := 2) (st := []) F hno M_X3_copyOf q689 q690 q688 ⟨by decide, by decide⟩ (Nat.le_of_ble_eq_true rfl) (by decide) (ci := 4) rfl (by decide) (kl16.is (kl12.is g13)) dX3_isCurrent_66 rfl h (fun z hz => c_X3_copyOf l F.ht G x0 v6 M15 z hz) (fun v18 M19 h kl20 => ?_)
          refine j_st (st' := [(false, v18)]) rfl ?_
          obtain ⟨g21, h⟩ := gua h
          refine j_get F ft_X3_118 rfl g21 dX3_isCurrent_69 ?_
          refine j_aload_n F 3 rfl rfl dX3_isCurrent_72 ?_
          refine j_iload F 0 rfl dX3_isCurrent_73 ?_
          refine j_callV (d' := 0) (argl := [(true, v6)]) (rk9 := 1) (st := [(true, (fd M19 3 4 v18))]) F hno M_X6_versionOf q1311 q1312 q1391 ⟨by decide, by decide⟩ (Nat.le_of_ble_eq_true rfl) (by decide) (ci := 7) rfl (by decide) (kl20.is (kl16.is (kl12.is (kl8.is (kl4.is g1))))) dX3_isCurrent_75 rfl h (fun z hz => c_X6_versionOf l F.ht G x3 v6 M19 z hz) (fun v22 M23 h kl24 => ?_)
          refine j_st (st' := [(true, v22), (true, (fd M19 3 4 v18))]) rfl ?_
          refine j_icmp_eq F 83 (by decide) dX3_isCurrent_78 h (fun h => ?_) (fun h => ?_)
          · skip
            refine j_iinc F 4 (lv' := [(4, (true, (x4 + 1))), (5, (true, v6)), (0, (false, x0)), (2, (true, x2)), (3, (false, x3))]) rfl (by decide) rfl dX3_isCurrent_83 ?_
            refine j_goto F 23 (by decide) dX3_isCurrent_86 ?_
            refine j_sub (lv' := [(0, (false, x0)), (2, (true, x2)), (3, (false, x3)), (4, (true, (x4 + 1)))]) [2, 3, 4, 0] rfl ?_
            exact ih x0 x2 x3 (x4 + 1) M23 h
          · skip
            refine j_iconst F dX3_isCurrent_81 ?_
            exact j_zret F (by decide) h dX3_isCurrent_82
set_option maxHeartbeats 4000000 in
set_option maxRecDepth 100000 in
theorem w_X3_isCurrent_0 {p : Program} {l : Launch} {e : Env} {R : Room} {s : State} {m : MethodId} {args : Array Value} {below : List Frame} {meth : Method} {c : Code} {G : Gt} {ρ0 : Int → Nat} {M0 : Mo} {res : RS} (F : Fx p l R s m args meth c cX3_isCurrent 6 RX3 G M0 2 (some FieldType.boolean)) (hno : ∀ x ∈ c.exceptionTable.toList, False) (hnm : meth.name = yX3_isCurrent.name) (x0 x1 x2 x3 : Int) (M : Mo) (h : X3_isCurrent x0 x1 x2 x3 M = some res) : J p l e R s m args below meth c 6 G ρ0 M0 1 res M 0 [(0, (false, x0)), (1, (false, x1)), (2, (true, x2)), (3, (false, x3))] [] := by
  unfold X3_isCurrent at h
  refine j_aload_n F 1 rfl rfl dX3_isCurrent_0 ?_
  obtain ⟨g4, h⟩ := gua h
  refine j_callV (d' := 0) (argl := []) (rk9 := 1) (st := []) F hno M_X2_isHere q468 q469 q1386 ⟨by decide, by decide⟩ (Nat.le_of_ble_eq_true rfl) (by decide) (ci := 3) rfl (by decide) g4 dX3_isCurrent_1 rfl h (fun z hz => c_X2_isHere l F.ht G x1 M z hz) (fun v1 M2 h kl3 => ?_)
  refine j_st (st' := [(true, v1)]) rfl ?_
  refine j_if_eq F 18 (by decide) dX3_isCurrent_4 h (fun h => ?_) (fun h => ?_)
  · skip
    refine j_iconst F dX3_isCurrent_18 ?_
    exact j_zret F (by decide) h dX3_isCurrent_19
  · skip
    refine j_aload_n F 1 rfl rfl dX3_isCurrent_7 ?_
    refine j_get F ft_X3_118 rfl (kl3.is g4) dX3_isCurrent_8 ?_
    refine j_aload_n F 3 rfl rfl dX3_isCurrent_11 ?_
    obtain ⟨g5, h⟩ := gua h
    refine j_get F ft_X3_67 rfl g5 dX3_isCurrent_12 ?_
    refine j_icmp_eq F 20 (by decide) dX3_isCurrent_15 h (fun h => ?_) (fun h => ?_)
    · skip
      refine j_iconst F dX3_isCurrent_20 ?_
      refine j_istore F (lv' := [(4, (true, 0)), (0, (false, x0)), (1, (false, x1)), (2, (true, x2)), (3, (false, x3))]) (by decide) rfl dX3_isCurrent_21 ?_
      refine j_sub (lv' := [(0, (false, x0)), (2, (true, x2)), (3, (false, x3)), (4, (true, 0))]) [1, 3, 4, 0] rfl ?_
      exact w_X3_isCurrent_23 F hno hnm FU x0 x2 x3 0 M2 h
    · skip
      refine j_iconst F dX3_isCurrent_18 ?_
      exact j_zret F (by decide) h dX3_isCurrent_19
theorem c_X3_isCurrent (l : Launch) (hl : l.stackTraces = false) (G : Gt) (x0 x1 x2 x3 : Int) (M : Mo) (z : RS) (h : X3_isCurrent x0 x1 x2 x3 M = some z) : CT l G yX3_isCurrent (cn yX3_isCurrent cX3_isCurrent 6 (some FieldType.boolean)) 2 [(false, x0), (false, x1), (true, x2), (false, x3)] M 1 z :=
  ctOf hl (by decide) (Nat.le_of_ble_eq_true rfl) (fun p e R s m args below meth c ρ F hno hnm => w_X3_isCurrent_0 F hno hnm x0 x1 x2 x3 M h)
theorem dX3_takeAnswer_0 : decode cX3_takeAnswer 0 = .ok (.aload_n 0, 1) := by decide +kernel
theorem dX3_takeAnswer_1 : decode cX3_takeAnswer 1 = .ok (.aload_n 1, 1) := by decide +kernel
theorem dX3_takeAnswer_2 : decode cX3_takeAnswer 2 = .ok (.getfield 190, 3) := by decide +kernel
set_option maxRecDepth 100000 in
theorem q1010 : Cond.code yX3_askAt cX3_askAt 2 (some (FieldType.object "ToolPlex$Ask")) ∈ GT := gt 1010 (rfl) (by decide +kernel)
theorem M_X3_askAt : MY yX3_askAt cX3_askAt 2 (some (FieldType.object "ToolPlex$Ask")) 1 := ⟨q1010, q60, by decide +kernel, by decide +kernel⟩
set_option maxRecDepth 100000 in
theorem q1008 : Cond.instanceMethod yX3_askAt ∈ GT := gt 1008 (by decide +kernel) (by decide +kernel)
set_option maxRecDepth 100000 in
theorem q1009 : Cond.selects RX3 yX3_askAt yX3_askAt ∈ GT := gt 1009 (by decide +kernel) (by decide +kernel)
set_option maxRecDepth 100000 in
theorem q1381 : Cond.methodLink RX3 229 yX3_askAt ∈ GT := gt 1381 (by decide +kernel) (by decide +kernel)
theorem dX3_takeAnswer_5 : decode cX3_takeAnswer 5 = .ok (.invokevirtual 229, 3) := by decide +kernel
theorem dX3_takeAnswer_8 : decode cX3_takeAnswer 8 = .ok (.astore_n 2, 1) := by decide +kernel
theorem dX3_takeAnswer_9 : decode cX3_takeAnswer 9 = .ok (.aload_n 2, 1) := by decide +kernel
theorem dX3_takeAnswer_10 : decode cX3_takeAnswer 10 = .ok (.ifnull 10, 3) := by decide +kernel
theorem dX3_takeAnswer_20 : decode cX3_takeAnswer 20 = .ok (.return_, 1) := by decide +kernel
theorem dX3_takeAnswer_13 : decode cX3_takeAnswer 13 = .ok (.aload_n 2, 1) := by decide +kernel
theorem dX3_takeAnswer_14 : decode cX3_takeAnswer 14 = .ok (.getfield 129, 3) := by decide +kernel
theorem dX3_takeAnswer_17 : decode cX3_takeAnswer 17 = .ok (.ifCond .eq 4, 3) := by decide +kernel
theorem dX3_takeAnswer_21 : decode cX3_takeAnswer 21 = .ok (.aload_n 1, 1) := by decide +kernel
set_option maxRecDepth 100000 in
theorem q763 : Cond.fieldLink RX3 233 "ToolPlex$Message" "standing" "I" ∈ GT := gt 763 (by decide +kernel) (by decide +kernel)
theorem ft_X3_233 : FT RX3 233 RX6 7 RX6 TX6 17 13 := ⟨rfl, by decide, by decide, q763, Or.inl rfl, inGX6⟩
theorem dX3_takeAnswer_22 : decode cX3_takeAnswer 22 = .ok (.getfield 233, 3) := by decide +kernel
theorem dX3_takeAnswer_25 : decode cX3_takeAnswer 25 = .ok (.iconst 1, 1) := by decide +kernel
theorem dX3_takeAnswer_26 : decode cX3_takeAnswer 26 = .ok (.if_icmp .eq 12, 3) := by decide +kernel
theorem dX3_takeAnswer_38 : decode cX3_takeAnswer 38 = .ok (.aload_n 0, 1) := by decide +kernel
theorem dX3_takeAnswer_39 : decode cX3_takeAnswer 39 = .ok (.aload_n 2, 1) := by decide +kernel
theorem dX3_takeAnswer_40 : decode cX3_takeAnswer 40 = .ok (.getfield 132, 3) := by decide +kernel
theorem dX3_takeAnswer_43 : decode cX3_takeAnswer 43 = .ok (.invokevirtual 89, 3) := by decide +kernel
theorem dX3_takeAnswer_46 : decode cX3_takeAnswer 46 = .ok (.astore_n 3, 1) := by decide +kernel
theorem dX3_takeAnswer_47 : decode cX3_takeAnswer 47 = .ok (.aload_n 2, 1) := by decide +kernel
theorem dX3_takeAnswer_48 : decode cX3_takeAnswer 48 = .ok (.getfield 150, 3) := by decide +kernel
theorem dX3_takeAnswer_51 : decode cX3_takeAnswer 51 = .ok (.invokestatic 153, 3) := by decide +kernel
theorem dX3_takeAnswer_54 : decode cX3_takeAnswer 54 = .ok (.ifCond .eq 18, 3) := by decide +kernel
theorem dX3_takeAnswer_72 : decode cX3_takeAnswer 72 = .ok (.aload_n 0, 1) := by decide +kernel
theorem dX3_takeAnswer_73 : decode cX3_takeAnswer 73 = .ok (.aload_n 3, 1) := by decide +kernel
theorem dX3_takeAnswer_74 : decode cX3_takeAnswer 74 = .ok (.aload_n 2, 1) := by decide +kernel
theorem dX3_takeAnswer_75 : decode cX3_takeAnswer 75 = .ok (.getfield 150, 3) := by decide +kernel
theorem dX3_takeAnswer_78 : decode cX3_takeAnswer 78 = .ok (.aload_n 1, 1) := by decide +kernel
set_option maxRecDepth 100000 in
theorem q1390 : Cond.code yX3_isCurrent cX3_isCurrent 6 (some FieldType.boolean) ∈ GT := gt 1390 (rfl) (by decide +kernel)
theorem M_X3_isCurrent : MY yX3_isCurrent cX3_isCurrent 6 (some FieldType.boolean) 3 := ⟨q1390, q60, by decide +kernel, by decide +kernel⟩
set_option maxRecDepth 100000 in
theorem q1389 : Cond.instanceMethod yX3_isCurrent ∈ GT := gt 1389 (by decide +kernel) (by decide +kernel)
set_option maxRecDepth 100000 in
theorem q35 : Cond.selects RX3 yX3_isCurrent yX3_isCurrent ∈ GT := gt 35 (by decide +kernel) (by decide +kernel)
set_option maxRecDepth 100000 in
theorem q1387 : Cond.methodLink RX3 238 yX3_isCurrent ∈ GT := gt 1387 (by decide +kernel) (by decide +kernel)
theorem dX3_takeAnswer_79 : decode cX3_takeAnswer 79 = .ok (.invokevirtual 238, 3) := by decide +kernel
theorem dX3_takeAnswer_82 : decode cX3_takeAnswer 82 = .ok (.ifCond .ne 9, 3) := by decide +kernel
theorem dX3_takeAnswer_57 : decode cX3_takeAnswer 57 = .ok (.aload_n 0, 1) := by decide +kernel
theorem dX3_takeAnswer_58 : decode cX3_takeAnswer 58 = .ok (.aload_n 3, 1) := by decide +kernel
theorem dX3_takeAnswer_59 : decode cX3_takeAnswer 59 = .ok (.aload_n 1, 1) := by decide +kernel
theorem dX3_takeAnswer_60 : decode cX3_takeAnswer 60 = .ok (.getfield 67, 3) := by decide +kernel
set_option maxRecDepth 100000 in
theorem q1385 : Cond.code yX3_isLate cX3_isLate 3 (some FieldType.boolean) ∈ GT := gt 1385 (rfl) (by decide +kernel)
theorem M_X3_isLate : MY yX3_isLate cX3_isLate 3 (some FieldType.boolean) 2 := ⟨q1385, q60, by decide +kernel, by decide +kernel⟩
set_option maxRecDepth 100000 in
theorem q1384 : Cond.instanceMethod yX3_isLate ∈ GT := gt 1384 (by decide +kernel) (by decide +kernel)
set_option maxRecDepth 100000 in
theorem q34 : Cond.selects RX3 yX3_isLate yX3_isLate ∈ GT := gt 34 (by decide +kernel) (by decide +kernel)
set_option maxRecDepth 100000 in
theorem q1382 : Cond.methodLink RX3 234 yX3_isLate ∈ GT := gt 1382 (by decide +kernel) (by decide +kernel)
theorem dX3_takeAnswer_63 : decode cX3_takeAnswer 63 = .ok (.invokevirtual 234, 3) := by decide +kernel
theorem dX3_takeAnswer_66 : decode cX3_takeAnswer 66 = .ok (.ifCond .eq 25, 3) := by decide +kernel
theorem dX3_takeAnswer_69 : decode cX3_takeAnswer 69 = .ok (.goto 16, 3) := by decide +kernel
theorem dX3_takeAnswer_29 : decode cX3_takeAnswer 29 = .ok (.aload_n 2, 1) := by decide +kernel
theorem dX3_takeAnswer_30 : decode cX3_takeAnswer 30 = .ok (.aload_n 1, 1) := by decide +kernel
theorem dX3_takeAnswer_31 : decode cX3_takeAnswer 31 = .ok (.getfield 233, 3) := by decide +kernel
theorem dX3_takeAnswer_34 : decode cX3_takeAnswer 34 = .ok (.putfield 129, 3) := by decide +kernel
theorem dX3_takeAnswer_37 : decode cX3_takeAnswer 37 = .ok (.return_, 1) := by decide +kernel
theorem dX3_takeAnswer_85 : decode cX3_takeAnswer 85 = .ok (.aload_n 2, 1) := by decide +kernel
theorem dX3_takeAnswer_86 : decode cX3_takeAnswer 86 = .ok (.iconst 3, 1) := by decide +kernel
theorem dX3_takeAnswer_87 : decode cX3_takeAnswer 87 = .ok (.putfield 129, 3) := by decide +kernel
theorem dX3_takeAnswer_90 : decode cX3_takeAnswer 90 = .ok (.return_, 1) := by decide +kernel
theorem dX3_takeAnswer_91 : decode cX3_takeAnswer 91 = .ok (.aload_n 2, 1) := by decide +kernel
theorem dX3_takeAnswer_92 : decode cX3_takeAnswer 92 = .ok (.iconst 1, 1) := by decide +kernel
theorem dX3_takeAnswer_93 : decode cX3_takeAnswer 93 = .ok (.putfield 129, 3) := by decide +kernel
theorem dX3_takeAnswer_96 : decode cX3_takeAnswer 96 = .ok (.aload_n 2, 1) := by decide +kernel
theorem dX3_takeAnswer_97 : decode cX3_takeAnswer 97 = .ok (.aload_n 1, 1) := by decide +kernel
theorem dX3_takeAnswer_98 : decode cX3_takeAnswer 98 = .ok (.getfield 242, 3) := by decide +kernel
theorem dX3_takeAnswer_101 : decode cX3_takeAnswer 101 = .ok (.putfield 135, 3) := by decide +kernel
theorem dX3_takeAnswer_104 : decode cX3_takeAnswer 104 = .ok (.aload_n 2, 1) := by decide +kernel
theorem dX3_takeAnswer_105 : decode cX3_takeAnswer 105 = .ok (.getfield 150, 3) := by decide +kernel
theorem dX3_takeAnswer_108 : decode cX3_takeAnswer 108 = .ok (.invokestatic 153, 3) := by decide +kernel
theorem dX3_takeAnswer_111 : decode cX3_takeAnswer 111 = .ok (.ifCond .eq 15, 3) := by decide +kernel
theorem dX3_takeAnswer_126 : decode cX3_takeAnswer 126 = .ok (.return_, 1) := by decide +kernel
theorem dX3_takeAnswer_114 : decode cX3_takeAnswer 114 = .ok (.aload_n 3, 1) := by decide +kernel
theorem dX3_takeAnswer_115 : decode cX3_takeAnswer 115 = .ok (.aload_n 2, 1) := by decide +kernel
theorem dX3_takeAnswer_116 : decode cX3_takeAnswer 116 = .ok (.getfield 135, 3) := by decide +kernel
theorem dX3_takeAnswer_119 : decode cX3_takeAnswer 119 = .ok (.aload_n 1, 1) := by decide +kernel
theorem dX3_takeAnswer_120 : decode cX3_takeAnswer 120 = .ok (.getfield 67, 3) := by decide +kernel
set_option maxRecDepth 100000 in
theorem q1392 : Cond.methodLink RX3 243 yX2_moveAlong ∈ GT := gt 1392 (by decide +kernel) (by decide +kernel)
theorem dX3_takeAnswer_123 : decode cX3_takeAnswer 123 = .ok (.invokevirtual 243, 3) := by decide +kernel
set_option maxHeartbeats 4000000 in
set_option maxRecDepth 100000 in
theorem w_X3_takeAnswer_85 {p : Program} {l : Launch} {e : Env} {R : Room} {s : State} {m : MethodId} {args : Array Value} {below : List Frame} {meth : Method} {c : Code} {G : Gt} {ρ0 : Int → Nat} {M0 : Mo} {res : RS} (F : Fx p l R s m args meth c cX3_takeAnswer 4 RX3 G M0 4 none) (hno : ∀ x ∈ c.exceptionTable.toList, False) (hnm : meth.name = yX3_takeAnswer.name) (x2 : Int) (M : Mo) (h : X3_takeAnswer_85 x2 M = some res) : J p l e R s m args below meth c 4 G ρ0 M0 0 res M 85 [(2, (false, x2))] [] := by
  unfold X3_takeAnswer_85 at h
  refine j_aload_n F 0 rfl rfl dX3_takeAnswer_85 ?_
  refine j_iconst F dX3_takeAnswer_86 ?_
  obtain ⟨g1, h⟩ := gua h
  refine j_put (ty := .int) F ft_X3_129 rfl rfl tyX0 tyX0_ok nmX0 (by decide +kernel) (nf_int _) g1 dX3_takeAnswer_87 ?_
  obtain ⟨M2, hM2⟩ : ∃ Z, Z = sF M 1 3 x2 3 := ⟨_, rfl⟩
  have kl3 : kle M M2 := by rw [hM2]; exact kle_sF
  rw [← hM2]
  replace h := pt_as h hM2
  exact j_vret F (v := 0) h dX3_takeAnswer_90
set_option maxHeartbeats 4000000 in
set_option maxRecDepth 100000 in
theorem w_X3_takeAnswer_91 {p : Program} {l : Launch} {e : Env} {R : Room} {s : State} {m : MethodId} {args : Array Value} {below : List Frame} {meth : Method} {c : Code} {G : Gt} {ρ0 : Int → Nat} {M0 : Mo} {res : RS} (F : Fx p l R s m args meth c cX3_takeAnswer 4 RX3 G M0 4 none) (hno : ∀ x ∈ c.exceptionTable.toList, False) (hnm : meth.name = yX3_takeAnswer.name) (x1 x2 x3 : Int) (M : Mo) (h : X3_takeAnswer_91 x1 x2 x3 M = some res) : J p l e R s m args below meth c 4 G ρ0 M0 0 res M 91 [(1, (false, x1)), (2, (false, x2)), (3, (false, x3))] [] := by
  unfold X3_takeAnswer_91 at h
  refine j_aload_n F 1 rfl rfl dX3_takeAnswer_91 ?_
  refine j_iconst F dX3_takeAnswer_92 ?_
  obtain ⟨g1, h⟩ := gua h
  refine j_put (ty := .int) F ft_X3_129 rfl rfl tyX0 tyX0_ok nmX0 (by decide +kernel) (nf_int _) g1 dX3_takeAnswer_93 ?_
  obtain ⟨M2, hM2⟩ : ∃ Z, Z = sF M 1 3 x2 1 := ⟨_, rfl⟩
  have kl3 : kle M M2 := by rw [hM2]; exact kle_sF
  rw [← hM2]
  replace h := pt_as h hM2
  refine j_aload_n F 1 rfl rfl dX3_takeAnswer_96 ?_
  refine j_aload_n F 0 rfl rfl dX3_takeAnswer_97 ?_
  obtain ⟨g4, h⟩ := gua h
  refine j_get F ft_X3_242 rfl g4 dX3_takeAnswer_98 ?_
  refine j_put (ty := .object "ToolPlex$Items") F ft_X3_135 rfl rfl tyX0 tyX0_ok nmX0 (by decide +kernel) (nf_ref (Or.inl ⟨_, rfl⟩) _) (kl3.is g1) dX3_takeAnswer_101 ?_
  obtain ⟨M5, hM5⟩ : ∃ Z, Z = sF M2 1 4 x2 (fd M2 7 15 x1) := ⟨_, rfl⟩
  have kl6 : kle M2 M5 := by rw [hM5]; exact kle_sF
  rw [← hM5]
  replace h := pt_as h hM5
  refine j_aload_n F 1 rfl rfl dX3_takeAnswer_104 ?_
  refine j_get F ft_X3_150 rfl (kl6.is (kl3.is g1)) dX3_takeAnswer_105 ?_
  refine j_callSN (d' := 0) (argl := [(true, (fd M5 1 0 x2))]) (rk9 := 1) (st := []) F M_X11_isMoved q945 q944 ⟨by decide, by decide⟩ (Nat.le_of_ble_eq_true rfl) (by decide) dX3_takeAnswer_108 rfl h (fun z hz => c_X11_isMoved l F.ht G (fd M5 1 0 x2) M5 z hz) (fun v7 M8 h kl9 => ?_)
  refine j_st (st' := [(true, v7)]) rfl ?_
  refine j_if_eq F 126 (by decide) dX3_takeAnswer_111 h (fun h => ?_) (fun h => ?_)
  · skip
    exact j_vret F (v := 0) h dX3_takeAnswer_126
  · skip
    refine j_aload_n F 2 rfl rfl dX3_takeAnswer_114 ?_
    refine j_aload_n F 1 rfl rfl dX3_takeAnswer_115 ?_
    refine j_get F ft_X3_135 rfl (kl9.is (kl6.is (kl3.is g1))) dX3_takeAnswer_116 ?_
    refine j_aload_n F 0 rfl rfl dX3_takeAnswer_119 ?_
    refine j_get F ft_X3_67 rfl (kl9.is (kl6.is g4)) dX3_takeAnswer_120 ?_
    obtain ⟨g13, h⟩ := gua h
    refine j_callV (d' := 1) (argl := [(false, (fd M8 1 4 x2)), (true, (fd M8 7 5 x1))]) (rk9 := 0) (st := []) F hno M_X2_moveAlong q935 q936 q1392 ⟨by decide, by decide⟩ (Nat.le_of_ble_eq_true rfl) (by decide) (ci := 3) rfl (by decide) g13 dX3_takeAnswer_123 rfl h (fun z hz => c_X2_moveAlong l F.ht G x3 (fd M8 1 4 x2) (fd M8 7 5 x1) M8 z hz) (fun v10 M11 h kl12 => ?_)
    refine j_st (st' := []) rfl ?_
    exact j_vret F (v := 0) h dX3_takeAnswer_126
set_option maxHeartbeats 4000000 in
set_option maxRecDepth 100000 in
theorem w_X3_takeAnswer_0 {p : Program} {l : Launch} {e : Env} {R : Room} {s : State} {m : MethodId} {args : Array Value} {below : List Frame} {meth : Method} {c : Code} {G : Gt} {ρ0 : Int → Nat} {M0 : Mo} {res : RS} (F : Fx p l R s m args meth c cX3_takeAnswer 4 RX3 G M0 4 none) (hno : ∀ x ∈ c.exceptionTable.toList, False) (hnm : meth.name = yX3_takeAnswer.name) (x0 x1 : Int) (M : Mo) (h : X3_takeAnswer x0 x1 M = some res) : J p l e R s m args below meth c 4 G ρ0 M0 0 res M 0 [(0, (false, x0)), (1, (false, x1))] [] := by
  unfold X3_takeAnswer at h
  refine j_aload_n F 0 rfl rfl dX3_takeAnswer_0 ?_
  refine j_aload_n F 1 rfl rfl dX3_takeAnswer_1 ?_
  obtain ⟨g1, h⟩ := gua h
  refine j_get F ft_X3_190 rfl g1 dX3_takeAnswer_2 ?_
  obtain ⟨g5, h⟩ := gua h
  refine j_callV (d' := 3) (argl := [(true, (fd M 7 3 x1))]) (rk9 := 2) (st := []) F hno M_X3_askAt q1008 q1009 q1381 ⟨by decide, by decide⟩ (Nat.le_of_ble_eq_true rfl) (by decide) (ci := 4) rfl (by decide) g5 dX3_takeAnswer_5 rfl h (fun z hz => c_X3_askAt l F.ht G x0 (fd M 7 3 x1) M z hz) (fun v2 M3 h kl4 => ?_)
  refine j_st (st' := [(false, v2)]) rfl ?_
  refine j_astore_n F (lv' := [(2, (false, v2)), (0, (false, x0)), (1, (false, x1))]) rfl (by decide) rfl dX3_takeAnswer_8 ?_
  refine j_aload_n F 0 rfl rfl dX3_takeAnswer_9 ?_
  refine j_ifnull F 20 (by decide) dX3_takeAnswer_10 h (fun h => ?_) (fun h => ?_)
  · skip
    exact j_vret F (v := 0) h dX3_takeAnswer_20
  · skip
    refine j_aload_n F 0 rfl rfl dX3_takeAnswer_13 ?_
    obtain ⟨g6, h⟩ := gua h
    refine j_get F ft_X3_129 rfl g6 dX3_takeAnswer_14 ?_
    refine j_if_eq F 21 (by decide) dX3_takeAnswer_17 h (fun h => ?_) (fun h => ?_)
    · skip
      refine j_aload_n F 2 rfl rfl dX3_takeAnswer_21 ?_
      refine j_get F ft_X3_233 rfl (kl4.is g1) dX3_takeAnswer_22 ?_
      refine j_iconst F dX3_takeAnswer_25 ?_
      refine j_icmp_eq F 38 (by decide) dX3_takeAnswer_26 h (fun h => ?_) (fun h => ?_)
      · skip
        refine j_aload_n F 1 rfl rfl dX3_takeAnswer_38 ?_
        refine j_aload_n F 0 rfl rfl dX3_takeAnswer_39 ?_
        refine j_get F ft_X3_132 rfl g6 dX3_takeAnswer_40 ?_
        refine j_callV (d' := 0) (argl := [(true, (fd M3 1 1 v2))]) (rk9 := 2) (st := []) F hno M_X3_copyOf q689 q690 q688 ⟨by decide, by decide⟩ (Nat.le_of_ble_eq_true rfl) (by decide) (ci := 4) rfl (by decide) (kl4.is g5) dX3_takeAnswer_43 rfl h (fun z hz => c_X3_copyOf l F.ht G x0 (fd M3 1 1 v2) M3 z hz) (fun v7 M8 h kl9 => ?_)
        refine j_st (st' := [(false, v7)]) rfl ?_
        refine j_astore_n F (lv' := [(3, (false, v7)), (2, (false, v2)), (0, (false, x0)), (1, (false, x1))]) rfl (by decide) rfl dX3_takeAnswer_46 ?_
        refine j_aload_n F 1 rfl rfl dX3_takeAnswer_47 ?_
        refine j_get F ft_X3_150 rfl (kl9.is g6) dX3_takeAnswer_48 ?_
        refine j_callSN (d' := 0) (argl := [(true, (fd M8 1 0 v2))]) (rk9 := 1) (st := []) F M_X11_isMoved q945 q944 ⟨by decide, by decide⟩ (Nat.le_of_ble_eq_true rfl) (by decide) dX3_takeAnswer_51 rfl h (fun z hz => c_X11_isMoved l F.ht G (fd M8 1 0 v2) M8 z hz) (fun v10 M11 h kl12 => ?_)
        refine j_st (st' := [(true, v10)]) rfl ?_
        refine j_if_eq F 72 (by decide) dX3_takeAnswer_54 h (fun h => ?_) (fun h => ?_)
        · skip
          refine j_aload_n F 2 rfl rfl dX3_takeAnswer_72 ?_
          refine j_aload_n F 0 rfl rfl dX3_takeAnswer_73 ?_
          refine j_aload_n F 1 rfl rfl dX3_takeAnswer_74 ?_
          refine j_get F ft_X3_150 rfl (kl12.is (kl9.is g6)) dX3_takeAnswer_75 ?_
          refine j_aload_n F 3 rfl rfl dX3_takeAnswer_78 ?_
          refine j_callV (d' := 2) (argl := [(false, v7), (true, (fd M11 1 0 v2)), (false, x1)]) (rk9 := 1) (st := []) F hno M_X3_isCurrent q1389 q35 q1387 ⟨by decide, by decide⟩ (Nat.le_of_ble_eq_true rfl) (by decide) (ci := 4) rfl (by decide) (kl12.is (kl9.is (kl4.is g5))) dX3_takeAnswer_79 rfl h (fun z hz => c_X3_isCurrent l F.ht G x0 v7 (fd M11 1 0 v2) x1 M11 z hz) (fun v13 M14 h kl15 => ?_)
          refine j_st (st' := [(true, v13)]) rfl ?_
          refine j_if_ne F 91 (by decide) dX3_takeAnswer_82 h (fun h => ?_) (fun h => ?_)
          · skip
            refine j_sub (lv' := [(1, (false, x1)), (2, (false, v2)), (3, (false, v7))]) [3, 1, 0] rfl ?_
            exact w_X3_takeAnswer_91 F hno hnm x1 v2 v7 M14 h
          · skip
            refine j_sub (lv' := [(2, (false, v2))]) [1] rfl ?_
            exact w_X3_takeAnswer_85 F hno hnm v2 M14 h
        · skip
          refine j_aload_n F 2 rfl rfl dX3_takeAnswer_57 ?_
          refine j_aload_n F 0 rfl rfl dX3_takeAnswer_58 ?_
          refine j_aload_n F 3 rfl rfl dX3_takeAnswer_59 ?_
          refine j_get F ft_X3_67 rfl (kl12.is (kl9.is (kl4.is g1))) dX3_takeAnswer_60 ?_
          refine j_callV (d' := 1) (argl := [(false, v7), (true, (fd M11 7 5 x1))]) (rk9 := 1) (st := []) F hno M_X3_isLate q1384 q34 q1382 ⟨by decide, by decide⟩ (Nat.le_of_ble_eq_true rfl) (by decide) (ci := 4) rfl (by decide) (kl12.is (kl9.is (kl4.is g5))) dX3_takeAnswer_63 rfl h (fun z hz => c_X3_isLate l F.ht G x0 v7 (fd M11 7 5 x1) M11 z hz) (fun v16 M17 h kl18 => ?_)
          refine j_st (st' := [(true, v16)]) rfl ?_
          refine j_if_eq F 91 (by decide) dX3_takeAnswer_66 h (fun h => ?_) (fun h => ?_)
          · skip
            refine j_sub (lv' := [(1, (false, x1)), (2, (false, v2)), (3, (false, v7))]) [3, 1, 0] rfl ?_
            exact w_X3_takeAnswer_91 F hno hnm x1 v2 v7 M17 h
          · skip
            refine j_goto F 85 (by decide) dX3_takeAnswer_69 ?_
            refine j_sub (lv' := [(2, (false, v2))]) [1] rfl ?_
            exact w_X3_takeAnswer_85 F hno hnm v2 M17 h
      · skip
        refine j_aload_n F 0 rfl rfl dX3_takeAnswer_29 ?_
        refine j_aload_n F 2 rfl rfl dX3_takeAnswer_30 ?_
        refine j_get F ft_X3_233 rfl (kl4.is g1) dX3_takeAnswer_31 ?_
        refine j_put (ty := .int) F ft_X3_129 rfl rfl tyX0 tyX0_ok nmX0 (by decide +kernel) (nf_int _) g6 dX3_takeAnswer_34 ?_
        obtain ⟨M19, hM19⟩ : ∃ Z, Z = sF M3 1 3 v2 (fd M3 7 13 x1) := ⟨_, rfl⟩
        have kl20 : kle M3 M19 := by rw [hM19]; exact kle_sF
        rw [← hM19]
        replace h := pt_as h hM19
        exact j_vret F (v := 0) h dX3_takeAnswer_37
    · skip
      exact j_vret F (v := 0) h dX3_takeAnswer_20
theorem c_X3_takeAnswer (l : Launch) (hl : l.stackTraces = false) (G : Gt) (x0 x1 : Int) (M : Mo) (z : RS) (h : X3_takeAnswer x0 x1 M = some z) : CT l G yX3_takeAnswer (cn yX3_takeAnswer cX3_takeAnswer 4 none) 4 [(false, x0), (false, x1)] M 0 z :=
  ctOf hl (by decide) (Nat.le_of_ble_eq_true rfl) (fun p e R s m args below meth c ρ F hno hnm => w_X3_takeAnswer_0 F hno hnm x0 x1 M h)
theorem dX3_takeFaults_0 : decode cX3_takeFaults 0 = .ok (.aload_n 0, 1) := by decide +kernel
theorem dX3_takeFaults_1 : decode cX3_takeFaults 1 = .ok (.aload_n 1, 1) := by decide +kernel
theorem dX3_takeFaults_2 : decode cX3_takeFaults 2 = .ok (.getfield 142, 3) := by decide +kernel
theorem dX3_takeFaults_5 : decode cX3_takeFaults 5 = .ok (.invokevirtual 89, 3) := by decide +kernel
theorem dX3_takeFaults_8 : decode cX3_takeFaults 8 = .ok (.astore_n 2, 1) := by decide +kernel
theorem dX3_takeFaults_9 : decode cX3_takeFaults 9 = .ok (.aload_n 0, 1) := by decide +kernel
theorem dX3_takeFaults_10 : decode cX3_takeFaults 10 = .ok (.aload_n 2, 1) := by decide +kernel
theorem dX3_takeFaults_11 : decode cX3_takeFaults 11 = .ok (.aload_n 1, 1) := by decide +kernel
theorem dX3_takeFaults_12 : decode cX3_takeFaults 12 = .ok (.getfield 67, 3) := by decide +kernel
theorem dX3_takeFaults_15 : decode cX3_takeFaults 15 = .ok (.invokevirtual 234, 3) := by decide +kernel
theorem dX3_takeFaults_18 : decode cX3_takeFaults 18 = .ok (.ifCond .ne 19, 3) := by decide +kernel
theorem dX3_takeFaults_37 : decode cX3_takeFaults 37 = .ok (.return_, 1) := by decide +kernel
theorem dX3_takeFaults_21 : decode cX3_takeFaults 21 = .ok (.aload_n 1, 1) := by decide +kernel
theorem dX3_takeFaults_22 : decode cX3_takeFaults 22 = .ok (.getfield 142, 3) := by decide +kernel
theorem dX3_takeFaults_25 : decode cX3_takeFaults 25 = .ok (.ifCond .lt 12, 3) := by decide +kernel
theorem dX3_takeFaults_28 : decode cX3_takeFaults 28 = .ok (.aload_n 1, 1) := by decide +kernel
theorem dX3_takeFaults_29 : decode cX3_takeFaults 29 = .ok (.getfield 142, 3) := by decide +kernel
theorem dX3_takeFaults_32 : decode cX3_takeFaults 32 = .ok (.bipush 6, 2) := by decide +kernel
theorem dX3_takeFaults_34 : decode cX3_takeFaults 34 = .ok (.if_icmp .lt 4, 3) := by decide +kernel
theorem dX3_takeFaults_38 : decode cX3_takeFaults 38 = .ok (.aload_n 2, 1) := by decide +kernel
theorem dX3_takeFaults_39 : decode cX3_takeFaults 39 = .ok (.aload_n 1, 1) := by decide +kernel
theorem dX3_takeFaults_40 : decode cX3_takeFaults 40 = .ok (.getfield 242, 3) := by decide +kernel
theorem dX3_takeFaults_43 : decode cX3_takeFaults 43 = .ok (.aload_n 1, 1) := by decide +kernel
theorem dX3_takeFaults_44 : decode cX3_takeFaults 44 = .ok (.getfield 67, 3) := by decide +kernel
theorem dX3_takeFaults_47 : decode cX3_takeFaults 47 = .ok (.invokevirtual 243, 3) := by decide +kernel
theorem dX3_takeFaults_50 : decode cX3_takeFaults 50 = .ok (.aload_n 0, 1) := by decide +kernel
theorem dX3_takeFaults_51 : decode cX3_takeFaults 51 = .ok (.getfield 24, 3) := by decide +kernel
theorem dX3_takeFaults_54 : decode cX3_takeFaults 54 = .ok (.aload_n 1, 1) := by decide +kernel
theorem dX3_takeFaults_55 : decode cX3_takeFaults 55 = .ok (.getfield 142, 3) := by decide +kernel
theorem dX3_takeFaults_58 : decode cX3_takeFaults 58 = .ok (.aload_n 1, 1) := by decide +kernel
theorem dX3_takeFaults_59 : decode cX3_takeFaults 59 = .ok (.getfield 242, 3) := by decide +kernel
theorem dX3_takeFaults_62 : decode cX3_takeFaults 62 = .ok (.aastore, 1) := by decide +kernel
theorem dX3_takeFaults_63 : decode cX3_takeFaults 63 = .ok (.return_, 1) := by decide +kernel
set_option maxHeartbeats 4000000 in
set_option maxRecDepth 100000 in
theorem w_X3_takeFaults_0 {p : Program} {l : Launch} {e : Env} {R : Room} {s : State} {m : MethodId} {args : Array Value} {below : List Frame} {meth : Method} {c : Code} {G : Gt} {ρ0 : Int → Nat} {M0 : Mo} {res : RS} (F : Fx p l R s m args meth c cX3_takeFaults 3 RX3 G M0 2 none) (hno : ∀ x ∈ c.exceptionTable.toList, False) (hnm : meth.name = yX3_takeFaults.name) (x0 x1 : Int) (M : Mo) (h : X3_takeFaults x0 x1 M = some res) : J p l e R s m args below meth c 3 G ρ0 M0 0 res M 0 [(0, (false, x0)), (1, (false, x1))] [] := by
  unfold X3_takeFaults at h
  refine j_aload_n F 0 rfl rfl dX3_takeFaults_0 ?_
  refine j_aload_n F 1 rfl rfl dX3_takeFaults_1 ?_
  obtain ⟨g1, h⟩ := gua h
  refine j_get F ft_X3_142 rfl g1 dX3_takeFaults_2 ?_
  obtain ⟨g5, h⟩ := gua h
  refine j_callV (d' := 0) (argl := [(true, (fd M 7 1 x1))]) (rk9 := 2) (st := []) F hno M_X3_copyOf q689 q690 q688 ⟨by decide, by decide⟩ (Nat.le_of_ble_eq_true rfl) (by decide) (ci := 4) rfl (by decide) g5 dX3_takeFaults_5 rfl h (fun z hz => c_X3_copyOf l F.ht G x0 (fd M 7 1 x1) M z hz) (fun v2 M3 h kl4 => ?_)
  refine j_st (st' := [(false, v2)]) rfl ?_
  refine j_astore_n F (lv' := [(2, (false, v2)), (0, (false, x0)), (1, (false, x1))]) rfl (by decide) rfl dX3_takeFaults_8 ?_
  refine j_aload_n F 1 rfl rfl dX3_takeFaults_9 ?_
  refine j_aload_n F 0 rfl rfl dX3_takeFaults_10 ?_
  refine j_aload_n F 2 rfl rfl dX3_takeFaults_11 ?_
  refine j_get F ft_X3_67 rfl (kl4.is g1) dX3_takeFaults_12 ?_
  refine j_callV (d' := 1) (argl := [(false, v2), (true, (fd M3 7 5 x1))]) (rk9 := 1) (st := []) F hno M_X3_isLate q1384 q34 q1382 ⟨by decide, by decide⟩ (Nat.le_of_ble_eq_true rfl) (by decide) (ci := 4) rfl (by decide) (kl4.is g5) dX3_takeFaults_15 rfl h (fun z hz => c_X3_isLate l F.ht G x0 v2 (fd M3 7 5 x1) M3 z hz) (fun v6 M7 h kl8 => ?_)
  refine j_st (st' := [(true, v6)]) rfl ?_
  refine j_if_ne F 37 (by decide) dX3_takeFaults_18 h (fun h => ?_) (fun h => ?_)
  · skip
    exact j_vret F (v := 0) h dX3_takeFaults_37
  · skip
    refine j_aload_n F 2 rfl rfl dX3_takeFaults_21 ?_
    refine j_get F ft_X3_142 rfl (kl8.is (kl4.is g1)) dX3_takeFaults_22 ?_
    refine j_if_lt F 37 (by decide) dX3_takeFaults_25 h (fun h => ?_) (fun h => ?_)
    · skip
      exact j_vret F (v := 0) h dX3_takeFaults_37
    · skip
      refine j_aload_n F 2 rfl rfl dX3_takeFaults_28 ?_
      refine j_get F ft_X3_142 rfl (kl8.is (kl4.is g1)) dX3_takeFaults_29 ?_
      refine j_bipush F (by decide) dX3_takeFaults_32 ?_
      refine j_icmp_lt F 38 (by decide) dX3_takeFaults_34 h (fun h => ?_) (fun h => ?_)
      · skip
        refine j_aload_n F 0 rfl rfl dX3_takeFaults_38 ?_
        refine j_aload_n F 2 rfl rfl dX3_takeFaults_39 ?_
        refine j_get F ft_X3_242 rfl (kl8.is (kl4.is g1)) dX3_takeFaults_40 ?_
        refine j_aload_n F 2 rfl rfl dX3_takeFaults_43 ?_
        refine j_get F ft_X3_67 rfl (kl8.is (kl4.is g1)) dX3_takeFaults_44 ?_
        obtain ⟨g12, h⟩ := gua h
        refine j_callV (d' := 1) (argl := [(false, (fd M7 7 15 x1)), (true, (fd M7 7 5 x1))]) (rk9 := 0) (st := []) F hno M_X2_moveAlong q935 q936 q1392 ⟨by decide, by decide⟩ (Nat.le_of_ble_eq_true rfl) (by decide) (ci := 3) rfl (by decide) g12 dX3_takeFaults_47 rfl h (fun z hz => c_X2_moveAlong l F.ht G v2 (fd M7 7 15 x1) (fd M7 7 5 x1) M7 z hz) (fun v9 M10 h kl11 => ?_)
        refine j_st (st' := []) rfl ?_
        refine j_aload_n F 1 rfl rfl dX3_takeFaults_50 ?_
        refine j_get F ft_X3_24 rfl (kl11.is (kl8.is (kl4.is g5))) dX3_takeFaults_51 ?_
        refine j_aload_n F 2 rfl rfl dX3_takeFaults_54 ?_
        refine j_get F ft_X3_142 rfl (kl11.is (kl8.is (kl4.is g1))) dX3_takeFaults_55 ?_
        refine j_aload_n F 2 rfl rfl dX3_takeFaults_58 ?_
        refine j_get F ft_X3_242 rfl (kl11.is (kl8.is (kl4.is g1))) dX3_takeFaults_59 ?_
        obtain ⟨g13, h⟩ := gua h
        obtain ⟨g14, h⟩ := gua h
        obtain ⟨g15, h⟩ := gua h
        refine j_aastore F 13 6 6 g13 (by decide) rfl rfl (by decide) rfl g15 g14 dX3_takeFaults_62 ?_
        obtain ⟨M16, hM16⟩ : ∃ Z, Z = sE M10 13 (fd M10 4 5 x0) (wr (fd M10 7 1 x1)) (fd M10 7 15 x1) := ⟨_, rfl⟩
        have kl17 : kle M10 M16 := by rw [hM16]; exact kle_sE
        rw [← hM16]
        replace h := pt_as h hM16
        exact j_vret F (v := 0) h dX3_takeFaults_63
      · skip
        exact j_vret F (v := 0) h dX3_takeFaults_37
theorem c_X3_takeFaults (l : Launch) (hl : l.stackTraces = false) (G : Gt) (x0 x1 : Int) (M : Mo) (z : RS) (h : X3_takeFaults x0 x1 M = some z) : CT l G yX3_takeFaults (cn yX3_takeFaults cX3_takeFaults 3 none) 2 [(false, x0), (false, x1)] M 0 z :=
  ctOf hl (by decide) (Nat.le_of_ble_eq_true rfl) (fun p e R s m args below meth c ρ F hno hnm => w_X3_takeFaults_0 F hno hnm x0 x1 M h)
theorem dX3_tell_0 : decode cX3_tell 0 = .ok (.aload_n 1, 1) := by decide +kernel
theorem dX3_tell_1 : decode cX3_tell 1 = .ok (.iload_n 2, 1) := by decide +kernel
theorem dX3_tell_2 : decode cX3_tell 2 = .ok (.invokevirtual 205, 3) := by decide +kernel
theorem dX3_tell_5 : decode cX3_tell 5 = .ok (.istore_n 3, 1) := by decide +kernel
theorem dX3_tell_6 : decode cX3_tell 6 = .ok (.aload_n 1, 1) := by decide +kernel
theorem dX3_tell_7 : decode cX3_tell 7 = .ok (.iload_n 2, 1) := by decide +kernel
theorem dX3_tell_8 : decode cX3_tell 8 = .ok (.invokevirtual 202, 3) := by decide +kernel
theorem dX3_tell_11 : decode cX3_tell 11 = .ok (.istore 4, 2) := by decide +kernel
theorem dX3_tell_13 : decode cX3_tell 13 = .ok (.iload 4, 2) := by decide +kernel
theorem dX3_tell_15 : decode cX3_tell 15 = .ok (.iconst (-1), 1) := by decide +kernel
theorem dX3_tell_16 : decode cX3_tell 16 = .ok (.if_icmp .ne 26, 3) := by decide +kernel
theorem dX3_tell_42 : decode cX3_tell 42 = .ok (.aload_n 0, 1) := by decide +kernel
theorem dX3_tell_43 : decode cX3_tell 43 = .ok (.iload_n 3, 1) := by decide +kernel
theorem dX3_tell_44 : decode cX3_tell 44 = .ok (.invokevirtual 89, 3) := by decide +kernel
theorem dX3_tell_47 : decode cX3_tell 47 = .ok (.getfield 117, 3) := by decide +kernel
theorem dX3_tell_50 : decode cX3_tell 50 = .ok (.astore 5, 2) := by decide +kernel
theorem dX3_tell_52 : decode cX3_tell 52 = .ok (.aload 5, 2) := by decide +kernel
theorem dX3_tell_54 : decode cX3_tell 54 = .ok (.iload 4, 2) := by decide +kernel
theorem dX3_tell_56 : decode cX3_tell 56 = .ok (.invokevirtual 156, 3) := by decide +kernel
theorem dX3_tell_59 : decode cX3_tell 59 = .ok (.istore 6, 2) := by decide +kernel
theorem dX3_tell_61 : decode cX3_tell 61 = .ok (.iload 4, 2) := by decide +kernel
theorem dX3_tell_63 : decode cX3_tell 63 = .ok (.aload 5, 2) := by decide +kernel
theorem dX3_tell_65 : decode cX3_tell 65 = .ok (.iload 4, 2) := by decide +kernel
theorem dX3_tell_67 : decode cX3_tell 67 = .ok (.invokevirtual 162, 3) := by decide +kernel
theorem dX3_tell_70 : decode cX3_tell 70 = .ok (.isub, 1) := by decide +kernel
theorem dX3_tell_71 : decode cX3_tell 71 = .ok (.istore 7, 2) := by decide +kernel
theorem dX3_tell_73 : decode cX3_tell 73 = .ok (.iload_n 3, 1) := by decide +kernel
theorem dX3_tell_74 : decode cX3_tell 74 = .ok (.sipush 128, 3) := by decide +kernel
theorem dX3_tell_77 : decode cX3_tell 77 = .ok (.imul, 1) := by decide +kernel
theorem dX3_tell_78 : decode cX3_tell 78 = .ok (.iload 6, 2) := by decide +kernel
theorem dX3_tell_80 : decode cX3_tell 80 = .ok (.iadd, 1) := by decide +kernel
theorem dX3_tell_81 : decode cX3_tell 81 = .ok (.sipush 128, 3) := by decide +kernel
theorem dX3_tell_84 : decode cX3_tell 84 = .ok (.imul, 1) := by decide +kernel
theorem dX3_tell_85 : decode cX3_tell 85 = .ok (.iload 7, 2) := by decide +kernel
theorem dX3_tell_87 : decode cX3_tell 87 = .ok (.iadd, 1) := by decide +kernel
theorem dX3_tell_88 : decode cX3_tell 88 = .ok (.sipush 128, 3) := by decide +kernel
theorem dX3_tell_91 : decode cX3_tell 91 = .ok (.imul, 1) := by decide +kernel
theorem dX3_tell_92 : decode cX3_tell 92 = .ok (.aload_n 1, 1) := by decide +kernel
theorem dX3_tell_93 : decode cX3_tell 93 = .ok (.iload_n 2, 1) := by decide +kernel
theorem dX3_tell_94 : decode cX3_tell 94 = .ok (.invokevirtual 212, 3) := by decide +kernel
theorem dX3_tell_97 : decode cX3_tell 97 = .ok (.iadd, 1) := by decide +kernel
theorem dX3_tell_98 : decode cX3_tell 98 = .ok (.iload 4, 2) := by decide +kernel
theorem dX3_tell_100 : decode cX3_tell 100 = .ok (.isub, 1) := by decide +kernel
theorem dX3_tell_101 : decode cX3_tell 101 = .ok (.ireturn, 1) := by decide +kernel
theorem dX3_tell_19 : decode cX3_tell 19 = .ok (.iload_n 3, 1) := by decide +kernel
theorem dX3_tell_20 : decode cX3_tell 20 = .ok (.sipush 128, 3) := by decide +kernel
theorem dX3_tell_23 : decode cX3_tell 23 = .ok (.imul, 1) := by decide +kernel
theorem dX3_tell_24 : decode cX3_tell 24 = .ok (.bipush 127, 2) := by decide +kernel
theorem dX3_tell_26 : decode cX3_tell 26 = .ok (.iadd, 1) := by decide +kernel
theorem dX3_tell_27 : decode cX3_tell 27 = .ok (.sipush 128, 3) := by decide +kernel
theorem dX3_tell_30 : decode cX3_tell 30 = .ok (.imul, 1) := by decide +kernel
theorem dX3_tell_31 : decode cX3_tell 31 = .ok (.bipush 127, 2) := by decide +kernel
theorem dX3_tell_33 : decode cX3_tell 33 = .ok (.iadd, 1) := by decide +kernel
theorem dX3_tell_34 : decode cX3_tell 34 = .ok (.sipush 128, 3) := by decide +kernel
theorem dX3_tell_37 : decode cX3_tell 37 = .ok (.imul, 1) := by decide +kernel
theorem dX3_tell_38 : decode cX3_tell 38 = .ok (.bipush 127, 2) := by decide +kernel
theorem dX3_tell_40 : decode cX3_tell 40 = .ok (.iadd, 1) := by decide +kernel
theorem dX3_tell_41 : decode cX3_tell 41 = .ok (.ireturn, 1) := by decide +kernel
set_option maxHeartbeats 4000000 in
set_option maxRecDepth 100000 in
theorem w_X3_tell_0 {p : Program} {l : Launch} {e : Env} {R : Room} {s : State} {m : MethodId} {args : Array Value} {below : List Frame} {meth : Method} {c : Code} {G : Gt} {ρ0 : Int → Nat} {M0 : Mo} {res : RS} (F : Fx p l R s m args meth c cX3_tell 8 RX3 G M0 2 (some FieldType.int)) (hno : ∀ x ∈ c.exceptionTable.toList, False) (hnm : meth.name = yX3_tell.name) (x0 x1 x2 : Int) (M : Mo) (h : X3_tell x0 x1 x2 M = some res) : J p l e R s m args below meth c 8 G ρ0 M0 1 res M 0 [(0, (false, x0)), (1, (false, x1)), (2, (true, x2))] [] := by
  unfold X3_tell at h
  refine j_aload_n F 1 rfl rfl dX3_tell_0 ?_
  refine j_iload_n F 2 rfl rfl dX3_tell_1 ?_
  obtain ⟨g4, h⟩ := gua h
  refine j_callV (d' := 1) (argl := [(true, x2)]) (rk9 := 1) (st := []) F hno M_X5_fileAt q875 q876 q1037 ⟨by decide, by decide⟩ (Nat.le_of_ble_eq_true rfl) (by decide) (ci := 6) rfl (by decide) g4 dX3_tell_2 rfl h (fun z hz => c_X5_fileAt l F.ht G x1 x2 M z hz) (fun v1 M2 h kl3 => ?_)
  refine j_st (st' := [(true, v1)]) rfl ?_
  refine j_istore_n F (lv' := [(3, (true, v1)), (0, (false, x0)), (1, (false, x1)), (2, (true, x2))]) rfl (by decide) rfl dX3_tell_5 ?_
  refine j_aload_n F 2 rfl rfl dX3_tell_6 ?_
  refine j_iload_n F 3 rfl rfl dX3_tell_7 ?_
  refine j_callV (d' := 1) (argl := [(true, x2)]) (rk9 := 1) (st := []) F hno M_X5_startAt q1034 q1035 q1033 ⟨by decide, by decide⟩ (Nat.le_of_ble_eq_true rfl) (by decide) (ci := 6) rfl (by decide) (kl3.is g4) dX3_tell_8 rfl h (fun z hz => c_X5_startAt l F.ht G x1 x2 M2 z hz) (fun v5 M6 h kl7 => ?_)
  refine j_st (st' := [(true, v5)]) rfl ?_
  refine j_istore F (lv' := [(4, (true, v5)), (3, (true, v1)), (0, (false, x0)), (1, (false, x1)), (2, (true, x2))]) (by decide) rfl dX3_tell_11 ?_
  refine j_iload F 0 rfl dX3_tell_13 ?_
  refine j_iconst F dX3_tell_15 ?_
  refine j_icmp_ne F 42 (by decide) dX3_tell_16 h (fun h => ?_) (fun h => ?_)
  · skip
    refine j_aload_n F 2 rfl rfl dX3_tell_42 ?_
    refine j_iload_n F 1 rfl rfl dX3_tell_43 ?_
    obtain ⟨g11, h⟩ := gua h
    refine j_callV (d' := 0) (argl := [(true, v1)]) (rk9 := 2) (st := []) F hno M_X3_copyOf q689 q690 q688 ⟨by decide, by decide⟩ (Nat.le_of_ble_eq_true rfl) (by decide) (ci := 4) rfl (by decide) g11 dX3_tell_44 rfl h (fun z hz => c_X3_copyOf l F.ht G x0 v1 M6 z hz) (fun v8 M9 h kl10 => ?_)
    refine j_st (st' := [(false, v8)]) rfl ?_
    obtain ⟨g12, h⟩ := gua h
    refine j_get F ft_X3_117 rfl g12 dX3_tell_47 ?_
    refine j_astore F (lv' := [(5, (false, (fd M9 3 0 v8))), (4, (true, v5)), (3, (true, v1)), (0, (false, x0)), (1, (false, x1)), (2, (true, x2))]) (by decide) rfl dX3_tell_50 ?_
    refine j_aload F 0 rfl dX3_tell_52 ?_
    refine j_iload F 1 rfl dX3_tell_54 ?_
    obtain ⟨g16, h⟩ := gua h
    refine j_callV (d' := 1) (argl := [(true, v5)]) (rk9 := 1) (st := []) F hno M_X10_lineOf q1060 q1061 q1059 ⟨by decide, by decide⟩ (Nat.le_of_ble_eq_true rfl) (by decide) (ci := 11) rfl (by decide) g16 dX3_tell_56 rfl h (fun z hz => c_X10_lineOf l F.ht G (fd M9 3 0 v8) v5 M9 z hz) (fun v13 M14 h kl15 => ?_)
    refine j_st (st' := [(true, v13)]) rfl ?_
    refine j_istore F (lv' := [(6, (true, v13)), (5, (false, (fd M9 3 0 v8))), (4, (true, v5)), (3, (true, v1)), (0, (false, x0)), (1, (false, x1)), (2, (true, x2))]) (by decide) rfl dX3_tell_59 ?_
    refine j_iload F 2 rfl dX3_tell_61 ?_
    refine j_aload F 1 rfl dX3_tell_63 ?_
    refine j_iload F 2 rfl dX3_tell_65 ?_
    refine j_callV (d' := 1) (argl := [(true, v5)]) (rk9 := 1) (st := [(true, v5)]) F hno M_X10_lineStart q1064 q1065 q1063 ⟨by decide, by decide⟩ (Nat.le_of_ble_eq_true rfl) (by decide) (ci := 11) rfl (by decide) (kl15.is g16) dX3_tell_67 rfl h (fun z hz => c_X10_lineStart l F.ht G (fd M9 3 0 v8) v5 M14 z hz) (fun v17 M18 h kl19 => ?_)
    refine j_st (st' := [(true, v17), (true, v5)]) rfl ?_
    refine j_isub F dX3_tell_70 ?_
    refine j_istore F (lv' := [(7, (true, (v5 - v17))), (6, (true, v13)), (5, (false, (fd M9 3 0 v8))), (4, (true, v5)), (3, (true, v1)), (0, (false, x0)), (1, (false, x1)), (2, (true, x2))]) (by decide) rfl dX3_tell_71 ?_
    refine j_iload_n F 4 rfl rfl dX3_tell_73 ?_
    refine j_sipush F (by decide) dX3_tell_74 ?_
    refine j_imul F dX3_tell_77 ?_
    refine j_iload F 1 rfl dX3_tell_78 ?_
    refine j_iadd F dX3_tell_80 ?_
    refine j_sipush F (by decide) dX3_tell_81 ?_
    refine j_imul F dX3_tell_84 ?_
    refine j_iload F 0 rfl dX3_tell_85 ?_
    refine j_iadd F dX3_tell_87 ?_
    refine j_sipush F (by decide) dX3_tell_88 ?_
    refine j_imul F dX3_tell_91 ?_
    refine j_aload_n F 6 rfl rfl dX3_tell_92 ?_
    refine j_iload_n F 7 rfl rfl dX3_tell_93 ?_
    refine j_callV (d' := 1) (argl := [(true, x2)]) (rk9 := 1) (st := [(true, (((((v1 * 128) + v13) * 128) + (v5 - v17)) * 128))]) F hno M_X5_endAt q1052 q1053 q1051 ⟨by decide, by decide⟩ (Nat.le_of_ble_eq_true rfl) (by decide) (ci := 6) rfl (by decide) (kl19.is (kl15.is (kl10.is (kl7.is (kl3.is g4))))) dX3_tell_94 rfl h (fun z hz => c_X5_endAt l F.ht G x1 x2 M18 z hz) (fun v20 M21 h kl22 => ?_)
    refine j_st (st' := [(true, v20), (true, (((((v1 * 128) + v13) * 128) + (v5 - v17)) * 128))]) rfl ?_
    refine j_iadd F dX3_tell_97 ?_
    refine j_iload F 3 rfl dX3_tell_98 ?_
    refine j_isub F dX3_tell_100 ?_
    exact j_iret F h dX3_tell_101
  · skip
    refine j_iload_n F 1 rfl rfl dX3_tell_19 ?_
    refine j_sipush F (by decide) dX3_tell_20 ?_
    refine j_imul F dX3_tell_23 ?_
    refine j_bipush F (by decide) dX3_tell_24 ?_
    refine j_iadd F dX3_tell_26 ?_
    refine j_sipush F (by decide) dX3_tell_27 ?_
    refine j_imul F dX3_tell_30 ?_
    refine j_bipush F (by decide) dX3_tell_31 ?_
    refine j_iadd F dX3_tell_33 ?_
    refine j_sipush F (by decide) dX3_tell_34 ?_
    refine j_imul F dX3_tell_37 ?_
    refine j_bipush F (by decide) dX3_tell_38 ?_
    refine j_iadd F dX3_tell_40 ?_
    exact j_iret F h dX3_tell_41
theorem c_X3_tell (l : Launch) (hl : l.stackTraces = false) (G : Gt) (x0 x1 x2 : Int) (M : Mo) (z : RS) (h : X3_tell x0 x1 x2 M = some z) : CT l G yX3_tell (cn yX3_tell cX3_tell 8 (some FieldType.int)) 2 [(false, x0), (false, x1), (true, x2)] M 1 z :=
  ctOf hl (by decide) (Nat.le_of_ble_eq_true rfl) (fun p e R s m args below meth c ρ F hno hnm => w_X3_tell_0 F hno hnm x0 x1 x2 M h)
theorem dX3_tokenNumber_0 : decode cX3_tokenNumber 0 = .ok (.aload_n 0, 1) := by decide +kernel
theorem dX3_tokenNumber_1 : decode cX3_tokenNumber 1 = .ok (.aload_n 1, 1) := by decide +kernel
theorem dX3_tokenNumber_2 : decode cX3_tokenNumber 2 = .ok (.getfield 132, 3) := by decide +kernel
theorem dX3_tokenNumber_5 : decode cX3_tokenNumber 5 = .ok (.invokevirtual 89, 3) := by decide +kernel
theorem dX3_tokenNumber_8 : decode cX3_tokenNumber 8 = .ok (.getfield 117, 3) := by decide +kernel
theorem dX3_tokenNumber_11 : decode cX3_tokenNumber 11 = .ok (.astore_n 3, 1) := by decide +kernel
theorem dX3_tokenNumber_12 : decode cX3_tokenNumber 12 = .ok (.iload_n 2, 1) := by decide +kernel
theorem dX3_tokenNumber_13 : decode cX3_tokenNumber 13 = .ok (.iconst 4, 1) := by decide +kernel
theorem dX3_tokenNumber_14 : decode cX3_tokenNumber 14 = .ok (.idiv, 1) := by decide +kernel
theorem dX3_tokenNumber_15 : decode cX3_tokenNumber 15 = .ok (.istore 4, 2) := by decide +kernel
theorem dX3_tokenNumber_17 : decode cX3_tokenNumber 17 = .ok (.aload_n 1, 1) := by decide +kernel
theorem dX3_tokenNumber_18 : decode cX3_tokenNumber 18 = .ok (.getfield 135, 3) := by decide +kernel
theorem dX3_tokenNumber_21 : decode cX3_tokenNumber 21 = .ok (.iload 4, 2) := by decide +kernel
theorem dX3_tokenNumber_23 : decode cX3_tokenNumber 23 = .ok (.invokevirtual 202, 3) := by decide +kernel
theorem dX3_tokenNumber_26 : decode cX3_tokenNumber 26 = .ok (.istore 5, 2) := by decide +kernel
theorem dX3_tokenNumber_28 : decode cX3_tokenNumber 28 = .ok (.iload 4, 2) := by decide +kernel
theorem dX3_tokenNumber_30 : decode cX3_tokenNumber 30 = .ok (.ifCond .le 17, 3) := by decide +kernel
theorem dX3_tokenNumber_47 : decode cX3_tokenNumber 47 = .ok (.iconst 0, 1) := by decide +kernel
theorem dX3_tokenNumber_33 : decode cX3_tokenNumber 33 = .ok (.aload_n 1, 1) := by decide +kernel
theorem dX3_tokenNumber_34 : decode cX3_tokenNumber 34 = .ok (.getfield 135, 3) := by decide +kernel
theorem dX3_tokenNumber_37 : decode cX3_tokenNumber 37 = .ok (.iload 4, 2) := by decide +kernel
theorem dX3_tokenNumber_39 : decode cX3_tokenNumber 39 = .ok (.iconst 1, 1) := by decide +kernel
theorem dX3_tokenNumber_40 : decode cX3_tokenNumber 40 = .ok (.isub, 1) := by decide +kernel
theorem dX3_tokenNumber_41 : decode cX3_tokenNumber 41 = .ok (.invokevirtual 202, 3) := by decide +kernel
theorem dX3_tokenNumber_44 : decode cX3_tokenNumber 44 = .ok (.goto 4, 3) := by decide +kernel
theorem dX3_tokenNumber_48 : decode cX3_tokenNumber 48 = .ok (.istore 6, 2) := by decide +kernel
theorem dX3_tokenNumber_50 : decode cX3_tokenNumber 50 = .ok (.aload_n 3, 1) := by decide +kernel
theorem dX3_tokenNumber_51 : decode cX3_tokenNumber 51 = .ok (.iload 5, 2) := by decide +kernel
theorem dX3_tokenNumber_53 : decode cX3_tokenNumber 53 = .ok (.invokevirtual 156, 3) := by decide +kernel
theorem dX3_tokenNumber_56 : decode cX3_tokenNumber 56 = .ok (.aload_n 3, 1) := by decide +kernel
theorem dX3_tokenNumber_57 : decode cX3_tokenNumber 57 = .ok (.iload 6, 2) := by decide +kernel
theorem dX3_tokenNumber_59 : decode cX3_tokenNumber 59 = .ok (.invokevirtual 156, 3) := by decide +kernel
theorem dX3_tokenNumber_62 : decode cX3_tokenNumber 62 = .ok (.isub, 1) := by decide +kernel
theorem dX3_tokenNumber_63 : decode cX3_tokenNumber 63 = .ok (.istore 7, 2) := by decide +kernel
theorem dX3_tokenNumber_65 : decode cX3_tokenNumber 65 = .ok (.iload_n 2, 1) := by decide +kernel
theorem dX3_tokenNumber_66 : decode cX3_tokenNumber 66 = .ok (.iconst 4, 1) := by decide +kernel
theorem dX3_tokenNumber_67 : decode cX3_tokenNumber 67 = .ok (.irem, 1) := by decide +kernel
theorem dX3_tokenNumber_68 : decode cX3_tokenNumber 68 = .ok (.tableswitch 67 0 2 #[28, 31, 54], 28) := by decide +kernel
theorem dX3_tokenNumber_96 : decode cX3_tokenNumber 96 = .ok (.iload 7, 2) := by decide +kernel
theorem dX3_tokenNumber_98 : decode cX3_tokenNumber 98 = .ok (.ireturn, 1) := by decide +kernel
theorem dX3_tokenNumber_99 : decode cX3_tokenNumber 99 = .ok (.iload 7, 2) := by decide +kernel
theorem dX3_tokenNumber_101 : decode cX3_tokenNumber 101 = .ok (.ifCond .ne 11, 3) := by decide +kernel
theorem dX3_tokenNumber_112 : decode cX3_tokenNumber 112 = .ok (.iload 5, 2) := by decide +kernel
theorem dX3_tokenNumber_114 : decode cX3_tokenNumber 114 = .ok (.aload_n 3, 1) := by decide +kernel
theorem dX3_tokenNumber_115 : decode cX3_tokenNumber 115 = .ok (.iload 5, 2) := by decide +kernel
theorem dX3_tokenNumber_117 : decode cX3_tokenNumber 117 = .ok (.invokevirtual 162, 3) := by decide +kernel
theorem dX3_tokenNumber_120 : decode cX3_tokenNumber 120 = .ok (.isub, 1) := by decide +kernel
theorem dX3_tokenNumber_121 : decode cX3_tokenNumber 121 = .ok (.ireturn, 1) := by decide +kernel
theorem dX3_tokenNumber_104 : decode cX3_tokenNumber 104 = .ok (.iload 5, 2) := by decide +kernel
theorem dX3_tokenNumber_106 : decode cX3_tokenNumber 106 = .ok (.iload 6, 2) := by decide +kernel
theorem dX3_tokenNumber_108 : decode cX3_tokenNumber 108 = .ok (.isub, 1) := by decide +kernel
theorem dX3_tokenNumber_109 : decode cX3_tokenNumber 109 = .ok (.goto 12, 3) := by decide +kernel
theorem dX3_tokenNumber_122 : decode cX3_tokenNumber 122 = .ok (.aload_n 1, 1) := by decide +kernel
theorem dX3_tokenNumber_123 : decode cX3_tokenNumber 123 = .ok (.getfield 135, 3) := by decide +kernel
theorem dX3_tokenNumber_126 : decode cX3_tokenNumber 126 = .ok (.iload 4, 2) := by decide +kernel
theorem dX3_tokenNumber_128 : decode cX3_tokenNumber 128 = .ok (.invokevirtual 212, 3) := by decide +kernel
theorem dX3_tokenNumber_131 : decode cX3_tokenNumber 131 = .ok (.iload 5, 2) := by decide +kernel
theorem dX3_tokenNumber_133 : decode cX3_tokenNumber 133 = .ok (.isub, 1) := by decide +kernel
theorem dX3_tokenNumber_134 : decode cX3_tokenNumber 134 = .ok (.ireturn, 1) := by decide +kernel
theorem dX3_tokenNumber_135 : decode cX3_tokenNumber 135 = .ok (.aload_n 1, 1) := by decide +kernel
theorem dX3_tokenNumber_136 : decode cX3_tokenNumber 136 = .ok (.getfield 135, 3) := by decide +kernel
theorem dX3_tokenNumber_139 : decode cX3_tokenNumber 139 = .ok (.iload 4, 2) := by decide +kernel
set_option maxRecDepth 100000 in
theorem q1288 : Cond.code yX5_valueAt cX5_valueAt 2 (some FieldType.int) ∈ GT := gt 1288 (rfl) (by decide +kernel)
theorem M_X5_valueAt : MY yX5_valueAt cX5_valueAt 2 (some FieldType.int) 1 := ⟨q1288, q62, by decide +kernel, by decide +kernel⟩
set_option maxRecDepth 100000 in
theorem q1286 : Cond.instanceMethod yX5_valueAt ∈ GT := gt 1286 (by decide +kernel) (by decide +kernel)
set_option maxRecDepth 100000 in
theorem q1287 : Cond.selects RX5 yX5_valueAt yX5_valueAt ∈ GT := gt 1287 (by decide +kernel) (by decide +kernel)
set_option maxRecDepth 100000 in
theorem q1572 : Cond.methodLink RX3 254 yX5_valueAt ∈ GT := gt 1572 (by decide +kernel) (by decide +kernel)
theorem dX3_tokenNumber_141 : decode cX3_tokenNumber 141 = .ok (.invokevirtual 254, 3) := by decide +kernel
theorem dX3_tokenNumber_144 : decode cX3_tokenNumber 144 = .ok (.ireturn, 1) := by decide +kernel
set_option maxHeartbeats 4000000 in
set_option maxRecDepth 100000 in
theorem w_X3_tokenNumber_48 {p : Program} {l : Launch} {e : Env} {R : Room} {s : State} {m : MethodId} {args : Array Value} {below : List Frame} {meth : Method} {c : Code} {G : Gt} {ρ0 : Int → Nat} {M0 : Mo} {res : RS} (F : Fx p l R s m args meth c cX3_tokenNumber 8 RX3 G M0 2 (some FieldType.int)) (hno : ∀ x ∈ c.exceptionTable.toList, False) (hnm : meth.name = yX3_tokenNumber.name) (x1 x2 x3 x4 x5 y0 : Int) (M : Mo) (h : X3_tokenNumber_48 x1 x2 x3 x4 x5 y0 M = some res) : J p l e R s m args below meth c 8 G ρ0 M0 1 res M 48 [(1, (false, x1)), (2, (true, x2)), (3, (false, x3)), (4, (true, x4)), (5, (true, x5))] [(true, y0)] := by
  unfold X3_tokenNumber_48 at h
  refine j_istore F (lv' := [(6, (true, y0)), (1, (false, x1)), (2, (true, x2)), (3, (false, x3)), (4, (true, x4)), (5, (true, x5))]) (by decide) rfl dX3_tokenNumber_48 ?_
  refine j_aload_n F 3 rfl rfl dX3_tokenNumber_50 ?_
  refine j_iload F 5 rfl dX3_tokenNumber_51 ?_
  obtain ⟨g4, h⟩ := gua h
  refine j_callV (d' := 1) (argl := [(true, x5)]) (rk9 := 1) (st := []) F hno M_X10_lineOf q1060 q1061 q1059 ⟨by decide, by decide⟩ (Nat.le_of_ble_eq_true rfl) (by decide) (ci := 11) rfl (by decide) g4 dX3_tokenNumber_53 rfl h (fun z hz => c_X10_lineOf l F.ht G x3 x5 M z hz) (fun v1 M2 h kl3 => ?_)
  refine j_st (st' := [(true, v1)]) rfl ?_
  refine j_aload_n F 3 rfl rfl dX3_tokenNumber_56 ?_
  refine j_iload F 0 rfl dX3_tokenNumber_57 ?_
  refine j_callV (d' := 1) (argl := [(true, y0)]) (rk9 := 1) (st := [(true, v1)]) F hno M_X10_lineOf q1060 q1061 q1059 ⟨by decide, by decide⟩ (Nat.le_of_ble_eq_true rfl) (by decide) (ci := 11) rfl (by decide) (kl3.is g4) dX3_tokenNumber_59 rfl h (fun z hz => c_X10_lineOf l F.ht G x3 y0 M2 z hz) (fun v5 M6 h kl7 => ?_)
  refine j_st (st' := [(true, v5), (true, v1)]) rfl ?_
  refine j_isub F dX3_tokenNumber_62 ?_
  refine j_istore F (lv' := [(7, (true, (v1 - v5))), (6, (true, y0)), (1, (false, x1)), (2, (true, x2)), (3, (false, x3)), (4, (true, x4)), (5, (true, x5))]) (by decide) rfl dX3_tokenNumber_63 ?_
  refine j_iload_n F 3 rfl rfl dX3_tokenNumber_65 ?_
  refine j_iconst F dX3_tokenNumber_66 ?_
  refine j_irem F (by decide) dX3_tokenNumber_67 ?_
  by_cases c0 : wr (irm x2 4) = 0
  · rw [if_pos c0] at h
    refine j_tableIn F 96 (by rw [c0]; decide) (off := 28) (by rw [c0]; rfl) (by decide) dX3_tokenNumber_68 ?_
    refine j_iload F 0 rfl dX3_tokenNumber_96 ?_
    exact j_iret F h dX3_tokenNumber_98
  · rw [if_neg c0] at h
    by_cases c1 : wr (irm x2 4) = 1
    · rw [if_pos c1] at h
      refine j_tableIn F 99 (by rw [c1]; decide) (off := 31) (by rw [c1]; rfl) (by decide) dX3_tokenNumber_68 ?_
      refine j_iload F 0 rfl dX3_tokenNumber_99 ?_
      refine j_if_ne F 112 (by decide) dX3_tokenNumber_101 h (fun h => ?_) (fun h => ?_)
      · skip
        refine j_iload F 6 rfl dX3_tokenNumber_112 ?_
        refine j_aload_n F 4 rfl rfl dX3_tokenNumber_114 ?_
        refine j_iload F 6 rfl dX3_tokenNumber_115 ?_
        refine j_callV (d' := 1) (argl := [(true, x5)]) (rk9 := 1) (st := [(true, x5)]) F hno M_X10_lineStart q1064 q1065 q1063 ⟨by decide, by decide⟩ (Nat.le_of_ble_eq_true rfl) (by decide) (ci := 11) rfl (by decide) (kl7.is (kl3.is g4)) dX3_tokenNumber_117 rfl h (fun z hz => c_X10_lineStart l F.ht G x3 x5 M6 z hz) (fun v8 M9 h kl10 => ?_)
        refine j_st (st' := [(true, v8), (true, x5)]) rfl ?_
        refine j_isub F dX3_tokenNumber_120 ?_
        exact j_iret F h dX3_tokenNumber_121
      · skip
        refine j_iload F 6 rfl dX3_tokenNumber_104 ?_
        refine j_iload F 1 rfl dX3_tokenNumber_106 ?_
        refine j_isub F dX3_tokenNumber_108 ?_
        refine j_goto F 121 (by decide) dX3_tokenNumber_109 ?_
        exact j_iret F h dX3_tokenNumber_121
    · rw [if_neg c1] at h
      by_cases c2 : wr (irm x2 4) = 2
      · rw [if_pos c2] at h
        refine j_tableIn F 122 (by rw [c2]; decide) (off := 54) (by rw [c2]; rfl) (by decide) dX3_tokenNumber_68 ?_
        refine j_aload_n F 2 rfl rfl dX3_tokenNumber_122 ?_
        obtain ⟨g11, h⟩ := gua h
        refine j_get F ft_X3_135 rfl g11 dX3_tokenNumber_123 ?_
        refine j_iload F 5 rfl dX3_tokenNumber_126 ?_
        obtain ⟨g15, h⟩ := gua h
        refine j_callV (d' := 1) (argl := [(true, x4)]) (rk9 := 1) (st := []) F hno M_X5_endAt q1052 q1053 q1051 ⟨by decide, by decide⟩ (Nat.le_of_ble_eq_true rfl) (by decide) (ci := 6) rfl (by decide) g15 dX3_tokenNumber_128 rfl h (fun z hz => c_X5_endAt l F.ht G (fd M6 1 4 x1) x4 M6 z hz) (fun v12 M13 h kl14 => ?_)
        refine j_st (st' := [(true, v12)]) rfl ?_
        refine j_iload F 6 rfl dX3_tokenNumber_131 ?_
        refine j_isub F dX3_tokenNumber_133 ?_
        exact j_iret F h dX3_tokenNumber_134
      · rw [if_neg c2] at h
        refine j_tableOut F 135 (by omega) (by decide) dX3_tokenNumber_68 ?_
        refine j_aload_n F 2 rfl rfl dX3_tokenNumber_135 ?_
        obtain ⟨g16, h⟩ := gua h
        refine j_get F ft_X3_135 rfl g16 dX3_tokenNumber_136 ?_
        refine j_iload F 5 rfl dX3_tokenNumber_139 ?_
        obtain ⟨g20, h⟩ := gua h
        refine j_callV (d' := 1) (argl := [(true, x4)]) (rk9 := 1) (st := []) F hno M_X5_valueAt q1286 q1287 q1572 ⟨by decide, by decide⟩ (Nat.le_of_ble_eq_true rfl) (by decide) (ci := 6) rfl (by decide) g20 dX3_tokenNumber_141 rfl h (fun z hz => c_X5_valueAt l F.ht G (fd M6 1 4 x1) x4 M6 z hz) (fun v17 M18 h kl19 => ?_)
        refine j_st (st' := [(true, v17)]) rfl ?_
        exact j_iret F h dX3_tokenNumber_144
set_option maxHeartbeats 4000000 in
set_option maxRecDepth 100000 in
theorem w_X3_tokenNumber_0 {p : Program} {l : Launch} {e : Env} {R : Room} {s : State} {m : MethodId} {args : Array Value} {below : List Frame} {meth : Method} {c : Code} {G : Gt} {ρ0 : Int → Nat} {M0 : Mo} {res : RS} (F : Fx p l R s m args meth c cX3_tokenNumber 8 RX3 G M0 2 (some FieldType.int)) (hno : ∀ x ∈ c.exceptionTable.toList, False) (hnm : meth.name = yX3_tokenNumber.name) (x0 x1 x2 : Int) (M : Mo) (h : X3_tokenNumber x0 x1 x2 M = some res) : J p l e R s m args below meth c 8 G ρ0 M0 1 res M 0 [(0, (false, x0)), (1, (false, x1)), (2, (true, x2))] [] := by
  unfold X3_tokenNumber at h
  refine j_aload_n F 0 rfl rfl dX3_tokenNumber_0 ?_
  refine j_aload_n F 1 rfl rfl dX3_tokenNumber_1 ?_
  obtain ⟨g1, h⟩ := gua h
  refine j_get F ft_X3_132 rfl g1 dX3_tokenNumber_2 ?_
  obtain ⟨g5, h⟩ := gua h
  refine j_callV (d' := 0) (argl := [(true, (fd M 1 1 x1))]) (rk9 := 2) (st := []) F hno M_X3_copyOf q689 q690 q688 ⟨by decide, by decide⟩ (Nat.le_of_ble_eq_true rfl) (by decide) (ci := 4) rfl (by decide) g5 dX3_tokenNumber_5 rfl h (fun z hz => c_X3_copyOf l F.ht G x0 (fd M 1 1 x1) M z hz) (fun v2 M3 h kl4 => ?_)
  refine j_st (st' := [(false, v2)]) rfl ?_
  obtain ⟨g6, h⟩ := gua h
  refine j_get F ft_X3_117 rfl g6 dX3_tokenNumber_8 ?_
  refine j_astore_n F (lv' := [(3, (false, (fd M3 3 0 v2))), (0, (false, x0)), (1, (false, x1)), (2, (true, x2))]) rfl (by decide) rfl dX3_tokenNumber_11 ?_
  refine j_iload_n F 3 rfl rfl dX3_tokenNumber_12 ?_
  refine j_iconst F dX3_tokenNumber_13 ?_
  refine j_idiv F (by decide) dX3_tokenNumber_14 ?_
  refine j_istore F (lv' := [(4, (true, (idv x2 4))), (3, (false, (fd M3 3 0 v2))), (0, (false, x0)), (1, (false, x1)), (2, (true, x2))]) (by decide) rfl dX3_tokenNumber_15 ?_
  refine j_aload_n F 3 rfl rfl dX3_tokenNumber_17 ?_
  refine j_get F ft_X3_135 rfl (kl4.is g1) dX3_tokenNumber_18 ?_
  refine j_iload F 0 rfl dX3_tokenNumber_21 ?_
  obtain ⟨g10, h⟩ := gua h
  refine j_callV (d' := 1) (argl := [(true, (idv x2 4))]) (rk9 := 1) (st := []) F hno M_X5_startAt q1034 q1035 q1033 ⟨by decide, by decide⟩ (Nat.le_of_ble_eq_true rfl) (by decide) (ci := 6) rfl (by decide) g10 dX3_tokenNumber_23 rfl h (fun z hz => c_X5_startAt l F.ht G (fd M3 1 4 x1) (idv x2 4) M3 z hz) (fun v7 M8 h kl9 => ?_)
  refine j_st (st' := [(true, v7)]) rfl ?_
  refine j_istore F (lv' := [(5, (true, v7)), (4, (true, (idv x2 4))), (3, (false, (fd M3 3 0 v2))), (0, (false, x0)), (1, (false, x1)), (2, (true, x2))]) (by decide) rfl dX3_tokenNumber_26 ?_
  refine j_iload F 1 rfl dX3_tokenNumber_28 ?_
  refine j_if_le F 47 (by decide) dX3_tokenNumber_30 h (fun h => ?_) (fun h => ?_)
  · skip
    refine j_iconst F dX3_tokenNumber_47 ?_
    refine j_sub (lv' := [(1, (false, x1)), (2, (true, x2)), (3, (false, (fd M3 3 0 v2))), (4, (true, (idv x2 4))), (5, (true, v7))]) [4, 5, 2, 1, 0] rfl ?_
    exact w_X3_tokenNumber_48 F hno hnm x1 x2 (fd M3 3 0 v2) (idv x2 4) v7 0 M8 h
  · skip
    refine j_aload_n F 4 rfl rfl dX3_tokenNumber_33 ?_
    refine j_get F ft_X3_135 rfl (kl9.is (kl4.is g1)) dX3_tokenNumber_34 ?_
    refine j_iload F 1 rfl dX3_tokenNumber_37 ?_
    refine j_iconst F dX3_tokenNumber_39 ?_
    refine j_isub F dX3_tokenNumber_40 ?_
    obtain ⟨g14, h⟩ := gua h
    refine j_callV (d' := 1) (argl := [(true, ((idv x2 4) - 1))]) (rk9 := 1) (st := []) F hno M_X5_startAt q1034 q1035 q1033 ⟨by decide, by decide⟩ (Nat.le_of_ble_eq_true rfl) (by decide) (ci := 6) rfl (by decide) g14 dX3_tokenNumber_41 rfl h (fun z hz => c_X5_startAt l F.ht G (fd M8 1 4 x1) ((idv x2 4) - 1) M8 z hz) (fun v11 M12 h kl13 => ?_)
    refine j_st (st' := [(true, v11)]) rfl ?_
    refine j_goto F 48 (by decide) dX3_tokenNumber_44 ?_
    refine j_sub (lv' := [(1, (false, x1)), (2, (true, x2)), (3, (false, (fd M3 3 0 v2))), (4, (true, (idv x2 4))), (5, (true, v7))]) [4, 5, 2, 1, 0] rfl ?_
    exact w_X3_tokenNumber_48 F hno hnm x1 x2 (fd M3 3 0 v2) (idv x2 4) v7 v11 M12 h
theorem c_X3_tokenNumber (l : Launch) (hl : l.stackTraces = false) (G : Gt) (x0 x1 x2 : Int) (M : Mo) (z : RS) (h : X3_tokenNumber x0 x1 x2 M = some z) : CT l G yX3_tokenNumber (cn yX3_tokenNumber cX3_tokenNumber 8 (some FieldType.int)) 2 [(false, x0), (false, x1), (true, x2)] M 1 z :=
  ctOf hl (by decide) (Nat.le_of_ble_eq_true rfl) (fun p e R s m args below meth c ρ F hno hnm => w_X3_tokenNumber_0 F hno hnm x0 x1 x2 M h)
