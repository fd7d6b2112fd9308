theorem dX11_init_0 : decode cX11_init 0 = .ok (.aload_n 0, 1) := by decide +kernel
set_option maxRecDepth 100000 in
theorem q85 : Cond.methodLink RX11 1 Lib.objectInit ∈ GT := gt 85 (by decide +kernel) (by decide +kernel)
theorem dX11_init_1 : decode cX11_init 1 = .ok (.invokespecial 1, 3) := by decide +kernel
theorem dX11_init_4 : decode cX11_init 4 = .ok (.aload_n 0, 1) := by decide +kernel
set_option maxRecDepth 100000 in
theorem q88 : Cond.classLink RX11 7 RX10 ∈ GT := gt 88 (by decide +kernel) (by decide +kernel)
theorem dX11_init_5 : decode cX11_init 5 = .ok (.new 7, 3) := by decide +kernel
theorem dX11_init_8 : decode cX11_init 8 = .ok (.dup, 1) := by decide +kernel
set_option maxRecDepth 100000 in
theorem q90 : Cond.methodLinkNest RX11 9 yX10_init "ToolPlex" ∈ GT := gt 90 (by decide +kernel) (by decide +kernel)
theorem dX11_init_9 : decode cX11_init 9 = .ok (.invokespecial 9, 3) := by decide +kernel
set_option maxRecDepth 100000 in
theorem q325 : Cond.fieldLink RX11 10 "ToolPlex" "scratch" "LToolPlex$Text;" ∈ GT := gt 325 (by decide +kernel) (by decide +kernel)
theorem inGX11 : ∀ w ∈ u_ws RX11 TX11 6, w ∈ GT := gts [326, 328, 330, 332, 334, 336] (by decide +kernel) (by decide +kernel)
theorem ft_X11_10 : FT RX11 10 RX11 12 RX11 TX11 6 5 := ⟨rfl, by decide, by decide, q325, Or.inl rfl, inGX11⟩
theorem dX11_init_12 : decode cX11_init 12 = .ok (.putfield 10, 3) := by decide +kernel
theorem dfX4 : ∀ j, j < 7 → defaultValue (tyX4 j) = vp_V ((lay 5).map (fun b => if b then Value.int 0 else .null)) j := by decide +kernel
set_option maxRecDepth 100000 in
theorem q102 : Cond.classLink RX11 16 RX4 ∈ GT := gt 102 (by decide +kernel) (by decide +kernel)
set_option maxRecDepth 100000 in
theorem q103 : Cond.instantiable RX4 7 ∈ GT := gt 103 (by decide +kernel) (by decide +kernel)
theorem dX11_init_15 : decode cX11_init 15 = .ok (.new 16, 3) := by decide +kernel
theorem dX11_init_18 : decode cX11_init 18 = .ok (.dup, 1) := by decide +kernel
set_option maxRecDepth 100000 in
theorem q106 : Cond.code yX4_init cX4_init 2 none ∈ GT := gt 106 (rfl) (by decide +kernel)
theorem M_X4_init : MY yX4_init cX4_init 2 none 0 := ⟨q106, q55, by decide +kernel, by decide +kernel⟩
set_option maxRecDepth 100000 in
theorem q105 : Cond.instanceMethod yX4_init ∈ GT := gt 105 (by decide +kernel) (by decide +kernel)
set_option maxRecDepth 100000 in
theorem q104 : Cond.methodLink RX11 18 yX4_init ∈ GT := gt 104 (by decide +kernel) (by decide +kernel)
theorem dX11_init_19 : decode cX11_init 19 = .ok (.invokespecial 18, 3) := by decide +kernel
theorem dX11_init_22 : decode cX11_init 22 = .ok (.astore_n 1, 1) := by decide +kernel
set_option maxRecDepth 100000 in
theorem q134 : Cond.classLink RX11 19 RJx4a65c ∈ GT := gt 134 (by decide +kernel) (by decide +kernel)
theorem dX11_init_23 : decode cX11_init 23 = .ok (.new 19, 3) := by decide +kernel
theorem dX11_init_26 : decode cX11_init 26 = .ok (.dup, 1) := by decide +kernel
set_option maxRecDepth 100000 in
theorem q136 : Cond.methodLink RX11 21 yJx4a65c_init_da8c8 ∈ GT := gt 136 (by decide +kernel) (by decide +kernel)
theorem dX11_init_27 : decode cX11_init 27 = .ok (.invokespecial 21, 3) := by decide +kernel
theorem dX11_init_30 : decode cX11_init 30 = .ok (.astore_n 2, 1) := by decide +kernel
theorem dX11_init_31 : decode cX11_init 31 = .ok (.bipush 10, 2) := by decide +kernel
set_option maxRecDepth 100000 in
theorem q160 : Cond.classLink RX11 22 RX1 ∈ GT := gt 160 (by decide +kernel) (by decide +kernel)
theorem dX11_init_33 : decode cX11_init 33 = .ok (.anewarray 22, 3) := by decide +kernel
theorem dX11_init_36 : decode cX11_init 36 = .ok (.astore_n 3, 1) := by decide +kernel
theorem dX11_init_37 : decode cX11_init 37 = .ok (.iconst 0, 1) := by decide +kernel
theorem dX11_init_38 : decode cX11_init 38 = .ok (.istore 4, 2) := by decide +kernel
theorem dX11_init_40 : decode cX11_init 40 = .ok (.iload 4, 2) := by decide +kernel
theorem dX11_init_42 : decode cX11_init 42 = .ok (.bipush 10, 2) := by decide +kernel
theorem dX11_init_44 : decode cX11_init 44 = .ok (.if_icmp .ge 20, 3) := by decide +kernel
theorem dX11_init_64 : decode cX11_init 64 = .ok (.iconst 2, 1) := by decide +kernel
set_option maxRecDepth 100000 in
theorem q173 : Cond.classLink RX11 25 RX3 ∈ GT := gt 173 (by decide +kernel) (by decide +kernel)
theorem dX11_init_65 : decode cX11_init 65 = .ok (.anewarray 25, 3) := by decide +kernel
theorem dX11_init_68 : decode cX11_init 68 = .ok (.astore 4, 2) := by decide +kernel
theorem dX11_init_70 : decode cX11_init 70 = .ok (.iconst 0, 1) := by decide +kernel
theorem dX11_init_71 : decode cX11_init 71 = .ok (.istore 5, 2) := by decide +kernel
theorem dX11_init_47 : decode cX11_init 47 = .ok (.aload_n 3, 1) := by decide +kernel
theorem dX11_init_48 : decode cX11_init 48 = .ok (.iload 4, 2) := by decide +kernel
theorem dX11_init_50 : decode cX11_init 50 = .ok (.new 22, 3) := by decide +kernel
theorem dX11_init_53 : decode cX11_init 53 = .ok (.dup, 1) := by decide +kernel
set_option maxRecDepth 100000 in
theorem q163 : Cond.methodLinkNest RX11 24 yX1_init "ToolPlex" ∈ GT := gt 163 (by decide +kernel) (by decide +kernel)
theorem dX11_init_54 : decode cX11_init 54 = .ok (.invokespecial 24, 3) := by decide +kernel
theorem dX11_init_57 : decode cX11_init 57 = .ok (.aastore, 1) := by decide +kernel
theorem dX11_init_58 : decode cX11_init 58 = .ok (.iinc 4 1, 3) := by decide +kernel
theorem dX11_init_61 : decode cX11_init 61 = .ok (.goto (-21), 3) := by decide +kernel
theorem dX11_init_73 : decode cX11_init 73 = .ok (.iload 5, 2) := by decide +kernel
theorem dX11_init_75 : decode cX11_init 75 = .ok (.iconst 2, 1) := by decide +kernel
theorem dX11_init_76 : decode cX11_init 76 = .ok (.if_icmp .ge 28, 3) := by decide +kernel
theorem dX11_init_104 : decode cX11_init 104 = .ok (.aload_n 0, 1) := by decide +kernel
theorem dfX7 : ∀ j, j < 12 → defaultValue (tyX7 j) = vp_V ((lay 8).map (fun b => if b then Value.int 0 else .null)) j := by decide +kernel
set_option maxRecDepth 100000 in
theorem q266 : Cond.classLink RX11 30 RX7 ∈ GT := gt 266 (by decide +kernel) (by decide +kernel)
set_option maxRecDepth 100000 in
theorem q267 : Cond.instantiable RX7 12 ∈ GT := gt 267 (by decide +kernel) (by decide +kernel)
theorem dX11_init_105 : decode cX11_init 105 = .ok (.new 30, 3) := by decide +kernel
theorem dX11_init_108 : decode cX11_init 108 = .ok (.dup, 1) := by decide +kernel
theorem dX11_init_109 : decode cX11_init 109 = .ok (.aload_n 1, 1) := by decide +kernel
theorem dX11_init_110 : decode cX11_init 110 = .ok (.aload_n 2, 1) := by decide +kernel
theorem dX11_init_111 : decode cX11_init 111 = .ok (.aload_n 3, 1) := by decide +kernel
set_option maxRecDepth 100000 in
theorem q270 : Cond.code yX7_init cX7_init 5 none ∈ GT := gt 270 (rfl) (by decide +kernel)
theorem M_X7_init : MY yX7_init cX7_init 5 none 3 := ⟨q270, q63, by decide +kernel, by decide +kernel⟩
set_option maxRecDepth 100000 in
theorem q269 : Cond.instanceMethod yX7_init ∈ GT := gt 269 (by decide +kernel) (by decide +kernel)
set_option maxRecDepth 100000 in
theorem q268 : Cond.methodLink RX11 32 yX7_init ∈ GT := gt 268 (by decide +kernel) (by decide +kernel)
theorem dX11_init_112 : decode cX11_init 112 = .ok (.invokespecial 32, 3) := by decide +kernel
set_option maxRecDepth 100000 in
theorem q324 : Cond.fieldLink RX11 35 "ToolPlex" "multiplexer" "LToolPlex$Multiplexer;" ∈ GT := gt 324 (by decide +kernel) (by decide +kernel)
theorem ft_X11_35 : FT RX11 35 RX11 12 RX11 TX11 6 4 := ⟨rfl, by decide, by decide, q324, Or.inl rfl, inGX11⟩
theorem dX11_init_115 : decode cX11_init 115 = .ok (.putfield 35, 3) := by decide +kernel
theorem dX11_init_118 : decode cX11_init 118 = .ok (.aload_n 0, 1) := by decide +kernel
theorem dX11_init_119 : decode cX11_init 119 = .ok (.aload_n 1, 1) := by decide +kernel
set_option maxRecDepth 100000 in
theorem q320 : Cond.fieldLink RX11 39 "ToolPlex" "files" "LToolPlex$Files;" ∈ GT := gt 320 (by decide +kernel) (by decide +kernel)
theorem ft_X11_39 : FT RX11 39 RX11 12 RX11 TX11 6 0 := ⟨rfl, by decide, by decide, q320, Or.inl rfl, inGX11⟩
theorem dX11_init_120 : decode cX11_init 120 = .ok (.putfield 39, 3) := by decide +kernel
theorem dX11_init_123 : decode cX11_init 123 = .ok (.aload_n 0, 1) := by decide +kernel
theorem dX11_init_124 : decode cX11_init 124 = .ok (.aload_n 2, 1) := by decide +kernel
set_option maxRecDepth 100000 in
theorem q323 : Cond.fieldLink RX11 43 "ToolPlex" "servers" "Ljava/util/ArrayList;" ∈ GT := gt 323 (by decide +kernel) (by decide +kernel)
theorem ft_X11_43 : FT RX11 43 RX11 12 RX11 TX11 6 3 := ⟨rfl, by decide, by decide, q323, Or.inl rfl, inGX11⟩
theorem dX11_init_125 : decode cX11_init 125 = .ok (.putfield 43, 3) := by decide +kernel
theorem dX11_init_128 : decode cX11_init 128 = .ok (.aload_n 0, 1) := by decide +kernel
theorem dX11_init_129 : decode cX11_init 129 = .ok (.aload_n 3, 1) := by decide +kernel
set_option maxRecDepth 100000 in
theorem q321 : Cond.fieldLink RX11 47 "ToolPlex" "channels" "[LToolPlex$Channel;" ∈ GT := gt 321 (by decide +kernel) (by decide +kernel)
theorem ft_X11_47 : FT RX11 47 RX11 12 RX11 TX11 6 1 := ⟨rfl, by decide, by decide, q321, Or.inl rfl, inGX11⟩
theorem dX11_init_130 : decode cX11_init 130 = .ok (.putfield 47, 3) := by decide +kernel
theorem dX11_init_133 : decode cX11_init 133 = .ok (.aload_n 0, 1) := by decide +kernel
theorem dX11_init_134 : decode cX11_init 134 = .ok (.aload 4, 2) := by decide +kernel
set_option maxRecDepth 100000 in
theorem q322 : Cond.fieldLink RX11 51 "ToolPlex" "editors" "[LToolPlex$Editor;" ∈ GT := gt 322 (by decide +kernel) (by decide +kernel)
theorem ft_X11_51 : FT RX11 51 RX11 12 RX11 TX11 6 2 := ⟨rfl, by decide, by decide, q322, Or.inl rfl, inGX11⟩
theorem dX11_init_136 : decode cX11_init 136 = .ok (.putfield 51, 3) := by decide +kernel
theorem dX11_init_139 : decode cX11_init 139 = .ok (.return_, 1) := by decide +kernel
theorem dX11_init_79 : decode cX11_init 79 = .ok (.aload 4, 2) := by decide +kernel
theorem dX11_init_81 : decode cX11_init 81 = .ok (.iload 5, 2) := by decide +kernel
theorem dfX3 : ∀ j, j < 8 → defaultValue (tyX3 j) = vp_V ((lay 4).map (fun b => if b then Value.int 0 else .null)) j := by decide +kernel
set_option maxRecDepth 100000 in
theorem q175 : Cond.instantiable RX3 8 ∈ GT := gt 175 (by decide +kernel) (by decide +kernel)
theorem dX11_init_83 : decode cX11_init 83 = .ok (.new 25, 3) := by decide +kernel
theorem dX11_init_86 : decode cX11_init 86 = .ok (.dup, 1) := by decide +kernel
theorem dX11_init_87 : decode cX11_init 87 = .ok (.iload 5, 2) := by decide +kernel
theorem dX11_init_89 : decode cX11_init 89 = .ok (.aload_n 1, 1) := by decide +kernel
theorem dX11_init_90 : decode cX11_init 90 = .ok (.aload_n 3, 1) := by decide +kernel
theorem dX11_init_91 : decode cX11_init 91 = .ok (.iload 5, 2) := by decide +kernel
theorem dX11_init_93 : decode cX11_init 93 = .ok (.aaload, 1) := by decide +kernel
set_option maxRecDepth 100000 in
theorem q178 : Cond.code yX3_init cX3_init 5 none ∈ GT := gt 178 (rfl) (by decide +kernel)
theorem M_X3_init : MY yX3_init cX3_init 5 none 3 := ⟨q178, q60, by decide +kernel, by decide +kernel⟩
set_option maxRecDepth 100000 in
theorem q177 : Cond.instanceMethod yX3_init ∈ GT := gt 177 (by decide +kernel) (by decide +kernel)
set_option maxRecDepth 100000 in
theorem q176 : Cond.methodLink RX11 27 yX3_init ∈ GT := gt 176 (by decide +kernel) (by decide +kernel)
theorem dX11_init_94 : decode cX11_init 94 = .ok (.invokespecial 27, 3) := by decide +kernel
theorem dX11_init_97 : decode cX11_init 97 = .ok (.aastore, 1) := by decide +kernel
theorem dX11_init_98 : decode cX11_init 98 = .ok (.iinc 5 1, 3) := by decide +kernel
theorem dX11_init_101 : decode cX11_init 101 = .ok (.goto (-28), 3) := by decide +kernel
set_option maxHeartbeats 4000000 in
set_option maxRecDepth 100000 in
theorem w_X11_init_73 {p : Program} {l : Launch} {e : Env} {R : Room} {s : State} {m : MethodId} {args : Array Value} {below : List Frame} {meth : Method} {c : Code} {G : Gt} {ρ0 : Int → Nat} {M0 : Mo} {res : RS} (F : Fx p l R s m args meth c cX11_init 6 RX11 G M0 6 none) (hno : ∀ x ∈ c.exceptionTable.toList, False) (hnm : meth.name = yX11_init.name) (n : Nat) : ∀ (x0 x1 x2 x3 x4 x5 : Int) (M : Mo), X11_init_73 n x0 x1 x2 x3 x4 x5 M = some res → J p l e R s m args below meth c 6 G ρ0 M0 0 res M 73 [(0, (false, x0)), (1, (false, x1)), (2, (false, x2)), (3, (false, x3)), (4, (false, x4)), (5, (true, x5))] [] := by
  induction n with
  | zero => intro x0 x1 x2 x3 x4 x5 M h; cases h
  | succ n ih =>
    intro x0 x1 x2 x3 x4 x5 M h
    rw [X11_init_73] at h
    refine j_iload F 5 rfl dX11_init_73 ?_
    refine j_iconst F dX11_init_75 ?_
    refine j_icmp_ge F 104 (by decide) dX11_init_76 h (fun h => ?_) (fun h => ?_)
    · skip
      refine j_aload_n F 0 rfl rfl dX11_init_104 ?_
      obtain ⟨g1, h⟩ := gua h
      refine j_new (ci := 8) F inGX7 tyX7 tyX7_ok q266 q267 q63 rfl (by decide) dfX7 g1 dX11_init_105 (fun kl2 => ?_)
      obtain ⟨M3, hM3⟩ : ∃ Z, Z = nO M 8 12 := ⟨_, rfl⟩
      have g4 : kd M3 (nid M) = 9 := by rw [hM3]; exact kd_nO
      rw [← hM3] at kl2 ⊢
      replace h := pt_as h hM3
      refine j_dup F dX11_init_108 ?_
      refine j_aload_n F 1 rfl rfl dX11_init_109 ?_
      refine j_aload_n F 2 rfl rfl dX11_init_110 ?_
      refine j_aload_n F 3 rfl rfl dX11_init_111 ?_
      refine j_callI (d' := 5) (argl := [(false, x1), (false, x2), (false, x3)]) (rk9 := 0) (st := [(false, (nid M)), (false, x0)]) F M_X7_init q269 rfl q268 ⟨by decide, by decide⟩ (Nat.le_of_ble_eq_true rfl) (by decide) (by rw [g4]; decide) dX11_init_112 rfl h (fun z hz => c_X7_init l F.ht G (nid M) x1 x2 x3 M3 z hz) (fun v5 M6 h kl7 => ?_)
      refine j_st (st' := [(false, (nid M)), (false, x0)]) rfl ?_
      obtain ⟨g8, h⟩ := gua h
      refine j_putF (ty := .object "ToolPlex$Multiplexer") F ft_X11_35 rfl rfl hnm rfl tyX11 tyX11_ok nmX11 (by decide +kernel) (nf_ref (Or.inl ⟨_, rfl⟩) _) g8 dX11_init_115 ?_
      obtain ⟨M9, hM9⟩ : ∃ Z, Z = sF M6 12 4 x0 (nid M) := ⟨_, rfl⟩
      have kl10 : kle M6 M9 := by rw [hM9]; exact kle_sF
      rw [← hM9]
      replace h := pt_as h hM9
      refine j_aload_n F 0 rfl rfl dX11_init_118 ?_
      refine j_aload_n F 1 rfl rfl dX11_init_119 ?_
      refine j_putF (ty := .object "ToolPlex$Files") F ft_X11_39 rfl rfl hnm rfl tyX11 tyX11_ok nmX11 (by decide +kernel) (nf_ref (Or.inl ⟨_, rfl⟩) _) (kl10.is g8) dX11_init_120 ?_
      obtain ⟨M11, hM11⟩ : ∃ Z, Z = sF M9 12 0 x0 x1 := ⟨_, rfl⟩
      have kl12 : kle M9 M11 := by rw [hM11]; exact kle_sF
      rw [← hM11]
      replace h := pt_as h hM11
      refine j_aload_n F 0 rfl rfl dX11_init_123 ?_
      refine j_aload_n F 2 rfl rfl dX11_init_124 ?_
      refine j_putF (ty := .object "java/util/ArrayList") F ft_X11_43 rfl rfl hnm rfl tyX11 tyX11_ok nmX11 (by decide +kernel) (nf_ref (Or.inl ⟨_, rfl⟩) _) (kl12.is (kl10.is g8)) dX11_init_125 ?_
      obtain ⟨M13, hM13⟩ : ∃ Z, Z = sF M11 12 3 x0 x2 := ⟨_, rfl⟩
      have kl14 : kle M11 M13 := by rw [hM13]; exact kle_sF
      rw [← hM13]
      replace h := pt_as h hM13
      refine j_aload_n F 0 rfl rfl dX11_init_128 ?_
      refine j_aload_n F 3 rfl rfl dX11_init_129 ?_
      refine j_putF (ty := .array (.object "ToolPlex$Channel")) F ft_X11_47 rfl rfl hnm rfl tyX11 tyX11_ok nmX11 (by decide +kernel) (nf_ref (Or.inr ⟨_, rfl⟩) _) (kl14.is (kl12.is (kl10.is g8))) dX11_init_130 ?_
      obtain ⟨M15, hM15⟩ : ∃ Z, Z = sF M13 12 1 x0 x3 := ⟨_, rfl⟩
      have kl16 : kle M13 M15 := by rw [hM15]; exact kle_sF
      rw [← hM15]
      replace h := pt_as h hM15
      refine j_aload_n F 0 rfl rfl dX11_init_133 ?_
      refine j_aload F 4 rfl dX11_init_134 ?_
      refine j_putF (ty := .array (.object "ToolPlex$Editor")) F ft_X11_51 rfl rfl hnm rfl tyX11 tyX11_ok nmX11 (by decide +kernel) (nf_ref (Or.inr ⟨_, rfl⟩) _) (kl16.is (kl14.is (kl12.is (kl10.is g8)))) dX11_init_136 ?_
      obtain ⟨M17, hM17⟩ : ∃ Z, Z = sF M15 12 2 x0 x4 := ⟨_, rfl⟩
      have kl18 : kle M15 M17 := by rw [hM17]; exact kle_sF
      rw [← hM17]
      replace h := pt_as h hM17
      exact j_vret F (v := 0) h dX11_init_139
    · skip
      refine j_aload F 4 rfl dX11_init_79 ?_
      refine j_iload F 5 rfl dX11_init_81 ?_
      obtain ⟨g19, h⟩ := gua h
      refine j_new (ci := 4) F inGX3 tyX3 tyX3_ok q173 q175 q60 rfl (by decide) dfX3 g19 dX11_init_83 (fun kl20 => ?_)
      obtain ⟨M21, hM21⟩ : ∃ Z, Z = nO M 4 8 := ⟨_, rfl⟩
      have g22 : kd M21 (nid M) = 5 := by rw [hM21]; exact kd_nO
      rw [← hM21] at kl20 ⊢
      replace h := pt_as h hM21
      refine j_dup F dX11_init_86 ?_
      refine j_iload F 5 rfl dX11_init_87 ?_
      refine j_aload_n F 1 rfl rfl dX11_init_89 ?_
      refine j_aload_n F 3 rfl rfl dX11_init_90 ?_
      refine j_iload F 5 rfl dX11_init_91 ?_
      obtain ⟨g23, h⟩ := gua h
      obtain ⟨g24, h⟩ := gua h
      refine j_aaload F 14 7 g23 (by decide) rfl g24 dX11_init_93 ?_
      refine j_callI (d' := 4) (argl := [(true, x5), (false, x1), (false, (el M21 14 x3 (wr x5)))]) (rk9 := 0) (st := [(false, (nid M)), (true, x5), (false, x4)]) F M_X3_init q177 rfl q176 ⟨by decide, by decide⟩ (Nat.le_of_ble_eq_true rfl) (by decide) (by rw [g22]; decide) dX11_init_94 rfl h (fun z hz => c_X3_init l F.ht G (nid M) x5 x1 (el M21 14 x3 (wr x5)) M21 z hz) (fun v25 M26 h kl27 => ?_)
      refine j_st (st' := [(false, (nid M)), (true, x5), (false, x4)]) rfl ?_
      obtain ⟨g28, h⟩ := gua h
      obtain ⟨g29, h⟩ := gua h
      refine j_aastore F 15 8 4 g28 (by decide) rfl rfl (by decide) rfl g29 (Or.inr (kl27.is g22)) dX11_init_97 ?_
      obtain ⟨M30, hM30⟩ : ∃ Z, Z = sE M26 15 x4 (wr x5) (nid M) := ⟨_, rfl⟩
      have kl31 : kle M26 M30 := by rw [hM30]; exact kle_sE
      rw [← hM30]
      replace h := pt_as h hM30
      refine j_iinc F 5 (lv' := [(5, (true, (x5 + 1))), (0, (false, x0)), (1, (false, x1)), (2, (false, x2)), (3, (false, x3)), (4, (false, x4))]) rfl (by decide) rfl dX11_init_98 ?_
      refine j_goto F 73 (by decide) dX11_init_101 ?_
      refine j_sub (lv' := [(0, (false, x0)), (1, (false, x1)), (2, (false, x2)), (3, (false, x3)), (4, (false, x4)), (5, (true, (x5 + 1)))]) [1, 2, 3, 4, 5, 0] rfl ?_
      exact ih x0 x1 x2 x3 x4 (x5 + 1) M30 h
set_option maxHeartbeats 4000000 in
set_option maxRecDepth 100000 in
theorem w_X11_init_40 {p : Program} {l : Launch} {e : Env} {R : Room} {s : State} {m : MethodId} {args : Array Value} {below : List Frame} {meth : Method} {c : Code} {G : Gt} {ρ0 : Int → Nat} {M0 : Mo} {res : RS} (F : Fx p l R s m args meth c cX11_init 6 RX11 G M0 6 none) (hno : ∀ x ∈ c.exceptionTable.toList, False) (hnm : meth.name = yX11_init.name) (n : Nat) : ∀ (x0 x1 x2 x3 x4 : Int) (M : Mo), X11_init_40 n x0 x1 x2 x3 x4 M = some res → J p l e R s m args below meth c 6 G ρ0 M0 0 res M 40 [(0, (false, x0)), (1, (false, x1)), (2, (false, x2)), (3, (false, x3)), (4, (true, x4))] [] := by
  induction n with
  | zero => intro x0 x1 x2 x3 x4 M h; cases h
  | succ n ih =>
    intro x0 x1 x2 x3 x4 M h
    rw [X11_init_40] at h
    refine j_iload F 4 rfl dX11_init_40 ?_
    refine j_bipush F (by decide) dX11_init_42 ?_
    refine j_icmp_ge F 64 (by decide) dX11_init_44 h (fun h => ?_) (fun h => ?_)
    · skip
      refine j_iconst F dX11_init_64 ?_
      obtain ⟨g1, h⟩ := gua h
      refine j_anewa F 15 8 (by decide) rfl q173 F.2.2.2.2.2.1.1.1.2.2.2.2.1 (by decide) g1 dX11_init_65 (fun kl2 => ?_)
      obtain ⟨M3, hM3⟩ : ∃ Z, Z = nA M 15 (wr 2) := ⟨_, rfl⟩
      have g4 : kd M3 (nid M) = 115 := by rw [hM3]; exact kd_nA
      rw [← hM3] at kl2 ⊢
      replace h := pt_as h hM3
      refine j_astore F (lv' := [(4, (false, (nid M))), (0, (false, x0)), (1, (false, x1)), (2, (false, x2)), (3, (false, x3))]) (by decide) rfl dX11_init_68 ?_
      refine j_iconst F dX11_init_70 ?_
      refine j_istore F (lv' := [(5, (true, 0)), (4, (false, (nid M))), (0, (false, x0)), (1, (false, x1)), (2, (false, x2)), (3, (false, x3))]) (by decide) rfl dX11_init_71 ?_
      refine j_sub (lv' := [(0, (false, x0)), (1, (false, x1)), (2, (false, x2)), (3, (false, x3)), (4, (false, (nid M))), (5, (true, 0))]) [2, 3, 4, 5, 1, 0] rfl ?_
      exact w_X11_init_73 F hno hnm FU x0 x1 x2 x3 (nid M) 0 M3 h
    · skip
      refine j_aload_n F 3 rfl rfl dX11_init_47 ?_
      refine j_iload F 4 rfl dX11_init_48 ?_
      obtain ⟨g5, h⟩ := gua h
      refine j_new (ci := 2) F inGX1 tyX1 tyX1_ok q160 q162 q59 rfl (by decide) dfX1 g5 dX11_init_50 (fun kl6 => ?_)
      obtain ⟨M7, hM7⟩ : ∃ Z, Z = nO M 2 1 := ⟨_, rfl⟩
      have g8 : kd M7 (nid M) = 3 := by rw [hM7]; exact kd_nO
      rw [← hM7] at kl6 ⊢
      replace h := pt_as h hM7
      refine j_dup F dX11_init_53 ?_
      refine j_callIN (d' := 4) (argl := []) (rk9 := 0) (st := [(false, (nid M)), (true, x4), (false, x3)]) F M_X1_init q164 rfl q163 ⟨by decide, by decide⟩ (Nat.le_of_ble_eq_true rfl) (by decide) (by rw [g8]; decide) dX11_init_54 rfl h (fun z hz => c_X1_init l F.ht G (nid M) M7 z hz) (fun v9 M10 h kl11 => ?_)
      refine j_st (st' := [(false, (nid M)), (true, x4), (false, x3)]) rfl ?_
      obtain ⟨g12, h⟩ := gua h
      obtain ⟨g13, h⟩ := gua h
      refine j_aastore F 14 7 2 g12 (by decide) rfl rfl (by decide) rfl g13 (Or.inr (kl11.is g8)) dX11_init_57 ?_
      obtain ⟨M14, hM14⟩ : ∃ Z, Z = sE M10 14 x3 (wr x4) (nid M) := ⟨_, rfl⟩
      have kl15 : kle M10 M14 := by rw [hM14]; exact kle_sE
      rw [← hM14]
      replace h := pt_as h hM14
      refine j_iinc F 4 (lv' := [(4, (true, (x4 + 1))), (0, (false, x0)), (1, (false, x1)), (2, (false, x2)), (3, (false, x3))]) rfl (by decide) rfl dX11_init_58 ?_
      refine j_goto F 40 (by decide) dX11_init_61 ?_
      refine j_sub (lv' := [(0, (false, x0)), (1, (false, x1)), (2, (false, x2)), (3, (false, x3)), (4, (true, (x4 + 1)))]) [1, 2, 3, 4, 0] rfl ?_
      exact ih x0 x1 x2 x3 (x4 + 1) M14 h
set_option maxHeartbeats 4000000 in
set_option maxRecDepth 100000 in
theorem w_X11_init_0 {p : Program} {l : Launch} {e : Env} {R : Room} {s : State} {m : MethodId} {args : Array Value} {below : List Frame} {meth : Method} {c : Code} {G : Gt} {ρ0 : Int → Nat} {M0 : Mo} {res : RS} (F : Fx p l R s m args meth c cX11_init 6 RX11 G M0 6 none) (hno : ∀ x ∈ c.exceptionTable.toList, False) (hnm : meth.name = yX11_init.name) (x0 : Int) (M : Mo) (h : X11_init x0 M = some res) : J p l e R s m args below meth c 6 G ρ0 M0 0 res M 0 [(0, (false, x0))] [] := by
  unfold X11_init at h
  refine j_aload_n F 0 rfl rfl dX11_init_0 ?_
  obtain ⟨g1, h⟩ := gua h
  refine j_objInit F ⟨q85, q86, q87⟩ g1 (by decide) (Nat.le_of_ble_eq_true rfl) dX11_init_1 ?_
  refine j_aload_n F 0 rfl rfl dX11_init_4 ?_
  obtain ⟨g2, h⟩ := gua h
  refine j_new (ci := 11) F inGX10 tyX10 tyX10_ok q88 q89 q54 rfl (by decide) dfX10 g2 dX11_init_5 (fun kl3 => ?_)
  obtain ⟨M4, hM4⟩ : ∃ Z, Z = nO M 11 2 := ⟨_, rfl⟩
  have g5 : kd M4 (nid M) = 12 := by rw [hM4]; exact kd_nO
  rw [← hM4] at kl3 ⊢
  replace h := pt_as h hM4
  refine j_dup F dX11_init_8 ?_
  refine j_callIN (d' := 1) (argl := []) (rk9 := 0) (st := [(false, (nid M)), (false, x0)]) F M_X10_init q91 rfl q90 ⟨by decide, by decide⟩ (Nat.le_of_ble_eq_true rfl) (by decide) (by rw [g5]; decide) dX11_init_9 rfl h (fun z hz => c_X10_init l F.ht G (nid M) M4 z hz) (fun v6 M7 h kl8 => ?_)
  refine j_st (st' := [(false, (nid M)), (false, x0)]) rfl ?_
  obtain ⟨g9, h⟩ := gua h
  refine j_putF (ty := .object "ToolPlex$Text") F ft_X11_10 rfl rfl hnm rfl tyX11 tyX11_ok nmX11 (by decide +kernel) (nf_ref (Or.inl ⟨_, rfl⟩) _) g9 dX11_init_12 ?_
  obtain ⟨M10, hM10⟩ : ∃ Z, Z = sF M7 12 5 x0 (nid M) := ⟨_, rfl⟩
  have kl11 : kle M7 M10 := by rw [hM10]; exact kle_sF
  rw [← hM10]
  replace h := pt_as h hM10
  obtain ⟨g12, h⟩ := gua h
  refine j_new (ci := 5) F inGX4 tyX4 tyX4_ok q102 q103 q55 rfl (by decide) dfX4 g12 dX11_init_15 (fun kl13 => ?_)
  obtain ⟨M14, hM14⟩ : ∃ Z, Z = nO M10 5 7 := ⟨_, rfl⟩
  have g15 : kd M14 (nid M10) = 6 := by rw [hM14]; exact kd_nO
  rw [← hM14] at kl13 ⊢
  replace h := pt_as h hM14
  refine j_dup F dX11_init_18 ?_
  refine j_callI (d' := 2) (argl := []) (rk9 := 0) (st := [(false, (nid M10))]) F M_X4_init q105 rfl q104 ⟨by decide, by decide⟩ (Nat.le_of_ble_eq_true rfl) (by decide) (by rw [g15]; decide) dX11_init_19 rfl h (fun z hz => c_X4_init l F.ht G (nid M10) M14 z hz) (fun v16 M17 h kl18 => ?_)
  refine j_st (st' := [(false, (nid M10))]) rfl ?_
  refine j_astore_n F (lv' := [(1, (false, (nid M10))), (0, (false, x0))]) rfl (by decide) rfl dX11_init_22 ?_
  obtain ⟨g19, h⟩ := gua h
  refine j_new (ci := 0) F inGJx4a65c tyJx4a65c tyJx4a65c_ok q134 q135 q58 rfl (by decide) dfJx4a65c g19 dX11_init_23 (fun kl20 => ?_)
  obtain ⟨M21, hM21⟩ : ∃ Z, Z = nO M17 0 3 := ⟨_, rfl⟩
  have g22 : kd M21 (nid M17) = 1 := by rw [hM21]; exact kd_nO
  rw [← hM21] at kl20 ⊢
  replace h := pt_as h hM21
  refine j_dup F dX11_init_26 ?_
  refine j_callI (d' := 3) (argl := []) (rk9 := 0) (st := [(false, (nid M17))]) F M_Jx4a65c_init_da8c8 q137 rfl q136 ⟨by decide, by decide⟩ (Nat.le_of_ble_eq_true rfl) (by decide) (by rw [g22]; decide) dX11_init_27 rfl h (fun z hz => c_Jx4a65c_init_da8c8 l F.ht G (nid M17) M21 z hz) (fun v23 M24 h kl25 => ?_)
  refine j_st (st' := [(false, (nid M17))]) rfl ?_
  refine j_astore_n F (lv' := [(2, (false, (nid M17))), (1, (false, (nid M10))), (0, (false, x0))]) rfl (by decide) rfl dX11_init_30 ?_
  refine j_bipush F (by decide) dX11_init_31 ?_
  obtain ⟨g26, h⟩ := gua h
  refine j_anewa F 14 7 (by decide) rfl q160 F.2.2.2.2.2.1.1.1.2.2.2.1 (by decide) g26 dX11_init_33 (fun kl27 => ?_)
  obtain ⟨M28, hM28⟩ : ∃ Z, Z = nA M24 14 (wr 10) := ⟨_, rfl⟩
  have g29 : kd M28 (nid M24) = 114 := by rw [hM28]; exact kd_nA
  rw [← hM28] at kl27 ⊢
  replace h := pt_as h hM28
  refine j_astore_n F (lv' := [(3, (false, (nid M24))), (2, (false, (nid M17))), (1, (false, (nid M10))), (0, (false, x0))]) rfl (by decide) rfl dX11_init_36 ?_
  refine j_iconst F dX11_init_37 ?_
  refine j_istore F (lv' := [(4, (true, 0)), (3, (false, (nid M24))), (2, (false, (nid M17))), (1, (false, (nid M10))), (0, (false, x0))]) (by decide) rfl dX11_init_38 ?_
  refine j_sub (lv' := [(0, (false, x0)), (1, (false, (nid M10))), (2, (false, (nid M17))), (3, (false, (nid M24))), (4, (true, 0))]) [4, 3, 2, 1, 0] rfl ?_
  exact w_X11_init_40 F hno hnm FU x0 (nid M10) (nid M17) (nid M24) 0 M28 h
theorem c_X11_init (l : Launch) (hl : l.stackTraces = false) (G : Gt) (x0 : Int) (M : Mo) (z : RS) (h : X11_init x0 M = some z) : CT l G yX11_init (cn yX11_init cX11_init 6 none) 6 [(false, x0)] M 0 z :=
  ctOf hl (by decide) (Nat.le_of_ble_eq_true rfl) (fun p e R s m args below meth c ρ F hno hnm => w_X11_init_0 F hno hnm x0 M h)
theorem dX11_file_0 : decode cX11_file 0 = .ok (.iload_n 1, 1) := by decide +kernel
set_option maxRecDepth 100000 in
theorem q343 : Cond.methodLink RX11 55 yX10_isLetter ∈ GT := gt 343 (by decide +kernel) (by decide +kernel)
theorem dX11_file_1 : decode cX11_file 1 = .ok (.invokestatic 55, 3) := by decide +kernel
theorem dX11_file_4 : decode cX11_file 4 = .ok (.ifCond .eq 12, 3) := by decide +kernel
theorem at_X11_63 : ∀ w ∈ vx_atS RX11 63 "java/lang/IllegalArgumentException" ["java/lang/RuntimeException", "java/lang/Exception"], w ∈ GT := vxgt (by decide +kernel)
set_option maxRecDepth 100000 in
theorem q346 : Cond.classLink RX11 59 "java/lang/IllegalArgumentException" ∈ GT := gt 346 (by decide +kernel) (by decide +kernel)
set_option maxRecDepth 100000 in
theorem q68 : Cond.initialized "java/lang/IllegalArgumentException" ∈ GT := gt 68 (by decide +kernel) (by decide +kernel)
theorem dX11_file_16 : decode cX11_file 16 = .ok (.new 59, 3) := by decide +kernel
theorem dX11_file_19 : decode cX11_file 19 = .ok (.dup, 1) := by decide +kernel
theorem dX11_file_20 : decode cX11_file 20 = .ok (.ldc 61, 2) := by decide +kernel
theorem dX11_file_22 : decode cX11_file 22 = .ok (.invokespecial 63, 3) := by decide +kernel
theorem dX11_file_25 : decode cX11_file 25 = .ok (.athrow, 1) := by decide +kernel
theorem dX11_file_7 : decode cX11_file 7 = .ok (.iload_n 2, 1) := by decide +kernel
theorem dX11_file_8 : decode cX11_file 8 = .ok (.ifCond .lt 8, 3) := by decide +kernel
theorem dX11_file_11 : decode cX11_file 11 = .ok (.iload_n 2, 1) := by decide +kernel
theorem dX11_file_12 : decode cX11_file 12 = .ok (.iconst 3, 1) := by decide +kernel
theorem dX11_file_13 : decode cX11_file 13 = .ok (.if_icmp .lt 13, 3) := by decide +kernel
theorem dX11_file_26 : decode cX11_file 26 = .ok (.aload_n 0, 1) := by decide +kernel
theorem dX11_file_27 : decode cX11_file 27 = .ok (.getfield 39, 3) := by decide +kernel
set_option maxRecDepth 100000 in
theorem q414 : Cond.methodLink RX11 66 yX4_isFull ∈ GT := gt 414 (by decide +kernel) (by decide +kernel)
theorem dX11_file_30 : decode cX11_file 30 = .ok (.invokevirtual 66, 3) := by decide +kernel
theorem dX11_file_33 : decode cX11_file 33 = .ok (.ifCond .ne 15, 3) := by decide +kernel
theorem at_X11_78 : ∀ w ∈ vx_atS RX11 78 "java/lang/IllegalStateException" ["java/lang/RuntimeException", "java/lang/Exception"], w ∈ GT := vxgt (by decide +kernel)
set_option maxRecDepth 100000 in
theorem q422 : Cond.classLink RX11 74 "java/lang/IllegalStateException" ∈ GT := gt 422 (by decide +kernel) (by decide +kernel)
set_option maxRecDepth 100000 in
theorem q69 : Cond.initialized "java/lang/IllegalStateException" ∈ GT := gt 69 (by decide +kernel) (by decide +kernel)
theorem dX11_file_48 : decode cX11_file 48 = .ok (.new 74, 3) := by decide +kernel
theorem dX11_file_51 : decode cX11_file 51 = .ok (.dup, 1) := by decide +kernel
theorem dX11_file_52 : decode cX11_file 52 = .ok (.ldc 76, 2) := by decide +kernel
theorem dX11_file_54 : decode cX11_file 54 = .ok (.invokespecial 78, 3) := by decide +kernel
theorem dX11_file_57 : decode cX11_file 57 = .ok (.athrow, 1) := by decide +kernel
theorem dX11_file_36 : decode cX11_file 36 = .ok (.aload_n 0, 1) := by decide +kernel
theorem dX11_file_37 : decode cX11_file 37 = .ok (.getfield 39, 3) := by decide +kernel
theorem dX11_file_40 : decode cX11_file 40 = .ok (.iload_n 1, 1) := by decide +kernel
set_option maxRecDepth 100000 in
theorem q418 : Cond.methodLink RX11 70 yX4_named ∈ GT := gt 418 (by decide +kernel) (by decide +kernel)
theorem dX11_file_41 : decode cX11_file 41 = .ok (.invokevirtual 70, 3) := by decide +kernel
theorem dX11_file_44 : decode cX11_file 44 = .ok (.iconst (-1), 1) := by decide +kernel
theorem dX11_file_45 : decode cX11_file 45 = .ok (.if_icmp .eq 13, 3) := by decide +kernel
theorem dX11_file_58 : decode cX11_file 58 = .ok (.aload_n 0, 1) := by decide +kernel
theorem dX11_file_59 : decode cX11_file 59 = .ok (.getfield 39, 3) := by decide +kernel
theorem dX11_file_62 : decode cX11_file 62 = .ok (.iload_n 1, 1) := by decide +kernel
theorem dX11_file_63 : decode cX11_file 63 = .ok (.iload_n 2, 1) := by decide +kernel
set_option maxRecDepth 100000 in
theorem q438 : Cond.methodLink RX11 79 yX4_add ∈ GT := gt 438 (by decide +kernel) (by decide +kernel)
theorem dX11_file_64 : decode cX11_file 64 = .ok (.invokevirtual 79, 3) := by decide +kernel
theorem dX11_file_67 : decode cX11_file 67 = .ok (.ireturn, 1) := by decide +kernel
set_option maxHeartbeats 4000000 in
set_option maxRecDepth 100000 in
theorem w_X11_file_0 {p : Program} {l : Launch} {e : Env} {R : Room} {s : State} {m : MethodId} {args : Array Value} {below : List Frame} {meth : Method} {c : Code} {G : Gt} {ρ0 : Int → Nat} {M0 : Mo} {res : RS} (F : Fx p l R s m args meth c cX11_file 3 RX11 G M0 6 (some FieldType.int)) (hno : ∀ x ∈ c.exceptionTable.toList, False) (hnm : meth.name = yX11_file.name) (x0 x1 x2 : Int) (M : Mo) (h : X11_file x0 x1 x2 M = some res) : J p l e R s m args below meth c 3 G ρ0 M0 1 res M 0 [(0, (false, x0)), (1, (true, x1)), (2, (true, x2))] [] := by
  unfold X11_file at h
  refine j_iload_n F 1 rfl rfl dX11_file_0 ?_
  refine j_callS (d' := 0) (argl := [(true, x1)]) (rk9 := 1) (st := []) F hno M_X10_isLetter q344 q343 ⟨by decide, by decide⟩ (Nat.le_of_ble_eq_true rfl) (by decide) dX11_file_1 rfl h (fun z hz => c_X10_isLetter l F.ht G x1 M z hz) (fun v1 M2 h kl3 => ?_)
  refine j_st (st' := [(true, v1)]) rfl ?_
  refine j_if_eq F 16 (by decide) dX11_file_4 h (fun h => ?_) (fun h => ?_)
  · skip
    obtain ⟨g4, h⟩ := gua h
    exact j_throw F hno (ex := 2) (text := "no such name or language") rfl (by decide +kernel) q346 q68 (by decide +kernel) at_X11_63 (by decide +kernel) (by decide) (Nat.le_of_ble_eq_true rfl) rfl (by decide) g4 h dX11_file_16 dX11_file_19 dX11_file_20 dX11_file_22 dX11_file_25
  · skip
    refine j_iload_n F 2 rfl rfl dX11_file_7 ?_
    refine j_if_lt F 16 (by decide) dX11_file_8 h (fun h => ?_) (fun h => ?_)
    · skip
      obtain ⟨g5, h⟩ := gua h
      exact j_throw F hno (ex := 2) (text := "no such name or language") rfl (by decide +kernel) q346 q68 (by decide +kernel) at_X11_63 (by decide +kernel) (by decide) (Nat.le_of_ble_eq_true rfl) rfl (by decide) g5 h dX11_file_16 dX11_file_19 dX11_file_20 dX11_file_22 dX11_file_25
    · skip
      refine j_iload_n F 2 rfl rfl dX11_file_11 ?_
      refine j_iconst F dX11_file_12 ?_
      refine j_icmp_lt F 26 (by decide) dX11_file_13 h (fun h => ?_) (fun h => ?_)
      · skip
        refine j_aload_n F 0 rfl rfl dX11_file_26 ?_
        obtain ⟨g6, h⟩ := gua h
        refine j_get F ft_X11_39 rfl g6 dX11_file_27 ?_
        obtain ⟨g10, h⟩ := gua h
        refine j_callV (d' := 0) (argl := []) (rk9 := 1) (st := []) F hno M_X4_isFull q415 q416 q414 ⟨by decide, by decide⟩ (Nat.le_of_ble_eq_true rfl) (by decide) (ci := 5) rfl (by decide) g10 dX11_file_30 rfl h (fun z hz => c_X4_isFull l F.ht G (fd M2 12 0 x0) M2 z hz) (fun v7 M8 h kl9 => ?_)
        refine j_st (st' := [(true, v7)]) rfl ?_
        refine j_if_ne F 48 (by decide) dX11_file_33 h (fun h => ?_) (fun h => ?_)
        · skip
          obtain ⟨g11, h⟩ := gua h
          exact j_throw F hno (ex := 3) (text := "too many files, or the name is taken") rfl (by decide +kernel) q422 q69 (by decide +kernel) at_X11_78 (by decide +kernel) (by decide) (Nat.le_of_ble_eq_true rfl) rfl (by decide) g11 h dX11_file_48 dX11_file_51 dX11_file_52 dX11_file_54 dX11_file_57
        · skip
          refine j_aload_n F 0 rfl rfl dX11_file_36 ?_
          refine j_get F ft_X11_39 rfl (kl9.is g6) dX11_file_37 ?_
          refine j_iload_n F 1 rfl rfl dX11_file_40 ?_
          obtain ⟨g15, h⟩ := gua h
          refine j_callV (d' := 0) (argl := [(true, x1)]) (rk9 := 1) (st := []) F hno M_X4_named q419 q420 q418 ⟨by decide, by decide⟩ (Nat.le_of_ble_eq_true rfl) (by decide) (ci := 5) rfl (by decide) g15 dX11_file_41 rfl h (fun z hz => c_X4_named l F.ht G (fd M8 12 0 x0) x1 M8 z hz) (fun v12 M13 h kl14 => ?_)
          refine j_st (st' := [(true, v12)]) rfl ?_
          refine j_iconst F dX11_file_44 ?_
          refine j_icmp_eq F 58 (by decide) dX11_file_45 h (fun h => ?_) (fun h => ?_)
          · skip
            refine j_aload_n F 0 rfl rfl dX11_file_58 ?_
            refine j_get F ft_X11_39 rfl (kl14.is (kl9.is g6)) dX11_file_59 ?_
            refine j_iload_n F 1 rfl rfl dX11_file_62 ?_
            refine j_iload_n F 2 rfl rfl dX11_file_63 ?_
            obtain ⟨g19, h⟩ := gua h
            refine j_callV (d' := 0) (argl := [(true, x1), (true, x2)]) (rk9 := 1) (st := []) F hno M_X4_add q439 q440 q438 ⟨by decide, by decide⟩ (Nat.le_of_ble_eq_true rfl) (by decide) (ci := 5) rfl (by decide) g19 dX11_file_64 rfl h (fun z hz => c_X4_add l F.ht G (fd M13 12 0 x0) x1 x2 M13 z hz) (fun v16 M17 h kl18 => ?_)
            refine j_st (st' := [(true, v16)]) rfl ?_
            exact j_iret F h dX11_file_67
          · skip
            obtain ⟨g20, h⟩ := gua h
            exact j_throw F hno (ex := 3) (text := "too many files, or the name is taken") rfl (by decide +kernel) q422 q69 (by decide +kernel) at_X11_78 (by decide +kernel) (by decide) (Nat.le_of_ble_eq_true rfl) rfl (by decide) g20 h dX11_file_48 dX11_file_51 dX11_file_52 dX11_file_54 dX11_file_57
      · skip
        obtain ⟨g21, h⟩ := gua h
        exact j_throw F hno (ex := 2) (text := "no such name or language") rfl (by decide +kernel) q346 q68 (by decide +kernel) at_X11_63 (by decide +kernel) (by decide) (Nat.le_of_ble_eq_true rfl) rfl (by decide) g21 h dX11_file_16 dX11_file_19 dX11_file_20 dX11_file_22 dX11_file_25
theorem c_X11_file (l : Launch) (hl : l.stackTraces = false) (G : Gt) (x0 x1 x2 : Int) (M : Mo) (z : RS) (h : X11_file x0 x1 x2 M = some z) : CT l G yX11_file (cn yX11_file cX11_file 3 (some FieldType.int)) 6 [(false, x0), (true, x1), (true, x2)] M 1 z :=
  ctOf hl (by decide) (Nat.le_of_ble_eq_true rfl) (fun p e R s m args below meth c ρ F hno hnm => w_X11_file_0 F hno hnm x0 x1 x2 M h)
theorem dX11_checkFile_0 : decode cX11_checkFile 0 = .ok (.aload_n 0, 1) := by decide +kernel
theorem dX11_checkFile_1 : decode cX11_checkFile 1 = .ok (.getfield 39, 3) := by decide +kernel
theorem dX11_checkFile_4 : decode cX11_checkFile 4 = .ok (.iload_n 1, 1) := by decide +kernel
set_option maxRecDepth 100000 in
theorem q585 : Cond.methodLink RX11 365 yX4_has ∈ GT := gt 585 (by decide +kernel) (by decide +kernel)
theorem dX11_checkFile_5 : decode cX11_checkFile 5 = .ok (.invokevirtual 365, 3) := by decide +kernel
theorem dX11_checkFile_8 : decode cX11_checkFile 8 = .ok (.ifCond .ne 14, 3) := by decide +kernel
theorem dX11_checkFile_22 : decode cX11_checkFile 22 = .ok (.return_, 1) := by decide +kernel
theorem at_X11_258 : ∀ w ∈ vx_atS RX11 258 "java/lang/IndexOutOfBoundsException" ["java/lang/RuntimeException", "java/lang/Exception"], w ∈ GT := vxgt (by decide +kernel)
set_option maxRecDepth 100000 in
theorem q586 : Cond.classLink RX11 254 "java/lang/IndexOutOfBoundsException" ∈ GT := gt 586 (by decide +kernel) (by decide +kernel)
set_option maxRecDepth 100000 in
theorem q70 : Cond.initialized "java/lang/IndexOutOfBoundsException" ∈ GT := gt 70 (by decide +kernel) (by decide +kernel)
theorem dX11_checkFile_11 : decode cX11_checkFile 11 = .ok (.new 254, 3) := by decide +kernel
theorem dX11_checkFile_14 : decode cX11_checkFile 14 = .ok (.dup, 1) := by decide +kernel
theorem dX11_checkFile_15 : decode cX11_checkFile 15 = .ok (.ldc_w 368, 3) := by decide +kernel
theorem dX11_checkFile_18 : decode cX11_checkFile 18 = .ok (.invokespecial 258, 3) := by decide +kernel
theorem dX11_checkFile_21 : decode cX11_checkFile 21 = .ok (.athrow, 1) := by decide +kernel
set_option maxHeartbeats 4000000 in
set_option maxRecDepth 100000 in
theorem w_X11_checkFile_0 {p : Program} {l : Launch} {e : Env} {R : Room} {s : State} {m : MethodId} {args : Array Value} {below : List Frame} {meth : Method} {c : Code} {G : Gt} {ρ0 : Int → Nat} {M0 : Mo} {res : RS} (F : Fx p l R s m args meth c cX11_checkFile 2 RX11 G M0 6 none) (hno : ∀ x ∈ c.exceptionTable.toList, False) (hnm : meth.name = yX11_checkFile.name) (x0 x1 : Int) (M : Mo) (h : X11_checkFile x0 x1 M = some res) : J p l e R s m args below meth c 2 G ρ0 M0 0 res M 0 [(0, (false, x0)), (1, (true, x1))] [] := by
  unfold X11_checkFile at h
  refine j_aload_n F 0 rfl rfl dX11_checkFile_0 ?_
  obtain ⟨g1, h⟩ := gua h
  refine j_get F ft_X11_39 rfl g1 dX11_checkFile_1 ?_
  refine j_iload_n F 1 rfl rfl dX11_checkFile_4 ?_
  obtain ⟨g5, h⟩ := gua h
  refine j_callV (d' := 0) (argl := [(true, x1)]) (rk9 := 1) (st := []) F hno M_X4_has q460 q461 q585 ⟨by decide, by decide⟩ (Nat.le_of_ble_eq_true rfl) (by decide) (ci := 5) rfl (by decide) g5 dX11_checkFile_5 rfl h (fun z hz => c_X4_has l F.ht G (fd M 12 0 x0) x1 M z hz) (fun v2 M3 h kl4 => ?_)
  refine j_st (st' := [(true, v2)]) rfl ?_
  refine j_if_ne F 22 (by decide) dX11_checkFile_8 h (fun h => ?_) (fun h => ?_)
  · skip
    exact j_vret F (v := 0) h dX11_checkFile_22
  · skip
    obtain ⟨g6, h⟩ := gua h
    exact j_throwW F hno (ex := 1) (text := "no such file") rfl (by decide +kernel) q586 q70 (by decide +kernel) at_X11_258 (by decide +kernel) (by decide) (Nat.le_of_ble_eq_true rfl) rfl (by decide) g6 h dX11_checkFile_11 dX11_checkFile_14 dX11_checkFile_15 dX11_checkFile_18 dX11_checkFile_21
theorem c_X11_checkFile (l : Launch) (hl : l.stackTraces = false) (G : Gt) (x0 x1 : Int) (M : Mo) (z : RS) (h : X11_checkFile x0 x1 M = some z) : CT l G yX11_checkFile (cn yX11_checkFile cX11_checkFile 2 none) 6 [(false, x0), (true, x1)] M 0 z :=
  ctOf hl (by decide) (Nat.le_of_ble_eq_true rfl) (fun p e R s m args below meth c ρ F hno hnm => w_X11_checkFile_0 F hno hnm x0 x1 M h)
theorem dX11_checkCode_0 : decode cX11_checkCode 0 = .ok (.iload_n 1, 1) := by decide +kernel
set_option maxRecDepth 100000 in
theorem q626 : Cond.code yX10_isCharacter cX10_isCharacter 1 (some FieldType.boolean) ∈ GT := gt 626 (rfl) (by decide +kernel)
theorem M_X10_isCharacter : MY yX10_isCharacter cX10_isCharacter 1 (some FieldType.boolean) 1 := ⟨q626, q54, by decide +kernel, by decide +kernel⟩
set_option maxRecDepth 100000 in
theorem q625 : Cond.static yX10_isCharacter ∈ GT := gt 625 (by decide +kernel) (by decide +kernel)
set_option maxRecDepth 100000 in
theorem q624 : Cond.methodLink RX11 374 yX10_isCharacter ∈ GT := gt 624 (by decide +kernel) (by decide +kernel)
theorem dX11_checkCode_1 : decode cX11_checkCode 1 = .ok (.invokestatic 374, 3) := by decide +kernel
theorem dX11_checkCode_4 : decode cX11_checkCode 4 = .ok (.ifCond .ne 14, 3) := by decide +kernel
theorem dX11_checkCode_18 : decode cX11_checkCode 18 = .ok (.return_, 1) := by decide +kernel
theorem dX11_checkCode_7 : decode cX11_checkCode 7 = .ok (.new 59, 3) := by decide +kernel
theorem dX11_checkCode_10 : decode cX11_checkCode 10 = .ok (.dup, 1) := by decide +kernel
theorem dX11_checkCode_11 : decode cX11_checkCode 11 = .ok (.ldc_w 377, 3) := by decide +kernel
theorem dX11_checkCode_14 : decode cX11_checkCode 14 = .ok (.invokespecial 63, 3) := by decide +kernel
theorem dX11_checkCode_17 : decode cX11_checkCode 17 = .ok (.athrow, 1) := by decide +kernel
set_option maxHeartbeats 4000000 in
set_option maxRecDepth 100000 in
theorem w_X11_checkCode_0 {p : Program} {l : Launch} {e : Env} {R : Room} {s : State} {m : MethodId} {args : Array Value} {below : List Frame} {meth : Method} {c : Code} {G : Gt} {ρ0 : Int → Nat} {M0 : Mo} {res : RS} (F : Fx p l R s m args meth c cX11_checkCode 2 RX11 G M0 6 none) (hno : ∀ x ∈ c.exceptionTable.toList, False) (hnm : meth.name = yX11_checkCode.name) (x0 x1 : Int) (M : Mo) (h : X11_checkCode x0 x1 M = some res) : J p l e R s m args below meth c 2 G ρ0 M0 0 res M 0 [(0, (false, x0)), (1, (true, x1))] [] := by
  unfold X11_checkCode at h
  refine j_iload_n F 1 rfl rfl dX11_checkCode_0 ?_
  refine j_callS (d' := 1) (argl := [(true, x1)]) (rk9 := 1) (st := []) F hno M_X10_isCharacter q625 q624 ⟨by decide, by decide⟩ (Nat.le_of_ble_eq_true rfl) (by decide) dX11_checkCode_1 rfl h (fun z hz => c_X10_isCharacter l F.ht G x1 M z hz) (fun v1 M2 h kl3 => ?_)
  refine j_st (st' := [(true, v1)]) rfl ?_
  refine j_if_ne F 18 (by decide) dX11_checkCode_4 h (fun h => ?_) (fun h => ?_)
  · skip
    exact j_vret F (v := 0) h dX11_checkCode_18
  · skip
    obtain ⟨g4, h⟩ := gua h
    exact j_throwW F hno (ex := 2) (text := "no such character") rfl (by decide +kernel) q346 q68 (by decide +kernel) at_X11_63 (by decide +kernel) (by decide) (Nat.le_of_ble_eq_true rfl) rfl (by decide) g4 h dX11_checkCode_7 dX11_checkCode_10 dX11_checkCode_11 dX11_checkCode_14 dX11_checkCode_17
theorem c_X11_checkCode (l : Launch) (hl : l.stackTraces = false) (G : Gt) (x0 x1 : Int) (M : Mo) (z : RS) (h : X11_checkCode x0 x1 M = some z) : CT l G yX11_checkCode (cn yX11_checkCode cX11_checkCode 2 none) 6 [(false, x0), (true, x1)] M 0 z :=
  ctOf hl (by decide) (Nat.le_of_ble_eq_true rfl) (fun p e R s m args below meth c ρ F hno hnm => w_X11_checkCode_0 F hno hnm x0 x1 M h)
theorem dX11_store_0 : decode cX11_store 0 = .ok (.aload_n 0, 1) := by decide +kernel
theorem dX11_store_1 : decode cX11_store 1 = .ok (.iload_n 1, 1) := by decide +kernel
set_option maxRecDepth 100000 in
theorem q584 : Cond.code yX11_checkFile cX11_checkFile 2 none ∈ GT := gt 584 (rfl) (by decide +kernel)
theorem M_X11_checkFile : MY yX11_checkFile cX11_checkFile 2 none 1 := ⟨q584, q53, by decide +kernel, by decide +kernel⟩
set_option maxRecDepth 100000 in
theorem q583 : Cond.instanceMethod yX11_checkFile ∈ GT := gt 583 (by decide +kernel) (by decide +kernel)
set_option maxRecDepth 100000 in
theorem q4 : Cond.selects RX11 yX11_checkFile yX11_checkFile ∈ GT := gt 4 (by decide +kernel) (by decide +kernel)
set_option maxRecDepth 100000 in
theorem q581 : Cond.methodLink RX11 83 yX11_checkFile ∈ GT := gt 581 (by decide +kernel) (by decide +kernel)
theorem dX11_store_2 : decode cX11_store 2 = .ok (.invokevirtual 83, 3) := by decide +kernel
theorem dX11_store_5 : decode cX11_store 5 = .ok (.aload_n 0, 1) := by decide +kernel
theorem dX11_store_6 : decode cX11_store 6 = .ok (.iload_n 2, 1) := by decide +kernel
set_option maxRecDepth 100000 in
theorem q623 : Cond.code yX11_checkCode cX11_checkCode 2 none ∈ GT := gt 623 (rfl) (by decide +kernel)
theorem M_X11_checkCode : MY yX11_checkCode cX11_checkCode 2 none 1 := ⟨q623, q53, by decide +kernel, by decide +kernel⟩
set_option maxRecDepth 100000 in
theorem q622 : Cond.instanceMethod yX11_checkCode ∈ GT := gt 622 (by decide +kernel) (by decide +kernel)
set_option maxRecDepth 100000 in
theorem q5 : Cond.selects RX11 yX11_checkCode yX11_checkCode ∈ GT := gt 5 (by decide +kernel) (by decide +kernel)
set_option maxRecDepth 100000 in
theorem q620 : Cond.methodLink RX11 87 yX11_checkCode ∈ GT := gt 620 (by decide +kernel) (by decide +kernel)
theorem dX11_store_7 : decode cX11_store 7 = .ok (.invokevirtual 87, 3) := by decide +kernel
theorem dX11_store_10 : decode cX11_store 10 = .ok (.aload_n 0, 1) := by decide +kernel
theorem dX11_store_11 : decode cX11_store 11 = .ok (.getfield 39, 3) := by decide +kernel
theorem dX11_store_14 : decode cX11_store 14 = .ok (.iload_n 1, 1) := by decide +kernel
set_option maxRecDepth 100000 in
theorem q637 : Cond.methodLink RX11 90 yX4_textOf ∈ GT := gt 637 (by decide +kernel) (by decide +kernel)
theorem dX11_store_15 : decode cX11_store 15 = .ok (.invokevirtual 90, 3) := by decide +kernel
theorem dX11_store_18 : decode cX11_store 18 = .ok (.astore_n 3, 1) := by decide +kernel
theorem dX11_store_19 : decode cX11_store 19 = .ok (.aload_n 0, 1) := by decide +kernel
theorem dX11_store_20 : decode cX11_store 20 = .ok (.getfield 39, 3) := by decide +kernel
theorem dX11_store_23 : decode cX11_store 23 = .ok (.iload_n 1, 1) := by decide +kernel
set_option maxRecDepth 100000 in
theorem q641 : Cond.methodLink RX11 94 yX4_holderOf ∈ GT := gt 641 (by decide +kernel) (by decide +kernel)
theorem dX11_store_24 : decode cX11_store 24 = .ok (.invokevirtual 94, 3) := by decide +kernel
theorem dX11_store_27 : decode cX11_store 27 = .ok (.iconst (-1), 1) := by decide +kernel
theorem dX11_store_28 : decode cX11_store 28 = .ok (.if_icmp .ne 19, 3) := by decide +kernel
theorem dX11_store_47 : decode cX11_store 47 = .ok (.new 74, 3) := by decide +kernel
theorem dX11_store_50 : decode cX11_store 50 = .ok (.dup, 1) := by decide +kernel
theorem dX11_store_51 : decode cX11_store 51 = .ok (.ldc 105, 2) := by decide +kernel
theorem dX11_store_53 : decode cX11_store 53 = .ok (.invokespecial 78, 3) := by decide +kernel
theorem dX11_store_56 : decode cX11_store 56 = .ok (.athrow, 1) := by decide +kernel
theorem dX11_store_31 : decode cX11_store 31 = .ok (.aload_n 3, 1) := by decide +kernel
theorem dX11_store_32 : decode cX11_store 32 = .ok (.aload_n 3, 1) := by decide +kernel
set_option maxRecDepth 100000 in
theorem q645 : Cond.code yX10_size cX10_size 1 (some FieldType.int) ∈ GT := gt 645 (rfl) (by decide +kernel)
theorem M_X10_size : MY yX10_size cX10_size 1 (some FieldType.int) 0 := ⟨q645, q54, by decide +kernel, by decide +kernel⟩
set_option maxRecDepth 100000 in
theorem q643 : Cond.instanceMethod yX10_size ∈ GT := gt 643 (by decide +kernel) (by decide +kernel)
set_option maxRecDepth 100000 in
theorem q644 : Cond.selects RX10 yX10_size yX10_size ∈ GT := gt 644 (by decide +kernel) (by decide +kernel)
set_option maxRecDepth 100000 in
theorem q642 : Cond.methodLink RX11 97 yX10_size ∈ GT := gt 642 (by decide +kernel) (by decide +kernel)
theorem dX11_store_33 : decode cX11_store 33 = .ok (.invokevirtual 97, 3) := by decide +kernel
theorem dX11_store_36 : decode cX11_store 36 = .ok (.aload_n 3, 1) := by decide +kernel
theorem dX11_store_37 : decode cX11_store 37 = .ok (.invokevirtual 97, 3) := by decide +kernel
theorem dX11_store_40 : decode cX11_store 40 = .ok (.iload_n 2, 1) := by decide +kernel
set_option maxRecDepth 100000 in
theorem q649 : Cond.code yX10_canReplace cX10_canReplace 4 (some FieldType.boolean) ∈ GT := gt 649 (rfl) (by decide +kernel)
theorem M_X10_canReplace : MY yX10_canReplace cX10_canReplace 4 (some FieldType.boolean) 3 := ⟨q649, q54, by decide +kernel, by decide +kernel⟩
set_option maxRecDepth 100000 in
theorem q647 : Cond.instanceMethod yX10_canReplace ∈ GT := gt 647 (by decide +kernel) (by decide +kernel)
set_option maxRecDepth 100000 in
theorem q648 : Cond.selects RX10 yX10_canReplace yX10_canReplace ∈ GT := gt 648 (by decide +kernel) (by decide +kernel)
set_option maxRecDepth 100000 in
theorem q646 : Cond.methodLink RX11 101 yX10_canReplace ∈ GT := gt 646 (by decide +kernel) (by decide +kernel)
theorem dX11_store_41 : decode cX11_store 41 = .ok (.invokevirtual 101, 3) := by decide +kernel
theorem dX11_store_44 : decode cX11_store 44 = .ok (.ifCond .ne 13, 3) := by decide +kernel
theorem dX11_store_57 : decode cX11_store 57 = .ok (.aload_n 3, 1) := by decide +kernel
theorem dX11_store_58 : decode cX11_store 58 = .ok (.aload_n 3, 1) := by decide +kernel
theorem dX11_store_59 : decode cX11_store 59 = .ok (.invokevirtual 97, 3) := by decide +kernel
theorem dX11_store_62 : decode cX11_store 62 = .ok (.aload_n 3, 1) := by decide +kernel
theorem dX11_store_63 : decode cX11_store 63 = .ok (.invokevirtual 97, 3) := by decide +kernel
theorem dX11_store_66 : decode cX11_store 66 = .ok (.iload_n 2, 1) := by decide +kernel
set_option maxRecDepth 100000 in
theorem q654 : Cond.methodLink RX11 107 yX10_replace ∈ GT := gt 654 (by decide +kernel) (by decide +kernel)
theorem dX11_store_67 : decode cX11_store 67 = .ok (.invokevirtual 107, 3) := by decide +kernel
theorem dX11_store_70 : decode cX11_store 70 = .ok (.aload_n 3, 1) := by decide +kernel
theorem dX11_store_71 : decode cX11_store 71 = .ok (.invokevirtual 97, 3) := by decide +kernel
theorem dX11_store_74 : decode cX11_store 74 = .ok (.ireturn, 1) := by decide +kernel
set_option maxHeartbeats 4000000 in
set_option maxRecDepth 100000 in
theorem w_X11_store_0 {p : Program} {l : Launch} {e : Env} {R : Room} {s : State} {m : MethodId} {args : Array Value} {below : List Frame} {meth : Method} {c : Code} {G : Gt} {ρ0 : Int → Nat} {M0 : Mo} {res : RS} (F : Fx p l R s m args meth c cX11_store 4 RX11 G M0 7 (some FieldType.int)) (hno : ∀ x ∈ c.exceptionTable.toList, False) (hnm : meth.name = yX11_store.name) (x0 x1 x2 : Int) (M : Mo) (h : X11_store x0 x1 x2 M = some res) : J p l e R s m args below meth c 4 G ρ0 M0 1 res M 0 [(0, (false, x0)), (1, (true, x1)), (2, (true, x2))] [] := by
  unfold X11_store at h
  refine j_aload_n F 0 rfl rfl dX11_store_0 ?_
  refine j_iload_n F 1 rfl rfl dX11_store_1 ?_
  obtain ⟨g4, h⟩ := gua h
  refine j_callV (d' := 6) (argl := [(true, x1)]) (rk9 := 0) (st := []) F hno M_X11_checkFile q583 q4 q581 ⟨by decide, by decide⟩ (Nat.le_of_ble_eq_true rfl) (by decide) (ci := 12) rfl (by decide) g4 dX11_store_2 rfl h (fun z hz => c_X11_checkFile l F.ht G x0 x1 M z hz) (fun v1 M2 h kl3 => ?_)
  refine j_st (st' := []) rfl ?_
  refine j_aload_n F 0 rfl rfl dX11_store_5 ?_
  refine j_iload_n F 2 rfl rfl dX11_store_6 ?_
  refine j_callV (d' := 6) (argl := [(true, x2)]) (rk9 := 0) (st := []) F hno M_X11_checkCode q622 q5 q620 ⟨by decide, by decide⟩ (Nat.le_of_ble_eq_true rfl) (by decide) (ci := 12) rfl (by decide) (kl3.is g4) dX11_store_7 rfl h (fun z hz => c_X11_checkCode l F.ht G x0 x2 M2 z hz) (fun v5 M6 h kl7 => ?_)
  refine j_st (st' := []) rfl ?_
  refine j_aload_n F 0 rfl rfl dX11_store_10 ?_
  refine j_get F ft_X11_39 rfl (kl7.is (kl3.is g4)) dX11_store_11 ?_
  refine j_iload_n F 1 rfl rfl dX11_store_14 ?_
  obtain ⟨g11, h⟩ := gua h
  refine j_callV (d' := 1) (argl := [(true, x1)]) (rk9 := 2) (st := []) F hno M_X4_textOf q638 q639 q637 ⟨by decide, by decide⟩ (Nat.le_of_ble_eq_true rfl) (by decide) (ci := 5) rfl (by decide) g11 dX11_store_15 rfl h (fun z hz => c_X4_textOf l F.ht G (fd M6 12 0 x0) x1 M6 z hz) (fun v8 M9 h kl10 => ?_)
  refine j_st (st' := [(false, v8)]) rfl ?_
  refine j_astore_n F (lv' := [(3, (false, v8)), (0, (false, x0)), (1, (true, x1)), (2, (true, x2))]) rfl (by decide) rfl dX11_store_18 ?_
  refine j_aload_n F 1 rfl rfl dX11_store_19 ?_
  refine j_get F ft_X11_39 rfl (kl10.is (kl7.is (kl3.is g4))) dX11_store_20 ?_
  refine j_iload_n F 2 rfl rfl dX11_store_23 ?_
  obtain ⟨g15, h⟩ := gua h
  refine j_callV (d' := 1) (argl := [(true, x1)]) (rk9 := 1) (st := []) F hno M_X4_holderOf q456 q457 q641 ⟨by decide, by decide⟩ (Nat.le_of_ble_eq_true rfl) (by decide) (ci := 5) rfl (by decide) g15 dX11_store_24 rfl h (fun z hz => c_X4_holderOf l F.ht G (fd M9 12 0 x0) x1 M9 z hz) (fun v12 M13 h kl14 => ?_)
  refine j_st (st' := [(true, v12)]) rfl ?_
  refine j_iconst F dX11_store_27 ?_
  refine j_icmp_ne F 47 (by decide) dX11_store_28 h (fun h => ?_) (fun h => ?_)
  · skip
    obtain ⟨g16, h⟩ := gua h
    exact j_throw F hno (ex := 3) (text := "the file is open, or its text too long") rfl (by decide +kernel) q422 q69 (by decide +kernel) at_X11_78 (by decide +kernel) (by decide) (Nat.le_of_ble_eq_true rfl) rfl (by decide) g16 h dX11_store_47 dX11_store_50 dX11_store_51 dX11_store_53 dX11_store_56
  · skip
    refine j_aload_n F 0 rfl rfl dX11_store_31 ?_
    refine j_aload_n F 0 rfl rfl dX11_store_32 ?_
    obtain ⟨g20, h⟩ := gua h
    refine j_callV (d' := 0) (argl := []) (rk9 := 1) (st := [(false, v8)]) F hno M_X10_size q643 q644 q642 ⟨by decide, by decide⟩ (Nat.le_of_ble_eq_true rfl) (by decide) (ci := 11) rfl (by decide) g20 dX11_store_33 rfl h (fun z hz => c_X10_size l F.ht G v8 M13 z hz) (fun v17 M18 h kl19 => ?_)
    refine j_st (st' := [(true, v17), (false, v8)]) rfl ?_
    refine j_aload_n F 0 rfl rfl dX11_store_36 ?_
    refine j_callV (d' := 0) (argl := []) (rk9 := 1) (st := [(true, v17), (false, v8)]) F hno M_X10_size q643 q644 q642 ⟨by decide, by decide⟩ (Nat.le_of_ble_eq_true rfl) (by decide) (ci := 11) rfl (by decide) (kl19.is g20) dX11_store_37 rfl h (fun z hz => c_X10_size l F.ht G v8 M18 z hz) (fun v21 M22 h kl23 => ?_)
    refine j_st (st' := [(true, v21), (true, v17), (false, v8)]) rfl ?_
    refine j_iload_n F 3 rfl rfl dX11_store_40 ?_
    refine j_callV (d' := 1) (argl := [(true, v17), (true, v21), (true, x2)]) (rk9 := 1) (st := []) F hno M_X10_canReplace q647 q648 q646 ⟨by decide, by decide⟩ (Nat.le_of_ble_eq_true rfl) (by decide) (ci := 11) rfl (by decide) (kl23.is (kl19.is g20)) dX11_store_41 rfl h (fun z hz => c_X10_canReplace l F.ht G v8 v17 v21 x2 M22 z hz) (fun v24 M25 h kl26 => ?_)
    refine j_st (st' := [(true, v24)]) rfl ?_
    refine j_if_ne F 57 (by decide) dX11_store_44 h (fun h => ?_) (fun h => ?_)
    · skip
      refine j_aload_n F 0 rfl rfl dX11_store_57 ?_
      refine j_aload_n F 0 rfl rfl dX11_store_58 ?_
      refine j_callV (d' := 0) (argl := []) (rk9 := 1) (st := [(false, v8)]) F hno M_X10_size q643 q644 q642 ⟨by decide, by decide⟩ (Nat.le_of_ble_eq_true rfl) (by decide) (ci := 11) rfl (by decide) (kl26.is (kl23.is (kl19.is g20))) dX11_store_59 rfl h (fun z hz => c_X10_size l F.ht G v8 M25 z hz) (fun v27 M28 h kl29 => ?_)
      refine j_st (st' := [(true, v27), (false, v8)]) rfl ?_
      refine j_aload_n F 0 rfl rfl dX11_store_62 ?_
      refine j_callV (d' := 0) (argl := []) (rk9 := 1) (st := [(true, v27), (false, v8)]) F hno M_X10_size q643 q644 q642 ⟨by decide, by decide⟩ (Nat.le_of_ble_eq_true rfl) (by decide) (ci := 11) rfl (by decide) (kl29.is (kl26.is (kl23.is (kl19.is g20)))) dX11_store_63 rfl h (fun z hz => c_X10_size l F.ht G v8 M28 z hz) (fun v30 M31 h kl32 => ?_)
      refine j_st (st' := [(true, v30), (true, v27), (false, v8)]) rfl ?_
      refine j_iload_n F 3 rfl rfl dX11_store_66 ?_
      refine j_callV (d' := 1) (argl := [(true, v27), (true, v30), (true, x2)]) (rk9 := 0) (st := []) F hno M_X10_replace q655 q656 q654 ⟨by decide, by decide⟩ (Nat.le_of_ble_eq_true rfl) (by decide) (ci := 11) rfl (by decide) (kl32.is (kl29.is (kl26.is (kl23.is (kl19.is g20))))) dX11_store_67 rfl h (fun z hz => c_X10_replace l F.ht G v8 v27 v30 x2 M31 z hz) (fun v33 M34 h kl35 => ?_)
      refine j_st (st' := []) rfl ?_
      refine j_aload_n F 0 rfl rfl dX11_store_70 ?_
      refine j_callV (d' := 0) (argl := []) (rk9 := 1) (st := []) F hno M_X10_size q643 q644 q642 ⟨by decide, by decide⟩ (Nat.le_of_ble_eq_true rfl) (by decide) (ci := 11) rfl (by decide) (kl35.is (kl32.is (kl29.is (kl26.is (kl23.is (kl19.is g20)))))) dX11_store_71 rfl h (fun z hz => c_X10_size l F.ht G v8 M34 z hz) (fun v36 M37 h kl38 => ?_)
      refine j_st (st' := [(true, v36)]) rfl ?_
      exact j_iret F h dX11_store_74
    · skip
      obtain ⟨g39, h⟩ := gua h
      exact j_throw F hno (ex := 3) (text := "the file is open, or its text too long") rfl (by decide +kernel) q422 q69 (by decide +kernel) at_X11_78 (by decide +kernel) (by decide) (Nat.le_of_ble_eq_true rfl) rfl (by decide) g39 h dX11_store_47 dX11_store_50 dX11_store_51 dX11_store_53 dX11_store_56
theorem c_X11_store (l : Launch) (hl : l.stackTraces = false) (G : Gt) (x0 x1 x2 : Int) (M : Mo) (z : RS) (h : X11_store x0 x1 x2 M = some z) : CT l G yX11_store (cn yX11_store cX11_store 4 (some FieldType.int)) 7 [(false, x0), (true, x1), (true, x2)] M 1 z :=
  ctOf hl (by decide) (Nat.le_of_ble_eq_true rfl) (fun p e R s m args below meth c ρ F hno hnm => w_X11_store_0 F hno hnm x0 x1 x2 M h)
theorem dX11_server_0 : decode cX11_server 0 = .ok (.iload_n 1, 1) := by decide +kernel
theorem dX11_server_1 : decode cX11_server 1 = .ok (.iconst 1, 1) := by decide +kernel
theorem dX11_server_2 : decode cX11_server 2 = .ok (.if_icmp .lt 29, 3) := by decide +kernel
theorem dX11_server_31 : decode cX11_server 31 = .ok (.new 59, 3) := by decide +kernel
theorem dX11_server_34 : decode cX11_server 34 = .ok (.dup, 1) := by decide +kernel
theorem dX11_server_35 : decode cX11_server 35 = .ok (.ldc 111, 2) := by decide +kernel
theorem dX11_server_37 : decode cX11_server 37 = .ok (.invokespecial 63, 3) := by decide +kernel
theorem dX11_server_40 : decode cX11_server 40 = .ok (.athrow, 1) := by decide +kernel
theorem dX11_server_5 : decode cX11_server 5 = .ok (.iload_n 1, 1) := by decide +kernel
theorem dX11_server_6 : decode cX11_server 6 = .ok (.bipush 63, 2) := by decide +kernel
theorem dX11_server_8 : decode cX11_server 8 = .ok (.if_icmp .gt 23, 3) := by decide +kernel
theorem dX11_server_11 : decode cX11_server 11 = .ok (.iload_n 2, 1) := by decide +kernel
theorem dX11_server_12 : decode cX11_server 12 = .ok (.iconst 1, 1) := by decide +kernel
theorem dX11_server_13 : decode cX11_server 13 = .ok (.if_icmp .lt 18, 3) := by decide +kernel
theorem dX11_server_16 : decode cX11_server 16 = .ok (.iload_n 2, 1) := by decide +kernel
theorem dX11_server_17 : decode cX11_server 17 = .ok (.bipush 7, 2) := by decide +kernel
theorem dX11_server_19 : decode cX11_server 19 = .ok (.if_icmp .gt 12, 3) := by decide +kernel
theorem dX11_server_22 : decode cX11_server 22 = .ok (.iload_n 3, 1) := by decide +kernel
theorem dX11_server_23 : decode cX11_server 23 = .ok (.ifCond .lt 8, 3) := by decide +kernel
theorem dX11_server_26 : decode cX11_server 26 = .ok (.iload_n 3, 1) := by decide +kernel
theorem dX11_server_27 : decode cX11_server 27 = .ok (.iconst 2, 1) := by decide +kernel
theorem dX11_server_28 : decode cX11_server 28 = .ok (.if_icmp .le 13, 3) := by decide +kernel
theorem dX11_server_41 : decode cX11_server 41 = .ok (.aload_n 0, 1) := by decide +kernel
theorem dX11_server_42 : decode cX11_server 42 = .ok (.getfield 43, 3) := by decide +kernel
set_option maxRecDepth 100000 in
theorem q447 : Cond.methodLink RX11 113 yJx4a65c_size_8abf5 ∈ GT := gt 447 (by decide +kernel) (by decide +kernel)
theorem dX11_server_45 : decode cX11_server 45 = .ok (.invokevirtual 113, 3) := by decide +kernel
theorem dX11_server_48 : decode cX11_server 48 = .ok (.istore 4, 2) := by decide +kernel
theorem dX11_server_50 : decode cX11_server 50 = .ok (.iload 4, 2) := by decide +kernel
theorem dX11_server_52 : decode cX11_server 52 = .ok (.iconst 3, 1) := by decide +kernel
theorem dX11_server_53 : decode cX11_server 53 = .ok (.if_icmp .ge 23, 3) := by decide +kernel
theorem dX11_server_76 : decode cX11_server 76 = .ok (.new 74, 3) := by decide +kernel
theorem dX11_server_79 : decode cX11_server 79 = .ok (.dup, 1) := by decide +kernel
theorem dX11_server_80 : decode cX11_server 80 = .ok (.ldc 120, 2) := by decide +kernel
theorem dX11_server_82 : decode cX11_server 82 = .ok (.invokespecial 78, 3) := by decide +kernel
theorem dX11_server_85 : decode cX11_server 85 = .ok (.athrow, 1) := by decide +kernel
theorem dX11_server_56 : decode cX11_server 56 = .ok (.aload_n 0, 1) := by decide +kernel
theorem dX11_server_57 : decode cX11_server 57 = .ok (.getfield 39, 3) := by decide +kernel
set_option maxRecDepth 100000 in
theorem q454 : Cond.code yX4_isAnyHeld cX4_isAnyHeld 2 (some FieldType.boolean) ∈ GT := gt 454 (rfl) (by decide +kernel)
theorem M_X4_isAnyHeld : MY yX4_isAnyHeld cX4_isAnyHeld 2 (some FieldType.boolean) 0 := ⟨q454, q55, by decide +kernel, by decide +kernel⟩
set_option maxRecDepth 100000 in
theorem q452 : Cond.instanceMethod yX4_isAnyHeld ∈ GT := gt 452 (by decide +kernel) (by decide +kernel)
set_option maxRecDepth 100000 in
theorem q453 : Cond.selects RX4 yX4_isAnyHeld yX4_isAnyHeld ∈ GT := gt 453 (by decide +kernel) (by decide +kernel)
set_option maxRecDepth 100000 in
theorem q451 : Cond.methodLink RX11 114 yX4_isAnyHeld ∈ GT := gt 451 (by decide +kernel) (by decide +kernel)
theorem dX11_server_60 : decode cX11_server 60 = .ok (.invokevirtual 114, 3) := by decide +kernel
theorem dX11_server_63 : decode cX11_server 63 = .ok (.ifCond .ne 13, 3) := by decide +kernel
theorem dX11_server_66 : decode cX11_server 66 = .ok (.aload_n 0, 1) := by decide +kernel
theorem dX11_server_67 : decode cX11_server 67 = .ok (.getfield 35, 3) := by decide +kernel
set_option maxRecDepth 100000 in
theorem q466 : Cond.code yX7_hasCopies cX7_hasCopies 2 (some FieldType.boolean) ∈ GT := gt 466 (rfl) (by decide +kernel)
theorem M_X7_hasCopies : MY yX7_hasCopies cX7_hasCopies 2 (some FieldType.boolean) 0 := ⟨q466, q63, by decide +kernel, by decide +kernel⟩
set_option maxRecDepth 100000 in
theorem q464 : Cond.instanceMethod yX7_hasCopies ∈ GT := gt 464 (by decide +kernel) (by decide +kernel)
set_option maxRecDepth 100000 in
theorem q465 : Cond.selects RX7 yX7_hasCopies yX7_hasCopies ∈ GT := gt 465 (by decide +kernel) (by decide +kernel)
set_option maxRecDepth 100000 in
theorem q463 : Cond.methodLink RX11 117 yX7_hasCopies ∈ GT := gt 463 (by decide +kernel) (by decide +kernel)
theorem dX11_server_70 : decode cX11_server 70 = .ok (.invokevirtual 117, 3) := by decide +kernel
theorem dX11_server_73 : decode cX11_server 73 = .ok (.ifCond .eq 13, 3) := by decide +kernel
theorem dfX9 : ∀ j, j < 9 → defaultValue (tyX9 j) = vp_V ((lay 10).map (fun b => if b then Value.int 0 else .null)) j := by decide +kernel
set_option maxRecDepth 100000 in
theorem q472 : Cond.classLink RX11 122 RX9 ∈ GT := gt 472 (by decide +kernel) (by decide +kernel)
set_option maxRecDepth 100000 in
theorem q473 : Cond.instantiable RX9 9 ∈ GT := gt 473 (by decide +kernel) (by decide +kernel)
theorem dX11_server_86 : decode cX11_server 86 = .ok (.new 122, 3) := by decide +kernel
theorem dX11_server_89 : decode cX11_server 89 = .ok (.dup, 1) := by decide +kernel
theorem dX11_server_90 : decode cX11_server 90 = .ok (.iload_n 1, 1) := by decide +kernel
theorem dX11_server_91 : decode cX11_server 91 = .ok (.iload_n 2, 1) := by decide +kernel
theorem dX11_server_92 : decode cX11_server 92 = .ok (.iload_n 3, 1) := by decide +kernel
theorem dX11_server_93 : decode cX11_server 93 = .ok (.aload_n 0, 1) := by decide +kernel
theorem dX11_server_94 : decode cX11_server 94 = .ok (.getfield 39, 3) := by decide +kernel
set_option maxRecDepth 100000 in
theorem q476 : Cond.code yX9_init cX9_init 6 none ∈ GT := gt 476 (rfl) (by decide +kernel)
theorem M_X9_init : MY yX9_init cX9_init 6 none 4 := ⟨q476, q72, by decide +kernel, by decide +kernel⟩
set_option maxRecDepth 100000 in
theorem q475 : Cond.instanceMethod yX9_init ∈ GT := gt 475 (by decide +kernel) (by decide +kernel)
set_option maxRecDepth 100000 in
theorem q474 : Cond.methodLink RX11 124 yX9_init ∈ GT := gt 474 (by decide +kernel) (by decide +kernel)
theorem dX11_server_97 : decode cX11_server 97 = .ok (.invokespecial 124, 3) := by decide +kernel
theorem dX11_server_100 : decode cX11_server 100 = .ok (.astore 5, 2) := by decide +kernel
theorem dX11_server_102 : decode cX11_server 102 = .ok (.aload_n 0, 1) := by decide +kernel
theorem dX11_server_103 : decode cX11_server 103 = .ok (.getfield 43, 3) := by decide +kernel
theorem dX11_server_106 : decode cX11_server 106 = .ok (.aload 5, 2) := by decide +kernel
set_option maxRecDepth 100000 in
theorem q514 : Cond.methodLink RX11 127 yJx4a65c_add_9ea2d ∈ GT := gt 514 (by decide +kernel) (by decide +kernel)
theorem dX11_server_108 : decode cX11_server 108 = .ok (.invokevirtual 127, 3) := by decide +kernel
theorem dX11_server_111 : decode cX11_server 111 = .ok (.pop, 1) := by decide +kernel
theorem dX11_server_112 : decode cX11_server 112 = .ok (.iload 4, 2) := by decide +kernel
theorem dX11_server_114 : decode cX11_server 114 = .ok (.ireturn, 1) := by decide +kernel
set_option maxHeartbeats 4000000 in
set_option maxRecDepth 100000 in
theorem w_X11_server_0 {p : Program} {l : Launch} {e : Env} {R : Room} {s : State} {m : MethodId} {args : Array Value} {below : List Frame} {meth : Method} {c : Code} {G : Gt} {ρ0 : Int → Nat} {M0 : Mo} {res : RS} (F : Fx p l R s m args meth c cX11_server 6 RX11 G M0 7 (some FieldType.int)) (hno : ∀ x ∈ c.exceptionTable.toList, False) (hnm : meth.name = yX11_server.name) (x0 x1 x2 x3 : Int) (M : Mo) (h : X11_server x0 x1 x2 x3 M = some res) : J p l e R s m args below meth c 6 G ρ0 M0 1 res M 0 [(0, (false, x0)), (1, (true, x1)), (2, (true, x2)), (3, (true, x3))] [] := by
  unfold X11_server at h
  refine j_iload_n F 1 rfl rfl dX11_server_0 ?_
  refine j_iconst F dX11_server_1 ?_
  refine j_icmp_lt F 31 (by decide) dX11_server_2 h (fun h => ?_) (fun h => ?_)
  · skip
    obtain ⟨g1, h⟩ := gua h
    exact j_throw F hno (ex := 2) (text := "no such kinds, languages or style") rfl (by decide +kernel) q346 q68 (by decide +kernel) at_X11_63 (by decide +kernel) (by decide) (Nat.le_of_ble_eq_true rfl) rfl (by decide) g1 h dX11_server_31 dX11_server_34 dX11_server_35 dX11_server_37 dX11_server_40
  · skip
    refine j_iload_n F 1 rfl rfl dX11_server_5 ?_
    refine j_bipush F (by decide) dX11_server_6 ?_
    refine j_icmp_gt F 31 (by decide) dX11_server_8 h (fun h => ?_) (fun h => ?_)
    · skip
      obtain ⟨g2, h⟩ := gua h
      exact j_throw F hno (ex := 2) (text := "no such kinds, languages or style") rfl (by decide +kernel) q346 q68 (by decide +kernel) at_X11_63 (by decide +kernel) (by decide) (Nat.le_of_ble_eq_true rfl) rfl (by decide) g2 h dX11_server_31 dX11_server_34 dX11_server_35 dX11_server_37 dX11_server_40
    · skip
      refine j_iload_n F 2 rfl rfl dX11_server_11 ?_
      refine j_iconst F dX11_server_12 ?_
      refine j_icmp_lt F 31 (by decide) dX11_server_13 h (fun h => ?_) (fun h => ?_)
      · skip
        obtain ⟨g3, h⟩ := gua h
        exact j_throw F hno (ex := 2) (text := "no such kinds, languages or style") rfl (by decide +kernel) q346 q68 (by decide +kernel) at_X11_63 (by decide +kernel) (by decide) (Nat.le_of_ble_eq_true rfl) rfl (by decide) g3 h dX11_server_31 dX11_server_34 dX11_server_35 dX11_server_37 dX11_server_40
      · skip
        refine j_iload_n F 2 rfl rfl dX11_server_16 ?_
        refine j_bipush F (by decide) dX11_server_17 ?_
        refine j_icmp_gt F 31 (by decide) dX11_server_19 h (fun h => ?_) (fun h => ?_)
        · skip
          obtain ⟨g4, h⟩ := gua h
          exact j_throw F hno (ex := 2) (text := "no such kinds, languages or style") rfl (by decide +kernel) q346 q68 (by decide +kernel) at_X11_63 (by decide +kernel) (by decide) (Nat.le_of_ble_eq_true rfl) rfl (by decide) g4 h dX11_server_31 dX11_server_34 dX11_server_35 dX11_server_37 dX11_server_40
        · skip
          refine j_iload_n F 3 rfl rfl dX11_server_22 ?_
          refine j_if_lt F 31 (by decide) dX11_server_23 h (fun h => ?_) (fun h => ?_)
          · skip
            obtain ⟨g5, h⟩ := gua h
            exact j_throw F hno (ex := 2) (text := "no such kinds, languages or style") rfl (by decide +kernel) q346 q68 (by decide +kernel) at_X11_63 (by decide +kernel) (by decide) (Nat.le_of_ble_eq_true rfl) rfl (by decide) g5 h dX11_server_31 dX11_server_34 dX11_server_35 dX11_server_37 dX11_server_40
          · skip
            refine j_iload_n F 3 rfl rfl dX11_server_26 ?_
            refine j_iconst F dX11_server_27 ?_
            refine j_icmp_le F 41 (by decide) dX11_server_28 h (fun h => ?_) (fun h => ?_)
            · skip
              refine j_aload_n F 0 rfl rfl dX11_server_41 ?_
              obtain ⟨g6, h⟩ := gua h
              refine j_get F ft_X11_43 rfl g6 dX11_server_42 ?_
              obtain ⟨g10, h⟩ := gua h
              refine j_callV (d' := 0) (argl := []) (rk9 := 1) (st := []) F hno M_Jx4a65c_size_8abf5 q448 q449 q447 ⟨by decide, by decide⟩ (Nat.le_of_ble_eq_true rfl) (by decide) (ci := 0) rfl (by decide) g10 dX11_server_45 rfl h (fun z hz => c_Jx4a65c_size_8abf5 l F.ht G (fd M 12 3 x0) M z hz) (fun v7 M8 h kl9 => ?_)
              refine j_st (st' := [(true, v7)]) rfl ?_
              refine j_istore F (lv' := [(4, (true, v7)), (0, (false, x0)), (1, (true, x1)), (2, (true, x2)), (3, (true, x3))]) (by decide) rfl dX11_server_48 ?_
              refine j_iload F 0 rfl dX11_server_50 ?_
              refine j_iconst F dX11_server_52 ?_
              refine j_icmp_ge F 76 (by decide) dX11_server_53 h (fun h => ?_) (fun h => ?_)
              · skip
                obtain ⟨g11, h⟩ := gua h
                exact j_throw F hno (ex := 3) (text := "too many servers, or a document is open") rfl (by decide +kernel) q422 q69 (by decide +kernel) at_X11_78 (by decide +kernel) (by decide) (Nat.le_of_ble_eq_true rfl) rfl (by decide) g11 h dX11_server_76 dX11_server_79 dX11_server_80 dX11_server_82 dX11_server_85
              · skip
                refine j_aload_n F 1 rfl rfl dX11_server_56 ?_
                refine j_get F ft_X11_39 rfl (kl9.is g6) dX11_server_57 ?_
                obtain ⟨g15, h⟩ := gua h
                refine j_callV (d' := 2) (argl := []) (rk9 := 1) (st := []) F hno M_X4_isAnyHeld q452 q453 q451 ⟨by decide, by decide⟩ (Nat.le_of_ble_eq_true rfl) (by decide) (ci := 5) rfl (by decide) g15 dX11_server_60 rfl h (fun z hz => c_X4_isAnyHeld l F.ht G (fd M8 12 0 x0) M8 z hz) (fun v12 M13 h kl14 => ?_)
                refine j_st (st' := [(true, v12)]) rfl ?_
                refine j_if_ne F 76 (by decide) dX11_server_63 h (fun h => ?_) (fun h => ?_)
                · skip
                  obtain ⟨g16, h⟩ := gua h
                  exact j_throw F hno (ex := 3) (text := "too many servers, or a document is open") rfl (by decide +kernel) q422 q69 (by decide +kernel) at_X11_78 (by decide +kernel) (by decide) (Nat.le_of_ble_eq_true rfl) rfl (by decide) g16 h dX11_server_76 dX11_server_79 dX11_server_80 dX11_server_82 dX11_server_85
                · skip
                  refine j_aload_n F 1 rfl rfl dX11_server_66 ?_
                  refine j_get F ft_X11_35 rfl (kl14.is (kl9.is g6)) dX11_server_67 ?_
                  obtain ⟨g20, h⟩ := gua h
                  refine j_callV (d' := 1) (argl := []) (rk9 := 1) (st := []) F hno M_X7_hasCopies q464 q465 q463 ⟨by decide, by decide⟩ (Nat.le_of_ble_eq_true rfl) (by decide) (ci := 8) rfl (by decide) g20 dX11_server_70 rfl h (fun z hz => c_X7_hasCopies l F.ht G (fd M13 12 4 x0) M13 z hz) (fun v17 M18 h kl19 => ?_)
                  refine j_st (st' := [(true, v17)]) rfl ?_
                  refine j_if_eq F 86 (by decide) dX11_server_73 h (fun h => ?_) (fun h => ?_)
                  · skip
                    obtain ⟨g21, h⟩ := gua h
                    refine j_new (ci := 10) F inGX9 tyX9 tyX9_ok q472 q473 q72 rfl (by decide) dfX9 g21 dX11_server_86 (fun kl22 => ?_)
                    obtain ⟨M23, hM23⟩ : ∃ Z, Z = nO M18 10 9 := ⟨_, rfl⟩
                    have g24 : kd M23 (nid M18) = 11 := by rw [hM23]; exact kd_nO
                    rw [← hM23] at kl22 ⊢
                    replace h := pt_as h hM23
                    refine j_dup F dX11_server_89 ?_
                    refine j_iload_n F 2 rfl rfl dX11_server_90 ?_
                    refine j_iload_n F 3 rfl rfl dX11_server_91 ?_
                    refine j_iload_n F 4 rfl rfl dX11_server_92 ?_
                    refine j_aload_n F 1 rfl rfl dX11_server_93 ?_
                    refine j_get F ft_X11_39 rfl (kl22.is (kl19.is (kl14.is (kl9.is g6)))) dX11_server_94 ?_
                    refine j_callI (d' := 4) (argl := [(true, x1), (true, x2), (true, x3), (false, (fd M23 12 0 x0))]) (rk9 := 0) (st := [(false, (nid M18))]) F M_X9_init q475 rfl q474 ⟨by decide, by decide⟩ (Nat.le_of_ble_eq_true rfl) (by decide) (by rw [g24]; decide) dX11_server_97 rfl h (fun z hz => c_X9_init l F.ht G (nid M18) x1 x2 x3 (fd M23 12 0 x0) M23 z hz) (fun v25 M26 h kl27 => ?_)
                    refine j_st (st' := [(false, (nid M18))]) rfl ?_
                    refine j_astore F (lv' := [(5, (false, (nid M18))), (4, (true, v7)), (0, (false, x0)), (1, (true, x1)), (2, (true, x2)), (3, (true, x3))]) (by decide) rfl dX11_server_100 ?_
                    refine j_aload_n F 2 rfl rfl dX11_server_102 ?_
                    refine j_get F ft_X11_43 rfl (kl27.is (kl22.is (kl19.is (kl14.is (kl9.is g6))))) dX11_server_103 ?_
                    refine j_aload F 0 rfl dX11_server_106 ?_
                    obtain ⟨g31, h⟩ := gua h
                    refine j_callV (d' := 6) (argl := [(false, (nid M18))]) (rk9 := 1) (st := []) F hno M_Jx4a65c_add_9ea2d q515 q516 q514 ⟨by decide, by decide⟩ (Nat.le_of_ble_eq_true rfl) (by decide) (ci := 0) rfl (by decide) g31 dX11_server_108 rfl h (fun z hz => c_Jx4a65c_add_9ea2d l F.ht G (fd M26 12 3 x0) (nid M18) M26 z hz) (fun v28 M29 h kl30 => ?_)
                    refine j_st (st' := [(true, v28)]) rfl ?_
                    refine j_pop F dX11_server_111 ?_
                    refine j_iload F 1 rfl dX11_server_112 ?_
                    exact j_iret F h dX11_server_114
                  · skip
                    obtain ⟨g32, h⟩ := gua h
                    exact j_throw F hno (ex := 3) (text := "too many servers, or a document is open") rfl (by decide +kernel) q422 q69 (by decide +kernel) at_X11_78 (by decide +kernel) (by decide) (Nat.le_of_ble_eq_true rfl) rfl (by decide) g32 h dX11_server_76 dX11_server_79 dX11_server_80 dX11_server_82 dX11_server_85
            · skip
              obtain ⟨g33, h⟩ := gua h
              exact j_throw F hno (ex := 2) (text := "no such kinds, languages or style") rfl (by decide +kernel) q346 q68 (by decide +kernel) at_X11_63 (by decide +kernel) (by decide) (Nat.le_of_ble_eq_true rfl) rfl (by decide) g33 h dX11_server_31 dX11_server_34 dX11_server_35 dX11_server_37 dX11_server_40
theorem c_X11_server (l : Launch) (hl : l.stackTraces = false) (G : Gt) (x0 x1 x2 x3 : Int) (M : Mo) (z : RS) (h : X11_server x0 x1 x2 x3 M = some z) : CT l G yX11_server (cn yX11_server cX11_server 6 (some FieldType.int)) 7 [(false, x0), (true, x1), (true, x2), (true, x3)] M 1 z :=
  ctOf hl (by decide) (Nat.le_of_ble_eq_true rfl) (fun p e R s m args below meth c ρ F hno hnm => w_X11_server_0 F hno hnm x0 x1 x2 x3 M h)
theorem dX11_name_0 : decode cX11_name 0 = .ok (.aload_n 0, 1) := by decide +kernel
theorem dX11_name_1 : decode cX11_name 1 = .ok (.iload_n 1, 1) := by decide +kernel
theorem dX11_name_2 : decode cX11_name 2 = .ok (.invokevirtual 83, 3) := by decide +kernel
theorem dX11_name_5 : decode cX11_name 5 = .ok (.aload_n 0, 1) := by decide +kernel
theorem dX11_name_6 : decode cX11_name 6 = .ok (.getfield 39, 3) := by decide +kernel
theorem dX11_name_9 : decode cX11_name 9 = .ok (.iload_n 1, 1) := by decide +kernel
set_option maxRecDepth 100000 in
theorem q602 : Cond.methodLink RX11 130 yX4_nameOf ∈ GT := gt 602 (by decide +kernel) (by decide +kernel)
theorem dX11_name_10 : decode cX11_name 10 = .ok (.invokevirtual 130, 3) := by decide +kernel
theorem dX11_name_13 : decode cX11_name 13 = .ok (.ireturn, 1) := by decide +kernel
set_option maxHeartbeats 4000000 in
set_option maxRecDepth 100000 in
theorem w_X11_name_0 {p : Program} {l : Launch} {e : Env} {R : Room} {s : State} {m : MethodId} {args : Array Value} {below : List Frame} {meth : Method} {c : Code} {G : Gt} {ρ0 : Int → Nat} {M0 : Mo} {res : RS} (F : Fx p l R s m args meth c cX11_name 2 RX11 G M0 7 (some FieldType.char)) (hno : ∀ x ∈ c.exceptionTable.toList, False) (hnm : meth.name = yX11_name.name) (x0 x1 : Int) (M : Mo) (h : X11_name x0 x1 M = some res) : J p l e R s m args below meth c 2 G ρ0 M0 1 res M 0 [(0, (false, x0)), (1, (true, x1))] [] := by
  unfold X11_name at h
  refine j_aload_n F 0 rfl rfl dX11_name_0 ?_
  refine j_iload_n F 1 rfl rfl dX11_name_1 ?_
  obtain ⟨g4, h⟩ := gua h
  refine j_callV (d' := 6) (argl := [(true, x1)]) (rk9 := 0) (st := []) F hno M_X11_checkFile q583 q4 q581 ⟨by decide, by decide⟩ (Nat.le_of_ble_eq_true rfl) (by decide) (ci := 12) rfl (by decide) g4 dX11_name_2 rfl h (fun z hz => c_X11_checkFile l F.ht G x0 x1 M z hz) (fun v1 M2 h kl3 => ?_)
  refine j_st (st' := []) rfl ?_
  refine j_aload_n F 0 rfl rfl dX11_name_5 ?_
  refine j_get F ft_X11_39 rfl (kl3.is g4) dX11_name_6 ?_
  refine j_iload_n F 1 rfl rfl dX11_name_9 ?_
  obtain ⟨g8, h⟩ := gua h
  refine j_callV (d' := 1) (argl := [(true, x1)]) (rk9 := 1) (st := []) F hno M_X4_nameOf q603 q604 q602 ⟨by decide, by decide⟩ (Nat.le_of_ble_eq_true rfl) (by decide) (ci := 5) rfl (by decide) g8 dX11_name_10 rfl h (fun z hz => c_X4_nameOf l F.ht G (fd M2 12 0 x0) x1 M2 z hz) (fun v5 M6 h kl7 => ?_)
  refine j_st (st' := [(true, v5)]) rfl ?_
  obtain ⟨g9, h⟩ := gua h
  exact j_zret F (nz_c g9) h dX11_name_13
theorem c_X11_name (l : Launch) (hl : l.stackTraces = false) (G : Gt) (x0 x1 : Int) (M : Mo) (z : RS) (h : X11_name x0 x1 M = some z) : CT l G yX11_name (cn yX11_name cX11_name 2 (some FieldType.char)) 7 [(false, x0), (true, x1)] M 1 z :=
  ctOf hl (by decide) (Nat.le_of_ble_eq_true rfl) (fun p e R s m args below meth c ρ F hno hnm => w_X11_name_0 F hno hnm x0 x1 M h)
theorem dX11_editorAt_0 : decode cX11_editorAt 0 = .ok (.iload_n 1, 1) := by decide +kernel
theorem dX11_editorAt_1 : decode cX11_editorAt 1 = .ok (.ifCond .lt 12, 3) := by decide +kernel
theorem dX11_editorAt_13 : decode cX11_editorAt 13 = .ok (.new 254, 3) := by decide +kernel
theorem dX11_editorAt_16 : decode cX11_editorAt 16 = .ok (.dup, 1) := by decide +kernel
theorem dX11_editorAt_17 : decode cX11_editorAt 17 = .ok (.ldc_w 358, 3) := by decide +kernel
theorem dX11_editorAt_20 : decode cX11_editorAt 20 = .ok (.invokespecial 258, 3) := by decide +kernel
theorem dX11_editorAt_23 : decode cX11_editorAt 23 = .ok (.athrow, 1) := by decide +kernel
theorem dX11_editorAt_4 : decode cX11_editorAt 4 = .ok (.iload_n 1, 1) := by decide +kernel
theorem dX11_editorAt_5 : decode cX11_editorAt 5 = .ok (.aload_n 0, 1) := by decide +kernel
theorem dX11_editorAt_6 : decode cX11_editorAt 6 = .ok (.getfield 51, 3) := by decide +kernel
theorem dX11_editorAt_9 : decode cX11_editorAt 9 = .ok (.arraylength, 1) := by decide +kernel
theorem dX11_editorAt_10 : decode cX11_editorAt 10 = .ok (.if_icmp .lt 14, 3) := by decide +kernel
theorem dX11_editorAt_24 : decode cX11_editorAt 24 = .ok (.aload_n 0, 1) := by decide +kernel
theorem dX11_editorAt_25 : decode cX11_editorAt 25 = .ok (.getfield 51, 3) := by decide +kernel
theorem dX11_editorAt_28 : decode cX11_editorAt 28 = .ok (.iload_n 1, 1) := by decide +kernel
theorem dX11_editorAt_29 : decode cX11_editorAt 29 = .ok (.aaload, 1) := by decide +kernel
theorem dX11_editorAt_30 : decode cX11_editorAt 30 = .ok (.areturn, 1) := by decide +kernel
set_option maxHeartbeats 4000000 in
set_option maxRecDepth 100000 in
theorem w_X11_editorAt_0 {p : Program} {l : Launch} {e : Env} {R : Room} {s : State} {m : MethodId} {args : Array Value} {below : List Frame} {meth : Method} {c : Code} {G : Gt} {ρ0 : Int → Nat} {M0 : Mo} {res : RS} (F : Fx p l R s m args meth c cX11_editorAt 2 RX11 G M0 6 (some (FieldType.object "ToolPlex$Editor"))) (hno : ∀ x ∈ c.exceptionTable.toList, False) (hnm : meth.name = yX11_editorAt.name) (x0 x1 : Int) (M : Mo) (h : X11_editorAt x0 x1 M = some res) : J p l e R s m args below meth c 2 G ρ0 M0 2 res M 0 [(0, (false, x0)), (1, (true, x1))] [] := by
  unfold X11_editorAt at h
  refine j_iload_n F 1 rfl rfl dX11_editorAt_0 ?_
  refine j_if_lt F 13 (by decide) dX11_editorAt_1 h (fun h => ?_) (fun h => ?_)
  · skip
    obtain ⟨g1, h⟩ := gua h
    exact j_throwW F hno (ex := 1) (text := "no such editor") rfl (by decide +kernel) q586 q70 (by decide +kernel) at_X11_258 (by decide +kernel) (by decide) (Nat.le_of_ble_eq_true rfl) rfl (by decide) g1 h dX11_editorAt_13 dX11_editorAt_16 dX11_editorAt_17 dX11_editorAt_20 dX11_editorAt_23
  · skip
    refine j_iload_n F 1 rfl rfl dX11_editorAt_4 ?_
    refine j_aload_n F 0 rfl rfl dX11_editorAt_5 ?_
    obtain ⟨g2, h⟩ := gua h
    refine j_get F ft_X11_51 rfl g2 dX11_editorAt_6 ?_
    obtain ⟨g3, h⟩ := gua h
    refine j_alen F g3 dX11_editorAt_9 ?_
    refine j_icmp_lt F 24 (by decide) dX11_editorAt_10 h (fun h => ?_) (fun h => ?_)
    · skip
      refine j_aload_n F 0 rfl rfl dX11_editorAt_24 ?_
      refine j_get F ft_X11_51 rfl g2 dX11_editorAt_25 ?_
      refine j_iload_n F 1 rfl rfl dX11_editorAt_28 ?_
      obtain ⟨g4, h⟩ := gua h
      obtain ⟨g5, h⟩ := gua h
      refine j_aaload F 15 8 g4 (by decide) rfl g5 dX11_editorAt_29 ?_
      exact j_aret F (Or.inl ⟨_, rfl⟩) h dX11_editorAt_30
    · skip
      obtain ⟨g6, h⟩ := gua h
      exact j_throwW F hno (ex := 1) (text := "no such editor") rfl (by decide +kernel) q586 q70 (by decide +kernel) at_X11_258 (by decide +kernel) (by decide) (Nat.le_of_ble_eq_true rfl) rfl (by decide) g6 h dX11_editorAt_13 dX11_editorAt_16 dX11_editorAt_17 dX11_editorAt_20 dX11_editorAt_23
theorem c_X11_editorAt (l : Launch) (hl : l.stackTraces = false) (G : Gt) (x0 x1 : Int) (M : Mo) (z : RS) (h : X11_editorAt x0 x1 M = some z) : CT l G yX11_editorAt (cn yX11_editorAt cX11_editorAt 2 (some (FieldType.object "ToolPlex$Editor"))) 6 [(false, x0), (true, x1)] M 2 z :=
  ctOf hl (by decide) (Nat.le_of_ble_eq_true rfl) (fun p e R s m args below meth c ρ F hno hnm => w_X11_editorAt_0 F hno hnm x0 x1 M h)
theorem dX11_open_0 : decode cX11_open 0 = .ok (.aload_n 0, 1) := by decide +kernel
theorem dX11_open_1 : decode cX11_open 1 = .ok (.iload_n 1, 1) := by decide +kernel
set_option maxRecDepth 100000 in
theorem q669 : Cond.code yX11_editorAt cX11_editorAt 2 (some (FieldType.object "ToolPlex$Editor")) ∈ GT := gt 669 (rfl) (by decide +kernel)
theorem M_X11_editorAt : MY yX11_editorAt cX11_editorAt 2 (some (FieldType.object "ToolPlex$Editor")) 1 := ⟨q669, q53, by decide +kernel, by decide +kernel⟩
set_option maxRecDepth 100000 in
theorem q668 : Cond.instanceMethod yX11_editorAt ∈ GT := gt 668 (by decide +kernel) (by decide +kernel)
set_option maxRecDepth 100000 in
theorem q6 : Cond.selects RX11 yX11_editorAt yX11_editorAt ∈ GT := gt 6 (by decide +kernel) (by decide +kernel)
set_option maxRecDepth 100000 in
theorem q666 : Cond.methodLink RX11 134 yX11_editorAt ∈ GT := gt 666 (by decide +kernel) (by decide +kernel)
theorem dX11_open_2 : decode cX11_open 2 = .ok (.invokevirtual 134, 3) := by decide +kernel
theorem dX11_open_5 : decode cX11_open 5 = .ok (.astore_n 3, 1) := by decide +kernel
theorem dX11_open_6 : decode cX11_open 6 = .ok (.aload_n 0, 1) := by decide +kernel
theorem dX11_open_7 : decode cX11_open 7 = .ok (.iload_n 2, 1) := by decide +kernel
theorem dX11_open_8 : decode cX11_open 8 = .ok (.invokevirtual 83, 3) := by decide +kernel
theorem dX11_open_11 : decode cX11_open 11 = .ok (.aload_n 0, 1) := by decide +kernel
theorem dX11_open_12 : decode cX11_open 12 = .ok (.getfield 39, 3) := by decide +kernel
theorem dX11_open_15 : decode cX11_open 15 = .ok (.iload_n 2, 1) := by decide +kernel
theorem dX11_open_16 : decode cX11_open 16 = .ok (.invokevirtual 94, 3) := by decide +kernel
theorem dX11_open_19 : decode cX11_open 19 = .ok (.iconst (-1), 1) := by decide +kernel
theorem dX11_open_20 : decode cX11_open 20 = .ok (.if_icmp .eq 13, 3) := by decide +kernel
theorem dX11_open_33 : decode cX11_open 33 = .ok (.aload_n 3, 1) := by decide +kernel
theorem dX11_open_34 : decode cX11_open 34 = .ok (.iload_n 2, 1) := by decide +kernel
set_option maxRecDepth 100000 in
theorem q675 : Cond.code yX3_begin cX3_begin 4 (some FieldType.int) ∈ GT := gt 675 (rfl) (by decide +kernel)
theorem M_X3_begin : MY yX3_begin cX3_begin 4 (some FieldType.int) 1 := ⟨q675, q60, by decide +kernel, by decide +kernel⟩
set_option maxRecDepth 100000 in
theorem q673 : Cond.instanceMethod yX3_begin ∈ GT := gt 673 (by decide +kernel) (by decide +kernel)
set_option maxRecDepth 100000 in
theorem q674 : Cond.selects RX3 yX3_begin yX3_begin ∈ GT := gt 674 (by decide +kernel) (by decide +kernel)
set_option maxRecDepth 100000 in
theorem q672 : Cond.methodLink RX11 140 yX3_begin ∈ GT := gt 672 (by decide +kernel) (by decide +kernel)
theorem dX11_open_35 : decode cX11_open 35 = .ok (.invokevirtual 140, 3) := by decide +kernel
theorem dX11_open_38 : decode cX11_open 38 = .ok (.ireturn, 1) := by decide +kernel
theorem dX11_open_23 : decode cX11_open 23 = .ok (.new 74, 3) := by decide +kernel
theorem dX11_open_26 : decode cX11_open 26 = .ok (.dup, 1) := by decide +kernel
theorem dX11_open_27 : decode cX11_open 27 = .ok (.ldc 138, 2) := by decide +kernel
theorem dX11_open_29 : decode cX11_open 29 = .ok (.invokespecial 78, 3) := by decide +kernel
theorem dX11_open_32 : decode cX11_open 32 = .ok (.athrow, 1) := by decide +kernel
set_option maxHeartbeats 4000000 in
set_option maxRecDepth 100000 in
theorem w_X11_open_0 {p : Program} {l : Launch} {e : Env} {R : Room} {s : State} {m : MethodId} {args : Array Value} {below : List Frame} {meth : Method} {c : Code} {G : Gt} {ρ0 : Int → Nat} {M0 : Mo} {res : RS} (F : Fx p l R s m args meth c cX11_open 4 RX11 G M0 10 (some FieldType.int)) (hno : ∀ x ∈ c.exceptionTable.toList, False) (hnm : meth.name = yX11_open.name) (x0 x1 x2 : Int) (M : Mo) (h : X11_open x0 x1 x2 M = some res) : J p l e R s m args below meth c 4 G ρ0 M0 1 res M 0 [(0, (false, x0)), (1, (true, x1)), (2, (true, x2))] [] := by
  unfold X11_open at h
  refine j_aload_n F 0 rfl rfl dX11_open_0 ?_
  refine j_iload_n F 1 rfl rfl dX11_open_1 ?_
  obtain ⟨g4, h⟩ := gua h
  refine j_callV (d' := 6) (argl := [(true, x1)]) (rk9 := 2) (st := []) F hno M_X11_editorAt q668 q6 q666 ⟨by decide, by decide⟩ (Nat.le_of_ble_eq_true rfl) (by decide) (ci := 12) rfl (by decide) g4 dX11_open_2 rfl h (fun z hz => c_X11_editorAt l F.ht G x0 x1 M z hz) (fun v1 M2 h kl3 => ?_)
  refine j_st (st' := [(false, v1)]) rfl ?_
  refine j_astore_n F (lv' := [(3, (false, v1)), (0, (false, x0)), (1, (true, x1)), (2, (true, x2))]) rfl (by decide) rfl dX11_open_5 ?_
  refine j_aload_n F 1 rfl rfl dX11_open_6 ?_
  refine j_iload_n F 3 rfl rfl dX11_open_7 ?_
  refine j_callV (d' := 6) (argl := [(true, x2)]) (rk9 := 0) (st := []) F hno M_X11_checkFile q583 q4 q581 ⟨by decide, by decide⟩ (Nat.le_of_ble_eq_true rfl) (by decide) (ci := 12) rfl (by decide) (kl3.is g4) dX11_open_8 rfl h (fun z hz => c_X11_checkFile l F.ht G x0 x2 M2 z hz) (fun v5 M6 h kl7 => ?_)
  refine j_st (st' := []) rfl ?_
  refine j_aload_n F 1 rfl rfl dX11_open_11 ?_
  refine j_get F ft_X11_39 rfl (kl7.is (kl3.is g4)) dX11_open_12 ?_
  refine j_iload_n F 3 rfl rfl dX11_open_15 ?_
  obtain ⟨g11, h⟩ := gua h
  refine j_callV (d' := 1) (argl := [(true, x2)]) (rk9 := 1) (st := []) F hno M_X4_holderOf q456 q457 q641 ⟨by decide, by decide⟩ (Nat.le_of_ble_eq_true rfl) (by decide) (ci := 5) rfl (by decide) g11 dX11_open_16 rfl h (fun z hz => c_X4_holderOf l F.ht G (fd M6 12 0 x0) x2 M6 z hz) (fun v8 M9 h kl10 => ?_)
  refine j_st (st' := [(true, v8)]) rfl ?_
  refine j_iconst F dX11_open_19 ?_
  refine j_icmp_eq F 33 (by decide) dX11_open_20 h (fun h => ?_) (fun h => ?_)
  · skip
    refine j_aload_n F 0 rfl rfl dX11_open_33 ?_
    refine j_iload_n F 3 rfl rfl dX11_open_34 ?_
    obtain ⟨g15, h⟩ := gua h
    refine j_callV (d' := 9) (argl := [(true, x2)]) (rk9 := 1) (st := []) F hno M_X3_begin q673 q674 q672 ⟨by decide, by decide⟩ (Nat.le_of_ble_eq_true rfl) (by decide) (ci := 4) rfl (by decide) g15 dX11_open_35 rfl h (fun z hz => c_X3_begin l F.ht G v1 x2 M9 z hz) (fun v12 M13 h kl14 => ?_)
    refine j_st (st' := [(true, v12)]) rfl ?_
    exact j_iret F h dX11_open_38
  · skip
    obtain ⟨g16, h⟩ := gua h
    exact j_throw F hno (ex := 3) (text := "an editor has the file open") rfl (by decide +kernel) q422 q69 (by decide +kernel) at_X11_78 (by decide +kernel) (by decide) (Nat.le_of_ble_eq_true rfl) rfl (by decide) g16 h dX11_open_23 dX11_open_26 dX11_open_27 dX11_open_29 dX11_open_32
theorem c_X11_open (l : Launch) (hl : l.stackTraces = false) (G : Gt) (x0 x1 x2 : Int) (M : Mo) (z : RS) (h : X11_open x0 x1 x2 M = some z) : CT l G yX11_open (cn yX11_open cX11_open 4 (some FieldType.int)) 10 [(false, x0), (true, x1), (true, x2)] M 1 z :=
  ctOf hl (by decide) (Nat.le_of_ble_eq_true rfl) (fun p e R s m args below meth c ρ F hno hnm => w_X11_open_0 F hno hnm x0 x1 x2 M h)
theorem dX11_checkOpen_0 : decode cX11_checkOpen 0 = .ok (.aload_n 1, 1) := by decide +kernel
theorem dX11_checkOpen_1 : decode cX11_checkOpen 1 = .ok (.iload_n 2, 1) := by decide +kernel
set_option maxRecDepth 100000 in
theorem q835 : Cond.methodLink RX11 154 yX3_copyOf ∈ GT := gt 835 (by decide +kernel) (by decide +kernel)
theorem dX11_checkOpen_2 : decode cX11_checkOpen 2 = .ok (.invokevirtual 154, 3) := by decide +kernel
set_option maxRecDepth 100000 in
theorem q836 : Cond.methodLink RX11 269 yX2_isHere ∈ GT := gt 836 (by decide +kernel) (by decide +kernel)
theorem dX11_checkOpen_5 : decode cX11_checkOpen 5 = .ok (.invokevirtual 269, 3) := by decide +kernel
theorem dX11_checkOpen_8 : decode cX11_checkOpen 8 = .ok (.ifCond .ne 14, 3) := by decide +kernel
theorem dX11_checkOpen_22 : decode cX11_checkOpen 22 = .ok (.return_, 1) := by decide +kernel
theorem dX11_checkOpen_11 : decode cX11_checkOpen 11 = .ok (.new 74, 3) := by decide +kernel
theorem dX11_checkOpen_14 : decode cX11_checkOpen 14 = .ok (.dup, 1) := by decide +kernel
theorem dX11_checkOpen_15 : decode cX11_checkOpen 15 = .ok (.ldc_w 381, 3) := by decide +kernel
theorem dX11_checkOpen_18 : decode cX11_checkOpen 18 = .ok (.invokespecial 78, 3) := by decide +kernel
theorem dX11_checkOpen_21 : decode cX11_checkOpen 21 = .ok (.athrow, 1) := by decide +kernel
set_option maxHeartbeats 4000000 in
set_option maxRecDepth 100000 in
theorem w_X11_checkOpen_0 {p : Program} {l : Launch} {e : Env} {R : Room} {s : State} {m : MethodId} {args : Array Value} {below : List Frame} {meth : Method} {c : Code} {G : Gt} {ρ0 : Int → Nat} {M0 : Mo} {res : RS} (F : Fx p l R s m args meth c cX11_checkOpen 3 RX11 G M0 6 none) (hno : ∀ x ∈ c.exceptionTable.toList, False) (hnm : meth.name = yX11_checkOpen.name) (x0 x1 x2 : Int) (M : Mo) (h : X11_checkOpen x0 x1 x2 M = some res) : J p l e R s m args below meth c 3 G ρ0 M0 0 res M 0 [(0, (false, x0)), (1, (false, x1)), (2, (true, x2))] [] := by
  unfold X11_checkOpen at h
  refine j_aload_n F 1 rfl rfl dX11_checkOpen_0 ?_
  refine j_iload_n F 2 rfl rfl dX11_checkOpen_1 ?_
  obtain ⟨g4, h⟩ := gua h
  refine j_callV (d' := 0) (argl := [(true, x2)]) (rk9 := 2) (st := []) F hno M_X3_copyOf q689 q690 q835 ⟨by decide, by decide⟩ (Nat.le_of_ble_eq_true rfl) (by decide) (ci := 4) rfl (by decide) g4 dX11_checkOpen_2 rfl h (fun z hz => c_X3_copyOf l F.ht G x1 x2 M z hz) (fun v1 M2 h kl3 => ?_)
  refine j_st (st' := [(false, v1)]) rfl ?_
  obtain ⟨g8, h⟩ := gua h
  refine j_callV (d' := 0) (argl := []) (rk9 := 1) (st := []) F hno M_X2_isHere q468 q469 q836 ⟨by decide, by decide⟩ (Nat.le_of_ble_eq_true rfl) (by decide) (ci := 3) rfl (by decide) g8 dX11_checkOpen_5 rfl h (fun z hz => c_X2_isHere l F.ht G v1 M2 z hz) (fun v5 M6 h kl7 => ?_)
  refine j_st (st' := [(true, v5)]) rfl ?_
  refine j_if_ne F 22 (by decide) dX11_checkOpen_8 h (fun h => ?_) (fun h => ?_)
  · skip
    exact j_vret F (v := 0) h dX11_checkOpen_22
  · skip
    obtain ⟨g9, h⟩ := gua h
    exact j_throwW F hno (ex := 3) (text := "the editor does not have the file open") rfl (by decide +kernel) q422 q69 (by decide +kernel) at_X11_78 (by decide +kernel) (by decide) (Nat.le_of_ble_eq_true rfl) rfl (by decide) g9 h dX11_checkOpen_11 dX11_checkOpen_14 dX11_checkOpen_15 dX11_checkOpen_18 dX11_checkOpen_21
theorem c_X11_checkOpen (l : Launch) (hl : l.stackTraces = false) (G : Gt) (x0 x1 x2 : Int) (M : Mo) (z : RS) (h : X11_checkOpen x0 x1 x2 M = some z) : CT l G yX11_checkOpen (cn yX11_checkOpen cX11_checkOpen 3 none) 6 [(false, x0), (false, x1), (true, x2)] M 0 z :=
  ctOf hl (by decide) (Nat.le_of_ble_eq_true rfl) (fun p e R s m args below meth c ρ F hno hnm => w_X11_checkOpen_0 F hno hnm x0 x1 x2 M h)
theorem dX11_close_0 : decode cX11_close 0 = .ok (.aload_n 0, 1) := by decide +kernel
theorem dX11_close_1 : decode cX11_close 1 = .ok (.iload_n 1, 1) := by decide +kernel
theorem dX11_close_2 : decode cX11_close 2 = .ok (.invokevirtual 134, 3) := by decide +kernel
theorem dX11_close_5 : decode cX11_close 5 = .ok (.astore_n 3, 1) := by decide +kernel
theorem dX11_close_6 : decode cX11_close 6 = .ok (.aload_n 0, 1) := by decide +kernel
theorem dX11_close_7 : decode cX11_close 7 = .ok (.iload_n 2, 1) := by decide +kernel
theorem dX11_close_8 : decode cX11_close 8 = .ok (.invokevirtual 83, 3) := by decide +kernel
theorem dX11_close_11 : decode cX11_close 11 = .ok (.aload_n 0, 1) := by decide +kernel
theorem dX11_close_12 : decode cX11_close 12 = .ok (.aload_n 3, 1) := by decide +kernel
theorem dX11_close_13 : decode cX11_close 13 = .ok (.iload_n 2, 1) := by decide +kernel
set_option maxRecDepth 100000 in
theorem q834 : Cond.code yX11_checkOpen cX11_checkOpen 3 none ∈ GT := gt 834 (rfl) (by decide +kernel)
theorem M_X11_checkOpen : MY yX11_checkOpen cX11_checkOpen 3 none 2 := ⟨q834, q53, by decide +kernel, by decide +kernel⟩
set_option maxRecDepth 100000 in
theorem q833 : Cond.instanceMethod yX11_checkOpen ∈ GT := gt 833 (by decide +kernel) (by decide +kernel)
set_option maxRecDepth 100000 in
theorem q8 : Cond.selects RX11 yX11_checkOpen yX11_checkOpen ∈ GT := gt 8 (by decide +kernel) (by decide +kernel)
set_option maxRecDepth 100000 in
theorem q831 : Cond.methodLink RX11 143 yX11_checkOpen ∈ GT := gt 831 (by decide +kernel) (by decide +kernel)
theorem dX11_close_14 : decode cX11_close 14 = .ok (.invokevirtual 143, 3) := by decide +kernel
theorem dX11_close_17 : decode cX11_close 17 = .ok (.aload_n 3, 1) := by decide +kernel
theorem dX11_close_18 : decode cX11_close 18 = .ok (.iload_n 2, 1) := by decide +kernel
set_option maxRecDepth 100000 in
theorem q841 : Cond.code yX3_finish cX3_finish 5 none ∈ GT := gt 841 (rfl) (by decide +kernel)
theorem M_X3_finish : MY yX3_finish cX3_finish 5 none 1 := ⟨q841, q60, by decide +kernel, by decide +kernel⟩
set_option maxRecDepth 100000 in
theorem q839 : Cond.instanceMethod yX3_finish ∈ GT := gt 839 (by decide +kernel) (by decide +kernel)
set_option maxRecDepth 100000 in
theorem q840 : Cond.selects RX3 yX3_finish yX3_finish ∈ GT := gt 840 (by decide +kernel) (by decide +kernel)
set_option maxRecDepth 100000 in
theorem q838 : Cond.methodLink RX11 147 yX3_finish ∈ GT := gt 838 (by decide +kernel) (by decide +kernel)
theorem dX11_close_19 : decode cX11_close 19 = .ok (.invokevirtual 147, 3) := by decide +kernel
theorem dX11_close_22 : decode cX11_close 22 = .ok (.return_, 1) := by decide +kernel
set_option maxHeartbeats 4000000 in
set_option maxRecDepth 100000 in
theorem w_X11_close_0 {p : Program} {l : Launch} {e : Env} {R : Room} {s : State} {m : MethodId} {args : Array Value} {below : List Frame} {meth : Method} {c : Code} {G : Gt} {ρ0 : Int → Nat} {M0 : Mo} {res : RS} (F : Fx p l R s m args meth c cX11_close 4 RX11 G M0 10 none) (hno : ∀ x ∈ c.exceptionTable.toList, False) (hnm : meth.name = yX11_close.name) (x0 x1 x2 : Int) (M : Mo) (h : X11_close x0 x1 x2 M = some res) : J p l e R s m args below meth c 4 G ρ0 M0 0 res M 0 [(0, (false, x0)), (1, (true, x1)), (2, (true, x2))] [] := by
  unfold X11_close at h
  refine j_aload_n F 0 rfl rfl dX11_close_0 ?_
  refine j_iload_n F 1 rfl rfl dX11_close_1 ?_
  obtain ⟨g4, h⟩ := gua h
  refine j_callV (d' := 6) (argl := [(true, x1)]) (rk9 := 2) (st := []) F hno M_X11_editorAt q668 q6 q666 ⟨by decide, by decide⟩ (Nat.le_of_ble_eq_true rfl) (by decide) (ci := 12) rfl (by decide) g4 dX11_close_2 rfl h (fun z hz => c_X11_editorAt l F.ht G x0 x1 M z hz) (fun v1 M2 h kl3 => ?_)
  refine j_st (st' := [(false, v1)]) rfl ?_
  refine j_astore_n F (lv' := [(3, (false, v1)), (0, (false, x0)), (1, (true, x1)), (2, (true, x2))]) rfl (by decide) rfl dX11_close_5 ?_
  refine j_aload_n F 1 rfl rfl dX11_close_6 ?_
  refine j_iload_n F 3 rfl rfl dX11_close_7 ?_
  refine j_callV (d' := 6) (argl := [(true, x2)]) (rk9 := 0) (st := []) F hno M_X11_checkFile q583 q4 q581 ⟨by decide, by decide⟩ (Nat.le_of_ble_eq_true rfl) (by decide) (ci := 12) rfl (by decide) (kl3.is g4) dX11_close_8 rfl h (fun z hz => c_X11_checkFile l F.ht G x0 x2 M2 z hz) (fun v5 M6 h kl7 => ?_)
  refine j_st (st' := []) rfl ?_
  refine j_aload_n F 1 rfl rfl dX11_close_11 ?_
  refine j_aload_n F 0 rfl rfl dX11_close_12 ?_
  refine j_iload_n F 3 rfl rfl dX11_close_13 ?_
  refine j_callV (d' := 6) (argl := [(false, v1), (true, x2)]) (rk9 := 0) (st := []) F hno M_X11_checkOpen q833 q8 q831 ⟨by decide, by decide⟩ (Nat.le_of_ble_eq_true rfl) (by decide) (ci := 12) rfl (by decide) (kl7.is (kl3.is g4)) dX11_close_14 rfl h (fun z hz => c_X11_checkOpen l F.ht G x0 v1 x2 M6 z hz) (fun v8 M9 h kl10 => ?_)
  refine j_st (st' := []) rfl ?_
  refine j_aload_n F 0 rfl rfl dX11_close_17 ?_
  refine j_iload_n F 3 rfl rfl dX11_close_18 ?_
  obtain ⟨g14, h⟩ := gua h
  refine j_callV (d' := 9) (argl := [(true, x2)]) (rk9 := 0) (st := []) F hno M_X3_finish q839 q840 q838 ⟨by decide, by decide⟩ (Nat.le_of_ble_eq_true rfl) (by decide) (ci := 4) rfl (by decide) g14 dX11_close_19 rfl h (fun z hz => c_X3_finish l F.ht G v1 x2 M9 z hz) (fun v11 M12 h kl13 => ?_)
  refine j_st (st' := []) rfl ?_
  exact j_vret F (v := 0) h dX11_close_22
theorem c_X11_close (l : Launch) (hl : l.stackTraces = false) (G : Gt) (x0 x1 x2 : Int) (M : Mo) (z : RS) (h : X11_close x0 x1 x2 M = some z) : CT l G yX11_close (cn yX11_close cX11_close 4 none) 10 [(false, x0), (true, x1), (true, x2)] M 0 z :=
  ctOf hl (by decide) (Nat.le_of_ble_eq_true rfl) (fun p e R s m args below meth c ρ F hno hnm => w_X11_close_0 F hno hnm x0 x1 x2 M h)
theorem dX11_checkPosition_0 : decode cX11_checkPosition 0 = .ok (.iload_n 1, 1) := by decide +kernel
theorem dX11_checkPosition_1 : decode cX11_checkPosition 1 = .ok (.ifCond .lt 21, 3) := by decide +kernel
theorem dX11_checkPosition_22 : decode cX11_checkPosition 22 = .ok (.new 59, 3) := by decide +kernel
theorem dX11_checkPosition_25 : decode cX11_checkPosition 25 = .ok (.dup, 1) := by decide +kernel
theorem dX11_checkPosition_26 : decode cX11_checkPosition 26 = .ok (.ldc_w 379, 3) := by decide +kernel
theorem dX11_checkPosition_29 : decode cX11_checkPosition 29 = .ok (.invokespecial 63, 3) := by decide +kernel
theorem dX11_checkPosition_32 : decode cX11_checkPosition 32 = .ok (.athrow, 1) := by decide +kernel
theorem dX11_checkPosition_4 : decode cX11_checkPosition 4 = .ok (.iload_n 1, 1) := by decide +kernel
theorem dX11_checkPosition_5 : decode cX11_checkPosition 5 = .ok (.sipush 1000, 3) := by decide +kernel
theorem dX11_checkPosition_8 : decode cX11_checkPosition 8 = .ok (.if_icmp .gt 14, 3) := by decide +kernel
theorem dX11_checkPosition_11 : decode cX11_checkPosition 11 = .ok (.iload_n 2, 1) := by decide +kernel
theorem dX11_checkPosition_12 : decode cX11_checkPosition 12 = .ok (.ifCond .lt 10, 3) := by decide +kernel
theorem dX11_checkPosition_15 : decode cX11_checkPosition 15 = .ok (.iload_n 2, 1) := by decide +kernel
theorem dX11_checkPosition_16 : decode cX11_checkPosition 16 = .ok (.sipush 1000, 3) := by decide +kernel
theorem dX11_checkPosition_19 : decode cX11_checkPosition 19 = .ok (.if_icmp .le 14, 3) := by decide +kernel
theorem dX11_checkPosition_33 : decode cX11_checkPosition 33 = .ok (.return_, 1) := by decide +kernel
set_option maxHeartbeats 4000000 in
set_option maxRecDepth 100000 in
theorem w_X11_checkPosition_0 {p : Program} {l : Launch} {e : Env} {R : Room} {s : State} {m : MethodId} {args : Array Value} {below : List Frame} {meth : Method} {c : Code} {G : Gt} {ρ0 : Int → Nat} {M0 : Mo} {res : RS} (F : Fx p l R s m args meth c cX11_checkPosition 3 RX11 G M0 6 none) (hno : ∀ x ∈ c.exceptionTable.toList, False) (hnm : meth.name = yX11_checkPosition.name) (x0 x1 x2 : Int) (M : Mo) (h : X11_checkPosition x0 x1 x2 M = some res) : J p l e R s m args below meth c 3 G ρ0 M0 0 res M 0 [(0, (false, x0)), (1, (true, x1)), (2, (true, x2))] [] := by
  unfold X11_checkPosition at h
  refine j_iload_n F 1 rfl rfl dX11_checkPosition_0 ?_
  refine j_if_lt F 22 (by decide) dX11_checkPosition_1 h (fun h => ?_) (fun h => ?_)
  · skip
    obtain ⟨g1, h⟩ := gua h
    exact j_throwW F hno (ex := 2) (text := "no such position") rfl (by decide +kernel) q346 q68 (by decide +kernel) at_X11_63 (by decide +kernel) (by decide) (Nat.le_of_ble_eq_true rfl) rfl (by decide) g1 h dX11_checkPosition_22 dX11_checkPosition_25 dX11_checkPosition_26 dX11_checkPosition_29 dX11_checkPosition_32
  · skip
    refine j_iload_n F 1 rfl rfl dX11_checkPosition_4 ?_
    refine j_sipush F (by decide) dX11_checkPosition_5 ?_
    refine j_icmp_gt F 22 (by decide) dX11_checkPosition_8 h (fun h => ?_) (fun h => ?_)
    · skip
      obtain ⟨g2, h⟩ := gua h
      exact j_throwW F hno (ex := 2) (text := "no such position") rfl (by decide +kernel) q346 q68 (by decide +kernel) at_X11_63 (by decide +kernel) (by decide) (Nat.le_of_ble_eq_true rfl) rfl (by decide) g2 h dX11_checkPosition_22 dX11_checkPosition_25 dX11_checkPosition_26 dX11_checkPosition_29 dX11_checkPosition_32
    · skip
      refine j_iload_n F 2 rfl rfl dX11_checkPosition_11 ?_
      refine j_if_lt F 22 (by decide) dX11_checkPosition_12 h (fun h => ?_) (fun h => ?_)
      · skip
        obtain ⟨g3, h⟩ := gua h
        exact j_throwW F hno (ex := 2) (text := "no such position") rfl (by decide +kernel) q346 q68 (by decide +kernel) at_X11_63 (by decide +kernel) (by decide) (Nat.le_of_ble_eq_true rfl) rfl (by decide) g3 h dX11_checkPosition_22 dX11_checkPosition_25 dX11_checkPosition_26 dX11_checkPosition_29 dX11_checkPosition_32
      · skip
        refine j_iload_n F 2 rfl rfl dX11_checkPosition_15 ?_
        refine j_sipush F (by decide) dX11_checkPosition_16 ?_
        refine j_icmp_le F 33 (by decide) dX11_checkPosition_19 h (fun h => ?_) (fun h => ?_)
        · skip
          exact j_vret F (v := 0) h dX11_checkPosition_33
        · skip
          obtain ⟨g4, h⟩ := gua h
          exact j_throwW F hno (ex := 2) (text := "no such position") rfl (by decide +kernel) q346 q68 (by decide +kernel) at_X11_63 (by decide +kernel) (by decide) (Nat.le_of_ble_eq_true rfl) rfl (by decide) g4 h dX11_checkPosition_22 dX11_checkPosition_25 dX11_checkPosition_26 dX11_checkPosition_29 dX11_checkPosition_32
theorem c_X11_checkPosition (l : Launch) (hl : l.stackTraces = false) (G : Gt) (x0 x1 x2 : Int) (M : Mo) (z : RS) (h : X11_checkPosition x0 x1 x2 M = some z) : CT l G yX11_checkPosition (cn yX11_checkPosition cX11_checkPosition 3 none) 6 [(false, x0), (true, x1), (true, x2)] M 0 z :=
  ctOf hl (by decide) (Nat.le_of_ble_eq_true rfl) (fun p e R s m args below meth c ρ F hno hnm => w_X11_checkPosition_0 F hno hnm x0 x1 x2 M h)
theorem dX11_change_0 : decode cX11_change 0 = .ok (.aload_n 0, 1) := by decide +kernel
theorem dX11_change_1 : decode cX11_change 1 = .ok (.iload_n 1, 1) := by decide +kernel
theorem dX11_change_2 : decode cX11_change 2 = .ok (.invokevirtual 134, 3) := by decide +kernel
theorem dX11_change_5 : decode cX11_change 5 = .ok (.astore 8, 2) := by decide +kernel
theorem dX11_change_7 : decode cX11_change 7 = .ok (.aload_n 0, 1) := by decide +kernel
theorem dX11_change_8 : decode cX11_change 8 = .ok (.iload_n 2, 1) := by decide +kernel
theorem dX11_change_9 : decode cX11_change 9 = .ok (.invokevirtual 83, 3) := by decide +kernel
theorem dX11_change_12 : decode cX11_change 12 = .ok (.aload_n 0, 1) := by decide +kernel
theorem dX11_change_13 : decode cX11_change 13 = .ok (.iload_n 3, 1) := by decide +kernel
theorem dX11_change_14 : decode cX11_change 14 = .ok (.iload 4, 2) := by decide +kernel
set_option maxRecDepth 100000 in
theorem q889 : Cond.code yX11_checkPosition cX11_checkPosition 3 none ∈ GT := gt 889 (rfl) (by decide +kernel)
theorem M_X11_checkPosition : MY yX11_checkPosition cX11_checkPosition 3 none 2 := ⟨q889, q53, by decide +kernel, by decide +kernel⟩
set_option maxRecDepth 100000 in
theorem q888 : Cond.instanceMethod yX11_checkPosition ∈ GT := gt 888 (by decide +kernel) (by decide +kernel)
set_option maxRecDepth 100000 in
theorem q10 : Cond.selects RX11 yX11_checkPosition yX11_checkPosition ∈ GT := gt 10 (by decide +kernel) (by decide +kernel)
set_option maxRecDepth 100000 in
theorem q886 : Cond.methodLink RX11 150 yX11_checkPosition ∈ GT := gt 886 (by decide +kernel) (by decide +kernel)
theorem dX11_change_16 : decode cX11_change 16 = .ok (.invokevirtual 150, 3) := by decide +kernel
theorem dX11_change_19 : decode cX11_change 19 = .ok (.aload_n 0, 1) := by decide +kernel
theorem dX11_change_20 : decode cX11_change 20 = .ok (.iload 5, 2) := by decide +kernel
theorem dX11_change_22 : decode cX11_change 22 = .ok (.iload 6, 2) := by decide +kernel
theorem dX11_change_24 : decode cX11_change 24 = .ok (.invokevirtual 150, 3) := by decide +kernel
theorem dX11_change_27 : decode cX11_change 27 = .ok (.iload 7, 2) := by decide +kernel
theorem dX11_change_29 : decode cX11_change 29 = .ok (.iconst (-1), 1) := by decide +kernel
theorem dX11_change_30 : decode cX11_change 30 = .ok (.if_icmp .eq 9, 3) := by decide +kernel
theorem dX11_change_33 : decode cX11_change 33 = .ok (.aload_n 0, 1) := by decide +kernel
theorem dX11_change_34 : decode cX11_change 34 = .ok (.iload 7, 2) := by decide +kernel
theorem dX11_change_36 : decode cX11_change 36 = .ok (.invokevirtual 87, 3) := by decide +kernel
theorem dX11_change_39 : decode cX11_change 39 = .ok (.aload_n 0, 1) := by decide +kernel
theorem dX11_change_40 : decode cX11_change 40 = .ok (.aload 8, 2) := by decide +kernel
theorem dX11_change_42 : decode cX11_change 42 = .ok (.iload_n 2, 1) := by decide +kernel
theorem dX11_change_43 : decode cX11_change 43 = .ok (.invokevirtual 143, 3) := by decide +kernel
theorem dX11_change_46 : decode cX11_change 46 = .ok (.aload 8, 2) := by decide +kernel
theorem dX11_change_48 : decode cX11_change 48 = .ok (.iload_n 2, 1) := by decide +kernel
theorem dX11_change_49 : decode cX11_change 49 = .ok (.invokevirtual 154, 3) := by decide +kernel
set_option maxRecDepth 100000 in
theorem q194 : Cond.fieldLink RX11 158 "ToolPlex$Copy" "text" "LToolPlex$Text;" ∈ GT := gt 194 (by decide +kernel) (by decide +kernel)
theorem ft_X11_158 : FT RX11 158 RX2 3 RX2 TX2 7 0 := ⟨rfl, by decide, by decide, q194, Or.inl rfl, inGX2⟩
theorem dX11_change_52 : decode cX11_change 52 = .ok (.getfield 158, 3) := by decide +kernel
theorem dX11_change_55 : decode cX11_change 55 = .ok (.astore 9, 2) := by decide +kernel
theorem dX11_change_57 : decode cX11_change 57 = .ok (.aload 9, 2) := by decide +kernel
theorem dX11_change_59 : decode cX11_change 59 = .ok (.aload 9, 2) := by decide +kernel
theorem dX11_change_61 : decode cX11_change 61 = .ok (.iload_n 3, 1) := by decide +kernel
theorem dX11_change_62 : decode cX11_change 62 = .ok (.iload 4, 2) := by decide +kernel
set_option maxRecDepth 100000 in
theorem q891 : Cond.methodLink RX11 163 yX10_placeOf ∈ GT := gt 891 (by decide +kernel) (by decide +kernel)
theorem dX11_change_64 : decode cX11_change 64 = .ok (.invokevirtual 163, 3) := by decide +kernel
theorem dX11_change_67 : decode cX11_change 67 = .ok (.aload 9, 2) := by decide +kernel
theorem dX11_change_69 : decode cX11_change 69 = .ok (.iload 5, 2) := by decide +kernel
theorem dX11_change_71 : decode cX11_change 71 = .ok (.iload 6, 2) := by decide +kernel
theorem dX11_change_73 : decode cX11_change 73 = .ok (.invokevirtual 163, 3) := by decide +kernel
theorem dX11_change_76 : decode cX11_change 76 = .ok (.iload 7, 2) := by decide +kernel
theorem dX11_change_78 : decode cX11_change 78 = .ok (.invokevirtual 101, 3) := by decide +kernel
theorem dX11_change_81 : decode cX11_change 81 = .ok (.ifCond .ne 13, 3) := by decide +kernel
set_option maxRecDepth 100000 in
theorem q907 : Cond.classLink RX11 168 RX6 ∈ GT := gt 907 (by decide +kernel) (by decide +kernel)
theorem dX11_change_94 : decode cX11_change 94 = .ok (.new 168, 3) := by decide +kernel
theorem dX11_change_97 : decode cX11_change 97 = .ok (.dup, 1) := by decide +kernel
theorem dX11_change_98 : decode cX11_change 98 = .ok (.iconst 1, 1) := by decide +kernel
theorem dX11_change_99 : decode cX11_change 99 = .ok (.iload_n 2, 1) := by decide +kernel
set_option maxRecDepth 100000 in
theorem q908 : Cond.methodLink RX11 170 yX6_init ∈ GT := gt 908 (by decide +kernel) (by decide +kernel)
theorem dX11_change_100 : decode cX11_change 100 = .ok (.invokespecial 170, 3) := by decide +kernel
theorem dX11_change_103 : decode cX11_change 103 = .ok (.astore 10, 2) := by decide +kernel
theorem dX11_change_105 : decode cX11_change 105 = .ok (.aload 10, 2) := by decide +kernel
theorem dX11_change_107 : decode cX11_change 107 = .ok (.iload_n 3, 1) := by decide +kernel
set_option maxRecDepth 100000 in
theorem q740 : Cond.fieldLink RX11 172 "ToolPlex$Message" "line" "I" ∈ GT := gt 740 (by decide +kernel) (by decide +kernel)
theorem ft_X11_172 : FT RX11 172 RX6 7 RX6 TX6 17 6 := ⟨rfl, by decide, by decide, q740, Or.inl rfl, inGX6⟩
theorem dX11_change_108 : decode cX11_change 108 = .ok (.putfield 172, 3) := by decide +kernel
theorem dX11_change_111 : decode cX11_change 111 = .ok (.aload 10, 2) := by decide +kernel
theorem dX11_change_113 : decode cX11_change 113 = .ok (.iload 4, 2) := by decide +kernel
set_option maxRecDepth 100000 in
theorem q745 : Cond.fieldLink RX11 176 "ToolPlex$Message" "unit" "I" ∈ GT := gt 745 (by decide +kernel) (by decide +kernel)
theorem ft_X11_176 : FT RX11 176 RX6 7 RX6 TX6 17 7 := ⟨rfl, by decide, by decide, q745, Or.inl rfl, inGX6⟩
theorem dX11_change_115 : decode cX11_change 115 = .ok (.putfield 176, 3) := by decide +kernel
theorem dX11_change_118 : decode cX11_change 118 = .ok (.aload 10, 2) := by decide +kernel
theorem dX11_change_120 : decode cX11_change 120 = .ok (.iload 5, 2) := by decide +kernel
set_option maxRecDepth 100000 in
theorem q749 : Cond.fieldLink RX11 179 "ToolPlex$Message" "toLine" "I" ∈ GT := gt 749 (by decide +kernel) (by decide +kernel)
theorem ft_X11_179 : FT RX11 179 RX6 7 RX6 TX6 17 8 := ⟨rfl, by decide, by decide, q749, Or.inl rfl, inGX6⟩
theorem dX11_change_122 : decode cX11_change 122 = .ok (.putfield 179, 3) := by decide +kernel
theorem dX11_change_125 : decode cX11_change 125 = .ok (.aload 10, 2) := by decide +kernel
theorem dX11_change_127 : decode cX11_change 127 = .ok (.iload 6, 2) := by decide +kernel
set_option maxRecDepth 100000 in
theorem q752 : Cond.fieldLink RX11 182 "ToolPlex$Message" "toUnit" "I" ∈ GT := gt 752 (by decide +kernel) (by decide +kernel)
theorem ft_X11_182 : FT RX11 182 RX6 7 RX6 TX6 17 9 := ⟨rfl, by decide, by decide, q752, Or.inl rfl, inGX6⟩
theorem dX11_change_129 : decode cX11_change 129 = .ok (.putfield 182, 3) := by decide +kernel
theorem dX11_change_132 : decode cX11_change 132 = .ok (.aload 10, 2) := by decide +kernel
theorem dX11_change_134 : decode cX11_change 134 = .ok (.iload 7, 2) := by decide +kernel
set_option maxRecDepth 100000 in
theorem q756 : Cond.fieldLink RX11 185 "ToolPlex$Message" "code" "I" ∈ GT := gt 756 (by decide +kernel) (by decide +kernel)
theorem ft_X11_185 : FT RX11 185 RX6 7 RX6 TX6 17 10 := ⟨rfl, by decide, by decide, q756, Or.inl rfl, inGX6⟩
theorem dX11_change_136 : decode cX11_change 136 = .ok (.putfield 185, 3) := by decide +kernel
theorem dX11_change_139 : decode cX11_change 139 = .ok (.aload 8, 2) := by decide +kernel
theorem dX11_change_141 : decode cX11_change 141 = .ok (.aload 10, 2) := by decide +kernel
set_option maxRecDepth 100000 in
theorem q909 : Cond.methodLink RX11 188 yX3_alter ∈ GT := gt 909 (by decide +kernel) (by decide +kernel)
theorem dX11_change_143 : decode cX11_change 143 = .ok (.invokevirtual 188, 3) := by decide +kernel
theorem dX11_change_146 : decode cX11_change 146 = .ok (.ireturn, 1) := by decide +kernel
theorem dX11_change_84 : decode cX11_change 84 = .ok (.new 74, 3) := by decide +kernel
theorem dX11_change_87 : decode cX11_change 87 = .ok (.dup, 1) := by decide +kernel
theorem dX11_change_88 : decode cX11_change 88 = .ok (.ldc 166, 2) := by decide +kernel
theorem dX11_change_90 : decode cX11_change 90 = .ok (.invokespecial 78, 3) := by decide +kernel
theorem dX11_change_93 : decode cX11_change 93 = .ok (.athrow, 1) := by decide +kernel
set_option maxHeartbeats 4000000 in
set_option maxRecDepth 100000 in
theorem w_X11_change_39 {p : Program} {l : Launch} {e : Env} {R : Room} {s : State} {m : MethodId} {args : Array Value} {below : List Frame} {meth : Method} {c : Code} {G : Gt} {ρ0 : Int → Nat} {M0 : Mo} {res : RS} (F : Fx p l R s m args meth c cX11_change 11 RX11 G M0 10 (some FieldType.int)) (hno : ∀ x ∈ c.exceptionTable.toList, False) (hnm : meth.name = yX11_change.name) (x0 x2 x3 x4 x5 x6 x7 x8 : Int) (M : Mo) (h : X11_change_39 x0 x2 x3 x4 x5 x6 x7 x8 M = some res) : J p l e R s m args below meth c 11 G ρ0 M0 1 res M 39 [(0, (false, x0)), (2, (true, x2)), (3, (true, x3)), (4, (true, x4)), (5, (true, x5)), (6, (true, x6)), (7, (true, x7)), (8, (false, x8))] [] := by
  unfold X11_change_39 at h
  refine j_aload_n F 0 rfl rfl dX11_change_39 ?_
  refine j_aload F 7 rfl dX11_change_40 ?_
  refine j_iload_n F 1 rfl rfl dX11_change_42 ?_
  obtain ⟨g4, h⟩ := gua h
  refine j_callV (d' := 6) (argl := [(false, x8), (true, x2)]) (rk9 := 0) (st := []) F hno M_X11_checkOpen q833 q8 q831 ⟨by decide, by decide⟩ (Nat.le_of_ble_eq_true rfl) (by decide) (ci := 12) rfl (by decide) g4 dX11_change_43 rfl h (fun z hz => c_X11_checkOpen l F.ht G x0 x8 x2 M z hz) (fun v1 M2 h kl3 => ?_)
  refine j_st (st' := []) rfl ?_
  refine j_aload F 7 rfl dX11_change_46 ?_
  refine j_iload_n F 1 rfl rfl dX11_change_48 ?_
  obtain ⟨g8, h⟩ := gua h
  refine j_callV (d' := 0) (argl := [(true, x2)]) (rk9 := 2) (st := []) F hno M_X3_copyOf q689 q690 q835 ⟨by decide, by decide⟩ (Nat.le_of_ble_eq_true rfl) (by decide) (ci := 4) rfl (by decide) g8 dX11_change_49 rfl h (fun z hz => c_X3_copyOf l F.ht G x8 x2 M2 z hz) (fun v5 M6 h kl7 => ?_)
  refine j_st (st' := [(false, v5)]) rfl ?_
  obtain ⟨g9, h⟩ := gua h
  refine j_get F ft_X11_158 rfl g9 dX11_change_52 ?_
  refine j_astore F (lv' := [(9, (false, (fd M6 3 0 v5))), (0, (false, x0)), (2, (true, x2)), (3, (true, x3)), (4, (true, x4)), (5, (true, x5)), (6, (true, x6)), (7, (true, x7)), (8, (false, x8))]) (by decide) rfl dX11_change_55 ?_
  refine j_aload F 0 rfl dX11_change_57 ?_
  refine j_aload F 0 rfl dX11_change_59 ?_
  refine j_iload_n F 3 rfl rfl dX11_change_61 ?_
  refine j_iload F 4 rfl dX11_change_62 ?_
  obtain ⟨g13, h⟩ := gua h
  refine j_callV (d' := 2) (argl := [(true, x3), (true, x4)]) (rk9 := 1) (st := [(false, (fd M6 3 0 v5))]) F hno M_X10_placeOf q892 q893 q891 ⟨by decide, by decide⟩ (Nat.le_of_ble_eq_true rfl) (by decide) (ci := 11) rfl (by decide) g13 dX11_change_64 rfl h (fun z hz => c_X10_placeOf l F.ht G (fd M6 3 0 v5) x3 x4 M6 z hz) (fun v10 M11 h kl12 => ?_)
  refine j_st (st' := [(true, v10), (false, (fd M6 3 0 v5))]) rfl ?_
  refine j_aload F 0 rfl dX11_change_67 ?_
  refine j_iload F 5 rfl dX11_change_69 ?_
  refine j_iload F 6 rfl dX11_change_71 ?_
  refine j_callV (d' := 2) (argl := [(true, x5), (true, x6)]) (rk9 := 1) (st := [(true, v10), (false, (fd M6 3 0 v5))]) F hno M_X10_placeOf q892 q893 q891 ⟨by decide, by decide⟩ (Nat.le_of_ble_eq_true rfl) (by decide) (ci := 11) rfl (by decide) (kl12.is g13) dX11_change_73 rfl h (fun z hz => c_X10_placeOf l F.ht G (fd M6 3 0 v5) x5 x6 M11 z hz) (fun v14 M15 h kl16 => ?_)
  refine j_st (st' := [(true, v14), (true, v10), (false, (fd M6 3 0 v5))]) rfl ?_
  refine j_iload F 7 rfl dX11_change_76 ?_
  refine j_callV (d' := 1) (argl := [(true, v10), (true, v14), (true, x7)]) (rk9 := 1) (st := []) F hno M_X10_canReplace q647 q648 q646 ⟨by decide, by decide⟩ (Nat.le_of_ble_eq_true rfl) (by decide) (ci := 11) rfl (by decide) (kl16.is (kl12.is g13)) dX11_change_78 rfl h (fun z hz => c_X10_canReplace l F.ht G (fd M6 3 0 v5) v10 v14 x7 M15 z hz) (fun v17 M18 h kl19 => ?_)
  refine j_st (st' := [(true, v17)]) rfl ?_
  refine j_if_ne F 94 (by decide) dX11_change_81 h (fun h => ?_) (fun h => ?_)
  · skip
    obtain ⟨g20, h⟩ := gua h
    refine j_new (ci := 7) F inGX6 tyX6 tyX6_ok q907 q706 q75 rfl (by decide) dfX6 g20 dX11_change_94 (fun kl21 => ?_)
    obtain ⟨M22, hM22⟩ : ∃ Z, Z = nO M18 7 17 := ⟨_, rfl⟩
    have g23 : kd M22 (nid M18) = 8 := by rw [hM22]; exact kd_nO
    rw [← hM22] at kl21 ⊢
    replace h := pt_as h hM22
    refine j_dup F dX11_change_97 ?_
    refine j_iconst F dX11_change_98 ?_
    refine j_iload_n F 2 rfl rfl dX11_change_99 ?_
    refine j_callI (d' := 2) (argl := [(true, 1), (true, x2)]) (rk9 := 0) (st := [(false, (nid M18))]) F M_X6_init q708 rfl q908 ⟨by decide, by decide⟩ (Nat.le_of_ble_eq_true rfl) (by decide) (by rw [g23]; decide) dX11_change_100 rfl h (fun z hz => c_X6_init l F.ht G (nid M18) 1 x2 M22 z hz) (fun v24 M25 h kl26 => ?_)
    refine j_st (st' := [(false, (nid M18))]) rfl ?_
    refine j_astore F (lv' := [(10, (false, (nid M18))), (9, (false, (fd M6 3 0 v5))), (0, (false, x0)), (2, (true, x2)), (3, (true, x3)), (4, (true, x4)), (5, (true, x5)), (6, (true, x6)), (7, (true, x7)), (8, (false, x8))]) (by decide) rfl dX11_change_103 ?_
    refine j_aload F 0 rfl dX11_change_105 ?_
    refine j_iload_n F 4 rfl rfl dX11_change_107 ?_
    refine j_put (ty := .int) F ft_X11_172 rfl rfl tyX6 tyX6_ok nmX6 (by decide +kernel) (nf_int _) (kl26.is g23) dX11_change_108 ?_
    obtain ⟨M27, hM27⟩ : ∃ Z, Z = sF M25 7 6 (nid M18) x3 := ⟨_, rfl⟩
    have kl28 : kle M25 M27 := by rw [hM27]; exact kle_sF
    rw [← hM27]
    replace h := pt_as h hM27
    refine j_aload F 0 rfl dX11_change_111 ?_
    refine j_iload F 5 rfl dX11_change_113 ?_
    refine j_put (ty := .int) F ft_X11_176 rfl rfl tyX6 tyX6_ok nmX6 (by decide +kernel) (nf_int _) (kl28.is (kl26.is g23)) dX11_change_115 ?_
    obtain ⟨M29, hM29⟩ : ∃ Z, Z = sF M27 7 7 (nid M18) x4 := ⟨_, rfl⟩
    have kl30 : kle M27 M29 := by rw [hM29]; exact kle_sF
    rw [← hM29]
    replace h := pt_as h hM29
    refine j_aload F 0 rfl dX11_change_118 ?_
    refine j_iload F 6 rfl dX11_change_120 ?_
    refine j_put (ty := .int) F ft_X11_179 rfl rfl tyX6 tyX6_ok nmX6 (by decide +kernel) (nf_int _) (kl30.is (kl28.is (kl26.is g23))) dX11_change_122 ?_
    obtain ⟨M31, hM31⟩ : ∃ Z, Z = sF M29 7 8 (nid M18) x5 := ⟨_, rfl⟩
    have kl32 : kle M29 M31 := by rw [hM31]; exact kle_sF
    rw [← hM31]
    replace h := pt_as h hM31
    refine j_aload F 0 rfl dX11_change_125 ?_
    refine j_iload F 7 rfl dX11_change_127 ?_
    refine j_put (ty := .int) F ft_X11_182 rfl rfl tyX6 tyX6_ok nmX6 (by decide +kernel) (nf_int _) (kl32.is (kl30.is (kl28.is (kl26.is g23)))) dX11_change_129 ?_
    obtain ⟨M33, hM33⟩ : ∃ Z, Z = sF M31 7 9 (nid M18) x6 := ⟨_, rfl⟩
    have kl34 : kle M31 M33 := by rw [hM33]; exact kle_sF
    rw [← hM33]
    replace h := pt_as h hM33
    refine j_aload F 0 rfl dX11_change_132 ?_
    refine j_iload F 8 rfl dX11_change_134 ?_
    refine j_put (ty := .int) F ft_X11_185 rfl rfl tyX6 tyX6_ok nmX6 (by decide +kernel) (nf_int _) (kl34.is (kl32.is (kl30.is (kl28.is (kl26.is g23))))) dX11_change_136 ?_
    obtain ⟨M35, hM35⟩ : ∃ Z, Z = sF M33 7 10 (nid M18) x7 := ⟨_, rfl⟩
    have kl36 : kle M33 M35 := by rw [hM35]; exact kle_sF
    rw [← hM35]
    replace h := pt_as h hM35
    refine j_aload F 9 rfl dX11_change_139 ?_
    refine j_aload F 0 rfl dX11_change_141 ?_
    refine j_callV (d' := 9) (argl := [(false, (nid M18))]) (rk9 := 1) (st := []) F hno M_X3_alter q910 q911 q909 ⟨by decide, by decide⟩ (Nat.le_of_ble_eq_true rfl) (by decide) (ci := 4) rfl (by decide) (kl36.is (kl34.is (kl32.is (kl30.is (kl28.is (kl26.is (kl21.is (kl19.is (kl16.is (kl12.is (kl7.is g8))))))))))) dX11_change_143 rfl h (fun z hz => c_X3_alter l F.ht G x8 (nid M18) M35 z hz) (fun v37 M38 h kl39 => ?_)
    refine j_st (st' := [(true, v37)]) rfl ?_
    exact j_iret F h dX11_change_146
  · skip
    obtain ⟨g40, h⟩ := gua h
    exact j_throw F hno (ex := 3) (text := "the second place is ahead of the first, or the text too long") rfl (by decide +kernel) q422 q69 (by decide +kernel) at_X11_78 (by decide +kernel) (by decide) (Nat.le_of_ble_eq_true rfl) rfl (by decide) g40 h dX11_change_84 dX11_change_87 dX11_change_88 dX11_change_90 dX11_change_93
set_option maxHeartbeats 4000000 in
set_option maxRecDepth 100000 in
theorem w_X11_change_0 {p : Program} {l : Launch} {e : Env} {R : Room} {s : State} {m : MethodId} {args : Array Value} {below : List Frame} {meth : Method} {c : Code} {G : Gt} {ρ0 : Int → Nat} {M0 : Mo} {res : RS} (F : Fx p l R s m args meth c cX11_change 11 RX11 G M0 10 (some FieldType.int)) (hno : ∀ x ∈ c.exceptionTable.toList, False) (hnm : meth.name = yX11_change.name) (x0 x1 x2 x3 x4 x5 x6 x7 : Int) (M : Mo) (h : X11_change x0 x1 x2 x3 x4 x5 x6 x7 M = some res) : J p l e R s m args below meth c 11 G ρ0 M0 1 res M 0 [(0, (false, x0)), (1, (true, x1)), (2, (true, x2)), (3, (true, x3)), (4, (true, x4)), (5, (true, x5)), (6, (true, x6)), (7, (true, x7))] [] := by
  unfold X11_change at h
  refine j_aload_n F 0 rfl rfl dX11_change_0 ?_
  refine j_iload_n F 1 rfl rfl dX11_change_1 ?_
  obtain ⟨g4, h⟩ := gua h
  refine j_callV (d' := 6) (argl := [(true, x1)]) (rk9 := 2) (st := []) F hno M_X11_editorAt q668 q6 q666 ⟨by decide, by decide⟩ (Nat.le_of_ble_eq_true rfl) (by decide) (ci := 12) rfl (by decide) g4 dX11_change_2 rfl h (fun z hz => c_X11_editorAt l F.ht G x0 x1 M z hz) (fun v1 M2 h kl3 => ?_)
  refine j_st (st' := [(false, v1)]) rfl ?_
  refine j_astore F (lv' := [(8, (false, v1)), (0, (false, x0)), (1, (true, x1)), (2, (true, x2)), (3, (true, x3)), (4, (true, x4)), (5, (true, x5)), (6, (true, x6)), (7, (true, x7))]) (by decide) rfl dX11_change_5 ?_
  refine j_aload_n F 1 rfl rfl dX11_change_7 ?_
  refine j_iload_n F 3 rfl rfl dX11_change_8 ?_
  refine j_callV (d' := 6) (argl := [(true, x2)]) (rk9 := 0) (st := []) F hno M_X11_checkFile q583 q4 q581 ⟨by decide, by decide⟩ (Nat.le_of_ble_eq_true rfl) (by decide) (ci := 12) rfl (by decide) (kl3.is g4) dX11_change_9 rfl h (fun z hz => c_X11_checkFile l F.ht G x0 x2 M2 z hz) (fun v5 M6 h kl7 => ?_)
  refine j_st (st' := []) rfl ?_
  refine j_aload_n F 1 rfl rfl dX11_change_12 ?_
  refine j_iload_n F 4 rfl rfl dX11_change_13 ?_
  refine j_iload F 5 rfl dX11_change_14 ?_
  refine j_callV (d' := 6) (argl := [(true, x3), (true, x4)]) (rk9 := 0) (st := []) F hno M_X11_checkPosition q888 q10 q886 ⟨by decide, by decide⟩ (Nat.le_of_ble_eq_true rfl) (by decide) (ci := 12) rfl (by decide) (kl7.is (kl3.is g4)) dX11_change_16 rfl h (fun z hz => c_X11_checkPosition l F.ht G x0 x3 x4 M6 z hz) (fun v8 M9 h kl10 => ?_)
  refine j_st (st' := []) rfl ?_
  refine j_aload_n F 1 rfl rfl dX11_change_19 ?_
  refine j_iload F 6 rfl dX11_change_20 ?_
  refine j_iload F 7 rfl dX11_change_22 ?_
  refine j_callV (d' := 6) (argl := [(true, x5), (true, x6)]) (rk9 := 0) (st := []) F hno M_X11_checkPosition q888 q10 q886 ⟨by decide, by decide⟩ (Nat.le_of_ble_eq_true rfl) (by decide) (ci := 12) rfl (by decide) (kl10.is (kl7.is (kl3.is g4))) dX11_change_24 rfl h (fun z hz => c_X11_checkPosition l F.ht G x0 x5 x6 M9 z hz) (fun v11 M12 h kl13 => ?_)
  refine j_st (st' := []) rfl ?_
  refine j_iload F 8 rfl dX11_change_27 ?_
  refine j_iconst F dX11_change_29 ?_
  refine j_icmp_eq F 39 (by decide) dX11_change_30 h (fun h => ?_) (fun h => ?_)
  · skip
    refine j_sub (lv' := [(0, (false, x0)), (2, (true, x2)), (3, (true, x3)), (4, (true, x4)), (5, (true, x5)), (6, (true, x6)), (7, (true, x7)), (8, (false, v1))]) [1, 3, 4, 5, 6, 7, 8, 0] rfl ?_
    exact w_X11_change_39 F hno hnm x0 x2 x3 x4 x5 x6 x7 v1 M12 h
  · skip
    refine j_aload_n F 1 rfl rfl dX11_change_33 ?_
    refine j_iload F 8 rfl dX11_change_34 ?_
    refine j_callV (d' := 6) (argl := [(true, x7)]) (rk9 := 0) (st := []) F hno M_X11_checkCode q622 q5 q620 ⟨by decide, by decide⟩ (Nat.le_of_ble_eq_true rfl) (by decide) (ci := 12) rfl (by decide) (kl13.is (kl10.is (kl7.is (kl3.is g4)))) dX11_change_36 rfl h (fun z hz => c_X11_checkCode l F.ht G x0 x7 M12 z hz) (fun v14 M15 h kl16 => ?_)
    refine j_st (st' := []) rfl ?_
    refine j_sub (lv' := [(0, (false, x0)), (2, (true, x2)), (3, (true, x3)), (4, (true, x4)), (5, (true, x5)), (6, (true, x6)), (7, (true, x7)), (8, (false, v1))]) [1, 3, 4, 5, 6, 7, 8, 0] rfl ?_
    exact w_X11_change_39 F hno hnm x0 x2 x3 x4 x5 x6 x7 v1 M15 h
theorem c_X11_change (l : Launch) (hl : l.stackTraces = false) (G : Gt) (x0 x1 x2 x3 x4 x5 x6 x7 : Int) (M : Mo) (z : RS) (h : X11_change x0 x1 x2 x3 x4 x5 x6 x7 M = some z) : CT l G yX11_change (cn yX11_change cX11_change 11 (some FieldType.int)) 10 [(false, x0), (true, x1), (true, x2), (true, x3), (true, x4), (true, x5), (true, x6), (true, x7)] M 1 z :=
  ctOf hl (by decide) (Nat.le_of_ble_eq_true rfl) (fun p e R s m args below meth c ρ F hno hnm => w_X11_change_0 F hno hnm x0 x1 x2 x3 x4 x5 x6 x7 M h)
theorem dX11_request_0 : decode cX11_request 0 = .ok (.aload_n 0, 1) := by decide +kernel
theorem dX11_request_1 : decode cX11_request 1 = .ok (.iload_n 1, 1) := by decide +kernel
theorem dX11_request_2 : decode cX11_request 2 = .ok (.invokevirtual 134, 3) := by decide +kernel
theorem dX11_request_5 : decode cX11_request 5 = .ok (.astore 7, 2) := by decide +kernel
theorem dX11_request_7 : decode cX11_request 7 = .ok (.aload_n 0, 1) := by decide +kernel
theorem dX11_request_8 : decode cX11_request 8 = .ok (.iload_n 3, 1) := by decide +kernel
theorem dX11_request_9 : decode cX11_request 9 = .ok (.invokevirtual 83, 3) := by decide +kernel
theorem dX11_request_12 : decode cX11_request 12 = .ok (.iload_n 2, 1) := by decide +kernel
theorem dX11_request_13 : decode cX11_request 13 = .ok (.ifCond .lt 23, 3) := by decide +kernel
theorem dX11_request_36 : decode cX11_request 36 = .ok (.new 59, 3) := by decide +kernel
theorem dX11_request_39 : decode cX11_request 39 = .ok (.dup, 1) := by decide +kernel
theorem dX11_request_40 : decode cX11_request 40 = .ok (.ldc 195, 2) := by decide +kernel
theorem dX11_request_42 : decode cX11_request 42 = .ok (.invokespecial 63, 3) := by decide +kernel
theorem dX11_request_45 : decode cX11_request 45 = .ok (.athrow, 1) := by decide +kernel
theorem dX11_request_16 : decode cX11_request 16 = .ok (.iload_n 2, 1) := by decide +kernel
theorem dX11_request_17 : decode cX11_request 17 = .ok (.iconst 5, 1) := by decide +kernel
theorem dX11_request_18 : decode cX11_request 18 = .ok (.if_icmp .gt 18, 3) := by decide +kernel
theorem dX11_request_21 : decode cX11_request 21 = .ok (.iload_n 2, 1) := by decide +kernel
set_option maxRecDepth 100000 in
theorem q953 : Cond.code yX11_isEdit cX11_isEdit 1 (some FieldType.boolean) ∈ GT := gt 953 (rfl) (by decide +kernel)
theorem M_X11_isEdit : MY yX11_isEdit cX11_isEdit 1 (some FieldType.boolean) 1 := ⟨q953, q53, by decide +kernel, by decide +kernel⟩
set_option maxRecDepth 100000 in
theorem q952 : Cond.static yX11_isEdit ∈ GT := gt 952 (by decide +kernel) (by decide +kernel)
set_option maxRecDepth 100000 in
theorem q951 : Cond.methodLink RX11 192 yX11_isEdit ∈ GT := gt 951 (by decide +kernel) (by decide +kernel)
theorem dX11_request_22 : decode cX11_request 22 = .ok (.invokestatic 192, 3) := by decide +kernel
theorem dX11_request_25 : decode cX11_request 25 = .ok (.ifCond .eq 21, 3) := by decide +kernel
theorem dX11_request_28 : decode cX11_request 28 = .ok (.iload 6, 2) := by decide +kernel
theorem dX11_request_30 : decode cX11_request 30 = .ok (.invokestatic 55, 3) := by decide +kernel
theorem dX11_request_33 : decode cX11_request 33 = .ok (.ifCond .ne 13, 3) := by decide +kernel
theorem dX11_request_46 : decode cX11_request 46 = .ok (.aload_n 0, 1) := by decide +kernel
theorem dX11_request_47 : decode cX11_request 47 = .ok (.iload 4, 2) := by decide +kernel
theorem dX11_request_49 : decode cX11_request 49 = .ok (.iload 5, 2) := by decide +kernel
theorem dX11_request_51 : decode cX11_request 51 = .ok (.invokevirtual 150, 3) := by decide +kernel
theorem dX11_request_54 : decode cX11_request 54 = .ok (.aload_n 0, 1) := by decide +kernel
theorem dX11_request_55 : decode cX11_request 55 = .ok (.aload 7, 2) := by decide +kernel
theorem dX11_request_57 : decode cX11_request 57 = .ok (.iload_n 3, 1) := by decide +kernel
theorem dX11_request_58 : decode cX11_request 58 = .ok (.invokevirtual 143, 3) := by decide +kernel
theorem dX11_request_61 : decode cX11_request 61 = .ok (.aload 7, 2) := by decide +kernel
set_option maxRecDepth 100000 in
theorem q958 : Cond.code yX3_asked cX3_asked 1 (some FieldType.int) ∈ GT := gt 958 (rfl) (by decide +kernel)
theorem M_X3_asked : MY yX3_asked cX3_asked 1 (some FieldType.int) 0 := ⟨q958, q60, by decide +kernel, by decide +kernel⟩
set_option maxRecDepth 100000 in
theorem q956 : Cond.instanceMethod yX3_asked ∈ GT := gt 956 (by decide +kernel) (by decide +kernel)
set_option maxRecDepth 100000 in
theorem q957 : Cond.selects RX3 yX3_asked yX3_asked ∈ GT := gt 957 (by decide +kernel) (by decide +kernel)
set_option maxRecDepth 100000 in
theorem q955 : Cond.methodLink RX11 197 yX3_asked ∈ GT := gt 955 (by decide +kernel) (by decide +kernel)
theorem dX11_request_63 : decode cX11_request 63 = .ok (.invokevirtual 197, 3) := by decide +kernel
theorem dX11_request_66 : decode cX11_request 66 = .ok (.bipush 40, 2) := by decide +kernel
theorem dX11_request_68 : decode cX11_request 68 = .ok (.if_icmp .lt 13, 3) := by decide +kernel
theorem dX11_request_81 : decode cX11_request 81 = .ok (.new 168, 3) := by decide +kernel
theorem dX11_request_84 : decode cX11_request 84 = .ok (.dup, 1) := by decide +kernel
theorem dX11_request_85 : decode cX11_request 85 = .ok (.iconst 3, 1) := by decide +kernel
theorem dX11_request_86 : decode cX11_request 86 = .ok (.iload_n 3, 1) := by decide +kernel
theorem dX11_request_87 : decode cX11_request 87 = .ok (.invokespecial 170, 3) := by decide +kernel
theorem dX11_request_90 : decode cX11_request 90 = .ok (.astore 8, 2) := by decide +kernel
theorem dX11_request_92 : decode cX11_request 92 = .ok (.aload 8, 2) := by decide +kernel
theorem dX11_request_94 : decode cX11_request 94 = .ok (.iload_n 2, 1) := by decide +kernel
set_option maxRecDepth 100000 in
theorem q730 : Cond.fieldLink RX11 202 "ToolPlex$Message" "asked" "I" ∈ GT := gt 730 (by decide +kernel) (by decide +kernel)
theorem ft_X11_202 : FT RX11 202 RX6 7 RX6 TX6 17 4 := ⟨rfl, by decide, by decide, q730, Or.inl rfl, inGX6⟩
theorem dX11_request_95 : decode cX11_request 95 = .ok (.putfield 202, 3) := by decide +kernel
theorem dX11_request_98 : decode cX11_request 98 = .ok (.aload 8, 2) := by decide +kernel
theorem dX11_request_100 : decode cX11_request 100 = .ok (.iload 4, 2) := by decide +kernel
theorem dX11_request_102 : decode cX11_request 102 = .ok (.putfield 172, 3) := by decide +kernel
theorem dX11_request_105 : decode cX11_request 105 = .ok (.aload 8, 2) := by decide +kernel
theorem dX11_request_107 : decode cX11_request 107 = .ok (.iload 5, 2) := by decide +kernel
theorem dX11_request_109 : decode cX11_request 109 = .ok (.putfield 176, 3) := by decide +kernel
theorem dX11_request_112 : decode cX11_request 112 = .ok (.aload 8, 2) := by decide +kernel
theorem dX11_request_114 : decode cX11_request 114 = .ok (.iload 6, 2) := by decide +kernel
theorem dX11_request_116 : decode cX11_request 116 = .ok (.putfield 185, 3) := by decide +kernel
theorem dX11_request_119 : decode cX11_request 119 = .ok (.aload 7, 2) := by decide +kernel
theorem dX11_request_121 : decode cX11_request 121 = .ok (.aload 8, 2) := by decide +kernel
set_option maxRecDepth 100000 in
theorem q963 : Cond.code yX3_ask cX3_ask 3 (some FieldType.int) ∈ GT := gt 963 (rfl) (by decide +kernel)
theorem M_X3_ask : MY yX3_ask cX3_ask 3 (some FieldType.int) 1 := ⟨q963, q60, by decide +kernel, by decide +kernel⟩
set_option maxRecDepth 100000 in
theorem q961 : Cond.instanceMethod yX3_ask ∈ GT := gt 961 (by decide +kernel) (by decide +kernel)
set_option maxRecDepth 100000 in
theorem q962 : Cond.selects RX3 yX3_ask yX3_ask ∈ GT := gt 962 (by decide +kernel) (by decide +kernel)
set_option maxRecDepth 100000 in
theorem q960 : Cond.methodLink RX11 204 yX3_ask ∈ GT := gt 960 (by decide +kernel) (by decide +kernel)
theorem dX11_request_123 : decode cX11_request 123 = .ok (.invokevirtual 204, 3) := by decide +kernel
theorem dX11_request_126 : decode cX11_request 126 = .ok (.ireturn, 1) := by decide +kernel
theorem dX11_request_71 : decode cX11_request 71 = .ok (.new 74, 3) := by decide +kernel
theorem dX11_request_74 : decode cX11_request 74 = .ok (.dup, 1) := by decide +kernel
theorem dX11_request_75 : decode cX11_request 75 = .ok (.ldc 200, 2) := by decide +kernel
theorem dX11_request_77 : decode cX11_request 77 = .ok (.invokespecial 78, 3) := by decide +kernel
theorem dX11_request_80 : decode cX11_request 80 = .ok (.athrow, 1) := by decide +kernel
set_option maxHeartbeats 4000000 in
set_option maxRecDepth 100000 in
theorem w_X11_request_46 {p : Program} {l : Launch} {e : Env} {R : Room} {s : State} {m : MethodId} {args : Array Value} {below : List Frame} {meth : Method} {c : Code} {G : Gt} {ρ0 : Int → Nat} {M0 : Mo} {res : RS} (F : Fx p l R s m args meth c cX11_request 9 RX11 G M0 10 (some FieldType.int)) (hno : ∀ x ∈ c.exceptionTable.toList, False) (hnm : meth.name = yX11_request.name) (x0 x2 x3 x4 x5 x6 x7 : Int) (M : Mo) (h : X11_request_46 x0 x2 x3 x4 x5 x6 x7 M = some res) : J p l e R s m args below meth c 9 G ρ0 M0 1 res M 46 [(0, (false, x0)), (2, (true, x2)), (3, (true, x3)), (4, (true, x4)), (5, (true, x5)), (6, (true, x6)), (7, (false, x7))] [] := by
  unfold X11_request_46 at h
  refine j_aload_n F 0 rfl rfl dX11_request_46 ?_
  refine j_iload F 3 rfl dX11_request_47 ?_
  refine j_iload F 4 rfl dX11_request_49 ?_
  obtain ⟨g4, h⟩ := gua h
  refine j_callV (d' := 6) (argl := [(true, x4), (true, x5)]) (rk9 := 0) (st := []) F hno M_X11_checkPosition q888 q10 q886 ⟨by decide, by decide⟩ (Nat.le_of_ble_eq_true rfl) (by decide) (ci := 12) rfl (by decide) g4 dX11_request_51 rfl h (fun z hz => c_X11_checkPosition l F.ht G x0 x4 x5 M z hz) (fun v1 M2 h kl3 => ?_)
  refine j_st (st' := []) rfl ?_
  refine j_aload_n F 0 rfl rfl dX11_request_54 ?_
  refine j_aload F 6 rfl dX11_request_55 ?_
  refine j_iload_n F 2 rfl rfl dX11_request_57 ?_
  refine j_callV (d' := 6) (argl := [(false, x7), (true, x3)]) (rk9 := 0) (st := []) F hno M_X11_checkOpen q833 q8 q831 ⟨by decide, by decide⟩ (Nat.le_of_ble_eq_true rfl) (by decide) (ci := 12) rfl (by decide) (kl3.is g4) dX11_request_58 rfl h (fun z hz => c_X11_checkOpen l F.ht G x0 x7 x3 M2 z hz) (fun v5 M6 h kl7 => ?_)
  refine j_st (st' := []) rfl ?_
  refine j_aload F 6 rfl dX11_request_61 ?_
  obtain ⟨g11, h⟩ := gua h
  refine j_callV (d' := 1) (argl := []) (rk9 := 1) (st := []) F hno M_X3_asked q956 q957 q955 ⟨by decide, by decide⟩ (Nat.le_of_ble_eq_true rfl) (by decide) (ci := 4) rfl (by decide) g11 dX11_request_63 rfl h (fun z hz => c_X3_asked l F.ht G x7 M6 z hz) (fun v8 M9 h kl10 => ?_)
  refine j_st (st' := [(true, v8)]) rfl ?_
  refine j_bipush F (by decide) dX11_request_66 ?_
  refine j_icmp_lt F 81 (by decide) dX11_request_68 h (fun h => ?_) (fun h => ?_)
  · skip
    obtain ⟨g12, h⟩ := gua h
    refine j_new (ci := 7) F inGX6 tyX6 tyX6_ok q907 q706 q75 rfl (by decide) dfX6 g12 dX11_request_81 (fun kl13 => ?_)
    obtain ⟨M14, hM14⟩ : ∃ Z, Z = nO M9 7 17 := ⟨_, rfl⟩
    have g15 : kd M14 (nid M9) = 8 := by rw [hM14]; exact kd_nO
    rw [← hM14] at kl13 ⊢
    replace h := pt_as h hM14
    refine j_dup F dX11_request_84 ?_
    refine j_iconst F dX11_request_85 ?_
    refine j_iload_n F 2 rfl rfl dX11_request_86 ?_
    refine j_callI (d' := 2) (argl := [(true, 3), (true, x3)]) (rk9 := 0) (st := [(false, (nid M9))]) F M_X6_init q708 rfl q908 ⟨by decide, by decide⟩ (Nat.le_of_ble_eq_true rfl) (by decide) (by rw [g15]; decide) dX11_request_87 rfl h (fun z hz => c_X6_init l F.ht G (nid M9) 3 x3 M14 z hz) (fun v16 M17 h kl18 => ?_)
    refine j_st (st' := [(false, (nid M9))]) rfl ?_
    refine j_astore F (lv' := [(8, (false, (nid M9))), (0, (false, x0)), (2, (true, x2)), (3, (true, x3)), (4, (true, x4)), (5, (true, x5)), (6, (true, x6)), (7, (false, x7))]) (by decide) rfl dX11_request_90 ?_
    refine j_aload F 0 rfl dX11_request_92 ?_
    refine j_iload_n F 2 rfl rfl dX11_request_94 ?_
    refine j_put (ty := .int) F ft_X11_202 rfl rfl tyX6 tyX6_ok nmX6 (by decide +kernel) (nf_int _) (kl18.is g15) dX11_request_95 ?_
    obtain ⟨M19, hM19⟩ : ∃ Z, Z = sF M17 7 4 (nid M9) x2 := ⟨_, rfl⟩
    have kl20 : kle M17 M19 := by rw [hM19]; exact kle_sF
    rw [← hM19]
    replace h := pt_as h hM19
    refine j_aload F 0 rfl dX11_request_98 ?_
    refine j_iload F 4 rfl dX11_request_100 ?_
    refine j_put (ty := .int) F ft_X11_172 rfl rfl tyX6 tyX6_ok nmX6 (by decide +kernel) (nf_int _) (kl20.is (kl18.is g15)) dX11_request_102 ?_
    obtain ⟨M21, hM21⟩ : ∃ Z, Z = sF M19 7 6 (nid M9) x4 := ⟨_, rfl⟩
    have kl22 : kle M19 M21 := by rw [hM21]; exact kle_sF
    rw [← hM21]
    replace h := pt_as h hM21
    refine j_aload F 0 rfl dX11_request_105 ?_
    refine j_iload F 5 rfl dX11_request_107 ?_
    refine j_put (ty := .int) F ft_X11_176 rfl rfl tyX6 tyX6_ok nmX6 (by decide +kernel) (nf_int _) (kl22.is (kl20.is (kl18.is g15))) dX11_request_109 ?_
    obtain ⟨M23, hM23⟩ : ∃ Z, Z = sF M21 7 7 (nid M9) x5 := ⟨_, rfl⟩
    have kl24 : kle M21 M23 := by rw [hM23]; exact kle_sF
    rw [← hM23]
    replace h := pt_as h hM23
    refine j_aload F 0 rfl dX11_request_112 ?_
    refine j_iload F 6 rfl dX11_request_114 ?_
    refine j_put (ty := .int) F ft_X11_185 rfl rfl tyX6 tyX6_ok nmX6 (by decide +kernel) (nf_int _) (kl24.is (kl22.is (kl20.is (kl18.is g15)))) dX11_request_116 ?_
    obtain ⟨M25, hM25⟩ : ∃ Z, Z = sF M23 7 10 (nid M9) x6 := ⟨_, rfl⟩
    have kl26 : kle M23 M25 := by rw [hM25]; exact kle_sF
    rw [← hM25]
    replace h := pt_as h hM25
    refine j_aload F 7 rfl dX11_request_119 ?_
    refine j_aload F 0 rfl dX11_request_121 ?_
    refine j_callV (d' := 9) (argl := [(false, (nid M9))]) (rk9 := 1) (st := []) F hno M_X3_ask q961 q962 q960 ⟨by decide, by decide⟩ (Nat.le_of_ble_eq_true rfl) (by decide) (ci := 4) rfl (by decide) (kl26.is (kl24.is (kl22.is (kl20.is (kl18.is (kl13.is (kl10.is g11))))))) dX11_request_123 rfl h (fun z hz => c_X3_ask l F.ht G x7 (nid M9) M25 z hz) (fun v27 M28 h kl29 => ?_)
    refine j_st (st' := [(true, v27)]) rfl ?_
    exact j_iret F h dX11_request_126
  · skip
    obtain ⟨g30, h⟩ := gua h
    exact j_throw F hno (ex := 3) (text := "too many requests") rfl (by decide +kernel) q422 q69 (by decide +kernel) at_X11_78 (by decide +kernel) (by decide) (Nat.le_of_ble_eq_true rfl) rfl (by decide) g30 h dX11_request_71 dX11_request_74 dX11_request_75 dX11_request_77 dX11_request_80
set_option maxHeartbeats 4000000 in
set_option maxRecDepth 100000 in
theorem w_X11_request_0 {p : Program} {l : Launch} {e : Env} {R : Room} {s : State} {m : MethodId} {args : Array Value} {below : List Frame} {meth : Method} {c : Code} {G : Gt} {ρ0 : Int → Nat} {M0 : Mo} {res : RS} (F : Fx p l R s m args meth c cX11_request 9 RX11 G M0 10 (some FieldType.int)) (hno : ∀ x ∈ c.exceptionTable.toList, False) (hnm : meth.name = yX11_request.name) (x0 x1 x2 x3 x4 x5 x6 : Int) (M : Mo) (h : X11_request x0 x1 x2 x3 x4 x5 x6 M = some res) : J p l e R s m args below meth c 9 G ρ0 M0 1 res M 0 [(0, (false, x0)), (1, (true, x1)), (2, (true, x2)), (3, (true, x3)), (4, (true, x4)), (5, (true, x5)), (6, (true, x6))] [] := by
  unfold X11_request at h
  refine j_aload_n F 0 rfl rfl dX11_request_0 ?_
  refine j_iload_n F 1 rfl rfl dX11_request_1 ?_
  obtain ⟨g4, h⟩ := gua h
  refine j_callV (d' := 6) (argl := [(true, x1)]) (rk9 := 2) (st := []) F hno M_X11_editorAt q668 q6 q666 ⟨by decide, by decide⟩ (Nat.le_of_ble_eq_true rfl) (by decide) (ci := 12) rfl (by decide) g4 dX11_request_2 rfl h (fun z hz => c_X11_editorAt l F.ht G x0 x1 M z hz) (fun v1 M2 h kl3 => ?_)
  refine j_st (st' := [(false, v1)]) rfl ?_
  refine j_astore F (lv' := [(7, (false, v1)), (0, (false, x0)), (1, (true, x1)), (2, (true, x2)), (3, (true, x3)), (4, (true, x4)), (5, (true, x5)), (6, (true, x6))]) (by decide) rfl dX11_request_5 ?_
  refine j_aload_n F 1 rfl rfl dX11_request_7 ?_
  refine j_iload_n F 4 rfl rfl dX11_request_8 ?_
  refine j_callV (d' := 6) (argl := [(true, x3)]) (rk9 := 0) (st := []) F hno M_X11_checkFile q583 q4 q581 ⟨by decide, by decide⟩ (Nat.le_of_ble_eq_true rfl) (by decide) (ci := 12) rfl (by decide) (kl3.is g4) dX11_request_9 rfl h (fun z hz => c_X11_checkFile l F.ht G x0 x3 M2 z hz) (fun v5 M6 h kl7 => ?_)
  refine j_st (st' := []) rfl ?_
  refine j_iload_n F 3 rfl rfl dX11_request_12 ?_
  refine j_if_lt F 36 (by decide) dX11_request_13 h (fun h => ?_) (fun h => ?_)
  · skip
    obtain ⟨g8, h⟩ := gua h
    exact j_throw F hno (ex := 2) (text := "no such kind or letter") rfl (by decide +kernel) q346 q68 (by decide +kernel) at_X11_63 (by decide +kernel) (by decide) (Nat.le_of_ble_eq_true rfl) rfl (by decide) g8 h dX11_request_36 dX11_request_39 dX11_request_40 dX11_request_42 dX11_request_45
  · skip
    refine j_iload_n F 3 rfl rfl dX11_request_16 ?_
    refine j_iconst F dX11_request_17 ?_
    refine j_icmp_gt F 36 (by decide) dX11_request_18 h (fun h => ?_) (fun h => ?_)
    · skip
      obtain ⟨g9, h⟩ := gua h
      exact j_throw F hno (ex := 2) (text := "no such kind or letter") rfl (by decide +kernel) q346 q68 (by decide +kernel) at_X11_63 (by decide +kernel) (by decide) (Nat.le_of_ble_eq_true rfl) rfl (by decide) g9 h dX11_request_36 dX11_request_39 dX11_request_40 dX11_request_42 dX11_request_45
    · skip
      refine j_iload_n F 3 rfl rfl dX11_request_21 ?_
      refine j_callS (d' := 0) (argl := [(true, x2)]) (rk9 := 1) (st := []) F hno M_X11_isEdit q952 q951 ⟨by decide, by decide⟩ (Nat.le_of_ble_eq_true rfl) (by decide) dX11_request_22 rfl h (fun z hz => c_X11_isEdit l F.ht G x2 M6 z hz) (fun v10 M11 h kl12 => ?_)
      refine j_st (st' := [(true, v10)]) rfl ?_
      refine j_if_eq F 46 (by decide) dX11_request_25 h (fun h => ?_) (fun h => ?_)
      · skip
        refine j_sub (lv' := [(0, (false, x0)), (2, (true, x2)), (3, (true, x3)), (4, (true, x4)), (5, (true, x5)), (6, (true, x6)), (7, (false, v1))]) [1, 3, 4, 5, 6, 7, 0] rfl ?_
        exact w_X11_request_46 F hno hnm x0 x2 x3 x4 x5 x6 v1 M11 h
      · skip
        refine j_iload F 7 rfl dX11_request_28 ?_
        refine j_callS (d' := 0) (argl := [(true, x6)]) (rk9 := 1) (st := []) F hno M_X10_isLetter q344 q343 ⟨by decide, by decide⟩ (Nat.le_of_ble_eq_true rfl) (by decide) dX11_request_30 rfl h (fun z hz => c_X10_isLetter l F.ht G x6 M11 z hz) (fun v13 M14 h kl15 => ?_)
        refine j_st (st' := [(true, v13)]) rfl ?_
        refine j_if_ne F 46 (by decide) dX11_request_33 h (fun h => ?_) (fun h => ?_)
        · skip
          refine j_sub (lv' := [(0, (false, x0)), (2, (true, x2)), (3, (true, x3)), (4, (true, x4)), (5, (true, x5)), (6, (true, x6)), (7, (false, v1))]) [1, 3, 4, 5, 6, 7, 0] rfl ?_
          exact w_X11_request_46 F hno hnm x0 x2 x3 x4 x5 x6 v1 M14 h
        · skip
          obtain ⟨g16, h⟩ := gua h
          exact j_throw F hno (ex := 2) (text := "no such kind or letter") rfl (by decide +kernel) q346 q68 (by decide +kernel) at_X11_63 (by decide +kernel) (by decide) (Nat.le_of_ble_eq_true rfl) rfl (by decide) g16 h dX11_request_36 dX11_request_39 dX11_request_40 dX11_request_42 dX11_request_45
theorem c_X11_request (l : Launch) (hl : l.stackTraces = false) (G : Gt) (x0 x1 x2 x3 x4 x5 x6 : Int) (M : Mo) (z : RS) (h : X11_request x0 x1 x2 x3 x4 x5 x6 M = some z) : CT l G yX11_request (cn yX11_request cX11_request 9 (some FieldType.int)) 10 [(false, x0), (true, x1), (true, x2), (true, x3), (true, x4), (true, x5), (true, x6)] M 1 z :=
  ctOf hl (by decide) (Nat.le_of_ble_eq_true rfl) (fun p e R s m args below meth c ρ F hno hnm => w_X11_request_0 F hno hnm x0 x1 x2 x3 x4 x5 x6 M h)
theorem dX11_askAt_0 : decode cX11_askAt 0 = .ok (.aload_n 1, 1) := by decide +kernel
theorem dX11_askAt_1 : decode cX11_askAt 1 = .ok (.iload_n 2, 1) := by decide +kernel
set_option maxRecDepth 100000 in
theorem q1007 : Cond.methodLink RX11 362 yX3_askAt ∈ GT := gt 1007 (by decide +kernel) (by decide +kernel)
theorem dX11_askAt_2 : decode cX11_askAt 2 = .ok (.invokevirtual 362, 3) := by decide +kernel
theorem dX11_askAt_5 : decode cX11_askAt 5 = .ok (.astore_n 3, 1) := by decide +kernel
theorem dX11_askAt_6 : decode cX11_askAt 6 = .ok (.aload_n 3, 1) := by decide +kernel
theorem dX11_askAt_7 : decode cX11_askAt 7 = .ok (.ifnonnull 14, 3) := by decide +kernel
theorem dX11_askAt_21 : decode cX11_askAt 21 = .ok (.aload_n 3, 1) := by decide +kernel
theorem dX11_askAt_22 : decode cX11_askAt 22 = .ok (.areturn, 1) := by decide +kernel
theorem dX11_askAt_10 : decode cX11_askAt 10 = .ok (.new 254, 3) := by decide +kernel
theorem dX11_askAt_13 : decode cX11_askAt 13 = .ok (.dup, 1) := by decide +kernel
theorem dX11_askAt_14 : decode cX11_askAt 14 = .ok (.ldc_w 256, 3) := by decide +kernel
theorem dX11_askAt_17 : decode cX11_askAt 17 = .ok (.invokespecial 258, 3) := by decide +kernel
theorem dX11_askAt_20 : decode cX11_askAt 20 = .ok (.athrow, 1) := by decide +kernel
set_option maxHeartbeats 4000000 in
set_option maxRecDepth 100000 in
theorem w_X11_askAt_0 {p : Program} {l : Launch} {e : Env} {R : Room} {s : State} {m : MethodId} {args : Array Value} {below : List Frame} {meth : Method} {c : Code} {G : Gt} {ρ0 : Int → Nat} {M0 : Mo} {res : RS} (F : Fx p l R s m args meth c cX11_askAt 4 RX11 G M0 6 (some (FieldType.object "ToolPlex$Ask"))) (hno : ∀ x ∈ c.exceptionTable.toList, False) (hnm : meth.name = yX11_askAt.name) (x0 x1 x2 : Int) (M : Mo) (h : X11_askAt x0 x1 x2 M = some res) : J p l e R s m args below meth c 4 G ρ0 M0 2 res M 0 [(0, (false, x0)), (1, (false, x1)), (2, (true, x2))] [] := by
  unfold X11_askAt at h
  refine j_aload_n F 1 rfl rfl dX11_askAt_0 ?_
  refine j_iload_n F 2 rfl rfl dX11_askAt_1 ?_
  obtain ⟨g4, h⟩ := gua h
  refine j_callV (d' := 3) (argl := [(true, x2)]) (rk9 := 2) (st := []) F hno M_X3_askAt q1008 q1009 q1007 ⟨by decide, by decide⟩ (Nat.le_of_ble_eq_true rfl) (by decide) (ci := 4) rfl (by decide) g4 dX11_askAt_2 rfl h (fun z hz => c_X3_askAt l F.ht G x1 x2 M z hz) (fun v1 M2 h kl3 => ?_)
  refine j_st (st' := [(false, v1)]) rfl ?_
  refine j_astore_n F (lv' := [(3, (false, v1)), (0, (false, x0)), (1, (false, x1)), (2, (true, x2))]) rfl (by decide) rfl dX11_askAt_5 ?_
  refine j_aload_n F 0 rfl rfl dX11_askAt_6 ?_
  refine j_ifnonnull F 21 (by decide) dX11_askAt_7 h (fun h => ?_) (fun h => ?_)
  · skip
    refine j_aload_n F 0 rfl rfl dX11_askAt_21 ?_
    exact j_aret F (Or.inl ⟨_, rfl⟩) h dX11_askAt_22
  · skip
    obtain ⟨g5, h⟩ := gua h
    exact j_throwW F hno (ex := 1) (text := "no such request") rfl (by decide +kernel) q586 q70 (by decide +kernel) at_X11_258 (by decide +kernel) (by decide) (Nat.le_of_ble_eq_true rfl) rfl (by decide) g5 h dX11_askAt_10 dX11_askAt_13 dX11_askAt_14 dX11_askAt_17 dX11_askAt_20
theorem c_X11_askAt (l : Launch) (hl : l.stackTraces = false) (G : Gt) (x0 x1 x2 : Int) (M : Mo) (z : RS) (h : X11_askAt x0 x1 x2 M = some z) : CT l G yX11_askAt (cn yX11_askAt cX11_askAt 4 (some (FieldType.object "ToolPlex$Ask"))) 6 [(false, x0), (false, x1), (true, x2)] M 2 z :=
  ctOf hl (by decide) (Nat.le_of_ble_eq_true rfl) (fun p e R s m args below meth c ρ F hno hnm => w_X11_askAt_0 F hno hnm x0 x1 x2 M h)
theorem dX11_cancel_0 : decode cX11_cancel 0 = .ok (.aload_n 0, 1) := by decide +kernel
theorem dX11_cancel_1 : decode cX11_cancel 1 = .ok (.iload_n 1, 1) := by decide +kernel
theorem dX11_cancel_2 : decode cX11_cancel 2 = .ok (.invokevirtual 134, 3) := by decide +kernel
theorem dX11_cancel_5 : decode cX11_cancel 5 = .ok (.astore_n 3, 1) := by decide +kernel
theorem dX11_cancel_6 : decode cX11_cancel 6 = .ok (.aload_n 0, 1) := by decide +kernel
theorem dX11_cancel_7 : decode cX11_cancel 7 = .ok (.aload_n 3, 1) := by decide +kernel
theorem dX11_cancel_8 : decode cX11_cancel 8 = .ok (.iload_n 2, 1) := by decide +kernel
set_option maxRecDepth 100000 in
theorem q1006 : Cond.code yX11_askAt cX11_askAt 4 (some (FieldType.object "ToolPlex$Ask")) ∈ GT := gt 1006 (rfl) (by decide +kernel)
theorem M_X11_askAt : MY yX11_askAt cX11_askAt 4 (some (FieldType.object "ToolPlex$Ask")) 2 := ⟨q1006, q53, by decide +kernel, by decide +kernel⟩
set_option maxRecDepth 100000 in
theorem q1005 : Cond.instanceMethod yX11_askAt ∈ GT := gt 1005 (by decide +kernel) (by decide +kernel)
set_option maxRecDepth 100000 in
theorem q11 : Cond.selects RX11 yX11_askAt yX11_askAt ∈ GT := gt 11 (by decide +kernel) (by decide +kernel)
set_option maxRecDepth 100000 in
theorem q1003 : Cond.methodLink RX11 207 yX11_askAt ∈ GT := gt 1003 (by decide +kernel) (by decide +kernel)
theorem dX11_cancel_9 : decode cX11_cancel 9 = .ok (.invokevirtual 207, 3) := by decide +kernel
theorem dX11_cancel_12 : decode cX11_cancel 12 = .ok (.astore 4, 2) := by decide +kernel
theorem dX11_cancel_14 : decode cX11_cancel 14 = .ok (.aload 4, 2) := by decide +kernel
set_option maxRecDepth 100000 in
theorem q980 : Cond.fieldLink RX11 211 "ToolPlex$Ask" "standing" "I" ∈ GT := gt 980 (by decide +kernel) (by decide +kernel)
theorem ft_X11_211 : FT RX11 211 RX0 1 RX0 TX0 5 3 := ⟨rfl, by decide, by decide, q980, Or.inl rfl, inGX0⟩
theorem dX11_cancel_16 : decode cX11_cancel 16 = .ok (.getfield 211, 3) := by decide +kernel
theorem dX11_cancel_19 : decode cX11_cancel 19 = .ok (.ifCond .eq 13, 3) := by decide +kernel
theorem dX11_cancel_32 : decode cX11_cancel 32 = .ok (.aload_n 3, 1) := by decide +kernel
theorem dX11_cancel_33 : decode cX11_cancel 33 = .ok (.iload_n 2, 1) := by decide +kernel
theorem dX11_cancel_34 : decode cX11_cancel 34 = .ok (.aload 4, 2) := by decide +kernel
set_option maxRecDepth 100000 in
theorem q1016 : Cond.code yX3_withdraw cX3_withdraw 4 none ∈ GT := gt 1016 (rfl) (by decide +kernel)
theorem M_X3_withdraw : MY yX3_withdraw cX3_withdraw 4 none 2 := ⟨q1016, q60, by decide +kernel, by decide +kernel⟩
set_option maxRecDepth 100000 in
theorem q1014 : Cond.instanceMethod yX3_withdraw ∈ GT := gt 1014 (by decide +kernel) (by decide +kernel)
set_option maxRecDepth 100000 in
theorem q1015 : Cond.selects RX3 yX3_withdraw yX3_withdraw ∈ GT := gt 1015 (by decide +kernel) (by decide +kernel)
set_option maxRecDepth 100000 in
theorem q1013 : Cond.methodLink RX11 218 yX3_withdraw ∈ GT := gt 1013 (by decide +kernel) (by decide +kernel)
theorem dX11_cancel_36 : decode cX11_cancel 36 = .ok (.invokevirtual 218, 3) := by decide +kernel
theorem dX11_cancel_39 : decode cX11_cancel 39 = .ok (.return_, 1) := by decide +kernel
theorem dX11_cancel_22 : decode cX11_cancel 22 = .ok (.new 74, 3) := by decide +kernel
theorem dX11_cancel_25 : decode cX11_cancel 25 = .ok (.dup, 1) := by decide +kernel
theorem dX11_cancel_26 : decode cX11_cancel 26 = .ok (.ldc 216, 2) := by decide +kernel
theorem dX11_cancel_28 : decode cX11_cancel 28 = .ok (.invokespecial 78, 3) := by decide +kernel
theorem dX11_cancel_31 : decode cX11_cancel 31 = .ok (.athrow, 1) := by decide +kernel
set_option maxHeartbeats 4000000 in
set_option maxRecDepth 100000 in
theorem w_X11_cancel_0 {p : Program} {l : Launch} {e : Env} {R : Room} {s : State} {m : MethodId} {args : Array Value} {below : List Frame} {meth : Method} {c : Code} {G : Gt} {ρ0 : Int → Nat} {M0 : Mo} {res : RS} (F : Fx p l R s m args meth c cX11_cancel 5 RX11 G M0 10 none) (hno : ∀ x ∈ c.exceptionTable.toList, False) (hnm : meth.name = yX11_cancel.name) (x0 x1 x2 : Int) (M : Mo) (h : X11_cancel x0 x1 x2 M = some res) : J p l e R s m args below meth c 5 G ρ0 M0 0 res M 0 [(0, (false, x0)), (1, (true, x1)), (2, (true, x2))] [] := by
  unfold X11_cancel at h
  refine j_aload_n F 0 rfl rfl dX11_cancel_0 ?_
  refine j_iload_n F 1 rfl rfl dX11_cancel_1 ?_
  obtain ⟨g4, h⟩ := gua h
  refine j_callV (d' := 6) (argl := [(true, x1)]) (rk9 := 2) (st := []) F hno M_X11_editorAt q668 q6 q666 ⟨by decide, by decide⟩ (Nat.le_of_ble_eq_true rfl) (by decide) (ci := 12) rfl (by decide) g4 dX11_cancel_2 rfl h (fun z hz => c_X11_editorAt l F.ht G x0 x1 M z hz) (fun v1 M2 h kl3 => ?_)
  refine j_st (st' := [(false, v1)]) rfl ?_
  refine j_astore_n F (lv' := [(3, (false, v1)), (0, (false, x0)), (1, (true, x1)), (2, (true, x2))]) rfl (by decide) rfl dX11_cancel_5 ?_
  refine j_aload_n F 1 rfl rfl dX11_cancel_6 ?_
  refine j_aload_n F 0 rfl rfl dX11_cancel_7 ?_
  refine j_iload_n F 3 rfl rfl dX11_cancel_8 ?_
  refine j_callV (d' := 6) (argl := [(false, v1), (true, x2)]) (rk9 := 2) (st := []) F hno M_X11_askAt q1005 q11 q1003 ⟨by decide, by decide⟩ (Nat.le_of_ble_eq_true rfl) (by decide) (ci := 12) rfl (by decide) (kl3.is g4) dX11_cancel_9 rfl h (fun z hz => c_X11_askAt l F.ht G x0 v1 x2 M2 z hz) (fun v5 M6 h kl7 => ?_)
  refine j_st (st' := [(false, v5)]) rfl ?_
  refine j_astore F (lv' := [(4, (false, v5)), (3, (false, v1)), (0, (false, x0)), (1, (true, x1)), (2, (true, x2))]) (by decide) rfl dX11_cancel_12 ?_
  refine j_aload F 0 rfl dX11_cancel_14 ?_
  obtain ⟨g8, h⟩ := gua h
  refine j_get F ft_X11_211 rfl g8 dX11_cancel_16 ?_
  refine j_if_eq F 32 (by decide) dX11_cancel_19 h (fun h => ?_) (fun h => ?_)
  · skip
    refine j_aload_n F 1 rfl rfl dX11_cancel_32 ?_
    refine j_iload_n F 4 rfl rfl dX11_cancel_33 ?_
    refine j_aload F 0 rfl dX11_cancel_34 ?_
    obtain ⟨g12, h⟩ := gua h
    refine j_callV (d' := 9) (argl := [(true, x2), (false, v5)]) (rk9 := 0) (st := []) F hno M_X3_withdraw q1014 q1015 q1013 ⟨by decide, by decide⟩ (Nat.le_of_ble_eq_true rfl) (by decide) (ci := 4) rfl (by decide) g12 dX11_cancel_36 rfl h (fun z hz => c_X3_withdraw l F.ht G v1 x2 v5 M6 z hz) (fun v9 M10 h kl11 => ?_)
    refine j_st (st' := []) rfl ?_
    exact j_vret F (v := 0) h dX11_cancel_39
  · skip
    obtain ⟨g13, h⟩ := gua h
    exact j_throw F hno (ex := 3) (text := "the request does not wait") rfl (by decide +kernel) q422 q69 (by decide +kernel) at_X11_78 (by decide +kernel) (by decide) (Nat.le_of_ble_eq_true rfl) rfl (by decide) g13 h dX11_cancel_22 dX11_cancel_25 dX11_cancel_26 dX11_cancel_28 dX11_cancel_31
theorem c_X11_cancel (l : Launch) (hl : l.stackTraces = false) (G : Gt) (x0 x1 x2 : Int) (M : Mo) (z : RS) (h : X11_cancel x0 x1 x2 M = some z) : CT l G yX11_cancel (cn yX11_cancel cX11_cancel 5 none) 10 [(false, x0), (true, x1), (true, x2)] M 0 z :=
  ctOf hl (by decide) (Nat.le_of_ble_eq_true rfl) (fun p e R s m args below meth c ρ F hno hnm => w_X11_cancel_0 F hno hnm x0 x1 x2 M h)
theorem dX11_apply_0 : decode cX11_apply 0 = .ok (.aload_n 0, 1) := by decide +kernel
theorem dX11_apply_1 : decode cX11_apply 1 = .ok (.iload_n 1, 1) := by decide +kernel
theorem dX11_apply_2 : decode cX11_apply 2 = .ok (.invokevirtual 134, 3) := by decide +kernel
theorem dX11_apply_5 : decode cX11_apply 5 = .ok (.astore_n 3, 1) := by decide +kernel
theorem dX11_apply_6 : decode cX11_apply 6 = .ok (.aload_n 0, 1) := by decide +kernel
theorem dX11_apply_7 : decode cX11_apply 7 = .ok (.aload_n 3, 1) := by decide +kernel
theorem dX11_apply_8 : decode cX11_apply 8 = .ok (.iload_n 2, 1) := by decide +kernel
theorem dX11_apply_9 : decode cX11_apply 9 = .ok (.invokevirtual 207, 3) := by decide +kernel
theorem dX11_apply_12 : decode cX11_apply 12 = .ok (.astore 4, 2) := by decide +kernel
theorem dX11_apply_14 : decode cX11_apply 14 = .ok (.aload 4, 2) := by decide +kernel
set_option maxRecDepth 100000 in
theorem q973 : Cond.fieldLink RX11 222 "ToolPlex$Ask" "kind" "I" ∈ GT := gt 973 (by decide +kernel) (by decide +kernel)
theorem ft_X11_222 : FT RX11 222 RX0 1 RX0 TX0 5 0 := ⟨rfl, by decide, by decide, q973, Or.inl rfl, inGX0⟩
theorem dX11_apply_16 : decode cX11_apply 16 = .ok (.getfield 222, 3) := by decide +kernel
theorem dX11_apply_19 : decode cX11_apply 19 = .ok (.invokestatic 192, 3) := by decide +kernel
theorem dX11_apply_22 : decode cX11_apply 22 = .ok (.ifCond .eq 23, 3) := by decide +kernel
theorem dX11_apply_45 : decode cX11_apply 45 = .ok (.new 74, 3) := by decide +kernel
theorem dX11_apply_48 : decode cX11_apply 48 = .ok (.dup, 1) := by decide +kernel
theorem dX11_apply_49 : decode cX11_apply 49 = .ok (.ldc 232, 2) := by decide +kernel
theorem dX11_apply_51 : decode cX11_apply 51 = .ok (.invokespecial 78, 3) := by decide +kernel
theorem dX11_apply_54 : decode cX11_apply 54 = .ok (.athrow, 1) := by decide +kernel
theorem dX11_apply_25 : decode cX11_apply 25 = .ok (.aload 4, 2) := by decide +kernel
theorem dX11_apply_27 : decode cX11_apply 27 = .ok (.getfield 211, 3) := by decide +kernel
theorem dX11_apply_30 : decode cX11_apply 30 = .ok (.iconst 1, 1) := by decide +kernel
theorem dX11_apply_31 : decode cX11_apply 31 = .ok (.if_icmp .ne 14, 3) := by decide +kernel
theorem dX11_apply_34 : decode cX11_apply 34 = .ok (.aload 4, 2) := by decide +kernel
set_option maxRecDepth 100000 in
theorem q983 : Cond.fieldLink RX11 225 "ToolPlex$Ask" "items" "LToolPlex$Items;" ∈ GT := gt 983 (by decide +kernel) (by decide +kernel)
theorem ft_X11_225 : FT RX11 225 RX0 1 RX0 TX0 5 4 := ⟨rfl, by decide, by decide, q983, Or.inl rfl, inGX0⟩
theorem dX11_apply_36 : decode cX11_apply 36 = .ok (.getfield 225, 3) := by decide +kernel
set_option maxRecDepth 100000 in
theorem q1021 : Cond.methodLink RX11 229 yX5_size ∈ GT := gt 1021 (by decide +kernel) (by decide +kernel)
theorem dX11_apply_39 : decode cX11_apply 39 = .ok (.invokevirtual 229, 3) := by decide +kernel
theorem dX11_apply_42 : decode cX11_apply 42 = .ok (.ifCond .ne 13, 3) := by decide +kernel
theorem dX11_apply_55 : decode cX11_apply 55 = .ok (.aload_n 3, 1) := by decide +kernel
theorem dX11_apply_56 : decode cX11_apply 56 = .ok (.aload 4, 2) := by decide +kernel
set_option maxRecDepth 100000 in
theorem q1029 : Cond.code yX3_canApply cX3_canApply 4 (some FieldType.boolean) ∈ GT := gt 1029 (rfl) (by decide +kernel)
theorem M_X3_canApply : MY yX3_canApply cX3_canApply 4 (some FieldType.boolean) 1 := ⟨q1029, q60, by decide +kernel, by decide +kernel⟩
set_option maxRecDepth 100000 in
theorem q1027 : Cond.instanceMethod yX3_canApply ∈ GT := gt 1027 (by decide +kernel) (by decide +kernel)
set_option maxRecDepth 100000 in
theorem q1028 : Cond.selects RX3 yX3_canApply yX3_canApply ∈ GT := gt 1028 (by decide +kernel) (by decide +kernel)
set_option maxRecDepth 100000 in
theorem q1026 : Cond.methodLink RX11 234 yX3_canApply ∈ GT := gt 1026 (by decide +kernel) (by decide +kernel)
theorem dX11_apply_58 : decode cX11_apply 58 = .ok (.invokevirtual 234, 3) := by decide +kernel
theorem dX11_apply_61 : decode cX11_apply 61 = .ok (.ifCond .ne 13, 3) := by decide +kernel
theorem dX11_apply_74 : decode cX11_apply 74 = .ok (.aload 4, 2) := by decide +kernel
theorem dX11_apply_76 : decode cX11_apply 76 = .ok (.getfield 222, 3) := by decide +kernel
theorem dX11_apply_79 : decode cX11_apply 79 = .ok (.iconst 4, 1) := by decide +kernel
theorem dX11_apply_80 : decode cX11_apply 80 = .ok (.if_icmp .ne 12, 3) := by decide +kernel
theorem dX11_apply_92 : decode cX11_apply 92 = .ok (.aload_n 3, 1) := by decide +kernel
theorem dX11_apply_93 : decode cX11_apply 93 = .ok (.aload 4, 2) := by decide +kernel
set_option maxRecDepth 100000 in
theorem q1071 : Cond.code yX3_applyExtract cX3_applyExtract 5 (some FieldType.int) ∈ GT := gt 1071 (rfl) (by decide +kernel)
theorem M_X3_applyExtract : MY yX3_applyExtract cX3_applyExtract 5 (some FieldType.int) 1 := ⟨q1071, q60, by decide +kernel, by decide +kernel⟩
set_option maxRecDepth 100000 in
theorem q1069 : Cond.instanceMethod yX3_applyExtract ∈ GT := gt 1069 (by decide +kernel) (by decide +kernel)
set_option maxRecDepth 100000 in
theorem q1070 : Cond.selects RX3 yX3_applyExtract yX3_applyExtract ∈ GT := gt 1070 (by decide +kernel) (by decide +kernel)
set_option maxRecDepth 100000 in
theorem q1068 : Cond.methodLink RX11 244 yX3_applyExtract ∈ GT := gt 1068 (by decide +kernel) (by decide +kernel)
theorem dX11_apply_95 : decode cX11_apply 95 = .ok (.invokevirtual 244, 3) := by decide +kernel
theorem dX11_apply_98 : decode cX11_apply 98 = .ok (.ireturn, 1) := by decide +kernel
theorem dX11_apply_83 : decode cX11_apply 83 = .ok (.aload_n 3, 1) := by decide +kernel
theorem dX11_apply_84 : decode cX11_apply 84 = .ok (.aload 4, 2) := by decide +kernel
set_option maxRecDepth 100000 in
theorem q1042 : Cond.code yX3_applyRename cX3_applyRename 6 (some FieldType.int) ∈ GT := gt 1042 (rfl) (by decide +kernel)
theorem M_X3_applyRename : MY yX3_applyRename cX3_applyRename 6 (some FieldType.int) 1 := ⟨q1042, q60, by decide +kernel, by decide +kernel⟩
set_option maxRecDepth 100000 in
theorem q1040 : Cond.instanceMethod yX3_applyRename ∈ GT := gt 1040 (by decide +kernel) (by decide +kernel)
set_option maxRecDepth 100000 in
theorem q1041 : Cond.selects RX3 yX3_applyRename yX3_applyRename ∈ GT := gt 1041 (by decide +kernel) (by decide +kernel)
set_option maxRecDepth 100000 in
theorem q1039 : Cond.methodLink RX11 240 yX3_applyRename ∈ GT := gt 1039 (by decide +kernel) (by decide +kernel)
theorem dX11_apply_86 : decode cX11_apply 86 = .ok (.invokevirtual 240, 3) := by decide +kernel
theorem dX11_apply_89 : decode cX11_apply 89 = .ok (.goto 9, 3) := by decide +kernel
theorem dX11_apply_64 : decode cX11_apply 64 = .ok (.new 74, 3) := by decide +kernel
theorem dX11_apply_67 : decode cX11_apply 67 = .ok (.dup, 1) := by decide +kernel
theorem dX11_apply_68 : decode cX11_apply 68 = .ok (.ldc 238, 2) := by decide +kernel
theorem dX11_apply_70 : decode cX11_apply 70 = .ok (.invokespecial 78, 3) := by decide +kernel
theorem dX11_apply_73 : decode cX11_apply 73 = .ok (.athrow, 1) := by decide +kernel
set_option maxHeartbeats 4000000 in
set_option maxRecDepth 100000 in
theorem w_X11_apply_0 {p : Program} {l : Launch} {e : Env} {R : Room} {s : State} {m : MethodId} {args : Array Value} {below : List Frame} {meth : Method} {c : Code} {G : Gt} {ρ0 : Int → Nat} {M0 : Mo} {res : RS} (F : Fx p l R s m args meth c cX11_apply 5 RX11 G M0 12 (some FieldType.int)) (hno : ∀ x ∈ c.exceptionTable.toList, False) (hnm : meth.name = yX11_apply.name) (x0 x1 x2 : Int) (M : Mo) (h : X11_apply x0 x1 x2 M = some res) : J p l e R s m args below meth c 5 G ρ0 M0 1 res M 0 [(0, (false, x0)), (1, (true, x1)), (2, (true, x2))] [] := by
  unfold X11_apply at h
  refine j_aload_n F 0 rfl rfl dX11_apply_0 ?_
  refine j_iload_n F 1 rfl rfl dX11_apply_1 ?_
  obtain ⟨g4, h⟩ := gua h
  refine j_callV (d' := 6) (argl := [(true, x1)]) (rk9 := 2) (st := []) F hno M_X11_editorAt q668 q6 q666 ⟨by decide, by decide⟩ (Nat.le_of_ble_eq_true rfl) (by decide) (ci := 12) rfl (by decide) g4 dX11_apply_2 rfl h (fun z hz => c_X11_editorAt l F.ht G x0 x1 M z hz) (fun v1 M2 h kl3 => ?_)
  refine j_st (st' := [(false, v1)]) rfl ?_
  refine j_astore_n F (lv' := [(3, (false, v1)), (0, (false, x0)), (1, (true, x1)), (2, (true, x2))]) rfl (by decide) rfl dX11_apply_5 ?_
  refine j_aload_n F 1 rfl rfl dX11_apply_6 ?_
  refine j_aload_n F 0 rfl rfl dX11_apply_7 ?_
  refine j_iload_n F 3 rfl rfl dX11_apply_8 ?_
  refine j_callV (d' := 6) (argl := [(false, v1), (true, x2)]) (rk9 := 2) (st := []) F hno M_X11_askAt q1005 q11 q1003 ⟨by decide, by decide⟩ (Nat.le_of_ble_eq_true rfl) (by decide) (ci := 12) rfl (by decide) (kl3.is g4) dX11_apply_9 rfl h (fun z hz => c_X11_askAt l F.ht G x0 v1 x2 M2 z hz) (fun v5 M6 h kl7 => ?_)
  refine j_st (st' := [(false, v5)]) rfl ?_
  refine j_astore F (lv' := [(4, (false, v5)), (3, (false, v1)), (0, (false, x0)), (1, (true, x1)), (2, (true, x2))]) (by decide) rfl dX11_apply_12 ?_
  refine j_aload F 0 rfl dX11_apply_14 ?_
  obtain ⟨g8, h⟩ := gua h
  refine j_get F ft_X11_222 rfl g8 dX11_apply_16 ?_
  refine j_callS (d' := 0) (argl := [(true, (fd M6 1 0 v5))]) (rk9 := 1) (st := []) F hno M_X11_isEdit q952 q951 ⟨by decide, by decide⟩ (Nat.le_of_ble_eq_true rfl) (by decide) dX11_apply_19 rfl h (fun z hz => c_X11_isEdit l F.ht G (fd M6 1 0 v5) M6 z hz) (fun v9 M10 h kl11 => ?_)
  refine j_st (st' := [(true, v9)]) rfl ?_
  refine j_if_eq F 45 (by decide) dX11_apply_22 h (fun h => ?_) (fun h => ?_)
  · skip
    obtain ⟨g12, h⟩ := gua h
    exact j_throw F hno (ex := 3) (text := "there is no edit to apply") rfl (by decide +kernel) q422 q69 (by decide +kernel) at_X11_78 (by decide +kernel) (by decide) (Nat.le_of_ble_eq_true rfl) rfl (by decide) g12 h dX11_apply_45 dX11_apply_48 dX11_apply_49 dX11_apply_51 dX11_apply_54
  · skip
    refine j_aload F 0 rfl dX11_apply_25 ?_
    refine j_get F ft_X11_211 rfl (kl11.is g8) dX11_apply_27 ?_
    refine j_iconst F dX11_apply_30 ?_
    refine j_icmp_ne F 45 (by decide) dX11_apply_31 h (fun h => ?_) (fun h => ?_)
    · skip
      obtain ⟨g13, h⟩ := gua h
      exact j_throw F hno (ex := 3) (text := "there is no edit to apply") rfl (by decide +kernel) q422 q69 (by decide +kernel) at_X11_78 (by decide +kernel) (by decide) (Nat.le_of_ble_eq_true rfl) rfl (by decide) g13 h dX11_apply_45 dX11_apply_48 dX11_apply_49 dX11_apply_51 dX11_apply_54
    · skip
      refine j_aload F 0 rfl dX11_apply_34 ?_
      refine j_get F ft_X11_225 rfl (kl11.is g8) dX11_apply_36 ?_
      obtain ⟨g17, h⟩ := gua h
      refine j_callV (d' := 0) (argl := []) (rk9 := 1) (st := []) F hno M_X5_size q1022 q1023 q1021 ⟨by decide, by decide⟩ (Nat.le_of_ble_eq_true rfl) (by decide) (ci := 6) rfl (by decide) g17 dX11_apply_39 rfl h (fun z hz => c_X5_size l F.ht G (fd M10 1 4 v5) M10 z hz) (fun v14 M15 h kl16 => ?_)
      refine j_st (st' := [(true, v14)]) rfl ?_
      refine j_if_ne F 55 (by decide) dX11_apply_42 h (fun h => ?_) (fun h => ?_)
      · skip
        refine j_aload_n F 1 rfl rfl dX11_apply_55 ?_
        refine j_aload F 0 rfl dX11_apply_56 ?_
        obtain ⟨g21, h⟩ := gua h
        refine j_callV (d' := 2) (argl := [(false, v5)]) (rk9 := 1) (st := []) F hno M_X3_canApply q1027 q1028 q1026 ⟨by decide, by decide⟩ (Nat.le_of_ble_eq_true rfl) (by decide) (ci := 4) rfl (by decide) g21 dX11_apply_58 rfl h (fun z hz => c_X3_canApply l F.ht G v1 v5 M15 z hz) (fun v18 M19 h kl20 => ?_)
        refine j_st (st' := [(true, v18)]) rfl ?_
        refine j_if_ne F 74 (by decide) dX11_apply_61 h (fun h => ?_) (fun h => ?_)
        · skip
          refine j_aload F 0 rfl dX11_apply_74 ?_
          refine j_get F ft_X11_222 rfl (kl20.is (kl16.is (kl11.is g8))) dX11_apply_76 ?_
          refine j_iconst F dX11_apply_79 ?_
          refine j_icmp_ne F 92 (by decide) dX11_apply_80 h (fun h => ?_) (fun h => ?_)
          · skip
            refine j_aload_n F 1 rfl rfl dX11_apply_92 ?_
            refine j_aload F 0 rfl dX11_apply_93 ?_
            refine j_callV (d' := 11) (argl := [(false, v5)]) (rk9 := 1) (st := []) F hno M_X3_applyExtract q1069 q1070 q1068 ⟨by decide, by decide⟩ (Nat.le_of_ble_eq_true rfl) (by decide) (ci := 4) rfl (by decide) (kl20.is g21) dX11_apply_95 rfl h (fun z hz => c_X3_applyExtract l F.ht G v1 v5 M19 z hz) (fun v22 M23 h kl24 => ?_)
            refine j_st (st' := [(true, v22)]) rfl ?_
            exact j_iret F h dX11_apply_98
          · skip
            refine j_aload_n F 1 rfl rfl dX11_apply_83 ?_
            refine j_aload F 0 rfl dX11_apply_84 ?_
            refine j_callV (d' := 11) (argl := [(false, v5)]) (rk9 := 1) (st := []) F hno M_X3_applyRename q1040 q1041 q1039 ⟨by decide, by decide⟩ (Nat.le_of_ble_eq_true rfl) (by decide) (ci := 4) rfl (by decide) (kl20.is g21) dX11_apply_86 rfl h (fun z hz => c_X3_applyRename l F.ht G v1 v5 M19 z hz) (fun v25 M26 h kl27 => ?_)
            refine j_st (st' := [(true, v25)]) rfl ?_
            refine j_goto F 98 (by decide) dX11_apply_89 ?_
            exact j_iret F h dX11_apply_98
        · skip
          obtain ⟨g28, h⟩ := gua h
          exact j_throw F hno (ex := 3) (text := "the name is taken, or there are too many files") rfl (by decide +kernel) q422 q69 (by decide +kernel) at_X11_78 (by decide +kernel) (by decide) (Nat.le_of_ble_eq_true rfl) rfl (by decide) g28 h dX11_apply_64 dX11_apply_67 dX11_apply_68 dX11_apply_70 dX11_apply_73
      · skip
        obtain ⟨g29, h⟩ := gua h
        exact j_throw F hno (ex := 3) (text := "there is no edit to apply") rfl (by decide +kernel) q422 q69 (by decide +kernel) at_X11_78 (by decide +kernel) (by decide) (Nat.le_of_ble_eq_true rfl) rfl (by decide) g29 h dX11_apply_45 dX11_apply_48 dX11_apply_49 dX11_apply_51 dX11_apply_54
theorem c_X11_apply (l : Launch) (hl : l.stackTraces = false) (G : Gt) (x0 x1 x2 : Int) (M : Mo) (z : RS) (h : X11_apply x0 x1 x2 M = some z) : CT l G yX11_apply (cn yX11_apply cX11_apply 5 (some FieldType.int)) 12 [(false, x0), (true, x1), (true, x2)] M 1 z :=
  ctOf hl (by decide) (Nat.le_of_ble_eq_true rfl) (fun p e R s m args below meth c ρ F hno hnm => w_X11_apply_0 F hno hnm x0 x1 x2 M h)
theorem dX11_serverAt_0 : decode cX11_serverAt 0 = .ok (.iload_n 1, 1) := by decide +kernel
theorem dX11_serverAt_1 : decode cX11_serverAt 1 = .ok (.ifCond .lt 14, 3) := by decide +kernel
theorem dX11_serverAt_15 : decode cX11_serverAt 15 = .ok (.new 254, 3) := by decide +kernel
theorem dX11_serverAt_18 : decode cX11_serverAt 18 = .ok (.dup, 1) := by decide +kernel
theorem dX11_serverAt_19 : decode cX11_serverAt 19 = .ok (.ldc_w 360, 3) := by decide +kernel
theorem dX11_serverAt_22 : decode cX11_serverAt 22 = .ok (.invokespecial 258, 3) := by decide +kernel
theorem dX11_serverAt_25 : decode cX11_serverAt 25 = .ok (.athrow, 1) := by decide +kernel
theorem dX11_serverAt_4 : decode cX11_serverAt 4 = .ok (.iload_n 1, 1) := by decide +kernel
theorem dX11_serverAt_5 : decode cX11_serverAt 5 = .ok (.aload_n 0, 1) := by decide +kernel
theorem dX11_serverAt_6 : decode cX11_serverAt 6 = .ok (.getfield 43, 3) := by decide +kernel
theorem dX11_serverAt_9 : decode cX11_serverAt 9 = .ok (.invokevirtual 113, 3) := by decide +kernel
theorem dX11_serverAt_12 : decode cX11_serverAt 12 = .ok (.if_icmp .lt 14, 3) := by decide +kernel
theorem dX11_serverAt_26 : decode cX11_serverAt 26 = .ok (.aload_n 0, 1) := by decide +kernel
theorem dX11_serverAt_27 : decode cX11_serverAt 27 = .ok (.getfield 43, 3) := by decide +kernel
theorem dX11_serverAt_30 : decode cX11_serverAt 30 = .ok (.iload_n 1, 1) := by decide +kernel
set_option maxRecDepth 100000 in
theorem q1087 : Cond.methodLink RX11 328 yJx4a65c_get_915e3 ∈ GT := gt 1087 (by decide +kernel) (by decide +kernel)
theorem dX11_serverAt_31 : decode cX11_serverAt 31 = .ok (.invokevirtual 328, 3) := by decide +kernel
theorem dX11_serverAt_34 : decode cX11_serverAt 34 = .ok (.checkcast 122, 3) := by decide +kernel
theorem dX11_serverAt_37 : decode cX11_serverAt 37 = .ok (.areturn, 1) := by decide +kernel
set_option maxHeartbeats 4000000 in
set_option maxRecDepth 100000 in
theorem w_X11_serverAt_0 {p : Program} {l : Launch} {e : Env} {R : Room} {s : State} {m : MethodId} {args : Array Value} {below : List Frame} {meth : Method} {c : Code} {G : Gt} {ρ0 : Int → Nat} {M0 : Mo} {res : RS} (F : Fx p l R s m args meth c cX11_serverAt 2 RX11 G M0 6 (some (FieldType.object "ToolPlex$Server"))) (hno : ∀ x ∈ c.exceptionTable.toList, False) (hnm : meth.name = yX11_serverAt.name) (x0 x1 : Int) (M : Mo) (h : X11_serverAt x0 x1 M = some res) : J p l e R s m args below meth c 2 G ρ0 M0 2 res M 0 [(0, (false, x0)), (1, (true, x1))] [] := by
  unfold X11_serverAt at h
  refine j_iload_n F 1 rfl rfl dX11_serverAt_0 ?_
  refine j_if_lt F 15 (by decide) dX11_serverAt_1 h (fun h => ?_) (fun h => ?_)
  · skip
    obtain ⟨g1, h⟩ := gua h
    exact j_throwW F hno (ex := 1) (text := "no such server") rfl (by decide +kernel) q586 q70 (by decide +kernel) at_X11_258 (by decide +kernel) (by decide) (Nat.le_of_ble_eq_true rfl) rfl (by decide) g1 h dX11_serverAt_15 dX11_serverAt_18 dX11_serverAt_19 dX11_serverAt_22 dX11_serverAt_25
  · skip
    refine j_iload_n F 1 rfl rfl dX11_serverAt_4 ?_
    refine j_aload_n F 0 rfl rfl dX11_serverAt_5 ?_
    obtain ⟨g2, h⟩ := gua h
    refine j_get F ft_X11_43 rfl g2 dX11_serverAt_6 ?_
    obtain ⟨g6, h⟩ := gua h
    refine j_callV (d' := 0) (argl := []) (rk9 := 1) (st := [(true, x1)]) F hno M_Jx4a65c_size_8abf5 q448 q449 q447 ⟨by decide, by decide⟩ (Nat.le_of_ble_eq_true rfl) (by decide) (ci := 0) rfl (by decide) g6 dX11_serverAt_9 rfl h (fun z hz => c_Jx4a65c_size_8abf5 l F.ht G (fd M 12 3 x0) M z hz) (fun v3 M4 h kl5 => ?_)
    refine j_st (st' := [(true, v3), (true, x1)]) rfl ?_
    refine j_icmp_lt F 26 (by decide) dX11_serverAt_12 h (fun h => ?_) (fun h => ?_)
    · skip
      refine j_aload_n F 0 rfl rfl dX11_serverAt_26 ?_
      refine j_get F ft_X11_43 rfl (kl5.is g2) dX11_serverAt_27 ?_
      refine j_iload_n F 1 rfl rfl dX11_serverAt_30 ?_
      obtain ⟨g10, h⟩ := gua h
      refine j_callV (d' := 2) (argl := [(true, x1)]) (rk9 := 2) (st := []) F hno M_Jx4a65c_get_915e3 q856 q857 q1087 ⟨by decide, by decide⟩ (Nat.le_of_ble_eq_true rfl) (by decide) (ci := 0) rfl (by decide) g10 dX11_serverAt_31 rfl h (fun z hz => c_Jx4a65c_get_915e3 l F.ht G (fd M4 12 3 x0) x1 M4 z hz) (fun v7 M8 h kl9 => ?_)
      refine j_st (st' := [(false, v7)]) rfl ?_
      obtain ⟨g11, h⟩ := gua h
      refine j_cast F q472 rfl (by decide) g11 dX11_serverAt_34 ?_
      exact j_aret F (Or.inl ⟨_, rfl⟩) h dX11_serverAt_37
    · skip
      obtain ⟨g12, h⟩ := gua h
      exact j_throwW F hno (ex := 1) (text := "no such server") rfl (by decide +kernel) q586 q70 (by decide +kernel) at_X11_258 (by decide +kernel) (by decide) (Nat.le_of_ble_eq_true rfl) rfl (by decide) g12 h dX11_serverAt_15 dX11_serverAt_18 dX11_serverAt_19 dX11_serverAt_22 dX11_serverAt_25
theorem c_X11_serverAt (l : Launch) (hl : l.stackTraces = false) (G : Gt) (x0 x1 : Int) (M : Mo) (z : RS) (h : X11_serverAt x0 x1 M = some z) : CT l G yX11_serverAt (cn yX11_serverAt cX11_serverAt 2 (some (FieldType.object "ToolPlex$Server"))) 6 [(false, x0), (true, x1)] M 2 z :=
  ctOf hl (by decide) (Nat.le_of_ble_eq_true rfl) (fun p e R s m args below meth c ρ F hno hnm => w_X11_serverAt_0 F hno hnm x0 x1 M h)
theorem dX11_send_0 : decode cX11_send 0 = .ok (.iload_n 1, 1) := by decide +kernel
theorem dX11_send_1 : decode cX11_send 1 = .ok (.ifCond .lt 22, 3) := by decide +kernel
theorem dX11_send_23 : decode cX11_send 23 = .ok (.return_, 1) := by decide +kernel
theorem dX11_send_4 : decode cX11_send 4 = .ok (.iload_n 1, 1) := by decide +kernel
theorem dX11_send_5 : decode cX11_send 5 = .ok (.aload_n 0, 1) := by decide +kernel
theorem dX11_send_6 : decode cX11_send 6 = .ok (.getfield 47, 3) := by decide +kernel
theorem dX11_send_9 : decode cX11_send 9 = .ok (.arraylength, 1) := by decide +kernel
theorem dX11_send_10 : decode cX11_send 10 = .ok (.if_icmp .ge 13, 3) := by decide +kernel
theorem dX11_send_13 : decode cX11_send 13 = .ok (.aload_n 0, 1) := by decide +kernel
theorem dX11_send_14 : decode cX11_send 14 = .ok (.getfield 47, 3) := by decide +kernel
theorem dX11_send_17 : decode cX11_send 17 = .ok (.iload_n 1, 1) := by decide +kernel
theorem dX11_send_18 : decode cX11_send 18 = .ok (.aaload, 1) := by decide +kernel
theorem dX11_send_19 : decode cX11_send 19 = .ok (.aload_n 2, 1) := by decide +kernel
set_option maxRecDepth 100000 in
theorem q1207 : Cond.methodLink RX11 383 yX1_send ∈ GT := gt 1207 (by decide +kernel) (by decide +kernel)
theorem dX11_send_20 : decode cX11_send 20 = .ok (.invokevirtual 383, 3) := by decide +kernel
set_option maxHeartbeats 4000000 in
set_option maxRecDepth 100000 in
theorem w_X11_send_0 {p : Program} {l : Launch} {e : Env} {R : Room} {s : State} {m : MethodId} {args : Array Value} {below : List Frame} {meth : Method} {c : Code} {G : Gt} {ρ0 : Int → Nat} {M0 : Mo} {res : RS} (F : Fx p l R s m args meth c cX11_send 3 RX11 G M0 8 none) (hno : ∀ x ∈ c.exceptionTable.toList, False) (hnm : meth.name = yX11_send.name) (x0 x1 x2 : Int) (M : Mo) (h : X11_send x0 x1 x2 M = some res) : J p l e R s m args below meth c 3 G ρ0 M0 0 res M 0 [(0, (false, x0)), (1, (true, x1)), (2, (false, x2))] [] := by
  unfold X11_send at h
  refine j_iload_n F 1 rfl rfl dX11_send_0 ?_
  refine j_if_lt F 23 (by decide) dX11_send_1 h (fun h => ?_) (fun h => ?_)
  · skip
    exact j_vret F (v := 0) h dX11_send_23
  · skip
    refine j_iload_n F 1 rfl rfl dX11_send_4 ?_
    refine j_aload_n F 0 rfl rfl dX11_send_5 ?_
    obtain ⟨g1, h⟩ := gua h
    refine j_get F ft_X11_47 rfl g1 dX11_send_6 ?_
    obtain ⟨g2, h⟩ := gua h
    refine j_alen F g2 dX11_send_9 ?_
    refine j_icmp_ge F 23 (by decide) dX11_send_10 h (fun h => ?_) (fun h => ?_)
    · skip
      exact j_vret F (v := 0) h dX11_send_23
    · skip
      refine j_aload_n F 0 rfl rfl dX11_send_13 ?_
      refine j_get F ft_X11_47 rfl g1 dX11_send_14 ?_
      refine j_iload_n F 1 rfl rfl dX11_send_17 ?_
      obtain ⟨g3, h⟩ := gua h
      obtain ⟨g4, h⟩ := gua h
      refine j_aaload F 14 7 g3 (by decide) rfl g4 dX11_send_18 ?_
      refine j_aload_n F 2 rfl rfl dX11_send_19 ?_
      obtain ⟨g8, h⟩ := gua h
      refine j_callV (d' := 7) (argl := [(false, x2)]) (rk9 := 0) (st := []) F hno M_X1_send q820 q821 q1207 ⟨by decide, by decide⟩ (Nat.le_of_ble_eq_true rfl) (by decide) (ci := 2) rfl (by decide) g8 dX11_send_20 rfl h (fun z hz => c_X1_send l F.ht G (el M 14 (fd M 12 1 x0) (wr x1)) x2 M z hz) (fun v5 M6 h kl7 => ?_)
      refine j_st (st' := []) rfl ?_
      exact j_vret F (v := 0) h dX11_send_23
theorem c_X11_send (l : Launch) (hl : l.stackTraces = false) (G : Gt) (x0 x1 x2 : Int) (M : Mo) (z : RS) (h : X11_send x0 x1 x2 M = some z) : CT l G yX11_send (cn yX11_send cX11_send 3 none) 8 [(false, x0), (true, x1), (false, x2)] M 0 z :=
  ctOf hl (by decide) (Nat.le_of_ble_eq_true rfl) (fun p e R s m args below meth c ρ F hno hnm => w_X11_send_0 F hno hnm x0 x1 x2 M h)
theorem dX11_answer_0 : decode cX11_answer 0 = .ok (.aload_n 0, 1) := by decide +kernel
theorem dX11_answer_1 : decode cX11_answer 1 = .ok (.iload_n 1, 1) := by decide +kernel
set_option maxRecDepth 100000 in
theorem q1085 : Cond.code yX11_serverAt cX11_serverAt 2 (some (FieldType.object "ToolPlex$Server")) ∈ GT := gt 1085 (rfl) (by decide +kernel)
theorem M_X11_serverAt : MY yX11_serverAt cX11_serverAt 2 (some (FieldType.object "ToolPlex$Server")) 1 := ⟨q1085, q53, by decide +kernel, by decide +kernel⟩
set_option maxRecDepth 100000 in
theorem q1084 : Cond.instanceMethod yX11_serverAt ∈ GT := gt 1084 (by decide +kernel) (by decide +kernel)
set_option maxRecDepth 100000 in
theorem q13 : Cond.selects RX11 yX11_serverAt yX11_serverAt ∈ GT := gt 13 (by decide +kernel) (by decide +kernel)
set_option maxRecDepth 100000 in
theorem q1082 : Cond.methodLink RX11 247 yX11_serverAt ∈ GT := gt 1082 (by decide +kernel) (by decide +kernel)
theorem dX11_answer_2 : decode cX11_answer 2 = .ok (.invokevirtual 247, 3) := by decide +kernel
theorem dX11_answer_5 : decode cX11_answer 5 = .ok (.astore_n 3, 1) := by decide +kernel
theorem dX11_answer_6 : decode cX11_answer 6 = .ok (.iload_n 2, 1) := by decide +kernel
theorem dX11_answer_7 : decode cX11_answer 7 = .ok (.ifCond .lt 11, 3) := by decide +kernel
theorem dX11_answer_18 : decode cX11_answer 18 = .ok (.new 254, 3) := by decide +kernel
theorem dX11_answer_21 : decode cX11_answer 21 = .ok (.dup, 1) := by decide +kernel
theorem dX11_answer_22 : decode cX11_answer 22 = .ok (.ldc_w 256, 3) := by decide +kernel
theorem dX11_answer_25 : decode cX11_answer 25 = .ok (.invokespecial 258, 3) := by decide +kernel
theorem dX11_answer_28 : decode cX11_answer 28 = .ok (.athrow, 1) := by decide +kernel
theorem dX11_answer_10 : decode cX11_answer 10 = .ok (.iload_n 2, 1) := by decide +kernel
theorem dX11_answer_11 : decode cX11_answer 11 = .ok (.aload_n 3, 1) := by decide +kernel
set_option maxRecDepth 100000 in
theorem q1091 : Cond.code yX9_requests cX9_requests 1 (some FieldType.int) ∈ GT := gt 1091 (rfl) (by decide +kernel)
theorem M_X9_requests : MY yX9_requests cX9_requests 1 (some FieldType.int) 0 := ⟨q1091, q72, by decide +kernel, by decide +kernel⟩
set_option maxRecDepth 100000 in
theorem q1089 : Cond.instanceMethod yX9_requests ∈ GT := gt 1089 (by decide +kernel) (by decide +kernel)
set_option maxRecDepth 100000 in
theorem q1090 : Cond.selects RX9 yX9_requests yX9_requests ∈ GT := gt 1090 (by decide +kernel) (by decide +kernel)
set_option maxRecDepth 100000 in
theorem q1088 : Cond.methodLink RX11 251 yX9_requests ∈ GT := gt 1088 (by decide +kernel) (by decide +kernel)
theorem dX11_answer_12 : decode cX11_answer 12 = .ok (.invokevirtual 251, 3) := by decide +kernel
theorem dX11_answer_15 : decode cX11_answer 15 = .ok (.if_icmp .lt 14, 3) := by decide +kernel
theorem dX11_answer_29 : decode cX11_answer 29 = .ok (.aload_n 3, 1) := by decide +kernel
theorem dX11_answer_30 : decode cX11_answer 30 = .ok (.iload_n 2, 1) := by decide +kernel
set_option maxRecDepth 100000 in
theorem q1096 : Cond.code yX9_answerTo cX9_answerTo 5 (some (FieldType.object "ToolPlex$Message")) ∈ GT := gt 1096 (rfl) (by decide +kernel)
theorem M_X9_answerTo : MY yX9_answerTo cX9_answerTo 5 (some (FieldType.object "ToolPlex$Message")) 1 := ⟨q1096, q72, by decide +kernel, by decide +kernel⟩
set_option maxRecDepth 100000 in
theorem q1094 : Cond.instanceMethod yX9_answerTo ∈ GT := gt 1094 (by decide +kernel) (by decide +kernel)
set_option maxRecDepth 100000 in
theorem q1095 : Cond.selects RX9 yX9_answerTo yX9_answerTo ∈ GT := gt 1095 (by decide +kernel) (by decide +kernel)
set_option maxRecDepth 100000 in
theorem q1093 : Cond.methodLink RX11 259 yX9_answerTo ∈ GT := gt 1093 (by decide +kernel) (by decide +kernel)
theorem dX11_answer_31 : decode cX11_answer 31 = .ok (.invokevirtual 259, 3) := by decide +kernel
theorem dX11_answer_34 : decode cX11_answer 34 = .ok (.astore 4, 2) := by decide +kernel
theorem dX11_answer_36 : decode cX11_answer 36 = .ok (.aload_n 0, 1) := by decide +kernel
theorem dX11_answer_37 : decode cX11_answer 37 = .ok (.iconst 5, 1) := by decide +kernel
theorem dX11_answer_38 : decode cX11_answer 38 = .ok (.iload_n 1, 1) := by decide +kernel
theorem dX11_answer_39 : decode cX11_answer 39 = .ok (.iadd, 1) := by decide +kernel
theorem dX11_answer_40 : decode cX11_answer 40 = .ok (.aload 4, 2) := by decide +kernel
set_option maxRecDepth 100000 in
theorem q1206 : Cond.code yX11_send cX11_send 3 none ∈ GT := gt 1206 (rfl) (by decide +kernel)
theorem M_X11_send : MY yX11_send cX11_send 3 none 2 := ⟨q1206, q53, by decide +kernel, by decide +kernel⟩
set_option maxRecDepth 100000 in
theorem q1205 : Cond.instanceMethod yX11_send ∈ GT := gt 1205 (by decide +kernel) (by decide +kernel)
set_option maxRecDepth 100000 in
theorem q23 : Cond.selects RX11 yX11_send yX11_send ∈ GT := gt 23 (by decide +kernel) (by decide +kernel)
set_option maxRecDepth 100000 in
theorem q1203 : Cond.methodLink RX11 263 yX11_send ∈ GT := gt 1203 (by decide +kernel) (by decide +kernel)
theorem dX11_answer_42 : decode cX11_answer 42 = .ok (.invokevirtual 263, 3) := by decide +kernel
theorem dX11_answer_45 : decode cX11_answer 45 = .ok (.aload 4, 2) := by decide +kernel
set_option maxRecDepth 100000 in
theorem q771 : Cond.fieldLink RX11 267 "ToolPlex$Message" "items" "LToolPlex$Items;" ∈ GT := gt 771 (by decide +kernel) (by decide +kernel)
theorem ft_X11_267 : FT RX11 267 RX6 7 RX6 TX6 17 15 := ⟨rfl, by decide, by decide, q771, Or.inl rfl, inGX6⟩
theorem dX11_answer_47 : decode cX11_answer 47 = .ok (.getfield 267, 3) := by decide +kernel
theorem dX11_answer_50 : decode cX11_answer 50 = .ok (.invokevirtual 229, 3) := by decide +kernel
theorem dX11_answer_53 : decode cX11_answer 53 = .ok (.ireturn, 1) := by decide +kernel
set_option maxHeartbeats 4000000 in
set_option maxRecDepth 100000 in
theorem w_X11_answer_0 {p : Program} {l : Launch} {e : Env} {R : Room} {s : State} {m : MethodId} {args : Array Value} {below : List Frame} {meth : Method} {c : Code} {G : Gt} {ρ0 : Int → Nat} {M0 : Mo} {res : RS} (F : Fx p l R s m args meth c cX11_answer 5 RX11 G M0 9 (some FieldType.int)) (hno : ∀ x ∈ c.exceptionTable.toList, False) (hnm : meth.name = yX11_answer.name) (x0 x1 x2 : Int) (M : Mo) (h : X11_answer x0 x1 x2 M = some res) : J p l e R s m args below meth c 5 G ρ0 M0 1 res M 0 [(0, (false, x0)), (1, (true, x1)), (2, (true, x2))] [] := by
  unfold X11_answer at h
  refine j_aload_n F 0 rfl rfl dX11_answer_0 ?_
  refine j_iload_n F 1 rfl rfl dX11_answer_1 ?_
  obtain ⟨g4, h⟩ := gua h
  refine j_callV (d' := 6) (argl := [(true, x1)]) (rk9 := 2) (st := []) F hno M_X11_serverAt q1084 q13 q1082 ⟨by decide, by decide⟩ (Nat.le_of_ble_eq_true rfl) (by decide) (ci := 12) rfl (by decide) g4 dX11_answer_2 rfl h (fun z hz => c_X11_serverAt l F.ht G x0 x1 M z hz) (fun v1 M2 h kl3 => ?_)
  refine j_st (st' := [(false, v1)]) rfl ?_
  refine j_astore_n F (lv' := [(3, (false, v1)), (0, (false, x0)), (1, (true, x1)), (2, (true, x2))]) rfl (by decide) rfl dX11_answer_5 ?_
  refine j_iload_n F 3 rfl rfl dX11_answer_6 ?_
  refine j_if_lt F 18 (by decide) dX11_answer_7 h (fun h => ?_) (fun h => ?_)
  · skip
    obtain ⟨g5, h⟩ := gua h
    exact j_throwW F hno (ex := 1) (text := "no such request") rfl (by decide +kernel) q586 q70 (by decide +kernel) at_X11_258 (by decide +kernel) (by decide) (Nat.le_of_ble_eq_true rfl) rfl (by decide) g5 h dX11_answer_18 dX11_answer_21 dX11_answer_22 dX11_answer_25 dX11_answer_28
  · skip
    refine j_iload_n F 3 rfl rfl dX11_answer_10 ?_
    refine j_aload_n F 0 rfl rfl dX11_answer_11 ?_
    obtain ⟨g9, h⟩ := gua h
    refine j_callV (d' := 1) (argl := []) (rk9 := 1) (st := [(true, x2)]) F hno M_X9_requests q1089 q1090 q1088 ⟨by decide, by decide⟩ (Nat.le_of_ble_eq_true rfl) (by decide) (ci := 10) rfl (by decide) g9 dX11_answer_12 rfl h (fun z hz => c_X9_requests l F.ht G v1 M2 z hz) (fun v6 M7 h kl8 => ?_)
    refine j_st (st' := [(true, v6), (true, x2)]) rfl ?_
    refine j_icmp_lt F 29 (by decide) dX11_answer_15 h (fun h => ?_) (fun h => ?_)
    · skip
      refine j_aload_n F 0 rfl rfl dX11_answer_29 ?_
      refine j_iload_n F 3 rfl rfl dX11_answer_30 ?_
      refine j_callV (d' := 7) (argl := [(true, x2)]) (rk9 := 2) (st := []) F hno M_X9_answerTo q1094 q1095 q1093 ⟨by decide, by decide⟩ (Nat.le_of_ble_eq_true rfl) (by decide) (ci := 10) rfl (by decide) (kl8.is g9) dX11_answer_31 rfl h (fun z hz => c_X9_answerTo l F.ht G v1 x2 M7 z hz) (fun v10 M11 h kl12 => ?_)
      refine j_st (st' := [(false, v10)]) rfl ?_
      refine j_astore F (lv' := [(4, (false, v10)), (3, (false, v1)), (0, (false, x0)), (1, (true, x1)), (2, (true, x2))]) (by decide) rfl dX11_answer_34 ?_
      refine j_aload_n F 2 rfl rfl dX11_answer_36 ?_
      refine j_iconst F dX11_answer_37 ?_
      refine j_iload_n F 3 rfl rfl dX11_answer_38 ?_
      refine j_iadd F dX11_answer_39 ?_
      refine j_aload F 0 rfl dX11_answer_40 ?_
      refine j_callV (d' := 8) (argl := [(true, (5 + x1)), (false, v10)]) (rk9 := 0) (st := []) F hno M_X11_send q1205 q23 q1203 ⟨by decide, by decide⟩ (Nat.le_of_ble_eq_true rfl) (by decide) (ci := 12) rfl (by decide) (kl12.is (kl8.is (kl3.is g4))) dX11_answer_42 rfl h (fun z hz => c_X11_send l F.ht G x0 (5 + x1) v10 M11 z hz) (fun v13 M14 h kl15 => ?_)
      refine j_st (st' := []) rfl ?_
      refine j_aload F 0 rfl dX11_answer_45 ?_
      obtain ⟨g16, h⟩ := gua h
      refine j_get F ft_X11_267 rfl g16 dX11_answer_47 ?_
      obtain ⟨g20, h⟩ := gua h
      refine j_callV (d' := 0) (argl := []) (rk9 := 1) (st := []) F hno M_X5_size q1022 q1023 q1021 ⟨by decide, by decide⟩ (Nat.le_of_ble_eq_true rfl) (by decide) (ci := 6) rfl (by decide) g20 dX11_answer_50 rfl h (fun z hz => c_X5_size l F.ht G (fd M14 7 15 v10) M14 z hz) (fun v17 M18 h kl19 => ?_)
      refine j_st (st' := [(true, v17)]) rfl ?_
      exact j_iret F h dX11_answer_53
    · skip
      obtain ⟨g21, h⟩ := gua h
      exact j_throwW F hno (ex := 1) (text := "no such request") rfl (by decide +kernel) q586 q70 (by decide +kernel) at_X11_258 (by decide +kernel) (by decide) (Nat.le_of_ble_eq_true rfl) rfl (by decide) g21 h dX11_answer_18 dX11_answer_21 dX11_answer_22 dX11_answer_25 dX11_answer_28
theorem c_X11_answer (l : Launch) (hl : l.stackTraces = false) (G : Gt) (x0 x1 x2 : Int) (M : Mo) (z : RS) (h : X11_answer x0 x1 x2 M = some z) : CT l G yX11_answer (cn yX11_answer cX11_answer 5 (some FieldType.int)) 9 [(false, x0), (true, x1), (true, x2)] M 1 z :=
  ctOf hl (by decide) (Nat.le_of_ble_eq_true rfl) (fun p e R s m args below meth c ρ F hno hnm => w_X11_answer_0 F hno hnm x0 x1 x2 M h)
theorem dX11_tellFaults_0 : decode cX11_tellFaults 0 = .ok (.aload_n 0, 1) := by decide +kernel
theorem dX11_tellFaults_1 : decode cX11_tellFaults 1 = .ok (.iload_n 1, 1) := by decide +kernel
theorem dX11_tellFaults_2 : decode cX11_tellFaults 2 = .ok (.invokevirtual 247, 3) := by decide +kernel
theorem dX11_tellFaults_5 : decode cX11_tellFaults 5 = .ok (.astore_n 3, 1) := by decide +kernel
theorem dX11_tellFaults_6 : decode cX11_tellFaults 6 = .ok (.aload_n 0, 1) := by decide +kernel
theorem dX11_tellFaults_7 : decode cX11_tellFaults 7 = .ok (.iload_n 2, 1) := by decide +kernel
theorem dX11_tellFaults_8 : decode cX11_tellFaults 8 = .ok (.invokevirtual 83, 3) := by decide +kernel
theorem dX11_tellFaults_11 : decode cX11_tellFaults 11 = .ok (.aload_n 3, 1) := by decide +kernel
theorem dX11_tellFaults_12 : decode cX11_tellFaults 12 = .ok (.iload_n 2, 1) := by decide +kernel
set_option maxRecDepth 100000 in
theorem q1212 : Cond.methodLink RX11 268 yX9_copyOf ∈ GT := gt 1212 (by decide +kernel) (by decide +kernel)
theorem dX11_tellFaults_13 : decode cX11_tellFaults 13 = .ok (.invokevirtual 268, 3) := by decide +kernel
theorem dX11_tellFaults_16 : decode cX11_tellFaults 16 = .ok (.invokevirtual 269, 3) := by decide +kernel
theorem dX11_tellFaults_19 : decode cX11_tellFaults 19 = .ok (.ifCond .ne 14, 3) := by decide +kernel
theorem dX11_tellFaults_33 : decode cX11_tellFaults 33 = .ok (.aload_n 3, 1) := by decide +kernel
theorem dX11_tellFaults_34 : decode cX11_tellFaults 34 = .ok (.iload_n 2, 1) := by decide +kernel
set_option maxRecDepth 100000 in
theorem q1217 : Cond.code yX9_faultsOf cX9_faultsOf 9 (some (FieldType.object "ToolPlex$Message")) ∈ GT := gt 1217 (rfl) (by decide +kernel)
theorem M_X9_faultsOf : MY yX9_faultsOf cX9_faultsOf 9 (some (FieldType.object "ToolPlex$Message")) 1 := ⟨q1217, q72, by decide +kernel, by decide +kernel⟩
set_option maxRecDepth 100000 in
theorem q1215 : Cond.instanceMethod yX9_faultsOf ∈ GT := gt 1215 (by decide +kernel) (by decide +kernel)
set_option maxRecDepth 100000 in
theorem q1216 : Cond.selects RX9 yX9_faultsOf yX9_faultsOf ∈ GT := gt 1216 (by decide +kernel) (by decide +kernel)
set_option maxRecDepth 100000 in
theorem q1214 : Cond.methodLink RX11 274 yX9_faultsOf ∈ GT := gt 1214 (by decide +kernel) (by decide +kernel)
theorem dX11_tellFaults_35 : decode cX11_tellFaults 35 = .ok (.invokevirtual 274, 3) := by decide +kernel
theorem dX11_tellFaults_38 : decode cX11_tellFaults 38 = .ok (.astore 4, 2) := by decide +kernel
theorem dX11_tellFaults_40 : decode cX11_tellFaults 40 = .ok (.aload_n 0, 1) := by decide +kernel
theorem dX11_tellFaults_41 : decode cX11_tellFaults 41 = .ok (.iconst 5, 1) := by decide +kernel
theorem dX11_tellFaults_42 : decode cX11_tellFaults 42 = .ok (.iload_n 1, 1) := by decide +kernel
theorem dX11_tellFaults_43 : decode cX11_tellFaults 43 = .ok (.iadd, 1) := by decide +kernel
theorem dX11_tellFaults_44 : decode cX11_tellFaults 44 = .ok (.aload 4, 2) := by decide +kernel
theorem dX11_tellFaults_46 : decode cX11_tellFaults 46 = .ok (.invokevirtual 263, 3) := by decide +kernel
theorem dX11_tellFaults_49 : decode cX11_tellFaults 49 = .ok (.aload 4, 2) := by decide +kernel
theorem dX11_tellFaults_51 : decode cX11_tellFaults 51 = .ok (.getfield 267, 3) := by decide +kernel
theorem dX11_tellFaults_54 : decode cX11_tellFaults 54 = .ok (.invokevirtual 229, 3) := by decide +kernel
theorem dX11_tellFaults_57 : decode cX11_tellFaults 57 = .ok (.ireturn, 1) := by decide +kernel
theorem dX11_tellFaults_22 : decode cX11_tellFaults 22 = .ok (.new 74, 3) := by decide +kernel
theorem dX11_tellFaults_25 : decode cX11_tellFaults 25 = .ok (.dup, 1) := by decide +kernel
theorem dX11_tellFaults_26 : decode cX11_tellFaults 26 = .ok (.ldc_w 272, 3) := by decide +kernel
theorem dX11_tellFaults_29 : decode cX11_tellFaults 29 = .ok (.invokespecial 78, 3) := by decide +kernel
theorem dX11_tellFaults_32 : decode cX11_tellFaults 32 = .ok (.athrow, 1) := by decide +kernel
set_option maxHeartbeats 4000000 in
set_option maxRecDepth 100000 in
theorem w_X11_tellFaults_0 {p : Program} {l : Launch} {e : Env} {R : Room} {s : State} {m : MethodId} {args : Array Value} {below : List Frame} {meth : Method} {c : Code} {G : Gt} {ρ0 : Int → Nat} {M0 : Mo} {res : RS} (F : Fx p l R s m args meth c cX11_tellFaults 5 RX11 G M0 9 (some FieldType.int)) (hno : ∀ x ∈ c.exceptionTable.toList, False) (hnm : meth.name = yX11_tellFaults.name) (x0 x1 x2 : Int) (M : Mo) (h : X11_tellFaults x0 x1 x2 M = some res) : J p l e R s m args below meth c 5 G ρ0 M0 1 res M 0 [(0, (false, x0)), (1, (true, x1)), (2, (true, x2))] [] := by
  unfold X11_tellFaults at h
  refine j_aload_n F 0 rfl rfl dX11_tellFaults_0 ?_
  refine j_iload_n F 1 rfl rfl dX11_tellFaults_1 ?_
  obtain ⟨g4, h⟩ := gua h
  refine j_callV (d' := 6) (argl := [(true, x1)]) (rk9 := 2) (st := []) F hno M_X11_serverAt q1084 q13 q1082 ⟨by decide, by decide⟩ (Nat.le_of_ble_eq_true rfl) (by decide) (ci := 12) rfl (by decide) g4 dX11_tellFaults_2 rfl h (fun z hz => c_X11_serverAt l F.ht G x0 x1 M z hz) (fun v1 M2 h kl3 => ?_)
  refine j_st (st' := [(false, v1)]) rfl ?_
  refine j_astore_n F (lv' := [(3, (false, v1)), (0, (false, x0)), (1, (true, x1)), (2, (true, x2))]) rfl (by decide) rfl dX11_tellFaults_5 ?_
  refine j_aload_n F 1 rfl rfl dX11_tellFaults_6 ?_
  refine j_iload_n F 3 rfl rfl dX11_tellFaults_7 ?_
  refine j_callV (d' := 6) (argl := [(true, x2)]) (rk9 := 0) (st := []) F hno M_X11_checkFile q583 q4 q581 ⟨by decide, by decide⟩ (Nat.le_of_ble_eq_true rfl) (by decide) (ci := 12) rfl (by decide) (kl3.is g4) dX11_tellFaults_8 rfl h (fun z hz => c_X11_checkFile l F.ht G x0 x2 M2 z hz) (fun v5 M6 h kl7 => ?_)
  refine j_st (st' := []) rfl ?_
  refine j_aload_n F 0 rfl rfl dX11_tellFaults_11 ?_
  refine j_iload_n F 3 rfl rfl dX11_tellFaults_12 ?_
  obtain ⟨g11, h⟩ := gua h
  refine j_callV (d' := 0) (argl := [(true, x2)]) (rk9 := 2) (st := []) F hno M_X9_copyOf q1111 q1112 q1212 ⟨by decide, by decide⟩ (Nat.le_of_ble_eq_true rfl) (by decide) (ci := 10) rfl (by decide) g11 dX11_tellFaults_13 rfl h (fun z hz => c_X9_copyOf l F.ht G v1 x2 M6 z hz) (fun v8 M9 h kl10 => ?_)
  refine j_st (st' := [(false, v8)]) rfl ?_
  obtain ⟨g15, h⟩ := gua h
  refine j_callV (d' := 0) (argl := []) (rk9 := 1) (st := []) F hno M_X2_isHere q468 q469 q836 ⟨by decide, by decide⟩ (Nat.le_of_ble_eq_true rfl) (by decide) (ci := 3) rfl (by decide) g15 dX11_tellFaults_16 rfl h (fun z hz => c_X2_isHere l F.ht G v8 M9 z hz) (fun v12 M13 h kl14 => ?_)
  refine j_st (st' := [(true, v12)]) rfl ?_
  refine j_if_ne F 33 (by decide) dX11_tellFaults_19 h (fun h => ?_) (fun h => ?_)
  · skip
    refine j_aload_n F 0 rfl rfl dX11_tellFaults_33 ?_
    refine j_iload_n F 3 rfl rfl dX11_tellFaults_34 ?_
    refine j_callV (d' := 4) (argl := [(true, x2)]) (rk9 := 2) (st := []) F hno M_X9_faultsOf q1215 q1216 q1214 ⟨by decide, by decide⟩ (Nat.le_of_ble_eq_true rfl) (by decide) (ci := 10) rfl (by decide) (kl14.is (kl10.is g11)) dX11_tellFaults_35 rfl h (fun z hz => c_X9_faultsOf l F.ht G v1 x2 M13 z hz) (fun v16 M17 h kl18 => ?_)
    refine j_st (st' := [(false, v16)]) rfl ?_
    refine j_astore F (lv' := [(4, (false, v16)), (3, (false, v1)), (0, (false, x0)), (1, (true, x1)), (2, (true, x2))]) (by decide) rfl dX11_tellFaults_38 ?_
    refine j_aload_n F 2 rfl rfl dX11_tellFaults_40 ?_
    refine j_iconst F dX11_tellFaults_41 ?_
    refine j_iload_n F 3 rfl rfl dX11_tellFaults_42 ?_
    refine j_iadd F dX11_tellFaults_43 ?_
    refine j_aload F 0 rfl dX11_tellFaults_44 ?_
    refine j_callV (d' := 8) (argl := [(true, (5 + x1)), (false, v16)]) (rk9 := 0) (st := []) F hno M_X11_send q1205 q23 q1203 ⟨by decide, by decide⟩ (Nat.le_of_ble_eq_true rfl) (by decide) (ci := 12) rfl (by decide) (kl18.is (kl14.is (kl10.is (kl7.is (kl3.is g4))))) dX11_tellFaults_46 rfl h (fun z hz => c_X11_send l F.ht G x0 (5 + x1) v16 M17 z hz) (fun v19 M20 h kl21 => ?_)
    refine j_st (st' := []) rfl ?_
    refine j_aload F 0 rfl dX11_tellFaults_49 ?_
    obtain ⟨g22, h⟩ := gua h
    refine j_get F ft_X11_267 rfl g22 dX11_tellFaults_51 ?_
    obtain ⟨g26, h⟩ := gua h
    refine j_callV (d' := 0) (argl := []) (rk9 := 1) (st := []) F hno M_X5_size q1022 q1023 q1021 ⟨by decide, by decide⟩ (Nat.le_of_ble_eq_true rfl) (by decide) (ci := 6) rfl (by decide) g26 dX11_tellFaults_54 rfl h (fun z hz => c_X5_size l F.ht G (fd M20 7 15 v16) M20 z hz) (fun v23 M24 h kl25 => ?_)
    refine j_st (st' := [(true, v23)]) rfl ?_
    exact j_iret F h dX11_tellFaults_57
  · skip
    obtain ⟨g27, h⟩ := gua h
    exact j_throwW F hno (ex := 3) (text := "the server has no copy") rfl (by decide +kernel) q422 q69 (by decide +kernel) at_X11_78 (by decide +kernel) (by decide) (Nat.le_of_ble_eq_true rfl) rfl (by decide) g27 h dX11_tellFaults_22 dX11_tellFaults_25 dX11_tellFaults_26 dX11_tellFaults_29 dX11_tellFaults_32
theorem c_X11_tellFaults (l : Launch) (hl : l.stackTraces = false) (G : Gt) (x0 x1 x2 : Int) (M : Mo) (z : RS) (h : X11_tellFaults x0 x1 x2 M = some z) : CT l G yX11_tellFaults (cn yX11_tellFaults cX11_tellFaults 5 (some FieldType.int)) 9 [(false, x0), (true, x1), (true, x2)] M 1 z :=
  ctOf hl (by decide) (Nat.le_of_ble_eq_true rfl) (fun p e R s m args below meth c ρ F hno hnm => w_X11_tellFaults_0 F hno hnm x0 x1 x2 M h)
theorem dX11_lose_0 : decode cX11_lose 0 = .ok (.iload_n 1, 1) := by decide +kernel
theorem dX11_lose_1 : decode cX11_lose 1 = .ok (.ifCond .lt 24, 3) := by decide +kernel
theorem dX11_lose_25 : decode cX11_lose 25 = .ok (.iconst 0, 1) := by decide +kernel
theorem dX11_lose_26 : decode cX11_lose 26 = .ok (.ireturn, 1) := by decide +kernel
theorem dX11_lose_4 : decode cX11_lose 4 = .ok (.iload_n 1, 1) := by decide +kernel
theorem dX11_lose_5 : decode cX11_lose 5 = .ok (.aload_n 0, 1) := by decide +kernel
theorem dX11_lose_6 : decode cX11_lose 6 = .ok (.getfield 47, 3) := by decide +kernel
theorem dX11_lose_9 : decode cX11_lose 9 = .ok (.arraylength, 1) := by decide +kernel
theorem dX11_lose_10 : decode cX11_lose 10 = .ok (.if_icmp .ge 15, 3) := by decide +kernel
theorem dX11_lose_13 : decode cX11_lose 13 = .ok (.aload_n 0, 1) := by decide +kernel
theorem dX11_lose_14 : decode cX11_lose 14 = .ok (.getfield 47, 3) := by decide +kernel
theorem dX11_lose_17 : decode cX11_lose 17 = .ok (.iload_n 1, 1) := by decide +kernel
theorem dX11_lose_18 : decode cX11_lose 18 = .ok (.aaload, 1) := by decide +kernel
set_option maxRecDepth 100000 in
theorem q1239 : Cond.code yX1_lose cX1_lose 2 (some FieldType.int) ∈ GT := gt 1239 (rfl) (by decide +kernel)
theorem M_X1_lose : MY yX1_lose cX1_lose 2 (some FieldType.int) 0 := ⟨q1239, q59, by decide +kernel, by decide +kernel⟩
set_option maxRecDepth 100000 in
theorem q1237 : Cond.instanceMethod yX1_lose ∈ GT := gt 1237 (by decide +kernel) (by decide +kernel)
set_option maxRecDepth 100000 in
theorem q1238 : Cond.selects RX1 yX1_lose yX1_lose ∈ GT := gt 1238 (by decide +kernel) (by decide +kernel)
set_option maxRecDepth 100000 in
theorem q1236 : Cond.methodLink RX11 386 yX1_lose ∈ GT := gt 1236 (by decide +kernel) (by decide +kernel)
theorem dX11_lose_19 : decode cX11_lose 19 = .ok (.invokevirtual 386, 3) := by decide +kernel
theorem dX11_lose_22 : decode cX11_lose 22 = .ok (.goto 4, 3) := by decide +kernel
set_option maxHeartbeats 4000000 in
set_option maxRecDepth 100000 in
theorem w_X11_lose_0 {p : Program} {l : Launch} {e : Env} {R : Room} {s : State} {m : MethodId} {args : Array Value} {below : List Frame} {meth : Method} {c : Code} {G : Gt} {ρ0 : Int → Nat} {M0 : Mo} {res : RS} (F : Fx p l R s m args meth c cX11_lose 2 RX11 G M0 2 (some FieldType.int)) (hno : ∀ x ∈ c.exceptionTable.toList, False) (hnm : meth.name = yX11_lose.name) (x0 x1 : Int) (M : Mo) (h : X11_lose x0 x1 M = some res) : J p l e R s m args below meth c 2 G ρ0 M0 1 res M 0 [(0, (false, x0)), (1, (true, x1))] [] := by
  unfold X11_lose at h
  refine j_iload_n F 1 rfl rfl dX11_lose_0 ?_
  refine j_if_lt F 25 (by decide) dX11_lose_1 h (fun h => ?_) (fun h => ?_)
  · skip
    refine j_iconst F dX11_lose_25 ?_
    exact j_iret F h dX11_lose_26
  · skip
    refine j_iload_n F 1 rfl rfl dX11_lose_4 ?_
    refine j_aload_n F 0 rfl rfl dX11_lose_5 ?_
    obtain ⟨g1, h⟩ := gua h
    refine j_get F ft_X11_47 rfl g1 dX11_lose_6 ?_
    obtain ⟨g2, h⟩ := gua h
    refine j_alen F g2 dX11_lose_9 ?_
    refine j_icmp_ge F 25 (by decide) dX11_lose_10 h (fun h => ?_) (fun h => ?_)
    · skip
      refine j_iconst F dX11_lose_25 ?_
      exact j_iret F h dX11_lose_26
    · skip
      refine j_aload_n F 0 rfl rfl dX11_lose_13 ?_
      refine j_get F ft_X11_47 rfl g1 dX11_lose_14 ?_
      refine j_iload_n F 1 rfl rfl dX11_lose_17 ?_
      obtain ⟨g3, h⟩ := gua h
      obtain ⟨g4, h⟩ := gua h
      refine j_aaload F 14 7 g3 (by decide) rfl g4 dX11_lose_18 ?_
      obtain ⟨g8, h⟩ := gua h
      refine j_callV (d' := 1) (argl := []) (rk9 := 1) (st := []) F hno M_X1_lose q1237 q1238 q1236 ⟨by decide, by decide⟩ (Nat.le_of_ble_eq_true rfl) (by decide) (ci := 2) rfl (by decide) g8 dX11_lose_19 rfl h (fun z hz => c_X1_lose l F.ht G (el M 14 (fd M 12 1 x0) (wr x1)) M z hz) (fun v5 M6 h kl7 => ?_)
      refine j_st (st' := [(true, v5)]) rfl ?_
      refine j_goto F 26 (by decide) dX11_lose_22 ?_
      exact j_iret F h dX11_lose_26
theorem c_X11_lose (l : Launch) (hl : l.stackTraces = false) (G : Gt) (x0 x1 : Int) (M : Mo) (z : RS) (h : X11_lose x0 x1 M = some z) : CT l G yX11_lose (cn yX11_lose cX11_lose 2 (some FieldType.int)) 2 [(false, x0), (true, x1)] M 1 z :=
  ctOf hl (by decide) (Nat.le_of_ble_eq_true rfl) (fun p e R s m args below meth c ρ F hno hnm => w_X11_lose_0 F hno hnm x0 x1 M h)
theorem dX11_crash_0 : decode cX11_crash 0 = .ok (.aload_n 0, 1) := by decide +kernel
theorem dX11_crash_1 : decode cX11_crash 1 = .ok (.iload_n 1, 1) := by decide +kernel
theorem dX11_crash_2 : decode cX11_crash 2 = .ok (.invokevirtual 247, 3) := by decide +kernel
theorem dX11_crash_5 : decode cX11_crash 5 = .ok (.astore_n 2, 1) := by decide +kernel
theorem dX11_crash_6 : decode cX11_crash 6 = .ok (.aload_n 2, 1) := by decide +kernel
set_option maxRecDepth 100000 in
theorem q494 : Cond.fieldLink RX11 277 "ToolPlex$Server" "up" "Z" ∈ GT := gt 494 (by decide +kernel) (by decide +kernel)
theorem ft_X11_277 : FT RX11 277 RX9 10 RX9 TX9 9 8 := ⟨rfl, by decide, by decide, q494, Or.inl rfl, inGX9⟩
theorem dX11_crash_7 : decode cX11_crash 7 = .ok (.getfield 277, 3) := by decide +kernel
theorem dX11_crash_10 : decode cX11_crash 10 = .ok (.ifCond .ne 14, 3) := by decide +kernel
theorem dX11_crash_24 : decode cX11_crash 24 = .ok (.aload_n 2, 1) := by decide +kernel
set_option maxRecDepth 100000 in
theorem q1226 : Cond.code yX9_fall cX9_fall 2 none ∈ GT := gt 1226 (rfl) (by decide +kernel)
theorem M_X9_fall : MY yX9_fall cX9_fall 2 none 0 := ⟨q1226, q72, by decide +kernel, by decide +kernel⟩
set_option maxRecDepth 100000 in
theorem q1224 : Cond.instanceMethod yX9_fall ∈ GT := gt 1224 (by decide +kernel) (by decide +kernel)
set_option maxRecDepth 100000 in
theorem q1225 : Cond.selects RX9 yX9_fall yX9_fall ∈ GT := gt 1225 (by decide +kernel) (by decide +kernel)
set_option maxRecDepth 100000 in
theorem q1223 : Cond.methodLink RX11 283 yX9_fall ∈ GT := gt 1223 (by decide +kernel) (by decide +kernel)
theorem dX11_crash_25 : decode cX11_crash 25 = .ok (.invokevirtual 283, 3) := by decide +kernel
theorem dX11_crash_28 : decode cX11_crash 28 = .ok (.aload_n 0, 1) := by decide +kernel
theorem dX11_crash_29 : decode cX11_crash 29 = .ok (.iconst 2, 1) := by decide +kernel
theorem dX11_crash_30 : decode cX11_crash 30 = .ok (.iload_n 1, 1) := by decide +kernel
theorem dX11_crash_31 : decode cX11_crash 31 = .ok (.iadd, 1) := by decide +kernel
set_option maxRecDepth 100000 in
theorem q1235 : Cond.code yX11_lose cX11_lose 2 (some FieldType.int) ∈ GT := gt 1235 (rfl) (by decide +kernel)
theorem M_X11_lose : MY yX11_lose cX11_lose 2 (some FieldType.int) 1 := ⟨q1235, q53, by decide +kernel, by decide +kernel⟩
set_option maxRecDepth 100000 in
theorem q1234 : Cond.instanceMethod yX11_lose ∈ GT := gt 1234 (by decide +kernel) (by decide +kernel)
set_option maxRecDepth 100000 in
theorem q24 : Cond.selects RX11 yX11_lose yX11_lose ∈ GT := gt 24 (by decide +kernel) (by decide +kernel)
set_option maxRecDepth 100000 in
theorem q1232 : Cond.methodLink RX11 286 yX11_lose ∈ GT := gt 1232 (by decide +kernel) (by decide +kernel)
theorem dX11_crash_32 : decode cX11_crash 32 = .ok (.invokevirtual 286, 3) := by decide +kernel
theorem dX11_crash_35 : decode cX11_crash 35 = .ok (.aload_n 0, 1) := by decide +kernel
theorem dX11_crash_36 : decode cX11_crash 36 = .ok (.iconst 5, 1) := by decide +kernel
theorem dX11_crash_37 : decode cX11_crash 37 = .ok (.iload_n 1, 1) := by decide +kernel
theorem dX11_crash_38 : decode cX11_crash 38 = .ok (.iadd, 1) := by decide +kernel
theorem dX11_crash_39 : decode cX11_crash 39 = .ok (.invokevirtual 286, 3) := by decide +kernel
theorem dX11_crash_42 : decode cX11_crash 42 = .ok (.iadd, 1) := by decide +kernel
theorem dX11_crash_43 : decode cX11_crash 43 = .ok (.istore_n 3, 1) := by decide +kernel
theorem dX11_crash_44 : decode cX11_crash 44 = .ok (.aload_n 0, 1) := by decide +kernel
theorem dX11_crash_45 : decode cX11_crash 45 = .ok (.getfield 35, 3) := by decide +kernel
theorem dX11_crash_48 : decode cX11_crash 48 = .ok (.iload_n 1, 1) := by decide +kernel
set_option maxRecDepth 100000 in
theorem q1245 : Cond.code yX7_miss cX7_miss 6 none ∈ GT := gt 1245 (rfl) (by decide +kernel)
theorem M_X7_miss : MY yX7_miss cX7_miss 6 none 1 := ⟨q1245, q63, by decide +kernel, by decide +kernel⟩
set_option maxRecDepth 100000 in
theorem q1243 : Cond.instanceMethod yX7_miss ∈ GT := gt 1243 (by decide +kernel) (by decide +kernel)
set_option maxRecDepth 100000 in
theorem q1244 : Cond.selects RX7 yX7_miss yX7_miss ∈ GT := gt 1244 (by decide +kernel) (by decide +kernel)
set_option maxRecDepth 100000 in
theorem q1242 : Cond.methodLink RX11 289 yX7_miss ∈ GT := gt 1242 (by decide +kernel) (by decide +kernel)
theorem dX11_crash_49 : decode cX11_crash 49 = .ok (.invokevirtual 289, 3) := by decide +kernel
theorem dX11_crash_52 : decode cX11_crash 52 = .ok (.iload_n 3, 1) := by decide +kernel
theorem dX11_crash_53 : decode cX11_crash 53 = .ok (.ireturn, 1) := by decide +kernel
theorem dX11_crash_13 : decode cX11_crash 13 = .ok (.new 74, 3) := by decide +kernel
theorem dX11_crash_16 : decode cX11_crash 16 = .ok (.dup, 1) := by decide +kernel
theorem dX11_crash_17 : decode cX11_crash 17 = .ok (.ldc_w 281, 3) := by decide +kernel
theorem dX11_crash_20 : decode cX11_crash 20 = .ok (.invokespecial 78, 3) := by decide +kernel
theorem dX11_crash_23 : decode cX11_crash 23 = .ok (.athrow, 1) := by decide +kernel
set_option maxHeartbeats 4000000 in
set_option maxRecDepth 100000 in
theorem w_X11_crash_0 {p : Program} {l : Launch} {e : Env} {R : Room} {s : State} {m : MethodId} {args : Array Value} {below : List Frame} {meth : Method} {c : Code} {G : Gt} {ρ0 : Int → Nat} {M0 : Mo} {res : RS} (F : Fx p l R s m args meth c cX11_crash 4 RX11 G M0 11 (some FieldType.int)) (hno : ∀ x ∈ c.exceptionTable.toList, False) (hnm : meth.name = yX11_crash.name) (x0 x1 : Int) (M : Mo) (h : X11_crash x0 x1 M = some res) : J p l e R s m args below meth c 4 G ρ0 M0 1 res M 0 [(0, (false, x0)), (1, (true, x1))] [] := by
  unfold X11_crash at h
  refine j_aload_n F 0 rfl rfl dX11_crash_0 ?_
  refine j_iload_n F 1 rfl rfl dX11_crash_1 ?_
  obtain ⟨g4, h⟩ := gua h
  refine j_callV (d' := 6) (argl := [(true, x1)]) (rk9 := 2) (st := []) F hno M_X11_serverAt q1084 q13 q1082 ⟨by decide, by decide⟩ (Nat.le_of_ble_eq_true rfl) (by decide) (ci := 12) rfl (by decide) g4 dX11_crash_2 rfl h (fun z hz => c_X11_serverAt l F.ht G x0 x1 M z hz) (fun v1 M2 h kl3 => ?_)
  refine j_st (st' := [(false, v1)]) rfl ?_
  refine j_astore_n F (lv' := [(2, (false, v1)), (0, (false, x0)), (1, (true, x1))]) rfl (by decide) rfl dX11_crash_5 ?_
  refine j_aload_n F 0 rfl rfl dX11_crash_6 ?_
  obtain ⟨g5, h⟩ := gua h
  refine j_get F ft_X11_277 rfl g5 dX11_crash_7 ?_
  refine j_if_ne F 24 (by decide) dX11_crash_10 h (fun h => ?_) (fun h => ?_)
  · skip
    refine j_aload_n F 0 rfl rfl dX11_crash_24 ?_
    refine j_callV (d' := 1) (argl := []) (rk9 := 0) (st := []) F hno M_X9_fall q1224 q1225 q1223 ⟨by decide, by decide⟩ (Nat.le_of_ble_eq_true rfl) (by decide) (ci := 10) rfl (by decide) g5 dX11_crash_25 rfl h (fun z hz => c_X9_fall l F.ht G v1 M2 z hz) (fun v6 M7 h kl8 => ?_)
    refine j_st (st' := []) rfl ?_
    refine j_aload_n F 1 rfl rfl dX11_crash_28 ?_
    refine j_iconst F dX11_crash_29 ?_
    refine j_iload_n F 2 rfl rfl dX11_crash_30 ?_
    refine j_iadd F dX11_crash_31 ?_
    refine j_callV (d' := 2) (argl := [(true, (2 + x1))]) (rk9 := 1) (st := []) F hno M_X11_lose q1234 q24 q1232 ⟨by decide, by decide⟩ (Nat.le_of_ble_eq_true rfl) (by decide) (ci := 12) rfl (by decide) (kl8.is (kl3.is g4)) dX11_crash_32 rfl h (fun z hz => c_X11_lose l F.ht G x0 (2 + x1) M7 z hz) (fun v9 M10 h kl11 => ?_)
    refine j_st (st' := [(true, v9)]) rfl ?_
    refine j_aload_n F 1 rfl rfl dX11_crash_35 ?_
    refine j_iconst F dX11_crash_36 ?_
    refine j_iload_n F 2 rfl rfl dX11_crash_37 ?_
    refine j_iadd F dX11_crash_38 ?_
    refine j_callV (d' := 2) (argl := [(true, (5 + x1))]) (rk9 := 1) (st := [(true, v9)]) F hno M_X11_lose q1234 q24 q1232 ⟨by decide, by decide⟩ (Nat.le_of_ble_eq_true rfl) (by decide) (ci := 12) rfl (by decide) (kl11.is (kl8.is (kl3.is g4))) dX11_crash_39 rfl h (fun z hz => c_X11_lose l F.ht G x0 (5 + x1) M10 z hz) (fun v12 M13 h kl14 => ?_)
    refine j_st (st' := [(true, v12), (true, v9)]) rfl ?_
    refine j_iadd F dX11_crash_42 ?_
    refine j_istore_n F (lv' := [(3, (true, (v9 + v12))), (2, (false, v1)), (0, (false, x0)), (1, (true, x1))]) rfl (by decide) rfl dX11_crash_43 ?_
    refine j_aload_n F 2 rfl rfl dX11_crash_44 ?_
    refine j_get F ft_X11_35 rfl (kl14.is (kl11.is (kl8.is (kl3.is g4)))) dX11_crash_45 ?_
    refine j_iload_n F 3 rfl rfl dX11_crash_48 ?_
    obtain ⟨g18, h⟩ := gua h
    refine j_callV (d' := 10) (argl := [(true, x1)]) (rk9 := 0) (st := []) F hno M_X7_miss q1243 q1244 q1242 ⟨by decide, by decide⟩ (Nat.le_of_ble_eq_true rfl) (by decide) (ci := 8) rfl (by decide) g18 dX11_crash_49 rfl h (fun z hz => c_X7_miss l F.ht G (fd M13 12 4 x0) x1 M13 z hz) (fun v15 M16 h kl17 => ?_)
    refine j_st (st' := []) rfl ?_
    refine j_iload_n F 0 rfl rfl dX11_crash_52 ?_
    exact j_iret F h dX11_crash_53
  · skip
    obtain ⟨g19, h⟩ := gua h
    exact j_throwW F hno (ex := 3) (text := "the server is not up") rfl (by decide +kernel) q422 q69 (by decide +kernel) at_X11_78 (by decide +kernel) (by decide) (Nat.le_of_ble_eq_true rfl) rfl (by decide) g19 h dX11_crash_13 dX11_crash_16 dX11_crash_17 dX11_crash_20 dX11_crash_23
theorem c_X11_crash (l : Launch) (hl : l.stackTraces = false) (G : Gt) (x0 x1 : Int) (M : Mo) (z : RS) (h : X11_crash x0 x1 M = some z) : CT l G yX11_crash (cn yX11_crash cX11_crash 4 (some FieldType.int)) 11 [(false, x0), (true, x1)] M 1 z :=
  ctOf hl (by decide) (Nat.le_of_ble_eq_true rfl) (fun p e R s m args below meth c ρ F hno hnm => w_X11_crash_0 F hno hnm x0 x1 M h)
theorem dX11_start_0 : decode cX11_start 0 = .ok (.aload_n 0, 1) := by decide +kernel
theorem dX11_start_1 : decode cX11_start 1 = .ok (.iload_n 1, 1) := by decide +kernel
theorem dX11_start_2 : decode cX11_start 2 = .ok (.invokevirtual 247, 3) := by decide +kernel
theorem dX11_start_5 : decode cX11_start 5 = .ok (.astore_n 2, 1) := by decide +kernel
theorem dX11_start_6 : decode cX11_start 6 = .ok (.aload_n 2, 1) := by decide +kernel
theorem dX11_start_7 : decode cX11_start 7 = .ok (.getfield 277, 3) := by decide +kernel
theorem dX11_start_10 : decode cX11_start 10 = .ok (.ifCond .eq 14, 3) := by decide +kernel
theorem dX11_start_24 : decode cX11_start 24 = .ok (.aload_n 2, 1) := by decide +kernel
theorem dX11_start_25 : decode cX11_start 25 = .ok (.iconst 1, 1) := by decide +kernel
theorem dX11_start_26 : decode cX11_start 26 = .ok (.putfield 277, 3) := by decide +kernel
theorem dX11_start_29 : decode cX11_start 29 = .ok (.aload_n 0, 1) := by decide +kernel
theorem dX11_start_30 : decode cX11_start 30 = .ok (.getfield 35, 3) := by decide +kernel
theorem dX11_start_33 : decode cX11_start 33 = .ok (.iload_n 1, 1) := by decide +kernel
theorem dX11_start_34 : decode cX11_start 34 = .ok (.aload_n 2, 1) := by decide +kernel
set_option maxRecDepth 100000 in
theorem q1339 : Cond.code yX7_giveCopies cX7_giveCopies 7 (some FieldType.int) ∈ GT := gt 1339 (rfl) (by decide +kernel)
theorem M_X7_giveCopies : MY yX7_giveCopies cX7_giveCopies 7 (some FieldType.int) 2 := ⟨q1339, q63, by decide +kernel, by decide +kernel⟩
set_option maxRecDepth 100000 in
theorem q1337 : Cond.instanceMethod yX7_giveCopies ∈ GT := gt 1337 (by decide +kernel) (by decide +kernel)
set_option maxRecDepth 100000 in
theorem q1338 : Cond.selects RX7 yX7_giveCopies yX7_giveCopies ∈ GT := gt 1338 (by decide +kernel) (by decide +kernel)
set_option maxRecDepth 100000 in
theorem q1336 : Cond.methodLink RX11 294 yX7_giveCopies ∈ GT := gt 1336 (by decide +kernel) (by decide +kernel)
theorem dX11_start_35 : decode cX11_start 35 = .ok (.invokevirtual 294, 3) := by decide +kernel
theorem dX11_start_38 : decode cX11_start 38 = .ok (.ireturn, 1) := by decide +kernel
theorem dX11_start_13 : decode cX11_start 13 = .ok (.new 74, 3) := by decide +kernel
theorem dX11_start_16 : decode cX11_start 16 = .ok (.dup, 1) := by decide +kernel
theorem dX11_start_17 : decode cX11_start 17 = .ok (.ldc_w 292, 3) := by decide +kernel
theorem dX11_start_20 : decode cX11_start 20 = .ok (.invokespecial 78, 3) := by decide +kernel
theorem dX11_start_23 : decode cX11_start 23 = .ok (.athrow, 1) := by decide +kernel
set_option maxHeartbeats 4000000 in
set_option maxRecDepth 100000 in
theorem w_X11_start_0 {p : Program} {l : Launch} {e : Env} {R : Room} {s : State} {m : MethodId} {args : Array Value} {below : List Frame} {meth : Method} {c : Code} {G : Gt} {ρ0 : Int → Nat} {M0 : Mo} {res : RS} (F : Fx p l R s m args meth c cX11_start 3 RX11 G M0 9 (some FieldType.int)) (hno : ∀ x ∈ c.exceptionTable.toList, False) (hnm : meth.name = yX11_start.name) (x0 x1 : Int) (M : Mo) (h : X11_start x0 x1 M = some res) : J p l e R s m args below meth c 3 G ρ0 M0 1 res M 0 [(0, (false, x0)), (1, (true, x1))] [] := by
  unfold X11_start at h
  refine j_aload_n F 0 rfl rfl dX11_start_0 ?_
  refine j_iload_n F 1 rfl rfl dX11_start_1 ?_
  obtain ⟨g4, h⟩ := gua h
  refine j_callV (d' := 6) (argl := [(true, x1)]) (rk9 := 2) (st := []) F hno M_X11_serverAt q1084 q13 q1082 ⟨by decide, by decide⟩ (Nat.le_of_ble_eq_true rfl) (by decide) (ci := 12) rfl (by decide) g4 dX11_start_2 rfl h (fun z hz => c_X11_serverAt l F.ht G x0 x1 M z hz) (fun v1 M2 h kl3 => ?_)
  refine j_st (st' := [(false, v1)]) rfl ?_
  refine j_astore_n F (lv' := [(2, (false, v1)), (0, (false, x0)), (1, (true, x1))]) rfl (by decide) rfl dX11_start_5 ?_
  refine j_aload_n F 0 rfl rfl dX11_start_6 ?_
  obtain ⟨g5, h⟩ := gua h
  refine j_get F ft_X11_277 rfl g5 dX11_start_7 ?_
  refine j_if_eq F 24 (by decide) dX11_start_10 h (fun h => ?_) (fun h => ?_)
  · skip
    refine j_aload_n F 0 rfl rfl dX11_start_24 ?_
    refine j_iconst F dX11_start_25 ?_
    refine j_put (ty := .boolean) F ft_X11_277 rfl rfl tyX9 tyX9_ok nmX9 (by decide +kernel) nf_z1 g5 dX11_start_26 ?_
    obtain ⟨M6, hM6⟩ : ∃ Z, Z = sF M2 10 8 v1 1 := ⟨_, rfl⟩
    have kl7 : kle M2 M6 := by rw [hM6]; exact kle_sF
    rw [← hM6]
    replace h := pt_as h hM6
    refine j_aload_n F 1 rfl rfl dX11_start_29 ?_
    refine j_get F ft_X11_35 rfl (kl7.is (kl3.is g4)) dX11_start_30 ?_
    refine j_iload_n F 2 rfl rfl dX11_start_33 ?_
    refine j_aload_n F 0 rfl rfl dX11_start_34 ?_
    obtain ⟨g11, h⟩ := gua h
    refine j_callV (d' := 8) (argl := [(true, x1), (false, v1)]) (rk9 := 1) (st := []) F hno M_X7_giveCopies q1337 q1338 q1336 ⟨by decide, by decide⟩ (Nat.le_of_ble_eq_true rfl) (by decide) (ci := 8) rfl (by decide) g11 dX11_start_35 rfl h (fun z hz => c_X7_giveCopies l F.ht G (fd M6 12 4 x0) x1 v1 M6 z hz) (fun v8 M9 h kl10 => ?_)
    refine j_st (st' := [(true, v8)]) rfl ?_
    exact j_iret F h dX11_start_38
  · skip
    obtain ⟨g12, h⟩ := gua h
    exact j_throwW F hno (ex := 3) (text := "the server is up") rfl (by decide +kernel) q422 q69 (by decide +kernel) at_X11_78 (by decide +kernel) (by decide) (Nat.le_of_ble_eq_true rfl) rfl (by decide) g12 h dX11_start_13 dX11_start_16 dX11_start_17 dX11_start_20 dX11_start_23
theorem c_X11_start (l : Launch) (hl : l.stackTraces = false) (G : Gt) (x0 x1 : Int) (M : Mo) (z : RS) (h : X11_start x0 x1 M = some z) : CT l G yX11_start (cn yX11_start cX11_start 3 (some FieldType.int)) 9 [(false, x0), (true, x1)] M 1 z :=
  ctOf hl (by decide) (Nat.le_of_ble_eq_true rfl) (fun p e R s m args below meth c ρ F hno hnm => w_X11_start_0 F hno hnm x0 x1 M h)
theorem dX11_checkChannel_0 : decode cX11_checkChannel 0 = .ok (.iload_n 1, 1) := by decide +kernel
theorem dX11_checkChannel_1 : decode cX11_checkChannel 1 = .ok (.ifCond .lt 12, 3) := by decide +kernel
theorem dX11_checkChannel_13 : decode cX11_checkChannel 13 = .ok (.new 254, 3) := by decide +kernel
theorem dX11_checkChannel_16 : decode cX11_checkChannel 16 = .ok (.dup, 1) := by decide +kernel
theorem dX11_checkChannel_17 : decode cX11_checkChannel 17 = .ok (.ldc_w 370, 3) := by decide +kernel
theorem dX11_checkChannel_20 : decode cX11_checkChannel 20 = .ok (.invokespecial 258, 3) := by decide +kernel
theorem dX11_checkChannel_23 : decode cX11_checkChannel 23 = .ok (.athrow, 1) := by decide +kernel
theorem dX11_checkChannel_4 : decode cX11_checkChannel 4 = .ok (.iload_n 1, 1) := by decide +kernel
theorem dX11_checkChannel_5 : decode cX11_checkChannel 5 = .ok (.aload_n 0, 1) := by decide +kernel
theorem dX11_checkChannel_6 : decode cX11_checkChannel 6 = .ok (.getfield 47, 3) := by decide +kernel
theorem dX11_checkChannel_9 : decode cX11_checkChannel 9 = .ok (.arraylength, 1) := by decide +kernel
theorem dX11_checkChannel_10 : decode cX11_checkChannel 10 = .ok (.if_icmp .lt 14, 3) := by decide +kernel
theorem dX11_checkChannel_24 : decode cX11_checkChannel 24 = .ok (.return_, 1) := by decide +kernel
set_option maxHeartbeats 4000000 in
set_option maxRecDepth 100000 in
theorem w_X11_checkChannel_0 {p : Program} {l : Launch} {e : Env} {R : Room} {s : State} {m : MethodId} {args : Array Value} {below : List Frame} {meth : Method} {c : Code} {G : Gt} {ρ0 : Int → Nat} {M0 : Mo} {res : RS} (F : Fx p l R s m args meth c cX11_checkChannel 2 RX11 G M0 6 none) (hno : ∀ x ∈ c.exceptionTable.toList, False) (hnm : meth.name = yX11_checkChannel.name) (x0 x1 : Int) (M : Mo) (h : X11_checkChannel x0 x1 M = some res) : J p l e R s m args below meth c 2 G ρ0 M0 0 res M 0 [(0, (false, x0)), (1, (true, x1))] [] := by
  unfold X11_checkChannel at h
  refine j_iload_n F 1 rfl rfl dX11_checkChannel_0 ?_
  refine j_if_lt F 13 (by decide) dX11_checkChannel_1 h (fun h => ?_) (fun h => ?_)
  · skip
    obtain ⟨g1, h⟩ := gua h
    exact j_throwW F hno (ex := 1) (text := "no such channel") rfl (by decide +kernel) q586 q70 (by decide +kernel) at_X11_258 (by decide +kernel) (by decide) (Nat.le_of_ble_eq_true rfl) rfl (by decide) g1 h dX11_checkChannel_13 dX11_checkChannel_16 dX11_checkChannel_17 dX11_checkChannel_20 dX11_checkChannel_23
  · skip
    refine j_iload_n F 1 rfl rfl dX11_checkChannel_4 ?_
    refine j_aload_n F 0 rfl rfl dX11_checkChannel_5 ?_
    obtain ⟨g2, h⟩ := gua h
    refine j_get F ft_X11_47 rfl g2 dX11_checkChannel_6 ?_
    obtain ⟨g3, h⟩ := gua h
    refine j_alen F g3 dX11_checkChannel_9 ?_
    refine j_icmp_lt F 24 (by decide) dX11_checkChannel_10 h (fun h => ?_) (fun h => ?_)
    · skip
      exact j_vret F (v := 0) h dX11_checkChannel_24
    · skip
      obtain ⟨g4, h⟩ := gua h
      exact j_throwW F hno (ex := 1) (text := "no such channel") rfl (by decide +kernel) q586 q70 (by decide +kernel) at_X11_258 (by decide +kernel) (by decide) (Nat.le_of_ble_eq_true rfl) rfl (by decide) g4 h dX11_checkChannel_13 dX11_checkChannel_16 dX11_checkChannel_17 dX11_checkChannel_20 dX11_checkChannel_23
theorem c_X11_checkChannel (l : Launch) (hl : l.stackTraces = false) (G : Gt) (x0 x1 : Int) (M : Mo) (z : RS) (h : X11_checkChannel x0 x1 M = some z) : CT l G yX11_checkChannel (cn yX11_checkChannel cX11_checkChannel 2 none) 6 [(false, x0), (true, x1)] M 0 z :=
  ctOf hl (by decide) (Nat.le_of_ble_eq_true rfl) (fun p e R s m args below meth c ρ F hno hnm => w_X11_checkChannel_0 F hno hnm x0 x1 M h)
theorem dX11_passToEditor_0 : decode cX11_passToEditor 0 = .ok (.iload_n 1, 1) := by decide +kernel
theorem dX11_passToEditor_1 : decode cX11_passToEditor 1 = .ok (.ifCond .lt 12, 3) := by decide +kernel
theorem dX11_passToEditor_13 : decode cX11_passToEditor 13 = .ok (.return_, 1) := by decide +kernel
theorem dX11_passToEditor_4 : decode cX11_passToEditor 4 = .ok (.iload_n 1, 1) := by decide +kernel
theorem dX11_passToEditor_5 : decode cX11_passToEditor 5 = .ok (.aload_n 0, 1) := by decide +kernel
theorem dX11_passToEditor_6 : decode cX11_passToEditor 6 = .ok (.getfield 51, 3) := by decide +kernel
theorem dX11_passToEditor_9 : decode cX11_passToEditor 9 = .ok (.arraylength, 1) := by decide +kernel
theorem dX11_passToEditor_10 : decode cX11_passToEditor 10 = .ok (.if_icmp .lt 4, 3) := by decide +kernel
theorem dX11_passToEditor_14 : decode cX11_passToEditor 14 = .ok (.aload_n 2, 1) := by decide +kernel
set_option maxRecDepth 100000 in
theorem q717 : Cond.fieldLink RX11 396 "ToolPlex$Message" "kind" "I" ∈ GT := gt 717 (by decide +kernel) (by decide +kernel)
theorem ft_X11_396 : FT RX11 396 RX6 7 RX6 TX6 17 0 := ⟨rfl, by decide, by decide, q717, Or.inl rfl, inGX6⟩
theorem dX11_passToEditor_15 : decode cX11_passToEditor 15 = .ok (.getfield 396, 3) := by decide +kernel
theorem dX11_passToEditor_18 : decode cX11_passToEditor 18 = .ok (.iconst 5, 1) := by decide +kernel
theorem dX11_passToEditor_19 : decode cX11_passToEditor 19 = .ok (.if_icmp .ne 16, 3) := by decide +kernel
theorem dX11_passToEditor_35 : decode cX11_passToEditor 35 = .ok (.aload_n 0, 1) := by decide +kernel
theorem dX11_passToEditor_36 : decode cX11_passToEditor 36 = .ok (.getfield 51, 3) := by decide +kernel
theorem dX11_passToEditor_39 : decode cX11_passToEditor 39 = .ok (.iload_n 1, 1) := by decide +kernel
theorem dX11_passToEditor_40 : decode cX11_passToEditor 40 = .ok (.aaload, 1) := by decide +kernel
theorem dX11_passToEditor_41 : decode cX11_passToEditor 41 = .ok (.aload_n 2, 1) := by decide +kernel
set_option maxRecDepth 100000 in
theorem q1396 : Cond.code yX3_takeFaults cX3_takeFaults 3 none ∈ GT := gt 1396 (rfl) (by decide +kernel)
theorem M_X3_takeFaults : MY yX3_takeFaults cX3_takeFaults 3 none 1 := ⟨q1396, q60, by decide +kernel, by decide +kernel⟩
set_option maxRecDepth 100000 in
theorem q1394 : Cond.instanceMethod yX3_takeFaults ∈ GT := gt 1394 (by decide +kernel) (by decide +kernel)
set_option maxRecDepth 100000 in
theorem q1395 : Cond.selects RX3 yX3_takeFaults yX3_takeFaults ∈ GT := gt 1395 (by decide +kernel) (by decide +kernel)
set_option maxRecDepth 100000 in
theorem q1393 : Cond.methodLink RX11 417 yX3_takeFaults ∈ GT := gt 1393 (by decide +kernel) (by decide +kernel)
theorem dX11_passToEditor_42 : decode cX11_passToEditor 42 = .ok (.invokevirtual 417, 3) := by decide +kernel
theorem dX11_passToEditor_45 : decode cX11_passToEditor 45 = .ok (.return_, 1) := by decide +kernel
theorem dX11_passToEditor_22 : decode cX11_passToEditor 22 = .ok (.aload_n 0, 1) := by decide +kernel
theorem dX11_passToEditor_23 : decode cX11_passToEditor 23 = .ok (.getfield 51, 3) := by decide +kernel
theorem dX11_passToEditor_26 : decode cX11_passToEditor 26 = .ok (.iload_n 1, 1) := by decide +kernel
theorem dX11_passToEditor_27 : decode cX11_passToEditor 27 = .ok (.aaload, 1) := by decide +kernel
theorem dX11_passToEditor_28 : decode cX11_passToEditor 28 = .ok (.aload_n 2, 1) := by decide +kernel
set_option maxRecDepth 100000 in
theorem q1380 : Cond.code yX3_takeAnswer cX3_takeAnswer 4 none ∈ GT := gt 1380 (rfl) (by decide +kernel)
theorem M_X3_takeAnswer : MY yX3_takeAnswer cX3_takeAnswer 4 none 1 := ⟨q1380, q60, by decide +kernel, by decide +kernel⟩
set_option maxRecDepth 100000 in
theorem q1378 : Cond.instanceMethod yX3_takeAnswer ∈ GT := gt 1378 (by decide +kernel) (by decide +kernel)
set_option maxRecDepth 100000 in
theorem q1379 : Cond.selects RX3 yX3_takeAnswer yX3_takeAnswer ∈ GT := gt 1379 (by decide +kernel) (by decide +kernel)
set_option maxRecDepth 100000 in
theorem q1377 : Cond.methodLink RX11 414 yX3_takeAnswer ∈ GT := gt 1377 (by decide +kernel) (by decide +kernel)
theorem dX11_passToEditor_29 : decode cX11_passToEditor 29 = .ok (.invokevirtual 414, 3) := by decide +kernel
theorem dX11_passToEditor_32 : decode cX11_passToEditor 32 = .ok (.goto 13, 3) := by decide +kernel
set_option maxHeartbeats 4000000 in
set_option maxRecDepth 100000 in
theorem w_X11_passToEditor_0 {p : Program} {l : Launch} {e : Env} {R : Room} {s : State} {m : MethodId} {args : Array Value} {below : List Frame} {meth : Method} {c : Code} {G : Gt} {ρ0 : Int → Nat} {M0 : Mo} {res : RS} (F : Fx p l R s m args meth c cX11_passToEditor 3 RX11 G M0 5 none) (hno : ∀ x ∈ c.exceptionTable.toList, False) (hnm : meth.name = yX11_passToEditor.name) (x0 x1 x2 : Int) (M : Mo) (h : X11_passToEditor x0 x1 x2 M = some res) : J p l e R s m args below meth c 3 G ρ0 M0 0 res M 0 [(0, (false, x0)), (1, (true, x1)), (2, (false, x2))] [] := by
  unfold X11_passToEditor at h
  refine j_iload_n F 1 rfl rfl dX11_passToEditor_0 ?_
  refine j_if_lt F 13 (by decide) dX11_passToEditor_1 h (fun h => ?_) (fun h => ?_)
  · skip
    exact j_vret F (v := 0) h dX11_passToEditor_13
  · skip
    refine j_iload_n F 1 rfl rfl dX11_passToEditor_4 ?_
    refine j_aload_n F 0 rfl rfl dX11_passToEditor_5 ?_
    obtain ⟨g1, h⟩ := gua h
    refine j_get F ft_X11_51 rfl g1 dX11_passToEditor_6 ?_
    obtain ⟨g2, h⟩ := gua h
    refine j_alen F g2 dX11_passToEditor_9 ?_
    refine j_icmp_lt F 14 (by decide) dX11_passToEditor_10 h (fun h => ?_) (fun h => ?_)
    · skip
      refine j_aload_n F 2 rfl rfl dX11_passToEditor_14 ?_
      obtain ⟨g3, h⟩ := gua h
      refine j_get F ft_X11_396 rfl g3 dX11_passToEditor_15 ?_
      refine j_iconst F dX11_passToEditor_18 ?_
      refine j_icmp_ne F 35 (by decide) dX11_passToEditor_19 h (fun h => ?_) (fun h => ?_)
      · skip
        refine j_aload_n F 0 rfl rfl dX11_passToEditor_35 ?_
        refine j_get F ft_X11_51 rfl g1 dX11_passToEditor_36 ?_
        refine j_iload_n F 1 rfl rfl dX11_passToEditor_39 ?_
        obtain ⟨g4, h⟩ := gua h
        obtain ⟨g5, h⟩ := gua h
        refine j_aaload F 15 8 g4 (by decide) rfl g5 dX11_passToEditor_40 ?_
        refine j_aload_n F 2 rfl rfl dX11_passToEditor_41 ?_
        obtain ⟨g9, h⟩ := gua h
        refine j_callV (d' := 2) (argl := [(false, x2)]) (rk9 := 0) (st := []) F hno M_X3_takeFaults q1394 q1395 q1393 ⟨by decide, by decide⟩ (Nat.le_of_ble_eq_true rfl) (by decide) (ci := 4) rfl (by decide) g9 dX11_passToEditor_42 rfl h (fun z hz => c_X3_takeFaults l F.ht G (el M 15 (fd M 12 2 x0) (wr x1)) x2 M z hz) (fun v6 M7 h kl8 => ?_)
        refine j_st (st' := []) rfl ?_
        exact j_vret F (v := 0) h dX11_passToEditor_45
      · skip
        refine j_aload_n F 0 rfl rfl dX11_passToEditor_22 ?_
        refine j_get F ft_X11_51 rfl g1 dX11_passToEditor_23 ?_
        refine j_iload_n F 1 rfl rfl dX11_passToEditor_26 ?_
        obtain ⟨g10, h⟩ := gua h
        obtain ⟨g11, h⟩ := gua h
        refine j_aaload F 15 8 g10 (by decide) rfl g11 dX11_passToEditor_27 ?_
        refine j_aload_n F 2 rfl rfl dX11_passToEditor_28 ?_
        obtain ⟨g15, h⟩ := gua h
        refine j_callV (d' := 4) (argl := [(false, x2)]) (rk9 := 0) (st := []) F hno M_X3_takeAnswer q1378 q1379 q1377 ⟨by decide, by decide⟩ (Nat.le_of_ble_eq_true rfl) (by decide) (ci := 4) rfl (by decide) g15 dX11_passToEditor_29 rfl h (fun z hz => c_X3_takeAnswer l F.ht G (el M 15 (fd M 12 2 x0) (wr x1)) x2 M z hz) (fun v12 M13 h kl14 => ?_)
        refine j_st (st' := []) rfl ?_
        refine j_goto F 45 (by decide) dX11_passToEditor_32 ?_
        exact j_vret F (v := 0) h dX11_passToEditor_45
    · skip
      exact j_vret F (v := 0) h dX11_passToEditor_13
theorem c_X11_passToEditor (l : Launch) (hl : l.stackTraces = false) (G : Gt) (x0 x1 x2 : Int) (M : Mo) (z : RS) (h : X11_passToEditor x0 x1 x2 M = some z) : CT l G yX11_passToEditor (cn yX11_passToEditor cX11_passToEditor 3 none) 5 [(false, x0), (true, x1), (false, x2)] M 0 z :=
  ctOf hl (by decide) (Nat.le_of_ble_eq_true rfl) (fun p e R s m args below meth c ρ F hno hnm => w_X11_passToEditor_0 F hno hnm x0 x1 x2 M h)
theorem dX11_pass_0 : decode cX11_pass 0 = .ok (.iload_n 1, 1) := by decide +kernel
theorem dX11_pass_1 : decode cX11_pass 1 = .ok (.ifCond .lt 12, 3) := by decide +kernel
theorem dX11_pass_13 : decode cX11_pass 13 = .ok (.iconst (-1), 1) := by decide +kernel
theorem dX11_pass_14 : decode cX11_pass 14 = .ok (.ireturn, 1) := by decide +kernel
theorem dX11_pass_4 : decode cX11_pass 4 = .ok (.iload_n 1, 1) := by decide +kernel
theorem dX11_pass_5 : decode cX11_pass 5 = .ok (.aload_n 0, 1) := by decide +kernel
theorem dX11_pass_6 : decode cX11_pass 6 = .ok (.getfield 47, 3) := by decide +kernel
theorem dX11_pass_9 : decode cX11_pass 9 = .ok (.arraylength, 1) := by decide +kernel
theorem dX11_pass_10 : decode cX11_pass 10 = .ok (.if_icmp .lt 5, 3) := by decide +kernel
theorem dX11_pass_15 : decode cX11_pass 15 = .ok (.aload_n 0, 1) := by decide +kernel
theorem dX11_pass_16 : decode cX11_pass 16 = .ok (.getfield 47, 3) := by decide +kernel
theorem dX11_pass_19 : decode cX11_pass 19 = .ok (.iload_n 1, 1) := by decide +kernel
theorem dX11_pass_20 : decode cX11_pass 20 = .ok (.aaload, 1) := by decide +kernel
set_option maxRecDepth 100000 in
theorem q1365 : Cond.code yX1_takeFirst cX1_takeFirst 2 (some (FieldType.object "ToolPlex$Message")) ∈ GT := gt 1365 (rfl) (by decide +kernel)
theorem M_X1_takeFirst : MY yX1_takeFirst cX1_takeFirst 2 (some (FieldType.object "ToolPlex$Message")) 0 := ⟨q1365, q59, by decide +kernel, by decide +kernel⟩
set_option maxRecDepth 100000 in
theorem q1363 : Cond.instanceMethod yX1_takeFirst ∈ GT := gt 1363 (by decide +kernel) (by decide +kernel)
set_option maxRecDepth 100000 in
theorem q1364 : Cond.selects RX1 yX1_takeFirst yX1_takeFirst ∈ GT := gt 1364 (by decide +kernel) (by decide +kernel)
set_option maxRecDepth 100000 in
theorem q1362 : Cond.methodLink RX11 389 yX1_takeFirst ∈ GT := gt 1362 (by decide +kernel) (by decide +kernel)
theorem dX11_pass_21 : decode cX11_pass 21 = .ok (.invokevirtual 389, 3) := by decide +kernel
theorem dX11_pass_24 : decode cX11_pass 24 = .ok (.astore_n 2, 1) := by decide +kernel
theorem dX11_pass_25 : decode cX11_pass 25 = .ok (.aload_n 2, 1) := by decide +kernel
theorem dX11_pass_26 : decode cX11_pass 26 = .ok (.ifnonnull 5, 3) := by decide +kernel
theorem dX11_pass_31 : decode cX11_pass 31 = .ok (.iload_n 1, 1) := by decide +kernel
theorem dX11_pass_32 : decode cX11_pass 32 = .ok (.bipush 8, 2) := by decide +kernel
theorem dX11_pass_34 : decode cX11_pass 34 = .ok (.if_icmp .lt 15, 3) := by decide +kernel
theorem dX11_pass_49 : decode cX11_pass 49 = .ok (.iload_n 1, 1) := by decide +kernel
theorem dX11_pass_50 : decode cX11_pass 50 = .ok (.iconst 5, 1) := by decide +kernel
theorem dX11_pass_51 : decode cX11_pass 51 = .ok (.if_icmp .lt 32, 3) := by decide +kernel
theorem dX11_pass_54 : decode cX11_pass 54 = .ok (.aload_n 2, 1) := by decide +kernel
theorem dX11_pass_55 : decode cX11_pass 55 = .ok (.getfield 396, 3) := by decide +kernel
theorem dX11_pass_58 : decode cX11_pass 58 = .ok (.iconst 5, 1) := by decide +kernel
theorem dX11_pass_59 : decode cX11_pass 59 = .ok (.if_icmp .ne 24, 3) := by decide +kernel
theorem dX11_pass_62 : decode cX11_pass 62 = .ok (.aload_n 0, 1) := by decide +kernel
theorem dX11_pass_63 : decode cX11_pass 63 = .ok (.getfield 35, 3) := by decide +kernel
theorem dX11_pass_66 : decode cX11_pass 66 = .ok (.aload_n 0, 1) := by decide +kernel
theorem dX11_pass_67 : decode cX11_pass 67 = .ok (.getfield 35, 3) := by decide +kernel
theorem dX11_pass_70 : decode cX11_pass 70 = .ok (.iload_n 1, 1) := by decide +kernel
theorem dX11_pass_71 : decode cX11_pass 71 = .ok (.iconst 5, 1) := by decide +kernel
theorem dX11_pass_72 : decode cX11_pass 72 = .ok (.isub, 1) := by decide +kernel
theorem dX11_pass_73 : decode cX11_pass 73 = .ok (.aload_n 2, 1) := by decide +kernel
set_option maxRecDepth 100000 in
theorem q1400 : Cond.code yX7_completedBy cX7_completedBy 6 (some (FieldType.object "ToolPlex$Pending")) ∈ GT := gt 1400 (rfl) (by decide +kernel)
theorem M_X7_completedBy : MY yX7_completedBy cX7_completedBy 6 (some (FieldType.object "ToolPlex$Pending")) 2 := ⟨q1400, q63, by decide +kernel, by decide +kernel⟩
set_option maxRecDepth 100000 in
theorem q1398 : Cond.instanceMethod yX7_completedBy ∈ GT := gt 1398 (by decide +kernel) (by decide +kernel)
set_option maxRecDepth 100000 in
theorem q1399 : Cond.selects RX7 yX7_completedBy yX7_completedBy ∈ GT := gt 1399 (by decide +kernel) (by decide +kernel)
set_option maxRecDepth 100000 in
theorem q1397 : Cond.methodLink RX11 397 yX7_completedBy ∈ GT := gt 1397 (by decide +kernel) (by decide +kernel)
theorem dX11_pass_74 : decode cX11_pass 74 = .ok (.invokevirtual 397, 3) := by decide +kernel
set_option maxRecDepth 100000 in
theorem q1409 : Cond.methodLink RX11 401 yX7_settle ∈ GT := gt 1409 (by decide +kernel) (by decide +kernel)
theorem dX11_pass_77 : decode cX11_pass 77 = .ok (.invokevirtual 401, 3) := by decide +kernel
theorem dX11_pass_80 : decode cX11_pass 80 = .ok (.goto 68, 3) := by decide +kernel
theorem dX11_pass_148 : decode cX11_pass 148 = .ok (.aload_n 2, 1) := by decide +kernel
theorem dX11_pass_149 : decode cX11_pass 149 = .ok (.getfield 396, 3) := by decide +kernel
theorem dX11_pass_152 : decode cX11_pass 152 = .ok (.ireturn, 1) := by decide +kernel
theorem dX11_pass_37 : decode cX11_pass 37 = .ok (.aload_n 0, 1) := by decide +kernel
theorem dX11_pass_38 : decode cX11_pass 38 = .ok (.iload_n 1, 1) := by decide +kernel
theorem dX11_pass_39 : decode cX11_pass 39 = .ok (.bipush 8, 2) := by decide +kernel
theorem dX11_pass_41 : decode cX11_pass 41 = .ok (.isub, 1) := by decide +kernel
theorem dX11_pass_42 : decode cX11_pass 42 = .ok (.aload_n 2, 1) := by decide +kernel
set_option maxRecDepth 100000 in
theorem q1376 : Cond.code yX11_passToEditor cX11_passToEditor 3 none ∈ GT := gt 1376 (rfl) (by decide +kernel)
theorem M_X11_passToEditor : MY yX11_passToEditor cX11_passToEditor 3 none 2 := ⟨q1376, q53, by decide +kernel, by decide +kernel⟩
set_option maxRecDepth 100000 in
theorem q1375 : Cond.instanceMethod yX11_passToEditor ∈ GT := gt 1375 (by decide +kernel) (by decide +kernel)
set_option maxRecDepth 100000 in
theorem q33 : Cond.selects RX11 yX11_passToEditor yX11_passToEditor ∈ GT := gt 33 (by decide +kernel) (by decide +kernel)
set_option maxRecDepth 100000 in
theorem q1373 : Cond.methodLink RX11 393 yX11_passToEditor ∈ GT := gt 1373 (by decide +kernel) (by decide +kernel)
theorem dX11_pass_43 : decode cX11_pass 43 = .ok (.invokevirtual 393, 3) := by decide +kernel
theorem dX11_pass_46 : decode cX11_pass 46 = .ok (.goto 102, 3) := by decide +kernel
theorem dX11_pass_29 : decode cX11_pass 29 = .ok (.iconst (-1), 1) := by decide +kernel
theorem dX11_pass_30 : decode cX11_pass 30 = .ok (.ireturn, 1) := by decide +kernel
theorem dX11_pass_83 : decode cX11_pass 83 = .ok (.iload_n 1, 1) := by decide +kernel
theorem dX11_pass_84 : decode cX11_pass 84 = .ok (.iconst 5, 1) := by decide +kernel
theorem dX11_pass_85 : decode cX11_pass 85 = .ok (.if_icmp .lt 17, 3) := by decide +kernel
theorem dX11_pass_102 : decode cX11_pass 102 = .ok (.iload_n 1, 1) := by decide +kernel
theorem dX11_pass_103 : decode cX11_pass 103 = .ok (.iconst 2, 1) := by decide +kernel
theorem dX11_pass_104 : decode cX11_pass 104 = .ok (.if_icmp .ge 14, 3) := by decide +kernel
theorem dX11_pass_118 : decode cX11_pass 118 = .ok (.iload_n 1, 1) := by decide +kernel
theorem dX11_pass_119 : decode cX11_pass 119 = .ok (.iconst 2, 1) := by decide +kernel
theorem dX11_pass_120 : decode cX11_pass 120 = .ok (.isub, 1) := by decide +kernel
theorem dX11_pass_121 : decode cX11_pass 121 = .ok (.aload_n 0, 1) := by decide +kernel
theorem dX11_pass_122 : decode cX11_pass 122 = .ok (.getfield 43, 3) := by decide +kernel
theorem dX11_pass_125 : decode cX11_pass 125 = .ok (.invokevirtual 113, 3) := by decide +kernel
theorem dX11_pass_128 : decode cX11_pass 128 = .ok (.if_icmp .ge 20, 3) := by decide +kernel
theorem dX11_pass_131 : decode cX11_pass 131 = .ok (.aload_n 0, 1) := by decide +kernel
theorem dX11_pass_132 : decode cX11_pass 132 = .ok (.getfield 43, 3) := by decide +kernel
theorem dX11_pass_135 : decode cX11_pass 135 = .ok (.iload_n 1, 1) := by decide +kernel
theorem dX11_pass_136 : decode cX11_pass 136 = .ok (.iconst 2, 1) := by decide +kernel
theorem dX11_pass_137 : decode cX11_pass 137 = .ok (.isub, 1) := by decide +kernel
theorem dX11_pass_138 : decode cX11_pass 138 = .ok (.invokevirtual 328, 3) := by decide +kernel
theorem dX11_pass_141 : decode cX11_pass 141 = .ok (.checkcast 122, 3) := by decide +kernel
theorem dX11_pass_144 : decode cX11_pass 144 = .ok (.aload_n 2, 1) := by decide +kernel
set_option maxRecDepth 100000 in
theorem q1490 : Cond.code yX9_take cX9_take 3 none ∈ GT := gt 1490 (rfl) (by decide +kernel)
theorem M_X9_take : MY yX9_take cX9_take 3 none 1 := ⟨q1490, q72, by decide +kernel, by decide +kernel⟩
set_option maxRecDepth 100000 in
theorem q1488 : Cond.instanceMethod yX9_take ∈ GT := gt 1488 (by decide +kernel) (by decide +kernel)
set_option maxRecDepth 100000 in
theorem q1489 : Cond.selects RX9 yX9_take yX9_take ∈ GT := gt 1489 (by decide +kernel) (by decide +kernel)
set_option maxRecDepth 100000 in
theorem q1487 : Cond.methodLink RX11 411 yX9_take ∈ GT := gt 1487 (by decide +kernel) (by decide +kernel)
theorem dX11_pass_145 : decode cX11_pass 145 = .ok (.invokevirtual 411, 3) := by decide +kernel
theorem dX11_pass_107 : decode cX11_pass 107 = .ok (.aload_n 0, 1) := by decide +kernel
theorem dX11_pass_108 : decode cX11_pass 108 = .ok (.getfield 35, 3) := by decide +kernel
theorem dX11_pass_111 : decode cX11_pass 111 = .ok (.aload_n 2, 1) := by decide +kernel
set_option maxRecDepth 100000 in
theorem q1417 : Cond.code yX7_takeFromEditor cX7_takeFromEditor 2 none ∈ GT := gt 1417 (rfl) (by decide +kernel)
theorem M_X7_takeFromEditor : MY yX7_takeFromEditor cX7_takeFromEditor 2 none 1 := ⟨q1417, q63, by decide +kernel, by decide +kernel⟩
set_option maxRecDepth 100000 in
theorem q1415 : Cond.instanceMethod yX7_takeFromEditor ∈ GT := gt 1415 (by decide +kernel) (by decide +kernel)
set_option maxRecDepth 100000 in
theorem q1416 : Cond.selects RX7 yX7_takeFromEditor yX7_takeFromEditor ∈ GT := gt 1416 (by decide +kernel) (by decide +kernel)
set_option maxRecDepth 100000 in
theorem q1414 : Cond.methodLink RX11 408 yX7_takeFromEditor ∈ GT := gt 1414 (by decide +kernel) (by decide +kernel)
theorem dX11_pass_112 : decode cX11_pass 112 = .ok (.invokevirtual 408, 3) := by decide +kernel
theorem dX11_pass_115 : decode cX11_pass 115 = .ok (.goto 33, 3) := by decide +kernel
theorem dX11_pass_88 : decode cX11_pass 88 = .ok (.aload_n 0, 1) := by decide +kernel
theorem dX11_pass_89 : decode cX11_pass 89 = .ok (.getfield 35, 3) := by decide +kernel
theorem dX11_pass_92 : decode cX11_pass 92 = .ok (.iload_n 1, 1) := by decide +kernel
theorem dX11_pass_93 : decode cX11_pass 93 = .ok (.iconst 5, 1) := by decide +kernel
theorem dX11_pass_94 : decode cX11_pass 94 = .ok (.isub, 1) := by decide +kernel
theorem dX11_pass_95 : decode cX11_pass 95 = .ok (.aload_n 2, 1) := by decide +kernel
set_option maxRecDepth 100000 in
theorem q1413 : Cond.code yX7_takeFaults cX7_takeFaults 8 none ∈ GT := gt 1413 (rfl) (by decide +kernel)
theorem M_X7_takeFaults : MY yX7_takeFaults cX7_takeFaults 8 none 2 := ⟨q1413, q63, by decide +kernel, by decide +kernel⟩
set_option maxRecDepth 100000 in
theorem q1411 : Cond.instanceMethod yX7_takeFaults ∈ GT := gt 1411 (by decide +kernel) (by decide +kernel)
set_option maxRecDepth 100000 in
theorem q1412 : Cond.selects RX7 yX7_takeFaults yX7_takeFaults ∈ GT := gt 1412 (by decide +kernel) (by decide +kernel)
set_option maxRecDepth 100000 in
theorem q1410 : Cond.methodLink RX11 405 yX7_takeFaults ∈ GT := gt 1410 (by decide +kernel) (by decide +kernel)
theorem dX11_pass_96 : decode cX11_pass 96 = .ok (.invokevirtual 405, 3) := by decide +kernel
theorem dX11_pass_99 : decode cX11_pass 99 = .ok (.goto 49, 3) := by decide +kernel
set_option maxHeartbeats 4000000 in
set_option maxRecDepth 100000 in
theorem w_X11_pass_83 {p : Program} {l : Launch} {e : Env} {R : Room} {s : State} {m : MethodId} {args : Array Value} {below : List Frame} {meth : Method} {c : Code} {G : Gt} {ρ0 : Int → Nat} {M0 : Mo} {res : RS} (F : Fx p l R s m args meth c cX11_pass 3 RX11 G M0 11 (some FieldType.int)) (hno : ∀ x ∈ c.exceptionTable.toList, False) (hnm : meth.name = yX11_pass.name) (x0 x1 x2 : Int) (M : Mo) (h : X11_pass_83 x0 x1 x2 M = some res) : J p l e R s m args below meth c 3 G ρ0 M0 1 res M 83 [(0, (false, x0)), (1, (true, x1)), (2, (false, x2))] [] := by
  unfold X11_pass_83 at h
  refine j_iload_n F 1 rfl rfl dX11_pass_83 ?_
  refine j_iconst F dX11_pass_84 ?_
  refine j_icmp_lt F 102 (by decide) dX11_pass_85 h (fun h => ?_) (fun h => ?_)
  · skip
    refine j_iload_n F 1 rfl rfl dX11_pass_102 ?_
    refine j_iconst F dX11_pass_103 ?_
    refine j_icmp_ge F 118 (by decide) dX11_pass_104 h (fun h => ?_) (fun h => ?_)
    · skip
      refine j_iload_n F 1 rfl rfl dX11_pass_118 ?_
      refine j_iconst F dX11_pass_119 ?_
      refine j_isub F dX11_pass_120 ?_
      refine j_aload_n F 0 rfl rfl dX11_pass_121 ?_
      obtain ⟨g1, h⟩ := gua h
      refine j_get F ft_X11_43 rfl g1 dX11_pass_122 ?_
      obtain ⟨g5, h⟩ := gua h
      refine j_callV (d' := 0) (argl := []) (rk9 := 1) (st := [(true, (x1 - 2))]) F hno M_Jx4a65c_size_8abf5 q448 q449 q447 ⟨by decide, by decide⟩ (Nat.le_of_ble_eq_true rfl) (by decide) (ci := 0) rfl (by decide) g5 dX11_pass_125 rfl h (fun z hz => c_Jx4a65c_size_8abf5 l F.ht G (fd M 12 3 x0) M z hz) (fun v2 M3 h kl4 => ?_)
      refine j_st (st' := [(true, v2), (true, (x1 - 2))]) rfl ?_
      refine j_icmp_ge F 148 (by decide) dX11_pass_128 h (fun h => ?_) (fun h => ?_)
      · skip
        refine j_aload_n F 2 rfl rfl dX11_pass_148 ?_
        obtain ⟨g6, h⟩ := gua h
        refine j_get F ft_X11_396 rfl g6 dX11_pass_149 ?_
        exact j_iret F h dX11_pass_152
      · skip
        refine j_aload_n F 0 rfl rfl dX11_pass_131 ?_
        refine j_get F ft_X11_43 rfl (kl4.is g1) dX11_pass_132 ?_
        refine j_iload_n F 1 rfl rfl dX11_pass_135 ?_
        refine j_iconst F dX11_pass_136 ?_
        refine j_isub F dX11_pass_137 ?_
        obtain ⟨g10, h⟩ := gua h
        refine j_callV (d' := 2) (argl := [(true, (x1 - 2))]) (rk9 := 2) (st := []) F hno M_Jx4a65c_get_915e3 q856 q857 q1087 ⟨by decide, by decide⟩ (Nat.le_of_ble_eq_true rfl) (by decide) (ci := 0) rfl (by decide) g10 dX11_pass_138 rfl h (fun z hz => c_Jx4a65c_get_915e3 l F.ht G (fd M3 12 3 x0) (x1 - 2) M3 z hz) (fun v7 M8 h kl9 => ?_)
        refine j_st (st' := [(false, v7)]) rfl ?_
        obtain ⟨g11, h⟩ := gua h
        refine j_cast F q472 rfl (by decide) g11 dX11_pass_141 ?_
        refine j_aload_n F 2 rfl rfl dX11_pass_144 ?_
        obtain ⟨g15, h⟩ := gua h
        refine j_callV (d' := 7) (argl := [(false, x2)]) (rk9 := 0) (st := []) F hno M_X9_take q1488 q1489 q1487 ⟨by decide, by decide⟩ (Nat.le_of_ble_eq_true rfl) (by decide) (ci := 10) rfl (by decide) g15 dX11_pass_145 rfl h (fun z hz => c_X9_take l F.ht G v7 x2 M8 z hz) (fun v12 M13 h kl14 => ?_)
        refine j_st (st' := []) rfl ?_
        refine j_aload_n F 2 rfl rfl dX11_pass_148 ?_
        obtain ⟨g16, h⟩ := gua h
        refine j_get F ft_X11_396 rfl g16 dX11_pass_149 ?_
        exact j_iret F h dX11_pass_152
    · skip
      refine j_aload_n F 0 rfl rfl dX11_pass_107 ?_
      obtain ⟨g17, h⟩ := gua h
      refine j_get F ft_X11_35 rfl g17 dX11_pass_108 ?_
      refine j_aload_n F 2 rfl rfl dX11_pass_111 ?_
      obtain ⟨g21, h⟩ := gua h
      refine j_callV (d' := 10) (argl := [(false, x2)]) (rk9 := 0) (st := []) F hno M_X7_takeFromEditor q1415 q1416 q1414 ⟨by decide, by decide⟩ (Nat.le_of_ble_eq_true rfl) (by decide) (ci := 8) rfl (by decide) g21 dX11_pass_112 rfl h (fun z hz => c_X7_takeFromEditor l F.ht G (fd M 12 4 x0) x2 M z hz) (fun v18 M19 h kl20 => ?_)
      refine j_st (st' := []) rfl ?_
      refine j_goto F 148 (by decide) dX11_pass_115 ?_
      refine j_aload_n F 2 rfl rfl dX11_pass_148 ?_
      obtain ⟨g22, h⟩ := gua h
      refine j_get F ft_X11_396 rfl g22 dX11_pass_149 ?_
      exact j_iret F h dX11_pass_152
  · skip
    refine j_aload_n F 0 rfl rfl dX11_pass_88 ?_
    obtain ⟨g23, h⟩ := gua h
    refine j_get F ft_X11_35 rfl g23 dX11_pass_89 ?_
    refine j_iload_n F 1 rfl rfl dX11_pass_92 ?_
    refine j_iconst F dX11_pass_93 ?_
    refine j_isub F dX11_pass_94 ?_
    refine j_aload_n F 2 rfl rfl dX11_pass_95 ?_
    obtain ⟨g27, h⟩ := gua h
    refine j_callV (d' := 8) (argl := [(true, (x1 - 5)), (false, x2)]) (rk9 := 0) (st := []) F hno M_X7_takeFaults q1411 q1412 q1410 ⟨by decide, by decide⟩ (Nat.le_of_ble_eq_true rfl) (by decide) (ci := 8) rfl (by decide) g27 dX11_pass_96 rfl h (fun z hz => c_X7_takeFaults l F.ht G (fd M 12 4 x0) (x1 - 5) x2 M z hz) (fun v24 M25 h kl26 => ?_)
    refine j_st (st' := []) rfl ?_
    refine j_goto F 148 (by decide) dX11_pass_99 ?_
    refine j_aload_n F 2 rfl rfl dX11_pass_148 ?_
    obtain ⟨g28, h⟩ := gua h
    refine j_get F ft_X11_396 rfl g28 dX11_pass_149 ?_
    exact j_iret F h dX11_pass_152
set_option maxHeartbeats 4000000 in
set_option maxRecDepth 100000 in
theorem w_X11_pass_0 {p : Program} {l : Launch} {e : Env} {R : Room} {s : State} {m : MethodId} {args : Array Value} {below : List Frame} {meth : Method} {c : Code} {G : Gt} {ρ0 : Int → Nat} {M0 : Mo} {res : RS} (F : Fx p l R s m args meth c cX11_pass 3 RX11 G M0 11 (some FieldType.int)) (hno : ∀ x ∈ c.exceptionTable.toList, False) (hnm : meth.name = yX11_pass.name) (x0 x1 : Int) (M : Mo) (h : X11_pass x0 x1 M = some res) : J p l e R s m args below meth c 3 G ρ0 M0 1 res M 0 [(0, (false, x0)), (1, (true, x1))] [] := by
  unfold X11_pass at h
  refine j_iload_n F 1 rfl rfl dX11_pass_0 ?_
  refine j_if_lt F 13 (by decide) dX11_pass_1 h (fun h => ?_) (fun h => ?_)
  · skip
    refine j_iconst F dX11_pass_13 ?_
    exact j_iret F h dX11_pass_14
  · skip
    refine j_iload_n F 1 rfl rfl dX11_pass_4 ?_
    refine j_aload_n F 0 rfl rfl dX11_pass_5 ?_
    obtain ⟨g1, h⟩ := gua h
    refine j_get F ft_X11_47 rfl g1 dX11_pass_6 ?_
    obtain ⟨g2, h⟩ := gua h
    refine j_alen F g2 dX11_pass_9 ?_
    refine j_icmp_lt F 15 (by decide) dX11_pass_10 h (fun h => ?_) (fun h => ?_)
    · skip
      refine j_aload_n F 0 rfl rfl dX11_pass_15 ?_
      refine j_get F ft_X11_47 rfl g1 dX11_pass_16 ?_
      refine j_iload_n F 1 rfl rfl dX11_pass_19 ?_
      obtain ⟨g3, h⟩ := gua h
      obtain ⟨g4, h⟩ := gua h
      refine j_aaload F 14 7 g3 (by decide) rfl g4 dX11_pass_20 ?_
      obtain ⟨g8, h⟩ := gua h
      refine j_callV (d' := 3) (argl := []) (rk9 := 2) (st := []) F hno M_X1_takeFirst q1363 q1364 q1362 ⟨by decide, by decide⟩ (Nat.le_of_ble_eq_true rfl) (by decide) (ci := 2) rfl (by decide) g8 dX11_pass_21 rfl h (fun z hz => c_X1_takeFirst l F.ht G (el M 14 (fd M 12 1 x0) (wr x1)) M z hz) (fun v5 M6 h kl7 => ?_)
      refine j_st (st' := [(false, v5)]) rfl ?_
      refine j_astore_n F (lv' := [(2, (false, v5)), (0, (false, x0)), (1, (true, x1))]) rfl (by decide) rfl dX11_pass_24 ?_
      refine j_aload_n F 0 rfl rfl dX11_pass_25 ?_
      refine j_ifnonnull F 31 (by decide) dX11_pass_26 h (fun h => ?_) (fun h => ?_)
      · skip
        refine j_iload_n F 2 rfl rfl dX11_pass_31 ?_
        refine j_bipush F (by decide) dX11_pass_32 ?_
        refine j_icmp_lt F 49 (by decide) dX11_pass_34 h (fun h => ?_) (fun h => ?_)
        · skip
          refine j_iload_n F 2 rfl rfl dX11_pass_49 ?_
          refine j_iconst F dX11_pass_50 ?_
          refine j_icmp_lt F 83 (by decide) dX11_pass_51 h (fun h => ?_) (fun h => ?_)
          · skip
            refine j_sub (lv' := [(0, (false, x0)), (1, (true, x1)), (2, (false, v5))]) [1, 2, 0] rfl ?_
            exact w_X11_pass_83 F hno hnm x0 x1 v5 M6 h
          · skip
            refine j_aload_n F 0 rfl rfl dX11_pass_54 ?_
            obtain ⟨g9, h⟩ := gua h
            refine j_get F ft_X11_396 rfl g9 dX11_pass_55 ?_
            refine j_iconst F dX11_pass_58 ?_
            refine j_icmp_ne F 83 (by decide) dX11_pass_59 h (fun h => ?_) (fun h => ?_)
            · skip
              refine j_sub (lv' := [(0, (false, x0)), (1, (true, x1)), (2, (false, v5))]) [1, 2, 0] rfl ?_
              exact w_X11_pass_83 F hno hnm x0 x1 v5 M6 h
            · skip
              refine j_aload_n F 1 rfl rfl dX11_pass_62 ?_
              refine j_get F ft_X11_35 rfl (kl7.is g1) dX11_pass_63 ?_
              refine j_aload_n F 1 rfl rfl dX11_pass_66 ?_
              refine j_get F ft_X11_35 rfl (kl7.is g1) dX11_pass_67 ?_
              refine j_iload_n F 2 rfl rfl dX11_pass_70 ?_
              refine j_iconst F dX11_pass_71 ?_
              refine j_isub F dX11_pass_72 ?_
              refine j_aload_n F 0 rfl rfl dX11_pass_73 ?_
              obtain ⟨g13, h⟩ := gua h
              refine j_callV (d' := 3) (argl := [(true, (x1 - 5)), (false, v5)]) (rk9 := 2) (st := [(false, (fd M6 12 4 x0))]) F hno M_X7_completedBy q1398 q1399 q1397 ⟨by decide, by decide⟩ (Nat.le_of_ble_eq_true rfl) (by decide) (ci := 8) rfl (by decide) g13 dX11_pass_74 rfl h (fun z hz => c_X7_completedBy l F.ht G (fd M6 12 4 x0) (x1 - 5) v5 M6 z hz) (fun v10 M11 h kl12 => ?_)
              refine j_st (st' := [(false, v10), (false, (fd M6 12 4 x0))]) rfl ?_
              refine j_callV (d' := 9) (argl := [(false, v10)]) (rk9 := 0) (st := []) F hno M_X7_settle q1263 q1264 q1409 ⟨by decide, by decide⟩ (Nat.le_of_ble_eq_true rfl) (by decide) (ci := 8) rfl (by decide) (kl12.is g13) dX11_pass_77 rfl h (fun z hz => c_X7_settle l F.ht G (fd M6 12 4 x0) v10 M11 z hz) (fun v14 M15 h kl16 => ?_)
              refine j_st (st' := []) rfl ?_
              refine j_goto F 148 (by decide) dX11_pass_80 ?_
              refine j_aload_n F 0 rfl rfl dX11_pass_148 ?_
              refine j_get F ft_X11_396 rfl (kl16.is (kl12.is g9)) dX11_pass_149 ?_
              exact j_iret F h dX11_pass_152
        · skip
          refine j_aload_n F 1 rfl rfl dX11_pass_37 ?_
          refine j_iload_n F 2 rfl rfl dX11_pass_38 ?_
          refine j_bipush F (by decide) dX11_pass_39 ?_
          refine j_isub F dX11_pass_41 ?_
          refine j_aload_n F 0 rfl rfl dX11_pass_42 ?_
          refine j_callV (d' := 5) (argl := [(true, (x1 - 8)), (false, v5)]) (rk9 := 0) (st := []) F hno M_X11_passToEditor q1375 q33 q1373 ⟨by decide, by decide⟩ (Nat.le_of_ble_eq_true rfl) (by decide) (ci := 12) rfl (by decide) (kl7.is g1) dX11_pass_43 rfl h (fun z hz => c_X11_passToEditor l F.ht G x0 (x1 - 8) v5 M6 z hz) (fun v17 M18 h kl19 => ?_)
          refine j_st (st' := []) rfl ?_
          refine j_goto F 148 (by decide) dX11_pass_46 ?_
          refine j_aload_n F 0 rfl rfl dX11_pass_148 ?_
          obtain ⟨g20, h⟩ := gua h
          refine j_get F ft_X11_396 rfl g20 dX11_pass_149 ?_
          exact j_iret F h dX11_pass_152
      · skip
        refine j_iconst F dX11_pass_29 ?_
        exact j_iret F h dX11_pass_30
    · skip
      refine j_iconst F dX11_pass_13 ?_
      exact j_iret F h dX11_pass_14
theorem c_X11_pass (l : Launch) (hl : l.stackTraces = false) (G : Gt) (x0 x1 : Int) (M : Mo) (z : RS) (h : X11_pass x0 x1 M = some z) : CT l G yX11_pass (cn yX11_pass cX11_pass 3 (some FieldType.int)) 11 [(false, x0), (true, x1)] M 1 z :=
  ctOf hl (by decide) (Nat.le_of_ble_eq_true rfl) (fun p e R s m args below meth c ρ F hno hnm => w_X11_pass_0 F hno hnm x0 x1 M h)
theorem dX11_deliver_0 : decode cX11_deliver 0 = .ok (.aload_n 0, 1) := by decide +kernel
theorem dX11_deliver_1 : decode cX11_deliver 1 = .ok (.iload_n 1, 1) := by decide +kernel
set_option maxRecDepth 100000 in
theorem q1356 : Cond.code yX11_checkChannel cX11_checkChannel 2 none ∈ GT := gt 1356 (rfl) (by decide +kernel)
theorem M_X11_checkChannel : MY yX11_checkChannel cX11_checkChannel 2 none 1 := ⟨q1356, q53, by decide +kernel, by decide +kernel⟩
set_option maxRecDepth 100000 in
theorem q1355 : Cond.instanceMethod yX11_checkChannel ∈ GT := gt 1355 (by decide +kernel) (by decide +kernel)
set_option maxRecDepth 100000 in
theorem q31 : Cond.selects RX11 yX11_checkChannel yX11_checkChannel ∈ GT := gt 31 (by decide +kernel) (by decide +kernel)
set_option maxRecDepth 100000 in
theorem q1353 : Cond.methodLink RX11 298 yX11_checkChannel ∈ GT := gt 1353 (by decide +kernel) (by decide +kernel)
theorem dX11_deliver_2 : decode cX11_deliver 2 = .ok (.invokevirtual 298, 3) := by decide +kernel
theorem dX11_deliver_5 : decode cX11_deliver 5 = .ok (.aload_n 0, 1) := by decide +kernel
theorem dX11_deliver_6 : decode cX11_deliver 6 = .ok (.iload_n 1, 1) := by decide +kernel
set_option maxRecDepth 100000 in
theorem q1361 : Cond.code yX11_pass cX11_pass 3 (some FieldType.int) ∈ GT := gt 1361 (rfl) (by decide +kernel)
theorem M_X11_pass : MY yX11_pass cX11_pass 3 (some FieldType.int) 1 := ⟨q1361, q53, by decide +kernel, by decide +kernel⟩
set_option maxRecDepth 100000 in
theorem q1360 : Cond.instanceMethod yX11_pass ∈ GT := gt 1360 (by decide +kernel) (by decide +kernel)
set_option maxRecDepth 100000 in
theorem q32 : Cond.selects RX11 yX11_pass yX11_pass ∈ GT := gt 32 (by decide +kernel) (by decide +kernel)
set_option maxRecDepth 100000 in
theorem q1358 : Cond.methodLink RX11 301 yX11_pass ∈ GT := gt 1358 (by decide +kernel) (by decide +kernel)
theorem dX11_deliver_7 : decode cX11_deliver 7 = .ok (.invokevirtual 301, 3) := by decide +kernel
theorem dX11_deliver_10 : decode cX11_deliver 10 = .ok (.ireturn, 1) := by decide +kernel
set_option maxHeartbeats 4000000 in
set_option maxRecDepth 100000 in
theorem w_X11_deliver_0 {p : Program} {l : Launch} {e : Env} {R : Room} {s : State} {m : MethodId} {args : Array Value} {below : List Frame} {meth : Method} {c : Code} {G : Gt} {ρ0 : Int → Nat} {M0 : Mo} {res : RS} (F : Fx p l R s m args meth c cX11_deliver 2 RX11 G M0 12 (some FieldType.int)) (hno : ∀ x ∈ c.exceptionTable.toList, False) (hnm : meth.name = yX11_deliver.name) (x0 x1 : Int) (M : Mo) (h : X11_deliver x0 x1 M = some res) : J p l e R s m args below meth c 2 G ρ0 M0 1 res M 0 [(0, (false, x0)), (1, (true, x1))] [] := by
  unfold X11_deliver at h
  refine j_aload_n F 0 rfl rfl dX11_deliver_0 ?_
  refine j_iload_n F 1 rfl rfl dX11_deliver_1 ?_
  obtain ⟨g4, h⟩ := gua h
  refine j_callV (d' := 6) (argl := [(true, x1)]) (rk9 := 0) (st := []) F hno M_X11_checkChannel q1355 q31 q1353 ⟨by decide, by decide⟩ (Nat.le_of_ble_eq_true rfl) (by decide) (ci := 12) rfl (by decide) g4 dX11_deliver_2 rfl h (fun z hz => c_X11_checkChannel l F.ht G x0 x1 M z hz) (fun v1 M2 h kl3 => ?_)
  refine j_st (st' := []) rfl ?_
  refine j_aload_n F 0 rfl rfl dX11_deliver_5 ?_
  refine j_iload_n F 1 rfl rfl dX11_deliver_6 ?_
  refine j_callV (d' := 11) (argl := [(true, x1)]) (rk9 := 1) (st := []) F hno M_X11_pass q1360 q32 q1358 ⟨by decide, by decide⟩ (Nat.le_of_ble_eq_true rfl) (by decide) (ci := 12) rfl (by decide) (kl3.is g4) dX11_deliver_7 rfl h (fun z hz => c_X11_pass l F.ht G x0 x1 M2 z hz) (fun v5 M6 h kl7 => ?_)
  refine j_st (st' := [(true, v5)]) rfl ?_
  exact j_iret F h dX11_deliver_10
theorem c_X11_deliver (l : Launch) (hl : l.stackTraces = false) (G : Gt) (x0 x1 : Int) (M : Mo) (z : RS) (h : X11_deliver x0 x1 M = some z) : CT l G yX11_deliver (cn yX11_deliver cX11_deliver 2 (some FieldType.int)) 12 [(false, x0), (true, x1)] M 1 z :=
  ctOf hl (by decide) (Nat.le_of_ble_eq_true rfl) (fun p e R s m args below meth c ρ F hno hnm => w_X11_deliver_0 F hno hnm x0 x1 M h)
theorem dX11_lowestChannel_0 : decode cX11_lowestChannel 0 = .ok (.iconst 0, 1) := by decide +kernel
theorem dX11_lowestChannel_1 : decode cX11_lowestChannel 1 = .ok (.istore_n 1, 1) := by decide +kernel
theorem dX11_lowestChannel_2 : decode cX11_lowestChannel 2 = .ok (.iload_n 1, 1) := by decide +kernel
theorem dX11_lowestChannel_3 : decode cX11_lowestChannel 3 = .ok (.aload_n 0, 1) := by decide +kernel
theorem dX11_lowestChannel_4 : decode cX11_lowestChannel 4 = .ok (.getfield 47, 3) := by decide +kernel
theorem dX11_lowestChannel_7 : decode cX11_lowestChannel 7 = .ok (.arraylength, 1) := by decide +kernel
theorem dX11_lowestChannel_8 : decode cX11_lowestChannel 8 = .ok (.if_icmp .ge 23, 3) := by decide +kernel
theorem dX11_lowestChannel_31 : decode cX11_lowestChannel 31 = .ok (.iconst (-1), 1) := by decide +kernel
theorem dX11_lowestChannel_32 : decode cX11_lowestChannel 32 = .ok (.ireturn, 1) := by decide +kernel
theorem dX11_lowestChannel_11 : decode cX11_lowestChannel 11 = .ok (.aload_n 0, 1) := by decide +kernel
theorem dX11_lowestChannel_12 : decode cX11_lowestChannel 12 = .ok (.getfield 47, 3) := by decide +kernel
theorem dX11_lowestChannel_15 : decode cX11_lowestChannel 15 = .ok (.iload_n 1, 1) := by decide +kernel
theorem dX11_lowestChannel_16 : decode cX11_lowestChannel 16 = .ok (.aaload, 1) := by decide +kernel
set_option maxRecDepth 100000 in
theorem q1525 : Cond.code yX1_size cX1_size 1 (some FieldType.int) ∈ GT := gt 1525 (rfl) (by decide +kernel)
theorem M_X1_size : MY yX1_size cX1_size 1 (some FieldType.int) 0 := ⟨q1525, q59, by decide +kernel, by decide +kernel⟩
set_option maxRecDepth 100000 in
theorem q1523 : Cond.instanceMethod yX1_size ∈ GT := gt 1523 (by decide +kernel) (by decide +kernel)
set_option maxRecDepth 100000 in
theorem q1524 : Cond.selects RX1 yX1_size yX1_size ∈ GT := gt 1524 (by decide +kernel) (by decide +kernel)
set_option maxRecDepth 100000 in
theorem q1522 : Cond.methodLink RX11 388 yX1_size ∈ GT := gt 1522 (by decide +kernel) (by decide +kernel)
theorem dX11_lowestChannel_17 : decode cX11_lowestChannel 17 = .ok (.invokevirtual 388, 3) := by decide +kernel
theorem dX11_lowestChannel_20 : decode cX11_lowestChannel 20 = .ok (.ifCond .le 5, 3) := by decide +kernel
theorem dX11_lowestChannel_25 : decode cX11_lowestChannel 25 = .ok (.iinc 1 1, 3) := by decide +kernel
theorem dX11_lowestChannel_28 : decode cX11_lowestChannel 28 = .ok (.goto (-26), 3) := by decide +kernel
theorem dX11_lowestChannel_23 : decode cX11_lowestChannel 23 = .ok (.iload_n 1, 1) := by decide +kernel
theorem dX11_lowestChannel_24 : decode cX11_lowestChannel 24 = .ok (.ireturn, 1) := by decide +kernel
set_option maxHeartbeats 4000000 in
set_option maxRecDepth 100000 in
theorem w_X11_lowestChannel_2 {p : Program} {l : Launch} {e : Env} {R : Room} {s : State} {m : MethodId} {args : Array Value} {below : List Frame} {meth : Method} {c : Code} {G : Gt} {ρ0 : Int → Nat} {M0 : Mo} {res : RS} (F : Fx p l R s m args meth c cX11_lowestChannel 2 RX11 G M0 2 (some FieldType.int)) (hno : ∀ x ∈ c.exceptionTable.toList, False) (hnm : meth.name = yX11_lowestChannel.name) (n : Nat) : ∀ (x0 x1 : Int) (M : Mo), X11_lowestChannel_2 n x0 x1 M = some res → J p l e R s m args below meth c 2 G ρ0 M0 1 res M 2 [(0, (false, x0)), (1, (true, x1))] [] := by
  induction n with
  | zero => intro x0 x1 M h; cases h
  | succ n ih =>
    intro x0 x1 M h
    rw [X11_lowestChannel_2] at h
    refine j_iload_n F 1 rfl rfl dX11_lowestChannel_2 ?_
    refine j_aload_n F 0 rfl rfl dX11_lowestChannel_3 ?_
    obtain ⟨g1, h⟩ := gua h
    refine j_get F ft_X11_47 rfl g1 dX11_lowestChannel_4 ?_
    obtain ⟨g2, h⟩ := gua h
    refine j_alen F g2 dX11_lowestChannel_7 ?_
    refine j_icmp_ge F 31 (by decide) dX11_lowestChannel_8 h (fun h => ?_) (fun h => ?_)
    · skip
      refine j_iconst F dX11_lowestChannel_31 ?_
      exact j_iret F h dX11_lowestChannel_32
    · skip
      refine j_aload_n F 0 rfl rfl dX11_lowestChannel_11 ?_
      refine j_get F ft_X11_47 rfl g1 dX11_lowestChannel_12 ?_
      refine j_iload_n F 1 rfl rfl dX11_lowestChannel_15 ?_
      obtain ⟨g3, h⟩ := gua h
      obtain ⟨g4, h⟩ := gua h
      refine j_aaload F 14 7 g3 (by decide) rfl g4 dX11_lowestChannel_16 ?_
      obtain ⟨g8, h⟩ := gua h
      refine j_callV (d' := 1) (argl := []) (rk9 := 1) (st := []) F hno M_X1_size q1523 q1524 q1522 ⟨by decide, by decide⟩ (Nat.le_of_ble_eq_true rfl) (by decide) (ci := 2) rfl (by decide) g8 dX11_lowestChannel_17 rfl h (fun z hz => c_X1_size l F.ht G (el M 14 (fd M 12 1 x0) (wr x1)) M z hz) (fun v5 M6 h kl7 => ?_)
      refine j_st (st' := [(true, v5)]) rfl ?_
      refine j_if_le F 25 (by decide) dX11_lowestChannel_20 h (fun h => ?_) (fun h => ?_)
      · skip
        refine j_iinc F 1 (lv' := [(1, (true, (x1 + 1))), (0, (false, x0))]) rfl (by decide) rfl dX11_lowestChannel_25 ?_
        refine j_goto F 2 (by decide) dX11_lowestChannel_28 ?_
        refine j_sub (lv' := [(0, (false, x0)), (1, (true, (x1 + 1)))]) [1, 0] rfl ?_
        exact ih x0 (x1 + 1) M6 h
      · skip
        refine j_iload_n F 1 rfl rfl dX11_lowestChannel_23 ?_
        exact j_iret F h dX11_lowestChannel_24
set_option maxHeartbeats 4000000 in
set_option maxRecDepth 100000 in
theorem w_X11_lowestChannel_0 {p : Program} {l : Launch} {e : Env} {R : Room} {s : State} {m : MethodId} {args : Array Value} {below : List Frame} {meth : Method} {c : Code} {G : Gt} {ρ0 : Int → Nat} {M0 : Mo} {res : RS} (F : Fx p l R s m args meth c cX11_lowestChannel 2 RX11 G M0 2 (some FieldType.int)) (hno : ∀ x ∈ c.exceptionTable.toList, False) (hnm : meth.name = yX11_lowestChannel.name) (x0 : Int) (M : Mo) (h : X11_lowestChannel x0 M = some res) : J p l e R s m args below meth c 2 G ρ0 M0 1 res M 0 [(0, (false, x0))] [] := by
  unfold X11_lowestChannel at h
  refine j_iconst F dX11_lowestChannel_0 ?_
  refine j_istore_n F (lv' := [(1, (true, 0)), (0, (false, x0))]) rfl (by decide) rfl dX11_lowestChannel_1 ?_
  refine j_sub (lv' := [(0, (false, x0)), (1, (true, 0))]) [1, 0] rfl ?_
  exact w_X11_lowestChannel_2 F hno hnm FU x0 0 M h
theorem c_X11_lowestChannel (l : Launch) (hl : l.stackTraces = false) (G : Gt) (x0 : Int) (M : Mo) (z : RS) (h : X11_lowestChannel x0 M = some z) : CT l G yX11_lowestChannel (cn yX11_lowestChannel cX11_lowestChannel 2 (some FieldType.int)) 2 [(false, x0)] M 1 z :=
  ctOf hl (by decide) (Nat.le_of_ble_eq_true rfl) (fun p e R s m args below meth c ρ F hno hnm => w_X11_lowestChannel_0 F hno hnm x0 M h)
theorem dX11_deliverAll_0 : decode cX11_deliverAll 0 = .ok (.iconst 0, 1) := by decide +kernel
theorem dX11_deliverAll_1 : decode cX11_deliverAll 1 = .ok (.istore_n 1, 1) := by decide +kernel
set_option maxRecDepth 100000 in
theorem q1611 : Cond.constant RX11 304 (iI (1000000)) ∈ GT := gt 1611 (by decide +kernel) (by decide +kernel)
theorem dX11_deliverAll_2 : decode cX11_deliverAll 2 = .ok (.ldc_w 304, 3) := by decide +kernel
theorem dX11_deliverAll_5 : decode cX11_deliverAll 5 = .ok (.istore_n 2, 1) := by decide +kernel
theorem dX11_deliverAll_6 : decode cX11_deliverAll 6 = .ok (.iload_n 2, 1) := by decide +kernel
theorem dX11_deliverAll_7 : decode cX11_deliverAll 7 = .ok (.ifCond .le 30, 3) := by decide +kernel
theorem dX11_deliverAll_37 : decode cX11_deliverAll 37 = .ok (.iload_n 1, 1) := by decide +kernel
theorem dX11_deliverAll_38 : decode cX11_deliverAll 38 = .ok (.ireturn, 1) := by decide +kernel
theorem dX11_deliverAll_10 : decode cX11_deliverAll 10 = .ok (.aload_n 0, 1) := by decide +kernel
set_option maxRecDepth 100000 in
theorem q1615 : Cond.code yX11_lowestChannel cX11_lowestChannel 2 (some FieldType.int) ∈ GT := gt 1615 (rfl) (by decide +kernel)
theorem M_X11_lowestChannel : MY yX11_lowestChannel cX11_lowestChannel 2 (some FieldType.int) 0 := ⟨q1615, q53, by decide +kernel, by decide +kernel⟩
set_option maxRecDepth 100000 in
theorem q1614 : Cond.instanceMethod yX11_lowestChannel ∈ GT := gt 1614 (by decide +kernel) (by decide +kernel)
set_option maxRecDepth 100000 in
theorem q51 : Cond.selects RX11 yX11_lowestChannel yX11_lowestChannel ∈ GT := gt 51 (by decide +kernel) (by decide +kernel)
set_option maxRecDepth 100000 in
theorem q1612 : Cond.methodLink RX11 305 yX11_lowestChannel ∈ GT := gt 1612 (by decide +kernel) (by decide +kernel)
theorem dX11_deliverAll_11 : decode cX11_deliverAll 11 = .ok (.invokevirtual 305, 3) := by decide +kernel
theorem dX11_deliverAll_14 : decode cX11_deliverAll 14 = .ok (.istore_n 3, 1) := by decide +kernel
theorem dX11_deliverAll_15 : decode cX11_deliverAll 15 = .ok (.iload_n 3, 1) := by decide +kernel
theorem dX11_deliverAll_16 : decode cX11_deliverAll 16 = .ok (.iconst (-1), 1) := by decide +kernel
theorem dX11_deliverAll_17 : decode cX11_deliverAll 17 = .ok (.if_icmp .ne 5, 3) := by decide +kernel
theorem dX11_deliverAll_22 : decode cX11_deliverAll 22 = .ok (.aload_n 0, 1) := by decide +kernel
theorem dX11_deliverAll_23 : decode cX11_deliverAll 23 = .ok (.iload_n 3, 1) := by decide +kernel
theorem dX11_deliverAll_24 : decode cX11_deliverAll 24 = .ok (.invokevirtual 301, 3) := by decide +kernel
theorem dX11_deliverAll_27 : decode cX11_deliverAll 27 = .ok (.pop, 1) := by decide +kernel
theorem dX11_deliverAll_28 : decode cX11_deliverAll 28 = .ok (.iinc 1 1, 3) := by decide +kernel
theorem dX11_deliverAll_31 : decode cX11_deliverAll 31 = .ok (.iinc 2 (-1), 3) := by decide +kernel
theorem dX11_deliverAll_34 : decode cX11_deliverAll 34 = .ok (.goto (-28), 3) := by decide +kernel
theorem dX11_deliverAll_20 : decode cX11_deliverAll 20 = .ok (.iload_n 1, 1) := by decide +kernel
theorem dX11_deliverAll_21 : decode cX11_deliverAll 21 = .ok (.ireturn, 1) := by decide +kernel
set_option maxHeartbeats 4000000 in
set_option maxRecDepth 100000 in
theorem w_X11_deliverAll_6 {p : Program} {l : Launch} {e : Env} {R : Room} {s : State} {m : MethodId} {args : Array Value} {below : List Frame} {meth : Method} {c : Code} {G : Gt} {ρ0 : Int → Nat} {M0 : Mo} {res : RS} (F : Fx p l R s m args meth c cX11_deliverAll 4 RX11 G M0 12 (some FieldType.int)) (hno : ∀ x ∈ c.exceptionTable.toList, False) (hnm : meth.name = yX11_deliverAll.name) (n : Nat) : ∀ (x0 x1 x2 : Int) (M : Mo), X11_deliverAll_6 n x0 x1 x2 M = some res → J p l e R s m args below meth c 4 G ρ0 M0 1 res M 6 [(0, (false, x0)), (1, (true, x1)), (2, (true, x2))] [] := by
  induction n with
  | zero => intro x0 x1 x2 M h; cases h
  | succ n ih =>
    intro x0 x1 x2 M h
    rw [X11_deliverAll_6] at h
    refine j_iload_n F 2 rfl rfl dX11_deliverAll_6 ?_
    refine j_if_le F 37 (by decide) dX11_deliverAll_7 h (fun h => ?_) (fun h => ?_)
    · skip
      refine j_iload_n F 1 rfl rfl dX11_deliverAll_37 ?_
      exact j_iret F h dX11_deliverAll_38
    · skip
      refine j_aload_n F 0 rfl rfl dX11_deliverAll_10 ?_
      obtain ⟨g4, h⟩ := gua h
      refine j_callV (d' := 2) (argl := []) (rk9 := 1) (st := []) F hno M_X11_lowestChannel q1614 q51 q1612 ⟨by decide, by decide⟩ (Nat.le_of_ble_eq_true rfl) (by decide) (ci := 12) rfl (by decide) g4 dX11_deliverAll_11 rfl h (fun z hz => c_X11_lowestChannel l F.ht G x0 M z hz) (fun v1 M2 h kl3 => ?_)
      refine j_st (st' := [(true, v1)]) rfl ?_
      refine j_istore_n F (lv' := [(3, (true, v1)), (0, (false, x0)), (1, (true, x1)), (2, (true, x2))]) rfl (by decide) rfl dX11_deliverAll_14 ?_
      refine j_iload_n F 0 rfl rfl dX11_deliverAll_15 ?_
      refine j_iconst F dX11_deliverAll_16 ?_
      refine j_icmp_ne F 22 (by decide) dX11_deliverAll_17 h (fun h => ?_) (fun h => ?_)
      · skip
        refine j_aload_n F 1 rfl rfl dX11_deliverAll_22 ?_
        refine j_iload_n F 0 rfl rfl dX11_deliverAll_23 ?_
        refine j_callV (d' := 11) (argl := [(true, v1)]) (rk9 := 1) (st := []) F hno M_X11_pass q1360 q32 q1358 ⟨by decide, by decide⟩ (Nat.le_of_ble_eq_true rfl) (by decide) (ci := 12) rfl (by decide) (kl3.is g4) dX11_deliverAll_24 rfl h (fun z hz => c_X11_pass l F.ht G x0 v1 M2 z hz) (fun v5 M6 h kl7 => ?_)
        refine j_st (st' := [(true, v5)]) rfl ?_
        refine j_pop F dX11_deliverAll_27 ?_
        refine j_iinc F 2 (lv' := [(1, (true, (x1 + 1))), (3, (true, v1)), (0, (false, x0)), (2, (true, x2))]) rfl (by decide) rfl dX11_deliverAll_28 ?_
        refine j_iinc F 3 (lv' := [(2, (true, (x2 + (-1)))), (1, (true, (x1 + 1))), (3, (true, v1)), (0, (false, x0))]) rfl (by decide) rfl dX11_deliverAll_31 ?_
        refine j_goto F 6 (by decide) dX11_deliverAll_34 ?_
        refine j_sub (lv' := [(0, (false, x0)), (1, (true, (x1 + 1))), (2, (true, (x2 + (-1))))]) [3, 1, 0] rfl ?_
        exact ih x0 (x1 + 1) (x2 + (-1)) M6 h
      · skip
        refine j_iload_n F 2 rfl rfl dX11_deliverAll_20 ?_
        exact j_iret F h dX11_deliverAll_21
set_option maxHeartbeats 4000000 in
set_option maxRecDepth 100000 in
theorem w_X11_deliverAll_0 {p : Program} {l : Launch} {e : Env} {R : Room} {s : State} {m : MethodId} {args : Array Value} {below : List Frame} {meth : Method} {c : Code} {G : Gt} {ρ0 : Int → Nat} {M0 : Mo} {res : RS} (F : Fx p l R s m args meth c cX11_deliverAll 4 RX11 G M0 12 (some FieldType.int)) (hno : ∀ x ∈ c.exceptionTable.toList, False) (hnm : meth.name = yX11_deliverAll.name) (x0 : Int) (M : Mo) (h : X11_deliverAll x0 M = some res) : J p l e R s m args below meth c 4 G ρ0 M0 1 res M 0 [(0, (false, x0))] [] := by
  unfold X11_deliverAll at h
  refine j_iconst F dX11_deliverAll_0 ?_
  refine j_istore_n F (lv' := [(1, (true, 0)), (0, (false, x0))]) rfl (by decide) rfl dX11_deliverAll_1 ?_
  refine j_ldcw (n := 1000000) F q1611 dX11_deliverAll_2 ?_
  refine j_istore_n F (lv' := [(2, (true, 1000000)), (1, (true, 0)), (0, (false, x0))]) rfl (by decide) rfl dX11_deliverAll_5 ?_
  refine j_sub (lv' := [(0, (false, x0)), (1, (true, 0)), (2, (true, 1000000))]) [2, 1, 0] rfl ?_
  exact w_X11_deliverAll_6 F hno hnm FU x0 0 1000000 M h
theorem c_X11_deliverAll (l : Launch) (hl : l.stackTraces = false) (G : Gt) (x0 : Int) (M : Mo) (z : RS) (h : X11_deliverAll x0 M = some z) : CT l G yX11_deliverAll (cn yX11_deliverAll cX11_deliverAll 4 (some FieldType.int)) 12 [(false, x0)] M 1 z :=
  ctOf hl (by decide) (Nat.le_of_ble_eq_true rfl) (fun p e R s m args below meth c ρ F hno hnm => w_X11_deliverAll_0 F hno hnm x0 M h)
theorem dX11_held_0 : decode cX11_held 0 = .ok (.iload_n 1, 1) := by decide +kernel
theorem dX11_held_1 : decode cX11_held 1 = .ok (.ifCond .lt 24, 3) := by decide +kernel
theorem dX11_held_25 : decode cX11_held 25 = .ok (.iconst 0, 1) := by decide +kernel
theorem dX11_held_26 : decode cX11_held 26 = .ok (.ireturn, 1) := by decide +kernel
theorem dX11_held_4 : decode cX11_held 4 = .ok (.iload_n 1, 1) := by decide +kernel
theorem dX11_held_5 : decode cX11_held 5 = .ok (.aload_n 0, 1) := by decide +kernel
theorem dX11_held_6 : decode cX11_held 6 = .ok (.getfield 47, 3) := by decide +kernel
theorem dX11_held_9 : decode cX11_held 9 = .ok (.arraylength, 1) := by decide +kernel
theorem dX11_held_10 : decode cX11_held 10 = .ok (.if_icmp .ge 15, 3) := by decide +kernel
theorem dX11_held_13 : decode cX11_held 13 = .ok (.aload_n 0, 1) := by decide +kernel
theorem dX11_held_14 : decode cX11_held 14 = .ok (.getfield 47, 3) := by decide +kernel
theorem dX11_held_17 : decode cX11_held 17 = .ok (.iload_n 1, 1) := by decide +kernel
theorem dX11_held_18 : decode cX11_held 18 = .ok (.aaload, 1) := by decide +kernel
theorem dX11_held_19 : decode cX11_held 19 = .ok (.invokevirtual 388, 3) := by decide +kernel
theorem dX11_held_22 : decode cX11_held 22 = .ok (.goto 4, 3) := by decide +kernel
set_option maxHeartbeats 4000000 in
set_option maxRecDepth 100000 in
theorem w_X11_held_0 {p : Program} {l : Launch} {e : Env} {R : Room} {s : State} {m : MethodId} {args : Array Value} {below : List Frame} {meth : Method} {c : Code} {G : Gt} {ρ0 : Int → Nat} {M0 : Mo} {res : RS} (F : Fx p l R s m args meth c cX11_held 2 RX11 G M0 2 (some FieldType.int)) (hno : ∀ x ∈ c.exceptionTable.toList, False) (hnm : meth.name = yX11_held.name) (x0 x1 : Int) (M : Mo) (h : X11_held x0 x1 M = some res) : J p l e R s m args below meth c 2 G ρ0 M0 1 res M 0 [(0, (false, x0)), (1, (true, x1))] [] := by
  unfold X11_held at h
  refine j_iload_n F 1 rfl rfl dX11_held_0 ?_
  refine j_if_lt F 25 (by decide) dX11_held_1 h (fun h => ?_) (fun h => ?_)
  · skip
    refine j_iconst F dX11_held_25 ?_
    exact j_iret F h dX11_held_26
  · skip
    refine j_iload_n F 1 rfl rfl dX11_held_4 ?_
    refine j_aload_n F 0 rfl rfl dX11_held_5 ?_
    obtain ⟨g1, h⟩ := gua h
    refine j_get F ft_X11_47 rfl g1 dX11_held_6 ?_
    obtain ⟨g2, h⟩ := gua h
    refine j_alen F g2 dX11_held_9 ?_
    refine j_icmp_ge F 25 (by decide) dX11_held_10 h (fun h => ?_) (fun h => ?_)
    · skip
      refine j_iconst F dX11_held_25 ?_
      exact j_iret F h dX11_held_26
    · skip
      refine j_aload_n F 0 rfl rfl dX11_held_13 ?_
      refine j_get F ft_X11_47 rfl g1 dX11_held_14 ?_
      refine j_iload_n F 1 rfl rfl dX11_held_17 ?_
      obtain ⟨g3, h⟩ := gua h
      obtain ⟨g4, h⟩ := gua h
      refine j_aaload F 14 7 g3 (by decide) rfl g4 dX11_held_18 ?_
      obtain ⟨g8, h⟩ := gua h
      refine j_callV (d' := 1) (argl := []) (rk9 := 1) (st := []) F hno M_X1_size q1523 q1524 q1522 ⟨by decide, by decide⟩ (Nat.le_of_ble_eq_true rfl) (by decide) (ci := 2) rfl (by decide) g8 dX11_held_19 rfl h (fun z hz => c_X1_size l F.ht G (el M 14 (fd M 12 1 x0) (wr x1)) M z hz) (fun v5 M6 h kl7 => ?_)
      refine j_st (st' := [(true, v5)]) rfl ?_
      refine j_goto F 26 (by decide) dX11_held_22 ?_
      exact j_iret F h dX11_held_26
theorem c_X11_held (l : Launch) (hl : l.stackTraces = false) (G : Gt) (x0 x1 : Int) (M : Mo) (z : RS) (h : X11_held x0 x1 M = some z) : CT l G yX11_held (cn yX11_held cX11_held 2 (some FieldType.int)) 2 [(false, x0), (true, x1)] M 1 z :=
  ctOf hl (by decide) (Nat.le_of_ble_eq_true rfl) (fun p e R s m args below meth c ρ F hno hnm => w_X11_held_0 F hno hnm x0 x1 M h)
theorem dX11_waiting_0 : decode cX11_waiting 0 = .ok (.aload_n 0, 1) := by decide +kernel
theorem dX11_waiting_1 : decode cX11_waiting 1 = .ok (.iload_n 1, 1) := by decide +kernel
theorem dX11_waiting_2 : decode cX11_waiting 2 = .ok (.invokevirtual 298, 3) := by decide +kernel
theorem dX11_waiting_5 : decode cX11_waiting 5 = .ok (.aload_n 0, 1) := by decide +kernel
theorem dX11_waiting_6 : decode cX11_waiting 6 = .ok (.iload_n 1, 1) := by decide +kernel
set_option maxRecDepth 100000 in
theorem q1521 : Cond.code yX11_held cX11_held 2 (some FieldType.int) ∈ GT := gt 1521 (rfl) (by decide +kernel)
theorem M_X11_held : MY yX11_held cX11_held 2 (some FieldType.int) 1 := ⟨q1521, q53, by decide +kernel, by decide +kernel⟩
set_option maxRecDepth 100000 in
theorem q1520 : Cond.instanceMethod yX11_held ∈ GT := gt 1520 (by decide +kernel) (by decide +kernel)
set_option maxRecDepth 100000 in
theorem q48 : Cond.selects RX11 yX11_held yX11_held ∈ GT := gt 48 (by decide +kernel) (by decide +kernel)
set_option maxRecDepth 100000 in
theorem q1518 : Cond.methodLink RX11 308 yX11_held ∈ GT := gt 1518 (by decide +kernel) (by decide +kernel)
theorem dX11_waiting_7 : decode cX11_waiting 7 = .ok (.invokevirtual 308, 3) := by decide +kernel
theorem dX11_waiting_10 : decode cX11_waiting 10 = .ok (.ireturn, 1) := by decide +kernel
set_option maxHeartbeats 4000000 in
set_option maxRecDepth 100000 in
theorem w_X11_waiting_0 {p : Program} {l : Launch} {e : Env} {R : Room} {s : State} {m : MethodId} {args : Array Value} {below : List Frame} {meth : Method} {c : Code} {G : Gt} {ρ0 : Int → Nat} {M0 : Mo} {res : RS} (F : Fx p l R s m args meth c cX11_waiting 2 RX11 G M0 7 (some FieldType.int)) (hno : ∀ x ∈ c.exceptionTable.toList, False) (hnm : meth.name = yX11_waiting.name) (x0 x1 : Int) (M : Mo) (h : X11_waiting x0 x1 M = some res) : J p l e R s m args below meth c 2 G ρ0 M0 1 res M 0 [(0, (false, x0)), (1, (true, x1))] [] := by
  unfold X11_waiting at h
  refine j_aload_n F 0 rfl rfl dX11_waiting_0 ?_
  refine j_iload_n F 1 rfl rfl dX11_waiting_1 ?_
  obtain ⟨g4, h⟩ := gua h
  refine j_callV (d' := 6) (argl := [(true, x1)]) (rk9 := 0) (st := []) F hno M_X11_checkChannel q1355 q31 q1353 ⟨by decide, by decide⟩ (Nat.le_of_ble_eq_true rfl) (by decide) (ci := 12) rfl (by decide) g4 dX11_waiting_2 rfl h (fun z hz => c_X11_checkChannel l F.ht G x0 x1 M z hz) (fun v1 M2 h kl3 => ?_)
  refine j_st (st' := []) rfl ?_
  refine j_aload_n F 0 rfl rfl dX11_waiting_5 ?_
  refine j_iload_n F 1 rfl rfl dX11_waiting_6 ?_
  refine j_callV (d' := 2) (argl := [(true, x1)]) (rk9 := 1) (st := []) F hno M_X11_held q1520 q48 q1518 ⟨by decide, by decide⟩ (Nat.le_of_ble_eq_true rfl) (by decide) (ci := 12) rfl (by decide) (kl3.is g4) dX11_waiting_7 rfl h (fun z hz => c_X11_held l F.ht G x0 x1 M2 z hz) (fun v5 M6 h kl7 => ?_)
  refine j_st (st' := [(true, v5)]) rfl ?_
  exact j_iret F h dX11_waiting_10
theorem c_X11_waiting (l : Launch) (hl : l.stackTraces = false) (G : Gt) (x0 x1 : Int) (M : Mo) (z : RS) (h : X11_waiting x0 x1 M = some z) : CT l G yX11_waiting (cn yX11_waiting cX11_waiting 2 (some FieldType.int)) 7 [(false, x0), (true, x1)] M 1 z :=
  ctOf hl (by decide) (Nat.le_of_ble_eq_true rfl) (fun p e R s m args below meth c ρ F hno hnm => w_X11_waiting_0 F hno hnm x0 x1 M h)
theorem dX11_copyFor_0 : decode cX11_copyFor 0 = .ok (.iload_n 1, 1) := by decide +kernel
theorem dX11_copyFor_1 : decode cX11_copyFor 1 = .ok (.iconst 3, 1) := by decide +kernel
theorem dX11_copyFor_2 : decode cX11_copyFor 2 = .ok (.if_icmp .lt 15, 3) := by decide +kernel
theorem dX11_copyFor_17 : decode cX11_copyFor 17 = .ok (.iload_n 1, 1) := by decide +kernel
theorem dX11_copyFor_18 : decode cX11_copyFor 18 = .ok (.iconst 2, 1) := by decide +kernel
theorem dX11_copyFor_19 : decode cX11_copyFor 19 = .ok (.if_icmp .ne 14, 3) := by decide +kernel
theorem dX11_copyFor_33 : decode cX11_copyFor 33 = .ok (.aload_n 0, 1) := by decide +kernel
theorem dX11_copyFor_34 : decode cX11_copyFor 34 = .ok (.iload_n 1, 1) := by decide +kernel
theorem dX11_copyFor_35 : decode cX11_copyFor 35 = .ok (.invokevirtual 134, 3) := by decide +kernel
theorem dX11_copyFor_38 : decode cX11_copyFor 38 = .ok (.iload_n 2, 1) := by decide +kernel
theorem dX11_copyFor_39 : decode cX11_copyFor 39 = .ok (.invokevirtual 154, 3) := by decide +kernel
theorem dX11_copyFor_42 : decode cX11_copyFor 42 = .ok (.areturn, 1) := by decide +kernel
theorem dX11_copyFor_22 : decode cX11_copyFor 22 = .ok (.aload_n 0, 1) := by decide +kernel
theorem dX11_copyFor_23 : decode cX11_copyFor 23 = .ok (.getfield 35, 3) := by decide +kernel
theorem dX11_copyFor_26 : decode cX11_copyFor 26 = .ok (.iload_n 2, 1) := by decide +kernel
set_option maxRecDepth 100000 in
theorem q1534 : Cond.methodLink RX11 323 yX7_copyOf ∈ GT := gt 1534 (by decide +kernel) (by decide +kernel)
theorem dX11_copyFor_27 : decode cX11_copyFor 27 = .ok (.invokevirtual 323, 3) := by decide +kernel
theorem dX11_copyFor_30 : decode cX11_copyFor 30 = .ok (.goto 12, 3) := by decide +kernel
theorem dX11_copyFor_5 : decode cX11_copyFor 5 = .ok (.aload_n 0, 1) := by decide +kernel
theorem dX11_copyFor_6 : decode cX11_copyFor 6 = .ok (.iload_n 1, 1) := by decide +kernel
theorem dX11_copyFor_7 : decode cX11_copyFor 7 = .ok (.iconst 3, 1) := by decide +kernel
theorem dX11_copyFor_8 : decode cX11_copyFor 8 = .ok (.isub, 1) := by decide +kernel
theorem dX11_copyFor_9 : decode cX11_copyFor 9 = .ok (.invokevirtual 247, 3) := by decide +kernel
theorem dX11_copyFor_12 : decode cX11_copyFor 12 = .ok (.iload_n 2, 1) := by decide +kernel
theorem dX11_copyFor_13 : decode cX11_copyFor 13 = .ok (.invokevirtual 268, 3) := by decide +kernel
theorem dX11_copyFor_16 : decode cX11_copyFor 16 = .ok (.areturn, 1) := by decide +kernel
set_option maxHeartbeats 4000000 in
set_option maxRecDepth 100000 in
theorem w_X11_copyFor_0 {p : Program} {l : Launch} {e : Env} {R : Room} {s : State} {m : MethodId} {args : Array Value} {below : List Frame} {meth : Method} {c : Code} {G : Gt} {ρ0 : Int → Nat} {M0 : Mo} {res : RS} (F : Fx p l R s m args meth c cX11_copyFor 3 RX11 G M0 7 (some (FieldType.object "ToolPlex$Copy"))) (hno : ∀ x ∈ c.exceptionTable.toList, False) (hnm : meth.name = yX11_copyFor.name) (x0 x1 x2 : Int) (M : Mo) (h : X11_copyFor x0 x1 x2 M = some res) : J p l e R s m args below meth c 3 G ρ0 M0 2 res M 0 [(0, (false, x0)), (1, (true, x1)), (2, (true, x2))] [] := by
  unfold X11_copyFor at h
  refine j_iload_n F 1 rfl rfl dX11_copyFor_0 ?_
  refine j_iconst F dX11_copyFor_1 ?_
  refine j_icmp_lt F 17 (by decide) dX11_copyFor_2 h (fun h => ?_) (fun h => ?_)
  · skip
    refine j_iload_n F 1 rfl rfl dX11_copyFor_17 ?_
    refine j_iconst F dX11_copyFor_18 ?_
    refine j_icmp_ne F 33 (by decide) dX11_copyFor_19 h (fun h => ?_) (fun h => ?_)
    · skip
      refine j_aload_n F 0 rfl rfl dX11_copyFor_33 ?_
      refine j_iload_n F 1 rfl rfl dX11_copyFor_34 ?_
      obtain ⟨g4, h⟩ := gua h
      refine j_callV (d' := 6) (argl := [(true, x1)]) (rk9 := 2) (st := []) F hno M_X11_editorAt q668 q6 q666 ⟨by decide, by decide⟩ (Nat.le_of_ble_eq_true rfl) (by decide) (ci := 12) rfl (by decide) g4 dX11_copyFor_35 rfl h (fun z hz => c_X11_editorAt l F.ht G x0 x1 M z hz) (fun v1 M2 h kl3 => ?_)
      refine j_st (st' := [(false, v1)]) rfl ?_
      refine j_iload_n F 2 rfl rfl dX11_copyFor_38 ?_
      obtain ⟨g8, h⟩ := gua h
      refine j_callV (d' := 0) (argl := [(true, x2)]) (rk9 := 2) (st := []) F hno M_X3_copyOf q689 q690 q835 ⟨by decide, by decide⟩ (Nat.le_of_ble_eq_true rfl) (by decide) (ci := 4) rfl (by decide) g8 dX11_copyFor_39 rfl h (fun z hz => c_X3_copyOf l F.ht G v1 x2 M2 z hz) (fun v5 M6 h kl7 => ?_)
      refine j_st (st' := [(false, v5)]) rfl ?_
      exact j_aret F (Or.inl ⟨_, rfl⟩) h dX11_copyFor_42
    · skip
      refine j_aload_n F 0 rfl rfl dX11_copyFor_22 ?_
      obtain ⟨g9, h⟩ := gua h
      refine j_get F ft_X11_35 rfl g9 dX11_copyFor_23 ?_
      refine j_iload_n F 2 rfl rfl dX11_copyFor_26 ?_
      obtain ⟨g13, h⟩ := gua h
      refine j_callV (d' := 0) (argl := [(true, x2)]) (rk9 := 2) (st := []) F hno M_X7_copyOf q1267 q1268 q1534 ⟨by decide, by decide⟩ (Nat.le_of_ble_eq_true rfl) (by decide) (ci := 8) rfl (by decide) g13 dX11_copyFor_27 rfl h (fun z hz => c_X7_copyOf l F.ht G (fd M 12 4 x0) x2 M z hz) (fun v10 M11 h kl12 => ?_)
      refine j_st (st' := [(false, v10)]) rfl ?_
      refine j_goto F 42 (by decide) dX11_copyFor_30 ?_
      exact j_aret F (Or.inl ⟨_, rfl⟩) h dX11_copyFor_42
  · skip
    refine j_aload_n F 0 rfl rfl dX11_copyFor_5 ?_
    refine j_iload_n F 1 rfl rfl dX11_copyFor_6 ?_
    refine j_iconst F dX11_copyFor_7 ?_
    refine j_isub F dX11_copyFor_8 ?_
    obtain ⟨g17, h⟩ := gua h
    refine j_callV (d' := 6) (argl := [(true, (x1 - 3))]) (rk9 := 2) (st := []) F hno M_X11_serverAt q1084 q13 q1082 ⟨by decide, by decide⟩ (Nat.le_of_ble_eq_true rfl) (by decide) (ci := 12) rfl (by decide) g17 dX11_copyFor_9 rfl h (fun z hz => c_X11_serverAt l F.ht G x0 (x1 - 3) M z hz) (fun v14 M15 h kl16 => ?_)
    refine j_st (st' := [(false, v14)]) rfl ?_
    refine j_iload_n F 2 rfl rfl dX11_copyFor_12 ?_
    obtain ⟨g21, h⟩ := gua h
    refine j_callV (d' := 0) (argl := [(true, x2)]) (rk9 := 2) (st := []) F hno M_X9_copyOf q1111 q1112 q1212 ⟨by decide, by decide⟩ (Nat.le_of_ble_eq_true rfl) (by decide) (ci := 10) rfl (by decide) g21 dX11_copyFor_13 rfl h (fun z hz => c_X9_copyOf l F.ht G v14 x2 M15 z hz) (fun v18 M19 h kl20 => ?_)
    refine j_st (st' := [(false, v18)]) rfl ?_
    exact j_aret F (Or.inl ⟨_, rfl⟩) h dX11_copyFor_16
theorem c_X11_copyFor (l : Launch) (hl : l.stackTraces = false) (G : Gt) (x0 x1 x2 : Int) (M : Mo) (z : RS) (h : X11_copyFor x0 x1 x2 M = some z) : CT l G yX11_copyFor (cn yX11_copyFor cX11_copyFor 3 (some (FieldType.object "ToolPlex$Copy"))) 7 [(false, x0), (true, x1), (true, x2)] M 2 z :=
  ctOf hl (by decide) (Nat.le_of_ble_eq_true rfl) (fun p e R s m args below meth c ρ F hno hnm => w_X11_copyFor_0 F hno hnm x0 x1 x2 M h)
theorem dX11_version_0 : decode cX11_version 0 = .ok (.aload_n 0, 1) := by decide +kernel
theorem dX11_version_1 : decode cX11_version 1 = .ok (.iload_n 2, 1) := by decide +kernel
theorem dX11_version_2 : decode cX11_version 2 = .ok (.invokevirtual 83, 3) := by decide +kernel
theorem dX11_version_5 : decode cX11_version 5 = .ok (.aload_n 0, 1) := by decide +kernel
theorem dX11_version_6 : decode cX11_version 6 = .ok (.iload_n 1, 1) := by decide +kernel
theorem dX11_version_7 : decode cX11_version 7 = .ok (.iload_n 2, 1) := by decide +kernel
set_option maxRecDepth 100000 in
theorem q1533 : Cond.code yX11_copyFor cX11_copyFor 3 (some (FieldType.object "ToolPlex$Copy")) ∈ GT := gt 1533 (rfl) (by decide +kernel)
theorem M_X11_copyFor : MY yX11_copyFor cX11_copyFor 3 (some (FieldType.object "ToolPlex$Copy")) 2 := ⟨q1533, q53, by decide +kernel, by decide +kernel⟩
set_option maxRecDepth 100000 in
theorem q1532 : Cond.instanceMethod yX11_copyFor ∈ GT := gt 1532 (by decide +kernel) (by decide +kernel)
set_option maxRecDepth 100000 in
theorem q49 : Cond.selects RX11 yX11_copyFor yX11_copyFor ∈ GT := gt 49 (by decide +kernel) (by decide +kernel)
set_option maxRecDepth 100000 in
theorem q1530 : Cond.methodLink RX11 311 yX11_copyFor ∈ GT := gt 1530 (by decide +kernel) (by decide +kernel)
theorem dX11_version_8 : decode cX11_version 8 = .ok (.invokevirtual 311, 3) := by decide +kernel
theorem dX11_version_11 : decode cX11_version 11 = .ok (.getfield 315, 3) := by decide +kernel
theorem dX11_version_14 : decode cX11_version 14 = .ok (.ireturn, 1) := by decide +kernel
set_option maxHeartbeats 4000000 in
set_option maxRecDepth 100000 in
theorem w_X11_version_0 {p : Program} {l : Launch} {e : Env} {R : Room} {s : State} {m : MethodId} {args : Array Value} {below : List Frame} {meth : Method} {c : Code} {G : Gt} {ρ0 : Int → Nat} {M0 : Mo} {res : RS} (F : Fx p l R s m args meth c cX11_version 3 RX11 G M0 8 (some FieldType.int)) (hno : ∀ x ∈ c.exceptionTable.toList, False) (hnm : meth.name = yX11_version.name) (x0 x1 x2 : Int) (M : Mo) (h : X11_version x0 x1 x2 M = some res) : J p l e R s m args below meth c 3 G ρ0 M0 1 res M 0 [(0, (false, x0)), (1, (true, x1)), (2, (true, x2))] [] := by
  unfold X11_version at h
  refine j_aload_n F 0 rfl rfl dX11_version_0 ?_
  refine j_iload_n F 2 rfl rfl dX11_version_1 ?_
  obtain ⟨g4, h⟩ := gua h
  refine j_callV (d' := 6) (argl := [(true, x2)]) (rk9 := 0) (st := []) F hno M_X11_checkFile q583 q4 q581 ⟨by decide, by decide⟩ (Nat.le_of_ble_eq_true rfl) (by decide) (ci := 12) rfl (by decide) g4 dX11_version_2 rfl h (fun z hz => c_X11_checkFile l F.ht G x0 x2 M z hz) (fun v1 M2 h kl3 => ?_)
  refine j_st (st' := []) rfl ?_
  refine j_aload_n F 0 rfl rfl dX11_version_5 ?_
  refine j_iload_n F 1 rfl rfl dX11_version_6 ?_
  refine j_iload_n F 2 rfl rfl dX11_version_7 ?_
  refine j_callV (d' := 7) (argl := [(true, x1), (true, x2)]) (rk9 := 2) (st := []) F hno M_X11_copyFor q1532 q49 q1530 ⟨by decide, by decide⟩ (Nat.le_of_ble_eq_true rfl) (by decide) (ci := 12) rfl (by decide) (kl3.is g4) dX11_version_8 rfl h (fun z hz => c_X11_copyFor l F.ht G x0 x1 x2 M2 z hz) (fun v5 M6 h kl7 => ?_)
  refine j_st (st' := [(false, v5)]) rfl ?_
  obtain ⟨g8, h⟩ := gua h
  refine j_get F ft_X11_315 rfl g8 dX11_version_11 ?_
  exact j_iret F h dX11_version_14
theorem c_X11_version (l : Launch) (hl : l.stackTraces = false) (G : Gt) (x0 x1 x2 : Int) (M : Mo) (z : RS) (h : X11_version x0 x1 x2 M = some z) : CT l G yX11_version (cn yX11_version cX11_version 3 (some FieldType.int)) 8 [(false, x0), (true, x1), (true, x2)] M 1 z :=
  ctOf hl (by decide) (Nat.le_of_ble_eq_true rfl) (fun p e R s m args below meth c ρ F hno hnm => w_X11_version_0 F hno hnm x0 x1 x2 M h)
theorem dX11_unit_0 : decode cX11_unit 0 = .ok (.aload_n 0, 1) := by decide +kernel
theorem dX11_unit_1 : decode cX11_unit 1 = .ok (.iload_n 2, 1) := by decide +kernel
theorem dX11_unit_2 : decode cX11_unit 2 = .ok (.invokevirtual 83, 3) := by decide +kernel
theorem dX11_unit_5 : decode cX11_unit 5 = .ok (.aload_n 0, 1) := by decide +kernel
theorem dX11_unit_6 : decode cX11_unit 6 = .ok (.iload_n 1, 1) := by decide +kernel
theorem dX11_unit_7 : decode cX11_unit 7 = .ok (.iload_n 2, 1) := by decide +kernel
theorem dX11_unit_8 : decode cX11_unit 8 = .ok (.invokevirtual 311, 3) := by decide +kernel
theorem dX11_unit_11 : decode cX11_unit 11 = .ok (.astore 4, 2) := by decide +kernel
theorem dX11_unit_13 : decode cX11_unit 13 = .ok (.aload 4, 2) := by decide +kernel
theorem dX11_unit_15 : decode cX11_unit 15 = .ok (.getfield 158, 3) := by decide +kernel
theorem dX11_unit_18 : decode cX11_unit 18 = .ok (.iload_n 3, 1) := by decide +kernel
set_option maxRecDepth 100000 in
theorem q1539 : Cond.methodLink RX11 318 yX10_at ∈ GT := gt 1539 (by decide +kernel) (by decide +kernel)
theorem dX11_unit_19 : decode cX11_unit 19 = .ok (.invokevirtual 318, 3) := by decide +kernel
theorem dX11_unit_22 : decode cX11_unit 22 = .ok (.istore 5, 2) := by decide +kernel
theorem dX11_unit_24 : decode cX11_unit 24 = .ok (.aload 4, 2) := by decide +kernel
theorem dX11_unit_26 : decode cX11_unit 26 = .ok (.invokevirtual 269, 3) := by decide +kernel
theorem dX11_unit_29 : decode cX11_unit 29 = .ok (.ifCond .eq 9, 3) := by decide +kernel
theorem dX11_unit_38 : decode cX11_unit 38 = .ok (.new 254, 3) := by decide +kernel
theorem dX11_unit_41 : decode cX11_unit 41 = .ok (.dup, 1) := by decide +kernel
theorem dX11_unit_42 : decode cX11_unit 42 = .ok (.ldc_w 321, 3) := by decide +kernel
theorem dX11_unit_45 : decode cX11_unit 45 = .ok (.invokespecial 258, 3) := by decide +kernel
theorem dX11_unit_48 : decode cX11_unit 48 = .ok (.athrow, 1) := by decide +kernel
theorem dX11_unit_32 : decode cX11_unit 32 = .ok (.iload 5, 2) := by decide +kernel
theorem dX11_unit_34 : decode cX11_unit 34 = .ok (.iconst (-1), 1) := by decide +kernel
theorem dX11_unit_35 : decode cX11_unit 35 = .ok (.if_icmp .ne 14, 3) := by decide +kernel
theorem dX11_unit_49 : decode cX11_unit 49 = .ok (.iload 5, 2) := by decide +kernel
theorem dX11_unit_51 : decode cX11_unit 51 = .ok (.i2c, 1) := by decide +kernel
theorem dX11_unit_52 : decode cX11_unit 52 = .ok (.ireturn, 1) := by decide +kernel
set_option maxHeartbeats 4000000 in
set_option maxRecDepth 100000 in
theorem w_X11_unit_0 {p : Program} {l : Launch} {e : Env} {R : Room} {s : State} {m : MethodId} {args : Array Value} {below : List Frame} {meth : Method} {c : Code} {G : Gt} {ρ0 : Int → Nat} {M0 : Mo} {res : RS} (F : Fx p l R s m args meth c cX11_unit 6 RX11 G M0 8 (some FieldType.char)) (hno : ∀ x ∈ c.exceptionTable.toList, False) (hnm : meth.name = yX11_unit.name) (x0 x1 x2 x3 : Int) (M : Mo) (h : X11_unit x0 x1 x2 x3 M = some res) : J p l e R s m args below meth c 6 G ρ0 M0 1 res M 0 [(0, (false, x0)), (1, (true, x1)), (2, (true, x2)), (3, (true, x3))] [] := by
  unfold X11_unit at h
  refine j_aload_n F 0 rfl rfl dX11_unit_0 ?_
  refine j_iload_n F 2 rfl rfl dX11_unit_1 ?_
  obtain ⟨g4, h⟩ := gua h
  refine j_callV (d' := 6) (argl := [(true, x2)]) (rk9 := 0) (st := []) F hno M_X11_checkFile q583 q4 q581 ⟨by decide, by decide⟩ (Nat.le_of_ble_eq_true rfl) (by decide) (ci := 12) rfl (by decide) g4 dX11_unit_2 rfl h (fun z hz => c_X11_checkFile l F.ht G x0 x2 M z hz) (fun v1 M2 h kl3 => ?_)
  refine j_st (st' := []) rfl ?_
  refine j_aload_n F 0 rfl rfl dX11_unit_5 ?_
  refine j_iload_n F 1 rfl rfl dX11_unit_6 ?_
  refine j_iload_n F 2 rfl rfl dX11_unit_7 ?_
  refine j_callV (d' := 7) (argl := [(true, x1), (true, x2)]) (rk9 := 2) (st := []) F hno M_X11_copyFor q1532 q49 q1530 ⟨by decide, by decide⟩ (Nat.le_of_ble_eq_true rfl) (by decide) (ci := 12) rfl (by decide) (kl3.is g4) dX11_unit_8 rfl h (fun z hz => c_X11_copyFor l F.ht G x0 x1 x2 M2 z hz) (fun v5 M6 h kl7 => ?_)
  refine j_st (st' := [(false, v5)]) rfl ?_
  refine j_astore F (lv' := [(4, (false, v5)), (0, (false, x0)), (1, (true, x1)), (2, (true, x2)), (3, (true, x3))]) (by decide) rfl dX11_unit_11 ?_
  refine j_aload F 0 rfl dX11_unit_13 ?_
  obtain ⟨g8, h⟩ := gua h
  refine j_get F ft_X11_158 rfl g8 dX11_unit_15 ?_
  refine j_iload_n F 4 rfl rfl dX11_unit_18 ?_
  obtain ⟨g12, h⟩ := gua h
  refine j_callV (d' := 0) (argl := [(true, x3)]) (rk9 := 1) (st := []) F hno M_X10_at q896 q897 q1539 ⟨by decide, by decide⟩ (Nat.le_of_ble_eq_true rfl) (by decide) (ci := 11) rfl (by decide) g12 dX11_unit_19 rfl h (fun z hz => c_X10_at l F.ht G (fd M6 3 0 v5) x3 M6 z hz) (fun v9 M10 h kl11 => ?_)
  refine j_st (st' := [(true, v9)]) rfl ?_
  refine j_istore F (lv' := [(5, (true, v9)), (4, (false, v5)), (0, (false, x0)), (1, (true, x1)), (2, (true, x2)), (3, (true, x3))]) (by decide) rfl dX11_unit_22 ?_
  refine j_aload F 1 rfl dX11_unit_24 ?_
  refine j_callV (d' := 0) (argl := []) (rk9 := 1) (st := []) F hno M_X2_isHere q468 q469 q836 ⟨by decide, by decide⟩ (Nat.le_of_ble_eq_true rfl) (by decide) (ci := 3) rfl (by decide) (kl11.is g8) dX11_unit_26 rfl h (fun z hz => c_X2_isHere l F.ht G v5 M10 z hz) (fun v13 M14 h kl15 => ?_)
  refine j_st (st' := [(true, v13)]) rfl ?_
  refine j_if_eq F 38 (by decide) dX11_unit_29 h (fun h => ?_) (fun h => ?_)
  · skip
    obtain ⟨g16, h⟩ := gua h
    exact j_throwW F hno (ex := 1) (text := "no such copy or unit") rfl (by decide +kernel) q586 q70 (by decide +kernel) at_X11_258 (by decide +kernel) (by decide) (Nat.le_of_ble_eq_true rfl) rfl (by decide) g16 h dX11_unit_38 dX11_unit_41 dX11_unit_42 dX11_unit_45 dX11_unit_48
  · skip
    refine j_iload F 0 rfl dX11_unit_32 ?_
    refine j_iconst F dX11_unit_34 ?_
    refine j_icmp_ne F 49 (by decide) dX11_unit_35 h (fun h => ?_) (fun h => ?_)
    · skip
      refine j_iload F 0 rfl dX11_unit_49 ?_
      refine j_i2c F dX11_unit_51 ?_
      obtain ⟨g17, h⟩ := gua h
      exact j_zret F (nz_c g17) h dX11_unit_52
    · skip
      obtain ⟨g18, h⟩ := gua h
      exact j_throwW F hno (ex := 1) (text := "no such copy or unit") rfl (by decide +kernel) q586 q70 (by decide +kernel) at_X11_258 (by decide +kernel) (by decide) (Nat.le_of_ble_eq_true rfl) rfl (by decide) g18 h dX11_unit_38 dX11_unit_41 dX11_unit_42 dX11_unit_45 dX11_unit_48
theorem c_X11_unit (l : Launch) (hl : l.stackTraces = false) (G : Gt) (x0 x1 x2 x3 : Int) (M : Mo) (z : RS) (h : X11_unit x0 x1 x2 x3 M = some z) : CT l G yX11_unit (cn yX11_unit cX11_unit 6 (some FieldType.char)) 8 [(false, x0), (true, x1), (true, x2), (true, x3)] M 1 z :=
  ctOf hl (by decide) (Nat.le_of_ble_eq_true rfl) (fun p e R s m args below meth c ρ F hno hnm => w_X11_unit_0 F hno hnm x0 x1 x2 x3 M h)
theorem dX11_agree_0 : decode cX11_agree 0 = .ok (.aload_n 0, 1) := by decide +kernel
theorem dX11_agree_1 : decode cX11_agree 1 = .ok (.iload_n 1, 1) := by decide +kernel
theorem dX11_agree_2 : decode cX11_agree 2 = .ok (.invokevirtual 83, 3) := by decide +kernel
theorem dX11_agree_5 : decode cX11_agree 5 = .ok (.aload_n 0, 1) := by decide +kernel
theorem dX11_agree_6 : decode cX11_agree 6 = .ok (.getfield 39, 3) := by decide +kernel
theorem dX11_agree_9 : decode cX11_agree 9 = .ok (.iload_n 1, 1) := by decide +kernel
theorem dX11_agree_10 : decode cX11_agree 10 = .ok (.invokevirtual 94, 3) := by decide +kernel
theorem dX11_agree_13 : decode cX11_agree 13 = .ok (.istore_n 2, 1) := by decide +kernel
theorem dX11_agree_14 : decode cX11_agree 14 = .ok (.iload_n 2, 1) := by decide +kernel
theorem dX11_agree_15 : decode cX11_agree 15 = .ok (.ifCond .lt 12, 3) := by decide +kernel
theorem dX11_agree_27 : decode cX11_agree 27 = .ok (.iconst 1, 1) := by decide +kernel
theorem dX11_agree_28 : decode cX11_agree 28 = .ok (.ireturn, 1) := by decide +kernel
theorem dX11_agree_18 : decode cX11_agree 18 = .ok (.iload_n 2, 1) := by decide +kernel
theorem dX11_agree_19 : decode cX11_agree 19 = .ok (.aload_n 0, 1) := by decide +kernel
theorem dX11_agree_20 : decode cX11_agree 20 = .ok (.getfield 51, 3) := by decide +kernel
theorem dX11_agree_23 : decode cX11_agree 23 = .ok (.arraylength, 1) := by decide +kernel
theorem dX11_agree_24 : decode cX11_agree 24 = .ok (.if_icmp .lt 5, 3) := by decide +kernel
theorem dX11_agree_29 : decode cX11_agree 29 = .ok (.aload_n 0, 1) := by decide +kernel
theorem dX11_agree_30 : decode cX11_agree 30 = .ok (.getfield 51, 3) := by decide +kernel
theorem dX11_agree_33 : decode cX11_agree 33 = .ok (.iload_n 2, 1) := by decide +kernel
theorem dX11_agree_34 : decode cX11_agree 34 = .ok (.aaload, 1) := by decide +kernel
theorem dX11_agree_35 : decode cX11_agree 35 = .ok (.iload_n 1, 1) := by decide +kernel
theorem dX11_agree_36 : decode cX11_agree 36 = .ok (.invokevirtual 154, 3) := by decide +kernel
theorem dX11_agree_39 : decode cX11_agree 39 = .ok (.astore_n 3, 1) := by decide +kernel
theorem dX11_agree_40 : decode cX11_agree 40 = .ok (.aload_n 3, 1) := by decide +kernel
theorem dX11_agree_41 : decode cX11_agree 41 = .ok (.aload_n 0, 1) := by decide +kernel
theorem dX11_agree_42 : decode cX11_agree 42 = .ok (.getfield 35, 3) := by decide +kernel
theorem dX11_agree_45 : decode cX11_agree 45 = .ok (.iload_n 1, 1) := by decide +kernel
theorem dX11_agree_46 : decode cX11_agree 46 = .ok (.invokevirtual 323, 3) := by decide +kernel
theorem dX11_agree_49 : decode cX11_agree 49 = .ok (.aload_n 0, 1) := by decide +kernel
theorem dX11_agree_50 : decode cX11_agree 50 = .ok (.getfield 10, 3) := by decide +kernel
set_option maxRecDepth 100000 in
theorem q1598 : Cond.code yX2_agreesWith cX2_agreesWith 5 (some FieldType.boolean) ∈ GT := gt 1598 (rfl) (by decide +kernel)
theorem M_X2_agreesWith : MY yX2_agreesWith cX2_agreesWith 5 (some FieldType.boolean) 2 := ⟨q1598, q61, by decide +kernel, by decide +kernel⟩
set_option maxRecDepth 100000 in
theorem q1596 : Cond.instanceMethod yX2_agreesWith ∈ GT := gt 1596 (by decide +kernel) (by decide +kernel)
set_option maxRecDepth 100000 in
theorem q1597 : Cond.selects RX2 yX2_agreesWith yX2_agreesWith ∈ GT := gt 1597 (by decide +kernel) (by decide +kernel)
set_option maxRecDepth 100000 in
theorem q1595 : Cond.methodLink RX11 324 yX2_agreesWith ∈ GT := gt 1595 (by decide +kernel) (by decide +kernel)
theorem dX11_agree_53 : decode cX11_agree 53 = .ok (.invokevirtual 324, 3) := by decide +kernel
theorem dX11_agree_56 : decode cX11_agree 56 = .ok (.istore 4, 2) := by decide +kernel
theorem dX11_agree_58 : decode cX11_agree 58 = .ok (.iconst 0, 1) := by decide +kernel
theorem dX11_agree_59 : decode cX11_agree 59 = .ok (.istore 5, 2) := by decide +kernel
theorem dX11_agree_61 : decode cX11_agree 61 = .ok (.iload 5, 2) := by decide +kernel
theorem dX11_agree_63 : decode cX11_agree 63 = .ok (.aload_n 0, 1) := by decide +kernel
theorem dX11_agree_64 : decode cX11_agree 64 = .ok (.getfield 43, 3) := by decide +kernel
theorem dX11_agree_67 : decode cX11_agree 67 = .ok (.invokevirtual 113, 3) := by decide +kernel
theorem dX11_agree_70 : decode cX11_agree 70 = .ok (.if_icmp .ge 48, 3) := by decide +kernel
theorem dX11_agree_118 : decode cX11_agree 118 = .ok (.iload 4, 2) := by decide +kernel
theorem dX11_agree_120 : decode cX11_agree 120 = .ok (.ireturn, 1) := by decide +kernel
theorem dX11_agree_73 : decode cX11_agree 73 = .ok (.iload 4, 2) := by decide +kernel
theorem dX11_agree_75 : decode cX11_agree 75 = .ok (.ifCond .eq 34, 3) := by decide +kernel
theorem dX11_agree_78 : decode cX11_agree 78 = .ok (.aload_n 3, 1) := by decide +kernel
theorem dX11_agree_79 : decode cX11_agree 79 = .ok (.aload_n 0, 1) := by decide +kernel
theorem dX11_agree_80 : decode cX11_agree 80 = .ok (.getfield 43, 3) := by decide +kernel
theorem dX11_agree_83 : decode cX11_agree 83 = .ok (.iload 5, 2) := by decide +kernel
theorem dX11_agree_85 : decode cX11_agree 85 = .ok (.invokevirtual 328, 3) := by decide +kernel
theorem dX11_agree_88 : decode cX11_agree 88 = .ok (.checkcast 122, 3) := by decide +kernel
theorem dX11_agree_91 : decode cX11_agree 91 = .ok (.iload_n 1, 1) := by decide +kernel
theorem dX11_agree_92 : decode cX11_agree 92 = .ok (.invokevirtual 268, 3) := by decide +kernel
theorem dX11_agree_95 : decode cX11_agree 95 = .ok (.aload_n 0, 1) := by decide +kernel
theorem dX11_agree_96 : decode cX11_agree 96 = .ok (.getfield 10, 3) := by decide +kernel
theorem dX11_agree_99 : decode cX11_agree 99 = .ok (.invokevirtual 324, 3) := by decide +kernel
theorem dX11_agree_102 : decode cX11_agree 102 = .ok (.ifCond .eq 7, 3) := by decide +kernel
theorem dX11_agree_105 : decode cX11_agree 105 = .ok (.iconst 1, 1) := by decide +kernel
theorem dX11_agree_106 : decode cX11_agree 106 = .ok (.goto 4, 3) := by decide +kernel
theorem dX11_agree_109 : decode cX11_agree 109 = .ok (.iconst 0, 1) := by decide +kernel
theorem dX11_agree_110 : decode cX11_agree 110 = .ok (.istore 4, 2) := by decide +kernel
theorem dX11_agree_112 : decode cX11_agree 112 = .ok (.iinc 5 1, 3) := by decide +kernel
theorem dX11_agree_115 : decode cX11_agree 115 = .ok (.goto (-54), 3) := by decide +kernel
set_option maxHeartbeats 4000000 in
set_option maxRecDepth 100000 in
theorem w_X11_agree_110 {p : Program} {l : Launch} {e : Env} {R : Room} {s : State} {m : MethodId} {args : Array Value} {below : List Frame} {meth : Method} {c : Code} {G : Gt} {ρ0 : Int → Nat} {M0 : Mo} {res : RS} (F : Fx p l R s m args meth c cX11_agree 6 RX11 G M0 7 (some FieldType.boolean)) (hno : ∀ x ∈ c.exceptionTable.toList, False) (hnm : meth.name = yX11_agree.name) (k61 : Int → Int → Int → Int → Int → Mo → Option RS) (hk61 : ∀ (x0 x1 x3 x4 x5 : Int) (M : Mo), k61 x0 x1 x3 x4 x5 M = some res → J p l e R s m args below meth c 6 G ρ0 M0 1 res M 61 [(0, (false, x0)), (1, (true, x1)), (3, (false, x3)), (4, (true, x4)), (5, (true, x5))] []) (x0 x1 x3 x5 y0 : Int) (M : Mo) (h : X11_agree_110 k61 x0 x1 x3 x5 y0 M = some res) : J p l e R s m args below meth c 6 G ρ0 M0 1 res M 110 [(0, (false, x0)), (1, (true, x1)), (3, (false, x3)), (5, (true, x5))] [(true, y0)] := by
  unfold X11_agree_110 at h
  refine j_istore F (lv' := [(4, (true, y0)), (0, (false, x0)), (1, (true, x1)), (3, (false, x3)), (5, (true, x5))]) (by decide) rfl dX11_agree_110 ?_
  refine j_iinc F 4 (lv' := [(5, (true, (x5 + 1))), (4, (true, y0)), (0, (false, x0)), (1, (true, x1)), (3, (false, x3))]) rfl (by decide) rfl dX11_agree_112 ?_
  refine j_goto F 61 (by decide) dX11_agree_115 ?_
  refine j_sub (lv' := [(0, (false, x0)), (1, (true, x1)), (3, (false, x3)), (4, (true, y0)), (5, (true, (x5 + 1)))]) [2, 3, 4, 1, 0] rfl ?_
  exact hk61 x0 x1 x3 y0 (x5 + 1) M h
set_option maxHeartbeats 4000000 in
set_option maxRecDepth 100000 in
theorem w_X11_agree_109 {p : Program} {l : Launch} {e : Env} {R : Room} {s : State} {m : MethodId} {args : Array Value} {below : List Frame} {meth : Method} {c : Code} {G : Gt} {ρ0 : Int → Nat} {M0 : Mo} {res : RS} (F : Fx p l R s m args meth c cX11_agree 6 RX11 G M0 7 (some FieldType.boolean)) (hno : ∀ x ∈ c.exceptionTable.toList, False) (hnm : meth.name = yX11_agree.name) (k61 : Int → Int → Int → Int → Int → Mo → Option RS) (hk61 : ∀ (x0 x1 x3 x4 x5 : Int) (M : Mo), k61 x0 x1 x3 x4 x5 M = some res → J p l e R s m args below meth c 6 G ρ0 M0 1 res M 61 [(0, (false, x0)), (1, (true, x1)), (3, (false, x3)), (4, (true, x4)), (5, (true, x5))] []) (x0 x1 x3 x5 : Int) (M : Mo) (h : X11_agree_109 k61 x0 x1 x3 x5 M = some res) : J p l e R s m args below meth c 6 G ρ0 M0 1 res M 109 [(0, (false, x0)), (1, (true, x1)), (3, (false, x3)), (5, (true, x5))] [] := by
  unfold X11_agree_109 at h
  refine j_iconst F dX11_agree_109 ?_
  refine j_sub (lv' := [(0, (false, x0)), (1, (true, x1)), (3, (false, x3)), (5, (true, x5))]) [0, 1, 2, 3] rfl ?_
  exact w_X11_agree_110 F hno hnm k61 hk61 x0 x1 x3 x5 0 M h
set_option maxHeartbeats 4000000 in
set_option maxRecDepth 100000 in
theorem w_X11_agree_61 {p : Program} {l : Launch} {e : Env} {R : Room} {s : State} {m : MethodId} {args : Array Value} {below : List Frame} {meth : Method} {c : Code} {G : Gt} {ρ0 : Int → Nat} {M0 : Mo} {res : RS} (F : Fx p l R s m args meth c cX11_agree 6 RX11 G M0 7 (some FieldType.boolean)) (hno : ∀ x ∈ c.exceptionTable.toList, False) (hnm : meth.name = yX11_agree.name) (n : Nat) : ∀ (x0 x1 x3 x4 x5 : Int) (M : Mo), X11_agree_61 n x0 x1 x3 x4 x5 M = some res → J p l e R s m args below meth c 6 G ρ0 M0 1 res M 61 [(0, (false, x0)), (1, (true, x1)), (3, (false, x3)), (4, (true, x4)), (5, (true, x5))] [] := by
  induction n with
  | zero => intro x0 x1 x3 x4 x5 M h; cases h
  | succ n ih =>
    intro x0 x1 x3 x4 x5 M h
    rw [X11_agree_61] at h
    refine j_iload F 4 rfl dX11_agree_61 ?_
    refine j_aload_n F 0 rfl rfl dX11_agree_63 ?_
    obtain ⟨g1, h⟩ := gua h
    refine j_get F ft_X11_43 rfl g1 dX11_agree_64 ?_
    obtain ⟨g5, h⟩ := gua h
    refine j_callV (d' := 0) (argl := []) (rk9 := 1) (st := [(true, x5)]) F hno M_Jx4a65c_size_8abf5 q448 q449 q447 ⟨by decide, by decide⟩ (Nat.le_of_ble_eq_true rfl) (by decide) (ci := 0) rfl (by decide) g5 dX11_agree_67 rfl h (fun z hz => c_Jx4a65c_size_8abf5 l F.ht G (fd M 12 3 x0) M z hz) (fun v2 M3 h kl4 => ?_)
    refine j_st (st' := [(true, v2), (true, x5)]) rfl ?_
    refine j_icmp_ge F 118 (by decide) dX11_agree_70 h (fun h => ?_) (fun h => ?_)
    · skip
      refine j_iload F 3 rfl dX11_agree_118 ?_
      obtain ⟨g6, h⟩ := gua h
      exact j_zret F (nz_b g6) h dX11_agree_120
    · skip
      refine j_iload F 3 rfl dX11_agree_73 ?_
      refine j_if_eq F 109 (by decide) dX11_agree_75 h (fun h => ?_) (fun h => ?_)
      · skip
        refine j_sub (lv' := [(0, (false, x0)), (1, (true, x1)), (3, (false, x3)), (5, (true, x5))]) [0, 1, 2, 4] rfl ?_
        exact w_X11_agree_109 F hno hnm (X11_agree_61 n) ih x0 x1 x3 x5 M3 h
      · skip
        refine j_aload_n F 2 rfl rfl dX11_agree_78 ?_
        refine j_aload_n F 0 rfl rfl dX11_agree_79 ?_
        refine j_get F ft_X11_43 rfl (kl4.is g1) dX11_agree_80 ?_
        refine j_iload F 4 rfl dX11_agree_83 ?_
        obtain ⟨g10, h⟩ := gua h
        refine j_callV (d' := 2) (argl := [(true, x5)]) (rk9 := 2) (st := [(false, x3)]) F hno M_Jx4a65c_get_915e3 q856 q857 q1087 ⟨by decide, by decide⟩ (Nat.le_of_ble_eq_true rfl) (by decide) (ci := 0) rfl (by decide) g10 dX11_agree_85 rfl h (fun z hz => c_Jx4a65c_get_915e3 l F.ht G (fd M3 12 3 x0) x5 M3 z hz) (fun v7 M8 h kl9 => ?_)
        refine j_st (st' := [(false, v7), (false, x3)]) rfl ?_
        obtain ⟨g11, h⟩ := gua h
        refine j_cast F q472 rfl (by decide) g11 dX11_agree_88 ?_
        refine j_iload_n F 1 rfl rfl dX11_agree_91 ?_
        obtain ⟨g15, h⟩ := gua h
        refine j_callV (d' := 0) (argl := [(true, x1)]) (rk9 := 2) (st := [(false, x3)]) F hno M_X9_copyOf q1111 q1112 q1212 ⟨by decide, by decide⟩ (Nat.le_of_ble_eq_true rfl) (by decide) (ci := 10) rfl (by decide) g15 dX11_agree_92 rfl h (fun z hz => c_X9_copyOf l F.ht G v7 x1 M8 z hz) (fun v12 M13 h kl14 => ?_)
        refine j_st (st' := [(false, v12), (false, x3)]) rfl ?_
        refine j_aload_n F 0 rfl rfl dX11_agree_95 ?_
        refine j_get F ft_X11_10 rfl (kl14.is (kl9.is (kl4.is g1))) dX11_agree_96 ?_
        obtain ⟨g19, h⟩ := gua h
        refine j_callV (d' := 3) (argl := [(false, v12), (false, (fd M13 12 5 x0))]) (rk9 := 1) (st := []) F hno M_X2_agreesWith q1596 q1597 q1595 ⟨by decide, by decide⟩ (Nat.le_of_ble_eq_true rfl) (by decide) (ci := 3) rfl (by decide) g19 dX11_agree_99 rfl h (fun z hz => c_X2_agreesWith l F.ht G x3 v12 (fd M13 12 5 x0) M13 z hz) (fun v16 M17 h kl18 => ?_)
        refine j_st (st' := [(true, v16)]) rfl ?_
        refine j_if_eq F 109 (by decide) dX11_agree_102 h (fun h => ?_) (fun h => ?_)
        · skip
          refine j_sub (lv' := [(0, (false, x0)), (1, (true, x1)), (3, (false, x3)), (5, (true, x5))]) [0, 1, 2, 4] rfl ?_
          exact w_X11_agree_109 F hno hnm (X11_agree_61 n) ih x0 x1 x3 x5 M17 h
        · skip
          refine j_iconst F dX11_agree_105 ?_
          refine j_goto F 110 (by decide) dX11_agree_106 ?_
          refine j_sub (lv' := [(0, (false, x0)), (1, (true, x1)), (3, (false, x3)), (5, (true, x5))]) [0, 1, 2, 4] rfl ?_
          exact w_X11_agree_110 F hno hnm (X11_agree_61 n) ih x0 x1 x3 x5 1 M17 h
set_option maxHeartbeats 4000000 in
set_option maxRecDepth 100000 in
theorem w_X11_agree_0 {p : Program} {l : Launch} {e : Env} {R : Room} {s : State} {m : MethodId} {args : Array Value} {below : List Frame} {meth : Method} {c : Code} {G : Gt} {ρ0 : Int → Nat} {M0 : Mo} {res : RS} (F : Fx p l R s m args meth c cX11_agree 6 RX11 G M0 7 (some FieldType.boolean)) (hno : ∀ x ∈ c.exceptionTable.toList, False) (hnm : meth.name = yX11_agree.name) (x0 x1 : Int) (M : Mo) (h : X11_agree x0 x1 M = some res) : J p l e R s m args below meth c 6 G ρ0 M0 1 res M 0 [(0, (false, x0)), (1, (true, x1))] [] := by
  unfold X11_agree at h
  refine j_aload_n F 0 rfl rfl dX11_agree_0 ?_
  refine j_iload_n F 1 rfl rfl dX11_agree_1 ?_
  obtain ⟨g4, h⟩ := gua h
  refine j_callV (d' := 6) (argl := [(true, x1)]) (rk9 := 0) (st := []) F hno M_X11_checkFile q583 q4 q581 ⟨by decide, by decide⟩ (Nat.le_of_ble_eq_true rfl) (by decide) (ci := 12) rfl (by decide) g4 dX11_agree_2 rfl h (fun z hz => c_X11_checkFile l F.ht G x0 x1 M z hz) (fun v1 M2 h kl3 => ?_)
  refine j_st (st' := []) rfl ?_
  refine j_aload_n F 0 rfl rfl dX11_agree_5 ?_
  refine j_get F ft_X11_39 rfl (kl3.is g4) dX11_agree_6 ?_
  refine j_iload_n F 1 rfl rfl dX11_agree_9 ?_
  obtain ⟨g8, h⟩ := gua h
  refine j_callV (d' := 1) (argl := [(true, x1)]) (rk9 := 1) (st := []) F hno M_X4_holderOf q456 q457 q641 ⟨by decide, by decide⟩ (Nat.le_of_ble_eq_true rfl) (by decide) (ci := 5) rfl (by decide) g8 dX11_agree_10 rfl h (fun z hz => c_X4_holderOf l F.ht G (fd M2 12 0 x0) x1 M2 z hz) (fun v5 M6 h kl7 => ?_)
  refine j_st (st' := [(true, v5)]) rfl ?_
  refine j_istore_n F (lv' := [(2, (true, v5)), (0, (false, x0)), (1, (true, x1))]) rfl (by decide) rfl dX11_agree_13 ?_
  refine j_iload_n F 0 rfl rfl dX11_agree_14 ?_
  refine j_if_lt F 27 (by decide) dX11_agree_15 h (fun h => ?_) (fun h => ?_)
  · skip
    refine j_iconst F dX11_agree_27 ?_
    exact j_zret F (by decide) h dX11_agree_28
  · skip
    refine j_iload_n F 0 rfl rfl dX11_agree_18 ?_
    refine j_aload_n F 1 rfl rfl dX11_agree_19 ?_
    refine j_get F ft_X11_51 rfl (kl7.is (kl3.is g4)) dX11_agree_20 ?_
    obtain ⟨g9, h⟩ := gua h
    refine j_alen F g9 dX11_agree_23 ?_
    refine j_icmp_lt F 29 (by decide) dX11_agree_24 h (fun h => ?_) (fun h => ?_)
    · skip
      refine j_aload_n F 1 rfl rfl dX11_agree_29 ?_
      refine j_get F ft_X11_51 rfl (kl7.is (kl3.is g4)) dX11_agree_30 ?_
      refine j_iload_n F 0 rfl rfl dX11_agree_33 ?_
      obtain ⟨g10, h⟩ := gua h
      obtain ⟨g11, h⟩ := gua h
      refine j_aaload F 15 8 g10 (by decide) rfl g11 dX11_agree_34 ?_
      refine j_iload_n F 2 rfl rfl dX11_agree_35 ?_
      obtain ⟨g15, h⟩ := gua h
      refine j_callV (d' := 0) (argl := [(true, x1)]) (rk9 := 2) (st := []) F hno M_X3_copyOf q689 q690 q835 ⟨by decide, by decide⟩ (Nat.le_of_ble_eq_true rfl) (by decide) (ci := 4) rfl (by decide) g15 dX11_agree_36 rfl h (fun z hz => c_X3_copyOf l F.ht G (el M6 15 (fd M6 12 2 x0) (wr v5)) x1 M6 z hz) (fun v12 M13 h kl14 => ?_)
      refine j_st (st' := [(false, v12)]) rfl ?_
      refine j_astore_n F (lv' := [(3, (false, v12)), (2, (true, v5)), (0, (false, x0)), (1, (true, x1))]) rfl (by decide) rfl dX11_agree_39 ?_
      refine j_aload_n F 0 rfl rfl dX11_agree_40 ?_
      refine j_aload_n F 2 rfl rfl dX11_agree_41 ?_
      refine j_get F ft_X11_35 rfl (kl14.is (kl7.is (kl3.is g4))) dX11_agree_42 ?_
      refine j_iload_n F 3 rfl rfl dX11_agree_45 ?_
      obtain ⟨g19, h⟩ := gua h
      refine j_callV (d' := 0) (argl := [(true, x1)]) (rk9 := 2) (st := [(false, v12)]) F hno M_X7_copyOf q1267 q1268 q1534 ⟨by decide, by decide⟩ (Nat.le_of_ble_eq_true rfl) (by decide) (ci := 8) rfl (by decide) g19 dX11_agree_46 rfl h (fun z hz => c_X7_copyOf l F.ht G (fd M13 12 4 x0) x1 M13 z hz) (fun v16 M17 h kl18 => ?_)
      refine j_st (st' := [(false, v16), (false, v12)]) rfl ?_
      refine j_aload_n F 2 rfl rfl dX11_agree_49 ?_
      refine j_get F ft_X11_10 rfl (kl18.is (kl14.is (kl7.is (kl3.is g4)))) dX11_agree_50 ?_
      obtain ⟨g23, h⟩ := gua h
      refine j_callV (d' := 3) (argl := [(false, v16), (false, (fd M17 12 5 x0))]) (rk9 := 1) (st := []) F hno M_X2_agreesWith q1596 q1597 q1595 ⟨by decide, by decide⟩ (Nat.le_of_ble_eq_true rfl) (by decide) (ci := 3) rfl (by decide) g23 dX11_agree_53 rfl h (fun z hz => c_X2_agreesWith l F.ht G v12 v16 (fd M17 12 5 x0) M17 z hz) (fun v20 M21 h kl22 => ?_)
      refine j_st (st' := [(true, v20)]) rfl ?_
      refine j_istore F (lv' := [(4, (true, v20)), (3, (false, v12)), (2, (true, v5)), (0, (false, x0)), (1, (true, x1))]) (by decide) rfl dX11_agree_56 ?_
      refine j_iconst F dX11_agree_58 ?_
      refine j_istore F (lv' := [(5, (true, 0)), (4, (true, v20)), (3, (false, v12)), (2, (true, v5)), (0, (false, x0)), (1, (true, x1))]) (by decide) rfl dX11_agree_59 ?_
      refine j_sub (lv' := [(0, (false, x0)), (1, (true, x1)), (3, (false, v12)), (4, (true, v20)), (5, (true, 0))]) [4, 5, 2, 1, 0] rfl ?_
      exact w_X11_agree_61 F hno hnm FU x0 x1 v12 v20 0 M21 h
    · skip
      refine j_iconst F dX11_agree_27 ?_
      exact j_zret F (by decide) h dX11_agree_28
theorem c_X11_agree (l : Launch) (hl : l.stackTraces = false) (G : Gt) (x0 x1 : Int) (M : Mo) (z : RS) (h : X11_agree x0 x1 M = some z) : CT l G yX11_agree (cn yX11_agree cX11_agree 6 (some FieldType.boolean)) 7 [(false, x0), (true, x1)] M 1 z :=
  ctOf hl (by decide) (Nat.le_of_ble_eq_true rfl) (fun p e R s m args below meth c ρ F hno hnm => w_X11_agree_0 F hno hnm x0 x1 M h)
theorem dX11_standing_0 : decode cX11_standing 0 = .ok (.aload_n 0, 1) := by decide +kernel
theorem dX11_standing_1 : decode cX11_standing 1 = .ok (.aload_n 0, 1) := by decide +kernel
theorem dX11_standing_2 : decode cX11_standing 2 = .ok (.iload_n 1, 1) := by decide +kernel
theorem dX11_standing_3 : decode cX11_standing 3 = .ok (.invokevirtual 134, 3) := by decide +kernel
theorem dX11_standing_6 : decode cX11_standing 6 = .ok (.iload_n 2, 1) := by decide +kernel
theorem dX11_standing_7 : decode cX11_standing 7 = .ok (.invokevirtual 207, 3) := by decide +kernel
theorem dX11_standing_10 : decode cX11_standing 10 = .ok (.astore_n 3, 1) := by decide +kernel
theorem dX11_standing_11 : decode cX11_standing 11 = .ok (.aload_n 3, 1) := by decide +kernel
theorem dX11_standing_12 : decode cX11_standing 12 = .ok (.getfield 211, 3) := by decide +kernel
theorem dX11_standing_15 : decode cX11_standing 15 = .ok (.iconst 1, 1) := by decide +kernel
theorem dX11_standing_16 : decode cX11_standing 16 = .ok (.if_icmp .ne 18, 3) := by decide +kernel
theorem dX11_standing_34 : decode cX11_standing 34 = .ok (.aload_n 3, 1) := by decide +kernel
theorem dX11_standing_35 : decode cX11_standing 35 = .ok (.getfield 211, 3) := by decide +kernel
theorem dX11_standing_38 : decode cX11_standing 38 = .ok (.ireturn, 1) := by decide +kernel
theorem dX11_standing_19 : decode cX11_standing 19 = .ok (.bipush 10, 2) := by decide +kernel
theorem dX11_standing_21 : decode cX11_standing 21 = .ok (.aload_n 3, 1) := by decide +kernel
theorem dX11_standing_22 : decode cX11_standing 22 = .ok (.getfield 225, 3) := by decide +kernel
theorem dX11_standing_25 : decode cX11_standing 25 = .ok (.invokevirtual 229, 3) := by decide +kernel
theorem dX11_standing_28 : decode cX11_standing 28 = .ok (.imul, 1) := by decide +kernel
theorem dX11_standing_29 : decode cX11_standing 29 = .ok (.iconst 1, 1) := by decide +kernel
theorem dX11_standing_30 : decode cX11_standing 30 = .ok (.iadd, 1) := by decide +kernel
theorem dX11_standing_31 : decode cX11_standing 31 = .ok (.goto 7, 3) := by decide +kernel
set_option maxHeartbeats 4000000 in
set_option maxRecDepth 100000 in
theorem w_X11_standing_0 {p : Program} {l : Launch} {e : Env} {R : Room} {s : State} {m : MethodId} {args : Array Value} {below : List Frame} {meth : Method} {c : Code} {G : Gt} {ρ0 : Int → Nat} {M0 : Mo} {res : RS} (F : Fx p l R s m args meth c cX11_standing 4 RX11 G M0 7 (some FieldType.int)) (hno : ∀ x ∈ c.exceptionTable.toList, False) (hnm : meth.name = yX11_standing.name) (x0 x1 x2 : Int) (M : Mo) (h : X11_standing x0 x1 x2 M = some res) : J p l e R s m args below meth c 4 G ρ0 M0 1 res M 0 [(0, (false, x0)), (1, (true, x1)), (2, (true, x2))] [] := by
  unfold X11_standing at h
  refine j_aload_n F 0 rfl rfl dX11_standing_0 ?_
  refine j_aload_n F 0 rfl rfl dX11_standing_1 ?_
  refine j_iload_n F 1 rfl rfl dX11_standing_2 ?_
  obtain ⟨g4, h⟩ := gua h
  refine j_callV (d' := 6) (argl := [(true, x1)]) (rk9 := 2) (st := [(false, x0)]) F hno M_X11_editorAt q668 q6 q666 ⟨by decide, by decide⟩ (Nat.le_of_ble_eq_true rfl) (by decide) (ci := 12) rfl (by decide) g4 dX11_standing_3 rfl h (fun z hz => c_X11_editorAt l F.ht G x0 x1 M z hz) (fun v1 M2 h kl3 => ?_)
  refine j_st (st' := [(false, v1), (false, x0)]) rfl ?_
  refine j_iload_n F 2 rfl rfl dX11_standing_6 ?_
  refine j_callV (d' := 6) (argl := [(false, v1), (true, x2)]) (rk9 := 2) (st := []) F hno M_X11_askAt q1005 q11 q1003 ⟨by decide, by decide⟩ (Nat.le_of_ble_eq_true rfl) (by decide) (ci := 12) rfl (by decide) (kl3.is g4) dX11_standing_7 rfl h (fun z hz => c_X11_askAt l F.ht G x0 v1 x2 M2 z hz) (fun v5 M6 h kl7 => ?_)
  refine j_st (st' := [(false, v5)]) rfl ?_
  refine j_astore_n F (lv' := [(3, (false, v5)), (0, (false, x0)), (1, (true, x1)), (2, (true, x2))]) rfl (by decide) rfl dX11_standing_10 ?_
  refine j_aload_n F 0 rfl rfl dX11_standing_11 ?_
  obtain ⟨g8, h⟩ := gua h
  refine j_get F ft_X11_211 rfl g8 dX11_standing_12 ?_
  refine j_iconst F dX11_standing_15 ?_
  refine j_icmp_ne F 34 (by decide) dX11_standing_16 h (fun h => ?_) (fun h => ?_)
  · skip
    refine j_aload_n F 0 rfl rfl dX11_standing_34 ?_
    refine j_get F ft_X11_211 rfl g8 dX11_standing_35 ?_
    exact j_iret F h dX11_standing_38
  · skip
    refine j_bipush F (by decide) dX11_standing_19 ?_
    refine j_aload_n F 0 rfl rfl dX11_standing_21 ?_
    refine j_get F ft_X11_225 rfl g8 dX11_standing_22 ?_
    obtain ⟨g12, h⟩ := gua h
    refine j_callV (d' := 0) (argl := []) (rk9 := 1) (st := [(true, 10)]) F hno M_X5_size q1022 q1023 q1021 ⟨by decide, by decide⟩ (Nat.le_of_ble_eq_true rfl) (by decide) (ci := 6) rfl (by decide) g12 dX11_standing_25 rfl h (fun z hz => c_X5_size l F.ht G (fd M6 1 4 v5) M6 z hz) (fun v9 M10 h kl11 => ?_)
    refine j_st (st' := [(true, v9), (true, 10)]) rfl ?_
    refine j_imul F dX11_standing_28 ?_
    refine j_iconst F dX11_standing_29 ?_
    refine j_iadd F dX11_standing_30 ?_
    refine j_goto F 38 (by decide) dX11_standing_31 ?_
    exact j_iret F h dX11_standing_38
theorem c_X11_standing (l : Launch) (hl : l.stackTraces = false) (G : Gt) (x0 x1 x2 : Int) (M : Mo) (z : RS) (h : X11_standing x0 x1 x2 M = some z) : CT l G yX11_standing (cn yX11_standing cX11_standing 4 (some FieldType.int)) 7 [(false, x0), (true, x1), (true, x2)] M 1 z :=
  ctOf hl (by decide) (Nat.le_of_ble_eq_true rfl) (fun p e R s m args below meth c ρ F hno hnm => w_X11_standing_0 F hno hnm x0 x1 x2 M h)
theorem dX11_checkItem_0 : decode cX11_checkItem 0 = .ok (.aload_n 1, 1) := by decide +kernel
theorem dX11_checkItem_1 : decode cX11_checkItem 1 = .ok (.getfield 211, 3) := by decide +kernel
theorem dX11_checkItem_4 : decode cX11_checkItem 4 = .ok (.iconst 1, 1) := by decide +kernel
theorem dX11_checkItem_5 : decode cX11_checkItem 5 = .ok (.if_icmp .ne 18, 3) := by decide +kernel
theorem dX11_checkItem_23 : decode cX11_checkItem 23 = .ok (.new 254, 3) := by decide +kernel
theorem dX11_checkItem_26 : decode cX11_checkItem 26 = .ok (.dup, 1) := by decide +kernel
theorem dX11_checkItem_27 : decode cX11_checkItem 27 = .ok (.ldc_w 372, 3) := by decide +kernel
theorem dX11_checkItem_30 : decode cX11_checkItem 30 = .ok (.invokespecial 258, 3) := by decide +kernel
theorem dX11_checkItem_33 : decode cX11_checkItem 33 = .ok (.athrow, 1) := by decide +kernel
theorem dX11_checkItem_8 : decode cX11_checkItem 8 = .ok (.iload_n 2, 1) := by decide +kernel
theorem dX11_checkItem_9 : decode cX11_checkItem 9 = .ok (.ifCond .lt 14, 3) := by decide +kernel
theorem dX11_checkItem_12 : decode cX11_checkItem 12 = .ok (.iload_n 2, 1) := by decide +kernel
theorem dX11_checkItem_13 : decode cX11_checkItem 13 = .ok (.aload_n 1, 1) := by decide +kernel
theorem dX11_checkItem_14 : decode cX11_checkItem 14 = .ok (.getfield 225, 3) := by decide +kernel
theorem dX11_checkItem_17 : decode cX11_checkItem 17 = .ok (.invokevirtual 229, 3) := by decide +kernel
theorem dX11_checkItem_20 : decode cX11_checkItem 20 = .ok (.if_icmp .lt 14, 3) := by decide +kernel
theorem dX11_checkItem_34 : decode cX11_checkItem 34 = .ok (.return_, 1) := by decide +kernel
set_option maxHeartbeats 4000000 in
set_option maxRecDepth 100000 in
theorem w_X11_checkItem_0 {p : Program} {l : Launch} {e : Env} {R : Room} {s : State} {m : MethodId} {args : Array Value} {below : List Frame} {meth : Method} {c : Code} {G : Gt} {ρ0 : Int → Nat} {M0 : Mo} {res : RS} (F : Fx p l R s m args meth c cX11_checkItem 3 RX11 G M0 6 none) (hno : ∀ x ∈ c.exceptionTable.toList, False) (hnm : meth.name = yX11_checkItem.name) (x0 x1 x2 : Int) (M : Mo) (h : X11_checkItem x0 x1 x2 M = some res) : J p l e R s m args below meth c 3 G ρ0 M0 0 res M 0 [(0, (false, x0)), (1, (false, x1)), (2, (true, x2))] [] := by
  unfold X11_checkItem at h
  refine j_aload_n F 1 rfl rfl dX11_checkItem_0 ?_
  obtain ⟨g1, h⟩ := gua h
  refine j_get F ft_X11_211 rfl g1 dX11_checkItem_1 ?_
  refine j_iconst F dX11_checkItem_4 ?_
  refine j_icmp_ne F 23 (by decide) dX11_checkItem_5 h (fun h => ?_) (fun h => ?_)
  · skip
    obtain ⟨g2, h⟩ := gua h
    exact j_throwW F hno (ex := 1) (text := "no such item") rfl (by decide +kernel) q586 q70 (by decide +kernel) at_X11_258 (by decide +kernel) (by decide) (Nat.le_of_ble_eq_true rfl) rfl (by decide) g2 h dX11_checkItem_23 dX11_checkItem_26 dX11_checkItem_27 dX11_checkItem_30 dX11_checkItem_33
  · skip
    refine j_iload_n F 2 rfl rfl dX11_checkItem_8 ?_
    refine j_if_lt F 23 (by decide) dX11_checkItem_9 h (fun h => ?_) (fun h => ?_)
    · skip
      obtain ⟨g3, h⟩ := gua h
      exact j_throwW F hno (ex := 1) (text := "no such item") rfl (by decide +kernel) q586 q70 (by decide +kernel) at_X11_258 (by decide +kernel) (by decide) (Nat.le_of_ble_eq_true rfl) rfl (by decide) g3 h dX11_checkItem_23 dX11_checkItem_26 dX11_checkItem_27 dX11_checkItem_30 dX11_checkItem_33
    · skip
      refine j_iload_n F 2 rfl rfl dX11_checkItem_12 ?_
      refine j_aload_n F 1 rfl rfl dX11_checkItem_13 ?_
      refine j_get F ft_X11_225 rfl g1 dX11_checkItem_14 ?_
      obtain ⟨g7, h⟩ := gua h
      refine j_callV (d' := 0) (argl := []) (rk9 := 1) (st := [(true, x2)]) F hno M_X5_size q1022 q1023 q1021 ⟨by decide, by decide⟩ (Nat.le_of_ble_eq_true rfl) (by decide) (ci := 6) rfl (by decide) g7 dX11_checkItem_17 rfl h (fun z hz => c_X5_size l F.ht G (fd M 1 4 x1) M z hz) (fun v4 M5 h kl6 => ?_)
      refine j_st (st' := [(true, v4), (true, x2)]) rfl ?_
      refine j_icmp_lt F 34 (by decide) dX11_checkItem_20 h (fun h => ?_) (fun h => ?_)
      · skip
        exact j_vret F (v := 0) h dX11_checkItem_34
      · skip
        obtain ⟨g8, h⟩ := gua h
        exact j_throwW F hno (ex := 1) (text := "no such item") rfl (by decide +kernel) q586 q70 (by decide +kernel) at_X11_258 (by decide +kernel) (by decide) (Nat.le_of_ble_eq_true rfl) rfl (by decide) g8 h dX11_checkItem_23 dX11_checkItem_26 dX11_checkItem_27 dX11_checkItem_30 dX11_checkItem_33
theorem c_X11_checkItem (l : Launch) (hl : l.stackTraces = false) (G : Gt) (x0 x1 x2 : Int) (M : Mo) (z : RS) (h : X11_checkItem x0 x1 x2 M = some z) : CT l G yX11_checkItem (cn yX11_checkItem cX11_checkItem 3 none) 6 [(false, x0), (false, x1), (true, x2)] M 0 z :=
  ctOf hl (by decide) (Nat.le_of_ble_eq_true rfl) (fun p e R s m args below meth c ρ F hno hnm => w_X11_checkItem_0 F hno hnm x0 x1 x2 M h)
