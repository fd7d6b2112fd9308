theorem dX7_init_0 : decode cX7_init 0 = .ok (.aload_n 0, 1) := by decide +kernel
set_option maxRecDepth 100000 in
theorem q271 : Cond.methodLink RX7 3 Lib.objectInit ∈ GT := gt 271 (by decide +kernel) (by decide +kernel)
theorem dX7_init_1 : decode cX7_init 1 = .ok (.invokespecial 3, 3) := by decide +kernel
theorem dX7_init_4 : decode cX7_init 4 = .ok (.aload_n 0, 1) := by decide +kernel
theorem dX7_init_5 : decode cX7_init 5 = .ok (.bipush 6, 2) := by decide +kernel
set_option maxRecDepth 100000 in
theorem q272 : Cond.classLink RX7 9 RX2 ∈ GT := gt 272 (by decide +kernel) (by decide +kernel)
theorem dX7_init_7 : decode cX7_init 7 = .ok (.anewarray 9, 3) := by decide +kernel
set_option maxRecDepth 100000 in
theorem q286 : Cond.fieldLink RX7 11 "ToolPlex$Multiplexer" "copies" "[LToolPlex$Copy;" ∈ GT := gt 286 (by decide +kernel) (by decide +kernel)
theorem inGX7 : ∀ w ∈ u_ws RX7 TX7 12, w ∈ GT := gts [295, 297, 299, 301, 303, 305, 307, 309, 311, 313, 315, 317] (by decide +kernel) (by decide +kernel)
theorem ft_X7_11 : FT RX7 11 RX7 8 RX7 TX7 12 3 := ⟨rfl, by decide, by decide, q286, Or.inl rfl, inGX7⟩
theorem dX7_init_10 : decode cX7_init 10 = .ok (.putfield 11, 3) := by decide +kernel
theorem dX7_init_13 : decode cX7_init 13 = .ok (.aload_n 0, 1) := by decide +kernel
theorem dX7_init_14 : decode cX7_init 14 = .ok (.new 9, 3) := by decide +kernel
theorem dX7_init_17 : decode cX7_init 17 = .ok (.dup, 1) := by decide +kernel
set_option maxRecDepth 100000 in
theorem q273 : Cond.methodLinkNest RX7 17 yX2_init "ToolPlex" ∈ GT := gt 273 (by decide +kernel) (by decide +kernel)
theorem dX7_init_18 : decode cX7_init 18 = .ok (.invokespecial 17, 3) := by decide +kernel
set_option maxRecDepth 100000 in
theorem q287 : Cond.fieldLink RX7 18 "ToolPlex$Multiplexer" "nothing" "LToolPlex$Copy;" ∈ GT := gt 287 (by decide +kernel) (by decide +kernel)
theorem ft_X7_18 : FT RX7 18 RX7 8 RX7 TX7 12 4 := ⟨rfl, by decide, by decide, q287, Or.inl rfl, inGX7⟩
theorem dX7_init_21 : decode cX7_init 21 = .ok (.putfield 18, 3) := by decide +kernel
theorem dX7_init_24 : decode cX7_init 24 = .ok (.aload_n 0, 1) := by decide +kernel
theorem dX7_init_25 : decode cX7_init 25 = .ok (.bipush 6, 2) := by decide +kernel
theorem dX7_init_27 : decode cX7_init 27 = .ok (.newarray .int, 2) := by decide +kernel
set_option maxRecDepth 100000 in
theorem q288 : Cond.fieldLink RX7 22 "ToolPlex$Multiplexer" "taken" "[I" ∈ GT := gt 288 (by decide +kernel) (by decide +kernel)
theorem ft_X7_22 : FT RX7 22 RX7 8 RX7 TX7 12 5 := ⟨rfl, by decide, by decide, q288, Or.inl rfl, inGX7⟩
theorem dX7_init_29 : decode cX7_init 29 = .ok (.putfield 22, 3) := by decide +kernel
theorem dX7_init_32 : decode cX7_init 32 = .ok (.aload_n 0, 1) := by decide +kernel
theorem dX7_init_33 : decode cX7_init 33 = .ok (.bipush 18, 2) := by decide +kernel
set_option maxRecDepth 100000 in
theorem q274 : Cond.classLink RX7 26 RX5 ∈ GT := gt 274 (by decide +kernel) (by decide +kernel)
theorem dX7_init_35 : decode cX7_init 35 = .ok (.anewarray 26, 3) := by decide +kernel
set_option maxRecDepth 100000 in
theorem q289 : Cond.fieldLink RX7 28 "ToolPlex$Multiplexer" "faults" "[LToolPlex$Items;" ∈ GT := gt 289 (by decide +kernel) (by decide +kernel)
theorem ft_X7_28 : FT RX7 28 RX7 8 RX7 TX7 12 6 := ⟨rfl, by decide, by decide, q289, Or.inl rfl, inGX7⟩
theorem dX7_init_38 : decode cX7_init 38 = .ok (.putfield 28, 3) := by decide +kernel
theorem dX7_init_41 : decode cX7_init 41 = .ok (.aload_n 0, 1) := by decide +kernel
set_option maxRecDepth 100000 in
theorem q275 : Cond.classLink RX7 32 RJx4a65c ∈ GT := gt 275 (by decide +kernel) (by decide +kernel)
theorem dX7_init_42 : decode cX7_init 42 = .ok (.new 32, 3) := by decide +kernel
theorem dX7_init_45 : decode cX7_init 45 = .ok (.dup, 1) := by decide +kernel
set_option maxRecDepth 100000 in
theorem q276 : Cond.methodLink RX7 34 yJx4a65c_init_da8c8 ∈ GT := gt 276 (by decide +kernel) (by decide +kernel)
theorem dX7_init_46 : decode cX7_init 46 = .ok (.invokespecial 34, 3) := by decide +kernel
set_option maxRecDepth 100000 in
theorem q290 : Cond.fieldLink RX7 35 "ToolPlex$Multiplexer" "pending" "Ljava/util/ArrayList;" ∈ GT := gt 290 (by decide +kernel) (by decide +kernel)
theorem ft_X7_35 : FT RX7 35 RX7 8 RX7 TX7 12 7 := ⟨rfl, by decide, by decide, q290, Or.inl rfl, inGX7⟩
theorem dX7_init_49 : decode cX7_init 49 = .ok (.putfield 35, 3) := by decide +kernel
theorem dX7_init_52 : decode cX7_init 52 = .ok (.aload_n 0, 1) := by decide +kernel
theorem dX7_init_53 : decode cX7_init 53 = .ok (.sipush 240, 3) := by decide +kernel
theorem dX7_init_56 : decode cX7_init 56 = .ok (.newarray .int, 2) := by decide +kernel
set_option maxRecDepth 100000 in
theorem q291 : Cond.fieldLink RX7 39 "ToolPlex$Multiplexer" "ids" "[I" ∈ GT := gt 291 (by decide +kernel) (by decide +kernel)
theorem ft_X7_39 : FT RX7 39 RX7 8 RX7 TX7 12 8 := ⟨rfl, by decide, by decide, q291, Or.inl rfl, inGX7⟩
theorem dX7_init_58 : decode cX7_init 58 = .ok (.putfield 39, 3) := by decide +kernel
theorem dX7_init_61 : decode cX7_init 61 = .ok (.aload_n 0, 1) := by decide +kernel
theorem dX7_init_62 : decode cX7_init 62 = .ok (.new 26, 3) := by decide +kernel
theorem dX7_init_65 : decode cX7_init 65 = .ok (.dup, 1) := by decide +kernel
set_option maxRecDepth 100000 in
theorem q277 : Cond.methodLinkNest RX7 42 yX5_init "ToolPlex" ∈ GT := gt 277 (by decide +kernel) (by decide +kernel)
theorem dX7_init_66 : decode cX7_init 66 = .ok (.invokespecial 42, 3) := by decide +kernel
set_option maxRecDepth 100000 in
theorem q293 : Cond.fieldLink RX7 43 "ToolPlex$Multiplexer" "merged" "LToolPlex$Items;" ∈ GT := gt 293 (by decide +kernel) (by decide +kernel)
theorem ft_X7_43 : FT RX7 43 RX7 8 RX7 TX7 12 10 := ⟨rfl, by decide, by decide, q293, Or.inl rfl, inGX7⟩
theorem dX7_init_69 : decode cX7_init 69 = .ok (.putfield 43, 3) := by decide +kernel
theorem dX7_init_72 : decode cX7_init 72 = .ok (.aload_n 0, 1) := by decide +kernel
theorem dfX1 : ∀ j, j < 1 → defaultValue (tyX1 j) = vp_V ((lay 2).map (fun b => if b then Value.int 0 else .null)) j := by decide +kernel
set_option maxRecDepth 100000 in
theorem q278 : Cond.classLink RX7 47 RX1 ∈ GT := gt 278 (by decide +kernel) (by decide +kernel)
set_option maxRecDepth 100000 in
theorem q162 : Cond.instantiable RX1 1 ∈ GT := gt 162 (by decide +kernel) (by decide +kernel)
theorem dX7_init_73 : decode cX7_init 73 = .ok (.new 47, 3) := by decide +kernel
theorem dX7_init_76 : decode cX7_init 76 = .ok (.dup, 1) := by decide +kernel
set_option maxRecDepth 100000 in
theorem q165 : Cond.code yX1_init cX1_init 1 none ∈ GT := gt 165 (rfl) (by decide +kernel)
theorem M_X1_init : MY yX1_init cX1_init 1 none 0 := ⟨q165, q59, by decide +kernel, by decide +kernel⟩
set_option maxRecDepth 100000 in
theorem q164 : Cond.instanceMethod yX1_init ∈ GT := gt 164 (by decide +kernel) (by decide +kernel)
set_option maxRecDepth 100000 in
theorem q279 : Cond.methodLinkNest RX7 49 yX1_init "ToolPlex" ∈ GT := gt 279 (by decide +kernel) (by decide +kernel)
theorem dX7_init_77 : decode cX7_init 77 = .ok (.invokespecial 49, 3) := by decide +kernel
set_option maxRecDepth 100000 in
theorem q294 : Cond.fieldLink RX7 50 "ToolPlex$Multiplexer" "nowhere" "LToolPlex$Channel;" ∈ GT := gt 294 (by decide +kernel) (by decide +kernel)
theorem ft_X7_50 : FT RX7 50 RX7 8 RX7 TX7 12 11 := ⟨rfl, by decide, by decide, q294, Or.inl rfl, inGX7⟩
theorem dX7_init_80 : decode cX7_init 80 = .ok (.putfield 50, 3) := by decide +kernel
theorem dX7_init_83 : decode cX7_init 83 = .ok (.aload_n 0, 1) := by decide +kernel
theorem dX7_init_84 : decode cX7_init 84 = .ok (.aload_n 1, 1) := by decide +kernel
set_option maxRecDepth 100000 in
theorem q283 : Cond.fieldLink RX7 54 "ToolPlex$Multiplexer" "files" "LToolPlex$Files;" ∈ GT := gt 283 (by decide +kernel) (by decide +kernel)
theorem ft_X7_54 : FT RX7 54 RX7 8 RX7 TX7 12 0 := ⟨rfl, by decide, by decide, q283, Or.inl rfl, inGX7⟩
theorem dX7_init_85 : decode cX7_init 85 = .ok (.putfield 54, 3) := by decide +kernel
theorem dX7_init_88 : decode cX7_init 88 = .ok (.aload_n 0, 1) := by decide +kernel
theorem dX7_init_89 : decode cX7_init 89 = .ok (.aload_n 2, 1) := by decide +kernel
set_option maxRecDepth 100000 in
theorem q284 : Cond.fieldLink RX7 58 "ToolPlex$Multiplexer" "servers" "Ljava/util/ArrayList;" ∈ GT := gt 284 (by decide +kernel) (by decide +kernel)
theorem ft_X7_58 : FT RX7 58 RX7 8 RX7 TX7 12 1 := ⟨rfl, by decide, by decide, q284, Or.inl rfl, inGX7⟩
theorem dX7_init_90 : decode cX7_init 90 = .ok (.putfield 58, 3) := by decide +kernel
theorem dX7_init_93 : decode cX7_init 93 = .ok (.aload_n 0, 1) := by decide +kernel
theorem dX7_init_94 : decode cX7_init 94 = .ok (.aload_n 3, 1) := by decide +kernel
set_option maxRecDepth 100000 in
theorem q285 : Cond.fieldLink RX7 61 "ToolPlex$Multiplexer" "channels" "[LToolPlex$Channel;" ∈ GT := gt 285 (by decide +kernel) (by decide +kernel)
theorem ft_X7_61 : FT RX7 61 RX7 8 RX7 TX7 12 2 := ⟨rfl, by decide, by decide, q285, Or.inl rfl, inGX7⟩
theorem dX7_init_95 : decode cX7_init 95 = .ok (.putfield 61, 3) := by decide +kernel
theorem dX7_init_98 : decode cX7_init 98 = .ok (.iconst 0, 1) := by decide +kernel
theorem dX7_init_99 : decode cX7_init 99 = .ok (.istore 4, 2) := by decide +kernel
theorem dX7_init_101 : decode cX7_init 101 = .ok (.iload 4, 2) := by decide +kernel
theorem dX7_init_103 : decode cX7_init 103 = .ok (.bipush 6, 2) := by decide +kernel
theorem dX7_init_105 : decode cX7_init 105 = .ok (.if_icmp .ge 23, 3) := by decide +kernel
theorem dX7_init_128 : decode cX7_init 128 = .ok (.iconst 0, 1) := by decide +kernel
theorem dX7_init_129 : decode cX7_init 129 = .ok (.istore 4, 2) := by decide +kernel
theorem dX7_init_108 : decode cX7_init 108 = .ok (.aload_n 0, 1) := by decide +kernel
theorem dX7_init_109 : decode cX7_init 109 = .ok (.getfield 11, 3) := by decide +kernel
theorem dX7_init_112 : decode cX7_init 112 = .ok (.iload 4, 2) := by decide +kernel
theorem dX7_init_114 : decode cX7_init 114 = .ok (.new 9, 3) := by decide +kernel
theorem dX7_init_117 : decode cX7_init 117 = .ok (.dup, 1) := by decide +kernel
theorem dX7_init_118 : decode cX7_init 118 = .ok (.invokespecial 17, 3) := by decide +kernel
theorem dX7_init_121 : decode cX7_init 121 = .ok (.aastore, 1) := by decide +kernel
theorem dX7_init_122 : decode cX7_init 122 = .ok (.iinc 4 1, 3) := by decide +kernel
theorem dX7_init_125 : decode cX7_init 125 = .ok (.goto (-24), 3) := by decide +kernel
theorem dX7_init_131 : decode cX7_init 131 = .ok (.iload 4, 2) := by decide +kernel
theorem dX7_init_133 : decode cX7_init 133 = .ok (.aload_n 0, 1) := by decide +kernel
theorem dX7_init_134 : decode cX7_init 134 = .ok (.getfield 28, 3) := by decide +kernel
theorem dX7_init_137 : decode cX7_init 137 = .ok (.arraylength, 1) := by decide +kernel
theorem dX7_init_138 : decode cX7_init 138 = .ok (.if_icmp .ge 23, 3) := by decide +kernel
theorem dX7_init_161 : decode cX7_init 161 = .ok (.aload_n 0, 1) := by decide +kernel
theorem dX7_init_162 : decode cX7_init 162 = .ok (.getfield 39, 3) := by decide +kernel
theorem dX7_init_165 : decode cX7_init 165 = .ok (.iconst (-1), 1) := by decide +kernel
set_option maxRecDepth 100000 in
theorem q282 : Cond.code yJ7_fill_53178 cJ7_fill_53178 4 none ∈ GT := gt 282 (rfl) (by decide +kernel)
theorem M_J7_fill_53178 : MY yJ7_fill_53178 cJ7_fill_53178 4 none 2 := ⟨q282, q64, by decide +kernel, by decide +kernel⟩
set_option maxRecDepth 100000 in
theorem q281 : Cond.static yJ7_fill_53178 ∈ GT := gt 281 (by decide +kernel) (by decide +kernel)
set_option maxRecDepth 100000 in
theorem q280 : Cond.methodLink RX7 65 yJ7_fill_53178 ∈ GT := gt 280 (by decide +kernel) (by decide +kernel)
theorem dX7_init_166 : decode cX7_init 166 = .ok (.invokestatic 65, 3) := by decide +kernel
theorem dX7_init_169 : decode cX7_init 169 = .ok (.return_, 1) := by decide +kernel
theorem dX7_init_141 : decode cX7_init 141 = .ok (.aload_n 0, 1) := by decide +kernel
theorem dX7_init_142 : decode cX7_init 142 = .ok (.getfield 28, 3) := by decide +kernel
theorem dX7_init_145 : decode cX7_init 145 = .ok (.iload 4, 2) := by decide +kernel
theorem dX7_init_147 : decode cX7_init 147 = .ok (.new 26, 3) := by decide +kernel
theorem dX7_init_150 : decode cX7_init 150 = .ok (.dup, 1) := by decide +kernel
theorem dX7_init_151 : decode cX7_init 151 = .ok (.invokespecial 42, 3) := by decide +kernel
theorem dX7_init_154 : decode cX7_init 154 = .ok (.aastore, 1) := by decide +kernel
theorem dX7_init_155 : decode cX7_init 155 = .ok (.iinc 4 1, 3) := by decide +kernel
theorem dX7_init_158 : decode cX7_init 158 = .ok (.goto (-27), 3) := by decide +kernel
set_option maxHeartbeats 4000000 in
set_option maxRecDepth 100000 in
theorem w_X7_init_131 {p : Program} {l : Launch} {e : Env} {R : Room} {s : State} {m : MethodId} {args : Array Value} {below : List Frame} {meth : Method} {c : Code} {G : Gt} {ρ0 : Int → Nat} {M0 : Mo} {res : RS} (F : Fx p l R s m args meth c cX7_init 5 RX7 G M0 5 none) (hno : ∀ x ∈ c.exceptionTable.toList, False) (hnm : meth.name = yX7_init.name) (n : Nat) : ∀ (x0 x4 : Int) (M : Mo), X7_init_131 n x0 x4 M = some res → J p l e R s m args below meth c 5 G ρ0 M0 0 res M 131 [(0, (false, x0)), (4, (true, x4))] [] := by
  induction n with
  | zero => intro x0 x4 M h; cases h
  | succ n ih =>
    intro x0 x4 M h
    rw [X7_init_131] at h
    refine j_iload F 1 rfl dX7_init_131 ?_
    refine j_aload_n F 0 rfl rfl dX7_init_133 ?_
    obtain ⟨g1, h⟩ := gua h
    refine j_get F ft_X7_28 rfl g1 dX7_init_134 ?_
    obtain ⟨g2, h⟩ := gua h
    refine j_alen F g2 dX7_init_137 ?_
    refine j_icmp_ge F 161 (by decide) dX7_init_138 h (fun h => ?_) (fun h => ?_)
    · skip
      refine j_aload_n F 0 rfl rfl dX7_init_161 ?_
      refine j_get F ft_X7_39 rfl g1 dX7_init_162 ?_
      refine j_iconst F dX7_init_165 ?_
      refine j_callS (d' := 0) (argl := [(false, (fd M 8 8 x0)), (true, (-1))]) (rk9 := 0) (st := []) F hno M_J7_fill_53178 q281 q280 ⟨by decide, by decide⟩ (Nat.le_of_ble_eq_true rfl) (by decide) dX7_init_166 rfl h (fun z hz => c_J7_fill_53178 l F.ht G (fd M 8 8 x0) (-1) M z hz) (fun v3 M4 h kl5 => ?_)
      refine j_st (st' := []) rfl ?_
      exact j_vret F (v := 0) h dX7_init_169
    · skip
      refine j_aload_n F 0 rfl rfl dX7_init_141 ?_
      refine j_get F ft_X7_28 rfl g1 dX7_init_142 ?_
      refine j_iload F 1 rfl dX7_init_145 ?_
      obtain ⟨g6, h⟩ := gua h
      refine j_new (ci := 6) F inGX5 tyX5 tyX5_ok q274 q226 q62 rfl (by decide) dfX5 g6 dX7_init_147 (fun kl7 => ?_)
      obtain ⟨M8, hM8⟩ : ∃ Z, Z = nO M 6 2 := ⟨_, rfl⟩
      have g9 : kd M8 (nid M) = 7 := by rw [hM8]; exact kd_nO
      rw [← hM8] at kl7 ⊢
      replace h := pt_as h hM8
      refine j_dup F dX7_init_150 ?_
      refine j_callIN (d' := 1) (argl := []) (rk9 := 0) (st := [(false, (nid M)), (true, x4), (false, (fd M 8 6 x0))]) F M_X5_init q228 rfl q277 ⟨by decide, by decide⟩ (Nat.le_of_ble_eq_true rfl) (by decide) (by rw [g9]; decide) dX7_init_151 rfl h (fun z hz => c_X5_init l F.ht G (nid M) M8 z hz) (fun v10 M11 h kl12 => ?_)
      refine j_st (st' := [(false, (nid M)), (true, x4), (false, (fd M 8 6 x0))]) rfl ?_
      obtain ⟨g13, h⟩ := gua h
      obtain ⟨g14, h⟩ := gua h
      refine j_aastore F 13 6 6 g13 (by decide) rfl rfl (by decide) rfl g14 (Or.inr (kl12.is g9)) dX7_init_154 ?_
      obtain ⟨M15, hM15⟩ : ∃ Z, Z = sE M11 13 (fd M 8 6 x0) (wr x4) (nid M) := ⟨_, rfl⟩
      have kl16 : kle M11 M15 := by rw [hM15]; exact kle_sE
      rw [← hM15]
      replace h := pt_as h hM15
      refine j_iinc F 1 (lv' := [(4, (true, (x4 + 1))), (0, (false, x0))]) rfl (by decide) rfl dX7_init_155 ?_
      refine j_goto F 131 (by decide) dX7_init_158 ?_
      refine j_sub (lv' := [(0, (false, x0)), (4, (true, (x4 + 1)))]) [1, 0] rfl ?_
      exact ih x0 (x4 + 1) M15 h
set_option maxHeartbeats 4000000 in
set_option maxRecDepth 100000 in
theorem w_X7_init_101 {p : Program} {l : Launch} {e : Env} {R : Room} {s : State} {m : MethodId} {args : Array Value} {below : List Frame} {meth : Method} {c : Code} {G : Gt} {ρ0 : Int → Nat} {M0 : Mo} {res : RS} (F : Fx p l R s m args meth c cX7_init 5 RX7 G M0 5 none) (hno : ∀ x ∈ c.exceptionTable.toList, False) (hnm : meth.name = yX7_init.name) (n : Nat) : ∀ (x0 x4 : Int) (M : Mo), X7_init_101 n x0 x4 M = some res → J p l e R s m args below meth c 5 G ρ0 M0 0 res M 101 [(0, (false, x0)), (4, (true, x4))] [] := by
  induction n with
  | zero => intro x0 x4 M h; cases h
  | succ n ih =>
    intro x0 x4 M h
    rw [X7_init_101] at h
    refine j_iload F 1 rfl dX7_init_101 ?_
    refine j_bipush F (by decide) dX7_init_103 ?_
    refine j_icmp_ge F 128 (by decide) dX7_init_105 h (fun h => ?_) (fun h => ?_)
    · skip
      refine j_iconst F dX7_init_128 ?_
      refine j_istore F (lv' := [(4, (true, 0)), (0, (false, x0))]) (by decide) rfl dX7_init_129 ?_
      refine j_sub (lv' := [(0, (false, x0)), (4, (true, 0))]) [1, 0] rfl ?_
      exact w_X7_init_131 F hno hnm FU x0 0 M h
    · skip
      refine j_aload_n F 0 rfl rfl dX7_init_108 ?_
      obtain ⟨g1, h⟩ := gua h
      refine j_get F ft_X7_11 rfl g1 dX7_init_109 ?_
      refine j_iload F 1 rfl dX7_init_112 ?_
      obtain ⟨g2, h⟩ := gua h
      refine j_new (ci := 3) F inGX2 tyX2 tyX2_ok q272 q182 q61 rfl (by decide) dfX2 g2 dX7_init_114 (fun kl3 => ?_)
      obtain ⟨M4, hM4⟩ : ∃ Z, Z = nO M 3 7 := ⟨_, rfl⟩
      have g5 : kd M4 (nid M) = 4 := by rw [hM4]; exact kd_nO
      rw [← hM4] at kl3 ⊢
      replace h := pt_as h hM4
      refine j_dup F dX7_init_117 ?_
      refine j_callIN (d' := 2) (argl := []) (rk9 := 0) (st := [(false, (nid M)), (true, x4), (false, (fd M 8 3 x0))]) F M_X2_init q184 rfl q273 ⟨by decide, by decide⟩ (Nat.le_of_ble_eq_true rfl) (by decide) (by rw [g5]; decide) dX7_init_118 rfl h (fun z hz => c_X2_init l F.ht G (nid M) M4 z hz) (fun v6 M7 h kl8 => ?_)
      refine j_st (st' := [(false, (nid M)), (true, x4), (false, (fd M 8 3 x0))]) rfl ?_
      obtain ⟨g9, h⟩ := gua h
      obtain ⟨g10, h⟩ := gua h
      refine j_aastore F 12 5 3 g9 (by decide) rfl rfl (by decide) rfl g10 (Or.inr (kl8.is g5)) dX7_init_121 ?_
      obtain ⟨M11, hM11⟩ : ∃ Z, Z = sE M7 12 (fd M 8 3 x0) (wr x4) (nid M) := ⟨_, rfl⟩
      have kl12 : kle M7 M11 := by rw [hM11]; exact kle_sE
      rw [← hM11]
      replace h := pt_as h hM11
      refine j_iinc F 1 (lv' := [(4, (true, (x4 + 1))), (0, (false, x0))]) rfl (by decide) rfl dX7_init_122 ?_
      refine j_goto F 101 (by decide) dX7_init_125 ?_
      refine j_sub (lv' := [(0, (false, x0)), (4, (true, (x4 + 1)))]) [1, 0] rfl ?_
      exact ih x0 (x4 + 1) M11 h
set_option maxHeartbeats 4000000 in
set_option maxRecDepth 100000 in
theorem w_X7_init_0 {p : Program} {l : Launch} {e : Env} {R : Room} {s : State} {m : MethodId} {args : Array Value} {below : List Frame} {meth : Method} {c : Code} {G : Gt} {ρ0 : Int → Nat} {M0 : Mo} {res : RS} (F : Fx p l R s m args meth c cX7_init 5 RX7 G M0 5 none) (hno : ∀ x ∈ c.exceptionTable.toList, False) (hnm : meth.name = yX7_init.name) (x0 x1 x2 x3 : Int) (M : Mo) (h : X7_init x0 x1 x2 x3 M = some res) : J p l e R s m args below meth c 5 G ρ0 M0 0 res M 0 [(0, (false, x0)), (1, (false, x1)), (2, (false, x2)), (3, (false, x3))] [] := by
  unfold X7_init at h
  refine j_aload_n F 0 rfl rfl dX7_init_0 ?_
  obtain ⟨g1, h⟩ := gua h
  refine j_objInit F ⟨q271, q86, q87⟩ g1 (by decide) (Nat.le_of_ble_eq_true rfl) dX7_init_1 ?_
  refine j_aload_n F 0 rfl rfl dX7_init_4 ?_
  refine j_bipush F (by decide) dX7_init_5 ?_
  obtain ⟨g2, h⟩ := gua h
  refine j_anewa F 12 5 (by decide) rfl q272 F.2.2.2.2.2.1.1.1.2.1 (by decide) g2 dX7_init_7 (fun kl3 => ?_)
  obtain ⟨M4, hM4⟩ : ∃ Z, Z = nA M 12 (wr 6) := ⟨_, rfl⟩
  have g5 : kd M4 (nid M) = 112 := by rw [hM4]; exact kd_nA
  rw [← hM4] at kl3 ⊢
  replace h := pt_as h hM4
  obtain ⟨g6, h⟩ := gua h
  refine j_putF (ty := .array (.object "ToolPlex$Copy")) F ft_X7_11 rfl rfl hnm rfl tyX7 tyX7_ok nmX7 (by decide +kernel) (nf_ref (Or.inr ⟨_, rfl⟩) _) g6 dX7_init_10 ?_
  obtain ⟨M7, hM7⟩ : ∃ Z, Z = sF M4 8 3 x0 (nid M) := ⟨_, rfl⟩
  have kl8 : kle M4 M7 := by rw [hM7]; exact kle_sF
  rw [← hM7]
  replace h := pt_as h hM7
  refine j_aload_n F 0 rfl rfl dX7_init_13 ?_
  obtain ⟨g9, h⟩ := gua h
  refine j_new (ci := 3) F inGX2 tyX2 tyX2_ok q272 q182 q61 rfl (by decide) dfX2 g9 dX7_init_14 (fun kl10 => ?_)
  obtain ⟨M11, hM11⟩ : ∃ Z, Z = nO M7 3 7 := ⟨_, rfl⟩
  have g12 : kd M11 (nid M7) = 4 := by rw [hM11]; exact kd_nO
  rw [← hM11] at kl10 ⊢
  replace h := pt_as h hM11
  refine j_dup F dX7_init_17 ?_
  refine j_callIN (d' := 2) (argl := []) (rk9 := 0) (st := [(false, (nid M7)), (false, x0)]) F M_X2_init q184 rfl q273 ⟨by decide, by decide⟩ (Nat.le_of_ble_eq_true rfl) (by decide) (by rw [g12]; decide) dX7_init_18 rfl h (fun z hz => c_X2_init l F.ht G (nid M7) M11 z hz) (fun v13 M14 h kl15 => ?_)
  refine j_st (st' := [(false, (nid M7)), (false, x0)]) rfl ?_
  refine j_putF (ty := .object "ToolPlex$Copy") F ft_X7_18 rfl rfl hnm rfl tyX7 tyX7_ok nmX7 (by decide +kernel) (nf_ref (Or.inl ⟨_, rfl⟩) _) (kl15.is (kl10.is (kl8.is g6))) dX7_init_21 ?_
  obtain ⟨M16, hM16⟩ : ∃ Z, Z = sF M14 8 4 x0 (nid M7) := ⟨_, rfl⟩
  have kl17 : kle M14 M16 := by rw [hM16]; exact kle_sF
  rw [← hM16]
  replace h := pt_as h hM16
  refine j_aload_n F 0 rfl rfl dX7_init_24 ?_
  refine j_bipush F (by decide) dX7_init_25 ?_
  obtain ⟨g18, h⟩ := gua h
  refine j_newaI F q133 (by decide) g18 dX7_init_27 (fun kl19 => ?_)
  obtain ⟨M20, hM20⟩ : ∃ Z, Z = nA M16 0 (wr 6) := ⟨_, rfl⟩
  have g21 : kd M20 (nid M16) = 100 := by rw [hM20]; exact kd_nA
  rw [← hM20] at kl19 ⊢
  replace h := pt_as h hM20
  refine j_putF (ty := .array .int) F ft_X7_22 rfl rfl hnm rfl tyX7 tyX7_ok nmX7 (by decide +kernel) (nf_ref (Or.inr ⟨_, rfl⟩) _) (kl19.is (kl17.is (kl15.is (kl10.is (kl8.is g6))))) dX7_init_29 ?_
  obtain ⟨M22, hM22⟩ : ∃ Z, Z = sF M20 8 5 x0 (nid M16) := ⟨_, rfl⟩
  have kl23 : kle M20 M22 := by rw [hM22]; exact kle_sF
  rw [← hM22]
  replace h := pt_as h hM22
  refine j_aload_n F 0 rfl rfl dX7_init_32 ?_
  refine j_bipush F (by decide) dX7_init_33 ?_
  obtain ⟨g24, h⟩ := gua h
  refine j_anewa F 13 6 (by decide) rfl q274 F.2.2.2.2.2.1.1.1.2.2.1 (by decide) g24 dX7_init_35 (fun kl25 => ?_)
  obtain ⟨M26, hM26⟩ : ∃ Z, Z = nA M22 13 (wr 18) := ⟨_, rfl⟩
  have g27 : kd M26 (nid M22) = 113 := by rw [hM26]; exact kd_nA
  rw [← hM26] at kl25 ⊢
  replace h := pt_as h hM26
  refine j_putF (ty := .array (.object "ToolPlex$Items")) F ft_X7_28 rfl rfl hnm rfl tyX7 tyX7_ok nmX7 (by decide +kernel) (nf_ref (Or.inr ⟨_, rfl⟩) _) (kl25.is (kl23.is (kl19.is (kl17.is (kl15.is (kl10.is (kl8.is g6))))))) dX7_init_38 ?_
  obtain ⟨M28, hM28⟩ : ∃ Z, Z = sF M26 8 6 x0 (nid M22) := ⟨_, rfl⟩
  have kl29 : kle M26 M28 := by rw [hM28]; exact kle_sF
  rw [← hM28]
  replace h := pt_as h hM28
  refine j_aload_n F 0 rfl rfl dX7_init_41 ?_
  obtain ⟨g30, h⟩ := gua h
  refine j_new (ci := 0) F inGJx4a65c tyJx4a65c tyJx4a65c_ok q275 q135 q58 rfl (by decide) dfJx4a65c g30 dX7_init_42 (fun kl31 => ?_)
  obtain ⟨M32, hM32⟩ : ∃ Z, Z = nO M28 0 3 := ⟨_, rfl⟩
  have g33 : kd M32 (nid M28) = 1 := by rw [hM32]; exact kd_nO
  rw [← hM32] at kl31 ⊢
  replace h := pt_as h hM32
  refine j_dup F dX7_init_45 ?_
  refine j_callI (d' := 3) (argl := []) (rk9 := 0) (st := [(false, (nid M28)), (false, x0)]) F M_Jx4a65c_init_da8c8 q137 rfl q276 ⟨by decide, by decide⟩ (Nat.le_of_ble_eq_true rfl) (by decide) (by rw [g33]; decide) dX7_init_46 rfl h (fun z hz => c_Jx4a65c_init_da8c8 l F.ht G (nid M28) M32 z hz) (fun v34 M35 h kl36 => ?_)
  refine j_st (st' := [(false, (nid M28)), (false, x0)]) rfl ?_
  refine j_putF (ty := .object "java/util/ArrayList") F ft_X7_35 rfl rfl hnm rfl tyX7 tyX7_ok nmX7 (by decide +kernel) (nf_ref (Or.inl ⟨_, rfl⟩) _) (kl36.is (kl31.is (kl29.is (kl25.is (kl23.is (kl19.is (kl17.is (kl15.is (kl10.is (kl8.is g6)))))))))) dX7_init_49 ?_
  obtain ⟨M37, hM37⟩ : ∃ Z, Z = sF M35 8 7 x0 (nid M28) := ⟨_, rfl⟩
  have kl38 : kle M35 M37 := by rw [hM37]; exact kle_sF
  rw [← hM37]
  replace h := pt_as h hM37
  refine j_aload_n F 0 rfl rfl dX7_init_52 ?_
  refine j_sipush F (by decide) dX7_init_53 ?_
  obtain ⟨g39, h⟩ := gua h
  refine j_newaI F q133 (by decide) g39 dX7_init_56 (fun kl40 => ?_)
  obtain ⟨M41, hM41⟩ : ∃ Z, Z = nA M37 0 (wr 240) := ⟨_, rfl⟩
  have g42 : kd M41 (nid M37) = 100 := by rw [hM41]; exact kd_nA
  rw [← hM41] at kl40 ⊢
  replace h := pt_as h hM41
  refine j_putF (ty := .array .int) F ft_X7_39 rfl rfl hnm rfl tyX7 tyX7_ok nmX7 (by decide +kernel) (nf_ref (Or.inr ⟨_, rfl⟩) _) (kl40.is (kl38.is (kl36.is (kl31.is (kl29.is (kl25.is (kl23.is (kl19.is (kl17.is (kl15.is (kl10.is (kl8.is g6)))))))))))) dX7_init_58 ?_
  obtain ⟨M43, hM43⟩ : ∃ Z, Z = sF M41 8 8 x0 (nid M37) := ⟨_, rfl⟩
  have kl44 : kle M41 M43 := by rw [hM43]; exact kle_sF
  rw [← hM43]
  replace h := pt_as h hM43
  refine j_aload_n F 0 rfl rfl dX7_init_61 ?_
  obtain ⟨g45, h⟩ := gua h
  refine j_new (ci := 6) F inGX5 tyX5 tyX5_ok q274 q226 q62 rfl (by decide) dfX5 g45 dX7_init_62 (fun kl46 => ?_)
  obtain ⟨M47, hM47⟩ : ∃ Z, Z = nO M43 6 2 := ⟨_, rfl⟩
  have g48 : kd M47 (nid M43) = 7 := by rw [hM47]; exact kd_nO
  rw [← hM47] at kl46 ⊢
  replace h := pt_as h hM47
  refine j_dup F dX7_init_65 ?_
  refine j_callIN (d' := 1) (argl := []) (rk9 := 0) (st := [(false, (nid M43)), (false, x0)]) F M_X5_init q228 rfl q277 ⟨by decide, by decide⟩ (Nat.le_of_ble_eq_true rfl) (by decide) (by rw [g48]; decide) dX7_init_66 rfl h (fun z hz => c_X5_init l F.ht G (nid M43) M47 z hz) (fun v49 M50 h kl51 => ?_)
  refine j_st (st' := [(false, (nid M43)), (false, x0)]) rfl ?_
  refine j_putF (ty := .object "ToolPlex$Items") F ft_X7_43 rfl rfl hnm rfl tyX7 tyX7_ok nmX7 (by decide +kernel) (nf_ref (Or.inl ⟨_, rfl⟩) _) (kl51.is (kl46.is (kl44.is (kl40.is (kl38.is (kl36.is (kl31.is (kl29.is (kl25.is (kl23.is (kl19.is (kl17.is (kl15.is (kl10.is (kl8.is g6))))))))))))))) dX7_init_69 ?_
  obtain ⟨M52, hM52⟩ : ∃ Z, Z = sF M50 8 10 x0 (nid M43) := ⟨_, rfl⟩
  have kl53 : kle M50 M52 := by rw [hM52]; exact kle_sF
  rw [← hM52]
  replace h := pt_as h hM52
  refine j_aload_n F 0 rfl rfl dX7_init_72 ?_
  obtain ⟨g54, h⟩ := gua h
  refine j_new (ci := 2) F inGX1 tyX1 tyX1_ok q278 q162 q59 rfl (by decide) dfX1 g54 dX7_init_73 (fun kl55 => ?_)
  obtain ⟨M56, hM56⟩ : ∃ Z, Z = nO M52 2 1 := ⟨_, rfl⟩
  have g57 : kd M56 (nid M52) = 3 := by rw [hM56]; exact kd_nO
  rw [← hM56] at kl55 ⊢
  replace h := pt_as h hM56
  refine j_dup F dX7_init_76 ?_
  refine j_callIN (d' := 4) (argl := []) (rk9 := 0) (st := [(false, (nid M52)), (false, x0)]) F M_X1_init q164 rfl q279 ⟨by decide, by decide⟩ (Nat.le_of_ble_eq_true rfl) (by decide) (by rw [g57]; decide) dX7_init_77 rfl h (fun z hz => c_X1_init l F.ht G (nid M52) M56 z hz) (fun v58 M59 h kl60 => ?_)
  refine j_st (st' := [(false, (nid M52)), (false, x0)]) rfl ?_
  refine j_putF (ty := .object "ToolPlex$Channel") F ft_X7_50 rfl rfl hnm rfl tyX7 tyX7_ok nmX7 (by decide +kernel) (nf_ref (Or.inl ⟨_, rfl⟩) _) (kl60.is (kl55.is (kl53.is (kl51.is (kl46.is (kl44.is (kl40.is (kl38.is (kl36.is (kl31.is (kl29.is (kl25.is (kl23.is (kl19.is (kl17.is (kl15.is (kl10.is (kl8.is g6)))))))))))))))))) dX7_init_80 ?_
  obtain ⟨M61, hM61⟩ : ∃ Z, Z = sF M59 8 11 x0 (nid M52) := ⟨_, rfl⟩
  have kl62 : kle M59 M61 := by rw [hM61]; exact kle_sF
  rw [← hM61]
  replace h := pt_as h hM61
  refine j_aload_n F 0 rfl rfl dX7_init_83 ?_
  refine j_aload_n F 1 rfl rfl dX7_init_84 ?_
  refine j_putF (ty := .object "ToolPlex$Files") F ft_X7_54 rfl rfl hnm rfl tyX7 tyX7_ok nmX7 (by decide +kernel) (nf_ref (Or.inl ⟨_, rfl⟩) _) (kl62.is (kl60.is (kl55.is (kl53.is (kl51.is (kl46.is (kl44.is (kl40.is (kl38.is (kl36.is (kl31.is (kl29.is (kl25.is (kl23.is (kl19.is (kl17.is (kl15.is (kl10.is (kl8.is g6))))))))))))))))))) dX7_init_85 ?_
  obtain ⟨M63, hM63⟩ : ∃ Z, Z = sF M61 8 0 x0 x1 := ⟨_, rfl⟩
  have kl64 : kle M61 M63 := by rw [hM63]; exact kle_sF
  rw [← hM63]
  replace h := pt_as h hM63
  refine j_aload_n F 0 rfl rfl dX7_init_88 ?_
  refine j_aload_n F 2 rfl rfl dX7_init_89 ?_
  refine j_putF (ty := .object "java/util/ArrayList") F ft_X7_58 rfl rfl hnm rfl tyX7 tyX7_ok nmX7 (by decide +kernel) (nf_ref (Or.inl ⟨_, rfl⟩) _) (kl64.is (kl62.is (kl60.is (kl55.is (kl53.is (kl51.is (kl46.is (kl44.is (kl40.is (kl38.is (kl36.is (kl31.is (kl29.is (kl25.is (kl23.is (kl19.is (kl17.is (kl15.is (kl10.is (kl8.is g6)))))))))))))))))))) dX7_init_90 ?_
  obtain ⟨M65, hM65⟩ : ∃ Z, Z = sF M63 8 1 x0 x2 := ⟨_, rfl⟩
  have kl66 : kle M63 M65 := by rw [hM65]; exact kle_sF
  rw [← hM65]
  replace h := pt_as h hM65
  refine j_aload_n F 0 rfl rfl dX7_init_93 ?_
  refine j_aload_n F 3 rfl rfl dX7_init_94 ?_
  refine j_putF (ty := .array (.object "ToolPlex$Channel")) F ft_X7_61 rfl rfl hnm rfl tyX7 tyX7_ok nmX7 (by decide +kernel) (nf_ref (Or.inr ⟨_, rfl⟩) _) (kl66.is (kl64.is (kl62.is (kl60.is (kl55.is (kl53.is (kl51.is (kl46.is (kl44.is (kl40.is (kl38.is (kl36.is (kl31.is (kl29.is (kl25.is (kl23.is (kl19.is (kl17.is (kl15.is (kl10.is (kl8.is g6))))))))))))))))))))) dX7_init_95 ?_
  obtain ⟨M67, hM67⟩ : ∃ Z, Z = sF M65 8 2 x0 x3 := ⟨_, rfl⟩
  have kl68 : kle M65 M67 := by rw [hM67]; exact kle_sF
  rw [← hM67]
  replace h := pt_as h hM67
  refine j_iconst F dX7_init_98 ?_
  refine j_istore F (lv' := [(4, (true, 0)), (0, (false, x0)), (1, (false, x1)), (2, (false, x2)), (3, (false, x3))]) (by decide) rfl dX7_init_99 ?_
  refine j_sub (lv' := [(0, (false, x0)), (4, (true, 0))]) [1, 0] rfl ?_
  exact w_X7_init_101 F hno hnm FU x0 0 M67 h
theorem c_X7_init (l : Launch) (hl : l.stackTraces = false) (G : Gt) (x0 x1 x2 x3 : Int) (M : Mo) (z : RS) (h : X7_init x0 x1 x2 x3 M = some z) : CT l G yX7_init (cn yX7_init cX7_init 5 none) 5 [(false, x0), (false, x1), (false, x2), (false, x3)] M 0 z :=
  ctOf hl (by decide) (Nat.le_of_ble_eq_true rfl) (fun p e R s m args below meth c ρ F hno hnm => w_X7_init_0 F hno hnm x0 x1 x2 x3 M h)
theorem dX7_copyOf_0 : decode cX7_copyOf 0 = .ok (.iload_n 1, 1) := by decide +kernel
theorem dX7_copyOf_1 : decode cX7_copyOf 1 = .ok (.ifCond .lt 18, 3) := by decide +kernel
theorem dX7_copyOf_19 : decode cX7_copyOf 19 = .ok (.aload_n 0, 1) := by decide +kernel
theorem dX7_copyOf_20 : decode cX7_copyOf 20 = .ok (.getfield 18, 3) := by decide +kernel
theorem dX7_copyOf_23 : decode cX7_copyOf 23 = .ok (.areturn, 1) := by decide +kernel
theorem dX7_copyOf_4 : decode cX7_copyOf 4 = .ok (.iload_n 1, 1) := by decide +kernel
theorem dX7_copyOf_5 : decode cX7_copyOf 5 = .ok (.bipush 6, 2) := by decide +kernel
theorem dX7_copyOf_7 : decode cX7_copyOf 7 = .ok (.if_icmp .ge 12, 3) := by decide +kernel
theorem dX7_copyOf_10 : decode cX7_copyOf 10 = .ok (.aload_n 0, 1) := by decide +kernel
theorem dX7_copyOf_11 : decode cX7_copyOf 11 = .ok (.getfield 11, 3) := by decide +kernel
theorem dX7_copyOf_14 : decode cX7_copyOf 14 = .ok (.iload_n 1, 1) := by decide +kernel
theorem dX7_copyOf_15 : decode cX7_copyOf 15 = .ok (.aaload, 1) := by decide +kernel
theorem dX7_copyOf_16 : decode cX7_copyOf 16 = .ok (.goto 7, 3) := by decide +kernel
set_option maxHeartbeats 4000000 in
set_option maxRecDepth 100000 in
theorem w_X7_copyOf_0 {p : Program} {l : Launch} {e : Env} {R : Room} {s : State} {m : MethodId} {args : Array Value} {below : List Frame} {meth : Method} {c : Code} {G : Gt} {ρ0 : Int → Nat} {M0 : Mo} {res : RS} (F : Fx p l R s m args meth c cX7_copyOf 2 RX7 G M0 0 (some (FieldType.object "ToolPlex$Copy"))) (hno : ∀ x ∈ c.exceptionTable.toList, False) (hnm : meth.name = yX7_copyOf.name) (x0 x1 : Int) (M : Mo) (h : X7_copyOf x0 x1 M = some res) : J p l e R s m args below meth c 2 G ρ0 M0 2 res M 0 [(0, (false, x0)), (1, (true, x1))] [] := by
  unfold X7_copyOf at h
  refine j_iload_n F 1 rfl rfl dX7_copyOf_0 ?_
  refine j_if_lt F 19 (by decide) dX7_copyOf_1 h (fun h => ?_) (fun h => ?_)
  · skip
    refine j_aload_n F 0 rfl rfl dX7_copyOf_19 ?_
    obtain ⟨g1, h⟩ := gua h
    refine j_get F ft_X7_18 rfl g1 dX7_copyOf_20 ?_
    exact j_aret F (Or.inl ⟨_, rfl⟩) h dX7_copyOf_23
  · skip
    refine j_iload_n F 1 rfl rfl dX7_copyOf_4 ?_
    refine j_bipush F (by decide) dX7_copyOf_5 ?_
    refine j_icmp_ge F 19 (by decide) dX7_copyOf_7 h (fun h => ?_) (fun h => ?_)
    · skip
      refine j_aload_n F 0 rfl rfl dX7_copyOf_19 ?_
      obtain ⟨g2, h⟩ := gua h
      refine j_get F ft_X7_18 rfl g2 dX7_copyOf_20 ?_
      exact j_aret F (Or.inl ⟨_, rfl⟩) h dX7_copyOf_23
    · skip
      refine j_aload_n F 0 rfl rfl dX7_copyOf_10 ?_
      obtain ⟨g3, h⟩ := gua h
      refine j_get F ft_X7_11 rfl g3 dX7_copyOf_11 ?_
      refine j_iload_n F 1 rfl rfl dX7_copyOf_14 ?_
      obtain ⟨g4, h⟩ := gua h
      obtain ⟨g5, h⟩ := gua h
      refine j_aaload F 12 5 g4 (by decide) rfl g5 dX7_copyOf_15 ?_
      refine j_goto F 23 (by decide) dX7_copyOf_16 ?_
      exact j_aret F (Or.inl ⟨_, rfl⟩) h dX7_copyOf_23
theorem c_X7_copyOf (l : Launch) (hl : l.stackTraces = false) (G : Gt) (x0 x1 : Int) (M : Mo) (z : RS) (h : X7_copyOf x0 x1 M = some z) : CT l G yX7_copyOf (cn yX7_copyOf cX7_copyOf 2 (some (FieldType.object "ToolPlex$Copy"))) 0 [(false, x0), (true, x1)] M 2 z :=
  ctOf hl (by decide) (Nat.le_of_ble_eq_true rfl) (fun p e R s m args below meth c ρ F hno hnm => w_X7_copyOf_0 F hno hnm x0 x1 M h)
theorem dX7_hasCopies_0 : decode cX7_hasCopies 0 = .ok (.iconst 0, 1) := by decide +kernel
theorem dX7_hasCopies_1 : decode cX7_hasCopies 1 = .ok (.istore_n 1, 1) := by decide +kernel
theorem dX7_hasCopies_2 : decode cX7_hasCopies 2 = .ok (.iload_n 1, 1) := by decide +kernel
theorem dX7_hasCopies_3 : decode cX7_hasCopies 3 = .ok (.bipush 6, 2) := by decide +kernel
theorem dX7_hasCopies_5 : decode cX7_hasCopies 5 = .ok (.if_icmp .ge 23, 3) := by decide +kernel
theorem dX7_hasCopies_28 : decode cX7_hasCopies 28 = .ok (.iconst 0, 1) := by decide +kernel
theorem dX7_hasCopies_29 : decode cX7_hasCopies 29 = .ok (.ireturn, 1) := by decide +kernel
theorem dX7_hasCopies_8 : decode cX7_hasCopies 8 = .ok (.aload_n 0, 1) := by decide +kernel
theorem dX7_hasCopies_9 : decode cX7_hasCopies 9 = .ok (.getfield 11, 3) := by decide +kernel
theorem dX7_hasCopies_12 : decode cX7_hasCopies 12 = .ok (.iload_n 1, 1) := by decide +kernel
theorem dX7_hasCopies_13 : decode cX7_hasCopies 13 = .ok (.aaload, 1) := by decide +kernel
set_option maxRecDepth 100000 in
theorem q467 : Cond.methodLink RX7 71 yX2_isHere ∈ GT := gt 467 (by decide +kernel) (by decide +kernel)
theorem dX7_hasCopies_14 : decode cX7_hasCopies 14 = .ok (.invokevirtual 71, 3) := by decide +kernel
theorem dX7_hasCopies_17 : decode cX7_hasCopies 17 = .ok (.ifCond .eq 5, 3) := by decide +kernel
theorem dX7_hasCopies_22 : decode cX7_hasCopies 22 = .ok (.iinc 1 1, 3) := by decide +kernel
theorem dX7_hasCopies_25 : decode cX7_hasCopies 25 = .ok (.goto (-23), 3) := by decide +kernel
theorem dX7_hasCopies_20 : decode cX7_hasCopies 20 = .ok (.iconst 1, 1) := by decide +kernel
theorem dX7_hasCopies_21 : decode cX7_hasCopies 21 = .ok (.ireturn, 1) := by decide +kernel
set_option maxHeartbeats 4000000 in
set_option maxRecDepth 100000 in
theorem w_X7_hasCopies_2 {p : Program} {l : Launch} {e : Env} {R : Room} {s : State} {m : MethodId} {args : Array Value} {below : List Frame} {meth : Method} {c : Code} {G : Gt} {ρ0 : Int → Nat} {M0 : Mo} {res : RS} (F : Fx p l R s m args meth c cX7_hasCopies 2 RX7 G M0 1 (some FieldType.boolean)) (hno : ∀ x ∈ c.exceptionTable.toList, False) (hnm : meth.name = yX7_hasCopies.name) (n : Nat) : ∀ (x0 x1 : Int) (M : Mo), X7_hasCopies_2 n x0 x1 M = some res → J p l e R s m args below meth c 2 G ρ0 M0 1 res M 2 [(0, (false, x0)), (1, (true, x1))] [] := by
  induction n with
  | zero => intro x0 x1 M h; cases h
  | succ n ih =>
    intro x0 x1 M h
    rw [X7_hasCopies_2] at h
    refine j_iload_n F 1 rfl rfl dX7_hasCopies_2 ?_
    refine j_bipush F (by decide) dX7_hasCopies_3 ?_
    refine j_icmp_ge F 28 (by decide) dX7_hasCopies_5 h (fun h => ?_) (fun h => ?_)
    · skip
      refine j_iconst F dX7_hasCopies_28 ?_
      exact j_zret F (by decide) h dX7_hasCopies_29
    · skip
      refine j_aload_n F 0 rfl rfl dX7_hasCopies_8 ?_
      obtain ⟨g1, h⟩ := gua h
      refine j_get F ft_X7_11 rfl g1 dX7_hasCopies_9 ?_
      refine j_iload_n F 1 rfl rfl dX7_hasCopies_12 ?_
      obtain ⟨g2, h⟩ := gua h
      obtain ⟨g3, h⟩ := gua h
      refine j_aaload F 12 5 g2 (by decide) rfl g3 dX7_hasCopies_13 ?_
      obtain ⟨g7, h⟩ := gua h
      refine j_callV (d' := 0) (argl := []) (rk9 := 1) (st := []) F hno M_X2_isHere q468 q469 q467 ⟨by decide, by decide⟩ (Nat.le_of_ble_eq_true rfl) (by decide) (ci := 3) rfl (by decide) g7 dX7_hasCopies_14 rfl h (fun z hz => c_X2_isHere l F.ht G (el M 12 (fd M 8 3 x0) (wr x1)) M z hz) (fun v4 M5 h kl6 => ?_)
      refine j_st (st' := [(true, v4)]) rfl ?_
      refine j_if_eq F 22 (by decide) dX7_hasCopies_17 h (fun h => ?_) (fun h => ?_)
      · skip
        refine j_iinc F 1 (lv' := [(1, (true, (x1 + 1))), (0, (false, x0))]) rfl (by decide) rfl dX7_hasCopies_22 ?_
        refine j_goto F 2 (by decide) dX7_hasCopies_25 ?_
        refine j_sub (lv' := [(0, (false, x0)), (1, (true, (x1 + 1)))]) [1, 0] rfl ?_
        exact ih x0 (x1 + 1) M5 h
      · skip
        refine j_iconst F dX7_hasCopies_20 ?_
        exact j_zret F (by decide) h dX7_hasCopies_21
set_option maxHeartbeats 4000000 in
set_option maxRecDepth 100000 in
theorem w_X7_hasCopies_0 {p : Program} {l : Launch} {e : Env} {R : Room} {s : State} {m : MethodId} {args : Array Value} {below : List Frame} {meth : Method} {c : Code} {G : Gt} {ρ0 : Int → Nat} {M0 : Mo} {res : RS} (F : Fx p l R s m args meth c cX7_hasCopies 2 RX7 G M0 1 (some FieldType.boolean)) (hno : ∀ x ∈ c.exceptionTable.toList, False) (hnm : meth.name = yX7_hasCopies.name) (x0 : Int) (M : Mo) (h : X7_hasCopies x0 M = some res) : J p l e R s m args below meth c 2 G ρ0 M0 1 res M 0 [(0, (false, x0))] [] := by
  unfold X7_hasCopies at h
  refine j_iconst F dX7_hasCopies_0 ?_
  refine j_istore_n F (lv' := [(1, (true, 0)), (0, (false, x0))]) rfl (by decide) rfl dX7_hasCopies_1 ?_
  refine j_sub (lv' := [(0, (false, x0)), (1, (true, 0))]) [1, 0] rfl ?_
  exact w_X7_hasCopies_2 F hno hnm FU x0 0 M h
theorem c_X7_hasCopies (l : Launch) (hl : l.stackTraces = false) (G : Gt) (x0 : Int) (M : Mo) (z : RS) (h : X7_hasCopies x0 M = some z) : CT l G yX7_hasCopies (cn yX7_hasCopies cX7_hasCopies 2 (some FieldType.boolean)) 1 [(false, x0)] M 1 z :=
  ctOf hl (by decide) (Nat.le_of_ble_eq_true rfl) (fun p e R s m args below meth c ρ F hno hnm => w_X7_hasCopies_0 F hno hnm x0 M h)
theorem dX7_idCell_0 : decode cX7_idCell 0 = .ok (.iload_n 1, 1) := by decide +kernel
theorem dX7_idCell_1 : decode cX7_idCell 1 = .ok (.ifCond .lt 18, 3) := by decide +kernel
theorem dX7_idCell_19 : decode cX7_idCell 19 = .ok (.iconst (-1), 1) := by decide +kernel
theorem dX7_idCell_20 : decode cX7_idCell 20 = .ok (.ireturn, 1) := by decide +kernel
theorem dX7_idCell_4 : decode cX7_idCell 4 = .ok (.iload_n 1, 1) := by decide +kernel
theorem dX7_idCell_5 : decode cX7_idCell 5 = .ok (.iconst 2, 1) := by decide +kernel
theorem dX7_idCell_6 : decode cX7_idCell 6 = .ok (.if_icmp .ge 13, 3) := by decide +kernel
theorem dX7_idCell_9 : decode cX7_idCell 9 = .ok (.iload_n 2, 1) := by decide +kernel
theorem dX7_idCell_10 : decode cX7_idCell 10 = .ok (.ifCond .lt 9, 3) := by decide +kernel
theorem dX7_idCell_13 : decode cX7_idCell 13 = .ok (.iload_n 2, 1) := by decide +kernel
theorem dX7_idCell_14 : decode cX7_idCell 14 = .ok (.bipush 40, 2) := by decide +kernel
theorem dX7_idCell_16 : decode cX7_idCell 16 = .ok (.if_icmp .lt 5, 3) := by decide +kernel
theorem dX7_idCell_21 : decode cX7_idCell 21 = .ok (.iload_n 1, 1) := by decide +kernel
theorem dX7_idCell_22 : decode cX7_idCell 22 = .ok (.bipush 40, 2) := by decide +kernel
theorem dX7_idCell_24 : decode cX7_idCell 24 = .ok (.imul, 1) := by decide +kernel
theorem dX7_idCell_25 : decode cX7_idCell 25 = .ok (.iload_n 2, 1) := by decide +kernel
theorem dX7_idCell_26 : decode cX7_idCell 26 = .ok (.iadd, 1) := by decide +kernel
theorem dX7_idCell_27 : decode cX7_idCell 27 = .ok (.iconst 3, 1) := by decide +kernel
theorem dX7_idCell_28 : decode cX7_idCell 28 = .ok (.imul, 1) := by decide +kernel
theorem dX7_idCell_29 : decode cX7_idCell 29 = .ok (.istore 4, 2) := by decide +kernel
theorem dX7_idCell_31 : decode cX7_idCell 31 = .ok (.iload_n 3, 1) := by decide +kernel
theorem dX7_idCell_32 : decode cX7_idCell 32 = .ok (.ifCond .lt 8, 3) := by decide +kernel
theorem dX7_idCell_40 : decode cX7_idCell 40 = .ok (.iconst (-1), 1) := by decide +kernel
theorem dX7_idCell_41 : decode cX7_idCell 41 = .ok (.goto 7, 3) := by decide +kernel
theorem dX7_idCell_48 : decode cX7_idCell 48 = .ok (.ireturn, 1) := by decide +kernel
theorem dX7_idCell_35 : decode cX7_idCell 35 = .ok (.iload_n 3, 1) := by decide +kernel
theorem dX7_idCell_36 : decode cX7_idCell 36 = .ok (.iconst 3, 1) := by decide +kernel
theorem dX7_idCell_37 : decode cX7_idCell 37 = .ok (.if_icmp .lt 7, 3) := by decide +kernel
theorem dX7_idCell_44 : decode cX7_idCell 44 = .ok (.iload 4, 2) := by decide +kernel
theorem dX7_idCell_46 : decode cX7_idCell 46 = .ok (.iload_n 3, 1) := by decide +kernel
theorem dX7_idCell_47 : decode cX7_idCell 47 = .ok (.iadd, 1) := by decide +kernel
set_option maxHeartbeats 4000000 in
set_option maxRecDepth 100000 in
theorem w_X7_idCell_0 {p : Program} {l : Launch} {e : Env} {R : Room} {s : State} {m : MethodId} {args : Array Value} {below : List Frame} {meth : Method} {c : Code} {G : Gt} {ρ0 : Int → Nat} {M0 : Mo} {res : RS} (F : Fx p l R s m args meth c cX7_idCell 5 RX7 G M0 0 (some FieldType.int)) (hno : ∀ x ∈ c.exceptionTable.toList, False) (hnm : meth.name = yX7_idCell.name) (x0 x1 x2 x3 : Int) (M : Mo) (h : X7_idCell x0 x1 x2 x3 M = some res) : J p l e R s m args below meth c 5 G ρ0 M0 1 res M 0 [(0, (false, x0)), (1, (true, x1)), (2, (true, x2)), (3, (true, x3))] [] := by
  unfold X7_idCell at h
  refine j_iload_n F 1 rfl rfl dX7_idCell_0 ?_
  refine j_if_lt F 19 (by decide) dX7_idCell_1 h (fun h => ?_) (fun h => ?_)
  · skip
    refine j_iconst F dX7_idCell_19 ?_
    exact j_iret F h dX7_idCell_20
  · skip
    refine j_iload_n F 1 rfl rfl dX7_idCell_4 ?_
    refine j_iconst F dX7_idCell_5 ?_
    refine j_icmp_ge F 19 (by decide) dX7_idCell_6 h (fun h => ?_) (fun h => ?_)
    · skip
      refine j_iconst F dX7_idCell_19 ?_
      exact j_iret F h dX7_idCell_20
    · skip
      refine j_iload_n F 2 rfl rfl dX7_idCell_9 ?_
      refine j_if_lt F 19 (by decide) dX7_idCell_10 h (fun h => ?_) (fun h => ?_)
      · skip
        refine j_iconst F dX7_idCell_19 ?_
        exact j_iret F h dX7_idCell_20
      · skip
        refine j_iload_n F 2 rfl rfl dX7_idCell_13 ?_
        refine j_bipush F (by decide) dX7_idCell_14 ?_
        refine j_icmp_lt F 21 (by decide) dX7_idCell_16 h (fun h => ?_) (fun h => ?_)
        · skip
          refine j_iload_n F 1 rfl rfl dX7_idCell_21 ?_
          refine j_bipush F (by decide) dX7_idCell_22 ?_
          refine j_imul F dX7_idCell_24 ?_
          refine j_iload_n F 2 rfl rfl dX7_idCell_25 ?_
          refine j_iadd F dX7_idCell_26 ?_
          refine j_iconst F dX7_idCell_27 ?_
          refine j_imul F dX7_idCell_28 ?_
          refine j_istore F (lv' := [(4, (true, (((x1 * 40) + x2) * 3))), (0, (false, x0)), (1, (true, x1)), (2, (true, x2)), (3, (true, x3))]) (by decide) rfl dX7_idCell_29 ?_
          refine j_iload_n F 4 rfl rfl dX7_idCell_31 ?_
          refine j_if_lt F 40 (by decide) dX7_idCell_32 h (fun h => ?_) (fun h => ?_)
          · skip
            refine j_iconst F dX7_idCell_40 ?_
            refine j_goto F 48 (by decide) dX7_idCell_41 ?_
            exact j_iret F h dX7_idCell_48
          · skip
            refine j_iload_n F 4 rfl rfl dX7_idCell_35 ?_
            refine j_iconst F dX7_idCell_36 ?_
            refine j_icmp_lt F 44 (by decide) dX7_idCell_37 h (fun h => ?_) (fun h => ?_)
            · skip
              refine j_iload F 0 rfl dX7_idCell_44 ?_
              refine j_iload_n F 4 rfl rfl dX7_idCell_46 ?_
              refine j_iadd F dX7_idCell_47 ?_
              exact j_iret F h dX7_idCell_48
            · skip
              refine j_iconst F dX7_idCell_40 ?_
              refine j_goto F 48 (by decide) dX7_idCell_41 ?_
              exact j_iret F h dX7_idCell_48
        · skip
          refine j_iconst F dX7_idCell_19 ?_
          exact j_iret F h dX7_idCell_20
theorem c_X7_idCell (l : Launch) (hl : l.stackTraces = false) (G : Gt) (x0 x1 x2 x3 : Int) (M : Mo) (z : RS) (h : X7_idCell x0 x1 x2 x3 M = some z) : CT l G yX7_idCell (cn yX7_idCell cX7_idCell 5 (some FieldType.int)) 0 [(false, x0), (true, x1), (true, x2), (true, x3)] M 1 z :=
  ctOf hl (by decide) (Nat.le_of_ble_eq_true rfl) (fun p e R s m args below meth c ρ F hno hnm => w_X7_idCell_0 F hno hnm x0 x1 x2 x3 M h)
theorem dX7_idOf_0 : decode cX7_idOf 0 = .ok (.aload_n 0, 1) := by decide +kernel
theorem dX7_idOf_1 : decode cX7_idOf 1 = .ok (.iload_n 1, 1) := by decide +kernel
theorem dX7_idOf_2 : decode cX7_idOf 2 = .ok (.iload_n 2, 1) := by decide +kernel
theorem dX7_idOf_3 : decode cX7_idOf 3 = .ok (.iload_n 3, 1) := by decide +kernel
set_option maxRecDepth 100000 in
theorem q1408 : Cond.code yX7_idCell cX7_idCell 5 (some FieldType.int) ∈ GT := gt 1408 (rfl) (by decide +kernel)
set_option maxRecDepth 100000 in
theorem q63 : Cond.initialized RX7 ∈ GT := gt 63 (by decide +kernel) (by decide +kernel)
theorem M_X7_idCell : MY yX7_idCell cX7_idCell 5 (some FieldType.int) 3 := ⟨q1408, q63, by decide +kernel, by decide +kernel⟩
set_option maxRecDepth 100000 in
theorem q1407 : Cond.instanceMethod yX7_idCell ∈ GT := gt 1407 (by decide +kernel) (by decide +kernel)
set_option maxRecDepth 100000 in
theorem q36 : Cond.selects RX7 yX7_idCell yX7_idCell ∈ GT := gt 36 (by decide +kernel) (by decide +kernel)
set_option maxRecDepth 100000 in
theorem q1405 : Cond.methodLink RX7 75 yX7_idCell ∈ GT := gt 1405 (by decide +kernel) (by decide +kernel)
theorem dX7_idOf_4 : decode cX7_idOf 4 = .ok (.invokevirtual 75, 3) := by decide +kernel
theorem dX7_idOf_7 : decode cX7_idOf 7 = .ok (.istore 4, 2) := by decide +kernel
theorem dX7_idOf_9 : decode cX7_idOf 9 = .ok (.iload 4, 2) := by decide +kernel
theorem dX7_idOf_11 : decode cX7_idOf 11 = .ok (.ifCond .lt 23, 3) := by decide +kernel
theorem dX7_idOf_34 : decode cX7_idOf 34 = .ok (.iconst (-1), 1) := by decide +kernel
theorem dX7_idOf_35 : decode cX7_idOf 35 = .ok (.ireturn, 1) := by decide +kernel
theorem dX7_idOf_14 : decode cX7_idOf 14 = .ok (.iload 4, 2) := by decide +kernel
theorem dX7_idOf_16 : decode cX7_idOf 16 = .ok (.aload_n 0, 1) := by decide +kernel
theorem dX7_idOf_17 : decode cX7_idOf 17 = .ok (.getfield 39, 3) := by decide +kernel
theorem dX7_idOf_20 : decode cX7_idOf 20 = .ok (.arraylength, 1) := by decide +kernel
theorem dX7_idOf_21 : decode cX7_idOf 21 = .ok (.if_icmp .ge 13, 3) := by decide +kernel
theorem dX7_idOf_24 : decode cX7_idOf 24 = .ok (.aload_n 0, 1) := by decide +kernel
theorem dX7_idOf_25 : decode cX7_idOf 25 = .ok (.getfield 39, 3) := by decide +kernel
theorem dX7_idOf_28 : decode cX7_idOf 28 = .ok (.iload 4, 2) := by decide +kernel
theorem dX7_idOf_30 : decode cX7_idOf 30 = .ok (.iaload, 1) := by decide +kernel
theorem dX7_idOf_31 : decode cX7_idOf 31 = .ok (.goto 4, 3) := by decide +kernel
set_option maxHeartbeats 4000000 in
set_option maxRecDepth 100000 in
theorem w_X7_idOf_0 {p : Program} {l : Launch} {e : Env} {R : Room} {s : State} {m : MethodId} {args : Array Value} {below : List Frame} {meth : Method} {c : Code} {G : Gt} {ρ0 : Int → Nat} {M0 : Mo} {res : RS} (F : Fx p l R s m args meth c cX7_idOf 5 RX7 G M0 1 (some FieldType.int)) (hno : ∀ x ∈ c.exceptionTable.toList, False) (hnm : meth.name = yX7_idOf.name) (x0 x1 x2 x3 : Int) (M : Mo) (h : X7_idOf x0 x1 x2 x3 M = some res) : J p l e R s m args below meth c 5 G ρ0 M0 1 res M 0 [(0, (false, x0)), (1, (true, x1)), (2, (true, x2)), (3, (true, x3))] [] := by
  unfold X7_idOf at h
  refine j_aload_n F 0 rfl rfl dX7_idOf_0 ?_
  refine j_iload_n F 1 rfl rfl dX7_idOf_1 ?_
  refine j_iload_n F 2 rfl rfl dX7_idOf_2 ?_
  refine j_iload_n F 3 rfl rfl dX7_idOf_3 ?_
  obtain ⟨g4, h⟩ := gua h
  refine j_callV (d' := 0) (argl := [(true, x1), (true, x2), (true, x3)]) (rk9 := 1) (st := []) F hno M_X7_idCell q1407 q36 q1405 ⟨by decide, by decide⟩ (Nat.le_of_ble_eq_true rfl) (by decide) (ci := 8) rfl (by decide) g4 dX7_idOf_4 rfl h (fun z hz => c_X7_idCell l F.ht G x0 x1 x2 x3 M z hz) (fun v1 M2 h kl3 => ?_)
  refine j_st (st' := [(true, v1)]) rfl ?_
  refine j_istore F (lv' := [(4, (true, v1)), (0, (false, x0)), (1, (true, x1)), (2, (true, x2)), (3, (true, x3))]) (by decide) rfl dX7_idOf_7 ?_
  refine j_iload F 0 rfl dX7_idOf_9 ?_
  refine j_if_lt F 34 (by decide) dX7_idOf_11 h (fun h => ?_) (fun h => ?_)
  · skip
    refine j_iconst F dX7_idOf_34 ?_
    exact j_iret F h dX7_idOf_35
  · skip
    refine j_iload F 0 rfl dX7_idOf_14 ?_
    refine j_aload_n F 1 rfl rfl dX7_idOf_16 ?_
    refine j_get F ft_X7_39 rfl (kl3.is g4) dX7_idOf_17 ?_
    obtain ⟨g5, h⟩ := gua h
    refine j_alen F g5 dX7_idOf_20 ?_
    refine j_icmp_ge F 34 (by decide) dX7_idOf_21 h (fun h => ?_) (fun h => ?_)
    · skip
      refine j_iconst F dX7_idOf_34 ?_
      exact j_iret F h dX7_idOf_35
    · skip
      refine j_aload_n F 1 rfl rfl dX7_idOf_24 ?_
      refine j_get F ft_X7_39 rfl (kl3.is g4) dX7_idOf_25 ?_
      refine j_iload F 0 rfl dX7_idOf_28 ?_
      obtain ⟨g6, h⟩ := gua h
      obtain ⟨g7, h⟩ := gua h
      refine j_iaload F g6 g7 dX7_idOf_30 ?_
      refine j_goto F 35 (by decide) dX7_idOf_31 ?_
      exact j_iret F h dX7_idOf_35
theorem c_X7_idOf (l : Launch) (hl : l.stackTraces = false) (G : Gt) (x0 x1 x2 x3 : Int) (M : Mo) (z : RS) (h : X7_idOf x0 x1 x2 x3 M = some z) : CT l G yX7_idOf (cn yX7_idOf cX7_idOf 5 (some FieldType.int)) 1 [(false, x0), (true, x1), (true, x2), (true, x3)] M 1 z :=
  ctOf hl (by decide) (Nat.le_of_ble_eq_true rfl) (fun p e R s m args below meth c ρ F hno hnm => w_X7_idOf_0 F hno hnm x0 x1 x2 x3 M h)
theorem dX7_channelAt_0 : decode cX7_channelAt 0 = .ok (.iload_n 1, 1) := by decide +kernel
theorem dX7_channelAt_1 : decode cX7_channelAt 1 = .ok (.ifCond .lt 21, 3) := by decide +kernel
theorem dX7_channelAt_22 : decode cX7_channelAt 22 = .ok (.aload_n 0, 1) := by decide +kernel
theorem dX7_channelAt_23 : decode cX7_channelAt 23 = .ok (.getfield 50, 3) := by decide +kernel
theorem dX7_channelAt_26 : decode cX7_channelAt 26 = .ok (.areturn, 1) := by decide +kernel
theorem dX7_channelAt_4 : decode cX7_channelAt 4 = .ok (.iload_n 1, 1) := by decide +kernel
theorem dX7_channelAt_5 : decode cX7_channelAt 5 = .ok (.aload_n 0, 1) := by decide +kernel
theorem dX7_channelAt_6 : decode cX7_channelAt 6 = .ok (.getfield 61, 3) := by decide +kernel
theorem dX7_channelAt_9 : decode cX7_channelAt 9 = .ok (.arraylength, 1) := by decide +kernel
theorem dX7_channelAt_10 : decode cX7_channelAt 10 = .ok (.if_icmp .ge 12, 3) := by decide +kernel
theorem dX7_channelAt_13 : decode cX7_channelAt 13 = .ok (.aload_n 0, 1) := by decide +kernel
theorem dX7_channelAt_14 : decode cX7_channelAt 14 = .ok (.getfield 61, 3) := by decide +kernel
theorem dX7_channelAt_17 : decode cX7_channelAt 17 = .ok (.iload_n 1, 1) := by decide +kernel
theorem dX7_channelAt_18 : decode cX7_channelAt 18 = .ok (.aaload, 1) := by decide +kernel
theorem dX7_channelAt_19 : decode cX7_channelAt 19 = .ok (.goto 7, 3) := by decide +kernel
set_option maxHeartbeats 4000000 in
set_option maxRecDepth 100000 in
theorem w_X7_channelAt_0 {p : Program} {l : Launch} {e : Env} {R : Room} {s : State} {m : MethodId} {args : Array Value} {below : List Frame} {meth : Method} {c : Code} {G : Gt} {ρ0 : Int → Nat} {M0 : Mo} {res : RS} (F : Fx p l R s m args meth c cX7_channelAt 2 RX7 G M0 0 (some (FieldType.object "ToolPlex$Channel"))) (hno : ∀ x ∈ c.exceptionTable.toList, False) (hnm : meth.name = yX7_channelAt.name) (x0 x1 : Int) (M : Mo) (h : X7_channelAt x0 x1 M = some res) : J p l e R s m args below meth c 2 G ρ0 M0 2 res M 0 [(0, (false, x0)), (1, (true, x1))] [] := by
  unfold X7_channelAt at h
  refine j_iload_n F 1 rfl rfl dX7_channelAt_0 ?_
  refine j_if_lt F 22 (by decide) dX7_channelAt_1 h (fun h => ?_) (fun h => ?_)
  · skip
    refine j_aload_n F 0 rfl rfl dX7_channelAt_22 ?_
    obtain ⟨g1, h⟩ := gua h
    refine j_get F ft_X7_50 rfl g1 dX7_channelAt_23 ?_
    exact j_aret F (Or.inl ⟨_, rfl⟩) h dX7_channelAt_26
  · skip
    refine j_iload_n F 1 rfl rfl dX7_channelAt_4 ?_
    refine j_aload_n F 0 rfl rfl dX7_channelAt_5 ?_
    obtain ⟨g2, h⟩ := gua h
    refine j_get F ft_X7_61 rfl g2 dX7_channelAt_6 ?_
    obtain ⟨g3, h⟩ := gua h
    refine j_alen F g3 dX7_channelAt_9 ?_
    refine j_icmp_ge F 22 (by decide) dX7_channelAt_10 h (fun h => ?_) (fun h => ?_)
    · skip
      refine j_aload_n F 0 rfl rfl dX7_channelAt_22 ?_
      refine j_get F ft_X7_50 rfl g2 dX7_channelAt_23 ?_
      exact j_aret F (Or.inl ⟨_, rfl⟩) h dX7_channelAt_26
    · skip
      refine j_aload_n F 0 rfl rfl dX7_channelAt_13 ?_
      refine j_get F ft_X7_61 rfl g2 dX7_channelAt_14 ?_
      refine j_iload_n F 1 rfl rfl dX7_channelAt_17 ?_
      obtain ⟨g4, h⟩ := gua h
      obtain ⟨g5, h⟩ := gua h
      refine j_aaload F 14 7 g4 (by decide) rfl g5 dX7_channelAt_18 ?_
      refine j_goto F 26 (by decide) dX7_channelAt_19 ?_
      exact j_aret F (Or.inl ⟨_, rfl⟩) h dX7_channelAt_26
theorem c_X7_channelAt (l : Launch) (hl : l.stackTraces = false) (G : Gt) (x0 x1 : Int) (M : Mo) (z : RS) (h : X7_channelAt x0 x1 M = some z) : CT l G yX7_channelAt (cn yX7_channelAt cX7_channelAt 2 (some (FieldType.object "ToolPlex$Channel"))) 0 [(false, x0), (true, x1)] M 2 z :=
  ctOf hl (by decide) (Nat.le_of_ble_eq_true rfl) (fun p e R s m args below meth c ρ F hno hnm => w_X7_channelAt_0 F hno hnm x0 x1 M h)
theorem dX7_dropFaults_0 : decode cX7_dropFaults 0 = .ok (.iconst 0, 1) := by decide +kernel
theorem dX7_dropFaults_1 : decode cX7_dropFaults 1 = .ok (.istore_n 2, 1) := by decide +kernel
theorem dX7_dropFaults_2 : decode cX7_dropFaults 2 = .ok (.iload_n 1, 1) := by decide +kernel
theorem dX7_dropFaults_3 : decode cX7_dropFaults 3 = .ok (.ifCond .lt 33, 3) := by decide +kernel
theorem dX7_dropFaults_36 : decode cX7_dropFaults 36 = .ok (.return_, 1) := by decide +kernel
theorem dX7_dropFaults_6 : decode cX7_dropFaults 6 = .ok (.iload_n 1, 1) := by decide +kernel
theorem dX7_dropFaults_7 : decode cX7_dropFaults 7 = .ok (.bipush 6, 2) := by decide +kernel
theorem dX7_dropFaults_9 : decode cX7_dropFaults 9 = .ok (.if_icmp .ge 27, 3) := by decide +kernel
theorem dX7_dropFaults_12 : decode cX7_dropFaults 12 = .ok (.iload_n 2, 1) := by decide +kernel
theorem dX7_dropFaults_13 : decode cX7_dropFaults 13 = .ok (.iconst 3, 1) := by decide +kernel
theorem dX7_dropFaults_14 : decode cX7_dropFaults 14 = .ok (.if_icmp .ge 22, 3) := by decide +kernel
theorem dX7_dropFaults_17 : decode cX7_dropFaults 17 = .ok (.aload_n 0, 1) := by decide +kernel
theorem dX7_dropFaults_18 : decode cX7_dropFaults 18 = .ok (.getfield 28, 3) := by decide +kernel
theorem dX7_dropFaults_21 : decode cX7_dropFaults 21 = .ok (.iload_n 1, 1) := by decide +kernel
theorem dX7_dropFaults_22 : decode cX7_dropFaults 22 = .ok (.iconst 3, 1) := by decide +kernel
theorem dX7_dropFaults_23 : decode cX7_dropFaults 23 = .ok (.imul, 1) := by decide +kernel
theorem dX7_dropFaults_24 : decode cX7_dropFaults 24 = .ok (.iload_n 2, 1) := by decide +kernel
theorem dX7_dropFaults_25 : decode cX7_dropFaults 25 = .ok (.iadd, 1) := by decide +kernel
theorem dX7_dropFaults_26 : decode cX7_dropFaults 26 = .ok (.aaload, 1) := by decide +kernel
set_option maxRecDepth 100000 in
theorem q1271 : Cond.methodLink RX7 140 yX5_clear ∈ GT := gt 1271 (by decide +kernel) (by decide +kernel)
theorem dX7_dropFaults_27 : decode cX7_dropFaults 27 = .ok (.invokevirtual 140, 3) := by decide +kernel
theorem dX7_dropFaults_30 : decode cX7_dropFaults 30 = .ok (.iinc 2 1, 3) := by decide +kernel
theorem dX7_dropFaults_33 : decode cX7_dropFaults 33 = .ok (.goto (-31), 3) := by decide +kernel
set_option maxHeartbeats 4000000 in
set_option maxRecDepth 100000 in
theorem w_X7_dropFaults_2 {p : Program} {l : Launch} {e : Env} {R : Room} {s : State} {m : MethodId} {args : Array Value} {below : List Frame} {meth : Method} {c : Code} {G : Gt} {ρ0 : Int → Nat} {M0 : Mo} {res : RS} (F : Fx p l R s m args meth c cX7_dropFaults 3 RX7 G M0 1 none) (hno : ∀ x ∈ c.exceptionTable.toList, False) (hnm : meth.name = yX7_dropFaults.name) (n : Nat) : ∀ (x0 x1 x2 : Int) (M : Mo), X7_dropFaults_2 n x0 x1 x2 M = some res → J p l e R s m args below meth c 3 G ρ0 M0 0 res M 2 [(0, (false, x0)), (1, (true, x1)), (2, (true, x2))] [] := by
  induction n with
  | zero => intro x0 x1 x2 M h; cases h
  | succ n ih =>
    intro x0 x1 x2 M h
    rw [X7_dropFaults_2] at h
    refine j_iload_n F 1 rfl rfl dX7_dropFaults_2 ?_
    refine j_if_lt F 36 (by decide) dX7_dropFaults_3 h (fun h => ?_) (fun h => ?_)
    · skip
      exact j_vret F (v := 0) h dX7_dropFaults_36
    · skip
      refine j_iload_n F 1 rfl rfl dX7_dropFaults_6 ?_
      refine j_bipush F (by decide) dX7_dropFaults_7 ?_
      refine j_icmp_ge F 36 (by decide) dX7_dropFaults_9 h (fun h => ?_) (fun h => ?_)
      · skip
        exact j_vret F (v := 0) h dX7_dropFaults_36
      · skip
        refine j_iload_n F 2 rfl rfl dX7_dropFaults_12 ?_
        refine j_iconst F dX7_dropFaults_13 ?_
        refine j_icmp_ge F 36 (by decide) dX7_dropFaults_14 h (fun h => ?_) (fun h => ?_)
        · skip
          exact j_vret F (v := 0) h dX7_dropFaults_36
        · skip
          refine j_aload_n F 0 rfl rfl dX7_dropFaults_17 ?_
          obtain ⟨g1, h⟩ := gua h
          refine j_get F ft_X7_28 rfl g1 dX7_dropFaults_18 ?_
          refine j_iload_n F 1 rfl rfl dX7_dropFaults_21 ?_
          refine j_iconst F dX7_dropFaults_22 ?_
          refine j_imul F dX7_dropFaults_23 ?_
          refine j_iload_n F 2 rfl rfl dX7_dropFaults_24 ?_
          refine j_iadd F dX7_dropFaults_25 ?_
          obtain ⟨g2, h⟩ := gua h
          obtain ⟨g3, h⟩ := gua h
          refine j_aaload F 13 6 g2 (by decide) rfl g3 dX7_dropFaults_26 ?_
          obtain ⟨g7, h⟩ := gua h
          refine j_callV (d' := 0) (argl := []) (rk9 := 0) (st := []) F hno M_X5_clear q851 q852 q1271 ⟨by decide, by decide⟩ (Nat.le_of_ble_eq_true rfl) (by decide) (ci := 6) rfl (by decide) g7 dX7_dropFaults_27 rfl h (fun z hz => c_X5_clear l F.ht G (el M 13 (fd M 8 6 x0) (wr ((x1 * 3) + x2))) M z hz) (fun v4 M5 h kl6 => ?_)
          refine j_st (st' := []) rfl ?_
          refine j_iinc F 2 (lv' := [(2, (true, (x2 + 1))), (0, (false, x0)), (1, (true, x1))]) rfl (by decide) rfl dX7_dropFaults_30 ?_
          refine j_goto F 2 (by decide) dX7_dropFaults_33 ?_
          refine j_sub (lv' := [(0, (false, x0)), (1, (true, x1)), (2, (true, (x2 + 1)))]) [1, 2, 0] rfl ?_
          exact ih x0 x1 (x2 + 1) M5 h
set_option maxHeartbeats 4000000 in
set_option maxRecDepth 100000 in
theorem w_X7_dropFaults_0 {p : Program} {l : Launch} {e : Env} {R : Room} {s : State} {m : MethodId} {args : Array Value} {below : List Frame} {meth : Method} {c : Code} {G : Gt} {ρ0 : Int → Nat} {M0 : Mo} {res : RS} (F : Fx p l R s m args meth c cX7_dropFaults 3 RX7 G M0 1 none) (hno : ∀ x ∈ c.exceptionTable.toList, False) (hnm : meth.name = yX7_dropFaults.name) (x0 x1 : Int) (M : Mo) (h : X7_dropFaults x0 x1 M = some res) : J p l e R s m args below meth c 3 G ρ0 M0 0 res M 0 [(0, (false, x0)), (1, (true, x1))] [] := by
  unfold X7_dropFaults at h
  refine j_iconst F dX7_dropFaults_0 ?_
  refine j_istore_n F (lv' := [(2, (true, 0)), (0, (false, x0)), (1, (true, x1))]) rfl (by decide) rfl dX7_dropFaults_1 ?_
  refine j_sub (lv' := [(0, (false, x0)), (1, (true, x1)), (2, (true, 0))]) [1, 2, 0] rfl ?_
  exact w_X7_dropFaults_2 F hno hnm FU x0 x1 0 M h
theorem c_X7_dropFaults (l : Launch) (hl : l.stackTraces = false) (G : Gt) (x0 x1 : Int) (M : Mo) (z : RS) (h : X7_dropFaults x0 x1 M = some z) : CT l G yX7_dropFaults (cn yX7_dropFaults cX7_dropFaults 3 none) 1 [(false, x0), (true, x1)] M 0 z :=
  ctOf hl (by decide) (Nat.le_of_ble_eq_true rfl) (fun p e R s m args below meth c ρ F hno hnm => w_X7_dropFaults_0 F hno hnm x0 x1 M h)
theorem dX7_passOn_0 : decode cX7_passOn 0 = .ok (.aload_n 0, 1) := by decide +kernel
theorem dX7_passOn_1 : decode cX7_passOn 1 = .ok (.getfield 54, 3) := by decide +kernel
theorem dX7_passOn_4 : decode cX7_passOn 4 = .ok (.aload_n 1, 1) := by decide +kernel
set_option maxRecDepth 100000 in
theorem q720 : Cond.fieldLink RX7 101 "ToolPlex$Message" "file" "I" ∈ GT := gt 720 (by decide +kernel) (by decide +kernel)
theorem ft_X7_101 : FT RX7 101 RX6 7 RX6 TX6 17 1 := ⟨rfl, by decide, by decide, q720, Or.inl rfl, inGX6⟩
theorem dX7_passOn_5 : decode cX7_passOn 5 = .ok (.getfield 101, 3) := by decide +kernel
set_option maxRecDepth 100000 in
theorem q1341 : Cond.methodLink RX7 143 yX4_languageOf ∈ GT := gt 1341 (by decide +kernel) (by decide +kernel)
theorem dX7_passOn_8 : decode cX7_passOn 8 = .ok (.invokevirtual 143, 3) := by decide +kernel
theorem dX7_passOn_11 : decode cX7_passOn 11 = .ok (.istore_n 2, 1) := by decide +kernel
theorem dX7_passOn_12 : decode cX7_passOn 12 = .ok (.iconst 0, 1) := by decide +kernel
theorem dX7_passOn_13 : decode cX7_passOn 13 = .ok (.istore_n 3, 1) := by decide +kernel
theorem dX7_passOn_14 : decode cX7_passOn 14 = .ok (.iload_n 3, 1) := by decide +kernel
theorem dX7_passOn_15 : decode cX7_passOn 15 = .ok (.aload_n 0, 1) := by decide +kernel
theorem dX7_passOn_16 : decode cX7_passOn 16 = .ok (.getfield 58, 3) := by decide +kernel
set_option maxRecDepth 100000 in
theorem q1246 : Cond.methodLink RX7 149 yJx4a65c_size_8abf5 ∈ GT := gt 1246 (by decide +kernel) (by decide +kernel)
theorem dX7_passOn_19 : decode cX7_passOn 19 = .ok (.invokevirtual 149, 3) := by decide +kernel
theorem dX7_passOn_22 : decode cX7_passOn 22 = .ok (.if_icmp .ge 50, 3) := by decide +kernel
theorem dX7_passOn_72 : decode cX7_passOn 72 = .ok (.return_, 1) := by decide +kernel
theorem dX7_passOn_25 : decode cX7_passOn 25 = .ok (.aload_n 0, 1) := by decide +kernel
theorem dX7_passOn_26 : decode cX7_passOn 26 = .ok (.getfield 58, 3) := by decide +kernel
theorem dX7_passOn_29 : decode cX7_passOn 29 = .ok (.iload_n 3, 1) := by decide +kernel
set_option maxRecDepth 100000 in
theorem q1247 : Cond.methodLink RX7 153 yJx4a65c_get_915e3 ∈ GT := gt 1247 (by decide +kernel) (by decide +kernel)
theorem dX7_passOn_30 : decode cX7_passOn 30 = .ok (.invokevirtual 153, 3) := by decide +kernel
set_option maxRecDepth 100000 in
theorem q1431 : Cond.classLink RX7 157 RX9 ∈ GT := gt 1431 (by decide +kernel) (by decide +kernel)
theorem dX7_passOn_33 : decode cX7_passOn 33 = .ok (.checkcast 157, 3) := by decide +kernel
theorem dX7_passOn_36 : decode cX7_passOn 36 = .ok (.astore 4, 2) := by decide +kernel
theorem dX7_passOn_38 : decode cX7_passOn 38 = .ok (.aload 4, 2) := by decide +kernel
set_option maxRecDepth 100000 in
theorem q493 : Cond.fieldLink RX7 159 "ToolPlex$Server" "up" "Z" ∈ GT := gt 493 (by decide +kernel) (by decide +kernel)
theorem ft_X7_159 : FT RX7 159 RX9 10 RX9 TX9 9 8 := ⟨rfl, by decide, by decide, q493, Or.inl rfl, inGX9⟩
theorem dX7_passOn_40 : decode cX7_passOn 40 = .ok (.getfield 159, 3) := by decide +kernel
theorem dX7_passOn_43 : decode cX7_passOn 43 = .ok (.ifCond .eq 23, 3) := by decide +kernel
theorem dX7_passOn_46 : decode cX7_passOn 46 = .ok (.aload 4, 2) := by decide +kernel
theorem dX7_passOn_48 : decode cX7_passOn 48 = .ok (.iload_n 2, 1) := by decide +kernel
set_option maxRecDepth 100000 in
theorem q1345 : Cond.code yX9_speaks cX9_speaks 2 (some FieldType.boolean) ∈ GT := gt 1345 (rfl) (by decide +kernel)
theorem M_X9_speaks : MY yX9_speaks cX9_speaks 2 (some FieldType.boolean) 1 := ⟨q1345, q72, by decide +kernel, by decide +kernel⟩
set_option maxRecDepth 100000 in
theorem q1343 : Cond.instanceMethod yX9_speaks ∈ GT := gt 1343 (by decide +kernel) (by decide +kernel)
set_option maxRecDepth 100000 in
theorem q1344 : Cond.selects RX9 yX9_speaks yX9_speaks ∈ GT := gt 1344 (by decide +kernel) (by decide +kernel)
set_option maxRecDepth 100000 in
theorem q1342 : Cond.methodLink RX7 163 yX9_speaks ∈ GT := gt 1342 (by decide +kernel) (by decide +kernel)
theorem dX7_passOn_49 : decode cX7_passOn 49 = .ok (.invokevirtual 163, 3) := by decide +kernel
theorem dX7_passOn_52 : decode cX7_passOn 52 = .ok (.ifCond .eq 14, 3) := by decide +kernel
theorem dX7_passOn_55 : decode cX7_passOn 55 = .ok (.aload_n 0, 1) := by decide +kernel
theorem dX7_passOn_56 : decode cX7_passOn 56 = .ok (.iconst 2, 1) := by decide +kernel
theorem dX7_passOn_57 : decode cX7_passOn 57 = .ok (.iload_n 3, 1) := by decide +kernel
theorem dX7_passOn_58 : decode cX7_passOn 58 = .ok (.iadd, 1) := by decide +kernel
set_option maxRecDepth 100000 in
theorem q1327 : Cond.code yX7_channelAt cX7_channelAt 2 (some (FieldType.object "ToolPlex$Channel")) ∈ GT := gt 1327 (rfl) (by decide +kernel)
theorem M_X7_channelAt : MY yX7_channelAt cX7_channelAt 2 (some (FieldType.object "ToolPlex$Channel")) 1 := ⟨q1327, q63, by decide +kernel, by decide +kernel⟩
set_option maxRecDepth 100000 in
theorem q1326 : Cond.instanceMethod yX7_channelAt ∈ GT := gt 1326 (by decide +kernel) (by decide +kernel)
set_option maxRecDepth 100000 in
theorem q30 : Cond.selects RX7 yX7_channelAt yX7_channelAt ∈ GT := gt 30 (by decide +kernel) (by decide +kernel)
set_option maxRecDepth 100000 in
theorem q1324 : Cond.methodLink RX7 167 yX7_channelAt ∈ GT := gt 1324 (by decide +kernel) (by decide +kernel)
theorem dX7_passOn_59 : decode cX7_passOn 59 = .ok (.invokevirtual 167, 3) := by decide +kernel
theorem dX7_passOn_62 : decode cX7_passOn 62 = .ok (.aload_n 1, 1) := by decide +kernel
set_option maxRecDepth 100000 in
theorem q1328 : Cond.methodLink RX7 171 yX1_send ∈ GT := gt 1328 (by decide +kernel) (by decide +kernel)
theorem dX7_passOn_63 : decode cX7_passOn 63 = .ok (.invokevirtual 171, 3) := by decide +kernel
theorem dX7_passOn_66 : decode cX7_passOn 66 = .ok (.iinc 3 1, 3) := by decide +kernel
theorem dX7_passOn_69 : decode cX7_passOn 69 = .ok (.goto (-55), 3) := by decide +kernel
set_option maxHeartbeats 4000000 in
set_option maxRecDepth 100000 in
theorem w_X7_passOn_66 {p : Program} {l : Launch} {e : Env} {R : Room} {s : State} {m : MethodId} {args : Array Value} {below : List Frame} {meth : Method} {c : Code} {G : Gt} {ρ0 : Int → Nat} {M0 : Mo} {res : RS} (F : Fx p l R s m args meth c cX7_passOn 5 RX7 G M0 8 none) (hno : ∀ x ∈ c.exceptionTable.toList, False) (hnm : meth.name = yX7_passOn.name) (k14 : Int → Int → Int → Int → Mo → Option RS) (hk14 : ∀ (x0 x1 x2 x3 : Int) (M : Mo), k14 x0 x1 x2 x3 M = some res → J p l e R s m args below meth c 5 G ρ0 M0 0 res M 14 [(0, (false, x0)), (1, (false, x1)), (2, (true, x2)), (3, (true, x3))] []) (x0 x1 x2 x3 : Int) (M : Mo) (h : X7_passOn_66 k14 x0 x1 x2 x3 M = some res) : J p l e R s m args below meth c 5 G ρ0 M0 0 res M 66 [(0, (false, x0)), (1, (false, x1)), (2, (true, x2)), (3, (true, x3))] [] := by
  unfold X7_passOn_66 at h
  refine j_iinc F 3 (lv' := [(3, (true, (x3 + 1))), (0, (false, x0)), (1, (false, x1)), (2, (true, x2))]) rfl (by decide) rfl dX7_passOn_66 ?_
  refine j_goto F 14 (by decide) dX7_passOn_69 ?_
  refine j_sub (lv' := [(0, (false, x0)), (1, (false, x1)), (2, (true, x2)), (3, (true, (x3 + 1)))]) [1, 2, 3, 0] rfl ?_
  exact hk14 x0 x1 x2 (x3 + 1) M h
set_option maxHeartbeats 4000000 in
set_option maxRecDepth 100000 in
theorem w_X7_passOn_14 {p : Program} {l : Launch} {e : Env} {R : Room} {s : State} {m : MethodId} {args : Array Value} {below : List Frame} {meth : Method} {c : Code} {G : Gt} {ρ0 : Int → Nat} {M0 : Mo} {res : RS} (F : Fx p l R s m args meth c cX7_passOn 5 RX7 G M0 8 none) (hno : ∀ x ∈ c.exceptionTable.toList, False) (hnm : meth.name = yX7_passOn.name) (n : Nat) : ∀ (x0 x1 x2 x3 : Int) (M : Mo), X7_passOn_14 n x0 x1 x2 x3 M = some res → J p l e R s m args below meth c 5 G ρ0 M0 0 res M 14 [(0, (false, x0)), (1, (false, x1)), (2, (true, x2)), (3, (true, x3))] [] := by
  induction n with
  | zero => intro x0 x1 x2 x3 M h; cases h
  | succ n ih =>
    intro x0 x1 x2 x3 M h
    rw [X7_passOn_14] at h
    refine j_iload_n F 3 rfl rfl dX7_passOn_14 ?_
    refine j_aload_n F 0 rfl rfl dX7_passOn_15 ?_
    obtain ⟨g1, h⟩ := gua h
    refine j_get F ft_X7_58 rfl g1 dX7_passOn_16 ?_
    obtain ⟨g5, h⟩ := gua h
    refine j_callV (d' := 0) (argl := []) (rk9 := 1) (st := [(true, x3)]) F hno M_Jx4a65c_size_8abf5 q448 q449 q1246 ⟨by decide, by decide⟩ (Nat.le_of_ble_eq_true rfl) (by decide) (ci := 0) rfl (by decide) g5 dX7_passOn_19 rfl h (fun z hz => c_Jx4a65c_size_8abf5 l F.ht G (fd M 8 1 x0) M z hz) (fun v2 M3 h kl4 => ?_)
    refine j_st (st' := [(true, v2), (true, x3)]) rfl ?_
    refine j_icmp_ge F 72 (by decide) dX7_passOn_22 h (fun h => ?_) (fun h => ?_)
    · skip
      exact j_vret F (v := 0) h dX7_passOn_72
    · skip
      refine j_aload_n F 0 rfl rfl dX7_passOn_25 ?_
      refine j_get F ft_X7_58 rfl (kl4.is g1) dX7_passOn_26 ?_
      refine j_iload_n F 3 rfl rfl dX7_passOn_29 ?_
      obtain ⟨g9, h⟩ := gua h
      refine j_callV (d' := 2) (argl := [(true, x3)]) (rk9 := 2) (st := []) F hno M_Jx4a65c_get_915e3 q856 q857 q1247 ⟨by decide, by decide⟩ (Nat.le_of_ble_eq_true rfl) (by decide) (ci := 0) rfl (by decide) g9 dX7_passOn_30 rfl h (fun z hz => c_Jx4a65c_get_915e3 l F.ht G (fd M3 8 1 x0) x3 M3 z hz) (fun v6 M7 h kl8 => ?_)
      refine j_st (st' := [(false, v6)]) rfl ?_
      obtain ⟨g10, h⟩ := gua h
      refine j_cast F q1431 rfl (by decide) g10 dX7_passOn_33 ?_
      refine j_astore F (lv' := [(4, (false, v6)), (0, (false, x0)), (1, (false, x1)), (2, (true, x2)), (3, (true, x3))]) (by decide) rfl dX7_passOn_36 ?_
      refine j_aload F 0 rfl dX7_passOn_38 ?_
      obtain ⟨g11, h⟩ := gua h
      refine j_get F ft_X7_159 rfl g11 dX7_passOn_40 ?_
      refine j_if_eq F 66 (by decide) dX7_passOn_43 h (fun h => ?_) (fun h => ?_)
      · skip
        refine j_sub (lv' := [(0, (false, x0)), (1, (false, x1)), (2, (true, x2)), (3, (true, x3))]) [1, 2, 3, 4] rfl ?_
        exact w_X7_passOn_66 F hno hnm (X7_passOn_14 n) ih x0 x1 x2 x3 M7 h
      · skip
        refine j_aload F 0 rfl dX7_passOn_46 ?_
        refine j_iload_n F 3 rfl rfl dX7_passOn_48 ?_
        refine j_callV (d' := 0) (argl := [(true, x2)]) (rk9 := 1) (st := []) F hno M_X9_speaks q1343 q1344 q1342 ⟨by decide, by decide⟩ (Nat.le_of_ble_eq_true rfl) (by decide) (ci := 10) rfl (by decide) g11 dX7_passOn_49 rfl h (fun z hz => c_X9_speaks l F.ht G v6 x2 M7 z hz) (fun v12 M13 h kl14 => ?_)
        refine j_st (st' := [(true, v12)]) rfl ?_
        refine j_if_eq F 66 (by decide) dX7_passOn_52 h (fun h => ?_) (fun h => ?_)
        · skip
          refine j_sub (lv' := [(0, (false, x0)), (1, (false, x1)), (2, (true, x2)), (3, (true, x3))]) [1, 2, 3, 4] rfl ?_
          exact w_X7_passOn_66 F hno hnm (X7_passOn_14 n) ih x0 x1 x2 x3 M13 h
        · skip
          refine j_aload_n F 1 rfl rfl dX7_passOn_55 ?_
          refine j_iconst F dX7_passOn_56 ?_
          refine j_iload_n F 4 rfl rfl dX7_passOn_57 ?_
          refine j_iadd F dX7_passOn_58 ?_
          refine j_callV (d' := 0) (argl := [(true, (2 + x3))]) (rk9 := 2) (st := []) F hno M_X7_channelAt q1326 q30 q1324 ⟨by decide, by decide⟩ (Nat.le_of_ble_eq_true rfl) (by decide) (ci := 8) rfl (by decide) (kl14.is (kl8.is (kl4.is g1))) dX7_passOn_59 rfl h (fun z hz => c_X7_channelAt l F.ht G x0 (2 + x3) M13 z hz) (fun v15 M16 h kl17 => ?_)
          refine j_st (st' := [(false, v15)]) rfl ?_
          refine j_aload_n F 2 rfl rfl dX7_passOn_62 ?_
          obtain ⟨g21, h⟩ := gua h
          refine j_callV (d' := 7) (argl := [(false, x1)]) (rk9 := 0) (st := []) F hno M_X1_send q820 q821 q1328 ⟨by decide, by decide⟩ (Nat.le_of_ble_eq_true rfl) (by decide) (ci := 2) rfl (by decide) g21 dX7_passOn_63 rfl h (fun z hz => c_X1_send l F.ht G v15 x1 M16 z hz) (fun v18 M19 h kl20 => ?_)
          refine j_st (st' := []) rfl ?_
          refine j_sub (lv' := [(0, (false, x0)), (1, (false, x1)), (2, (true, x2)), (3, (true, x3))]) [1, 2, 3, 4] rfl ?_
          exact w_X7_passOn_66 F hno hnm (X7_passOn_14 n) ih x0 x1 x2 x3 M19 h
set_option maxHeartbeats 4000000 in
set_option maxRecDepth 100000 in
theorem w_X7_passOn_0 {p : Program} {l : Launch} {e : Env} {R : Room} {s : State} {m : MethodId} {args : Array Value} {below : List Frame} {meth : Method} {c : Code} {G : Gt} {ρ0 : Int → Nat} {M0 : Mo} {res : RS} (F : Fx p l R s m args meth c cX7_passOn 5 RX7 G M0 8 none) (hno : ∀ x ∈ c.exceptionTable.toList, False) (hnm : meth.name = yX7_passOn.name) (x0 x1 : Int) (M : Mo) (h : X7_passOn x0 x1 M = some res) : J p l e R s m args below meth c 5 G ρ0 M0 0 res M 0 [(0, (false, x0)), (1, (false, x1))] [] := by
  unfold X7_passOn at h
  refine j_aload_n F 0 rfl rfl dX7_passOn_0 ?_
  obtain ⟨g1, h⟩ := gua h
  refine j_get F ft_X7_54 rfl g1 dX7_passOn_1 ?_
  refine j_aload_n F 1 rfl rfl dX7_passOn_4 ?_
  obtain ⟨g2, h⟩ := gua h
  refine j_get F ft_X7_101 rfl g2 dX7_passOn_5 ?_
  obtain ⟨g6, h⟩ := gua h
  refine j_callV (d' := 1) (argl := [(true, (fd M 7 1 x1))]) (rk9 := 1) (st := []) F hno M_X4_languageOf q1073 q1074 q1341 ⟨by decide, by decide⟩ (Nat.le_of_ble_eq_true rfl) (by decide) (ci := 5) rfl (by decide) g6 dX7_passOn_8 rfl h (fun z hz => c_X4_languageOf l F.ht G (fd M 8 0 x0) (fd M 7 1 x1) M z hz) (fun v3 M4 h kl5 => ?_)
  refine j_st (st' := [(true, v3)]) rfl ?_
  refine j_istore_n F (lv' := [(2, (true, v3)), (0, (false, x0)), (1, (false, x1))]) rfl (by decide) rfl dX7_passOn_11 ?_
  refine j_iconst F dX7_passOn_12 ?_
  refine j_istore_n F (lv' := [(3, (true, 0)), (2, (true, v3)), (0, (false, x0)), (1, (false, x1))]) rfl (by decide) rfl dX7_passOn_13 ?_
  refine j_sub (lv' := [(0, (false, x0)), (1, (false, x1)), (2, (true, v3)), (3, (true, 0))]) [2, 3, 1, 0] rfl ?_
  exact w_X7_passOn_14 F hno hnm FU x0 x1 v3 0 M4 h
theorem c_X7_passOn (l : Launch) (hl : l.stackTraces = false) (G : Gt) (x0 x1 : Int) (M : Mo) (z : RS) (h : X7_passOn x0 x1 M = some z) : CT l G yX7_passOn (cn yX7_passOn cX7_passOn 5 none) 8 [(false, x0), (false, x1)] M 0 z :=
  ctOf hl (by decide) (Nat.le_of_ble_eq_true rfl) (fun p e R s m args below meth c ρ F hno hnm => w_X7_passOn_0 F hno hnm x0 x1 M h)
theorem dX7_takeOpen_0 : decode cX7_takeOpen 0 = .ok (.aload_n 1, 1) := by decide +kernel
theorem dX7_takeOpen_1 : decode cX7_takeOpen 1 = .ok (.getfield 101, 3) := by decide +kernel
theorem dX7_takeOpen_4 : decode cX7_takeOpen 4 = .ok (.istore_n 2, 1) := by decide +kernel
theorem dX7_takeOpen_5 : decode cX7_takeOpen 5 = .ok (.iload_n 2, 1) := by decide +kernel
theorem dX7_takeOpen_6 : decode cX7_takeOpen 6 = .ok (.ifCond .lt 29, 3) := by decide +kernel
theorem dX7_takeOpen_35 : decode cX7_takeOpen 35 = .ok (.return_, 1) := by decide +kernel
theorem dX7_takeOpen_9 : decode cX7_takeOpen 9 = .ok (.iload_n 2, 1) := by decide +kernel
theorem dX7_takeOpen_10 : decode cX7_takeOpen 10 = .ok (.bipush 6, 2) := by decide +kernel
theorem dX7_takeOpen_12 : decode cX7_takeOpen 12 = .ok (.if_icmp .ge 23, 3) := by decide +kernel
theorem dX7_takeOpen_15 : decode cX7_takeOpen 15 = .ok (.aload_n 1, 1) := by decide +kernel
set_option maxRecDepth 100000 in
theorem q737 : Cond.fieldLink RX7 104 "ToolPlex$Message" "version" "I" ∈ GT := gt 737 (by decide +kernel) (by decide +kernel)
theorem ft_X7_104 : FT RX7 104 RX6 7 RX6 TX6 17 5 := ⟨rfl, by decide, by decide, q737, Or.inl rfl, inGX6⟩
theorem dX7_takeOpen_16 : decode cX7_takeOpen 16 = .ok (.getfield 104, 3) := by decide +kernel
theorem dX7_takeOpen_19 : decode cX7_takeOpen 19 = .ok (.aload_n 0, 1) := by decide +kernel
theorem dX7_takeOpen_20 : decode cX7_takeOpen 20 = .ok (.getfield 22, 3) := by decide +kernel
theorem dX7_takeOpen_23 : decode cX7_takeOpen 23 = .ok (.iload_n 2, 1) := by decide +kernel
theorem dX7_takeOpen_24 : decode cX7_takeOpen 24 = .ok (.iaload, 1) := by decide +kernel
theorem dX7_takeOpen_25 : decode cX7_takeOpen 25 = .ok (.if_icmp .le 10, 3) := by decide +kernel
theorem dX7_takeOpen_28 : decode cX7_takeOpen 28 = .ok (.aload_n 1, 1) := by decide +kernel
set_option maxRecDepth 100000 in
theorem q768 : Cond.fieldLink RX7 107 "ToolPlex$Message" "text" "LToolPlex$Text;" ∈ GT := gt 768 (by decide +kernel) (by decide +kernel)
theorem ft_X7_107 : FT RX7 107 RX6 7 RX6 TX6 17 14 := ⟨rfl, by decide, by decide, q768, Or.inl rfl, inGX6⟩
theorem dX7_takeOpen_29 : decode cX7_takeOpen 29 = .ok (.getfield 107, 3) := by decide +kernel
theorem dX7_takeOpen_32 : decode cX7_takeOpen 32 = .ok (.ifnonnull 4, 3) := by decide +kernel
theorem dX7_takeOpen_36 : decode cX7_takeOpen 36 = .ok (.aload_n 0, 1) := by decide +kernel
theorem dX7_takeOpen_37 : decode cX7_takeOpen 37 = .ok (.getfield 22, 3) := by decide +kernel
theorem dX7_takeOpen_40 : decode cX7_takeOpen 40 = .ok (.iload_n 2, 1) := by decide +kernel
theorem dX7_takeOpen_41 : decode cX7_takeOpen 41 = .ok (.aload_n 1, 1) := by decide +kernel
theorem dX7_takeOpen_42 : decode cX7_takeOpen 42 = .ok (.getfield 104, 3) := by decide +kernel
theorem dX7_takeOpen_45 : decode cX7_takeOpen 45 = .ok (.iastore, 1) := by decide +kernel
theorem dX7_takeOpen_46 : decode cX7_takeOpen 46 = .ok (.aload_n 0, 1) := by decide +kernel
theorem dX7_takeOpen_47 : decode cX7_takeOpen 47 = .ok (.getfield 11, 3) := by decide +kernel
theorem dX7_takeOpen_50 : decode cX7_takeOpen 50 = .ok (.iload_n 2, 1) := by decide +kernel
theorem dX7_takeOpen_51 : decode cX7_takeOpen 51 = .ok (.aaload, 1) := by decide +kernel
theorem dX7_takeOpen_52 : decode cX7_takeOpen 52 = .ok (.aload_n 1, 1) := by decide +kernel
theorem dX7_takeOpen_53 : decode cX7_takeOpen 53 = .ok (.getfield 104, 3) := by decide +kernel
theorem dX7_takeOpen_56 : decode cX7_takeOpen 56 = .ok (.aload_n 1, 1) := by decide +kernel
theorem dX7_takeOpen_57 : decode cX7_takeOpen 57 = .ok (.getfield 107, 3) := by decide +kernel
theorem dX7_takeOpen_60 : decode cX7_takeOpen 60 = .ok (.aload_n 1, 1) := by decide +kernel
set_option maxRecDepth 100000 in
theorem q725 : Cond.fieldLink RX7 111 "ToolPlex$Message" "editor" "I" ∈ GT := gt 725 (by decide +kernel) (by decide +kernel)
theorem ft_X7_111 : FT RX7 111 RX6 7 RX6 TX6 17 2 := ⟨rfl, by decide, by decide, q725, Or.inl rfl, inGX6⟩
theorem dX7_takeOpen_61 : decode cX7_takeOpen 61 = .ok (.getfield 111, 3) := by decide +kernel
set_option maxRecDepth 100000 in
theorem q1422 : Cond.methodLink RX7 114 yX2_begin ∈ GT := gt 1422 (by decide +kernel) (by decide +kernel)
theorem dX7_takeOpen_64 : decode cX7_takeOpen 64 = .ok (.invokevirtual 114, 3) := by decide +kernel
theorem dX7_takeOpen_67 : decode cX7_takeOpen 67 = .ok (.aload_n 0, 1) := by decide +kernel
theorem dX7_takeOpen_68 : decode cX7_takeOpen 68 = .ok (.iload_n 2, 1) := by decide +kernel
set_option maxRecDepth 100000 in
theorem q1426 : Cond.code yX7_dropFaults cX7_dropFaults 3 none ∈ GT := gt 1426 (rfl) (by decide +kernel)
theorem M_X7_dropFaults : MY yX7_dropFaults cX7_dropFaults 3 none 1 := ⟨q1426, q63, by decide +kernel, by decide +kernel⟩
set_option maxRecDepth 100000 in
theorem q1425 : Cond.instanceMethod yX7_dropFaults ∈ GT := gt 1425 (by decide +kernel) (by decide +kernel)
set_option maxRecDepth 100000 in
theorem q38 : Cond.selects RX7 yX7_dropFaults yX7_dropFaults ∈ GT := gt 38 (by decide +kernel) (by decide +kernel)
set_option maxRecDepth 100000 in
theorem q1423 : Cond.methodLink RX7 118 yX7_dropFaults ∈ GT := gt 1423 (by decide +kernel) (by decide +kernel)
theorem dX7_takeOpen_69 : decode cX7_takeOpen 69 = .ok (.invokevirtual 118, 3) := by decide +kernel
theorem dX7_takeOpen_72 : decode cX7_takeOpen 72 = .ok (.aload_n 0, 1) := by decide +kernel
theorem dX7_takeOpen_73 : decode cX7_takeOpen 73 = .ok (.aload_n 1, 1) := by decide +kernel
set_option maxRecDepth 100000 in
theorem q1430 : Cond.code yX7_passOn cX7_passOn 5 none ∈ GT := gt 1430 (rfl) (by decide +kernel)
theorem M_X7_passOn : MY yX7_passOn cX7_passOn 5 none 1 := ⟨q1430, q63, by decide +kernel, by decide +kernel⟩
set_option maxRecDepth 100000 in
theorem q1429 : Cond.instanceMethod yX7_passOn ∈ GT := gt 1429 (by decide +kernel) (by decide +kernel)
set_option maxRecDepth 100000 in
theorem q39 : Cond.selects RX7 yX7_passOn yX7_passOn ∈ GT := gt 39 (by decide +kernel) (by decide +kernel)
set_option maxRecDepth 100000 in
theorem q1427 : Cond.methodLink RX7 122 yX7_passOn ∈ GT := gt 1427 (by decide +kernel) (by decide +kernel)
theorem dX7_takeOpen_74 : decode cX7_takeOpen 74 = .ok (.invokevirtual 122, 3) := by decide +kernel
theorem dX7_takeOpen_77 : decode cX7_takeOpen 77 = .ok (.return_, 1) := by decide +kernel
set_option maxHeartbeats 4000000 in
set_option maxRecDepth 100000 in
theorem w_X7_takeOpen_0 {p : Program} {l : Launch} {e : Env} {R : Room} {s : State} {m : MethodId} {args : Array Value} {below : List Frame} {meth : Method} {c : Code} {G : Gt} {ρ0 : Int → Nat} {M0 : Mo} {res : RS} (F : Fx p l R s m args meth c cX7_takeOpen 3 RX7 G M0 9 none) (hno : ∀ x ∈ c.exceptionTable.toList, False) (hnm : meth.name = yX7_takeOpen.name) (x0 x1 : Int) (M : Mo) (h : X7_takeOpen x0 x1 M = some res) : J p l e R s m args below meth c 3 G ρ0 M0 0 res M 0 [(0, (false, x0)), (1, (false, x1))] [] := by
  unfold X7_takeOpen at h
  refine j_aload_n F 1 rfl rfl dX7_takeOpen_0 ?_
  obtain ⟨g1, h⟩ := gua h
  refine j_get F ft_X7_101 rfl g1 dX7_takeOpen_1 ?_
  refine j_istore_n F (lv' := [(2, (true, (fd M 7 1 x1))), (0, (false, x0)), (1, (false, x1))]) rfl (by decide) rfl dX7_takeOpen_4 ?_
  refine j_iload_n F 0 rfl rfl dX7_takeOpen_5 ?_
  refine j_if_lt F 35 (by decide) dX7_takeOpen_6 h (fun h => ?_) (fun h => ?_)
  · skip
    exact j_vret F (v := 0) h dX7_takeOpen_35
  · skip
    refine j_iload_n F 0 rfl rfl dX7_takeOpen_9 ?_
    refine j_bipush F (by decide) dX7_takeOpen_10 ?_
    refine j_icmp_ge F 35 (by decide) dX7_takeOpen_12 h (fun h => ?_) (fun h => ?_)
    · skip
      exact j_vret F (v := 0) h dX7_takeOpen_35
    · skip
      refine j_aload_n F 2 rfl rfl dX7_takeOpen_15 ?_
      refine j_get F ft_X7_104 rfl g1 dX7_takeOpen_16 ?_
      refine j_aload_n F 1 rfl rfl dX7_takeOpen_19 ?_
      obtain ⟨g2, h⟩ := gua h
      refine j_get F ft_X7_22 rfl g2 dX7_takeOpen_20 ?_
      refine j_iload_n F 0 rfl rfl dX7_takeOpen_23 ?_
      obtain ⟨g3, h⟩ := gua h
      obtain ⟨g4, h⟩ := gua h
      refine j_iaload F g3 g4 dX7_takeOpen_24 ?_
      refine j_icmp_le F 35 (by decide) dX7_takeOpen_25 h (fun h => ?_) (fun h => ?_)
      · skip
        exact j_vret F (v := 0) h dX7_takeOpen_35
      · skip
        refine j_aload_n F 2 rfl rfl dX7_takeOpen_28 ?_
        refine j_get F ft_X7_107 rfl g1 dX7_takeOpen_29 ?_
        refine j_ifnonnull F 36 (by decide) dX7_takeOpen_32 h (fun h => ?_) (fun h => ?_)
        · skip
          refine j_aload_n F 1 rfl rfl dX7_takeOpen_36 ?_
          refine j_get F ft_X7_22 rfl g2 dX7_takeOpen_37 ?_
          refine j_iload_n F 0 rfl rfl dX7_takeOpen_40 ?_
          refine j_aload_n F 2 rfl rfl dX7_takeOpen_41 ?_
          refine j_get F ft_X7_104 rfl g1 dX7_takeOpen_42 ?_
          obtain ⟨g5, h⟩ := gua h
          refine j_iastore F g3 g5 dX7_takeOpen_45 ?_
          obtain ⟨M6, hM6⟩ : ∃ Z, Z = sE M 0 (fd M 8 5 x0) (wr (fd M 7 1 x1)) (fd M 7 5 x1) := ⟨_, rfl⟩
          have kl7 : kle M M6 := by rw [hM6]; exact kle_sE
          rw [← hM6]
          replace h := pt_as h hM6
          refine j_aload_n F 1 rfl rfl dX7_takeOpen_46 ?_
          refine j_get F ft_X7_11 rfl (kl7.is g2) dX7_takeOpen_47 ?_
          refine j_iload_n F 0 rfl rfl dX7_takeOpen_50 ?_
          obtain ⟨g8, h⟩ := gua h
          obtain ⟨g9, h⟩ := gua h
          refine j_aaload F 12 5 g8 (by decide) rfl g9 dX7_takeOpen_51 ?_
          refine j_aload_n F 2 rfl rfl dX7_takeOpen_52 ?_
          refine j_get F ft_X7_104 rfl (kl7.is g1) dX7_takeOpen_53 ?_
          refine j_aload_n F 2 rfl rfl dX7_takeOpen_56 ?_
          refine j_get F ft_X7_107 rfl (kl7.is g1) dX7_takeOpen_57 ?_
          refine j_aload_n F 2 rfl rfl dX7_takeOpen_60 ?_
          refine j_get F ft_X7_111 rfl (kl7.is g1) dX7_takeOpen_61 ?_
          obtain ⟨g13, h⟩ := gua h
          refine j_callV (d' := 3) (argl := [(true, (fd M6 7 5 x1)), (false, (fd M6 7 14 x1)), (true, (fd M6 7 2 x1))]) (rk9 := 0) (st := []) F hno M_X2_begin q694 q695 q1422 ⟨by decide, by decide⟩ (Nat.le_of_ble_eq_true rfl) (by decide) (ci := 3) rfl (by decide) g13 dX7_takeOpen_64 rfl h (fun z hz => c_X2_begin l F.ht G (el M6 12 (fd M6 8 3 x0) (wr (fd M 7 1 x1))) (fd M6 7 5 x1) (fd M6 7 14 x1) (fd M6 7 2 x1) M6 z hz) (fun v10 M11 h kl12 => ?_)
          refine j_st (st' := []) rfl ?_
          refine j_aload_n F 1 rfl rfl dX7_takeOpen_67 ?_
          refine j_iload_n F 0 rfl rfl dX7_takeOpen_68 ?_
          refine j_callV (d' := 1) (argl := [(true, (fd M 7 1 x1))]) (rk9 := 0) (st := []) F hno M_X7_dropFaults q1425 q38 q1423 ⟨by decide, by decide⟩ (Nat.le_of_ble_eq_true rfl) (by decide) (ci := 8) rfl (by decide) (kl12.is (kl7.is g2)) dX7_takeOpen_69 rfl h (fun z hz => c_X7_dropFaults l F.ht G x0 (fd M 7 1 x1) M11 z hz) (fun v14 M15 h kl16 => ?_)
          refine j_st (st' := []) rfl ?_
          refine j_aload_n F 1 rfl rfl dX7_takeOpen_72 ?_
          refine j_aload_n F 2 rfl rfl dX7_takeOpen_73 ?_
          refine j_callV (d' := 8) (argl := [(false, x1)]) (rk9 := 0) (st := []) F hno M_X7_passOn q1429 q39 q1427 ⟨by decide, by decide⟩ (Nat.le_of_ble_eq_true rfl) (by decide) (ci := 8) rfl (by decide) (kl16.is (kl12.is (kl7.is g2))) dX7_takeOpen_74 rfl h (fun z hz => c_X7_passOn l F.ht G x0 x1 M15 z hz) (fun v17 M18 h kl19 => ?_)
          refine j_st (st' := []) rfl ?_
          exact j_vret F (v := 0) h dX7_takeOpen_77
        · skip
          exact j_vret F (v := 0) h dX7_takeOpen_35
theorem c_X7_takeOpen (l : Launch) (hl : l.stackTraces = false) (G : Gt) (x0 x1 : Int) (M : Mo) (z : RS) (h : X7_takeOpen x0 x1 M = some z) : CT l G yX7_takeOpen (cn yX7_takeOpen cX7_takeOpen 3 none) 9 [(false, x0), (false, x1)] M 0 z :=
  ctOf hl (by decide) (Nat.le_of_ble_eq_true rfl) (fun p e R s m args below meth c ρ F hno hnm => w_X7_takeOpen_0 F hno hnm x0 x1 M h)
theorem dX7_takeChange_0 : decode cX7_takeChange 0 = .ok (.aload_n 1, 1) := by decide +kernel
theorem dX7_takeChange_1 : decode cX7_takeChange 1 = .ok (.getfield 101, 3) := by decide +kernel
theorem dX7_takeChange_4 : decode cX7_takeChange 4 = .ok (.istore_n 2, 1) := by decide +kernel
theorem dX7_takeChange_5 : decode cX7_takeChange 5 = .ok (.aload_n 0, 1) := by decide +kernel
theorem dX7_takeChange_6 : decode cX7_takeChange 6 = .ok (.iload_n 2, 1) := by decide +kernel
set_option maxRecDepth 100000 in
theorem q1269 : Cond.code yX7_copyOf cX7_copyOf 2 (some (FieldType.object "ToolPlex$Copy")) ∈ GT := gt 1269 (rfl) (by decide +kernel)
theorem M_X7_copyOf : MY yX7_copyOf cX7_copyOf 2 (some (FieldType.object "ToolPlex$Copy")) 1 := ⟨q1269, q63, by decide +kernel, by decide +kernel⟩
set_option maxRecDepth 100000 in
theorem q1267 : Cond.instanceMethod yX7_copyOf ∈ GT := gt 1267 (by decide +kernel) (by decide +kernel)
set_option maxRecDepth 100000 in
theorem q1268 : Cond.selects RX7 yX7_copyOf yX7_copyOf ∈ GT := gt 1268 (by decide +kernel) (by decide +kernel)
set_option maxRecDepth 100000 in
theorem q1266 : Cond.methodLink RX7 125 yX7_copyOf ∈ GT := gt 1266 (by decide +kernel) (by decide +kernel)
theorem dX7_takeChange_7 : decode cX7_takeChange 7 = .ok (.invokevirtual 125, 3) := by decide +kernel
theorem dX7_takeChange_10 : decode cX7_takeChange 10 = .ok (.astore_n 3, 1) := by decide +kernel
theorem dX7_takeChange_11 : decode cX7_takeChange 11 = .ok (.iload_n 2, 1) := by decide +kernel
theorem dX7_takeChange_12 : decode cX7_takeChange 12 = .ok (.ifCond .lt 29, 3) := by decide +kernel
theorem dX7_takeChange_41 : decode cX7_takeChange 41 = .ok (.return_, 1) := by decide +kernel
theorem dX7_takeChange_15 : decode cX7_takeChange 15 = .ok (.iload_n 2, 1) := by decide +kernel
theorem dX7_takeChange_16 : decode cX7_takeChange 16 = .ok (.bipush 6, 2) := by decide +kernel
theorem dX7_takeChange_18 : decode cX7_takeChange 18 = .ok (.if_icmp .ge 23, 3) := by decide +kernel
theorem dX7_takeChange_21 : decode cX7_takeChange 21 = .ok (.aload_n 3, 1) := by decide +kernel
theorem dX7_takeChange_22 : decode cX7_takeChange 22 = .ok (.invokevirtual 71, 3) := by decide +kernel
theorem dX7_takeChange_25 : decode cX7_takeChange 25 = .ok (.ifCond .eq 16, 3) := by decide +kernel
theorem dX7_takeChange_28 : decode cX7_takeChange 28 = .ok (.aload_n 1, 1) := by decide +kernel
theorem dX7_takeChange_29 : decode cX7_takeChange 29 = .ok (.getfield 104, 3) := by decide +kernel
theorem dX7_takeChange_32 : decode cX7_takeChange 32 = .ok (.aload_n 3, 1) := by decide +kernel
set_option maxRecDepth 100000 in
theorem q201 : Cond.fieldLink RX7 129 "ToolPlex$Copy" "version" "I" ∈ GT := gt 201 (by decide +kernel) (by decide +kernel)
theorem ft_X7_129 : FT RX7 129 RX2 3 RX2 TX2 7 4 := ⟨rfl, by decide, by decide, q201, Or.inl rfl, inGX2⟩
theorem dX7_takeChange_33 : decode cX7_takeChange 33 = .ok (.getfield 129, 3) := by decide +kernel
theorem dX7_takeChange_36 : decode cX7_takeChange 36 = .ok (.iconst 1, 1) := by decide +kernel
theorem dX7_takeChange_37 : decode cX7_takeChange 37 = .ok (.iadd, 1) := by decide +kernel
theorem dX7_takeChange_38 : decode cX7_takeChange 38 = .ok (.if_icmp .eq 4, 3) := by decide +kernel
theorem dX7_takeChange_42 : decode cX7_takeChange 42 = .ok (.aload_n 0, 1) := by decide +kernel
theorem dX7_takeChange_43 : decode cX7_takeChange 43 = .ok (.getfield 22, 3) := by decide +kernel
theorem dX7_takeChange_46 : decode cX7_takeChange 46 = .ok (.iload_n 2, 1) := by decide +kernel
theorem dX7_takeChange_47 : decode cX7_takeChange 47 = .ok (.aload_n 1, 1) := by decide +kernel
theorem dX7_takeChange_48 : decode cX7_takeChange 48 = .ok (.getfield 104, 3) := by decide +kernel
theorem dX7_takeChange_51 : decode cX7_takeChange 51 = .ok (.iastore, 1) := by decide +kernel
theorem dX7_takeChange_52 : decode cX7_takeChange 52 = .ok (.aload_n 3, 1) := by decide +kernel
theorem dX7_takeChange_53 : decode cX7_takeChange 53 = .ok (.aload_n 1, 1) := by decide +kernel
set_option maxRecDepth 100000 in
theorem q1436 : Cond.methodLink RX7 130 yX2_alter ∈ GT := gt 1436 (by decide +kernel) (by decide +kernel)
theorem dX7_takeChange_54 : decode cX7_takeChange 54 = .ok (.invokevirtual 130, 3) := by decide +kernel
theorem dX7_takeChange_57 : decode cX7_takeChange 57 = .ok (.iconst 0, 1) := by decide +kernel
theorem dX7_takeChange_58 : decode cX7_takeChange 58 = .ok (.istore 4, 2) := by decide +kernel
theorem dX7_takeChange_60 : decode cX7_takeChange 60 = .ok (.iload 4, 2) := by decide +kernel
theorem dX7_takeChange_62 : decode cX7_takeChange 62 = .ok (.iconst 3, 1) := by decide +kernel
theorem dX7_takeChange_63 : decode cX7_takeChange 63 = .ok (.if_icmp .ge 24, 3) := by decide +kernel
theorem dX7_takeChange_87 : decode cX7_takeChange 87 = .ok (.aload_n 0, 1) := by decide +kernel
theorem dX7_takeChange_88 : decode cX7_takeChange 88 = .ok (.aload_n 1, 1) := by decide +kernel
theorem dX7_takeChange_89 : decode cX7_takeChange 89 = .ok (.invokevirtual 122, 3) := by decide +kernel
theorem dX7_takeChange_92 : decode cX7_takeChange 92 = .ok (.return_, 1) := by decide +kernel
theorem dX7_takeChange_66 : decode cX7_takeChange 66 = .ok (.aload_n 3, 1) := by decide +kernel
theorem dX7_takeChange_67 : decode cX7_takeChange 67 = .ok (.aload_n 0, 1) := by decide +kernel
theorem dX7_takeChange_68 : decode cX7_takeChange 68 = .ok (.getfield 28, 3) := by decide +kernel
theorem dX7_takeChange_71 : decode cX7_takeChange 71 = .ok (.iload_n 2, 1) := by decide +kernel
theorem dX7_takeChange_72 : decode cX7_takeChange 72 = .ok (.iconst 3, 1) := by decide +kernel
theorem dX7_takeChange_73 : decode cX7_takeChange 73 = .ok (.imul, 1) := by decide +kernel
theorem dX7_takeChange_74 : decode cX7_takeChange 74 = .ok (.iload 4, 2) := by decide +kernel
theorem dX7_takeChange_76 : decode cX7_takeChange 76 = .ok (.iadd, 1) := by decide +kernel
theorem dX7_takeChange_77 : decode cX7_takeChange 77 = .ok (.aaload, 1) := by decide +kernel
set_option maxRecDepth 100000 in
theorem q1437 : Cond.methodLink RX7 133 yX2_moveOn ∈ GT := gt 1437 (by decide +kernel) (by decide +kernel)
theorem dX7_takeChange_78 : decode cX7_takeChange 78 = .ok (.invokevirtual 133, 3) := by decide +kernel
theorem dX7_takeChange_81 : decode cX7_takeChange 81 = .ok (.iinc 4 1, 3) := by decide +kernel
theorem dX7_takeChange_84 : decode cX7_takeChange 84 = .ok (.goto (-24), 3) := by decide +kernel
set_option maxHeartbeats 4000000 in
set_option maxRecDepth 100000 in
theorem w_X7_takeChange_60 {p : Program} {l : Launch} {e : Env} {R : Room} {s : State} {m : MethodId} {args : Array Value} {below : List Frame} {meth : Method} {c : Code} {G : Gt} {ρ0 : Int → Nat} {M0 : Mo} {res : RS} (F : Fx p l R s m args meth c cX7_takeChange 5 RX7 G M0 9 none) (hno : ∀ x ∈ c.exceptionTable.toList, False) (hnm : meth.name = yX7_takeChange.name) (n : Nat) : ∀ (x0 x1 x2 x3 x4 : Int) (M : Mo), X7_takeChange_60 n x0 x1 x2 x3 x4 M = some res → J p l e R s m args below meth c 5 G ρ0 M0 0 res M 60 [(0, (false, x0)), (1, (false, x1)), (2, (true, x2)), (3, (false, x3)), (4, (true, x4))] [] := by
  induction n with
  | zero => intro x0 x1 x2 x3 x4 M h; cases h
  | succ n ih =>
    intro x0 x1 x2 x3 x4 M h
    rw [X7_takeChange_60] at h
    refine j_iload F 4 rfl dX7_takeChange_60 ?_
    refine j_iconst F dX7_takeChange_62 ?_
    refine j_icmp_ge F 87 (by decide) dX7_takeChange_63 h (fun h => ?_) (fun h => ?_)
    · skip
      refine j_aload_n F 0 rfl rfl dX7_takeChange_87 ?_
      refine j_aload_n F 1 rfl rfl dX7_takeChange_88 ?_
      obtain ⟨g4, h⟩ := gua h
      refine j_callV (d' := 8) (argl := [(false, x1)]) (rk9 := 0) (st := []) F hno M_X7_passOn q1429 q39 q1427 ⟨by decide, by decide⟩ (Nat.le_of_ble_eq_true rfl) (by decide) (ci := 8) rfl (by decide) g4 dX7_takeChange_89 rfl h (fun z hz => c_X7_passOn l F.ht G x0 x1 M z hz) (fun v1 M2 h kl3 => ?_)
      refine j_st (st' := []) rfl ?_
      exact j_vret F (v := 0) h dX7_takeChange_92
    · skip
      refine j_aload_n F 3 rfl rfl dX7_takeChange_66 ?_
      refine j_aload_n F 0 rfl rfl dX7_takeChange_67 ?_
      obtain ⟨g5, h⟩ := gua h
      refine j_get F ft_X7_28 rfl g5 dX7_takeChange_68 ?_
      refine j_iload_n F 2 rfl rfl dX7_takeChange_71 ?_
      refine j_iconst F dX7_takeChange_72 ?_
      refine j_imul F dX7_takeChange_73 ?_
      refine j_iload F 4 rfl dX7_takeChange_74 ?_
      refine j_iadd F dX7_takeChange_76 ?_
      obtain ⟨g6, h⟩ := gua h
      obtain ⟨g7, h⟩ := gua h
      refine j_aaload F 13 6 g6 (by decide) rfl g7 dX7_takeChange_77 ?_
      obtain ⟨g11, h⟩ := gua h
      refine j_callV (d' := 2) (argl := [(false, (el M 13 (fd M 8 6 x0) (wr ((x2 * 3) + x4))))]) (rk9 := 0) (st := []) F hno M_X2_moveOn q931 q932 q1437 ⟨by decide, by decide⟩ (Nat.le_of_ble_eq_true rfl) (by decide) (ci := 3) rfl (by decide) g11 dX7_takeChange_78 rfl h (fun z hz => c_X2_moveOn l F.ht G x3 (el M 13 (fd M 8 6 x0) (wr ((x2 * 3) + x4))) M z hz) (fun v8 M9 h kl10 => ?_)
      refine j_st (st' := []) rfl ?_
      refine j_iinc F 4 (lv' := [(4, (true, (x4 + 1))), (0, (false, x0)), (1, (false, x1)), (2, (true, x2)), (3, (false, x3))]) rfl (by decide) rfl dX7_takeChange_81 ?_
      refine j_goto F 60 (by decide) dX7_takeChange_84 ?_
      refine j_sub (lv' := [(0, (false, x0)), (1, (false, x1)), (2, (true, x2)), (3, (false, x3)), (4, (true, (x4 + 1)))]) [1, 2, 3, 4, 0] rfl ?_
      exact ih x0 x1 x2 x3 (x4 + 1) M9 h
set_option maxHeartbeats 4000000 in
set_option maxRecDepth 100000 in
theorem w_X7_takeChange_0 {p : Program} {l : Launch} {e : Env} {R : Room} {s : State} {m : MethodId} {args : Array Value} {below : List Frame} {meth : Method} {c : Code} {G : Gt} {ρ0 : Int → Nat} {M0 : Mo} {res : RS} (F : Fx p l R s m args meth c cX7_takeChange 5 RX7 G M0 9 none) (hno : ∀ x ∈ c.exceptionTable.toList, False) (hnm : meth.name = yX7_takeChange.name) (x0 x1 : Int) (M : Mo) (h : X7_takeChange x0 x1 M = some res) : J p l e R s m args below meth c 5 G ρ0 M0 0 res M 0 [(0, (false, x0)), (1, (false, x1))] [] := by
  unfold X7_takeChange at h
  refine j_aload_n F 1 rfl rfl dX7_takeChange_0 ?_
  obtain ⟨g1, h⟩ := gua h
  refine j_get F ft_X7_101 rfl g1 dX7_takeChange_1 ?_
  refine j_istore_n F (lv' := [(2, (true, (fd M 7 1 x1))), (0, (false, x0)), (1, (false, x1))]) rfl (by decide) rfl dX7_takeChange_4 ?_
  refine j_aload_n F 1 rfl rfl dX7_takeChange_5 ?_
  refine j_iload_n F 0 rfl rfl dX7_takeChange_6 ?_
  obtain ⟨g5, h⟩ := gua h
  refine j_callV (d' := 0) (argl := [(true, (fd M 7 1 x1))]) (rk9 := 2) (st := []) F hno M_X7_copyOf q1267 q1268 q1266 ⟨by decide, by decide⟩ (Nat.le_of_ble_eq_true rfl) (by decide) (ci := 8) rfl (by decide) g5 dX7_takeChange_7 rfl h (fun z hz => c_X7_copyOf l F.ht G x0 (fd M 7 1 x1) M z hz) (fun v2 M3 h kl4 => ?_)
  refine j_st (st' := [(false, v2)]) rfl ?_
  refine j_astore_n F (lv' := [(3, (false, v2)), (2, (true, (fd M 7 1 x1))), (0, (false, x0)), (1, (false, x1))]) rfl (by decide) rfl dX7_takeChange_10 ?_
  refine j_iload_n F 1 rfl rfl dX7_takeChange_11 ?_
  refine j_if_lt F 41 (by decide) dX7_takeChange_12 h (fun h => ?_) (fun h => ?_)
  · skip
    exact j_vret F (v := 0) h dX7_takeChange_41
  · skip
    refine j_iload_n F 1 rfl rfl dX7_takeChange_15 ?_
    refine j_bipush F (by decide) dX7_takeChange_16 ?_
    refine j_icmp_ge F 41 (by decide) dX7_takeChange_18 h (fun h => ?_) (fun h => ?_)
    · skip
      exact j_vret F (v := 0) h dX7_takeChange_41
    · skip
      refine j_aload_n F 0 rfl rfl dX7_takeChange_21 ?_
      obtain ⟨g9, h⟩ := gua h
      refine j_callV (d' := 0) (argl := []) (rk9 := 1) (st := []) F hno M_X2_isHere q468 q469 q467 ⟨by decide, by decide⟩ (Nat.le_of_ble_eq_true rfl) (by decide) (ci := 3) rfl (by decide) g9 dX7_takeChange_22 rfl h (fun z hz => c_X2_isHere l F.ht G v2 M3 z hz) (fun v6 M7 h kl8 => ?_)
      refine j_st (st' := [(true, v6)]) rfl ?_
      refine j_if_eq F 41 (by decide) dX7_takeChange_25 h (fun h => ?_) (fun h => ?_)
      · skip
        exact j_vret F (v := 0) h dX7_takeChange_41
      · skip
        refine j_aload_n F 3 rfl rfl dX7_takeChange_28 ?_
        refine j_get F ft_X7_104 rfl (kl8.is (kl4.is g1)) dX7_takeChange_29 ?_
        refine j_aload_n F 0 rfl rfl dX7_takeChange_32 ?_
        refine j_get F ft_X7_129 rfl (kl8.is g9) dX7_takeChange_33 ?_
        refine j_iconst F dX7_takeChange_36 ?_
        refine j_iadd F dX7_takeChange_37 ?_
        refine j_icmp_eq F 42 (by decide) dX7_takeChange_38 h (fun h => ?_) (fun h => ?_)
        · skip
          refine j_aload_n F 2 rfl rfl dX7_takeChange_42 ?_
          refine j_get F ft_X7_22 rfl (kl8.is (kl4.is g5)) dX7_takeChange_43 ?_
          refine j_iload_n F 1 rfl rfl dX7_takeChange_46 ?_
          refine j_aload_n F 3 rfl rfl dX7_takeChange_47 ?_
          refine j_get F ft_X7_104 rfl (kl8.is (kl4.is g1)) dX7_takeChange_48 ?_
          obtain ⟨g10, h⟩ := gua h
          obtain ⟨g11, h⟩ := gua h
          refine j_iastore F g10 g11 dX7_takeChange_51 ?_
          obtain ⟨M12, hM12⟩ : ∃ Z, Z = sE M7 0 (fd M7 8 5 x0) (wr (fd M 7 1 x1)) (fd M7 7 5 x1) := ⟨_, rfl⟩
          have kl13 : kle M7 M12 := by rw [hM12]; exact kle_sE
          rw [← hM12]
          replace h := pt_as h hM12
          refine j_aload_n F 0 rfl rfl dX7_takeChange_52 ?_
          refine j_aload_n F 3 rfl rfl dX7_takeChange_53 ?_
          refine j_callV (d' := 3) (argl := [(false, x1)]) (rk9 := 0) (st := []) F hno M_X2_alter q914 q915 q1436 ⟨by decide, by decide⟩ (Nat.le_of_ble_eq_true rfl) (by decide) (ci := 3) rfl (by decide) (kl13.is (kl8.is g9)) dX7_takeChange_54 rfl h (fun z hz => c_X2_alter l F.ht G v2 x1 M12 z hz) (fun v14 M15 h kl16 => ?_)
          refine j_st (st' := []) rfl ?_
          refine j_iconst F dX7_takeChange_57 ?_
          refine j_istore F (lv' := [(4, (true, 0)), (3, (false, v2)), (2, (true, (fd M 7 1 x1))), (0, (false, x0)), (1, (false, x1))]) (by decide) rfl dX7_takeChange_58 ?_
          refine j_sub (lv' := [(0, (false, x0)), (1, (false, x1)), (2, (true, (fd M 7 1 x1))), (3, (false, v2)), (4, (true, 0))]) [3, 4, 2, 1, 0] rfl ?_
          exact w_X7_takeChange_60 F hno hnm FU x0 x1 (fd M 7 1 x1) v2 0 M15 h
        · skip
          exact j_vret F (v := 0) h dX7_takeChange_41
theorem c_X7_takeChange (l : Launch) (hl : l.stackTraces = false) (G : Gt) (x0 x1 : Int) (M : Mo) (z : RS) (h : X7_takeChange x0 x1 M = some z) : CT l G yX7_takeChange (cn yX7_takeChange cX7_takeChange 5 none) 9 [(false, x0), (false, x1)] M 0 z :=
  ctOf hl (by decide) (Nat.le_of_ble_eq_true rfl) (fun p e R s m args below meth c ρ F hno hnm => w_X7_takeChange_0 F hno hnm x0 x1 M h)
theorem dX7_takeClose_0 : decode cX7_takeClose 0 = .ok (.aload_n 0, 1) := by decide +kernel
theorem dX7_takeClose_1 : decode cX7_takeClose 1 = .ok (.aload_n 1, 1) := by decide +kernel
theorem dX7_takeClose_2 : decode cX7_takeClose 2 = .ok (.getfield 101, 3) := by decide +kernel
theorem dX7_takeClose_5 : decode cX7_takeClose 5 = .ok (.invokevirtual 125, 3) := by decide +kernel
theorem dX7_takeClose_8 : decode cX7_takeClose 8 = .ok (.astore_n 2, 1) := by decide +kernel
theorem dX7_takeClose_9 : decode cX7_takeClose 9 = .ok (.aload_n 2, 1) := by decide +kernel
theorem dX7_takeClose_10 : decode cX7_takeClose 10 = .ok (.invokevirtual 71, 3) := by decide +kernel
theorem dX7_takeClose_13 : decode cX7_takeClose 13 = .ok (.ifCond .eq 14, 3) := by decide +kernel
theorem dX7_takeClose_27 : decode cX7_takeClose 27 = .ok (.return_, 1) := by decide +kernel
theorem dX7_takeClose_16 : decode cX7_takeClose 16 = .ok (.aload_n 1, 1) := by decide +kernel
theorem dX7_takeClose_17 : decode cX7_takeClose 17 = .ok (.getfield 104, 3) := by decide +kernel
theorem dX7_takeClose_20 : decode cX7_takeClose 20 = .ok (.aload_n 2, 1) := by decide +kernel
theorem dX7_takeClose_21 : decode cX7_takeClose 21 = .ok (.getfield 129, 3) := by decide +kernel
theorem dX7_takeClose_24 : decode cX7_takeClose 24 = .ok (.if_icmp .eq 4, 3) := by decide +kernel
theorem dX7_takeClose_28 : decode cX7_takeClose 28 = .ok (.aload_n 2, 1) := by decide +kernel
set_option maxRecDepth 100000 in
theorem q1442 : Cond.methodLink RX7 137 yX2_end ∈ GT := gt 1442 (by decide +kernel) (by decide +kernel)
theorem dX7_takeClose_29 : decode cX7_takeClose 29 = .ok (.invokevirtual 137, 3) := by decide +kernel
theorem dX7_takeClose_32 : decode cX7_takeClose 32 = .ok (.aload_n 0, 1) := by decide +kernel
theorem dX7_takeClose_33 : decode cX7_takeClose 33 = .ok (.aload_n 1, 1) := by decide +kernel
theorem dX7_takeClose_34 : decode cX7_takeClose 34 = .ok (.getfield 101, 3) := by decide +kernel
theorem dX7_takeClose_37 : decode cX7_takeClose 37 = .ok (.invokevirtual 118, 3) := by decide +kernel
theorem dX7_takeClose_40 : decode cX7_takeClose 40 = .ok (.aload_n 0, 1) := by decide +kernel
theorem dX7_takeClose_41 : decode cX7_takeClose 41 = .ok (.aload_n 1, 1) := by decide +kernel
theorem dX7_takeClose_42 : decode cX7_takeClose 42 = .ok (.invokevirtual 122, 3) := by decide +kernel
theorem dX7_takeClose_45 : decode cX7_takeClose 45 = .ok (.return_, 1) := by decide +kernel
set_option maxHeartbeats 4000000 in
set_option maxRecDepth 100000 in
theorem w_X7_takeClose_0 {p : Program} {l : Launch} {e : Env} {R : Room} {s : State} {m : MethodId} {args : Array Value} {below : List Frame} {meth : Method} {c : Code} {G : Gt} {ρ0 : Int → Nat} {M0 : Mo} {res : RS} (F : Fx p l R s m args meth c cX7_takeClose 3 RX7 G M0 9 none) (hno : ∀ x ∈ c.exceptionTable.toList, False) (hnm : meth.name = yX7_takeClose.name) (x0 x1 : Int) (M : Mo) (h : X7_takeClose x0 x1 M = some res) : J p l e R s m args below meth c 3 G ρ0 M0 0 res M 0 [(0, (false, x0)), (1, (false, x1))] [] := by
  unfold X7_takeClose at h
  refine j_aload_n F 0 rfl rfl dX7_takeClose_0 ?_
  refine j_aload_n F 1 rfl rfl dX7_takeClose_1 ?_
  obtain ⟨g1, h⟩ := gua h
  refine j_get F ft_X7_101 rfl g1 dX7_takeClose_2 ?_
  obtain ⟨g5, h⟩ := gua h
  refine j_callV (d' := 0) (argl := [(true, (fd M 7 1 x1))]) (rk9 := 2) (st := []) F hno M_X7_copyOf q1267 q1268 q1266 ⟨by decide, by decide⟩ (Nat.le_of_ble_eq_true rfl) (by decide) (ci := 8) rfl (by decide) g5 dX7_takeClose_5 rfl h (fun z hz => c_X7_copyOf l F.ht G x0 (fd M 7 1 x1) M z hz) (fun v2 M3 h kl4 => ?_)
  refine j_st (st' := [(false, v2)]) rfl ?_
  refine j_astore_n F (lv' := [(2, (false, v2)), (0, (false, x0)), (1, (false, x1))]) rfl (by decide) rfl dX7_takeClose_8 ?_
  refine j_aload_n F 0 rfl rfl dX7_takeClose_9 ?_
  obtain ⟨g9, h⟩ := gua h
  refine j_callV (d' := 0) (argl := []) (rk9 := 1) (st := []) F hno M_X2_isHere q468 q469 q467 ⟨by decide, by decide⟩ (Nat.le_of_ble_eq_true rfl) (by decide) (ci := 3) rfl (by decide) g9 dX7_takeClose_10 rfl h (fun z hz => c_X2_isHere l F.ht G v2 M3 z hz) (fun v6 M7 h kl8 => ?_)
  refine j_st (st' := [(true, v6)]) rfl ?_
  refine j_if_eq F 27 (by decide) dX7_takeClose_13 h (fun h => ?_) (fun h => ?_)
  · skip
    exact j_vret F (v := 0) h dX7_takeClose_27
  · skip
    refine j_aload_n F 2 rfl rfl dX7_takeClose_16 ?_
    refine j_get F ft_X7_104 rfl (kl8.is (kl4.is g1)) dX7_takeClose_17 ?_
    refine j_aload_n F 0 rfl rfl dX7_takeClose_20 ?_
    refine j_get F ft_X7_129 rfl (kl8.is g9) dX7_takeClose_21 ?_
    refine j_icmp_eq F 28 (by decide) dX7_takeClose_24 h (fun h => ?_) (fun h => ?_)
    · skip
      refine j_aload_n F 0 rfl rfl dX7_takeClose_28 ?_
      refine j_callV (d' := 0) (argl := []) (rk9 := 0) (st := []) F hno M_X2_end q843 q844 q1442 ⟨by decide, by decide⟩ (Nat.le_of_ble_eq_true rfl) (by decide) (ci := 3) rfl (by decide) (kl8.is g9) dX7_takeClose_29 rfl h (fun z hz => c_X2_end l F.ht G v2 M7 z hz) (fun v10 M11 h kl12 => ?_)
      refine j_st (st' := []) rfl ?_
      refine j_aload_n F 1 rfl rfl dX7_takeClose_32 ?_
      refine j_aload_n F 2 rfl rfl dX7_takeClose_33 ?_
      refine j_get F ft_X7_101 rfl (kl12.is (kl8.is (kl4.is g1))) dX7_takeClose_34 ?_
      refine j_callV (d' := 1) (argl := [(true, (fd M11 7 1 x1))]) (rk9 := 0) (st := []) F hno M_X7_dropFaults q1425 q38 q1423 ⟨by decide, by decide⟩ (Nat.le_of_ble_eq_true rfl) (by decide) (ci := 8) rfl (by decide) (kl12.is (kl8.is (kl4.is g5))) dX7_takeClose_37 rfl h (fun z hz => c_X7_dropFaults l F.ht G x0 (fd M11 7 1 x1) M11 z hz) (fun v13 M14 h kl15 => ?_)
      refine j_st (st' := []) rfl ?_
      refine j_aload_n F 1 rfl rfl dX7_takeClose_40 ?_
      refine j_aload_n F 2 rfl rfl dX7_takeClose_41 ?_
      refine j_callV (d' := 8) (argl := [(false, x1)]) (rk9 := 0) (st := []) F hno M_X7_passOn q1429 q39 q1427 ⟨by decide, by decide⟩ (Nat.le_of_ble_eq_true rfl) (by decide) (ci := 8) rfl (by decide) (kl15.is (kl12.is (kl8.is (kl4.is g5)))) dX7_takeClose_42 rfl h (fun z hz => c_X7_passOn l F.ht G x0 x1 M14 z hz) (fun v16 M17 h kl18 => ?_)
      refine j_st (st' := []) rfl ?_
      exact j_vret F (v := 0) h dX7_takeClose_45
    · skip
      exact j_vret F (v := 0) h dX7_takeClose_27
theorem c_X7_takeClose (l : Launch) (hl : l.stackTraces = false) (G : Gt) (x0 x1 : Int) (M : Mo) (z : RS) (h : X7_takeClose x0 x1 M = some z) : CT l G yX7_takeClose (cn yX7_takeClose cX7_takeClose 3 none) 9 [(false, x0), (false, x1)] M 0 z :=
  ctOf hl (by decide) (Nat.le_of_ble_eq_true rfl) (fun p e R s m args below meth c ρ F hno hnm => w_X7_takeClose_0 F hno hnm x0 x1 M h)
theorem dX7_dismiss_0 : decode cX7_dismiss 0 = .ok (.iload_n 1, 1) := by decide +kernel
theorem dX7_dismiss_1 : decode cX7_dismiss 1 = .ok (.ifCond .lt 14, 3) := by decide +kernel
theorem dX7_dismiss_15 : decode cX7_dismiss 15 = .ok (.return_, 1) := by decide +kernel
theorem dX7_dismiss_4 : decode cX7_dismiss 4 = .ok (.iload_n 1, 1) := by decide +kernel
theorem dX7_dismiss_5 : decode cX7_dismiss 5 = .ok (.aload_n 0, 1) := by decide +kernel
theorem dX7_dismiss_6 : decode cX7_dismiss 6 = .ok (.getfield 35, 3) := by decide +kernel
theorem dX7_dismiss_9 : decode cX7_dismiss 9 = .ok (.invokevirtual 149, 3) := by decide +kernel
theorem dX7_dismiss_12 : decode cX7_dismiss 12 = .ok (.if_icmp .lt 4, 3) := by decide +kernel
theorem dX7_dismiss_16 : decode cX7_dismiss 16 = .ok (.aload_n 0, 1) := by decide +kernel
theorem dX7_dismiss_17 : decode cX7_dismiss 17 = .ok (.getfield 35, 3) := by decide +kernel
theorem dX7_dismiss_20 : decode cX7_dismiss 20 = .ok (.iload_n 1, 1) := by decide +kernel
theorem dX7_dismiss_21 : decode cX7_dismiss 21 = .ok (.invokevirtual 153, 3) := by decide +kernel
set_option maxRecDepth 100000 in
theorem q1248 : Cond.classLink RX7 174 RX8 ∈ GT := gt 1248 (by decide +kernel) (by decide +kernel)
theorem dX7_dismiss_24 : decode cX7_dismiss 24 = .ok (.checkcast 174, 3) := by decide +kernel
theorem dX7_dismiss_27 : decode cX7_dismiss 27 = .ok (.astore_n 2, 1) := by decide +kernel
theorem dX7_dismiss_28 : decode cX7_dismiss 28 = .ok (.aload_n 0, 1) := by decide +kernel
theorem dX7_dismiss_29 : decode cX7_dismiss 29 = .ok (.getfield 35, 3) := by decide +kernel
theorem dX7_dismiss_32 : decode cX7_dismiss 32 = .ok (.iload_n 1, 1) := by decide +kernel
set_option maxRecDepth 100000 in
theorem q1261 : Cond.methodLink RX7 227 yJx4a65c_remove_915e3 ∈ GT := gt 1261 (by decide +kernel) (by decide +kernel)
theorem dX7_dismiss_33 : decode cX7_dismiss 33 = .ok (.invokevirtual 227, 3) := by decide +kernel
theorem dX7_dismiss_36 : decode cX7_dismiss 36 = .ok (.pop, 1) := by decide +kernel
theorem dX7_dismiss_37 : decode cX7_dismiss 37 = .ok (.aload_n 2, 1) := by decide +kernel
set_option maxRecDepth 100000 in
theorem q1459 : Cond.fieldLink RX7 176 "ToolPlex$Pending" "question" "LToolPlex$Message;" ∈ GT := gt 1459 (by decide +kernel) (by decide +kernel)
theorem ft_X7_176 : FT RX7 176 RX8 9 RX8 TX8 3 0 := ⟨rfl, by decide, by decide, q1459, Or.inl rfl, inGX8⟩
theorem dX7_dismiss_38 : decode cX7_dismiss 38 = .ok (.getfield 176, 3) := by decide +kernel
theorem dX7_dismiss_41 : decode cX7_dismiss 41 = .ok (.astore_n 3, 1) := by decide +kernel
theorem dX7_dismiss_42 : decode cX7_dismiss 42 = .ok (.iconst 0, 1) := by decide +kernel
theorem dX7_dismiss_43 : decode cX7_dismiss 43 = .ok (.istore 4, 2) := by decide +kernel
theorem dX7_dismiss_45 : decode cX7_dismiss 45 = .ok (.iload 4, 2) := by decide +kernel
theorem dX7_dismiss_47 : decode cX7_dismiss 47 = .ok (.iconst 3, 1) := by decide +kernel
theorem dX7_dismiss_48 : decode cX7_dismiss 48 = .ok (.if_icmp .ge 64, 3) := by decide +kernel
theorem dX7_dismiss_112 : decode cX7_dismiss 112 = .ok (.return_, 1) := by decide +kernel
theorem dX7_dismiss_51 : decode cX7_dismiss 51 = .ok (.aload_n 2, 1) := by decide +kernel
theorem dX7_dismiss_52 : decode cX7_dismiss 52 = .ok (.iload 4, 2) := by decide +kernel
set_option maxRecDepth 100000 in
theorem q1252 : Cond.code yX8_waitsFor cX8_waitsFor 2 (some FieldType.boolean) ∈ GT := gt 1252 (rfl) (by decide +kernel)
set_option maxRecDepth 100000 in
theorem q79 : Cond.initialized RX8 ∈ GT := gt 79 (by decide +kernel) (by decide +kernel)
theorem M_X8_waitsFor : MY yX8_waitsFor cX8_waitsFor 2 (some FieldType.boolean) 1 := ⟨q1252, q79, by decide +kernel, by decide +kernel⟩
set_option maxRecDepth 100000 in
theorem q1250 : Cond.instanceMethod yX8_waitsFor ∈ GT := gt 1250 (by decide +kernel) (by decide +kernel)
set_option maxRecDepth 100000 in
theorem q1251 : Cond.selects RX8 yX8_waitsFor yX8_waitsFor ∈ GT := gt 1251 (by decide +kernel) (by decide +kernel)
set_option maxRecDepth 100000 in
theorem q1249 : Cond.methodLink RX7 230 yX8_waitsFor ∈ GT := gt 1249 (by decide +kernel) (by decide +kernel)
theorem dX7_dismiss_54 : decode cX7_dismiss 54 = .ok (.invokevirtual 230, 3) := by decide +kernel
theorem dX7_dismiss_57 : decode cX7_dismiss 57 = .ok (.ifCond .eq 49, 3) := by decide +kernel
set_option maxRecDepth 100000 in
theorem q1322 : Cond.classLink RX7 80 RX6 ∈ GT := gt 1322 (by decide +kernel) (by decide +kernel)
theorem dX7_dismiss_60 : decode cX7_dismiss 60 = .ok (.new 80, 3) := by decide +kernel
theorem dX7_dismiss_63 : decode cX7_dismiss 63 = .ok (.dup, 1) := by decide +kernel
theorem dX7_dismiss_64 : decode cX7_dismiss 64 = .ok (.iconst 4, 1) := by decide +kernel
theorem dX7_dismiss_65 : decode cX7_dismiss 65 = .ok (.aload_n 3, 1) := by decide +kernel
theorem dX7_dismiss_66 : decode cX7_dismiss 66 = .ok (.getfield 101, 3) := by decide +kernel
set_option maxRecDepth 100000 in
theorem q1323 : Cond.methodLink RX7 206 yX6_init ∈ GT := gt 1323 (by decide +kernel) (by decide +kernel)
theorem dX7_dismiss_69 : decode cX7_dismiss 69 = .ok (.invokespecial 206, 3) := by decide +kernel
theorem dX7_dismiss_72 : decode cX7_dismiss 72 = .ok (.astore 5, 2) := by decide +kernel
theorem dX7_dismiss_74 : decode cX7_dismiss 74 = .ok (.aload 5, 2) := by decide +kernel
theorem dX7_dismiss_76 : decode cX7_dismiss 76 = .ok (.aload_n 0, 1) := by decide +kernel
theorem dX7_dismiss_77 : decode cX7_dismiss 77 = .ok (.aload_n 3, 1) := by decide +kernel
theorem dX7_dismiss_78 : decode cX7_dismiss 78 = .ok (.getfield 111, 3) := by decide +kernel
theorem dX7_dismiss_81 : decode cX7_dismiss 81 = .ok (.aload_n 3, 1) := by decide +kernel
set_option maxRecDepth 100000 in
theorem q728 : Cond.fieldLink RX7 221 "ToolPlex$Message" "number" "I" ∈ GT := gt 728 (by decide +kernel) (by decide +kernel)
theorem ft_X7_221 : FT RX7 221 RX6 7 RX6 TX6 17 3 := ⟨rfl, by decide, by decide, q728, Or.inl rfl, inGX6⟩
theorem dX7_dismiss_82 : decode cX7_dismiss 82 = .ok (.getfield 221, 3) := by decide +kernel
theorem dX7_dismiss_85 : decode cX7_dismiss 85 = .ok (.iload 4, 2) := by decide +kernel
set_option maxRecDepth 100000 in
theorem q1404 : Cond.code yX7_idOf cX7_idOf 5 (some FieldType.int) ∈ GT := gt 1404 (rfl) (by decide +kernel)
theorem M_X7_idOf : MY yX7_idOf cX7_idOf 5 (some FieldType.int) 3 := ⟨q1404, q63, by decide +kernel, by decide +kernel⟩
set_option maxRecDepth 100000 in
theorem q1402 : Cond.instanceMethod yX7_idOf ∈ GT := gt 1402 (by decide +kernel) (by decide +kernel)
set_option maxRecDepth 100000 in
theorem q1403 : Cond.selects RX7 yX7_idOf yX7_idOf ∈ GT := gt 1403 (by decide +kernel) (by decide +kernel)
set_option maxRecDepth 100000 in
theorem q1401 : Cond.methodLink RX7 233 yX7_idOf ∈ GT := gt 1401 (by decide +kernel) (by decide +kernel)
theorem dX7_dismiss_87 : decode cX7_dismiss 87 = .ok (.invokevirtual 233, 3) := by decide +kernel
set_option maxRecDepth 100000 in
theorem q760 : Cond.fieldLink RX7 218 "ToolPlex$Message" "id" "I" ∈ GT := gt 760 (by decide +kernel) (by decide +kernel)
theorem ft_X7_218 : FT RX7 218 RX6 7 RX6 TX6 17 11 := ⟨rfl, by decide, by decide, q760, Or.inl rfl, inGX6⟩
theorem dX7_dismiss_90 : decode cX7_dismiss 90 = .ok (.putfield 218, 3) := by decide +kernel
theorem dX7_dismiss_93 : decode cX7_dismiss 93 = .ok (.aload_n 0, 1) := by decide +kernel
theorem dX7_dismiss_94 : decode cX7_dismiss 94 = .ok (.iconst 2, 1) := by decide +kernel
theorem dX7_dismiss_95 : decode cX7_dismiss 95 = .ok (.iload 4, 2) := by decide +kernel
theorem dX7_dismiss_97 : decode cX7_dismiss 97 = .ok (.iadd, 1) := by decide +kernel
theorem dX7_dismiss_98 : decode cX7_dismiss 98 = .ok (.invokevirtual 167, 3) := by decide +kernel
theorem dX7_dismiss_101 : decode cX7_dismiss 101 = .ok (.aload 5, 2) := by decide +kernel
theorem dX7_dismiss_103 : decode cX7_dismiss 103 = .ok (.invokevirtual 171, 3) := by decide +kernel
theorem dX7_dismiss_106 : decode cX7_dismiss 106 = .ok (.iinc 4 1, 3) := by decide +kernel
theorem dX7_dismiss_109 : decode cX7_dismiss 109 = .ok (.goto (-64), 3) := by decide +kernel
set_option maxHeartbeats 4000000 in
set_option maxRecDepth 100000 in
theorem w_X7_dismiss_106 {p : Program} {l : Launch} {e : Env} {R : Room} {s : State} {m : MethodId} {args : Array Value} {below : List Frame} {meth : Method} {c : Code} {G : Gt} {ρ0 : Int → Nat} {M0 : Mo} {res : RS} (F : Fx p l R s m args meth c cX7_dismiss 6 RX7 G M0 8 none) (hno : ∀ x ∈ c.exceptionTable.toList, False) (hnm : meth.name = yX7_dismiss.name) (k45 : Int → Int → Int → Int → Mo → Option RS) (hk45 : ∀ (x0 x2 x3 x4 : Int) (M : Mo), k45 x0 x2 x3 x4 M = some res → J p l e R s m args below meth c 6 G ρ0 M0 0 res M 45 [(0, (false, x0)), (2, (false, x2)), (3, (false, x3)), (4, (true, x4))] []) (x0 x2 x3 x4 : Int) (M : Mo) (h : X7_dismiss_106 k45 x0 x2 x3 x4 M = some res) : J p l e R s m args below meth c 6 G ρ0 M0 0 res M 106 [(0, (false, x0)), (2, (false, x2)), (3, (false, x3)), (4, (true, x4))] [] := by
  unfold X7_dismiss_106 at h
  refine j_iinc F 3 (lv' := [(4, (true, (x4 + 1))), (0, (false, x0)), (2, (false, x2)), (3, (false, x3))]) rfl (by decide) rfl dX7_dismiss_106 ?_
  refine j_goto F 45 (by decide) dX7_dismiss_109 ?_
  refine j_sub (lv' := [(0, (false, x0)), (2, (false, x2)), (3, (false, x3)), (4, (true, (x4 + 1)))]) [1, 2, 3, 0] rfl ?_
  exact hk45 x0 x2 x3 (x4 + 1) M h
set_option maxHeartbeats 4000000 in
set_option maxRecDepth 100000 in
theorem w_X7_dismiss_45 {p : Program} {l : Launch} {e : Env} {R : Room} {s : State} {m : MethodId} {args : Array Value} {below : List Frame} {meth : Method} {c : Code} {G : Gt} {ρ0 : Int → Nat} {M0 : Mo} {res : RS} (F : Fx p l R s m args meth c cX7_dismiss 6 RX7 G M0 8 none) (hno : ∀ x ∈ c.exceptionTable.toList, False) (hnm : meth.name = yX7_dismiss.name) (n : Nat) : ∀ (x0 x2 x3 x4 : Int) (M : Mo), X7_dismiss_45 n x0 x2 x3 x4 M = some res → J p l e R s m args below meth c 6 G ρ0 M0 0 res M 45 [(0, (false, x0)), (2, (false, x2)), (3, (false, x3)), (4, (true, x4))] [] := by
  induction n with
  | zero => intro x0 x2 x3 x4 M h; cases h
  | succ n ih =>
    intro x0 x2 x3 x4 M h
    rw [X7_dismiss_45] at h
    refine j_iload F 3 rfl dX7_dismiss_45 ?_
    refine j_iconst F dX7_dismiss_47 ?_
    refine j_icmp_ge F 112 (by decide) dX7_dismiss_48 h (fun h => ?_) (fun h => ?_)
    · skip
      exact j_vret F (v := 0) h dX7_dismiss_112
    · skip
      refine j_aload_n F 1 rfl rfl dX7_dismiss_51 ?_
      refine j_iload F 3 rfl dX7_dismiss_52 ?_
      obtain ⟨g4, h⟩ := gua h
      refine j_callV (d' := 0) (argl := [(true, x4)]) (rk9 := 1) (st := []) F hno M_X8_waitsFor q1250 q1251 q1249 ⟨by decide, by decide⟩ (Nat.le_of_ble_eq_true rfl) (by decide) (ci := 9) rfl (by decide) g4 dX7_dismiss_54 rfl h (fun z hz => c_X8_waitsFor l F.ht G x2 x4 M z hz) (fun v1 M2 h kl3 => ?_)
      refine j_st (st' := [(true, v1)]) rfl ?_
      refine j_if_eq F 106 (by decide) dX7_dismiss_57 h (fun h => ?_) (fun h => ?_)
      · skip
        refine j_sub (lv' := [(0, (false, x0)), (2, (false, x2)), (3, (false, x3)), (4, (true, x4))]) [0, 1, 2, 3] rfl ?_
        exact w_X7_dismiss_106 F hno hnm (X7_dismiss_45 n) ih x0 x2 x3 x4 M2 h
      · skip
        obtain ⟨g5, h⟩ := gua h
        refine j_new (ci := 7) F inGX6 tyX6 tyX6_ok q1322 q706 q75 rfl (by decide) dfX6 g5 dX7_dismiss_60 (fun kl6 => ?_)
        obtain ⟨M7, hM7⟩ : ∃ Z, Z = nO M2 7 17 := ⟨_, rfl⟩
        have g8 : kd M7 (nid M2) = 8 := by rw [hM7]; exact kd_nO
        rw [← hM7] at kl6 ⊢
        replace h := pt_as h hM7
        refine j_dup F dX7_dismiss_63 ?_
        refine j_iconst F dX7_dismiss_64 ?_
        refine j_aload_n F 2 rfl rfl dX7_dismiss_65 ?_
        obtain ⟨g9, h⟩ := gua h
        refine j_get F ft_X7_101 rfl g9 dX7_dismiss_66 ?_
        refine j_callI (d' := 2) (argl := [(true, 4), (true, (fd M7 7 1 x3))]) (rk9 := 0) (st := [(false, (nid M2))]) F M_X6_init q708 rfl q1323 ⟨by decide, by decide⟩ (Nat.le_of_ble_eq_true rfl) (by decide) (by rw [g8]; decide) dX7_dismiss_69 rfl h (fun z hz => c_X6_init l F.ht G (nid M2) 4 (fd M7 7 1 x3) M7 z hz) (fun v10 M11 h kl12 => ?_)
        refine j_st (st' := [(false, (nid M2))]) rfl ?_
        refine j_astore F (lv' := [(5, (false, (nid M2))), (0, (false, x0)), (2, (false, x2)), (3, (false, x3)), (4, (true, x4))]) (by decide) rfl dX7_dismiss_72 ?_
        refine j_aload F 0 rfl dX7_dismiss_74 ?_
        refine j_aload_n F 1 rfl rfl dX7_dismiss_76 ?_
        refine j_aload_n F 3 rfl rfl dX7_dismiss_77 ?_
        refine j_get F ft_X7_111 rfl (kl12.is g9) dX7_dismiss_78 ?_
        refine j_aload_n F 3 rfl rfl dX7_dismiss_81 ?_
        refine j_get F ft_X7_221 rfl (kl12.is g9) dX7_dismiss_82 ?_
        refine j_iload F 4 rfl dX7_dismiss_85 ?_
        obtain ⟨g16, h⟩ := gua h
        refine j_callV (d' := 1) (argl := [(true, (fd M11 7 2 x3)), (true, (fd M11 7 3 x3)), (true, x4)]) (rk9 := 1) (st := [(false, (nid M2))]) F hno M_X7_idOf q1402 q1403 q1401 ⟨by decide, by decide⟩ (Nat.le_of_ble_eq_true rfl) (by decide) (ci := 8) rfl (by decide) g16 dX7_dismiss_87 rfl h (fun z hz => c_X7_idOf l F.ht G x0 (fd M11 7 2 x3) (fd M11 7 3 x3) x4 M11 z hz) (fun v13 M14 h kl15 => ?_)
        refine j_st (st' := [(true, v13), (false, (nid M2))]) rfl ?_
        refine j_put (ty := .int) F ft_X7_218 rfl rfl tyX6 tyX6_ok nmX6 (by decide +kernel) (nf_int _) (kl15.is (kl12.is g8)) dX7_dismiss_90 ?_
        obtain ⟨M17, hM17⟩ : ∃ Z, Z = sF M14 7 11 (nid M2) v13 := ⟨_, rfl⟩
        have kl18 : kle M14 M17 := by rw [hM17]; exact kle_sF
        rw [← hM17]
        replace h := pt_as h hM17
        refine j_aload_n F 1 rfl rfl dX7_dismiss_93 ?_
        refine j_iconst F dX7_dismiss_94 ?_
        refine j_iload F 4 rfl dX7_dismiss_95 ?_
        refine j_iadd F dX7_dismiss_97 ?_
        refine j_callV (d' := 0) (argl := [(true, (2 + x4))]) (rk9 := 2) (st := []) F hno M_X7_channelAt q1326 q30 q1324 ⟨by decide, by decide⟩ (Nat.le_of_ble_eq_true rfl) (by decide) (ci := 8) rfl (by decide) (kl18.is (kl15.is g16)) dX7_dismiss_98 rfl h (fun z hz => c_X7_channelAt l F.ht G x0 (2 + x4) M17 z hz) (fun v19 M20 h kl21 => ?_)
        refine j_st (st' := [(false, v19)]) rfl ?_
        refine j_aload F 0 rfl dX7_dismiss_101 ?_
        obtain ⟨g25, h⟩ := gua h
        refine j_callV (d' := 7) (argl := [(false, (nid M2))]) (rk9 := 0) (st := []) F hno M_X1_send q820 q821 q1328 ⟨by decide, by decide⟩ (Nat.le_of_ble_eq_true rfl) (by decide) (ci := 2) rfl (by decide) g25 dX7_dismiss_103 rfl h (fun z hz => c_X1_send l F.ht G v19 (nid M2) M20 z hz) (fun v22 M23 h kl24 => ?_)
        refine j_st (st' := []) rfl ?_
        refine j_sub (lv' := [(0, (false, x0)), (2, (false, x2)), (3, (false, x3)), (4, (true, x4))]) [1, 2, 3, 4] rfl ?_
        exact w_X7_dismiss_106 F hno hnm (X7_dismiss_45 n) ih x0 x2 x3 x4 M23 h
set_option maxHeartbeats 4000000 in
set_option maxRecDepth 100000 in
theorem w_X7_dismiss_0 {p : Program} {l : Launch} {e : Env} {R : Room} {s : State} {m : MethodId} {args : Array Value} {below : List Frame} {meth : Method} {c : Code} {G : Gt} {ρ0 : Int → Nat} {M0 : Mo} {res : RS} (F : Fx p l R s m args meth c cX7_dismiss 6 RX7 G M0 8 none) (hno : ∀ x ∈ c.exceptionTable.toList, False) (hnm : meth.name = yX7_dismiss.name) (x0 x1 : Int) (M : Mo) (h : X7_dismiss x0 x1 M = some res) : J p l e R s m args below meth c 6 G ρ0 M0 0 res M 0 [(0, (false, x0)), (1, (true, x1))] [] := by
  unfold X7_dismiss at h
  refine j_iload_n F 1 rfl rfl dX7_dismiss_0 ?_
  refine j_if_lt F 15 (by decide) dX7_dismiss_1 h (fun h => ?_) (fun h => ?_)
  · skip
    exact j_vret F (v := 0) h dX7_dismiss_15
  · skip
    refine j_iload_n F 1 rfl rfl dX7_dismiss_4 ?_
    refine j_aload_n F 0 rfl rfl dX7_dismiss_5 ?_
    obtain ⟨g1, h⟩ := gua h
    refine j_get F ft_X7_35 rfl g1 dX7_dismiss_6 ?_
    obtain ⟨g5, h⟩ := gua h
    refine j_callV (d' := 0) (argl := []) (rk9 := 1) (st := [(true, x1)]) F hno M_Jx4a65c_size_8abf5 q448 q449 q1246 ⟨by decide, by decide⟩ (Nat.le_of_ble_eq_true rfl) (by decide) (ci := 0) rfl (by decide) g5 dX7_dismiss_9 rfl h (fun z hz => c_Jx4a65c_size_8abf5 l F.ht G (fd M 8 7 x0) M z hz) (fun v2 M3 h kl4 => ?_)
    refine j_st (st' := [(true, v2), (true, x1)]) rfl ?_
    refine j_icmp_lt F 16 (by decide) dX7_dismiss_12 h (fun h => ?_) (fun h => ?_)
    · skip
      refine j_aload_n F 0 rfl rfl dX7_dismiss_16 ?_
      refine j_get F ft_X7_35 rfl (kl4.is g1) dX7_dismiss_17 ?_
      refine j_iload_n F 1 rfl rfl dX7_dismiss_20 ?_
      obtain ⟨g9, h⟩ := gua h
      refine j_callV (d' := 2) (argl := [(true, x1)]) (rk9 := 2) (st := []) F hno M_Jx4a65c_get_915e3 q856 q857 q1247 ⟨by decide, by decide⟩ (Nat.le_of_ble_eq_true rfl) (by decide) (ci := 0) rfl (by decide) g9 dX7_dismiss_21 rfl h (fun z hz => c_Jx4a65c_get_915e3 l F.ht G (fd M3 8 7 x0) x1 M3 z hz) (fun v6 M7 h kl8 => ?_)
      refine j_st (st' := [(false, v6)]) rfl ?_
      obtain ⟨g10, h⟩ := gua h
      refine j_cast F q1248 rfl (by decide) g10 dX7_dismiss_24 ?_
      refine j_astore_n F (lv' := [(2, (false, v6)), (0, (false, x0)), (1, (true, x1))]) rfl (by decide) rfl dX7_dismiss_27 ?_
      refine j_aload_n F 1 rfl rfl dX7_dismiss_28 ?_
      refine j_get F ft_X7_35 rfl (kl8.is (kl4.is g1)) dX7_dismiss_29 ?_
      refine j_iload_n F 2 rfl rfl dX7_dismiss_32 ?_
      obtain ⟨g14, h⟩ := gua h
      refine j_callV (d' := 2) (argl := [(true, x1)]) (rk9 := 2) (st := []) F hno M_Jx4a65c_remove_915e3 q1102 q1103 q1261 ⟨by decide, by decide⟩ (Nat.le_of_ble_eq_true rfl) (by decide) (ci := 0) rfl (by decide) g14 dX7_dismiss_33 rfl h (fun z hz => c_Jx4a65c_remove_915e3 l F.ht G (fd M7 8 7 x0) x1 M7 z hz) (fun v11 M12 h kl13 => ?_)
      refine j_st (st' := [(false, v11)]) rfl ?_
      refine j_pop F dX7_dismiss_36 ?_
      refine j_aload_n F 0 rfl rfl dX7_dismiss_37 ?_
      obtain ⟨g15, h⟩ := gua h
      refine j_get F ft_X7_176 rfl g15 dX7_dismiss_38 ?_
      refine j_astore_n F (lv' := [(3, (false, (fd M12 9 0 v6))), (2, (false, v6)), (0, (false, x0)), (1, (true, x1))]) rfl (by decide) rfl dX7_dismiss_41 ?_
      refine j_iconst F dX7_dismiss_42 ?_
      refine j_istore F (lv' := [(4, (true, 0)), (3, (false, (fd M12 9 0 v6))), (2, (false, v6)), (0, (false, x0)), (1, (true, x1))]) (by decide) rfl dX7_dismiss_43 ?_
      refine j_sub (lv' := [(0, (false, x0)), (2, (false, v6)), (3, (false, (fd M12 9 0 v6))), (4, (true, 0))]) [3, 2, 1, 0] rfl ?_
      exact w_X7_dismiss_45 F hno hnm FU x0 v6 (fd M12 9 0 v6) 0 M12 h
    · skip
      exact j_vret F (v := 0) h dX7_dismiss_15
theorem c_X7_dismiss (l : Launch) (hl : l.stackTraces = false) (G : Gt) (x0 x1 : Int) (M : Mo) (z : RS) (h : X7_dismiss x0 x1 M = some z) : CT l G yX7_dismiss (cn yX7_dismiss cX7_dismiss 6 none) 8 [(false, x0), (true, x1)] M 0 z :=
  ctOf hl (by decide) (Nat.le_of_ble_eq_true rfl) (fun p e R s m args below meth c ρ F hno hnm => w_X7_dismiss_0 F hno hnm x0 x1 M h)
theorem dX7_reply_0 : decode cX7_reply 0 = .ok (.new 80, 3) := by decide +kernel
theorem dX7_reply_3 : decode cX7_reply 3 = .ok (.dup, 1) := by decide +kernel
theorem dX7_reply_4 : decode cX7_reply 4 = .ok (.iconst 5, 1) := by decide +kernel
theorem dX7_reply_5 : decode cX7_reply 5 = .ok (.aload_n 1, 1) := by decide +kernel
theorem dX7_reply_6 : decode cX7_reply 6 = .ok (.getfield 101, 3) := by decide +kernel
theorem dX7_reply_9 : decode cX7_reply 9 = .ok (.invokespecial 206, 3) := by decide +kernel
theorem dX7_reply_12 : decode cX7_reply 12 = .ok (.astore_n 3, 1) := by decide +kernel
theorem dX7_reply_13 : decode cX7_reply 13 = .ok (.aload_n 3, 1) := by decide +kernel
theorem dX7_reply_14 : decode cX7_reply 14 = .ok (.aload_n 1, 1) := by decide +kernel
theorem dX7_reply_15 : decode cX7_reply 15 = .ok (.getfield 221, 3) := by decide +kernel
theorem dX7_reply_18 : decode cX7_reply 18 = .ok (.putfield 221, 3) := by decide +kernel
theorem dX7_reply_21 : decode cX7_reply 21 = .ok (.aload_n 3, 1) := by decide +kernel
theorem dX7_reply_22 : decode cX7_reply 22 = .ok (.iload_n 2, 1) := by decide +kernel
set_option maxRecDepth 100000 in
theorem q764 : Cond.fieldLink RX7 236 "ToolPlex$Message" "standing" "I" ∈ GT := gt 764 (by decide +kernel) (by decide +kernel)
theorem ft_X7_236 : FT RX7 236 RX6 7 RX6 TX6 17 13 := ⟨rfl, by decide, by decide, q764, Or.inl rfl, inGX6⟩
theorem dX7_reply_23 : decode cX7_reply 23 = .ok (.putfield 236, 3) := by decide +kernel
theorem dX7_reply_26 : decode cX7_reply 26 = .ok (.aload_n 3, 1) := by decide +kernel
theorem dX7_reply_27 : decode cX7_reply 27 = .ok (.aload_n 0, 1) := by decide +kernel
theorem dX7_reply_28 : decode cX7_reply 28 = .ok (.aload_n 1, 1) := by decide +kernel
theorem dX7_reply_29 : decode cX7_reply 29 = .ok (.getfield 101, 3) := by decide +kernel
theorem dX7_reply_32 : decode cX7_reply 32 = .ok (.invokevirtual 125, 3) := by decide +kernel
theorem dX7_reply_35 : decode cX7_reply 35 = .ok (.getfield 129, 3) := by decide +kernel
theorem dX7_reply_38 : decode cX7_reply 38 = .ok (.putfield 104, 3) := by decide +kernel
theorem dX7_reply_41 : decode cX7_reply 41 = .ok (.aload_n 0, 1) := by decide +kernel
theorem dX7_reply_42 : decode cX7_reply 42 = .ok (.bipush 8, 2) := by decide +kernel
theorem dX7_reply_44 : decode cX7_reply 44 = .ok (.aload_n 1, 1) := by decide +kernel
theorem dX7_reply_45 : decode cX7_reply 45 = .ok (.getfield 111, 3) := by decide +kernel
theorem dX7_reply_48 : decode cX7_reply 48 = .ok (.iadd, 1) := by decide +kernel
theorem dX7_reply_49 : decode cX7_reply 49 = .ok (.invokevirtual 167, 3) := by decide +kernel
theorem dX7_reply_52 : decode cX7_reply 52 = .ok (.aload_n 3, 1) := by decide +kernel
theorem dX7_reply_53 : decode cX7_reply 53 = .ok (.invokevirtual 171, 3) := by decide +kernel
theorem dX7_reply_56 : decode cX7_reply 56 = .ok (.aload_n 3, 1) := by decide +kernel
theorem dX7_reply_57 : decode cX7_reply 57 = .ok (.areturn, 1) := by decide +kernel
set_option maxHeartbeats 4000000 in
set_option maxRecDepth 100000 in
theorem w_X7_reply_0 {p : Program} {l : Launch} {e : Env} {R : Room} {s : State} {m : MethodId} {args : Array Value} {below : List Frame} {meth : Method} {c : Code} {G : Gt} {ρ0 : Int → Nat} {M0 : Mo} {res : RS} (F : Fx p l R s m args meth c cX7_reply 4 RX7 G M0 8 (some (FieldType.object "ToolPlex$Message"))) (hno : ∀ x ∈ c.exceptionTable.toList, False) (hnm : meth.name = yX7_reply.name) (x0 x1 x2 : Int) (M : Mo) (h : X7_reply x0 x1 x2 M = some res) : J p l e R s m args below meth c 4 G ρ0 M0 2 res M 0 [(0, (false, x0)), (1, (false, x1)), (2, (true, x2))] [] := by
  unfold X7_reply at h
  obtain ⟨g1, h⟩ := gua h
  refine j_new (ci := 7) F inGX6 tyX6 tyX6_ok q1322 q706 q75 rfl (by decide) dfX6 g1 dX7_reply_0 (fun kl2 => ?_)
  obtain ⟨M3, hM3⟩ : ∃ Z, Z = nO M 7 17 := ⟨_, rfl⟩
  have g4 : kd M3 (nid M) = 8 := by rw [hM3]; exact kd_nO
  rw [← hM3] at kl2 ⊢
  replace h := pt_as h hM3
  refine j_dup F dX7_reply_3 ?_
  refine j_iconst F dX7_reply_4 ?_
  refine j_aload_n F 1 rfl rfl dX7_reply_5 ?_
  obtain ⟨g5, h⟩ := gua h
  refine j_get F ft_X7_101 rfl g5 dX7_reply_6 ?_
  refine j_callI (d' := 2) (argl := [(true, 5), (true, (fd M3 7 1 x1))]) (rk9 := 0) (st := [(false, (nid M))]) F M_X6_init q708 rfl q1323 ⟨by decide, by decide⟩ (Nat.le_of_ble_eq_true rfl) (by decide) (by rw [g4]; decide) dX7_reply_9 rfl h (fun z hz => c_X6_init l F.ht G (nid M) 5 (fd M3 7 1 x1) M3 z hz) (fun v6 M7 h kl8 => ?_)
  refine j_st (st' := [(false, (nid M))]) rfl ?_
  refine j_astore_n F (lv' := [(3, (false, (nid M))), (0, (false, x0)), (1, (false, x1)), (2, (true, x2))]) rfl (by decide) rfl dX7_reply_12 ?_
  refine j_aload_n F 0 rfl rfl dX7_reply_13 ?_
  refine j_aload_n F 2 rfl rfl dX7_reply_14 ?_
  refine j_get F ft_X7_221 rfl (kl8.is g5) dX7_reply_15 ?_
  refine j_put (ty := .int) F ft_X7_221 rfl rfl tyX6 tyX6_ok nmX6 (by decide +kernel) (nf_int _) (kl8.is g4) dX7_reply_18 ?_
  obtain ⟨M9, hM9⟩ : ∃ Z, Z = sF M7 7 3 (nid M) (fd M7 7 3 x1) := ⟨_, rfl⟩
  have kl10 : kle M7 M9 := by rw [hM9]; exact kle_sF
  rw [← hM9]
  replace h := pt_as h hM9
  refine j_aload_n F 0 rfl rfl dX7_reply_21 ?_
  refine j_iload_n F 3 rfl rfl dX7_reply_22 ?_
  refine j_put (ty := .int) F ft_X7_236 rfl rfl tyX6 tyX6_ok nmX6 (by decide +kernel) (nf_int _) (kl10.is (kl8.is g4)) dX7_reply_23 ?_
  obtain ⟨M11, hM11⟩ : ∃ Z, Z = sF M9 7 13 (nid M) x2 := ⟨_, rfl⟩
  have kl12 : kle M9 M11 := by rw [hM11]; exact kle_sF
  rw [← hM11]
  replace h := pt_as h hM11
  refine j_aload_n F 0 rfl rfl dX7_reply_26 ?_
  refine j_aload_n F 1 rfl rfl dX7_reply_27 ?_
  refine j_aload_n F 2 rfl rfl dX7_reply_28 ?_
  refine j_get F ft_X7_101 rfl (kl12.is (kl10.is (kl8.is g5))) dX7_reply_29 ?_
  obtain ⟨g16, h⟩ := gua h
  refine j_callV (d' := 0) (argl := [(true, (fd M11 7 1 x1))]) (rk9 := 2) (st := [(false, (nid M))]) F hno M_X7_copyOf q1267 q1268 q1266 ⟨by decide, by decide⟩ (Nat.le_of_ble_eq_true rfl) (by decide) (ci := 8) rfl (by decide) g16 dX7_reply_32 rfl h (fun z hz => c_X7_copyOf l F.ht G x0 (fd M11 7 1 x1) M11 z hz) (fun v13 M14 h kl15 => ?_)
  refine j_st (st' := [(false, v13), (false, (nid M))]) rfl ?_
  obtain ⟨g17, h⟩ := gua h
  refine j_get F ft_X7_129 rfl g17 dX7_reply_35 ?_
  refine j_put (ty := .int) F ft_X7_104 rfl rfl tyX6 tyX6_ok nmX6 (by decide +kernel) (nf_int _) (kl15.is (kl12.is (kl10.is (kl8.is g4)))) dX7_reply_38 ?_
  obtain ⟨M18, hM18⟩ : ∃ Z, Z = sF M14 7 5 (nid M) (fd M14 3 4 v13) := ⟨_, rfl⟩
  have kl19 : kle M14 M18 := by rw [hM18]; exact kle_sF
  rw [← hM18]
  replace h := pt_as h hM18
  refine j_aload_n F 1 rfl rfl dX7_reply_41 ?_
  refine j_bipush F (by decide) dX7_reply_42 ?_
  refine j_aload_n F 2 rfl rfl dX7_reply_44 ?_
  refine j_get F ft_X7_111 rfl (kl19.is (kl15.is (kl12.is (kl10.is (kl8.is g5))))) dX7_reply_45 ?_
  refine j_iadd F dX7_reply_48 ?_
  refine j_callV (d' := 0) (argl := [(true, (8 + (fd M18 7 2 x1)))]) (rk9 := 2) (st := []) F hno M_X7_channelAt q1326 q30 q1324 ⟨by decide, by decide⟩ (Nat.le_of_ble_eq_true rfl) (by decide) (ci := 8) rfl (by decide) (kl19.is (kl15.is g16)) dX7_reply_49 rfl h (fun z hz => c_X7_channelAt l F.ht G x0 (8 + (fd M18 7 2 x1)) M18 z hz) (fun v20 M21 h kl22 => ?_)
  refine j_st (st' := [(false, v20)]) rfl ?_
  refine j_aload_n F 0 rfl rfl dX7_reply_52 ?_
  obtain ⟨g26, h⟩ := gua h
  refine j_callV (d' := 7) (argl := [(false, (nid M))]) (rk9 := 0) (st := []) F hno M_X1_send q820 q821 q1328 ⟨by decide, by decide⟩ (Nat.le_of_ble_eq_true rfl) (by decide) (ci := 2) rfl (by decide) g26 dX7_reply_53 rfl h (fun z hz => c_X1_send l F.ht G v20 (nid M) M21 z hz) (fun v23 M24 h kl25 => ?_)
  refine j_st (st' := []) rfl ?_
  refine j_aload_n F 0 rfl rfl dX7_reply_56 ?_
  exact j_aret F (Or.inl ⟨_, rfl⟩) h dX7_reply_57
theorem c_X7_reply (l : Launch) (hl : l.stackTraces = false) (G : Gt) (x0 x1 x2 : Int) (M : Mo) (z : RS) (h : X7_reply x0 x1 x2 M = some z) : CT l G yX7_reply (cn yX7_reply cX7_reply 4 (some (FieldType.object "ToolPlex$Message"))) 8 [(false, x0), (false, x1), (true, x2)] M 2 z :=
  ctOf hl (by decide) (Nat.le_of_ble_eq_true rfl) (fun p e R s m args below meth c ρ F hno hnm => w_X7_reply_0 F hno hnm x0 x1 x2 M h)
theorem dX7_askServer_0 : decode cX7_askServer 0 = .ok (.aload_n 1, 1) := by decide +kernel
theorem dX7_askServer_1 : decode cX7_askServer 1 = .ok (.getfield 176, 3) := by decide +kernel
theorem dX7_askServer_4 : decode cX7_askServer 4 = .ok (.astore_n 3, 1) := by decide +kernel
theorem dX7_askServer_5 : decode cX7_askServer 5 = .ok (.new 80, 3) := by decide +kernel
theorem dX7_askServer_8 : decode cX7_askServer 8 = .ok (.dup, 1) := by decide +kernel
theorem dX7_askServer_9 : decode cX7_askServer 9 = .ok (.iconst 3, 1) := by decide +kernel
theorem dX7_askServer_10 : decode cX7_askServer 10 = .ok (.aload_n 3, 1) := by decide +kernel
theorem dX7_askServer_11 : decode cX7_askServer 11 = .ok (.getfield 101, 3) := by decide +kernel
theorem dX7_askServer_14 : decode cX7_askServer 14 = .ok (.invokespecial 206, 3) := by decide +kernel
theorem dX7_askServer_17 : decode cX7_askServer 17 = .ok (.astore 4, 2) := by decide +kernel
theorem dX7_askServer_19 : decode cX7_askServer 19 = .ok (.aload 4, 2) := by decide +kernel
theorem dX7_askServer_21 : decode cX7_askServer 21 = .ok (.aload_n 3, 1) := by decide +kernel
set_option maxRecDepth 100000 in
theorem q733 : Cond.fieldLink RX7 180 "ToolPlex$Message" "asked" "I" ∈ GT := gt 733 (by decide +kernel) (by decide +kernel)
theorem ft_X7_180 : FT RX7 180 RX6 7 RX6 TX6 17 4 := ⟨rfl, by decide, by decide, q733, Or.inl rfl, inGX6⟩
theorem dX7_askServer_22 : decode cX7_askServer 22 = .ok (.getfield 180, 3) := by decide +kernel
theorem dX7_askServer_25 : decode cX7_askServer 25 = .ok (.putfield 180, 3) := by decide +kernel
theorem dX7_askServer_28 : decode cX7_askServer 28 = .ok (.aload 4, 2) := by decide +kernel
theorem dX7_askServer_30 : decode cX7_askServer 30 = .ok (.aload_n 3, 1) := by decide +kernel
set_option maxRecDepth 100000 in
theorem q742 : Cond.fieldLink RX7 209 "ToolPlex$Message" "line" "I" ∈ GT := gt 742 (by decide +kernel) (by decide +kernel)
theorem ft_X7_209 : FT RX7 209 RX6 7 RX6 TX6 17 6 := ⟨rfl, by decide, by decide, q742, Or.inl rfl, inGX6⟩
theorem dX7_askServer_31 : decode cX7_askServer 31 = .ok (.getfield 209, 3) := by decide +kernel
theorem dX7_askServer_34 : decode cX7_askServer 34 = .ok (.putfield 209, 3) := by decide +kernel
theorem dX7_askServer_37 : decode cX7_askServer 37 = .ok (.aload 4, 2) := by decide +kernel
theorem dX7_askServer_39 : decode cX7_askServer 39 = .ok (.aload_n 3, 1) := by decide +kernel
set_option maxRecDepth 100000 in
theorem q747 : Cond.fieldLink RX7 212 "ToolPlex$Message" "unit" "I" ∈ GT := gt 747 (by decide +kernel) (by decide +kernel)
theorem ft_X7_212 : FT RX7 212 RX6 7 RX6 TX6 17 7 := ⟨rfl, by decide, by decide, q747, Or.inl rfl, inGX6⟩
theorem dX7_askServer_40 : decode cX7_askServer 40 = .ok (.getfield 212, 3) := by decide +kernel
theorem dX7_askServer_43 : decode cX7_askServer 43 = .ok (.putfield 212, 3) := by decide +kernel
theorem dX7_askServer_46 : decode cX7_askServer 46 = .ok (.aload 4, 2) := by decide +kernel
theorem dX7_askServer_48 : decode cX7_askServer 48 = .ok (.aload_n 0, 1) := by decide +kernel
set_option maxRecDepth 100000 in
theorem q292 : Cond.fieldLink RX7 215 "ToolPlex$Multiplexer" "nextId" "I" ∈ GT := gt 292 (by decide +kernel) (by decide +kernel)
theorem ft_X7_215 : FT RX7 215 RX7 8 RX7 TX7 12 9 := ⟨rfl, by decide, by decide, q292, Or.inl rfl, inGX7⟩
theorem dX7_askServer_49 : decode cX7_askServer 49 = .ok (.getfield 215, 3) := by decide +kernel
theorem dX7_askServer_52 : decode cX7_askServer 52 = .ok (.putfield 218, 3) := by decide +kernel
theorem dX7_askServer_55 : decode cX7_askServer 55 = .ok (.aload_n 0, 1) := by decide +kernel
theorem dX7_askServer_56 : decode cX7_askServer 56 = .ok (.aload_n 3, 1) := by decide +kernel
theorem dX7_askServer_57 : decode cX7_askServer 57 = .ok (.getfield 111, 3) := by decide +kernel
theorem dX7_askServer_60 : decode cX7_askServer 60 = .ok (.aload_n 3, 1) := by decide +kernel
theorem dX7_askServer_61 : decode cX7_askServer 61 = .ok (.getfield 221, 3) := by decide +kernel
theorem dX7_askServer_64 : decode cX7_askServer 64 = .ok (.iload_n 2, 1) := by decide +kernel
theorem dX7_askServer_65 : decode cX7_askServer 65 = .ok (.invokevirtual 75, 3) := by decide +kernel
theorem dX7_askServer_68 : decode cX7_askServer 68 = .ok (.istore 5, 2) := by decide +kernel
theorem dX7_askServer_70 : decode cX7_askServer 70 = .ok (.iload 5, 2) := by decide +kernel
theorem dX7_askServer_72 : decode cX7_askServer 72 = .ok (.ifCond .lt 24, 3) := by decide +kernel
theorem dX7_askServer_75 : decode cX7_askServer 75 = .ok (.iload 5, 2) := by decide +kernel
theorem dX7_askServer_77 : decode cX7_askServer 77 = .ok (.aload_n 0, 1) := by decide +kernel
theorem dX7_askServer_78 : decode cX7_askServer 78 = .ok (.getfield 39, 3) := by decide +kernel
theorem dX7_askServer_81 : decode cX7_askServer 81 = .ok (.arraylength, 1) := by decide +kernel
theorem dX7_askServer_82 : decode cX7_askServer 82 = .ok (.if_icmp .ge 14, 3) := by decide +kernel
theorem dX7_askServer_85 : decode cX7_askServer 85 = .ok (.aload_n 0, 1) := by decide +kernel
theorem dX7_askServer_86 : decode cX7_askServer 86 = .ok (.getfield 39, 3) := by decide +kernel
theorem dX7_askServer_89 : decode cX7_askServer 89 = .ok (.iload 5, 2) := by decide +kernel
theorem dX7_askServer_91 : decode cX7_askServer 91 = .ok (.aload_n 0, 1) := by decide +kernel
theorem dX7_askServer_92 : decode cX7_askServer 92 = .ok (.getfield 215, 3) := by decide +kernel
theorem dX7_askServer_95 : decode cX7_askServer 95 = .ok (.iastore, 1) := by decide +kernel
theorem dX7_askServer_96 : decode cX7_askServer 96 = .ok (.aload_n 0, 1) := by decide +kernel
theorem dX7_askServer_97 : decode cX7_askServer 97 = .ok (.dup, 1) := by decide +kernel
theorem dX7_askServer_98 : decode cX7_askServer 98 = .ok (.getfield 215, 3) := by decide +kernel
theorem dX7_askServer_101 : decode cX7_askServer 101 = .ok (.iconst 1, 1) := by decide +kernel
theorem dX7_askServer_102 : decode cX7_askServer 102 = .ok (.iadd, 1) := by decide +kernel
theorem dX7_askServer_103 : decode cX7_askServer 103 = .ok (.putfield 215, 3) := by decide +kernel
theorem dX7_askServer_106 : decode cX7_askServer 106 = .ok (.aload_n 1, 1) := by decide +kernel
theorem dX7_askServer_107 : decode cX7_askServer 107 = .ok (.iload_n 2, 1) := by decide +kernel
set_option maxRecDepth 100000 in
theorem q1481 : Cond.code yX8_waitFor cX8_waitFor 2 none ∈ GT := gt 1481 (rfl) (by decide +kernel)
theorem M_X8_waitFor : MY yX8_waitFor cX8_waitFor 2 none 1 := ⟨q1481, q79, by decide +kernel, by decide +kernel⟩
set_option maxRecDepth 100000 in
theorem q1479 : Cond.instanceMethod yX8_waitFor ∈ GT := gt 1479 (by decide +kernel) (by decide +kernel)
set_option maxRecDepth 100000 in
theorem q1480 : Cond.selects RX8 yX8_waitFor yX8_waitFor ∈ GT := gt 1480 (by decide +kernel) (by decide +kernel)
set_option maxRecDepth 100000 in
theorem q1478 : Cond.methodLink RX7 224 yX8_waitFor ∈ GT := gt 1478 (by decide +kernel) (by decide +kernel)
theorem dX7_askServer_108 : decode cX7_askServer 108 = .ok (.invokevirtual 224, 3) := by decide +kernel
theorem dX7_askServer_111 : decode cX7_askServer 111 = .ok (.aload_n 0, 1) := by decide +kernel
theorem dX7_askServer_112 : decode cX7_askServer 112 = .ok (.iconst 2, 1) := by decide +kernel
theorem dX7_askServer_113 : decode cX7_askServer 113 = .ok (.iload_n 2, 1) := by decide +kernel
theorem dX7_askServer_114 : decode cX7_askServer 114 = .ok (.iadd, 1) := by decide +kernel
theorem dX7_askServer_115 : decode cX7_askServer 115 = .ok (.invokevirtual 167, 3) := by decide +kernel
theorem dX7_askServer_118 : decode cX7_askServer 118 = .ok (.aload 4, 2) := by decide +kernel
theorem dX7_askServer_120 : decode cX7_askServer 120 = .ok (.invokevirtual 171, 3) := by decide +kernel
theorem dX7_askServer_123 : decode cX7_askServer 123 = .ok (.return_, 1) := by decide +kernel
set_option maxHeartbeats 4000000 in
set_option maxRecDepth 100000 in
theorem w_X7_askServer_96 {p : Program} {l : Launch} {e : Env} {R : Room} {s : State} {m : MethodId} {args : Array Value} {below : List Frame} {meth : Method} {c : Code} {G : Gt} {ρ0 : Int → Nat} {M0 : Mo} {res : RS} (F : Fx p l R s m args meth c cX7_askServer 6 RX7 G M0 8 none) (hno : ∀ x ∈ c.exceptionTable.toList, False) (hnm : meth.name = yX7_askServer.name) (x0 x1 x2 x4 : Int) (M : Mo) (h : X7_askServer_96 x0 x1 x2 x4 M = some res) : J p l e R s m args below meth c 6 G ρ0 M0 0 res M 96 [(0, (false, x0)), (1, (false, x1)), (2, (true, x2)), (4, (false, x4))] [] := by
  unfold X7_askServer_96 at h
  refine j_aload_n F 0 rfl rfl dX7_askServer_96 ?_
  refine j_dup F dX7_askServer_97 ?_
  obtain ⟨g1, h⟩ := gua h
  refine j_get F ft_X7_215 rfl g1 dX7_askServer_98 ?_
  refine j_iconst F dX7_askServer_101 ?_
  refine j_iadd F dX7_askServer_102 ?_
  refine j_put (ty := .int) F ft_X7_215 rfl rfl tyX7 tyX7_ok nmX7 (by decide +kernel) (nf_int _) g1 dX7_askServer_103 ?_
  obtain ⟨M2, hM2⟩ : ∃ Z, Z = sF M 8 9 x0 ((fd M 8 9 x0) + 1) := ⟨_, rfl⟩
  have kl3 : kle M M2 := by rw [hM2]; exact kle_sF
  rw [← hM2]
  replace h := pt_as h hM2
  refine j_aload_n F 1 rfl rfl dX7_askServer_106 ?_
  refine j_iload_n F 2 rfl rfl dX7_askServer_107 ?_
  obtain ⟨g7, h⟩ := gua h
  refine j_callV (d' := 0) (argl := [(true, x2)]) (rk9 := 0) (st := []) F hno M_X8_waitFor q1479 q1480 q1478 ⟨by decide, by decide⟩ (Nat.le_of_ble_eq_true rfl) (by decide) (ci := 9) rfl (by decide) g7 dX7_askServer_108 rfl h (fun z hz => c_X8_waitFor l F.ht G x1 x2 M2 z hz) (fun v4 M5 h kl6 => ?_)
  refine j_st (st' := []) rfl ?_
  refine j_aload_n F 0 rfl rfl dX7_askServer_111 ?_
  refine j_iconst F dX7_askServer_112 ?_
  refine j_iload_n F 2 rfl rfl dX7_askServer_113 ?_
  refine j_iadd F dX7_askServer_114 ?_
  refine j_callV (d' := 0) (argl := [(true, (2 + x2))]) (rk9 := 2) (st := []) F hno M_X7_channelAt q1326 q30 q1324 ⟨by decide, by decide⟩ (Nat.le_of_ble_eq_true rfl) (by decide) (ci := 8) rfl (by decide) (kl6.is (kl3.is g1)) dX7_askServer_115 rfl h (fun z hz => c_X7_channelAt l F.ht G x0 (2 + x2) M5 z hz) (fun v8 M9 h kl10 => ?_)
  refine j_st (st' := [(false, v8)]) rfl ?_
  refine j_aload F 3 rfl dX7_askServer_118 ?_
  obtain ⟨g14, h⟩ := gua h
  refine j_callV (d' := 7) (argl := [(false, x4)]) (rk9 := 0) (st := []) F hno M_X1_send q820 q821 q1328 ⟨by decide, by decide⟩ (Nat.le_of_ble_eq_true rfl) (by decide) (ci := 2) rfl (by decide) g14 dX7_askServer_120 rfl h (fun z hz => c_X1_send l F.ht G v8 x4 M9 z hz) (fun v11 M12 h kl13 => ?_)
  refine j_st (st' := []) rfl ?_
  exact j_vret F (v := 0) h dX7_askServer_123
set_option maxHeartbeats 4000000 in
set_option maxRecDepth 100000 in
theorem w_X7_askServer_0 {p : Program} {l : Launch} {e : Env} {R : Room} {s : State} {m : MethodId} {args : Array Value} {below : List Frame} {meth : Method} {c : Code} {G : Gt} {ρ0 : Int → Nat} {M0 : Mo} {res : RS} (F : Fx p l R s m args meth c cX7_askServer 6 RX7 G M0 8 none) (hno : ∀ x ∈ c.exceptionTable.toList, False) (hnm : meth.name = yX7_askServer.name) (x0 x1 x2 : Int) (M : Mo) (h : X7_askServer x0 x1 x2 M = some res) : J p l e R s m args below meth c 6 G ρ0 M0 0 res M 0 [(0, (false, x0)), (1, (false, x1)), (2, (true, x2))] [] := by
  unfold X7_askServer at h
  refine j_aload_n F 1 rfl rfl dX7_askServer_0 ?_
  obtain ⟨g1, h⟩ := gua h
  refine j_get F ft_X7_176 rfl g1 dX7_askServer_1 ?_
  refine j_astore_n F (lv' := [(3, (false, (fd M 9 0 x1))), (0, (false, x0)), (1, (false, x1)), (2, (true, x2))]) rfl (by decide) rfl dX7_askServer_4 ?_
  obtain ⟨g2, h⟩ := gua h
  refine j_new (ci := 7) F inGX6 tyX6 tyX6_ok q1322 q706 q75 rfl (by decide) dfX6 g2 dX7_askServer_5 (fun kl3 => ?_)
  obtain ⟨M4, hM4⟩ : ∃ Z, Z = nO M 7 17 := ⟨_, rfl⟩
  have g5 : kd M4 (nid M) = 8 := by rw [hM4]; exact kd_nO
  rw [← hM4] at kl3 ⊢
  replace h := pt_as h hM4
  refine j_dup F dX7_askServer_8 ?_
  refine j_iconst F dX7_askServer_9 ?_
  refine j_aload_n F 0 rfl rfl dX7_askServer_10 ?_
  obtain ⟨g6, h⟩ := gua h
  refine j_get F ft_X7_101 rfl g6 dX7_askServer_11 ?_
  refine j_callI (d' := 2) (argl := [(true, 3), (true, (fd M4 7 1 (fd M 9 0 x1)))]) (rk9 := 0) (st := [(false, (nid M))]) F M_X6_init q708 rfl q1323 ⟨by decide, by decide⟩ (Nat.le_of_ble_eq_true rfl) (by decide) (by rw [g5]; decide) dX7_askServer_14 rfl h (fun z hz => c_X6_init l F.ht G (nid M) 3 (fd M4 7 1 (fd M 9 0 x1)) M4 z hz) (fun v7 M8 h kl9 => ?_)
  refine j_st (st' := [(false, (nid M))]) rfl ?_
  refine j_astore F (lv' := [(4, (false, (nid M))), (3, (false, (fd M 9 0 x1))), (0, (false, x0)), (1, (false, x1)), (2, (true, x2))]) (by decide) rfl dX7_askServer_17 ?_
  refine j_aload F 0 rfl dX7_askServer_19 ?_
  refine j_aload_n F 1 rfl rfl dX7_askServer_21 ?_
  refine j_get F ft_X7_180 rfl (kl9.is g6) dX7_askServer_22 ?_
  refine j_put (ty := .int) F ft_X7_180 rfl rfl tyX6 tyX6_ok nmX6 (by decide +kernel) (nf_int _) (kl9.is g5) dX7_askServer_25 ?_
  obtain ⟨M10, hM10⟩ : ∃ Z, Z = sF M8 7 4 (nid M) (fd M8 7 4 (fd M 9 0 x1)) := ⟨_, rfl⟩
  have kl11 : kle M8 M10 := by rw [hM10]; exact kle_sF
  rw [← hM10]
  replace h := pt_as h hM10
  refine j_aload F 0 rfl dX7_askServer_28 ?_
  refine j_aload_n F 1 rfl rfl dX7_askServer_30 ?_
  refine j_get F ft_X7_209 rfl (kl11.is (kl9.is g6)) dX7_askServer_31 ?_
  refine j_put (ty := .int) F ft_X7_209 rfl rfl tyX6 tyX6_ok nmX6 (by decide +kernel) (nf_int _) (kl11.is (kl9.is g5)) dX7_askServer_34 ?_
  obtain ⟨M12, hM12⟩ : ∃ Z, Z = sF M10 7 6 (nid M) (fd M10 7 6 (fd M 9 0 x1)) := ⟨_, rfl⟩
  have kl13 : kle M10 M12 := by rw [hM12]; exact kle_sF
  rw [← hM12]
  replace h := pt_as h hM12
  refine j_aload F 0 rfl dX7_askServer_37 ?_
  refine j_aload_n F 1 rfl rfl dX7_askServer_39 ?_
  refine j_get F ft_X7_212 rfl (kl13.is (kl11.is (kl9.is g6))) dX7_askServer_40 ?_
  refine j_put (ty := .int) F ft_X7_212 rfl rfl tyX6 tyX6_ok nmX6 (by decide +kernel) (nf_int _) (kl13.is (kl11.is (kl9.is g5))) dX7_askServer_43 ?_
  obtain ⟨M14, hM14⟩ : ∃ Z, Z = sF M12 7 7 (nid M) (fd M12 7 7 (fd M 9 0 x1)) := ⟨_, rfl⟩
  have kl15 : kle M12 M14 := by rw [hM14]; exact kle_sF
  rw [← hM14]
  replace h := pt_as h hM14
  refine j_aload F 0 rfl dX7_askServer_46 ?_
  refine j_aload_n F 2 rfl rfl dX7_askServer_48 ?_
  obtain ⟨g16, h⟩ := gua h
  refine j_get F ft_X7_215 rfl g16 dX7_askServer_49 ?_
  refine j_put (ty := .int) F ft_X7_218 rfl rfl tyX6 tyX6_ok nmX6 (by decide +kernel) (nf_int _) (kl15.is (kl13.is (kl11.is (kl9.is g5)))) dX7_askServer_52 ?_
  obtain ⟨M17, hM17⟩ : ∃ Z, Z = sF M14 7 11 (nid M) (fd M14 8 9 x0) := ⟨_, rfl⟩
  have kl18 : kle M14 M17 := by rw [hM17]; exact kle_sF
  rw [← hM17]
  replace h := pt_as h hM17
  refine j_aload_n F 2 rfl rfl dX7_askServer_55 ?_
  refine j_aload_n F 1 rfl rfl dX7_askServer_56 ?_
  refine j_get F ft_X7_111 rfl (kl18.is (kl15.is (kl13.is (kl11.is (kl9.is g6))))) dX7_askServer_57 ?_
  refine j_aload_n F 1 rfl rfl dX7_askServer_60 ?_
  refine j_get F ft_X7_221 rfl (kl18.is (kl15.is (kl13.is (kl11.is (kl9.is g6))))) dX7_askServer_61 ?_
  refine j_iload_n F 4 rfl rfl dX7_askServer_64 ?_
  refine j_callV (d' := 0) (argl := [(true, (fd M17 7 2 (fd M 9 0 x1))), (true, (fd M17 7 3 (fd M 9 0 x1))), (true, x2)]) (rk9 := 1) (st := []) F hno M_X7_idCell q1407 q36 q1405 ⟨by decide, by decide⟩ (Nat.le_of_ble_eq_true rfl) (by decide) (ci := 8) rfl (by decide) (kl18.is g16) dX7_askServer_65 rfl h (fun z hz => c_X7_idCell l F.ht G x0 (fd M17 7 2 (fd M 9 0 x1)) (fd M17 7 3 (fd M 9 0 x1)) x2 M17 z hz) (fun v19 M20 h kl21 => ?_)
  refine j_st (st' := [(true, v19)]) rfl ?_
  refine j_istore F (lv' := [(5, (true, v19)), (4, (false, (nid M))), (3, (false, (fd M 9 0 x1))), (0, (false, x0)), (1, (false, x1)), (2, (true, x2))]) (by decide) rfl dX7_askServer_68 ?_
  refine j_iload F 0 rfl dX7_askServer_70 ?_
  refine j_if_lt F 96 (by decide) dX7_askServer_72 h (fun h => ?_) (fun h => ?_)
  · skip
    refine j_sub (lv' := [(0, (false, x0)), (1, (false, x1)), (2, (true, x2)), (4, (false, (nid M)))]) [3, 4, 5, 1] rfl ?_
    exact w_X7_askServer_96 F hno hnm x0 x1 x2 (nid M) M20 h
  · skip
    refine j_iload F 0 rfl dX7_askServer_75 ?_
    refine j_aload_n F 3 rfl rfl dX7_askServer_77 ?_
    refine j_get F ft_X7_39 rfl (kl21.is (kl18.is g16)) dX7_askServer_78 ?_
    obtain ⟨g22, h⟩ := gua h
    refine j_alen F g22 dX7_askServer_81 ?_
    refine j_icmp_ge F 96 (by decide) dX7_askServer_82 h (fun h => ?_) (fun h => ?_)
    · skip
      refine j_sub (lv' := [(0, (false, x0)), (1, (false, x1)), (2, (true, x2)), (4, (false, (nid M)))]) [3, 4, 5, 1] rfl ?_
      exact w_X7_askServer_96 F hno hnm x0 x1 x2 (nid M) M20 h
    · skip
      refine j_aload_n F 3 rfl rfl dX7_askServer_85 ?_
      refine j_get F ft_X7_39 rfl (kl21.is (kl18.is g16)) dX7_askServer_86 ?_
      refine j_iload F 0 rfl dX7_askServer_89 ?_
      refine j_aload_n F 3 rfl rfl dX7_askServer_91 ?_
      refine j_get F ft_X7_215 rfl (kl21.is (kl18.is g16)) dX7_askServer_92 ?_
      obtain ⟨g23, h⟩ := gua h
      obtain ⟨g24, h⟩ := gua h
      refine j_iastore F g23 g24 dX7_askServer_95 ?_
      obtain ⟨M25, hM25⟩ : ∃ Z, Z = sE M20 0 (fd M20 8 8 x0) (wr v19) (fd M20 8 9 x0) := ⟨_, rfl⟩
      have kl26 : kle M20 M25 := by rw [hM25]; exact kle_sE
      rw [← hM25]
      replace h := pt_as h hM25
      refine j_sub (lv' := [(0, (false, x0)), (1, (false, x1)), (2, (true, x2)), (4, (false, (nid M)))]) [3, 4, 5, 1] rfl ?_
      exact w_X7_askServer_96 F hno hnm x0 x1 x2 (nid M) M25 h
theorem c_X7_askServer (l : Launch) (hl : l.stackTraces = false) (G : Gt) (x0 x1 x2 : Int) (M : Mo) (z : RS) (h : X7_askServer x0 x1 x2 M = some z) : CT l G yX7_askServer (cn yX7_askServer cX7_askServer 6 none) 8 [(false, x0), (false, x1), (true, x2)] M 0 z :=
  ctOf hl (by decide) (Nat.le_of_ble_eq_true rfl) (fun p e R s m args below meth c ρ F hno hnm => w_X7_askServer_0 F hno hnm x0 x1 x2 M h)
theorem dX7_takeRequest_0 : decode cX7_takeRequest 0 = .ok (.aload_n 0, 1) := by decide +kernel
theorem dX7_takeRequest_1 : decode cX7_takeRequest 1 = .ok (.getfield 35, 3) := by decide +kernel
theorem dX7_takeRequest_4 : decode cX7_takeRequest 4 = .ok (.invokevirtual 149, 3) := by decide +kernel
theorem dX7_takeRequest_7 : decode cX7_takeRequest 7 = .ok (.iconst 1, 1) := by decide +kernel
theorem dX7_takeRequest_8 : decode cX7_takeRequest 8 = .ok (.isub, 1) := by decide +kernel
theorem dX7_takeRequest_9 : decode cX7_takeRequest 9 = .ok (.istore_n 2, 1) := by decide +kernel
theorem dX7_takeRequest_10 : decode cX7_takeRequest 10 = .ok (.iload_n 2, 1) := by decide +kernel
theorem dX7_takeRequest_11 : decode cX7_takeRequest 11 = .ok (.ifCond .lt 81, 3) := by decide +kernel
theorem dfX8 : ∀ j, j < 3 → defaultValue (tyX8 j) = vp_V ((lay 9).map (fun b => if b then Value.int 0 else .null)) j := by decide +kernel
set_option maxRecDepth 100000 in
theorem q1451 : Cond.instantiable RX8 3 ∈ GT := gt 1451 (by decide +kernel) (by decide +kernel)
theorem dX7_takeRequest_92 : decode cX7_takeRequest 92 = .ok (.new 174, 3) := by decide +kernel
theorem dX7_takeRequest_95 : decode cX7_takeRequest 95 = .ok (.dup, 1) := by decide +kernel
theorem dX7_takeRequest_96 : decode cX7_takeRequest 96 = .ok (.aload_n 1, 1) := by decide +kernel
set_option maxRecDepth 100000 in
theorem q1454 : Cond.code yX8_init cX8_init 2 none ∈ GT := gt 1454 (rfl) (by decide +kernel)
theorem M_X8_init : MY yX8_init cX8_init 2 none 1 := ⟨q1454, q79, by decide +kernel, by decide +kernel⟩
set_option maxRecDepth 100000 in
theorem q1453 : Cond.instanceMethod yX8_init ∈ GT := gt 1453 (by decide +kernel) (by decide +kernel)
set_option maxRecDepth 100000 in
theorem q1452 : Cond.methodLink RX7 190 yX8_init ∈ GT := gt 1452 (by decide +kernel) (by decide +kernel)
theorem dX7_takeRequest_97 : decode cX7_takeRequest 97 = .ok (.invokespecial 190, 3) := by decide +kernel
theorem dX7_takeRequest_100 : decode cX7_takeRequest 100 = .ok (.astore_n 2, 1) := by decide +kernel
theorem dX7_takeRequest_101 : decode cX7_takeRequest 101 = .ok (.aload_n 0, 1) := by decide +kernel
theorem dX7_takeRequest_102 : decode cX7_takeRequest 102 = .ok (.aload_n 1, 1) := by decide +kernel
theorem dX7_takeRequest_103 : decode cX7_takeRequest 103 = .ok (.getfield 101, 3) := by decide +kernel
theorem dX7_takeRequest_106 : decode cX7_takeRequest 106 = .ok (.invokevirtual 125, 3) := by decide +kernel
theorem dX7_takeRequest_109 : decode cX7_takeRequest 109 = .ok (.invokevirtual 71, 3) := by decide +kernel
theorem dX7_takeRequest_112 : decode cX7_takeRequest 112 = .ok (.istore_n 3, 1) := by decide +kernel
theorem dX7_takeRequest_113 : decode cX7_takeRequest 113 = .ok (.iconst 0, 1) := by decide +kernel
theorem dX7_takeRequest_114 : decode cX7_takeRequest 114 = .ok (.istore 4, 2) := by decide +kernel
theorem dX7_takeRequest_14 : decode cX7_takeRequest 14 = .ok (.aload_n 0, 1) := by decide +kernel
theorem dX7_takeRequest_15 : decode cX7_takeRequest 15 = .ok (.getfield 35, 3) := by decide +kernel
theorem dX7_takeRequest_18 : decode cX7_takeRequest 18 = .ok (.iload_n 2, 1) := by decide +kernel
theorem dX7_takeRequest_19 : decode cX7_takeRequest 19 = .ok (.invokevirtual 153, 3) := by decide +kernel
theorem dX7_takeRequest_22 : decode cX7_takeRequest 22 = .ok (.checkcast 174, 3) := by decide +kernel
theorem dX7_takeRequest_25 : decode cX7_takeRequest 25 = .ok (.getfield 176, 3) := by decide +kernel
theorem dX7_takeRequest_28 : decode cX7_takeRequest 28 = .ok (.astore_n 3, 1) := by decide +kernel
theorem dX7_takeRequest_29 : decode cX7_takeRequest 29 = .ok (.aload_n 3, 1) := by decide +kernel
theorem dX7_takeRequest_30 : decode cX7_takeRequest 30 = .ok (.getfield 111, 3) := by decide +kernel
theorem dX7_takeRequest_33 : decode cX7_takeRequest 33 = .ok (.aload_n 1, 1) := by decide +kernel
theorem dX7_takeRequest_34 : decode cX7_takeRequest 34 = .ok (.getfield 111, 3) := by decide +kernel
theorem dX7_takeRequest_37 : decode cX7_takeRequest 37 = .ok (.if_icmp .ne 7, 3) := by decide +kernel
theorem dX7_takeRequest_44 : decode cX7_takeRequest 44 = .ok (.iconst 0, 1) := by decide +kernel
theorem dX7_takeRequest_40 : decode cX7_takeRequest 40 = .ok (.iconst 1, 1) := by decide +kernel
theorem dX7_takeRequest_41 : decode cX7_takeRequest 41 = .ok (.goto 4, 3) := by decide +kernel
theorem dX7_takeRequest_45 : decode cX7_takeRequest 45 = .ok (.istore 4, 2) := by decide +kernel
theorem dX7_takeRequest_47 : decode cX7_takeRequest 47 = .ok (.iload 4, 2) := by decide +kernel
theorem dX7_takeRequest_49 : decode cX7_takeRequest 49 = .ok (.ifCond .eq 37, 3) := by decide +kernel
theorem dX7_takeRequest_52 : decode cX7_takeRequest 52 = .ok (.aload_n 3, 1) := by decide +kernel
theorem dX7_takeRequest_53 : decode cX7_takeRequest 53 = .ok (.getfield 180, 3) := by decide +kernel
theorem dX7_takeRequest_56 : decode cX7_takeRequest 56 = .ok (.aload_n 1, 1) := by decide +kernel
theorem dX7_takeRequest_57 : decode cX7_takeRequest 57 = .ok (.getfield 180, 3) := by decide +kernel
theorem dX7_takeRequest_60 : decode cX7_takeRequest 60 = .ok (.if_icmp .ne 26, 3) := by decide +kernel
theorem dX7_takeRequest_63 : decode cX7_takeRequest 63 = .ok (.aload_n 3, 1) := by decide +kernel
theorem dX7_takeRequest_64 : decode cX7_takeRequest 64 = .ok (.getfield 101, 3) := by decide +kernel
theorem dX7_takeRequest_67 : decode cX7_takeRequest 67 = .ok (.aload_n 1, 1) := by decide +kernel
theorem dX7_takeRequest_68 : decode cX7_takeRequest 68 = .ok (.getfield 101, 3) := by decide +kernel
theorem dX7_takeRequest_71 : decode cX7_takeRequest 71 = .ok (.if_icmp .ne 15, 3) := by decide +kernel
theorem dX7_takeRequest_74 : decode cX7_takeRequest 74 = .ok (.aload_n 0, 1) := by decide +kernel
theorem dX7_takeRequest_75 : decode cX7_takeRequest 75 = .ok (.iload_n 2, 1) := by decide +kernel
set_option maxRecDepth 100000 in
theorem q1450 : Cond.code yX7_dismiss cX7_dismiss 6 none ∈ GT := gt 1450 (rfl) (by decide +kernel)
theorem M_X7_dismiss : MY yX7_dismiss cX7_dismiss 6 none 1 := ⟨q1450, q63, by decide +kernel, by decide +kernel⟩
set_option maxRecDepth 100000 in
theorem q1449 : Cond.instanceMethod yX7_dismiss ∈ GT := gt 1449 (by decide +kernel) (by decide +kernel)
set_option maxRecDepth 100000 in
theorem q43 : Cond.selects RX7 yX7_dismiss yX7_dismiss ∈ GT := gt 43 (by decide +kernel) (by decide +kernel)
set_option maxRecDepth 100000 in
theorem q1447 : Cond.methodLink RX7 183 yX7_dismiss ∈ GT := gt 1447 (by decide +kernel) (by decide +kernel)
theorem dX7_takeRequest_76 : decode cX7_takeRequest 76 = .ok (.invokevirtual 183, 3) := by decide +kernel
theorem dX7_takeRequest_79 : decode cX7_takeRequest 79 = .ok (.aload_n 0, 1) := by decide +kernel
theorem dX7_takeRequest_80 : decode cX7_takeRequest 80 = .ok (.aload_n 3, 1) := by decide +kernel
theorem dX7_takeRequest_81 : decode cX7_takeRequest 81 = .ok (.iconst 2, 1) := by decide +kernel
set_option maxRecDepth 100000 in
theorem q1321 : Cond.code yX7_reply cX7_reply 4 (some (FieldType.object "ToolPlex$Message")) ∈ GT := gt 1321 (rfl) (by decide +kernel)
theorem M_X7_reply : MY yX7_reply cX7_reply 4 (some (FieldType.object "ToolPlex$Message")) 2 := ⟨q1321, q63, by decide +kernel, by decide +kernel⟩
set_option maxRecDepth 100000 in
theorem q1320 : Cond.instanceMethod yX7_reply ∈ GT := gt 1320 (by decide +kernel) (by decide +kernel)
set_option maxRecDepth 100000 in
theorem q29 : Cond.selects RX7 yX7_reply yX7_reply ∈ GT := gt 29 (by decide +kernel) (by decide +kernel)
set_option maxRecDepth 100000 in
theorem q1318 : Cond.methodLink RX7 186 yX7_reply ∈ GT := gt 1318 (by decide +kernel) (by decide +kernel)
theorem dX7_takeRequest_82 : decode cX7_takeRequest 82 = .ok (.invokevirtual 186, 3) := by decide +kernel
theorem dX7_takeRequest_85 : decode cX7_takeRequest 85 = .ok (.pop, 1) := by decide +kernel
theorem dX7_takeRequest_86 : decode cX7_takeRequest 86 = .ok (.iinc 2 (-1), 3) := by decide +kernel
theorem dX7_takeRequest_89 : decode cX7_takeRequest 89 = .ok (.goto (-79), 3) := by decide +kernel
theorem dX7_takeRequest_116 : decode cX7_takeRequest 116 = .ok (.iload_n 3, 1) := by decide +kernel
theorem dX7_takeRequest_117 : decode cX7_takeRequest 117 = .ok (.ifCond .eq 81, 3) := by decide +kernel
theorem dX7_takeRequest_120 : decode cX7_takeRequest 120 = .ok (.iload 4, 2) := by decide +kernel
theorem dX7_takeRequest_122 : decode cX7_takeRequest 122 = .ok (.aload_n 0, 1) := by decide +kernel
theorem dX7_takeRequest_123 : decode cX7_takeRequest 123 = .ok (.getfield 58, 3) := by decide +kernel
theorem dX7_takeRequest_126 : decode cX7_takeRequest 126 = .ok (.invokevirtual 149, 3) := by decide +kernel
theorem dX7_takeRequest_129 : decode cX7_takeRequest 129 = .ok (.if_icmp .ge 69, 3) := by decide +kernel
theorem dX7_takeRequest_132 : decode cX7_takeRequest 132 = .ok (.aload_n 0, 1) := by decide +kernel
theorem dX7_takeRequest_133 : decode cX7_takeRequest 133 = .ok (.getfield 58, 3) := by decide +kernel
theorem dX7_takeRequest_136 : decode cX7_takeRequest 136 = .ok (.iload 4, 2) := by decide +kernel
theorem dX7_takeRequest_138 : decode cX7_takeRequest 138 = .ok (.invokevirtual 153, 3) := by decide +kernel
theorem dX7_takeRequest_141 : decode cX7_takeRequest 141 = .ok (.checkcast 157, 3) := by decide +kernel
theorem dX7_takeRequest_144 : decode cX7_takeRequest 144 = .ok (.astore 5, 2) := by decide +kernel
theorem dX7_takeRequest_146 : decode cX7_takeRequest 146 = .ok (.aload 5, 2) := by decide +kernel
theorem dX7_takeRequest_148 : decode cX7_takeRequest 148 = .ok (.getfield 159, 3) := by decide +kernel
theorem dX7_takeRequest_151 : decode cX7_takeRequest 151 = .ok (.ifCond .eq 41, 3) := by decide +kernel
theorem dX7_takeRequest_154 : decode cX7_takeRequest 154 = .ok (.aload 5, 2) := by decide +kernel
theorem dX7_takeRequest_156 : decode cX7_takeRequest 156 = .ok (.aload_n 1, 1) := by decide +kernel
theorem dX7_takeRequest_157 : decode cX7_takeRequest 157 = .ok (.getfield 180, 3) := by decide +kernel
set_option maxRecDepth 100000 in
theorem q1473 : Cond.code yX9_does cX9_does 2 (some FieldType.boolean) ∈ GT := gt 1473 (rfl) (by decide +kernel)
theorem M_X9_does : MY yX9_does cX9_does 2 (some FieldType.boolean) 1 := ⟨q1473, q72, by decide +kernel, by decide +kernel⟩
set_option maxRecDepth 100000 in
theorem q1471 : Cond.instanceMethod yX9_does ∈ GT := gt 1471 (by decide +kernel) (by decide +kernel)
set_option maxRecDepth 100000 in
theorem q1472 : Cond.selects RX9 yX9_does yX9_does ∈ GT := gt 1472 (by decide +kernel) (by decide +kernel)
set_option maxRecDepth 100000 in
theorem q1470 : Cond.methodLink RX7 192 yX9_does ∈ GT := gt 1470 (by decide +kernel) (by decide +kernel)
theorem dX7_takeRequest_160 : decode cX7_takeRequest 160 = .ok (.invokevirtual 192, 3) := by decide +kernel
theorem dX7_takeRequest_163 : decode cX7_takeRequest 163 = .ok (.ifCond .eq 29, 3) := by decide +kernel
theorem dX7_takeRequest_166 : decode cX7_takeRequest 166 = .ok (.aload 5, 2) := by decide +kernel
theorem dX7_takeRequest_168 : decode cX7_takeRequest 168 = .ok (.aload_n 0, 1) := by decide +kernel
theorem dX7_takeRequest_169 : decode cX7_takeRequest 169 = .ok (.getfield 54, 3) := by decide +kernel
theorem dX7_takeRequest_172 : decode cX7_takeRequest 172 = .ok (.aload_n 1, 1) := by decide +kernel
theorem dX7_takeRequest_173 : decode cX7_takeRequest 173 = .ok (.getfield 101, 3) := by decide +kernel
theorem dX7_takeRequest_176 : decode cX7_takeRequest 176 = .ok (.invokevirtual 143, 3) := by decide +kernel
theorem dX7_takeRequest_179 : decode cX7_takeRequest 179 = .ok (.invokevirtual 163, 3) := by decide +kernel
theorem dX7_takeRequest_182 : decode cX7_takeRequest 182 = .ok (.ifCond .eq 10, 3) := by decide +kernel
theorem dX7_takeRequest_185 : decode cX7_takeRequest 185 = .ok (.aload_n 0, 1) := by decide +kernel
theorem dX7_takeRequest_186 : decode cX7_takeRequest 186 = .ok (.aload_n 2, 1) := by decide +kernel
theorem dX7_takeRequest_187 : decode cX7_takeRequest 187 = .ok (.iload 4, 2) := by decide +kernel
set_option maxRecDepth 100000 in
theorem q1477 : Cond.code yX7_askServer cX7_askServer 6 none ∈ GT := gt 1477 (rfl) (by decide +kernel)
theorem M_X7_askServer : MY yX7_askServer cX7_askServer 6 none 2 := ⟨q1477, q63, by decide +kernel, by decide +kernel⟩
set_option maxRecDepth 100000 in
theorem q1476 : Cond.instanceMethod yX7_askServer ∈ GT := gt 1476 (by decide +kernel) (by decide +kernel)
set_option maxRecDepth 100000 in
theorem q44 : Cond.selects RX7 yX7_askServer yX7_askServer ∈ GT := gt 44 (by decide +kernel) (by decide +kernel)
set_option maxRecDepth 100000 in
theorem q1474 : Cond.methodLink RX7 195 yX7_askServer ∈ GT := gt 1474 (by decide +kernel) (by decide +kernel)
theorem dX7_takeRequest_189 : decode cX7_takeRequest 189 = .ok (.invokevirtual 195, 3) := by decide +kernel
theorem dX7_takeRequest_192 : decode cX7_takeRequest 192 = .ok (.iinc 4 1, 3) := by decide +kernel
theorem dX7_takeRequest_195 : decode cX7_takeRequest 195 = .ok (.goto (-79), 3) := by decide +kernel
theorem dX7_takeRequest_198 : decode cX7_takeRequest 198 = .ok (.aload_n 2, 1) := by decide +kernel
set_option maxRecDepth 100000 in
theorem q1260 : Cond.code yX8_isComplete cX8_isComplete 2 (some FieldType.boolean) ∈ GT := gt 1260 (rfl) (by decide +kernel)
theorem M_X8_isComplete : MY yX8_isComplete cX8_isComplete 2 (some FieldType.boolean) 0 := ⟨q1260, q79, by decide +kernel, by decide +kernel⟩
set_option maxRecDepth 100000 in
theorem q1258 : Cond.instanceMethod yX8_isComplete ∈ GT := gt 1258 (by decide +kernel) (by decide +kernel)
set_option maxRecDepth 100000 in
theorem q1259 : Cond.selects RX8 yX8_isComplete yX8_isComplete ∈ GT := gt 1259 (by decide +kernel) (by decide +kernel)
set_option maxRecDepth 100000 in
theorem q1257 : Cond.methodLink RX7 199 yX8_isComplete ∈ GT := gt 1257 (by decide +kernel) (by decide +kernel)
theorem dX7_takeRequest_199 : decode cX7_takeRequest 199 = .ok (.invokevirtual 199, 3) := by decide +kernel
theorem dX7_takeRequest_202 : decode cX7_takeRequest 202 = .ok (.ifCond .eq 13, 3) := by decide +kernel
theorem dX7_takeRequest_215 : decode cX7_takeRequest 215 = .ok (.aload_n 0, 1) := by decide +kernel
theorem dX7_takeRequest_216 : decode cX7_takeRequest 216 = .ok (.getfield 35, 3) := by decide +kernel
theorem dX7_takeRequest_219 : decode cX7_takeRequest 219 = .ok (.aload_n 2, 1) := by decide +kernel
set_option maxRecDepth 100000 in
theorem q1482 : Cond.methodLink RX7 202 yJx4a65c_add_9ea2d ∈ GT := gt 1482 (by decide +kernel) (by decide +kernel)
theorem dX7_takeRequest_220 : decode cX7_takeRequest 220 = .ok (.invokevirtual 202, 3) := by decide +kernel
theorem dX7_takeRequest_223 : decode cX7_takeRequest 223 = .ok (.pop, 1) := by decide +kernel
theorem dX7_takeRequest_224 : decode cX7_takeRequest 224 = .ok (.return_, 1) := by decide +kernel
theorem dX7_takeRequest_205 : decode cX7_takeRequest 205 = .ok (.aload_n 0, 1) := by decide +kernel
theorem dX7_takeRequest_206 : decode cX7_takeRequest 206 = .ok (.aload_n 1, 1) := by decide +kernel
theorem dX7_takeRequest_207 : decode cX7_takeRequest 207 = .ok (.iconst 4, 1) := by decide +kernel
theorem dX7_takeRequest_208 : decode cX7_takeRequest 208 = .ok (.invokevirtual 186, 3) := by decide +kernel
theorem dX7_takeRequest_211 : decode cX7_takeRequest 211 = .ok (.pop, 1) := by decide +kernel
theorem dX7_takeRequest_212 : decode cX7_takeRequest 212 = .ok (.goto 12, 3) := by decide +kernel
set_option maxHeartbeats 4000000 in
set_option maxRecDepth 100000 in
theorem w_X7_takeRequest_86 {p : Program} {l : Launch} {e : Env} {R : Room} {s : State} {m : MethodId} {args : Array Value} {below : List Frame} {meth : Method} {c : Code} {G : Gt} {ρ0 : Int → Nat} {M0 : Mo} {res : RS} (F : Fx p l R s m args meth c cX7_takeRequest 6 RX7 G M0 9 none) (hno : ∀ x ∈ c.exceptionTable.toList, False) (hnm : meth.name = yX7_takeRequest.name) (k10 : Int → Int → Int → Mo → Option RS) (hk10 : ∀ (x0 x1 x2 : Int) (M : Mo), k10 x0 x1 x2 M = some res → J p l e R s m args below meth c 6 G ρ0 M0 0 res M 10 [(0, (false, x0)), (1, (false, x1)), (2, (true, x2))] []) (x0 x1 x2 : Int) (M : Mo) (h : X7_takeRequest_86 k10 x0 x1 x2 M = some res) : J p l e R s m args below meth c 6 G ρ0 M0 0 res M 86 [(0, (false, x0)), (1, (false, x1)), (2, (true, x2))] [] := by
  unfold X7_takeRequest_86 at h
  refine j_iinc F 2 (lv' := [(2, (true, (x2 + (-1)))), (0, (false, x0)), (1, (false, x1))]) rfl (by decide) rfl dX7_takeRequest_86 ?_
  refine j_goto F 10 (by decide) dX7_takeRequest_89 ?_
  refine j_sub (lv' := [(0, (false, x0)), (1, (false, x1)), (2, (true, (x2 + (-1))))]) [1, 2, 0] rfl ?_
  exact hk10 x0 x1 (x2 + (-1)) M h
set_option maxHeartbeats 4000000 in
set_option maxRecDepth 100000 in
theorem w_X7_takeRequest_45 {p : Program} {l : Launch} {e : Env} {R : Room} {s : State} {m : MethodId} {args : Array Value} {below : List Frame} {meth : Method} {c : Code} {G : Gt} {ρ0 : Int → Nat} {M0 : Mo} {res : RS} (F : Fx p l R s m args meth c cX7_takeRequest 6 RX7 G M0 9 none) (hno : ∀ x ∈ c.exceptionTable.toList, False) (hnm : meth.name = yX7_takeRequest.name) (k10 : Int → Int → Int → Mo → Option RS) (hk10 : ∀ (x0 x1 x2 : Int) (M : Mo), k10 x0 x1 x2 M = some res → J p l e R s m args below meth c 6 G ρ0 M0 0 res M 10 [(0, (false, x0)), (1, (false, x1)), (2, (true, x2))] []) (x0 x1 x2 x3 y0 : Int) (M : Mo) (h : X7_takeRequest_45 k10 x0 x1 x2 x3 y0 M = some res) : J p l e R s m args below meth c 6 G ρ0 M0 0 res M 45 [(0, (false, x0)), (1, (false, x1)), (2, (true, x2)), (3, (false, x3))] [(true, y0)] := by
  unfold X7_takeRequest_45 at h
  refine j_istore F (lv' := [(4, (true, y0)), (0, (false, x0)), (1, (false, x1)), (2, (true, x2)), (3, (false, x3))]) (by decide) rfl dX7_takeRequest_45 ?_
  refine j_iload F 0 rfl dX7_takeRequest_47 ?_
  refine j_if_eq F 86 (by decide) dX7_takeRequest_49 h (fun h => ?_) (fun h => ?_)
  · skip
    refine j_sub (lv' := [(0, (false, x0)), (1, (false, x1)), (2, (true, x2))]) [1, 2, 3] rfl ?_
    exact w_X7_takeRequest_86 F hno hnm k10 hk10 x0 x1 x2 M h
  · skip
    refine j_aload_n F 4 rfl rfl dX7_takeRequest_52 ?_
    obtain ⟨g1, h⟩ := gua h
    refine j_get F ft_X7_180 rfl g1 dX7_takeRequest_53 ?_
    refine j_aload_n F 2 rfl rfl dX7_takeRequest_56 ?_
    obtain ⟨g2, h⟩ := gua h
    refine j_get F ft_X7_180 rfl g2 dX7_takeRequest_57 ?_
    refine j_icmp_ne F 86 (by decide) dX7_takeRequest_60 h (fun h => ?_) (fun h => ?_)
    · skip
      refine j_sub (lv' := [(0, (false, x0)), (1, (false, x1)), (2, (true, x2))]) [1, 2, 3] rfl ?_
      exact w_X7_takeRequest_86 F hno hnm k10 hk10 x0 x1 x2 M h
    · skip
      refine j_aload_n F 4 rfl rfl dX7_takeRequest_63 ?_
      refine j_get F ft_X7_101 rfl g1 dX7_takeRequest_64 ?_
      refine j_aload_n F 2 rfl rfl dX7_takeRequest_67 ?_
      refine j_get F ft_X7_101 rfl g2 dX7_takeRequest_68 ?_
      refine j_icmp_ne F 86 (by decide) dX7_takeRequest_71 h (fun h => ?_) (fun h => ?_)
      · skip
        refine j_sub (lv' := [(0, (false, x0)), (1, (false, x1)), (2, (true, x2))]) [1, 2, 3] rfl ?_
        exact w_X7_takeRequest_86 F hno hnm k10 hk10 x0 x1 x2 M h
      · skip
        refine j_aload_n F 1 rfl rfl dX7_takeRequest_74 ?_
        refine j_iload_n F 3 rfl rfl dX7_takeRequest_75 ?_
        obtain ⟨g6, h⟩ := gua h
        refine j_callV (d' := 8) (argl := [(true, x2)]) (rk9 := 0) (st := []) F hno M_X7_dismiss q1449 q43 q1447 ⟨by decide, by decide⟩ (Nat.le_of_ble_eq_true rfl) (by decide) (ci := 8) rfl (by decide) g6 dX7_takeRequest_76 rfl h (fun z hz => c_X7_dismiss l F.ht G x0 x2 M z hz) (fun v3 M4 h kl5 => ?_)
        refine j_st (st' := []) rfl ?_
        refine j_aload_n F 1 rfl rfl dX7_takeRequest_79 ?_
        refine j_aload_n F 4 rfl rfl dX7_takeRequest_80 ?_
        refine j_iconst F dX7_takeRequest_81 ?_
        refine j_callV (d' := 8) (argl := [(false, x3), (true, 2)]) (rk9 := 2) (st := []) F hno M_X7_reply q1320 q29 q1318 ⟨by decide, by decide⟩ (Nat.le_of_ble_eq_true rfl) (by decide) (ci := 8) rfl (by decide) (kl5.is g6) dX7_takeRequest_82 rfl h (fun z hz => c_X7_reply l F.ht G x0 x3 2 M4 z hz) (fun v7 M8 h kl9 => ?_)
        refine j_st (st' := [(false, v7)]) rfl ?_
        refine j_pop F dX7_takeRequest_85 ?_
        refine j_sub (lv' := [(0, (false, x0)), (1, (false, x1)), (2, (true, x2))]) [1, 2, 3] rfl ?_
        exact w_X7_takeRequest_86 F hno hnm k10 hk10 x0 x1 x2 M8 h
set_option maxHeartbeats 4000000 in
set_option maxRecDepth 100000 in
theorem w_X7_takeRequest_192 {p : Program} {l : Launch} {e : Env} {R : Room} {s : State} {m : MethodId} {args : Array Value} {below : List Frame} {meth : Method} {c : Code} {G : Gt} {ρ0 : Int → Nat} {M0 : Mo} {res : RS} (F : Fx p l R s m args meth c cX7_takeRequest 6 RX7 G M0 9 none) (hno : ∀ x ∈ c.exceptionTable.toList, False) (hnm : meth.name = yX7_takeRequest.name) (k116 : Int → Int → Int → Int → Int → Mo → Option RS) (hk116 : ∀ (x0 x1 x2 x3 x4 : Int) (M : Mo), k116 x0 x1 x2 x3 x4 M = some res → J p l e R s m args below meth c 6 G ρ0 M0 0 res M 116 [(0, (false, x0)), (1, (false, x1)), (2, (false, x2)), (3, (true, x3)), (4, (true, x4))] []) (x0 x1 x2 x3 x4 : Int) (M : Mo) (h : X7_takeRequest_192 k116 x0 x1 x2 x3 x4 M = some res) : J p l e R s m args below meth c 6 G ρ0 M0 0 res M 192 [(0, (false, x0)), (1, (false, x1)), (2, (false, x2)), (3, (true, x3)), (4, (true, x4))] [] := by
  unfold X7_takeRequest_192 at h
  refine j_iinc F 4 (lv' := [(4, (true, (x4 + 1))), (0, (false, x0)), (1, (false, x1)), (2, (false, x2)), (3, (true, x3))]) rfl (by decide) rfl dX7_takeRequest_192 ?_
  refine j_goto F 116 (by decide) dX7_takeRequest_195 ?_
  refine j_sub (lv' := [(0, (false, x0)), (1, (false, x1)), (2, (false, x2)), (3, (true, x3)), (4, (true, (x4 + 1)))]) [1, 2, 3, 4, 0] rfl ?_
  exact hk116 x0 x1 x2 x3 (x4 + 1) M h
set_option maxHeartbeats 4000000 in
set_option maxRecDepth 100000 in
theorem w_X7_takeRequest_198 {p : Program} {l : Launch} {e : Env} {R : Room} {s : State} {m : MethodId} {args : Array Value} {below : List Frame} {meth : Method} {c : Code} {G : Gt} {ρ0 : Int → Nat} {M0 : Mo} {res : RS} (F : Fx p l R s m args meth c cX7_takeRequest 6 RX7 G M0 9 none) (hno : ∀ x ∈ c.exceptionTable.toList, False) (hnm : meth.name = yX7_takeRequest.name) (x0 x1 x2 : Int) (M : Mo) (h : X7_takeRequest_198 x0 x1 x2 M = some res) : J p l e R s m args below meth c 6 G ρ0 M0 0 res M 198 [(0, (false, x0)), (1, (false, x1)), (2, (false, x2))] [] := by
  unfold X7_takeRequest_198 at h
  refine j_aload_n F 2 rfl rfl dX7_takeRequest_198 ?_
  obtain ⟨g4, h⟩ := gua h
  refine j_callV (d' := 0) (argl := []) (rk9 := 1) (st := []) F hno M_X8_isComplete q1258 q1259 q1257 ⟨by decide, by decide⟩ (Nat.le_of_ble_eq_true rfl) (by decide) (ci := 9) rfl (by decide) g4 dX7_takeRequest_199 rfl h (fun z hz => c_X8_isComplete l F.ht G x2 M z hz) (fun v1 M2 h kl3 => ?_)
  refine j_st (st' := [(true, v1)]) rfl ?_
  refine j_if_eq F 215 (by decide) dX7_takeRequest_202 h (fun h => ?_) (fun h => ?_)
  · skip
    refine j_aload_n F 0 rfl rfl dX7_takeRequest_215 ?_
    obtain ⟨g5, h⟩ := gua h
    refine j_get F ft_X7_35 rfl g5 dX7_takeRequest_216 ?_
    refine j_aload_n F 2 rfl rfl dX7_takeRequest_219 ?_
    obtain ⟨g9, h⟩ := gua h
    refine j_callV (d' := 6) (argl := [(false, x2)]) (rk9 := 1) (st := []) F hno M_Jx4a65c_add_9ea2d q515 q516 q1482 ⟨by decide, by decide⟩ (Nat.le_of_ble_eq_true rfl) (by decide) (ci := 0) rfl (by decide) g9 dX7_takeRequest_220 rfl h (fun z hz => c_Jx4a65c_add_9ea2d l F.ht G (fd M2 8 7 x0) x2 M2 z hz) (fun v6 M7 h kl8 => ?_)
    refine j_st (st' := [(true, v6)]) rfl ?_
    refine j_pop F dX7_takeRequest_223 ?_
    exact j_vret F (v := 0) h dX7_takeRequest_224
  · skip
    refine j_aload_n F 0 rfl rfl dX7_takeRequest_205 ?_
    refine j_aload_n F 1 rfl rfl dX7_takeRequest_206 ?_
    refine j_iconst F dX7_takeRequest_207 ?_
    obtain ⟨g13, h⟩ := gua h
    refine j_callV (d' := 8) (argl := [(false, x1), (true, 4)]) (rk9 := 2) (st := []) F hno M_X7_reply q1320 q29 q1318 ⟨by decide, by decide⟩ (Nat.le_of_ble_eq_true rfl) (by decide) (ci := 8) rfl (by decide) g13 dX7_takeRequest_208 rfl h (fun z hz => c_X7_reply l F.ht G x0 x1 4 M2 z hz) (fun v10 M11 h kl12 => ?_)
    refine j_st (st' := [(false, v10)]) rfl ?_
    refine j_pop F dX7_takeRequest_211 ?_
    refine j_goto F 224 (by decide) dX7_takeRequest_212 ?_
    exact j_vret F (v := 0) h dX7_takeRequest_224
set_option maxHeartbeats 4000000 in
set_option maxRecDepth 100000 in
theorem w_X7_takeRequest_116 {p : Program} {l : Launch} {e : Env} {R : Room} {s : State} {m : MethodId} {args : Array Value} {below : List Frame} {meth : Method} {c : Code} {G : Gt} {ρ0 : Int → Nat} {M0 : Mo} {res : RS} (F : Fx p l R s m args meth c cX7_takeRequest 6 RX7 G M0 9 none) (hno : ∀ x ∈ c.exceptionTable.toList, False) (hnm : meth.name = yX7_takeRequest.name) (n : Nat) : ∀ (x0 x1 x2 x3 x4 : Int) (M : Mo), X7_takeRequest_116 n x0 x1 x2 x3 x4 M = some res → J p l e R s m args below meth c 6 G ρ0 M0 0 res M 116 [(0, (false, x0)), (1, (false, x1)), (2, (false, x2)), (3, (true, x3)), (4, (true, x4))] [] := by
  induction n with
  | zero => intro x0 x1 x2 x3 x4 M h; cases h
  | succ n ih =>
    intro x0 x1 x2 x3 x4 M h
    rw [X7_takeRequest_116] at h
    refine j_iload_n F 3 rfl rfl dX7_takeRequest_116 ?_
    refine j_if_eq F 198 (by decide) dX7_takeRequest_117 h (fun h => ?_) (fun h => ?_)
    · skip
      refine j_sub (lv' := [(0, (false, x0)), (1, (false, x1)), (2, (false, x2))]) [0, 1, 2] rfl ?_
      exact w_X7_takeRequest_198 F hno hnm x0 x1 x2 M h
    · skip
      refine j_iload F 4 rfl dX7_takeRequest_120 ?_
      refine j_aload_n F 0 rfl rfl dX7_takeRequest_122 ?_
      obtain ⟨g1, h⟩ := gua h
      refine j_get F ft_X7_58 rfl g1 dX7_takeRequest_123 ?_
      obtain ⟨g5, h⟩ := gua h
      refine j_callV (d' := 0) (argl := []) (rk9 := 1) (st := [(true, x4)]) F hno M_Jx4a65c_size_8abf5 q448 q449 q1246 ⟨by decide, by decide⟩ (Nat.le_of_ble_eq_true rfl) (by decide) (ci := 0) rfl (by decide) g5 dX7_takeRequest_126 rfl h (fun z hz => c_Jx4a65c_size_8abf5 l F.ht G (fd M 8 1 x0) M z hz) (fun v2 M3 h kl4 => ?_)
      refine j_st (st' := [(true, v2), (true, x4)]) rfl ?_
      refine j_icmp_ge F 198 (by decide) dX7_takeRequest_129 h (fun h => ?_) (fun h => ?_)
      · skip
        refine j_sub (lv' := [(0, (false, x0)), (1, (false, x1)), (2, (false, x2))]) [0, 1, 2] rfl ?_
        exact w_X7_takeRequest_198 F hno hnm x0 x1 x2 M3 h
      · skip
        refine j_aload_n F 0 rfl rfl dX7_takeRequest_132 ?_
        refine j_get F ft_X7_58 rfl (kl4.is g1) dX7_takeRequest_133 ?_
        refine j_iload F 4 rfl dX7_takeRequest_136 ?_
        obtain ⟨g9, h⟩ := gua h
        refine j_callV (d' := 2) (argl := [(true, x4)]) (rk9 := 2) (st := []) F hno M_Jx4a65c_get_915e3 q856 q857 q1247 ⟨by decide, by decide⟩ (Nat.le_of_ble_eq_true rfl) (by decide) (ci := 0) rfl (by decide) g9 dX7_takeRequest_138 rfl h (fun z hz => c_Jx4a65c_get_915e3 l F.ht G (fd M3 8 1 x0) x4 M3 z hz) (fun v6 M7 h kl8 => ?_)
        refine j_st (st' := [(false, v6)]) rfl ?_
        obtain ⟨g10, h⟩ := gua h
        refine j_cast F q1431 rfl (by decide) g10 dX7_takeRequest_141 ?_
        refine j_astore F (lv' := [(5, (false, v6)), (0, (false, x0)), (1, (false, x1)), (2, (false, x2)), (3, (true, x3)), (4, (true, x4))]) (by decide) rfl dX7_takeRequest_144 ?_
        refine j_aload F 0 rfl dX7_takeRequest_146 ?_
        obtain ⟨g11, h⟩ := gua h
        refine j_get F ft_X7_159 rfl g11 dX7_takeRequest_148 ?_
        refine j_if_eq F 192 (by decide) dX7_takeRequest_151 h (fun h => ?_) (fun h => ?_)
        · skip
          refine j_sub (lv' := [(0, (false, x0)), (1, (false, x1)), (2, (false, x2)), (3, (true, x3)), (4, (true, x4))]) [1, 2, 3, 4, 5] rfl ?_
          exact w_X7_takeRequest_192 F hno hnm (X7_takeRequest_116 n) ih x0 x1 x2 x3 x4 M7 h
        · skip
          refine j_aload F 0 rfl dX7_takeRequest_154 ?_
          refine j_aload_n F 2 rfl rfl dX7_takeRequest_156 ?_
          obtain ⟨g12, h⟩ := gua h
          refine j_get F ft_X7_180 rfl g12 dX7_takeRequest_157 ?_
          refine j_callV (d' := 0) (argl := [(true, (fd M7 7 4 x1))]) (rk9 := 1) (st := []) F hno M_X9_does q1471 q1472 q1470 ⟨by decide, by decide⟩ (Nat.le_of_ble_eq_true rfl) (by decide) (ci := 10) rfl (by decide) g11 dX7_takeRequest_160 rfl h (fun z hz => c_X9_does l F.ht G v6 (fd M7 7 4 x1) M7 z hz) (fun v13 M14 h kl15 => ?_)
          refine j_st (st' := [(true, v13)]) rfl ?_
          refine j_if_eq F 192 (by decide) dX7_takeRequest_163 h (fun h => ?_) (fun h => ?_)
          · skip
            refine j_sub (lv' := [(0, (false, x0)), (1, (false, x1)), (2, (false, x2)), (3, (true, x3)), (4, (true, x4))]) [1, 2, 3, 4, 5] rfl ?_
            exact w_X7_takeRequest_192 F hno hnm (X7_takeRequest_116 n) ih x0 x1 x2 x3 x4 M14 h
          · skip
            refine j_aload F 0 rfl dX7_takeRequest_166 ?_
            refine j_aload_n F 1 rfl rfl dX7_takeRequest_168 ?_
            refine j_get F ft_X7_54 rfl (kl15.is (kl8.is (kl4.is g1))) dX7_takeRequest_169 ?_
            refine j_aload_n F 2 rfl rfl dX7_takeRequest_172 ?_
            refine j_get F ft_X7_101 rfl (kl15.is g12) dX7_takeRequest_173 ?_
            obtain ⟨g19, h⟩ := gua h
            refine j_callV (d' := 1) (argl := [(true, (fd M14 7 1 x1))]) (rk9 := 1) (st := [(false, v6)]) F hno M_X4_languageOf q1073 q1074 q1341 ⟨by decide, by decide⟩ (Nat.le_of_ble_eq_true rfl) (by decide) (ci := 5) rfl (by decide) g19 dX7_takeRequest_176 rfl h (fun z hz => c_X4_languageOf l F.ht G (fd M14 8 0 x0) (fd M14 7 1 x1) M14 z hz) (fun v16 M17 h kl18 => ?_)
            refine j_st (st' := [(true, v16), (false, v6)]) rfl ?_
            refine j_callV (d' := 0) (argl := [(true, v16)]) (rk9 := 1) (st := []) F hno M_X9_speaks q1343 q1344 q1342 ⟨by decide, by decide⟩ (Nat.le_of_ble_eq_true rfl) (by decide) (ci := 10) rfl (by decide) (kl18.is (kl15.is g11)) dX7_takeRequest_179 rfl h (fun z hz => c_X9_speaks l F.ht G v6 v16 M17 z hz) (fun v20 M21 h kl22 => ?_)
            refine j_st (st' := [(true, v20)]) rfl ?_
            refine j_if_eq F 192 (by decide) dX7_takeRequest_182 h (fun h => ?_) (fun h => ?_)
            · skip
              refine j_sub (lv' := [(0, (false, x0)), (1, (false, x1)), (2, (false, x2)), (3, (true, x3)), (4, (true, x4))]) [1, 2, 3, 4, 5] rfl ?_
              exact w_X7_takeRequest_192 F hno hnm (X7_takeRequest_116 n) ih x0 x1 x2 x3 x4 M21 h
            · skip
              refine j_aload_n F 1 rfl rfl dX7_takeRequest_185 ?_
              refine j_aload_n F 3 rfl rfl dX7_takeRequest_186 ?_
              refine j_iload F 5 rfl dX7_takeRequest_187 ?_
              refine j_callV (d' := 8) (argl := [(false, x2), (true, x4)]) (rk9 := 0) (st := []) F hno M_X7_askServer q1476 q44 q1474 ⟨by decide, by decide⟩ (Nat.le_of_ble_eq_true rfl) (by decide) (ci := 8) rfl (by decide) (kl22.is (kl18.is (kl15.is (kl8.is (kl4.is g1))))) dX7_takeRequest_189 rfl h (fun z hz => c_X7_askServer l F.ht G x0 x2 x4 M21 z hz) (fun v23 M24 h kl25 => ?_)
              refine j_st (st' := []) rfl ?_
              refine j_sub (lv' := [(0, (false, x0)), (1, (false, x1)), (2, (false, x2)), (3, (true, x3)), (4, (true, x4))]) [1, 2, 3, 4, 5] rfl ?_
              exact w_X7_takeRequest_192 F hno hnm (X7_takeRequest_116 n) ih x0 x1 x2 x3 x4 M24 h
set_option maxHeartbeats 4000000 in
set_option maxRecDepth 100000 in
theorem w_X7_takeRequest_10 {p : Program} {l : Launch} {e : Env} {R : Room} {s : State} {m : MethodId} {args : Array Value} {below : List Frame} {meth : Method} {c : Code} {G : Gt} {ρ0 : Int → Nat} {M0 : Mo} {res : RS} (F : Fx p l R s m args meth c cX7_takeRequest 6 RX7 G M0 9 none) (hno : ∀ x ∈ c.exceptionTable.toList, False) (hnm : meth.name = yX7_takeRequest.name) (n : Nat) : ∀ (x0 x1 x2 : Int) (M : Mo), X7_takeRequest_10 n x0 x1 x2 M = some res → J p l e R s m args below meth c 6 G ρ0 M0 0 res M 10 [(0, (false, x0)), (1, (false, x1)), (2, (true, x2))] [] := by
  induction n with
  | zero => intro x0 x1 x2 M h; cases h
  | succ n ih =>
    intro x0 x1 x2 M h
    rw [X7_takeRequest_10] at h
    refine j_iload_n F 2 rfl rfl dX7_takeRequest_10 ?_
    refine j_if_lt F 92 (by decide) dX7_takeRequest_11 h (fun h => ?_) (fun h => ?_)
    · skip
      obtain ⟨g1, h⟩ := gua h
      refine j_new (ci := 9) F inGX8 tyX8 tyX8_ok q1248 q1451 q79 rfl (by decide) dfX8 g1 dX7_takeRequest_92 (fun kl2 => ?_)
      obtain ⟨M3, hM3⟩ : ∃ Z, Z = nO M 9 3 := ⟨_, rfl⟩
      have g4 : kd M3 (nid M) = 10 := by rw [hM3]; exact kd_nO
      rw [← hM3] at kl2 ⊢
      replace h := pt_as h hM3
      refine j_dup F dX7_takeRequest_95 ?_
      refine j_aload_n F 1 rfl rfl dX7_takeRequest_96 ?_
      refine j_callI (d' := 1) (argl := [(false, x1)]) (rk9 := 0) (st := [(false, (nid M))]) F M_X8_init q1453 rfl q1452 ⟨by decide, by decide⟩ (Nat.le_of_ble_eq_true rfl) (by decide) (by rw [g4]; decide) dX7_takeRequest_97 rfl h (fun z hz => c_X8_init l F.ht G (nid M) x1 M3 z hz) (fun v5 M6 h kl7 => ?_)
      refine j_st (st' := [(false, (nid M))]) rfl ?_
      refine j_astore_n F (lv' := [(2, (false, (nid M))), (0, (false, x0)), (1, (false, x1))]) rfl (by decide) rfl dX7_takeRequest_100 ?_
      refine j_aload_n F 1 rfl rfl dX7_takeRequest_101 ?_
      refine j_aload_n F 2 rfl rfl dX7_takeRequest_102 ?_
      obtain ⟨g8, h⟩ := gua h
      refine j_get F ft_X7_101 rfl g8 dX7_takeRequest_103 ?_
      obtain ⟨g12, h⟩ := gua h
      refine j_callV (d' := 0) (argl := [(true, (fd M6 7 1 x1))]) (rk9 := 2) (st := []) F hno M_X7_copyOf q1267 q1268 q1266 ⟨by decide, by decide⟩ (Nat.le_of_ble_eq_true rfl) (by decide) (ci := 8) rfl (by decide) g12 dX7_takeRequest_106 rfl h (fun z hz => c_X7_copyOf l F.ht G x0 (fd M6 7 1 x1) M6 z hz) (fun v9 M10 h kl11 => ?_)
      refine j_st (st' := [(false, v9)]) rfl ?_
      obtain ⟨g16, h⟩ := gua h
      refine j_callV (d' := 0) (argl := []) (rk9 := 1) (st := []) F hno M_X2_isHere q468 q469 q467 ⟨by decide, by decide⟩ (Nat.le_of_ble_eq_true rfl) (by decide) (ci := 3) rfl (by decide) g16 dX7_takeRequest_109 rfl h (fun z hz => c_X2_isHere l F.ht G v9 M10 z hz) (fun v13 M14 h kl15 => ?_)
      refine j_st (st' := [(true, v13)]) rfl ?_
      refine j_istore_n F (lv' := [(3, (true, v13)), (2, (false, (nid M))), (0, (false, x0)), (1, (false, x1))]) rfl (by decide) rfl dX7_takeRequest_112 ?_
      refine j_iconst F dX7_takeRequest_113 ?_
      refine j_istore F (lv' := [(4, (true, 0)), (3, (true, v13)), (2, (false, (nid M))), (0, (false, x0)), (1, (false, x1))]) (by decide) rfl dX7_takeRequest_114 ?_
      refine j_sub (lv' := [(0, (false, x0)), (1, (false, x1)), (2, (false, (nid M))), (3, (true, v13)), (4, (true, 0))]) [3, 4, 2, 1, 0] rfl ?_
      exact w_X7_takeRequest_116 F hno hnm FU x0 x1 (nid M) v13 0 M14 h
    · skip
      refine j_aload_n F 0 rfl rfl dX7_takeRequest_14 ?_
      obtain ⟨g17, h⟩ := gua h
      refine j_get F ft_X7_35 rfl g17 dX7_takeRequest_15 ?_
      refine j_iload_n F 2 rfl rfl dX7_takeRequest_18 ?_
      obtain ⟨g21, h⟩ := gua h
      refine j_callV (d' := 2) (argl := [(true, x2)]) (rk9 := 2) (st := []) F hno M_Jx4a65c_get_915e3 q856 q857 q1247 ⟨by decide, by decide⟩ (Nat.le_of_ble_eq_true rfl) (by decide) (ci := 0) rfl (by decide) g21 dX7_takeRequest_19 rfl h (fun z hz => c_Jx4a65c_get_915e3 l F.ht G (fd M 8 7 x0) x2 M z hz) (fun v18 M19 h kl20 => ?_)
      refine j_st (st' := [(false, v18)]) rfl ?_
      obtain ⟨g22, h⟩ := gua h
      refine j_cast F q1248 rfl (by decide) g22 dX7_takeRequest_22 ?_
      obtain ⟨g23, h⟩ := gua h
      refine j_get F ft_X7_176 rfl g23 dX7_takeRequest_25 ?_
      refine j_astore_n F (lv' := [(3, (false, (fd M19 9 0 v18))), (0, (false, x0)), (1, (false, x1)), (2, (true, x2))]) rfl (by decide) rfl dX7_takeRequest_28 ?_
      refine j_aload_n F 0 rfl rfl dX7_takeRequest_29 ?_
      obtain ⟨g24, h⟩ := gua h
      refine j_get F ft_X7_111 rfl g24 dX7_takeRequest_30 ?_
      refine j_aload_n F 2 rfl rfl dX7_takeRequest_33 ?_
      obtain ⟨g25, h⟩ := gua h
      refine j_get F ft_X7_111 rfl g25 dX7_takeRequest_34 ?_
      refine j_icmp_ne F 44 (by decide) dX7_takeRequest_37 h (fun h => ?_) (fun h => ?_)
      · skip
        refine j_iconst F dX7_takeRequest_44 ?_
        refine j_sub (lv' := [(0, (false, x0)), (1, (false, x1)), (2, (true, x2)), (3, (false, (fd M19 9 0 v18)))]) [1, 2, 3, 0] rfl ?_
        exact w_X7_takeRequest_45 F hno hnm (X7_takeRequest_10 n) ih x0 x1 x2 (fd M19 9 0 v18) 0 M19 h
      · skip
        refine j_iconst F dX7_takeRequest_40 ?_
        refine j_goto F 45 (by decide) dX7_takeRequest_41 ?_
        refine j_sub (lv' := [(0, (false, x0)), (1, (false, x1)), (2, (true, x2)), (3, (false, (fd M19 9 0 v18)))]) [1, 2, 3, 0] rfl ?_
        exact w_X7_takeRequest_45 F hno hnm (X7_takeRequest_10 n) ih x0 x1 x2 (fd M19 9 0 v18) 1 M19 h
set_option maxHeartbeats 4000000 in
set_option maxRecDepth 100000 in
theorem w_X7_takeRequest_0 {p : Program} {l : Launch} {e : Env} {R : Room} {s : State} {m : MethodId} {args : Array Value} {below : List Frame} {meth : Method} {c : Code} {G : Gt} {ρ0 : Int → Nat} {M0 : Mo} {res : RS} (F : Fx p l R s m args meth c cX7_takeRequest 6 RX7 G M0 9 none) (hno : ∀ x ∈ c.exceptionTable.toList, False) (hnm : meth.name = yX7_takeRequest.name) (x0 x1 : Int) (M : Mo) (h : X7_takeRequest x0 x1 M = some res) : J p l e R s m args below meth c 6 G ρ0 M0 0 res M 0 [(0, (false, x0)), (1, (false, x1))] [] := by
  unfold X7_takeRequest at h
  refine j_aload_n F 0 rfl rfl dX7_takeRequest_0 ?_
  obtain ⟨g1, h⟩ := gua h
  refine j_get F ft_X7_35 rfl g1 dX7_takeRequest_1 ?_
  obtain ⟨g5, h⟩ := gua h
  refine j_callV (d' := 0) (argl := []) (rk9 := 1) (st := []) F hno M_Jx4a65c_size_8abf5 q448 q449 q1246 ⟨by decide, by decide⟩ (Nat.le_of_ble_eq_true rfl) (by decide) (ci := 0) rfl (by decide) g5 dX7_takeRequest_4 rfl h (fun z hz => c_Jx4a65c_size_8abf5 l F.ht G (fd M 8 7 x0) M z hz) (fun v2 M3 h kl4 => ?_)
  refine j_st (st' := [(true, v2)]) rfl ?_
  refine j_iconst F dX7_takeRequest_7 ?_
  refine j_isub F dX7_takeRequest_8 ?_
  refine j_istore_n F (lv' := [(2, (true, (v2 - 1))), (0, (false, x0)), (1, (false, x1))]) rfl (by decide) rfl dX7_takeRequest_9 ?_
  refine j_sub (lv' := [(0, (false, x0)), (1, (false, x1)), (2, (true, (v2 - 1)))]) [1, 2, 0] rfl ?_
  exact w_X7_takeRequest_10 F hno hnm FU x0 x1 (v2 - 1) M3 h
theorem c_X7_takeRequest (l : Launch) (hl : l.stackTraces = false) (G : Gt) (x0 x1 : Int) (M : Mo) (z : RS) (h : X7_takeRequest x0 x1 M = some z) : CT l G yX7_takeRequest (cn yX7_takeRequest cX7_takeRequest 6 none) 9 [(false, x0), (false, x1)] M 0 z :=
  ctOf hl (by decide) (Nat.le_of_ble_eq_true rfl) (fun p e R s m args below meth c ρ F hno hnm => w_X7_takeRequest_0 F hno hnm x0 x1 M h)
theorem dX7_takeCancel_0 : decode cX7_takeCancel 0 = .ok (.aload_n 0, 1) := by decide +kernel
theorem dX7_takeCancel_1 : decode cX7_takeCancel 1 = .ok (.getfield 35, 3) := by decide +kernel
theorem dX7_takeCancel_4 : decode cX7_takeCancel 4 = .ok (.invokevirtual 149, 3) := by decide +kernel
theorem dX7_takeCancel_7 : decode cX7_takeCancel 7 = .ok (.iconst 1, 1) := by decide +kernel
theorem dX7_takeCancel_8 : decode cX7_takeCancel 8 = .ok (.isub, 1) := by decide +kernel
theorem dX7_takeCancel_9 : decode cX7_takeCancel 9 = .ok (.istore_n 2, 1) := by decide +kernel
theorem dX7_takeCancel_10 : decode cX7_takeCancel 10 = .ok (.iload_n 2, 1) := by decide +kernel
theorem dX7_takeCancel_11 : decode cX7_takeCancel 11 = .ok (.ifCond .lt 58, 3) := by decide +kernel
theorem dX7_takeCancel_69 : decode cX7_takeCancel 69 = .ok (.return_, 1) := by decide +kernel
theorem dX7_takeCancel_14 : decode cX7_takeCancel 14 = .ok (.aload_n 0, 1) := by decide +kernel
theorem dX7_takeCancel_15 : decode cX7_takeCancel 15 = .ok (.getfield 35, 3) := by decide +kernel
theorem dX7_takeCancel_18 : decode cX7_takeCancel 18 = .ok (.iload_n 2, 1) := by decide +kernel
theorem dX7_takeCancel_19 : decode cX7_takeCancel 19 = .ok (.invokevirtual 153, 3) := by decide +kernel
theorem dX7_takeCancel_22 : decode cX7_takeCancel 22 = .ok (.checkcast 174, 3) := by decide +kernel
theorem dX7_takeCancel_25 : decode cX7_takeCancel 25 = .ok (.getfield 176, 3) := by decide +kernel
theorem dX7_takeCancel_28 : decode cX7_takeCancel 28 = .ok (.astore_n 3, 1) := by decide +kernel
theorem dX7_takeCancel_29 : decode cX7_takeCancel 29 = .ok (.aload_n 3, 1) := by decide +kernel
theorem dX7_takeCancel_30 : decode cX7_takeCancel 30 = .ok (.getfield 111, 3) := by decide +kernel
theorem dX7_takeCancel_33 : decode cX7_takeCancel 33 = .ok (.aload_n 1, 1) := by decide +kernel
theorem dX7_takeCancel_34 : decode cX7_takeCancel 34 = .ok (.getfield 111, 3) := by decide +kernel
theorem dX7_takeCancel_37 : decode cX7_takeCancel 37 = .ok (.if_icmp .ne 26, 3) := by decide +kernel
theorem dX7_takeCancel_40 : decode cX7_takeCancel 40 = .ok (.aload_n 3, 1) := by decide +kernel
theorem dX7_takeCancel_41 : decode cX7_takeCancel 41 = .ok (.getfield 221, 3) := by decide +kernel
theorem dX7_takeCancel_44 : decode cX7_takeCancel 44 = .ok (.aload_n 1, 1) := by decide +kernel
theorem dX7_takeCancel_45 : decode cX7_takeCancel 45 = .ok (.getfield 221, 3) := by decide +kernel
theorem dX7_takeCancel_48 : decode cX7_takeCancel 48 = .ok (.if_icmp .ne 15, 3) := by decide +kernel
theorem dX7_takeCancel_51 : decode cX7_takeCancel 51 = .ok (.aload_n 0, 1) := by decide +kernel
theorem dX7_takeCancel_52 : decode cX7_takeCancel 52 = .ok (.iload_n 2, 1) := by decide +kernel
theorem dX7_takeCancel_53 : decode cX7_takeCancel 53 = .ok (.invokevirtual 183, 3) := by decide +kernel
theorem dX7_takeCancel_56 : decode cX7_takeCancel 56 = .ok (.aload_n 0, 1) := by decide +kernel
theorem dX7_takeCancel_57 : decode cX7_takeCancel 57 = .ok (.aload_n 3, 1) := by decide +kernel
theorem dX7_takeCancel_58 : decode cX7_takeCancel 58 = .ok (.iconst 2, 1) := by decide +kernel
theorem dX7_takeCancel_59 : decode cX7_takeCancel 59 = .ok (.invokevirtual 186, 3) := by decide +kernel
theorem dX7_takeCancel_62 : decode cX7_takeCancel 62 = .ok (.pop, 1) := by decide +kernel
theorem dX7_takeCancel_63 : decode cX7_takeCancel 63 = .ok (.iinc 2 (-1), 3) := by decide +kernel
theorem dX7_takeCancel_66 : decode cX7_takeCancel 66 = .ok (.goto (-56), 3) := by decide +kernel
set_option maxHeartbeats 4000000 in
set_option maxRecDepth 100000 in
theorem w_X7_takeCancel_63 {p : Program} {l : Launch} {e : Env} {R : Room} {s : State} {m : MethodId} {args : Array Value} {below : List Frame} {meth : Method} {c : Code} {G : Gt} {ρ0 : Int → Nat} {M0 : Mo} {res : RS} (F : Fx p l R s m args meth c cX7_takeCancel 4 RX7 G M0 9 none) (hno : ∀ x ∈ c.exceptionTable.toList, False) (hnm : meth.name = yX7_takeCancel.name) (k10 : Int → Int → Int → Mo → Option RS) (hk10 : ∀ (x0 x1 x2 : Int) (M : Mo), k10 x0 x1 x2 M = some res → J p l e R s m args below meth c 4 G ρ0 M0 0 res M 10 [(0, (false, x0)), (1, (false, x1)), (2, (true, x2))] []) (x0 x1 x2 : Int) (M : Mo) (h : X7_takeCancel_63 k10 x0 x1 x2 M = some res) : J p l e R s m args below meth c 4 G ρ0 M0 0 res M 63 [(0, (false, x0)), (1, (false, x1)), (2, (true, x2))] [] := by
  unfold X7_takeCancel_63 at h
  refine j_iinc F 2 (lv' := [(2, (true, (x2 + (-1)))), (0, (false, x0)), (1, (false, x1))]) rfl (by decide) rfl dX7_takeCancel_63 ?_
  refine j_goto F 10 (by decide) dX7_takeCancel_66 ?_
  refine j_sub (lv' := [(0, (false, x0)), (1, (false, x1)), (2, (true, (x2 + (-1))))]) [1, 2, 0] rfl ?_
  exact hk10 x0 x1 (x2 + (-1)) M h
set_option maxHeartbeats 4000000 in
set_option maxRecDepth 100000 in
theorem w_X7_takeCancel_10 {p : Program} {l : Launch} {e : Env} {R : Room} {s : State} {m : MethodId} {args : Array Value} {below : List Frame} {meth : Method} {c : Code} {G : Gt} {ρ0 : Int → Nat} {M0 : Mo} {res : RS} (F : Fx p l R s m args meth c cX7_takeCancel 4 RX7 G M0 9 none) (hno : ∀ x ∈ c.exceptionTable.toList, False) (hnm : meth.name = yX7_takeCancel.name) (n : Nat) : ∀ (x0 x1 x2 : Int) (M : Mo), X7_takeCancel_10 n x0 x1 x2 M = some res → J p l e R s m args below meth c 4 G ρ0 M0 0 res M 10 [(0, (false, x0)), (1, (false, x1)), (2, (true, x2))] [] := by
  induction n with
  | zero => intro x0 x1 x2 M h; cases h
  | succ n ih =>
    intro x0 x1 x2 M h
    rw [X7_takeCancel_10] at h
    refine j_iload_n F 2 rfl rfl dX7_takeCancel_10 ?_
    refine j_if_lt F 69 (by decide) dX7_takeCancel_11 h (fun h => ?_) (fun h => ?_)
    · skip
      exact j_vret F (v := 0) h dX7_takeCancel_69
    · skip
      refine j_aload_n F 0 rfl rfl dX7_takeCancel_14 ?_
      obtain ⟨g1, h⟩ := gua h
      refine j_get F ft_X7_35 rfl g1 dX7_takeCancel_15 ?_
      refine j_iload_n F 2 rfl rfl dX7_takeCancel_18 ?_
      obtain ⟨g5, h⟩ := gua h
      refine j_callV (d' := 2) (argl := [(true, x2)]) (rk9 := 2) (st := []) F hno M_Jx4a65c_get_915e3 q856 q857 q1247 ⟨by decide, by decide⟩ (Nat.le_of_ble_eq_true rfl) (by decide) (ci := 0) rfl (by decide) g5 dX7_takeCancel_19 rfl h (fun z hz => c_Jx4a65c_get_915e3 l F.ht G (fd M 8 7 x0) x2 M z hz) (fun v2 M3 h kl4 => ?_)
      refine j_st (st' := [(false, v2)]) rfl ?_
      obtain ⟨g6, h⟩ := gua h
      refine j_cast F q1248 rfl (by decide) g6 dX7_takeCancel_22 ?_
      obtain ⟨g7, h⟩ := gua h
      refine j_get F ft_X7_176 rfl g7 dX7_takeCancel_25 ?_
      refine j_astore_n F (lv' := [(3, (false, (fd M3 9 0 v2))), (0, (false, x0)), (1, (false, x1)), (2, (true, x2))]) rfl (by decide) rfl dX7_takeCancel_28 ?_
      refine j_aload_n F 0 rfl rfl dX7_takeCancel_29 ?_
      obtain ⟨g8, h⟩ := gua h
      refine j_get F ft_X7_111 rfl g8 dX7_takeCancel_30 ?_
      refine j_aload_n F 2 rfl rfl dX7_takeCancel_33 ?_
      obtain ⟨g9, h⟩ := gua h
      refine j_get F ft_X7_111 rfl g9 dX7_takeCancel_34 ?_
      refine j_icmp_ne F 63 (by decide) dX7_takeCancel_37 h (fun h => ?_) (fun h => ?_)
      · skip
        refine j_sub (lv' := [(0, (false, x0)), (1, (false, x1)), (2, (true, x2))]) [1, 2, 3] rfl ?_
        exact w_X7_takeCancel_63 F hno hnm (X7_takeCancel_10 n) ih x0 x1 x2 M3 h
      · skip
        refine j_aload_n F 0 rfl rfl dX7_takeCancel_40 ?_
        refine j_get F ft_X7_221 rfl g8 dX7_takeCancel_41 ?_
        refine j_aload_n F 2 rfl rfl dX7_takeCancel_44 ?_
        refine j_get F ft_X7_221 rfl g9 dX7_takeCancel_45 ?_
        refine j_icmp_ne F 63 (by decide) dX7_takeCancel_48 h (fun h => ?_) (fun h => ?_)
        · skip
          refine j_sub (lv' := [(0, (false, x0)), (1, (false, x1)), (2, (true, x2))]) [1, 2, 3] rfl ?_
          exact w_X7_takeCancel_63 F hno hnm (X7_takeCancel_10 n) ih x0 x1 x2 M3 h
        · skip
          refine j_aload_n F 1 rfl rfl dX7_takeCancel_51 ?_
          refine j_iload_n F 3 rfl rfl dX7_takeCancel_52 ?_
          refine j_callV (d' := 8) (argl := [(true, x2)]) (rk9 := 0) (st := []) F hno M_X7_dismiss q1449 q43 q1447 ⟨by decide, by decide⟩ (Nat.le_of_ble_eq_true rfl) (by decide) (ci := 8) rfl (by decide) (kl4.is g1) dX7_takeCancel_53 rfl h (fun z hz => c_X7_dismiss l F.ht G x0 x2 M3 z hz) (fun v10 M11 h kl12 => ?_)
          refine j_st (st' := []) rfl ?_
          refine j_aload_n F 1 rfl rfl dX7_takeCancel_56 ?_
          refine j_aload_n F 0 rfl rfl dX7_takeCancel_57 ?_
          refine j_iconst F dX7_takeCancel_58 ?_
          refine j_callV (d' := 8) (argl := [(false, (fd M3 9 0 v2)), (true, 2)]) (rk9 := 2) (st := []) F hno M_X7_reply q1320 q29 q1318 ⟨by decide, by decide⟩ (Nat.le_of_ble_eq_true rfl) (by decide) (ci := 8) rfl (by decide) (kl12.is (kl4.is g1)) dX7_takeCancel_59 rfl h (fun z hz => c_X7_reply l F.ht G x0 (fd M3 9 0 v2) 2 M11 z hz) (fun v13 M14 h kl15 => ?_)
          refine j_st (st' := [(false, v13)]) rfl ?_
          refine j_pop F dX7_takeCancel_62 ?_
          refine j_sub (lv' := [(0, (false, x0)), (1, (false, x1)), (2, (true, x2))]) [1, 2, 3] rfl ?_
          exact w_X7_takeCancel_63 F hno hnm (X7_takeCancel_10 n) ih x0 x1 x2 M14 h
set_option maxHeartbeats 4000000 in
set_option maxRecDepth 100000 in
theorem w_X7_takeCancel_0 {p : Program} {l : Launch} {e : Env} {R : Room} {s : State} {m : MethodId} {args : Array Value} {below : List Frame} {meth : Method} {c : Code} {G : Gt} {ρ0 : Int → Nat} {M0 : Mo} {res : RS} (F : Fx p l R s m args meth c cX7_takeCancel 4 RX7 G M0 9 none) (hno : ∀ x ∈ c.exceptionTable.toList, False) (hnm : meth.name = yX7_takeCancel.name) (x0 x1 : Int) (M : Mo) (h : X7_takeCancel x0 x1 M = some res) : J p l e R s m args below meth c 4 G ρ0 M0 0 res M 0 [(0, (false, x0)), (1, (false, x1))] [] := by
  unfold X7_takeCancel at h
  refine j_aload_n F 0 rfl rfl dX7_takeCancel_0 ?_
  obtain ⟨g1, h⟩ := gua h
  refine j_get F ft_X7_35 rfl g1 dX7_takeCancel_1 ?_
  obtain ⟨g5, h⟩ := gua h
  refine j_callV (d' := 0) (argl := []) (rk9 := 1) (st := []) F hno M_Jx4a65c_size_8abf5 q448 q449 q1246 ⟨by decide, by decide⟩ (Nat.le_of_ble_eq_true rfl) (by decide) (ci := 0) rfl (by decide) g5 dX7_takeCancel_4 rfl h (fun z hz => c_Jx4a65c_size_8abf5 l F.ht G (fd M 8 7 x0) M z hz) (fun v2 M3 h kl4 => ?_)
  refine j_st (st' := [(true, v2)]) rfl ?_
  refine j_iconst F dX7_takeCancel_7 ?_
  refine j_isub F dX7_takeCancel_8 ?_
  refine j_istore_n F (lv' := [(2, (true, (v2 - 1))), (0, (false, x0)), (1, (false, x1))]) rfl (by decide) rfl dX7_takeCancel_9 ?_
  refine j_sub (lv' := [(0, (false, x0)), (1, (false, x1)), (2, (true, (v2 - 1)))]) [1, 2, 0] rfl ?_
  exact w_X7_takeCancel_10 F hno hnm FU x0 x1 (v2 - 1) M3 h
theorem c_X7_takeCancel (l : Launch) (hl : l.stackTraces = false) (G : Gt) (x0 x1 : Int) (M : Mo) (z : RS) (h : X7_takeCancel x0 x1 M = some z) : CT l G yX7_takeCancel (cn yX7_takeCancel cX7_takeCancel 4 none) 9 [(false, x0), (false, x1)] M 0 z :=
  ctOf hl (by decide) (Nat.le_of_ble_eq_true rfl) (fun p e R s m args below meth c ρ F hno hnm => w_X7_takeCancel_0 F hno hnm x0 x1 M h)
theorem dX7_takeFromEditor_0 : decode cX7_takeFromEditor 0 = .ok (.aload_n 1, 1) := by decide +kernel
set_option maxRecDepth 100000 in
theorem q715 : Cond.fieldLink RX7 79 "ToolPlex$Message" "kind" "I" ∈ GT := gt 715 (by decide +kernel) (by decide +kernel)
theorem ft_X7_79 : FT RX7 79 RX6 7 RX6 TX6 17 0 := ⟨rfl, by decide, by decide, q715, Or.inl rfl, inGX6⟩
theorem dX7_takeFromEditor_1 : decode cX7_takeFromEditor 1 = .ok (.getfield 79, 3) := by decide +kernel
theorem dX7_takeFromEditor_4 : decode cX7_takeFromEditor 4 = .ok (.tableswitch 64 0 3 #[32, 40, 48, 56], 32) := by decide +kernel
theorem dX7_takeFromEditor_36 : decode cX7_takeFromEditor 36 = .ok (.aload_n 0, 1) := by decide +kernel
theorem dX7_takeFromEditor_37 : decode cX7_takeFromEditor 37 = .ok (.aload_n 1, 1) := by decide +kernel
set_option maxRecDepth 100000 in
theorem q1421 : Cond.code yX7_takeOpen cX7_takeOpen 3 none ∈ GT := gt 1421 (rfl) (by decide +kernel)
theorem M_X7_takeOpen : MY yX7_takeOpen cX7_takeOpen 3 none 1 := ⟨q1421, q63, by decide +kernel, by decide +kernel⟩
set_option maxRecDepth 100000 in
theorem q1420 : Cond.instanceMethod yX7_takeOpen ∈ GT := gt 1420 (by decide +kernel) (by decide +kernel)
set_option maxRecDepth 100000 in
theorem q37 : Cond.selects RX7 yX7_takeOpen yX7_takeOpen ∈ GT := gt 37 (by decide +kernel) (by decide +kernel)
set_option maxRecDepth 100000 in
theorem q1418 : Cond.methodLink RX7 85 yX7_takeOpen ∈ GT := gt 1418 (by decide +kernel) (by decide +kernel)
theorem dX7_takeFromEditor_38 : decode cX7_takeFromEditor 38 = .ok (.invokevirtual 85, 3) := by decide +kernel
theorem dX7_takeFromEditor_41 : decode cX7_takeFromEditor 41 = .ok (.goto 32, 3) := by decide +kernel
theorem dX7_takeFromEditor_73 : decode cX7_takeFromEditor 73 = .ok (.return_, 1) := by decide +kernel
theorem dX7_takeFromEditor_44 : decode cX7_takeFromEditor 44 = .ok (.aload_n 0, 1) := by decide +kernel
theorem dX7_takeFromEditor_45 : decode cX7_takeFromEditor 45 = .ok (.aload_n 1, 1) := by decide +kernel
set_option maxRecDepth 100000 in
theorem q1435 : Cond.code yX7_takeChange cX7_takeChange 5 none ∈ GT := gt 1435 (rfl) (by decide +kernel)
theorem M_X7_takeChange : MY yX7_takeChange cX7_takeChange 5 none 1 := ⟨q1435, q63, by decide +kernel, by decide +kernel⟩
set_option maxRecDepth 100000 in
theorem q1434 : Cond.instanceMethod yX7_takeChange ∈ GT := gt 1434 (by decide +kernel) (by decide +kernel)
set_option maxRecDepth 100000 in
theorem q40 : Cond.selects RX7 yX7_takeChange yX7_takeChange ∈ GT := gt 40 (by decide +kernel) (by decide +kernel)
set_option maxRecDepth 100000 in
theorem q1432 : Cond.methodLink RX7 89 yX7_takeChange ∈ GT := gt 1432 (by decide +kernel) (by decide +kernel)
theorem dX7_takeFromEditor_46 : decode cX7_takeFromEditor 46 = .ok (.invokevirtual 89, 3) := by decide +kernel
theorem dX7_takeFromEditor_49 : decode cX7_takeFromEditor 49 = .ok (.goto 24, 3) := by decide +kernel
theorem dX7_takeFromEditor_52 : decode cX7_takeFromEditor 52 = .ok (.aload_n 0, 1) := by decide +kernel
theorem dX7_takeFromEditor_53 : decode cX7_takeFromEditor 53 = .ok (.aload_n 1, 1) := by decide +kernel
set_option maxRecDepth 100000 in
theorem q1441 : Cond.code yX7_takeClose cX7_takeClose 3 none ∈ GT := gt 1441 (rfl) (by decide +kernel)
theorem M_X7_takeClose : MY yX7_takeClose cX7_takeClose 3 none 1 := ⟨q1441, q63, by decide +kernel, by decide +kernel⟩
set_option maxRecDepth 100000 in
theorem q1440 : Cond.instanceMethod yX7_takeClose ∈ GT := gt 1440 (by decide +kernel) (by decide +kernel)
set_option maxRecDepth 100000 in
theorem q41 : Cond.selects RX7 yX7_takeClose yX7_takeClose ∈ GT := gt 41 (by decide +kernel) (by decide +kernel)
set_option maxRecDepth 100000 in
theorem q1438 : Cond.methodLink RX7 92 yX7_takeClose ∈ GT := gt 1438 (by decide +kernel) (by decide +kernel)
theorem dX7_takeFromEditor_54 : decode cX7_takeFromEditor 54 = .ok (.invokevirtual 92, 3) := by decide +kernel
theorem dX7_takeFromEditor_57 : decode cX7_takeFromEditor 57 = .ok (.goto 16, 3) := by decide +kernel
theorem dX7_takeFromEditor_60 : decode cX7_takeFromEditor 60 = .ok (.aload_n 0, 1) := by decide +kernel
theorem dX7_takeFromEditor_61 : decode cX7_takeFromEditor 61 = .ok (.aload_n 1, 1) := by decide +kernel
set_option maxRecDepth 100000 in
theorem q1446 : Cond.code yX7_takeRequest cX7_takeRequest 6 none ∈ GT := gt 1446 (rfl) (by decide +kernel)
theorem M_X7_takeRequest : MY yX7_takeRequest cX7_takeRequest 6 none 1 := ⟨q1446, q63, by decide +kernel, by decide +kernel⟩
set_option maxRecDepth 100000 in
theorem q1445 : Cond.instanceMethod yX7_takeRequest ∈ GT := gt 1445 (by decide +kernel) (by decide +kernel)
set_option maxRecDepth 100000 in
theorem q42 : Cond.selects RX7 yX7_takeRequest yX7_takeRequest ∈ GT := gt 42 (by decide +kernel) (by decide +kernel)
set_option maxRecDepth 100000 in
theorem q1443 : Cond.methodLink RX7 95 yX7_takeRequest ∈ GT := gt 1443 (by decide +kernel) (by decide +kernel)
theorem dX7_takeFromEditor_62 : decode cX7_takeFromEditor 62 = .ok (.invokevirtual 95, 3) := by decide +kernel
theorem dX7_takeFromEditor_65 : decode cX7_takeFromEditor 65 = .ok (.goto 8, 3) := by decide +kernel
theorem dX7_takeFromEditor_68 : decode cX7_takeFromEditor 68 = .ok (.aload_n 0, 1) := by decide +kernel
theorem dX7_takeFromEditor_69 : decode cX7_takeFromEditor 69 = .ok (.aload_n 1, 1) := by decide +kernel
set_option maxRecDepth 100000 in
theorem q1486 : Cond.code yX7_takeCancel cX7_takeCancel 4 none ∈ GT := gt 1486 (rfl) (by decide +kernel)
theorem M_X7_takeCancel : MY yX7_takeCancel cX7_takeCancel 4 none 1 := ⟨q1486, q63, by decide +kernel, by decide +kernel⟩
set_option maxRecDepth 100000 in
theorem q1485 : Cond.instanceMethod yX7_takeCancel ∈ GT := gt 1485 (by decide +kernel) (by decide +kernel)
set_option maxRecDepth 100000 in
theorem q45 : Cond.selects RX7 yX7_takeCancel yX7_takeCancel ∈ GT := gt 45 (by decide +kernel) (by decide +kernel)
set_option maxRecDepth 100000 in
theorem q1483 : Cond.methodLink RX7 98 yX7_takeCancel ∈ GT := gt 1483 (by decide +kernel) (by decide +kernel)
theorem dX7_takeFromEditor_70 : decode cX7_takeFromEditor 70 = .ok (.invokevirtual 98, 3) := by decide +kernel
set_option maxHeartbeats 4000000 in
set_option maxRecDepth 100000 in
theorem w_X7_takeFromEditor_0 {p : Program} {l : Launch} {e : Env} {R : Room} {s : State} {m : MethodId} {args : Array Value} {below : List Frame} {meth : Method} {c : Code} {G : Gt} {ρ0 : Int → Nat} {M0 : Mo} {res : RS} (F : Fx p l R s m args meth c cX7_takeFromEditor 2 RX7 G M0 10 none) (hno : ∀ x ∈ c.exceptionTable.toList, False) (hnm : meth.name = yX7_takeFromEditor.name) (x0 x1 : Int) (M : Mo) (h : X7_takeFromEditor x0 x1 M = some res) : J p l e R s m args below meth c 2 G ρ0 M0 0 res M 0 [(0, (false, x0)), (1, (false, x1))] [] := by
  unfold X7_takeFromEditor at h
  refine j_aload_n F 1 rfl rfl dX7_takeFromEditor_0 ?_
  obtain ⟨g1, h⟩ := gua h
  refine j_get F ft_X7_79 rfl g1 dX7_takeFromEditor_1 ?_
  by_cases c0 : wr (fd M 7 0 x1) = 0
  · rw [if_pos c0] at h
    refine j_tableIn F 36 (by rw [c0]; decide) (off := 32) (by rw [c0]; rfl) (by decide) dX7_takeFromEditor_4 ?_
    refine j_aload_n F 0 rfl rfl dX7_takeFromEditor_36 ?_
    refine j_aload_n F 1 rfl rfl dX7_takeFromEditor_37 ?_
    obtain ⟨g5, h⟩ := gua h
    refine j_callV (d' := 9) (argl := [(false, x1)]) (rk9 := 0) (st := []) F hno M_X7_takeOpen q1420 q37 q1418 ⟨by decide, by decide⟩ (Nat.le_of_ble_eq_true rfl) (by decide) (ci := 8) rfl (by decide) g5 dX7_takeFromEditor_38 rfl h (fun z hz => c_X7_takeOpen l F.ht G x0 x1 M z hz) (fun v2 M3 h kl4 => ?_)
    refine j_st (st' := []) rfl ?_
    refine j_goto F 73 (by decide) dX7_takeFromEditor_41 ?_
    exact j_vret F (v := 0) h dX7_takeFromEditor_73
  · rw [if_neg c0] at h
    by_cases c1 : wr (fd M 7 0 x1) = 1
    · rw [if_pos c1] at h
      refine j_tableIn F 44 (by rw [c1]; decide) (off := 40) (by rw [c1]; rfl) (by decide) dX7_takeFromEditor_4 ?_
      refine j_aload_n F 0 rfl rfl dX7_takeFromEditor_44 ?_
      refine j_aload_n F 1 rfl rfl dX7_takeFromEditor_45 ?_
      obtain ⟨g9, h⟩ := gua h
      refine j_callV (d' := 9) (argl := [(false, x1)]) (rk9 := 0) (st := []) F hno M_X7_takeChange q1434 q40 q1432 ⟨by decide, by decide⟩ (Nat.le_of_ble_eq_true rfl) (by decide) (ci := 8) rfl (by decide) g9 dX7_takeFromEditor_46 rfl h (fun z hz => c_X7_takeChange l F.ht G x0 x1 M z hz) (fun v6 M7 h kl8 => ?_)
      refine j_st (st' := []) rfl ?_
      refine j_goto F 73 (by decide) dX7_takeFromEditor_49 ?_
      exact j_vret F (v := 0) h dX7_takeFromEditor_73
    · rw [if_neg c1] at h
      by_cases c2 : wr (fd M 7 0 x1) = 2
      · rw [if_pos c2] at h
        refine j_tableIn F 52 (by rw [c2]; decide) (off := 48) (by rw [c2]; rfl) (by decide) dX7_takeFromEditor_4 ?_
        refine j_aload_n F 0 rfl rfl dX7_takeFromEditor_52 ?_
        refine j_aload_n F 1 rfl rfl dX7_takeFromEditor_53 ?_
        obtain ⟨g13, h⟩ := gua h
        refine j_callV (d' := 9) (argl := [(false, x1)]) (rk9 := 0) (st := []) F hno M_X7_takeClose q1440 q41 q1438 ⟨by decide, by decide⟩ (Nat.le_of_ble_eq_true rfl) (by decide) (ci := 8) rfl (by decide) g13 dX7_takeFromEditor_54 rfl h (fun z hz => c_X7_takeClose l F.ht G x0 x1 M z hz) (fun v10 M11 h kl12 => ?_)
        refine j_st (st' := []) rfl ?_
        refine j_goto F 73 (by decide) dX7_takeFromEditor_57 ?_
        exact j_vret F (v := 0) h dX7_takeFromEditor_73
      · rw [if_neg c2] at h
        by_cases c3 : wr (fd M 7 0 x1) = 3
        · rw [if_pos c3] at h
          refine j_tableIn F 60 (by rw [c3]; decide) (off := 56) (by rw [c3]; rfl) (by decide) dX7_takeFromEditor_4 ?_
          refine j_aload_n F 0 rfl rfl dX7_takeFromEditor_60 ?_
          refine j_aload_n F 1 rfl rfl dX7_takeFromEditor_61 ?_
          obtain ⟨g17, h⟩ := gua h
          refine j_callV (d' := 9) (argl := [(false, x1)]) (rk9 := 0) (st := []) F hno M_X7_takeRequest q1445 q42 q1443 ⟨by decide, by decide⟩ (Nat.le_of_ble_eq_true rfl) (by decide) (ci := 8) rfl (by decide) g17 dX7_takeFromEditor_62 rfl h (fun z hz => c_X7_takeRequest l F.ht G x0 x1 M z hz) (fun v14 M15 h kl16 => ?_)
          refine j_st (st' := []) rfl ?_
          refine j_goto F 73 (by decide) dX7_takeFromEditor_65 ?_
          exact j_vret F (v := 0) h dX7_takeFromEditor_73
        · rw [if_neg c3] at h
          refine j_tableOut F 68 (by omega) (by decide) dX7_takeFromEditor_4 ?_
          refine j_aload_n F 0 rfl rfl dX7_takeFromEditor_68 ?_
          refine j_aload_n F 1 rfl rfl dX7_takeFromEditor_69 ?_
          obtain ⟨g21, h⟩ := gua h
          refine j_callV (d' := 9) (argl := [(false, x1)]) (rk9 := 0) (st := []) F hno M_X7_takeCancel q1485 q45 q1483 ⟨by decide, by decide⟩ (Nat.le_of_ble_eq_true rfl) (by decide) (ci := 8) rfl (by decide) g21 dX7_takeFromEditor_70 rfl h (fun z hz => c_X7_takeCancel l F.ht G x0 x1 M z hz) (fun v18 M19 h kl20 => ?_)
          refine j_st (st' := []) rfl ?_
          exact j_vret F (v := 0) h dX7_takeFromEditor_73
theorem c_X7_takeFromEditor (l : Launch) (hl : l.stackTraces = false) (G : Gt) (x0 x1 : Int) (M : Mo) (z : RS) (h : X7_takeFromEditor x0 x1 M = some z) : CT l G yX7_takeFromEditor (cn yX7_takeFromEditor cX7_takeFromEditor 2 none) 10 [(false, x0), (false, x1)] M 0 z :=
  ctOf hl (by decide) (Nat.le_of_ble_eq_true rfl) (fun p e R s m args below meth c ρ F hno hnm => w_X7_takeFromEditor_0 F hno hnm x0 x1 M h)
theorem dX7_completedBy_0 : decode cX7_completedBy 0 = .ok (.iconst 0, 1) := by decide +kernel
theorem dX7_completedBy_1 : decode cX7_completedBy 1 = .ok (.istore_n 3, 1) := by decide +kernel
theorem dX7_completedBy_2 : decode cX7_completedBy 2 = .ok (.iload_n 3, 1) := by decide +kernel
theorem dX7_completedBy_3 : decode cX7_completedBy 3 = .ok (.aload_n 0, 1) := by decide +kernel
theorem dX7_completedBy_4 : decode cX7_completedBy 4 = .ok (.getfield 35, 3) := by decide +kernel
theorem dX7_completedBy_7 : decode cX7_completedBy 7 = .ok (.invokevirtual 149, 3) := by decide +kernel
theorem dX7_completedBy_10 : decode cX7_completedBy 10 = .ok (.if_icmp .ge 89, 3) := by decide +kernel
theorem dX7_completedBy_99 : decode cX7_completedBy 99 = .ok (.aconst_null, 1) := by decide +kernel
theorem dX7_completedBy_100 : decode cX7_completedBy 100 = .ok (.areturn, 1) := by decide +kernel
theorem dX7_completedBy_13 : decode cX7_completedBy 13 = .ok (.aload_n 0, 1) := by decide +kernel
theorem dX7_completedBy_14 : decode cX7_completedBy 14 = .ok (.getfield 35, 3) := by decide +kernel
theorem dX7_completedBy_17 : decode cX7_completedBy 17 = .ok (.iload_n 3, 1) := by decide +kernel
theorem dX7_completedBy_18 : decode cX7_completedBy 18 = .ok (.invokevirtual 153, 3) := by decide +kernel
theorem dX7_completedBy_21 : decode cX7_completedBy 21 = .ok (.checkcast 174, 3) := by decide +kernel
theorem dX7_completedBy_24 : decode cX7_completedBy 24 = .ok (.astore 4, 2) := by decide +kernel
theorem dX7_completedBy_26 : decode cX7_completedBy 26 = .ok (.aload 4, 2) := by decide +kernel
theorem dX7_completedBy_28 : decode cX7_completedBy 28 = .ok (.getfield 176, 3) := by decide +kernel
theorem dX7_completedBy_31 : decode cX7_completedBy 31 = .ok (.astore 5, 2) := by decide +kernel
theorem dX7_completedBy_33 : decode cX7_completedBy 33 = .ok (.aload 4, 2) := by decide +kernel
theorem dX7_completedBy_35 : decode cX7_completedBy 35 = .ok (.iload_n 1, 1) := by decide +kernel
theorem dX7_completedBy_36 : decode cX7_completedBy 36 = .ok (.invokevirtual 230, 3) := by decide +kernel
theorem dX7_completedBy_39 : decode cX7_completedBy 39 = .ok (.ifCond .eq 54, 3) := by decide +kernel
theorem dX7_completedBy_42 : decode cX7_completedBy 42 = .ok (.aload_n 0, 1) := by decide +kernel
theorem dX7_completedBy_43 : decode cX7_completedBy 43 = .ok (.aload 5, 2) := by decide +kernel
theorem dX7_completedBy_45 : decode cX7_completedBy 45 = .ok (.getfield 111, 3) := by decide +kernel
theorem dX7_completedBy_48 : decode cX7_completedBy 48 = .ok (.aload 5, 2) := by decide +kernel
theorem dX7_completedBy_50 : decode cX7_completedBy 50 = .ok (.getfield 221, 3) := by decide +kernel
theorem dX7_completedBy_53 : decode cX7_completedBy 53 = .ok (.iload_n 1, 1) := by decide +kernel
theorem dX7_completedBy_54 : decode cX7_completedBy 54 = .ok (.invokevirtual 233, 3) := by decide +kernel
theorem dX7_completedBy_57 : decode cX7_completedBy 57 = .ok (.aload_n 2, 1) := by decide +kernel
theorem dX7_completedBy_58 : decode cX7_completedBy 58 = .ok (.getfield 218, 3) := by decide +kernel
theorem dX7_completedBy_61 : decode cX7_completedBy 61 = .ok (.if_icmp .ne 32, 3) := by decide +kernel
theorem dX7_completedBy_64 : decode cX7_completedBy 64 = .ok (.aload 4, 2) := by decide +kernel
theorem dX7_completedBy_66 : decode cX7_completedBy 66 = .ok (.iload_n 1, 1) := by decide +kernel
theorem dX7_completedBy_67 : decode cX7_completedBy 67 = .ok (.aload_n 2, 1) := by decide +kernel
set_option maxRecDepth 100000 in
theorem q1256 : Cond.code yX8_note cX8_note 3 none ∈ GT := gt 1256 (rfl) (by decide +kernel)
theorem M_X8_note : MY yX8_note cX8_note 3 none 2 := ⟨q1256, q79, by decide +kernel, by decide +kernel⟩
set_option maxRecDepth 100000 in
theorem q1254 : Cond.instanceMethod yX8_note ∈ GT := gt 1254 (by decide +kernel) (by decide +kernel)
set_option maxRecDepth 100000 in
theorem q1255 : Cond.selects RX8 yX8_note yX8_note ∈ GT := gt 1255 (by decide +kernel) (by decide +kernel)
set_option maxRecDepth 100000 in
theorem q1253 : Cond.methodLink RX7 239 yX8_note ∈ GT := gt 1253 (by decide +kernel) (by decide +kernel)
theorem dX7_completedBy_68 : decode cX7_completedBy 68 = .ok (.invokevirtual 239, 3) := by decide +kernel
theorem dX7_completedBy_71 : decode cX7_completedBy 71 = .ok (.aload 4, 2) := by decide +kernel
theorem dX7_completedBy_73 : decode cX7_completedBy 73 = .ok (.invokevirtual 199, 3) := by decide +kernel
theorem dX7_completedBy_76 : decode cX7_completedBy 76 = .ok (.ifCond .ne 5, 3) := by decide +kernel
theorem dX7_completedBy_81 : decode cX7_completedBy 81 = .ok (.aload_n 0, 1) := by decide +kernel
theorem dX7_completedBy_82 : decode cX7_completedBy 82 = .ok (.getfield 35, 3) := by decide +kernel
theorem dX7_completedBy_85 : decode cX7_completedBy 85 = .ok (.iload_n 3, 1) := by decide +kernel
theorem dX7_completedBy_86 : decode cX7_completedBy 86 = .ok (.invokevirtual 227, 3) := by decide +kernel
theorem dX7_completedBy_89 : decode cX7_completedBy 89 = .ok (.pop, 1) := by decide +kernel
theorem dX7_completedBy_90 : decode cX7_completedBy 90 = .ok (.aload 4, 2) := by decide +kernel
theorem dX7_completedBy_92 : decode cX7_completedBy 92 = .ok (.areturn, 1) := by decide +kernel
theorem dX7_completedBy_79 : decode cX7_completedBy 79 = .ok (.aconst_null, 1) := by decide +kernel
theorem dX7_completedBy_80 : decode cX7_completedBy 80 = .ok (.areturn, 1) := by decide +kernel
theorem dX7_completedBy_93 : decode cX7_completedBy 93 = .ok (.iinc 3 1, 3) := by decide +kernel
theorem dX7_completedBy_96 : decode cX7_completedBy 96 = .ok (.goto (-94), 3) := by decide +kernel
set_option maxHeartbeats 4000000 in
set_option maxRecDepth 100000 in
theorem w_X7_completedBy_93 {p : Program} {l : Launch} {e : Env} {R : Room} {s : State} {m : MethodId} {args : Array Value} {below : List Frame} {meth : Method} {c : Code} {G : Gt} {ρ0 : Int → Nat} {M0 : Mo} {res : RS} (F : Fx p l R s m args meth c cX7_completedBy 6 RX7 G M0 3 (some (FieldType.object "ToolPlex$Pending"))) (hno : ∀ x ∈ c.exceptionTable.toList, False) (hnm : meth.name = yX7_completedBy.name) (k2 : Int → Int → Int → Int → Mo → Option RS) (hk2 : ∀ (x0 x1 x2 x3 : Int) (M : Mo), k2 x0 x1 x2 x3 M = some res → J p l e R s m args below meth c 6 G ρ0 M0 2 res M 2 [(0, (false, x0)), (1, (true, x1)), (2, (false, x2)), (3, (true, x3))] []) (x0 x1 x2 x3 : Int) (M : Mo) (h : X7_completedBy_93 k2 x0 x1 x2 x3 M = some res) : J p l e R s m args below meth c 6 G ρ0 M0 2 res M 93 [(0, (false, x0)), (1, (true, x1)), (2, (false, x2)), (3, (true, x3))] [] := by
  unfold X7_completedBy_93 at h
  refine j_iinc F 3 (lv' := [(3, (true, (x3 + 1))), (0, (false, x0)), (1, (true, x1)), (2, (false, x2))]) rfl (by decide) rfl dX7_completedBy_93 ?_
  refine j_goto F 2 (by decide) dX7_completedBy_96 ?_
  refine j_sub (lv' := [(0, (false, x0)), (1, (true, x1)), (2, (false, x2)), (3, (true, (x3 + 1)))]) [1, 2, 3, 0] rfl ?_
  exact hk2 x0 x1 x2 (x3 + 1) M h
set_option maxHeartbeats 4000000 in
set_option maxRecDepth 100000 in
theorem w_X7_completedBy_2 {p : Program} {l : Launch} {e : Env} {R : Room} {s : State} {m : MethodId} {args : Array Value} {below : List Frame} {meth : Method} {c : Code} {G : Gt} {ρ0 : Int → Nat} {M0 : Mo} {res : RS} (F : Fx p l R s m args meth c cX7_completedBy 6 RX7 G M0 3 (some (FieldType.object "ToolPlex$Pending"))) (hno : ∀ x ∈ c.exceptionTable.toList, False) (hnm : meth.name = yX7_completedBy.name) (n : Nat) : ∀ (x0 x1 x2 x3 : Int) (M : Mo), X7_completedBy_2 n x0 x1 x2 x3 M = some res → J p l e R s m args below meth c 6 G ρ0 M0 2 res M 2 [(0, (false, x0)), (1, (true, x1)), (2, (false, x2)), (3, (true, x3))] [] := by
  induction n with
  | zero => intro x0 x1 x2 x3 M h; cases h
  | succ n ih =>
    intro x0 x1 x2 x3 M h
    rw [X7_completedBy_2] at h
    refine j_iload_n F 3 rfl rfl dX7_completedBy_2 ?_
    refine j_aload_n F 0 rfl rfl dX7_completedBy_3 ?_
    obtain ⟨g1, h⟩ := gua h
    refine j_get F ft_X7_35 rfl g1 dX7_completedBy_4 ?_
    obtain ⟨g5, h⟩ := gua h
    refine j_callV (d' := 0) (argl := []) (rk9 := 1) (st := [(true, x3)]) F hno M_Jx4a65c_size_8abf5 q448 q449 q1246 ⟨by decide, by decide⟩ (Nat.le_of_ble_eq_true rfl) (by decide) (ci := 0) rfl (by decide) g5 dX7_completedBy_7 rfl h (fun z hz => c_Jx4a65c_size_8abf5 l F.ht G (fd M 8 7 x0) M z hz) (fun v2 M3 h kl4 => ?_)
    refine j_st (st' := [(true, v2), (true, x3)]) rfl ?_
    refine j_icmp_ge F 99 (by decide) dX7_completedBy_10 h (fun h => ?_) (fun h => ?_)
    · skip
      refine j_null F dX7_completedBy_99 ?_
      exact j_aret F (Or.inl ⟨_, rfl⟩) h dX7_completedBy_100
    · skip
      refine j_aload_n F 0 rfl rfl dX7_completedBy_13 ?_
      refine j_get F ft_X7_35 rfl (kl4.is g1) dX7_completedBy_14 ?_
      refine j_iload_n F 3 rfl rfl dX7_completedBy_17 ?_
      obtain ⟨g9, h⟩ := gua h
      refine j_callV (d' := 2) (argl := [(true, x3)]) (rk9 := 2) (st := []) F hno M_Jx4a65c_get_915e3 q856 q857 q1247 ⟨by decide, by decide⟩ (Nat.le_of_ble_eq_true rfl) (by decide) (ci := 0) rfl (by decide) g9 dX7_completedBy_18 rfl h (fun z hz => c_Jx4a65c_get_915e3 l F.ht G (fd M3 8 7 x0) x3 M3 z hz) (fun v6 M7 h kl8 => ?_)
      refine j_st (st' := [(false, v6)]) rfl ?_
      obtain ⟨g10, h⟩ := gua h
      refine j_cast F q1248 rfl (by decide) g10 dX7_completedBy_21 ?_
      refine j_astore F (lv' := [(4, (false, v6)), (0, (false, x0)), (1, (true, x1)), (2, (false, x2)), (3, (true, x3))]) (by decide) rfl dX7_completedBy_24 ?_
      refine j_aload F 0 rfl dX7_completedBy_26 ?_
      obtain ⟨g11, h⟩ := gua h
      refine j_get F ft_X7_176 rfl g11 dX7_completedBy_28 ?_
      refine j_astore F (lv' := [(5, (false, (fd M7 9 0 v6))), (4, (false, v6)), (0, (false, x0)), (1, (true, x1)), (2, (false, x2)), (3, (true, x3))]) (by decide) rfl dX7_completedBy_31 ?_
      refine j_aload F 1 rfl dX7_completedBy_33 ?_
      refine j_iload_n F 3 rfl rfl dX7_completedBy_35 ?_
      refine j_callV (d' := 0) (argl := [(true, x1)]) (rk9 := 1) (st := []) F hno M_X8_waitsFor q1250 q1251 q1249 ⟨by decide, by decide⟩ (Nat.le_of_ble_eq_true rfl) (by decide) (ci := 9) rfl (by decide) g11 dX7_completedBy_36 rfl h (fun z hz => c_X8_waitsFor l F.ht G v6 x1 M7 z hz) (fun v12 M13 h kl14 => ?_)
      refine j_st (st' := [(true, v12)]) rfl ?_
      refine j_if_eq F 93 (by decide) dX7_completedBy_39 h (fun h => ?_) (fun h => ?_)
      · skip
        refine j_sub (lv' := [(0, (false, x0)), (1, (true, x1)), (2, (false, x2)), (3, (true, x3))]) [2, 3, 4, 5] rfl ?_
        exact w_X7_completedBy_93 F hno hnm (X7_completedBy_2 n) ih x0 x1 x2 x3 M13 h
      · skip
        refine j_aload_n F 2 rfl rfl dX7_completedBy_42 ?_
        refine j_aload F 0 rfl dX7_completedBy_43 ?_
        obtain ⟨g15, h⟩ := gua h
        refine j_get F ft_X7_111 rfl g15 dX7_completedBy_45 ?_
        refine j_aload F 0 rfl dX7_completedBy_48 ?_
        refine j_get F ft_X7_221 rfl g15 dX7_completedBy_50 ?_
        refine j_iload_n F 3 rfl rfl dX7_completedBy_53 ?_
        refine j_callV (d' := 1) (argl := [(true, (fd M13 7 2 (fd M7 9 0 v6))), (true, (fd M13 7 3 (fd M7 9 0 v6))), (true, x1)]) (rk9 := 1) (st := []) F hno M_X7_idOf q1402 q1403 q1401 ⟨by decide, by decide⟩ (Nat.le_of_ble_eq_true rfl) (by decide) (ci := 8) rfl (by decide) (kl14.is (kl8.is (kl4.is g1))) dX7_completedBy_54 rfl h (fun z hz => c_X7_idOf l F.ht G x0 (fd M13 7 2 (fd M7 9 0 v6)) (fd M13 7 3 (fd M7 9 0 v6)) x1 M13 z hz) (fun v16 M17 h kl18 => ?_)
        refine j_st (st' := [(true, v16)]) rfl ?_
        refine j_aload_n F 4 rfl rfl dX7_completedBy_57 ?_
        obtain ⟨g19, h⟩ := gua h
        refine j_get F ft_X7_218 rfl g19 dX7_completedBy_58 ?_
        refine j_icmp_ne F 93 (by decide) dX7_completedBy_61 h (fun h => ?_) (fun h => ?_)
        · skip
          refine j_sub (lv' := [(0, (false, x0)), (1, (true, x1)), (2, (false, x2)), (3, (true, x3))]) [2, 3, 4, 5] rfl ?_
          exact w_X7_completedBy_93 F hno hnm (X7_completedBy_2 n) ih x0 x1 x2 x3 M17 h
        · skip
          refine j_aload F 1 rfl dX7_completedBy_64 ?_
          refine j_iload_n F 3 rfl rfl dX7_completedBy_66 ?_
          refine j_aload_n F 4 rfl rfl dX7_completedBy_67 ?_
          refine j_callV (d' := 0) (argl := [(true, x1), (false, x2)]) (rk9 := 0) (st := []) F hno M_X8_note q1254 q1255 q1253 ⟨by decide, by decide⟩ (Nat.le_of_ble_eq_true rfl) (by decide) (ci := 9) rfl (by decide) (kl18.is (kl14.is g11)) dX7_completedBy_68 rfl h (fun z hz => c_X8_note l F.ht G v6 x1 x2 M17 z hz) (fun v20 M21 h kl22 => ?_)
          refine j_st (st' := []) rfl ?_
          refine j_aload F 1 rfl dX7_completedBy_71 ?_
          refine j_callV (d' := 0) (argl := []) (rk9 := 1) (st := []) F hno M_X8_isComplete q1258 q1259 q1257 ⟨by decide, by decide⟩ (Nat.le_of_ble_eq_true rfl) (by decide) (ci := 9) rfl (by decide) (kl22.is (kl18.is (kl14.is g11))) dX7_completedBy_73 rfl h (fun z hz => c_X8_isComplete l F.ht G v6 M21 z hz) (fun v23 M24 h kl25 => ?_)
          refine j_st (st' := [(true, v23)]) rfl ?_
          refine j_if_ne F 81 (by decide) dX7_completedBy_76 h (fun h => ?_) (fun h => ?_)
          · skip
            refine j_aload_n F 2 rfl rfl dX7_completedBy_81 ?_
            refine j_get F ft_X7_35 rfl (kl25.is (kl22.is (kl18.is (kl14.is (kl8.is (kl4.is g1)))))) dX7_completedBy_82 ?_
            refine j_iload_n F 5 rfl rfl dX7_completedBy_85 ?_
            obtain ⟨g29, h⟩ := gua h
            refine j_callV (d' := 2) (argl := [(true, x3)]) (rk9 := 2) (st := []) F hno M_Jx4a65c_remove_915e3 q1102 q1103 q1261 ⟨by decide, by decide⟩ (Nat.le_of_ble_eq_true rfl) (by decide) (ci := 0) rfl (by decide) g29 dX7_completedBy_86 rfl h (fun z hz => c_Jx4a65c_remove_915e3 l F.ht G (fd M24 8 7 x0) x3 M24 z hz) (fun v26 M27 h kl28 => ?_)
            refine j_st (st' := [(false, v26)]) rfl ?_
            refine j_pop F dX7_completedBy_89 ?_
            refine j_aload F 1 rfl dX7_completedBy_90 ?_
            exact j_aret F (Or.inl ⟨_, rfl⟩) h dX7_completedBy_92
          · skip
            refine j_null F dX7_completedBy_79 ?_
            exact j_aret F (Or.inl ⟨_, rfl⟩) h dX7_completedBy_80
set_option maxHeartbeats 4000000 in
set_option maxRecDepth 100000 in
theorem w_X7_completedBy_0 {p : Program} {l : Launch} {e : Env} {R : Room} {s : State} {m : MethodId} {args : Array Value} {below : List Frame} {meth : Method} {c : Code} {G : Gt} {ρ0 : Int → Nat} {M0 : Mo} {res : RS} (F : Fx p l R s m args meth c cX7_completedBy 6 RX7 G M0 3 (some (FieldType.object "ToolPlex$Pending"))) (hno : ∀ x ∈ c.exceptionTable.toList, False) (hnm : meth.name = yX7_completedBy.name) (x0 x1 x2 : Int) (M : Mo) (h : X7_completedBy x0 x1 x2 M = some res) : J p l e R s m args below meth c 6 G ρ0 M0 2 res M 0 [(0, (false, x0)), (1, (true, x1)), (2, (false, x2))] [] := by
  unfold X7_completedBy at h
  refine j_iconst F dX7_completedBy_0 ?_
  refine j_istore_n F (lv' := [(3, (true, 0)), (0, (false, x0)), (1, (true, x1)), (2, (false, x2))]) rfl (by decide) rfl dX7_completedBy_1 ?_
  refine j_sub (lv' := [(0, (false, x0)), (1, (true, x1)), (2, (false, x2)), (3, (true, 0))]) [1, 2, 3, 0] rfl ?_
  exact w_X7_completedBy_2 F hno hnm FU x0 x1 x2 0 M h
theorem c_X7_completedBy (l : Launch) (hl : l.stackTraces = false) (G : Gt) (x0 x1 x2 : Int) (M : Mo) (z : RS) (h : X7_completedBy x0 x1 x2 M = some z) : CT l G yX7_completedBy (cn yX7_completedBy cX7_completedBy 6 (some (FieldType.object "ToolPlex$Pending"))) 3 [(false, x0), (true, x1), (false, x2)] M 2 z :=
  ctOf hl (by decide) (Nat.le_of_ble_eq_true rfl) (fun p e R s m args below meth c ρ F hno hnm => w_X7_completedBy_0 F hno hnm x0 x1 x2 M h)
theorem dX7_mergeMoved_0 : decode cX7_mergeMoved 0 = .ok (.iconst 0, 1) := by decide +kernel
theorem dX7_mergeMoved_1 : decode cX7_mergeMoved 1 = .ok (.istore_n 3, 1) := by decide +kernel
theorem dX7_mergeMoved_2 : decode cX7_mergeMoved 2 = .ok (.iload_n 3, 1) := by decide +kernel
theorem dX7_mergeMoved_3 : decode cX7_mergeMoved 3 = .ok (.iconst 3, 1) := by decide +kernel
theorem dX7_mergeMoved_4 : decode cX7_mergeMoved 4 = .ok (.if_icmp .ge 154, 3) := by decide +kernel
theorem dX7_mergeMoved_158 : decode cX7_mergeMoved 158 = .ok (.return_, 1) := by decide +kernel
theorem dX7_mergeMoved_7 : decode cX7_mergeMoved 7 = .ok (.aload_n 1, 1) := by decide +kernel
theorem dX7_mergeMoved_8 : decode cX7_mergeMoved 8 = .ok (.iload_n 3, 1) := by decide +kernel
set_option maxRecDepth 100000 in
theorem q1279 : Cond.code yX8_answerOf cX8_answerOf 2 (some (FieldType.object "ToolPlex$Message")) ∈ GT := gt 1279 (rfl) (by decide +kernel)
theorem M_X8_answerOf : MY yX8_answerOf cX8_answerOf 2 (some (FieldType.object "ToolPlex$Message")) 1 := ⟨q1279, q79, by decide +kernel, by decide +kernel⟩
set_option maxRecDepth 100000 in
theorem q1277 : Cond.instanceMethod yX8_answerOf ∈ GT := gt 1277 (by decide +kernel) (by decide +kernel)
set_option maxRecDepth 100000 in
theorem q1278 : Cond.selects RX8 yX8_answerOf yX8_answerOf ∈ GT := gt 1278 (by decide +kernel) (by decide +kernel)
set_option maxRecDepth 100000 in
theorem q1276 : Cond.methodLink RX7 289 yX8_answerOf ∈ GT := gt 1276 (by decide +kernel) (by decide +kernel)
theorem dX7_mergeMoved_9 : decode cX7_mergeMoved 9 = .ok (.invokevirtual 289, 3) := by decide +kernel
theorem dX7_mergeMoved_12 : decode cX7_mergeMoved 12 = .ok (.astore 4, 2) := by decide +kernel
theorem dX7_mergeMoved_14 : decode cX7_mergeMoved 14 = .ok (.aload 4, 2) := by decide +kernel
theorem dX7_mergeMoved_16 : decode cX7_mergeMoved 16 = .ok (.ifnull 136, 3) := by decide +kernel
theorem dX7_mergeMoved_19 : decode cX7_mergeMoved 19 = .ok (.aload 4, 2) := by decide +kernel
theorem dX7_mergeMoved_21 : decode cX7_mergeMoved 21 = .ok (.getfield 104, 3) := by decide +kernel
theorem dX7_mergeMoved_24 : decode cX7_mergeMoved 24 = .ok (.aload_n 2, 1) := by decide +kernel
set_option maxRecDepth 100000 in
theorem q206 : Cond.fieldLink RX7 257 "ToolPlex$Copy" "opened" "I" ∈ GT := gt 206 (by decide +kernel) (by decide +kernel)
theorem ft_X7_257 : FT RX7 257 RX2 3 RX2 TX2 7 5 := ⟨rfl, by decide, by decide, q206, Or.inl rfl, inGX2⟩
theorem dX7_mergeMoved_25 : decode cX7_mergeMoved 25 = .ok (.getfield 257, 3) := by decide +kernel
theorem dX7_mergeMoved_28 : decode cX7_mergeMoved 28 = .ok (.if_icmp .lt 124, 3) := by decide +kernel
theorem dX7_mergeMoved_31 : decode cX7_mergeMoved 31 = .ok (.aload 4, 2) := by decide +kernel
set_option maxRecDepth 100000 in
theorem q773 : Cond.fieldLink RX7 279 "ToolPlex$Message" "items" "LToolPlex$Items;" ∈ GT := gt 773 (by decide +kernel) (by decide +kernel)
theorem ft_X7_279 : FT RX7 279 RX6 7 RX6 TX6 17 15 := ⟨rfl, by decide, by decide, q773, Or.inl rfl, inGX6⟩
theorem dX7_mergeMoved_33 : decode cX7_mergeMoved 33 = .ok (.getfield 279, 3) := by decide +kernel
theorem dX7_mergeMoved_36 : decode cX7_mergeMoved 36 = .ok (.astore 5, 2) := by decide +kernel
theorem dX7_mergeMoved_38 : decode cX7_mergeMoved 38 = .ok (.aload_n 2, 1) := by decide +kernel
theorem dX7_mergeMoved_39 : decode cX7_mergeMoved 39 = .ok (.aload 5, 2) := by decide +kernel
theorem dX7_mergeMoved_41 : decode cX7_mergeMoved 41 = .ok (.aload 4, 2) := by decide +kernel
theorem dX7_mergeMoved_43 : decode cX7_mergeMoved 43 = .ok (.getfield 104, 3) := by decide +kernel
set_option maxRecDepth 100000 in
theorem q1280 : Cond.methodLink RX7 293 yX2_moveAlong ∈ GT := gt 1280 (by decide +kernel) (by decide +kernel)
theorem dX7_mergeMoved_46 : decode cX7_mergeMoved 46 = .ok (.invokevirtual 293, 3) := by decide +kernel
theorem dX7_mergeMoved_49 : decode cX7_mergeMoved 49 = .ok (.iconst 0, 1) := by decide +kernel
theorem dX7_mergeMoved_50 : decode cX7_mergeMoved 50 = .ok (.istore 6, 2) := by decide +kernel
theorem dX7_mergeMoved_52 : decode cX7_mergeMoved 52 = .ok (.iload 6, 2) := by decide +kernel
theorem dX7_mergeMoved_54 : decode cX7_mergeMoved 54 = .ok (.aload 5, 2) := by decide +kernel
set_option maxRecDepth 100000 in
theorem q1281 : Cond.methodLink RX7 297 yX5_size ∈ GT := gt 1281 (by decide +kernel) (by decide +kernel)
theorem dX7_mergeMoved_56 : decode cX7_mergeMoved 56 = .ok (.invokevirtual 297, 3) := by decide +kernel
theorem dX7_mergeMoved_59 : decode cX7_mergeMoved 59 = .ok (.if_icmp .ge 93, 3) := by decide +kernel
theorem dX7_mergeMoved_62 : decode cX7_mergeMoved 62 = .ok (.aload_n 1, 1) := by decide +kernel
theorem dX7_mergeMoved_63 : decode cX7_mergeMoved 63 = .ok (.getfield 176, 3) := by decide +kernel
theorem dX7_mergeMoved_66 : decode cX7_mergeMoved 66 = .ok (.getfield 180, 3) := by decide +kernel
theorem dX7_mergeMoved_69 : decode cX7_mergeMoved 69 = .ok (.iconst 3, 1) := by decide +kernel
theorem dX7_mergeMoved_70 : decode cX7_mergeMoved 70 = .ok (.if_icmp .ne 41, 3) := by decide +kernel
theorem dX7_mergeMoved_111 : decode cX7_mergeMoved 111 = .ok (.aload_n 0, 1) := by decide +kernel
theorem dX7_mergeMoved_112 : decode cX7_mergeMoved 112 = .ok (.getfield 43, 3) := by decide +kernel
theorem dX7_mergeMoved_115 : decode cX7_mergeMoved 115 = .ok (.aload 5, 2) := by decide +kernel
theorem dX7_mergeMoved_117 : decode cX7_mergeMoved 117 = .ok (.iload 6, 2) := by decide +kernel
set_option maxRecDepth 100000 in
theorem q1282 : Cond.methodLink RX7 298 yX5_fileAt ∈ GT := gt 1282 (by decide +kernel) (by decide +kernel)
theorem dX7_mergeMoved_119 : decode cX7_mergeMoved 119 = .ok (.invokevirtual 298, 3) := by decide +kernel
theorem dX7_mergeMoved_122 : decode cX7_mergeMoved 122 = .ok (.aload 5, 2) := by decide +kernel
theorem dX7_mergeMoved_124 : decode cX7_mergeMoved 124 = .ok (.iload 6, 2) := by decide +kernel
set_option maxRecDepth 100000 in
theorem q1283 : Cond.methodLink RX7 301 yX5_startAt ∈ GT := gt 1283 (by decide +kernel) (by decide +kernel)
theorem dX7_mergeMoved_126 : decode cX7_mergeMoved 126 = .ok (.invokevirtual 301, 3) := by decide +kernel
theorem dX7_mergeMoved_129 : decode cX7_mergeMoved 129 = .ok (.aload 5, 2) := by decide +kernel
theorem dX7_mergeMoved_131 : decode cX7_mergeMoved 131 = .ok (.iload 6, 2) := by decide +kernel
set_option maxRecDepth 100000 in
theorem q1284 : Cond.methodLink RX7 304 yX5_endAt ∈ GT := gt 1284 (by decide +kernel) (by decide +kernel)
theorem dX7_mergeMoved_133 : decode cX7_mergeMoved 133 = .ok (.invokevirtual 304, 3) := by decide +kernel
theorem dX7_mergeMoved_136 : decode cX7_mergeMoved 136 = .ok (.aload 5, 2) := by decide +kernel
theorem dX7_mergeMoved_138 : decode cX7_mergeMoved 138 = .ok (.iload 6, 2) := by decide +kernel
set_option maxRecDepth 100000 in
theorem q1285 : Cond.methodLink RX7 307 yX5_valueAt ∈ GT := gt 1285 (by decide +kernel) (by decide +kernel)
theorem dX7_mergeMoved_140 : decode cX7_mergeMoved 140 = .ok (.invokevirtual 307, 3) := by decide +kernel
set_option maxRecDepth 100000 in
theorem q1296 : Cond.code yX5_insertSpan cX5_insertSpan 7 none ∈ GT := gt 1296 (rfl) (by decide +kernel)
theorem M_X5_insertSpan : MY yX5_insertSpan cX5_insertSpan 7 none 4 := ⟨q1296, q62, by decide +kernel, by decide +kernel⟩
set_option maxRecDepth 100000 in
theorem q1294 : Cond.instanceMethod yX5_insertSpan ∈ GT := gt 1294 (by decide +kernel) (by decide +kernel)
set_option maxRecDepth 100000 in
theorem q1295 : Cond.selects RX5 yX5_insertSpan yX5_insertSpan ∈ GT := gt 1295 (by decide +kernel) (by decide +kernel)
set_option maxRecDepth 100000 in
theorem q1293 : Cond.methodLink RX7 314 yX5_insertSpan ∈ GT := gt 1293 (by decide +kernel) (by decide +kernel)
theorem dX7_mergeMoved_143 : decode cX7_mergeMoved 143 = .ok (.invokevirtual 314, 3) := by decide +kernel
theorem dX7_mergeMoved_73 : decode cX7_mergeMoved 73 = .ok (.aload_n 0, 1) := by decide +kernel
theorem dX7_mergeMoved_74 : decode cX7_mergeMoved 74 = .ok (.getfield 43, 3) := by decide +kernel
theorem dX7_mergeMoved_77 : decode cX7_mergeMoved 77 = .ok (.aload 5, 2) := by decide +kernel
theorem dX7_mergeMoved_79 : decode cX7_mergeMoved 79 = .ok (.iload 6, 2) := by decide +kernel
theorem dX7_mergeMoved_81 : decode cX7_mergeMoved 81 = .ok (.invokevirtual 298, 3) := by decide +kernel
theorem dX7_mergeMoved_84 : decode cX7_mergeMoved 84 = .ok (.aload 5, 2) := by decide +kernel
theorem dX7_mergeMoved_86 : decode cX7_mergeMoved 86 = .ok (.iload 6, 2) := by decide +kernel
theorem dX7_mergeMoved_88 : decode cX7_mergeMoved 88 = .ok (.invokevirtual 301, 3) := by decide +kernel
theorem dX7_mergeMoved_91 : decode cX7_mergeMoved 91 = .ok (.aload 5, 2) := by decide +kernel
theorem dX7_mergeMoved_93 : decode cX7_mergeMoved 93 = .ok (.iload 6, 2) := by decide +kernel
theorem dX7_mergeMoved_95 : decode cX7_mergeMoved 95 = .ok (.invokevirtual 304, 3) := by decide +kernel
theorem dX7_mergeMoved_98 : decode cX7_mergeMoved 98 = .ok (.aload 5, 2) := by decide +kernel
theorem dX7_mergeMoved_100 : decode cX7_mergeMoved 100 = .ok (.iload 6, 2) := by decide +kernel
theorem dX7_mergeMoved_102 : decode cX7_mergeMoved 102 = .ok (.invokevirtual 307, 3) := by decide +kernel
set_option maxRecDepth 100000 in
theorem q1292 : Cond.code yX5_insertApart cX5_insertApart 7 none ∈ GT := gt 1292 (rfl) (by decide +kernel)
theorem M_X5_insertApart : MY yX5_insertApart cX5_insertApart 7 none 4 := ⟨q1292, q62, by decide +kernel, by decide +kernel⟩
set_option maxRecDepth 100000 in
theorem q1290 : Cond.instanceMethod yX5_insertApart ∈ GT := gt 1290 (by decide +kernel) (by decide +kernel)
set_option maxRecDepth 100000 in
theorem q1291 : Cond.selects RX5 yX5_insertApart yX5_insertApart ∈ GT := gt 1291 (by decide +kernel) (by decide +kernel)
set_option maxRecDepth 100000 in
theorem q1289 : Cond.methodLink RX7 310 yX5_insertApart ∈ GT := gt 1289 (by decide +kernel) (by decide +kernel)
theorem dX7_mergeMoved_105 : decode cX7_mergeMoved 105 = .ok (.invokevirtual 310, 3) := by decide +kernel
theorem dX7_mergeMoved_108 : decode cX7_mergeMoved 108 = .ok (.goto 38, 3) := by decide +kernel
theorem dX7_mergeMoved_146 : decode cX7_mergeMoved 146 = .ok (.iinc 6 1, 3) := by decide +kernel
theorem dX7_mergeMoved_149 : decode cX7_mergeMoved 149 = .ok (.goto (-97), 3) := by decide +kernel
theorem dX7_mergeMoved_152 : decode cX7_mergeMoved 152 = .ok (.iinc 3 1, 3) := by decide +kernel
theorem dX7_mergeMoved_155 : decode cX7_mergeMoved 155 = .ok (.goto (-153), 3) := by decide +kernel
set_option maxHeartbeats 4000000 in
set_option maxRecDepth 100000 in
theorem w_X7_mergeMoved_146 {p : Program} {l : Launch} {e : Env} {R : Room} {s : State} {m : MethodId} {args : Array Value} {below : List Frame} {meth : Method} {c : Code} {G : Gt} {ρ0 : Int → Nat} {M0 : Mo} {res : RS} (F : Fx p l R s m args meth c cX7_mergeMoved 7 RX7 G M0 4 none) (hno : ∀ x ∈ c.exceptionTable.toList, False) (hnm : meth.name = yX7_mergeMoved.name) (k2 : Int → Int → Int → Int → Mo → Option RS) (hk2 : ∀ (x0 x1 x2 x3 : Int) (M : Mo), k2 x0 x1 x2 x3 M = some res → J p l e R s m args below meth c 7 G ρ0 M0 0 res M 2 [(0, (false, x0)), (1, (false, x1)), (2, (false, x2)), (3, (true, x3))] []) (k52 : Int → Int → Int → Int → Int → Int → Mo → Option RS) (hk52 : ∀ (x0 x1 x2 x3 x5 x6 : Int) (M : Mo), k52 x0 x1 x2 x3 x5 x6 M = some res → J p l e R s m args below meth c 7 G ρ0 M0 0 res M 52 [(0, (false, x0)), (1, (false, x1)), (2, (false, x2)), (3, (true, x3)), (5, (false, x5)), (6, (true, x6))] []) (x0 x1 x2 x3 x5 x6 : Int) (M : Mo) (h : X7_mergeMoved_146 k2 k52 x0 x1 x2 x3 x5 x6 M = some res) : J p l e R s m args below meth c 7 G ρ0 M0 0 res M 146 [(0, (false, x0)), (1, (false, x1)), (2, (false, x2)), (3, (true, x3)), (5, (false, x5)), (6, (true, x6))] [] := by
  unfold X7_mergeMoved_146 at h
  refine j_iinc F 5 (lv' := [(6, (true, (x6 + 1))), (0, (false, x0)), (1, (false, x1)), (2, (false, x2)), (3, (true, x3)), (5, (false, x5))]) rfl (by decide) rfl dX7_mergeMoved_146 ?_
  refine j_goto F 52 (by decide) dX7_mergeMoved_149 ?_
  refine j_sub (lv' := [(0, (false, x0)), (1, (false, x1)), (2, (false, x2)), (3, (true, x3)), (5, (false, x5)), (6, (true, (x6 + 1)))]) [1, 2, 3, 4, 5, 0] rfl ?_
  exact hk52 x0 x1 x2 x3 x5 (x6 + 1) M h
set_option maxHeartbeats 4000000 in
set_option maxRecDepth 100000 in
theorem w_X7_mergeMoved_152 {p : Program} {l : Launch} {e : Env} {R : Room} {s : State} {m : MethodId} {args : Array Value} {below : List Frame} {meth : Method} {c : Code} {G : Gt} {ρ0 : Int → Nat} {M0 : Mo} {res : RS} (F : Fx p l R s m args meth c cX7_mergeMoved 7 RX7 G M0 4 none) (hno : ∀ x ∈ c.exceptionTable.toList, False) (hnm : meth.name = yX7_mergeMoved.name) (k2 : Int → Int → Int → Int → Mo → Option RS) (hk2 : ∀ (x0 x1 x2 x3 : Int) (M : Mo), k2 x0 x1 x2 x3 M = some res → J p l e R s m args below meth c 7 G ρ0 M0 0 res M 2 [(0, (false, x0)), (1, (false, x1)), (2, (false, x2)), (3, (true, x3))] []) (x0 x1 x2 x3 : Int) (M : Mo) (h : X7_mergeMoved_152 k2 x0 x1 x2 x3 M = some res) : J p l e R s m args below meth c 7 G ρ0 M0 0 res M 152 [(0, (false, x0)), (1, (false, x1)), (2, (false, x2)), (3, (true, x3))] [] := by
  unfold X7_mergeMoved_152 at h
  refine j_iinc F 3 (lv' := [(3, (true, (x3 + 1))), (0, (false, x0)), (1, (false, x1)), (2, (false, x2))]) rfl (by decide) rfl dX7_mergeMoved_152 ?_
  refine j_goto F 2 (by decide) dX7_mergeMoved_155 ?_
  refine j_sub (lv' := [(0, (false, x0)), (1, (false, x1)), (2, (false, x2)), (3, (true, (x3 + 1)))]) [1, 2, 3, 0] rfl ?_
  exact hk2 x0 x1 x2 (x3 + 1) M h
set_option maxHeartbeats 4000000 in
set_option maxRecDepth 100000 in
theorem w_X7_mergeMoved_52 {p : Program} {l : Launch} {e : Env} {R : Room} {s : State} {m : MethodId} {args : Array Value} {below : List Frame} {meth : Method} {c : Code} {G : Gt} {ρ0 : Int → Nat} {M0 : Mo} {res : RS} (F : Fx p l R s m args meth c cX7_mergeMoved 7 RX7 G M0 4 none) (hno : ∀ x ∈ c.exceptionTable.toList, False) (hnm : meth.name = yX7_mergeMoved.name) (k2 : Int → Int → Int → Int → Mo → Option RS) (hk2 : ∀ (x0 x1 x2 x3 : Int) (M : Mo), k2 x0 x1 x2 x3 M = some res → J p l e R s m args below meth c 7 G ρ0 M0 0 res M 2 [(0, (false, x0)), (1, (false, x1)), (2, (false, x2)), (3, (true, x3))] []) (n : Nat) : ∀ (x0 x1 x2 x3 x5 x6 : Int) (M : Mo), X7_mergeMoved_52 k2 n x0 x1 x2 x3 x5 x6 M = some res → J p l e R s m args below meth c 7 G ρ0 M0 0 res M 52 [(0, (false, x0)), (1, (false, x1)), (2, (false, x2)), (3, (true, x3)), (5, (false, x5)), (6, (true, x6))] [] := by
  induction n with
  | zero => intro x0 x1 x2 x3 x5 x6 M h; cases h
  | succ n ih =>
    intro x0 x1 x2 x3 x5 x6 M h
    rw [X7_mergeMoved_52] at h
    refine j_iload F 5 rfl dX7_mergeMoved_52 ?_
    refine j_aload F 4 rfl dX7_mergeMoved_54 ?_
    obtain ⟨g4, h⟩ := gua h
    refine j_callV (d' := 0) (argl := []) (rk9 := 1) (st := [(true, x6)]) F hno M_X5_size q1022 q1023 q1281 ⟨by decide, by decide⟩ (Nat.le_of_ble_eq_true rfl) (by decide) (ci := 6) rfl (by decide) g4 dX7_mergeMoved_56 rfl h (fun z hz => c_X5_size l F.ht G x5 M z hz) (fun v1 M2 h kl3 => ?_)
    refine j_st (st' := [(true, v1), (true, x6)]) rfl ?_
    refine j_icmp_ge F 152 (by decide) dX7_mergeMoved_59 h (fun h => ?_) (fun h => ?_)
    · skip
      refine j_sub (lv' := [(0, (false, x0)), (1, (false, x1)), (2, (false, x2)), (3, (true, x3))]) [0, 1, 2, 3] rfl ?_
      exact w_X7_mergeMoved_152 F hno hnm k2 hk2 x0 x1 x2 x3 M2 h
    · skip
      refine j_aload_n F 1 rfl rfl dX7_mergeMoved_62 ?_
      obtain ⟨g5, h⟩ := gua h
      refine j_get F ft_X7_176 rfl g5 dX7_mergeMoved_63 ?_
      obtain ⟨g6, h⟩ := gua h
      refine j_get F ft_X7_180 rfl g6 dX7_mergeMoved_66 ?_
      refine j_iconst F dX7_mergeMoved_69 ?_
      refine j_icmp_ne F 111 (by decide) dX7_mergeMoved_70 h (fun h => ?_) (fun h => ?_)
      · skip
        refine j_aload_n F 0 rfl rfl dX7_mergeMoved_111 ?_
        obtain ⟨g7, h⟩ := gua h
        refine j_get F ft_X7_43 rfl g7 dX7_mergeMoved_112 ?_
        refine j_aload F 4 rfl dX7_mergeMoved_115 ?_
        refine j_iload F 5 rfl dX7_mergeMoved_117 ?_
        refine j_callV (d' := 1) (argl := [(true, x6)]) (rk9 := 1) (st := [(false, (fd M2 8 10 x0))]) F hno M_X5_fileAt q875 q876 q1282 ⟨by decide, by decide⟩ (Nat.le_of_ble_eq_true rfl) (by decide) (ci := 6) rfl (by decide) (kl3.is g4) dX7_mergeMoved_119 rfl h (fun z hz => c_X5_fileAt l F.ht G x5 x6 M2 z hz) (fun v8 M9 h kl10 => ?_)
        refine j_st (st' := [(true, v8), (false, (fd M2 8 10 x0))]) rfl ?_
        refine j_aload F 4 rfl dX7_mergeMoved_122 ?_
        refine j_iload F 5 rfl dX7_mergeMoved_124 ?_
        refine j_callV (d' := 1) (argl := [(true, x6)]) (rk9 := 1) (st := [(true, v8), (false, (fd M2 8 10 x0))]) F hno M_X5_startAt q1034 q1035 q1283 ⟨by decide, by decide⟩ (Nat.le_of_ble_eq_true rfl) (by decide) (ci := 6) rfl (by decide) (kl10.is (kl3.is g4)) dX7_mergeMoved_126 rfl h (fun z hz => c_X5_startAt l F.ht G x5 x6 M9 z hz) (fun v11 M12 h kl13 => ?_)
        refine j_st (st' := [(true, v11), (true, v8), (false, (fd M2 8 10 x0))]) rfl ?_
        refine j_aload F 4 rfl dX7_mergeMoved_129 ?_
        refine j_iload F 5 rfl dX7_mergeMoved_131 ?_
        refine j_callV (d' := 1) (argl := [(true, x6)]) (rk9 := 1) (st := [(true, v11), (true, v8), (false, (fd M2 8 10 x0))]) F hno M_X5_endAt q1052 q1053 q1284 ⟨by decide, by decide⟩ (Nat.le_of_ble_eq_true rfl) (by decide) (ci := 6) rfl (by decide) (kl13.is (kl10.is (kl3.is g4))) dX7_mergeMoved_133 rfl h (fun z hz => c_X5_endAt l F.ht G x5 x6 M12 z hz) (fun v14 M15 h kl16 => ?_)
        refine j_st (st' := [(true, v14), (true, v11), (true, v8), (false, (fd M2 8 10 x0))]) rfl ?_
        refine j_aload F 4 rfl dX7_mergeMoved_136 ?_
        refine j_iload F 5 rfl dX7_mergeMoved_138 ?_
        refine j_callV (d' := 1) (argl := [(true, x6)]) (rk9 := 1) (st := [(true, v14), (true, v11), (true, v8), (false, (fd M2 8 10 x0))]) F hno M_X5_valueAt q1286 q1287 q1285 ⟨by decide, by decide⟩ (Nat.le_of_ble_eq_true rfl) (by decide) (ci := 6) rfl (by decide) (kl16.is (kl13.is (kl10.is (kl3.is g4)))) dX7_mergeMoved_140 rfl h (fun z hz => c_X5_valueAt l F.ht G x5 x6 M15 z hz) (fun v17 M18 h kl19 => ?_)
        refine j_st (st' := [(true, v17), (true, v14), (true, v11), (true, v8), (false, (fd M2 8 10 x0))]) rfl ?_
        obtain ⟨g23, h⟩ := gua h
        refine j_callV (d' := 3) (argl := [(true, v8), (true, v11), (true, v14), (true, v17)]) (rk9 := 0) (st := []) F hno M_X5_insertSpan q1294 q1295 q1293 ⟨by decide, by decide⟩ (Nat.le_of_ble_eq_true rfl) (by decide) (ci := 6) rfl (by decide) g23 dX7_mergeMoved_143 rfl h (fun z hz => c_X5_insertSpan l F.ht G (fd M2 8 10 x0) v8 v11 v14 v17 M18 z hz) (fun v20 M21 h kl22 => ?_)
        refine j_st (st' := []) rfl ?_
        refine j_sub (lv' := [(0, (false, x0)), (1, (false, x1)), (2, (false, x2)), (3, (true, x3)), (5, (false, x5)), (6, (true, x6))]) [0, 1, 2, 3, 4, 5] rfl ?_
        exact w_X7_mergeMoved_146 F hno hnm k2 hk2 (X7_mergeMoved_52 k2 n) ih x0 x1 x2 x3 x5 x6 M21 h
      · skip
        refine j_aload_n F 0 rfl rfl dX7_mergeMoved_73 ?_
        obtain ⟨g24, h⟩ := gua h
        refine j_get F ft_X7_43 rfl g24 dX7_mergeMoved_74 ?_
        refine j_aload F 4 rfl dX7_mergeMoved_77 ?_
        refine j_iload F 5 rfl dX7_mergeMoved_79 ?_
        refine j_callV (d' := 1) (argl := [(true, x6)]) (rk9 := 1) (st := [(false, (fd M2 8 10 x0))]) F hno M_X5_fileAt q875 q876 q1282 ⟨by decide, by decide⟩ (Nat.le_of_ble_eq_true rfl) (by decide) (ci := 6) rfl (by decide) (kl3.is g4) dX7_mergeMoved_81 rfl h (fun z hz => c_X5_fileAt l F.ht G x5 x6 M2 z hz) (fun v25 M26 h kl27 => ?_)
        refine j_st (st' := [(true, v25), (false, (fd M2 8 10 x0))]) rfl ?_
        refine j_aload F 4 rfl dX7_mergeMoved_84 ?_
        refine j_iload F 5 rfl dX7_mergeMoved_86 ?_
        refine j_callV (d' := 1) (argl := [(true, x6)]) (rk9 := 1) (st := [(true, v25), (false, (fd M2 8 10 x0))]) F hno M_X5_startAt q1034 q1035 q1283 ⟨by decide, by decide⟩ (Nat.le_of_ble_eq_true rfl) (by decide) (ci := 6) rfl (by decide) (kl27.is (kl3.is g4)) dX7_mergeMoved_88 rfl h (fun z hz => c_X5_startAt l F.ht G x5 x6 M26 z hz) (fun v28 M29 h kl30 => ?_)
        refine j_st (st' := [(true, v28), (true, v25), (false, (fd M2 8 10 x0))]) rfl ?_
        refine j_aload F 4 rfl dX7_mergeMoved_91 ?_
        refine j_iload F 5 rfl dX7_mergeMoved_93 ?_
        refine j_callV (d' := 1) (argl := [(true, x6)]) (rk9 := 1) (st := [(true, v28), (true, v25), (false, (fd M2 8 10 x0))]) F hno M_X5_endAt q1052 q1053 q1284 ⟨by decide, by decide⟩ (Nat.le_of_ble_eq_true rfl) (by decide) (ci := 6) rfl (by decide) (kl30.is (kl27.is (kl3.is g4))) dX7_mergeMoved_95 rfl h (fun z hz => c_X5_endAt l F.ht G x5 x6 M29 z hz) (fun v31 M32 h kl33 => ?_)
        refine j_st (st' := [(true, v31), (true, v28), (true, v25), (false, (fd M2 8 10 x0))]) rfl ?_
        refine j_aload F 4 rfl dX7_mergeMoved_98 ?_
        refine j_iload F 5 rfl dX7_mergeMoved_100 ?_
        refine j_callV (d' := 1) (argl := [(true, x6)]) (rk9 := 1) (st := [(true, v31), (true, v28), (true, v25), (false, (fd M2 8 10 x0))]) F hno M_X5_valueAt q1286 q1287 q1285 ⟨by decide, by decide⟩ (Nat.le_of_ble_eq_true rfl) (by decide) (ci := 6) rfl (by decide) (kl33.is (kl30.is (kl27.is (kl3.is g4)))) dX7_mergeMoved_102 rfl h (fun z hz => c_X5_valueAt l F.ht G x5 x6 M32 z hz) (fun v34 M35 h kl36 => ?_)
        refine j_st (st' := [(true, v34), (true, v31), (true, v28), (true, v25), (false, (fd M2 8 10 x0))]) rfl ?_
        obtain ⟨g40, h⟩ := gua h
        refine j_callV (d' := 3) (argl := [(true, v25), (true, v28), (true, v31), (true, v34)]) (rk9 := 0) (st := []) F hno M_X5_insertApart q1290 q1291 q1289 ⟨by decide, by decide⟩ (Nat.le_of_ble_eq_true rfl) (by decide) (ci := 6) rfl (by decide) g40 dX7_mergeMoved_105 rfl h (fun z hz => c_X5_insertApart l F.ht G (fd M2 8 10 x0) v25 v28 v31 v34 M35 z hz) (fun v37 M38 h kl39 => ?_)
        refine j_st (st' := []) rfl ?_
        refine j_goto F 146 (by decide) dX7_mergeMoved_108 ?_
        refine j_sub (lv' := [(0, (false, x0)), (1, (false, x1)), (2, (false, x2)), (3, (true, x3)), (5, (false, x5)), (6, (true, x6))]) [0, 1, 2, 3, 4, 5] rfl ?_
        exact w_X7_mergeMoved_146 F hno hnm k2 hk2 (X7_mergeMoved_52 k2 n) ih x0 x1 x2 x3 x5 x6 M38 h
set_option maxHeartbeats 4000000 in
set_option maxRecDepth 100000 in
theorem w_X7_mergeMoved_2 {p : Program} {l : Launch} {e : Env} {R : Room} {s : State} {m : MethodId} {args : Array Value} {below : List Frame} {meth : Method} {c : Code} {G : Gt} {ρ0 : Int → Nat} {M0 : Mo} {res : RS} (F : Fx p l R s m args meth c cX7_mergeMoved 7 RX7 G M0 4 none) (hno : ∀ x ∈ c.exceptionTable.toList, False) (hnm : meth.name = yX7_mergeMoved.name) (n : Nat) : ∀ (x0 x1 x2 x3 : Int) (M : Mo), X7_mergeMoved_2 n x0 x1 x2 x3 M = some res → J p l e R s m args below meth c 7 G ρ0 M0 0 res M 2 [(0, (false, x0)), (1, (false, x1)), (2, (false, x2)), (3, (true, x3))] [] := by
  induction n with
  | zero => intro x0 x1 x2 x3 M h; cases h
  | succ n ih =>
    intro x0 x1 x2 x3 M h
    rw [X7_mergeMoved_2] at h
    refine j_iload_n F 3 rfl rfl dX7_mergeMoved_2 ?_
    refine j_iconst F dX7_mergeMoved_3 ?_
    refine j_icmp_ge F 158 (by decide) dX7_mergeMoved_4 h (fun h => ?_) (fun h => ?_)
    · skip
      exact j_vret F (v := 0) h dX7_mergeMoved_158
    · skip
      refine j_aload_n F 1 rfl rfl dX7_mergeMoved_7 ?_
      refine j_iload_n F 3 rfl rfl dX7_mergeMoved_8 ?_
      obtain ⟨g4, h⟩ := gua h
      refine j_callV (d' := 0) (argl := [(true, x3)]) (rk9 := 2) (st := []) F hno M_X8_answerOf q1277 q1278 q1276 ⟨by decide, by decide⟩ (Nat.le_of_ble_eq_true rfl) (by decide) (ci := 9) rfl (by decide) g4 dX7_mergeMoved_9 rfl h (fun z hz => c_X8_answerOf l F.ht G x1 x3 M z hz) (fun v1 M2 h kl3 => ?_)
      refine j_st (st' := [(false, v1)]) rfl ?_
      refine j_astore F (lv' := [(4, (false, v1)), (0, (false, x0)), (1, (false, x1)), (2, (false, x2)), (3, (true, x3))]) (by decide) rfl dX7_mergeMoved_12 ?_
      refine j_aload F 0 rfl dX7_mergeMoved_14 ?_
      refine j_ifnull F 152 (by decide) dX7_mergeMoved_16 h (fun h => ?_) (fun h => ?_)
      · skip
        refine j_sub (lv' := [(0, (false, x0)), (1, (false, x1)), (2, (false, x2)), (3, (true, x3))]) [1, 2, 3, 4] rfl ?_
        exact w_X7_mergeMoved_152 F hno hnm (X7_mergeMoved_2 n) ih x0 x1 x2 x3 M2 h
      · skip
        refine j_aload F 0 rfl dX7_mergeMoved_19 ?_
        obtain ⟨g5, h⟩ := gua h
        refine j_get F ft_X7_104 rfl g5 dX7_mergeMoved_21 ?_
        refine j_aload_n F 3 rfl rfl dX7_mergeMoved_24 ?_
        obtain ⟨g6, h⟩ := gua h
        refine j_get F ft_X7_257 rfl g6 dX7_mergeMoved_25 ?_
        refine j_icmp_lt F 152 (by decide) dX7_mergeMoved_28 h (fun h => ?_) (fun h => ?_)
        · skip
          refine j_sub (lv' := [(0, (false, x0)), (1, (false, x1)), (2, (false, x2)), (3, (true, x3))]) [1, 2, 3, 4] rfl ?_
          exact w_X7_mergeMoved_152 F hno hnm (X7_mergeMoved_2 n) ih x0 x1 x2 x3 M2 h
        · skip
          refine j_aload F 0 rfl dX7_mergeMoved_31 ?_
          refine j_get F ft_X7_279 rfl g5 dX7_mergeMoved_33 ?_
          refine j_astore F (lv' := [(5, (false, (fd M2 7 15 v1))), (4, (false, v1)), (0, (false, x0)), (1, (false, x1)), (2, (false, x2)), (3, (true, x3))]) (by decide) rfl dX7_mergeMoved_36 ?_
          refine j_aload_n F 4 rfl rfl dX7_mergeMoved_38 ?_
          refine j_aload F 0 rfl dX7_mergeMoved_39 ?_
          refine j_aload F 1 rfl dX7_mergeMoved_41 ?_
          refine j_get F ft_X7_104 rfl g5 dX7_mergeMoved_43 ?_
          refine j_callV (d' := 1) (argl := [(false, (fd M2 7 15 v1)), (true, (fd M2 7 5 v1))]) (rk9 := 0) (st := []) F hno M_X2_moveAlong q935 q936 q1280 ⟨by decide, by decide⟩ (Nat.le_of_ble_eq_true rfl) (by decide) (ci := 3) rfl (by decide) g6 dX7_mergeMoved_46 rfl h (fun z hz => c_X2_moveAlong l F.ht G x2 (fd M2 7 15 v1) (fd M2 7 5 v1) M2 z hz) (fun v7 M8 h kl9 => ?_)
          refine j_st (st' := []) rfl ?_
          refine j_iconst F dX7_mergeMoved_49 ?_
          refine j_istore F (lv' := [(6, (true, 0)), (5, (false, (fd M2 7 15 v1))), (4, (false, v1)), (0, (false, x0)), (1, (false, x1)), (2, (false, x2)), (3, (true, x3))]) (by decide) rfl dX7_mergeMoved_50 ?_
          refine j_sub (lv' := [(0, (false, x0)), (1, (false, x1)), (2, (false, x2)), (3, (true, x3)), (5, (false, (fd M2 7 15 v1))), (6, (true, 0))]) [3, 4, 5, 6, 1, 0] rfl ?_
          exact w_X7_mergeMoved_52 F hno hnm (X7_mergeMoved_2 n) ih FU x0 x1 x2 x3 (fd M2 7 15 v1) 0 M8 h
set_option maxHeartbeats 4000000 in
set_option maxRecDepth 100000 in
theorem w_X7_mergeMoved_0 {p : Program} {l : Launch} {e : Env} {R : Room} {s : State} {m : MethodId} {args : Array Value} {below : List Frame} {meth : Method} {c : Code} {G : Gt} {ρ0 : Int → Nat} {M0 : Mo} {res : RS} (F : Fx p l R s m args meth c cX7_mergeMoved 7 RX7 G M0 4 none) (hno : ∀ x ∈ c.exceptionTable.toList, False) (hnm : meth.name = yX7_mergeMoved.name) (x0 x1 x2 : Int) (M : Mo) (h : X7_mergeMoved x0 x1 x2 M = some res) : J p l e R s m args below meth c 7 G ρ0 M0 0 res M 0 [(0, (false, x0)), (1, (false, x1)), (2, (false, x2))] [] := by
  unfold X7_mergeMoved at h
  refine j_iconst F dX7_mergeMoved_0 ?_
  refine j_istore_n F (lv' := [(3, (true, 0)), (0, (false, x0)), (1, (false, x1)), (2, (false, x2))]) rfl (by decide) rfl dX7_mergeMoved_1 ?_
  refine j_sub (lv' := [(0, (false, x0)), (1, (false, x1)), (2, (false, x2)), (3, (true, 0))]) [1, 2, 3, 0] rfl ?_
  exact w_X7_mergeMoved_2 F hno hnm FU x0 x1 x2 0 M h
theorem c_X7_mergeMoved (l : Launch) (hl : l.stackTraces = false) (G : Gt) (x0 x1 x2 : Int) (M : Mo) (z : RS) (h : X7_mergeMoved x0 x1 x2 M = some z) : CT l G yX7_mergeMoved (cn yX7_mergeMoved cX7_mergeMoved 7 none) 4 [(false, x0), (false, x1), (false, x2)] M 0 z :=
  ctOf hl (by decide) (Nat.le_of_ble_eq_true rfl) (fun p e R s m args below meth c ρ F hno hnm => w_X7_mergeMoved_0 F hno hnm x0 x1 x2 M h)
theorem dX7_mergeRuns_0 : decode cX7_mergeRuns 0 = .ok (.iconst 0, 1) := by decide +kernel
theorem dX7_mergeRuns_1 : decode cX7_mergeRuns 1 = .ok (.istore_n 3, 1) := by decide +kernel
theorem dX7_mergeRuns_2 : decode cX7_mergeRuns 2 = .ok (.iload_n 3, 1) := by decide +kernel
theorem dX7_mergeRuns_3 : decode cX7_mergeRuns 3 = .ok (.iconst 3, 1) := by decide +kernel
theorem dX7_mergeRuns_4 : decode cX7_mergeRuns 4 = .ok (.if_icmp .ge 81, 3) := by decide +kernel
theorem dX7_mergeRuns_85 : decode cX7_mergeRuns 85 = .ok (.return_, 1) := by decide +kernel
theorem dX7_mergeRuns_7 : decode cX7_mergeRuns 7 = .ok (.aload_n 1, 1) := by decide +kernel
theorem dX7_mergeRuns_8 : decode cX7_mergeRuns 8 = .ok (.iload_n 3, 1) := by decide +kernel
theorem dX7_mergeRuns_9 : decode cX7_mergeRuns 9 = .ok (.invokevirtual 289, 3) := by decide +kernel
theorem dX7_mergeRuns_12 : decode cX7_mergeRuns 12 = .ok (.astore 4, 2) := by decide +kernel
theorem dX7_mergeRuns_14 : decode cX7_mergeRuns 14 = .ok (.iconst 0, 1) := by decide +kernel
theorem dX7_mergeRuns_15 : decode cX7_mergeRuns 15 = .ok (.istore 5, 2) := by decide +kernel
theorem dX7_mergeRuns_17 : decode cX7_mergeRuns 17 = .ok (.aload 4, 2) := by decide +kernel
theorem dX7_mergeRuns_19 : decode cX7_mergeRuns 19 = .ok (.ifnull 60, 3) := by decide +kernel
theorem dX7_mergeRuns_22 : decode cX7_mergeRuns 22 = .ok (.iload 5, 2) := by decide +kernel
theorem dX7_mergeRuns_24 : decode cX7_mergeRuns 24 = .ok (.aload 4, 2) := by decide +kernel
theorem dX7_mergeRuns_26 : decode cX7_mergeRuns 26 = .ok (.getfield 279, 3) := by decide +kernel
theorem dX7_mergeRuns_29 : decode cX7_mergeRuns 29 = .ok (.invokevirtual 297, 3) := by decide +kernel
theorem dX7_mergeRuns_32 : decode cX7_mergeRuns 32 = .ok (.if_icmp .ge 47, 3) := by decide +kernel
theorem dX7_mergeRuns_35 : decode cX7_mergeRuns 35 = .ok (.aload_n 0, 1) := by decide +kernel
theorem dX7_mergeRuns_36 : decode cX7_mergeRuns 36 = .ok (.getfield 43, 3) := by decide +kernel
theorem dX7_mergeRuns_39 : decode cX7_mergeRuns 39 = .ok (.aload_n 2, 1) := by decide +kernel
theorem dX7_mergeRuns_40 : decode cX7_mergeRuns 40 = .ok (.aload 4, 2) := by decide +kernel
theorem dX7_mergeRuns_42 : decode cX7_mergeRuns 42 = .ok (.getfield 279, 3) := by decide +kernel
theorem dX7_mergeRuns_45 : decode cX7_mergeRuns 45 = .ok (.iload 5, 2) := by decide +kernel
theorem dX7_mergeRuns_47 : decode cX7_mergeRuns 47 = .ok (.invokevirtual 298, 3) := by decide +kernel
theorem dX7_mergeRuns_50 : decode cX7_mergeRuns 50 = .ok (.aload 4, 2) := by decide +kernel
theorem dX7_mergeRuns_52 : decode cX7_mergeRuns 52 = .ok (.getfield 279, 3) := by decide +kernel
theorem dX7_mergeRuns_55 : decode cX7_mergeRuns 55 = .ok (.iload 5, 2) := by decide +kernel
theorem dX7_mergeRuns_57 : decode cX7_mergeRuns 57 = .ok (.invokevirtual 301, 3) := by decide +kernel
theorem dX7_mergeRuns_60 : decode cX7_mergeRuns 60 = .ok (.aload 4, 2) := by decide +kernel
theorem dX7_mergeRuns_62 : decode cX7_mergeRuns 62 = .ok (.getfield 279, 3) := by decide +kernel
theorem dX7_mergeRuns_65 : decode cX7_mergeRuns 65 = .ok (.iload 5, 2) := by decide +kernel
theorem dX7_mergeRuns_67 : decode cX7_mergeRuns 67 = .ok (.invokevirtual 304, 3) := by decide +kernel
set_option maxRecDepth 100000 in
theorem q1301 : Cond.methodLink RX7 317 yX5_insertRun ∈ GT := gt 1301 (by decide +kernel) (by decide +kernel)
theorem dX7_mergeRuns_70 : decode cX7_mergeRuns 70 = .ok (.invokevirtual 317, 3) := by decide +kernel
theorem dX7_mergeRuns_73 : decode cX7_mergeRuns 73 = .ok (.iinc 5 1, 3) := by decide +kernel
theorem dX7_mergeRuns_76 : decode cX7_mergeRuns 76 = .ok (.goto (-59), 3) := by decide +kernel
theorem dX7_mergeRuns_79 : decode cX7_mergeRuns 79 = .ok (.iinc 3 1, 3) := by decide +kernel
theorem dX7_mergeRuns_82 : decode cX7_mergeRuns 82 = .ok (.goto (-80), 3) := by decide +kernel
set_option maxHeartbeats 4000000 in
set_option maxRecDepth 100000 in
theorem w_X7_mergeRuns_79 {p : Program} {l : Launch} {e : Env} {R : Room} {s : State} {m : MethodId} {args : Array Value} {below : List Frame} {meth : Method} {c : Code} {G : Gt} {ρ0 : Int → Nat} {M0 : Mo} {res : RS} (F : Fx p l R s m args meth c cX7_mergeRuns 6 RX7 G M0 4 none) (hno : ∀ x ∈ c.exceptionTable.toList, False) (hnm : meth.name = yX7_mergeRuns.name) (k2 : Int → Int → Int → Int → Mo → Option RS) (hk2 : ∀ (x0 x1 x2 x3 : Int) (M : Mo), k2 x0 x1 x2 x3 M = some res → J p l e R s m args below meth c 6 G ρ0 M0 0 res M 2 [(0, (false, x0)), (1, (false, x1)), (2, (false, x2)), (3, (true, x3))] []) (x0 x1 x2 x3 : Int) (M : Mo) (h : X7_mergeRuns_79 k2 x0 x1 x2 x3 M = some res) : J p l e R s m args below meth c 6 G ρ0 M0 0 res M 79 [(0, (false, x0)), (1, (false, x1)), (2, (false, x2)), (3, (true, x3))] [] := by
  unfold X7_mergeRuns_79 at h
  refine j_iinc F 3 (lv' := [(3, (true, (x3 + 1))), (0, (false, x0)), (1, (false, x1)), (2, (false, x2))]) rfl (by decide) rfl dX7_mergeRuns_79 ?_
  refine j_goto F 2 (by decide) dX7_mergeRuns_82 ?_
  refine j_sub (lv' := [(0, (false, x0)), (1, (false, x1)), (2, (false, x2)), (3, (true, (x3 + 1)))]) [1, 2, 3, 0] rfl ?_
  exact hk2 x0 x1 x2 (x3 + 1) M h
set_option maxHeartbeats 4000000 in
set_option maxRecDepth 100000 in
theorem w_X7_mergeRuns_17 {p : Program} {l : Launch} {e : Env} {R : Room} {s : State} {m : MethodId} {args : Array Value} {below : List Frame} {meth : Method} {c : Code} {G : Gt} {ρ0 : Int → Nat} {M0 : Mo} {res : RS} (F : Fx p l R s m args meth c cX7_mergeRuns 6 RX7 G M0 4 none) (hno : ∀ x ∈ c.exceptionTable.toList, False) (hnm : meth.name = yX7_mergeRuns.name) (k2 : Int → Int → Int → Int → Mo → Option RS) (hk2 : ∀ (x0 x1 x2 x3 : Int) (M : Mo), k2 x0 x1 x2 x3 M = some res → J p l e R s m args below meth c 6 G ρ0 M0 0 res M 2 [(0, (false, x0)), (1, (false, x1)), (2, (false, x2)), (3, (true, x3))] []) (n : Nat) : ∀ (x0 x1 x2 x3 x4 x5 : Int) (M : Mo), X7_mergeRuns_17 k2 n x0 x1 x2 x3 x4 x5 M = some res → J p l e R s m args below meth c 6 G ρ0 M0 0 res M 17 [(0, (false, x0)), (1, (false, x1)), (2, (false, x2)), (3, (true, x3)), (4, (false, x4)), (5, (true, x5))] [] := by
  induction n with
  | zero => intro x0 x1 x2 x3 x4 x5 M h; cases h
  | succ n ih =>
    intro x0 x1 x2 x3 x4 x5 M h
    rw [X7_mergeRuns_17] at h
    refine j_aload F 4 rfl dX7_mergeRuns_17 ?_
    refine j_ifnull F 79 (by decide) dX7_mergeRuns_19 h (fun h => ?_) (fun h => ?_)
    · skip
      refine j_sub (lv' := [(0, (false, x0)), (1, (false, x1)), (2, (false, x2)), (3, (true, x3))]) [0, 1, 2, 3] rfl ?_
      exact w_X7_mergeRuns_79 F hno hnm k2 hk2 x0 x1 x2 x3 M h
    · skip
      refine j_iload F 5 rfl dX7_mergeRuns_22 ?_
      refine j_aload F 4 rfl dX7_mergeRuns_24 ?_
      obtain ⟨g1, h⟩ := gua h
      refine j_get F ft_X7_279 rfl g1 dX7_mergeRuns_26 ?_
      obtain ⟨g5, h⟩ := gua h
      refine j_callV (d' := 0) (argl := []) (rk9 := 1) (st := [(true, x5)]) F hno M_X5_size q1022 q1023 q1281 ⟨by decide, by decide⟩ (Nat.le_of_ble_eq_true rfl) (by decide) (ci := 6) rfl (by decide) g5 dX7_mergeRuns_29 rfl h (fun z hz => c_X5_size l F.ht G (fd M 7 15 x4) M z hz) (fun v2 M3 h kl4 => ?_)
      refine j_st (st' := [(true, v2), (true, x5)]) rfl ?_
      refine j_icmp_ge F 79 (by decide) dX7_mergeRuns_32 h (fun h => ?_) (fun h => ?_)
      · skip
        refine j_sub (lv' := [(0, (false, x0)), (1, (false, x1)), (2, (false, x2)), (3, (true, x3))]) [0, 1, 2, 3] rfl ?_
        exact w_X7_mergeRuns_79 F hno hnm k2 hk2 x0 x1 x2 x3 M3 h
      · skip
        refine j_aload_n F 0 rfl rfl dX7_mergeRuns_35 ?_
        obtain ⟨g6, h⟩ := gua h
        refine j_get F ft_X7_43 rfl g6 dX7_mergeRuns_36 ?_
        refine j_aload_n F 2 rfl rfl dX7_mergeRuns_39 ?_
        refine j_aload F 4 rfl dX7_mergeRuns_40 ?_
        refine j_get F ft_X7_279 rfl (kl4.is g1) dX7_mergeRuns_42 ?_
        refine j_iload F 5 rfl dX7_mergeRuns_45 ?_
        obtain ⟨g10, h⟩ := gua h
        refine j_callV (d' := 1) (argl := [(true, x5)]) (rk9 := 1) (st := [(false, x2), (false, (fd M3 8 10 x0))]) F hno M_X5_fileAt q875 q876 q1282 ⟨by decide, by decide⟩ (Nat.le_of_ble_eq_true rfl) (by decide) (ci := 6) rfl (by decide) g10 dX7_mergeRuns_47 rfl h (fun z hz => c_X5_fileAt l F.ht G (fd M3 7 15 x4) x5 M3 z hz) (fun v7 M8 h kl9 => ?_)
        refine j_st (st' := [(true, v7), (false, x2), (false, (fd M3 8 10 x0))]) rfl ?_
        refine j_aload F 4 rfl dX7_mergeRuns_50 ?_
        refine j_get F ft_X7_279 rfl (kl9.is (kl4.is g1)) dX7_mergeRuns_52 ?_
        refine j_iload F 5 rfl dX7_mergeRuns_55 ?_
        obtain ⟨g14, h⟩ := gua h
        refine j_callV (d' := 1) (argl := [(true, x5)]) (rk9 := 1) (st := [(true, v7), (false, x2), (false, (fd M3 8 10 x0))]) F hno M_X5_startAt q1034 q1035 q1283 ⟨by decide, by decide⟩ (Nat.le_of_ble_eq_true rfl) (by decide) (ci := 6) rfl (by decide) g14 dX7_mergeRuns_57 rfl h (fun z hz => c_X5_startAt l F.ht G (fd M8 7 15 x4) x5 M8 z hz) (fun v11 M12 h kl13 => ?_)
        refine j_st (st' := [(true, v11), (true, v7), (false, x2), (false, (fd M3 8 10 x0))]) rfl ?_
        refine j_aload F 4 rfl dX7_mergeRuns_60 ?_
        refine j_get F ft_X7_279 rfl (kl13.is (kl9.is (kl4.is g1))) dX7_mergeRuns_62 ?_
        refine j_iload F 5 rfl dX7_mergeRuns_65 ?_
        obtain ⟨g18, h⟩ := gua h
        refine j_callV (d' := 1) (argl := [(true, x5)]) (rk9 := 1) (st := [(true, v11), (true, v7), (false, x2), (false, (fd M3 8 10 x0))]) F hno M_X5_endAt q1052 q1053 q1284 ⟨by decide, by decide⟩ (Nat.le_of_ble_eq_true rfl) (by decide) (ci := 6) rfl (by decide) g18 dX7_mergeRuns_67 rfl h (fun z hz => c_X5_endAt l F.ht G (fd M12 7 15 x4) x5 M12 z hz) (fun v15 M16 h kl17 => ?_)
        refine j_st (st' := [(true, v15), (true, v11), (true, v7), (false, x2), (false, (fd M3 8 10 x0))]) rfl ?_
        obtain ⟨g22, h⟩ := gua h
        refine j_callV (d' := 3) (argl := [(false, x2), (true, v7), (true, v11), (true, v15)]) (rk9 := 0) (st := []) F hno M_X5_insertRun q1146 q1147 q1301 ⟨by decide, by decide⟩ (Nat.le_of_ble_eq_true rfl) (by decide) (ci := 6) rfl (by decide) g22 dX7_mergeRuns_70 rfl h (fun z hz => c_X5_insertRun l F.ht G (fd M3 8 10 x0) x2 v7 v11 v15 M16 z hz) (fun v19 M20 h kl21 => ?_)
        refine j_st (st' := []) rfl ?_
        refine j_iinc F 5 (lv' := [(5, (true, (x5 + 1))), (0, (false, x0)), (1, (false, x1)), (2, (false, x2)), (3, (true, x3)), (4, (false, x4))]) rfl (by decide) rfl dX7_mergeRuns_73 ?_
        refine j_goto F 17 (by decide) dX7_mergeRuns_76 ?_
        refine j_sub (lv' := [(0, (false, x0)), (1, (false, x1)), (2, (false, x2)), (3, (true, x3)), (4, (false, x4)), (5, (true, (x5 + 1)))]) [1, 2, 3, 4, 5, 0] rfl ?_
        exact ih x0 x1 x2 x3 x4 (x5 + 1) M20 h
set_option maxHeartbeats 4000000 in
set_option maxRecDepth 100000 in
theorem w_X7_mergeRuns_2 {p : Program} {l : Launch} {e : Env} {R : Room} {s : State} {m : MethodId} {args : Array Value} {below : List Frame} {meth : Method} {c : Code} {G : Gt} {ρ0 : Int → Nat} {M0 : Mo} {res : RS} (F : Fx p l R s m args meth c cX7_mergeRuns 6 RX7 G M0 4 none) (hno : ∀ x ∈ c.exceptionTable.toList, False) (hnm : meth.name = yX7_mergeRuns.name) (n : Nat) : ∀ (x0 x1 x2 x3 : Int) (M : Mo), X7_mergeRuns_2 n x0 x1 x2 x3 M = some res → J p l e R s m args below meth c 6 G ρ0 M0 0 res M 2 [(0, (false, x0)), (1, (false, x1)), (2, (false, x2)), (3, (true, x3))] [] := by
  induction n with
  | zero => intro x0 x1 x2 x3 M h; cases h
  | succ n ih =>
    intro x0 x1 x2 x3 M h
    rw [X7_mergeRuns_2] at h
    refine j_iload_n F 3 rfl rfl dX7_mergeRuns_2 ?_
    refine j_iconst F dX7_mergeRuns_3 ?_
    refine j_icmp_ge F 85 (by decide) dX7_mergeRuns_4 h (fun h => ?_) (fun h => ?_)
    · skip
      exact j_vret F (v := 0) h dX7_mergeRuns_85
    · skip
      refine j_aload_n F 1 rfl rfl dX7_mergeRuns_7 ?_
      refine j_iload_n F 3 rfl rfl dX7_mergeRuns_8 ?_
      obtain ⟨g4, h⟩ := gua h
      refine j_callV (d' := 0) (argl := [(true, x3)]) (rk9 := 2) (st := []) F hno M_X8_answerOf q1277 q1278 q1276 ⟨by decide, by decide⟩ (Nat.le_of_ble_eq_true rfl) (by decide) (ci := 9) rfl (by decide) g4 dX7_mergeRuns_9 rfl h (fun z hz => c_X8_answerOf l F.ht G x1 x3 M z hz) (fun v1 M2 h kl3 => ?_)
      refine j_st (st' := [(false, v1)]) rfl ?_
      refine j_astore F (lv' := [(4, (false, v1)), (0, (false, x0)), (1, (false, x1)), (2, (false, x2)), (3, (true, x3))]) (by decide) rfl dX7_mergeRuns_12 ?_
      refine j_iconst F dX7_mergeRuns_14 ?_
      refine j_istore F (lv' := [(5, (true, 0)), (4, (false, v1)), (0, (false, x0)), (1, (false, x1)), (2, (false, x2)), (3, (true, x3))]) (by decide) rfl dX7_mergeRuns_15 ?_
      refine j_sub (lv' := [(0, (false, x0)), (1, (false, x1)), (2, (false, x2)), (3, (true, x3)), (4, (false, v1)), (5, (true, 0))]) [2, 3, 4, 5, 1, 0] rfl ?_
      exact w_X7_mergeRuns_17 F hno hnm (X7_mergeRuns_2 n) ih FU x0 x1 x2 x3 v1 0 M2 h
set_option maxHeartbeats 4000000 in
set_option maxRecDepth 100000 in
theorem w_X7_mergeRuns_0 {p : Program} {l : Launch} {e : Env} {R : Room} {s : State} {m : MethodId} {args : Array Value} {below : List Frame} {meth : Method} {c : Code} {G : Gt} {ρ0 : Int → Nat} {M0 : Mo} {res : RS} (F : Fx p l R s m args meth c cX7_mergeRuns 6 RX7 G M0 4 none) (hno : ∀ x ∈ c.exceptionTable.toList, False) (hnm : meth.name = yX7_mergeRuns.name) (x0 x1 x2 : Int) (M : Mo) (h : X7_mergeRuns x0 x1 x2 M = some res) : J p l e R s m args below meth c 6 G ρ0 M0 0 res M 0 [(0, (false, x0)), (1, (false, x1)), (2, (false, x2))] [] := by
  unfold X7_mergeRuns at h
  refine j_iconst F dX7_mergeRuns_0 ?_
  refine j_istore_n F (lv' := [(3, (true, 0)), (0, (false, x0)), (1, (false, x1)), (2, (false, x2))]) rfl (by decide) rfl dX7_mergeRuns_1 ?_
  refine j_sub (lv' := [(0, (false, x0)), (1, (false, x1)), (2, (false, x2)), (3, (true, 0))]) [1, 2, 3, 0] rfl ?_
  exact w_X7_mergeRuns_2 F hno hnm FU x0 x1 x2 0 M h
theorem c_X7_mergeRuns (l : Launch) (hl : l.stackTraces = false) (G : Gt) (x0 x1 x2 : Int) (M : Mo) (z : RS) (h : X7_mergeRuns x0 x1 x2 M = some z) : CT l G yX7_mergeRuns (cn yX7_mergeRuns cX7_mergeRuns 6 none) 4 [(false, x0), (false, x1), (false, x2)] M 0 z :=
  ctOf hl (by decide) (Nat.le_of_ble_eq_true rfl) (fun p e R s m args below meth c ρ F hno hnm => w_X7_mergeRuns_0 F hno hnm x0 x1 x2 M h)
theorem dX7_isCurrent_0 : decode cX7_isCurrent 0 = .ok (.iconst 0, 1) := by decide +kernel
theorem dX7_isCurrent_1 : decode cX7_isCurrent 1 = .ok (.istore_n 2, 1) := by decide +kernel
theorem dX7_isCurrent_2 : decode cX7_isCurrent 2 = .ok (.iload_n 2, 1) := by decide +kernel
theorem dX7_isCurrent_3 : decode cX7_isCurrent 3 = .ok (.aload_n 1, 1) := by decide +kernel
theorem dX7_isCurrent_4 : decode cX7_isCurrent 4 = .ok (.getfield 279, 3) := by decide +kernel
theorem dX7_isCurrent_7 : decode cX7_isCurrent 7 = .ok (.invokevirtual 297, 3) := by decide +kernel
theorem dX7_isCurrent_10 : decode cX7_isCurrent 10 = .ok (.if_icmp .ge 47, 3) := by decide +kernel
theorem dX7_isCurrent_57 : decode cX7_isCurrent 57 = .ok (.iconst 1, 1) := by decide +kernel
theorem dX7_isCurrent_58 : decode cX7_isCurrent 58 = .ok (.ireturn, 1) := by decide +kernel
theorem dX7_isCurrent_13 : decode cX7_isCurrent 13 = .ok (.aload_n 1, 1) := by decide +kernel
theorem dX7_isCurrent_14 : decode cX7_isCurrent 14 = .ok (.getfield 279, 3) := by decide +kernel
theorem dX7_isCurrent_17 : decode cX7_isCurrent 17 = .ok (.iload_n 2, 1) := by decide +kernel
theorem dX7_isCurrent_18 : decode cX7_isCurrent 18 = .ok (.invokevirtual 298, 3) := by decide +kernel
theorem dX7_isCurrent_21 : decode cX7_isCurrent 21 = .ok (.istore_n 3, 1) := by decide +kernel
theorem dX7_isCurrent_22 : decode cX7_isCurrent 22 = .ok (.aload_n 0, 1) := by decide +kernel
theorem dX7_isCurrent_23 : decode cX7_isCurrent 23 = .ok (.iload_n 3, 1) := by decide +kernel
theorem dX7_isCurrent_24 : decode cX7_isCurrent 24 = .ok (.invokevirtual 125, 3) := by decide +kernel
theorem dX7_isCurrent_27 : decode cX7_isCurrent 27 = .ok (.invokevirtual 71, 3) := by decide +kernel
theorem dX7_isCurrent_30 : decode cX7_isCurrent 30 = .ok (.ifCond .eq 19, 3) := by decide +kernel
theorem dX7_isCurrent_49 : decode cX7_isCurrent 49 = .ok (.iconst 0, 1) := by decide +kernel
theorem dX7_isCurrent_50 : decode cX7_isCurrent 50 = .ok (.ireturn, 1) := by decide +kernel
theorem dX7_isCurrent_33 : decode cX7_isCurrent 33 = .ok (.aload_n 0, 1) := by decide +kernel
theorem dX7_isCurrent_34 : decode cX7_isCurrent 34 = .ok (.iload_n 3, 1) := by decide +kernel
theorem dX7_isCurrent_35 : decode cX7_isCurrent 35 = .ok (.invokevirtual 125, 3) := by decide +kernel
theorem dX7_isCurrent_38 : decode cX7_isCurrent 38 = .ok (.getfield 129, 3) := by decide +kernel
theorem dX7_isCurrent_41 : decode cX7_isCurrent 41 = .ok (.aload_n 1, 1) := by decide +kernel
theorem dX7_isCurrent_42 : decode cX7_isCurrent 42 = .ok (.iload_n 3, 1) := by decide +kernel
set_option maxRecDepth 100000 in
theorem q1310 : Cond.methodLink RX7 327 yX6_versionOf ∈ GT := gt 1310 (by decide +kernel) (by decide +kernel)
theorem dX7_isCurrent_43 : decode cX7_isCurrent 43 = .ok (.invokevirtual 327, 3) := by decide +kernel
theorem dX7_isCurrent_46 : decode cX7_isCurrent 46 = .ok (.if_icmp .eq 5, 3) := by decide +kernel
theorem dX7_isCurrent_51 : decode cX7_isCurrent 51 = .ok (.iinc 2 1, 3) := by decide +kernel
theorem dX7_isCurrent_54 : decode cX7_isCurrent 54 = .ok (.goto (-52), 3) := by decide +kernel
set_option maxHeartbeats 4000000 in
set_option maxRecDepth 100000 in
theorem w_X7_isCurrent_2 {p : Program} {l : Launch} {e : Env} {R : Room} {s : State} {m : MethodId} {args : Array Value} {below : List Frame} {meth : Method} {c : Code} {G : Gt} {ρ0 : Int → Nat} {M0 : Mo} {res : RS} (F : Fx p l R s m args meth c cX7_isCurrent 4 RX7 G M0 2 (some FieldType.boolean)) (hno : ∀ x ∈ c.exceptionTable.toList, False) (hnm : meth.name = yX7_isCurrent.name) (n : Nat) : ∀ (x0 x1 x2 : Int) (M : Mo), X7_isCurrent_2 n x0 x1 x2 M = some res → J p l e R s m args below meth c 4 G ρ0 M0 1 res M 2 [(0, (false, x0)), (1, (false, x1)), (2, (true, x2))] [] := by
  induction n with
  | zero => intro x0 x1 x2 M h; cases h
  | succ n ih =>
    intro x0 x1 x2 M h
    rw [X7_isCurrent_2] at h
    refine j_iload_n F 2 rfl rfl dX7_isCurrent_2 ?_
    refine j_aload_n F 1 rfl rfl dX7_isCurrent_3 ?_
    obtain ⟨g1, h⟩ := gua h
    refine j_get F ft_X7_279 rfl g1 dX7_isCurrent_4 ?_
    obtain ⟨g5, h⟩ := gua h
    refine j_callV (d' := 0) (argl := []) (rk9 := 1) (st := [(true, x2)]) F hno M_X5_size q1022 q1023 q1281 ⟨by decide, by decide⟩ (Nat.le_of_ble_eq_true rfl) (by decide) (ci := 6) rfl (by decide) g5 dX7_isCurrent_7 rfl h (fun z hz => c_X5_size l F.ht G (fd M 7 15 x1) M z hz) (fun v2 M3 h kl4 => ?_)
    refine j_st (st' := [(true, v2), (true, x2)]) rfl ?_
    refine j_icmp_ge F 57 (by decide) dX7_isCurrent_10 h (fun h => ?_) (fun h => ?_)
    · skip
      refine j_iconst F dX7_isCurrent_57 ?_
      exact j_zret F (by decide) h dX7_isCurrent_58
    · skip
      refine j_aload_n F 1 rfl rfl dX7_isCurrent_13 ?_
      refine j_get F ft_X7_279 rfl (kl4.is g1) dX7_isCurrent_14 ?_
      refine j_iload_n F 2 rfl rfl dX7_isCurrent_17 ?_
      obtain ⟨g9, h⟩ := gua h
      refine j_callV (d' := 1) (argl := [(true, x2)]) (rk9 := 1) (st := []) F hno M_X5_fileAt q875 q876 q1282 ⟨by decide, by decide⟩ (Nat.le_of_ble_eq_true rfl) (by decide) (ci := 6) rfl (by decide) g9 dX7_isCurrent_18 rfl h (fun z hz => c_X5_fileAt l F.ht G (fd M3 7 15 x1) x2 M3 z hz) (fun v6 M7 h kl8 => ?_)
      refine j_st (st' := [(true, v6)]) rfl ?_
      refine j_istore_n F (lv' := [(3, (true, v6)), (0, (false, x0)), (1, (false, x1)), (2, (true, x2))]) rfl (by decide) rfl dX7_isCurrent_21 ?_
      refine j_aload_n F 1 rfl rfl dX7_isCurrent_22 ?_
      refine j_iload_n F 0 rfl rfl dX7_isCurrent_23 ?_
      obtain ⟨g13, h⟩ := gua h
      refine j_callV (d' := 0) (argl := [(true, v6)]) (rk9 := 2) (st := []) F hno M_X7_copyOf q1267 q1268 q1266 ⟨by decide, by decide⟩ (Nat.le_of_ble_eq_true rfl) (by decide) (ci := 8) rfl (by decide) g13 dX7_isCurrent_24 rfl h (fun z hz => c_X7_copyOf l F.ht G x0 v6 M7 z hz) (fun v10 M11 h kl12 => ?_)
      refine j_st (st' := [(false, v10)]) rfl ?_
      obtain ⟨g17, h⟩ := gua h
      refine j_callV (d' := 0) (argl := []) (rk9 := 1) (st := []) F hno M_X2_isHere q468 q469 q467 ⟨by decide, by decide⟩ (Nat.le_of_ble_eq_true rfl) (by decide) (ci := 3) rfl (by decide) g17 dX7_isCurrent_27 rfl h (fun z hz => c_X2_isHere l F.ht G v10 M11 z hz) (fun v14 M15 h kl16 => ?_)
      refine j_st (st' := [(true, v14)]) rfl ?_
      refine j_if_eq F 49 (by decide) dX7_isCurrent_30 h (fun h => ?_) (fun h => ?_)
      · skip
        refine j_iconst F dX7_isCurrent_49 ?_
        exact j_zret F (by decide) h dX7_isCurrent_50
      · skip
        refine j_aload_n F 1 rfl rfl dX7_isCurrent_33 ?_
        refine j_iload_n F 0 rfl rfl dX7_isCurrent_34 ?_
        refine j_callV (d' := 0) (argl := [(true, v6)]) (rk9 := 2) (st := []) F hno M_X7_copyOf q1267 q1268 q1266 ⟨by decide, by decide⟩ (Nat.le_of_ble_eq_true rfl) (by decide) (ci := 8) rfl (by decide) (kl16.is (kl12.is g13)) dX7_isCurrent_35 rfl h (fun z hz => c_X7_copyOf l F.ht G x0 v6 M15 z hz) (fun v18 M19 h kl20 => ?_)
        refine j_st (st' := [(false, v18)]) rfl ?_
        obtain ⟨g21, h⟩ := gua h
        refine j_get F ft_X7_129 rfl g21 dX7_isCurrent_38 ?_
        refine j_aload_n F 2 rfl rfl dX7_isCurrent_41 ?_
        refine j_iload_n F 0 rfl rfl dX7_isCurrent_42 ?_
        refine j_callV (d' := 0) (argl := [(true, v6)]) (rk9 := 1) (st := [(true, (fd M19 3 4 v18))]) F hno M_X6_versionOf q1311 q1312 q1310 ⟨by decide, by decide⟩ (Nat.le_of_ble_eq_true rfl) (by decide) (ci := 7) rfl (by decide) (kl20.is (kl16.is (kl12.is (kl8.is (kl4.is g1))))) dX7_isCurrent_43 rfl h (fun z hz => c_X6_versionOf l F.ht G x1 v6 M19 z hz) (fun v22 M23 h kl24 => ?_)
        refine j_st (st' := [(true, v22), (true, (fd M19 3 4 v18))]) rfl ?_
        refine j_icmp_eq F 51 (by decide) dX7_isCurrent_46 h (fun h => ?_) (fun h => ?_)
        · skip
          refine j_iinc F 3 (lv' := [(2, (true, (x2 + 1))), (3, (true, v6)), (0, (false, x0)), (1, (false, x1))]) rfl (by decide) rfl dX7_isCurrent_51 ?_
          refine j_goto F 2 (by decide) dX7_isCurrent_54 ?_
          refine j_sub (lv' := [(0, (false, x0)), (1, (false, x1)), (2, (true, (x2 + 1)))]) [2, 3, 0] rfl ?_
          exact ih x0 x1 (x2 + 1) M23 h
        · skip
          refine j_iconst F dX7_isCurrent_49 ?_
          exact j_zret F (by decide) h dX7_isCurrent_50
set_option maxHeartbeats 4000000 in
set_option maxRecDepth 100000 in
theorem w_X7_isCurrent_0 {p : Program} {l : Launch} {e : Env} {R : Room} {s : State} {m : MethodId} {args : Array Value} {below : List Frame} {meth : Method} {c : Code} {G : Gt} {ρ0 : Int → Nat} {M0 : Mo} {res : RS} (F : Fx p l R s m args meth c cX7_isCurrent 4 RX7 G M0 2 (some FieldType.boolean)) (hno : ∀ x ∈ c.exceptionTable.toList, False) (hnm : meth.name = yX7_isCurrent.name) (x0 x1 : Int) (M : Mo) (h : X7_isCurrent x0 x1 M = some res) : J p l e R s m args below meth c 4 G ρ0 M0 1 res M 0 [(0, (false, x0)), (1, (false, x1))] [] := by
  unfold X7_isCurrent at h
  refine j_iconst F dX7_isCurrent_0 ?_
  refine j_istore_n F (lv' := [(2, (true, 0)), (0, (false, x0)), (1, (false, x1))]) rfl (by decide) rfl dX7_isCurrent_1 ?_
  refine j_sub (lv' := [(0, (false, x0)), (1, (false, x1)), (2, (true, 0))]) [1, 2, 0] rfl ?_
  exact w_X7_isCurrent_2 F hno hnm FU x0 x1 0 M h
theorem c_X7_isCurrent (l : Launch) (hl : l.stackTraces = false) (G : Gt) (x0 x1 : Int) (M : Mo) (z : RS) (h : X7_isCurrent x0 x1 M = some z) : CT l G yX7_isCurrent (cn yX7_isCurrent cX7_isCurrent 4 (some FieldType.boolean)) 2 [(false, x0), (false, x1)] M 1 z :=
  ctOf hl (by decide) (Nat.le_of_ble_eq_true rfl) (fun p e R s m args below meth c ρ F hno hnm => w_X7_isCurrent_0 F hno hnm x0 x1 M h)
theorem dX7_mergeLowest_0 : decode cX7_mergeLowest 0 = .ok (.iconst 0, 1) := by decide +kernel
theorem dX7_mergeLowest_1 : decode cX7_mergeLowest 1 = .ok (.istore_n 2, 1) := by decide +kernel
theorem dX7_mergeLowest_2 : decode cX7_mergeLowest 2 = .ok (.iconst 0, 1) := by decide +kernel
theorem dX7_mergeLowest_3 : decode cX7_mergeLowest 3 = .ok (.istore_n 3, 1) := by decide +kernel
theorem dX7_mergeLowest_4 : decode cX7_mergeLowest 4 = .ok (.iload_n 3, 1) := by decide +kernel
theorem dX7_mergeLowest_5 : decode cX7_mergeLowest 5 = .ok (.iconst 3, 1) := by decide +kernel
theorem dX7_mergeLowest_6 : decode cX7_mergeLowest 6 = .ok (.if_icmp .ge 68, 3) := by decide +kernel
theorem dX7_mergeLowest_74 : decode cX7_mergeLowest 74 = .ok (.iload_n 2, 1) := by decide +kernel
theorem dX7_mergeLowest_75 : decode cX7_mergeLowest 75 = .ok (.ifCond .ne 7, 3) := by decide +kernel
theorem dX7_mergeLowest_82 : decode cX7_mergeLowest 82 = .ok (.iconst 0, 1) := by decide +kernel
theorem dX7_mergeLowest_83 : decode cX7_mergeLowest 83 = .ok (.ireturn, 1) := by decide +kernel
theorem dX7_mergeLowest_78 : decode cX7_mergeLowest 78 = .ok (.iconst 1, 1) := by decide +kernel
theorem dX7_mergeLowest_79 : decode cX7_mergeLowest 79 = .ok (.goto 4, 3) := by decide +kernel
theorem dX7_mergeLowest_9 : decode cX7_mergeLowest 9 = .ok (.aload_n 1, 1) := by decide +kernel
theorem dX7_mergeLowest_10 : decode cX7_mergeLowest 10 = .ok (.iload_n 3, 1) := by decide +kernel
theorem dX7_mergeLowest_11 : decode cX7_mergeLowest 11 = .ok (.invokevirtual 289, 3) := by decide +kernel
theorem dX7_mergeLowest_14 : decode cX7_mergeLowest 14 = .ok (.astore 4, 2) := by decide +kernel
theorem dX7_mergeLowest_16 : decode cX7_mergeLowest 16 = .ok (.aload 4, 2) := by decide +kernel
theorem dX7_mergeLowest_18 : decode cX7_mergeLowest 18 = .ok (.ifnull 50, 3) := by decide +kernel
theorem dX7_mergeLowest_21 : decode cX7_mergeLowest 21 = .ok (.aload 4, 2) := by decide +kernel
theorem dX7_mergeLowest_23 : decode cX7_mergeLowest 23 = .ok (.getfield 279, 3) := by decide +kernel
theorem dX7_mergeLowest_26 : decode cX7_mergeLowest 26 = .ok (.invokevirtual 297, 3) := by decide +kernel
theorem dX7_mergeLowest_29 : decode cX7_mergeLowest 29 = .ok (.ifCond .le 39, 3) := by decide +kernel
theorem dX7_mergeLowest_32 : decode cX7_mergeLowest 32 = .ok (.aload_n 1, 1) := by decide +kernel
theorem dX7_mergeLowest_33 : decode cX7_mergeLowest 33 = .ok (.getfield 176, 3) := by decide +kernel
theorem dX7_mergeLowest_36 : decode cX7_mergeLowest 36 = .ok (.getfield 180, 3) := by decide +kernel
theorem dX7_mergeLowest_39 : decode cX7_mergeLowest 39 = .ok (.iconst 4, 1) := by decide +kernel
theorem dX7_mergeLowest_40 : decode cX7_mergeLowest 40 = .ok (.if_icmp .ne 12, 3) := by decide +kernel
theorem dX7_mergeLowest_43 : decode cX7_mergeLowest 43 = .ok (.aload_n 0, 1) := by decide +kernel
theorem dX7_mergeLowest_44 : decode cX7_mergeLowest 44 = .ok (.aload 4, 2) := by decide +kernel
set_option maxRecDepth 100000 in
theorem q1309 : Cond.code yX7_isCurrent cX7_isCurrent 4 (some FieldType.boolean) ∈ GT := gt 1309 (rfl) (by decide +kernel)
theorem M_X7_isCurrent : MY yX7_isCurrent cX7_isCurrent 4 (some FieldType.boolean) 1 := ⟨q1309, q63, by decide +kernel, by decide +kernel⟩
set_option maxRecDepth 100000 in
theorem q1308 : Cond.instanceMethod yX7_isCurrent ∈ GT := gt 1308 (by decide +kernel) (by decide +kernel)
set_option maxRecDepth 100000 in
theorem q28 : Cond.selects RX7 yX7_isCurrent yX7_isCurrent ∈ GT := gt 28 (by decide +kernel) (by decide +kernel)
set_option maxRecDepth 100000 in
theorem q1306 : Cond.methodLink RX7 321 yX7_isCurrent ∈ GT := gt 1306 (by decide +kernel) (by decide +kernel)
theorem dX7_mergeLowest_46 : decode cX7_mergeLowest 46 = .ok (.invokevirtual 321, 3) := by decide +kernel
theorem dX7_mergeLowest_49 : decode cX7_mergeLowest 49 = .ok (.ifCond .eq 17, 3) := by decide +kernel
theorem dX7_mergeLowest_66 : decode cX7_mergeLowest 66 = .ok (.iconst 1, 1) := by decide +kernel
theorem dX7_mergeLowest_67 : decode cX7_mergeLowest 67 = .ok (.istore_n 2, 1) := by decide +kernel
theorem dX7_mergeLowest_52 : decode cX7_mergeLowest 52 = .ok (.aload_n 0, 1) := by decide +kernel
theorem dX7_mergeLowest_53 : decode cX7_mergeLowest 53 = .ok (.getfield 43, 3) := by decide +kernel
theorem dX7_mergeLowest_56 : decode cX7_mergeLowest 56 = .ok (.aload 4, 2) := by decide +kernel
theorem dX7_mergeLowest_58 : decode cX7_mergeLowest 58 = .ok (.getfield 279, 3) := by decide +kernel
set_option maxRecDepth 100000 in
theorem q1317 : Cond.code yX5_takeAll cX5_takeAll 3 none ∈ GT := gt 1317 (rfl) (by decide +kernel)
theorem M_X5_takeAll : MY yX5_takeAll cX5_takeAll 3 none 1 := ⟨q1317, q62, by decide +kernel, by decide +kernel⟩
set_option maxRecDepth 100000 in
theorem q1315 : Cond.instanceMethod yX5_takeAll ∈ GT := gt 1315 (by decide +kernel) (by decide +kernel)
set_option maxRecDepth 100000 in
theorem q1316 : Cond.selects RX5 yX5_takeAll yX5_takeAll ∈ GT := gt 1316 (by decide +kernel) (by decide +kernel)
set_option maxRecDepth 100000 in
theorem q1314 : Cond.methodLink RX7 325 yX5_takeAll ∈ GT := gt 1314 (by decide +kernel) (by decide +kernel)
theorem dX7_mergeLowest_61 : decode cX7_mergeLowest 61 = .ok (.invokevirtual 325, 3) := by decide +kernel
theorem dX7_mergeLowest_64 : decode cX7_mergeLowest 64 = .ok (.iconst 1, 1) := by decide +kernel
theorem dX7_mergeLowest_65 : decode cX7_mergeLowest 65 = .ok (.ireturn, 1) := by decide +kernel
theorem dX7_mergeLowest_68 : decode cX7_mergeLowest 68 = .ok (.iinc 3 1, 3) := by decide +kernel
theorem dX7_mergeLowest_71 : decode cX7_mergeLowest 71 = .ok (.goto (-67), 3) := by decide +kernel
set_option maxHeartbeats 4000000 in
set_option maxRecDepth 100000 in
theorem w_X7_mergeLowest_52 {p : Program} {l : Launch} {e : Env} {R : Room} {s : State} {m : MethodId} {args : Array Value} {below : List Frame} {meth : Method} {c : Code} {G : Gt} {ρ0 : Int → Nat} {M0 : Mo} {res : RS} (F : Fx p l R s m args meth c cX7_mergeLowest 5 RX7 G M0 3 (some FieldType.boolean)) (hno : ∀ x ∈ c.exceptionTable.toList, False) (hnm : meth.name = yX7_mergeLowest.name) (x0 x4 : Int) (M : Mo) (h : X7_mergeLowest_52 x0 x4 M = some res) : J p l e R s m args below meth c 5 G ρ0 M0 1 res M 52 [(0, (false, x0)), (4, (false, x4))] [] := by
  unfold X7_mergeLowest_52 at h
  refine j_aload_n F 0 rfl rfl dX7_mergeLowest_52 ?_
  obtain ⟨g1, h⟩ := gua h
  refine j_get F ft_X7_43 rfl g1 dX7_mergeLowest_53 ?_
  refine j_aload F 1 rfl dX7_mergeLowest_56 ?_
  obtain ⟨g2, h⟩ := gua h
  refine j_get F ft_X7_279 rfl g2 dX7_mergeLowest_58 ?_
  obtain ⟨g6, h⟩ := gua h
  refine j_callV (d' := 2) (argl := [(false, (fd M 7 15 x4))]) (rk9 := 0) (st := []) F hno M_X5_takeAll q1315 q1316 q1314 ⟨by decide, by decide⟩ (Nat.le_of_ble_eq_true rfl) (by decide) (ci := 6) rfl (by decide) g6 dX7_mergeLowest_61 rfl h (fun z hz => c_X5_takeAll l F.ht G (fd M 8 10 x0) (fd M 7 15 x4) M z hz) (fun v3 M4 h kl5 => ?_)
  refine j_st (st' := []) rfl ?_
  refine j_iconst F dX7_mergeLowest_64 ?_
  exact j_zret F (by decide) h dX7_mergeLowest_65
set_option maxHeartbeats 4000000 in
set_option maxRecDepth 100000 in
theorem w_X7_mergeLowest_68 {p : Program} {l : Launch} {e : Env} {R : Room} {s : State} {m : MethodId} {args : Array Value} {below : List Frame} {meth : Method} {c : Code} {G : Gt} {ρ0 : Int → Nat} {M0 : Mo} {res : RS} (F : Fx p l R s m args meth c cX7_mergeLowest 5 RX7 G M0 3 (some FieldType.boolean)) (hno : ∀ x ∈ c.exceptionTable.toList, False) (hnm : meth.name = yX7_mergeLowest.name) (k4 : Int → Int → Int → Int → Mo → Option RS) (hk4 : ∀ (x0 x1 x2 x3 : Int) (M : Mo), k4 x0 x1 x2 x3 M = some res → J p l e R s m args below meth c 5 G ρ0 M0 1 res M 4 [(0, (false, x0)), (1, (false, x1)), (2, (true, x2)), (3, (true, x3))] []) (x0 x1 x2 x3 : Int) (M : Mo) (h : X7_mergeLowest_68 k4 x0 x1 x2 x3 M = some res) : J p l e R s m args below meth c 5 G ρ0 M0 1 res M 68 [(0, (false, x0)), (1, (false, x1)), (2, (true, x2)), (3, (true, x3))] [] := by
  unfold X7_mergeLowest_68 at h
  refine j_iinc F 3 (lv' := [(3, (true, (x3 + 1))), (0, (false, x0)), (1, (false, x1)), (2, (true, x2))]) rfl (by decide) rfl dX7_mergeLowest_68 ?_
  refine j_goto F 4 (by decide) dX7_mergeLowest_71 ?_
  refine j_sub (lv' := [(0, (false, x0)), (1, (false, x1)), (2, (true, x2)), (3, (true, (x3 + 1)))]) [1, 2, 3, 0] rfl ?_
  exact hk4 x0 x1 x2 (x3 + 1) M h
set_option maxHeartbeats 4000000 in
set_option maxRecDepth 100000 in
theorem w_X7_mergeLowest_4 {p : Program} {l : Launch} {e : Env} {R : Room} {s : State} {m : MethodId} {args : Array Value} {below : List Frame} {meth : Method} {c : Code} {G : Gt} {ρ0 : Int → Nat} {M0 : Mo} {res : RS} (F : Fx p l R s m args meth c cX7_mergeLowest 5 RX7 G M0 3 (some FieldType.boolean)) (hno : ∀ x ∈ c.exceptionTable.toList, False) (hnm : meth.name = yX7_mergeLowest.name) (n : Nat) : ∀ (x0 x1 x2 x3 : Int) (M : Mo), X7_mergeLowest_4 n x0 x1 x2 x3 M = some res → J p l e R s m args below meth c 5 G ρ0 M0 1 res M 4 [(0, (false, x0)), (1, (false, x1)), (2, (true, x2)), (3, (true, x3))] [] := by
  induction n with
  | zero => intro x0 x1 x2 x3 M h; cases h
  | succ n ih =>
    intro x0 x1 x2 x3 M h
    rw [X7_mergeLowest_4] at h
    refine j_iload_n F 3 rfl rfl dX7_mergeLowest_4 ?_
    refine j_iconst F dX7_mergeLowest_5 ?_
    refine j_icmp_ge F 74 (by decide) dX7_mergeLowest_6 h (fun h => ?_) (fun h => ?_)
    · skip
      refine j_iload_n F 2 rfl rfl dX7_mergeLowest_74 ?_
      refine j_if_ne F 82 (by decide) dX7_mergeLowest_75 h (fun h => ?_) (fun h => ?_)
      · skip
        refine j_iconst F dX7_mergeLowest_82 ?_
        exact j_zret F (by decide) h dX7_mergeLowest_83
      · skip
        refine j_iconst F dX7_mergeLowest_78 ?_
        refine j_goto F 83 (by decide) dX7_mergeLowest_79 ?_
        exact j_zret F (by decide) h dX7_mergeLowest_83
    · skip
      refine j_aload_n F 1 rfl rfl dX7_mergeLowest_9 ?_
      refine j_iload_n F 3 rfl rfl dX7_mergeLowest_10 ?_
      obtain ⟨g4, h⟩ := gua h
      refine j_callV (d' := 0) (argl := [(true, x3)]) (rk9 := 2) (st := []) F hno M_X8_answerOf q1277 q1278 q1276 ⟨by decide, by decide⟩ (Nat.le_of_ble_eq_true rfl) (by decide) (ci := 9) rfl (by decide) g4 dX7_mergeLowest_11 rfl h (fun z hz => c_X8_answerOf l F.ht G x1 x3 M z hz) (fun v1 M2 h kl3 => ?_)
      refine j_st (st' := [(false, v1)]) rfl ?_
      refine j_astore F (lv' := [(4, (false, v1)), (0, (false, x0)), (1, (false, x1)), (2, (true, x2)), (3, (true, x3))]) (by decide) rfl dX7_mergeLowest_14 ?_
      refine j_aload F 0 rfl dX7_mergeLowest_16 ?_
      refine j_ifnull F 68 (by decide) dX7_mergeLowest_18 h (fun h => ?_) (fun h => ?_)
      · skip
        refine j_sub (lv' := [(0, (false, x0)), (1, (false, x1)), (2, (true, x2)), (3, (true, x3))]) [1, 2, 3, 4] rfl ?_
        exact w_X7_mergeLowest_68 F hno hnm (X7_mergeLowest_4 n) ih x0 x1 x2 x3 M2 h
      · skip
        refine j_aload F 0 rfl dX7_mergeLowest_21 ?_
        obtain ⟨g5, h⟩ := gua h
        refine j_get F ft_X7_279 rfl g5 dX7_mergeLowest_23 ?_
        obtain ⟨g9, h⟩ := gua h
        refine j_callV (d' := 0) (argl := []) (rk9 := 1) (st := []) F hno M_X5_size q1022 q1023 q1281 ⟨by decide, by decide⟩ (Nat.le_of_ble_eq_true rfl) (by decide) (ci := 6) rfl (by decide) g9 dX7_mergeLowest_26 rfl h (fun z hz => c_X5_size l F.ht G (fd M2 7 15 v1) M2 z hz) (fun v6 M7 h kl8 => ?_)
        refine j_st (st' := [(true, v6)]) rfl ?_
        refine j_if_le F 68 (by decide) dX7_mergeLowest_29 h (fun h => ?_) (fun h => ?_)
        · skip
          refine j_sub (lv' := [(0, (false, x0)), (1, (false, x1)), (2, (true, x2)), (3, (true, x3))]) [1, 2, 3, 4] rfl ?_
          exact w_X7_mergeLowest_68 F hno hnm (X7_mergeLowest_4 n) ih x0 x1 x2 x3 M7 h
        · skip
          refine j_aload_n F 2 rfl rfl dX7_mergeLowest_32 ?_
          refine j_get F ft_X7_176 rfl (kl8.is (kl3.is g4)) dX7_mergeLowest_33 ?_
          obtain ⟨g10, h⟩ := gua h
          refine j_get F ft_X7_180 rfl g10 dX7_mergeLowest_36 ?_
          refine j_iconst F dX7_mergeLowest_39 ?_
          refine j_icmp_ne F 52 (by decide) dX7_mergeLowest_40 h (fun h => ?_) (fun h => ?_)
          · skip
            refine j_sub (lv' := [(0, (false, x0)), (4, (false, v1))]) [1, 0] rfl ?_
            exact w_X7_mergeLowest_52 F hno hnm x0 v1 M7 h
          · skip
            refine j_aload_n F 1 rfl rfl dX7_mergeLowest_43 ?_
            refine j_aload F 0 rfl dX7_mergeLowest_44 ?_
            obtain ⟨g14, h⟩ := gua h
            refine j_callV (d' := 2) (argl := [(false, v1)]) (rk9 := 1) (st := []) F hno M_X7_isCurrent q1308 q28 q1306 ⟨by decide, by decide⟩ (Nat.le_of_ble_eq_true rfl) (by decide) (ci := 8) rfl (by decide) g14 dX7_mergeLowest_46 rfl h (fun z hz => c_X7_isCurrent l F.ht G x0 v1 M7 z hz) (fun v11 M12 h kl13 => ?_)
            refine j_st (st' := [(true, v11)]) rfl ?_
            refine j_if_eq F 66 (by decide) dX7_mergeLowest_49 h (fun h => ?_) (fun h => ?_)
            · skip
              refine j_iconst F dX7_mergeLowest_66 ?_
              refine j_istore_n F (lv' := [(2, (true, 1)), (4, (false, v1)), (0, (false, x0)), (1, (false, x1)), (3, (true, x3))]) rfl (by decide) rfl dX7_mergeLowest_67 ?_
              refine j_sub (lv' := [(0, (false, x0)), (1, (false, x1)), (2, (true, 1)), (3, (true, x3))]) [2, 3, 0, 4] rfl ?_
              exact w_X7_mergeLowest_68 F hno hnm (X7_mergeLowest_4 n) ih x0 x1 1 x3 M12 h
            · skip
              refine j_sub (lv' := [(0, (false, x0)), (4, (false, v1))]) [1, 0] rfl ?_
              exact w_X7_mergeLowest_52 F hno hnm x0 v1 M12 h
set_option maxHeartbeats 4000000 in
set_option maxRecDepth 100000 in
theorem w_X7_mergeLowest_0 {p : Program} {l : Launch} {e : Env} {R : Room} {s : State} {m : MethodId} {args : Array Value} {below : List Frame} {meth : Method} {c : Code} {G : Gt} {ρ0 : Int → Nat} {M0 : Mo} {res : RS} (F : Fx p l R s m args meth c cX7_mergeLowest 5 RX7 G M0 3 (some FieldType.boolean)) (hno : ∀ x ∈ c.exceptionTable.toList, False) (hnm : meth.name = yX7_mergeLowest.name) (x0 x1 : Int) (M : Mo) (h : X7_mergeLowest x0 x1 M = some res) : J p l e R s m args below meth c 5 G ρ0 M0 1 res M 0 [(0, (false, x0)), (1, (false, x1))] [] := by
  unfold X7_mergeLowest at h
  refine j_iconst F dX7_mergeLowest_0 ?_
  refine j_istore_n F (lv' := [(2, (true, 0)), (0, (false, x0)), (1, (false, x1))]) rfl (by decide) rfl dX7_mergeLowest_1 ?_
  refine j_iconst F dX7_mergeLowest_2 ?_
  refine j_istore_n F (lv' := [(3, (true, 0)), (2, (true, 0)), (0, (false, x0)), (1, (false, x1))]) rfl (by decide) rfl dX7_mergeLowest_3 ?_
  refine j_sub (lv' := [(0, (false, x0)), (1, (false, x1)), (2, (true, 0)), (3, (true, 0))]) [2, 3, 1, 0] rfl ?_
  exact w_X7_mergeLowest_4 F hno hnm FU x0 x1 0 0 M h
theorem c_X7_mergeLowest (l : Launch) (hl : l.stackTraces = false) (G : Gt) (x0 x1 : Int) (M : Mo) (z : RS) (h : X7_mergeLowest x0 x1 M = some z) : CT l G yX7_mergeLowest (cn yX7_mergeLowest cX7_mergeLowest 5 (some FieldType.boolean)) 3 [(false, x0), (false, x1)] M 1 z :=
  ctOf hl (by decide) (Nat.le_of_ble_eq_true rfl) (fun p e R s m args below meth c ρ F hno hnm => w_X7_mergeLowest_0 F hno hnm x0 x1 M h)
theorem dX7_settle_0 : decode cX7_settle 0 = .ok (.aload_n 1, 1) := by decide +kernel
theorem dX7_settle_1 : decode cX7_settle 1 = .ok (.ifnonnull 4, 3) := by decide +kernel
theorem dX7_settle_5 : decode cX7_settle 5 = .ok (.aload_n 1, 1) := by decide +kernel
theorem dX7_settle_6 : decode cX7_settle 6 = .ok (.getfield 176, 3) := by decide +kernel
theorem dX7_settle_9 : decode cX7_settle 9 = .ok (.astore_n 2, 1) := by decide +kernel
theorem dX7_settle_10 : decode cX7_settle 10 = .ok (.aload_n 2, 1) := by decide +kernel
theorem dX7_settle_11 : decode cX7_settle 11 = .ok (.getfield 180, 3) := by decide +kernel
theorem dX7_settle_14 : decode cX7_settle 14 = .ok (.istore_n 3, 1) := by decide +kernel
theorem dX7_settle_15 : decode cX7_settle 15 = .ok (.aload_n 0, 1) := by decide +kernel
theorem dX7_settle_16 : decode cX7_settle 16 = .ok (.aload_n 2, 1) := by decide +kernel
theorem dX7_settle_17 : decode cX7_settle 17 = .ok (.getfield 101, 3) := by decide +kernel
theorem dX7_settle_20 : decode cX7_settle 20 = .ok (.invokevirtual 125, 3) := by decide +kernel
theorem dX7_settle_23 : decode cX7_settle 23 = .ok (.astore 4, 2) := by decide +kernel
theorem dX7_settle_25 : decode cX7_settle 25 = .ok (.aload 4, 2) := by decide +kernel
theorem dX7_settle_27 : decode cX7_settle 27 = .ok (.invokevirtual 71, 3) := by decide +kernel
theorem dX7_settle_30 : decode cX7_settle 30 = .ok (.ifCond .eq 34, 3) := by decide +kernel
theorem dX7_settle_33 : decode cX7_settle 33 = .ok (.aload 4, 2) := by decide +kernel
theorem dX7_settle_35 : decode cX7_settle 35 = .ok (.getfield 257, 3) := by decide +kernel
theorem dX7_settle_38 : decode cX7_settle 38 = .ok (.aload_n 2, 1) := by decide +kernel
theorem dX7_settle_39 : decode cX7_settle 39 = .ok (.getfield 104, 3) := by decide +kernel
theorem dX7_settle_42 : decode cX7_settle 42 = .ok (.if_icmp .gt 22, 3) := by decide +kernel
theorem dX7_settle_45 : decode cX7_settle 45 = .ok (.iload_n 3, 1) := by decide +kernel
set_option maxRecDepth 100000 in
theorem q1270 : Cond.methodLinkNest RX7 260 yX11_isMoved "ToolPlex" ∈ GT := gt 1270 (by decide +kernel) (by decide +kernel)
theorem dX7_settle_46 : decode cX7_settle 46 = .ok (.invokestatic 260, 3) := by decide +kernel
theorem dX7_settle_49 : decode cX7_settle 49 = .ok (.ifCond .ne 19, 3) := by decide +kernel
theorem dX7_settle_52 : decode cX7_settle 52 = .ok (.aload 4, 2) := by decide +kernel
theorem dX7_settle_54 : decode cX7_settle 54 = .ok (.getfield 129, 3) := by decide +kernel
theorem dX7_settle_57 : decode cX7_settle 57 = .ok (.aload_n 2, 1) := by decide +kernel
theorem dX7_settle_58 : decode cX7_settle 58 = .ok (.getfield 104, 3) := by decide +kernel
theorem dX7_settle_61 : decode cX7_settle 61 = .ok (.if_icmp .eq 7, 3) := by decide +kernel
theorem dX7_settle_4 : decode cX7_settle 4 = .ok (.return_, 1) := by decide +kernel
theorem dX7_settle_64 : decode cX7_settle 64 = .ok (.iconst 1, 1) := by decide +kernel
theorem dX7_settle_65 : decode cX7_settle 65 = .ok (.goto 4, 3) := by decide +kernel
theorem dX7_settle_68 : decode cX7_settle 68 = .ok (.iconst 0, 1) := by decide +kernel
theorem dX7_settle_69 : decode cX7_settle 69 = .ok (.istore 5, 2) := by decide +kernel
theorem dX7_settle_71 : decode cX7_settle 71 = .ok (.aload_n 0, 1) := by decide +kernel
theorem dX7_settle_72 : decode cX7_settle 72 = .ok (.getfield 43, 3) := by decide +kernel
theorem dX7_settle_75 : decode cX7_settle 75 = .ok (.invokevirtual 140, 3) := by decide +kernel
theorem dX7_settle_78 : decode cX7_settle 78 = .ok (.iload 5, 2) := by decide +kernel
theorem dX7_settle_80 : decode cX7_settle 80 = .ok (.ifCond .ne 20, 3) := by decide +kernel
theorem dX7_settle_83 : decode cX7_settle 83 = .ok (.iload_n 3, 1) := by decide +kernel
theorem dX7_settle_84 : decode cX7_settle 84 = .ok (.invokestatic 260, 3) := by decide +kernel
theorem dX7_settle_87 : decode cX7_settle 87 = .ok (.ifCond .eq 13, 3) := by decide +kernel
theorem dX7_settle_90 : decode cX7_settle 90 = .ok (.aload_n 0, 1) := by decide +kernel
theorem dX7_settle_91 : decode cX7_settle 91 = .ok (.aload_n 1, 1) := by decide +kernel
theorem dX7_settle_92 : decode cX7_settle 92 = .ok (.aload 4, 2) := by decide +kernel
set_option maxRecDepth 100000 in
theorem q1275 : Cond.code yX7_mergeMoved cX7_mergeMoved 7 none ∈ GT := gt 1275 (rfl) (by decide +kernel)
theorem M_X7_mergeMoved : MY yX7_mergeMoved cX7_mergeMoved 7 none 2 := ⟨q1275, q63, by decide +kernel, by decide +kernel⟩
set_option maxRecDepth 100000 in
theorem q1274 : Cond.instanceMethod yX7_mergeMoved ∈ GT := gt 1274 (by decide +kernel) (by decide +kernel)
set_option maxRecDepth 100000 in
theorem q25 : Cond.selects RX7 yX7_mergeMoved yX7_mergeMoved ∈ GT := gt 25 (by decide +kernel) (by decide +kernel)
set_option maxRecDepth 100000 in
theorem q1272 : Cond.methodLink RX7 263 yX7_mergeMoved ∈ GT := gt 1272 (by decide +kernel) (by decide +kernel)
theorem dX7_settle_94 : decode cX7_settle 94 = .ok (.invokevirtual 263, 3) := by decide +kernel
theorem dX7_settle_97 : decode cX7_settle 97 = .ok (.goto 45, 3) := by decide +kernel
theorem dX7_settle_100 : decode cX7_settle 100 = .ok (.iload 5, 2) := by decide +kernel
theorem dX7_settle_102 : decode cX7_settle 102 = .ok (.ifCond .ne 20, 3) := by decide +kernel
theorem dX7_settle_105 : decode cX7_settle 105 = .ok (.iload_n 3, 1) := by decide +kernel
theorem dX7_settle_106 : decode cX7_settle 106 = .ok (.ifCond .ne 16, 3) := by decide +kernel
theorem dX7_settle_109 : decode cX7_settle 109 = .ok (.aload_n 0, 1) := by decide +kernel
theorem dX7_settle_110 : decode cX7_settle 110 = .ok (.aload_n 1, 1) := by decide +kernel
theorem dX7_settle_111 : decode cX7_settle 111 = .ok (.aload 4, 2) := by decide +kernel
set_option maxRecDepth 100000 in
theorem q195 : Cond.fieldLink RX7 252 "ToolPlex$Copy" "text" "LToolPlex$Text;" ∈ GT := gt 195 (by decide +kernel) (by decide +kernel)
theorem ft_X7_252 : FT RX7 252 RX2 3 RX2 TX2 7 0 := ⟨rfl, by decide, by decide, q195, Or.inl rfl, inGX2⟩
theorem dX7_settle_113 : decode cX7_settle 113 = .ok (.getfield 252, 3) := by decide +kernel
set_option maxRecDepth 100000 in
theorem q1300 : Cond.code yX7_mergeRuns cX7_mergeRuns 6 none ∈ GT := gt 1300 (rfl) (by decide +kernel)
theorem M_X7_mergeRuns : MY yX7_mergeRuns cX7_mergeRuns 6 none 2 := ⟨q1300, q63, by decide +kernel, by decide +kernel⟩
set_option maxRecDepth 100000 in
theorem q1299 : Cond.instanceMethod yX7_mergeRuns ∈ GT := gt 1299 (by decide +kernel) (by decide +kernel)
set_option maxRecDepth 100000 in
theorem q26 : Cond.selects RX7 yX7_mergeRuns yX7_mergeRuns ∈ GT := gt 26 (by decide +kernel) (by decide +kernel)
set_option maxRecDepth 100000 in
theorem q1297 : Cond.methodLink RX7 267 yX7_mergeRuns ∈ GT := gt 1297 (by decide +kernel) (by decide +kernel)
theorem dX7_settle_116 : decode cX7_settle 116 = .ok (.invokevirtual 267, 3) := by decide +kernel
theorem dX7_settle_119 : decode cX7_settle 119 = .ok (.goto 23, 3) := by decide +kernel
theorem dX7_settle_122 : decode cX7_settle 122 = .ok (.iload 5, 2) := by decide +kernel
theorem dX7_settle_124 : decode cX7_settle 124 = .ok (.ifCond .ne 18, 3) := by decide +kernel
theorem dX7_settle_127 : decode cX7_settle 127 = .ok (.aload_n 0, 1) := by decide +kernel
theorem dX7_settle_128 : decode cX7_settle 128 = .ok (.aload_n 1, 1) := by decide +kernel
set_option maxRecDepth 100000 in
theorem q1305 : Cond.code yX7_mergeLowest cX7_mergeLowest 5 (some FieldType.boolean) ∈ GT := gt 1305 (rfl) (by decide +kernel)
theorem M_X7_mergeLowest : MY yX7_mergeLowest cX7_mergeLowest 5 (some FieldType.boolean) 1 := ⟨q1305, q63, by decide +kernel, by decide +kernel⟩
set_option maxRecDepth 100000 in
theorem q1304 : Cond.instanceMethod yX7_mergeLowest ∈ GT := gt 1304 (by decide +kernel) (by decide +kernel)
set_option maxRecDepth 100000 in
theorem q27 : Cond.selects RX7 yX7_mergeLowest yX7_mergeLowest ∈ GT := gt 27 (by decide +kernel) (by decide +kernel)
set_option maxRecDepth 100000 in
theorem q1302 : Cond.methodLink RX7 271 yX7_mergeLowest ∈ GT := gt 1302 (by decide +kernel) (by decide +kernel)
theorem dX7_settle_129 : decode cX7_settle 129 = .ok (.invokevirtual 271, 3) := by decide +kernel
theorem dX7_settle_132 : decode cX7_settle 132 = .ok (.ifCond .ne 7, 3) := by decide +kernel
theorem dX7_settle_139 : decode cX7_settle 139 = .ok (.iconst 0, 1) := by decide +kernel
theorem dX7_settle_135 : decode cX7_settle 135 = .ok (.iconst 1, 1) := by decide +kernel
theorem dX7_settle_136 : decode cX7_settle 136 = .ok (.goto 4, 3) := by decide +kernel
theorem dX7_settle_140 : decode cX7_settle 140 = .ok (.istore 5, 2) := by decide +kernel
theorem dX7_settle_142 : decode cX7_settle 142 = .ok (.aload_n 0, 1) := by decide +kernel
theorem dX7_settle_143 : decode cX7_settle 143 = .ok (.aload_n 2, 1) := by decide +kernel
theorem dX7_settle_144 : decode cX7_settle 144 = .ok (.iload 5, 2) := by decide +kernel
theorem dX7_settle_146 : decode cX7_settle 146 = .ok (.ifCond .eq 7, 3) := by decide +kernel
theorem dX7_settle_153 : decode cX7_settle 153 = .ok (.iconst 1, 1) := by decide +kernel
theorem dX7_settle_149 : decode cX7_settle 149 = .ok (.iconst 3, 1) := by decide +kernel
theorem dX7_settle_150 : decode cX7_settle 150 = .ok (.goto 4, 3) := by decide +kernel
theorem dX7_settle_154 : decode cX7_settle 154 = .ok (.invokevirtual 186, 3) := by decide +kernel
theorem dX7_settle_157 : decode cX7_settle 157 = .ok (.astore 6, 2) := by decide +kernel
theorem dX7_settle_159 : decode cX7_settle 159 = .ok (.iload 5, 2) := by decide +kernel
theorem dX7_settle_161 : decode cX7_settle 161 = .ok (.ifCond .ne 15, 3) := by decide +kernel
theorem dX7_settle_164 : decode cX7_settle 164 = .ok (.aload 6, 2) := by decide +kernel
theorem dX7_settle_166 : decode cX7_settle 166 = .ok (.aload_n 0, 1) := by decide +kernel
theorem dX7_settle_167 : decode cX7_settle 167 = .ok (.getfield 43, 3) := by decide +kernel
set_option maxRecDepth 100000 in
theorem q1329 : Cond.methodLink RX7 275 yX5_copied ∈ GT := gt 1329 (by decide +kernel) (by decide +kernel)
theorem dX7_settle_170 : decode cX7_settle 170 = .ok (.invokevirtual 275, 3) := by decide +kernel
theorem dX7_settle_173 : decode cX7_settle 173 = .ok (.putfield 279, 3) := by decide +kernel
theorem dX7_settle_176 : decode cX7_settle 176 = .ok (.iload_n 3, 1) := by decide +kernel
theorem dX7_settle_177 : decode cX7_settle 177 = .ok (.iconst 4, 1) := by decide +kernel
theorem dX7_settle_178 : decode cX7_settle 178 = .ok (.if_icmp .ne 15, 3) := by decide +kernel
theorem dX7_settle_193 : decode cX7_settle 193 = .ok (.return_, 1) := by decide +kernel
theorem dX7_settle_181 : decode cX7_settle 181 = .ok (.aload 6, 2) := by decide +kernel
theorem dX7_settle_183 : decode cX7_settle 183 = .ok (.aload_n 0, 1) := by decide +kernel
theorem dX7_settle_184 : decode cX7_settle 184 = .ok (.getfield 11, 3) := by decide +kernel
set_option maxRecDepth 100000 in
theorem q1330 : Cond.methodLinkNest RX7 282 yX11_versionsOf "ToolPlex" ∈ GT := gt 1330 (by decide +kernel) (by decide +kernel)
theorem dX7_settle_187 : decode cX7_settle 187 = .ok (.invokestatic 282, 3) := by decide +kernel
set_option maxRecDepth 100000 in
theorem q776 : Cond.fieldLink RX7 286 "ToolPlex$Message" "versions" "[I" ∈ GT := gt 776 (by decide +kernel) (by decide +kernel)
theorem ft_X7_286 : FT RX7 286 RX6 7 RX6 TX6 17 16 := ⟨rfl, by decide, by decide, q776, Or.inl rfl, inGX6⟩
theorem dX7_settle_190 : decode cX7_settle 190 = .ok (.putfield 286, 3) := by decide +kernel
set_option maxHeartbeats 4000000 in
set_option maxRecDepth 100000 in
theorem w_X7_settle_176 {p : Program} {l : Launch} {e : Env} {R : Room} {s : State} {m : MethodId} {args : Array Value} {below : List Frame} {meth : Method} {c : Code} {G : Gt} {ρ0 : Int → Nat} {M0 : Mo} {res : RS} (F : Fx p l R s m args meth c cX7_settle 7 RX7 G M0 9 none) (hno : ∀ x ∈ c.exceptionTable.toList, False) (hnm : meth.name = yX7_settle.name) (x0 x3 x6 : Int) (M : Mo) (h : X7_settle_176 x0 x3 x6 M = some res) : J p l e R s m args below meth c 7 G ρ0 M0 0 res M 176 [(0, (false, x0)), (3, (true, x3)), (6, (false, x6))] [] := by
  unfold X7_settle_176 at h
  refine j_iload_n F 1 rfl rfl dX7_settle_176 ?_
  refine j_iconst F dX7_settle_177 ?_
  refine j_icmp_ne F 193 (by decide) dX7_settle_178 h (fun h => ?_) (fun h => ?_)
  · skip
    exact j_vret F (v := 0) h dX7_settle_193
  · skip
    refine j_aload F 2 rfl dX7_settle_181 ?_
    refine j_aload_n F 0 rfl rfl dX7_settle_183 ?_
    obtain ⟨g1, h⟩ := gua h
    refine j_get F ft_X7_11 rfl g1 dX7_settle_184 ?_
    refine j_callSN (d' := 0) (argl := [(false, (fd M 8 3 x0))]) (rk9 := 2) (st := [(false, x6)]) F M_X11_versionsOf q1201 q1330 ⟨by decide, by decide⟩ (Nat.le_of_ble_eq_true rfl) (by decide) dX7_settle_187 rfl h (fun z hz => c_X11_versionsOf l F.ht G (fd M 8 3 x0) M z hz) (fun v2 M3 h kl4 => ?_)
    refine j_st (st' := [(false, v2), (false, x6)]) rfl ?_
    obtain ⟨g5, h⟩ := gua h
    refine j_put (ty := .array .int) F ft_X7_286 rfl rfl tyX6 tyX6_ok nmX6 (by decide +kernel) (nf_ref (Or.inr ⟨_, rfl⟩) _) g5 dX7_settle_190 ?_
    obtain ⟨M6, hM6⟩ : ∃ Z, Z = sF M3 7 16 x6 v2 := ⟨_, rfl⟩
    have kl7 : kle M3 M6 := by rw [hM6]; exact kle_sF
    rw [← hM6]
    replace h := pt_as h hM6
    exact j_vret F (v := 0) h dX7_settle_193
set_option maxHeartbeats 4000000 in
set_option maxRecDepth 100000 in
theorem w_X7_settle_154 {p : Program} {l : Launch} {e : Env} {R : Room} {s : State} {m : MethodId} {args : Array Value} {below : List Frame} {meth : Method} {c : Code} {G : Gt} {ρ0 : Int → Nat} {M0 : Mo} {res : RS} (F : Fx p l R s m args meth c cX7_settle 7 RX7 G M0 9 none) (hno : ∀ x ∈ c.exceptionTable.toList, False) (hnm : meth.name = yX7_settle.name) (x0 x3 x5 y0 y1 y2 : Int) (M : Mo) (h : X7_settle_154 x0 x3 x5 y0 y1 y2 M = some res) : J p l e R s m args below meth c 7 G ρ0 M0 0 res M 154 [(0, (false, x0)), (3, (true, x3)), (5, (true, x5))] [(true, y2), (false, y1), (false, y0)] := by
  unfold X7_settle_154 at h
  obtain ⟨g4, h⟩ := gua h
  refine j_callV (d' := 8) (argl := [(false, y1), (true, y2)]) (rk9 := 2) (st := []) F hno M_X7_reply q1320 q29 q1318 ⟨by decide, by decide⟩ (Nat.le_of_ble_eq_true rfl) (by decide) (ci := 8) rfl (by decide) g4 dX7_settle_154 rfl h (fun z hz => c_X7_reply l F.ht G y0 y1 y2 M z hz) (fun v1 M2 h kl3 => ?_)
  refine j_st (st' := [(false, v1)]) rfl ?_
  refine j_astore F (lv' := [(6, (false, v1)), (0, (false, x0)), (3, (true, x3)), (5, (true, x5))]) (by decide) rfl dX7_settle_157 ?_
  refine j_iload F 3 rfl dX7_settle_159 ?_
  refine j_if_ne F 176 (by decide) dX7_settle_161 h (fun h => ?_) (fun h => ?_)
  · skip
    refine j_sub (lv' := [(0, (false, x0)), (3, (true, x3)), (6, (false, v1))]) [1, 2, 0] rfl ?_
    exact w_X7_settle_176 F hno hnm x0 x3 v1 M2 h
  · skip
    refine j_aload F 0 rfl dX7_settle_164 ?_
    refine j_aload_n F 1 rfl rfl dX7_settle_166 ?_
    obtain ⟨g5, h⟩ := gua h
    refine j_get F ft_X7_43 rfl g5 dX7_settle_167 ?_
    obtain ⟨g9, h⟩ := gua h
    refine j_callV (d' := 2) (argl := []) (rk9 := 2) (st := [(false, v1)]) F hno M_X5_copied q1195 q1196 q1329 ⟨by decide, by decide⟩ (Nat.le_of_ble_eq_true rfl) (by decide) (ci := 6) rfl (by decide) g9 dX7_settle_170 rfl h (fun z hz => c_X5_copied l F.ht G (fd M2 8 10 x0) M2 z hz) (fun v6 M7 h kl8 => ?_)
    refine j_st (st' := [(false, v6), (false, v1)]) rfl ?_
    obtain ⟨g10, h⟩ := gua h
    refine j_put (ty := .object "ToolPlex$Items") F ft_X7_279 rfl rfl tyX6 tyX6_ok nmX6 (by decide +kernel) (nf_ref (Or.inl ⟨_, rfl⟩) _) g10 dX7_settle_173 ?_
    obtain ⟨M11, hM11⟩ : ∃ Z, Z = sF M7 7 15 v1 v6 := ⟨_, rfl⟩
    have kl12 : kle M7 M11 := by rw [hM11]; exact kle_sF
    rw [← hM11]
    replace h := pt_as h hM11
    refine j_sub (lv' := [(0, (false, x0)), (3, (true, x3)), (6, (false, v1))]) [1, 2, 0] rfl ?_
    exact w_X7_settle_176 F hno hnm x0 x3 v1 M11 h
set_option maxHeartbeats 4000000 in
set_option maxRecDepth 100000 in
theorem w_X7_settle_142 {p : Program} {l : Launch} {e : Env} {R : Room} {s : State} {m : MethodId} {args : Array Value} {below : List Frame} {meth : Method} {c : Code} {G : Gt} {ρ0 : Int → Nat} {M0 : Mo} {res : RS} (F : Fx p l R s m args meth c cX7_settle 7 RX7 G M0 9 none) (hno : ∀ x ∈ c.exceptionTable.toList, False) (hnm : meth.name = yX7_settle.name) (x0 x2 x3 x5 : Int) (M : Mo) (h : X7_settle_142 x0 x2 x3 x5 M = some res) : J p l e R s m args below meth c 7 G ρ0 M0 0 res M 142 [(0, (false, x0)), (2, (false, x2)), (3, (true, x3)), (5, (true, x5))] [] := by
  unfold X7_settle_142 at h
  refine j_aload_n F 0 rfl rfl dX7_settle_142 ?_
  refine j_aload_n F 1 rfl rfl dX7_settle_143 ?_
  refine j_iload F 3 rfl dX7_settle_144 ?_
  refine j_if_eq F 153 (by decide) dX7_settle_146 h (fun h => ?_) (fun h => ?_)
  · skip
    refine j_iconst F dX7_settle_153 ?_
    refine j_sub (lv' := [(0, (false, x0)), (3, (true, x3)), (5, (true, x5))]) [0, 2, 3] rfl ?_
    exact w_X7_settle_154 F hno hnm x0 x3 x5 x0 x2 1 M h
  · skip
    refine j_iconst F dX7_settle_149 ?_
    refine j_goto F 154 (by decide) dX7_settle_150 ?_
    refine j_sub (lv' := [(0, (false, x0)), (3, (true, x3)), (5, (true, x5))]) [0, 2, 3] rfl ?_
    exact w_X7_settle_154 F hno hnm x0 x3 x5 x0 x2 3 M h
set_option maxHeartbeats 4000000 in
set_option maxRecDepth 100000 in
theorem w_X7_settle_140 {p : Program} {l : Launch} {e : Env} {R : Room} {s : State} {m : MethodId} {args : Array Value} {below : List Frame} {meth : Method} {c : Code} {G : Gt} {ρ0 : Int → Nat} {M0 : Mo} {res : RS} (F : Fx p l R s m args meth c cX7_settle 7 RX7 G M0 9 none) (hno : ∀ x ∈ c.exceptionTable.toList, False) (hnm : meth.name = yX7_settle.name) (x0 x2 x3 y0 : Int) (M : Mo) (h : X7_settle_140 x0 x2 x3 y0 M = some res) : J p l e R s m args below meth c 7 G ρ0 M0 0 res M 140 [(0, (false, x0)), (2, (false, x2)), (3, (true, x3))] [(true, y0)] := by
  unfold X7_settle_140 at h
  refine j_istore F (lv' := [(5, (true, y0)), (0, (false, x0)), (2, (false, x2)), (3, (true, x3))]) (by decide) rfl dX7_settle_140 ?_
  refine j_sub (lv' := [(0, (false, x0)), (2, (false, x2)), (3, (true, x3)), (5, (true, y0))]) [1, 2, 3, 0] rfl ?_
  exact w_X7_settle_142 F hno hnm x0 x2 x3 y0 M h
set_option maxHeartbeats 4000000 in
set_option maxRecDepth 100000 in
theorem w_X7_settle_122 {p : Program} {l : Launch} {e : Env} {R : Room} {s : State} {m : MethodId} {args : Array Value} {below : List Frame} {meth : Method} {c : Code} {G : Gt} {ρ0 : Int → Nat} {M0 : Mo} {res : RS} (F : Fx p l R s m args meth c cX7_settle 7 RX7 G M0 9 none) (hno : ∀ x ∈ c.exceptionTable.toList, False) (hnm : meth.name = yX7_settle.name) (x0 x1 x2 x3 x5 : Int) (M : Mo) (h : X7_settle_122 x0 x1 x2 x3 x5 M = some res) : J p l e R s m args below meth c 7 G ρ0 M0 0 res M 122 [(0, (false, x0)), (1, (false, x1)), (2, (false, x2)), (3, (true, x3)), (5, (true, x5))] [] := by
  unfold X7_settle_122 at h
  refine j_iload F 4 rfl dX7_settle_122 ?_
  refine j_if_ne F 142 (by decide) dX7_settle_124 h (fun h => ?_) (fun h => ?_)
  · skip
    refine j_sub (lv' := [(0, (false, x0)), (2, (false, x2)), (3, (true, x3)), (5, (true, x5))]) [0, 2, 3, 4] rfl ?_
    exact w_X7_settle_142 F hno hnm x0 x2 x3 x5 M h
  · skip
    refine j_aload_n F 0 rfl rfl dX7_settle_127 ?_
    refine j_aload_n F 1 rfl rfl dX7_settle_128 ?_
    obtain ⟨g4, h⟩ := gua h
    refine j_callV (d' := 3) (argl := [(false, x1)]) (rk9 := 1) (st := []) F hno M_X7_mergeLowest q1304 q27 q1302 ⟨by decide, by decide⟩ (Nat.le_of_ble_eq_true rfl) (by decide) (ci := 8) rfl (by decide) g4 dX7_settle_129 rfl h (fun z hz => c_X7_mergeLowest l F.ht G x0 x1 M z hz) (fun v1 M2 h kl3 => ?_)
    refine j_st (st' := [(true, v1)]) rfl ?_
    refine j_if_ne F 139 (by decide) dX7_settle_132 h (fun h => ?_) (fun h => ?_)
    · skip
      refine j_iconst F dX7_settle_139 ?_
      refine j_sub (lv' := [(0, (false, x0)), (2, (false, x2)), (3, (true, x3))]) [0, 2, 3] rfl ?_
      exact w_X7_settle_140 F hno hnm x0 x2 x3 0 M2 h
    · skip
      refine j_iconst F dX7_settle_135 ?_
      refine j_goto F 140 (by decide) dX7_settle_136 ?_
      refine j_sub (lv' := [(0, (false, x0)), (2, (false, x2)), (3, (true, x3))]) [0, 2, 3] rfl ?_
      exact w_X7_settle_140 F hno hnm x0 x2 x3 1 M2 h
set_option maxHeartbeats 4000000 in
set_option maxRecDepth 100000 in
theorem w_X7_settle_100 {p : Program} {l : Launch} {e : Env} {R : Room} {s : State} {m : MethodId} {args : Array Value} {below : List Frame} {meth : Method} {c : Code} {G : Gt} {ρ0 : Int → Nat} {M0 : Mo} {res : RS} (F : Fx p l R s m args meth c cX7_settle 7 RX7 G M0 9 none) (hno : ∀ x ∈ c.exceptionTable.toList, False) (hnm : meth.name = yX7_settle.name) (x0 x1 x2 x3 x4 x5 : Int) (M : Mo) (h : X7_settle_100 x0 x1 x2 x3 x4 x5 M = some res) : J p l e R s m args below meth c 7 G ρ0 M0 0 res M 100 [(0, (false, x0)), (1, (false, x1)), (2, (false, x2)), (3, (true, x3)), (4, (false, x4)), (5, (true, x5))] [] := by
  unfold X7_settle_100 at h
  refine j_iload F 5 rfl dX7_settle_100 ?_
  refine j_if_ne F 122 (by decide) dX7_settle_102 h (fun h => ?_) (fun h => ?_)
  · skip
    refine j_sub (lv' := [(0, (false, x0)), (1, (false, x1)), (2, (false, x2)), (3, (true, x3)), (5, (true, x5))]) [0, 1, 2, 3, 5] rfl ?_
    exact w_X7_settle_122 F hno hnm x0 x1 x2 x3 x5 M h
  · skip
    refine j_iload_n F 3 rfl rfl dX7_settle_105 ?_
    refine j_if_ne F 122 (by decide) dX7_settle_106 h (fun h => ?_) (fun h => ?_)
    · skip
      refine j_sub (lv' := [(0, (false, x0)), (1, (false, x1)), (2, (false, x2)), (3, (true, x3)), (5, (true, x5))]) [0, 1, 2, 3, 5] rfl ?_
      exact w_X7_settle_122 F hno hnm x0 x1 x2 x3 x5 M h
    · skip
      refine j_aload_n F 0 rfl rfl dX7_settle_109 ?_
      refine j_aload_n F 1 rfl rfl dX7_settle_110 ?_
      refine j_aload F 4 rfl dX7_settle_111 ?_
      obtain ⟨g1, h⟩ := gua h
      refine j_get F ft_X7_252 rfl g1 dX7_settle_113 ?_
      obtain ⟨g5, h⟩ := gua h
      refine j_callV (d' := 4) (argl := [(false, x1), (false, (fd M 3 0 x4))]) (rk9 := 0) (st := []) F hno M_X7_mergeRuns q1299 q26 q1297 ⟨by decide, by decide⟩ (Nat.le_of_ble_eq_true rfl) (by decide) (ci := 8) rfl (by decide) g5 dX7_settle_116 rfl h (fun z hz => c_X7_mergeRuns l F.ht G x0 x1 (fd M 3 0 x4) M z hz) (fun v2 M3 h kl4 => ?_)
      refine j_st (st' := []) rfl ?_
      refine j_goto F 142 (by decide) dX7_settle_119 ?_
      refine j_sub (lv' := [(0, (false, x0)), (2, (false, x2)), (3, (true, x3)), (5, (true, x5))]) [0, 2, 3, 5] rfl ?_
      exact w_X7_settle_142 F hno hnm x0 x2 x3 x5 M3 h
set_option maxHeartbeats 4000000 in
set_option maxRecDepth 100000 in
theorem w_X7_settle_69 {p : Program} {l : Launch} {e : Env} {R : Room} {s : State} {m : MethodId} {args : Array Value} {below : List Frame} {meth : Method} {c : Code} {G : Gt} {ρ0 : Int → Nat} {M0 : Mo} {res : RS} (F : Fx p l R s m args meth c cX7_settle 7 RX7 G M0 9 none) (hno : ∀ x ∈ c.exceptionTable.toList, False) (hnm : meth.name = yX7_settle.name) (x0 x1 x2 x3 x4 y0 : Int) (M : Mo) (h : X7_settle_69 x0 x1 x2 x3 x4 y0 M = some res) : J p l e R s m args below meth c 7 G ρ0 M0 0 res M 69 [(0, (false, x0)), (1, (false, x1)), (2, (false, x2)), (3, (true, x3)), (4, (false, x4))] [(true, y0)] := by
  unfold X7_settle_69 at h
  refine j_istore F (lv' := [(5, (true, y0)), (0, (false, x0)), (1, (false, x1)), (2, (false, x2)), (3, (true, x3)), (4, (false, x4))]) (by decide) rfl dX7_settle_69 ?_
  refine j_aload_n F 1 rfl rfl dX7_settle_71 ?_
  obtain ⟨g1, h⟩ := gua h
  refine j_get F ft_X7_43 rfl g1 dX7_settle_72 ?_
  obtain ⟨g5, h⟩ := gua h
  refine j_callV (d' := 0) (argl := []) (rk9 := 0) (st := []) F hno M_X5_clear q851 q852 q1271 ⟨by decide, by decide⟩ (Nat.le_of_ble_eq_true rfl) (by decide) (ci := 6) rfl (by decide) g5 dX7_settle_75 rfl h (fun z hz => c_X5_clear l F.ht G (fd M 8 10 x0) M z hz) (fun v2 M3 h kl4 => ?_)
  refine j_st (st' := []) rfl ?_
  refine j_iload F 0 rfl dX7_settle_78 ?_
  refine j_if_ne F 100 (by decide) dX7_settle_80 h (fun h => ?_) (fun h => ?_)
  · skip
    refine j_sub (lv' := [(0, (false, x0)), (1, (false, x1)), (2, (false, x2)), (3, (true, x3)), (4, (false, x4)), (5, (true, y0))]) [1, 2, 3, 4, 5, 0] rfl ?_
    exact w_X7_settle_100 F hno hnm x0 x1 x2 x3 x4 y0 M3 h
  · skip
    refine j_iload_n F 4 rfl rfl dX7_settle_83 ?_
    refine j_callSN (d' := 0) (argl := [(true, x3)]) (rk9 := 1) (st := []) F M_X11_isMoved q945 q1270 ⟨by decide, by decide⟩ (Nat.le_of_ble_eq_true rfl) (by decide) dX7_settle_84 rfl h (fun z hz => c_X11_isMoved l F.ht G x3 M3 z hz) (fun v6 M7 h kl8 => ?_)
    refine j_st (st' := [(true, v6)]) rfl ?_
    refine j_if_eq F 100 (by decide) dX7_settle_87 h (fun h => ?_) (fun h => ?_)
    · skip
      refine j_sub (lv' := [(0, (false, x0)), (1, (false, x1)), (2, (false, x2)), (3, (true, x3)), (4, (false, x4)), (5, (true, y0))]) [1, 2, 3, 4, 5, 0] rfl ?_
      exact w_X7_settle_100 F hno hnm x0 x1 x2 x3 x4 y0 M7 h
    · skip
      refine j_aload_n F 1 rfl rfl dX7_settle_90 ?_
      refine j_aload_n F 2 rfl rfl dX7_settle_91 ?_
      refine j_aload F 5 rfl dX7_settle_92 ?_
      refine j_callV (d' := 4) (argl := [(false, x1), (false, x4)]) (rk9 := 0) (st := []) F hno M_X7_mergeMoved q1274 q25 q1272 ⟨by decide, by decide⟩ (Nat.le_of_ble_eq_true rfl) (by decide) (ci := 8) rfl (by decide) (kl8.is (kl4.is g1)) dX7_settle_94 rfl h (fun z hz => c_X7_mergeMoved l F.ht G x0 x1 x4 M7 z hz) (fun v9 M10 h kl11 => ?_)
      refine j_st (st' := []) rfl ?_
      refine j_goto F 142 (by decide) dX7_settle_97 ?_
      refine j_sub (lv' := [(0, (false, x0)), (2, (false, x2)), (3, (true, x3)), (5, (true, y0))]) [1, 3, 4, 0] rfl ?_
      exact w_X7_settle_142 F hno hnm x0 x2 x3 y0 M10 h
set_option maxHeartbeats 4000000 in
set_option maxRecDepth 100000 in
theorem w_X7_settle_64 {p : Program} {l : Launch} {e : Env} {R : Room} {s : State} {m : MethodId} {args : Array Value} {below : List Frame} {meth : Method} {c : Code} {G : Gt} {ρ0 : Int → Nat} {M0 : Mo} {res : RS} (F : Fx p l R s m args meth c cX7_settle 7 RX7 G M0 9 none) (hno : ∀ x ∈ c.exceptionTable.toList, False) (hnm : meth.name = yX7_settle.name) (x0 x1 x2 x3 x4 : Int) (M : Mo) (h : X7_settle_64 x0 x1 x2 x3 x4 M = some res) : J p l e R s m args below meth c 7 G ρ0 M0 0 res M 64 [(0, (false, x0)), (1, (false, x1)), (2, (false, x2)), (3, (true, x3)), (4, (false, x4))] [] := by
  unfold X7_settle_64 at h
  refine j_iconst F dX7_settle_64 ?_
  refine j_goto F 69 (by decide) dX7_settle_65 ?_
  refine j_sub (lv' := [(0, (false, x0)), (1, (false, x1)), (2, (false, x2)), (3, (true, x3)), (4, (false, x4))]) [0, 1, 2, 3, 4] rfl ?_
  exact w_X7_settle_69 F hno hnm x0 x1 x2 x3 x4 1 M h
set_option maxHeartbeats 4000000 in
set_option maxRecDepth 100000 in
theorem w_X7_settle_68 {p : Program} {l : Launch} {e : Env} {R : Room} {s : State} {m : MethodId} {args : Array Value} {below : List Frame} {meth : Method} {c : Code} {G : Gt} {ρ0 : Int → Nat} {M0 : Mo} {res : RS} (F : Fx p l R s m args meth c cX7_settle 7 RX7 G M0 9 none) (hno : ∀ x ∈ c.exceptionTable.toList, False) (hnm : meth.name = yX7_settle.name) (x0 x1 x2 x3 x4 : Int) (M : Mo) (h : X7_settle_68 x0 x1 x2 x3 x4 M = some res) : J p l e R s m args below meth c 7 G ρ0 M0 0 res M 68 [(0, (false, x0)), (1, (false, x1)), (2, (false, x2)), (3, (true, x3)), (4, (false, x4))] [] := by
  unfold X7_settle_68 at h
  refine j_iconst F dX7_settle_68 ?_
  refine j_sub (lv' := [(0, (false, x0)), (1, (false, x1)), (2, (false, x2)), (3, (true, x3)), (4, (false, x4))]) [0, 1, 2, 3, 4] rfl ?_
  exact w_X7_settle_69 F hno hnm x0 x1 x2 x3 x4 0 M h
set_option maxHeartbeats 4000000 in
set_option maxRecDepth 100000 in
theorem w_X7_settle_0 {p : Program} {l : Launch} {e : Env} {R : Room} {s : State} {m : MethodId} {args : Array Value} {below : List Frame} {meth : Method} {c : Code} {G : Gt} {ρ0 : Int → Nat} {M0 : Mo} {res : RS} (F : Fx p l R s m args meth c cX7_settle 7 RX7 G M0 9 none) (hno : ∀ x ∈ c.exceptionTable.toList, False) (hnm : meth.name = yX7_settle.name) (x0 x1 : Int) (M : Mo) (h : X7_settle x0 x1 M = some res) : J p l e R s m args below meth c 7 G ρ0 M0 0 res M 0 [(0, (false, x0)), (1, (false, x1))] [] := by
  unfold X7_settle at h
  refine j_aload_n F 1 rfl rfl dX7_settle_0 ?_
  refine j_ifnonnull F 5 (by decide) dX7_settle_1 h (fun h => ?_) (fun h => ?_)
  · skip
    refine j_aload_n F 1 rfl rfl dX7_settle_5 ?_
    obtain ⟨g1, h⟩ := gua h
    refine j_get F ft_X7_176 rfl g1 dX7_settle_6 ?_
    refine j_astore_n F (lv' := [(2, (false, (fd M 9 0 x1))), (0, (false, x0)), (1, (false, x1))]) rfl (by decide) rfl dX7_settle_9 ?_
    refine j_aload_n F 0 rfl rfl dX7_settle_10 ?_
    obtain ⟨g2, h⟩ := gua h
    refine j_get F ft_X7_180 rfl g2 dX7_settle_11 ?_
    refine j_istore_n F (lv' := [(3, (true, (fd M 7 4 (fd M 9 0 x1)))), (2, (false, (fd M 9 0 x1))), (0, (false, x0)), (1, (false, x1))]) rfl (by decide) rfl dX7_settle_14 ?_
    refine j_aload_n F 2 rfl rfl dX7_settle_15 ?_
    refine j_aload_n F 1 rfl rfl dX7_settle_16 ?_
    refine j_get F ft_X7_101 rfl g2 dX7_settle_17 ?_
    obtain ⟨g6, h⟩ := gua h
    refine j_callV (d' := 0) (argl := [(true, (fd M 7 1 (fd M 9 0 x1)))]) (rk9 := 2) (st := []) F hno M_X7_copyOf q1267 q1268 q1266 ⟨by decide, by decide⟩ (Nat.le_of_ble_eq_true rfl) (by decide) (ci := 8) rfl (by decide) g6 dX7_settle_20 rfl h (fun z hz => c_X7_copyOf l F.ht G x0 (fd M 7 1 (fd M 9 0 x1)) M z hz) (fun v3 M4 h kl5 => ?_)
    refine j_st (st' := [(false, v3)]) rfl ?_
    refine j_astore F (lv' := [(4, (false, v3)), (3, (true, (fd M 7 4 (fd M 9 0 x1)))), (2, (false, (fd M 9 0 x1))), (0, (false, x0)), (1, (false, x1))]) (by decide) rfl dX7_settle_23 ?_
    refine j_aload F 0 rfl dX7_settle_25 ?_
    obtain ⟨g10, h⟩ := gua h
    refine j_callV (d' := 0) (argl := []) (rk9 := 1) (st := []) F hno M_X2_isHere q468 q469 q467 ⟨by decide, by decide⟩ (Nat.le_of_ble_eq_true rfl) (by decide) (ci := 3) rfl (by decide) g10 dX7_settle_27 rfl h (fun z hz => c_X2_isHere l F.ht G v3 M4 z hz) (fun v7 M8 h kl9 => ?_)
    refine j_st (st' := [(true, v7)]) rfl ?_
    refine j_if_eq F 64 (by decide) dX7_settle_30 h (fun h => ?_) (fun h => ?_)
    · skip
      refine j_sub (lv' := [(0, (false, x0)), (1, (false, x1)), (2, (false, (fd M 9 0 x1))), (3, (true, (fd M 7 4 (fd M 9 0 x1)))), (4, (false, v3))]) [3, 4, 2, 1, 0] rfl ?_
      exact w_X7_settle_64 F hno hnm x0 x1 (fd M 9 0 x1) (fd M 7 4 (fd M 9 0 x1)) v3 M8 h
    · skip
      refine j_aload F 0 rfl dX7_settle_33 ?_
      refine j_get F ft_X7_257 rfl (kl9.is g10) dX7_settle_35 ?_
      refine j_aload_n F 2 rfl rfl dX7_settle_38 ?_
      refine j_get F ft_X7_104 rfl (kl9.is (kl5.is g2)) dX7_settle_39 ?_
      refine j_icmp_gt F 64 (by decide) dX7_settle_42 h (fun h => ?_) (fun h => ?_)
      · skip
        refine j_sub (lv' := [(0, (false, x0)), (1, (false, x1)), (2, (false, (fd M 9 0 x1))), (3, (true, (fd M 7 4 (fd M 9 0 x1)))), (4, (false, v3))]) [3, 4, 2, 1, 0] rfl ?_
        exact w_X7_settle_64 F hno hnm x0 x1 (fd M 9 0 x1) (fd M 7 4 (fd M 9 0 x1)) v3 M8 h
      · skip
        refine j_iload_n F 1 rfl rfl dX7_settle_45 ?_
        refine j_callSN (d' := 0) (argl := [(true, (fd M 7 4 (fd M 9 0 x1)))]) (rk9 := 1) (st := []) F M_X11_isMoved q945 q1270 ⟨by decide, by decide⟩ (Nat.le_of_ble_eq_true rfl) (by decide) dX7_settle_46 rfl h (fun z hz => c_X11_isMoved l F.ht G (fd M 7 4 (fd M 9 0 x1)) M8 z hz) (fun v11 M12 h kl13 => ?_)
        refine j_st (st' := [(true, v11)]) rfl ?_
        refine j_if_ne F 68 (by decide) dX7_settle_49 h (fun h => ?_) (fun h => ?_)
        · skip
          refine j_sub (lv' := [(0, (false, x0)), (1, (false, x1)), (2, (false, (fd M 9 0 x1))), (3, (true, (fd M 7 4 (fd M 9 0 x1)))), (4, (false, v3))]) [3, 4, 2, 1, 0] rfl ?_
          exact w_X7_settle_68 F hno hnm x0 x1 (fd M 9 0 x1) (fd M 7 4 (fd M 9 0 x1)) v3 M12 h
        · skip
          refine j_aload F 0 rfl dX7_settle_52 ?_
          refine j_get F ft_X7_129 rfl (kl13.is (kl9.is g10)) dX7_settle_54 ?_
          refine j_aload_n F 2 rfl rfl dX7_settle_57 ?_
          refine j_get F ft_X7_104 rfl (kl13.is (kl9.is (kl5.is g2))) dX7_settle_58 ?_
          refine j_icmp_eq F 68 (by decide) dX7_settle_61 h (fun h => ?_) (fun h => ?_)
          · skip
            refine j_sub (lv' := [(0, (false, x0)), (1, (false, x1)), (2, (false, (fd M 9 0 x1))), (3, (true, (fd M 7 4 (fd M 9 0 x1)))), (4, (false, v3))]) [3, 4, 2, 1, 0] rfl ?_
            exact w_X7_settle_68 F hno hnm x0 x1 (fd M 9 0 x1) (fd M 7 4 (fd M 9 0 x1)) v3 M12 h
          · skip
            refine j_sub (lv' := [(0, (false, x0)), (1, (false, x1)), (2, (false, (fd M 9 0 x1))), (3, (true, (fd M 7 4 (fd M 9 0 x1)))), (4, (false, v3))]) [3, 4, 2, 1, 0] rfl ?_
            exact w_X7_settle_64 F hno hnm x0 x1 (fd M 9 0 x1) (fd M 7 4 (fd M 9 0 x1)) v3 M12 h
  · skip
    exact j_vret F (v := 0) h dX7_settle_4
theorem c_X7_settle (l : Launch) (hl : l.stackTraces = false) (G : Gt) (x0 x1 : Int) (M : Mo) (z : RS) (h : X7_settle x0 x1 M = some z) : CT l G yX7_settle (cn yX7_settle cX7_settle 7 none) 9 [(false, x0), (false, x1)] M 0 z :=
  ctOf hl (by decide) (Nat.le_of_ble_eq_true rfl) (fun p e R s m args below meth c ρ F hno hnm => w_X7_settle_0 F hno hnm x0 x1 M h)
