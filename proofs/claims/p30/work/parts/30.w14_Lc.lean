theorem dL_areFaults_0 : decode cL_areFaults 0 = .ok (.aload_n 3, 1) := by decide +kernel
theorem dL_areFaults_1 : decode cL_areFaults 1 = .ok (.iconst 2, 1) := by decide +kernel
theorem dL_areFaults_2 : decode cL_areFaults 2 = .ok (.iload 5, 2) := by decide +kernel
theorem dL_areFaults_4 : decode cL_areFaults 4 = .ok (.iadd, 1) := by decide +kernel
theorem dL_areFaults_5 : decode cL_areFaults 5 = .ok (.iaload, 1) := by decide +kernel
theorem dL_areFaults_6 : decode cL_areFaults 6 = .ok (.istore 6, 2) := by decide +kernel
theorem dL_areFaults_8 : decode cL_areFaults 8 = .ok (.iload 6, 2) := by decide +kernel
theorem dL_areFaults_10 : decode cL_areFaults 10 = .ok (.ifCond .lt 33, 3) := by decide +kernel
theorem dL_areFaults_13 : decode cL_areFaults 13 = .ok (.aload_n 3, 1) := by decide +kernel
theorem dL_areFaults_14 : decode cL_areFaults 14 = .ok (.bipush 8, 2) := by decide +kernel
theorem dL_areFaults_16 : decode cL_areFaults 16 = .ok (.iaload, 1) := by decide +kernel
theorem dL_areFaults_17 : decode cL_areFaults 17 = .ok (.iconst 1, 1) := by decide +kernel
theorem dL_areFaults_18 : decode cL_areFaults 18 = .ok (.if_icmp .ne 25, 3) := by decide +kernel
theorem dL_areFaults_21 : decode cL_areFaults 21 = .ok (.iload 4, 2) := by decide +kernel
theorem dL_areFaults_23 : decode cL_areFaults 23 = .ok (.ifCond .gt 20, 3) := by decide +kernel
theorem dL_areFaults_26 : decode cL_areFaults 26 = .ok (.aload_n 3, 1) := by decide +kernel
theorem dL_areFaults_27 : decode cL_areFaults 27 = .ok (.bipush 15, 2) := by decide +kernel
theorem dL_areFaults_29 : decode cL_areFaults 29 = .ok (.iaload, 1) := by decide +kernel
theorem dL_areFaults_30 : decode cL_areFaults 30 = .ok (.ifCond .eq 13, 3) := by decide +kernel
theorem dL_areFaults_33 : decode cL_areFaults 33 = .ok (.aload_n 0, 1) := by decide +kernel
theorem dL_areFaults_34 : decode cL_areFaults 34 = .ok (.aload_n 1, 1) := by decide +kernel
theorem dL_areFaults_35 : decode cL_areFaults 35 = .ok (.aload_n 2, 1) := by decide +kernel
theorem dL_areFaults_36 : decode cL_areFaults 36 = .ok (.aload_n 3, 1) := by decide +kernel
theorem dL_areFaults_37 : decode cL_areFaults 37 = .ok (.invokestatic 181, 3) := by decide +kernel
theorem dL_areFaults_40 : decode cL_areFaults 40 = .ok (.ifCond .ne 34, 3) := by decide +kernel
theorem dL_areFaults_74 : decode cL_areFaults 74 = .ok (.iload 5, 2) := by decide +kernel
theorem dL_areFaults_76 : decode cL_areFaults 76 = .ok (.ifCond .ne 7, 3) := by decide +kernel
theorem dL_areFaults_83 : decode cL_areFaults 83 = .ok (.aload_n 2, 1) := by decide +kernel
theorem dL_areFaults_79 : decode cL_areFaults 79 = .ok (.aload_n 1, 1) := by decide +kernel
theorem dL_areFaults_80 : decode cL_areFaults 80 = .ok (.goto 4, 3) := by decide +kernel
theorem dL_areFaults_43 : decode cL_areFaults 43 = .ok (.iload 6, 2) := by decide +kernel
theorem dL_areFaults_45 : decode cL_areFaults 45 = .ok (.ifCond .lt 23, 3) := by decide +kernel
theorem dL_areFaults_68 : decode cL_areFaults 68 = .ok (.iconst 1, 1) := by decide +kernel
theorem dL_areFaults_69 : decode cL_areFaults 69 = .ok (.goto 4, 3) := by decide +kernel
theorem dL_areFaults_73 : decode cL_areFaults 73 = .ok (.ireturn, 1) := by decide +kernel
theorem dL_areFaults_48 : decode cL_areFaults 48 = .ok (.aload_n 3, 1) := by decide +kernel
theorem dL_areFaults_49 : decode cL_areFaults 49 = .ok (.bipush 8, 2) := by decide +kernel
theorem dL_areFaults_51 : decode cL_areFaults 51 = .ok (.iaload, 1) := by decide +kernel
theorem dL_areFaults_52 : decode cL_areFaults 52 = .ok (.iconst 1, 1) := by decide +kernel
theorem dL_areFaults_53 : decode cL_areFaults 53 = .ok (.if_icmp .ne 15, 3) := by decide +kernel
theorem dL_areFaults_56 : decode cL_areFaults 56 = .ok (.iload 4, 2) := by decide +kernel
theorem dL_areFaults_58 : decode cL_areFaults 58 = .ok (.ifCond .gt 10, 3) := by decide +kernel
theorem dL_areFaults_61 : decode cL_areFaults 61 = .ok (.aload_n 3, 1) := by decide +kernel
theorem dL_areFaults_62 : decode cL_areFaults 62 = .ok (.bipush 15, 2) := by decide +kernel
theorem dL_areFaults_64 : decode cL_areFaults 64 = .ok (.iaload, 1) := by decide +kernel
theorem dL_areFaults_65 : decode cL_areFaults 65 = .ok (.ifCond .ne 7, 3) := by decide +kernel
theorem dL_areFaults_72 : decode cL_areFaults 72 = .ok (.iconst 0, 1) := by decide +kernel
theorem dL_areFaults_84 : decode cL_areFaults 84 = .ok (.astore 7, 2) := by decide +kernel
theorem dL_areFaults_86 : decode cL_areFaults 86 = .ok (.aload_n 0, 1) := by decide +kernel
theorem dL_areFaults_87 : decode cL_areFaults 87 = .ok (.bipush 10, 2) := by decide +kernel
theorem dL_areFaults_89 : decode cL_areFaults 89 = .ok (.iconst 0, 1) := by decide +kernel
theorem dL_areFaults_90 : decode cL_areFaults 90 = .ok (.iload 5, 2) := by decide +kernel
theorem dL_areFaults_92 : decode cL_areFaults 92 = .ok (.iconst 0, 1) := by decide +kernel
theorem dL_areFaults_93 : decode cL_areFaults 93 = .ok (.iconst 0, 1) := by decide +kernel
theorem dL_areFaults_94 : decode cL_areFaults 94 = .ok (.iconst 0, 1) := by decide +kernel
theorem dL_areFaults_95 : decode cL_areFaults 95 = .ok (.iconst 0, 1) := by decide +kernel
theorem dL_areFaults_96 : decode cL_areFaults 96 = .ok (.iconst 0, 1) := by decide +kernel
theorem dL_areFaults_97 : decode cL_areFaults 97 = .ok (.invokestatic 185, 3) := by decide +kernel
theorem dL_areFaults_100 : decode cL_areFaults 100 = .ok (.istore 8, 2) := by decide +kernel
theorem dL_areFaults_102 : decode cL_areFaults 102 = .ok (.iload 8, 2) := by decide +kernel
theorem dL_areFaults_104 : decode cL_areFaults 104 = .ok (.ifCond .lt 37, 3) := by decide +kernel
theorem dL_areFaults_107 : decode cL_areFaults 107 = .ok (.aload_n 0, 1) := by decide +kernel
theorem dL_areFaults_108 : decode cL_areFaults 108 = .ok (.iconst 5, 1) := by decide +kernel
theorem dL_areFaults_109 : decode cL_areFaults 109 = .ok (.invokevirtual 77, 3) := by decide +kernel
theorem dL_areFaults_112 : decode cL_areFaults 112 = .ok (.iconst 1, 1) := by decide +kernel
theorem dL_areFaults_113 : decode cL_areFaults 113 = .ok (.if_icmp .ne 28, 3) := by decide +kernel
theorem dL_areFaults_116 : decode cL_areFaults 116 = .ok (.aload_n 0, 1) := by decide +kernel
theorem dL_areFaults_117 : decode cL_areFaults 117 = .ok (.invokevirtual 128, 3) := by decide +kernel
theorem dL_areFaults_120 : decode cL_areFaults 120 = .ok (.iconst 2, 1) := by decide +kernel
theorem dL_areFaults_121 : decode cL_areFaults 121 = .ok (.if_icmp .ne 20, 3) := by decide +kernel
theorem dL_areFaults_124 : decode cL_areFaults 124 = .ok (.aload_n 0, 1) := by decide +kernel
theorem dL_areFaults_125 : decode cL_areFaults 125 = .ok (.iload 6, 2) := by decide +kernel
theorem dL_areFaults_127 : decode cL_areFaults 127 = .ok (.iload 5, 2) := by decide +kernel
theorem dL_areFaults_129 : decode cL_areFaults 129 = .ok (.invokevirtual 102, 3) := by decide +kernel
theorem dL_areFaults_132 : decode cL_areFaults 132 = .ok (.iload 8, 2) := by decide +kernel
theorem dL_areFaults_134 : decode cL_areFaults 134 = .ok (.if_icmp .ne 7, 3) := by decide +kernel
theorem dL_areFaults_137 : decode cL_areFaults 137 = .ok (.iconst 1, 1) := by decide +kernel
theorem dL_areFaults_138 : decode cL_areFaults 138 = .ok (.goto 4, 3) := by decide +kernel
theorem dL_areFaults_141 : decode cL_areFaults 141 = .ok (.iconst 0, 1) := by decide +kernel
theorem dL_areFaults_142 : decode cL_areFaults 142 = .ok (.istore 9, 2) := by decide +kernel
theorem dL_areFaults_144 : decode cL_areFaults 144 = .ok (.iconst (-1), 1) := by decide +kernel
theorem dL_areFaults_145 : decode cL_areFaults 145 = .ok (.istore 10, 2) := by decide +kernel
theorem dL_areFaults_147 : decode cL_areFaults 147 = .ok (.iconst 0, 1) := by decide +kernel
theorem dL_areFaults_148 : decode cL_areFaults 148 = .ok (.istore 11, 2) := by decide +kernel
theorem dL_areFaults_150 : decode cL_areFaults 150 = .ok (.iconst 0, 1) := by decide +kernel
theorem dL_areFaults_151 : decode cL_areFaults 151 = .ok (.istore 12, 2) := by decide +kernel
theorem dL_areFaults_153 : decode cL_areFaults 153 = .ok (.iload 12, 2) := by decide +kernel
theorem dL_areFaults_155 : decode cL_areFaults 155 = .ok (.aload 7, 2) := by decide +kernel
theorem dL_areFaults_157 : decode cL_areFaults 157 = .ok (.bipush 63, 2) := by decide +kernel
theorem dL_areFaults_159 : decode cL_areFaults 159 = .ok (.iaload, 1) := by decide +kernel
theorem dL_areFaults_160 : decode cL_areFaults 160 = .ok (.if_icmp .ge 90, 3) := by decide +kernel
theorem dL_areFaults_163 : decode cL_areFaults 163 = .ok (.iload 9, 2) := by decide +kernel
theorem dL_areFaults_165 : decode cL_areFaults 165 = .ok (.ifCond .eq 85, 3) := by decide +kernel
theorem dL_areFaults_168 : decode cL_areFaults 168 = .ok (.aload 7, 2) := by decide +kernel
theorem dL_areFaults_170 : decode cL_areFaults 170 = .ok (.iload 12, 2) := by decide +kernel
theorem dL_areFaults_172 : decode cL_areFaults 172 = .ok (.aload_n 3, 1) := by decide +kernel
theorem dL_areFaults_173 : decode cL_areFaults 173 = .ok (.bipush 9, 2) := by decide +kernel
theorem dL_areFaults_175 : decode cL_areFaults 175 = .ok (.iaload, 1) := by decide +kernel
theorem dL_areFaults_176 : decode cL_areFaults 176 = .ok (.invokestatic 138, 3) := by decide +kernel
theorem dL_areFaults_179 : decode cL_areFaults 179 = .ok (.ifCond .eq 65, 3) := by decide +kernel
theorem dL_areFaults_182 : decode cL_areFaults 182 = .ok (.iload 10, 2) := by decide +kernel
theorem dL_areFaults_184 : decode cL_areFaults 184 = .ok (.ifCond .lt 56, 3) := by decide +kernel
theorem dL_areFaults_187 : decode cL_areFaults 187 = .ok (.aload 7, 2) := by decide +kernel
theorem dL_areFaults_189 : decode cL_areFaults 189 = .ok (.iload 10, 2) := by decide +kernel
theorem dL_areFaults_191 : decode cL_areFaults 191 = .ok (.iload 12, 2) := by decide +kernel
theorem dL_areFaults_193 : decode cL_areFaults 193 = .ok (.invokestatic 146, 3) := by decide +kernel
theorem dL_areFaults_196 : decode cL_areFaults 196 = .ok (.ifCond .eq 44, 3) := by decide +kernel
theorem dL_areFaults_199 : decode cL_areFaults 199 = .ok (.aload_n 0, 1) := by decide +kernel
theorem dL_areFaults_200 : decode cL_areFaults 200 = .ok (.bipush 10, 2) := by decide +kernel
theorem dL_areFaults_202 : decode cL_areFaults 202 = .ok (.iload 6, 2) := by decide +kernel
theorem dL_areFaults_204 : decode cL_areFaults 204 = .ok (.iload 5, 2) := by decide +kernel
theorem dL_areFaults_206 : decode cL_areFaults 206 = .ok (.iload 11, 2) := by decide +kernel
theorem dL_areFaults_208 : decode cL_areFaults 208 = .ok (.invokestatic 116, 3) := by decide +kernel
theorem dL_areFaults_211 : decode cL_areFaults 211 = .ok (.aload 7, 2) := by decide +kernel
theorem dL_areFaults_213 : decode cL_areFaults 213 = .ok (.iload 5, 2) := by decide +kernel
theorem dL_areFaults_215 : decode cL_areFaults 215 = .ok (.iload 12, 2) := by decide +kernel
theorem dL_areFaults_217 : decode cL_areFaults 217 = .ok (.aload 7, 2) := by decide +kernel
theorem dL_areFaults_219 : decode cL_areFaults 219 = .ok (.iload 12, 2) := by decide +kernel
theorem dL_areFaults_221 : decode cL_areFaults 221 = .ok (.invokestatic 142, 3) := by decide +kernel
theorem dL_areFaults_224 : decode cL_areFaults 224 = .ok (.invokestatic 163, 3) := by decide +kernel
theorem dL_areFaults_227 : decode cL_areFaults 227 = .ok (.if_icmp .ne 7, 3) := by decide +kernel
theorem dL_areFaults_234 : decode cL_areFaults 234 = .ok (.iconst 0, 1) := by decide +kernel
theorem dL_areFaults_230 : decode cL_areFaults 230 = .ok (.iconst 1, 1) := by decide +kernel
theorem dL_areFaults_231 : decode cL_areFaults 231 = .ok (.goto 4, 3) := by decide +kernel
theorem dL_areFaults_235 : decode cL_areFaults 235 = .ok (.istore 9, 2) := by decide +kernel
theorem dL_areFaults_237 : decode cL_areFaults 237 = .ok (.iinc 11 1, 3) := by decide +kernel
theorem dL_areFaults_240 : decode cL_areFaults 240 = .ok (.iload 12, 2) := by decide +kernel
theorem dL_areFaults_242 : decode cL_areFaults 242 = .ok (.istore 10, 2) := by decide +kernel
theorem dL_areFaults_244 : decode cL_areFaults 244 = .ok (.iinc 12 1, 3) := by decide +kernel
theorem dL_areFaults_247 : decode cL_areFaults 247 = .ok (.goto (-94), 3) := by decide +kernel
theorem dL_areFaults_250 : decode cL_areFaults 250 = .ok (.iload 9, 2) := by decide +kernel
theorem dL_areFaults_252 : decode cL_areFaults 252 = .ok (.ifCond .eq 14, 3) := by decide +kernel
theorem dL_areFaults_266 : decode cL_areFaults 266 = .ok (.iconst 0, 1) := by decide +kernel
theorem dL_areFaults_267 : decode cL_areFaults 267 = .ok (.ireturn, 1) := by decide +kernel
theorem dL_areFaults_255 : decode cL_areFaults 255 = .ok (.iload 11, 2) := by decide +kernel
theorem dL_areFaults_257 : decode cL_areFaults 257 = .ok (.iload 8, 2) := by decide +kernel
theorem dL_areFaults_259 : decode cL_areFaults 259 = .ok (.if_icmp .ne 7, 3) := by decide +kernel
theorem dL_areFaults_262 : decode cL_areFaults 262 = .ok (.iconst 1, 1) := by decide +kernel
theorem dL_areFaults_263 : decode cL_areFaults 263 = .ok (.goto 4, 3) := by decide +kernel
set_option maxHeartbeats 4000000 in
set_option maxRecDepth 100000 in
theorem w_L_areFaults_43 {p : Program} {l : Launch} {e : Env} {R : Room} {s : State} {m : MethodId} {args : Array Value} {below : List Frame} {meth : Method} {c : Code} {G : Gt} {ρ0 : Int → Nat} {M0 : Mo} {res : RS} (F : Fx p l R s m args meth c cL_areFaults 13 RL G M0 14 (some FieldType.boolean)) (hno : ∀ x ∈ c.exceptionTable.toList, False) (hnm : meth.name = yL_areFaults.name) (x3 x4 x6 : Int) (M : Mo) (h : L_areFaults_43 x3 x4 x6 M = some res) : J p l e R s m args below meth c 13 G ρ0 M0 1 res M 43 [(3, (false, x3)), (4, (true, x4)), (6, (true, x6))] [] := by
  unfold L_areFaults_43 at h
  refine j_iload F 2 rfl dL_areFaults_43 ?_
  refine j_if_lt F 68 (by decide) dL_areFaults_45 h (fun h => ?_) (fun h => ?_)
  · skip
    refine j_iconst F dL_areFaults_68 ?_
    refine j_goto F 73 (by decide) dL_areFaults_69 ?_
    exact j_zret F (by decide) h dL_areFaults_73
  · skip
    refine j_aload_n F 0 rfl rfl dL_areFaults_48 ?_
    refine j_bipush F (by decide) dL_areFaults_49 ?_
    obtain ⟨g1, h⟩ := gua h
    obtain ⟨g2, h⟩ := gua h
    refine j_iaload F g1 g2 dL_areFaults_51 ?_
    refine j_iconst F dL_areFaults_52 ?_
    refine j_icmp_ne F 68 (by decide) dL_areFaults_53 h (fun h => ?_) (fun h => ?_)
    · skip
      refine j_iconst F dL_areFaults_68 ?_
      refine j_goto F 73 (by decide) dL_areFaults_69 ?_
      exact j_zret F (by decide) h dL_areFaults_73
    · skip
      refine j_iload F 1 rfl dL_areFaults_56 ?_
      refine j_if_gt F 68 (by decide) dL_areFaults_58 h (fun h => ?_) (fun h => ?_)
      · skip
        refine j_iconst F dL_areFaults_68 ?_
        refine j_goto F 73 (by decide) dL_areFaults_69 ?_
        exact j_zret F (by decide) h dL_areFaults_73
      · skip
        refine j_aload_n F 0 rfl rfl dL_areFaults_61 ?_
        refine j_bipush F (by decide) dL_areFaults_62 ?_
        obtain ⟨g3, h⟩ := gua h
        refine j_iaload F g1 g3 dL_areFaults_64 ?_
        refine j_if_ne F 72 (by decide) dL_areFaults_65 h (fun h => ?_) (fun h => ?_)
        · skip
          refine j_iconst F dL_areFaults_72 ?_
          exact j_zret F (by decide) h dL_areFaults_73
        · skip
          refine j_iconst F dL_areFaults_68 ?_
          refine j_goto F 73 (by decide) dL_areFaults_69 ?_
          exact j_zret F (by decide) h dL_areFaults_73
set_option maxHeartbeats 4000000 in
set_option maxRecDepth 100000 in
theorem w_L_areFaults_244 {p : Program} {l : Launch} {e : Env} {R : Room} {s : State} {m : MethodId} {args : Array Value} {below : List Frame} {meth : Method} {c : Code} {G : Gt} {ρ0 : Int → Nat} {M0 : Mo} {res : RS} (F : Fx p l R s m args meth c cL_areFaults 13 RL G M0 14 (some FieldType.boolean)) (hno : ∀ x ∈ c.exceptionTable.toList, False) (hnm : meth.name = yL_areFaults.name) (k153 : Int → Int → Int → Int → Int → Int → Int → Int → Int → Int → Mo → Option RS) (hk153 : ∀ (x0 x3 x5 x6 x7 x8 x9 x10 x11 x12 : Int) (M : Mo), k153 x0 x3 x5 x6 x7 x8 x9 x10 x11 x12 M = some res → J p l e R s m args below meth c 13 G ρ0 M0 1 res M 153 [(0, (false, x0)), (3, (false, x3)), (5, (true, x5)), (6, (true, x6)), (7, (false, x7)), (8, (true, x8)), (9, (true, x9)), (10, (true, x10)), (11, (true, x11)), (12, (true, x12))] []) (x0 x3 x5 x6 x7 x8 x9 x10 x11 x12 : Int) (M : Mo) (h : L_areFaults_244 k153 x0 x3 x5 x6 x7 x8 x9 x10 x11 x12 M = some res) : J p l e R s m args below meth c 13 G ρ0 M0 1 res M 244 [(0, (false, x0)), (3, (false, x3)), (5, (true, x5)), (6, (true, x6)), (7, (false, x7)), (8, (true, x8)), (9, (true, x9)), (10, (true, x10)), (11, (true, x11)), (12, (true, x12))] [] := by
  unfold L_areFaults_244 at h
  refine j_iinc F 9 (lv' := [(12, (true, (x12 + 1))), (0, (false, x0)), (3, (false, x3)), (5, (true, x5)), (6, (true, x6)), (7, (false, x7)), (8, (true, x8)), (9, (true, x9)), (10, (true, x10)), (11, (true, x11))]) rfl (by decide) rfl dL_areFaults_244 ?_
  refine j_goto F 153 (by decide) dL_areFaults_247 ?_
  refine j_sub (lv' := [(0, (false, x0)), (3, (false, x3)), (5, (true, x5)), (6, (true, x6)), (7, (false, x7)), (8, (true, x8)), (9, (true, x9)), (10, (true, x10)), (11, (true, x11)), (12, (true, (x12 + 1)))]) [1, 2, 3, 4, 5, 6, 7, 8, 9, 0] rfl ?_
  exact hk153 x0 x3 x5 x6 x7 x8 x9 x10 x11 (x12 + 1) M h
set_option maxHeartbeats 4000000 in
set_option maxRecDepth 100000 in
theorem w_L_areFaults_240 {p : Program} {l : Launch} {e : Env} {R : Room} {s : State} {m : MethodId} {args : Array Value} {below : List Frame} {meth : Method} {c : Code} {G : Gt} {ρ0 : Int → Nat} {M0 : Mo} {res : RS} (F : Fx p l R s m args meth c cL_areFaults 13 RL G M0 14 (some FieldType.boolean)) (hno : ∀ x ∈ c.exceptionTable.toList, False) (hnm : meth.name = yL_areFaults.name) (k153 : Int → Int → Int → Int → Int → Int → Int → Int → Int → Int → Mo → Option RS) (hk153 : ∀ (x0 x3 x5 x6 x7 x8 x9 x10 x11 x12 : Int) (M : Mo), k153 x0 x3 x5 x6 x7 x8 x9 x10 x11 x12 M = some res → J p l e R s m args below meth c 13 G ρ0 M0 1 res M 153 [(0, (false, x0)), (3, (false, x3)), (5, (true, x5)), (6, (true, x6)), (7, (false, x7)), (8, (true, x8)), (9, (true, x9)), (10, (true, x10)), (11, (true, x11)), (12, (true, x12))] []) (x0 x3 x5 x6 x7 x8 x9 x11 x12 : Int) (M : Mo) (h : L_areFaults_240 k153 x0 x3 x5 x6 x7 x8 x9 x11 x12 M = some res) : J p l e R s m args below meth c 13 G ρ0 M0 1 res M 240 [(0, (false, x0)), (3, (false, x3)), (5, (true, x5)), (6, (true, x6)), (7, (false, x7)), (8, (true, x8)), (9, (true, x9)), (11, (true, x11)), (12, (true, x12))] [] := by
  unfold L_areFaults_240 at h
  refine j_iload F 8 rfl dL_areFaults_240 ?_
  refine j_istore F (lv' := [(10, (true, x12)), (0, (false, x0)), (3, (false, x3)), (5, (true, x5)), (6, (true, x6)), (7, (false, x7)), (8, (true, x8)), (9, (true, x9)), (11, (true, x11)), (12, (true, x12))]) (by decide) rfl dL_areFaults_242 ?_
  refine j_sub (lv' := [(0, (false, x0)), (3, (false, x3)), (5, (true, x5)), (6, (true, x6)), (7, (false, x7)), (8, (true, x8)), (9, (true, x9)), (10, (true, x12)), (11, (true, x11)), (12, (true, x12))]) [1, 2, 3, 4, 5, 6, 7, 0, 8, 9] rfl ?_
  exact w_L_areFaults_244 F hno hnm k153 hk153 x0 x3 x5 x6 x7 x8 x9 x12 x11 x12 M h
set_option maxHeartbeats 4000000 in
set_option maxRecDepth 100000 in
theorem w_L_areFaults_235 {p : Program} {l : Launch} {e : Env} {R : Room} {s : State} {m : MethodId} {args : Array Value} {below : List Frame} {meth : Method} {c : Code} {G : Gt} {ρ0 : Int → Nat} {M0 : Mo} {res : RS} (F : Fx p l R s m args meth c cL_areFaults 13 RL G M0 14 (some FieldType.boolean)) (hno : ∀ x ∈ c.exceptionTable.toList, False) (hnm : meth.name = yL_areFaults.name) (k153 : Int → Int → Int → Int → Int → Int → Int → Int → Int → Int → Mo → Option RS) (hk153 : ∀ (x0 x3 x5 x6 x7 x8 x9 x10 x11 x12 : Int) (M : Mo), k153 x0 x3 x5 x6 x7 x8 x9 x10 x11 x12 M = some res → J p l e R s m args below meth c 13 G ρ0 M0 1 res M 153 [(0, (false, x0)), (3, (false, x3)), (5, (true, x5)), (6, (true, x6)), (7, (false, x7)), (8, (true, x8)), (9, (true, x9)), (10, (true, x10)), (11, (true, x11)), (12, (true, x12))] []) (x0 x3 x5 x6 x7 x8 x11 x12 y0 : Int) (M : Mo) (h : L_areFaults_235 k153 x0 x3 x5 x6 x7 x8 x11 x12 y0 M = some res) : J p l e R s m args below meth c 13 G ρ0 M0 1 res M 235 [(0, (false, x0)), (3, (false, x3)), (5, (true, x5)), (6, (true, x6)), (7, (false, x7)), (8, (true, x8)), (11, (true, x11)), (12, (true, x12))] [(true, y0)] := by
  unfold L_areFaults_235 at h
  refine j_istore F (lv' := [(9, (true, y0)), (0, (false, x0)), (3, (false, x3)), (5, (true, x5)), (6, (true, x6)), (7, (false, x7)), (8, (true, x8)), (11, (true, x11)), (12, (true, x12))]) (by decide) rfl dL_areFaults_235 ?_
  refine j_iinc F 7 (lv' := [(11, (true, (x11 + 1))), (9, (true, y0)), (0, (false, x0)), (3, (false, x3)), (5, (true, x5)), (6, (true, x6)), (7, (false, x7)), (8, (true, x8)), (12, (true, x12))]) rfl (by decide) rfl dL_areFaults_237 ?_
  refine j_sub (lv' := [(0, (false, x0)), (3, (false, x3)), (5, (true, x5)), (6, (true, x6)), (7, (false, x7)), (8, (true, x8)), (9, (true, y0)), (11, (true, (x11 + 1))), (12, (true, x12))]) [2, 3, 4, 5, 6, 7, 1, 0, 8] rfl ?_
  exact w_L_areFaults_240 F hno hnm k153 hk153 x0 x3 x5 x6 x7 x8 y0 (x11 + 1) x12 M h
set_option maxHeartbeats 4000000 in
set_option maxRecDepth 100000 in
theorem w_L_areFaults_250 {p : Program} {l : Launch} {e : Env} {R : Room} {s : State} {m : MethodId} {args : Array Value} {below : List Frame} {meth : Method} {c : Code} {G : Gt} {ρ0 : Int → Nat} {M0 : Mo} {res : RS} (F : Fx p l R s m args meth c cL_areFaults 13 RL G M0 14 (some FieldType.boolean)) (hno : ∀ x ∈ c.exceptionTable.toList, False) (hnm : meth.name = yL_areFaults.name) (x8 x9 x11 : Int) (M : Mo) (h : L_areFaults_250 x8 x9 x11 M = some res) : J p l e R s m args below meth c 13 G ρ0 M0 1 res M 250 [(8, (true, x8)), (9, (true, x9)), (11, (true, x11))] [] := by
  unfold L_areFaults_250 at h
  refine j_iload F 1 rfl dL_areFaults_250 ?_
  refine j_if_eq F 266 (by decide) dL_areFaults_252 h (fun h => ?_) (fun h => ?_)
  · skip
    refine j_iconst F dL_areFaults_266 ?_
    exact j_zret F (by decide) h dL_areFaults_267
  · skip
    refine j_iload F 2 rfl dL_areFaults_255 ?_
    refine j_iload F 0 rfl dL_areFaults_257 ?_
    refine j_icmp_ne F 266 (by decide) dL_areFaults_259 h (fun h => ?_) (fun h => ?_)
    · skip
      refine j_iconst F dL_areFaults_266 ?_
      exact j_zret F (by decide) h dL_areFaults_267
    · skip
      refine j_iconst F dL_areFaults_262 ?_
      refine j_goto F 267 (by decide) dL_areFaults_263 ?_
      exact j_zret F (by decide) h dL_areFaults_267
set_option maxHeartbeats 4000000 in
set_option maxRecDepth 100000 in
theorem w_L_areFaults_153 {p : Program} {l : Launch} {e : Env} {R : Room} {s : State} {m : MethodId} {args : Array Value} {below : List Frame} {meth : Method} {c : Code} {G : Gt} {ρ0 : Int → Nat} {M0 : Mo} {res : RS} (F : Fx p l R s m args meth c cL_areFaults 13 RL G M0 14 (some FieldType.boolean)) (hno : ∀ x ∈ c.exceptionTable.toList, False) (hnm : meth.name = yL_areFaults.name) (n : Nat) : ∀ (x0 x3 x5 x6 x7 x8 x9 x10 x11 x12 : Int) (M : Mo), L_areFaults_153 n x0 x3 x5 x6 x7 x8 x9 x10 x11 x12 M = some res → J p l e R s m args below meth c 13 G ρ0 M0 1 res M 153 [(0, (false, x0)), (3, (false, x3)), (5, (true, x5)), (6, (true, x6)), (7, (false, x7)), (8, (true, x8)), (9, (true, x9)), (10, (true, x10)), (11, (true, x11)), (12, (true, x12))] [] := by
  induction n with
  | zero => intro x0 x3 x5 x6 x7 x8 x9 x10 x11 x12 M h; cases h
  | succ n ih =>
    intro x0 x3 x5 x6 x7 x8 x9 x10 x11 x12 M h
    rw [L_areFaults_153] at h
    refine j_iload F 9 rfl dL_areFaults_153 ?_
    refine j_aload F 4 rfl dL_areFaults_155 ?_
    refine j_bipush F (by decide) dL_areFaults_157 ?_
    obtain ⟨g1, h⟩ := gua h
    obtain ⟨g2, h⟩ := gua h
    refine j_iaload F g1 g2 dL_areFaults_159 ?_
    refine j_icmp_ge F 250 (by decide) dL_areFaults_160 h (fun h => ?_) (fun h => ?_)
    · skip
      refine j_sub (lv' := [(8, (true, x8)), (9, (true, x9)), (11, (true, x11))]) [5, 6, 8] rfl ?_
      exact w_L_areFaults_250 F hno hnm x8 x9 x11 M h
    · skip
      refine j_iload F 6 rfl dL_areFaults_163 ?_
      refine j_if_eq F 250 (by decide) dL_areFaults_165 h (fun h => ?_) (fun h => ?_)
      · skip
        refine j_sub (lv' := [(8, (true, x8)), (9, (true, x9)), (11, (true, x11))]) [5, 6, 8] rfl ?_
        exact w_L_areFaults_250 F hno hnm x8 x9 x11 M h
      · skip
        refine j_aload F 4 rfl dL_areFaults_168 ?_
        refine j_iload F 9 rfl dL_areFaults_170 ?_
        refine j_aload_n F 1 rfl rfl dL_areFaults_172 ?_
        refine j_bipush F (by decide) dL_areFaults_173 ?_
        obtain ⟨g3, h⟩ := gua h
        obtain ⟨g4, h⟩ := gua h
        refine j_iaload F g3 g4 dL_areFaults_175 ?_
        refine j_callS (d' := 1) (argl := [(false, x7), (true, x12), (true, (el M 0 x3 (wr 9)))]) (rk9 := 1) (st := []) F hno M_L_isBegin q1652 q1651 ⟨by decide, by decide⟩ (Nat.le_of_ble_eq_true rfl) (by decide) dL_areFaults_176 rfl h (fun z hz => c_L_isBegin l F.ht G x7 x12 (el M 0 x3 (wr 9)) M z hz) (fun v5 M6 h kl7 => ?_)
        refine j_st (st' := [(true, v5)]) rfl ?_
        refine j_if_eq F 244 (by decide) dL_areFaults_179 h (fun h => ?_) (fun h => ?_)
        · skip
          refine j_sub (lv' := [(0, (false, x0)), (3, (false, x3)), (5, (true, x5)), (6, (true, x6)), (7, (false, x7)), (8, (true, x8)), (9, (true, x9)), (10, (true, x10)), (11, (true, x11)), (12, (true, x12))]) [0, 1, 2, 3, 4, 5, 6, 7, 8, 9] rfl ?_
          exact w_L_areFaults_244 F hno hnm (L_areFaults_153 n) ih x0 x3 x5 x6 x7 x8 x9 x10 x11 x12 M6 h
        · skip
          refine j_iload F 7 rfl dL_areFaults_182 ?_
          refine j_if_lt F 240 (by decide) dL_areFaults_184 h (fun h => ?_) (fun h => ?_)
          · skip
            refine j_sub (lv' := [(0, (false, x0)), (3, (false, x3)), (5, (true, x5)), (6, (true, x6)), (7, (false, x7)), (8, (true, x8)), (9, (true, x9)), (11, (true, x11)), (12, (true, x12))]) [0, 1, 2, 3, 4, 5, 6, 8, 9] rfl ?_
            exact w_L_areFaults_240 F hno hnm (L_areFaults_153 n) ih x0 x3 x5 x6 x7 x8 x9 x11 x12 M6 h
          · skip
            refine j_aload F 4 rfl dL_areFaults_187 ?_
            refine j_iload F 7 rfl dL_areFaults_189 ?_
            refine j_iload F 9 rfl dL_areFaults_191 ?_
            refine j_callS (d' := 2) (argl := [(false, x7), (true, x10), (true, x12)]) (rk9 := 1) (st := []) F hno M_L_areLike q1664 q1663 ⟨by decide, by decide⟩ (Nat.le_of_ble_eq_true rfl) (by decide) dL_areFaults_193 rfl h (fun z hz => c_L_areLike l F.ht G x7 x10 x12 M6 z hz) (fun v8 M9 h kl10 => ?_)
            refine j_st (st' := [(true, v8)]) rfl ?_
            refine j_if_eq F 240 (by decide) dL_areFaults_196 h (fun h => ?_) (fun h => ?_)
            · skip
              refine j_sub (lv' := [(0, (false, x0)), (3, (false, x3)), (5, (true, x5)), (6, (true, x6)), (7, (false, x7)), (8, (true, x8)), (9, (true, x9)), (11, (true, x11)), (12, (true, x12))]) [0, 1, 2, 3, 4, 5, 6, 8, 9] rfl ?_
              exact w_L_areFaults_240 F hno hnm (L_areFaults_153 n) ih x0 x3 x5 x6 x7 x8 x9 x11 x12 M9 h
            · skip
              refine j_aload_n F 0 rfl rfl dL_areFaults_199 ?_
              refine j_bipush F (by decide) dL_areFaults_200 ?_
              refine j_iload F 3 rfl dL_areFaults_202 ?_
              refine j_iload F 2 rfl dL_areFaults_204 ?_
              refine j_iload F 8 rfl dL_areFaults_206 ?_
              refine j_callX (d' := 9) (argl := [(false, x0), (true, 10), (true, x6), (true, x5), (true, x11)]) (rk9 := 1) (st := []) F hno M_L_asks q1512 q1511 ⟨by decide, by decide⟩ (Nat.le_of_ble_eq_true rfl) (by decide) dL_areFaults_208 rfl h (fun z hz => c_L_asks l F.ht G x0 10 x6 x5 x11 M9 z hz) (fun v11 M12 h kl13 => ?_)
              refine j_st (st' := [(true, v11)]) rfl ?_
              refine j_aload F 4 rfl dL_areFaults_211 ?_
              refine j_iload F 2 rfl dL_areFaults_213 ?_
              refine j_iload F 9 rfl dL_areFaults_215 ?_
              refine j_aload F 4 rfl dL_areFaults_217 ?_
              refine j_iload F 9 rfl dL_areFaults_219 ?_
              refine j_callS (d' := 1) (argl := [(false, x7), (true, x12)]) (rk9 := 1) (st := [(true, x12), (true, x5), (false, x7), (true, v11)]) F hno M_L_behind q1661 q1660 ⟨by decide, by decide⟩ (Nat.le_of_ble_eq_true rfl) (by decide) dL_areFaults_221 rfl h (fun z hz => c_L_behind l F.ht G x7 x12 M12 z hz) (fun v14 M15 h kl16 => ?_)
              refine j_st (st' := [(true, v14), (true, x12), (true, x5), (false, x7), (true, v11)]) rfl ?_
              refine j_callS (d' := 0) (argl := [(false, x7), (true, x5), (true, x12), (true, v14)]) (rk9 := 1) (st := [(true, v11)]) F hno M_L_item q1676 q1675 ⟨by decide, by decide⟩ (Nat.le_of_ble_eq_true rfl) (by decide) dL_areFaults_224 rfl h (fun z hz => c_L_item l F.ht G x7 x5 x12 v14 M15 z hz) (fun v17 M18 h kl19 => ?_)
              refine j_st (st' := [(true, v17), (true, v11)]) rfl ?_
              refine j_icmp_ne F 234 (by decide) dL_areFaults_227 h (fun h => ?_) (fun h => ?_)
              · skip
                refine j_iconst F dL_areFaults_234 ?_
                refine j_sub (lv' := [(0, (false, x0)), (3, (false, x3)), (5, (true, x5)), (6, (true, x6)), (7, (false, x7)), (8, (true, x8)), (11, (true, x11)), (12, (true, x12))]) [0, 1, 2, 3, 4, 5, 8, 9] rfl ?_
                exact w_L_areFaults_235 F hno hnm (L_areFaults_153 n) ih x0 x3 x5 x6 x7 x8 x11 x12 0 M18 h
              · skip
                refine j_iconst F dL_areFaults_230 ?_
                refine j_goto F 235 (by decide) dL_areFaults_231 ?_
                refine j_sub (lv' := [(0, (false, x0)), (3, (false, x3)), (5, (true, x5)), (6, (true, x6)), (7, (false, x7)), (8, (true, x8)), (11, (true, x11)), (12, (true, x12))]) [0, 1, 2, 3, 4, 5, 8, 9] rfl ?_
                exact w_L_areFaults_235 F hno hnm (L_areFaults_153 n) ih x0 x3 x5 x6 x7 x8 x11 x12 1 M18 h
set_option maxHeartbeats 4000000 in
set_option maxRecDepth 100000 in
theorem w_L_areFaults_142 {p : Program} {l : Launch} {e : Env} {R : Room} {s : State} {m : MethodId} {args : Array Value} {below : List Frame} {meth : Method} {c : Code} {G : Gt} {ρ0 : Int → Nat} {M0 : Mo} {res : RS} (F : Fx p l R s m args meth c cL_areFaults 13 RL G M0 14 (some FieldType.boolean)) (hno : ∀ x ∈ c.exceptionTable.toList, False) (hnm : meth.name = yL_areFaults.name) (x0 x3 x5 x6 x7 x8 y0 : Int) (M : Mo) (h : L_areFaults_142 x0 x3 x5 x6 x7 x8 y0 M = some res) : J p l e R s m args below meth c 13 G ρ0 M0 1 res M 142 [(0, (false, x0)), (3, (false, x3)), (5, (true, x5)), (6, (true, x6)), (7, (false, x7)), (8, (true, x8))] [(true, y0)] := by
  unfold L_areFaults_142 at h
  refine j_istore F (lv' := [(9, (true, y0)), (0, (false, x0)), (3, (false, x3)), (5, (true, x5)), (6, (true, x6)), (7, (false, x7)), (8, (true, x8))]) (by decide) rfl dL_areFaults_142 ?_
  refine j_iconst F dL_areFaults_144 ?_
  refine j_istore F (lv' := [(10, (true, (-1))), (9, (true, y0)), (0, (false, x0)), (3, (false, x3)), (5, (true, x5)), (6, (true, x6)), (7, (false, x7)), (8, (true, x8))]) (by decide) rfl dL_areFaults_145 ?_
  refine j_iconst F dL_areFaults_147 ?_
  refine j_istore F (lv' := [(11, (true, 0)), (10, (true, (-1))), (9, (true, y0)), (0, (false, x0)), (3, (false, x3)), (5, (true, x5)), (6, (true, x6)), (7, (false, x7)), (8, (true, x8))]) (by decide) rfl dL_areFaults_148 ?_
  refine j_iconst F dL_areFaults_150 ?_
  refine j_istore F (lv' := [(12, (true, 0)), (11, (true, 0)), (10, (true, (-1))), (9, (true, y0)), (0, (false, x0)), (3, (false, x3)), (5, (true, x5)), (6, (true, x6)), (7, (false, x7)), (8, (true, x8))]) (by decide) rfl dL_areFaults_151 ?_
  refine j_sub (lv' := [(0, (false, x0)), (3, (false, x3)), (5, (true, x5)), (6, (true, x6)), (7, (false, x7)), (8, (true, x8)), (9, (true, y0)), (10, (true, (-1))), (11, (true, 0)), (12, (true, 0))]) [4, 5, 6, 7, 8, 9, 3, 2, 1, 0] rfl ?_
  exact w_L_areFaults_153 F hno hnm FU x0 x3 x5 x6 x7 x8 y0 (-1) 0 0 M h
set_option maxHeartbeats 4000000 in
set_option maxRecDepth 100000 in
theorem w_L_areFaults_141 {p : Program} {l : Launch} {e : Env} {R : Room} {s : State} {m : MethodId} {args : Array Value} {below : List Frame} {meth : Method} {c : Code} {G : Gt} {ρ0 : Int → Nat} {M0 : Mo} {res : RS} (F : Fx p l R s m args meth c cL_areFaults 13 RL G M0 14 (some FieldType.boolean)) (hno : ∀ x ∈ c.exceptionTable.toList, False) (hnm : meth.name = yL_areFaults.name) (x0 x3 x5 x6 x7 x8 : Int) (M : Mo) (h : L_areFaults_141 x0 x3 x5 x6 x7 x8 M = some res) : J p l e R s m args below meth c 13 G ρ0 M0 1 res M 141 [(0, (false, x0)), (3, (false, x3)), (5, (true, x5)), (6, (true, x6)), (7, (false, x7)), (8, (true, x8))] [] := by
  unfold L_areFaults_141 at h
  refine j_iconst F dL_areFaults_141 ?_
  refine j_sub (lv' := [(0, (false, x0)), (3, (false, x3)), (5, (true, x5)), (6, (true, x6)), (7, (false, x7)), (8, (true, x8))]) [0, 1, 2, 3, 4, 5] rfl ?_
  exact w_L_areFaults_142 F hno hnm x0 x3 x5 x6 x7 x8 0 M h
set_option maxHeartbeats 4000000 in
set_option maxRecDepth 100000 in
theorem w_L_areFaults_84 {p : Program} {l : Launch} {e : Env} {R : Room} {s : State} {m : MethodId} {args : Array Value} {below : List Frame} {meth : Method} {c : Code} {G : Gt} {ρ0 : Int → Nat} {M0 : Mo} {res : RS} (F : Fx p l R s m args meth c cL_areFaults 13 RL G M0 14 (some FieldType.boolean)) (hno : ∀ x ∈ c.exceptionTable.toList, False) (hnm : meth.name = yL_areFaults.name) (x0 x3 x5 x6 y0 : Int) (M : Mo) (h : L_areFaults_84 x0 x3 x5 x6 y0 M = some res) : J p l e R s m args below meth c 13 G ρ0 M0 1 res M 84 [(0, (false, x0)), (3, (false, x3)), (5, (true, x5)), (6, (true, x6))] [(false, y0)] := by
  unfold L_areFaults_84 at h
  refine j_astore F (lv' := [(7, (false, y0)), (0, (false, x0)), (3, (false, x3)), (5, (true, x5)), (6, (true, x6))]) (by decide) rfl dL_areFaults_84 ?_
  refine j_aload_n F 1 rfl rfl dL_areFaults_86 ?_
  refine j_bipush F (by decide) dL_areFaults_87 ?_
  refine j_iconst F dL_areFaults_89 ?_
  refine j_iload F 3 rfl dL_areFaults_90 ?_
  refine j_iconst F dL_areFaults_92 ?_
  refine j_iconst F dL_areFaults_93 ?_
  refine j_iconst F dL_areFaults_94 ?_
  refine j_iconst F dL_areFaults_95 ?_
  refine j_iconst F dL_areFaults_96 ?_
  refine j_callX (d' := 13) (argl := [(false, x0), (true, 10), (true, 0), (true, x5), (true, 0), (true, 0), (true, 0), (true, 0), (true, 0)]) (rk9 := 1) (st := []) F hno M_L_does q611 q610 ⟨by decide, by decide⟩ (Nat.le_of_ble_eq_true rfl) (by decide) dL_areFaults_97 rfl h (fun z hz => c_L_does l F.ht G x0 10 0 x5 0 0 0 0 0 M z hz) (fun v1 M2 h kl3 => ?_)
  refine j_st (st' := [(true, v1)]) rfl ?_
  refine j_istore F (lv' := [(8, (true, v1)), (7, (false, y0)), (0, (false, x0)), (3, (false, x3)), (5, (true, x5)), (6, (true, x6))]) (by decide) rfl dL_areFaults_100 ?_
  refine j_iload F 0 rfl dL_areFaults_102 ?_
  refine j_if_lt F 141 (by decide) dL_areFaults_104 h (fun h => ?_) (fun h => ?_)
  · skip
    refine j_sub (lv' := [(0, (false, x0)), (3, (false, x3)), (5, (true, x5)), (6, (true, x6)), (7, (false, y0)), (8, (true, v1))]) [2, 3, 4, 5, 1, 0] rfl ?_
    exact w_L_areFaults_141 F hno hnm x0 x3 x5 x6 y0 v1 M2 h
  · skip
    refine j_aload_n F 2 rfl rfl dL_areFaults_107 ?_
    refine j_iconst F dL_areFaults_108 ?_
    obtain ⟨g7, h⟩ := gua h
    refine j_callV (d' := 7) (argl := [(true, 5)]) (rk9 := 1) (st := []) F hno M_X11_waiting q1515 q1516 q1514 ⟨by decide, by decide⟩ (Nat.le_of_ble_eq_true rfl) (by decide) (ci := 12) rfl (by decide) g7 dL_areFaults_109 rfl h (fun z hz => c_X11_waiting l F.ht G x0 5 M2 z hz) (fun v4 M5 h kl6 => ?_)
    refine j_st (st' := [(true, v4)]) rfl ?_
    refine j_iconst F dL_areFaults_112 ?_
    refine j_icmp_ne F 141 (by decide) dL_areFaults_113 h (fun h => ?_) (fun h => ?_)
    · skip
      refine j_sub (lv' := [(0, (false, x0)), (3, (false, x3)), (5, (true, x5)), (6, (true, x6)), (7, (false, y0)), (8, (true, v1))]) [2, 3, 4, 5, 1, 0] rfl ?_
      exact w_L_areFaults_141 F hno hnm x0 x3 x5 x6 y0 v1 M5 h
    · skip
      refine j_aload_n F 2 rfl rfl dL_areFaults_116 ?_
      refine j_callV (d' := 12) (argl := []) (rk9 := 1) (st := []) F hno M_X11_deliverAll q1608 q1609 q1607 ⟨by decide, by decide⟩ (Nat.le_of_ble_eq_true rfl) (by decide) (ci := 12) rfl (by decide) (kl6.is g7) dL_areFaults_117 rfl h (fun z hz => c_X11_deliverAll l F.ht G x0 M5 z hz) (fun v8 M9 h kl10 => ?_)
      refine j_st (st' := [(true, v8)]) rfl ?_
      refine j_iconst F dL_areFaults_120 ?_
      refine j_icmp_ne F 141 (by decide) dL_areFaults_121 h (fun h => ?_) (fun h => ?_)
      · skip
        refine j_sub (lv' := [(0, (false, x0)), (3, (false, x3)), (5, (true, x5)), (6, (true, x6)), (7, (false, y0)), (8, (true, v1))]) [2, 3, 4, 5, 1, 0] rfl ?_
        exact w_L_areFaults_141 F hno hnm x0 x3 x5 x6 y0 v1 M9 h
      · skip
        refine j_aload_n F 2 rfl rfl dL_areFaults_124 ?_
        refine j_iload F 5 rfl dL_areFaults_125 ?_
        refine j_iload F 4 rfl dL_areFaults_127 ?_
        refine j_callV (d' := 7) (argl := [(true, x6), (true, x5)]) (rk9 := 1) (st := []) F hno M_X11_faults q1579 q1580 q1578 ⟨by decide, by decide⟩ (Nat.le_of_ble_eq_true rfl) (by decide) (ci := 12) rfl (by decide) (kl10.is (kl6.is g7)) dL_areFaults_129 rfl h (fun z hz => c_X11_faults l F.ht G x0 x6 x5 M9 z hz) (fun v11 M12 h kl13 => ?_)
        refine j_st (st' := [(true, v11)]) rfl ?_
        refine j_iload F 0 rfl dL_areFaults_132 ?_
        refine j_icmp_ne F 141 (by decide) dL_areFaults_134 h (fun h => ?_) (fun h => ?_)
        · skip
          refine j_sub (lv' := [(0, (false, x0)), (3, (false, x3)), (5, (true, x5)), (6, (true, x6)), (7, (false, y0)), (8, (true, v1))]) [2, 3, 4, 5, 1, 0] rfl ?_
          exact w_L_areFaults_141 F hno hnm x0 x3 x5 x6 y0 v1 M12 h
        · skip
          refine j_iconst F dL_areFaults_137 ?_
          refine j_goto F 142 (by decide) dL_areFaults_138 ?_
          refine j_sub (lv' := [(0, (false, x0)), (3, (false, x3)), (5, (true, x5)), (6, (true, x6)), (7, (false, y0)), (8, (true, v1))]) [2, 3, 4, 5, 1, 0] rfl ?_
          exact w_L_areFaults_142 F hno hnm x0 x3 x5 x6 y0 v1 1 M12 h
set_option maxHeartbeats 4000000 in
set_option maxRecDepth 100000 in
theorem w_L_areFaults_0 {p : Program} {l : Launch} {e : Env} {R : Room} {s : State} {m : MethodId} {args : Array Value} {below : List Frame} {meth : Method} {c : Code} {G : Gt} {ρ0 : Int → Nat} {M0 : Mo} {res : RS} (F : Fx p l R s m args meth c cL_areFaults 13 RL G M0 14 (some FieldType.boolean)) (hno : ∀ x ∈ c.exceptionTable.toList, False) (hnm : meth.name = yL_areFaults.name) (x0 x1 x2 x3 x4 x5 : Int) (M : Mo) (h : L_areFaults x0 x1 x2 x3 x4 x5 M = some res) : J p l e R s m args below meth c 13 G ρ0 M0 1 res M 0 [(0, (false, x0)), (1, (false, x1)), (2, (false, x2)), (3, (false, x3)), (4, (true, x4)), (5, (true, x5))] [] := by
  unfold L_areFaults at h
  refine j_aload_n F 3 rfl rfl dL_areFaults_0 ?_
  refine j_iconst F dL_areFaults_1 ?_
  refine j_iload F 5 rfl dL_areFaults_2 ?_
  refine j_iadd F dL_areFaults_4 ?_
  obtain ⟨g1, h⟩ := gua h
  obtain ⟨g2, h⟩ := gua h
  refine j_iaload F g1 g2 dL_areFaults_5 ?_
  refine j_istore F (lv' := [(6, (true, (el M 0 x3 (wr (2 + x5))))), (0, (false, x0)), (1, (false, x1)), (2, (false, x2)), (3, (false, x3)), (4, (true, x4)), (5, (true, x5))]) (by decide) rfl dL_areFaults_6 ?_
  refine j_iload F 0 rfl dL_areFaults_8 ?_
  refine j_if_lt F 43 (by decide) dL_areFaults_10 h (fun h => ?_) (fun h => ?_)
  · skip
    refine j_sub (lv' := [(3, (false, x3)), (4, (true, x4)), (6, (true, (el M 0 x3 (wr (2 + x5)))))]) [4, 5, 0] rfl ?_
    exact w_L_areFaults_43 F hno hnm x3 x4 (el M 0 x3 (wr (2 + x5))) M h
  · skip
    refine j_aload_n F 4 rfl rfl dL_areFaults_13 ?_
    refine j_bipush F (by decide) dL_areFaults_14 ?_
    obtain ⟨g3, h⟩ := gua h
    refine j_iaload F g1 g3 dL_areFaults_16 ?_
    refine j_iconst F dL_areFaults_17 ?_
    refine j_icmp_ne F 43 (by decide) dL_areFaults_18 h (fun h => ?_) (fun h => ?_)
    · skip
      refine j_sub (lv' := [(3, (false, x3)), (4, (true, x4)), (6, (true, (el M 0 x3 (wr (2 + x5)))))]) [4, 5, 0] rfl ?_
      exact w_L_areFaults_43 F hno hnm x3 x4 (el M 0 x3 (wr (2 + x5))) M h
    · skip
      refine j_iload F 5 rfl dL_areFaults_21 ?_
      refine j_if_gt F 43 (by decide) dL_areFaults_23 h (fun h => ?_) (fun h => ?_)
      · skip
        refine j_sub (lv' := [(3, (false, x3)), (4, (true, x4)), (6, (true, (el M 0 x3 (wr (2 + x5)))))]) [4, 5, 0] rfl ?_
        exact w_L_areFaults_43 F hno hnm x3 x4 (el M 0 x3 (wr (2 + x5))) M h
      · skip
        refine j_aload_n F 4 rfl rfl dL_areFaults_26 ?_
        refine j_bipush F (by decide) dL_areFaults_27 ?_
        obtain ⟨g4, h⟩ := gua h
        refine j_iaload F g1 g4 dL_areFaults_29 ?_
        refine j_if_eq F 43 (by decide) dL_areFaults_30 h (fun h => ?_) (fun h => ?_)
        · skip
          refine j_sub (lv' := [(3, (false, x3)), (4, (true, x4)), (6, (true, (el M 0 x3 (wr (2 + x5)))))]) [4, 5, 0] rfl ?_
          exact w_L_areFaults_43 F hno hnm x3 x4 (el M 0 x3 (wr (2 + x5))) M h
        · skip
          refine j_aload_n F 1 rfl rfl dL_areFaults_33 ?_
          refine j_aload_n F 2 rfl rfl dL_areFaults_34 ?_
          refine j_aload_n F 3 rfl rfl dL_areFaults_35 ?_
          refine j_aload_n F 4 rfl rfl dL_areFaults_36 ?_
          refine j_callS (d' := 13) (argl := [(false, x0), (false, x1), (false, x2), (false, x3)]) (rk9 := 1) (st := []) F hno M_L_areDelivered q1605 q1604 ⟨by decide, by decide⟩ (Nat.le_of_ble_eq_true rfl) (by decide) dL_areFaults_37 rfl h (fun z hz => c_L_areDelivered l F.ht G x0 x1 x2 x3 M z hz) (fun v5 M6 h kl7 => ?_)
          refine j_st (st' := [(true, v5)]) rfl ?_
          refine j_if_ne F 74 (by decide) dL_areFaults_40 h (fun h => ?_) (fun h => ?_)
          · skip
            refine j_iload F 6 rfl dL_areFaults_74 ?_
            refine j_if_ne F 83 (by decide) dL_areFaults_76 h (fun h => ?_) (fun h => ?_)
            · skip
              refine j_aload_n F 3 rfl rfl dL_areFaults_83 ?_
              refine j_sub (lv' := [(0, (false, x0)), (3, (false, x3)), (5, (true, x5)), (6, (true, (el M 0 x3 (wr (2 + x5)))))]) [1, 4, 6, 0] rfl ?_
              exact w_L_areFaults_84 F hno hnm x0 x3 x5 (el M 0 x3 (wr (2 + x5))) x2 M6 h
            · skip
              refine j_aload_n F 2 rfl rfl dL_areFaults_79 ?_
              refine j_goto F 84 (by decide) dL_areFaults_80 ?_
              refine j_sub (lv' := [(0, (false, x0)), (3, (false, x3)), (5, (true, x5)), (6, (true, (el M 0 x3 (wr (2 + x5)))))]) [1, 4, 6, 0] rfl ?_
              exact w_L_areFaults_84 F hno hnm x0 x3 x5 (el M 0 x3 (wr (2 + x5))) x1 M6 h
          · skip
            refine j_sub (lv' := [(3, (false, x3)), (4, (true, x4)), (6, (true, (el M 0 x3 (wr (2 + x5)))))]) [4, 5, 0] rfl ?_
            exact w_L_areFaults_43 F hno hnm x3 x4 (el M 0 x3 (wr (2 + x5))) M6 h
theorem c_L_areFaults (l : Launch) (hl : l.stackTraces = false) (G : Gt) (x0 x1 x2 x3 x4 x5 : Int) (M : Mo) (z : RS) (h : L_areFaults x0 x1 x2 x3 x4 x5 M = some z) : CT l G yL_areFaults (cn yL_areFaults cL_areFaults 13 (some FieldType.boolean)) 14 [(false, x0), (false, x1), (false, x2), (false, x3), (true, x4), (true, x5)] M 1 z :=
  ctOf hl (by decide) (Nat.le_of_ble_eq_true rfl) (fun p e R s m args below meth c ρ F hno hnm => w_L_areFaults_0 F hno hnm x0 x1 x2 x3 x4 x5 M h)
theorem dL_code_0 : decode cL_code 0 = .ok (.iload_n 0, 1) := by decide +kernel
theorem dL_code_1 : decode cL_code 1 = .ok (.bipush 20, 2) := by decide +kernel
theorem dL_code_3 : decode cL_code 3 = .ok (.irem, 1) := by decide +kernel
theorem dL_code_4 : decode cL_code 4 = .ok (.istore_n 1, 1) := by decide +kernel
theorem dL_code_5 : decode cL_code 5 = .ok (.iload_n 1, 1) := by decide +kernel
theorem dL_code_6 : decode cL_code 6 = .ok (.bipush 8, 2) := by decide +kernel
theorem dL_code_8 : decode cL_code 8 = .ok (.if_icmp .ge 15, 3) := by decide +kernel
theorem dL_code_23 : decode cL_code 23 = .ok (.iload_n 1, 1) := by decide +kernel
theorem dL_code_24 : decode cL_code 24 = .ok (.bipush 11, 2) := by decide +kernel
theorem dL_code_26 : decode cL_code 26 = .ok (.if_icmp .ge 15, 3) := by decide +kernel
theorem dL_code_41 : decode cL_code 41 = .ok (.iload_n 1, 1) := by decide +kernel
theorem dL_code_42 : decode cL_code 42 = .ok (.bipush 14, 2) := by decide +kernel
theorem dL_code_44 : decode cL_code 44 = .ok (.if_icmp .ge 8, 3) := by decide +kernel
theorem dL_code_52 : decode cL_code 52 = .ok (.iload_n 1, 1) := by decide +kernel
theorem dL_code_53 : decode cL_code 53 = .ok (.bipush 16, 2) := by decide +kernel
theorem dL_code_55 : decode cL_code 55 = .ok (.if_icmp .ge 8, 3) := by decide +kernel
theorem dL_code_63 : decode cL_code 63 = .ok (.iload_n 1, 1) := by decide +kernel
theorem dL_code_64 : decode cL_code 64 = .ok (.bipush 16, 2) := by decide +kernel
theorem dL_code_66 : decode cL_code 66 = .ok (.if_icmp .ne 16, 3) := by decide +kernel
theorem dL_code_82 : decode cL_code 82 = .ok (.iload_n 1, 1) := by decide +kernel
theorem dL_code_83 : decode cL_code 83 = .ok (.bipush 17, 2) := by decide +kernel
theorem dL_code_85 : decode cL_code 85 = .ok (.if_icmp .ne 8, 3) := by decide +kernel
theorem dL_code_93 : decode cL_code 93 = .ok (.iconst (-1), 1) := by decide +kernel
theorem dL_code_94 : decode cL_code 94 = .ok (.ireturn, 1) := by decide +kernel
theorem dL_code_88 : decode cL_code 88 = .ok (.bipush 65, 2) := by decide +kernel
theorem dL_code_90 : decode cL_code 90 = .ok (.goto 4, 3) := by decide +kernel
theorem dL_code_69 : decode cL_code 69 = .ok (.ldc 115, 2) := by decide +kernel
theorem dL_code_71 : decode cL_code 71 = .ok (.iload_n 0, 1) := by decide +kernel
theorem dL_code_72 : decode cL_code 72 = .ok (.bipush 20, 2) := by decide +kernel
theorem dL_code_74 : decode cL_code 74 = .ok (.idiv, 1) := by decide +kernel
theorem dL_code_75 : decode cL_code 75 = .ok (.bipush 80, 2) := by decide +kernel
theorem dL_code_77 : decode cL_code 77 = .ok (.irem, 1) := by decide +kernel
theorem dL_code_78 : decode cL_code 78 = .ok (.iadd, 1) := by decide +kernel
theorem dL_code_79 : decode cL_code 79 = .ok (.goto 15, 3) := by decide +kernel
theorem dL_code_58 : decode cL_code 58 = .ok (.bipush 10, 2) := by decide +kernel
theorem dL_code_60 : decode cL_code 60 = .ok (.goto 34, 3) := by decide +kernel
theorem dL_code_47 : decode cL_code 47 = .ok (.bipush 32, 2) := by decide +kernel
theorem dL_code_49 : decode cL_code 49 = .ok (.goto 45, 3) := by decide +kernel
theorem dL_code_29 : decode cL_code 29 = .ok (.bipush 48, 2) := by decide +kernel
theorem dL_code_31 : decode cL_code 31 = .ok (.iload_n 0, 1) := by decide +kernel
theorem dL_code_32 : decode cL_code 32 = .ok (.bipush 20, 2) := by decide +kernel
theorem dL_code_34 : decode cL_code 34 = .ok (.idiv, 1) := by decide +kernel
theorem dL_code_35 : decode cL_code 35 = .ok (.iconst 2, 1) := by decide +kernel
theorem dL_code_36 : decode cL_code 36 = .ok (.irem, 1) := by decide +kernel
theorem dL_code_37 : decode cL_code 37 = .ok (.iadd, 1) := by decide +kernel
theorem dL_code_38 : decode cL_code 38 = .ok (.goto 56, 3) := by decide +kernel
theorem dL_code_11 : decode cL_code 11 = .ok (.bipush 97, 2) := by decide +kernel
theorem dL_code_13 : decode cL_code 13 = .ok (.iload_n 0, 1) := by decide +kernel
theorem dL_code_14 : decode cL_code 14 = .ok (.bipush 20, 2) := by decide +kernel
theorem dL_code_16 : decode cL_code 16 = .ok (.idiv, 1) := by decide +kernel
theorem dL_code_17 : decode cL_code 17 = .ok (.iconst 3, 1) := by decide +kernel
theorem dL_code_18 : decode cL_code 18 = .ok (.irem, 1) := by decide +kernel
theorem dL_code_19 : decode cL_code 19 = .ok (.iadd, 1) := by decide +kernel
theorem dL_code_20 : decode cL_code 20 = .ok (.goto 74, 3) := by decide +kernel
set_option maxHeartbeats 4000000 in
set_option maxRecDepth 100000 in
theorem w_L_code_0 {p : Program} {l : Launch} {e : Env} {R : Room} {s : State} {m : MethodId} {args : Array Value} {below : List Frame} {meth : Method} {c : Code} {G : Gt} {ρ0 : Int → Nat} {M0 : Mo} {res : RS} (F : Fx p l R s m args meth c cL_code 2 RL G M0 0 (some FieldType.int)) (hno : ∀ x ∈ c.exceptionTable.toList, False) (hnm : meth.name = yL_code.name) (x0 : Int) (M : Mo) (h : L_code x0 M = some res) : J p l e R s m args below meth c 2 G ρ0 M0 1 res M 0 [(0, (true, x0))] [] := by
  unfold L_code at h
  refine j_iload_n F 0 rfl rfl dL_code_0 ?_
  refine j_bipush F (by decide) dL_code_1 ?_
  refine j_irem F (by decide) dL_code_3 ?_
  refine j_istore_n F (lv' := [(1, (true, (irm x0 20))), (0, (true, x0))]) rfl (by decide) rfl dL_code_4 ?_
  refine j_iload_n F 0 rfl rfl dL_code_5 ?_
  refine j_bipush F (by decide) dL_code_6 ?_
  refine j_icmp_ge F 23 (by decide) dL_code_8 h (fun h => ?_) (fun h => ?_)
  · skip
    refine j_iload_n F 0 rfl rfl dL_code_23 ?_
    refine j_bipush F (by decide) dL_code_24 ?_
    refine j_icmp_ge F 41 (by decide) dL_code_26 h (fun h => ?_) (fun h => ?_)
    · skip
      refine j_iload_n F 0 rfl rfl dL_code_41 ?_
      refine j_bipush F (by decide) dL_code_42 ?_
      refine j_icmp_ge F 52 (by decide) dL_code_44 h (fun h => ?_) (fun h => ?_)
      · skip
        refine j_iload_n F 0 rfl rfl dL_code_52 ?_
        refine j_bipush F (by decide) dL_code_53 ?_
        refine j_icmp_ge F 63 (by decide) dL_code_55 h (fun h => ?_) (fun h => ?_)
        · skip
          refine j_iload_n F 0 rfl rfl dL_code_63 ?_
          refine j_bipush F (by decide) dL_code_64 ?_
          refine j_icmp_ne F 82 (by decide) dL_code_66 h (fun h => ?_) (fun h => ?_)
          · skip
            refine j_iload_n F 0 rfl rfl dL_code_82 ?_
            refine j_bipush F (by decide) dL_code_83 ?_
            refine j_icmp_ne F 93 (by decide) dL_code_85 h (fun h => ?_) (fun h => ?_)
            · skip
              refine j_iconst F dL_code_93 ?_
              exact j_iret F h dL_code_94
            · skip
              refine j_bipush F (by decide) dL_code_88 ?_
              refine j_goto F 94 (by decide) dL_code_90 ?_
              exact j_iret F h dL_code_94
          · skip
            refine j_ldc (n := 128512) F q1622 dL_code_69 ?_
            refine j_iload_n F 1 rfl rfl dL_code_71 ?_
            refine j_bipush F (by decide) dL_code_72 ?_
            refine j_idiv F (by decide) dL_code_74 ?_
            refine j_bipush F (by decide) dL_code_75 ?_
            refine j_irem F (by decide) dL_code_77 ?_
            refine j_iadd F dL_code_78 ?_
            refine j_goto F 94 (by decide) dL_code_79 ?_
            exact j_iret F h dL_code_94
        · skip
          refine j_bipush F (by decide) dL_code_58 ?_
          refine j_goto F 94 (by decide) dL_code_60 ?_
          exact j_iret F h dL_code_94
      · skip
        refine j_bipush F (by decide) dL_code_47 ?_
        refine j_goto F 94 (by decide) dL_code_49 ?_
        exact j_iret F h dL_code_94
    · skip
      refine j_bipush F (by decide) dL_code_29 ?_
      refine j_iload_n F 1 rfl rfl dL_code_31 ?_
      refine j_bipush F (by decide) dL_code_32 ?_
      refine j_idiv F (by decide) dL_code_34 ?_
      refine j_iconst F dL_code_35 ?_
      refine j_irem F (by decide) dL_code_36 ?_
      refine j_iadd F dL_code_37 ?_
      refine j_goto F 94 (by decide) dL_code_38 ?_
      exact j_iret F h dL_code_94
  · skip
    refine j_bipush F (by decide) dL_code_11 ?_
    refine j_iload_n F 1 rfl rfl dL_code_13 ?_
    refine j_bipush F (by decide) dL_code_14 ?_
    refine j_idiv F (by decide) dL_code_16 ?_
    refine j_iconst F dL_code_17 ?_
    refine j_irem F (by decide) dL_code_18 ?_
    refine j_iadd F dL_code_19 ?_
    refine j_goto F 94 (by decide) dL_code_20 ?_
    exact j_iret F h dL_code_94
theorem c_L_code (l : Launch) (hl : l.stackTraces = false) (G : Gt) (x0 : Int) (M : Mo) (z : RS) (h : L_code x0 M = some z) : CT l G yL_code (cn yL_code cL_code 2 (some FieldType.int)) 0 [(true, x0)] M 1 z :=
  ctOf hl (by decide) (Nat.le_of_ble_eq_true rfl) (fun p e R s m args below meth c ρ F hno hnm => w_L_code_0 F hno hnm x0 M h)
theorem dL_isChanged_0 : decode cL_isChanged 0 = .ok (.iload 6, 2) := by decide +kernel
theorem dL_isChanged_2 : decode cL_isChanged 2 = .ok (.iconst 4, 1) := by decide +kernel
theorem dL_isChanged_3 : decode cL_isChanged 3 = .ok (.irem, 1) := by decide +kernel
theorem dL_isChanged_4 : decode cL_isChanged 4 = .ok (.istore 9, 2) := by decide +kernel
theorem dL_isChanged_6 : decode cL_isChanged 6 = .ok (.iload 7, 2) := by decide +kernel
theorem dL_isChanged_8 : decode cL_isChanged 8 = .ok (.bipush 40, 2) := by decide +kernel
theorem dL_isChanged_10 : decode cL_isChanged 10 = .ok (.irem, 1) := by decide +kernel
theorem dL_isChanged_11 : decode cL_isChanged 11 = .ok (.ifCond .ne 9, 3) := by decide +kernel
theorem dL_isChanged_20 : decode cL_isChanged 20 = .ok (.iload 7, 2) := by decide +kernel
theorem dL_isChanged_22 : decode cL_isChanged 22 = .ok (.bipush 14, 2) := by decide +kernel
theorem dL_isChanged_24 : decode cL_isChanged 24 = .ok (.irem, 1) := by decide +kernel
theorem dL_isChanged_14 : decode cL_isChanged 14 = .ok (.sipush 1001, 3) := by decide +kernel
theorem dL_isChanged_17 : decode cL_isChanged 17 = .ok (.goto 8, 3) := by decide +kernel
theorem dL_isChanged_25 : decode cL_isChanged 25 = .ok (.istore 10, 2) := by decide +kernel
theorem dL_isChanged_27 : decode cL_isChanged 27 = .ok (.iload 6, 2) := by decide +kernel
theorem dL_isChanged_29 : decode cL_isChanged 29 = .ok (.iconst 4, 1) := by decide +kernel
theorem dL_isChanged_30 : decode cL_isChanged 30 = .ok (.idiv, 1) := by decide +kernel
theorem dL_isChanged_31 : decode cL_isChanged 31 = .ok (.iconst 3, 1) := by decide +kernel
theorem dL_isChanged_32 : decode cL_isChanged 32 = .ok (.irem, 1) := by decide +kernel
theorem dL_isChanged_33 : decode cL_isChanged 33 = .ok (.ifCond .ne 16, 3) := by decide +kernel
theorem dL_isChanged_49 : decode cL_isChanged 49 = .ok (.iload 9, 2) := by decide +kernel
theorem dL_isChanged_36 : decode cL_isChanged 36 = .ok (.iload 9, 2) := by decide +kernel
theorem dL_isChanged_38 : decode cL_isChanged 38 = .ok (.iload 6, 2) := by decide +kernel
theorem dL_isChanged_40 : decode cL_isChanged 40 = .ok (.bipush 12, 2) := by decide +kernel
theorem dL_isChanged_42 : decode cL_isChanged 42 = .ok (.idiv, 1) := by decide +kernel
theorem dL_isChanged_43 : decode cL_isChanged 43 = .ok (.iconst 2, 1) := by decide +kernel
theorem dL_isChanged_44 : decode cL_isChanged 44 = .ok (.irem, 1) := by decide +kernel
theorem dL_isChanged_45 : decode cL_isChanged 45 = .ok (.iadd, 1) := by decide +kernel
theorem dL_isChanged_46 : decode cL_isChanged 46 = .ok (.goto 5, 3) := by decide +kernel
theorem dL_isChanged_51 : decode cL_isChanged 51 = .ok (.istore 11, 2) := by decide +kernel
theorem dL_isChanged_53 : decode cL_isChanged 53 = .ok (.iload 6, 2) := by decide +kernel
theorem dL_isChanged_55 : decode cL_isChanged 55 = .ok (.iconst 4, 1) := by decide +kernel
theorem dL_isChanged_56 : decode cL_isChanged 56 = .ok (.idiv, 1) := by decide +kernel
theorem dL_isChanged_57 : decode cL_isChanged 57 = .ok (.iconst 3, 1) := by decide +kernel
theorem dL_isChanged_58 : decode cL_isChanged 58 = .ok (.irem, 1) := by decide +kernel
theorem dL_isChanged_59 : decode cL_isChanged 59 = .ok (.iconst 1, 1) := by decide +kernel
theorem dL_isChanged_60 : decode cL_isChanged 60 = .ok (.if_icmp .ne 11, 3) := by decide +kernel
theorem dL_isChanged_71 : decode cL_isChanged 71 = .ok (.iload 7, 2) := by decide +kernel
theorem dL_isChanged_73 : decode cL_isChanged 73 = .ok (.bipush 14, 2) := by decide +kernel
theorem dL_isChanged_75 : decode cL_isChanged 75 = .ok (.idiv, 1) := by decide +kernel
theorem dL_isChanged_76 : decode cL_isChanged 76 = .ok (.bipush 16, 2) := by decide +kernel
theorem dL_isChanged_78 : decode cL_isChanged 78 = .ok (.irem, 1) := by decide +kernel
theorem dL_isChanged_63 : decode cL_isChanged 63 = .ok (.iload 7, 2) := by decide +kernel
theorem dL_isChanged_65 : decode cL_isChanged 65 = .ok (.bipush 14, 2) := by decide +kernel
theorem dL_isChanged_67 : decode cL_isChanged 67 = .ok (.irem, 1) := by decide +kernel
theorem dL_isChanged_68 : decode cL_isChanged 68 = .ok (.goto 11, 3) := by decide +kernel
theorem dL_isChanged_79 : decode cL_isChanged 79 = .ok (.istore 12, 2) := by decide +kernel
theorem dL_isChanged_81 : decode cL_isChanged 81 = .ok (.iload 8, 2) := by decide +kernel
set_option maxRecDepth 100000 in
theorem q1621 : Cond.code yL_code cL_code 2 (some FieldType.int) ∈ GT := gt 1621 (rfl) (by decide +kernel)
theorem M_L_code : MY yL_code cL_code 2 (some FieldType.int) 1 := ⟨q1621, q52, by decide +kernel, by decide +kernel⟩
set_option maxRecDepth 100000 in
theorem q1620 : Cond.static yL_code ∈ GT := gt 1620 (by decide +kernel) (by decide +kernel)
set_option maxRecDepth 100000 in
theorem q1619 : Cond.methodLink RL 196 yL_code ∈ GT := gt 1619 (by decide +kernel) (by decide +kernel)
theorem dL_isChanged_83 : decode cL_isChanged 83 = .ok (.invokestatic 196, 3) := by decide +kernel
theorem dL_isChanged_86 : decode cL_isChanged 86 = .ok (.istore 13, 2) := by decide +kernel
theorem dL_isChanged_88 : decode cL_isChanged 88 = .ok (.iload 5, 2) := by decide +kernel
theorem dL_isChanged_90 : decode cL_isChanged 90 = .ok (.ifCond .ne 7, 3) := by decide +kernel
theorem dL_isChanged_97 : decode cL_isChanged 97 = .ok (.aload_n 2, 1) := by decide +kernel
theorem dL_isChanged_93 : decode cL_isChanged 93 = .ok (.aload_n 1, 1) := by decide +kernel
theorem dL_isChanged_94 : decode cL_isChanged 94 = .ok (.goto 4, 3) := by decide +kernel
theorem dL_isChanged_98 : decode cL_isChanged 98 = .ok (.astore 14, 2) := by decide +kernel
theorem dL_isChanged_100 : decode cL_isChanged 100 = .ok (.iload 4, 2) := by decide +kernel
theorem dL_isChanged_102 : decode cL_isChanged 102 = .ok (.iconst 2, 1) := by decide +kernel
theorem dL_isChanged_103 : decode cL_isChanged 103 = .ok (.if_icmp .ge 13, 3) := by decide +kernel
theorem dL_isChanged_106 : decode cL_isChanged 106 = .ok (.iload 5, 2) := by decide +kernel
theorem dL_isChanged_108 : decode cL_isChanged 108 = .ok (.iconst 2, 1) := by decide +kernel
theorem dL_isChanged_109 : decode cL_isChanged 109 = .ok (.if_icmp .ge 7, 3) := by decide +kernel
theorem dL_isChanged_112 : decode cL_isChanged 112 = .ok (.iconst 1, 1) := by decide +kernel
theorem dL_isChanged_113 : decode cL_isChanged 113 = .ok (.goto 4, 3) := by decide +kernel
theorem dL_isChanged_116 : decode cL_isChanged 116 = .ok (.iconst 0, 1) := by decide +kernel
theorem dL_isChanged_117 : decode cL_isChanged 117 = .ok (.istore 15, 2) := by decide +kernel
theorem dL_isChanged_119 : decode cL_isChanged 119 = .ok (.iload 10, 2) := by decide +kernel
theorem dL_isChanged_121 : decode cL_isChanged 121 = .ok (.sipush 1001, 3) := by decide +kernel
theorem dL_isChanged_124 : decode cL_isChanged 124 = .ok (.if_icmp .ge 14, 3) := by decide +kernel
theorem dL_isChanged_127 : decode cL_isChanged 127 = .ok (.iload 13, 2) := by decide +kernel
theorem dL_isChanged_129 : decode cL_isChanged 129 = .ok (.bipush 65, 2) := by decide +kernel
theorem dL_isChanged_131 : decode cL_isChanged 131 = .ok (.if_icmp .eq 7, 3) := by decide +kernel
theorem dL_isChanged_134 : decode cL_isChanged 134 = .ok (.iconst 1, 1) := by decide +kernel
theorem dL_isChanged_135 : decode cL_isChanged 135 = .ok (.goto 4, 3) := by decide +kernel
theorem dL_isChanged_138 : decode cL_isChanged 138 = .ok (.iconst 0, 1) := by decide +kernel
theorem dL_isChanged_139 : decode cL_isChanged 139 = .ok (.istore 16, 2) := by decide +kernel
theorem dL_isChanged_141 : decode cL_isChanged 141 = .ok (.iload 15, 2) := by decide +kernel
theorem dL_isChanged_143 : decode cL_isChanged 143 = .ok (.ifCond .eq 23, 3) := by decide +kernel
theorem dL_isChanged_146 : decode cL_isChanged 146 = .ok (.iload 16, 2) := by decide +kernel
theorem dL_isChanged_148 : decode cL_isChanged 148 = .ok (.ifCond .eq 18, 3) := by decide +kernel
theorem dL_isChanged_151 : decode cL_isChanged 151 = .ok (.aload_n 3, 1) := by decide +kernel
theorem dL_isChanged_152 : decode cL_isChanged 152 = .ok (.iconst 2, 1) := by decide +kernel
theorem dL_isChanged_153 : decode cL_isChanged 153 = .ok (.iload 5, 2) := by decide +kernel
theorem dL_isChanged_155 : decode cL_isChanged 155 = .ok (.iadd, 1) := by decide +kernel
theorem dL_isChanged_156 : decode cL_isChanged 156 = .ok (.iaload, 1) := by decide +kernel
theorem dL_isChanged_157 : decode cL_isChanged 157 = .ok (.iload 4, 2) := by decide +kernel
theorem dL_isChanged_159 : decode cL_isChanged 159 = .ok (.if_icmp .ne 7, 3) := by decide +kernel
theorem dL_isChanged_162 : decode cL_isChanged 162 = .ok (.iconst 1, 1) := by decide +kernel
theorem dL_isChanged_163 : decode cL_isChanged 163 = .ok (.goto 4, 3) := by decide +kernel
theorem dL_isChanged_166 : decode cL_isChanged 166 = .ok (.iconst 0, 1) := by decide +kernel
theorem dL_isChanged_167 : decode cL_isChanged 167 = .ok (.istore 17, 2) := by decide +kernel
theorem dL_isChanged_169 : decode cL_isChanged 169 = .ok (.iload 17, 2) := by decide +kernel
theorem dL_isChanged_171 : decode cL_isChanged 171 = .ok (.ifCond .eq 15, 3) := by decide +kernel
theorem dL_isChanged_186 : decode cL_isChanged 186 = .ok (.iconst 0, 1) := by decide +kernel
theorem dL_isChanged_174 : decode cL_isChanged 174 = .ok (.aload 14, 2) := by decide +kernel
theorem dL_isChanged_176 : decode cL_isChanged 176 = .ok (.iload 9, 2) := by decide +kernel
theorem dL_isChanged_178 : decode cL_isChanged 178 = .ok (.iload 10, 2) := by decide +kernel
theorem dL_isChanged_180 : decode cL_isChanged 180 = .ok (.invokestatic 189, 3) := by decide +kernel
theorem dL_isChanged_183 : decode cL_isChanged 183 = .ok (.goto 4, 3) := by decide +kernel
theorem dL_isChanged_187 : decode cL_isChanged 187 = .ok (.istore 18, 2) := by decide +kernel
theorem dL_isChanged_189 : decode cL_isChanged 189 = .ok (.iload 17, 2) := by decide +kernel
theorem dL_isChanged_191 : decode cL_isChanged 191 = .ok (.ifCond .eq 15, 3) := by decide +kernel
theorem dL_isChanged_206 : decode cL_isChanged 206 = .ok (.iconst 0, 1) := by decide +kernel
theorem dL_isChanged_194 : decode cL_isChanged 194 = .ok (.aload 14, 2) := by decide +kernel
theorem dL_isChanged_196 : decode cL_isChanged 196 = .ok (.iload 11, 2) := by decide +kernel
theorem dL_isChanged_198 : decode cL_isChanged 198 = .ok (.iload 12, 2) := by decide +kernel
theorem dL_isChanged_200 : decode cL_isChanged 200 = .ok (.invokestatic 189, 3) := by decide +kernel
theorem dL_isChanged_203 : decode cL_isChanged 203 = .ok (.goto 4, 3) := by decide +kernel
theorem dL_isChanged_207 : decode cL_isChanged 207 = .ok (.istore 19, 2) := by decide +kernel
theorem dL_isChanged_209 : decode cL_isChanged 209 = .ok (.iload 17, 2) := by decide +kernel
theorem dL_isChanged_211 : decode cL_isChanged 211 = .ok (.ifCond .eq 14, 3) := by decide +kernel
theorem dL_isChanged_214 : decode cL_isChanged 214 = .ok (.iload 19, 2) := by decide +kernel
theorem dL_isChanged_216 : decode cL_isChanged 216 = .ok (.iload 18, 2) := by decide +kernel
theorem dL_isChanged_218 : decode cL_isChanged 218 = .ok (.if_icmp .lt 7, 3) := by decide +kernel
theorem dL_isChanged_221 : decode cL_isChanged 221 = .ok (.iconst 1, 1) := by decide +kernel
theorem dL_isChanged_222 : decode cL_isChanged 222 = .ok (.goto 4, 3) := by decide +kernel
theorem dL_isChanged_225 : decode cL_isChanged 225 = .ok (.iconst 0, 1) := by decide +kernel
theorem dL_isChanged_226 : decode cL_isChanged 226 = .ok (.istore 17, 2) := by decide +kernel
theorem dL_isChanged_228 : decode cL_isChanged 228 = .ok (.iload 17, 2) := by decide +kernel
theorem dL_isChanged_230 : decode cL_isChanged 230 = .ok (.ifCond .eq 46, 3) := by decide +kernel
theorem dL_isChanged_233 : decode cL_isChanged 233 = .ok (.aload 14, 2) := by decide +kernel
theorem dL_isChanged_235 : decode cL_isChanged 235 = .ok (.bipush 63, 2) := by decide +kernel
theorem dL_isChanged_237 : decode cL_isChanged 237 = .ok (.iaload, 1) := by decide +kernel
theorem dL_isChanged_238 : decode cL_isChanged 238 = .ok (.iload 19, 2) := by decide +kernel
theorem dL_isChanged_240 : decode cL_isChanged 240 = .ok (.isub, 1) := by decide +kernel
theorem dL_isChanged_241 : decode cL_isChanged 241 = .ok (.iload 18, 2) := by decide +kernel
theorem dL_isChanged_243 : decode cL_isChanged 243 = .ok (.iadd, 1) := by decide +kernel
theorem dL_isChanged_244 : decode cL_isChanged 244 = .ok (.iload 13, 2) := by decide +kernel
theorem dL_isChanged_246 : decode cL_isChanged 246 = .ok (.invokestatic 110, 3) := by decide +kernel
theorem dL_isChanged_249 : decode cL_isChanged 249 = .ok (.iadd, 1) := by decide +kernel
theorem dL_isChanged_250 : decode cL_isChanged 250 = .ok (.bipush 60, 2) := by decide +kernel
theorem dL_isChanged_252 : decode cL_isChanged 252 = .ok (.if_icmp .le 24, 3) := by decide +kernel
theorem dL_isChanged_255 : decode cL_isChanged 255 = .ok (.aload_n 0, 1) := by decide +kernel
theorem dL_isChanged_256 : decode cL_isChanged 256 = .ok (.iload 4, 2) := by decide +kernel
theorem dL_isChanged_258 : decode cL_isChanged 258 = .ok (.iload 5, 2) := by decide +kernel
theorem dL_isChanged_260 : decode cL_isChanged 260 = .ok (.invokevirtual 80, 3) := by decide +kernel
theorem dL_isChanged_263 : decode cL_isChanged 263 = .ok (.aload_n 3, 1) := by decide +kernel
theorem dL_isChanged_264 : decode cL_isChanged 264 = .ok (.iload 5, 2) := by decide +kernel
theorem dL_isChanged_266 : decode cL_isChanged 266 = .ok (.iaload, 1) := by decide +kernel
theorem dL_isChanged_267 : decode cL_isChanged 267 = .ok (.if_icmp .ne 7, 3) := by decide +kernel
theorem dL_isChanged_274 : decode cL_isChanged 274 = .ok (.iconst 0, 1) := by decide +kernel
theorem dL_isChanged_275 : decode cL_isChanged 275 = .ok (.ireturn, 1) := by decide +kernel
theorem dL_isChanged_270 : decode cL_isChanged 270 = .ok (.iconst 1, 1) := by decide +kernel
theorem dL_isChanged_271 : decode cL_isChanged 271 = .ok (.goto 4, 3) := by decide +kernel
theorem dL_isChanged_276 : decode cL_isChanged 276 = .ok (.iload 17, 2) := by decide +kernel
theorem dL_isChanged_278 : decode cL_isChanged 278 = .ok (.ifCond .eq 33, 3) := by decide +kernel
theorem dL_isChanged_281 : decode cL_isChanged 281 = .ok (.aload 14, 2) := by decide +kernel
theorem dL_isChanged_283 : decode cL_isChanged 283 = .ok (.iload 18, 2) := by decide +kernel
theorem dL_isChanged_285 : decode cL_isChanged 285 = .ok (.iload 19, 2) := by decide +kernel
theorem dL_isChanged_287 : decode cL_isChanged 287 = .ok (.iload 13, 2) := by decide +kernel
set_option maxRecDepth 100000 in
theorem q1628 : Cond.code yL_replaces cL_replaces 7 none ∈ GT := gt 1628 (rfl) (by decide +kernel)
theorem M_L_replaces : MY yL_replaces cL_replaces 7 none 4 := ⟨q1628, q52, by decide +kernel, by decide +kernel⟩
set_option maxRecDepth 100000 in
theorem q1627 : Cond.static yL_replaces ∈ GT := gt 1627 (by decide +kernel) (by decide +kernel)
set_option maxRecDepth 100000 in
theorem q1626 : Cond.methodLink RL 199 yL_replaces ∈ GT := gt 1626 (by decide +kernel) (by decide +kernel)
theorem dL_isChanged_289 : decode cL_isChanged 289 = .ok (.invokestatic 199, 3) := by decide +kernel
theorem dL_isChanged_292 : decode cL_isChanged 292 = .ok (.aload_n 3, 1) := by decide +kernel
theorem dL_isChanged_293 : decode cL_isChanged 293 = .ok (.iload 5, 2) := by decide +kernel
theorem dL_isChanged_295 : decode cL_isChanged 295 = .ok (.dup2, 1) := by decide +kernel
theorem dL_isChanged_296 : decode cL_isChanged 296 = .ok (.iaload, 1) := by decide +kernel
theorem dL_isChanged_297 : decode cL_isChanged 297 = .ok (.iconst 1, 1) := by decide +kernel
theorem dL_isChanged_298 : decode cL_isChanged 298 = .ok (.iadd, 1) := by decide +kernel
theorem dL_isChanged_299 : decode cL_isChanged 299 = .ok (.iastore, 1) := by decide +kernel
theorem dL_isChanged_300 : decode cL_isChanged 300 = .ok (.aload_n 3, 1) := by decide +kernel
theorem dL_isChanged_301 : decode cL_isChanged 301 = .ok (.bipush 6, 2) := by decide +kernel
theorem dL_isChanged_303 : decode cL_isChanged 303 = .ok (.iload 4, 2) := by decide +kernel
theorem dL_isChanged_305 : decode cL_isChanged 305 = .ok (.iadd, 1) := by decide +kernel
theorem dL_isChanged_306 : decode cL_isChanged 306 = .ok (.dup2, 1) := by decide +kernel
theorem dL_isChanged_307 : decode cL_isChanged 307 = .ok (.iaload, 1) := by decide +kernel
theorem dL_isChanged_308 : decode cL_isChanged 308 = .ok (.iconst 1, 1) := by decide +kernel
theorem dL_isChanged_309 : decode cL_isChanged 309 = .ok (.iadd, 1) := by decide +kernel
theorem dL_isChanged_310 : decode cL_isChanged 310 = .ok (.iastore, 1) := by decide +kernel
theorem dL_isChanged_311 : decode cL_isChanged 311 = .ok (.aload_n 0, 1) := by decide +kernel
theorem dL_isChanged_312 : decode cL_isChanged 312 = .ok (.iconst 5, 1) := by decide +kernel
theorem dL_isChanged_313 : decode cL_isChanged 313 = .ok (.iload 4, 2) := by decide +kernel
theorem dL_isChanged_315 : decode cL_isChanged 315 = .ok (.iload 5, 2) := by decide +kernel
theorem dL_isChanged_317 : decode cL_isChanged 317 = .ok (.iload 9, 2) := by decide +kernel
theorem dL_isChanged_319 : decode cL_isChanged 319 = .ok (.iload 10, 2) := by decide +kernel
theorem dL_isChanged_321 : decode cL_isChanged 321 = .ok (.iload 11, 2) := by decide +kernel
theorem dL_isChanged_323 : decode cL_isChanged 323 = .ok (.iload 12, 2) := by decide +kernel
theorem dL_isChanged_325 : decode cL_isChanged 325 = .ok (.iload 13, 2) := by decide +kernel
theorem dL_isChanged_327 : decode cL_isChanged 327 = .ok (.invokestatic 185, 3) := by decide +kernel
theorem dL_isChanged_330 : decode cL_isChanged 330 = .ok (.iload 15, 2) := by decide +kernel
theorem dL_isChanged_332 : decode cL_isChanged 332 = .ok (.ifCond .ne 9, 3) := by decide +kernel
theorem dL_isChanged_341 : decode cL_isChanged 341 = .ok (.iload 16, 2) := by decide +kernel
theorem dL_isChanged_343 : decode cL_isChanged 343 = .ok (.ifCond .ne 9, 3) := by decide +kernel
theorem dL_isChanged_352 : decode cL_isChanged 352 = .ok (.iload 17, 2) := by decide +kernel
theorem dL_isChanged_354 : decode cL_isChanged 354 = .ok (.ifCond .eq 10, 3) := by decide +kernel
theorem dL_isChanged_364 : decode cL_isChanged 364 = .ok (.sipush (-1000), 3) := by decide +kernel
theorem dL_isChanged_357 : decode cL_isChanged 357 = .ok (.aload_n 3, 1) := by decide +kernel
theorem dL_isChanged_358 : decode cL_isChanged 358 = .ok (.iload 5, 2) := by decide +kernel
theorem dL_isChanged_360 : decode cL_isChanged 360 = .ok (.iaload, 1) := by decide +kernel
theorem dL_isChanged_361 : decode cL_isChanged 361 = .ok (.goto 6, 3) := by decide +kernel
theorem dL_isChanged_346 : decode cL_isChanged 346 = .ok (.sipush (-2000), 3) := by decide +kernel
theorem dL_isChanged_349 : decode cL_isChanged 349 = .ok (.goto 18, 3) := by decide +kernel
theorem dL_isChanged_335 : decode cL_isChanged 335 = .ok (.sipush (-3000), 3) := by decide +kernel
theorem dL_isChanged_338 : decode cL_isChanged 338 = .ok (.goto 29, 3) := by decide +kernel
theorem dL_isChanged_367 : decode cL_isChanged 367 = .ok (.if_icmp .ne 7, 3) := by decide +kernel
theorem dL_isChanged_374 : decode cL_isChanged 374 = .ok (.iconst 0, 1) := by decide +kernel
theorem dL_isChanged_375 : decode cL_isChanged 375 = .ok (.ireturn, 1) := by decide +kernel
theorem dL_isChanged_370 : decode cL_isChanged 370 = .ok (.iconst 1, 1) := by decide +kernel
theorem dL_isChanged_371 : decode cL_isChanged 371 = .ok (.goto 4, 3) := by decide +kernel
set_option maxHeartbeats 4000000 in
set_option maxRecDepth 100000 in
theorem w_L_isChanged_367 {p : Program} {l : Launch} {e : Env} {R : Room} {s : State} {m : MethodId} {args : Array Value} {below : List Frame} {meth : Method} {c : Code} {G : Gt} {ρ0 : Int → Nat} {M0 : Mo} {res : RS} (F : Fx p l R s m args meth c cL_isChanged 20 RL G M0 14 (some FieldType.boolean)) (hno : ∀ x ∈ c.exceptionTable.toList, False) (hnm : meth.name = yL_isChanged.name) (y0 y1 : Int) (M : Mo) (h : L_isChanged_367 y0 y1 M = some res) : J p l e R s m args below meth c 20 G ρ0 M0 1 res M 367 [] [(true, y1), (true, y0)] := by
  unfold L_isChanged_367 at h
  refine j_icmp_ne F 374 (by decide) dL_isChanged_367 h (fun h => ?_) (fun h => ?_)
  · skip
    refine j_iconst F dL_isChanged_374 ?_
    exact j_zret F (by decide) h dL_isChanged_375
  · skip
    refine j_iconst F dL_isChanged_370 ?_
    refine j_goto F 375 (by decide) dL_isChanged_371 ?_
    exact j_zret F (by decide) h dL_isChanged_375
set_option maxHeartbeats 4000000 in
set_option maxRecDepth 100000 in
theorem w_L_isChanged_311 {p : Program} {l : Launch} {e : Env} {R : Room} {s : State} {m : MethodId} {args : Array Value} {below : List Frame} {meth : Method} {c : Code} {G : Gt} {ρ0 : Int → Nat} {M0 : Mo} {res : RS} (F : Fx p l R s m args meth c cL_isChanged 20 RL G M0 14 (some FieldType.boolean)) (hno : ∀ x ∈ c.exceptionTable.toList, False) (hnm : meth.name = yL_isChanged.name) (x0 x3 x4 x5 x9 x10 x11 x12 x13 x15 x16 x17 : Int) (M : Mo) (h : L_isChanged_311 x0 x3 x4 x5 x9 x10 x11 x12 x13 x15 x16 x17 M = some res) : J p l e R s m args below meth c 20 G ρ0 M0 1 res M 311 [(0, (false, x0)), (3, (false, x3)), (4, (true, x4)), (5, (true, x5)), (9, (true, x9)), (10, (true, x10)), (11, (true, x11)), (12, (true, x12)), (13, (true, x13)), (15, (true, x15)), (16, (true, x16)), (17, (true, x17))] [] := by
  unfold L_isChanged_311 at h
  refine j_aload_n F 0 rfl rfl dL_isChanged_311 ?_
  refine j_iconst F dL_isChanged_312 ?_
  refine j_iload F 2 rfl dL_isChanged_313 ?_
  refine j_iload F 3 rfl dL_isChanged_315 ?_
  refine j_iload F 4 rfl dL_isChanged_317 ?_
  refine j_iload F 5 rfl dL_isChanged_319 ?_
  refine j_iload F 6 rfl dL_isChanged_321 ?_
  refine j_iload F 7 rfl dL_isChanged_323 ?_
  refine j_iload F 8 rfl dL_isChanged_325 ?_
  refine j_callX (d' := 13) (argl := [(false, x0), (true, 5), (true, x4), (true, x5), (true, x9), (true, x10), (true, x11), (true, x12), (true, x13)]) (rk9 := 1) (st := []) F hno M_L_does q611 q610 ⟨by decide, by decide⟩ (Nat.le_of_ble_eq_true rfl) (by decide) dL_isChanged_327 rfl h (fun z hz => c_L_does l F.ht G x0 5 x4 x5 x9 x10 x11 x12 x13 M z hz) (fun v1 M2 h kl3 => ?_)
  refine j_st (st' := [(true, v1)]) rfl ?_
  refine j_iload F 9 rfl dL_isChanged_330 ?_
  refine j_if_ne F 341 (by decide) dL_isChanged_332 h (fun h => ?_) (fun h => ?_)
  · skip
    refine j_iload F 10 rfl dL_isChanged_341 ?_
    refine j_if_ne F 352 (by decide) dL_isChanged_343 h (fun h => ?_) (fun h => ?_)
    · skip
      refine j_iload F 11 rfl dL_isChanged_352 ?_
      refine j_if_eq F 364 (by decide) dL_isChanged_354 h (fun h => ?_) (fun h => ?_)
      · skip
        refine j_sipush F (by decide) dL_isChanged_364 ?_
        refine j_sub (lv' := []) [] rfl ?_
        exact w_L_isChanged_367 F hno hnm v1 (-1000) M2 h
      · skip
        refine j_aload_n F 1 rfl rfl dL_isChanged_357 ?_
        refine j_iload F 3 rfl dL_isChanged_358 ?_
        obtain ⟨g4, h⟩ := gua h
        obtain ⟨g5, h⟩ := gua h
        refine j_iaload F g4 g5 dL_isChanged_360 ?_
        refine j_goto F 367 (by decide) dL_isChanged_361 ?_
        refine j_sub (lv' := []) [] rfl ?_
        exact w_L_isChanged_367 F hno hnm v1 (el M2 0 x3 (wr x5)) M2 h
    · skip
      refine j_sipush F (by decide) dL_isChanged_346 ?_
      refine j_goto F 367 (by decide) dL_isChanged_349 ?_
      refine j_sub (lv' := []) [] rfl ?_
      exact w_L_isChanged_367 F hno hnm v1 (-2000) M2 h
  · skip
    refine j_sipush F (by decide) dL_isChanged_335 ?_
    refine j_goto F 367 (by decide) dL_isChanged_338 ?_
    refine j_sub (lv' := []) [] rfl ?_
    exact w_L_isChanged_367 F hno hnm v1 (-3000) M2 h
set_option maxHeartbeats 4000000 in
set_option maxRecDepth 100000 in
theorem w_L_isChanged_276 {p : Program} {l : Launch} {e : Env} {R : Room} {s : State} {m : MethodId} {args : Array Value} {below : List Frame} {meth : Method} {c : Code} {G : Gt} {ρ0 : Int → Nat} {M0 : Mo} {res : RS} (F : Fx p l R s m args meth c cL_isChanged 20 RL G M0 14 (some FieldType.boolean)) (hno : ∀ x ∈ c.exceptionTable.toList, False) (hnm : meth.name = yL_isChanged.name) (x0 x3 x4 x5 x9 x10 x11 x12 x13 x14 x15 x16 x17 x18 x19 : Int) (M : Mo) (h : L_isChanged_276 x0 x3 x4 x5 x9 x10 x11 x12 x13 x14 x15 x16 x17 x18 x19 M = some res) : J p l e R s m args below meth c 20 G ρ0 M0 1 res M 276 [(0, (false, x0)), (3, (false, x3)), (4, (true, x4)), (5, (true, x5)), (9, (true, x9)), (10, (true, x10)), (11, (true, x11)), (12, (true, x12)), (13, (true, x13)), (14, (false, x14)), (15, (true, x15)), (16, (true, x16)), (17, (true, x17)), (18, (true, x18)), (19, (true, x19))] [] := by
  unfold L_isChanged_276 at h
  refine j_iload F 12 rfl dL_isChanged_276 ?_
  refine j_if_eq F 311 (by decide) dL_isChanged_278 h (fun h => ?_) (fun h => ?_)
  · skip
    refine j_sub (lv' := [(0, (false, x0)), (3, (false, x3)), (4, (true, x4)), (5, (true, x5)), (9, (true, x9)), (10, (true, x10)), (11, (true, x11)), (12, (true, x12)), (13, (true, x13)), (15, (true, x15)), (16, (true, x16)), (17, (true, x17))]) [0, 1, 2, 3, 4, 5, 6, 7, 8, 10, 11, 12] rfl ?_
    exact w_L_isChanged_311 F hno hnm x0 x3 x4 x5 x9 x10 x11 x12 x13 x15 x16 x17 M h
  · skip
    refine j_aload F 9 rfl dL_isChanged_281 ?_
    refine j_iload F 13 rfl dL_isChanged_283 ?_
    refine j_iload F 14 rfl dL_isChanged_285 ?_
    refine j_iload F 8 rfl dL_isChanged_287 ?_
    refine j_callS (d' := 1) (argl := [(false, x14), (true, x18), (true, x19), (true, x13)]) (rk9 := 0) (st := []) F hno M_L_replaces q1627 q1626 ⟨by decide, by decide⟩ (Nat.le_of_ble_eq_true rfl) (by decide) dL_isChanged_289 rfl h (fun z hz => c_L_replaces l F.ht G x14 x18 x19 x13 M z hz) (fun v1 M2 h kl3 => ?_)
    refine j_st (st' := []) rfl ?_
    refine j_aload_n F 1 rfl rfl dL_isChanged_292 ?_
    refine j_iload F 3 rfl dL_isChanged_293 ?_
    refine j_dup2 F dL_isChanged_295 ?_
    obtain ⟨g4, h⟩ := gua h
    obtain ⟨g5, h⟩ := gua h
    refine j_iaload F g4 g5 dL_isChanged_296 ?_
    refine j_iconst F dL_isChanged_297 ?_
    refine j_iadd F dL_isChanged_298 ?_
    obtain ⟨g6, h⟩ := gua h
    refine j_iastore F g4 g6 dL_isChanged_299 ?_
    obtain ⟨M7, hM7⟩ : ∃ Z, Z = sE M2 0 x3 (wr x5) ((el M2 0 x3 (wr x5)) + 1) := ⟨_, rfl⟩
    have kl8 : kle M2 M7 := by rw [hM7]; exact kle_sE
    rw [← hM7]
    replace h := pt_as h hM7
    refine j_aload_n F 1 rfl rfl dL_isChanged_300 ?_
    refine j_bipush F (by decide) dL_isChanged_301 ?_
    refine j_iload F 2 rfl dL_isChanged_303 ?_
    refine j_iadd F dL_isChanged_305 ?_
    refine j_dup2 F dL_isChanged_306 ?_
    obtain ⟨g9, h⟩ := gua h
    refine j_iaload F (kl8.is g4) g9 dL_isChanged_307 ?_
    refine j_iconst F dL_isChanged_308 ?_
    refine j_iadd F dL_isChanged_309 ?_
    obtain ⟨g10, h⟩ := gua h
    refine j_iastore F (kl8.is g4) g10 dL_isChanged_310 ?_
    obtain ⟨M11, hM11⟩ : ∃ Z, Z = sE M7 0 x3 (wr (6 + x4)) ((el M7 0 x3 (wr (6 + x4))) + 1) := ⟨_, rfl⟩
    have kl12 : kle M7 M11 := by rw [hM11]; exact kle_sE
    rw [← hM11]
    replace h := pt_as h hM11
    refine j_sub (lv' := [(0, (false, x0)), (3, (false, x3)), (4, (true, x4)), (5, (true, x5)), (9, (true, x9)), (10, (true, x10)), (11, (true, x11)), (12, (true, x12)), (13, (true, x13)), (15, (true, x15)), (16, (true, x16)), (17, (true, x17))]) [0, 1, 2, 3, 4, 5, 6, 7, 8, 10, 11, 12] rfl ?_
    exact w_L_isChanged_311 F hno hnm x0 x3 x4 x5 x9 x10 x11 x12 x13 x15 x16 x17 M11 h
set_option maxHeartbeats 4000000 in
set_option maxRecDepth 100000 in
theorem w_L_isChanged_226 {p : Program} {l : Launch} {e : Env} {R : Room} {s : State} {m : MethodId} {args : Array Value} {below : List Frame} {meth : Method} {c : Code} {G : Gt} {ρ0 : Int → Nat} {M0 : Mo} {res : RS} (F : Fx p l R s m args meth c cL_isChanged 20 RL G M0 14 (some FieldType.boolean)) (hno : ∀ x ∈ c.exceptionTable.toList, False) (hnm : meth.name = yL_isChanged.name) (x0 x3 x4 x5 x9 x10 x11 x12 x13 x14 x15 x16 x18 x19 y0 : Int) (M : Mo) (h : L_isChanged_226 x0 x3 x4 x5 x9 x10 x11 x12 x13 x14 x15 x16 x18 x19 y0 M = some res) : J p l e R s m args below meth c 20 G ρ0 M0 1 res M 226 [(0, (false, x0)), (3, (false, x3)), (4, (true, x4)), (5, (true, x5)), (9, (true, x9)), (10, (true, x10)), (11, (true, x11)), (12, (true, x12)), (13, (true, x13)), (14, (false, x14)), (15, (true, x15)), (16, (true, x16)), (18, (true, x18)), (19, (true, x19))] [(true, y0)] := by
  unfold L_isChanged_226 at h
  refine j_istore F (lv' := [(17, (true, y0)), (0, (false, x0)), (3, (false, x3)), (4, (true, x4)), (5, (true, x5)), (9, (true, x9)), (10, (true, x10)), (11, (true, x11)), (12, (true, x12)), (13, (true, x13)), (14, (false, x14)), (15, (true, x15)), (16, (true, x16)), (18, (true, x18)), (19, (true, x19))]) (by decide) rfl dL_isChanged_226 ?_
  refine j_iload F 0 rfl dL_isChanged_228 ?_
  refine j_if_eq F 276 (by decide) dL_isChanged_230 h (fun h => ?_) (fun h => ?_)
  · skip
    refine j_sub (lv' := [(0, (false, x0)), (3, (false, x3)), (4, (true, x4)), (5, (true, x5)), (9, (true, x9)), (10, (true, x10)), (11, (true, x11)), (12, (true, x12)), (13, (true, x13)), (14, (false, x14)), (15, (true, x15)), (16, (true, x16)), (17, (true, y0)), (18, (true, x18)), (19, (true, x19))]) [1, 2, 3, 4, 5, 6, 7, 8, 9, 10, 11, 12, 0, 13, 14] rfl ?_
    exact w_L_isChanged_276 F hno hnm x0 x3 x4 x5 x9 x10 x11 x12 x13 x14 x15 x16 y0 x18 x19 M h
  · skip
    refine j_aload F 10 rfl dL_isChanged_233 ?_
    refine j_bipush F (by decide) dL_isChanged_235 ?_
    obtain ⟨g1, h⟩ := gua h
    obtain ⟨g2, h⟩ := gua h
    refine j_iaload F g1 g2 dL_isChanged_237 ?_
    refine j_iload F 14 rfl dL_isChanged_238 ?_
    refine j_isub F dL_isChanged_240 ?_
    refine j_iload F 13 rfl dL_isChanged_241 ?_
    refine j_iadd F dL_isChanged_243 ?_
    refine j_iload F 9 rfl dL_isChanged_244 ?_
    refine j_callS (d' := 0) (argl := [(true, x13)]) (rk9 := 1) (st := [(true, (((el M 0 x14 (wr 63)) - x19) + x18))]) F hno M_L_units q1624 q1623 ⟨by decide, by decide⟩ (Nat.le_of_ble_eq_true rfl) (by decide) dL_isChanged_246 rfl h (fun z hz => c_L_units l F.ht G x13 M z hz) (fun v3 M4 h kl5 => ?_)
    refine j_st (st' := [(true, v3), (true, (((el M 0 x14 (wr 63)) - x19) + x18))]) rfl ?_
    refine j_iadd F dL_isChanged_249 ?_
    refine j_bipush F (by decide) dL_isChanged_250 ?_
    refine j_icmp_le F 276 (by decide) dL_isChanged_252 h (fun h => ?_) (fun h => ?_)
    · skip
      refine j_sub (lv' := [(0, (false, x0)), (3, (false, x3)), (4, (true, x4)), (5, (true, x5)), (9, (true, x9)), (10, (true, x10)), (11, (true, x11)), (12, (true, x12)), (13, (true, x13)), (14, (false, x14)), (15, (true, x15)), (16, (true, x16)), (17, (true, y0)), (18, (true, x18)), (19, (true, x19))]) [1, 2, 3, 4, 5, 6, 7, 8, 9, 10, 11, 12, 0, 13, 14] rfl ?_
      exact w_L_isChanged_276 F hno hnm x0 x3 x4 x5 x9 x10 x11 x12 x13 x14 x15 x16 y0 x18 x19 M4 h
    · skip
      refine j_aload_n F 1 rfl rfl dL_isChanged_255 ?_
      refine j_iload F 3 rfl dL_isChanged_256 ?_
      refine j_iload F 4 rfl dL_isChanged_258 ?_
      obtain ⟨g9, h⟩ := gua h
      refine j_callV (d' := 8) (argl := [(true, x4), (true, x5)]) (rk9 := 1) (st := []) F hno M_X11_version q1527 q1528 q1526 ⟨by decide, by decide⟩ (Nat.le_of_ble_eq_true rfl) (by decide) (ci := 12) rfl (by decide) g9 dL_isChanged_260 rfl h (fun z hz => c_X11_version l F.ht G x0 x4 x5 M4 z hz) (fun v6 M7 h kl8 => ?_)
      refine j_st (st' := [(true, v6)]) rfl ?_
      refine j_aload_n F 2 rfl rfl dL_isChanged_263 ?_
      refine j_iload F 4 rfl dL_isChanged_264 ?_
      obtain ⟨g10, h⟩ := gua h
      obtain ⟨g11, h⟩ := gua h
      refine j_iaload F g10 g11 dL_isChanged_266 ?_
      refine j_icmp_ne F 274 (by decide) dL_isChanged_267 h (fun h => ?_) (fun h => ?_)
      · skip
        refine j_iconst F dL_isChanged_274 ?_
        exact j_zret F (by decide) h dL_isChanged_275
      · skip
        refine j_iconst F dL_isChanged_270 ?_
        refine j_goto F 275 (by decide) dL_isChanged_271 ?_
        exact j_zret F (by decide) h dL_isChanged_275
set_option maxHeartbeats 4000000 in
set_option maxRecDepth 100000 in
theorem w_L_isChanged_225 {p : Program} {l : Launch} {e : Env} {R : Room} {s : State} {m : MethodId} {args : Array Value} {below : List Frame} {meth : Method} {c : Code} {G : Gt} {ρ0 : Int → Nat} {M0 : Mo} {res : RS} (F : Fx p l R s m args meth c cL_isChanged 20 RL G M0 14 (some FieldType.boolean)) (hno : ∀ x ∈ c.exceptionTable.toList, False) (hnm : meth.name = yL_isChanged.name) (x0 x3 x4 x5 x9 x10 x11 x12 x13 x14 x15 x16 x18 x19 : Int) (M : Mo) (h : L_isChanged_225 x0 x3 x4 x5 x9 x10 x11 x12 x13 x14 x15 x16 x18 x19 M = some res) : J p l e R s m args below meth c 20 G ρ0 M0 1 res M 225 [(0, (false, x0)), (3, (false, x3)), (4, (true, x4)), (5, (true, x5)), (9, (true, x9)), (10, (true, x10)), (11, (true, x11)), (12, (true, x12)), (13, (true, x13)), (14, (false, x14)), (15, (true, x15)), (16, (true, x16)), (18, (true, x18)), (19, (true, x19))] [] := by
  unfold L_isChanged_225 at h
  refine j_iconst F dL_isChanged_225 ?_
  refine j_sub (lv' := [(0, (false, x0)), (3, (false, x3)), (4, (true, x4)), (5, (true, x5)), (9, (true, x9)), (10, (true, x10)), (11, (true, x11)), (12, (true, x12)), (13, (true, x13)), (14, (false, x14)), (15, (true, x15)), (16, (true, x16)), (18, (true, x18)), (19, (true, x19))]) [0, 1, 2, 3, 4, 5, 6, 7, 8, 9, 10, 11, 12, 13] rfl ?_
  exact w_L_isChanged_226 F hno hnm x0 x3 x4 x5 x9 x10 x11 x12 x13 x14 x15 x16 x18 x19 0 M h
set_option maxHeartbeats 4000000 in
set_option maxRecDepth 100000 in
theorem w_L_isChanged_207 {p : Program} {l : Launch} {e : Env} {R : Room} {s : State} {m : MethodId} {args : Array Value} {below : List Frame} {meth : Method} {c : Code} {G : Gt} {ρ0 : Int → Nat} {M0 : Mo} {res : RS} (F : Fx p l R s m args meth c cL_isChanged 20 RL G M0 14 (some FieldType.boolean)) (hno : ∀ x ∈ c.exceptionTable.toList, False) (hnm : meth.name = yL_isChanged.name) (x0 x3 x4 x5 x9 x10 x11 x12 x13 x14 x15 x16 x17 x18 y0 : Int) (M : Mo) (h : L_isChanged_207 x0 x3 x4 x5 x9 x10 x11 x12 x13 x14 x15 x16 x17 x18 y0 M = some res) : J p l e R s m args below meth c 20 G ρ0 M0 1 res M 207 [(0, (false, x0)), (3, (false, x3)), (4, (true, x4)), (5, (true, x5)), (9, (true, x9)), (10, (true, x10)), (11, (true, x11)), (12, (true, x12)), (13, (true, x13)), (14, (false, x14)), (15, (true, x15)), (16, (true, x16)), (17, (true, x17)), (18, (true, x18))] [(true, y0)] := by
  unfold L_isChanged_207 at h
  refine j_istore F (lv' := [(19, (true, y0)), (0, (false, x0)), (3, (false, x3)), (4, (true, x4)), (5, (true, x5)), (9, (true, x9)), (10, (true, x10)), (11, (true, x11)), (12, (true, x12)), (13, (true, x13)), (14, (false, x14)), (15, (true, x15)), (16, (true, x16)), (17, (true, x17)), (18, (true, x18))]) (by decide) rfl dL_isChanged_207 ?_
  refine j_iload F 13 rfl dL_isChanged_209 ?_
  refine j_if_eq F 225 (by decide) dL_isChanged_211 h (fun h => ?_) (fun h => ?_)
  · skip
    refine j_sub (lv' := [(0, (false, x0)), (3, (false, x3)), (4, (true, x4)), (5, (true, x5)), (9, (true, x9)), (10, (true, x10)), (11, (true, x11)), (12, (true, x12)), (13, (true, x13)), (14, (false, x14)), (15, (true, x15)), (16, (true, x16)), (18, (true, x18)), (19, (true, y0))]) [1, 2, 3, 4, 5, 6, 7, 8, 9, 10, 11, 12, 14, 0] rfl ?_
    exact w_L_isChanged_225 F hno hnm x0 x3 x4 x5 x9 x10 x11 x12 x13 x14 x15 x16 x18 y0 M h
  · skip
    refine j_iload F 0 rfl dL_isChanged_214 ?_
    refine j_iload F 14 rfl dL_isChanged_216 ?_
    refine j_icmp_lt F 225 (by decide) dL_isChanged_218 h (fun h => ?_) (fun h => ?_)
    · skip
      refine j_sub (lv' := [(0, (false, x0)), (3, (false, x3)), (4, (true, x4)), (5, (true, x5)), (9, (true, x9)), (10, (true, x10)), (11, (true, x11)), (12, (true, x12)), (13, (true, x13)), (14, (false, x14)), (15, (true, x15)), (16, (true, x16)), (18, (true, x18)), (19, (true, y0))]) [1, 2, 3, 4, 5, 6, 7, 8, 9, 10, 11, 12, 14, 0] rfl ?_
      exact w_L_isChanged_225 F hno hnm x0 x3 x4 x5 x9 x10 x11 x12 x13 x14 x15 x16 x18 y0 M h
    · skip
      refine j_iconst F dL_isChanged_221 ?_
      refine j_goto F 226 (by decide) dL_isChanged_222 ?_
      refine j_sub (lv' := [(0, (false, x0)), (3, (false, x3)), (4, (true, x4)), (5, (true, x5)), (9, (true, x9)), (10, (true, x10)), (11, (true, x11)), (12, (true, x12)), (13, (true, x13)), (14, (false, x14)), (15, (true, x15)), (16, (true, x16)), (18, (true, x18)), (19, (true, y0))]) [1, 2, 3, 4, 5, 6, 7, 8, 9, 10, 11, 12, 14, 0] rfl ?_
      exact w_L_isChanged_226 F hno hnm x0 x3 x4 x5 x9 x10 x11 x12 x13 x14 x15 x16 x18 y0 1 M h
set_option maxHeartbeats 4000000 in
set_option maxRecDepth 100000 in
theorem w_L_isChanged_187 {p : Program} {l : Launch} {e : Env} {R : Room} {s : State} {m : MethodId} {args : Array Value} {below : List Frame} {meth : Method} {c : Code} {G : Gt} {ρ0 : Int → Nat} {M0 : Mo} {res : RS} (F : Fx p l R s m args meth c cL_isChanged 20 RL G M0 14 (some FieldType.boolean)) (hno : ∀ x ∈ c.exceptionTable.toList, False) (hnm : meth.name = yL_isChanged.name) (x0 x3 x4 x5 x9 x10 x11 x12 x13 x14 x15 x16 x17 y0 : Int) (M : Mo) (h : L_isChanged_187 x0 x3 x4 x5 x9 x10 x11 x12 x13 x14 x15 x16 x17 y0 M = some res) : J p l e R s m args below meth c 20 G ρ0 M0 1 res M 187 [(0, (false, x0)), (3, (false, x3)), (4, (true, x4)), (5, (true, x5)), (9, (true, x9)), (10, (true, x10)), (11, (true, x11)), (12, (true, x12)), (13, (true, x13)), (14, (false, x14)), (15, (true, x15)), (16, (true, x16)), (17, (true, x17))] [(true, y0)] := by
  unfold L_isChanged_187 at h
  refine j_istore F (lv' := [(18, (true, y0)), (0, (false, x0)), (3, (false, x3)), (4, (true, x4)), (5, (true, x5)), (9, (true, x9)), (10, (true, x10)), (11, (true, x11)), (12, (true, x12)), (13, (true, x13)), (14, (false, x14)), (15, (true, x15)), (16, (true, x16)), (17, (true, x17))]) (by decide) rfl dL_isChanged_187 ?_
  refine j_iload F 13 rfl dL_isChanged_189 ?_
  refine j_if_eq F 206 (by decide) dL_isChanged_191 h (fun h => ?_) (fun h => ?_)
  · skip
    refine j_iconst F dL_isChanged_206 ?_
    refine j_sub (lv' := [(0, (false, x0)), (3, (false, x3)), (4, (true, x4)), (5, (true, x5)), (9, (true, x9)), (10, (true, x10)), (11, (true, x11)), (12, (true, x12)), (13, (true, x13)), (14, (false, x14)), (15, (true, x15)), (16, (true, x16)), (17, (true, x17)), (18, (true, y0))]) [1, 2, 3, 4, 5, 6, 7, 8, 9, 10, 11, 12, 13, 0] rfl ?_
    exact w_L_isChanged_207 F hno hnm x0 x3 x4 x5 x9 x10 x11 x12 x13 x14 x15 x16 x17 y0 0 M h
  · skip
    refine j_aload F 10 rfl dL_isChanged_194 ?_
    refine j_iload F 7 rfl dL_isChanged_196 ?_
    refine j_iload F 8 rfl dL_isChanged_198 ?_
    refine j_callS (d' := 0) (argl := [(false, x14), (true, x11), (true, x12)]) (rk9 := 1) (st := []) F hno M_L_place q1635 q1634 ⟨by decide, by decide⟩ (Nat.le_of_ble_eq_true rfl) (by decide) dL_isChanged_200 rfl h (fun z hz => c_L_place l F.ht G x14 x11 x12 M z hz) (fun v1 M2 h kl3 => ?_)
    refine j_st (st' := [(true, v1)]) rfl ?_
    refine j_goto F 207 (by decide) dL_isChanged_203 ?_
    refine j_sub (lv' := [(0, (false, x0)), (3, (false, x3)), (4, (true, x4)), (5, (true, x5)), (9, (true, x9)), (10, (true, x10)), (11, (true, x11)), (12, (true, x12)), (13, (true, x13)), (14, (false, x14)), (15, (true, x15)), (16, (true, x16)), (17, (true, x17)), (18, (true, y0))]) [1, 2, 3, 4, 5, 6, 7, 8, 9, 10, 11, 12, 13, 0] rfl ?_
    exact w_L_isChanged_207 F hno hnm x0 x3 x4 x5 x9 x10 x11 x12 x13 x14 x15 x16 x17 y0 v1 M2 h
set_option maxHeartbeats 4000000 in
set_option maxRecDepth 100000 in
theorem w_L_isChanged_167 {p : Program} {l : Launch} {e : Env} {R : Room} {s : State} {m : MethodId} {args : Array Value} {below : List Frame} {meth : Method} {c : Code} {G : Gt} {ρ0 : Int → Nat} {M0 : Mo} {res : RS} (F : Fx p l R s m args meth c cL_isChanged 20 RL G M0 14 (some FieldType.boolean)) (hno : ∀ x ∈ c.exceptionTable.toList, False) (hnm : meth.name = yL_isChanged.name) (x0 x3 x4 x5 x9 x10 x11 x12 x13 x14 x15 x16 y0 : Int) (M : Mo) (h : L_isChanged_167 x0 x3 x4 x5 x9 x10 x11 x12 x13 x14 x15 x16 y0 M = some res) : J p l e R s m args below meth c 20 G ρ0 M0 1 res M 167 [(0, (false, x0)), (3, (false, x3)), (4, (true, x4)), (5, (true, x5)), (9, (true, x9)), (10, (true, x10)), (11, (true, x11)), (12, (true, x12)), (13, (true, x13)), (14, (false, x14)), (15, (true, x15)), (16, (true, x16))] [(true, y0)] := by
  unfold L_isChanged_167 at h
  refine j_istore F (lv' := [(17, (true, y0)), (0, (false, x0)), (3, (false, x3)), (4, (true, x4)), (5, (true, x5)), (9, (true, x9)), (10, (true, x10)), (11, (true, x11)), (12, (true, x12)), (13, (true, x13)), (14, (false, x14)), (15, (true, x15)), (16, (true, x16))]) (by decide) rfl dL_isChanged_167 ?_
  refine j_iload F 0 rfl dL_isChanged_169 ?_
  refine j_if_eq F 186 (by decide) dL_isChanged_171 h (fun h => ?_) (fun h => ?_)
  · skip
    refine j_iconst F dL_isChanged_186 ?_
    refine j_sub (lv' := [(0, (false, x0)), (3, (false, x3)), (4, (true, x4)), (5, (true, x5)), (9, (true, x9)), (10, (true, x10)), (11, (true, x11)), (12, (true, x12)), (13, (true, x13)), (14, (false, x14)), (15, (true, x15)), (16, (true, x16)), (17, (true, y0))]) [1, 2, 3, 4, 5, 6, 7, 8, 9, 10, 11, 12, 0] rfl ?_
    exact w_L_isChanged_187 F hno hnm x0 x3 x4 x5 x9 x10 x11 x12 x13 x14 x15 x16 y0 0 M h
  · skip
    refine j_aload F 10 rfl dL_isChanged_174 ?_
    refine j_iload F 5 rfl dL_isChanged_176 ?_
    refine j_iload F 6 rfl dL_isChanged_178 ?_
    refine j_callS (d' := 0) (argl := [(false, x14), (true, x9), (true, x10)]) (rk9 := 1) (st := []) F hno M_L_place q1635 q1634 ⟨by decide, by decide⟩ (Nat.le_of_ble_eq_true rfl) (by decide) dL_isChanged_180 rfl h (fun z hz => c_L_place l F.ht G x14 x9 x10 M z hz) (fun v1 M2 h kl3 => ?_)
    refine j_st (st' := [(true, v1)]) rfl ?_
    refine j_goto F 187 (by decide) dL_isChanged_183 ?_
    refine j_sub (lv' := [(0, (false, x0)), (3, (false, x3)), (4, (true, x4)), (5, (true, x5)), (9, (true, x9)), (10, (true, x10)), (11, (true, x11)), (12, (true, x12)), (13, (true, x13)), (14, (false, x14)), (15, (true, x15)), (16, (true, x16)), (17, (true, y0))]) [1, 2, 3, 4, 5, 6, 7, 8, 9, 10, 11, 12, 0] rfl ?_
    exact w_L_isChanged_187 F hno hnm x0 x3 x4 x5 x9 x10 x11 x12 x13 x14 x15 x16 y0 v1 M2 h
set_option maxHeartbeats 4000000 in
set_option maxRecDepth 100000 in
theorem w_L_isChanged_166 {p : Program} {l : Launch} {e : Env} {R : Room} {s : State} {m : MethodId} {args : Array Value} {below : List Frame} {meth : Method} {c : Code} {G : Gt} {ρ0 : Int → Nat} {M0 : Mo} {res : RS} (F : Fx p l R s m args meth c cL_isChanged 20 RL G M0 14 (some FieldType.boolean)) (hno : ∀ x ∈ c.exceptionTable.toList, False) (hnm : meth.name = yL_isChanged.name) (x0 x3 x4 x5 x9 x10 x11 x12 x13 x14 x15 x16 : Int) (M : Mo) (h : L_isChanged_166 x0 x3 x4 x5 x9 x10 x11 x12 x13 x14 x15 x16 M = some res) : J p l e R s m args below meth c 20 G ρ0 M0 1 res M 166 [(0, (false, x0)), (3, (false, x3)), (4, (true, x4)), (5, (true, x5)), (9, (true, x9)), (10, (true, x10)), (11, (true, x11)), (12, (true, x12)), (13, (true, x13)), (14, (false, x14)), (15, (true, x15)), (16, (true, x16))] [] := by
  unfold L_isChanged_166 at h
  refine j_iconst F dL_isChanged_166 ?_
  refine j_sub (lv' := [(0, (false, x0)), (3, (false, x3)), (4, (true, x4)), (5, (true, x5)), (9, (true, x9)), (10, (true, x10)), (11, (true, x11)), (12, (true, x12)), (13, (true, x13)), (14, (false, x14)), (15, (true, x15)), (16, (true, x16))]) [0, 1, 2, 3, 4, 5, 6, 7, 8, 9, 10, 11] rfl ?_
  exact w_L_isChanged_167 F hno hnm x0 x3 x4 x5 x9 x10 x11 x12 x13 x14 x15 x16 0 M h
set_option maxHeartbeats 4000000 in
set_option maxRecDepth 100000 in
theorem w_L_isChanged_139 {p : Program} {l : Launch} {e : Env} {R : Room} {s : State} {m : MethodId} {args : Array Value} {below : List Frame} {meth : Method} {c : Code} {G : Gt} {ρ0 : Int → Nat} {M0 : Mo} {res : RS} (F : Fx p l R s m args meth c cL_isChanged 20 RL G M0 14 (some FieldType.boolean)) (hno : ∀ x ∈ c.exceptionTable.toList, False) (hnm : meth.name = yL_isChanged.name) (x0 x3 x4 x5 x9 x10 x11 x12 x13 x14 x15 y0 : Int) (M : Mo) (h : L_isChanged_139 x0 x3 x4 x5 x9 x10 x11 x12 x13 x14 x15 y0 M = some res) : J p l e R s m args below meth c 20 G ρ0 M0 1 res M 139 [(0, (false, x0)), (3, (false, x3)), (4, (true, x4)), (5, (true, x5)), (9, (true, x9)), (10, (true, x10)), (11, (true, x11)), (12, (true, x12)), (13, (true, x13)), (14, (false, x14)), (15, (true, x15))] [(true, y0)] := by
  unfold L_isChanged_139 at h
  refine j_istore F (lv' := [(16, (true, y0)), (0, (false, x0)), (3, (false, x3)), (4, (true, x4)), (5, (true, x5)), (9, (true, x9)), (10, (true, x10)), (11, (true, x11)), (12, (true, x12)), (13, (true, x13)), (14, (false, x14)), (15, (true, x15))]) (by decide) rfl dL_isChanged_139 ?_
  refine j_iload F 11 rfl dL_isChanged_141 ?_
  refine j_if_eq F 166 (by decide) dL_isChanged_143 h (fun h => ?_) (fun h => ?_)
  · skip
    refine j_sub (lv' := [(0, (false, x0)), (3, (false, x3)), (4, (true, x4)), (5, (true, x5)), (9, (true, x9)), (10, (true, x10)), (11, (true, x11)), (12, (true, x12)), (13, (true, x13)), (14, (false, x14)), (15, (true, x15)), (16, (true, y0))]) [1, 2, 3, 4, 5, 6, 7, 8, 9, 10, 11, 0] rfl ?_
    exact w_L_isChanged_166 F hno hnm x0 x3 x4 x5 x9 x10 x11 x12 x13 x14 x15 y0 M h
  · skip
    refine j_iload F 0 rfl dL_isChanged_146 ?_
    refine j_if_eq F 166 (by decide) dL_isChanged_148 h (fun h => ?_) (fun h => ?_)
    · skip
      refine j_sub (lv' := [(0, (false, x0)), (3, (false, x3)), (4, (true, x4)), (5, (true, x5)), (9, (true, x9)), (10, (true, x10)), (11, (true, x11)), (12, (true, x12)), (13, (true, x13)), (14, (false, x14)), (15, (true, x15)), (16, (true, y0))]) [1, 2, 3, 4, 5, 6, 7, 8, 9, 10, 11, 0] rfl ?_
      exact w_L_isChanged_166 F hno hnm x0 x3 x4 x5 x9 x10 x11 x12 x13 x14 x15 y0 M h
    · skip
      refine j_aload_n F 2 rfl rfl dL_isChanged_151 ?_
      refine j_iconst F dL_isChanged_152 ?_
      refine j_iload F 4 rfl dL_isChanged_153 ?_
      refine j_iadd F dL_isChanged_155 ?_
      obtain ⟨g1, h⟩ := gua h
      obtain ⟨g2, h⟩ := gua h
      refine j_iaload F g1 g2 dL_isChanged_156 ?_
      refine j_iload F 3 rfl dL_isChanged_157 ?_
      refine j_icmp_ne F 166 (by decide) dL_isChanged_159 h (fun h => ?_) (fun h => ?_)
      · skip
        refine j_sub (lv' := [(0, (false, x0)), (3, (false, x3)), (4, (true, x4)), (5, (true, x5)), (9, (true, x9)), (10, (true, x10)), (11, (true, x11)), (12, (true, x12)), (13, (true, x13)), (14, (false, x14)), (15, (true, x15)), (16, (true, y0))]) [1, 2, 3, 4, 5, 6, 7, 8, 9, 10, 11, 0] rfl ?_
        exact w_L_isChanged_166 F hno hnm x0 x3 x4 x5 x9 x10 x11 x12 x13 x14 x15 y0 M h
      · skip
        refine j_iconst F dL_isChanged_162 ?_
        refine j_goto F 167 (by decide) dL_isChanged_163 ?_
        refine j_sub (lv' := [(0, (false, x0)), (3, (false, x3)), (4, (true, x4)), (5, (true, x5)), (9, (true, x9)), (10, (true, x10)), (11, (true, x11)), (12, (true, x12)), (13, (true, x13)), (14, (false, x14)), (15, (true, x15)), (16, (true, y0))]) [1, 2, 3, 4, 5, 6, 7, 8, 9, 10, 11, 0] rfl ?_
        exact w_L_isChanged_167 F hno hnm x0 x3 x4 x5 x9 x10 x11 x12 x13 x14 x15 y0 1 M h
set_option maxHeartbeats 4000000 in
set_option maxRecDepth 100000 in
theorem w_L_isChanged_138 {p : Program} {l : Launch} {e : Env} {R : Room} {s : State} {m : MethodId} {args : Array Value} {below : List Frame} {meth : Method} {c : Code} {G : Gt} {ρ0 : Int → Nat} {M0 : Mo} {res : RS} (F : Fx p l R s m args meth c cL_isChanged 20 RL G M0 14 (some FieldType.boolean)) (hno : ∀ x ∈ c.exceptionTable.toList, False) (hnm : meth.name = yL_isChanged.name) (x0 x3 x4 x5 x9 x10 x11 x12 x13 x14 x15 : Int) (M : Mo) (h : L_isChanged_138 x0 x3 x4 x5 x9 x10 x11 x12 x13 x14 x15 M = some res) : J p l e R s m args below meth c 20 G ρ0 M0 1 res M 138 [(0, (false, x0)), (3, (false, x3)), (4, (true, x4)), (5, (true, x5)), (9, (true, x9)), (10, (true, x10)), (11, (true, x11)), (12, (true, x12)), (13, (true, x13)), (14, (false, x14)), (15, (true, x15))] [] := by
  unfold L_isChanged_138 at h
  refine j_iconst F dL_isChanged_138 ?_
  refine j_sub (lv' := [(0, (false, x0)), (3, (false, x3)), (4, (true, x4)), (5, (true, x5)), (9, (true, x9)), (10, (true, x10)), (11, (true, x11)), (12, (true, x12)), (13, (true, x13)), (14, (false, x14)), (15, (true, x15))]) [0, 1, 2, 3, 4, 5, 6, 7, 8, 9, 10] rfl ?_
  exact w_L_isChanged_139 F hno hnm x0 x3 x4 x5 x9 x10 x11 x12 x13 x14 x15 0 M h
set_option maxHeartbeats 4000000 in
set_option maxRecDepth 100000 in
theorem w_L_isChanged_117 {p : Program} {l : Launch} {e : Env} {R : Room} {s : State} {m : MethodId} {args : Array Value} {below : List Frame} {meth : Method} {c : Code} {G : Gt} {ρ0 : Int → Nat} {M0 : Mo} {res : RS} (F : Fx p l R s m args meth c cL_isChanged 20 RL G M0 14 (some FieldType.boolean)) (hno : ∀ x ∈ c.exceptionTable.toList, False) (hnm : meth.name = yL_isChanged.name) (x0 x3 x4 x5 x9 x10 x11 x12 x13 x14 y0 : Int) (M : Mo) (h : L_isChanged_117 x0 x3 x4 x5 x9 x10 x11 x12 x13 x14 y0 M = some res) : J p l e R s m args below meth c 20 G ρ0 M0 1 res M 117 [(0, (false, x0)), (3, (false, x3)), (4, (true, x4)), (5, (true, x5)), (9, (true, x9)), (10, (true, x10)), (11, (true, x11)), (12, (true, x12)), (13, (true, x13)), (14, (false, x14))] [(true, y0)] := by
  unfold L_isChanged_117 at h
  refine j_istore F (lv' := [(15, (true, y0)), (0, (false, x0)), (3, (false, x3)), (4, (true, x4)), (5, (true, x5)), (9, (true, x9)), (10, (true, x10)), (11, (true, x11)), (12, (true, x12)), (13, (true, x13)), (14, (false, x14))]) (by decide) rfl dL_isChanged_117 ?_
  refine j_iload F 6 rfl dL_isChanged_119 ?_
  refine j_sipush F (by decide) dL_isChanged_121 ?_
  refine j_icmp_ge F 138 (by decide) dL_isChanged_124 h (fun h => ?_) (fun h => ?_)
  · skip
    refine j_sub (lv' := [(0, (false, x0)), (3, (false, x3)), (4, (true, x4)), (5, (true, x5)), (9, (true, x9)), (10, (true, x10)), (11, (true, x11)), (12, (true, x12)), (13, (true, x13)), (14, (false, x14)), (15, (true, y0))]) [1, 2, 3, 4, 5, 6, 7, 8, 9, 10, 0] rfl ?_
    exact w_L_isChanged_138 F hno hnm x0 x3 x4 x5 x9 x10 x11 x12 x13 x14 y0 M h
  · skip
    refine j_iload F 9 rfl dL_isChanged_127 ?_
    refine j_bipush F (by decide) dL_isChanged_129 ?_
    refine j_icmp_eq F 138 (by decide) dL_isChanged_131 h (fun h => ?_) (fun h => ?_)
    · skip
      refine j_sub (lv' := [(0, (false, x0)), (3, (false, x3)), (4, (true, x4)), (5, (true, x5)), (9, (true, x9)), (10, (true, x10)), (11, (true, x11)), (12, (true, x12)), (13, (true, x13)), (14, (false, x14)), (15, (true, y0))]) [1, 2, 3, 4, 5, 6, 7, 8, 9, 10, 0] rfl ?_
      exact w_L_isChanged_138 F hno hnm x0 x3 x4 x5 x9 x10 x11 x12 x13 x14 y0 M h
    · skip
      refine j_iconst F dL_isChanged_134 ?_
      refine j_goto F 139 (by decide) dL_isChanged_135 ?_
      refine j_sub (lv' := [(0, (false, x0)), (3, (false, x3)), (4, (true, x4)), (5, (true, x5)), (9, (true, x9)), (10, (true, x10)), (11, (true, x11)), (12, (true, x12)), (13, (true, x13)), (14, (false, x14)), (15, (true, y0))]) [1, 2, 3, 4, 5, 6, 7, 8, 9, 10, 0] rfl ?_
      exact w_L_isChanged_139 F hno hnm x0 x3 x4 x5 x9 x10 x11 x12 x13 x14 y0 1 M h
set_option maxHeartbeats 4000000 in
set_option maxRecDepth 100000 in
theorem w_L_isChanged_116 {p : Program} {l : Launch} {e : Env} {R : Room} {s : State} {m : MethodId} {args : Array Value} {below : List Frame} {meth : Method} {c : Code} {G : Gt} {ρ0 : Int → Nat} {M0 : Mo} {res : RS} (F : Fx p l R s m args meth c cL_isChanged 20 RL G M0 14 (some FieldType.boolean)) (hno : ∀ x ∈ c.exceptionTable.toList, False) (hnm : meth.name = yL_isChanged.name) (x0 x3 x4 x5 x9 x10 x11 x12 x13 x14 : Int) (M : Mo) (h : L_isChanged_116 x0 x3 x4 x5 x9 x10 x11 x12 x13 x14 M = some res) : J p l e R s m args below meth c 20 G ρ0 M0 1 res M 116 [(0, (false, x0)), (3, (false, x3)), (4, (true, x4)), (5, (true, x5)), (9, (true, x9)), (10, (true, x10)), (11, (true, x11)), (12, (true, x12)), (13, (true, x13)), (14, (false, x14))] [] := by
  unfold L_isChanged_116 at h
  refine j_iconst F dL_isChanged_116 ?_
  refine j_sub (lv' := [(0, (false, x0)), (3, (false, x3)), (4, (true, x4)), (5, (true, x5)), (9, (true, x9)), (10, (true, x10)), (11, (true, x11)), (12, (true, x12)), (13, (true, x13)), (14, (false, x14))]) [0, 1, 2, 3, 4, 5, 6, 7, 8, 9] rfl ?_
  exact w_L_isChanged_117 F hno hnm x0 x3 x4 x5 x9 x10 x11 x12 x13 x14 0 M h
set_option maxHeartbeats 4000000 in
set_option maxRecDepth 100000 in
theorem w_L_isChanged_98 {p : Program} {l : Launch} {e : Env} {R : Room} {s : State} {m : MethodId} {args : Array Value} {below : List Frame} {meth : Method} {c : Code} {G : Gt} {ρ0 : Int → Nat} {M0 : Mo} {res : RS} (F : Fx p l R s m args meth c cL_isChanged 20 RL G M0 14 (some FieldType.boolean)) (hno : ∀ x ∈ c.exceptionTable.toList, False) (hnm : meth.name = yL_isChanged.name) (x0 x3 x4 x5 x9 x10 x11 x12 x13 y0 : Int) (M : Mo) (h : L_isChanged_98 x0 x3 x4 x5 x9 x10 x11 x12 x13 y0 M = some res) : J p l e R s m args below meth c 20 G ρ0 M0 1 res M 98 [(0, (false, x0)), (3, (false, x3)), (4, (true, x4)), (5, (true, x5)), (9, (true, x9)), (10, (true, x10)), (11, (true, x11)), (12, (true, x12)), (13, (true, x13))] [(false, y0)] := by
  unfold L_isChanged_98 at h
  refine j_astore F (lv' := [(14, (false, y0)), (0, (false, x0)), (3, (false, x3)), (4, (true, x4)), (5, (true, x5)), (9, (true, x9)), (10, (true, x10)), (11, (true, x11)), (12, (true, x12)), (13, (true, x13))]) (by decide) rfl dL_isChanged_98 ?_
  refine j_iload F 3 rfl dL_isChanged_100 ?_
  refine j_iconst F dL_isChanged_102 ?_
  refine j_icmp_ge F 116 (by decide) dL_isChanged_103 h (fun h => ?_) (fun h => ?_)
  · skip
    refine j_sub (lv' := [(0, (false, x0)), (3, (false, x3)), (4, (true, x4)), (5, (true, x5)), (9, (true, x9)), (10, (true, x10)), (11, (true, x11)), (12, (true, x12)), (13, (true, x13)), (14, (false, y0))]) [1, 2, 3, 4, 5, 6, 7, 8, 9, 0] rfl ?_
    exact w_L_isChanged_116 F hno hnm x0 x3 x4 x5 x9 x10 x11 x12 x13 y0 M h
  · skip
    refine j_iload F 4 rfl dL_isChanged_106 ?_
    refine j_iconst F dL_isChanged_108 ?_
    refine j_icmp_ge F 116 (by decide) dL_isChanged_109 h (fun h => ?_) (fun h => ?_)
    · skip
      refine j_sub (lv' := [(0, (false, x0)), (3, (false, x3)), (4, (true, x4)), (5, (true, x5)), (9, (true, x9)), (10, (true, x10)), (11, (true, x11)), (12, (true, x12)), (13, (true, x13)), (14, (false, y0))]) [1, 2, 3, 4, 5, 6, 7, 8, 9, 0] rfl ?_
      exact w_L_isChanged_116 F hno hnm x0 x3 x4 x5 x9 x10 x11 x12 x13 y0 M h
    · skip
      refine j_iconst F dL_isChanged_112 ?_
      refine j_goto F 117 (by decide) dL_isChanged_113 ?_
      refine j_sub (lv' := [(0, (false, x0)), (3, (false, x3)), (4, (true, x4)), (5, (true, x5)), (9, (true, x9)), (10, (true, x10)), (11, (true, x11)), (12, (true, x12)), (13, (true, x13)), (14, (false, y0))]) [1, 2, 3, 4, 5, 6, 7, 8, 9, 0] rfl ?_
      exact w_L_isChanged_117 F hno hnm x0 x3 x4 x5 x9 x10 x11 x12 x13 y0 1 M h
set_option maxHeartbeats 4000000 in
set_option maxRecDepth 100000 in
theorem w_L_isChanged_79 {p : Program} {l : Launch} {e : Env} {R : Room} {s : State} {m : MethodId} {args : Array Value} {below : List Frame} {meth : Method} {c : Code} {G : Gt} {ρ0 : Int → Nat} {M0 : Mo} {res : RS} (F : Fx p l R s m args meth c cL_isChanged 20 RL G M0 14 (some FieldType.boolean)) (hno : ∀ x ∈ c.exceptionTable.toList, False) (hnm : meth.name = yL_isChanged.name) (x0 x1 x2 x3 x4 x5 x8 x9 x10 x11 y0 : Int) (M : Mo) (h : L_isChanged_79 x0 x1 x2 x3 x4 x5 x8 x9 x10 x11 y0 M = some res) : J p l e R s m args below meth c 20 G ρ0 M0 1 res M 79 [(0, (false, x0)), (1, (false, x1)), (2, (false, x2)), (3, (false, x3)), (4, (true, x4)), (5, (true, x5)), (8, (true, x8)), (9, (true, x9)), (10, (true, x10)), (11, (true, x11))] [(true, y0)] := by
  unfold L_isChanged_79 at h
  refine j_istore F (lv' := [(12, (true, y0)), (0, (false, x0)), (1, (false, x1)), (2, (false, x2)), (3, (false, x3)), (4, (true, x4)), (5, (true, x5)), (8, (true, x8)), (9, (true, x9)), (10, (true, x10)), (11, (true, x11))]) (by decide) rfl dL_isChanged_79 ?_
  refine j_iload F 7 rfl dL_isChanged_81 ?_
  refine j_callS (d' := 0) (argl := [(true, x8)]) (rk9 := 1) (st := []) F hno M_L_code q1620 q1619 ⟨by decide, by decide⟩ (Nat.le_of_ble_eq_true rfl) (by decide) dL_isChanged_83 rfl h (fun z hz => c_L_code l F.ht G x8 M z hz) (fun v1 M2 h kl3 => ?_)
  refine j_st (st' := [(true, v1)]) rfl ?_
  refine j_istore F (lv' := [(13, (true, v1)), (12, (true, y0)), (0, (false, x0)), (1, (false, x1)), (2, (false, x2)), (3, (false, x3)), (4, (true, x4)), (5, (true, x5)), (8, (true, x8)), (9, (true, x9)), (10, (true, x10)), (11, (true, x11))]) (by decide) rfl dL_isChanged_86 ?_
  refine j_iload F 7 rfl dL_isChanged_88 ?_
  refine j_if_ne F 97 (by decide) dL_isChanged_90 h (fun h => ?_) (fun h => ?_)
  · skip
    refine j_aload_n F 4 rfl rfl dL_isChanged_97 ?_
    refine j_sub (lv' := [(0, (false, x0)), (3, (false, x3)), (4, (true, x4)), (5, (true, x5)), (9, (true, x9)), (10, (true, x10)), (11, (true, x11)), (12, (true, y0)), (13, (true, v1))]) [2, 5, 6, 7, 9, 10, 11, 1, 0] rfl ?_
    exact w_L_isChanged_98 F hno hnm x0 x3 x4 x5 x9 x10 x11 y0 v1 x2 M2 h
  · skip
    refine j_aload_n F 3 rfl rfl dL_isChanged_93 ?_
    refine j_goto F 98 (by decide) dL_isChanged_94 ?_
    refine j_sub (lv' := [(0, (false, x0)), (3, (false, x3)), (4, (true, x4)), (5, (true, x5)), (9, (true, x9)), (10, (true, x10)), (11, (true, x11)), (12, (true, y0)), (13, (true, v1))]) [2, 5, 6, 7, 9, 10, 11, 1, 0] rfl ?_
    exact w_L_isChanged_98 F hno hnm x0 x3 x4 x5 x9 x10 x11 y0 v1 x1 M2 h
set_option maxHeartbeats 4000000 in
set_option maxRecDepth 100000 in
theorem w_L_isChanged_51 {p : Program} {l : Launch} {e : Env} {R : Room} {s : State} {m : MethodId} {args : Array Value} {below : List Frame} {meth : Method} {c : Code} {G : Gt} {ρ0 : Int → Nat} {M0 : Mo} {res : RS} (F : Fx p l R s m args meth c cL_isChanged 20 RL G M0 14 (some FieldType.boolean)) (hno : ∀ x ∈ c.exceptionTable.toList, False) (hnm : meth.name = yL_isChanged.name) (x0 x1 x2 x3 x4 x5 x6 x7 x8 x9 x10 y0 : Int) (M : Mo) (h : L_isChanged_51 x0 x1 x2 x3 x4 x5 x6 x7 x8 x9 x10 y0 M = some res) : J p l e R s m args below meth c 20 G ρ0 M0 1 res M 51 [(0, (false, x0)), (1, (false, x1)), (2, (false, x2)), (3, (false, x3)), (4, (true, x4)), (5, (true, x5)), (6, (true, x6)), (7, (true, x7)), (8, (true, x8)), (9, (true, x9)), (10, (true, x10))] [(true, y0)] := by
  unfold L_isChanged_51 at h
  refine j_istore F (lv' := [(11, (true, y0)), (0, (false, x0)), (1, (false, x1)), (2, (false, x2)), (3, (false, x3)), (4, (true, x4)), (5, (true, x5)), (6, (true, x6)), (7, (true, x7)), (8, (true, x8)), (9, (true, x9)), (10, (true, x10))]) (by decide) rfl dL_isChanged_51 ?_
  refine j_iload F 7 rfl dL_isChanged_53 ?_
  refine j_iconst F dL_isChanged_55 ?_
  refine j_idiv F (by decide) dL_isChanged_56 ?_
  refine j_iconst F dL_isChanged_57 ?_
  refine j_irem F (by decide) dL_isChanged_58 ?_
  refine j_iconst F dL_isChanged_59 ?_
  refine j_icmp_ne F 71 (by decide) dL_isChanged_60 h (fun h => ?_) (fun h => ?_)
  · skip
    refine j_iload F 8 rfl dL_isChanged_71 ?_
    refine j_bipush F (by decide) dL_isChanged_73 ?_
    refine j_idiv F (by decide) dL_isChanged_75 ?_
    refine j_bipush F (by decide) dL_isChanged_76 ?_
    refine j_irem F (by decide) dL_isChanged_78 ?_
    refine j_sub (lv' := [(0, (false, x0)), (1, (false, x1)), (2, (false, x2)), (3, (false, x3)), (4, (true, x4)), (5, (true, x5)), (8, (true, x8)), (9, (true, x9)), (10, (true, x10)), (11, (true, y0))]) [1, 2, 3, 4, 5, 6, 9, 10, 11, 0] rfl ?_
    exact w_L_isChanged_79 F hno hnm x0 x1 x2 x3 x4 x5 x8 x9 x10 y0 (irm (idv x7 14) 16) M h
  · skip
    refine j_iload F 8 rfl dL_isChanged_63 ?_
    refine j_bipush F (by decide) dL_isChanged_65 ?_
    refine j_irem F (by decide) dL_isChanged_67 ?_
    refine j_goto F 79 (by decide) dL_isChanged_68 ?_
    refine j_sub (lv' := [(0, (false, x0)), (1, (false, x1)), (2, (false, x2)), (3, (false, x3)), (4, (true, x4)), (5, (true, x5)), (8, (true, x8)), (9, (true, x9)), (10, (true, x10)), (11, (true, y0))]) [1, 2, 3, 4, 5, 6, 9, 10, 11, 0] rfl ?_
    exact w_L_isChanged_79 F hno hnm x0 x1 x2 x3 x4 x5 x8 x9 x10 y0 (irm x7 14) M h
set_option maxHeartbeats 4000000 in
set_option maxRecDepth 100000 in
theorem w_L_isChanged_25 {p : Program} {l : Launch} {e : Env} {R : Room} {s : State} {m : MethodId} {args : Array Value} {below : List Frame} {meth : Method} {c : Code} {G : Gt} {ρ0 : Int → Nat} {M0 : Mo} {res : RS} (F : Fx p l R s m args meth c cL_isChanged 20 RL G M0 14 (some FieldType.boolean)) (hno : ∀ x ∈ c.exceptionTable.toList, False) (hnm : meth.name = yL_isChanged.name) (x0 x1 x2 x3 x4 x5 x6 x7 x8 x9 y0 : Int) (M : Mo) (h : L_isChanged_25 x0 x1 x2 x3 x4 x5 x6 x7 x8 x9 y0 M = some res) : J p l e R s m args below meth c 20 G ρ0 M0 1 res M 25 [(0, (false, x0)), (1, (false, x1)), (2, (false, x2)), (3, (false, x3)), (4, (true, x4)), (5, (true, x5)), (6, (true, x6)), (7, (true, x7)), (8, (true, x8)), (9, (true, x9))] [(true, y0)] := by
  unfold L_isChanged_25 at h
  refine j_istore F (lv' := [(10, (true, y0)), (0, (false, x0)), (1, (false, x1)), (2, (false, x2)), (3, (false, x3)), (4, (true, x4)), (5, (true, x5)), (6, (true, x6)), (7, (true, x7)), (8, (true, x8)), (9, (true, x9))]) (by decide) rfl dL_isChanged_25 ?_
  refine j_iload F 7 rfl dL_isChanged_27 ?_
  refine j_iconst F dL_isChanged_29 ?_
  refine j_idiv F (by decide) dL_isChanged_30 ?_
  refine j_iconst F dL_isChanged_31 ?_
  refine j_irem F (by decide) dL_isChanged_32 ?_
  refine j_if_ne F 49 (by decide) dL_isChanged_33 h (fun h => ?_) (fun h => ?_)
  · skip
    refine j_iload F 10 rfl dL_isChanged_49 ?_
    refine j_sub (lv' := [(0, (false, x0)), (1, (false, x1)), (2, (false, x2)), (3, (false, x3)), (4, (true, x4)), (5, (true, x5)), (6, (true, x6)), (7, (true, x7)), (8, (true, x8)), (9, (true, x9)), (10, (true, y0))]) [1, 2, 3, 4, 5, 6, 7, 8, 9, 10, 0] rfl ?_
    exact w_L_isChanged_51 F hno hnm x0 x1 x2 x3 x4 x5 x6 x7 x8 x9 y0 x9 M h
  · skip
    refine j_iload F 10 rfl dL_isChanged_36 ?_
    refine j_iload F 7 rfl dL_isChanged_38 ?_
    refine j_bipush F (by decide) dL_isChanged_40 ?_
    refine j_idiv F (by decide) dL_isChanged_42 ?_
    refine j_iconst F dL_isChanged_43 ?_
    refine j_irem F (by decide) dL_isChanged_44 ?_
    refine j_iadd F dL_isChanged_45 ?_
    refine j_goto F 51 (by decide) dL_isChanged_46 ?_
    refine j_sub (lv' := [(0, (false, x0)), (1, (false, x1)), (2, (false, x2)), (3, (false, x3)), (4, (true, x4)), (5, (true, x5)), (6, (true, x6)), (7, (true, x7)), (8, (true, x8)), (9, (true, x9)), (10, (true, y0))]) [1, 2, 3, 4, 5, 6, 7, 8, 9, 10, 0] rfl ?_
    exact w_L_isChanged_51 F hno hnm x0 x1 x2 x3 x4 x5 x6 x7 x8 x9 y0 (x9 + (irm (idv x6 12) 2)) M h
set_option maxHeartbeats 4000000 in
set_option maxRecDepth 100000 in
theorem w_L_isChanged_0 {p : Program} {l : Launch} {e : Env} {R : Room} {s : State} {m : MethodId} {args : Array Value} {below : List Frame} {meth : Method} {c : Code} {G : Gt} {ρ0 : Int → Nat} {M0 : Mo} {res : RS} (F : Fx p l R s m args meth c cL_isChanged 20 RL G M0 14 (some FieldType.boolean)) (hno : ∀ x ∈ c.exceptionTable.toList, False) (hnm : meth.name = yL_isChanged.name) (x0 x1 x2 x3 x4 x5 x6 x7 x8 : Int) (M : Mo) (h : L_isChanged x0 x1 x2 x3 x4 x5 x6 x7 x8 M = some res) : J p l e R s m args below meth c 20 G ρ0 M0 1 res M 0 [(0, (false, x0)), (1, (false, x1)), (2, (false, x2)), (3, (false, x3)), (4, (true, x4)), (5, (true, x5)), (6, (true, x6)), (7, (true, x7)), (8, (true, x8))] [] := by
  unfold L_isChanged at h
  refine j_iload F 6 rfl dL_isChanged_0 ?_
  refine j_iconst F dL_isChanged_2 ?_
  refine j_irem F (by decide) dL_isChanged_3 ?_
  refine j_istore F (lv' := [(9, (true, (irm x6 4))), (0, (false, x0)), (1, (false, x1)), (2, (false, x2)), (3, (false, x3)), (4, (true, x4)), (5, (true, x5)), (6, (true, x6)), (7, (true, x7)), (8, (true, x8))]) (by decide) rfl dL_isChanged_4 ?_
  refine j_iload F 8 rfl dL_isChanged_6 ?_
  refine j_bipush F (by decide) dL_isChanged_8 ?_
  refine j_irem F (by decide) dL_isChanged_10 ?_
  refine j_if_ne F 20 (by decide) dL_isChanged_11 h (fun h => ?_) (fun h => ?_)
  · skip
    refine j_iload F 8 rfl dL_isChanged_20 ?_
    refine j_bipush F (by decide) dL_isChanged_22 ?_
    refine j_irem F (by decide) dL_isChanged_24 ?_
    refine j_sub (lv' := [(0, (false, x0)), (1, (false, x1)), (2, (false, x2)), (3, (false, x3)), (4, (true, x4)), (5, (true, x5)), (6, (true, x6)), (7, (true, x7)), (8, (true, x8)), (9, (true, (irm x6 4)))]) [1, 2, 3, 4, 5, 6, 7, 8, 9, 0] rfl ?_
    exact w_L_isChanged_25 F hno hnm x0 x1 x2 x3 x4 x5 x6 x7 x8 (irm x6 4) (irm x7 14) M h
  · skip
    refine j_sipush F (by decide) dL_isChanged_14 ?_
    refine j_goto F 25 (by decide) dL_isChanged_17 ?_
    refine j_sub (lv' := [(0, (false, x0)), (1, (false, x1)), (2, (false, x2)), (3, (false, x3)), (4, (true, x4)), (5, (true, x5)), (6, (true, x6)), (7, (true, x7)), (8, (true, x8)), (9, (true, (irm x6 4)))]) [1, 2, 3, 4, 5, 6, 7, 8, 9, 0] rfl ?_
    exact w_L_isChanged_25 F hno hnm x0 x1 x2 x3 x4 x5 x6 x7 x8 (irm x6 4) 1001 M h
theorem c_L_isChanged (l : Launch) (hl : l.stackTraces = false) (G : Gt) (x0 x1 x2 x3 x4 x5 x6 x7 x8 : Int) (M : Mo) (z : RS) (h : L_isChanged x0 x1 x2 x3 x4 x5 x6 x7 x8 M = some z) : CT l G yL_isChanged (cn yL_isChanged cL_isChanged 20 (some FieldType.boolean)) 14 [(false, x0), (false, x1), (false, x2), (false, x3), (true, x4), (true, x5), (true, x6), (true, x7), (true, x8)] M 1 z :=
  ctOf hl (by decide) (Nat.le_of_ble_eq_true rfl) (fun p e R s m args below meth c ρ F hno hnm => w_L_isChanged_0 F hno hnm x0 x1 x2 x3 x4 x5 x6 x7 x8 M h)
theorem dL_isDone_0 : decode cL_isDone 0 = .ok (.aload_n 1, 1) := by decide +kernel
theorem dL_isDone_1 : decode cL_isDone 1 = .ok (.iload_n 2, 1) := by decide +kernel
theorem dL_isDone_2 : decode cL_isDone 2 = .ok (.bipush 40, 2) := by decide +kernel
theorem dL_isDone_4 : decode cL_isDone 4 = .ok (.invokestatic 178, 3) := by decide +kernel
theorem dL_isDone_7 : decode cL_isDone 7 = .ok (.istore 6, 2) := by decide +kernel
theorem dL_isDone_9 : decode cL_isDone 9 = .ok (.aload_n 1, 1) := by decide +kernel
theorem dL_isDone_10 : decode cL_isDone 10 = .ok (.iload_n 2, 1) := by decide +kernel
theorem dL_isDone_11 : decode cL_isDone 11 = .ok (.iconst 1, 1) := by decide +kernel
theorem dL_isDone_12 : decode cL_isDone 12 = .ok (.iadd, 1) := by decide +kernel
theorem dL_isDone_13 : decode cL_isDone 13 = .ok (.sipush 6000, 3) := by decide +kernel
theorem dL_isDone_16 : decode cL_isDone 16 = .ok (.invokestatic 178, 3) := by decide +kernel
theorem dL_isDone_19 : decode cL_isDone 19 = .ok (.istore 7, 2) := by decide +kernel
theorem dL_isDone_21 : decode cL_isDone 21 = .ok (.aload_n 1, 1) := by decide +kernel
theorem dL_isDone_22 : decode cL_isDone 22 = .ok (.iload_n 2, 1) := by decide +kernel
theorem dL_isDone_23 : decode cL_isDone 23 = .ok (.iconst 2, 1) := by decide +kernel
theorem dL_isDone_24 : decode cL_isDone 24 = .ok (.iadd, 1) := by decide +kernel
theorem dL_isDone_25 : decode cL_isDone 25 = .ok (.sipush 7000, 3) := by decide +kernel
theorem dL_isDone_28 : decode cL_isDone 28 = .ok (.invokestatic 178, 3) := by decide +kernel
theorem dL_isDone_31 : decode cL_isDone 31 = .ok (.istore 8, 2) := by decide +kernel
theorem dL_isDone_33 : decode cL_isDone 33 = .ok (.aload_n 1, 1) := by decide +kernel
theorem dL_isDone_34 : decode cL_isDone 34 = .ok (.iload_n 2, 1) := by decide +kernel
theorem dL_isDone_35 : decode cL_isDone 35 = .ok (.iconst 3, 1) := by decide +kernel
theorem dL_isDone_36 : decode cL_isDone 36 = .ok (.iadd, 1) := by decide +kernel
theorem dL_isDone_37 : decode cL_isDone 37 = .ok (.sipush 8000, 3) := by decide +kernel
theorem dL_isDone_40 : decode cL_isDone 40 = .ok (.invokestatic 178, 3) := by decide +kernel
theorem dL_isDone_43 : decode cL_isDone 43 = .ok (.istore 9, 2) := by decide +kernel
theorem dL_isDone_45 : decode cL_isDone 45 = .ok (.iload 7, 2) := by decide +kernel
theorem dL_isDone_47 : decode cL_isDone 47 = .ok (.bipush 30, 2) := by decide +kernel
theorem dL_isDone_49 : decode cL_isDone 49 = .ok (.irem, 1) := by decide +kernel
theorem dL_isDone_50 : decode cL_isDone 50 = .ok (.ifCond .ne 7, 3) := by decide +kernel
theorem dL_isDone_57 : decode cL_isDone 57 = .ok (.iload 7, 2) := by decide +kernel
theorem dL_isDone_59 : decode cL_isDone 59 = .ok (.iconst 2, 1) := by decide +kernel
theorem dL_isDone_60 : decode cL_isDone 60 = .ok (.irem, 1) := by decide +kernel
theorem dL_isDone_53 : decode cL_isDone 53 = .ok (.iconst 2, 1) := by decide +kernel
theorem dL_isDone_54 : decode cL_isDone 54 = .ok (.goto 7, 3) := by decide +kernel
theorem dL_isDone_61 : decode cL_isDone 61 = .ok (.istore 10, 2) := by decide +kernel
theorem dL_isDone_63 : decode cL_isDone 63 = .ok (.iload 8, 2) := by decide +kernel
theorem dL_isDone_65 : decode cL_isDone 65 = .ok (.bipush 30, 2) := by decide +kernel
theorem dL_isDone_67 : decode cL_isDone 67 = .ok (.irem, 1) := by decide +kernel
theorem dL_isDone_68 : decode cL_isDone 68 = .ok (.ifCond .ne 7, 3) := by decide +kernel
theorem dL_isDone_75 : decode cL_isDone 75 = .ok (.iload 8, 2) := by decide +kernel
theorem dL_isDone_77 : decode cL_isDone 77 = .ok (.iconst 2, 1) := by decide +kernel
theorem dL_isDone_78 : decode cL_isDone 78 = .ok (.idiv, 1) := by decide +kernel
theorem dL_isDone_79 : decode cL_isDone 79 = .ok (.iconst 2, 1) := by decide +kernel
theorem dL_isDone_80 : decode cL_isDone 80 = .ok (.irem, 1) := by decide +kernel
theorem dL_isDone_71 : decode cL_isDone 71 = .ok (.iconst 2, 1) := by decide +kernel
theorem dL_isDone_72 : decode cL_isDone 72 = .ok (.goto 9, 3) := by decide +kernel
theorem dL_isDone_81 : decode cL_isDone 81 = .ok (.istore 11, 2) := by decide +kernel
theorem dL_isDone_83 : decode cL_isDone 83 = .ok (.iload 11, 2) := by decide +kernel
theorem dL_isDone_85 : decode cL_isDone 85 = .ok (.ifCond .ne 7, 3) := by decide +kernel
theorem dL_isDone_92 : decode cL_isDone 92 = .ok (.aload 4, 2) := by decide +kernel
theorem dL_isDone_88 : decode cL_isDone 88 = .ok (.aload_n 3, 1) := by decide +kernel
theorem dL_isDone_89 : decode cL_isDone 89 = .ok (.goto 5, 3) := by decide +kernel
theorem dL_isDone_94 : decode cL_isDone 94 = .ok (.astore 12, 2) := by decide +kernel
theorem dL_isDone_96 : decode cL_isDone 96 = .ok (.iload 6, 2) := by decide +kernel
theorem dL_isDone_98 : decode cL_isDone 98 = .ok (.iconst 4, 1) := by decide +kernel
theorem dL_isDone_99 : decode cL_isDone 99 = .ok (.if_icmp .ge 181, 3) := by decide +kernel
theorem dL_isDone_280 : decode cL_isDone 280 = .ok (.iload 6, 2) := by decide +kernel
theorem dL_isDone_282 : decode cL_isDone 282 = .ok (.bipush 10, 2) := by decide +kernel
theorem dL_isDone_284 : decode cL_isDone 284 = .ok (.if_icmp .ge 129, 3) := by decide +kernel
theorem dL_isDone_413 : decode cL_isDone 413 = .ok (.iload 6, 2) := by decide +kernel
theorem dL_isDone_415 : decode cL_isDone 415 = .ok (.bipush 12, 2) := by decide +kernel
theorem dL_isDone_417 : decode cL_isDone 417 = .ok (.if_icmp .ge 117, 3) := by decide +kernel
theorem dL_isDone_534 : decode cL_isDone 534 = .ok (.iload 6, 2) := by decide +kernel
theorem dL_isDone_536 : decode cL_isDone 536 = .ok (.bipush 24, 2) := by decide +kernel
theorem dL_isDone_538 : decode cL_isDone 538 = .ok (.if_icmp .ge 69, 3) := by decide +kernel
theorem dL_isDone_607 : decode cL_isDone 607 = .ok (.iload 6, 2) := by decide +kernel
theorem dL_isDone_609 : decode cL_isDone 609 = .ok (.bipush 30, 2) := by decide +kernel
theorem dL_isDone_611 : decode cL_isDone 611 = .ok (.if_icmp .ge 17, 3) := by decide +kernel
theorem dL_isDone_628 : decode cL_isDone 628 = .ok (.iload 6, 2) := by decide +kernel
theorem dL_isDone_630 : decode cL_isDone 630 = .ok (.bipush 32, 2) := by decide +kernel
theorem dL_isDone_632 : decode cL_isDone 632 = .ok (.if_icmp .ge 21, 3) := by decide +kernel
theorem dL_isDone_653 : decode cL_isDone 653 = .ok (.iload 6, 2) := by decide +kernel
theorem dL_isDone_655 : decode cL_isDone 655 = .ok (.bipush 32, 2) := by decide +kernel
theorem dL_isDone_657 : decode cL_isDone 657 = .ok (.if_icmp .ne 13, 3) := by decide +kernel
theorem dL_isDone_670 : decode cL_isDone 670 = .ok (.iload 6, 2) := by decide +kernel
theorem dL_isDone_672 : decode cL_isDone 672 = .ok (.bipush 35, 2) := by decide +kernel
theorem dL_isDone_674 : decode cL_isDone 674 = .ok (.if_icmp .ge 98, 3) := by decide +kernel
theorem dL_isDone_772 : decode cL_isDone 772 = .ok (.iload 6, 2) := by decide +kernel
theorem dL_isDone_774 : decode cL_isDone 774 = .ok (.bipush 38, 2) := by decide +kernel
theorem dL_isDone_776 : decode cL_isDone 776 = .ok (.if_icmp .ge 156, 3) := by decide +kernel
theorem dL_isDone_932 : decode cL_isDone 932 = .ok (.iload 7, 2) := by decide +kernel
theorem dL_isDone_934 : decode cL_isDone 934 = .ok (.aload 5, 2) := by decide +kernel
theorem dL_isDone_936 : decode cL_isDone 936 = .ok (.iconst 4, 1) := by decide +kernel
theorem dL_isDone_937 : decode cL_isDone 937 = .ok (.iaload, 1) := by decide +kernel
theorem dL_isDone_938 : decode cL_isDone 938 = .ok (.iconst 1, 1) := by decide +kernel
theorem dL_isDone_939 : decode cL_isDone 939 = .ok (.iadd, 1) := by decide +kernel
theorem dL_isDone_940 : decode cL_isDone 940 = .ok (.irem, 1) := by decide +kernel
theorem dL_isDone_941 : decode cL_isDone 941 = .ok (.istore 13, 2) := by decide +kernel
theorem dL_isDone_943 : decode cL_isDone 943 = .ok (.aload_n 0, 1) := by decide +kernel
theorem dL_isDone_944 : decode cL_isDone 944 = .ok (.bipush 7, 2) := by decide +kernel
theorem dL_isDone_946 : decode cL_isDone 946 = .ok (.iconst 0, 1) := by decide +kernel
theorem dL_isDone_947 : decode cL_isDone 947 = .ok (.iload 13, 2) := by decide +kernel
theorem dL_isDone_949 : decode cL_isDone 949 = .ok (.iconst 0, 1) := by decide +kernel
theorem dL_isDone_950 : decode cL_isDone 950 = .ok (.iconst 0, 1) := by decide +kernel
theorem dL_isDone_951 : decode cL_isDone 951 = .ok (.iconst 0, 1) := by decide +kernel
theorem dL_isDone_952 : decode cL_isDone 952 = .ok (.iconst 0, 1) := by decide +kernel
theorem dL_isDone_953 : decode cL_isDone 953 = .ok (.iconst 0, 1) := by decide +kernel
theorem dL_isDone_954 : decode cL_isDone 954 = .ok (.invokestatic 185, 3) := by decide +kernel
theorem dL_isDone_957 : decode cL_isDone 957 = .ok (.istore 14, 2) := by decide +kernel
theorem dL_isDone_959 : decode cL_isDone 959 = .ok (.aload 5, 2) := by decide +kernel
theorem dL_isDone_961 : decode cL_isDone 961 = .ok (.bipush 6, 2) := by decide +kernel
theorem dL_isDone_963 : decode cL_isDone 963 = .ok (.dup2, 1) := by decide +kernel
theorem dL_isDone_964 : decode cL_isDone 964 = .ok (.iaload, 1) := by decide +kernel
theorem dL_isDone_965 : decode cL_isDone 965 = .ok (.iload 14, 2) := by decide +kernel
theorem dL_isDone_967 : decode cL_isDone 967 = .ok (.ifCond .ne 7, 3) := by decide +kernel
theorem dL_isDone_974 : decode cL_isDone 974 = .ok (.iconst 0, 1) := by decide +kernel
theorem dL_isDone_970 : decode cL_isDone 970 = .ok (.iconst 1, 1) := by decide +kernel
theorem dL_isDone_971 : decode cL_isDone 971 = .ok (.goto 4, 3) := by decide +kernel
theorem dL_isDone_779 : decode cL_isDone 779 = .ok (.iload 7, 2) := by decide +kernel
theorem dL_isDone_781 : decode cL_isDone 781 = .ok (.aload 5, 2) := by decide +kernel
theorem dL_isDone_783 : decode cL_isDone 783 = .ok (.bipush 8, 2) := by decide +kernel
theorem dL_isDone_785 : decode cL_isDone 785 = .ok (.iaload, 1) := by decide +kernel
theorem dL_isDone_786 : decode cL_isDone 786 = .ok (.iconst 1, 1) := by decide +kernel
theorem dL_isDone_787 : decode cL_isDone 787 = .ok (.iadd, 1) := by decide +kernel
theorem dL_isDone_788 : decode cL_isDone 788 = .ok (.irem, 1) := by decide +kernel
theorem dL_isDone_789 : decode cL_isDone 789 = .ok (.istore 13, 2) := by decide +kernel
theorem dL_isDone_791 : decode cL_isDone 791 = .ok (.iload 13, 2) := by decide +kernel
theorem dL_isDone_793 : decode cL_isDone 793 = .ok (.aload 5, 2) := by decide +kernel
theorem dL_isDone_795 : decode cL_isDone 795 = .ok (.bipush 8, 2) := by decide +kernel
theorem dL_isDone_797 : decode cL_isDone 797 = .ok (.iaload, 1) := by decide +kernel
theorem dL_isDone_798 : decode cL_isDone 798 = .ok (.if_icmp .ge 30, 3) := by decide +kernel
theorem dL_isDone_801 : decode cL_isDone 801 = .ok (.aload 5, 2) := by decide +kernel
theorem dL_isDone_803 : decode cL_isDone 803 = .ok (.bipush 15, 2) := by decide +kernel
theorem dL_isDone_805 : decode cL_isDone 805 = .ok (.iload 13, 2) := by decide +kernel
theorem dL_isDone_807 : decode cL_isDone 807 = .ok (.iadd, 1) := by decide +kernel
theorem dL_isDone_808 : decode cL_isDone 808 = .ok (.iaload, 1) := by decide +kernel
theorem dL_isDone_809 : decode cL_isDone 809 = .ok (.iload 6, 2) := by decide +kernel
theorem dL_isDone_811 : decode cL_isDone 811 = .ok (.bipush 35, 2) := by decide +kernel
theorem dL_isDone_813 : decode cL_isDone 813 = .ok (.if_icmp .ne 7, 3) := by decide +kernel
theorem dL_isDone_820 : decode cL_isDone 820 = .ok (.iconst 0, 1) := by decide +kernel
theorem dL_isDone_816 : decode cL_isDone 816 = .ok (.iconst 1, 1) := by decide +kernel
theorem dL_isDone_817 : decode cL_isDone 817 = .ok (.goto 4, 3) := by decide +kernel
theorem dL_isDone_677 : decode cL_isDone 677 = .ok (.iload 7, 2) := by decide +kernel
theorem dL_isDone_679 : decode cL_isDone 679 = .ok (.iconst 2, 1) := by decide +kernel
theorem dL_isDone_680 : decode cL_isDone 680 = .ok (.irem, 1) := by decide +kernel
theorem dL_isDone_681 : decode cL_isDone 681 = .ok (.istore 13, 2) := by decide +kernel
theorem dL_isDone_683 : decode cL_isDone 683 = .ok (.aload_n 0, 1) := by decide +kernel
theorem dL_isDone_684 : decode cL_isDone 684 = .ok (.bipush 13, 2) := by decide +kernel
theorem dL_isDone_686 : decode cL_isDone 686 = .ok (.iload 13, 2) := by decide +kernel
theorem dL_isDone_688 : decode cL_isDone 688 = .ok (.iconst 0, 1) := by decide +kernel
theorem dL_isDone_689 : decode cL_isDone 689 = .ok (.iconst 0, 1) := by decide +kernel
theorem dL_isDone_690 : decode cL_isDone 690 = .ok (.iconst 0, 1) := by decide +kernel
theorem dL_isDone_691 : decode cL_isDone 691 = .ok (.iconst 0, 1) := by decide +kernel
theorem dL_isDone_692 : decode cL_isDone 692 = .ok (.iconst 0, 1) := by decide +kernel
theorem dL_isDone_693 : decode cL_isDone 693 = .ok (.iconst 0, 1) := by decide +kernel
theorem dL_isDone_694 : decode cL_isDone 694 = .ok (.invokestatic 185, 3) := by decide +kernel
theorem dL_isDone_697 : decode cL_isDone 697 = .ok (.istore 14, 2) := by decide +kernel
theorem dL_isDone_699 : decode cL_isDone 699 = .ok (.aload 5, 2) := by decide +kernel
theorem dL_isDone_701 : decode cL_isDone 701 = .ok (.bipush 6, 2) := by decide +kernel
theorem dL_isDone_703 : decode cL_isDone 703 = .ok (.iload 13, 2) := by decide +kernel
theorem dL_isDone_705 : decode cL_isDone 705 = .ok (.iadd, 1) := by decide +kernel
theorem dL_isDone_706 : decode cL_isDone 706 = .ok (.iaload, 1) := by decide +kernel
theorem dL_isDone_707 : decode cL_isDone 707 = .ok (.ifCond .ne 17, 3) := by decide +kernel
theorem dL_isDone_724 : decode cL_isDone 724 = .ok (.iload 14, 2) := by decide +kernel
theorem dL_isDone_726 : decode cL_isDone 726 = .ok (.ifCond .lt 13, 3) := by decide +kernel
theorem dL_isDone_729 : decode cL_isDone 729 = .ok (.iload 14, 2) := by decide +kernel
theorem dL_isDone_731 : decode cL_isDone 731 = .ok (.iconst 5, 1) := by decide +kernel
theorem dL_isDone_732 : decode cL_isDone 732 = .ok (.if_icmp .ge 7, 3) := by decide +kernel
theorem dL_isDone_735 : decode cL_isDone 735 = .ok (.iconst 1, 1) := by decide +kernel
theorem dL_isDone_736 : decode cL_isDone 736 = .ok (.goto 4, 3) := by decide +kernel
theorem dL_isDone_710 : decode cL_isDone 710 = .ok (.iload 14, 2) := by decide +kernel
theorem dL_isDone_712 : decode cL_isDone 712 = .ok (.iconst (-1), 1) := by decide +kernel
theorem dL_isDone_713 : decode cL_isDone 713 = .ok (.if_icmp .ne 7, 3) := by decide +kernel
theorem dL_isDone_720 : decode cL_isDone 720 = .ok (.iconst 0, 1) := by decide +kernel
theorem dL_isDone_721 : decode cL_isDone 721 = .ok (.goto 19, 3) := by decide +kernel
theorem dL_isDone_716 : decode cL_isDone 716 = .ok (.iconst 1, 1) := by decide +kernel
theorem dL_isDone_717 : decode cL_isDone 717 = .ok (.goto 23, 3) := by decide +kernel
theorem dL_isDone_660 : decode cL_isDone 660 = .ok (.aload_n 0, 1) := by decide +kernel
theorem dL_isDone_661 : decode cL_isDone 661 = .ok (.aload_n 3, 1) := by decide +kernel
theorem dL_isDone_662 : decode cL_isDone 662 = .ok (.aload 4, 2) := by decide +kernel
theorem dL_isDone_664 : decode cL_isDone 664 = .ok (.aload 5, 2) := by decide +kernel
theorem dL_isDone_666 : decode cL_isDone 666 = .ok (.invokestatic 181, 3) := by decide +kernel
theorem dL_isDone_669 : decode cL_isDone 669 = .ok (.ireturn, 1) := by decide +kernel
theorem dL_isDone_635 : decode cL_isDone 635 = .ok (.aload_n 0, 1) := by decide +kernel
theorem dL_isDone_636 : decode cL_isDone 636 = .ok (.aload_n 3, 1) := by decide +kernel
theorem dL_isDone_637 : decode cL_isDone 637 = .ok (.aload 4, 2) := by decide +kernel
theorem dL_isDone_639 : decode cL_isDone 639 = .ok (.aload 5, 2) := by decide +kernel
theorem dL_isDone_641 : decode cL_isDone 641 = .ok (.iload 7, 2) := by decide +kernel
theorem dL_isDone_643 : decode cL_isDone 643 = .ok (.iconst 2, 1) := by decide +kernel
theorem dL_isDone_644 : decode cL_isDone 644 = .ok (.irem, 1) := by decide +kernel
theorem dL_isDone_645 : decode cL_isDone 645 = .ok (.iload 8, 2) := by decide +kernel
theorem dL_isDone_647 : decode cL_isDone 647 = .ok (.iconst 2, 1) := by decide +kernel
theorem dL_isDone_648 : decode cL_isDone 648 = .ok (.irem, 1) := by decide +kernel
set_option maxRecDepth 100000 in
theorem q1687 : Cond.code yL_areFaults cL_areFaults 13 (some FieldType.boolean) ∈ GT := gt 1687 (rfl) (by decide +kernel)
theorem M_L_areFaults : MY yL_areFaults cL_areFaults 13 (some FieldType.boolean) 6 := ⟨q1687, q52, by decide +kernel, by decide +kernel⟩
set_option maxRecDepth 100000 in
theorem q1686 : Cond.static yL_areFaults ∈ GT := gt 1686 (by decide +kernel) (by decide +kernel)
set_option maxRecDepth 100000 in
theorem q1685 : Cond.methodLink RL 211 yL_areFaults ∈ GT := gt 1685 (by decide +kernel) (by decide +kernel)
theorem dL_isDone_649 : decode cL_isDone 649 = .ok (.invokestatic 211, 3) := by decide +kernel
theorem dL_isDone_652 : decode cL_isDone 652 = .ok (.ireturn, 1) := by decide +kernel
theorem dL_isDone_614 : decode cL_isDone 614 = .ok (.aload_n 0, 1) := by decide +kernel
theorem dL_isDone_615 : decode cL_isDone 615 = .ok (.aload_n 1, 1) := by decide +kernel
theorem dL_isDone_616 : decode cL_isDone 616 = .ok (.iload_n 2, 1) := by decide +kernel
theorem dL_isDone_617 : decode cL_isDone 617 = .ok (.iconst 1, 1) := by decide +kernel
theorem dL_isDone_618 : decode cL_isDone 618 = .ok (.iadd, 1) := by decide +kernel
theorem dL_isDone_619 : decode cL_isDone 619 = .ok (.aload_n 3, 1) := by decide +kernel
theorem dL_isDone_620 : decode cL_isDone 620 = .ok (.aload 4, 2) := by decide +kernel
theorem dL_isDone_622 : decode cL_isDone 622 = .ok (.aload 5, 2) := by decide +kernel
set_option maxRecDepth 100000 in
theorem q1641 : Cond.code yL_isServed cL_isServed 20 (some FieldType.boolean) ∈ GT := gt 1641 (rfl) (by decide +kernel)
theorem M_L_isServed : MY yL_isServed cL_isServed 20 (some FieldType.boolean) 6 := ⟨q1641, q52, by decide +kernel, by decide +kernel⟩
set_option maxRecDepth 100000 in
theorem q1640 : Cond.static yL_isServed ∈ GT := gt 1640 (by decide +kernel) (by decide +kernel)
set_option maxRecDepth 100000 in
theorem q1639 : Cond.methodLink RL 207 yL_isServed ∈ GT := gt 1639 (by decide +kernel) (by decide +kernel)
theorem dL_isDone_624 : decode cL_isDone 624 = .ok (.invokestatic 207, 3) := by decide +kernel
theorem dL_isDone_627 : decode cL_isDone 627 = .ok (.ireturn, 1) := by decide +kernel
theorem dL_isDone_541 : decode cL_isDone 541 = .ok (.iload 10, 2) := by decide +kernel
theorem dL_isDone_543 : decode cL_isDone 543 = .ok (.iconst 2, 1) := by decide +kernel
theorem dL_isDone_544 : decode cL_isDone 544 = .ok (.if_icmp .ge 37, 3) := by decide +kernel
theorem dL_isDone_547 : decode cL_isDone 547 = .ok (.iload 11, 2) := by decide +kernel
theorem dL_isDone_549 : decode cL_isDone 549 = .ok (.iconst 2, 1) := by decide +kernel
theorem dL_isDone_550 : decode cL_isDone 550 = .ok (.if_icmp .ge 31, 3) := by decide +kernel
theorem dL_isDone_553 : decode cL_isDone 553 = .ok (.iload 9, 2) := by decide +kernel
theorem dL_isDone_555 : decode cL_isDone 555 = .ok (.bipush 6, 2) := by decide +kernel
theorem dL_isDone_557 : decode cL_isDone 557 = .ok (.irem, 1) := by decide +kernel
theorem dL_isDone_558 : decode cL_isDone 558 = .ok (.ifCond .le 23, 3) := by decide +kernel
theorem dL_isDone_561 : decode cL_isDone 561 = .ok (.aload 5, 2) := by decide +kernel
theorem dL_isDone_563 : decode cL_isDone 563 = .ok (.iconst 2, 1) := by decide +kernel
theorem dL_isDone_564 : decode cL_isDone 564 = .ok (.iload 11, 2) := by decide +kernel
theorem dL_isDone_566 : decode cL_isDone 566 = .ok (.iadd, 1) := by decide +kernel
theorem dL_isDone_567 : decode cL_isDone 567 = .ok (.iaload, 1) := by decide +kernel
theorem dL_isDone_568 : decode cL_isDone 568 = .ok (.ifCond .lt 13, 3) := by decide +kernel
theorem dL_isDone_571 : decode cL_isDone 571 = .ok (.aload 5, 2) := by decide +kernel
theorem dL_isDone_573 : decode cL_isDone 573 = .ok (.iconst 2, 1) := by decide +kernel
theorem dL_isDone_574 : decode cL_isDone 574 = .ok (.iload 11, 2) := by decide +kernel
theorem dL_isDone_576 : decode cL_isDone 576 = .ok (.iadd, 1) := by decide +kernel
theorem dL_isDone_577 : decode cL_isDone 577 = .ok (.iaload, 1) := by decide +kernel
theorem dL_isDone_578 : decode cL_isDone 578 = .ok (.goto 5, 3) := by decide +kernel
theorem dL_isDone_420 : decode cL_isDone 420 = .ok (.iload 10, 2) := by decide +kernel
theorem dL_isDone_422 : decode cL_isDone 422 = .ok (.iconst 2, 1) := by decide +kernel
theorem dL_isDone_423 : decode cL_isDone 423 = .ok (.if_icmp .ge 13, 3) := by decide +kernel
theorem dL_isDone_426 : decode cL_isDone 426 = .ok (.iload 11, 2) := by decide +kernel
theorem dL_isDone_428 : decode cL_isDone 428 = .ok (.iconst 2, 1) := by decide +kernel
theorem dL_isDone_429 : decode cL_isDone 429 = .ok (.if_icmp .ge 7, 3) := by decide +kernel
theorem dL_isDone_432 : decode cL_isDone 432 = .ok (.iconst 1, 1) := by decide +kernel
theorem dL_isDone_433 : decode cL_isDone 433 = .ok (.goto 4, 3) := by decide +kernel
theorem dL_isDone_287 : decode cL_isDone 287 = .ok (.iload 10, 2) := by decide +kernel
theorem dL_isDone_289 : decode cL_isDone 289 = .ok (.iconst 2, 1) := by decide +kernel
theorem dL_isDone_290 : decode cL_isDone 290 = .ok (.if_icmp .ge 13, 3) := by decide +kernel
theorem dL_isDone_293 : decode cL_isDone 293 = .ok (.iload 11, 2) := by decide +kernel
theorem dL_isDone_295 : decode cL_isDone 295 = .ok (.iconst 2, 1) := by decide +kernel
theorem dL_isDone_296 : decode cL_isDone 296 = .ok (.if_icmp .ge 7, 3) := by decide +kernel
theorem dL_isDone_299 : decode cL_isDone 299 = .ok (.iconst 1, 1) := by decide +kernel
theorem dL_isDone_300 : decode cL_isDone 300 = .ok (.goto 4, 3) := by decide +kernel
theorem dL_isDone_102 : decode cL_isDone 102 = .ok (.iload 9, 2) := by decide +kernel
theorem dL_isDone_104 : decode cL_isDone 104 = .ok (.invokestatic 196, 3) := by decide +kernel
theorem dL_isDone_107 : decode cL_isDone 107 = .ok (.istore 13, 2) := by decide +kernel
theorem dL_isDone_109 : decode cL_isDone 109 = .ok (.iload 13, 2) := by decide +kernel
theorem dL_isDone_111 : decode cL_isDone 111 = .ok (.bipush 65, 2) := by decide +kernel
theorem dL_isDone_113 : decode cL_isDone 113 = .ok (.if_icmp .eq 12, 3) := by decide +kernel
theorem dL_isDone_116 : decode cL_isDone 116 = .ok (.iload 13, 2) := by decide +kernel
theorem dL_isDone_118 : decode cL_isDone 118 = .ok (.ifCond .lt 7, 3) := by decide +kernel
theorem dL_isDone_121 : decode cL_isDone 121 = .ok (.iconst 1, 1) := by decide +kernel
theorem dL_isDone_122 : decode cL_isDone 122 = .ok (.goto 4, 3) := by decide +kernel
theorem dL_isDone_125 : decode cL_isDone 125 = .ok (.iconst 0, 1) := by decide +kernel
theorem dL_isDone_126 : decode cL_isDone 126 = .ok (.istore 14, 2) := by decide +kernel
theorem dL_isDone_128 : decode cL_isDone 128 = .ok (.iload 11, 2) := by decide +kernel
theorem dL_isDone_130 : decode cL_isDone 130 = .ok (.iconst 2, 1) := by decide +kernel
theorem dL_isDone_131 : decode cL_isDone 131 = .ok (.if_icmp .ge 24, 3) := by decide +kernel
theorem dL_isDone_134 : decode cL_isDone 134 = .ok (.iload 14, 2) := by decide +kernel
theorem dL_isDone_136 : decode cL_isDone 136 = .ok (.ifCond .eq 19, 3) := by decide +kernel
theorem dL_isDone_139 : decode cL_isDone 139 = .ok (.aload 5, 2) := by decide +kernel
theorem dL_isDone_141 : decode cL_isDone 141 = .ok (.iconst 2, 1) := by decide +kernel
theorem dL_isDone_142 : decode cL_isDone 142 = .ok (.iload 11, 2) := by decide +kernel
theorem dL_isDone_144 : decode cL_isDone 144 = .ok (.iconst 2, 1) := by decide +kernel
theorem dL_isDone_145 : decode cL_isDone 145 = .ok (.irem, 1) := by decide +kernel
theorem dL_isDone_146 : decode cL_isDone 146 = .ok (.iadd, 1) := by decide +kernel
theorem dL_isDone_147 : decode cL_isDone 147 = .ok (.iaload, 1) := by decide +kernel
theorem dL_isDone_148 : decode cL_isDone 148 = .ok (.ifCond .ge 7, 3) := by decide +kernel
theorem dL_isDone_151 : decode cL_isDone 151 = .ok (.iconst 1, 1) := by decide +kernel
theorem dL_isDone_152 : decode cL_isDone 152 = .ok (.goto 4, 3) := by decide +kernel
theorem dL_isDone_155 : decode cL_isDone 155 = .ok (.iconst 0, 1) := by decide +kernel
theorem dL_isDone_156 : decode cL_isDone 156 = .ok (.istore 15, 2) := by decide +kernel
theorem dL_isDone_158 : decode cL_isDone 158 = .ok (.iload 15, 2) := by decide +kernel
theorem dL_isDone_160 : decode cL_isDone 160 = .ok (.ifCond .eq 26, 3) := by decide +kernel
theorem dL_isDone_163 : decode cL_isDone 163 = .ok (.aload 12, 2) := by decide +kernel
theorem dL_isDone_165 : decode cL_isDone 165 = .ok (.bipush 63, 2) := by decide +kernel
theorem dL_isDone_167 : decode cL_isDone 167 = .ok (.iaload, 1) := by decide +kernel
theorem dL_isDone_168 : decode cL_isDone 168 = .ok (.iload 13, 2) := by decide +kernel
theorem dL_isDone_170 : decode cL_isDone 170 = .ok (.invokestatic 110, 3) := by decide +kernel
theorem dL_isDone_173 : decode cL_isDone 173 = .ok (.iadd, 1) := by decide +kernel
theorem dL_isDone_174 : decode cL_isDone 174 = .ok (.bipush 60, 2) := by decide +kernel
theorem dL_isDone_176 : decode cL_isDone 176 = .ok (.if_icmp .le 10, 3) := by decide +kernel
theorem dL_isDone_179 : decode cL_isDone 179 = .ok (.aload_n 0, 1) := by decide +kernel
theorem dL_isDone_180 : decode cL_isDone 180 = .ok (.iload 11, 2) := by decide +kernel
theorem dL_isDone_182 : decode cL_isDone 182 = .ok (.invokevirtual 124, 3) := by decide +kernel
theorem dL_isDone_185 : decode cL_isDone 185 = .ok (.ireturn, 1) := by decide +kernel
theorem dL_isDone_186 : decode cL_isDone 186 = .ok (.iload 11, 2) := by decide +kernel
theorem dL_isDone_188 : decode cL_isDone 188 = .ok (.iconst 2, 1) := by decide +kernel
theorem dL_isDone_189 : decode cL_isDone 189 = .ok (.if_icmp .ne 9, 3) := by decide +kernel
theorem dL_isDone_198 : decode cL_isDone 198 = .ok (.iload 14, 2) := by decide +kernel
theorem dL_isDone_200 : decode cL_isDone 200 = .ok (.ifCond .ne 9, 3) := by decide +kernel
theorem dL_isDone_209 : decode cL_isDone 209 = .ok (.iload 15, 2) := by decide +kernel
theorem dL_isDone_211 : decode cL_isDone 211 = .ok (.ifCond .eq 17, 3) := by decide +kernel
theorem dL_isDone_228 : decode cL_isDone 228 = .ok (.sipush (-1000), 3) := by decide +kernel
theorem dL_isDone_214 : decode cL_isDone 214 = .ok (.aload 12, 2) := by decide +kernel
theorem dL_isDone_216 : decode cL_isDone 216 = .ok (.bipush 63, 2) := by decide +kernel
theorem dL_isDone_218 : decode cL_isDone 218 = .ok (.iaload, 1) := by decide +kernel
theorem dL_isDone_219 : decode cL_isDone 219 = .ok (.iload 13, 2) := by decide +kernel
theorem dL_isDone_221 : decode cL_isDone 221 = .ok (.invokestatic 110, 3) := by decide +kernel
theorem dL_isDone_224 : decode cL_isDone 224 = .ok (.iadd, 1) := by decide +kernel
theorem dL_isDone_225 : decode cL_isDone 225 = .ok (.goto 6, 3) := by decide +kernel
theorem dL_isDone_203 : decode cL_isDone 203 = .ok (.sipush (-2000), 3) := by decide +kernel
theorem dL_isDone_206 : decode cL_isDone 206 = .ok (.goto 25, 3) := by decide +kernel
theorem dL_isDone_192 : decode cL_isDone 192 = .ok (.sipush (-3000), 3) := by decide +kernel
theorem dL_isDone_195 : decode cL_isDone 195 = .ok (.goto 36, 3) := by decide +kernel
theorem dL_isDone_231 : decode cL_isDone 231 = .ok (.istore 16, 2) := by decide +kernel
theorem dL_isDone_233 : decode cL_isDone 233 = .ok (.iload 15, 2) := by decide +kernel
theorem dL_isDone_235 : decode cL_isDone 235 = .ok (.ifCond .eq 20, 3) := by decide +kernel
theorem dL_isDone_238 : decode cL_isDone 238 = .ok (.aload 12, 2) := by decide +kernel
theorem dL_isDone_240 : decode cL_isDone 240 = .ok (.aload 12, 2) := by decide +kernel
theorem dL_isDone_242 : decode cL_isDone 242 = .ok (.bipush 63, 2) := by decide +kernel
theorem dL_isDone_244 : decode cL_isDone 244 = .ok (.iaload, 1) := by decide +kernel
theorem dL_isDone_245 : decode cL_isDone 245 = .ok (.aload 12, 2) := by decide +kernel
theorem dL_isDone_247 : decode cL_isDone 247 = .ok (.bipush 63, 2) := by decide +kernel
theorem dL_isDone_249 : decode cL_isDone 249 = .ok (.iaload, 1) := by decide +kernel
theorem dL_isDone_250 : decode cL_isDone 250 = .ok (.iload 13, 2) := by decide +kernel
theorem dL_isDone_252 : decode cL_isDone 252 = .ok (.invokestatic 199, 3) := by decide +kernel
theorem dL_isDone_255 : decode cL_isDone 255 = .ok (.aload_n 0, 1) := by decide +kernel
theorem dL_isDone_256 : decode cL_isDone 256 = .ok (.iconst 1, 1) := by decide +kernel
theorem dL_isDone_257 : decode cL_isDone 257 = .ok (.iload 11, 2) := by decide +kernel
theorem dL_isDone_259 : decode cL_isDone 259 = .ok (.iload 13, 2) := by decide +kernel
theorem dL_isDone_261 : decode cL_isDone 261 = .ok (.iconst 0, 1) := by decide +kernel
theorem dL_isDone_262 : decode cL_isDone 262 = .ok (.iconst 0, 1) := by decide +kernel
theorem dL_isDone_263 : decode cL_isDone 263 = .ok (.iconst 0, 1) := by decide +kernel
theorem dL_isDone_264 : decode cL_isDone 264 = .ok (.iconst 0, 1) := by decide +kernel
theorem dL_isDone_265 : decode cL_isDone 265 = .ok (.iconst 0, 1) := by decide +kernel
theorem dL_isDone_266 : decode cL_isDone 266 = .ok (.invokestatic 185, 3) := by decide +kernel
theorem dL_isDone_269 : decode cL_isDone 269 = .ok (.iload 16, 2) := by decide +kernel
theorem dL_isDone_271 : decode cL_isDone 271 = .ok (.if_icmp .ne 7, 3) := by decide +kernel
theorem dL_isDone_278 : decode cL_isDone 278 = .ok (.iconst 0, 1) := by decide +kernel
theorem dL_isDone_279 : decode cL_isDone 279 = .ok (.ireturn, 1) := by decide +kernel
theorem dL_isDone_274 : decode cL_isDone 274 = .ok (.iconst 1, 1) := by decide +kernel
theorem dL_isDone_275 : decode cL_isDone 275 = .ok (.goto 4, 3) := by decide +kernel
theorem dL_isDone_303 : decode cL_isDone 303 = .ok (.iconst 0, 1) := by decide +kernel
theorem dL_isDone_304 : decode cL_isDone 304 = .ok (.istore 13, 2) := by decide +kernel
theorem dL_isDone_306 : decode cL_isDone 306 = .ok (.iload 13, 2) := by decide +kernel
theorem dL_isDone_308 : decode cL_isDone 308 = .ok (.ifCond .eq 17, 3) := by decide +kernel
theorem dL_isDone_311 : decode cL_isDone 311 = .ok (.aload 5, 2) := by decide +kernel
theorem dL_isDone_313 : decode cL_isDone 313 = .ok (.iconst 2, 1) := by decide +kernel
theorem dL_isDone_314 : decode cL_isDone 314 = .ok (.iload 11, 2) := by decide +kernel
theorem dL_isDone_316 : decode cL_isDone 316 = .ok (.iadd, 1) := by decide +kernel
theorem dL_isDone_317 : decode cL_isDone 317 = .ok (.iaload, 1) := by decide +kernel
theorem dL_isDone_318 : decode cL_isDone 318 = .ok (.ifCond .ge 7, 3) := by decide +kernel
theorem dL_isDone_321 : decode cL_isDone 321 = .ok (.iconst 1, 1) := by decide +kernel
theorem dL_isDone_322 : decode cL_isDone 322 = .ok (.goto 4, 3) := by decide +kernel
theorem dL_isDone_325 : decode cL_isDone 325 = .ok (.iconst 0, 1) := by decide +kernel
theorem dL_isDone_326 : decode cL_isDone 326 = .ok (.istore 14, 2) := by decide +kernel
theorem dL_isDone_328 : decode cL_isDone 328 = .ok (.iload 14, 2) := by decide +kernel
theorem dL_isDone_330 : decode cL_isDone 330 = .ok (.ifCond .eq 33, 3) := by decide +kernel
theorem dL_isDone_333 : decode cL_isDone 333 = .ok (.aload 5, 2) := by decide +kernel
theorem dL_isDone_335 : decode cL_isDone 335 = .ok (.iconst 2, 1) := by decide +kernel
theorem dL_isDone_336 : decode cL_isDone 336 = .ok (.iload 11, 2) := by decide +kernel
theorem dL_isDone_338 : decode cL_isDone 338 = .ok (.iadd, 1) := by decide +kernel
theorem dL_isDone_339 : decode cL_isDone 339 = .ok (.iload 10, 2) := by decide +kernel
theorem dL_isDone_341 : decode cL_isDone 341 = .ok (.iastore, 1) := by decide +kernel
theorem dL_isDone_342 : decode cL_isDone 342 = .ok (.aload 5, 2) := by decide +kernel
theorem dL_isDone_344 : decode cL_isDone 344 = .ok (.iload 11, 2) := by decide +kernel
theorem dL_isDone_346 : decode cL_isDone 346 = .ok (.dup2, 1) := by decide +kernel
theorem dL_isDone_347 : decode cL_isDone 347 = .ok (.iaload, 1) := by decide +kernel
theorem dL_isDone_348 : decode cL_isDone 348 = .ok (.iconst 1, 1) := by decide +kernel
theorem dL_isDone_349 : decode cL_isDone 349 = .ok (.iadd, 1) := by decide +kernel
theorem dL_isDone_350 : decode cL_isDone 350 = .ok (.iastore, 1) := by decide +kernel
theorem dL_isDone_351 : decode cL_isDone 351 = .ok (.aload 5, 2) := by decide +kernel
theorem dL_isDone_353 : decode cL_isDone 353 = .ok (.bipush 6, 2) := by decide +kernel
theorem dL_isDone_355 : decode cL_isDone 355 = .ok (.iload 10, 2) := by decide +kernel
theorem dL_isDone_357 : decode cL_isDone 357 = .ok (.iadd, 1) := by decide +kernel
theorem dL_isDone_358 : decode cL_isDone 358 = .ok (.dup2, 1) := by decide +kernel
theorem dL_isDone_359 : decode cL_isDone 359 = .ok (.iaload, 1) := by decide +kernel
theorem dL_isDone_360 : decode cL_isDone 360 = .ok (.iconst 1, 1) := by decide +kernel
theorem dL_isDone_361 : decode cL_isDone 361 = .ok (.iadd, 1) := by decide +kernel
theorem dL_isDone_362 : decode cL_isDone 362 = .ok (.iastore, 1) := by decide +kernel
theorem dL_isDone_363 : decode cL_isDone 363 = .ok (.aload_n 0, 1) := by decide +kernel
theorem dL_isDone_364 : decode cL_isDone 364 = .ok (.iconst 3, 1) := by decide +kernel
theorem dL_isDone_365 : decode cL_isDone 365 = .ok (.iload 10, 2) := by decide +kernel
theorem dL_isDone_367 : decode cL_isDone 367 = .ok (.iload 11, 2) := by decide +kernel
theorem dL_isDone_369 : decode cL_isDone 369 = .ok (.iconst 0, 1) := by decide +kernel
theorem dL_isDone_370 : decode cL_isDone 370 = .ok (.iconst 0, 1) := by decide +kernel
theorem dL_isDone_371 : decode cL_isDone 371 = .ok (.iconst 0, 1) := by decide +kernel
theorem dL_isDone_372 : decode cL_isDone 372 = .ok (.iconst 0, 1) := by decide +kernel
theorem dL_isDone_373 : decode cL_isDone 373 = .ok (.iconst 0, 1) := by decide +kernel
theorem dL_isDone_374 : decode cL_isDone 374 = .ok (.invokestatic 185, 3) := by decide +kernel
theorem dL_isDone_377 : decode cL_isDone 377 = .ok (.iload 13, 2) := by decide +kernel
theorem dL_isDone_379 : decode cL_isDone 379 = .ok (.ifCond .ne 9, 3) := by decide +kernel
theorem dL_isDone_388 : decode cL_isDone 388 = .ok (.iload 14, 2) := by decide +kernel
theorem dL_isDone_390 : decode cL_isDone 390 = .ok (.ifCond .eq 11, 3) := by decide +kernel
theorem dL_isDone_401 : decode cL_isDone 401 = .ok (.sipush (-1000), 3) := by decide +kernel
theorem dL_isDone_393 : decode cL_isDone 393 = .ok (.aload 5, 2) := by decide +kernel
theorem dL_isDone_395 : decode cL_isDone 395 = .ok (.iload 11, 2) := by decide +kernel
theorem dL_isDone_397 : decode cL_isDone 397 = .ok (.iaload, 1) := by decide +kernel
theorem dL_isDone_398 : decode cL_isDone 398 = .ok (.goto 6, 3) := by decide +kernel
theorem dL_isDone_382 : decode cL_isDone 382 = .ok (.sipush (-3000), 3) := by decide +kernel
theorem dL_isDone_385 : decode cL_isDone 385 = .ok (.goto 19, 3) := by decide +kernel
theorem dL_isDone_404 : decode cL_isDone 404 = .ok (.if_icmp .ne 7, 3) := by decide +kernel
theorem dL_isDone_411 : decode cL_isDone 411 = .ok (.iconst 0, 1) := by decide +kernel
theorem dL_isDone_412 : decode cL_isDone 412 = .ok (.ireturn, 1) := by decide +kernel
theorem dL_isDone_407 : decode cL_isDone 407 = .ok (.iconst 1, 1) := by decide +kernel
theorem dL_isDone_408 : decode cL_isDone 408 = .ok (.goto 4, 3) := by decide +kernel
theorem dL_isDone_436 : decode cL_isDone 436 = .ok (.iconst 0, 1) := by decide +kernel
theorem dL_isDone_437 : decode cL_isDone 437 = .ok (.istore 13, 2) := by decide +kernel
theorem dL_isDone_439 : decode cL_isDone 439 = .ok (.iload 13, 2) := by decide +kernel
theorem dL_isDone_441 : decode cL_isDone 441 = .ok (.ifCond .eq 19, 3) := by decide +kernel
theorem dL_isDone_444 : decode cL_isDone 444 = .ok (.aload 5, 2) := by decide +kernel
theorem dL_isDone_446 : decode cL_isDone 446 = .ok (.iconst 2, 1) := by decide +kernel
theorem dL_isDone_447 : decode cL_isDone 447 = .ok (.iload 11, 2) := by decide +kernel
theorem dL_isDone_449 : decode cL_isDone 449 = .ok (.iadd, 1) := by decide +kernel
theorem dL_isDone_450 : decode cL_isDone 450 = .ok (.iaload, 1) := by decide +kernel
theorem dL_isDone_451 : decode cL_isDone 451 = .ok (.iload 10, 2) := by decide +kernel
theorem dL_isDone_453 : decode cL_isDone 453 = .ok (.if_icmp .ne 7, 3) := by decide +kernel
theorem dL_isDone_456 : decode cL_isDone 456 = .ok (.iconst 1, 1) := by decide +kernel
theorem dL_isDone_457 : decode cL_isDone 457 = .ok (.goto 4, 3) := by decide +kernel
theorem dL_isDone_460 : decode cL_isDone 460 = .ok (.iconst 0, 1) := by decide +kernel
theorem dL_isDone_461 : decode cL_isDone 461 = .ok (.istore 14, 2) := by decide +kernel
theorem dL_isDone_463 : decode cL_isDone 463 = .ok (.iload 14, 2) := by decide +kernel
theorem dL_isDone_465 : decode cL_isDone 465 = .ok (.ifCond .eq 23, 3) := by decide +kernel
theorem dL_isDone_468 : decode cL_isDone 468 = .ok (.aload 5, 2) := by decide +kernel
theorem dL_isDone_470 : decode cL_isDone 470 = .ok (.iconst 2, 1) := by decide +kernel
theorem dL_isDone_471 : decode cL_isDone 471 = .ok (.iload 11, 2) := by decide +kernel
theorem dL_isDone_473 : decode cL_isDone 473 = .ok (.iadd, 1) := by decide +kernel
theorem dL_isDone_474 : decode cL_isDone 474 = .ok (.iconst (-1), 1) := by decide +kernel
theorem dL_isDone_475 : decode cL_isDone 475 = .ok (.iastore, 1) := by decide +kernel
theorem dL_isDone_476 : decode cL_isDone 476 = .ok (.aload 5, 2) := by decide +kernel
theorem dL_isDone_478 : decode cL_isDone 478 = .ok (.bipush 6, 2) := by decide +kernel
theorem dL_isDone_480 : decode cL_isDone 480 = .ok (.iload 10, 2) := by decide +kernel
theorem dL_isDone_482 : decode cL_isDone 482 = .ok (.iadd, 1) := by decide +kernel
theorem dL_isDone_483 : decode cL_isDone 483 = .ok (.dup2, 1) := by decide +kernel
theorem dL_isDone_484 : decode cL_isDone 484 = .ok (.iaload, 1) := by decide +kernel
theorem dL_isDone_485 : decode cL_isDone 485 = .ok (.iconst 1, 1) := by decide +kernel
theorem dL_isDone_486 : decode cL_isDone 486 = .ok (.iadd, 1) := by decide +kernel
theorem dL_isDone_487 : decode cL_isDone 487 = .ok (.iastore, 1) := by decide +kernel
theorem dL_isDone_488 : decode cL_isDone 488 = .ok (.aload_n 0, 1) := by decide +kernel
theorem dL_isDone_489 : decode cL_isDone 489 = .ok (.iconst 4, 1) := by decide +kernel
theorem dL_isDone_490 : decode cL_isDone 490 = .ok (.iload 10, 2) := by decide +kernel
theorem dL_isDone_492 : decode cL_isDone 492 = .ok (.iload 11, 2) := by decide +kernel
theorem dL_isDone_494 : decode cL_isDone 494 = .ok (.iconst 0, 1) := by decide +kernel
theorem dL_isDone_495 : decode cL_isDone 495 = .ok (.iconst 0, 1) := by decide +kernel
theorem dL_isDone_496 : decode cL_isDone 496 = .ok (.iconst 0, 1) := by decide +kernel
theorem dL_isDone_497 : decode cL_isDone 497 = .ok (.iconst 0, 1) := by decide +kernel
theorem dL_isDone_498 : decode cL_isDone 498 = .ok (.iconst 0, 1) := by decide +kernel
theorem dL_isDone_499 : decode cL_isDone 499 = .ok (.invokestatic 185, 3) := by decide +kernel
theorem dL_isDone_502 : decode cL_isDone 502 = .ok (.iload 13, 2) := by decide +kernel
theorem dL_isDone_504 : decode cL_isDone 504 = .ok (.ifCond .ne 9, 3) := by decide +kernel
theorem dL_isDone_513 : decode cL_isDone 513 = .ok (.iload 14, 2) := by decide +kernel
theorem dL_isDone_515 : decode cL_isDone 515 = .ok (.ifCond .eq 7, 3) := by decide +kernel
theorem dL_isDone_522 : decode cL_isDone 522 = .ok (.sipush (-1000), 3) := by decide +kernel
theorem dL_isDone_518 : decode cL_isDone 518 = .ok (.iconst 0, 1) := by decide +kernel
theorem dL_isDone_519 : decode cL_isDone 519 = .ok (.goto 6, 3) := by decide +kernel
theorem dL_isDone_507 : decode cL_isDone 507 = .ok (.sipush (-3000), 3) := by decide +kernel
theorem dL_isDone_510 : decode cL_isDone 510 = .ok (.goto 15, 3) := by decide +kernel
theorem dL_isDone_525 : decode cL_isDone 525 = .ok (.if_icmp .ne 7, 3) := by decide +kernel
theorem dL_isDone_532 : decode cL_isDone 532 = .ok (.iconst 0, 1) := by decide +kernel
theorem dL_isDone_533 : decode cL_isDone 533 = .ok (.ireturn, 1) := by decide +kernel
theorem dL_isDone_528 : decode cL_isDone 528 = .ok (.iconst 1, 1) := by decide +kernel
theorem dL_isDone_529 : decode cL_isDone 529 = .ok (.goto 4, 3) := by decide +kernel
theorem dL_isDone_581 : decode cL_isDone 581 = .ok (.iload 10, 2) := by decide +kernel
theorem dL_isDone_583 : decode cL_isDone 583 = .ok (.istore 13, 2) := by decide +kernel
theorem dL_isDone_585 : decode cL_isDone 585 = .ok (.aload_n 0, 1) := by decide +kernel
theorem dL_isDone_586 : decode cL_isDone 586 = .ok (.aload_n 3, 1) := by decide +kernel
theorem dL_isDone_587 : decode cL_isDone 587 = .ok (.aload 4, 2) := by decide +kernel
theorem dL_isDone_589 : decode cL_isDone 589 = .ok (.aload 5, 2) := by decide +kernel
theorem dL_isDone_591 : decode cL_isDone 591 = .ok (.iload 13, 2) := by decide +kernel
theorem dL_isDone_593 : decode cL_isDone 593 = .ok (.iload 11, 2) := by decide +kernel
theorem dL_isDone_595 : decode cL_isDone 595 = .ok (.iload 7, 2) := by decide +kernel
theorem dL_isDone_597 : decode cL_isDone 597 = .ok (.iload 8, 2) := by decide +kernel
theorem dL_isDone_599 : decode cL_isDone 599 = .ok (.iconst 4, 1) := by decide +kernel
theorem dL_isDone_600 : decode cL_isDone 600 = .ok (.idiv, 1) := by decide +kernel
theorem dL_isDone_601 : decode cL_isDone 601 = .ok (.iload 9, 2) := by decide +kernel
set_option maxRecDepth 100000 in
theorem q1633 : Cond.code yL_isChanged cL_isChanged 20 (some FieldType.boolean) ∈ GT := gt 1633 (rfl) (by decide +kernel)
theorem M_L_isChanged : MY yL_isChanged cL_isChanged 20 (some FieldType.boolean) 9 := ⟨q1633, q52, by decide +kernel, by decide +kernel⟩
set_option maxRecDepth 100000 in
theorem q1632 : Cond.static yL_isChanged ∈ GT := gt 1632 (by decide +kernel) (by decide +kernel)
set_option maxRecDepth 100000 in
theorem q1631 : Cond.methodLink RL 203 yL_isChanged ∈ GT := gt 1631 (by decide +kernel) (by decide +kernel)
theorem dL_isDone_603 : decode cL_isDone 603 = .ok (.invokestatic 203, 3) := by decide +kernel
theorem dL_isDone_606 : decode cL_isDone 606 = .ok (.ireturn, 1) := by decide +kernel
theorem dL_isDone_739 : decode cL_isDone 739 = .ok (.iconst 0, 1) := by decide +kernel
theorem dL_isDone_740 : decode cL_isDone 740 = .ok (.istore 15, 2) := by decide +kernel
theorem dL_isDone_742 : decode cL_isDone 742 = .ok (.aload 5, 2) := by decide +kernel
theorem dL_isDone_744 : decode cL_isDone 744 = .ok (.bipush 6, 2) := by decide +kernel
theorem dL_isDone_746 : decode cL_isDone 746 = .ok (.iload 13, 2) := by decide +kernel
theorem dL_isDone_748 : decode cL_isDone 748 = .ok (.iadd, 1) := by decide +kernel
theorem dL_isDone_749 : decode cL_isDone 749 = .ok (.dup2, 1) := by decide +kernel
theorem dL_isDone_750 : decode cL_isDone 750 = .ok (.iaload, 1) := by decide +kernel
theorem dL_isDone_751 : decode cL_isDone 751 = .ok (.aload 5, 2) := by decide +kernel
theorem dL_isDone_753 : decode cL_isDone 753 = .ok (.bipush 6, 2) := by decide +kernel
theorem dL_isDone_755 : decode cL_isDone 755 = .ok (.iload 13, 2) := by decide +kernel
theorem dL_isDone_757 : decode cL_isDone 757 = .ok (.iadd, 1) := by decide +kernel
theorem dL_isDone_758 : decode cL_isDone 758 = .ok (.iaload, 1) := by decide +kernel
theorem dL_isDone_759 : decode cL_isDone 759 = .ok (.ifCond .ne 7, 3) := by decide +kernel
theorem dL_isDone_766 : decode cL_isDone 766 = .ok (.iconst 1, 1) := by decide +kernel
theorem dL_isDone_762 : decode cL_isDone 762 = .ok (.iconst 0, 1) := by decide +kernel
theorem dL_isDone_763 : decode cL_isDone 763 = .ok (.goto 4, 3) := by decide +kernel
theorem dL_isDone_767 : decode cL_isDone 767 = .ok (.isub, 1) := by decide +kernel
theorem dL_isDone_768 : decode cL_isDone 768 = .ok (.iastore, 1) := by decide +kernel
theorem dL_isDone_769 : decode cL_isDone 769 = .ok (.iload 15, 2) := by decide +kernel
theorem dL_isDone_771 : decode cL_isDone 771 = .ok (.ireturn, 1) := by decide +kernel
theorem dL_isDone_821 : decode cL_isDone 821 = .ok (.if_icmp .ne 7, 3) := by decide +kernel
theorem dL_isDone_824 : decode cL_isDone 824 = .ok (.iconst 1, 1) := by decide +kernel
theorem dL_isDone_825 : decode cL_isDone 825 = .ok (.goto 4, 3) := by decide +kernel
theorem dL_isDone_828 : decode cL_isDone 828 = .ok (.iconst 0, 1) := by decide +kernel
theorem dL_isDone_829 : decode cL_isDone 829 = .ok (.istore 14, 2) := by decide +kernel
theorem dL_isDone_831 : decode cL_isDone 831 = .ok (.aload_n 0, 1) := by decide +kernel
theorem dL_isDone_832 : decode cL_isDone 832 = .ok (.iload 6, 2) := by decide +kernel
theorem dL_isDone_834 : decode cL_isDone 834 = .ok (.bipush 35, 2) := by decide +kernel
theorem dL_isDone_836 : decode cL_isDone 836 = .ok (.if_icmp .ne 8, 3) := by decide +kernel
theorem dL_isDone_844 : decode cL_isDone 844 = .ok (.bipush 12, 2) := by decide +kernel
theorem dL_isDone_839 : decode cL_isDone 839 = .ok (.bipush 11, 2) := by decide +kernel
theorem dL_isDone_841 : decode cL_isDone 841 = .ok (.goto 5, 3) := by decide +kernel
theorem dL_isDone_846 : decode cL_isDone 846 = .ok (.iload 13, 2) := by decide +kernel
theorem dL_isDone_848 : decode cL_isDone 848 = .ok (.iconst 0, 1) := by decide +kernel
theorem dL_isDone_849 : decode cL_isDone 849 = .ok (.iconst 0, 1) := by decide +kernel
theorem dL_isDone_850 : decode cL_isDone 850 = .ok (.iconst 0, 1) := by decide +kernel
theorem dL_isDone_851 : decode cL_isDone 851 = .ok (.iconst 0, 1) := by decide +kernel
theorem dL_isDone_852 : decode cL_isDone 852 = .ok (.iconst 0, 1) := by decide +kernel
theorem dL_isDone_853 : decode cL_isDone 853 = .ok (.iconst 0, 1) := by decide +kernel
theorem dL_isDone_854 : decode cL_isDone 854 = .ok (.invokestatic 185, 3) := by decide +kernel
theorem dL_isDone_857 : decode cL_isDone 857 = .ok (.istore 15, 2) := by decide +kernel
theorem dL_isDone_859 : decode cL_isDone 859 = .ok (.iload 14, 2) := by decide +kernel
theorem dL_isDone_861 : decode cL_isDone 861 = .ok (.ifCond .eq 23, 3) := by decide +kernel
theorem dL_isDone_864 : decode cL_isDone 864 = .ok (.aload 5, 2) := by decide +kernel
theorem dL_isDone_866 : decode cL_isDone 866 = .ok (.bipush 15, 2) := by decide +kernel
theorem dL_isDone_868 : decode cL_isDone 868 = .ok (.iload 13, 2) := by decide +kernel
theorem dL_isDone_870 : decode cL_isDone 870 = .ok (.iadd, 1) := by decide +kernel
theorem dL_isDone_871 : decode cL_isDone 871 = .ok (.iload 6, 2) := by decide +kernel
theorem dL_isDone_873 : decode cL_isDone 873 = .ok (.bipush 35, 2) := by decide +kernel
theorem dL_isDone_875 : decode cL_isDone 875 = .ok (.if_icmp .ne 7, 3) := by decide +kernel
theorem dL_isDone_882 : decode cL_isDone 882 = .ok (.iconst 1, 1) := by decide +kernel
theorem dL_isDone_878 : decode cL_isDone 878 = .ok (.iconst 0, 1) := by decide +kernel
theorem dL_isDone_879 : decode cL_isDone 879 = .ok (.goto 4, 3) := by decide +kernel
theorem dL_isDone_883 : decode cL_isDone 883 = .ok (.iastore, 1) := by decide +kernel
theorem dL_isDone_884 : decode cL_isDone 884 = .ok (.iload 14, 2) := by decide +kernel
theorem dL_isDone_886 : decode cL_isDone 886 = .ok (.ifCond .eq 16, 3) := by decide +kernel
theorem dL_isDone_902 : decode cL_isDone 902 = .ok (.iload 15, 2) := by decide +kernel
theorem dL_isDone_904 : decode cL_isDone 904 = .ok (.iload 13, 2) := by decide +kernel
theorem dL_isDone_906 : decode cL_isDone 906 = .ok (.aload 5, 2) := by decide +kernel
theorem dL_isDone_908 : decode cL_isDone 908 = .ok (.bipush 8, 2) := by decide +kernel
theorem dL_isDone_910 : decode cL_isDone 910 = .ok (.iaload, 1) := by decide +kernel
theorem dL_isDone_911 : decode cL_isDone 911 = .ok (.if_icmp .ne 9, 3) := by decide +kernel
theorem dL_isDone_920 : decode cL_isDone 920 = .ok (.sipush (-1000), 3) := by decide +kernel
theorem dL_isDone_914 : decode cL_isDone 914 = .ok (.sipush (-3000), 3) := by decide +kernel
theorem dL_isDone_917 : decode cL_isDone 917 = .ok (.goto 6, 3) := by decide +kernel
theorem dL_isDone_889 : decode cL_isDone 889 = .ok (.iload 15, 2) := by decide +kernel
theorem dL_isDone_891 : decode cL_isDone 891 = .ok (.ifCond .lt 7, 3) := by decide +kernel
theorem dL_isDone_898 : decode cL_isDone 898 = .ok (.iconst 0, 1) := by decide +kernel
theorem dL_isDone_899 : decode cL_isDone 899 = .ok (.goto 32, 3) := by decide +kernel
theorem dL_isDone_931 : decode cL_isDone 931 = .ok (.ireturn, 1) := by decide +kernel
theorem dL_isDone_894 : decode cL_isDone 894 = .ok (.iconst 1, 1) := by decide +kernel
theorem dL_isDone_895 : decode cL_isDone 895 = .ok (.goto 36, 3) := by decide +kernel
theorem dL_isDone_923 : decode cL_isDone 923 = .ok (.if_icmp .ne 7, 3) := by decide +kernel
theorem dL_isDone_930 : decode cL_isDone 930 = .ok (.iconst 0, 1) := by decide +kernel
theorem dL_isDone_926 : decode cL_isDone 926 = .ok (.iconst 1, 1) := by decide +kernel
theorem dL_isDone_927 : decode cL_isDone 927 = .ok (.goto 4, 3) := by decide +kernel
theorem dL_isDone_975 : decode cL_isDone 975 = .ok (.iadd, 1) := by decide +kernel
theorem dL_isDone_976 : decode cL_isDone 976 = .ok (.iastore, 1) := by decide +kernel
theorem dL_isDone_977 : decode cL_isDone 977 = .ok (.iload 13, 2) := by decide +kernel
theorem dL_isDone_979 : decode cL_isDone 979 = .ok (.aload 5, 2) := by decide +kernel
theorem dL_isDone_981 : decode cL_isDone 981 = .ok (.iconst 4, 1) := by decide +kernel
theorem dL_isDone_982 : decode cL_isDone 982 = .ok (.iaload, 1) := by decide +kernel
theorem dL_isDone_983 : decode cL_isDone 983 = .ok (.if_icmp .ne 19, 3) := by decide +kernel
theorem dL_isDone_1002 : decode cL_isDone 1002 = .ok (.iload 14, 2) := by decide +kernel
theorem dL_isDone_1004 : decode cL_isDone 1004 = .ok (.ifCond .eq 11, 3) := by decide +kernel
theorem dL_isDone_1015 : decode cL_isDone 1015 = .ok (.iconst 1, 1) := by decide +kernel
theorem dL_isDone_1016 : decode cL_isDone 1016 = .ok (.goto 4, 3) := by decide +kernel
theorem dL_isDone_1020 : decode cL_isDone 1020 = .ok (.ireturn, 1) := by decide +kernel
theorem dL_isDone_1007 : decode cL_isDone 1007 = .ok (.iload 14, 2) := by decide +kernel
theorem dL_isDone_1009 : decode cL_isDone 1009 = .ok (.sipush (-1000), 3) := by decide +kernel
theorem dL_isDone_1012 : decode cL_isDone 1012 = .ok (.if_icmp .ne 7, 3) := by decide +kernel
theorem dL_isDone_1019 : decode cL_isDone 1019 = .ok (.iconst 0, 1) := by decide +kernel
theorem dL_isDone_986 : decode cL_isDone 986 = .ok (.iload 14, 2) := by decide +kernel
theorem dL_isDone_988 : decode cL_isDone 988 = .ok (.sipush (-3000), 3) := by decide +kernel
theorem dL_isDone_991 : decode cL_isDone 991 = .ok (.if_icmp .ne 7, 3) := by decide +kernel
theorem dL_isDone_998 : decode cL_isDone 998 = .ok (.iconst 0, 1) := by decide +kernel
theorem dL_isDone_999 : decode cL_isDone 999 = .ok (.goto 21, 3) := by decide +kernel
theorem dL_isDone_994 : decode cL_isDone 994 = .ok (.iconst 1, 1) := by decide +kernel
theorem dL_isDone_995 : decode cL_isDone 995 = .ok (.goto 25, 3) := by decide +kernel
set_option maxHeartbeats 4000000 in
set_option maxRecDepth 100000 in
theorem w_L_isDone_255 {p : Program} {l : Launch} {e : Env} {R : Room} {s : State} {m : MethodId} {args : Array Value} {below : List Frame} {meth : Method} {c : Code} {G : Gt} {ρ0 : Int → Nat} {M0 : Mo} {res : RS} (F : Fx p l R s m args meth c cL_isDone 17 RL G M0 15 (some FieldType.boolean)) (hno : ∀ x ∈ c.exceptionTable.toList, False) (hnm : meth.name = yL_isDone.name) (x0 x11 x13 x16 : Int) (M : Mo) (h : L_isDone_255 x0 x11 x13 x16 M = some res) : J p l e R s m args below meth c 17 G ρ0 M0 1 res M 255 [(0, (false, x0)), (11, (true, x11)), (13, (true, x13)), (16, (true, x16))] [] := by
  unfold L_isDone_255 at h
  refine j_aload_n F 0 rfl rfl dL_isDone_255 ?_
  refine j_iconst F dL_isDone_256 ?_
  refine j_iload F 1 rfl dL_isDone_257 ?_
  refine j_iload F 2 rfl dL_isDone_259 ?_
  refine j_iconst F dL_isDone_261 ?_
  refine j_iconst F dL_isDone_262 ?_
  refine j_iconst F dL_isDone_263 ?_
  refine j_iconst F dL_isDone_264 ?_
  refine j_iconst F dL_isDone_265 ?_
  refine j_callX (d' := 13) (argl := [(false, x0), (true, 1), (true, x11), (true, x13), (true, 0), (true, 0), (true, 0), (true, 0), (true, 0)]) (rk9 := 1) (st := []) F hno M_L_does q611 q610 ⟨by decide, by decide⟩ (Nat.le_of_ble_eq_true rfl) (by decide) dL_isDone_266 rfl h (fun z hz => c_L_does l F.ht G x0 1 x11 x13 0 0 0 0 0 M z hz) (fun v1 M2 h kl3 => ?_)
  refine j_st (st' := [(true, v1)]) rfl ?_
  refine j_iload F 3 rfl dL_isDone_269 ?_
  refine j_icmp_ne F 278 (by decide) dL_isDone_271 h (fun h => ?_) (fun h => ?_)
  · skip
    refine j_iconst F dL_isDone_278 ?_
    exact j_zret F (by decide) h dL_isDone_279
  · skip
    refine j_iconst F dL_isDone_274 ?_
    refine j_goto F 279 (by decide) dL_isDone_275 ?_
    exact j_zret F (by decide) h dL_isDone_279
set_option maxHeartbeats 4000000 in
set_option maxRecDepth 100000 in
theorem w_L_isDone_231 {p : Program} {l : Launch} {e : Env} {R : Room} {s : State} {m : MethodId} {args : Array Value} {below : List Frame} {meth : Method} {c : Code} {G : Gt} {ρ0 : Int → Nat} {M0 : Mo} {res : RS} (F : Fx p l R s m args meth c cL_isDone 17 RL G M0 15 (some FieldType.boolean)) (hno : ∀ x ∈ c.exceptionTable.toList, False) (hnm : meth.name = yL_isDone.name) (x0 x11 x12 x13 x15 y0 : Int) (M : Mo) (h : L_isDone_231 x0 x11 x12 x13 x15 y0 M = some res) : J p l e R s m args below meth c 17 G ρ0 M0 1 res M 231 [(0, (false, x0)), (11, (true, x11)), (12, (false, x12)), (13, (true, x13)), (15, (true, x15))] [(true, y0)] := by
  unfold L_isDone_231 at h
  refine j_istore F (lv' := [(16, (true, y0)), (0, (false, x0)), (11, (true, x11)), (12, (false, x12)), (13, (true, x13)), (15, (true, x15))]) (by decide) rfl dL_isDone_231 ?_
  refine j_iload F 5 rfl dL_isDone_233 ?_
  refine j_if_eq F 255 (by decide) dL_isDone_235 h (fun h => ?_) (fun h => ?_)
  · skip
    refine j_sub (lv' := [(0, (false, x0)), (11, (true, x11)), (13, (true, x13)), (16, (true, y0))]) [1, 2, 4, 0] rfl ?_
    exact w_L_isDone_255 F hno hnm x0 x11 x13 y0 M h
  · skip
    refine j_aload F 3 rfl dL_isDone_238 ?_
    refine j_aload F 3 rfl dL_isDone_240 ?_
    refine j_bipush F (by decide) dL_isDone_242 ?_
    obtain ⟨g1, h⟩ := gua h
    obtain ⟨g2, h⟩ := gua h
    refine j_iaload F g1 g2 dL_isDone_244 ?_
    refine j_aload F 3 rfl dL_isDone_245 ?_
    refine j_bipush F (by decide) dL_isDone_247 ?_
    obtain ⟨g3, h⟩ := gua h
    refine j_iaload F g1 g3 dL_isDone_249 ?_
    refine j_iload F 4 rfl dL_isDone_250 ?_
    refine j_callS (d' := 1) (argl := [(false, x12), (true, (el M 0 x12 (wr 63))), (true, (el M 0 x12 (wr 63))), (true, x13)]) (rk9 := 0) (st := []) F hno M_L_replaces q1627 q1626 ⟨by decide, by decide⟩ (Nat.le_of_ble_eq_true rfl) (by decide) dL_isDone_252 rfl h (fun z hz => c_L_replaces l F.ht G x12 (el M 0 x12 (wr 63)) (el M 0 x12 (wr 63)) x13 M z hz) (fun v4 M5 h kl6 => ?_)
    refine j_st (st' := []) rfl ?_
    refine j_sub (lv' := [(0, (false, x0)), (11, (true, x11)), (13, (true, x13)), (16, (true, y0))]) [1, 2, 4, 0] rfl ?_
    exact w_L_isDone_255 F hno hnm x0 x11 x13 y0 M5 h
set_option maxHeartbeats 4000000 in
set_option maxRecDepth 100000 in
theorem w_L_isDone_186 {p : Program} {l : Launch} {e : Env} {R : Room} {s : State} {m : MethodId} {args : Array Value} {below : List Frame} {meth : Method} {c : Code} {G : Gt} {ρ0 : Int → Nat} {M0 : Mo} {res : RS} (F : Fx p l R s m args meth c cL_isDone 17 RL G M0 15 (some FieldType.boolean)) (hno : ∀ x ∈ c.exceptionTable.toList, False) (hnm : meth.name = yL_isDone.name) (x0 x11 x12 x13 x14 x15 : Int) (M : Mo) (h : L_isDone_186 x0 x11 x12 x13 x14 x15 M = some res) : J p l e R s m args below meth c 17 G ρ0 M0 1 res M 186 [(0, (false, x0)), (11, (true, x11)), (12, (false, x12)), (13, (true, x13)), (14, (true, x14)), (15, (true, x15))] [] := by
  unfold L_isDone_186 at h
  refine j_iload F 1 rfl dL_isDone_186 ?_
  refine j_iconst F dL_isDone_188 ?_
  refine j_icmp_ne F 198 (by decide) dL_isDone_189 h (fun h => ?_) (fun h => ?_)
  · skip
    refine j_iload F 4 rfl dL_isDone_198 ?_
    refine j_if_ne F 209 (by decide) dL_isDone_200 h (fun h => ?_) (fun h => ?_)
    · skip
      refine j_iload F 5 rfl dL_isDone_209 ?_
      refine j_if_eq F 228 (by decide) dL_isDone_211 h (fun h => ?_) (fun h => ?_)
      · skip
        refine j_sipush F (by decide) dL_isDone_228 ?_
        refine j_sub (lv' := [(0, (false, x0)), (11, (true, x11)), (12, (false, x12)), (13, (true, x13)), (15, (true, x15))]) [0, 1, 2, 3, 5] rfl ?_
        exact w_L_isDone_231 F hno hnm x0 x11 x12 x13 x15 (-1000) M h
      · skip
        refine j_aload F 2 rfl dL_isDone_214 ?_
        refine j_bipush F (by decide) dL_isDone_216 ?_
        obtain ⟨g1, h⟩ := gua h
        obtain ⟨g2, h⟩ := gua h
        refine j_iaload F g1 g2 dL_isDone_218 ?_
        refine j_iload F 3 rfl dL_isDone_219 ?_
        refine j_callS (d' := 0) (argl := [(true, x13)]) (rk9 := 1) (st := [(true, (el M 0 x12 (wr 63)))]) F hno M_L_units q1624 q1623 ⟨by decide, by decide⟩ (Nat.le_of_ble_eq_true rfl) (by decide) dL_isDone_221 rfl h (fun z hz => c_L_units l F.ht G x13 M z hz) (fun v3 M4 h kl5 => ?_)
        refine j_st (st' := [(true, v3), (true, (el M 0 x12 (wr 63)))]) rfl ?_
        refine j_iadd F dL_isDone_224 ?_
        refine j_goto F 231 (by decide) dL_isDone_225 ?_
        refine j_sub (lv' := [(0, (false, x0)), (11, (true, x11)), (12, (false, x12)), (13, (true, x13)), (15, (true, x15))]) [0, 1, 2, 3, 5] rfl ?_
        exact w_L_isDone_231 F hno hnm x0 x11 x12 x13 x15 ((el M 0 x12 (wr 63)) + v3) M4 h
    · skip
      refine j_sipush F (by decide) dL_isDone_203 ?_
      refine j_goto F 231 (by decide) dL_isDone_206 ?_
      refine j_sub (lv' := [(0, (false, x0)), (11, (true, x11)), (12, (false, x12)), (13, (true, x13)), (15, (true, x15))]) [0, 1, 2, 3, 5] rfl ?_
      exact w_L_isDone_231 F hno hnm x0 x11 x12 x13 x15 (-2000) M h
  · skip
    refine j_sipush F (by decide) dL_isDone_192 ?_
    refine j_goto F 231 (by decide) dL_isDone_195 ?_
    refine j_sub (lv' := [(0, (false, x0)), (11, (true, x11)), (12, (false, x12)), (13, (true, x13)), (15, (true, x15))]) [0, 1, 2, 3, 5] rfl ?_
    exact w_L_isDone_231 F hno hnm x0 x11 x12 x13 x15 (-3000) M h
set_option maxHeartbeats 4000000 in
set_option maxRecDepth 100000 in
theorem w_L_isDone_156 {p : Program} {l : Launch} {e : Env} {R : Room} {s : State} {m : MethodId} {args : Array Value} {below : List Frame} {meth : Method} {c : Code} {G : Gt} {ρ0 : Int → Nat} {M0 : Mo} {res : RS} (F : Fx p l R s m args meth c cL_isDone 17 RL G M0 15 (some FieldType.boolean)) (hno : ∀ x ∈ c.exceptionTable.toList, False) (hnm : meth.name = yL_isDone.name) (x0 x11 x12 x13 x14 y0 : Int) (M : Mo) (h : L_isDone_156 x0 x11 x12 x13 x14 y0 M = some res) : J p l e R s m args below meth c 17 G ρ0 M0 1 res M 156 [(0, (false, x0)), (11, (true, x11)), (12, (false, x12)), (13, (true, x13)), (14, (true, x14))] [(true, y0)] := by
  unfold L_isDone_156 at h
  refine j_istore F (lv' := [(15, (true, y0)), (0, (false, x0)), (11, (true, x11)), (12, (false, x12)), (13, (true, x13)), (14, (true, x14))]) (by decide) rfl dL_isDone_156 ?_
  refine j_iload F 0 rfl dL_isDone_158 ?_
  refine j_if_eq F 186 (by decide) dL_isDone_160 h (fun h => ?_) (fun h => ?_)
  · skip
    refine j_sub (lv' := [(0, (false, x0)), (11, (true, x11)), (12, (false, x12)), (13, (true, x13)), (14, (true, x14)), (15, (true, y0))]) [1, 2, 3, 4, 5, 0] rfl ?_
    exact w_L_isDone_186 F hno hnm x0 x11 x12 x13 x14 y0 M h
  · skip
    refine j_aload F 3 rfl dL_isDone_163 ?_
    refine j_bipush F (by decide) dL_isDone_165 ?_
    obtain ⟨g1, h⟩ := gua h
    obtain ⟨g2, h⟩ := gua h
    refine j_iaload F g1 g2 dL_isDone_167 ?_
    refine j_iload F 4 rfl dL_isDone_168 ?_
    refine j_callS (d' := 0) (argl := [(true, x13)]) (rk9 := 1) (st := [(true, (el M 0 x12 (wr 63)))]) F hno M_L_units q1624 q1623 ⟨by decide, by decide⟩ (Nat.le_of_ble_eq_true rfl) (by decide) dL_isDone_170 rfl h (fun z hz => c_L_units l F.ht G x13 M z hz) (fun v3 M4 h kl5 => ?_)
    refine j_st (st' := [(true, v3), (true, (el M 0 x12 (wr 63)))]) rfl ?_
    refine j_iadd F dL_isDone_173 ?_
    refine j_bipush F (by decide) dL_isDone_174 ?_
    refine j_icmp_le F 186 (by decide) dL_isDone_176 h (fun h => ?_) (fun h => ?_)
    · skip
      refine j_sub (lv' := [(0, (false, x0)), (11, (true, x11)), (12, (false, x12)), (13, (true, x13)), (14, (true, x14)), (15, (true, y0))]) [1, 2, 3, 4, 5, 0] rfl ?_
      exact w_L_isDone_186 F hno hnm x0 x11 x12 x13 x14 y0 M4 h
    · skip
      refine j_aload_n F 1 rfl rfl dL_isDone_179 ?_
      refine j_iload F 2 rfl dL_isDone_180 ?_
      obtain ⟨g9, h⟩ := gua h
      refine j_callV (d' := 7) (argl := [(true, x11)]) (rk9 := 1) (st := []) F hno M_X11_agree q1592 q1593 q1591 ⟨by decide, by decide⟩ (Nat.le_of_ble_eq_true rfl) (by decide) (ci := 12) rfl (by decide) g9 dL_isDone_182 rfl h (fun z hz => c_X11_agree l F.ht G x0 x11 M4 z hz) (fun v6 M7 h kl8 => ?_)
      refine j_st (st' := [(true, v6)]) rfl ?_
      obtain ⟨g10, h⟩ := gua h
      exact j_zret F (nz_b g10) h dL_isDone_185
set_option maxHeartbeats 4000000 in
set_option maxRecDepth 100000 in
theorem w_L_isDone_155 {p : Program} {l : Launch} {e : Env} {R : Room} {s : State} {m : MethodId} {args : Array Value} {below : List Frame} {meth : Method} {c : Code} {G : Gt} {ρ0 : Int → Nat} {M0 : Mo} {res : RS} (F : Fx p l R s m args meth c cL_isDone 17 RL G M0 15 (some FieldType.boolean)) (hno : ∀ x ∈ c.exceptionTable.toList, False) (hnm : meth.name = yL_isDone.name) (x0 x11 x12 x13 x14 : Int) (M : Mo) (h : L_isDone_155 x0 x11 x12 x13 x14 M = some res) : J p l e R s m args below meth c 17 G ρ0 M0 1 res M 155 [(0, (false, x0)), (11, (true, x11)), (12, (false, x12)), (13, (true, x13)), (14, (true, x14))] [] := by
  unfold L_isDone_155 at h
  refine j_iconst F dL_isDone_155 ?_
  refine j_sub (lv' := [(0, (false, x0)), (11, (true, x11)), (12, (false, x12)), (13, (true, x13)), (14, (true, x14))]) [0, 1, 2, 3, 4] rfl ?_
  exact w_L_isDone_156 F hno hnm x0 x11 x12 x13 x14 0 M h
set_option maxHeartbeats 4000000 in
set_option maxRecDepth 100000 in
theorem w_L_isDone_126 {p : Program} {l : Launch} {e : Env} {R : Room} {s : State} {m : MethodId} {args : Array Value} {below : List Frame} {meth : Method} {c : Code} {G : Gt} {ρ0 : Int → Nat} {M0 : Mo} {res : RS} (F : Fx p l R s m args meth c cL_isDone 17 RL G M0 15 (some FieldType.boolean)) (hno : ∀ x ∈ c.exceptionTable.toList, False) (hnm : meth.name = yL_isDone.name) (x0 x5 x11 x12 x13 y0 : Int) (M : Mo) (h : L_isDone_126 x0 x5 x11 x12 x13 y0 M = some res) : J p l e R s m args below meth c 17 G ρ0 M0 1 res M 126 [(0, (false, x0)), (5, (false, x5)), (11, (true, x11)), (12, (false, x12)), (13, (true, x13))] [(true, y0)] := by
  unfold L_isDone_126 at h
  refine j_istore F (lv' := [(14, (true, y0)), (0, (false, x0)), (5, (false, x5)), (11, (true, x11)), (12, (false, x12)), (13, (true, x13))]) (by decide) rfl dL_isDone_126 ?_
  refine j_iload F 3 rfl dL_isDone_128 ?_
  refine j_iconst F dL_isDone_130 ?_
  refine j_icmp_ge F 155 (by decide) dL_isDone_131 h (fun h => ?_) (fun h => ?_)
  · skip
    refine j_sub (lv' := [(0, (false, x0)), (11, (true, x11)), (12, (false, x12)), (13, (true, x13)), (14, (true, y0))]) [1, 3, 4, 5, 0] rfl ?_
    exact w_L_isDone_155 F hno hnm x0 x11 x12 x13 y0 M h
  · skip
    refine j_iload F 0 rfl dL_isDone_134 ?_
    refine j_if_eq F 155 (by decide) dL_isDone_136 h (fun h => ?_) (fun h => ?_)
    · skip
      refine j_sub (lv' := [(0, (false, x0)), (11, (true, x11)), (12, (false, x12)), (13, (true, x13)), (14, (true, y0))]) [1, 3, 4, 5, 0] rfl ?_
      exact w_L_isDone_155 F hno hnm x0 x11 x12 x13 y0 M h
    · skip
      refine j_aload F 2 rfl dL_isDone_139 ?_
      refine j_iconst F dL_isDone_141 ?_
      refine j_iload F 3 rfl dL_isDone_142 ?_
      refine j_iconst F dL_isDone_144 ?_
      refine j_irem F (by decide) dL_isDone_145 ?_
      refine j_iadd F dL_isDone_146 ?_
      obtain ⟨g1, h⟩ := gua h
      obtain ⟨g2, h⟩ := gua h
      refine j_iaload F g1 g2 dL_isDone_147 ?_
      refine j_if_ge F 155 (by decide) dL_isDone_148 h (fun h => ?_) (fun h => ?_)
      · skip
        refine j_sub (lv' := [(0, (false, x0)), (11, (true, x11)), (12, (false, x12)), (13, (true, x13)), (14, (true, y0))]) [1, 3, 4, 5, 0] rfl ?_
        exact w_L_isDone_155 F hno hnm x0 x11 x12 x13 y0 M h
      · skip
        refine j_iconst F dL_isDone_151 ?_
        refine j_goto F 156 (by decide) dL_isDone_152 ?_
        refine j_sub (lv' := [(0, (false, x0)), (11, (true, x11)), (12, (false, x12)), (13, (true, x13)), (14, (true, y0))]) [1, 3, 4, 5, 0] rfl ?_
        exact w_L_isDone_156 F hno hnm x0 x11 x12 x13 y0 1 M h
set_option maxHeartbeats 4000000 in
set_option maxRecDepth 100000 in
theorem w_L_isDone_125 {p : Program} {l : Launch} {e : Env} {R : Room} {s : State} {m : MethodId} {args : Array Value} {below : List Frame} {meth : Method} {c : Code} {G : Gt} {ρ0 : Int → Nat} {M0 : Mo} {res : RS} (F : Fx p l R s m args meth c cL_isDone 17 RL G M0 15 (some FieldType.boolean)) (hno : ∀ x ∈ c.exceptionTable.toList, False) (hnm : meth.name = yL_isDone.name) (x0 x5 x11 x12 x13 : Int) (M : Mo) (h : L_isDone_125 x0 x5 x11 x12 x13 M = some res) : J p l e R s m args below meth c 17 G ρ0 M0 1 res M 125 [(0, (false, x0)), (5, (false, x5)), (11, (true, x11)), (12, (false, x12)), (13, (true, x13))] [] := by
  unfold L_isDone_125 at h
  refine j_iconst F dL_isDone_125 ?_
  refine j_sub (lv' := [(0, (false, x0)), (5, (false, x5)), (11, (true, x11)), (12, (false, x12)), (13, (true, x13))]) [0, 1, 2, 3, 4] rfl ?_
  exact w_L_isDone_126 F hno hnm x0 x5 x11 x12 x13 0 M h
set_option maxHeartbeats 4000000 in
set_option maxRecDepth 100000 in
theorem w_L_isDone_404 {p : Program} {l : Launch} {e : Env} {R : Room} {s : State} {m : MethodId} {args : Array Value} {below : List Frame} {meth : Method} {c : Code} {G : Gt} {ρ0 : Int → Nat} {M0 : Mo} {res : RS} (F : Fx p l R s m args meth c cL_isDone 17 RL G M0 15 (some FieldType.boolean)) (hno : ∀ x ∈ c.exceptionTable.toList, False) (hnm : meth.name = yL_isDone.name) (y0 y1 : Int) (M : Mo) (h : L_isDone_404 y0 y1 M = some res) : J p l e R s m args below meth c 17 G ρ0 M0 1 res M 404 [] [(true, y1), (true, y0)] := by
  unfold L_isDone_404 at h
  refine j_icmp_ne F 411 (by decide) dL_isDone_404 h (fun h => ?_) (fun h => ?_)
  · skip
    refine j_iconst F dL_isDone_411 ?_
    exact j_zret F (by decide) h dL_isDone_412
  · skip
    refine j_iconst F dL_isDone_407 ?_
    refine j_goto F 412 (by decide) dL_isDone_408 ?_
    exact j_zret F (by decide) h dL_isDone_412
set_option maxHeartbeats 4000000 in
set_option maxRecDepth 100000 in
theorem w_L_isDone_363 {p : Program} {l : Launch} {e : Env} {R : Room} {s : State} {m : MethodId} {args : Array Value} {below : List Frame} {meth : Method} {c : Code} {G : Gt} {ρ0 : Int → Nat} {M0 : Mo} {res : RS} (F : Fx p l R s m args meth c cL_isDone 17 RL G M0 15 (some FieldType.boolean)) (hno : ∀ x ∈ c.exceptionTable.toList, False) (hnm : meth.name = yL_isDone.name) (x0 x5 x10 x11 x13 x14 : Int) (M : Mo) (h : L_isDone_363 x0 x5 x10 x11 x13 x14 M = some res) : J p l e R s m args below meth c 17 G ρ0 M0 1 res M 363 [(0, (false, x0)), (5, (false, x5)), (10, (true, x10)), (11, (true, x11)), (13, (true, x13)), (14, (true, x14))] [] := by
  unfold L_isDone_363 at h
  refine j_aload_n F 0 rfl rfl dL_isDone_363 ?_
  refine j_iconst F dL_isDone_364 ?_
  refine j_iload F 2 rfl dL_isDone_365 ?_
  refine j_iload F 3 rfl dL_isDone_367 ?_
  refine j_iconst F dL_isDone_369 ?_
  refine j_iconst F dL_isDone_370 ?_
  refine j_iconst F dL_isDone_371 ?_
  refine j_iconst F dL_isDone_372 ?_
  refine j_iconst F dL_isDone_373 ?_
  refine j_callX (d' := 13) (argl := [(false, x0), (true, 3), (true, x10), (true, x11), (true, 0), (true, 0), (true, 0), (true, 0), (true, 0)]) (rk9 := 1) (st := []) F hno M_L_does q611 q610 ⟨by decide, by decide⟩ (Nat.le_of_ble_eq_true rfl) (by decide) dL_isDone_374 rfl h (fun z hz => c_L_does l F.ht G x0 3 x10 x11 0 0 0 0 0 M z hz) (fun v1 M2 h kl3 => ?_)
  refine j_st (st' := [(true, v1)]) rfl ?_
  refine j_iload F 4 rfl dL_isDone_377 ?_
  refine j_if_ne F 388 (by decide) dL_isDone_379 h (fun h => ?_) (fun h => ?_)
  · skip
    refine j_iload F 5 rfl dL_isDone_388 ?_
    refine j_if_eq F 401 (by decide) dL_isDone_390 h (fun h => ?_) (fun h => ?_)
    · skip
      refine j_sipush F (by decide) dL_isDone_401 ?_
      refine j_sub (lv' := []) [] rfl ?_
      exact w_L_isDone_404 F hno hnm v1 (-1000) M2 h
    · skip
      refine j_aload F 1 rfl dL_isDone_393 ?_
      refine j_iload F 3 rfl dL_isDone_395 ?_
      obtain ⟨g4, h⟩ := gua h
      obtain ⟨g5, h⟩ := gua h
      refine j_iaload F g4 g5 dL_isDone_397 ?_
      refine j_goto F 404 (by decide) dL_isDone_398 ?_
      refine j_sub (lv' := []) [] rfl ?_
      exact w_L_isDone_404 F hno hnm v1 (el M2 0 x5 (wr x11)) M2 h
  · skip
    refine j_sipush F (by decide) dL_isDone_382 ?_
    refine j_goto F 404 (by decide) dL_isDone_385 ?_
    refine j_sub (lv' := []) [] rfl ?_
    exact w_L_isDone_404 F hno hnm v1 (-3000) M2 h
set_option maxHeartbeats 4000000 in
set_option maxRecDepth 100000 in
theorem w_L_isDone_326 {p : Program} {l : Launch} {e : Env} {R : Room} {s : State} {m : MethodId} {args : Array Value} {below : List Frame} {meth : Method} {c : Code} {G : Gt} {ρ0 : Int → Nat} {M0 : Mo} {res : RS} (F : Fx p l R s m args meth c cL_isDone 17 RL G M0 15 (some FieldType.boolean)) (hno : ∀ x ∈ c.exceptionTable.toList, False) (hnm : meth.name = yL_isDone.name) (x0 x5 x10 x11 x13 y0 : Int) (M : Mo) (h : L_isDone_326 x0 x5 x10 x11 x13 y0 M = some res) : J p l e R s m args below meth c 17 G ρ0 M0 1 res M 326 [(0, (false, x0)), (5, (false, x5)), (10, (true, x10)), (11, (true, x11)), (13, (true, x13))] [(true, y0)] := by
  unfold L_isDone_326 at h
  refine j_istore F (lv' := [(14, (true, y0)), (0, (false, x0)), (5, (false, x5)), (10, (true, x10)), (11, (true, x11)), (13, (true, x13))]) (by decide) rfl dL_isDone_326 ?_
  refine j_iload F 0 rfl dL_isDone_328 ?_
  refine j_if_eq F 363 (by decide) dL_isDone_330 h (fun h => ?_) (fun h => ?_)
  · skip
    refine j_sub (lv' := [(0, (false, x0)), (5, (false, x5)), (10, (true, x10)), (11, (true, x11)), (13, (true, x13)), (14, (true, y0))]) [1, 2, 3, 4, 5, 0] rfl ?_
    exact w_L_isDone_363 F hno hnm x0 x5 x10 x11 x13 y0 M h
  · skip
    refine j_aload F 2 rfl dL_isDone_333 ?_
    refine j_iconst F dL_isDone_335 ?_
    refine j_iload F 4 rfl dL_isDone_336 ?_
    refine j_iadd F dL_isDone_338 ?_
    refine j_iload F 3 rfl dL_isDone_339 ?_
    obtain ⟨g1, h⟩ := gua h
    obtain ⟨g2, h⟩ := gua h
    refine j_iastore F g1 g2 dL_isDone_341 ?_
    obtain ⟨M3, hM3⟩ : ∃ Z, Z = sE M 0 x5 (wr (2 + x11)) x10 := ⟨_, rfl⟩
    have kl4 : kle M M3 := by rw [hM3]; exact kle_sE
    rw [← hM3]
    replace h := pt_as h hM3
    refine j_aload F 2 rfl dL_isDone_342 ?_
    refine j_iload F 4 rfl dL_isDone_344 ?_
    refine j_dup2 F dL_isDone_346 ?_
    obtain ⟨g5, h⟩ := gua h
    refine j_iaload F (kl4.is g1) g5 dL_isDone_347 ?_
    refine j_iconst F dL_isDone_348 ?_
    refine j_iadd F dL_isDone_349 ?_
    obtain ⟨g6, h⟩ := gua h
    refine j_iastore F (kl4.is g1) g6 dL_isDone_350 ?_
    obtain ⟨M7, hM7⟩ : ∃ Z, Z = sE M3 0 x5 (wr x11) ((el M3 0 x5 (wr x11)) + 1) := ⟨_, rfl⟩
    have kl8 : kle M3 M7 := by rw [hM7]; exact kle_sE
    rw [← hM7]
    replace h := pt_as h hM7
    refine j_aload F 2 rfl dL_isDone_351 ?_
    refine j_bipush F (by decide) dL_isDone_353 ?_
    refine j_iload F 3 rfl dL_isDone_355 ?_
    refine j_iadd F dL_isDone_357 ?_
    refine j_dup2 F dL_isDone_358 ?_
    obtain ⟨g9, h⟩ := gua h
    refine j_iaload F (kl8.is (kl4.is g1)) g9 dL_isDone_359 ?_
    refine j_iconst F dL_isDone_360 ?_
    refine j_iadd F dL_isDone_361 ?_
    obtain ⟨g10, h⟩ := gua h
    refine j_iastore F (kl8.is (kl4.is g1)) g10 dL_isDone_362 ?_
    obtain ⟨M11, hM11⟩ : ∃ Z, Z = sE M7 0 x5 (wr (6 + x10)) ((el M7 0 x5 (wr (6 + x10))) + 1) := ⟨_, rfl⟩
    have kl12 : kle M7 M11 := by rw [hM11]; exact kle_sE
    rw [← hM11]
    replace h := pt_as h hM11
    refine j_sub (lv' := [(0, (false, x0)), (5, (false, x5)), (10, (true, x10)), (11, (true, x11)), (13, (true, x13)), (14, (true, y0))]) [1, 2, 3, 4, 5, 0] rfl ?_
    exact w_L_isDone_363 F hno hnm x0 x5 x10 x11 x13 y0 M11 h
set_option maxHeartbeats 4000000 in
set_option maxRecDepth 100000 in
theorem w_L_isDone_325 {p : Program} {l : Launch} {e : Env} {R : Room} {s : State} {m : MethodId} {args : Array Value} {below : List Frame} {meth : Method} {c : Code} {G : Gt} {ρ0 : Int → Nat} {M0 : Mo} {res : RS} (F : Fx p l R s m args meth c cL_isDone 17 RL G M0 15 (some FieldType.boolean)) (hno : ∀ x ∈ c.exceptionTable.toList, False) (hnm : meth.name = yL_isDone.name) (x0 x5 x10 x11 x13 : Int) (M : Mo) (h : L_isDone_325 x0 x5 x10 x11 x13 M = some res) : J p l e R s m args below meth c 17 G ρ0 M0 1 res M 325 [(0, (false, x0)), (5, (false, x5)), (10, (true, x10)), (11, (true, x11)), (13, (true, x13))] [] := by
  unfold L_isDone_325 at h
  refine j_iconst F dL_isDone_325 ?_
  refine j_sub (lv' := [(0, (false, x0)), (5, (false, x5)), (10, (true, x10)), (11, (true, x11)), (13, (true, x13))]) [0, 1, 2, 3, 4] rfl ?_
  exact w_L_isDone_326 F hno hnm x0 x5 x10 x11 x13 0 M h
set_option maxHeartbeats 4000000 in
set_option maxRecDepth 100000 in
theorem w_L_isDone_304 {p : Program} {l : Launch} {e : Env} {R : Room} {s : State} {m : MethodId} {args : Array Value} {below : List Frame} {meth : Method} {c : Code} {G : Gt} {ρ0 : Int → Nat} {M0 : Mo} {res : RS} (F : Fx p l R s m args meth c cL_isDone 17 RL G M0 15 (some FieldType.boolean)) (hno : ∀ x ∈ c.exceptionTable.toList, False) (hnm : meth.name = yL_isDone.name) (x0 x5 x10 x11 y0 : Int) (M : Mo) (h : L_isDone_304 x0 x5 x10 x11 y0 M = some res) : J p l e R s m args below meth c 17 G ρ0 M0 1 res M 304 [(0, (false, x0)), (5, (false, x5)), (10, (true, x10)), (11, (true, x11))] [(true, y0)] := by
  unfold L_isDone_304 at h
  refine j_istore F (lv' := [(13, (true, y0)), (0, (false, x0)), (5, (false, x5)), (10, (true, x10)), (11, (true, x11))]) (by decide) rfl dL_isDone_304 ?_
  refine j_iload F 0 rfl dL_isDone_306 ?_
  refine j_if_eq F 325 (by decide) dL_isDone_308 h (fun h => ?_) (fun h => ?_)
  · skip
    refine j_sub (lv' := [(0, (false, x0)), (5, (false, x5)), (10, (true, x10)), (11, (true, x11)), (13, (true, y0))]) [1, 2, 3, 4, 0] rfl ?_
    exact w_L_isDone_325 F hno hnm x0 x5 x10 x11 y0 M h
  · skip
    refine j_aload F 2 rfl dL_isDone_311 ?_
    refine j_iconst F dL_isDone_313 ?_
    refine j_iload F 4 rfl dL_isDone_314 ?_
    refine j_iadd F dL_isDone_316 ?_
    obtain ⟨g1, h⟩ := gua h
    obtain ⟨g2, h⟩ := gua h
    refine j_iaload F g1 g2 dL_isDone_317 ?_
    refine j_if_ge F 325 (by decide) dL_isDone_318 h (fun h => ?_) (fun h => ?_)
    · skip
      refine j_sub (lv' := [(0, (false, x0)), (5, (false, x5)), (10, (true, x10)), (11, (true, x11)), (13, (true, y0))]) [1, 2, 3, 4, 0] rfl ?_
      exact w_L_isDone_325 F hno hnm x0 x5 x10 x11 y0 M h
    · skip
      refine j_iconst F dL_isDone_321 ?_
      refine j_goto F 326 (by decide) dL_isDone_322 ?_
      refine j_sub (lv' := [(0, (false, x0)), (5, (false, x5)), (10, (true, x10)), (11, (true, x11)), (13, (true, y0))]) [1, 2, 3, 4, 0] rfl ?_
      exact w_L_isDone_326 F hno hnm x0 x5 x10 x11 y0 1 M h
set_option maxHeartbeats 4000000 in
set_option maxRecDepth 100000 in
theorem w_L_isDone_303 {p : Program} {l : Launch} {e : Env} {R : Room} {s : State} {m : MethodId} {args : Array Value} {below : List Frame} {meth : Method} {c : Code} {G : Gt} {ρ0 : Int → Nat} {M0 : Mo} {res : RS} (F : Fx p l R s m args meth c cL_isDone 17 RL G M0 15 (some FieldType.boolean)) (hno : ∀ x ∈ c.exceptionTable.toList, False) (hnm : meth.name = yL_isDone.name) (x0 x5 x10 x11 : Int) (M : Mo) (h : L_isDone_303 x0 x5 x10 x11 M = some res) : J p l e R s m args below meth c 17 G ρ0 M0 1 res M 303 [(0, (false, x0)), (5, (false, x5)), (10, (true, x10)), (11, (true, x11))] [] := by
  unfold L_isDone_303 at h
  refine j_iconst F dL_isDone_303 ?_
  refine j_sub (lv' := [(0, (false, x0)), (5, (false, x5)), (10, (true, x10)), (11, (true, x11))]) [0, 1, 2, 3] rfl ?_
  exact w_L_isDone_304 F hno hnm x0 x5 x10 x11 0 M h
set_option maxHeartbeats 4000000 in
set_option maxRecDepth 100000 in
theorem w_L_isDone_525 {p : Program} {l : Launch} {e : Env} {R : Room} {s : State} {m : MethodId} {args : Array Value} {below : List Frame} {meth : Method} {c : Code} {G : Gt} {ρ0 : Int → Nat} {M0 : Mo} {res : RS} (F : Fx p l R s m args meth c cL_isDone 17 RL G M0 15 (some FieldType.boolean)) (hno : ∀ x ∈ c.exceptionTable.toList, False) (hnm : meth.name = yL_isDone.name) (y0 y1 : Int) (M : Mo) (h : L_isDone_525 y0 y1 M = some res) : J p l e R s m args below meth c 17 G ρ0 M0 1 res M 525 [] [(true, y1), (true, y0)] := by
  unfold L_isDone_525 at h
  refine j_icmp_ne F 532 (by decide) dL_isDone_525 h (fun h => ?_) (fun h => ?_)
  · skip
    refine j_iconst F dL_isDone_532 ?_
    exact j_zret F (by decide) h dL_isDone_533
  · skip
    refine j_iconst F dL_isDone_528 ?_
    refine j_goto F 533 (by decide) dL_isDone_529 ?_
    exact j_zret F (by decide) h dL_isDone_533
set_option maxHeartbeats 4000000 in
set_option maxRecDepth 100000 in
theorem w_L_isDone_488 {p : Program} {l : Launch} {e : Env} {R : Room} {s : State} {m : MethodId} {args : Array Value} {below : List Frame} {meth : Method} {c : Code} {G : Gt} {ρ0 : Int → Nat} {M0 : Mo} {res : RS} (F : Fx p l R s m args meth c cL_isDone 17 RL G M0 15 (some FieldType.boolean)) (hno : ∀ x ∈ c.exceptionTable.toList, False) (hnm : meth.name = yL_isDone.name) (x0 x10 x11 x13 x14 : Int) (M : Mo) (h : L_isDone_488 x0 x10 x11 x13 x14 M = some res) : J p l e R s m args below meth c 17 G ρ0 M0 1 res M 488 [(0, (false, x0)), (10, (true, x10)), (11, (true, x11)), (13, (true, x13)), (14, (true, x14))] [] := by
  unfold L_isDone_488 at h
  refine j_aload_n F 0 rfl rfl dL_isDone_488 ?_
  refine j_iconst F dL_isDone_489 ?_
  refine j_iload F 1 rfl dL_isDone_490 ?_
  refine j_iload F 2 rfl dL_isDone_492 ?_
  refine j_iconst F dL_isDone_494 ?_
  refine j_iconst F dL_isDone_495 ?_
  refine j_iconst F dL_isDone_496 ?_
  refine j_iconst F dL_isDone_497 ?_
  refine j_iconst F dL_isDone_498 ?_
  refine j_callX (d' := 13) (argl := [(false, x0), (true, 4), (true, x10), (true, x11), (true, 0), (true, 0), (true, 0), (true, 0), (true, 0)]) (rk9 := 1) (st := []) F hno M_L_does q611 q610 ⟨by decide, by decide⟩ (Nat.le_of_ble_eq_true rfl) (by decide) dL_isDone_499 rfl h (fun z hz => c_L_does l F.ht G x0 4 x10 x11 0 0 0 0 0 M z hz) (fun v1 M2 h kl3 => ?_)
  refine j_st (st' := [(true, v1)]) rfl ?_
  refine j_iload F 3 rfl dL_isDone_502 ?_
  refine j_if_ne F 513 (by decide) dL_isDone_504 h (fun h => ?_) (fun h => ?_)
  · skip
    refine j_iload F 4 rfl dL_isDone_513 ?_
    refine j_if_eq F 522 (by decide) dL_isDone_515 h (fun h => ?_) (fun h => ?_)
    · skip
      refine j_sipush F (by decide) dL_isDone_522 ?_
      refine j_sub (lv' := []) [] rfl ?_
      exact w_L_isDone_525 F hno hnm v1 (-1000) M2 h
    · skip
      refine j_iconst F dL_isDone_518 ?_
      refine j_goto F 525 (by decide) dL_isDone_519 ?_
      refine j_sub (lv' := []) [] rfl ?_
      exact w_L_isDone_525 F hno hnm v1 0 M2 h
  · skip
    refine j_sipush F (by decide) dL_isDone_507 ?_
    refine j_goto F 525 (by decide) dL_isDone_510 ?_
    refine j_sub (lv' := []) [] rfl ?_
    exact w_L_isDone_525 F hno hnm v1 (-3000) M2 h
set_option maxHeartbeats 4000000 in
set_option maxRecDepth 100000 in
theorem w_L_isDone_461 {p : Program} {l : Launch} {e : Env} {R : Room} {s : State} {m : MethodId} {args : Array Value} {below : List Frame} {meth : Method} {c : Code} {G : Gt} {ρ0 : Int → Nat} {M0 : Mo} {res : RS} (F : Fx p l R s m args meth c cL_isDone 17 RL G M0 15 (some FieldType.boolean)) (hno : ∀ x ∈ c.exceptionTable.toList, False) (hnm : meth.name = yL_isDone.name) (x0 x5 x10 x11 x13 y0 : Int) (M : Mo) (h : L_isDone_461 x0 x5 x10 x11 x13 y0 M = some res) : J p l e R s m args below meth c 17 G ρ0 M0 1 res M 461 [(0, (false, x0)), (5, (false, x5)), (10, (true, x10)), (11, (true, x11)), (13, (true, x13))] [(true, y0)] := by
  unfold L_isDone_461 at h
  refine j_istore F (lv' := [(14, (true, y0)), (0, (false, x0)), (5, (false, x5)), (10, (true, x10)), (11, (true, x11)), (13, (true, x13))]) (by decide) rfl dL_isDone_461 ?_
  refine j_iload F 0 rfl dL_isDone_463 ?_
  refine j_if_eq F 488 (by decide) dL_isDone_465 h (fun h => ?_) (fun h => ?_)
  · skip
    refine j_sub (lv' := [(0, (false, x0)), (10, (true, x10)), (11, (true, x11)), (13, (true, x13)), (14, (true, y0))]) [1, 3, 4, 5, 0] rfl ?_
    exact w_L_isDone_488 F hno hnm x0 x10 x11 x13 y0 M h
  · skip
    refine j_aload F 2 rfl dL_isDone_468 ?_
    refine j_iconst F dL_isDone_470 ?_
    refine j_iload F 4 rfl dL_isDone_471 ?_
    refine j_iadd F dL_isDone_473 ?_
    refine j_iconst F dL_isDone_474 ?_
    obtain ⟨g1, h⟩ := gua h
    obtain ⟨g2, h⟩ := gua h
    refine j_iastore F g1 g2 dL_isDone_475 ?_
    obtain ⟨M3, hM3⟩ : ∃ Z, Z = sE M 0 x5 (wr (2 + x11)) (-1) := ⟨_, rfl⟩
    have kl4 : kle M M3 := by rw [hM3]; exact kle_sE
    rw [← hM3]
    replace h := pt_as h hM3
    refine j_aload F 2 rfl dL_isDone_476 ?_
    refine j_bipush F (by decide) dL_isDone_478 ?_
    refine j_iload F 3 rfl dL_isDone_480 ?_
    refine j_iadd F dL_isDone_482 ?_
    refine j_dup2 F dL_isDone_483 ?_
    obtain ⟨g5, h⟩ := gua h
    refine j_iaload F (kl4.is g1) g5 dL_isDone_484 ?_
    refine j_iconst F dL_isDone_485 ?_
    refine j_iadd F dL_isDone_486 ?_
    obtain ⟨g6, h⟩ := gua h
    refine j_iastore F (kl4.is g1) g6 dL_isDone_487 ?_
    obtain ⟨M7, hM7⟩ : ∃ Z, Z = sE M3 0 x5 (wr (6 + x10)) ((el M3 0 x5 (wr (6 + x10))) + 1) := ⟨_, rfl⟩
    have kl8 : kle M3 M7 := by rw [hM7]; exact kle_sE
    rw [← hM7]
    replace h := pt_as h hM7
    refine j_sub (lv' := [(0, (false, x0)), (10, (true, x10)), (11, (true, x11)), (13, (true, x13)), (14, (true, y0))]) [1, 3, 4, 5, 0] rfl ?_
    exact w_L_isDone_488 F hno hnm x0 x10 x11 x13 y0 M7 h
set_option maxHeartbeats 4000000 in
set_option maxRecDepth 100000 in
theorem w_L_isDone_460 {p : Program} {l : Launch} {e : Env} {R : Room} {s : State} {m : MethodId} {args : Array Value} {below : List Frame} {meth : Method} {c : Code} {G : Gt} {ρ0 : Int → Nat} {M0 : Mo} {res : RS} (F : Fx p l R s m args meth c cL_isDone 17 RL G M0 15 (some FieldType.boolean)) (hno : ∀ x ∈ c.exceptionTable.toList, False) (hnm : meth.name = yL_isDone.name) (x0 x5 x10 x11 x13 : Int) (M : Mo) (h : L_isDone_460 x0 x5 x10 x11 x13 M = some res) : J p l e R s m args below meth c 17 G ρ0 M0 1 res M 460 [(0, (false, x0)), (5, (false, x5)), (10, (true, x10)), (11, (true, x11)), (13, (true, x13))] [] := by
  unfold L_isDone_460 at h
  refine j_iconst F dL_isDone_460 ?_
  refine j_sub (lv' := [(0, (false, x0)), (5, (false, x5)), (10, (true, x10)), (11, (true, x11)), (13, (true, x13))]) [0, 1, 2, 3, 4] rfl ?_
  exact w_L_isDone_461 F hno hnm x0 x5 x10 x11 x13 0 M h
set_option maxHeartbeats 4000000 in
set_option maxRecDepth 100000 in
theorem w_L_isDone_437 {p : Program} {l : Launch} {e : Env} {R : Room} {s : State} {m : MethodId} {args : Array Value} {below : List Frame} {meth : Method} {c : Code} {G : Gt} {ρ0 : Int → Nat} {M0 : Mo} {res : RS} (F : Fx p l R s m args meth c cL_isDone 17 RL G M0 15 (some FieldType.boolean)) (hno : ∀ x ∈ c.exceptionTable.toList, False) (hnm : meth.name = yL_isDone.name) (x0 x5 x10 x11 y0 : Int) (M : Mo) (h : L_isDone_437 x0 x5 x10 x11 y0 M = some res) : J p l e R s m args below meth c 17 G ρ0 M0 1 res M 437 [(0, (false, x0)), (5, (false, x5)), (10, (true, x10)), (11, (true, x11))] [(true, y0)] := by
  unfold L_isDone_437 at h
  refine j_istore F (lv' := [(13, (true, y0)), (0, (false, x0)), (5, (false, x5)), (10, (true, x10)), (11, (true, x11))]) (by decide) rfl dL_isDone_437 ?_
  refine j_iload F 0 rfl dL_isDone_439 ?_
  refine j_if_eq F 460 (by decide) dL_isDone_441 h (fun h => ?_) (fun h => ?_)
  · skip
    refine j_sub (lv' := [(0, (false, x0)), (5, (false, x5)), (10, (true, x10)), (11, (true, x11)), (13, (true, y0))]) [1, 2, 3, 4, 0] rfl ?_
    exact w_L_isDone_460 F hno hnm x0 x5 x10 x11 y0 M h
  · skip
    refine j_aload F 2 rfl dL_isDone_444 ?_
    refine j_iconst F dL_isDone_446 ?_
    refine j_iload F 4 rfl dL_isDone_447 ?_
    refine j_iadd F dL_isDone_449 ?_
    obtain ⟨g1, h⟩ := gua h
    obtain ⟨g2, h⟩ := gua h
    refine j_iaload F g1 g2 dL_isDone_450 ?_
    refine j_iload F 3 rfl dL_isDone_451 ?_
    refine j_icmp_ne F 460 (by decide) dL_isDone_453 h (fun h => ?_) (fun h => ?_)
    · skip
      refine j_sub (lv' := [(0, (false, x0)), (5, (false, x5)), (10, (true, x10)), (11, (true, x11)), (13, (true, y0))]) [1, 2, 3, 4, 0] rfl ?_
      exact w_L_isDone_460 F hno hnm x0 x5 x10 x11 y0 M h
    · skip
      refine j_iconst F dL_isDone_456 ?_
      refine j_goto F 461 (by decide) dL_isDone_457 ?_
      refine j_sub (lv' := [(0, (false, x0)), (5, (false, x5)), (10, (true, x10)), (11, (true, x11)), (13, (true, y0))]) [1, 2, 3, 4, 0] rfl ?_
      exact w_L_isDone_461 F hno hnm x0 x5 x10 x11 y0 1 M h
set_option maxHeartbeats 4000000 in
set_option maxRecDepth 100000 in
theorem w_L_isDone_436 {p : Program} {l : Launch} {e : Env} {R : Room} {s : State} {m : MethodId} {args : Array Value} {below : List Frame} {meth : Method} {c : Code} {G : Gt} {ρ0 : Int → Nat} {M0 : Mo} {res : RS} (F : Fx p l R s m args meth c cL_isDone 17 RL G M0 15 (some FieldType.boolean)) (hno : ∀ x ∈ c.exceptionTable.toList, False) (hnm : meth.name = yL_isDone.name) (x0 x5 x10 x11 : Int) (M : Mo) (h : L_isDone_436 x0 x5 x10 x11 M = some res) : J p l e R s m args below meth c 17 G ρ0 M0 1 res M 436 [(0, (false, x0)), (5, (false, x5)), (10, (true, x10)), (11, (true, x11))] [] := by
  unfold L_isDone_436 at h
  refine j_iconst F dL_isDone_436 ?_
  refine j_sub (lv' := [(0, (false, x0)), (5, (false, x5)), (10, (true, x10)), (11, (true, x11))]) [0, 1, 2, 3] rfl ?_
  exact w_L_isDone_437 F hno hnm x0 x5 x10 x11 0 M h
set_option maxHeartbeats 4000000 in
set_option maxRecDepth 100000 in
theorem w_L_isDone_583 {p : Program} {l : Launch} {e : Env} {R : Room} {s : State} {m : MethodId} {args : Array Value} {below : List Frame} {meth : Method} {c : Code} {G : Gt} {ρ0 : Int → Nat} {M0 : Mo} {res : RS} (F : Fx p l R s m args meth c cL_isDone 17 RL G M0 15 (some FieldType.boolean)) (hno : ∀ x ∈ c.exceptionTable.toList, False) (hnm : meth.name = yL_isDone.name) (x0 x3 x4 x5 x7 x8 x9 x11 y0 : Int) (M : Mo) (h : L_isDone_583 x0 x3 x4 x5 x7 x8 x9 x11 y0 M = some res) : J p l e R s m args below meth c 17 G ρ0 M0 1 res M 583 [(0, (false, x0)), (3, (false, x3)), (4, (false, x4)), (5, (false, x5)), (7, (true, x7)), (8, (true, x8)), (9, (true, x9)), (11, (true, x11))] [(true, y0)] := by
  unfold L_isDone_583 at h
  refine j_istore F (lv' := [(13, (true, y0)), (0, (false, x0)), (3, (false, x3)), (4, (false, x4)), (5, (false, x5)), (7, (true, x7)), (8, (true, x8)), (9, (true, x9)), (11, (true, x11))]) (by decide) rfl dL_isDone_583 ?_
  refine j_aload_n F 1 rfl rfl dL_isDone_585 ?_
  refine j_aload_n F 2 rfl rfl dL_isDone_586 ?_
  refine j_aload F 3 rfl dL_isDone_587 ?_
  refine j_aload F 4 rfl dL_isDone_589 ?_
  refine j_iload F 0 rfl dL_isDone_591 ?_
  refine j_iload F 8 rfl dL_isDone_593 ?_
  refine j_iload F 5 rfl dL_isDone_595 ?_
  refine j_iload F 6 rfl dL_isDone_597 ?_
  refine j_iconst F dL_isDone_599 ?_
  refine j_idiv F (by decide) dL_isDone_600 ?_
  refine j_iload F 7 rfl dL_isDone_601 ?_
  refine j_callS (d' := 14) (argl := [(false, x0), (false, x3), (false, x4), (false, x5), (true, y0), (true, x11), (true, x7), (true, (idv x8 4)), (true, x9)]) (rk9 := 1) (st := []) F hno M_L_isChanged q1632 q1631 ⟨by decide, by decide⟩ (Nat.le_of_ble_eq_true rfl) (by decide) dL_isDone_603 rfl h (fun z hz => c_L_isChanged l F.ht G x0 x3 x4 x5 y0 x11 x7 (idv x8 4) x9 M z hz) (fun v1 M2 h kl3 => ?_)
  refine j_st (st' := [(true, v1)]) rfl ?_
  obtain ⟨g4, h⟩ := gua h
  exact j_zret F (nz_b g4) h dL_isDone_606
set_option maxHeartbeats 4000000 in
set_option maxRecDepth 100000 in
theorem w_L_isDone_581 {p : Program} {l : Launch} {e : Env} {R : Room} {s : State} {m : MethodId} {args : Array Value} {below : List Frame} {meth : Method} {c : Code} {G : Gt} {ρ0 : Int → Nat} {M0 : Mo} {res : RS} (F : Fx p l R s m args meth c cL_isDone 17 RL G M0 15 (some FieldType.boolean)) (hno : ∀ x ∈ c.exceptionTable.toList, False) (hnm : meth.name = yL_isDone.name) (x0 x3 x4 x5 x7 x8 x9 x10 x11 : Int) (M : Mo) (h : L_isDone_581 x0 x3 x4 x5 x7 x8 x9 x10 x11 M = some res) : J p l e R s m args below meth c 17 G ρ0 M0 1 res M 581 [(0, (false, x0)), (3, (false, x3)), (4, (false, x4)), (5, (false, x5)), (7, (true, x7)), (8, (true, x8)), (9, (true, x9)), (10, (true, x10)), (11, (true, x11))] [] := by
  unfold L_isDone_581 at h
  refine j_iload F 7 rfl dL_isDone_581 ?_
  refine j_sub (lv' := [(0, (false, x0)), (3, (false, x3)), (4, (false, x4)), (5, (false, x5)), (7, (true, x7)), (8, (true, x8)), (9, (true, x9)), (11, (true, x11))]) [0, 1, 2, 3, 4, 5, 6, 8] rfl ?_
  exact w_L_isDone_583 F hno hnm x0 x3 x4 x5 x7 x8 x9 x11 x10 M h
set_option maxHeartbeats 4000000 in
set_option maxRecDepth 100000 in
theorem w_L_isDone_767 {p : Program} {l : Launch} {e : Env} {R : Room} {s : State} {m : MethodId} {args : Array Value} {below : List Frame} {meth : Method} {c : Code} {G : Gt} {ρ0 : Int → Nat} {M0 : Mo} {res : RS} (F : Fx p l R s m args meth c cL_isDone 17 RL G M0 15 (some FieldType.boolean)) (hno : ∀ x ∈ c.exceptionTable.toList, False) (hnm : meth.name = yL_isDone.name) (x15 y0 y1 y2 y3 : Int) (M : Mo) (h : L_isDone_767 x15 y0 y1 y2 y3 M = some res) : J p l e R s m args below meth c 17 G ρ0 M0 1 res M 767 [(15, (true, x15))] [(true, y3), (true, y2), (true, y1), (false, y0)] := by
  unfold L_isDone_767 at h
  refine j_isub F dL_isDone_767 ?_
  obtain ⟨g1, h⟩ := gua h
  obtain ⟨g2, h⟩ := gua h
  refine j_iastore F g1 g2 dL_isDone_768 ?_
  obtain ⟨M3, hM3⟩ : ∃ Z, Z = sE M 0 y0 (wr y1) (y2 - y3) := ⟨_, rfl⟩
  have kl4 : kle M M3 := by rw [hM3]; exact kle_sE
  rw [← hM3]
  replace h := pt_as h hM3
  refine j_iload F 0 rfl dL_isDone_769 ?_
  obtain ⟨g5, h⟩ := gua h
  exact j_zret F (nz_b g5) h dL_isDone_771
set_option maxHeartbeats 4000000 in
set_option maxRecDepth 100000 in
theorem w_L_isDone_740 {p : Program} {l : Launch} {e : Env} {R : Room} {s : State} {m : MethodId} {args : Array Value} {below : List Frame} {meth : Method} {c : Code} {G : Gt} {ρ0 : Int → Nat} {M0 : Mo} {res : RS} (F : Fx p l R s m args meth c cL_isDone 17 RL G M0 15 (some FieldType.boolean)) (hno : ∀ x ∈ c.exceptionTable.toList, False) (hnm : meth.name = yL_isDone.name) (x5 x13 y0 : Int) (M : Mo) (h : L_isDone_740 x5 x13 y0 M = some res) : J p l e R s m args below meth c 17 G ρ0 M0 1 res M 740 [(5, (false, x5)), (13, (true, x13))] [(true, y0)] := by
  unfold L_isDone_740 at h
  refine j_istore F (lv' := [(15, (true, y0)), (5, (false, x5)), (13, (true, x13))]) (by decide) rfl dL_isDone_740 ?_
  refine j_aload F 1 rfl dL_isDone_742 ?_
  refine j_bipush F (by decide) dL_isDone_744 ?_
  refine j_iload F 2 rfl dL_isDone_746 ?_
  refine j_iadd F dL_isDone_748 ?_
  refine j_dup2 F dL_isDone_749 ?_
  obtain ⟨g1, h⟩ := gua h
  obtain ⟨g2, h⟩ := gua h
  refine j_iaload F g1 g2 dL_isDone_750 ?_
  refine j_aload F 1 rfl dL_isDone_751 ?_
  refine j_bipush F (by decide) dL_isDone_753 ?_
  refine j_iload F 2 rfl dL_isDone_755 ?_
  refine j_iadd F dL_isDone_757 ?_
  obtain ⟨g3, h⟩ := gua h
  refine j_iaload F g1 g3 dL_isDone_758 ?_
  refine j_if_ne F 766 (by decide) dL_isDone_759 h (fun h => ?_) (fun h => ?_)
  · skip
    refine j_iconst F dL_isDone_766 ?_
    refine j_sub (lv' := [(15, (true, y0))]) [0] rfl ?_
    exact w_L_isDone_767 F hno hnm y0 x5 (6 + x13) (el M 0 x5 (wr (6 + x13))) 1 M h
  · skip
    refine j_iconst F dL_isDone_762 ?_
    refine j_goto F 767 (by decide) dL_isDone_763 ?_
    refine j_sub (lv' := [(15, (true, y0))]) [0] rfl ?_
    exact w_L_isDone_767 F hno hnm y0 x5 (6 + x13) (el M 0 x5 (wr (6 + x13))) 0 M h
set_option maxHeartbeats 4000000 in
set_option maxRecDepth 100000 in
theorem w_L_isDone_739 {p : Program} {l : Launch} {e : Env} {R : Room} {s : State} {m : MethodId} {args : Array Value} {below : List Frame} {meth : Method} {c : Code} {G : Gt} {ρ0 : Int → Nat} {M0 : Mo} {res : RS} (F : Fx p l R s m args meth c cL_isDone 17 RL G M0 15 (some FieldType.boolean)) (hno : ∀ x ∈ c.exceptionTable.toList, False) (hnm : meth.name = yL_isDone.name) (x5 x13 : Int) (M : Mo) (h : L_isDone_739 x5 x13 M = some res) : J p l e R s m args below meth c 17 G ρ0 M0 1 res M 739 [(5, (false, x5)), (13, (true, x13))] [] := by
  unfold L_isDone_739 at h
  refine j_iconst F dL_isDone_739 ?_
  refine j_sub (lv' := [(5, (false, x5)), (13, (true, x13))]) [0, 1] rfl ?_
  exact w_L_isDone_740 F hno hnm x5 x13 0 M h
set_option maxHeartbeats 4000000 in
set_option maxRecDepth 100000 in
theorem w_L_isDone_923 {p : Program} {l : Launch} {e : Env} {R : Room} {s : State} {m : MethodId} {args : Array Value} {below : List Frame} {meth : Method} {c : Code} {G : Gt} {ρ0 : Int → Nat} {M0 : Mo} {res : RS} (F : Fx p l R s m args meth c cL_isDone 17 RL G M0 15 (some FieldType.boolean)) (hno : ∀ x ∈ c.exceptionTable.toList, False) (hnm : meth.name = yL_isDone.name) (y0 y1 : Int) (M : Mo) (h : L_isDone_923 y0 y1 M = some res) : J p l e R s m args below meth c 17 G ρ0 M0 1 res M 923 [] [(true, y1), (true, y0)] := by
  unfold L_isDone_923 at h
  refine j_icmp_ne F 930 (by decide) dL_isDone_923 h (fun h => ?_) (fun h => ?_)
  · skip
    refine j_iconst F dL_isDone_930 ?_
    exact j_zret F (by decide) h dL_isDone_931
  · skip
    refine j_iconst F dL_isDone_926 ?_
    refine j_goto F 931 (by decide) dL_isDone_927 ?_
    exact j_zret F (by decide) h dL_isDone_931
set_option maxHeartbeats 4000000 in
set_option maxRecDepth 100000 in
theorem w_L_isDone_884 {p : Program} {l : Launch} {e : Env} {R : Room} {s : State} {m : MethodId} {args : Array Value} {below : List Frame} {meth : Method} {c : Code} {G : Gt} {ρ0 : Int → Nat} {M0 : Mo} {res : RS} (F : Fx p l R s m args meth c cL_isDone 17 RL G M0 15 (some FieldType.boolean)) (hno : ∀ x ∈ c.exceptionTable.toList, False) (hnm : meth.name = yL_isDone.name) (x5 x13 x14 x15 : Int) (M : Mo) (h : L_isDone_884 x5 x13 x14 x15 M = some res) : J p l e R s m args below meth c 17 G ρ0 M0 1 res M 884 [(5, (false, x5)), (13, (true, x13)), (14, (true, x14)), (15, (true, x15))] [] := by
  unfold L_isDone_884 at h
  refine j_iload F 2 rfl dL_isDone_884 ?_
  refine j_if_eq F 902 (by decide) dL_isDone_886 h (fun h => ?_) (fun h => ?_)
  · skip
    refine j_iload F 3 rfl dL_isDone_902 ?_
    refine j_iload F 1 rfl dL_isDone_904 ?_
    refine j_aload F 0 rfl dL_isDone_906 ?_
    refine j_bipush F (by decide) dL_isDone_908 ?_
    obtain ⟨g1, h⟩ := gua h
    obtain ⟨g2, h⟩ := gua h
    refine j_iaload F g1 g2 dL_isDone_910 ?_
    refine j_icmp_ne F 920 (by decide) dL_isDone_911 h (fun h => ?_) (fun h => ?_)
    · skip
      refine j_sipush F (by decide) dL_isDone_920 ?_
      refine j_sub (lv' := []) [] rfl ?_
      exact w_L_isDone_923 F hno hnm x15 (-1000) M h
    · skip
      refine j_sipush F (by decide) dL_isDone_914 ?_
      refine j_goto F 923 (by decide) dL_isDone_917 ?_
      refine j_sub (lv' := []) [] rfl ?_
      exact w_L_isDone_923 F hno hnm x15 (-3000) M h
  · skip
    refine j_iload F 3 rfl dL_isDone_889 ?_
    refine j_if_lt F 898 (by decide) dL_isDone_891 h (fun h => ?_) (fun h => ?_)
    · skip
      refine j_iconst F dL_isDone_898 ?_
      refine j_goto F 931 (by decide) dL_isDone_899 ?_
      exact j_zret F (by decide) h dL_isDone_931
    · skip
      refine j_iconst F dL_isDone_894 ?_
      refine j_goto F 931 (by decide) dL_isDone_895 ?_
      exact j_zret F (by decide) h dL_isDone_931
set_option maxHeartbeats 4000000 in
set_option maxRecDepth 100000 in
theorem w_L_isDone_883 {p : Program} {l : Launch} {e : Env} {R : Room} {s : State} {m : MethodId} {args : Array Value} {below : List Frame} {meth : Method} {c : Code} {G : Gt} {ρ0 : Int → Nat} {M0 : Mo} {res : RS} (F : Fx p l R s m args meth c cL_isDone 17 RL G M0 15 (some FieldType.boolean)) (hno : ∀ x ∈ c.exceptionTable.toList, False) (hnm : meth.name = yL_isDone.name) (x5 x13 x14 x15 y0 y1 y2 : Int) (M : Mo) (h : L_isDone_883 x5 x13 x14 x15 y0 y1 y2 M = some res) : J p l e R s m args below meth c 17 G ρ0 M0 1 res M 883 [(5, (false, x5)), (13, (true, x13)), (14, (true, x14)), (15, (true, x15))] [(true, y2), (true, y1), (false, y0)] := by
  unfold L_isDone_883 at h
  obtain ⟨g1, h⟩ := gua h
  obtain ⟨g2, h⟩ := gua h
  refine j_iastore F g1 g2 dL_isDone_883 ?_
  obtain ⟨M3, hM3⟩ : ∃ Z, Z = sE M 0 y0 (wr y1) y2 := ⟨_, rfl⟩
  have kl4 : kle M M3 := by rw [hM3]; exact kle_sE
  rw [← hM3]
  replace h := pt_as h hM3
  refine j_sub (lv' := [(5, (false, x5)), (13, (true, x13)), (14, (true, x14)), (15, (true, x15))]) [0, 1, 2, 3] rfl ?_
  exact w_L_isDone_884 F hno hnm x5 x13 x14 x15 M3 h
set_option maxHeartbeats 4000000 in
set_option maxRecDepth 100000 in
theorem w_L_isDone_846 {p : Program} {l : Launch} {e : Env} {R : Room} {s : State} {m : MethodId} {args : Array Value} {below : List Frame} {meth : Method} {c : Code} {G : Gt} {ρ0 : Int → Nat} {M0 : Mo} {res : RS} (F : Fx p l R s m args meth c cL_isDone 17 RL G M0 15 (some FieldType.boolean)) (hno : ∀ x ∈ c.exceptionTable.toList, False) (hnm : meth.name = yL_isDone.name) (x5 x6 x13 x14 y0 y1 : Int) (M : Mo) (h : L_isDone_846 x5 x6 x13 x14 y0 y1 M = some res) : J p l e R s m args below meth c 17 G ρ0 M0 1 res M 846 [(5, (false, x5)), (6, (true, x6)), (13, (true, x13)), (14, (true, x14))] [(true, y1), (false, y0)] := by
  unfold L_isDone_846 at h
  refine j_iload F 2 rfl dL_isDone_846 ?_
  refine j_iconst F dL_isDone_848 ?_
  refine j_iconst F dL_isDone_849 ?_
  refine j_iconst F dL_isDone_850 ?_
  refine j_iconst F dL_isDone_851 ?_
  refine j_iconst F dL_isDone_852 ?_
  refine j_iconst F dL_isDone_853 ?_
  refine j_callX (d' := 13) (argl := [(false, y0), (true, y1), (true, x13), (true, 0), (true, 0), (true, 0), (true, 0), (true, 0), (true, 0)]) (rk9 := 1) (st := []) F hno M_L_does q611 q610 ⟨by decide, by decide⟩ (Nat.le_of_ble_eq_true rfl) (by decide) dL_isDone_854 rfl h (fun z hz => c_L_does l F.ht G y0 y1 x13 0 0 0 0 0 0 M z hz) (fun v1 M2 h kl3 => ?_)
  refine j_st (st' := [(true, v1)]) rfl ?_
  refine j_istore F (lv' := [(15, (true, v1)), (5, (false, x5)), (6, (true, x6)), (13, (true, x13)), (14, (true, x14))]) (by decide) rfl dL_isDone_857 ?_
  refine j_iload F 4 rfl dL_isDone_859 ?_
  refine j_if_eq F 884 (by decide) dL_isDone_861 h (fun h => ?_) (fun h => ?_)
  · skip
    refine j_sub (lv' := [(5, (false, x5)), (13, (true, x13)), (14, (true, x14)), (15, (true, v1))]) [1, 3, 4, 0] rfl ?_
    exact w_L_isDone_884 F hno hnm x5 x13 x14 v1 M2 h
  · skip
    refine j_aload F 1 rfl dL_isDone_864 ?_
    refine j_bipush F (by decide) dL_isDone_866 ?_
    refine j_iload F 3 rfl dL_isDone_868 ?_
    refine j_iadd F dL_isDone_870 ?_
    refine j_iload F 2 rfl dL_isDone_871 ?_
    refine j_bipush F (by decide) dL_isDone_873 ?_
    refine j_icmp_ne F 882 (by decide) dL_isDone_875 h (fun h => ?_) (fun h => ?_)
    · skip
      refine j_iconst F dL_isDone_882 ?_
      refine j_sub (lv' := [(5, (false, x5)), (13, (true, x13)), (14, (true, x14)), (15, (true, v1))]) [1, 3, 4, 0] rfl ?_
      exact w_L_isDone_883 F hno hnm x5 x13 x14 v1 x5 (15 + x13) 1 M2 h
    · skip
      refine j_iconst F dL_isDone_878 ?_
      refine j_goto F 883 (by decide) dL_isDone_879 ?_
      refine j_sub (lv' := [(5, (false, x5)), (13, (true, x13)), (14, (true, x14)), (15, (true, v1))]) [1, 3, 4, 0] rfl ?_
      exact w_L_isDone_883 F hno hnm x5 x13 x14 v1 x5 (15 + x13) 0 M2 h
set_option maxHeartbeats 4000000 in
set_option maxRecDepth 100000 in
theorem w_L_isDone_829 {p : Program} {l : Launch} {e : Env} {R : Room} {s : State} {m : MethodId} {args : Array Value} {below : List Frame} {meth : Method} {c : Code} {G : Gt} {ρ0 : Int → Nat} {M0 : Mo} {res : RS} (F : Fx p l R s m args meth c cL_isDone 17 RL G M0 15 (some FieldType.boolean)) (hno : ∀ x ∈ c.exceptionTable.toList, False) (hnm : meth.name = yL_isDone.name) (x0 x5 x6 x13 y0 : Int) (M : Mo) (h : L_isDone_829 x0 x5 x6 x13 y0 M = some res) : J p l e R s m args below meth c 17 G ρ0 M0 1 res M 829 [(0, (false, x0)), (5, (false, x5)), (6, (true, x6)), (13, (true, x13))] [(true, y0)] := by
  unfold L_isDone_829 at h
  refine j_istore F (lv' := [(14, (true, y0)), (0, (false, x0)), (5, (false, x5)), (6, (true, x6)), (13, (true, x13))]) (by decide) rfl dL_isDone_829 ?_
  refine j_aload_n F 1 rfl rfl dL_isDone_831 ?_
  refine j_iload F 3 rfl dL_isDone_832 ?_
  refine j_bipush F (by decide) dL_isDone_834 ?_
  refine j_icmp_ne F 844 (by decide) dL_isDone_836 h (fun h => ?_) (fun h => ?_)
  · skip
    refine j_bipush F (by decide) dL_isDone_844 ?_
    refine j_sub (lv' := [(5, (false, x5)), (6, (true, x6)), (13, (true, x13)), (14, (true, y0))]) [2, 3, 4, 0] rfl ?_
    exact w_L_isDone_846 F hno hnm x5 x6 x13 y0 x0 12 M h
  · skip
    refine j_bipush F (by decide) dL_isDone_839 ?_
    refine j_goto F 846 (by decide) dL_isDone_841 ?_
    refine j_sub (lv' := [(5, (false, x5)), (6, (true, x6)), (13, (true, x13)), (14, (true, y0))]) [2, 3, 4, 0] rfl ?_
    exact w_L_isDone_846 F hno hnm x5 x6 x13 y0 x0 11 M h
set_option maxHeartbeats 4000000 in
set_option maxRecDepth 100000 in
theorem w_L_isDone_828 {p : Program} {l : Launch} {e : Env} {R : Room} {s : State} {m : MethodId} {args : Array Value} {below : List Frame} {meth : Method} {c : Code} {G : Gt} {ρ0 : Int → Nat} {M0 : Mo} {res : RS} (F : Fx p l R s m args meth c cL_isDone 17 RL G M0 15 (some FieldType.boolean)) (hno : ∀ x ∈ c.exceptionTable.toList, False) (hnm : meth.name = yL_isDone.name) (x0 x5 x6 x13 : Int) (M : Mo) (h : L_isDone_828 x0 x5 x6 x13 M = some res) : J p l e R s m args below meth c 17 G ρ0 M0 1 res M 828 [(0, (false, x0)), (5, (false, x5)), (6, (true, x6)), (13, (true, x13))] [] := by
  unfold L_isDone_828 at h
  refine j_iconst F dL_isDone_828 ?_
  refine j_sub (lv' := [(0, (false, x0)), (5, (false, x5)), (6, (true, x6)), (13, (true, x13))]) [0, 1, 2, 3] rfl ?_
  exact w_L_isDone_829 F hno hnm x0 x5 x6 x13 0 M h
set_option maxHeartbeats 4000000 in
set_option maxRecDepth 100000 in
theorem w_L_isDone_821 {p : Program} {l : Launch} {e : Env} {R : Room} {s : State} {m : MethodId} {args : Array Value} {below : List Frame} {meth : Method} {c : Code} {G : Gt} {ρ0 : Int → Nat} {M0 : Mo} {res : RS} (F : Fx p l R s m args meth c cL_isDone 17 RL G M0 15 (some FieldType.boolean)) (hno : ∀ x ∈ c.exceptionTable.toList, False) (hnm : meth.name = yL_isDone.name) (x0 x5 x6 x13 y0 y1 : Int) (M : Mo) (h : L_isDone_821 x0 x5 x6 x13 y0 y1 M = some res) : J p l e R s m args below meth c 17 G ρ0 M0 1 res M 821 [(0, (false, x0)), (5, (false, x5)), (6, (true, x6)), (13, (true, x13))] [(true, y1), (true, y0)] := by
  unfold L_isDone_821 at h
  refine j_icmp_ne F 828 (by decide) dL_isDone_821 h (fun h => ?_) (fun h => ?_)
  · skip
    refine j_sub (lv' := [(0, (false, x0)), (5, (false, x5)), (6, (true, x6)), (13, (true, x13))]) [0, 1, 2, 3] rfl ?_
    exact w_L_isDone_828 F hno hnm x0 x5 x6 x13 M h
  · skip
    refine j_iconst F dL_isDone_824 ?_
    refine j_goto F 829 (by decide) dL_isDone_825 ?_
    refine j_sub (lv' := [(0, (false, x0)), (5, (false, x5)), (6, (true, x6)), (13, (true, x13))]) [0, 1, 2, 3] rfl ?_
    exact w_L_isDone_829 F hno hnm x0 x5 x6 x13 1 M h
set_option maxHeartbeats 4000000 in
set_option maxRecDepth 100000 in
theorem w_L_isDone_975 {p : Program} {l : Launch} {e : Env} {R : Room} {s : State} {m : MethodId} {args : Array Value} {below : List Frame} {meth : Method} {c : Code} {G : Gt} {ρ0 : Int → Nat} {M0 : Mo} {res : RS} (F : Fx p l R s m args meth c cL_isDone 17 RL G M0 15 (some FieldType.boolean)) (hno : ∀ x ∈ c.exceptionTable.toList, False) (hnm : meth.name = yL_isDone.name) (x5 x13 x14 y0 y1 y2 y3 : Int) (M : Mo) (h : L_isDone_975 x5 x13 x14 y0 y1 y2 y3 M = some res) : J p l e R s m args below meth c 17 G ρ0 M0 1 res M 975 [(5, (false, x5)), (13, (true, x13)), (14, (true, x14))] [(true, y3), (true, y2), (true, y1), (false, y0)] := by
  unfold L_isDone_975 at h
  refine j_iadd F dL_isDone_975 ?_
  obtain ⟨g1, h⟩ := gua h
  obtain ⟨g2, h⟩ := gua h
  refine j_iastore F g1 g2 dL_isDone_976 ?_
  obtain ⟨M3, hM3⟩ : ∃ Z, Z = sE M 0 y0 (wr y1) (y2 + y3) := ⟨_, rfl⟩
  have kl4 : kle M M3 := by rw [hM3]; exact kle_sE
  rw [← hM3]
  replace h := pt_as h hM3
  refine j_iload F 1 rfl dL_isDone_977 ?_
  refine j_aload F 0 rfl dL_isDone_979 ?_
  refine j_iconst F dL_isDone_981 ?_
  obtain ⟨g5, h⟩ := gua h
  obtain ⟨g6, h⟩ := gua h
  refine j_iaload F g5 g6 dL_isDone_982 ?_
  refine j_icmp_ne F 1002 (by decide) dL_isDone_983 h (fun h => ?_) (fun h => ?_)
  · skip
    refine j_iload F 2 rfl dL_isDone_1002 ?_
    refine j_if_eq F 1015 (by decide) dL_isDone_1004 h (fun h => ?_) (fun h => ?_)
    · skip
      refine j_iconst F dL_isDone_1015 ?_
      refine j_goto F 1020 (by decide) dL_isDone_1016 ?_
      exact j_zret F (by decide) h dL_isDone_1020
    · skip
      refine j_iload F 2 rfl dL_isDone_1007 ?_
      refine j_sipush F (by decide) dL_isDone_1009 ?_
      refine j_icmp_ne F 1019 (by decide) dL_isDone_1012 h (fun h => ?_) (fun h => ?_)
      · skip
        refine j_iconst F dL_isDone_1019 ?_
        exact j_zret F (by decide) h dL_isDone_1020
      · skip
        refine j_iconst F dL_isDone_1015 ?_
        refine j_goto F 1020 (by decide) dL_isDone_1016 ?_
        exact j_zret F (by decide) h dL_isDone_1020
  · skip
    refine j_iload F 2 rfl dL_isDone_986 ?_
    refine j_sipush F (by decide) dL_isDone_988 ?_
    refine j_icmp_ne F 998 (by decide) dL_isDone_991 h (fun h => ?_) (fun h => ?_)
    · skip
      refine j_iconst F dL_isDone_998 ?_
      refine j_goto F 1020 (by decide) dL_isDone_999 ?_
      exact j_zret F (by decide) h dL_isDone_1020
    · skip
      refine j_iconst F dL_isDone_994 ?_
      refine j_goto F 1020 (by decide) dL_isDone_995 ?_
      exact j_zret F (by decide) h dL_isDone_1020
set_option maxHeartbeats 4000000 in
set_option maxRecDepth 100000 in
theorem w_L_isDone_94 {p : Program} {l : Launch} {e : Env} {R : Room} {s : State} {m : MethodId} {args : Array Value} {below : List Frame} {meth : Method} {c : Code} {G : Gt} {ρ0 : Int → Nat} {M0 : Mo} {res : RS} (F : Fx p l R s m args meth c cL_isDone 17 RL G M0 15 (some FieldType.boolean)) (hno : ∀ x ∈ c.exceptionTable.toList, False) (hnm : meth.name = yL_isDone.name) (x0 x1 x2 x3 x4 x5 x6 x7 x8 x9 x10 x11 y0 : Int) (M : Mo) (h : L_isDone_94 x0 x1 x2 x3 x4 x5 x6 x7 x8 x9 x10 x11 y0 M = some res) : J p l e R s m args below meth c 17 G ρ0 M0 1 res M 94 [(0, (false, x0)), (1, (false, x1)), (2, (true, x2)), (3, (false, x3)), (4, (false, x4)), (5, (false, x5)), (6, (true, x6)), (7, (true, x7)), (8, (true, x8)), (9, (true, x9)), (10, (true, x10)), (11, (true, x11))] [(false, y0)] := by
  unfold L_isDone_94 at h
  refine j_astore F (lv' := [(12, (false, y0)), (0, (false, x0)), (1, (false, x1)), (2, (true, x2)), (3, (false, x3)), (4, (false, x4)), (5, (false, x5)), (6, (true, x6)), (7, (true, x7)), (8, (true, x8)), (9, (true, x9)), (10, (true, x10)), (11, (true, x11))]) (by decide) rfl dL_isDone_94 ?_
  refine j_iload F 7 rfl dL_isDone_96 ?_
  refine j_iconst F dL_isDone_98 ?_
  refine j_icmp_ge F 280 (by decide) dL_isDone_99 h (fun h => ?_) (fun h => ?_)
  · skip
    refine j_iload F 7 rfl dL_isDone_280 ?_
    refine j_bipush F (by decide) dL_isDone_282 ?_
    refine j_icmp_ge F 413 (by decide) dL_isDone_284 h (fun h => ?_) (fun h => ?_)
    · skip
      refine j_iload F 7 rfl dL_isDone_413 ?_
      refine j_bipush F (by decide) dL_isDone_415 ?_
      refine j_icmp_ge F 534 (by decide) dL_isDone_417 h (fun h => ?_) (fun h => ?_)
      · skip
        refine j_iload F 7 rfl dL_isDone_534 ?_
        refine j_bipush F (by decide) dL_isDone_536 ?_
        refine j_icmp_ge F 607 (by decide) dL_isDone_538 h (fun h => ?_) (fun h => ?_)
        · skip
          refine j_iload F 7 rfl dL_isDone_607 ?_
          refine j_bipush F (by decide) dL_isDone_609 ?_
          refine j_icmp_ge F 628 (by decide) dL_isDone_611 h (fun h => ?_) (fun h => ?_)
          · skip
            refine j_iload F 7 rfl dL_isDone_628 ?_
            refine j_bipush F (by decide) dL_isDone_630 ?_
            refine j_icmp_ge F 653 (by decide) dL_isDone_632 h (fun h => ?_) (fun h => ?_)
            · skip
              refine j_iload F 7 rfl dL_isDone_653 ?_
              refine j_bipush F (by decide) dL_isDone_655 ?_
              refine j_icmp_ne F 670 (by decide) dL_isDone_657 h (fun h => ?_) (fun h => ?_)
              · skip
                refine j_iload F 7 rfl dL_isDone_670 ?_
                refine j_bipush F (by decide) dL_isDone_672 ?_
                refine j_icmp_ge F 772 (by decide) dL_isDone_674 h (fun h => ?_) (fun h => ?_)
                · skip
                  refine j_iload F 7 rfl dL_isDone_772 ?_
                  refine j_bipush F (by decide) dL_isDone_774 ?_
                  refine j_icmp_ge F 932 (by decide) dL_isDone_776 h (fun h => ?_) (fun h => ?_)
                  · skip
                    refine j_iload F 8 rfl dL_isDone_932 ?_
                    refine j_aload F 6 rfl dL_isDone_934 ?_
                    refine j_iconst F dL_isDone_936 ?_
                    obtain ⟨g1, h⟩ := gua h
                    obtain ⟨g2, h⟩ := gua h
                    refine j_iaload F g1 g2 dL_isDone_937 ?_
                    refine j_iconst F dL_isDone_938 ?_
                    refine j_iadd F dL_isDone_939 ?_
                    obtain ⟨g3, h⟩ := gua h
                    refine j_irem F (fun q9 => g3 ((wr_eq _ 0).mp q9 |>.trans wr_0)) dL_isDone_940 ?_
                    refine j_istore F (lv' := [(13, (true, (irm x7 ((el M 0 x5 (wr 4)) + 1)))), (12, (false, y0)), (0, (false, x0)), (1, (false, x1)), (2, (true, x2)), (3, (false, x3)), (4, (false, x4)), (5, (false, x5)), (6, (true, x6)), (7, (true, x7)), (8, (true, x8)), (9, (true, x9)), (10, (true, x10)), (11, (true, x11))]) (by decide) rfl dL_isDone_941 ?_
                    refine j_aload_n F 2 rfl rfl dL_isDone_943 ?_
                    refine j_bipush F (by decide) dL_isDone_944 ?_
                    refine j_iconst F dL_isDone_946 ?_
                    refine j_iload F 0 rfl dL_isDone_947 ?_
                    refine j_iconst F dL_isDone_949 ?_
                    refine j_iconst F dL_isDone_950 ?_
                    refine j_iconst F dL_isDone_951 ?_
                    refine j_iconst F dL_isDone_952 ?_
                    refine j_iconst F dL_isDone_953 ?_
                    refine j_callX (d' := 13) (argl := [(false, x0), (true, 7), (true, 0), (true, (irm x7 ((el M 0 x5 (wr 4)) + 1))), (true, 0), (true, 0), (true, 0), (true, 0), (true, 0)]) (rk9 := 1) (st := []) F hno M_L_does q611 q610 ⟨by decide, by decide⟩ (Nat.le_of_ble_eq_true rfl) (by decide) dL_isDone_954 rfl h (fun z hz => c_L_does l F.ht G x0 7 0 (irm x7 ((el M 0 x5 (wr 4)) + 1)) 0 0 0 0 0 M z hz) (fun v4 M5 h kl6 => ?_)
                    refine j_st (st' := [(true, v4)]) rfl ?_
                    refine j_istore F (lv' := [(14, (true, v4)), (13, (true, (irm x7 ((el M 0 x5 (wr 4)) + 1)))), (12, (false, y0)), (0, (false, x0)), (1, (false, x1)), (2, (true, x2)), (3, (false, x3)), (4, (false, x4)), (5, (false, x5)), (6, (true, x6)), (7, (true, x7)), (8, (true, x8)), (9, (true, x9)), (10, (true, x10)), (11, (true, x11))]) (by decide) rfl dL_isDone_957 ?_
                    refine j_aload F 8 rfl dL_isDone_959 ?_
                    refine j_bipush F (by decide) dL_isDone_961 ?_
                    refine j_dup2 F dL_isDone_963 ?_
                    obtain ⟨g7, h⟩ := gua h
                    refine j_iaload F (kl6.is g1) g7 dL_isDone_964 ?_
                    refine j_iload F 0 rfl dL_isDone_965 ?_
                    refine j_if_ne F 974 (by decide) dL_isDone_967 h (fun h => ?_) (fun h => ?_)
                    · skip
                      refine j_iconst F dL_isDone_974 ?_
                      refine j_sub (lv' := [(5, (false, x5)), (13, (true, (irm x7 ((el M 0 x5 (wr 4)) + 1)))), (14, (true, v4))]) [8, 1, 0] rfl ?_
                      exact w_L_isDone_975 F hno hnm x5 (irm x7 ((el M 0 x5 (wr 4)) + 1)) v4 x5 6 (el M5 0 x5 (wr 6)) 0 M5 h
                    · skip
                      refine j_iconst F dL_isDone_970 ?_
                      refine j_goto F 975 (by decide) dL_isDone_971 ?_
                      refine j_sub (lv' := [(5, (false, x5)), (13, (true, (irm x7 ((el M 0 x5 (wr 4)) + 1)))), (14, (true, v4))]) [8, 1, 0] rfl ?_
                      exact w_L_isDone_975 F hno hnm x5 (irm x7 ((el M 0 x5 (wr 4)) + 1)) v4 x5 6 (el M5 0 x5 (wr 6)) 1 M5 h
                  · skip
                    refine j_iload F 8 rfl dL_isDone_779 ?_
                    refine j_aload F 6 rfl dL_isDone_781 ?_
                    refine j_bipush F (by decide) dL_isDone_783 ?_
                    obtain ⟨g8, h⟩ := gua h
                    obtain ⟨g9, h⟩ := gua h
                    refine j_iaload F g8 g9 dL_isDone_785 ?_
                    refine j_iconst F dL_isDone_786 ?_
                    refine j_iadd F dL_isDone_787 ?_
                    obtain ⟨g10, h⟩ := gua h
                    refine j_irem F (fun q9 => g10 ((wr_eq _ 0).mp q9 |>.trans wr_0)) dL_isDone_788 ?_
                    refine j_istore F (lv' := [(13, (true, (irm x7 ((el M 0 x5 (wr 8)) + 1)))), (12, (false, y0)), (0, (false, x0)), (1, (false, x1)), (2, (true, x2)), (3, (false, x3)), (4, (false, x4)), (5, (false, x5)), (6, (true, x6)), (7, (true, x7)), (8, (true, x8)), (9, (true, x9)), (10, (true, x10)), (11, (true, x11))]) (by decide) rfl dL_isDone_789 ?_
                    refine j_iload F 0 rfl dL_isDone_791 ?_
                    refine j_aload F 7 rfl dL_isDone_793 ?_
                    refine j_bipush F (by decide) dL_isDone_795 ?_
                    obtain ⟨g11, h⟩ := gua h
                    refine j_iaload F g8 g11 dL_isDone_797 ?_
                    refine j_icmp_ge F 828 (by decide) dL_isDone_798 h (fun h => ?_) (fun h => ?_)
                    · skip
                      refine j_sub (lv' := [(0, (false, x0)), (5, (false, x5)), (6, (true, x6)), (13, (true, (irm x7 ((el M 0 x5 (wr 8)) + 1))))]) [2, 7, 8, 0] rfl ?_
                      exact w_L_isDone_828 F hno hnm x0 x5 x6 (irm x7 ((el M 0 x5 (wr 8)) + 1)) M h
                    · skip
                      refine j_aload F 7 rfl dL_isDone_801 ?_
                      refine j_bipush F (by decide) dL_isDone_803 ?_
                      refine j_iload F 0 rfl dL_isDone_805 ?_
                      refine j_iadd F dL_isDone_807 ?_
                      obtain ⟨g12, h⟩ := gua h
                      refine j_iaload F g8 g12 dL_isDone_808 ?_
                      refine j_iload F 8 rfl dL_isDone_809 ?_
                      refine j_bipush F (by decide) dL_isDone_811 ?_
                      refine j_icmp_ne F 820 (by decide) dL_isDone_813 h (fun h => ?_) (fun h => ?_)
                      · skip
                        refine j_iconst F dL_isDone_820 ?_
                        refine j_sub (lv' := [(0, (false, x0)), (5, (false, x5)), (6, (true, x6)), (13, (true, (irm x7 ((el M 0 x5 (wr 8)) + 1))))]) [2, 7, 8, 0] rfl ?_
                        exact w_L_isDone_821 F hno hnm x0 x5 x6 (irm x7 ((el M 0 x5 (wr 8)) + 1)) (el M 0 x5 (wr (15 + (irm x7 ((el M 0 x5 (wr 8)) + 1))))) 0 M h
                      · skip
                        refine j_iconst F dL_isDone_816 ?_
                        refine j_goto F 821 (by decide) dL_isDone_817 ?_
                        refine j_sub (lv' := [(0, (false, x0)), (5, (false, x5)), (6, (true, x6)), (13, (true, (irm x7 ((el M 0 x5 (wr 8)) + 1))))]) [2, 7, 8, 0] rfl ?_
                        exact w_L_isDone_821 F hno hnm x0 x5 x6 (irm x7 ((el M 0 x5 (wr 8)) + 1)) (el M 0 x5 (wr (15 + (irm x7 ((el M 0 x5 (wr 8)) + 1))))) 1 M h
                · skip
                  refine j_iload F 8 rfl dL_isDone_677 ?_
                  refine j_iconst F dL_isDone_679 ?_
                  refine j_irem F (by decide) dL_isDone_680 ?_
                  refine j_istore F (lv' := [(13, (true, (irm x7 2))), (12, (false, y0)), (0, (false, x0)), (1, (false, x1)), (2, (true, x2)), (3, (false, x3)), (4, (false, x4)), (5, (false, x5)), (6, (true, x6)), (7, (true, x7)), (8, (true, x8)), (9, (true, x9)), (10, (true, x10)), (11, (true, x11))]) (by decide) rfl dL_isDone_681 ?_
                  refine j_aload_n F 2 rfl rfl dL_isDone_683 ?_
                  refine j_bipush F (by decide) dL_isDone_684 ?_
                  refine j_iload F 0 rfl dL_isDone_686 ?_
                  refine j_iconst F dL_isDone_688 ?_
                  refine j_iconst F dL_isDone_689 ?_
                  refine j_iconst F dL_isDone_690 ?_
                  refine j_iconst F dL_isDone_691 ?_
                  refine j_iconst F dL_isDone_692 ?_
                  refine j_iconst F dL_isDone_693 ?_
                  refine j_callX (d' := 13) (argl := [(false, x0), (true, 13), (true, (irm x7 2)), (true, 0), (true, 0), (true, 0), (true, 0), (true, 0), (true, 0)]) (rk9 := 1) (st := []) F hno M_L_does q611 q610 ⟨by decide, by decide⟩ (Nat.le_of_ble_eq_true rfl) (by decide) dL_isDone_694 rfl h (fun z hz => c_L_does l F.ht G x0 13 (irm x7 2) 0 0 0 0 0 0 M z hz) (fun v13 M14 h kl15 => ?_)
                  refine j_st (st' := [(true, v13)]) rfl ?_
                  refine j_istore F (lv' := [(14, (true, v13)), (13, (true, (irm x7 2))), (12, (false, y0)), (0, (false, x0)), (1, (false, x1)), (2, (true, x2)), (3, (false, x3)), (4, (false, x4)), (5, (false, x5)), (6, (true, x6)), (7, (true, x7)), (8, (true, x8)), (9, (true, x9)), (10, (true, x10)), (11, (true, x11))]) (by decide) rfl dL_isDone_697 ?_
                  refine j_aload F 8 rfl dL_isDone_699 ?_
                  refine j_bipush F (by decide) dL_isDone_701 ?_
                  refine j_iload F 1 rfl dL_isDone_703 ?_
                  refine j_iadd F dL_isDone_705 ?_
                  obtain ⟨g16, h⟩ := gua h
                  obtain ⟨g17, h⟩ := gua h
                  refine j_iaload F g16 g17 dL_isDone_706 ?_
                  refine j_if_ne F 724 (by decide) dL_isDone_707 h (fun h => ?_) (fun h => ?_)
                  · skip
                    refine j_iload F 0 rfl dL_isDone_724 ?_
                    refine j_if_lt F 739 (by decide) dL_isDone_726 h (fun h => ?_) (fun h => ?_)
                    · skip
                      refine j_sub (lv' := [(5, (false, x5)), (13, (true, (irm x7 2)))]) [8, 1] rfl ?_
                      exact w_L_isDone_739 F hno hnm x5 (irm x7 2) M14 h
                    · skip
                      refine j_iload F 0 rfl dL_isDone_729 ?_
                      refine j_iconst F dL_isDone_731 ?_
                      refine j_icmp_ge F 739 (by decide) dL_isDone_732 h (fun h => ?_) (fun h => ?_)
                      · skip
                        refine j_sub (lv' := [(5, (false, x5)), (13, (true, (irm x7 2)))]) [8, 1] rfl ?_
                        exact w_L_isDone_739 F hno hnm x5 (irm x7 2) M14 h
                      · skip
                        refine j_iconst F dL_isDone_735 ?_
                        refine j_goto F 740 (by decide) dL_isDone_736 ?_
                        refine j_sub (lv' := [(5, (false, x5)), (13, (true, (irm x7 2)))]) [8, 1] rfl ?_
                        exact w_L_isDone_740 F hno hnm x5 (irm x7 2) 1 M14 h
                  · skip
                    refine j_iload F 0 rfl dL_isDone_710 ?_
                    refine j_iconst F dL_isDone_712 ?_
                    refine j_icmp_ne F 720 (by decide) dL_isDone_713 h (fun h => ?_) (fun h => ?_)
                    · skip
                      refine j_iconst F dL_isDone_720 ?_
                      refine j_goto F 740 (by decide) dL_isDone_721 ?_
                      refine j_sub (lv' := [(5, (false, x5)), (13, (true, (irm x7 2)))]) [8, 1] rfl ?_
                      exact w_L_isDone_740 F hno hnm x5 (irm x7 2) 0 M14 h
                    · skip
                      refine j_iconst F dL_isDone_716 ?_
                      refine j_goto F 740 (by decide) dL_isDone_717 ?_
                      refine j_sub (lv' := [(5, (false, x5)), (13, (true, (irm x7 2)))]) [8, 1] rfl ?_
                      exact w_L_isDone_740 F hno hnm x5 (irm x7 2) 1 M14 h
              · skip
                refine j_aload_n F 1 rfl rfl dL_isDone_660 ?_
                refine j_aload_n F 4 rfl rfl dL_isDone_661 ?_
                refine j_aload F 5 rfl dL_isDone_662 ?_
                refine j_aload F 6 rfl dL_isDone_664 ?_
                refine j_callS (d' := 13) (argl := [(false, x0), (false, x3), (false, x4), (false, x5)]) (rk9 := 1) (st := []) F hno M_L_areDelivered q1605 q1604 ⟨by decide, by decide⟩ (Nat.le_of_ble_eq_true rfl) (by decide) dL_isDone_666 rfl h (fun z hz => c_L_areDelivered l F.ht G x0 x3 x4 x5 M z hz) (fun v18 M19 h kl20 => ?_)
                refine j_st (st' := [(true, v18)]) rfl ?_
                obtain ⟨g21, h⟩ := gua h
                exact j_zret F (nz_b g21) h dL_isDone_669
            · skip
              refine j_aload_n F 1 rfl rfl dL_isDone_635 ?_
              refine j_aload_n F 4 rfl rfl dL_isDone_636 ?_
              refine j_aload F 5 rfl dL_isDone_637 ?_
              refine j_aload F 6 rfl dL_isDone_639 ?_
              refine j_iload F 8 rfl dL_isDone_641 ?_
              refine j_iconst F dL_isDone_643 ?_
              refine j_irem F (by decide) dL_isDone_644 ?_
              refine j_iload F 9 rfl dL_isDone_645 ?_
              refine j_iconst F dL_isDone_647 ?_
              refine j_irem F (by decide) dL_isDone_648 ?_
              refine j_callS (d' := 14) (argl := [(false, x0), (false, x3), (false, x4), (false, x5), (true, (irm x7 2)), (true, (irm x8 2))]) (rk9 := 1) (st := []) F hno M_L_areFaults q1686 q1685 ⟨by decide, by decide⟩ (Nat.le_of_ble_eq_true rfl) (by decide) dL_isDone_649 rfl h (fun z hz => c_L_areFaults l F.ht G x0 x3 x4 x5 (irm x7 2) (irm x8 2) M z hz) (fun v22 M23 h kl24 => ?_)
              refine j_st (st' := [(true, v22)]) rfl ?_
              obtain ⟨g25, h⟩ := gua h
              exact j_zret F (nz_b g25) h dL_isDone_652
          · skip
            refine j_aload_n F 1 rfl rfl dL_isDone_614 ?_
            refine j_aload_n F 2 rfl rfl dL_isDone_615 ?_
            refine j_iload_n F 3 rfl rfl dL_isDone_616 ?_
            refine j_iconst F dL_isDone_617 ?_
            refine j_iadd F dL_isDone_618 ?_
            refine j_aload_n F 4 rfl rfl dL_isDone_619 ?_
            refine j_aload F 5 rfl dL_isDone_620 ?_
            refine j_aload F 6 rfl dL_isDone_622 ?_
            refine j_callS (d' := 14) (argl := [(false, x0), (false, x1), (true, (x2 + 1)), (false, x3), (false, x4), (false, x5)]) (rk9 := 1) (st := []) F hno M_L_isServed q1640 q1639 ⟨by decide, by decide⟩ (Nat.le_of_ble_eq_true rfl) (by decide) dL_isDone_624 rfl h (fun z hz => c_L_isServed l F.ht G x0 x1 (x2 + 1) x3 x4 x5 M z hz) (fun v26 M27 h kl28 => ?_)
            refine j_st (st' := [(true, v26)]) rfl ?_
            obtain ⟨g29, h⟩ := gua h
            exact j_zret F (nz_b g29) h dL_isDone_627
        · skip
          refine j_iload F 11 rfl dL_isDone_541 ?_
          refine j_iconst F dL_isDone_543 ?_
          refine j_icmp_ge F 581 (by decide) dL_isDone_544 h (fun h => ?_) (fun h => ?_)
          · skip
            refine j_sub (lv' := [(0, (false, x0)), (3, (false, x3)), (4, (false, x4)), (5, (false, x5)), (7, (true, x7)), (8, (true, x8)), (9, (true, x9)), (10, (true, x10)), (11, (true, x11))]) [1, 4, 5, 6, 8, 9, 10, 11, 12] rfl ?_
            exact w_L_isDone_581 F hno hnm x0 x3 x4 x5 x7 x8 x9 x10 x11 M h
          · skip
            refine j_iload F 12 rfl dL_isDone_547 ?_
            refine j_iconst F dL_isDone_549 ?_
            refine j_icmp_ge F 581 (by decide) dL_isDone_550 h (fun h => ?_) (fun h => ?_)
            · skip
              refine j_sub (lv' := [(0, (false, x0)), (3, (false, x3)), (4, (false, x4)), (5, (false, x5)), (7, (true, x7)), (8, (true, x8)), (9, (true, x9)), (10, (true, x10)), (11, (true, x11))]) [1, 4, 5, 6, 8, 9, 10, 11, 12] rfl ?_
              exact w_L_isDone_581 F hno hnm x0 x3 x4 x5 x7 x8 x9 x10 x11 M h
            · skip
              refine j_iload F 10 rfl dL_isDone_553 ?_
              refine j_bipush F (by decide) dL_isDone_555 ?_
              refine j_irem F (by decide) dL_isDone_557 ?_
              refine j_if_le F 581 (by decide) dL_isDone_558 h (fun h => ?_) (fun h => ?_)
              · skip
                refine j_sub (lv' := [(0, (false, x0)), (3, (false, x3)), (4, (false, x4)), (5, (false, x5)), (7, (true, x7)), (8, (true, x8)), (9, (true, x9)), (10, (true, x10)), (11, (true, x11))]) [1, 4, 5, 6, 8, 9, 10, 11, 12] rfl ?_
                exact w_L_isDone_581 F hno hnm x0 x3 x4 x5 x7 x8 x9 x10 x11 M h
              · skip
                refine j_aload F 6 rfl dL_isDone_561 ?_
                refine j_iconst F dL_isDone_563 ?_
                refine j_iload F 12 rfl dL_isDone_564 ?_
                refine j_iadd F dL_isDone_566 ?_
                obtain ⟨g30, h⟩ := gua h
                obtain ⟨g31, h⟩ := gua h
                refine j_iaload F g30 g31 dL_isDone_567 ?_
                refine j_if_lt F 581 (by decide) dL_isDone_568 h (fun h => ?_) (fun h => ?_)
                · skip
                  refine j_sub (lv' := [(0, (false, x0)), (3, (false, x3)), (4, (false, x4)), (5, (false, x5)), (7, (true, x7)), (8, (true, x8)), (9, (true, x9)), (10, (true, x10)), (11, (true, x11))]) [1, 4, 5, 6, 8, 9, 10, 11, 12] rfl ?_
                  exact w_L_isDone_581 F hno hnm x0 x3 x4 x5 x7 x8 x9 x10 x11 M h
                · skip
                  refine j_aload F 6 rfl dL_isDone_571 ?_
                  refine j_iconst F dL_isDone_573 ?_
                  refine j_iload F 12 rfl dL_isDone_574 ?_
                  refine j_iadd F dL_isDone_576 ?_
                  obtain ⟨g32, h⟩ := gua h
                  refine j_iaload F g30 g32 dL_isDone_577 ?_
                  refine j_goto F 583 (by decide) dL_isDone_578 ?_
                  refine j_sub (lv' := [(0, (false, x0)), (3, (false, x3)), (4, (false, x4)), (5, (false, x5)), (7, (true, x7)), (8, (true, x8)), (9, (true, x9)), (11, (true, x11))]) [1, 4, 5, 6, 8, 9, 10, 12] rfl ?_
                  exact w_L_isDone_583 F hno hnm x0 x3 x4 x5 x7 x8 x9 x11 (el M 0 x5 (wr (2 + x11))) M h
      · skip
        refine j_iload F 11 rfl dL_isDone_420 ?_
        refine j_iconst F dL_isDone_422 ?_
        refine j_icmp_ge F 436 (by decide) dL_isDone_423 h (fun h => ?_) (fun h => ?_)
        · skip
          refine j_sub (lv' := [(0, (false, x0)), (5, (false, x5)), (10, (true, x10)), (11, (true, x11))]) [1, 6, 11, 12] rfl ?_
          exact w_L_isDone_436 F hno hnm x0 x5 x10 x11 M h
        · skip
          refine j_iload F 12 rfl dL_isDone_426 ?_
          refine j_iconst F dL_isDone_428 ?_
          refine j_icmp_ge F 436 (by decide) dL_isDone_429 h (fun h => ?_) (fun h => ?_)
          · skip
            refine j_sub (lv' := [(0, (false, x0)), (5, (false, x5)), (10, (true, x10)), (11, (true, x11))]) [1, 6, 11, 12] rfl ?_
            exact w_L_isDone_436 F hno hnm x0 x5 x10 x11 M h
          · skip
            refine j_iconst F dL_isDone_432 ?_
            refine j_goto F 437 (by decide) dL_isDone_433 ?_
            refine j_sub (lv' := [(0, (false, x0)), (5, (false, x5)), (10, (true, x10)), (11, (true, x11))]) [1, 6, 11, 12] rfl ?_
            exact w_L_isDone_437 F hno hnm x0 x5 x10 x11 1 M h
    · skip
      refine j_iload F 11 rfl dL_isDone_287 ?_
      refine j_iconst F dL_isDone_289 ?_
      refine j_icmp_ge F 303 (by decide) dL_isDone_290 h (fun h => ?_) (fun h => ?_)
      · skip
        refine j_sub (lv' := [(0, (false, x0)), (5, (false, x5)), (10, (true, x10)), (11, (true, x11))]) [1, 6, 11, 12] rfl ?_
        exact w_L_isDone_303 F hno hnm x0 x5 x10 x11 M h
      · skip
        refine j_iload F 12 rfl dL_isDone_293 ?_
        refine j_iconst F dL_isDone_295 ?_
        refine j_icmp_ge F 303 (by decide) dL_isDone_296 h (fun h => ?_) (fun h => ?_)
        · skip
          refine j_sub (lv' := [(0, (false, x0)), (5, (false, x5)), (10, (true, x10)), (11, (true, x11))]) [1, 6, 11, 12] rfl ?_
          exact w_L_isDone_303 F hno hnm x0 x5 x10 x11 M h
        · skip
          refine j_iconst F dL_isDone_299 ?_
          refine j_goto F 304 (by decide) dL_isDone_300 ?_
          refine j_sub (lv' := [(0, (false, x0)), (5, (false, x5)), (10, (true, x10)), (11, (true, x11))]) [1, 6, 11, 12] rfl ?_
          exact w_L_isDone_304 F hno hnm x0 x5 x10 x11 1 M h
  · skip
    refine j_iload F 10 rfl dL_isDone_102 ?_
    refine j_callS (d' := 0) (argl := [(true, x9)]) (rk9 := 1) (st := []) F hno M_L_code q1620 q1619 ⟨by decide, by decide⟩ (Nat.le_of_ble_eq_true rfl) (by decide) dL_isDone_104 rfl h (fun z hz => c_L_code l F.ht G x9 M z hz) (fun v33 M34 h kl35 => ?_)
    refine j_st (st' := [(true, v33)]) rfl ?_
    refine j_istore F (lv' := [(13, (true, v33)), (12, (false, y0)), (0, (false, x0)), (1, (false, x1)), (2, (true, x2)), (3, (false, x3)), (4, (false, x4)), (5, (false, x5)), (6, (true, x6)), (7, (true, x7)), (8, (true, x8)), (9, (true, x9)), (10, (true, x10)), (11, (true, x11))]) (by decide) rfl dL_isDone_107 ?_
    refine j_iload F 0 rfl dL_isDone_109 ?_
    refine j_bipush F (by decide) dL_isDone_111 ?_
    refine j_icmp_eq F 125 (by decide) dL_isDone_113 h (fun h => ?_) (fun h => ?_)
    · skip
      refine j_sub (lv' := [(0, (false, x0)), (5, (false, x5)), (11, (true, x11)), (12, (false, y0)), (13, (true, v33))]) [2, 7, 13, 1, 0] rfl ?_
      exact w_L_isDone_125 F hno hnm x0 x5 x11 y0 v33 M34 h
    · skip
      refine j_iload F 0 rfl dL_isDone_116 ?_
      refine j_if_lt F 125 (by decide) dL_isDone_118 h (fun h => ?_) (fun h => ?_)
      · skip
        refine j_sub (lv' := [(0, (false, x0)), (5, (false, x5)), (11, (true, x11)), (12, (false, y0)), (13, (true, v33))]) [2, 7, 13, 1, 0] rfl ?_
        exact w_L_isDone_125 F hno hnm x0 x5 x11 y0 v33 M34 h
      · skip
        refine j_iconst F dL_isDone_121 ?_
        refine j_goto F 126 (by decide) dL_isDone_122 ?_
        refine j_sub (lv' := [(0, (false, x0)), (5, (false, x5)), (11, (true, x11)), (12, (false, y0)), (13, (true, v33))]) [2, 7, 13, 1, 0] rfl ?_
        exact w_L_isDone_126 F hno hnm x0 x5 x11 y0 v33 1 M34 h
set_option maxHeartbeats 4000000 in
set_option maxRecDepth 100000 in
theorem w_L_isDone_81 {p : Program} {l : Launch} {e : Env} {R : Room} {s : State} {m : MethodId} {args : Array Value} {below : List Frame} {meth : Method} {c : Code} {G : Gt} {ρ0 : Int → Nat} {M0 : Mo} {res : RS} (F : Fx p l R s m args meth c cL_isDone 17 RL G M0 15 (some FieldType.boolean)) (hno : ∀ x ∈ c.exceptionTable.toList, False) (hnm : meth.name = yL_isDone.name) (x0 x1 x2 x3 x4 x5 x6 x7 x8 x9 x10 y0 : Int) (M : Mo) (h : L_isDone_81 x0 x1 x2 x3 x4 x5 x6 x7 x8 x9 x10 y0 M = some res) : J p l e R s m args below meth c 17 G ρ0 M0 1 res M 81 [(0, (false, x0)), (1, (false, x1)), (2, (true, x2)), (3, (false, x3)), (4, (false, x4)), (5, (false, x5)), (6, (true, x6)), (7, (true, x7)), (8, (true, x8)), (9, (true, x9)), (10, (true, x10))] [(true, y0)] := by
  unfold L_isDone_81 at h
  refine j_istore F (lv' := [(11, (true, y0)), (0, (false, x0)), (1, (false, x1)), (2, (true, x2)), (3, (false, x3)), (4, (false, x4)), (5, (false, x5)), (6, (true, x6)), (7, (true, x7)), (8, (true, x8)), (9, (true, x9)), (10, (true, x10))]) (by decide) rfl dL_isDone_81 ?_
  refine j_iload F 0 rfl dL_isDone_83 ?_
  refine j_if_ne F 92 (by decide) dL_isDone_85 h (fun h => ?_) (fun h => ?_)
  · skip
    refine j_aload F 5 rfl dL_isDone_92 ?_
    refine j_sub (lv' := [(0, (false, x0)), (1, (false, x1)), (2, (true, x2)), (3, (false, x3)), (4, (false, x4)), (5, (false, x5)), (6, (true, x6)), (7, (true, x7)), (8, (true, x8)), (9, (true, x9)), (10, (true, x10)), (11, (true, y0))]) [1, 2, 3, 4, 5, 6, 7, 8, 9, 10, 11, 0] rfl ?_
    exact w_L_isDone_94 F hno hnm x0 x1 x2 x3 x4 x5 x6 x7 x8 x9 x10 y0 x4 M h
  · skip
    refine j_aload_n F 4 rfl rfl dL_isDone_88 ?_
    refine j_goto F 94 (by decide) dL_isDone_89 ?_
    refine j_sub (lv' := [(0, (false, x0)), (1, (false, x1)), (2, (true, x2)), (3, (false, x3)), (4, (false, x4)), (5, (false, x5)), (6, (true, x6)), (7, (true, x7)), (8, (true, x8)), (9, (true, x9)), (10, (true, x10)), (11, (true, y0))]) [1, 2, 3, 4, 5, 6, 7, 8, 9, 10, 11, 0] rfl ?_
    exact w_L_isDone_94 F hno hnm x0 x1 x2 x3 x4 x5 x6 x7 x8 x9 x10 y0 x3 M h
set_option maxHeartbeats 4000000 in
set_option maxRecDepth 100000 in
theorem w_L_isDone_61 {p : Program} {l : Launch} {e : Env} {R : Room} {s : State} {m : MethodId} {args : Array Value} {below : List Frame} {meth : Method} {c : Code} {G : Gt} {ρ0 : Int → Nat} {M0 : Mo} {res : RS} (F : Fx p l R s m args meth c cL_isDone 17 RL G M0 15 (some FieldType.boolean)) (hno : ∀ x ∈ c.exceptionTable.toList, False) (hnm : meth.name = yL_isDone.name) (x0 x1 x2 x3 x4 x5 x6 x7 x8 x9 y0 : Int) (M : Mo) (h : L_isDone_61 x0 x1 x2 x3 x4 x5 x6 x7 x8 x9 y0 M = some res) : J p l e R s m args below meth c 17 G ρ0 M0 1 res M 61 [(0, (false, x0)), (1, (false, x1)), (2, (true, x2)), (3, (false, x3)), (4, (false, x4)), (5, (false, x5)), (6, (true, x6)), (7, (true, x7)), (8, (true, x8)), (9, (true, x9))] [(true, y0)] := by
  unfold L_isDone_61 at h
  refine j_istore F (lv' := [(10, (true, y0)), (0, (false, x0)), (1, (false, x1)), (2, (true, x2)), (3, (false, x3)), (4, (false, x4)), (5, (false, x5)), (6, (true, x6)), (7, (true, x7)), (8, (true, x8)), (9, (true, x9))]) (by decide) rfl dL_isDone_61 ?_
  refine j_iload F 9 rfl dL_isDone_63 ?_
  refine j_bipush F (by decide) dL_isDone_65 ?_
  refine j_irem F (by decide) dL_isDone_67 ?_
  refine j_if_ne F 75 (by decide) dL_isDone_68 h (fun h => ?_) (fun h => ?_)
  · skip
    refine j_iload F 9 rfl dL_isDone_75 ?_
    refine j_iconst F dL_isDone_77 ?_
    refine j_idiv F (by decide) dL_isDone_78 ?_
    refine j_iconst F dL_isDone_79 ?_
    refine j_irem F (by decide) dL_isDone_80 ?_
    refine j_sub (lv' := [(0, (false, x0)), (1, (false, x1)), (2, (true, x2)), (3, (false, x3)), (4, (false, x4)), (5, (false, x5)), (6, (true, x6)), (7, (true, x7)), (8, (true, x8)), (9, (true, x9)), (10, (true, y0))]) [1, 2, 3, 4, 5, 6, 7, 8, 9, 10, 0] rfl ?_
    exact w_L_isDone_81 F hno hnm x0 x1 x2 x3 x4 x5 x6 x7 x8 x9 y0 (irm (idv x8 2) 2) M h
  · skip
    refine j_iconst F dL_isDone_71 ?_
    refine j_goto F 81 (by decide) dL_isDone_72 ?_
    refine j_sub (lv' := [(0, (false, x0)), (1, (false, x1)), (2, (true, x2)), (3, (false, x3)), (4, (false, x4)), (5, (false, x5)), (6, (true, x6)), (7, (true, x7)), (8, (true, x8)), (9, (true, x9)), (10, (true, y0))]) [1, 2, 3, 4, 5, 6, 7, 8, 9, 10, 0] rfl ?_
    exact w_L_isDone_81 F hno hnm x0 x1 x2 x3 x4 x5 x6 x7 x8 x9 y0 2 M h
set_option maxHeartbeats 4000000 in
set_option maxRecDepth 100000 in
theorem w_L_isDone_0 {p : Program} {l : Launch} {e : Env} {R : Room} {s : State} {m : MethodId} {args : Array Value} {below : List Frame} {meth : Method} {c : Code} {G : Gt} {ρ0 : Int → Nat} {M0 : Mo} {res : RS} (F : Fx p l R s m args meth c cL_isDone 17 RL G M0 15 (some FieldType.boolean)) (hno : ∀ x ∈ c.exceptionTable.toList, False) (hnm : meth.name = yL_isDone.name) (x0 x1 x2 x3 x4 x5 : Int) (M : Mo) (h : L_isDone x0 x1 x2 x3 x4 x5 M = some res) : J p l e R s m args below meth c 17 G ρ0 M0 1 res M 0 [(0, (false, x0)), (1, (false, x1)), (2, (true, x2)), (3, (false, x3)), (4, (false, x4)), (5, (false, x5))] [] := by
  unfold L_isDone at h
  refine j_aload_n F 1 rfl rfl dL_isDone_0 ?_
  refine j_iload_n F 2 rfl rfl dL_isDone_1 ?_
  refine j_bipush F (by decide) dL_isDone_2 ?_
  refine j_callS (d' := 0) (argl := [(false, x1), (true, x2), (true, 40)]) (rk9 := 1) (st := []) F hno M_L_part q607 q606 ⟨by decide, by decide⟩ (Nat.le_of_ble_eq_true rfl) (by decide) dL_isDone_4 rfl h (fun z hz => c_L_part l F.ht G x1 x2 40 M z hz) (fun v1 M2 h kl3 => ?_)
  refine j_st (st' := [(true, v1)]) rfl ?_
  refine j_istore F (lv' := [(6, (true, v1)), (0, (false, x0)), (1, (false, x1)), (2, (true, x2)), (3, (false, x3)), (4, (false, x4)), (5, (false, x5))]) (by decide) rfl dL_isDone_7 ?_
  refine j_aload_n F 2 rfl rfl dL_isDone_9 ?_
  refine j_iload_n F 3 rfl rfl dL_isDone_10 ?_
  refine j_iconst F dL_isDone_11 ?_
  refine j_iadd F dL_isDone_12 ?_
  refine j_sipush F (by decide) dL_isDone_13 ?_
  refine j_callS (d' := 0) (argl := [(false, x1), (true, (x2 + 1)), (true, 6000)]) (rk9 := 1) (st := []) F hno M_L_part q607 q606 ⟨by decide, by decide⟩ (Nat.le_of_ble_eq_true rfl) (by decide) dL_isDone_16 rfl h (fun z hz => c_L_part l F.ht G x1 (x2 + 1) 6000 M2 z hz) (fun v4 M5 h kl6 => ?_)
  refine j_st (st' := [(true, v4)]) rfl ?_
  refine j_istore F (lv' := [(7, (true, v4)), (6, (true, v1)), (0, (false, x0)), (1, (false, x1)), (2, (true, x2)), (3, (false, x3)), (4, (false, x4)), (5, (false, x5))]) (by decide) rfl dL_isDone_19 ?_
  refine j_aload_n F 3 rfl rfl dL_isDone_21 ?_
  refine j_iload_n F 4 rfl rfl dL_isDone_22 ?_
  refine j_iconst F dL_isDone_23 ?_
  refine j_iadd F dL_isDone_24 ?_
  refine j_sipush F (by decide) dL_isDone_25 ?_
  refine j_callS (d' := 0) (argl := [(false, x1), (true, (x2 + 2)), (true, 7000)]) (rk9 := 1) (st := []) F hno M_L_part q607 q606 ⟨by decide, by decide⟩ (Nat.le_of_ble_eq_true rfl) (by decide) dL_isDone_28 rfl h (fun z hz => c_L_part l F.ht G x1 (x2 + 2) 7000 M5 z hz) (fun v7 M8 h kl9 => ?_)
  refine j_st (st' := [(true, v7)]) rfl ?_
  refine j_istore F (lv' := [(8, (true, v7)), (7, (true, v4)), (6, (true, v1)), (0, (false, x0)), (1, (false, x1)), (2, (true, x2)), (3, (false, x3)), (4, (false, x4)), (5, (false, x5))]) (by decide) rfl dL_isDone_31 ?_
  refine j_aload_n F 4 rfl rfl dL_isDone_33 ?_
  refine j_iload_n F 5 rfl rfl dL_isDone_34 ?_
  refine j_iconst F dL_isDone_35 ?_
  refine j_iadd F dL_isDone_36 ?_
  refine j_sipush F (by decide) dL_isDone_37 ?_
  refine j_callS (d' := 0) (argl := [(false, x1), (true, (x2 + 3)), (true, 8000)]) (rk9 := 1) (st := []) F hno M_L_part q607 q606 ⟨by decide, by decide⟩ (Nat.le_of_ble_eq_true rfl) (by decide) dL_isDone_40 rfl h (fun z hz => c_L_part l F.ht G x1 (x2 + 3) 8000 M8 z hz) (fun v10 M11 h kl12 => ?_)
  refine j_st (st' := [(true, v10)]) rfl ?_
  refine j_istore F (lv' := [(9, (true, v10)), (8, (true, v7)), (7, (true, v4)), (6, (true, v1)), (0, (false, x0)), (1, (false, x1)), (2, (true, x2)), (3, (false, x3)), (4, (false, x4)), (5, (false, x5))]) (by decide) rfl dL_isDone_43 ?_
  refine j_iload F 2 rfl dL_isDone_45 ?_
  refine j_bipush F (by decide) dL_isDone_47 ?_
  refine j_irem F (by decide) dL_isDone_49 ?_
  refine j_if_ne F 57 (by decide) dL_isDone_50 h (fun h => ?_) (fun h => ?_)
  · skip
    refine j_iload F 2 rfl dL_isDone_57 ?_
    refine j_iconst F dL_isDone_59 ?_
    refine j_irem F (by decide) dL_isDone_60 ?_
    refine j_sub (lv' := [(0, (false, x0)), (1, (false, x1)), (2, (true, x2)), (3, (false, x3)), (4, (false, x4)), (5, (false, x5)), (6, (true, v1)), (7, (true, v4)), (8, (true, v7)), (9, (true, v10))]) [4, 5, 6, 7, 8, 9, 3, 2, 1, 0] rfl ?_
    exact w_L_isDone_61 F hno hnm x0 x1 x2 x3 x4 x5 v1 v4 v7 v10 (irm v4 2) M11 h
  · skip
    refine j_iconst F dL_isDone_53 ?_
    refine j_goto F 61 (by decide) dL_isDone_54 ?_
    refine j_sub (lv' := [(0, (false, x0)), (1, (false, x1)), (2, (true, x2)), (3, (false, x3)), (4, (false, x4)), (5, (false, x5)), (6, (true, v1)), (7, (true, v4)), (8, (true, v7)), (9, (true, v10))]) [4, 5, 6, 7, 8, 9, 3, 2, 1, 0] rfl ?_
    exact w_L_isDone_61 F hno hnm x0 x1 x2 x3 x4 x5 v1 v4 v7 v10 2 M11 h
theorem c_L_isDone (l : Launch) (hl : l.stackTraces = false) (G : Gt) (x0 x1 x2 x3 x4 x5 : Int) (M : Mo) (z : RS) (h : L_isDone x0 x1 x2 x3 x4 x5 M = some z) : CT l G yL_isDone (cn yL_isDone cL_isDone 17 (some FieldType.boolean)) 15 [(false, x0), (false, x1), (true, x2), (false, x3), (false, x4), (false, x5)] M 1 z :=
  ctOf hl (by decide) (Nat.le_of_ble_eq_true rfl) (fun p e R s m args below meth c ρ F hno hnm => w_L_isDone_0 F hno hnm x0 x1 x2 x3 x4 x5 M h)
