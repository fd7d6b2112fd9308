theorem dfX11 : ∀ j, j < 6 → defaultValue (tyX11 j) = vp_V ((lay 12).map (fun b => if b then Value.int 0 else .null)) j := by decide +kernel
set_option maxRecDepth 100000 in
theorem q80 : Cond.classLink RL 9 RX11 ∈ GT := gt 80 (by decide +kernel) (by decide +kernel)
set_option maxRecDepth 100000 in
theorem q81 : Cond.instantiable RX11 6 ∈ GT := gt 81 (by decide +kernel) (by decide +kernel)
theorem dL_law_0 : decode cL_law 0 = .ok (.new 9, 3) := by decide +kernel
theorem dL_law_3 : decode cL_law 3 = .ok (.dup, 1) := by decide +kernel
set_option maxRecDepth 100000 in
theorem q84 : Cond.code yX11_init cX11_init 6 none ∈ GT := gt 84 (rfl) (by decide +kernel)
theorem M_X11_init : MY yX11_init cX11_init 6 none 0 := ⟨q84, q53, by decide +kernel, by decide +kernel⟩
set_option maxRecDepth 100000 in
theorem q83 : Cond.instanceMethod yX11_init ∈ GT := gt 83 (by decide +kernel) (by decide +kernel)
set_option maxRecDepth 100000 in
theorem q82 : Cond.methodLink RL 215 yX11_init ∈ GT := gt 82 (by decide +kernel) (by decide +kernel)
theorem dL_law_4 : decode cL_law 4 = .ok (.invokespecial 215, 3) := by decide +kernel
theorem dL_law_7 : decode cL_law 7 = .ok (.astore_n 1, 1) := by decide +kernel
theorem dL_law_8 : decode cL_law 8 = .ok (.bipush 64, 2) := by decide +kernel
theorem dL_law_10 : decode cL_law 10 = .ok (.newarray .int, 2) := by decide +kernel
theorem dL_law_12 : decode cL_law 12 = .ok (.astore_n 2, 1) := by decide +kernel
theorem dL_law_13 : decode cL_law 13 = .ok (.bipush 64, 2) := by decide +kernel
theorem dL_law_15 : decode cL_law 15 = .ok (.newarray .int, 2) := by decide +kernel
theorem dL_law_17 : decode cL_law 17 = .ok (.astore_n 3, 1) := by decide +kernel
theorem dL_law_18 : decode cL_law 18 = .ok (.bipush 18, 2) := by decide +kernel
theorem dL_law_20 : decode cL_law 20 = .ok (.newarray .int, 2) := by decide +kernel
theorem dL_law_22 : decode cL_law 22 = .ok (.astore 4, 2) := by decide +kernel
theorem dL_law_24 : decode cL_law 24 = .ok (.aload 4, 2) := by decide +kernel
theorem dL_law_26 : decode cL_law 26 = .ok (.iconst 2, 1) := by decide +kernel
theorem dL_law_27 : decode cL_law 27 = .ok (.iconst (-1), 1) := by decide +kernel
theorem dL_law_28 : decode cL_law 28 = .ok (.iastore, 1) := by decide +kernel
theorem dL_law_29 : decode cL_law 29 = .ok (.aload 4, 2) := by decide +kernel
theorem dL_law_31 : decode cL_law 31 = .ok (.iconst 3, 1) := by decide +kernel
theorem dL_law_32 : decode cL_law 32 = .ok (.iconst (-1), 1) := by decide +kernel
theorem dL_law_33 : decode cL_law 33 = .ok (.iastore, 1) := by decide +kernel
theorem dL_law_34 : decode cL_law 34 = .ok (.aload_n 1, 1) := by decide +kernel
theorem dL_law_35 : decode cL_law 35 = .ok (.iconst 0, 1) := by decide +kernel
theorem dL_law_36 : decode cL_law 36 = .ok (.bipush 96, 2) := by decide +kernel
theorem dL_law_38 : decode cL_law 38 = .ok (.iconst 0, 1) := by decide +kernel
theorem dL_law_39 : decode cL_law 39 = .ok (.iconst 0, 1) := by decide +kernel
theorem dL_law_40 : decode cL_law 40 = .ok (.iconst 0, 1) := by decide +kernel
theorem dL_law_41 : decode cL_law 41 = .ok (.iconst 0, 1) := by decide +kernel
theorem dL_law_42 : decode cL_law 42 = .ok (.iconst 0, 1) := by decide +kernel
theorem dL_law_43 : decode cL_law 43 = .ok (.iconst 0, 1) := by decide +kernel
theorem dL_law_44 : decode cL_law 44 = .ok (.invokestatic 185, 3) := by decide +kernel
theorem dL_law_47 : decode cL_law 47 = .ok (.sipush (-2000), 3) := by decide +kernel
theorem dL_law_50 : decode cL_law 50 = .ok (.if_icmp .ne 67, 3) := by decide +kernel
theorem dL_law_53 : decode cL_law 53 = .ok (.aload_n 1, 1) := by decide +kernel
theorem dL_law_54 : decode cL_law 54 = .ok (.bipush 98, 2) := by decide +kernel
theorem dL_law_56 : decode cL_law 56 = .ok (.iconst 0, 1) := by decide +kernel
theorem dL_law_57 : decode cL_law 57 = .ok (.invokevirtual 17, 3) := by decide +kernel
theorem dL_law_60 : decode cL_law 60 = .ok (.ifCond .ne 57, 3) := by decide +kernel
theorem dL_law_63 : decode cL_law 63 = .ok (.aload_n 1, 1) := by decide +kernel
theorem dL_law_64 : decode cL_law 64 = .ok (.iconst 0, 1) := by decide +kernel
theorem dL_law_65 : decode cL_law 65 = .ok (.bipush 98, 2) := by decide +kernel
theorem dL_law_67 : decode cL_law 67 = .ok (.iconst 1, 1) := by decide +kernel
theorem dL_law_68 : decode cL_law 68 = .ok (.iconst 0, 1) := by decide +kernel
theorem dL_law_69 : decode cL_law 69 = .ok (.iconst 0, 1) := by decide +kernel
theorem dL_law_70 : decode cL_law 70 = .ok (.iconst 0, 1) := by decide +kernel
theorem dL_law_71 : decode cL_law 71 = .ok (.iconst 0, 1) := by decide +kernel
theorem dL_law_72 : decode cL_law 72 = .ok (.iconst 0, 1) := by decide +kernel
theorem dL_law_73 : decode cL_law 73 = .ok (.invokestatic 185, 3) := by decide +kernel
theorem dL_law_76 : decode cL_law 76 = .ok (.sipush (-1000), 3) := by decide +kernel
theorem dL_law_79 : decode cL_law 79 = .ok (.if_icmp .ne 38, 3) := by decide +kernel
theorem dL_law_82 : decode cL_law 82 = .ok (.aload_n 1, 1) := by decide +kernel
theorem dL_law_83 : decode cL_law 83 = .ok (.bipush 97, 2) := by decide +kernel
theorem dL_law_85 : decode cL_law 85 = .ok (.iconst 1, 1) := by decide +kernel
theorem dL_law_86 : decode cL_law 86 = .ok (.invokevirtual 17, 3) := by decide +kernel
theorem dL_law_89 : decode cL_law 89 = .ok (.iconst 1, 1) := by decide +kernel
theorem dL_law_90 : decode cL_law 90 = .ok (.if_icmp .ne 27, 3) := by decide +kernel
theorem dL_law_93 : decode cL_law 93 = .ok (.aload_n 1, 1) := by decide +kernel
theorem dL_law_94 : decode cL_law 94 = .ok (.iconst 0, 1) := by decide +kernel
theorem dL_law_95 : decode cL_law 95 = .ok (.invokevirtual 73, 3) := by decide +kernel
theorem dL_law_98 : decode cL_law 98 = .ok (.bipush 98, 2) := by decide +kernel
theorem dL_law_100 : decode cL_law 100 = .ok (.if_icmp .ne 17, 3) := by decide +kernel
theorem dL_law_103 : decode cL_law 103 = .ok (.aload_n 1, 1) := by decide +kernel
theorem dL_law_104 : decode cL_law 104 = .ok (.iconst 1, 1) := by decide +kernel
theorem dL_law_105 : decode cL_law 105 = .ok (.invokevirtual 73, 3) := by decide +kernel
theorem dL_law_108 : decode cL_law 108 = .ok (.bipush 97, 2) := by decide +kernel
theorem dL_law_110 : decode cL_law 110 = .ok (.if_icmp .ne 7, 3) := by decide +kernel
theorem dL_law_113 : decode cL_law 113 = .ok (.iconst 1, 1) := by decide +kernel
theorem dL_law_114 : decode cL_law 114 = .ok (.goto 4, 3) := by decide +kernel
theorem dL_law_117 : decode cL_law 117 = .ok (.iconst 0, 1) := by decide +kernel
theorem dL_law_118 : decode cL_law 118 = .ok (.istore 5, 2) := by decide +kernel
theorem dL_law_120 : decode cL_law 120 = .ok (.aload_n 0, 1) := by decide +kernel
theorem dL_law_121 : decode cL_law 121 = .ok (.iconst 0, 1) := by decide +kernel
theorem dL_law_122 : decode cL_law 122 = .ok (.iconst 4, 1) := by decide +kernel
theorem dL_law_123 : decode cL_law 123 = .ok (.invokestatic 178, 3) := by decide +kernel
theorem dL_law_126 : decode cL_law 126 = .ok (.istore 6, 2) := by decide +kernel
theorem dL_law_128 : decode cL_law 128 = .ok (.iconst 0, 1) := by decide +kernel
theorem dL_law_129 : decode cL_law 129 = .ok (.istore 7, 2) := by decide +kernel
theorem dL_law_131 : decode cL_law 131 = .ok (.iload 7, 2) := by decide +kernel
theorem dL_law_133 : decode cL_law 133 = .ok (.iload 6, 2) := by decide +kernel
theorem dL_law_135 : decode cL_law 135 = .ok (.if_icmp .ge 107, 3) := by decide +kernel
theorem dL_law_138 : decode cL_law 138 = .ok (.iload 5, 2) := by decide +kernel
theorem dL_law_140 : decode cL_law 140 = .ok (.ifCond .eq 102, 3) := by decide +kernel
theorem dL_law_143 : decode cL_law 143 = .ok (.aload 4, 2) := by decide +kernel
theorem dL_law_145 : decode cL_law 145 = .ok (.bipush 9, 2) := by decide +kernel
theorem dL_law_147 : decode cL_law 147 = .ok (.iload 7, 2) := by decide +kernel
theorem dL_law_149 : decode cL_law 149 = .ok (.iadd, 1) := by decide +kernel
theorem dL_law_150 : decode cL_law 150 = .ok (.aload_n 0, 1) := by decide +kernel
theorem dL_law_151 : decode cL_law 151 = .ok (.iconst 3, 1) := by decide +kernel
theorem dL_law_152 : decode cL_law 152 = .ok (.iload 7, 2) := by decide +kernel
theorem dL_law_154 : decode cL_law 154 = .ok (.imul, 1) := by decide +kernel
theorem dL_law_155 : decode cL_law 155 = .ok (.iconst 1, 1) := by decide +kernel
theorem dL_law_156 : decode cL_law 156 = .ok (.iadd, 1) := by decide +kernel
theorem dL_law_157 : decode cL_law 157 = .ok (.iconst 3, 1) := by decide +kernel
theorem dL_law_158 : decode cL_law 158 = .ok (.invokestatic 178, 3) := by decide +kernel
theorem dL_law_161 : decode cL_law 161 = .ok (.iastore, 1) := by decide +kernel
theorem dL_law_162 : decode cL_law 162 = .ok (.aload 4, 2) := by decide +kernel
theorem dL_law_164 : decode cL_law 164 = .ok (.bipush 12, 2) := by decide +kernel
theorem dL_law_166 : decode cL_law 166 = .ok (.iload 7, 2) := by decide +kernel
theorem dL_law_168 : decode cL_law 168 = .ok (.iadd, 1) := by decide +kernel
theorem dL_law_169 : decode cL_law 169 = .ok (.iconst 1, 1) := by decide +kernel
theorem dL_law_170 : decode cL_law 170 = .ok (.aload_n 0, 1) := by decide +kernel
theorem dL_law_171 : decode cL_law 171 = .ok (.iconst 3, 1) := by decide +kernel
theorem dL_law_172 : decode cL_law 172 = .ok (.iload 7, 2) := by decide +kernel
theorem dL_law_174 : decode cL_law 174 = .ok (.imul, 1) := by decide +kernel
theorem dL_law_175 : decode cL_law 175 = .ok (.iconst 2, 1) := by decide +kernel
theorem dL_law_176 : decode cL_law 176 = .ok (.iadd, 1) := by decide +kernel
theorem dL_law_177 : decode cL_law 177 = .ok (.bipush 63, 2) := by decide +kernel
theorem dL_law_179 : decode cL_law 179 = .ok (.invokestatic 178, 3) := by decide +kernel
theorem dL_law_182 : decode cL_law 182 = .ok (.iadd, 1) := by decide +kernel
theorem dL_law_183 : decode cL_law 183 = .ok (.iastore, 1) := by decide +kernel
theorem dL_law_184 : decode cL_law 184 = .ok (.aload 4, 2) := by decide +kernel
theorem dL_law_186 : decode cL_law 186 = .ok (.bipush 15, 2) := by decide +kernel
theorem dL_law_188 : decode cL_law 188 = .ok (.iload 7, 2) := by decide +kernel
theorem dL_law_190 : decode cL_law 190 = .ok (.iadd, 1) := by decide +kernel
theorem dL_law_191 : decode cL_law 191 = .ok (.iconst 1, 1) := by decide +kernel
theorem dL_law_192 : decode cL_law 192 = .ok (.iastore, 1) := by decide +kernel
theorem dL_law_193 : decode cL_law 193 = .ok (.aload_n 1, 1) := by decide +kernel
theorem dL_law_194 : decode cL_law 194 = .ok (.aload 4, 2) := by decide +kernel
theorem dL_law_196 : decode cL_law 196 = .ok (.bipush 12, 2) := by decide +kernel
theorem dL_law_198 : decode cL_law 198 = .ok (.iload 7, 2) := by decide +kernel
theorem dL_law_200 : decode cL_law 200 = .ok (.iadd, 1) := by decide +kernel
theorem dL_law_201 : decode cL_law 201 = .ok (.iaload, 1) := by decide +kernel
theorem dL_law_202 : decode cL_law 202 = .ok (.bipush 7, 2) := by decide +kernel
theorem dL_law_204 : decode cL_law 204 = .ok (.aload 4, 2) := by decide +kernel
theorem dL_law_206 : decode cL_law 206 = .ok (.bipush 9, 2) := by decide +kernel
theorem dL_law_208 : decode cL_law 208 = .ok (.iload 7, 2) := by decide +kernel
theorem dL_law_210 : decode cL_law 210 = .ok (.iadd, 1) := by decide +kernel
theorem dL_law_211 : decode cL_law 211 = .ok (.iaload, 1) := by decide +kernel
theorem dL_law_212 : decode cL_law 212 = .ok (.invokevirtual 24, 3) := by decide +kernel
theorem dL_law_215 : decode cL_law 215 = .ok (.iload 7, 2) := by decide +kernel
theorem dL_law_217 : decode cL_law 217 = .ok (.if_icmp .ne 7, 3) := by decide +kernel
theorem dL_law_224 : decode cL_law 224 = .ok (.iconst 0, 1) := by decide +kernel
theorem dL_law_220 : decode cL_law 220 = .ok (.iconst 1, 1) := by decide +kernel
theorem dL_law_221 : decode cL_law 221 = .ok (.goto 4, 3) := by decide +kernel
theorem dL_law_225 : decode cL_law 225 = .ok (.istore 5, 2) := by decide +kernel
theorem dL_law_227 : decode cL_law 227 = .ok (.aload 4, 2) := by decide +kernel
theorem dL_law_229 : decode cL_law 229 = .ok (.bipush 8, 2) := by decide +kernel
theorem dL_law_231 : decode cL_law 231 = .ok (.dup2, 1) := by decide +kernel
theorem dL_law_232 : decode cL_law 232 = .ok (.iaload, 1) := by decide +kernel
theorem dL_law_233 : decode cL_law 233 = .ok (.iconst 1, 1) := by decide +kernel
theorem dL_law_234 : decode cL_law 234 = .ok (.iadd, 1) := by decide +kernel
theorem dL_law_235 : decode cL_law 235 = .ok (.iastore, 1) := by decide +kernel
theorem dL_law_236 : decode cL_law 236 = .ok (.iinc 7 1, 3) := by decide +kernel
theorem dL_law_239 : decode cL_law 239 = .ok (.goto (-108), 3) := by decide +kernel
theorem dL_law_242 : decode cL_law 242 = .ok (.iload 5, 2) := by decide +kernel
theorem dL_law_244 : decode cL_law 244 = .ok (.ifCond .eq 61, 3) := by decide +kernel
theorem dL_law_247 : decode cL_law 247 = .ok (.aload_n 1, 1) := by decide +kernel
theorem dL_law_248 : decode cL_law 248 = .ok (.aload_n 2, 1) := by decide +kernel
theorem dL_law_249 : decode cL_law 249 = .ok (.aload_n 3, 1) := by decide +kernel
theorem dL_law_250 : decode cL_law 250 = .ok (.aload 4, 2) := by decide +kernel
set_option maxRecDepth 100000 in
theorem q1510 : Cond.code yL_areFiles cL_areFiles 8 (some FieldType.boolean) ∈ GT := gt 1510 (rfl) (by decide +kernel)
theorem M_L_areFiles : MY yL_areFiles cL_areFiles 8 (some FieldType.boolean) 4 := ⟨q1510, q52, by decide +kernel, by decide +kernel⟩
set_option maxRecDepth 100000 in
theorem q1509 : Cond.static yL_areFiles ∈ GT := gt 1509 (by decide +kernel) (by decide +kernel)
set_option maxRecDepth 100000 in
theorem q1508 : Cond.methodLink RL 216 yL_areFiles ∈ GT := gt 1508 (by decide +kernel) (by decide +kernel)
theorem dL_law_252 : decode cL_law 252 = .ok (.invokestatic 216, 3) := by decide +kernel
theorem dL_law_255 : decode cL_law 255 = .ok (.ifCond .eq 50, 3) := by decide +kernel
theorem dL_law_258 : decode cL_law 258 = .ok (.iload 6, 2) := by decide +kernel
theorem dL_law_260 : decode cL_law 260 = .ok (.iconst 3, 1) := by decide +kernel
theorem dL_law_261 : decode cL_law 261 = .ok (.if_icmp .lt 21, 3) := by decide +kernel
theorem dL_law_264 : decode cL_law 264 = .ok (.aload_n 1, 1) := by decide +kernel
theorem dL_law_265 : decode cL_law 265 = .ok (.iconst 2, 1) := by decide +kernel
theorem dL_law_266 : decode cL_law 266 = .ok (.iconst 1, 1) := by decide +kernel
theorem dL_law_267 : decode cL_law 267 = .ok (.iconst 1, 1) := by decide +kernel
theorem dL_law_268 : decode cL_law 268 = .ok (.iconst 0, 1) := by decide +kernel
theorem dL_law_269 : decode cL_law 269 = .ok (.iconst 0, 1) := by decide +kernel
theorem dL_law_270 : decode cL_law 270 = .ok (.iconst 0, 1) := by decide +kernel
theorem dL_law_271 : decode cL_law 271 = .ok (.iconst 0, 1) := by decide +kernel
theorem dL_law_272 : decode cL_law 272 = .ok (.iconst 0, 1) := by decide +kernel
theorem dL_law_273 : decode cL_law 273 = .ok (.invokestatic 185, 3) := by decide +kernel
theorem dL_law_276 : decode cL_law 276 = .ok (.sipush (-1000), 3) := by decide +kernel
theorem dL_law_279 : decode cL_law 279 = .ok (.if_icmp .ne 26, 3) := by decide +kernel
theorem dL_law_282 : decode cL_law 282 = .ok (.aload_n 1, 1) := by decide +kernel
theorem dL_law_283 : decode cL_law 283 = .ok (.iconst 2, 1) := by decide +kernel
theorem dL_law_284 : decode cL_law 284 = .ok (.bipush 64, 2) := by decide +kernel
theorem dL_law_286 : decode cL_law 286 = .ok (.iconst 1, 1) := by decide +kernel
theorem dL_law_287 : decode cL_law 287 = .ok (.iconst 0, 1) := by decide +kernel
theorem dL_law_288 : decode cL_law 288 = .ok (.iconst 0, 1) := by decide +kernel
theorem dL_law_289 : decode cL_law 289 = .ok (.iconst 0, 1) := by decide +kernel
theorem dL_law_290 : decode cL_law 290 = .ok (.iconst 0, 1) := by decide +kernel
theorem dL_law_291 : decode cL_law 291 = .ok (.iconst 0, 1) := by decide +kernel
theorem dL_law_292 : decode cL_law 292 = .ok (.invokestatic 185, 3) := by decide +kernel
theorem dL_law_295 : decode cL_law 295 = .ok (.sipush (-2000), 3) := by decide +kernel
theorem dL_law_298 : decode cL_law 298 = .ok (.if_icmp .ne 7, 3) := by decide +kernel
theorem dL_law_301 : decode cL_law 301 = .ok (.iconst 1, 1) := by decide +kernel
theorem dL_law_302 : decode cL_law 302 = .ok (.goto 4, 3) := by decide +kernel
theorem dL_law_305 : decode cL_law 305 = .ok (.iconst 0, 1) := by decide +kernel
theorem dL_law_306 : decode cL_law 306 = .ok (.istore 5, 2) := by decide +kernel
theorem dL_law_308 : decode cL_law 308 = .ok (.iconst 0, 1) := by decide +kernel
theorem dL_law_309 : decode cL_law 309 = .ok (.istore 7, 2) := by decide +kernel
theorem dL_law_311 : decode cL_law 311 = .ok (.iload 7, 2) := by decide +kernel
theorem dL_law_313 : decode cL_law 313 = .ok (.bipush 56, 2) := by decide +kernel
theorem dL_law_315 : decode cL_law 315 = .ok (.if_icmp .ge 51, 3) := by decide +kernel
theorem dL_law_318 : decode cL_law 318 = .ok (.iload 5, 2) := by decide +kernel
theorem dL_law_320 : decode cL_law 320 = .ok (.ifCond .eq 46, 3) := by decide +kernel
theorem dL_law_323 : decode cL_law 323 = .ok (.aload_n 1, 1) := by decide +kernel
theorem dL_law_324 : decode cL_law 324 = .ok (.aload_n 0, 1) := by decide +kernel
theorem dL_law_325 : decode cL_law 325 = .ok (.iconst 4, 1) := by decide +kernel
theorem dL_law_326 : decode cL_law 326 = .ok (.iload 7, 2) := by decide +kernel
theorem dL_law_328 : decode cL_law 328 = .ok (.imul, 1) := by decide +kernel
theorem dL_law_329 : decode cL_law 329 = .ok (.bipush 10, 2) := by decide +kernel
theorem dL_law_331 : decode cL_law 331 = .ok (.iadd, 1) := by decide +kernel
theorem dL_law_332 : decode cL_law 332 = .ok (.aload_n 2, 1) := by decide +kernel
theorem dL_law_333 : decode cL_law 333 = .ok (.aload_n 3, 1) := by decide +kernel
theorem dL_law_334 : decode cL_law 334 = .ok (.aload 4, 2) := by decide +kernel
set_option maxRecDepth 100000 in
theorem q1618 : Cond.code yL_isDone cL_isDone 17 (some FieldType.boolean) ∈ GT := gt 1618 (rfl) (by decide +kernel)
theorem M_L_isDone : MY yL_isDone cL_isDone 17 (some FieldType.boolean) 6 := ⟨q1618, q52, by decide +kernel, by decide +kernel⟩
set_option maxRecDepth 100000 in
theorem q1617 : Cond.static yL_isDone ∈ GT := gt 1617 (by decide +kernel) (by decide +kernel)
set_option maxRecDepth 100000 in
theorem q1616 : Cond.methodLink RL 219 yL_isDone ∈ GT := gt 1616 (by decide +kernel) (by decide +kernel)
theorem dL_law_336 : decode cL_law 336 = .ok (.invokestatic 219, 3) := by decide +kernel
theorem dL_law_339 : decode cL_law 339 = .ok (.ifCond .eq 18, 3) := by decide +kernel
theorem dL_law_342 : decode cL_law 342 = .ok (.aload_n 1, 1) := by decide +kernel
theorem dL_law_343 : decode cL_law 343 = .ok (.aload_n 2, 1) := by decide +kernel
theorem dL_law_344 : decode cL_law 344 = .ok (.aload_n 3, 1) := by decide +kernel
theorem dL_law_345 : decode cL_law 345 = .ok (.aload 4, 2) := by decide +kernel
theorem dL_law_347 : decode cL_law 347 = .ok (.invokestatic 216, 3) := by decide +kernel
theorem dL_law_350 : decode cL_law 350 = .ok (.ifCond .eq 7, 3) := by decide +kernel
theorem dL_law_353 : decode cL_law 353 = .ok (.iconst 1, 1) := by decide +kernel
theorem dL_law_354 : decode cL_law 354 = .ok (.goto 4, 3) := by decide +kernel
theorem dL_law_357 : decode cL_law 357 = .ok (.iconst 0, 1) := by decide +kernel
theorem dL_law_358 : decode cL_law 358 = .ok (.istore 5, 2) := by decide +kernel
theorem dL_law_360 : decode cL_law 360 = .ok (.iinc 7 1, 3) := by decide +kernel
theorem dL_law_363 : decode cL_law 363 = .ok (.goto (-52), 3) := by decide +kernel
theorem dL_law_366 : decode cL_law 366 = .ok (.iload 5, 2) := by decide +kernel
theorem dL_law_368 : decode cL_law 368 = .ok (.ifCond .eq 173, 3) := by decide +kernel
theorem dL_law_541 : decode cL_law 541 = .ok (.iconst 0, 1) := by decide +kernel
theorem dL_law_542 : decode cL_law 542 = .ok (.ireturn, 1) := by decide +kernel
theorem dL_law_371 : decode cL_law 371 = .ok (.aload_n 1, 1) := by decide +kernel
theorem dL_law_372 : decode cL_law 372 = .ok (.aload_n 2, 1) := by decide +kernel
theorem dL_law_373 : decode cL_law 373 = .ok (.aload_n 3, 1) := by decide +kernel
theorem dL_law_374 : decode cL_law 374 = .ok (.aload 4, 2) := by decide +kernel
theorem dL_law_376 : decode cL_law 376 = .ok (.invokestatic 181, 3) := by decide +kernel
theorem dL_law_379 : decode cL_law 379 = .ok (.ifCond .eq 162, 3) := by decide +kernel
theorem dL_law_382 : decode cL_law 382 = .ok (.aload_n 1, 1) := by decide +kernel
theorem dL_law_383 : decode cL_law 383 = .ok (.iconst 3, 1) := by decide +kernel
theorem dL_law_384 : decode cL_law 384 = .ok (.iconst 2, 1) := by decide +kernel
theorem dL_law_385 : decode cL_law 385 = .ok (.iconst 0, 1) := by decide +kernel
theorem dL_law_386 : decode cL_law 386 = .ok (.iconst 0, 1) := by decide +kernel
theorem dL_law_387 : decode cL_law 387 = .ok (.iconst 0, 1) := by decide +kernel
theorem dL_law_388 : decode cL_law 388 = .ok (.iconst 0, 1) := by decide +kernel
theorem dL_law_389 : decode cL_law 389 = .ok (.iconst 0, 1) := by decide +kernel
theorem dL_law_390 : decode cL_law 390 = .ok (.iconst 0, 1) := by decide +kernel
theorem dL_law_391 : decode cL_law 391 = .ok (.invokestatic 185, 3) := by decide +kernel
theorem dL_law_394 : decode cL_law 394 = .ok (.sipush (-3000), 3) := by decide +kernel
theorem dL_law_397 : decode cL_law 397 = .ok (.if_icmp .ne 144, 3) := by decide +kernel
theorem dL_law_400 : decode cL_law 400 = .ok (.aload_n 1, 1) := by decide +kernel
theorem dL_law_401 : decode cL_law 401 = .ok (.bipush 6, 2) := by decide +kernel
theorem dL_law_403 : decode cL_law 403 = .ok (.iconst 0, 1) := by decide +kernel
theorem dL_law_404 : decode cL_law 404 = .ok (.bipush 6, 2) := by decide +kernel
theorem dL_law_406 : decode cL_law 406 = .ok (.iconst 0, 1) := by decide +kernel
theorem dL_law_407 : decode cL_law 407 = .ok (.iconst 0, 1) := by decide +kernel
theorem dL_law_408 : decode cL_law 408 = .ok (.iconst 0, 1) := by decide +kernel
theorem dL_law_409 : decode cL_law 409 = .ok (.bipush 97, 2) := by decide +kernel
theorem dL_law_411 : decode cL_law 411 = .ok (.iconst 0, 1) := by decide +kernel
theorem dL_law_412 : decode cL_law 412 = .ok (.invokestatic 185, 3) := by decide +kernel
theorem dL_law_415 : decode cL_law 415 = .ok (.sipush (-2000), 3) := by decide +kernel
theorem dL_law_418 : decode cL_law 418 = .ok (.if_icmp .ne 123, 3) := by decide +kernel
theorem dL_law_421 : decode cL_law 421 = .ok (.aload_n 1, 1) := by decide +kernel
theorem dL_law_422 : decode cL_law 422 = .ok (.bipush 8, 2) := by decide +kernel
theorem dL_law_424 : decode cL_law 424 = .ok (.iconst 0, 1) := by decide +kernel
theorem dL_law_425 : decode cL_law 425 = .ok (.bipush 40, 2) := by decide +kernel
theorem dL_law_427 : decode cL_law 427 = .ok (.iconst 0, 1) := by decide +kernel
theorem dL_law_428 : decode cL_law 428 = .ok (.iconst 0, 1) := by decide +kernel
theorem dL_law_429 : decode cL_law 429 = .ok (.iconst 0, 1) := by decide +kernel
theorem dL_law_430 : decode cL_law 430 = .ok (.iconst 0, 1) := by decide +kernel
theorem dL_law_431 : decode cL_law 431 = .ok (.iconst 0, 1) := by decide +kernel
theorem dL_law_432 : decode cL_law 432 = .ok (.invokestatic 185, 3) := by decide +kernel
theorem dL_law_435 : decode cL_law 435 = .ok (.sipush (-3000), 3) := by decide +kernel
theorem dL_law_438 : decode cL_law 438 = .ok (.if_icmp .ne 103, 3) := by decide +kernel
theorem dL_law_441 : decode cL_law 441 = .ok (.aload_n 1, 1) := by decide +kernel
theorem dL_law_442 : decode cL_law 442 = .ok (.bipush 9, 2) := by decide +kernel
theorem dL_law_444 : decode cL_law 444 = .ok (.iconst 3, 1) := by decide +kernel
theorem dL_law_445 : decode cL_law 445 = .ok (.iconst 0, 1) := by decide +kernel
theorem dL_law_446 : decode cL_law 446 = .ok (.iconst 0, 1) := by decide +kernel
theorem dL_law_447 : decode cL_law 447 = .ok (.iconst 0, 1) := by decide +kernel
theorem dL_law_448 : decode cL_law 448 = .ok (.iconst 0, 1) := by decide +kernel
theorem dL_law_449 : decode cL_law 449 = .ok (.iconst 0, 1) := by decide +kernel
theorem dL_law_450 : decode cL_law 450 = .ok (.iconst 0, 1) := by decide +kernel
theorem dL_law_451 : decode cL_law 451 = .ok (.invokestatic 185, 3) := by decide +kernel
theorem dL_law_454 : decode cL_law 454 = .ok (.sipush (-3000), 3) := by decide +kernel
theorem dL_law_457 : decode cL_law 457 = .ok (.if_icmp .ne 84, 3) := by decide +kernel
theorem dL_law_460 : decode cL_law 460 = .ok (.aload_n 1, 1) := by decide +kernel
theorem dL_law_461 : decode cL_law 461 = .ok (.bipush 10, 2) := by decide +kernel
theorem dL_law_463 : decode cL_law 463 = .ok (.iconst 3, 1) := by decide +kernel
theorem dL_law_464 : decode cL_law 464 = .ok (.iconst 0, 1) := by decide +kernel
theorem dL_law_465 : decode cL_law 465 = .ok (.iconst 0, 1) := by decide +kernel
theorem dL_law_466 : decode cL_law 466 = .ok (.iconst 0, 1) := by decide +kernel
theorem dL_law_467 : decode cL_law 467 = .ok (.iconst 0, 1) := by decide +kernel
theorem dL_law_468 : decode cL_law 468 = .ok (.iconst 0, 1) := by decide +kernel
theorem dL_law_469 : decode cL_law 469 = .ok (.iconst 0, 1) := by decide +kernel
theorem dL_law_470 : decode cL_law 470 = .ok (.invokestatic 185, 3) := by decide +kernel
theorem dL_law_473 : decode cL_law 473 = .ok (.sipush (-3000), 3) := by decide +kernel
theorem dL_law_476 : decode cL_law 476 = .ok (.if_icmp .ne 65, 3) := by decide +kernel
theorem dL_law_479 : decode cL_law 479 = .ok (.aload_n 1, 1) := by decide +kernel
theorem dL_law_480 : decode cL_law 480 = .ok (.bipush 11, 2) := by decide +kernel
theorem dL_law_482 : decode cL_law 482 = .ok (.iconst (-1), 1) := by decide +kernel
theorem dL_law_483 : decode cL_law 483 = .ok (.iconst 0, 1) := by decide +kernel
theorem dL_law_484 : decode cL_law 484 = .ok (.iconst 0, 1) := by decide +kernel
theorem dL_law_485 : decode cL_law 485 = .ok (.iconst 0, 1) := by decide +kernel
theorem dL_law_486 : decode cL_law 486 = .ok (.iconst 0, 1) := by decide +kernel
theorem dL_law_487 : decode cL_law 487 = .ok (.iconst 0, 1) := by decide +kernel
theorem dL_law_488 : decode cL_law 488 = .ok (.iconst 0, 1) := by decide +kernel
theorem dL_law_489 : decode cL_law 489 = .ok (.invokestatic 185, 3) := by decide +kernel
theorem dL_law_492 : decode cL_law 492 = .ok (.sipush (-3000), 3) := by decide +kernel
theorem dL_law_495 : decode cL_law 495 = .ok (.if_icmp .ne 46, 3) := by decide +kernel
theorem dL_law_498 : decode cL_law 498 = .ok (.aload_n 1, 1) := by decide +kernel
theorem dL_law_499 : decode cL_law 499 = .ok (.bipush 12, 2) := by decide +kernel
theorem dL_law_501 : decode cL_law 501 = .ok (.iconst 3, 1) := by decide +kernel
theorem dL_law_502 : decode cL_law 502 = .ok (.iconst 0, 1) := by decide +kernel
theorem dL_law_503 : decode cL_law 503 = .ok (.iconst 0, 1) := by decide +kernel
theorem dL_law_504 : decode cL_law 504 = .ok (.iconst 0, 1) := by decide +kernel
theorem dL_law_505 : decode cL_law 505 = .ok (.iconst 0, 1) := by decide +kernel
theorem dL_law_506 : decode cL_law 506 = .ok (.iconst 0, 1) := by decide +kernel
theorem dL_law_507 : decode cL_law 507 = .ok (.iconst 0, 1) := by decide +kernel
theorem dL_law_508 : decode cL_law 508 = .ok (.invokestatic 185, 3) := by decide +kernel
theorem dL_law_511 : decode cL_law 511 = .ok (.sipush (-3000), 3) := by decide +kernel
theorem dL_law_514 : decode cL_law 514 = .ok (.if_icmp .ne 27, 3) := by decide +kernel
theorem dL_law_517 : decode cL_law 517 = .ok (.aload_n 1, 1) := by decide +kernel
theorem dL_law_518 : decode cL_law 518 = .ok (.bipush 13, 2) := by decide +kernel
theorem dL_law_520 : decode cL_law 520 = .ok (.bipush 10, 2) := by decide +kernel
theorem dL_law_522 : decode cL_law 522 = .ok (.iconst 0, 1) := by decide +kernel
theorem dL_law_523 : decode cL_law 523 = .ok (.iconst 0, 1) := by decide +kernel
theorem dL_law_524 : decode cL_law 524 = .ok (.iconst 0, 1) := by decide +kernel
theorem dL_law_525 : decode cL_law 525 = .ok (.iconst 0, 1) := by decide +kernel
theorem dL_law_526 : decode cL_law 526 = .ok (.iconst 0, 1) := by decide +kernel
theorem dL_law_527 : decode cL_law 527 = .ok (.iconst 0, 1) := by decide +kernel
theorem dL_law_528 : decode cL_law 528 = .ok (.invokestatic 185, 3) := by decide +kernel
theorem dL_law_531 : decode cL_law 531 = .ok (.sipush (-3000), 3) := by decide +kernel
theorem dL_law_534 : decode cL_law 534 = .ok (.if_icmp .ne 7, 3) := by decide +kernel
theorem dL_law_537 : decode cL_law 537 = .ok (.iconst 1, 1) := by decide +kernel
theorem dL_law_538 : decode cL_law 538 = .ok (.goto 4, 3) := by decide +kernel
set_option maxHeartbeats 4000000 in
set_option maxRecDepth 100000 in
theorem w_L_law_225 {p : Program} {l : Launch} {e : Env} {R : Room} {s : State} {m : MethodId} {args : Array Value} {below : List Frame} {meth : Method} {c : Code} {G : Gt} {ρ0 : Int → Nat} {M0 : Mo} {res : RS} (F : Fx p l R s m args meth c cL_law 8 RL G M0 18 (some FieldType.boolean)) (hno : ∀ x ∈ c.exceptionTable.toList, False) (hnm : meth.name = yL_law.name) (k131 : Int → Int → Int → Int → Int → Int → Int → Int → Mo → Option RS) (hk131 : ∀ (x0 x1 x2 x3 x4 x5 x6 x7 : Int) (M : Mo), k131 x0 x1 x2 x3 x4 x5 x6 x7 M = some res → J p l e R s m args below meth c 8 G ρ0 M0 1 res M 131 [(0, (false, x0)), (1, (false, x1)), (2, (false, x2)), (3, (false, x3)), (4, (false, x4)), (5, (true, x5)), (6, (true, x6)), (7, (true, x7))] []) (x0 x1 x2 x3 x4 x6 x7 y0 : Int) (M : Mo) (h : L_law_225 k131 x0 x1 x2 x3 x4 x6 x7 y0 M = some res) : J p l e R s m args below meth c 8 G ρ0 M0 1 res M 225 [(0, (false, x0)), (1, (false, x1)), (2, (false, x2)), (3, (false, x3)), (4, (false, x4)), (6, (true, x6)), (7, (true, x7))] [(true, y0)] := by
  unfold L_law_225 at h
  refine j_istore F (lv' := [(5, (true, y0)), (0, (false, x0)), (1, (false, x1)), (2, (false, x2)), (3, (false, x3)), (4, (false, x4)), (6, (true, x6)), (7, (true, x7))]) (by decide) rfl dL_law_225 ?_
  refine j_aload F 5 rfl dL_law_227 ?_
  refine j_bipush F (by decide) dL_law_229 ?_
  refine j_dup2 F dL_law_231 ?_
  obtain ⟨g1, h⟩ := gua h
  obtain ⟨g2, h⟩ := gua h
  refine j_iaload F g1 g2 dL_law_232 ?_
  refine j_iconst F dL_law_233 ?_
  refine j_iadd F dL_law_234 ?_
  obtain ⟨g3, h⟩ := gua h
  refine j_iastore F g1 g3 dL_law_235 ?_
  obtain ⟨M4, hM4⟩ : ∃ Z, Z = sE M 0 x4 (wr 8) ((el M 0 x4 (wr 8)) + 1) := ⟨_, rfl⟩
  have kl5 : kle M M4 := by rw [hM4]; exact kle_sE
  rw [← hM4]
  replace h := pt_as h hM4
  refine j_iinc F 7 (lv' := [(7, (true, (x7 + 1))), (5, (true, y0)), (0, (false, x0)), (1, (false, x1)), (2, (false, x2)), (3, (false, x3)), (4, (false, x4)), (6, (true, x6))]) rfl (by decide) rfl dL_law_236 ?_
  refine j_goto F 131 (by decide) dL_law_239 ?_
  refine j_sub (lv' := [(0, (false, x0)), (1, (false, x1)), (2, (false, x2)), (3, (false, x3)), (4, (false, x4)), (5, (true, y0)), (6, (true, x6)), (7, (true, (x7 + 1)))]) [2, 3, 4, 5, 6, 1, 7, 0] rfl ?_
  exact hk131 x0 x1 x2 x3 x4 y0 x6 (x7 + 1) M4 h
set_option maxHeartbeats 4000000 in
set_option maxRecDepth 100000 in
theorem w_L_law_358 {p : Program} {l : Launch} {e : Env} {R : Room} {s : State} {m : MethodId} {args : Array Value} {below : List Frame} {meth : Method} {c : Code} {G : Gt} {ρ0 : Int → Nat} {M0 : Mo} {res : RS} (F : Fx p l R s m args meth c cL_law 8 RL G M0 18 (some FieldType.boolean)) (hno : ∀ x ∈ c.exceptionTable.toList, False) (hnm : meth.name = yL_law.name) (k311 : Int → Int → Int → Int → Int → Int → Int → Mo → Option RS) (hk311 : ∀ (x0 x1 x2 x3 x4 x5 x7 : Int) (M : Mo), k311 x0 x1 x2 x3 x4 x5 x7 M = some res → J p l e R s m args below meth c 8 G ρ0 M0 1 res M 311 [(0, (false, x0)), (1, (false, x1)), (2, (false, x2)), (3, (false, x3)), (4, (false, x4)), (5, (true, x5)), (7, (true, x7))] []) (x0 x1 x2 x3 x4 x7 y0 : Int) (M : Mo) (h : L_law_358 k311 x0 x1 x2 x3 x4 x7 y0 M = some res) : J p l e R s m args below meth c 8 G ρ0 M0 1 res M 358 [(0, (false, x0)), (1, (false, x1)), (2, (false, x2)), (3, (false, x3)), (4, (false, x4)), (7, (true, x7))] [(true, y0)] := by
  unfold L_law_358 at h
  refine j_istore F (lv' := [(5, (true, y0)), (0, (false, x0)), (1, (false, x1)), (2, (false, x2)), (3, (false, x3)), (4, (false, x4)), (7, (true, x7))]) (by decide) rfl dL_law_358 ?_
  refine j_iinc F 6 (lv' := [(7, (true, (x7 + 1))), (5, (true, y0)), (0, (false, x0)), (1, (false, x1)), (2, (false, x2)), (3, (false, x3)), (4, (false, x4))]) rfl (by decide) rfl dL_law_360 ?_
  refine j_goto F 311 (by decide) dL_law_363 ?_
  refine j_sub (lv' := [(0, (false, x0)), (1, (false, x1)), (2, (false, x2)), (3, (false, x3)), (4, (false, x4)), (5, (true, y0)), (7, (true, (x7 + 1)))]) [2, 3, 4, 5, 6, 1, 0] rfl ?_
  exact hk311 x0 x1 x2 x3 x4 y0 (x7 + 1) M h
set_option maxHeartbeats 4000000 in
set_option maxRecDepth 100000 in
theorem w_L_law_357 {p : Program} {l : Launch} {e : Env} {R : Room} {s : State} {m : MethodId} {args : Array Value} {below : List Frame} {meth : Method} {c : Code} {G : Gt} {ρ0 : Int → Nat} {M0 : Mo} {res : RS} (F : Fx p l R s m args meth c cL_law 8 RL G M0 18 (some FieldType.boolean)) (hno : ∀ x ∈ c.exceptionTable.toList, False) (hnm : meth.name = yL_law.name) (k311 : Int → Int → Int → Int → Int → Int → Int → Mo → Option RS) (hk311 : ∀ (x0 x1 x2 x3 x4 x5 x7 : Int) (M : Mo), k311 x0 x1 x2 x3 x4 x5 x7 M = some res → J p l e R s m args below meth c 8 G ρ0 M0 1 res M 311 [(0, (false, x0)), (1, (false, x1)), (2, (false, x2)), (3, (false, x3)), (4, (false, x4)), (5, (true, x5)), (7, (true, x7))] []) (x0 x1 x2 x3 x4 x7 : Int) (M : Mo) (h : L_law_357 k311 x0 x1 x2 x3 x4 x7 M = some res) : J p l e R s m args below meth c 8 G ρ0 M0 1 res M 357 [(0, (false, x0)), (1, (false, x1)), (2, (false, x2)), (3, (false, x3)), (4, (false, x4)), (7, (true, x7))] [] := by
  unfold L_law_357 at h
  refine j_iconst F dL_law_357 ?_
  refine j_sub (lv' := [(0, (false, x0)), (1, (false, x1)), (2, (false, x2)), (3, (false, x3)), (4, (false, x4)), (7, (true, x7))]) [0, 1, 2, 3, 4, 5] rfl ?_
  exact w_L_law_358 F hno hnm k311 hk311 x0 x1 x2 x3 x4 x7 0 M h
set_option maxHeartbeats 4000000 in
set_option maxRecDepth 100000 in
theorem w_L_law_366 {p : Program} {l : Launch} {e : Env} {R : Room} {s : State} {m : MethodId} {args : Array Value} {below : List Frame} {meth : Method} {c : Code} {G : Gt} {ρ0 : Int → Nat} {M0 : Mo} {res : RS} (F : Fx p l R s m args meth c cL_law 8 RL G M0 18 (some FieldType.boolean)) (hno : ∀ x ∈ c.exceptionTable.toList, False) (hnm : meth.name = yL_law.name) (x1 x2 x3 x4 x5 : Int) (M : Mo) (h : L_law_366 x1 x2 x3 x4 x5 M = some res) : J p l e R s m args below meth c 8 G ρ0 M0 1 res M 366 [(1, (false, x1)), (2, (false, x2)), (3, (false, x3)), (4, (false, x4)), (5, (true, x5))] [] := by
  unfold L_law_366 at h
  refine j_iload F 4 rfl dL_law_366 ?_
  refine j_if_eq F 541 (by decide) dL_law_368 h (fun h => ?_) (fun h => ?_)
  · skip
    refine j_iconst F dL_law_541 ?_
    exact j_zret F (by decide) h dL_law_542
  · skip
    refine j_aload_n F 0 rfl rfl dL_law_371 ?_
    refine j_aload_n F 1 rfl rfl dL_law_372 ?_
    refine j_aload_n F 2 rfl rfl dL_law_373 ?_
    refine j_aload F 3 rfl dL_law_374 ?_
    refine j_callS (d' := 13) (argl := [(false, x1), (false, x2), (false, x3), (false, x4)]) (rk9 := 1) (st := []) F hno M_L_areDelivered q1605 q1604 ⟨by decide, by decide⟩ (Nat.le_of_ble_eq_true rfl) (by decide) dL_law_376 rfl h (fun z hz => c_L_areDelivered l F.ht G x1 x2 x3 x4 M z hz) (fun v1 M2 h kl3 => ?_)
    refine j_st (st' := [(true, v1)]) rfl ?_
    refine j_if_eq F 541 (by decide) dL_law_379 h (fun h => ?_) (fun h => ?_)
    · skip
      refine j_iconst F dL_law_541 ?_
      exact j_zret F (by decide) h dL_law_542
    · skip
      refine j_aload_n F 0 rfl rfl dL_law_382 ?_
      refine j_iconst F dL_law_383 ?_
      refine j_iconst F dL_law_384 ?_
      refine j_iconst F dL_law_385 ?_
      refine j_iconst F dL_law_386 ?_
      refine j_iconst F dL_law_387 ?_
      refine j_iconst F dL_law_388 ?_
      refine j_iconst F dL_law_389 ?_
      refine j_iconst F dL_law_390 ?_
      refine j_callX (d' := 13) (argl := [(false, x1), (true, 3), (true, 2), (true, 0), (true, 0), (true, 0), (true, 0), (true, 0), (true, 0)]) (rk9 := 1) (st := []) F hno M_L_does q611 q610 ⟨by decide, by decide⟩ (Nat.le_of_ble_eq_true rfl) (by decide) dL_law_391 rfl h (fun z hz => c_L_does l F.ht G x1 3 2 0 0 0 0 0 0 M2 z hz) (fun v4 M5 h kl6 => ?_)
      refine j_st (st' := [(true, v4)]) rfl ?_
      refine j_sipush F (by decide) dL_law_394 ?_
      refine j_icmp_ne F 541 (by decide) dL_law_397 h (fun h => ?_) (fun h => ?_)
      · skip
        refine j_iconst F dL_law_541 ?_
        exact j_zret F (by decide) h dL_law_542
      · skip
        refine j_aload_n F 0 rfl rfl dL_law_400 ?_
        refine j_bipush F (by decide) dL_law_401 ?_
        refine j_iconst F dL_law_403 ?_
        refine j_bipush F (by decide) dL_law_404 ?_
        refine j_iconst F dL_law_406 ?_
        refine j_iconst F dL_law_407 ?_
        refine j_iconst F dL_law_408 ?_
        refine j_bipush F (by decide) dL_law_409 ?_
        refine j_iconst F dL_law_411 ?_
        refine j_callX (d' := 13) (argl := [(false, x1), (true, 6), (true, 0), (true, 6), (true, 0), (true, 0), (true, 0), (true, 97), (true, 0)]) (rk9 := 1) (st := []) F hno M_L_does q611 q610 ⟨by decide, by decide⟩ (Nat.le_of_ble_eq_true rfl) (by decide) dL_law_412 rfl h (fun z hz => c_L_does l F.ht G x1 6 0 6 0 0 0 97 0 M5 z hz) (fun v7 M8 h kl9 => ?_)
        refine j_st (st' := [(true, v7)]) rfl ?_
        refine j_sipush F (by decide) dL_law_415 ?_
        refine j_icmp_ne F 541 (by decide) dL_law_418 h (fun h => ?_) (fun h => ?_)
        · skip
          refine j_iconst F dL_law_541 ?_
          exact j_zret F (by decide) h dL_law_542
        · skip
          refine j_aload_n F 0 rfl rfl dL_law_421 ?_
          refine j_bipush F (by decide) dL_law_422 ?_
          refine j_iconst F dL_law_424 ?_
          refine j_bipush F (by decide) dL_law_425 ?_
          refine j_iconst F dL_law_427 ?_
          refine j_iconst F dL_law_428 ?_
          refine j_iconst F dL_law_429 ?_
          refine j_iconst F dL_law_430 ?_
          refine j_iconst F dL_law_431 ?_
          refine j_callX (d' := 13) (argl := [(false, x1), (true, 8), (true, 0), (true, 40), (true, 0), (true, 0), (true, 0), (true, 0), (true, 0)]) (rk9 := 1) (st := []) F hno M_L_does q611 q610 ⟨by decide, by decide⟩ (Nat.le_of_ble_eq_true rfl) (by decide) dL_law_432 rfl h (fun z hz => c_L_does l F.ht G x1 8 0 40 0 0 0 0 0 M8 z hz) (fun v10 M11 h kl12 => ?_)
          refine j_st (st' := [(true, v10)]) rfl ?_
          refine j_sipush F (by decide) dL_law_435 ?_
          refine j_icmp_ne F 541 (by decide) dL_law_438 h (fun h => ?_) (fun h => ?_)
          · skip
            refine j_iconst F dL_law_541 ?_
            exact j_zret F (by decide) h dL_law_542
          · skip
            refine j_aload_n F 0 rfl rfl dL_law_441 ?_
            refine j_bipush F (by decide) dL_law_442 ?_
            refine j_iconst F dL_law_444 ?_
            refine j_iconst F dL_law_445 ?_
            refine j_iconst F dL_law_446 ?_
            refine j_iconst F dL_law_447 ?_
            refine j_iconst F dL_law_448 ?_
            refine j_iconst F dL_law_449 ?_
            refine j_iconst F dL_law_450 ?_
            refine j_callX (d' := 13) (argl := [(false, x1), (true, 9), (true, 3), (true, 0), (true, 0), (true, 0), (true, 0), (true, 0), (true, 0)]) (rk9 := 1) (st := []) F hno M_L_does q611 q610 ⟨by decide, by decide⟩ (Nat.le_of_ble_eq_true rfl) (by decide) dL_law_451 rfl h (fun z hz => c_L_does l F.ht G x1 9 3 0 0 0 0 0 0 M11 z hz) (fun v13 M14 h kl15 => ?_)
            refine j_st (st' := [(true, v13)]) rfl ?_
            refine j_sipush F (by decide) dL_law_454 ?_
            refine j_icmp_ne F 541 (by decide) dL_law_457 h (fun h => ?_) (fun h => ?_)
            · skip
              refine j_iconst F dL_law_541 ?_
              exact j_zret F (by decide) h dL_law_542
            · skip
              refine j_aload_n F 0 rfl rfl dL_law_460 ?_
              refine j_bipush F (by decide) dL_law_461 ?_
              refine j_iconst F dL_law_463 ?_
              refine j_iconst F dL_law_464 ?_
              refine j_iconst F dL_law_465 ?_
              refine j_iconst F dL_law_466 ?_
              refine j_iconst F dL_law_467 ?_
              refine j_iconst F dL_law_468 ?_
              refine j_iconst F dL_law_469 ?_
              refine j_callX (d' := 13) (argl := [(false, x1), (true, 10), (true, 3), (true, 0), (true, 0), (true, 0), (true, 0), (true, 0), (true, 0)]) (rk9 := 1) (st := []) F hno M_L_does q611 q610 ⟨by decide, by decide⟩ (Nat.le_of_ble_eq_true rfl) (by decide) dL_law_470 rfl h (fun z hz => c_L_does l F.ht G x1 10 3 0 0 0 0 0 0 M14 z hz) (fun v16 M17 h kl18 => ?_)
              refine j_st (st' := [(true, v16)]) rfl ?_
              refine j_sipush F (by decide) dL_law_473 ?_
              refine j_icmp_ne F 541 (by decide) dL_law_476 h (fun h => ?_) (fun h => ?_)
              · skip
                refine j_iconst F dL_law_541 ?_
                exact j_zret F (by decide) h dL_law_542
              · skip
                refine j_aload_n F 0 rfl rfl dL_law_479 ?_
                refine j_bipush F (by decide) dL_law_480 ?_
                refine j_iconst F dL_law_482 ?_
                refine j_iconst F dL_law_483 ?_
                refine j_iconst F dL_law_484 ?_
                refine j_iconst F dL_law_485 ?_
                refine j_iconst F dL_law_486 ?_
                refine j_iconst F dL_law_487 ?_
                refine j_iconst F dL_law_488 ?_
                refine j_callX (d' := 13) (argl := [(false, x1), (true, 11), (true, (-1)), (true, 0), (true, 0), (true, 0), (true, 0), (true, 0), (true, 0)]) (rk9 := 1) (st := []) F hno M_L_does q611 q610 ⟨by decide, by decide⟩ (Nat.le_of_ble_eq_true rfl) (by decide) dL_law_489 rfl h (fun z hz => c_L_does l F.ht G x1 11 (-1) 0 0 0 0 0 0 M17 z hz) (fun v19 M20 h kl21 => ?_)
                refine j_st (st' := [(true, v19)]) rfl ?_
                refine j_sipush F (by decide) dL_law_492 ?_
                refine j_icmp_ne F 541 (by decide) dL_law_495 h (fun h => ?_) (fun h => ?_)
                · skip
                  refine j_iconst F dL_law_541 ?_
                  exact j_zret F (by decide) h dL_law_542
                · skip
                  refine j_aload_n F 0 rfl rfl dL_law_498 ?_
                  refine j_bipush F (by decide) dL_law_499 ?_
                  refine j_iconst F dL_law_501 ?_
                  refine j_iconst F dL_law_502 ?_
                  refine j_iconst F dL_law_503 ?_
                  refine j_iconst F dL_law_504 ?_
                  refine j_iconst F dL_law_505 ?_
                  refine j_iconst F dL_law_506 ?_
                  refine j_iconst F dL_law_507 ?_
                  refine j_callX (d' := 13) (argl := [(false, x1), (true, 12), (true, 3), (true, 0), (true, 0), (true, 0), (true, 0), (true, 0), (true, 0)]) (rk9 := 1) (st := []) F hno M_L_does q611 q610 ⟨by decide, by decide⟩ (Nat.le_of_ble_eq_true rfl) (by decide) dL_law_508 rfl h (fun z hz => c_L_does l F.ht G x1 12 3 0 0 0 0 0 0 M20 z hz) (fun v22 M23 h kl24 => ?_)
                  refine j_st (st' := [(true, v22)]) rfl ?_
                  refine j_sipush F (by decide) dL_law_511 ?_
                  refine j_icmp_ne F 541 (by decide) dL_law_514 h (fun h => ?_) (fun h => ?_)
                  · skip
                    refine j_iconst F dL_law_541 ?_
                    exact j_zret F (by decide) h dL_law_542
                  · skip
                    refine j_aload_n F 0 rfl rfl dL_law_517 ?_
                    refine j_bipush F (by decide) dL_law_518 ?_
                    refine j_bipush F (by decide) dL_law_520 ?_
                    refine j_iconst F dL_law_522 ?_
                    refine j_iconst F dL_law_523 ?_
                    refine j_iconst F dL_law_524 ?_
                    refine j_iconst F dL_law_525 ?_
                    refine j_iconst F dL_law_526 ?_
                    refine j_iconst F dL_law_527 ?_
                    refine j_callX (d' := 13) (argl := [(false, x1), (true, 13), (true, 10), (true, 0), (true, 0), (true, 0), (true, 0), (true, 0), (true, 0)]) (rk9 := 1) (st := []) F hno M_L_does q611 q610 ⟨by decide, by decide⟩ (Nat.le_of_ble_eq_true rfl) (by decide) dL_law_528 rfl h (fun z hz => c_L_does l F.ht G x1 13 10 0 0 0 0 0 0 M23 z hz) (fun v25 M26 h kl27 => ?_)
                    refine j_st (st' := [(true, v25)]) rfl ?_
                    refine j_sipush F (by decide) dL_law_531 ?_
                    refine j_icmp_ne F 541 (by decide) dL_law_534 h (fun h => ?_) (fun h => ?_)
                    · skip
                      refine j_iconst F dL_law_541 ?_
                      exact j_zret F (by decide) h dL_law_542
                    · skip
                      refine j_iconst F dL_law_537 ?_
                      refine j_goto F 542 (by decide) dL_law_538 ?_
                      exact j_zret F (by decide) h dL_law_542
set_option maxHeartbeats 4000000 in
set_option maxRecDepth 100000 in
theorem w_L_law_311 {p : Program} {l : Launch} {e : Env} {R : Room} {s : State} {m : MethodId} {args : Array Value} {below : List Frame} {meth : Method} {c : Code} {G : Gt} {ρ0 : Int → Nat} {M0 : Mo} {res : RS} (F : Fx p l R s m args meth c cL_law 8 RL G M0 18 (some FieldType.boolean)) (hno : ∀ x ∈ c.exceptionTable.toList, False) (hnm : meth.name = yL_law.name) (n : Nat) : ∀ (x0 x1 x2 x3 x4 x5 x7 : Int) (M : Mo), L_law_311 n x0 x1 x2 x3 x4 x5 x7 M = some res → J p l e R s m args below meth c 8 G ρ0 M0 1 res M 311 [(0, (false, x0)), (1, (false, x1)), (2, (false, x2)), (3, (false, x3)), (4, (false, x4)), (5, (true, x5)), (7, (true, x7))] [] := by
  induction n with
  | zero => intro x0 x1 x2 x3 x4 x5 x7 M h; cases h
  | succ n ih =>
    intro x0 x1 x2 x3 x4 x5 x7 M h
    rw [L_law_311] at h
    refine j_iload F 6 rfl dL_law_311 ?_
    refine j_bipush F (by decide) dL_law_313 ?_
    refine j_icmp_ge F 366 (by decide) dL_law_315 h (fun h => ?_) (fun h => ?_)
    · skip
      refine j_sub (lv' := [(1, (false, x1)), (2, (false, x2)), (3, (false, x3)), (4, (false, x4)), (5, (true, x5))]) [1, 2, 3, 4, 5] rfl ?_
      exact w_L_law_366 F hno hnm x1 x2 x3 x4 x5 M h
    · skip
      refine j_iload F 5 rfl dL_law_318 ?_
      refine j_if_eq F 366 (by decide) dL_law_320 h (fun h => ?_) (fun h => ?_)
      · skip
        refine j_sub (lv' := [(1, (false, x1)), (2, (false, x2)), (3, (false, x3)), (4, (false, x4)), (5, (true, x5))]) [1, 2, 3, 4, 5] rfl ?_
        exact w_L_law_366 F hno hnm x1 x2 x3 x4 x5 M h
      · skip
        refine j_aload_n F 1 rfl rfl dL_law_323 ?_
        refine j_aload_n F 0 rfl rfl dL_law_324 ?_
        refine j_iconst F dL_law_325 ?_
        refine j_iload F 6 rfl dL_law_326 ?_
        refine j_imul F dL_law_328 ?_
        refine j_bipush F (by decide) dL_law_329 ?_
        refine j_iadd F dL_law_331 ?_
        refine j_aload_n F 2 rfl rfl dL_law_332 ?_
        refine j_aload_n F 3 rfl rfl dL_law_333 ?_
        refine j_aload F 4 rfl dL_law_334 ?_
        refine j_callS (d' := 15) (argl := [(false, x1), (false, x0), (true, ((4 * x7) + 10)), (false, x2), (false, x3), (false, x4)]) (rk9 := 1) (st := []) F hno M_L_isDone q1617 q1616 ⟨by decide, by decide⟩ (Nat.le_of_ble_eq_true rfl) (by decide) dL_law_336 rfl h (fun z hz => c_L_isDone l F.ht G x1 x0 ((4 * x7) + 10) x2 x3 x4 M z hz) (fun v1 M2 h kl3 => ?_)
        refine j_st (st' := [(true, v1)]) rfl ?_
        refine j_if_eq F 357 (by decide) dL_law_339 h (fun h => ?_) (fun h => ?_)
        · skip
          refine j_sub (lv' := [(0, (false, x0)), (1, (false, x1)), (2, (false, x2)), (3, (false, x3)), (4, (false, x4)), (7, (true, x7))]) [0, 1, 2, 3, 4, 6] rfl ?_
          exact w_L_law_357 F hno hnm (L_law_311 n) ih x0 x1 x2 x3 x4 x7 M2 h
        · skip
          refine j_aload_n F 1 rfl rfl dL_law_342 ?_
          refine j_aload_n F 2 rfl rfl dL_law_343 ?_
          refine j_aload_n F 3 rfl rfl dL_law_344 ?_
          refine j_aload F 4 rfl dL_law_345 ?_
          refine j_callS (d' := 11) (argl := [(false, x1), (false, x2), (false, x3), (false, x4)]) (rk9 := 1) (st := []) F hno M_L_areFiles q1509 q1508 ⟨by decide, by decide⟩ (Nat.le_of_ble_eq_true rfl) (by decide) dL_law_347 rfl h (fun z hz => c_L_areFiles l F.ht G x1 x2 x3 x4 M2 z hz) (fun v4 M5 h kl6 => ?_)
          refine j_st (st' := [(true, v4)]) rfl ?_
          refine j_if_eq F 357 (by decide) dL_law_350 h (fun h => ?_) (fun h => ?_)
          · skip
            refine j_sub (lv' := [(0, (false, x0)), (1, (false, x1)), (2, (false, x2)), (3, (false, x3)), (4, (false, x4)), (7, (true, x7))]) [0, 1, 2, 3, 4, 6] rfl ?_
            exact w_L_law_357 F hno hnm (L_law_311 n) ih x0 x1 x2 x3 x4 x7 M5 h
          · skip
            refine j_iconst F dL_law_353 ?_
            refine j_goto F 358 (by decide) dL_law_354 ?_
            refine j_sub (lv' := [(0, (false, x0)), (1, (false, x1)), (2, (false, x2)), (3, (false, x3)), (4, (false, x4)), (7, (true, x7))]) [0, 1, 2, 3, 4, 6] rfl ?_
            exact w_L_law_358 F hno hnm (L_law_311 n) ih x0 x1 x2 x3 x4 x7 1 M5 h
set_option maxHeartbeats 4000000 in
set_option maxRecDepth 100000 in
theorem w_L_law_306 {p : Program} {l : Launch} {e : Env} {R : Room} {s : State} {m : MethodId} {args : Array Value} {below : List Frame} {meth : Method} {c : Code} {G : Gt} {ρ0 : Int → Nat} {M0 : Mo} {res : RS} (F : Fx p l R s m args meth c cL_law 8 RL G M0 18 (some FieldType.boolean)) (hno : ∀ x ∈ c.exceptionTable.toList, False) (hnm : meth.name = yL_law.name) (x0 x1 x2 x3 x4 y0 : Int) (M : Mo) (h : L_law_306 x0 x1 x2 x3 x4 y0 M = some res) : J p l e R s m args below meth c 8 G ρ0 M0 1 res M 306 [(0, (false, x0)), (1, (false, x1)), (2, (false, x2)), (3, (false, x3)), (4, (false, x4))] [(true, y0)] := by
  unfold L_law_306 at h
  refine j_istore F (lv' := [(5, (true, y0)), (0, (false, x0)), (1, (false, x1)), (2, (false, x2)), (3, (false, x3)), (4, (false, x4))]) (by decide) rfl dL_law_306 ?_
  refine j_iconst F dL_law_308 ?_
  refine j_istore F (lv' := [(7, (true, 0)), (5, (true, y0)), (0, (false, x0)), (1, (false, x1)), (2, (false, x2)), (3, (false, x3)), (4, (false, x4))]) (by decide) rfl dL_law_309 ?_
  refine j_sub (lv' := [(0, (false, x0)), (1, (false, x1)), (2, (false, x2)), (3, (false, x3)), (4, (false, x4)), (5, (true, y0)), (7, (true, 0))]) [2, 3, 4, 5, 6, 1, 0] rfl ?_
  exact w_L_law_311 F hno hnm FU x0 x1 x2 x3 x4 y0 0 M h
set_option maxHeartbeats 4000000 in
set_option maxRecDepth 100000 in
theorem w_L_law_305 {p : Program} {l : Launch} {e : Env} {R : Room} {s : State} {m : MethodId} {args : Array Value} {below : List Frame} {meth : Method} {c : Code} {G : Gt} {ρ0 : Int → Nat} {M0 : Mo} {res : RS} (F : Fx p l R s m args meth c cL_law 8 RL G M0 18 (some FieldType.boolean)) (hno : ∀ x ∈ c.exceptionTable.toList, False) (hnm : meth.name = yL_law.name) (x0 x1 x2 x3 x4 : Int) (M : Mo) (h : L_law_305 x0 x1 x2 x3 x4 M = some res) : J p l e R s m args below meth c 8 G ρ0 M0 1 res M 305 [(0, (false, x0)), (1, (false, x1)), (2, (false, x2)), (3, (false, x3)), (4, (false, x4))] [] := by
  unfold L_law_305 at h
  refine j_iconst F dL_law_305 ?_
  refine j_sub (lv' := [(0, (false, x0)), (1, (false, x1)), (2, (false, x2)), (3, (false, x3)), (4, (false, x4))]) [0, 1, 2, 3, 4] rfl ?_
  exact w_L_law_306 F hno hnm x0 x1 x2 x3 x4 0 M h
set_option maxHeartbeats 4000000 in
set_option maxRecDepth 100000 in
theorem w_L_law_282 {p : Program} {l : Launch} {e : Env} {R : Room} {s : State} {m : MethodId} {args : Array Value} {below : List Frame} {meth : Method} {c : Code} {G : Gt} {ρ0 : Int → Nat} {M0 : Mo} {res : RS} (F : Fx p l R s m args meth c cL_law 8 RL G M0 18 (some FieldType.boolean)) (hno : ∀ x ∈ c.exceptionTable.toList, False) (hnm : meth.name = yL_law.name) (x0 x1 x2 x3 x4 : Int) (M : Mo) (h : L_law_282 x0 x1 x2 x3 x4 M = some res) : J p l e R s m args below meth c 8 G ρ0 M0 1 res M 282 [(0, (false, x0)), (1, (false, x1)), (2, (false, x2)), (3, (false, x3)), (4, (false, x4))] [] := by
  unfold L_law_282 at h
  refine j_aload_n F 1 rfl rfl dL_law_282 ?_
  refine j_iconst F dL_law_283 ?_
  refine j_bipush F (by decide) dL_law_284 ?_
  refine j_iconst F dL_law_286 ?_
  refine j_iconst F dL_law_287 ?_
  refine j_iconst F dL_law_288 ?_
  refine j_iconst F dL_law_289 ?_
  refine j_iconst F dL_law_290 ?_
  refine j_iconst F dL_law_291 ?_
  refine j_callX (d' := 13) (argl := [(false, x1), (true, 2), (true, 64), (true, 1), (true, 0), (true, 0), (true, 0), (true, 0), (true, 0)]) (rk9 := 1) (st := []) F hno M_L_does q611 q610 ⟨by decide, by decide⟩ (Nat.le_of_ble_eq_true rfl) (by decide) dL_law_292 rfl h (fun z hz => c_L_does l F.ht G x1 2 64 1 0 0 0 0 0 M z hz) (fun v1 M2 h kl3 => ?_)
  refine j_st (st' := [(true, v1)]) rfl ?_
  refine j_sipush F (by decide) dL_law_295 ?_
  refine j_icmp_ne F 305 (by decide) dL_law_298 h (fun h => ?_) (fun h => ?_)
  · skip
    refine j_sub (lv' := [(0, (false, x0)), (1, (false, x1)), (2, (false, x2)), (3, (false, x3)), (4, (false, x4))]) [0, 1, 2, 3, 4] rfl ?_
    exact w_L_law_305 F hno hnm x0 x1 x2 x3 x4 M2 h
  · skip
    refine j_iconst F dL_law_301 ?_
    refine j_goto F 306 (by decide) dL_law_302 ?_
    refine j_sub (lv' := [(0, (false, x0)), (1, (false, x1)), (2, (false, x2)), (3, (false, x3)), (4, (false, x4))]) [0, 1, 2, 3, 4] rfl ?_
    exact w_L_law_306 F hno hnm x0 x1 x2 x3 x4 1 M2 h
set_option maxHeartbeats 4000000 in
set_option maxRecDepth 100000 in
theorem w_L_law_242 {p : Program} {l : Launch} {e : Env} {R : Room} {s : State} {m : MethodId} {args : Array Value} {below : List Frame} {meth : Method} {c : Code} {G : Gt} {ρ0 : Int → Nat} {M0 : Mo} {res : RS} (F : Fx p l R s m args meth c cL_law 8 RL G M0 18 (some FieldType.boolean)) (hno : ∀ x ∈ c.exceptionTable.toList, False) (hnm : meth.name = yL_law.name) (x0 x1 x2 x3 x4 x5 x6 : Int) (M : Mo) (h : L_law_242 x0 x1 x2 x3 x4 x5 x6 M = some res) : J p l e R s m args below meth c 8 G ρ0 M0 1 res M 242 [(0, (false, x0)), (1, (false, x1)), (2, (false, x2)), (3, (false, x3)), (4, (false, x4)), (5, (true, x5)), (6, (true, x6))] [] := by
  unfold L_law_242 at h
  refine j_iload F 5 rfl dL_law_242 ?_
  refine j_if_eq F 305 (by decide) dL_law_244 h (fun h => ?_) (fun h => ?_)
  · skip
    refine j_sub (lv' := [(0, (false, x0)), (1, (false, x1)), (2, (false, x2)), (3, (false, x3)), (4, (false, x4))]) [0, 1, 2, 3, 4] rfl ?_
    exact w_L_law_305 F hno hnm x0 x1 x2 x3 x4 M h
  · skip
    refine j_aload_n F 1 rfl rfl dL_law_247 ?_
    refine j_aload_n F 2 rfl rfl dL_law_248 ?_
    refine j_aload_n F 3 rfl rfl dL_law_249 ?_
    refine j_aload F 4 rfl dL_law_250 ?_
    refine j_callS (d' := 11) (argl := [(false, x1), (false, x2), (false, x3), (false, x4)]) (rk9 := 1) (st := []) F hno M_L_areFiles q1509 q1508 ⟨by decide, by decide⟩ (Nat.le_of_ble_eq_true rfl) (by decide) dL_law_252 rfl h (fun z hz => c_L_areFiles l F.ht G x1 x2 x3 x4 M z hz) (fun v1 M2 h kl3 => ?_)
    refine j_st (st' := [(true, v1)]) rfl ?_
    refine j_if_eq F 305 (by decide) dL_law_255 h (fun h => ?_) (fun h => ?_)
    · skip
      refine j_sub (lv' := [(0, (false, x0)), (1, (false, x1)), (2, (false, x2)), (3, (false, x3)), (4, (false, x4))]) [0, 1, 2, 3, 4] rfl ?_
      exact w_L_law_305 F hno hnm x0 x1 x2 x3 x4 M2 h
    · skip
      refine j_iload F 6 rfl dL_law_258 ?_
      refine j_iconst F dL_law_260 ?_
      refine j_icmp_lt F 282 (by decide) dL_law_261 h (fun h => ?_) (fun h => ?_)
      · skip
        refine j_sub (lv' := [(0, (false, x0)), (1, (false, x1)), (2, (false, x2)), (3, (false, x3)), (4, (false, x4))]) [0, 1, 2, 3, 4] rfl ?_
        exact w_L_law_282 F hno hnm x0 x1 x2 x3 x4 M2 h
      · skip
        refine j_aload_n F 1 rfl rfl dL_law_264 ?_
        refine j_iconst F dL_law_265 ?_
        refine j_iconst F dL_law_266 ?_
        refine j_iconst F dL_law_267 ?_
        refine j_iconst F dL_law_268 ?_
        refine j_iconst F dL_law_269 ?_
        refine j_iconst F dL_law_270 ?_
        refine j_iconst F dL_law_271 ?_
        refine j_iconst F dL_law_272 ?_
        refine j_callX (d' := 13) (argl := [(false, x1), (true, 2), (true, 1), (true, 1), (true, 0), (true, 0), (true, 0), (true, 0), (true, 0)]) (rk9 := 1) (st := []) F hno M_L_does q611 q610 ⟨by decide, by decide⟩ (Nat.le_of_ble_eq_true rfl) (by decide) dL_law_273 rfl h (fun z hz => c_L_does l F.ht G x1 2 1 1 0 0 0 0 0 M2 z hz) (fun v4 M5 h kl6 => ?_)
        refine j_st (st' := [(true, v4)]) rfl ?_
        refine j_sipush F (by decide) dL_law_276 ?_
        refine j_icmp_ne F 305 (by decide) dL_law_279 h (fun h => ?_) (fun h => ?_)
        · skip
          refine j_sub (lv' := [(0, (false, x0)), (1, (false, x1)), (2, (false, x2)), (3, (false, x3)), (4, (false, x4))]) [0, 1, 2, 3, 4] rfl ?_
          exact w_L_law_305 F hno hnm x0 x1 x2 x3 x4 M5 h
        · skip
          refine j_sub (lv' := [(0, (false, x0)), (1, (false, x1)), (2, (false, x2)), (3, (false, x3)), (4, (false, x4))]) [0, 1, 2, 3, 4] rfl ?_
          exact w_L_law_282 F hno hnm x0 x1 x2 x3 x4 M5 h
set_option maxHeartbeats 4000000 in
set_option maxRecDepth 100000 in
theorem w_L_law_131 {p : Program} {l : Launch} {e : Env} {R : Room} {s : State} {m : MethodId} {args : Array Value} {below : List Frame} {meth : Method} {c : Code} {G : Gt} {ρ0 : Int → Nat} {M0 : Mo} {res : RS} (F : Fx p l R s m args meth c cL_law 8 RL G M0 18 (some FieldType.boolean)) (hno : ∀ x ∈ c.exceptionTable.toList, False) (hnm : meth.name = yL_law.name) (n : Nat) : ∀ (x0 x1 x2 x3 x4 x5 x6 x7 : Int) (M : Mo), L_law_131 n x0 x1 x2 x3 x4 x5 x6 x7 M = some res → J p l e R s m args below meth c 8 G ρ0 M0 1 res M 131 [(0, (false, x0)), (1, (false, x1)), (2, (false, x2)), (3, (false, x3)), (4, (false, x4)), (5, (true, x5)), (6, (true, x6)), (7, (true, x7))] [] := by
  induction n with
  | zero => intro x0 x1 x2 x3 x4 x5 x6 x7 M h; cases h
  | succ n ih =>
    intro x0 x1 x2 x3 x4 x5 x6 x7 M h
    rw [L_law_131] at h
    refine j_iload F 7 rfl dL_law_131 ?_
    refine j_iload F 6 rfl dL_law_133 ?_
    refine j_icmp_ge F 242 (by decide) dL_law_135 h (fun h => ?_) (fun h => ?_)
    · skip
      refine j_sub (lv' := [(0, (false, x0)), (1, (false, x1)), (2, (false, x2)), (3, (false, x3)), (4, (false, x4)), (5, (true, x5)), (6, (true, x6))]) [0, 1, 2, 3, 4, 5, 6] rfl ?_
      exact w_L_law_242 F hno hnm x0 x1 x2 x3 x4 x5 x6 M h
    · skip
      refine j_iload F 5 rfl dL_law_138 ?_
      refine j_if_eq F 242 (by decide) dL_law_140 h (fun h => ?_) (fun h => ?_)
      · skip
        refine j_sub (lv' := [(0, (false, x0)), (1, (false, x1)), (2, (false, x2)), (3, (false, x3)), (4, (false, x4)), (5, (true, x5)), (6, (true, x6))]) [0, 1, 2, 3, 4, 5, 6] rfl ?_
        exact w_L_law_242 F hno hnm x0 x1 x2 x3 x4 x5 x6 M h
      · skip
        refine j_aload F 4 rfl dL_law_143 ?_
        refine j_bipush F (by decide) dL_law_145 ?_
        refine j_iload F 7 rfl dL_law_147 ?_
        refine j_iadd F dL_law_149 ?_
        refine j_aload_n F 0 rfl rfl dL_law_150 ?_
        refine j_iconst F dL_law_151 ?_
        refine j_iload F 7 rfl dL_law_152 ?_
        refine j_imul F dL_law_154 ?_
        refine j_iconst F dL_law_155 ?_
        refine j_iadd F dL_law_156 ?_
        refine j_iconst F dL_law_157 ?_
        refine j_callS (d' := 0) (argl := [(false, x0), (true, ((3 * x7) + 1)), (true, 3)]) (rk9 := 1) (st := [(true, (9 + x7)), (false, x4)]) F hno M_L_part q607 q606 ⟨by decide, by decide⟩ (Nat.le_of_ble_eq_true rfl) (by decide) dL_law_158 rfl h (fun z hz => c_L_part l F.ht G x0 ((3 * x7) + 1) 3 M z hz) (fun v1 M2 h kl3 => ?_)
        refine j_st (st' := [(true, v1), (true, (9 + x7)), (false, x4)]) rfl ?_
        obtain ⟨g4, h⟩ := gua h
        obtain ⟨g5, h⟩ := gua h
        refine j_iastore F g4 g5 dL_law_161 ?_
        obtain ⟨M6, hM6⟩ : ∃ Z, Z = sE M2 0 x4 (wr (9 + x7)) v1 := ⟨_, rfl⟩
        have kl7 : kle M2 M6 := by rw [hM6]; exact kle_sE
        rw [← hM6]
        replace h := pt_as h hM6
        refine j_aload F 4 rfl dL_law_162 ?_
        refine j_bipush F (by decide) dL_law_164 ?_
        refine j_iload F 7 rfl dL_law_166 ?_
        refine j_iadd F dL_law_168 ?_
        refine j_iconst F dL_law_169 ?_
        refine j_aload_n F 0 rfl rfl dL_law_170 ?_
        refine j_iconst F dL_law_171 ?_
        refine j_iload F 7 rfl dL_law_172 ?_
        refine j_imul F dL_law_174 ?_
        refine j_iconst F dL_law_175 ?_
        refine j_iadd F dL_law_176 ?_
        refine j_bipush F (by decide) dL_law_177 ?_
        refine j_callS (d' := 0) (argl := [(false, x0), (true, ((3 * x7) + 2)), (true, 63)]) (rk9 := 1) (st := [(true, 1), (true, (12 + x7)), (false, x4)]) F hno M_L_part q607 q606 ⟨by decide, by decide⟩ (Nat.le_of_ble_eq_true rfl) (by decide) dL_law_179 rfl h (fun z hz => c_L_part l F.ht G x0 ((3 * x7) + 2) 63 M6 z hz) (fun v8 M9 h kl10 => ?_)
        refine j_st (st' := [(true, v8), (true, 1), (true, (12 + x7)), (false, x4)]) rfl ?_
        refine j_iadd F dL_law_182 ?_
        obtain ⟨g11, h⟩ := gua h
        refine j_iastore F (kl10.is (kl7.is g4)) g11 dL_law_183 ?_
        obtain ⟨M12, hM12⟩ : ∃ Z, Z = sE M9 0 x4 (wr (12 + x7)) (1 + v8) := ⟨_, rfl⟩
        have kl13 : kle M9 M12 := by rw [hM12]; exact kle_sE
        rw [← hM12]
        replace h := pt_as h hM12
        refine j_aload F 4 rfl dL_law_184 ?_
        refine j_bipush F (by decide) dL_law_186 ?_
        refine j_iload F 7 rfl dL_law_188 ?_
        refine j_iadd F dL_law_190 ?_
        refine j_iconst F dL_law_191 ?_
        obtain ⟨g14, h⟩ := gua h
        refine j_iastore F (kl13.is (kl10.is (kl7.is g4))) g14 dL_law_192 ?_
        obtain ⟨M15, hM15⟩ : ∃ Z, Z = sE M12 0 x4 (wr (15 + x7)) 1 := ⟨_, rfl⟩
        have kl16 : kle M12 M15 := by rw [hM15]; exact kle_sE
        rw [← hM15]
        replace h := pt_as h hM15
        refine j_aload_n F 1 rfl rfl dL_law_193 ?_
        refine j_aload F 4 rfl dL_law_194 ?_
        refine j_bipush F (by decide) dL_law_196 ?_
        refine j_iload F 7 rfl dL_law_198 ?_
        refine j_iadd F dL_law_200 ?_
        obtain ⟨g17, h⟩ := gua h
        refine j_iaload F (kl16.is (kl13.is (kl10.is (kl7.is g4)))) g17 dL_law_201 ?_
        refine j_bipush F (by decide) dL_law_202 ?_
        refine j_aload F 4 rfl dL_law_204 ?_
        refine j_bipush F (by decide) dL_law_206 ?_
        refine j_iload F 7 rfl dL_law_208 ?_
        refine j_iadd F dL_law_210 ?_
        obtain ⟨g18, h⟩ := gua h
        refine j_iaload F (kl16.is (kl13.is (kl10.is (kl7.is g4)))) g18 dL_law_211 ?_
        obtain ⟨g22, h⟩ := gua h
        refine j_callV (d' := 7) (argl := [(true, (el M15 0 x4 (wr (12 + x7)))), (true, 7), (true, (el M15 0 x4 (wr (9 + x7))))]) (rk9 := 1) (st := []) F hno M_X11_server q443 q444 q442 ⟨by decide, by decide⟩ (Nat.le_of_ble_eq_true rfl) (by decide) (ci := 12) rfl (by decide) g22 dL_law_212 rfl h (fun z hz => c_X11_server l F.ht G x1 (el M15 0 x4 (wr (12 + x7))) 7 (el M15 0 x4 (wr (9 + x7))) M15 z hz) (fun v19 M20 h kl21 => ?_)
        refine j_st (st' := [(true, v19)]) rfl ?_
        refine j_iload F 7 rfl dL_law_215 ?_
        refine j_icmp_ne F 224 (by decide) dL_law_217 h (fun h => ?_) (fun h => ?_)
        · skip
          refine j_iconst F dL_law_224 ?_
          refine j_sub (lv' := [(0, (false, x0)), (1, (false, x1)), (2, (false, x2)), (3, (false, x3)), (4, (false, x4)), (6, (true, x6)), (7, (true, x7))]) [0, 1, 2, 3, 4, 6, 7] rfl ?_
          exact w_L_law_225 F hno hnm (L_law_131 n) ih x0 x1 x2 x3 x4 x6 x7 0 M20 h
        · skip
          refine j_iconst F dL_law_220 ?_
          refine j_goto F 225 (by decide) dL_law_221 ?_
          refine j_sub (lv' := [(0, (false, x0)), (1, (false, x1)), (2, (false, x2)), (3, (false, x3)), (4, (false, x4)), (6, (true, x6)), (7, (true, x7))]) [0, 1, 2, 3, 4, 6, 7] rfl ?_
          exact w_L_law_225 F hno hnm (L_law_131 n) ih x0 x1 x2 x3 x4 x6 x7 1 M20 h
set_option maxHeartbeats 4000000 in
set_option maxRecDepth 100000 in
theorem w_L_law_118 {p : Program} {l : Launch} {e : Env} {R : Room} {s : State} {m : MethodId} {args : Array Value} {below : List Frame} {meth : Method} {c : Code} {G : Gt} {ρ0 : Int → Nat} {M0 : Mo} {res : RS} (F : Fx p l R s m args meth c cL_law 8 RL G M0 18 (some FieldType.boolean)) (hno : ∀ x ∈ c.exceptionTable.toList, False) (hnm : meth.name = yL_law.name) (x0 x1 x2 x3 x4 y0 : Int) (M : Mo) (h : L_law_118 x0 x1 x2 x3 x4 y0 M = some res) : J p l e R s m args below meth c 8 G ρ0 M0 1 res M 118 [(0, (false, x0)), (1, (false, x1)), (2, (false, x2)), (3, (false, x3)), (4, (false, x4))] [(true, y0)] := by
  unfold L_law_118 at h
  refine j_istore F (lv' := [(5, (true, y0)), (0, (false, x0)), (1, (false, x1)), (2, (false, x2)), (3, (false, x3)), (4, (false, x4))]) (by decide) rfl dL_law_118 ?_
  refine j_aload_n F 1 rfl rfl dL_law_120 ?_
  refine j_iconst F dL_law_121 ?_
  refine j_iconst F dL_law_122 ?_
  refine j_callS (d' := 0) (argl := [(false, x0), (true, 0), (true, 4)]) (rk9 := 1) (st := []) F hno M_L_part q607 q606 ⟨by decide, by decide⟩ (Nat.le_of_ble_eq_true rfl) (by decide) dL_law_123 rfl h (fun z hz => c_L_part l F.ht G x0 0 4 M z hz) (fun v1 M2 h kl3 => ?_)
  refine j_st (st' := [(true, v1)]) rfl ?_
  refine j_istore F (lv' := [(6, (true, v1)), (5, (true, y0)), (0, (false, x0)), (1, (false, x1)), (2, (false, x2)), (3, (false, x3)), (4, (false, x4))]) (by decide) rfl dL_law_126 ?_
  refine j_iconst F dL_law_128 ?_
  refine j_istore F (lv' := [(7, (true, 0)), (6, (true, v1)), (5, (true, y0)), (0, (false, x0)), (1, (false, x1)), (2, (false, x2)), (3, (false, x3)), (4, (false, x4))]) (by decide) rfl dL_law_129 ?_
  refine j_sub (lv' := [(0, (false, x0)), (1, (false, x1)), (2, (false, x2)), (3, (false, x3)), (4, (false, x4)), (5, (true, y0)), (6, (true, v1)), (7, (true, 0))]) [3, 4, 5, 6, 7, 2, 1, 0] rfl ?_
  exact w_L_law_131 F hno hnm FU x0 x1 x2 x3 x4 y0 v1 0 M2 h
set_option maxHeartbeats 4000000 in
set_option maxRecDepth 100000 in
theorem w_L_law_117 {p : Program} {l : Launch} {e : Env} {R : Room} {s : State} {m : MethodId} {args : Array Value} {below : List Frame} {meth : Method} {c : Code} {G : Gt} {ρ0 : Int → Nat} {M0 : Mo} {res : RS} (F : Fx p l R s m args meth c cL_law 8 RL G M0 18 (some FieldType.boolean)) (hno : ∀ x ∈ c.exceptionTable.toList, False) (hnm : meth.name = yL_law.name) (x0 x1 x2 x3 x4 : Int) (M : Mo) (h : L_law_117 x0 x1 x2 x3 x4 M = some res) : J p l e R s m args below meth c 8 G ρ0 M0 1 res M 117 [(0, (false, x0)), (1, (false, x1)), (2, (false, x2)), (3, (false, x3)), (4, (false, x4))] [] := by
  unfold L_law_117 at h
  refine j_iconst F dL_law_117 ?_
  refine j_sub (lv' := [(0, (false, x0)), (1, (false, x1)), (2, (false, x2)), (3, (false, x3)), (4, (false, x4))]) [0, 1, 2, 3, 4] rfl ?_
  exact w_L_law_118 F hno hnm x0 x1 x2 x3 x4 0 M h
set_option maxHeartbeats 4000000 in
set_option maxRecDepth 100000 in
theorem w_L_law_0 {p : Program} {l : Launch} {e : Env} {R : Room} {s : State} {m : MethodId} {args : Array Value} {below : List Frame} {meth : Method} {c : Code} {G : Gt} {ρ0 : Int → Nat} {M0 : Mo} {res : RS} (F : Fx p l R s m args meth c cL_law 8 RL G M0 18 (some FieldType.boolean)) (hno : ∀ x ∈ c.exceptionTable.toList, False) (hnm : meth.name = yL_law.name) (x0 : Int) (M : Mo) (h : L_law x0 M = some res) : J p l e R s m args below meth c 8 G ρ0 M0 1 res M 0 [(0, (false, x0))] [] := by
  unfold L_law at h
  obtain ⟨g1, h⟩ := gua h
  refine j_new (ci := 12) F inGX11 tyX11 tyX11_ok q80 q81 q53 rfl (by decide) dfX11 g1 dL_law_0 (fun kl2 => ?_)
  obtain ⟨M3, hM3⟩ : ∃ Z, Z = nO M 12 6 := ⟨_, rfl⟩
  have g4 : kd M3 (nid M) = 13 := by rw [hM3]; exact kd_nO
  rw [← hM3] at kl2 ⊢
  replace h := pt_as h hM3
  refine j_dup F dL_law_3 ?_
  refine j_callI (d' := 6) (argl := []) (rk9 := 0) (st := [(false, (nid M))]) F M_X11_init q83 rfl q82 ⟨by decide, by decide⟩ (Nat.le_of_ble_eq_true rfl) (by decide) (by rw [g4]; decide) dL_law_4 rfl h (fun z hz => c_X11_init l F.ht G (nid M) M3 z hz) (fun v5 M6 h kl7 => ?_)
  refine j_st (st' := [(false, (nid M))]) rfl ?_
  refine j_astore_n F (lv' := [(1, (false, (nid M))), (0, (false, x0))]) rfl (by decide) rfl dL_law_7 ?_
  refine j_bipush F (by decide) dL_law_8 ?_
  obtain ⟨g8, h⟩ := gua h
  refine j_newaI F q133 (by decide) g8 dL_law_10 (fun kl9 => ?_)
  obtain ⟨M10, hM10⟩ : ∃ Z, Z = nA M6 0 (wr 64) := ⟨_, rfl⟩
  have g11 : kd M10 (nid M6) = 100 := by rw [hM10]; exact kd_nA
  rw [← hM10] at kl9 ⊢
  replace h := pt_as h hM10
  refine j_astore_n F (lv' := [(2, (false, (nid M6))), (1, (false, (nid M))), (0, (false, x0))]) rfl (by decide) rfl dL_law_12 ?_
  refine j_bipush F (by decide) dL_law_13 ?_
  obtain ⟨g12, h⟩ := gua h
  refine j_newaI F q133 (by decide) g12 dL_law_15 (fun kl13 => ?_)
  obtain ⟨M14, hM14⟩ : ∃ Z, Z = nA M10 0 (wr 64) := ⟨_, rfl⟩
  have g15 : kd M14 (nid M10) = 100 := by rw [hM14]; exact kd_nA
  rw [← hM14] at kl13 ⊢
  replace h := pt_as h hM14
  refine j_astore_n F (lv' := [(3, (false, (nid M10))), (2, (false, (nid M6))), (1, (false, (nid M))), (0, (false, x0))]) rfl (by decide) rfl dL_law_17 ?_
  refine j_bipush F (by decide) dL_law_18 ?_
  obtain ⟨g16, h⟩ := gua h
  refine j_newaI F q133 (by decide) g16 dL_law_20 (fun kl17 => ?_)
  obtain ⟨M18, hM18⟩ : ∃ Z, Z = nA M14 0 (wr 18) := ⟨_, rfl⟩
  have g19 : kd M18 (nid M14) = 100 := by rw [hM18]; exact kd_nA
  rw [← hM18] at kl17 ⊢
  replace h := pt_as h hM18
  refine j_astore F (lv' := [(4, (false, (nid M14))), (3, (false, (nid M10))), (2, (false, (nid M6))), (1, (false, (nid M))), (0, (false, x0))]) (by decide) rfl dL_law_22 ?_
  refine j_aload F 0 rfl dL_law_24 ?_
  refine j_iconst F dL_law_26 ?_
  refine j_iconst F dL_law_27 ?_
  obtain ⟨g20, h⟩ := gua h
  refine j_iastore F g19 g20 dL_law_28 ?_
  obtain ⟨M21, hM21⟩ : ∃ Z, Z = sE M18 0 (nid M14) (wr 2) (-1) := ⟨_, rfl⟩
  have kl22 : kle M18 M21 := by rw [hM21]; exact kle_sE
  rw [← hM21]
  replace h := pt_as h hM21
  refine j_aload F 0 rfl dL_law_29 ?_
  refine j_iconst F dL_law_31 ?_
  refine j_iconst F dL_law_32 ?_
  obtain ⟨g23, h⟩ := gua h
  refine j_iastore F (kl22.is g19) g23 dL_law_33 ?_
  obtain ⟨M24, hM24⟩ : ∃ Z, Z = sE M21 0 (nid M14) (wr 3) (-1) := ⟨_, rfl⟩
  have kl25 : kle M21 M24 := by rw [hM24]; exact kle_sE
  rw [← hM24]
  replace h := pt_as h hM24
  refine j_aload_n F 3 rfl rfl dL_law_34 ?_
  refine j_iconst F dL_law_35 ?_
  refine j_bipush F (by decide) dL_law_36 ?_
  refine j_iconst F dL_law_38 ?_
  refine j_iconst F dL_law_39 ?_
  refine j_iconst F dL_law_40 ?_
  refine j_iconst F dL_law_41 ?_
  refine j_iconst F dL_law_42 ?_
  refine j_iconst F dL_law_43 ?_
  refine j_callX (d' := 13) (argl := [(false, (nid M)), (true, 0), (true, 96), (true, 0), (true, 0), (true, 0), (true, 0), (true, 0), (true, 0)]) (rk9 := 1) (st := []) F hno M_L_does q611 q610 ⟨by decide, by decide⟩ (Nat.le_of_ble_eq_true rfl) (by decide) dL_law_44 rfl h (fun z hz => c_L_does l F.ht G (nid M) 0 96 0 0 0 0 0 0 M24 z hz) (fun v26 M27 h kl28 => ?_)
  refine j_st (st' := [(true, v26)]) rfl ?_
  refine j_sipush F (by decide) dL_law_47 ?_
  refine j_icmp_ne F 117 (by decide) dL_law_50 h (fun h => ?_) (fun h => ?_)
  · skip
    refine j_sub (lv' := [(0, (false, x0)), (1, (false, (nid M))), (2, (false, (nid M6))), (3, (false, (nid M10))), (4, (false, (nid M14)))]) [4, 3, 2, 1, 0] rfl ?_
    exact w_L_law_117 F hno hnm x0 (nid M) (nid M6) (nid M10) (nid M14) M27 h
  · skip
    refine j_aload_n F 3 rfl rfl dL_law_53 ?_
    refine j_bipush F (by decide) dL_law_54 ?_
    refine j_iconst F dL_law_56 ?_
    refine j_callV (d' := 6) (argl := [(true, 98), (true, 0)]) (rk9 := 1) (st := []) F hno M_X11_file q340 q341 q339 ⟨by decide, by decide⟩ (Nat.le_of_ble_eq_true rfl) (by decide) (ci := 12) rfl (by decide) (kl28.is (kl25.is (kl22.is (kl17.is (kl13.is (kl9.is (kl7.is g4))))))) dL_law_57 rfl h (fun z hz => c_X11_file l F.ht G (nid M) 98 0 M27 z hz) (fun v29 M30 h kl31 => ?_)
    refine j_st (st' := [(true, v29)]) rfl ?_
    refine j_if_ne F 117 (by decide) dL_law_60 h (fun h => ?_) (fun h => ?_)
    · skip
      refine j_sub (lv' := [(0, (false, x0)), (1, (false, (nid M))), (2, (false, (nid M6))), (3, (false, (nid M10))), (4, (false, (nid M14)))]) [4, 3, 2, 1, 0] rfl ?_
      exact w_L_law_117 F hno hnm x0 (nid M) (nid M6) (nid M10) (nid M14) M30 h
    · skip
      refine j_aload_n F 3 rfl rfl dL_law_63 ?_
      refine j_iconst F dL_law_64 ?_
      refine j_bipush F (by decide) dL_law_65 ?_
      refine j_iconst F dL_law_67 ?_
      refine j_iconst F dL_law_68 ?_
      refine j_iconst F dL_law_69 ?_
      refine j_iconst F dL_law_70 ?_
      refine j_iconst F dL_law_71 ?_
      refine j_iconst F dL_law_72 ?_
      refine j_callX (d' := 13) (argl := [(false, (nid M)), (true, 0), (true, 98), (true, 1), (true, 0), (true, 0), (true, 0), (true, 0), (true, 0)]) (rk9 := 1) (st := []) F hno M_L_does q611 q610 ⟨by decide, by decide⟩ (Nat.le_of_ble_eq_true rfl) (by decide) dL_law_73 rfl h (fun z hz => c_L_does l F.ht G (nid M) 0 98 1 0 0 0 0 0 M30 z hz) (fun v32 M33 h kl34 => ?_)
      refine j_st (st' := [(true, v32)]) rfl ?_
      refine j_sipush F (by decide) dL_law_76 ?_
      refine j_icmp_ne F 117 (by decide) dL_law_79 h (fun h => ?_) (fun h => ?_)
      · skip
        refine j_sub (lv' := [(0, (false, x0)), (1, (false, (nid M))), (2, (false, (nid M6))), (3, (false, (nid M10))), (4, (false, (nid M14)))]) [4, 3, 2, 1, 0] rfl ?_
        exact w_L_law_117 F hno hnm x0 (nid M) (nid M6) (nid M10) (nid M14) M33 h
      · skip
        refine j_aload_n F 3 rfl rfl dL_law_82 ?_
        refine j_bipush F (by decide) dL_law_83 ?_
        refine j_iconst F dL_law_85 ?_
        refine j_callV (d' := 6) (argl := [(true, 97), (true, 1)]) (rk9 := 1) (st := []) F hno M_X11_file q340 q341 q339 ⟨by decide, by decide⟩ (Nat.le_of_ble_eq_true rfl) (by decide) (ci := 12) rfl (by decide) (kl34.is (kl31.is (kl28.is (kl25.is (kl22.is (kl17.is (kl13.is (kl9.is (kl7.is g4))))))))) dL_law_86 rfl h (fun z hz => c_X11_file l F.ht G (nid M) 97 1 M33 z hz) (fun v35 M36 h kl37 => ?_)
        refine j_st (st' := [(true, v35)]) rfl ?_
        refine j_iconst F dL_law_89 ?_
        refine j_icmp_ne F 117 (by decide) dL_law_90 h (fun h => ?_) (fun h => ?_)
        · skip
          refine j_sub (lv' := [(0, (false, x0)), (1, (false, (nid M))), (2, (false, (nid M6))), (3, (false, (nid M10))), (4, (false, (nid M14)))]) [4, 3, 2, 1, 0] rfl ?_
          exact w_L_law_117 F hno hnm x0 (nid M) (nid M6) (nid M10) (nid M14) M36 h
        · skip
          refine j_aload_n F 3 rfl rfl dL_law_93 ?_
          refine j_iconst F dL_law_94 ?_
          refine j_callV (d' := 7) (argl := [(true, 0)]) (rk9 := 1) (st := []) F hno M_X11_name q578 q579 q577 ⟨by decide, by decide⟩ (Nat.le_of_ble_eq_true rfl) (by decide) (ci := 12) rfl (by decide) (kl37.is (kl34.is (kl31.is (kl28.is (kl25.is (kl22.is (kl17.is (kl13.is (kl9.is (kl7.is g4)))))))))) dL_law_95 rfl h (fun z hz => c_X11_name l F.ht G (nid M) 0 M36 z hz) (fun v38 M39 h kl40 => ?_)
          refine j_st (st' := [(true, v38)]) rfl ?_
          refine j_bipush F (by decide) dL_law_98 ?_
          refine j_icmp_ne F 117 (by decide) dL_law_100 h (fun h => ?_) (fun h => ?_)
          · skip
            refine j_sub (lv' := [(0, (false, x0)), (1, (false, (nid M))), (2, (false, (nid M6))), (3, (false, (nid M10))), (4, (false, (nid M14)))]) [4, 3, 2, 1, 0] rfl ?_
            exact w_L_law_117 F hno hnm x0 (nid M) (nid M6) (nid M10) (nid M14) M39 h
          · skip
            refine j_aload_n F 3 rfl rfl dL_law_103 ?_
            refine j_iconst F dL_law_104 ?_
            refine j_callV (d' := 7) (argl := [(true, 1)]) (rk9 := 1) (st := []) F hno M_X11_name q578 q579 q577 ⟨by decide, by decide⟩ (Nat.le_of_ble_eq_true rfl) (by decide) (ci := 12) rfl (by decide) (kl40.is (kl37.is (kl34.is (kl31.is (kl28.is (kl25.is (kl22.is (kl17.is (kl13.is (kl9.is (kl7.is g4))))))))))) dL_law_105 rfl h (fun z hz => c_X11_name l F.ht G (nid M) 1 M39 z hz) (fun v41 M42 h kl43 => ?_)
            refine j_st (st' := [(true, v41)]) rfl ?_
            refine j_bipush F (by decide) dL_law_108 ?_
            refine j_icmp_ne F 117 (by decide) dL_law_110 h (fun h => ?_) (fun h => ?_)
            · skip
              refine j_sub (lv' := [(0, (false, x0)), (1, (false, (nid M))), (2, (false, (nid M6))), (3, (false, (nid M10))), (4, (false, (nid M14)))]) [4, 3, 2, 1, 0] rfl ?_
              exact w_L_law_117 F hno hnm x0 (nid M) (nid M6) (nid M10) (nid M14) M42 h
            · skip
              refine j_iconst F dL_law_113 ?_
              refine j_goto F 118 (by decide) dL_law_114 ?_
              refine j_sub (lv' := [(0, (false, x0)), (1, (false, (nid M))), (2, (false, (nid M6))), (3, (false, (nid M10))), (4, (false, (nid M14)))]) [4, 3, 2, 1, 0] rfl ?_
              exact w_L_law_118 F hno hnm x0 (nid M) (nid M6) (nid M10) (nid M14) 1 M42 h
theorem c_L_law (l : Launch) (hl : l.stackTraces = false) (G : Gt) (x0 : Int) (M : Mo) (z : RS) (h : L_law x0 M = some z) : CT l G yL_law (cn yL_law cL_law 8 (some FieldType.boolean)) 18 [(false, x0)] M 1 z :=
  ctOf hl (by decide) (Nat.le_of_ble_eq_true rfl) (fun p e R s m args below meth c ρ F hno hnm => w_L_law_0 F hno hnm x0 M h)
