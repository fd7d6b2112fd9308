theorem dX4_init_0 : decode cX4_init 0 = .ok (.aload_n 0, 1) := by decide +kernel
theorem q178 : Cond.methodLink RX4 3 objectInit ∈ GT := gt 178 (by decide +kernel) (by decide +kernel)
theorem dX4_init_1 : decode cX4_init 1 = .ok (.invokespecial 3, 3) := by decide +kernel
theorem dX4_init_4 : decode cX4_init 4 = .ok (.aload_n 0, 1) := by decide +kernel
theorem dX4_init_5 : decode cX4_init 5 = .ok (.bipush 6, 2) := by decide +kernel
theorem dX4_init_7 : decode cX4_init 7 = .ok (.newarray .char, 2) := by decide +kernel
theorem inGX4 : ∀ w ∈ u_ws RX4 TX4 7, w ∈ GT := gts [189, 191, 193, 195, 197, 199, 201] (by decide +kernel) (by decide +kernel)
theorem q182 : Cond.fieldLink RX4 9 "ToolPlex$Files" "names" "[C" ∈ GT := gt 182 (by decide +kernel) (by decide +kernel)
theorem dX4_init_9 : decode cX4_init 9 = .ok (.putfield 9, 3) := by decide +kernel
theorem dX4_init_12 : decode cX4_init 12 = .ok (.aload_n 0, 1) := by decide +kernel
theorem dX4_init_13 : decode cX4_init 13 = .ok (.bipush 6, 2) := by decide +kernel
theorem q204 : Cond.arrayClass FieldType.int ∈ GT := gt 204 (by decide +kernel) (by decide +kernel)
theorem dX4_init_15 : decode cX4_init 15 = .ok (.newarray .int, 2) := by decide +kernel
theorem q183 : Cond.fieldLink RX4 15 "ToolPlex$Files" "languages" "[I" ∈ GT := gt 183 (by decide +kernel) (by decide +kernel)
theorem dX4_init_17 : decode cX4_init 17 = .ok (.putfield 15, 3) := by decide +kernel
theorem dX4_init_20 : decode cX4_init 20 = .ok (.aload_n 0, 1) := by decide +kernel
theorem dX4_init_21 : decode cX4_init 21 = .ok (.bipush 6, 2) := by decide +kernel
theorem dX4_init_23 : decode cX4_init 23 = .ok (.newarray .int, 2) := by decide +kernel
theorem q184 : Cond.fieldLink RX4 19 "ToolPlex$Files" "versions" "[I" ∈ GT := gt 184 (by decide +kernel) (by decide +kernel)
theorem dX4_init_25 : decode cX4_init 25 = .ok (.putfield 19, 3) := by decide +kernel
theorem dX4_init_28 : decode cX4_init 28 = .ok (.aload_n 0, 1) := by decide +kernel
theorem dX4_init_29 : decode cX4_init 29 = .ok (.bipush 6, 2) := by decide +kernel
theorem dX4_init_31 : decode cX4_init 31 = .ok (.newarray .int, 2) := by decide +kernel
theorem q185 : Cond.fieldLink RX4 22 "ToolPlex$Files" "holders" "[I" ∈ GT := gt 185 (by decide +kernel) (by decide +kernel)
theorem dX4_init_33 : decode cX4_init 33 = .ok (.putfield 22, 3) := by decide +kernel
theorem dX4_init_36 : decode cX4_init 36 = .ok (.aload_n 0, 1) := by decide +kernel
theorem dX4_init_37 : decode cX4_init 37 = .ok (.bipush 6, 2) := by decide +kernel
theorem q179 : Cond.classLink RX4 25 RX10 ∈ GT := gt 179 (by decide +kernel) (by decide +kernel)
theorem dX4_init_39 : decode cX4_init 39 = .ok (.anewarray 25, 3) := by decide +kernel
theorem q186 : Cond.fieldLink RX4 27 "ToolPlex$Files" "texts" "[LToolPlex$Text;" ∈ GT := gt 186 (by decide +kernel) (by decide +kernel)
theorem dX4_init_42 : decode cX4_init 42 = .ok (.putfield 27, 3) := by decide +kernel
theorem dX4_init_45 : decode cX4_init 45 = .ok (.aload_n 0, 1) := by decide +kernel
theorem dX4_init_46 : decode cX4_init 46 = .ok (.new 25, 3) := by decide +kernel
theorem dX4_init_49 : decode cX4_init 49 = .ok (.dup, 1) := by decide +kernel
theorem dX4_init_50 : decode cX4_init 50 = .ok (.invokespecial 31, 3) := by decide +kernel
theorem q181 : Cond.methodLinkNest RX4 31 yX10_init "ToolPlex" ∈ GT := gt 181 (by decide +kernel) (by decide +kernel)
theorem q187 : Cond.fieldLink RX4 32 "ToolPlex$Files" "nothing" "LToolPlex$Text;" ∈ GT := gt 187 (by decide +kernel) (by decide +kernel)
theorem dX4_init_53 : decode cX4_init 53 = .ok (.putfield 32, 3) := by decide +kernel
theorem dX4_init_56 : decode cX4_init 56 = .ok (.iconst 0, 1) := by decide +kernel
theorem dX4_init_57 : decode cX4_init 57 = .ok (.istore_n 1, 1) := by decide +kernel
theorem dX4_init_58 : decode cX4_init 58 = .ok (.iload_n 1, 1) := by decide +kernel
theorem dX4_init_59 : decode cX4_init 59 = .ok (.bipush 6, 2) := by decide +kernel
theorem dX4_init_61 : decode cX4_init 61 = .ok (.if_icmp .ge 29, 3) := by decide +kernel
theorem dX4_init_64 : decode cX4_init 64 = .ok (.aload_n 0, 1) := by decide +kernel
theorem dX4_init_65 : decode cX4_init 65 = .ok (.getfield 22, 3) := by decide +kernel
theorem dX4_init_68 : decode cX4_init 68 = .ok (.iload_n 1, 1) := by decide +kernel
theorem dX4_init_69 : decode cX4_init 69 = .ok (.iconst (-1), 1) := by decide +kernel
theorem dX4_init_70 : decode cX4_init 70 = .ok (.iastore, 1) := by decide +kernel
theorem dX4_init_71 : decode cX4_init 71 = .ok (.aload_n 0, 1) := by decide +kernel
theorem dX4_init_72 : decode cX4_init 72 = .ok (.getfield 27, 3) := by decide +kernel
theorem dX4_init_75 : decode cX4_init 75 = .ok (.iload_n 1, 1) := by decide +kernel
theorem dX4_init_76 : decode cX4_init 76 = .ok (.new 25, 3) := by decide +kernel
theorem dX4_init_79 : decode cX4_init 79 = .ok (.dup, 1) := by decide +kernel
theorem dX4_init_80 : decode cX4_init 80 = .ok (.invokespecial 31, 3) := by decide +kernel
theorem dX4_init_83 : decode cX4_init 83 = .ok (.aastore, 1) := by decide +kernel
theorem dX4_init_84 : decode cX4_init 84 = .ok (.iinc 1 1, 3) := by decide +kernel
theorem dX4_init_87 : decode cX4_init 87 = .ok (.goto (-29), 3) := by decide +kernel
theorem dX4_init_90 : decode cX4_init 90 = .ok (.return_, 1) := by decide +kernel
theorem dX3_init_0 : decode cX3_init 0 = .ok (.aload_n 0, 1) := by decide +kernel
theorem q250 : Cond.methodLink RX3 3 objectInit ∈ GT := gt 250 (by decide +kernel) (by decide +kernel)
theorem dX3_init_1 : decode cX3_init 1 = .ok (.invokespecial 3, 3) := by decide +kernel
theorem dX3_init_4 : decode cX3_init 4 = .ok (.aload_n 0, 1) := by decide +kernel
theorem dX3_init_5 : decode cX3_init 5 = .ok (.bipush 6, 2) := by decide +kernel
theorem q251 : Cond.classLink RX3 9 RX2 ∈ GT := gt 251 (by decide +kernel) (by decide +kernel)
theorem dX3_init_7 : decode cX3_init 7 = .ok (.anewarray 9, 3) := by decide +kernel
theorem inGX3 : ∀ w ∈ u_ws RX3 TX3 8, w ∈ GT := gts [320, 322, 324, 326, 328, 330, 332, 334] (by decide +kernel) (by decide +kernel)
theorem q315 : Cond.fieldLink RX3 11 "ToolPlex$Editor" "copies" "[LToolPlex$Copy;" ∈ GT := gt 315 (by decide +kernel) (by decide +kernel)
theorem dX3_init_10 : decode cX3_init 10 = .ok (.putfield 11, 3) := by decide +kernel
theorem dX3_init_13 : decode cX3_init 13 = .ok (.aload_n 0, 1) := by decide +kernel
theorem q253 : Cond.instantiable RX2 7 ∈ GT := gt 253 (by decide +kernel) (by decide +kernel)
theorem q131 : Cond.initialized RX2 ∈ GT := gt 131 (by decide +kernel) (by decide +kernel)
theorem dX3_init_14 : decode cX3_init 14 = .ok (.new 9, 3) := by decide +kernel
theorem dX3_init_17 : decode cX3_init 17 = .ok (.dup, 1) := by decide +kernel
theorem dX3_init_18 : decode cX3_init 18 = .ok (.invokespecial 17, 3) := by decide +kernel
set_option maxRecDepth 100000 in
theorem q256 : Cond.code yX2_init cX2_init 1 none ∈ GT := gt 256 (rfl) (by decide +kernel)
theorem M_X2_init : MY yX2_init cX2_init 1 none 0 := ⟨q256, q131, by decide +kernel, by decide +kernel⟩
theorem q254 : Cond.methodLinkNest RX3 17 yX2_init "ToolPlex" ∈ GT := gt 254 (by decide +kernel) (by decide +kernel)
theorem q255 : Cond.instanceMethod yX2_init ∈ GT := gt 255 (by decide +kernel) (by decide +kernel)
theorem q316 : Cond.fieldLink RX3 18 "ToolPlex$Editor" "nothing" "LToolPlex$Copy;" ∈ GT := gt 316 (by decide +kernel) (by decide +kernel)
theorem dX3_init_21 : decode cX3_init 21 = .ok (.putfield 18, 3) := by decide +kernel
theorem dX3_init_24 : decode cX3_init 24 = .ok (.aload_n 0, 1) := by decide +kernel
theorem dX3_init_25 : decode cX3_init 25 = .ok (.bipush 6, 2) := by decide +kernel
theorem q295 : Cond.classLink RX3 22 RX5 ∈ GT := gt 295 (by decide +kernel) (by decide +kernel)
theorem dX3_init_27 : decode cX3_init 27 = .ok (.anewarray 22, 3) := by decide +kernel
theorem q317 : Cond.fieldLink RX3 24 "ToolPlex$Editor" "faults" "[LToolPlex$Items;" ∈ GT := gt 317 (by decide +kernel) (by decide +kernel)
theorem dX3_init_30 : decode cX3_init 30 = .ok (.putfield 24, 3) := by decide +kernel
theorem dX3_init_33 : decode cX3_init 33 = .ok (.aload_n 0, 1) := by decide +kernel
theorem q297 : Cond.instantiable RX5 2 ∈ GT := gt 297 (by decide +kernel) (by decide +kernel)
theorem q132 : Cond.initialized RX5 ∈ GT := gt 132 (by decide +kernel) (by decide +kernel)
theorem dX3_init_34 : decode cX3_init 34 = .ok (.new 22, 3) := by decide +kernel
theorem dX3_init_37 : decode cX3_init 37 = .ok (.dup, 1) := by decide +kernel
theorem dX3_init_38 : decode cX3_init 38 = .ok (.invokespecial 28, 3) := by decide +kernel
set_option maxRecDepth 100000 in
theorem q300 : Cond.code yX5_init cX5_init 1 none ∈ GT := gt 300 (rfl) (by decide +kernel)
theorem M_X5_init : MY yX5_init cX5_init 1 none 0 := ⟨q300, q132, by decide +kernel, by decide +kernel⟩
theorem q298 : Cond.methodLinkNest RX3 28 yX5_init "ToolPlex" ∈ GT := gt 298 (by decide +kernel) (by decide +kernel)
theorem q299 : Cond.instanceMethod yX5_init ∈ GT := gt 299 (by decide +kernel) (by decide +kernel)
theorem q318 : Cond.fieldLink RX3 29 "ToolPlex$Editor" "noFaults" "LToolPlex$Items;" ∈ GT := gt 318 (by decide +kernel) (by decide +kernel)
theorem dX3_init_41 : decode cX3_init 41 = .ok (.putfield 29, 3) := by decide +kernel
theorem dX3_init_44 : decode cX3_init 44 = .ok (.aload_n 0, 1) := by decide +kernel
theorem q310 : Cond.classLink RX3 33 RJx4a65c ∈ GT := gt 310 (by decide +kernel) (by decide +kernel)
theorem dX3_init_45 : decode cX3_init 45 = .ok (.new 33, 3) := by decide +kernel
theorem dX3_init_48 : decode cX3_init 48 = .ok (.dup, 1) := by decide +kernel
theorem dX3_init_49 : decode cX3_init 49 = .ok (.invokespecial 35, 3) := by decide +kernel
theorem q311 : Cond.methodLink RX3 35 yJx4a65c_init_da8c8 ∈ GT := gt 311 (by decide +kernel) (by decide +kernel)
theorem q319 : Cond.fieldLink RX3 36 "ToolPlex$Editor" "asks" "Ljava/util/ArrayList;" ∈ GT := gt 319 (by decide +kernel) (by decide +kernel)
theorem dX3_init_52 : decode cX3_init 52 = .ok (.putfield 36, 3) := by decide +kernel
theorem dX3_init_55 : decode cX3_init 55 = .ok (.aload_n 0, 1) := by decide +kernel
theorem dX3_init_56 : decode cX3_init 56 = .ok (.iload_n 1, 1) := by decide +kernel
theorem q312 : Cond.fieldLink RX3 40 "ToolPlex$Editor" "number" "I" ∈ GT := gt 312 (by decide +kernel) (by decide +kernel)
theorem dX3_init_57 : decode cX3_init 57 = .ok (.putfield 40, 3) := by decide +kernel
theorem dX3_init_60 : decode cX3_init 60 = .ok (.aload_n 0, 1) := by decide +kernel
theorem dX3_init_61 : decode cX3_init 61 = .ok (.aload_n 2, 1) := by decide +kernel
theorem q313 : Cond.fieldLink RX3 44 "ToolPlex$Editor" "files" "LToolPlex$Files;" ∈ GT := gt 313 (by decide +kernel) (by decide +kernel)
theorem dX3_init_62 : decode cX3_init 62 = .ok (.putfield 44, 3) := by decide +kernel
theorem dX3_init_65 : decode cX3_init 65 = .ok (.aload_n 0, 1) := by decide +kernel
theorem dX3_init_66 : decode cX3_init 66 = .ok (.aload_n 3, 1) := by decide +kernel
theorem q314 : Cond.fieldLink RX3 48 "ToolPlex$Editor" "out" "LToolPlex$Channel;" ∈ GT := gt 314 (by decide +kernel) (by decide +kernel)
theorem dX3_init_67 : decode cX3_init 67 = .ok (.putfield 48, 3) := by decide +kernel
theorem dX3_init_70 : decode cX3_init 70 = .ok (.iconst 0, 1) := by decide +kernel
theorem dX3_init_71 : decode cX3_init 71 = .ok (.istore 4, 2) := by decide +kernel
theorem dX3_init_73 : decode cX3_init 73 = .ok (.iload 4, 2) := by decide +kernel
theorem dX3_init_75 : decode cX3_init 75 = .ok (.bipush 6, 2) := by decide +kernel
theorem dX3_init_77 : decode cX3_init 77 = .ok (.if_icmp .ge 37, 3) := by decide +kernel
theorem dX3_init_80 : decode cX3_init 80 = .ok (.aload_n 0, 1) := by decide +kernel
theorem dX3_init_81 : decode cX3_init 81 = .ok (.getfield 11, 3) := by decide +kernel
theorem dX3_init_84 : decode cX3_init 84 = .ok (.iload 4, 2) := by decide +kernel
theorem dX3_init_86 : decode cX3_init 86 = .ok (.new 9, 3) := by decide +kernel
theorem dX3_init_89 : decode cX3_init 89 = .ok (.dup, 1) := by decide +kernel
theorem dX3_init_90 : decode cX3_init 90 = .ok (.invokespecial 17, 3) := by decide +kernel
theorem dX3_init_93 : decode cX3_init 93 = .ok (.aastore, 1) := by decide +kernel
theorem dX3_init_94 : decode cX3_init 94 = .ok (.aload_n 0, 1) := by decide +kernel
theorem dX3_init_95 : decode cX3_init 95 = .ok (.getfield 24, 3) := by decide +kernel
theorem dX3_init_98 : decode cX3_init 98 = .ok (.iload 4, 2) := by decide +kernel
theorem dX3_init_100 : decode cX3_init 100 = .ok (.new 22, 3) := by decide +kernel
theorem dX3_init_103 : decode cX3_init 103 = .ok (.dup, 1) := by decide +kernel
theorem dX3_init_104 : decode cX3_init 104 = .ok (.invokespecial 28, 3) := by decide +kernel
theorem dX3_init_107 : decode cX3_init 107 = .ok (.aastore, 1) := by decide +kernel
theorem dX3_init_108 : decode cX3_init 108 = .ok (.iinc 4 1, 3) := by decide +kernel
theorem dX3_init_111 : decode cX3_init 111 = .ok (.goto (-38), 3) := by decide +kernel
theorem dX3_init_114 : decode cX3_init 114 = .ok (.return_, 1) := by decide +kernel
theorem dJ7_fill_53178_0 : decode cJ7_fill_53178 0 = .ok (.iconst 0, 1) := by decide +kernel
theorem dJ7_fill_53178_1 : decode cJ7_fill_53178 1 = .ok (.istore_n 2, 1) := by decide +kernel
theorem dJ7_fill_53178_2 : decode cJ7_fill_53178 2 = .ok (.aload_n 0, 1) := by decide +kernel
theorem dJ7_fill_53178_3 : decode cJ7_fill_53178 3 = .ok (.arraylength, 1) := by decide +kernel
theorem dJ7_fill_53178_4 : decode cJ7_fill_53178 4 = .ok (.istore_n 3, 1) := by decide +kernel
theorem dJ7_fill_53178_5 : decode cJ7_fill_53178 5 = .ok (.iload_n 2, 1) := by decide +kernel
theorem dJ7_fill_53178_6 : decode cJ7_fill_53178 6 = .ok (.iload_n 3, 1) := by decide +kernel
theorem dJ7_fill_53178_7 : decode cJ7_fill_53178 7 = .ok (.if_icmp .ge 13, 3) := by decide +kernel
theorem dJ7_fill_53178_20 : decode cJ7_fill_53178 20 = .ok (.return_, 1) := by decide +kernel
theorem dJ7_fill_53178_10 : decode cJ7_fill_53178 10 = .ok (.aload_n 0, 1) := by decide +kernel
theorem dJ7_fill_53178_11 : decode cJ7_fill_53178 11 = .ok (.iload_n 2, 1) := by decide +kernel
theorem dJ7_fill_53178_12 : decode cJ7_fill_53178 12 = .ok (.iload_n 1, 1) := by decide +kernel
theorem dJ7_fill_53178_13 : decode cJ7_fill_53178 13 = .ok (.iastore, 1) := by decide +kernel
theorem dJ7_fill_53178_14 : decode cJ7_fill_53178 14 = .ok (.iinc 2 1, 3) := by decide +kernel
theorem dJ7_fill_53178_17 : decode cJ7_fill_53178 17 = .ok (.goto (-12), 3) := by decide +kernel
set_option maxHeartbeats 4000000 in
set_option maxRecDepth 100000 in
theorem k_X4_init (l : Launch) (d0 : Nat) (cO : ClassId) (dC : Nat → ClassId) (dI : Nat → Nat → Nat) (sz : Nat) (h0 : Nat) (v0 v1 v2 v3 v4 v5 : Value) (n : Int32) : Met l yX4_init (cn yX4_init cX4_init 2 none) (rmd 2 19 744) (va_Pc [.ref h0] (PRE d0 cO (dC, dI) (va_A [(h0, .inr (5, [v0, v1, v2, v3, v4, v5, .int n]))] sz) [(h0, .inr (5, [v0, v1, v2, v3, v4, v5, .int n]))] [] sz)) (va_Qv (fun (_ : Unit) => True) (fun (_ : Unit) (t : State) => ∃ na : Nat, ∃ la : Nat, ∃ w2 : Value, ∃ w3 : Value, ∃ w4 : Value, ∃ w5 : Value, ∃ tC : ClassId, ∃ tI : ClassId, POW (dC, dI) (va_A [(h0, .inr (5, [v0, v1, v2, v3, v4, v5, .int n]))] sz) [(h0, .inr (5, [.ref na, .ref la, w2, w3, w4, w5, .int n])), (na, .inl (tC, 6, .inl ((fun _ => 0)))), (la, .inl (tI, 6, .inl ((fun _ => 0))))] [(tC, .char), (tI, .int)] t) (va_A [(h0, .inr (5, [v0, v1, v2, v3, v4, v5, .int n]))] sz)) 19 744 (va_A [(h0, .inr (5, [v0, v1, v2, v3, v4, v5, .int n]))] sz) := by
  refine Met.ofW (cc := cX4_init) (maxL := 2) (ret := none) (by decide) rfl ?_
  intro p e s m args below meth c s₁ B hml hv
  obtain ⟨rfl, hsz, hE, hP, hK, hD0⟩ := hv
  have hx := B.exec
  have hb := B.bytes
  have hr := B.returns
  have hts := atoms_spec (ws := cn yX4_init cX4_init 2 none) B.pre
  have ht : ∀ w ∈ GT, w.before _ s = true := fun w h => hts w (List.mem_cons_of_mem _ h)
  have hown : s.vm.findClass RX4 = some m.cls := findClass_of_methodNamed B.named
  have hlocks := B.notSynchronized
  have hin : meth.name = "<init>" := (name_of_methodNamed B.named B.method).1
  subst hsz
  have hD := hD0.self (sz := s.heap.size)
  generalize hAe : va_A [(h0, .inr (5, [v0, v1, v2, v3, v4, v5, .int n]))] s.heap.size = A at hD hE ⊢
  have hA : ∀ q : Nat, s.heap.size ≤ q → A q := fun q h => by rw [← hAe]; exact Or.inr h
  obtain ⟨H, hH0⟩ : ∃ H, s.heap = H := ⟨_, rfl⟩
  have hS : va_S A s.heap H [] := by rw [← hH0]; exact va_S.rf
  rw [hH0] at hP
  have hl := lv_entry ([.ref h0]) (n := 2) (Nat.le_of_ble_eq_true rfl)
  rw [lg_entry_eq]
  generalize (lg_sl ([.ref h0]) ++ List.replicate (2 - (lg_sl ([.ref h0])).length) Slot.unset).toArray = ls at hl ⊢
  have hl : lv_has ls 2 [(0, .ref h0)] := hl
  rw [hH0]
  refine lv_aload_n hx hb dX4_init_0 rfl (lv_at hl 0 rfl) ?_
  refine W.objInit hx hb hown (ht _ q178) (ht _ q157) (ht _ q158) rfl (by rw [hml]; exact hl.1) rfl dX4_init_1 (Nat.le_of_ble_eq_true rfl) (Nat.le_of_ble_eq_true rfl) ?_
  refine W.eq (g2 := F0 m 4 ls []) rfl ?_
  refine lv_aload_n hx hb dX4_init_4 rfl (lv_at hl 0 rfl) ?_
  refine lv_bipush (v := 6) hx hb dX4_init_5 (by decide) ?_
  refine va_newa (atype := .char) (ty := .char) (a0 := (6, .inl (fun _ => 0))) (N' := 6) hx hb (ht _ q172) rfl hK hP hD hS hA (fun _ => rfl) (by decide) (by decide) (by decide) (Nat.le_of_ble_eq_true rfl) (Nat.le_of_ble_eq_true rfl) dX4_init_7 (fun q1 t2 H hK hP hD hS => ?_)
  have hK : va_K (dC, dI) vwCl [(t2, .char)] s := hK
  have hP : va_P (dC, dI) vwCl [(h0, .inr (5, [v0, v1, v2, v3, v4, v5, .int n])), (q1, .inl (t2, 6, .inl ((fun _ => 0))))] H := hP
  have hD : va_D A [(h0, .inr (5, [v0, v1, v2, v3, v4, v5, .int n])), (q1, .inl (t2, 6, .inl ((fun _ => 0))))] := hD
  refine W.widen (k := 1) (n := 6) (Nat.le_of_ble_eq_true rfl) (Nat.le_of_ble_eq_true rfl) ?_
  refine va_putF (D := (dC, dI)) (ci := 5) (v := .ref q1) (ty := .array .char) (C := RX4) (T := TX4) (N := 7) hx hb ht inGX4 tyX4 tyX4_ok nmX4 hown hK hP hD hS 0 rfl rfl 0 (by decide) (ht _ q182) (fun _ h9 => h9) rfl hin rfl (by decide +kernel) rfl rfl (Nat.le_of_ble_eq_true rfl) dX4_init_9 (fun H locs hP hD hS => ?_)
  have hP : va_P (dC, dI) vwCl [(h0, .inr (5, [.ref q1, v1, v2, v3, v4, v5, .int n])), (q1, .inl (t2, 6, .inl ((fun _ => 0))))] H := hP
  have hD : va_D A [(h0, .inr (5, [.ref q1, v1, v2, v3, v4, v5, .int n])), (q1, .inl (t2, 6, .inl ((fun _ => 0))))] := hD
  refine lv_aload_n hx hb dX4_init_12 rfl (lv_at hl 0 rfl) ?_
  refine lv_bipush (v := 6) hx hb dX4_init_13 (by decide) ?_
  refine va_newa (atype := .int) (ty := .int) (a0 := (6, .inl (fun _ => 0))) (N' := 6) hx hb (ht _ q204) rfl hK hP hD hS hA (fun _ => rfl) (by decide) (by decide) (by decide) (Nat.le_of_ble_eq_true rfl) (Nat.le_of_ble_eq_true rfl) dX4_init_15 (fun q3 t4 H hK hP hD hS => ?_)
  have hK : va_K (dC, dI) vwCl [(t2, .char), (t4, .int)] s := hK
  have hP : va_P (dC, dI) vwCl [(h0, .inr (5, [.ref q1, v1, v2, v3, v4, v5, .int n])), (q1, .inl (t2, 6, .inl ((fun _ => 0)))), (q3, .inl (t4, 6, .inl ((fun _ => 0))))] H := hP
  have hD : va_D A [(h0, .inr (5, [.ref q1, v1, v2, v3, v4, v5, .int n])), (q1, .inl (t2, 6, .inl ((fun _ => 0)))), (q3, .inl (t4, 6, .inl ((fun _ => 0))))] := hD
  refine W.widen (k := 2) (n := 12) (Nat.le_of_ble_eq_true rfl) (Nat.le_of_ble_eq_true rfl) ?_
  refine va_putF (D := (dC, dI)) (ci := 5) (v := .ref q3) (ty := .array .int) (C := RX4) (T := TX4) (N := 7) hx hb ht inGX4 tyX4 tyX4_ok nmX4 hown hK hP hD hS 0 rfl rfl 1 (by decide) (ht _ q183) (fun _ h9 => h9) rfl hin rfl (by decide +kernel) rfl rfl (Nat.le_of_ble_eq_true rfl) dX4_init_17 (fun H locs hP hD hS => ?_)
  have hP : va_P (dC, dI) vwCl [(h0, .inr (5, [.ref q1, .ref q3, v2, v3, v4, v5, .int n])), (q1, .inl (t2, 6, .inl ((fun _ => 0)))), (q3, .inl (t4, 6, .inl ((fun _ => 0))))] H := hP
  have hD : va_D A [(h0, .inr (5, [.ref q1, .ref q3, v2, v3, v4, v5, .int n])), (q1, .inl (t2, 6, .inl ((fun _ => 0)))), (q3, .inl (t4, 6, .inl ((fun _ => 0))))] := hD
  refine lv_aload_n hx hb dX4_init_20 rfl (lv_at hl 0 rfl) ?_
  refine lv_bipush (v := 6) hx hb dX4_init_21 (by decide) ?_
  refine va_newa (atype := .int) (ty := .int) (a0 := (6, .inl (fun _ => 0))) (N' := 6) hx hb (ht _ q204) rfl hK hP hD hS hA (fun _ => rfl) (by decide) (by decide) (by decide) (Nat.le_of_ble_eq_true rfl) (Nat.le_of_ble_eq_true rfl) dX4_init_23 (fun q5 t6 H hK hP hD hS => ?_)
  have hK : va_K (dC, dI) vwCl [(t2, .char), (t4, .int), (t6, .int)] s := hK
  have hP : va_P (dC, dI) vwCl [(h0, .inr (5, [.ref q1, .ref q3, v2, v3, v4, v5, .int n])), (q1, .inl (t2, 6, .inl ((fun _ => 0)))), (q3, .inl (t4, 6, .inl ((fun _ => 0)))), (q5, .inl (t6, 6, .inl ((fun _ => 0))))] H := hP
  have hD : va_D A [(h0, .inr (5, [.ref q1, .ref q3, v2, v3, v4, v5, .int n])), (q1, .inl (t2, 6, .inl ((fun _ => 0)))), (q3, .inl (t4, 6, .inl ((fun _ => 0)))), (q5, .inl (t6, 6, .inl ((fun _ => 0))))] := hD
  refine W.widen (k := 3) (n := 18) (Nat.le_of_ble_eq_true rfl) (Nat.le_of_ble_eq_true rfl) ?_
  refine va_putF (D := (dC, dI)) (ci := 5) (v := .ref q5) (ty := .array .int) (C := RX4) (T := TX4) (N := 7) hx hb ht inGX4 tyX4 tyX4_ok nmX4 hown hK hP hD hS 0 rfl rfl 2 (by decide) (ht _ q184) (fun _ h9 => h9) rfl hin rfl (by decide +kernel) rfl rfl (Nat.le_of_ble_eq_true rfl) dX4_init_25 (fun H locs hP hD hS => ?_)
  have hP : va_P (dC, dI) vwCl [(h0, .inr (5, [.ref q1, .ref q3, .ref q5, v3, v4, v5, .int n])), (q1, .inl (t2, 6, .inl ((fun _ => 0)))), (q3, .inl (t4, 6, .inl ((fun _ => 0)))), (q5, .inl (t6, 6, .inl ((fun _ => 0))))] H := hP
  have hD : va_D A [(h0, .inr (5, [.ref q1, .ref q3, .ref q5, v3, v4, v5, .int n])), (q1, .inl (t2, 6, .inl ((fun _ => 0)))), (q3, .inl (t4, 6, .inl ((fun _ => 0)))), (q5, .inl (t6, 6, .inl ((fun _ => 0))))] := hD
  refine lv_aload_n hx hb dX4_init_28 rfl (lv_at hl 0 rfl) ?_
  refine lv_bipush (v := 6) hx hb dX4_init_29 (by decide) ?_
  refine va_newa (atype := .int) (ty := .int) (a0 := (6, .inl (fun _ => 0))) (N' := 6) hx hb (ht _ q204) rfl hK hP hD hS hA (fun _ => rfl) (by decide) (by decide) (by decide) (Nat.le_of_ble_eq_true rfl) (Nat.le_of_ble_eq_true rfl) dX4_init_31 (fun q7 t8 H hK hP hD hS => ?_)
  have hK : va_K (dC, dI) vwCl [(t2, .char), (t4, .int), (t6, .int), (t8, .int)] s := hK
  have hP : va_P (dC, dI) vwCl [(h0, .inr (5, [.ref q1, .ref q3, .ref q5, v3, v4, v5, .int n])), (q1, .inl (t2, 6, .inl ((fun _ => 0)))), (q3, .inl (t4, 6, .inl ((fun _ => 0)))), (q5, .inl (t6, 6, .inl ((fun _ => 0)))), (q7, .inl (t8, 6, .inl ((fun _ => 0))))] H := hP
  have hD : va_D A [(h0, .inr (5, [.ref q1, .ref q3, .ref q5, v3, v4, v5, .int n])), (q1, .inl (t2, 6, .inl ((fun _ => 0)))), (q3, .inl (t4, 6, .inl ((fun _ => 0)))), (q5, .inl (t6, 6, .inl ((fun _ => 0)))), (q7, .inl (t8, 6, .inl ((fun _ => 0))))] := hD
  refine W.widen (k := 4) (n := 24) (Nat.le_of_ble_eq_true rfl) (Nat.le_of_ble_eq_true rfl) ?_
  refine va_putF (D := (dC, dI)) (ci := 5) (v := .ref q7) (ty := .array .int) (C := RX4) (T := TX4) (N := 7) hx hb ht inGX4 tyX4 tyX4_ok nmX4 hown hK hP hD hS 0 rfl rfl 3 (by decide) (ht _ q185) (fun _ h9 => h9) rfl hin rfl (by decide +kernel) rfl rfl (Nat.le_of_ble_eq_true rfl) dX4_init_33 (fun H locs hP hD hS => ?_)
  have hP : va_P (dC, dI) vwCl [(h0, .inr (5, [.ref q1, .ref q3, .ref q5, .ref q7, v4, v5, .int n])), (q1, .inl (t2, 6, .inl ((fun _ => 0)))), (q3, .inl (t4, 6, .inl ((fun _ => 0)))), (q5, .inl (t6, 6, .inl ((fun _ => 0)))), (q7, .inl (t8, 6, .inl ((fun _ => 0))))] H := hP
  have hD : va_D A [(h0, .inr (5, [.ref q1, .ref q3, .ref q5, .ref q7, v4, v5, .int n])), (q1, .inl (t2, 6, .inl ((fun _ => 0)))), (q3, .inl (t4, 6, .inl ((fun _ => 0)))), (q5, .inl (t6, 6, .inl ((fun _ => 0)))), (q7, .inl (t8, 6, .inl ((fun _ => 0))))] := hD
  refine lv_aload_n hx hb dX4_init_36 rfl (lv_at hl 0 rfl) ?_
  refine lv_bipush (v := 6) hx hb dX4_init_37 (by decide) ?_
  refine va_newq (C := RX10) (N' := 6) hx hb hown (ht _ q179) (hE.1.1) hK hP hD hS hA (by decide) (by decide) (by decide) (Nat.le_of_ble_eq_true rfl) (Nat.le_of_ble_eq_true rfl) dX4_init_39 (fun q9 t10 H hK hP hD hS => ?_)
  have hK : va_K (dC, dI) vwCl [(t2, .char), (t4, .int), (t6, .int), (t8, .int), (t10, .object RX10)] s := hK
  have hP : va_P (dC, dI) vwCl [(h0, .inr (5, [.ref q1, .ref q3, .ref q5, .ref q7, v4, v5, .int n])), (q1, .inl (t2, 6, .inl ((fun _ => 0)))), (q3, .inl (t4, 6, .inl ((fun _ => 0)))), (q5, .inl (t6, 6, .inl ((fun _ => 0)))), (q7, .inl (t8, 6, .inl ((fun _ => 0)))), (q9, .inl (t10, 6, .inr (.inr (.inr (.inr ((fun _ => none)))))))] H := hP
  have hD : va_D A [(h0, .inr (5, [.ref q1, .ref q3, .ref q5, .ref q7, v4, v5, .int n])), (q1, .inl (t2, 6, .inl ((fun _ => 0)))), (q3, .inl (t4, 6, .inl ((fun _ => 0)))), (q5, .inl (t6, 6, .inl ((fun _ => 0)))), (q7, .inl (t8, 6, .inl ((fun _ => 0)))), (q9, .inl (t10, 6, .inr (.inr (.inr (.inr ((fun _ => none)))))))] := hD
  refine W.widen (k := 5) (n := 30) (Nat.le_of_ble_eq_true rfl) (Nat.le_of_ble_eq_true rfl) ?_
  refine va_putF (D := (dC, dI)) (ci := 5) (v := .ref q9) (ty := .array (.object "ToolPlex$Text")) (C := RX4) (T := TX4) (N := 7) hx hb ht inGX4 tyX4 tyX4_ok nmX4 hown hK hP hD hS 0 rfl rfl 4 (by decide) (ht _ q186) (fun _ h9 => h9) rfl hin rfl (by decide +kernel) rfl rfl (Nat.le_of_ble_eq_true rfl) dX4_init_42 (fun H locs hP hD hS => ?_)
  have hP : va_P (dC, dI) vwCl [(h0, .inr (5, [.ref q1, .ref q3, .ref q5, .ref q7, .ref q9, v5, .int n])), (q1, .inl (t2, 6, .inl ((fun _ => 0)))), (q3, .inl (t4, 6, .inl ((fun _ => 0)))), (q5, .inl (t6, 6, .inl ((fun _ => 0)))), (q7, .inl (t8, 6, .inl ((fun _ => 0)))), (q9, .inl (t10, 6, .inr (.inr (.inr (.inr ((fun _ => none)))))))] H := hP
  have hD : va_D A [(h0, .inr (5, [.ref q1, .ref q3, .ref q5, .ref q7, .ref q9, v5, .int n])), (q1, .inl (t2, 6, .inl ((fun _ => 0)))), (q3, .inl (t4, 6, .inl ((fun _ => 0)))), (q5, .inl (t6, 6, .inl ((fun _ => 0)))), (q7, .inl (t8, 6, .inl ((fun _ => 0)))), (q9, .inl (t10, 6, .inr (.inr (.inr (.inr ((fun _ => none)))))))] := hD
  refine lv_aload_n hx hb dX4_init_45 rfl (lv_at hl 0 rfl) ?_
  refine va_new (ci := 11) (fs := [.null, .int 0]) (C := RX10) (T := TX10) (N := 2) hx hb ht inGX10 tyX10 tyX10_ok hown (ht _ q179) (ht _ q160) (ht _ q124) hK hP hD hS hA rfl (fun j hj => by rcases (show j = 0 ∨ j = 1 by omega) with rfl | rfl <;> rfl) (Nat.le_of_ble_eq_true rfl) (Nat.le_of_ble_eq_true rfl) dX4_init_46 (fun q11 H hP hD hS => ?_)
  have hP : va_P (dC, dI) vwCl [(h0, .inr (5, [.ref q1, .ref q3, .ref q5, .ref q7, .ref q9, v5, .int n])), (q1, .inl (t2, 6, .inl ((fun _ => 0)))), (q3, .inl (t4, 6, .inl ((fun _ => 0)))), (q5, .inl (t6, 6, .inl ((fun _ => 0)))), (q7, .inl (t8, 6, .inl ((fun _ => 0)))), (q9, .inl (t10, 6, .inr (.inr (.inr (.inr ((fun _ => none))))))), (q11, .inr (11, [.null, .int 0]))] H := hP
  have hD : va_D A [(h0, .inr (5, [.ref q1, .ref q3, .ref q5, .ref q7, .ref q9, v5, .int n])), (q1, .inl (t2, 6, .inl ((fun _ => 0)))), (q3, .inl (t4, 6, .inl ((fun _ => 0)))), (q5, .inl (t6, 6, .inl ((fun _ => 0)))), (q7, .inl (t8, 6, .inl ((fun _ => 0)))), (q9, .inl (t10, 6, .inr (.inr (.inr (.inr ((fun _ => none))))))), (q11, .inr (11, [.null, .int 0]))] := hD
  refine W.widen (k := 6) (n := 32) (Nat.le_of_ble_eq_true rfl) (Nat.le_of_ble_eq_true rfl) ?_
  refine lv_dup hx hb dX4_init_49 rfl ?_
  have hPc := hP.sub (ws' := [(q11, .inr (11, [.null, .int 0]))]) [6] rfl
  have hDc := hD.sub (ws' := [(q11, .inr (11, [.null, .int 0]))]) [6] (by decide) rfl
  have hKc := hK.sub (tys' := []) [] rfl
  have hFc := va_free (wc := [(q11, .inr (11, [.null, .int 0]))]) hD hS hA [6] rfl
  refine va_callv (va_runIN (As := []) (rest := [.ref q11, .ref h0]) ⟨hx, hb, hml, hown, ht⟩ (k_X10_init l d0 cO dC dI H.size q11 .null 0) (my_NI ht M_X10_init q162 rfl q181 (Nat.le_of_ble_eq_true rfl) (Nat.le_of_ble_eq_true rfl)) ⟨PRE.fb, fun U hU hW => ⟨rfl, PRE.mk' hE hS hFc hPc hKc hDc U hU hW⟩⟩ rfl rfl hl.1 rfl (lv_room (Nat.le_of_ble_eq_true rfl)) dX4_init_50 ⟨(Nat.le_of_ble_eq_true rfl), (Nat.le_of_ble_eq_true rfl)⟩) hS (fun q _ h => hFc q h) hFc (fun u12 t H1 locs htt hvm hw hB hz1 hk1 hS => ?_)
  try dsimp only at hw hB
  obtain ⟨q14, hP1, hK1, hD1⟩ := hB
  rw [htt] at hP1
  have hK1 := va_K.moved hvm.symm hK1
  obtain ⟨hP, hD⟩ := va_join (wr := [(h0, .inr (5, [.ref q1, .ref q3, .ref q5, .ref q7, .ref q9, v5, .int n])), (q1, .inl (t2, 6, .inl ((fun _ => 0)))), (q3, .inl (t4, 6, .inl ((fun _ => 0)))), (q5, .inl (t6, 6, .inl ((fun _ => 0)))), (q7, .inl (t8, 6, .inl ((fun _ => 0)))), (q9, .inl (t10, 6, .inr (.inr (.inr (.inr ((fun _ => none)))))))]) (w1 := [(q11, .inr (11, [.ref q14, .int 0]))]) hP hD [6] [0, 1, 2, 3, 4, 5] rfl rfl (by decide) (by decide) hk1 hFc hP1 hD1
  have hK := (hK.sub (tys' := [(t2, .char), (t4, .int), (t6, .int), (t8, .int), (t10, .object RX10)]) [0, 1, 2, 3, 4] rfl).app hK1
  generalize H1 = H at hP hS ⊢
  have hP : va_P (dC, dI) vwCl [(h0, .inr (5, [.ref q1, .ref q3, .ref q5, .ref q7, .ref q9, v5, .int n])), (q1, .inl (t2, 6, .inl ((fun _ => 0)))), (q3, .inl (t4, 6, .inl ((fun _ => 0)))), (q5, .inl (t6, 6, .inl ((fun _ => 0)))), (q7, .inl (t8, 6, .inl ((fun _ => 0)))), (q9, .inl (t10, 6, .inr (.inr (.inr (.inr ((fun _ => none))))))), (q11, .inr (11, [.ref q14, .int 0]))] H := hP
  have hD : va_D A [(h0, .inr (5, [.ref q1, .ref q3, .ref q5, .ref q7, .ref q9, v5, .int n])), (q1, .inl (t2, 6, .inl ((fun _ => 0)))), (q3, .inl (t4, 6, .inl ((fun _ => 0)))), (q5, .inl (t6, 6, .inl ((fun _ => 0)))), (q7, .inl (t8, 6, .inl ((fun _ => 0)))), (q9, .inl (t10, 6, .inr (.inr (.inr (.inr ((fun _ => none))))))), (q11, .inr (11, [.ref q14, .int 0]))] := hD
  have hK : va_K (dC, dI) vwCl [(t2, .char), (t4, .int), (t6, .int), (t8, .int), (t10, .object RX10)] s := hK
  refine W.widen (k := 7) (n := 132) (Nat.le_of_ble_eq_true rfl) (Nat.le_of_ble_eq_true rfl) ?_
  refine va_putF (D := (dC, dI)) (ci := 5) (v := .ref q11) (ty := .object "ToolPlex$Text") (C := RX4) (T := TX4) (N := 7) hx hb ht inGX4 tyX4 tyX4_ok nmX4 hown hK hP hD hS 0 rfl rfl 5 (by decide) (ht _ q187) (fun _ h9 => h9) rfl hin rfl (by decide +kernel) rfl rfl (Nat.le_of_ble_eq_true rfl) dX4_init_53 (fun H locs hP hD hS => ?_)
  have hP : va_P (dC, dI) vwCl [(h0, .inr (5, [.ref q1, .ref q3, .ref q5, .ref q7, .ref q9, .ref q11, .int n])), (q1, .inl (t2, 6, .inl ((fun _ => 0)))), (q3, .inl (t4, 6, .inl ((fun _ => 0)))), (q5, .inl (t6, 6, .inl ((fun _ => 0)))), (q7, .inl (t8, 6, .inl ((fun _ => 0)))), (q9, .inl (t10, 6, .inr (.inr (.inr (.inr ((fun _ => none))))))), (q11, .inr (11, [.ref q14, .int 0]))] H := hP
  have hD : va_D A [(h0, .inr (5, [.ref q1, .ref q3, .ref q5, .ref q7, .ref q9, .ref q11, .int n])), (q1, .inl (t2, 6, .inl ((fun _ => 0)))), (q3, .inl (t4, 6, .inl ((fun _ => 0)))), (q5, .inl (t6, 6, .inl ((fun _ => 0)))), (q7, .inl (t8, 6, .inl ((fun _ => 0)))), (q9, .inl (t10, 6, .inr (.inr (.inr (.inr ((fun _ => none))))))), (q11, .inr (11, [.ref q14, .int 0]))] := hD
  refine lv_iconst (v := 0) hx hb dX4_init_56 (by decide) ?_
  refine lv_istore_n (lv' := [(1, .int 0), (0, .ref h0)]) hx hb dX4_init_57 rfl hl (by decide) rfl (fun ls hl => ?_)
  refine lv_iload_n hx hb dX4_init_58 rfl (lv_at hl 0 rfl) ?_
  refine lv_bipush (v := 6) hx hb dX4_init_59 (by decide) ?_
  refine lv_icmp_ge (tgt := 90) hx hb dX4_init_61 (by decide) (fun c15 => False.elim (by revert c15; decide)) (fun c15 => ?_)
  refine lv_aload_n hx hb dX4_init_64 rfl (lv_at hl 1 rfl) ?_
  refine va_get (D := (dC, dI)) (ci := 5) (v := .ref q7) (C := RX4) (T := TX4) (N := 7) hx hb ht inGX4 hown hK hP 0 rfl rfl 3 (by decide) (ht _ q185) (fun _ h9 => h9) rfl dX4_init_65 ?_
  refine lv_iload_n hx hb dX4_init_68 rfl (lv_at hl 0 rfl) ?_
  refine lv_iconst (v := -1) hx hb dX4_init_69 (by decide) ?_
  refine va_iast hx hb hK hP hD hS 4 3 rfl rfl (vp_in_nI (n := 0) (by decide) (by decide)) dX4_init_70 (fun H locs hP hD hS => ?_)
  have hP : va_P (dC, dI) vwCl [(h0, .inr (5, [.ref q1, .ref q3, .ref q5, .ref q7, .ref q9, .ref q11, .int n])), (q1, .inl (t2, 6, .inl ((fun _ => 0)))), (q3, .inl (t4, 6, .inl ((fun _ => 0)))), (q5, .inl (t6, 6, .inl ((fun _ => 0)))), (q7, .inl (t8, 6, .inl ((upd (fun _ => 0) 0 (-1))))), (q9, .inl (t10, 6, .inr (.inr (.inr (.inr ((fun _ => none))))))), (q11, .inr (11, [.ref q14, .int 0]))] H := hP
  have hD : va_D A [(h0, .inr (5, [.ref q1, .ref q3, .ref q5, .ref q7, .ref q9, .ref q11, .int n])), (q1, .inl (t2, 6, .inl ((fun _ => 0)))), (q3, .inl (t4, 6, .inl ((fun _ => 0)))), (q5, .inl (t6, 6, .inl ((fun _ => 0)))), (q7, .inl (t8, 6, .inl ((upd (fun _ => 0) 0 (-1))))), (q9, .inl (t10, 6, .inr (.inr (.inr (.inr ((fun _ => none))))))), (q11, .inr (11, [.ref q14, .int 0]))] := hD
  generalize (upd (fun _ => 0) 0 (-1)) = f16 at hP hD
  refine lv_aload_n hx hb dX4_init_71 rfl (lv_at hl 1 rfl) ?_
  refine va_get (D := (dC, dI)) (ci := 5) (v := .ref q9) (C := RX4) (T := TX4) (N := 7) hx hb ht inGX4 hown hK hP 0 rfl rfl 4 (by decide) (ht _ q186) (fun _ h9 => h9) rfl dX4_init_72 ?_
  refine lv_iload_n hx hb dX4_init_75 rfl (lv_at hl 0 rfl) ?_
  refine va_new (ci := 11) (fs := [.null, .int 0]) (C := RX10) (T := TX10) (N := 2) hx hb ht inGX10 tyX10 tyX10_ok hown (ht _ q179) (ht _ q160) (ht _ q124) hK hP hD hS hA rfl (fun j hj => by rcases (show j = 0 ∨ j = 1 by omega) with rfl | rfl <;> rfl) (Nat.le_of_ble_eq_true rfl) (Nat.le_of_ble_eq_true rfl) dX4_init_76 (fun q17 H hP hD hS => ?_)
  have hP : va_P (dC, dI) vwCl [(h0, .inr (5, [.ref q1, .ref q3, .ref q5, .ref q7, .ref q9, .ref q11, .int n])), (q1, .inl (t2, 6, .inl ((fun _ => 0)))), (q3, .inl (t4, 6, .inl ((fun _ => 0)))), (q5, .inl (t6, 6, .inl ((fun _ => 0)))), (q7, .inl (t8, 6, .inl f16)), (q9, .inl (t10, 6, .inr (.inr (.inr (.inr ((fun _ => none))))))), (q11, .inr (11, [.ref q14, .int 0])), (q17, .inr (11, [.null, .int 0]))] H := hP
  have hD : va_D A [(h0, .inr (5, [.ref q1, .ref q3, .ref q5, .ref q7, .ref q9, .ref q11, .int n])), (q1, .inl (t2, 6, .inl ((fun _ => 0)))), (q3, .inl (t4, 6, .inl ((fun _ => 0)))), (q5, .inl (t6, 6, .inl ((fun _ => 0)))), (q7, .inl (t8, 6, .inl f16)), (q9, .inl (t10, 6, .inr (.inr (.inr (.inr ((fun _ => none))))))), (q11, .inr (11, [.ref q14, .int 0])), (q17, .inr (11, [.null, .int 0]))] := hD
  refine W.widen (k := 8) (n := 134) (Nat.le_of_ble_eq_true rfl) (Nat.le_of_ble_eq_true rfl) ?_
  refine lv_dup hx hb dX4_init_79 rfl ?_
  have hPc := hP.sub (ws' := [(q17, .inr (11, [.null, .int 0]))]) [7] rfl
  have hDc := hD.sub (ws' := [(q17, .inr (11, [.null, .int 0]))]) [7] (by decide) rfl
  have hKc := hK.sub (tys' := []) [] rfl
  have hFc := va_free (wc := [(q17, .inr (11, [.null, .int 0]))]) hD hS hA [7] rfl
  refine va_callv (va_runIN (As := []) (rest := [.ref q17, .int 0, .ref q9]) ⟨hx, hb, hml, hown, ht⟩ (k_X10_init l d0 cO dC dI H.size q17 .null 0) (my_NI ht M_X10_init q162 rfl q181 (Nat.le_of_ble_eq_true rfl) (Nat.le_of_ble_eq_true rfl)) ⟨PRE.fb, fun U hU hW => ⟨rfl, PRE.mk' hE hS hFc hPc hKc hDc U hU hW⟩⟩ rfl rfl hl.1 rfl (lv_room (Nat.le_of_ble_eq_true rfl)) dX4_init_80 ⟨(Nat.le_of_ble_eq_true rfl), (Nat.le_of_ble_eq_true rfl)⟩) hS (fun q _ h => hFc q h) hFc (fun u18 t H1 locs htt hvm hw hB hz1 hk1 hS => ?_)
  try dsimp only at hw hB
  obtain ⟨q20, hP1, hK1, hD1⟩ := hB
  rw [htt] at hP1
  have hK1 := va_K.moved hvm.symm hK1
  obtain ⟨hP, hD⟩ := va_join (wr := [(h0, .inr (5, [.ref q1, .ref q3, .ref q5, .ref q7, .ref q9, .ref q11, .int n])), (q1, .inl (t2, 6, .inl ((fun _ => 0)))), (q3, .inl (t4, 6, .inl ((fun _ => 0)))), (q5, .inl (t6, 6, .inl ((fun _ => 0)))), (q7, .inl (t8, 6, .inl f16)), (q9, .inl (t10, 6, .inr (.inr (.inr (.inr ((fun _ => none))))))), (q11, .inr (11, [.ref q14, .int 0]))]) (w1 := [(q17, .inr (11, [.ref q20, .int 0]))]) hP hD [7] [0, 1, 2, 3, 4, 5, 6] rfl rfl (by decide) (by decide) hk1 hFc hP1 hD1
  have hK := (hK.sub (tys' := [(t2, .char), (t4, .int), (t6, .int), (t8, .int), (t10, .object RX10)]) [0, 1, 2, 3, 4] rfl).app hK1
  generalize H1 = H at hP hS ⊢
  have hP : va_P (dC, dI) vwCl [(h0, .inr (5, [.ref q1, .ref q3, .ref q5, .ref q7, .ref q9, .ref q11, .int n])), (q1, .inl (t2, 6, .inl ((fun _ => 0)))), (q3, .inl (t4, 6, .inl ((fun _ => 0)))), (q5, .inl (t6, 6, .inl ((fun _ => 0)))), (q7, .inl (t8, 6, .inl f16)), (q9, .inl (t10, 6, .inr (.inr (.inr (.inr ((fun _ => none))))))), (q11, .inr (11, [.ref q14, .int 0])), (q17, .inr (11, [.ref q20, .int 0]))] H := hP
  have hD : va_D A [(h0, .inr (5, [.ref q1, .ref q3, .ref q5, .ref q7, .ref q9, .ref q11, .int n])), (q1, .inl (t2, 6, .inl ((fun _ => 0)))), (q3, .inl (t4, 6, .inl ((fun _ => 0)))), (q5, .inl (t6, 6, .inl ((fun _ => 0)))), (q7, .inl (t8, 6, .inl f16)), (q9, .inl (t10, 6, .inr (.inr (.inr (.inr ((fun _ => none))))))), (q11, .inr (11, [.ref q14, .int 0])), (q17, .inr (11, [.ref q20, .int 0]))] := hD
  have hK : va_K (dC, dI) vwCl [(t2, .char), (t4, .int), (t6, .int), (t8, .int), (t10, .object RX10)] s := hK
  refine W.widen (k := 9) (n := 234) (Nat.le_of_ble_eq_true rfl) (Nat.le_of_ble_eq_true rfl) ?_
  refine va_astq hx hb hK hP hD hS 5 4 7 11 rfl rfl rfl rfl (vp_in_nI (n := 0) (by decide) (by decide)) dX4_init_83 (fun H locs hP hD hS => ?_)
  have hP : va_P (dC, dI) vwCl [(h0, .inr (5, [.ref q1, .ref q3, .ref q5, .ref q7, .ref q9, .ref q11, .int n])), (q1, .inl (t2, 6, .inl ((fun _ => 0)))), (q3, .inl (t4, 6, .inl ((fun _ => 0)))), (q5, .inl (t6, 6, .inl ((fun _ => 0)))), (q7, .inl (t8, 6, .inl f16)), (q9, .inl (t10, 6, .inr (.inr (.inr (.inr ((va_up (fun _ => none) 0 (some q17)))))))), (q11, .inr (11, [.ref q14, .int 0])), (q17, .inr (11, [.ref q20, .int 0]))] H := hP
  have hD : va_D A [(h0, .inr (5, [.ref q1, .ref q3, .ref q5, .ref q7, .ref q9, .ref q11, .int n])), (q1, .inl (t2, 6, .inl ((fun _ => 0)))), (q3, .inl (t4, 6, .inl ((fun _ => 0)))), (q5, .inl (t6, 6, .inl ((fun _ => 0)))), (q7, .inl (t8, 6, .inl f16)), (q9, .inl (t10, 6, .inr (.inr (.inr (.inr ((va_up (fun _ => none) 0 (some q17)))))))), (q11, .inr (11, [.ref q14, .int 0])), (q17, .inr (11, [.ref q20, .int 0]))] := hD
  generalize (va_up (fun _ => none) 0 (some q17)) = f21 at hP hD
  have hP := hP.sub (ws' := [(h0, .inr (5, [.ref q1, .ref q3, .ref q5, .ref q7, .ref q9, .ref q11, .int n])), (q1, .inl (t2, 6, .inl ((fun _ => 0)))), (q3, .inl (t4, 6, .inl ((fun _ => 0)))), (q5, .inl (t6, 6, .inl ((fun _ => 0)))), (q7, .inl (t8, 6, .inl f16)), (q9, .inl (t10, 6, .inr (.inr (.inr (.inr f21))))), (q11, .inr (11, [.ref q14, .int 0]))]) [0, 1, 2, 3, 4, 5, 6] rfl
  have hD := hD.sub (ws' := [(h0, .inr (5, [.ref q1, .ref q3, .ref q5, .ref q7, .ref q9, .ref q11, .int n])), (q1, .inl (t2, 6, .inl ((fun _ => 0)))), (q3, .inl (t4, 6, .inl ((fun _ => 0)))), (q5, .inl (t6, 6, .inl ((fun _ => 0)))), (q7, .inl (t8, 6, .inl f16)), (q9, .inl (t10, 6, .inr (.inr (.inr (.inr f21))))), (q11, .inr (11, [.ref q14, .int 0]))]) [0, 1, 2, 3, 4, 5, 6] (by decide) rfl
  refine lv_iinc (v := 1) (lv' := [(1, .int 1), (0, .ref h0)]) hx hb dX4_init_84 hl (k := 0) rfl (by decide) (by decide) rfl (fun ls hl => ?_)
  refine lv_goto (tgt := 58) hx hb dX4_init_87 (by decide) ?_
  refine lv_iload_n hx hb dX4_init_58 rfl (lv_at hl 0 rfl) ?_
  refine lv_bipush (v := 6) hx hb dX4_init_59 (by decide) ?_
  refine lv_icmp_ge (tgt := 90) hx hb dX4_init_61 (by decide) (fun c22 => False.elim (by revert c22; decide)) (fun c22 => ?_)
  refine lv_aload_n hx hb dX4_init_64 rfl (lv_at hl 1 rfl) ?_
  refine va_get (D := (dC, dI)) (ci := 5) (v := .ref q7) (C := RX4) (T := TX4) (N := 7) hx hb ht inGX4 hown hK hP 0 rfl rfl 3 (by decide) (ht _ q185) (fun _ h9 => h9) rfl dX4_init_65 ?_
  refine lv_iload_n hx hb dX4_init_68 rfl (lv_at hl 0 rfl) ?_
  refine lv_iconst (v := -1) hx hb dX4_init_69 (by decide) ?_
  refine va_iast hx hb hK hP hD hS 4 3 rfl rfl (vp_in_nI (n := 1) (by decide) (by decide)) dX4_init_70 (fun H locs hP hD hS => ?_)
  have hP : va_P (dC, dI) vwCl [(h0, .inr (5, [.ref q1, .ref q3, .ref q5, .ref q7, .ref q9, .ref q11, .int n])), (q1, .inl (t2, 6, .inl ((fun _ => 0)))), (q3, .inl (t4, 6, .inl ((fun _ => 0)))), (q5, .inl (t6, 6, .inl ((fun _ => 0)))), (q7, .inl (t8, 6, .inl ((upd f16 1 (-1))))), (q9, .inl (t10, 6, .inr (.inr (.inr (.inr f21))))), (q11, .inr (11, [.ref q14, .int 0]))] H := hP
  have hD : va_D A [(h0, .inr (5, [.ref q1, .ref q3, .ref q5, .ref q7, .ref q9, .ref q11, .int n])), (q1, .inl (t2, 6, .inl ((fun _ => 0)))), (q3, .inl (t4, 6, .inl ((fun _ => 0)))), (q5, .inl (t6, 6, .inl ((fun _ => 0)))), (q7, .inl (t8, 6, .inl ((upd f16 1 (-1))))), (q9, .inl (t10, 6, .inr (.inr (.inr (.inr f21))))), (q11, .inr (11, [.ref q14, .int 0]))] := hD
  generalize (upd f16 1 (-1)) = f23 at hP hD
  refine lv_aload_n hx hb dX4_init_71 rfl (lv_at hl 1 rfl) ?_
  refine va_get (D := (dC, dI)) (ci := 5) (v := .ref q9) (C := RX4) (T := TX4) (N := 7) hx hb ht inGX4 hown hK hP 0 rfl rfl 4 (by decide) (ht _ q186) (fun _ h9 => h9) rfl dX4_init_72 ?_
  refine lv_iload_n hx hb dX4_init_75 rfl (lv_at hl 0 rfl) ?_
  refine va_new (ci := 11) (fs := [.null, .int 0]) (C := RX10) (T := TX10) (N := 2) hx hb ht inGX10 tyX10 tyX10_ok hown (ht _ q179) (ht _ q160) (ht _ q124) hK hP hD hS hA rfl (fun j hj => by rcases (show j = 0 ∨ j = 1 by omega) with rfl | rfl <;> rfl) (Nat.le_of_ble_eq_true rfl) (Nat.le_of_ble_eq_true rfl) dX4_init_76 (fun q24 H hP hD hS => ?_)
  have hP : va_P (dC, dI) vwCl [(h0, .inr (5, [.ref q1, .ref q3, .ref q5, .ref q7, .ref q9, .ref q11, .int n])), (q1, .inl (t2, 6, .inl ((fun _ => 0)))), (q3, .inl (t4, 6, .inl ((fun _ => 0)))), (q5, .inl (t6, 6, .inl ((fun _ => 0)))), (q7, .inl (t8, 6, .inl f23)), (q9, .inl (t10, 6, .inr (.inr (.inr (.inr f21))))), (q11, .inr (11, [.ref q14, .int 0])), (q24, .inr (11, [.null, .int 0]))] H := hP
  have hD : va_D A [(h0, .inr (5, [.ref q1, .ref q3, .ref q5, .ref q7, .ref q9, .ref q11, .int n])), (q1, .inl (t2, 6, .inl ((fun _ => 0)))), (q3, .inl (t4, 6, .inl ((fun _ => 0)))), (q5, .inl (t6, 6, .inl ((fun _ => 0)))), (q7, .inl (t8, 6, .inl f23)), (q9, .inl (t10, 6, .inr (.inr (.inr (.inr f21))))), (q11, .inr (11, [.ref q14, .int 0])), (q24, .inr (11, [.null, .int 0]))] := hD
  refine W.widen (k := 10) (n := 236) (Nat.le_of_ble_eq_true rfl) (Nat.le_of_ble_eq_true rfl) ?_
  refine lv_dup hx hb dX4_init_79 rfl ?_
  have hPc := hP.sub (ws' := [(q24, .inr (11, [.null, .int 0]))]) [7] rfl
  have hDc := hD.sub (ws' := [(q24, .inr (11, [.null, .int 0]))]) [7] (by decide) rfl
  have hKc := hK.sub (tys' := []) [] rfl
  have hFc := va_free (wc := [(q24, .inr (11, [.null, .int 0]))]) hD hS hA [7] rfl
  refine va_callv (va_runIN (As := []) (rest := [.ref q24, .int 1, .ref q9]) ⟨hx, hb, hml, hown, ht⟩ (k_X10_init l d0 cO dC dI H.size q24 .null 0) (my_NI ht M_X10_init q162 rfl q181 (Nat.le_of_ble_eq_true rfl) (Nat.le_of_ble_eq_true rfl)) ⟨PRE.fb, fun U hU hW => ⟨rfl, PRE.mk' hE hS hFc hPc hKc hDc U hU hW⟩⟩ rfl rfl hl.1 rfl (lv_room (Nat.le_of_ble_eq_true rfl)) dX4_init_80 ⟨(Nat.le_of_ble_eq_true rfl), (Nat.le_of_ble_eq_true rfl)⟩) hS (fun q _ h => hFc q h) hFc (fun u25 t H1 locs htt hvm hw hB hz1 hk1 hS => ?_)
  try dsimp only at hw hB
  obtain ⟨q27, hP1, hK1, hD1⟩ := hB
  rw [htt] at hP1
  have hK1 := va_K.moved hvm.symm hK1
  obtain ⟨hP, hD⟩ := va_join (wr := [(h0, .inr (5, [.ref q1, .ref q3, .ref q5, .ref q7, .ref q9, .ref q11, .int n])), (q1, .inl (t2, 6, .inl ((fun _ => 0)))), (q3, .inl (t4, 6, .inl ((fun _ => 0)))), (q5, .inl (t6, 6, .inl ((fun _ => 0)))), (q7, .inl (t8, 6, .inl f23)), (q9, .inl (t10, 6, .inr (.inr (.inr (.inr f21))))), (q11, .inr (11, [.ref q14, .int 0]))]) (w1 := [(q24, .inr (11, [.ref q27, .int 0]))]) hP hD [7] [0, 1, 2, 3, 4, 5, 6] rfl rfl (by decide) (by decide) hk1 hFc hP1 hD1
  have hK := (hK.sub (tys' := [(t2, .char), (t4, .int), (t6, .int), (t8, .int), (t10, .object RX10)]) [0, 1, 2, 3, 4] rfl).app hK1
  generalize H1 = H at hP hS ⊢
  have hP : va_P (dC, dI) vwCl [(h0, .inr (5, [.ref q1, .ref q3, .ref q5, .ref q7, .ref q9, .ref q11, .int n])), (q1, .inl (t2, 6, .inl ((fun _ => 0)))), (q3, .inl (t4, 6, .inl ((fun _ => 0)))), (q5, .inl (t6, 6, .inl ((fun _ => 0)))), (q7, .inl (t8, 6, .inl f23)), (q9, .inl (t10, 6, .inr (.inr (.inr (.inr f21))))), (q11, .inr (11, [.ref q14, .int 0])), (q24, .inr (11, [.ref q27, .int 0]))] H := hP
  have hD : va_D A [(h0, .inr (5, [.ref q1, .ref q3, .ref q5, .ref q7, .ref q9, .ref q11, .int n])), (q1, .inl (t2, 6, .inl ((fun _ => 0)))), (q3, .inl (t4, 6, .inl ((fun _ => 0)))), (q5, .inl (t6, 6, .inl ((fun _ => 0)))), (q7, .inl (t8, 6, .inl f23)), (q9, .inl (t10, 6, .inr (.inr (.inr (.inr f21))))), (q11, .inr (11, [.ref q14, .int 0])), (q24, .inr (11, [.ref q27, .int 0]))] := hD
  have hK : va_K (dC, dI) vwCl [(t2, .char), (t4, .int), (t6, .int), (t8, .int), (t10, .object RX10)] s := hK
  refine W.widen (k := 11) (n := 336) (Nat.le_of_ble_eq_true rfl) (Nat.le_of_ble_eq_true rfl) ?_
  refine va_astq hx hb hK hP hD hS 5 4 7 11 rfl rfl rfl rfl (vp_in_nI (n := 1) (by decide) (by decide)) dX4_init_83 (fun H locs hP hD hS => ?_)
  have hP : va_P (dC, dI) vwCl [(h0, .inr (5, [.ref q1, .ref q3, .ref q5, .ref q7, .ref q9, .ref q11, .int n])), (q1, .inl (t2, 6, .inl ((fun _ => 0)))), (q3, .inl (t4, 6, .inl ((fun _ => 0)))), (q5, .inl (t6, 6, .inl ((fun _ => 0)))), (q7, .inl (t8, 6, .inl f23)), (q9, .inl (t10, 6, .inr (.inr (.inr (.inr ((va_up f21 1 (some q24)))))))), (q11, .inr (11, [.ref q14, .int 0])), (q24, .inr (11, [.ref q27, .int 0]))] H := hP
  have hD : va_D A [(h0, .inr (5, [.ref q1, .ref q3, .ref q5, .ref q7, .ref q9, .ref q11, .int n])), (q1, .inl (t2, 6, .inl ((fun _ => 0)))), (q3, .inl (t4, 6, .inl ((fun _ => 0)))), (q5, .inl (t6, 6, .inl ((fun _ => 0)))), (q7, .inl (t8, 6, .inl f23)), (q9, .inl (t10, 6, .inr (.inr (.inr (.inr ((va_up f21 1 (some q24)))))))), (q11, .inr (11, [.ref q14, .int 0])), (q24, .inr (11, [.ref q27, .int 0]))] := hD
  generalize (va_up f21 1 (some q24)) = f28 at hP hD
  have hP := hP.sub (ws' := [(h0, .inr (5, [.ref q1, .ref q3, .ref q5, .ref q7, .ref q9, .ref q11, .int n])), (q1, .inl (t2, 6, .inl ((fun _ => 0)))), (q3, .inl (t4, 6, .inl ((fun _ => 0)))), (q5, .inl (t6, 6, .inl ((fun _ => 0)))), (q7, .inl (t8, 6, .inl f23)), (q9, .inl (t10, 6, .inr (.inr (.inr (.inr f28))))), (q11, .inr (11, [.ref q14, .int 0]))]) [0, 1, 2, 3, 4, 5, 6] rfl
  have hD := hD.sub (ws' := [(h0, .inr (5, [.ref q1, .ref q3, .ref q5, .ref q7, .ref q9, .ref q11, .int n])), (q1, .inl (t2, 6, .inl ((fun _ => 0)))), (q3, .inl (t4, 6, .inl ((fun _ => 0)))), (q5, .inl (t6, 6, .inl ((fun _ => 0)))), (q7, .inl (t8, 6, .inl f23)), (q9, .inl (t10, 6, .inr (.inr (.inr (.inr f28))))), (q11, .inr (11, [.ref q14, .int 0]))]) [0, 1, 2, 3, 4, 5, 6] (by decide) rfl
  refine lv_iinc (v := 2) (lv' := [(1, .int 2), (0, .ref h0)]) hx hb dX4_init_84 hl (k := 0) rfl (by decide) (by decide) rfl (fun ls hl => ?_)
  refine lv_goto (tgt := 58) hx hb dX4_init_87 (by decide) ?_
  refine lv_iload_n hx hb dX4_init_58 rfl (lv_at hl 0 rfl) ?_
  refine lv_bipush (v := 6) hx hb dX4_init_59 (by decide) ?_
  refine lv_icmp_ge (tgt := 90) hx hb dX4_init_61 (by decide) (fun c29 => False.elim (by revert c29; decide)) (fun c29 => ?_)
  refine lv_aload_n hx hb dX4_init_64 rfl (lv_at hl 1 rfl) ?_
  refine va_get (D := (dC, dI)) (ci := 5) (v := .ref q7) (C := RX4) (T := TX4) (N := 7) hx hb ht inGX4 hown hK hP 0 rfl rfl 3 (by decide) (ht _ q185) (fun _ h9 => h9) rfl dX4_init_65 ?_
  refine lv_iload_n hx hb dX4_init_68 rfl (lv_at hl 0 rfl) ?_
  refine lv_iconst (v := -1) hx hb dX4_init_69 (by decide) ?_
  refine va_iast hx hb hK hP hD hS 4 3 rfl rfl (vp_in_nI (n := 2) (by decide) (by decide)) dX4_init_70 (fun H locs hP hD hS => ?_)
  have hP : va_P (dC, dI) vwCl [(h0, .inr (5, [.ref q1, .ref q3, .ref q5, .ref q7, .ref q9, .ref q11, .int n])), (q1, .inl (t2, 6, .inl ((fun _ => 0)))), (q3, .inl (t4, 6, .inl ((fun _ => 0)))), (q5, .inl (t6, 6, .inl ((fun _ => 0)))), (q7, .inl (t8, 6, .inl ((upd f23 2 (-1))))), (q9, .inl (t10, 6, .inr (.inr (.inr (.inr f28))))), (q11, .inr (11, [.ref q14, .int 0]))] H := hP
  have hD : va_D A [(h0, .inr (5, [.ref q1, .ref q3, .ref q5, .ref q7, .ref q9, .ref q11, .int n])), (q1, .inl (t2, 6, .inl ((fun _ => 0)))), (q3, .inl (t4, 6, .inl ((fun _ => 0)))), (q5, .inl (t6, 6, .inl ((fun _ => 0)))), (q7, .inl (t8, 6, .inl ((upd f23 2 (-1))))), (q9, .inl (t10, 6, .inr (.inr (.inr (.inr f28))))), (q11, .inr (11, [.ref q14, .int 0]))] := hD
  generalize (upd f23 2 (-1)) = f30 at hP hD
  refine lv_aload_n hx hb dX4_init_71 rfl (lv_at hl 1 rfl) ?_
  refine va_get (D := (dC, dI)) (ci := 5) (v := .ref q9) (C := RX4) (T := TX4) (N := 7) hx hb ht inGX4 hown hK hP 0 rfl rfl 4 (by decide) (ht _ q186) (fun _ h9 => h9) rfl dX4_init_72 ?_
  refine lv_iload_n hx hb dX4_init_75 rfl (lv_at hl 0 rfl) ?_
  refine va_new (ci := 11) (fs := [.null, .int 0]) (C := RX10) (T := TX10) (N := 2) hx hb ht inGX10 tyX10 tyX10_ok hown (ht _ q179) (ht _ q160) (ht _ q124) hK hP hD hS hA rfl (fun j hj => by rcases (show j = 0 ∨ j = 1 by omega) with rfl | rfl <;> rfl) (Nat.le_of_ble_eq_true rfl) (Nat.le_of_ble_eq_true rfl) dX4_init_76 (fun q31 H hP hD hS => ?_)
  have hP : va_P (dC, dI) vwCl [(h0, .inr (5, [.ref q1, .ref q3, .ref q5, .ref q7, .ref q9, .ref q11, .int n])), (q1, .inl (t2, 6, .inl ((fun _ => 0)))), (q3, .inl (t4, 6, .inl ((fun _ => 0)))), (q5, .inl (t6, 6, .inl ((fun _ => 0)))), (q7, .inl (t8, 6, .inl f30)), (q9, .inl (t10, 6, .inr (.inr (.inr (.inr f28))))), (q11, .inr (11, [.ref q14, .int 0])), (q31, .inr (11, [.null, .int 0]))] H := hP
  have hD : va_D A [(h0, .inr (5, [.ref q1, .ref q3, .ref q5, .ref q7, .ref q9, .ref q11, .int n])), (q1, .inl (t2, 6, .inl ((fun _ => 0)))), (q3, .inl (t4, 6, .inl ((fun _ => 0)))), (q5, .inl (t6, 6, .inl ((fun _ => 0)))), (q7, .inl (t8, 6, .inl f30)), (q9, .inl (t10, 6, .inr (.inr (.inr (.inr f28))))), (q11, .inr (11, [.ref q14, .int 0])), (q31, .inr (11, [.null, .int 0]))] := hD
  refine W.widen (k := 12) (n := 338) (Nat.le_of_ble_eq_true rfl) (Nat.le_of_ble_eq_true rfl) ?_
  refine lv_dup hx hb dX4_init_79 rfl ?_
  have hPc := hP.sub (ws' := [(q31, .inr (11, [.null, .int 0]))]) [7] rfl
  have hDc := hD.sub (ws' := [(q31, .inr (11, [.null, .int 0]))]) [7] (by decide) rfl
  have hKc := hK.sub (tys' := []) [] rfl
  have hFc := va_free (wc := [(q31, .inr (11, [.null, .int 0]))]) hD hS hA [7] rfl
  refine va_callv (va_runIN (As := []) (rest := [.ref q31, .int 2, .ref q9]) ⟨hx, hb, hml, hown, ht⟩ (k_X10_init l d0 cO dC dI H.size q31 .null 0) (my_NI ht M_X10_init q162 rfl q181 (Nat.le_of_ble_eq_true rfl) (Nat.le_of_ble_eq_true rfl)) ⟨PRE.fb, fun U hU hW => ⟨rfl, PRE.mk' hE hS hFc hPc hKc hDc U hU hW⟩⟩ rfl rfl hl.1 rfl (lv_room (Nat.le_of_ble_eq_true rfl)) dX4_init_80 ⟨(Nat.le_of_ble_eq_true rfl), (Nat.le_of_ble_eq_true rfl)⟩) hS (fun q _ h => hFc q h) hFc (fun u32 t H1 locs htt hvm hw hB hz1 hk1 hS => ?_)
  try dsimp only at hw hB
  obtain ⟨q34, hP1, hK1, hD1⟩ := hB
  rw [htt] at hP1
  have hK1 := va_K.moved hvm.symm hK1
  obtain ⟨hP, hD⟩ := va_join (wr := [(h0, .inr (5, [.ref q1, .ref q3, .ref q5, .ref q7, .ref q9, .ref q11, .int n])), (q1, .inl (t2, 6, .inl ((fun _ => 0)))), (q3, .inl (t4, 6, .inl ((fun _ => 0)))), (q5, .inl (t6, 6, .inl ((fun _ => 0)))), (q7, .inl (t8, 6, .inl f30)), (q9, .inl (t10, 6, .inr (.inr (.inr (.inr f28))))), (q11, .inr (11, [.ref q14, .int 0]))]) (w1 := [(q31, .inr (11, [.ref q34, .int 0]))]) hP hD [7] [0, 1, 2, 3, 4, 5, 6] rfl rfl (by decide) (by decide) hk1 hFc hP1 hD1
  have hK := (hK.sub (tys' := [(t2, .char), (t4, .int), (t6, .int), (t8, .int), (t10, .object RX10)]) [0, 1, 2, 3, 4] rfl).app hK1
  generalize H1 = H at hP hS ⊢
  have hP : va_P (dC, dI) vwCl [(h0, .inr (5, [.ref q1, .ref q3, .ref q5, .ref q7, .ref q9, .ref q11, .int n])), (q1, .inl (t2, 6, .inl ((fun _ => 0)))), (q3, .inl (t4, 6, .inl ((fun _ => 0)))), (q5, .inl (t6, 6, .inl ((fun _ => 0)))), (q7, .inl (t8, 6, .inl f30)), (q9, .inl (t10, 6, .inr (.inr (.inr (.inr f28))))), (q11, .inr (11, [.ref q14, .int 0])), (q31, .inr (11, [.ref q34, .int 0]))] H := hP
  have hD : va_D A [(h0, .inr (5, [.ref q1, .ref q3, .ref q5, .ref q7, .ref q9, .ref q11, .int n])), (q1, .inl (t2, 6, .inl ((fun _ => 0)))), (q3, .inl (t4, 6, .inl ((fun _ => 0)))), (q5, .inl (t6, 6, .inl ((fun _ => 0)))), (q7, .inl (t8, 6, .inl f30)), (q9, .inl (t10, 6, .inr (.inr (.inr (.inr f28))))), (q11, .inr (11, [.ref q14, .int 0])), (q31, .inr (11, [.ref q34, .int 0]))] := hD
  have hK : va_K (dC, dI) vwCl [(t2, .char), (t4, .int), (t6, .int), (t8, .int), (t10, .object RX10)] s := hK
  refine W.widen (k := 13) (n := 438) (Nat.le_of_ble_eq_true rfl) (Nat.le_of_ble_eq_true rfl) ?_
  refine va_astq hx hb hK hP hD hS 5 4 7 11 rfl rfl rfl rfl (vp_in_nI (n := 2) (by decide) (by decide)) dX4_init_83 (fun H locs hP hD hS => ?_)
  have hP : va_P (dC, dI) vwCl [(h0, .inr (5, [.ref q1, .ref q3, .ref q5, .ref q7, .ref q9, .ref q11, .int n])), (q1, .inl (t2, 6, .inl ((fun _ => 0)))), (q3, .inl (t4, 6, .inl ((fun _ => 0)))), (q5, .inl (t6, 6, .inl ((fun _ => 0)))), (q7, .inl (t8, 6, .inl f30)), (q9, .inl (t10, 6, .inr (.inr (.inr (.inr ((va_up f28 2 (some q31)))))))), (q11, .inr (11, [.ref q14, .int 0])), (q31, .inr (11, [.ref q34, .int 0]))] H := hP
  have hD : va_D A [(h0, .inr (5, [.ref q1, .ref q3, .ref q5, .ref q7, .ref q9, .ref q11, .int n])), (q1, .inl (t2, 6, .inl ((fun _ => 0)))), (q3, .inl (t4, 6, .inl ((fun _ => 0)))), (q5, .inl (t6, 6, .inl ((fun _ => 0)))), (q7, .inl (t8, 6, .inl f30)), (q9, .inl (t10, 6, .inr (.inr (.inr (.inr ((va_up f28 2 (some q31)))))))), (q11, .inr (11, [.ref q14, .int 0])), (q31, .inr (11, [.ref q34, .int 0]))] := hD
  generalize (va_up f28 2 (some q31)) = f35 at hP hD
  have hP := hP.sub (ws' := [(h0, .inr (5, [.ref q1, .ref q3, .ref q5, .ref q7, .ref q9, .ref q11, .int n])), (q1, .inl (t2, 6, .inl ((fun _ => 0)))), (q3, .inl (t4, 6, .inl ((fun _ => 0)))), (q5, .inl (t6, 6, .inl ((fun _ => 0)))), (q7, .inl (t8, 6, .inl f30)), (q9, .inl (t10, 6, .inr (.inr (.inr (.inr f35))))), (q11, .inr (11, [.ref q14, .int 0]))]) [0, 1, 2, 3, 4, 5, 6] rfl
  have hD := hD.sub (ws' := [(h0, .inr (5, [.ref q1, .ref q3, .ref q5, .ref q7, .ref q9, .ref q11, .int n])), (q1, .inl (t2, 6, .inl ((fun _ => 0)))), (q3, .inl (t4, 6, .inl ((fun _ => 0)))), (q5, .inl (t6, 6, .inl ((fun _ => 0)))), (q7, .inl (t8, 6, .inl f30)), (q9, .inl (t10, 6, .inr (.inr (.inr (.inr f35))))), (q11, .inr (11, [.ref q14, .int 0]))]) [0, 1, 2, 3, 4, 5, 6] (by decide) rfl
  refine lv_iinc (v := 3) (lv' := [(1, .int 3), (0, .ref h0)]) hx hb dX4_init_84 hl (k := 0) rfl (by decide) (by decide) rfl (fun ls hl => ?_)
  refine lv_goto (tgt := 58) hx hb dX4_init_87 (by decide) ?_
  refine lv_iload_n hx hb dX4_init_58 rfl (lv_at hl 0 rfl) ?_
  refine lv_bipush (v := 6) hx hb dX4_init_59 (by decide) ?_
  refine lv_icmp_ge (tgt := 90) hx hb dX4_init_61 (by decide) (fun c36 => False.elim (by revert c36; decide)) (fun c36 => ?_)
  refine lv_aload_n hx hb dX4_init_64 rfl (lv_at hl 1 rfl) ?_
  refine va_get (D := (dC, dI)) (ci := 5) (v := .ref q7) (C := RX4) (T := TX4) (N := 7) hx hb ht inGX4 hown hK hP 0 rfl rfl 3 (by decide) (ht _ q185) (fun _ h9 => h9) rfl dX4_init_65 ?_
  refine lv_iload_n hx hb dX4_init_68 rfl (lv_at hl 0 rfl) ?_
  refine lv_iconst (v := -1) hx hb dX4_init_69 (by decide) ?_
  refine va_iast hx hb hK hP hD hS 4 3 rfl rfl (vp_in_nI (n := 3) (by decide) (by decide)) dX4_init_70 (fun H locs hP hD hS => ?_)
  have hP : va_P (dC, dI) vwCl [(h0, .inr (5, [.ref q1, .ref q3, .ref q5, .ref q7, .ref q9, .ref q11, .int n])), (q1, .inl (t2, 6, .inl ((fun _ => 0)))), (q3, .inl (t4, 6, .inl ((fun _ => 0)))), (q5, .inl (t6, 6, .inl ((fun _ => 0)))), (q7, .inl (t8, 6, .inl ((upd f30 3 (-1))))), (q9, .inl (t10, 6, .inr (.inr (.inr (.inr f35))))), (q11, .inr (11, [.ref q14, .int 0]))] H := hP
  have hD : va_D A [(h0, .inr (5, [.ref q1, .ref q3, .ref q5, .ref q7, .ref q9, .ref q11, .int n])), (q1, .inl (t2, 6, .inl ((fun _ => 0)))), (q3, .inl (t4, 6, .inl ((fun _ => 0)))), (q5, .inl (t6, 6, .inl ((fun _ => 0)))), (q7, .inl (t8, 6, .inl ((upd f30 3 (-1))))), (q9, .inl (t10, 6, .inr (.inr (.inr (.inr f35))))), (q11, .inr (11, [.ref q14, .int 0]))] := hD
  generalize (upd f30 3 (-1)) = f37 at hP hD
  refine lv_aload_n hx hb dX4_init_71 rfl (lv_at hl 1 rfl) ?_
  refine va_get (D := (dC, dI)) (ci := 5) (v := .ref q9) (C := RX4) (T := TX4) (N := 7) hx hb ht inGX4 hown hK hP 0 rfl rfl 4 (by decide) (ht _ q186) (fun _ h9 => h9) rfl dX4_init_72 ?_
  refine lv_iload_n hx hb dX4_init_75 rfl (lv_at hl 0 rfl) ?_
  refine va_new (ci := 11) (fs := [.null, .int 0]) (C := RX10) (T := TX10) (N := 2) hx hb ht inGX10 tyX10 tyX10_ok hown (ht _ q179) (ht _ q160) (ht _ q124) hK hP hD hS hA rfl (fun j hj => by rcases (show j = 0 ∨ j = 1 by omega) with rfl | rfl <;> rfl) (Nat.le_of_ble_eq_true rfl) (Nat.le_of_ble_eq_true rfl) dX4_init_76 (fun q38 H hP hD hS => ?_)
  have hP : va_P (dC, dI) vwCl [(h0, .inr (5, [.ref q1, .ref q3, .ref q5, .ref q7, .ref q9, .ref q11, .int n])), (q1, .inl (t2, 6, .inl ((fun _ => 0)))), (q3, .inl (t4, 6, .inl ((fun _ => 0)))), (q5, .inl (t6, 6, .inl ((fun _ => 0)))), (q7, .inl (t8, 6, .inl f37)), (q9, .inl (t10, 6, .inr (.inr (.inr (.inr f35))))), (q11, .inr (11, [.ref q14, .int 0])), (q38, .inr (11, [.null, .int 0]))] H := hP
  have hD : va_D A [(h0, .inr (5, [.ref q1, .ref q3, .ref q5, .ref q7, .ref q9, .ref q11, .int n])), (q1, .inl (t2, 6, .inl ((fun _ => 0)))), (q3, .inl (t4, 6, .inl ((fun _ => 0)))), (q5, .inl (t6, 6, .inl ((fun _ => 0)))), (q7, .inl (t8, 6, .inl f37)), (q9, .inl (t10, 6, .inr (.inr (.inr (.inr f35))))), (q11, .inr (11, [.ref q14, .int 0])), (q38, .inr (11, [.null, .int 0]))] := hD
  refine W.widen (k := 14) (n := 440) (Nat.le_of_ble_eq_true rfl) (Nat.le_of_ble_eq_true rfl) ?_
  refine lv_dup hx hb dX4_init_79 rfl ?_
  have hPc := hP.sub (ws' := [(q38, .inr (11, [.null, .int 0]))]) [7] rfl
  have hDc := hD.sub (ws' := [(q38, .inr (11, [.null, .int 0]))]) [7] (by decide) rfl
  have hKc := hK.sub (tys' := []) [] rfl
  have hFc := va_free (wc := [(q38, .inr (11, [.null, .int 0]))]) hD hS hA [7] rfl
  refine va_callv (va_runIN (As := []) (rest := [.ref q38, .int 3, .ref q9]) ⟨hx, hb, hml, hown, ht⟩ (k_X10_init l d0 cO dC dI H.size q38 .null 0) (my_NI ht M_X10_init q162 rfl q181 (Nat.le_of_ble_eq_true rfl) (Nat.le_of_ble_eq_true rfl)) ⟨PRE.fb, fun U hU hW => ⟨rfl, PRE.mk' hE hS hFc hPc hKc hDc U hU hW⟩⟩ rfl rfl hl.1 rfl (lv_room (Nat.le_of_ble_eq_true rfl)) dX4_init_80 ⟨(Nat.le_of_ble_eq_true rfl), (Nat.le_of_ble_eq_true rfl)⟩) hS (fun q _ h => hFc q h) hFc (fun u39 t H1 locs htt hvm hw hB hz1 hk1 hS => ?_)
  try dsimp only at hw hB
  obtain ⟨q41, hP1, hK1, hD1⟩ := hB
  rw [htt] at hP1
  have hK1 := va_K.moved hvm.symm hK1
  obtain ⟨hP, hD⟩ := va_join (wr := [(h0, .inr (5, [.ref q1, .ref q3, .ref q5, .ref q7, .ref q9, .ref q11, .int n])), (q1, .inl (t2, 6, .inl ((fun _ => 0)))), (q3, .inl (t4, 6, .inl ((fun _ => 0)))), (q5, .inl (t6, 6, .inl ((fun _ => 0)))), (q7, .inl (t8, 6, .inl f37)), (q9, .inl (t10, 6, .inr (.inr (.inr (.inr f35))))), (q11, .inr (11, [.ref q14, .int 0]))]) (w1 := [(q38, .inr (11, [.ref q41, .int 0]))]) hP hD [7] [0, 1, 2, 3, 4, 5, 6] rfl rfl (by decide) (by decide) hk1 hFc hP1 hD1
  have hK := (hK.sub (tys' := [(t2, .char), (t4, .int), (t6, .int), (t8, .int), (t10, .object RX10)]) [0, 1, 2, 3, 4] rfl).app hK1
  generalize H1 = H at hP hS ⊢
  have hP : va_P (dC, dI) vwCl [(h0, .inr (5, [.ref q1, .ref q3, .ref q5, .ref q7, .ref q9, .ref q11, .int n])), (q1, .inl (t2, 6, .inl ((fun _ => 0)))), (q3, .inl (t4, 6, .inl ((fun _ => 0)))), (q5, .inl (t6, 6, .inl ((fun _ => 0)))), (q7, .inl (t8, 6, .inl f37)), (q9, .inl (t10, 6, .inr (.inr (.inr (.inr f35))))), (q11, .inr (11, [.ref q14, .int 0])), (q38, .inr (11, [.ref q41, .int 0]))] H := hP
  have hD : va_D A [(h0, .inr (5, [.ref q1, .ref q3, .ref q5, .ref q7, .ref q9, .ref q11, .int n])), (q1, .inl (t2, 6, .inl ((fun _ => 0)))), (q3, .inl (t4, 6, .inl ((fun _ => 0)))), (q5, .inl (t6, 6, .inl ((fun _ => 0)))), (q7, .inl (t8, 6, .inl f37)), (q9, .inl (t10, 6, .inr (.inr (.inr (.inr f35))))), (q11, .inr (11, [.ref q14, .int 0])), (q38, .inr (11, [.ref q41, .int 0]))] := hD
  have hK : va_K (dC, dI) vwCl [(t2, .char), (t4, .int), (t6, .int), (t8, .int), (t10, .object RX10)] s := hK
  refine W.widen (k := 15) (n := 540) (Nat.le_of_ble_eq_true rfl) (Nat.le_of_ble_eq_true rfl) ?_
  refine va_astq hx hb hK hP hD hS 5 4 7 11 rfl rfl rfl rfl (vp_in_nI (n := 3) (by decide) (by decide)) dX4_init_83 (fun H locs hP hD hS => ?_)
  have hP : va_P (dC, dI) vwCl [(h0, .inr (5, [.ref q1, .ref q3, .ref q5, .ref q7, .ref q9, .ref q11, .int n])), (q1, .inl (t2, 6, .inl ((fun _ => 0)))), (q3, .inl (t4, 6, .inl ((fun _ => 0)))), (q5, .inl (t6, 6, .inl ((fun _ => 0)))), (q7, .inl (t8, 6, .inl f37)), (q9, .inl (t10, 6, .inr (.inr (.inr (.inr ((va_up f35 3 (some q38)))))))), (q11, .inr (11, [.ref q14, .int 0])), (q38, .inr (11, [.ref q41, .int 0]))] H := hP
  have hD : va_D A [(h0, .inr (5, [.ref q1, .ref q3, .ref q5, .ref q7, .ref q9, .ref q11, .int n])), (q1, .inl (t2, 6, .inl ((fun _ => 0)))), (q3, .inl (t4, 6, .inl ((fun _ => 0)))), (q5, .inl (t6, 6, .inl ((fun _ => 0)))), (q7, .inl (t8, 6, .inl f37)), (q9, .inl (t10, 6, .inr (.inr (.inr (.inr ((va_up f35 3 (some q38)))))))), (q11, .inr (11, [.ref q14, .int 0])), (q38, .inr (11, [.ref q41, .int 0]))] := hD
  generalize (va_up f35 3 (some q38)) = f42 at hP hD
  have hP := hP.sub (ws' := [(h0, .inr (5, [.ref q1, .ref q3, .ref q5, .ref q7, .ref q9, .ref q11, .int n])), (q1, .inl (t2, 6, .inl ((fun _ => 0)))), (q3, .inl (t4, 6, .inl ((fun _ => 0)))), (q5, .inl (t6, 6, .inl ((fun _ => 0)))), (q7, .inl (t8, 6, .inl f37)), (q9, .inl (t10, 6, .inr (.inr (.inr (.inr f42))))), (q11, .inr (11, [.ref q14, .int 0]))]) [0, 1, 2, 3, 4, 5, 6] rfl
  have hD := hD.sub (ws' := [(h0, .inr (5, [.ref q1, .ref q3, .ref q5, .ref q7, .ref q9, .ref q11, .int n])), (q1, .inl (t2, 6, .inl ((fun _ => 0)))), (q3, .inl (t4, 6, .inl ((fun _ => 0)))), (q5, .inl (t6, 6, .inl ((fun _ => 0)))), (q7, .inl (t8, 6, .inl f37)), (q9, .inl (t10, 6, .inr (.inr (.inr (.inr f42))))), (q11, .inr (11, [.ref q14, .int 0]))]) [0, 1, 2, 3, 4, 5, 6] (by decide) rfl
  refine lv_iinc (v := 4) (lv' := [(1, .int 4), (0, .ref h0)]) hx hb dX4_init_84 hl (k := 0) rfl (by decide) (by decide) rfl (fun ls hl => ?_)
  refine lv_goto (tgt := 58) hx hb dX4_init_87 (by decide) ?_
  refine lv_iload_n hx hb dX4_init_58 rfl (lv_at hl 0 rfl) ?_
  refine lv_bipush (v := 6) hx hb dX4_init_59 (by decide) ?_
  refine lv_icmp_ge (tgt := 90) hx hb dX4_init_61 (by decide) (fun c43 => False.elim (by revert c43; decide)) (fun c43 => ?_)
  refine lv_aload_n hx hb dX4_init_64 rfl (lv_at hl 1 rfl) ?_
  refine va_get (D := (dC, dI)) (ci := 5) (v := .ref q7) (C := RX4) (T := TX4) (N := 7) hx hb ht inGX4 hown hK hP 0 rfl rfl 3 (by decide) (ht _ q185) (fun _ h9 => h9) rfl dX4_init_65 ?_
  refine lv_iload_n hx hb dX4_init_68 rfl (lv_at hl 0 rfl) ?_
  refine lv_iconst (v := -1) hx hb dX4_init_69 (by decide) ?_
  refine va_iast hx hb hK hP hD hS 4 3 rfl rfl (vp_in_nI (n := 4) (by decide) (by decide)) dX4_init_70 (fun H locs hP hD hS => ?_)
  have hP : va_P (dC, dI) vwCl [(h0, .inr (5, [.ref q1, .ref q3, .ref q5, .ref q7, .ref q9, .ref q11, .int n])), (q1, .inl (t2, 6, .inl ((fun _ => 0)))), (q3, .inl (t4, 6, .inl ((fun _ => 0)))), (q5, .inl (t6, 6, .inl ((fun _ => 0)))), (q7, .inl (t8, 6, .inl ((upd f37 4 (-1))))), (q9, .inl (t10, 6, .inr (.inr (.inr (.inr f42))))), (q11, .inr (11, [.ref q14, .int 0]))] H := hP
  have hD : va_D A [(h0, .inr (5, [.ref q1, .ref q3, .ref q5, .ref q7, .ref q9, .ref q11, .int n])), (q1, .inl (t2, 6, .inl ((fun _ => 0)))), (q3, .inl (t4, 6, .inl ((fun _ => 0)))), (q5, .inl (t6, 6, .inl ((fun _ => 0)))), (q7, .inl (t8, 6, .inl ((upd f37 4 (-1))))), (q9, .inl (t10, 6, .inr (.inr (.inr (.inr f42))))), (q11, .inr (11, [.ref q14, .int 0]))] := hD
  generalize (upd f37 4 (-1)) = f44 at hP hD
  refine lv_aload_n hx hb dX4_init_71 rfl (lv_at hl 1 rfl) ?_
  refine va_get (D := (dC, dI)) (ci := 5) (v := .ref q9) (C := RX4) (T := TX4) (N := 7) hx hb ht inGX4 hown hK hP 0 rfl rfl 4 (by decide) (ht _ q186) (fun _ h9 => h9) rfl dX4_init_72 ?_
  refine lv_iload_n hx hb dX4_init_75 rfl (lv_at hl 0 rfl) ?_
  refine va_new (ci := 11) (fs := [.null, .int 0]) (C := RX10) (T := TX10) (N := 2) hx hb ht inGX10 tyX10 tyX10_ok hown (ht _ q179) (ht _ q160) (ht _ q124) hK hP hD hS hA rfl (fun j hj => by rcases (show j = 0 ∨ j = 1 by omega) with rfl | rfl <;> rfl) (Nat.le_of_ble_eq_true rfl) (Nat.le_of_ble_eq_true rfl) dX4_init_76 (fun q45 H hP hD hS => ?_)
  have hP : va_P (dC, dI) vwCl [(h0, .inr (5, [.ref q1, .ref q3, .ref q5, .ref q7, .ref q9, .ref q11, .int n])), (q1, .inl (t2, 6, .inl ((fun _ => 0)))), (q3, .inl (t4, 6, .inl ((fun _ => 0)))), (q5, .inl (t6, 6, .inl ((fun _ => 0)))), (q7, .inl (t8, 6, .inl f44)), (q9, .inl (t10, 6, .inr (.inr (.inr (.inr f42))))), (q11, .inr (11, [.ref q14, .int 0])), (q45, .inr (11, [.null, .int 0]))] H := hP
  have hD : va_D A [(h0, .inr (5, [.ref q1, .ref q3, .ref q5, .ref q7, .ref q9, .ref q11, .int n])), (q1, .inl (t2, 6, .inl ((fun _ => 0)))), (q3, .inl (t4, 6, .inl ((fun _ => 0)))), (q5, .inl (t6, 6, .inl ((fun _ => 0)))), (q7, .inl (t8, 6, .inl f44)), (q9, .inl (t10, 6, .inr (.inr (.inr (.inr f42))))), (q11, .inr (11, [.ref q14, .int 0])), (q45, .inr (11, [.null, .int 0]))] := hD
  refine W.widen (k := 16) (n := 542) (Nat.le_of_ble_eq_true rfl) (Nat.le_of_ble_eq_true rfl) ?_
  refine lv_dup hx hb dX4_init_79 rfl ?_
  have hPc := hP.sub (ws' := [(q45, .inr (11, [.null, .int 0]))]) [7] rfl
  have hDc := hD.sub (ws' := [(q45, .inr (11, [.null, .int 0]))]) [7] (by decide) rfl
  have hKc := hK.sub (tys' := []) [] rfl
  have hFc := va_free (wc := [(q45, .inr (11, [.null, .int 0]))]) hD hS hA [7] rfl
  refine va_callv (va_runIN (As := []) (rest := [.ref q45, .int 4, .ref q9]) ⟨hx, hb, hml, hown, ht⟩ (k_X10_init l d0 cO dC dI H.size q45 .null 0) (my_NI ht M_X10_init q162 rfl q181 (Nat.le_of_ble_eq_true rfl) (Nat.le_of_ble_eq_true rfl)) ⟨PRE.fb, fun U hU hW => ⟨rfl, PRE.mk' hE hS hFc hPc hKc hDc U hU hW⟩⟩ rfl rfl hl.1 rfl (lv_room (Nat.le_of_ble_eq_true rfl)) dX4_init_80 ⟨(Nat.le_of_ble_eq_true rfl), (Nat.le_of_ble_eq_true rfl)⟩) hS (fun q _ h => hFc q h) hFc (fun u46 t H1 locs htt hvm hw hB hz1 hk1 hS => ?_)
  try dsimp only at hw hB
  obtain ⟨q48, hP1, hK1, hD1⟩ := hB
  rw [htt] at hP1
  have hK1 := va_K.moved hvm.symm hK1
  obtain ⟨hP, hD⟩ := va_join (wr := [(h0, .inr (5, [.ref q1, .ref q3, .ref q5, .ref q7, .ref q9, .ref q11, .int n])), (q1, .inl (t2, 6, .inl ((fun _ => 0)))), (q3, .inl (t4, 6, .inl ((fun _ => 0)))), (q5, .inl (t6, 6, .inl ((fun _ => 0)))), (q7, .inl (t8, 6, .inl f44)), (q9, .inl (t10, 6, .inr (.inr (.inr (.inr f42))))), (q11, .inr (11, [.ref q14, .int 0]))]) (w1 := [(q45, .inr (11, [.ref q48, .int 0]))]) hP hD [7] [0, 1, 2, 3, 4, 5, 6] rfl rfl (by decide) (by decide) hk1 hFc hP1 hD1
  have hK := (hK.sub (tys' := [(t2, .char), (t4, .int), (t6, .int), (t8, .int), (t10, .object RX10)]) [0, 1, 2, 3, 4] rfl).app hK1
  generalize H1 = H at hP hS ⊢
  have hP : va_P (dC, dI) vwCl [(h0, .inr (5, [.ref q1, .ref q3, .ref q5, .ref q7, .ref q9, .ref q11, .int n])), (q1, .inl (t2, 6, .inl ((fun _ => 0)))), (q3, .inl (t4, 6, .inl ((fun _ => 0)))), (q5, .inl (t6, 6, .inl ((fun _ => 0)))), (q7, .inl (t8, 6, .inl f44)), (q9, .inl (t10, 6, .inr (.inr (.inr (.inr f42))))), (q11, .inr (11, [.ref q14, .int 0])), (q45, .inr (11, [.ref q48, .int 0]))] H := hP
  have hD : va_D A [(h0, .inr (5, [.ref q1, .ref q3, .ref q5, .ref q7, .ref q9, .ref q11, .int n])), (q1, .inl (t2, 6, .inl ((fun _ => 0)))), (q3, .inl (t4, 6, .inl ((fun _ => 0)))), (q5, .inl (t6, 6, .inl ((fun _ => 0)))), (q7, .inl (t8, 6, .inl f44)), (q9, .inl (t10, 6, .inr (.inr (.inr (.inr f42))))), (q11, .inr (11, [.ref q14, .int 0])), (q45, .inr (11, [.ref q48, .int 0]))] := hD
  have hK : va_K (dC, dI) vwCl [(t2, .char), (t4, .int), (t6, .int), (t8, .int), (t10, .object RX10)] s := hK
  refine W.widen (k := 17) (n := 642) (Nat.le_of_ble_eq_true rfl) (Nat.le_of_ble_eq_true rfl) ?_
  refine va_astq hx hb hK hP hD hS 5 4 7 11 rfl rfl rfl rfl (vp_in_nI (n := 4) (by decide) (by decide)) dX4_init_83 (fun H locs hP hD hS => ?_)
  have hP : va_P (dC, dI) vwCl [(h0, .inr (5, [.ref q1, .ref q3, .ref q5, .ref q7, .ref q9, .ref q11, .int n])), (q1, .inl (t2, 6, .inl ((fun _ => 0)))), (q3, .inl (t4, 6, .inl ((fun _ => 0)))), (q5, .inl (t6, 6, .inl ((fun _ => 0)))), (q7, .inl (t8, 6, .inl f44)), (q9, .inl (t10, 6, .inr (.inr (.inr (.inr ((va_up f42 4 (some q45)))))))), (q11, .inr (11, [.ref q14, .int 0])), (q45, .inr (11, [.ref q48, .int 0]))] H := hP
  have hD : va_D A [(h0, .inr (5, [.ref q1, .ref q3, .ref q5, .ref q7, .ref q9, .ref q11, .int n])), (q1, .inl (t2, 6, .inl ((fun _ => 0)))), (q3, .inl (t4, 6, .inl ((fun _ => 0)))), (q5, .inl (t6, 6, .inl ((fun _ => 0)))), (q7, .inl (t8, 6, .inl f44)), (q9, .inl (t10, 6, .inr (.inr (.inr (.inr ((va_up f42 4 (some q45)))))))), (q11, .inr (11, [.ref q14, .int 0])), (q45, .inr (11, [.ref q48, .int 0]))] := hD
  generalize (va_up f42 4 (some q45)) = f49 at hP hD
  have hP := hP.sub (ws' := [(h0, .inr (5, [.ref q1, .ref q3, .ref q5, .ref q7, .ref q9, .ref q11, .int n])), (q1, .inl (t2, 6, .inl ((fun _ => 0)))), (q3, .inl (t4, 6, .inl ((fun _ => 0)))), (q5, .inl (t6, 6, .inl ((fun _ => 0)))), (q7, .inl (t8, 6, .inl f44)), (q9, .inl (t10, 6, .inr (.inr (.inr (.inr f49))))), (q11, .inr (11, [.ref q14, .int 0]))]) [0, 1, 2, 3, 4, 5, 6] rfl
  have hD := hD.sub (ws' := [(h0, .inr (5, [.ref q1, .ref q3, .ref q5, .ref q7, .ref q9, .ref q11, .int n])), (q1, .inl (t2, 6, .inl ((fun _ => 0)))), (q3, .inl (t4, 6, .inl ((fun _ => 0)))), (q5, .inl (t6, 6, .inl ((fun _ => 0)))), (q7, .inl (t8, 6, .inl f44)), (q9, .inl (t10, 6, .inr (.inr (.inr (.inr f49))))), (q11, .inr (11, [.ref q14, .int 0]))]) [0, 1, 2, 3, 4, 5, 6] (by decide) rfl
  refine lv_iinc (v := 5) (lv' := [(1, .int 5), (0, .ref h0)]) hx hb dX4_init_84 hl (k := 0) rfl (by decide) (by decide) rfl (fun ls hl => ?_)
  refine lv_goto (tgt := 58) hx hb dX4_init_87 (by decide) ?_
  refine lv_iload_n hx hb dX4_init_58 rfl (lv_at hl 0 rfl) ?_
  refine lv_bipush (v := 6) hx hb dX4_init_59 (by decide) ?_
  refine lv_icmp_ge (tgt := 90) hx hb dX4_init_61 (by decide) (fun c50 => False.elim (by revert c50; decide)) (fun c50 => ?_)
  refine lv_aload_n hx hb dX4_init_64 rfl (lv_at hl 1 rfl) ?_
  refine va_get (D := (dC, dI)) (ci := 5) (v := .ref q7) (C := RX4) (T := TX4) (N := 7) hx hb ht inGX4 hown hK hP 0 rfl rfl 3 (by decide) (ht _ q185) (fun _ h9 => h9) rfl dX4_init_65 ?_
  refine lv_iload_n hx hb dX4_init_68 rfl (lv_at hl 0 rfl) ?_
  refine lv_iconst (v := -1) hx hb dX4_init_69 (by decide) ?_
  refine va_iast hx hb hK hP hD hS 4 3 rfl rfl (vp_in_nI (n := 5) (by decide) (by decide)) dX4_init_70 (fun H locs hP hD hS => ?_)
  have hP : va_P (dC, dI) vwCl [(h0, .inr (5, [.ref q1, .ref q3, .ref q5, .ref q7, .ref q9, .ref q11, .int n])), (q1, .inl (t2, 6, .inl ((fun _ => 0)))), (q3, .inl (t4, 6, .inl ((fun _ => 0)))), (q5, .inl (t6, 6, .inl ((fun _ => 0)))), (q7, .inl (t8, 6, .inl ((upd f44 5 (-1))))), (q9, .inl (t10, 6, .inr (.inr (.inr (.inr f49))))), (q11, .inr (11, [.ref q14, .int 0]))] H := hP
  have hD : va_D A [(h0, .inr (5, [.ref q1, .ref q3, .ref q5, .ref q7, .ref q9, .ref q11, .int n])), (q1, .inl (t2, 6, .inl ((fun _ => 0)))), (q3, .inl (t4, 6, .inl ((fun _ => 0)))), (q5, .inl (t6, 6, .inl ((fun _ => 0)))), (q7, .inl (t8, 6, .inl ((upd f44 5 (-1))))), (q9, .inl (t10, 6, .inr (.inr (.inr (.inr f49))))), (q11, .inr (11, [.ref q14, .int 0]))] := hD
  generalize (upd f44 5 (-1)) = f51 at hP hD
  refine lv_aload_n hx hb dX4_init_71 rfl (lv_at hl 1 rfl) ?_
  refine va_get (D := (dC, dI)) (ci := 5) (v := .ref q9) (C := RX4) (T := TX4) (N := 7) hx hb ht inGX4 hown hK hP 0 rfl rfl 4 (by decide) (ht _ q186) (fun _ h9 => h9) rfl dX4_init_72 ?_
  refine lv_iload_n hx hb dX4_init_75 rfl (lv_at hl 0 rfl) ?_
  refine va_new (ci := 11) (fs := [.null, .int 0]) (C := RX10) (T := TX10) (N := 2) hx hb ht inGX10 tyX10 tyX10_ok hown (ht _ q179) (ht _ q160) (ht _ q124) hK hP hD hS hA rfl (fun j hj => by rcases (show j = 0 ∨ j = 1 by omega) with rfl | rfl <;> rfl) (Nat.le_of_ble_eq_true rfl) (Nat.le_of_ble_eq_true rfl) dX4_init_76 (fun q52 H hP hD hS => ?_)
  have hP : va_P (dC, dI) vwCl [(h0, .inr (5, [.ref q1, .ref q3, .ref q5, .ref q7, .ref q9, .ref q11, .int n])), (q1, .inl (t2, 6, .inl ((fun _ => 0)))), (q3, .inl (t4, 6, .inl ((fun _ => 0)))), (q5, .inl (t6, 6, .inl ((fun _ => 0)))), (q7, .inl (t8, 6, .inl f51)), (q9, .inl (t10, 6, .inr (.inr (.inr (.inr f49))))), (q11, .inr (11, [.ref q14, .int 0])), (q52, .inr (11, [.null, .int 0]))] H := hP
  have hD : va_D A [(h0, .inr (5, [.ref q1, .ref q3, .ref q5, .ref q7, .ref q9, .ref q11, .int n])), (q1, .inl (t2, 6, .inl ((fun _ => 0)))), (q3, .inl (t4, 6, .inl ((fun _ => 0)))), (q5, .inl (t6, 6, .inl ((fun _ => 0)))), (q7, .inl (t8, 6, .inl f51)), (q9, .inl (t10, 6, .inr (.inr (.inr (.inr f49))))), (q11, .inr (11, [.ref q14, .int 0])), (q52, .inr (11, [.null, .int 0]))] := hD
  refine W.widen (k := 18) (n := 644) (Nat.le_of_ble_eq_true rfl) (Nat.le_of_ble_eq_true rfl) ?_
  refine lv_dup hx hb dX4_init_79 rfl ?_
  have hPc := hP.sub (ws' := [(q52, .inr (11, [.null, .int 0]))]) [7] rfl
  have hDc := hD.sub (ws' := [(q52, .inr (11, [.null, .int 0]))]) [7] (by decide) rfl
  have hKc := hK.sub (tys' := []) [] rfl
  have hFc := va_free (wc := [(q52, .inr (11, [.null, .int 0]))]) hD hS hA [7] rfl
  refine va_callv (va_runIN (As := []) (rest := [.ref q52, .int 5, .ref q9]) ⟨hx, hb, hml, hown, ht⟩ (k_X10_init l d0 cO dC dI H.size q52 .null 0) (my_NI ht M_X10_init q162 rfl q181 (Nat.le_of_ble_eq_true rfl) (Nat.le_of_ble_eq_true rfl)) ⟨PRE.fb, fun U hU hW => ⟨rfl, PRE.mk' hE hS hFc hPc hKc hDc U hU hW⟩⟩ rfl rfl hl.1 rfl (lv_room (Nat.le_of_ble_eq_true rfl)) dX4_init_80 ⟨(Nat.le_of_ble_eq_true rfl), (Nat.le_of_ble_eq_true rfl)⟩) hS (fun q _ h => hFc q h) hFc (fun u53 t H1 locs htt hvm hw hB hz1 hk1 hS => ?_)
  try dsimp only at hw hB
  obtain ⟨q55, hP1, hK1, hD1⟩ := hB
  rw [htt] at hP1
  have hK1 := va_K.moved hvm.symm hK1
  obtain ⟨hP, hD⟩ := va_join (wr := [(h0, .inr (5, [.ref q1, .ref q3, .ref q5, .ref q7, .ref q9, .ref q11, .int n])), (q1, .inl (t2, 6, .inl ((fun _ => 0)))), (q3, .inl (t4, 6, .inl ((fun _ => 0)))), (q5, .inl (t6, 6, .inl ((fun _ => 0)))), (q7, .inl (t8, 6, .inl f51)), (q9, .inl (t10, 6, .inr (.inr (.inr (.inr f49))))), (q11, .inr (11, [.ref q14, .int 0]))]) (w1 := [(q52, .inr (11, [.ref q55, .int 0]))]) hP hD [7] [0, 1, 2, 3, 4, 5, 6] rfl rfl (by decide) (by decide) hk1 hFc hP1 hD1
  have hK := (hK.sub (tys' := [(t2, .char), (t4, .int), (t6, .int), (t8, .int), (t10, .object RX10)]) [0, 1, 2, 3, 4] rfl).app hK1
  generalize H1 = H at hP hS ⊢
  have hP : va_P (dC, dI) vwCl [(h0, .inr (5, [.ref q1, .ref q3, .ref q5, .ref q7, .ref q9, .ref q11, .int n])), (q1, .inl (t2, 6, .inl ((fun _ => 0)))), (q3, .inl (t4, 6, .inl ((fun _ => 0)))), (q5, .inl (t6, 6, .inl ((fun _ => 0)))), (q7, .inl (t8, 6, .inl f51)), (q9, .inl (t10, 6, .inr (.inr (.inr (.inr f49))))), (q11, .inr (11, [.ref q14, .int 0])), (q52, .inr (11, [.ref q55, .int 0]))] H := hP
  have hD : va_D A [(h0, .inr (5, [.ref q1, .ref q3, .ref q5, .ref q7, .ref q9, .ref q11, .int n])), (q1, .inl (t2, 6, .inl ((fun _ => 0)))), (q3, .inl (t4, 6, .inl ((fun _ => 0)))), (q5, .inl (t6, 6, .inl ((fun _ => 0)))), (q7, .inl (t8, 6, .inl f51)), (q9, .inl (t10, 6, .inr (.inr (.inr (.inr f49))))), (q11, .inr (11, [.ref q14, .int 0])), (q52, .inr (11, [.ref q55, .int 0]))] := hD
  have hK : va_K (dC, dI) vwCl [(t2, .char), (t4, .int), (t6, .int), (t8, .int), (t10, .object RX10)] s := hK
  refine W.widen (k := 19) (n := 744) (Nat.le_of_ble_eq_true rfl) (Nat.le_of_ble_eq_true rfl) ?_
  refine va_astq hx hb hK hP hD hS 5 4 7 11 rfl rfl rfl rfl (vp_in_nI (n := 5) (by decide) (by decide)) dX4_init_83 (fun H locs hP hD hS => ?_)
  have hP : va_P (dC, dI) vwCl [(h0, .inr (5, [.ref q1, .ref q3, .ref q5, .ref q7, .ref q9, .ref q11, .int n])), (q1, .inl (t2, 6, .inl ((fun _ => 0)))), (q3, .inl (t4, 6, .inl ((fun _ => 0)))), (q5, .inl (t6, 6, .inl ((fun _ => 0)))), (q7, .inl (t8, 6, .inl f51)), (q9, .inl (t10, 6, .inr (.inr (.inr (.inr ((va_up f49 5 (some q52)))))))), (q11, .inr (11, [.ref q14, .int 0])), (q52, .inr (11, [.ref q55, .int 0]))] H := hP
  have hD : va_D A [(h0, .inr (5, [.ref q1, .ref q3, .ref q5, .ref q7, .ref q9, .ref q11, .int n])), (q1, .inl (t2, 6, .inl ((fun _ => 0)))), (q3, .inl (t4, 6, .inl ((fun _ => 0)))), (q5, .inl (t6, 6, .inl ((fun _ => 0)))), (q7, .inl (t8, 6, .inl f51)), (q9, .inl (t10, 6, .inr (.inr (.inr (.inr ((va_up f49 5 (some q52)))))))), (q11, .inr (11, [.ref q14, .int 0])), (q52, .inr (11, [.ref q55, .int 0]))] := hD
  generalize (va_up f49 5 (some q52)) = f56 at hP hD
  have hP := hP.sub (ws' := [(h0, .inr (5, [.ref q1, .ref q3, .ref q5, .ref q7, .ref q9, .ref q11, .int n])), (q1, .inl (t2, 6, .inl ((fun _ => 0)))), (q3, .inl (t4, 6, .inl ((fun _ => 0)))), (q5, .inl (t6, 6, .inl ((fun _ => 0)))), (q7, .inl (t8, 6, .inl f51)), (q9, .inl (t10, 6, .inr (.inr (.inr (.inr f56))))), (q11, .inr (11, [.ref q14, .int 0]))]) [0, 1, 2, 3, 4, 5, 6] rfl
  have hD := hD.sub (ws' := [(h0, .inr (5, [.ref q1, .ref q3, .ref q5, .ref q7, .ref q9, .ref q11, .int n])), (q1, .inl (t2, 6, .inl ((fun _ => 0)))), (q3, .inl (t4, 6, .inl ((fun _ => 0)))), (q5, .inl (t6, 6, .inl ((fun _ => 0)))), (q7, .inl (t8, 6, .inl f51)), (q9, .inl (t10, 6, .inr (.inr (.inr (.inr f56))))), (q11, .inr (11, [.ref q14, .int 0]))]) [0, 1, 2, 3, 4, 5, 6] (by decide) rfl
  refine lv_iinc (v := 6) (lv' := [(1, .int 6), (0, .ref h0)]) hx hb dX4_init_84 hl (k := 0) rfl (by decide) (by decide) rfl (fun ls hl => ?_)
  refine lv_goto (tgt := 58) hx hb dX4_init_87 (by decide) ?_
  refine lv_iload_n hx hb dX4_init_58 rfl (lv_at hl 0 rfl) ?_
  refine lv_bipush (v := 6) hx hb dX4_init_59 (by decide) ?_
  refine lv_icmp_ge (tgt := 90) hx hb dX4_init_61 (by decide) (fun c57 => ?_) (fun c57 => False.elim (by revert c57; decide))
  have hP9 := hP.sub (ws' := [(h0, .inr (5, [.ref q1, .ref q3, .ref q5, .ref q7, .ref q9, .ref q11, .int n])), (q1, .inl (t2, 6, .inl ((fun _ => 0)))), (q3, .inl (t4, 6, .inl ((fun _ => 0))))]) [0, 1, 2] rfl
  have hD9 := hD.sub (ws' := [(h0, .inr (5, [.ref q1, .ref q3, .ref q5, .ref q7, .ref q9, .ref q11, .int n])), (q1, .inl (t2, 6, .inl ((fun _ => 0)))), (q3, .inl (t4, 6, .inl ((fun _ => 0))))]) [0, 1, 2] (by decide) rfl
  have hK9 := hK.sub (tys' := [(t2, .char), (t4, .int)]) [0, 1] rfl
  refine W.widen (k := 19) (n := 744) (Nat.le_of_ble_eq_true rfl) (Nat.le_of_ble_eq_true rfl) ?_
  exact W.vret hx hb hr (fun t ht9 hW9 => ⟨⟨(), rfl, trivial, ⟨q1, q3, .ref q5, .ref q7, .ref q9, .ref q11, t2, t4, POW.mk' ht9 hW9.alike hP9 hK9 hD9⟩⟩, hS.F ht9⟩) hS.2.2 dX4_init_90
set_option maxHeartbeats 4000000 in
set_option maxRecDepth 100000 in
theorem k_X3_init (l : Launch) (d0 : Nat) (cO : ClassId) (dC : Nat → ClassId) (dI : Nat → Nat → Nat) (sz : Nat) (h0 : Nat) (i0 : Int32) (v1 v2 v3 v4 v5 v6 v7 : Value) (a1 : Int32) (a2 a3 : Nat) : Met l yX3_init (cn yX3_init cX3_init 5 none) (rmd 4 45 1506) (va_Pc [.ref h0, .int a1, .ref a2, .ref a3] (PRE d0 cO (dC, dI) (va_A [(h0, .inr (4, [.int i0, v1, v2, v3, v4, v5, v6, v7]))] sz) [(h0, .inr (4, [.int i0, v1, v2, v3, v4, v5, v6, v7]))] [] sz)) (va_Qv (fun (_ : Unit) => True) (fun (_ : Unit) (t : State) => ∃ w3 : Value, ∃ w4 : Value, ∃ w5 : Value, ∃ w6 : Value, ∃ ak : Nat, POW (dC, dI) (va_A [(h0, .inr (4, [.int i0, v1, v2, v3, v4, v5, v6, v7]))] sz) [(h0, .inr (4, [.int a1, .ref a2, .ref a3, w3, w4, w5, w6, .ref ak])), (ak, .inr (0, [.int 0, .ref d0, .int 0]))] [] t) (va_A [(h0, .inr (4, [.int i0, v1, v2, v3, v4, v5, v6, v7]))] sz)) 45 1506 (va_A [(h0, .inr (4, [.int i0, v1, v2, v3, v4, v5, v6, v7]))] sz) := by
  refine Met.ofW (cc := cX3_init) (maxL := 5) (ret := none) (by decide) rfl ?_
  intro p e s m args below meth c s₁ B hml hv
  obtain ⟨rfl, hsz, hE, hP, hK, hD0⟩ := hv
  have hx := B.exec
  have hb := B.bytes
  have hr := B.returns
  have hts := atoms_spec (ws := cn yX3_init cX3_init 5 none) B.pre
  have ht : ∀ w ∈ GT, w.before _ s = true := fun w h => hts w (List.mem_cons_of_mem _ h)
  have hown : s.vm.findClass RX3 = some m.cls := findClass_of_methodNamed B.named
  have hlocks := B.notSynchronized
  have hin : meth.name = "<init>" := (name_of_methodNamed B.named B.method).1
  subst hsz
  have hD := hD0.self (sz := s.heap.size)
  generalize hAe : va_A [(h0, .inr (4, [.int i0, v1, v2, v3, v4, v5, v6, v7]))] s.heap.size = A at hD hE ⊢
  have hA : ∀ q : Nat, s.heap.size ≤ q → A q := fun q h => by rw [← hAe]; exact Or.inr h
  obtain ⟨H, hH0⟩ : ∃ H, s.heap = H := ⟨_, rfl⟩
  have hS : va_S A s.heap H [] := by rw [← hH0]; exact va_S.rf
  rw [hH0] at hP
  have hl := lv_entry ([.ref h0, .int a1, .ref a2, .ref a3]) (n := 5) (Nat.le_of_ble_eq_true rfl)
  rw [lg_entry_eq]
  generalize (lg_sl ([.ref h0, .int a1, .ref a2, .ref a3]) ++ List.replicate (5 - (lg_sl ([.ref h0, .int a1, .ref a2, .ref a3])).length) Slot.unset).toArray = ls at hl ⊢
  have hl : lv_has ls 5 [(0, .ref h0), (1, .int a1), (2, .ref a2), (3, .ref a3)] := hl
  rw [hH0]
  refine lv_aload_n hx hb dX3_init_0 rfl (lv_at hl 0 rfl) ?_
  refine W.objInit hx hb hown (ht _ q250) (ht _ q157) (ht _ q158) rfl (by rw [hml]; exact hl.1) rfl dX3_init_1 (Nat.le_of_ble_eq_true rfl) (Nat.le_of_ble_eq_true rfl) ?_
  refine W.eq (g2 := F0 m 4 ls []) rfl ?_
  refine lv_aload_n hx hb dX3_init_4 rfl (lv_at hl 0 rfl) ?_
  refine lv_bipush (v := 6) hx hb dX3_init_5 (by decide) ?_
  refine va_newq (C := RX2) (N' := 6) hx hb hown (ht _ q251) (hE.1.2.1) hK hP hD hS hA (by decide) (by decide) (by decide) (Nat.le_of_ble_eq_true rfl) (Nat.le_of_ble_eq_true rfl) dX3_init_7 (fun q1 t2 H hK hP hD hS => ?_)
  have hK : va_K (dC, dI) vwCl [(t2, .object RX2)] s := hK
  have hP : va_P (dC, dI) vwCl [(h0, .inr (4, [.int i0, v1, v2, v3, v4, v5, v6, v7])), (q1, .inl (t2, 6, .inr (.inr (.inr (.inr ((fun _ => none)))))))] H := hP
  have hD : va_D A [(h0, .inr (4, [.int i0, v1, v2, v3, v4, v5, v6, v7])), (q1, .inl (t2, 6, .inr (.inr (.inr (.inr ((fun _ => none)))))))] := hD
  refine W.widen (k := 1) (n := 6) (Nat.le_of_ble_eq_true rfl) (Nat.le_of_ble_eq_true rfl) ?_
  refine va_putF (D := (dC, dI)) (ci := 4) (v := .ref q1) (ty := .array (.object "ToolPlex$Copy")) (C := RX3) (T := TX3) (N := 8) hx hb ht inGX3 tyX3 tyX3_ok nmX3 hown hK hP hD hS 0 rfl rfl 3 (by decide) (ht _ q315) (fun _ h9 => h9) rfl hin rfl (by decide +kernel) rfl rfl (Nat.le_of_ble_eq_true rfl) dX3_init_10 (fun H locs hP hD hS => ?_)
  have hP : va_P (dC, dI) vwCl [(h0, .inr (4, [.int i0, v1, v2, .ref q1, v4, v5, v6, v7])), (q1, .inl (t2, 6, .inr (.inr (.inr (.inr ((fun _ => none)))))))] H := hP
  have hD : va_D A [(h0, .inr (4, [.int i0, v1, v2, .ref q1, v4, v5, v6, v7])), (q1, .inl (t2, 6, .inr (.inr (.inr (.inr ((fun _ => none)))))))] := hD
  refine lv_aload_n hx hb dX3_init_13 rfl (lv_at hl 0 rfl) ?_
  refine va_new (ci := 3) (fs := [.null, .null, .null, .int 0, .int 0, .int 0, .int 0]) (C := RX2) (T := TX2) (N := 7) hx hb ht inGX2 tyX2 tyX2_ok hown (ht _ q251) (ht _ q253) (ht _ q131) hK hP hD hS hA rfl (fun j hj => by rcases (show j = 0 ∨ j = 1 ∨ j = 2 ∨ j = 3 ∨ j = 4 ∨ j = 5 ∨ j = 6 by omega) with rfl | rfl | rfl | rfl | rfl | rfl | rfl <;> rfl) (Nat.le_of_ble_eq_true rfl) (Nat.le_of_ble_eq_true rfl) dX3_init_14 (fun q3 H hP hD hS => ?_)
  have hP : va_P (dC, dI) vwCl [(h0, .inr (4, [.int i0, v1, v2, .ref q1, v4, v5, v6, v7])), (q1, .inl (t2, 6, .inr (.inr (.inr (.inr ((fun _ => none))))))), (q3, .inr (3, [.null, .null, .null, .int 0, .int 0, .int 0, .int 0]))] H := hP
  have hD : va_D A [(h0, .inr (4, [.int i0, v1, v2, .ref q1, v4, v5, v6, v7])), (q1, .inl (t2, 6, .inr (.inr (.inr (.inr ((fun _ => none))))))), (q3, .inr (3, [.null, .null, .null, .int 0, .int 0, .int 0, .int 0]))] := hD
  refine W.widen (k := 2) (n := 13) (Nat.le_of_ble_eq_true rfl) (Nat.le_of_ble_eq_true rfl) ?_
  refine lv_dup hx hb dX3_init_17 rfl ?_
  have hPc := hP.sub (ws' := [(q3, .inr (3, [.null, .null, .null, .int 0, .int 0, .int 0, .int 0]))]) [2] rfl
  have hDc := hD.sub (ws' := [(q3, .inr (3, [.null, .null, .null, .int 0, .int 0, .int 0, .int 0]))]) [2] (by decide) rfl
  have hKc := hK.sub (tys' := []) [] rfl
  have hFc := va_free (wc := [(q3, .inr (3, [.null, .null, .null, .int 0, .int 0, .int 0, .int 0]))]) hD hS hA [2] rfl
  refine va_callv (va_runIN (As := []) (rest := [.ref q3, .ref h0]) ⟨hx, hb, hml, hown, ht⟩ (k_X2_init l d0 cO dC dI H.size q3 .null .null .null 0 0 0 0) (my_NI ht M_X2_init q255 rfl q254 (Nat.le_of_ble_eq_true rfl) (Nat.le_of_ble_eq_true rfl)) ⟨PRE.fb, fun U hU hW => ⟨rfl, PRE.mk' hE hS hFc hPc hKc hDc U hU hW⟩⟩ rfl rfl hl.1 rfl (lv_room (Nat.le_of_ble_eq_true rfl)) dX3_init_18 ⟨(Nat.le_of_ble_eq_true rfl), (Nat.le_of_ble_eq_true rfl)⟩) hS (fun q _ h => hFc q h) hFc (fun u4 t H1 locs htt hvm hw hB hz1 hk1 hS => ?_)
  try dsimp only at hw hB
  obtain ⟨w06, w17, w28, hP1, hK1, hD1⟩ := hB
  rw [htt] at hP1
  have hK1 := va_K.moved hvm.symm hK1
  obtain ⟨hP, hD⟩ := va_join (wr := [(h0, .inr (4, [.int i0, v1, v2, .ref q1, v4, v5, v6, v7])), (q1, .inl (t2, 6, .inr (.inr (.inr (.inr ((fun _ => none)))))))]) (w1 := [(q3, .inr (3, [w06, w17, w28, .int 0, .int ((-1)), .int ((-1)), .int ((-1))]))]) hP hD [2] [0, 1] rfl rfl (by decide) (by decide) hk1 hFc hP1 hD1
  have hK := (hK.sub (tys' := [(t2, .object RX2)]) [0] rfl).app hK1
  generalize H1 = H at hP hS ⊢
  have hP : va_P (dC, dI) vwCl [(h0, .inr (4, [.int i0, v1, v2, .ref q1, v4, v5, v6, v7])), (q1, .inl (t2, 6, .inr (.inr (.inr (.inr ((fun _ => none))))))), (q3, .inr (3, [w06, w17, w28, .int 0, .int ((-1)), .int ((-1)), .int ((-1))]))] H := hP
  have hD : va_D A [(h0, .inr (4, [.int i0, v1, v2, .ref q1, v4, v5, v6, v7])), (q1, .inl (t2, 6, .inr (.inr (.inr (.inr ((fun _ => none))))))), (q3, .inr (3, [w06, w17, w28, .int 0, .int ((-1)), .int ((-1)), .int ((-1))]))] := hD
  have hK : va_K (dC, dI) vwCl [(t2, .object RX2)] s := hK
  refine W.widen (k := 6) (n := 217) (Nat.le_of_ble_eq_true rfl) (Nat.le_of_ble_eq_true rfl) ?_
  refine va_putF (D := (dC, dI)) (ci := 4) (v := .ref q3) (ty := .object "ToolPlex$Copy") (C := RX3) (T := TX3) (N := 8) hx hb ht inGX3 tyX3 tyX3_ok nmX3 hown hK hP hD hS 0 rfl rfl 4 (by decide) (ht _ q316) (fun _ h9 => h9) rfl hin rfl (by decide +kernel) rfl rfl (Nat.le_of_ble_eq_true rfl) dX3_init_21 (fun H locs hP hD hS => ?_)
  have hP : va_P (dC, dI) vwCl [(h0, .inr (4, [.int i0, v1, v2, .ref q1, .ref q3, v5, v6, v7])), (q1, .inl (t2, 6, .inr (.inr (.inr (.inr ((fun _ => none))))))), (q3, .inr (3, [w06, w17, w28, .int 0, .int ((-1)), .int ((-1)), .int ((-1))]))] H := hP
  have hD : va_D A [(h0, .inr (4, [.int i0, v1, v2, .ref q1, .ref q3, v5, v6, v7])), (q1, .inl (t2, 6, .inr (.inr (.inr (.inr ((fun _ => none))))))), (q3, .inr (3, [w06, w17, w28, .int 0, .int ((-1)), .int ((-1)), .int ((-1))]))] := hD
  refine lv_aload_n hx hb dX3_init_24 rfl (lv_at hl 0 rfl) ?_
  refine lv_bipush (v := 6) hx hb dX3_init_25 (by decide) ?_
  refine va_newq (C := RX5) (N' := 6) hx hb hown (ht _ q295) (hE.1.2.2.1) hK hP hD hS hA (by decide) (by decide) (by decide) (Nat.le_of_ble_eq_true rfl) (Nat.le_of_ble_eq_true rfl) dX3_init_27 (fun q9 t10 H hK hP hD hS => ?_)
  have hK : va_K (dC, dI) vwCl [(t2, .object RX2), (t10, .object RX5)] s := hK
  have hP : va_P (dC, dI) vwCl [(h0, .inr (4, [.int i0, v1, v2, .ref q1, .ref q3, v5, v6, v7])), (q1, .inl (t2, 6, .inr (.inr (.inr (.inr ((fun _ => none))))))), (q3, .inr (3, [w06, w17, w28, .int 0, .int ((-1)), .int ((-1)), .int ((-1))])), (q9, .inl (t10, 6, .inr (.inr (.inr (.inr ((fun _ => none)))))))] H := hP
  have hD : va_D A [(h0, .inr (4, [.int i0, v1, v2, .ref q1, .ref q3, v5, v6, v7])), (q1, .inl (t2, 6, .inr (.inr (.inr (.inr ((fun _ => none))))))), (q3, .inr (3, [w06, w17, w28, .int 0, .int ((-1)), .int ((-1)), .int ((-1))])), (q9, .inl (t10, 6, .inr (.inr (.inr (.inr ((fun _ => none)))))))] := hD
  refine W.widen (k := 7) (n := 223) (Nat.le_of_ble_eq_true rfl) (Nat.le_of_ble_eq_true rfl) ?_
  refine va_putF (D := (dC, dI)) (ci := 4) (v := .ref q9) (ty := .array (.object "ToolPlex$Items")) (C := RX3) (T := TX3) (N := 8) hx hb ht inGX3 tyX3 tyX3_ok nmX3 hown hK hP hD hS 0 rfl rfl 5 (by decide) (ht _ q317) (fun _ h9 => h9) rfl hin rfl (by decide +kernel) rfl rfl (Nat.le_of_ble_eq_true rfl) dX3_init_30 (fun H locs hP hD hS => ?_)
  have hP : va_P (dC, dI) vwCl [(h0, .inr (4, [.int i0, v1, v2, .ref q1, .ref q3, .ref q9, v6, v7])), (q1, .inl (t2, 6, .inr (.inr (.inr (.inr ((fun _ => none))))))), (q3, .inr (3, [w06, w17, w28, .int 0, .int ((-1)), .int ((-1)), .int ((-1))])), (q9, .inl (t10, 6, .inr (.inr (.inr (.inr ((fun _ => none)))))))] H := hP
  have hD : va_D A [(h0, .inr (4, [.int i0, v1, v2, .ref q1, .ref q3, .ref q9, v6, v7])), (q1, .inl (t2, 6, .inr (.inr (.inr (.inr ((fun _ => none))))))), (q3, .inr (3, [w06, w17, w28, .int 0, .int ((-1)), .int ((-1)), .int ((-1))])), (q9, .inl (t10, 6, .inr (.inr (.inr (.inr ((fun _ => none)))))))] := hD
  refine lv_aload_n hx hb dX3_init_33 rfl (lv_at hl 0 rfl) ?_
  refine va_new (ci := 6) (fs := [.null, .int 0]) (C := RX5) (T := TX5) (N := 2) hx hb ht inGX5 tyX5 tyX5_ok hown (ht _ q295) (ht _ q297) (ht _ q132) hK hP hD hS hA rfl (fun j hj => by rcases (show j = 0 ∨ j = 1 by omega) with rfl | rfl <;> rfl) (Nat.le_of_ble_eq_true rfl) (Nat.le_of_ble_eq_true rfl) dX3_init_34 (fun q11 H hP hD hS => ?_)
  have hP : va_P (dC, dI) vwCl [(h0, .inr (4, [.int i0, v1, v2, .ref q1, .ref q3, .ref q9, v6, v7])), (q1, .inl (t2, 6, .inr (.inr (.inr (.inr ((fun _ => none))))))), (q3, .inr (3, [w06, w17, w28, .int 0, .int ((-1)), .int ((-1)), .int ((-1))])), (q9, .inl (t10, 6, .inr (.inr (.inr (.inr ((fun _ => none))))))), (q11, .inr (6, [.null, .int 0]))] H := hP
  have hD : va_D A [(h0, .inr (4, [.int i0, v1, v2, .ref q1, .ref q3, .ref q9, v6, v7])), (q1, .inl (t2, 6, .inr (.inr (.inr (.inr ((fun _ => none))))))), (q3, .inr (3, [w06, w17, w28, .int 0, .int ((-1)), .int ((-1)), .int ((-1))])), (q9, .inl (t10, 6, .inr (.inr (.inr (.inr ((fun _ => none))))))), (q11, .inr (6, [.null, .int 0]))] := hD
  refine W.widen (k := 8) (n := 225) (Nat.le_of_ble_eq_true rfl) (Nat.le_of_ble_eq_true rfl) ?_
  refine lv_dup hx hb dX3_init_37 rfl ?_
  have hPc := hP.sub (ws' := [(q11, .inr (6, [.null, .int 0]))]) [4] rfl
  have hDc := hD.sub (ws' := [(q11, .inr (6, [.null, .int 0]))]) [4] (by decide) rfl
  have hKc := hK.sub (tys' := []) [] rfl
  have hFc := va_free (wc := [(q11, .inr (6, [.null, .int 0]))]) hD hS hA [4] rfl
  refine va_callv (va_runIN (As := []) (rest := [.ref q11, .ref h0]) ⟨hx, hb, hml, hown, ht⟩ (k_X5_init l d0 cO dC dI H.size q11 .null 0) (my_NI ht M_X5_init q299 rfl q298 (Nat.le_of_ble_eq_true rfl) (Nat.le_of_ble_eq_true rfl)) ⟨PRE.fb, fun U hU hW => ⟨rfl, PRE.mk' hE hS hFc hPc hKc hDc U hU hW⟩⟩ rfl rfl hl.1 rfl (lv_room (Nat.le_of_ble_eq_true rfl)) dX3_init_38 ⟨(Nat.le_of_ble_eq_true rfl), (Nat.le_of_ble_eq_true rfl)⟩) hS (fun q _ h => hFc q h) hFc (fun u12 t H1 locs htt hvm hw hB hz1 hk1 hS => ?_)
  try dsimp only at hw hB
  obtain ⟨v14, hP1, hK1, hD1⟩ := hB
  rw [htt] at hP1
  have hK1 := va_K.moved hvm.symm hK1
  obtain ⟨hP, hD⟩ := va_join (wr := [(h0, .inr (4, [.int i0, v1, v2, .ref q1, .ref q3, .ref q9, v6, v7])), (q1, .inl (t2, 6, .inr (.inr (.inr (.inr ((fun _ => none))))))), (q3, .inr (3, [w06, w17, w28, .int 0, .int ((-1)), .int ((-1)), .int ((-1))])), (q9, .inl (t10, 6, .inr (.inr (.inr (.inr ((fun _ => none)))))))]) (w1 := [(q11, .inr (6, [v14, .int 0]))]) hP hD [4] [0, 1, 2, 3] rfl rfl (by decide) (by decide) hk1 hFc hP1 hD1
  have hK := (hK.sub (tys' := [(t2, .object RX2), (t10, .object RX5)]) [0, 1] rfl).app hK1
  generalize H1 = H at hP hS ⊢
  have hP : va_P (dC, dI) vwCl [(h0, .inr (4, [.int i0, v1, v2, .ref q1, .ref q3, .ref q9, v6, v7])), (q1, .inl (t2, 6, .inr (.inr (.inr (.inr ((fun _ => none))))))), (q3, .inr (3, [w06, w17, w28, .int 0, .int ((-1)), .int ((-1)), .int ((-1))])), (q9, .inl (t10, 6, .inr (.inr (.inr (.inr ((fun _ => none))))))), (q11, .inr (6, [v14, .int 0]))] H := hP
  have hD : va_D A [(h0, .inr (4, [.int i0, v1, v2, .ref q1, .ref q3, .ref q9, v6, v7])), (q1, .inl (t2, 6, .inr (.inr (.inr (.inr ((fun _ => none))))))), (q3, .inr (3, [w06, w17, w28, .int 0, .int ((-1)), .int ((-1)), .int ((-1))])), (q9, .inl (t10, 6, .inr (.inr (.inr (.inr ((fun _ => none))))))), (q11, .inr (6, [v14, .int 0]))] := hD
  have hK : va_K (dC, dI) vwCl [(t2, .object RX2), (t10, .object RX5)] s := hK
  refine W.widen (k := 8) (n := 225) (Nat.le_of_ble_eq_true rfl) (Nat.le_of_ble_eq_true rfl) ?_
  refine va_putF (D := (dC, dI)) (ci := 4) (v := .ref q11) (ty := .object "ToolPlex$Items") (C := RX3) (T := TX3) (N := 8) hx hb ht inGX3 tyX3 tyX3_ok nmX3 hown hK hP hD hS 0 rfl rfl 6 (by decide) (ht _ q318) (fun _ h9 => h9) rfl hin rfl (by decide +kernel) rfl rfl (Nat.le_of_ble_eq_true rfl) dX3_init_41 (fun H locs hP hD hS => ?_)
  have hP : va_P (dC, dI) vwCl [(h0, .inr (4, [.int i0, v1, v2, .ref q1, .ref q3, .ref q9, .ref q11, v7])), (q1, .inl (t2, 6, .inr (.inr (.inr (.inr ((fun _ => none))))))), (q3, .inr (3, [w06, w17, w28, .int 0, .int ((-1)), .int ((-1)), .int ((-1))])), (q9, .inl (t10, 6, .inr (.inr (.inr (.inr ((fun _ => none))))))), (q11, .inr (6, [v14, .int 0]))] H := hP
  have hD : va_D A [(h0, .inr (4, [.int i0, v1, v2, .ref q1, .ref q3, .ref q9, .ref q11, v7])), (q1, .inl (t2, 6, .inr (.inr (.inr (.inr ((fun _ => none))))))), (q3, .inr (3, [w06, w17, w28, .int 0, .int ((-1)), .int ((-1)), .int ((-1))])), (q9, .inl (t10, 6, .inr (.inr (.inr (.inr ((fun _ => none))))))), (q11, .inr (6, [v14, .int 0]))] := hD
  refine lv_aload_n hx hb dX3_init_44 rfl (lv_at hl 0 rfl) ?_
  refine va_new (ci := 0) (fs := [.int 0, .null, .int 0]) (C := RJx4a65c) (T := TJx4a65c) (N := 3) hx hb ht inGJx4a65c tyJx4a65c tyJx4a65c_ok hown (ht _ q310) (ht _ q206) (ht _ q128) hK hP hD hS hA rfl (fun j hj => by rcases (show j = 0 ∨ j = 1 ∨ j = 2 by omega) with rfl | rfl | rfl <;> rfl) (Nat.le_of_ble_eq_true rfl) (Nat.le_of_ble_eq_true rfl) dX3_init_45 (fun q15 H hP hD hS => ?_)
  have hP : va_P (dC, dI) vwCl [(h0, .inr (4, [.int i0, v1, v2, .ref q1, .ref q3, .ref q9, .ref q11, v7])), (q1, .inl (t2, 6, .inr (.inr (.inr (.inr ((fun _ => none))))))), (q3, .inr (3, [w06, w17, w28, .int 0, .int ((-1)), .int ((-1)), .int ((-1))])), (q9, .inl (t10, 6, .inr (.inr (.inr (.inr ((fun _ => none))))))), (q11, .inr (6, [v14, .int 0])), (q15, .inr (0, [.int 0, .null, .int 0]))] H := hP
  have hD : va_D A [(h0, .inr (4, [.int i0, v1, v2, .ref q1, .ref q3, .ref q9, .ref q11, v7])), (q1, .inl (t2, 6, .inr (.inr (.inr (.inr ((fun _ => none))))))), (q3, .inr (3, [w06, w17, w28, .int 0, .int ((-1)), .int ((-1)), .int ((-1))])), (q9, .inl (t10, 6, .inr (.inr (.inr (.inr ((fun _ => none))))))), (q11, .inr (6, [v14, .int 0])), (q15, .inr (0, [.int 0, .null, .int 0]))] := hD
  refine W.widen (k := 9) (n := 228) (Nat.le_of_ble_eq_true rfl) (Nat.le_of_ble_eq_true rfl) ?_
  refine lv_dup hx hb dX3_init_48 rfl ?_
  have hPc := hP.sub (ws' := [(q15, .inr (0, [.int 0, .null, .int 0]))]) [5] rfl
  have hDc := hD.sub (ws' := [(q15, .inr (0, [.int 0, .null, .int 0]))]) [5] (by decide) rfl
  have hKc := hK.sub (tys' := []) [] rfl
  have hFc := va_free (wc := [(q15, .inr (0, [.int 0, .null, .int 0]))]) hD hS hA [5] rfl
  refine va_callv (va_runI (As := []) (rest := [.ref q15, .ref h0]) ⟨hx, hb, hml, hown, ht⟩ (k_Jx4a65c_init_da8c8 l d0 cO dC dI H.size q15 0 .null 0) (my_I ht M_Jx4a65c_init_da8c8 q208 rfl q311 (Nat.le_of_ble_eq_true rfl) (Nat.le_of_ble_eq_true rfl)) ⟨PRE.fb, fun U hU hW => ⟨rfl, PRE.mk' hE hS hFc hPc hKc hDc U hU hW⟩⟩ rfl rfl hl.1 rfl (lv_room (Nat.le_of_ble_eq_true rfl)) dX3_init_49 ⟨(Nat.le_of_ble_eq_true rfl), (Nat.le_of_ble_eq_true rfl)⟩) hS (fun q _ h => hFc q h) hFc (fun u16 t H1 locs htt hvm hw hB hz1 hk1 hS => ?_)
  try dsimp only at hw hB
  obtain ⟨hP1, hK1, hD1⟩ := hB
  rw [htt] at hP1
  have hK1 := va_K.moved hvm.symm hK1
  obtain ⟨hP, hD⟩ := va_join (wr := [(h0, .inr (4, [.int i0, v1, v2, .ref q1, .ref q3, .ref q9, .ref q11, v7])), (q1, .inl (t2, 6, .inr (.inr (.inr (.inr ((fun _ => none))))))), (q3, .inr (3, [w06, w17, w28, .int 0, .int ((-1)), .int ((-1)), .int ((-1))])), (q9, .inl (t10, 6, .inr (.inr (.inr (.inr ((fun _ => none))))))), (q11, .inr (6, [v14, .int 0]))]) (w1 := [(q15, .inr (0, [.int 0, .ref d0, .int 0]))]) hP hD [5] [0, 1, 2, 3, 4] rfl rfl (by decide) (by decide) hk1 hFc hP1 hD1
  have hK := (hK.sub (tys' := [(t2, .object RX2), (t10, .object RX5)]) [0, 1] rfl).app hK1
  generalize H1 = H at hP hS ⊢
  have hP : va_P (dC, dI) vwCl [(h0, .inr (4, [.int i0, v1, v2, .ref q1, .ref q3, .ref q9, .ref q11, v7])), (q1, .inl (t2, 6, .inr (.inr (.inr (.inr ((fun _ => none))))))), (q3, .inr (3, [w06, w17, w28, .int 0, .int ((-1)), .int ((-1)), .int ((-1))])), (q9, .inl (t10, 6, .inr (.inr (.inr (.inr ((fun _ => none))))))), (q11, .inr (6, [v14, .int 0])), (q15, .inr (0, [.int 0, .ref d0, .int 0]))] H := hP
  have hD : va_D A [(h0, .inr (4, [.int i0, v1, v2, .ref q1, .ref q3, .ref q9, .ref q11, v7])), (q1, .inl (t2, 6, .inr (.inr (.inr (.inr ((fun _ => none))))))), (q3, .inr (3, [w06, w17, w28, .int 0, .int ((-1)), .int ((-1)), .int ((-1))])), (q9, .inl (t10, 6, .inr (.inr (.inr (.inr ((fun _ => none))))))), (q11, .inr (6, [v14, .int 0])), (q15, .inr (0, [.int 0, .ref d0, .int 0]))] := hD
  have hK : va_K (dC, dI) vwCl [(t2, .object RX2), (t10, .object RX5)] s := hK
  refine W.widen (k := 9) (n := 228) (Nat.le_of_ble_eq_true rfl) (Nat.le_of_ble_eq_true rfl) ?_
  refine va_putF (D := (dC, dI)) (ci := 4) (v := .ref q15) (ty := .object "java/util/ArrayList") (C := RX3) (T := TX3) (N := 8) hx hb ht inGX3 tyX3 tyX3_ok nmX3 hown hK hP hD hS 0 rfl rfl 7 (by decide) (ht _ q319) (fun _ h9 => h9) rfl hin rfl (by decide +kernel) rfl rfl (Nat.le_of_ble_eq_true rfl) dX3_init_52 (fun H locs hP hD hS => ?_)
  have hP : va_P (dC, dI) vwCl [(h0, .inr (4, [.int i0, v1, v2, .ref q1, .ref q3, .ref q9, .ref q11, .ref q15])), (q1, .inl (t2, 6, .inr (.inr (.inr (.inr ((fun _ => none))))))), (q3, .inr (3, [w06, w17, w28, .int 0, .int ((-1)), .int ((-1)), .int ((-1))])), (q9, .inl (t10, 6, .inr (.inr (.inr (.inr ((fun _ => none))))))), (q11, .inr (6, [v14, .int 0])), (q15, .inr (0, [.int 0, .ref d0, .int 0]))] H := hP
  have hD : va_D A [(h0, .inr (4, [.int i0, v1, v2, .ref q1, .ref q3, .ref q9, .ref q11, .ref q15])), (q1, .inl (t2, 6, .inr (.inr (.inr (.inr ((fun _ => none))))))), (q3, .inr (3, [w06, w17, w28, .int 0, .int ((-1)), .int ((-1)), .int ((-1))])), (q9, .inl (t10, 6, .inr (.inr (.inr (.inr ((fun _ => none))))))), (q11, .inr (6, [v14, .int 0])), (q15, .inr (0, [.int 0, .ref d0, .int 0]))] := hD
  refine lv_aload_n hx hb dX3_init_55 rfl (lv_at hl 0 rfl) ?_
  refine lv_iload_n hx hb dX3_init_56 rfl (lv_at hl 1 rfl) ?_
  refine va_putF (D := (dC, dI)) (ci := 4) (v := .int a1) (ty := .int) (C := RX3) (T := TX3) (N := 8) hx hb ht inGX3 tyX3 tyX3_ok nmX3 hown hK hP hD hS 0 rfl rfl 0 (by decide) (ht _ q312) (fun _ h9 => h9) rfl hin rfl (by decide +kernel) rfl rfl (Nat.le_of_ble_eq_true rfl) dX3_init_57 (fun H locs hP hD hS => ?_)
  have hP : va_P (dC, dI) vwCl [(h0, .inr (4, [.int a1, v1, v2, .ref q1, .ref q3, .ref q9, .ref q11, .ref q15])), (q1, .inl (t2, 6, .inr (.inr (.inr (.inr ((fun _ => none))))))), (q3, .inr (3, [w06, w17, w28, .int 0, .int ((-1)), .int ((-1)), .int ((-1))])), (q9, .inl (t10, 6, .inr (.inr (.inr (.inr ((fun _ => none))))))), (q11, .inr (6, [v14, .int 0])), (q15, .inr (0, [.int 0, .ref d0, .int 0]))] H := hP
  have hD : va_D A [(h0, .inr (4, [.int a1, v1, v2, .ref q1, .ref q3, .ref q9, .ref q11, .ref q15])), (q1, .inl (t2, 6, .inr (.inr (.inr (.inr ((fun _ => none))))))), (q3, .inr (3, [w06, w17, w28, .int 0, .int ((-1)), .int ((-1)), .int ((-1))])), (q9, .inl (t10, 6, .inr (.inr (.inr (.inr ((fun _ => none))))))), (q11, .inr (6, [v14, .int 0])), (q15, .inr (0, [.int 0, .ref d0, .int 0]))] := hD
  refine lv_aload_n hx hb dX3_init_60 rfl (lv_at hl 0 rfl) ?_
  refine lv_aload_n hx hb dX3_init_61 rfl (lv_at hl 2 rfl) ?_
  refine va_putF (D := (dC, dI)) (ci := 4) (v := .ref a2) (ty := .object "ToolPlex$Files") (C := RX3) (T := TX3) (N := 8) hx hb ht inGX3 tyX3 tyX3_ok nmX3 hown hK hP hD hS 0 rfl rfl 1 (by decide) (ht _ q313) (fun _ h9 => h9) rfl hin rfl (by decide +kernel) rfl rfl (Nat.le_of_ble_eq_true rfl) dX3_init_62 (fun H locs hP hD hS => ?_)
  have hP : va_P (dC, dI) vwCl [(h0, .inr (4, [.int a1, .ref a2, v2, .ref q1, .ref q3, .ref q9, .ref q11, .ref q15])), (q1, .inl (t2, 6, .inr (.inr (.inr (.inr ((fun _ => none))))))), (q3, .inr (3, [w06, w17, w28, .int 0, .int ((-1)), .int ((-1)), .int ((-1))])), (q9, .inl (t10, 6, .inr (.inr (.inr (.inr ((fun _ => none))))))), (q11, .inr (6, [v14, .int 0])), (q15, .inr (0, [.int 0, .ref d0, .int 0]))] H := hP
  have hD : va_D A [(h0, .inr (4, [.int a1, .ref a2, v2, .ref q1, .ref q3, .ref q9, .ref q11, .ref q15])), (q1, .inl (t2, 6, .inr (.inr (.inr (.inr ((fun _ => none))))))), (q3, .inr (3, [w06, w17, w28, .int 0, .int ((-1)), .int ((-1)), .int ((-1))])), (q9, .inl (t10, 6, .inr (.inr (.inr (.inr ((fun _ => none))))))), (q11, .inr (6, [v14, .int 0])), (q15, .inr (0, [.int 0, .ref d0, .int 0]))] := hD
  refine lv_aload_n hx hb dX3_init_65 rfl (lv_at hl 0 rfl) ?_
  refine lv_aload_n hx hb dX3_init_66 rfl (lv_at hl 3 rfl) ?_
  refine va_putF (D := (dC, dI)) (ci := 4) (v := .ref a3) (ty := .object "ToolPlex$Channel") (C := RX3) (T := TX3) (N := 8) hx hb ht inGX3 tyX3 tyX3_ok nmX3 hown hK hP hD hS 0 rfl rfl 2 (by decide) (ht _ q314) (fun _ h9 => h9) rfl hin rfl (by decide +kernel) rfl rfl (Nat.le_of_ble_eq_true rfl) dX3_init_67 (fun H locs hP hD hS => ?_)
  have hP : va_P (dC, dI) vwCl [(h0, .inr (4, [.int a1, .ref a2, .ref a3, .ref q1, .ref q3, .ref q9, .ref q11, .ref q15])), (q1, .inl (t2, 6, .inr (.inr (.inr (.inr ((fun _ => none))))))), (q3, .inr (3, [w06, w17, w28, .int 0, .int ((-1)), .int ((-1)), .int ((-1))])), (q9, .inl (t10, 6, .inr (.inr (.inr (.inr ((fun _ => none))))))), (q11, .inr (6, [v14, .int 0])), (q15, .inr (0, [.int 0, .ref d0, .int 0]))] H := hP
  have hD : va_D A [(h0, .inr (4, [.int a1, .ref a2, .ref a3, .ref q1, .ref q3, .ref q9, .ref q11, .ref q15])), (q1, .inl (t2, 6, .inr (.inr (.inr (.inr ((fun _ => none))))))), (q3, .inr (3, [w06, w17, w28, .int 0, .int ((-1)), .int ((-1)), .int ((-1))])), (q9, .inl (t10, 6, .inr (.inr (.inr (.inr ((fun _ => none))))))), (q11, .inr (6, [v14, .int 0])), (q15, .inr (0, [.int 0, .ref d0, .int 0]))] := hD
  refine lv_iconst (v := 0) hx hb dX3_init_70 (by decide) ?_
  refine lv_istore (lv' := [(4, .int 0), (0, .ref h0), (1, .int a1), (2, .ref a2), (3, .ref a3)]) hx hb dX3_init_71 hl (by decide) rfl (fun ls hl => ?_)
  refine lv_iload hx hb dX3_init_73 (lv_at hl 0 rfl) ?_
  refine lv_bipush (v := 6) hx hb dX3_init_75 (by decide) ?_
  refine lv_icmp_ge (tgt := 114) hx hb dX3_init_77 (by decide) (fun c18 => False.elim (by revert c18; decide)) (fun c18 => ?_)
  refine lv_aload_n hx hb dX3_init_80 rfl (lv_at hl 1 rfl) ?_
  refine va_get (D := (dC, dI)) (ci := 4) (v := .ref q1) (C := RX3) (T := TX3) (N := 8) hx hb ht inGX3 hown hK hP 0 rfl rfl 3 (by decide) (ht _ q315) (fun _ h9 => h9) rfl dX3_init_81 ?_
  refine lv_iload hx hb dX3_init_84 (lv_at hl 0 rfl) ?_
  refine va_new (ci := 3) (fs := [.null, .null, .null, .int 0, .int 0, .int 0, .int 0]) (C := RX2) (T := TX2) (N := 7) hx hb ht inGX2 tyX2 tyX2_ok hown (ht _ q251) (ht _ q253) (ht _ q131) hK hP hD hS hA rfl (fun j hj => by rcases (show j = 0 ∨ j = 1 ∨ j = 2 ∨ j = 3 ∨ j = 4 ∨ j = 5 ∨ j = 6 by omega) with rfl | rfl | rfl | rfl | rfl | rfl | rfl <;> rfl) (Nat.le_of_ble_eq_true rfl) (Nat.le_of_ble_eq_true rfl) dX3_init_86 (fun q19 H hP hD hS => ?_)
  have hP : va_P (dC, dI) vwCl [(h0, .inr (4, [.int a1, .ref a2, .ref a3, .ref q1, .ref q3, .ref q9, .ref q11, .ref q15])), (q1, .inl (t2, 6, .inr (.inr (.inr (.inr ((fun _ => none))))))), (q3, .inr (3, [w06, w17, w28, .int 0, .int ((-1)), .int ((-1)), .int ((-1))])), (q9, .inl (t10, 6, .inr (.inr (.inr (.inr ((fun _ => none))))))), (q11, .inr (6, [v14, .int 0])), (q15, .inr (0, [.int 0, .ref d0, .int 0])), (q19, .inr (3, [.null, .null, .null, .int 0, .int 0, .int 0, .int 0]))] H := hP
  have hD : va_D A [(h0, .inr (4, [.int a1, .ref a2, .ref a3, .ref q1, .ref q3, .ref q9, .ref q11, .ref q15])), (q1, .inl (t2, 6, .inr (.inr (.inr (.inr ((fun _ => none))))))), (q3, .inr (3, [w06, w17, w28, .int 0, .int ((-1)), .int ((-1)), .int ((-1))])), (q9, .inl (t10, 6, .inr (.inr (.inr (.inr ((fun _ => none))))))), (q11, .inr (6, [v14, .int 0])), (q15, .inr (0, [.int 0, .ref d0, .int 0])), (q19, .inr (3, [.null, .null, .null, .int 0, .int 0, .int 0, .int 0]))] := hD
  refine W.widen (k := 10) (n := 235) (Nat.le_of_ble_eq_true rfl) (Nat.le_of_ble_eq_true rfl) ?_
  refine lv_dup hx hb dX3_init_89 rfl ?_
  have hPc := hP.sub (ws' := [(q19, .inr (3, [.null, .null, .null, .int 0, .int 0, .int 0, .int 0]))]) [6] rfl
  have hDc := hD.sub (ws' := [(q19, .inr (3, [.null, .null, .null, .int 0, .int 0, .int 0, .int 0]))]) [6] (by decide) rfl
  have hKc := hK.sub (tys' := []) [] rfl
  have hFc := va_free (wc := [(q19, .inr (3, [.null, .null, .null, .int 0, .int 0, .int 0, .int 0]))]) hD hS hA [6] rfl
  refine va_callv (va_runIN (As := []) (rest := [.ref q19, .int 0, .ref q1]) ⟨hx, hb, hml, hown, ht⟩ (k_X2_init l d0 cO dC dI H.size q19 .null .null .null 0 0 0 0) (my_NI ht M_X2_init q255 rfl q254 (Nat.le_of_ble_eq_true rfl) (Nat.le_of_ble_eq_true rfl)) ⟨PRE.fb, fun U hU hW => ⟨rfl, PRE.mk' hE hS hFc hPc hKc hDc U hU hW⟩⟩ rfl rfl hl.1 rfl (lv_room (Nat.le_of_ble_eq_true rfl)) dX3_init_90 ⟨(Nat.le_of_ble_eq_true rfl), (Nat.le_of_ble_eq_true rfl)⟩) hS (fun q _ h => hFc q h) hFc (fun u20 t H1 locs htt hvm hw hB hz1 hk1 hS => ?_)
  try dsimp only at hw hB
  obtain ⟨w022, w123, w224, hP1, hK1, hD1⟩ := hB
  rw [htt] at hP1
  have hK1 := va_K.moved hvm.symm hK1
  obtain ⟨hP, hD⟩ := va_join (wr := [(h0, .inr (4, [.int a1, .ref a2, .ref a3, .ref q1, .ref q3, .ref q9, .ref q11, .ref q15])), (q1, .inl (t2, 6, .inr (.inr (.inr (.inr ((fun _ => none))))))), (q3, .inr (3, [w06, w17, w28, .int 0, .int ((-1)), .int ((-1)), .int ((-1))])), (q9, .inl (t10, 6, .inr (.inr (.inr (.inr ((fun _ => none))))))), (q11, .inr (6, [v14, .int 0])), (q15, .inr (0, [.int 0, .ref d0, .int 0]))]) (w1 := [(q19, .inr (3, [w022, w123, w224, .int 0, .int ((-1)), .int ((-1)), .int ((-1))]))]) hP hD [6] [0, 1, 2, 3, 4, 5] rfl rfl (by decide) (by decide) hk1 hFc hP1 hD1
  have hK := (hK.sub (tys' := [(t2, .object RX2), (t10, .object RX5)]) [0, 1] rfl).app hK1
  generalize H1 = H at hP hS ⊢
  have hP : va_P (dC, dI) vwCl [(h0, .inr (4, [.int a1, .ref a2, .ref a3, .ref q1, .ref q3, .ref q9, .ref q11, .ref q15])), (q1, .inl (t2, 6, .inr (.inr (.inr (.inr ((fun _ => none))))))), (q3, .inr (3, [w06, w17, w28, .int 0, .int ((-1)), .int ((-1)), .int ((-1))])), (q9, .inl (t10, 6, .inr (.inr (.inr (.inr ((fun _ => none))))))), (q11, .inr (6, [v14, .int 0])), (q15, .inr (0, [.int 0, .ref d0, .int 0])), (q19, .inr (3, [w022, w123, w224, .int 0, .int ((-1)), .int ((-1)), .int ((-1))]))] H := hP
  have hD : va_D A [(h0, .inr (4, [.int a1, .ref a2, .ref a3, .ref q1, .ref q3, .ref q9, .ref q11, .ref q15])), (q1, .inl (t2, 6, .inr (.inr (.inr (.inr ((fun _ => none))))))), (q3, .inr (3, [w06, w17, w28, .int 0, .int ((-1)), .int ((-1)), .int ((-1))])), (q9, .inl (t10, 6, .inr (.inr (.inr (.inr ((fun _ => none))))))), (q11, .inr (6, [v14, .int 0])), (q15, .inr (0, [.int 0, .ref d0, .int 0])), (q19, .inr (3, [w022, w123, w224, .int 0, .int ((-1)), .int ((-1)), .int ((-1))]))] := hD
  have hK : va_K (dC, dI) vwCl [(t2, .object RX2), (t10, .object RX5)] s := hK
  refine W.widen (k := 14) (n := 439) (Nat.le_of_ble_eq_true rfl) (Nat.le_of_ble_eq_true rfl) ?_
  refine va_astq hx hb hK hP hD hS 1 0 6 3 rfl rfl rfl rfl (vp_in_nI (n := 0) (by decide) (by decide)) dX3_init_93 (fun H locs hP hD hS => ?_)
  have hP : va_P (dC, dI) vwCl [(h0, .inr (4, [.int a1, .ref a2, .ref a3, .ref q1, .ref q3, .ref q9, .ref q11, .ref q15])), (q1, .inl (t2, 6, .inr (.inr (.inr (.inr ((va_up (fun _ => none) 0 (some q19)))))))), (q3, .inr (3, [w06, w17, w28, .int 0, .int ((-1)), .int ((-1)), .int ((-1))])), (q9, .inl (t10, 6, .inr (.inr (.inr (.inr ((fun _ => none))))))), (q11, .inr (6, [v14, .int 0])), (q15, .inr (0, [.int 0, .ref d0, .int 0])), (q19, .inr (3, [w022, w123, w224, .int 0, .int ((-1)), .int ((-1)), .int ((-1))]))] H := hP
  have hD : va_D A [(h0, .inr (4, [.int a1, .ref a2, .ref a3, .ref q1, .ref q3, .ref q9, .ref q11, .ref q15])), (q1, .inl (t2, 6, .inr (.inr (.inr (.inr ((va_up (fun _ => none) 0 (some q19)))))))), (q3, .inr (3, [w06, w17, w28, .int 0, .int ((-1)), .int ((-1)), .int ((-1))])), (q9, .inl (t10, 6, .inr (.inr (.inr (.inr ((fun _ => none))))))), (q11, .inr (6, [v14, .int 0])), (q15, .inr (0, [.int 0, .ref d0, .int 0])), (q19, .inr (3, [w022, w123, w224, .int 0, .int ((-1)), .int ((-1)), .int ((-1))]))] := hD
  generalize (va_up (fun _ => none) 0 (some q19)) = f25 at hP hD
  have hP := hP.sub (ws' := [(h0, .inr (4, [.int a1, .ref a2, .ref a3, .ref q1, .ref q3, .ref q9, .ref q11, .ref q15])), (q1, .inl (t2, 6, .inr (.inr (.inr (.inr f25))))), (q3, .inr (3, [w06, w17, w28, .int 0, .int ((-1)), .int ((-1)), .int ((-1))])), (q9, .inl (t10, 6, .inr (.inr (.inr (.inr ((fun _ => none))))))), (q11, .inr (6, [v14, .int 0])), (q15, .inr (0, [.int 0, .ref d0, .int 0]))]) [0, 1, 2, 3, 4, 5] rfl
  have hD := hD.sub (ws' := [(h0, .inr (4, [.int a1, .ref a2, .ref a3, .ref q1, .ref q3, .ref q9, .ref q11, .ref q15])), (q1, .inl (t2, 6, .inr (.inr (.inr (.inr f25))))), (q3, .inr (3, [w06, w17, w28, .int 0, .int ((-1)), .int ((-1)), .int ((-1))])), (q9, .inl (t10, 6, .inr (.inr (.inr (.inr ((fun _ => none))))))), (q11, .inr (6, [v14, .int 0])), (q15, .inr (0, [.int 0, .ref d0, .int 0]))]) [0, 1, 2, 3, 4, 5] (by decide) rfl
  refine lv_aload_n hx hb dX3_init_94 rfl (lv_at hl 1 rfl) ?_
  refine va_get (D := (dC, dI)) (ci := 4) (v := .ref q9) (C := RX3) (T := TX3) (N := 8) hx hb ht inGX3 hown hK hP 0 rfl rfl 5 (by decide) (ht _ q317) (fun _ h9 => h9) rfl dX3_init_95 ?_
  refine lv_iload hx hb dX3_init_98 (lv_at hl 0 rfl) ?_
  refine va_new (ci := 6) (fs := [.null, .int 0]) (C := RX5) (T := TX5) (N := 2) hx hb ht inGX5 tyX5 tyX5_ok hown (ht _ q295) (ht _ q297) (ht _ q132) hK hP hD hS hA rfl (fun j hj => by rcases (show j = 0 ∨ j = 1 by omega) with rfl | rfl <;> rfl) (Nat.le_of_ble_eq_true rfl) (Nat.le_of_ble_eq_true rfl) dX3_init_100 (fun q26 H hP hD hS => ?_)
  have hP : va_P (dC, dI) vwCl [(h0, .inr (4, [.int a1, .ref a2, .ref a3, .ref q1, .ref q3, .ref q9, .ref q11, .ref q15])), (q1, .inl (t2, 6, .inr (.inr (.inr (.inr f25))))), (q3, .inr (3, [w06, w17, w28, .int 0, .int ((-1)), .int ((-1)), .int ((-1))])), (q9, .inl (t10, 6, .inr (.inr (.inr (.inr ((fun _ => none))))))), (q11, .inr (6, [v14, .int 0])), (q15, .inr (0, [.int 0, .ref d0, .int 0])), (q26, .inr (6, [.null, .int 0]))] H := hP
  have hD : va_D A [(h0, .inr (4, [.int a1, .ref a2, .ref a3, .ref q1, .ref q3, .ref q9, .ref q11, .ref q15])), (q1, .inl (t2, 6, .inr (.inr (.inr (.inr f25))))), (q3, .inr (3, [w06, w17, w28, .int 0, .int ((-1)), .int ((-1)), .int ((-1))])), (q9, .inl (t10, 6, .inr (.inr (.inr (.inr ((fun _ => none))))))), (q11, .inr (6, [v14, .int 0])), (q15, .inr (0, [.int 0, .ref d0, .int 0])), (q26, .inr (6, [.null, .int 0]))] := hD
  refine W.widen (k := 15) (n := 441) (Nat.le_of_ble_eq_true rfl) (Nat.le_of_ble_eq_true rfl) ?_
  refine lv_dup hx hb dX3_init_103 rfl ?_
  have hPc := hP.sub (ws' := [(q26, .inr (6, [.null, .int 0]))]) [6] rfl
  have hDc := hD.sub (ws' := [(q26, .inr (6, [.null, .int 0]))]) [6] (by decide) rfl
  have hKc := hK.sub (tys' := []) [] rfl
  have hFc := va_free (wc := [(q26, .inr (6, [.null, .int 0]))]) hD hS hA [6] rfl
  refine va_callv (va_runIN (As := []) (rest := [.ref q26, .int 0, .ref q9]) ⟨hx, hb, hml, hown, ht⟩ (k_X5_init l d0 cO dC dI H.size q26 .null 0) (my_NI ht M_X5_init q299 rfl q298 (Nat.le_of_ble_eq_true rfl) (Nat.le_of_ble_eq_true rfl)) ⟨PRE.fb, fun U hU hW => ⟨rfl, PRE.mk' hE hS hFc hPc hKc hDc U hU hW⟩⟩ rfl rfl hl.1 rfl (lv_room (Nat.le_of_ble_eq_true rfl)) dX3_init_104 ⟨(Nat.le_of_ble_eq_true rfl), (Nat.le_of_ble_eq_true rfl)⟩) hS (fun q _ h => hFc q h) hFc (fun u27 t H1 locs htt hvm hw hB hz1 hk1 hS => ?_)
  try dsimp only at hw hB
  obtain ⟨v29, hP1, hK1, hD1⟩ := hB
  rw [htt] at hP1
  have hK1 := va_K.moved hvm.symm hK1
  obtain ⟨hP, hD⟩ := va_join (wr := [(h0, .inr (4, [.int a1, .ref a2, .ref a3, .ref q1, .ref q3, .ref q9, .ref q11, .ref q15])), (q1, .inl (t2, 6, .inr (.inr (.inr (.inr f25))))), (q3, .inr (3, [w06, w17, w28, .int 0, .int ((-1)), .int ((-1)), .int ((-1))])), (q9, .inl (t10, 6, .inr (.inr (.inr (.inr ((fun _ => none))))))), (q11, .inr (6, [v14, .int 0])), (q15, .inr (0, [.int 0, .ref d0, .int 0]))]) (w1 := [(q26, .inr (6, [v29, .int 0]))]) hP hD [6] [0, 1, 2, 3, 4, 5] rfl rfl (by decide) (by decide) hk1 hFc hP1 hD1
  have hK := (hK.sub (tys' := [(t2, .object RX2), (t10, .object RX5)]) [0, 1] rfl).app hK1
  generalize H1 = H at hP hS ⊢
  have hP : va_P (dC, dI) vwCl [(h0, .inr (4, [.int a1, .ref a2, .ref a3, .ref q1, .ref q3, .ref q9, .ref q11, .ref q15])), (q1, .inl (t2, 6, .inr (.inr (.inr (.inr f25))))), (q3, .inr (3, [w06, w17, w28, .int 0, .int ((-1)), .int ((-1)), .int ((-1))])), (q9, .inl (t10, 6, .inr (.inr (.inr (.inr ((fun _ => none))))))), (q11, .inr (6, [v14, .int 0])), (q15, .inr (0, [.int 0, .ref d0, .int 0])), (q26, .inr (6, [v29, .int 0]))] H := hP
  have hD : va_D A [(h0, .inr (4, [.int a1, .ref a2, .ref a3, .ref q1, .ref q3, .ref q9, .ref q11, .ref q15])), (q1, .inl (t2, 6, .inr (.inr (.inr (.inr f25))))), (q3, .inr (3, [w06, w17, w28, .int 0, .int ((-1)), .int ((-1)), .int ((-1))])), (q9, .inl (t10, 6, .inr (.inr (.inr (.inr ((fun _ => none))))))), (q11, .inr (6, [v14, .int 0])), (q15, .inr (0, [.int 0, .ref d0, .int 0])), (q26, .inr (6, [v29, .int 0]))] := hD
  have hK : va_K (dC, dI) vwCl [(t2, .object RX2), (t10, .object RX5)] s := hK
  refine W.widen (k := 15) (n := 441) (Nat.le_of_ble_eq_true rfl) (Nat.le_of_ble_eq_true rfl) ?_
  refine va_astq hx hb hK hP hD hS 3 1 6 6 rfl rfl rfl rfl (vp_in_nI (n := 0) (by decide) (by decide)) dX3_init_107 (fun H locs hP hD hS => ?_)
  have hP : va_P (dC, dI) vwCl [(h0, .inr (4, [.int a1, .ref a2, .ref a3, .ref q1, .ref q3, .ref q9, .ref q11, .ref q15])), (q1, .inl (t2, 6, .inr (.inr (.inr (.inr f25))))), (q3, .inr (3, [w06, w17, w28, .int 0, .int ((-1)), .int ((-1)), .int ((-1))])), (q9, .inl (t10, 6, .inr (.inr (.inr (.inr ((va_up (fun _ => none) 0 (some q26)))))))), (q11, .inr (6, [v14, .int 0])), (q15, .inr (0, [.int 0, .ref d0, .int 0])), (q26, .inr (6, [v29, .int 0]))] H := hP
  have hD : va_D A [(h0, .inr (4, [.int a1, .ref a2, .ref a3, .ref q1, .ref q3, .ref q9, .ref q11, .ref q15])), (q1, .inl (t2, 6, .inr (.inr (.inr (.inr f25))))), (q3, .inr (3, [w06, w17, w28, .int 0, .int ((-1)), .int ((-1)), .int ((-1))])), (q9, .inl (t10, 6, .inr (.inr (.inr (.inr ((va_up (fun _ => none) 0 (some q26)))))))), (q11, .inr (6, [v14, .int 0])), (q15, .inr (0, [.int 0, .ref d0, .int 0])), (q26, .inr (6, [v29, .int 0]))] := hD
  generalize (va_up (fun _ => none) 0 (some q26)) = f30 at hP hD
  have hP := hP.sub (ws' := [(h0, .inr (4, [.int a1, .ref a2, .ref a3, .ref q1, .ref q3, .ref q9, .ref q11, .ref q15])), (q1, .inl (t2, 6, .inr (.inr (.inr (.inr f25))))), (q3, .inr (3, [w06, w17, w28, .int 0, .int ((-1)), .int ((-1)), .int ((-1))])), (q9, .inl (t10, 6, .inr (.inr (.inr (.inr f30))))), (q11, .inr (6, [v14, .int 0])), (q15, .inr (0, [.int 0, .ref d0, .int 0]))]) [0, 1, 2, 3, 4, 5] rfl
  have hD := hD.sub (ws' := [(h0, .inr (4, [.int a1, .ref a2, .ref a3, .ref q1, .ref q3, .ref q9, .ref q11, .ref q15])), (q1, .inl (t2, 6, .inr (.inr (.inr (.inr f25))))), (q3, .inr (3, [w06, w17, w28, .int 0, .int ((-1)), .int ((-1)), .int ((-1))])), (q9, .inl (t10, 6, .inr (.inr (.inr (.inr f30))))), (q11, .inr (6, [v14, .int 0])), (q15, .inr (0, [.int 0, .ref d0, .int 0]))]) [0, 1, 2, 3, 4, 5] (by decide) rfl
  refine lv_iinc (v := 1) (lv' := [(4, .int 1), (0, .ref h0), (1, .int a1), (2, .ref a2), (3, .ref a3)]) hx hb dX3_init_108 hl (k := 0) rfl (by decide) (by decide) rfl (fun ls hl => ?_)
  refine lv_goto (tgt := 73) hx hb dX3_init_111 (by decide) ?_
  refine lv_iload hx hb dX3_init_73 (lv_at hl 0 rfl) ?_
  refine lv_bipush (v := 6) hx hb dX3_init_75 (by decide) ?_
  refine lv_icmp_ge (tgt := 114) hx hb dX3_init_77 (by decide) (fun c31 => False.elim (by revert c31; decide)) (fun c31 => ?_)
  refine lv_aload_n hx hb dX3_init_80 rfl (lv_at hl 1 rfl) ?_
  refine va_get (D := (dC, dI)) (ci := 4) (v := .ref q1) (C := RX3) (T := TX3) (N := 8) hx hb ht inGX3 hown hK hP 0 rfl rfl 3 (by decide) (ht _ q315) (fun _ h9 => h9) rfl dX3_init_81 ?_
  refine lv_iload hx hb dX3_init_84 (lv_at hl 0 rfl) ?_
  refine va_new (ci := 3) (fs := [.null, .null, .null, .int 0, .int 0, .int 0, .int 0]) (C := RX2) (T := TX2) (N := 7) hx hb ht inGX2 tyX2 tyX2_ok hown (ht _ q251) (ht _ q253) (ht _ q131) hK hP hD hS hA rfl (fun j hj => by rcases (show j = 0 ∨ j = 1 ∨ j = 2 ∨ j = 3 ∨ j = 4 ∨ j = 5 ∨ j = 6 by omega) with rfl | rfl | rfl | rfl | rfl | rfl | rfl <;> rfl) (Nat.le_of_ble_eq_true rfl) (Nat.le_of_ble_eq_true rfl) dX3_init_86 (fun q32 H hP hD hS => ?_)
  have hP : va_P (dC, dI) vwCl [(h0, .inr (4, [.int a1, .ref a2, .ref a3, .ref q1, .ref q3, .ref q9, .ref q11, .ref q15])), (q1, .inl (t2, 6, .inr (.inr (.inr (.inr f25))))), (q3, .inr (3, [w06, w17, w28, .int 0, .int ((-1)), .int ((-1)), .int ((-1))])), (q9, .inl (t10, 6, .inr (.inr (.inr (.inr f30))))), (q11, .inr (6, [v14, .int 0])), (q15, .inr (0, [.int 0, .ref d0, .int 0])), (q32, .inr (3, [.null, .null, .null, .int 0, .int 0, .int 0, .int 0]))] H := hP
  have hD : va_D A [(h0, .inr (4, [.int a1, .ref a2, .ref a3, .ref q1, .ref q3, .ref q9, .ref q11, .ref q15])), (q1, .inl (t2, 6, .inr (.inr (.inr (.inr f25))))), (q3, .inr (3, [w06, w17, w28, .int 0, .int ((-1)), .int ((-1)), .int ((-1))])), (q9, .inl (t10, 6, .inr (.inr (.inr (.inr f30))))), (q11, .inr (6, [v14, .int 0])), (q15, .inr (0, [.int 0, .ref d0, .int 0])), (q32, .inr (3, [.null, .null, .null, .int 0, .int 0, .int 0, .int 0]))] := hD
  refine W.widen (k := 16) (n := 448) (Nat.le_of_ble_eq_true rfl) (Nat.le_of_ble_eq_true rfl) ?_
  refine lv_dup hx hb dX3_init_89 rfl ?_
  have hPc := hP.sub (ws' := [(q32, .inr (3, [.null, .null, .null, .int 0, .int 0, .int 0, .int 0]))]) [6] rfl
  have hDc := hD.sub (ws' := [(q32, .inr (3, [.null, .null, .null, .int 0, .int 0, .int 0, .int 0]))]) [6] (by decide) rfl
  have hKc := hK.sub (tys' := []) [] rfl
  have hFc := va_free (wc := [(q32, .inr (3, [.null, .null, .null, .int 0, .int 0, .int 0, .int 0]))]) hD hS hA [6] rfl
  refine va_callv (va_runIN (As := []) (rest := [.ref q32, .int 1, .ref q1]) ⟨hx, hb, hml, hown, ht⟩ (k_X2_init l d0 cO dC dI H.size q32 .null .null .null 0 0 0 0) (my_NI ht M_X2_init q255 rfl q254 (Nat.le_of_ble_eq_true rfl) (Nat.le_of_ble_eq_true rfl)) ⟨PRE.fb, fun U hU hW => ⟨rfl, PRE.mk' hE hS hFc hPc hKc hDc U hU hW⟩⟩ rfl rfl hl.1 rfl (lv_room (Nat.le_of_ble_eq_true rfl)) dX3_init_90 ⟨(Nat.le_of_ble_eq_true rfl), (Nat.le_of_ble_eq_true rfl)⟩) hS (fun q _ h => hFc q h) hFc (fun u33 t H1 locs htt hvm hw hB hz1 hk1 hS => ?_)
  try dsimp only at hw hB
  obtain ⟨w035, w136, w237, hP1, hK1, hD1⟩ := hB
  rw [htt] at hP1
  have hK1 := va_K.moved hvm.symm hK1
  obtain ⟨hP, hD⟩ := va_join (wr := [(h0, .inr (4, [.int a1, .ref a2, .ref a3, .ref q1, .ref q3, .ref q9, .ref q11, .ref q15])), (q1, .inl (t2, 6, .inr (.inr (.inr (.inr f25))))), (q3, .inr (3, [w06, w17, w28, .int 0, .int ((-1)), .int ((-1)), .int ((-1))])), (q9, .inl (t10, 6, .inr (.inr (.inr (.inr f30))))), (q11, .inr (6, [v14, .int 0])), (q15, .inr (0, [.int 0, .ref d0, .int 0]))]) (w1 := [(q32, .inr (3, [w035, w136, w237, .int 0, .int ((-1)), .int ((-1)), .int ((-1))]))]) hP hD [6] [0, 1, 2, 3, 4, 5] rfl rfl (by decide) (by decide) hk1 hFc hP1 hD1
  have hK := (hK.sub (tys' := [(t2, .object RX2), (t10, .object RX5)]) [0, 1] rfl).app hK1
  generalize H1 = H at hP hS ⊢
  have hP : va_P (dC, dI) vwCl [(h0, .inr (4, [.int a1, .ref a2, .ref a3, .ref q1, .ref q3, .ref q9, .ref q11, .ref q15])), (q1, .inl (t2, 6, .inr (.inr (.inr (.inr f25))))), (q3, .inr (3, [w06, w17, w28, .int 0, .int ((-1)), .int ((-1)), .int ((-1))])), (q9, .inl (t10, 6, .inr (.inr (.inr (.inr f30))))), (q11, .inr (6, [v14, .int 0])), (q15, .inr (0, [.int 0, .ref d0, .int 0])), (q32, .inr (3, [w035, w136, w237, .int 0, .int ((-1)), .int ((-1)), .int ((-1))]))] H := hP
  have hD : va_D A [(h0, .inr (4, [.int a1, .ref a2, .ref a3, .ref q1, .ref q3, .ref q9, .ref q11, .ref q15])), (q1, .inl (t2, 6, .inr (.inr (.inr (.inr f25))))), (q3, .inr (3, [w06, w17, w28, .int 0, .int ((-1)), .int ((-1)), .int ((-1))])), (q9, .inl (t10, 6, .inr (.inr (.inr (.inr f30))))), (q11, .inr (6, [v14, .int 0])), (q15, .inr (0, [.int 0, .ref d0, .int 0])), (q32, .inr (3, [w035, w136, w237, .int 0, .int ((-1)), .int ((-1)), .int ((-1))]))] := hD
  have hK : va_K (dC, dI) vwCl [(t2, .object RX2), (t10, .object RX5)] s := hK
  refine W.widen (k := 20) (n := 652) (Nat.le_of_ble_eq_true rfl) (Nat.le_of_ble_eq_true rfl) ?_
  refine va_astq hx hb hK hP hD hS 1 0 6 3 rfl rfl rfl rfl (vp_in_nI (n := 1) (by decide) (by decide)) dX3_init_93 (fun H locs hP hD hS => ?_)
  have hP : va_P (dC, dI) vwCl [(h0, .inr (4, [.int a1, .ref a2, .ref a3, .ref q1, .ref q3, .ref q9, .ref q11, .ref q15])), (q1, .inl (t2, 6, .inr (.inr (.inr (.inr ((va_up f25 1 (some q32)))))))), (q3, .inr (3, [w06, w17, w28, .int 0, .int ((-1)), .int ((-1)), .int ((-1))])), (q9, .inl (t10, 6, .inr (.inr (.inr (.inr f30))))), (q11, .inr (6, [v14, .int 0])), (q15, .inr (0, [.int 0, .ref d0, .int 0])), (q32, .inr (3, [w035, w136, w237, .int 0, .int ((-1)), .int ((-1)), .int ((-1))]))] H := hP
  have hD : va_D A [(h0, .inr (4, [.int a1, .ref a2, .ref a3, .ref q1, .ref q3, .ref q9, .ref q11, .ref q15])), (q1, .inl (t2, 6, .inr (.inr (.inr (.inr ((va_up f25 1 (some q32)))))))), (q3, .inr (3, [w06, w17, w28, .int 0, .int ((-1)), .int ((-1)), .int ((-1))])), (q9, .inl (t10, 6, .inr (.inr (.inr (.inr f30))))), (q11, .inr (6, [v14, .int 0])), (q15, .inr (0, [.int 0, .ref d0, .int 0])), (q32, .inr (3, [w035, w136, w237, .int 0, .int ((-1)), .int ((-1)), .int ((-1))]))] := hD
  generalize (va_up f25 1 (some q32)) = f38 at hP hD
  have hP := hP.sub (ws' := [(h0, .inr (4, [.int a1, .ref a2, .ref a3, .ref q1, .ref q3, .ref q9, .ref q11, .ref q15])), (q1, .inl (t2, 6, .inr (.inr (.inr (.inr f38))))), (q3, .inr (3, [w06, w17, w28, .int 0, .int ((-1)), .int ((-1)), .int ((-1))])), (q9, .inl (t10, 6, .inr (.inr (.inr (.inr f30))))), (q11, .inr (6, [v14, .int 0])), (q15, .inr (0, [.int 0, .ref d0, .int 0]))]) [0, 1, 2, 3, 4, 5] rfl
  have hD := hD.sub (ws' := [(h0, .inr (4, [.int a1, .ref a2, .ref a3, .ref q1, .ref q3, .ref q9, .ref q11, .ref q15])), (q1, .inl (t2, 6, .inr (.inr (.inr (.inr f38))))), (q3, .inr (3, [w06, w17, w28, .int 0, .int ((-1)), .int ((-1)), .int ((-1))])), (q9, .inl (t10, 6, .inr (.inr (.inr (.inr f30))))), (q11, .inr (6, [v14, .int 0])), (q15, .inr (0, [.int 0, .ref d0, .int 0]))]) [0, 1, 2, 3, 4, 5] (by decide) rfl
  refine lv_aload_n hx hb dX3_init_94 rfl (lv_at hl 1 rfl) ?_
  refine va_get (D := (dC, dI)) (ci := 4) (v := .ref q9) (C := RX3) (T := TX3) (N := 8) hx hb ht inGX3 hown hK hP 0 rfl rfl 5 (by decide) (ht _ q317) (fun _ h9 => h9) rfl dX3_init_95 ?_
  refine lv_iload hx hb dX3_init_98 (lv_at hl 0 rfl) ?_
  refine va_new (ci := 6) (fs := [.null, .int 0]) (C := RX5) (T := TX5) (N := 2) hx hb ht inGX5 tyX5 tyX5_ok hown (ht _ q295) (ht _ q297) (ht _ q132) hK hP hD hS hA rfl (fun j hj => by rcases (show j = 0 ∨ j = 1 by omega) with rfl | rfl <;> rfl) (Nat.le_of_ble_eq_true rfl) (Nat.le_of_ble_eq_true rfl) dX3_init_100 (fun q39 H hP hD hS => ?_)
  have hP : va_P (dC, dI) vwCl [(h0, .inr (4, [.int a1, .ref a2, .ref a3, .ref q1, .ref q3, .ref q9, .ref q11, .ref q15])), (q1, .inl (t2, 6, .inr (.inr (.inr (.inr f38))))), (q3, .inr (3, [w06, w17, w28, .int 0, .int ((-1)), .int ((-1)), .int ((-1))])), (q9, .inl (t10, 6, .inr (.inr (.inr (.inr f30))))), (q11, .inr (6, [v14, .int 0])), (q15, .inr (0, [.int 0, .ref d0, .int 0])), (q39, .inr (6, [.null, .int 0]))] H := hP
  have hD : va_D A [(h0, .inr (4, [.int a1, .ref a2, .ref a3, .ref q1, .ref q3, .ref q9, .ref q11, .ref q15])), (q1, .inl (t2, 6, .inr (.inr (.inr (.inr f38))))), (q3, .inr (3, [w06, w17, w28, .int 0, .int ((-1)), .int ((-1)), .int ((-1))])), (q9, .inl (t10, 6, .inr (.inr (.inr (.inr f30))))), (q11, .inr (6, [v14, .int 0])), (q15, .inr (0, [.int 0, .ref d0, .int 0])), (q39, .inr (6, [.null, .int 0]))] := hD
  refine W.widen (k := 21) (n := 654) (Nat.le_of_ble_eq_true rfl) (Nat.le_of_ble_eq_true rfl) ?_
  refine lv_dup hx hb dX3_init_103 rfl ?_
  have hPc := hP.sub (ws' := [(q39, .inr (6, [.null, .int 0]))]) [6] rfl
  have hDc := hD.sub (ws' := [(q39, .inr (6, [.null, .int 0]))]) [6] (by decide) rfl
  have hKc := hK.sub (tys' := []) [] rfl
  have hFc := va_free (wc := [(q39, .inr (6, [.null, .int 0]))]) hD hS hA [6] rfl
  refine va_callv (va_runIN (As := []) (rest := [.ref q39, .int 1, .ref q9]) ⟨hx, hb, hml, hown, ht⟩ (k_X5_init l d0 cO dC dI H.size q39 .null 0) (my_NI ht M_X5_init q299 rfl q298 (Nat.le_of_ble_eq_true rfl) (Nat.le_of_ble_eq_true rfl)) ⟨PRE.fb, fun U hU hW => ⟨rfl, PRE.mk' hE hS hFc hPc hKc hDc U hU hW⟩⟩ rfl rfl hl.1 rfl (lv_room (Nat.le_of_ble_eq_true rfl)) dX3_init_104 ⟨(Nat.le_of_ble_eq_true rfl), (Nat.le_of_ble_eq_true rfl)⟩) hS (fun q _ h => hFc q h) hFc (fun u40 t H1 locs htt hvm hw hB hz1 hk1 hS => ?_)
  try dsimp only at hw hB
  obtain ⟨v42, hP1, hK1, hD1⟩ := hB
  rw [htt] at hP1
  have hK1 := va_K.moved hvm.symm hK1
  obtain ⟨hP, hD⟩ := va_join (wr := [(h0, .inr (4, [.int a1, .ref a2, .ref a3, .ref q1, .ref q3, .ref q9, .ref q11, .ref q15])), (q1, .inl (t2, 6, .inr (.inr (.inr (.inr f38))))), (q3, .inr (3, [w06, w17, w28, .int 0, .int ((-1)), .int ((-1)), .int ((-1))])), (q9, .inl (t10, 6, .inr (.inr (.inr (.inr f30))))), (q11, .inr (6, [v14, .int 0])), (q15, .inr (0, [.int 0, .ref d0, .int 0]))]) (w1 := [(q39, .inr (6, [v42, .int 0]))]) hP hD [6] [0, 1, 2, 3, 4, 5] rfl rfl (by decide) (by decide) hk1 hFc hP1 hD1
  have hK := (hK.sub (tys' := [(t2, .object RX2), (t10, .object RX5)]) [0, 1] rfl).app hK1
  generalize H1 = H at hP hS ⊢
  have hP : va_P (dC, dI) vwCl [(h0, .inr (4, [.int a1, .ref a2, .ref a3, .ref q1, .ref q3, .ref q9, .ref q11, .ref q15])), (q1, .inl (t2, 6, .inr (.inr (.inr (.inr f38))))), (q3, .inr (3, [w06, w17, w28, .int 0, .int ((-1)), .int ((-1)), .int ((-1))])), (q9, .inl (t10, 6, .inr (.inr (.inr (.inr f30))))), (q11, .inr (6, [v14, .int 0])), (q15, .inr (0, [.int 0, .ref d0, .int 0])), (q39, .inr (6, [v42, .int 0]))] H := hP
  have hD : va_D A [(h0, .inr (4, [.int a1, .ref a2, .ref a3, .ref q1, .ref q3, .ref q9, .ref q11, .ref q15])), (q1, .inl (t2, 6, .inr (.inr (.inr (.inr f38))))), (q3, .inr (3, [w06, w17, w28, .int 0, .int ((-1)), .int ((-1)), .int ((-1))])), (q9, .inl (t10, 6, .inr (.inr (.inr (.inr f30))))), (q11, .inr (6, [v14, .int 0])), (q15, .inr (0, [.int 0, .ref d0, .int 0])), (q39, .inr (6, [v42, .int 0]))] := hD
  have hK : va_K (dC, dI) vwCl [(t2, .object RX2), (t10, .object RX5)] s := hK
  refine W.widen (k := 21) (n := 654) (Nat.le_of_ble_eq_true rfl) (Nat.le_of_ble_eq_true rfl) ?_
  refine va_astq hx hb hK hP hD hS 3 1 6 6 rfl rfl rfl rfl (vp_in_nI (n := 1) (by decide) (by decide)) dX3_init_107 (fun H locs hP hD hS => ?_)
  have hP : va_P (dC, dI) vwCl [(h0, .inr (4, [.int a1, .ref a2, .ref a3, .ref q1, .ref q3, .ref q9, .ref q11, .ref q15])), (q1, .inl (t2, 6, .inr (.inr (.inr (.inr f38))))), (q3, .inr (3, [w06, w17, w28, .int 0, .int ((-1)), .int ((-1)), .int ((-1))])), (q9, .inl (t10, 6, .inr (.inr (.inr (.inr ((va_up f30 1 (some q39)))))))), (q11, .inr (6, [v14, .int 0])), (q15, .inr (0, [.int 0, .ref d0, .int 0])), (q39, .inr (6, [v42, .int 0]))] H := hP
  have hD : va_D A [(h0, .inr (4, [.int a1, .ref a2, .ref a3, .ref q1, .ref q3, .ref q9, .ref q11, .ref q15])), (q1, .inl (t2, 6, .inr (.inr (.inr (.inr f38))))), (q3, .inr (3, [w06, w17, w28, .int 0, .int ((-1)), .int ((-1)), .int ((-1))])), (q9, .inl (t10, 6, .inr (.inr (.inr (.inr ((va_up f30 1 (some q39)))))))), (q11, .inr (6, [v14, .int 0])), (q15, .inr (0, [.int 0, .ref d0, .int 0])), (q39, .inr (6, [v42, .int 0]))] := hD
  generalize (va_up f30 1 (some q39)) = f43 at hP hD
  have hP := hP.sub (ws' := [(h0, .inr (4, [.int a1, .ref a2, .ref a3, .ref q1, .ref q3, .ref q9, .ref q11, .ref q15])), (q1, .inl (t2, 6, .inr (.inr (.inr (.inr f38))))), (q3, .inr (3, [w06, w17, w28, .int 0, .int ((-1)), .int ((-1)), .int ((-1))])), (q9, .inl (t10, 6, .inr (.inr (.inr (.inr f43))))), (q11, .inr (6, [v14, .int 0])), (q15, .inr (0, [.int 0, .ref d0, .int 0]))]) [0, 1, 2, 3, 4, 5] rfl
  have hD := hD.sub (ws' := [(h0, .inr (4, [.int a1, .ref a2, .ref a3, .ref q1, .ref q3, .ref q9, .ref q11, .ref q15])), (q1, .inl (t2, 6, .inr (.inr (.inr (.inr f38))))), (q3, .inr (3, [w06, w17, w28, .int 0, .int ((-1)), .int ((-1)), .int ((-1))])), (q9, .inl (t10, 6, .inr (.inr (.inr (.inr f43))))), (q11, .inr (6, [v14, .int 0])), (q15, .inr (0, [.int 0, .ref d0, .int 0]))]) [0, 1, 2, 3, 4, 5] (by decide) rfl
  refine lv_iinc (v := 2) (lv' := [(4, .int 2), (0, .ref h0), (1, .int a1), (2, .ref a2), (3, .ref a3)]) hx hb dX3_init_108 hl (k := 0) rfl (by decide) (by decide) rfl (fun ls hl => ?_)
  refine lv_goto (tgt := 73) hx hb dX3_init_111 (by decide) ?_
  refine lv_iload hx hb dX3_init_73 (lv_at hl 0 rfl) ?_
  refine lv_bipush (v := 6) hx hb dX3_init_75 (by decide) ?_
  refine lv_icmp_ge (tgt := 114) hx hb dX3_init_77 (by decide) (fun c44 => False.elim (by revert c44; decide)) (fun c44 => ?_)
  refine lv_aload_n hx hb dX3_init_80 rfl (lv_at hl 1 rfl) ?_
  refine va_get (D := (dC, dI)) (ci := 4) (v := .ref q1) (C := RX3) (T := TX3) (N := 8) hx hb ht inGX3 hown hK hP 0 rfl rfl 3 (by decide) (ht _ q315) (fun _ h9 => h9) rfl dX3_init_81 ?_
  refine lv_iload hx hb dX3_init_84 (lv_at hl 0 rfl) ?_
  refine va_new (ci := 3) (fs := [.null, .null, .null, .int 0, .int 0, .int 0, .int 0]) (C := RX2) (T := TX2) (N := 7) hx hb ht inGX2 tyX2 tyX2_ok hown (ht _ q251) (ht _ q253) (ht _ q131) hK hP hD hS hA rfl (fun j hj => by rcases (show j = 0 ∨ j = 1 ∨ j = 2 ∨ j = 3 ∨ j = 4 ∨ j = 5 ∨ j = 6 by omega) with rfl | rfl | rfl | rfl | rfl | rfl | rfl <;> rfl) (Nat.le_of_ble_eq_true rfl) (Nat.le_of_ble_eq_true rfl) dX3_init_86 (fun q45 H hP hD hS => ?_)
  have hP : va_P (dC, dI) vwCl [(h0, .inr (4, [.int a1, .ref a2, .ref a3, .ref q1, .ref q3, .ref q9, .ref q11, .ref q15])), (q1, .inl (t2, 6, .inr (.inr (.inr (.inr f38))))), (q3, .inr (3, [w06, w17, w28, .int 0, .int ((-1)), .int ((-1)), .int ((-1))])), (q9, .inl (t10, 6, .inr (.inr (.inr (.inr f43))))), (q11, .inr (6, [v14, .int 0])), (q15, .inr (0, [.int 0, .ref d0, .int 0])), (q45, .inr (3, [.null, .null, .null, .int 0, .int 0, .int 0, .int 0]))] H := hP
  have hD : va_D A [(h0, .inr (4, [.int a1, .ref a2, .ref a3, .ref q1, .ref q3, .ref q9, .ref q11, .ref q15])), (q1, .inl (t2, 6, .inr (.inr (.inr (.inr f38))))), (q3, .inr (3, [w06, w17, w28, .int 0, .int ((-1)), .int ((-1)), .int ((-1))])), (q9, .inl (t10, 6, .inr (.inr (.inr (.inr f43))))), (q11, .inr (6, [v14, .int 0])), (q15, .inr (0, [.int 0, .ref d0, .int 0])), (q45, .inr (3, [.null, .null, .null, .int 0, .int 0, .int 0, .int 0]))] := hD
  refine W.widen (k := 22) (n := 661) (Nat.le_of_ble_eq_true rfl) (Nat.le_of_ble_eq_true rfl) ?_
  refine lv_dup hx hb dX3_init_89 rfl ?_
  have hPc := hP.sub (ws' := [(q45, .inr (3, [.null, .null, .null, .int 0, .int 0, .int 0, .int 0]))]) [6] rfl
  have hDc := hD.sub (ws' := [(q45, .inr (3, [.null, .null, .null, .int 0, .int 0, .int 0, .int 0]))]) [6] (by decide) rfl
  have hKc := hK.sub (tys' := []) [] rfl
  have hFc := va_free (wc := [(q45, .inr (3, [.null, .null, .null, .int 0, .int 0, .int 0, .int 0]))]) hD hS hA [6] rfl
  refine va_callv (va_runIN (As := []) (rest := [.ref q45, .int 2, .ref q1]) ⟨hx, hb, hml, hown, ht⟩ (k_X2_init l d0 cO dC dI H.size q45 .null .null .null 0 0 0 0) (my_NI ht M_X2_init q255 rfl q254 (Nat.le_of_ble_eq_true rfl) (Nat.le_of_ble_eq_true rfl)) ⟨PRE.fb, fun U hU hW => ⟨rfl, PRE.mk' hE hS hFc hPc hKc hDc U hU hW⟩⟩ rfl rfl hl.1 rfl (lv_room (Nat.le_of_ble_eq_true rfl)) dX3_init_90 ⟨(Nat.le_of_ble_eq_true rfl), (Nat.le_of_ble_eq_true rfl)⟩) hS (fun q _ h => hFc q h) hFc (fun u46 t H1 locs htt hvm hw hB hz1 hk1 hS => ?_)
  try dsimp only at hw hB
  obtain ⟨w048, w149, w250, hP1, hK1, hD1⟩ := hB
  rw [htt] at hP1
  have hK1 := va_K.moved hvm.symm hK1
  obtain ⟨hP, hD⟩ := va_join (wr := [(h0, .inr (4, [.int a1, .ref a2, .ref a3, .ref q1, .ref q3, .ref q9, .ref q11, .ref q15])), (q1, .inl (t2, 6, .inr (.inr (.inr (.inr f38))))), (q3, .inr (3, [w06, w17, w28, .int 0, .int ((-1)), .int ((-1)), .int ((-1))])), (q9, .inl (t10, 6, .inr (.inr (.inr (.inr f43))))), (q11, .inr (6, [v14, .int 0])), (q15, .inr (0, [.int 0, .ref d0, .int 0]))]) (w1 := [(q45, .inr (3, [w048, w149, w250, .int 0, .int ((-1)), .int ((-1)), .int ((-1))]))]) hP hD [6] [0, 1, 2, 3, 4, 5] rfl rfl (by decide) (by decide) hk1 hFc hP1 hD1
  have hK := (hK.sub (tys' := [(t2, .object RX2), (t10, .object RX5)]) [0, 1] rfl).app hK1
  generalize H1 = H at hP hS ⊢
  have hP : va_P (dC, dI) vwCl [(h0, .inr (4, [.int a1, .ref a2, .ref a3, .ref q1, .ref q3, .ref q9, .ref q11, .ref q15])), (q1, .inl (t2, 6, .inr (.inr (.inr (.inr f38))))), (q3, .inr (3, [w06, w17, w28, .int 0, .int ((-1)), .int ((-1)), .int ((-1))])), (q9, .inl (t10, 6, .inr (.inr (.inr (.inr f43))))), (q11, .inr (6, [v14, .int 0])), (q15, .inr (0, [.int 0, .ref d0, .int 0])), (q45, .inr (3, [w048, w149, w250, .int 0, .int ((-1)), .int ((-1)), .int ((-1))]))] H := hP
  have hD : va_D A [(h0, .inr (4, [.int a1, .ref a2, .ref a3, .ref q1, .ref q3, .ref q9, .ref q11, .ref q15])), (q1, .inl (t2, 6, .inr (.inr (.inr (.inr f38))))), (q3, .inr (3, [w06, w17, w28, .int 0, .int ((-1)), .int ((-1)), .int ((-1))])), (q9, .inl (t10, 6, .inr (.inr (.inr (.inr f43))))), (q11, .inr (6, [v14, .int 0])), (q15, .inr (0, [.int 0, .ref d0, .int 0])), (q45, .inr (3, [w048, w149, w250, .int 0, .int ((-1)), .int ((-1)), .int ((-1))]))] := hD
  have hK : va_K (dC, dI) vwCl [(t2, .object RX2), (t10, .object RX5)] s := hK
  refine W.widen (k := 26) (n := 865) (Nat.le_of_ble_eq_true rfl) (Nat.le_of_ble_eq_true rfl) ?_
  refine va_astq hx hb hK hP hD hS 1 0 6 3 rfl rfl rfl rfl (vp_in_nI (n := 2) (by decide) (by decide)) dX3_init_93 (fun H locs hP hD hS => ?_)
  have hP : va_P (dC, dI) vwCl [(h0, .inr (4, [.int a1, .ref a2, .ref a3, .ref q1, .ref q3, .ref q9, .ref q11, .ref q15])), (q1, .inl (t2, 6, .inr (.inr (.inr (.inr ((va_up f38 2 (some q45)))))))), (q3, .inr (3, [w06, w17, w28, .int 0, .int ((-1)), .int ((-1)), .int ((-1))])), (q9, .inl (t10, 6, .inr (.inr (.inr (.inr f43))))), (q11, .inr (6, [v14, .int 0])), (q15, .inr (0, [.int 0, .ref d0, .int 0])), (q45, .inr (3, [w048, w149, w250, .int 0, .int ((-1)), .int ((-1)), .int ((-1))]))] H := hP
  have hD : va_D A [(h0, .inr (4, [.int a1, .ref a2, .ref a3, .ref q1, .ref q3, .ref q9, .ref q11, .ref q15])), (q1, .inl (t2, 6, .inr (.inr (.inr (.inr ((va_up f38 2 (some q45)))))))), (q3, .inr (3, [w06, w17, w28, .int 0, .int ((-1)), .int ((-1)), .int ((-1))])), (q9, .inl (t10, 6, .inr (.inr (.inr (.inr f43))))), (q11, .inr (6, [v14, .int 0])), (q15, .inr (0, [.int 0, .ref d0, .int 0])), (q45, .inr (3, [w048, w149, w250, .int 0, .int ((-1)), .int ((-1)), .int ((-1))]))] := hD
  generalize (va_up f38 2 (some q45)) = f51 at hP hD
  have hP := hP.sub (ws' := [(h0, .inr (4, [.int a1, .ref a2, .ref a3, .ref q1, .ref q3, .ref q9, .ref q11, .ref q15])), (q1, .inl (t2, 6, .inr (.inr (.inr (.inr f51))))), (q3, .inr (3, [w06, w17, w28, .int 0, .int ((-1)), .int ((-1)), .int ((-1))])), (q9, .inl (t10, 6, .inr (.inr (.inr (.inr f43))))), (q11, .inr (6, [v14, .int 0])), (q15, .inr (0, [.int 0, .ref d0, .int 0]))]) [0, 1, 2, 3, 4, 5] rfl
  have hD := hD.sub (ws' := [(h0, .inr (4, [.int a1, .ref a2, .ref a3, .ref q1, .ref q3, .ref q9, .ref q11, .ref q15])), (q1, .inl (t2, 6, .inr (.inr (.inr (.inr f51))))), (q3, .inr (3, [w06, w17, w28, .int 0, .int ((-1)), .int ((-1)), .int ((-1))])), (q9, .inl (t10, 6, .inr (.inr (.inr (.inr f43))))), (q11, .inr (6, [v14, .int 0])), (q15, .inr (0, [.int 0, .ref d0, .int 0]))]) [0, 1, 2, 3, 4, 5] (by decide) rfl
  refine lv_aload_n hx hb dX3_init_94 rfl (lv_at hl 1 rfl) ?_
  refine va_get (D := (dC, dI)) (ci := 4) (v := .ref q9) (C := RX3) (T := TX3) (N := 8) hx hb ht inGX3 hown hK hP 0 rfl rfl 5 (by decide) (ht _ q317) (fun _ h9 => h9) rfl dX3_init_95 ?_
  refine lv_iload hx hb dX3_init_98 (lv_at hl 0 rfl) ?_
  refine va_new (ci := 6) (fs := [.null, .int 0]) (C := RX5) (T := TX5) (N := 2) hx hb ht inGX5 tyX5 tyX5_ok hown (ht _ q295) (ht _ q297) (ht _ q132) hK hP hD hS hA rfl (fun j hj => by rcases (show j = 0 ∨ j = 1 by omega) with rfl | rfl <;> rfl) (Nat.le_of_ble_eq_true rfl) (Nat.le_of_ble_eq_true rfl) dX3_init_100 (fun q52 H hP hD hS => ?_)
  have hP : va_P (dC, dI) vwCl [(h0, .inr (4, [.int a1, .ref a2, .ref a3, .ref q1, .ref q3, .ref q9, .ref q11, .ref q15])), (q1, .inl (t2, 6, .inr (.inr (.inr (.inr f51))))), (q3, .inr (3, [w06, w17, w28, .int 0, .int ((-1)), .int ((-1)), .int ((-1))])), (q9, .inl (t10, 6, .inr (.inr (.inr (.inr f43))))), (q11, .inr (6, [v14, .int 0])), (q15, .inr (0, [.int 0, .ref d0, .int 0])), (q52, .inr (6, [.null, .int 0]))] H := hP
  have hD : va_D A [(h0, .inr (4, [.int a1, .ref a2, .ref a3, .ref q1, .ref q3, .ref q9, .ref q11, .ref q15])), (q1, .inl (t2, 6, .inr (.inr (.inr (.inr f51))))), (q3, .inr (3, [w06, w17, w28, .int 0, .int ((-1)), .int ((-1)), .int ((-1))])), (q9, .inl (t10, 6, .inr (.inr (.inr (.inr f43))))), (q11, .inr (6, [v14, .int 0])), (q15, .inr (0, [.int 0, .ref d0, .int 0])), (q52, .inr (6, [.null, .int 0]))] := hD
  refine W.widen (k := 27) (n := 867) (Nat.le_of_ble_eq_true rfl) (Nat.le_of_ble_eq_true rfl) ?_
  refine lv_dup hx hb dX3_init_103 rfl ?_
  have hPc := hP.sub (ws' := [(q52, .inr (6, [.null, .int 0]))]) [6] rfl
  have hDc := hD.sub (ws' := [(q52, .inr (6, [.null, .int 0]))]) [6] (by decide) rfl
  have hKc := hK.sub (tys' := []) [] rfl
  have hFc := va_free (wc := [(q52, .inr (6, [.null, .int 0]))]) hD hS hA [6] rfl
  refine va_callv (va_runIN (As := []) (rest := [.ref q52, .int 2, .ref q9]) ⟨hx, hb, hml, hown, ht⟩ (k_X5_init l d0 cO dC dI H.size q52 .null 0) (my_NI ht M_X5_init q299 rfl q298 (Nat.le_of_ble_eq_true rfl) (Nat.le_of_ble_eq_true rfl)) ⟨PRE.fb, fun U hU hW => ⟨rfl, PRE.mk' hE hS hFc hPc hKc hDc U hU hW⟩⟩ rfl rfl hl.1 rfl (lv_room (Nat.le_of_ble_eq_true rfl)) dX3_init_104 ⟨(Nat.le_of_ble_eq_true rfl), (Nat.le_of_ble_eq_true rfl)⟩) hS (fun q _ h => hFc q h) hFc (fun u53 t H1 locs htt hvm hw hB hz1 hk1 hS => ?_)
  try dsimp only at hw hB
  obtain ⟨v55, hP1, hK1, hD1⟩ := hB
  rw [htt] at hP1
  have hK1 := va_K.moved hvm.symm hK1
  obtain ⟨hP, hD⟩ := va_join (wr := [(h0, .inr (4, [.int a1, .ref a2, .ref a3, .ref q1, .ref q3, .ref q9, .ref q11, .ref q15])), (q1, .inl (t2, 6, .inr (.inr (.inr (.inr f51))))), (q3, .inr (3, [w06, w17, w28, .int 0, .int ((-1)), .int ((-1)), .int ((-1))])), (q9, .inl (t10, 6, .inr (.inr (.inr (.inr f43))))), (q11, .inr (6, [v14, .int 0])), (q15, .inr (0, [.int 0, .ref d0, .int 0]))]) (w1 := [(q52, .inr (6, [v55, .int 0]))]) hP hD [6] [0, 1, 2, 3, 4, 5] rfl rfl (by decide) (by decide) hk1 hFc hP1 hD1
  have hK := (hK.sub (tys' := [(t2, .object RX2), (t10, .object RX5)]) [0, 1] rfl).app hK1
  generalize H1 = H at hP hS ⊢
  have hP : va_P (dC, dI) vwCl [(h0, .inr (4, [.int a1, .ref a2, .ref a3, .ref q1, .ref q3, .ref q9, .ref q11, .ref q15])), (q1, .inl (t2, 6, .inr (.inr (.inr (.inr f51))))), (q3, .inr (3, [w06, w17, w28, .int 0, .int ((-1)), .int ((-1)), .int ((-1))])), (q9, .inl (t10, 6, .inr (.inr (.inr (.inr f43))))), (q11, .inr (6, [v14, .int 0])), (q15, .inr (0, [.int 0, .ref d0, .int 0])), (q52, .inr (6, [v55, .int 0]))] H := hP
  have hD : va_D A [(h0, .inr (4, [.int a1, .ref a2, .ref a3, .ref q1, .ref q3, .ref q9, .ref q11, .ref q15])), (q1, .inl (t2, 6, .inr (.inr (.inr (.inr f51))))), (q3, .inr (3, [w06, w17, w28, .int 0, .int ((-1)), .int ((-1)), .int ((-1))])), (q9, .inl (t10, 6, .inr (.inr (.inr (.inr f43))))), (q11, .inr (6, [v14, .int 0])), (q15, .inr (0, [.int 0, .ref d0, .int 0])), (q52, .inr (6, [v55, .int 0]))] := hD
  have hK : va_K (dC, dI) vwCl [(t2, .object RX2), (t10, .object RX5)] s := hK
  refine W.widen (k := 27) (n := 867) (Nat.le_of_ble_eq_true rfl) (Nat.le_of_ble_eq_true rfl) ?_
  refine va_astq hx hb hK hP hD hS 3 1 6 6 rfl rfl rfl rfl (vp_in_nI (n := 2) (by decide) (by decide)) dX3_init_107 (fun H locs hP hD hS => ?_)
  have hP : va_P (dC, dI) vwCl [(h0, .inr (4, [.int a1, .ref a2, .ref a3, .ref q1, .ref q3, .ref q9, .ref q11, .ref q15])), (q1, .inl (t2, 6, .inr (.inr (.inr (.inr f51))))), (q3, .inr (3, [w06, w17, w28, .int 0, .int ((-1)), .int ((-1)), .int ((-1))])), (q9, .inl (t10, 6, .inr (.inr (.inr (.inr ((va_up f43 2 (some q52)))))))), (q11, .inr (6, [v14, .int 0])), (q15, .inr (0, [.int 0, .ref d0, .int 0])), (q52, .inr (6, [v55, .int 0]))] H := hP
  have hD : va_D A [(h0, .inr (4, [.int a1, .ref a2, .ref a3, .ref q1, .ref q3, .ref q9, .ref q11, .ref q15])), (q1, .inl (t2, 6, .inr (.inr (.inr (.inr f51))))), (q3, .inr (3, [w06, w17, w28, .int 0, .int ((-1)), .int ((-1)), .int ((-1))])), (q9, .inl (t10, 6, .inr (.inr (.inr (.inr ((va_up f43 2 (some q52)))))))), (q11, .inr (6, [v14, .int 0])), (q15, .inr (0, [.int 0, .ref d0, .int 0])), (q52, .inr (6, [v55, .int 0]))] := hD
  generalize (va_up f43 2 (some q52)) = f56 at hP hD
  have hP := hP.sub (ws' := [(h0, .inr (4, [.int a1, .ref a2, .ref a3, .ref q1, .ref q3, .ref q9, .ref q11, .ref q15])), (q1, .inl (t2, 6, .inr (.inr (.inr (.inr f51))))), (q3, .inr (3, [w06, w17, w28, .int 0, .int ((-1)), .int ((-1)), .int ((-1))])), (q9, .inl (t10, 6, .inr (.inr (.inr (.inr f56))))), (q11, .inr (6, [v14, .int 0])), (q15, .inr (0, [.int 0, .ref d0, .int 0]))]) [0, 1, 2, 3, 4, 5] rfl
  have hD := hD.sub (ws' := [(h0, .inr (4, [.int a1, .ref a2, .ref a3, .ref q1, .ref q3, .ref q9, .ref q11, .ref q15])), (q1, .inl (t2, 6, .inr (.inr (.inr (.inr f51))))), (q3, .inr (3, [w06, w17, w28, .int 0, .int ((-1)), .int ((-1)), .int ((-1))])), (q9, .inl (t10, 6, .inr (.inr (.inr (.inr f56))))), (q11, .inr (6, [v14, .int 0])), (q15, .inr (0, [.int 0, .ref d0, .int 0]))]) [0, 1, 2, 3, 4, 5] (by decide) rfl
  refine lv_iinc (v := 3) (lv' := [(4, .int 3), (0, .ref h0), (1, .int a1), (2, .ref a2), (3, .ref a3)]) hx hb dX3_init_108 hl (k := 0) rfl (by decide) (by decide) rfl (fun ls hl => ?_)
  refine lv_goto (tgt := 73) hx hb dX3_init_111 (by decide) ?_
  refine lv_iload hx hb dX3_init_73 (lv_at hl 0 rfl) ?_
  refine lv_bipush (v := 6) hx hb dX3_init_75 (by decide) ?_
  refine lv_icmp_ge (tgt := 114) hx hb dX3_init_77 (by decide) (fun c57 => False.elim (by revert c57; decide)) (fun c57 => ?_)
  refine lv_aload_n hx hb dX3_init_80 rfl (lv_at hl 1 rfl) ?_
  refine va_get (D := (dC, dI)) (ci := 4) (v := .ref q1) (C := RX3) (T := TX3) (N := 8) hx hb ht inGX3 hown hK hP 0 rfl rfl 3 (by decide) (ht _ q315) (fun _ h9 => h9) rfl dX3_init_81 ?_
  refine lv_iload hx hb dX3_init_84 (lv_at hl 0 rfl) ?_
  refine va_new (ci := 3) (fs := [.null, .null, .null, .int 0, .int 0, .int 0, .int 0]) (C := RX2) (T := TX2) (N := 7) hx hb ht inGX2 tyX2 tyX2_ok hown (ht _ q251) (ht _ q253) (ht _ q131) hK hP hD hS hA rfl (fun j hj => by rcases (show j = 0 ∨ j = 1 ∨ j = 2 ∨ j = 3 ∨ j = 4 ∨ j = 5 ∨ j = 6 by omega) with rfl | rfl | rfl | rfl | rfl | rfl | rfl <;> rfl) (Nat.le_of_ble_eq_true rfl) (Nat.le_of_ble_eq_true rfl) dX3_init_86 (fun q58 H hP hD hS => ?_)
  have hP : va_P (dC, dI) vwCl [(h0, .inr (4, [.int a1, .ref a2, .ref a3, .ref q1, .ref q3, .ref q9, .ref q11, .ref q15])), (q1, .inl (t2, 6, .inr (.inr (.inr (.inr f51))))), (q3, .inr (3, [w06, w17, w28, .int 0, .int ((-1)), .int ((-1)), .int ((-1))])), (q9, .inl (t10, 6, .inr (.inr (.inr (.inr f56))))), (q11, .inr (6, [v14, .int 0])), (q15, .inr (0, [.int 0, .ref d0, .int 0])), (q58, .inr (3, [.null, .null, .null, .int 0, .int 0, .int 0, .int 0]))] H := hP
  have hD : va_D A [(h0, .inr (4, [.int a1, .ref a2, .ref a3, .ref q1, .ref q3, .ref q9, .ref q11, .ref q15])), (q1, .inl (t2, 6, .inr (.inr (.inr (.inr f51))))), (q3, .inr (3, [w06, w17, w28, .int 0, .int ((-1)), .int ((-1)), .int ((-1))])), (q9, .inl (t10, 6, .inr (.inr (.inr (.inr f56))))), (q11, .inr (6, [v14, .int 0])), (q15, .inr (0, [.int 0, .ref d0, .int 0])), (q58, .inr (3, [.null, .null, .null, .int 0, .int 0, .int 0, .int 0]))] := hD
  refine W.widen (k := 28) (n := 874) (Nat.le_of_ble_eq_true rfl) (Nat.le_of_ble_eq_true rfl) ?_
  refine lv_dup hx hb dX3_init_89 rfl ?_
  have hPc := hP.sub (ws' := [(q58, .inr (3, [.null, .null, .null, .int 0, .int 0, .int 0, .int 0]))]) [6] rfl
  have hDc := hD.sub (ws' := [(q58, .inr (3, [.null, .null, .null, .int 0, .int 0, .int 0, .int 0]))]) [6] (by decide) rfl
  have hKc := hK.sub (tys' := []) [] rfl
  have hFc := va_free (wc := [(q58, .inr (3, [.null, .null, .null, .int 0, .int 0, .int 0, .int 0]))]) hD hS hA [6] rfl
  refine va_callv (va_runIN (As := []) (rest := [.ref q58, .int 3, .ref q1]) ⟨hx, hb, hml, hown, ht⟩ (k_X2_init l d0 cO dC dI H.size q58 .null .null .null 0 0 0 0) (my_NI ht M_X2_init q255 rfl q254 (Nat.le_of_ble_eq_true rfl) (Nat.le_of_ble_eq_true rfl)) ⟨PRE.fb, fun U hU hW => ⟨rfl, PRE.mk' hE hS hFc hPc hKc hDc U hU hW⟩⟩ rfl rfl hl.1 rfl (lv_room (Nat.le_of_ble_eq_true rfl)) dX3_init_90 ⟨(Nat.le_of_ble_eq_true rfl), (Nat.le_of_ble_eq_true rfl)⟩) hS (fun q _ h => hFc q h) hFc (fun u59 t H1 locs htt hvm hw hB hz1 hk1 hS => ?_)
  try dsimp only at hw hB
  obtain ⟨w061, w162, w263, hP1, hK1, hD1⟩ := hB
  rw [htt] at hP1
  have hK1 := va_K.moved hvm.symm hK1
  obtain ⟨hP, hD⟩ := va_join (wr := [(h0, .inr (4, [.int a1, .ref a2, .ref a3, .ref q1, .ref q3, .ref q9, .ref q11, .ref q15])), (q1, .inl (t2, 6, .inr (.inr (.inr (.inr f51))))), (q3, .inr (3, [w06, w17, w28, .int 0, .int ((-1)), .int ((-1)), .int ((-1))])), (q9, .inl (t10, 6, .inr (.inr (.inr (.inr f56))))), (q11, .inr (6, [v14, .int 0])), (q15, .inr (0, [.int 0, .ref d0, .int 0]))]) (w1 := [(q58, .inr (3, [w061, w162, w263, .int 0, .int ((-1)), .int ((-1)), .int ((-1))]))]) hP hD [6] [0, 1, 2, 3, 4, 5] rfl rfl (by decide) (by decide) hk1 hFc hP1 hD1
  have hK := (hK.sub (tys' := [(t2, .object RX2), (t10, .object RX5)]) [0, 1] rfl).app hK1
  generalize H1 = H at hP hS ⊢
  have hP : va_P (dC, dI) vwCl [(h0, .inr (4, [.int a1, .ref a2, .ref a3, .ref q1, .ref q3, .ref q9, .ref q11, .ref q15])), (q1, .inl (t2, 6, .inr (.inr (.inr (.inr f51))))), (q3, .inr (3, [w06, w17, w28, .int 0, .int ((-1)), .int ((-1)), .int ((-1))])), (q9, .inl (t10, 6, .inr (.inr (.inr (.inr f56))))), (q11, .inr (6, [v14, .int 0])), (q15, .inr (0, [.int 0, .ref d0, .int 0])), (q58, .inr (3, [w061, w162, w263, .int 0, .int ((-1)), .int ((-1)), .int ((-1))]))] H := hP
  have hD : va_D A [(h0, .inr (4, [.int a1, .ref a2, .ref a3, .ref q1, .ref q3, .ref q9, .ref q11, .ref q15])), (q1, .inl (t2, 6, .inr (.inr (.inr (.inr f51))))), (q3, .inr (3, [w06, w17, w28, .int 0, .int ((-1)), .int ((-1)), .int ((-1))])), (q9, .inl (t10, 6, .inr (.inr (.inr (.inr f56))))), (q11, .inr (6, [v14, .int 0])), (q15, .inr (0, [.int 0, .ref d0, .int 0])), (q58, .inr (3, [w061, w162, w263, .int 0, .int ((-1)), .int ((-1)), .int ((-1))]))] := hD
  have hK : va_K (dC, dI) vwCl [(t2, .object RX2), (t10, .object RX5)] s := hK
  refine W.widen (k := 32) (n := 1078) (Nat.le_of_ble_eq_true rfl) (Nat.le_of_ble_eq_true rfl) ?_
  refine va_astq hx hb hK hP hD hS 1 0 6 3 rfl rfl rfl rfl (vp_in_nI (n := 3) (by decide) (by decide)) dX3_init_93 (fun H locs hP hD hS => ?_)
  have hP : va_P (dC, dI) vwCl [(h0, .inr (4, [.int a1, .ref a2, .ref a3, .ref q1, .ref q3, .ref q9, .ref q11, .ref q15])), (q1, .inl (t2, 6, .inr (.inr (.inr (.inr ((va_up f51 3 (some q58)))))))), (q3, .inr (3, [w06, w17, w28, .int 0, .int ((-1)), .int ((-1)), .int ((-1))])), (q9, .inl (t10, 6, .inr (.inr (.inr (.inr f56))))), (q11, .inr (6, [v14, .int 0])), (q15, .inr (0, [.int 0, .ref d0, .int 0])), (q58, .inr (3, [w061, w162, w263, .int 0, .int ((-1)), .int ((-1)), .int ((-1))]))] H := hP
  have hD : va_D A [(h0, .inr (4, [.int a1, .ref a2, .ref a3, .ref q1, .ref q3, .ref q9, .ref q11, .ref q15])), (q1, .inl (t2, 6, .inr (.inr (.inr (.inr ((va_up f51 3 (some q58)))))))), (q3, .inr (3, [w06, w17, w28, .int 0, .int ((-1)), .int ((-1)), .int ((-1))])), (q9, .inl (t10, 6, .inr (.inr (.inr (.inr f56))))), (q11, .inr (6, [v14, .int 0])), (q15, .inr (0, [.int 0, .ref d0, .int 0])), (q58, .inr (3, [w061, w162, w263, .int 0, .int ((-1)), .int ((-1)), .int ((-1))]))] := hD
  generalize (va_up f51 3 (some q58)) = f64 at hP hD
  have hP := hP.sub (ws' := [(h0, .inr (4, [.int a1, .ref a2, .ref a3, .ref q1, .ref q3, .ref q9, .ref q11, .ref q15])), (q1, .inl (t2, 6, .inr (.inr (.inr (.inr f64))))), (q3, .inr (3, [w06, w17, w28, .int 0, .int ((-1)), .int ((-1)), .int ((-1))])), (q9, .inl (t10, 6, .inr (.inr (.inr (.inr f56))))), (q11, .inr (6, [v14, .int 0])), (q15, .inr (0, [.int 0, .ref d0, .int 0]))]) [0, 1, 2, 3, 4, 5] rfl
  have hD := hD.sub (ws' := [(h0, .inr (4, [.int a1, .ref a2, .ref a3, .ref q1, .ref q3, .ref q9, .ref q11, .ref q15])), (q1, .inl (t2, 6, .inr (.inr (.inr (.inr f64))))), (q3, .inr (3, [w06, w17, w28, .int 0, .int ((-1)), .int ((-1)), .int ((-1))])), (q9, .inl (t10, 6, .inr (.inr (.inr (.inr f56))))), (q11, .inr (6, [v14, .int 0])), (q15, .inr (0, [.int 0, .ref d0, .int 0]))]) [0, 1, 2, 3, 4, 5] (by decide) rfl
  refine lv_aload_n hx hb dX3_init_94 rfl (lv_at hl 1 rfl) ?_
  refine va_get (D := (dC, dI)) (ci := 4) (v := .ref q9) (C := RX3) (T := TX3) (N := 8) hx hb ht inGX3 hown hK hP 0 rfl rfl 5 (by decide) (ht _ q317) (fun _ h9 => h9) rfl dX3_init_95 ?_
  refine lv_iload hx hb dX3_init_98 (lv_at hl 0 rfl) ?_
  refine va_new (ci := 6) (fs := [.null, .int 0]) (C := RX5) (T := TX5) (N := 2) hx hb ht inGX5 tyX5 tyX5_ok hown (ht _ q295) (ht _ q297) (ht _ q132) hK hP hD hS hA rfl (fun j hj => by rcases (show j = 0 ∨ j = 1 by omega) with rfl | rfl <;> rfl) (Nat.le_of_ble_eq_true rfl) (Nat.le_of_ble_eq_true rfl) dX3_init_100 (fun q65 H hP hD hS => ?_)
  have hP : va_P (dC, dI) vwCl [(h0, .inr (4, [.int a1, .ref a2, .ref a3, .ref q1, .ref q3, .ref q9, .ref q11, .ref q15])), (q1, .inl (t2, 6, .inr (.inr (.inr (.inr f64))))), (q3, .inr (3, [w06, w17, w28, .int 0, .int ((-1)), .int ((-1)), .int ((-1))])), (q9, .inl (t10, 6, .inr (.inr (.inr (.inr f56))))), (q11, .inr (6, [v14, .int 0])), (q15, .inr (0, [.int 0, .ref d0, .int 0])), (q65, .inr (6, [.null, .int 0]))] H := hP
  have hD : va_D A [(h0, .inr (4, [.int a1, .ref a2, .ref a3, .ref q1, .ref q3, .ref q9, .ref q11, .ref q15])), (q1, .inl (t2, 6, .inr (.inr (.inr (.inr f64))))), (q3, .inr (3, [w06, w17, w28, .int 0, .int ((-1)), .int ((-1)), .int ((-1))])), (q9, .inl (t10, 6, .inr (.inr (.inr (.inr f56))))), (q11, .inr (6, [v14, .int 0])), (q15, .inr (0, [.int 0, .ref d0, .int 0])), (q65, .inr (6, [.null, .int 0]))] := hD
  refine W.widen (k := 33) (n := 1080) (Nat.le_of_ble_eq_true rfl) (Nat.le_of_ble_eq_true rfl) ?_
  refine lv_dup hx hb dX3_init_103 rfl ?_
  have hPc := hP.sub (ws' := [(q65, .inr (6, [.null, .int 0]))]) [6] rfl
  have hDc := hD.sub (ws' := [(q65, .inr (6, [.null, .int 0]))]) [6] (by decide) rfl
  have hKc := hK.sub (tys' := []) [] rfl
  have hFc := va_free (wc := [(q65, .inr (6, [.null, .int 0]))]) hD hS hA [6] rfl
  refine va_callv (va_runIN (As := []) (rest := [.ref q65, .int 3, .ref q9]) ⟨hx, hb, hml, hown, ht⟩ (k_X5_init l d0 cO dC dI H.size q65 .null 0) (my_NI ht M_X5_init q299 rfl q298 (Nat.le_of_ble_eq_true rfl) (Nat.le_of_ble_eq_true rfl)) ⟨PRE.fb, fun U hU hW => ⟨rfl, PRE.mk' hE hS hFc hPc hKc hDc U hU hW⟩⟩ rfl rfl hl.1 rfl (lv_room (Nat.le_of_ble_eq_true rfl)) dX3_init_104 ⟨(Nat.le_of_ble_eq_true rfl), (Nat.le_of_ble_eq_true rfl)⟩) hS (fun q _ h => hFc q h) hFc (fun u66 t H1 locs htt hvm hw hB hz1 hk1 hS => ?_)
  try dsimp only at hw hB
  obtain ⟨v68, hP1, hK1, hD1⟩ := hB
  rw [htt] at hP1
  have hK1 := va_K.moved hvm.symm hK1
  obtain ⟨hP, hD⟩ := va_join (wr := [(h0, .inr (4, [.int a1, .ref a2, .ref a3, .ref q1, .ref q3, .ref q9, .ref q11, .ref q15])), (q1, .inl (t2, 6, .inr (.inr (.inr (.inr f64))))), (q3, .inr (3, [w06, w17, w28, .int 0, .int ((-1)), .int ((-1)), .int ((-1))])), (q9, .inl (t10, 6, .inr (.inr (.inr (.inr f56))))), (q11, .inr (6, [v14, .int 0])), (q15, .inr (0, [.int 0, .ref d0, .int 0]))]) (w1 := [(q65, .inr (6, [v68, .int 0]))]) hP hD [6] [0, 1, 2, 3, 4, 5] rfl rfl (by decide) (by decide) hk1 hFc hP1 hD1
  have hK := (hK.sub (tys' := [(t2, .object RX2), (t10, .object RX5)]) [0, 1] rfl).app hK1
  generalize H1 = H at hP hS ⊢
  have hP : va_P (dC, dI) vwCl [(h0, .inr (4, [.int a1, .ref a2, .ref a3, .ref q1, .ref q3, .ref q9, .ref q11, .ref q15])), (q1, .inl (t2, 6, .inr (.inr (.inr (.inr f64))))), (q3, .inr (3, [w06, w17, w28, .int 0, .int ((-1)), .int ((-1)), .int ((-1))])), (q9, .inl (t10, 6, .inr (.inr (.inr (.inr f56))))), (q11, .inr (6, [v14, .int 0])), (q15, .inr (0, [.int 0, .ref d0, .int 0])), (q65, .inr (6, [v68, .int 0]))] H := hP
  have hD : va_D A [(h0, .inr (4, [.int a1, .ref a2, .ref a3, .ref q1, .ref q3, .ref q9, .ref q11, .ref q15])), (q1, .inl (t2, 6, .inr (.inr (.inr (.inr f64))))), (q3, .inr (3, [w06, w17, w28, .int 0, .int ((-1)), .int ((-1)), .int ((-1))])), (q9, .inl (t10, 6, .inr (.inr (.inr (.inr f56))))), (q11, .inr (6, [v14, .int 0])), (q15, .inr (0, [.int 0, .ref d0, .int 0])), (q65, .inr (6, [v68, .int 0]))] := hD
  have hK : va_K (dC, dI) vwCl [(t2, .object RX2), (t10, .object RX5)] s := hK
  refine W.widen (k := 33) (n := 1080) (Nat.le_of_ble_eq_true rfl) (Nat.le_of_ble_eq_true rfl) ?_
  refine va_astq hx hb hK hP hD hS 3 1 6 6 rfl rfl rfl rfl (vp_in_nI (n := 3) (by decide) (by decide)) dX3_init_107 (fun H locs hP hD hS => ?_)
  have hP : va_P (dC, dI) vwCl [(h0, .inr (4, [.int a1, .ref a2, .ref a3, .ref q1, .ref q3, .ref q9, .ref q11, .ref q15])), (q1, .inl (t2, 6, .inr (.inr (.inr (.inr f64))))), (q3, .inr (3, [w06, w17, w28, .int 0, .int ((-1)), .int ((-1)), .int ((-1))])), (q9, .inl (t10, 6, .inr (.inr (.inr (.inr ((va_up f56 3 (some q65)))))))), (q11, .inr (6, [v14, .int 0])), (q15, .inr (0, [.int 0, .ref d0, .int 0])), (q65, .inr (6, [v68, .int 0]))] H := hP
  have hD : va_D A [(h0, .inr (4, [.int a1, .ref a2, .ref a3, .ref q1, .ref q3, .ref q9, .ref q11, .ref q15])), (q1, .inl (t2, 6, .inr (.inr (.inr (.inr f64))))), (q3, .inr (3, [w06, w17, w28, .int 0, .int ((-1)), .int ((-1)), .int ((-1))])), (q9, .inl (t10, 6, .inr (.inr (.inr (.inr ((va_up f56 3 (some q65)))))))), (q11, .inr (6, [v14, .int 0])), (q15, .inr (0, [.int 0, .ref d0, .int 0])), (q65, .inr (6, [v68, .int 0]))] := hD
  generalize (va_up f56 3 (some q65)) = f69 at hP hD
  have hP := hP.sub (ws' := [(h0, .inr (4, [.int a1, .ref a2, .ref a3, .ref q1, .ref q3, .ref q9, .ref q11, .ref q15])), (q1, .inl (t2, 6, .inr (.inr (.inr (.inr f64))))), (q3, .inr (3, [w06, w17, w28, .int 0, .int ((-1)), .int ((-1)), .int ((-1))])), (q9, .inl (t10, 6, .inr (.inr (.inr (.inr f69))))), (q11, .inr (6, [v14, .int 0])), (q15, .inr (0, [.int 0, .ref d0, .int 0]))]) [0, 1, 2, 3, 4, 5] rfl
  have hD := hD.sub (ws' := [(h0, .inr (4, [.int a1, .ref a2, .ref a3, .ref q1, .ref q3, .ref q9, .ref q11, .ref q15])), (q1, .inl (t2, 6, .inr (.inr (.inr (.inr f64))))), (q3, .inr (3, [w06, w17, w28, .int 0, .int ((-1)), .int ((-1)), .int ((-1))])), (q9, .inl (t10, 6, .inr (.inr (.inr (.inr f69))))), (q11, .inr (6, [v14, .int 0])), (q15, .inr (0, [.int 0, .ref d0, .int 0]))]) [0, 1, 2, 3, 4, 5] (by decide) rfl
  refine lv_iinc (v := 4) (lv' := [(4, .int 4), (0, .ref h0), (1, .int a1), (2, .ref a2), (3, .ref a3)]) hx hb dX3_init_108 hl (k := 0) rfl (by decide) (by decide) rfl (fun ls hl => ?_)
  refine lv_goto (tgt := 73) hx hb dX3_init_111 (by decide) ?_
  refine lv_iload hx hb dX3_init_73 (lv_at hl 0 rfl) ?_
  refine lv_bipush (v := 6) hx hb dX3_init_75 (by decide) ?_
  refine lv_icmp_ge (tgt := 114) hx hb dX3_init_77 (by decide) (fun c70 => False.elim (by revert c70; decide)) (fun c70 => ?_)
  refine lv_aload_n hx hb dX3_init_80 rfl (lv_at hl 1 rfl) ?_
  refine va_get (D := (dC, dI)) (ci := 4) (v := .ref q1) (C := RX3) (T := TX3) (N := 8) hx hb ht inGX3 hown hK hP 0 rfl rfl 3 (by decide) (ht _ q315) (fun _ h9 => h9) rfl dX3_init_81 ?_
  refine lv_iload hx hb dX3_init_84 (lv_at hl 0 rfl) ?_
  refine va_new (ci := 3) (fs := [.null, .null, .null, .int 0, .int 0, .int 0, .int 0]) (C := RX2) (T := TX2) (N := 7) hx hb ht inGX2 tyX2 tyX2_ok hown (ht _ q251) (ht _ q253) (ht _ q131) hK hP hD hS hA rfl (fun j hj => by rcases (show j = 0 ∨ j = 1 ∨ j = 2 ∨ j = 3 ∨ j = 4 ∨ j = 5 ∨ j = 6 by omega) with rfl | rfl | rfl | rfl | rfl | rfl | rfl <;> rfl) (Nat.le_of_ble_eq_true rfl) (Nat.le_of_ble_eq_true rfl) dX3_init_86 (fun q71 H hP hD hS => ?_)
  have hP : va_P (dC, dI) vwCl [(h0, .inr (4, [.int a1, .ref a2, .ref a3, .ref q1, .ref q3, .ref q9, .ref q11, .ref q15])), (q1, .inl (t2, 6, .inr (.inr (.inr (.inr f64))))), (q3, .inr (3, [w06, w17, w28, .int 0, .int ((-1)), .int ((-1)), .int ((-1))])), (q9, .inl (t10, 6, .inr (.inr (.inr (.inr f69))))), (q11, .inr (6, [v14, .int 0])), (q15, .inr (0, [.int 0, .ref d0, .int 0])), (q71, .inr (3, [.null, .null, .null, .int 0, .int 0, .int 0, .int 0]))] H := hP
  have hD : va_D A [(h0, .inr (4, [.int a1, .ref a2, .ref a3, .ref q1, .ref q3, .ref q9, .ref q11, .ref q15])), (q1, .inl (t2, 6, .inr (.inr (.inr (.inr f64))))), (q3, .inr (3, [w06, w17, w28, .int 0, .int ((-1)), .int ((-1)), .int ((-1))])), (q9, .inl (t10, 6, .inr (.inr (.inr (.inr f69))))), (q11, .inr (6, [v14, .int 0])), (q15, .inr (0, [.int 0, .ref d0, .int 0])), (q71, .inr (3, [.null, .null, .null, .int 0, .int 0, .int 0, .int 0]))] := hD
  refine W.widen (k := 34) (n := 1087) (Nat.le_of_ble_eq_true rfl) (Nat.le_of_ble_eq_true rfl) ?_
  refine lv_dup hx hb dX3_init_89 rfl ?_
  have hPc := hP.sub (ws' := [(q71, .inr (3, [.null, .null, .null, .int 0, .int 0, .int 0, .int 0]))]) [6] rfl
  have hDc := hD.sub (ws' := [(q71, .inr (3, [.null, .null, .null, .int 0, .int 0, .int 0, .int 0]))]) [6] (by decide) rfl
  have hKc := hK.sub (tys' := []) [] rfl
  have hFc := va_free (wc := [(q71, .inr (3, [.null, .null, .null, .int 0, .int 0, .int 0, .int 0]))]) hD hS hA [6] rfl
  refine va_callv (va_runIN (As := []) (rest := [.ref q71, .int 4, .ref q1]) ⟨hx, hb, hml, hown, ht⟩ (k_X2_init l d0 cO dC dI H.size q71 .null .null .null 0 0 0 0) (my_NI ht M_X2_init q255 rfl q254 (Nat.le_of_ble_eq_true rfl) (Nat.le_of_ble_eq_true rfl)) ⟨PRE.fb, fun U hU hW => ⟨rfl, PRE.mk' hE hS hFc hPc hKc hDc U hU hW⟩⟩ rfl rfl hl.1 rfl (lv_room (Nat.le_of_ble_eq_true rfl)) dX3_init_90 ⟨(Nat.le_of_ble_eq_true rfl), (Nat.le_of_ble_eq_true rfl)⟩) hS (fun q _ h => hFc q h) hFc (fun u72 t H1 locs htt hvm hw hB hz1 hk1 hS => ?_)
  try dsimp only at hw hB
  obtain ⟨w074, w175, w276, hP1, hK1, hD1⟩ := hB
  rw [htt] at hP1
  have hK1 := va_K.moved hvm.symm hK1
  obtain ⟨hP, hD⟩ := va_join (wr := [(h0, .inr (4, [.int a1, .ref a2, .ref a3, .ref q1, .ref q3, .ref q9, .ref q11, .ref q15])), (q1, .inl (t2, 6, .inr (.inr (.inr (.inr f64))))), (q3, .inr (3, [w06, w17, w28, .int 0, .int ((-1)), .int ((-1)), .int ((-1))])), (q9, .inl (t10, 6, .inr (.inr (.inr (.inr f69))))), (q11, .inr (6, [v14, .int 0])), (q15, .inr (0, [.int 0, .ref d0, .int 0]))]) (w1 := [(q71, .inr (3, [w074, w175, w276, .int 0, .int ((-1)), .int ((-1)), .int ((-1))]))]) hP hD [6] [0, 1, 2, 3, 4, 5] rfl rfl (by decide) (by decide) hk1 hFc hP1 hD1
  have hK := (hK.sub (tys' := [(t2, .object RX2), (t10, .object RX5)]) [0, 1] rfl).app hK1
  generalize H1 = H at hP hS ⊢
  have hP : va_P (dC, dI) vwCl [(h0, .inr (4, [.int a1, .ref a2, .ref a3, .ref q1, .ref q3, .ref q9, .ref q11, .ref q15])), (q1, .inl (t2, 6, .inr (.inr (.inr (.inr f64))))), (q3, .inr (3, [w06, w17, w28, .int 0, .int ((-1)), .int ((-1)), .int ((-1))])), (q9, .inl (t10, 6, .inr (.inr (.inr (.inr f69))))), (q11, .inr (6, [v14, .int 0])), (q15, .inr (0, [.int 0, .ref d0, .int 0])), (q71, .inr (3, [w074, w175, w276, .int 0, .int ((-1)), .int ((-1)), .int ((-1))]))] H := hP
  have hD : va_D A [(h0, .inr (4, [.int a1, .ref a2, .ref a3, .ref q1, .ref q3, .ref q9, .ref q11, .ref q15])), (q1, .inl (t2, 6, .inr (.inr (.inr (.inr f64))))), (q3, .inr (3, [w06, w17, w28, .int 0, .int ((-1)), .int ((-1)), .int ((-1))])), (q9, .inl (t10, 6, .inr (.inr (.inr (.inr f69))))), (q11, .inr (6, [v14, .int 0])), (q15, .inr (0, [.int 0, .ref d0, .int 0])), (q71, .inr (3, [w074, w175, w276, .int 0, .int ((-1)), .int ((-1)), .int ((-1))]))] := hD
  have hK : va_K (dC, dI) vwCl [(t2, .object RX2), (t10, .object RX5)] s := hK
  refine W.widen (k := 38) (n := 1291) (Nat.le_of_ble_eq_true rfl) (Nat.le_of_ble_eq_true rfl) ?_
  refine va_astq hx hb hK hP hD hS 1 0 6 3 rfl rfl rfl rfl (vp_in_nI (n := 4) (by decide) (by decide)) dX3_init_93 (fun H locs hP hD hS => ?_)
  have hP : va_P (dC, dI) vwCl [(h0, .inr (4, [.int a1, .ref a2, .ref a3, .ref q1, .ref q3, .ref q9, .ref q11, .ref q15])), (q1, .inl (t2, 6, .inr (.inr (.inr (.inr ((va_up f64 4 (some q71)))))))), (q3, .inr (3, [w06, w17, w28, .int 0, .int ((-1)), .int ((-1)), .int ((-1))])), (q9, .inl (t10, 6, .inr (.inr (.inr (.inr f69))))), (q11, .inr (6, [v14, .int 0])), (q15, .inr (0, [.int 0, .ref d0, .int 0])), (q71, .inr (3, [w074, w175, w276, .int 0, .int ((-1)), .int ((-1)), .int ((-1))]))] H := hP
  have hD : va_D A [(h0, .inr (4, [.int a1, .ref a2, .ref a3, .ref q1, .ref q3, .ref q9, .ref q11, .ref q15])), (q1, .inl (t2, 6, .inr (.inr (.inr (.inr ((va_up f64 4 (some q71)))))))), (q3, .inr (3, [w06, w17, w28, .int 0, .int ((-1)), .int ((-1)), .int ((-1))])), (q9, .inl (t10, 6, .inr (.inr (.inr (.inr f69))))), (q11, .inr (6, [v14, .int 0])), (q15, .inr (0, [.int 0, .ref d0, .int 0])), (q71, .inr (3, [w074, w175, w276, .int 0, .int ((-1)), .int ((-1)), .int ((-1))]))] := hD
  generalize (va_up f64 4 (some q71)) = f77 at hP hD
  have hP := hP.sub (ws' := [(h0, .inr (4, [.int a1, .ref a2, .ref a3, .ref q1, .ref q3, .ref q9, .ref q11, .ref q15])), (q1, .inl (t2, 6, .inr (.inr (.inr (.inr f77))))), (q3, .inr (3, [w06, w17, w28, .int 0, .int ((-1)), .int ((-1)), .int ((-1))])), (q9, .inl (t10, 6, .inr (.inr (.inr (.inr f69))))), (q11, .inr (6, [v14, .int 0])), (q15, .inr (0, [.int 0, .ref d0, .int 0]))]) [0, 1, 2, 3, 4, 5] rfl
  have hD := hD.sub (ws' := [(h0, .inr (4, [.int a1, .ref a2, .ref a3, .ref q1, .ref q3, .ref q9, .ref q11, .ref q15])), (q1, .inl (t2, 6, .inr (.inr (.inr (.inr f77))))), (q3, .inr (3, [w06, w17, w28, .int 0, .int ((-1)), .int ((-1)), .int ((-1))])), (q9, .inl (t10, 6, .inr (.inr (.inr (.inr f69))))), (q11, .inr (6, [v14, .int 0])), (q15, .inr (0, [.int 0, .ref d0, .int 0]))]) [0, 1, 2, 3, 4, 5] (by decide) rfl
  refine lv_aload_n hx hb dX3_init_94 rfl (lv_at hl 1 rfl) ?_
  refine va_get (D := (dC, dI)) (ci := 4) (v := .ref q9) (C := RX3) (T := TX3) (N := 8) hx hb ht inGX3 hown hK hP 0 rfl rfl 5 (by decide) (ht _ q317) (fun _ h9 => h9) rfl dX3_init_95 ?_
  refine lv_iload hx hb dX3_init_98 (lv_at hl 0 rfl) ?_
  refine va_new (ci := 6) (fs := [.null, .int 0]) (C := RX5) (T := TX5) (N := 2) hx hb ht inGX5 tyX5 tyX5_ok hown (ht _ q295) (ht _ q297) (ht _ q132) hK hP hD hS hA rfl (fun j hj => by rcases (show j = 0 ∨ j = 1 by omega) with rfl | rfl <;> rfl) (Nat.le_of_ble_eq_true rfl) (Nat.le_of_ble_eq_true rfl) dX3_init_100 (fun q78 H hP hD hS => ?_)
  have hP : va_P (dC, dI) vwCl [(h0, .inr (4, [.int a1, .ref a2, .ref a3, .ref q1, .ref q3, .ref q9, .ref q11, .ref q15])), (q1, .inl (t2, 6, .inr (.inr (.inr (.inr f77))))), (q3, .inr (3, [w06, w17, w28, .int 0, .int ((-1)), .int ((-1)), .int ((-1))])), (q9, .inl (t10, 6, .inr (.inr (.inr (.inr f69))))), (q11, .inr (6, [v14, .int 0])), (q15, .inr (0, [.int 0, .ref d0, .int 0])), (q78, .inr (6, [.null, .int 0]))] H := hP
  have hD : va_D A [(h0, .inr (4, [.int a1, .ref a2, .ref a3, .ref q1, .ref q3, .ref q9, .ref q11, .ref q15])), (q1, .inl (t2, 6, .inr (.inr (.inr (.inr f77))))), (q3, .inr (3, [w06, w17, w28, .int 0, .int ((-1)), .int ((-1)), .int ((-1))])), (q9, .inl (t10, 6, .inr (.inr (.inr (.inr f69))))), (q11, .inr (6, [v14, .int 0])), (q15, .inr (0, [.int 0, .ref d0, .int 0])), (q78, .inr (6, [.null, .int 0]))] := hD
  refine W.widen (k := 39) (n := 1293) (Nat.le_of_ble_eq_true rfl) (Nat.le_of_ble_eq_true rfl) ?_
  refine lv_dup hx hb dX3_init_103 rfl ?_
  have hPc := hP.sub (ws' := [(q78, .inr (6, [.null, .int 0]))]) [6] rfl
  have hDc := hD.sub (ws' := [(q78, .inr (6, [.null, .int 0]))]) [6] (by decide) rfl
  have hKc := hK.sub (tys' := []) [] rfl
  have hFc := va_free (wc := [(q78, .inr (6, [.null, .int 0]))]) hD hS hA [6] rfl
  refine va_callv (va_runIN (As := []) (rest := [.ref q78, .int 4, .ref q9]) ⟨hx, hb, hml, hown, ht⟩ (k_X5_init l d0 cO dC dI H.size q78 .null 0) (my_NI ht M_X5_init q299 rfl q298 (Nat.le_of_ble_eq_true rfl) (Nat.le_of_ble_eq_true rfl)) ⟨PRE.fb, fun U hU hW => ⟨rfl, PRE.mk' hE hS hFc hPc hKc hDc U hU hW⟩⟩ rfl rfl hl.1 rfl (lv_room (Nat.le_of_ble_eq_true rfl)) dX3_init_104 ⟨(Nat.le_of_ble_eq_true rfl), (Nat.le_of_ble_eq_true rfl)⟩) hS (fun q _ h => hFc q h) hFc (fun u79 t H1 locs htt hvm hw hB hz1 hk1 hS => ?_)
  try dsimp only at hw hB
  obtain ⟨v81, hP1, hK1, hD1⟩ := hB
  rw [htt] at hP1
  have hK1 := va_K.moved hvm.symm hK1
  obtain ⟨hP, hD⟩ := va_join (wr := [(h0, .inr (4, [.int a1, .ref a2, .ref a3, .ref q1, .ref q3, .ref q9, .ref q11, .ref q15])), (q1, .inl (t2, 6, .inr (.inr (.inr (.inr f77))))), (q3, .inr (3, [w06, w17, w28, .int 0, .int ((-1)), .int ((-1)), .int ((-1))])), (q9, .inl (t10, 6, .inr (.inr (.inr (.inr f69))))), (q11, .inr (6, [v14, .int 0])), (q15, .inr (0, [.int 0, .ref d0, .int 0]))]) (w1 := [(q78, .inr (6, [v81, .int 0]))]) hP hD [6] [0, 1, 2, 3, 4, 5] rfl rfl (by decide) (by decide) hk1 hFc hP1 hD1
  have hK := (hK.sub (tys' := [(t2, .object RX2), (t10, .object RX5)]) [0, 1] rfl).app hK1
  generalize H1 = H at hP hS ⊢
  have hP : va_P (dC, dI) vwCl [(h0, .inr (4, [.int a1, .ref a2, .ref a3, .ref q1, .ref q3, .ref q9, .ref q11, .ref q15])), (q1, .inl (t2, 6, .inr (.inr (.inr (.inr f77))))), (q3, .inr (3, [w06, w17, w28, .int 0, .int ((-1)), .int ((-1)), .int ((-1))])), (q9, .inl (t10, 6, .inr (.inr (.inr (.inr f69))))), (q11, .inr (6, [v14, .int 0])), (q15, .inr (0, [.int 0, .ref d0, .int 0])), (q78, .inr (6, [v81, .int 0]))] H := hP
  have hD : va_D A [(h0, .inr (4, [.int a1, .ref a2, .ref a3, .ref q1, .ref q3, .ref q9, .ref q11, .ref q15])), (q1, .inl (t2, 6, .inr (.inr (.inr (.inr f77))))), (q3, .inr (3, [w06, w17, w28, .int 0, .int ((-1)), .int ((-1)), .int ((-1))])), (q9, .inl (t10, 6, .inr (.inr (.inr (.inr f69))))), (q11, .inr (6, [v14, .int 0])), (q15, .inr (0, [.int 0, .ref d0, .int 0])), (q78, .inr (6, [v81, .int 0]))] := hD
  have hK : va_K (dC, dI) vwCl [(t2, .object RX2), (t10, .object RX5)] s := hK
  refine W.widen (k := 39) (n := 1293) (Nat.le_of_ble_eq_true rfl) (Nat.le_of_ble_eq_true rfl) ?_
  refine va_astq hx hb hK hP hD hS 3 1 6 6 rfl rfl rfl rfl (vp_in_nI (n := 4) (by decide) (by decide)) dX3_init_107 (fun H locs hP hD hS => ?_)
  have hP : va_P (dC, dI) vwCl [(h0, .inr (4, [.int a1, .ref a2, .ref a3, .ref q1, .ref q3, .ref q9, .ref q11, .ref q15])), (q1, .inl (t2, 6, .inr (.inr (.inr (.inr f77))))), (q3, .inr (3, [w06, w17, w28, .int 0, .int ((-1)), .int ((-1)), .int ((-1))])), (q9, .inl (t10, 6, .inr (.inr (.inr (.inr ((va_up f69 4 (some q78)))))))), (q11, .inr (6, [v14, .int 0])), (q15, .inr (0, [.int 0, .ref d0, .int 0])), (q78, .inr (6, [v81, .int 0]))] H := hP
  have hD : va_D A [(h0, .inr (4, [.int a1, .ref a2, .ref a3, .ref q1, .ref q3, .ref q9, .ref q11, .ref q15])), (q1, .inl (t2, 6, .inr (.inr (.inr (.inr f77))))), (q3, .inr (3, [w06, w17, w28, .int 0, .int ((-1)), .int ((-1)), .int ((-1))])), (q9, .inl (t10, 6, .inr (.inr (.inr (.inr ((va_up f69 4 (some q78)))))))), (q11, .inr (6, [v14, .int 0])), (q15, .inr (0, [.int 0, .ref d0, .int 0])), (q78, .inr (6, [v81, .int 0]))] := hD
  generalize (va_up f69 4 (some q78)) = f82 at hP hD
  have hP := hP.sub (ws' := [(h0, .inr (4, [.int a1, .ref a2, .ref a3, .ref q1, .ref q3, .ref q9, .ref q11, .ref q15])), (q1, .inl (t2, 6, .inr (.inr (.inr (.inr f77))))), (q3, .inr (3, [w06, w17, w28, .int 0, .int ((-1)), .int ((-1)), .int ((-1))])), (q9, .inl (t10, 6, .inr (.inr (.inr (.inr f82))))), (q11, .inr (6, [v14, .int 0])), (q15, .inr (0, [.int 0, .ref d0, .int 0]))]) [0, 1, 2, 3, 4, 5] rfl
  have hD := hD.sub (ws' := [(h0, .inr (4, [.int a1, .ref a2, .ref a3, .ref q1, .ref q3, .ref q9, .ref q11, .ref q15])), (q1, .inl (t2, 6, .inr (.inr (.inr (.inr f77))))), (q3, .inr (3, [w06, w17, w28, .int 0, .int ((-1)), .int ((-1)), .int ((-1))])), (q9, .inl (t10, 6, .inr (.inr (.inr (.inr f82))))), (q11, .inr (6, [v14, .int 0])), (q15, .inr (0, [.int 0, .ref d0, .int 0]))]) [0, 1, 2, 3, 4, 5] (by decide) rfl
  refine lv_iinc (v := 5) (lv' := [(4, .int 5), (0, .ref h0), (1, .int a1), (2, .ref a2), (3, .ref a3)]) hx hb dX3_init_108 hl (k := 0) rfl (by decide) (by decide) rfl (fun ls hl => ?_)
  refine lv_goto (tgt := 73) hx hb dX3_init_111 (by decide) ?_
  refine lv_iload hx hb dX3_init_73 (lv_at hl 0 rfl) ?_
  refine lv_bipush (v := 6) hx hb dX3_init_75 (by decide) ?_
  refine lv_icmp_ge (tgt := 114) hx hb dX3_init_77 (by decide) (fun c83 => False.elim (by revert c83; decide)) (fun c83 => ?_)
  refine lv_aload_n hx hb dX3_init_80 rfl (lv_at hl 1 rfl) ?_
  refine va_get (D := (dC, dI)) (ci := 4) (v := .ref q1) (C := RX3) (T := TX3) (N := 8) hx hb ht inGX3 hown hK hP 0 rfl rfl 3 (by decide) (ht _ q315) (fun _ h9 => h9) rfl dX3_init_81 ?_
  refine lv_iload hx hb dX3_init_84 (lv_at hl 0 rfl) ?_
  refine va_new (ci := 3) (fs := [.null, .null, .null, .int 0, .int 0, .int 0, .int 0]) (C := RX2) (T := TX2) (N := 7) hx hb ht inGX2 tyX2 tyX2_ok hown (ht _ q251) (ht _ q253) (ht _ q131) hK hP hD hS hA rfl (fun j hj => by rcases (show j = 0 ∨ j = 1 ∨ j = 2 ∨ j = 3 ∨ j = 4 ∨ j = 5 ∨ j = 6 by omega) with rfl | rfl | rfl | rfl | rfl | rfl | rfl <;> rfl) (Nat.le_of_ble_eq_true rfl) (Nat.le_of_ble_eq_true rfl) dX3_init_86 (fun q84 H hP hD hS => ?_)
  have hP : va_P (dC, dI) vwCl [(h0, .inr (4, [.int a1, .ref a2, .ref a3, .ref q1, .ref q3, .ref q9, .ref q11, .ref q15])), (q1, .inl (t2, 6, .inr (.inr (.inr (.inr f77))))), (q3, .inr (3, [w06, w17, w28, .int 0, .int ((-1)), .int ((-1)), .int ((-1))])), (q9, .inl (t10, 6, .inr (.inr (.inr (.inr f82))))), (q11, .inr (6, [v14, .int 0])), (q15, .inr (0, [.int 0, .ref d0, .int 0])), (q84, .inr (3, [.null, .null, .null, .int 0, .int 0, .int 0, .int 0]))] H := hP
  have hD : va_D A [(h0, .inr (4, [.int a1, .ref a2, .ref a3, .ref q1, .ref q3, .ref q9, .ref q11, .ref q15])), (q1, .inl (t2, 6, .inr (.inr (.inr (.inr f77))))), (q3, .inr (3, [w06, w17, w28, .int 0, .int ((-1)), .int ((-1)), .int ((-1))])), (q9, .inl (t10, 6, .inr (.inr (.inr (.inr f82))))), (q11, .inr (6, [v14, .int 0])), (q15, .inr (0, [.int 0, .ref d0, .int 0])), (q84, .inr (3, [.null, .null, .null, .int 0, .int 0, .int 0, .int 0]))] := hD
  refine W.widen (k := 40) (n := 1300) (Nat.le_of_ble_eq_true rfl) (Nat.le_of_ble_eq_true rfl) ?_
  refine lv_dup hx hb dX3_init_89 rfl ?_
  have hPc := hP.sub (ws' := [(q84, .inr (3, [.null, .null, .null, .int 0, .int 0, .int 0, .int 0]))]) [6] rfl
  have hDc := hD.sub (ws' := [(q84, .inr (3, [.null, .null, .null, .int 0, .int 0, .int 0, .int 0]))]) [6] (by decide) rfl
  have hKc := hK.sub (tys' := []) [] rfl
  have hFc := va_free (wc := [(q84, .inr (3, [.null, .null, .null, .int 0, .int 0, .int 0, .int 0]))]) hD hS hA [6] rfl
  refine va_callv (va_runIN (As := []) (rest := [.ref q84, .int 5, .ref q1]) ⟨hx, hb, hml, hown, ht⟩ (k_X2_init l d0 cO dC dI H.size q84 .null .null .null 0 0 0 0) (my_NI ht M_X2_init q255 rfl q254 (Nat.le_of_ble_eq_true rfl) (Nat.le_of_ble_eq_true rfl)) ⟨PRE.fb, fun U hU hW => ⟨rfl, PRE.mk' hE hS hFc hPc hKc hDc U hU hW⟩⟩ rfl rfl hl.1 rfl (lv_room (Nat.le_of_ble_eq_true rfl)) dX3_init_90 ⟨(Nat.le_of_ble_eq_true rfl), (Nat.le_of_ble_eq_true rfl)⟩) hS (fun q _ h => hFc q h) hFc (fun u85 t H1 locs htt hvm hw hB hz1 hk1 hS => ?_)
  try dsimp only at hw hB
  obtain ⟨w087, w188, w289, hP1, hK1, hD1⟩ := hB
  rw [htt] at hP1
  have hK1 := va_K.moved hvm.symm hK1
  obtain ⟨hP, hD⟩ := va_join (wr := [(h0, .inr (4, [.int a1, .ref a2, .ref a3, .ref q1, .ref q3, .ref q9, .ref q11, .ref q15])), (q1, .inl (t2, 6, .inr (.inr (.inr (.inr f77))))), (q3, .inr (3, [w06, w17, w28, .int 0, .int ((-1)), .int ((-1)), .int ((-1))])), (q9, .inl (t10, 6, .inr (.inr (.inr (.inr f82))))), (q11, .inr (6, [v14, .int 0])), (q15, .inr (0, [.int 0, .ref d0, .int 0]))]) (w1 := [(q84, .inr (3, [w087, w188, w289, .int 0, .int ((-1)), .int ((-1)), .int ((-1))]))]) hP hD [6] [0, 1, 2, 3, 4, 5] rfl rfl (by decide) (by decide) hk1 hFc hP1 hD1
  have hK := (hK.sub (tys' := [(t2, .object RX2), (t10, .object RX5)]) [0, 1] rfl).app hK1
  generalize H1 = H at hP hS ⊢
  have hP : va_P (dC, dI) vwCl [(h0, .inr (4, [.int a1, .ref a2, .ref a3, .ref q1, .ref q3, .ref q9, .ref q11, .ref q15])), (q1, .inl (t2, 6, .inr (.inr (.inr (.inr f77))))), (q3, .inr (3, [w06, w17, w28, .int 0, .int ((-1)), .int ((-1)), .int ((-1))])), (q9, .inl (t10, 6, .inr (.inr (.inr (.inr f82))))), (q11, .inr (6, [v14, .int 0])), (q15, .inr (0, [.int 0, .ref d0, .int 0])), (q84, .inr (3, [w087, w188, w289, .int 0, .int ((-1)), .int ((-1)), .int ((-1))]))] H := hP
  have hD : va_D A [(h0, .inr (4, [.int a1, .ref a2, .ref a3, .ref q1, .ref q3, .ref q9, .ref q11, .ref q15])), (q1, .inl (t2, 6, .inr (.inr (.inr (.inr f77))))), (q3, .inr (3, [w06, w17, w28, .int 0, .int ((-1)), .int ((-1)), .int ((-1))])), (q9, .inl (t10, 6, .inr (.inr (.inr (.inr f82))))), (q11, .inr (6, [v14, .int 0])), (q15, .inr (0, [.int 0, .ref d0, .int 0])), (q84, .inr (3, [w087, w188, w289, .int 0, .int ((-1)), .int ((-1)), .int ((-1))]))] := hD
  have hK : va_K (dC, dI) vwCl [(t2, .object RX2), (t10, .object RX5)] s := hK
  refine W.widen (k := 44) (n := 1504) (Nat.le_of_ble_eq_true rfl) (Nat.le_of_ble_eq_true rfl) ?_
  refine va_astq hx hb hK hP hD hS 1 0 6 3 rfl rfl rfl rfl (vp_in_nI (n := 5) (by decide) (by decide)) dX3_init_93 (fun H locs hP hD hS => ?_)
  have hP : va_P (dC, dI) vwCl [(h0, .inr (4, [.int a1, .ref a2, .ref a3, .ref q1, .ref q3, .ref q9, .ref q11, .ref q15])), (q1, .inl (t2, 6, .inr (.inr (.inr (.inr ((va_up f77 5 (some q84)))))))), (q3, .inr (3, [w06, w17, w28, .int 0, .int ((-1)), .int ((-1)), .int ((-1))])), (q9, .inl (t10, 6, .inr (.inr (.inr (.inr f82))))), (q11, .inr (6, [v14, .int 0])), (q15, .inr (0, [.int 0, .ref d0, .int 0])), (q84, .inr (3, [w087, w188, w289, .int 0, .int ((-1)), .int ((-1)), .int ((-1))]))] H := hP
  have hD : va_D A [(h0, .inr (4, [.int a1, .ref a2, .ref a3, .ref q1, .ref q3, .ref q9, .ref q11, .ref q15])), (q1, .inl (t2, 6, .inr (.inr (.inr (.inr ((va_up f77 5 (some q84)))))))), (q3, .inr (3, [w06, w17, w28, .int 0, .int ((-1)), .int ((-1)), .int ((-1))])), (q9, .inl (t10, 6, .inr (.inr (.inr (.inr f82))))), (q11, .inr (6, [v14, .int 0])), (q15, .inr (0, [.int 0, .ref d0, .int 0])), (q84, .inr (3, [w087, w188, w289, .int 0, .int ((-1)), .int ((-1)), .int ((-1))]))] := hD
  generalize (va_up f77 5 (some q84)) = f90 at hP hD
  have hP := hP.sub (ws' := [(h0, .inr (4, [.int a1, .ref a2, .ref a3, .ref q1, .ref q3, .ref q9, .ref q11, .ref q15])), (q1, .inl (t2, 6, .inr (.inr (.inr (.inr f90))))), (q3, .inr (3, [w06, w17, w28, .int 0, .int ((-1)), .int ((-1)), .int ((-1))])), (q9, .inl (t10, 6, .inr (.inr (.inr (.inr f82))))), (q11, .inr (6, [v14, .int 0])), (q15, .inr (0, [.int 0, .ref d0, .int 0]))]) [0, 1, 2, 3, 4, 5] rfl
  have hD := hD.sub (ws' := [(h0, .inr (4, [.int a1, .ref a2, .ref a3, .ref q1, .ref q3, .ref q9, .ref q11, .ref q15])), (q1, .inl (t2, 6, .inr (.inr (.inr (.inr f90))))), (q3, .inr (3, [w06, w17, w28, .int 0, .int ((-1)), .int ((-1)), .int ((-1))])), (q9, .inl (t10, 6, .inr (.inr (.inr (.inr f82))))), (q11, .inr (6, [v14, .int 0])), (q15, .inr (0, [.int 0, .ref d0, .int 0]))]) [0, 1, 2, 3, 4, 5] (by decide) rfl
  refine lv_aload_n hx hb dX3_init_94 rfl (lv_at hl 1 rfl) ?_
  refine va_get (D := (dC, dI)) (ci := 4) (v := .ref q9) (C := RX3) (T := TX3) (N := 8) hx hb ht inGX3 hown hK hP 0 rfl rfl 5 (by decide) (ht _ q317) (fun _ h9 => h9) rfl dX3_init_95 ?_
  refine lv_iload hx hb dX3_init_98 (lv_at hl 0 rfl) ?_
  refine va_new (ci := 6) (fs := [.null, .int 0]) (C := RX5) (T := TX5) (N := 2) hx hb ht inGX5 tyX5 tyX5_ok hown (ht _ q295) (ht _ q297) (ht _ q132) hK hP hD hS hA rfl (fun j hj => by rcases (show j = 0 ∨ j = 1 by omega) with rfl | rfl <;> rfl) (Nat.le_of_ble_eq_true rfl) (Nat.le_of_ble_eq_true rfl) dX3_init_100 (fun q91 H hP hD hS => ?_)
  have hP : va_P (dC, dI) vwCl [(h0, .inr (4, [.int a1, .ref a2, .ref a3, .ref q1, .ref q3, .ref q9, .ref q11, .ref q15])), (q1, .inl (t2, 6, .inr (.inr (.inr (.inr f90))))), (q3, .inr (3, [w06, w17, w28, .int 0, .int ((-1)), .int ((-1)), .int ((-1))])), (q9, .inl (t10, 6, .inr (.inr (.inr (.inr f82))))), (q11, .inr (6, [v14, .int 0])), (q15, .inr (0, [.int 0, .ref d0, .int 0])), (q91, .inr (6, [.null, .int 0]))] H := hP
  have hD : va_D A [(h0, .inr (4, [.int a1, .ref a2, .ref a3, .ref q1, .ref q3, .ref q9, .ref q11, .ref q15])), (q1, .inl (t2, 6, .inr (.inr (.inr (.inr f90))))), (q3, .inr (3, [w06, w17, w28, .int 0, .int ((-1)), .int ((-1)), .int ((-1))])), (q9, .inl (t10, 6, .inr (.inr (.inr (.inr f82))))), (q11, .inr (6, [v14, .int 0])), (q15, .inr (0, [.int 0, .ref d0, .int 0])), (q91, .inr (6, [.null, .int 0]))] := hD
  refine W.widen (k := 45) (n := 1506) (Nat.le_of_ble_eq_true rfl) (Nat.le_of_ble_eq_true rfl) ?_
  refine lv_dup hx hb dX3_init_103 rfl ?_
  have hPc := hP.sub (ws' := [(q91, .inr (6, [.null, .int 0]))]) [6] rfl
  have hDc := hD.sub (ws' := [(q91, .inr (6, [.null, .int 0]))]) [6] (by decide) rfl
  have hKc := hK.sub (tys' := []) [] rfl
  have hFc := va_free (wc := [(q91, .inr (6, [.null, .int 0]))]) hD hS hA [6] rfl
  refine va_callv (va_runIN (As := []) (rest := [.ref q91, .int 5, .ref q9]) ⟨hx, hb, hml, hown, ht⟩ (k_X5_init l d0 cO dC dI H.size q91 .null 0) (my_NI ht M_X5_init q299 rfl q298 (Nat.le_of_ble_eq_true rfl) (Nat.le_of_ble_eq_true rfl)) ⟨PRE.fb, fun U hU hW => ⟨rfl, PRE.mk' hE hS hFc hPc hKc hDc U hU hW⟩⟩ rfl rfl hl.1 rfl (lv_room (Nat.le_of_ble_eq_true rfl)) dX3_init_104 ⟨(Nat.le_of_ble_eq_true rfl), (Nat.le_of_ble_eq_true rfl)⟩) hS (fun q _ h => hFc q h) hFc (fun u92 t H1 locs htt hvm hw hB hz1 hk1 hS => ?_)
  try dsimp only at hw hB
  obtain ⟨v94, hP1, hK1, hD1⟩ := hB
  rw [htt] at hP1
  have hK1 := va_K.moved hvm.symm hK1
  obtain ⟨hP, hD⟩ := va_join (wr := [(h0, .inr (4, [.int a1, .ref a2, .ref a3, .ref q1, .ref q3, .ref q9, .ref q11, .ref q15])), (q1, .inl (t2, 6, .inr (.inr (.inr (.inr f90))))), (q3, .inr (3, [w06, w17, w28, .int 0, .int ((-1)), .int ((-1)), .int ((-1))])), (q9, .inl (t10, 6, .inr (.inr (.inr (.inr f82))))), (q11, .inr (6, [v14, .int 0])), (q15, .inr (0, [.int 0, .ref d0, .int 0]))]) (w1 := [(q91, .inr (6, [v94, .int 0]))]) hP hD [6] [0, 1, 2, 3, 4, 5] rfl rfl (by decide) (by decide) hk1 hFc hP1 hD1
  have hK := (hK.sub (tys' := [(t2, .object RX2), (t10, .object RX5)]) [0, 1] rfl).app hK1
  generalize H1 = H at hP hS ⊢
  have hP : va_P (dC, dI) vwCl [(h0, .inr (4, [.int a1, .ref a2, .ref a3, .ref q1, .ref q3, .ref q9, .ref q11, .ref q15])), (q1, .inl (t2, 6, .inr (.inr (.inr (.inr f90))))), (q3, .inr (3, [w06, w17, w28, .int 0, .int ((-1)), .int ((-1)), .int ((-1))])), (q9, .inl (t10, 6, .inr (.inr (.inr (.inr f82))))), (q11, .inr (6, [v14, .int 0])), (q15, .inr (0, [.int 0, .ref d0, .int 0])), (q91, .inr (6, [v94, .int 0]))] H := hP
  have hD : va_D A [(h0, .inr (4, [.int a1, .ref a2, .ref a3, .ref q1, .ref q3, .ref q9, .ref q11, .ref q15])), (q1, .inl (t2, 6, .inr (.inr (.inr (.inr f90))))), (q3, .inr (3, [w06, w17, w28, .int 0, .int ((-1)), .int ((-1)), .int ((-1))])), (q9, .inl (t10, 6, .inr (.inr (.inr (.inr f82))))), (q11, .inr (6, [v14, .int 0])), (q15, .inr (0, [.int 0, .ref d0, .int 0])), (q91, .inr (6, [v94, .int 0]))] := hD
  have hK : va_K (dC, dI) vwCl [(t2, .object RX2), (t10, .object RX5)] s := hK
  refine W.widen (k := 45) (n := 1506) (Nat.le_of_ble_eq_true rfl) (Nat.le_of_ble_eq_true rfl) ?_
  refine va_astq hx hb hK hP hD hS 3 1 6 6 rfl rfl rfl rfl (vp_in_nI (n := 5) (by decide) (by decide)) dX3_init_107 (fun H locs hP hD hS => ?_)
  have hP : va_P (dC, dI) vwCl [(h0, .inr (4, [.int a1, .ref a2, .ref a3, .ref q1, .ref q3, .ref q9, .ref q11, .ref q15])), (q1, .inl (t2, 6, .inr (.inr (.inr (.inr f90))))), (q3, .inr (3, [w06, w17, w28, .int 0, .int ((-1)), .int ((-1)), .int ((-1))])), (q9, .inl (t10, 6, .inr (.inr (.inr (.inr ((va_up f82 5 (some q91)))))))), (q11, .inr (6, [v14, .int 0])), (q15, .inr (0, [.int 0, .ref d0, .int 0])), (q91, .inr (6, [v94, .int 0]))] H := hP
  have hD : va_D A [(h0, .inr (4, [.int a1, .ref a2, .ref a3, .ref q1, .ref q3, .ref q9, .ref q11, .ref q15])), (q1, .inl (t2, 6, .inr (.inr (.inr (.inr f90))))), (q3, .inr (3, [w06, w17, w28, .int 0, .int ((-1)), .int ((-1)), .int ((-1))])), (q9, .inl (t10, 6, .inr (.inr (.inr (.inr ((va_up f82 5 (some q91)))))))), (q11, .inr (6, [v14, .int 0])), (q15, .inr (0, [.int 0, .ref d0, .int 0])), (q91, .inr (6, [v94, .int 0]))] := hD
  generalize (va_up f82 5 (some q91)) = f95 at hP hD
  have hP := hP.sub (ws' := [(h0, .inr (4, [.int a1, .ref a2, .ref a3, .ref q1, .ref q3, .ref q9, .ref q11, .ref q15])), (q1, .inl (t2, 6, .inr (.inr (.inr (.inr f90))))), (q3, .inr (3, [w06, w17, w28, .int 0, .int ((-1)), .int ((-1)), .int ((-1))])), (q9, .inl (t10, 6, .inr (.inr (.inr (.inr f95))))), (q11, .inr (6, [v14, .int 0])), (q15, .inr (0, [.int 0, .ref d0, .int 0]))]) [0, 1, 2, 3, 4, 5] rfl
  have hD := hD.sub (ws' := [(h0, .inr (4, [.int a1, .ref a2, .ref a3, .ref q1, .ref q3, .ref q9, .ref q11, .ref q15])), (q1, .inl (t2, 6, .inr (.inr (.inr (.inr f90))))), (q3, .inr (3, [w06, w17, w28, .int 0, .int ((-1)), .int ((-1)), .int ((-1))])), (q9, .inl (t10, 6, .inr (.inr (.inr (.inr f95))))), (q11, .inr (6, [v14, .int 0])), (q15, .inr (0, [.int 0, .ref d0, .int 0]))]) [0, 1, 2, 3, 4, 5] (by decide) rfl
  refine lv_iinc (v := 6) (lv' := [(4, .int 6), (0, .ref h0), (1, .int a1), (2, .ref a2), (3, .ref a3)]) hx hb dX3_init_108 hl (k := 0) rfl (by decide) (by decide) rfl (fun ls hl => ?_)
  refine lv_goto (tgt := 73) hx hb dX3_init_111 (by decide) ?_
  refine lv_iload hx hb dX3_init_73 (lv_at hl 0 rfl) ?_
  refine lv_bipush (v := 6) hx hb dX3_init_75 (by decide) ?_
  refine lv_icmp_ge (tgt := 114) hx hb dX3_init_77 (by decide) (fun c96 => ?_) (fun c96 => False.elim (by revert c96; decide))
  have hP9 := hP.sub (ws' := [(h0, .inr (4, [.int a1, .ref a2, .ref a3, .ref q1, .ref q3, .ref q9, .ref q11, .ref q15])), (q15, .inr (0, [.int 0, .ref d0, .int 0]))]) [0, 5] rfl
  have hD9 := hD.sub (ws' := [(h0, .inr (4, [.int a1, .ref a2, .ref a3, .ref q1, .ref q3, .ref q9, .ref q11, .ref q15])), (q15, .inr (0, [.int 0, .ref d0, .int 0]))]) [0, 5] (by decide) rfl
  have hK9 := hK.sub (tys' := []) [] rfl
  refine W.widen (k := 45) (n := 1506) (Nat.le_of_ble_eq_true rfl) (Nat.le_of_ble_eq_true rfl) ?_
  exact W.vret hx hb hr (fun t ht9 hW9 => ⟨⟨(), rfl, trivial, ⟨.ref q1, .ref q3, .ref q9, .ref q11, q15, POW.mk' ht9 hW9.alike hP9 hK9 hD9⟩⟩, hS.F ht9⟩) hS.2.2 dX3_init_114
set_option maxHeartbeats 4000000 in
set_option maxRecDepth 100000 in
theorem k_J7_fill_53178 (l : Launch) (d0 : Nat) (cO : ClassId) (dC : Nat → ClassId) (dI : Nat → Nat → Nat) (sz : Nat) (h0 : Nat) (tI : ClassId) (f : Nat → Int32) (a1 : Int32) : Met l yJ7_fill_53178 (cn yJ7_fill_53178 cJ7_fill_53178 4 none) (rmd 1 0 0) (va_Pc [.ref h0, .int a1] (PRE d0 cO (dC, dI) (va_A [(h0, .inl (tI, 240, .inl f))] sz) [(h0, .inl (tI, 240, .inl f))] [(tI, .int)] sz)) (va_Qv (fun (_ : Unit) => True) (fun (_ : Unit) (t : State) => ∃ g : Nat → Int32, POW (dC, dI) (va_A [(h0, .inl (tI, 240, .inl f))] sz) [(h0, .inl (tI, 240, .inl g))] [(tI, .int)] t) (va_A [(h0, .inl (tI, 240, .inl f))] sz)) 0 0 (va_A [(h0, .inl (tI, 240, .inl f))] sz) := by
  refine Met.ofW (cc := cJ7_fill_53178) (maxL := 4) (ret := none) (by decide) rfl ?_
  intro p e s m args below meth c s₁ B hml hv
  obtain ⟨rfl, hsz, hE, hP, hK, hD0⟩ := hv
  have hx := B.exec
  have hb := B.bytes
  have hr := B.returns
  have hts := atoms_spec (ws := cn yJ7_fill_53178 cJ7_fill_53178 4 none) B.pre
  have ht : ∀ w ∈ GT, w.before _ s = true := fun w h => hts w (List.mem_cons_of_mem _ h)
  have hown : s.vm.findClass RJ7 = some m.cls := findClass_of_methodNamed B.named
  have hlocks := B.notSynchronized
  subst hsz
  have hD := hD0.self (sz := s.heap.size)
  generalize hAe : va_A [(h0, .inl (tI, 240, .inl f))] s.heap.size = A at hD hE ⊢
  have hA : ∀ q : Nat, s.heap.size ≤ q → A q := fun q h => by rw [← hAe]; exact Or.inr h
  obtain ⟨H, hH0⟩ : ∃ H, s.heap = H := ⟨_, rfl⟩
  have hS : va_S A s.heap H [] := by rw [← hH0]; exact va_S.rf
  rw [hH0] at hP
  have hl := lv_entry ([.ref h0, .int a1]) (n := 4) (Nat.le_of_ble_eq_true rfl)
  rw [lg_entry_eq]
  generalize (lg_sl ([.ref h0, .int a1]) ++ List.replicate (4 - (lg_sl ([.ref h0, .int a1])).length) Slot.unset).toArray = ls at hl ⊢
  have hl : lv_has ls 4 [(0, .ref h0), (1, .int a1)] := hl
  rw [hH0]
  refine lv_iconst (v := 0) hx hb dJ7_fill_53178_0 (by decide) ?_
  refine lv_istore_n (lv' := [(2, .int 0), (0, .ref h0), (1, .int a1)]) hx hb dJ7_fill_53178_1 rfl hl (by decide) rfl (fun ls hl => ?_)
  refine lv_aload_n hx hb dJ7_fill_53178_2 rfl (lv_at hl 1 rfl) ?_
  refine va_alen (v := 240) hx hb hK hP 0 0 rfl rfl rfl dJ7_fill_53178_3 ?_
  refine lv_istore_n (lv' := [(3, .int 240), (2, .int 0), (0, .ref h0), (1, .int a1)]) hx hb dJ7_fill_53178_4 rfl hl (by decide) rfl (fun ls hl => ?_)
  have loop5 : ∀ (n i1 : Nat) (ls : Array Slot) (H : Heap) (locs : List Loc) (f2 : Nat → Int32), i1 ≤ 240 → 240 - i1 < n → lv_has ls 4 [(3, .int 240), (2, .int ((nI i1))), (0, .ref h0), (1, .int a1)] → va_P (dC, dI) vwCl [(h0, .inl (tI, 240, .inl f2))] H → va_D A [(h0, .inl (tI, 240, .inl f2))] → va_S A s.heap H locs → W p l e (headSpec (cn yJ7_fill_53178 cJ7_fill_53178 4 none) (rmd 1 0 0)).room s m (List.toArray [.ref h0, .int a1]) below meth c H locs 0 0 (MQ below (va_Qv (fun (_ : Unit) => True) (fun (_ : Unit) (t : State) => ∃ g : Nat → Int32, POW (dC, dI) A [(h0, .inl (tI, 240, .inl g))] [(tI, .int)] t) A) (List.toArray [.ref h0, .int a1]) s 0 0 A) (F0 m 5 ls []) := by
    intro n
    induction n with
    | zero => intro i1 ls H locs f2 h1 h2; omega
    | succ n ih =>
      intro i1 ls H locs f2 h1 h2 hl hP hD hS
      refine lv_iload_n hx hb dJ7_fill_53178_5 rfl (lv_at hl 1 rfl) ?_
      refine lv_iload_n hx hb dJ7_fill_53178_6 rfl (lv_at hl 0 rfl) ?_
      refine lv_icmp_ge (tgt := 20) hx hb dJ7_fill_53178_7 (by decide) (fun c3 => ?_) (fun c3 => ?_)
      · skip
        have hP9 := hP.sub (ws' := [(h0, .inl (tI, 240, .inl f2))]) [0] rfl
        have hD9 := hD.sub (ws' := [(h0, .inl (tI, 240, .inl f2))]) [0] (by decide) rfl
        have hK9 := hK.sub (tys' := [(tI, .int)]) [0] rfl
        refine W.widen (k := 0) (n := 0) (Nat.le_of_ble_eq_true rfl) (Nat.le_of_ble_eq_true rfl) ?_
        exact W.vret hx hb hr (fun t ht9 hW9 => ⟨⟨(), rfl, trivial, ⟨f2, POW.mk' ht9 hW9.alike hP9 hK9 hD9⟩⟩, hS.F ht9⟩) hS.2.2 dJ7_fill_53178_20
      · skip
        have hlt : i1 < 240 := by rcases Nat.lt_or_ge i1 240 with q | q; exact q; exact absurd (nI_le q (by omega)) c3
        refine lv_aload_n hx hb dJ7_fill_53178_10 rfl (lv_at hl 2 rfl) ?_
        refine lv_iload_n hx hb dJ7_fill_53178_11 rfl (lv_at hl 1 rfl) ?_
        refine lv_iload_n hx hb dJ7_fill_53178_12 rfl (lv_at hl 3 rfl) ?_
        refine va_iast hx hb hK hP hD hS 0 0 rfl rfl (vp_in_nI (by omega) (by decide)) dJ7_fill_53178_13 (fun H locs hP hD hS => ?_)
        have hP : va_P (dC, dI) vwCl [(h0, .inl (tI, 240, .inl ((upd f2 ((nI i1)).toNatClampNeg a1))))] H := hP
        have hD : va_D A [(h0, .inl (tI, 240, .inl ((upd f2 ((nI i1)).toNatClampNeg a1))))] := hD
        refine lv_iinc (v := (nI (i1 + 1))) (lv' := [(2, .int ((nI (i1 + 1)))), (3, .int 240), (0, .ref h0), (1, .int a1)]) hx hb dJ7_fill_53178_14 hl (k := 1) rfl (nI_1 _) (by decide) rfl (fun ls hl => ?_)
        refine lv_goto (tgt := 5) hx hb dJ7_fill_53178_17 (by decide) ?_
        have hl := lv_sub (l' := [(3, .int 240), (2, .int ((nI (i1 + 1)))), (0, .ref h0), (1, .int a1)]) hl [1, 0, 2, 3] rfl
        exact ih (i1 + 1) _ _ _ _ (by omega) (by omega) hl hP hD hS
  exact loop5 (240 + 1) 0 _ _ _ f (by omega) (by omega) hl hP hD hS
