theorem dX10_isLetter_0 : decode cX10_isLetter 0 = .ok (.iload_n 0, 1) := by decide +kernel
theorem dX10_isLetter_1 : decode cX10_isLetter 1 = .ok (.bipush 97, 2) := by decide +kernel
theorem dX10_isLetter_3 : decode cX10_isLetter 3 = .ok (.if_icmp .lt 13, 3) := by decide +kernel
theorem dX10_isLetter_16 : decode cX10_isLetter 16 = .ok (.iconst 0, 1) := by decide +kernel
theorem dX10_isLetter_17 : decode cX10_isLetter 17 = .ok (.ireturn, 1) := by decide +kernel
theorem dX10_isLetter_6 : decode cX10_isLetter 6 = .ok (.iload_n 0, 1) := by decide +kernel
theorem dX10_isLetter_7 : decode cX10_isLetter 7 = .ok (.bipush 122, 2) := by decide +kernel
theorem dX10_isLetter_9 : decode cX10_isLetter 9 = .ok (.if_icmp .gt 7, 3) := by decide +kernel
theorem dX10_isLetter_12 : decode cX10_isLetter 12 = .ok (.iconst 1, 1) := by decide +kernel
theorem dX10_isLetter_13 : decode cX10_isLetter 13 = .ok (.goto 4, 3) := by decide +kernel
theorem dX4_isFull_0 : decode cX4_isFull 0 = .ok (.aload_n 0, 1) := by decide +kernel
theorem dX4_isFull_1 : decode cX4_isFull 1 = .ok (.getfield 36, 3) := by decide +kernel
theorem dX4_isFull_4 : decode cX4_isFull 4 = .ok (.bipush 6, 2) := by decide +kernel
theorem dX4_isFull_6 : decode cX4_isFull 6 = .ok (.if_icmp .lt 7, 3) := by decide +kernel
theorem dX4_isFull_13 : decode cX4_isFull 13 = .ok (.iconst 0, 1) := by decide +kernel
theorem dX4_isFull_14 : decode cX4_isFull 14 = .ok (.ireturn, 1) := by decide +kernel
theorem dX4_named_0 : decode cX4_named 0 = .ok (.iconst 0, 1) := by decide +kernel
theorem dX4_named_1 : decode cX4_named 1 = .ok (.istore_n 2, 1) := by decide +kernel
theorem dX4_named_2 : decode cX4_named 2 = .ok (.iload_n 2, 1) := by decide +kernel
theorem dX4_named_3 : decode cX4_named 3 = .ok (.aload_n 0, 1) := by decide +kernel
theorem dX4_named_4 : decode cX4_named 4 = .ok (.getfield 36, 3) := by decide +kernel
theorem dX4_named_7 : decode cX4_named 7 = .ok (.if_icmp .ge 27, 3) := by decide +kernel
theorem dX4_named_34 : decode cX4_named 34 = .ok (.iconst (-1), 1) := by decide +kernel
theorem dX4_named_35 : decode cX4_named 35 = .ok (.ireturn, 1) := by decide +kernel
theorem dX4_isAnyHeld_0 : decode cX4_isAnyHeld 0 = .ok (.iconst 0, 1) := by decide +kernel
theorem dX4_isAnyHeld_1 : decode cX4_isAnyHeld 1 = .ok (.istore_n 1, 1) := by decide +kernel
theorem dX4_isAnyHeld_2 : decode cX4_isAnyHeld 2 = .ok (.iload_n 1, 1) := by decide +kernel
theorem dX4_isAnyHeld_3 : decode cX4_isAnyHeld 3 = .ok (.aload_n 0, 1) := by decide +kernel
theorem dX4_isAnyHeld_4 : decode cX4_isAnyHeld 4 = .ok (.getfield 36, 3) := by decide +kernel
theorem dX4_isAnyHeld_7 : decode cX4_isAnyHeld 7 = .ok (.if_icmp .ge 20, 3) := by decide +kernel
theorem dX4_isAnyHeld_27 : decode cX4_isAnyHeld 27 = .ok (.iconst 0, 1) := by decide +kernel
theorem dX4_isAnyHeld_28 : decode cX4_isAnyHeld 28 = .ok (.ireturn, 1) := by decide +kernel
theorem dX4_add_0 : decode cX4_add 0 = .ok (.aload_n 0, 1) := by decide +kernel
theorem dX4_add_1 : decode cX4_add 1 = .ok (.getfield 36, 3) := by decide +kernel
theorem dX4_add_4 : decode cX4_add 4 = .ok (.bipush 6, 2) := by decide +kernel
theorem dX4_add_6 : decode cX4_add 6 = .ok (.if_icmp .lt 5, 3) := by decide +kernel
theorem dX4_add_11 : decode cX4_add 11 = .ok (.aload_n 0, 1) := by decide +kernel
theorem dX4_add_12 : decode cX4_add 12 = .ok (.getfield 9, 3) := by decide +kernel
theorem dX4_add_15 : decode cX4_add 15 = .ok (.aload_n 0, 1) := by decide +kernel
theorem dX4_add_16 : decode cX4_add 16 = .ok (.getfield 36, 3) := by decide +kernel
theorem dX4_add_19 : decode cX4_add 19 = .ok (.iload_n 1, 1) := by decide +kernel
theorem dX4_add_20 : decode cX4_add 20 = .ok (.i2c, 1) := by decide +kernel
theorem dX4_add_21 : decode cX4_add 21 = .ok (.castore, 1) := by decide +kernel
theorem dX4_add_22 : decode cX4_add 22 = .ok (.aload_n 0, 1) := by decide +kernel
theorem dX4_add_23 : decode cX4_add 23 = .ok (.getfield 15, 3) := by decide +kernel
theorem dX4_add_26 : decode cX4_add 26 = .ok (.aload_n 0, 1) := by decide +kernel
theorem dX4_add_27 : decode cX4_add 27 = .ok (.getfield 36, 3) := by decide +kernel
theorem dX4_add_30 : decode cX4_add 30 = .ok (.iload_n 2, 1) := by decide +kernel
theorem dX4_add_31 : decode cX4_add 31 = .ok (.iastore, 1) := by decide +kernel
theorem dX4_add_32 : decode cX4_add 32 = .ok (.aload_n 0, 1) := by decide +kernel
theorem dX4_add_33 : decode cX4_add 33 = .ok (.dup, 1) := by decide +kernel
theorem dX4_add_34 : decode cX4_add 34 = .ok (.getfield 36, 3) := by decide +kernel
theorem dX4_add_37 : decode cX4_add 37 = .ok (.iconst 1, 1) := by decide +kernel
theorem dX4_add_38 : decode cX4_add 38 = .ok (.iadd, 1) := by decide +kernel
theorem dX4_add_39 : decode cX4_add 39 = .ok (.putfield 36, 3) := by decide +kernel
theorem dX4_add_42 : decode cX4_add 42 = .ok (.aload_n 0, 1) := by decide +kernel
theorem dX4_add_43 : decode cX4_add 43 = .ok (.getfield 36, 3) := by decide +kernel
theorem dX4_add_46 : decode cX4_add 46 = .ok (.iconst 1, 1) := by decide +kernel
theorem dX4_add_47 : decode cX4_add 47 = .ok (.isub, 1) := by decide +kernel
theorem dX4_add_48 : decode cX4_add 48 = .ok (.ireturn, 1) := by decide +kernel
theorem dX11_file_0 : decode cX11_file 0 = .ok (.iload_n 1, 1) := by decide +kernel
theorem dX11_file_1 : decode cX11_file 1 = .ok (.invokestatic 55, 3) := by decide +kernel
set_option maxRecDepth 100000 in
theorem q1020 : Cond.code yX10_isLetter cX10_isLetter 1 (some FieldType.boolean) ∈ GT := gt 1020 (rfl) (by decide +kernel)
theorem M_X10_isLetter : MY yX10_isLetter cX10_isLetter 1 (some FieldType.boolean) 1 := ⟨q1020, q124, by decide +kernel, by decide +kernel⟩
theorem q1018 : Cond.methodLink RX11 55 yX10_isLetter ∈ GT := gt 1018 (by decide +kernel) (by decide +kernel)
theorem q1019 : Cond.static yX10_isLetter ∈ GT := gt 1019 (by decide +kernel) (by decide +kernel)
theorem dX11_file_4 : decode cX11_file 4 = .ok (.ifCond .eq 12, 3) := by decide +kernel
theorem dX11_file_7 : decode cX11_file 7 = .ok (.iload_n 2, 1) := by decide +kernel
theorem dX11_file_8 : decode cX11_file 8 = .ok (.ifCond .lt 8, 3) := by decide +kernel
theorem at_X11_63 : ∀ w ∈ vx_atS RX11 63 "java/lang/IllegalArgumentException" ["java/lang/RuntimeException", "java/lang/Exception"], w ∈ GT := vxgt (by decide +kernel)
theorem q1021 : Cond.classLink RX11 59 "java/lang/IllegalArgumentException" ∈ GT := gt 1021 (by decide +kernel) (by decide +kernel)
theorem q139 : Cond.initialized "java/lang/IllegalArgumentException" ∈ GT := gt 139 (by decide +kernel) (by decide +kernel)
theorem dX11_file_16 : decode cX11_file 16 = .ok (.new 59, 3) := by decide +kernel
theorem dX11_file_19 : decode cX11_file 19 = .ok (.dup, 1) := by decide +kernel
theorem dX11_file_20 : decode cX11_file 20 = .ok (.ldc 61, 2) := by decide +kernel
theorem dX11_file_22 : decode cX11_file 22 = .ok (.invokespecial 63, 3) := by decide +kernel
theorem dX11_file_25 : decode cX11_file 25 = .ok (.athrow, 1) := by decide +kernel
theorem dX11_file_11 : decode cX11_file 11 = .ok (.iload_n 2, 1) := by decide +kernel
theorem dX11_file_12 : decode cX11_file 12 = .ok (.iconst 3, 1) := by decide +kernel
theorem dX11_file_13 : decode cX11_file 13 = .ok (.if_icmp .lt 13, 3) := by decide +kernel
theorem dX11_file_26 : decode cX11_file 26 = .ok (.aload_n 0, 1) := by decide +kernel
theorem dX11_file_27 : decode cX11_file 27 = .ok (.getfield 39, 3) := by decide +kernel
theorem dX11_file_30 : decode cX11_file 30 = .ok (.invokevirtual 66, 3) := by decide +kernel
set_option maxRecDepth 100000 in
theorem q1092 : Cond.code yX4_isFull cX4_isFull 1 (some FieldType.boolean) ∈ GT := gt 1092 (rfl) (by decide +kernel)
theorem M_X4_isFull : MY yX4_isFull cX4_isFull 1 (some FieldType.boolean) 0 := ⟨q1092, q125, by decide +kernel, by decide +kernel⟩
theorem q1089 : Cond.methodLink RX11 66 yX4_isFull ∈ GT := gt 1089 (by decide +kernel) (by decide +kernel)
theorem q1090 : Cond.instanceMethod yX4_isFull ∈ GT := gt 1090 (by decide +kernel) (by decide +kernel)
theorem q1091 : Cond.selects RX4 yX4_isFull yX4_isFull ∈ GT := gt 1091 (by decide +kernel) (by decide +kernel)
theorem dX11_file_33 : decode cX11_file 33 = .ok (.ifCond .ne 15, 3) := by decide +kernel
theorem dX11_file_36 : decode cX11_file 36 = .ok (.aload_n 0, 1) := by decide +kernel
theorem dX11_file_37 : decode cX11_file 37 = .ok (.getfield 39, 3) := by decide +kernel
theorem dX11_file_40 : decode cX11_file 40 = .ok (.iload_n 1, 1) := by decide +kernel
theorem dX11_file_41 : decode cX11_file 41 = .ok (.invokevirtual 70, 3) := by decide +kernel
set_option maxRecDepth 100000 in
theorem q1096 : Cond.code yX4_named cX4_named 3 (some FieldType.int) ∈ GT := gt 1096 (rfl) (by decide +kernel)
theorem M_X4_named : MY yX4_named cX4_named 3 (some FieldType.int) 1 := ⟨q1096, q125, by decide +kernel, by decide +kernel⟩
theorem q1093 : Cond.methodLink RX11 70 yX4_named ∈ GT := gt 1093 (by decide +kernel) (by decide +kernel)
theorem q1094 : Cond.instanceMethod yX4_named ∈ GT := gt 1094 (by decide +kernel) (by decide +kernel)
theorem q1095 : Cond.selects RX4 yX4_named yX4_named ∈ GT := gt 1095 (by decide +kernel) (by decide +kernel)
theorem dX11_file_44 : decode cX11_file 44 = .ok (.iconst (-1), 1) := by decide +kernel
theorem dX11_file_45 : decode cX11_file 45 = .ok (.if_icmp .eq 13, 3) := by decide +kernel
theorem dX11_file_58 : decode cX11_file 58 = .ok (.aload_n 0, 1) := by decide +kernel
theorem dX11_file_59 : decode cX11_file 59 = .ok (.getfield 39, 3) := by decide +kernel
theorem dX11_file_62 : decode cX11_file 62 = .ok (.iload_n 1, 1) := by decide +kernel
theorem dX11_file_63 : decode cX11_file 63 = .ok (.iload_n 2, 1) := by decide +kernel
theorem dX11_file_64 : decode cX11_file 64 = .ok (.invokevirtual 79, 3) := by decide +kernel
set_option maxRecDepth 100000 in
theorem q1116 : Cond.code yX4_add cX4_add 3 (some FieldType.int) ∈ GT := gt 1116 (rfl) (by decide +kernel)
theorem M_X4_add : MY yX4_add cX4_add 3 (some FieldType.int) 2 := ⟨q1116, q125, by decide +kernel, by decide +kernel⟩
theorem q1113 : Cond.methodLink RX11 79 yX4_add ∈ GT := gt 1113 (by decide +kernel) (by decide +kernel)
theorem q1114 : Cond.instanceMethod yX4_add ∈ GT := gt 1114 (by decide +kernel) (by decide +kernel)
theorem q1115 : Cond.selects RX4 yX4_add yX4_add ∈ GT := gt 1115 (by decide +kernel) (by decide +kernel)
theorem dX11_file_67 : decode cX11_file 67 = .ok (.ireturn, 1) := by decide +kernel
theorem dX2_isHere_0 : decode cX2_isHere 0 = .ok (.aload_n 0, 1) := by decide +kernel
theorem dX2_isHere_1 : decode cX2_isHere 1 = .ok (.getfield 28, 3) := by decide +kernel
theorem dX2_isHere_4 : decode cX2_isHere 4 = .ok (.iconst (-1), 1) := by decide +kernel
theorem dX2_isHere_5 : decode cX2_isHere 5 = .ok (.if_icmp .eq 7, 3) := by decide +kernel
theorem dX2_isHere_12 : decode cX2_isHere 12 = .ok (.iconst 0, 1) := by decide +kernel
theorem dX2_isHere_13 : decode cX2_isHere 13 = .ok (.ireturn, 1) := by decide +kernel
theorem dX7_hasCopies_0 : decode cX7_hasCopies 0 = .ok (.iconst 0, 1) := by decide +kernel
theorem dX7_hasCopies_1 : decode cX7_hasCopies 1 = .ok (.istore_n 1, 1) := by decide +kernel
theorem dX7_hasCopies_2 : decode cX7_hasCopies 2 = .ok (.iload_n 1, 1) := by decide +kernel
theorem dX7_hasCopies_3 : decode cX7_hasCopies 3 = .ok (.bipush 6, 2) := by decide +kernel
theorem dX7_hasCopies_5 : decode cX7_hasCopies 5 = .ok (.if_icmp .ge 23, 3) := by decide +kernel
theorem dX7_hasCopies_8 : decode cX7_hasCopies 8 = .ok (.aload_n 0, 1) := by decide +kernel
theorem dX7_hasCopies_9 : decode cX7_hasCopies 9 = .ok (.getfield 11, 3) := by decide +kernel
theorem dX7_hasCopies_12 : decode cX7_hasCopies 12 = .ok (.iload_n 1, 1) := by decide +kernel
theorem dX7_hasCopies_13 : decode cX7_hasCopies 13 = .ok (.aaload, 1) := by decide +kernel
theorem dX7_hasCopies_14 : decode cX7_hasCopies 14 = .ok (.invokevirtual 71, 3) := by decide +kernel
set_option maxRecDepth 100000 in
theorem q494 : Cond.code yX2_isHere cX2_isHere 1 (some FieldType.boolean) ∈ GT := gt 494 (rfl) (by decide +kernel)
theorem M_X2_isHere : MY yX2_isHere cX2_isHere 1 (some FieldType.boolean) 0 := ⟨q494, q131, by decide +kernel, by decide +kernel⟩
theorem q570 : Cond.methodLink RX7 71 yX2_isHere ∈ GT := gt 570 (by decide +kernel) (by decide +kernel)
theorem q492 : Cond.instanceMethod yX2_isHere ∈ GT := gt 492 (by decide +kernel) (by decide +kernel)
theorem q493 : Cond.selects RX2 yX2_isHere yX2_isHere ∈ GT := gt 493 (by decide +kernel) (by decide +kernel)
theorem dX7_hasCopies_17 : decode cX7_hasCopies 17 = .ok (.ifCond .eq 5, 3) := by decide +kernel
theorem dX7_hasCopies_22 : decode cX7_hasCopies 22 = .ok (.iinc 1 1, 3) := by decide +kernel
theorem dX7_hasCopies_25 : decode cX7_hasCopies 25 = .ok (.goto (-23), 3) := by decide +kernel
theorem dX7_hasCopies_28 : decode cX7_hasCopies 28 = .ok (.iconst 0, 1) := by decide +kernel
theorem dX7_hasCopies_29 : decode cX7_hasCopies 29 = .ok (.ireturn, 1) := by decide +kernel
theorem dX9_init_0 : decode cX9_init 0 = .ok (.aload_n 0, 1) := by decide +kernel
theorem q1201 : Cond.methodLink RX9 3 objectInit ∈ GT := gt 1201 (by decide +kernel) (by decide +kernel)
theorem dX9_init_1 : decode cX9_init 1 = .ok (.invokespecial 3, 3) := by decide +kernel
theorem dX9_init_4 : decode cX9_init 4 = .ok (.aload_n 0, 1) := by decide +kernel
theorem dX9_init_5 : decode cX9_init 5 = .ok (.bipush 6, 2) := by decide +kernel
theorem q1202 : Cond.classLink RX9 9 RX2 ∈ GT := gt 1202 (by decide +kernel) (by decide +kernel)
theorem dX9_init_7 : decode cX9_init 7 = .ok (.anewarray 9, 3) := by decide +kernel
theorem inGX9 : ∀ w ∈ u_ws RX9 TX9 9, w ∈ GT := gts [1219, 1221, 1223, 1225, 1227, 1229, 1231, 1233, 1235] (by decide +kernel) (by decide +kernel)
theorem q1212 : Cond.fieldLink RX9 11 "ToolPlex$Server" "copies" "[LToolPlex$Copy;" ∈ GT := gt 1212 (by decide +kernel) (by decide +kernel)
theorem dX9_init_10 : decode cX9_init 10 = .ok (.putfield 11, 3) := by decide +kernel
theorem dX9_init_13 : decode cX9_init 13 = .ok (.aload_n 0, 1) := by decide +kernel
theorem dX9_init_14 : decode cX9_init 14 = .ok (.new 9, 3) := by decide +kernel
theorem dX9_init_17 : decode cX9_init 17 = .ok (.dup, 1) := by decide +kernel
theorem dX9_init_18 : decode cX9_init 18 = .ok (.invokespecial 17, 3) := by decide +kernel
theorem q1203 : Cond.methodLinkNest RX9 17 yX2_init "ToolPlex" ∈ GT := gt 1203 (by decide +kernel) (by decide +kernel)
theorem q1213 : Cond.fieldLink RX9 18 "ToolPlex$Server" "nothing" "LToolPlex$Copy;" ∈ GT := gt 1213 (by decide +kernel) (by decide +kernel)
theorem dX9_init_21 : decode cX9_init 21 = .ok (.putfield 18, 3) := by decide +kernel
theorem dX9_init_24 : decode cX9_init 24 = .ok (.aload_n 0, 1) := by decide +kernel
theorem q1204 : Cond.classLink RX9 22 RJx4a65c ∈ GT := gt 1204 (by decide +kernel) (by decide +kernel)
theorem dX9_init_25 : decode cX9_init 25 = .ok (.new 22, 3) := by decide +kernel
theorem dX9_init_28 : decode cX9_init 28 = .ok (.dup, 1) := by decide +kernel
theorem dX9_init_29 : decode cX9_init 29 = .ok (.invokespecial 24, 3) := by decide +kernel
theorem q1205 : Cond.methodLink RX9 24 yJx4a65c_init_da8c8 ∈ GT := gt 1205 (by decide +kernel) (by decide +kernel)
theorem q1214 : Cond.fieldLink RX9 25 "ToolPlex$Server" "questions" "Ljava/util/ArrayList;" ∈ GT := gt 1214 (by decide +kernel) (by decide +kernel)
theorem dX9_init_32 : decode cX9_init 32 = .ok (.putfield 25, 3) := by decide +kernel
theorem dX9_init_35 : decode cX9_init 35 = .ok (.aload_n 0, 1) := by decide +kernel
theorem q1206 : Cond.classLink RX9 29 RX5 ∈ GT := gt 1206 (by decide +kernel) (by decide +kernel)
theorem dX9_init_36 : decode cX9_init 36 = .ok (.new 29, 3) := by decide +kernel
theorem dX9_init_39 : decode cX9_init 39 = .ok (.dup, 1) := by decide +kernel
theorem dX9_init_40 : decode cX9_init 40 = .ok (.invokespecial 31, 3) := by decide +kernel
theorem q1207 : Cond.methodLinkNest RX9 31 yX5_init "ToolPlex" ∈ GT := gt 1207 (by decide +kernel) (by decide +kernel)
theorem q1215 : Cond.fieldLink RX9 32 "ToolPlex$Server" "found" "LToolPlex$Items;" ∈ GT := gt 1215 (by decide +kernel) (by decide +kernel)
theorem dX9_init_43 : decode cX9_init 43 = .ok (.putfield 32, 3) := by decide +kernel
theorem dX9_init_46 : decode cX9_init 46 = .ok (.aload_n 0, 1) := by decide +kernel
theorem dX9_init_47 : decode cX9_init 47 = .ok (.iconst 1, 1) := by decide +kernel
theorem q1216 : Cond.fieldLink RX9 36 "ToolPlex$Server" "up" "Z" ∈ GT := gt 1216 (by decide +kernel) (by decide +kernel)
theorem dX9_init_48 : decode cX9_init 48 = .ok (.putfield 36, 3) := by decide +kernel
theorem dX9_init_51 : decode cX9_init 51 = .ok (.aload_n 0, 1) := by decide +kernel
theorem dX9_init_52 : decode cX9_init 52 = .ok (.iload_n 1, 1) := by decide +kernel
theorem q1208 : Cond.fieldLink RX9 40 "ToolPlex$Server" "kinds" "I" ∈ GT := gt 1208 (by decide +kernel) (by decide +kernel)
theorem dX9_init_53 : decode cX9_init 53 = .ok (.putfield 40, 3) := by decide +kernel
theorem dX9_init_56 : decode cX9_init 56 = .ok (.aload_n 0, 1) := by decide +kernel
theorem dX9_init_57 : decode cX9_init 57 = .ok (.iload_n 2, 1) := by decide +kernel
theorem q1209 : Cond.fieldLink RX9 44 "ToolPlex$Server" "languages" "I" ∈ GT := gt 1209 (by decide +kernel) (by decide +kernel)
theorem dX9_init_58 : decode cX9_init 58 = .ok (.putfield 44, 3) := by decide +kernel
theorem dX9_init_61 : decode cX9_init 61 = .ok (.aload_n 0, 1) := by decide +kernel
theorem dX9_init_62 : decode cX9_init 62 = .ok (.iload_n 3, 1) := by decide +kernel
theorem q1210 : Cond.fieldLink RX9 47 "ToolPlex$Server" "style" "I" ∈ GT := gt 1210 (by decide +kernel) (by decide +kernel)
theorem dX9_init_63 : decode cX9_init 63 = .ok (.putfield 47, 3) := by decide +kernel
theorem dX9_init_66 : decode cX9_init 66 = .ok (.aload_n 0, 1) := by decide +kernel
theorem dX9_init_67 : decode cX9_init 67 = .ok (.aload 4, 2) := by decide +kernel
theorem q1211 : Cond.fieldLink RX9 50 "ToolPlex$Server" "files" "LToolPlex$Files;" ∈ GT := gt 1211 (by decide +kernel) (by decide +kernel)
theorem dX9_init_69 : decode cX9_init 69 = .ok (.putfield 50, 3) := by decide +kernel
theorem dX9_init_72 : decode cX9_init 72 = .ok (.iconst 0, 1) := by decide +kernel
theorem dX9_init_73 : decode cX9_init 73 = .ok (.istore 5, 2) := by decide +kernel
theorem dX9_init_75 : decode cX9_init 75 = .ok (.iload 5, 2) := by decide +kernel
theorem dX9_init_77 : decode cX9_init 77 = .ok (.bipush 6, 2) := by decide +kernel
theorem dX9_init_79 : decode cX9_init 79 = .ok (.if_icmp .ge 23, 3) := by decide +kernel
theorem dX9_init_82 : decode cX9_init 82 = .ok (.aload_n 0, 1) := by decide +kernel
theorem dX9_init_83 : decode cX9_init 83 = .ok (.getfield 11, 3) := by decide +kernel
theorem dX9_init_86 : decode cX9_init 86 = .ok (.iload 5, 2) := by decide +kernel
theorem dX9_init_88 : decode cX9_init 88 = .ok (.new 9, 3) := by decide +kernel
theorem dX9_init_91 : decode cX9_init 91 = .ok (.dup, 1) := by decide +kernel
theorem dX9_init_92 : decode cX9_init 92 = .ok (.invokespecial 17, 3) := by decide +kernel
theorem dX9_init_95 : decode cX9_init 95 = .ok (.aastore, 1) := by decide +kernel
theorem dX9_init_96 : decode cX9_init 96 = .ok (.iinc 5 1, 3) := by decide +kernel
theorem dX9_init_99 : decode cX9_init 99 = .ok (.goto (-24), 3) := by decide +kernel
theorem dX9_init_102 : decode cX9_init 102 = .ok (.return_, 1) := by decide +kernel
theorem dJx4a65c_grow_92f84_0 : decode cJx4a65c_grow_92f84 0 = .ok (.aload_n 0, 1) := by decide +kernel
theorem dJx4a65c_grow_92f84_1 : decode cJx4a65c_grow_92f84 1 = .ok (.getfield 9, 3) := by decide +kernel
theorem dJx4a65c_grow_92f84_4 : decode cJx4a65c_grow_92f84 4 = .ok (.arraylength, 1) := by decide +kernel
theorem dJx4a65c_grow_92f84_5 : decode cJx4a65c_grow_92f84 5 = .ok (.istore_n 2, 1) := by decide +kernel
theorem dJx4a65c_grow_92f84_6 : decode cJx4a65c_grow_92f84 6 = .ok (.iload_n 2, 1) := by decide +kernel
theorem dJx4a65c_grow_92f84_7 : decode cJx4a65c_grow_92f84 7 = .ok (.ifCond .gt 13, 3) := by decide +kernel
theorem dJx4a65c_grow_92f84_10 : decode cJx4a65c_grow_92f84 10 = .ok (.aload_n 0, 1) := by decide +kernel
theorem dJx4a65c_grow_92f84_11 : decode cJx4a65c_grow_92f84 11 = .ok (.getfield 9, 3) := by decide +kernel
theorem dJx4a65c_grow_92f84_14 : decode cJx4a65c_grow_92f84 14 = .ok (.getstatic 39, 3) := by decide +kernel
theorem dJx4a65c_grow_92f84_17 : decode cJx4a65c_grow_92f84 17 = .ok (.if_acmp .eq 28, 3) := by decide +kernel
theorem dJx4a65c_grow_92f84_45 : decode cJx4a65c_grow_92f84 45 = .ok (.aload_n 0, 1) := by decide +kernel
theorem dJx4a65c_grow_92f84_46 : decode cJx4a65c_grow_92f84 46 = .ok (.bipush 10, 2) := by decide +kernel
theorem dJx4a65c_grow_92f84_48 : decode cJx4a65c_grow_92f84 48 = .ok (.iload_n 1, 1) := by decide +kernel
theorem q832 : Cond.methodLink RJx4a65c 79 yJ9_max_7cf53 ∈ GT := gt 832 (by decide +kernel) (by decide +kernel)
theorem q520 : Cond.static yJ9_max_7cf53 ∈ GT := gt 520 (by decide +kernel) (by decide +kernel)
theorem q145 : Cond.initialized RJ9 ∈ GT := gt 145 (by decide +kernel) (by decide +kernel)
set_option maxRecDepth 100000 in
theorem q521 : Cond.code yJ9_max_7cf53 cJ9_max_7cf53 2 (some FieldType.int) ∈ GT := gt 521 (rfl) (by decide +kernel)
theorem dJx4a65c_grow_92f84_49 : decode cJx4a65c_grow_92f84 49 = .ok (.invokestatic 79, 3) := by decide +kernel
theorem q833 : Cond.classLink RJx4a65c 7 "java/lang/Object" ∈ GT := gt 833 (by decide +kernel) (by decide +kernel)
theorem dJx4a65c_grow_92f84_52 : decode cJx4a65c_grow_92f84 52 = .ok (.anewarray 7, 3) := by decide +kernel
theorem dJx4a65c_grow_92f84_55 : decode cJx4a65c_grow_92f84 55 = .ok (.dup_x1, 1) := by decide +kernel
theorem dJx4a65c_grow_92f84_56 : decode cJx4a65c_grow_92f84 56 = .ok (.putfield 9, 3) := by decide +kernel
theorem dJx4a65c_grow_92f84_59 : decode cJx4a65c_grow_92f84 59 = .ok (.areturn, 1) := by decide +kernel
theorem dJx4a65c_grow_d5877_0 : decode cJx4a65c_grow_d5877 0 = .ok (.aload_n 0, 1) := by decide +kernel
theorem dJx4a65c_grow_d5877_1 : decode cJx4a65c_grow_d5877 1 = .ok (.aload_n 0, 1) := by decide +kernel
theorem dJx4a65c_grow_d5877_2 : decode cJx4a65c_grow_d5877 2 = .ok (.getfield 48, 3) := by decide +kernel
theorem dJx4a65c_grow_d5877_5 : decode cJx4a65c_grow_d5877 5 = .ok (.iconst 1, 1) := by decide +kernel
theorem dJx4a65c_grow_d5877_6 : decode cJx4a65c_grow_d5877 6 = .ok (.iadd, 1) := by decide +kernel
theorem dJx4a65c_grow_d5877_7 : decode cJx4a65c_grow_d5877 7 = .ok (.invokevirtual 69, 3) := by decide +kernel
set_option maxRecDepth 100000 in
theorem q793 : Cond.code yJx4a65c_grow_92f84 cJx4a65c_grow_92f84 4 (some (FieldType.array (FieldType.object "java/lang/Object"))) ∈ GT := gt 793 (rfl) (by decide +kernel)
theorem M_Jx4a65c_grow_92f84 : MY yJx4a65c_grow_92f84 cJx4a65c_grow_92f84 4 (some (FieldType.array (FieldType.object "java/lang/Object"))) 1 := ⟨q793, q128, by decide +kernel, by decide +kernel⟩
theorem q790 : Cond.methodLink RJx4a65c 69 yJx4a65c_grow_92f84 ∈ GT := gt 790 (by decide +kernel) (by decide +kernel)
theorem q792 : Cond.instanceMethod yJx4a65c_grow_92f84 ∈ GT := gt 792 (by decide +kernel) (by decide +kernel)
theorem q17 : Cond.selects RJx4a65c yJx4a65c_grow_92f84 yJx4a65c_grow_92f84 ∈ GT := gt 17 (by decide +kernel) (by decide +kernel)
theorem dJx4a65c_grow_d5877_10 : decode cJx4a65c_grow_d5877 10 = .ok (.areturn, 1) := by decide +kernel
theorem dJx4a65c_add_72be8_0 : decode cJx4a65c_add_72be8 0 = .ok (.iload_n 3, 1) := by decide +kernel
theorem dJx4a65c_add_72be8_1 : decode cJx4a65c_add_72be8 1 = .ok (.aload_n 2, 1) := by decide +kernel
theorem dJx4a65c_add_72be8_2 : decode cJx4a65c_add_72be8 2 = .ok (.arraylength, 1) := by decide +kernel
theorem dJx4a65c_add_72be8_3 : decode cJx4a65c_add_72be8 3 = .ok (.if_icmp .ne 8, 3) := by decide +kernel
theorem dJx4a65c_add_72be8_6 : decode cJx4a65c_add_72be8 6 = .ok (.aload_n 0, 1) := by decide +kernel
theorem dJx4a65c_add_72be8_7 : decode cJx4a65c_add_72be8 7 = .ok (.invokevirtual 129, 3) := by decide +kernel
set_option maxRecDepth 100000 in
theorem q789 : Cond.code yJx4a65c_grow_d5877 cJx4a65c_grow_d5877 1 (some (FieldType.array (FieldType.object "java/lang/Object"))) ∈ GT := gt 789 (rfl) (by decide +kernel)
theorem M_Jx4a65c_grow_d5877 : MY yJx4a65c_grow_d5877 cJx4a65c_grow_d5877 1 (some (FieldType.array (FieldType.object "java/lang/Object"))) 0 := ⟨q789, q128, by decide +kernel, by decide +kernel⟩
theorem q786 : Cond.methodLink RJx4a65c 129 yJx4a65c_grow_d5877 ∈ GT := gt 786 (by decide +kernel) (by decide +kernel)
theorem q788 : Cond.instanceMethod yJx4a65c_grow_d5877 ∈ GT := gt 788 (by decide +kernel) (by decide +kernel)
theorem q16 : Cond.selects RJx4a65c yJx4a65c_grow_d5877 yJx4a65c_grow_d5877 ∈ GT := gt 16 (by decide +kernel) (by decide +kernel)
theorem dJx4a65c_add_72be8_10 : decode cJx4a65c_add_72be8 10 = .ok (.astore_n 2, 1) := by decide +kernel
theorem dJx4a65c_add_72be8_11 : decode cJx4a65c_add_72be8 11 = .ok (.aload_n 2, 1) := by decide +kernel
theorem dJx4a65c_add_72be8_12 : decode cJx4a65c_add_72be8 12 = .ok (.iload_n 3, 1) := by decide +kernel
theorem dJx4a65c_add_72be8_13 : decode cJx4a65c_add_72be8 13 = .ok (.aload_n 1, 1) := by decide +kernel
theorem q2416 : Cond.castable RX9 "java/lang/Object" ∈ GT := gt 2416 (by decide +kernel) (by decide +kernel)
theorem dJx4a65c_add_72be8_14 : decode cJx4a65c_add_72be8 14 = .ok (.aastore, 1) := by decide +kernel
theorem dJx4a65c_add_72be8_15 : decode cJx4a65c_add_72be8 15 = .ok (.aload_n 0, 1) := by decide +kernel
theorem dJx4a65c_add_72be8_16 : decode cJx4a65c_add_72be8 16 = .ok (.iload_n 3, 1) := by decide +kernel
theorem dJx4a65c_add_72be8_17 : decode cJx4a65c_add_72be8 17 = .ok (.iconst 1, 1) := by decide +kernel
theorem dJx4a65c_add_72be8_18 : decode cJx4a65c_add_72be8 18 = .ok (.iadd, 1) := by decide +kernel
theorem dJx4a65c_add_72be8_19 : decode cJx4a65c_add_72be8 19 = .ok (.putfield 48, 3) := by decide +kernel
theorem dJx4a65c_add_72be8_22 : decode cJx4a65c_add_72be8 22 = .ok (.return_, 1) := by decide +kernel
theorem q223 : Cond.sameField "java/util/ArrayList" "java/util/AbstractList" "modCount" "I" ∈ GT := gt 223 (by decide +kernel) (by decide +kernel)
theorem dJx4a65c_add_9ea2d_0 : decode cJx4a65c_add_9ea2d 0 = .ok (.aload_n 0, 1) := by decide +kernel
theorem dJx4a65c_add_9ea2d_1 : decode cJx4a65c_add_9ea2d 1 = .ok (.dup, 1) := by decide +kernel
theorem q222 : Cond.fieldLink RJx4a65c 63 "java/util/ArrayList" "modCount" "I" ∈ GT := gt 222 (by decide +kernel) (by decide +kernel)
theorem dJx4a65c_add_9ea2d_2 : decode cJx4a65c_add_9ea2d 2 = .ok (.getfield 63, 3) := by decide +kernel
theorem dJx4a65c_add_9ea2d_5 : decode cJx4a65c_add_9ea2d 5 = .ok (.iconst 1, 1) := by decide +kernel
theorem dJx4a65c_add_9ea2d_6 : decode cJx4a65c_add_9ea2d 6 = .ok (.iadd, 1) := by decide +kernel
theorem dJx4a65c_add_9ea2d_7 : decode cJx4a65c_add_9ea2d 7 = .ok (.putfield 63, 3) := by decide +kernel
theorem dJx4a65c_add_9ea2d_10 : decode cJx4a65c_add_9ea2d 10 = .ok (.aload_n 0, 1) := by decide +kernel
theorem dJx4a65c_add_9ea2d_11 : decode cJx4a65c_add_9ea2d 11 = .ok (.aload_n 1, 1) := by decide +kernel
theorem dJx4a65c_add_9ea2d_12 : decode cJx4a65c_add_9ea2d 12 = .ok (.aload_n 0, 1) := by decide +kernel
theorem dJx4a65c_add_9ea2d_13 : decode cJx4a65c_add_9ea2d 13 = .ok (.getfield 9, 3) := by decide +kernel
theorem dJx4a65c_add_9ea2d_16 : decode cJx4a65c_add_9ea2d 16 = .ok (.aload_n 0, 1) := by decide +kernel
theorem dJx4a65c_add_9ea2d_17 : decode cJx4a65c_add_9ea2d 17 = .ok (.getfield 48, 3) := by decide +kernel
theorem dJx4a65c_add_9ea2d_20 : decode cJx4a65c_add_9ea2d 20 = .ok (.invokevirtual 131, 3) := by decide +kernel
set_option maxRecDepth 100000 in
theorem q785 : Cond.code yJx4a65c_add_72be8 cJx4a65c_add_72be8 4 none ∈ GT := gt 785 (rfl) (by decide +kernel)
theorem M_Jx4a65c_add_72be8 : MY yJx4a65c_add_72be8 cJx4a65c_add_72be8 4 none 3 := ⟨q785, q128, by decide +kernel, by decide +kernel⟩
theorem q782 : Cond.methodLink RJx4a65c 131 yJx4a65c_add_72be8 ∈ GT := gt 782 (by decide +kernel) (by decide +kernel)
theorem q784 : Cond.instanceMethod yJx4a65c_add_72be8 ∈ GT := gt 784 (by decide +kernel) (by decide +kernel)
theorem q15 : Cond.selects RJx4a65c yJx4a65c_add_72be8 yJx4a65c_add_72be8 ∈ GT := gt 15 (by decide +kernel) (by decide +kernel)
theorem dJx4a65c_add_9ea2d_23 : decode cJx4a65c_add_9ea2d 23 = .ok (.iconst 1, 1) := by decide +kernel
theorem dJx4a65c_add_9ea2d_24 : decode cJx4a65c_add_9ea2d 24 = .ok (.ireturn, 1) := by decide +kernel
theorem dX11_server_0 : decode cX11_server 0 = .ok (.iload_n 1, 1) := by decide +kernel
theorem dX11_server_1 : decode cX11_server 1 = .ok (.iconst 1, 1) := by decide +kernel
theorem dX11_server_2 : decode cX11_server 2 = .ok (.if_icmp .lt 29, 3) := by decide +kernel
theorem dX11_server_31 : decode cX11_server 31 = .ok (.new 59, 3) := by decide +kernel
theorem dX11_server_34 : decode cX11_server 34 = .ok (.dup, 1) := by decide +kernel
theorem dX11_server_35 : decode cX11_server 35 = .ok (.ldc 111, 2) := by decide +kernel
theorem dX11_server_37 : decode cX11_server 37 = .ok (.invokespecial 63, 3) := by decide +kernel
theorem dX11_server_40 : decode cX11_server 40 = .ok (.athrow, 1) := by decide +kernel
theorem dX11_server_5 : decode cX11_server 5 = .ok (.iload_n 1, 1) := by decide +kernel
theorem dX11_server_6 : decode cX11_server 6 = .ok (.bipush 63, 2) := by decide +kernel
theorem dX11_server_8 : decode cX11_server 8 = .ok (.if_icmp .gt 23, 3) := by decide +kernel
theorem dX11_server_11 : decode cX11_server 11 = .ok (.iload_n 2, 1) := by decide +kernel
theorem dX11_server_12 : decode cX11_server 12 = .ok (.iconst 1, 1) := by decide +kernel
theorem dX11_server_13 : decode cX11_server 13 = .ok (.if_icmp .lt 18, 3) := by decide +kernel
theorem dX11_server_16 : decode cX11_server 16 = .ok (.iload_n 2, 1) := by decide +kernel
theorem dX11_server_17 : decode cX11_server 17 = .ok (.bipush 7, 2) := by decide +kernel
theorem dX11_server_19 : decode cX11_server 19 = .ok (.if_icmp .gt 12, 3) := by decide +kernel
theorem dX11_server_22 : decode cX11_server 22 = .ok (.iload_n 3, 1) := by decide +kernel
theorem dX11_server_23 : decode cX11_server 23 = .ok (.ifCond .lt 8, 3) := by decide +kernel
theorem dX11_server_26 : decode cX11_server 26 = .ok (.iload_n 3, 1) := by decide +kernel
theorem dX11_server_27 : decode cX11_server 27 = .ok (.iconst 2, 1) := by decide +kernel
theorem dX11_server_28 : decode cX11_server 28 = .ok (.if_icmp .le 13, 3) := by decide +kernel
theorem dX11_server_41 : decode cX11_server 41 = .ok (.aload_n 0, 1) := by decide +kernel
theorem dX11_server_42 : decode cX11_server 42 = .ok (.getfield 43, 3) := by decide +kernel
theorem dX11_server_45 : decode cX11_server 45 = .ok (.invokevirtual 113, 3) := by decide +kernel
theorem dX11_server_48 : decode cX11_server 48 = .ok (.istore 4, 2) := by decide +kernel
theorem dX11_server_50 : decode cX11_server 50 = .ok (.iload 4, 2) := by decide +kernel
theorem dX11_server_52 : decode cX11_server 52 = .ok (.iconst 3, 1) := by decide +kernel
theorem dX11_server_53 : decode cX11_server 53 = .ok (.if_icmp .ge 23, 3) := by decide +kernel
theorem dX11_server_56 : decode cX11_server 56 = .ok (.aload_n 0, 1) := by decide +kernel
theorem dX11_server_57 : decode cX11_server 57 = .ok (.getfield 39, 3) := by decide +kernel
theorem dX11_server_60 : decode cX11_server 60 = .ok (.invokevirtual 114, 3) := by decide +kernel
set_option maxRecDepth 100000 in
theorem q1191 : Cond.code yX4_isAnyHeld cX4_isAnyHeld 2 (some FieldType.boolean) ∈ GT := gt 1191 (rfl) (by decide +kernel)
theorem M_X4_isAnyHeld : MY yX4_isAnyHeld cX4_isAnyHeld 2 (some FieldType.boolean) 0 := ⟨q1191, q125, by decide +kernel, by decide +kernel⟩
theorem q1188 : Cond.methodLink RX11 114 yX4_isAnyHeld ∈ GT := gt 1188 (by decide +kernel) (by decide +kernel)
theorem q1189 : Cond.instanceMethod yX4_isAnyHeld ∈ GT := gt 1189 (by decide +kernel) (by decide +kernel)
theorem q1190 : Cond.selects RX4 yX4_isAnyHeld yX4_isAnyHeld ∈ GT := gt 1190 (by decide +kernel) (by decide +kernel)
theorem dX11_server_63 : decode cX11_server 63 = .ok (.ifCond .ne 13, 3) := by decide +kernel
theorem dX11_server_66 : decode cX11_server 66 = .ok (.aload_n 0, 1) := by decide +kernel
theorem q395 : Cond.fieldLink RX11 35 "ToolPlex" "multiplexer" "LToolPlex$Multiplexer;" ∈ GT := gt 395 (by decide +kernel) (by decide +kernel)
theorem dX11_server_67 : decode cX11_server 67 = .ok (.getfield 35, 3) := by decide +kernel
theorem dX11_server_70 : decode cX11_server 70 = .ok (.invokevirtual 117, 3) := by decide +kernel
set_option maxRecDepth 100000 in
theorem q1196 : Cond.code yX7_hasCopies cX7_hasCopies 2 (some FieldType.boolean) ∈ GT := gt 1196 (rfl) (by decide +kernel)
theorem q133 : Cond.initialized RX7 ∈ GT := gt 133 (by decide +kernel) (by decide +kernel)
theorem M_X7_hasCopies : MY yX7_hasCopies cX7_hasCopies 2 (some FieldType.boolean) 0 := ⟨q1196, q133, by decide +kernel, by decide +kernel⟩
theorem q1193 : Cond.methodLink RX11 117 yX7_hasCopies ∈ GT := gt 1193 (by decide +kernel) (by decide +kernel)
theorem q1194 : Cond.instanceMethod yX7_hasCopies ∈ GT := gt 1194 (by decide +kernel) (by decide +kernel)
theorem q1195 : Cond.selects RX7 yX7_hasCopies yX7_hasCopies ∈ GT := gt 1195 (by decide +kernel) (by decide +kernel)
theorem dX11_server_73 : decode cX11_server 73 = .ok (.ifCond .eq 13, 3) := by decide +kernel
theorem q976 : Cond.classLink RX11 122 RX9 ∈ GT := gt 976 (by decide +kernel) (by decide +kernel)
theorem q989 : Cond.instantiable RX9 9 ∈ GT := gt 989 (by decide +kernel) (by decide +kernel)
theorem q143 : Cond.initialized RX9 ∈ GT := gt 143 (by decide +kernel) (by decide +kernel)
theorem dX11_server_86 : decode cX11_server 86 = .ok (.new 122, 3) := by decide +kernel
theorem dX11_server_89 : decode cX11_server 89 = .ok (.dup, 1) := by decide +kernel
theorem dX11_server_90 : decode cX11_server 90 = .ok (.iload_n 1, 1) := by decide +kernel
theorem dX11_server_91 : decode cX11_server 91 = .ok (.iload_n 2, 1) := by decide +kernel
theorem dX11_server_92 : decode cX11_server 92 = .ok (.iload_n 3, 1) := by decide +kernel
theorem dX11_server_93 : decode cX11_server 93 = .ok (.aload_n 0, 1) := by decide +kernel
theorem dX11_server_94 : decode cX11_server 94 = .ok (.getfield 39, 3) := by decide +kernel
theorem dX11_server_97 : decode cX11_server 97 = .ok (.invokespecial 124, 3) := by decide +kernel
set_option maxRecDepth 100000 in
theorem q1200 : Cond.code yX9_init cX9_init 6 none ∈ GT := gt 1200 (rfl) (by decide +kernel)
theorem M_X9_init : MY yX9_init cX9_init 6 none 4 := ⟨q1200, q143, by decide +kernel, by decide +kernel⟩
theorem q1198 : Cond.methodLink RX11 124 yX9_init ∈ GT := gt 1198 (by decide +kernel) (by decide +kernel)
theorem q1199 : Cond.instanceMethod yX9_init ∈ GT := gt 1199 (by decide +kernel) (by decide +kernel)
theorem dX11_server_100 : decode cX11_server 100 = .ok (.astore 5, 2) := by decide +kernel
theorem dX11_server_102 : decode cX11_server 102 = .ok (.aload_n 0, 1) := by decide +kernel
theorem dX11_server_103 : decode cX11_server 103 = .ok (.getfield 43, 3) := by decide +kernel
theorem dX11_server_106 : decode cX11_server 106 = .ok (.aload 5, 2) := by decide +kernel
theorem dX11_server_108 : decode cX11_server 108 = .ok (.invokevirtual 127, 3) := by decide +kernel
set_option maxRecDepth 100000 in
theorem q781 : Cond.code yJx4a65c_add_9ea2d cJx4a65c_add_9ea2d 2 (some FieldType.boolean) ∈ GT := gt 781 (rfl) (by decide +kernel)
theorem M_Jx4a65c_add_9ea2d : MY yJx4a65c_add_9ea2d cJx4a65c_add_9ea2d 2 (some FieldType.boolean) 1 := ⟨q781, q128, by decide +kernel, by decide +kernel⟩
theorem q1238 : Cond.methodLink RX11 127 yJx4a65c_add_9ea2d ∈ GT := gt 1238 (by decide +kernel) (by decide +kernel)
theorem q779 : Cond.instanceMethod yJx4a65c_add_9ea2d ∈ GT := gt 779 (by decide +kernel) (by decide +kernel)
theorem q780 : Cond.selects RJx4a65c yJx4a65c_add_9ea2d yJx4a65c_add_9ea2d ∈ GT := gt 780 (by decide +kernel) (by decide +kernel)
theorem dX11_server_111 : decode cX11_server 111 = .ok (.pop, 1) := by decide +kernel
theorem dX11_server_112 : decode cX11_server 112 = .ok (.iload 4, 2) := by decide +kernel
theorem dX11_server_114 : decode cX11_server 114 = .ok (.ireturn, 1) := by decide +kernel
theorem dX1_size_0 : decode cX1_size 0 = .ok (.aload_n 0, 1) := by decide +kernel
theorem dX1_size_1 : decode cX1_size 1 = .ok (.getfield 10, 3) := by decide +kernel
theorem dX1_size_4 : decode cX1_size 4 = .ok (.invokevirtual 16, 3) := by decide +kernel
theorem q423 : Cond.methodLink RX1 16 yJx4a65c_size_8abf5 ∈ GT := gt 423 (by decide +kernel) (by decide +kernel)
theorem dX1_size_7 : decode cX1_size 7 = .ok (.ireturn, 1) := by decide +kernel
theorem dJx4a65c_isEmpty_aae02_0 : decode cJx4a65c_isEmpty_aae02 0 = .ok (.aload_n 0, 1) := by decide +kernel
theorem dJx4a65c_isEmpty_aae02_1 : decode cJx4a65c_isEmpty_aae02 1 = .ok (.getfield 48, 3) := by decide +kernel
theorem dJx4a65c_isEmpty_aae02_4 : decode cJx4a65c_isEmpty_aae02 4 = .ok (.ifCond .ne 7, 3) := by decide +kernel
theorem dJx4a65c_isEmpty_aae02_7 : decode cJx4a65c_isEmpty_aae02 7 = .ok (.iconst 1, 1) := by decide +kernel
theorem dJx4a65c_isEmpty_aae02_8 : decode cJx4a65c_isEmpty_aae02 8 = .ok (.goto 4, 3) := by decide +kernel
theorem dJx4a65c_isEmpty_aae02_12 : decode cJx4a65c_isEmpty_aae02 12 = .ok (.ireturn, 1) := by decide +kernel
theorem dX1_takeFirst_0 : decode cX1_takeFirst 0 = .ok (.aload_n 0, 1) := by decide +kernel
theorem dX1_takeFirst_1 : decode cX1_takeFirst 1 = .ok (.getfield 10, 3) := by decide +kernel
theorem dX1_takeFirst_4 : decode cX1_takeFirst 4 = .ok (.invokevirtual 24, 3) := by decide +kernel
set_option maxRecDepth 100000 in
theorem q438 : Cond.code yJx4a65c_isEmpty_aae02 cJx4a65c_isEmpty_aae02 1 (some FieldType.boolean) ∈ GT := gt 438 (rfl) (by decide +kernel)
theorem M_Jx4a65c_isEmpty_aae02 : MY yJx4a65c_isEmpty_aae02 cJx4a65c_isEmpty_aae02 1 (some FieldType.boolean) 0 := ⟨q438, q128, by decide +kernel, by decide +kernel⟩
theorem q435 : Cond.methodLink RX1 24 yJx4a65c_isEmpty_aae02 ∈ GT := gt 435 (by decide +kernel) (by decide +kernel)
theorem q436 : Cond.instanceMethod yJx4a65c_isEmpty_aae02 ∈ GT := gt 436 (by decide +kernel) (by decide +kernel)
theorem q437 : Cond.selects RJx4a65c yJx4a65c_isEmpty_aae02 yJx4a65c_isEmpty_aae02 ∈ GT := gt 437 (by decide +kernel) (by decide +kernel)
theorem dX1_takeFirst_7 : decode cX1_takeFirst 7 = .ok (.ifCond .eq 5, 3) := by decide +kernel
theorem dX1_takeFirst_10 : decode cX1_takeFirst 10 = .ok (.aconst_null, 1) := by decide +kernel
theorem dX1_takeFirst_11 : decode cX1_takeFirst 11 = .ok (.areturn, 1) := by decide +kernel
theorem dX11_checkChannel_0 : decode cX11_checkChannel 0 = .ok (.iload_n 1, 1) := by decide +kernel
theorem dX11_checkChannel_1 : decode cX11_checkChannel 1 = .ok (.ifCond .lt 12, 3) := by decide +kernel
theorem dX11_checkChannel_13 : decode cX11_checkChannel 13 = .ok (.new 254, 3) := by decide +kernel
theorem dX11_checkChannel_16 : decode cX11_checkChannel 16 = .ok (.dup, 1) := by decide +kernel
theorem dX11_checkChannel_17 : decode cX11_checkChannel 17 = .ok (.ldc_w 370, 3) := by decide +kernel
theorem dX11_checkChannel_20 : decode cX11_checkChannel 20 = .ok (.invokespecial 258, 3) := by decide +kernel
theorem dX11_checkChannel_23 : decode cX11_checkChannel 23 = .ok (.athrow, 1) := by decide +kernel
theorem dX11_checkChannel_4 : decode cX11_checkChannel 4 = .ok (.iload_n 1, 1) := by decide +kernel
theorem dX11_checkChannel_5 : decode cX11_checkChannel 5 = .ok (.aload_n 0, 1) := by decide +kernel
theorem q392 : Cond.fieldLink RX11 47 "ToolPlex" "channels" "[LToolPlex$Channel;" ∈ GT := gt 392 (by decide +kernel) (by decide +kernel)
theorem dX11_checkChannel_6 : decode cX11_checkChannel 6 = .ok (.getfield 47, 3) := by decide +kernel
theorem dX11_checkChannel_9 : decode cX11_checkChannel 9 = .ok (.arraylength, 1) := by decide +kernel
theorem dX11_checkChannel_10 : decode cX11_checkChannel 10 = .ok (.if_icmp .lt 14, 3) := by decide +kernel
theorem dX11_checkChannel_24 : decode cX11_checkChannel 24 = .ok (.return_, 1) := by decide +kernel
theorem dX11_pass_0 : decode cX11_pass 0 = .ok (.iload_n 1, 1) := by decide +kernel
theorem dX11_pass_1 : decode cX11_pass 1 = .ok (.ifCond .lt 12, 3) := by decide +kernel
theorem dX11_pass_13 : decode cX11_pass 13 = .ok (.iconst (-1), 1) := by decide +kernel
theorem dX11_pass_14 : decode cX11_pass 14 = .ok (.ireturn, 1) := by decide +kernel
theorem dX11_pass_4 : decode cX11_pass 4 = .ok (.iload_n 1, 1) := by decide +kernel
theorem dX11_pass_5 : decode cX11_pass 5 = .ok (.aload_n 0, 1) := by decide +kernel
theorem dX11_pass_6 : decode cX11_pass 6 = .ok (.getfield 47, 3) := by decide +kernel
theorem dX11_pass_9 : decode cX11_pass 9 = .ok (.arraylength, 1) := by decide +kernel
theorem dX11_pass_10 : decode cX11_pass 10 = .ok (.if_icmp .lt 5, 3) := by decide +kernel
theorem dX11_pass_15 : decode cX11_pass 15 = .ok (.aload_n 0, 1) := by decide +kernel
theorem dX11_pass_16 : decode cX11_pass 16 = .ok (.getfield 47, 3) := by decide +kernel
theorem dX11_pass_19 : decode cX11_pass 19 = .ok (.iload_n 1, 1) := by decide +kernel
theorem dX11_pass_20 : decode cX11_pass 20 = .ok (.aaload, 1) := by decide +kernel
theorem dX11_pass_21 : decode cX11_pass 21 = .ok (.invokevirtual 389, 3) := by decide +kernel
set_option maxRecDepth 100000 in
theorem q434 : Cond.code yX1_takeFirst cX1_takeFirst 2 (some (FieldType.object "ToolPlex$Message")) ∈ GT := gt 434 (rfl) (by decide +kernel)
theorem M_X1_takeFirst : MY yX1_takeFirst cX1_takeFirst 2 (some (FieldType.object "ToolPlex$Message")) 0 := ⟨q434, q129, by decide +kernel, by decide +kernel⟩
theorem q431 : Cond.methodLink RX11 389 yX1_takeFirst ∈ GT := gt 431 (by decide +kernel) (by decide +kernel)
theorem q432 : Cond.instanceMethod yX1_takeFirst ∈ GT := gt 432 (by decide +kernel) (by decide +kernel)
theorem q433 : Cond.selects RX1 yX1_takeFirst yX1_takeFirst ∈ GT := gt 433 (by decide +kernel) (by decide +kernel)
theorem dX11_pass_24 : decode cX11_pass 24 = .ok (.astore_n 2, 1) := by decide +kernel
theorem dX11_pass_25 : decode cX11_pass 25 = .ok (.aload_n 2, 1) := by decide +kernel
theorem dX11_pass_26 : decode cX11_pass 26 = .ok (.ifnonnull 5, 3) := by decide +kernel
theorem dX11_pass_29 : decode cX11_pass 29 = .ok (.iconst (-1), 1) := by decide +kernel
theorem dX11_pass_30 : decode cX11_pass 30 = .ok (.ireturn, 1) := by decide +kernel
theorem dX11_held_0 : decode cX11_held 0 = .ok (.iload_n 1, 1) := by decide +kernel
theorem dX11_held_1 : decode cX11_held 1 = .ok (.ifCond .lt 24, 3) := by decide +kernel
theorem dX11_held_25 : decode cX11_held 25 = .ok (.iconst 0, 1) := by decide +kernel
theorem dX11_held_26 : decode cX11_held 26 = .ok (.ireturn, 1) := by decide +kernel
theorem dX11_held_4 : decode cX11_held 4 = .ok (.iload_n 1, 1) := by decide +kernel
theorem dX11_held_5 : decode cX11_held 5 = .ok (.aload_n 0, 1) := by decide +kernel
theorem dX11_held_6 : decode cX11_held 6 = .ok (.getfield 47, 3) := by decide +kernel
theorem dX11_held_9 : decode cX11_held 9 = .ok (.arraylength, 1) := by decide +kernel
theorem dX11_held_10 : decode cX11_held 10 = .ok (.if_icmp .ge 15, 3) := by decide +kernel
theorem dX11_held_13 : decode cX11_held 13 = .ok (.aload_n 0, 1) := by decide +kernel
theorem dX11_held_14 : decode cX11_held 14 = .ok (.getfield 47, 3) := by decide +kernel
theorem dX11_held_17 : decode cX11_held 17 = .ok (.iload_n 1, 1) := by decide +kernel
theorem dX11_held_18 : decode cX11_held 18 = .ok (.aaload, 1) := by decide +kernel
theorem dX11_held_19 : decode cX11_held 19 = .ok (.invokevirtual 388, 3) := by decide +kernel
set_option maxRecDepth 100000 in
theorem q422 : Cond.code yX1_size cX1_size 1 (some FieldType.int) ∈ GT := gt 422 (rfl) (by decide +kernel)
theorem M_X1_size : MY yX1_size cX1_size 1 (some FieldType.int) 0 := ⟨q422, q129, by decide +kernel, by decide +kernel⟩
theorem q419 : Cond.methodLink RX11 388 yX1_size ∈ GT := gt 419 (by decide +kernel) (by decide +kernel)
theorem q420 : Cond.instanceMethod yX1_size ∈ GT := gt 420 (by decide +kernel) (by decide +kernel)
theorem q421 : Cond.selects RX1 yX1_size yX1_size ∈ GT := gt 421 (by decide +kernel) (by decide +kernel)
theorem dX11_held_22 : decode cX11_held 22 = .ok (.goto 4, 3) := by decide +kernel
theorem dX11_deliver_0 : decode cX11_deliver 0 = .ok (.aload_n 0, 1) := by decide +kernel
theorem dX11_deliver_1 : decode cX11_deliver 1 = .ok (.iload_n 1, 1) := by decide +kernel
theorem dX11_deliver_2 : decode cX11_deliver 2 = .ok (.invokevirtual 298, 3) := by decide +kernel
set_option maxRecDepth 100000 in
theorem q1623 : Cond.code yX11_checkChannel cX11_checkChannel 2 none ∈ GT := gt 1623 (rfl) (by decide +kernel)
theorem M_X11_checkChannel : MY yX11_checkChannel cX11_checkChannel 2 none 1 := ⟨q1623, q123, by decide +kernel, by decide +kernel⟩
theorem q1620 : Cond.methodLink RX11 298 yX11_checkChannel ∈ GT := gt 1620 (by decide +kernel) (by decide +kernel)
theorem q1622 : Cond.instanceMethod yX11_checkChannel ∈ GT := gt 1622 (by decide +kernel) (by decide +kernel)
theorem q48 : Cond.selects RX11 yX11_checkChannel yX11_checkChannel ∈ GT := gt 48 (by decide +kernel) (by decide +kernel)
theorem dX11_deliver_5 : decode cX11_deliver 5 = .ok (.aload_n 0, 1) := by decide +kernel
theorem dX11_deliver_6 : decode cX11_deliver 6 = .ok (.iload_n 1, 1) := by decide +kernel
theorem dX11_deliver_7 : decode cX11_deliver 7 = .ok (.invokevirtual 301, 3) := by decide +kernel
set_option maxRecDepth 100000 in
theorem q430 : Cond.code yX11_pass cX11_pass 3 (some FieldType.int) ∈ GT := gt 430 (rfl) (by decide +kernel)
theorem M_X11_pass : MY yX11_pass cX11_pass 3 (some FieldType.int) 1 := ⟨q430, q123, by decide +kernel, by decide +kernel⟩
theorem q427 : Cond.methodLink RX11 301 yX11_pass ∈ GT := gt 427 (by decide +kernel) (by decide +kernel)
theorem q429 : Cond.instanceMethod yX11_pass ∈ GT := gt 429 (by decide +kernel) (by decide +kernel)
theorem q1 : Cond.selects RX11 yX11_pass yX11_pass ∈ GT := gt 1 (by decide +kernel) (by decide +kernel)
theorem dX11_deliver_10 : decode cX11_deliver 10 = .ok (.ireturn, 1) := by decide +kernel
theorem dX11_waiting_0 : decode cX11_waiting 0 = .ok (.aload_n 0, 1) := by decide +kernel
theorem dX11_waiting_1 : decode cX11_waiting 1 = .ok (.iload_n 1, 1) := by decide +kernel
theorem dX11_waiting_2 : decode cX11_waiting 2 = .ok (.invokevirtual 298, 3) := by decide +kernel
theorem dX11_waiting_5 : decode cX11_waiting 5 = .ok (.aload_n 0, 1) := by decide +kernel
theorem dX11_waiting_6 : decode cX11_waiting 6 = .ok (.iload_n 1, 1) := by decide +kernel
theorem dX11_waiting_7 : decode cX11_waiting 7 = .ok (.invokevirtual 308, 3) := by decide +kernel
set_option maxRecDepth 100000 in
theorem q1635 : Cond.code yX11_held cX11_held 2 (some FieldType.int) ∈ GT := gt 1635 (rfl) (by decide +kernel)
theorem M_X11_held : MY yX11_held cX11_held 2 (some FieldType.int) 1 := ⟨q1635, q123, by decide +kernel, by decide +kernel⟩
theorem q1632 : Cond.methodLink RX11 308 yX11_held ∈ GT := gt 1632 (by decide +kernel) (by decide +kernel)
theorem q1634 : Cond.instanceMethod yX11_held ∈ GT := gt 1634 (by decide +kernel) (by decide +kernel)
theorem q49 : Cond.selects RX11 yX11_held yX11_held ∈ GT := gt 49 (by decide +kernel) (by decide +kernel)
theorem dX11_waiting_10 : decode cX11_waiting 10 = .ok (.ireturn, 1) := by decide +kernel
theorem dX11_lowestChannel_0 : decode cX11_lowestChannel 0 = .ok (.iconst 0, 1) := by decide +kernel
theorem dX11_lowestChannel_1 : decode cX11_lowestChannel 1 = .ok (.istore_n 1, 1) := by decide +kernel
theorem dX11_lowestChannel_2 : decode cX11_lowestChannel 2 = .ok (.iload_n 1, 1) := by decide +kernel
theorem dX11_lowestChannel_3 : decode cX11_lowestChannel 3 = .ok (.aload_n 0, 1) := by decide +kernel
theorem dX11_lowestChannel_4 : decode cX11_lowestChannel 4 = .ok (.getfield 47, 3) := by decide +kernel
theorem dX11_lowestChannel_7 : decode cX11_lowestChannel 7 = .ok (.arraylength, 1) := by decide +kernel
theorem dX11_lowestChannel_8 : decode cX11_lowestChannel 8 = .ok (.if_icmp .ge 23, 3) := by decide +kernel
theorem dX11_lowestChannel_11 : decode cX11_lowestChannel 11 = .ok (.aload_n 0, 1) := by decide +kernel
theorem dX11_lowestChannel_12 : decode cX11_lowestChannel 12 = .ok (.getfield 47, 3) := by decide +kernel
theorem dX11_lowestChannel_15 : decode cX11_lowestChannel 15 = .ok (.iload_n 1, 1) := by decide +kernel
theorem dX11_lowestChannel_16 : decode cX11_lowestChannel 16 = .ok (.aaload, 1) := by decide +kernel
theorem dX11_lowestChannel_17 : decode cX11_lowestChannel 17 = .ok (.invokevirtual 388, 3) := by decide +kernel
theorem dX11_lowestChannel_20 : decode cX11_lowestChannel 20 = .ok (.ifCond .le 5, 3) := by decide +kernel
theorem dX11_lowestChannel_25 : decode cX11_lowestChannel 25 = .ok (.iinc 1 1, 3) := by decide +kernel
theorem dX11_lowestChannel_28 : decode cX11_lowestChannel 28 = .ok (.goto (-26), 3) := by decide +kernel
theorem dX11_lowestChannel_31 : decode cX11_lowestChannel 31 = .ok (.iconst (-1), 1) := by decide +kernel
theorem dX11_lowestChannel_32 : decode cX11_lowestChannel 32 = .ok (.ireturn, 1) := by decide +kernel
theorem dX11_deliverAll_0 : decode cX11_deliverAll 0 = .ok (.iconst 0, 1) := by decide +kernel
theorem dX11_deliverAll_1 : decode cX11_deliverAll 1 = .ok (.istore_n 1, 1) := by decide +kernel
theorem q414 : Cond.constant RX11 304 (1000000) ∈ GT := gt 414 (by decide +kernel) (by decide +kernel)
theorem dX11_deliverAll_2 : decode cX11_deliverAll 2 = .ok (.ldc_w 304, 3) := by decide +kernel
theorem dX11_deliverAll_5 : decode cX11_deliverAll 5 = .ok (.istore_n 2, 1) := by decide +kernel
theorem dX11_deliverAll_6 : decode cX11_deliverAll 6 = .ok (.iload_n 2, 1) := by decide +kernel
theorem dX11_deliverAll_7 : decode cX11_deliverAll 7 = .ok (.ifCond .le 30, 3) := by decide +kernel
theorem dX11_deliverAll_10 : decode cX11_deliverAll 10 = .ok (.aload_n 0, 1) := by decide +kernel
theorem dX11_deliverAll_11 : decode cX11_deliverAll 11 = .ok (.invokevirtual 305, 3) := by decide +kernel
set_option maxRecDepth 100000 in
theorem q418 : Cond.code yX11_lowestChannel cX11_lowestChannel 2 (some FieldType.int) ∈ GT := gt 418 (rfl) (by decide +kernel)
theorem M_X11_lowestChannel : MY yX11_lowestChannel cX11_lowestChannel 2 (some FieldType.int) 0 := ⟨q418, q123, by decide +kernel, by decide +kernel⟩
theorem q415 : Cond.methodLink RX11 305 yX11_lowestChannel ∈ GT := gt 415 (by decide +kernel) (by decide +kernel)
theorem q417 : Cond.instanceMethod yX11_lowestChannel ∈ GT := gt 417 (by decide +kernel) (by decide +kernel)
theorem q0 : Cond.selects RX11 yX11_lowestChannel yX11_lowestChannel ∈ GT := gt 0 (by decide +kernel) (by decide +kernel)
theorem dX11_deliverAll_14 : decode cX11_deliverAll 14 = .ok (.istore_n 3, 1) := by decide +kernel
theorem dX11_deliverAll_15 : decode cX11_deliverAll 15 = .ok (.iload_n 3, 1) := by decide +kernel
theorem dX11_deliverAll_16 : decode cX11_deliverAll 16 = .ok (.iconst (-1), 1) := by decide +kernel
theorem dX11_deliverAll_17 : decode cX11_deliverAll 17 = .ok (.if_icmp .ne 5, 3) := by decide +kernel
theorem dX11_deliverAll_20 : decode cX11_deliverAll 20 = .ok (.iload_n 1, 1) := by decide +kernel
theorem dX11_deliverAll_21 : decode cX11_deliverAll 21 = .ok (.ireturn, 1) := by decide +kernel
set_option maxHeartbeats 4000000 in
set_option maxRecDepth 100000 in
theorem k_X10_isLetter (l : Launch) (d0 : Nat) (cO : ClassId) (dC : Nat → ClassId) (dI : Nat → Nat → Nat) (sz : Nat) (a0 : Int32) : Met l yX10_isLetter (cn yX10_isLetter cX10_isLetter 1 (some FieldType.boolean)) (rmd 0 0 0) (va_Pc [.int a0] (PREp d0 cO (dC, dI) (va_A [] sz) [] [] sz)) (va_Qi (fun (r : Int32) (_ : Unit) => (97 ≤ a0 ∧ a0 ≤ 122 → r = 1) ∧ (¬ (97 ≤ a0 ∧ a0 ≤ 122) → r = 0)) (fun (_ : Unit) (t : State) => va_P (dC, dI) vwCl [] t.heap) (va_A [] sz)) 0 0 (va_A [] sz) := by
  refine Met.ofW (cc := cX10_isLetter) (maxL := 1) (ret := (some FieldType.boolean)) (by decide) rfl ?_
  intro p e s m args below meth c s₁ B hml hv
  obtain ⟨rfl, hsz, hE, hP, hK⟩ := hv
  have hx := B.exec
  have hb := B.bytes
  have hr := B.returns
  have hts := atoms_spec (ws := cn yX10_isLetter cX10_isLetter 1 (some FieldType.boolean)) B.pre
  have ht : ∀ w ∈ GT, w.before _ s = true := fun w h => hts w (List.mem_cons_of_mem _ h)
  have hown : s.vm.findClass RX10 = some m.cls := findClass_of_methodNamed B.named
  have hlocks := B.notSynchronized
  subst hsz
  generalize hAe : va_A [] s.heap.size = A at hE ⊢
  have hA : ∀ q : Nat, s.heap.size ≤ q → A q := fun q h => by rw [← hAe]; exact Or.inr h
  obtain ⟨H, hH0⟩ : ∃ H, s.heap = H := ⟨_, rfl⟩
  have hS : va_S A s.heap H [] := by rw [← hH0]; exact va_S.rf
  rw [hH0] at hP
  have hl := lv_entry ([.int a0]) (n := 1) (Nat.le_of_ble_eq_true rfl)
  rw [lg_entry_eq]
  generalize (lg_sl ([.int a0]) ++ List.replicate (1 - (lg_sl ([.int a0])).length) Slot.unset).toArray = ls at hl ⊢
  have hl : lv_has ls 1 [(0, .int a0)] := hl
  rw [hH0]
  refine lv_iload_n hx hb dX10_isLetter_0 rfl (lv_at hl 0 rfl) ?_
  refine lv_bipush (v := 97) hx hb dX10_isLetter_1 (by decide) ?_
  refine lv_icmp_lt (tgt := 16) hx hb dX10_isLetter_3 (by decide) (fun c1 => ?_) (fun c1 => ?_)
  · skip
    refine lv_iconst (v := 0) hx hb dX10_isLetter_16 (by decide) ?_
    have hP9 := hP.sub (ws' := []) [] rfl
    have hK9 := hK.sub (tys' := []) [] rfl
    refine W.widen (k := 0) (n := 0) (Nat.le_of_ble_eq_true rfl) (Nat.le_of_ble_eq_true rfl) ?_
    exact W.zret (v := 0) hx hb hr (by first | decide | rfl) (fun t ht9 hW9 => ⟨⟨0, (), rfl, (by refine ⟨fun h => ?_, fun h => ?_⟩ <;> first | rfl | exact ⟨rfl, rfl⟩ | (exfalso; simp only [Int32.le_iff_toInt_le, Int32.lt_iff_toInt_lt, ← Int32.toInt_inj, li0, li1, li2, li3, li5, li6, li7, li9, li10, li32, li48, li57, li63, li97, li122, lim1] at h c1; omega)), ppk ht9 hP9⟩, hS.F ht9⟩) hS.2.2 dX10_isLetter_17
  · skip
    refine lv_iload_n hx hb dX10_isLetter_6 rfl (lv_at hl 0 rfl) ?_
    refine lv_bipush (v := 122) hx hb dX10_isLetter_7 (by decide) ?_
    refine lv_icmp_gt (tgt := 16) hx hb dX10_isLetter_9 (by decide) (fun c2 => ?_) (fun c2 => ?_)
    · skip
      refine lv_iconst (v := 0) hx hb dX10_isLetter_16 (by decide) ?_
      have hP9 := hP.sub (ws' := []) [] rfl
      have hK9 := hK.sub (tys' := []) [] rfl
      refine W.widen (k := 0) (n := 0) (Nat.le_of_ble_eq_true rfl) (Nat.le_of_ble_eq_true rfl) ?_
      exact W.zret (v := 0) hx hb hr (by first | decide | rfl) (fun t ht9 hW9 => ⟨⟨0, (), rfl, (by refine ⟨fun h => ?_, fun h => ?_⟩ <;> first | rfl | exact ⟨rfl, rfl⟩ | (exfalso; simp only [Int32.le_iff_toInt_le, Int32.lt_iff_toInt_lt, ← Int32.toInt_inj, li0, li1, li2, li3, li5, li6, li7, li9, li10, li32, li48, li57, li63, li97, li122, lim1] at h c1 c2; omega)), ppk ht9 hP9⟩, hS.F ht9⟩) hS.2.2 dX10_isLetter_17
    · skip
      refine lv_iconst (v := 1) hx hb dX10_isLetter_12 (by decide) ?_
      refine lv_goto (tgt := 17) hx hb dX10_isLetter_13 (by decide) ?_
      have hP9 := hP.sub (ws' := []) [] rfl
      have hK9 := hK.sub (tys' := []) [] rfl
      refine W.widen (k := 0) (n := 0) (Nat.le_of_ble_eq_true rfl) (Nat.le_of_ble_eq_true rfl) ?_
      exact W.zret (v := 1) hx hb hr (by first | decide | rfl) (fun t ht9 hW9 => ⟨⟨1, (), rfl, (by refine ⟨fun h => ?_, fun h => ?_⟩ <;> first | rfl | exact ⟨rfl, rfl⟩ | (exfalso; simp only [Int32.le_iff_toInt_le, Int32.lt_iff_toInt_lt, ← Int32.toInt_inj, li0, li1, li2, li3, li5, li6, li7, li9, li10, li32, li48, li57, li63, li97, li122, lim1] at h c1 c2; omega)), ppk ht9 hP9⟩, hS.F ht9⟩) hS.2.2 dX10_isLetter_17
set_option maxHeartbeats 4000000 in
set_option maxRecDepth 100000 in
theorem k_X4_isFull (l : Launch) (d0 : Nat) (cO : ClassId) (dC : Nat → ClassId) (dI : Nat → Nat → Nat) (sz : Nat) (fi : Nat) (fna fla fv2 fv3 fv4 fv5 : Value) : Met l yX4_isFull (cn yX4_isFull cX4_isFull 1 (some FieldType.boolean)) (rmd 0 0 0) (va_Pc [.ref fi] (PREp d0 cO (dC, dI) (va_A [] sz) [(fi, .inr (5, [fna, fla, fv2, fv3, fv4, fv5, .int 0]))] [] sz)) (va_Qi (fun (r : Int32) (_ : Unit) => r = 0) (fun (_ : Unit) (t : State) => va_P (dC, dI) vwCl [] t.heap) (va_A [] sz)) 0 0 (va_A [] sz) := by
  refine Met.ofW (cc := cX4_isFull) (maxL := 1) (ret := (some FieldType.boolean)) (by decide) rfl ?_
  intro p e s m args below meth c s₁ B hml hv
  obtain ⟨rfl, hsz, hE, hP, hK⟩ := hv
  have hx := B.exec
  have hb := B.bytes
  have hr := B.returns
  have hts := atoms_spec (ws := cn yX4_isFull cX4_isFull 1 (some FieldType.boolean)) B.pre
  have ht : ∀ w ∈ GT, w.before _ s = true := fun w h => hts w (List.mem_cons_of_mem _ h)
  have hown : s.vm.findClass RX4 = some m.cls := findClass_of_methodNamed B.named
  have hlocks := B.notSynchronized
  subst hsz
  generalize hAe : va_A [] s.heap.size = A at hE ⊢
  have hA : ∀ q : Nat, s.heap.size ≤ q → A q := fun q h => by rw [← hAe]; exact Or.inr h
  obtain ⟨H, hH0⟩ : ∃ H, s.heap = H := ⟨_, rfl⟩
  have hS : va_S A s.heap H [] := by rw [← hH0]; exact va_S.rf
  rw [hH0] at hP
  have hl := lv_entry ([.ref fi]) (n := 1) (Nat.le_of_ble_eq_true rfl)
  rw [lg_entry_eq]
  generalize (lg_sl ([.ref fi]) ++ List.replicate (1 - (lg_sl ([.ref fi])).length) Slot.unset).toArray = ls at hl ⊢
  have hl : lv_has ls 1 [(0, .ref fi)] := hl
  rw [hH0]
  refine lv_aload_n hx hb dX4_isFull_0 rfl (lv_at hl 0 rfl) ?_
  refine va_get (D := (dC, dI)) (ci := 5) (v := .int 0) (C := RX4) (T := TX4) (N := 7) hx hb ht inGX4 hown hK hP 0 rfl rfl 6 (by decide) (ht _ q188) (fun _ h9 => h9) rfl dX4_isFull_1 ?_
  refine lv_bipush (v := 6) hx hb dX4_isFull_4 (by decide) ?_
  refine lv_icmp_lt (tgt := 13) hx hb dX4_isFull_6 (by decide) (fun c1 => ?_) (fun c1 => False.elim (by revert c1; decide))
  refine lv_iconst (v := 0) hx hb dX4_isFull_13 (by decide) ?_
  have hP9 := hP.sub (ws' := []) [] rfl
  have hK9 := hK.sub (tys' := []) [] rfl
  refine W.widen (k := 0) (n := 0) (Nat.le_of_ble_eq_true rfl) (Nat.le_of_ble_eq_true rfl) ?_
  exact W.zret (v := 0) hx hb hr (by first | decide | rfl) (fun t ht9 hW9 => ⟨⟨0, (), rfl, rfl, ppk ht9 hP9⟩, hS.F ht9⟩) hS.2.2 dX4_isFull_14
set_option maxHeartbeats 4000000 in
set_option maxRecDepth 100000 in
theorem k_X4_named (l : Launch) (d0 : Nat) (cO : ClassId) (dC : Nat → ClassId) (dI : Nat → Nat → Nat) (sz : Nat) (fi : Nat) (fna fla fv2 fv3 fv4 fv5 : Value) (a1 : Int32) : Met l yX4_named (cn yX4_named cX4_named 3 (some FieldType.int)) (rmd 0 0 0) (va_Pc [.ref fi, .int a1] (PREp d0 cO (dC, dI) (va_A [] sz) [(fi, .inr (5, [fna, fla, fv2, fv3, fv4, fv5, .int 0]))] [] sz)) (va_Qi (fun (r : Int32) (_ : Unit) => r = -1) (fun (_ : Unit) (t : State) => va_P (dC, dI) vwCl [] t.heap) (va_A [] sz)) 0 0 (va_A [] sz) := by
  refine Met.ofW (cc := cX4_named) (maxL := 3) (ret := (some FieldType.int)) (by decide) rfl ?_
  intro p e s m args below meth c s₁ B hml hv
  obtain ⟨rfl, hsz, hE, hP, hK⟩ := hv
  have hx := B.exec
  have hb := B.bytes
  have hr := B.returns
  have hts := atoms_spec (ws := cn yX4_named cX4_named 3 (some FieldType.int)) B.pre
  have ht : ∀ w ∈ GT, w.before _ s = true := fun w h => hts w (List.mem_cons_of_mem _ h)
  have hown : s.vm.findClass RX4 = some m.cls := findClass_of_methodNamed B.named
  have hlocks := B.notSynchronized
  subst hsz
  generalize hAe : va_A [] s.heap.size = A at hE ⊢
  have hA : ∀ q : Nat, s.heap.size ≤ q → A q := fun q h => by rw [← hAe]; exact Or.inr h
  obtain ⟨H, hH0⟩ : ∃ H, s.heap = H := ⟨_, rfl⟩
  have hS : va_S A s.heap H [] := by rw [← hH0]; exact va_S.rf
  rw [hH0] at hP
  have hl := lv_entry ([.ref fi, .int a1]) (n := 3) (Nat.le_of_ble_eq_true rfl)
  rw [lg_entry_eq]
  generalize (lg_sl ([.ref fi, .int a1]) ++ List.replicate (3 - (lg_sl ([.ref fi, .int a1])).length) Slot.unset).toArray = ls at hl ⊢
  have hl : lv_has ls 3 [(0, .ref fi), (1, .int a1)] := hl
  rw [hH0]
  refine lv_iconst (v := 0) hx hb dX4_named_0 (by decide) ?_
  refine lv_istore_n (lv' := [(2, .int 0), (0, .ref fi), (1, .int a1)]) hx hb dX4_named_1 rfl hl (by decide) rfl (fun ls hl => ?_)
  refine lv_iload_n hx hb dX4_named_2 rfl (lv_at hl 0 rfl) ?_
  refine lv_aload_n hx hb dX4_named_3 rfl (lv_at hl 1 rfl) ?_
  refine va_get (D := (dC, dI)) (ci := 5) (v := .int 0) (C := RX4) (T := TX4) (N := 7) hx hb ht inGX4 hown hK hP 0 rfl rfl 6 (by decide) (ht _ q188) (fun _ h9 => h9) rfl dX4_named_4 ?_
  refine lv_icmp_ge (tgt := 34) hx hb dX4_named_7 (by decide) (fun c1 => ?_) (fun c1 => False.elim (by revert c1; decide))
  refine lv_iconst (v := -1) hx hb dX4_named_34 (by decide) ?_
  have hP9 := hP.sub (ws' := []) [] rfl
  have hK9 := hK.sub (tys' := []) [] rfl
  refine W.widen (k := 0) (n := 0) (Nat.le_of_ble_eq_true rfl) (Nat.le_of_ble_eq_true rfl) ?_
  exact W.iret (v := -1) hx hb hr (fun t ht9 hW9 => ⟨⟨-1, (), rfl, rfl, ppk ht9 hP9⟩, hS.F ht9⟩) hS.2.2 dX4_named_35
set_option maxHeartbeats 4000000 in
set_option maxRecDepth 100000 in
theorem k_X4_isAnyHeld (l : Launch) (d0 : Nat) (cO : ClassId) (dC : Nat → ClassId) (dI : Nat → Nat → Nat) (sz : Nat) (fi : Nat) (fna fla fv2 fv3 fv4 fv5 : Value) : Met l yX4_isAnyHeld (cn yX4_isAnyHeld cX4_isAnyHeld 2 (some FieldType.boolean)) (rmd 1 0 0) (va_Pc [.ref fi] (PREp d0 cO (dC, dI) (va_A [] sz) [(fi, .inr (5, [fna, fla, fv2, fv3, fv4, fv5, .int 0]))] [] sz)) (va_Qi (fun (r : Int32) (_ : Unit) => r = 0) (fun (_ : Unit) (t : State) => va_P (dC, dI) vwCl [] t.heap) (va_A [] sz)) 0 0 (va_A [] sz) := by
  refine Met.ofW (cc := cX4_isAnyHeld) (maxL := 2) (ret := (some FieldType.boolean)) (by decide) rfl ?_
  intro p e s m args below meth c s₁ B hml hv
  obtain ⟨rfl, hsz, hE, hP, hK⟩ := hv
  have hx := B.exec
  have hb := B.bytes
  have hr := B.returns
  have hts := atoms_spec (ws := cn yX4_isAnyHeld cX4_isAnyHeld 2 (some FieldType.boolean)) B.pre
  have ht : ∀ w ∈ GT, w.before _ s = true := fun w h => hts w (List.mem_cons_of_mem _ h)
  have hown : s.vm.findClass RX4 = some m.cls := findClass_of_methodNamed B.named
  have hlocks := B.notSynchronized
  subst hsz
  generalize hAe : va_A [] s.heap.size = A at hE ⊢
  have hA : ∀ q : Nat, s.heap.size ≤ q → A q := fun q h => by rw [← hAe]; exact Or.inr h
  obtain ⟨H, hH0⟩ : ∃ H, s.heap = H := ⟨_, rfl⟩
  have hS : va_S A s.heap H [] := by rw [← hH0]; exact va_S.rf
  rw [hH0] at hP
  have hl := lv_entry ([.ref fi]) (n := 2) (Nat.le_of_ble_eq_true rfl)
  rw [lg_entry_eq]
  generalize (lg_sl ([.ref fi]) ++ List.replicate (2 - (lg_sl ([.ref fi])).length) Slot.unset).toArray = ls at hl ⊢
  have hl : lv_has ls 2 [(0, .ref fi)] := hl
  rw [hH0]
  refine lv_iconst (v := 0) hx hb dX4_isAnyHeld_0 (by decide) ?_
  refine lv_istore_n (lv' := [(1, .int 0), (0, .ref fi)]) hx hb dX4_isAnyHeld_1 rfl hl (by decide) rfl (fun ls hl => ?_)
  refine lv_iload_n hx hb dX4_isAnyHeld_2 rfl (lv_at hl 0 rfl) ?_
  refine lv_aload_n hx hb dX4_isAnyHeld_3 rfl (lv_at hl 1 rfl) ?_
  refine va_get (D := (dC, dI)) (ci := 5) (v := .int 0) (C := RX4) (T := TX4) (N := 7) hx hb ht inGX4 hown hK hP 0 rfl rfl 6 (by decide) (ht _ q188) (fun _ h9 => h9) rfl dX4_isAnyHeld_4 ?_
  refine lv_icmp_ge (tgt := 27) hx hb dX4_isAnyHeld_7 (by decide) (fun c1 => ?_) (fun c1 => False.elim (by revert c1; decide))
  refine lv_iconst (v := 0) hx hb dX4_isAnyHeld_27 (by decide) ?_
  have hP9 := hP.sub (ws' := []) [] rfl
  have hK9 := hK.sub (tys' := []) [] rfl
  refine W.widen (k := 0) (n := 0) (Nat.le_of_ble_eq_true rfl) (Nat.le_of_ble_eq_true rfl) ?_
  exact W.zret (v := 0) hx hb hr (by first | decide | rfl) (fun t ht9 hW9 => ⟨⟨0, (), rfl, rfl, ppk ht9 hP9⟩, hS.F ht9⟩) hS.2.2 dX4_isAnyHeld_28
set_option maxHeartbeats 4000000 in
set_option maxRecDepth 100000 in
theorem k_X4_add (l : Launch) (d0 : Nat) (cO : ClassId) (dC : Nat → ClassId) (dI : Nat → Nat → Nat) (sz : Nat) (fi na la : Nat) (fv2 fv3 fv4 fv5 : Value) (tC tI : ClassId) (fn fl : Nat → Int32) (a1 a2 : Int32) : Met l yX4_add (cn yX4_add cX4_add 3 (some FieldType.int)) (rmd 0 0 0) (va_Pc [.ref fi, .int a1, .int a2] (PRE d0 cO (dC, dI) (va_A [(fi, .inr (5, [.ref na, .ref la, fv2, fv3, fv4, fv5, .int 0])), (na, .inl (tC, 6, .inl fn)), (la, .inl (tI, 6, .inl fl))] sz) [(fi, .inr (5, [.ref na, .ref la, fv2, fv3, fv4, fv5, .int 0])), (na, .inl (tC, 6, .inl fn)), (la, .inl (tI, 6, .inl fl))] [(tC, .char), (tI, .int)] sz)) (va_Qi (fun (r : Int32) (_ : Unit) => r = 0) (fun (_ : Unit) (t : State) => POW (dC, dI) (va_A [(fi, .inr (5, [.ref na, .ref la, fv2, fv3, fv4, fv5, .int 0])), (na, .inl (tC, 6, .inl fn)), (la, .inl (tI, 6, .inl fl))] sz) [] [] t) (va_A [(fi, .inr (5, [.ref na, .ref la, fv2, fv3, fv4, fv5, .int 0])), (na, .inl (tC, 6, .inl fn)), (la, .inl (tI, 6, .inl fl))] sz)) 0 0 (va_A [(fi, .inr (5, [.ref na, .ref la, fv2, fv3, fv4, fv5, .int 0])), (na, .inl (tC, 6, .inl fn)), (la, .inl (tI, 6, .inl fl))] sz) := by
  refine Met.ofW (cc := cX4_add) (maxL := 3) (ret := (some FieldType.int)) (by decide) rfl ?_
  intro p e s m args below meth c s₁ B hml hv
  obtain ⟨rfl, hsz, hE, hP, hK, hD0⟩ := hv
  have hx := B.exec
  have hb := B.bytes
  have hr := B.returns
  have hts := atoms_spec (ws := cn yX4_add cX4_add 3 (some FieldType.int)) B.pre
  have ht : ∀ w ∈ GT, w.before _ s = true := fun w h => hts w (List.mem_cons_of_mem _ h)
  have hown : s.vm.findClass RX4 = some m.cls := findClass_of_methodNamed B.named
  have hlocks := B.notSynchronized
  subst hsz
  have hD := hD0.self (sz := s.heap.size)
  generalize hAe : va_A [(fi, .inr (5, [.ref na, .ref la, fv2, fv3, fv4, fv5, .int 0])), (na, .inl (tC, 6, .inl fn)), (la, .inl (tI, 6, .inl fl))] s.heap.size = A at hD hE ⊢
  have hA : ∀ q : Nat, s.heap.size ≤ q → A q := fun q h => by rw [← hAe]; exact Or.inr h
  obtain ⟨H, hH0⟩ : ∃ H, s.heap = H := ⟨_, rfl⟩
  have hS : va_S A s.heap H [] := by rw [← hH0]; exact va_S.rf
  rw [hH0] at hP
  have hl := lv_entry ([.ref fi, .int a1, .int a2]) (n := 3) (Nat.le_of_ble_eq_true rfl)
  rw [lg_entry_eq]
  generalize (lg_sl ([.ref fi, .int a1, .int a2]) ++ List.replicate (3 - (lg_sl ([.ref fi, .int a1, .int a2])).length) Slot.unset).toArray = ls at hl ⊢
  have hl : lv_has ls 3 [(0, .ref fi), (1, .int a1), (2, .int a2)] := hl
  rw [hH0]
  refine lv_aload_n hx hb dX4_add_0 rfl (lv_at hl 0 rfl) ?_
  refine va_get (D := (dC, dI)) (ci := 5) (v := .int 0) (C := RX4) (T := TX4) (N := 7) hx hb ht inGX4 hown hK hP 0 rfl rfl 6 (by decide) (ht _ q188) (fun _ h9 => h9) rfl dX4_add_1 ?_
  refine lv_bipush (v := 6) hx hb dX4_add_4 (by decide) ?_
  refine lv_icmp_lt (tgt := 11) hx hb dX4_add_6 (by decide) (fun c1 => ?_) (fun c1 => False.elim (by revert c1; decide))
  refine lv_aload_n hx hb dX4_add_11 rfl (lv_at hl 0 rfl) ?_
  refine va_get (D := (dC, dI)) (ci := 5) (v := .ref na) (C := RX4) (T := TX4) (N := 7) hx hb ht inGX4 hown hK hP 0 rfl rfl 0 (by decide) (ht _ q182) (fun _ h9 => h9) rfl dX4_add_12 ?_
  refine lv_aload_n hx hb dX4_add_15 rfl (lv_at hl 0 rfl) ?_
  refine va_get (D := (dC, dI)) (ci := 5) (v := .int 0) (C := RX4) (T := TX4) (N := 7) hx hb ht inGX4 hown hK hP 0 rfl rfl 6 (by decide) (ht _ q188) (fun _ h9 => h9) rfl dX4_add_16 ?_
  refine lv_iload_n hx hb dX4_add_19 rfl (lv_at hl 1 rfl) ?_
  refine lv_i2c hx hb dX4_add_20 rfl ?_
  refine lv_topi (fun x3 ex3 => ?_)
  refine va_cast hx hb hK hP hD hS 1 0 rfl rfl (vp_in_nI (n := 0) (by decide) (by decide)) dX4_add_21 (fun H locs hP hD hS => ?_)
  have hP : va_P (dC, dI) vwCl [(fi, .inr (5, [.ref na, .ref la, fv2, fv3, fv4, fv5, .int 0])), (na, .inl (tC, 6, .inl ((upd fn 0 (vp_nar .char x3))))), (la, .inl (tI, 6, .inl fl))] H := hP
  have hD : va_D A [(fi, .inr (5, [.ref na, .ref la, fv2, fv3, fv4, fv5, .int 0])), (na, .inl (tC, 6, .inl ((upd fn 0 (vp_nar .char x3))))), (la, .inl (tI, 6, .inl fl))] := hD
  refine lv_aload_n hx hb dX4_add_22 rfl (lv_at hl 0 rfl) ?_
  refine va_get (D := (dC, dI)) (ci := 5) (v := .ref la) (C := RX4) (T := TX4) (N := 7) hx hb ht inGX4 hown hK hP 0 rfl rfl 1 (by decide) (ht _ q183) (fun _ h9 => h9) rfl dX4_add_23 ?_
  refine lv_aload_n hx hb dX4_add_26 rfl (lv_at hl 0 rfl) ?_
  refine va_get (D := (dC, dI)) (ci := 5) (v := .int 0) (C := RX4) (T := TX4) (N := 7) hx hb ht inGX4 hown hK hP 0 rfl rfl 6 (by decide) (ht _ q188) (fun _ h9 => h9) rfl dX4_add_27 ?_
  refine lv_iload_n hx hb dX4_add_30 rfl (lv_at hl 2 rfl) ?_
  refine va_iast hx hb hK hP hD hS 2 1 rfl rfl (vp_in_nI (n := 0) (by decide) (by decide)) dX4_add_31 (fun H locs hP hD hS => ?_)
  have hP : va_P (dC, dI) vwCl [(fi, .inr (5, [.ref na, .ref la, fv2, fv3, fv4, fv5, .int 0])), (na, .inl (tC, 6, .inl ((upd fn 0 (vp_nar .char x3))))), (la, .inl (tI, 6, .inl ((upd fl 0 a2))))] H := hP
  have hD : va_D A [(fi, .inr (5, [.ref na, .ref la, fv2, fv3, fv4, fv5, .int 0])), (na, .inl (tC, 6, .inl ((upd fn 0 (vp_nar .char x3))))), (la, .inl (tI, 6, .inl ((upd fl 0 a2))))] := hD
  refine lv_aload_n hx hb dX4_add_32 rfl (lv_at hl 0 rfl) ?_
  refine lv_dup hx hb dX4_add_33 rfl ?_
  refine va_get (D := (dC, dI)) (ci := 5) (v := .int 0) (C := RX4) (T := TX4) (N := 7) hx hb ht inGX4 hown hK hP 0 rfl rfl 6 (by decide) (ht _ q188) (fun _ h9 => h9) rfl dX4_add_34 ?_
  refine lv_iconst (v := 1) hx hb dX4_add_37 (by decide) ?_
  refine lv_iadd hx hb dX4_add_38 ?_
  refine lv_topi (fun x4 ex4 => ?_)
  obtain rfl : x4 = 1 := ex4.trans (by decide)
  refine va_put (D := (dC, dI)) (ci := 5) (v := .int 1) (ty := .int) (C := RX4) (T := TX4) (N := 7) hx hb ht inGX4 tyX4 tyX4_ok nmX4 hown hK hP hD hS 0 rfl rfl 6 (by decide) (ht _ q188) (fun _ h9 => h9) rfl (by decide +kernel) rfl rfl (Nat.le_of_ble_eq_true rfl) dX4_add_39 (fun H locs hP hD hS => ?_)
  have hP : va_P (dC, dI) vwCl [(fi, .inr (5, [.ref na, .ref la, fv2, fv3, fv4, fv5, .int 1])), (na, .inl (tC, 6, .inl ((upd fn 0 (vp_nar .char x3))))), (la, .inl (tI, 6, .inl ((upd fl 0 a2))))] H := hP
  have hD : va_D A [(fi, .inr (5, [.ref na, .ref la, fv2, fv3, fv4, fv5, .int 1])), (na, .inl (tC, 6, .inl ((upd fn 0 (vp_nar .char x3))))), (la, .inl (tI, 6, .inl ((upd fl 0 a2))))] := hD
  refine lv_aload_n hx hb dX4_add_42 rfl (lv_at hl 0 rfl) ?_
  refine va_get (D := (dC, dI)) (ci := 5) (v := .int 1) (C := RX4) (T := TX4) (N := 7) hx hb ht inGX4 hown hK hP 0 rfl rfl 6 (by decide) (ht _ q188) (fun _ h9 => h9) rfl dX4_add_43 ?_
  refine lv_iconst (v := 1) hx hb dX4_add_46 (by decide) ?_
  refine lv_isub hx hb dX4_add_47 ?_
  refine lv_topi (fun x5 ex5 => ?_)
  obtain rfl : x5 = 0 := ex5.trans (by decide)
  have hP9 := hP.sub (ws' := []) [] rfl
  have hD9 := hD.sub (ws' := []) [] (by decide) rfl
  have hK9 := hK.sub (tys' := []) [] rfl
  refine W.widen (k := 0) (n := 0) (Nat.le_of_ble_eq_true rfl) (Nat.le_of_ble_eq_true rfl) ?_
  exact W.iret (v := 0) hx hb hr (fun t ht9 hW9 => ⟨⟨0, (), rfl, rfl, POW.mk' ht9 hW9.alike hP9 hK9 hD9⟩, hS.F ht9⟩) hS.2.2 dX4_add_48
set_option maxHeartbeats 4000000 in
set_option maxRecDepth 100000 in
theorem k_X11_file (l : Launch) (hL : l.stackTraces = false) (d0 : Nat) (cO : ClassId) (dC : Nat → ClassId) (dI : Nat → Nat → Nat) (sz : Nat) (h0 : Nat) (t1 t2 t3 t4 t5 : Value) (fi na la : Nat) (fv2 fv3 fv4 fv5 : Value) (tC tI : ClassId) (fn fl : Nat → Int32) (a1 a2 : Int32) : vx_Met l yX11_file (cn yX11_file cX11_file 3 (some FieldType.int)) (rmd 7 1 6) (va_Pc [.ref h0, .int a1, .int a2] (PRE d0 cO (dC, dI) (va_A [(h0, .inr (12, [.ref fi, t1, t2, t3, t4, t5])), (fi, .inr (5, [.ref na, .ref la, fv2, fv3, fv4, fv5, .int 0])), (na, .inl (tC, 6, .inl fn)), (la, .inl (tI, 6, .inl fl))] sz) [(h0, .inr (12, [.ref fi, t1, t2, t3, t4, t5])), (fi, .inr (5, [.ref na, .ref la, fv2, fv3, fv4, fv5, .int 0])), (na, .inl (tC, 6, .inl fn)), (la, .inl (tI, 6, .inl fl))] [(tC, .char), (tI, .int)] sz)) (va_Qi (fun (r : Int32) (_ : Unit) => ((97 ≤ a1 ∧ a1 ≤ 122) ∧ 0 ≤ a2 ∧ a2 ≤ 2) ∧ r = 0) (fun (_ : Unit) (t : State) => POW (dC, dI) (va_A [(h0, .inr (12, [.ref fi, t1, t2, t3, t4, t5])), (fi, .inr (5, [.ref na, .ref la, fv2, fv3, fv4, fv5, .int 0])), (na, .inl (tC, 6, .inl fn)), (la, .inl (tI, 6, .inl fl))] sz) [] [] t) (va_A [(h0, .inr (12, [.ref fi, t1, t2, t3, t4, t5])), (fi, .inr (5, [.ref na, .ref la, fv2, fv3, fv4, fv5, .int 0])), (na, .inl (tC, 6, .inl fn)), (la, .inl (tI, 6, .inl fl))] sz)) (vx_X (fun _ : Unit => True) (fun E _ _ => E = "java/lang/IllegalArgumentException" ∧ ¬ ((97 ≤ a1 ∧ a1 ≤ 122) ∧ 0 ≤ a2 ∧ a2 ≤ 2)) (va_A [(h0, .inr (12, [.ref fi, t1, t2, t3, t4, t5])), (fi, .inr (5, [.ref na, .ref la, fv2, fv3, fv4, fv5, .int 0])), (na, .inl (tC, 6, .inl fn)), (la, .inl (tI, 6, .inl fl))] sz)) 1 6 (va_A [(h0, .inr (12, [.ref fi, t1, t2, t3, t4, t5])), (fi, .inr (5, [.ref na, .ref la, fv2, fv3, fv4, fv5, .int 0])), (na, .inl (tC, 6, .inl fn)), (la, .inl (tI, 6, .inl fl))] sz) := by
  refine vx_ofW (cc := cX11_file) (maxL := 3) (ret := (some FieldType.int)) (by decide) rfl ?_
  intro p e s m args below meth c s₁ B hml hno hv
  obtain ⟨rfl, hsz, hE, hP, hK, hD0⟩ := hv
  have hx := B.exec
  have hb := B.bytes
  have hr := B.returns
  have hts := atoms_spec (ws := cn yX11_file cX11_file 3 (some FieldType.int)) B.pre
  have ht : ∀ w ∈ GT, w.before _ s = true := fun w h => hts w (List.mem_cons_of_mem _ h)
  have hown : s.vm.findClass RX11 = some m.cls := findClass_of_methodNamed B.named
  have hlocks := B.notSynchronized
  subst hsz
  have hD := hD0.self (sz := s.heap.size)
  generalize hAe : va_A [(h0, .inr (12, [.ref fi, t1, t2, t3, t4, t5])), (fi, .inr (5, [.ref na, .ref la, fv2, fv3, fv4, fv5, .int 0])), (na, .inl (tC, 6, .inl fn)), (la, .inl (tI, 6, .inl fl))] s.heap.size = A at hD hE ⊢
  have hA : ∀ q : Nat, s.heap.size ≤ q → A q := fun q h => by rw [← hAe]; exact Or.inr h
  obtain ⟨H, hH0⟩ : ∃ H, s.heap = H := ⟨_, rfl⟩
  have hS : va_S A s.heap H [] := by rw [← hH0]; exact va_S.rf
  rw [hH0] at hP
  have hl := lv_entry ([.ref h0, .int a1, .int a2]) (n := 3) (Nat.le_of_ble_eq_true rfl)
  rw [lg_entry_eq]
  generalize (lg_sl ([.ref h0, .int a1, .int a2]) ++ List.replicate (3 - (lg_sl ([.ref h0, .int a1, .int a2])).length) Slot.unset).toArray = ls at hl ⊢
  have hl : lv_has ls 3 [(0, .ref h0), (1, .int a1), (2, .int a2)] := hl
  rw [hH0]
  refine lv_iload_n hx hb dX11_file_0 rfl (lv_at hl 1 rfl) ?_
  have hPc := hP.sub (ws' := []) [] rfl
  have hDc := hD.sub (ws' := []) [] (by decide) rfl
  have hKc := hK.sub (tys' := []) [] rfl
  have hFc := freeNil hS hA
  refine va_calli (va_runS (As := [.int a1]) (rest := []) ⟨hx, hb, hml, hown, ht⟩ (k_X10_isLetter l d0 cO dC dI H.size a1) (my_S ht M_X10_isLetter q1019 q1018 (Nat.le_of_ble_eq_true rfl) (Nat.le_of_ble_eq_true rfl)) ⟨PREp.fb, fun U hU hW => ⟨rfl, PREp.mk' hE hS hFc hPc hKc U hU hW⟩⟩ rfl rfl hl.1 rfl (lv_room (Nat.le_of_ble_eq_true rfl)) dX11_file_1 ⟨(Nat.le_of_ble_eq_true rfl), (Nat.le_of_ble_eq_true rfl)⟩) hS (fun q _ h => hFc q h) hFc (fun r2 u1 t H1 locs htt hvm hw hB hz1 hk1 hS => ?_)
  try dsimp only at hw hB
  have hP1 := hB
  have hP := keepAll hP hk1
  generalize H1 = H at hP hS ⊢
  have hP : va_P (dC, dI) vwCl [(h0, .inr (12, [.ref fi, t1, t2, t3, t4, t5])), (fi, .inr (5, [.ref na, .ref la, fv2, fv3, fv4, fv5, .int 0])), (na, .inl (tC, 6, .inl fn)), (la, .inl (tI, 6, .inl fl))] H := hP
  have hD : va_D A [(h0, .inr (12, [.ref fi, t1, t2, t3, t4, t5])), (fi, .inr (5, [.ref na, .ref la, fv2, fv3, fv4, fv5, .int 0])), (na, .inl (tC, 6, .inl fn)), (la, .inl (tI, 6, .inl fl))] := hD
  have hK : va_K (dC, dI) vwCl [(tC, .char), (tI, .int)] s := hK
  refine W.widen (k := 0) (n := 0) (Nat.le_of_ble_eq_true rfl) (Nat.le_of_ble_eq_true rfl) ?_
  by_cases hI3 : 97 ≤ a1 ∧ a1 ≤ 122
  · have hw := hw.1 hI3
    subst hw
    refine lv_if_eq (tgt := 16) hx hb dX11_file_4 (by decide) (fun c4 => False.elim (by revert c4; decide)) (fun c4 => ?_)
    refine lv_iload_n hx hb dX11_file_7 rfl (lv_at hl 2 rfl) ?_
    refine lv_if_lt (tgt := 16) hx hb dX11_file_8 (by decide) (fun c5 => ?_) (fun c5 => ?_)
    · skip
      obtain ⟨sa, hstr⟩ := hE.2.1 (61, "no such name or language") (by decide +kernel)
      exact vx_throwS (A := A) hx hb hL hown (by decide +kernel) (by decide +kernel) (ht _ q1021) (ht _ q139) hstr (fun w h => ht w (at_X11_63 w h)) (by decide +kernel) hE.2.2.2.2.1 hE.2.2.2.2.2 hS (by rw [hml]; exact hl.1) dX11_file_16 dX11_file_19 dX11_file_20 dX11_file_22 dX11_file_25 (fun x h => (hno x h).elim) (Nat.le_of_ble_eq_true rfl) (Nat.le_of_ble_eq_true rfl) (Nat.le_of_ble_eq_true rfl) (Nat.le_of_ble_eq_true rfl) hlocks (fun t hvm hz hk => ⟨(), trivial, ⟨rfl, fun h => by simp only [Int32.le_iff_toInt_le, Int32.lt_iff_toInt_lt, ← Int32.toInt_inj, li0, li1, li2, li3, li5, li6, li7, li9, li10, li32, li48, li57, li63, li97, li122, lim1] at h hI3 c5; omega⟩, ⟨Nat.le_trans hS.1 hz, fun q h1 h2 => by rw [hk q (Nat.lt_of_lt_of_le h1 hS.1)]; exact hS.2.1 q h1 h2⟩⟩) hS.2.2 (Nat.le_of_ble_eq_true rfl) (Nat.le_of_ble_eq_true rfl)
    · skip
      refine lv_iload_n hx hb dX11_file_11 rfl (lv_at hl 2 rfl) ?_
      refine lv_iconst (v := 3) hx hb dX11_file_12 (by decide) ?_
      refine lv_icmp_lt (tgt := 26) hx hb dX11_file_13 (by decide) (fun c6 => ?_) (fun c6 => ?_)
      · skip
        refine lv_aload_n hx hb dX11_file_26 rfl (lv_at hl 0 rfl) ?_
        refine va_get (D := (dC, dI)) (ci := 12) (v := .ref fi) (C := RX11) (T := TX11) (N := 6) hx hb ht inGX11 hown hK hP 0 rfl rfl 0 (by decide) (ht _ q391) (fun _ h9 => h9) rfl dX11_file_27 ?_
        have hPc := hP.sub (ws' := [(fi, .inr (5, [.ref na, .ref la, fv2, fv3, fv4, fv5, .int 0]))]) [1] rfl
        have hDc := hD.sub (ws' := [(fi, .inr (5, [.ref na, .ref la, fv2, fv3, fv4, fv5, .int 0]))]) [1] (by decide) rfl
        have hKc := hK.sub (tys' := []) [] rfl
        have hFc := freeNil hS hA
        refine va_calli (va_runV (As := []) (rest := []) ⟨hx, hb, hml, hown, ht⟩ (k_X4_isFull l d0 cO dC dI H.size fi (.ref na) (.ref la) fv2 fv3 fv4 fv5) (my_V ht M_X4_isFull q1090 q1091 q1089 (Nat.le_of_ble_eq_true rfl) (Nat.le_of_ble_eq_true rfl)) ⟨PREp.fb, va_recv hK hP (ci := 5) (q0 := 1) rfl rfl, fun U hU hW => ⟨rfl, PREp.mk' hE hS hFc hPc hKc U hU hW⟩⟩ rfl rfl hl.1 rfl (lv_room (Nat.le_of_ble_eq_true rfl)) dX11_file_30 ⟨(Nat.le_of_ble_eq_true rfl), (Nat.le_of_ble_eq_true rfl)⟩) hS (fun q _ h => hFc q h) hFc (fun r8 u7 t H1 locs htt hvm hw hB hz1 hk1 hS => ?_)
        try dsimp only at hw hB
        have hP1 := hB
        have hP := keepAll hP hk1
        generalize H1 = H at hP hS ⊢
        have hP : va_P (dC, dI) vwCl [(h0, .inr (12, [.ref fi, t1, t2, t3, t4, t5])), (fi, .inr (5, [.ref na, .ref la, fv2, fv3, fv4, fv5, .int 0])), (na, .inl (tC, 6, .inl fn)), (la, .inl (tI, 6, .inl fl))] H := hP
        have hD : va_D A [(h0, .inr (12, [.ref fi, t1, t2, t3, t4, t5])), (fi, .inr (5, [.ref na, .ref la, fv2, fv3, fv4, fv5, .int 0])), (na, .inl (tC, 6, .inl fn)), (la, .inl (tI, 6, .inl fl))] := hD
        have hK : va_K (dC, dI) vwCl [(tC, .char), (tI, .int)] s := hK
        refine W.widen (k := 0) (n := 0) (Nat.le_of_ble_eq_true rfl) (Nat.le_of_ble_eq_true rfl) ?_
        subst hw
        refine lv_if_ne (tgt := 48) hx hb dX11_file_33 (by decide) (fun c9 => False.elim (by revert c9; decide)) (fun c9 => ?_)
        refine lv_aload_n hx hb dX11_file_36 rfl (lv_at hl 0 rfl) ?_
        refine va_get (D := (dC, dI)) (ci := 12) (v := .ref fi) (C := RX11) (T := TX11) (N := 6) hx hb ht inGX11 hown hK hP 0 rfl rfl 0 (by decide) (ht _ q391) (fun _ h9 => h9) rfl dX11_file_37 ?_
        refine lv_iload_n hx hb dX11_file_40 rfl (lv_at hl 1 rfl) ?_
        have hPc := hP.sub (ws' := [(fi, .inr (5, [.ref na, .ref la, fv2, fv3, fv4, fv5, .int 0]))]) [1] rfl
        have hDc := hD.sub (ws' := [(fi, .inr (5, [.ref na, .ref la, fv2, fv3, fv4, fv5, .int 0]))]) [1] (by decide) rfl
        have hKc := hK.sub (tys' := []) [] rfl
        have hFc := freeNil hS hA
        refine va_calli (va_runV (As := [.int a1]) (rest := []) ⟨hx, hb, hml, hown, ht⟩ (k_X4_named l d0 cO dC dI H.size fi (.ref na) (.ref la) fv2 fv3 fv4 fv5 a1) (my_V ht M_X4_named q1094 q1095 q1093 (Nat.le_of_ble_eq_true rfl) (Nat.le_of_ble_eq_true rfl)) ⟨PREp.fb, va_recv hK hP (ci := 5) (q0 := 1) rfl rfl, fun U hU hW => ⟨rfl, PREp.mk' hE hS hFc hPc hKc U hU hW⟩⟩ rfl rfl hl.1 rfl (lv_room (Nat.le_of_ble_eq_true rfl)) dX11_file_41 ⟨(Nat.le_of_ble_eq_true rfl), (Nat.le_of_ble_eq_true rfl)⟩) hS (fun q _ h => hFc q h) hFc (fun r11 u10 t H1 locs htt hvm hw hB hz1 hk1 hS => ?_)
        try dsimp only at hw hB
        have hP1 := hB
        have hP := keepAll hP hk1
        generalize H1 = H at hP hS ⊢
        have hP : va_P (dC, dI) vwCl [(h0, .inr (12, [.ref fi, t1, t2, t3, t4, t5])), (fi, .inr (5, [.ref na, .ref la, fv2, fv3, fv4, fv5, .int 0])), (na, .inl (tC, 6, .inl fn)), (la, .inl (tI, 6, .inl fl))] H := hP
        have hD : va_D A [(h0, .inr (12, [.ref fi, t1, t2, t3, t4, t5])), (fi, .inr (5, [.ref na, .ref la, fv2, fv3, fv4, fv5, .int 0])), (na, .inl (tC, 6, .inl fn)), (la, .inl (tI, 6, .inl fl))] := hD
        have hK : va_K (dC, dI) vwCl [(tC, .char), (tI, .int)] s := hK
        refine W.widen (k := 0) (n := 0) (Nat.le_of_ble_eq_true rfl) (Nat.le_of_ble_eq_true rfl) ?_
        subst hw
        refine lv_iconst (v := -1) hx hb dX11_file_44 (by decide) ?_
        refine lv_icmp_eq (tgt := 58) hx hb dX11_file_45 (by decide) (fun c12 => ?_) (fun c12 => False.elim (by revert c12; decide))
        refine lv_aload_n hx hb dX11_file_58 rfl (lv_at hl 0 rfl) ?_
        refine va_get (D := (dC, dI)) (ci := 12) (v := .ref fi) (C := RX11) (T := TX11) (N := 6) hx hb ht inGX11 hown hK hP 0 rfl rfl 0 (by decide) (ht _ q391) (fun _ h9 => h9) rfl dX11_file_59 ?_
        refine lv_iload_n hx hb dX11_file_62 rfl (lv_at hl 1 rfl) ?_
        refine lv_iload_n hx hb dX11_file_63 rfl (lv_at hl 2 rfl) ?_
        have hPc := hP.sub (ws' := [(fi, .inr (5, [.ref na, .ref la, fv2, fv3, fv4, fv5, .int 0])), (na, .inl (tC, 6, .inl fn)), (la, .inl (tI, 6, .inl fl))]) [1, 2, 3] rfl
        have hDc := hD.sub (ws' := [(fi, .inr (5, [.ref na, .ref la, fv2, fv3, fv4, fv5, .int 0])), (na, .inl (tC, 6, .inl fn)), (la, .inl (tI, 6, .inl fl))]) [1, 2, 3] (by decide) rfl
        have hKc := hK.sub (tys' := [(tC, .char), (tI, .int)]) [0, 1] rfl
        have hFc := va_free (wc := [(fi, .inr (5, [.ref na, .ref la, fv2, fv3, fv4, fv5, .int 0])), (na, .inl (tC, 6, .inl fn)), (la, .inl (tI, 6, .inl fl))]) hD hS hA [1, 2, 3] rfl
        refine va_calli (va_runV (As := [.int a1, .int a2]) (rest := []) ⟨hx, hb, hml, hown, ht⟩ (k_X4_add l d0 cO dC dI H.size fi na la fv2 fv3 fv4 fv5 tC tI fn fl a1 a2) (my_V ht M_X4_add q1114 q1115 q1113 (Nat.le_of_ble_eq_true rfl) (Nat.le_of_ble_eq_true rfl)) ⟨PRE.fb, va_recv hK hP (ci := 5) (q0 := 1) rfl rfl, fun U hU hW => ⟨rfl, PRE.mk' hE hS hFc hPc hKc hDc U hU hW⟩⟩ rfl rfl hl.1 rfl (lv_room (Nat.le_of_ble_eq_true rfl)) dX11_file_64 ⟨(Nat.le_of_ble_eq_true rfl), (Nat.le_of_ble_eq_true rfl)⟩) hS (fun q _ h => hFc q h) hFc (fun r14 u13 t H1 locs htt hvm hw hB hz1 hk1 hS => ?_)
        try dsimp only at hw hB
        obtain ⟨hP1, hK1, hD1⟩ := hB
        rw [htt] at hP1
        have hK1 := va_K.moved hvm.symm hK1
        obtain ⟨hP, hD⟩ := va_join (wr := [(h0, .inr (12, [.ref fi, t1, t2, t3, t4, t5]))]) (w1 := []) hP hD [1, 2, 3] [0] rfl rfl (by decide) (by decide) hk1 hFc hP1 hD1
        have hK := (hK.sub (tys' := [(tC, .char), (tI, .int)]) [0, 1] rfl).app hK1
        generalize H1 = H at hP hS ⊢
        have hP : va_P (dC, dI) vwCl [(h0, .inr (12, [.ref fi, t1, t2, t3, t4, t5]))] H := hP
        have hD : va_D A [(h0, .inr (12, [.ref fi, t1, t2, t3, t4, t5]))] := hD
        have hK : va_K (dC, dI) vwCl [(tC, .char), (tI, .int)] s := hK
        refine W.widen (k := 0) (n := 0) (Nat.le_of_ble_eq_true rfl) (Nat.le_of_ble_eq_true rfl) ?_
        subst hw
        have hP9 := hP.sub (ws' := []) [] rfl
        have hD9 := hD.sub (ws' := []) [] (by decide) rfl
        have hK9 := hK.sub (tys' := []) [] rfl
        refine W.widen (k := 1) (n := 6) (Nat.le_of_ble_eq_true rfl) (Nat.le_of_ble_eq_true rfl) ?_
        refine vx_ret ?_
        exact W.iret (v := 0) hx hb hr (fun t ht9 hW9 => ⟨⟨0, (), rfl, ⟨(by simp only [Int32.le_iff_toInt_le, Int32.lt_iff_toInt_lt, ← Int32.toInt_inj, li0, li1, li2, li3, li5, li6, li7, li9, li10, li32, li48, li57, li63, li97, li122, lim1] at hI3 c5 c6 ⊢; omega), rfl⟩, POW.mk' ht9 hW9.alike hP9 hK9 hD9⟩, hS.F ht9⟩) hS.2.2 dX11_file_67
      · skip
        obtain ⟨sa, hstr⟩ := hE.2.1 (61, "no such name or language") (by decide +kernel)
        exact vx_throwS (A := A) hx hb hL hown (by decide +kernel) (by decide +kernel) (ht _ q1021) (ht _ q139) hstr (fun w h => ht w (at_X11_63 w h)) (by decide +kernel) hE.2.2.2.2.1 hE.2.2.2.2.2 hS (by rw [hml]; exact hl.1) dX11_file_16 dX11_file_19 dX11_file_20 dX11_file_22 dX11_file_25 (fun x h => (hno x h).elim) (Nat.le_of_ble_eq_true rfl) (Nat.le_of_ble_eq_true rfl) (Nat.le_of_ble_eq_true rfl) (Nat.le_of_ble_eq_true rfl) hlocks (fun t hvm hz hk => ⟨(), trivial, ⟨rfl, fun h => by simp only [Int32.le_iff_toInt_le, Int32.lt_iff_toInt_lt, ← Int32.toInt_inj, li0, li1, li2, li3, li5, li6, li7, li9, li10, li32, li48, li57, li63, li97, li122, lim1] at h hI3 c5 c6; omega⟩, ⟨Nat.le_trans hS.1 hz, fun q h1 h2 => by rw [hk q (Nat.lt_of_lt_of_le h1 hS.1)]; exact hS.2.1 q h1 h2⟩⟩) hS.2.2 (Nat.le_of_ble_eq_true rfl) (Nat.le_of_ble_eq_true rfl)
  · have hw := hw.2 hI3
    subst hw
    refine lv_if_eq (tgt := 16) hx hb dX11_file_4 (by decide) (fun c15 => ?_) (fun c15 => False.elim (by revert c15; decide))
    obtain ⟨sa, hstr⟩ := hE.2.1 (61, "no such name or language") (by decide +kernel)
    exact vx_throwS (A := A) hx hb hL hown (by decide +kernel) (by decide +kernel) (ht _ q1021) (ht _ q139) hstr (fun w h => ht w (at_X11_63 w h)) (by decide +kernel) hE.2.2.2.2.1 hE.2.2.2.2.2 hS (by rw [hml]; exact hl.1) dX11_file_16 dX11_file_19 dX11_file_20 dX11_file_22 dX11_file_25 (fun x h => (hno x h).elim) (Nat.le_of_ble_eq_true rfl) (Nat.le_of_ble_eq_true rfl) (Nat.le_of_ble_eq_true rfl) (Nat.le_of_ble_eq_true rfl) hlocks (fun t hvm hz hk => ⟨(), trivial, ⟨rfl, fun h => by simp only [Int32.le_iff_toInt_le, Int32.lt_iff_toInt_lt, ← Int32.toInt_inj, li0, li1, li2, li3, li5, li6, li7, li9, li10, li32, li48, li57, li63, li97, li122, lim1] at h hI3; omega⟩, ⟨Nat.le_trans hS.1 hz, fun q h1 h2 => by rw [hk q (Nat.lt_of_lt_of_le h1 hS.1)]; exact hS.2.1 q h1 h2⟩⟩) hS.2.2 (Nat.le_of_ble_eq_true rfl) (Nat.le_of_ble_eq_true rfl)
set_option maxHeartbeats 4000000 in
set_option maxRecDepth 100000 in
theorem k_X2_isHere (l : Launch) (d0 : Nat) (cO : ClassId) (dC : Nat → ClassId) (dI : Nat → Nat → Nat) (sz : Nat) (h0 : Nat) (v0 v1 v2 : Value) (i3 i5 i6 : Int32) : Met l yX2_isHere (cn yX2_isHere cX2_isHere 1 (some FieldType.boolean)) (rmd 0 0 0) (va_Pc [.ref h0] (PREp d0 cO (dC, dI) (va_A [] sz) [(h0, .inr (3, [v0, v1, v2, .int i3, .int ((-1)), .int i5, .int i6]))] [] sz)) (va_Qi (fun (r : Int32) (_ : Unit) => r = 0) (fun (_ : Unit) (t : State) => va_P (dC, dI) vwCl [] t.heap) (va_A [] sz)) 0 0 (va_A [] sz) := by
  refine Met.ofW (cc := cX2_isHere) (maxL := 1) (ret := (some FieldType.boolean)) (by decide) rfl ?_
  intro p e s m args below meth c s₁ B hml hv
  obtain ⟨rfl, hsz, hE, hP, hK⟩ := hv
  have hx := B.exec
  have hb := B.bytes
  have hr := B.returns
  have hts := atoms_spec (ws := cn yX2_isHere cX2_isHere 1 (some FieldType.boolean)) B.pre
  have ht : ∀ w ∈ GT, w.before _ s = true := fun w h => hts w (List.mem_cons_of_mem _ h)
  have hown : s.vm.findClass RX2 = some m.cls := findClass_of_methodNamed B.named
  have hlocks := B.notSynchronized
  subst hsz
  generalize hAe : va_A [] s.heap.size = A at hE ⊢
  have hA : ∀ q : Nat, s.heap.size ≤ q → A q := fun q h => by rw [← hAe]; exact Or.inr h
  obtain ⟨H, hH0⟩ : ∃ H, s.heap = H := ⟨_, rfl⟩
  have hS : va_S A s.heap H [] := by rw [← hH0]; exact va_S.rf
  rw [hH0] at hP
  have hl := lv_entry ([.ref h0]) (n := 1) (Nat.le_of_ble_eq_true rfl)
  rw [lg_entry_eq]
  generalize (lg_sl ([.ref h0]) ++ List.replicate (1 - (lg_sl ([.ref h0])).length) Slot.unset).toArray = ls at hl ⊢
  have hl : lv_has ls 1 [(0, .ref h0)] := hl
  rw [hH0]
  refine lv_aload_n hx hb dX2_isHere_0 rfl (lv_at hl 0 rfl) ?_
  refine va_get (D := (dC, dI)) (ci := 3) (v := .int ((-1))) (C := RX2) (T := TX2) (N := 7) hx hb ht inGX2 hown hK hP 0 rfl rfl 4 (by decide) (ht _ q270) (fun _ h9 => h9) rfl dX2_isHere_1 ?_
  refine lv_iconst (v := -1) hx hb dX2_isHere_4 (by decide) ?_
  refine lv_icmp_eq (tgt := 12) hx hb dX2_isHere_5 (by decide) (fun c1 => ?_) (fun c1 => False.elim (by revert c1; decide))
  refine lv_iconst (v := 0) hx hb dX2_isHere_12 (by decide) ?_
  have hP9 := hP.sub (ws' := []) [] rfl
  have hK9 := hK.sub (tys' := []) [] rfl
  refine W.widen (k := 0) (n := 0) (Nat.le_of_ble_eq_true rfl) (Nat.le_of_ble_eq_true rfl) ?_
  exact W.zret (v := 0) hx hb hr (by first | decide | rfl) (fun t ht9 hW9 => ⟨⟨0, (), rfl, rfl, ppk ht9 hP9⟩, hS.F ht9⟩) hS.2.2 dX2_isHere_13
set_option maxHeartbeats 4000000 in
set_option maxRecDepth 100000 in
theorem k_X7_hasCopies (l : Launch) (d0 : Nat) (cO : ClassId) (dC : Nat → ClassId) (dI : Nat → Nat → Nat) (sz : Nat) (mx cp : Nat) (m0 m1 m2 m4 m5 m6 m7 m8 m10 m11 : Value) (m9 : Int32) (tP : ClassId) (p0 p1 p2 p3 p4 p5 : Nat) (x0 y0 z0 x1 y1 z1 x2 y2 z2 x3 y3 z3 x4 y4 z4 x5 y5 z5 : Value) (w0 g0 j0 w1 g1 j1 w2 g2 j2 w3 g3 j3 w4 g4 j4 w5 g5 j5 : Int32) : Met l yX7_hasCopies (cn yX7_hasCopies cX7_hasCopies 2 (some FieldType.boolean)) (rmd 1 0 0) (va_Pc [.ref mx] (PREp d0 cO (dC, dI) (va_A [] sz) [(mx, .inr (8, [m0, m1, m2, .ref cp, m4, m5, m6, m7, m8, .int m9, m10, m11])), (cp, .inl (tP, 6, .inr (.inr (.inr (.inr ((va_up (va_up (va_up (va_up (va_up (va_up (fun _ => none) 0 (some p0)) 1 (some p1)) 2 (some p2)) 3 (some p3)) 4 (some p4)) 5 (some p5)))))))), (p0, .inr (3, [x0, y0, z0, .int w0, .int ((-1)), .int g0, .int j0])), (p1, .inr (3, [x1, y1, z1, .int w1, .int ((-1)), .int g1, .int j1])), (p2, .inr (3, [x2, y2, z2, .int w2, .int ((-1)), .int g2, .int j2])), (p3, .inr (3, [x3, y3, z3, .int w3, .int ((-1)), .int g3, .int j3])), (p4, .inr (3, [x4, y4, z4, .int w4, .int ((-1)), .int g4, .int j4])), (p5, .inr (3, [x5, y5, z5, .int w5, .int ((-1)), .int g5, .int j5]))] [(tP, .object RX2)] sz)) (va_Qi (fun (r : Int32) (_ : Unit) => r = 0) (fun (_ : Unit) (t : State) => va_P (dC, dI) vwCl [] t.heap) (va_A [] sz)) 0 0 (va_A [] sz) := by
  refine Met.ofW (cc := cX7_hasCopies) (maxL := 2) (ret := (some FieldType.boolean)) (by decide) rfl ?_
  intro p e s m args below meth c s₁ B hml hv
  obtain ⟨rfl, hsz, hE, hP, hK⟩ := hv
  have hx := B.exec
  have hb := B.bytes
  have hr := B.returns
  have hts := atoms_spec (ws := cn yX7_hasCopies cX7_hasCopies 2 (some FieldType.boolean)) B.pre
  have ht : ∀ w ∈ GT, w.before _ s = true := fun w h => hts w (List.mem_cons_of_mem _ h)
  have hown : s.vm.findClass RX7 = some m.cls := findClass_of_methodNamed B.named
  have hlocks := B.notSynchronized
  subst hsz
  generalize hAe : va_A [] s.heap.size = A at hE ⊢
  have hA : ∀ q : Nat, s.heap.size ≤ q → A q := fun q h => by rw [← hAe]; exact Or.inr h
  obtain ⟨H, hH0⟩ : ∃ H, s.heap = H := ⟨_, rfl⟩
  have hS : va_S A s.heap H [] := by rw [← hH0]; exact va_S.rf
  rw [hH0] at hP
  have hl := lv_entry ([.ref mx]) (n := 2) (Nat.le_of_ble_eq_true rfl)
  rw [lg_entry_eq]
  generalize (lg_sl ([.ref mx]) ++ List.replicate (2 - (lg_sl ([.ref mx])).length) Slot.unset).toArray = ls at hl ⊢
  have hl : lv_has ls 2 [(0, .ref mx)] := hl
  rw [hH0]
  refine lv_iconst (v := 0) hx hb dX7_hasCopies_0 (by decide) ?_
  refine lv_istore_n (lv' := [(1, .int 0), (0, .ref mx)]) hx hb dX7_hasCopies_1 rfl hl (by decide) rfl (fun ls hl => ?_)
  refine lv_iload_n hx hb dX7_hasCopies_2 rfl (lv_at hl 0 rfl) ?_
  refine lv_bipush (v := 6) hx hb dX7_hasCopies_3 (by decide) ?_
  refine lv_icmp_ge (tgt := 28) hx hb dX7_hasCopies_5 (by decide) (fun c1 => False.elim (by revert c1; decide)) (fun c1 => ?_)
  refine lv_aload_n hx hb dX7_hasCopies_8 rfl (lv_at hl 1 rfl) ?_
  refine va_get (D := (dC, dI)) (ci := 8) (v := .ref cp) (C := RX7) (T := TX7) (N := 12) hx hb ht inGX7 hown hK hP 0 rfl rfl 3 (by decide) (ht _ q357) (fun _ h9 => h9) rfl dX7_hasCopies_9 ?_
  refine lv_iload_n hx hb dX7_hasCopies_12 rfl (lv_at hl 0 rfl) ?_
  refine va_aldq hx hb hK hP 1 0 rfl rfl (vp_in_nI (n := 0) (by decide) (by decide)) dX7_hasCopies_13 ?_
  refine W.eq (g2 := F0 m 14 ls [.ref p0]) rfl ?_
  have hPc := hP.sub (ws' := [(p0, .inr (3, [x0, y0, z0, .int w0, .int ((-1)), .int g0, .int j0]))]) [2] rfl
  have hKc := hK.sub (tys' := []) [] rfl
  have hFc := freeNil hS hA
  refine va_calli (va_runV (As := []) (rest := []) ⟨hx, hb, hml, hown, ht⟩ (k_X2_isHere l d0 cO dC dI H.size p0 x0 y0 z0 w0 g0 j0) (my_V ht M_X2_isHere q492 q493 q570 (Nat.le_of_ble_eq_true rfl) (Nat.le_of_ble_eq_true rfl)) ⟨PREp.fb, va_recv hK hP (ci := 3) (q0 := 2) rfl rfl, fun U hU hW => ⟨rfl, PREp.mk' hE hS hFc hPc hKc U hU hW⟩⟩ rfl rfl hl.1 rfl (lv_room (Nat.le_of_ble_eq_true rfl)) dX7_hasCopies_14 ⟨(Nat.le_of_ble_eq_true rfl), (Nat.le_of_ble_eq_true rfl)⟩) hS (fun q _ h => hFc q h) hFc (fun r3 u2 t H1 locs htt hvm hw hB hz1 hk1 hS => ?_)
  try dsimp only at hw hB
  have hP1 := hB
  rw [htt] at hP1
  have hP := keepAll hP hk1
  generalize H1 = H at hP hS ⊢
  have hP : va_P (dC, dI) vwCl [(mx, .inr (8, [m0, m1, m2, .ref cp, m4, m5, m6, m7, m8, .int m9, m10, m11])), (cp, .inl (tP, 6, .inr (.inr (.inr (.inr ((va_up (va_up (va_up (va_up (va_up (va_up (fun _ => none) 0 (some p0)) 1 (some p1)) 2 (some p2)) 3 (some p3)) 4 (some p4)) 5 (some p5)))))))), (p0, .inr (3, [x0, y0, z0, .int w0, .int ((-1)), .int g0, .int j0])), (p1, .inr (3, [x1, y1, z1, .int w1, .int ((-1)), .int g1, .int j1])), (p2, .inr (3, [x2, y2, z2, .int w2, .int ((-1)), .int g2, .int j2])), (p3, .inr (3, [x3, y3, z3, .int w3, .int ((-1)), .int g3, .int j3])), (p4, .inr (3, [x4, y4, z4, .int w4, .int ((-1)), .int g4, .int j4])), (p5, .inr (3, [x5, y5, z5, .int w5, .int ((-1)), .int g5, .int j5]))] H := hP
  have hK : va_K (dC, dI) vwCl [(tP, .object RX2)] s := hK
  refine W.widen (k := 0) (n := 0) (Nat.le_of_ble_eq_true rfl) (Nat.le_of_ble_eq_true rfl) ?_
  subst hw
  refine lv_if_eq (tgt := 22) hx hb dX7_hasCopies_17 (by decide) (fun c4 => ?_) (fun c4 => False.elim (by revert c4; decide))
  refine lv_iinc (v := 1) (lv' := [(1, .int 1), (0, .ref mx)]) hx hb dX7_hasCopies_22 hl (k := 0) rfl (by decide) (by decide) rfl (fun ls hl => ?_)
  refine lv_goto (tgt := 2) hx hb dX7_hasCopies_25 (by decide) ?_
  refine lv_iload_n hx hb dX7_hasCopies_2 rfl (lv_at hl 0 rfl) ?_
  refine lv_bipush (v := 6) hx hb dX7_hasCopies_3 (by decide) ?_
  refine lv_icmp_ge (tgt := 28) hx hb dX7_hasCopies_5 (by decide) (fun c5 => False.elim (by revert c5; decide)) (fun c5 => ?_)
  refine lv_aload_n hx hb dX7_hasCopies_8 rfl (lv_at hl 1 rfl) ?_
  refine va_get (D := (dC, dI)) (ci := 8) (v := .ref cp) (C := RX7) (T := TX7) (N := 12) hx hb ht inGX7 hown hK hP 0 rfl rfl 3 (by decide) (ht _ q357) (fun _ h9 => h9) rfl dX7_hasCopies_9 ?_
  refine lv_iload_n hx hb dX7_hasCopies_12 rfl (lv_at hl 0 rfl) ?_
  refine va_aldq hx hb hK hP 1 0 rfl rfl (vp_in_nI (n := 1) (by decide) (by decide)) dX7_hasCopies_13 ?_
  refine W.eq (g2 := F0 m 14 ls [.ref p1]) rfl ?_
  have hPc := hP.sub (ws' := [(p1, .inr (3, [x1, y1, z1, .int w1, .int ((-1)), .int g1, .int j1]))]) [3] rfl
  have hKc := hK.sub (tys' := []) [] rfl
  have hFc := freeNil hS hA
  refine va_calli (va_runV (As := []) (rest := []) ⟨hx, hb, hml, hown, ht⟩ (k_X2_isHere l d0 cO dC dI H.size p1 x1 y1 z1 w1 g1 j1) (my_V ht M_X2_isHere q492 q493 q570 (Nat.le_of_ble_eq_true rfl) (Nat.le_of_ble_eq_true rfl)) ⟨PREp.fb, va_recv hK hP (ci := 3) (q0 := 3) rfl rfl, fun U hU hW => ⟨rfl, PREp.mk' hE hS hFc hPc hKc U hU hW⟩⟩ rfl rfl hl.1 rfl (lv_room (Nat.le_of_ble_eq_true rfl)) dX7_hasCopies_14 ⟨(Nat.le_of_ble_eq_true rfl), (Nat.le_of_ble_eq_true rfl)⟩) hS (fun q _ h => hFc q h) hFc (fun r7 u6 t H1 locs htt hvm hw hB hz1 hk1 hS => ?_)
  try dsimp only at hw hB
  have hP1 := hB
  rw [htt] at hP1
  have hP := keepAll hP hk1
  generalize H1 = H at hP hS ⊢
  have hP : va_P (dC, dI) vwCl [(mx, .inr (8, [m0, m1, m2, .ref cp, m4, m5, m6, m7, m8, .int m9, m10, m11])), (cp, .inl (tP, 6, .inr (.inr (.inr (.inr ((va_up (va_up (va_up (va_up (va_up (va_up (fun _ => none) 0 (some p0)) 1 (some p1)) 2 (some p2)) 3 (some p3)) 4 (some p4)) 5 (some p5)))))))), (p0, .inr (3, [x0, y0, z0, .int w0, .int ((-1)), .int g0, .int j0])), (p1, .inr (3, [x1, y1, z1, .int w1, .int ((-1)), .int g1, .int j1])), (p2, .inr (3, [x2, y2, z2, .int w2, .int ((-1)), .int g2, .int j2])), (p3, .inr (3, [x3, y3, z3, .int w3, .int ((-1)), .int g3, .int j3])), (p4, .inr (3, [x4, y4, z4, .int w4, .int ((-1)), .int g4, .int j4])), (p5, .inr (3, [x5, y5, z5, .int w5, .int ((-1)), .int g5, .int j5]))] H := hP
  have hK : va_K (dC, dI) vwCl [(tP, .object RX2)] s := hK
  refine W.widen (k := 0) (n := 0) (Nat.le_of_ble_eq_true rfl) (Nat.le_of_ble_eq_true rfl) ?_
  subst hw
  refine lv_if_eq (tgt := 22) hx hb dX7_hasCopies_17 (by decide) (fun c8 => ?_) (fun c8 => False.elim (by revert c8; decide))
  refine lv_iinc (v := 2) (lv' := [(1, .int 2), (0, .ref mx)]) hx hb dX7_hasCopies_22 hl (k := 0) rfl (by decide) (by decide) rfl (fun ls hl => ?_)
  refine lv_goto (tgt := 2) hx hb dX7_hasCopies_25 (by decide) ?_
  refine lv_iload_n hx hb dX7_hasCopies_2 rfl (lv_at hl 0 rfl) ?_
  refine lv_bipush (v := 6) hx hb dX7_hasCopies_3 (by decide) ?_
  refine lv_icmp_ge (tgt := 28) hx hb dX7_hasCopies_5 (by decide) (fun c9 => False.elim (by revert c9; decide)) (fun c9 => ?_)
  refine lv_aload_n hx hb dX7_hasCopies_8 rfl (lv_at hl 1 rfl) ?_
  refine va_get (D := (dC, dI)) (ci := 8) (v := .ref cp) (C := RX7) (T := TX7) (N := 12) hx hb ht inGX7 hown hK hP 0 rfl rfl 3 (by decide) (ht _ q357) (fun _ h9 => h9) rfl dX7_hasCopies_9 ?_
  refine lv_iload_n hx hb dX7_hasCopies_12 rfl (lv_at hl 0 rfl) ?_
  refine va_aldq hx hb hK hP 1 0 rfl rfl (vp_in_nI (n := 2) (by decide) (by decide)) dX7_hasCopies_13 ?_
  refine W.eq (g2 := F0 m 14 ls [.ref p2]) rfl ?_
  have hPc := hP.sub (ws' := [(p2, .inr (3, [x2, y2, z2, .int w2, .int ((-1)), .int g2, .int j2]))]) [4] rfl
  have hKc := hK.sub (tys' := []) [] rfl
  have hFc := freeNil hS hA
  refine va_calli (va_runV (As := []) (rest := []) ⟨hx, hb, hml, hown, ht⟩ (k_X2_isHere l d0 cO dC dI H.size p2 x2 y2 z2 w2 g2 j2) (my_V ht M_X2_isHere q492 q493 q570 (Nat.le_of_ble_eq_true rfl) (Nat.le_of_ble_eq_true rfl)) ⟨PREp.fb, va_recv hK hP (ci := 3) (q0 := 4) rfl rfl, fun U hU hW => ⟨rfl, PREp.mk' hE hS hFc hPc hKc U hU hW⟩⟩ rfl rfl hl.1 rfl (lv_room (Nat.le_of_ble_eq_true rfl)) dX7_hasCopies_14 ⟨(Nat.le_of_ble_eq_true rfl), (Nat.le_of_ble_eq_true rfl)⟩) hS (fun q _ h => hFc q h) hFc (fun r11 u10 t H1 locs htt hvm hw hB hz1 hk1 hS => ?_)
  try dsimp only at hw hB
  have hP1 := hB
  rw [htt] at hP1
  have hP := keepAll hP hk1
  generalize H1 = H at hP hS ⊢
  have hP : va_P (dC, dI) vwCl [(mx, .inr (8, [m0, m1, m2, .ref cp, m4, m5, m6, m7, m8, .int m9, m10, m11])), (cp, .inl (tP, 6, .inr (.inr (.inr (.inr ((va_up (va_up (va_up (va_up (va_up (va_up (fun _ => none) 0 (some p0)) 1 (some p1)) 2 (some p2)) 3 (some p3)) 4 (some p4)) 5 (some p5)))))))), (p0, .inr (3, [x0, y0, z0, .int w0, .int ((-1)), .int g0, .int j0])), (p1, .inr (3, [x1, y1, z1, .int w1, .int ((-1)), .int g1, .int j1])), (p2, .inr (3, [x2, y2, z2, .int w2, .int ((-1)), .int g2, .int j2])), (p3, .inr (3, [x3, y3, z3, .int w3, .int ((-1)), .int g3, .int j3])), (p4, .inr (3, [x4, y4, z4, .int w4, .int ((-1)), .int g4, .int j4])), (p5, .inr (3, [x5, y5, z5, .int w5, .int ((-1)), .int g5, .int j5]))] H := hP
  have hK : va_K (dC, dI) vwCl [(tP, .object RX2)] s := hK
  refine W.widen (k := 0) (n := 0) (Nat.le_of_ble_eq_true rfl) (Nat.le_of_ble_eq_true rfl) ?_
  subst hw
  refine lv_if_eq (tgt := 22) hx hb dX7_hasCopies_17 (by decide) (fun c12 => ?_) (fun c12 => False.elim (by revert c12; decide))
  refine lv_iinc (v := 3) (lv' := [(1, .int 3), (0, .ref mx)]) hx hb dX7_hasCopies_22 hl (k := 0) rfl (by decide) (by decide) rfl (fun ls hl => ?_)
  refine lv_goto (tgt := 2) hx hb dX7_hasCopies_25 (by decide) ?_
  refine lv_iload_n hx hb dX7_hasCopies_2 rfl (lv_at hl 0 rfl) ?_
  refine lv_bipush (v := 6) hx hb dX7_hasCopies_3 (by decide) ?_
  refine lv_icmp_ge (tgt := 28) hx hb dX7_hasCopies_5 (by decide) (fun c13 => False.elim (by revert c13; decide)) (fun c13 => ?_)
  refine lv_aload_n hx hb dX7_hasCopies_8 rfl (lv_at hl 1 rfl) ?_
  refine va_get (D := (dC, dI)) (ci := 8) (v := .ref cp) (C := RX7) (T := TX7) (N := 12) hx hb ht inGX7 hown hK hP 0 rfl rfl 3 (by decide) (ht _ q357) (fun _ h9 => h9) rfl dX7_hasCopies_9 ?_
  refine lv_iload_n hx hb dX7_hasCopies_12 rfl (lv_at hl 0 rfl) ?_
  refine va_aldq hx hb hK hP 1 0 rfl rfl (vp_in_nI (n := 3) (by decide) (by decide)) dX7_hasCopies_13 ?_
  refine W.eq (g2 := F0 m 14 ls [.ref p3]) rfl ?_
  have hPc := hP.sub (ws' := [(p3, .inr (3, [x3, y3, z3, .int w3, .int ((-1)), .int g3, .int j3]))]) [5] rfl
  have hKc := hK.sub (tys' := []) [] rfl
  have hFc := freeNil hS hA
  refine va_calli (va_runV (As := []) (rest := []) ⟨hx, hb, hml, hown, ht⟩ (k_X2_isHere l d0 cO dC dI H.size p3 x3 y3 z3 w3 g3 j3) (my_V ht M_X2_isHere q492 q493 q570 (Nat.le_of_ble_eq_true rfl) (Nat.le_of_ble_eq_true rfl)) ⟨PREp.fb, va_recv hK hP (ci := 3) (q0 := 5) rfl rfl, fun U hU hW => ⟨rfl, PREp.mk' hE hS hFc hPc hKc U hU hW⟩⟩ rfl rfl hl.1 rfl (lv_room (Nat.le_of_ble_eq_true rfl)) dX7_hasCopies_14 ⟨(Nat.le_of_ble_eq_true rfl), (Nat.le_of_ble_eq_true rfl)⟩) hS (fun q _ h => hFc q h) hFc (fun r15 u14 t H1 locs htt hvm hw hB hz1 hk1 hS => ?_)
  try dsimp only at hw hB
  have hP1 := hB
  rw [htt] at hP1
  have hP := keepAll hP hk1
  generalize H1 = H at hP hS ⊢
  have hP : va_P (dC, dI) vwCl [(mx, .inr (8, [m0, m1, m2, .ref cp, m4, m5, m6, m7, m8, .int m9, m10, m11])), (cp, .inl (tP, 6, .inr (.inr (.inr (.inr ((va_up (va_up (va_up (va_up (va_up (va_up (fun _ => none) 0 (some p0)) 1 (some p1)) 2 (some p2)) 3 (some p3)) 4 (some p4)) 5 (some p5)))))))), (p0, .inr (3, [x0, y0, z0, .int w0, .int ((-1)), .int g0, .int j0])), (p1, .inr (3, [x1, y1, z1, .int w1, .int ((-1)), .int g1, .int j1])), (p2, .inr (3, [x2, y2, z2, .int w2, .int ((-1)), .int g2, .int j2])), (p3, .inr (3, [x3, y3, z3, .int w3, .int ((-1)), .int g3, .int j3])), (p4, .inr (3, [x4, y4, z4, .int w4, .int ((-1)), .int g4, .int j4])), (p5, .inr (3, [x5, y5, z5, .int w5, .int ((-1)), .int g5, .int j5]))] H := hP
  have hK : va_K (dC, dI) vwCl [(tP, .object RX2)] s := hK
  refine W.widen (k := 0) (n := 0) (Nat.le_of_ble_eq_true rfl) (Nat.le_of_ble_eq_true rfl) ?_
  subst hw
  refine lv_if_eq (tgt := 22) hx hb dX7_hasCopies_17 (by decide) (fun c16 => ?_) (fun c16 => False.elim (by revert c16; decide))
  refine lv_iinc (v := 4) (lv' := [(1, .int 4), (0, .ref mx)]) hx hb dX7_hasCopies_22 hl (k := 0) rfl (by decide) (by decide) rfl (fun ls hl => ?_)
  refine lv_goto (tgt := 2) hx hb dX7_hasCopies_25 (by decide) ?_
  refine lv_iload_n hx hb dX7_hasCopies_2 rfl (lv_at hl 0 rfl) ?_
  refine lv_bipush (v := 6) hx hb dX7_hasCopies_3 (by decide) ?_
  refine lv_icmp_ge (tgt := 28) hx hb dX7_hasCopies_5 (by decide) (fun c17 => False.elim (by revert c17; decide)) (fun c17 => ?_)
  refine lv_aload_n hx hb dX7_hasCopies_8 rfl (lv_at hl 1 rfl) ?_
  refine va_get (D := (dC, dI)) (ci := 8) (v := .ref cp) (C := RX7) (T := TX7) (N := 12) hx hb ht inGX7 hown hK hP 0 rfl rfl 3 (by decide) (ht _ q357) (fun _ h9 => h9) rfl dX7_hasCopies_9 ?_
  refine lv_iload_n hx hb dX7_hasCopies_12 rfl (lv_at hl 0 rfl) ?_
  refine va_aldq hx hb hK hP 1 0 rfl rfl (vp_in_nI (n := 4) (by decide) (by decide)) dX7_hasCopies_13 ?_
  refine W.eq (g2 := F0 m 14 ls [.ref p4]) rfl ?_
  have hPc := hP.sub (ws' := [(p4, .inr (3, [x4, y4, z4, .int w4, .int ((-1)), .int g4, .int j4]))]) [6] rfl
  have hKc := hK.sub (tys' := []) [] rfl
  have hFc := freeNil hS hA
  refine va_calli (va_runV (As := []) (rest := []) ⟨hx, hb, hml, hown, ht⟩ (k_X2_isHere l d0 cO dC dI H.size p4 x4 y4 z4 w4 g4 j4) (my_V ht M_X2_isHere q492 q493 q570 (Nat.le_of_ble_eq_true rfl) (Nat.le_of_ble_eq_true rfl)) ⟨PREp.fb, va_recv hK hP (ci := 3) (q0 := 6) rfl rfl, fun U hU hW => ⟨rfl, PREp.mk' hE hS hFc hPc hKc U hU hW⟩⟩ rfl rfl hl.1 rfl (lv_room (Nat.le_of_ble_eq_true rfl)) dX7_hasCopies_14 ⟨(Nat.le_of_ble_eq_true rfl), (Nat.le_of_ble_eq_true rfl)⟩) hS (fun q _ h => hFc q h) hFc (fun r19 u18 t H1 locs htt hvm hw hB hz1 hk1 hS => ?_)
  try dsimp only at hw hB
  have hP1 := hB
  rw [htt] at hP1
  have hP := keepAll hP hk1
  generalize H1 = H at hP hS ⊢
  have hP : va_P (dC, dI) vwCl [(mx, .inr (8, [m0, m1, m2, .ref cp, m4, m5, m6, m7, m8, .int m9, m10, m11])), (cp, .inl (tP, 6, .inr (.inr (.inr (.inr ((va_up (va_up (va_up (va_up (va_up (va_up (fun _ => none) 0 (some p0)) 1 (some p1)) 2 (some p2)) 3 (some p3)) 4 (some p4)) 5 (some p5)))))))), (p0, .inr (3, [x0, y0, z0, .int w0, .int ((-1)), .int g0, .int j0])), (p1, .inr (3, [x1, y1, z1, .int w1, .int ((-1)), .int g1, .int j1])), (p2, .inr (3, [x2, y2, z2, .int w2, .int ((-1)), .int g2, .int j2])), (p3, .inr (3, [x3, y3, z3, .int w3, .int ((-1)), .int g3, .int j3])), (p4, .inr (3, [x4, y4, z4, .int w4, .int ((-1)), .int g4, .int j4])), (p5, .inr (3, [x5, y5, z5, .int w5, .int ((-1)), .int g5, .int j5]))] H := hP
  have hK : va_K (dC, dI) vwCl [(tP, .object RX2)] s := hK
  refine W.widen (k := 0) (n := 0) (Nat.le_of_ble_eq_true rfl) (Nat.le_of_ble_eq_true rfl) ?_
  subst hw
  refine lv_if_eq (tgt := 22) hx hb dX7_hasCopies_17 (by decide) (fun c20 => ?_) (fun c20 => False.elim (by revert c20; decide))
  refine lv_iinc (v := 5) (lv' := [(1, .int 5), (0, .ref mx)]) hx hb dX7_hasCopies_22 hl (k := 0) rfl (by decide) (by decide) rfl (fun ls hl => ?_)
  refine lv_goto (tgt := 2) hx hb dX7_hasCopies_25 (by decide) ?_
  refine lv_iload_n hx hb dX7_hasCopies_2 rfl (lv_at hl 0 rfl) ?_
  refine lv_bipush (v := 6) hx hb dX7_hasCopies_3 (by decide) ?_
  refine lv_icmp_ge (tgt := 28) hx hb dX7_hasCopies_5 (by decide) (fun c21 => False.elim (by revert c21; decide)) (fun c21 => ?_)
  refine lv_aload_n hx hb dX7_hasCopies_8 rfl (lv_at hl 1 rfl) ?_
  refine va_get (D := (dC, dI)) (ci := 8) (v := .ref cp) (C := RX7) (T := TX7) (N := 12) hx hb ht inGX7 hown hK hP 0 rfl rfl 3 (by decide) (ht _ q357) (fun _ h9 => h9) rfl dX7_hasCopies_9 ?_
  refine lv_iload_n hx hb dX7_hasCopies_12 rfl (lv_at hl 0 rfl) ?_
  refine va_aldq hx hb hK hP 1 0 rfl rfl (vp_in_nI (n := 5) (by decide) (by decide)) dX7_hasCopies_13 ?_
  refine W.eq (g2 := F0 m 14 ls [.ref p5]) rfl ?_
  have hPc := hP.sub (ws' := [(p5, .inr (3, [x5, y5, z5, .int w5, .int ((-1)), .int g5, .int j5]))]) [7] rfl
  have hKc := hK.sub (tys' := []) [] rfl
  have hFc := freeNil hS hA
  refine va_calli (va_runV (As := []) (rest := []) ⟨hx, hb, hml, hown, ht⟩ (k_X2_isHere l d0 cO dC dI H.size p5 x5 y5 z5 w5 g5 j5) (my_V ht M_X2_isHere q492 q493 q570 (Nat.le_of_ble_eq_true rfl) (Nat.le_of_ble_eq_true rfl)) ⟨PREp.fb, va_recv hK hP (ci := 3) (q0 := 7) rfl rfl, fun U hU hW => ⟨rfl, PREp.mk' hE hS hFc hPc hKc U hU hW⟩⟩ rfl rfl hl.1 rfl (lv_room (Nat.le_of_ble_eq_true rfl)) dX7_hasCopies_14 ⟨(Nat.le_of_ble_eq_true rfl), (Nat.le_of_ble_eq_true rfl)⟩) hS (fun q _ h => hFc q h) hFc (fun r23 u22 t H1 locs htt hvm hw hB hz1 hk1 hS => ?_)
  try dsimp only at hw hB
  have hP1 := hB
  rw [htt] at hP1
  have hP := keepAll hP hk1
  generalize H1 = H at hP hS ⊢
  have hP : va_P (dC, dI) vwCl [(mx, .inr (8, [m0, m1, m2, .ref cp, m4, m5, m6, m7, m8, .int m9, m10, m11])), (cp, .inl (tP, 6, .inr (.inr (.inr (.inr ((va_up (va_up (va_up (va_up (va_up (va_up (fun _ => none) 0 (some p0)) 1 (some p1)) 2 (some p2)) 3 (some p3)) 4 (some p4)) 5 (some p5)))))))), (p0, .inr (3, [x0, y0, z0, .int w0, .int ((-1)), .int g0, .int j0])), (p1, .inr (3, [x1, y1, z1, .int w1, .int ((-1)), .int g1, .int j1])), (p2, .inr (3, [x2, y2, z2, .int w2, .int ((-1)), .int g2, .int j2])), (p3, .inr (3, [x3, y3, z3, .int w3, .int ((-1)), .int g3, .int j3])), (p4, .inr (3, [x4, y4, z4, .int w4, .int ((-1)), .int g4, .int j4])), (p5, .inr (3, [x5, y5, z5, .int w5, .int ((-1)), .int g5, .int j5]))] H := hP
  have hK : va_K (dC, dI) vwCl [(tP, .object RX2)] s := hK
  refine W.widen (k := 0) (n := 0) (Nat.le_of_ble_eq_true rfl) (Nat.le_of_ble_eq_true rfl) ?_
  subst hw
  refine lv_if_eq (tgt := 22) hx hb dX7_hasCopies_17 (by decide) (fun c24 => ?_) (fun c24 => False.elim (by revert c24; decide))
  refine lv_iinc (v := 6) (lv' := [(1, .int 6), (0, .ref mx)]) hx hb dX7_hasCopies_22 hl (k := 0) rfl (by decide) (by decide) rfl (fun ls hl => ?_)
  refine lv_goto (tgt := 2) hx hb dX7_hasCopies_25 (by decide) ?_
  refine lv_iload_n hx hb dX7_hasCopies_2 rfl (lv_at hl 0 rfl) ?_
  refine lv_bipush (v := 6) hx hb dX7_hasCopies_3 (by decide) ?_
  refine lv_icmp_ge (tgt := 28) hx hb dX7_hasCopies_5 (by decide) (fun c25 => ?_) (fun c25 => False.elim (by revert c25; decide))
  refine lv_iconst (v := 0) hx hb dX7_hasCopies_28 (by decide) ?_
  have hP9 := hP.sub (ws' := []) [] rfl
  have hK9 := hK.sub (tys' := [(tP, .object RX2)]) [0] rfl
  refine W.widen (k := 0) (n := 0) (Nat.le_of_ble_eq_true rfl) (Nat.le_of_ble_eq_true rfl) ?_
  exact W.zret (v := 0) hx hb hr (by first | decide | rfl) (fun t ht9 hW9 => ⟨⟨0, (), rfl, rfl, ppk ht9 hP9⟩, hS.F ht9⟩) hS.2.2 dX7_hasCopies_29
set_option maxHeartbeats 4000000 in
set_option maxRecDepth 100000 in
theorem k_X9_init (l : Launch) (d0 : Nat) (cO : ClassId) (dC : Nat → ClassId) (dI : Nat → Nat → Nat) (sz : Nat) (h0 : Nat) (s0 s1 s2 s8 : Int32) (s3 s4 s5 s6 s7 : Value) (a1 a2 a3 : Int32) (a4 : Nat) : Met l yX9_init (cn yX9_init cX9_init 6 none) (rmd 4 38 1488) (va_Pc [.ref h0, .int a1, .int a2, .int a3, .ref a4] (PRE d0 cO (dC, dI) (va_A [(h0, .inr (10, [.int s0, .int s1, .int s2, s3, s4, s5, s6, s7, .int s8]))] sz) [(h0, .inr (10, [.int s0, .int s1, .int s2, s3, s4, s5, s6, s7, .int s8]))] [] sz)) (va_Qv (fun (_ : Unit) => True) (fun (_ : Unit) (t : State) => ∃ w4 : Value, ∃ w5 : Value, ∃ w6 : Value, ∃ w7 : Value, POW (dC, dI) (va_A [(h0, .inr (10, [.int s0, .int s1, .int s2, s3, s4, s5, s6, s7, .int s8]))] sz) [(h0, .inr (10, [.int a1, .int a2, .int a3, .ref a4, w4, w5, w6, w7, .int 1]))] [] t) (va_A [(h0, .inr (10, [.int s0, .int s1, .int s2, s3, s4, s5, s6, s7, .int s8]))] sz)) 38 1488 (va_A [(h0, .inr (10, [.int s0, .int s1, .int s2, s3, s4, s5, s6, s7, .int s8]))] sz) := by
  refine Met.ofW (cc := cX9_init) (maxL := 6) (ret := none) (by decide) rfl ?_
  intro p e s m args below meth c s₁ B hml hv
  obtain ⟨rfl, hsz, hE, hP, hK, hD0⟩ := hv
  have hx := B.exec
  have hb := B.bytes
  have hr := B.returns
  have hts := atoms_spec (ws := cn yX9_init cX9_init 6 none) B.pre
  have ht : ∀ w ∈ GT, w.before _ s = true := fun w h => hts w (List.mem_cons_of_mem _ h)
  have hown : s.vm.findClass RX9 = some m.cls := findClass_of_methodNamed B.named
  have hlocks := B.notSynchronized
  have hin : meth.name = "<init>" := (name_of_methodNamed B.named B.method).1
  subst hsz
  have hD := hD0.self (sz := s.heap.size)
  generalize hAe : va_A [(h0, .inr (10, [.int s0, .int s1, .int s2, s3, s4, s5, s6, s7, .int s8]))] s.heap.size = A at hD hE ⊢
  have hA : ∀ q : Nat, s.heap.size ≤ q → A q := fun q h => by rw [← hAe]; exact Or.inr h
  obtain ⟨H, hH0⟩ : ∃ H, s.heap = H := ⟨_, rfl⟩
  have hS : va_S A s.heap H [] := by rw [← hH0]; exact va_S.rf
  rw [hH0] at hP
  have hl := lv_entry ([.ref h0, .int a1, .int a2, .int a3, .ref a4]) (n := 6) (Nat.le_of_ble_eq_true rfl)
  rw [lg_entry_eq]
  generalize (lg_sl ([.ref h0, .int a1, .int a2, .int a3, .ref a4]) ++ List.replicate (6 - (lg_sl ([.ref h0, .int a1, .int a2, .int a3, .ref a4])).length) Slot.unset).toArray = ls at hl ⊢
  have hl : lv_has ls 6 [(0, .ref h0), (1, .int a1), (2, .int a2), (3, .int a3), (4, .ref a4)] := hl
  rw [hH0]
  refine lv_aload_n hx hb dX9_init_0 rfl (lv_at hl 0 rfl) ?_
  refine W.objInit hx hb hown (ht _ q1201) (ht _ q157) (ht _ q158) rfl (by rw [hml]; exact hl.1) rfl dX9_init_1 (Nat.le_of_ble_eq_true rfl) (Nat.le_of_ble_eq_true rfl) ?_
  refine W.eq (g2 := F0 m 4 ls []) rfl ?_
  refine lv_aload_n hx hb dX9_init_4 rfl (lv_at hl 0 rfl) ?_
  refine lv_bipush (v := 6) hx hb dX9_init_5 (by decide) ?_
  refine va_newq (C := RX2) (N' := 6) hx hb hown (ht _ q1202) (hE.1.2.1) hK hP hD hS hA (by decide) (by decide) (by decide) (Nat.le_of_ble_eq_true rfl) (Nat.le_of_ble_eq_true rfl) dX9_init_7 (fun q1 t2 H hK hP hD hS => ?_)
  have hK : va_K (dC, dI) vwCl [(t2, .object RX2)] s := hK
  have hP : va_P (dC, dI) vwCl [(h0, .inr (10, [.int s0, .int s1, .int s2, s3, s4, s5, s6, s7, .int s8])), (q1, .inl (t2, 6, .inr (.inr (.inr (.inr ((fun _ => none)))))))] H := hP
  have hD : va_D A [(h0, .inr (10, [.int s0, .int s1, .int s2, s3, s4, s5, s6, s7, .int s8])), (q1, .inl (t2, 6, .inr (.inr (.inr (.inr ((fun _ => none)))))))] := hD
  refine W.widen (k := 1) (n := 6) (Nat.le_of_ble_eq_true rfl) (Nat.le_of_ble_eq_true rfl) ?_
  refine va_putF (D := (dC, dI)) (ci := 10) (v := .ref q1) (ty := .array (.object "ToolPlex$Copy")) (C := RX9) (T := TX9) (N := 9) hx hb ht inGX9 tyX9 tyX9_ok nmX9 hown hK hP hD hS 0 rfl rfl 4 (by decide) (ht _ q1212) (fun _ h9 => h9) rfl hin rfl (by decide +kernel) rfl rfl (Nat.le_of_ble_eq_true rfl) dX9_init_10 (fun H locs hP hD hS => ?_)
  have hP : va_P (dC, dI) vwCl [(h0, .inr (10, [.int s0, .int s1, .int s2, s3, .ref q1, s5, s6, s7, .int s8])), (q1, .inl (t2, 6, .inr (.inr (.inr (.inr ((fun _ => none)))))))] H := hP
  have hD : va_D A [(h0, .inr (10, [.int s0, .int s1, .int s2, s3, .ref q1, s5, s6, s7, .int s8])), (q1, .inl (t2, 6, .inr (.inr (.inr (.inr ((fun _ => none)))))))] := hD
  refine lv_aload_n hx hb dX9_init_13 rfl (lv_at hl 0 rfl) ?_
  refine va_new (ci := 3) (fs := [.null, .null, .null, .int 0, .int 0, .int 0, .int 0]) (C := RX2) (T := TX2) (N := 7) hx hb ht inGX2 tyX2 tyX2_ok hown (ht _ q1202) (ht _ q253) (ht _ q131) hK hP hD hS hA rfl (fun j hj => by rcases (show j = 0 ∨ j = 1 ∨ j = 2 ∨ j = 3 ∨ j = 4 ∨ j = 5 ∨ j = 6 by omega) with rfl | rfl | rfl | rfl | rfl | rfl | rfl <;> rfl) (Nat.le_of_ble_eq_true rfl) (Nat.le_of_ble_eq_true rfl) dX9_init_14 (fun q3 H hP hD hS => ?_)
  have hP : va_P (dC, dI) vwCl [(h0, .inr (10, [.int s0, .int s1, .int s2, s3, .ref q1, s5, s6, s7, .int s8])), (q1, .inl (t2, 6, .inr (.inr (.inr (.inr ((fun _ => none))))))), (q3, .inr (3, [.null, .null, .null, .int 0, .int 0, .int 0, .int 0]))] H := hP
  have hD : va_D A [(h0, .inr (10, [.int s0, .int s1, .int s2, s3, .ref q1, s5, s6, s7, .int s8])), (q1, .inl (t2, 6, .inr (.inr (.inr (.inr ((fun _ => none))))))), (q3, .inr (3, [.null, .null, .null, .int 0, .int 0, .int 0, .int 0]))] := hD
  refine W.widen (k := 2) (n := 13) (Nat.le_of_ble_eq_true rfl) (Nat.le_of_ble_eq_true rfl) ?_
  refine lv_dup hx hb dX9_init_17 rfl ?_
  have hPc := hP.sub (ws' := [(q3, .inr (3, [.null, .null, .null, .int 0, .int 0, .int 0, .int 0]))]) [2] rfl
  have hDc := hD.sub (ws' := [(q3, .inr (3, [.null, .null, .null, .int 0, .int 0, .int 0, .int 0]))]) [2] (by decide) rfl
  have hKc := hK.sub (tys' := []) [] rfl
  have hFc := va_free (wc := [(q3, .inr (3, [.null, .null, .null, .int 0, .int 0, .int 0, .int 0]))]) hD hS hA [2] rfl
  refine va_callv (va_runIN (As := []) (rest := [.ref q3, .ref h0]) ⟨hx, hb, hml, hown, ht⟩ (k_X2_init l d0 cO dC dI H.size q3 .null .null .null 0 0 0 0) (my_NI ht M_X2_init q255 rfl q1203 (Nat.le_of_ble_eq_true rfl) (Nat.le_of_ble_eq_true rfl)) ⟨PRE.fb, fun U hU hW => ⟨rfl, PRE.mk' hE hS hFc hPc hKc hDc U hU hW⟩⟩ rfl rfl hl.1 rfl (lv_room (Nat.le_of_ble_eq_true rfl)) dX9_init_18 ⟨(Nat.le_of_ble_eq_true rfl), (Nat.le_of_ble_eq_true rfl)⟩) hS (fun q _ h => hFc q h) hFc (fun u4 t H1 locs htt hvm hw hB hz1 hk1 hS => ?_)
  try dsimp only at hw hB
  obtain ⟨w06, w17, w28, hP1, hK1, hD1⟩ := hB
  rw [htt] at hP1
  have hK1 := va_K.moved hvm.symm hK1
  obtain ⟨hP, hD⟩ := va_join (wr := [(h0, .inr (10, [.int s0, .int s1, .int s2, s3, .ref q1, s5, s6, s7, .int s8])), (q1, .inl (t2, 6, .inr (.inr (.inr (.inr ((fun _ => none)))))))]) (w1 := [(q3, .inr (3, [w06, w17, w28, .int 0, .int ((-1)), .int ((-1)), .int ((-1))]))]) hP hD [2] [0, 1] rfl rfl (by decide) (by decide) hk1 hFc hP1 hD1
  have hK := (hK.sub (tys' := [(t2, .object RX2)]) [0] rfl).app hK1
  generalize H1 = H at hP hS ⊢
  have hP : va_P (dC, dI) vwCl [(h0, .inr (10, [.int s0, .int s1, .int s2, s3, .ref q1, s5, s6, s7, .int s8])), (q1, .inl (t2, 6, .inr (.inr (.inr (.inr ((fun _ => none))))))), (q3, .inr (3, [w06, w17, w28, .int 0, .int ((-1)), .int ((-1)), .int ((-1))]))] H := hP
  have hD : va_D A [(h0, .inr (10, [.int s0, .int s1, .int s2, s3, .ref q1, s5, s6, s7, .int s8])), (q1, .inl (t2, 6, .inr (.inr (.inr (.inr ((fun _ => none))))))), (q3, .inr (3, [w06, w17, w28, .int 0, .int ((-1)), .int ((-1)), .int ((-1))]))] := hD
  have hK : va_K (dC, dI) vwCl [(t2, .object RX2)] s := hK
  refine W.widen (k := 6) (n := 217) (Nat.le_of_ble_eq_true rfl) (Nat.le_of_ble_eq_true rfl) ?_
  refine va_putF (D := (dC, dI)) (ci := 10) (v := .ref q3) (ty := .object "ToolPlex$Copy") (C := RX9) (T := TX9) (N := 9) hx hb ht inGX9 tyX9 tyX9_ok nmX9 hown hK hP hD hS 0 rfl rfl 5 (by decide) (ht _ q1213) (fun _ h9 => h9) rfl hin rfl (by decide +kernel) rfl rfl (Nat.le_of_ble_eq_true rfl) dX9_init_21 (fun H locs hP hD hS => ?_)
  have hP : va_P (dC, dI) vwCl [(h0, .inr (10, [.int s0, .int s1, .int s2, s3, .ref q1, .ref q3, s6, s7, .int s8])), (q1, .inl (t2, 6, .inr (.inr (.inr (.inr ((fun _ => none))))))), (q3, .inr (3, [w06, w17, w28, .int 0, .int ((-1)), .int ((-1)), .int ((-1))]))] H := hP
  have hD : va_D A [(h0, .inr (10, [.int s0, .int s1, .int s2, s3, .ref q1, .ref q3, s6, s7, .int s8])), (q1, .inl (t2, 6, .inr (.inr (.inr (.inr ((fun _ => none))))))), (q3, .inr (3, [w06, w17, w28, .int 0, .int ((-1)), .int ((-1)), .int ((-1))]))] := hD
  refine lv_aload_n hx hb dX9_init_24 rfl (lv_at hl 0 rfl) ?_
  refine va_new (ci := 0) (fs := [.int 0, .null, .int 0]) (C := RJx4a65c) (T := TJx4a65c) (N := 3) hx hb ht inGJx4a65c tyJx4a65c tyJx4a65c_ok hown (ht _ q1204) (ht _ q206) (ht _ q128) hK hP hD hS hA rfl (fun j hj => by rcases (show j = 0 ∨ j = 1 ∨ j = 2 by omega) with rfl | rfl | rfl <;> rfl) (Nat.le_of_ble_eq_true rfl) (Nat.le_of_ble_eq_true rfl) dX9_init_25 (fun q9 H hP hD hS => ?_)
  have hP : va_P (dC, dI) vwCl [(h0, .inr (10, [.int s0, .int s1, .int s2, s3, .ref q1, .ref q3, s6, s7, .int s8])), (q1, .inl (t2, 6, .inr (.inr (.inr (.inr ((fun _ => none))))))), (q3, .inr (3, [w06, w17, w28, .int 0, .int ((-1)), .int ((-1)), .int ((-1))])), (q9, .inr (0, [.int 0, .null, .int 0]))] H := hP
  have hD : va_D A [(h0, .inr (10, [.int s0, .int s1, .int s2, s3, .ref q1, .ref q3, s6, s7, .int s8])), (q1, .inl (t2, 6, .inr (.inr (.inr (.inr ((fun _ => none))))))), (q3, .inr (3, [w06, w17, w28, .int 0, .int ((-1)), .int ((-1)), .int ((-1))])), (q9, .inr (0, [.int 0, .null, .int 0]))] := hD
  refine W.widen (k := 7) (n := 220) (Nat.le_of_ble_eq_true rfl) (Nat.le_of_ble_eq_true rfl) ?_
  refine lv_dup hx hb dX9_init_28 rfl ?_
  have hPc := hP.sub (ws' := [(q9, .inr (0, [.int 0, .null, .int 0]))]) [3] rfl
  have hDc := hD.sub (ws' := [(q9, .inr (0, [.int 0, .null, .int 0]))]) [3] (by decide) rfl
  have hKc := hK.sub (tys' := []) [] rfl
  have hFc := va_free (wc := [(q9, .inr (0, [.int 0, .null, .int 0]))]) hD hS hA [3] rfl
  refine va_callv (va_runI (As := []) (rest := [.ref q9, .ref h0]) ⟨hx, hb, hml, hown, ht⟩ (k_Jx4a65c_init_da8c8 l d0 cO dC dI H.size q9 0 .null 0) (my_I ht M_Jx4a65c_init_da8c8 q208 rfl q1205 (Nat.le_of_ble_eq_true rfl) (Nat.le_of_ble_eq_true rfl)) ⟨PRE.fb, fun U hU hW => ⟨rfl, PRE.mk' hE hS hFc hPc hKc hDc U hU hW⟩⟩ rfl rfl hl.1 rfl (lv_room (Nat.le_of_ble_eq_true rfl)) dX9_init_29 ⟨(Nat.le_of_ble_eq_true rfl), (Nat.le_of_ble_eq_true rfl)⟩) hS (fun q _ h => hFc q h) hFc (fun u10 t H1 locs htt hvm hw hB hz1 hk1 hS => ?_)
  try dsimp only at hw hB
  obtain ⟨hP1, hK1, hD1⟩ := hB
  rw [htt] at hP1
  have hK1 := va_K.moved hvm.symm hK1
  obtain ⟨hP, hD⟩ := va_join (wr := [(h0, .inr (10, [.int s0, .int s1, .int s2, s3, .ref q1, .ref q3, s6, s7, .int s8])), (q1, .inl (t2, 6, .inr (.inr (.inr (.inr ((fun _ => none))))))), (q3, .inr (3, [w06, w17, w28, .int 0, .int ((-1)), .int ((-1)), .int ((-1))]))]) (w1 := [(q9, .inr (0, [.int 0, .ref d0, .int 0]))]) hP hD [3] [0, 1, 2] rfl rfl (by decide) (by decide) hk1 hFc hP1 hD1
  have hK := (hK.sub (tys' := [(t2, .object RX2)]) [0] rfl).app hK1
  generalize H1 = H at hP hS ⊢
  have hP : va_P (dC, dI) vwCl [(h0, .inr (10, [.int s0, .int s1, .int s2, s3, .ref q1, .ref q3, s6, s7, .int s8])), (q1, .inl (t2, 6, .inr (.inr (.inr (.inr ((fun _ => none))))))), (q3, .inr (3, [w06, w17, w28, .int 0, .int ((-1)), .int ((-1)), .int ((-1))])), (q9, .inr (0, [.int 0, .ref d0, .int 0]))] H := hP
  have hD : va_D A [(h0, .inr (10, [.int s0, .int s1, .int s2, s3, .ref q1, .ref q3, s6, s7, .int s8])), (q1, .inl (t2, 6, .inr (.inr (.inr (.inr ((fun _ => none))))))), (q3, .inr (3, [w06, w17, w28, .int 0, .int ((-1)), .int ((-1)), .int ((-1))])), (q9, .inr (0, [.int 0, .ref d0, .int 0]))] := hD
  have hK : va_K (dC, dI) vwCl [(t2, .object RX2)] s := hK
  refine W.widen (k := 7) (n := 220) (Nat.le_of_ble_eq_true rfl) (Nat.le_of_ble_eq_true rfl) ?_
  refine va_putF (D := (dC, dI)) (ci := 10) (v := .ref q9) (ty := .object "java/util/ArrayList") (C := RX9) (T := TX9) (N := 9) hx hb ht inGX9 tyX9 tyX9_ok nmX9 hown hK hP hD hS 0 rfl rfl 6 (by decide) (ht _ q1214) (fun _ h9 => h9) rfl hin rfl (by decide +kernel) rfl rfl (Nat.le_of_ble_eq_true rfl) dX9_init_32 (fun H locs hP hD hS => ?_)
  have hP : va_P (dC, dI) vwCl [(h0, .inr (10, [.int s0, .int s1, .int s2, s3, .ref q1, .ref q3, .ref q9, s7, .int s8])), (q1, .inl (t2, 6, .inr (.inr (.inr (.inr ((fun _ => none))))))), (q3, .inr (3, [w06, w17, w28, .int 0, .int ((-1)), .int ((-1)), .int ((-1))])), (q9, .inr (0, [.int 0, .ref d0, .int 0]))] H := hP
  have hD : va_D A [(h0, .inr (10, [.int s0, .int s1, .int s2, s3, .ref q1, .ref q3, .ref q9, s7, .int s8])), (q1, .inl (t2, 6, .inr (.inr (.inr (.inr ((fun _ => none))))))), (q3, .inr (3, [w06, w17, w28, .int 0, .int ((-1)), .int ((-1)), .int ((-1))])), (q9, .inr (0, [.int 0, .ref d0, .int 0]))] := hD
  refine lv_aload_n hx hb dX9_init_35 rfl (lv_at hl 0 rfl) ?_
  refine va_new (ci := 6) (fs := [.null, .int 0]) (C := RX5) (T := TX5) (N := 2) hx hb ht inGX5 tyX5 tyX5_ok hown (ht _ q1206) (ht _ q297) (ht _ q132) hK hP hD hS hA rfl (fun j hj => by rcases (show j = 0 ∨ j = 1 by omega) with rfl | rfl <;> rfl) (Nat.le_of_ble_eq_true rfl) (Nat.le_of_ble_eq_true rfl) dX9_init_36 (fun q12 H hP hD hS => ?_)
  have hP : va_P (dC, dI) vwCl [(h0, .inr (10, [.int s0, .int s1, .int s2, s3, .ref q1, .ref q3, .ref q9, s7, .int s8])), (q1, .inl (t2, 6, .inr (.inr (.inr (.inr ((fun _ => none))))))), (q3, .inr (3, [w06, w17, w28, .int 0, .int ((-1)), .int ((-1)), .int ((-1))])), (q9, .inr (0, [.int 0, .ref d0, .int 0])), (q12, .inr (6, [.null, .int 0]))] H := hP
  have hD : va_D A [(h0, .inr (10, [.int s0, .int s1, .int s2, s3, .ref q1, .ref q3, .ref q9, s7, .int s8])), (q1, .inl (t2, 6, .inr (.inr (.inr (.inr ((fun _ => none))))))), (q3, .inr (3, [w06, w17, w28, .int 0, .int ((-1)), .int ((-1)), .int ((-1))])), (q9, .inr (0, [.int 0, .ref d0, .int 0])), (q12, .inr (6, [.null, .int 0]))] := hD
  refine W.widen (k := 8) (n := 222) (Nat.le_of_ble_eq_true rfl) (Nat.le_of_ble_eq_true rfl) ?_
  refine lv_dup hx hb dX9_init_39 rfl ?_
  have hPc := hP.sub (ws' := [(q12, .inr (6, [.null, .int 0]))]) [4] rfl
  have hDc := hD.sub (ws' := [(q12, .inr (6, [.null, .int 0]))]) [4] (by decide) rfl
  have hKc := hK.sub (tys' := []) [] rfl
  have hFc := va_free (wc := [(q12, .inr (6, [.null, .int 0]))]) hD hS hA [4] rfl
  refine va_callv (va_runIN (As := []) (rest := [.ref q12, .ref h0]) ⟨hx, hb, hml, hown, ht⟩ (k_X5_init l d0 cO dC dI H.size q12 .null 0) (my_NI ht M_X5_init q299 rfl q1207 (Nat.le_of_ble_eq_true rfl) (Nat.le_of_ble_eq_true rfl)) ⟨PRE.fb, fun U hU hW => ⟨rfl, PRE.mk' hE hS hFc hPc hKc hDc U hU hW⟩⟩ rfl rfl hl.1 rfl (lv_room (Nat.le_of_ble_eq_true rfl)) dX9_init_40 ⟨(Nat.le_of_ble_eq_true rfl), (Nat.le_of_ble_eq_true rfl)⟩) hS (fun q _ h => hFc q h) hFc (fun u13 t H1 locs htt hvm hw hB hz1 hk1 hS => ?_)
  try dsimp only at hw hB
  obtain ⟨v15, hP1, hK1, hD1⟩ := hB
  rw [htt] at hP1
  have hK1 := va_K.moved hvm.symm hK1
  obtain ⟨hP, hD⟩ := va_join (wr := [(h0, .inr (10, [.int s0, .int s1, .int s2, s3, .ref q1, .ref q3, .ref q9, s7, .int s8])), (q1, .inl (t2, 6, .inr (.inr (.inr (.inr ((fun _ => none))))))), (q3, .inr (3, [w06, w17, w28, .int 0, .int ((-1)), .int ((-1)), .int ((-1))])), (q9, .inr (0, [.int 0, .ref d0, .int 0]))]) (w1 := [(q12, .inr (6, [v15, .int 0]))]) hP hD [4] [0, 1, 2, 3] rfl rfl (by decide) (by decide) hk1 hFc hP1 hD1
  have hK := (hK.sub (tys' := [(t2, .object RX2)]) [0] rfl).app hK1
  generalize H1 = H at hP hS ⊢
  have hP : va_P (dC, dI) vwCl [(h0, .inr (10, [.int s0, .int s1, .int s2, s3, .ref q1, .ref q3, .ref q9, s7, .int s8])), (q1, .inl (t2, 6, .inr (.inr (.inr (.inr ((fun _ => none))))))), (q3, .inr (3, [w06, w17, w28, .int 0, .int ((-1)), .int ((-1)), .int ((-1))])), (q9, .inr (0, [.int 0, .ref d0, .int 0])), (q12, .inr (6, [v15, .int 0]))] H := hP
  have hD : va_D A [(h0, .inr (10, [.int s0, .int s1, .int s2, s3, .ref q1, .ref q3, .ref q9, s7, .int s8])), (q1, .inl (t2, 6, .inr (.inr (.inr (.inr ((fun _ => none))))))), (q3, .inr (3, [w06, w17, w28, .int 0, .int ((-1)), .int ((-1)), .int ((-1))])), (q9, .inr (0, [.int 0, .ref d0, .int 0])), (q12, .inr (6, [v15, .int 0]))] := hD
  have hK : va_K (dC, dI) vwCl [(t2, .object RX2)] s := hK
  refine W.widen (k := 8) (n := 222) (Nat.le_of_ble_eq_true rfl) (Nat.le_of_ble_eq_true rfl) ?_
  refine va_putF (D := (dC, dI)) (ci := 10) (v := .ref q12) (ty := .object "ToolPlex$Items") (C := RX9) (T := TX9) (N := 9) hx hb ht inGX9 tyX9 tyX9_ok nmX9 hown hK hP hD hS 0 rfl rfl 7 (by decide) (ht _ q1215) (fun _ h9 => h9) rfl hin rfl (by decide +kernel) rfl rfl (Nat.le_of_ble_eq_true rfl) dX9_init_43 (fun H locs hP hD hS => ?_)
  have hP : va_P (dC, dI) vwCl [(h0, .inr (10, [.int s0, .int s1, .int s2, s3, .ref q1, .ref q3, .ref q9, .ref q12, .int s8])), (q1, .inl (t2, 6, .inr (.inr (.inr (.inr ((fun _ => none))))))), (q3, .inr (3, [w06, w17, w28, .int 0, .int ((-1)), .int ((-1)), .int ((-1))])), (q9, .inr (0, [.int 0, .ref d0, .int 0])), (q12, .inr (6, [v15, .int 0]))] H := hP
  have hD : va_D A [(h0, .inr (10, [.int s0, .int s1, .int s2, s3, .ref q1, .ref q3, .ref q9, .ref q12, .int s8])), (q1, .inl (t2, 6, .inr (.inr (.inr (.inr ((fun _ => none))))))), (q3, .inr (3, [w06, w17, w28, .int 0, .int ((-1)), .int ((-1)), .int ((-1))])), (q9, .inr (0, [.int 0, .ref d0, .int 0])), (q12, .inr (6, [v15, .int 0]))] := hD
  refine lv_aload_n hx hb dX9_init_46 rfl (lv_at hl 0 rfl) ?_
  refine lv_iconst (v := 1) hx hb dX9_init_47 (by decide) ?_
  refine va_put (D := (dC, dI)) (ci := 10) (v := .int 1) (ty := .boolean) (C := RX9) (T := TX9) (N := 9) hx hb ht inGX9 tyX9 tyX9_ok nmX9 hown hK hP hD hS 0 rfl rfl 8 (by decide) (ht _ q1216) (fun _ h9 => h9) rfl (by decide +kernel) rfl rfl (Nat.le_of_ble_eq_true rfl) dX9_init_48 (fun H locs hP hD hS => ?_)
  have hP : va_P (dC, dI) vwCl [(h0, .inr (10, [.int s0, .int s1, .int s2, s3, .ref q1, .ref q3, .ref q9, .ref q12, .int 1])), (q1, .inl (t2, 6, .inr (.inr (.inr (.inr ((fun _ => none))))))), (q3, .inr (3, [w06, w17, w28, .int 0, .int ((-1)), .int ((-1)), .int ((-1))])), (q9, .inr (0, [.int 0, .ref d0, .int 0])), (q12, .inr (6, [v15, .int 0]))] H := hP
  have hD : va_D A [(h0, .inr (10, [.int s0, .int s1, .int s2, s3, .ref q1, .ref q3, .ref q9, .ref q12, .int 1])), (q1, .inl (t2, 6, .inr (.inr (.inr (.inr ((fun _ => none))))))), (q3, .inr (3, [w06, w17, w28, .int 0, .int ((-1)), .int ((-1)), .int ((-1))])), (q9, .inr (0, [.int 0, .ref d0, .int 0])), (q12, .inr (6, [v15, .int 0]))] := hD
  refine lv_aload_n hx hb dX9_init_51 rfl (lv_at hl 0 rfl) ?_
  refine lv_iload_n hx hb dX9_init_52 rfl (lv_at hl 1 rfl) ?_
  refine va_putF (D := (dC, dI)) (ci := 10) (v := .int a1) (ty := .int) (C := RX9) (T := TX9) (N := 9) hx hb ht inGX9 tyX9 tyX9_ok nmX9 hown hK hP hD hS 0 rfl rfl 0 (by decide) (ht _ q1208) (fun _ h9 => h9) rfl hin rfl (by decide +kernel) rfl rfl (Nat.le_of_ble_eq_true rfl) dX9_init_53 (fun H locs hP hD hS => ?_)
  have hP : va_P (dC, dI) vwCl [(h0, .inr (10, [.int a1, .int s1, .int s2, s3, .ref q1, .ref q3, .ref q9, .ref q12, .int 1])), (q1, .inl (t2, 6, .inr (.inr (.inr (.inr ((fun _ => none))))))), (q3, .inr (3, [w06, w17, w28, .int 0, .int ((-1)), .int ((-1)), .int ((-1))])), (q9, .inr (0, [.int 0, .ref d0, .int 0])), (q12, .inr (6, [v15, .int 0]))] H := hP
  have hD : va_D A [(h0, .inr (10, [.int a1, .int s1, .int s2, s3, .ref q1, .ref q3, .ref q9, .ref q12, .int 1])), (q1, .inl (t2, 6, .inr (.inr (.inr (.inr ((fun _ => none))))))), (q3, .inr (3, [w06, w17, w28, .int 0, .int ((-1)), .int ((-1)), .int ((-1))])), (q9, .inr (0, [.int 0, .ref d0, .int 0])), (q12, .inr (6, [v15, .int 0]))] := hD
  refine lv_aload_n hx hb dX9_init_56 rfl (lv_at hl 0 rfl) ?_
  refine lv_iload_n hx hb dX9_init_57 rfl (lv_at hl 2 rfl) ?_
  refine va_putF (D := (dC, dI)) (ci := 10) (v := .int a2) (ty := .int) (C := RX9) (T := TX9) (N := 9) hx hb ht inGX9 tyX9 tyX9_ok nmX9 hown hK hP hD hS 0 rfl rfl 1 (by decide) (ht _ q1209) (fun _ h9 => h9) rfl hin rfl (by decide +kernel) rfl rfl (Nat.le_of_ble_eq_true rfl) dX9_init_58 (fun H locs hP hD hS => ?_)
  have hP : va_P (dC, dI) vwCl [(h0, .inr (10, [.int a1, .int a2, .int s2, s3, .ref q1, .ref q3, .ref q9, .ref q12, .int 1])), (q1, .inl (t2, 6, .inr (.inr (.inr (.inr ((fun _ => none))))))), (q3, .inr (3, [w06, w17, w28, .int 0, .int ((-1)), .int ((-1)), .int ((-1))])), (q9, .inr (0, [.int 0, .ref d0, .int 0])), (q12, .inr (6, [v15, .int 0]))] H := hP
  have hD : va_D A [(h0, .inr (10, [.int a1, .int a2, .int s2, s3, .ref q1, .ref q3, .ref q9, .ref q12, .int 1])), (q1, .inl (t2, 6, .inr (.inr (.inr (.inr ((fun _ => none))))))), (q3, .inr (3, [w06, w17, w28, .int 0, .int ((-1)), .int ((-1)), .int ((-1))])), (q9, .inr (0, [.int 0, .ref d0, .int 0])), (q12, .inr (6, [v15, .int 0]))] := hD
  refine lv_aload_n hx hb dX9_init_61 rfl (lv_at hl 0 rfl) ?_
  refine lv_iload_n hx hb dX9_init_62 rfl (lv_at hl 3 rfl) ?_
  refine va_putF (D := (dC, dI)) (ci := 10) (v := .int a3) (ty := .int) (C := RX9) (T := TX9) (N := 9) hx hb ht inGX9 tyX9 tyX9_ok nmX9 hown hK hP hD hS 0 rfl rfl 2 (by decide) (ht _ q1210) (fun _ h9 => h9) rfl hin rfl (by decide +kernel) rfl rfl (Nat.le_of_ble_eq_true rfl) dX9_init_63 (fun H locs hP hD hS => ?_)
  have hP : va_P (dC, dI) vwCl [(h0, .inr (10, [.int a1, .int a2, .int a3, s3, .ref q1, .ref q3, .ref q9, .ref q12, .int 1])), (q1, .inl (t2, 6, .inr (.inr (.inr (.inr ((fun _ => none))))))), (q3, .inr (3, [w06, w17, w28, .int 0, .int ((-1)), .int ((-1)), .int ((-1))])), (q9, .inr (0, [.int 0, .ref d0, .int 0])), (q12, .inr (6, [v15, .int 0]))] H := hP
  have hD : va_D A [(h0, .inr (10, [.int a1, .int a2, .int a3, s3, .ref q1, .ref q3, .ref q9, .ref q12, .int 1])), (q1, .inl (t2, 6, .inr (.inr (.inr (.inr ((fun _ => none))))))), (q3, .inr (3, [w06, w17, w28, .int 0, .int ((-1)), .int ((-1)), .int ((-1))])), (q9, .inr (0, [.int 0, .ref d0, .int 0])), (q12, .inr (6, [v15, .int 0]))] := hD
  refine lv_aload_n hx hb dX9_init_66 rfl (lv_at hl 0 rfl) ?_
  refine lv_aload hx hb dX9_init_67 (lv_at hl 4 rfl) ?_
  refine va_putF (D := (dC, dI)) (ci := 10) (v := .ref a4) (ty := .object "ToolPlex$Files") (C := RX9) (T := TX9) (N := 9) hx hb ht inGX9 tyX9 tyX9_ok nmX9 hown hK hP hD hS 0 rfl rfl 3 (by decide) (ht _ q1211) (fun _ h9 => h9) rfl hin rfl (by decide +kernel) rfl rfl (Nat.le_of_ble_eq_true rfl) dX9_init_69 (fun H locs hP hD hS => ?_)
  have hP : va_P (dC, dI) vwCl [(h0, .inr (10, [.int a1, .int a2, .int a3, .ref a4, .ref q1, .ref q3, .ref q9, .ref q12, .int 1])), (q1, .inl (t2, 6, .inr (.inr (.inr (.inr ((fun _ => none))))))), (q3, .inr (3, [w06, w17, w28, .int 0, .int ((-1)), .int ((-1)), .int ((-1))])), (q9, .inr (0, [.int 0, .ref d0, .int 0])), (q12, .inr (6, [v15, .int 0]))] H := hP
  have hD : va_D A [(h0, .inr (10, [.int a1, .int a2, .int a3, .ref a4, .ref q1, .ref q3, .ref q9, .ref q12, .int 1])), (q1, .inl (t2, 6, .inr (.inr (.inr (.inr ((fun _ => none))))))), (q3, .inr (3, [w06, w17, w28, .int 0, .int ((-1)), .int ((-1)), .int ((-1))])), (q9, .inr (0, [.int 0, .ref d0, .int 0])), (q12, .inr (6, [v15, .int 0]))] := hD
  refine lv_iconst (v := 0) hx hb dX9_init_72 (by decide) ?_
  refine lv_istore (lv' := [(5, .int 0), (0, .ref h0), (1, .int a1), (2, .int a2), (3, .int a3), (4, .ref a4)]) hx hb dX9_init_73 hl (by decide) rfl (fun ls hl => ?_)
  refine lv_iload hx hb dX9_init_75 (lv_at hl 0 rfl) ?_
  refine lv_bipush (v := 6) hx hb dX9_init_77 (by decide) ?_
  refine lv_icmp_ge (tgt := 102) hx hb dX9_init_79 (by decide) (fun c16 => False.elim (by revert c16; decide)) (fun c16 => ?_)
  refine lv_aload_n hx hb dX9_init_82 rfl (lv_at hl 1 rfl) ?_
  refine va_get (D := (dC, dI)) (ci := 10) (v := .ref q1) (C := RX9) (T := TX9) (N := 9) hx hb ht inGX9 hown hK hP 0 rfl rfl 4 (by decide) (ht _ q1212) (fun _ h9 => h9) rfl dX9_init_83 ?_
  refine lv_iload hx hb dX9_init_86 (lv_at hl 0 rfl) ?_
  refine va_new (ci := 3) (fs := [.null, .null, .null, .int 0, .int 0, .int 0, .int 0]) (C := RX2) (T := TX2) (N := 7) hx hb ht inGX2 tyX2 tyX2_ok hown (ht _ q1202) (ht _ q253) (ht _ q131) hK hP hD hS hA rfl (fun j hj => by rcases (show j = 0 ∨ j = 1 ∨ j = 2 ∨ j = 3 ∨ j = 4 ∨ j = 5 ∨ j = 6 by omega) with rfl | rfl | rfl | rfl | rfl | rfl | rfl <;> rfl) (Nat.le_of_ble_eq_true rfl) (Nat.le_of_ble_eq_true rfl) dX9_init_88 (fun q17 H hP hD hS => ?_)
  have hP : va_P (dC, dI) vwCl [(h0, .inr (10, [.int a1, .int a2, .int a3, .ref a4, .ref q1, .ref q3, .ref q9, .ref q12, .int 1])), (q1, .inl (t2, 6, .inr (.inr (.inr (.inr ((fun _ => none))))))), (q3, .inr (3, [w06, w17, w28, .int 0, .int ((-1)), .int ((-1)), .int ((-1))])), (q9, .inr (0, [.int 0, .ref d0, .int 0])), (q12, .inr (6, [v15, .int 0])), (q17, .inr (3, [.null, .null, .null, .int 0, .int 0, .int 0, .int 0]))] H := hP
  have hD : va_D A [(h0, .inr (10, [.int a1, .int a2, .int a3, .ref a4, .ref q1, .ref q3, .ref q9, .ref q12, .int 1])), (q1, .inl (t2, 6, .inr (.inr (.inr (.inr ((fun _ => none))))))), (q3, .inr (3, [w06, w17, w28, .int 0, .int ((-1)), .int ((-1)), .int ((-1))])), (q9, .inr (0, [.int 0, .ref d0, .int 0])), (q12, .inr (6, [v15, .int 0])), (q17, .inr (3, [.null, .null, .null, .int 0, .int 0, .int 0, .int 0]))] := hD
  refine W.widen (k := 9) (n := 229) (Nat.le_of_ble_eq_true rfl) (Nat.le_of_ble_eq_true rfl) ?_
  refine lv_dup hx hb dX9_init_91 rfl ?_
  have hPc := hP.sub (ws' := [(q17, .inr (3, [.null, .null, .null, .int 0, .int 0, .int 0, .int 0]))]) [5] rfl
  have hDc := hD.sub (ws' := [(q17, .inr (3, [.null, .null, .null, .int 0, .int 0, .int 0, .int 0]))]) [5] (by decide) rfl
  have hKc := hK.sub (tys' := []) [] rfl
  have hFc := va_free (wc := [(q17, .inr (3, [.null, .null, .null, .int 0, .int 0, .int 0, .int 0]))]) hD hS hA [5] rfl
  refine va_callv (va_runIN (As := []) (rest := [.ref q17, .int 0, .ref q1]) ⟨hx, hb, hml, hown, ht⟩ (k_X2_init l d0 cO dC dI H.size q17 .null .null .null 0 0 0 0) (my_NI ht M_X2_init q255 rfl q1203 (Nat.le_of_ble_eq_true rfl) (Nat.le_of_ble_eq_true rfl)) ⟨PRE.fb, fun U hU hW => ⟨rfl, PRE.mk' hE hS hFc hPc hKc hDc U hU hW⟩⟩ rfl rfl hl.1 rfl (lv_room (Nat.le_of_ble_eq_true rfl)) dX9_init_92 ⟨(Nat.le_of_ble_eq_true rfl), (Nat.le_of_ble_eq_true rfl)⟩) hS (fun q _ h => hFc q h) hFc (fun u18 t H1 locs htt hvm hw hB hz1 hk1 hS => ?_)
  try dsimp only at hw hB
  obtain ⟨w020, w121, w222, hP1, hK1, hD1⟩ := hB
  rw [htt] at hP1
  have hK1 := va_K.moved hvm.symm hK1
  obtain ⟨hP, hD⟩ := va_join (wr := [(h0, .inr (10, [.int a1, .int a2, .int a3, .ref a4, .ref q1, .ref q3, .ref q9, .ref q12, .int 1])), (q1, .inl (t2, 6, .inr (.inr (.inr (.inr ((fun _ => none))))))), (q3, .inr (3, [w06, w17, w28, .int 0, .int ((-1)), .int ((-1)), .int ((-1))])), (q9, .inr (0, [.int 0, .ref d0, .int 0])), (q12, .inr (6, [v15, .int 0]))]) (w1 := [(q17, .inr (3, [w020, w121, w222, .int 0, .int ((-1)), .int ((-1)), .int ((-1))]))]) hP hD [5] [0, 1, 2, 3, 4] rfl rfl (by decide) (by decide) hk1 hFc hP1 hD1
  have hK := (hK.sub (tys' := [(t2, .object RX2)]) [0] rfl).app hK1
  generalize H1 = H at hP hS ⊢
  have hP : va_P (dC, dI) vwCl [(h0, .inr (10, [.int a1, .int a2, .int a3, .ref a4, .ref q1, .ref q3, .ref q9, .ref q12, .int 1])), (q1, .inl (t2, 6, .inr (.inr (.inr (.inr ((fun _ => none))))))), (q3, .inr (3, [w06, w17, w28, .int 0, .int ((-1)), .int ((-1)), .int ((-1))])), (q9, .inr (0, [.int 0, .ref d0, .int 0])), (q12, .inr (6, [v15, .int 0])), (q17, .inr (3, [w020, w121, w222, .int 0, .int ((-1)), .int ((-1)), .int ((-1))]))] H := hP
  have hD : va_D A [(h0, .inr (10, [.int a1, .int a2, .int a3, .ref a4, .ref q1, .ref q3, .ref q9, .ref q12, .int 1])), (q1, .inl (t2, 6, .inr (.inr (.inr (.inr ((fun _ => none))))))), (q3, .inr (3, [w06, w17, w28, .int 0, .int ((-1)), .int ((-1)), .int ((-1))])), (q9, .inr (0, [.int 0, .ref d0, .int 0])), (q12, .inr (6, [v15, .int 0])), (q17, .inr (3, [w020, w121, w222, .int 0, .int ((-1)), .int ((-1)), .int ((-1))]))] := hD
  have hK : va_K (dC, dI) vwCl [(t2, .object RX2)] s := hK
  refine W.widen (k := 13) (n := 433) (Nat.le_of_ble_eq_true rfl) (Nat.le_of_ble_eq_true rfl) ?_
  refine va_astq hx hb hK hP hD hS 1 0 5 3 rfl rfl rfl rfl (vp_in_nI (n := 0) (by decide) (by decide)) dX9_init_95 (fun H locs hP hD hS => ?_)
  have hP : va_P (dC, dI) vwCl [(h0, .inr (10, [.int a1, .int a2, .int a3, .ref a4, .ref q1, .ref q3, .ref q9, .ref q12, .int 1])), (q1, .inl (t2, 6, .inr (.inr (.inr (.inr ((va_up (fun _ => none) 0 (some q17)))))))), (q3, .inr (3, [w06, w17, w28, .int 0, .int ((-1)), .int ((-1)), .int ((-1))])), (q9, .inr (0, [.int 0, .ref d0, .int 0])), (q12, .inr (6, [v15, .int 0])), (q17, .inr (3, [w020, w121, w222, .int 0, .int ((-1)), .int ((-1)), .int ((-1))]))] H := hP
  have hD : va_D A [(h0, .inr (10, [.int a1, .int a2, .int a3, .ref a4, .ref q1, .ref q3, .ref q9, .ref q12, .int 1])), (q1, .inl (t2, 6, .inr (.inr (.inr (.inr ((va_up (fun _ => none) 0 (some q17)))))))), (q3, .inr (3, [w06, w17, w28, .int 0, .int ((-1)), .int ((-1)), .int ((-1))])), (q9, .inr (0, [.int 0, .ref d0, .int 0])), (q12, .inr (6, [v15, .int 0])), (q17, .inr (3, [w020, w121, w222, .int 0, .int ((-1)), .int ((-1)), .int ((-1))]))] := hD
  generalize (va_up (fun _ => none) 0 (some q17)) = f23 at hP hD
  have hP := hP.sub (ws' := [(h0, .inr (10, [.int a1, .int a2, .int a3, .ref a4, .ref q1, .ref q3, .ref q9, .ref q12, .int 1])), (q1, .inl (t2, 6, .inr (.inr (.inr (.inr f23))))), (q3, .inr (3, [w06, w17, w28, .int 0, .int ((-1)), .int ((-1)), .int ((-1))])), (q9, .inr (0, [.int 0, .ref d0, .int 0])), (q12, .inr (6, [v15, .int 0]))]) [0, 1, 2, 3, 4] rfl
  have hD := hD.sub (ws' := [(h0, .inr (10, [.int a1, .int a2, .int a3, .ref a4, .ref q1, .ref q3, .ref q9, .ref q12, .int 1])), (q1, .inl (t2, 6, .inr (.inr (.inr (.inr f23))))), (q3, .inr (3, [w06, w17, w28, .int 0, .int ((-1)), .int ((-1)), .int ((-1))])), (q9, .inr (0, [.int 0, .ref d0, .int 0])), (q12, .inr (6, [v15, .int 0]))]) [0, 1, 2, 3, 4] (by decide) rfl
  refine lv_iinc (v := 1) (lv' := [(5, .int 1), (0, .ref h0), (1, .int a1), (2, .int a2), (3, .int a3), (4, .ref a4)]) hx hb dX9_init_96 hl (k := 0) rfl (by decide) (by decide) rfl (fun ls hl => ?_)
  refine lv_goto (tgt := 75) hx hb dX9_init_99 (by decide) ?_
  refine lv_iload hx hb dX9_init_75 (lv_at hl 0 rfl) ?_
  refine lv_bipush (v := 6) hx hb dX9_init_77 (by decide) ?_
  refine lv_icmp_ge (tgt := 102) hx hb dX9_init_79 (by decide) (fun c24 => False.elim (by revert c24; decide)) (fun c24 => ?_)
  refine lv_aload_n hx hb dX9_init_82 rfl (lv_at hl 1 rfl) ?_
  refine va_get (D := (dC, dI)) (ci := 10) (v := .ref q1) (C := RX9) (T := TX9) (N := 9) hx hb ht inGX9 hown hK hP 0 rfl rfl 4 (by decide) (ht _ q1212) (fun _ h9 => h9) rfl dX9_init_83 ?_
  refine lv_iload hx hb dX9_init_86 (lv_at hl 0 rfl) ?_
  refine va_new (ci := 3) (fs := [.null, .null, .null, .int 0, .int 0, .int 0, .int 0]) (C := RX2) (T := TX2) (N := 7) hx hb ht inGX2 tyX2 tyX2_ok hown (ht _ q1202) (ht _ q253) (ht _ q131) hK hP hD hS hA rfl (fun j hj => by rcases (show j = 0 ∨ j = 1 ∨ j = 2 ∨ j = 3 ∨ j = 4 ∨ j = 5 ∨ j = 6 by omega) with rfl | rfl | rfl | rfl | rfl | rfl | rfl <;> rfl) (Nat.le_of_ble_eq_true rfl) (Nat.le_of_ble_eq_true rfl) dX9_init_88 (fun q25 H hP hD hS => ?_)
  have hP : va_P (dC, dI) vwCl [(h0, .inr (10, [.int a1, .int a2, .int a3, .ref a4, .ref q1, .ref q3, .ref q9, .ref q12, .int 1])), (q1, .inl (t2, 6, .inr (.inr (.inr (.inr f23))))), (q3, .inr (3, [w06, w17, w28, .int 0, .int ((-1)), .int ((-1)), .int ((-1))])), (q9, .inr (0, [.int 0, .ref d0, .int 0])), (q12, .inr (6, [v15, .int 0])), (q25, .inr (3, [.null, .null, .null, .int 0, .int 0, .int 0, .int 0]))] H := hP
  have hD : va_D A [(h0, .inr (10, [.int a1, .int a2, .int a3, .ref a4, .ref q1, .ref q3, .ref q9, .ref q12, .int 1])), (q1, .inl (t2, 6, .inr (.inr (.inr (.inr f23))))), (q3, .inr (3, [w06, w17, w28, .int 0, .int ((-1)), .int ((-1)), .int ((-1))])), (q9, .inr (0, [.int 0, .ref d0, .int 0])), (q12, .inr (6, [v15, .int 0])), (q25, .inr (3, [.null, .null, .null, .int 0, .int 0, .int 0, .int 0]))] := hD
  refine W.widen (k := 14) (n := 440) (Nat.le_of_ble_eq_true rfl) (Nat.le_of_ble_eq_true rfl) ?_
  refine lv_dup hx hb dX9_init_91 rfl ?_
  have hPc := hP.sub (ws' := [(q25, .inr (3, [.null, .null, .null, .int 0, .int 0, .int 0, .int 0]))]) [5] rfl
  have hDc := hD.sub (ws' := [(q25, .inr (3, [.null, .null, .null, .int 0, .int 0, .int 0, .int 0]))]) [5] (by decide) rfl
  have hKc := hK.sub (tys' := []) [] rfl
  have hFc := va_free (wc := [(q25, .inr (3, [.null, .null, .null, .int 0, .int 0, .int 0, .int 0]))]) hD hS hA [5] rfl
  refine va_callv (va_runIN (As := []) (rest := [.ref q25, .int 1, .ref q1]) ⟨hx, hb, hml, hown, ht⟩ (k_X2_init l d0 cO dC dI H.size q25 .null .null .null 0 0 0 0) (my_NI ht M_X2_init q255 rfl q1203 (Nat.le_of_ble_eq_true rfl) (Nat.le_of_ble_eq_true rfl)) ⟨PRE.fb, fun U hU hW => ⟨rfl, PRE.mk' hE hS hFc hPc hKc hDc U hU hW⟩⟩ rfl rfl hl.1 rfl (lv_room (Nat.le_of_ble_eq_true rfl)) dX9_init_92 ⟨(Nat.le_of_ble_eq_true rfl), (Nat.le_of_ble_eq_true rfl)⟩) hS (fun q _ h => hFc q h) hFc (fun u26 t H1 locs htt hvm hw hB hz1 hk1 hS => ?_)
  try dsimp only at hw hB
  obtain ⟨w028, w129, w230, hP1, hK1, hD1⟩ := hB
  rw [htt] at hP1
  have hK1 := va_K.moved hvm.symm hK1
  obtain ⟨hP, hD⟩ := va_join (wr := [(h0, .inr (10, [.int a1, .int a2, .int a3, .ref a4, .ref q1, .ref q3, .ref q9, .ref q12, .int 1])), (q1, .inl (t2, 6, .inr (.inr (.inr (.inr f23))))), (q3, .inr (3, [w06, w17, w28, .int 0, .int ((-1)), .int ((-1)), .int ((-1))])), (q9, .inr (0, [.int 0, .ref d0, .int 0])), (q12, .inr (6, [v15, .int 0]))]) (w1 := [(q25, .inr (3, [w028, w129, w230, .int 0, .int ((-1)), .int ((-1)), .int ((-1))]))]) hP hD [5] [0, 1, 2, 3, 4] rfl rfl (by decide) (by decide) hk1 hFc hP1 hD1
  have hK := (hK.sub (tys' := [(t2, .object RX2)]) [0] rfl).app hK1
  generalize H1 = H at hP hS ⊢
  have hP : va_P (dC, dI) vwCl [(h0, .inr (10, [.int a1, .int a2, .int a3, .ref a4, .ref q1, .ref q3, .ref q9, .ref q12, .int 1])), (q1, .inl (t2, 6, .inr (.inr (.inr (.inr f23))))), (q3, .inr (3, [w06, w17, w28, .int 0, .int ((-1)), .int ((-1)), .int ((-1))])), (q9, .inr (0, [.int 0, .ref d0, .int 0])), (q12, .inr (6, [v15, .int 0])), (q25, .inr (3, [w028, w129, w230, .int 0, .int ((-1)), .int ((-1)), .int ((-1))]))] H := hP
  have hD : va_D A [(h0, .inr (10, [.int a1, .int a2, .int a3, .ref a4, .ref q1, .ref q3, .ref q9, .ref q12, .int 1])), (q1, .inl (t2, 6, .inr (.inr (.inr (.inr f23))))), (q3, .inr (3, [w06, w17, w28, .int 0, .int ((-1)), .int ((-1)), .int ((-1))])), (q9, .inr (0, [.int 0, .ref d0, .int 0])), (q12, .inr (6, [v15, .int 0])), (q25, .inr (3, [w028, w129, w230, .int 0, .int ((-1)), .int ((-1)), .int ((-1))]))] := hD
  have hK : va_K (dC, dI) vwCl [(t2, .object RX2)] s := hK
  refine W.widen (k := 18) (n := 644) (Nat.le_of_ble_eq_true rfl) (Nat.le_of_ble_eq_true rfl) ?_
  refine va_astq hx hb hK hP hD hS 1 0 5 3 rfl rfl rfl rfl (vp_in_nI (n := 1) (by decide) (by decide)) dX9_init_95 (fun H locs hP hD hS => ?_)
  have hP : va_P (dC, dI) vwCl [(h0, .inr (10, [.int a1, .int a2, .int a3, .ref a4, .ref q1, .ref q3, .ref q9, .ref q12, .int 1])), (q1, .inl (t2, 6, .inr (.inr (.inr (.inr ((va_up f23 1 (some q25)))))))), (q3, .inr (3, [w06, w17, w28, .int 0, .int ((-1)), .int ((-1)), .int ((-1))])), (q9, .inr (0, [.int 0, .ref d0, .int 0])), (q12, .inr (6, [v15, .int 0])), (q25, .inr (3, [w028, w129, w230, .int 0, .int ((-1)), .int ((-1)), .int ((-1))]))] H := hP
  have hD : va_D A [(h0, .inr (10, [.int a1, .int a2, .int a3, .ref a4, .ref q1, .ref q3, .ref q9, .ref q12, .int 1])), (q1, .inl (t2, 6, .inr (.inr (.inr (.inr ((va_up f23 1 (some q25)))))))), (q3, .inr (3, [w06, w17, w28, .int 0, .int ((-1)), .int ((-1)), .int ((-1))])), (q9, .inr (0, [.int 0, .ref d0, .int 0])), (q12, .inr (6, [v15, .int 0])), (q25, .inr (3, [w028, w129, w230, .int 0, .int ((-1)), .int ((-1)), .int ((-1))]))] := hD
  generalize (va_up f23 1 (some q25)) = f31 at hP hD
  have hP := hP.sub (ws' := [(h0, .inr (10, [.int a1, .int a2, .int a3, .ref a4, .ref q1, .ref q3, .ref q9, .ref q12, .int 1])), (q1, .inl (t2, 6, .inr (.inr (.inr (.inr f31))))), (q3, .inr (3, [w06, w17, w28, .int 0, .int ((-1)), .int ((-1)), .int ((-1))])), (q9, .inr (0, [.int 0, .ref d0, .int 0])), (q12, .inr (6, [v15, .int 0]))]) [0, 1, 2, 3, 4] rfl
  have hD := hD.sub (ws' := [(h0, .inr (10, [.int a1, .int a2, .int a3, .ref a4, .ref q1, .ref q3, .ref q9, .ref q12, .int 1])), (q1, .inl (t2, 6, .inr (.inr (.inr (.inr f31))))), (q3, .inr (3, [w06, w17, w28, .int 0, .int ((-1)), .int ((-1)), .int ((-1))])), (q9, .inr (0, [.int 0, .ref d0, .int 0])), (q12, .inr (6, [v15, .int 0]))]) [0, 1, 2, 3, 4] (by decide) rfl
  refine lv_iinc (v := 2) (lv' := [(5, .int 2), (0, .ref h0), (1, .int a1), (2, .int a2), (3, .int a3), (4, .ref a4)]) hx hb dX9_init_96 hl (k := 0) rfl (by decide) (by decide) rfl (fun ls hl => ?_)
  refine lv_goto (tgt := 75) hx hb dX9_init_99 (by decide) ?_
  refine lv_iload hx hb dX9_init_75 (lv_at hl 0 rfl) ?_
  refine lv_bipush (v := 6) hx hb dX9_init_77 (by decide) ?_
  refine lv_icmp_ge (tgt := 102) hx hb dX9_init_79 (by decide) (fun c32 => False.elim (by revert c32; decide)) (fun c32 => ?_)
  refine lv_aload_n hx hb dX9_init_82 rfl (lv_at hl 1 rfl) ?_
  refine va_get (D := (dC, dI)) (ci := 10) (v := .ref q1) (C := RX9) (T := TX9) (N := 9) hx hb ht inGX9 hown hK hP 0 rfl rfl 4 (by decide) (ht _ q1212) (fun _ h9 => h9) rfl dX9_init_83 ?_
  refine lv_iload hx hb dX9_init_86 (lv_at hl 0 rfl) ?_
  refine va_new (ci := 3) (fs := [.null, .null, .null, .int 0, .int 0, .int 0, .int 0]) (C := RX2) (T := TX2) (N := 7) hx hb ht inGX2 tyX2 tyX2_ok hown (ht _ q1202) (ht _ q253) (ht _ q131) hK hP hD hS hA rfl (fun j hj => by rcases (show j = 0 ∨ j = 1 ∨ j = 2 ∨ j = 3 ∨ j = 4 ∨ j = 5 ∨ j = 6 by omega) with rfl | rfl | rfl | rfl | rfl | rfl | rfl <;> rfl) (Nat.le_of_ble_eq_true rfl) (Nat.le_of_ble_eq_true rfl) dX9_init_88 (fun q33 H hP hD hS => ?_)
  have hP : va_P (dC, dI) vwCl [(h0, .inr (10, [.int a1, .int a2, .int a3, .ref a4, .ref q1, .ref q3, .ref q9, .ref q12, .int 1])), (q1, .inl (t2, 6, .inr (.inr (.inr (.inr f31))))), (q3, .inr (3, [w06, w17, w28, .int 0, .int ((-1)), .int ((-1)), .int ((-1))])), (q9, .inr (0, [.int 0, .ref d0, .int 0])), (q12, .inr (6, [v15, .int 0])), (q33, .inr (3, [.null, .null, .null, .int 0, .int 0, .int 0, .int 0]))] H := hP
  have hD : va_D A [(h0, .inr (10, [.int a1, .int a2, .int a3, .ref a4, .ref q1, .ref q3, .ref q9, .ref q12, .int 1])), (q1, .inl (t2, 6, .inr (.inr (.inr (.inr f31))))), (q3, .inr (3, [w06, w17, w28, .int 0, .int ((-1)), .int ((-1)), .int ((-1))])), (q9, .inr (0, [.int 0, .ref d0, .int 0])), (q12, .inr (6, [v15, .int 0])), (q33, .inr (3, [.null, .null, .null, .int 0, .int 0, .int 0, .int 0]))] := hD
  refine W.widen (k := 19) (n := 651) (Nat.le_of_ble_eq_true rfl) (Nat.le_of_ble_eq_true rfl) ?_
  refine lv_dup hx hb dX9_init_91 rfl ?_
  have hPc := hP.sub (ws' := [(q33, .inr (3, [.null, .null, .null, .int 0, .int 0, .int 0, .int 0]))]) [5] rfl
  have hDc := hD.sub (ws' := [(q33, .inr (3, [.null, .null, .null, .int 0, .int 0, .int 0, .int 0]))]) [5] (by decide) rfl
  have hKc := hK.sub (tys' := []) [] rfl
  have hFc := va_free (wc := [(q33, .inr (3, [.null, .null, .null, .int 0, .int 0, .int 0, .int 0]))]) hD hS hA [5] rfl
  refine va_callv (va_runIN (As := []) (rest := [.ref q33, .int 2, .ref q1]) ⟨hx, hb, hml, hown, ht⟩ (k_X2_init l d0 cO dC dI H.size q33 .null .null .null 0 0 0 0) (my_NI ht M_X2_init q255 rfl q1203 (Nat.le_of_ble_eq_true rfl) (Nat.le_of_ble_eq_true rfl)) ⟨PRE.fb, fun U hU hW => ⟨rfl, PRE.mk' hE hS hFc hPc hKc hDc U hU hW⟩⟩ rfl rfl hl.1 rfl (lv_room (Nat.le_of_ble_eq_true rfl)) dX9_init_92 ⟨(Nat.le_of_ble_eq_true rfl), (Nat.le_of_ble_eq_true rfl)⟩) hS (fun q _ h => hFc q h) hFc (fun u34 t H1 locs htt hvm hw hB hz1 hk1 hS => ?_)
  try dsimp only at hw hB
  obtain ⟨w036, w137, w238, hP1, hK1, hD1⟩ := hB
  rw [htt] at hP1
  have hK1 := va_K.moved hvm.symm hK1
  obtain ⟨hP, hD⟩ := va_join (wr := [(h0, .inr (10, [.int a1, .int a2, .int a3, .ref a4, .ref q1, .ref q3, .ref q9, .ref q12, .int 1])), (q1, .inl (t2, 6, .inr (.inr (.inr (.inr f31))))), (q3, .inr (3, [w06, w17, w28, .int 0, .int ((-1)), .int ((-1)), .int ((-1))])), (q9, .inr (0, [.int 0, .ref d0, .int 0])), (q12, .inr (6, [v15, .int 0]))]) (w1 := [(q33, .inr (3, [w036, w137, w238, .int 0, .int ((-1)), .int ((-1)), .int ((-1))]))]) hP hD [5] [0, 1, 2, 3, 4] rfl rfl (by decide) (by decide) hk1 hFc hP1 hD1
  have hK := (hK.sub (tys' := [(t2, .object RX2)]) [0] rfl).app hK1
  generalize H1 = H at hP hS ⊢
  have hP : va_P (dC, dI) vwCl [(h0, .inr (10, [.int a1, .int a2, .int a3, .ref a4, .ref q1, .ref q3, .ref q9, .ref q12, .int 1])), (q1, .inl (t2, 6, .inr (.inr (.inr (.inr f31))))), (q3, .inr (3, [w06, w17, w28, .int 0, .int ((-1)), .int ((-1)), .int ((-1))])), (q9, .inr (0, [.int 0, .ref d0, .int 0])), (q12, .inr (6, [v15, .int 0])), (q33, .inr (3, [w036, w137, w238, .int 0, .int ((-1)), .int ((-1)), .int ((-1))]))] H := hP
  have hD : va_D A [(h0, .inr (10, [.int a1, .int a2, .int a3, .ref a4, .ref q1, .ref q3, .ref q9, .ref q12, .int 1])), (q1, .inl (t2, 6, .inr (.inr (.inr (.inr f31))))), (q3, .inr (3, [w06, w17, w28, .int 0, .int ((-1)), .int ((-1)), .int ((-1))])), (q9, .inr (0, [.int 0, .ref d0, .int 0])), (q12, .inr (6, [v15, .int 0])), (q33, .inr (3, [w036, w137, w238, .int 0, .int ((-1)), .int ((-1)), .int ((-1))]))] := hD
  have hK : va_K (dC, dI) vwCl [(t2, .object RX2)] s := hK
  refine W.widen (k := 23) (n := 855) (Nat.le_of_ble_eq_true rfl) (Nat.le_of_ble_eq_true rfl) ?_
  refine va_astq hx hb hK hP hD hS 1 0 5 3 rfl rfl rfl rfl (vp_in_nI (n := 2) (by decide) (by decide)) dX9_init_95 (fun H locs hP hD hS => ?_)
  have hP : va_P (dC, dI) vwCl [(h0, .inr (10, [.int a1, .int a2, .int a3, .ref a4, .ref q1, .ref q3, .ref q9, .ref q12, .int 1])), (q1, .inl (t2, 6, .inr (.inr (.inr (.inr ((va_up f31 2 (some q33)))))))), (q3, .inr (3, [w06, w17, w28, .int 0, .int ((-1)), .int ((-1)), .int ((-1))])), (q9, .inr (0, [.int 0, .ref d0, .int 0])), (q12, .inr (6, [v15, .int 0])), (q33, .inr (3, [w036, w137, w238, .int 0, .int ((-1)), .int ((-1)), .int ((-1))]))] H := hP
  have hD : va_D A [(h0, .inr (10, [.int a1, .int a2, .int a3, .ref a4, .ref q1, .ref q3, .ref q9, .ref q12, .int 1])), (q1, .inl (t2, 6, .inr (.inr (.inr (.inr ((va_up f31 2 (some q33)))))))), (q3, .inr (3, [w06, w17, w28, .int 0, .int ((-1)), .int ((-1)), .int ((-1))])), (q9, .inr (0, [.int 0, .ref d0, .int 0])), (q12, .inr (6, [v15, .int 0])), (q33, .inr (3, [w036, w137, w238, .int 0, .int ((-1)), .int ((-1)), .int ((-1))]))] := hD
  generalize (va_up f31 2 (some q33)) = f39 at hP hD
  have hP := hP.sub (ws' := [(h0, .inr (10, [.int a1, .int a2, .int a3, .ref a4, .ref q1, .ref q3, .ref q9, .ref q12, .int 1])), (q1, .inl (t2, 6, .inr (.inr (.inr (.inr f39))))), (q3, .inr (3, [w06, w17, w28, .int 0, .int ((-1)), .int ((-1)), .int ((-1))])), (q9, .inr (0, [.int 0, .ref d0, .int 0])), (q12, .inr (6, [v15, .int 0]))]) [0, 1, 2, 3, 4] rfl
  have hD := hD.sub (ws' := [(h0, .inr (10, [.int a1, .int a2, .int a3, .ref a4, .ref q1, .ref q3, .ref q9, .ref q12, .int 1])), (q1, .inl (t2, 6, .inr (.inr (.inr (.inr f39))))), (q3, .inr (3, [w06, w17, w28, .int 0, .int ((-1)), .int ((-1)), .int ((-1))])), (q9, .inr (0, [.int 0, .ref d0, .int 0])), (q12, .inr (6, [v15, .int 0]))]) [0, 1, 2, 3, 4] (by decide) rfl
  refine lv_iinc (v := 3) (lv' := [(5, .int 3), (0, .ref h0), (1, .int a1), (2, .int a2), (3, .int a3), (4, .ref a4)]) hx hb dX9_init_96 hl (k := 0) rfl (by decide) (by decide) rfl (fun ls hl => ?_)
  refine lv_goto (tgt := 75) hx hb dX9_init_99 (by decide) ?_
  refine lv_iload hx hb dX9_init_75 (lv_at hl 0 rfl) ?_
  refine lv_bipush (v := 6) hx hb dX9_init_77 (by decide) ?_
  refine lv_icmp_ge (tgt := 102) hx hb dX9_init_79 (by decide) (fun c40 => False.elim (by revert c40; decide)) (fun c40 => ?_)
  refine lv_aload_n hx hb dX9_init_82 rfl (lv_at hl 1 rfl) ?_
  refine va_get (D := (dC, dI)) (ci := 10) (v := .ref q1) (C := RX9) (T := TX9) (N := 9) hx hb ht inGX9 hown hK hP 0 rfl rfl 4 (by decide) (ht _ q1212) (fun _ h9 => h9) rfl dX9_init_83 ?_
  refine lv_iload hx hb dX9_init_86 (lv_at hl 0 rfl) ?_
  refine va_new (ci := 3) (fs := [.null, .null, .null, .int 0, .int 0, .int 0, .int 0]) (C := RX2) (T := TX2) (N := 7) hx hb ht inGX2 tyX2 tyX2_ok hown (ht _ q1202) (ht _ q253) (ht _ q131) hK hP hD hS hA rfl (fun j hj => by rcases (show j = 0 ∨ j = 1 ∨ j = 2 ∨ j = 3 ∨ j = 4 ∨ j = 5 ∨ j = 6 by omega) with rfl | rfl | rfl | rfl | rfl | rfl | rfl <;> rfl) (Nat.le_of_ble_eq_true rfl) (Nat.le_of_ble_eq_true rfl) dX9_init_88 (fun q41 H hP hD hS => ?_)
  have hP : va_P (dC, dI) vwCl [(h0, .inr (10, [.int a1, .int a2, .int a3, .ref a4, .ref q1, .ref q3, .ref q9, .ref q12, .int 1])), (q1, .inl (t2, 6, .inr (.inr (.inr (.inr f39))))), (q3, .inr (3, [w06, w17, w28, .int 0, .int ((-1)), .int ((-1)), .int ((-1))])), (q9, .inr (0, [.int 0, .ref d0, .int 0])), (q12, .inr (6, [v15, .int 0])), (q41, .inr (3, [.null, .null, .null, .int 0, .int 0, .int 0, .int 0]))] H := hP
  have hD : va_D A [(h0, .inr (10, [.int a1, .int a2, .int a3, .ref a4, .ref q1, .ref q3, .ref q9, .ref q12, .int 1])), (q1, .inl (t2, 6, .inr (.inr (.inr (.inr f39))))), (q3, .inr (3, [w06, w17, w28, .int 0, .int ((-1)), .int ((-1)), .int ((-1))])), (q9, .inr (0, [.int 0, .ref d0, .int 0])), (q12, .inr (6, [v15, .int 0])), (q41, .inr (3, [.null, .null, .null, .int 0, .int 0, .int 0, .int 0]))] := hD
  refine W.widen (k := 24) (n := 862) (Nat.le_of_ble_eq_true rfl) (Nat.le_of_ble_eq_true rfl) ?_
  refine lv_dup hx hb dX9_init_91 rfl ?_
  have hPc := hP.sub (ws' := [(q41, .inr (3, [.null, .null, .null, .int 0, .int 0, .int 0, .int 0]))]) [5] rfl
  have hDc := hD.sub (ws' := [(q41, .inr (3, [.null, .null, .null, .int 0, .int 0, .int 0, .int 0]))]) [5] (by decide) rfl
  have hKc := hK.sub (tys' := []) [] rfl
  have hFc := va_free (wc := [(q41, .inr (3, [.null, .null, .null, .int 0, .int 0, .int 0, .int 0]))]) hD hS hA [5] rfl
  refine va_callv (va_runIN (As := []) (rest := [.ref q41, .int 3, .ref q1]) ⟨hx, hb, hml, hown, ht⟩ (k_X2_init l d0 cO dC dI H.size q41 .null .null .null 0 0 0 0) (my_NI ht M_X2_init q255 rfl q1203 (Nat.le_of_ble_eq_true rfl) (Nat.le_of_ble_eq_true rfl)) ⟨PRE.fb, fun U hU hW => ⟨rfl, PRE.mk' hE hS hFc hPc hKc hDc U hU hW⟩⟩ rfl rfl hl.1 rfl (lv_room (Nat.le_of_ble_eq_true rfl)) dX9_init_92 ⟨(Nat.le_of_ble_eq_true rfl), (Nat.le_of_ble_eq_true rfl)⟩) hS (fun q _ h => hFc q h) hFc (fun u42 t H1 locs htt hvm hw hB hz1 hk1 hS => ?_)
  try dsimp only at hw hB
  obtain ⟨w044, w145, w246, hP1, hK1, hD1⟩ := hB
  rw [htt] at hP1
  have hK1 := va_K.moved hvm.symm hK1
  obtain ⟨hP, hD⟩ := va_join (wr := [(h0, .inr (10, [.int a1, .int a2, .int a3, .ref a4, .ref q1, .ref q3, .ref q9, .ref q12, .int 1])), (q1, .inl (t2, 6, .inr (.inr (.inr (.inr f39))))), (q3, .inr (3, [w06, w17, w28, .int 0, .int ((-1)), .int ((-1)), .int ((-1))])), (q9, .inr (0, [.int 0, .ref d0, .int 0])), (q12, .inr (6, [v15, .int 0]))]) (w1 := [(q41, .inr (3, [w044, w145, w246, .int 0, .int ((-1)), .int ((-1)), .int ((-1))]))]) hP hD [5] [0, 1, 2, 3, 4] rfl rfl (by decide) (by decide) hk1 hFc hP1 hD1
  have hK := (hK.sub (tys' := [(t2, .object RX2)]) [0] rfl).app hK1
  generalize H1 = H at hP hS ⊢
  have hP : va_P (dC, dI) vwCl [(h0, .inr (10, [.int a1, .int a2, .int a3, .ref a4, .ref q1, .ref q3, .ref q9, .ref q12, .int 1])), (q1, .inl (t2, 6, .inr (.inr (.inr (.inr f39))))), (q3, .inr (3, [w06, w17, w28, .int 0, .int ((-1)), .int ((-1)), .int ((-1))])), (q9, .inr (0, [.int 0, .ref d0, .int 0])), (q12, .inr (6, [v15, .int 0])), (q41, .inr (3, [w044, w145, w246, .int 0, .int ((-1)), .int ((-1)), .int ((-1))]))] H := hP
  have hD : va_D A [(h0, .inr (10, [.int a1, .int a2, .int a3, .ref a4, .ref q1, .ref q3, .ref q9, .ref q12, .int 1])), (q1, .inl (t2, 6, .inr (.inr (.inr (.inr f39))))), (q3, .inr (3, [w06, w17, w28, .int 0, .int ((-1)), .int ((-1)), .int ((-1))])), (q9, .inr (0, [.int 0, .ref d0, .int 0])), (q12, .inr (6, [v15, .int 0])), (q41, .inr (3, [w044, w145, w246, .int 0, .int ((-1)), .int ((-1)), .int ((-1))]))] := hD
  have hK : va_K (dC, dI) vwCl [(t2, .object RX2)] s := hK
  refine W.widen (k := 28) (n := 1066) (Nat.le_of_ble_eq_true rfl) (Nat.le_of_ble_eq_true rfl) ?_
  refine va_astq hx hb hK hP hD hS 1 0 5 3 rfl rfl rfl rfl (vp_in_nI (n := 3) (by decide) (by decide)) dX9_init_95 (fun H locs hP hD hS => ?_)
  have hP : va_P (dC, dI) vwCl [(h0, .inr (10, [.int a1, .int a2, .int a3, .ref a4, .ref q1, .ref q3, .ref q9, .ref q12, .int 1])), (q1, .inl (t2, 6, .inr (.inr (.inr (.inr ((va_up f39 3 (some q41)))))))), (q3, .inr (3, [w06, w17, w28, .int 0, .int ((-1)), .int ((-1)), .int ((-1))])), (q9, .inr (0, [.int 0, .ref d0, .int 0])), (q12, .inr (6, [v15, .int 0])), (q41, .inr (3, [w044, w145, w246, .int 0, .int ((-1)), .int ((-1)), .int ((-1))]))] H := hP
  have hD : va_D A [(h0, .inr (10, [.int a1, .int a2, .int a3, .ref a4, .ref q1, .ref q3, .ref q9, .ref q12, .int 1])), (q1, .inl (t2, 6, .inr (.inr (.inr (.inr ((va_up f39 3 (some q41)))))))), (q3, .inr (3, [w06, w17, w28, .int 0, .int ((-1)), .int ((-1)), .int ((-1))])), (q9, .inr (0, [.int 0, .ref d0, .int 0])), (q12, .inr (6, [v15, .int 0])), (q41, .inr (3, [w044, w145, w246, .int 0, .int ((-1)), .int ((-1)), .int ((-1))]))] := hD
  generalize (va_up f39 3 (some q41)) = f47 at hP hD
  have hP := hP.sub (ws' := [(h0, .inr (10, [.int a1, .int a2, .int a3, .ref a4, .ref q1, .ref q3, .ref q9, .ref q12, .int 1])), (q1, .inl (t2, 6, .inr (.inr (.inr (.inr f47))))), (q3, .inr (3, [w06, w17, w28, .int 0, .int ((-1)), .int ((-1)), .int ((-1))])), (q9, .inr (0, [.int 0, .ref d0, .int 0])), (q12, .inr (6, [v15, .int 0]))]) [0, 1, 2, 3, 4] rfl
  have hD := hD.sub (ws' := [(h0, .inr (10, [.int a1, .int a2, .int a3, .ref a4, .ref q1, .ref q3, .ref q9, .ref q12, .int 1])), (q1, .inl (t2, 6, .inr (.inr (.inr (.inr f47))))), (q3, .inr (3, [w06, w17, w28, .int 0, .int ((-1)), .int ((-1)), .int ((-1))])), (q9, .inr (0, [.int 0, .ref d0, .int 0])), (q12, .inr (6, [v15, .int 0]))]) [0, 1, 2, 3, 4] (by decide) rfl
  refine lv_iinc (v := 4) (lv' := [(5, .int 4), (0, .ref h0), (1, .int a1), (2, .int a2), (3, .int a3), (4, .ref a4)]) hx hb dX9_init_96 hl (k := 0) rfl (by decide) (by decide) rfl (fun ls hl => ?_)
  refine lv_goto (tgt := 75) hx hb dX9_init_99 (by decide) ?_
  refine lv_iload hx hb dX9_init_75 (lv_at hl 0 rfl) ?_
  refine lv_bipush (v := 6) hx hb dX9_init_77 (by decide) ?_
  refine lv_icmp_ge (tgt := 102) hx hb dX9_init_79 (by decide) (fun c48 => False.elim (by revert c48; decide)) (fun c48 => ?_)
  refine lv_aload_n hx hb dX9_init_82 rfl (lv_at hl 1 rfl) ?_
  refine va_get (D := (dC, dI)) (ci := 10) (v := .ref q1) (C := RX9) (T := TX9) (N := 9) hx hb ht inGX9 hown hK hP 0 rfl rfl 4 (by decide) (ht _ q1212) (fun _ h9 => h9) rfl dX9_init_83 ?_
  refine lv_iload hx hb dX9_init_86 (lv_at hl 0 rfl) ?_
  refine va_new (ci := 3) (fs := [.null, .null, .null, .int 0, .int 0, .int 0, .int 0]) (C := RX2) (T := TX2) (N := 7) hx hb ht inGX2 tyX2 tyX2_ok hown (ht _ q1202) (ht _ q253) (ht _ q131) hK hP hD hS hA rfl (fun j hj => by rcases (show j = 0 ∨ j = 1 ∨ j = 2 ∨ j = 3 ∨ j = 4 ∨ j = 5 ∨ j = 6 by omega) with rfl | rfl | rfl | rfl | rfl | rfl | rfl <;> rfl) (Nat.le_of_ble_eq_true rfl) (Nat.le_of_ble_eq_true rfl) dX9_init_88 (fun q49 H hP hD hS => ?_)
  have hP : va_P (dC, dI) vwCl [(h0, .inr (10, [.int a1, .int a2, .int a3, .ref a4, .ref q1, .ref q3, .ref q9, .ref q12, .int 1])), (q1, .inl (t2, 6, .inr (.inr (.inr (.inr f47))))), (q3, .inr (3, [w06, w17, w28, .int 0, .int ((-1)), .int ((-1)), .int ((-1))])), (q9, .inr (0, [.int 0, .ref d0, .int 0])), (q12, .inr (6, [v15, .int 0])), (q49, .inr (3, [.null, .null, .null, .int 0, .int 0, .int 0, .int 0]))] H := hP
  have hD : va_D A [(h0, .inr (10, [.int a1, .int a2, .int a3, .ref a4, .ref q1, .ref q3, .ref q9, .ref q12, .int 1])), (q1, .inl (t2, 6, .inr (.inr (.inr (.inr f47))))), (q3, .inr (3, [w06, w17, w28, .int 0, .int ((-1)), .int ((-1)), .int ((-1))])), (q9, .inr (0, [.int 0, .ref d0, .int 0])), (q12, .inr (6, [v15, .int 0])), (q49, .inr (3, [.null, .null, .null, .int 0, .int 0, .int 0, .int 0]))] := hD
  refine W.widen (k := 29) (n := 1073) (Nat.le_of_ble_eq_true rfl) (Nat.le_of_ble_eq_true rfl) ?_
  refine lv_dup hx hb dX9_init_91 rfl ?_
  have hPc := hP.sub (ws' := [(q49, .inr (3, [.null, .null, .null, .int 0, .int 0, .int 0, .int 0]))]) [5] rfl
  have hDc := hD.sub (ws' := [(q49, .inr (3, [.null, .null, .null, .int 0, .int 0, .int 0, .int 0]))]) [5] (by decide) rfl
  have hKc := hK.sub (tys' := []) [] rfl
  have hFc := va_free (wc := [(q49, .inr (3, [.null, .null, .null, .int 0, .int 0, .int 0, .int 0]))]) hD hS hA [5] rfl
  refine va_callv (va_runIN (As := []) (rest := [.ref q49, .int 4, .ref q1]) ⟨hx, hb, hml, hown, ht⟩ (k_X2_init l d0 cO dC dI H.size q49 .null .null .null 0 0 0 0) (my_NI ht M_X2_init q255 rfl q1203 (Nat.le_of_ble_eq_true rfl) (Nat.le_of_ble_eq_true rfl)) ⟨PRE.fb, fun U hU hW => ⟨rfl, PRE.mk' hE hS hFc hPc hKc hDc U hU hW⟩⟩ rfl rfl hl.1 rfl (lv_room (Nat.le_of_ble_eq_true rfl)) dX9_init_92 ⟨(Nat.le_of_ble_eq_true rfl), (Nat.le_of_ble_eq_true rfl)⟩) hS (fun q _ h => hFc q h) hFc (fun u50 t H1 locs htt hvm hw hB hz1 hk1 hS => ?_)
  try dsimp only at hw hB
  obtain ⟨w052, w153, w254, hP1, hK1, hD1⟩ := hB
  rw [htt] at hP1
  have hK1 := va_K.moved hvm.symm hK1
  obtain ⟨hP, hD⟩ := va_join (wr := [(h0, .inr (10, [.int a1, .int a2, .int a3, .ref a4, .ref q1, .ref q3, .ref q9, .ref q12, .int 1])), (q1, .inl (t2, 6, .inr (.inr (.inr (.inr f47))))), (q3, .inr (3, [w06, w17, w28, .int 0, .int ((-1)), .int ((-1)), .int ((-1))])), (q9, .inr (0, [.int 0, .ref d0, .int 0])), (q12, .inr (6, [v15, .int 0]))]) (w1 := [(q49, .inr (3, [w052, w153, w254, .int 0, .int ((-1)), .int ((-1)), .int ((-1))]))]) hP hD [5] [0, 1, 2, 3, 4] rfl rfl (by decide) (by decide) hk1 hFc hP1 hD1
  have hK := (hK.sub (tys' := [(t2, .object RX2)]) [0] rfl).app hK1
  generalize H1 = H at hP hS ⊢
  have hP : va_P (dC, dI) vwCl [(h0, .inr (10, [.int a1, .int a2, .int a3, .ref a4, .ref q1, .ref q3, .ref q9, .ref q12, .int 1])), (q1, .inl (t2, 6, .inr (.inr (.inr (.inr f47))))), (q3, .inr (3, [w06, w17, w28, .int 0, .int ((-1)), .int ((-1)), .int ((-1))])), (q9, .inr (0, [.int 0, .ref d0, .int 0])), (q12, .inr (6, [v15, .int 0])), (q49, .inr (3, [w052, w153, w254, .int 0, .int ((-1)), .int ((-1)), .int ((-1))]))] H := hP
  have hD : va_D A [(h0, .inr (10, [.int a1, .int a2, .int a3, .ref a4, .ref q1, .ref q3, .ref q9, .ref q12, .int 1])), (q1, .inl (t2, 6, .inr (.inr (.inr (.inr f47))))), (q3, .inr (3, [w06, w17, w28, .int 0, .int ((-1)), .int ((-1)), .int ((-1))])), (q9, .inr (0, [.int 0, .ref d0, .int 0])), (q12, .inr (6, [v15, .int 0])), (q49, .inr (3, [w052, w153, w254, .int 0, .int ((-1)), .int ((-1)), .int ((-1))]))] := hD
  have hK : va_K (dC, dI) vwCl [(t2, .object RX2)] s := hK
  refine W.widen (k := 33) (n := 1277) (Nat.le_of_ble_eq_true rfl) (Nat.le_of_ble_eq_true rfl) ?_
  refine va_astq hx hb hK hP hD hS 1 0 5 3 rfl rfl rfl rfl (vp_in_nI (n := 4) (by decide) (by decide)) dX9_init_95 (fun H locs hP hD hS => ?_)
  have hP : va_P (dC, dI) vwCl [(h0, .inr (10, [.int a1, .int a2, .int a3, .ref a4, .ref q1, .ref q3, .ref q9, .ref q12, .int 1])), (q1, .inl (t2, 6, .inr (.inr (.inr (.inr ((va_up f47 4 (some q49)))))))), (q3, .inr (3, [w06, w17, w28, .int 0, .int ((-1)), .int ((-1)), .int ((-1))])), (q9, .inr (0, [.int 0, .ref d0, .int 0])), (q12, .inr (6, [v15, .int 0])), (q49, .inr (3, [w052, w153, w254, .int 0, .int ((-1)), .int ((-1)), .int ((-1))]))] H := hP
  have hD : va_D A [(h0, .inr (10, [.int a1, .int a2, .int a3, .ref a4, .ref q1, .ref q3, .ref q9, .ref q12, .int 1])), (q1, .inl (t2, 6, .inr (.inr (.inr (.inr ((va_up f47 4 (some q49)))))))), (q3, .inr (3, [w06, w17, w28, .int 0, .int ((-1)), .int ((-1)), .int ((-1))])), (q9, .inr (0, [.int 0, .ref d0, .int 0])), (q12, .inr (6, [v15, .int 0])), (q49, .inr (3, [w052, w153, w254, .int 0, .int ((-1)), .int ((-1)), .int ((-1))]))] := hD
  generalize (va_up f47 4 (some q49)) = f55 at hP hD
  have hP := hP.sub (ws' := [(h0, .inr (10, [.int a1, .int a2, .int a3, .ref a4, .ref q1, .ref q3, .ref q9, .ref q12, .int 1])), (q1, .inl (t2, 6, .inr (.inr (.inr (.inr f55))))), (q3, .inr (3, [w06, w17, w28, .int 0, .int ((-1)), .int ((-1)), .int ((-1))])), (q9, .inr (0, [.int 0, .ref d0, .int 0])), (q12, .inr (6, [v15, .int 0]))]) [0, 1, 2, 3, 4] rfl
  have hD := hD.sub (ws' := [(h0, .inr (10, [.int a1, .int a2, .int a3, .ref a4, .ref q1, .ref q3, .ref q9, .ref q12, .int 1])), (q1, .inl (t2, 6, .inr (.inr (.inr (.inr f55))))), (q3, .inr (3, [w06, w17, w28, .int 0, .int ((-1)), .int ((-1)), .int ((-1))])), (q9, .inr (0, [.int 0, .ref d0, .int 0])), (q12, .inr (6, [v15, .int 0]))]) [0, 1, 2, 3, 4] (by decide) rfl
  refine lv_iinc (v := 5) (lv' := [(5, .int 5), (0, .ref h0), (1, .int a1), (2, .int a2), (3, .int a3), (4, .ref a4)]) hx hb dX9_init_96 hl (k := 0) rfl (by decide) (by decide) rfl (fun ls hl => ?_)
  refine lv_goto (tgt := 75) hx hb dX9_init_99 (by decide) ?_
  refine lv_iload hx hb dX9_init_75 (lv_at hl 0 rfl) ?_
  refine lv_bipush (v := 6) hx hb dX9_init_77 (by decide) ?_
  refine lv_icmp_ge (tgt := 102) hx hb dX9_init_79 (by decide) (fun c56 => False.elim (by revert c56; decide)) (fun c56 => ?_)
  refine lv_aload_n hx hb dX9_init_82 rfl (lv_at hl 1 rfl) ?_
  refine va_get (D := (dC, dI)) (ci := 10) (v := .ref q1) (C := RX9) (T := TX9) (N := 9) hx hb ht inGX9 hown hK hP 0 rfl rfl 4 (by decide) (ht _ q1212) (fun _ h9 => h9) rfl dX9_init_83 ?_
  refine lv_iload hx hb dX9_init_86 (lv_at hl 0 rfl) ?_
  refine va_new (ci := 3) (fs := [.null, .null, .null, .int 0, .int 0, .int 0, .int 0]) (C := RX2) (T := TX2) (N := 7) hx hb ht inGX2 tyX2 tyX2_ok hown (ht _ q1202) (ht _ q253) (ht _ q131) hK hP hD hS hA rfl (fun j hj => by rcases (show j = 0 ∨ j = 1 ∨ j = 2 ∨ j = 3 ∨ j = 4 ∨ j = 5 ∨ j = 6 by omega) with rfl | rfl | rfl | rfl | rfl | rfl | rfl <;> rfl) (Nat.le_of_ble_eq_true rfl) (Nat.le_of_ble_eq_true rfl) dX9_init_88 (fun q57 H hP hD hS => ?_)
  have hP : va_P (dC, dI) vwCl [(h0, .inr (10, [.int a1, .int a2, .int a3, .ref a4, .ref q1, .ref q3, .ref q9, .ref q12, .int 1])), (q1, .inl (t2, 6, .inr (.inr (.inr (.inr f55))))), (q3, .inr (3, [w06, w17, w28, .int 0, .int ((-1)), .int ((-1)), .int ((-1))])), (q9, .inr (0, [.int 0, .ref d0, .int 0])), (q12, .inr (6, [v15, .int 0])), (q57, .inr (3, [.null, .null, .null, .int 0, .int 0, .int 0, .int 0]))] H := hP
  have hD : va_D A [(h0, .inr (10, [.int a1, .int a2, .int a3, .ref a4, .ref q1, .ref q3, .ref q9, .ref q12, .int 1])), (q1, .inl (t2, 6, .inr (.inr (.inr (.inr f55))))), (q3, .inr (3, [w06, w17, w28, .int 0, .int ((-1)), .int ((-1)), .int ((-1))])), (q9, .inr (0, [.int 0, .ref d0, .int 0])), (q12, .inr (6, [v15, .int 0])), (q57, .inr (3, [.null, .null, .null, .int 0, .int 0, .int 0, .int 0]))] := hD
  refine W.widen (k := 34) (n := 1284) (Nat.le_of_ble_eq_true rfl) (Nat.le_of_ble_eq_true rfl) ?_
  refine lv_dup hx hb dX9_init_91 rfl ?_
  have hPc := hP.sub (ws' := [(q57, .inr (3, [.null, .null, .null, .int 0, .int 0, .int 0, .int 0]))]) [5] rfl
  have hDc := hD.sub (ws' := [(q57, .inr (3, [.null, .null, .null, .int 0, .int 0, .int 0, .int 0]))]) [5] (by decide) rfl
  have hKc := hK.sub (tys' := []) [] rfl
  have hFc := va_free (wc := [(q57, .inr (3, [.null, .null, .null, .int 0, .int 0, .int 0, .int 0]))]) hD hS hA [5] rfl
  refine va_callv (va_runIN (As := []) (rest := [.ref q57, .int 5, .ref q1]) ⟨hx, hb, hml, hown, ht⟩ (k_X2_init l d0 cO dC dI H.size q57 .null .null .null 0 0 0 0) (my_NI ht M_X2_init q255 rfl q1203 (Nat.le_of_ble_eq_true rfl) (Nat.le_of_ble_eq_true rfl)) ⟨PRE.fb, fun U hU hW => ⟨rfl, PRE.mk' hE hS hFc hPc hKc hDc U hU hW⟩⟩ rfl rfl hl.1 rfl (lv_room (Nat.le_of_ble_eq_true rfl)) dX9_init_92 ⟨(Nat.le_of_ble_eq_true rfl), (Nat.le_of_ble_eq_true rfl)⟩) hS (fun q _ h => hFc q h) hFc (fun u58 t H1 locs htt hvm hw hB hz1 hk1 hS => ?_)
  try dsimp only at hw hB
  obtain ⟨w060, w161, w262, hP1, hK1, hD1⟩ := hB
  rw [htt] at hP1
  have hK1 := va_K.moved hvm.symm hK1
  obtain ⟨hP, hD⟩ := va_join (wr := [(h0, .inr (10, [.int a1, .int a2, .int a3, .ref a4, .ref q1, .ref q3, .ref q9, .ref q12, .int 1])), (q1, .inl (t2, 6, .inr (.inr (.inr (.inr f55))))), (q3, .inr (3, [w06, w17, w28, .int 0, .int ((-1)), .int ((-1)), .int ((-1))])), (q9, .inr (0, [.int 0, .ref d0, .int 0])), (q12, .inr (6, [v15, .int 0]))]) (w1 := [(q57, .inr (3, [w060, w161, w262, .int 0, .int ((-1)), .int ((-1)), .int ((-1))]))]) hP hD [5] [0, 1, 2, 3, 4] rfl rfl (by decide) (by decide) hk1 hFc hP1 hD1
  have hK := (hK.sub (tys' := [(t2, .object RX2)]) [0] rfl).app hK1
  generalize H1 = H at hP hS ⊢
  have hP : va_P (dC, dI) vwCl [(h0, .inr (10, [.int a1, .int a2, .int a3, .ref a4, .ref q1, .ref q3, .ref q9, .ref q12, .int 1])), (q1, .inl (t2, 6, .inr (.inr (.inr (.inr f55))))), (q3, .inr (3, [w06, w17, w28, .int 0, .int ((-1)), .int ((-1)), .int ((-1))])), (q9, .inr (0, [.int 0, .ref d0, .int 0])), (q12, .inr (6, [v15, .int 0])), (q57, .inr (3, [w060, w161, w262, .int 0, .int ((-1)), .int ((-1)), .int ((-1))]))] H := hP
  have hD : va_D A [(h0, .inr (10, [.int a1, .int a2, .int a3, .ref a4, .ref q1, .ref q3, .ref q9, .ref q12, .int 1])), (q1, .inl (t2, 6, .inr (.inr (.inr (.inr f55))))), (q3, .inr (3, [w06, w17, w28, .int 0, .int ((-1)), .int ((-1)), .int ((-1))])), (q9, .inr (0, [.int 0, .ref d0, .int 0])), (q12, .inr (6, [v15, .int 0])), (q57, .inr (3, [w060, w161, w262, .int 0, .int ((-1)), .int ((-1)), .int ((-1))]))] := hD
  have hK : va_K (dC, dI) vwCl [(t2, .object RX2)] s := hK
  refine W.widen (k := 38) (n := 1488) (Nat.le_of_ble_eq_true rfl) (Nat.le_of_ble_eq_true rfl) ?_
  refine va_astq hx hb hK hP hD hS 1 0 5 3 rfl rfl rfl rfl (vp_in_nI (n := 5) (by decide) (by decide)) dX9_init_95 (fun H locs hP hD hS => ?_)
  have hP : va_P (dC, dI) vwCl [(h0, .inr (10, [.int a1, .int a2, .int a3, .ref a4, .ref q1, .ref q3, .ref q9, .ref q12, .int 1])), (q1, .inl (t2, 6, .inr (.inr (.inr (.inr ((va_up f55 5 (some q57)))))))), (q3, .inr (3, [w06, w17, w28, .int 0, .int ((-1)), .int ((-1)), .int ((-1))])), (q9, .inr (0, [.int 0, .ref d0, .int 0])), (q12, .inr (6, [v15, .int 0])), (q57, .inr (3, [w060, w161, w262, .int 0, .int ((-1)), .int ((-1)), .int ((-1))]))] H := hP
  have hD : va_D A [(h0, .inr (10, [.int a1, .int a2, .int a3, .ref a4, .ref q1, .ref q3, .ref q9, .ref q12, .int 1])), (q1, .inl (t2, 6, .inr (.inr (.inr (.inr ((va_up f55 5 (some q57)))))))), (q3, .inr (3, [w06, w17, w28, .int 0, .int ((-1)), .int ((-1)), .int ((-1))])), (q9, .inr (0, [.int 0, .ref d0, .int 0])), (q12, .inr (6, [v15, .int 0])), (q57, .inr (3, [w060, w161, w262, .int 0, .int ((-1)), .int ((-1)), .int ((-1))]))] := hD
  generalize (va_up f55 5 (some q57)) = f63 at hP hD
  have hP := hP.sub (ws' := [(h0, .inr (10, [.int a1, .int a2, .int a3, .ref a4, .ref q1, .ref q3, .ref q9, .ref q12, .int 1])), (q1, .inl (t2, 6, .inr (.inr (.inr (.inr f63))))), (q3, .inr (3, [w06, w17, w28, .int 0, .int ((-1)), .int ((-1)), .int ((-1))])), (q9, .inr (0, [.int 0, .ref d0, .int 0])), (q12, .inr (6, [v15, .int 0]))]) [0, 1, 2, 3, 4] rfl
  have hD := hD.sub (ws' := [(h0, .inr (10, [.int a1, .int a2, .int a3, .ref a4, .ref q1, .ref q3, .ref q9, .ref q12, .int 1])), (q1, .inl (t2, 6, .inr (.inr (.inr (.inr f63))))), (q3, .inr (3, [w06, w17, w28, .int 0, .int ((-1)), .int ((-1)), .int ((-1))])), (q9, .inr (0, [.int 0, .ref d0, .int 0])), (q12, .inr (6, [v15, .int 0]))]) [0, 1, 2, 3, 4] (by decide) rfl
  refine lv_iinc (v := 6) (lv' := [(5, .int 6), (0, .ref h0), (1, .int a1), (2, .int a2), (3, .int a3), (4, .ref a4)]) hx hb dX9_init_96 hl (k := 0) rfl (by decide) (by decide) rfl (fun ls hl => ?_)
  refine lv_goto (tgt := 75) hx hb dX9_init_99 (by decide) ?_
  refine lv_iload hx hb dX9_init_75 (lv_at hl 0 rfl) ?_
  refine lv_bipush (v := 6) hx hb dX9_init_77 (by decide) ?_
  refine lv_icmp_ge (tgt := 102) hx hb dX9_init_79 (by decide) (fun c64 => ?_) (fun c64 => False.elim (by revert c64; decide))
  have hP9 := hP.sub (ws' := [(h0, .inr (10, [.int a1, .int a2, .int a3, .ref a4, .ref q1, .ref q3, .ref q9, .ref q12, .int 1]))]) [0] rfl
  have hD9 := hD.sub (ws' := [(h0, .inr (10, [.int a1, .int a2, .int a3, .ref a4, .ref q1, .ref q3, .ref q9, .ref q12, .int 1]))]) [0] (by decide) rfl
  have hK9 := hK.sub (tys' := []) [] rfl
  refine W.widen (k := 38) (n := 1488) (Nat.le_of_ble_eq_true rfl) (Nat.le_of_ble_eq_true rfl) ?_
  exact W.vret hx hb hr (fun t ht9 hW9 => ⟨⟨(), rfl, trivial, ⟨.ref q1, .ref q3, .ref q9, .ref q12, POW.mk' ht9 hW9.alike hP9 hK9 hD9⟩⟩, hS.F ht9⟩) hS.2.2 dX9_init_102
set_option maxHeartbeats 4000000 in
set_option maxRecDepth 100000 in
theorem k_Jx4a65c_grow_92f84 (l : Launch) (d0 : Nat) (cO : ClassId) (dC : Nat → ClassId) (dI : Nat → Nat → Nat) (sz : Nat) (h0 : Nat) (mc : Int32) : Met l yJx4a65c_grow_92f84 (cn yJx4a65c_grow_92f84 cJx4a65c_grow_92f84 4 (some (FieldType.array (FieldType.object "java/lang/Object")))) (rmd 1 1 10) (va_Pc [.ref h0, .int 1] (PRE d0 cO (dC, dI) (va_A [(h0, .inr (0, [.int mc, .ref d0, .int 0]))] sz) [(h0, .inr (0, [.int mc, .ref d0, .int 0]))] [] sz)) (va_Qq (fun (r : Option Nat) (u : Nat) => r = some u) (fun (u : Nat) (t : State) => ∃ tO : ClassId, POW (dC, dI) (va_A [(h0, .inr (0, [.int mc, .ref d0, .int 0]))] sz) [(h0, .inr (0, [.int mc, .ref u, .int 0])), (u, .inl (tO, 10, .inr (.inr (.inr (.inr ((fun _ => none)))))))] [(tO, .object "java/lang/Object")] t) (va_A [(h0, .inr (0, [.int mc, .ref d0, .int 0]))] sz)) 1 10 (va_A [(h0, .inr (0, [.int mc, .ref d0, .int 0]))] sz) := by
  refine Met.ofW (cc := cJx4a65c_grow_92f84) (maxL := 4) (ret := (some (FieldType.array (FieldType.object "java/lang/Object")))) (by decide) rfl ?_
  intro p e s m args below meth c s₁ B hml hv
  obtain ⟨rfl, hsz, hE, hP, hK, hD0⟩ := hv
  have hx := B.exec
  have hb := B.bytes
  have hr := B.returns
  have hts := atoms_spec (ws := cn yJx4a65c_grow_92f84 cJx4a65c_grow_92f84 4 (some (FieldType.array (FieldType.object "java/lang/Object")))) B.pre
  have ht : ∀ w ∈ GT, w.before _ s = true := fun w h => hts w (List.mem_cons_of_mem _ h)
  have hown : s.vm.findClass RJx4a65c = some m.cls := findClass_of_methodNamed B.named
  have hlocks := B.notSynchronized
  subst hsz
  have hD := hD0.self (sz := s.heap.size)
  generalize hAe : va_A [(h0, .inr (0, [.int mc, .ref d0, .int 0]))] s.heap.size = A at hD hE ⊢
  have hA : ∀ q : Nat, s.heap.size ≤ q → A q := fun q h => by rw [← hAe]; exact Or.inr h
  obtain ⟨H, hH0⟩ : ∃ H, s.heap = H := ⟨_, rfl⟩
  have hS : va_S A s.heap H [] := by rw [← hH0]; exact va_S.rf
  rw [hH0] at hP
  have hl := lv_entry ([.ref h0, .int 1]) (n := 4) (Nat.le_of_ble_eq_true rfl)
  rw [lg_entry_eq]
  generalize (lg_sl ([.ref h0, .int 1]) ++ List.replicate (4 - (lg_sl ([.ref h0, .int 1])).length) Slot.unset).toArray = ls at hl ⊢
  have hl : lv_has ls 4 [(0, .ref h0), (1, .int 1)] := hl
  rw [hH0]
  refine lv_aload_n hx hb dJx4a65c_grow_92f84_0 rfl (lv_at hl 0 rfl) ?_
  refine va_get (D := (dC, dI)) (ci := 0) (v := .ref d0) (C := RJx4a65c) (T := TJx4a65c) (N := 3) hx hb ht inGJx4a65c hown hK hP 0 rfl rfl 1 (by decide) (ht _ q219) (fun _ h9 => h9) rfl dJx4a65c_grow_92f84_1 ?_
  refine va_tlen (v := 0) hx hb hE.2.2.1.2 hS rfl dJx4a65c_grow_92f84_4 ?_
  refine lv_istore_n (lv' := [(2, .int 0), (0, .ref h0), (1, .int 1)]) hx hb dJx4a65c_grow_92f84_5 rfl hl (by decide) rfl (fun ls hl => ?_)
  refine lv_iload_n hx hb dJx4a65c_grow_92f84_6 rfl (lv_at hl 0 rfl) ?_
  refine lv_if_gt (tgt := 20) hx hb dJx4a65c_grow_92f84_7 (by decide) (fun c1 => False.elim (by revert c1; decide)) (fun c1 => ?_)
  refine lv_aload_n hx hb dJx4a65c_grow_92f84_10 rfl (lv_at hl 1 rfl) ?_
  refine va_get (D := (dC, dI)) (ci := 0) (v := .ref d0) (C := RJx4a65c) (T := TJx4a65c) (N := 3) hx hb ht inGJx4a65c hown hK hP 0 rfl rfl 1 (by decide) (ht _ q219) (fun _ h9 => h9) rfl dJx4a65c_grow_92f84_11 ?_
  refine va_gets (v := .ref d0) hx hb hE.2.2.1.1 hS hown (ht _ q217) (fun _ h9 => h9) dJx4a65c_grow_92f84_14 ?_
  refine lv_acmp_eq (rx := some d0) (ry := some d0) (tgt := 45) hx hb dJx4a65c_grow_92f84_17 (by decide) (fun _ => ?_) (fun c => absurd rfl c)
  refine lv_aload_n hx hb dJx4a65c_grow_92f84_45 rfl (lv_at hl 1 rfl) ?_
  refine lv_bipush (v := 10) hx hb dJx4a65c_grow_92f84_46 (by decide) ?_
  refine lv_iload_n hx hb dJx4a65c_grow_92f84_48 rfl (lv_at hl 2 rfl) ?_
  refine va_mmax hx hb (by rw [hml]; exact hl.1.symm) hown (ht _ q832) (ht _ q520) (ht _ q145) (ht _ q521) (Nat.le_of_ble_eq_true rfl) (Nat.le_of_ble_eq_true rfl) (Nat.le_of_ble_eq_true rfl) (Nat.le_of_ble_eq_true rfl) dJx4a65c_grow_92f84_49 ?_
  refine lv_topi (fun x2 ex2 => ?_)
  obtain rfl : x2 = 10 := ex2.trans (by decide)
  refine va_newq (C := "java/lang/Object") (N' := 10) hx hb hown (ht _ q833) (hE.1.2.2.2.2.2) hK hP hD hS hA (by decide) (by decide) (by decide) (Nat.le_of_ble_eq_true rfl) (Nat.le_of_ble_eq_true rfl) dJx4a65c_grow_92f84_52 (fun q3 t4 H hK hP hD hS => ?_)
  have hK : va_K (dC, dI) vwCl [(t4, .object "java/lang/Object")] s := hK
  have hP : va_P (dC, dI) vwCl [(h0, .inr (0, [.int mc, .ref d0, .int 0])), (q3, .inl (t4, 10, .inr (.inr (.inr (.inr ((fun _ => none)))))))] H := hP
  have hD : va_D A [(h0, .inr (0, [.int mc, .ref d0, .int 0])), (q3, .inl (t4, 10, .inr (.inr (.inr (.inr ((fun _ => none)))))))] := hD
  refine W.widen (k := 1) (n := 10) (Nat.le_of_ble_eq_true rfl) (Nat.le_of_ble_eq_true rfl) ?_
  refine lv_dup_x1 hx hb dJx4a65c_grow_92f84_55 rfl rfl ?_
  refine va_put (D := (dC, dI)) (ci := 0) (v := .ref q3) (ty := .array (.object "java/lang/Object")) (C := RJx4a65c) (T := TJx4a65c) (N := 3) hx hb ht inGJx4a65c tyJx4a65c tyJx4a65c_ok nmJx4a65c hown hK hP hD hS 0 rfl rfl 1 (by decide) (ht _ q219) (fun _ h9 => h9) rfl (by decide +kernel) rfl rfl (Nat.le_of_ble_eq_true rfl) dJx4a65c_grow_92f84_56 (fun H locs hP hD hS => ?_)
  have hP : va_P (dC, dI) vwCl [(h0, .inr (0, [.int mc, .ref q3, .int 0])), (q3, .inl (t4, 10, .inr (.inr (.inr (.inr ((fun _ => none)))))))] H := hP
  have hD : va_D A [(h0, .inr (0, [.int mc, .ref q3, .int 0])), (q3, .inl (t4, 10, .inr (.inr (.inr (.inr ((fun _ => none)))))))] := hD
  have hP9 := hP.sub (ws' := [(h0, .inr (0, [.int mc, .ref q3, .int 0])), (q3, .inl (t4, 10, .inr (.inr (.inr (.inr ((fun _ => none)))))))]) [0, 1] rfl
  have hD9 := hD.sub (ws' := [(h0, .inr (0, [.int mc, .ref q3, .int 0])), (q3, .inl (t4, 10, .inr (.inr (.inr (.inr ((fun _ => none)))))))]) [0, 1] (by decide) rfl
  have hK9 := hK.sub (tys' := [(t4, .object "java/lang/Object")]) [0] rfl
  refine W.widen (k := 1) (n := 10) (Nat.le_of_ble_eq_true rfl) (Nat.le_of_ble_eq_true rfl) ?_
  exact W.aret (v := .ref q3) hx hb hr (by first | exact Or.inl ⟨_, rfl⟩ | exact Or.inr ⟨_, rfl⟩) (by first | exact Or.inl rfl | exact Or.inr ⟨_, rfl⟩) (fun t ht9 hW9 => ⟨⟨some q3, q3, rfl, rfl, ⟨t4, POW.mk' ht9 hW9.alike hP9 hK9 hD9⟩⟩, hS.F ht9⟩) hS.2.2 dJx4a65c_grow_92f84_59
set_option maxHeartbeats 4000000 in
set_option maxRecDepth 100000 in
theorem k_Jx4a65c_grow_d5877 (l : Launch) (d0 : Nat) (cO : ClassId) (dC : Nat → ClassId) (dI : Nat → Nat → Nat) (sz : Nat) (h0 : Nat) (mc : Int32) : Met l yJx4a65c_grow_d5877 (cn yJx4a65c_grow_d5877 cJx4a65c_grow_d5877 1 (some (FieldType.array (FieldType.object "java/lang/Object")))) (rmd 2 1 10) (va_Pc [.ref h0] (PRE d0 cO (dC, dI) (va_A [(h0, .inr (0, [.int mc, .ref d0, .int 0]))] sz) [(h0, .inr (0, [.int mc, .ref d0, .int 0]))] [] sz)) (va_Qq (fun (r : Option Nat) (u : Nat) => r = some u) (fun (u : Nat) (t : State) => ∃ tO : ClassId, POW (dC, dI) (va_A [(h0, .inr (0, [.int mc, .ref d0, .int 0]))] sz) [(h0, .inr (0, [.int mc, .ref u, .int 0])), (u, .inl (tO, 10, .inr (.inr (.inr (.inr ((fun _ => none)))))))] [(tO, .object "java/lang/Object")] t) (va_A [(h0, .inr (0, [.int mc, .ref d0, .int 0]))] sz)) 1 10 (va_A [(h0, .inr (0, [.int mc, .ref d0, .int 0]))] sz) := by
  refine Met.ofW (cc := cJx4a65c_grow_d5877) (maxL := 1) (ret := (some (FieldType.array (FieldType.object "java/lang/Object")))) (by decide) rfl ?_
  intro p e s m args below meth c s₁ B hml hv
  obtain ⟨rfl, hsz, hE, hP, hK, hD0⟩ := hv
  have hx := B.exec
  have hb := B.bytes
  have hr := B.returns
  have hts := atoms_spec (ws := cn yJx4a65c_grow_d5877 cJx4a65c_grow_d5877 1 (some (FieldType.array (FieldType.object "java/lang/Object")))) B.pre
  have ht : ∀ w ∈ GT, w.before _ s = true := fun w h => hts w (List.mem_cons_of_mem _ h)
  have hown : s.vm.findClass RJx4a65c = some m.cls := findClass_of_methodNamed B.named
  have hlocks := B.notSynchronized
  subst hsz
  have hD := hD0.self (sz := s.heap.size)
  generalize hAe : va_A [(h0, .inr (0, [.int mc, .ref d0, .int 0]))] s.heap.size = A at hD hE ⊢
  have hA : ∀ q : Nat, s.heap.size ≤ q → A q := fun q h => by rw [← hAe]; exact Or.inr h
  obtain ⟨H, hH0⟩ : ∃ H, s.heap = H := ⟨_, rfl⟩
  have hS : va_S A s.heap H [] := by rw [← hH0]; exact va_S.rf
  rw [hH0] at hP
  have hl := lv_entry ([.ref h0]) (n := 1) (Nat.le_of_ble_eq_true rfl)
  rw [lg_entry_eq]
  generalize (lg_sl ([.ref h0]) ++ List.replicate (1 - (lg_sl ([.ref h0])).length) Slot.unset).toArray = ls at hl ⊢
  have hl : lv_has ls 1 [(0, .ref h0)] := hl
  rw [hH0]
  refine lv_aload_n hx hb dJx4a65c_grow_d5877_0 rfl (lv_at hl 0 rfl) ?_
  refine lv_aload_n hx hb dJx4a65c_grow_d5877_1 rfl (lv_at hl 0 rfl) ?_
  refine va_get (D := (dC, dI)) (ci := 0) (v := .int 0) (C := RJx4a65c) (T := TJx4a65c) (N := 3) hx hb ht inGJx4a65c hown hK hP 0 rfl rfl 2 (by decide) (ht _ q220) (fun _ h9 => h9) rfl dJx4a65c_grow_d5877_2 ?_
  refine lv_iconst (v := 1) hx hb dJx4a65c_grow_d5877_5 (by decide) ?_
  refine lv_iadd hx hb dJx4a65c_grow_d5877_6 ?_
  refine lv_topi (fun x1 ex1 => ?_)
  obtain rfl : x1 = 1 := ex1.trans (by decide)
  have hPc := hP.sub (ws' := [(h0, .inr (0, [.int mc, .ref d0, .int 0]))]) [0] rfl
  have hDc := hD.sub (ws' := [(h0, .inr (0, [.int mc, .ref d0, .int 0]))]) [0] (by decide) rfl
  have hKc := hK.sub (tys' := []) [] rfl
  have hFc := va_free (wc := [(h0, .inr (0, [.int mc, .ref d0, .int 0]))]) hD hS hA [0] rfl
  refine va_callq (va_runV (As := [.int 1]) (rest := []) ⟨hx, hb, hml, hown, ht⟩ (k_Jx4a65c_grow_92f84 l d0 cO dC dI H.size h0 mc) (my_V ht M_Jx4a65c_grow_92f84 q792 q17 q790 (Nat.le_of_ble_eq_true rfl) (Nat.le_of_ble_eq_true rfl)) ⟨PRE.fb, va_recv hK hP (ci := 0) (q0 := 0) rfl rfl, fun U hU hW => ⟨rfl, PRE.mk' hE hS hFc hPc hKc hDc U hU hW⟩⟩ rfl rfl hl.1 rfl (lv_room (Nat.le_of_ble_eq_true rfl)) dJx4a65c_grow_d5877_7 ⟨(Nat.le_of_ble_eq_true rfl), (Nat.le_of_ble_eq_true rfl)⟩) hS (fun q _ h => hFc q h) hFc (fun r3 u2 t H1 locs htt hvm hw hB hz1 hk1 hS => ?_)
  obtain ⟨q4, rfl⟩ : ∃ z, z = u2 := ⟨_, rfl⟩
  try dsimp only at hw hB
  obtain ⟨tO5, hP1, hK1, hD1⟩ := hB
  rw [htt] at hP1
  have hK1 := va_K.moved hvm.symm hK1
  obtain ⟨hP, hD⟩ := va_join (wr := []) (w1 := [(h0, .inr (0, [.int mc, .ref q4, .int 0])), (q4, .inl (tO5, 10, .inr (.inr (.inr (.inr ((fun _ => none)))))))]) hP hD [0] [] rfl rfl (by decide) (by decide) hk1 hFc hP1 hD1
  have hK := (hK.sub (tys' := []) [] rfl).app hK1
  generalize H1 = H at hP hS ⊢
  have hP : va_P (dC, dI) vwCl [(h0, .inr (0, [.int mc, .ref q4, .int 0])), (q4, .inl (tO5, 10, .inr (.inr (.inr (.inr ((fun _ => none)))))))] H := hP
  have hD : va_D A [(h0, .inr (0, [.int mc, .ref q4, .int 0])), (q4, .inl (tO5, 10, .inr (.inr (.inr (.inr ((fun _ => none)))))))] := hD
  have hK : va_K (dC, dI) vwCl [(tO5, .object "java/lang/Object")] s := hK
  refine W.widen (k := 1) (n := 10) (Nat.le_of_ble_eq_true rfl) (Nat.le_of_ble_eq_true rfl) ?_
  subst hw
  refine W.eq (g2 := F0 m 10 ls [.ref q4]) rfl ?_
  have hP9 := hP.sub (ws' := [(h0, .inr (0, [.int mc, .ref q4, .int 0])), (q4, .inl (tO5, 10, .inr (.inr (.inr (.inr ((fun _ => none)))))))]) [0, 1] rfl
  have hD9 := hD.sub (ws' := [(h0, .inr (0, [.int mc, .ref q4, .int 0])), (q4, .inl (tO5, 10, .inr (.inr (.inr (.inr ((fun _ => none)))))))]) [0, 1] (by decide) rfl
  have hK9 := hK.sub (tys' := [(tO5, .object "java/lang/Object")]) [0] rfl
  refine W.widen (k := 1) (n := 10) (Nat.le_of_ble_eq_true rfl) (Nat.le_of_ble_eq_true rfl) ?_
  exact W.aret (v := .ref q4) hx hb hr (by first | exact Or.inl ⟨_, rfl⟩ | exact Or.inr ⟨_, rfl⟩) (by first | exact Or.inl rfl | exact Or.inr ⟨_, rfl⟩) (fun t ht9 hW9 => ⟨⟨some q4, q4, rfl, rfl, ⟨tO5, POW.mk' ht9 hW9.alike hP9 hK9 hD9⟩⟩, hS.F ht9⟩) hS.2.2 dJx4a65c_grow_d5877_10
set_option maxHeartbeats 4000000 in
set_option maxRecDepth 100000 in
theorem k_Jx4a65c_add_72be8 (l : Launch) (d0 : Nat) (cO : ClassId) (dC : Nat → ClassId) (dI : Nat → Nat → Nat) (sz : Nat) (h0 : Nat) (mc : Int32) (sv : Nat) (s0 s1 s2 s8 : Int32) (s3 s4 s5 s6 s7 : Value) : Met l yJx4a65c_add_72be8 (cn yJx4a65c_add_72be8 cJx4a65c_add_72be8 4 none) (rmd 3 1 10) (va_Pc [.ref h0, .ref sv, .ref d0, .int 0] (PRE d0 cO (dC, dI) (va_A [(h0, .inr (0, [.int mc, .ref d0, .int 0])), (sv, .inr (10, [.int s0, .int s1, .int s2, s3, s4, s5, s6, s7, .int s8]))] sz) [(h0, .inr (0, [.int mc, .ref d0, .int 0])), (sv, .inr (10, [.int s0, .int s1, .int s2, s3, s4, s5, s6, s7, .int s8]))] [] sz)) (va_Qv (fun (_ : Unit) => True) (fun (_ : Unit) (t : State) => POW (dC, dI) (va_A [(h0, .inr (0, [.int mc, .ref d0, .int 0])), (sv, .inr (10, [.int s0, .int s1, .int s2, s3, s4, s5, s6, s7, .int s8]))] sz) [] [] t) (va_A [(h0, .inr (0, [.int mc, .ref d0, .int 0])), (sv, .inr (10, [.int s0, .int s1, .int s2, s3, s4, s5, s6, s7, .int s8]))] sz)) 1 10 (va_A [(h0, .inr (0, [.int mc, .ref d0, .int 0])), (sv, .inr (10, [.int s0, .int s1, .int s2, s3, s4, s5, s6, s7, .int s8]))] sz) := by
  refine Met.ofW (cc := cJx4a65c_add_72be8) (maxL := 4) (ret := none) (by decide) rfl ?_
  intro p e s m args below meth c s₁ B hml hv
  obtain ⟨rfl, hsz, hE, hP, hK, hD0⟩ := hv
  have hx := B.exec
  have hb := B.bytes
  have hr := B.returns
  have hts := atoms_spec (ws := cn yJx4a65c_add_72be8 cJx4a65c_add_72be8 4 none) B.pre
  have ht : ∀ w ∈ GT, w.before _ s = true := fun w h => hts w (List.mem_cons_of_mem _ h)
  have hown : s.vm.findClass RJx4a65c = some m.cls := findClass_of_methodNamed B.named
  have hlocks := B.notSynchronized
  subst hsz
  have hD := hD0.self (sz := s.heap.size)
  generalize hAe : va_A [(h0, .inr (0, [.int mc, .ref d0, .int 0])), (sv, .inr (10, [.int s0, .int s1, .int s2, s3, s4, s5, s6, s7, .int s8]))] s.heap.size = A at hD hE ⊢
  have hA : ∀ q : Nat, s.heap.size ≤ q → A q := fun q h => by rw [← hAe]; exact Or.inr h
  obtain ⟨H, hH0⟩ : ∃ H, s.heap = H := ⟨_, rfl⟩
  have hS : va_S A s.heap H [] := by rw [← hH0]; exact va_S.rf
  rw [hH0] at hP
  have hl := lv_entry ([.ref h0, .ref sv, .ref d0, .int 0]) (n := 4) (Nat.le_of_ble_eq_true rfl)
  rw [lg_entry_eq]
  generalize (lg_sl ([.ref h0, .ref sv, .ref d0, .int 0]) ++ List.replicate (4 - (lg_sl ([.ref h0, .ref sv, .ref d0, .int 0])).length) Slot.unset).toArray = ls at hl ⊢
  have hl : lv_has ls 4 [(0, .ref h0), (1, .ref sv), (2, .ref d0), (3, .int 0)] := hl
  rw [hH0]
  refine lv_iload_n hx hb dJx4a65c_add_72be8_0 rfl (lv_at hl 3 rfl) ?_
  refine lv_aload_n hx hb dJx4a65c_add_72be8_1 rfl (lv_at hl 2 rfl) ?_
  refine va_tlen (v := 0) hx hb hE.2.2.1.2 hS rfl dJx4a65c_add_72be8_2 ?_
  refine lv_icmp_ne (tgt := 11) hx hb dJx4a65c_add_72be8_3 (by decide) (fun c1 => False.elim (by revert c1; decide)) (fun c1 => ?_)
  refine lv_aload_n hx hb dJx4a65c_add_72be8_6 rfl (lv_at hl 0 rfl) ?_
  have hPc := hP.sub (ws' := [(h0, .inr (0, [.int mc, .ref d0, .int 0]))]) [0] rfl
  have hDc := hD.sub (ws' := [(h0, .inr (0, [.int mc, .ref d0, .int 0]))]) [0] (by decide) rfl
  have hKc := hK.sub (tys' := []) [] rfl
  have hFc := va_free (wc := [(h0, .inr (0, [.int mc, .ref d0, .int 0]))]) hD hS hA [0] rfl
  refine va_callq (va_runV (As := []) (rest := []) ⟨hx, hb, hml, hown, ht⟩ (k_Jx4a65c_grow_d5877 l d0 cO dC dI H.size h0 mc) (my_V ht M_Jx4a65c_grow_d5877 q788 q16 q786 (Nat.le_of_ble_eq_true rfl) (Nat.le_of_ble_eq_true rfl)) ⟨PRE.fb, va_recv hK hP (ci := 0) (q0 := 0) rfl rfl, fun U hU hW => ⟨rfl, PRE.mk' hE hS hFc hPc hKc hDc U hU hW⟩⟩ rfl rfl hl.1 rfl (lv_room (Nat.le_of_ble_eq_true rfl)) dJx4a65c_add_72be8_7 ⟨(Nat.le_of_ble_eq_true rfl), (Nat.le_of_ble_eq_true rfl)⟩) hS (fun q _ h => hFc q h) hFc (fun r3 u2 t H1 locs htt hvm hw hB hz1 hk1 hS => ?_)
  obtain ⟨q4, rfl⟩ : ∃ z, z = u2 := ⟨_, rfl⟩
  try dsimp only at hw hB
  obtain ⟨tO5, hP1, hK1, hD1⟩ := hB
  rw [htt] at hP1
  have hK1 := va_K.moved hvm.symm hK1
  obtain ⟨hP, hD⟩ := va_join (wr := [(sv, .inr (10, [.int s0, .int s1, .int s2, s3, s4, s5, s6, s7, .int s8]))]) (w1 := [(h0, .inr (0, [.int mc, .ref q4, .int 0])), (q4, .inl (tO5, 10, .inr (.inr (.inr (.inr ((fun _ => none)))))))]) hP hD [0] [1] rfl rfl (by decide) (by decide) hk1 hFc hP1 hD1
  have hK := (hK.sub (tys' := []) [] rfl).app hK1
  generalize H1 = H at hP hS ⊢
  have hP : va_P (dC, dI) vwCl [(sv, .inr (10, [.int s0, .int s1, .int s2, s3, s4, s5, s6, s7, .int s8])), (h0, .inr (0, [.int mc, .ref q4, .int 0])), (q4, .inl (tO5, 10, .inr (.inr (.inr (.inr ((fun _ => none)))))))] H := hP
  have hD : va_D A [(sv, .inr (10, [.int s0, .int s1, .int s2, s3, s4, s5, s6, s7, .int s8])), (h0, .inr (0, [.int mc, .ref q4, .int 0])), (q4, .inl (tO5, 10, .inr (.inr (.inr (.inr ((fun _ => none)))))))] := hD
  have hK : va_K (dC, dI) vwCl [(tO5, .object "java/lang/Object")] s := hK
  refine W.widen (k := 1) (n := 10) (Nat.le_of_ble_eq_true rfl) (Nat.le_of_ble_eq_true rfl) ?_
  subst hw
  refine W.eq (g2 := F0 m 10 ls [.ref q4]) rfl ?_
  refine lv_astore_n (lv' := [(2, .ref q4), (0, .ref h0), (1, .ref sv), (3, .int 0)]) hx hb dJx4a65c_add_72be8_10 rfl hl (by decide) rfl (fun ls hl => ?_)
  refine lv_aload_n hx hb dJx4a65c_add_72be8_11 rfl (lv_at hl 0 rfl) ?_
  refine lv_iload_n hx hb dJx4a65c_add_72be8_12 rfl (lv_at hl 3 rfl) ?_
  refine lv_aload_n hx hb dJx4a65c_add_72be8_13 rfl (lv_at hl 2 rfl) ?_
  refine va_astqO hx hb hK hP hD hS 2 0 0 10 (r := vwCl[10]) rfl rfl (va_Nw.of rfl (ht _ q2416)) rfl rfl (vp_in_nI (n := 0) (by decide) (by decide)) dJx4a65c_add_72be8_14 (fun H locs hP hD hS => ?_)
  have hP : va_P (dC, dI) vwCl [(sv, .inr (10, [.int s0, .int s1, .int s2, s3, s4, s5, s6, s7, .int s8])), (h0, .inr (0, [.int mc, .ref q4, .int 0])), (q4, .inl (tO5, 10, .inr (.inr (.inr (.inr ((va_up (fun _ => none) 0 (some sv))))))))] H := hP
  have hD : va_D A [(sv, .inr (10, [.int s0, .int s1, .int s2, s3, s4, s5, s6, s7, .int s8])), (h0, .inr (0, [.int mc, .ref q4, .int 0])), (q4, .inl (tO5, 10, .inr (.inr (.inr (.inr ((va_up (fun _ => none) 0 (some sv))))))))] := hD
  refine lv_aload_n hx hb dJx4a65c_add_72be8_15 rfl (lv_at hl 1 rfl) ?_
  refine lv_iload_n hx hb dJx4a65c_add_72be8_16 rfl (lv_at hl 3 rfl) ?_
  refine lv_iconst (v := 1) hx hb dJx4a65c_add_72be8_17 (by decide) ?_
  refine lv_iadd hx hb dJx4a65c_add_72be8_18 ?_
  refine lv_topi (fun x6 ex6 => ?_)
  obtain rfl : x6 = 1 := ex6.trans (by decide)
  refine va_put (D := (dC, dI)) (ci := 0) (v := .int 1) (ty := .int) (C := RJx4a65c) (T := TJx4a65c) (N := 3) hx hb ht inGJx4a65c tyJx4a65c tyJx4a65c_ok nmJx4a65c hown hK hP hD hS 1 rfl rfl 2 (by decide) (ht _ q220) (fun _ h9 => h9) rfl (by decide +kernel) rfl rfl (Nat.le_of_ble_eq_true rfl) dJx4a65c_add_72be8_19 (fun H locs hP hD hS => ?_)
  have hP : va_P (dC, dI) vwCl [(sv, .inr (10, [.int s0, .int s1, .int s2, s3, s4, s5, s6, s7, .int s8])), (h0, .inr (0, [.int mc, .ref q4, .int 1])), (q4, .inl (tO5, 10, .inr (.inr (.inr (.inr ((va_up (fun _ => none) 0 (some sv))))))))] H := hP
  have hD : va_D A [(sv, .inr (10, [.int s0, .int s1, .int s2, s3, s4, s5, s6, s7, .int s8])), (h0, .inr (0, [.int mc, .ref q4, .int 1])), (q4, .inl (tO5, 10, .inr (.inr (.inr (.inr ((va_up (fun _ => none) 0 (some sv))))))))] := hD
  have hP9 := hP.sub (ws' := []) [] rfl
  have hD9 := hD.sub (ws' := []) [] (by decide) rfl
  have hK9 := hK.sub (tys' := []) [] rfl
  refine W.widen (k := 1) (n := 10) (Nat.le_of_ble_eq_true rfl) (Nat.le_of_ble_eq_true rfl) ?_
  exact W.vret hx hb hr (fun t ht9 hW9 => ⟨⟨(), rfl, trivial, POW.mk' ht9 hW9.alike hP9 hK9 hD9⟩, hS.F ht9⟩) hS.2.2 dJx4a65c_add_72be8_22
set_option maxHeartbeats 4000000 in
set_option maxRecDepth 100000 in
theorem k_Jx4a65c_add_9ea2d (l : Launch) (d0 : Nat) (cO : ClassId) (dC : Nat → ClassId) (dI : Nat → Nat → Nat) (sz : Nat) (h0 : Nat) (mc : Int32) (sv : Nat) (s0 s1 s2 s8 : Int32) (s3 s4 s5 s6 s7 : Value) : Met l yJx4a65c_add_9ea2d (cn yJx4a65c_add_9ea2d cJx4a65c_add_9ea2d 2 (some FieldType.boolean)) (rmd 4 1 10) (va_Pc [.ref h0, .ref sv] (PRE d0 cO (dC, dI) (va_A [(h0, .inr (0, [.int mc, .ref d0, .int 0])), (sv, .inr (10, [.int s0, .int s1, .int s2, s3, s4, s5, s6, s7, .int s8]))] sz) [(h0, .inr (0, [.int mc, .ref d0, .int 0])), (sv, .inr (10, [.int s0, .int s1, .int s2, s3, s4, s5, s6, s7, .int s8]))] [] sz)) (va_Qi (fun (r : Int32) (_ : Unit) => True) (fun (_ : Unit) (t : State) => POW (dC, dI) (va_A [(h0, .inr (0, [.int mc, .ref d0, .int 0])), (sv, .inr (10, [.int s0, .int s1, .int s2, s3, s4, s5, s6, s7, .int s8]))] sz) [] [] t) (va_A [(h0, .inr (0, [.int mc, .ref d0, .int 0])), (sv, .inr (10, [.int s0, .int s1, .int s2, s3, s4, s5, s6, s7, .int s8]))] sz)) 1 10 (va_A [(h0, .inr (0, [.int mc, .ref d0, .int 0])), (sv, .inr (10, [.int s0, .int s1, .int s2, s3, s4, s5, s6, s7, .int s8]))] sz) := by
  refine Met.ofW (cc := cJx4a65c_add_9ea2d) (maxL := 2) (ret := (some FieldType.boolean)) (by decide) rfl ?_
  intro p e s m args below meth c s₁ B hml hv
  obtain ⟨rfl, hsz, hE, hP, hK, hD0⟩ := hv
  have hx := B.exec
  have hb := B.bytes
  have hr := B.returns
  have hts := atoms_spec (ws := cn yJx4a65c_add_9ea2d cJx4a65c_add_9ea2d 2 (some FieldType.boolean)) B.pre
  have ht : ∀ w ∈ GT, w.before _ s = true := fun w h => hts w (List.mem_cons_of_mem _ h)
  have hown : s.vm.findClass RJx4a65c = some m.cls := findClass_of_methodNamed B.named
  have hlocks := B.notSynchronized
  subst hsz
  have hD := hD0.self (sz := s.heap.size)
  generalize hAe : va_A [(h0, .inr (0, [.int mc, .ref d0, .int 0])), (sv, .inr (10, [.int s0, .int s1, .int s2, s3, s4, s5, s6, s7, .int s8]))] s.heap.size = A at hD hE ⊢
  have hA : ∀ q : Nat, s.heap.size ≤ q → A q := fun q h => by rw [← hAe]; exact Or.inr h
  obtain ⟨H, hH0⟩ : ∃ H, s.heap = H := ⟨_, rfl⟩
  have hS : va_S A s.heap H [] := by rw [← hH0]; exact va_S.rf
  rw [hH0] at hP
  have hl := lv_entry ([.ref h0, .ref sv]) (n := 2) (Nat.le_of_ble_eq_true rfl)
  rw [lg_entry_eq]
  generalize (lg_sl ([.ref h0, .ref sv]) ++ List.replicate (2 - (lg_sl ([.ref h0, .ref sv])).length) Slot.unset).toArray = ls at hl ⊢
  have hl : lv_has ls 2 [(0, .ref h0), (1, .ref sv)] := hl
  rw [hH0]
  refine lv_aload_n hx hb dJx4a65c_add_9ea2d_0 rfl (lv_at hl 0 rfl) ?_
  refine lv_dup hx hb dJx4a65c_add_9ea2d_1 rfl ?_
  refine va_get (D := (dC, dI)) (ci := 0) (v := .int mc) (C := RJx4a65c) (T := TJx4a65c) (N := 3) hx hb ht inGJx4a65c hown hK hP 0 rfl rfl 0 (by decide) (ht _ q222) (fun x9 h9 => u_same (ht _ q223) x9 h9) rfl dJx4a65c_add_9ea2d_2 ?_
  refine lv_iconst (v := 1) hx hb dJx4a65c_add_9ea2d_5 (by decide) ?_
  refine lv_iadd hx hb dJx4a65c_add_9ea2d_6 ?_
  refine lv_topi (fun x1 ex1 => ?_)
  refine va_put (D := (dC, dI)) (ci := 0) (v := .int x1) (ty := .int) (C := RJx4a65c) (T := TJx4a65c) (N := 3) hx hb ht inGJx4a65c tyJx4a65c tyJx4a65c_ok nmJx4a65c hown hK hP hD hS 0 rfl rfl 0 (by decide) (ht _ q222) (fun x9 h9 => u_same (ht _ q223) x9 h9) rfl (by decide +kernel) rfl rfl (Nat.le_of_ble_eq_true rfl) dJx4a65c_add_9ea2d_7 (fun H locs hP hD hS => ?_)
  have hP : va_P (dC, dI) vwCl [(h0, .inr (0, [.int x1, .ref d0, .int 0])), (sv, .inr (10, [.int s0, .int s1, .int s2, s3, s4, s5, s6, s7, .int s8]))] H := hP
  have hD : va_D A [(h0, .inr (0, [.int x1, .ref d0, .int 0])), (sv, .inr (10, [.int s0, .int s1, .int s2, s3, s4, s5, s6, s7, .int s8]))] := hD
  refine lv_aload_n hx hb dJx4a65c_add_9ea2d_10 rfl (lv_at hl 0 rfl) ?_
  refine lv_aload_n hx hb dJx4a65c_add_9ea2d_11 rfl (lv_at hl 1 rfl) ?_
  refine lv_aload_n hx hb dJx4a65c_add_9ea2d_12 rfl (lv_at hl 0 rfl) ?_
  refine va_get (D := (dC, dI)) (ci := 0) (v := .ref d0) (C := RJx4a65c) (T := TJx4a65c) (N := 3) hx hb ht inGJx4a65c hown hK hP 0 rfl rfl 1 (by decide) (ht _ q219) (fun _ h9 => h9) rfl dJx4a65c_add_9ea2d_13 ?_
  refine lv_aload_n hx hb dJx4a65c_add_9ea2d_16 rfl (lv_at hl 0 rfl) ?_
  refine va_get (D := (dC, dI)) (ci := 0) (v := .int 0) (C := RJx4a65c) (T := TJx4a65c) (N := 3) hx hb ht inGJx4a65c hown hK hP 0 rfl rfl 2 (by decide) (ht _ q220) (fun _ h9 => h9) rfl dJx4a65c_add_9ea2d_17 ?_
  have hPc := hP.sub (ws' := [(h0, .inr (0, [.int x1, .ref d0, .int 0])), (sv, .inr (10, [.int s0, .int s1, .int s2, s3, s4, s5, s6, s7, .int s8]))]) [0, 1] rfl
  have hDc := hD.sub (ws' := [(h0, .inr (0, [.int x1, .ref d0, .int 0])), (sv, .inr (10, [.int s0, .int s1, .int s2, s3, s4, s5, s6, s7, .int s8]))]) [0, 1] (by decide) rfl
  have hKc := hK.sub (tys' := []) [] rfl
  have hFc := va_free (wc := [(h0, .inr (0, [.int x1, .ref d0, .int 0])), (sv, .inr (10, [.int s0, .int s1, .int s2, s3, s4, s5, s6, s7, .int s8]))]) hD hS hA [0, 1] rfl
  refine va_callv (va_runV (As := [.ref sv, .ref d0, .int 0]) (rest := []) ⟨hx, hb, hml, hown, ht⟩ (k_Jx4a65c_add_72be8 l d0 cO dC dI H.size h0 x1 sv s0 s1 s2 s8 s3 s4 s5 s6 s7) (my_V ht M_Jx4a65c_add_72be8 q784 q15 q782 (Nat.le_of_ble_eq_true rfl) (Nat.le_of_ble_eq_true rfl)) ⟨PRE.fb, va_recv hK hP (ci := 0) (q0 := 0) rfl rfl, fun U hU hW => ⟨rfl, PRE.mk' hE hS hFc hPc hKc hDc U hU hW⟩⟩ rfl rfl hl.1 rfl (lv_room (Nat.le_of_ble_eq_true rfl)) dJx4a65c_add_9ea2d_20 ⟨(Nat.le_of_ble_eq_true rfl), (Nat.le_of_ble_eq_true rfl)⟩) hS (fun q _ h => hFc q h) hFc (fun u2 t H1 locs htt hvm hw hB hz1 hk1 hS => ?_)
  try dsimp only at hw hB
  obtain ⟨hP1, hK1, hD1⟩ := hB
  rw [htt] at hP1
  have hK1 := va_K.moved hvm.symm hK1
  obtain ⟨hP, hD⟩ := va_join (wr := []) (w1 := []) hP hD [0, 1] [] rfl rfl (by decide) (by decide) hk1 hFc hP1 hD1
  have hK := (hK.sub (tys' := []) [] rfl).app hK1
  generalize H1 = H at hP hS ⊢
  have hP : va_P (dC, dI) vwCl [] H := hP
  have hD : va_D A [] := hD
  have hK : va_K (dC, dI) vwCl [] s := hK
  refine W.widen (k := 1) (n := 10) (Nat.le_of_ble_eq_true rfl) (Nat.le_of_ble_eq_true rfl) ?_
  refine lv_iconst (v := 1) hx hb dJx4a65c_add_9ea2d_23 (by decide) ?_
  have hP9 := hP.sub (ws' := []) [] rfl
  have hD9 := hD.sub (ws' := []) [] (by decide) rfl
  have hK9 := hK.sub (tys' := []) [] rfl
  refine W.widen (k := 1) (n := 10) (Nat.le_of_ble_eq_true rfl) (Nat.le_of_ble_eq_true rfl) ?_
  exact W.zret (v := 1) hx hb hr (by first | decide | rfl) (fun t ht9 hW9 => ⟨⟨1, (), rfl, trivial, POW.mk' ht9 hW9.alike hP9 hK9 hD9⟩, hS.F ht9⟩) hS.2.2 dJx4a65c_add_9ea2d_24
set_option maxHeartbeats 4000000 in
set_option maxRecDepth 100000 in
theorem k_X11_server (l : Launch) (hL : l.stackTraces = false) (d0 : Nat) (cO : ClassId) (dC : Nat → ClassId) (dI : Nat → Nat → Nat) (sz : Nat) (h0 sl : Nat) (t1 t2 t5 : Value) (lm : Int32) (fi : Nat) (fna fla fv2 fv3 fv4 fv5 : Value) (mx cp : Nat) (m0 m1 m2 m4 m5 m6 m7 m8 m10 m11 : Value) (m9 : Int32) (tP : ClassId) (p0 p1 p2 p3 p4 p5 : Nat) (x0 y0 z0 x1 y1 z1 x2 y2 z2 x3 y3 z3 x4 y4 z4 x5 y5 z5 : Value) (w0 g0 j0 w1 g1 j1 w2 g2 j2 w3 g3 j3 w4 g4 j4 w5 g5 j5 : Int32) (a1 a2 a3 : Int32) : vx_Met l yX11_server (cn yX11_server cX11_server 6 (some FieldType.int)) (rmd 7 40 1507) (va_Pc [.ref h0, .int a1, .int a2, .int a3] (PRE d0 cO (dC, dI) (va_A [(h0, .inr (12, [.ref fi, t1, t2, .ref sl, .ref mx, t5])), (fi, .inr (5, [fna, fla, fv2, fv3, fv4, fv5, .int 0])), (sl, .inr (0, [.int lm, .ref d0, .int 0])), (mx, .inr (8, [m0, m1, m2, .ref cp, m4, m5, m6, m7, m8, .int m9, m10, m11])), (cp, .inl (tP, 6, .inr (.inr (.inr (.inr ((va_up (va_up (va_up (va_up (va_up (va_up (fun _ => none) 0 (some p0)) 1 (some p1)) 2 (some p2)) 3 (some p3)) 4 (some p4)) 5 (some p5)))))))), (p0, .inr (3, [x0, y0, z0, .int w0, .int ((-1)), .int g0, .int j0])), (p1, .inr (3, [x1, y1, z1, .int w1, .int ((-1)), .int g1, .int j1])), (p2, .inr (3, [x2, y2, z2, .int w2, .int ((-1)), .int g2, .int j2])), (p3, .inr (3, [x3, y3, z3, .int w3, .int ((-1)), .int g3, .int j3])), (p4, .inr (3, [x4, y4, z4, .int w4, .int ((-1)), .int g4, .int j4])), (p5, .inr (3, [x5, y5, z5, .int w5, .int ((-1)), .int g5, .int j5]))] sz) [(h0, .inr (12, [.ref fi, t1, t2, .ref sl, .ref mx, t5])), (fi, .inr (5, [fna, fla, fv2, fv3, fv4, fv5, .int 0])), (sl, .inr (0, [.int lm, .ref d0, .int 0])), (mx, .inr (8, [m0, m1, m2, .ref cp, m4, m5, m6, m7, m8, .int m9, m10, m11])), (cp, .inl (tP, 6, .inr (.inr (.inr (.inr ((va_up (va_up (va_up (va_up (va_up (va_up (fun _ => none) 0 (some p0)) 1 (some p1)) 2 (some p2)) 3 (some p3)) 4 (some p4)) 5 (some p5)))))))), (p0, .inr (3, [x0, y0, z0, .int w0, .int ((-1)), .int g0, .int j0])), (p1, .inr (3, [x1, y1, z1, .int w1, .int ((-1)), .int g1, .int j1])), (p2, .inr (3, [x2, y2, z2, .int w2, .int ((-1)), .int g2, .int j2])), (p3, .inr (3, [x3, y3, z3, .int w3, .int ((-1)), .int g3, .int j3])), (p4, .inr (3, [x4, y4, z4, .int w4, .int ((-1)), .int g4, .int j4])), (p5, .inr (3, [x5, y5, z5, .int w5, .int ((-1)), .int g5, .int j5]))] [(tP, .object RX2)] sz)) (va_Qi (fun (r : Int32) (_ : Unit) => ((1 ≤ a1 ∧ a1 ≤ 63) ∧ (1 ≤ a2 ∧ a2 ≤ 7) ∧ 0 ≤ a3 ∧ a3 ≤ 2) ∧ r = 0) (fun (_ : Unit) (t : State) => POW (dC, dI) (va_A [(h0, .inr (12, [.ref fi, t1, t2, .ref sl, .ref mx, t5])), (fi, .inr (5, [fna, fla, fv2, fv3, fv4, fv5, .int 0])), (sl, .inr (0, [.int lm, .ref d0, .int 0])), (mx, .inr (8, [m0, m1, m2, .ref cp, m4, m5, m6, m7, m8, .int m9, m10, m11])), (cp, .inl (tP, 6, .inr (.inr (.inr (.inr ((va_up (va_up (va_up (va_up (va_up (va_up (fun _ => none) 0 (some p0)) 1 (some p1)) 2 (some p2)) 3 (some p3)) 4 (some p4)) 5 (some p5)))))))), (p0, .inr (3, [x0, y0, z0, .int w0, .int ((-1)), .int g0, .int j0])), (p1, .inr (3, [x1, y1, z1, .int w1, .int ((-1)), .int g1, .int j1])), (p2, .inr (3, [x2, y2, z2, .int w2, .int ((-1)), .int g2, .int j2])), (p3, .inr (3, [x3, y3, z3, .int w3, .int ((-1)), .int g3, .int j3])), (p4, .inr (3, [x4, y4, z4, .int w4, .int ((-1)), .int g4, .int j4])), (p5, .inr (3, [x5, y5, z5, .int w5, .int ((-1)), .int g5, .int j5]))] sz) [] [] t) (va_A [(h0, .inr (12, [.ref fi, t1, t2, .ref sl, .ref mx, t5])), (fi, .inr (5, [fna, fla, fv2, fv3, fv4, fv5, .int 0])), (sl, .inr (0, [.int lm, .ref d0, .int 0])), (mx, .inr (8, [m0, m1, m2, .ref cp, m4, m5, m6, m7, m8, .int m9, m10, m11])), (cp, .inl (tP, 6, .inr (.inr (.inr (.inr ((va_up (va_up (va_up (va_up (va_up (va_up (fun _ => none) 0 (some p0)) 1 (some p1)) 2 (some p2)) 3 (some p3)) 4 (some p4)) 5 (some p5)))))))), (p0, .inr (3, [x0, y0, z0, .int w0, .int ((-1)), .int g0, .int j0])), (p1, .inr (3, [x1, y1, z1, .int w1, .int ((-1)), .int g1, .int j1])), (p2, .inr (3, [x2, y2, z2, .int w2, .int ((-1)), .int g2, .int j2])), (p3, .inr (3, [x3, y3, z3, .int w3, .int ((-1)), .int g3, .int j3])), (p4, .inr (3, [x4, y4, z4, .int w4, .int ((-1)), .int g4, .int j4])), (p5, .inr (3, [x5, y5, z5, .int w5, .int ((-1)), .int g5, .int j5]))] sz)) (vx_X (fun _ : Unit => True) (fun E _ _ => E = "java/lang/IllegalArgumentException" ∧ ¬ ((1 ≤ a1 ∧ a1 ≤ 63) ∧ (1 ≤ a2 ∧ a2 ≤ 7) ∧ 0 ≤ a3 ∧ a3 ≤ 2)) (va_A [(h0, .inr (12, [.ref fi, t1, t2, .ref sl, .ref mx, t5])), (fi, .inr (5, [fna, fla, fv2, fv3, fv4, fv5, .int 0])), (sl, .inr (0, [.int lm, .ref d0, .int 0])), (mx, .inr (8, [m0, m1, m2, .ref cp, m4, m5, m6, m7, m8, .int m9, m10, m11])), (cp, .inl (tP, 6, .inr (.inr (.inr (.inr ((va_up (va_up (va_up (va_up (va_up (va_up (fun _ => none) 0 (some p0)) 1 (some p1)) 2 (some p2)) 3 (some p3)) 4 (some p4)) 5 (some p5)))))))), (p0, .inr (3, [x0, y0, z0, .int w0, .int ((-1)), .int g0, .int j0])), (p1, .inr (3, [x1, y1, z1, .int w1, .int ((-1)), .int g1, .int j1])), (p2, .inr (3, [x2, y2, z2, .int w2, .int ((-1)), .int g2, .int j2])), (p3, .inr (3, [x3, y3, z3, .int w3, .int ((-1)), .int g3, .int j3])), (p4, .inr (3, [x4, y4, z4, .int w4, .int ((-1)), .int g4, .int j4])), (p5, .inr (3, [x5, y5, z5, .int w5, .int ((-1)), .int g5, .int j5]))] sz)) 40 1507 (va_A [(h0, .inr (12, [.ref fi, t1, t2, .ref sl, .ref mx, t5])), (fi, .inr (5, [fna, fla, fv2, fv3, fv4, fv5, .int 0])), (sl, .inr (0, [.int lm, .ref d0, .int 0])), (mx, .inr (8, [m0, m1, m2, .ref cp, m4, m5, m6, m7, m8, .int m9, m10, m11])), (cp, .inl (tP, 6, .inr (.inr (.inr (.inr ((va_up (va_up (va_up (va_up (va_up (va_up (fun _ => none) 0 (some p0)) 1 (some p1)) 2 (some p2)) 3 (some p3)) 4 (some p4)) 5 (some p5)))))))), (p0, .inr (3, [x0, y0, z0, .int w0, .int ((-1)), .int g0, .int j0])), (p1, .inr (3, [x1, y1, z1, .int w1, .int ((-1)), .int g1, .int j1])), (p2, .inr (3, [x2, y2, z2, .int w2, .int ((-1)), .int g2, .int j2])), (p3, .inr (3, [x3, y3, z3, .int w3, .int ((-1)), .int g3, .int j3])), (p4, .inr (3, [x4, y4, z4, .int w4, .int ((-1)), .int g4, .int j4])), (p5, .inr (3, [x5, y5, z5, .int w5, .int ((-1)), .int g5, .int j5]))] sz) := by
  refine vx_ofW (cc := cX11_server) (maxL := 6) (ret := (some FieldType.int)) (by decide) rfl ?_
  intro p e s m args below meth c s₁ B hml hno hv
  obtain ⟨rfl, hsz, hE, hP, hK, hD0⟩ := hv
  have hx := B.exec
  have hb := B.bytes
  have hr := B.returns
  have hts := atoms_spec (ws := cn yX11_server cX11_server 6 (some FieldType.int)) B.pre
  have ht : ∀ w ∈ GT, w.before _ s = true := fun w h => hts w (List.mem_cons_of_mem _ h)
  have hown : s.vm.findClass RX11 = some m.cls := findClass_of_methodNamed B.named
  have hlocks := B.notSynchronized
  subst hsz
  have hD := hD0.self (sz := s.heap.size)
  generalize hAe : va_A [(h0, .inr (12, [.ref fi, t1, t2, .ref sl, .ref mx, t5])), (fi, .inr (5, [fna, fla, fv2, fv3, fv4, fv5, .int 0])), (sl, .inr (0, [.int lm, .ref d0, .int 0])), (mx, .inr (8, [m0, m1, m2, .ref cp, m4, m5, m6, m7, m8, .int m9, m10, m11])), (cp, .inl (tP, 6, .inr (.inr (.inr (.inr ((va_up (va_up (va_up (va_up (va_up (va_up (fun _ => none) 0 (some p0)) 1 (some p1)) 2 (some p2)) 3 (some p3)) 4 (some p4)) 5 (some p5)))))))), (p0, .inr (3, [x0, y0, z0, .int w0, .int ((-1)), .int g0, .int j0])), (p1, .inr (3, [x1, y1, z1, .int w1, .int ((-1)), .int g1, .int j1])), (p2, .inr (3, [x2, y2, z2, .int w2, .int ((-1)), .int g2, .int j2])), (p3, .inr (3, [x3, y3, z3, .int w3, .int ((-1)), .int g3, .int j3])), (p4, .inr (3, [x4, y4, z4, .int w4, .int ((-1)), .int g4, .int j4])), (p5, .inr (3, [x5, y5, z5, .int w5, .int ((-1)), .int g5, .int j5]))] s.heap.size = A at hD hE ⊢
  have hA : ∀ q : Nat, s.heap.size ≤ q → A q := fun q h => by rw [← hAe]; exact Or.inr h
  obtain ⟨H, hH0⟩ : ∃ H, s.heap = H := ⟨_, rfl⟩
  have hS : va_S A s.heap H [] := by rw [← hH0]; exact va_S.rf
  rw [hH0] at hP
  have hl := lv_entry ([.ref h0, .int a1, .int a2, .int a3]) (n := 6) (Nat.le_of_ble_eq_true rfl)
  rw [lg_entry_eq]
  generalize (lg_sl ([.ref h0, .int a1, .int a2, .int a3]) ++ List.replicate (6 - (lg_sl ([.ref h0, .int a1, .int a2, .int a3])).length) Slot.unset).toArray = ls at hl ⊢
  have hl : lv_has ls 6 [(0, .ref h0), (1, .int a1), (2, .int a2), (3, .int a3)] := hl
  rw [hH0]
  refine lv_iload_n hx hb dX11_server_0 rfl (lv_at hl 1 rfl) ?_
  refine lv_iconst (v := 1) hx hb dX11_server_1 (by decide) ?_
  refine lv_icmp_lt (tgt := 31) hx hb dX11_server_2 (by decide) (fun c1 => ?_) (fun c1 => ?_)
  · skip
    obtain ⟨sa, hstr⟩ := hE.2.1 (111, "no such kinds, languages or style") (by decide +kernel)
    exact vx_throwS (A := A) hx hb hL hown (by decide +kernel) (by decide +kernel) (ht _ q1021) (ht _ q139) hstr (fun w h => ht w (at_X11_63 w h)) (by decide +kernel) hE.2.2.2.2.1 hE.2.2.2.2.2 hS (by rw [hml]; exact hl.1) dX11_server_31 dX11_server_34 dX11_server_35 dX11_server_37 dX11_server_40 (fun x h => (hno x h).elim) (Nat.le_of_ble_eq_true rfl) (Nat.le_of_ble_eq_true rfl) (Nat.le_of_ble_eq_true rfl) (Nat.le_of_ble_eq_true rfl) hlocks (fun t hvm hz hk => ⟨(), trivial, ⟨rfl, fun h => by simp only [Int32.le_iff_toInt_le, Int32.lt_iff_toInt_lt, ← Int32.toInt_inj, li0, li1, li2, li3, li5, li6, li7, li9, li10, li32, li48, li57, li63, li97, li122, lim1] at h c1; omega⟩, ⟨Nat.le_trans hS.1 hz, fun q h1 h2 => by rw [hk q (Nat.lt_of_lt_of_le h1 hS.1)]; exact hS.2.1 q h1 h2⟩⟩) hS.2.2 (Nat.le_of_ble_eq_true rfl) (Nat.le_of_ble_eq_true rfl)
  · skip
    refine lv_iload_n hx hb dX11_server_5 rfl (lv_at hl 1 rfl) ?_
    refine lv_bipush (v := 63) hx hb dX11_server_6 (by decide) ?_
    refine lv_icmp_gt (tgt := 31) hx hb dX11_server_8 (by decide) (fun c2 => ?_) (fun c2 => ?_)
    · skip
      obtain ⟨sa, hstr⟩ := hE.2.1 (111, "no such kinds, languages or style") (by decide +kernel)
      exact vx_throwS (A := A) hx hb hL hown (by decide +kernel) (by decide +kernel) (ht _ q1021) (ht _ q139) hstr (fun w h => ht w (at_X11_63 w h)) (by decide +kernel) hE.2.2.2.2.1 hE.2.2.2.2.2 hS (by rw [hml]; exact hl.1) dX11_server_31 dX11_server_34 dX11_server_35 dX11_server_37 dX11_server_40 (fun x h => (hno x h).elim) (Nat.le_of_ble_eq_true rfl) (Nat.le_of_ble_eq_true rfl) (Nat.le_of_ble_eq_true rfl) (Nat.le_of_ble_eq_true rfl) hlocks (fun t hvm hz hk => ⟨(), trivial, ⟨rfl, fun h => by simp only [Int32.le_iff_toInt_le, Int32.lt_iff_toInt_lt, ← Int32.toInt_inj, li0, li1, li2, li3, li5, li6, li7, li9, li10, li32, li48, li57, li63, li97, li122, lim1] at h c1 c2; omega⟩, ⟨Nat.le_trans hS.1 hz, fun q h1 h2 => by rw [hk q (Nat.lt_of_lt_of_le h1 hS.1)]; exact hS.2.1 q h1 h2⟩⟩) hS.2.2 (Nat.le_of_ble_eq_true rfl) (Nat.le_of_ble_eq_true rfl)
    · skip
      refine lv_iload_n hx hb dX11_server_11 rfl (lv_at hl 2 rfl) ?_
      refine lv_iconst (v := 1) hx hb dX11_server_12 (by decide) ?_
      refine lv_icmp_lt (tgt := 31) hx hb dX11_server_13 (by decide) (fun c3 => ?_) (fun c3 => ?_)
      · skip
        obtain ⟨sa, hstr⟩ := hE.2.1 (111, "no such kinds, languages or style") (by decide +kernel)
        exact vx_throwS (A := A) hx hb hL hown (by decide +kernel) (by decide +kernel) (ht _ q1021) (ht _ q139) hstr (fun w h => ht w (at_X11_63 w h)) (by decide +kernel) hE.2.2.2.2.1 hE.2.2.2.2.2 hS (by rw [hml]; exact hl.1) dX11_server_31 dX11_server_34 dX11_server_35 dX11_server_37 dX11_server_40 (fun x h => (hno x h).elim) (Nat.le_of_ble_eq_true rfl) (Nat.le_of_ble_eq_true rfl) (Nat.le_of_ble_eq_true rfl) (Nat.le_of_ble_eq_true rfl) hlocks (fun t hvm hz hk => ⟨(), trivial, ⟨rfl, fun h => by simp only [Int32.le_iff_toInt_le, Int32.lt_iff_toInt_lt, ← Int32.toInt_inj, li0, li1, li2, li3, li5, li6, li7, li9, li10, li32, li48, li57, li63, li97, li122, lim1] at h c1 c2 c3; omega⟩, ⟨Nat.le_trans hS.1 hz, fun q h1 h2 => by rw [hk q (Nat.lt_of_lt_of_le h1 hS.1)]; exact hS.2.1 q h1 h2⟩⟩) hS.2.2 (Nat.le_of_ble_eq_true rfl) (Nat.le_of_ble_eq_true rfl)
      · skip
        refine lv_iload_n hx hb dX11_server_16 rfl (lv_at hl 2 rfl) ?_
        refine lv_bipush (v := 7) hx hb dX11_server_17 (by decide) ?_
        refine lv_icmp_gt (tgt := 31) hx hb dX11_server_19 (by decide) (fun c4 => ?_) (fun c4 => ?_)
        · skip
          obtain ⟨sa, hstr⟩ := hE.2.1 (111, "no such kinds, languages or style") (by decide +kernel)
          exact vx_throwS (A := A) hx hb hL hown (by decide +kernel) (by decide +kernel) (ht _ q1021) (ht _ q139) hstr (fun w h => ht w (at_X11_63 w h)) (by decide +kernel) hE.2.2.2.2.1 hE.2.2.2.2.2 hS (by rw [hml]; exact hl.1) dX11_server_31 dX11_server_34 dX11_server_35 dX11_server_37 dX11_server_40 (fun x h => (hno x h).elim) (Nat.le_of_ble_eq_true rfl) (Nat.le_of_ble_eq_true rfl) (Nat.le_of_ble_eq_true rfl) (Nat.le_of_ble_eq_true rfl) hlocks (fun t hvm hz hk => ⟨(), trivial, ⟨rfl, fun h => by simp only [Int32.le_iff_toInt_le, Int32.lt_iff_toInt_lt, ← Int32.toInt_inj, li0, li1, li2, li3, li5, li6, li7, li9, li10, li32, li48, li57, li63, li97, li122, lim1] at h c1 c2 c3 c4; omega⟩, ⟨Nat.le_trans hS.1 hz, fun q h1 h2 => by rw [hk q (Nat.lt_of_lt_of_le h1 hS.1)]; exact hS.2.1 q h1 h2⟩⟩) hS.2.2 (Nat.le_of_ble_eq_true rfl) (Nat.le_of_ble_eq_true rfl)
        · skip
          refine lv_iload_n hx hb dX11_server_22 rfl (lv_at hl 3 rfl) ?_
          refine lv_if_lt (tgt := 31) hx hb dX11_server_23 (by decide) (fun c5 => ?_) (fun c5 => ?_)
          · skip
            obtain ⟨sa, hstr⟩ := hE.2.1 (111, "no such kinds, languages or style") (by decide +kernel)
            exact vx_throwS (A := A) hx hb hL hown (by decide +kernel) (by decide +kernel) (ht _ q1021) (ht _ q139) hstr (fun w h => ht w (at_X11_63 w h)) (by decide +kernel) hE.2.2.2.2.1 hE.2.2.2.2.2 hS (by rw [hml]; exact hl.1) dX11_server_31 dX11_server_34 dX11_server_35 dX11_server_37 dX11_server_40 (fun x h => (hno x h).elim) (Nat.le_of_ble_eq_true rfl) (Nat.le_of_ble_eq_true rfl) (Nat.le_of_ble_eq_true rfl) (Nat.le_of_ble_eq_true rfl) hlocks (fun t hvm hz hk => ⟨(), trivial, ⟨rfl, fun h => by simp only [Int32.le_iff_toInt_le, Int32.lt_iff_toInt_lt, ← Int32.toInt_inj, li0, li1, li2, li3, li5, li6, li7, li9, li10, li32, li48, li57, li63, li97, li122, lim1] at h c1 c2 c3 c4 c5; omega⟩, ⟨Nat.le_trans hS.1 hz, fun q h1 h2 => by rw [hk q (Nat.lt_of_lt_of_le h1 hS.1)]; exact hS.2.1 q h1 h2⟩⟩) hS.2.2 (Nat.le_of_ble_eq_true rfl) (Nat.le_of_ble_eq_true rfl)
          · skip
            refine lv_iload_n hx hb dX11_server_26 rfl (lv_at hl 3 rfl) ?_
            refine lv_iconst (v := 2) hx hb dX11_server_27 (by decide) ?_
            refine lv_icmp_le (tgt := 41) hx hb dX11_server_28 (by decide) (fun c6 => ?_) (fun c6 => ?_)
            · skip
              refine lv_aload_n hx hb dX11_server_41 rfl (lv_at hl 0 rfl) ?_
              refine va_get (D := (dC, dI)) (ci := 12) (v := .ref sl) (C := RX11) (T := TX11) (N := 6) hx hb ht inGX11 hown hK hP 0 rfl rfl 3 (by decide) (ht _ q394) (fun _ h9 => h9) rfl dX11_server_42 ?_
              have hPc := hP.sub (ws' := [(sl, .inr (0, [.int lm, .ref d0, .int 0]))]) [2] rfl
              have hDc := hD.sub (ws' := [(sl, .inr (0, [.int lm, .ref d0, .int 0]))]) [2] (by decide) rfl
              have hKc := hK.sub (tys' := []) [] rfl
              have hFc := freeNil hS hA
              refine va_calli (va_runV (As := []) (rest := []) ⟨hx, hb, hml, hown, ht⟩ (k_Jx4a65c_size_8abf5 l d0 cO dC dI H.size sl lm (.ref d0) 0) (my_V ht M_Jx4a65c_size_8abf5 q424 q425 q974 (Nat.le_of_ble_eq_true rfl) (Nat.le_of_ble_eq_true rfl)) ⟨PREp.fb, va_recv hK hP (ci := 0) (q0 := 2) rfl rfl, fun U hU hW => ⟨rfl, PREp.mk' hE hS hFc hPc hKc U hU hW⟩⟩ rfl rfl hl.1 rfl (lv_room (Nat.le_of_ble_eq_true rfl)) dX11_server_45 ⟨(Nat.le_of_ble_eq_true rfl), (Nat.le_of_ble_eq_true rfl)⟩) hS (fun q _ h => hFc q h) hFc (fun r8 u7 t H1 locs htt hvm hw hB hz1 hk1 hS => ?_)
              try dsimp only at hw hB
              have hP1 := hB
              have hP := keepAll hP hk1
              generalize H1 = H at hP hS ⊢
              have hP : va_P (dC, dI) vwCl [(h0, .inr (12, [.ref fi, t1, t2, .ref sl, .ref mx, t5])), (fi, .inr (5, [fna, fla, fv2, fv3, fv4, fv5, .int 0])), (sl, .inr (0, [.int lm, .ref d0, .int 0])), (mx, .inr (8, [m0, m1, m2, .ref cp, m4, m5, m6, m7, m8, .int m9, m10, m11])), (cp, .inl (tP, 6, .inr (.inr (.inr (.inr ((va_up (va_up (va_up (va_up (va_up (va_up (fun _ => none) 0 (some p0)) 1 (some p1)) 2 (some p2)) 3 (some p3)) 4 (some p4)) 5 (some p5)))))))), (p0, .inr (3, [x0, y0, z0, .int w0, .int ((-1)), .int g0, .int j0])), (p1, .inr (3, [x1, y1, z1, .int w1, .int ((-1)), .int g1, .int j1])), (p2, .inr (3, [x2, y2, z2, .int w2, .int ((-1)), .int g2, .int j2])), (p3, .inr (3, [x3, y3, z3, .int w3, .int ((-1)), .int g3, .int j3])), (p4, .inr (3, [x4, y4, z4, .int w4, .int ((-1)), .int g4, .int j4])), (p5, .inr (3, [x5, y5, z5, .int w5, .int ((-1)), .int g5, .int j5]))] H := hP
              have hD : va_D A [(h0, .inr (12, [.ref fi, t1, t2, .ref sl, .ref mx, t5])), (fi, .inr (5, [fna, fla, fv2, fv3, fv4, fv5, .int 0])), (sl, .inr (0, [.int lm, .ref d0, .int 0])), (mx, .inr (8, [m0, m1, m2, .ref cp, m4, m5, m6, m7, m8, .int m9, m10, m11])), (cp, .inl (tP, 6, .inr (.inr (.inr (.inr ((va_up (va_up (va_up (va_up (va_up (va_up (fun _ => none) 0 (some p0)) 1 (some p1)) 2 (some p2)) 3 (some p3)) 4 (some p4)) 5 (some p5)))))))), (p0, .inr (3, [x0, y0, z0, .int w0, .int ((-1)), .int g0, .int j0])), (p1, .inr (3, [x1, y1, z1, .int w1, .int ((-1)), .int g1, .int j1])), (p2, .inr (3, [x2, y2, z2, .int w2, .int ((-1)), .int g2, .int j2])), (p3, .inr (3, [x3, y3, z3, .int w3, .int ((-1)), .int g3, .int j3])), (p4, .inr (3, [x4, y4, z4, .int w4, .int ((-1)), .int g4, .int j4])), (p5, .inr (3, [x5, y5, z5, .int w5, .int ((-1)), .int g5, .int j5]))] := hD
              have hK : va_K (dC, dI) vwCl [(tP, .object RX2)] s := hK
              refine W.widen (k := 0) (n := 0) (Nat.le_of_ble_eq_true rfl) (Nat.le_of_ble_eq_true rfl) ?_
              subst hw
              refine lv_istore (lv' := [(4, .int 0), (0, .ref h0), (1, .int a1), (2, .int a2), (3, .int a3)]) hx hb dX11_server_48 hl (by decide) rfl (fun ls hl => ?_)
              refine lv_iload hx hb dX11_server_50 (lv_at hl 0 rfl) ?_
              refine lv_iconst (v := 3) hx hb dX11_server_52 (by decide) ?_
              refine lv_icmp_ge (tgt := 76) hx hb dX11_server_53 (by decide) (fun c9 => False.elim (by revert c9; decide)) (fun c9 => ?_)
              refine lv_aload_n hx hb dX11_server_56 rfl (lv_at hl 1 rfl) ?_
              refine va_get (D := (dC, dI)) (ci := 12) (v := .ref fi) (C := RX11) (T := TX11) (N := 6) hx hb ht inGX11 hown hK hP 0 rfl rfl 0 (by decide) (ht _ q391) (fun _ h9 => h9) rfl dX11_server_57 ?_
              have hPc := hP.sub (ws' := [(fi, .inr (5, [fna, fla, fv2, fv3, fv4, fv5, .int 0]))]) [1] rfl
              have hDc := hD.sub (ws' := [(fi, .inr (5, [fna, fla, fv2, fv3, fv4, fv5, .int 0]))]) [1] (by decide) rfl
              have hKc := hK.sub (tys' := []) [] rfl
              have hFc := freeNil hS hA
              refine va_calli (va_runV (As := []) (rest := []) ⟨hx, hb, hml, hown, ht⟩ (k_X4_isAnyHeld l d0 cO dC dI H.size fi fna fla fv2 fv3 fv4 fv5) (my_V ht M_X4_isAnyHeld q1189 q1190 q1188 (Nat.le_of_ble_eq_true rfl) (Nat.le_of_ble_eq_true rfl)) ⟨PREp.fb, va_recv hK hP (ci := 5) (q0 := 1) rfl rfl, fun U hU hW => ⟨rfl, PREp.mk' hE hS hFc hPc hKc U hU hW⟩⟩ rfl rfl hl.1 rfl (lv_room (Nat.le_of_ble_eq_true rfl)) dX11_server_60 ⟨(Nat.le_of_ble_eq_true rfl), (Nat.le_of_ble_eq_true rfl)⟩) hS (fun q _ h => hFc q h) hFc (fun r11 u10 t H1 locs htt hvm hw hB hz1 hk1 hS => ?_)
              try dsimp only at hw hB
              have hP1 := hB
              have hP := keepAll hP hk1
              generalize H1 = H at hP hS ⊢
              have hP : va_P (dC, dI) vwCl [(h0, .inr (12, [.ref fi, t1, t2, .ref sl, .ref mx, t5])), (fi, .inr (5, [fna, fla, fv2, fv3, fv4, fv5, .int 0])), (sl, .inr (0, [.int lm, .ref d0, .int 0])), (mx, .inr (8, [m0, m1, m2, .ref cp, m4, m5, m6, m7, m8, .int m9, m10, m11])), (cp, .inl (tP, 6, .inr (.inr (.inr (.inr ((va_up (va_up (va_up (va_up (va_up (va_up (fun _ => none) 0 (some p0)) 1 (some p1)) 2 (some p2)) 3 (some p3)) 4 (some p4)) 5 (some p5)))))))), (p0, .inr (3, [x0, y0, z0, .int w0, .int ((-1)), .int g0, .int j0])), (p1, .inr (3, [x1, y1, z1, .int w1, .int ((-1)), .int g1, .int j1])), (p2, .inr (3, [x2, y2, z2, .int w2, .int ((-1)), .int g2, .int j2])), (p3, .inr (3, [x3, y3, z3, .int w3, .int ((-1)), .int g3, .int j3])), (p4, .inr (3, [x4, y4, z4, .int w4, .int ((-1)), .int g4, .int j4])), (p5, .inr (3, [x5, y5, z5, .int w5, .int ((-1)), .int g5, .int j5]))] H := hP
              have hD : va_D A [(h0, .inr (12, [.ref fi, t1, t2, .ref sl, .ref mx, t5])), (fi, .inr (5, [fna, fla, fv2, fv3, fv4, fv5, .int 0])), (sl, .inr (0, [.int lm, .ref d0, .int 0])), (mx, .inr (8, [m0, m1, m2, .ref cp, m4, m5, m6, m7, m8, .int m9, m10, m11])), (cp, .inl (tP, 6, .inr (.inr (.inr (.inr ((va_up (va_up (va_up (va_up (va_up (va_up (fun _ => none) 0 (some p0)) 1 (some p1)) 2 (some p2)) 3 (some p3)) 4 (some p4)) 5 (some p5)))))))), (p0, .inr (3, [x0, y0, z0, .int w0, .int ((-1)), .int g0, .int j0])), (p1, .inr (3, [x1, y1, z1, .int w1, .int ((-1)), .int g1, .int j1])), (p2, .inr (3, [x2, y2, z2, .int w2, .int ((-1)), .int g2, .int j2])), (p3, .inr (3, [x3, y3, z3, .int w3, .int ((-1)), .int g3, .int j3])), (p4, .inr (3, [x4, y4, z4, .int w4, .int ((-1)), .int g4, .int j4])), (p5, .inr (3, [x5, y5, z5, .int w5, .int ((-1)), .int g5, .int j5]))] := hD
              have hK : va_K (dC, dI) vwCl [(tP, .object RX2)] s := hK
              refine W.widen (k := 0) (n := 0) (Nat.le_of_ble_eq_true rfl) (Nat.le_of_ble_eq_true rfl) ?_
              subst hw
              refine lv_if_ne (tgt := 76) hx hb dX11_server_63 (by decide) (fun c12 => False.elim (by revert c12; decide)) (fun c12 => ?_)
              refine lv_aload_n hx hb dX11_server_66 rfl (lv_at hl 1 rfl) ?_
              refine va_get (D := (dC, dI)) (ci := 12) (v := .ref mx) (C := RX11) (T := TX11) (N := 6) hx hb ht inGX11 hown hK hP 0 rfl rfl 4 (by decide) (ht _ q395) (fun _ h9 => h9) rfl dX11_server_67 ?_
              have hPc := hP.sub (ws' := [(mx, .inr (8, [m0, m1, m2, .ref cp, m4, m5, m6, m7, m8, .int m9, m10, m11])), (cp, .inl (tP, 6, .inr (.inr (.inr (.inr ((va_up (va_up (va_up (va_up (va_up (va_up (fun _ => none) 0 (some p0)) 1 (some p1)) 2 (some p2)) 3 (some p3)) 4 (some p4)) 5 (some p5)))))))), (p0, .inr (3, [x0, y0, z0, .int w0, .int ((-1)), .int g0, .int j0])), (p1, .inr (3, [x1, y1, z1, .int w1, .int ((-1)), .int g1, .int j1])), (p2, .inr (3, [x2, y2, z2, .int w2, .int ((-1)), .int g2, .int j2])), (p3, .inr (3, [x3, y3, z3, .int w3, .int ((-1)), .int g3, .int j3])), (p4, .inr (3, [x4, y4, z4, .int w4, .int ((-1)), .int g4, .int j4])), (p5, .inr (3, [x5, y5, z5, .int w5, .int ((-1)), .int g5, .int j5]))]) [3, 4, 5, 6, 7, 8, 9, 10] rfl
              have hDc := hD.sub (ws' := [(mx, .inr (8, [m0, m1, m2, .ref cp, m4, m5, m6, m7, m8, .int m9, m10, m11])), (cp, .inl (tP, 6, .inr (.inr (.inr (.inr ((va_up (va_up (va_up (va_up (va_up (va_up (fun _ => none) 0 (some p0)) 1 (some p1)) 2 (some p2)) 3 (some p3)) 4 (some p4)) 5 (some p5)))))))), (p0, .inr (3, [x0, y0, z0, .int w0, .int ((-1)), .int g0, .int j0])), (p1, .inr (3, [x1, y1, z1, .int w1, .int ((-1)), .int g1, .int j1])), (p2, .inr (3, [x2, y2, z2, .int w2, .int ((-1)), .int g2, .int j2])), (p3, .inr (3, [x3, y3, z3, .int w3, .int ((-1)), .int g3, .int j3])), (p4, .inr (3, [x4, y4, z4, .int w4, .int ((-1)), .int g4, .int j4])), (p5, .inr (3, [x5, y5, z5, .int w5, .int ((-1)), .int g5, .int j5]))]) [3, 4, 5, 6, 7, 8, 9, 10] (by decide) rfl
              have hKc := hK.sub (tys' := [(tP, .object RX2)]) [0] rfl
              have hFc := freeNil hS hA
              refine va_calli (va_runV (As := []) (rest := []) ⟨hx, hb, hml, hown, ht⟩ (k_X7_hasCopies l d0 cO dC dI H.size mx cp m0 m1 m2 m4 m5 m6 m7 m8 m10 m11 m9 tP p0 p1 p2 p3 p4 p5 x0 y0 z0 x1 y1 z1 x2 y2 z2 x3 y3 z3 x4 y4 z4 x5 y5 z5 w0 g0 j0 w1 g1 j1 w2 g2 j2 w3 g3 j3 w4 g4 j4 w5 g5 j5) (my_V ht M_X7_hasCopies q1194 q1195 q1193 (Nat.le_of_ble_eq_true rfl) (Nat.le_of_ble_eq_true rfl)) ⟨PREp.fb, va_recv hK hP (ci := 8) (q0 := 3) rfl rfl, fun U hU hW => ⟨rfl, PREp.mk' hE hS hFc hPc hKc U hU hW⟩⟩ rfl rfl hl.1 rfl (lv_room (Nat.le_of_ble_eq_true rfl)) dX11_server_70 ⟨(Nat.le_of_ble_eq_true rfl), (Nat.le_of_ble_eq_true rfl)⟩) hS (fun q _ h => hFc q h) hFc (fun r14 u13 t H1 locs htt hvm hw hB hz1 hk1 hS => ?_)
              try dsimp only at hw hB
              have hP1 := hB
              have hP := keepAll hP hk1
              generalize H1 = H at hP hS ⊢
              have hP : va_P (dC, dI) vwCl [(h0, .inr (12, [.ref fi, t1, t2, .ref sl, .ref mx, t5])), (fi, .inr (5, [fna, fla, fv2, fv3, fv4, fv5, .int 0])), (sl, .inr (0, [.int lm, .ref d0, .int 0])), (mx, .inr (8, [m0, m1, m2, .ref cp, m4, m5, m6, m7, m8, .int m9, m10, m11])), (cp, .inl (tP, 6, .inr (.inr (.inr (.inr ((va_up (va_up (va_up (va_up (va_up (va_up (fun _ => none) 0 (some p0)) 1 (some p1)) 2 (some p2)) 3 (some p3)) 4 (some p4)) 5 (some p5)))))))), (p0, .inr (3, [x0, y0, z0, .int w0, .int ((-1)), .int g0, .int j0])), (p1, .inr (3, [x1, y1, z1, .int w1, .int ((-1)), .int g1, .int j1])), (p2, .inr (3, [x2, y2, z2, .int w2, .int ((-1)), .int g2, .int j2])), (p3, .inr (3, [x3, y3, z3, .int w3, .int ((-1)), .int g3, .int j3])), (p4, .inr (3, [x4, y4, z4, .int w4, .int ((-1)), .int g4, .int j4])), (p5, .inr (3, [x5, y5, z5, .int w5, .int ((-1)), .int g5, .int j5]))] H := hP
              have hD : va_D A [(h0, .inr (12, [.ref fi, t1, t2, .ref sl, .ref mx, t5])), (fi, .inr (5, [fna, fla, fv2, fv3, fv4, fv5, .int 0])), (sl, .inr (0, [.int lm, .ref d0, .int 0])), (mx, .inr (8, [m0, m1, m2, .ref cp, m4, m5, m6, m7, m8, .int m9, m10, m11])), (cp, .inl (tP, 6, .inr (.inr (.inr (.inr ((va_up (va_up (va_up (va_up (va_up (va_up (fun _ => none) 0 (some p0)) 1 (some p1)) 2 (some p2)) 3 (some p3)) 4 (some p4)) 5 (some p5)))))))), (p0, .inr (3, [x0, y0, z0, .int w0, .int ((-1)), .int g0, .int j0])), (p1, .inr (3, [x1, y1, z1, .int w1, .int ((-1)), .int g1, .int j1])), (p2, .inr (3, [x2, y2, z2, .int w2, .int ((-1)), .int g2, .int j2])), (p3, .inr (3, [x3, y3, z3, .int w3, .int ((-1)), .int g3, .int j3])), (p4, .inr (3, [x4, y4, z4, .int w4, .int ((-1)), .int g4, .int j4])), (p5, .inr (3, [x5, y5, z5, .int w5, .int ((-1)), .int g5, .int j5]))] := hD
              have hK : va_K (dC, dI) vwCl [(tP, .object RX2)] s := hK
              refine W.widen (k := 0) (n := 0) (Nat.le_of_ble_eq_true rfl) (Nat.le_of_ble_eq_true rfl) ?_
              subst hw
              refine lv_if_eq (tgt := 86) hx hb dX11_server_73 (by decide) (fun c15 => ?_) (fun c15 => False.elim (by revert c15; decide))
              refine va_new (ci := 10) (fs := [.int 0, .int 0, .int 0, .null, .null, .null, .null, .null, .int 0]) (C := RX9) (T := TX9) (N := 9) hx hb ht inGX9 tyX9 tyX9_ok hown (ht _ q976) (ht _ q989) (ht _ q143) hK hP hD hS hA rfl (fun j hj => by rcases (show j = 0 ∨ j = 1 ∨ j = 2 ∨ j = 3 ∨ j = 4 ∨ j = 5 ∨ j = 6 ∨ j = 7 ∨ j = 8 by omega) with rfl | rfl | rfl | rfl | rfl | rfl | rfl | rfl | rfl <;> rfl) (Nat.le_of_ble_eq_true rfl) (Nat.le_of_ble_eq_true rfl) dX11_server_86 (fun q16 H hP hD hS => ?_)
              have hP : va_P (dC, dI) vwCl [(h0, .inr (12, [.ref fi, t1, t2, .ref sl, .ref mx, t5])), (fi, .inr (5, [fna, fla, fv2, fv3, fv4, fv5, .int 0])), (sl, .inr (0, [.int lm, .ref d0, .int 0])), (mx, .inr (8, [m0, m1, m2, .ref cp, m4, m5, m6, m7, m8, .int m9, m10, m11])), (cp, .inl (tP, 6, .inr (.inr (.inr (.inr ((va_up (va_up (va_up (va_up (va_up (va_up (fun _ => none) 0 (some p0)) 1 (some p1)) 2 (some p2)) 3 (some p3)) 4 (some p4)) 5 (some p5)))))))), (p0, .inr (3, [x0, y0, z0, .int w0, .int ((-1)), .int g0, .int j0])), (p1, .inr (3, [x1, y1, z1, .int w1, .int ((-1)), .int g1, .int j1])), (p2, .inr (3, [x2, y2, z2, .int w2, .int ((-1)), .int g2, .int j2])), (p3, .inr (3, [x3, y3, z3, .int w3, .int ((-1)), .int g3, .int j3])), (p4, .inr (3, [x4, y4, z4, .int w4, .int ((-1)), .int g4, .int j4])), (p5, .inr (3, [x5, y5, z5, .int w5, .int ((-1)), .int g5, .int j5])), (q16, .inr (10, [.int 0, .int 0, .int 0, .null, .null, .null, .null, .null, .int 0]))] H := hP
              have hD : va_D A [(h0, .inr (12, [.ref fi, t1, t2, .ref sl, .ref mx, t5])), (fi, .inr (5, [fna, fla, fv2, fv3, fv4, fv5, .int 0])), (sl, .inr (0, [.int lm, .ref d0, .int 0])), (mx, .inr (8, [m0, m1, m2, .ref cp, m4, m5, m6, m7, m8, .int m9, m10, m11])), (cp, .inl (tP, 6, .inr (.inr (.inr (.inr ((va_up (va_up (va_up (va_up (va_up (va_up (fun _ => none) 0 (some p0)) 1 (some p1)) 2 (some p2)) 3 (some p3)) 4 (some p4)) 5 (some p5)))))))), (p0, .inr (3, [x0, y0, z0, .int w0, .int ((-1)), .int g0, .int j0])), (p1, .inr (3, [x1, y1, z1, .int w1, .int ((-1)), .int g1, .int j1])), (p2, .inr (3, [x2, y2, z2, .int w2, .int ((-1)), .int g2, .int j2])), (p3, .inr (3, [x3, y3, z3, .int w3, .int ((-1)), .int g3, .int j3])), (p4, .inr (3, [x4, y4, z4, .int w4, .int ((-1)), .int g4, .int j4])), (p5, .inr (3, [x5, y5, z5, .int w5, .int ((-1)), .int g5, .int j5])), (q16, .inr (10, [.int 0, .int 0, .int 0, .null, .null, .null, .null, .null, .int 0]))] := hD
              refine W.widen (k := 1) (n := 9) (Nat.le_of_ble_eq_true rfl) (Nat.le_of_ble_eq_true rfl) ?_
              refine lv_dup hx hb dX11_server_89 rfl ?_
              refine lv_iload_n hx hb dX11_server_90 rfl (lv_at hl 2 rfl) ?_
              refine lv_iload_n hx hb dX11_server_91 rfl (lv_at hl 3 rfl) ?_
              refine lv_iload_n hx hb dX11_server_92 rfl (lv_at hl 4 rfl) ?_
              refine lv_aload_n hx hb dX11_server_93 rfl (lv_at hl 1 rfl) ?_
              refine va_get (D := (dC, dI)) (ci := 12) (v := .ref fi) (C := RX11) (T := TX11) (N := 6) hx hb ht inGX11 hown hK hP 0 rfl rfl 0 (by decide) (ht _ q391) (fun _ h9 => h9) rfl dX11_server_94 ?_
              have hPc := hP.sub (ws' := [(q16, .inr (10, [.int 0, .int 0, .int 0, .null, .null, .null, .null, .null, .int 0]))]) [11] rfl
              have hDc := hD.sub (ws' := [(q16, .inr (10, [.int 0, .int 0, .int 0, .null, .null, .null, .null, .null, .int 0]))]) [11] (by decide) rfl
              have hKc := hK.sub (tys' := []) [] rfl
              have hFc := va_free (wc := [(q16, .inr (10, [.int 0, .int 0, .int 0, .null, .null, .null, .null, .null, .int 0]))]) hD hS hA [11] rfl
              refine va_callv (va_runI (As := [.int a1, .int a2, .int a3, .ref fi]) (rest := [.ref q16]) ⟨hx, hb, hml, hown, ht⟩ (k_X9_init l d0 cO dC dI H.size q16 0 0 0 0 .null .null .null .null .null a1 a2 a3 fi) (my_I ht M_X9_init q1199 rfl q1198 (Nat.le_of_ble_eq_true rfl) (Nat.le_of_ble_eq_true rfl)) ⟨PRE.fb, fun U hU hW => ⟨rfl, PRE.mk' hE hS hFc hPc hKc hDc U hU hW⟩⟩ rfl rfl hl.1 rfl (lv_room (Nat.le_of_ble_eq_true rfl)) dX11_server_97 ⟨(Nat.le_of_ble_eq_true rfl), (Nat.le_of_ble_eq_true rfl)⟩) hS (fun q _ h => hFc q h) hFc (fun u17 t H1 locs htt hvm hw hB hz1 hk1 hS => ?_)
              try dsimp only at hw hB
              obtain ⟨w419, w520, w621, w722, hP1, hK1, hD1⟩ := hB
              rw [htt] at hP1
              have hK1 := va_K.moved hvm.symm hK1
              obtain ⟨hP, hD⟩ := va_join (wr := [(h0, .inr (12, [.ref fi, t1, t2, .ref sl, .ref mx, t5])), (fi, .inr (5, [fna, fla, fv2, fv3, fv4, fv5, .int 0])), (sl, .inr (0, [.int lm, .ref d0, .int 0])), (mx, .inr (8, [m0, m1, m2, .ref cp, m4, m5, m6, m7, m8, .int m9, m10, m11])), (cp, .inl (tP, 6, .inr (.inr (.inr (.inr ((va_up (va_up (va_up (va_up (va_up (va_up (fun _ => none) 0 (some p0)) 1 (some p1)) 2 (some p2)) 3 (some p3)) 4 (some p4)) 5 (some p5)))))))), (p0, .inr (3, [x0, y0, z0, .int w0, .int ((-1)), .int g0, .int j0])), (p1, .inr (3, [x1, y1, z1, .int w1, .int ((-1)), .int g1, .int j1])), (p2, .inr (3, [x2, y2, z2, .int w2, .int ((-1)), .int g2, .int j2])), (p3, .inr (3, [x3, y3, z3, .int w3, .int ((-1)), .int g3, .int j3])), (p4, .inr (3, [x4, y4, z4, .int w4, .int ((-1)), .int g4, .int j4])), (p5, .inr (3, [x5, y5, z5, .int w5, .int ((-1)), .int g5, .int j5]))]) (w1 := [(q16, .inr (10, [.int a1, .int a2, .int a3, .ref fi, w419, w520, w621, w722, .int 1]))]) hP hD [11] [0, 1, 2, 3, 4, 5, 6, 7, 8, 9, 10] rfl rfl (by decide) (by decide) hk1 hFc hP1 hD1
              have hK := (hK.sub (tys' := [(tP, .object RX2)]) [0] rfl).app hK1
              generalize H1 = H at hP hS ⊢
              have hP : va_P (dC, dI) vwCl [(h0, .inr (12, [.ref fi, t1, t2, .ref sl, .ref mx, t5])), (fi, .inr (5, [fna, fla, fv2, fv3, fv4, fv5, .int 0])), (sl, .inr (0, [.int lm, .ref d0, .int 0])), (mx, .inr (8, [m0, m1, m2, .ref cp, m4, m5, m6, m7, m8, .int m9, m10, m11])), (cp, .inl (tP, 6, .inr (.inr (.inr (.inr ((va_up (va_up (va_up (va_up (va_up (va_up (fun _ => none) 0 (some p0)) 1 (some p1)) 2 (some p2)) 3 (some p3)) 4 (some p4)) 5 (some p5)))))))), (p0, .inr (3, [x0, y0, z0, .int w0, .int ((-1)), .int g0, .int j0])), (p1, .inr (3, [x1, y1, z1, .int w1, .int ((-1)), .int g1, .int j1])), (p2, .inr (3, [x2, y2, z2, .int w2, .int ((-1)), .int g2, .int j2])), (p3, .inr (3, [x3, y3, z3, .int w3, .int ((-1)), .int g3, .int j3])), (p4, .inr (3, [x4, y4, z4, .int w4, .int ((-1)), .int g4, .int j4])), (p5, .inr (3, [x5, y5, z5, .int w5, .int ((-1)), .int g5, .int j5])), (q16, .inr (10, [.int a1, .int a2, .int a3, .ref fi, w419, w520, w621, w722, .int 1]))] H := hP
              have hD : va_D A [(h0, .inr (12, [.ref fi, t1, t2, .ref sl, .ref mx, t5])), (fi, .inr (5, [fna, fla, fv2, fv3, fv4, fv5, .int 0])), (sl, .inr (0, [.int lm, .ref d0, .int 0])), (mx, .inr (8, [m0, m1, m2, .ref cp, m4, m5, m6, m7, m8, .int m9, m10, m11])), (cp, .inl (tP, 6, .inr (.inr (.inr (.inr ((va_up (va_up (va_up (va_up (va_up (va_up (fun _ => none) 0 (some p0)) 1 (some p1)) 2 (some p2)) 3 (some p3)) 4 (some p4)) 5 (some p5)))))))), (p0, .inr (3, [x0, y0, z0, .int w0, .int ((-1)), .int g0, .int j0])), (p1, .inr (3, [x1, y1, z1, .int w1, .int ((-1)), .int g1, .int j1])), (p2, .inr (3, [x2, y2, z2, .int w2, .int ((-1)), .int g2, .int j2])), (p3, .inr (3, [x3, y3, z3, .int w3, .int ((-1)), .int g3, .int j3])), (p4, .inr (3, [x4, y4, z4, .int w4, .int ((-1)), .int g4, .int j4])), (p5, .inr (3, [x5, y5, z5, .int w5, .int ((-1)), .int g5, .int j5])), (q16, .inr (10, [.int a1, .int a2, .int a3, .ref fi, w419, w520, w621, w722, .int 1]))] := hD
              have hK : va_K (dC, dI) vwCl [(tP, .object RX2)] s := hK
              refine W.widen (k := 39) (n := 1497) (Nat.le_of_ble_eq_true rfl) (Nat.le_of_ble_eq_true rfl) ?_
              refine lv_astore (lv' := [(5, .ref q16), (4, .int 0), (0, .ref h0), (1, .int a1), (2, .int a2), (3, .int a3)]) hx hb dX11_server_100 hl (by decide) rfl (fun ls hl => ?_)
              refine lv_aload_n hx hb dX11_server_102 rfl (lv_at hl 2 rfl) ?_
              refine va_get (D := (dC, dI)) (ci := 12) (v := .ref sl) (C := RX11) (T := TX11) (N := 6) hx hb ht inGX11 hown hK hP 0 rfl rfl 3 (by decide) (ht _ q394) (fun _ h9 => h9) rfl dX11_server_103 ?_
              refine lv_aload hx hb dX11_server_106 (lv_at hl 0 rfl) ?_
              have hPc := hP.sub (ws' := [(sl, .inr (0, [.int lm, .ref d0, .int 0])), (q16, .inr (10, [.int a1, .int a2, .int a3, .ref fi, w419, w520, w621, w722, .int 1]))]) [2, 11] rfl
              have hDc := hD.sub (ws' := [(sl, .inr (0, [.int lm, .ref d0, .int 0])), (q16, .inr (10, [.int a1, .int a2, .int a3, .ref fi, w419, w520, w621, w722, .int 1]))]) [2, 11] (by decide) rfl
              have hKc := hK.sub (tys' := []) [] rfl
              have hFc := va_free (wc := [(sl, .inr (0, [.int lm, .ref d0, .int 0])), (q16, .inr (10, [.int a1, .int a2, .int a3, .ref fi, w419, w520, w621, w722, .int 1]))]) hD hS hA [2, 11] rfl
              refine va_calli (va_runV (As := [.ref q16]) (rest := []) ⟨hx, hb, hml, hown, ht⟩ (k_Jx4a65c_add_9ea2d l d0 cO dC dI H.size sl lm q16 a1 a2 a3 1 (.ref fi) w419 w520 w621 w722) (my_V ht M_Jx4a65c_add_9ea2d q779 q780 q1238 (Nat.le_of_ble_eq_true rfl) (Nat.le_of_ble_eq_true rfl)) ⟨PRE.fb, va_recv hK hP (ci := 0) (q0 := 2) rfl rfl, fun U hU hW => ⟨rfl, PRE.mk' hE hS hFc hPc hKc hDc U hU hW⟩⟩ rfl rfl hl.1 rfl (lv_room (Nat.le_of_ble_eq_true rfl)) dX11_server_108 ⟨(Nat.le_of_ble_eq_true rfl), (Nat.le_of_ble_eq_true rfl)⟩) hS (fun q _ h => hFc q h) hFc (fun r24 u23 t H1 locs htt hvm hw hB hz1 hk1 hS => ?_)
              try dsimp only at hw hB
              obtain ⟨hP1, hK1, hD1⟩ := hB
              rw [htt] at hP1
              have hK1 := va_K.moved hvm.symm hK1
              obtain ⟨hP, hD⟩ := va_join (wr := [(h0, .inr (12, [.ref fi, t1, t2, .ref sl, .ref mx, t5])), (fi, .inr (5, [fna, fla, fv2, fv3, fv4, fv5, .int 0])), (mx, .inr (8, [m0, m1, m2, .ref cp, m4, m5, m6, m7, m8, .int m9, m10, m11])), (cp, .inl (tP, 6, .inr (.inr (.inr (.inr ((va_up (va_up (va_up (va_up (va_up (va_up (fun _ => none) 0 (some p0)) 1 (some p1)) 2 (some p2)) 3 (some p3)) 4 (some p4)) 5 (some p5)))))))), (p0, .inr (3, [x0, y0, z0, .int w0, .int ((-1)), .int g0, .int j0])), (p1, .inr (3, [x1, y1, z1, .int w1, .int ((-1)), .int g1, .int j1])), (p2, .inr (3, [x2, y2, z2, .int w2, .int ((-1)), .int g2, .int j2])), (p3, .inr (3, [x3, y3, z3, .int w3, .int ((-1)), .int g3, .int j3])), (p4, .inr (3, [x4, y4, z4, .int w4, .int ((-1)), .int g4, .int j4])), (p5, .inr (3, [x5, y5, z5, .int w5, .int ((-1)), .int g5, .int j5]))]) (w1 := []) hP hD [2, 11] [0, 1, 3, 4, 5, 6, 7, 8, 9, 10] rfl rfl (by decide) (by decide) hk1 hFc hP1 hD1
              have hK := (hK.sub (tys' := [(tP, .object RX2)]) [0] rfl).app hK1
              generalize H1 = H at hP hS ⊢
              have hP : va_P (dC, dI) vwCl [(h0, .inr (12, [.ref fi, t1, t2, .ref sl, .ref mx, t5])), (fi, .inr (5, [fna, fla, fv2, fv3, fv4, fv5, .int 0])), (mx, .inr (8, [m0, m1, m2, .ref cp, m4, m5, m6, m7, m8, .int m9, m10, m11])), (cp, .inl (tP, 6, .inr (.inr (.inr (.inr ((va_up (va_up (va_up (va_up (va_up (va_up (fun _ => none) 0 (some p0)) 1 (some p1)) 2 (some p2)) 3 (some p3)) 4 (some p4)) 5 (some p5)))))))), (p0, .inr (3, [x0, y0, z0, .int w0, .int ((-1)), .int g0, .int j0])), (p1, .inr (3, [x1, y1, z1, .int w1, .int ((-1)), .int g1, .int j1])), (p2, .inr (3, [x2, y2, z2, .int w2, .int ((-1)), .int g2, .int j2])), (p3, .inr (3, [x3, y3, z3, .int w3, .int ((-1)), .int g3, .int j3])), (p4, .inr (3, [x4, y4, z4, .int w4, .int ((-1)), .int g4, .int j4])), (p5, .inr (3, [x5, y5, z5, .int w5, .int ((-1)), .int g5, .int j5]))] H := hP
              have hD : va_D A [(h0, .inr (12, [.ref fi, t1, t2, .ref sl, .ref mx, t5])), (fi, .inr (5, [fna, fla, fv2, fv3, fv4, fv5, .int 0])), (mx, .inr (8, [m0, m1, m2, .ref cp, m4, m5, m6, m7, m8, .int m9, m10, m11])), (cp, .inl (tP, 6, .inr (.inr (.inr (.inr ((va_up (va_up (va_up (va_up (va_up (va_up (fun _ => none) 0 (some p0)) 1 (some p1)) 2 (some p2)) 3 (some p3)) 4 (some p4)) 5 (some p5)))))))), (p0, .inr (3, [x0, y0, z0, .int w0, .int ((-1)), .int g0, .int j0])), (p1, .inr (3, [x1, y1, z1, .int w1, .int ((-1)), .int g1, .int j1])), (p2, .inr (3, [x2, y2, z2, .int w2, .int ((-1)), .int g2, .int j2])), (p3, .inr (3, [x3, y3, z3, .int w3, .int ((-1)), .int g3, .int j3])), (p4, .inr (3, [x4, y4, z4, .int w4, .int ((-1)), .int g4, .int j4])), (p5, .inr (3, [x5, y5, z5, .int w5, .int ((-1)), .int g5, .int j5]))] := hD
              have hK : va_K (dC, dI) vwCl [(tP, .object RX2)] s := hK
              refine W.widen (k := 40) (n := 1507) (Nat.le_of_ble_eq_true rfl) (Nat.le_of_ble_eq_true rfl) ?_
              refine lv_pop hx hb dX11_server_111 rfl ?_
              refine lv_iload hx hb dX11_server_112 (lv_at hl 1 rfl) ?_
              have hP9 := hP.sub (ws' := []) [] rfl
              have hD9 := hD.sub (ws' := []) [] (by decide) rfl
              have hK9 := hK.sub (tys' := []) [] rfl
              refine W.widen (k := 40) (n := 1507) (Nat.le_of_ble_eq_true rfl) (Nat.le_of_ble_eq_true rfl) ?_
              refine vx_ret ?_
              exact W.iret (v := 0) hx hb hr (fun t ht9 hW9 => ⟨⟨0, (), rfl, ⟨(by simp only [Int32.le_iff_toInt_le, Int32.lt_iff_toInt_lt, ← Int32.toInt_inj, li0, li1, li2, li3, li5, li6, li7, li9, li10, li32, li48, li57, li63, li97, li122, lim1] at c1 c2 c3 c4 c5 c6 ⊢; omega), rfl⟩, POW.mk' ht9 hW9.alike hP9 hK9 hD9⟩, hS.F ht9⟩) hS.2.2 dX11_server_114
            · skip
              obtain ⟨sa, hstr⟩ := hE.2.1 (111, "no such kinds, languages or style") (by decide +kernel)
              exact vx_throwS (A := A) hx hb hL hown (by decide +kernel) (by decide +kernel) (ht _ q1021) (ht _ q139) hstr (fun w h => ht w (at_X11_63 w h)) (by decide +kernel) hE.2.2.2.2.1 hE.2.2.2.2.2 hS (by rw [hml]; exact hl.1) dX11_server_31 dX11_server_34 dX11_server_35 dX11_server_37 dX11_server_40 (fun x h => (hno x h).elim) (Nat.le_of_ble_eq_true rfl) (Nat.le_of_ble_eq_true rfl) (Nat.le_of_ble_eq_true rfl) (Nat.le_of_ble_eq_true rfl) hlocks (fun t hvm hz hk => ⟨(), trivial, ⟨rfl, fun h => by simp only [Int32.le_iff_toInt_le, Int32.lt_iff_toInt_lt, ← Int32.toInt_inj, li0, li1, li2, li3, li5, li6, li7, li9, li10, li32, li48, li57, li63, li97, li122, lim1] at h c1 c2 c3 c4 c5 c6; omega⟩, ⟨Nat.le_trans hS.1 hz, fun q h1 h2 => by rw [hk q (Nat.lt_of_lt_of_le h1 hS.1)]; exact hS.2.1 q h1 h2⟩⟩) hS.2.2 (Nat.le_of_ble_eq_true rfl) (Nat.le_of_ble_eq_true rfl)
set_option maxHeartbeats 4000000 in
set_option maxRecDepth 100000 in
theorem k_X1_size (l : Launch) (d0 : Nat) (cO : ClassId) (dC : Nat → ClassId) (dI : Nat → Nat → Nat) (sz : Nat) (h0 l0 : Nat) (mc : Int32) (ve : Value) : Met l yX1_size (cn yX1_size cX1_size 1 (some FieldType.int)) (rmd 1 0 0) (va_Pc [.ref h0] (PREp d0 cO (dC, dI) (va_A [] sz) [(h0, .inr (2, [.ref l0])), (l0, .inr (0, [.int mc, ve, .int 0]))] [] sz)) (va_Qi (fun (r : Int32) (_ : Unit) => r = 0) (fun (_ : Unit) (t : State) => va_P (dC, dI) vwCl [] t.heap) (va_A [] sz)) 0 0 (va_A [] sz) := by
  refine Met.ofW (cc := cX1_size) (maxL := 1) (ret := (some FieldType.int)) (by decide) rfl ?_
  intro p e s m args below meth c s₁ B hml hv
  obtain ⟨rfl, hsz, hE, hP, hK⟩ := hv
  have hx := B.exec
  have hb := B.bytes
  have hr := B.returns
  have hts := atoms_spec (ws := cn yX1_size cX1_size 1 (some FieldType.int)) B.pre
  have ht : ∀ w ∈ GT, w.before _ s = true := fun w h => hts w (List.mem_cons_of_mem _ h)
  have hown : s.vm.findClass RX1 = some m.cls := findClass_of_methodNamed B.named
  have hlocks := B.notSynchronized
  subst hsz
  generalize hAe : va_A [] s.heap.size = A at hE ⊢
  have hA : ∀ q : Nat, s.heap.size ≤ q → A q := fun q h => by rw [← hAe]; exact Or.inr h
  obtain ⟨H, hH0⟩ : ∃ H, s.heap = H := ⟨_, rfl⟩
  have hS : va_S A s.heap H [] := by rw [← hH0]; exact va_S.rf
  rw [hH0] at hP
  have hl := lv_entry ([.ref h0]) (n := 1) (Nat.le_of_ble_eq_true rfl)
  rw [lg_entry_eq]
  generalize (lg_sl ([.ref h0]) ++ List.replicate (1 - (lg_sl ([.ref h0])).length) Slot.unset).toArray = ls at hl ⊢
  have hl : lv_has ls 1 [(0, .ref h0)] := hl
  rw [hH0]
  refine lv_aload_n hx hb dX1_size_0 rfl (lv_at hl 0 rfl) ?_
  refine va_get (D := (dC, dI)) (ci := 2) (v := .ref l0) (C := RX1) (T := TX1) (N := 1) hx hb ht inGX1 hown hK hP 0 rfl rfl 0 (by decide) (ht _ q240) (fun _ h9 => h9) rfl dX1_size_1 ?_
  have hPc := hP.sub (ws' := [(l0, .inr (0, [.int mc, ve, .int 0]))]) [1] rfl
  have hKc := hK.sub (tys' := []) [] rfl
  have hFc := freeNil hS hA
  refine va_calli (va_runV (As := []) (rest := []) ⟨hx, hb, hml, hown, ht⟩ (k_Jx4a65c_size_8abf5 l d0 cO dC dI H.size l0 mc ve 0) (my_V ht M_Jx4a65c_size_8abf5 q424 q425 q423 (Nat.le_of_ble_eq_true rfl) (Nat.le_of_ble_eq_true rfl)) ⟨PREp.fb, va_recv hK hP (ci := 0) (q0 := 1) rfl rfl, fun U hU hW => ⟨rfl, PREp.mk' hE hS hFc hPc hKc U hU hW⟩⟩ rfl rfl hl.1 rfl (lv_room (Nat.le_of_ble_eq_true rfl)) dX1_size_4 ⟨(Nat.le_of_ble_eq_true rfl), (Nat.le_of_ble_eq_true rfl)⟩) hS (fun q _ h => hFc q h) hFc (fun r2 u1 t H1 locs htt hvm hw hB hz1 hk1 hS => ?_)
  try dsimp only at hw hB
  have hP1 := hB
  rw [htt] at hP1
  have hP := keepAll hP hk1
  generalize H1 = H at hP hS ⊢
  have hP : va_P (dC, dI) vwCl [(h0, .inr (2, [.ref l0])), (l0, .inr (0, [.int mc, ve, .int 0]))] H := hP
  have hK : va_K (dC, dI) vwCl [] s := hK
  refine W.widen (k := 0) (n := 0) (Nat.le_of_ble_eq_true rfl) (Nat.le_of_ble_eq_true rfl) ?_
  subst hw
  have hP9 := hP.sub (ws' := []) [] rfl
  have hK9 := hK.sub (tys' := []) [] rfl
  refine W.widen (k := 0) (n := 0) (Nat.le_of_ble_eq_true rfl) (Nat.le_of_ble_eq_true rfl) ?_
  exact W.iret (v := 0) hx hb hr (fun t ht9 hW9 => ⟨⟨0, (), rfl, rfl, ppk ht9 hP9⟩, hS.F ht9⟩) hS.2.2 dX1_size_7
set_option maxHeartbeats 4000000 in
set_option maxRecDepth 100000 in
theorem k_Jx4a65c_isEmpty_aae02 (l : Launch) (d0 : Nat) (cO : ClassId) (dC : Nat → ClassId) (dI : Nat → Nat → Nat) (sz : Nat) (h0 : Nat) (mc : Int32) (ve : Value) : Met l yJx4a65c_isEmpty_aae02 (cn yJx4a65c_isEmpty_aae02 cJx4a65c_isEmpty_aae02 1 (some FieldType.boolean)) (rmd 0 0 0) (va_Pc [.ref h0] (PREp d0 cO (dC, dI) (va_A [] sz) [(h0, .inr (0, [.int mc, ve, .int 0]))] [] sz)) (va_Qi (fun (r : Int32) (_ : Unit) => r = 1) (fun (_ : Unit) (t : State) => va_P (dC, dI) vwCl [] t.heap) (va_A [] sz)) 0 0 (va_A [] sz) := by
  refine Met.ofW (cc := cJx4a65c_isEmpty_aae02) (maxL := 1) (ret := (some FieldType.boolean)) (by decide) rfl ?_
  intro p e s m args below meth c s₁ B hml hv
  obtain ⟨rfl, hsz, hE, hP, hK⟩ := hv
  have hx := B.exec
  have hb := B.bytes
  have hr := B.returns
  have hts := atoms_spec (ws := cn yJx4a65c_isEmpty_aae02 cJx4a65c_isEmpty_aae02 1 (some FieldType.boolean)) B.pre
  have ht : ∀ w ∈ GT, w.before _ s = true := fun w h => hts w (List.mem_cons_of_mem _ h)
  have hown : s.vm.findClass RJx4a65c = some m.cls := findClass_of_methodNamed B.named
  have hlocks := B.notSynchronized
  subst hsz
  generalize hAe : va_A [] s.heap.size = A at hE ⊢
  have hA : ∀ q : Nat, s.heap.size ≤ q → A q := fun q h => by rw [← hAe]; exact Or.inr h
  obtain ⟨H, hH0⟩ : ∃ H, s.heap = H := ⟨_, rfl⟩
  have hS : va_S A s.heap H [] := by rw [← hH0]; exact va_S.rf
  rw [hH0] at hP
  have hl := lv_entry ([.ref h0]) (n := 1) (Nat.le_of_ble_eq_true rfl)
  rw [lg_entry_eq]
  generalize (lg_sl ([.ref h0]) ++ List.replicate (1 - (lg_sl ([.ref h0])).length) Slot.unset).toArray = ls at hl ⊢
  have hl : lv_has ls 1 [(0, .ref h0)] := hl
  rw [hH0]
  refine lv_aload_n hx hb dJx4a65c_isEmpty_aae02_0 rfl (lv_at hl 0 rfl) ?_
  refine va_get (D := (dC, dI)) (ci := 0) (v := .int 0) (C := RJx4a65c) (T := TJx4a65c) (N := 3) hx hb ht inGJx4a65c hown hK hP 0 rfl rfl 2 (by decide) (ht _ q220) (fun _ h9 => h9) rfl dJx4a65c_isEmpty_aae02_1 ?_
  refine lv_if_ne (tgt := 11) hx hb dJx4a65c_isEmpty_aae02_4 (by decide) (fun c1 => False.elim (by revert c1; decide)) (fun c1 => ?_)
  refine lv_iconst (v := 1) hx hb dJx4a65c_isEmpty_aae02_7 (by decide) ?_
  refine lv_goto (tgt := 12) hx hb dJx4a65c_isEmpty_aae02_8 (by decide) ?_
  have hP9 := hP.sub (ws' := []) [] rfl
  have hK9 := hK.sub (tys' := []) [] rfl
  refine W.widen (k := 0) (n := 0) (Nat.le_of_ble_eq_true rfl) (Nat.le_of_ble_eq_true rfl) ?_
  exact W.zret (v := 1) hx hb hr (by first | decide | rfl) (fun t ht9 hW9 => ⟨⟨1, (), rfl, rfl, ppk ht9 hP9⟩, hS.F ht9⟩) hS.2.2 dJx4a65c_isEmpty_aae02_12
set_option maxHeartbeats 4000000 in
set_option maxRecDepth 100000 in
theorem k_X1_takeFirst (l : Launch) (d0 : Nat) (cO : ClassId) (dC : Nat → ClassId) (dI : Nat → Nat → Nat) (sz : Nat) (h0 l0 : Nat) (mc : Int32) (ve : Value) : Met l yX1_takeFirst (cn yX1_takeFirst cX1_takeFirst 2 (some (FieldType.object "ToolPlex$Message"))) (rmd 1 0 0) (va_Pc [.ref h0] (PREp d0 cO (dC, dI) (va_A [] sz) [(h0, .inr (2, [.ref l0])), (l0, .inr (0, [.int mc, ve, .int 0]))] [] sz)) (va_Qq (fun (r : Option Nat) (_ : Unit) => r = none) (fun (_ : Unit) (t : State) => va_P (dC, dI) vwCl [] t.heap) (va_A [] sz)) 0 0 (va_A [] sz) := by
  refine Met.ofW (cc := cX1_takeFirst) (maxL := 2) (ret := (some (FieldType.object "ToolPlex$Message"))) (by decide) rfl ?_
  intro p e s m args below meth c s₁ B hml hv
  obtain ⟨rfl, hsz, hE, hP, hK⟩ := hv
  have hx := B.exec
  have hb := B.bytes
  have hr := B.returns
  have hts := atoms_spec (ws := cn yX1_takeFirst cX1_takeFirst 2 (some (FieldType.object "ToolPlex$Message"))) B.pre
  have ht : ∀ w ∈ GT, w.before _ s = true := fun w h => hts w (List.mem_cons_of_mem _ h)
  have hown : s.vm.findClass RX1 = some m.cls := findClass_of_methodNamed B.named
  have hlocks := B.notSynchronized
  subst hsz
  generalize hAe : va_A [] s.heap.size = A at hE ⊢
  have hA : ∀ q : Nat, s.heap.size ≤ q → A q := fun q h => by rw [← hAe]; exact Or.inr h
  obtain ⟨H, hH0⟩ : ∃ H, s.heap = H := ⟨_, rfl⟩
  have hS : va_S A s.heap H [] := by rw [← hH0]; exact va_S.rf
  rw [hH0] at hP
  have hl := lv_entry ([.ref h0]) (n := 2) (Nat.le_of_ble_eq_true rfl)
  rw [lg_entry_eq]
  generalize (lg_sl ([.ref h0]) ++ List.replicate (2 - (lg_sl ([.ref h0])).length) Slot.unset).toArray = ls at hl ⊢
  have hl : lv_has ls 2 [(0, .ref h0)] := hl
  rw [hH0]
  refine lv_aload_n hx hb dX1_takeFirst_0 rfl (lv_at hl 0 rfl) ?_
  refine va_get (D := (dC, dI)) (ci := 2) (v := .ref l0) (C := RX1) (T := TX1) (N := 1) hx hb ht inGX1 hown hK hP 0 rfl rfl 0 (by decide) (ht _ q240) (fun _ h9 => h9) rfl dX1_takeFirst_1 ?_
  have hPc := hP.sub (ws' := [(l0, .inr (0, [.int mc, ve, .int 0]))]) [1] rfl
  have hKc := hK.sub (tys' := []) [] rfl
  have hFc := freeNil hS hA
  refine va_calli (va_runV (As := []) (rest := []) ⟨hx, hb, hml, hown, ht⟩ (k_Jx4a65c_isEmpty_aae02 l d0 cO dC dI H.size l0 mc ve) (my_V ht M_Jx4a65c_isEmpty_aae02 q436 q437 q435 (Nat.le_of_ble_eq_true rfl) (Nat.le_of_ble_eq_true rfl)) ⟨PREp.fb, va_recv hK hP (ci := 0) (q0 := 1) rfl rfl, fun U hU hW => ⟨rfl, PREp.mk' hE hS hFc hPc hKc U hU hW⟩⟩ rfl rfl hl.1 rfl (lv_room (Nat.le_of_ble_eq_true rfl)) dX1_takeFirst_4 ⟨(Nat.le_of_ble_eq_true rfl), (Nat.le_of_ble_eq_true rfl)⟩) hS (fun q _ h => hFc q h) hFc (fun r2 u1 t H1 locs htt hvm hw hB hz1 hk1 hS => ?_)
  try dsimp only at hw hB
  have hP1 := hB
  rw [htt] at hP1
  have hP := keepAll hP hk1
  generalize H1 = H at hP hS ⊢
  have hP : va_P (dC, dI) vwCl [(h0, .inr (2, [.ref l0])), (l0, .inr (0, [.int mc, ve, .int 0]))] H := hP
  have hK : va_K (dC, dI) vwCl [] s := hK
  refine W.widen (k := 0) (n := 0) (Nat.le_of_ble_eq_true rfl) (Nat.le_of_ble_eq_true rfl) ?_
  subst hw
  refine lv_if_eq (tgt := 12) hx hb dX1_takeFirst_7 (by decide) (fun c3 => False.elim (by revert c3; decide)) (fun c3 => ?_)
  refine lv_null hx hb dX1_takeFirst_10 ?_
  have hP9 := hP.sub (ws' := []) [] rfl
  have hK9 := hK.sub (tys' := []) [] rfl
  refine W.widen (k := 0) (n := 0) (Nat.le_of_ble_eq_true rfl) (Nat.le_of_ble_eq_true rfl) ?_
  exact W.aret (v := .null) hx hb hr (by first | exact Or.inl ⟨_, rfl⟩ | exact Or.inr ⟨_, rfl⟩) (by first | exact Or.inl rfl | exact Or.inr ⟨_, rfl⟩) (fun t ht9 hW9 => ⟨⟨none, (), rfl, rfl, ppk ht9 hP9⟩, hS.F ht9⟩) hS.2.2 dX1_takeFirst_11
set_option maxHeartbeats 4000000 in
set_option maxRecDepth 100000 in
theorem k_X11_checkChannel (l : Launch) (hL : l.stackTraces = false) (d0 : Nat) (cO : ClassId) (dC : Nat → ClassId) (dI : Nat → Nat → Nat) (sz : Nat) (h0 ca : Nat) (t0 t2 t3 t4 t5 : Value) (tH : ClassId) (ch0 ch1 ch2 ch3 ch4 ch5 ch6 ch7 ch8 ch9 : Nat) (lc0 lc1 lc2 lc3 lc4 lc5 lc6 lc7 lc8 lc9 : Nat) (lm0 lm1 lm2 lm3 lm4 lm5 lm6 lm7 lm8 lm9 : Int32) (le0 le1 le2 le3 le4 le5 le6 le7 le8 le9 : Value) (a1 : Int32) : vx_Met l yX11_checkChannel (cn yX11_checkChannel cX11_checkChannel 2 none) (rmd 6 1 6) (va_Pc [.ref h0, .int a1] (PREp d0 cO (dC, dI) (va_A [] sz) [(h0, .inr (12, [t0, .ref ca, t2, t3, t4, t5])), (ca, .inl (tH, 10, .inr (.inr (.inr (.inr ((va_up (va_up (va_up (va_up (va_up (va_up (va_up (va_up (va_up (va_up (fun _ => none) 0 (some ch0)) 1 (some ch1)) 2 (some ch2)) 3 (some ch3)) 4 (some ch4)) 5 (some ch5)) 6 (some ch6)) 7 (some ch7)) 8 (some ch8)) 9 (some ch9)))))))), (ch0, .inr (2, [.ref lc0])), (ch1, .inr (2, [.ref lc1])), (ch2, .inr (2, [.ref lc2])), (ch3, .inr (2, [.ref lc3])), (ch4, .inr (2, [.ref lc4])), (ch5, .inr (2, [.ref lc5])), (ch6, .inr (2, [.ref lc6])), (ch7, .inr (2, [.ref lc7])), (ch8, .inr (2, [.ref lc8])), (ch9, .inr (2, [.ref lc9])), (lc0, .inr (0, [.int lm0, le0, .int 0])), (lc1, .inr (0, [.int lm1, le1, .int 0])), (lc2, .inr (0, [.int lm2, le2, .int 0])), (lc3, .inr (0, [.int lm3, le3, .int 0])), (lc4, .inr (0, [.int lm4, le4, .int 0])), (lc5, .inr (0, [.int lm5, le5, .int 0])), (lc6, .inr (0, [.int lm6, le6, .int 0])), (lc7, .inr (0, [.int lm7, le7, .int 0])), (lc8, .inr (0, [.int lm8, le8, .int 0])), (lc9, .inr (0, [.int lm9, le9, .int 0]))] [(tH, .object RX1)] sz)) (va_Qv (fun (_ : Unit) => 0 ≤ a1 ∧ a1 ≤ 9) (fun (_ : Unit) (t : State) => va_P (dC, dI) vwCl [] t.heap) (va_A [] sz)) (vx_X (fun _ : Unit => True) (fun E _ _ => E = "java/lang/IndexOutOfBoundsException" ∧ ¬ (0 ≤ a1 ∧ a1 ≤ 9)) (va_A [] sz)) 1 6 (va_A [] sz) := by
  refine vx_ofW (cc := cX11_checkChannel) (maxL := 2) (ret := none) (by decide) rfl ?_
  intro p e s m args below meth c s₁ B hml hno hv
  obtain ⟨rfl, hsz, hE, hP, hK⟩ := hv
  have hx := B.exec
  have hb := B.bytes
  have hr := B.returns
  have hts := atoms_spec (ws := cn yX11_checkChannel cX11_checkChannel 2 none) B.pre
  have ht : ∀ w ∈ GT, w.before _ s = true := fun w h => hts w (List.mem_cons_of_mem _ h)
  have hown : s.vm.findClass RX11 = some m.cls := findClass_of_methodNamed B.named
  have hlocks := B.notSynchronized
  subst hsz
  generalize hAe : va_A [] s.heap.size = A at hE ⊢
  have hA : ∀ q : Nat, s.heap.size ≤ q → A q := fun q h => by rw [← hAe]; exact Or.inr h
  obtain ⟨H, hH0⟩ : ∃ H, s.heap = H := ⟨_, rfl⟩
  have hS : va_S A s.heap H [] := by rw [← hH0]; exact va_S.rf
  rw [hH0] at hP
  have hl := lv_entry ([.ref h0, .int a1]) (n := 2) (Nat.le_of_ble_eq_true rfl)
  rw [lg_entry_eq]
  generalize (lg_sl ([.ref h0, .int a1]) ++ List.replicate (2 - (lg_sl ([.ref h0, .int a1])).length) Slot.unset).toArray = ls at hl ⊢
  have hl : lv_has ls 2 [(0, .ref h0), (1, .int a1)] := hl
  rw [hH0]
  refine lv_iload_n hx hb dX11_checkChannel_0 rfl (lv_at hl 1 rfl) ?_
  refine lv_if_lt (tgt := 13) hx hb dX11_checkChannel_1 (by decide) (fun c1 => ?_) (fun c1 => ?_)
  · skip
    obtain ⟨sa, hstr⟩ := hE.2.1 (370, "no such channel") (by decide +kernel)
    exact vx_throwSW (A := A) hx hb hL hown (by decide +kernel) (by decide +kernel) (ht _ q1130) (ht _ q141) hstr (fun w h => ht w (at_X11_258 w h)) (by decide +kernel) hE.2.2.2.2.1 hE.2.2.2.2.2 hS (by rw [hml]; exact hl.1) dX11_checkChannel_13 dX11_checkChannel_16 dX11_checkChannel_17 dX11_checkChannel_20 dX11_checkChannel_23 (fun x h => (hno x h).elim) (Nat.le_of_ble_eq_true rfl) (Nat.le_of_ble_eq_true rfl) (Nat.le_of_ble_eq_true rfl) (Nat.le_of_ble_eq_true rfl) hlocks (fun t hvm hz hk => ⟨(), trivial, ⟨rfl, fun h => by simp only [Int32.le_iff_toInt_le, Int32.lt_iff_toInt_lt, ← Int32.toInt_inj, li0, li1, li2, li3, li5, li6, li7, li9, li10, li32, li48, li57, li63, li97, li122, lim1] at h c1; omega⟩, ⟨Nat.le_trans hS.1 hz, fun q h1 h2 => by rw [hk q (Nat.lt_of_lt_of_le h1 hS.1)]; exact hS.2.1 q h1 h2⟩⟩) hS.2.2 (Nat.le_of_ble_eq_true rfl) (Nat.le_of_ble_eq_true rfl)
  · skip
    refine lv_iload_n hx hb dX11_checkChannel_4 rfl (lv_at hl 1 rfl) ?_
    refine lv_aload_n hx hb dX11_checkChannel_5 rfl (lv_at hl 0 rfl) ?_
    refine va_get (D := (dC, dI)) (ci := 12) (v := .ref ca) (C := RX11) (T := TX11) (N := 6) hx hb ht inGX11 hown hK hP 0 rfl rfl 1 (by decide) (ht _ q392) (fun _ h9 => h9) rfl dX11_checkChannel_6 ?_
    refine va_alen (v := 10) hx hb hK hP 1 0 rfl rfl rfl dX11_checkChannel_9 ?_
    refine lv_icmp_lt (tgt := 24) hx hb dX11_checkChannel_10 (by decide) (fun c2 => ?_) (fun c2 => ?_)
    · skip
      have hP9 := hP.sub (ws' := []) [] rfl
      have hK9 := hK.sub (tys' := [(tH, .object RX1)]) [0] rfl
      refine W.widen (k := 1) (n := 6) (Nat.le_of_ble_eq_true rfl) (Nat.le_of_ble_eq_true rfl) ?_
      refine vx_ret ?_
      exact W.vret hx hb hr (fun t ht9 hW9 => ⟨⟨(), rfl, (by simp only [Int32.le_iff_toInt_le, Int32.lt_iff_toInt_lt, ← Int32.toInt_inj, li0, li1, li2, li3, li5, li6, li7, li9, li10, li32, li48, li57, li63, li97, li122, lim1] at c1 c2 ⊢; omega), ppk ht9 hP9⟩, hS.F ht9⟩) hS.2.2 dX11_checkChannel_24
    · skip
      obtain ⟨sa, hstr⟩ := hE.2.1 (370, "no such channel") (by decide +kernel)
      exact vx_throwSW (A := A) hx hb hL hown (by decide +kernel) (by decide +kernel) (ht _ q1130) (ht _ q141) hstr (fun w h => ht w (at_X11_258 w h)) (by decide +kernel) hE.2.2.2.2.1 hE.2.2.2.2.2 hS (by rw [hml]; exact hl.1) dX11_checkChannel_13 dX11_checkChannel_16 dX11_checkChannel_17 dX11_checkChannel_20 dX11_checkChannel_23 (fun x h => (hno x h).elim) (Nat.le_of_ble_eq_true rfl) (Nat.le_of_ble_eq_true rfl) (Nat.le_of_ble_eq_true rfl) (Nat.le_of_ble_eq_true rfl) hlocks (fun t hvm hz hk => ⟨(), trivial, ⟨rfl, fun h => by simp only [Int32.le_iff_toInt_le, Int32.lt_iff_toInt_lt, ← Int32.toInt_inj, li0, li1, li2, li3, li5, li6, li7, li9, li10, li32, li48, li57, li63, li97, li122, lim1] at h c1 c2; omega⟩, ⟨Nat.le_trans hS.1 hz, fun q h1 h2 => by rw [hk q (Nat.lt_of_lt_of_le h1 hS.1)]; exact hS.2.1 q h1 h2⟩⟩) hS.2.2 (Nat.le_of_ble_eq_true rfl) (Nat.le_of_ble_eq_true rfl)
set_option maxHeartbeats 4000000 in
set_option maxRecDepth 100000 in
theorem k_X11_pass (l : Launch) (d0 : Nat) (cO : ClassId) (dC : Nat → ClassId) (dI : Nat → Nat → Nat) (sz : Nat) (h0 ca : Nat) (t0 t2 t3 t4 t5 : Value) (tH : ClassId) (ch0 ch1 ch2 ch3 ch4 ch5 ch6 ch7 ch8 ch9 : Nat) (lc0 lc1 lc2 lc3 lc4 lc5 lc6 lc7 lc8 lc9 : Nat) (lm0 lm1 lm2 lm3 lm4 lm5 lm6 lm7 lm8 lm9 : Int32) (le0 le1 le2 le3 le4 le5 le6 le7 le8 le9 : Value) (a1 : Int32) : Met l yX11_pass (cn yX11_pass cX11_pass 3 (some FieldType.int)) (rmd 2 0 0) (va_Pc [.ref h0, .int a1] (PREp d0 cO (dC, dI) (va_A [] sz) [(h0, .inr (12, [t0, .ref ca, t2, t3, t4, t5])), (ca, .inl (tH, 10, .inr (.inr (.inr (.inr ((va_up (va_up (va_up (va_up (va_up (va_up (va_up (va_up (va_up (va_up (fun _ => none) 0 (some ch0)) 1 (some ch1)) 2 (some ch2)) 3 (some ch3)) 4 (some ch4)) 5 (some ch5)) 6 (some ch6)) 7 (some ch7)) 8 (some ch8)) 9 (some ch9)))))))), (ch0, .inr (2, [.ref lc0])), (ch1, .inr (2, [.ref lc1])), (ch2, .inr (2, [.ref lc2])), (ch3, .inr (2, [.ref lc3])), (ch4, .inr (2, [.ref lc4])), (ch5, .inr (2, [.ref lc5])), (ch6, .inr (2, [.ref lc6])), (ch7, .inr (2, [.ref lc7])), (ch8, .inr (2, [.ref lc8])), (ch9, .inr (2, [.ref lc9])), (lc0, .inr (0, [.int lm0, le0, .int 0])), (lc1, .inr (0, [.int lm1, le1, .int 0])), (lc2, .inr (0, [.int lm2, le2, .int 0])), (lc3, .inr (0, [.int lm3, le3, .int 0])), (lc4, .inr (0, [.int lm4, le4, .int 0])), (lc5, .inr (0, [.int lm5, le5, .int 0])), (lc6, .inr (0, [.int lm6, le6, .int 0])), (lc7, .inr (0, [.int lm7, le7, .int 0])), (lc8, .inr (0, [.int lm8, le8, .int 0])), (lc9, .inr (0, [.int lm9, le9, .int 0]))] [(tH, .object RX1)] sz)) (va_Qi (fun (r : Int32) (_ : Unit) => r = -1) (fun (_ : Unit) (t : State) => va_P (dC, dI) vwCl [] t.heap) (va_A [] sz)) 0 0 (va_A [] sz) := by
  refine Met.ofW (cc := cX11_pass) (maxL := 3) (ret := (some FieldType.int)) (by decide) rfl ?_
  intro p e s m args below meth c s₁ B hml hv
  obtain ⟨rfl, hsz, hE, hP, hK⟩ := hv
  have hx := B.exec
  have hb := B.bytes
  have hr := B.returns
  have hts := atoms_spec (ws := cn yX11_pass cX11_pass 3 (some FieldType.int)) B.pre
  have ht : ∀ w ∈ GT, w.before _ s = true := fun w h => hts w (List.mem_cons_of_mem _ h)
  have hown : s.vm.findClass RX11 = some m.cls := findClass_of_methodNamed B.named
  have hlocks := B.notSynchronized
  subst hsz
  generalize hAe : va_A [] s.heap.size = A at hE ⊢
  have hA : ∀ q : Nat, s.heap.size ≤ q → A q := fun q h => by rw [← hAe]; exact Or.inr h
  obtain ⟨H, hH0⟩ : ∃ H, s.heap = H := ⟨_, rfl⟩
  have hS : va_S A s.heap H [] := by rw [← hH0]; exact va_S.rf
  rw [hH0] at hP
  have hl := lv_entry ([.ref h0, .int a1]) (n := 3) (Nat.le_of_ble_eq_true rfl)
  rw [lg_entry_eq]
  generalize (lg_sl ([.ref h0, .int a1]) ++ List.replicate (3 - (lg_sl ([.ref h0, .int a1])).length) Slot.unset).toArray = ls at hl ⊢
  have hl : lv_has ls 3 [(0, .ref h0), (1, .int a1)] := hl
  rw [hH0]
  refine lv_iload_n hx hb dX11_pass_0 rfl (lv_at hl 1 rfl) ?_
  refine lv_if_lt (tgt := 13) hx hb dX11_pass_1 (by decide) (fun c1 => ?_) (fun c1 => ?_)
  · skip
    refine lv_iconst (v := -1) hx hb dX11_pass_13 (by decide) ?_
    have hP9 := hP.sub (ws' := []) [] rfl
    have hK9 := hK.sub (tys' := [(tH, .object RX1)]) [0] rfl
    refine W.widen (k := 0) (n := 0) (Nat.le_of_ble_eq_true rfl) (Nat.le_of_ble_eq_true rfl) ?_
    exact W.iret (v := -1) hx hb hr (fun t ht9 hW9 => ⟨⟨-1, (), rfl, rfl, ppk ht9 hP9⟩, hS.F ht9⟩) hS.2.2 dX11_pass_14
  · skip
    refine lv_iload_n hx hb dX11_pass_4 rfl (lv_at hl 1 rfl) ?_
    refine lv_aload_n hx hb dX11_pass_5 rfl (lv_at hl 0 rfl) ?_
    refine va_get (D := (dC, dI)) (ci := 12) (v := .ref ca) (C := RX11) (T := TX11) (N := 6) hx hb ht inGX11 hown hK hP 0 rfl rfl 1 (by decide) (ht _ q392) (fun _ h9 => h9) rfl dX11_pass_6 ?_
    refine va_alen (v := 10) hx hb hK hP 1 0 rfl rfl rfl dX11_pass_9 ?_
    refine lv_icmp_lt (tgt := 15) hx hb dX11_pass_10 (by decide) (fun c2 => ?_) (fun c2 => ?_)
    · skip
      rcases ch10 c1 c2 with hj | hj | hj | hj | hj | hj | hj | hj | hj | hj
      · subst hj
        refine lv_aload_n hx hb dX11_pass_15 rfl (lv_at hl 0 rfl) ?_
        refine va_get (D := (dC, dI)) (ci := 12) (v := .ref ca) (C := RX11) (T := TX11) (N := 6) hx hb ht inGX11 hown hK hP 0 rfl rfl 1 (by decide) (ht _ q392) (fun _ h9 => h9) rfl dX11_pass_16 ?_
        refine lv_iload_n hx hb dX11_pass_19 rfl (lv_at hl 1 rfl) ?_
        refine va_aldq hx hb hK hP 1 0 rfl rfl (vp_in_nI (n := 0) (by decide) (by decide)) dX11_pass_20 ?_
        refine W.eq (g2 := F0 m 21 ls [.ref ch0]) rfl ?_
        have hPc := hP.sub (ws' := [(ch0, .inr (2, [.ref lc0])), (lc0, .inr (0, [.int lm0, le0, .int 0]))]) [2, 12] rfl
        have hKc := hK.sub (tys' := []) [] rfl
        have hFc := freeNil hS hA
        refine va_callq (va_runV (As := []) (rest := []) ⟨hx, hb, hml, hown, ht⟩ (k_X1_takeFirst l d0 cO dC dI H.size ch0 lc0 lm0 le0) (my_V ht M_X1_takeFirst q432 q433 q431 (Nat.le_of_ble_eq_true rfl) (Nat.le_of_ble_eq_true rfl)) ⟨PREp.fb, va_recv hK hP (ci := 2) (q0 := 2) rfl rfl, fun U hU hW => ⟨rfl, PREp.mk' hE hS hFc hPc hKc U hU hW⟩⟩ rfl rfl hl.1 rfl (lv_room (Nat.le_of_ble_eq_true rfl)) dX11_pass_21 ⟨(Nat.le_of_ble_eq_true rfl), (Nat.le_of_ble_eq_true rfl)⟩) hS (fun q _ h => hFc q h) hFc (fun r4 u3 t H1 locs htt hvm hw hB hz1 hk1 hS => ?_)
        try dsimp only at hw hB
        have hP1 := hB
        rw [htt] at hP1
        have hP := keepAll hP hk1
        generalize H1 = H at hP hS ⊢
        have hP : va_P (dC, dI) vwCl [(h0, .inr (12, [t0, .ref ca, t2, t3, t4, t5])), (ca, .inl (tH, 10, .inr (.inr (.inr (.inr ((va_up (va_up (va_up (va_up (va_up (va_up (va_up (va_up (va_up (va_up (fun _ => none) 0 (some ch0)) 1 (some ch1)) 2 (some ch2)) 3 (some ch3)) 4 (some ch4)) 5 (some ch5)) 6 (some ch6)) 7 (some ch7)) 8 (some ch8)) 9 (some ch9)))))))), (ch0, .inr (2, [.ref lc0])), (ch1, .inr (2, [.ref lc1])), (ch2, .inr (2, [.ref lc2])), (ch3, .inr (2, [.ref lc3])), (ch4, .inr (2, [.ref lc4])), (ch5, .inr (2, [.ref lc5])), (ch6, .inr (2, [.ref lc6])), (ch7, .inr (2, [.ref lc7])), (ch8, .inr (2, [.ref lc8])), (ch9, .inr (2, [.ref lc9])), (lc0, .inr (0, [.int lm0, le0, .int 0])), (lc1, .inr (0, [.int lm1, le1, .int 0])), (lc2, .inr (0, [.int lm2, le2, .int 0])), (lc3, .inr (0, [.int lm3, le3, .int 0])), (lc4, .inr (0, [.int lm4, le4, .int 0])), (lc5, .inr (0, [.int lm5, le5, .int 0])), (lc6, .inr (0, [.int lm6, le6, .int 0])), (lc7, .inr (0, [.int lm7, le7, .int 0])), (lc8, .inr (0, [.int lm8, le8, .int 0])), (lc9, .inr (0, [.int lm9, le9, .int 0]))] H := hP
        have hK : va_K (dC, dI) vwCl [(tH, .object RX1)] s := hK
        refine W.widen (k := 0) (n := 0) (Nat.le_of_ble_eq_true rfl) (Nat.le_of_ble_eq_true rfl) ?_
        subst hw
        refine W.eq (g2 := F0 m 24 ls [.null]) rfl ?_
        refine lv_astore_nN (lv' := [(2, .null), (0, .ref h0), (1, .int 0)]) hx hb dX11_pass_24 rfl hl (by decide) rfl (fun ls hl => ?_)
        refine lv_aload_nN hx hb dX11_pass_25 rfl (lv_at hl 0 rfl) ?_
        refine lv_ifnonnullN hx hb dX11_pass_26 ?_
        refine lv_iconst (v := -1) hx hb dX11_pass_29 (by decide) ?_
        have hP9 := hP.sub (ws' := []) [] rfl
        have hK9 := hK.sub (tys' := [(tH, .object RX1)]) [0] rfl
        refine W.widen (k := 0) (n := 0) (Nat.le_of_ble_eq_true rfl) (Nat.le_of_ble_eq_true rfl) ?_
        exact W.iret (v := -1) hx hb hr (fun t ht9 hW9 => ⟨⟨-1, (), rfl, rfl, ppk ht9 hP9⟩, hS.F ht9⟩) hS.2.2 dX11_pass_30
      · subst hj
        refine lv_aload_n hx hb dX11_pass_15 rfl (lv_at hl 0 rfl) ?_
        refine va_get (D := (dC, dI)) (ci := 12) (v := .ref ca) (C := RX11) (T := TX11) (N := 6) hx hb ht inGX11 hown hK hP 0 rfl rfl 1 (by decide) (ht _ q392) (fun _ h9 => h9) rfl dX11_pass_16 ?_
        refine lv_iload_n hx hb dX11_pass_19 rfl (lv_at hl 1 rfl) ?_
        refine va_aldq hx hb hK hP 1 0 rfl rfl (vp_in_nI (n := 1) (by decide) (by decide)) dX11_pass_20 ?_
        refine W.eq (g2 := F0 m 21 ls [.ref ch1]) rfl ?_
        have hPc := hP.sub (ws' := [(ch1, .inr (2, [.ref lc1])), (lc1, .inr (0, [.int lm1, le1, .int 0]))]) [3, 13] rfl
        have hKc := hK.sub (tys' := []) [] rfl
        have hFc := freeNil hS hA
        refine va_callq (va_runV (As := []) (rest := []) ⟨hx, hb, hml, hown, ht⟩ (k_X1_takeFirst l d0 cO dC dI H.size ch1 lc1 lm1 le1) (my_V ht M_X1_takeFirst q432 q433 q431 (Nat.le_of_ble_eq_true rfl) (Nat.le_of_ble_eq_true rfl)) ⟨PREp.fb, va_recv hK hP (ci := 2) (q0 := 3) rfl rfl, fun U hU hW => ⟨rfl, PREp.mk' hE hS hFc hPc hKc U hU hW⟩⟩ rfl rfl hl.1 rfl (lv_room (Nat.le_of_ble_eq_true rfl)) dX11_pass_21 ⟨(Nat.le_of_ble_eq_true rfl), (Nat.le_of_ble_eq_true rfl)⟩) hS (fun q _ h => hFc q h) hFc (fun r6 u5 t H1 locs htt hvm hw hB hz1 hk1 hS => ?_)
        try dsimp only at hw hB
        have hP1 := hB
        rw [htt] at hP1
        have hP := keepAll hP hk1
        generalize H1 = H at hP hS ⊢
        have hP : va_P (dC, dI) vwCl [(h0, .inr (12, [t0, .ref ca, t2, t3, t4, t5])), (ca, .inl (tH, 10, .inr (.inr (.inr (.inr ((va_up (va_up (va_up (va_up (va_up (va_up (va_up (va_up (va_up (va_up (fun _ => none) 0 (some ch0)) 1 (some ch1)) 2 (some ch2)) 3 (some ch3)) 4 (some ch4)) 5 (some ch5)) 6 (some ch6)) 7 (some ch7)) 8 (some ch8)) 9 (some ch9)))))))), (ch0, .inr (2, [.ref lc0])), (ch1, .inr (2, [.ref lc1])), (ch2, .inr (2, [.ref lc2])), (ch3, .inr (2, [.ref lc3])), (ch4, .inr (2, [.ref lc4])), (ch5, .inr (2, [.ref lc5])), (ch6, .inr (2, [.ref lc6])), (ch7, .inr (2, [.ref lc7])), (ch8, .inr (2, [.ref lc8])), (ch9, .inr (2, [.ref lc9])), (lc0, .inr (0, [.int lm0, le0, .int 0])), (lc1, .inr (0, [.int lm1, le1, .int 0])), (lc2, .inr (0, [.int lm2, le2, .int 0])), (lc3, .inr (0, [.int lm3, le3, .int 0])), (lc4, .inr (0, [.int lm4, le4, .int 0])), (lc5, .inr (0, [.int lm5, le5, .int 0])), (lc6, .inr (0, [.int lm6, le6, .int 0])), (lc7, .inr (0, [.int lm7, le7, .int 0])), (lc8, .inr (0, [.int lm8, le8, .int 0])), (lc9, .inr (0, [.int lm9, le9, .int 0]))] H := hP
        have hK : va_K (dC, dI) vwCl [(tH, .object RX1)] s := hK
        refine W.widen (k := 0) (n := 0) (Nat.le_of_ble_eq_true rfl) (Nat.le_of_ble_eq_true rfl) ?_
        subst hw
        refine W.eq (g2 := F0 m 24 ls [.null]) rfl ?_
        refine lv_astore_nN (lv' := [(2, .null), (0, .ref h0), (1, .int 1)]) hx hb dX11_pass_24 rfl hl (by decide) rfl (fun ls hl => ?_)
        refine lv_aload_nN hx hb dX11_pass_25 rfl (lv_at hl 0 rfl) ?_
        refine lv_ifnonnullN hx hb dX11_pass_26 ?_
        refine lv_iconst (v := -1) hx hb dX11_pass_29 (by decide) ?_
        have hP9 := hP.sub (ws' := []) [] rfl
        have hK9 := hK.sub (tys' := [(tH, .object RX1)]) [0] rfl
        refine W.widen (k := 0) (n := 0) (Nat.le_of_ble_eq_true rfl) (Nat.le_of_ble_eq_true rfl) ?_
        exact W.iret (v := -1) hx hb hr (fun t ht9 hW9 => ⟨⟨-1, (), rfl, rfl, ppk ht9 hP9⟩, hS.F ht9⟩) hS.2.2 dX11_pass_30
      · subst hj
        refine lv_aload_n hx hb dX11_pass_15 rfl (lv_at hl 0 rfl) ?_
        refine va_get (D := (dC, dI)) (ci := 12) (v := .ref ca) (C := RX11) (T := TX11) (N := 6) hx hb ht inGX11 hown hK hP 0 rfl rfl 1 (by decide) (ht _ q392) (fun _ h9 => h9) rfl dX11_pass_16 ?_
        refine lv_iload_n hx hb dX11_pass_19 rfl (lv_at hl 1 rfl) ?_
        refine va_aldq hx hb hK hP 1 0 rfl rfl (vp_in_nI (n := 2) (by decide) (by decide)) dX11_pass_20 ?_
        refine W.eq (g2 := F0 m 21 ls [.ref ch2]) rfl ?_
        have hPc := hP.sub (ws' := [(ch2, .inr (2, [.ref lc2])), (lc2, .inr (0, [.int lm2, le2, .int 0]))]) [4, 14] rfl
        have hKc := hK.sub (tys' := []) [] rfl
        have hFc := freeNil hS hA
        refine va_callq (va_runV (As := []) (rest := []) ⟨hx, hb, hml, hown, ht⟩ (k_X1_takeFirst l d0 cO dC dI H.size ch2 lc2 lm2 le2) (my_V ht M_X1_takeFirst q432 q433 q431 (Nat.le_of_ble_eq_true rfl) (Nat.le_of_ble_eq_true rfl)) ⟨PREp.fb, va_recv hK hP (ci := 2) (q0 := 4) rfl rfl, fun U hU hW => ⟨rfl, PREp.mk' hE hS hFc hPc hKc U hU hW⟩⟩ rfl rfl hl.1 rfl (lv_room (Nat.le_of_ble_eq_true rfl)) dX11_pass_21 ⟨(Nat.le_of_ble_eq_true rfl), (Nat.le_of_ble_eq_true rfl)⟩) hS (fun q _ h => hFc q h) hFc (fun r8 u7 t H1 locs htt hvm hw hB hz1 hk1 hS => ?_)
        try dsimp only at hw hB
        have hP1 := hB
        rw [htt] at hP1
        have hP := keepAll hP hk1
        generalize H1 = H at hP hS ⊢
        have hP : va_P (dC, dI) vwCl [(h0, .inr (12, [t0, .ref ca, t2, t3, t4, t5])), (ca, .inl (tH, 10, .inr (.inr (.inr (.inr ((va_up (va_up (va_up (va_up (va_up (va_up (va_up (va_up (va_up (va_up (fun _ => none) 0 (some ch0)) 1 (some ch1)) 2 (some ch2)) 3 (some ch3)) 4 (some ch4)) 5 (some ch5)) 6 (some ch6)) 7 (some ch7)) 8 (some ch8)) 9 (some ch9)))))))), (ch0, .inr (2, [.ref lc0])), (ch1, .inr (2, [.ref lc1])), (ch2, .inr (2, [.ref lc2])), (ch3, .inr (2, [.ref lc3])), (ch4, .inr (2, [.ref lc4])), (ch5, .inr (2, [.ref lc5])), (ch6, .inr (2, [.ref lc6])), (ch7, .inr (2, [.ref lc7])), (ch8, .inr (2, [.ref lc8])), (ch9, .inr (2, [.ref lc9])), (lc0, .inr (0, [.int lm0, le0, .int 0])), (lc1, .inr (0, [.int lm1, le1, .int 0])), (lc2, .inr (0, [.int lm2, le2, .int 0])), (lc3, .inr (0, [.int lm3, le3, .int 0])), (lc4, .inr (0, [.int lm4, le4, .int 0])), (lc5, .inr (0, [.int lm5, le5, .int 0])), (lc6, .inr (0, [.int lm6, le6, .int 0])), (lc7, .inr (0, [.int lm7, le7, .int 0])), (lc8, .inr (0, [.int lm8, le8, .int 0])), (lc9, .inr (0, [.int lm9, le9, .int 0]))] H := hP
        have hK : va_K (dC, dI) vwCl [(tH, .object RX1)] s := hK
        refine W.widen (k := 0) (n := 0) (Nat.le_of_ble_eq_true rfl) (Nat.le_of_ble_eq_true rfl) ?_
        subst hw
        refine W.eq (g2 := F0 m 24 ls [.null]) rfl ?_
        refine lv_astore_nN (lv' := [(2, .null), (0, .ref h0), (1, .int 2)]) hx hb dX11_pass_24 rfl hl (by decide) rfl (fun ls hl => ?_)
        refine lv_aload_nN hx hb dX11_pass_25 rfl (lv_at hl 0 rfl) ?_
        refine lv_ifnonnullN hx hb dX11_pass_26 ?_
        refine lv_iconst (v := -1) hx hb dX11_pass_29 (by decide) ?_
        have hP9 := hP.sub (ws' := []) [] rfl
        have hK9 := hK.sub (tys' := [(tH, .object RX1)]) [0] rfl
        refine W.widen (k := 0) (n := 0) (Nat.le_of_ble_eq_true rfl) (Nat.le_of_ble_eq_true rfl) ?_
        exact W.iret (v := -1) hx hb hr (fun t ht9 hW9 => ⟨⟨-1, (), rfl, rfl, ppk ht9 hP9⟩, hS.F ht9⟩) hS.2.2 dX11_pass_30
      · subst hj
        refine lv_aload_n hx hb dX11_pass_15 rfl (lv_at hl 0 rfl) ?_
        refine va_get (D := (dC, dI)) (ci := 12) (v := .ref ca) (C := RX11) (T := TX11) (N := 6) hx hb ht inGX11 hown hK hP 0 rfl rfl 1 (by decide) (ht _ q392) (fun _ h9 => h9) rfl dX11_pass_16 ?_
        refine lv_iload_n hx hb dX11_pass_19 rfl (lv_at hl 1 rfl) ?_
        refine va_aldq hx hb hK hP 1 0 rfl rfl (vp_in_nI (n := 3) (by decide) (by decide)) dX11_pass_20 ?_
        refine W.eq (g2 := F0 m 21 ls [.ref ch3]) rfl ?_
        have hPc := hP.sub (ws' := [(ch3, .inr (2, [.ref lc3])), (lc3, .inr (0, [.int lm3, le3, .int 0]))]) [5, 15] rfl
        have hKc := hK.sub (tys' := []) [] rfl
        have hFc := freeNil hS hA
        refine va_callq (va_runV (As := []) (rest := []) ⟨hx, hb, hml, hown, ht⟩ (k_X1_takeFirst l d0 cO dC dI H.size ch3 lc3 lm3 le3) (my_V ht M_X1_takeFirst q432 q433 q431 (Nat.le_of_ble_eq_true rfl) (Nat.le_of_ble_eq_true rfl)) ⟨PREp.fb, va_recv hK hP (ci := 2) (q0 := 5) rfl rfl, fun U hU hW => ⟨rfl, PREp.mk' hE hS hFc hPc hKc U hU hW⟩⟩ rfl rfl hl.1 rfl (lv_room (Nat.le_of_ble_eq_true rfl)) dX11_pass_21 ⟨(Nat.le_of_ble_eq_true rfl), (Nat.le_of_ble_eq_true rfl)⟩) hS (fun q _ h => hFc q h) hFc (fun r10 u9 t H1 locs htt hvm hw hB hz1 hk1 hS => ?_)
        try dsimp only at hw hB
        have hP1 := hB
        rw [htt] at hP1
        have hP := keepAll hP hk1
        generalize H1 = H at hP hS ⊢
        have hP : va_P (dC, dI) vwCl [(h0, .inr (12, [t0, .ref ca, t2, t3, t4, t5])), (ca, .inl (tH, 10, .inr (.inr (.inr (.inr ((va_up (va_up (va_up (va_up (va_up (va_up (va_up (va_up (va_up (va_up (fun _ => none) 0 (some ch0)) 1 (some ch1)) 2 (some ch2)) 3 (some ch3)) 4 (some ch4)) 5 (some ch5)) 6 (some ch6)) 7 (some ch7)) 8 (some ch8)) 9 (some ch9)))))))), (ch0, .inr (2, [.ref lc0])), (ch1, .inr (2, [.ref lc1])), (ch2, .inr (2, [.ref lc2])), (ch3, .inr (2, [.ref lc3])), (ch4, .inr (2, [.ref lc4])), (ch5, .inr (2, [.ref lc5])), (ch6, .inr (2, [.ref lc6])), (ch7, .inr (2, [.ref lc7])), (ch8, .inr (2, [.ref lc8])), (ch9, .inr (2, [.ref lc9])), (lc0, .inr (0, [.int lm0, le0, .int 0])), (lc1, .inr (0, [.int lm1, le1, .int 0])), (lc2, .inr (0, [.int lm2, le2, .int 0])), (lc3, .inr (0, [.int lm3, le3, .int 0])), (lc4, .inr (0, [.int lm4, le4, .int 0])), (lc5, .inr (0, [.int lm5, le5, .int 0])), (lc6, .inr (0, [.int lm6, le6, .int 0])), (lc7, .inr (0, [.int lm7, le7, .int 0])), (lc8, .inr (0, [.int lm8, le8, .int 0])), (lc9, .inr (0, [.int lm9, le9, .int 0]))] H := hP
        have hK : va_K (dC, dI) vwCl [(tH, .object RX1)] s := hK
        refine W.widen (k := 0) (n := 0) (Nat.le_of_ble_eq_true rfl) (Nat.le_of_ble_eq_true rfl) ?_
        subst hw
        refine W.eq (g2 := F0 m 24 ls [.null]) rfl ?_
        refine lv_astore_nN (lv' := [(2, .null), (0, .ref h0), (1, .int 3)]) hx hb dX11_pass_24 rfl hl (by decide) rfl (fun ls hl => ?_)
        refine lv_aload_nN hx hb dX11_pass_25 rfl (lv_at hl 0 rfl) ?_
        refine lv_ifnonnullN hx hb dX11_pass_26 ?_
        refine lv_iconst (v := -1) hx hb dX11_pass_29 (by decide) ?_
        have hP9 := hP.sub (ws' := []) [] rfl
        have hK9 := hK.sub (tys' := [(tH, .object RX1)]) [0] rfl
        refine W.widen (k := 0) (n := 0) (Nat.le_of_ble_eq_true rfl) (Nat.le_of_ble_eq_true rfl) ?_
        exact W.iret (v := -1) hx hb hr (fun t ht9 hW9 => ⟨⟨-1, (), rfl, rfl, ppk ht9 hP9⟩, hS.F ht9⟩) hS.2.2 dX11_pass_30
      · subst hj
        refine lv_aload_n hx hb dX11_pass_15 rfl (lv_at hl 0 rfl) ?_
        refine va_get (D := (dC, dI)) (ci := 12) (v := .ref ca) (C := RX11) (T := TX11) (N := 6) hx hb ht inGX11 hown hK hP 0 rfl rfl 1 (by decide) (ht _ q392) (fun _ h9 => h9) rfl dX11_pass_16 ?_
        refine lv_iload_n hx hb dX11_pass_19 rfl (lv_at hl 1 rfl) ?_
        refine va_aldq hx hb hK hP 1 0 rfl rfl (vp_in_nI (n := 4) (by decide) (by decide)) dX11_pass_20 ?_
        refine W.eq (g2 := F0 m 21 ls [.ref ch4]) rfl ?_
        have hPc := hP.sub (ws' := [(ch4, .inr (2, [.ref lc4])), (lc4, .inr (0, [.int lm4, le4, .int 0]))]) [6, 16] rfl
        have hKc := hK.sub (tys' := []) [] rfl
        have hFc := freeNil hS hA
        refine va_callq (va_runV (As := []) (rest := []) ⟨hx, hb, hml, hown, ht⟩ (k_X1_takeFirst l d0 cO dC dI H.size ch4 lc4 lm4 le4) (my_V ht M_X1_takeFirst q432 q433 q431 (Nat.le_of_ble_eq_true rfl) (Nat.le_of_ble_eq_true rfl)) ⟨PREp.fb, va_recv hK hP (ci := 2) (q0 := 6) rfl rfl, fun U hU hW => ⟨rfl, PREp.mk' hE hS hFc hPc hKc U hU hW⟩⟩ rfl rfl hl.1 rfl (lv_room (Nat.le_of_ble_eq_true rfl)) dX11_pass_21 ⟨(Nat.le_of_ble_eq_true rfl), (Nat.le_of_ble_eq_true rfl)⟩) hS (fun q _ h => hFc q h) hFc (fun r12 u11 t H1 locs htt hvm hw hB hz1 hk1 hS => ?_)
        try dsimp only at hw hB
        have hP1 := hB
        rw [htt] at hP1
        have hP := keepAll hP hk1
        generalize H1 = H at hP hS ⊢
        have hP : va_P (dC, dI) vwCl [(h0, .inr (12, [t0, .ref ca, t2, t3, t4, t5])), (ca, .inl (tH, 10, .inr (.inr (.inr (.inr ((va_up (va_up (va_up (va_up (va_up (va_up (va_up (va_up (va_up (va_up (fun _ => none) 0 (some ch0)) 1 (some ch1)) 2 (some ch2)) 3 (some ch3)) 4 (some ch4)) 5 (some ch5)) 6 (some ch6)) 7 (some ch7)) 8 (some ch8)) 9 (some ch9)))))))), (ch0, .inr (2, [.ref lc0])), (ch1, .inr (2, [.ref lc1])), (ch2, .inr (2, [.ref lc2])), (ch3, .inr (2, [.ref lc3])), (ch4, .inr (2, [.ref lc4])), (ch5, .inr (2, [.ref lc5])), (ch6, .inr (2, [.ref lc6])), (ch7, .inr (2, [.ref lc7])), (ch8, .inr (2, [.ref lc8])), (ch9, .inr (2, [.ref lc9])), (lc0, .inr (0, [.int lm0, le0, .int 0])), (lc1, .inr (0, [.int lm1, le1, .int 0])), (lc2, .inr (0, [.int lm2, le2, .int 0])), (lc3, .inr (0, [.int lm3, le3, .int 0])), (lc4, .inr (0, [.int lm4, le4, .int 0])), (lc5, .inr (0, [.int lm5, le5, .int 0])), (lc6, .inr (0, [.int lm6, le6, .int 0])), (lc7, .inr (0, [.int lm7, le7, .int 0])), (lc8, .inr (0, [.int lm8, le8, .int 0])), (lc9, .inr (0, [.int lm9, le9, .int 0]))] H := hP
        have hK : va_K (dC, dI) vwCl [(tH, .object RX1)] s := hK
        refine W.widen (k := 0) (n := 0) (Nat.le_of_ble_eq_true rfl) (Nat.le_of_ble_eq_true rfl) ?_
        subst hw
        refine W.eq (g2 := F0 m 24 ls [.null]) rfl ?_
        refine lv_astore_nN (lv' := [(2, .null), (0, .ref h0), (1, .int 4)]) hx hb dX11_pass_24 rfl hl (by decide) rfl (fun ls hl => ?_)
        refine lv_aload_nN hx hb dX11_pass_25 rfl (lv_at hl 0 rfl) ?_
        refine lv_ifnonnullN hx hb dX11_pass_26 ?_
        refine lv_iconst (v := -1) hx hb dX11_pass_29 (by decide) ?_
        have hP9 := hP.sub (ws' := []) [] rfl
        have hK9 := hK.sub (tys' := [(tH, .object RX1)]) [0] rfl
        refine W.widen (k := 0) (n := 0) (Nat.le_of_ble_eq_true rfl) (Nat.le_of_ble_eq_true rfl) ?_
        exact W.iret (v := -1) hx hb hr (fun t ht9 hW9 => ⟨⟨-1, (), rfl, rfl, ppk ht9 hP9⟩, hS.F ht9⟩) hS.2.2 dX11_pass_30
      · subst hj
        refine lv_aload_n hx hb dX11_pass_15 rfl (lv_at hl 0 rfl) ?_
        refine va_get (D := (dC, dI)) (ci := 12) (v := .ref ca) (C := RX11) (T := TX11) (N := 6) hx hb ht inGX11 hown hK hP 0 rfl rfl 1 (by decide) (ht _ q392) (fun _ h9 => h9) rfl dX11_pass_16 ?_
        refine lv_iload_n hx hb dX11_pass_19 rfl (lv_at hl 1 rfl) ?_
        refine va_aldq hx hb hK hP 1 0 rfl rfl (vp_in_nI (n := 5) (by decide) (by decide)) dX11_pass_20 ?_
        refine W.eq (g2 := F0 m 21 ls [.ref ch5]) rfl ?_
        have hPc := hP.sub (ws' := [(ch5, .inr (2, [.ref lc5])), (lc5, .inr (0, [.int lm5, le5, .int 0]))]) [7, 17] rfl
        have hKc := hK.sub (tys' := []) [] rfl
        have hFc := freeNil hS hA
        refine va_callq (va_runV (As := []) (rest := []) ⟨hx, hb, hml, hown, ht⟩ (k_X1_takeFirst l d0 cO dC dI H.size ch5 lc5 lm5 le5) (my_V ht M_X1_takeFirst q432 q433 q431 (Nat.le_of_ble_eq_true rfl) (Nat.le_of_ble_eq_true rfl)) ⟨PREp.fb, va_recv hK hP (ci := 2) (q0 := 7) rfl rfl, fun U hU hW => ⟨rfl, PREp.mk' hE hS hFc hPc hKc U hU hW⟩⟩ rfl rfl hl.1 rfl (lv_room (Nat.le_of_ble_eq_true rfl)) dX11_pass_21 ⟨(Nat.le_of_ble_eq_true rfl), (Nat.le_of_ble_eq_true rfl)⟩) hS (fun q _ h => hFc q h) hFc (fun r14 u13 t H1 locs htt hvm hw hB hz1 hk1 hS => ?_)
        try dsimp only at hw hB
        have hP1 := hB
        rw [htt] at hP1
        have hP := keepAll hP hk1
        generalize H1 = H at hP hS ⊢
        have hP : va_P (dC, dI) vwCl [(h0, .inr (12, [t0, .ref ca, t2, t3, t4, t5])), (ca, .inl (tH, 10, .inr (.inr (.inr (.inr ((va_up (va_up (va_up (va_up (va_up (va_up (va_up (va_up (va_up (va_up (fun _ => none) 0 (some ch0)) 1 (some ch1)) 2 (some ch2)) 3 (some ch3)) 4 (some ch4)) 5 (some ch5)) 6 (some ch6)) 7 (some ch7)) 8 (some ch8)) 9 (some ch9)))))))), (ch0, .inr (2, [.ref lc0])), (ch1, .inr (2, [.ref lc1])), (ch2, .inr (2, [.ref lc2])), (ch3, .inr (2, [.ref lc3])), (ch4, .inr (2, [.ref lc4])), (ch5, .inr (2, [.ref lc5])), (ch6, .inr (2, [.ref lc6])), (ch7, .inr (2, [.ref lc7])), (ch8, .inr (2, [.ref lc8])), (ch9, .inr (2, [.ref lc9])), (lc0, .inr (0, [.int lm0, le0, .int 0])), (lc1, .inr (0, [.int lm1, le1, .int 0])), (lc2, .inr (0, [.int lm2, le2, .int 0])), (lc3, .inr (0, [.int lm3, le3, .int 0])), (lc4, .inr (0, [.int lm4, le4, .int 0])), (lc5, .inr (0, [.int lm5, le5, .int 0])), (lc6, .inr (0, [.int lm6, le6, .int 0])), (lc7, .inr (0, [.int lm7, le7, .int 0])), (lc8, .inr (0, [.int lm8, le8, .int 0])), (lc9, .inr (0, [.int lm9, le9, .int 0]))] H := hP
        have hK : va_K (dC, dI) vwCl [(tH, .object RX1)] s := hK
        refine W.widen (k := 0) (n := 0) (Nat.le_of_ble_eq_true rfl) (Nat.le_of_ble_eq_true rfl) ?_
        subst hw
        refine W.eq (g2 := F0 m 24 ls [.null]) rfl ?_
        refine lv_astore_nN (lv' := [(2, .null), (0, .ref h0), (1, .int 5)]) hx hb dX11_pass_24 rfl hl (by decide) rfl (fun ls hl => ?_)
        refine lv_aload_nN hx hb dX11_pass_25 rfl (lv_at hl 0 rfl) ?_
        refine lv_ifnonnullN hx hb dX11_pass_26 ?_
        refine lv_iconst (v := -1) hx hb dX11_pass_29 (by decide) ?_
        have hP9 := hP.sub (ws' := []) [] rfl
        have hK9 := hK.sub (tys' := [(tH, .object RX1)]) [0] rfl
        refine W.widen (k := 0) (n := 0) (Nat.le_of_ble_eq_true rfl) (Nat.le_of_ble_eq_true rfl) ?_
        exact W.iret (v := -1) hx hb hr (fun t ht9 hW9 => ⟨⟨-1, (), rfl, rfl, ppk ht9 hP9⟩, hS.F ht9⟩) hS.2.2 dX11_pass_30
      · subst hj
        refine lv_aload_n hx hb dX11_pass_15 rfl (lv_at hl 0 rfl) ?_
        refine va_get (D := (dC, dI)) (ci := 12) (v := .ref ca) (C := RX11) (T := TX11) (N := 6) hx hb ht inGX11 hown hK hP 0 rfl rfl 1 (by decide) (ht _ q392) (fun _ h9 => h9) rfl dX11_pass_16 ?_
        refine lv_iload_n hx hb dX11_pass_19 rfl (lv_at hl 1 rfl) ?_
        refine va_aldq hx hb hK hP 1 0 rfl rfl (vp_in_nI (n := 6) (by decide) (by decide)) dX11_pass_20 ?_
        refine W.eq (g2 := F0 m 21 ls [.ref ch6]) rfl ?_
        have hPc := hP.sub (ws' := [(ch6, .inr (2, [.ref lc6])), (lc6, .inr (0, [.int lm6, le6, .int 0]))]) [8, 18] rfl
        have hKc := hK.sub (tys' := []) [] rfl
        have hFc := freeNil hS hA
        refine va_callq (va_runV (As := []) (rest := []) ⟨hx, hb, hml, hown, ht⟩ (k_X1_takeFirst l d0 cO dC dI H.size ch6 lc6 lm6 le6) (my_V ht M_X1_takeFirst q432 q433 q431 (Nat.le_of_ble_eq_true rfl) (Nat.le_of_ble_eq_true rfl)) ⟨PREp.fb, va_recv hK hP (ci := 2) (q0 := 8) rfl rfl, fun U hU hW => ⟨rfl, PREp.mk' hE hS hFc hPc hKc U hU hW⟩⟩ rfl rfl hl.1 rfl (lv_room (Nat.le_of_ble_eq_true rfl)) dX11_pass_21 ⟨(Nat.le_of_ble_eq_true rfl), (Nat.le_of_ble_eq_true rfl)⟩) hS (fun q _ h => hFc q h) hFc (fun r16 u15 t H1 locs htt hvm hw hB hz1 hk1 hS => ?_)
        try dsimp only at hw hB
        have hP1 := hB
        rw [htt] at hP1
        have hP := keepAll hP hk1
        generalize H1 = H at hP hS ⊢
        have hP : va_P (dC, dI) vwCl [(h0, .inr (12, [t0, .ref ca, t2, t3, t4, t5])), (ca, .inl (tH, 10, .inr (.inr (.inr (.inr ((va_up (va_up (va_up (va_up (va_up (va_up (va_up (va_up (va_up (va_up (fun _ => none) 0 (some ch0)) 1 (some ch1)) 2 (some ch2)) 3 (some ch3)) 4 (some ch4)) 5 (some ch5)) 6 (some ch6)) 7 (some ch7)) 8 (some ch8)) 9 (some ch9)))))))), (ch0, .inr (2, [.ref lc0])), (ch1, .inr (2, [.ref lc1])), (ch2, .inr (2, [.ref lc2])), (ch3, .inr (2, [.ref lc3])), (ch4, .inr (2, [.ref lc4])), (ch5, .inr (2, [.ref lc5])), (ch6, .inr (2, [.ref lc6])), (ch7, .inr (2, [.ref lc7])), (ch8, .inr (2, [.ref lc8])), (ch9, .inr (2, [.ref lc9])), (lc0, .inr (0, [.int lm0, le0, .int 0])), (lc1, .inr (0, [.int lm1, le1, .int 0])), (lc2, .inr (0, [.int lm2, le2, .int 0])), (lc3, .inr (0, [.int lm3, le3, .int 0])), (lc4, .inr (0, [.int lm4, le4, .int 0])), (lc5, .inr (0, [.int lm5, le5, .int 0])), (lc6, .inr (0, [.int lm6, le6, .int 0])), (lc7, .inr (0, [.int lm7, le7, .int 0])), (lc8, .inr (0, [.int lm8, le8, .int 0])), (lc9, .inr (0, [.int lm9, le9, .int 0]))] H := hP
        have hK : va_K (dC, dI) vwCl [(tH, .object RX1)] s := hK
        refine W.widen (k := 0) (n := 0) (Nat.le_of_ble_eq_true rfl) (Nat.le_of_ble_eq_true rfl) ?_
        subst hw
        refine W.eq (g2 := F0 m 24 ls [.null]) rfl ?_
        refine lv_astore_nN (lv' := [(2, .null), (0, .ref h0), (1, .int 6)]) hx hb dX11_pass_24 rfl hl (by decide) rfl (fun ls hl => ?_)
        refine lv_aload_nN hx hb dX11_pass_25 rfl (lv_at hl 0 rfl) ?_
        refine lv_ifnonnullN hx hb dX11_pass_26 ?_
        refine lv_iconst (v := -1) hx hb dX11_pass_29 (by decide) ?_
        have hP9 := hP.sub (ws' := []) [] rfl
        have hK9 := hK.sub (tys' := [(tH, .object RX1)]) [0] rfl
        refine W.widen (k := 0) (n := 0) (Nat.le_of_ble_eq_true rfl) (Nat.le_of_ble_eq_true rfl) ?_
        exact W.iret (v := -1) hx hb hr (fun t ht9 hW9 => ⟨⟨-1, (), rfl, rfl, ppk ht9 hP9⟩, hS.F ht9⟩) hS.2.2 dX11_pass_30
      · subst hj
        refine lv_aload_n hx hb dX11_pass_15 rfl (lv_at hl 0 rfl) ?_
        refine va_get (D := (dC, dI)) (ci := 12) (v := .ref ca) (C := RX11) (T := TX11) (N := 6) hx hb ht inGX11 hown hK hP 0 rfl rfl 1 (by decide) (ht _ q392) (fun _ h9 => h9) rfl dX11_pass_16 ?_
        refine lv_iload_n hx hb dX11_pass_19 rfl (lv_at hl 1 rfl) ?_
        refine va_aldq hx hb hK hP 1 0 rfl rfl (vp_in_nI (n := 7) (by decide) (by decide)) dX11_pass_20 ?_
        refine W.eq (g2 := F0 m 21 ls [.ref ch7]) rfl ?_
        have hPc := hP.sub (ws' := [(ch7, .inr (2, [.ref lc7])), (lc7, .inr (0, [.int lm7, le7, .int 0]))]) [9, 19] rfl
        have hKc := hK.sub (tys' := []) [] rfl
        have hFc := freeNil hS hA
        refine va_callq (va_runV (As := []) (rest := []) ⟨hx, hb, hml, hown, ht⟩ (k_X1_takeFirst l d0 cO dC dI H.size ch7 lc7 lm7 le7) (my_V ht M_X1_takeFirst q432 q433 q431 (Nat.le_of_ble_eq_true rfl) (Nat.le_of_ble_eq_true rfl)) ⟨PREp.fb, va_recv hK hP (ci := 2) (q0 := 9) rfl rfl, fun U hU hW => ⟨rfl, PREp.mk' hE hS hFc hPc hKc U hU hW⟩⟩ rfl rfl hl.1 rfl (lv_room (Nat.le_of_ble_eq_true rfl)) dX11_pass_21 ⟨(Nat.le_of_ble_eq_true rfl), (Nat.le_of_ble_eq_true rfl)⟩) hS (fun q _ h => hFc q h) hFc (fun r18 u17 t H1 locs htt hvm hw hB hz1 hk1 hS => ?_)
        try dsimp only at hw hB
        have hP1 := hB
        rw [htt] at hP1
        have hP := keepAll hP hk1
        generalize H1 = H at hP hS ⊢
        have hP : va_P (dC, dI) vwCl [(h0, .inr (12, [t0, .ref ca, t2, t3, t4, t5])), (ca, .inl (tH, 10, .inr (.inr (.inr (.inr ((va_up (va_up (va_up (va_up (va_up (va_up (va_up (va_up (va_up (va_up (fun _ => none) 0 (some ch0)) 1 (some ch1)) 2 (some ch2)) 3 (some ch3)) 4 (some ch4)) 5 (some ch5)) 6 (some ch6)) 7 (some ch7)) 8 (some ch8)) 9 (some ch9)))))))), (ch0, .inr (2, [.ref lc0])), (ch1, .inr (2, [.ref lc1])), (ch2, .inr (2, [.ref lc2])), (ch3, .inr (2, [.ref lc3])), (ch4, .inr (2, [.ref lc4])), (ch5, .inr (2, [.ref lc5])), (ch6, .inr (2, [.ref lc6])), (ch7, .inr (2, [.ref lc7])), (ch8, .inr (2, [.ref lc8])), (ch9, .inr (2, [.ref lc9])), (lc0, .inr (0, [.int lm0, le0, .int 0])), (lc1, .inr (0, [.int lm1, le1, .int 0])), (lc2, .inr (0, [.int lm2, le2, .int 0])), (lc3, .inr (0, [.int lm3, le3, .int 0])), (lc4, .inr (0, [.int lm4, le4, .int 0])), (lc5, .inr (0, [.int lm5, le5, .int 0])), (lc6, .inr (0, [.int lm6, le6, .int 0])), (lc7, .inr (0, [.int lm7, le7, .int 0])), (lc8, .inr (0, [.int lm8, le8, .int 0])), (lc9, .inr (0, [.int lm9, le9, .int 0]))] H := hP
        have hK : va_K (dC, dI) vwCl [(tH, .object RX1)] s := hK
        refine W.widen (k := 0) (n := 0) (Nat.le_of_ble_eq_true rfl) (Nat.le_of_ble_eq_true rfl) ?_
        subst hw
        refine W.eq (g2 := F0 m 24 ls [.null]) rfl ?_
        refine lv_astore_nN (lv' := [(2, .null), (0, .ref h0), (1, .int 7)]) hx hb dX11_pass_24 rfl hl (by decide) rfl (fun ls hl => ?_)
        refine lv_aload_nN hx hb dX11_pass_25 rfl (lv_at hl 0 rfl) ?_
        refine lv_ifnonnullN hx hb dX11_pass_26 ?_
        refine lv_iconst (v := -1) hx hb dX11_pass_29 (by decide) ?_
        have hP9 := hP.sub (ws' := []) [] rfl
        have hK9 := hK.sub (tys' := [(tH, .object RX1)]) [0] rfl
        refine W.widen (k := 0) (n := 0) (Nat.le_of_ble_eq_true rfl) (Nat.le_of_ble_eq_true rfl) ?_
        exact W.iret (v := -1) hx hb hr (fun t ht9 hW9 => ⟨⟨-1, (), rfl, rfl, ppk ht9 hP9⟩, hS.F ht9⟩) hS.2.2 dX11_pass_30
      · subst hj
        refine lv_aload_n hx hb dX11_pass_15 rfl (lv_at hl 0 rfl) ?_
        refine va_get (D := (dC, dI)) (ci := 12) (v := .ref ca) (C := RX11) (T := TX11) (N := 6) hx hb ht inGX11 hown hK hP 0 rfl rfl 1 (by decide) (ht _ q392) (fun _ h9 => h9) rfl dX11_pass_16 ?_
        refine lv_iload_n hx hb dX11_pass_19 rfl (lv_at hl 1 rfl) ?_
        refine va_aldq hx hb hK hP 1 0 rfl rfl (vp_in_nI (n := 8) (by decide) (by decide)) dX11_pass_20 ?_
        refine W.eq (g2 := F0 m 21 ls [.ref ch8]) rfl ?_
        have hPc := hP.sub (ws' := [(ch8, .inr (2, [.ref lc8])), (lc8, .inr (0, [.int lm8, le8, .int 0]))]) [10, 20] rfl
        have hKc := hK.sub (tys' := []) [] rfl
        have hFc := freeNil hS hA
        refine va_callq (va_runV (As := []) (rest := []) ⟨hx, hb, hml, hown, ht⟩ (k_X1_takeFirst l d0 cO dC dI H.size ch8 lc8 lm8 le8) (my_V ht M_X1_takeFirst q432 q433 q431 (Nat.le_of_ble_eq_true rfl) (Nat.le_of_ble_eq_true rfl)) ⟨PREp.fb, va_recv hK hP (ci := 2) (q0 := 10) rfl rfl, fun U hU hW => ⟨rfl, PREp.mk' hE hS hFc hPc hKc U hU hW⟩⟩ rfl rfl hl.1 rfl (lv_room (Nat.le_of_ble_eq_true rfl)) dX11_pass_21 ⟨(Nat.le_of_ble_eq_true rfl), (Nat.le_of_ble_eq_true rfl)⟩) hS (fun q _ h => hFc q h) hFc (fun r20 u19 t H1 locs htt hvm hw hB hz1 hk1 hS => ?_)
        try dsimp only at hw hB
        have hP1 := hB
        rw [htt] at hP1
        have hP := keepAll hP hk1
        generalize H1 = H at hP hS ⊢
        have hP : va_P (dC, dI) vwCl [(h0, .inr (12, [t0, .ref ca, t2, t3, t4, t5])), (ca, .inl (tH, 10, .inr (.inr (.inr (.inr ((va_up (va_up (va_up (va_up (va_up (va_up (va_up (va_up (va_up (va_up (fun _ => none) 0 (some ch0)) 1 (some ch1)) 2 (some ch2)) 3 (some ch3)) 4 (some ch4)) 5 (some ch5)) 6 (some ch6)) 7 (some ch7)) 8 (some ch8)) 9 (some ch9)))))))), (ch0, .inr (2, [.ref lc0])), (ch1, .inr (2, [.ref lc1])), (ch2, .inr (2, [.ref lc2])), (ch3, .inr (2, [.ref lc3])), (ch4, .inr (2, [.ref lc4])), (ch5, .inr (2, [.ref lc5])), (ch6, .inr (2, [.ref lc6])), (ch7, .inr (2, [.ref lc7])), (ch8, .inr (2, [.ref lc8])), (ch9, .inr (2, [.ref lc9])), (lc0, .inr (0, [.int lm0, le0, .int 0])), (lc1, .inr (0, [.int lm1, le1, .int 0])), (lc2, .inr (0, [.int lm2, le2, .int 0])), (lc3, .inr (0, [.int lm3, le3, .int 0])), (lc4, .inr (0, [.int lm4, le4, .int 0])), (lc5, .inr (0, [.int lm5, le5, .int 0])), (lc6, .inr (0, [.int lm6, le6, .int 0])), (lc7, .inr (0, [.int lm7, le7, .int 0])), (lc8, .inr (0, [.int lm8, le8, .int 0])), (lc9, .inr (0, [.int lm9, le9, .int 0]))] H := hP
        have hK : va_K (dC, dI) vwCl [(tH, .object RX1)] s := hK
        refine W.widen (k := 0) (n := 0) (Nat.le_of_ble_eq_true rfl) (Nat.le_of_ble_eq_true rfl) ?_
        subst hw
        refine W.eq (g2 := F0 m 24 ls [.null]) rfl ?_
        refine lv_astore_nN (lv' := [(2, .null), (0, .ref h0), (1, .int 8)]) hx hb dX11_pass_24 rfl hl (by decide) rfl (fun ls hl => ?_)
        refine lv_aload_nN hx hb dX11_pass_25 rfl (lv_at hl 0 rfl) ?_
        refine lv_ifnonnullN hx hb dX11_pass_26 ?_
        refine lv_iconst (v := -1) hx hb dX11_pass_29 (by decide) ?_
        have hP9 := hP.sub (ws' := []) [] rfl
        have hK9 := hK.sub (tys' := [(tH, .object RX1)]) [0] rfl
        refine W.widen (k := 0) (n := 0) (Nat.le_of_ble_eq_true rfl) (Nat.le_of_ble_eq_true rfl) ?_
        exact W.iret (v := -1) hx hb hr (fun t ht9 hW9 => ⟨⟨-1, (), rfl, rfl, ppk ht9 hP9⟩, hS.F ht9⟩) hS.2.2 dX11_pass_30
      · subst hj
        refine lv_aload_n hx hb dX11_pass_15 rfl (lv_at hl 0 rfl) ?_
        refine va_get (D := (dC, dI)) (ci := 12) (v := .ref ca) (C := RX11) (T := TX11) (N := 6) hx hb ht inGX11 hown hK hP 0 rfl rfl 1 (by decide) (ht _ q392) (fun _ h9 => h9) rfl dX11_pass_16 ?_
        refine lv_iload_n hx hb dX11_pass_19 rfl (lv_at hl 1 rfl) ?_
        refine va_aldq hx hb hK hP 1 0 rfl rfl (vp_in_nI (n := 9) (by decide) (by decide)) dX11_pass_20 ?_
        refine W.eq (g2 := F0 m 21 ls [.ref ch9]) rfl ?_
        have hPc := hP.sub (ws' := [(ch9, .inr (2, [.ref lc9])), (lc9, .inr (0, [.int lm9, le9, .int 0]))]) [11, 21] rfl
        have hKc := hK.sub (tys' := []) [] rfl
        have hFc := freeNil hS hA
        refine va_callq (va_runV (As := []) (rest := []) ⟨hx, hb, hml, hown, ht⟩ (k_X1_takeFirst l d0 cO dC dI H.size ch9 lc9 lm9 le9) (my_V ht M_X1_takeFirst q432 q433 q431 (Nat.le_of_ble_eq_true rfl) (Nat.le_of_ble_eq_true rfl)) ⟨PREp.fb, va_recv hK hP (ci := 2) (q0 := 11) rfl rfl, fun U hU hW => ⟨rfl, PREp.mk' hE hS hFc hPc hKc U hU hW⟩⟩ rfl rfl hl.1 rfl (lv_room (Nat.le_of_ble_eq_true rfl)) dX11_pass_21 ⟨(Nat.le_of_ble_eq_true rfl), (Nat.le_of_ble_eq_true rfl)⟩) hS (fun q _ h => hFc q h) hFc (fun r22 u21 t H1 locs htt hvm hw hB hz1 hk1 hS => ?_)
        try dsimp only at hw hB
        have hP1 := hB
        rw [htt] at hP1
        have hP := keepAll hP hk1
        generalize H1 = H at hP hS ⊢
        have hP : va_P (dC, dI) vwCl [(h0, .inr (12, [t0, .ref ca, t2, t3, t4, t5])), (ca, .inl (tH, 10, .inr (.inr (.inr (.inr ((va_up (va_up (va_up (va_up (va_up (va_up (va_up (va_up (va_up (va_up (fun _ => none) 0 (some ch0)) 1 (some ch1)) 2 (some ch2)) 3 (some ch3)) 4 (some ch4)) 5 (some ch5)) 6 (some ch6)) 7 (some ch7)) 8 (some ch8)) 9 (some ch9)))))))), (ch0, .inr (2, [.ref lc0])), (ch1, .inr (2, [.ref lc1])), (ch2, .inr (2, [.ref lc2])), (ch3, .inr (2, [.ref lc3])), (ch4, .inr (2, [.ref lc4])), (ch5, .inr (2, [.ref lc5])), (ch6, .inr (2, [.ref lc6])), (ch7, .inr (2, [.ref lc7])), (ch8, .inr (2, [.ref lc8])), (ch9, .inr (2, [.ref lc9])), (lc0, .inr (0, [.int lm0, le0, .int 0])), (lc1, .inr (0, [.int lm1, le1, .int 0])), (lc2, .inr (0, [.int lm2, le2, .int 0])), (lc3, .inr (0, [.int lm3, le3, .int 0])), (lc4, .inr (0, [.int lm4, le4, .int 0])), (lc5, .inr (0, [.int lm5, le5, .int 0])), (lc6, .inr (0, [.int lm6, le6, .int 0])), (lc7, .inr (0, [.int lm7, le7, .int 0])), (lc8, .inr (0, [.int lm8, le8, .int 0])), (lc9, .inr (0, [.int lm9, le9, .int 0]))] H := hP
        have hK : va_K (dC, dI) vwCl [(tH, .object RX1)] s := hK
        refine W.widen (k := 0) (n := 0) (Nat.le_of_ble_eq_true rfl) (Nat.le_of_ble_eq_true rfl) ?_
        subst hw
        refine W.eq (g2 := F0 m 24 ls [.null]) rfl ?_
        refine lv_astore_nN (lv' := [(2, .null), (0, .ref h0), (1, .int 9)]) hx hb dX11_pass_24 rfl hl (by decide) rfl (fun ls hl => ?_)
        refine lv_aload_nN hx hb dX11_pass_25 rfl (lv_at hl 0 rfl) ?_
        refine lv_ifnonnullN hx hb dX11_pass_26 ?_
        refine lv_iconst (v := -1) hx hb dX11_pass_29 (by decide) ?_
        have hP9 := hP.sub (ws' := []) [] rfl
        have hK9 := hK.sub (tys' := [(tH, .object RX1)]) [0] rfl
        refine W.widen (k := 0) (n := 0) (Nat.le_of_ble_eq_true rfl) (Nat.le_of_ble_eq_true rfl) ?_
        exact W.iret (v := -1) hx hb hr (fun t ht9 hW9 => ⟨⟨-1, (), rfl, rfl, ppk ht9 hP9⟩, hS.F ht9⟩) hS.2.2 dX11_pass_30
    · skip
      refine lv_iconst (v := -1) hx hb dX11_pass_13 (by decide) ?_
      have hP9 := hP.sub (ws' := []) [] rfl
      have hK9 := hK.sub (tys' := [(tH, .object RX1)]) [0] rfl
      refine W.widen (k := 0) (n := 0) (Nat.le_of_ble_eq_true rfl) (Nat.le_of_ble_eq_true rfl) ?_
      exact W.iret (v := -1) hx hb hr (fun t ht9 hW9 => ⟨⟨-1, (), rfl, rfl, ppk ht9 hP9⟩, hS.F ht9⟩) hS.2.2 dX11_pass_14
set_option maxHeartbeats 4000000 in
set_option maxRecDepth 100000 in
theorem k_X11_held (l : Launch) (d0 : Nat) (cO : ClassId) (dC : Nat → ClassId) (dI : Nat → Nat → Nat) (sz : Nat) (h0 ca : Nat) (t0 t2 t3 t4 t5 : Value) (tH : ClassId) (ch0 ch1 ch2 ch3 ch4 ch5 ch6 ch7 ch8 ch9 : Nat) (lc0 lc1 lc2 lc3 lc4 lc5 lc6 lc7 lc8 lc9 : Nat) (lm0 lm1 lm2 lm3 lm4 lm5 lm6 lm7 lm8 lm9 : Int32) (le0 le1 le2 le3 le4 le5 le6 le7 le8 le9 : Value) (a1 : Int32) : Met l yX11_held (cn yX11_held cX11_held 2 (some FieldType.int)) (rmd 2 0 0) (va_Pc [.ref h0, .int a1] (PREp d0 cO (dC, dI) (va_A [] sz) [(h0, .inr (12, [t0, .ref ca, t2, t3, t4, t5])), (ca, .inl (tH, 10, .inr (.inr (.inr (.inr ((va_up (va_up (va_up (va_up (va_up (va_up (va_up (va_up (va_up (va_up (fun _ => none) 0 (some ch0)) 1 (some ch1)) 2 (some ch2)) 3 (some ch3)) 4 (some ch4)) 5 (some ch5)) 6 (some ch6)) 7 (some ch7)) 8 (some ch8)) 9 (some ch9)))))))), (ch0, .inr (2, [.ref lc0])), (ch1, .inr (2, [.ref lc1])), (ch2, .inr (2, [.ref lc2])), (ch3, .inr (2, [.ref lc3])), (ch4, .inr (2, [.ref lc4])), (ch5, .inr (2, [.ref lc5])), (ch6, .inr (2, [.ref lc6])), (ch7, .inr (2, [.ref lc7])), (ch8, .inr (2, [.ref lc8])), (ch9, .inr (2, [.ref lc9])), (lc0, .inr (0, [.int lm0, le0, .int 0])), (lc1, .inr (0, [.int lm1, le1, .int 0])), (lc2, .inr (0, [.int lm2, le2, .int 0])), (lc3, .inr (0, [.int lm3, le3, .int 0])), (lc4, .inr (0, [.int lm4, le4, .int 0])), (lc5, .inr (0, [.int lm5, le5, .int 0])), (lc6, .inr (0, [.int lm6, le6, .int 0])), (lc7, .inr (0, [.int lm7, le7, .int 0])), (lc8, .inr (0, [.int lm8, le8, .int 0])), (lc9, .inr (0, [.int lm9, le9, .int 0]))] [(tH, .object RX1)] sz)) (va_Qi (fun (r : Int32) (_ : Unit) => r = 0) (fun (_ : Unit) (t : State) => va_P (dC, dI) vwCl [] t.heap) (va_A [] sz)) 0 0 (va_A [] sz) := by
  refine Met.ofW (cc := cX11_held) (maxL := 2) (ret := (some FieldType.int)) (by decide) rfl ?_
  intro p e s m args below meth c s₁ B hml hv
  obtain ⟨rfl, hsz, hE, hP, hK⟩ := hv
  have hx := B.exec
  have hb := B.bytes
  have hr := B.returns
  have hts := atoms_spec (ws := cn yX11_held cX11_held 2 (some FieldType.int)) B.pre
  have ht : ∀ w ∈ GT, w.before _ s = true := fun w h => hts w (List.mem_cons_of_mem _ h)
  have hown : s.vm.findClass RX11 = some m.cls := findClass_of_methodNamed B.named
  have hlocks := B.notSynchronized
  subst hsz
  generalize hAe : va_A [] s.heap.size = A at hE ⊢
  have hA : ∀ q : Nat, s.heap.size ≤ q → A q := fun q h => by rw [← hAe]; exact Or.inr h
  obtain ⟨H, hH0⟩ : ∃ H, s.heap = H := ⟨_, rfl⟩
  have hS : va_S A s.heap H [] := by rw [← hH0]; exact va_S.rf
  rw [hH0] at hP
  have hl := lv_entry ([.ref h0, .int a1]) (n := 2) (Nat.le_of_ble_eq_true rfl)
  rw [lg_entry_eq]
  generalize (lg_sl ([.ref h0, .int a1]) ++ List.replicate (2 - (lg_sl ([.ref h0, .int a1])).length) Slot.unset).toArray = ls at hl ⊢
  have hl : lv_has ls 2 [(0, .ref h0), (1, .int a1)] := hl
  rw [hH0]
  refine lv_iload_n hx hb dX11_held_0 rfl (lv_at hl 1 rfl) ?_
  refine lv_if_lt (tgt := 25) hx hb dX11_held_1 (by decide) (fun c1 => ?_) (fun c1 => ?_)
  · skip
    refine lv_iconst (v := 0) hx hb dX11_held_25 (by decide) ?_
    have hP9 := hP.sub (ws' := []) [] rfl
    have hK9 := hK.sub (tys' := [(tH, .object RX1)]) [0] rfl
    refine W.widen (k := 0) (n := 0) (Nat.le_of_ble_eq_true rfl) (Nat.le_of_ble_eq_true rfl) ?_
    exact W.iret (v := 0) hx hb hr (fun t ht9 hW9 => ⟨⟨0, (), rfl, rfl, ppk ht9 hP9⟩, hS.F ht9⟩) hS.2.2 dX11_held_26
  · skip
    refine lv_iload_n hx hb dX11_held_4 rfl (lv_at hl 1 rfl) ?_
    refine lv_aload_n hx hb dX11_held_5 rfl (lv_at hl 0 rfl) ?_
    refine va_get (D := (dC, dI)) (ci := 12) (v := .ref ca) (C := RX11) (T := TX11) (N := 6) hx hb ht inGX11 hown hK hP 0 rfl rfl 1 (by decide) (ht _ q392) (fun _ h9 => h9) rfl dX11_held_6 ?_
    refine va_alen (v := 10) hx hb hK hP 1 0 rfl rfl rfl dX11_held_9 ?_
    refine lv_icmp_ge (tgt := 25) hx hb dX11_held_10 (by decide) (fun c2 => ?_) (fun c2 => ?_)
    · skip
      refine lv_iconst (v := 0) hx hb dX11_held_25 (by decide) ?_
      have hP9 := hP.sub (ws' := []) [] rfl
      have hK9 := hK.sub (tys' := [(tH, .object RX1)]) [0] rfl
      refine W.widen (k := 0) (n := 0) (Nat.le_of_ble_eq_true rfl) (Nat.le_of_ble_eq_true rfl) ?_
      exact W.iret (v := 0) hx hb hr (fun t ht9 hW9 => ⟨⟨0, (), rfl, rfl, ppk ht9 hP9⟩, hS.F ht9⟩) hS.2.2 dX11_held_26
    · skip
      rcases ch10n c1 c2 with hj | hj | hj | hj | hj | hj | hj | hj | hj | hj
      · subst hj
        refine lv_aload_n hx hb dX11_held_13 rfl (lv_at hl 0 rfl) ?_
        refine va_get (D := (dC, dI)) (ci := 12) (v := .ref ca) (C := RX11) (T := TX11) (N := 6) hx hb ht inGX11 hown hK hP 0 rfl rfl 1 (by decide) (ht _ q392) (fun _ h9 => h9) rfl dX11_held_14 ?_
        refine lv_iload_n hx hb dX11_held_17 rfl (lv_at hl 1 rfl) ?_
        refine va_aldq hx hb hK hP 1 0 rfl rfl (vp_in_nI (n := 0) (by decide) (by decide)) dX11_held_18 ?_
        refine W.eq (g2 := F0 m 19 ls [.ref ch0]) rfl ?_
        have hPc := hP.sub (ws' := [(ch0, .inr (2, [.ref lc0])), (lc0, .inr (0, [.int lm0, le0, .int 0]))]) [2, 12] rfl
        have hKc := hK.sub (tys' := []) [] rfl
        have hFc := freeNil hS hA
        refine va_calli (va_runV (As := []) (rest := []) ⟨hx, hb, hml, hown, ht⟩ (k_X1_size l d0 cO dC dI H.size ch0 lc0 lm0 le0) (my_V ht M_X1_size q420 q421 q419 (Nat.le_of_ble_eq_true rfl) (Nat.le_of_ble_eq_true rfl)) ⟨PREp.fb, va_recv hK hP (ci := 2) (q0 := 2) rfl rfl, fun U hU hW => ⟨rfl, PREp.mk' hE hS hFc hPc hKc U hU hW⟩⟩ rfl rfl hl.1 rfl (lv_room (Nat.le_of_ble_eq_true rfl)) dX11_held_19 ⟨(Nat.le_of_ble_eq_true rfl), (Nat.le_of_ble_eq_true rfl)⟩) hS (fun q _ h => hFc q h) hFc (fun r4 u3 t H1 locs htt hvm hw hB hz1 hk1 hS => ?_)
        try dsimp only at hw hB
        have hP1 := hB
        rw [htt] at hP1
        have hP := keepAll hP hk1
        generalize H1 = H at hP hS ⊢
        have hP : va_P (dC, dI) vwCl [(h0, .inr (12, [t0, .ref ca, t2, t3, t4, t5])), (ca, .inl (tH, 10, .inr (.inr (.inr (.inr ((va_up (va_up (va_up (va_up (va_up (va_up (va_up (va_up (va_up (va_up (fun _ => none) 0 (some ch0)) 1 (some ch1)) 2 (some ch2)) 3 (some ch3)) 4 (some ch4)) 5 (some ch5)) 6 (some ch6)) 7 (some ch7)) 8 (some ch8)) 9 (some ch9)))))))), (ch0, .inr (2, [.ref lc0])), (ch1, .inr (2, [.ref lc1])), (ch2, .inr (2, [.ref lc2])), (ch3, .inr (2, [.ref lc3])), (ch4, .inr (2, [.ref lc4])), (ch5, .inr (2, [.ref lc5])), (ch6, .inr (2, [.ref lc6])), (ch7, .inr (2, [.ref lc7])), (ch8, .inr (2, [.ref lc8])), (ch9, .inr (2, [.ref lc9])), (lc0, .inr (0, [.int lm0, le0, .int 0])), (lc1, .inr (0, [.int lm1, le1, .int 0])), (lc2, .inr (0, [.int lm2, le2, .int 0])), (lc3, .inr (0, [.int lm3, le3, .int 0])), (lc4, .inr (0, [.int lm4, le4, .int 0])), (lc5, .inr (0, [.int lm5, le5, .int 0])), (lc6, .inr (0, [.int lm6, le6, .int 0])), (lc7, .inr (0, [.int lm7, le7, .int 0])), (lc8, .inr (0, [.int lm8, le8, .int 0])), (lc9, .inr (0, [.int lm9, le9, .int 0]))] H := hP
        have hK : va_K (dC, dI) vwCl [(tH, .object RX1)] s := hK
        refine W.widen (k := 0) (n := 0) (Nat.le_of_ble_eq_true rfl) (Nat.le_of_ble_eq_true rfl) ?_
        subst hw
        refine lv_goto (tgt := 26) hx hb dX11_held_22 (by decide) ?_
        have hP9 := hP.sub (ws' := []) [] rfl
        have hK9 := hK.sub (tys' := [(tH, .object RX1)]) [0] rfl
        refine W.widen (k := 0) (n := 0) (Nat.le_of_ble_eq_true rfl) (Nat.le_of_ble_eq_true rfl) ?_
        exact W.iret (v := 0) hx hb hr (fun t ht9 hW9 => ⟨⟨0, (), rfl, rfl, ppk ht9 hP9⟩, hS.F ht9⟩) hS.2.2 dX11_held_26
      · subst hj
        refine lv_aload_n hx hb dX11_held_13 rfl (lv_at hl 0 rfl) ?_
        refine va_get (D := (dC, dI)) (ci := 12) (v := .ref ca) (C := RX11) (T := TX11) (N := 6) hx hb ht inGX11 hown hK hP 0 rfl rfl 1 (by decide) (ht _ q392) (fun _ h9 => h9) rfl dX11_held_14 ?_
        refine lv_iload_n hx hb dX11_held_17 rfl (lv_at hl 1 rfl) ?_
        refine va_aldq hx hb hK hP 1 0 rfl rfl (vp_in_nI (n := 1) (by decide) (by decide)) dX11_held_18 ?_
        refine W.eq (g2 := F0 m 19 ls [.ref ch1]) rfl ?_
        have hPc := hP.sub (ws' := [(ch1, .inr (2, [.ref lc1])), (lc1, .inr (0, [.int lm1, le1, .int 0]))]) [3, 13] rfl
        have hKc := hK.sub (tys' := []) [] rfl
        have hFc := freeNil hS hA
        refine va_calli (va_runV (As := []) (rest := []) ⟨hx, hb, hml, hown, ht⟩ (k_X1_size l d0 cO dC dI H.size ch1 lc1 lm1 le1) (my_V ht M_X1_size q420 q421 q419 (Nat.le_of_ble_eq_true rfl) (Nat.le_of_ble_eq_true rfl)) ⟨PREp.fb, va_recv hK hP (ci := 2) (q0 := 3) rfl rfl, fun U hU hW => ⟨rfl, PREp.mk' hE hS hFc hPc hKc U hU hW⟩⟩ rfl rfl hl.1 rfl (lv_room (Nat.le_of_ble_eq_true rfl)) dX11_held_19 ⟨(Nat.le_of_ble_eq_true rfl), (Nat.le_of_ble_eq_true rfl)⟩) hS (fun q _ h => hFc q h) hFc (fun r6 u5 t H1 locs htt hvm hw hB hz1 hk1 hS => ?_)
        try dsimp only at hw hB
        have hP1 := hB
        rw [htt] at hP1
        have hP := keepAll hP hk1
        generalize H1 = H at hP hS ⊢
        have hP : va_P (dC, dI) vwCl [(h0, .inr (12, [t0, .ref ca, t2, t3, t4, t5])), (ca, .inl (tH, 10, .inr (.inr (.inr (.inr ((va_up (va_up (va_up (va_up (va_up (va_up (va_up (va_up (va_up (va_up (fun _ => none) 0 (some ch0)) 1 (some ch1)) 2 (some ch2)) 3 (some ch3)) 4 (some ch4)) 5 (some ch5)) 6 (some ch6)) 7 (some ch7)) 8 (some ch8)) 9 (some ch9)))))))), (ch0, .inr (2, [.ref lc0])), (ch1, .inr (2, [.ref lc1])), (ch2, .inr (2, [.ref lc2])), (ch3, .inr (2, [.ref lc3])), (ch4, .inr (2, [.ref lc4])), (ch5, .inr (2, [.ref lc5])), (ch6, .inr (2, [.ref lc6])), (ch7, .inr (2, [.ref lc7])), (ch8, .inr (2, [.ref lc8])), (ch9, .inr (2, [.ref lc9])), (lc0, .inr (0, [.int lm0, le0, .int 0])), (lc1, .inr (0, [.int lm1, le1, .int 0])), (lc2, .inr (0, [.int lm2, le2, .int 0])), (lc3, .inr (0, [.int lm3, le3, .int 0])), (lc4, .inr (0, [.int lm4, le4, .int 0])), (lc5, .inr (0, [.int lm5, le5, .int 0])), (lc6, .inr (0, [.int lm6, le6, .int 0])), (lc7, .inr (0, [.int lm7, le7, .int 0])), (lc8, .inr (0, [.int lm8, le8, .int 0])), (lc9, .inr (0, [.int lm9, le9, .int 0]))] H := hP
        have hK : va_K (dC, dI) vwCl [(tH, .object RX1)] s := hK
        refine W.widen (k := 0) (n := 0) (Nat.le_of_ble_eq_true rfl) (Nat.le_of_ble_eq_true rfl) ?_
        subst hw
        refine lv_goto (tgt := 26) hx hb dX11_held_22 (by decide) ?_
        have hP9 := hP.sub (ws' := []) [] rfl
        have hK9 := hK.sub (tys' := [(tH, .object RX1)]) [0] rfl
        refine W.widen (k := 0) (n := 0) (Nat.le_of_ble_eq_true rfl) (Nat.le_of_ble_eq_true rfl) ?_
        exact W.iret (v := 0) hx hb hr (fun t ht9 hW9 => ⟨⟨0, (), rfl, rfl, ppk ht9 hP9⟩, hS.F ht9⟩) hS.2.2 dX11_held_26
      · subst hj
        refine lv_aload_n hx hb dX11_held_13 rfl (lv_at hl 0 rfl) ?_
        refine va_get (D := (dC, dI)) (ci := 12) (v := .ref ca) (C := RX11) (T := TX11) (N := 6) hx hb ht inGX11 hown hK hP 0 rfl rfl 1 (by decide) (ht _ q392) (fun _ h9 => h9) rfl dX11_held_14 ?_
        refine lv_iload_n hx hb dX11_held_17 rfl (lv_at hl 1 rfl) ?_
        refine va_aldq hx hb hK hP 1 0 rfl rfl (vp_in_nI (n := 2) (by decide) (by decide)) dX11_held_18 ?_
        refine W.eq (g2 := F0 m 19 ls [.ref ch2]) rfl ?_
        have hPc := hP.sub (ws' := [(ch2, .inr (2, [.ref lc2])), (lc2, .inr (0, [.int lm2, le2, .int 0]))]) [4, 14] rfl
        have hKc := hK.sub (tys' := []) [] rfl
        have hFc := freeNil hS hA
        refine va_calli (va_runV (As := []) (rest := []) ⟨hx, hb, hml, hown, ht⟩ (k_X1_size l d0 cO dC dI H.size ch2 lc2 lm2 le2) (my_V ht M_X1_size q420 q421 q419 (Nat.le_of_ble_eq_true rfl) (Nat.le_of_ble_eq_true rfl)) ⟨PREp.fb, va_recv hK hP (ci := 2) (q0 := 4) rfl rfl, fun U hU hW => ⟨rfl, PREp.mk' hE hS hFc hPc hKc U hU hW⟩⟩ rfl rfl hl.1 rfl (lv_room (Nat.le_of_ble_eq_true rfl)) dX11_held_19 ⟨(Nat.le_of_ble_eq_true rfl), (Nat.le_of_ble_eq_true rfl)⟩) hS (fun q _ h => hFc q h) hFc (fun r8 u7 t H1 locs htt hvm hw hB hz1 hk1 hS => ?_)
        try dsimp only at hw hB
        have hP1 := hB
        rw [htt] at hP1
        have hP := keepAll hP hk1
        generalize H1 = H at hP hS ⊢
        have hP : va_P (dC, dI) vwCl [(h0, .inr (12, [t0, .ref ca, t2, t3, t4, t5])), (ca, .inl (tH, 10, .inr (.inr (.inr (.inr ((va_up (va_up (va_up (va_up (va_up (va_up (va_up (va_up (va_up (va_up (fun _ => none) 0 (some ch0)) 1 (some ch1)) 2 (some ch2)) 3 (some ch3)) 4 (some ch4)) 5 (some ch5)) 6 (some ch6)) 7 (some ch7)) 8 (some ch8)) 9 (some ch9)))))))), (ch0, .inr (2, [.ref lc0])), (ch1, .inr (2, [.ref lc1])), (ch2, .inr (2, [.ref lc2])), (ch3, .inr (2, [.ref lc3])), (ch4, .inr (2, [.ref lc4])), (ch5, .inr (2, [.ref lc5])), (ch6, .inr (2, [.ref lc6])), (ch7, .inr (2, [.ref lc7])), (ch8, .inr (2, [.ref lc8])), (ch9, .inr (2, [.ref lc9])), (lc0, .inr (0, [.int lm0, le0, .int 0])), (lc1, .inr (0, [.int lm1, le1, .int 0])), (lc2, .inr (0, [.int lm2, le2, .int 0])), (lc3, .inr (0, [.int lm3, le3, .int 0])), (lc4, .inr (0, [.int lm4, le4, .int 0])), (lc5, .inr (0, [.int lm5, le5, .int 0])), (lc6, .inr (0, [.int lm6, le6, .int 0])), (lc7, .inr (0, [.int lm7, le7, .int 0])), (lc8, .inr (0, [.int lm8, le8, .int 0])), (lc9, .inr (0, [.int lm9, le9, .int 0]))] H := hP
        have hK : va_K (dC, dI) vwCl [(tH, .object RX1)] s := hK
        refine W.widen (k := 0) (n := 0) (Nat.le_of_ble_eq_true rfl) (Nat.le_of_ble_eq_true rfl) ?_
        subst hw
        refine lv_goto (tgt := 26) hx hb dX11_held_22 (by decide) ?_
        have hP9 := hP.sub (ws' := []) [] rfl
        have hK9 := hK.sub (tys' := [(tH, .object RX1)]) [0] rfl
        refine W.widen (k := 0) (n := 0) (Nat.le_of_ble_eq_true rfl) (Nat.le_of_ble_eq_true rfl) ?_
        exact W.iret (v := 0) hx hb hr (fun t ht9 hW9 => ⟨⟨0, (), rfl, rfl, ppk ht9 hP9⟩, hS.F ht9⟩) hS.2.2 dX11_held_26
      · subst hj
        refine lv_aload_n hx hb dX11_held_13 rfl (lv_at hl 0 rfl) ?_
        refine va_get (D := (dC, dI)) (ci := 12) (v := .ref ca) (C := RX11) (T := TX11) (N := 6) hx hb ht inGX11 hown hK hP 0 rfl rfl 1 (by decide) (ht _ q392) (fun _ h9 => h9) rfl dX11_held_14 ?_
        refine lv_iload_n hx hb dX11_held_17 rfl (lv_at hl 1 rfl) ?_
        refine va_aldq hx hb hK hP 1 0 rfl rfl (vp_in_nI (n := 3) (by decide) (by decide)) dX11_held_18 ?_
        refine W.eq (g2 := F0 m 19 ls [.ref ch3]) rfl ?_
        have hPc := hP.sub (ws' := [(ch3, .inr (2, [.ref lc3])), (lc3, .inr (0, [.int lm3, le3, .int 0]))]) [5, 15] rfl
        have hKc := hK.sub (tys' := []) [] rfl
        have hFc := freeNil hS hA
        refine va_calli (va_runV (As := []) (rest := []) ⟨hx, hb, hml, hown, ht⟩ (k_X1_size l d0 cO dC dI H.size ch3 lc3 lm3 le3) (my_V ht M_X1_size q420 q421 q419 (Nat.le_of_ble_eq_true rfl) (Nat.le_of_ble_eq_true rfl)) ⟨PREp.fb, va_recv hK hP (ci := 2) (q0 := 5) rfl rfl, fun U hU hW => ⟨rfl, PREp.mk' hE hS hFc hPc hKc U hU hW⟩⟩ rfl rfl hl.1 rfl (lv_room (Nat.le_of_ble_eq_true rfl)) dX11_held_19 ⟨(Nat.le_of_ble_eq_true rfl), (Nat.le_of_ble_eq_true rfl)⟩) hS (fun q _ h => hFc q h) hFc (fun r10 u9 t H1 locs htt hvm hw hB hz1 hk1 hS => ?_)
        try dsimp only at hw hB
        have hP1 := hB
        rw [htt] at hP1
        have hP := keepAll hP hk1
        generalize H1 = H at hP hS ⊢
        have hP : va_P (dC, dI) vwCl [(h0, .inr (12, [t0, .ref ca, t2, t3, t4, t5])), (ca, .inl (tH, 10, .inr (.inr (.inr (.inr ((va_up (va_up (va_up (va_up (va_up (va_up (va_up (va_up (va_up (va_up (fun _ => none) 0 (some ch0)) 1 (some ch1)) 2 (some ch2)) 3 (some ch3)) 4 (some ch4)) 5 (some ch5)) 6 (some ch6)) 7 (some ch7)) 8 (some ch8)) 9 (some ch9)))))))), (ch0, .inr (2, [.ref lc0])), (ch1, .inr (2, [.ref lc1])), (ch2, .inr (2, [.ref lc2])), (ch3, .inr (2, [.ref lc3])), (ch4, .inr (2, [.ref lc4])), (ch5, .inr (2, [.ref lc5])), (ch6, .inr (2, [.ref lc6])), (ch7, .inr (2, [.ref lc7])), (ch8, .inr (2, [.ref lc8])), (ch9, .inr (2, [.ref lc9])), (lc0, .inr (0, [.int lm0, le0, .int 0])), (lc1, .inr (0, [.int lm1, le1, .int 0])), (lc2, .inr (0, [.int lm2, le2, .int 0])), (lc3, .inr (0, [.int lm3, le3, .int 0])), (lc4, .inr (0, [.int lm4, le4, .int 0])), (lc5, .inr (0, [.int lm5, le5, .int 0])), (lc6, .inr (0, [.int lm6, le6, .int 0])), (lc7, .inr (0, [.int lm7, le7, .int 0])), (lc8, .inr (0, [.int lm8, le8, .int 0])), (lc9, .inr (0, [.int lm9, le9, .int 0]))] H := hP
        have hK : va_K (dC, dI) vwCl [(tH, .object RX1)] s := hK
        refine W.widen (k := 0) (n := 0) (Nat.le_of_ble_eq_true rfl) (Nat.le_of_ble_eq_true rfl) ?_
        subst hw
        refine lv_goto (tgt := 26) hx hb dX11_held_22 (by decide) ?_
        have hP9 := hP.sub (ws' := []) [] rfl
        have hK9 := hK.sub (tys' := [(tH, .object RX1)]) [0] rfl
        refine W.widen (k := 0) (n := 0) (Nat.le_of_ble_eq_true rfl) (Nat.le_of_ble_eq_true rfl) ?_
        exact W.iret (v := 0) hx hb hr (fun t ht9 hW9 => ⟨⟨0, (), rfl, rfl, ppk ht9 hP9⟩, hS.F ht9⟩) hS.2.2 dX11_held_26
      · subst hj
        refine lv_aload_n hx hb dX11_held_13 rfl (lv_at hl 0 rfl) ?_
        refine va_get (D := (dC, dI)) (ci := 12) (v := .ref ca) (C := RX11) (T := TX11) (N := 6) hx hb ht inGX11 hown hK hP 0 rfl rfl 1 (by decide) (ht _ q392) (fun _ h9 => h9) rfl dX11_held_14 ?_
        refine lv_iload_n hx hb dX11_held_17 rfl (lv_at hl 1 rfl) ?_
        refine va_aldq hx hb hK hP 1 0 rfl rfl (vp_in_nI (n := 4) (by decide) (by decide)) dX11_held_18 ?_
        refine W.eq (g2 := F0 m 19 ls [.ref ch4]) rfl ?_
        have hPc := hP.sub (ws' := [(ch4, .inr (2, [.ref lc4])), (lc4, .inr (0, [.int lm4, le4, .int 0]))]) [6, 16] rfl
        have hKc := hK.sub (tys' := []) [] rfl
        have hFc := freeNil hS hA
        refine va_calli (va_runV (As := []) (rest := []) ⟨hx, hb, hml, hown, ht⟩ (k_X1_size l d0 cO dC dI H.size ch4 lc4 lm4 le4) (my_V ht M_X1_size q420 q421 q419 (Nat.le_of_ble_eq_true rfl) (Nat.le_of_ble_eq_true rfl)) ⟨PREp.fb, va_recv hK hP (ci := 2) (q0 := 6) rfl rfl, fun U hU hW => ⟨rfl, PREp.mk' hE hS hFc hPc hKc U hU hW⟩⟩ rfl rfl hl.1 rfl (lv_room (Nat.le_of_ble_eq_true rfl)) dX11_held_19 ⟨(Nat.le_of_ble_eq_true rfl), (Nat.le_of_ble_eq_true rfl)⟩) hS (fun q _ h => hFc q h) hFc (fun r12 u11 t H1 locs htt hvm hw hB hz1 hk1 hS => ?_)
        try dsimp only at hw hB
        have hP1 := hB
        rw [htt] at hP1
        have hP := keepAll hP hk1
        generalize H1 = H at hP hS ⊢
        have hP : va_P (dC, dI) vwCl [(h0, .inr (12, [t0, .ref ca, t2, t3, t4, t5])), (ca, .inl (tH, 10, .inr (.inr (.inr (.inr ((va_up (va_up (va_up (va_up (va_up (va_up (va_up (va_up (va_up (va_up (fun _ => none) 0 (some ch0)) 1 (some ch1)) 2 (some ch2)) 3 (some ch3)) 4 (some ch4)) 5 (some ch5)) 6 (some ch6)) 7 (some ch7)) 8 (some ch8)) 9 (some ch9)))))))), (ch0, .inr (2, [.ref lc0])), (ch1, .inr (2, [.ref lc1])), (ch2, .inr (2, [.ref lc2])), (ch3, .inr (2, [.ref lc3])), (ch4, .inr (2, [.ref lc4])), (ch5, .inr (2, [.ref lc5])), (ch6, .inr (2, [.ref lc6])), (ch7, .inr (2, [.ref lc7])), (ch8, .inr (2, [.ref lc8])), (ch9, .inr (2, [.ref lc9])), (lc0, .inr (0, [.int lm0, le0, .int 0])), (lc1, .inr (0, [.int lm1, le1, .int 0])), (lc2, .inr (0, [.int lm2, le2, .int 0])), (lc3, .inr (0, [.int lm3, le3, .int 0])), (lc4, .inr (0, [.int lm4, le4, .int 0])), (lc5, .inr (0, [.int lm5, le5, .int 0])), (lc6, .inr (0, [.int lm6, le6, .int 0])), (lc7, .inr (0, [.int lm7, le7, .int 0])), (lc8, .inr (0, [.int lm8, le8, .int 0])), (lc9, .inr (0, [.int lm9, le9, .int 0]))] H := hP
        have hK : va_K (dC, dI) vwCl [(tH, .object RX1)] s := hK
        refine W.widen (k := 0) (n := 0) (Nat.le_of_ble_eq_true rfl) (Nat.le_of_ble_eq_true rfl) ?_
        subst hw
        refine lv_goto (tgt := 26) hx hb dX11_held_22 (by decide) ?_
        have hP9 := hP.sub (ws' := []) [] rfl
        have hK9 := hK.sub (tys' := [(tH, .object RX1)]) [0] rfl
        refine W.widen (k := 0) (n := 0) (Nat.le_of_ble_eq_true rfl) (Nat.le_of_ble_eq_true rfl) ?_
        exact W.iret (v := 0) hx hb hr (fun t ht9 hW9 => ⟨⟨0, (), rfl, rfl, ppk ht9 hP9⟩, hS.F ht9⟩) hS.2.2 dX11_held_26
      · subst hj
        refine lv_aload_n hx hb dX11_held_13 rfl (lv_at hl 0 rfl) ?_
        refine va_get (D := (dC, dI)) (ci := 12) (v := .ref ca) (C := RX11) (T := TX11) (N := 6) hx hb ht inGX11 hown hK hP 0 rfl rfl 1 (by decide) (ht _ q392) (fun _ h9 => h9) rfl dX11_held_14 ?_
        refine lv_iload_n hx hb dX11_held_17 rfl (lv_at hl 1 rfl) ?_
        refine va_aldq hx hb hK hP 1 0 rfl rfl (vp_in_nI (n := 5) (by decide) (by decide)) dX11_held_18 ?_
        refine W.eq (g2 := F0 m 19 ls [.ref ch5]) rfl ?_
        have hPc := hP.sub (ws' := [(ch5, .inr (2, [.ref lc5])), (lc5, .inr (0, [.int lm5, le5, .int 0]))]) [7, 17] rfl
        have hKc := hK.sub (tys' := []) [] rfl
        have hFc := freeNil hS hA
        refine va_calli (va_runV (As := []) (rest := []) ⟨hx, hb, hml, hown, ht⟩ (k_X1_size l d0 cO dC dI H.size ch5 lc5 lm5 le5) (my_V ht M_X1_size q420 q421 q419 (Nat.le_of_ble_eq_true rfl) (Nat.le_of_ble_eq_true rfl)) ⟨PREp.fb, va_recv hK hP (ci := 2) (q0 := 7) rfl rfl, fun U hU hW => ⟨rfl, PREp.mk' hE hS hFc hPc hKc U hU hW⟩⟩ rfl rfl hl.1 rfl (lv_room (Nat.le_of_ble_eq_true rfl)) dX11_held_19 ⟨(Nat.le_of_ble_eq_true rfl), (Nat.le_of_ble_eq_true rfl)⟩) hS (fun q _ h => hFc q h) hFc (fun r14 u13 t H1 locs htt hvm hw hB hz1 hk1 hS => ?_)
        try dsimp only at hw hB
        have hP1 := hB
        rw [htt] at hP1
        have hP := keepAll hP hk1
        generalize H1 = H at hP hS ⊢
        have hP : va_P (dC, dI) vwCl [(h0, .inr (12, [t0, .ref ca, t2, t3, t4, t5])), (ca, .inl (tH, 10, .inr (.inr (.inr (.inr ((va_up (va_up (va_up (va_up (va_up (va_up (va_up (va_up (va_up (va_up (fun _ => none) 0 (some ch0)) 1 (some ch1)) 2 (some ch2)) 3 (some ch3)) 4 (some ch4)) 5 (some ch5)) 6 (some ch6)) 7 (some ch7)) 8 (some ch8)) 9 (some ch9)))))))), (ch0, .inr (2, [.ref lc0])), (ch1, .inr (2, [.ref lc1])), (ch2, .inr (2, [.ref lc2])), (ch3, .inr (2, [.ref lc3])), (ch4, .inr (2, [.ref lc4])), (ch5, .inr (2, [.ref lc5])), (ch6, .inr (2, [.ref lc6])), (ch7, .inr (2, [.ref lc7])), (ch8, .inr (2, [.ref lc8])), (ch9, .inr (2, [.ref lc9])), (lc0, .inr (0, [.int lm0, le0, .int 0])), (lc1, .inr (0, [.int lm1, le1, .int 0])), (lc2, .inr (0, [.int lm2, le2, .int 0])), (lc3, .inr (0, [.int lm3, le3, .int 0])), (lc4, .inr (0, [.int lm4, le4, .int 0])), (lc5, .inr (0, [.int lm5, le5, .int 0])), (lc6, .inr (0, [.int lm6, le6, .int 0])), (lc7, .inr (0, [.int lm7, le7, .int 0])), (lc8, .inr (0, [.int lm8, le8, .int 0])), (lc9, .inr (0, [.int lm9, le9, .int 0]))] H := hP
        have hK : va_K (dC, dI) vwCl [(tH, .object RX1)] s := hK
        refine W.widen (k := 0) (n := 0) (Nat.le_of_ble_eq_true rfl) (Nat.le_of_ble_eq_true rfl) ?_
        subst hw
        refine lv_goto (tgt := 26) hx hb dX11_held_22 (by decide) ?_
        have hP9 := hP.sub (ws' := []) [] rfl
        have hK9 := hK.sub (tys' := [(tH, .object RX1)]) [0] rfl
        refine W.widen (k := 0) (n := 0) (Nat.le_of_ble_eq_true rfl) (Nat.le_of_ble_eq_true rfl) ?_
        exact W.iret (v := 0) hx hb hr (fun t ht9 hW9 => ⟨⟨0, (), rfl, rfl, ppk ht9 hP9⟩, hS.F ht9⟩) hS.2.2 dX11_held_26
      · subst hj
        refine lv_aload_n hx hb dX11_held_13 rfl (lv_at hl 0 rfl) ?_
        refine va_get (D := (dC, dI)) (ci := 12) (v := .ref ca) (C := RX11) (T := TX11) (N := 6) hx hb ht inGX11 hown hK hP 0 rfl rfl 1 (by decide) (ht _ q392) (fun _ h9 => h9) rfl dX11_held_14 ?_
        refine lv_iload_n hx hb dX11_held_17 rfl (lv_at hl 1 rfl) ?_
        refine va_aldq hx hb hK hP 1 0 rfl rfl (vp_in_nI (n := 6) (by decide) (by decide)) dX11_held_18 ?_
        refine W.eq (g2 := F0 m 19 ls [.ref ch6]) rfl ?_
        have hPc := hP.sub (ws' := [(ch6, .inr (2, [.ref lc6])), (lc6, .inr (0, [.int lm6, le6, .int 0]))]) [8, 18] rfl
        have hKc := hK.sub (tys' := []) [] rfl
        have hFc := freeNil hS hA
        refine va_calli (va_runV (As := []) (rest := []) ⟨hx, hb, hml, hown, ht⟩ (k_X1_size l d0 cO dC dI H.size ch6 lc6 lm6 le6) (my_V ht M_X1_size q420 q421 q419 (Nat.le_of_ble_eq_true rfl) (Nat.le_of_ble_eq_true rfl)) ⟨PREp.fb, va_recv hK hP (ci := 2) (q0 := 8) rfl rfl, fun U hU hW => ⟨rfl, PREp.mk' hE hS hFc hPc hKc U hU hW⟩⟩ rfl rfl hl.1 rfl (lv_room (Nat.le_of_ble_eq_true rfl)) dX11_held_19 ⟨(Nat.le_of_ble_eq_true rfl), (Nat.le_of_ble_eq_true rfl)⟩) hS (fun q _ h => hFc q h) hFc (fun r16 u15 t H1 locs htt hvm hw hB hz1 hk1 hS => ?_)
        try dsimp only at hw hB
        have hP1 := hB
        rw [htt] at hP1
        have hP := keepAll hP hk1
        generalize H1 = H at hP hS ⊢
        have hP : va_P (dC, dI) vwCl [(h0, .inr (12, [t0, .ref ca, t2, t3, t4, t5])), (ca, .inl (tH, 10, .inr (.inr (.inr (.inr ((va_up (va_up (va_up (va_up (va_up (va_up (va_up (va_up (va_up (va_up (fun _ => none) 0 (some ch0)) 1 (some ch1)) 2 (some ch2)) 3 (some ch3)) 4 (some ch4)) 5 (some ch5)) 6 (some ch6)) 7 (some ch7)) 8 (some ch8)) 9 (some ch9)))))))), (ch0, .inr (2, [.ref lc0])), (ch1, .inr (2, [.ref lc1])), (ch2, .inr (2, [.ref lc2])), (ch3, .inr (2, [.ref lc3])), (ch4, .inr (2, [.ref lc4])), (ch5, .inr (2, [.ref lc5])), (ch6, .inr (2, [.ref lc6])), (ch7, .inr (2, [.ref lc7])), (ch8, .inr (2, [.ref lc8])), (ch9, .inr (2, [.ref lc9])), (lc0, .inr (0, [.int lm0, le0, .int 0])), (lc1, .inr (0, [.int lm1, le1, .int 0])), (lc2, .inr (0, [.int lm2, le2, .int 0])), (lc3, .inr (0, [.int lm3, le3, .int 0])), (lc4, .inr (0, [.int lm4, le4, .int 0])), (lc5, .inr (0, [.int lm5, le5, .int 0])), (lc6, .inr (0, [.int lm6, le6, .int 0])), (lc7, .inr (0, [.int lm7, le7, .int 0])), (lc8, .inr (0, [.int lm8, le8, .int 0])), (lc9, .inr (0, [.int lm9, le9, .int 0]))] H := hP
        have hK : va_K (dC, dI) vwCl [(tH, .object RX1)] s := hK
        refine W.widen (k := 0) (n := 0) (Nat.le_of_ble_eq_true rfl) (Nat.le_of_ble_eq_true rfl) ?_
        subst hw
        refine lv_goto (tgt := 26) hx hb dX11_held_22 (by decide) ?_
        have hP9 := hP.sub (ws' := []) [] rfl
        have hK9 := hK.sub (tys' := [(tH, .object RX1)]) [0] rfl
        refine W.widen (k := 0) (n := 0) (Nat.le_of_ble_eq_true rfl) (Nat.le_of_ble_eq_true rfl) ?_
        exact W.iret (v := 0) hx hb hr (fun t ht9 hW9 => ⟨⟨0, (), rfl, rfl, ppk ht9 hP9⟩, hS.F ht9⟩) hS.2.2 dX11_held_26
      · subst hj
        refine lv_aload_n hx hb dX11_held_13 rfl (lv_at hl 0 rfl) ?_
        refine va_get (D := (dC, dI)) (ci := 12) (v := .ref ca) (C := RX11) (T := TX11) (N := 6) hx hb ht inGX11 hown hK hP 0 rfl rfl 1 (by decide) (ht _ q392) (fun _ h9 => h9) rfl dX11_held_14 ?_
        refine lv_iload_n hx hb dX11_held_17 rfl (lv_at hl 1 rfl) ?_
        refine va_aldq hx hb hK hP 1 0 rfl rfl (vp_in_nI (n := 7) (by decide) (by decide)) dX11_held_18 ?_
        refine W.eq (g2 := F0 m 19 ls [.ref ch7]) rfl ?_
        have hPc := hP.sub (ws' := [(ch7, .inr (2, [.ref lc7])), (lc7, .inr (0, [.int lm7, le7, .int 0]))]) [9, 19] rfl
        have hKc := hK.sub (tys' := []) [] rfl
        have hFc := freeNil hS hA
        refine va_calli (va_runV (As := []) (rest := []) ⟨hx, hb, hml, hown, ht⟩ (k_X1_size l d0 cO dC dI H.size ch7 lc7 lm7 le7) (my_V ht M_X1_size q420 q421 q419 (Nat.le_of_ble_eq_true rfl) (Nat.le_of_ble_eq_true rfl)) ⟨PREp.fb, va_recv hK hP (ci := 2) (q0 := 9) rfl rfl, fun U hU hW => ⟨rfl, PREp.mk' hE hS hFc hPc hKc U hU hW⟩⟩ rfl rfl hl.1 rfl (lv_room (Nat.le_of_ble_eq_true rfl)) dX11_held_19 ⟨(Nat.le_of_ble_eq_true rfl), (Nat.le_of_ble_eq_true rfl)⟩) hS (fun q _ h => hFc q h) hFc (fun r18 u17 t H1 locs htt hvm hw hB hz1 hk1 hS => ?_)
        try dsimp only at hw hB
        have hP1 := hB
        rw [htt] at hP1
        have hP := keepAll hP hk1
        generalize H1 = H at hP hS ⊢
        have hP : va_P (dC, dI) vwCl [(h0, .inr (12, [t0, .ref ca, t2, t3, t4, t5])), (ca, .inl (tH, 10, .inr (.inr (.inr (.inr ((va_up (va_up (va_up (va_up (va_up (va_up (va_up (va_up (va_up (va_up (fun _ => none) 0 (some ch0)) 1 (some ch1)) 2 (some ch2)) 3 (some ch3)) 4 (some ch4)) 5 (some ch5)) 6 (some ch6)) 7 (some ch7)) 8 (some ch8)) 9 (some ch9)))))))), (ch0, .inr (2, [.ref lc0])), (ch1, .inr (2, [.ref lc1])), (ch2, .inr (2, [.ref lc2])), (ch3, .inr (2, [.ref lc3])), (ch4, .inr (2, [.ref lc4])), (ch5, .inr (2, [.ref lc5])), (ch6, .inr (2, [.ref lc6])), (ch7, .inr (2, [.ref lc7])), (ch8, .inr (2, [.ref lc8])), (ch9, .inr (2, [.ref lc9])), (lc0, .inr (0, [.int lm0, le0, .int 0])), (lc1, .inr (0, [.int lm1, le1, .int 0])), (lc2, .inr (0, [.int lm2, le2, .int 0])), (lc3, .inr (0, [.int lm3, le3, .int 0])), (lc4, .inr (0, [.int lm4, le4, .int 0])), (lc5, .inr (0, [.int lm5, le5, .int 0])), (lc6, .inr (0, [.int lm6, le6, .int 0])), (lc7, .inr (0, [.int lm7, le7, .int 0])), (lc8, .inr (0, [.int lm8, le8, .int 0])), (lc9, .inr (0, [.int lm9, le9, .int 0]))] H := hP
        have hK : va_K (dC, dI) vwCl [(tH, .object RX1)] s := hK
        refine W.widen (k := 0) (n := 0) (Nat.le_of_ble_eq_true rfl) (Nat.le_of_ble_eq_true rfl) ?_
        subst hw
        refine lv_goto (tgt := 26) hx hb dX11_held_22 (by decide) ?_
        have hP9 := hP.sub (ws' := []) [] rfl
        have hK9 := hK.sub (tys' := [(tH, .object RX1)]) [0] rfl
        refine W.widen (k := 0) (n := 0) (Nat.le_of_ble_eq_true rfl) (Nat.le_of_ble_eq_true rfl) ?_
        exact W.iret (v := 0) hx hb hr (fun t ht9 hW9 => ⟨⟨0, (), rfl, rfl, ppk ht9 hP9⟩, hS.F ht9⟩) hS.2.2 dX11_held_26
      · subst hj
        refine lv_aload_n hx hb dX11_held_13 rfl (lv_at hl 0 rfl) ?_
        refine va_get (D := (dC, dI)) (ci := 12) (v := .ref ca) (C := RX11) (T := TX11) (N := 6) hx hb ht inGX11 hown hK hP 0 rfl rfl 1 (by decide) (ht _ q392) (fun _ h9 => h9) rfl dX11_held_14 ?_
        refine lv_iload_n hx hb dX11_held_17 rfl (lv_at hl 1 rfl) ?_
        refine va_aldq hx hb hK hP 1 0 rfl rfl (vp_in_nI (n := 8) (by decide) (by decide)) dX11_held_18 ?_
        refine W.eq (g2 := F0 m 19 ls [.ref ch8]) rfl ?_
        have hPc := hP.sub (ws' := [(ch8, .inr (2, [.ref lc8])), (lc8, .inr (0, [.int lm8, le8, .int 0]))]) [10, 20] rfl
        have hKc := hK.sub (tys' := []) [] rfl
        have hFc := freeNil hS hA
        refine va_calli (va_runV (As := []) (rest := []) ⟨hx, hb, hml, hown, ht⟩ (k_X1_size l d0 cO dC dI H.size ch8 lc8 lm8 le8) (my_V ht M_X1_size q420 q421 q419 (Nat.le_of_ble_eq_true rfl) (Nat.le_of_ble_eq_true rfl)) ⟨PREp.fb, va_recv hK hP (ci := 2) (q0 := 10) rfl rfl, fun U hU hW => ⟨rfl, PREp.mk' hE hS hFc hPc hKc U hU hW⟩⟩ rfl rfl hl.1 rfl (lv_room (Nat.le_of_ble_eq_true rfl)) dX11_held_19 ⟨(Nat.le_of_ble_eq_true rfl), (Nat.le_of_ble_eq_true rfl)⟩) hS (fun q _ h => hFc q h) hFc (fun r20 u19 t H1 locs htt hvm hw hB hz1 hk1 hS => ?_)
        try dsimp only at hw hB
        have hP1 := hB
        rw [htt] at hP1
        have hP := keepAll hP hk1
        generalize H1 = H at hP hS ⊢
        have hP : va_P (dC, dI) vwCl [(h0, .inr (12, [t0, .ref ca, t2, t3, t4, t5])), (ca, .inl (tH, 10, .inr (.inr (.inr (.inr ((va_up (va_up (va_up (va_up (va_up (va_up (va_up (va_up (va_up (va_up (fun _ => none) 0 (some ch0)) 1 (some ch1)) 2 (some ch2)) 3 (some ch3)) 4 (some ch4)) 5 (some ch5)) 6 (some ch6)) 7 (some ch7)) 8 (some ch8)) 9 (some ch9)))))))), (ch0, .inr (2, [.ref lc0])), (ch1, .inr (2, [.ref lc1])), (ch2, .inr (2, [.ref lc2])), (ch3, .inr (2, [.ref lc3])), (ch4, .inr (2, [.ref lc4])), (ch5, .inr (2, [.ref lc5])), (ch6, .inr (2, [.ref lc6])), (ch7, .inr (2, [.ref lc7])), (ch8, .inr (2, [.ref lc8])), (ch9, .inr (2, [.ref lc9])), (lc0, .inr (0, [.int lm0, le0, .int 0])), (lc1, .inr (0, [.int lm1, le1, .int 0])), (lc2, .inr (0, [.int lm2, le2, .int 0])), (lc3, .inr (0, [.int lm3, le3, .int 0])), (lc4, .inr (0, [.int lm4, le4, .int 0])), (lc5, .inr (0, [.int lm5, le5, .int 0])), (lc6, .inr (0, [.int lm6, le6, .int 0])), (lc7, .inr (0, [.int lm7, le7, .int 0])), (lc8, .inr (0, [.int lm8, le8, .int 0])), (lc9, .inr (0, [.int lm9, le9, .int 0]))] H := hP
        have hK : va_K (dC, dI) vwCl [(tH, .object RX1)] s := hK
        refine W.widen (k := 0) (n := 0) (Nat.le_of_ble_eq_true rfl) (Nat.le_of_ble_eq_true rfl) ?_
        subst hw
        refine lv_goto (tgt := 26) hx hb dX11_held_22 (by decide) ?_
        have hP9 := hP.sub (ws' := []) [] rfl
        have hK9 := hK.sub (tys' := [(tH, .object RX1)]) [0] rfl
        refine W.widen (k := 0) (n := 0) (Nat.le_of_ble_eq_true rfl) (Nat.le_of_ble_eq_true rfl) ?_
        exact W.iret (v := 0) hx hb hr (fun t ht9 hW9 => ⟨⟨0, (), rfl, rfl, ppk ht9 hP9⟩, hS.F ht9⟩) hS.2.2 dX11_held_26
      · subst hj
        refine lv_aload_n hx hb dX11_held_13 rfl (lv_at hl 0 rfl) ?_
        refine va_get (D := (dC, dI)) (ci := 12) (v := .ref ca) (C := RX11) (T := TX11) (N := 6) hx hb ht inGX11 hown hK hP 0 rfl rfl 1 (by decide) (ht _ q392) (fun _ h9 => h9) rfl dX11_held_14 ?_
        refine lv_iload_n hx hb dX11_held_17 rfl (lv_at hl 1 rfl) ?_
        refine va_aldq hx hb hK hP 1 0 rfl rfl (vp_in_nI (n := 9) (by decide) (by decide)) dX11_held_18 ?_
        refine W.eq (g2 := F0 m 19 ls [.ref ch9]) rfl ?_
        have hPc := hP.sub (ws' := [(ch9, .inr (2, [.ref lc9])), (lc9, .inr (0, [.int lm9, le9, .int 0]))]) [11, 21] rfl
        have hKc := hK.sub (tys' := []) [] rfl
        have hFc := freeNil hS hA
        refine va_calli (va_runV (As := []) (rest := []) ⟨hx, hb, hml, hown, ht⟩ (k_X1_size l d0 cO dC dI H.size ch9 lc9 lm9 le9) (my_V ht M_X1_size q420 q421 q419 (Nat.le_of_ble_eq_true rfl) (Nat.le_of_ble_eq_true rfl)) ⟨PREp.fb, va_recv hK hP (ci := 2) (q0 := 11) rfl rfl, fun U hU hW => ⟨rfl, PREp.mk' hE hS hFc hPc hKc U hU hW⟩⟩ rfl rfl hl.1 rfl (lv_room (Nat.le_of_ble_eq_true rfl)) dX11_held_19 ⟨(Nat.le_of_ble_eq_true rfl), (Nat.le_of_ble_eq_true rfl)⟩) hS (fun q _ h => hFc q h) hFc (fun r22 u21 t H1 locs htt hvm hw hB hz1 hk1 hS => ?_)
        try dsimp only at hw hB
        have hP1 := hB
        rw [htt] at hP1
        have hP := keepAll hP hk1
        generalize H1 = H at hP hS ⊢
        have hP : va_P (dC, dI) vwCl [(h0, .inr (12, [t0, .ref ca, t2, t3, t4, t5])), (ca, .inl (tH, 10, .inr (.inr (.inr (.inr ((va_up (va_up (va_up (va_up (va_up (va_up (va_up (va_up (va_up (va_up (fun _ => none) 0 (some ch0)) 1 (some ch1)) 2 (some ch2)) 3 (some ch3)) 4 (some ch4)) 5 (some ch5)) 6 (some ch6)) 7 (some ch7)) 8 (some ch8)) 9 (some ch9)))))))), (ch0, .inr (2, [.ref lc0])), (ch1, .inr (2, [.ref lc1])), (ch2, .inr (2, [.ref lc2])), (ch3, .inr (2, [.ref lc3])), (ch4, .inr (2, [.ref lc4])), (ch5, .inr (2, [.ref lc5])), (ch6, .inr (2, [.ref lc6])), (ch7, .inr (2, [.ref lc7])), (ch8, .inr (2, [.ref lc8])), (ch9, .inr (2, [.ref lc9])), (lc0, .inr (0, [.int lm0, le0, .int 0])), (lc1, .inr (0, [.int lm1, le1, .int 0])), (lc2, .inr (0, [.int lm2, le2, .int 0])), (lc3, .inr (0, [.int lm3, le3, .int 0])), (lc4, .inr (0, [.int lm4, le4, .int 0])), (lc5, .inr (0, [.int lm5, le5, .int 0])), (lc6, .inr (0, [.int lm6, le6, .int 0])), (lc7, .inr (0, [.int lm7, le7, .int 0])), (lc8, .inr (0, [.int lm8, le8, .int 0])), (lc9, .inr (0, [.int lm9, le9, .int 0]))] H := hP
        have hK : va_K (dC, dI) vwCl [(tH, .object RX1)] s := hK
        refine W.widen (k := 0) (n := 0) (Nat.le_of_ble_eq_true rfl) (Nat.le_of_ble_eq_true rfl) ?_
        subst hw
        refine lv_goto (tgt := 26) hx hb dX11_held_22 (by decide) ?_
        have hP9 := hP.sub (ws' := []) [] rfl
        have hK9 := hK.sub (tys' := [(tH, .object RX1)]) [0] rfl
        refine W.widen (k := 0) (n := 0) (Nat.le_of_ble_eq_true rfl) (Nat.le_of_ble_eq_true rfl) ?_
        exact W.iret (v := 0) hx hb hr (fun t ht9 hW9 => ⟨⟨0, (), rfl, rfl, ppk ht9 hP9⟩, hS.F ht9⟩) hS.2.2 dX11_held_26
set_option maxHeartbeats 4000000 in
set_option maxRecDepth 100000 in
theorem k_X11_deliver (l : Launch) (hL : l.stackTraces = false) (d0 : Nat) (cO : ClassId) (dC : Nat → ClassId) (dI : Nat → Nat → Nat) (sz : Nat) (h0 ca : Nat) (t0 t2 t3 t4 t5 : Value) (tH : ClassId) (ch0 ch1 ch2 ch3 ch4 ch5 ch6 ch7 ch8 ch9 : Nat) (lc0 lc1 lc2 lc3 lc4 lc5 lc6 lc7 lc8 lc9 : Nat) (lm0 lm1 lm2 lm3 lm4 lm5 lm6 lm7 lm8 lm9 : Int32) (le0 le1 le2 le3 le4 le5 le6 le7 le8 le9 : Value) (a1 : Int32) : vx_Met l yX11_deliver (cn yX11_deliver cX11_deliver 2 (some FieldType.int)) (rmd 7 1 6) (va_Pc [.ref h0, .int a1] (PREp d0 cO (dC, dI) (va_A [] sz) [(h0, .inr (12, [t0, .ref ca, t2, t3, t4, t5])), (ca, .inl (tH, 10, .inr (.inr (.inr (.inr ((va_up (va_up (va_up (va_up (va_up (va_up (va_up (va_up (va_up (va_up (fun _ => none) 0 (some ch0)) 1 (some ch1)) 2 (some ch2)) 3 (some ch3)) 4 (some ch4)) 5 (some ch5)) 6 (some ch6)) 7 (some ch7)) 8 (some ch8)) 9 (some ch9)))))))), (ch0, .inr (2, [.ref lc0])), (ch1, .inr (2, [.ref lc1])), (ch2, .inr (2, [.ref lc2])), (ch3, .inr (2, [.ref lc3])), (ch4, .inr (2, [.ref lc4])), (ch5, .inr (2, [.ref lc5])), (ch6, .inr (2, [.ref lc6])), (ch7, .inr (2, [.ref lc7])), (ch8, .inr (2, [.ref lc8])), (ch9, .inr (2, [.ref lc9])), (lc0, .inr (0, [.int lm0, le0, .int 0])), (lc1, .inr (0, [.int lm1, le1, .int 0])), (lc2, .inr (0, [.int lm2, le2, .int 0])), (lc3, .inr (0, [.int lm3, le3, .int 0])), (lc4, .inr (0, [.int lm4, le4, .int 0])), (lc5, .inr (0, [.int lm5, le5, .int 0])), (lc6, .inr (0, [.int lm6, le6, .int 0])), (lc7, .inr (0, [.int lm7, le7, .int 0])), (lc8, .inr (0, [.int lm8, le8, .int 0])), (lc9, .inr (0, [.int lm9, le9, .int 0]))] [(tH, .object RX1)] sz)) (va_Qi (fun (r : Int32) (_ : Unit) => (0 ≤ a1 ∧ a1 ≤ 9) ∧ r = -1) (fun (_ : Unit) (t : State) => va_P (dC, dI) vwCl [] t.heap) (va_A [] sz)) (vx_X (fun _ : Unit => True) (fun E _ _ => E = "java/lang/IndexOutOfBoundsException" ∧ ¬ (0 ≤ a1 ∧ a1 ≤ 9)) (va_A [] sz)) 1 6 (va_A [] sz) := by
  refine vx_ofW (cc := cX11_deliver) (maxL := 2) (ret := (some FieldType.int)) (by decide) rfl ?_
  intro p e s m args below meth c s₁ B hml hno hv
  obtain ⟨rfl, hsz, hE, hP, hK⟩ := hv
  have hx := B.exec
  have hb := B.bytes
  have hr := B.returns
  have hts := atoms_spec (ws := cn yX11_deliver cX11_deliver 2 (some FieldType.int)) B.pre
  have ht : ∀ w ∈ GT, w.before _ s = true := fun w h => hts w (List.mem_cons_of_mem _ h)
  have hown : s.vm.findClass RX11 = some m.cls := findClass_of_methodNamed B.named
  have hlocks := B.notSynchronized
  subst hsz
  generalize hAe : va_A [] s.heap.size = A at hE ⊢
  have hA : ∀ q : Nat, s.heap.size ≤ q → A q := fun q h => by rw [← hAe]; exact Or.inr h
  obtain ⟨H, hH0⟩ : ∃ H, s.heap = H := ⟨_, rfl⟩
  have hS : va_S A s.heap H [] := by rw [← hH0]; exact va_S.rf
  rw [hH0] at hP
  have hl := lv_entry ([.ref h0, .int a1]) (n := 2) (Nat.le_of_ble_eq_true rfl)
  rw [lg_entry_eq]
  generalize (lg_sl ([.ref h0, .int a1]) ++ List.replicate (2 - (lg_sl ([.ref h0, .int a1])).length) Slot.unset).toArray = ls at hl ⊢
  have hl : lv_has ls 2 [(0, .ref h0), (1, .int a1)] := hl
  rw [hH0]
  refine lv_aload_n hx hb dX11_deliver_0 rfl (lv_at hl 0 rfl) ?_
  refine lv_iload_n hx hb dX11_deliver_1 rfl (lv_at hl 1 rfl) ?_
  have hPc := hP.sub (ws' := [(h0, .inr (12, [t0, .ref ca, t2, t3, t4, t5])), (ca, .inl (tH, 10, .inr (.inr (.inr (.inr ((va_up (va_up (va_up (va_up (va_up (va_up (va_up (va_up (va_up (va_up (fun _ => none) 0 (some ch0)) 1 (some ch1)) 2 (some ch2)) 3 (some ch3)) 4 (some ch4)) 5 (some ch5)) 6 (some ch6)) 7 (some ch7)) 8 (some ch8)) 9 (some ch9)))))))), (ch0, .inr (2, [.ref lc0])), (ch1, .inr (2, [.ref lc1])), (ch2, .inr (2, [.ref lc2])), (ch3, .inr (2, [.ref lc3])), (ch4, .inr (2, [.ref lc4])), (ch5, .inr (2, [.ref lc5])), (ch6, .inr (2, [.ref lc6])), (ch7, .inr (2, [.ref lc7])), (ch8, .inr (2, [.ref lc8])), (ch9, .inr (2, [.ref lc9])), (lc0, .inr (0, [.int lm0, le0, .int 0])), (lc1, .inr (0, [.int lm1, le1, .int 0])), (lc2, .inr (0, [.int lm2, le2, .int 0])), (lc3, .inr (0, [.int lm3, le3, .int 0])), (lc4, .inr (0, [.int lm4, le4, .int 0])), (lc5, .inr (0, [.int lm5, le5, .int 0])), (lc6, .inr (0, [.int lm6, le6, .int 0])), (lc7, .inr (0, [.int lm7, le7, .int 0])), (lc8, .inr (0, [.int lm8, le8, .int 0])), (lc9, .inr (0, [.int lm9, le9, .int 0]))]) [0, 1, 2, 3, 4, 5, 6, 7, 8, 9, 10, 11, 12, 13, 14, 15, 16, 17, 18, 19, 20, 21] rfl
  have hKc := hK.sub (tys' := [(tH, .object RX1)]) [0] rfl
  have hFc := freeNil hS hA
  refine vx_callv (vx_runV (As := [.int a1]) (rest := []) ⟨hx, hb, hml, hown, ht⟩ (k_X11_checkChannel l hL d0 cO dC dI H.size h0 ca t0 t2 t3 t4 t5 tH ch0 ch1 ch2 ch3 ch4 ch5 ch6 ch7 ch8 ch9 lc0 lc1 lc2 lc3 lc4 lc5 lc6 lc7 lc8 lc9 lm0 lm1 lm2 lm3 lm4 lm5 lm6 lm7 lm8 lm9 le0 le1 le2 le3 le4 le5 le6 le7 le8 le9 a1) (my_V ht M_X11_checkChannel q1622 q48 q1620 (Nat.le_of_ble_eq_true rfl) (Nat.le_of_ble_eq_true rfl)) ⟨PREp.fb, va_recv hK hP (ci := 12) (q0 := 0) rfl rfl, fun U hU hW => ⟨rfl, PREp.mk' hE hS hFc hPc hKc U hU hW⟩⟩ rfl rfl hl.1 rfl (lv_room (Nat.le_of_ble_eq_true rfl)) dX11_deliver_2 ⟨(Nat.le_of_ble_eq_true rfl), (Nat.le_of_ble_eq_true rfl)⟩) hS (fun q _ h => hFc q h) hFc (fun q _ h => hFc q h) (fun E ce q9 ux t H1 locs htt hvm hw hB hz1 hk1 hS hcell hv9 hcl9 => ?_) (fun u1 t H1 locs htt hvm hw hB hz1 hk1 hS => ?_)
  · skip
    exact vx_out (fun x h => (hno x h).elim) hlocks hcell hv9 hcl9 (fun t9 ht9 hvm9 => ⟨(), trivial, hB, ⟨by rw [ht9]; exact hS.1, fun q h1 h2 => by rw [ht9]; exact hS.2.1 q h1 h2⟩⟩) hS.2.2 (Nat.le_of_ble_eq_true rfl) (Nat.le_of_ble_eq_true rfl)
  · skip
    try dsimp only at hw hB
    have hP1 := hB
    rw [htt] at hP1
    have hP := keepAll hP hk1
    generalize H1 = H at hP hS ⊢
    have hP : va_P (dC, dI) vwCl [(h0, .inr (12, [t0, .ref ca, t2, t3, t4, t5])), (ca, .inl (tH, 10, .inr (.inr (.inr (.inr ((va_up (va_up (va_up (va_up (va_up (va_up (va_up (va_up (va_up (va_up (fun _ => none) 0 (some ch0)) 1 (some ch1)) 2 (some ch2)) 3 (some ch3)) 4 (some ch4)) 5 (some ch5)) 6 (some ch6)) 7 (some ch7)) 8 (some ch8)) 9 (some ch9)))))))), (ch0, .inr (2, [.ref lc0])), (ch1, .inr (2, [.ref lc1])), (ch2, .inr (2, [.ref lc2])), (ch3, .inr (2, [.ref lc3])), (ch4, .inr (2, [.ref lc4])), (ch5, .inr (2, [.ref lc5])), (ch6, .inr (2, [.ref lc6])), (ch7, .inr (2, [.ref lc7])), (ch8, .inr (2, [.ref lc8])), (ch9, .inr (2, [.ref lc9])), (lc0, .inr (0, [.int lm0, le0, .int 0])), (lc1, .inr (0, [.int lm1, le1, .int 0])), (lc2, .inr (0, [.int lm2, le2, .int 0])), (lc3, .inr (0, [.int lm3, le3, .int 0])), (lc4, .inr (0, [.int lm4, le4, .int 0])), (lc5, .inr (0, [.int lm5, le5, .int 0])), (lc6, .inr (0, [.int lm6, le6, .int 0])), (lc7, .inr (0, [.int lm7, le7, .int 0])), (lc8, .inr (0, [.int lm8, le8, .int 0])), (lc9, .inr (0, [.int lm9, le9, .int 0]))] H := hP
    have hK : va_K (dC, dI) vwCl [(tH, .object RX1)] s := hK
    refine W.widen (k := 1) (n := 6) (Nat.le_of_ble_eq_true rfl) (Nat.le_of_ble_eq_true rfl) ?_
    have hw0 := hw
    refine lv_aload_n hx hb dX11_deliver_5 rfl (lv_at hl 0 rfl) ?_
    refine lv_iload_n hx hb dX11_deliver_6 rfl (lv_at hl 1 rfl) ?_
    have hPc := hP.sub (ws' := [(h0, .inr (12, [t0, .ref ca, t2, t3, t4, t5])), (ca, .inl (tH, 10, .inr (.inr (.inr (.inr ((va_up (va_up (va_up (va_up (va_up (va_up (va_up (va_up (va_up (va_up (fun _ => none) 0 (some ch0)) 1 (some ch1)) 2 (some ch2)) 3 (some ch3)) 4 (some ch4)) 5 (some ch5)) 6 (some ch6)) 7 (some ch7)) 8 (some ch8)) 9 (some ch9)))))))), (ch0, .inr (2, [.ref lc0])), (ch1, .inr (2, [.ref lc1])), (ch2, .inr (2, [.ref lc2])), (ch3, .inr (2, [.ref lc3])), (ch4, .inr (2, [.ref lc4])), (ch5, .inr (2, [.ref lc5])), (ch6, .inr (2, [.ref lc6])), (ch7, .inr (2, [.ref lc7])), (ch8, .inr (2, [.ref lc8])), (ch9, .inr (2, [.ref lc9])), (lc0, .inr (0, [.int lm0, le0, .int 0])), (lc1, .inr (0, [.int lm1, le1, .int 0])), (lc2, .inr (0, [.int lm2, le2, .int 0])), (lc3, .inr (0, [.int lm3, le3, .int 0])), (lc4, .inr (0, [.int lm4, le4, .int 0])), (lc5, .inr (0, [.int lm5, le5, .int 0])), (lc6, .inr (0, [.int lm6, le6, .int 0])), (lc7, .inr (0, [.int lm7, le7, .int 0])), (lc8, .inr (0, [.int lm8, le8, .int 0])), (lc9, .inr (0, [.int lm9, le9, .int 0]))]) [0, 1, 2, 3, 4, 5, 6, 7, 8, 9, 10, 11, 12, 13, 14, 15, 16, 17, 18, 19, 20, 21] rfl
    have hKc := hK.sub (tys' := [(tH, .object RX1)]) [0] rfl
    have hFc := freeNil hS hA
    refine va_calli (va_runV (As := [.int a1]) (rest := []) ⟨hx, hb, hml, hown, ht⟩ (k_X11_pass l d0 cO dC dI H.size h0 ca t0 t2 t3 t4 t5 tH ch0 ch1 ch2 ch3 ch4 ch5 ch6 ch7 ch8 ch9 lc0 lc1 lc2 lc3 lc4 lc5 lc6 lc7 lc8 lc9 lm0 lm1 lm2 lm3 lm4 lm5 lm6 lm7 lm8 lm9 le0 le1 le2 le3 le4 le5 le6 le7 le8 le9 a1) (my_V ht M_X11_pass q429 q1 q427 (Nat.le_of_ble_eq_true rfl) (Nat.le_of_ble_eq_true rfl)) ⟨PREp.fb, va_recv hK hP (ci := 12) (q0 := 0) rfl rfl, fun U hU hW => ⟨rfl, PREp.mk' hE hS hFc hPc hKc U hU hW⟩⟩ rfl rfl hl.1 rfl (lv_room (Nat.le_of_ble_eq_true rfl)) dX11_deliver_7 ⟨(Nat.le_of_ble_eq_true rfl), (Nat.le_of_ble_eq_true rfl)⟩) hS (fun q _ h => hFc q h) hFc (fun r4 u3 t H1 locs htt hvm hw hB hz1 hk1 hS => ?_)
    try dsimp only at hw hB
    have hP1 := hB
    rw [htt] at hP1
    have hP := keepAll hP hk1
    generalize H1 = H at hP hS ⊢
    have hP : va_P (dC, dI) vwCl [(h0, .inr (12, [t0, .ref ca, t2, t3, t4, t5])), (ca, .inl (tH, 10, .inr (.inr (.inr (.inr ((va_up (va_up (va_up (va_up (va_up (va_up (va_up (va_up (va_up (va_up (fun _ => none) 0 (some ch0)) 1 (some ch1)) 2 (some ch2)) 3 (some ch3)) 4 (some ch4)) 5 (some ch5)) 6 (some ch6)) 7 (some ch7)) 8 (some ch8)) 9 (some ch9)))))))), (ch0, .inr (2, [.ref lc0])), (ch1, .inr (2, [.ref lc1])), (ch2, .inr (2, [.ref lc2])), (ch3, .inr (2, [.ref lc3])), (ch4, .inr (2, [.ref lc4])), (ch5, .inr (2, [.ref lc5])), (ch6, .inr (2, [.ref lc6])), (ch7, .inr (2, [.ref lc7])), (ch8, .inr (2, [.ref lc8])), (ch9, .inr (2, [.ref lc9])), (lc0, .inr (0, [.int lm0, le0, .int 0])), (lc1, .inr (0, [.int lm1, le1, .int 0])), (lc2, .inr (0, [.int lm2, le2, .int 0])), (lc3, .inr (0, [.int lm3, le3, .int 0])), (lc4, .inr (0, [.int lm4, le4, .int 0])), (lc5, .inr (0, [.int lm5, le5, .int 0])), (lc6, .inr (0, [.int lm6, le6, .int 0])), (lc7, .inr (0, [.int lm7, le7, .int 0])), (lc8, .inr (0, [.int lm8, le8, .int 0])), (lc9, .inr (0, [.int lm9, le9, .int 0]))] H := hP
    have hK : va_K (dC, dI) vwCl [(tH, .object RX1)] s := hK
    refine W.widen (k := 1) (n := 6) (Nat.le_of_ble_eq_true rfl) (Nat.le_of_ble_eq_true rfl) ?_
    subst hw
    have hP9 := hP.sub (ws' := []) [] rfl
    have hK9 := hK.sub (tys' := [(tH, .object RX1)]) [0] rfl
    refine W.widen (k := 1) (n := 6) (Nat.le_of_ble_eq_true rfl) (Nat.le_of_ble_eq_true rfl) ?_
    refine vx_ret ?_
    exact W.iret (v := (-1)) hx hb hr (fun t ht9 hW9 => ⟨⟨(-1), (), rfl, ⟨hw0, rfl⟩, ppk ht9 hP9⟩, hS.F ht9⟩) hS.2.2 dX11_deliver_10
set_option maxHeartbeats 4000000 in
set_option maxRecDepth 100000 in
theorem k_X11_waiting (l : Launch) (hL : l.stackTraces = false) (d0 : Nat) (cO : ClassId) (dC : Nat → ClassId) (dI : Nat → Nat → Nat) (sz : Nat) (h0 ca : Nat) (t0 t2 t3 t4 t5 : Value) (tH : ClassId) (ch0 ch1 ch2 ch3 ch4 ch5 ch6 ch7 ch8 ch9 : Nat) (lc0 lc1 lc2 lc3 lc4 lc5 lc6 lc7 lc8 lc9 : Nat) (lm0 lm1 lm2 lm3 lm4 lm5 lm6 lm7 lm8 lm9 : Int32) (le0 le1 le2 le3 le4 le5 le6 le7 le8 le9 : Value) (a1 : Int32) : vx_Met l yX11_waiting (cn yX11_waiting cX11_waiting 2 (some FieldType.int)) (rmd 7 1 6) (va_Pc [.ref h0, .int a1] (PREp d0 cO (dC, dI) (va_A [] sz) [(h0, .inr (12, [t0, .ref ca, t2, t3, t4, t5])), (ca, .inl (tH, 10, .inr (.inr (.inr (.inr ((va_up (va_up (va_up (va_up (va_up (va_up (va_up (va_up (va_up (va_up (fun _ => none) 0 (some ch0)) 1 (some ch1)) 2 (some ch2)) 3 (some ch3)) 4 (some ch4)) 5 (some ch5)) 6 (some ch6)) 7 (some ch7)) 8 (some ch8)) 9 (some ch9)))))))), (ch0, .inr (2, [.ref lc0])), (ch1, .inr (2, [.ref lc1])), (ch2, .inr (2, [.ref lc2])), (ch3, .inr (2, [.ref lc3])), (ch4, .inr (2, [.ref lc4])), (ch5, .inr (2, [.ref lc5])), (ch6, .inr (2, [.ref lc6])), (ch7, .inr (2, [.ref lc7])), (ch8, .inr (2, [.ref lc8])), (ch9, .inr (2, [.ref lc9])), (lc0, .inr (0, [.int lm0, le0, .int 0])), (lc1, .inr (0, [.int lm1, le1, .int 0])), (lc2, .inr (0, [.int lm2, le2, .int 0])), (lc3, .inr (0, [.int lm3, le3, .int 0])), (lc4, .inr (0, [.int lm4, le4, .int 0])), (lc5, .inr (0, [.int lm5, le5, .int 0])), (lc6, .inr (0, [.int lm6, le6, .int 0])), (lc7, .inr (0, [.int lm7, le7, .int 0])), (lc8, .inr (0, [.int lm8, le8, .int 0])), (lc9, .inr (0, [.int lm9, le9, .int 0]))] [(tH, .object RX1)] sz)) (va_Qi (fun (r : Int32) (_ : Unit) => (0 ≤ a1 ∧ a1 ≤ 9) ∧ r = 0) (fun (_ : Unit) (t : State) => va_P (dC, dI) vwCl [] t.heap) (va_A [] sz)) (vx_X (fun _ : Unit => True) (fun E _ _ => E = "java/lang/IndexOutOfBoundsException" ∧ ¬ (0 ≤ a1 ∧ a1 ≤ 9)) (va_A [] sz)) 1 6 (va_A [] sz) := by
  refine vx_ofW (cc := cX11_waiting) (maxL := 2) (ret := (some FieldType.int)) (by decide) rfl ?_
  intro p e s m args below meth c s₁ B hml hno hv
  obtain ⟨rfl, hsz, hE, hP, hK⟩ := hv
  have hx := B.exec
  have hb := B.bytes
  have hr := B.returns
  have hts := atoms_spec (ws := cn yX11_waiting cX11_waiting 2 (some FieldType.int)) B.pre
  have ht : ∀ w ∈ GT, w.before _ s = true := fun w h => hts w (List.mem_cons_of_mem _ h)
  have hown : s.vm.findClass RX11 = some m.cls := findClass_of_methodNamed B.named
  have hlocks := B.notSynchronized
  subst hsz
  generalize hAe : va_A [] s.heap.size = A at hE ⊢
  have hA : ∀ q : Nat, s.heap.size ≤ q → A q := fun q h => by rw [← hAe]; exact Or.inr h
  obtain ⟨H, hH0⟩ : ∃ H, s.heap = H := ⟨_, rfl⟩
  have hS : va_S A s.heap H [] := by rw [← hH0]; exact va_S.rf
  rw [hH0] at hP
  have hl := lv_entry ([.ref h0, .int a1]) (n := 2) (Nat.le_of_ble_eq_true rfl)
  rw [lg_entry_eq]
  generalize (lg_sl ([.ref h0, .int a1]) ++ List.replicate (2 - (lg_sl ([.ref h0, .int a1])).length) Slot.unset).toArray = ls at hl ⊢
  have hl : lv_has ls 2 [(0, .ref h0), (1, .int a1)] := hl
  rw [hH0]
  refine lv_aload_n hx hb dX11_waiting_0 rfl (lv_at hl 0 rfl) ?_
  refine lv_iload_n hx hb dX11_waiting_1 rfl (lv_at hl 1 rfl) ?_
  have hPc := hP.sub (ws' := [(h0, .inr (12, [t0, .ref ca, t2, t3, t4, t5])), (ca, .inl (tH, 10, .inr (.inr (.inr (.inr ((va_up (va_up (va_up (va_up (va_up (va_up (va_up (va_up (va_up (va_up (fun _ => none) 0 (some ch0)) 1 (some ch1)) 2 (some ch2)) 3 (some ch3)) 4 (some ch4)) 5 (some ch5)) 6 (some ch6)) 7 (some ch7)) 8 (some ch8)) 9 (some ch9)))))))), (ch0, .inr (2, [.ref lc0])), (ch1, .inr (2, [.ref lc1])), (ch2, .inr (2, [.ref lc2])), (ch3, .inr (2, [.ref lc3])), (ch4, .inr (2, [.ref lc4])), (ch5, .inr (2, [.ref lc5])), (ch6, .inr (2, [.ref lc6])), (ch7, .inr (2, [.ref lc7])), (ch8, .inr (2, [.ref lc8])), (ch9, .inr (2, [.ref lc9])), (lc0, .inr (0, [.int lm0, le0, .int 0])), (lc1, .inr (0, [.int lm1, le1, .int 0])), (lc2, .inr (0, [.int lm2, le2, .int 0])), (lc3, .inr (0, [.int lm3, le3, .int 0])), (lc4, .inr (0, [.int lm4, le4, .int 0])), (lc5, .inr (0, [.int lm5, le5, .int 0])), (lc6, .inr (0, [.int lm6, le6, .int 0])), (lc7, .inr (0, [.int lm7, le7, .int 0])), (lc8, .inr (0, [.int lm8, le8, .int 0])), (lc9, .inr (0, [.int lm9, le9, .int 0]))]) [0, 1, 2, 3, 4, 5, 6, 7, 8, 9, 10, 11, 12, 13, 14, 15, 16, 17, 18, 19, 20, 21] rfl
  have hKc := hK.sub (tys' := [(tH, .object RX1)]) [0] rfl
  have hFc := freeNil hS hA
  refine vx_callv (vx_runV (As := [.int a1]) (rest := []) ⟨hx, hb, hml, hown, ht⟩ (k_X11_checkChannel l hL d0 cO dC dI H.size h0 ca t0 t2 t3 t4 t5 tH ch0 ch1 ch2 ch3 ch4 ch5 ch6 ch7 ch8 ch9 lc0 lc1 lc2 lc3 lc4 lc5 lc6 lc7 lc8 lc9 lm0 lm1 lm2 lm3 lm4 lm5 lm6 lm7 lm8 lm9 le0 le1 le2 le3 le4 le5 le6 le7 le8 le9 a1) (my_V ht M_X11_checkChannel q1622 q48 q1620 (Nat.le_of_ble_eq_true rfl) (Nat.le_of_ble_eq_true rfl)) ⟨PREp.fb, va_recv hK hP (ci := 12) (q0 := 0) rfl rfl, fun U hU hW => ⟨rfl, PREp.mk' hE hS hFc hPc hKc U hU hW⟩⟩ rfl rfl hl.1 rfl (lv_room (Nat.le_of_ble_eq_true rfl)) dX11_waiting_2 ⟨(Nat.le_of_ble_eq_true rfl), (Nat.le_of_ble_eq_true rfl)⟩) hS (fun q _ h => hFc q h) hFc (fun q _ h => hFc q h) (fun E ce q9 ux t H1 locs htt hvm hw hB hz1 hk1 hS hcell hv9 hcl9 => ?_) (fun u1 t H1 locs htt hvm hw hB hz1 hk1 hS => ?_)
  · skip
    exact vx_out (fun x h => (hno x h).elim) hlocks hcell hv9 hcl9 (fun t9 ht9 hvm9 => ⟨(), trivial, hB, ⟨by rw [ht9]; exact hS.1, fun q h1 h2 => by rw [ht9]; exact hS.2.1 q h1 h2⟩⟩) hS.2.2 (Nat.le_of_ble_eq_true rfl) (Nat.le_of_ble_eq_true rfl)
  · skip
    try dsimp only at hw hB
    have hP1 := hB
    rw [htt] at hP1
    have hP := keepAll hP hk1
    generalize H1 = H at hP hS ⊢
    have hP : va_P (dC, dI) vwCl [(h0, .inr (12, [t0, .ref ca, t2, t3, t4, t5])), (ca, .inl (tH, 10, .inr (.inr (.inr (.inr ((va_up (va_up (va_up (va_up (va_up (va_up (va_up (va_up (va_up (va_up (fun _ => none) 0 (some ch0)) 1 (some ch1)) 2 (some ch2)) 3 (some ch3)) 4 (some ch4)) 5 (some ch5)) 6 (some ch6)) 7 (some ch7)) 8 (some ch8)) 9 (some ch9)))))))), (ch0, .inr (2, [.ref lc0])), (ch1, .inr (2, [.ref lc1])), (ch2, .inr (2, [.ref lc2])), (ch3, .inr (2, [.ref lc3])), (ch4, .inr (2, [.ref lc4])), (ch5, .inr (2, [.ref lc5])), (ch6, .inr (2, [.ref lc6])), (ch7, .inr (2, [.ref lc7])), (ch8, .inr (2, [.ref lc8])), (ch9, .inr (2, [.ref lc9])), (lc0, .inr (0, [.int lm0, le0, .int 0])), (lc1, .inr (0, [.int lm1, le1, .int 0])), (lc2, .inr (0, [.int lm2, le2, .int 0])), (lc3, .inr (0, [.int lm3, le3, .int 0])), (lc4, .inr (0, [.int lm4, le4, .int 0])), (lc5, .inr (0, [.int lm5, le5, .int 0])), (lc6, .inr (0, [.int lm6, le6, .int 0])), (lc7, .inr (0, [.int lm7, le7, .int 0])), (lc8, .inr (0, [.int lm8, le8, .int 0])), (lc9, .inr (0, [.int lm9, le9, .int 0]))] H := hP
    have hK : va_K (dC, dI) vwCl [(tH, .object RX1)] s := hK
    refine W.widen (k := 1) (n := 6) (Nat.le_of_ble_eq_true rfl) (Nat.le_of_ble_eq_true rfl) ?_
    have hw0 := hw
    refine lv_aload_n hx hb dX11_waiting_5 rfl (lv_at hl 0 rfl) ?_
    refine lv_iload_n hx hb dX11_waiting_6 rfl (lv_at hl 1 rfl) ?_
    have hPc := hP.sub (ws' := [(h0, .inr (12, [t0, .ref ca, t2, t3, t4, t5])), (ca, .inl (tH, 10, .inr (.inr (.inr (.inr ((va_up (va_up (va_up (va_up (va_up (va_up (va_up (va_up (va_up (va_up (fun _ => none) 0 (some ch0)) 1 (some ch1)) 2 (some ch2)) 3 (some ch3)) 4 (some ch4)) 5 (some ch5)) 6 (some ch6)) 7 (some ch7)) 8 (some ch8)) 9 (some ch9)))))))), (ch0, .inr (2, [.ref lc0])), (ch1, .inr (2, [.ref lc1])), (ch2, .inr (2, [.ref lc2])), (ch3, .inr (2, [.ref lc3])), (ch4, .inr (2, [.ref lc4])), (ch5, .inr (2, [.ref lc5])), (ch6, .inr (2, [.ref lc6])), (ch7, .inr (2, [.ref lc7])), (ch8, .inr (2, [.ref lc8])), (ch9, .inr (2, [.ref lc9])), (lc0, .inr (0, [.int lm0, le0, .int 0])), (lc1, .inr (0, [.int lm1, le1, .int 0])), (lc2, .inr (0, [.int lm2, le2, .int 0])), (lc3, .inr (0, [.int lm3, le3, .int 0])), (lc4, .inr (0, [.int lm4, le4, .int 0])), (lc5, .inr (0, [.int lm5, le5, .int 0])), (lc6, .inr (0, [.int lm6, le6, .int 0])), (lc7, .inr (0, [.int lm7, le7, .int 0])), (lc8, .inr (0, [.int lm8, le8, .int 0])), (lc9, .inr (0, [.int lm9, le9, .int 0]))]) [0, 1, 2, 3, 4, 5, 6, 7, 8, 9, 10, 11, 12, 13, 14, 15, 16, 17, 18, 19, 20, 21] rfl
    have hKc := hK.sub (tys' := [(tH, .object RX1)]) [0] rfl
    have hFc := freeNil hS hA
    refine va_calli (va_runV (As := [.int a1]) (rest := []) ⟨hx, hb, hml, hown, ht⟩ (k_X11_held l d0 cO dC dI H.size h0 ca t0 t2 t3 t4 t5 tH ch0 ch1 ch2 ch3 ch4 ch5 ch6 ch7 ch8 ch9 lc0 lc1 lc2 lc3 lc4 lc5 lc6 lc7 lc8 lc9 lm0 lm1 lm2 lm3 lm4 lm5 lm6 lm7 lm8 lm9 le0 le1 le2 le3 le4 le5 le6 le7 le8 le9 a1) (my_V ht M_X11_held q1634 q49 q1632 (Nat.le_of_ble_eq_true rfl) (Nat.le_of_ble_eq_true rfl)) ⟨PREp.fb, va_recv hK hP (ci := 12) (q0 := 0) rfl rfl, fun U hU hW => ⟨rfl, PREp.mk' hE hS hFc hPc hKc U hU hW⟩⟩ rfl rfl hl.1 rfl (lv_room (Nat.le_of_ble_eq_true rfl)) dX11_waiting_7 ⟨(Nat.le_of_ble_eq_true rfl), (Nat.le_of_ble_eq_true rfl)⟩) hS (fun q _ h => hFc q h) hFc (fun r4 u3 t H1 locs htt hvm hw hB hz1 hk1 hS => ?_)
    try dsimp only at hw hB
    have hP1 := hB
    rw [htt] at hP1
    have hP := keepAll hP hk1
    generalize H1 = H at hP hS ⊢
    have hP : va_P (dC, dI) vwCl [(h0, .inr (12, [t0, .ref ca, t2, t3, t4, t5])), (ca, .inl (tH, 10, .inr (.inr (.inr (.inr ((va_up (va_up (va_up (va_up (va_up (va_up (va_up (va_up (va_up (va_up (fun _ => none) 0 (some ch0)) 1 (some ch1)) 2 (some ch2)) 3 (some ch3)) 4 (some ch4)) 5 (some ch5)) 6 (some ch6)) 7 (some ch7)) 8 (some ch8)) 9 (some ch9)))))))), (ch0, .inr (2, [.ref lc0])), (ch1, .inr (2, [.ref lc1])), (ch2, .inr (2, [.ref lc2])), (ch3, .inr (2, [.ref lc3])), (ch4, .inr (2, [.ref lc4])), (ch5, .inr (2, [.ref lc5])), (ch6, .inr (2, [.ref lc6])), (ch7, .inr (2, [.ref lc7])), (ch8, .inr (2, [.ref lc8])), (ch9, .inr (2, [.ref lc9])), (lc0, .inr (0, [.int lm0, le0, .int 0])), (lc1, .inr (0, [.int lm1, le1, .int 0])), (lc2, .inr (0, [.int lm2, le2, .int 0])), (lc3, .inr (0, [.int lm3, le3, .int 0])), (lc4, .inr (0, [.int lm4, le4, .int 0])), (lc5, .inr (0, [.int lm5, le5, .int 0])), (lc6, .inr (0, [.int lm6, le6, .int 0])), (lc7, .inr (0, [.int lm7, le7, .int 0])), (lc8, .inr (0, [.int lm8, le8, .int 0])), (lc9, .inr (0, [.int lm9, le9, .int 0]))] H := hP
    have hK : va_K (dC, dI) vwCl [(tH, .object RX1)] s := hK
    refine W.widen (k := 1) (n := 6) (Nat.le_of_ble_eq_true rfl) (Nat.le_of_ble_eq_true rfl) ?_
    subst hw
    have hP9 := hP.sub (ws' := []) [] rfl
    have hK9 := hK.sub (tys' := [(tH, .object RX1)]) [0] rfl
    refine W.widen (k := 1) (n := 6) (Nat.le_of_ble_eq_true rfl) (Nat.le_of_ble_eq_true rfl) ?_
    refine vx_ret ?_
    exact W.iret (v := 0) hx hb hr (fun t ht9 hW9 => ⟨⟨0, (), rfl, ⟨hw0, rfl⟩, ppk ht9 hP9⟩, hS.F ht9⟩) hS.2.2 dX11_waiting_10
set_option maxHeartbeats 4000000 in
set_option maxRecDepth 100000 in
theorem k_X11_lowestChannel (l : Launch) (d0 : Nat) (cO : ClassId) (dC : Nat → ClassId) (dI : Nat → Nat → Nat) (sz : Nat) (h0 ca : Nat) (t0 t2 t3 t4 t5 : Value) (tH : ClassId) (ch0 ch1 ch2 ch3 ch4 ch5 ch6 ch7 ch8 ch9 : Nat) (lc0 lc1 lc2 lc3 lc4 lc5 lc6 lc7 lc8 lc9 : Nat) (lm0 lm1 lm2 lm3 lm4 lm5 lm6 lm7 lm8 lm9 : Int32) (le0 le1 le2 le3 le4 le5 le6 le7 le8 le9 : Value) : Met l yX11_lowestChannel (cn yX11_lowestChannel cX11_lowestChannel 2 (some FieldType.int)) (rmd 2 0 0) (va_Pc [.ref h0] (PREp d0 cO (dC, dI) (va_A [] sz) [(h0, .inr (12, [t0, .ref ca, t2, t3, t4, t5])), (ca, .inl (tH, 10, .inr (.inr (.inr (.inr ((va_up (va_up (va_up (va_up (va_up (va_up (va_up (va_up (va_up (va_up (fun _ => none) 0 (some ch0)) 1 (some ch1)) 2 (some ch2)) 3 (some ch3)) 4 (some ch4)) 5 (some ch5)) 6 (some ch6)) 7 (some ch7)) 8 (some ch8)) 9 (some ch9)))))))), (ch0, .inr (2, [.ref lc0])), (ch1, .inr (2, [.ref lc1])), (ch2, .inr (2, [.ref lc2])), (ch3, .inr (2, [.ref lc3])), (ch4, .inr (2, [.ref lc4])), (ch5, .inr (2, [.ref lc5])), (ch6, .inr (2, [.ref lc6])), (ch7, .inr (2, [.ref lc7])), (ch8, .inr (2, [.ref lc8])), (ch9, .inr (2, [.ref lc9])), (lc0, .inr (0, [.int lm0, le0, .int 0])), (lc1, .inr (0, [.int lm1, le1, .int 0])), (lc2, .inr (0, [.int lm2, le2, .int 0])), (lc3, .inr (0, [.int lm3, le3, .int 0])), (lc4, .inr (0, [.int lm4, le4, .int 0])), (lc5, .inr (0, [.int lm5, le5, .int 0])), (lc6, .inr (0, [.int lm6, le6, .int 0])), (lc7, .inr (0, [.int lm7, le7, .int 0])), (lc8, .inr (0, [.int lm8, le8, .int 0])), (lc9, .inr (0, [.int lm9, le9, .int 0]))] [(tH, .object RX1)] sz)) (va_Qi (fun (r : Int32) (_ : Unit) => r = -1) (fun (_ : Unit) (t : State) => va_P (dC, dI) vwCl [] t.heap) (va_A [] sz)) 0 0 (va_A [] sz) := by
  refine Met.ofW (cc := cX11_lowestChannel) (maxL := 2) (ret := (some FieldType.int)) (by decide) rfl ?_
  intro p e s m args below meth c s₁ B hml hv
  obtain ⟨rfl, hsz, hE, hP, hK⟩ := hv
  have hx := B.exec
  have hb := B.bytes
  have hr := B.returns
  have hts := atoms_spec (ws := cn yX11_lowestChannel cX11_lowestChannel 2 (some FieldType.int)) B.pre
  have ht : ∀ w ∈ GT, w.before _ s = true := fun w h => hts w (List.mem_cons_of_mem _ h)
  have hown : s.vm.findClass RX11 = some m.cls := findClass_of_methodNamed B.named
  have hlocks := B.notSynchronized
  subst hsz
  generalize hAe : va_A [] s.heap.size = A at hE ⊢
  have hA : ∀ q : Nat, s.heap.size ≤ q → A q := fun q h => by rw [← hAe]; exact Or.inr h
  obtain ⟨H, hH0⟩ : ∃ H, s.heap = H := ⟨_, rfl⟩
  have hS : va_S A s.heap H [] := by rw [← hH0]; exact va_S.rf
  rw [hH0] at hP
  have hl := lv_entry ([.ref h0]) (n := 2) (Nat.le_of_ble_eq_true rfl)
  rw [lg_entry_eq]
  generalize (lg_sl ([.ref h0]) ++ List.replicate (2 - (lg_sl ([.ref h0])).length) Slot.unset).toArray = ls at hl ⊢
  have hl : lv_has ls 2 [(0, .ref h0)] := hl
  rw [hH0]
  refine lv_iconst (v := 0) hx hb dX11_lowestChannel_0 (by decide) ?_
  refine lv_istore_n (lv' := [(1, .int 0), (0, .ref h0)]) hx hb dX11_lowestChannel_1 rfl hl (by decide) rfl (fun ls hl => ?_)
  refine lv_iload_n hx hb dX11_lowestChannel_2 rfl (lv_at hl 0 rfl) ?_
  refine lv_aload_n hx hb dX11_lowestChannel_3 rfl (lv_at hl 1 rfl) ?_
  refine va_get (D := (dC, dI)) (ci := 12) (v := .ref ca) (C := RX11) (T := TX11) (N := 6) hx hb ht inGX11 hown hK hP 0 rfl rfl 1 (by decide) (ht _ q392) (fun _ h9 => h9) rfl dX11_lowestChannel_4 ?_
  refine va_alen (v := 10) hx hb hK hP 1 0 rfl rfl rfl dX11_lowestChannel_7 ?_
  refine lv_icmp_ge (tgt := 31) hx hb dX11_lowestChannel_8 (by decide) (fun c1 => False.elim (by revert c1; decide)) (fun c1 => ?_)
  refine lv_aload_n hx hb dX11_lowestChannel_11 rfl (lv_at hl 1 rfl) ?_
  refine va_get (D := (dC, dI)) (ci := 12) (v := .ref ca) (C := RX11) (T := TX11) (N := 6) hx hb ht inGX11 hown hK hP 0 rfl rfl 1 (by decide) (ht _ q392) (fun _ h9 => h9) rfl dX11_lowestChannel_12 ?_
  refine lv_iload_n hx hb dX11_lowestChannel_15 rfl (lv_at hl 0 rfl) ?_
  refine va_aldq hx hb hK hP 1 0 rfl rfl (vp_in_nI (n := 0) (by decide) (by decide)) dX11_lowestChannel_16 ?_
  refine W.eq (g2 := F0 m 17 ls [.ref ch0]) rfl ?_
  have hPc := hP.sub (ws' := [(ch0, .inr (2, [.ref lc0])), (lc0, .inr (0, [.int lm0, le0, .int 0]))]) [2, 12] rfl
  have hKc := hK.sub (tys' := []) [] rfl
  have hFc := freeNil hS hA
  refine va_calli (va_runV (As := []) (rest := []) ⟨hx, hb, hml, hown, ht⟩ (k_X1_size l d0 cO dC dI H.size ch0 lc0 lm0 le0) (my_V ht M_X1_size q420 q421 q419 (Nat.le_of_ble_eq_true rfl) (Nat.le_of_ble_eq_true rfl)) ⟨PREp.fb, va_recv hK hP (ci := 2) (q0 := 2) rfl rfl, fun U hU hW => ⟨rfl, PREp.mk' hE hS hFc hPc hKc U hU hW⟩⟩ rfl rfl hl.1 rfl (lv_room (Nat.le_of_ble_eq_true rfl)) dX11_lowestChannel_17 ⟨(Nat.le_of_ble_eq_true rfl), (Nat.le_of_ble_eq_true rfl)⟩) hS (fun q _ h => hFc q h) hFc (fun r3 u2 t H1 locs htt hvm hw hB hz1 hk1 hS => ?_)
  try dsimp only at hw hB
  have hP1 := hB
  rw [htt] at hP1
  have hP := keepAll hP hk1
  generalize H1 = H at hP hS ⊢
  have hP : va_P (dC, dI) vwCl [(h0, .inr (12, [t0, .ref ca, t2, t3, t4, t5])), (ca, .inl (tH, 10, .inr (.inr (.inr (.inr ((va_up (va_up (va_up (va_up (va_up (va_up (va_up (va_up (va_up (va_up (fun _ => none) 0 (some ch0)) 1 (some ch1)) 2 (some ch2)) 3 (some ch3)) 4 (some ch4)) 5 (some ch5)) 6 (some ch6)) 7 (some ch7)) 8 (some ch8)) 9 (some ch9)))))))), (ch0, .inr (2, [.ref lc0])), (ch1, .inr (2, [.ref lc1])), (ch2, .inr (2, [.ref lc2])), (ch3, .inr (2, [.ref lc3])), (ch4, .inr (2, [.ref lc4])), (ch5, .inr (2, [.ref lc5])), (ch6, .inr (2, [.ref lc6])), (ch7, .inr (2, [.ref lc7])), (ch8, .inr (2, [.ref lc8])), (ch9, .inr (2, [.ref lc9])), (lc0, .inr (0, [.int lm0, le0, .int 0])), (lc1, .inr (0, [.int lm1, le1, .int 0])), (lc2, .inr (0, [.int lm2, le2, .int 0])), (lc3, .inr (0, [.int lm3, le3, .int 0])), (lc4, .inr (0, [.int lm4, le4, .int 0])), (lc5, .inr (0, [.int lm5, le5, .int 0])), (lc6, .inr (0, [.int lm6, le6, .int 0])), (lc7, .inr (0, [.int lm7, le7, .int 0])), (lc8, .inr (0, [.int lm8, le8, .int 0])), (lc9, .inr (0, [.int lm9, le9, .int 0]))] H := hP
  have hK : va_K (dC, dI) vwCl [(tH, .object RX1)] s := hK
  refine W.widen (k := 0) (n := 0) (Nat.le_of_ble_eq_true rfl) (Nat.le_of_ble_eq_true rfl) ?_
  subst hw
  refine lv_if_le (tgt := 25) hx hb dX11_lowestChannel_20 (by decide) (fun c4 => ?_) (fun c4 => False.elim (by revert c4; decide))
  refine lv_iinc (v := 1) (lv' := [(1, .int 1), (0, .ref h0)]) hx hb dX11_lowestChannel_25 hl (k := 0) rfl (by decide) (by decide) rfl (fun ls hl => ?_)
  refine lv_goto (tgt := 2) hx hb dX11_lowestChannel_28 (by decide) ?_
  refine lv_iload_n hx hb dX11_lowestChannel_2 rfl (lv_at hl 0 rfl) ?_
  refine lv_aload_n hx hb dX11_lowestChannel_3 rfl (lv_at hl 1 rfl) ?_
  refine va_get (D := (dC, dI)) (ci := 12) (v := .ref ca) (C := RX11) (T := TX11) (N := 6) hx hb ht inGX11 hown hK hP 0 rfl rfl 1 (by decide) (ht _ q392) (fun _ h9 => h9) rfl dX11_lowestChannel_4 ?_
  refine va_alen (v := 10) hx hb hK hP 1 0 rfl rfl rfl dX11_lowestChannel_7 ?_
  refine lv_icmp_ge (tgt := 31) hx hb dX11_lowestChannel_8 (by decide) (fun c5 => False.elim (by revert c5; decide)) (fun c5 => ?_)
  refine lv_aload_n hx hb dX11_lowestChannel_11 rfl (lv_at hl 1 rfl) ?_
  refine va_get (D := (dC, dI)) (ci := 12) (v := .ref ca) (C := RX11) (T := TX11) (N := 6) hx hb ht inGX11 hown hK hP 0 rfl rfl 1 (by decide) (ht _ q392) (fun _ h9 => h9) rfl dX11_lowestChannel_12 ?_
  refine lv_iload_n hx hb dX11_lowestChannel_15 rfl (lv_at hl 0 rfl) ?_
  refine va_aldq hx hb hK hP 1 0 rfl rfl (vp_in_nI (n := 1) (by decide) (by decide)) dX11_lowestChannel_16 ?_
  refine W.eq (g2 := F0 m 17 ls [.ref ch1]) rfl ?_
  have hPc := hP.sub (ws' := [(ch1, .inr (2, [.ref lc1])), (lc1, .inr (0, [.int lm1, le1, .int 0]))]) [3, 13] rfl
  have hKc := hK.sub (tys' := []) [] rfl
  have hFc := freeNil hS hA
  refine va_calli (va_runV (As := []) (rest := []) ⟨hx, hb, hml, hown, ht⟩ (k_X1_size l d0 cO dC dI H.size ch1 lc1 lm1 le1) (my_V ht M_X1_size q420 q421 q419 (Nat.le_of_ble_eq_true rfl) (Nat.le_of_ble_eq_true rfl)) ⟨PREp.fb, va_recv hK hP (ci := 2) (q0 := 3) rfl rfl, fun U hU hW => ⟨rfl, PREp.mk' hE hS hFc hPc hKc U hU hW⟩⟩ rfl rfl hl.1 rfl (lv_room (Nat.le_of_ble_eq_true rfl)) dX11_lowestChannel_17 ⟨(Nat.le_of_ble_eq_true rfl), (Nat.le_of_ble_eq_true rfl)⟩) hS (fun q _ h => hFc q h) hFc (fun r7 u6 t H1 locs htt hvm hw hB hz1 hk1 hS => ?_)
  try dsimp only at hw hB
  have hP1 := hB
  rw [htt] at hP1
  have hP := keepAll hP hk1
  generalize H1 = H at hP hS ⊢
  have hP : va_P (dC, dI) vwCl [(h0, .inr (12, [t0, .ref ca, t2, t3, t4, t5])), (ca, .inl (tH, 10, .inr (.inr (.inr (.inr ((va_up (va_up (va_up (va_up (va_up (va_up (va_up (va_up (va_up (va_up (fun _ => none) 0 (some ch0)) 1 (some ch1)) 2 (some ch2)) 3 (some ch3)) 4 (some ch4)) 5 (some ch5)) 6 (some ch6)) 7 (some ch7)) 8 (some ch8)) 9 (some ch9)))))))), (ch0, .inr (2, [.ref lc0])), (ch1, .inr (2, [.ref lc1])), (ch2, .inr (2, [.ref lc2])), (ch3, .inr (2, [.ref lc3])), (ch4, .inr (2, [.ref lc4])), (ch5, .inr (2, [.ref lc5])), (ch6, .inr (2, [.ref lc6])), (ch7, .inr (2, [.ref lc7])), (ch8, .inr (2, [.ref lc8])), (ch9, .inr (2, [.ref lc9])), (lc0, .inr (0, [.int lm0, le0, .int 0])), (lc1, .inr (0, [.int lm1, le1, .int 0])), (lc2, .inr (0, [.int lm2, le2, .int 0])), (lc3, .inr (0, [.int lm3, le3, .int 0])), (lc4, .inr (0, [.int lm4, le4, .int 0])), (lc5, .inr (0, [.int lm5, le5, .int 0])), (lc6, .inr (0, [.int lm6, le6, .int 0])), (lc7, .inr (0, [.int lm7, le7, .int 0])), (lc8, .inr (0, [.int lm8, le8, .int 0])), (lc9, .inr (0, [.int lm9, le9, .int 0]))] H := hP
  have hK : va_K (dC, dI) vwCl [(tH, .object RX1)] s := hK
  refine W.widen (k := 0) (n := 0) (Nat.le_of_ble_eq_true rfl) (Nat.le_of_ble_eq_true rfl) ?_
  subst hw
  refine lv_if_le (tgt := 25) hx hb dX11_lowestChannel_20 (by decide) (fun c8 => ?_) (fun c8 => False.elim (by revert c8; decide))
  refine lv_iinc (v := 2) (lv' := [(1, .int 2), (0, .ref h0)]) hx hb dX11_lowestChannel_25 hl (k := 0) rfl (by decide) (by decide) rfl (fun ls hl => ?_)
  refine lv_goto (tgt := 2) hx hb dX11_lowestChannel_28 (by decide) ?_
  refine lv_iload_n hx hb dX11_lowestChannel_2 rfl (lv_at hl 0 rfl) ?_
  refine lv_aload_n hx hb dX11_lowestChannel_3 rfl (lv_at hl 1 rfl) ?_
  refine va_get (D := (dC, dI)) (ci := 12) (v := .ref ca) (C := RX11) (T := TX11) (N := 6) hx hb ht inGX11 hown hK hP 0 rfl rfl 1 (by decide) (ht _ q392) (fun _ h9 => h9) rfl dX11_lowestChannel_4 ?_
  refine va_alen (v := 10) hx hb hK hP 1 0 rfl rfl rfl dX11_lowestChannel_7 ?_
  refine lv_icmp_ge (tgt := 31) hx hb dX11_lowestChannel_8 (by decide) (fun c9 => False.elim (by revert c9; decide)) (fun c9 => ?_)
  refine lv_aload_n hx hb dX11_lowestChannel_11 rfl (lv_at hl 1 rfl) ?_
  refine va_get (D := (dC, dI)) (ci := 12) (v := .ref ca) (C := RX11) (T := TX11) (N := 6) hx hb ht inGX11 hown hK hP 0 rfl rfl 1 (by decide) (ht _ q392) (fun _ h9 => h9) rfl dX11_lowestChannel_12 ?_
  refine lv_iload_n hx hb dX11_lowestChannel_15 rfl (lv_at hl 0 rfl) ?_
  refine va_aldq hx hb hK hP 1 0 rfl rfl (vp_in_nI (n := 2) (by decide) (by decide)) dX11_lowestChannel_16 ?_
  refine W.eq (g2 := F0 m 17 ls [.ref ch2]) rfl ?_
  have hPc := hP.sub (ws' := [(ch2, .inr (2, [.ref lc2])), (lc2, .inr (0, [.int lm2, le2, .int 0]))]) [4, 14] rfl
  have hKc := hK.sub (tys' := []) [] rfl
  have hFc := freeNil hS hA
  refine va_calli (va_runV (As := []) (rest := []) ⟨hx, hb, hml, hown, ht⟩ (k_X1_size l d0 cO dC dI H.size ch2 lc2 lm2 le2) (my_V ht M_X1_size q420 q421 q419 (Nat.le_of_ble_eq_true rfl) (Nat.le_of_ble_eq_true rfl)) ⟨PREp.fb, va_recv hK hP (ci := 2) (q0 := 4) rfl rfl, fun U hU hW => ⟨rfl, PREp.mk' hE hS hFc hPc hKc U hU hW⟩⟩ rfl rfl hl.1 rfl (lv_room (Nat.le_of_ble_eq_true rfl)) dX11_lowestChannel_17 ⟨(Nat.le_of_ble_eq_true rfl), (Nat.le_of_ble_eq_true rfl)⟩) hS (fun q _ h => hFc q h) hFc (fun r11 u10 t H1 locs htt hvm hw hB hz1 hk1 hS => ?_)
  try dsimp only at hw hB
  have hP1 := hB
  rw [htt] at hP1
  have hP := keepAll hP hk1
  generalize H1 = H at hP hS ⊢
  have hP : va_P (dC, dI) vwCl [(h0, .inr (12, [t0, .ref ca, t2, t3, t4, t5])), (ca, .inl (tH, 10, .inr (.inr (.inr (.inr ((va_up (va_up (va_up (va_up (va_up (va_up (va_up (va_up (va_up (va_up (fun _ => none) 0 (some ch0)) 1 (some ch1)) 2 (some ch2)) 3 (some ch3)) 4 (some ch4)) 5 (some ch5)) 6 (some ch6)) 7 (some ch7)) 8 (some ch8)) 9 (some ch9)))))))), (ch0, .inr (2, [.ref lc0])), (ch1, .inr (2, [.ref lc1])), (ch2, .inr (2, [.ref lc2])), (ch3, .inr (2, [.ref lc3])), (ch4, .inr (2, [.ref lc4])), (ch5, .inr (2, [.ref lc5])), (ch6, .inr (2, [.ref lc6])), (ch7, .inr (2, [.ref lc7])), (ch8, .inr (2, [.ref lc8])), (ch9, .inr (2, [.ref lc9])), (lc0, .inr (0, [.int lm0, le0, .int 0])), (lc1, .inr (0, [.int lm1, le1, .int 0])), (lc2, .inr (0, [.int lm2, le2, .int 0])), (lc3, .inr (0, [.int lm3, le3, .int 0])), (lc4, .inr (0, [.int lm4, le4, .int 0])), (lc5, .inr (0, [.int lm5, le5, .int 0])), (lc6, .inr (0, [.int lm6, le6, .int 0])), (lc7, .inr (0, [.int lm7, le7, .int 0])), (lc8, .inr (0, [.int lm8, le8, .int 0])), (lc9, .inr (0, [.int lm9, le9, .int 0]))] H := hP
  have hK : va_K (dC, dI) vwCl [(tH, .object RX1)] s := hK
  refine W.widen (k := 0) (n := 0) (Nat.le_of_ble_eq_true rfl) (Nat.le_of_ble_eq_true rfl) ?_
  subst hw
  refine lv_if_le (tgt := 25) hx hb dX11_lowestChannel_20 (by decide) (fun c12 => ?_) (fun c12 => False.elim (by revert c12; decide))
  refine lv_iinc (v := 3) (lv' := [(1, .int 3), (0, .ref h0)]) hx hb dX11_lowestChannel_25 hl (k := 0) rfl (by decide) (by decide) rfl (fun ls hl => ?_)
  refine lv_goto (tgt := 2) hx hb dX11_lowestChannel_28 (by decide) ?_
  refine lv_iload_n hx hb dX11_lowestChannel_2 rfl (lv_at hl 0 rfl) ?_
  refine lv_aload_n hx hb dX11_lowestChannel_3 rfl (lv_at hl 1 rfl) ?_
  refine va_get (D := (dC, dI)) (ci := 12) (v := .ref ca) (C := RX11) (T := TX11) (N := 6) hx hb ht inGX11 hown hK hP 0 rfl rfl 1 (by decide) (ht _ q392) (fun _ h9 => h9) rfl dX11_lowestChannel_4 ?_
  refine va_alen (v := 10) hx hb hK hP 1 0 rfl rfl rfl dX11_lowestChannel_7 ?_
  refine lv_icmp_ge (tgt := 31) hx hb dX11_lowestChannel_8 (by decide) (fun c13 => False.elim (by revert c13; decide)) (fun c13 => ?_)
  refine lv_aload_n hx hb dX11_lowestChannel_11 rfl (lv_at hl 1 rfl) ?_
  refine va_get (D := (dC, dI)) (ci := 12) (v := .ref ca) (C := RX11) (T := TX11) (N := 6) hx hb ht inGX11 hown hK hP 0 rfl rfl 1 (by decide) (ht _ q392) (fun _ h9 => h9) rfl dX11_lowestChannel_12 ?_
  refine lv_iload_n hx hb dX11_lowestChannel_15 rfl (lv_at hl 0 rfl) ?_
  refine va_aldq hx hb hK hP 1 0 rfl rfl (vp_in_nI (n := 3) (by decide) (by decide)) dX11_lowestChannel_16 ?_
  refine W.eq (g2 := F0 m 17 ls [.ref ch3]) rfl ?_
  have hPc := hP.sub (ws' := [(ch3, .inr (2, [.ref lc3])), (lc3, .inr (0, [.int lm3, le3, .int 0]))]) [5, 15] rfl
  have hKc := hK.sub (tys' := []) [] rfl
  have hFc := freeNil hS hA
  refine va_calli (va_runV (As := []) (rest := []) ⟨hx, hb, hml, hown, ht⟩ (k_X1_size l d0 cO dC dI H.size ch3 lc3 lm3 le3) (my_V ht M_X1_size q420 q421 q419 (Nat.le_of_ble_eq_true rfl) (Nat.le_of_ble_eq_true rfl)) ⟨PREp.fb, va_recv hK hP (ci := 2) (q0 := 5) rfl rfl, fun U hU hW => ⟨rfl, PREp.mk' hE hS hFc hPc hKc U hU hW⟩⟩ rfl rfl hl.1 rfl (lv_room (Nat.le_of_ble_eq_true rfl)) dX11_lowestChannel_17 ⟨(Nat.le_of_ble_eq_true rfl), (Nat.le_of_ble_eq_true rfl)⟩) hS (fun q _ h => hFc q h) hFc (fun r15 u14 t H1 locs htt hvm hw hB hz1 hk1 hS => ?_)
  try dsimp only at hw hB
  have hP1 := hB
  rw [htt] at hP1
  have hP := keepAll hP hk1
  generalize H1 = H at hP hS ⊢
  have hP : va_P (dC, dI) vwCl [(h0, .inr (12, [t0, .ref ca, t2, t3, t4, t5])), (ca, .inl (tH, 10, .inr (.inr (.inr (.inr ((va_up (va_up (va_up (va_up (va_up (va_up (va_up (va_up (va_up (va_up (fun _ => none) 0 (some ch0)) 1 (some ch1)) 2 (some ch2)) 3 (some ch3)) 4 (some ch4)) 5 (some ch5)) 6 (some ch6)) 7 (some ch7)) 8 (some ch8)) 9 (some ch9)))))))), (ch0, .inr (2, [.ref lc0])), (ch1, .inr (2, [.ref lc1])), (ch2, .inr (2, [.ref lc2])), (ch3, .inr (2, [.ref lc3])), (ch4, .inr (2, [.ref lc4])), (ch5, .inr (2, [.ref lc5])), (ch6, .inr (2, [.ref lc6])), (ch7, .inr (2, [.ref lc7])), (ch8, .inr (2, [.ref lc8])), (ch9, .inr (2, [.ref lc9])), (lc0, .inr (0, [.int lm0, le0, .int 0])), (lc1, .inr (0, [.int lm1, le1, .int 0])), (lc2, .inr (0, [.int lm2, le2, .int 0])), (lc3, .inr (0, [.int lm3, le3, .int 0])), (lc4, .inr (0, [.int lm4, le4, .int 0])), (lc5, .inr (0, [.int lm5, le5, .int 0])), (lc6, .inr (0, [.int lm6, le6, .int 0])), (lc7, .inr (0, [.int lm7, le7, .int 0])), (lc8, .inr (0, [.int lm8, le8, .int 0])), (lc9, .inr (0, [.int lm9, le9, .int 0]))] H := hP
  have hK : va_K (dC, dI) vwCl [(tH, .object RX1)] s := hK
  refine W.widen (k := 0) (n := 0) (Nat.le_of_ble_eq_true rfl) (Nat.le_of_ble_eq_true rfl) ?_
  subst hw
  refine lv_if_le (tgt := 25) hx hb dX11_lowestChannel_20 (by decide) (fun c16 => ?_) (fun c16 => False.elim (by revert c16; decide))
  refine lv_iinc (v := 4) (lv' := [(1, .int 4), (0, .ref h0)]) hx hb dX11_lowestChannel_25 hl (k := 0) rfl (by decide) (by decide) rfl (fun ls hl => ?_)
  refine lv_goto (tgt := 2) hx hb dX11_lowestChannel_28 (by decide) ?_
  refine lv_iload_n hx hb dX11_lowestChannel_2 rfl (lv_at hl 0 rfl) ?_
  refine lv_aload_n hx hb dX11_lowestChannel_3 rfl (lv_at hl 1 rfl) ?_
  refine va_get (D := (dC, dI)) (ci := 12) (v := .ref ca) (C := RX11) (T := TX11) (N := 6) hx hb ht inGX11 hown hK hP 0 rfl rfl 1 (by decide) (ht _ q392) (fun _ h9 => h9) rfl dX11_lowestChannel_4 ?_
  refine va_alen (v := 10) hx hb hK hP 1 0 rfl rfl rfl dX11_lowestChannel_7 ?_
  refine lv_icmp_ge (tgt := 31) hx hb dX11_lowestChannel_8 (by decide) (fun c17 => False.elim (by revert c17; decide)) (fun c17 => ?_)
  refine lv_aload_n hx hb dX11_lowestChannel_11 rfl (lv_at hl 1 rfl) ?_
  refine va_get (D := (dC, dI)) (ci := 12) (v := .ref ca) (C := RX11) (T := TX11) (N := 6) hx hb ht inGX11 hown hK hP 0 rfl rfl 1 (by decide) (ht _ q392) (fun _ h9 => h9) rfl dX11_lowestChannel_12 ?_
  refine lv_iload_n hx hb dX11_lowestChannel_15 rfl (lv_at hl 0 rfl) ?_
  refine va_aldq hx hb hK hP 1 0 rfl rfl (vp_in_nI (n := 4) (by decide) (by decide)) dX11_lowestChannel_16 ?_
  refine W.eq (g2 := F0 m 17 ls [.ref ch4]) rfl ?_
  have hPc := hP.sub (ws' := [(ch4, .inr (2, [.ref lc4])), (lc4, .inr (0, [.int lm4, le4, .int 0]))]) [6, 16] rfl
  have hKc := hK.sub (tys' := []) [] rfl
  have hFc := freeNil hS hA
  refine va_calli (va_runV (As := []) (rest := []) ⟨hx, hb, hml, hown, ht⟩ (k_X1_size l d0 cO dC dI H.size ch4 lc4 lm4 le4) (my_V ht M_X1_size q420 q421 q419 (Nat.le_of_ble_eq_true rfl) (Nat.le_of_ble_eq_true rfl)) ⟨PREp.fb, va_recv hK hP (ci := 2) (q0 := 6) rfl rfl, fun U hU hW => ⟨rfl, PREp.mk' hE hS hFc hPc hKc U hU hW⟩⟩ rfl rfl hl.1 rfl (lv_room (Nat.le_of_ble_eq_true rfl)) dX11_lowestChannel_17 ⟨(Nat.le_of_ble_eq_true rfl), (Nat.le_of_ble_eq_true rfl)⟩) hS (fun q _ h => hFc q h) hFc (fun r19 u18 t H1 locs htt hvm hw hB hz1 hk1 hS => ?_)
  try dsimp only at hw hB
  have hP1 := hB
  rw [htt] at hP1
  have hP := keepAll hP hk1
  generalize H1 = H at hP hS ⊢
  have hP : va_P (dC, dI) vwCl [(h0, .inr (12, [t0, .ref ca, t2, t3, t4, t5])), (ca, .inl (tH, 10, .inr (.inr (.inr (.inr ((va_up (va_up (va_up (va_up (va_up (va_up (va_up (va_up (va_up (va_up (fun _ => none) 0 (some ch0)) 1 (some ch1)) 2 (some ch2)) 3 (some ch3)) 4 (some ch4)) 5 (some ch5)) 6 (some ch6)) 7 (some ch7)) 8 (some ch8)) 9 (some ch9)))))))), (ch0, .inr (2, [.ref lc0])), (ch1, .inr (2, [.ref lc1])), (ch2, .inr (2, [.ref lc2])), (ch3, .inr (2, [.ref lc3])), (ch4, .inr (2, [.ref lc4])), (ch5, .inr (2, [.ref lc5])), (ch6, .inr (2, [.ref lc6])), (ch7, .inr (2, [.ref lc7])), (ch8, .inr (2, [.ref lc8])), (ch9, .inr (2, [.ref lc9])), (lc0, .inr (0, [.int lm0, le0, .int 0])), (lc1, .inr (0, [.int lm1, le1, .int 0])), (lc2, .inr (0, [.int lm2, le2, .int 0])), (lc3, .inr (0, [.int lm3, le3, .int 0])), (lc4, .inr (0, [.int lm4, le4, .int 0])), (lc5, .inr (0, [.int lm5, le5, .int 0])), (lc6, .inr (0, [.int lm6, le6, .int 0])), (lc7, .inr (0, [.int lm7, le7, .int 0])), (lc8, .inr (0, [.int lm8, le8, .int 0])), (lc9, .inr (0, [.int lm9, le9, .int 0]))] H := hP
  have hK : va_K (dC, dI) vwCl [(tH, .object RX1)] s := hK
  refine W.widen (k := 0) (n := 0) (Nat.le_of_ble_eq_true rfl) (Nat.le_of_ble_eq_true rfl) ?_
  subst hw
  refine lv_if_le (tgt := 25) hx hb dX11_lowestChannel_20 (by decide) (fun c20 => ?_) (fun c20 => False.elim (by revert c20; decide))
  refine lv_iinc (v := 5) (lv' := [(1, .int 5), (0, .ref h0)]) hx hb dX11_lowestChannel_25 hl (k := 0) rfl (by decide) (by decide) rfl (fun ls hl => ?_)
  refine lv_goto (tgt := 2) hx hb dX11_lowestChannel_28 (by decide) ?_
  refine lv_iload_n hx hb dX11_lowestChannel_2 rfl (lv_at hl 0 rfl) ?_
  refine lv_aload_n hx hb dX11_lowestChannel_3 rfl (lv_at hl 1 rfl) ?_
  refine va_get (D := (dC, dI)) (ci := 12) (v := .ref ca) (C := RX11) (T := TX11) (N := 6) hx hb ht inGX11 hown hK hP 0 rfl rfl 1 (by decide) (ht _ q392) (fun _ h9 => h9) rfl dX11_lowestChannel_4 ?_
  refine va_alen (v := 10) hx hb hK hP 1 0 rfl rfl rfl dX11_lowestChannel_7 ?_
  refine lv_icmp_ge (tgt := 31) hx hb dX11_lowestChannel_8 (by decide) (fun c21 => False.elim (by revert c21; decide)) (fun c21 => ?_)
  refine lv_aload_n hx hb dX11_lowestChannel_11 rfl (lv_at hl 1 rfl) ?_
  refine va_get (D := (dC, dI)) (ci := 12) (v := .ref ca) (C := RX11) (T := TX11) (N := 6) hx hb ht inGX11 hown hK hP 0 rfl rfl 1 (by decide) (ht _ q392) (fun _ h9 => h9) rfl dX11_lowestChannel_12 ?_
  refine lv_iload_n hx hb dX11_lowestChannel_15 rfl (lv_at hl 0 rfl) ?_
  refine va_aldq hx hb hK hP 1 0 rfl rfl (vp_in_nI (n := 5) (by decide) (by decide)) dX11_lowestChannel_16 ?_
  refine W.eq (g2 := F0 m 17 ls [.ref ch5]) rfl ?_
  have hPc := hP.sub (ws' := [(ch5, .inr (2, [.ref lc5])), (lc5, .inr (0, [.int lm5, le5, .int 0]))]) [7, 17] rfl
  have hKc := hK.sub (tys' := []) [] rfl
  have hFc := freeNil hS hA
  refine va_calli (va_runV (As := []) (rest := []) ⟨hx, hb, hml, hown, ht⟩ (k_X1_size l d0 cO dC dI H.size ch5 lc5 lm5 le5) (my_V ht M_X1_size q420 q421 q419 (Nat.le_of_ble_eq_true rfl) (Nat.le_of_ble_eq_true rfl)) ⟨PREp.fb, va_recv hK hP (ci := 2) (q0 := 7) rfl rfl, fun U hU hW => ⟨rfl, PREp.mk' hE hS hFc hPc hKc U hU hW⟩⟩ rfl rfl hl.1 rfl (lv_room (Nat.le_of_ble_eq_true rfl)) dX11_lowestChannel_17 ⟨(Nat.le_of_ble_eq_true rfl), (Nat.le_of_ble_eq_true rfl)⟩) hS (fun q _ h => hFc q h) hFc (fun r23 u22 t H1 locs htt hvm hw hB hz1 hk1 hS => ?_)
  try dsimp only at hw hB
  have hP1 := hB
  rw [htt] at hP1
  have hP := keepAll hP hk1
  generalize H1 = H at hP hS ⊢
  have hP : va_P (dC, dI) vwCl [(h0, .inr (12, [t0, .ref ca, t2, t3, t4, t5])), (ca, .inl (tH, 10, .inr (.inr (.inr (.inr ((va_up (va_up (va_up (va_up (va_up (va_up (va_up (va_up (va_up (va_up (fun _ => none) 0 (some ch0)) 1 (some ch1)) 2 (some ch2)) 3 (some ch3)) 4 (some ch4)) 5 (some ch5)) 6 (some ch6)) 7 (some ch7)) 8 (some ch8)) 9 (some ch9)))))))), (ch0, .inr (2, [.ref lc0])), (ch1, .inr (2, [.ref lc1])), (ch2, .inr (2, [.ref lc2])), (ch3, .inr (2, [.ref lc3])), (ch4, .inr (2, [.ref lc4])), (ch5, .inr (2, [.ref lc5])), (ch6, .inr (2, [.ref lc6])), (ch7, .inr (2, [.ref lc7])), (ch8, .inr (2, [.ref lc8])), (ch9, .inr (2, [.ref lc9])), (lc0, .inr (0, [.int lm0, le0, .int 0])), (lc1, .inr (0, [.int lm1, le1, .int 0])), (lc2, .inr (0, [.int lm2, le2, .int 0])), (lc3, .inr (0, [.int lm3, le3, .int 0])), (lc4, .inr (0, [.int lm4, le4, .int 0])), (lc5, .inr (0, [.int lm5, le5, .int 0])), (lc6, .inr (0, [.int lm6, le6, .int 0])), (lc7, .inr (0, [.int lm7, le7, .int 0])), (lc8, .inr (0, [.int lm8, le8, .int 0])), (lc9, .inr (0, [.int lm9, le9, .int 0]))] H := hP
  have hK : va_K (dC, dI) vwCl [(tH, .object RX1)] s := hK
  refine W.widen (k := 0) (n := 0) (Nat.le_of_ble_eq_true rfl) (Nat.le_of_ble_eq_true rfl) ?_
  subst hw
  refine lv_if_le (tgt := 25) hx hb dX11_lowestChannel_20 (by decide) (fun c24 => ?_) (fun c24 => False.elim (by revert c24; decide))
  refine lv_iinc (v := 6) (lv' := [(1, .int 6), (0, .ref h0)]) hx hb dX11_lowestChannel_25 hl (k := 0) rfl (by decide) (by decide) rfl (fun ls hl => ?_)
  refine lv_goto (tgt := 2) hx hb dX11_lowestChannel_28 (by decide) ?_
  refine lv_iload_n hx hb dX11_lowestChannel_2 rfl (lv_at hl 0 rfl) ?_
  refine lv_aload_n hx hb dX11_lowestChannel_3 rfl (lv_at hl 1 rfl) ?_
  refine va_get (D := (dC, dI)) (ci := 12) (v := .ref ca) (C := RX11) (T := TX11) (N := 6) hx hb ht inGX11 hown hK hP 0 rfl rfl 1 (by decide) (ht _ q392) (fun _ h9 => h9) rfl dX11_lowestChannel_4 ?_
  refine va_alen (v := 10) hx hb hK hP 1 0 rfl rfl rfl dX11_lowestChannel_7 ?_
  refine lv_icmp_ge (tgt := 31) hx hb dX11_lowestChannel_8 (by decide) (fun c25 => False.elim (by revert c25; decide)) (fun c25 => ?_)
  refine lv_aload_n hx hb dX11_lowestChannel_11 rfl (lv_at hl 1 rfl) ?_
  refine va_get (D := (dC, dI)) (ci := 12) (v := .ref ca) (C := RX11) (T := TX11) (N := 6) hx hb ht inGX11 hown hK hP 0 rfl rfl 1 (by decide) (ht _ q392) (fun _ h9 => h9) rfl dX11_lowestChannel_12 ?_
  refine lv_iload_n hx hb dX11_lowestChannel_15 rfl (lv_at hl 0 rfl) ?_
  refine va_aldq hx hb hK hP 1 0 rfl rfl (vp_in_nI (n := 6) (by decide) (by decide)) dX11_lowestChannel_16 ?_
  refine W.eq (g2 := F0 m 17 ls [.ref ch6]) rfl ?_
  have hPc := hP.sub (ws' := [(ch6, .inr (2, [.ref lc6])), (lc6, .inr (0, [.int lm6, le6, .int 0]))]) [8, 18] rfl
  have hKc := hK.sub (tys' := []) [] rfl
  have hFc := freeNil hS hA
  refine va_calli (va_runV (As := []) (rest := []) ⟨hx, hb, hml, hown, ht⟩ (k_X1_size l d0 cO dC dI H.size ch6 lc6 lm6 le6) (my_V ht M_X1_size q420 q421 q419 (Nat.le_of_ble_eq_true rfl) (Nat.le_of_ble_eq_true rfl)) ⟨PREp.fb, va_recv hK hP (ci := 2) (q0 := 8) rfl rfl, fun U hU hW => ⟨rfl, PREp.mk' hE hS hFc hPc hKc U hU hW⟩⟩ rfl rfl hl.1 rfl (lv_room (Nat.le_of_ble_eq_true rfl)) dX11_lowestChannel_17 ⟨(Nat.le_of_ble_eq_true rfl), (Nat.le_of_ble_eq_true rfl)⟩) hS (fun q _ h => hFc q h) hFc (fun r27 u26 t H1 locs htt hvm hw hB hz1 hk1 hS => ?_)
  try dsimp only at hw hB
  have hP1 := hB
  rw [htt] at hP1
  have hP := keepAll hP hk1
  generalize H1 = H at hP hS ⊢
  have hP : va_P (dC, dI) vwCl [(h0, .inr (12, [t0, .ref ca, t2, t3, t4, t5])), (ca, .inl (tH, 10, .inr (.inr (.inr (.inr ((va_up (va_up (va_up (va_up (va_up (va_up (va_up (va_up (va_up (va_up (fun _ => none) 0 (some ch0)) 1 (some ch1)) 2 (some ch2)) 3 (some ch3)) 4 (some ch4)) 5 (some ch5)) 6 (some ch6)) 7 (some ch7)) 8 (some ch8)) 9 (some ch9)))))))), (ch0, .inr (2, [.ref lc0])), (ch1, .inr (2, [.ref lc1])), (ch2, .inr (2, [.ref lc2])), (ch3, .inr (2, [.ref lc3])), (ch4, .inr (2, [.ref lc4])), (ch5, .inr (2, [.ref lc5])), (ch6, .inr (2, [.ref lc6])), (ch7, .inr (2, [.ref lc7])), (ch8, .inr (2, [.ref lc8])), (ch9, .inr (2, [.ref lc9])), (lc0, .inr (0, [.int lm0, le0, .int 0])), (lc1, .inr (0, [.int lm1, le1, .int 0])), (lc2, .inr (0, [.int lm2, le2, .int 0])), (lc3, .inr (0, [.int lm3, le3, .int 0])), (lc4, .inr (0, [.int lm4, le4, .int 0])), (lc5, .inr (0, [.int lm5, le5, .int 0])), (lc6, .inr (0, [.int lm6, le6, .int 0])), (lc7, .inr (0, [.int lm7, le7, .int 0])), (lc8, .inr (0, [.int lm8, le8, .int 0])), (lc9, .inr (0, [.int lm9, le9, .int 0]))] H := hP
  have hK : va_K (dC, dI) vwCl [(tH, .object RX1)] s := hK
  refine W.widen (k := 0) (n := 0) (Nat.le_of_ble_eq_true rfl) (Nat.le_of_ble_eq_true rfl) ?_
  subst hw
  refine lv_if_le (tgt := 25) hx hb dX11_lowestChannel_20 (by decide) (fun c28 => ?_) (fun c28 => False.elim (by revert c28; decide))
  refine lv_iinc (v := 7) (lv' := [(1, .int 7), (0, .ref h0)]) hx hb dX11_lowestChannel_25 hl (k := 0) rfl (by decide) (by decide) rfl (fun ls hl => ?_)
  refine lv_goto (tgt := 2) hx hb dX11_lowestChannel_28 (by decide) ?_
  refine lv_iload_n hx hb dX11_lowestChannel_2 rfl (lv_at hl 0 rfl) ?_
  refine lv_aload_n hx hb dX11_lowestChannel_3 rfl (lv_at hl 1 rfl) ?_
  refine va_get (D := (dC, dI)) (ci := 12) (v := .ref ca) (C := RX11) (T := TX11) (N := 6) hx hb ht inGX11 hown hK hP 0 rfl rfl 1 (by decide) (ht _ q392) (fun _ h9 => h9) rfl dX11_lowestChannel_4 ?_
  refine va_alen (v := 10) hx hb hK hP 1 0 rfl rfl rfl dX11_lowestChannel_7 ?_
  refine lv_icmp_ge (tgt := 31) hx hb dX11_lowestChannel_8 (by decide) (fun c29 => False.elim (by revert c29; decide)) (fun c29 => ?_)
  refine lv_aload_n hx hb dX11_lowestChannel_11 rfl (lv_at hl 1 rfl) ?_
  refine va_get (D := (dC, dI)) (ci := 12) (v := .ref ca) (C := RX11) (T := TX11) (N := 6) hx hb ht inGX11 hown hK hP 0 rfl rfl 1 (by decide) (ht _ q392) (fun _ h9 => h9) rfl dX11_lowestChannel_12 ?_
  refine lv_iload_n hx hb dX11_lowestChannel_15 rfl (lv_at hl 0 rfl) ?_
  refine va_aldq hx hb hK hP 1 0 rfl rfl (vp_in_nI (n := 7) (by decide) (by decide)) dX11_lowestChannel_16 ?_
  refine W.eq (g2 := F0 m 17 ls [.ref ch7]) rfl ?_
  have hPc := hP.sub (ws' := [(ch7, .inr (2, [.ref lc7])), (lc7, .inr (0, [.int lm7, le7, .int 0]))]) [9, 19] rfl
  have hKc := hK.sub (tys' := []) [] rfl
  have hFc := freeNil hS hA
  refine va_calli (va_runV (As := []) (rest := []) ⟨hx, hb, hml, hown, ht⟩ (k_X1_size l d0 cO dC dI H.size ch7 lc7 lm7 le7) (my_V ht M_X1_size q420 q421 q419 (Nat.le_of_ble_eq_true rfl) (Nat.le_of_ble_eq_true rfl)) ⟨PREp.fb, va_recv hK hP (ci := 2) (q0 := 9) rfl rfl, fun U hU hW => ⟨rfl, PREp.mk' hE hS hFc hPc hKc U hU hW⟩⟩ rfl rfl hl.1 rfl (lv_room (Nat.le_of_ble_eq_true rfl)) dX11_lowestChannel_17 ⟨(Nat.le_of_ble_eq_true rfl), (Nat.le_of_ble_eq_true rfl)⟩) hS (fun q _ h => hFc q h) hFc (fun r31 u30 t H1 locs htt hvm hw hB hz1 hk1 hS => ?_)
  try dsimp only at hw hB
  have hP1 := hB
  rw [htt] at hP1
  have hP := keepAll hP hk1
  generalize H1 = H at hP hS ⊢
  have hP : va_P (dC, dI) vwCl [(h0, .inr (12, [t0, .ref ca, t2, t3, t4, t5])), (ca, .inl (tH, 10, .inr (.inr (.inr (.inr ((va_up (va_up (va_up (va_up (va_up (va_up (va_up (va_up (va_up (va_up (fun _ => none) 0 (some ch0)) 1 (some ch1)) 2 (some ch2)) 3 (some ch3)) 4 (some ch4)) 5 (some ch5)) 6 (some ch6)) 7 (some ch7)) 8 (some ch8)) 9 (some ch9)))))))), (ch0, .inr (2, [.ref lc0])), (ch1, .inr (2, [.ref lc1])), (ch2, .inr (2, [.ref lc2])), (ch3, .inr (2, [.ref lc3])), (ch4, .inr (2, [.ref lc4])), (ch5, .inr (2, [.ref lc5])), (ch6, .inr (2, [.ref lc6])), (ch7, .inr (2, [.ref lc7])), (ch8, .inr (2, [.ref lc8])), (ch9, .inr (2, [.ref lc9])), (lc0, .inr (0, [.int lm0, le0, .int 0])), (lc1, .inr (0, [.int lm1, le1, .int 0])), (lc2, .inr (0, [.int lm2, le2, .int 0])), (lc3, .inr (0, [.int lm3, le3, .int 0])), (lc4, .inr (0, [.int lm4, le4, .int 0])), (lc5, .inr (0, [.int lm5, le5, .int 0])), (lc6, .inr (0, [.int lm6, le6, .int 0])), (lc7, .inr (0, [.int lm7, le7, .int 0])), (lc8, .inr (0, [.int lm8, le8, .int 0])), (lc9, .inr (0, [.int lm9, le9, .int 0]))] H := hP
  have hK : va_K (dC, dI) vwCl [(tH, .object RX1)] s := hK
  refine W.widen (k := 0) (n := 0) (Nat.le_of_ble_eq_true rfl) (Nat.le_of_ble_eq_true rfl) ?_
  subst hw
  refine lv_if_le (tgt := 25) hx hb dX11_lowestChannel_20 (by decide) (fun c32 => ?_) (fun c32 => False.elim (by revert c32; decide))
  refine lv_iinc (v := 8) (lv' := [(1, .int 8), (0, .ref h0)]) hx hb dX11_lowestChannel_25 hl (k := 0) rfl (by decide) (by decide) rfl (fun ls hl => ?_)
  refine lv_goto (tgt := 2) hx hb dX11_lowestChannel_28 (by decide) ?_
  refine lv_iload_n hx hb dX11_lowestChannel_2 rfl (lv_at hl 0 rfl) ?_
  refine lv_aload_n hx hb dX11_lowestChannel_3 rfl (lv_at hl 1 rfl) ?_
  refine va_get (D := (dC, dI)) (ci := 12) (v := .ref ca) (C := RX11) (T := TX11) (N := 6) hx hb ht inGX11 hown hK hP 0 rfl rfl 1 (by decide) (ht _ q392) (fun _ h9 => h9) rfl dX11_lowestChannel_4 ?_
  refine va_alen (v := 10) hx hb hK hP 1 0 rfl rfl rfl dX11_lowestChannel_7 ?_
  refine lv_icmp_ge (tgt := 31) hx hb dX11_lowestChannel_8 (by decide) (fun c33 => False.elim (by revert c33; decide)) (fun c33 => ?_)
  refine lv_aload_n hx hb dX11_lowestChannel_11 rfl (lv_at hl 1 rfl) ?_
  refine va_get (D := (dC, dI)) (ci := 12) (v := .ref ca) (C := RX11) (T := TX11) (N := 6) hx hb ht inGX11 hown hK hP 0 rfl rfl 1 (by decide) (ht _ q392) (fun _ h9 => h9) rfl dX11_lowestChannel_12 ?_
  refine lv_iload_n hx hb dX11_lowestChannel_15 rfl (lv_at hl 0 rfl) ?_
  refine va_aldq hx hb hK hP 1 0 rfl rfl (vp_in_nI (n := 8) (by decide) (by decide)) dX11_lowestChannel_16 ?_
  refine W.eq (g2 := F0 m 17 ls [.ref ch8]) rfl ?_
  have hPc := hP.sub (ws' := [(ch8, .inr (2, [.ref lc8])), (lc8, .inr (0, [.int lm8, le8, .int 0]))]) [10, 20] rfl
  have hKc := hK.sub (tys' := []) [] rfl
  have hFc := freeNil hS hA
  refine va_calli (va_runV (As := []) (rest := []) ⟨hx, hb, hml, hown, ht⟩ (k_X1_size l d0 cO dC dI H.size ch8 lc8 lm8 le8) (my_V ht M_X1_size q420 q421 q419 (Nat.le_of_ble_eq_true rfl) (Nat.le_of_ble_eq_true rfl)) ⟨PREp.fb, va_recv hK hP (ci := 2) (q0 := 10) rfl rfl, fun U hU hW => ⟨rfl, PREp.mk' hE hS hFc hPc hKc U hU hW⟩⟩ rfl rfl hl.1 rfl (lv_room (Nat.le_of_ble_eq_true rfl)) dX11_lowestChannel_17 ⟨(Nat.le_of_ble_eq_true rfl), (Nat.le_of_ble_eq_true rfl)⟩) hS (fun q _ h => hFc q h) hFc (fun r35 u34 t H1 locs htt hvm hw hB hz1 hk1 hS => ?_)
  try dsimp only at hw hB
  have hP1 := hB
  rw [htt] at hP1
  have hP := keepAll hP hk1
  generalize H1 = H at hP hS ⊢
  have hP : va_P (dC, dI) vwCl [(h0, .inr (12, [t0, .ref ca, t2, t3, t4, t5])), (ca, .inl (tH, 10, .inr (.inr (.inr (.inr ((va_up (va_up (va_up (va_up (va_up (va_up (va_up (va_up (va_up (va_up (fun _ => none) 0 (some ch0)) 1 (some ch1)) 2 (some ch2)) 3 (some ch3)) 4 (some ch4)) 5 (some ch5)) 6 (some ch6)) 7 (some ch7)) 8 (some ch8)) 9 (some ch9)))))))), (ch0, .inr (2, [.ref lc0])), (ch1, .inr (2, [.ref lc1])), (ch2, .inr (2, [.ref lc2])), (ch3, .inr (2, [.ref lc3])), (ch4, .inr (2, [.ref lc4])), (ch5, .inr (2, [.ref lc5])), (ch6, .inr (2, [.ref lc6])), (ch7, .inr (2, [.ref lc7])), (ch8, .inr (2, [.ref lc8])), (ch9, .inr (2, [.ref lc9])), (lc0, .inr (0, [.int lm0, le0, .int 0])), (lc1, .inr (0, [.int lm1, le1, .int 0])), (lc2, .inr (0, [.int lm2, le2, .int 0])), (lc3, .inr (0, [.int lm3, le3, .int 0])), (lc4, .inr (0, [.int lm4, le4, .int 0])), (lc5, .inr (0, [.int lm5, le5, .int 0])), (lc6, .inr (0, [.int lm6, le6, .int 0])), (lc7, .inr (0, [.int lm7, le7, .int 0])), (lc8, .inr (0, [.int lm8, le8, .int 0])), (lc9, .inr (0, [.int lm9, le9, .int 0]))] H := hP
  have hK : va_K (dC, dI) vwCl [(tH, .object RX1)] s := hK
  refine W.widen (k := 0) (n := 0) (Nat.le_of_ble_eq_true rfl) (Nat.le_of_ble_eq_true rfl) ?_
  subst hw
  refine lv_if_le (tgt := 25) hx hb dX11_lowestChannel_20 (by decide) (fun c36 => ?_) (fun c36 => False.elim (by revert c36; decide))
  refine lv_iinc (v := 9) (lv' := [(1, .int 9), (0, .ref h0)]) hx hb dX11_lowestChannel_25 hl (k := 0) rfl (by decide) (by decide) rfl (fun ls hl => ?_)
  refine lv_goto (tgt := 2) hx hb dX11_lowestChannel_28 (by decide) ?_
  refine lv_iload_n hx hb dX11_lowestChannel_2 rfl (lv_at hl 0 rfl) ?_
  refine lv_aload_n hx hb dX11_lowestChannel_3 rfl (lv_at hl 1 rfl) ?_
  refine va_get (D := (dC, dI)) (ci := 12) (v := .ref ca) (C := RX11) (T := TX11) (N := 6) hx hb ht inGX11 hown hK hP 0 rfl rfl 1 (by decide) (ht _ q392) (fun _ h9 => h9) rfl dX11_lowestChannel_4 ?_
  refine va_alen (v := 10) hx hb hK hP 1 0 rfl rfl rfl dX11_lowestChannel_7 ?_
  refine lv_icmp_ge (tgt := 31) hx hb dX11_lowestChannel_8 (by decide) (fun c37 => False.elim (by revert c37; decide)) (fun c37 => ?_)
  refine lv_aload_n hx hb dX11_lowestChannel_11 rfl (lv_at hl 1 rfl) ?_
  refine va_get (D := (dC, dI)) (ci := 12) (v := .ref ca) (C := RX11) (T := TX11) (N := 6) hx hb ht inGX11 hown hK hP 0 rfl rfl 1 (by decide) (ht _ q392) (fun _ h9 => h9) rfl dX11_lowestChannel_12 ?_
  refine lv_iload_n hx hb dX11_lowestChannel_15 rfl (lv_at hl 0 rfl) ?_
  refine va_aldq hx hb hK hP 1 0 rfl rfl (vp_in_nI (n := 9) (by decide) (by decide)) dX11_lowestChannel_16 ?_
  refine W.eq (g2 := F0 m 17 ls [.ref ch9]) rfl ?_
  have hPc := hP.sub (ws' := [(ch9, .inr (2, [.ref lc9])), (lc9, .inr (0, [.int lm9, le9, .int 0]))]) [11, 21] rfl
  have hKc := hK.sub (tys' := []) [] rfl
  have hFc := freeNil hS hA
  refine va_calli (va_runV (As := []) (rest := []) ⟨hx, hb, hml, hown, ht⟩ (k_X1_size l d0 cO dC dI H.size ch9 lc9 lm9 le9) (my_V ht M_X1_size q420 q421 q419 (Nat.le_of_ble_eq_true rfl) (Nat.le_of_ble_eq_true rfl)) ⟨PREp.fb, va_recv hK hP (ci := 2) (q0 := 11) rfl rfl, fun U hU hW => ⟨rfl, PREp.mk' hE hS hFc hPc hKc U hU hW⟩⟩ rfl rfl hl.1 rfl (lv_room (Nat.le_of_ble_eq_true rfl)) dX11_lowestChannel_17 ⟨(Nat.le_of_ble_eq_true rfl), (Nat.le_of_ble_eq_true rfl)⟩) hS (fun q _ h => hFc q h) hFc (fun r39 u38 t H1 locs htt hvm hw hB hz1 hk1 hS => ?_)
  try dsimp only at hw hB
  have hP1 := hB
  rw [htt] at hP1
  have hP := keepAll hP hk1
  generalize H1 = H at hP hS ⊢
  have hP : va_P (dC, dI) vwCl [(h0, .inr (12, [t0, .ref ca, t2, t3, t4, t5])), (ca, .inl (tH, 10, .inr (.inr (.inr (.inr ((va_up (va_up (va_up (va_up (va_up (va_up (va_up (va_up (va_up (va_up (fun _ => none) 0 (some ch0)) 1 (some ch1)) 2 (some ch2)) 3 (some ch3)) 4 (some ch4)) 5 (some ch5)) 6 (some ch6)) 7 (some ch7)) 8 (some ch8)) 9 (some ch9)))))))), (ch0, .inr (2, [.ref lc0])), (ch1, .inr (2, [.ref lc1])), (ch2, .inr (2, [.ref lc2])), (ch3, .inr (2, [.ref lc3])), (ch4, .inr (2, [.ref lc4])), (ch5, .inr (2, [.ref lc5])), (ch6, .inr (2, [.ref lc6])), (ch7, .inr (2, [.ref lc7])), (ch8, .inr (2, [.ref lc8])), (ch9, .inr (2, [.ref lc9])), (lc0, .inr (0, [.int lm0, le0, .int 0])), (lc1, .inr (0, [.int lm1, le1, .int 0])), (lc2, .inr (0, [.int lm2, le2, .int 0])), (lc3, .inr (0, [.int lm3, le3, .int 0])), (lc4, .inr (0, [.int lm4, le4, .int 0])), (lc5, .inr (0, [.int lm5, le5, .int 0])), (lc6, .inr (0, [.int lm6, le6, .int 0])), (lc7, .inr (0, [.int lm7, le7, .int 0])), (lc8, .inr (0, [.int lm8, le8, .int 0])), (lc9, .inr (0, [.int lm9, le9, .int 0]))] H := hP
  have hK : va_K (dC, dI) vwCl [(tH, .object RX1)] s := hK
  refine W.widen (k := 0) (n := 0) (Nat.le_of_ble_eq_true rfl) (Nat.le_of_ble_eq_true rfl) ?_
  subst hw
  refine lv_if_le (tgt := 25) hx hb dX11_lowestChannel_20 (by decide) (fun c40 => ?_) (fun c40 => False.elim (by revert c40; decide))
  refine lv_iinc (v := 10) (lv' := [(1, .int 10), (0, .ref h0)]) hx hb dX11_lowestChannel_25 hl (k := 0) rfl (by decide) (by decide) rfl (fun ls hl => ?_)
  refine lv_goto (tgt := 2) hx hb dX11_lowestChannel_28 (by decide) ?_
  refine lv_iload_n hx hb dX11_lowestChannel_2 rfl (lv_at hl 0 rfl) ?_
  refine lv_aload_n hx hb dX11_lowestChannel_3 rfl (lv_at hl 1 rfl) ?_
  refine va_get (D := (dC, dI)) (ci := 12) (v := .ref ca) (C := RX11) (T := TX11) (N := 6) hx hb ht inGX11 hown hK hP 0 rfl rfl 1 (by decide) (ht _ q392) (fun _ h9 => h9) rfl dX11_lowestChannel_4 ?_
  refine va_alen (v := 10) hx hb hK hP 1 0 rfl rfl rfl dX11_lowestChannel_7 ?_
  refine lv_icmp_ge (tgt := 31) hx hb dX11_lowestChannel_8 (by decide) (fun c41 => ?_) (fun c41 => False.elim (by revert c41; decide))
  refine lv_iconst (v := -1) hx hb dX11_lowestChannel_31 (by decide) ?_
  have hP9 := hP.sub (ws' := []) [] rfl
  have hK9 := hK.sub (tys' := [(tH, .object RX1)]) [0] rfl
  refine W.widen (k := 0) (n := 0) (Nat.le_of_ble_eq_true rfl) (Nat.le_of_ble_eq_true rfl) ?_
  exact W.iret (v := -1) hx hb hr (fun t ht9 hW9 => ⟨⟨-1, (), rfl, rfl, ppk ht9 hP9⟩, hS.F ht9⟩) hS.2.2 dX11_lowestChannel_32
set_option maxHeartbeats 4000000 in
set_option maxRecDepth 100000 in
theorem k_X11_deliverAll (l : Launch) (d0 : Nat) (cO : ClassId) (dC : Nat → ClassId) (dI : Nat → Nat → Nat) (sz : Nat) (h0 ca : Nat) (t0 t2 t3 t4 t5 : Value) (tH : ClassId) (ch0 ch1 ch2 ch3 ch4 ch5 ch6 ch7 ch8 ch9 : Nat) (lc0 lc1 lc2 lc3 lc4 lc5 lc6 lc7 lc8 lc9 : Nat) (lm0 lm1 lm2 lm3 lm4 lm5 lm6 lm7 lm8 lm9 : Int32) (le0 le1 le2 le3 le4 le5 le6 le7 le8 le9 : Value) : Met l yX11_deliverAll (cn yX11_deliverAll cX11_deliverAll 4 (some FieldType.int)) (rmd 3 0 0) (va_Pc [.ref h0] (PREp d0 cO (dC, dI) (va_A [] sz) [(h0, .inr (12, [t0, .ref ca, t2, t3, t4, t5])), (ca, .inl (tH, 10, .inr (.inr (.inr (.inr ((va_up (va_up (va_up (va_up (va_up (va_up (va_up (va_up (va_up (va_up (fun _ => none) 0 (some ch0)) 1 (some ch1)) 2 (some ch2)) 3 (some ch3)) 4 (some ch4)) 5 (some ch5)) 6 (some ch6)) 7 (some ch7)) 8 (some ch8)) 9 (some ch9)))))))), (ch0, .inr (2, [.ref lc0])), (ch1, .inr (2, [.ref lc1])), (ch2, .inr (2, [.ref lc2])), (ch3, .inr (2, [.ref lc3])), (ch4, .inr (2, [.ref lc4])), (ch5, .inr (2, [.ref lc5])), (ch6, .inr (2, [.ref lc6])), (ch7, .inr (2, [.ref lc7])), (ch8, .inr (2, [.ref lc8])), (ch9, .inr (2, [.ref lc9])), (lc0, .inr (0, [.int lm0, le0, .int 0])), (lc1, .inr (0, [.int lm1, le1, .int 0])), (lc2, .inr (0, [.int lm2, le2, .int 0])), (lc3, .inr (0, [.int lm3, le3, .int 0])), (lc4, .inr (0, [.int lm4, le4, .int 0])), (lc5, .inr (0, [.int lm5, le5, .int 0])), (lc6, .inr (0, [.int lm6, le6, .int 0])), (lc7, .inr (0, [.int lm7, le7, .int 0])), (lc8, .inr (0, [.int lm8, le8, .int 0])), (lc9, .inr (0, [.int lm9, le9, .int 0]))] [(tH, .object RX1)] sz)) (va_Qi (fun (r : Int32) (_ : Unit) => r = 0) (fun (_ : Unit) (t : State) => va_P (dC, dI) vwCl [] t.heap) (va_A [] sz)) 0 0 (va_A [] sz) := by
  refine Met.ofW (cc := cX11_deliverAll) (maxL := 4) (ret := (some FieldType.int)) (by decide) rfl ?_
  intro p e s m args below meth c s₁ B hml hv
  obtain ⟨rfl, hsz, hE, hP, hK⟩ := hv
  have hx := B.exec
  have hb := B.bytes
  have hr := B.returns
  have hts := atoms_spec (ws := cn yX11_deliverAll cX11_deliverAll 4 (some FieldType.int)) B.pre
  have ht : ∀ w ∈ GT, w.before _ s = true := fun w h => hts w (List.mem_cons_of_mem _ h)
  have hown : s.vm.findClass RX11 = some m.cls := findClass_of_methodNamed B.named
  have hlocks := B.notSynchronized
  subst hsz
  generalize hAe : va_A [] s.heap.size = A at hE ⊢
  have hA : ∀ q : Nat, s.heap.size ≤ q → A q := fun q h => by rw [← hAe]; exact Or.inr h
  obtain ⟨H, hH0⟩ : ∃ H, s.heap = H := ⟨_, rfl⟩
  have hS : va_S A s.heap H [] := by rw [← hH0]; exact va_S.rf
  rw [hH0] at hP
  have hl := lv_entry ([.ref h0]) (n := 4) (Nat.le_of_ble_eq_true rfl)
  rw [lg_entry_eq]
  generalize (lg_sl ([.ref h0]) ++ List.replicate (4 - (lg_sl ([.ref h0])).length) Slot.unset).toArray = ls at hl ⊢
  have hl : lv_has ls 4 [(0, .ref h0)] := hl
  rw [hH0]
  refine lv_iconst (v := 0) hx hb dX11_deliverAll_0 (by decide) ?_
  refine lv_istore_n (lv' := [(1, .int 0), (0, .ref h0)]) hx hb dX11_deliverAll_1 rfl hl (by decide) rfl (fun ls hl => ?_)
  refine lv_ldcw (v := 1000000) hx hb hown (ht _ q414) dX11_deliverAll_2 ?_
  refine lv_istore_n (lv' := [(2, .int 1000000), (1, .int 0), (0, .ref h0)]) hx hb dX11_deliverAll_5 rfl hl (by decide) rfl (fun ls hl => ?_)
  refine lv_iload_n hx hb dX11_deliverAll_6 rfl (lv_at hl 0 rfl) ?_
  refine lv_if_le (tgt := 37) hx hb dX11_deliverAll_7 (by decide) (fun c1 => False.elim (by revert c1; decide)) (fun c1 => ?_)
  refine lv_aload_n hx hb dX11_deliverAll_10 rfl (lv_at hl 2 rfl) ?_
  have hPc := hP.sub (ws' := [(h0, .inr (12, [t0, .ref ca, t2, t3, t4, t5])), (ca, .inl (tH, 10, .inr (.inr (.inr (.inr ((va_up (va_up (va_up (va_up (va_up (va_up (va_up (va_up (va_up (va_up (fun _ => none) 0 (some ch0)) 1 (some ch1)) 2 (some ch2)) 3 (some ch3)) 4 (some ch4)) 5 (some ch5)) 6 (some ch6)) 7 (some ch7)) 8 (some ch8)) 9 (some ch9)))))))), (ch0, .inr (2, [.ref lc0])), (ch1, .inr (2, [.ref lc1])), (ch2, .inr (2, [.ref lc2])), (ch3, .inr (2, [.ref lc3])), (ch4, .inr (2, [.ref lc4])), (ch5, .inr (2, [.ref lc5])), (ch6, .inr (2, [.ref lc6])), (ch7, .inr (2, [.ref lc7])), (ch8, .inr (2, [.ref lc8])), (ch9, .inr (2, [.ref lc9])), (lc0, .inr (0, [.int lm0, le0, .int 0])), (lc1, .inr (0, [.int lm1, le1, .int 0])), (lc2, .inr (0, [.int lm2, le2, .int 0])), (lc3, .inr (0, [.int lm3, le3, .int 0])), (lc4, .inr (0, [.int lm4, le4, .int 0])), (lc5, .inr (0, [.int lm5, le5, .int 0])), (lc6, .inr (0, [.int lm6, le6, .int 0])), (lc7, .inr (0, [.int lm7, le7, .int 0])), (lc8, .inr (0, [.int lm8, le8, .int 0])), (lc9, .inr (0, [.int lm9, le9, .int 0]))]) [0, 1, 2, 3, 4, 5, 6, 7, 8, 9, 10, 11, 12, 13, 14, 15, 16, 17, 18, 19, 20, 21] rfl
  have hKc := hK.sub (tys' := [(tH, .object RX1)]) [0] rfl
  have hFc := freeNil hS hA
  refine va_calli (va_runV (As := []) (rest := []) ⟨hx, hb, hml, hown, ht⟩ (k_X11_lowestChannel l d0 cO dC dI H.size h0 ca t0 t2 t3 t4 t5 tH ch0 ch1 ch2 ch3 ch4 ch5 ch6 ch7 ch8 ch9 lc0 lc1 lc2 lc3 lc4 lc5 lc6 lc7 lc8 lc9 lm0 lm1 lm2 lm3 lm4 lm5 lm6 lm7 lm8 lm9 le0 le1 le2 le3 le4 le5 le6 le7 le8 le9) (my_V ht M_X11_lowestChannel q417 q0 q415 (Nat.le_of_ble_eq_true rfl) (Nat.le_of_ble_eq_true rfl)) ⟨PREp.fb, va_recv hK hP (ci := 12) (q0 := 0) rfl rfl, fun U hU hW => ⟨rfl, PREp.mk' hE hS hFc hPc hKc U hU hW⟩⟩ rfl rfl hl.1 rfl (lv_room (Nat.le_of_ble_eq_true rfl)) dX11_deliverAll_11 ⟨(Nat.le_of_ble_eq_true rfl), (Nat.le_of_ble_eq_true rfl)⟩) hS (fun q _ h => hFc q h) hFc (fun r3 u2 t H1 locs htt hvm hw hB hz1 hk1 hS => ?_)
  try dsimp only at hw hB
  have hP1 := hB
  rw [htt] at hP1
  have hP := keepAll hP hk1
  generalize H1 = H at hP hS ⊢
  have hP : va_P (dC, dI) vwCl [(h0, .inr (12, [t0, .ref ca, t2, t3, t4, t5])), (ca, .inl (tH, 10, .inr (.inr (.inr (.inr ((va_up (va_up (va_up (va_up (va_up (va_up (va_up (va_up (va_up (va_up (fun _ => none) 0 (some ch0)) 1 (some ch1)) 2 (some ch2)) 3 (some ch3)) 4 (some ch4)) 5 (some ch5)) 6 (some ch6)) 7 (some ch7)) 8 (some ch8)) 9 (some ch9)))))))), (ch0, .inr (2, [.ref lc0])), (ch1, .inr (2, [.ref lc1])), (ch2, .inr (2, [.ref lc2])), (ch3, .inr (2, [.ref lc3])), (ch4, .inr (2, [.ref lc4])), (ch5, .inr (2, [.ref lc5])), (ch6, .inr (2, [.ref lc6])), (ch7, .inr (2, [.ref lc7])), (ch8, .inr (2, [.ref lc8])), (ch9, .inr (2, [.ref lc9])), (lc0, .inr (0, [.int lm0, le0, .int 0])), (lc1, .inr (0, [.int lm1, le1, .int 0])), (lc2, .inr (0, [.int lm2, le2, .int 0])), (lc3, .inr (0, [.int lm3, le3, .int 0])), (lc4, .inr (0, [.int lm4, le4, .int 0])), (lc5, .inr (0, [.int lm5, le5, .int 0])), (lc6, .inr (0, [.int lm6, le6, .int 0])), (lc7, .inr (0, [.int lm7, le7, .int 0])), (lc8, .inr (0, [.int lm8, le8, .int 0])), (lc9, .inr (0, [.int lm9, le9, .int 0]))] H := hP
  have hK : va_K (dC, dI) vwCl [(tH, .object RX1)] s := hK
  refine W.widen (k := 0) (n := 0) (Nat.le_of_ble_eq_true rfl) (Nat.le_of_ble_eq_true rfl) ?_
  subst hw
  refine lv_istore_n (lv' := [(3, .int ((-1))), (2, .int 1000000), (1, .int 0), (0, .ref h0)]) hx hb dX11_deliverAll_14 rfl hl (by decide) rfl (fun ls hl => ?_)
  refine lv_iload_n hx hb dX11_deliverAll_15 rfl (lv_at hl 0 rfl) ?_
  refine lv_iconst (v := -1) hx hb dX11_deliverAll_16 (by decide) ?_
  refine lv_icmp_ne (tgt := 22) hx hb dX11_deliverAll_17 (by decide) (fun c4 => False.elim (by revert c4; decide)) (fun c4 => ?_)
  refine lv_iload_n hx hb dX11_deliverAll_20 rfl (lv_at hl 2 rfl) ?_
  have hP9 := hP.sub (ws' := []) [] rfl
  have hK9 := hK.sub (tys' := [(tH, .object RX1)]) [0] rfl
  refine W.widen (k := 0) (n := 0) (Nat.le_of_ble_eq_true rfl) (Nat.le_of_ble_eq_true rfl) ?_
  exact W.iret (v := 0) hx hb hr (fun t ht9 hW9 => ⟨⟨0, (), rfl, rfl, ppk ht9 hP9⟩, hS.F ht9⟩) hS.2.2 dX11_deliverAll_21
