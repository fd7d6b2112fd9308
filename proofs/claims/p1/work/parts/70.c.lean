theorem dJx4a65c_size_8abf5_0 : decode cJx4a65c_size_8abf5 0 = .ok (.aload_n 0, 1) := by decide +kernel
theorem q220 : Cond.fieldLink RJx4a65c 48 "java/util/ArrayList" "size" "I" ∈ GT := gt 220 (by decide +kernel) (by decide +kernel)
theorem dJx4a65c_size_8abf5_1 : decode cJx4a65c_size_8abf5 1 = .ok (.getfield 48, 3) := by decide +kernel
theorem dJx4a65c_size_8abf5_4 : decode cJx4a65c_size_8abf5 4 = .ok (.ireturn, 1) := by decide +kernel
theorem dX4_has_0 : decode cX4_has 0 = .ok (.iload_n 1, 1) := by decide +kernel
theorem dX4_has_1 : decode cX4_has 1 = .ok (.ifCond .lt 21, 3) := by decide +kernel
theorem dX4_has_22 : decode cX4_has 22 = .ok (.iconst 0, 1) := by decide +kernel
theorem dX4_has_23 : decode cX4_has 23 = .ok (.ireturn, 1) := by decide +kernel
theorem dX4_has_4 : decode cX4_has 4 = .ok (.iload_n 1, 1) := by decide +kernel
theorem dX4_has_5 : decode cX4_has 5 = .ok (.aload_n 0, 1) := by decide +kernel
theorem q188 : Cond.fieldLink RX4 36 "ToolPlex$Files" "count" "I" ∈ GT := gt 188 (by decide +kernel) (by decide +kernel)
theorem dX4_has_6 : decode cX4_has 6 = .ok (.getfield 36, 3) := by decide +kernel
theorem dX4_has_9 : decode cX4_has 9 = .ok (.if_icmp .ge 13, 3) := by decide +kernel
theorem dX11_checkFile_0 : decode cX11_checkFile 0 = .ok (.aload_n 0, 1) := by decide +kernel
theorem inGX11 : ∀ w ∈ u_ws RX11 TX11 6, w ∈ GT := gts [397, 399, 401, 403, 405, 407] (by decide +kernel) (by decide +kernel)
theorem q391 : Cond.fieldLink RX11 39 "ToolPlex" "files" "LToolPlex$Files;" ∈ GT := gt 391 (by decide +kernel) (by decide +kernel)
theorem dX11_checkFile_1 : decode cX11_checkFile 1 = .ok (.getfield 39, 3) := by decide +kernel
theorem dX11_checkFile_4 : decode cX11_checkFile 4 = .ok (.iload_n 1, 1) := by decide +kernel
theorem dX11_checkFile_5 : decode cX11_checkFile 5 = .ok (.invokevirtual 365, 3) := by decide +kernel
set_option maxRecDepth 100000 in
theorem q883 : Cond.code yX4_has cX4_has 2 (some FieldType.boolean) ∈ GT := gt 883 (rfl) (by decide +kernel)
theorem q125 : Cond.initialized RX4 ∈ GT := gt 125 (by decide +kernel) (by decide +kernel)
theorem M_X4_has : MY yX4_has cX4_has 2 (some FieldType.boolean) 1 := ⟨q883, q125, by decide +kernel, by decide +kernel⟩
theorem q1129 : Cond.methodLink RX11 365 yX4_has ∈ GT := gt 1129 (by decide +kernel) (by decide +kernel)
theorem q881 : Cond.instanceMethod yX4_has ∈ GT := gt 881 (by decide +kernel) (by decide +kernel)
theorem q882 : Cond.selects RX4 yX4_has yX4_has ∈ GT := gt 882 (by decide +kernel) (by decide +kernel)
theorem dX11_checkFile_8 : decode cX11_checkFile 8 = .ok (.ifCond .ne 14, 3) := by decide +kernel
theorem at_X11_258 : ∀ w ∈ vx_atS RX11 258 "java/lang/IndexOutOfBoundsException" ["java/lang/RuntimeException", "java/lang/Exception"], w ∈ GT := vxgt (by decide +kernel)

theorem q1130 : Cond.classLink RX11 254 "java/lang/IndexOutOfBoundsException" ∈ GT := gt 1130 (by decide +kernel) (by decide +kernel)
theorem q141 : Cond.initialized "java/lang/IndexOutOfBoundsException" ∈ GT := gt 141 (by decide +kernel) (by decide +kernel)
theorem dX11_checkFile_11 : decode cX11_checkFile 11 = .ok (.new 254, 3) := by decide +kernel
theorem dX11_checkFile_14 : decode cX11_checkFile 14 = .ok (.dup, 1) := by decide +kernel
theorem dX11_checkFile_15 : decode cX11_checkFile 15 = .ok (.ldc_w 368, 3) := by decide +kernel
theorem dX11_checkFile_18 : decode cX11_checkFile 18 = .ok (.invokespecial 258, 3) := by decide +kernel
theorem dX11_checkFile_21 : decode cX11_checkFile 21 = .ok (.athrow, 1) := by decide +kernel
theorem dX3_askAt_0 : decode cX3_askAt 0 = .ok (.iload_n 1, 1) := by decide +kernel
theorem dX3_askAt_1 : decode cX3_askAt 1 = .ok (.ifCond .lt 28, 3) := by decide +kernel
theorem dX3_askAt_29 : decode cX3_askAt 29 = .ok (.aconst_null, 1) := by decide +kernel
theorem dX3_askAt_30 : decode cX3_askAt 30 = .ok (.areturn, 1) := by decide +kernel
theorem dX3_askAt_4 : decode cX3_askAt 4 = .ok (.iload_n 1, 1) := by decide +kernel
theorem dX3_askAt_5 : decode cX3_askAt 5 = .ok (.aload_n 0, 1) := by decide +kernel
theorem dX3_askAt_6 : decode cX3_askAt 6 = .ok (.getfield 36, 3) := by decide +kernel
theorem dX3_askAt_9 : decode cX3_askAt 9 = .ok (.invokevirtual 52, 3) := by decide +kernel
set_option maxRecDepth 100000 in
theorem q426 : Cond.code yJx4a65c_size_8abf5 cJx4a65c_size_8abf5 1 (some FieldType.int) ∈ GT := gt 426 (rfl) (by decide +kernel)
theorem M_Jx4a65c_size_8abf5 : MY yJx4a65c_size_8abf5 cJx4a65c_size_8abf5 1 (some FieldType.int) 0 := ⟨q426, q128, by decide +kernel, by decide +kernel⟩
theorem q477 : Cond.methodLink RX3 52 yJx4a65c_size_8abf5 ∈ GT := gt 477 (by decide +kernel) (by decide +kernel)
theorem q424 : Cond.instanceMethod yJx4a65c_size_8abf5 ∈ GT := gt 424 (by decide +kernel) (by decide +kernel)
theorem q425 : Cond.selects RJx4a65c yJx4a65c_size_8abf5 yJx4a65c_size_8abf5 ∈ GT := gt 425 (by decide +kernel) (by decide +kernel)
theorem dX3_askAt_12 : decode cX3_askAt 12 = .ok (.if_icmp .ge 17, 3) := by decide +kernel
theorem dX11_editorAt_0 : decode cX11_editorAt 0 = .ok (.iload_n 1, 1) := by decide +kernel
theorem dX11_editorAt_1 : decode cX11_editorAt 1 = .ok (.ifCond .lt 12, 3) := by decide +kernel
theorem dX11_editorAt_13 : decode cX11_editorAt 13 = .ok (.new 254, 3) := by decide +kernel
theorem dX11_editorAt_16 : decode cX11_editorAt 16 = .ok (.dup, 1) := by decide +kernel
theorem dX11_editorAt_17 : decode cX11_editorAt 17 = .ok (.ldc_w 358, 3) := by decide +kernel
theorem dX11_editorAt_20 : decode cX11_editorAt 20 = .ok (.invokespecial 258, 3) := by decide +kernel
theorem dX11_editorAt_23 : decode cX11_editorAt 23 = .ok (.athrow, 1) := by decide +kernel
theorem dX11_editorAt_4 : decode cX11_editorAt 4 = .ok (.iload_n 1, 1) := by decide +kernel
theorem dX11_editorAt_5 : decode cX11_editorAt 5 = .ok (.aload_n 0, 1) := by decide +kernel
theorem q393 : Cond.fieldLink RX11 51 "ToolPlex" "editors" "[LToolPlex$Editor;" ∈ GT := gt 393 (by decide +kernel) (by decide +kernel)
theorem dX11_editorAt_6 : decode cX11_editorAt 6 = .ok (.getfield 51, 3) := by decide +kernel
theorem dX11_editorAt_9 : decode cX11_editorAt 9 = .ok (.arraylength, 1) := by decide +kernel
theorem dX11_editorAt_10 : decode cX11_editorAt 10 = .ok (.if_icmp .lt 14, 3) := by decide +kernel
theorem dX11_editorAt_24 : decode cX11_editorAt 24 = .ok (.aload_n 0, 1) := by decide +kernel
theorem dX11_editorAt_25 : decode cX11_editorAt 25 = .ok (.getfield 51, 3) := by decide +kernel
theorem dX11_editorAt_28 : decode cX11_editorAt 28 = .ok (.iload_n 1, 1) := by decide +kernel
theorem dX11_editorAt_29 : decode cX11_editorAt 29 = .ok (.aaload, 1) := by decide +kernel
theorem dX11_editorAt_30 : decode cX11_editorAt 30 = .ok (.areturn, 1) := by decide +kernel
theorem dX11_serverAt_0 : decode cX11_serverAt 0 = .ok (.iload_n 1, 1) := by decide +kernel
theorem dX11_serverAt_1 : decode cX11_serverAt 1 = .ok (.ifCond .lt 14, 3) := by decide +kernel
theorem dX11_serverAt_15 : decode cX11_serverAt 15 = .ok (.new 254, 3) := by decide +kernel
theorem dX11_serverAt_18 : decode cX11_serverAt 18 = .ok (.dup, 1) := by decide +kernel
theorem dX11_serverAt_19 : decode cX11_serverAt 19 = .ok (.ldc_w 360, 3) := by decide +kernel
theorem dX11_serverAt_22 : decode cX11_serverAt 22 = .ok (.invokespecial 258, 3) := by decide +kernel
theorem dX11_serverAt_25 : decode cX11_serverAt 25 = .ok (.athrow, 1) := by decide +kernel
theorem dX11_serverAt_4 : decode cX11_serverAt 4 = .ok (.iload_n 1, 1) := by decide +kernel
theorem dX11_serverAt_5 : decode cX11_serverAt 5 = .ok (.aload_n 0, 1) := by decide +kernel
theorem q394 : Cond.fieldLink RX11 43 "ToolPlex" "servers" "Ljava/util/ArrayList;" ∈ GT := gt 394 (by decide +kernel) (by decide +kernel)
theorem dX11_serverAt_6 : decode cX11_serverAt 6 = .ok (.getfield 43, 3) := by decide +kernel
theorem dX11_serverAt_9 : decode cX11_serverAt 9 = .ok (.invokevirtual 113, 3) := by decide +kernel
theorem q974 : Cond.methodLink RX11 113 yJx4a65c_size_8abf5 ∈ GT := gt 974 (by decide +kernel) (by decide +kernel)
theorem dX11_serverAt_12 : decode cX11_serverAt 12 = .ok (.if_icmp .lt 14, 3) := by decide +kernel
theorem dX11_askAt_0 : decode cX11_askAt 0 = .ok (.aload_n 1, 1) := by decide +kernel
theorem dX11_askAt_1 : decode cX11_askAt 1 = .ok (.iload_n 2, 1) := by decide +kernel
theorem dX11_askAt_2 : decode cX11_askAt 2 = .ok (.invokevirtual 362, 3) := by decide +kernel
set_option maxRecDepth 100000 in
theorem q476 : Cond.code yX3_askAt cX3_askAt 2 (some (FieldType.object "ToolPlex$Ask")) ∈ GT := gt 476 (rfl) (by decide +kernel)
theorem q130 : Cond.initialized RX3 ∈ GT := gt 130 (by decide +kernel) (by decide +kernel)
theorem M_X3_askAt : MY yX3_askAt cX3_askAt 2 (some (FieldType.object "ToolPlex$Ask")) 1 := ⟨q476, q130, by decide +kernel, by decide +kernel⟩
theorem q1405 : Cond.methodLink RX11 362 yX3_askAt ∈ GT := gt 1405 (by decide +kernel) (by decide +kernel)
theorem q474 : Cond.instanceMethod yX3_askAt ∈ GT := gt 474 (by decide +kernel) (by decide +kernel)
theorem q475 : Cond.selects RX3 yX3_askAt yX3_askAt ∈ GT := gt 475 (by decide +kernel) (by decide +kernel)
theorem dX11_askAt_5 : decode cX11_askAt 5 = .ok (.astore_n 3, 1) := by decide +kernel
theorem dX11_askAt_6 : decode cX11_askAt 6 = .ok (.aload_n 3, 1) := by decide +kernel
theorem dX11_askAt_7 : decode cX11_askAt 7 = .ok (.ifnonnull 14, 3) := by decide +kernel
theorem dX11_askAt_10 : decode cX11_askAt 10 = .ok (.new 254, 3) := by decide +kernel
theorem dX11_askAt_13 : decode cX11_askAt 13 = .ok (.dup, 1) := by decide +kernel
theorem dX11_askAt_14 : decode cX11_askAt 14 = .ok (.ldc_w 256, 3) := by decide +kernel
theorem dX11_askAt_17 : decode cX11_askAt 17 = .ok (.invokespecial 258, 3) := by decide +kernel
theorem dX11_askAt_20 : decode cX11_askAt 20 = .ok (.athrow, 1) := by decide +kernel
theorem dX11_store_0 : decode cX11_store 0 = .ok (.aload_n 0, 1) := by decide +kernel
theorem dX11_store_1 : decode cX11_store 1 = .ok (.iload_n 1, 1) := by decide +kernel
theorem dX11_store_2 : decode cX11_store 2 = .ok (.invokevirtual 83, 3) := by decide +kernel
set_option maxRecDepth 100000 in
theorem q1128 : Cond.code yX11_checkFile cX11_checkFile 2 none ∈ GT := gt 1128 (rfl) (by decide +kernel)
theorem q123 : Cond.initialized RX11 ∈ GT := gt 123 (by decide +kernel) (by decide +kernel)
theorem M_X11_checkFile : MY yX11_checkFile cX11_checkFile 2 none 1 := ⟨q1128, q123, by decide +kernel, by decide +kernel⟩
theorem q1125 : Cond.methodLink RX11 83 yX11_checkFile ∈ GT := gt 1125 (by decide +kernel) (by decide +kernel)
theorem q1127 : Cond.instanceMethod yX11_checkFile ∈ GT := gt 1127 (by decide +kernel) (by decide +kernel)
theorem q30 : Cond.selects RX11 yX11_checkFile yX11_checkFile ∈ GT := gt 30 (by decide +kernel) (by decide +kernel)
theorem dX11_name_0 : decode cX11_name 0 = .ok (.aload_n 0, 1) := by decide +kernel
theorem dX11_name_1 : decode cX11_name 1 = .ok (.iload_n 1, 1) := by decide +kernel
theorem dX11_name_2 : decode cX11_name 2 = .ok (.invokevirtual 83, 3) := by decide +kernel
theorem dX11_open_0 : decode cX11_open 0 = .ok (.aload_n 0, 1) := by decide +kernel
theorem dX11_open_1 : decode cX11_open 1 = .ok (.iload_n 1, 1) := by decide +kernel
theorem dX11_open_2 : decode cX11_open 2 = .ok (.invokevirtual 134, 3) := by decide +kernel
set_option maxRecDepth 100000 in
theorem q1260 : Cond.code yX11_editorAt cX11_editorAt 2 (some (FieldType.object "ToolPlex$Editor")) ∈ GT := gt 1260 (rfl) (by decide +kernel)
theorem M_X11_editorAt : MY yX11_editorAt cX11_editorAt 2 (some (FieldType.object "ToolPlex$Editor")) 1 := ⟨q1260, q123, by decide +kernel, by decide +kernel⟩
theorem q1257 : Cond.methodLink RX11 134 yX11_editorAt ∈ GT := gt 1257 (by decide +kernel) (by decide +kernel)
theorem q1259 : Cond.instanceMethod yX11_editorAt ∈ GT := gt 1259 (by decide +kernel) (by decide +kernel)
theorem q32 : Cond.selects RX11 yX11_editorAt yX11_editorAt ∈ GT := gt 32 (by decide +kernel) (by decide +kernel)
theorem dX11_open_5 : decode cX11_open 5 = .ok (.astore_n 3, 1) := by decide +kernel
theorem dX11_open_6 : decode cX11_open 6 = .ok (.aload_n 0, 1) := by decide +kernel
theorem dX11_open_7 : decode cX11_open 7 = .ok (.iload_n 2, 1) := by decide +kernel
theorem dX11_open_8 : decode cX11_open 8 = .ok (.invokevirtual 83, 3) := by decide +kernel
theorem dX11_close_0 : decode cX11_close 0 = .ok (.aload_n 0, 1) := by decide +kernel
theorem dX11_close_1 : decode cX11_close 1 = .ok (.iload_n 1, 1) := by decide +kernel
theorem dX11_close_2 : decode cX11_close 2 = .ok (.invokevirtual 134, 3) := by decide +kernel
theorem dX11_close_5 : decode cX11_close 5 = .ok (.astore_n 3, 1) := by decide +kernel
theorem dX11_close_6 : decode cX11_close 6 = .ok (.aload_n 0, 1) := by decide +kernel
theorem dX11_close_7 : decode cX11_close 7 = .ok (.iload_n 2, 1) := by decide +kernel
theorem dX11_close_8 : decode cX11_close 8 = .ok (.invokevirtual 83, 3) := by decide +kernel
theorem dX11_change_0 : decode cX11_change 0 = .ok (.aload_n 0, 1) := by decide +kernel
theorem dX11_change_1 : decode cX11_change 1 = .ok (.iload_n 1, 1) := by decide +kernel
theorem dX11_change_2 : decode cX11_change 2 = .ok (.invokevirtual 134, 3) := by decide +kernel
theorem dX11_change_5 : decode cX11_change 5 = .ok (.astore 8, 2) := by decide +kernel
theorem dX11_change_7 : decode cX11_change 7 = .ok (.aload_n 0, 1) := by decide +kernel
theorem dX11_change_8 : decode cX11_change 8 = .ok (.iload_n 2, 1) := by decide +kernel
theorem dX11_change_9 : decode cX11_change 9 = .ok (.invokevirtual 83, 3) := by decide +kernel
theorem dX11_request_0 : decode cX11_request 0 = .ok (.aload_n 0, 1) := by decide +kernel
theorem dX11_request_1 : decode cX11_request 1 = .ok (.iload_n 1, 1) := by decide +kernel
theorem dX11_request_2 : decode cX11_request 2 = .ok (.invokevirtual 134, 3) := by decide +kernel
theorem dX11_request_5 : decode cX11_request 5 = .ok (.astore 7, 2) := by decide +kernel
theorem dX11_request_7 : decode cX11_request 7 = .ok (.aload_n 0, 1) := by decide +kernel
theorem dX11_request_8 : decode cX11_request 8 = .ok (.iload_n 3, 1) := by decide +kernel
theorem dX11_request_9 : decode cX11_request 9 = .ok (.invokevirtual 83, 3) := by decide +kernel
theorem dX11_cancel_0 : decode cX11_cancel 0 = .ok (.aload_n 0, 1) := by decide +kernel
theorem dX11_cancel_1 : decode cX11_cancel 1 = .ok (.iload_n 1, 1) := by decide +kernel
theorem dX11_cancel_2 : decode cX11_cancel 2 = .ok (.invokevirtual 134, 3) := by decide +kernel
theorem dX11_cancel_5 : decode cX11_cancel 5 = .ok (.astore_n 3, 1) := by decide +kernel
theorem dX11_cancel_6 : decode cX11_cancel 6 = .ok (.aload_n 0, 1) := by decide +kernel
theorem dX11_cancel_7 : decode cX11_cancel 7 = .ok (.aload_n 3, 1) := by decide +kernel
theorem dX11_cancel_8 : decode cX11_cancel 8 = .ok (.iload_n 2, 1) := by decide +kernel
theorem dX11_cancel_9 : decode cX11_cancel 9 = .ok (.invokevirtual 207, 3) := by decide +kernel
set_option maxRecDepth 100000 in
theorem q1404 : Cond.code yX11_askAt cX11_askAt 4 (some (FieldType.object "ToolPlex$Ask")) ∈ GT := gt 1404 (rfl) (by decide +kernel)
theorem M_X11_askAt : MY yX11_askAt cX11_askAt 4 (some (FieldType.object "ToolPlex$Ask")) 2 := ⟨q1404, q123, by decide +kernel, by decide +kernel⟩
theorem q1401 : Cond.methodLink RX11 207 yX11_askAt ∈ GT := gt 1401 (by decide +kernel) (by decide +kernel)
theorem q1403 : Cond.instanceMethod yX11_askAt ∈ GT := gt 1403 (by decide +kernel) (by decide +kernel)
theorem q36 : Cond.selects RX11 yX11_askAt yX11_askAt ∈ GT := gt 36 (by decide +kernel) (by decide +kernel)
theorem dX11_apply_0 : decode cX11_apply 0 = .ok (.aload_n 0, 1) := by decide +kernel
theorem dX11_apply_1 : decode cX11_apply 1 = .ok (.iload_n 1, 1) := by decide +kernel
theorem dX11_apply_2 : decode cX11_apply 2 = .ok (.invokevirtual 134, 3) := by decide +kernel
theorem dX11_apply_5 : decode cX11_apply 5 = .ok (.astore_n 3, 1) := by decide +kernel
theorem dX11_apply_6 : decode cX11_apply 6 = .ok (.aload_n 0, 1) := by decide +kernel
theorem dX11_apply_7 : decode cX11_apply 7 = .ok (.aload_n 3, 1) := by decide +kernel
theorem dX11_apply_8 : decode cX11_apply 8 = .ok (.iload_n 2, 1) := by decide +kernel
theorem dX11_apply_9 : decode cX11_apply 9 = .ok (.invokevirtual 207, 3) := by decide +kernel
theorem dX11_answer_0 : decode cX11_answer 0 = .ok (.aload_n 0, 1) := by decide +kernel
theorem dX11_answer_1 : decode cX11_answer 1 = .ok (.iload_n 1, 1) := by decide +kernel
theorem dX11_answer_2 : decode cX11_answer 2 = .ok (.invokevirtual 247, 3) := by decide +kernel
set_option maxRecDepth 100000 in
theorem q1472 : Cond.code yX11_serverAt cX11_serverAt 2 (some (FieldType.object "ToolPlex$Server")) ∈ GT := gt 1472 (rfl) (by decide +kernel)
theorem M_X11_serverAt : MY yX11_serverAt cX11_serverAt 2 (some (FieldType.object "ToolPlex$Server")) 1 := ⟨q1472, q123, by decide +kernel, by decide +kernel⟩
theorem q1469 : Cond.methodLink RX11 247 yX11_serverAt ∈ GT := gt 1469 (by decide +kernel) (by decide +kernel)
theorem q1471 : Cond.instanceMethod yX11_serverAt ∈ GT := gt 1471 (by decide +kernel) (by decide +kernel)
theorem q38 : Cond.selects RX11 yX11_serverAt yX11_serverAt ∈ GT := gt 38 (by decide +kernel) (by decide +kernel)
theorem dX11_tellFaults_0 : decode cX11_tellFaults 0 = .ok (.aload_n 0, 1) := by decide +kernel
theorem dX11_tellFaults_1 : decode cX11_tellFaults 1 = .ok (.iload_n 1, 1) := by decide +kernel
theorem dX11_tellFaults_2 : decode cX11_tellFaults 2 = .ok (.invokevirtual 247, 3) := by decide +kernel
theorem dX11_crash_0 : decode cX11_crash 0 = .ok (.aload_n 0, 1) := by decide +kernel
theorem dX11_crash_1 : decode cX11_crash 1 = .ok (.iload_n 1, 1) := by decide +kernel
theorem dX11_crash_2 : decode cX11_crash 2 = .ok (.invokevirtual 247, 3) := by decide +kernel
theorem dX11_start_0 : decode cX11_start 0 = .ok (.aload_n 0, 1) := by decide +kernel
theorem dX11_start_1 : decode cX11_start 1 = .ok (.iload_n 1, 1) := by decide +kernel
theorem dX11_start_2 : decode cX11_start 2 = .ok (.invokevirtual 247, 3) := by decide +kernel
theorem dX11_version_0 : decode cX11_version 0 = .ok (.aload_n 0, 1) := by decide +kernel
theorem dX11_version_1 : decode cX11_version 1 = .ok (.iload_n 2, 1) := by decide +kernel
theorem dX11_version_2 : decode cX11_version 2 = .ok (.invokevirtual 83, 3) := by decide +kernel
theorem dX11_unit_0 : decode cX11_unit 0 = .ok (.aload_n 0, 1) := by decide +kernel
theorem dX11_unit_1 : decode cX11_unit 1 = .ok (.iload_n 2, 1) := by decide +kernel
theorem dX11_unit_2 : decode cX11_unit 2 = .ok (.invokevirtual 83, 3) := by decide +kernel
theorem dX11_agree_0 : decode cX11_agree 0 = .ok (.aload_n 0, 1) := by decide +kernel
theorem dX11_agree_1 : decode cX11_agree 1 = .ok (.iload_n 1, 1) := by decide +kernel
theorem dX11_agree_2 : decode cX11_agree 2 = .ok (.invokevirtual 83, 3) := by decide +kernel
theorem dX11_standing_0 : decode cX11_standing 0 = .ok (.aload_n 0, 1) := by decide +kernel
theorem dX11_standing_1 : decode cX11_standing 1 = .ok (.aload_n 0, 1) := by decide +kernel
theorem dX11_standing_2 : decode cX11_standing 2 = .ok (.iload_n 1, 1) := by decide +kernel
theorem dX11_standing_3 : decode cX11_standing 3 = .ok (.invokevirtual 134, 3) := by decide +kernel
theorem dX11_standing_6 : decode cX11_standing 6 = .ok (.iload_n 2, 1) := by decide +kernel
theorem dX11_standing_7 : decode cX11_standing 7 = .ok (.invokevirtual 207, 3) := by decide +kernel
theorem dX11_item_0 : decode cX11_item 0 = .ok (.aload_n 0, 1) := by decide +kernel
theorem dX11_item_1 : decode cX11_item 1 = .ok (.iload_n 1, 1) := by decide +kernel
theorem dX11_item_2 : decode cX11_item 2 = .ok (.invokevirtual 134, 3) := by decide +kernel
theorem dX11_item_5 : decode cX11_item 5 = .ok (.astore 4, 2) := by decide +kernel
theorem dX11_item_7 : decode cX11_item 7 = .ok (.aload_n 0, 1) := by decide +kernel
theorem dX11_item_8 : decode cX11_item 8 = .ok (.aload 4, 2) := by decide +kernel
theorem dX11_item_10 : decode cX11_item 10 = .ok (.iload_n 2, 1) := by decide +kernel
theorem dX11_item_11 : decode cX11_item 11 = .ok (.invokevirtual 207, 3) := by decide +kernel
theorem dX11_value_0 : decode cX11_value 0 = .ok (.aload_n 0, 1) := by decide +kernel
theorem dX11_value_1 : decode cX11_value 1 = .ok (.aload_n 0, 1) := by decide +kernel
theorem dX11_value_2 : decode cX11_value 2 = .ok (.iload_n 1, 1) := by decide +kernel
theorem dX11_value_3 : decode cX11_value 3 = .ok (.invokevirtual 134, 3) := by decide +kernel
theorem dX11_value_6 : decode cX11_value 6 = .ok (.iload_n 2, 1) := by decide +kernel
theorem dX11_value_7 : decode cX11_value 7 = .ok (.invokevirtual 207, 3) := by decide +kernel
theorem dX11_token_0 : decode cX11_token 0 = .ok (.aload_n 0, 1) := by decide +kernel
theorem dX11_token_1 : decode cX11_token 1 = .ok (.iload_n 1, 1) := by decide +kernel
theorem dX11_token_2 : decode cX11_token 2 = .ok (.invokevirtual 134, 3) := by decide +kernel
theorem dX11_token_5 : decode cX11_token 5 = .ok (.astore 4, 2) := by decide +kernel
theorem dX11_token_7 : decode cX11_token 7 = .ok (.aload_n 0, 1) := by decide +kernel
theorem dX11_token_8 : decode cX11_token 8 = .ok (.aload 4, 2) := by decide +kernel
theorem dX11_token_10 : decode cX11_token 10 = .ok (.iload_n 2, 1) := by decide +kernel
theorem dX11_token_11 : decode cX11_token 11 = .ok (.invokevirtual 207, 3) := by decide +kernel
theorem dX11_id_0 : decode cX11_id 0 = .ok (.aload_n 0, 1) := by decide +kernel
theorem dX11_id_1 : decode cX11_id 1 = .ok (.iload_n 1, 1) := by decide +kernel
theorem dX11_id_2 : decode cX11_id 2 = .ok (.invokevirtual 134, 3) := by decide +kernel
theorem dX11_id_5 : decode cX11_id 5 = .ok (.astore 4, 2) := by decide +kernel
theorem dX11_id_7 : decode cX11_id 7 = .ok (.aload_n 0, 1) := by decide +kernel
theorem dX11_id_8 : decode cX11_id 8 = .ok (.aload 4, 2) := by decide +kernel
theorem dX11_id_10 : decode cX11_id 10 = .ok (.iload_n 2, 1) := by decide +kernel
theorem dX11_id_11 : decode cX11_id 11 = .ok (.invokevirtual 207, 3) := by decide +kernel
theorem dX11_faults_0 : decode cX11_faults 0 = .ok (.aload_n 0, 1) := by decide +kernel
theorem dX11_faults_1 : decode cX11_faults 1 = .ok (.iload_n 1, 1) := by decide +kernel
theorem dX11_faults_2 : decode cX11_faults 2 = .ok (.invokevirtual 134, 3) := by decide +kernel
theorem dX11_faults_5 : decode cX11_faults 5 = .ok (.astore_n 3, 1) := by decide +kernel
theorem dX11_faults_6 : decode cX11_faults 6 = .ok (.aload_n 0, 1) := by decide +kernel
theorem dX11_faults_7 : decode cX11_faults 7 = .ok (.iload_n 2, 1) := by decide +kernel
theorem dX11_faults_8 : decode cX11_faults 8 = .ok (.invokevirtual 83, 3) := by decide +kernel
theorem dX11_fault_0 : decode cX11_fault 0 = .ok (.aload_n 0, 1) := by decide +kernel
theorem dX11_fault_1 : decode cX11_fault 1 = .ok (.iload_n 1, 1) := by decide +kernel
theorem dX11_fault_2 : decode cX11_fault 2 = .ok (.invokevirtual 134, 3) := by decide +kernel
theorem dX11_fault_5 : decode cX11_fault 5 = .ok (.astore 4, 2) := by decide +kernel
theorem dX11_fault_7 : decode cX11_fault 7 = .ok (.aload_n 0, 1) := by decide +kernel
theorem dX11_fault_8 : decode cX11_fault 8 = .ok (.iload_n 2, 1) := by decide +kernel
theorem dX11_fault_9 : decode cX11_fault 9 = .ok (.invokevirtual 83, 3) := by decide +kernel
set_option maxHeartbeats 4000000 in
set_option maxRecDepth 100000 in
theorem k_Jx4a65c_size_8abf5 (l : Launch) (d0 : Nat) (cO : ClassId) (dC : Nat → ClassId) (dI : Nat → Nat → Nat) (sz : Nat) (h0 : Nat) (mc : Int32) (ve : Value) (sc : Int32) : Met l yJx4a65c_size_8abf5 (cn yJx4a65c_size_8abf5 cJx4a65c_size_8abf5 1 (some FieldType.int)) (rmd 0 0 0) (va_Pc [.ref h0] (PREp d0 cO (dC, dI) (va_A [] sz) [(h0, .inr (0, [.int mc, ve, .int sc]))] [] sz)) (va_Qi (fun (r : Int32) (_ : Unit) => r = sc) (fun (_ : Unit) (t : State) => va_P (dC, dI) vwCl [] t.heap) (va_A [] sz)) 0 0 (va_A [] sz) := by
  refine Met.ofW (cc := cJx4a65c_size_8abf5) (maxL := 1) (ret := (some FieldType.int)) (by decide) rfl ?_
  intro p e s m args below meth c s₁ B hml hv
  obtain ⟨rfl, hsz, hE, hP, hK⟩ := hv
  have hx := B.exec
  have hb := B.bytes
  have hr := B.returns
  have hts := atoms_spec (ws := cn yJx4a65c_size_8abf5 cJx4a65c_size_8abf5 1 (some FieldType.int)) B.pre
  have ht : ∀ w ∈ GT, w.before _ s = true := fun w h => hts w (List.mem_cons_of_mem _ h)
  have hown : s.vm.findClass RJx4a65c = some m.cls := findClass_of_methodNamed B.named
  have hlocks := B.notSynchronized
  subst hsz
  generalize hAe : va_A [] s.heap.size = A at hE ⊢
  have hA : ∀ q : Nat, s.heap.size ≤ q → A q := fun q h => by rw [← hAe]; exact Or.inr h
  obtain ⟨H, hH0⟩ : ∃ H, s.heap = H := ⟨_, rfl⟩
  have hS : va_S A s.heap H [] := by rw [← hH0]; exact va_S.rf
  rw [hH0] at hP
  have hl := lv_entry ([.ref h0]) (n := 1) (Nat.le_of_ble_eq_true rfl)
  rw [lg_entry_eq]
  generalize (lg_sl ([.ref h0]) ++ List.replicate (1 - (lg_sl ([.ref h0])).length) Slot.unset).toArray = ls at hl ⊢
  have hl : lv_has ls 1 [(0, .ref h0)] := hl
  rw [hH0]
  refine lv_aload_n hx hb dJx4a65c_size_8abf5_0 rfl (lv_at hl 0 rfl) ?_
  refine va_get (D := (dC, dI)) (ci := 0) (v := .int sc) (C := RJx4a65c) (T := TJx4a65c) (N := 3) hx hb ht inGJx4a65c hown hK hP 0 rfl rfl 2 (by decide) (ht _ q220) (fun _ h9 => h9) rfl dJx4a65c_size_8abf5_1 ?_
  have hP9 := hP.sub (ws' := []) [] rfl
  have hK9 := hK.sub (tys' := []) [] rfl
  refine W.widen (k := 0) (n := 0) (Nat.le_of_ble_eq_true rfl) (Nat.le_of_ble_eq_true rfl) ?_
  exact W.iret (v := sc) hx hb hr (fun t ht9 hW9 => ⟨⟨sc, (), rfl, rfl, ppk ht9 hP9⟩, hS.F ht9⟩) hS.2.2 dJx4a65c_size_8abf5_4
set_option maxHeartbeats 4000000 in
set_option maxRecDepth 100000 in
theorem k_X4_has (l : Launch) (d0 : Nat) (cO : ClassId) (dC : Nat → ClassId) (dI : Nat → Nat → Nat) (sz : Nat) (fi : Nat) (fna fla fv2 fv3 fv4 fv5 : Value) (a1 : Int32) : Met l yX4_has (cn yX4_has cX4_has 2 (some FieldType.boolean)) (rmd 0 0 0) (va_Pc [.ref fi, .int a1] (PREp d0 cO (dC, dI) (va_A [] sz) [(fi, .inr (5, [fna, fla, fv2, fv3, fv4, fv5, .int 0]))] [] sz)) (va_Qi (fun (r : Int32) (_ : Unit) => r = 0) (fun (_ : Unit) (t : State) => va_P (dC, dI) vwCl [] t.heap) (va_A [] sz)) 0 0 (va_A [] sz) := by
  refine Met.ofW (cc := cX4_has) (maxL := 2) (ret := (some FieldType.boolean)) (by decide) rfl ?_
  intro p e s m args below meth c s₁ B hml hv
  obtain ⟨rfl, hsz, hE, hP, hK⟩ := hv
  have hx := B.exec
  have hb := B.bytes
  have hr := B.returns
  have hts := atoms_spec (ws := cn yX4_has cX4_has 2 (some FieldType.boolean)) B.pre
  have ht : ∀ w ∈ GT, w.before _ s = true := fun w h => hts w (List.mem_cons_of_mem _ h)
  have hown : s.vm.findClass RX4 = some m.cls := findClass_of_methodNamed B.named
  have hlocks := B.notSynchronized
  subst hsz
  generalize hAe : va_A [] s.heap.size = A at hE ⊢
  have hA : ∀ q : Nat, s.heap.size ≤ q → A q := fun q h => by rw [← hAe]; exact Or.inr h
  obtain ⟨H, hH0⟩ : ∃ H, s.heap = H := ⟨_, rfl⟩
  have hS : va_S A s.heap H [] := by rw [← hH0]; exact va_S.rf
  rw [hH0] at hP
  have hl := lv_entry ([.ref fi, .int a1]) (n := 2) (Nat.le_of_ble_eq_true rfl)
  rw [lg_entry_eq]
  generalize (lg_sl ([.ref fi, .int a1]) ++ List.replicate (2 - (lg_sl ([.ref fi, .int a1])).length) Slot.unset).toArray = ls at hl ⊢
  have hl : lv_has ls 2 [(0, .ref fi), (1, .int a1)] := hl
  rw [hH0]
  refine lv_iload_n hx hb dX4_has_0 rfl (lv_at hl 1 rfl) ?_
  refine lv_if_lt (tgt := 22) hx hb dX4_has_1 (by decide) (fun c1 => ?_) (fun c1 => ?_)
  · skip
    refine lv_iconst (v := 0) hx hb dX4_has_22 (by decide) ?_
    have hP9 := hP.sub (ws' := []) [] rfl
    have hK9 := hK.sub (tys' := []) [] rfl
    refine W.widen (k := 0) (n := 0) (Nat.le_of_ble_eq_true rfl) (Nat.le_of_ble_eq_true rfl) ?_
    exact W.zret (v := 0) hx hb hr (by first | decide | rfl) (fun t ht9 hW9 => ⟨⟨0, (), rfl, rfl, ppk ht9 hP9⟩, hS.F ht9⟩) hS.2.2 dX4_has_23
  · skip
    refine lv_iload_n hx hb dX4_has_4 rfl (lv_at hl 1 rfl) ?_
    refine lv_aload_n hx hb dX4_has_5 rfl (lv_at hl 0 rfl) ?_
    refine va_get (D := (dC, dI)) (ci := 5) (v := .int 0) (C := RX4) (T := TX4) (N := 7) hx hb ht inGX4 hown hK hP 0 rfl rfl 6 (by decide) (ht _ q188) (fun _ h9 => h9) rfl dX4_has_6 ?_
    refine lv_icmp_ge (tgt := 22) hx hb dX4_has_9 (by decide) (fun c2 => ?_) (fun c2 => ?_)
    · skip
      refine lv_iconst (v := 0) hx hb dX4_has_22 (by decide) ?_
      have hP9 := hP.sub (ws' := []) [] rfl
      have hK9 := hK.sub (tys' := []) [] rfl
      refine W.widen (k := 0) (n := 0) (Nat.le_of_ble_eq_true rfl) (Nat.le_of_ble_eq_true rfl) ?_
      exact W.zret (v := 0) hx hb hr (by first | decide | rfl) (fun t ht9 hW9 => ⟨⟨0, (), rfl, rfl, ppk ht9 hP9⟩, hS.F ht9⟩) hS.2.2 dX4_has_23
    · skip
      exfalso; simp only [Int32.le_iff_toInt_le, Int32.lt_iff_toInt_lt, ← Int32.toInt_inj, li0, li1, li2, li3, li6, li9, li10, li97, li122, lim1] at c1 c2; omega
set_option maxHeartbeats 4000000 in
set_option maxRecDepth 100000 in
theorem k_X11_checkFile (l : Launch) (hL : l.stackTraces = false) (d0 : Nat) (cO : ClassId) (dC : Nat → ClassId) (dI : Nat → Nat → Nat) (sz : Nat) (h0 : Nat) (t1 t2 t3 t4 t5 : Value) (fi : Nat) (fna fla fv2 fv3 fv4 fv5 : Value) (a1 : Int32) : vx_Met l yX11_checkFile (cn yX11_checkFile cX11_checkFile 2 none) (rmd 6 1 6) (va_Pc [.ref h0, .int a1] (PREp d0 cO (dC, dI) (va_A [] sz) [(h0, .inr (12, [.ref fi, t1, t2, t3, t4, t5])), (fi, .inr (5, [fna, fla, fv2, fv3, fv4, fv5, .int 0]))] [] sz)) (va_Qv (fun (_ : Unit) => False) (fun (_ : Unit) (t : State) => va_P (dC, dI) vwCl [] t.heap) (va_A [] sz)) (vx_X (fun _ : Unit => True) (fun E _ _ => E = "java/lang/IndexOutOfBoundsException") (va_A [] sz)) 1 6 (va_A [] sz) := by
  refine vx_ofW (cc := cX11_checkFile) (maxL := 2) (ret := none) (by decide) rfl ?_
  intro p e s m args below meth c s₁ B hml hno hv
  obtain ⟨rfl, hsz, hE, hP, hK⟩ := hv
  have hx := B.exec
  have hb := B.bytes
  have hr := B.returns
  have hts := atoms_spec (ws := cn yX11_checkFile cX11_checkFile 2 none) B.pre
  have ht : ∀ w ∈ GT, w.before _ s = true := fun w h => hts w (List.mem_cons_of_mem _ h)
  have hown : s.vm.findClass RX11 = some m.cls := findClass_of_methodNamed B.named
  have hlocks := B.notSynchronized
  subst hsz
  generalize hAe : va_A [] s.heap.size = A at hE ⊢
  have hA : ∀ q : Nat, s.heap.size ≤ q → A q := fun q h => by rw [← hAe]; exact Or.inr h
  obtain ⟨H, hH0⟩ : ∃ H, s.heap = H := ⟨_, rfl⟩
  have hS : va_S A s.heap H [] := by rw [← hH0]; exact va_S.rf
  rw [hH0] at hP
  have hl := lv_entry ([.ref h0, .int a1]) (n := 2) (Nat.le_of_ble_eq_true rfl)
  rw [lg_entry_eq]
  generalize (lg_sl ([.ref h0, .int a1]) ++ List.replicate (2 - (lg_sl ([.ref h0, .int a1])).length) Slot.unset).toArray = ls at hl ⊢
  have hl : lv_has ls 2 [(0, .ref h0), (1, .int a1)] := hl
  rw [hH0]
  refine lv_aload_n hx hb dX11_checkFile_0 rfl (lv_at hl 0 rfl) ?_
  refine va_get (D := (dC, dI)) (ci := 12) (v := .ref fi) (C := RX11) (T := TX11) (N := 6) hx hb ht inGX11 hown hK hP 0 rfl rfl 0 (by decide) (ht _ q391) (fun _ h9 => h9) rfl dX11_checkFile_1 ?_
  refine lv_iload_n hx hb dX11_checkFile_4 rfl (lv_at hl 1 rfl) ?_
  have hPc := hP.sub (ws' := [(fi, .inr (5, [fna, fla, fv2, fv3, fv4, fv5, .int 0]))]) [1] rfl
  have hKc := hK.sub (tys' := []) [] rfl
  have hFc := freeNil hS hA
  refine va_calli (va_runV (As := [.int a1]) (rest := []) ⟨hx, hb, hml, hown, ht⟩ (k_X4_has l d0 cO dC dI H.size fi fna fla fv2 fv3 fv4 fv5 a1) (my_V ht M_X4_has q881 q882 q1129 (Nat.le_of_ble_eq_true rfl) (Nat.le_of_ble_eq_true rfl)) ⟨PREp.fb, va_recv hK hP (ci := 5) (q0 := 1) rfl rfl, fun U hU hW => ⟨rfl, PREp.mk' hE hS hFc hPc hKc U hU hW⟩⟩ rfl rfl hl.1 rfl (lv_room (Nat.le_of_ble_eq_true rfl)) dX11_checkFile_5 ⟨(Nat.le_of_ble_eq_true rfl), (Nat.le_of_ble_eq_true rfl)⟩) hS (fun q _ h => hFc q h) hFc (fun r2 u1 t H1 locs htt hvm hw hB hz1 hk1 hS => ?_)
  try dsimp only at hw hB
  have hP1 := hB
  rw [htt] at hP1
  have hP := keepAll hP hk1
  generalize H1 = H at hP hS ⊢
  have hP : va_P (dC, dI) vwCl [(h0, .inr (12, [.ref fi, t1, t2, t3, t4, t5])), (fi, .inr (5, [fna, fla, fv2, fv3, fv4, fv5, .int 0]))] H := hP
  have hK : va_K (dC, dI) vwCl [] s := hK
  refine W.widen (k := 0) (n := 0) (Nat.le_of_ble_eq_true rfl) (Nat.le_of_ble_eq_true rfl) ?_
  subst hw
  refine lv_if_ne (tgt := 22) hx hb dX11_checkFile_8 (by decide) (fun c3 => False.elim (by revert c3; decide)) (fun c3 => ?_)
  obtain ⟨sa, hstr⟩ := hE.2.1 (368, "no such file") (by decide +kernel)
  exact vx_throwSW (A := A) hx hb hL hown (by decide +kernel) (by decide +kernel) (ht _ q1130) (ht _ q141) hstr (fun w h => ht w (at_X11_258 w h)) (by decide +kernel) hE.2.2.2.2.1 hE.2.2.2.2.2 hS (by rw [hml]; exact hl.1) dX11_checkFile_11 dX11_checkFile_14 dX11_checkFile_15 dX11_checkFile_18 dX11_checkFile_21 (fun x h => (hno x h).elim) (Nat.le_of_ble_eq_true rfl) (Nat.le_of_ble_eq_true rfl) (Nat.le_of_ble_eq_true rfl) (Nat.le_of_ble_eq_true rfl) hlocks (fun t hvm hz hk => ⟨(), trivial, rfl, ⟨Nat.le_trans hS.1 hz, fun q h1 h2 => by rw [hk q (Nat.lt_of_lt_of_le h1 hS.1)]; exact hS.2.1 q h1 h2⟩⟩) hS.2.2 (Nat.le_of_ble_eq_true rfl) (Nat.le_of_ble_eq_true rfl)
set_option maxHeartbeats 4000000 in
set_option maxRecDepth 100000 in
theorem k_X3_askAt (l : Launch) (d0 : Nat) (cO : ClassId) (dC : Nat → ClassId) (dI : Nat → Nat → Nat) (sz : Nat) (e0 ak0 : Nat) (ei0 am0 : Int32) (ev0_1 ev0_2 ev0_3 ev0_4 ev0_5 ev0_6 ae0 : Value) (a1 : Int32) : Met l yX3_askAt (cn yX3_askAt cX3_askAt 2 (some (FieldType.object "ToolPlex$Ask"))) (rmd 1 0 0) (va_Pc [.ref e0, .int a1] (PREp d0 cO (dC, dI) (va_A [] sz) [(e0, .inr (4, [.int ei0, ev0_1, ev0_2, ev0_3, ev0_4, ev0_5, ev0_6, .ref ak0])), (ak0, .inr (0, [.int am0, ae0, .int 0]))] [] sz)) (va_Qq (fun (r : Option Nat) (_ : Unit) => r = none) (fun (_ : Unit) (t : State) => va_P (dC, dI) vwCl [] t.heap) (va_A [] sz)) 0 0 (va_A [] sz) := by
  refine Met.ofW (cc := cX3_askAt) (maxL := 2) (ret := (some (FieldType.object "ToolPlex$Ask"))) (by decide) rfl ?_
  intro p e s m args below meth c s₁ B hml hv
  obtain ⟨rfl, hsz, hE, hP, hK⟩ := hv
  have hx := B.exec
  have hb := B.bytes
  have hr := B.returns
  have hts := atoms_spec (ws := cn yX3_askAt cX3_askAt 2 (some (FieldType.object "ToolPlex$Ask"))) B.pre
  have ht : ∀ w ∈ GT, w.before _ s = true := fun w h => hts w (List.mem_cons_of_mem _ h)
  have hown : s.vm.findClass RX3 = some m.cls := findClass_of_methodNamed B.named
  have hlocks := B.notSynchronized
  subst hsz
  generalize hAe : va_A [] s.heap.size = A at hE ⊢
  have hA : ∀ q : Nat, s.heap.size ≤ q → A q := fun q h => by rw [← hAe]; exact Or.inr h
  obtain ⟨H, hH0⟩ : ∃ H, s.heap = H := ⟨_, rfl⟩
  have hS : va_S A s.heap H [] := by rw [← hH0]; exact va_S.rf
  rw [hH0] at hP
  have hl := lv_entry ([.ref e0, .int a1]) (n := 2) (Nat.le_of_ble_eq_true rfl)
  rw [lg_entry_eq]
  generalize (lg_sl ([.ref e0, .int a1]) ++ List.replicate (2 - (lg_sl ([.ref e0, .int a1])).length) Slot.unset).toArray = ls at hl ⊢
  have hl : lv_has ls 2 [(0, .ref e0), (1, .int a1)] := hl
  rw [hH0]
  refine lv_iload_n hx hb dX3_askAt_0 rfl (lv_at hl 1 rfl) ?_
  refine lv_if_lt (tgt := 29) hx hb dX3_askAt_1 (by decide) (fun c1 => ?_) (fun c1 => ?_)
  · skip
    refine lv_null hx hb dX3_askAt_29 ?_
    have hP9 := hP.sub (ws' := []) [] rfl
    have hK9 := hK.sub (tys' := []) [] rfl
    refine W.widen (k := 0) (n := 0) (Nat.le_of_ble_eq_true rfl) (Nat.le_of_ble_eq_true rfl) ?_
    exact W.aret (v := .null) hx hb hr (by first | exact Or.inl ⟨_, rfl⟩ | exact Or.inr ⟨_, rfl⟩) (by first | exact Or.inl rfl | exact Or.inr ⟨_, rfl⟩) (fun t ht9 hW9 => ⟨⟨none, (), rfl, rfl, ppk ht9 hP9⟩, hS.F ht9⟩) hS.2.2 dX3_askAt_30
  · skip
    refine lv_iload_n hx hb dX3_askAt_4 rfl (lv_at hl 1 rfl) ?_
    refine lv_aload_n hx hb dX3_askAt_5 rfl (lv_at hl 0 rfl) ?_
    refine va_get (D := (dC, dI)) (ci := 4) (v := .ref ak0) (C := RX3) (T := TX3) (N := 8) hx hb ht inGX3 hown hK hP 0 rfl rfl 7 (by decide) (ht _ q319) (fun _ h9 => h9) rfl dX3_askAt_6 ?_
    have hPc := hP.sub (ws' := [(ak0, .inr (0, [.int am0, ae0, .int 0]))]) [1] rfl
    have hKc := hK.sub (tys' := []) [] rfl
    have hFc := freeNil hS hA
    refine va_calli (va_runV (As := []) (rest := [.int a1]) ⟨hx, hb, hml, hown, ht⟩ (k_Jx4a65c_size_8abf5 l d0 cO dC dI H.size ak0 am0 ae0 0) (my_V ht M_Jx4a65c_size_8abf5 q424 q425 q477 (Nat.le_of_ble_eq_true rfl) (Nat.le_of_ble_eq_true rfl)) ⟨PREp.fb, va_recv hK hP (ci := 0) (q0 := 1) rfl rfl, fun U hU hW => ⟨rfl, PREp.mk' hE hS hFc hPc hKc U hU hW⟩⟩ rfl rfl hl.1 rfl (lv_room (Nat.le_of_ble_eq_true rfl)) dX3_askAt_9 ⟨(Nat.le_of_ble_eq_true rfl), (Nat.le_of_ble_eq_true rfl)⟩) hS (fun q _ h => hFc q h) hFc (fun r3 u2 t H1 locs htt hvm hw hB hz1 hk1 hS => ?_)
    try dsimp only at hw hB
    have hP1 := hB
    rw [htt] at hP1
    have hP := keepAll hP hk1
    generalize H1 = H at hP hS ⊢
    have hP : va_P (dC, dI) vwCl [(e0, .inr (4, [.int ei0, ev0_1, ev0_2, ev0_3, ev0_4, ev0_5, ev0_6, .ref ak0])), (ak0, .inr (0, [.int am0, ae0, .int 0]))] H := hP
    have hK : va_K (dC, dI) vwCl [] s := hK
    refine W.widen (k := 0) (n := 0) (Nat.le_of_ble_eq_true rfl) (Nat.le_of_ble_eq_true rfl) ?_
    subst hw
    refine lv_icmp_ge (tgt := 29) hx hb dX3_askAt_12 (by decide) (fun c4 => ?_) (fun c4 => ?_)
    · skip
      refine lv_null hx hb dX3_askAt_29 ?_
      have hP9 := hP.sub (ws' := []) [] rfl
      have hK9 := hK.sub (tys' := []) [] rfl
      refine W.widen (k := 0) (n := 0) (Nat.le_of_ble_eq_true rfl) (Nat.le_of_ble_eq_true rfl) ?_
      exact W.aret (v := .null) hx hb hr (by first | exact Or.inl ⟨_, rfl⟩ | exact Or.inr ⟨_, rfl⟩) (by first | exact Or.inl rfl | exact Or.inr ⟨_, rfl⟩) (fun t ht9 hW9 => ⟨⟨none, (), rfl, rfl, ppk ht9 hP9⟩, hS.F ht9⟩) hS.2.2 dX3_askAt_30
    · skip
      exfalso; simp only [Int32.le_iff_toInt_le, Int32.lt_iff_toInt_lt, ← Int32.toInt_inj, li0, li1, li2, li3, li6, li9, li10, li97, li122, lim1] at c1 c4; omega
set_option maxHeartbeats 4000000 in
set_option maxRecDepth 100000 in
theorem k_X11_editorAt (l : Launch) (hL : l.stackTraces = false) (d0 : Nat) (cO : ClassId) (dC : Nat → ClassId) (dI : Nat → Nat → Nat) (sz : Nat) (h0 ea sl : Nat) (tca tmx tsv : Value) (tE : ClassId) (fE : Nat → Option Nat) (sm : Int32) (se : Value) (fi : Nat) (fna fla fv2 fv3 fv4 fv5 : Value) (e0 ak0 : Nat) (ei0 am0 : Int32) (ev0_1 ev0_2 ev0_3 ev0_4 ev0_5 ev0_6 ae0 : Value) (e1 ak1 : Nat) (ei1 am1 : Int32) (ev1_1 ev1_2 ev1_3 ev1_4 ev1_5 ev1_6 ae1 : Value) (hf0 : fE 0 = some e0) (hf1 : fE 1 = some e1) (a1 : Int32) : vx_Met l yX11_editorAt (cn yX11_editorAt cX11_editorAt 2 (some (FieldType.object "ToolPlex$Editor"))) (rmd 6 1 6) (va_Pc [.ref h0, .int a1] (PREp d0 cO (dC, dI) (va_A [] sz) [(h0, .inr (12, [.ref fi, tca, .ref ea, .ref sl, tmx, tsv])), (fi, .inr (5, [fna, fla, fv2, fv3, fv4, fv5, .int 0])), (ea, .inl (tE, 2, .inr (.inr (.inr (.inr fE))))), (e0, .inr (4, [.int ei0, ev0_1, ev0_2, ev0_3, ev0_4, ev0_5, ev0_6, .ref ak0])), (e1, .inr (4, [.int ei1, ev1_1, ev1_2, ev1_3, ev1_4, ev1_5, ev1_6, .ref ak1])), (ak0, .inr (0, [.int am0, ae0, .int 0])), (ak1, .inr (0, [.int am1, ae1, .int 0])), (sl, .inr (0, [.int sm, se, .int 0]))] [(tE, .object RX3)] sz)) (va_Qq (fun (r : Option Nat) (_ : Unit) => r = some e0 ∨ r = some e1) (fun (_ : Unit) (t : State) => va_P (dC, dI) vwCl [] t.heap) (va_A [] sz)) (vx_X (fun _ : Unit => True) (fun E _ _ => E = "java/lang/IndexOutOfBoundsException") (va_A [] sz)) 1 6 (va_A [] sz) := by
  refine vx_ofW (cc := cX11_editorAt) (maxL := 2) (ret := (some (FieldType.object "ToolPlex$Editor"))) (by decide) rfl ?_
  intro p e s m args below meth c s₁ B hml hno hv
  obtain ⟨rfl, hsz, hE, hP, hK⟩ := hv
  have hx := B.exec
  have hb := B.bytes
  have hr := B.returns
  have hts := atoms_spec (ws := cn yX11_editorAt cX11_editorAt 2 (some (FieldType.object "ToolPlex$Editor"))) B.pre
  have ht : ∀ w ∈ GT, w.before _ s = true := fun w h => hts w (List.mem_cons_of_mem _ h)
  have hown : s.vm.findClass RX11 = some m.cls := findClass_of_methodNamed B.named
  have hlocks := B.notSynchronized
  subst hsz
  generalize hAe : va_A [] s.heap.size = A at hE ⊢
  have hA : ∀ q : Nat, s.heap.size ≤ q → A q := fun q h => by rw [← hAe]; exact Or.inr h
  obtain ⟨H, hH0⟩ : ∃ H, s.heap = H := ⟨_, rfl⟩
  have hS : va_S A s.heap H [] := by rw [← hH0]; exact va_S.rf
  rw [hH0] at hP
  have hl := lv_entry ([.ref h0, .int a1]) (n := 2) (Nat.le_of_ble_eq_true rfl)
  rw [lg_entry_eq]
  generalize (lg_sl ([.ref h0, .int a1]) ++ List.replicate (2 - (lg_sl ([.ref h0, .int a1])).length) Slot.unset).toArray = ls at hl ⊢
  have hl : lv_has ls 2 [(0, .ref h0), (1, .int a1)] := hl
  rw [hH0]
  refine lv_iload_n hx hb dX11_editorAt_0 rfl (lv_at hl 1 rfl) ?_
  refine lv_if_lt (tgt := 13) hx hb dX11_editorAt_1 (by decide) (fun c1 => ?_) (fun c1 => ?_)
  · skip
    obtain ⟨sa, hstr⟩ := hE.2.1 (358, "no such editor") (by decide +kernel)
    exact vx_throwSW (A := A) hx hb hL hown (by decide +kernel) (by decide +kernel) (ht _ q1130) (ht _ q141) hstr (fun w h => ht w (at_X11_258 w h)) (by decide +kernel) hE.2.2.2.2.1 hE.2.2.2.2.2 hS (by rw [hml]; exact hl.1) dX11_editorAt_13 dX11_editorAt_16 dX11_editorAt_17 dX11_editorAt_20 dX11_editorAt_23 (fun x h => (hno x h).elim) (Nat.le_of_ble_eq_true rfl) (Nat.le_of_ble_eq_true rfl) (Nat.le_of_ble_eq_true rfl) (Nat.le_of_ble_eq_true rfl) hlocks (fun t hvm hz hk => ⟨(), trivial, rfl, ⟨Nat.le_trans hS.1 hz, fun q h1 h2 => by rw [hk q (Nat.lt_of_lt_of_le h1 hS.1)]; exact hS.2.1 q h1 h2⟩⟩) hS.2.2 (Nat.le_of_ble_eq_true rfl) (Nat.le_of_ble_eq_true rfl)
  · skip
    refine lv_iload_n hx hb dX11_editorAt_4 rfl (lv_at hl 1 rfl) ?_
    refine lv_aload_n hx hb dX11_editorAt_5 rfl (lv_at hl 0 rfl) ?_
    refine va_get (D := (dC, dI)) (ci := 12) (v := .ref ea) (C := RX11) (T := TX11) (N := 6) hx hb ht inGX11 hown hK hP 0 rfl rfl 2 (by decide) (ht _ q393) (fun _ h9 => h9) rfl dX11_editorAt_6 ?_
    refine va_alen (v := 2) hx hb hK hP 2 0 rfl rfl rfl dX11_editorAt_9 ?_
    refine lv_icmp_lt (tgt := 24) hx hb dX11_editorAt_10 (by decide) (fun c2 => ?_) (fun c2 => ?_)
    · skip
      rcases ed01 c1 c2 with hj | hj
      · subst hj
        refine lv_aload_n hx hb dX11_editorAt_24 rfl (lv_at hl 0 rfl) ?_
        refine va_get (D := (dC, dI)) (ci := 12) (v := .ref ea) (C := RX11) (T := TX11) (N := 6) hx hb ht inGX11 hown hK hP 0 rfl rfl 2 (by decide) (ht _ q393) (fun _ h9 => h9) rfl dX11_editorAt_25 ?_
        refine lv_iload_n hx hb dX11_editorAt_28 rfl (lv_at hl 1 rfl) ?_
        refine va_aldq hx hb hK hP 2 0 rfl rfl (vp_in_nI (n := 0) (by decide) (by decide)) dX11_editorAt_29 ?_
        have hq : va_rf (fE (Int32.toNatClampNeg 0)) = .ref e0 := congrArg va_rf hf0
        rw [hq]
        have hP9 := hP.sub (ws' := []) [] rfl
        have hK9 := hK.sub (tys' := [(tE, .object RX3)]) [0] rfl
        refine W.widen (k := 1) (n := 6) (Nat.le_of_ble_eq_true rfl) (Nat.le_of_ble_eq_true rfl) ?_
        refine vx_ret ?_
        exact W.aret (v := .ref e0) hx hb hr (by first | exact Or.inl ⟨_, rfl⟩ | exact Or.inr ⟨_, rfl⟩) (by first | exact Or.inl rfl | exact Or.inr ⟨_, rfl⟩) (fun t ht9 hW9 => ⟨⟨some e0, (), rfl, (Or.inl rfl), ppk ht9 hP9⟩, hS.F ht9⟩) hS.2.2 dX11_editorAt_30
      · subst hj
        refine lv_aload_n hx hb dX11_editorAt_24 rfl (lv_at hl 0 rfl) ?_
        refine va_get (D := (dC, dI)) (ci := 12) (v := .ref ea) (C := RX11) (T := TX11) (N := 6) hx hb ht inGX11 hown hK hP 0 rfl rfl 2 (by decide) (ht _ q393) (fun _ h9 => h9) rfl dX11_editorAt_25 ?_
        refine lv_iload_n hx hb dX11_editorAt_28 rfl (lv_at hl 1 rfl) ?_
        refine va_aldq hx hb hK hP 2 0 rfl rfl (vp_in_nI (n := 1) (by decide) (by decide)) dX11_editorAt_29 ?_
        have hq : va_rf (fE (Int32.toNatClampNeg 1)) = .ref e1 := congrArg va_rf hf1
        rw [hq]
        have hP9 := hP.sub (ws' := []) [] rfl
        have hK9 := hK.sub (tys' := [(tE, .object RX3)]) [0] rfl
        refine W.widen (k := 1) (n := 6) (Nat.le_of_ble_eq_true rfl) (Nat.le_of_ble_eq_true rfl) ?_
        refine vx_ret ?_
        exact W.aret (v := .ref e1) hx hb hr (by first | exact Or.inl ⟨_, rfl⟩ | exact Or.inr ⟨_, rfl⟩) (by first | exact Or.inl rfl | exact Or.inr ⟨_, rfl⟩) (fun t ht9 hW9 => ⟨⟨some e1, (), rfl, (Or.inr rfl), ppk ht9 hP9⟩, hS.F ht9⟩) hS.2.2 dX11_editorAt_30
    · skip
      obtain ⟨sa, hstr⟩ := hE.2.1 (358, "no such editor") (by decide +kernel)
      exact vx_throwSW (A := A) hx hb hL hown (by decide +kernel) (by decide +kernel) (ht _ q1130) (ht _ q141) hstr (fun w h => ht w (at_X11_258 w h)) (by decide +kernel) hE.2.2.2.2.1 hE.2.2.2.2.2 hS (by rw [hml]; exact hl.1) dX11_editorAt_13 dX11_editorAt_16 dX11_editorAt_17 dX11_editorAt_20 dX11_editorAt_23 (fun x h => (hno x h).elim) (Nat.le_of_ble_eq_true rfl) (Nat.le_of_ble_eq_true rfl) (Nat.le_of_ble_eq_true rfl) (Nat.le_of_ble_eq_true rfl) hlocks (fun t hvm hz hk => ⟨(), trivial, rfl, ⟨Nat.le_trans hS.1 hz, fun q h1 h2 => by rw [hk q (Nat.lt_of_lt_of_le h1 hS.1)]; exact hS.2.1 q h1 h2⟩⟩) hS.2.2 (Nat.le_of_ble_eq_true rfl) (Nat.le_of_ble_eq_true rfl)
set_option maxHeartbeats 4000000 in
set_option maxRecDepth 100000 in
theorem k_X11_serverAt (l : Launch) (hL : l.stackTraces = false) (d0 : Nat) (cO : ClassId) (dC : Nat → ClassId) (dI : Nat → Nat → Nat) (sz : Nat) (h0 ea sl : Nat) (tca tmx tsv : Value) (tE : ClassId) (fE : Nat → Option Nat) (sm : Int32) (se : Value) (fi : Nat) (fna fla fv2 fv3 fv4 fv5 : Value) (e0 ak0 : Nat) (ei0 am0 : Int32) (ev0_1 ev0_2 ev0_3 ev0_4 ev0_5 ev0_6 ae0 : Value) (e1 ak1 : Nat) (ei1 am1 : Int32) (ev1_1 ev1_2 ev1_3 ev1_4 ev1_5 ev1_6 ae1 : Value) (hf0 : fE 0 = some e0) (hf1 : fE 1 = some e1) (a1 : Int32) : vx_Met l yX11_serverAt (cn yX11_serverAt cX11_serverAt 2 (some (FieldType.object "ToolPlex$Server"))) (rmd 6 1 6) (va_Pc [.ref h0, .int a1] (PREp d0 cO (dC, dI) (va_A [] sz) [(h0, .inr (12, [.ref fi, tca, .ref ea, .ref sl, tmx, tsv])), (fi, .inr (5, [fna, fla, fv2, fv3, fv4, fv5, .int 0])), (ea, .inl (tE, 2, .inr (.inr (.inr (.inr fE))))), (e0, .inr (4, [.int ei0, ev0_1, ev0_2, ev0_3, ev0_4, ev0_5, ev0_6, .ref ak0])), (e1, .inr (4, [.int ei1, ev1_1, ev1_2, ev1_3, ev1_4, ev1_5, ev1_6, .ref ak1])), (ak0, .inr (0, [.int am0, ae0, .int 0])), (ak1, .inr (0, [.int am1, ae1, .int 0])), (sl, .inr (0, [.int sm, se, .int 0]))] [(tE, .object RX3)] sz)) (va_Qq (fun (r : Option Nat) (_ : Unit) => False) (fun (_ : Unit) (t : State) => va_P (dC, dI) vwCl [] t.heap) (va_A [] sz)) (vx_X (fun _ : Unit => True) (fun E _ _ => E = "java/lang/IndexOutOfBoundsException") (va_A [] sz)) 1 6 (va_A [] sz) := by
  refine vx_ofW (cc := cX11_serverAt) (maxL := 2) (ret := (some (FieldType.object "ToolPlex$Server"))) (by decide) rfl ?_
  intro p e s m args below meth c s₁ B hml hno hv
  obtain ⟨rfl, hsz, hE, hP, hK⟩ := hv
  have hx := B.exec
  have hb := B.bytes
  have hr := B.returns
  have hts := atoms_spec (ws := cn yX11_serverAt cX11_serverAt 2 (some (FieldType.object "ToolPlex$Server"))) B.pre
  have ht : ∀ w ∈ GT, w.before _ s = true := fun w h => hts w (List.mem_cons_of_mem _ h)
  have hown : s.vm.findClass RX11 = some m.cls := findClass_of_methodNamed B.named
  have hlocks := B.notSynchronized
  subst hsz
  generalize hAe : va_A [] s.heap.size = A at hE ⊢
  have hA : ∀ q : Nat, s.heap.size ≤ q → A q := fun q h => by rw [← hAe]; exact Or.inr h
  obtain ⟨H, hH0⟩ : ∃ H, s.heap = H := ⟨_, rfl⟩
  have hS : va_S A s.heap H [] := by rw [← hH0]; exact va_S.rf
  rw [hH0] at hP
  have hl := lv_entry ([.ref h0, .int a1]) (n := 2) (Nat.le_of_ble_eq_true rfl)
  rw [lg_entry_eq]
  generalize (lg_sl ([.ref h0, .int a1]) ++ List.replicate (2 - (lg_sl ([.ref h0, .int a1])).length) Slot.unset).toArray = ls at hl ⊢
  have hl : lv_has ls 2 [(0, .ref h0), (1, .int a1)] := hl
  rw [hH0]
  refine lv_iload_n hx hb dX11_serverAt_0 rfl (lv_at hl 1 rfl) ?_
  refine lv_if_lt (tgt := 15) hx hb dX11_serverAt_1 (by decide) (fun c1 => ?_) (fun c1 => ?_)
  · skip
    obtain ⟨sa, hstr⟩ := hE.2.1 (360, "no such server") (by decide +kernel)
    exact vx_throwSW (A := A) hx hb hL hown (by decide +kernel) (by decide +kernel) (ht _ q1130) (ht _ q141) hstr (fun w h => ht w (at_X11_258 w h)) (by decide +kernel) hE.2.2.2.2.1 hE.2.2.2.2.2 hS (by rw [hml]; exact hl.1) dX11_serverAt_15 dX11_serverAt_18 dX11_serverAt_19 dX11_serverAt_22 dX11_serverAt_25 (fun x h => (hno x h).elim) (Nat.le_of_ble_eq_true rfl) (Nat.le_of_ble_eq_true rfl) (Nat.le_of_ble_eq_true rfl) (Nat.le_of_ble_eq_true rfl) hlocks (fun t hvm hz hk => ⟨(), trivial, rfl, ⟨Nat.le_trans hS.1 hz, fun q h1 h2 => by rw [hk q (Nat.lt_of_lt_of_le h1 hS.1)]; exact hS.2.1 q h1 h2⟩⟩) hS.2.2 (Nat.le_of_ble_eq_true rfl) (Nat.le_of_ble_eq_true rfl)
  · skip
    refine lv_iload_n hx hb dX11_serverAt_4 rfl (lv_at hl 1 rfl) ?_
    refine lv_aload_n hx hb dX11_serverAt_5 rfl (lv_at hl 0 rfl) ?_
    refine va_get (D := (dC, dI)) (ci := 12) (v := .ref sl) (C := RX11) (T := TX11) (N := 6) hx hb ht inGX11 hown hK hP 0 rfl rfl 3 (by decide) (ht _ q394) (fun _ h9 => h9) rfl dX11_serverAt_6 ?_
    have hPc := hP.sub (ws' := [(sl, .inr (0, [.int sm, se, .int 0]))]) [7] rfl
    have hKc := hK.sub (tys' := []) [] rfl
    have hFc := freeNil hS hA
    refine va_calli (va_runV (As := []) (rest := [.int a1]) ⟨hx, hb, hml, hown, ht⟩ (k_Jx4a65c_size_8abf5 l d0 cO dC dI H.size sl sm se 0) (my_V ht M_Jx4a65c_size_8abf5 q424 q425 q974 (Nat.le_of_ble_eq_true rfl) (Nat.le_of_ble_eq_true rfl)) ⟨PREp.fb, va_recv hK hP (ci := 0) (q0 := 7) rfl rfl, fun U hU hW => ⟨rfl, PREp.mk' hE hS hFc hPc hKc U hU hW⟩⟩ rfl rfl hl.1 rfl (lv_room (Nat.le_of_ble_eq_true rfl)) dX11_serverAt_9 ⟨(Nat.le_of_ble_eq_true rfl), (Nat.le_of_ble_eq_true rfl)⟩) hS (fun q _ h => hFc q h) hFc (fun r3 u2 t H1 locs htt hvm hw hB hz1 hk1 hS => ?_)
    try dsimp only at hw hB
    have hP1 := hB
    rw [htt] at hP1
    have hP := keepAll hP hk1
    generalize H1 = H at hP hS ⊢
    have hP : va_P (dC, dI) vwCl [(h0, .inr (12, [.ref fi, tca, .ref ea, .ref sl, tmx, tsv])), (fi, .inr (5, [fna, fla, fv2, fv3, fv4, fv5, .int 0])), (ea, .inl (tE, 2, .inr (.inr (.inr (.inr fE))))), (e0, .inr (4, [.int ei0, ev0_1, ev0_2, ev0_3, ev0_4, ev0_5, ev0_6, .ref ak0])), (e1, .inr (4, [.int ei1, ev1_1, ev1_2, ev1_3, ev1_4, ev1_5, ev1_6, .ref ak1])), (ak0, .inr (0, [.int am0, ae0, .int 0])), (ak1, .inr (0, [.int am1, ae1, .int 0])), (sl, .inr (0, [.int sm, se, .int 0]))] H := hP
    have hK : va_K (dC, dI) vwCl [(tE, .object RX3)] s := hK
    refine W.widen (k := 0) (n := 0) (Nat.le_of_ble_eq_true rfl) (Nat.le_of_ble_eq_true rfl) ?_
    subst hw
    refine lv_icmp_lt (tgt := 26) hx hb dX11_serverAt_12 (by decide) (fun c4 => ?_) (fun c4 => ?_)
    · skip
      exfalso; simp only [Int32.le_iff_toInt_le, Int32.lt_iff_toInt_lt, ← Int32.toInt_inj, li0, li1, li2, li3, li6, li9, li10, li97, li122, lim1] at c1 c4; omega
    · skip
      obtain ⟨sa, hstr⟩ := hE.2.1 (360, "no such server") (by decide +kernel)
      exact vx_throwSW (A := A) hx hb hL hown (by decide +kernel) (by decide +kernel) (ht _ q1130) (ht _ q141) hstr (fun w h => ht w (at_X11_258 w h)) (by decide +kernel) hE.2.2.2.2.1 hE.2.2.2.2.2 hS (by rw [hml]; exact hl.1) dX11_serverAt_15 dX11_serverAt_18 dX11_serverAt_19 dX11_serverAt_22 dX11_serverAt_25 (fun x h => (hno x h).elim) (Nat.le_of_ble_eq_true rfl) (Nat.le_of_ble_eq_true rfl) (Nat.le_of_ble_eq_true rfl) (Nat.le_of_ble_eq_true rfl) hlocks (fun t hvm hz hk => ⟨(), trivial, rfl, ⟨Nat.le_trans hS.1 hz, fun q h1 h2 => by rw [hk q (Nat.lt_of_lt_of_le h1 hS.1)]; exact hS.2.1 q h1 h2⟩⟩) hS.2.2 (Nat.le_of_ble_eq_true rfl) (Nat.le_of_ble_eq_true rfl)
set_option maxHeartbeats 4000000 in
set_option maxRecDepth 100000 in
theorem k_X11_askAt (l : Launch) (hL : l.stackTraces = false) (d0 : Nat) (cO : ClassId) (dC : Nat → ClassId) (dI : Nat → Nat → Nat) (sz : Nat) (h0 : Nat) (t0 t1 t2 t3 t4 t5 : Value) (e0 ak0 : Nat) (ei0 am0 : Int32) (ev0_1 ev0_2 ev0_3 ev0_4 ev0_5 ev0_6 ae0 : Value) (a1 : Int32) : vx_Met l yX11_askAt (cn yX11_askAt cX11_askAt 4 (some (FieldType.object "ToolPlex$Ask"))) (rmd 6 1 6) (va_Pc [.ref h0, .ref e0, .int a1] (PREp d0 cO (dC, dI) (va_A [] sz) [(h0, .inr (12, [t0, t1, t2, t3, t4, t5])), (e0, .inr (4, [.int ei0, ev0_1, ev0_2, ev0_3, ev0_4, ev0_5, ev0_6, .ref ak0])), (ak0, .inr (0, [.int am0, ae0, .int 0]))] [] sz)) (va_Qq (fun (r : Option Nat) (_ : Unit) => False) (fun (_ : Unit) (t : State) => va_P (dC, dI) vwCl [] t.heap) (va_A [] sz)) (vx_X (fun _ : Unit => True) (fun E _ _ => E = "java/lang/IndexOutOfBoundsException") (va_A [] sz)) 1 6 (va_A [] sz) := by
  refine vx_ofW (cc := cX11_askAt) (maxL := 4) (ret := (some (FieldType.object "ToolPlex$Ask"))) (by decide) rfl ?_
  intro p e s m args below meth c s₁ B hml hno hv
  obtain ⟨rfl, hsz, hE, hP, hK⟩ := hv
  have hx := B.exec
  have hb := B.bytes
  have hr := B.returns
  have hts := atoms_spec (ws := cn yX11_askAt cX11_askAt 4 (some (FieldType.object "ToolPlex$Ask"))) B.pre
  have ht : ∀ w ∈ GT, w.before _ s = true := fun w h => hts w (List.mem_cons_of_mem _ h)
  have hown : s.vm.findClass RX11 = some m.cls := findClass_of_methodNamed B.named
  have hlocks := B.notSynchronized
  subst hsz
  generalize hAe : va_A [] s.heap.size = A at hE ⊢
  have hA : ∀ q : Nat, s.heap.size ≤ q → A q := fun q h => by rw [← hAe]; exact Or.inr h
  obtain ⟨H, hH0⟩ : ∃ H, s.heap = H := ⟨_, rfl⟩
  have hS : va_S A s.heap H [] := by rw [← hH0]; exact va_S.rf
  rw [hH0] at hP
  have hl := lv_entry ([.ref h0, .ref e0, .int a1]) (n := 4) (Nat.le_of_ble_eq_true rfl)
  rw [lg_entry_eq]
  generalize (lg_sl ([.ref h0, .ref e0, .int a1]) ++ List.replicate (4 - (lg_sl ([.ref h0, .ref e0, .int a1])).length) Slot.unset).toArray = ls at hl ⊢
  have hl : lv_has ls 4 [(0, .ref h0), (1, .ref e0), (2, .int a1)] := hl
  rw [hH0]
  refine lv_aload_n hx hb dX11_askAt_0 rfl (lv_at hl 1 rfl) ?_
  refine lv_iload_n hx hb dX11_askAt_1 rfl (lv_at hl 2 rfl) ?_
  have hPc := hP.sub (ws' := [(e0, .inr (4, [.int ei0, ev0_1, ev0_2, ev0_3, ev0_4, ev0_5, ev0_6, .ref ak0])), (ak0, .inr (0, [.int am0, ae0, .int 0]))]) [1, 2] rfl
  have hKc := hK.sub (tys' := []) [] rfl
  have hFc := freeNil hS hA
  refine va_callq (va_runV (As := [.int a1]) (rest := []) ⟨hx, hb, hml, hown, ht⟩ (k_X3_askAt l d0 cO dC dI H.size e0 ak0 ei0 am0 ev0_1 ev0_2 ev0_3 ev0_4 ev0_5 ev0_6 ae0 a1) (my_V ht M_X3_askAt q474 q475 q1405 (Nat.le_of_ble_eq_true rfl) (Nat.le_of_ble_eq_true rfl)) ⟨PREp.fb, va_recv hK hP (ci := 4) (q0 := 1) rfl rfl, fun U hU hW => ⟨rfl, PREp.mk' hE hS hFc hPc hKc U hU hW⟩⟩ rfl rfl hl.1 rfl (lv_room (Nat.le_of_ble_eq_true rfl)) dX11_askAt_2 ⟨(Nat.le_of_ble_eq_true rfl), (Nat.le_of_ble_eq_true rfl)⟩) hS (fun q _ h => hFc q h) hFc (fun r2 u1 t H1 locs htt hvm hw hB hz1 hk1 hS => ?_)
  try dsimp only at hw hB
  have hP1 := hB
  rw [htt] at hP1
  have hP := keepAll hP hk1
  generalize H1 = H at hP hS ⊢
  have hP : va_P (dC, dI) vwCl [(h0, .inr (12, [t0, t1, t2, t3, t4, t5])), (e0, .inr (4, [.int ei0, ev0_1, ev0_2, ev0_3, ev0_4, ev0_5, ev0_6, .ref ak0])), (ak0, .inr (0, [.int am0, ae0, .int 0]))] H := hP
  have hK : va_K (dC, dI) vwCl [] s := hK
  refine W.widen (k := 0) (n := 0) (Nat.le_of_ble_eq_true rfl) (Nat.le_of_ble_eq_true rfl) ?_
  subst hw
  refine W.eq (g2 := F0 m 5 ls [.null]) rfl ?_
  refine lv_astore_nN (lv' := [(3, .null), (0, .ref h0), (1, .ref e0), (2, .int a1)]) hx hb dX11_askAt_5 rfl hl (by decide) rfl (fun ls hl => ?_)
  refine lv_aload_nN hx hb dX11_askAt_6 rfl (lv_at hl 0 rfl) ?_
  refine lv_ifnonnullN hx hb dX11_askAt_7 ?_
  obtain ⟨sa, hstr⟩ := hE.2.1 (256, "no such request") (by decide +kernel)
  exact vx_throwSW (A := A) hx hb hL hown (by decide +kernel) (by decide +kernel) (ht _ q1130) (ht _ q141) hstr (fun w h => ht w (at_X11_258 w h)) (by decide +kernel) hE.2.2.2.2.1 hE.2.2.2.2.2 hS (by rw [hml]; exact hl.1) dX11_askAt_10 dX11_askAt_13 dX11_askAt_14 dX11_askAt_17 dX11_askAt_20 (fun x h => (hno x h).elim) (Nat.le_of_ble_eq_true rfl) (Nat.le_of_ble_eq_true rfl) (Nat.le_of_ble_eq_true rfl) (Nat.le_of_ble_eq_true rfl) hlocks (fun t hvm hz hk => ⟨(), trivial, rfl, ⟨Nat.le_trans hS.1 hz, fun q h1 h2 => by rw [hk q (Nat.lt_of_lt_of_le h1 hS.1)]; exact hS.2.1 q h1 h2⟩⟩) hS.2.2 (Nat.le_of_ble_eq_true rfl) (Nat.le_of_ble_eq_true rfl)
set_option maxHeartbeats 4000000 in
set_option maxRecDepth 100000 in
theorem k_X11_store (l : Launch) (hL : l.stackTraces = false) (d0 : Nat) (cO : ClassId) (dC : Nat → ClassId) (dI : Nat → Nat → Nat) (sz : Nat) (h0 ea sl : Nat) (tca tmx tsv : Value) (tE : ClassId) (fE : Nat → Option Nat) (sm : Int32) (se : Value) (fi : Nat) (fna fla fv2 fv3 fv4 fv5 : Value) (e0 ak0 : Nat) (ei0 am0 : Int32) (ev0_1 ev0_2 ev0_3 ev0_4 ev0_5 ev0_6 ae0 : Value) (e1 ak1 : Nat) (ei1 am1 : Int32) (ev1_1 ev1_2 ev1_3 ev1_4 ev1_5 ev1_6 ae1 : Value) (hf0 : fE 0 = some e0) (hf1 : fE 1 = some e1) (a1 a2 : Int32) : vx_Met l yX11_store (cn yX11_store cX11_store 4 (some FieldType.int)) (rmd 7 1 6) (va_Pc [.ref h0, .int a1, .int a2] (PREp d0 cO (dC, dI) (va_A [] sz) [(h0, .inr (12, [.ref fi, tca, .ref ea, .ref sl, tmx, tsv])), (fi, .inr (5, [fna, fla, fv2, fv3, fv4, fv5, .int 0])), (ea, .inl (tE, 2, .inr (.inr (.inr (.inr fE))))), (e0, .inr (4, [.int ei0, ev0_1, ev0_2, ev0_3, ev0_4, ev0_5, ev0_6, .ref ak0])), (e1, .inr (4, [.int ei1, ev1_1, ev1_2, ev1_3, ev1_4, ev1_5, ev1_6, .ref ak1])), (ak0, .inr (0, [.int am0, ae0, .int 0])), (ak1, .inr (0, [.int am1, ae1, .int 0])), (sl, .inr (0, [.int sm, se, .int 0]))] [(tE, .object RX3)] sz)) (va_Qi (fun (r : Int32) (_ : Unit) => False) (fun (_ : Unit) (t : State) => va_P (dC, dI) vwCl [] t.heap) (va_A [] sz)) (vx_X (fun _ : Unit => True) (fun E _ _ => E = "java/lang/IndexOutOfBoundsException") (va_A [] sz)) 1 6 (va_A [] sz) := by
  refine vx_ofW (cc := cX11_store) (maxL := 4) (ret := (some FieldType.int)) (by decide) rfl ?_
  intro p e s m args below meth c s₁ B hml hno hv
  obtain ⟨rfl, hsz, hE, hP, hK⟩ := hv
  have hx := B.exec
  have hb := B.bytes
  have hr := B.returns
  have hts := atoms_spec (ws := cn yX11_store cX11_store 4 (some FieldType.int)) B.pre
  have ht : ∀ w ∈ GT, w.before _ s = true := fun w h => hts w (List.mem_cons_of_mem _ h)
  have hown : s.vm.findClass RX11 = some m.cls := findClass_of_methodNamed B.named
  have hlocks := B.notSynchronized
  subst hsz
  generalize hAe : va_A [] s.heap.size = A at hE ⊢
  have hA : ∀ q : Nat, s.heap.size ≤ q → A q := fun q h => by rw [← hAe]; exact Or.inr h
  obtain ⟨H, hH0⟩ : ∃ H, s.heap = H := ⟨_, rfl⟩
  have hS : va_S A s.heap H [] := by rw [← hH0]; exact va_S.rf
  rw [hH0] at hP
  have hl := lv_entry ([.ref h0, .int a1, .int a2]) (n := 4) (Nat.le_of_ble_eq_true rfl)
  rw [lg_entry_eq]
  generalize (lg_sl ([.ref h0, .int a1, .int a2]) ++ List.replicate (4 - (lg_sl ([.ref h0, .int a1, .int a2])).length) Slot.unset).toArray = ls at hl ⊢
  have hl : lv_has ls 4 [(0, .ref h0), (1, .int a1), (2, .int a2)] := hl
  rw [hH0]
  refine lv_aload_n hx hb dX11_store_0 rfl (lv_at hl 0 rfl) ?_
  refine lv_iload_n hx hb dX11_store_1 rfl (lv_at hl 1 rfl) ?_
  have hPc := hP.sub (ws' := [(h0, .inr (12, [.ref fi, tca, .ref ea, .ref sl, tmx, tsv])), (fi, .inr (5, [fna, fla, fv2, fv3, fv4, fv5, .int 0]))]) [0, 1] rfl
  have hKc := hK.sub (tys' := []) [] rfl
  have hFc := freeNil hS hA
  refine vx_callv (vx_runV (As := [.int a1]) (rest := []) ⟨hx, hb, hml, hown, ht⟩ (k_X11_checkFile l hL d0 cO dC dI H.size h0 tca (.ref ea) (.ref sl) tmx tsv fi fna fla fv2 fv3 fv4 fv5 a1) (my_V ht M_X11_checkFile q1127 q30 q1125 (Nat.le_of_ble_eq_true rfl) (Nat.le_of_ble_eq_true rfl)) ⟨PREp.fb, va_recv hK hP (ci := 12) (q0 := 0) rfl rfl, fun U hU hW => ⟨rfl, PREp.mk' hE hS hFc hPc hKc U hU hW⟩⟩ rfl rfl hl.1 rfl (lv_room (Nat.le_of_ble_eq_true rfl)) dX11_store_2 ⟨(Nat.le_of_ble_eq_true rfl), (Nat.le_of_ble_eq_true rfl)⟩) hS (fun q _ h => hFc q h) hFc (fun q _ h => hFc q h) (fun E ce q9 ux t H1 locs htt hvm hw hB hz1 hk1 hS hcell hv9 hcl9 => ?_) (fun u1 t H1 locs htt hvm hw hB hz1 hk1 hS => ?_)
  · skip
    obtain rfl : E = _ := hB
    exact vx_out (fun x h => (hno x h).elim) hlocks hcell hv9 hcl9 (fun t9 ht9 hvm9 => ⟨(), trivial, rfl, ⟨by rw [ht9]; exact hS.1, fun q h1 h2 => by rw [ht9]; exact hS.2.1 q h1 h2⟩⟩) hS.2.2 (Nat.le_of_ble_eq_true rfl) (Nat.le_of_ble_eq_true rfl)
  · skip
    exact hw.elim
set_option maxHeartbeats 4000000 in
set_option maxRecDepth 100000 in
theorem k_X11_name (l : Launch) (hL : l.stackTraces = false) (d0 : Nat) (cO : ClassId) (dC : Nat → ClassId) (dI : Nat → Nat → Nat) (sz : Nat) (h0 ea sl : Nat) (tca tmx tsv : Value) (tE : ClassId) (fE : Nat → Option Nat) (sm : Int32) (se : Value) (fi : Nat) (fna fla fv2 fv3 fv4 fv5 : Value) (e0 ak0 : Nat) (ei0 am0 : Int32) (ev0_1 ev0_2 ev0_3 ev0_4 ev0_5 ev0_6 ae0 : Value) (e1 ak1 : Nat) (ei1 am1 : Int32) (ev1_1 ev1_2 ev1_3 ev1_4 ev1_5 ev1_6 ae1 : Value) (hf0 : fE 0 = some e0) (hf1 : fE 1 = some e1) (a1 : Int32) : vx_Met l yX11_name (cn yX11_name cX11_name 2 (some FieldType.char)) (rmd 7 1 6) (va_Pc [.ref h0, .int a1] (PREp d0 cO (dC, dI) (va_A [] sz) [(h0, .inr (12, [.ref fi, tca, .ref ea, .ref sl, tmx, tsv])), (fi, .inr (5, [fna, fla, fv2, fv3, fv4, fv5, .int 0])), (ea, .inl (tE, 2, .inr (.inr (.inr (.inr fE))))), (e0, .inr (4, [.int ei0, ev0_1, ev0_2, ev0_3, ev0_4, ev0_5, ev0_6, .ref ak0])), (e1, .inr (4, [.int ei1, ev1_1, ev1_2, ev1_3, ev1_4, ev1_5, ev1_6, .ref ak1])), (ak0, .inr (0, [.int am0, ae0, .int 0])), (ak1, .inr (0, [.int am1, ae1, .int 0])), (sl, .inr (0, [.int sm, se, .int 0]))] [(tE, .object RX3)] sz)) (va_Qi (fun (r : Int32) (_ : Unit) => False) (fun (_ : Unit) (t : State) => va_P (dC, dI) vwCl [] t.heap) (va_A [] sz)) (vx_X (fun _ : Unit => True) (fun E _ _ => E = "java/lang/IndexOutOfBoundsException") (va_A [] sz)) 1 6 (va_A [] sz) := by
  refine vx_ofW (cc := cX11_name) (maxL := 2) (ret := (some FieldType.char)) (by decide) rfl ?_
  intro p e s m args below meth c s₁ B hml hno hv
  obtain ⟨rfl, hsz, hE, hP, hK⟩ := hv
  have hx := B.exec
  have hb := B.bytes
  have hr := B.returns
  have hts := atoms_spec (ws := cn yX11_name cX11_name 2 (some FieldType.char)) B.pre
  have ht : ∀ w ∈ GT, w.before _ s = true := fun w h => hts w (List.mem_cons_of_mem _ h)
  have hown : s.vm.findClass RX11 = some m.cls := findClass_of_methodNamed B.named
  have hlocks := B.notSynchronized
  subst hsz
  generalize hAe : va_A [] s.heap.size = A at hE ⊢
  have hA : ∀ q : Nat, s.heap.size ≤ q → A q := fun q h => by rw [← hAe]; exact Or.inr h
  obtain ⟨H, hH0⟩ : ∃ H, s.heap = H := ⟨_, rfl⟩
  have hS : va_S A s.heap H [] := by rw [← hH0]; exact va_S.rf
  rw [hH0] at hP
  have hl := lv_entry ([.ref h0, .int a1]) (n := 2) (Nat.le_of_ble_eq_true rfl)
  rw [lg_entry_eq]
  generalize (lg_sl ([.ref h0, .int a1]) ++ List.replicate (2 - (lg_sl ([.ref h0, .int a1])).length) Slot.unset).toArray = ls at hl ⊢
  have hl : lv_has ls 2 [(0, .ref h0), (1, .int a1)] := hl
  rw [hH0]
  refine lv_aload_n hx hb dX11_name_0 rfl (lv_at hl 0 rfl) ?_
  refine lv_iload_n hx hb dX11_name_1 rfl (lv_at hl 1 rfl) ?_
  have hPc := hP.sub (ws' := [(h0, .inr (12, [.ref fi, tca, .ref ea, .ref sl, tmx, tsv])), (fi, .inr (5, [fna, fla, fv2, fv3, fv4, fv5, .int 0]))]) [0, 1] rfl
  have hKc := hK.sub (tys' := []) [] rfl
  have hFc := freeNil hS hA
  refine vx_callv (vx_runV (As := [.int a1]) (rest := []) ⟨hx, hb, hml, hown, ht⟩ (k_X11_checkFile l hL d0 cO dC dI H.size h0 tca (.ref ea) (.ref sl) tmx tsv fi fna fla fv2 fv3 fv4 fv5 a1) (my_V ht M_X11_checkFile q1127 q30 q1125 (Nat.le_of_ble_eq_true rfl) (Nat.le_of_ble_eq_true rfl)) ⟨PREp.fb, va_recv hK hP (ci := 12) (q0 := 0) rfl rfl, fun U hU hW => ⟨rfl, PREp.mk' hE hS hFc hPc hKc U hU hW⟩⟩ rfl rfl hl.1 rfl (lv_room (Nat.le_of_ble_eq_true rfl)) dX11_name_2 ⟨(Nat.le_of_ble_eq_true rfl), (Nat.le_of_ble_eq_true rfl)⟩) hS (fun q _ h => hFc q h) hFc (fun q _ h => hFc q h) (fun E ce q9 ux t H1 locs htt hvm hw hB hz1 hk1 hS hcell hv9 hcl9 => ?_) (fun u1 t H1 locs htt hvm hw hB hz1 hk1 hS => ?_)
  · skip
    obtain rfl : E = _ := hB
    exact vx_out (fun x h => (hno x h).elim) hlocks hcell hv9 hcl9 (fun t9 ht9 hvm9 => ⟨(), trivial, rfl, ⟨by rw [ht9]; exact hS.1, fun q h1 h2 => by rw [ht9]; exact hS.2.1 q h1 h2⟩⟩) hS.2.2 (Nat.le_of_ble_eq_true rfl) (Nat.le_of_ble_eq_true rfl)
  · skip
    exact hw.elim
set_option maxHeartbeats 4000000 in
set_option maxRecDepth 100000 in
theorem k_X11_open (l : Launch) (hL : l.stackTraces = false) (d0 : Nat) (cO : ClassId) (dC : Nat → ClassId) (dI : Nat → Nat → Nat) (sz : Nat) (h0 ea sl : Nat) (tca tmx tsv : Value) (tE : ClassId) (fE : Nat → Option Nat) (sm : Int32) (se : Value) (fi : Nat) (fna fla fv2 fv3 fv4 fv5 : Value) (e0 ak0 : Nat) (ei0 am0 : Int32) (ev0_1 ev0_2 ev0_3 ev0_4 ev0_5 ev0_6 ae0 : Value) (e1 ak1 : Nat) (ei1 am1 : Int32) (ev1_1 ev1_2 ev1_3 ev1_4 ev1_5 ev1_6 ae1 : Value) (hf0 : fE 0 = some e0) (hf1 : fE 1 = some e1) (a1 a2 : Int32) : vx_Met l yX11_open (cn yX11_open cX11_open 4 (some FieldType.int)) (rmd 7 2 12) (va_Pc [.ref h0, .int a1, .int a2] (PREp d0 cO (dC, dI) (va_A [] sz) [(h0, .inr (12, [.ref fi, tca, .ref ea, .ref sl, tmx, tsv])), (fi, .inr (5, [fna, fla, fv2, fv3, fv4, fv5, .int 0])), (ea, .inl (tE, 2, .inr (.inr (.inr (.inr fE))))), (e0, .inr (4, [.int ei0, ev0_1, ev0_2, ev0_3, ev0_4, ev0_5, ev0_6, .ref ak0])), (e1, .inr (4, [.int ei1, ev1_1, ev1_2, ev1_3, ev1_4, ev1_5, ev1_6, .ref ak1])), (ak0, .inr (0, [.int am0, ae0, .int 0])), (ak1, .inr (0, [.int am1, ae1, .int 0])), (sl, .inr (0, [.int sm, se, .int 0]))] [(tE, .object RX3)] sz)) (va_Qi (fun (r : Int32) (_ : Unit) => False) (fun (_ : Unit) (t : State) => va_P (dC, dI) vwCl [] t.heap) (va_A [] sz)) (vx_X (fun _ : Unit => True) (fun E _ _ => E = "java/lang/IndexOutOfBoundsException") (va_A [] sz)) 2 12 (va_A [] sz) := by
  refine vx_ofW (cc := cX11_open) (maxL := 4) (ret := (some FieldType.int)) (by decide) rfl ?_
  intro p e s m args below meth c s₁ B hml hno hv
  obtain ⟨rfl, hsz, hE, hP, hK⟩ := hv
  have hx := B.exec
  have hb := B.bytes
  have hr := B.returns
  have hts := atoms_spec (ws := cn yX11_open cX11_open 4 (some FieldType.int)) B.pre
  have ht : ∀ w ∈ GT, w.before _ s = true := fun w h => hts w (List.mem_cons_of_mem _ h)
  have hown : s.vm.findClass RX11 = some m.cls := findClass_of_methodNamed B.named
  have hlocks := B.notSynchronized
  subst hsz
  generalize hAe : va_A [] s.heap.size = A at hE ⊢
  have hA : ∀ q : Nat, s.heap.size ≤ q → A q := fun q h => by rw [← hAe]; exact Or.inr h
  obtain ⟨H, hH0⟩ : ∃ H, s.heap = H := ⟨_, rfl⟩
  have hS : va_S A s.heap H [] := by rw [← hH0]; exact va_S.rf
  rw [hH0] at hP
  have hl := lv_entry ([.ref h0, .int a1, .int a2]) (n := 4) (Nat.le_of_ble_eq_true rfl)
  rw [lg_entry_eq]
  generalize (lg_sl ([.ref h0, .int a1, .int a2]) ++ List.replicate (4 - (lg_sl ([.ref h0, .int a1, .int a2])).length) Slot.unset).toArray = ls at hl ⊢
  have hl : lv_has ls 4 [(0, .ref h0), (1, .int a1), (2, .int a2)] := hl
  rw [hH0]
  refine lv_aload_n hx hb dX11_open_0 rfl (lv_at hl 0 rfl) ?_
  refine lv_iload_n hx hb dX11_open_1 rfl (lv_at hl 1 rfl) ?_
  have hPc := hP.sub (ws' := [(h0, .inr (12, [.ref fi, tca, .ref ea, .ref sl, tmx, tsv])), (fi, .inr (5, [fna, fla, fv2, fv3, fv4, fv5, .int 0])), (ea, .inl (tE, 2, .inr (.inr (.inr (.inr fE))))), (e0, .inr (4, [.int ei0, ev0_1, ev0_2, ev0_3, ev0_4, ev0_5, ev0_6, .ref ak0])), (e1, .inr (4, [.int ei1, ev1_1, ev1_2, ev1_3, ev1_4, ev1_5, ev1_6, .ref ak1])), (ak0, .inr (0, [.int am0, ae0, .int 0])), (ak1, .inr (0, [.int am1, ae1, .int 0])), (sl, .inr (0, [.int sm, se, .int 0]))]) [0, 1, 2, 3, 4, 5, 6, 7] rfl
  have hKc := hK.sub (tys' := [(tE, .object RX3)]) [0] rfl
  have hFc := freeNil hS hA
  refine vx_callq (vx_runV (As := [.int a1]) (rest := []) ⟨hx, hb, hml, hown, ht⟩ (k_X11_editorAt l hL d0 cO dC dI H.size h0 ea sl tca tmx tsv tE fE sm se fi fna fla fv2 fv3 fv4 fv5 e0 ak0 ei0 am0 ev0_1 ev0_2 ev0_3 ev0_4 ev0_5 ev0_6 ae0 e1 ak1 ei1 am1 ev1_1 ev1_2 ev1_3 ev1_4 ev1_5 ev1_6 ae1 hf0 hf1 a1) (my_V ht M_X11_editorAt q1259 q32 q1257 (Nat.le_of_ble_eq_true rfl) (Nat.le_of_ble_eq_true rfl)) ⟨PREp.fb, va_recv hK hP (ci := 12) (q0 := 0) rfl rfl, fun U hU hW => ⟨rfl, PREp.mk' hE hS hFc hPc hKc U hU hW⟩⟩ rfl rfl hl.1 rfl (lv_room (Nat.le_of_ble_eq_true rfl)) dX11_open_2 ⟨(Nat.le_of_ble_eq_true rfl), (Nat.le_of_ble_eq_true rfl)⟩) hS (fun q _ h => hFc q h) hFc (fun q _ h => hFc q h) (fun E ce q9 ux t H1 locs htt hvm hw hB hz1 hk1 hS hcell hv9 hcl9 => ?_) (fun r2 u1 t H1 locs htt hvm hw hB hz1 hk1 hS => ?_)
  · skip
    obtain rfl : E = _ := hB
    exact vx_out (fun x h => (hno x h).elim) hlocks hcell hv9 hcl9 (fun t9 ht9 hvm9 => ⟨(), trivial, rfl, ⟨by rw [ht9]; exact hS.1, fun q h1 h2 => by rw [ht9]; exact hS.2.1 q h1 h2⟩⟩) hS.2.2 (Nat.le_of_ble_eq_true rfl) (Nat.le_of_ble_eq_true rfl)
  · skip
    try dsimp only at hw hB
    have hP1 := hB
    rw [htt] at hP1
    have hP := keepAll hP hk1
    generalize H1 = H at hP hS ⊢
    have hP : va_P (dC, dI) vwCl [(h0, .inr (12, [.ref fi, tca, .ref ea, .ref sl, tmx, tsv])), (fi, .inr (5, [fna, fla, fv2, fv3, fv4, fv5, .int 0])), (ea, .inl (tE, 2, .inr (.inr (.inr (.inr fE))))), (e0, .inr (4, [.int ei0, ev0_1, ev0_2, ev0_3, ev0_4, ev0_5, ev0_6, .ref ak0])), (e1, .inr (4, [.int ei1, ev1_1, ev1_2, ev1_3, ev1_4, ev1_5, ev1_6, .ref ak1])), (ak0, .inr (0, [.int am0, ae0, .int 0])), (ak1, .inr (0, [.int am1, ae1, .int 0])), (sl, .inr (0, [.int sm, se, .int 0]))] H := hP
    have hK : va_K (dC, dI) vwCl [(tE, .object RX3)] s := hK
    refine W.widen (k := 1) (n := 6) (Nat.le_of_ble_eq_true rfl) (Nat.le_of_ble_eq_true rfl) ?_
    rcases hw with hw | hw
    · subst hw
      refine W.eq (g2 := F0 m 5 ls [.ref e0]) rfl ?_
      refine lv_astore_n (lv' := [(3, .ref e0), (0, .ref h0), (1, .int a1), (2, .int a2)]) hx hb dX11_open_5 rfl hl (by decide) rfl (fun ls hl => ?_)
      refine lv_aload_n hx hb dX11_open_6 rfl (lv_at hl 1 rfl) ?_
      refine lv_iload_n hx hb dX11_open_7 rfl (lv_at hl 3 rfl) ?_
      have hPc := hP.sub (ws' := [(h0, .inr (12, [.ref fi, tca, .ref ea, .ref sl, tmx, tsv])), (fi, .inr (5, [fna, fla, fv2, fv3, fv4, fv5, .int 0]))]) [0, 1] rfl
      have hKc := hK.sub (tys' := []) [] rfl
      have hFc := freeNil hS hA
      refine vx_callv (vx_runV (As := [.int a2]) (rest := []) ⟨hx, hb, hml, hown, ht⟩ (k_X11_checkFile l hL d0 cO dC dI H.size h0 tca (.ref ea) (.ref sl) tmx tsv fi fna fla fv2 fv3 fv4 fv5 a2) (my_V ht M_X11_checkFile q1127 q30 q1125 (Nat.le_of_ble_eq_true rfl) (Nat.le_of_ble_eq_true rfl)) ⟨PREp.fb, va_recv hK hP (ci := 12) (q0 := 0) rfl rfl, fun U hU hW => ⟨rfl, PREp.mk' hE hS hFc hPc hKc U hU hW⟩⟩ rfl rfl hl.1 rfl (lv_room (Nat.le_of_ble_eq_true rfl)) dX11_open_8 ⟨(Nat.le_of_ble_eq_true rfl), (Nat.le_of_ble_eq_true rfl)⟩) hS (fun q _ h => hFc q h) hFc (fun q _ h => hFc q h) (fun E ce q9 ux t H1 locs htt hvm hw hB hz1 hk1 hS hcell hv9 hcl9 => ?_) (fun u3 t H1 locs htt hvm hw hB hz1 hk1 hS => ?_)
      · skip
        obtain rfl : E = _ := hB
        exact vx_out (fun x h => (hno x h).elim) hlocks hcell hv9 hcl9 (fun t9 ht9 hvm9 => ⟨(), trivial, rfl, ⟨by rw [ht9]; exact hS.1, fun q h1 h2 => by rw [ht9]; exact hS.2.1 q h1 h2⟩⟩) hS.2.2 (Nat.le_of_ble_eq_true rfl) (Nat.le_of_ble_eq_true rfl)
      · skip
        exact hw.elim
    · subst hw
      refine W.eq (g2 := F0 m 5 ls [.ref e1]) rfl ?_
      refine lv_astore_n (lv' := [(3, .ref e1), (0, .ref h0), (1, .int a1), (2, .int a2)]) hx hb dX11_open_5 rfl hl (by decide) rfl (fun ls hl => ?_)
      refine lv_aload_n hx hb dX11_open_6 rfl (lv_at hl 1 rfl) ?_
      refine lv_iload_n hx hb dX11_open_7 rfl (lv_at hl 3 rfl) ?_
      have hPc := hP.sub (ws' := [(h0, .inr (12, [.ref fi, tca, .ref ea, .ref sl, tmx, tsv])), (fi, .inr (5, [fna, fla, fv2, fv3, fv4, fv5, .int 0]))]) [0, 1] rfl
      have hKc := hK.sub (tys' := []) [] rfl
      have hFc := freeNil hS hA
      refine vx_callv (vx_runV (As := [.int a2]) (rest := []) ⟨hx, hb, hml, hown, ht⟩ (k_X11_checkFile l hL d0 cO dC dI H.size h0 tca (.ref ea) (.ref sl) tmx tsv fi fna fla fv2 fv3 fv4 fv5 a2) (my_V ht M_X11_checkFile q1127 q30 q1125 (Nat.le_of_ble_eq_true rfl) (Nat.le_of_ble_eq_true rfl)) ⟨PREp.fb, va_recv hK hP (ci := 12) (q0 := 0) rfl rfl, fun U hU hW => ⟨rfl, PREp.mk' hE hS hFc hPc hKc U hU hW⟩⟩ rfl rfl hl.1 rfl (lv_room (Nat.le_of_ble_eq_true rfl)) dX11_open_8 ⟨(Nat.le_of_ble_eq_true rfl), (Nat.le_of_ble_eq_true rfl)⟩) hS (fun q _ h => hFc q h) hFc (fun q _ h => hFc q h) (fun E ce q9 ux t H1 locs htt hvm hw hB hz1 hk1 hS hcell hv9 hcl9 => ?_) (fun u5 t H1 locs htt hvm hw hB hz1 hk1 hS => ?_)
      · skip
        obtain rfl : E = _ := hB
        exact vx_out (fun x h => (hno x h).elim) hlocks hcell hv9 hcl9 (fun t9 ht9 hvm9 => ⟨(), trivial, rfl, ⟨by rw [ht9]; exact hS.1, fun q h1 h2 => by rw [ht9]; exact hS.2.1 q h1 h2⟩⟩) hS.2.2 (Nat.le_of_ble_eq_true rfl) (Nat.le_of_ble_eq_true rfl)
      · skip
        exact hw.elim
set_option maxHeartbeats 4000000 in
set_option maxRecDepth 100000 in
theorem k_X11_close (l : Launch) (hL : l.stackTraces = false) (d0 : Nat) (cO : ClassId) (dC : Nat → ClassId) (dI : Nat → Nat → Nat) (sz : Nat) (h0 ea sl : Nat) (tca tmx tsv : Value) (tE : ClassId) (fE : Nat → Option Nat) (sm : Int32) (se : Value) (fi : Nat) (fna fla fv2 fv3 fv4 fv5 : Value) (e0 ak0 : Nat) (ei0 am0 : Int32) (ev0_1 ev0_2 ev0_3 ev0_4 ev0_5 ev0_6 ae0 : Value) (e1 ak1 : Nat) (ei1 am1 : Int32) (ev1_1 ev1_2 ev1_3 ev1_4 ev1_5 ev1_6 ae1 : Value) (hf0 : fE 0 = some e0) (hf1 : fE 1 = some e1) (a1 a2 : Int32) : vx_Met l yX11_close (cn yX11_close cX11_close 4 none) (rmd 7 2 12) (va_Pc [.ref h0, .int a1, .int a2] (PREp d0 cO (dC, dI) (va_A [] sz) [(h0, .inr (12, [.ref fi, tca, .ref ea, .ref sl, tmx, tsv])), (fi, .inr (5, [fna, fla, fv2, fv3, fv4, fv5, .int 0])), (ea, .inl (tE, 2, .inr (.inr (.inr (.inr fE))))), (e0, .inr (4, [.int ei0, ev0_1, ev0_2, ev0_3, ev0_4, ev0_5, ev0_6, .ref ak0])), (e1, .inr (4, [.int ei1, ev1_1, ev1_2, ev1_3, ev1_4, ev1_5, ev1_6, .ref ak1])), (ak0, .inr (0, [.int am0, ae0, .int 0])), (ak1, .inr (0, [.int am1, ae1, .int 0])), (sl, .inr (0, [.int sm, se, .int 0]))] [(tE, .object RX3)] sz)) (va_Qv (fun (_ : Unit) => False) (fun (_ : Unit) (t : State) => va_P (dC, dI) vwCl [] t.heap) (va_A [] sz)) (vx_X (fun _ : Unit => True) (fun E _ _ => E = "java/lang/IndexOutOfBoundsException") (va_A [] sz)) 2 12 (va_A [] sz) := by
  refine vx_ofW (cc := cX11_close) (maxL := 4) (ret := none) (by decide) rfl ?_
  intro p e s m args below meth c s₁ B hml hno hv
  obtain ⟨rfl, hsz, hE, hP, hK⟩ := hv
  have hx := B.exec
  have hb := B.bytes
  have hr := B.returns
  have hts := atoms_spec (ws := cn yX11_close cX11_close 4 none) B.pre
  have ht : ∀ w ∈ GT, w.before _ s = true := fun w h => hts w (List.mem_cons_of_mem _ h)
  have hown : s.vm.findClass RX11 = some m.cls := findClass_of_methodNamed B.named
  have hlocks := B.notSynchronized
  subst hsz
  generalize hAe : va_A [] s.heap.size = A at hE ⊢
  have hA : ∀ q : Nat, s.heap.size ≤ q → A q := fun q h => by rw [← hAe]; exact Or.inr h
  obtain ⟨H, hH0⟩ : ∃ H, s.heap = H := ⟨_, rfl⟩
  have hS : va_S A s.heap H [] := by rw [← hH0]; exact va_S.rf
  rw [hH0] at hP
  have hl := lv_entry ([.ref h0, .int a1, .int a2]) (n := 4) (Nat.le_of_ble_eq_true rfl)
  rw [lg_entry_eq]
  generalize (lg_sl ([.ref h0, .int a1, .int a2]) ++ List.replicate (4 - (lg_sl ([.ref h0, .int a1, .int a2])).length) Slot.unset).toArray = ls at hl ⊢
  have hl : lv_has ls 4 [(0, .ref h0), (1, .int a1), (2, .int a2)] := hl
  rw [hH0]
  refine lv_aload_n hx hb dX11_close_0 rfl (lv_at hl 0 rfl) ?_
  refine lv_iload_n hx hb dX11_close_1 rfl (lv_at hl 1 rfl) ?_
  have hPc := hP.sub (ws' := [(h0, .inr (12, [.ref fi, tca, .ref ea, .ref sl, tmx, tsv])), (fi, .inr (5, [fna, fla, fv2, fv3, fv4, fv5, .int 0])), (ea, .inl (tE, 2, .inr (.inr (.inr (.inr fE))))), (e0, .inr (4, [.int ei0, ev0_1, ev0_2, ev0_3, ev0_4, ev0_5, ev0_6, .ref ak0])), (e1, .inr (4, [.int ei1, ev1_1, ev1_2, ev1_3, ev1_4, ev1_5, ev1_6, .ref ak1])), (ak0, .inr (0, [.int am0, ae0, .int 0])), (ak1, .inr (0, [.int am1, ae1, .int 0])), (sl, .inr (0, [.int sm, se, .int 0]))]) [0, 1, 2, 3, 4, 5, 6, 7] rfl
  have hKc := hK.sub (tys' := [(tE, .object RX3)]) [0] rfl
  have hFc := freeNil hS hA
  refine vx_callq (vx_runV (As := [.int a1]) (rest := []) ⟨hx, hb, hml, hown, ht⟩ (k_X11_editorAt l hL d0 cO dC dI H.size h0 ea sl tca tmx tsv tE fE sm se fi fna fla fv2 fv3 fv4 fv5 e0 ak0 ei0 am0 ev0_1 ev0_2 ev0_3 ev0_4 ev0_5 ev0_6 ae0 e1 ak1 ei1 am1 ev1_1 ev1_2 ev1_3 ev1_4 ev1_5 ev1_6 ae1 hf0 hf1 a1) (my_V ht M_X11_editorAt q1259 q32 q1257 (Nat.le_of_ble_eq_true rfl) (Nat.le_of_ble_eq_true rfl)) ⟨PREp.fb, va_recv hK hP (ci := 12) (q0 := 0) rfl rfl, fun U hU hW => ⟨rfl, PREp.mk' hE hS hFc hPc hKc U hU hW⟩⟩ rfl rfl hl.1 rfl (lv_room (Nat.le_of_ble_eq_true rfl)) dX11_close_2 ⟨(Nat.le_of_ble_eq_true rfl), (Nat.le_of_ble_eq_true rfl)⟩) hS (fun q _ h => hFc q h) hFc (fun q _ h => hFc q h) (fun E ce q9 ux t H1 locs htt hvm hw hB hz1 hk1 hS hcell hv9 hcl9 => ?_) (fun r2 u1 t H1 locs htt hvm hw hB hz1 hk1 hS => ?_)
  · skip
    obtain rfl : E = _ := hB
    exact vx_out (fun x h => (hno x h).elim) hlocks hcell hv9 hcl9 (fun t9 ht9 hvm9 => ⟨(), trivial, rfl, ⟨by rw [ht9]; exact hS.1, fun q h1 h2 => by rw [ht9]; exact hS.2.1 q h1 h2⟩⟩) hS.2.2 (Nat.le_of_ble_eq_true rfl) (Nat.le_of_ble_eq_true rfl)
  · skip
    try dsimp only at hw hB
    have hP1 := hB
    rw [htt] at hP1
    have hP := keepAll hP hk1
    generalize H1 = H at hP hS ⊢
    have hP : va_P (dC, dI) vwCl [(h0, .inr (12, [.ref fi, tca, .ref ea, .ref sl, tmx, tsv])), (fi, .inr (5, [fna, fla, fv2, fv3, fv4, fv5, .int 0])), (ea, .inl (tE, 2, .inr (.inr (.inr (.inr fE))))), (e0, .inr (4, [.int ei0, ev0_1, ev0_2, ev0_3, ev0_4, ev0_5, ev0_6, .ref ak0])), (e1, .inr (4, [.int ei1, ev1_1, ev1_2, ev1_3, ev1_4, ev1_5, ev1_6, .ref ak1])), (ak0, .inr (0, [.int am0, ae0, .int 0])), (ak1, .inr (0, [.int am1, ae1, .int 0])), (sl, .inr (0, [.int sm, se, .int 0]))] H := hP
    have hK : va_K (dC, dI) vwCl [(tE, .object RX3)] s := hK
    refine W.widen (k := 1) (n := 6) (Nat.le_of_ble_eq_true rfl) (Nat.le_of_ble_eq_true rfl) ?_
    rcases hw with hw | hw
    · subst hw
      refine W.eq (g2 := F0 m 5 ls [.ref e0]) rfl ?_
      refine lv_astore_n (lv' := [(3, .ref e0), (0, .ref h0), (1, .int a1), (2, .int a2)]) hx hb dX11_close_5 rfl hl (by decide) rfl (fun ls hl => ?_)
      refine lv_aload_n hx hb dX11_close_6 rfl (lv_at hl 1 rfl) ?_
      refine lv_iload_n hx hb dX11_close_7 rfl (lv_at hl 3 rfl) ?_
      have hPc := hP.sub (ws' := [(h0, .inr (12, [.ref fi, tca, .ref ea, .ref sl, tmx, tsv])), (fi, .inr (5, [fna, fla, fv2, fv3, fv4, fv5, .int 0]))]) [0, 1] rfl
      have hKc := hK.sub (tys' := []) [] rfl
      have hFc := freeNil hS hA
      refine vx_callv (vx_runV (As := [.int a2]) (rest := []) ⟨hx, hb, hml, hown, ht⟩ (k_X11_checkFile l hL d0 cO dC dI H.size h0 tca (.ref ea) (.ref sl) tmx tsv fi fna fla fv2 fv3 fv4 fv5 a2) (my_V ht M_X11_checkFile q1127 q30 q1125 (Nat.le_of_ble_eq_true rfl) (Nat.le_of_ble_eq_true rfl)) ⟨PREp.fb, va_recv hK hP (ci := 12) (q0 := 0) rfl rfl, fun U hU hW => ⟨rfl, PREp.mk' hE hS hFc hPc hKc U hU hW⟩⟩ rfl rfl hl.1 rfl (lv_room (Nat.le_of_ble_eq_true rfl)) dX11_close_8 ⟨(Nat.le_of_ble_eq_true rfl), (Nat.le_of_ble_eq_true rfl)⟩) hS (fun q _ h => hFc q h) hFc (fun q _ h => hFc q h) (fun E ce q9 ux t H1 locs htt hvm hw hB hz1 hk1 hS hcell hv9 hcl9 => ?_) (fun u3 t H1 locs htt hvm hw hB hz1 hk1 hS => ?_)
      · skip
        obtain rfl : E = _ := hB
        exact vx_out (fun x h => (hno x h).elim) hlocks hcell hv9 hcl9 (fun t9 ht9 hvm9 => ⟨(), trivial, rfl, ⟨by rw [ht9]; exact hS.1, fun q h1 h2 => by rw [ht9]; exact hS.2.1 q h1 h2⟩⟩) hS.2.2 (Nat.le_of_ble_eq_true rfl) (Nat.le_of_ble_eq_true rfl)
      · skip
        exact hw.elim
    · subst hw
      refine W.eq (g2 := F0 m 5 ls [.ref e1]) rfl ?_
      refine lv_astore_n (lv' := [(3, .ref e1), (0, .ref h0), (1, .int a1), (2, .int a2)]) hx hb dX11_close_5 rfl hl (by decide) rfl (fun ls hl => ?_)
      refine lv_aload_n hx hb dX11_close_6 rfl (lv_at hl 1 rfl) ?_
      refine lv_iload_n hx hb dX11_close_7 rfl (lv_at hl 3 rfl) ?_
      have hPc := hP.sub (ws' := [(h0, .inr (12, [.ref fi, tca, .ref ea, .ref sl, tmx, tsv])), (fi, .inr (5, [fna, fla, fv2, fv3, fv4, fv5, .int 0]))]) [0, 1] rfl
      have hKc := hK.sub (tys' := []) [] rfl
      have hFc := freeNil hS hA
      refine vx_callv (vx_runV (As := [.int a2]) (rest := []) ⟨hx, hb, hml, hown, ht⟩ (k_X11_checkFile l hL d0 cO dC dI H.size h0 tca (.ref ea) (.ref sl) tmx tsv fi fna fla fv2 fv3 fv4 fv5 a2) (my_V ht M_X11_checkFile q1127 q30 q1125 (Nat.le_of_ble_eq_true rfl) (Nat.le_of_ble_eq_true rfl)) ⟨PREp.fb, va_recv hK hP (ci := 12) (q0 := 0) rfl rfl, fun U hU hW => ⟨rfl, PREp.mk' hE hS hFc hPc hKc U hU hW⟩⟩ rfl rfl hl.1 rfl (lv_room (Nat.le_of_ble_eq_true rfl)) dX11_close_8 ⟨(Nat.le_of_ble_eq_true rfl), (Nat.le_of_ble_eq_true rfl)⟩) hS (fun q _ h => hFc q h) hFc (fun q _ h => hFc q h) (fun E ce q9 ux t H1 locs htt hvm hw hB hz1 hk1 hS hcell hv9 hcl9 => ?_) (fun u5 t H1 locs htt hvm hw hB hz1 hk1 hS => ?_)
      · skip
        obtain rfl : E = _ := hB
        exact vx_out (fun x h => (hno x h).elim) hlocks hcell hv9 hcl9 (fun t9 ht9 hvm9 => ⟨(), trivial, rfl, ⟨by rw [ht9]; exact hS.1, fun q h1 h2 => by rw [ht9]; exact hS.2.1 q h1 h2⟩⟩) hS.2.2 (Nat.le_of_ble_eq_true rfl) (Nat.le_of_ble_eq_true rfl)
      · skip
        exact hw.elim
set_option maxHeartbeats 4000000 in
set_option maxRecDepth 100000 in
theorem k_X11_change (l : Launch) (hL : l.stackTraces = false) (d0 : Nat) (cO : ClassId) (dC : Nat → ClassId) (dI : Nat → Nat → Nat) (sz : Nat) (h0 ea sl : Nat) (tca tmx tsv : Value) (tE : ClassId) (fE : Nat → Option Nat) (sm : Int32) (se : Value) (fi : Nat) (fna fla fv2 fv3 fv4 fv5 : Value) (e0 ak0 : Nat) (ei0 am0 : Int32) (ev0_1 ev0_2 ev0_3 ev0_4 ev0_5 ev0_6 ae0 : Value) (e1 ak1 : Nat) (ei1 am1 : Int32) (ev1_1 ev1_2 ev1_3 ev1_4 ev1_5 ev1_6 ae1 : Value) (hf0 : fE 0 = some e0) (hf1 : fE 1 = some e1) (a1 a2 a3 a4 a5 a6 a7 : Int32) : vx_Met l yX11_change (cn yX11_change cX11_change 11 (some FieldType.int)) (rmd 7 2 12) (va_Pc [.ref h0, .int a1, .int a2, .int a3, .int a4, .int a5, .int a6, .int a7] (PREp d0 cO (dC, dI) (va_A [] sz) [(h0, .inr (12, [.ref fi, tca, .ref ea, .ref sl, tmx, tsv])), (fi, .inr (5, [fna, fla, fv2, fv3, fv4, fv5, .int 0])), (ea, .inl (tE, 2, .inr (.inr (.inr (.inr fE))))), (e0, .inr (4, [.int ei0, ev0_1, ev0_2, ev0_3, ev0_4, ev0_5, ev0_6, .ref ak0])), (e1, .inr (4, [.int ei1, ev1_1, ev1_2, ev1_3, ev1_4, ev1_5, ev1_6, .ref ak1])), (ak0, .inr (0, [.int am0, ae0, .int 0])), (ak1, .inr (0, [.int am1, ae1, .int 0])), (sl, .inr (0, [.int sm, se, .int 0]))] [(tE, .object RX3)] sz)) (va_Qi (fun (r : Int32) (_ : Unit) => False) (fun (_ : Unit) (t : State) => va_P (dC, dI) vwCl [] t.heap) (va_A [] sz)) (vx_X (fun _ : Unit => True) (fun E _ _ => E = "java/lang/IndexOutOfBoundsException") (va_A [] sz)) 2 12 (va_A [] sz) := by
  refine vx_ofW (cc := cX11_change) (maxL := 11) (ret := (some FieldType.int)) (by decide) rfl ?_
  intro p e s m args below meth c s₁ B hml hno hv
  obtain ⟨rfl, hsz, hE, hP, hK⟩ := hv
  have hx := B.exec
  have hb := B.bytes
  have hr := B.returns
  have hts := atoms_spec (ws := cn yX11_change cX11_change 11 (some FieldType.int)) B.pre
  have ht : ∀ w ∈ GT, w.before _ s = true := fun w h => hts w (List.mem_cons_of_mem _ h)
  have hown : s.vm.findClass RX11 = some m.cls := findClass_of_methodNamed B.named
  have hlocks := B.notSynchronized
  subst hsz
  generalize hAe : va_A [] s.heap.size = A at hE ⊢
  have hA : ∀ q : Nat, s.heap.size ≤ q → A q := fun q h => by rw [← hAe]; exact Or.inr h
  obtain ⟨H, hH0⟩ : ∃ H, s.heap = H := ⟨_, rfl⟩
  have hS : va_S A s.heap H [] := by rw [← hH0]; exact va_S.rf
  rw [hH0] at hP
  have hl := lv_entry ([.ref h0, .int a1, .int a2, .int a3, .int a4, .int a5, .int a6, .int a7]) (n := 11) (Nat.le_of_ble_eq_true rfl)
  rw [lg_entry_eq]
  generalize (lg_sl ([.ref h0, .int a1, .int a2, .int a3, .int a4, .int a5, .int a6, .int a7]) ++ List.replicate (11 - (lg_sl ([.ref h0, .int a1, .int a2, .int a3, .int a4, .int a5, .int a6, .int a7])).length) Slot.unset).toArray = ls at hl ⊢
  have hl : lv_has ls 11 [(0, .ref h0), (1, .int a1), (2, .int a2), (3, .int a3), (4, .int a4), (5, .int a5), (6, .int a6), (7, .int a7)] := hl
  rw [hH0]
  refine lv_aload_n hx hb dX11_change_0 rfl (lv_at hl 0 rfl) ?_
  refine lv_iload_n hx hb dX11_change_1 rfl (lv_at hl 1 rfl) ?_
  have hPc := hP.sub (ws' := [(h0, .inr (12, [.ref fi, tca, .ref ea, .ref sl, tmx, tsv])), (fi, .inr (5, [fna, fla, fv2, fv3, fv4, fv5, .int 0])), (ea, .inl (tE, 2, .inr (.inr (.inr (.inr fE))))), (e0, .inr (4, [.int ei0, ev0_1, ev0_2, ev0_3, ev0_4, ev0_5, ev0_6, .ref ak0])), (e1, .inr (4, [.int ei1, ev1_1, ev1_2, ev1_3, ev1_4, ev1_5, ev1_6, .ref ak1])), (ak0, .inr (0, [.int am0, ae0, .int 0])), (ak1, .inr (0, [.int am1, ae1, .int 0])), (sl, .inr (0, [.int sm, se, .int 0]))]) [0, 1, 2, 3, 4, 5, 6, 7] rfl
  have hKc := hK.sub (tys' := [(tE, .object RX3)]) [0] rfl
  have hFc := freeNil hS hA
  refine vx_callq (vx_runV (As := [.int a1]) (rest := []) ⟨hx, hb, hml, hown, ht⟩ (k_X11_editorAt l hL d0 cO dC dI H.size h0 ea sl tca tmx tsv tE fE sm se fi fna fla fv2 fv3 fv4 fv5 e0 ak0 ei0 am0 ev0_1 ev0_2 ev0_3 ev0_4 ev0_5 ev0_6 ae0 e1 ak1 ei1 am1 ev1_1 ev1_2 ev1_3 ev1_4 ev1_5 ev1_6 ae1 hf0 hf1 a1) (my_V ht M_X11_editorAt q1259 q32 q1257 (Nat.le_of_ble_eq_true rfl) (Nat.le_of_ble_eq_true rfl)) ⟨PREp.fb, va_recv hK hP (ci := 12) (q0 := 0) rfl rfl, fun U hU hW => ⟨rfl, PREp.mk' hE hS hFc hPc hKc U hU hW⟩⟩ rfl rfl hl.1 rfl (lv_room (Nat.le_of_ble_eq_true rfl)) dX11_change_2 ⟨(Nat.le_of_ble_eq_true rfl), (Nat.le_of_ble_eq_true rfl)⟩) hS (fun q _ h => hFc q h) hFc (fun q _ h => hFc q h) (fun E ce q9 ux t H1 locs htt hvm hw hB hz1 hk1 hS hcell hv9 hcl9 => ?_) (fun r2 u1 t H1 locs htt hvm hw hB hz1 hk1 hS => ?_)
  · skip
    obtain rfl : E = _ := hB
    exact vx_out (fun x h => (hno x h).elim) hlocks hcell hv9 hcl9 (fun t9 ht9 hvm9 => ⟨(), trivial, rfl, ⟨by rw [ht9]; exact hS.1, fun q h1 h2 => by rw [ht9]; exact hS.2.1 q h1 h2⟩⟩) hS.2.2 (Nat.le_of_ble_eq_true rfl) (Nat.le_of_ble_eq_true rfl)
  · skip
    try dsimp only at hw hB
    have hP1 := hB
    rw [htt] at hP1
    have hP := keepAll hP hk1
    generalize H1 = H at hP hS ⊢
    have hP : va_P (dC, dI) vwCl [(h0, .inr (12, [.ref fi, tca, .ref ea, .ref sl, tmx, tsv])), (fi, .inr (5, [fna, fla, fv2, fv3, fv4, fv5, .int 0])), (ea, .inl (tE, 2, .inr (.inr (.inr (.inr fE))))), (e0, .inr (4, [.int ei0, ev0_1, ev0_2, ev0_3, ev0_4, ev0_5, ev0_6, .ref ak0])), (e1, .inr (4, [.int ei1, ev1_1, ev1_2, ev1_3, ev1_4, ev1_5, ev1_6, .ref ak1])), (ak0, .inr (0, [.int am0, ae0, .int 0])), (ak1, .inr (0, [.int am1, ae1, .int 0])), (sl, .inr (0, [.int sm, se, .int 0]))] H := hP
    have hK : va_K (dC, dI) vwCl [(tE, .object RX3)] s := hK
    refine W.widen (k := 1) (n := 6) (Nat.le_of_ble_eq_true rfl) (Nat.le_of_ble_eq_true rfl) ?_
    rcases hw with hw | hw
    · subst hw
      refine W.eq (g2 := F0 m 5 ls [.ref e0]) rfl ?_
      refine lv_astore (lv' := [(8, .ref e0), (0, .ref h0), (1, .int a1), (2, .int a2), (3, .int a3), (4, .int a4), (5, .int a5), (6, .int a6), (7, .int a7)]) hx hb dX11_change_5 hl (by decide) rfl (fun ls hl => ?_)
      refine lv_aload_n hx hb dX11_change_7 rfl (lv_at hl 1 rfl) ?_
      refine lv_iload_n hx hb dX11_change_8 rfl (lv_at hl 3 rfl) ?_
      have hPc := hP.sub (ws' := [(h0, .inr (12, [.ref fi, tca, .ref ea, .ref sl, tmx, tsv])), (fi, .inr (5, [fna, fla, fv2, fv3, fv4, fv5, .int 0]))]) [0, 1] rfl
      have hKc := hK.sub (tys' := []) [] rfl
      have hFc := freeNil hS hA
      refine vx_callv (vx_runV (As := [.int a2]) (rest := []) ⟨hx, hb, hml, hown, ht⟩ (k_X11_checkFile l hL d0 cO dC dI H.size h0 tca (.ref ea) (.ref sl) tmx tsv fi fna fla fv2 fv3 fv4 fv5 a2) (my_V ht M_X11_checkFile q1127 q30 q1125 (Nat.le_of_ble_eq_true rfl) (Nat.le_of_ble_eq_true rfl)) ⟨PREp.fb, va_recv hK hP (ci := 12) (q0 := 0) rfl rfl, fun U hU hW => ⟨rfl, PREp.mk' hE hS hFc hPc hKc U hU hW⟩⟩ rfl rfl hl.1 rfl (lv_room (Nat.le_of_ble_eq_true rfl)) dX11_change_9 ⟨(Nat.le_of_ble_eq_true rfl), (Nat.le_of_ble_eq_true rfl)⟩) hS (fun q _ h => hFc q h) hFc (fun q _ h => hFc q h) (fun E ce q9 ux t H1 locs htt hvm hw hB hz1 hk1 hS hcell hv9 hcl9 => ?_) (fun u3 t H1 locs htt hvm hw hB hz1 hk1 hS => ?_)
      · skip
        obtain rfl : E = _ := hB
        exact vx_out (fun x h => (hno x h).elim) hlocks hcell hv9 hcl9 (fun t9 ht9 hvm9 => ⟨(), trivial, rfl, ⟨by rw [ht9]; exact hS.1, fun q h1 h2 => by rw [ht9]; exact hS.2.1 q h1 h2⟩⟩) hS.2.2 (Nat.le_of_ble_eq_true rfl) (Nat.le_of_ble_eq_true rfl)
      · skip
        exact hw.elim
    · subst hw
      refine W.eq (g2 := F0 m 5 ls [.ref e1]) rfl ?_
      refine lv_astore (lv' := [(8, .ref e1), (0, .ref h0), (1, .int a1), (2, .int a2), (3, .int a3), (4, .int a4), (5, .int a5), (6, .int a6), (7, .int a7)]) hx hb dX11_change_5 hl (by decide) rfl (fun ls hl => ?_)
      refine lv_aload_n hx hb dX11_change_7 rfl (lv_at hl 1 rfl) ?_
      refine lv_iload_n hx hb dX11_change_8 rfl (lv_at hl 3 rfl) ?_
      have hPc := hP.sub (ws' := [(h0, .inr (12, [.ref fi, tca, .ref ea, .ref sl, tmx, tsv])), (fi, .inr (5, [fna, fla, fv2, fv3, fv4, fv5, .int 0]))]) [0, 1] rfl
      have hKc := hK.sub (tys' := []) [] rfl
      have hFc := freeNil hS hA
      refine vx_callv (vx_runV (As := [.int a2]) (rest := []) ⟨hx, hb, hml, hown, ht⟩ (k_X11_checkFile l hL d0 cO dC dI H.size h0 tca (.ref ea) (.ref sl) tmx tsv fi fna fla fv2 fv3 fv4 fv5 a2) (my_V ht M_X11_checkFile q1127 q30 q1125 (Nat.le_of_ble_eq_true rfl) (Nat.le_of_ble_eq_true rfl)) ⟨PREp.fb, va_recv hK hP (ci := 12) (q0 := 0) rfl rfl, fun U hU hW => ⟨rfl, PREp.mk' hE hS hFc hPc hKc U hU hW⟩⟩ rfl rfl hl.1 rfl (lv_room (Nat.le_of_ble_eq_true rfl)) dX11_change_9 ⟨(Nat.le_of_ble_eq_true rfl), (Nat.le_of_ble_eq_true rfl)⟩) hS (fun q _ h => hFc q h) hFc (fun q _ h => hFc q h) (fun E ce q9 ux t H1 locs htt hvm hw hB hz1 hk1 hS hcell hv9 hcl9 => ?_) (fun u5 t H1 locs htt hvm hw hB hz1 hk1 hS => ?_)
      · skip
        obtain rfl : E = _ := hB
        exact vx_out (fun x h => (hno x h).elim) hlocks hcell hv9 hcl9 (fun t9 ht9 hvm9 => ⟨(), trivial, rfl, ⟨by rw [ht9]; exact hS.1, fun q h1 h2 => by rw [ht9]; exact hS.2.1 q h1 h2⟩⟩) hS.2.2 (Nat.le_of_ble_eq_true rfl) (Nat.le_of_ble_eq_true rfl)
      · skip
        exact hw.elim
set_option maxHeartbeats 4000000 in
set_option maxRecDepth 100000 in
theorem k_X11_request (l : Launch) (hL : l.stackTraces = false) (d0 : Nat) (cO : ClassId) (dC : Nat → ClassId) (dI : Nat → Nat → Nat) (sz : Nat) (h0 ea sl : Nat) (tca tmx tsv : Value) (tE : ClassId) (fE : Nat → Option Nat) (sm : Int32) (se : Value) (fi : Nat) (fna fla fv2 fv3 fv4 fv5 : Value) (e0 ak0 : Nat) (ei0 am0 : Int32) (ev0_1 ev0_2 ev0_3 ev0_4 ev0_5 ev0_6 ae0 : Value) (e1 ak1 : Nat) (ei1 am1 : Int32) (ev1_1 ev1_2 ev1_3 ev1_4 ev1_5 ev1_6 ae1 : Value) (hf0 : fE 0 = some e0) (hf1 : fE 1 = some e1) (a1 a2 a3 a4 a5 a6 : Int32) : vx_Met l yX11_request (cn yX11_request cX11_request 9 (some FieldType.int)) (rmd 7 2 12) (va_Pc [.ref h0, .int a1, .int a2, .int a3, .int a4, .int a5, .int a6] (PREp d0 cO (dC, dI) (va_A [] sz) [(h0, .inr (12, [.ref fi, tca, .ref ea, .ref sl, tmx, tsv])), (fi, .inr (5, [fna, fla, fv2, fv3, fv4, fv5, .int 0])), (ea, .inl (tE, 2, .inr (.inr (.inr (.inr fE))))), (e0, .inr (4, [.int ei0, ev0_1, ev0_2, ev0_3, ev0_4, ev0_5, ev0_6, .ref ak0])), (e1, .inr (4, [.int ei1, ev1_1, ev1_2, ev1_3, ev1_4, ev1_5, ev1_6, .ref ak1])), (ak0, .inr (0, [.int am0, ae0, .int 0])), (ak1, .inr (0, [.int am1, ae1, .int 0])), (sl, .inr (0, [.int sm, se, .int 0]))] [(tE, .object RX3)] sz)) (va_Qi (fun (r : Int32) (_ : Unit) => False) (fun (_ : Unit) (t : State) => va_P (dC, dI) vwCl [] t.heap) (va_A [] sz)) (vx_X (fun _ : Unit => True) (fun E _ _ => E = "java/lang/IndexOutOfBoundsException") (va_A [] sz)) 2 12 (va_A [] sz) := by
  refine vx_ofW (cc := cX11_request) (maxL := 9) (ret := (some FieldType.int)) (by decide) rfl ?_
  intro p e s m args below meth c s₁ B hml hno hv
  obtain ⟨rfl, hsz, hE, hP, hK⟩ := hv
  have hx := B.exec
  have hb := B.bytes
  have hr := B.returns
  have hts := atoms_spec (ws := cn yX11_request cX11_request 9 (some FieldType.int)) B.pre
  have ht : ∀ w ∈ GT, w.before _ s = true := fun w h => hts w (List.mem_cons_of_mem _ h)
  have hown : s.vm.findClass RX11 = some m.cls := findClass_of_methodNamed B.named
  have hlocks := B.notSynchronized
  subst hsz
  generalize hAe : va_A [] s.heap.size = A at hE ⊢
  have hA : ∀ q : Nat, s.heap.size ≤ q → A q := fun q h => by rw [← hAe]; exact Or.inr h
  obtain ⟨H, hH0⟩ : ∃ H, s.heap = H := ⟨_, rfl⟩
  have hS : va_S A s.heap H [] := by rw [← hH0]; exact va_S.rf
  rw [hH0] at hP
  have hl := lv_entry ([.ref h0, .int a1, .int a2, .int a3, .int a4, .int a5, .int a6]) (n := 9) (Nat.le_of_ble_eq_true rfl)
  rw [lg_entry_eq]
  generalize (lg_sl ([.ref h0, .int a1, .int a2, .int a3, .int a4, .int a5, .int a6]) ++ List.replicate (9 - (lg_sl ([.ref h0, .int a1, .int a2, .int a3, .int a4, .int a5, .int a6])).length) Slot.unset).toArray = ls at hl ⊢
  have hl : lv_has ls 9 [(0, .ref h0), (1, .int a1), (2, .int a2), (3, .int a3), (4, .int a4), (5, .int a5), (6, .int a6)] := hl
  rw [hH0]
  refine lv_aload_n hx hb dX11_request_0 rfl (lv_at hl 0 rfl) ?_
  refine lv_iload_n hx hb dX11_request_1 rfl (lv_at hl 1 rfl) ?_
  have hPc := hP.sub (ws' := [(h0, .inr (12, [.ref fi, tca, .ref ea, .ref sl, tmx, tsv])), (fi, .inr (5, [fna, fla, fv2, fv3, fv4, fv5, .int 0])), (ea, .inl (tE, 2, .inr (.inr (.inr (.inr fE))))), (e0, .inr (4, [.int ei0, ev0_1, ev0_2, ev0_3, ev0_4, ev0_5, ev0_6, .ref ak0])), (e1, .inr (4, [.int ei1, ev1_1, ev1_2, ev1_3, ev1_4, ev1_5, ev1_6, .ref ak1])), (ak0, .inr (0, [.int am0, ae0, .int 0])), (ak1, .inr (0, [.int am1, ae1, .int 0])), (sl, .inr (0, [.int sm, se, .int 0]))]) [0, 1, 2, 3, 4, 5, 6, 7] rfl
  have hKc := hK.sub (tys' := [(tE, .object RX3)]) [0] rfl
  have hFc := freeNil hS hA
  refine vx_callq (vx_runV (As := [.int a1]) (rest := []) ⟨hx, hb, hml, hown, ht⟩ (k_X11_editorAt l hL d0 cO dC dI H.size h0 ea sl tca tmx tsv tE fE sm se fi fna fla fv2 fv3 fv4 fv5 e0 ak0 ei0 am0 ev0_1 ev0_2 ev0_3 ev0_4 ev0_5 ev0_6 ae0 e1 ak1 ei1 am1 ev1_1 ev1_2 ev1_3 ev1_4 ev1_5 ev1_6 ae1 hf0 hf1 a1) (my_V ht M_X11_editorAt q1259 q32 q1257 (Nat.le_of_ble_eq_true rfl) (Nat.le_of_ble_eq_true rfl)) ⟨PREp.fb, va_recv hK hP (ci := 12) (q0 := 0) rfl rfl, fun U hU hW => ⟨rfl, PREp.mk' hE hS hFc hPc hKc U hU hW⟩⟩ rfl rfl hl.1 rfl (lv_room (Nat.le_of_ble_eq_true rfl)) dX11_request_2 ⟨(Nat.le_of_ble_eq_true rfl), (Nat.le_of_ble_eq_true rfl)⟩) hS (fun q _ h => hFc q h) hFc (fun q _ h => hFc q h) (fun E ce q9 ux t H1 locs htt hvm hw hB hz1 hk1 hS hcell hv9 hcl9 => ?_) (fun r2 u1 t H1 locs htt hvm hw hB hz1 hk1 hS => ?_)
  · skip
    obtain rfl : E = _ := hB
    exact vx_out (fun x h => (hno x h).elim) hlocks hcell hv9 hcl9 (fun t9 ht9 hvm9 => ⟨(), trivial, rfl, ⟨by rw [ht9]; exact hS.1, fun q h1 h2 => by rw [ht9]; exact hS.2.1 q h1 h2⟩⟩) hS.2.2 (Nat.le_of_ble_eq_true rfl) (Nat.le_of_ble_eq_true rfl)
  · skip
    try dsimp only at hw hB
    have hP1 := hB
    rw [htt] at hP1
    have hP := keepAll hP hk1
    generalize H1 = H at hP hS ⊢
    have hP : va_P (dC, dI) vwCl [(h0, .inr (12, [.ref fi, tca, .ref ea, .ref sl, tmx, tsv])), (fi, .inr (5, [fna, fla, fv2, fv3, fv4, fv5, .int 0])), (ea, .inl (tE, 2, .inr (.inr (.inr (.inr fE))))), (e0, .inr (4, [.int ei0, ev0_1, ev0_2, ev0_3, ev0_4, ev0_5, ev0_6, .ref ak0])), (e1, .inr (4, [.int ei1, ev1_1, ev1_2, ev1_3, ev1_4, ev1_5, ev1_6, .ref ak1])), (ak0, .inr (0, [.int am0, ae0, .int 0])), (ak1, .inr (0, [.int am1, ae1, .int 0])), (sl, .inr (0, [.int sm, se, .int 0]))] H := hP
    have hK : va_K (dC, dI) vwCl [(tE, .object RX3)] s := hK
    refine W.widen (k := 1) (n := 6) (Nat.le_of_ble_eq_true rfl) (Nat.le_of_ble_eq_true rfl) ?_
    rcases hw with hw | hw
    · subst hw
      refine W.eq (g2 := F0 m 5 ls [.ref e0]) rfl ?_
      refine lv_astore (lv' := [(7, .ref e0), (0, .ref h0), (1, .int a1), (2, .int a2), (3, .int a3), (4, .int a4), (5, .int a5), (6, .int a6)]) hx hb dX11_request_5 hl (by decide) rfl (fun ls hl => ?_)
      refine lv_aload_n hx hb dX11_request_7 rfl (lv_at hl 1 rfl) ?_
      refine lv_iload_n hx hb dX11_request_8 rfl (lv_at hl 4 rfl) ?_
      have hPc := hP.sub (ws' := [(h0, .inr (12, [.ref fi, tca, .ref ea, .ref sl, tmx, tsv])), (fi, .inr (5, [fna, fla, fv2, fv3, fv4, fv5, .int 0]))]) [0, 1] rfl
      have hKc := hK.sub (tys' := []) [] rfl
      have hFc := freeNil hS hA
      refine vx_callv (vx_runV (As := [.int a3]) (rest := []) ⟨hx, hb, hml, hown, ht⟩ (k_X11_checkFile l hL d0 cO dC dI H.size h0 tca (.ref ea) (.ref sl) tmx tsv fi fna fla fv2 fv3 fv4 fv5 a3) (my_V ht M_X11_checkFile q1127 q30 q1125 (Nat.le_of_ble_eq_true rfl) (Nat.le_of_ble_eq_true rfl)) ⟨PREp.fb, va_recv hK hP (ci := 12) (q0 := 0) rfl rfl, fun U hU hW => ⟨rfl, PREp.mk' hE hS hFc hPc hKc U hU hW⟩⟩ rfl rfl hl.1 rfl (lv_room (Nat.le_of_ble_eq_true rfl)) dX11_request_9 ⟨(Nat.le_of_ble_eq_true rfl), (Nat.le_of_ble_eq_true rfl)⟩) hS (fun q _ h => hFc q h) hFc (fun q _ h => hFc q h) (fun E ce q9 ux t H1 locs htt hvm hw hB hz1 hk1 hS hcell hv9 hcl9 => ?_) (fun u3 t H1 locs htt hvm hw hB hz1 hk1 hS => ?_)
      · skip
        obtain rfl : E = _ := hB
        exact vx_out (fun x h => (hno x h).elim) hlocks hcell hv9 hcl9 (fun t9 ht9 hvm9 => ⟨(), trivial, rfl, ⟨by rw [ht9]; exact hS.1, fun q h1 h2 => by rw [ht9]; exact hS.2.1 q h1 h2⟩⟩) hS.2.2 (Nat.le_of_ble_eq_true rfl) (Nat.le_of_ble_eq_true rfl)
      · skip
        exact hw.elim
    · subst hw
      refine W.eq (g2 := F0 m 5 ls [.ref e1]) rfl ?_
      refine lv_astore (lv' := [(7, .ref e1), (0, .ref h0), (1, .int a1), (2, .int a2), (3, .int a3), (4, .int a4), (5, .int a5), (6, .int a6)]) hx hb dX11_request_5 hl (by decide) rfl (fun ls hl => ?_)
      refine lv_aload_n hx hb dX11_request_7 rfl (lv_at hl 1 rfl) ?_
      refine lv_iload_n hx hb dX11_request_8 rfl (lv_at hl 4 rfl) ?_
      have hPc := hP.sub (ws' := [(h0, .inr (12, [.ref fi, tca, .ref ea, .ref sl, tmx, tsv])), (fi, .inr (5, [fna, fla, fv2, fv3, fv4, fv5, .int 0]))]) [0, 1] rfl
      have hKc := hK.sub (tys' := []) [] rfl
      have hFc := freeNil hS hA
      refine vx_callv (vx_runV (As := [.int a3]) (rest := []) ⟨hx, hb, hml, hown, ht⟩ (k_X11_checkFile l hL d0 cO dC dI H.size h0 tca (.ref ea) (.ref sl) tmx tsv fi fna fla fv2 fv3 fv4 fv5 a3) (my_V ht M_X11_checkFile q1127 q30 q1125 (Nat.le_of_ble_eq_true rfl) (Nat.le_of_ble_eq_true rfl)) ⟨PREp.fb, va_recv hK hP (ci := 12) (q0 := 0) rfl rfl, fun U hU hW => ⟨rfl, PREp.mk' hE hS hFc hPc hKc U hU hW⟩⟩ rfl rfl hl.1 rfl (lv_room (Nat.le_of_ble_eq_true rfl)) dX11_request_9 ⟨(Nat.le_of_ble_eq_true rfl), (Nat.le_of_ble_eq_true rfl)⟩) hS (fun q _ h => hFc q h) hFc (fun q _ h => hFc q h) (fun E ce q9 ux t H1 locs htt hvm hw hB hz1 hk1 hS hcell hv9 hcl9 => ?_) (fun u5 t H1 locs htt hvm hw hB hz1 hk1 hS => ?_)
      · skip
        obtain rfl : E = _ := hB
        exact vx_out (fun x h => (hno x h).elim) hlocks hcell hv9 hcl9 (fun t9 ht9 hvm9 => ⟨(), trivial, rfl, ⟨by rw [ht9]; exact hS.1, fun q h1 h2 => by rw [ht9]; exact hS.2.1 q h1 h2⟩⟩) hS.2.2 (Nat.le_of_ble_eq_true rfl) (Nat.le_of_ble_eq_true rfl)
      · skip
        exact hw.elim
set_option maxHeartbeats 4000000 in
set_option maxRecDepth 100000 in
theorem k_X11_cancel (l : Launch) (hL : l.stackTraces = false) (d0 : Nat) (cO : ClassId) (dC : Nat → ClassId) (dI : Nat → Nat → Nat) (sz : Nat) (h0 ea sl : Nat) (tca tmx tsv : Value) (tE : ClassId) (fE : Nat → Option Nat) (sm : Int32) (se : Value) (fi : Nat) (fna fla fv2 fv3 fv4 fv5 : Value) (e0 ak0 : Nat) (ei0 am0 : Int32) (ev0_1 ev0_2 ev0_3 ev0_4 ev0_5 ev0_6 ae0 : Value) (e1 ak1 : Nat) (ei1 am1 : Int32) (ev1_1 ev1_2 ev1_3 ev1_4 ev1_5 ev1_6 ae1 : Value) (hf0 : fE 0 = some e0) (hf1 : fE 1 = some e1) (a1 a2 : Int32) : vx_Met l yX11_cancel (cn yX11_cancel cX11_cancel 5 none) (rmd 7 2 12) (va_Pc [.ref h0, .int a1, .int a2] (PREp d0 cO (dC, dI) (va_A [] sz) [(h0, .inr (12, [.ref fi, tca, .ref ea, .ref sl, tmx, tsv])), (fi, .inr (5, [fna, fla, fv2, fv3, fv4, fv5, .int 0])), (ea, .inl (tE, 2, .inr (.inr (.inr (.inr fE))))), (e0, .inr (4, [.int ei0, ev0_1, ev0_2, ev0_3, ev0_4, ev0_5, ev0_6, .ref ak0])), (e1, .inr (4, [.int ei1, ev1_1, ev1_2, ev1_3, ev1_4, ev1_5, ev1_6, .ref ak1])), (ak0, .inr (0, [.int am0, ae0, .int 0])), (ak1, .inr (0, [.int am1, ae1, .int 0])), (sl, .inr (0, [.int sm, se, .int 0]))] [(tE, .object RX3)] sz)) (va_Qv (fun (_ : Unit) => False) (fun (_ : Unit) (t : State) => va_P (dC, dI) vwCl [] t.heap) (va_A [] sz)) (vx_X (fun _ : Unit => True) (fun E _ _ => E = "java/lang/IndexOutOfBoundsException") (va_A [] sz)) 2 12 (va_A [] sz) := by
  refine vx_ofW (cc := cX11_cancel) (maxL := 5) (ret := none) (by decide) rfl ?_
  intro p e s m args below meth c s₁ B hml hno hv
  obtain ⟨rfl, hsz, hE, hP, hK⟩ := hv
  have hx := B.exec
  have hb := B.bytes
  have hr := B.returns
  have hts := atoms_spec (ws := cn yX11_cancel cX11_cancel 5 none) B.pre
  have ht : ∀ w ∈ GT, w.before _ s = true := fun w h => hts w (List.mem_cons_of_mem _ h)
  have hown : s.vm.findClass RX11 = some m.cls := findClass_of_methodNamed B.named
  have hlocks := B.notSynchronized
  subst hsz
  generalize hAe : va_A [] s.heap.size = A at hE ⊢
  have hA : ∀ q : Nat, s.heap.size ≤ q → A q := fun q h => by rw [← hAe]; exact Or.inr h
  obtain ⟨H, hH0⟩ : ∃ H, s.heap = H := ⟨_, rfl⟩
  have hS : va_S A s.heap H [] := by rw [← hH0]; exact va_S.rf
  rw [hH0] at hP
  have hl := lv_entry ([.ref h0, .int a1, .int a2]) (n := 5) (Nat.le_of_ble_eq_true rfl)
  rw [lg_entry_eq]
  generalize (lg_sl ([.ref h0, .int a1, .int a2]) ++ List.replicate (5 - (lg_sl ([.ref h0, .int a1, .int a2])).length) Slot.unset).toArray = ls at hl ⊢
  have hl : lv_has ls 5 [(0, .ref h0), (1, .int a1), (2, .int a2)] := hl
  rw [hH0]
  refine lv_aload_n hx hb dX11_cancel_0 rfl (lv_at hl 0 rfl) ?_
  refine lv_iload_n hx hb dX11_cancel_1 rfl (lv_at hl 1 rfl) ?_
  have hPc := hP.sub (ws' := [(h0, .inr (12, [.ref fi, tca, .ref ea, .ref sl, tmx, tsv])), (fi, .inr (5, [fna, fla, fv2, fv3, fv4, fv5, .int 0])), (ea, .inl (tE, 2, .inr (.inr (.inr (.inr fE))))), (e0, .inr (4, [.int ei0, ev0_1, ev0_2, ev0_3, ev0_4, ev0_5, ev0_6, .ref ak0])), (e1, .inr (4, [.int ei1, ev1_1, ev1_2, ev1_3, ev1_4, ev1_5, ev1_6, .ref ak1])), (ak0, .inr (0, [.int am0, ae0, .int 0])), (ak1, .inr (0, [.int am1, ae1, .int 0])), (sl, .inr (0, [.int sm, se, .int 0]))]) [0, 1, 2, 3, 4, 5, 6, 7] rfl
  have hKc := hK.sub (tys' := [(tE, .object RX3)]) [0] rfl
  have hFc := freeNil hS hA
  refine vx_callq (vx_runV (As := [.int a1]) (rest := []) ⟨hx, hb, hml, hown, ht⟩ (k_X11_editorAt l hL d0 cO dC dI H.size h0 ea sl tca tmx tsv tE fE sm se fi fna fla fv2 fv3 fv4 fv5 e0 ak0 ei0 am0 ev0_1 ev0_2 ev0_3 ev0_4 ev0_5 ev0_6 ae0 e1 ak1 ei1 am1 ev1_1 ev1_2 ev1_3 ev1_4 ev1_5 ev1_6 ae1 hf0 hf1 a1) (my_V ht M_X11_editorAt q1259 q32 q1257 (Nat.le_of_ble_eq_true rfl) (Nat.le_of_ble_eq_true rfl)) ⟨PREp.fb, va_recv hK hP (ci := 12) (q0 := 0) rfl rfl, fun U hU hW => ⟨rfl, PREp.mk' hE hS hFc hPc hKc U hU hW⟩⟩ rfl rfl hl.1 rfl (lv_room (Nat.le_of_ble_eq_true rfl)) dX11_cancel_2 ⟨(Nat.le_of_ble_eq_true rfl), (Nat.le_of_ble_eq_true rfl)⟩) hS (fun q _ h => hFc q h) hFc (fun q _ h => hFc q h) (fun E ce q9 ux t H1 locs htt hvm hw hB hz1 hk1 hS hcell hv9 hcl9 => ?_) (fun r2 u1 t H1 locs htt hvm hw hB hz1 hk1 hS => ?_)
  · skip
    obtain rfl : E = _ := hB
    exact vx_out (fun x h => (hno x h).elim) hlocks hcell hv9 hcl9 (fun t9 ht9 hvm9 => ⟨(), trivial, rfl, ⟨by rw [ht9]; exact hS.1, fun q h1 h2 => by rw [ht9]; exact hS.2.1 q h1 h2⟩⟩) hS.2.2 (Nat.le_of_ble_eq_true rfl) (Nat.le_of_ble_eq_true rfl)
  · skip
    try dsimp only at hw hB
    have hP1 := hB
    rw [htt] at hP1
    have hP := keepAll hP hk1
    generalize H1 = H at hP hS ⊢
    have hP : va_P (dC, dI) vwCl [(h0, .inr (12, [.ref fi, tca, .ref ea, .ref sl, tmx, tsv])), (fi, .inr (5, [fna, fla, fv2, fv3, fv4, fv5, .int 0])), (ea, .inl (tE, 2, .inr (.inr (.inr (.inr fE))))), (e0, .inr (4, [.int ei0, ev0_1, ev0_2, ev0_3, ev0_4, ev0_5, ev0_6, .ref ak0])), (e1, .inr (4, [.int ei1, ev1_1, ev1_2, ev1_3, ev1_4, ev1_5, ev1_6, .ref ak1])), (ak0, .inr (0, [.int am0, ae0, .int 0])), (ak1, .inr (0, [.int am1, ae1, .int 0])), (sl, .inr (0, [.int sm, se, .int 0]))] H := hP
    have hK : va_K (dC, dI) vwCl [(tE, .object RX3)] s := hK
    refine W.widen (k := 1) (n := 6) (Nat.le_of_ble_eq_true rfl) (Nat.le_of_ble_eq_true rfl) ?_
    rcases hw with hw | hw
    · subst hw
      refine W.eq (g2 := F0 m 5 ls [.ref e0]) rfl ?_
      refine lv_astore_n (lv' := [(3, .ref e0), (0, .ref h0), (1, .int a1), (2, .int a2)]) hx hb dX11_cancel_5 rfl hl (by decide) rfl (fun ls hl => ?_)
      refine lv_aload_n hx hb dX11_cancel_6 rfl (lv_at hl 1 rfl) ?_
      refine lv_aload_n hx hb dX11_cancel_7 rfl (lv_at hl 0 rfl) ?_
      refine lv_iload_n hx hb dX11_cancel_8 rfl (lv_at hl 3 rfl) ?_
      have hPc := hP.sub (ws' := [(h0, .inr (12, [.ref fi, tca, .ref ea, .ref sl, tmx, tsv])), (e0, .inr (4, [.int ei0, ev0_1, ev0_2, ev0_3, ev0_4, ev0_5, ev0_6, .ref ak0])), (ak0, .inr (0, [.int am0, ae0, .int 0]))]) [0, 3, 5] rfl
      have hKc := hK.sub (tys' := []) [] rfl
      have hFc := freeNil hS hA
      refine vx_callq (vx_runV (As := [.ref e0, .int a2]) (rest := []) ⟨hx, hb, hml, hown, ht⟩ (k_X11_askAt l hL d0 cO dC dI H.size h0 (.ref fi) tca (.ref ea) (.ref sl) tmx tsv e0 ak0 ei0 am0 ev0_1 ev0_2 ev0_3 ev0_4 ev0_5 ev0_6 ae0 a2) (my_V ht M_X11_askAt q1403 q36 q1401 (Nat.le_of_ble_eq_true rfl) (Nat.le_of_ble_eq_true rfl)) ⟨PREp.fb, va_recv hK hP (ci := 12) (q0 := 0) rfl rfl, fun U hU hW => ⟨rfl, PREp.mk' hE hS hFc hPc hKc U hU hW⟩⟩ rfl rfl hl.1 rfl (lv_room (Nat.le_of_ble_eq_true rfl)) dX11_cancel_9 ⟨(Nat.le_of_ble_eq_true rfl), (Nat.le_of_ble_eq_true rfl)⟩) hS (fun q _ h => hFc q h) hFc (fun q _ h => hFc q h) (fun E ce q9 ux t H1 locs htt hvm hw hB hz1 hk1 hS hcell hv9 hcl9 => ?_) (fun r4 u3 t H1 locs htt hvm hw hB hz1 hk1 hS => ?_)
      · skip
        obtain rfl : E = _ := hB
        exact vx_out (fun x h => (hno x h).elim) hlocks hcell hv9 hcl9 (fun t9 ht9 hvm9 => ⟨(), trivial, rfl, ⟨by rw [ht9]; exact hS.1, fun q h1 h2 => by rw [ht9]; exact hS.2.1 q h1 h2⟩⟩) hS.2.2 (Nat.le_of_ble_eq_true rfl) (Nat.le_of_ble_eq_true rfl)
      · skip
        exact hw.elim
    · subst hw
      refine W.eq (g2 := F0 m 5 ls [.ref e1]) rfl ?_
      refine lv_astore_n (lv' := [(3, .ref e1), (0, .ref h0), (1, .int a1), (2, .int a2)]) hx hb dX11_cancel_5 rfl hl (by decide) rfl (fun ls hl => ?_)
      refine lv_aload_n hx hb dX11_cancel_6 rfl (lv_at hl 1 rfl) ?_
      refine lv_aload_n hx hb dX11_cancel_7 rfl (lv_at hl 0 rfl) ?_
      refine lv_iload_n hx hb dX11_cancel_8 rfl (lv_at hl 3 rfl) ?_
      have hPc := hP.sub (ws' := [(h0, .inr (12, [.ref fi, tca, .ref ea, .ref sl, tmx, tsv])), (e1, .inr (4, [.int ei1, ev1_1, ev1_2, ev1_3, ev1_4, ev1_5, ev1_6, .ref ak1])), (ak1, .inr (0, [.int am1, ae1, .int 0]))]) [0, 4, 6] rfl
      have hKc := hK.sub (tys' := []) [] rfl
      have hFc := freeNil hS hA
      refine vx_callq (vx_runV (As := [.ref e1, .int a2]) (rest := []) ⟨hx, hb, hml, hown, ht⟩ (k_X11_askAt l hL d0 cO dC dI H.size h0 (.ref fi) tca (.ref ea) (.ref sl) tmx tsv e1 ak1 ei1 am1 ev1_1 ev1_2 ev1_3 ev1_4 ev1_5 ev1_6 ae1 a2) (my_V ht M_X11_askAt q1403 q36 q1401 (Nat.le_of_ble_eq_true rfl) (Nat.le_of_ble_eq_true rfl)) ⟨PREp.fb, va_recv hK hP (ci := 12) (q0 := 0) rfl rfl, fun U hU hW => ⟨rfl, PREp.mk' hE hS hFc hPc hKc U hU hW⟩⟩ rfl rfl hl.1 rfl (lv_room (Nat.le_of_ble_eq_true rfl)) dX11_cancel_9 ⟨(Nat.le_of_ble_eq_true rfl), (Nat.le_of_ble_eq_true rfl)⟩) hS (fun q _ h => hFc q h) hFc (fun q _ h => hFc q h) (fun E ce q9 ux t H1 locs htt hvm hw hB hz1 hk1 hS hcell hv9 hcl9 => ?_) (fun r6 u5 t H1 locs htt hvm hw hB hz1 hk1 hS => ?_)
      · skip
        obtain rfl : E = _ := hB
        exact vx_out (fun x h => (hno x h).elim) hlocks hcell hv9 hcl9 (fun t9 ht9 hvm9 => ⟨(), trivial, rfl, ⟨by rw [ht9]; exact hS.1, fun q h1 h2 => by rw [ht9]; exact hS.2.1 q h1 h2⟩⟩) hS.2.2 (Nat.le_of_ble_eq_true rfl) (Nat.le_of_ble_eq_true rfl)
      · skip
        exact hw.elim
set_option maxHeartbeats 4000000 in
set_option maxRecDepth 100000 in
theorem k_X11_apply (l : Launch) (hL : l.stackTraces = false) (d0 : Nat) (cO : ClassId) (dC : Nat → ClassId) (dI : Nat → Nat → Nat) (sz : Nat) (h0 ea sl : Nat) (tca tmx tsv : Value) (tE : ClassId) (fE : Nat → Option Nat) (sm : Int32) (se : Value) (fi : Nat) (fna fla fv2 fv3 fv4 fv5 : Value) (e0 ak0 : Nat) (ei0 am0 : Int32) (ev0_1 ev0_2 ev0_3 ev0_4 ev0_5 ev0_6 ae0 : Value) (e1 ak1 : Nat) (ei1 am1 : Int32) (ev1_1 ev1_2 ev1_3 ev1_4 ev1_5 ev1_6 ae1 : Value) (hf0 : fE 0 = some e0) (hf1 : fE 1 = some e1) (a1 a2 : Int32) : vx_Met l yX11_apply (cn yX11_apply cX11_apply 5 (some FieldType.int)) (rmd 7 2 12) (va_Pc [.ref h0, .int a1, .int a2] (PREp d0 cO (dC, dI) (va_A [] sz) [(h0, .inr (12, [.ref fi, tca, .ref ea, .ref sl, tmx, tsv])), (fi, .inr (5, [fna, fla, fv2, fv3, fv4, fv5, .int 0])), (ea, .inl (tE, 2, .inr (.inr (.inr (.inr fE))))), (e0, .inr (4, [.int ei0, ev0_1, ev0_2, ev0_3, ev0_4, ev0_5, ev0_6, .ref ak0])), (e1, .inr (4, [.int ei1, ev1_1, ev1_2, ev1_3, ev1_4, ev1_5, ev1_6, .ref ak1])), (ak0, .inr (0, [.int am0, ae0, .int 0])), (ak1, .inr (0, [.int am1, ae1, .int 0])), (sl, .inr (0, [.int sm, se, .int 0]))] [(tE, .object RX3)] sz)) (va_Qi (fun (r : Int32) (_ : Unit) => False) (fun (_ : Unit) (t : State) => va_P (dC, dI) vwCl [] t.heap) (va_A [] sz)) (vx_X (fun _ : Unit => True) (fun E _ _ => E = "java/lang/IndexOutOfBoundsException") (va_A [] sz)) 2 12 (va_A [] sz) := by
  refine vx_ofW (cc := cX11_apply) (maxL := 5) (ret := (some FieldType.int)) (by decide) rfl ?_
  intro p e s m args below meth c s₁ B hml hno hv
  obtain ⟨rfl, hsz, hE, hP, hK⟩ := hv
  have hx := B.exec
  have hb := B.bytes
  have hr := B.returns
  have hts := atoms_spec (ws := cn yX11_apply cX11_apply 5 (some FieldType.int)) B.pre
  have ht : ∀ w ∈ GT, w.before _ s = true := fun w h => hts w (List.mem_cons_of_mem _ h)
  have hown : s.vm.findClass RX11 = some m.cls := findClass_of_methodNamed B.named
  have hlocks := B.notSynchronized
  subst hsz
  generalize hAe : va_A [] s.heap.size = A at hE ⊢
  have hA : ∀ q : Nat, s.heap.size ≤ q → A q := fun q h => by rw [← hAe]; exact Or.inr h
  obtain ⟨H, hH0⟩ : ∃ H, s.heap = H := ⟨_, rfl⟩
  have hS : va_S A s.heap H [] := by rw [← hH0]; exact va_S.rf
  rw [hH0] at hP
  have hl := lv_entry ([.ref h0, .int a1, .int a2]) (n := 5) (Nat.le_of_ble_eq_true rfl)
  rw [lg_entry_eq]
  generalize (lg_sl ([.ref h0, .int a1, .int a2]) ++ List.replicate (5 - (lg_sl ([.ref h0, .int a1, .int a2])).length) Slot.unset).toArray = ls at hl ⊢
  have hl : lv_has ls 5 [(0, .ref h0), (1, .int a1), (2, .int a2)] := hl
  rw [hH0]
  refine lv_aload_n hx hb dX11_apply_0 rfl (lv_at hl 0 rfl) ?_
  refine lv_iload_n hx hb dX11_apply_1 rfl (lv_at hl 1 rfl) ?_
  have hPc := hP.sub (ws' := [(h0, .inr (12, [.ref fi, tca, .ref ea, .ref sl, tmx, tsv])), (fi, .inr (5, [fna, fla, fv2, fv3, fv4, fv5, .int 0])), (ea, .inl (tE, 2, .inr (.inr (.inr (.inr fE))))), (e0, .inr (4, [.int ei0, ev0_1, ev0_2, ev0_3, ev0_4, ev0_5, ev0_6, .ref ak0])), (e1, .inr (4, [.int ei1, ev1_1, ev1_2, ev1_3, ev1_4, ev1_5, ev1_6, .ref ak1])), (ak0, .inr (0, [.int am0, ae0, .int 0])), (ak1, .inr (0, [.int am1, ae1, .int 0])), (sl, .inr (0, [.int sm, se, .int 0]))]) [0, 1, 2, 3, 4, 5, 6, 7] rfl
  have hKc := hK.sub (tys' := [(tE, .object RX3)]) [0] rfl
  have hFc := freeNil hS hA
  refine vx_callq (vx_runV (As := [.int a1]) (rest := []) ⟨hx, hb, hml, hown, ht⟩ (k_X11_editorAt l hL d0 cO dC dI H.size h0 ea sl tca tmx tsv tE fE sm se fi fna fla fv2 fv3 fv4 fv5 e0 ak0 ei0 am0 ev0_1 ev0_2 ev0_3 ev0_4 ev0_5 ev0_6 ae0 e1 ak1 ei1 am1 ev1_1 ev1_2 ev1_3 ev1_4 ev1_5 ev1_6 ae1 hf0 hf1 a1) (my_V ht M_X11_editorAt q1259 q32 q1257 (Nat.le_of_ble_eq_true rfl) (Nat.le_of_ble_eq_true rfl)) ⟨PREp.fb, va_recv hK hP (ci := 12) (q0 := 0) rfl rfl, fun U hU hW => ⟨rfl, PREp.mk' hE hS hFc hPc hKc U hU hW⟩⟩ rfl rfl hl.1 rfl (lv_room (Nat.le_of_ble_eq_true rfl)) dX11_apply_2 ⟨(Nat.le_of_ble_eq_true rfl), (Nat.le_of_ble_eq_true rfl)⟩) hS (fun q _ h => hFc q h) hFc (fun q _ h => hFc q h) (fun E ce q9 ux t H1 locs htt hvm hw hB hz1 hk1 hS hcell hv9 hcl9 => ?_) (fun r2 u1 t H1 locs htt hvm hw hB hz1 hk1 hS => ?_)
  · skip
    obtain rfl : E = _ := hB
    exact vx_out (fun x h => (hno x h).elim) hlocks hcell hv9 hcl9 (fun t9 ht9 hvm9 => ⟨(), trivial, rfl, ⟨by rw [ht9]; exact hS.1, fun q h1 h2 => by rw [ht9]; exact hS.2.1 q h1 h2⟩⟩) hS.2.2 (Nat.le_of_ble_eq_true rfl) (Nat.le_of_ble_eq_true rfl)
  · skip
    try dsimp only at hw hB
    have hP1 := hB
    rw [htt] at hP1
    have hP := keepAll hP hk1
    generalize H1 = H at hP hS ⊢
    have hP : va_P (dC, dI) vwCl [(h0, .inr (12, [.ref fi, tca, .ref ea, .ref sl, tmx, tsv])), (fi, .inr (5, [fna, fla, fv2, fv3, fv4, fv5, .int 0])), (ea, .inl (tE, 2, .inr (.inr (.inr (.inr fE))))), (e0, .inr (4, [.int ei0, ev0_1, ev0_2, ev0_3, ev0_4, ev0_5, ev0_6, .ref ak0])), (e1, .inr (4, [.int ei1, ev1_1, ev1_2, ev1_3, ev1_4, ev1_5, ev1_6, .ref ak1])), (ak0, .inr (0, [.int am0, ae0, .int 0])), (ak1, .inr (0, [.int am1, ae1, .int 0])), (sl, .inr (0, [.int sm, se, .int 0]))] H := hP
    have hK : va_K (dC, dI) vwCl [(tE, .object RX3)] s := hK
    refine W.widen (k := 1) (n := 6) (Nat.le_of_ble_eq_true rfl) (Nat.le_of_ble_eq_true rfl) ?_
    rcases hw with hw | hw
    · subst hw
      refine W.eq (g2 := F0 m 5 ls [.ref e0]) rfl ?_
      refine lv_astore_n (lv' := [(3, .ref e0), (0, .ref h0), (1, .int a1), (2, .int a2)]) hx hb dX11_apply_5 rfl hl (by decide) rfl (fun ls hl => ?_)
      refine lv_aload_n hx hb dX11_apply_6 rfl (lv_at hl 1 rfl) ?_
      refine lv_aload_n hx hb dX11_apply_7 rfl (lv_at hl 0 rfl) ?_
      refine lv_iload_n hx hb dX11_apply_8 rfl (lv_at hl 3 rfl) ?_
      have hPc := hP.sub (ws' := [(h0, .inr (12, [.ref fi, tca, .ref ea, .ref sl, tmx, tsv])), (e0, .inr (4, [.int ei0, ev0_1, ev0_2, ev0_3, ev0_4, ev0_5, ev0_6, .ref ak0])), (ak0, .inr (0, [.int am0, ae0, .int 0]))]) [0, 3, 5] rfl
      have hKc := hK.sub (tys' := []) [] rfl
      have hFc := freeNil hS hA
      refine vx_callq (vx_runV (As := [.ref e0, .int a2]) (rest := []) ⟨hx, hb, hml, hown, ht⟩ (k_X11_askAt l hL d0 cO dC dI H.size h0 (.ref fi) tca (.ref ea) (.ref sl) tmx tsv e0 ak0 ei0 am0 ev0_1 ev0_2 ev0_3 ev0_4 ev0_5 ev0_6 ae0 a2) (my_V ht M_X11_askAt q1403 q36 q1401 (Nat.le_of_ble_eq_true rfl) (Nat.le_of_ble_eq_true rfl)) ⟨PREp.fb, va_recv hK hP (ci := 12) (q0 := 0) rfl rfl, fun U hU hW => ⟨rfl, PREp.mk' hE hS hFc hPc hKc U hU hW⟩⟩ rfl rfl hl.1 rfl (lv_room (Nat.le_of_ble_eq_true rfl)) dX11_apply_9 ⟨(Nat.le_of_ble_eq_true rfl), (Nat.le_of_ble_eq_true rfl)⟩) hS (fun q _ h => hFc q h) hFc (fun q _ h => hFc q h) (fun E ce q9 ux t H1 locs htt hvm hw hB hz1 hk1 hS hcell hv9 hcl9 => ?_) (fun r4 u3 t H1 locs htt hvm hw hB hz1 hk1 hS => ?_)
      · skip
        obtain rfl : E = _ := hB
        exact vx_out (fun x h => (hno x h).elim) hlocks hcell hv9 hcl9 (fun t9 ht9 hvm9 => ⟨(), trivial, rfl, ⟨by rw [ht9]; exact hS.1, fun q h1 h2 => by rw [ht9]; exact hS.2.1 q h1 h2⟩⟩) hS.2.2 (Nat.le_of_ble_eq_true rfl) (Nat.le_of_ble_eq_true rfl)
      · skip
        exact hw.elim
    · subst hw
      refine W.eq (g2 := F0 m 5 ls [.ref e1]) rfl ?_
      refine lv_astore_n (lv' := [(3, .ref e1), (0, .ref h0), (1, .int a1), (2, .int a2)]) hx hb dX11_apply_5 rfl hl (by decide) rfl (fun ls hl => ?_)
      refine lv_aload_n hx hb dX11_apply_6 rfl (lv_at hl 1 rfl) ?_
      refine lv_aload_n hx hb dX11_apply_7 rfl (lv_at hl 0 rfl) ?_
      refine lv_iload_n hx hb dX11_apply_8 rfl (lv_at hl 3 rfl) ?_
      have hPc := hP.sub (ws' := [(h0, .inr (12, [.ref fi, tca, .ref ea, .ref sl, tmx, tsv])), (e1, .inr (4, [.int ei1, ev1_1, ev1_2, ev1_3, ev1_4, ev1_5, ev1_6, .ref ak1])), (ak1, .inr (0, [.int am1, ae1, .int 0]))]) [0, 4, 6] rfl
      have hKc := hK.sub (tys' := []) [] rfl
      have hFc := freeNil hS hA
      refine vx_callq (vx_runV (As := [.ref e1, .int a2]) (rest := []) ⟨hx, hb, hml, hown, ht⟩ (k_X11_askAt l hL d0 cO dC dI H.size h0 (.ref fi) tca (.ref ea) (.ref sl) tmx tsv e1 ak1 ei1 am1 ev1_1 ev1_2 ev1_3 ev1_4 ev1_5 ev1_6 ae1 a2) (my_V ht M_X11_askAt q1403 q36 q1401 (Nat.le_of_ble_eq_true rfl) (Nat.le_of_ble_eq_true rfl)) ⟨PREp.fb, va_recv hK hP (ci := 12) (q0 := 0) rfl rfl, fun U hU hW => ⟨rfl, PREp.mk' hE hS hFc hPc hKc U hU hW⟩⟩ rfl rfl hl.1 rfl (lv_room (Nat.le_of_ble_eq_true rfl)) dX11_apply_9 ⟨(Nat.le_of_ble_eq_true rfl), (Nat.le_of_ble_eq_true rfl)⟩) hS (fun q _ h => hFc q h) hFc (fun q _ h => hFc q h) (fun E ce q9 ux t H1 locs htt hvm hw hB hz1 hk1 hS hcell hv9 hcl9 => ?_) (fun r6 u5 t H1 locs htt hvm hw hB hz1 hk1 hS => ?_)
      · skip
        obtain rfl : E = _ := hB
        exact vx_out (fun x h => (hno x h).elim) hlocks hcell hv9 hcl9 (fun t9 ht9 hvm9 => ⟨(), trivial, rfl, ⟨by rw [ht9]; exact hS.1, fun q h1 h2 => by rw [ht9]; exact hS.2.1 q h1 h2⟩⟩) hS.2.2 (Nat.le_of_ble_eq_true rfl) (Nat.le_of_ble_eq_true rfl)
      · skip
        exact hw.elim
set_option maxHeartbeats 4000000 in
set_option maxRecDepth 100000 in
theorem k_X11_answer (l : Launch) (hL : l.stackTraces = false) (d0 : Nat) (cO : ClassId) (dC : Nat → ClassId) (dI : Nat → Nat → Nat) (sz : Nat) (h0 ea sl : Nat) (tca tmx tsv : Value) (tE : ClassId) (fE : Nat → Option Nat) (sm : Int32) (se : Value) (fi : Nat) (fna fla fv2 fv3 fv4 fv5 : Value) (e0 ak0 : Nat) (ei0 am0 : Int32) (ev0_1 ev0_2 ev0_3 ev0_4 ev0_5 ev0_6 ae0 : Value) (e1 ak1 : Nat) (ei1 am1 : Int32) (ev1_1 ev1_2 ev1_3 ev1_4 ev1_5 ev1_6 ae1 : Value) (hf0 : fE 0 = some e0) (hf1 : fE 1 = some e1) (a1 a2 : Int32) : vx_Met l yX11_answer (cn yX11_answer cX11_answer 5 (some FieldType.int)) (rmd 7 1 6) (va_Pc [.ref h0, .int a1, .int a2] (PREp d0 cO (dC, dI) (va_A [] sz) [(h0, .inr (12, [.ref fi, tca, .ref ea, .ref sl, tmx, tsv])), (fi, .inr (5, [fna, fla, fv2, fv3, fv4, fv5, .int 0])), (ea, .inl (tE, 2, .inr (.inr (.inr (.inr fE))))), (e0, .inr (4, [.int ei0, ev0_1, ev0_2, ev0_3, ev0_4, ev0_5, ev0_6, .ref ak0])), (e1, .inr (4, [.int ei1, ev1_1, ev1_2, ev1_3, ev1_4, ev1_5, ev1_6, .ref ak1])), (ak0, .inr (0, [.int am0, ae0, .int 0])), (ak1, .inr (0, [.int am1, ae1, .int 0])), (sl, .inr (0, [.int sm, se, .int 0]))] [(tE, .object RX3)] sz)) (va_Qi (fun (r : Int32) (_ : Unit) => False) (fun (_ : Unit) (t : State) => va_P (dC, dI) vwCl [] t.heap) (va_A [] sz)) (vx_X (fun _ : Unit => True) (fun E _ _ => E = "java/lang/IndexOutOfBoundsException") (va_A [] sz)) 1 6 (va_A [] sz) := by
  refine vx_ofW (cc := cX11_answer) (maxL := 5) (ret := (some FieldType.int)) (by decide) rfl ?_
  intro p e s m args below meth c s₁ B hml hno hv
  obtain ⟨rfl, hsz, hE, hP, hK⟩ := hv
  have hx := B.exec
  have hb := B.bytes
  have hr := B.returns
  have hts := atoms_spec (ws := cn yX11_answer cX11_answer 5 (some FieldType.int)) B.pre
  have ht : ∀ w ∈ GT, w.before _ s = true := fun w h => hts w (List.mem_cons_of_mem _ h)
  have hown : s.vm.findClass RX11 = some m.cls := findClass_of_methodNamed B.named
  have hlocks := B.notSynchronized
  subst hsz
  generalize hAe : va_A [] s.heap.size = A at hE ⊢
  have hA : ∀ q : Nat, s.heap.size ≤ q → A q := fun q h => by rw [← hAe]; exact Or.inr h
  obtain ⟨H, hH0⟩ : ∃ H, s.heap = H := ⟨_, rfl⟩
  have hS : va_S A s.heap H [] := by rw [← hH0]; exact va_S.rf
  rw [hH0] at hP
  have hl := lv_entry ([.ref h0, .int a1, .int a2]) (n := 5) (Nat.le_of_ble_eq_true rfl)
  rw [lg_entry_eq]
  generalize (lg_sl ([.ref h0, .int a1, .int a2]) ++ List.replicate (5 - (lg_sl ([.ref h0, .int a1, .int a2])).length) Slot.unset).toArray = ls at hl ⊢
  have hl : lv_has ls 5 [(0, .ref h0), (1, .int a1), (2, .int a2)] := hl
  rw [hH0]
  refine lv_aload_n hx hb dX11_answer_0 rfl (lv_at hl 0 rfl) ?_
  refine lv_iload_n hx hb dX11_answer_1 rfl (lv_at hl 1 rfl) ?_
  have hPc := hP.sub (ws' := [(h0, .inr (12, [.ref fi, tca, .ref ea, .ref sl, tmx, tsv])), (fi, .inr (5, [fna, fla, fv2, fv3, fv4, fv5, .int 0])), (ea, .inl (tE, 2, .inr (.inr (.inr (.inr fE))))), (e0, .inr (4, [.int ei0, ev0_1, ev0_2, ev0_3, ev0_4, ev0_5, ev0_6, .ref ak0])), (e1, .inr (4, [.int ei1, ev1_1, ev1_2, ev1_3, ev1_4, ev1_5, ev1_6, .ref ak1])), (ak0, .inr (0, [.int am0, ae0, .int 0])), (ak1, .inr (0, [.int am1, ae1, .int 0])), (sl, .inr (0, [.int sm, se, .int 0]))]) [0, 1, 2, 3, 4, 5, 6, 7] rfl
  have hKc := hK.sub (tys' := [(tE, .object RX3)]) [0] rfl
  have hFc := freeNil hS hA
  refine vx_callq (vx_runV (As := [.int a1]) (rest := []) ⟨hx, hb, hml, hown, ht⟩ (k_X11_serverAt l hL d0 cO dC dI H.size h0 ea sl tca tmx tsv tE fE sm se fi fna fla fv2 fv3 fv4 fv5 e0 ak0 ei0 am0 ev0_1 ev0_2 ev0_3 ev0_4 ev0_5 ev0_6 ae0 e1 ak1 ei1 am1 ev1_1 ev1_2 ev1_3 ev1_4 ev1_5 ev1_6 ae1 hf0 hf1 a1) (my_V ht M_X11_serverAt q1471 q38 q1469 (Nat.le_of_ble_eq_true rfl) (Nat.le_of_ble_eq_true rfl)) ⟨PREp.fb, va_recv hK hP (ci := 12) (q0 := 0) rfl rfl, fun U hU hW => ⟨rfl, PREp.mk' hE hS hFc hPc hKc U hU hW⟩⟩ rfl rfl hl.1 rfl (lv_room (Nat.le_of_ble_eq_true rfl)) dX11_answer_2 ⟨(Nat.le_of_ble_eq_true rfl), (Nat.le_of_ble_eq_true rfl)⟩) hS (fun q _ h => hFc q h) hFc (fun q _ h => hFc q h) (fun E ce q9 ux t H1 locs htt hvm hw hB hz1 hk1 hS hcell hv9 hcl9 => ?_) (fun r2 u1 t H1 locs htt hvm hw hB hz1 hk1 hS => ?_)
  · skip
    obtain rfl : E = _ := hB
    exact vx_out (fun x h => (hno x h).elim) hlocks hcell hv9 hcl9 (fun t9 ht9 hvm9 => ⟨(), trivial, rfl, ⟨by rw [ht9]; exact hS.1, fun q h1 h2 => by rw [ht9]; exact hS.2.1 q h1 h2⟩⟩) hS.2.2 (Nat.le_of_ble_eq_true rfl) (Nat.le_of_ble_eq_true rfl)
  · skip
    exact hw.elim
set_option maxHeartbeats 4000000 in
set_option maxRecDepth 100000 in
theorem k_X11_tellFaults (l : Launch) (hL : l.stackTraces = false) (d0 : Nat) (cO : ClassId) (dC : Nat → ClassId) (dI : Nat → Nat → Nat) (sz : Nat) (h0 ea sl : Nat) (tca tmx tsv : Value) (tE : ClassId) (fE : Nat → Option Nat) (sm : Int32) (se : Value) (fi : Nat) (fna fla fv2 fv3 fv4 fv5 : Value) (e0 ak0 : Nat) (ei0 am0 : Int32) (ev0_1 ev0_2 ev0_3 ev0_4 ev0_5 ev0_6 ae0 : Value) (e1 ak1 : Nat) (ei1 am1 : Int32) (ev1_1 ev1_2 ev1_3 ev1_4 ev1_5 ev1_6 ae1 : Value) (hf0 : fE 0 = some e0) (hf1 : fE 1 = some e1) (a1 a2 : Int32) : vx_Met l yX11_tellFaults (cn yX11_tellFaults cX11_tellFaults 5 (some FieldType.int)) (rmd 7 1 6) (va_Pc [.ref h0, .int a1, .int a2] (PREp d0 cO (dC, dI) (va_A [] sz) [(h0, .inr (12, [.ref fi, tca, .ref ea, .ref sl, tmx, tsv])), (fi, .inr (5, [fna, fla, fv2, fv3, fv4, fv5, .int 0])), (ea, .inl (tE, 2, .inr (.inr (.inr (.inr fE))))), (e0, .inr (4, [.int ei0, ev0_1, ev0_2, ev0_3, ev0_4, ev0_5, ev0_6, .ref ak0])), (e1, .inr (4, [.int ei1, ev1_1, ev1_2, ev1_3, ev1_4, ev1_5, ev1_6, .ref ak1])), (ak0, .inr (0, [.int am0, ae0, .int 0])), (ak1, .inr (0, [.int am1, ae1, .int 0])), (sl, .inr (0, [.int sm, se, .int 0]))] [(tE, .object RX3)] sz)) (va_Qi (fun (r : Int32) (_ : Unit) => False) (fun (_ : Unit) (t : State) => va_P (dC, dI) vwCl [] t.heap) (va_A [] sz)) (vx_X (fun _ : Unit => True) (fun E _ _ => E = "java/lang/IndexOutOfBoundsException") (va_A [] sz)) 1 6 (va_A [] sz) := by
  refine vx_ofW (cc := cX11_tellFaults) (maxL := 5) (ret := (some FieldType.int)) (by decide) rfl ?_
  intro p e s m args below meth c s₁ B hml hno hv
  obtain ⟨rfl, hsz, hE, hP, hK⟩ := hv
  have hx := B.exec
  have hb := B.bytes
  have hr := B.returns
  have hts := atoms_spec (ws := cn yX11_tellFaults cX11_tellFaults 5 (some FieldType.int)) B.pre
  have ht : ∀ w ∈ GT, w.before _ s = true := fun w h => hts w (List.mem_cons_of_mem _ h)
  have hown : s.vm.findClass RX11 = some m.cls := findClass_of_methodNamed B.named
  have hlocks := B.notSynchronized
  subst hsz
  generalize hAe : va_A [] s.heap.size = A at hE ⊢
  have hA : ∀ q : Nat, s.heap.size ≤ q → A q := fun q h => by rw [← hAe]; exact Or.inr h
  obtain ⟨H, hH0⟩ : ∃ H, s.heap = H := ⟨_, rfl⟩
  have hS : va_S A s.heap H [] := by rw [← hH0]; exact va_S.rf
  rw [hH0] at hP
  have hl := lv_entry ([.ref h0, .int a1, .int a2]) (n := 5) (Nat.le_of_ble_eq_true rfl)
  rw [lg_entry_eq]
  generalize (lg_sl ([.ref h0, .int a1, .int a2]) ++ List.replicate (5 - (lg_sl ([.ref h0, .int a1, .int a2])).length) Slot.unset).toArray = ls at hl ⊢
  have hl : lv_has ls 5 [(0, .ref h0), (1, .int a1), (2, .int a2)] := hl
  rw [hH0]
  refine lv_aload_n hx hb dX11_tellFaults_0 rfl (lv_at hl 0 rfl) ?_
  refine lv_iload_n hx hb dX11_tellFaults_1 rfl (lv_at hl 1 rfl) ?_
  have hPc := hP.sub (ws' := [(h0, .inr (12, [.ref fi, tca, .ref ea, .ref sl, tmx, tsv])), (fi, .inr (5, [fna, fla, fv2, fv3, fv4, fv5, .int 0])), (ea, .inl (tE, 2, .inr (.inr (.inr (.inr fE))))), (e0, .inr (4, [.int ei0, ev0_1, ev0_2, ev0_3, ev0_4, ev0_5, ev0_6, .ref ak0])), (e1, .inr (4, [.int ei1, ev1_1, ev1_2, ev1_3, ev1_4, ev1_5, ev1_6, .ref ak1])), (ak0, .inr (0, [.int am0, ae0, .int 0])), (ak1, .inr (0, [.int am1, ae1, .int 0])), (sl, .inr (0, [.int sm, se, .int 0]))]) [0, 1, 2, 3, 4, 5, 6, 7] rfl
  have hKc := hK.sub (tys' := [(tE, .object RX3)]) [0] rfl
  have hFc := freeNil hS hA
  refine vx_callq (vx_runV (As := [.int a1]) (rest := []) ⟨hx, hb, hml, hown, ht⟩ (k_X11_serverAt l hL d0 cO dC dI H.size h0 ea sl tca tmx tsv tE fE sm se fi fna fla fv2 fv3 fv4 fv5 e0 ak0 ei0 am0 ev0_1 ev0_2 ev0_3 ev0_4 ev0_5 ev0_6 ae0 e1 ak1 ei1 am1 ev1_1 ev1_2 ev1_3 ev1_4 ev1_5 ev1_6 ae1 hf0 hf1 a1) (my_V ht M_X11_serverAt q1471 q38 q1469 (Nat.le_of_ble_eq_true rfl) (Nat.le_of_ble_eq_true rfl)) ⟨PREp.fb, va_recv hK hP (ci := 12) (q0 := 0) rfl rfl, fun U hU hW => ⟨rfl, PREp.mk' hE hS hFc hPc hKc U hU hW⟩⟩ rfl rfl hl.1 rfl (lv_room (Nat.le_of_ble_eq_true rfl)) dX11_tellFaults_2 ⟨(Nat.le_of_ble_eq_true rfl), (Nat.le_of_ble_eq_true rfl)⟩) hS (fun q _ h => hFc q h) hFc (fun q _ h => hFc q h) (fun E ce q9 ux t H1 locs htt hvm hw hB hz1 hk1 hS hcell hv9 hcl9 => ?_) (fun r2 u1 t H1 locs htt hvm hw hB hz1 hk1 hS => ?_)
  · skip
    obtain rfl : E = _ := hB
    exact vx_out (fun x h => (hno x h).elim) hlocks hcell hv9 hcl9 (fun t9 ht9 hvm9 => ⟨(), trivial, rfl, ⟨by rw [ht9]; exact hS.1, fun q h1 h2 => by rw [ht9]; exact hS.2.1 q h1 h2⟩⟩) hS.2.2 (Nat.le_of_ble_eq_true rfl) (Nat.le_of_ble_eq_true rfl)
  · skip
    exact hw.elim
set_option maxHeartbeats 4000000 in
set_option maxRecDepth 100000 in
theorem k_X11_crash (l : Launch) (hL : l.stackTraces = false) (d0 : Nat) (cO : ClassId) (dC : Nat → ClassId) (dI : Nat → Nat → Nat) (sz : Nat) (h0 ea sl : Nat) (tca tmx tsv : Value) (tE : ClassId) (fE : Nat → Option Nat) (sm : Int32) (se : Value) (fi : Nat) (fna fla fv2 fv3 fv4 fv5 : Value) (e0 ak0 : Nat) (ei0 am0 : Int32) (ev0_1 ev0_2 ev0_3 ev0_4 ev0_5 ev0_6 ae0 : Value) (e1 ak1 : Nat) (ei1 am1 : Int32) (ev1_1 ev1_2 ev1_3 ev1_4 ev1_5 ev1_6 ae1 : Value) (hf0 : fE 0 = some e0) (hf1 : fE 1 = some e1) (a1 : Int32) : vx_Met l yX11_crash (cn yX11_crash cX11_crash 4 (some FieldType.int)) (rmd 7 1 6) (va_Pc [.ref h0, .int a1] (PREp d0 cO (dC, dI) (va_A [] sz) [(h0, .inr (12, [.ref fi, tca, .ref ea, .ref sl, tmx, tsv])), (fi, .inr (5, [fna, fla, fv2, fv3, fv4, fv5, .int 0])), (ea, .inl (tE, 2, .inr (.inr (.inr (.inr fE))))), (e0, .inr (4, [.int ei0, ev0_1, ev0_2, ev0_3, ev0_4, ev0_5, ev0_6, .ref ak0])), (e1, .inr (4, [.int ei1, ev1_1, ev1_2, ev1_3, ev1_4, ev1_5, ev1_6, .ref ak1])), (ak0, .inr (0, [.int am0, ae0, .int 0])), (ak1, .inr (0, [.int am1, ae1, .int 0])), (sl, .inr (0, [.int sm, se, .int 0]))] [(tE, .object RX3)] sz)) (va_Qi (fun (r : Int32) (_ : Unit) => False) (fun (_ : Unit) (t : State) => va_P (dC, dI) vwCl [] t.heap) (va_A [] sz)) (vx_X (fun _ : Unit => True) (fun E _ _ => E = "java/lang/IndexOutOfBoundsException") (va_A [] sz)) 1 6 (va_A [] sz) := by
  refine vx_ofW (cc := cX11_crash) (maxL := 4) (ret := (some FieldType.int)) (by decide) rfl ?_
  intro p e s m args below meth c s₁ B hml hno hv
  obtain ⟨rfl, hsz, hE, hP, hK⟩ := hv
  have hx := B.exec
  have hb := B.bytes
  have hr := B.returns
  have hts := atoms_spec (ws := cn yX11_crash cX11_crash 4 (some FieldType.int)) B.pre
  have ht : ∀ w ∈ GT, w.before _ s = true := fun w h => hts w (List.mem_cons_of_mem _ h)
  have hown : s.vm.findClass RX11 = some m.cls := findClass_of_methodNamed B.named
  have hlocks := B.notSynchronized
  subst hsz
  generalize hAe : va_A [] s.heap.size = A at hE ⊢
  have hA : ∀ q : Nat, s.heap.size ≤ q → A q := fun q h => by rw [← hAe]; exact Or.inr h
  obtain ⟨H, hH0⟩ : ∃ H, s.heap = H := ⟨_, rfl⟩
  have hS : va_S A s.heap H [] := by rw [← hH0]; exact va_S.rf
  rw [hH0] at hP
  have hl := lv_entry ([.ref h0, .int a1]) (n := 4) (Nat.le_of_ble_eq_true rfl)
  rw [lg_entry_eq]
  generalize (lg_sl ([.ref h0, .int a1]) ++ List.replicate (4 - (lg_sl ([.ref h0, .int a1])).length) Slot.unset).toArray = ls at hl ⊢
  have hl : lv_has ls 4 [(0, .ref h0), (1, .int a1)] := hl
  rw [hH0]
  refine lv_aload_n hx hb dX11_crash_0 rfl (lv_at hl 0 rfl) ?_
  refine lv_iload_n hx hb dX11_crash_1 rfl (lv_at hl 1 rfl) ?_
  have hPc := hP.sub (ws' := [(h0, .inr (12, [.ref fi, tca, .ref ea, .ref sl, tmx, tsv])), (fi, .inr (5, [fna, fla, fv2, fv3, fv4, fv5, .int 0])), (ea, .inl (tE, 2, .inr (.inr (.inr (.inr fE))))), (e0, .inr (4, [.int ei0, ev0_1, ev0_2, ev0_3, ev0_4, ev0_5, ev0_6, .ref ak0])), (e1, .inr (4, [.int ei1, ev1_1, ev1_2, ev1_3, ev1_4, ev1_5, ev1_6, .ref ak1])), (ak0, .inr (0, [.int am0, ae0, .int 0])), (ak1, .inr (0, [.int am1, ae1, .int 0])), (sl, .inr (0, [.int sm, se, .int 0]))]) [0, 1, 2, 3, 4, 5, 6, 7] rfl
  have hKc := hK.sub (tys' := [(tE, .object RX3)]) [0] rfl
  have hFc := freeNil hS hA
  refine vx_callq (vx_runV (As := [.int a1]) (rest := []) ⟨hx, hb, hml, hown, ht⟩ (k_X11_serverAt l hL d0 cO dC dI H.size h0 ea sl tca tmx tsv tE fE sm se fi fna fla fv2 fv3 fv4 fv5 e0 ak0 ei0 am0 ev0_1 ev0_2 ev0_3 ev0_4 ev0_5 ev0_6 ae0 e1 ak1 ei1 am1 ev1_1 ev1_2 ev1_3 ev1_4 ev1_5 ev1_6 ae1 hf0 hf1 a1) (my_V ht M_X11_serverAt q1471 q38 q1469 (Nat.le_of_ble_eq_true rfl) (Nat.le_of_ble_eq_true rfl)) ⟨PREp.fb, va_recv hK hP (ci := 12) (q0 := 0) rfl rfl, fun U hU hW => ⟨rfl, PREp.mk' hE hS hFc hPc hKc U hU hW⟩⟩ rfl rfl hl.1 rfl (lv_room (Nat.le_of_ble_eq_true rfl)) dX11_crash_2 ⟨(Nat.le_of_ble_eq_true rfl), (Nat.le_of_ble_eq_true rfl)⟩) hS (fun q _ h => hFc q h) hFc (fun q _ h => hFc q h) (fun E ce q9 ux t H1 locs htt hvm hw hB hz1 hk1 hS hcell hv9 hcl9 => ?_) (fun r2 u1 t H1 locs htt hvm hw hB hz1 hk1 hS => ?_)
  · skip
    obtain rfl : E = _ := hB
    exact vx_out (fun x h => (hno x h).elim) hlocks hcell hv9 hcl9 (fun t9 ht9 hvm9 => ⟨(), trivial, rfl, ⟨by rw [ht9]; exact hS.1, fun q h1 h2 => by rw [ht9]; exact hS.2.1 q h1 h2⟩⟩) hS.2.2 (Nat.le_of_ble_eq_true rfl) (Nat.le_of_ble_eq_true rfl)
  · skip
    exact hw.elim
set_option maxHeartbeats 4000000 in
set_option maxRecDepth 100000 in
theorem k_X11_start (l : Launch) (hL : l.stackTraces = false) (d0 : Nat) (cO : ClassId) (dC : Nat → ClassId) (dI : Nat → Nat → Nat) (sz : Nat) (h0 ea sl : Nat) (tca tmx tsv : Value) (tE : ClassId) (fE : Nat → Option Nat) (sm : Int32) (se : Value) (fi : Nat) (fna fla fv2 fv3 fv4 fv5 : Value) (e0 ak0 : Nat) (ei0 am0 : Int32) (ev0_1 ev0_2 ev0_3 ev0_4 ev0_5 ev0_6 ae0 : Value) (e1 ak1 : Nat) (ei1 am1 : Int32) (ev1_1 ev1_2 ev1_3 ev1_4 ev1_5 ev1_6 ae1 : Value) (hf0 : fE 0 = some e0) (hf1 : fE 1 = some e1) (a1 : Int32) : vx_Met l yX11_start (cn yX11_start cX11_start 3 (some FieldType.int)) (rmd 7 1 6) (va_Pc [.ref h0, .int a1] (PREp d0 cO (dC, dI) (va_A [] sz) [(h0, .inr (12, [.ref fi, tca, .ref ea, .ref sl, tmx, tsv])), (fi, .inr (5, [fna, fla, fv2, fv3, fv4, fv5, .int 0])), (ea, .inl (tE, 2, .inr (.inr (.inr (.inr fE))))), (e0, .inr (4, [.int ei0, ev0_1, ev0_2, ev0_3, ev0_4, ev0_5, ev0_6, .ref ak0])), (e1, .inr (4, [.int ei1, ev1_1, ev1_2, ev1_3, ev1_4, ev1_5, ev1_6, .ref ak1])), (ak0, .inr (0, [.int am0, ae0, .int 0])), (ak1, .inr (0, [.int am1, ae1, .int 0])), (sl, .inr (0, [.int sm, se, .int 0]))] [(tE, .object RX3)] sz)) (va_Qi (fun (r : Int32) (_ : Unit) => False) (fun (_ : Unit) (t : State) => va_P (dC, dI) vwCl [] t.heap) (va_A [] sz)) (vx_X (fun _ : Unit => True) (fun E _ _ => E = "java/lang/IndexOutOfBoundsException") (va_A [] sz)) 1 6 (va_A [] sz) := by
  refine vx_ofW (cc := cX11_start) (maxL := 3) (ret := (some FieldType.int)) (by decide) rfl ?_
  intro p e s m args below meth c s₁ B hml hno hv
  obtain ⟨rfl, hsz, hE, hP, hK⟩ := hv
  have hx := B.exec
  have hb := B.bytes
  have hr := B.returns
  have hts := atoms_spec (ws := cn yX11_start cX11_start 3 (some FieldType.int)) B.pre
  have ht : ∀ w ∈ GT, w.before _ s = true := fun w h => hts w (List.mem_cons_of_mem _ h)
  have hown : s.vm.findClass RX11 = some m.cls := findClass_of_methodNamed B.named
  have hlocks := B.notSynchronized
  subst hsz
  generalize hAe : va_A [] s.heap.size = A at hE ⊢
  have hA : ∀ q : Nat, s.heap.size ≤ q → A q := fun q h => by rw [← hAe]; exact Or.inr h
  obtain ⟨H, hH0⟩ : ∃ H, s.heap = H := ⟨_, rfl⟩
  have hS : va_S A s.heap H [] := by rw [← hH0]; exact va_S.rf
  rw [hH0] at hP
  have hl := lv_entry ([.ref h0, .int a1]) (n := 3) (Nat.le_of_ble_eq_true rfl)
  rw [lg_entry_eq]
  generalize (lg_sl ([.ref h0, .int a1]) ++ List.replicate (3 - (lg_sl ([.ref h0, .int a1])).length) Slot.unset).toArray = ls at hl ⊢
  have hl : lv_has ls 3 [(0, .ref h0), (1, .int a1)] := hl
  rw [hH0]
  refine lv_aload_n hx hb dX11_start_0 rfl (lv_at hl 0 rfl) ?_
  refine lv_iload_n hx hb dX11_start_1 rfl (lv_at hl 1 rfl) ?_
  have hPc := hP.sub (ws' := [(h0, .inr (12, [.ref fi, tca, .ref ea, .ref sl, tmx, tsv])), (fi, .inr (5, [fna, fla, fv2, fv3, fv4, fv5, .int 0])), (ea, .inl (tE, 2, .inr (.inr (.inr (.inr fE))))), (e0, .inr (4, [.int ei0, ev0_1, ev0_2, ev0_3, ev0_4, ev0_5, ev0_6, .ref ak0])), (e1, .inr (4, [.int ei1, ev1_1, ev1_2, ev1_3, ev1_4, ev1_5, ev1_6, .ref ak1])), (ak0, .inr (0, [.int am0, ae0, .int 0])), (ak1, .inr (0, [.int am1, ae1, .int 0])), (sl, .inr (0, [.int sm, se, .int 0]))]) [0, 1, 2, 3, 4, 5, 6, 7] rfl
  have hKc := hK.sub (tys' := [(tE, .object RX3)]) [0] rfl
  have hFc := freeNil hS hA
  refine vx_callq (vx_runV (As := [.int a1]) (rest := []) ⟨hx, hb, hml, hown, ht⟩ (k_X11_serverAt l hL d0 cO dC dI H.size h0 ea sl tca tmx tsv tE fE sm se fi fna fla fv2 fv3 fv4 fv5 e0 ak0 ei0 am0 ev0_1 ev0_2 ev0_3 ev0_4 ev0_5 ev0_6 ae0 e1 ak1 ei1 am1 ev1_1 ev1_2 ev1_3 ev1_4 ev1_5 ev1_6 ae1 hf0 hf1 a1) (my_V ht M_X11_serverAt q1471 q38 q1469 (Nat.le_of_ble_eq_true rfl) (Nat.le_of_ble_eq_true rfl)) ⟨PREp.fb, va_recv hK hP (ci := 12) (q0 := 0) rfl rfl, fun U hU hW => ⟨rfl, PREp.mk' hE hS hFc hPc hKc U hU hW⟩⟩ rfl rfl hl.1 rfl (lv_room (Nat.le_of_ble_eq_true rfl)) dX11_start_2 ⟨(Nat.le_of_ble_eq_true rfl), (Nat.le_of_ble_eq_true rfl)⟩) hS (fun q _ h => hFc q h) hFc (fun q _ h => hFc q h) (fun E ce q9 ux t H1 locs htt hvm hw hB hz1 hk1 hS hcell hv9 hcl9 => ?_) (fun r2 u1 t H1 locs htt hvm hw hB hz1 hk1 hS => ?_)
  · skip
    obtain rfl : E = _ := hB
    exact vx_out (fun x h => (hno x h).elim) hlocks hcell hv9 hcl9 (fun t9 ht9 hvm9 => ⟨(), trivial, rfl, ⟨by rw [ht9]; exact hS.1, fun q h1 h2 => by rw [ht9]; exact hS.2.1 q h1 h2⟩⟩) hS.2.2 (Nat.le_of_ble_eq_true rfl) (Nat.le_of_ble_eq_true rfl)
  · skip
    exact hw.elim
set_option maxHeartbeats 4000000 in
set_option maxRecDepth 100000 in
theorem k_X11_version (l : Launch) (hL : l.stackTraces = false) (d0 : Nat) (cO : ClassId) (dC : Nat → ClassId) (dI : Nat → Nat → Nat) (sz : Nat) (h0 ea sl : Nat) (tca tmx tsv : Value) (tE : ClassId) (fE : Nat → Option Nat) (sm : Int32) (se : Value) (fi : Nat) (fna fla fv2 fv3 fv4 fv5 : Value) (e0 ak0 : Nat) (ei0 am0 : Int32) (ev0_1 ev0_2 ev0_3 ev0_4 ev0_5 ev0_6 ae0 : Value) (e1 ak1 : Nat) (ei1 am1 : Int32) (ev1_1 ev1_2 ev1_3 ev1_4 ev1_5 ev1_6 ae1 : Value) (hf0 : fE 0 = some e0) (hf1 : fE 1 = some e1) (a1 a2 : Int32) : vx_Met l yX11_version (cn yX11_version cX11_version 3 (some FieldType.int)) (rmd 7 1 6) (va_Pc [.ref h0, .int a1, .int a2] (PREp d0 cO (dC, dI) (va_A [] sz) [(h0, .inr (12, [.ref fi, tca, .ref ea, .ref sl, tmx, tsv])), (fi, .inr (5, [fna, fla, fv2, fv3, fv4, fv5, .int 0])), (ea, .inl (tE, 2, .inr (.inr (.inr (.inr fE))))), (e0, .inr (4, [.int ei0, ev0_1, ev0_2, ev0_3, ev0_4, ev0_5, ev0_6, .ref ak0])), (e1, .inr (4, [.int ei1, ev1_1, ev1_2, ev1_3, ev1_4, ev1_5, ev1_6, .ref ak1])), (ak0, .inr (0, [.int am0, ae0, .int 0])), (ak1, .inr (0, [.int am1, ae1, .int 0])), (sl, .inr (0, [.int sm, se, .int 0]))] [(tE, .object RX3)] sz)) (va_Qi (fun (r : Int32) (_ : Unit) => False) (fun (_ : Unit) (t : State) => va_P (dC, dI) vwCl [] t.heap) (va_A [] sz)) (vx_X (fun _ : Unit => True) (fun E _ _ => E = "java/lang/IndexOutOfBoundsException") (va_A [] sz)) 1 6 (va_A [] sz) := by
  refine vx_ofW (cc := cX11_version) (maxL := 3) (ret := (some FieldType.int)) (by decide) rfl ?_
  intro p e s m args below meth c s₁ B hml hno hv
  obtain ⟨rfl, hsz, hE, hP, hK⟩ := hv
  have hx := B.exec
  have hb := B.bytes
  have hr := B.returns
  have hts := atoms_spec (ws := cn yX11_version cX11_version 3 (some FieldType.int)) B.pre
  have ht : ∀ w ∈ GT, w.before _ s = true := fun w h => hts w (List.mem_cons_of_mem _ h)
  have hown : s.vm.findClass RX11 = some m.cls := findClass_of_methodNamed B.named
  have hlocks := B.notSynchronized
  subst hsz
  generalize hAe : va_A [] s.heap.size = A at hE ⊢
  have hA : ∀ q : Nat, s.heap.size ≤ q → A q := fun q h => by rw [← hAe]; exact Or.inr h
  obtain ⟨H, hH0⟩ : ∃ H, s.heap = H := ⟨_, rfl⟩
  have hS : va_S A s.heap H [] := by rw [← hH0]; exact va_S.rf
  rw [hH0] at hP
  have hl := lv_entry ([.ref h0, .int a1, .int a2]) (n := 3) (Nat.le_of_ble_eq_true rfl)
  rw [lg_entry_eq]
  generalize (lg_sl ([.ref h0, .int a1, .int a2]) ++ List.replicate (3 - (lg_sl ([.ref h0, .int a1, .int a2])).length) Slot.unset).toArray = ls at hl ⊢
  have hl : lv_has ls 3 [(0, .ref h0), (1, .int a1), (2, .int a2)] := hl
  rw [hH0]
  refine lv_aload_n hx hb dX11_version_0 rfl (lv_at hl 0 rfl) ?_
  refine lv_iload_n hx hb dX11_version_1 rfl (lv_at hl 2 rfl) ?_
  have hPc := hP.sub (ws' := [(h0, .inr (12, [.ref fi, tca, .ref ea, .ref sl, tmx, tsv])), (fi, .inr (5, [fna, fla, fv2, fv3, fv4, fv5, .int 0]))]) [0, 1] rfl
  have hKc := hK.sub (tys' := []) [] rfl
  have hFc := freeNil hS hA
  refine vx_callv (vx_runV (As := [.int a2]) (rest := []) ⟨hx, hb, hml, hown, ht⟩ (k_X11_checkFile l hL d0 cO dC dI H.size h0 tca (.ref ea) (.ref sl) tmx tsv fi fna fla fv2 fv3 fv4 fv5 a2) (my_V ht M_X11_checkFile q1127 q30 q1125 (Nat.le_of_ble_eq_true rfl) (Nat.le_of_ble_eq_true rfl)) ⟨PREp.fb, va_recv hK hP (ci := 12) (q0 := 0) rfl rfl, fun U hU hW => ⟨rfl, PREp.mk' hE hS hFc hPc hKc U hU hW⟩⟩ rfl rfl hl.1 rfl (lv_room (Nat.le_of_ble_eq_true rfl)) dX11_version_2 ⟨(Nat.le_of_ble_eq_true rfl), (Nat.le_of_ble_eq_true rfl)⟩) hS (fun q _ h => hFc q h) hFc (fun q _ h => hFc q h) (fun E ce q9 ux t H1 locs htt hvm hw hB hz1 hk1 hS hcell hv9 hcl9 => ?_) (fun u1 t H1 locs htt hvm hw hB hz1 hk1 hS => ?_)
  · skip
    obtain rfl : E = _ := hB
    exact vx_out (fun x h => (hno x h).elim) hlocks hcell hv9 hcl9 (fun t9 ht9 hvm9 => ⟨(), trivial, rfl, ⟨by rw [ht9]; exact hS.1, fun q h1 h2 => by rw [ht9]; exact hS.2.1 q h1 h2⟩⟩) hS.2.2 (Nat.le_of_ble_eq_true rfl) (Nat.le_of_ble_eq_true rfl)
  · skip
    exact hw.elim
set_option maxHeartbeats 4000000 in
set_option maxRecDepth 100000 in
theorem k_X11_unit (l : Launch) (hL : l.stackTraces = false) (d0 : Nat) (cO : ClassId) (dC : Nat → ClassId) (dI : Nat → Nat → Nat) (sz : Nat) (h0 ea sl : Nat) (tca tmx tsv : Value) (tE : ClassId) (fE : Nat → Option Nat) (sm : Int32) (se : Value) (fi : Nat) (fna fla fv2 fv3 fv4 fv5 : Value) (e0 ak0 : Nat) (ei0 am0 : Int32) (ev0_1 ev0_2 ev0_3 ev0_4 ev0_5 ev0_6 ae0 : Value) (e1 ak1 : Nat) (ei1 am1 : Int32) (ev1_1 ev1_2 ev1_3 ev1_4 ev1_5 ev1_6 ae1 : Value) (hf0 : fE 0 = some e0) (hf1 : fE 1 = some e1) (a1 a2 a3 : Int32) : vx_Met l yX11_unit (cn yX11_unit cX11_unit 6 (some FieldType.char)) (rmd 7 1 6) (va_Pc [.ref h0, .int a1, .int a2, .int a3] (PREp d0 cO (dC, dI) (va_A [] sz) [(h0, .inr (12, [.ref fi, tca, .ref ea, .ref sl, tmx, tsv])), (fi, .inr (5, [fna, fla, fv2, fv3, fv4, fv5, .int 0])), (ea, .inl (tE, 2, .inr (.inr (.inr (.inr fE))))), (e0, .inr (4, [.int ei0, ev0_1, ev0_2, ev0_3, ev0_4, ev0_5, ev0_6, .ref ak0])), (e1, .inr (4, [.int ei1, ev1_1, ev1_2, ev1_3, ev1_4, ev1_5, ev1_6, .ref ak1])), (ak0, .inr (0, [.int am0, ae0, .int 0])), (ak1, .inr (0, [.int am1, ae1, .int 0])), (sl, .inr (0, [.int sm, se, .int 0]))] [(tE, .object RX3)] sz)) (va_Qi (fun (r : Int32) (_ : Unit) => False) (fun (_ : Unit) (t : State) => va_P (dC, dI) vwCl [] t.heap) (va_A [] sz)) (vx_X (fun _ : Unit => True) (fun E _ _ => E = "java/lang/IndexOutOfBoundsException") (va_A [] sz)) 1 6 (va_A [] sz) := by
  refine vx_ofW (cc := cX11_unit) (maxL := 6) (ret := (some FieldType.char)) (by decide) rfl ?_
  intro p e s m args below meth c s₁ B hml hno hv
  obtain ⟨rfl, hsz, hE, hP, hK⟩ := hv
  have hx := B.exec
  have hb := B.bytes
  have hr := B.returns
  have hts := atoms_spec (ws := cn yX11_unit cX11_unit 6 (some FieldType.char)) B.pre
  have ht : ∀ w ∈ GT, w.before _ s = true := fun w h => hts w (List.mem_cons_of_mem _ h)
  have hown : s.vm.findClass RX11 = some m.cls := findClass_of_methodNamed B.named
  have hlocks := B.notSynchronized
  subst hsz
  generalize hAe : va_A [] s.heap.size = A at hE ⊢
  have hA : ∀ q : Nat, s.heap.size ≤ q → A q := fun q h => by rw [← hAe]; exact Or.inr h
  obtain ⟨H, hH0⟩ : ∃ H, s.heap = H := ⟨_, rfl⟩
  have hS : va_S A s.heap H [] := by rw [← hH0]; exact va_S.rf
  rw [hH0] at hP
  have hl := lv_entry ([.ref h0, .int a1, .int a2, .int a3]) (n := 6) (Nat.le_of_ble_eq_true rfl)
  rw [lg_entry_eq]
  generalize (lg_sl ([.ref h0, .int a1, .int a2, .int a3]) ++ List.replicate (6 - (lg_sl ([.ref h0, .int a1, .int a2, .int a3])).length) Slot.unset).toArray = ls at hl ⊢
  have hl : lv_has ls 6 [(0, .ref h0), (1, .int a1), (2, .int a2), (3, .int a3)] := hl
  rw [hH0]
  refine lv_aload_n hx hb dX11_unit_0 rfl (lv_at hl 0 rfl) ?_
  refine lv_iload_n hx hb dX11_unit_1 rfl (lv_at hl 2 rfl) ?_
  have hPc := hP.sub (ws' := [(h0, .inr (12, [.ref fi, tca, .ref ea, .ref sl, tmx, tsv])), (fi, .inr (5, [fna, fla, fv2, fv3, fv4, fv5, .int 0]))]) [0, 1] rfl
  have hKc := hK.sub (tys' := []) [] rfl
  have hFc := freeNil hS hA
  refine vx_callv (vx_runV (As := [.int a2]) (rest := []) ⟨hx, hb, hml, hown, ht⟩ (k_X11_checkFile l hL d0 cO dC dI H.size h0 tca (.ref ea) (.ref sl) tmx tsv fi fna fla fv2 fv3 fv4 fv5 a2) (my_V ht M_X11_checkFile q1127 q30 q1125 (Nat.le_of_ble_eq_true rfl) (Nat.le_of_ble_eq_true rfl)) ⟨PREp.fb, va_recv hK hP (ci := 12) (q0 := 0) rfl rfl, fun U hU hW => ⟨rfl, PREp.mk' hE hS hFc hPc hKc U hU hW⟩⟩ rfl rfl hl.1 rfl (lv_room (Nat.le_of_ble_eq_true rfl)) dX11_unit_2 ⟨(Nat.le_of_ble_eq_true rfl), (Nat.le_of_ble_eq_true rfl)⟩) hS (fun q _ h => hFc q h) hFc (fun q _ h => hFc q h) (fun E ce q9 ux t H1 locs htt hvm hw hB hz1 hk1 hS hcell hv9 hcl9 => ?_) (fun u1 t H1 locs htt hvm hw hB hz1 hk1 hS => ?_)
  · skip
    obtain rfl : E = _ := hB
    exact vx_out (fun x h => (hno x h).elim) hlocks hcell hv9 hcl9 (fun t9 ht9 hvm9 => ⟨(), trivial, rfl, ⟨by rw [ht9]; exact hS.1, fun q h1 h2 => by rw [ht9]; exact hS.2.1 q h1 h2⟩⟩) hS.2.2 (Nat.le_of_ble_eq_true rfl) (Nat.le_of_ble_eq_true rfl)
  · skip
    exact hw.elim
set_option maxHeartbeats 4000000 in
set_option maxRecDepth 100000 in
theorem k_X11_agree (l : Launch) (hL : l.stackTraces = false) (d0 : Nat) (cO : ClassId) (dC : Nat → ClassId) (dI : Nat → Nat → Nat) (sz : Nat) (h0 ea sl : Nat) (tca tmx tsv : Value) (tE : ClassId) (fE : Nat → Option Nat) (sm : Int32) (se : Value) (fi : Nat) (fna fla fv2 fv3 fv4 fv5 : Value) (e0 ak0 : Nat) (ei0 am0 : Int32) (ev0_1 ev0_2 ev0_3 ev0_4 ev0_5 ev0_6 ae0 : Value) (e1 ak1 : Nat) (ei1 am1 : Int32) (ev1_1 ev1_2 ev1_3 ev1_4 ev1_5 ev1_6 ae1 : Value) (hf0 : fE 0 = some e0) (hf1 : fE 1 = some e1) (a1 : Int32) : vx_Met l yX11_agree (cn yX11_agree cX11_agree 6 (some FieldType.boolean)) (rmd 7 1 6) (va_Pc [.ref h0, .int a1] (PREp d0 cO (dC, dI) (va_A [] sz) [(h0, .inr (12, [.ref fi, tca, .ref ea, .ref sl, tmx, tsv])), (fi, .inr (5, [fna, fla, fv2, fv3, fv4, fv5, .int 0])), (ea, .inl (tE, 2, .inr (.inr (.inr (.inr fE))))), (e0, .inr (4, [.int ei0, ev0_1, ev0_2, ev0_3, ev0_4, ev0_5, ev0_6, .ref ak0])), (e1, .inr (4, [.int ei1, ev1_1, ev1_2, ev1_3, ev1_4, ev1_5, ev1_6, .ref ak1])), (ak0, .inr (0, [.int am0, ae0, .int 0])), (ak1, .inr (0, [.int am1, ae1, .int 0])), (sl, .inr (0, [.int sm, se, .int 0]))] [(tE, .object RX3)] sz)) (va_Qi (fun (r : Int32) (_ : Unit) => False) (fun (_ : Unit) (t : State) => va_P (dC, dI) vwCl [] t.heap) (va_A [] sz)) (vx_X (fun _ : Unit => True) (fun E _ _ => E = "java/lang/IndexOutOfBoundsException") (va_A [] sz)) 1 6 (va_A [] sz) := by
  refine vx_ofW (cc := cX11_agree) (maxL := 6) (ret := (some FieldType.boolean)) (by decide) rfl ?_
  intro p e s m args below meth c s₁ B hml hno hv
  obtain ⟨rfl, hsz, hE, hP, hK⟩ := hv
  have hx := B.exec
  have hb := B.bytes
  have hr := B.returns
  have hts := atoms_spec (ws := cn yX11_agree cX11_agree 6 (some FieldType.boolean)) B.pre
  have ht : ∀ w ∈ GT, w.before _ s = true := fun w h => hts w (List.mem_cons_of_mem _ h)
  have hown : s.vm.findClass RX11 = some m.cls := findClass_of_methodNamed B.named
  have hlocks := B.notSynchronized
  subst hsz
  generalize hAe : va_A [] s.heap.size = A at hE ⊢
  have hA : ∀ q : Nat, s.heap.size ≤ q → A q := fun q h => by rw [← hAe]; exact Or.inr h
  obtain ⟨H, hH0⟩ : ∃ H, s.heap = H := ⟨_, rfl⟩
  have hS : va_S A s.heap H [] := by rw [← hH0]; exact va_S.rf
  rw [hH0] at hP
  have hl := lv_entry ([.ref h0, .int a1]) (n := 6) (Nat.le_of_ble_eq_true rfl)
  rw [lg_entry_eq]
  generalize (lg_sl ([.ref h0, .int a1]) ++ List.replicate (6 - (lg_sl ([.ref h0, .int a1])).length) Slot.unset).toArray = ls at hl ⊢
  have hl : lv_has ls 6 [(0, .ref h0), (1, .int a1)] := hl
  rw [hH0]
  refine lv_aload_n hx hb dX11_agree_0 rfl (lv_at hl 0 rfl) ?_
  refine lv_iload_n hx hb dX11_agree_1 rfl (lv_at hl 1 rfl) ?_
  have hPc := hP.sub (ws' := [(h0, .inr (12, [.ref fi, tca, .ref ea, .ref sl, tmx, tsv])), (fi, .inr (5, [fna, fla, fv2, fv3, fv4, fv5, .int 0]))]) [0, 1] rfl
  have hKc := hK.sub (tys' := []) [] rfl
  have hFc := freeNil hS hA
  refine vx_callv (vx_runV (As := [.int a1]) (rest := []) ⟨hx, hb, hml, hown, ht⟩ (k_X11_checkFile l hL d0 cO dC dI H.size h0 tca (.ref ea) (.ref sl) tmx tsv fi fna fla fv2 fv3 fv4 fv5 a1) (my_V ht M_X11_checkFile q1127 q30 q1125 (Nat.le_of_ble_eq_true rfl) (Nat.le_of_ble_eq_true rfl)) ⟨PREp.fb, va_recv hK hP (ci := 12) (q0 := 0) rfl rfl, fun U hU hW => ⟨rfl, PREp.mk' hE hS hFc hPc hKc U hU hW⟩⟩ rfl rfl hl.1 rfl (lv_room (Nat.le_of_ble_eq_true rfl)) dX11_agree_2 ⟨(Nat.le_of_ble_eq_true rfl), (Nat.le_of_ble_eq_true rfl)⟩) hS (fun q _ h => hFc q h) hFc (fun q _ h => hFc q h) (fun E ce q9 ux t H1 locs htt hvm hw hB hz1 hk1 hS hcell hv9 hcl9 => ?_) (fun u1 t H1 locs htt hvm hw hB hz1 hk1 hS => ?_)
  · skip
    obtain rfl : E = _ := hB
    exact vx_out (fun x h => (hno x h).elim) hlocks hcell hv9 hcl9 (fun t9 ht9 hvm9 => ⟨(), trivial, rfl, ⟨by rw [ht9]; exact hS.1, fun q h1 h2 => by rw [ht9]; exact hS.2.1 q h1 h2⟩⟩) hS.2.2 (Nat.le_of_ble_eq_true rfl) (Nat.le_of_ble_eq_true rfl)
  · skip
    exact hw.elim
set_option maxHeartbeats 4000000 in
set_option maxRecDepth 100000 in
theorem k_X11_standing (l : Launch) (hL : l.stackTraces = false) (d0 : Nat) (cO : ClassId) (dC : Nat → ClassId) (dI : Nat → Nat → Nat) (sz : Nat) (h0 ea sl : Nat) (tca tmx tsv : Value) (tE : ClassId) (fE : Nat → Option Nat) (sm : Int32) (se : Value) (fi : Nat) (fna fla fv2 fv3 fv4 fv5 : Value) (e0 ak0 : Nat) (ei0 am0 : Int32) (ev0_1 ev0_2 ev0_3 ev0_4 ev0_5 ev0_6 ae0 : Value) (e1 ak1 : Nat) (ei1 am1 : Int32) (ev1_1 ev1_2 ev1_3 ev1_4 ev1_5 ev1_6 ae1 : Value) (hf0 : fE 0 = some e0) (hf1 : fE 1 = some e1) (a1 a2 : Int32) : vx_Met l yX11_standing (cn yX11_standing cX11_standing 4 (some FieldType.int)) (rmd 7 2 12) (va_Pc [.ref h0, .int a1, .int a2] (PREp d0 cO (dC, dI) (va_A [] sz) [(h0, .inr (12, [.ref fi, tca, .ref ea, .ref sl, tmx, tsv])), (fi, .inr (5, [fna, fla, fv2, fv3, fv4, fv5, .int 0])), (ea, .inl (tE, 2, .inr (.inr (.inr (.inr fE))))), (e0, .inr (4, [.int ei0, ev0_1, ev0_2, ev0_3, ev0_4, ev0_5, ev0_6, .ref ak0])), (e1, .inr (4, [.int ei1, ev1_1, ev1_2, ev1_3, ev1_4, ev1_5, ev1_6, .ref ak1])), (ak0, .inr (0, [.int am0, ae0, .int 0])), (ak1, .inr (0, [.int am1, ae1, .int 0])), (sl, .inr (0, [.int sm, se, .int 0]))] [(tE, .object RX3)] sz)) (va_Qi (fun (r : Int32) (_ : Unit) => False) (fun (_ : Unit) (t : State) => va_P (dC, dI) vwCl [] t.heap) (va_A [] sz)) (vx_X (fun _ : Unit => True) (fun E _ _ => E = "java/lang/IndexOutOfBoundsException") (va_A [] sz)) 2 12 (va_A [] sz) := by
  refine vx_ofW (cc := cX11_standing) (maxL := 4) (ret := (some FieldType.int)) (by decide) rfl ?_
  intro p e s m args below meth c s₁ B hml hno hv
  obtain ⟨rfl, hsz, hE, hP, hK⟩ := hv
  have hx := B.exec
  have hb := B.bytes
  have hr := B.returns
  have hts := atoms_spec (ws := cn yX11_standing cX11_standing 4 (some FieldType.int)) B.pre
  have ht : ∀ w ∈ GT, w.before _ s = true := fun w h => hts w (List.mem_cons_of_mem _ h)
  have hown : s.vm.findClass RX11 = some m.cls := findClass_of_methodNamed B.named
  have hlocks := B.notSynchronized
  subst hsz
  generalize hAe : va_A [] s.heap.size = A at hE ⊢
  have hA : ∀ q : Nat, s.heap.size ≤ q → A q := fun q h => by rw [← hAe]; exact Or.inr h
  obtain ⟨H, hH0⟩ : ∃ H, s.heap = H := ⟨_, rfl⟩
  have hS : va_S A s.heap H [] := by rw [← hH0]; exact va_S.rf
  rw [hH0] at hP
  have hl := lv_entry ([.ref h0, .int a1, .int a2]) (n := 4) (Nat.le_of_ble_eq_true rfl)
  rw [lg_entry_eq]
  generalize (lg_sl ([.ref h0, .int a1, .int a2]) ++ List.replicate (4 - (lg_sl ([.ref h0, .int a1, .int a2])).length) Slot.unset).toArray = ls at hl ⊢
  have hl : lv_has ls 4 [(0, .ref h0), (1, .int a1), (2, .int a2)] := hl
  rw [hH0]
  refine lv_aload_n hx hb dX11_standing_0 rfl (lv_at hl 0 rfl) ?_
  refine lv_aload_n hx hb dX11_standing_1 rfl (lv_at hl 0 rfl) ?_
  refine lv_iload_n hx hb dX11_standing_2 rfl (lv_at hl 1 rfl) ?_
  have hPc := hP.sub (ws' := [(h0, .inr (12, [.ref fi, tca, .ref ea, .ref sl, tmx, tsv])), (fi, .inr (5, [fna, fla, fv2, fv3, fv4, fv5, .int 0])), (ea, .inl (tE, 2, .inr (.inr (.inr (.inr fE))))), (e0, .inr (4, [.int ei0, ev0_1, ev0_2, ev0_3, ev0_4, ev0_5, ev0_6, .ref ak0])), (e1, .inr (4, [.int ei1, ev1_1, ev1_2, ev1_3, ev1_4, ev1_5, ev1_6, .ref ak1])), (ak0, .inr (0, [.int am0, ae0, .int 0])), (ak1, .inr (0, [.int am1, ae1, .int 0])), (sl, .inr (0, [.int sm, se, .int 0]))]) [0, 1, 2, 3, 4, 5, 6, 7] rfl
  have hKc := hK.sub (tys' := [(tE, .object RX3)]) [0] rfl
  have hFc := freeNil hS hA
  refine vx_callq (vx_runV (As := [.int a1]) (rest := [.ref h0]) ⟨hx, hb, hml, hown, ht⟩ (k_X11_editorAt l hL d0 cO dC dI H.size h0 ea sl tca tmx tsv tE fE sm se fi fna fla fv2 fv3 fv4 fv5 e0 ak0 ei0 am0 ev0_1 ev0_2 ev0_3 ev0_4 ev0_5 ev0_6 ae0 e1 ak1 ei1 am1 ev1_1 ev1_2 ev1_3 ev1_4 ev1_5 ev1_6 ae1 hf0 hf1 a1) (my_V ht M_X11_editorAt q1259 q32 q1257 (Nat.le_of_ble_eq_true rfl) (Nat.le_of_ble_eq_true rfl)) ⟨PREp.fb, va_recv hK hP (ci := 12) (q0 := 0) rfl rfl, fun U hU hW => ⟨rfl, PREp.mk' hE hS hFc hPc hKc U hU hW⟩⟩ rfl rfl hl.1 rfl (lv_room (Nat.le_of_ble_eq_true rfl)) dX11_standing_3 ⟨(Nat.le_of_ble_eq_true rfl), (Nat.le_of_ble_eq_true rfl)⟩) hS (fun q _ h => hFc q h) hFc (fun q _ h => hFc q h) (fun E ce q9 ux t H1 locs htt hvm hw hB hz1 hk1 hS hcell hv9 hcl9 => ?_) (fun r2 u1 t H1 locs htt hvm hw hB hz1 hk1 hS => ?_)
  · skip
    obtain rfl : E = _ := hB
    exact vx_out (fun x h => (hno x h).elim) hlocks hcell hv9 hcl9 (fun t9 ht9 hvm9 => ⟨(), trivial, rfl, ⟨by rw [ht9]; exact hS.1, fun q h1 h2 => by rw [ht9]; exact hS.2.1 q h1 h2⟩⟩) hS.2.2 (Nat.le_of_ble_eq_true rfl) (Nat.le_of_ble_eq_true rfl)
  · skip
    try dsimp only at hw hB
    have hP1 := hB
    rw [htt] at hP1
    have hP := keepAll hP hk1
    generalize H1 = H at hP hS ⊢
    have hP : va_P (dC, dI) vwCl [(h0, .inr (12, [.ref fi, tca, .ref ea, .ref sl, tmx, tsv])), (fi, .inr (5, [fna, fla, fv2, fv3, fv4, fv5, .int 0])), (ea, .inl (tE, 2, .inr (.inr (.inr (.inr fE))))), (e0, .inr (4, [.int ei0, ev0_1, ev0_2, ev0_3, ev0_4, ev0_5, ev0_6, .ref ak0])), (e1, .inr (4, [.int ei1, ev1_1, ev1_2, ev1_3, ev1_4, ev1_5, ev1_6, .ref ak1])), (ak0, .inr (0, [.int am0, ae0, .int 0])), (ak1, .inr (0, [.int am1, ae1, .int 0])), (sl, .inr (0, [.int sm, se, .int 0]))] H := hP
    have hK : va_K (dC, dI) vwCl [(tE, .object RX3)] s := hK
    refine W.widen (k := 1) (n := 6) (Nat.le_of_ble_eq_true rfl) (Nat.le_of_ble_eq_true rfl) ?_
    rcases hw with hw | hw
    · subst hw
      refine W.eq (g2 := F0 m 6 ls [.ref e0, .ref h0]) rfl ?_
      refine lv_iload_n hx hb dX11_standing_6 rfl (lv_at hl 2 rfl) ?_
      have hPc := hP.sub (ws' := [(h0, .inr (12, [.ref fi, tca, .ref ea, .ref sl, tmx, tsv])), (e0, .inr (4, [.int ei0, ev0_1, ev0_2, ev0_3, ev0_4, ev0_5, ev0_6, .ref ak0])), (ak0, .inr (0, [.int am0, ae0, .int 0]))]) [0, 3, 5] rfl
      have hKc := hK.sub (tys' := []) [] rfl
      have hFc := freeNil hS hA
      refine vx_callq (vx_runV (As := [.ref e0, .int a2]) (rest := []) ⟨hx, hb, hml, hown, ht⟩ (k_X11_askAt l hL d0 cO dC dI H.size h0 (.ref fi) tca (.ref ea) (.ref sl) tmx tsv e0 ak0 ei0 am0 ev0_1 ev0_2 ev0_3 ev0_4 ev0_5 ev0_6 ae0 a2) (my_V ht M_X11_askAt q1403 q36 q1401 (Nat.le_of_ble_eq_true rfl) (Nat.le_of_ble_eq_true rfl)) ⟨PREp.fb, va_recv hK hP (ci := 12) (q0 := 0) rfl rfl, fun U hU hW => ⟨rfl, PREp.mk' hE hS hFc hPc hKc U hU hW⟩⟩ rfl rfl hl.1 rfl (lv_room (Nat.le_of_ble_eq_true rfl)) dX11_standing_7 ⟨(Nat.le_of_ble_eq_true rfl), (Nat.le_of_ble_eq_true rfl)⟩) hS (fun q _ h => hFc q h) hFc (fun q _ h => hFc q h) (fun E ce q9 ux t H1 locs htt hvm hw hB hz1 hk1 hS hcell hv9 hcl9 => ?_) (fun r4 u3 t H1 locs htt hvm hw hB hz1 hk1 hS => ?_)
      · skip
        obtain rfl : E = _ := hB
        exact vx_out (fun x h => (hno x h).elim) hlocks hcell hv9 hcl9 (fun t9 ht9 hvm9 => ⟨(), trivial, rfl, ⟨by rw [ht9]; exact hS.1, fun q h1 h2 => by rw [ht9]; exact hS.2.1 q h1 h2⟩⟩) hS.2.2 (Nat.le_of_ble_eq_true rfl) (Nat.le_of_ble_eq_true rfl)
      · skip
        exact hw.elim
    · subst hw
      refine W.eq (g2 := F0 m 6 ls [.ref e1, .ref h0]) rfl ?_
      refine lv_iload_n hx hb dX11_standing_6 rfl (lv_at hl 2 rfl) ?_
      have hPc := hP.sub (ws' := [(h0, .inr (12, [.ref fi, tca, .ref ea, .ref sl, tmx, tsv])), (e1, .inr (4, [.int ei1, ev1_1, ev1_2, ev1_3, ev1_4, ev1_5, ev1_6, .ref ak1])), (ak1, .inr (0, [.int am1, ae1, .int 0]))]) [0, 4, 6] rfl
      have hKc := hK.sub (tys' := []) [] rfl
      have hFc := freeNil hS hA
      refine vx_callq (vx_runV (As := [.ref e1, .int a2]) (rest := []) ⟨hx, hb, hml, hown, ht⟩ (k_X11_askAt l hL d0 cO dC dI H.size h0 (.ref fi) tca (.ref ea) (.ref sl) tmx tsv e1 ak1 ei1 am1 ev1_1 ev1_2 ev1_3 ev1_4 ev1_5 ev1_6 ae1 a2) (my_V ht M_X11_askAt q1403 q36 q1401 (Nat.le_of_ble_eq_true rfl) (Nat.le_of_ble_eq_true rfl)) ⟨PREp.fb, va_recv hK hP (ci := 12) (q0 := 0) rfl rfl, fun U hU hW => ⟨rfl, PREp.mk' hE hS hFc hPc hKc U hU hW⟩⟩ rfl rfl hl.1 rfl (lv_room (Nat.le_of_ble_eq_true rfl)) dX11_standing_7 ⟨(Nat.le_of_ble_eq_true rfl), (Nat.le_of_ble_eq_true rfl)⟩) hS (fun q _ h => hFc q h) hFc (fun q _ h => hFc q h) (fun E ce q9 ux t H1 locs htt hvm hw hB hz1 hk1 hS hcell hv9 hcl9 => ?_) (fun r6 u5 t H1 locs htt hvm hw hB hz1 hk1 hS => ?_)
      · skip
        obtain rfl : E = _ := hB
        exact vx_out (fun x h => (hno x h).elim) hlocks hcell hv9 hcl9 (fun t9 ht9 hvm9 => ⟨(), trivial, rfl, ⟨by rw [ht9]; exact hS.1, fun q h1 h2 => by rw [ht9]; exact hS.2.1 q h1 h2⟩⟩) hS.2.2 (Nat.le_of_ble_eq_true rfl) (Nat.le_of_ble_eq_true rfl)
      · skip
        exact hw.elim
set_option maxHeartbeats 4000000 in
set_option maxRecDepth 100000 in
theorem k_X11_item (l : Launch) (hL : l.stackTraces = false) (d0 : Nat) (cO : ClassId) (dC : Nat → ClassId) (dI : Nat → Nat → Nat) (sz : Nat) (h0 ea sl : Nat) (tca tmx tsv : Value) (tE : ClassId) (fE : Nat → Option Nat) (sm : Int32) (se : Value) (fi : Nat) (fna fla fv2 fv3 fv4 fv5 : Value) (e0 ak0 : Nat) (ei0 am0 : Int32) (ev0_1 ev0_2 ev0_3 ev0_4 ev0_5 ev0_6 ae0 : Value) (e1 ak1 : Nat) (ei1 am1 : Int32) (ev1_1 ev1_2 ev1_3 ev1_4 ev1_5 ev1_6 ae1 : Value) (hf0 : fE 0 = some e0) (hf1 : fE 1 = some e1) (a1 a2 a3 : Int32) : vx_Met l yX11_item (cn yX11_item cX11_item 6 (some FieldType.int)) (rmd 7 2 12) (va_Pc [.ref h0, .int a1, .int a2, .int a3] (PREp d0 cO (dC, dI) (va_A [] sz) [(h0, .inr (12, [.ref fi, tca, .ref ea, .ref sl, tmx, tsv])), (fi, .inr (5, [fna, fla, fv2, fv3, fv4, fv5, .int 0])), (ea, .inl (tE, 2, .inr (.inr (.inr (.inr fE))))), (e0, .inr (4, [.int ei0, ev0_1, ev0_2, ev0_3, ev0_4, ev0_5, ev0_6, .ref ak0])), (e1, .inr (4, [.int ei1, ev1_1, ev1_2, ev1_3, ev1_4, ev1_5, ev1_6, .ref ak1])), (ak0, .inr (0, [.int am0, ae0, .int 0])), (ak1, .inr (0, [.int am1, ae1, .int 0])), (sl, .inr (0, [.int sm, se, .int 0]))] [(tE, .object RX3)] sz)) (va_Qi (fun (r : Int32) (_ : Unit) => False) (fun (_ : Unit) (t : State) => va_P (dC, dI) vwCl [] t.heap) (va_A [] sz)) (vx_X (fun _ : Unit => True) (fun E _ _ => E = "java/lang/IndexOutOfBoundsException") (va_A [] sz)) 2 12 (va_A [] sz) := by
  refine vx_ofW (cc := cX11_item) (maxL := 6) (ret := (some FieldType.int)) (by decide) rfl ?_
  intro p e s m args below meth c s₁ B hml hno hv
  obtain ⟨rfl, hsz, hE, hP, hK⟩ := hv
  have hx := B.exec
  have hb := B.bytes
  have hr := B.returns
  have hts := atoms_spec (ws := cn yX11_item cX11_item 6 (some FieldType.int)) B.pre
  have ht : ∀ w ∈ GT, w.before _ s = true := fun w h => hts w (List.mem_cons_of_mem _ h)
  have hown : s.vm.findClass RX11 = some m.cls := findClass_of_methodNamed B.named
  have hlocks := B.notSynchronized
  subst hsz
  generalize hAe : va_A [] s.heap.size = A at hE ⊢
  have hA : ∀ q : Nat, s.heap.size ≤ q → A q := fun q h => by rw [← hAe]; exact Or.inr h
  obtain ⟨H, hH0⟩ : ∃ H, s.heap = H := ⟨_, rfl⟩
  have hS : va_S A s.heap H [] := by rw [← hH0]; exact va_S.rf
  rw [hH0] at hP
  have hl := lv_entry ([.ref h0, .int a1, .int a2, .int a3]) (n := 6) (Nat.le_of_ble_eq_true rfl)
  rw [lg_entry_eq]
  generalize (lg_sl ([.ref h0, .int a1, .int a2, .int a3]) ++ List.replicate (6 - (lg_sl ([.ref h0, .int a1, .int a2, .int a3])).length) Slot.unset).toArray = ls at hl ⊢
  have hl : lv_has ls 6 [(0, .ref h0), (1, .int a1), (2, .int a2), (3, .int a3)] := hl
  rw [hH0]
  refine lv_aload_n hx hb dX11_item_0 rfl (lv_at hl 0 rfl) ?_
  refine lv_iload_n hx hb dX11_item_1 rfl (lv_at hl 1 rfl) ?_
  have hPc := hP.sub (ws' := [(h0, .inr (12, [.ref fi, tca, .ref ea, .ref sl, tmx, tsv])), (fi, .inr (5, [fna, fla, fv2, fv3, fv4, fv5, .int 0])), (ea, .inl (tE, 2, .inr (.inr (.inr (.inr fE))))), (e0, .inr (4, [.int ei0, ev0_1, ev0_2, ev0_3, ev0_4, ev0_5, ev0_6, .ref ak0])), (e1, .inr (4, [.int ei1, ev1_1, ev1_2, ev1_3, ev1_4, ev1_5, ev1_6, .ref ak1])), (ak0, .inr (0, [.int am0, ae0, .int 0])), (ak1, .inr (0, [.int am1, ae1, .int 0])), (sl, .inr (0, [.int sm, se, .int 0]))]) [0, 1, 2, 3, 4, 5, 6, 7] rfl
  have hKc := hK.sub (tys' := [(tE, .object RX3)]) [0] rfl
  have hFc := freeNil hS hA
  refine vx_callq (vx_runV (As := [.int a1]) (rest := []) ⟨hx, hb, hml, hown, ht⟩ (k_X11_editorAt l hL d0 cO dC dI H.size h0 ea sl tca tmx tsv tE fE sm se fi fna fla fv2 fv3 fv4 fv5 e0 ak0 ei0 am0 ev0_1 ev0_2 ev0_3 ev0_4 ev0_5 ev0_6 ae0 e1 ak1 ei1 am1 ev1_1 ev1_2 ev1_3 ev1_4 ev1_5 ev1_6 ae1 hf0 hf1 a1) (my_V ht M_X11_editorAt q1259 q32 q1257 (Nat.le_of_ble_eq_true rfl) (Nat.le_of_ble_eq_true rfl)) ⟨PREp.fb, va_recv hK hP (ci := 12) (q0 := 0) rfl rfl, fun U hU hW => ⟨rfl, PREp.mk' hE hS hFc hPc hKc U hU hW⟩⟩ rfl rfl hl.1 rfl (lv_room (Nat.le_of_ble_eq_true rfl)) dX11_item_2 ⟨(Nat.le_of_ble_eq_true rfl), (Nat.le_of_ble_eq_true rfl)⟩) hS (fun q _ h => hFc q h) hFc (fun q _ h => hFc q h) (fun E ce q9 ux t H1 locs htt hvm hw hB hz1 hk1 hS hcell hv9 hcl9 => ?_) (fun r2 u1 t H1 locs htt hvm hw hB hz1 hk1 hS => ?_)
  · skip
    obtain rfl : E = _ := hB
    exact vx_out (fun x h => (hno x h).elim) hlocks hcell hv9 hcl9 (fun t9 ht9 hvm9 => ⟨(), trivial, rfl, ⟨by rw [ht9]; exact hS.1, fun q h1 h2 => by rw [ht9]; exact hS.2.1 q h1 h2⟩⟩) hS.2.2 (Nat.le_of_ble_eq_true rfl) (Nat.le_of_ble_eq_true rfl)
  · skip
    try dsimp only at hw hB
    have hP1 := hB
    rw [htt] at hP1
    have hP := keepAll hP hk1
    generalize H1 = H at hP hS ⊢
    have hP : va_P (dC, dI) vwCl [(h0, .inr (12, [.ref fi, tca, .ref ea, .ref sl, tmx, tsv])), (fi, .inr (5, [fna, fla, fv2, fv3, fv4, fv5, .int 0])), (ea, .inl (tE, 2, .inr (.inr (.inr (.inr fE))))), (e0, .inr (4, [.int ei0, ev0_1, ev0_2, ev0_3, ev0_4, ev0_5, ev0_6, .ref ak0])), (e1, .inr (4, [.int ei1, ev1_1, ev1_2, ev1_3, ev1_4, ev1_5, ev1_6, .ref ak1])), (ak0, .inr (0, [.int am0, ae0, .int 0])), (ak1, .inr (0, [.int am1, ae1, .int 0])), (sl, .inr (0, [.int sm, se, .int 0]))] H := hP
    have hK : va_K (dC, dI) vwCl [(tE, .object RX3)] s := hK
    refine W.widen (k := 1) (n := 6) (Nat.le_of_ble_eq_true rfl) (Nat.le_of_ble_eq_true rfl) ?_
    rcases hw with hw | hw
    · subst hw
      refine W.eq (g2 := F0 m 5 ls [.ref e0]) rfl ?_
      refine lv_astore (lv' := [(4, .ref e0), (0, .ref h0), (1, .int a1), (2, .int a2), (3, .int a3)]) hx hb dX11_item_5 hl (by decide) rfl (fun ls hl => ?_)
      refine lv_aload_n hx hb dX11_item_7 rfl (lv_at hl 1 rfl) ?_
      refine lv_aload hx hb dX11_item_8 (lv_at hl 0 rfl) ?_
      refine lv_iload_n hx hb dX11_item_10 rfl (lv_at hl 3 rfl) ?_
      have hPc := hP.sub (ws' := [(h0, .inr (12, [.ref fi, tca, .ref ea, .ref sl, tmx, tsv])), (e0, .inr (4, [.int ei0, ev0_1, ev0_2, ev0_3, ev0_4, ev0_5, ev0_6, .ref ak0])), (ak0, .inr (0, [.int am0, ae0, .int 0]))]) [0, 3, 5] rfl
      have hKc := hK.sub (tys' := []) [] rfl
      have hFc := freeNil hS hA
      refine vx_callq (vx_runV (As := [.ref e0, .int a2]) (rest := []) ⟨hx, hb, hml, hown, ht⟩ (k_X11_askAt l hL d0 cO dC dI H.size h0 (.ref fi) tca (.ref ea) (.ref sl) tmx tsv e0 ak0 ei0 am0 ev0_1 ev0_2 ev0_3 ev0_4 ev0_5 ev0_6 ae0 a2) (my_V ht M_X11_askAt q1403 q36 q1401 (Nat.le_of_ble_eq_true rfl) (Nat.le_of_ble_eq_true rfl)) ⟨PREp.fb, va_recv hK hP (ci := 12) (q0 := 0) rfl rfl, fun U hU hW => ⟨rfl, PREp.mk' hE hS hFc hPc hKc U hU hW⟩⟩ rfl rfl hl.1 rfl (lv_room (Nat.le_of_ble_eq_true rfl)) dX11_item_11 ⟨(Nat.le_of_ble_eq_true rfl), (Nat.le_of_ble_eq_true rfl)⟩) hS (fun q _ h => hFc q h) hFc (fun q _ h => hFc q h) (fun E ce q9 ux t H1 locs htt hvm hw hB hz1 hk1 hS hcell hv9 hcl9 => ?_) (fun r4 u3 t H1 locs htt hvm hw hB hz1 hk1 hS => ?_)
      · skip
        obtain rfl : E = _ := hB
        exact vx_out (fun x h => (hno x h).elim) hlocks hcell hv9 hcl9 (fun t9 ht9 hvm9 => ⟨(), trivial, rfl, ⟨by rw [ht9]; exact hS.1, fun q h1 h2 => by rw [ht9]; exact hS.2.1 q h1 h2⟩⟩) hS.2.2 (Nat.le_of_ble_eq_true rfl) (Nat.le_of_ble_eq_true rfl)
      · skip
        exact hw.elim
    · subst hw
      refine W.eq (g2 := F0 m 5 ls [.ref e1]) rfl ?_
      refine lv_astore (lv' := [(4, .ref e1), (0, .ref h0), (1, .int a1), (2, .int a2), (3, .int a3)]) hx hb dX11_item_5 hl (by decide) rfl (fun ls hl => ?_)
      refine lv_aload_n hx hb dX11_item_7 rfl (lv_at hl 1 rfl) ?_
      refine lv_aload hx hb dX11_item_8 (lv_at hl 0 rfl) ?_
      refine lv_iload_n hx hb dX11_item_10 rfl (lv_at hl 3 rfl) ?_
      have hPc := hP.sub (ws' := [(h0, .inr (12, [.ref fi, tca, .ref ea, .ref sl, tmx, tsv])), (e1, .inr (4, [.int ei1, ev1_1, ev1_2, ev1_3, ev1_4, ev1_5, ev1_6, .ref ak1])), (ak1, .inr (0, [.int am1, ae1, .int 0]))]) [0, 4, 6] rfl
      have hKc := hK.sub (tys' := []) [] rfl
      have hFc := freeNil hS hA
      refine vx_callq (vx_runV (As := [.ref e1, .int a2]) (rest := []) ⟨hx, hb, hml, hown, ht⟩ (k_X11_askAt l hL d0 cO dC dI H.size h0 (.ref fi) tca (.ref ea) (.ref sl) tmx tsv e1 ak1 ei1 am1 ev1_1 ev1_2 ev1_3 ev1_4 ev1_5 ev1_6 ae1 a2) (my_V ht M_X11_askAt q1403 q36 q1401 (Nat.le_of_ble_eq_true rfl) (Nat.le_of_ble_eq_true rfl)) ⟨PREp.fb, va_recv hK hP (ci := 12) (q0 := 0) rfl rfl, fun U hU hW => ⟨rfl, PREp.mk' hE hS hFc hPc hKc U hU hW⟩⟩ rfl rfl hl.1 rfl (lv_room (Nat.le_of_ble_eq_true rfl)) dX11_item_11 ⟨(Nat.le_of_ble_eq_true rfl), (Nat.le_of_ble_eq_true rfl)⟩) hS (fun q _ h => hFc q h) hFc (fun q _ h => hFc q h) (fun E ce q9 ux t H1 locs htt hvm hw hB hz1 hk1 hS hcell hv9 hcl9 => ?_) (fun r6 u5 t H1 locs htt hvm hw hB hz1 hk1 hS => ?_)
      · skip
        obtain rfl : E = _ := hB
        exact vx_out (fun x h => (hno x h).elim) hlocks hcell hv9 hcl9 (fun t9 ht9 hvm9 => ⟨(), trivial, rfl, ⟨by rw [ht9]; exact hS.1, fun q h1 h2 => by rw [ht9]; exact hS.2.1 q h1 h2⟩⟩) hS.2.2 (Nat.le_of_ble_eq_true rfl) (Nat.le_of_ble_eq_true rfl)
      · skip
        exact hw.elim
set_option maxHeartbeats 4000000 in
set_option maxRecDepth 100000 in
theorem k_X11_value (l : Launch) (hL : l.stackTraces = false) (d0 : Nat) (cO : ClassId) (dC : Nat → ClassId) (dI : Nat → Nat → Nat) (sz : Nat) (h0 ea sl : Nat) (tca tmx tsv : Value) (tE : ClassId) (fE : Nat → Option Nat) (sm : Int32) (se : Value) (fi : Nat) (fna fla fv2 fv3 fv4 fv5 : Value) (e0 ak0 : Nat) (ei0 am0 : Int32) (ev0_1 ev0_2 ev0_3 ev0_4 ev0_5 ev0_6 ae0 : Value) (e1 ak1 : Nat) (ei1 am1 : Int32) (ev1_1 ev1_2 ev1_3 ev1_4 ev1_5 ev1_6 ae1 : Value) (hf0 : fE 0 = some e0) (hf1 : fE 1 = some e1) (a1 a2 a3 : Int32) : vx_Met l yX11_value (cn yX11_value cX11_value 5 (some FieldType.int)) (rmd 7 2 12) (va_Pc [.ref h0, .int a1, .int a2, .int a3] (PREp d0 cO (dC, dI) (va_A [] sz) [(h0, .inr (12, [.ref fi, tca, .ref ea, .ref sl, tmx, tsv])), (fi, .inr (5, [fna, fla, fv2, fv3, fv4, fv5, .int 0])), (ea, .inl (tE, 2, .inr (.inr (.inr (.inr fE))))), (e0, .inr (4, [.int ei0, ev0_1, ev0_2, ev0_3, ev0_4, ev0_5, ev0_6, .ref ak0])), (e1, .inr (4, [.int ei1, ev1_1, ev1_2, ev1_3, ev1_4, ev1_5, ev1_6, .ref ak1])), (ak0, .inr (0, [.int am0, ae0, .int 0])), (ak1, .inr (0, [.int am1, ae1, .int 0])), (sl, .inr (0, [.int sm, se, .int 0]))] [(tE, .object RX3)] sz)) (va_Qi (fun (r : Int32) (_ : Unit) => False) (fun (_ : Unit) (t : State) => va_P (dC, dI) vwCl [] t.heap) (va_A [] sz)) (vx_X (fun _ : Unit => True) (fun E _ _ => E = "java/lang/IndexOutOfBoundsException") (va_A [] sz)) 2 12 (va_A [] sz) := by
  refine vx_ofW (cc := cX11_value) (maxL := 5) (ret := (some FieldType.int)) (by decide) rfl ?_
  intro p e s m args below meth c s₁ B hml hno hv
  obtain ⟨rfl, hsz, hE, hP, hK⟩ := hv
  have hx := B.exec
  have hb := B.bytes
  have hr := B.returns
  have hts := atoms_spec (ws := cn yX11_value cX11_value 5 (some FieldType.int)) B.pre
  have ht : ∀ w ∈ GT, w.before _ s = true := fun w h => hts w (List.mem_cons_of_mem _ h)
  have hown : s.vm.findClass RX11 = some m.cls := findClass_of_methodNamed B.named
  have hlocks := B.notSynchronized
  subst hsz
  generalize hAe : va_A [] s.heap.size = A at hE ⊢
  have hA : ∀ q : Nat, s.heap.size ≤ q → A q := fun q h => by rw [← hAe]; exact Or.inr h
  obtain ⟨H, hH0⟩ : ∃ H, s.heap = H := ⟨_, rfl⟩
  have hS : va_S A s.heap H [] := by rw [← hH0]; exact va_S.rf
  rw [hH0] at hP
  have hl := lv_entry ([.ref h0, .int a1, .int a2, .int a3]) (n := 5) (Nat.le_of_ble_eq_true rfl)
  rw [lg_entry_eq]
  generalize (lg_sl ([.ref h0, .int a1, .int a2, .int a3]) ++ List.replicate (5 - (lg_sl ([.ref h0, .int a1, .int a2, .int a3])).length) Slot.unset).toArray = ls at hl ⊢
  have hl : lv_has ls 5 [(0, .ref h0), (1, .int a1), (2, .int a2), (3, .int a3)] := hl
  rw [hH0]
  refine lv_aload_n hx hb dX11_value_0 rfl (lv_at hl 0 rfl) ?_
  refine lv_aload_n hx hb dX11_value_1 rfl (lv_at hl 0 rfl) ?_
  refine lv_iload_n hx hb dX11_value_2 rfl (lv_at hl 1 rfl) ?_
  have hPc := hP.sub (ws' := [(h0, .inr (12, [.ref fi, tca, .ref ea, .ref sl, tmx, tsv])), (fi, .inr (5, [fna, fla, fv2, fv3, fv4, fv5, .int 0])), (ea, .inl (tE, 2, .inr (.inr (.inr (.inr fE))))), (e0, .inr (4, [.int ei0, ev0_1, ev0_2, ev0_3, ev0_4, ev0_5, ev0_6, .ref ak0])), (e1, .inr (4, [.int ei1, ev1_1, ev1_2, ev1_3, ev1_4, ev1_5, ev1_6, .ref ak1])), (ak0, .inr (0, [.int am0, ae0, .int 0])), (ak1, .inr (0, [.int am1, ae1, .int 0])), (sl, .inr (0, [.int sm, se, .int 0]))]) [0, 1, 2, 3, 4, 5, 6, 7] rfl
  have hKc := hK.sub (tys' := [(tE, .object RX3)]) [0] rfl
  have hFc := freeNil hS hA
  refine vx_callq (vx_runV (As := [.int a1]) (rest := [.ref h0]) ⟨hx, hb, hml, hown, ht⟩ (k_X11_editorAt l hL d0 cO dC dI H.size h0 ea sl tca tmx tsv tE fE sm se fi fna fla fv2 fv3 fv4 fv5 e0 ak0 ei0 am0 ev0_1 ev0_2 ev0_3 ev0_4 ev0_5 ev0_6 ae0 e1 ak1 ei1 am1 ev1_1 ev1_2 ev1_3 ev1_4 ev1_5 ev1_6 ae1 hf0 hf1 a1) (my_V ht M_X11_editorAt q1259 q32 q1257 (Nat.le_of_ble_eq_true rfl) (Nat.le_of_ble_eq_true rfl)) ⟨PREp.fb, va_recv hK hP (ci := 12) (q0 := 0) rfl rfl, fun U hU hW => ⟨rfl, PREp.mk' hE hS hFc hPc hKc U hU hW⟩⟩ rfl rfl hl.1 rfl (lv_room (Nat.le_of_ble_eq_true rfl)) dX11_value_3 ⟨(Nat.le_of_ble_eq_true rfl), (Nat.le_of_ble_eq_true rfl)⟩) hS (fun q _ h => hFc q h) hFc (fun q _ h => hFc q h) (fun E ce q9 ux t H1 locs htt hvm hw hB hz1 hk1 hS hcell hv9 hcl9 => ?_) (fun r2 u1 t H1 locs htt hvm hw hB hz1 hk1 hS => ?_)
  · skip
    obtain rfl : E = _ := hB
    exact vx_out (fun x h => (hno x h).elim) hlocks hcell hv9 hcl9 (fun t9 ht9 hvm9 => ⟨(), trivial, rfl, ⟨by rw [ht9]; exact hS.1, fun q h1 h2 => by rw [ht9]; exact hS.2.1 q h1 h2⟩⟩) hS.2.2 (Nat.le_of_ble_eq_true rfl) (Nat.le_of_ble_eq_true rfl)
  · skip
    try dsimp only at hw hB
    have hP1 := hB
    rw [htt] at hP1
    have hP := keepAll hP hk1
    generalize H1 = H at hP hS ⊢
    have hP : va_P (dC, dI) vwCl [(h0, .inr (12, [.ref fi, tca, .ref ea, .ref sl, tmx, tsv])), (fi, .inr (5, [fna, fla, fv2, fv3, fv4, fv5, .int 0])), (ea, .inl (tE, 2, .inr (.inr (.inr (.inr fE))))), (e0, .inr (4, [.int ei0, ev0_1, ev0_2, ev0_3, ev0_4, ev0_5, ev0_6, .ref ak0])), (e1, .inr (4, [.int ei1, ev1_1, ev1_2, ev1_3, ev1_4, ev1_5, ev1_6, .ref ak1])), (ak0, .inr (0, [.int am0, ae0, .int 0])), (ak1, .inr (0, [.int am1, ae1, .int 0])), (sl, .inr (0, [.int sm, se, .int 0]))] H := hP
    have hK : va_K (dC, dI) vwCl [(tE, .object RX3)] s := hK
    refine W.widen (k := 1) (n := 6) (Nat.le_of_ble_eq_true rfl) (Nat.le_of_ble_eq_true rfl) ?_
    rcases hw with hw | hw
    · subst hw
      refine W.eq (g2 := F0 m 6 ls [.ref e0, .ref h0]) rfl ?_
      refine lv_iload_n hx hb dX11_value_6 rfl (lv_at hl 2 rfl) ?_
      have hPc := hP.sub (ws' := [(h0, .inr (12, [.ref fi, tca, .ref ea, .ref sl, tmx, tsv])), (e0, .inr (4, [.int ei0, ev0_1, ev0_2, ev0_3, ev0_4, ev0_5, ev0_6, .ref ak0])), (ak0, .inr (0, [.int am0, ae0, .int 0]))]) [0, 3, 5] rfl
      have hKc := hK.sub (tys' := []) [] rfl
      have hFc := freeNil hS hA
      refine vx_callq (vx_runV (As := [.ref e0, .int a2]) (rest := []) ⟨hx, hb, hml, hown, ht⟩ (k_X11_askAt l hL d0 cO dC dI H.size h0 (.ref fi) tca (.ref ea) (.ref sl) tmx tsv e0 ak0 ei0 am0 ev0_1 ev0_2 ev0_3 ev0_4 ev0_5 ev0_6 ae0 a2) (my_V ht M_X11_askAt q1403 q36 q1401 (Nat.le_of_ble_eq_true rfl) (Nat.le_of_ble_eq_true rfl)) ⟨PREp.fb, va_recv hK hP (ci := 12) (q0 := 0) rfl rfl, fun U hU hW => ⟨rfl, PREp.mk' hE hS hFc hPc hKc U hU hW⟩⟩ rfl rfl hl.1 rfl (lv_room (Nat.le_of_ble_eq_true rfl)) dX11_value_7 ⟨(Nat.le_of_ble_eq_true rfl), (Nat.le_of_ble_eq_true rfl)⟩) hS (fun q _ h => hFc q h) hFc (fun q _ h => hFc q h) (fun E ce q9 ux t H1 locs htt hvm hw hB hz1 hk1 hS hcell hv9 hcl9 => ?_) (fun r4 u3 t H1 locs htt hvm hw hB hz1 hk1 hS => ?_)
      · skip
        obtain rfl : E = _ := hB
        exact vx_out (fun x h => (hno x h).elim) hlocks hcell hv9 hcl9 (fun t9 ht9 hvm9 => ⟨(), trivial, rfl, ⟨by rw [ht9]; exact hS.1, fun q h1 h2 => by rw [ht9]; exact hS.2.1 q h1 h2⟩⟩) hS.2.2 (Nat.le_of_ble_eq_true rfl) (Nat.le_of_ble_eq_true rfl)
      · skip
        exact hw.elim
    · subst hw
      refine W.eq (g2 := F0 m 6 ls [.ref e1, .ref h0]) rfl ?_
      refine lv_iload_n hx hb dX11_value_6 rfl (lv_at hl 2 rfl) ?_
      have hPc := hP.sub (ws' := [(h0, .inr (12, [.ref fi, tca, .ref ea, .ref sl, tmx, tsv])), (e1, .inr (4, [.int ei1, ev1_1, ev1_2, ev1_3, ev1_4, ev1_5, ev1_6, .ref ak1])), (ak1, .inr (0, [.int am1, ae1, .int 0]))]) [0, 4, 6] rfl
      have hKc := hK.sub (tys' := []) [] rfl
      have hFc := freeNil hS hA
      refine vx_callq (vx_runV (As := [.ref e1, .int a2]) (rest := []) ⟨hx, hb, hml, hown, ht⟩ (k_X11_askAt l hL d0 cO dC dI H.size h0 (.ref fi) tca (.ref ea) (.ref sl) tmx tsv e1 ak1 ei1 am1 ev1_1 ev1_2 ev1_3 ev1_4 ev1_5 ev1_6 ae1 a2) (my_V ht M_X11_askAt q1403 q36 q1401 (Nat.le_of_ble_eq_true rfl) (Nat.le_of_ble_eq_true rfl)) ⟨PREp.fb, va_recv hK hP (ci := 12) (q0 := 0) rfl rfl, fun U hU hW => ⟨rfl, PREp.mk' hE hS hFc hPc hKc U hU hW⟩⟩ rfl rfl hl.1 rfl (lv_room (Nat.le_of_ble_eq_true rfl)) dX11_value_7 ⟨(Nat.le_of_ble_eq_true rfl), (Nat.le_of_ble_eq_true rfl)⟩) hS (fun q _ h => hFc q h) hFc (fun q _ h => hFc q h) (fun E ce q9 ux t H1 locs htt hvm hw hB hz1 hk1 hS hcell hv9 hcl9 => ?_) (fun r6 u5 t H1 locs htt hvm hw hB hz1 hk1 hS => ?_)
      · skip
        obtain rfl : E = _ := hB
        exact vx_out (fun x h => (hno x h).elim) hlocks hcell hv9 hcl9 (fun t9 ht9 hvm9 => ⟨(), trivial, rfl, ⟨by rw [ht9]; exact hS.1, fun q h1 h2 => by rw [ht9]; exact hS.2.1 q h1 h2⟩⟩) hS.2.2 (Nat.le_of_ble_eq_true rfl) (Nat.le_of_ble_eq_true rfl)
      · skip
        exact hw.elim
set_option maxHeartbeats 4000000 in
set_option maxRecDepth 100000 in
theorem k_X11_token (l : Launch) (hL : l.stackTraces = false) (d0 : Nat) (cO : ClassId) (dC : Nat → ClassId) (dI : Nat → Nat → Nat) (sz : Nat) (h0 ea sl : Nat) (tca tmx tsv : Value) (tE : ClassId) (fE : Nat → Option Nat) (sm : Int32) (se : Value) (fi : Nat) (fna fla fv2 fv3 fv4 fv5 : Value) (e0 ak0 : Nat) (ei0 am0 : Int32) (ev0_1 ev0_2 ev0_3 ev0_4 ev0_5 ev0_6 ae0 : Value) (e1 ak1 : Nat) (ei1 am1 : Int32) (ev1_1 ev1_2 ev1_3 ev1_4 ev1_5 ev1_6 ae1 : Value) (hf0 : fE 0 = some e0) (hf1 : fE 1 = some e1) (a1 a2 a3 : Int32) : vx_Met l yX11_token (cn yX11_token cX11_token 6 (some FieldType.int)) (rmd 7 2 12) (va_Pc [.ref h0, .int a1, .int a2, .int a3] (PREp d0 cO (dC, dI) (va_A [] sz) [(h0, .inr (12, [.ref fi, tca, .ref ea, .ref sl, tmx, tsv])), (fi, .inr (5, [fna, fla, fv2, fv3, fv4, fv5, .int 0])), (ea, .inl (tE, 2, .inr (.inr (.inr (.inr fE))))), (e0, .inr (4, [.int ei0, ev0_1, ev0_2, ev0_3, ev0_4, ev0_5, ev0_6, .ref ak0])), (e1, .inr (4, [.int ei1, ev1_1, ev1_2, ev1_3, ev1_4, ev1_5, ev1_6, .ref ak1])), (ak0, .inr (0, [.int am0, ae0, .int 0])), (ak1, .inr (0, [.int am1, ae1, .int 0])), (sl, .inr (0, [.int sm, se, .int 0]))] [(tE, .object RX3)] sz)) (va_Qi (fun (r : Int32) (_ : Unit) => False) (fun (_ : Unit) (t : State) => va_P (dC, dI) vwCl [] t.heap) (va_A [] sz)) (vx_X (fun _ : Unit => True) (fun E _ _ => E = "java/lang/IndexOutOfBoundsException") (va_A [] sz)) 2 12 (va_A [] sz) := by
  refine vx_ofW (cc := cX11_token) (maxL := 6) (ret := (some FieldType.int)) (by decide) rfl ?_
  intro p e s m args below meth c s₁ B hml hno hv
  obtain ⟨rfl, hsz, hE, hP, hK⟩ := hv
  have hx := B.exec
  have hb := B.bytes
  have hr := B.returns
  have hts := atoms_spec (ws := cn yX11_token cX11_token 6 (some FieldType.int)) B.pre
  have ht : ∀ w ∈ GT, w.before _ s = true := fun w h => hts w (List.mem_cons_of_mem _ h)
  have hown : s.vm.findClass RX11 = some m.cls := findClass_of_methodNamed B.named
  have hlocks := B.notSynchronized
  subst hsz
  generalize hAe : va_A [] s.heap.size = A at hE ⊢
  have hA : ∀ q : Nat, s.heap.size ≤ q → A q := fun q h => by rw [← hAe]; exact Or.inr h
  obtain ⟨H, hH0⟩ : ∃ H, s.heap = H := ⟨_, rfl⟩
  have hS : va_S A s.heap H [] := by rw [← hH0]; exact va_S.rf
  rw [hH0] at hP
  have hl := lv_entry ([.ref h0, .int a1, .int a2, .int a3]) (n := 6) (Nat.le_of_ble_eq_true rfl)
  rw [lg_entry_eq]
  generalize (lg_sl ([.ref h0, .int a1, .int a2, .int a3]) ++ List.replicate (6 - (lg_sl ([.ref h0, .int a1, .int a2, .int a3])).length) Slot.unset).toArray = ls at hl ⊢
  have hl : lv_has ls 6 [(0, .ref h0), (1, .int a1), (2, .int a2), (3, .int a3)] := hl
  rw [hH0]
  refine lv_aload_n hx hb dX11_token_0 rfl (lv_at hl 0 rfl) ?_
  refine lv_iload_n hx hb dX11_token_1 rfl (lv_at hl 1 rfl) ?_
  have hPc := hP.sub (ws' := [(h0, .inr (12, [.ref fi, tca, .ref ea, .ref sl, tmx, tsv])), (fi, .inr (5, [fna, fla, fv2, fv3, fv4, fv5, .int 0])), (ea, .inl (tE, 2, .inr (.inr (.inr (.inr fE))))), (e0, .inr (4, [.int ei0, ev0_1, ev0_2, ev0_3, ev0_4, ev0_5, ev0_6, .ref ak0])), (e1, .inr (4, [.int ei1, ev1_1, ev1_2, ev1_3, ev1_4, ev1_5, ev1_6, .ref ak1])), (ak0, .inr (0, [.int am0, ae0, .int 0])), (ak1, .inr (0, [.int am1, ae1, .int 0])), (sl, .inr (0, [.int sm, se, .int 0]))]) [0, 1, 2, 3, 4, 5, 6, 7] rfl
  have hKc := hK.sub (tys' := [(tE, .object RX3)]) [0] rfl
  have hFc := freeNil hS hA
  refine vx_callq (vx_runV (As := [.int a1]) (rest := []) ⟨hx, hb, hml, hown, ht⟩ (k_X11_editorAt l hL d0 cO dC dI H.size h0 ea sl tca tmx tsv tE fE sm se fi fna fla fv2 fv3 fv4 fv5 e0 ak0 ei0 am0 ev0_1 ev0_2 ev0_3 ev0_4 ev0_5 ev0_6 ae0 e1 ak1 ei1 am1 ev1_1 ev1_2 ev1_3 ev1_4 ev1_5 ev1_6 ae1 hf0 hf1 a1) (my_V ht M_X11_editorAt q1259 q32 q1257 (Nat.le_of_ble_eq_true rfl) (Nat.le_of_ble_eq_true rfl)) ⟨PREp.fb, va_recv hK hP (ci := 12) (q0 := 0) rfl rfl, fun U hU hW => ⟨rfl, PREp.mk' hE hS hFc hPc hKc U hU hW⟩⟩ rfl rfl hl.1 rfl (lv_room (Nat.le_of_ble_eq_true rfl)) dX11_token_2 ⟨(Nat.le_of_ble_eq_true rfl), (Nat.le_of_ble_eq_true rfl)⟩) hS (fun q _ h => hFc q h) hFc (fun q _ h => hFc q h) (fun E ce q9 ux t H1 locs htt hvm hw hB hz1 hk1 hS hcell hv9 hcl9 => ?_) (fun r2 u1 t H1 locs htt hvm hw hB hz1 hk1 hS => ?_)
  · skip
    obtain rfl : E = _ := hB
    exact vx_out (fun x h => (hno x h).elim) hlocks hcell hv9 hcl9 (fun t9 ht9 hvm9 => ⟨(), trivial, rfl, ⟨by rw [ht9]; exact hS.1, fun q h1 h2 => by rw [ht9]; exact hS.2.1 q h1 h2⟩⟩) hS.2.2 (Nat.le_of_ble_eq_true rfl) (Nat.le_of_ble_eq_true rfl)
  · skip
    try dsimp only at hw hB
    have hP1 := hB
    rw [htt] at hP1
    have hP := keepAll hP hk1
    generalize H1 = H at hP hS ⊢
    have hP : va_P (dC, dI) vwCl [(h0, .inr (12, [.ref fi, tca, .ref ea, .ref sl, tmx, tsv])), (fi, .inr (5, [fna, fla, fv2, fv3, fv4, fv5, .int 0])), (ea, .inl (tE, 2, .inr (.inr (.inr (.inr fE))))), (e0, .inr (4, [.int ei0, ev0_1, ev0_2, ev0_3, ev0_4, ev0_5, ev0_6, .ref ak0])), (e1, .inr (4, [.int ei1, ev1_1, ev1_2, ev1_3, ev1_4, ev1_5, ev1_6, .ref ak1])), (ak0, .inr (0, [.int am0, ae0, .int 0])), (ak1, .inr (0, [.int am1, ae1, .int 0])), (sl, .inr (0, [.int sm, se, .int 0]))] H := hP
    have hK : va_K (dC, dI) vwCl [(tE, .object RX3)] s := hK
    refine W.widen (k := 1) (n := 6) (Nat.le_of_ble_eq_true rfl) (Nat.le_of_ble_eq_true rfl) ?_
    rcases hw with hw | hw
    · subst hw
      refine W.eq (g2 := F0 m 5 ls [.ref e0]) rfl ?_
      refine lv_astore (lv' := [(4, .ref e0), (0, .ref h0), (1, .int a1), (2, .int a2), (3, .int a3)]) hx hb dX11_token_5 hl (by decide) rfl (fun ls hl => ?_)
      refine lv_aload_n hx hb dX11_token_7 rfl (lv_at hl 1 rfl) ?_
      refine lv_aload hx hb dX11_token_8 (lv_at hl 0 rfl) ?_
      refine lv_iload_n hx hb dX11_token_10 rfl (lv_at hl 3 rfl) ?_
      have hPc := hP.sub (ws' := [(h0, .inr (12, [.ref fi, tca, .ref ea, .ref sl, tmx, tsv])), (e0, .inr (4, [.int ei0, ev0_1, ev0_2, ev0_3, ev0_4, ev0_5, ev0_6, .ref ak0])), (ak0, .inr (0, [.int am0, ae0, .int 0]))]) [0, 3, 5] rfl
      have hKc := hK.sub (tys' := []) [] rfl
      have hFc := freeNil hS hA
      refine vx_callq (vx_runV (As := [.ref e0, .int a2]) (rest := []) ⟨hx, hb, hml, hown, ht⟩ (k_X11_askAt l hL d0 cO dC dI H.size h0 (.ref fi) tca (.ref ea) (.ref sl) tmx tsv e0 ak0 ei0 am0 ev0_1 ev0_2 ev0_3 ev0_4 ev0_5 ev0_6 ae0 a2) (my_V ht M_X11_askAt q1403 q36 q1401 (Nat.le_of_ble_eq_true rfl) (Nat.le_of_ble_eq_true rfl)) ⟨PREp.fb, va_recv hK hP (ci := 12) (q0 := 0) rfl rfl, fun U hU hW => ⟨rfl, PREp.mk' hE hS hFc hPc hKc U hU hW⟩⟩ rfl rfl hl.1 rfl (lv_room (Nat.le_of_ble_eq_true rfl)) dX11_token_11 ⟨(Nat.le_of_ble_eq_true rfl), (Nat.le_of_ble_eq_true rfl)⟩) hS (fun q _ h => hFc q h) hFc (fun q _ h => hFc q h) (fun E ce q9 ux t H1 locs htt hvm hw hB hz1 hk1 hS hcell hv9 hcl9 => ?_) (fun r4 u3 t H1 locs htt hvm hw hB hz1 hk1 hS => ?_)
      · skip
        obtain rfl : E = _ := hB
        exact vx_out (fun x h => (hno x h).elim) hlocks hcell hv9 hcl9 (fun t9 ht9 hvm9 => ⟨(), trivial, rfl, ⟨by rw [ht9]; exact hS.1, fun q h1 h2 => by rw [ht9]; exact hS.2.1 q h1 h2⟩⟩) hS.2.2 (Nat.le_of_ble_eq_true rfl) (Nat.le_of_ble_eq_true rfl)
      · skip
        exact hw.elim
    · subst hw
      refine W.eq (g2 := F0 m 5 ls [.ref e1]) rfl ?_
      refine lv_astore (lv' := [(4, .ref e1), (0, .ref h0), (1, .int a1), (2, .int a2), (3, .int a3)]) hx hb dX11_token_5 hl (by decide) rfl (fun ls hl => ?_)
      refine lv_aload_n hx hb dX11_token_7 rfl (lv_at hl 1 rfl) ?_
      refine lv_aload hx hb dX11_token_8 (lv_at hl 0 rfl) ?_
      refine lv_iload_n hx hb dX11_token_10 rfl (lv_at hl 3 rfl) ?_
      have hPc := hP.sub (ws' := [(h0, .inr (12, [.ref fi, tca, .ref ea, .ref sl, tmx, tsv])), (e1, .inr (4, [.int ei1, ev1_1, ev1_2, ev1_3, ev1_4, ev1_5, ev1_6, .ref ak1])), (ak1, .inr (0, [.int am1, ae1, .int 0]))]) [0, 4, 6] rfl
      have hKc := hK.sub (tys' := []) [] rfl
      have hFc := freeNil hS hA
      refine vx_callq (vx_runV (As := [.ref e1, .int a2]) (rest := []) ⟨hx, hb, hml, hown, ht⟩ (k_X11_askAt l hL d0 cO dC dI H.size h0 (.ref fi) tca (.ref ea) (.ref sl) tmx tsv e1 ak1 ei1 am1 ev1_1 ev1_2 ev1_3 ev1_4 ev1_5 ev1_6 ae1 a2) (my_V ht M_X11_askAt q1403 q36 q1401 (Nat.le_of_ble_eq_true rfl) (Nat.le_of_ble_eq_true rfl)) ⟨PREp.fb, va_recv hK hP (ci := 12) (q0 := 0) rfl rfl, fun U hU hW => ⟨rfl, PREp.mk' hE hS hFc hPc hKc U hU hW⟩⟩ rfl rfl hl.1 rfl (lv_room (Nat.le_of_ble_eq_true rfl)) dX11_token_11 ⟨(Nat.le_of_ble_eq_true rfl), (Nat.le_of_ble_eq_true rfl)⟩) hS (fun q _ h => hFc q h) hFc (fun q _ h => hFc q h) (fun E ce q9 ux t H1 locs htt hvm hw hB hz1 hk1 hS hcell hv9 hcl9 => ?_) (fun r6 u5 t H1 locs htt hvm hw hB hz1 hk1 hS => ?_)
      · skip
        obtain rfl : E = _ := hB
        exact vx_out (fun x h => (hno x h).elim) hlocks hcell hv9 hcl9 (fun t9 ht9 hvm9 => ⟨(), trivial, rfl, ⟨by rw [ht9]; exact hS.1, fun q h1 h2 => by rw [ht9]; exact hS.2.1 q h1 h2⟩⟩) hS.2.2 (Nat.le_of_ble_eq_true rfl) (Nat.le_of_ble_eq_true rfl)
      · skip
        exact hw.elim
set_option maxHeartbeats 4000000 in
set_option maxRecDepth 100000 in
theorem k_X11_id (l : Launch) (hL : l.stackTraces = false) (d0 : Nat) (cO : ClassId) (dC : Nat → ClassId) (dI : Nat → Nat → Nat) (sz : Nat) (h0 ea sl : Nat) (tca tmx tsv : Value) (tE : ClassId) (fE : Nat → Option Nat) (sm : Int32) (se : Value) (fi : Nat) (fna fla fv2 fv3 fv4 fv5 : Value) (e0 ak0 : Nat) (ei0 am0 : Int32) (ev0_1 ev0_2 ev0_3 ev0_4 ev0_5 ev0_6 ae0 : Value) (e1 ak1 : Nat) (ei1 am1 : Int32) (ev1_1 ev1_2 ev1_3 ev1_4 ev1_5 ev1_6 ae1 : Value) (hf0 : fE 0 = some e0) (hf1 : fE 1 = some e1) (a1 a2 a3 : Int32) : vx_Met l yX11_id (cn yX11_id cX11_id 5 (some FieldType.int)) (rmd 7 2 12) (va_Pc [.ref h0, .int a1, .int a2, .int a3] (PREp d0 cO (dC, dI) (va_A [] sz) [(h0, .inr (12, [.ref fi, tca, .ref ea, .ref sl, tmx, tsv])), (fi, .inr (5, [fna, fla, fv2, fv3, fv4, fv5, .int 0])), (ea, .inl (tE, 2, .inr (.inr (.inr (.inr fE))))), (e0, .inr (4, [.int ei0, ev0_1, ev0_2, ev0_3, ev0_4, ev0_5, ev0_6, .ref ak0])), (e1, .inr (4, [.int ei1, ev1_1, ev1_2, ev1_3, ev1_4, ev1_5, ev1_6, .ref ak1])), (ak0, .inr (0, [.int am0, ae0, .int 0])), (ak1, .inr (0, [.int am1, ae1, .int 0])), (sl, .inr (0, [.int sm, se, .int 0]))] [(tE, .object RX3)] sz)) (va_Qi (fun (r : Int32) (_ : Unit) => False) (fun (_ : Unit) (t : State) => va_P (dC, dI) vwCl [] t.heap) (va_A [] sz)) (vx_X (fun _ : Unit => True) (fun E _ _ => E = "java/lang/IndexOutOfBoundsException") (va_A [] sz)) 2 12 (va_A [] sz) := by
  refine vx_ofW (cc := cX11_id) (maxL := 5) (ret := (some FieldType.int)) (by decide) rfl ?_
  intro p e s m args below meth c s₁ B hml hno hv
  obtain ⟨rfl, hsz, hE, hP, hK⟩ := hv
  have hx := B.exec
  have hb := B.bytes
  have hr := B.returns
  have hts := atoms_spec (ws := cn yX11_id cX11_id 5 (some FieldType.int)) B.pre
  have ht : ∀ w ∈ GT, w.before _ s = true := fun w h => hts w (List.mem_cons_of_mem _ h)
  have hown : s.vm.findClass RX11 = some m.cls := findClass_of_methodNamed B.named
  have hlocks := B.notSynchronized
  subst hsz
  generalize hAe : va_A [] s.heap.size = A at hE ⊢
  have hA : ∀ q : Nat, s.heap.size ≤ q → A q := fun q h => by rw [← hAe]; exact Or.inr h
  obtain ⟨H, hH0⟩ : ∃ H, s.heap = H := ⟨_, rfl⟩
  have hS : va_S A s.heap H [] := by rw [← hH0]; exact va_S.rf
  rw [hH0] at hP
  have hl := lv_entry ([.ref h0, .int a1, .int a2, .int a3]) (n := 5) (Nat.le_of_ble_eq_true rfl)
  rw [lg_entry_eq]
  generalize (lg_sl ([.ref h0, .int a1, .int a2, .int a3]) ++ List.replicate (5 - (lg_sl ([.ref h0, .int a1, .int a2, .int a3])).length) Slot.unset).toArray = ls at hl ⊢
  have hl : lv_has ls 5 [(0, .ref h0), (1, .int a1), (2, .int a2), (3, .int a3)] := hl
  rw [hH0]
  refine lv_aload_n hx hb dX11_id_0 rfl (lv_at hl 0 rfl) ?_
  refine lv_iload_n hx hb dX11_id_1 rfl (lv_at hl 1 rfl) ?_
  have hPc := hP.sub (ws' := [(h0, .inr (12, [.ref fi, tca, .ref ea, .ref sl, tmx, tsv])), (fi, .inr (5, [fna, fla, fv2, fv3, fv4, fv5, .int 0])), (ea, .inl (tE, 2, .inr (.inr (.inr (.inr fE))))), (e0, .inr (4, [.int ei0, ev0_1, ev0_2, ev0_3, ev0_4, ev0_5, ev0_6, .ref ak0])), (e1, .inr (4, [.int ei1, ev1_1, ev1_2, ev1_3, ev1_4, ev1_5, ev1_6, .ref ak1])), (ak0, .inr (0, [.int am0, ae0, .int 0])), (ak1, .inr (0, [.int am1, ae1, .int 0])), (sl, .inr (0, [.int sm, se, .int 0]))]) [0, 1, 2, 3, 4, 5, 6, 7] rfl
  have hKc := hK.sub (tys' := [(tE, .object RX3)]) [0] rfl
  have hFc := freeNil hS hA
  refine vx_callq (vx_runV (As := [.int a1]) (rest := []) ⟨hx, hb, hml, hown, ht⟩ (k_X11_editorAt l hL d0 cO dC dI H.size h0 ea sl tca tmx tsv tE fE sm se fi fna fla fv2 fv3 fv4 fv5 e0 ak0 ei0 am0 ev0_1 ev0_2 ev0_3 ev0_4 ev0_5 ev0_6 ae0 e1 ak1 ei1 am1 ev1_1 ev1_2 ev1_3 ev1_4 ev1_5 ev1_6 ae1 hf0 hf1 a1) (my_V ht M_X11_editorAt q1259 q32 q1257 (Nat.le_of_ble_eq_true rfl) (Nat.le_of_ble_eq_true rfl)) ⟨PREp.fb, va_recv hK hP (ci := 12) (q0 := 0) rfl rfl, fun U hU hW => ⟨rfl, PREp.mk' hE hS hFc hPc hKc U hU hW⟩⟩ rfl rfl hl.1 rfl (lv_room (Nat.le_of_ble_eq_true rfl)) dX11_id_2 ⟨(Nat.le_of_ble_eq_true rfl), (Nat.le_of_ble_eq_true rfl)⟩) hS (fun q _ h => hFc q h) hFc (fun q _ h => hFc q h) (fun E ce q9 ux t H1 locs htt hvm hw hB hz1 hk1 hS hcell hv9 hcl9 => ?_) (fun r2 u1 t H1 locs htt hvm hw hB hz1 hk1 hS => ?_)
  · skip
    obtain rfl : E = _ := hB
    exact vx_out (fun x h => (hno x h).elim) hlocks hcell hv9 hcl9 (fun t9 ht9 hvm9 => ⟨(), trivial, rfl, ⟨by rw [ht9]; exact hS.1, fun q h1 h2 => by rw [ht9]; exact hS.2.1 q h1 h2⟩⟩) hS.2.2 (Nat.le_of_ble_eq_true rfl) (Nat.le_of_ble_eq_true rfl)
  · skip
    try dsimp only at hw hB
    have hP1 := hB
    rw [htt] at hP1
    have hP := keepAll hP hk1
    generalize H1 = H at hP hS ⊢
    have hP : va_P (dC, dI) vwCl [(h0, .inr (12, [.ref fi, tca, .ref ea, .ref sl, tmx, tsv])), (fi, .inr (5, [fna, fla, fv2, fv3, fv4, fv5, .int 0])), (ea, .inl (tE, 2, .inr (.inr (.inr (.inr fE))))), (e0, .inr (4, [.int ei0, ev0_1, ev0_2, ev0_3, ev0_4, ev0_5, ev0_6, .ref ak0])), (e1, .inr (4, [.int ei1, ev1_1, ev1_2, ev1_3, ev1_4, ev1_5, ev1_6, .ref ak1])), (ak0, .inr (0, [.int am0, ae0, .int 0])), (ak1, .inr (0, [.int am1, ae1, .int 0])), (sl, .inr (0, [.int sm, se, .int 0]))] H := hP
    have hK : va_K (dC, dI) vwCl [(tE, .object RX3)] s := hK
    refine W.widen (k := 1) (n := 6) (Nat.le_of_ble_eq_true rfl) (Nat.le_of_ble_eq_true rfl) ?_
    rcases hw with hw | hw
    · subst hw
      refine W.eq (g2 := F0 m 5 ls [.ref e0]) rfl ?_
      refine lv_astore (lv' := [(4, .ref e0), (0, .ref h0), (1, .int a1), (2, .int a2), (3, .int a3)]) hx hb dX11_id_5 hl (by decide) rfl (fun ls hl => ?_)
      refine lv_aload_n hx hb dX11_id_7 rfl (lv_at hl 1 rfl) ?_
      refine lv_aload hx hb dX11_id_8 (lv_at hl 0 rfl) ?_
      refine lv_iload_n hx hb dX11_id_10 rfl (lv_at hl 3 rfl) ?_
      have hPc := hP.sub (ws' := [(h0, .inr (12, [.ref fi, tca, .ref ea, .ref sl, tmx, tsv])), (e0, .inr (4, [.int ei0, ev0_1, ev0_2, ev0_3, ev0_4, ev0_5, ev0_6, .ref ak0])), (ak0, .inr (0, [.int am0, ae0, .int 0]))]) [0, 3, 5] rfl
      have hKc := hK.sub (tys' := []) [] rfl
      have hFc := freeNil hS hA
      refine vx_callq (vx_runV (As := [.ref e0, .int a2]) (rest := []) ⟨hx, hb, hml, hown, ht⟩ (k_X11_askAt l hL d0 cO dC dI H.size h0 (.ref fi) tca (.ref ea) (.ref sl) tmx tsv e0 ak0 ei0 am0 ev0_1 ev0_2 ev0_3 ev0_4 ev0_5 ev0_6 ae0 a2) (my_V ht M_X11_askAt q1403 q36 q1401 (Nat.le_of_ble_eq_true rfl) (Nat.le_of_ble_eq_true rfl)) ⟨PREp.fb, va_recv hK hP (ci := 12) (q0 := 0) rfl rfl, fun U hU hW => ⟨rfl, PREp.mk' hE hS hFc hPc hKc U hU hW⟩⟩ rfl rfl hl.1 rfl (lv_room (Nat.le_of_ble_eq_true rfl)) dX11_id_11 ⟨(Nat.le_of_ble_eq_true rfl), (Nat.le_of_ble_eq_true rfl)⟩) hS (fun q _ h => hFc q h) hFc (fun q _ h => hFc q h) (fun E ce q9 ux t H1 locs htt hvm hw hB hz1 hk1 hS hcell hv9 hcl9 => ?_) (fun r4 u3 t H1 locs htt hvm hw hB hz1 hk1 hS => ?_)
      · skip
        obtain rfl : E = _ := hB
        exact vx_out (fun x h => (hno x h).elim) hlocks hcell hv9 hcl9 (fun t9 ht9 hvm9 => ⟨(), trivial, rfl, ⟨by rw [ht9]; exact hS.1, fun q h1 h2 => by rw [ht9]; exact hS.2.1 q h1 h2⟩⟩) hS.2.2 (Nat.le_of_ble_eq_true rfl) (Nat.le_of_ble_eq_true rfl)
      · skip
        exact hw.elim
    · subst hw
      refine W.eq (g2 := F0 m 5 ls [.ref e1]) rfl ?_
      refine lv_astore (lv' := [(4, .ref e1), (0, .ref h0), (1, .int a1), (2, .int a2), (3, .int a3)]) hx hb dX11_id_5 hl (by decide) rfl (fun ls hl => ?_)
      refine lv_aload_n hx hb dX11_id_7 rfl (lv_at hl 1 rfl) ?_
      refine lv_aload hx hb dX11_id_8 (lv_at hl 0 rfl) ?_
      refine lv_iload_n hx hb dX11_id_10 rfl (lv_at hl 3 rfl) ?_
      have hPc := hP.sub (ws' := [(h0, .inr (12, [.ref fi, tca, .ref ea, .ref sl, tmx, tsv])), (e1, .inr (4, [.int ei1, ev1_1, ev1_2, ev1_3, ev1_4, ev1_5, ev1_6, .ref ak1])), (ak1, .inr (0, [.int am1, ae1, .int 0]))]) [0, 4, 6] rfl
      have hKc := hK.sub (tys' := []) [] rfl
      have hFc := freeNil hS hA
      refine vx_callq (vx_runV (As := [.ref e1, .int a2]) (rest := []) ⟨hx, hb, hml, hown, ht⟩ (k_X11_askAt l hL d0 cO dC dI H.size h0 (.ref fi) tca (.ref ea) (.ref sl) tmx tsv e1 ak1 ei1 am1 ev1_1 ev1_2 ev1_3 ev1_4 ev1_5 ev1_6 ae1 a2) (my_V ht M_X11_askAt q1403 q36 q1401 (Nat.le_of_ble_eq_true rfl) (Nat.le_of_ble_eq_true rfl)) ⟨PREp.fb, va_recv hK hP (ci := 12) (q0 := 0) rfl rfl, fun U hU hW => ⟨rfl, PREp.mk' hE hS hFc hPc hKc U hU hW⟩⟩ rfl rfl hl.1 rfl (lv_room (Nat.le_of_ble_eq_true rfl)) dX11_id_11 ⟨(Nat.le_of_ble_eq_true rfl), (Nat.le_of_ble_eq_true rfl)⟩) hS (fun q _ h => hFc q h) hFc (fun q _ h => hFc q h) (fun E ce q9 ux t H1 locs htt hvm hw hB hz1 hk1 hS hcell hv9 hcl9 => ?_) (fun r6 u5 t H1 locs htt hvm hw hB hz1 hk1 hS => ?_)
      · skip
        obtain rfl : E = _ := hB
        exact vx_out (fun x h => (hno x h).elim) hlocks hcell hv9 hcl9 (fun t9 ht9 hvm9 => ⟨(), trivial, rfl, ⟨by rw [ht9]; exact hS.1, fun q h1 h2 => by rw [ht9]; exact hS.2.1 q h1 h2⟩⟩) hS.2.2 (Nat.le_of_ble_eq_true rfl) (Nat.le_of_ble_eq_true rfl)
      · skip
        exact hw.elim
set_option maxHeartbeats 4000000 in
set_option maxRecDepth 100000 in
theorem k_X11_faults (l : Launch) (hL : l.stackTraces = false) (d0 : Nat) (cO : ClassId) (dC : Nat → ClassId) (dI : Nat → Nat → Nat) (sz : Nat) (h0 ea sl : Nat) (tca tmx tsv : Value) (tE : ClassId) (fE : Nat → Option Nat) (sm : Int32) (se : Value) (fi : Nat) (fna fla fv2 fv3 fv4 fv5 : Value) (e0 ak0 : Nat) (ei0 am0 : Int32) (ev0_1 ev0_2 ev0_3 ev0_4 ev0_5 ev0_6 ae0 : Value) (e1 ak1 : Nat) (ei1 am1 : Int32) (ev1_1 ev1_2 ev1_3 ev1_4 ev1_5 ev1_6 ae1 : Value) (hf0 : fE 0 = some e0) (hf1 : fE 1 = some e1) (a1 a2 : Int32) : vx_Met l yX11_faults (cn yX11_faults cX11_faults 4 (some FieldType.int)) (rmd 7 2 12) (va_Pc [.ref h0, .int a1, .int a2] (PREp d0 cO (dC, dI) (va_A [] sz) [(h0, .inr (12, [.ref fi, tca, .ref ea, .ref sl, tmx, tsv])), (fi, .inr (5, [fna, fla, fv2, fv3, fv4, fv5, .int 0])), (ea, .inl (tE, 2, .inr (.inr (.inr (.inr fE))))), (e0, .inr (4, [.int ei0, ev0_1, ev0_2, ev0_3, ev0_4, ev0_5, ev0_6, .ref ak0])), (e1, .inr (4, [.int ei1, ev1_1, ev1_2, ev1_3, ev1_4, ev1_5, ev1_6, .ref ak1])), (ak0, .inr (0, [.int am0, ae0, .int 0])), (ak1, .inr (0, [.int am1, ae1, .int 0])), (sl, .inr (0, [.int sm, se, .int 0]))] [(tE, .object RX3)] sz)) (va_Qi (fun (r : Int32) (_ : Unit) => False) (fun (_ : Unit) (t : State) => va_P (dC, dI) vwCl [] t.heap) (va_A [] sz)) (vx_X (fun _ : Unit => True) (fun E _ _ => E = "java/lang/IndexOutOfBoundsException") (va_A [] sz)) 2 12 (va_A [] sz) := by
  refine vx_ofW (cc := cX11_faults) (maxL := 4) (ret := (some FieldType.int)) (by decide) rfl ?_
  intro p e s m args below meth c s₁ B hml hno hv
  obtain ⟨rfl, hsz, hE, hP, hK⟩ := hv
  have hx := B.exec
  have hb := B.bytes
  have hr := B.returns
  have hts := atoms_spec (ws := cn yX11_faults cX11_faults 4 (some FieldType.int)) B.pre
  have ht : ∀ w ∈ GT, w.before _ s = true := fun w h => hts w (List.mem_cons_of_mem _ h)
  have hown : s.vm.findClass RX11 = some m.cls := findClass_of_methodNamed B.named
  have hlocks := B.notSynchronized
  subst hsz
  generalize hAe : va_A [] s.heap.size = A at hE ⊢
  have hA : ∀ q : Nat, s.heap.size ≤ q → A q := fun q h => by rw [← hAe]; exact Or.inr h
  obtain ⟨H, hH0⟩ : ∃ H, s.heap = H := ⟨_, rfl⟩
  have hS : va_S A s.heap H [] := by rw [← hH0]; exact va_S.rf
  rw [hH0] at hP
  have hl := lv_entry ([.ref h0, .int a1, .int a2]) (n := 4) (Nat.le_of_ble_eq_true rfl)
  rw [lg_entry_eq]
  generalize (lg_sl ([.ref h0, .int a1, .int a2]) ++ List.replicate (4 - (lg_sl ([.ref h0, .int a1, .int a2])).length) Slot.unset).toArray = ls at hl ⊢
  have hl : lv_has ls 4 [(0, .ref h0), (1, .int a1), (2, .int a2)] := hl
  rw [hH0]
  refine lv_aload_n hx hb dX11_faults_0 rfl (lv_at hl 0 rfl) ?_
  refine lv_iload_n hx hb dX11_faults_1 rfl (lv_at hl 1 rfl) ?_
  have hPc := hP.sub (ws' := [(h0, .inr (12, [.ref fi, tca, .ref ea, .ref sl, tmx, tsv])), (fi, .inr (5, [fna, fla, fv2, fv3, fv4, fv5, .int 0])), (ea, .inl (tE, 2, .inr (.inr (.inr (.inr fE))))), (e0, .inr (4, [.int ei0, ev0_1, ev0_2, ev0_3, ev0_4, ev0_5, ev0_6, .ref ak0])), (e1, .inr (4, [.int ei1, ev1_1, ev1_2, ev1_3, ev1_4, ev1_5, ev1_6, .ref ak1])), (ak0, .inr (0, [.int am0, ae0, .int 0])), (ak1, .inr (0, [.int am1, ae1, .int 0])), (sl, .inr (0, [.int sm, se, .int 0]))]) [0, 1, 2, 3, 4, 5, 6, 7] rfl
  have hKc := hK.sub (tys' := [(tE, .object RX3)]) [0] rfl
  have hFc := freeNil hS hA
  refine vx_callq (vx_runV (As := [.int a1]) (rest := []) ⟨hx, hb, hml, hown, ht⟩ (k_X11_editorAt l hL d0 cO dC dI H.size h0 ea sl tca tmx tsv tE fE sm se fi fna fla fv2 fv3 fv4 fv5 e0 ak0 ei0 am0 ev0_1 ev0_2 ev0_3 ev0_4 ev0_5 ev0_6 ae0 e1 ak1 ei1 am1 ev1_1 ev1_2 ev1_3 ev1_4 ev1_5 ev1_6 ae1 hf0 hf1 a1) (my_V ht M_X11_editorAt q1259 q32 q1257 (Nat.le_of_ble_eq_true rfl) (Nat.le_of_ble_eq_true rfl)) ⟨PREp.fb, va_recv hK hP (ci := 12) (q0 := 0) rfl rfl, fun U hU hW => ⟨rfl, PREp.mk' hE hS hFc hPc hKc U hU hW⟩⟩ rfl rfl hl.1 rfl (lv_room (Nat.le_of_ble_eq_true rfl)) dX11_faults_2 ⟨(Nat.le_of_ble_eq_true rfl), (Nat.le_of_ble_eq_true rfl)⟩) hS (fun q _ h => hFc q h) hFc (fun q _ h => hFc q h) (fun E ce q9 ux t H1 locs htt hvm hw hB hz1 hk1 hS hcell hv9 hcl9 => ?_) (fun r2 u1 t H1 locs htt hvm hw hB hz1 hk1 hS => ?_)
  · skip
    obtain rfl : E = _ := hB
    exact vx_out (fun x h => (hno x h).elim) hlocks hcell hv9 hcl9 (fun t9 ht9 hvm9 => ⟨(), trivial, rfl, ⟨by rw [ht9]; exact hS.1, fun q h1 h2 => by rw [ht9]; exact hS.2.1 q h1 h2⟩⟩) hS.2.2 (Nat.le_of_ble_eq_true rfl) (Nat.le_of_ble_eq_true rfl)
  · skip
    try dsimp only at hw hB
    have hP1 := hB
    rw [htt] at hP1
    have hP := keepAll hP hk1
    generalize H1 = H at hP hS ⊢
    have hP : va_P (dC, dI) vwCl [(h0, .inr (12, [.ref fi, tca, .ref ea, .ref sl, tmx, tsv])), (fi, .inr (5, [fna, fla, fv2, fv3, fv4, fv5, .int 0])), (ea, .inl (tE, 2, .inr (.inr (.inr (.inr fE))))), (e0, .inr (4, [.int ei0, ev0_1, ev0_2, ev0_3, ev0_4, ev0_5, ev0_6, .ref ak0])), (e1, .inr (4, [.int ei1, ev1_1, ev1_2, ev1_3, ev1_4, ev1_5, ev1_6, .ref ak1])), (ak0, .inr (0, [.int am0, ae0, .int 0])), (ak1, .inr (0, [.int am1, ae1, .int 0])), (sl, .inr (0, [.int sm, se, .int 0]))] H := hP
    have hK : va_K (dC, dI) vwCl [(tE, .object RX3)] s := hK
    refine W.widen (k := 1) (n := 6) (Nat.le_of_ble_eq_true rfl) (Nat.le_of_ble_eq_true rfl) ?_
    rcases hw with hw | hw
    · subst hw
      refine W.eq (g2 := F0 m 5 ls [.ref e0]) rfl ?_
      refine lv_astore_n (lv' := [(3, .ref e0), (0, .ref h0), (1, .int a1), (2, .int a2)]) hx hb dX11_faults_5 rfl hl (by decide) rfl (fun ls hl => ?_)
      refine lv_aload_n hx hb dX11_faults_6 rfl (lv_at hl 1 rfl) ?_
      refine lv_iload_n hx hb dX11_faults_7 rfl (lv_at hl 3 rfl) ?_
      have hPc := hP.sub (ws' := [(h0, .inr (12, [.ref fi, tca, .ref ea, .ref sl, tmx, tsv])), (fi, .inr (5, [fna, fla, fv2, fv3, fv4, fv5, .int 0]))]) [0, 1] rfl
      have hKc := hK.sub (tys' := []) [] rfl
      have hFc := freeNil hS hA
      refine vx_callv (vx_runV (As := [.int a2]) (rest := []) ⟨hx, hb, hml, hown, ht⟩ (k_X11_checkFile l hL d0 cO dC dI H.size h0 tca (.ref ea) (.ref sl) tmx tsv fi fna fla fv2 fv3 fv4 fv5 a2) (my_V ht M_X11_checkFile q1127 q30 q1125 (Nat.le_of_ble_eq_true rfl) (Nat.le_of_ble_eq_true rfl)) ⟨PREp.fb, va_recv hK hP (ci := 12) (q0 := 0) rfl rfl, fun U hU hW => ⟨rfl, PREp.mk' hE hS hFc hPc hKc U hU hW⟩⟩ rfl rfl hl.1 rfl (lv_room (Nat.le_of_ble_eq_true rfl)) dX11_faults_8 ⟨(Nat.le_of_ble_eq_true rfl), (Nat.le_of_ble_eq_true rfl)⟩) hS (fun q _ h => hFc q h) hFc (fun q _ h => hFc q h) (fun E ce q9 ux t H1 locs htt hvm hw hB hz1 hk1 hS hcell hv9 hcl9 => ?_) (fun u3 t H1 locs htt hvm hw hB hz1 hk1 hS => ?_)
      · skip
        obtain rfl : E = _ := hB
        exact vx_out (fun x h => (hno x h).elim) hlocks hcell hv9 hcl9 (fun t9 ht9 hvm9 => ⟨(), trivial, rfl, ⟨by rw [ht9]; exact hS.1, fun q h1 h2 => by rw [ht9]; exact hS.2.1 q h1 h2⟩⟩) hS.2.2 (Nat.le_of_ble_eq_true rfl) (Nat.le_of_ble_eq_true rfl)
      · skip
        exact hw.elim
    · subst hw
      refine W.eq (g2 := F0 m 5 ls [.ref e1]) rfl ?_
      refine lv_astore_n (lv' := [(3, .ref e1), (0, .ref h0), (1, .int a1), (2, .int a2)]) hx hb dX11_faults_5 rfl hl (by decide) rfl (fun ls hl => ?_)
      refine lv_aload_n hx hb dX11_faults_6 rfl (lv_at hl 1 rfl) ?_
      refine lv_iload_n hx hb dX11_faults_7 rfl (lv_at hl 3 rfl) ?_
      have hPc := hP.sub (ws' := [(h0, .inr (12, [.ref fi, tca, .ref ea, .ref sl, tmx, tsv])), (fi, .inr (5, [fna, fla, fv2, fv3, fv4, fv5, .int 0]))]) [0, 1] rfl
      have hKc := hK.sub (tys' := []) [] rfl
      have hFc := freeNil hS hA
      refine vx_callv (vx_runV (As := [.int a2]) (rest := []) ⟨hx, hb, hml, hown, ht⟩ (k_X11_checkFile l hL d0 cO dC dI H.size h0 tca (.ref ea) (.ref sl) tmx tsv fi fna fla fv2 fv3 fv4 fv5 a2) (my_V ht M_X11_checkFile q1127 q30 q1125 (Nat.le_of_ble_eq_true rfl) (Nat.le_of_ble_eq_true rfl)) ⟨PREp.fb, va_recv hK hP (ci := 12) (q0 := 0) rfl rfl, fun U hU hW => ⟨rfl, PREp.mk' hE hS hFc hPc hKc U hU hW⟩⟩ rfl rfl hl.1 rfl (lv_room (Nat.le_of_ble_eq_true rfl)) dX11_faults_8 ⟨(Nat.le_of_ble_eq_true rfl), (Nat.le_of_ble_eq_true rfl)⟩) hS (fun q _ h => hFc q h) hFc (fun q _ h => hFc q h) (fun E ce q9 ux t H1 locs htt hvm hw hB hz1 hk1 hS hcell hv9 hcl9 => ?_) (fun u5 t H1 locs htt hvm hw hB hz1 hk1 hS => ?_)
      · skip
        obtain rfl : E = _ := hB
        exact vx_out (fun x h => (hno x h).elim) hlocks hcell hv9 hcl9 (fun t9 ht9 hvm9 => ⟨(), trivial, rfl, ⟨by rw [ht9]; exact hS.1, fun q h1 h2 => by rw [ht9]; exact hS.2.1 q h1 h2⟩⟩) hS.2.2 (Nat.le_of_ble_eq_true rfl) (Nat.le_of_ble_eq_true rfl)
      · skip
        exact hw.elim
set_option maxHeartbeats 4000000 in
set_option maxRecDepth 100000 in
theorem k_X11_fault (l : Launch) (hL : l.stackTraces = false) (d0 : Nat) (cO : ClassId) (dC : Nat → ClassId) (dI : Nat → Nat → Nat) (sz : Nat) (h0 ea sl : Nat) (tca tmx tsv : Value) (tE : ClassId) (fE : Nat → Option Nat) (sm : Int32) (se : Value) (fi : Nat) (fna fla fv2 fv3 fv4 fv5 : Value) (e0 ak0 : Nat) (ei0 am0 : Int32) (ev0_1 ev0_2 ev0_3 ev0_4 ev0_5 ev0_6 ae0 : Value) (e1 ak1 : Nat) (ei1 am1 : Int32) (ev1_1 ev1_2 ev1_3 ev1_4 ev1_5 ev1_6 ae1 : Value) (hf0 : fE 0 = some e0) (hf1 : fE 1 = some e1) (a1 a2 a3 : Int32) : vx_Met l yX11_fault (cn yX11_fault cX11_fault 6 (some FieldType.int)) (rmd 7 2 12) (va_Pc [.ref h0, .int a1, .int a2, .int a3] (PREp d0 cO (dC, dI) (va_A [] sz) [(h0, .inr (12, [.ref fi, tca, .ref ea, .ref sl, tmx, tsv])), (fi, .inr (5, [fna, fla, fv2, fv3, fv4, fv5, .int 0])), (ea, .inl (tE, 2, .inr (.inr (.inr (.inr fE))))), (e0, .inr (4, [.int ei0, ev0_1, ev0_2, ev0_3, ev0_4, ev0_5, ev0_6, .ref ak0])), (e1, .inr (4, [.int ei1, ev1_1, ev1_2, ev1_3, ev1_4, ev1_5, ev1_6, .ref ak1])), (ak0, .inr (0, [.int am0, ae0, .int 0])), (ak1, .inr (0, [.int am1, ae1, .int 0])), (sl, .inr (0, [.int sm, se, .int 0]))] [(tE, .object RX3)] sz)) (va_Qi (fun (r : Int32) (_ : Unit) => False) (fun (_ : Unit) (t : State) => va_P (dC, dI) vwCl [] t.heap) (va_A [] sz)) (vx_X (fun _ : Unit => True) (fun E _ _ => E = "java/lang/IndexOutOfBoundsException") (va_A [] sz)) 2 12 (va_A [] sz) := by
  refine vx_ofW (cc := cX11_fault) (maxL := 6) (ret := (some FieldType.int)) (by decide) rfl ?_
  intro p e s m args below meth c s₁ B hml hno hv
  obtain ⟨rfl, hsz, hE, hP, hK⟩ := hv
  have hx := B.exec
  have hb := B.bytes
  have hr := B.returns
  have hts := atoms_spec (ws := cn yX11_fault cX11_fault 6 (some FieldType.int)) B.pre
  have ht : ∀ w ∈ GT, w.before _ s = true := fun w h => hts w (List.mem_cons_of_mem _ h)
  have hown : s.vm.findClass RX11 = some m.cls := findClass_of_methodNamed B.named
  have hlocks := B.notSynchronized
  subst hsz
  generalize hAe : va_A [] s.heap.size = A at hE ⊢
  have hA : ∀ q : Nat, s.heap.size ≤ q → A q := fun q h => by rw [← hAe]; exact Or.inr h
  obtain ⟨H, hH0⟩ : ∃ H, s.heap = H := ⟨_, rfl⟩
  have hS : va_S A s.heap H [] := by rw [← hH0]; exact va_S.rf
  rw [hH0] at hP
  have hl := lv_entry ([.ref h0, .int a1, .int a2, .int a3]) (n := 6) (Nat.le_of_ble_eq_true rfl)
  rw [lg_entry_eq]
  generalize (lg_sl ([.ref h0, .int a1, .int a2, .int a3]) ++ List.replicate (6 - (lg_sl ([.ref h0, .int a1, .int a2, .int a3])).length) Slot.unset).toArray = ls at hl ⊢
  have hl : lv_has ls 6 [(0, .ref h0), (1, .int a1), (2, .int a2), (3, .int a3)] := hl
  rw [hH0]
  refine lv_aload_n hx hb dX11_fault_0 rfl (lv_at hl 0 rfl) ?_
  refine lv_iload_n hx hb dX11_fault_1 rfl (lv_at hl 1 rfl) ?_
  have hPc := hP.sub (ws' := [(h0, .inr (12, [.ref fi, tca, .ref ea, .ref sl, tmx, tsv])), (fi, .inr (5, [fna, fla, fv2, fv3, fv4, fv5, .int 0])), (ea, .inl (tE, 2, .inr (.inr (.inr (.inr fE))))), (e0, .inr (4, [.int ei0, ev0_1, ev0_2, ev0_3, ev0_4, ev0_5, ev0_6, .ref ak0])), (e1, .inr (4, [.int ei1, ev1_1, ev1_2, ev1_3, ev1_4, ev1_5, ev1_6, .ref ak1])), (ak0, .inr (0, [.int am0, ae0, .int 0])), (ak1, .inr (0, [.int am1, ae1, .int 0])), (sl, .inr (0, [.int sm, se, .int 0]))]) [0, 1, 2, 3, 4, 5, 6, 7] rfl
  have hKc := hK.sub (tys' := [(tE, .object RX3)]) [0] rfl
  have hFc := freeNil hS hA
  refine vx_callq (vx_runV (As := [.int a1]) (rest := []) ⟨hx, hb, hml, hown, ht⟩ (k_X11_editorAt l hL d0 cO dC dI H.size h0 ea sl tca tmx tsv tE fE sm se fi fna fla fv2 fv3 fv4 fv5 e0 ak0 ei0 am0 ev0_1 ev0_2 ev0_3 ev0_4 ev0_5 ev0_6 ae0 e1 ak1 ei1 am1 ev1_1 ev1_2 ev1_3 ev1_4 ev1_5 ev1_6 ae1 hf0 hf1 a1) (my_V ht M_X11_editorAt q1259 q32 q1257 (Nat.le_of_ble_eq_true rfl) (Nat.le_of_ble_eq_true rfl)) ⟨PREp.fb, va_recv hK hP (ci := 12) (q0 := 0) rfl rfl, fun U hU hW => ⟨rfl, PREp.mk' hE hS hFc hPc hKc U hU hW⟩⟩ rfl rfl hl.1 rfl (lv_room (Nat.le_of_ble_eq_true rfl)) dX11_fault_2 ⟨(Nat.le_of_ble_eq_true rfl), (Nat.le_of_ble_eq_true rfl)⟩) hS (fun q _ h => hFc q h) hFc (fun q _ h => hFc q h) (fun E ce q9 ux t H1 locs htt hvm hw hB hz1 hk1 hS hcell hv9 hcl9 => ?_) (fun r2 u1 t H1 locs htt hvm hw hB hz1 hk1 hS => ?_)
  · skip
    obtain rfl : E = _ := hB
    exact vx_out (fun x h => (hno x h).elim) hlocks hcell hv9 hcl9 (fun t9 ht9 hvm9 => ⟨(), trivial, rfl, ⟨by rw [ht9]; exact hS.1, fun q h1 h2 => by rw [ht9]; exact hS.2.1 q h1 h2⟩⟩) hS.2.2 (Nat.le_of_ble_eq_true rfl) (Nat.le_of_ble_eq_true rfl)
  · skip
    try dsimp only at hw hB
    have hP1 := hB
    rw [htt] at hP1
    have hP := keepAll hP hk1
    generalize H1 = H at hP hS ⊢
    have hP : va_P (dC, dI) vwCl [(h0, .inr (12, [.ref fi, tca, .ref ea, .ref sl, tmx, tsv])), (fi, .inr (5, [fna, fla, fv2, fv3, fv4, fv5, .int 0])), (ea, .inl (tE, 2, .inr (.inr (.inr (.inr fE))))), (e0, .inr (4, [.int ei0, ev0_1, ev0_2, ev0_3, ev0_4, ev0_5, ev0_6, .ref ak0])), (e1, .inr (4, [.int ei1, ev1_1, ev1_2, ev1_3, ev1_4, ev1_5, ev1_6, .ref ak1])), (ak0, .inr (0, [.int am0, ae0, .int 0])), (ak1, .inr (0, [.int am1, ae1, .int 0])), (sl, .inr (0, [.int sm, se, .int 0]))] H := hP
    have hK : va_K (dC, dI) vwCl [(tE, .object RX3)] s := hK
    refine W.widen (k := 1) (n := 6) (Nat.le_of_ble_eq_true rfl) (Nat.le_of_ble_eq_true rfl) ?_
    rcases hw with hw | hw
    · subst hw
      refine W.eq (g2 := F0 m 5 ls [.ref e0]) rfl ?_
      refine lv_astore (lv' := [(4, .ref e0), (0, .ref h0), (1, .int a1), (2, .int a2), (3, .int a3)]) hx hb dX11_fault_5 hl (by decide) rfl (fun ls hl => ?_)
      refine lv_aload_n hx hb dX11_fault_7 rfl (lv_at hl 1 rfl) ?_
      refine lv_iload_n hx hb dX11_fault_8 rfl (lv_at hl 3 rfl) ?_
      have hPc := hP.sub (ws' := [(h0, .inr (12, [.ref fi, tca, .ref ea, .ref sl, tmx, tsv])), (fi, .inr (5, [fna, fla, fv2, fv3, fv4, fv5, .int 0]))]) [0, 1] rfl
      have hKc := hK.sub (tys' := []) [] rfl
      have hFc := freeNil hS hA
      refine vx_callv (vx_runV (As := [.int a2]) (rest := []) ⟨hx, hb, hml, hown, ht⟩ (k_X11_checkFile l hL d0 cO dC dI H.size h0 tca (.ref ea) (.ref sl) tmx tsv fi fna fla fv2 fv3 fv4 fv5 a2) (my_V ht M_X11_checkFile q1127 q30 q1125 (Nat.le_of_ble_eq_true rfl) (Nat.le_of_ble_eq_true rfl)) ⟨PREp.fb, va_recv hK hP (ci := 12) (q0 := 0) rfl rfl, fun U hU hW => ⟨rfl, PREp.mk' hE hS hFc hPc hKc U hU hW⟩⟩ rfl rfl hl.1 rfl (lv_room (Nat.le_of_ble_eq_true rfl)) dX11_fault_9 ⟨(Nat.le_of_ble_eq_true rfl), (Nat.le_of_ble_eq_true rfl)⟩) hS (fun q _ h => hFc q h) hFc (fun q _ h => hFc q h) (fun E ce q9 ux t H1 locs htt hvm hw hB hz1 hk1 hS hcell hv9 hcl9 => ?_) (fun u3 t H1 locs htt hvm hw hB hz1 hk1 hS => ?_)
      · skip
        obtain rfl : E = _ := hB
        exact vx_out (fun x h => (hno x h).elim) hlocks hcell hv9 hcl9 (fun t9 ht9 hvm9 => ⟨(), trivial, rfl, ⟨by rw [ht9]; exact hS.1, fun q h1 h2 => by rw [ht9]; exact hS.2.1 q h1 h2⟩⟩) hS.2.2 (Nat.le_of_ble_eq_true rfl) (Nat.le_of_ble_eq_true rfl)
      · skip
        exact hw.elim
    · subst hw
      refine W.eq (g2 := F0 m 5 ls [.ref e1]) rfl ?_
      refine lv_astore (lv' := [(4, .ref e1), (0, .ref h0), (1, .int a1), (2, .int a2), (3, .int a3)]) hx hb dX11_fault_5 hl (by decide) rfl (fun ls hl => ?_)
      refine lv_aload_n hx hb dX11_fault_7 rfl (lv_at hl 1 rfl) ?_
      refine lv_iload_n hx hb dX11_fault_8 rfl (lv_at hl 3 rfl) ?_
      have hPc := hP.sub (ws' := [(h0, .inr (12, [.ref fi, tca, .ref ea, .ref sl, tmx, tsv])), (fi, .inr (5, [fna, fla, fv2, fv3, fv4, fv5, .int 0]))]) [0, 1] rfl
      have hKc := hK.sub (tys' := []) [] rfl
      have hFc := freeNil hS hA
      refine vx_callv (vx_runV (As := [.int a2]) (rest := []) ⟨hx, hb, hml, hown, ht⟩ (k_X11_checkFile l hL d0 cO dC dI H.size h0 tca (.ref ea) (.ref sl) tmx tsv fi fna fla fv2 fv3 fv4 fv5 a2) (my_V ht M_X11_checkFile q1127 q30 q1125 (Nat.le_of_ble_eq_true rfl) (Nat.le_of_ble_eq_true rfl)) ⟨PREp.fb, va_recv hK hP (ci := 12) (q0 := 0) rfl rfl, fun U hU hW => ⟨rfl, PREp.mk' hE hS hFc hPc hKc U hU hW⟩⟩ rfl rfl hl.1 rfl (lv_room (Nat.le_of_ble_eq_true rfl)) dX11_fault_9 ⟨(Nat.le_of_ble_eq_true rfl), (Nat.le_of_ble_eq_true rfl)⟩) hS (fun q _ h => hFc q h) hFc (fun q _ h => hFc q h) (fun E ce q9 ux t H1 locs htt hvm hw hB hz1 hk1 hS hcell hv9 hcl9 => ?_) (fun u5 t H1 locs htt hvm hw hB hz1 hk1 hS => ?_)
      · skip
        obtain rfl : E = _ := hB
        exact vx_out (fun x h => (hno x h).elim) hlocks hcell hv9 hcl9 (fun t9 ht9 hvm9 => ⟨(), trivial, rfl, ⟨by rw [ht9]; exact hS.1, fun q h1 h2 => by rw [ht9]; exact hS.2.1 q h1 h2⟩⟩) hS.2.2 (Nat.le_of_ble_eq_true rfl) (Nat.le_of_ble_eq_true rfl)
      · skip
        exact hw.elim
