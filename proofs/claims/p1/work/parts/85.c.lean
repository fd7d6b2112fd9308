theorem dL_store_0 : decode cL_store 0 = .ok (.aload_n 3, 1) := by decide +kernel
theorem dL_store_1 : decode cL_store 1 = .ok (.iconst 0, 1) := by decide +kernel
theorem dL_store_2 : decode cL_store 2 = .ok (.aload_n 0, 1) := by decide +kernel
theorem dL_store_3 : decode cL_store 3 = .ok (.iload_n 1, 1) := by decide +kernel
theorem dL_store_4 : decode cL_store 4 = .ok (.iload_n 2, 1) := by decide +kernel
theorem dL_store_5 : decode cL_store 5 = .ok (.invokevirtual 17, 3) := by decide +kernel
set_option maxRecDepth 100000 in
theorem q1124 : Cond.code yX11_store cX11_store 4 (some FieldType.int) ∈ GT := gt 1124 (rfl) (by decide +kernel)
theorem M_X11_store : MY yX11_store cX11_store 4 (some FieldType.int) 2 := ⟨q1124, q123, by decide +kernel, by decide +kernel⟩
theorem q1121 : Cond.methodLink RL 17 yX11_store ∈ GT := gt 1121 (by decide +kernel) (by decide +kernel)
theorem q1122 : Cond.instanceMethod yX11_store ∈ GT := gt 1122 (by decide +kernel) (by decide +kernel)
theorem q1123 : Cond.selects RX11 yX11_store yX11_store ∈ GT := gt 1123 (by decide +kernel) (by decide +kernel)
theorem q1120 : Cond.classLink RL 20 "java/lang/IndexOutOfBoundsException" ∈ GT := gt 1120 (by decide +kernel) (by decide +kernel)
theorem q1132 : Cond.castable "java/lang/IndexOutOfBoundsException" "java/lang/IndexOutOfBoundsException" ∈ GT := gt 1132 (by decide +kernel) (by decide +kernel)
theorem dL_store_13 : decode cL_store 13 = .ok (.astore 4, 2) := by decide +kernel
theorem dL_store_15 : decode cL_store 15 = .ok (.iconst 1, 1) := by decide +kernel
theorem dL_store_16 : decode cL_store 16 = .ok (.ireturn, 1) := by decide +kernel
theorem dL_name_0 : decode cL_name 0 = .ok (.aload_n 2, 1) := by decide +kernel
theorem dL_name_1 : decode cL_name 1 = .ok (.iconst 0, 1) := by decide +kernel
theorem dL_name_2 : decode cL_name 2 = .ok (.aload_n 0, 1) := by decide +kernel
theorem dL_name_3 : decode cL_name 3 = .ok (.iload_n 1, 1) := by decide +kernel
theorem dL_name_4 : decode cL_name 4 = .ok (.invokevirtual 26, 3) := by decide +kernel
set_option maxRecDepth 100000 in
theorem q1245 : Cond.code yX11_name cX11_name 2 (some FieldType.char) ∈ GT := gt 1245 (rfl) (by decide +kernel)
theorem M_X11_name : MY yX11_name cX11_name 2 (some FieldType.char) 1 := ⟨q1245, q123, by decide +kernel, by decide +kernel⟩
theorem q1242 : Cond.methodLink RL 26 yX11_name ∈ GT := gt 1242 (by decide +kernel) (by decide +kernel)
theorem q1243 : Cond.instanceMethod yX11_name ∈ GT := gt 1243 (by decide +kernel) (by decide +kernel)
theorem q1244 : Cond.selects RX11 yX11_name yX11_name ∈ GT := gt 1244 (by decide +kernel) (by decide +kernel)
theorem dL_name_12 : decode cL_name 12 = .ok (.astore_n 3, 1) := by decide +kernel
theorem dL_name_13 : decode cL_name 13 = .ok (.iconst 1, 1) := by decide +kernel
theorem dL_name_14 : decode cL_name 14 = .ok (.ireturn, 1) := by decide +kernel
theorem dL_open_0 : decode cL_open 0 = .ok (.aload_n 3, 1) := by decide +kernel
theorem dL_open_1 : decode cL_open 1 = .ok (.iconst 0, 1) := by decide +kernel
theorem dL_open_2 : decode cL_open 2 = .ok (.aload_n 0, 1) := by decide +kernel
theorem dL_open_3 : decode cL_open 3 = .ok (.iload_n 1, 1) := by decide +kernel
theorem dL_open_4 : decode cL_open 4 = .ok (.iload_n 2, 1) := by decide +kernel
theorem dL_open_5 : decode cL_open 5 = .ok (.invokevirtual 30, 3) := by decide +kernel
set_option maxRecDepth 100000 in
theorem q1256 : Cond.code yX11_open cX11_open 4 (some FieldType.int) ∈ GT := gt 1256 (rfl) (by decide +kernel)
theorem M_X11_open : MY yX11_open cX11_open 4 (some FieldType.int) 2 := ⟨q1256, q123, by decide +kernel, by decide +kernel⟩
theorem q1253 : Cond.methodLink RL 30 yX11_open ∈ GT := gt 1253 (by decide +kernel) (by decide +kernel)
theorem q1254 : Cond.instanceMethod yX11_open ∈ GT := gt 1254 (by decide +kernel) (by decide +kernel)
theorem q1255 : Cond.selects RX11 yX11_open yX11_open ∈ GT := gt 1255 (by decide +kernel) (by decide +kernel)
theorem dL_open_13 : decode cL_open 13 = .ok (.astore 4, 2) := by decide +kernel
theorem dL_open_15 : decode cL_open 15 = .ok (.iconst 1, 1) := by decide +kernel
theorem dL_open_16 : decode cL_open 16 = .ok (.ireturn, 1) := by decide +kernel
theorem dL_change_0 : decode cL_change 0 = .ok (.aload 8, 2) := by decide +kernel
theorem dL_change_2 : decode cL_change 2 = .ok (.iconst 0, 1) := by decide +kernel
theorem dL_change_3 : decode cL_change 3 = .ok (.aload_n 0, 1) := by decide +kernel
theorem dL_change_4 : decode cL_change 4 = .ok (.iload_n 1, 1) := by decide +kernel
theorem dL_change_5 : decode cL_change 5 = .ok (.iload_n 2, 1) := by decide +kernel
theorem dL_change_6 : decode cL_change 6 = .ok (.iload_n 3, 1) := by decide +kernel
theorem dL_change_7 : decode cL_change 7 = .ok (.iload 4, 2) := by decide +kernel
theorem dL_change_9 : decode cL_change 9 = .ok (.iload 5, 2) := by decide +kernel
theorem dL_change_11 : decode cL_change 11 = .ok (.iload 6, 2) := by decide +kernel
theorem dL_change_13 : decode cL_change 13 = .ok (.iload 7, 2) := by decide +kernel
theorem dL_change_15 : decode cL_change 15 = .ok (.invokevirtual 37, 3) := by decide +kernel
set_option maxRecDepth 100000 in
theorem q1326 : Cond.code yX11_change cX11_change 11 (some FieldType.int) ∈ GT := gt 1326 (rfl) (by decide +kernel)
theorem M_X11_change : MY yX11_change cX11_change 11 (some FieldType.int) 7 := ⟨q1326, q123, by decide +kernel, by decide +kernel⟩
theorem q1323 : Cond.methodLink RL 37 yX11_change ∈ GT := gt 1323 (by decide +kernel) (by decide +kernel)
theorem q1324 : Cond.instanceMethod yX11_change ∈ GT := gt 1324 (by decide +kernel) (by decide +kernel)
theorem q1325 : Cond.selects RX11 yX11_change yX11_change ∈ GT := gt 1325 (by decide +kernel) (by decide +kernel)
theorem dL_change_23 : decode cL_change 23 = .ok (.astore 9, 2) := by decide +kernel
theorem dL_change_25 : decode cL_change 25 = .ok (.iconst 1, 1) := by decide +kernel
theorem dL_change_26 : decode cL_change 26 = .ok (.ireturn, 1) := by decide +kernel
theorem dL_request_0 : decode cL_request 0 = .ok (.aload 7, 2) := by decide +kernel
theorem dL_request_2 : decode cL_request 2 = .ok (.iconst 0, 1) := by decide +kernel
theorem dL_request_3 : decode cL_request 3 = .ok (.aload_n 0, 1) := by decide +kernel
theorem dL_request_4 : decode cL_request 4 = .ok (.iload_n 1, 1) := by decide +kernel
theorem dL_request_5 : decode cL_request 5 = .ok (.iload_n 2, 1) := by decide +kernel
theorem dL_request_6 : decode cL_request 6 = .ok (.iload_n 3, 1) := by decide +kernel
theorem dL_request_7 : decode cL_request 7 = .ok (.iload 4, 2) := by decide +kernel
theorem dL_request_9 : decode cL_request 9 = .ok (.iload 5, 2) := by decide +kernel
theorem dL_request_11 : decode cL_request 11 = .ok (.iload 6, 2) := by decide +kernel
theorem dL_request_13 : decode cL_request 13 = .ok (.invokevirtual 41, 3) := by decide +kernel
set_option maxRecDepth 100000 in
theorem q1348 : Cond.code yX11_request cX11_request 9 (some FieldType.int) ∈ GT := gt 1348 (rfl) (by decide +kernel)
theorem M_X11_request : MY yX11_request cX11_request 9 (some FieldType.int) 6 := ⟨q1348, q123, by decide +kernel, by decide +kernel⟩
theorem q1345 : Cond.methodLink RL 41 yX11_request ∈ GT := gt 1345 (by decide +kernel) (by decide +kernel)
theorem q1346 : Cond.instanceMethod yX11_request ∈ GT := gt 1346 (by decide +kernel) (by decide +kernel)
theorem q1347 : Cond.selects RX11 yX11_request yX11_request ∈ GT := gt 1347 (by decide +kernel) (by decide +kernel)
theorem dL_request_21 : decode cL_request 21 = .ok (.astore 8, 2) := by decide +kernel
theorem dL_request_23 : decode cL_request 23 = .ok (.iconst 1, 1) := by decide +kernel
theorem dL_request_24 : decode cL_request 24 = .ok (.ireturn, 1) := by decide +kernel
theorem dL_apply_0 : decode cL_apply 0 = .ok (.aload_n 3, 1) := by decide +kernel
theorem dL_apply_1 : decode cL_apply 1 = .ok (.iconst 0, 1) := by decide +kernel
theorem dL_apply_2 : decode cL_apply 2 = .ok (.aload_n 0, 1) := by decide +kernel
theorem dL_apply_3 : decode cL_apply 3 = .ok (.iload_n 1, 1) := by decide +kernel
theorem dL_apply_4 : decode cL_apply 4 = .ok (.iload_n 2, 1) := by decide +kernel
theorem dL_apply_5 : decode cL_apply 5 = .ok (.invokevirtual 48, 3) := by decide +kernel
set_option maxRecDepth 100000 in
theorem q1418 : Cond.code yX11_apply cX11_apply 5 (some FieldType.int) ∈ GT := gt 1418 (rfl) (by decide +kernel)
theorem M_X11_apply : MY yX11_apply cX11_apply 5 (some FieldType.int) 2 := ⟨q1418, q123, by decide +kernel, by decide +kernel⟩
theorem q1415 : Cond.methodLink RL 48 yX11_apply ∈ GT := gt 1415 (by decide +kernel) (by decide +kernel)
theorem q1416 : Cond.instanceMethod yX11_apply ∈ GT := gt 1416 (by decide +kernel) (by decide +kernel)
theorem q1417 : Cond.selects RX11 yX11_apply yX11_apply ∈ GT := gt 1417 (by decide +kernel) (by decide +kernel)
theorem dL_apply_13 : decode cL_apply 13 = .ok (.astore 4, 2) := by decide +kernel
theorem dL_apply_15 : decode cL_apply 15 = .ok (.iconst 1, 1) := by decide +kernel
theorem dL_apply_16 : decode cL_apply 16 = .ok (.ireturn, 1) := by decide +kernel
theorem dL_answer_0 : decode cL_answer 0 = .ok (.aload_n 3, 1) := by decide +kernel
theorem dL_answer_1 : decode cL_answer 1 = .ok (.iconst 0, 1) := by decide +kernel
theorem dL_answer_2 : decode cL_answer 2 = .ok (.aload_n 0, 1) := by decide +kernel
theorem dL_answer_3 : decode cL_answer 3 = .ok (.iload_n 1, 1) := by decide +kernel
theorem dL_answer_4 : decode cL_answer 4 = .ok (.iload_n 2, 1) := by decide +kernel
theorem dL_answer_5 : decode cL_answer 5 = .ok (.invokevirtual 51, 3) := by decide +kernel
set_option maxRecDepth 100000 in
theorem q1468 : Cond.code yX11_answer cX11_answer 5 (some FieldType.int) ∈ GT := gt 1468 (rfl) (by decide +kernel)
theorem M_X11_answer : MY yX11_answer cX11_answer 5 (some FieldType.int) 2 := ⟨q1468, q123, by decide +kernel, by decide +kernel⟩
theorem q1465 : Cond.methodLink RL 51 yX11_answer ∈ GT := gt 1465 (by decide +kernel) (by decide +kernel)
theorem q1466 : Cond.instanceMethod yX11_answer ∈ GT := gt 1466 (by decide +kernel) (by decide +kernel)
theorem q1467 : Cond.selects RX11 yX11_answer yX11_answer ∈ GT := gt 1467 (by decide +kernel) (by decide +kernel)
theorem dL_answer_13 : decode cL_answer 13 = .ok (.astore 4, 2) := by decide +kernel
theorem dL_answer_15 : decode cL_answer 15 = .ok (.iconst 1, 1) := by decide +kernel
theorem dL_answer_16 : decode cL_answer 16 = .ok (.ireturn, 1) := by decide +kernel
theorem dL_tellFaults_0 : decode cL_tellFaults 0 = .ok (.aload_n 3, 1) := by decide +kernel
theorem dL_tellFaults_1 : decode cL_tellFaults 1 = .ok (.iconst 0, 1) := by decide +kernel
theorem dL_tellFaults_2 : decode cL_tellFaults 2 = .ok (.aload_n 0, 1) := by decide +kernel
theorem dL_tellFaults_3 : decode cL_tellFaults 3 = .ok (.iload_n 1, 1) := by decide +kernel
theorem dL_tellFaults_4 : decode cL_tellFaults 4 = .ok (.iload_n 2, 1) := by decide +kernel
theorem dL_tellFaults_5 : decode cL_tellFaults 5 = .ok (.invokevirtual 54, 3) := by decide +kernel
set_option maxRecDepth 100000 in
theorem q1560 : Cond.code yX11_tellFaults cX11_tellFaults 5 (some FieldType.int) ∈ GT := gt 1560 (rfl) (by decide +kernel)
theorem M_X11_tellFaults : MY yX11_tellFaults cX11_tellFaults 5 (some FieldType.int) 2 := ⟨q1560, q123, by decide +kernel, by decide +kernel⟩
theorem q1557 : Cond.methodLink RL 54 yX11_tellFaults ∈ GT := gt 1557 (by decide +kernel) (by decide +kernel)
theorem q1558 : Cond.instanceMethod yX11_tellFaults ∈ GT := gt 1558 (by decide +kernel) (by decide +kernel)
theorem q1559 : Cond.selects RX11 yX11_tellFaults yX11_tellFaults ∈ GT := gt 1559 (by decide +kernel) (by decide +kernel)
theorem dL_tellFaults_13 : decode cL_tellFaults 13 = .ok (.astore 4, 2) := by decide +kernel
theorem dL_tellFaults_15 : decode cL_tellFaults 15 = .ok (.iconst 1, 1) := by decide +kernel
theorem dL_tellFaults_16 : decode cL_tellFaults 16 = .ok (.ireturn, 1) := by decide +kernel
theorem dL_crash_0 : decode cL_crash 0 = .ok (.aload_n 2, 1) := by decide +kernel
theorem dL_crash_1 : decode cL_crash 1 = .ok (.iconst 0, 1) := by decide +kernel
theorem dL_crash_2 : decode cL_crash 2 = .ok (.aload_n 0, 1) := by decide +kernel
theorem dL_crash_3 : decode cL_crash 3 = .ok (.iload_n 1, 1) := by decide +kernel
theorem dL_crash_4 : decode cL_crash 4 = .ok (.invokevirtual 57, 3) := by decide +kernel
set_option maxRecDepth 100000 in
theorem q1573 : Cond.code yX11_crash cX11_crash 4 (some FieldType.int) ∈ GT := gt 1573 (rfl) (by decide +kernel)
theorem M_X11_crash : MY yX11_crash cX11_crash 4 (some FieldType.int) 1 := ⟨q1573, q123, by decide +kernel, by decide +kernel⟩
theorem q1570 : Cond.methodLink RL 57 yX11_crash ∈ GT := gt 1570 (by decide +kernel) (by decide +kernel)
theorem q1571 : Cond.instanceMethod yX11_crash ∈ GT := gt 1571 (by decide +kernel) (by decide +kernel)
theorem q1572 : Cond.selects RX11 yX11_crash yX11_crash ∈ GT := gt 1572 (by decide +kernel) (by decide +kernel)
theorem dL_crash_12 : decode cL_crash 12 = .ok (.astore_n 3, 1) := by decide +kernel
theorem dL_crash_13 : decode cL_crash 13 = .ok (.iconst 1, 1) := by decide +kernel
theorem dL_crash_14 : decode cL_crash 14 = .ok (.ireturn, 1) := by decide +kernel
theorem dL_start_0 : decode cL_start 0 = .ok (.aload_n 2, 1) := by decide +kernel
theorem dL_start_1 : decode cL_start 1 = .ok (.iconst 0, 1) := by decide +kernel
theorem dL_start_2 : decode cL_start 2 = .ok (.aload_n 0, 1) := by decide +kernel
theorem dL_start_3 : decode cL_start 3 = .ok (.iload_n 1, 1) := by decide +kernel
theorem dL_start_4 : decode cL_start 4 = .ok (.invokevirtual 61, 3) := by decide +kernel
set_option maxRecDepth 100000 in
theorem q1603 : Cond.code yX11_start cX11_start 3 (some FieldType.int) ∈ GT := gt 1603 (rfl) (by decide +kernel)
theorem M_X11_start : MY yX11_start cX11_start 3 (some FieldType.int) 1 := ⟨q1603, q123, by decide +kernel, by decide +kernel⟩
theorem q1600 : Cond.methodLink RL 61 yX11_start ∈ GT := gt 1600 (by decide +kernel) (by decide +kernel)
theorem q1601 : Cond.instanceMethod yX11_start ∈ GT := gt 1601 (by decide +kernel) (by decide +kernel)
theorem q1602 : Cond.selects RX11 yX11_start yX11_start ∈ GT := gt 1602 (by decide +kernel) (by decide +kernel)
theorem dL_start_12 : decode cL_start 12 = .ok (.astore_n 3, 1) := by decide +kernel
theorem dL_start_13 : decode cL_start 13 = .ok (.iconst 1, 1) := by decide +kernel
theorem dL_start_14 : decode cL_start 14 = .ok (.ireturn, 1) := by decide +kernel
theorem dL_version_0 : decode cL_version 0 = .ok (.aload_n 3, 1) := by decide +kernel
theorem dL_version_1 : decode cL_version 1 = .ok (.iconst 0, 1) := by decide +kernel
theorem dL_version_2 : decode cL_version 2 = .ok (.aload_n 0, 1) := by decide +kernel
theorem dL_version_3 : decode cL_version 3 = .ok (.iload_n 1, 1) := by decide +kernel
theorem dL_version_4 : decode cL_version 4 = .ok (.iload_n 2, 1) := by decide +kernel
theorem dL_version_5 : decode cL_version 5 = .ok (.invokevirtual 70, 3) := by decide +kernel
set_option maxRecDepth 100000 in
theorem q1642 : Cond.code yX11_version cX11_version 3 (some FieldType.int) ∈ GT := gt 1642 (rfl) (by decide +kernel)
theorem M_X11_version : MY yX11_version cX11_version 3 (some FieldType.int) 2 := ⟨q1642, q123, by decide +kernel, by decide +kernel⟩
theorem q1639 : Cond.methodLink RL 70 yX11_version ∈ GT := gt 1639 (by decide +kernel) (by decide +kernel)
theorem q1640 : Cond.instanceMethod yX11_version ∈ GT := gt 1640 (by decide +kernel) (by decide +kernel)
theorem q1641 : Cond.selects RX11 yX11_version yX11_version ∈ GT := gt 1641 (by decide +kernel) (by decide +kernel)
theorem dL_version_13 : decode cL_version 13 = .ok (.astore 4, 2) := by decide +kernel
theorem dL_version_15 : decode cL_version 15 = .ok (.iconst 1, 1) := by decide +kernel
theorem dL_version_16 : decode cL_version 16 = .ok (.ireturn, 1) := by decide +kernel
theorem dL_unit_0 : decode cL_unit 0 = .ok (.aload 4, 2) := by decide +kernel
theorem dL_unit_2 : decode cL_unit 2 = .ok (.iconst 0, 1) := by decide +kernel
theorem dL_unit_3 : decode cL_unit 3 = .ok (.aload_n 0, 1) := by decide +kernel
theorem dL_unit_4 : decode cL_unit 4 = .ok (.iload_n 1, 1) := by decide +kernel
theorem dL_unit_5 : decode cL_unit 5 = .ok (.iload_n 2, 1) := by decide +kernel
theorem dL_unit_6 : decode cL_unit 6 = .ok (.iload_n 3, 1) := by decide +kernel
theorem dL_unit_7 : decode cL_unit 7 = .ok (.invokevirtual 73, 3) := by decide +kernel
set_option maxRecDepth 100000 in
theorem q1654 : Cond.code yX11_unit cX11_unit 6 (some FieldType.char) ∈ GT := gt 1654 (rfl) (by decide +kernel)
theorem M_X11_unit : MY yX11_unit cX11_unit 6 (some FieldType.char) 3 := ⟨q1654, q123, by decide +kernel, by decide +kernel⟩
theorem q1651 : Cond.methodLink RL 73 yX11_unit ∈ GT := gt 1651 (by decide +kernel) (by decide +kernel)
theorem q1652 : Cond.instanceMethod yX11_unit ∈ GT := gt 1652 (by decide +kernel) (by decide +kernel)
theorem q1653 : Cond.selects RX11 yX11_unit yX11_unit ∈ GT := gt 1653 (by decide +kernel) (by decide +kernel)
theorem dL_unit_15 : decode cL_unit 15 = .ok (.astore 5, 2) := by decide +kernel
theorem dL_unit_17 : decode cL_unit 17 = .ok (.iconst 1, 1) := by decide +kernel
theorem dL_unit_18 : decode cL_unit 18 = .ok (.ireturn, 1) := by decide +kernel
theorem dL_agree_0 : decode cL_agree 0 = .ok (.aload_n 2, 1) := by decide +kernel
theorem dL_agree_1 : decode cL_agree 1 = .ok (.iconst 0, 1) := by decide +kernel
theorem dL_agree_2 : decode cL_agree 2 = .ok (.aload_n 0, 1) := by decide +kernel
theorem dL_agree_3 : decode cL_agree 3 = .ok (.iload_n 1, 1) := by decide +kernel
theorem dL_agree_4 : decode cL_agree 4 = .ok (.invokevirtual 77, 3) := by decide +kernel
set_option maxRecDepth 100000 in
theorem q1663 : Cond.code yX11_agree cX11_agree 6 (some FieldType.boolean) ∈ GT := gt 1663 (rfl) (by decide +kernel)
theorem M_X11_agree : MY yX11_agree cX11_agree 6 (some FieldType.boolean) 1 := ⟨q1663, q123, by decide +kernel, by decide +kernel⟩
theorem q1660 : Cond.methodLink RL 77 yX11_agree ∈ GT := gt 1660 (by decide +kernel) (by decide +kernel)
theorem q1661 : Cond.instanceMethod yX11_agree ∈ GT := gt 1661 (by decide +kernel) (by decide +kernel)
theorem q1662 : Cond.selects RX11 yX11_agree yX11_agree ∈ GT := gt 1662 (by decide +kernel) (by decide +kernel)
theorem dL_agree_19 : decode cL_agree 19 = .ok (.astore_n 3, 1) := by decide +kernel
theorem dL_agree_20 : decode cL_agree 20 = .ok (.iconst 1, 1) := by decide +kernel
theorem dL_agree_21 : decode cL_agree 21 = .ok (.ireturn, 1) := by decide +kernel
theorem dL_standing_0 : decode cL_standing 0 = .ok (.aload_n 3, 1) := by decide +kernel
theorem dL_standing_1 : decode cL_standing 1 = .ok (.iconst 0, 1) := by decide +kernel
theorem dL_standing_2 : decode cL_standing 2 = .ok (.aload_n 0, 1) := by decide +kernel
theorem dL_standing_3 : decode cL_standing 3 = .ok (.iload_n 1, 1) := by decide +kernel
theorem dL_standing_4 : decode cL_standing 4 = .ok (.iload_n 2, 1) := by decide +kernel
theorem dL_standing_5 : decode cL_standing 5 = .ok (.invokevirtual 81, 3) := by decide +kernel
set_option maxRecDepth 100000 in
theorem q1679 : Cond.code yX11_standing cX11_standing 4 (some FieldType.int) ∈ GT := gt 1679 (rfl) (by decide +kernel)
theorem M_X11_standing : MY yX11_standing cX11_standing 4 (some FieldType.int) 2 := ⟨q1679, q123, by decide +kernel, by decide +kernel⟩
theorem q1676 : Cond.methodLink RL 81 yX11_standing ∈ GT := gt 1676 (by decide +kernel) (by decide +kernel)
theorem q1677 : Cond.instanceMethod yX11_standing ∈ GT := gt 1677 (by decide +kernel) (by decide +kernel)
theorem q1678 : Cond.selects RX11 yX11_standing yX11_standing ∈ GT := gt 1678 (by decide +kernel) (by decide +kernel)
theorem dL_standing_13 : decode cL_standing 13 = .ok (.astore 4, 2) := by decide +kernel
theorem dL_standing_15 : decode cL_standing 15 = .ok (.iconst 1, 1) := by decide +kernel
theorem dL_standing_16 : decode cL_standing 16 = .ok (.ireturn, 1) := by decide +kernel
theorem dL_item_0 : decode cL_item 0 = .ok (.aload 4, 2) := by decide +kernel
theorem dL_item_2 : decode cL_item 2 = .ok (.iconst 0, 1) := by decide +kernel
theorem dL_item_3 : decode cL_item 3 = .ok (.aload_n 0, 1) := by decide +kernel
theorem dL_item_4 : decode cL_item 4 = .ok (.iload_n 1, 1) := by decide +kernel
theorem dL_item_5 : decode cL_item 5 = .ok (.iload_n 2, 1) := by decide +kernel
theorem dL_item_6 : decode cL_item 6 = .ok (.iload_n 3, 1) := by decide +kernel
theorem dL_item_7 : decode cL_item 7 = .ok (.invokevirtual 84, 3) := by decide +kernel
set_option maxRecDepth 100000 in
theorem q1686 : Cond.code yX11_item cX11_item 6 (some FieldType.int) ∈ GT := gt 1686 (rfl) (by decide +kernel)
theorem M_X11_item : MY yX11_item cX11_item 6 (some FieldType.int) 3 := ⟨q1686, q123, by decide +kernel, by decide +kernel⟩
theorem q1683 : Cond.methodLink RL 84 yX11_item ∈ GT := gt 1683 (by decide +kernel) (by decide +kernel)
theorem q1684 : Cond.instanceMethod yX11_item ∈ GT := gt 1684 (by decide +kernel) (by decide +kernel)
theorem q1685 : Cond.selects RX11 yX11_item yX11_item ∈ GT := gt 1685 (by decide +kernel) (by decide +kernel)
theorem dL_item_15 : decode cL_item 15 = .ok (.astore 5, 2) := by decide +kernel
theorem dL_item_17 : decode cL_item 17 = .ok (.iconst 1, 1) := by decide +kernel
theorem dL_item_18 : decode cL_item 18 = .ok (.ireturn, 1) := by decide +kernel
theorem dL_value_0 : decode cL_value 0 = .ok (.aload 4, 2) := by decide +kernel
theorem dL_value_2 : decode cL_value 2 = .ok (.iconst 0, 1) := by decide +kernel
theorem dL_value_3 : decode cL_value 3 = .ok (.aload_n 0, 1) := by decide +kernel
theorem dL_value_4 : decode cL_value 4 = .ok (.iload_n 1, 1) := by decide +kernel
theorem dL_value_5 : decode cL_value 5 = .ok (.iload_n 2, 1) := by decide +kernel
theorem dL_value_6 : decode cL_value 6 = .ok (.iload_n 3, 1) := by decide +kernel
theorem dL_value_7 : decode cL_value 7 = .ok (.invokevirtual 87, 3) := by decide +kernel
set_option maxRecDepth 100000 in
theorem q1702 : Cond.code yX11_value cX11_value 5 (some FieldType.int) ∈ GT := gt 1702 (rfl) (by decide +kernel)
theorem M_X11_value : MY yX11_value cX11_value 5 (some FieldType.int) 3 := ⟨q1702, q123, by decide +kernel, by decide +kernel⟩
theorem q1699 : Cond.methodLink RL 87 yX11_value ∈ GT := gt 1699 (by decide +kernel) (by decide +kernel)
theorem q1700 : Cond.instanceMethod yX11_value ∈ GT := gt 1700 (by decide +kernel) (by decide +kernel)
theorem q1701 : Cond.selects RX11 yX11_value yX11_value ∈ GT := gt 1701 (by decide +kernel) (by decide +kernel)
theorem dL_value_15 : decode cL_value 15 = .ok (.astore 5, 2) := by decide +kernel
theorem dL_value_17 : decode cL_value 17 = .ok (.iconst 1, 1) := by decide +kernel
theorem dL_value_18 : decode cL_value 18 = .ok (.ireturn, 1) := by decide +kernel
theorem dL_token_0 : decode cL_token 0 = .ok (.aload 4, 2) := by decide +kernel
theorem dL_token_2 : decode cL_token 2 = .ok (.iconst 0, 1) := by decide +kernel
theorem dL_token_3 : decode cL_token 3 = .ok (.aload_n 0, 1) := by decide +kernel
theorem dL_token_4 : decode cL_token 4 = .ok (.iload_n 1, 1) := by decide +kernel
theorem dL_token_5 : decode cL_token 5 = .ok (.iload_n 2, 1) := by decide +kernel
theorem dL_token_6 : decode cL_token 6 = .ok (.iload_n 3, 1) := by decide +kernel
theorem dL_token_7 : decode cL_token 7 = .ok (.invokevirtual 90, 3) := by decide +kernel
set_option maxRecDepth 100000 in
theorem q1710 : Cond.code yX11_token cX11_token 6 (some FieldType.int) ∈ GT := gt 1710 (rfl) (by decide +kernel)
theorem M_X11_token : MY yX11_token cX11_token 6 (some FieldType.int) 3 := ⟨q1710, q123, by decide +kernel, by decide +kernel⟩
theorem q1707 : Cond.methodLink RL 90 yX11_token ∈ GT := gt 1707 (by decide +kernel) (by decide +kernel)
theorem q1708 : Cond.instanceMethod yX11_token ∈ GT := gt 1708 (by decide +kernel) (by decide +kernel)
theorem q1709 : Cond.selects RX11 yX11_token yX11_token ∈ GT := gt 1709 (by decide +kernel) (by decide +kernel)
theorem dL_token_15 : decode cL_token 15 = .ok (.astore 5, 2) := by decide +kernel
theorem dL_token_17 : decode cL_token 17 = .ok (.iconst 1, 1) := by decide +kernel
theorem dL_token_18 : decode cL_token 18 = .ok (.ireturn, 1) := by decide +kernel
theorem dL_id_0 : decode cL_id 0 = .ok (.aload 4, 2) := by decide +kernel
theorem dL_id_2 : decode cL_id 2 = .ok (.iconst 0, 1) := by decide +kernel
theorem dL_id_3 : decode cL_id 3 = .ok (.aload_n 0, 1) := by decide +kernel
theorem dL_id_4 : decode cL_id 4 = .ok (.iload_n 1, 1) := by decide +kernel
theorem dL_id_5 : decode cL_id 5 = .ok (.iload_n 2, 1) := by decide +kernel
theorem dL_id_6 : decode cL_id 6 = .ok (.iload_n 3, 1) := by decide +kernel
theorem dL_id_7 : decode cL_id 7 = .ok (.invokevirtual 93, 3) := by decide +kernel
set_option maxRecDepth 100000 in
theorem q1723 : Cond.code yX11_id cX11_id 5 (some FieldType.int) ∈ GT := gt 1723 (rfl) (by decide +kernel)
theorem M_X11_id : MY yX11_id cX11_id 5 (some FieldType.int) 3 := ⟨q1723, q123, by decide +kernel, by decide +kernel⟩
theorem q1720 : Cond.methodLink RL 93 yX11_id ∈ GT := gt 1720 (by decide +kernel) (by decide +kernel)
theorem q1721 : Cond.instanceMethod yX11_id ∈ GT := gt 1721 (by decide +kernel) (by decide +kernel)
theorem q1722 : Cond.selects RX11 yX11_id yX11_id ∈ GT := gt 1722 (by decide +kernel) (by decide +kernel)
theorem dL_id_15 : decode cL_id 15 = .ok (.astore 5, 2) := by decide +kernel
theorem dL_id_17 : decode cL_id 17 = .ok (.iconst 1, 1) := by decide +kernel
theorem dL_id_18 : decode cL_id 18 = .ok (.ireturn, 1) := by decide +kernel
theorem dL_faults_0 : decode cL_faults 0 = .ok (.aload_n 3, 1) := by decide +kernel
theorem dL_faults_1 : decode cL_faults 1 = .ok (.iconst 0, 1) := by decide +kernel
theorem dL_faults_2 : decode cL_faults 2 = .ok (.aload_n 0, 1) := by decide +kernel
theorem dL_faults_3 : decode cL_faults 3 = .ok (.iload_n 1, 1) := by decide +kernel
theorem dL_faults_4 : decode cL_faults 4 = .ok (.iload_n 2, 1) := by decide +kernel
theorem dL_faults_5 : decode cL_faults 5 = .ok (.invokevirtual 96, 3) := by decide +kernel
set_option maxRecDepth 100000 in
theorem q1731 : Cond.code yX11_faults cX11_faults 4 (some FieldType.int) ∈ GT := gt 1731 (rfl) (by decide +kernel)
theorem M_X11_faults : MY yX11_faults cX11_faults 4 (some FieldType.int) 2 := ⟨q1731, q123, by decide +kernel, by decide +kernel⟩
theorem q1728 : Cond.methodLink RL 96 yX11_faults ∈ GT := gt 1728 (by decide +kernel) (by decide +kernel)
theorem q1729 : Cond.instanceMethod yX11_faults ∈ GT := gt 1729 (by decide +kernel) (by decide +kernel)
theorem q1730 : Cond.selects RX11 yX11_faults yX11_faults ∈ GT := gt 1730 (by decide +kernel) (by decide +kernel)
theorem dL_faults_13 : decode cL_faults 13 = .ok (.astore 4, 2) := by decide +kernel
theorem dL_faults_15 : decode cL_faults 15 = .ok (.iconst 1, 1) := by decide +kernel
theorem dL_faults_16 : decode cL_faults 16 = .ok (.ireturn, 1) := by decide +kernel
theorem dL_fault_0 : decode cL_fault 0 = .ok (.aload 4, 2) := by decide +kernel
theorem dL_fault_2 : decode cL_fault 2 = .ok (.iconst 0, 1) := by decide +kernel
theorem dL_fault_3 : decode cL_fault 3 = .ok (.aload_n 0, 1) := by decide +kernel
theorem dL_fault_4 : decode cL_fault 4 = .ok (.iload_n 1, 1) := by decide +kernel
theorem dL_fault_5 : decode cL_fault 5 = .ok (.iload_n 2, 1) := by decide +kernel
theorem dL_fault_6 : decode cL_fault 6 = .ok (.iload_n 3, 1) := by decide +kernel
theorem dL_fault_7 : decode cL_fault 7 = .ok (.invokevirtual 99, 3) := by decide +kernel
set_option maxRecDepth 100000 in
theorem q1739 : Cond.code yX11_fault cX11_fault 6 (some FieldType.int) ∈ GT := gt 1739 (rfl) (by decide +kernel)
theorem M_X11_fault : MY yX11_fault cX11_fault 6 (some FieldType.int) 3 := ⟨q1739, q123, by decide +kernel, by decide +kernel⟩
theorem q1736 : Cond.methodLink RL 99 yX11_fault ∈ GT := gt 1736 (by decide +kernel) (by decide +kernel)
theorem q1737 : Cond.instanceMethod yX11_fault ∈ GT := gt 1737 (by decide +kernel) (by decide +kernel)
theorem q1738 : Cond.selects RX11 yX11_fault yX11_fault ∈ GT := gt 1738 (by decide +kernel) (by decide +kernel)
theorem dL_fault_15 : decode cL_fault 15 = .ok (.astore 5, 2) := by decide +kernel
theorem dL_fault_17 : decode cL_fault 17 = .ok (.iconst 1, 1) := by decide +kernel
theorem dL_fault_18 : decode cL_fault 18 = .ok (.ireturn, 1) := by decide +kernel
theorem dL_close_0 : decode cL_close 0 = .ok (.aload_n 0, 1) := by decide +kernel
theorem dL_close_1 : decode cL_close 1 = .ok (.iload_n 1, 1) := by decide +kernel
theorem dL_close_2 : decode cL_close 2 = .ok (.iload_n 2, 1) := by decide +kernel
theorem dL_close_3 : decode cL_close 3 = .ok (.invokevirtual 33, 3) := by decide +kernel
set_option maxRecDepth 100000 in
theorem q1297 : Cond.code yX11_close cX11_close 4 none ∈ GT := gt 1297 (rfl) (by decide +kernel)
theorem M_X11_close : MY yX11_close cX11_close 4 none 2 := ⟨q1297, q123, by decide +kernel, by decide +kernel⟩
theorem q1294 : Cond.methodLink RL 33 yX11_close ∈ GT := gt 1294 (by decide +kernel) (by decide +kernel)
theorem q1295 : Cond.instanceMethod yX11_close ∈ GT := gt 1295 (by decide +kernel) (by decide +kernel)
theorem q1296 : Cond.selects RX11 yX11_close yX11_close ∈ GT := gt 1296 (by decide +kernel) (by decide +kernel)
theorem dL_close_9 : decode cL_close 9 = .ok (.astore_n 3, 1) := by decide +kernel
theorem dL_close_10 : decode cL_close 10 = .ok (.iconst 1, 1) := by decide +kernel
theorem dL_close_11 : decode cL_close 11 = .ok (.ireturn, 1) := by decide +kernel
theorem dL_cancel_0 : decode cL_cancel 0 = .ok (.aload_n 0, 1) := by decide +kernel
theorem dL_cancel_1 : decode cL_cancel 1 = .ok (.iload_n 1, 1) := by decide +kernel
theorem dL_cancel_2 : decode cL_cancel 2 = .ok (.iload_n 2, 1) := by decide +kernel
theorem dL_cancel_3 : decode cL_cancel 3 = .ok (.invokevirtual 45, 3) := by decide +kernel
set_option maxRecDepth 100000 in
theorem q1400 : Cond.code yX11_cancel cX11_cancel 5 none ∈ GT := gt 1400 (rfl) (by decide +kernel)
theorem M_X11_cancel : MY yX11_cancel cX11_cancel 5 none 2 := ⟨q1400, q123, by decide +kernel, by decide +kernel⟩
theorem q1397 : Cond.methodLink RL 45 yX11_cancel ∈ GT := gt 1397 (by decide +kernel) (by decide +kernel)
theorem q1398 : Cond.instanceMethod yX11_cancel ∈ GT := gt 1398 (by decide +kernel) (by decide +kernel)
theorem q1399 : Cond.selects RX11 yX11_cancel yX11_cancel ∈ GT := gt 1399 (by decide +kernel) (by decide +kernel)
theorem dL_cancel_9 : decode cL_cancel 9 = .ok (.astore_n 3, 1) := by decide +kernel
theorem dL_cancel_10 : decode cL_cancel 10 = .ok (.iconst 1, 1) := by decide +kernel
theorem dL_cancel_11 : decode cL_cancel 11 = .ok (.ireturn, 1) := by decide +kernel
theorem dL_file_0 : decode cL_file 0 = .ok (.aload_n 3, 1) := by decide +kernel
theorem dL_file_1 : decode cL_file 1 = .ok (.iconst 0, 1) := by decide +kernel
theorem dL_file_2 : decode cL_file 2 = .ok (.aload_n 0, 1) := by decide +kernel
theorem dL_file_3 : decode cL_file 3 = .ok (.iload_n 1, 1) := by decide +kernel
theorem dL_file_4 : decode cL_file 4 = .ok (.iload_n 2, 1) := by decide +kernel
theorem dL_file_5 : decode cL_file 5 = .ok (.invokevirtual 7, 3) := by decide +kernel
set_option maxRecDepth 100000 in
theorem q1017 : Cond.code yX11_file cX11_file 3 (some FieldType.int) ∈ GT := gt 1017 (rfl) (by decide +kernel)
theorem M_X11_file : MY yX11_file cX11_file 3 (some FieldType.int) 2 := ⟨q1017, q123, by decide +kernel, by decide +kernel⟩
theorem q1014 : Cond.methodLink RL 7 yX11_file ∈ GT := gt 1014 (by decide +kernel) (by decide +kernel)
theorem q1015 : Cond.instanceMethod yX11_file ∈ GT := gt 1015 (by decide +kernel) (by decide +kernel)
theorem q1016 : Cond.selects RX11 yX11_file yX11_file ∈ GT := gt 1016 (by decide +kernel) (by decide +kernel)
theorem q1012 : Cond.classLink RL 13 "java/lang/IllegalArgumentException" ∈ GT := gt 1012 (by decide +kernel) (by decide +kernel)
theorem q1023 : Cond.castable "java/lang/IllegalArgumentException" "java/lang/IllegalArgumentException" ∈ GT := gt 1023 (by decide +kernel) (by decide +kernel)
theorem dL_file_13 : decode cL_file 13 = .ok (.astore 4, 2) := by decide +kernel
theorem dL_file_15 : decode cL_file 15 = .ok (.iconst 1, 1) := by decide +kernel
theorem dL_file_16 : decode cL_file 16 = .ok (.ireturn, 1) := by decide +kernel
theorem dL_file_8 : decode cL_file 8 = .ok (.i2l, 1) := by decide +kernel
theorem dL_file_9 : decode cL_file 9 = .ok (.lastore, 1) := by decide +kernel
theorem dL_file_10 : decode cL_file 10 = .ok (.goto 11, 3) := by decide +kernel
theorem dL_file_21 : decode cL_file 21 = .ok (.iconst 0, 1) := by decide +kernel
theorem dL_file_22 : decode cL_file 22 = .ok (.ireturn, 1) := by decide +kernel
theorem dL_server_0 : decode cL_server 0 = .ok (.aload 4, 2) := by decide +kernel
theorem dL_server_2 : decode cL_server 2 = .ok (.iconst 0, 1) := by decide +kernel
theorem dL_server_3 : decode cL_server 3 = .ok (.aload_n 0, 1) := by decide +kernel
theorem dL_server_4 : decode cL_server 4 = .ok (.iload_n 1, 1) := by decide +kernel
theorem dL_server_5 : decode cL_server 5 = .ok (.iload_n 2, 1) := by decide +kernel
theorem dL_server_6 : decode cL_server 6 = .ok (.iload_n 3, 1) := by decide +kernel
theorem dL_server_7 : decode cL_server 7 = .ok (.invokevirtual 22, 3) := by decide +kernel
set_option maxRecDepth 100000 in
theorem q1186 : Cond.code yX11_server cX11_server 6 (some FieldType.int) ∈ GT := gt 1186 (rfl) (by decide +kernel)
theorem M_X11_server : MY yX11_server cX11_server 6 (some FieldType.int) 3 := ⟨q1186, q123, by decide +kernel, by decide +kernel⟩
theorem q1183 : Cond.methodLink RL 22 yX11_server ∈ GT := gt 1183 (by decide +kernel) (by decide +kernel)
theorem q1184 : Cond.instanceMethod yX11_server ∈ GT := gt 1184 (by decide +kernel) (by decide +kernel)
theorem q1185 : Cond.selects RX11 yX11_server yX11_server ∈ GT := gt 1185 (by decide +kernel) (by decide +kernel)
theorem dL_server_15 : decode cL_server 15 = .ok (.astore 5, 2) := by decide +kernel
theorem dL_server_17 : decode cL_server 17 = .ok (.iconst 1, 1) := by decide +kernel
theorem dL_server_18 : decode cL_server 18 = .ok (.ireturn, 1) := by decide +kernel
theorem dL_server_10 : decode cL_server 10 = .ok (.i2l, 1) := by decide +kernel
theorem dL_server_11 : decode cL_server 11 = .ok (.lastore, 1) := by decide +kernel
theorem dL_server_12 : decode cL_server 12 = .ok (.goto 11, 3) := by decide +kernel
theorem dL_server_23 : decode cL_server 23 = .ok (.iconst 0, 1) := by decide +kernel
theorem dL_server_24 : decode cL_server 24 = .ok (.ireturn, 1) := by decide +kernel
theorem dL_deliver_0 : decode cL_deliver 0 = .ok (.aload_n 2, 1) := by decide +kernel
theorem dL_deliver_1 : decode cL_deliver 1 = .ok (.iconst 0, 1) := by decide +kernel
theorem dL_deliver_2 : decode cL_deliver 2 = .ok (.aload_n 0, 1) := by decide +kernel
theorem dL_deliver_3 : decode cL_deliver 3 = .ok (.iload_n 1, 1) := by decide +kernel
theorem dL_deliver_4 : decode cL_deliver 4 = .ok (.invokevirtual 64, 3) := by decide +kernel
set_option maxRecDepth 100000 in
theorem q1619 : Cond.code yX11_deliver cX11_deliver 2 (some FieldType.int) ∈ GT := gt 1619 (rfl) (by decide +kernel)
theorem M_X11_deliver : MY yX11_deliver cX11_deliver 2 (some FieldType.int) 1 := ⟨q1619, q123, by decide +kernel, by decide +kernel⟩
theorem q1616 : Cond.methodLink RL 64 yX11_deliver ∈ GT := gt 1616 (by decide +kernel) (by decide +kernel)
theorem q1617 : Cond.instanceMethod yX11_deliver ∈ GT := gt 1617 (by decide +kernel) (by decide +kernel)
theorem q1618 : Cond.selects RX11 yX11_deliver yX11_deliver ∈ GT := gt 1618 (by decide +kernel) (by decide +kernel)
theorem dL_deliver_12 : decode cL_deliver 12 = .ok (.astore_n 3, 1) := by decide +kernel
theorem dL_deliver_13 : decode cL_deliver 13 = .ok (.iconst 1, 1) := by decide +kernel
theorem dL_deliver_14 : decode cL_deliver 14 = .ok (.ireturn, 1) := by decide +kernel
theorem dL_deliver_7 : decode cL_deliver 7 = .ok (.i2l, 1) := by decide +kernel
theorem dL_deliver_8 : decode cL_deliver 8 = .ok (.lastore, 1) := by decide +kernel
theorem dL_deliver_9 : decode cL_deliver 9 = .ok (.goto 6, 3) := by decide +kernel
theorem dL_deliver_15 : decode cL_deliver 15 = .ok (.iconst 0, 1) := by decide +kernel
theorem dL_deliver_16 : decode cL_deliver 16 = .ok (.ireturn, 1) := by decide +kernel
theorem dL_waiting_0 : decode cL_waiting 0 = .ok (.aload_n 2, 1) := by decide +kernel
theorem dL_waiting_1 : decode cL_waiting 1 = .ok (.iconst 0, 1) := by decide +kernel
theorem dL_waiting_2 : decode cL_waiting 2 = .ok (.aload_n 0, 1) := by decide +kernel
theorem dL_waiting_3 : decode cL_waiting 3 = .ok (.iload_n 1, 1) := by decide +kernel
theorem dL_waiting_4 : decode cL_waiting 4 = .ok (.invokevirtual 67, 3) := by decide +kernel
set_option maxRecDepth 100000 in
theorem q1631 : Cond.code yX11_waiting cX11_waiting 2 (some FieldType.int) ∈ GT := gt 1631 (rfl) (by decide +kernel)
theorem M_X11_waiting : MY yX11_waiting cX11_waiting 2 (some FieldType.int) 1 := ⟨q1631, q123, by decide +kernel, by decide +kernel⟩
theorem q1628 : Cond.methodLink RL 67 yX11_waiting ∈ GT := gt 1628 (by decide +kernel) (by decide +kernel)
theorem q1629 : Cond.instanceMethod yX11_waiting ∈ GT := gt 1629 (by decide +kernel) (by decide +kernel)
theorem q1630 : Cond.selects RX11 yX11_waiting yX11_waiting ∈ GT := gt 1630 (by decide +kernel) (by decide +kernel)
theorem dL_waiting_12 : decode cL_waiting 12 = .ok (.astore_n 3, 1) := by decide +kernel
theorem dL_waiting_13 : decode cL_waiting 13 = .ok (.iconst 1, 1) := by decide +kernel
theorem dL_waiting_14 : decode cL_waiting 14 = .ok (.ireturn, 1) := by decide +kernel
theorem dL_waiting_7 : decode cL_waiting 7 = .ok (.i2l, 1) := by decide +kernel
theorem dL_waiting_8 : decode cL_waiting 8 = .ok (.lastore, 1) := by decide +kernel
theorem dL_waiting_9 : decode cL_waiting 9 = .ok (.goto 6, 3) := by decide +kernel
theorem dL_waiting_15 : decode cL_waiting 15 = .ok (.iconst 0, 1) := by decide +kernel
theorem dL_waiting_16 : decode cL_waiting 16 = .ok (.ireturn, 1) := by decide +kernel
set_option maxHeartbeats 4000000 in
set_option maxRecDepth 100000 in
theorem k_L_store (l : Launch) (hL : l.stackTraces = false) (d0 : Nat) (cO : ClassId) (dC : Nat → ClassId) (dI : Nat → Nat → Nat) (sz : Nat) (h0 ea sl : Nat) (tca tmx tsv : Value) (tE : ClassId) (fE : Nat → Option Nat) (sm : Int32) (se : Value) (fi : Nat) (fna fla fv2 fv3 fv4 fv5 : Value) (e0 ak0 : Nat) (ei0 am0 : Int32) (ev0_1 ev0_2 ev0_3 ev0_4 ev0_5 ev0_6 ae0 : Value) (e1 ak1 : Nat) (ei1 am1 : Int32) (ev1_1 ev1_2 ev1_3 ev1_4 ev1_5 ev1_6 ae1 : Value) (hf0 : fE 0 = some e0) (hf1 : fE 1 = some e1) (a1 a2 : Int32) (out : Nat) : vx_Met l yL_store (cnW yL_store cL_store 5 (some FieldType.int) [(0, 10, 13, 20), (0, 10, 17, 13), (0, 10, 21, 15)]) (rmd 8 1 6) (va_Pc [.ref h0, .int a1, .int a2, .ref out] (PREp d0 cO (dC, dI) (va_A [] sz) [(h0, .inr (12, [.ref fi, tca, .ref ea, .ref sl, tmx, tsv])), (fi, .inr (5, [fna, fla, fv2, fv3, fv4, fv5, .int 0])), (ea, .inl (tE, 2, .inr (.inr (.inr (.inr fE))))), (e0, .inr (4, [.int ei0, ev0_1, ev0_2, ev0_3, ev0_4, ev0_5, ev0_6, .ref ak0])), (e1, .inr (4, [.int ei1, ev1_1, ev1_2, ev1_3, ev1_4, ev1_5, ev1_6, .ref ak1])), (ak0, .inr (0, [.int am0, ae0, .int 0])), (ak1, .inr (0, [.int am1, ae1, .int 0])), (sl, .inr (0, [.int sm, se, .int 0]))] [(tE, .object RX3)] sz)) (va_Qi (fun (r : Int32) (_ : Unit) => r = 1) (fun (_ : Unit) (t : State) => va_P (dC, dI) vwCl [] t.heap) (va_A [] sz)) (vx_X (fun _ : Unit => True) (fun E _ _ => False) (va_A [] sz)) 1 6 (va_A [] sz) := by
  refine vx_ofWH (cc := cL_store) (maxL := 5) (ret := (some FieldType.int)) (hh := [(0, 10, 13, 20), (0, 10, 17, 13), (0, 10, 21, 15)]) (by decide) rfl ?_
  intro p e s m args below meth c s₁ B hml hv
  obtain ⟨rfl, hsz, hE, hP, hK⟩ := hv
  have hx := B.exec
  have hb := B.bytes
  have hr := B.returns
  have hts := atoms_spec (ws := cnW yL_store cL_store 5 (some FieldType.int) [(0, 10, 13, 20), (0, 10, 17, 13), (0, 10, 21, 15)]) B.pre
  have ht : ∀ w ∈ GT, w.before _ s = true := fun w h => hts w (List.mem_cons_of_mem _ h)
  have htab := vx_table (x := yL_store) B (hts _ List.mem_cons_self)
  have hown : s.vm.findClass RL = some m.cls := findClass_of_methodNamed B.named
  have hlocks := B.notSynchronized
  subst hsz
  generalize hAe : va_A [] s.heap.size = A at hE ⊢
  have hA : ∀ q : Nat, s.heap.size ≤ q → A q := fun q h => by rw [← hAe]; exact Or.inr h
  obtain ⟨H, hH0⟩ : ∃ H, s.heap = H := ⟨_, rfl⟩
  have hS : va_S A s.heap H [] := by rw [← hH0]; exact va_S.rf
  rw [hH0] at hP
  have hl := lv_entry ([.ref h0, .int a1, .int a2, .ref out]) (n := 5) (Nat.le_of_ble_eq_true rfl)
  rw [lg_entry_eq]
  generalize (lg_sl ([.ref h0, .int a1, .int a2, .ref out]) ++ List.replicate (5 - (lg_sl ([.ref h0, .int a1, .int a2, .ref out])).length) Slot.unset).toArray = ls at hl ⊢
  have hl : lv_has ls 5 [(0, .ref h0), (1, .int a1), (2, .int a2), (3, .ref out)] := hl
  rw [hH0]
  refine lv_aload_n hx hb dL_store_0 rfl (lv_at hl 3 rfl) ?_
  refine lv_iconst (v := 0) hx hb dL_store_1 (by decide) ?_
  refine lv_aload_n hx hb dL_store_2 rfl (lv_at hl 0 rfl) ?_
  refine lv_iload_n hx hb dL_store_3 rfl (lv_at hl 1 rfl) ?_
  refine lv_iload_n hx hb dL_store_4 rfl (lv_at hl 2 rfl) ?_
  have hPc := hP.sub (ws' := [(h0, .inr (12, [.ref fi, tca, .ref ea, .ref sl, tmx, tsv])), (fi, .inr (5, [fna, fla, fv2, fv3, fv4, fv5, .int 0])), (ea, .inl (tE, 2, .inr (.inr (.inr (.inr fE))))), (e0, .inr (4, [.int ei0, ev0_1, ev0_2, ev0_3, ev0_4, ev0_5, ev0_6, .ref ak0])), (e1, .inr (4, [.int ei1, ev1_1, ev1_2, ev1_3, ev1_4, ev1_5, ev1_6, .ref ak1])), (ak0, .inr (0, [.int am0, ae0, .int 0])), (ak1, .inr (0, [.int am1, ae1, .int 0])), (sl, .inr (0, [.int sm, se, .int 0]))]) [0, 1, 2, 3, 4, 5, 6, 7] rfl
  have hKc := hK.sub (tys' := [(tE, .object RX3)]) [0] rfl
  have hFc := freeNil hS hA
  refine vx_calli (vx_runV (As := [.int a1, .int a2]) (rest := [.int 0, .ref out]) ⟨hx, hb, hml, hown, ht⟩ (k_X11_store l hL d0 cO dC dI H.size h0 ea sl tca tmx tsv tE fE sm se fi fna fla fv2 fv3 fv4 fv5 e0 ak0 ei0 am0 ev0_1 ev0_2 ev0_3 ev0_4 ev0_5 ev0_6 ae0 e1 ak1 ei1 am1 ev1_1 ev1_2 ev1_3 ev1_4 ev1_5 ev1_6 ae1 hf0 hf1 a1 a2) (my_V ht M_X11_store q1122 q1123 q1121 (Nat.le_of_ble_eq_true rfl) (Nat.le_of_ble_eq_true rfl)) ⟨PREp.fb, va_recv hK hP (ci := 12) (q0 := 0) rfl rfl, fun U hU hW => ⟨rfl, PREp.mk' hE hS hFc hPc hKc U hU hW⟩⟩ rfl rfl hl.1 rfl (lv_room (Nat.le_of_ble_eq_true rfl)) dL_store_5 ⟨(Nat.le_of_ble_eq_true rfl), (Nat.le_of_ble_eq_true rfl)⟩) hS (fun q _ h => hFc q h) hFc (fun q _ h => hFc q h) (fun E ce q9 ux t H1 locs htt hvm hw hB hz1 hk1 hS hcell hv9 hcl9 => ?_) (fun r2 u1 t H1 locs htt hvm hw hB hz1 hk1 hS => ?_)
  · skip
    obtain rfl : E = _ := hB
    generalize H1 = H at hS hcell ⊢
    have hP : va_P (dC, dI) vwCl [] H := va_P0
    refine vx_catch hown [] ⟨0, 10, 13, 20⟩ [⟨0, 10, 17, 13⟩, ⟨0, 10, 21, 15⟩] (htab.trans rfl) (fun z h => by simp at h) (by decide) (by decide) (ht _ q1120) (ht _ q1132) hcell hv9 hcl9 ?_
    refine W.eq (g2 := F0 m 13 ls [.ref q9]) rfl ?_
    refine lv_astore (lv' := [(4, .ref q9), (0, .ref h0), (1, .int a1), (2, .int a2), (3, .ref out)]) hx hb dL_store_13 hl (by decide) rfl (fun ls hl => ?_)
    refine lv_iconst (v := 1) hx hb dL_store_15 (by decide) ?_
    have hP9 := hP.sub (ws' := []) [] rfl
    have hK9 := hK.sub (tys' := [(tE, .object RX3)]) [0] rfl
    refine W.widen (k := 1) (n := 6) (Nat.le_of_ble_eq_true rfl) (Nat.le_of_ble_eq_true rfl) ?_
    refine vx_ret ?_
    exact W.iret (v := 1) hx hb hr (fun t ht9 hW9 => ⟨⟨1, (), rfl, rfl, ppk ht9 hP9⟩, hS.F ht9⟩) hS.2.2 dL_store_16
  · skip
    exact hw.elim
set_option maxHeartbeats 4000000 in
set_option maxRecDepth 100000 in
theorem k_L_name (l : Launch) (hL : l.stackTraces = false) (d0 : Nat) (cO : ClassId) (dC : Nat → ClassId) (dI : Nat → Nat → Nat) (sz : Nat) (h0 ea sl : Nat) (tca tmx tsv : Value) (tE : ClassId) (fE : Nat → Option Nat) (sm : Int32) (se : Value) (fi : Nat) (fna fla fv2 fv3 fv4 fv5 : Value) (e0 ak0 : Nat) (ei0 am0 : Int32) (ev0_1 ev0_2 ev0_3 ev0_4 ev0_5 ev0_6 ae0 : Value) (e1 ak1 : Nat) (ei1 am1 : Int32) (ev1_1 ev1_2 ev1_3 ev1_4 ev1_5 ev1_6 ae1 : Value) (hf0 : fE 0 = some e0) (hf1 : fE 1 = some e1) (a1 : Int32) (out : Nat) : vx_Met l yL_name (cnW yL_name cL_name 4 (some FieldType.int) [(0, 9, 12, 20)]) (rmd 8 1 6) (va_Pc [.ref h0, .int a1, .ref out] (PREp d0 cO (dC, dI) (va_A [] sz) [(h0, .inr (12, [.ref fi, tca, .ref ea, .ref sl, tmx, tsv])), (fi, .inr (5, [fna, fla, fv2, fv3, fv4, fv5, .int 0])), (ea, .inl (tE, 2, .inr (.inr (.inr (.inr fE))))), (e0, .inr (4, [.int ei0, ev0_1, ev0_2, ev0_3, ev0_4, ev0_5, ev0_6, .ref ak0])), (e1, .inr (4, [.int ei1, ev1_1, ev1_2, ev1_3, ev1_4, ev1_5, ev1_6, .ref ak1])), (ak0, .inr (0, [.int am0, ae0, .int 0])), (ak1, .inr (0, [.int am1, ae1, .int 0])), (sl, .inr (0, [.int sm, se, .int 0]))] [(tE, .object RX3)] sz)) (va_Qi (fun (r : Int32) (_ : Unit) => r = 1) (fun (_ : Unit) (t : State) => va_P (dC, dI) vwCl [] t.heap) (va_A [] sz)) (vx_X (fun _ : Unit => True) (fun E _ _ => False) (va_A [] sz)) 1 6 (va_A [] sz) := by
  refine vx_ofWH (cc := cL_name) (maxL := 4) (ret := (some FieldType.int)) (hh := [(0, 9, 12, 20)]) (by decide) rfl ?_
  intro p e s m args below meth c s₁ B hml hv
  obtain ⟨rfl, hsz, hE, hP, hK⟩ := hv
  have hx := B.exec
  have hb := B.bytes
  have hr := B.returns
  have hts := atoms_spec (ws := cnW yL_name cL_name 4 (some FieldType.int) [(0, 9, 12, 20)]) B.pre
  have ht : ∀ w ∈ GT, w.before _ s = true := fun w h => hts w (List.mem_cons_of_mem _ h)
  have htab := vx_table (x := yL_name) B (hts _ List.mem_cons_self)
  have hown : s.vm.findClass RL = some m.cls := findClass_of_methodNamed B.named
  have hlocks := B.notSynchronized
  subst hsz
  generalize hAe : va_A [] s.heap.size = A at hE ⊢
  have hA : ∀ q : Nat, s.heap.size ≤ q → A q := fun q h => by rw [← hAe]; exact Or.inr h
  obtain ⟨H, hH0⟩ : ∃ H, s.heap = H := ⟨_, rfl⟩
  have hS : va_S A s.heap H [] := by rw [← hH0]; exact va_S.rf
  rw [hH0] at hP
  have hl := lv_entry ([.ref h0, .int a1, .ref out]) (n := 4) (Nat.le_of_ble_eq_true rfl)
  rw [lg_entry_eq]
  generalize (lg_sl ([.ref h0, .int a1, .ref out]) ++ List.replicate (4 - (lg_sl ([.ref h0, .int a1, .ref out])).length) Slot.unset).toArray = ls at hl ⊢
  have hl : lv_has ls 4 [(0, .ref h0), (1, .int a1), (2, .ref out)] := hl
  rw [hH0]
  refine lv_aload_n hx hb dL_name_0 rfl (lv_at hl 2 rfl) ?_
  refine lv_iconst (v := 0) hx hb dL_name_1 (by decide) ?_
  refine lv_aload_n hx hb dL_name_2 rfl (lv_at hl 0 rfl) ?_
  refine lv_iload_n hx hb dL_name_3 rfl (lv_at hl 1 rfl) ?_
  have hPc := hP.sub (ws' := [(h0, .inr (12, [.ref fi, tca, .ref ea, .ref sl, tmx, tsv])), (fi, .inr (5, [fna, fla, fv2, fv3, fv4, fv5, .int 0])), (ea, .inl (tE, 2, .inr (.inr (.inr (.inr fE))))), (e0, .inr (4, [.int ei0, ev0_1, ev0_2, ev0_3, ev0_4, ev0_5, ev0_6, .ref ak0])), (e1, .inr (4, [.int ei1, ev1_1, ev1_2, ev1_3, ev1_4, ev1_5, ev1_6, .ref ak1])), (ak0, .inr (0, [.int am0, ae0, .int 0])), (ak1, .inr (0, [.int am1, ae1, .int 0])), (sl, .inr (0, [.int sm, se, .int 0]))]) [0, 1, 2, 3, 4, 5, 6, 7] rfl
  have hKc := hK.sub (tys' := [(tE, .object RX3)]) [0] rfl
  have hFc := freeNil hS hA
  refine vx_calli (vx_runV (As := [.int a1]) (rest := [.int 0, .ref out]) ⟨hx, hb, hml, hown, ht⟩ (k_X11_name l hL d0 cO dC dI H.size h0 ea sl tca tmx tsv tE fE sm se fi fna fla fv2 fv3 fv4 fv5 e0 ak0 ei0 am0 ev0_1 ev0_2 ev0_3 ev0_4 ev0_5 ev0_6 ae0 e1 ak1 ei1 am1 ev1_1 ev1_2 ev1_3 ev1_4 ev1_5 ev1_6 ae1 hf0 hf1 a1) (my_V ht M_X11_name q1243 q1244 q1242 (Nat.le_of_ble_eq_true rfl) (Nat.le_of_ble_eq_true rfl)) ⟨PREp.fb, va_recv hK hP (ci := 12) (q0 := 0) rfl rfl, fun U hU hW => ⟨rfl, PREp.mk' hE hS hFc hPc hKc U hU hW⟩⟩ rfl rfl hl.1 rfl (lv_room (Nat.le_of_ble_eq_true rfl)) dL_name_4 ⟨(Nat.le_of_ble_eq_true rfl), (Nat.le_of_ble_eq_true rfl)⟩) hS (fun q _ h => hFc q h) hFc (fun q _ h => hFc q h) (fun E ce q9 ux t H1 locs htt hvm hw hB hz1 hk1 hS hcell hv9 hcl9 => ?_) (fun r2 u1 t H1 locs htt hvm hw hB hz1 hk1 hS => ?_)
  · skip
    obtain rfl : E = _ := hB
    generalize H1 = H at hS hcell ⊢
    have hP : va_P (dC, dI) vwCl [] H := va_P0
    refine vx_catch hown [] ⟨0, 9, 12, 20⟩ [] (htab.trans rfl) (fun z h => by simp at h) (by decide) (by decide) (ht _ q1120) (ht _ q1132) hcell hv9 hcl9 ?_
    refine W.eq (g2 := F0 m 12 ls [.ref q9]) rfl ?_
    refine lv_astore_n (lv' := [(3, .ref q9), (0, .ref h0), (1, .int a1), (2, .ref out)]) hx hb dL_name_12 rfl hl (by decide) rfl (fun ls hl => ?_)
    refine lv_iconst (v := 1) hx hb dL_name_13 (by decide) ?_
    have hP9 := hP.sub (ws' := []) [] rfl
    have hK9 := hK.sub (tys' := [(tE, .object RX3)]) [0] rfl
    refine W.widen (k := 1) (n := 6) (Nat.le_of_ble_eq_true rfl) (Nat.le_of_ble_eq_true rfl) ?_
    refine vx_ret ?_
    exact W.iret (v := 1) hx hb hr (fun t ht9 hW9 => ⟨⟨1, (), rfl, rfl, ppk ht9 hP9⟩, hS.F ht9⟩) hS.2.2 dL_name_14
  · skip
    exact hw.elim
set_option maxHeartbeats 4000000 in
set_option maxRecDepth 100000 in
theorem k_L_open (l : Launch) (hL : l.stackTraces = false) (d0 : Nat) (cO : ClassId) (dC : Nat → ClassId) (dI : Nat → Nat → Nat) (sz : Nat) (h0 ea sl : Nat) (tca tmx tsv : Value) (tE : ClassId) (fE : Nat → Option Nat) (sm : Int32) (se : Value) (fi : Nat) (fna fla fv2 fv3 fv4 fv5 : Value) (e0 ak0 : Nat) (ei0 am0 : Int32) (ev0_1 ev0_2 ev0_3 ev0_4 ev0_5 ev0_6 ae0 : Value) (e1 ak1 : Nat) (ei1 am1 : Int32) (ev1_1 ev1_2 ev1_3 ev1_4 ev1_5 ev1_6 ae1 : Value) (hf0 : fE 0 = some e0) (hf1 : fE 1 = some e1) (a1 a2 : Int32) (out : Nat) : vx_Met l yL_open (cnW yL_open cL_open 5 (some FieldType.int) [(0, 10, 13, 20), (0, 10, 17, 15)]) (rmd 8 2 12) (va_Pc [.ref h0, .int a1, .int a2, .ref out] (PREp d0 cO (dC, dI) (va_A [] sz) [(h0, .inr (12, [.ref fi, tca, .ref ea, .ref sl, tmx, tsv])), (fi, .inr (5, [fna, fla, fv2, fv3, fv4, fv5, .int 0])), (ea, .inl (tE, 2, .inr (.inr (.inr (.inr fE))))), (e0, .inr (4, [.int ei0, ev0_1, ev0_2, ev0_3, ev0_4, ev0_5, ev0_6, .ref ak0])), (e1, .inr (4, [.int ei1, ev1_1, ev1_2, ev1_3, ev1_4, ev1_5, ev1_6, .ref ak1])), (ak0, .inr (0, [.int am0, ae0, .int 0])), (ak1, .inr (0, [.int am1, ae1, .int 0])), (sl, .inr (0, [.int sm, se, .int 0]))] [(tE, .object RX3)] sz)) (va_Qi (fun (r : Int32) (_ : Unit) => r = 1) (fun (_ : Unit) (t : State) => va_P (dC, dI) vwCl [] t.heap) (va_A [] sz)) (vx_X (fun _ : Unit => True) (fun E _ _ => False) (va_A [] sz)) 2 12 (va_A [] sz) := by
  refine vx_ofWH (cc := cL_open) (maxL := 5) (ret := (some FieldType.int)) (hh := [(0, 10, 13, 20), (0, 10, 17, 15)]) (by decide) rfl ?_
  intro p e s m args below meth c s₁ B hml hv
  obtain ⟨rfl, hsz, hE, hP, hK⟩ := hv
  have hx := B.exec
  have hb := B.bytes
  have hr := B.returns
  have hts := atoms_spec (ws := cnW yL_open cL_open 5 (some FieldType.int) [(0, 10, 13, 20), (0, 10, 17, 15)]) B.pre
  have ht : ∀ w ∈ GT, w.before _ s = true := fun w h => hts w (List.mem_cons_of_mem _ h)
  have htab := vx_table (x := yL_open) B (hts _ List.mem_cons_self)
  have hown : s.vm.findClass RL = some m.cls := findClass_of_methodNamed B.named
  have hlocks := B.notSynchronized
  subst hsz
  generalize hAe : va_A [] s.heap.size = A at hE ⊢
  have hA : ∀ q : Nat, s.heap.size ≤ q → A q := fun q h => by rw [← hAe]; exact Or.inr h
  obtain ⟨H, hH0⟩ : ∃ H, s.heap = H := ⟨_, rfl⟩
  have hS : va_S A s.heap H [] := by rw [← hH0]; exact va_S.rf
  rw [hH0] at hP
  have hl := lv_entry ([.ref h0, .int a1, .int a2, .ref out]) (n := 5) (Nat.le_of_ble_eq_true rfl)
  rw [lg_entry_eq]
  generalize (lg_sl ([.ref h0, .int a1, .int a2, .ref out]) ++ List.replicate (5 - (lg_sl ([.ref h0, .int a1, .int a2, .ref out])).length) Slot.unset).toArray = ls at hl ⊢
  have hl : lv_has ls 5 [(0, .ref h0), (1, .int a1), (2, .int a2), (3, .ref out)] := hl
  rw [hH0]
  refine lv_aload_n hx hb dL_open_0 rfl (lv_at hl 3 rfl) ?_
  refine lv_iconst (v := 0) hx hb dL_open_1 (by decide) ?_
  refine lv_aload_n hx hb dL_open_2 rfl (lv_at hl 0 rfl) ?_
  refine lv_iload_n hx hb dL_open_3 rfl (lv_at hl 1 rfl) ?_
  refine lv_iload_n hx hb dL_open_4 rfl (lv_at hl 2 rfl) ?_
  have hPc := hP.sub (ws' := [(h0, .inr (12, [.ref fi, tca, .ref ea, .ref sl, tmx, tsv])), (fi, .inr (5, [fna, fla, fv2, fv3, fv4, fv5, .int 0])), (ea, .inl (tE, 2, .inr (.inr (.inr (.inr fE))))), (e0, .inr (4, [.int ei0, ev0_1, ev0_2, ev0_3, ev0_4, ev0_5, ev0_6, .ref ak0])), (e1, .inr (4, [.int ei1, ev1_1, ev1_2, ev1_3, ev1_4, ev1_5, ev1_6, .ref ak1])), (ak0, .inr (0, [.int am0, ae0, .int 0])), (ak1, .inr (0, [.int am1, ae1, .int 0])), (sl, .inr (0, [.int sm, se, .int 0]))]) [0, 1, 2, 3, 4, 5, 6, 7] rfl
  have hKc := hK.sub (tys' := [(tE, .object RX3)]) [0] rfl
  have hFc := freeNil hS hA
  refine vx_calli (vx_runV (As := [.int a1, .int a2]) (rest := [.int 0, .ref out]) ⟨hx, hb, hml, hown, ht⟩ (k_X11_open l hL d0 cO dC dI H.size h0 ea sl tca tmx tsv tE fE sm se fi fna fla fv2 fv3 fv4 fv5 e0 ak0 ei0 am0 ev0_1 ev0_2 ev0_3 ev0_4 ev0_5 ev0_6 ae0 e1 ak1 ei1 am1 ev1_1 ev1_2 ev1_3 ev1_4 ev1_5 ev1_6 ae1 hf0 hf1 a1 a2) (my_V ht M_X11_open q1254 q1255 q1253 (Nat.le_of_ble_eq_true rfl) (Nat.le_of_ble_eq_true rfl)) ⟨PREp.fb, va_recv hK hP (ci := 12) (q0 := 0) rfl rfl, fun U hU hW => ⟨rfl, PREp.mk' hE hS hFc hPc hKc U hU hW⟩⟩ rfl rfl hl.1 rfl (lv_room (Nat.le_of_ble_eq_true rfl)) dL_open_5 ⟨(Nat.le_of_ble_eq_true rfl), (Nat.le_of_ble_eq_true rfl)⟩) hS (fun q _ h => hFc q h) hFc (fun q _ h => hFc q h) (fun E ce q9 ux t H1 locs htt hvm hw hB hz1 hk1 hS hcell hv9 hcl9 => ?_) (fun r2 u1 t H1 locs htt hvm hw hB hz1 hk1 hS => ?_)
  · skip
    obtain rfl : E = _ := hB
    generalize H1 = H at hS hcell ⊢
    have hP : va_P (dC, dI) vwCl [] H := va_P0
    refine vx_catch hown [] ⟨0, 10, 13, 20⟩ [⟨0, 10, 17, 15⟩] (htab.trans rfl) (fun z h => by simp at h) (by decide) (by decide) (ht _ q1120) (ht _ q1132) hcell hv9 hcl9 ?_
    refine W.eq (g2 := F0 m 13 ls [.ref q9]) rfl ?_
    refine lv_astore (lv' := [(4, .ref q9), (0, .ref h0), (1, .int a1), (2, .int a2), (3, .ref out)]) hx hb dL_open_13 hl (by decide) rfl (fun ls hl => ?_)
    refine lv_iconst (v := 1) hx hb dL_open_15 (by decide) ?_
    have hP9 := hP.sub (ws' := []) [] rfl
    have hK9 := hK.sub (tys' := [(tE, .object RX3)]) [0] rfl
    refine W.widen (k := 2) (n := 12) (Nat.le_of_ble_eq_true rfl) (Nat.le_of_ble_eq_true rfl) ?_
    refine vx_ret ?_
    exact W.iret (v := 1) hx hb hr (fun t ht9 hW9 => ⟨⟨1, (), rfl, rfl, ppk ht9 hP9⟩, hS.F ht9⟩) hS.2.2 dL_open_16
  · skip
    exact hw.elim
set_option maxHeartbeats 4000000 in
set_option maxRecDepth 100000 in
theorem k_L_change (l : Launch) (hL : l.stackTraces = false) (d0 : Nat) (cO : ClassId) (dC : Nat → ClassId) (dI : Nat → Nat → Nat) (sz : Nat) (h0 ea sl : Nat) (tca tmx tsv : Value) (tE : ClassId) (fE : Nat → Option Nat) (sm : Int32) (se : Value) (fi : Nat) (fna fla fv2 fv3 fv4 fv5 : Value) (e0 ak0 : Nat) (ei0 am0 : Int32) (ev0_1 ev0_2 ev0_3 ev0_4 ev0_5 ev0_6 ae0 : Value) (e1 ak1 : Nat) (ei1 am1 : Int32) (ev1_1 ev1_2 ev1_3 ev1_4 ev1_5 ev1_6 ae1 : Value) (hf0 : fE 0 = some e0) (hf1 : fE 1 = some e1) (a1 a2 a3 a4 a5 a6 a7 : Int32) (out : Nat) : vx_Met l yL_change (cnW yL_change cL_change 10 (some FieldType.int) [(0, 20, 23, 20), (0, 20, 27, 13), (0, 20, 31, 15)]) (rmd 8 2 12) (va_Pc [.ref h0, .int a1, .int a2, .int a3, .int a4, .int a5, .int a6, .int a7, .ref out] (PREp d0 cO (dC, dI) (va_A [] sz) [(h0, .inr (12, [.ref fi, tca, .ref ea, .ref sl, tmx, tsv])), (fi, .inr (5, [fna, fla, fv2, fv3, fv4, fv5, .int 0])), (ea, .inl (tE, 2, .inr (.inr (.inr (.inr fE))))), (e0, .inr (4, [.int ei0, ev0_1, ev0_2, ev0_3, ev0_4, ev0_5, ev0_6, .ref ak0])), (e1, .inr (4, [.int ei1, ev1_1, ev1_2, ev1_3, ev1_4, ev1_5, ev1_6, .ref ak1])), (ak0, .inr (0, [.int am0, ae0, .int 0])), (ak1, .inr (0, [.int am1, ae1, .int 0])), (sl, .inr (0, [.int sm, se, .int 0]))] [(tE, .object RX3)] sz)) (va_Qi (fun (r : Int32) (_ : Unit) => r = 1) (fun (_ : Unit) (t : State) => va_P (dC, dI) vwCl [] t.heap) (va_A [] sz)) (vx_X (fun _ : Unit => True) (fun E _ _ => False) (va_A [] sz)) 2 12 (va_A [] sz) := by
  refine vx_ofWH (cc := cL_change) (maxL := 10) (ret := (some FieldType.int)) (hh := [(0, 20, 23, 20), (0, 20, 27, 13), (0, 20, 31, 15)]) (by decide) rfl ?_
  intro p e s m args below meth c s₁ B hml hv
  obtain ⟨rfl, hsz, hE, hP, hK⟩ := hv
  have hx := B.exec
  have hb := B.bytes
  have hr := B.returns
  have hts := atoms_spec (ws := cnW yL_change cL_change 10 (some FieldType.int) [(0, 20, 23, 20), (0, 20, 27, 13), (0, 20, 31, 15)]) B.pre
  have ht : ∀ w ∈ GT, w.before _ s = true := fun w h => hts w (List.mem_cons_of_mem _ h)
  have htab := vx_table (x := yL_change) B (hts _ List.mem_cons_self)
  have hown : s.vm.findClass RL = some m.cls := findClass_of_methodNamed B.named
  have hlocks := B.notSynchronized
  subst hsz
  generalize hAe : va_A [] s.heap.size = A at hE ⊢
  have hA : ∀ q : Nat, s.heap.size ≤ q → A q := fun q h => by rw [← hAe]; exact Or.inr h
  obtain ⟨H, hH0⟩ : ∃ H, s.heap = H := ⟨_, rfl⟩
  have hS : va_S A s.heap H [] := by rw [← hH0]; exact va_S.rf
  rw [hH0] at hP
  have hl := lv_entry ([.ref h0, .int a1, .int a2, .int a3, .int a4, .int a5, .int a6, .int a7, .ref out]) (n := 10) (Nat.le_of_ble_eq_true rfl)
  rw [lg_entry_eq]
  generalize (lg_sl ([.ref h0, .int a1, .int a2, .int a3, .int a4, .int a5, .int a6, .int a7, .ref out]) ++ List.replicate (10 - (lg_sl ([.ref h0, .int a1, .int a2, .int a3, .int a4, .int a5, .int a6, .int a7, .ref out])).length) Slot.unset).toArray = ls at hl ⊢
  have hl : lv_has ls 10 [(0, .ref h0), (1, .int a1), (2, .int a2), (3, .int a3), (4, .int a4), (5, .int a5), (6, .int a6), (7, .int a7), (8, .ref out)] := hl
  rw [hH0]
  refine lv_aload hx hb dL_change_0 (lv_at hl 8 rfl) ?_
  refine lv_iconst (v := 0) hx hb dL_change_2 (by decide) ?_
  refine lv_aload_n hx hb dL_change_3 rfl (lv_at hl 0 rfl) ?_
  refine lv_iload_n hx hb dL_change_4 rfl (lv_at hl 1 rfl) ?_
  refine lv_iload_n hx hb dL_change_5 rfl (lv_at hl 2 rfl) ?_
  refine lv_iload_n hx hb dL_change_6 rfl (lv_at hl 3 rfl) ?_
  refine lv_iload hx hb dL_change_7 (lv_at hl 4 rfl) ?_
  refine lv_iload hx hb dL_change_9 (lv_at hl 5 rfl) ?_
  refine lv_iload hx hb dL_change_11 (lv_at hl 6 rfl) ?_
  refine lv_iload hx hb dL_change_13 (lv_at hl 7 rfl) ?_
  have hPc := hP.sub (ws' := [(h0, .inr (12, [.ref fi, tca, .ref ea, .ref sl, tmx, tsv])), (fi, .inr (5, [fna, fla, fv2, fv3, fv4, fv5, .int 0])), (ea, .inl (tE, 2, .inr (.inr (.inr (.inr fE))))), (e0, .inr (4, [.int ei0, ev0_1, ev0_2, ev0_3, ev0_4, ev0_5, ev0_6, .ref ak0])), (e1, .inr (4, [.int ei1, ev1_1, ev1_2, ev1_3, ev1_4, ev1_5, ev1_6, .ref ak1])), (ak0, .inr (0, [.int am0, ae0, .int 0])), (ak1, .inr (0, [.int am1, ae1, .int 0])), (sl, .inr (0, [.int sm, se, .int 0]))]) [0, 1, 2, 3, 4, 5, 6, 7] rfl
  have hKc := hK.sub (tys' := [(tE, .object RX3)]) [0] rfl
  have hFc := freeNil hS hA
  refine vx_calli (vx_runV (As := [.int a1, .int a2, .int a3, .int a4, .int a5, .int a6, .int a7]) (rest := [.int 0, .ref out]) ⟨hx, hb, hml, hown, ht⟩ (k_X11_change l hL d0 cO dC dI H.size h0 ea sl tca tmx tsv tE fE sm se fi fna fla fv2 fv3 fv4 fv5 e0 ak0 ei0 am0 ev0_1 ev0_2 ev0_3 ev0_4 ev0_5 ev0_6 ae0 e1 ak1 ei1 am1 ev1_1 ev1_2 ev1_3 ev1_4 ev1_5 ev1_6 ae1 hf0 hf1 a1 a2 a3 a4 a5 a6 a7) (my_V ht M_X11_change q1324 q1325 q1323 (Nat.le_of_ble_eq_true rfl) (Nat.le_of_ble_eq_true rfl)) ⟨PREp.fb, va_recv hK hP (ci := 12) (q0 := 0) rfl rfl, fun U hU hW => ⟨rfl, PREp.mk' hE hS hFc hPc hKc U hU hW⟩⟩ rfl rfl hl.1 rfl (lv_room (Nat.le_of_ble_eq_true rfl)) dL_change_15 ⟨(Nat.le_of_ble_eq_true rfl), (Nat.le_of_ble_eq_true rfl)⟩) hS (fun q _ h => hFc q h) hFc (fun q _ h => hFc q h) (fun E ce q9 ux t H1 locs htt hvm hw hB hz1 hk1 hS hcell hv9 hcl9 => ?_) (fun r2 u1 t H1 locs htt hvm hw hB hz1 hk1 hS => ?_)
  · skip
    obtain rfl : E = _ := hB
    generalize H1 = H at hS hcell ⊢
    have hP : va_P (dC, dI) vwCl [] H := va_P0
    refine vx_catch hown [] ⟨0, 20, 23, 20⟩ [⟨0, 20, 27, 13⟩, ⟨0, 20, 31, 15⟩] (htab.trans rfl) (fun z h => by simp at h) (by decide) (by decide) (ht _ q1120) (ht _ q1132) hcell hv9 hcl9 ?_
    refine W.eq (g2 := F0 m 23 ls [.ref q9]) rfl ?_
    refine lv_astore (lv' := [(9, .ref q9), (0, .ref h0), (1, .int a1), (2, .int a2), (3, .int a3), (4, .int a4), (5, .int a5), (6, .int a6), (7, .int a7), (8, .ref out)]) hx hb dL_change_23 hl (by decide) rfl (fun ls hl => ?_)
    refine lv_iconst (v := 1) hx hb dL_change_25 (by decide) ?_
    have hP9 := hP.sub (ws' := []) [] rfl
    have hK9 := hK.sub (tys' := [(tE, .object RX3)]) [0] rfl
    refine W.widen (k := 2) (n := 12) (Nat.le_of_ble_eq_true rfl) (Nat.le_of_ble_eq_true rfl) ?_
    refine vx_ret ?_
    exact W.iret (v := 1) hx hb hr (fun t ht9 hW9 => ⟨⟨1, (), rfl, rfl, ppk ht9 hP9⟩, hS.F ht9⟩) hS.2.2 dL_change_26
  · skip
    exact hw.elim
set_option maxHeartbeats 4000000 in
set_option maxRecDepth 100000 in
theorem k_L_request (l : Launch) (hL : l.stackTraces = false) (d0 : Nat) (cO : ClassId) (dC : Nat → ClassId) (dI : Nat → Nat → Nat) (sz : Nat) (h0 ea sl : Nat) (tca tmx tsv : Value) (tE : ClassId) (fE : Nat → Option Nat) (sm : Int32) (se : Value) (fi : Nat) (fna fla fv2 fv3 fv4 fv5 : Value) (e0 ak0 : Nat) (ei0 am0 : Int32) (ev0_1 ev0_2 ev0_3 ev0_4 ev0_5 ev0_6 ae0 : Value) (e1 ak1 : Nat) (ei1 am1 : Int32) (ev1_1 ev1_2 ev1_3 ev1_4 ev1_5 ev1_6 ae1 : Value) (hf0 : fE 0 = some e0) (hf1 : fE 1 = some e1) (a1 a2 a3 a4 a5 a6 : Int32) (out : Nat) : vx_Met l yL_request (cnW yL_request cL_request 9 (some FieldType.int) [(0, 18, 21, 20), (0, 18, 25, 13), (0, 18, 29, 15)]) (rmd 8 2 12) (va_Pc [.ref h0, .int a1, .int a2, .int a3, .int a4, .int a5, .int a6, .ref out] (PREp d0 cO (dC, dI) (va_A [] sz) [(h0, .inr (12, [.ref fi, tca, .ref ea, .ref sl, tmx, tsv])), (fi, .inr (5, [fna, fla, fv2, fv3, fv4, fv5, .int 0])), (ea, .inl (tE, 2, .inr (.inr (.inr (.inr fE))))), (e0, .inr (4, [.int ei0, ev0_1, ev0_2, ev0_3, ev0_4, ev0_5, ev0_6, .ref ak0])), (e1, .inr (4, [.int ei1, ev1_1, ev1_2, ev1_3, ev1_4, ev1_5, ev1_6, .ref ak1])), (ak0, .inr (0, [.int am0, ae0, .int 0])), (ak1, .inr (0, [.int am1, ae1, .int 0])), (sl, .inr (0, [.int sm, se, .int 0]))] [(tE, .object RX3)] sz)) (va_Qi (fun (r : Int32) (_ : Unit) => r = 1) (fun (_ : Unit) (t : State) => va_P (dC, dI) vwCl [] t.heap) (va_A [] sz)) (vx_X (fun _ : Unit => True) (fun E _ _ => False) (va_A [] sz)) 2 12 (va_A [] sz) := by
  refine vx_ofWH (cc := cL_request) (maxL := 9) (ret := (some FieldType.int)) (hh := [(0, 18, 21, 20), (0, 18, 25, 13), (0, 18, 29, 15)]) (by decide) rfl ?_
  intro p e s m args below meth c s₁ B hml hv
  obtain ⟨rfl, hsz, hE, hP, hK⟩ := hv
  have hx := B.exec
  have hb := B.bytes
  have hr := B.returns
  have hts := atoms_spec (ws := cnW yL_request cL_request 9 (some FieldType.int) [(0, 18, 21, 20), (0, 18, 25, 13), (0, 18, 29, 15)]) B.pre
  have ht : ∀ w ∈ GT, w.before _ s = true := fun w h => hts w (List.mem_cons_of_mem _ h)
  have htab := vx_table (x := yL_request) B (hts _ List.mem_cons_self)
  have hown : s.vm.findClass RL = some m.cls := findClass_of_methodNamed B.named
  have hlocks := B.notSynchronized
  subst hsz
  generalize hAe : va_A [] s.heap.size = A at hE ⊢
  have hA : ∀ q : Nat, s.heap.size ≤ q → A q := fun q h => by rw [← hAe]; exact Or.inr h
  obtain ⟨H, hH0⟩ : ∃ H, s.heap = H := ⟨_, rfl⟩
  have hS : va_S A s.heap H [] := by rw [← hH0]; exact va_S.rf
  rw [hH0] at hP
  have hl := lv_entry ([.ref h0, .int a1, .int a2, .int a3, .int a4, .int a5, .int a6, .ref out]) (n := 9) (Nat.le_of_ble_eq_true rfl)
  rw [lg_entry_eq]
  generalize (lg_sl ([.ref h0, .int a1, .int a2, .int a3, .int a4, .int a5, .int a6, .ref out]) ++ List.replicate (9 - (lg_sl ([.ref h0, .int a1, .int a2, .int a3, .int a4, .int a5, .int a6, .ref out])).length) Slot.unset).toArray = ls at hl ⊢
  have hl : lv_has ls 9 [(0, .ref h0), (1, .int a1), (2, .int a2), (3, .int a3), (4, .int a4), (5, .int a5), (6, .int a6), (7, .ref out)] := hl
  rw [hH0]
  refine lv_aload hx hb dL_request_0 (lv_at hl 7 rfl) ?_
  refine lv_iconst (v := 0) hx hb dL_request_2 (by decide) ?_
  refine lv_aload_n hx hb dL_request_3 rfl (lv_at hl 0 rfl) ?_
  refine lv_iload_n hx hb dL_request_4 rfl (lv_at hl 1 rfl) ?_
  refine lv_iload_n hx hb dL_request_5 rfl (lv_at hl 2 rfl) ?_
  refine lv_iload_n hx hb dL_request_6 rfl (lv_at hl 3 rfl) ?_
  refine lv_iload hx hb dL_request_7 (lv_at hl 4 rfl) ?_
  refine lv_iload hx hb dL_request_9 (lv_at hl 5 rfl) ?_
  refine lv_iload hx hb dL_request_11 (lv_at hl 6 rfl) ?_
  have hPc := hP.sub (ws' := [(h0, .inr (12, [.ref fi, tca, .ref ea, .ref sl, tmx, tsv])), (fi, .inr (5, [fna, fla, fv2, fv3, fv4, fv5, .int 0])), (ea, .inl (tE, 2, .inr (.inr (.inr (.inr fE))))), (e0, .inr (4, [.int ei0, ev0_1, ev0_2, ev0_3, ev0_4, ev0_5, ev0_6, .ref ak0])), (e1, .inr (4, [.int ei1, ev1_1, ev1_2, ev1_3, ev1_4, ev1_5, ev1_6, .ref ak1])), (ak0, .inr (0, [.int am0, ae0, .int 0])), (ak1, .inr (0, [.int am1, ae1, .int 0])), (sl, .inr (0, [.int sm, se, .int 0]))]) [0, 1, 2, 3, 4, 5, 6, 7] rfl
  have hKc := hK.sub (tys' := [(tE, .object RX3)]) [0] rfl
  have hFc := freeNil hS hA
  refine vx_calli (vx_runV (As := [.int a1, .int a2, .int a3, .int a4, .int a5, .int a6]) (rest := [.int 0, .ref out]) ⟨hx, hb, hml, hown, ht⟩ (k_X11_request l hL d0 cO dC dI H.size h0 ea sl tca tmx tsv tE fE sm se fi fna fla fv2 fv3 fv4 fv5 e0 ak0 ei0 am0 ev0_1 ev0_2 ev0_3 ev0_4 ev0_5 ev0_6 ae0 e1 ak1 ei1 am1 ev1_1 ev1_2 ev1_3 ev1_4 ev1_5 ev1_6 ae1 hf0 hf1 a1 a2 a3 a4 a5 a6) (my_V ht M_X11_request q1346 q1347 q1345 (Nat.le_of_ble_eq_true rfl) (Nat.le_of_ble_eq_true rfl)) ⟨PREp.fb, va_recv hK hP (ci := 12) (q0 := 0) rfl rfl, fun U hU hW => ⟨rfl, PREp.mk' hE hS hFc hPc hKc U hU hW⟩⟩ rfl rfl hl.1 rfl (lv_room (Nat.le_of_ble_eq_true rfl)) dL_request_13 ⟨(Nat.le_of_ble_eq_true rfl), (Nat.le_of_ble_eq_true rfl)⟩) hS (fun q _ h => hFc q h) hFc (fun q _ h => hFc q h) (fun E ce q9 ux t H1 locs htt hvm hw hB hz1 hk1 hS hcell hv9 hcl9 => ?_) (fun r2 u1 t H1 locs htt hvm hw hB hz1 hk1 hS => ?_)
  · skip
    obtain rfl : E = _ := hB
    generalize H1 = H at hS hcell ⊢
    have hP : va_P (dC, dI) vwCl [] H := va_P0
    refine vx_catch hown [] ⟨0, 18, 21, 20⟩ [⟨0, 18, 25, 13⟩, ⟨0, 18, 29, 15⟩] (htab.trans rfl) (fun z h => by simp at h) (by decide) (by decide) (ht _ q1120) (ht _ q1132) hcell hv9 hcl9 ?_
    refine W.eq (g2 := F0 m 21 ls [.ref q9]) rfl ?_
    refine lv_astore (lv' := [(8, .ref q9), (0, .ref h0), (1, .int a1), (2, .int a2), (3, .int a3), (4, .int a4), (5, .int a5), (6, .int a6), (7, .ref out)]) hx hb dL_request_21 hl (by decide) rfl (fun ls hl => ?_)
    refine lv_iconst (v := 1) hx hb dL_request_23 (by decide) ?_
    have hP9 := hP.sub (ws' := []) [] rfl
    have hK9 := hK.sub (tys' := [(tE, .object RX3)]) [0] rfl
    refine W.widen (k := 2) (n := 12) (Nat.le_of_ble_eq_true rfl) (Nat.le_of_ble_eq_true rfl) ?_
    refine vx_ret ?_
    exact W.iret (v := 1) hx hb hr (fun t ht9 hW9 => ⟨⟨1, (), rfl, rfl, ppk ht9 hP9⟩, hS.F ht9⟩) hS.2.2 dL_request_24
  · skip
    exact hw.elim
set_option maxHeartbeats 4000000 in
set_option maxRecDepth 100000 in
theorem k_L_apply (l : Launch) (hL : l.stackTraces = false) (d0 : Nat) (cO : ClassId) (dC : Nat → ClassId) (dI : Nat → Nat → Nat) (sz : Nat) (h0 ea sl : Nat) (tca tmx tsv : Value) (tE : ClassId) (fE : Nat → Option Nat) (sm : Int32) (se : Value) (fi : Nat) (fna fla fv2 fv3 fv4 fv5 : Value) (e0 ak0 : Nat) (ei0 am0 : Int32) (ev0_1 ev0_2 ev0_3 ev0_4 ev0_5 ev0_6 ae0 : Value) (e1 ak1 : Nat) (ei1 am1 : Int32) (ev1_1 ev1_2 ev1_3 ev1_4 ev1_5 ev1_6 ae1 : Value) (hf0 : fE 0 = some e0) (hf1 : fE 1 = some e1) (a1 a2 : Int32) (out : Nat) : vx_Met l yL_apply (cnW yL_apply cL_apply 5 (some FieldType.int) [(0, 10, 13, 20), (0, 10, 17, 15)]) (rmd 8 2 12) (va_Pc [.ref h0, .int a1, .int a2, .ref out] (PREp d0 cO (dC, dI) (va_A [] sz) [(h0, .inr (12, [.ref fi, tca, .ref ea, .ref sl, tmx, tsv])), (fi, .inr (5, [fna, fla, fv2, fv3, fv4, fv5, .int 0])), (ea, .inl (tE, 2, .inr (.inr (.inr (.inr fE))))), (e0, .inr (4, [.int ei0, ev0_1, ev0_2, ev0_3, ev0_4, ev0_5, ev0_6, .ref ak0])), (e1, .inr (4, [.int ei1, ev1_1, ev1_2, ev1_3, ev1_4, ev1_5, ev1_6, .ref ak1])), (ak0, .inr (0, [.int am0, ae0, .int 0])), (ak1, .inr (0, [.int am1, ae1, .int 0])), (sl, .inr (0, [.int sm, se, .int 0]))] [(tE, .object RX3)] sz)) (va_Qi (fun (r : Int32) (_ : Unit) => r = 1) (fun (_ : Unit) (t : State) => va_P (dC, dI) vwCl [] t.heap) (va_A [] sz)) (vx_X (fun _ : Unit => True) (fun E _ _ => False) (va_A [] sz)) 2 12 (va_A [] sz) := by
  refine vx_ofWH (cc := cL_apply) (maxL := 5) (ret := (some FieldType.int)) (hh := [(0, 10, 13, 20), (0, 10, 17, 15)]) (by decide) rfl ?_
  intro p e s m args below meth c s₁ B hml hv
  obtain ⟨rfl, hsz, hE, hP, hK⟩ := hv
  have hx := B.exec
  have hb := B.bytes
  have hr := B.returns
  have hts := atoms_spec (ws := cnW yL_apply cL_apply 5 (some FieldType.int) [(0, 10, 13, 20), (0, 10, 17, 15)]) B.pre
  have ht : ∀ w ∈ GT, w.before _ s = true := fun w h => hts w (List.mem_cons_of_mem _ h)
  have htab := vx_table (x := yL_apply) B (hts _ List.mem_cons_self)
  have hown : s.vm.findClass RL = some m.cls := findClass_of_methodNamed B.named
  have hlocks := B.notSynchronized
  subst hsz
  generalize hAe : va_A [] s.heap.size = A at hE ⊢
  have hA : ∀ q : Nat, s.heap.size ≤ q → A q := fun q h => by rw [← hAe]; exact Or.inr h
  obtain ⟨H, hH0⟩ : ∃ H, s.heap = H := ⟨_, rfl⟩
  have hS : va_S A s.heap H [] := by rw [← hH0]; exact va_S.rf
  rw [hH0] at hP
  have hl := lv_entry ([.ref h0, .int a1, .int a2, .ref out]) (n := 5) (Nat.le_of_ble_eq_true rfl)
  rw [lg_entry_eq]
  generalize (lg_sl ([.ref h0, .int a1, .int a2, .ref out]) ++ List.replicate (5 - (lg_sl ([.ref h0, .int a1, .int a2, .ref out])).length) Slot.unset).toArray = ls at hl ⊢
  have hl : lv_has ls 5 [(0, .ref h0), (1, .int a1), (2, .int a2), (3, .ref out)] := hl
  rw [hH0]
  refine lv_aload_n hx hb dL_apply_0 rfl (lv_at hl 3 rfl) ?_
  refine lv_iconst (v := 0) hx hb dL_apply_1 (by decide) ?_
  refine lv_aload_n hx hb dL_apply_2 rfl (lv_at hl 0 rfl) ?_
  refine lv_iload_n hx hb dL_apply_3 rfl (lv_at hl 1 rfl) ?_
  refine lv_iload_n hx hb dL_apply_4 rfl (lv_at hl 2 rfl) ?_
  have hPc := hP.sub (ws' := [(h0, .inr (12, [.ref fi, tca, .ref ea, .ref sl, tmx, tsv])), (fi, .inr (5, [fna, fla, fv2, fv3, fv4, fv5, .int 0])), (ea, .inl (tE, 2, .inr (.inr (.inr (.inr fE))))), (e0, .inr (4, [.int ei0, ev0_1, ev0_2, ev0_3, ev0_4, ev0_5, ev0_6, .ref ak0])), (e1, .inr (4, [.int ei1, ev1_1, ev1_2, ev1_3, ev1_4, ev1_5, ev1_6, .ref ak1])), (ak0, .inr (0, [.int am0, ae0, .int 0])), (ak1, .inr (0, [.int am1, ae1, .int 0])), (sl, .inr (0, [.int sm, se, .int 0]))]) [0, 1, 2, 3, 4, 5, 6, 7] rfl
  have hKc := hK.sub (tys' := [(tE, .object RX3)]) [0] rfl
  have hFc := freeNil hS hA
  refine vx_calli (vx_runV (As := [.int a1, .int a2]) (rest := [.int 0, .ref out]) ⟨hx, hb, hml, hown, ht⟩ (k_X11_apply l hL d0 cO dC dI H.size h0 ea sl tca tmx tsv tE fE sm se fi fna fla fv2 fv3 fv4 fv5 e0 ak0 ei0 am0 ev0_1 ev0_2 ev0_3 ev0_4 ev0_5 ev0_6 ae0 e1 ak1 ei1 am1 ev1_1 ev1_2 ev1_3 ev1_4 ev1_5 ev1_6 ae1 hf0 hf1 a1 a2) (my_V ht M_X11_apply q1416 q1417 q1415 (Nat.le_of_ble_eq_true rfl) (Nat.le_of_ble_eq_true rfl)) ⟨PREp.fb, va_recv hK hP (ci := 12) (q0 := 0) rfl rfl, fun U hU hW => ⟨rfl, PREp.mk' hE hS hFc hPc hKc U hU hW⟩⟩ rfl rfl hl.1 rfl (lv_room (Nat.le_of_ble_eq_true rfl)) dL_apply_5 ⟨(Nat.le_of_ble_eq_true rfl), (Nat.le_of_ble_eq_true rfl)⟩) hS (fun q _ h => hFc q h) hFc (fun q _ h => hFc q h) (fun E ce q9 ux t H1 locs htt hvm hw hB hz1 hk1 hS hcell hv9 hcl9 => ?_) (fun r2 u1 t H1 locs htt hvm hw hB hz1 hk1 hS => ?_)
  · skip
    obtain rfl : E = _ := hB
    generalize H1 = H at hS hcell ⊢
    have hP : va_P (dC, dI) vwCl [] H := va_P0
    refine vx_catch hown [] ⟨0, 10, 13, 20⟩ [⟨0, 10, 17, 15⟩] (htab.trans rfl) (fun z h => by simp at h) (by decide) (by decide) (ht _ q1120) (ht _ q1132) hcell hv9 hcl9 ?_
    refine W.eq (g2 := F0 m 13 ls [.ref q9]) rfl ?_
    refine lv_astore (lv' := [(4, .ref q9), (0, .ref h0), (1, .int a1), (2, .int a2), (3, .ref out)]) hx hb dL_apply_13 hl (by decide) rfl (fun ls hl => ?_)
    refine lv_iconst (v := 1) hx hb dL_apply_15 (by decide) ?_
    have hP9 := hP.sub (ws' := []) [] rfl
    have hK9 := hK.sub (tys' := [(tE, .object RX3)]) [0] rfl
    refine W.widen (k := 2) (n := 12) (Nat.le_of_ble_eq_true rfl) (Nat.le_of_ble_eq_true rfl) ?_
    refine vx_ret ?_
    exact W.iret (v := 1) hx hb hr (fun t ht9 hW9 => ⟨⟨1, (), rfl, rfl, ppk ht9 hP9⟩, hS.F ht9⟩) hS.2.2 dL_apply_16
  · skip
    exact hw.elim
set_option maxHeartbeats 4000000 in
set_option maxRecDepth 100000 in
theorem k_L_answer (l : Launch) (hL : l.stackTraces = false) (d0 : Nat) (cO : ClassId) (dC : Nat → ClassId) (dI : Nat → Nat → Nat) (sz : Nat) (h0 ea sl : Nat) (tca tmx tsv : Value) (tE : ClassId) (fE : Nat → Option Nat) (sm : Int32) (se : Value) (fi : Nat) (fna fla fv2 fv3 fv4 fv5 : Value) (e0 ak0 : Nat) (ei0 am0 : Int32) (ev0_1 ev0_2 ev0_3 ev0_4 ev0_5 ev0_6 ae0 : Value) (e1 ak1 : Nat) (ei1 am1 : Int32) (ev1_1 ev1_2 ev1_3 ev1_4 ev1_5 ev1_6 ae1 : Value) (hf0 : fE 0 = some e0) (hf1 : fE 1 = some e1) (a1 a2 : Int32) (out : Nat) : vx_Met l yL_answer (cnW yL_answer cL_answer 5 (some FieldType.int) [(0, 10, 13, 20)]) (rmd 8 1 6) (va_Pc [.ref h0, .int a1, .int a2, .ref out] (PREp d0 cO (dC, dI) (va_A [] sz) [(h0, .inr (12, [.ref fi, tca, .ref ea, .ref sl, tmx, tsv])), (fi, .inr (5, [fna, fla, fv2, fv3, fv4, fv5, .int 0])), (ea, .inl (tE, 2, .inr (.inr (.inr (.inr fE))))), (e0, .inr (4, [.int ei0, ev0_1, ev0_2, ev0_3, ev0_4, ev0_5, ev0_6, .ref ak0])), (e1, .inr (4, [.int ei1, ev1_1, ev1_2, ev1_3, ev1_4, ev1_5, ev1_6, .ref ak1])), (ak0, .inr (0, [.int am0, ae0, .int 0])), (ak1, .inr (0, [.int am1, ae1, .int 0])), (sl, .inr (0, [.int sm, se, .int 0]))] [(tE, .object RX3)] sz)) (va_Qi (fun (r : Int32) (_ : Unit) => r = 1) (fun (_ : Unit) (t : State) => va_P (dC, dI) vwCl [] t.heap) (va_A [] sz)) (vx_X (fun _ : Unit => True) (fun E _ _ => False) (va_A [] sz)) 1 6 (va_A [] sz) := by
  refine vx_ofWH (cc := cL_answer) (maxL := 5) (ret := (some FieldType.int)) (hh := [(0, 10, 13, 20)]) (by decide) rfl ?_
  intro p e s m args below meth c s₁ B hml hv
  obtain ⟨rfl, hsz, hE, hP, hK⟩ := hv
  have hx := B.exec
  have hb := B.bytes
  have hr := B.returns
  have hts := atoms_spec (ws := cnW yL_answer cL_answer 5 (some FieldType.int) [(0, 10, 13, 20)]) B.pre
  have ht : ∀ w ∈ GT, w.before _ s = true := fun w h => hts w (List.mem_cons_of_mem _ h)
  have htab := vx_table (x := yL_answer) B (hts _ List.mem_cons_self)
  have hown : s.vm.findClass RL = some m.cls := findClass_of_methodNamed B.named
  have hlocks := B.notSynchronized
  subst hsz
  generalize hAe : va_A [] s.heap.size = A at hE ⊢
  have hA : ∀ q : Nat, s.heap.size ≤ q → A q := fun q h => by rw [← hAe]; exact Or.inr h
  obtain ⟨H, hH0⟩ : ∃ H, s.heap = H := ⟨_, rfl⟩
  have hS : va_S A s.heap H [] := by rw [← hH0]; exact va_S.rf
  rw [hH0] at hP
  have hl := lv_entry ([.ref h0, .int a1, .int a2, .ref out]) (n := 5) (Nat.le_of_ble_eq_true rfl)
  rw [lg_entry_eq]
  generalize (lg_sl ([.ref h0, .int a1, .int a2, .ref out]) ++ List.replicate (5 - (lg_sl ([.ref h0, .int a1, .int a2, .ref out])).length) Slot.unset).toArray = ls at hl ⊢
  have hl : lv_has ls 5 [(0, .ref h0), (1, .int a1), (2, .int a2), (3, .ref out)] := hl
  rw [hH0]
  refine lv_aload_n hx hb dL_answer_0 rfl (lv_at hl 3 rfl) ?_
  refine lv_iconst (v := 0) hx hb dL_answer_1 (by decide) ?_
  refine lv_aload_n hx hb dL_answer_2 rfl (lv_at hl 0 rfl) ?_
  refine lv_iload_n hx hb dL_answer_3 rfl (lv_at hl 1 rfl) ?_
  refine lv_iload_n hx hb dL_answer_4 rfl (lv_at hl 2 rfl) ?_
  have hPc := hP.sub (ws' := [(h0, .inr (12, [.ref fi, tca, .ref ea, .ref sl, tmx, tsv])), (fi, .inr (5, [fna, fla, fv2, fv3, fv4, fv5, .int 0])), (ea, .inl (tE, 2, .inr (.inr (.inr (.inr fE))))), (e0, .inr (4, [.int ei0, ev0_1, ev0_2, ev0_3, ev0_4, ev0_5, ev0_6, .ref ak0])), (e1, .inr (4, [.int ei1, ev1_1, ev1_2, ev1_3, ev1_4, ev1_5, ev1_6, .ref ak1])), (ak0, .inr (0, [.int am0, ae0, .int 0])), (ak1, .inr (0, [.int am1, ae1, .int 0])), (sl, .inr (0, [.int sm, se, .int 0]))]) [0, 1, 2, 3, 4, 5, 6, 7] rfl
  have hKc := hK.sub (tys' := [(tE, .object RX3)]) [0] rfl
  have hFc := freeNil hS hA
  refine vx_calli (vx_runV (As := [.int a1, .int a2]) (rest := [.int 0, .ref out]) ⟨hx, hb, hml, hown, ht⟩ (k_X11_answer l hL d0 cO dC dI H.size h0 ea sl tca tmx tsv tE fE sm se fi fna fla fv2 fv3 fv4 fv5 e0 ak0 ei0 am0 ev0_1 ev0_2 ev0_3 ev0_4 ev0_5 ev0_6 ae0 e1 ak1 ei1 am1 ev1_1 ev1_2 ev1_3 ev1_4 ev1_5 ev1_6 ae1 hf0 hf1 a1 a2) (my_V ht M_X11_answer q1466 q1467 q1465 (Nat.le_of_ble_eq_true rfl) (Nat.le_of_ble_eq_true rfl)) ⟨PREp.fb, va_recv hK hP (ci := 12) (q0 := 0) rfl rfl, fun U hU hW => ⟨rfl, PREp.mk' hE hS hFc hPc hKc U hU hW⟩⟩ rfl rfl hl.1 rfl (lv_room (Nat.le_of_ble_eq_true rfl)) dL_answer_5 ⟨(Nat.le_of_ble_eq_true rfl), (Nat.le_of_ble_eq_true rfl)⟩) hS (fun q _ h => hFc q h) hFc (fun q _ h => hFc q h) (fun E ce q9 ux t H1 locs htt hvm hw hB hz1 hk1 hS hcell hv9 hcl9 => ?_) (fun r2 u1 t H1 locs htt hvm hw hB hz1 hk1 hS => ?_)
  · skip
    obtain rfl : E = _ := hB
    generalize H1 = H at hS hcell ⊢
    have hP : va_P (dC, dI) vwCl [] H := va_P0
    refine vx_catch hown [] ⟨0, 10, 13, 20⟩ [] (htab.trans rfl) (fun z h => by simp at h) (by decide) (by decide) (ht _ q1120) (ht _ q1132) hcell hv9 hcl9 ?_
    refine W.eq (g2 := F0 m 13 ls [.ref q9]) rfl ?_
    refine lv_astore (lv' := [(4, .ref q9), (0, .ref h0), (1, .int a1), (2, .int a2), (3, .ref out)]) hx hb dL_answer_13 hl (by decide) rfl (fun ls hl => ?_)
    refine lv_iconst (v := 1) hx hb dL_answer_15 (by decide) ?_
    have hP9 := hP.sub (ws' := []) [] rfl
    have hK9 := hK.sub (tys' := [(tE, .object RX3)]) [0] rfl
    refine W.widen (k := 1) (n := 6) (Nat.le_of_ble_eq_true rfl) (Nat.le_of_ble_eq_true rfl) ?_
    refine vx_ret ?_
    exact W.iret (v := 1) hx hb hr (fun t ht9 hW9 => ⟨⟨1, (), rfl, rfl, ppk ht9 hP9⟩, hS.F ht9⟩) hS.2.2 dL_answer_16
  · skip
    exact hw.elim
set_option maxHeartbeats 4000000 in
set_option maxRecDepth 100000 in
theorem k_L_tellFaults (l : Launch) (hL : l.stackTraces = false) (d0 : Nat) (cO : ClassId) (dC : Nat → ClassId) (dI : Nat → Nat → Nat) (sz : Nat) (h0 ea sl : Nat) (tca tmx tsv : Value) (tE : ClassId) (fE : Nat → Option Nat) (sm : Int32) (se : Value) (fi : Nat) (fna fla fv2 fv3 fv4 fv5 : Value) (e0 ak0 : Nat) (ei0 am0 : Int32) (ev0_1 ev0_2 ev0_3 ev0_4 ev0_5 ev0_6 ae0 : Value) (e1 ak1 : Nat) (ei1 am1 : Int32) (ev1_1 ev1_2 ev1_3 ev1_4 ev1_5 ev1_6 ae1 : Value) (hf0 : fE 0 = some e0) (hf1 : fE 1 = some e1) (a1 a2 : Int32) (out : Nat) : vx_Met l yL_tellFaults (cnW yL_tellFaults cL_tellFaults 5 (some FieldType.int) [(0, 10, 13, 20), (0, 10, 17, 15)]) (rmd 8 1 6) (va_Pc [.ref h0, .int a1, .int a2, .ref out] (PREp d0 cO (dC, dI) (va_A [] sz) [(h0, .inr (12, [.ref fi, tca, .ref ea, .ref sl, tmx, tsv])), (fi, .inr (5, [fna, fla, fv2, fv3, fv4, fv5, .int 0])), (ea, .inl (tE, 2, .inr (.inr (.inr (.inr fE))))), (e0, .inr (4, [.int ei0, ev0_1, ev0_2, ev0_3, ev0_4, ev0_5, ev0_6, .ref ak0])), (e1, .inr (4, [.int ei1, ev1_1, ev1_2, ev1_3, ev1_4, ev1_5, ev1_6, .ref ak1])), (ak0, .inr (0, [.int am0, ae0, .int 0])), (ak1, .inr (0, [.int am1, ae1, .int 0])), (sl, .inr (0, [.int sm, se, .int 0]))] [(tE, .object RX3)] sz)) (va_Qi (fun (r : Int32) (_ : Unit) => r = 1) (fun (_ : Unit) (t : State) => va_P (dC, dI) vwCl [] t.heap) (va_A [] sz)) (vx_X (fun _ : Unit => True) (fun E _ _ => False) (va_A [] sz)) 1 6 (va_A [] sz) := by
  refine vx_ofWH (cc := cL_tellFaults) (maxL := 5) (ret := (some FieldType.int)) (hh := [(0, 10, 13, 20), (0, 10, 17, 15)]) (by decide) rfl ?_
  intro p e s m args below meth c s₁ B hml hv
  obtain ⟨rfl, hsz, hE, hP, hK⟩ := hv
  have hx := B.exec
  have hb := B.bytes
  have hr := B.returns
  have hts := atoms_spec (ws := cnW yL_tellFaults cL_tellFaults 5 (some FieldType.int) [(0, 10, 13, 20), (0, 10, 17, 15)]) B.pre
  have ht : ∀ w ∈ GT, w.before _ s = true := fun w h => hts w (List.mem_cons_of_mem _ h)
  have htab := vx_table (x := yL_tellFaults) B (hts _ List.mem_cons_self)
  have hown : s.vm.findClass RL = some m.cls := findClass_of_methodNamed B.named
  have hlocks := B.notSynchronized
  subst hsz
  generalize hAe : va_A [] s.heap.size = A at hE ⊢
  have hA : ∀ q : Nat, s.heap.size ≤ q → A q := fun q h => by rw [← hAe]; exact Or.inr h
  obtain ⟨H, hH0⟩ : ∃ H, s.heap = H := ⟨_, rfl⟩
  have hS : va_S A s.heap H [] := by rw [← hH0]; exact va_S.rf
  rw [hH0] at hP
  have hl := lv_entry ([.ref h0, .int a1, .int a2, .ref out]) (n := 5) (Nat.le_of_ble_eq_true rfl)
  rw [lg_entry_eq]
  generalize (lg_sl ([.ref h0, .int a1, .int a2, .ref out]) ++ List.replicate (5 - (lg_sl ([.ref h0, .int a1, .int a2, .ref out])).length) Slot.unset).toArray = ls at hl ⊢
  have hl : lv_has ls 5 [(0, .ref h0), (1, .int a1), (2, .int a2), (3, .ref out)] := hl
  rw [hH0]
  refine lv_aload_n hx hb dL_tellFaults_0 rfl (lv_at hl 3 rfl) ?_
  refine lv_iconst (v := 0) hx hb dL_tellFaults_1 (by decide) ?_
  refine lv_aload_n hx hb dL_tellFaults_2 rfl (lv_at hl 0 rfl) ?_
  refine lv_iload_n hx hb dL_tellFaults_3 rfl (lv_at hl 1 rfl) ?_
  refine lv_iload_n hx hb dL_tellFaults_4 rfl (lv_at hl 2 rfl) ?_
  have hPc := hP.sub (ws' := [(h0, .inr (12, [.ref fi, tca, .ref ea, .ref sl, tmx, tsv])), (fi, .inr (5, [fna, fla, fv2, fv3, fv4, fv5, .int 0])), (ea, .inl (tE, 2, .inr (.inr (.inr (.inr fE))))), (e0, .inr (4, [.int ei0, ev0_1, ev0_2, ev0_3, ev0_4, ev0_5, ev0_6, .ref ak0])), (e1, .inr (4, [.int ei1, ev1_1, ev1_2, ev1_3, ev1_4, ev1_5, ev1_6, .ref ak1])), (ak0, .inr (0, [.int am0, ae0, .int 0])), (ak1, .inr (0, [.int am1, ae1, .int 0])), (sl, .inr (0, [.int sm, se, .int 0]))]) [0, 1, 2, 3, 4, 5, 6, 7] rfl
  have hKc := hK.sub (tys' := [(tE, .object RX3)]) [0] rfl
  have hFc := freeNil hS hA
  refine vx_calli (vx_runV (As := [.int a1, .int a2]) (rest := [.int 0, .ref out]) ⟨hx, hb, hml, hown, ht⟩ (k_X11_tellFaults l hL d0 cO dC dI H.size h0 ea sl tca tmx tsv tE fE sm se fi fna fla fv2 fv3 fv4 fv5 e0 ak0 ei0 am0 ev0_1 ev0_2 ev0_3 ev0_4 ev0_5 ev0_6 ae0 e1 ak1 ei1 am1 ev1_1 ev1_2 ev1_3 ev1_4 ev1_5 ev1_6 ae1 hf0 hf1 a1 a2) (my_V ht M_X11_tellFaults q1558 q1559 q1557 (Nat.le_of_ble_eq_true rfl) (Nat.le_of_ble_eq_true rfl)) ⟨PREp.fb, va_recv hK hP (ci := 12) (q0 := 0) rfl rfl, fun U hU hW => ⟨rfl, PREp.mk' hE hS hFc hPc hKc U hU hW⟩⟩ rfl rfl hl.1 rfl (lv_room (Nat.le_of_ble_eq_true rfl)) dL_tellFaults_5 ⟨(Nat.le_of_ble_eq_true rfl), (Nat.le_of_ble_eq_true rfl)⟩) hS (fun q _ h => hFc q h) hFc (fun q _ h => hFc q h) (fun E ce q9 ux t H1 locs htt hvm hw hB hz1 hk1 hS hcell hv9 hcl9 => ?_) (fun r2 u1 t H1 locs htt hvm hw hB hz1 hk1 hS => ?_)
  · skip
    obtain rfl : E = _ := hB
    generalize H1 = H at hS hcell ⊢
    have hP : va_P (dC, dI) vwCl [] H := va_P0
    refine vx_catch hown [] ⟨0, 10, 13, 20⟩ [⟨0, 10, 17, 15⟩] (htab.trans rfl) (fun z h => by simp at h) (by decide) (by decide) (ht _ q1120) (ht _ q1132) hcell hv9 hcl9 ?_
    refine W.eq (g2 := F0 m 13 ls [.ref q9]) rfl ?_
    refine lv_astore (lv' := [(4, .ref q9), (0, .ref h0), (1, .int a1), (2, .int a2), (3, .ref out)]) hx hb dL_tellFaults_13 hl (by decide) rfl (fun ls hl => ?_)
    refine lv_iconst (v := 1) hx hb dL_tellFaults_15 (by decide) ?_
    have hP9 := hP.sub (ws' := []) [] rfl
    have hK9 := hK.sub (tys' := [(tE, .object RX3)]) [0] rfl
    refine W.widen (k := 1) (n := 6) (Nat.le_of_ble_eq_true rfl) (Nat.le_of_ble_eq_true rfl) ?_
    refine vx_ret ?_
    exact W.iret (v := 1) hx hb hr (fun t ht9 hW9 => ⟨⟨1, (), rfl, rfl, ppk ht9 hP9⟩, hS.F ht9⟩) hS.2.2 dL_tellFaults_16
  · skip
    exact hw.elim
set_option maxHeartbeats 4000000 in
set_option maxRecDepth 100000 in
theorem k_L_crash (l : Launch) (hL : l.stackTraces = false) (d0 : Nat) (cO : ClassId) (dC : Nat → ClassId) (dI : Nat → Nat → Nat) (sz : Nat) (h0 ea sl : Nat) (tca tmx tsv : Value) (tE : ClassId) (fE : Nat → Option Nat) (sm : Int32) (se : Value) (fi : Nat) (fna fla fv2 fv3 fv4 fv5 : Value) (e0 ak0 : Nat) (ei0 am0 : Int32) (ev0_1 ev0_2 ev0_3 ev0_4 ev0_5 ev0_6 ae0 : Value) (e1 ak1 : Nat) (ei1 am1 : Int32) (ev1_1 ev1_2 ev1_3 ev1_4 ev1_5 ev1_6 ae1 : Value) (hf0 : fE 0 = some e0) (hf1 : fE 1 = some e1) (a1 : Int32) (out : Nat) : vx_Met l yL_crash (cnW yL_crash cL_crash 4 (some FieldType.int) [(0, 9, 12, 20), (0, 9, 15, 15)]) (rmd 8 1 6) (va_Pc [.ref h0, .int a1, .ref out] (PREp d0 cO (dC, dI) (va_A [] sz) [(h0, .inr (12, [.ref fi, tca, .ref ea, .ref sl, tmx, tsv])), (fi, .inr (5, [fna, fla, fv2, fv3, fv4, fv5, .int 0])), (ea, .inl (tE, 2, .inr (.inr (.inr (.inr fE))))), (e0, .inr (4, [.int ei0, ev0_1, ev0_2, ev0_3, ev0_4, ev0_5, ev0_6, .ref ak0])), (e1, .inr (4, [.int ei1, ev1_1, ev1_2, ev1_3, ev1_4, ev1_5, ev1_6, .ref ak1])), (ak0, .inr (0, [.int am0, ae0, .int 0])), (ak1, .inr (0, [.int am1, ae1, .int 0])), (sl, .inr (0, [.int sm, se, .int 0]))] [(tE, .object RX3)] sz)) (va_Qi (fun (r : Int32) (_ : Unit) => r = 1) (fun (_ : Unit) (t : State) => va_P (dC, dI) vwCl [] t.heap) (va_A [] sz)) (vx_X (fun _ : Unit => True) (fun E _ _ => False) (va_A [] sz)) 1 6 (va_A [] sz) := by
  refine vx_ofWH (cc := cL_crash) (maxL := 4) (ret := (some FieldType.int)) (hh := [(0, 9, 12, 20), (0, 9, 15, 15)]) (by decide) rfl ?_
  intro p e s m args below meth c s₁ B hml hv
  obtain ⟨rfl, hsz, hE, hP, hK⟩ := hv
  have hx := B.exec
  have hb := B.bytes
  have hr := B.returns
  have hts := atoms_spec (ws := cnW yL_crash cL_crash 4 (some FieldType.int) [(0, 9, 12, 20), (0, 9, 15, 15)]) B.pre
  have ht : ∀ w ∈ GT, w.before _ s = true := fun w h => hts w (List.mem_cons_of_mem _ h)
  have htab := vx_table (x := yL_crash) B (hts _ List.mem_cons_self)
  have hown : s.vm.findClass RL = some m.cls := findClass_of_methodNamed B.named
  have hlocks := B.notSynchronized
  subst hsz
  generalize hAe : va_A [] s.heap.size = A at hE ⊢
  have hA : ∀ q : Nat, s.heap.size ≤ q → A q := fun q h => by rw [← hAe]; exact Or.inr h
  obtain ⟨H, hH0⟩ : ∃ H, s.heap = H := ⟨_, rfl⟩
  have hS : va_S A s.heap H [] := by rw [← hH0]; exact va_S.rf
  rw [hH0] at hP
  have hl := lv_entry ([.ref h0, .int a1, .ref out]) (n := 4) (Nat.le_of_ble_eq_true rfl)
  rw [lg_entry_eq]
  generalize (lg_sl ([.ref h0, .int a1, .ref out]) ++ List.replicate (4 - (lg_sl ([.ref h0, .int a1, .ref out])).length) Slot.unset).toArray = ls at hl ⊢
  have hl : lv_has ls 4 [(0, .ref h0), (1, .int a1), (2, .ref out)] := hl
  rw [hH0]
  refine lv_aload_n hx hb dL_crash_0 rfl (lv_at hl 2 rfl) ?_
  refine lv_iconst (v := 0) hx hb dL_crash_1 (by decide) ?_
  refine lv_aload_n hx hb dL_crash_2 rfl (lv_at hl 0 rfl) ?_
  refine lv_iload_n hx hb dL_crash_3 rfl (lv_at hl 1 rfl) ?_
  have hPc := hP.sub (ws' := [(h0, .inr (12, [.ref fi, tca, .ref ea, .ref sl, tmx, tsv])), (fi, .inr (5, [fna, fla, fv2, fv3, fv4, fv5, .int 0])), (ea, .inl (tE, 2, .inr (.inr (.inr (.inr fE))))), (e0, .inr (4, [.int ei0, ev0_1, ev0_2, ev0_3, ev0_4, ev0_5, ev0_6, .ref ak0])), (e1, .inr (4, [.int ei1, ev1_1, ev1_2, ev1_3, ev1_4, ev1_5, ev1_6, .ref ak1])), (ak0, .inr (0, [.int am0, ae0, .int 0])), (ak1, .inr (0, [.int am1, ae1, .int 0])), (sl, .inr (0, [.int sm, se, .int 0]))]) [0, 1, 2, 3, 4, 5, 6, 7] rfl
  have hKc := hK.sub (tys' := [(tE, .object RX3)]) [0] rfl
  have hFc := freeNil hS hA
  refine vx_calli (vx_runV (As := [.int a1]) (rest := [.int 0, .ref out]) ⟨hx, hb, hml, hown, ht⟩ (k_X11_crash l hL d0 cO dC dI H.size h0 ea sl tca tmx tsv tE fE sm se fi fna fla fv2 fv3 fv4 fv5 e0 ak0 ei0 am0 ev0_1 ev0_2 ev0_3 ev0_4 ev0_5 ev0_6 ae0 e1 ak1 ei1 am1 ev1_1 ev1_2 ev1_3 ev1_4 ev1_5 ev1_6 ae1 hf0 hf1 a1) (my_V ht M_X11_crash q1571 q1572 q1570 (Nat.le_of_ble_eq_true rfl) (Nat.le_of_ble_eq_true rfl)) ⟨PREp.fb, va_recv hK hP (ci := 12) (q0 := 0) rfl rfl, fun U hU hW => ⟨rfl, PREp.mk' hE hS hFc hPc hKc U hU hW⟩⟩ rfl rfl hl.1 rfl (lv_room (Nat.le_of_ble_eq_true rfl)) dL_crash_4 ⟨(Nat.le_of_ble_eq_true rfl), (Nat.le_of_ble_eq_true rfl)⟩) hS (fun q _ h => hFc q h) hFc (fun q _ h => hFc q h) (fun E ce q9 ux t H1 locs htt hvm hw hB hz1 hk1 hS hcell hv9 hcl9 => ?_) (fun r2 u1 t H1 locs htt hvm hw hB hz1 hk1 hS => ?_)
  · skip
    obtain rfl : E = _ := hB
    generalize H1 = H at hS hcell ⊢
    have hP : va_P (dC, dI) vwCl [] H := va_P0
    refine vx_catch hown [] ⟨0, 9, 12, 20⟩ [⟨0, 9, 15, 15⟩] (htab.trans rfl) (fun z h => by simp at h) (by decide) (by decide) (ht _ q1120) (ht _ q1132) hcell hv9 hcl9 ?_
    refine W.eq (g2 := F0 m 12 ls [.ref q9]) rfl ?_
    refine lv_astore_n (lv' := [(3, .ref q9), (0, .ref h0), (1, .int a1), (2, .ref out)]) hx hb dL_crash_12 rfl hl (by decide) rfl (fun ls hl => ?_)
    refine lv_iconst (v := 1) hx hb dL_crash_13 (by decide) ?_
    have hP9 := hP.sub (ws' := []) [] rfl
    have hK9 := hK.sub (tys' := [(tE, .object RX3)]) [0] rfl
    refine W.widen (k := 1) (n := 6) (Nat.le_of_ble_eq_true rfl) (Nat.le_of_ble_eq_true rfl) ?_
    refine vx_ret ?_
    exact W.iret (v := 1) hx hb hr (fun t ht9 hW9 => ⟨⟨1, (), rfl, rfl, ppk ht9 hP9⟩, hS.F ht9⟩) hS.2.2 dL_crash_14
  · skip
    exact hw.elim
set_option maxHeartbeats 4000000 in
set_option maxRecDepth 100000 in
theorem k_L_start (l : Launch) (hL : l.stackTraces = false) (d0 : Nat) (cO : ClassId) (dC : Nat → ClassId) (dI : Nat → Nat → Nat) (sz : Nat) (h0 ea sl : Nat) (tca tmx tsv : Value) (tE : ClassId) (fE : Nat → Option Nat) (sm : Int32) (se : Value) (fi : Nat) (fna fla fv2 fv3 fv4 fv5 : Value) (e0 ak0 : Nat) (ei0 am0 : Int32) (ev0_1 ev0_2 ev0_3 ev0_4 ev0_5 ev0_6 ae0 : Value) (e1 ak1 : Nat) (ei1 am1 : Int32) (ev1_1 ev1_2 ev1_3 ev1_4 ev1_5 ev1_6 ae1 : Value) (hf0 : fE 0 = some e0) (hf1 : fE 1 = some e1) (a1 : Int32) (out : Nat) : vx_Met l yL_start (cnW yL_start cL_start 4 (some FieldType.int) [(0, 9, 12, 20), (0, 9, 15, 15)]) (rmd 8 1 6) (va_Pc [.ref h0, .int a1, .ref out] (PREp d0 cO (dC, dI) (va_A [] sz) [(h0, .inr (12, [.ref fi, tca, .ref ea, .ref sl, tmx, tsv])), (fi, .inr (5, [fna, fla, fv2, fv3, fv4, fv5, .int 0])), (ea, .inl (tE, 2, .inr (.inr (.inr (.inr fE))))), (e0, .inr (4, [.int ei0, ev0_1, ev0_2, ev0_3, ev0_4, ev0_5, ev0_6, .ref ak0])), (e1, .inr (4, [.int ei1, ev1_1, ev1_2, ev1_3, ev1_4, ev1_5, ev1_6, .ref ak1])), (ak0, .inr (0, [.int am0, ae0, .int 0])), (ak1, .inr (0, [.int am1, ae1, .int 0])), (sl, .inr (0, [.int sm, se, .int 0]))] [(tE, .object RX3)] sz)) (va_Qi (fun (r : Int32) (_ : Unit) => r = 1) (fun (_ : Unit) (t : State) => va_P (dC, dI) vwCl [] t.heap) (va_A [] sz)) (vx_X (fun _ : Unit => True) (fun E _ _ => False) (va_A [] sz)) 1 6 (va_A [] sz) := by
  refine vx_ofWH (cc := cL_start) (maxL := 4) (ret := (some FieldType.int)) (hh := [(0, 9, 12, 20), (0, 9, 15, 15)]) (by decide) rfl ?_
  intro p e s m args below meth c s₁ B hml hv
  obtain ⟨rfl, hsz, hE, hP, hK⟩ := hv
  have hx := B.exec
  have hb := B.bytes
  have hr := B.returns
  have hts := atoms_spec (ws := cnW yL_start cL_start 4 (some FieldType.int) [(0, 9, 12, 20), (0, 9, 15, 15)]) B.pre
  have ht : ∀ w ∈ GT, w.before _ s = true := fun w h => hts w (List.mem_cons_of_mem _ h)
  have htab := vx_table (x := yL_start) B (hts _ List.mem_cons_self)
  have hown : s.vm.findClass RL = some m.cls := findClass_of_methodNamed B.named
  have hlocks := B.notSynchronized
  subst hsz
  generalize hAe : va_A [] s.heap.size = A at hE ⊢
  have hA : ∀ q : Nat, s.heap.size ≤ q → A q := fun q h => by rw [← hAe]; exact Or.inr h
  obtain ⟨H, hH0⟩ : ∃ H, s.heap = H := ⟨_, rfl⟩
  have hS : va_S A s.heap H [] := by rw [← hH0]; exact va_S.rf
  rw [hH0] at hP
  have hl := lv_entry ([.ref h0, .int a1, .ref out]) (n := 4) (Nat.le_of_ble_eq_true rfl)
  rw [lg_entry_eq]
  generalize (lg_sl ([.ref h0, .int a1, .ref out]) ++ List.replicate (4 - (lg_sl ([.ref h0, .int a1, .ref out])).length) Slot.unset).toArray = ls at hl ⊢
  have hl : lv_has ls 4 [(0, .ref h0), (1, .int a1), (2, .ref out)] := hl
  rw [hH0]
  refine lv_aload_n hx hb dL_start_0 rfl (lv_at hl 2 rfl) ?_
  refine lv_iconst (v := 0) hx hb dL_start_1 (by decide) ?_
  refine lv_aload_n hx hb dL_start_2 rfl (lv_at hl 0 rfl) ?_
  refine lv_iload_n hx hb dL_start_3 rfl (lv_at hl 1 rfl) ?_
  have hPc := hP.sub (ws' := [(h0, .inr (12, [.ref fi, tca, .ref ea, .ref sl, tmx, tsv])), (fi, .inr (5, [fna, fla, fv2, fv3, fv4, fv5, .int 0])), (ea, .inl (tE, 2, .inr (.inr (.inr (.inr fE))))), (e0, .inr (4, [.int ei0, ev0_1, ev0_2, ev0_3, ev0_4, ev0_5, ev0_6, .ref ak0])), (e1, .inr (4, [.int ei1, ev1_1, ev1_2, ev1_3, ev1_4, ev1_5, ev1_6, .ref ak1])), (ak0, .inr (0, [.int am0, ae0, .int 0])), (ak1, .inr (0, [.int am1, ae1, .int 0])), (sl, .inr (0, [.int sm, se, .int 0]))]) [0, 1, 2, 3, 4, 5, 6, 7] rfl
  have hKc := hK.sub (tys' := [(tE, .object RX3)]) [0] rfl
  have hFc := freeNil hS hA
  refine vx_calli (vx_runV (As := [.int a1]) (rest := [.int 0, .ref out]) ⟨hx, hb, hml, hown, ht⟩ (k_X11_start l hL d0 cO dC dI H.size h0 ea sl tca tmx tsv tE fE sm se fi fna fla fv2 fv3 fv4 fv5 e0 ak0 ei0 am0 ev0_1 ev0_2 ev0_3 ev0_4 ev0_5 ev0_6 ae0 e1 ak1 ei1 am1 ev1_1 ev1_2 ev1_3 ev1_4 ev1_5 ev1_6 ae1 hf0 hf1 a1) (my_V ht M_X11_start q1601 q1602 q1600 (Nat.le_of_ble_eq_true rfl) (Nat.le_of_ble_eq_true rfl)) ⟨PREp.fb, va_recv hK hP (ci := 12) (q0 := 0) rfl rfl, fun U hU hW => ⟨rfl, PREp.mk' hE hS hFc hPc hKc U hU hW⟩⟩ rfl rfl hl.1 rfl (lv_room (Nat.le_of_ble_eq_true rfl)) dL_start_4 ⟨(Nat.le_of_ble_eq_true rfl), (Nat.le_of_ble_eq_true rfl)⟩) hS (fun q _ h => hFc q h) hFc (fun q _ h => hFc q h) (fun E ce q9 ux t H1 locs htt hvm hw hB hz1 hk1 hS hcell hv9 hcl9 => ?_) (fun r2 u1 t H1 locs htt hvm hw hB hz1 hk1 hS => ?_)
  · skip
    obtain rfl : E = _ := hB
    generalize H1 = H at hS hcell ⊢
    have hP : va_P (dC, dI) vwCl [] H := va_P0
    refine vx_catch hown [] ⟨0, 9, 12, 20⟩ [⟨0, 9, 15, 15⟩] (htab.trans rfl) (fun z h => by simp at h) (by decide) (by decide) (ht _ q1120) (ht _ q1132) hcell hv9 hcl9 ?_
    refine W.eq (g2 := F0 m 12 ls [.ref q9]) rfl ?_
    refine lv_astore_n (lv' := [(3, .ref q9), (0, .ref h0), (1, .int a1), (2, .ref out)]) hx hb dL_start_12 rfl hl (by decide) rfl (fun ls hl => ?_)
    refine lv_iconst (v := 1) hx hb dL_start_13 (by decide) ?_
    have hP9 := hP.sub (ws' := []) [] rfl
    have hK9 := hK.sub (tys' := [(tE, .object RX3)]) [0] rfl
    refine W.widen (k := 1) (n := 6) (Nat.le_of_ble_eq_true rfl) (Nat.le_of_ble_eq_true rfl) ?_
    refine vx_ret ?_
    exact W.iret (v := 1) hx hb hr (fun t ht9 hW9 => ⟨⟨1, (), rfl, rfl, ppk ht9 hP9⟩, hS.F ht9⟩) hS.2.2 dL_start_14
  · skip
    exact hw.elim
set_option maxHeartbeats 4000000 in
set_option maxRecDepth 100000 in
theorem k_L_version (l : Launch) (hL : l.stackTraces = false) (d0 : Nat) (cO : ClassId) (dC : Nat → ClassId) (dI : Nat → Nat → Nat) (sz : Nat) (h0 ea sl : Nat) (tca tmx tsv : Value) (tE : ClassId) (fE : Nat → Option Nat) (sm : Int32) (se : Value) (fi : Nat) (fna fla fv2 fv3 fv4 fv5 : Value) (e0 ak0 : Nat) (ei0 am0 : Int32) (ev0_1 ev0_2 ev0_3 ev0_4 ev0_5 ev0_6 ae0 : Value) (e1 ak1 : Nat) (ei1 am1 : Int32) (ev1_1 ev1_2 ev1_3 ev1_4 ev1_5 ev1_6 ae1 : Value) (hf0 : fE 0 = some e0) (hf1 : fE 1 = some e1) (a1 a2 : Int32) (out : Nat) : vx_Met l yL_version (cnW yL_version cL_version 5 (some FieldType.int) [(0, 10, 13, 20)]) (rmd 8 1 6) (va_Pc [.ref h0, .int a1, .int a2, .ref out] (PREp d0 cO (dC, dI) (va_A [] sz) [(h0, .inr (12, [.ref fi, tca, .ref ea, .ref sl, tmx, tsv])), (fi, .inr (5, [fna, fla, fv2, fv3, fv4, fv5, .int 0])), (ea, .inl (tE, 2, .inr (.inr (.inr (.inr fE))))), (e0, .inr (4, [.int ei0, ev0_1, ev0_2, ev0_3, ev0_4, ev0_5, ev0_6, .ref ak0])), (e1, .inr (4, [.int ei1, ev1_1, ev1_2, ev1_3, ev1_4, ev1_5, ev1_6, .ref ak1])), (ak0, .inr (0, [.int am0, ae0, .int 0])), (ak1, .inr (0, [.int am1, ae1, .int 0])), (sl, .inr (0, [.int sm, se, .int 0]))] [(tE, .object RX3)] sz)) (va_Qi (fun (r : Int32) (_ : Unit) => r = 1) (fun (_ : Unit) (t : State) => va_P (dC, dI) vwCl [] t.heap) (va_A [] sz)) (vx_X (fun _ : Unit => True) (fun E _ _ => False) (va_A [] sz)) 1 6 (va_A [] sz) := by
  refine vx_ofWH (cc := cL_version) (maxL := 5) (ret := (some FieldType.int)) (hh := [(0, 10, 13, 20)]) (by decide) rfl ?_
  intro p e s m args below meth c s₁ B hml hv
  obtain ⟨rfl, hsz, hE, hP, hK⟩ := hv
  have hx := B.exec
  have hb := B.bytes
  have hr := B.returns
  have hts := atoms_spec (ws := cnW yL_version cL_version 5 (some FieldType.int) [(0, 10, 13, 20)]) B.pre
  have ht : ∀ w ∈ GT, w.before _ s = true := fun w h => hts w (List.mem_cons_of_mem _ h)
  have htab := vx_table (x := yL_version) B (hts _ List.mem_cons_self)
  have hown : s.vm.findClass RL = some m.cls := findClass_of_methodNamed B.named
  have hlocks := B.notSynchronized
  subst hsz
  generalize hAe : va_A [] s.heap.size = A at hE ⊢
  have hA : ∀ q : Nat, s.heap.size ≤ q → A q := fun q h => by rw [← hAe]; exact Or.inr h
  obtain ⟨H, hH0⟩ : ∃ H, s.heap = H := ⟨_, rfl⟩
  have hS : va_S A s.heap H [] := by rw [← hH0]; exact va_S.rf
  rw [hH0] at hP
  have hl := lv_entry ([.ref h0, .int a1, .int a2, .ref out]) (n := 5) (Nat.le_of_ble_eq_true rfl)
  rw [lg_entry_eq]
  generalize (lg_sl ([.ref h0, .int a1, .int a2, .ref out]) ++ List.replicate (5 - (lg_sl ([.ref h0, .int a1, .int a2, .ref out])).length) Slot.unset).toArray = ls at hl ⊢
  have hl : lv_has ls 5 [(0, .ref h0), (1, .int a1), (2, .int a2), (3, .ref out)] := hl
  rw [hH0]
  refine lv_aload_n hx hb dL_version_0 rfl (lv_at hl 3 rfl) ?_
  refine lv_iconst (v := 0) hx hb dL_version_1 (by decide) ?_
  refine lv_aload_n hx hb dL_version_2 rfl (lv_at hl 0 rfl) ?_
  refine lv_iload_n hx hb dL_version_3 rfl (lv_at hl 1 rfl) ?_
  refine lv_iload_n hx hb dL_version_4 rfl (lv_at hl 2 rfl) ?_
  have hPc := hP.sub (ws' := [(h0, .inr (12, [.ref fi, tca, .ref ea, .ref sl, tmx, tsv])), (fi, .inr (5, [fna, fla, fv2, fv3, fv4, fv5, .int 0])), (ea, .inl (tE, 2, .inr (.inr (.inr (.inr fE))))), (e0, .inr (4, [.int ei0, ev0_1, ev0_2, ev0_3, ev0_4, ev0_5, ev0_6, .ref ak0])), (e1, .inr (4, [.int ei1, ev1_1, ev1_2, ev1_3, ev1_4, ev1_5, ev1_6, .ref ak1])), (ak0, .inr (0, [.int am0, ae0, .int 0])), (ak1, .inr (0, [.int am1, ae1, .int 0])), (sl, .inr (0, [.int sm, se, .int 0]))]) [0, 1, 2, 3, 4, 5, 6, 7] rfl
  have hKc := hK.sub (tys' := [(tE, .object RX3)]) [0] rfl
  have hFc := freeNil hS hA
  refine vx_calli (vx_runV (As := [.int a1, .int a2]) (rest := [.int 0, .ref out]) ⟨hx, hb, hml, hown, ht⟩ (k_X11_version l hL d0 cO dC dI H.size h0 ea sl tca tmx tsv tE fE sm se fi fna fla fv2 fv3 fv4 fv5 e0 ak0 ei0 am0 ev0_1 ev0_2 ev0_3 ev0_4 ev0_5 ev0_6 ae0 e1 ak1 ei1 am1 ev1_1 ev1_2 ev1_3 ev1_4 ev1_5 ev1_6 ae1 hf0 hf1 a1 a2) (my_V ht M_X11_version q1640 q1641 q1639 (Nat.le_of_ble_eq_true rfl) (Nat.le_of_ble_eq_true rfl)) ⟨PREp.fb, va_recv hK hP (ci := 12) (q0 := 0) rfl rfl, fun U hU hW => ⟨rfl, PREp.mk' hE hS hFc hPc hKc U hU hW⟩⟩ rfl rfl hl.1 rfl (lv_room (Nat.le_of_ble_eq_true rfl)) dL_version_5 ⟨(Nat.le_of_ble_eq_true rfl), (Nat.le_of_ble_eq_true rfl)⟩) hS (fun q _ h => hFc q h) hFc (fun q _ h => hFc q h) (fun E ce q9 ux t H1 locs htt hvm hw hB hz1 hk1 hS hcell hv9 hcl9 => ?_) (fun r2 u1 t H1 locs htt hvm hw hB hz1 hk1 hS => ?_)
  · skip
    obtain rfl : E = _ := hB
    generalize H1 = H at hS hcell ⊢
    have hP : va_P (dC, dI) vwCl [] H := va_P0
    refine vx_catch hown [] ⟨0, 10, 13, 20⟩ [] (htab.trans rfl) (fun z h => by simp at h) (by decide) (by decide) (ht _ q1120) (ht _ q1132) hcell hv9 hcl9 ?_
    refine W.eq (g2 := F0 m 13 ls [.ref q9]) rfl ?_
    refine lv_astore (lv' := [(4, .ref q9), (0, .ref h0), (1, .int a1), (2, .int a2), (3, .ref out)]) hx hb dL_version_13 hl (by decide) rfl (fun ls hl => ?_)
    refine lv_iconst (v := 1) hx hb dL_version_15 (by decide) ?_
    have hP9 := hP.sub (ws' := []) [] rfl
    have hK9 := hK.sub (tys' := [(tE, .object RX3)]) [0] rfl
    refine W.widen (k := 1) (n := 6) (Nat.le_of_ble_eq_true rfl) (Nat.le_of_ble_eq_true rfl) ?_
    refine vx_ret ?_
    exact W.iret (v := 1) hx hb hr (fun t ht9 hW9 => ⟨⟨1, (), rfl, rfl, ppk ht9 hP9⟩, hS.F ht9⟩) hS.2.2 dL_version_16
  · skip
    exact hw.elim
set_option maxHeartbeats 4000000 in
set_option maxRecDepth 100000 in
theorem k_L_unit (l : Launch) (hL : l.stackTraces = false) (d0 : Nat) (cO : ClassId) (dC : Nat → ClassId) (dI : Nat → Nat → Nat) (sz : Nat) (h0 ea sl : Nat) (tca tmx tsv : Value) (tE : ClassId) (fE : Nat → Option Nat) (sm : Int32) (se : Value) (fi : Nat) (fna fla fv2 fv3 fv4 fv5 : Value) (e0 ak0 : Nat) (ei0 am0 : Int32) (ev0_1 ev0_2 ev0_3 ev0_4 ev0_5 ev0_6 ae0 : Value) (e1 ak1 : Nat) (ei1 am1 : Int32) (ev1_1 ev1_2 ev1_3 ev1_4 ev1_5 ev1_6 ae1 : Value) (hf0 : fE 0 = some e0) (hf1 : fE 1 = some e1) (a1 a2 a3 : Int32) (out : Nat) : vx_Met l yL_unit (cnW yL_unit cL_unit 6 (some FieldType.int) [(0, 12, 15, 20)]) (rmd 8 1 6) (va_Pc [.ref h0, .int a1, .int a2, .int a3, .ref out] (PREp d0 cO (dC, dI) (va_A [] sz) [(h0, .inr (12, [.ref fi, tca, .ref ea, .ref sl, tmx, tsv])), (fi, .inr (5, [fna, fla, fv2, fv3, fv4, fv5, .int 0])), (ea, .inl (tE, 2, .inr (.inr (.inr (.inr fE))))), (e0, .inr (4, [.int ei0, ev0_1, ev0_2, ev0_3, ev0_4, ev0_5, ev0_6, .ref ak0])), (e1, .inr (4, [.int ei1, ev1_1, ev1_2, ev1_3, ev1_4, ev1_5, ev1_6, .ref ak1])), (ak0, .inr (0, [.int am0, ae0, .int 0])), (ak1, .inr (0, [.int am1, ae1, .int 0])), (sl, .inr (0, [.int sm, se, .int 0]))] [(tE, .object RX3)] sz)) (va_Qi (fun (r : Int32) (_ : Unit) => r = 1) (fun (_ : Unit) (t : State) => va_P (dC, dI) vwCl [] t.heap) (va_A [] sz)) (vx_X (fun _ : Unit => True) (fun E _ _ => False) (va_A [] sz)) 1 6 (va_A [] sz) := by
  refine vx_ofWH (cc := cL_unit) (maxL := 6) (ret := (some FieldType.int)) (hh := [(0, 12, 15, 20)]) (by decide) rfl ?_
  intro p e s m args below meth c s₁ B hml hv
  obtain ⟨rfl, hsz, hE, hP, hK⟩ := hv
  have hx := B.exec
  have hb := B.bytes
  have hr := B.returns
  have hts := atoms_spec (ws := cnW yL_unit cL_unit 6 (some FieldType.int) [(0, 12, 15, 20)]) B.pre
  have ht : ∀ w ∈ GT, w.before _ s = true := fun w h => hts w (List.mem_cons_of_mem _ h)
  have htab := vx_table (x := yL_unit) B (hts _ List.mem_cons_self)
  have hown : s.vm.findClass RL = some m.cls := findClass_of_methodNamed B.named
  have hlocks := B.notSynchronized
  subst hsz
  generalize hAe : va_A [] s.heap.size = A at hE ⊢
  have hA : ∀ q : Nat, s.heap.size ≤ q → A q := fun q h => by rw [← hAe]; exact Or.inr h
  obtain ⟨H, hH0⟩ : ∃ H, s.heap = H := ⟨_, rfl⟩
  have hS : va_S A s.heap H [] := by rw [← hH0]; exact va_S.rf
  rw [hH0] at hP
  have hl := lv_entry ([.ref h0, .int a1, .int a2, .int a3, .ref out]) (n := 6) (Nat.le_of_ble_eq_true rfl)
  rw [lg_entry_eq]
  generalize (lg_sl ([.ref h0, .int a1, .int a2, .int a3, .ref out]) ++ List.replicate (6 - (lg_sl ([.ref h0, .int a1, .int a2, .int a3, .ref out])).length) Slot.unset).toArray = ls at hl ⊢
  have hl : lv_has ls 6 [(0, .ref h0), (1, .int a1), (2, .int a2), (3, .int a3), (4, .ref out)] := hl
  rw [hH0]
  refine lv_aload hx hb dL_unit_0 (lv_at hl 4 rfl) ?_
  refine lv_iconst (v := 0) hx hb dL_unit_2 (by decide) ?_
  refine lv_aload_n hx hb dL_unit_3 rfl (lv_at hl 0 rfl) ?_
  refine lv_iload_n hx hb dL_unit_4 rfl (lv_at hl 1 rfl) ?_
  refine lv_iload_n hx hb dL_unit_5 rfl (lv_at hl 2 rfl) ?_
  refine lv_iload_n hx hb dL_unit_6 rfl (lv_at hl 3 rfl) ?_
  have hPc := hP.sub (ws' := [(h0, .inr (12, [.ref fi, tca, .ref ea, .ref sl, tmx, tsv])), (fi, .inr (5, [fna, fla, fv2, fv3, fv4, fv5, .int 0])), (ea, .inl (tE, 2, .inr (.inr (.inr (.inr fE))))), (e0, .inr (4, [.int ei0, ev0_1, ev0_2, ev0_3, ev0_4, ev0_5, ev0_6, .ref ak0])), (e1, .inr (4, [.int ei1, ev1_1, ev1_2, ev1_3, ev1_4, ev1_5, ev1_6, .ref ak1])), (ak0, .inr (0, [.int am0, ae0, .int 0])), (ak1, .inr (0, [.int am1, ae1, .int 0])), (sl, .inr (0, [.int sm, se, .int 0]))]) [0, 1, 2, 3, 4, 5, 6, 7] rfl
  have hKc := hK.sub (tys' := [(tE, .object RX3)]) [0] rfl
  have hFc := freeNil hS hA
  refine vx_calli (vx_runV (As := [.int a1, .int a2, .int a3]) (rest := [.int 0, .ref out]) ⟨hx, hb, hml, hown, ht⟩ (k_X11_unit l hL d0 cO dC dI H.size h0 ea sl tca tmx tsv tE fE sm se fi fna fla fv2 fv3 fv4 fv5 e0 ak0 ei0 am0 ev0_1 ev0_2 ev0_3 ev0_4 ev0_5 ev0_6 ae0 e1 ak1 ei1 am1 ev1_1 ev1_2 ev1_3 ev1_4 ev1_5 ev1_6 ae1 hf0 hf1 a1 a2 a3) (my_V ht M_X11_unit q1652 q1653 q1651 (Nat.le_of_ble_eq_true rfl) (Nat.le_of_ble_eq_true rfl)) ⟨PREp.fb, va_recv hK hP (ci := 12) (q0 := 0) rfl rfl, fun U hU hW => ⟨rfl, PREp.mk' hE hS hFc hPc hKc U hU hW⟩⟩ rfl rfl hl.1 rfl (lv_room (Nat.le_of_ble_eq_true rfl)) dL_unit_7 ⟨(Nat.le_of_ble_eq_true rfl), (Nat.le_of_ble_eq_true rfl)⟩) hS (fun q _ h => hFc q h) hFc (fun q _ h => hFc q h) (fun E ce q9 ux t H1 locs htt hvm hw hB hz1 hk1 hS hcell hv9 hcl9 => ?_) (fun r2 u1 t H1 locs htt hvm hw hB hz1 hk1 hS => ?_)
  · skip
    obtain rfl : E = _ := hB
    generalize H1 = H at hS hcell ⊢
    have hP : va_P (dC, dI) vwCl [] H := va_P0
    refine vx_catch hown [] ⟨0, 12, 15, 20⟩ [] (htab.trans rfl) (fun z h => by simp at h) (by decide) (by decide) (ht _ q1120) (ht _ q1132) hcell hv9 hcl9 ?_
    refine W.eq (g2 := F0 m 15 ls [.ref q9]) rfl ?_
    refine lv_astore (lv' := [(5, .ref q9), (0, .ref h0), (1, .int a1), (2, .int a2), (3, .int a3), (4, .ref out)]) hx hb dL_unit_15 hl (by decide) rfl (fun ls hl => ?_)
    refine lv_iconst (v := 1) hx hb dL_unit_17 (by decide) ?_
    have hP9 := hP.sub (ws' := []) [] rfl
    have hK9 := hK.sub (tys' := [(tE, .object RX3)]) [0] rfl
    refine W.widen (k := 1) (n := 6) (Nat.le_of_ble_eq_true rfl) (Nat.le_of_ble_eq_true rfl) ?_
    refine vx_ret ?_
    exact W.iret (v := 1) hx hb hr (fun t ht9 hW9 => ⟨⟨1, (), rfl, rfl, ppk ht9 hP9⟩, hS.F ht9⟩) hS.2.2 dL_unit_18
  · skip
    exact hw.elim
set_option maxHeartbeats 4000000 in
set_option maxRecDepth 100000 in
theorem k_L_agree (l : Launch) (hL : l.stackTraces = false) (d0 : Nat) (cO : ClassId) (dC : Nat → ClassId) (dI : Nat → Nat → Nat) (sz : Nat) (h0 ea sl : Nat) (tca tmx tsv : Value) (tE : ClassId) (fE : Nat → Option Nat) (sm : Int32) (se : Value) (fi : Nat) (fna fla fv2 fv3 fv4 fv5 : Value) (e0 ak0 : Nat) (ei0 am0 : Int32) (ev0_1 ev0_2 ev0_3 ev0_4 ev0_5 ev0_6 ae0 : Value) (e1 ak1 : Nat) (ei1 am1 : Int32) (ev1_1 ev1_2 ev1_3 ev1_4 ev1_5 ev1_6 ae1 : Value) (hf0 : fE 0 = some e0) (hf1 : fE 1 = some e1) (a1 : Int32) (out : Nat) : vx_Met l yL_agree (cnW yL_agree cL_agree 4 (some FieldType.int) [(0, 16, 19, 20)]) (rmd 8 1 6) (va_Pc [.ref h0, .int a1, .ref out] (PREp d0 cO (dC, dI) (va_A [] sz) [(h0, .inr (12, [.ref fi, tca, .ref ea, .ref sl, tmx, tsv])), (fi, .inr (5, [fna, fla, fv2, fv3, fv4, fv5, .int 0])), (ea, .inl (tE, 2, .inr (.inr (.inr (.inr fE))))), (e0, .inr (4, [.int ei0, ev0_1, ev0_2, ev0_3, ev0_4, ev0_5, ev0_6, .ref ak0])), (e1, .inr (4, [.int ei1, ev1_1, ev1_2, ev1_3, ev1_4, ev1_5, ev1_6, .ref ak1])), (ak0, .inr (0, [.int am0, ae0, .int 0])), (ak1, .inr (0, [.int am1, ae1, .int 0])), (sl, .inr (0, [.int sm, se, .int 0]))] [(tE, .object RX3)] sz)) (va_Qi (fun (r : Int32) (_ : Unit) => r = 1) (fun (_ : Unit) (t : State) => va_P (dC, dI) vwCl [] t.heap) (va_A [] sz)) (vx_X (fun _ : Unit => True) (fun E _ _ => False) (va_A [] sz)) 1 6 (va_A [] sz) := by
  refine vx_ofWH (cc := cL_agree) (maxL := 4) (ret := (some FieldType.int)) (hh := [(0, 16, 19, 20)]) (by decide) rfl ?_
  intro p e s m args below meth c s₁ B hml hv
  obtain ⟨rfl, hsz, hE, hP, hK⟩ := hv
  have hx := B.exec
  have hb := B.bytes
  have hr := B.returns
  have hts := atoms_spec (ws := cnW yL_agree cL_agree 4 (some FieldType.int) [(0, 16, 19, 20)]) B.pre
  have ht : ∀ w ∈ GT, w.before _ s = true := fun w h => hts w (List.mem_cons_of_mem _ h)
  have htab := vx_table (x := yL_agree) B (hts _ List.mem_cons_self)
  have hown : s.vm.findClass RL = some m.cls := findClass_of_methodNamed B.named
  have hlocks := B.notSynchronized
  subst hsz
  generalize hAe : va_A [] s.heap.size = A at hE ⊢
  have hA : ∀ q : Nat, s.heap.size ≤ q → A q := fun q h => by rw [← hAe]; exact Or.inr h
  obtain ⟨H, hH0⟩ : ∃ H, s.heap = H := ⟨_, rfl⟩
  have hS : va_S A s.heap H [] := by rw [← hH0]; exact va_S.rf
  rw [hH0] at hP
  have hl := lv_entry ([.ref h0, .int a1, .ref out]) (n := 4) (Nat.le_of_ble_eq_true rfl)
  rw [lg_entry_eq]
  generalize (lg_sl ([.ref h0, .int a1, .ref out]) ++ List.replicate (4 - (lg_sl ([.ref h0, .int a1, .ref out])).length) Slot.unset).toArray = ls at hl ⊢
  have hl : lv_has ls 4 [(0, .ref h0), (1, .int a1), (2, .ref out)] := hl
  rw [hH0]
  refine lv_aload_n hx hb dL_agree_0 rfl (lv_at hl 2 rfl) ?_
  refine lv_iconst (v := 0) hx hb dL_agree_1 (by decide) ?_
  refine lv_aload_n hx hb dL_agree_2 rfl (lv_at hl 0 rfl) ?_
  refine lv_iload_n hx hb dL_agree_3 rfl (lv_at hl 1 rfl) ?_
  have hPc := hP.sub (ws' := [(h0, .inr (12, [.ref fi, tca, .ref ea, .ref sl, tmx, tsv])), (fi, .inr (5, [fna, fla, fv2, fv3, fv4, fv5, .int 0])), (ea, .inl (tE, 2, .inr (.inr (.inr (.inr fE))))), (e0, .inr (4, [.int ei0, ev0_1, ev0_2, ev0_3, ev0_4, ev0_5, ev0_6, .ref ak0])), (e1, .inr (4, [.int ei1, ev1_1, ev1_2, ev1_3, ev1_4, ev1_5, ev1_6, .ref ak1])), (ak0, .inr (0, [.int am0, ae0, .int 0])), (ak1, .inr (0, [.int am1, ae1, .int 0])), (sl, .inr (0, [.int sm, se, .int 0]))]) [0, 1, 2, 3, 4, 5, 6, 7] rfl
  have hKc := hK.sub (tys' := [(tE, .object RX3)]) [0] rfl
  have hFc := freeNil hS hA
  refine vx_calli (vx_runV (As := [.int a1]) (rest := [.int 0, .ref out]) ⟨hx, hb, hml, hown, ht⟩ (k_X11_agree l hL d0 cO dC dI H.size h0 ea sl tca tmx tsv tE fE sm se fi fna fla fv2 fv3 fv4 fv5 e0 ak0 ei0 am0 ev0_1 ev0_2 ev0_3 ev0_4 ev0_5 ev0_6 ae0 e1 ak1 ei1 am1 ev1_1 ev1_2 ev1_3 ev1_4 ev1_5 ev1_6 ae1 hf0 hf1 a1) (my_V ht M_X11_agree q1661 q1662 q1660 (Nat.le_of_ble_eq_true rfl) (Nat.le_of_ble_eq_true rfl)) ⟨PREp.fb, va_recv hK hP (ci := 12) (q0 := 0) rfl rfl, fun U hU hW => ⟨rfl, PREp.mk' hE hS hFc hPc hKc U hU hW⟩⟩ rfl rfl hl.1 rfl (lv_room (Nat.le_of_ble_eq_true rfl)) dL_agree_4 ⟨(Nat.le_of_ble_eq_true rfl), (Nat.le_of_ble_eq_true rfl)⟩) hS (fun q _ h => hFc q h) hFc (fun q _ h => hFc q h) (fun E ce q9 ux t H1 locs htt hvm hw hB hz1 hk1 hS hcell hv9 hcl9 => ?_) (fun r2 u1 t H1 locs htt hvm hw hB hz1 hk1 hS => ?_)
  · skip
    obtain rfl : E = _ := hB
    generalize H1 = H at hS hcell ⊢
    have hP : va_P (dC, dI) vwCl [] H := va_P0
    refine vx_catch hown [] ⟨0, 16, 19, 20⟩ [] (htab.trans rfl) (fun z h => by simp at h) (by decide) (by decide) (ht _ q1120) (ht _ q1132) hcell hv9 hcl9 ?_
    refine W.eq (g2 := F0 m 19 ls [.ref q9]) rfl ?_
    refine lv_astore_n (lv' := [(3, .ref q9), (0, .ref h0), (1, .int a1), (2, .ref out)]) hx hb dL_agree_19 rfl hl (by decide) rfl (fun ls hl => ?_)
    refine lv_iconst (v := 1) hx hb dL_agree_20 (by decide) ?_
    have hP9 := hP.sub (ws' := []) [] rfl
    have hK9 := hK.sub (tys' := [(tE, .object RX3)]) [0] rfl
    refine W.widen (k := 1) (n := 6) (Nat.le_of_ble_eq_true rfl) (Nat.le_of_ble_eq_true rfl) ?_
    refine vx_ret ?_
    exact W.iret (v := 1) hx hb hr (fun t ht9 hW9 => ⟨⟨1, (), rfl, rfl, ppk ht9 hP9⟩, hS.F ht9⟩) hS.2.2 dL_agree_21
  · skip
    exact hw.elim
set_option maxHeartbeats 4000000 in
set_option maxRecDepth 100000 in
theorem k_L_standing (l : Launch) (hL : l.stackTraces = false) (d0 : Nat) (cO : ClassId) (dC : Nat → ClassId) (dI : Nat → Nat → Nat) (sz : Nat) (h0 ea sl : Nat) (tca tmx tsv : Value) (tE : ClassId) (fE : Nat → Option Nat) (sm : Int32) (se : Value) (fi : Nat) (fna fla fv2 fv3 fv4 fv5 : Value) (e0 ak0 : Nat) (ei0 am0 : Int32) (ev0_1 ev0_2 ev0_3 ev0_4 ev0_5 ev0_6 ae0 : Value) (e1 ak1 : Nat) (ei1 am1 : Int32) (ev1_1 ev1_2 ev1_3 ev1_4 ev1_5 ev1_6 ae1 : Value) (hf0 : fE 0 = some e0) (hf1 : fE 1 = some e1) (a1 a2 : Int32) (out : Nat) : vx_Met l yL_standing (cnW yL_standing cL_standing 5 (some FieldType.int) [(0, 10, 13, 20)]) (rmd 8 2 12) (va_Pc [.ref h0, .int a1, .int a2, .ref out] (PREp d0 cO (dC, dI) (va_A [] sz) [(h0, .inr (12, [.ref fi, tca, .ref ea, .ref sl, tmx, tsv])), (fi, .inr (5, [fna, fla, fv2, fv3, fv4, fv5, .int 0])), (ea, .inl (tE, 2, .inr (.inr (.inr (.inr fE))))), (e0, .inr (4, [.int ei0, ev0_1, ev0_2, ev0_3, ev0_4, ev0_5, ev0_6, .ref ak0])), (e1, .inr (4, [.int ei1, ev1_1, ev1_2, ev1_3, ev1_4, ev1_5, ev1_6, .ref ak1])), (ak0, .inr (0, [.int am0, ae0, .int 0])), (ak1, .inr (0, [.int am1, ae1, .int 0])), (sl, .inr (0, [.int sm, se, .int 0]))] [(tE, .object RX3)] sz)) (va_Qi (fun (r : Int32) (_ : Unit) => r = 1) (fun (_ : Unit) (t : State) => va_P (dC, dI) vwCl [] t.heap) (va_A [] sz)) (vx_X (fun _ : Unit => True) (fun E _ _ => False) (va_A [] sz)) 2 12 (va_A [] sz) := by
  refine vx_ofWH (cc := cL_standing) (maxL := 5) (ret := (some FieldType.int)) (hh := [(0, 10, 13, 20)]) (by decide) rfl ?_
  intro p e s m args below meth c s₁ B hml hv
  obtain ⟨rfl, hsz, hE, hP, hK⟩ := hv
  have hx := B.exec
  have hb := B.bytes
  have hr := B.returns
  have hts := atoms_spec (ws := cnW yL_standing cL_standing 5 (some FieldType.int) [(0, 10, 13, 20)]) B.pre
  have ht : ∀ w ∈ GT, w.before _ s = true := fun w h => hts w (List.mem_cons_of_mem _ h)
  have htab := vx_table (x := yL_standing) B (hts _ List.mem_cons_self)
  have hown : s.vm.findClass RL = some m.cls := findClass_of_methodNamed B.named
  have hlocks := B.notSynchronized
  subst hsz
  generalize hAe : va_A [] s.heap.size = A at hE ⊢
  have hA : ∀ q : Nat, s.heap.size ≤ q → A q := fun q h => by rw [← hAe]; exact Or.inr h
  obtain ⟨H, hH0⟩ : ∃ H, s.heap = H := ⟨_, rfl⟩
  have hS : va_S A s.heap H [] := by rw [← hH0]; exact va_S.rf
  rw [hH0] at hP
  have hl := lv_entry ([.ref h0, .int a1, .int a2, .ref out]) (n := 5) (Nat.le_of_ble_eq_true rfl)
  rw [lg_entry_eq]
  generalize (lg_sl ([.ref h0, .int a1, .int a2, .ref out]) ++ List.replicate (5 - (lg_sl ([.ref h0, .int a1, .int a2, .ref out])).length) Slot.unset).toArray = ls at hl ⊢
  have hl : lv_has ls 5 [(0, .ref h0), (1, .int a1), (2, .int a2), (3, .ref out)] := hl
  rw [hH0]
  refine lv_aload_n hx hb dL_standing_0 rfl (lv_at hl 3 rfl) ?_
  refine lv_iconst (v := 0) hx hb dL_standing_1 (by decide) ?_
  refine lv_aload_n hx hb dL_standing_2 rfl (lv_at hl 0 rfl) ?_
  refine lv_iload_n hx hb dL_standing_3 rfl (lv_at hl 1 rfl) ?_
  refine lv_iload_n hx hb dL_standing_4 rfl (lv_at hl 2 rfl) ?_
  have hPc := hP.sub (ws' := [(h0, .inr (12, [.ref fi, tca, .ref ea, .ref sl, tmx, tsv])), (fi, .inr (5, [fna, fla, fv2, fv3, fv4, fv5, .int 0])), (ea, .inl (tE, 2, .inr (.inr (.inr (.inr fE))))), (e0, .inr (4, [.int ei0, ev0_1, ev0_2, ev0_3, ev0_4, ev0_5, ev0_6, .ref ak0])), (e1, .inr (4, [.int ei1, ev1_1, ev1_2, ev1_3, ev1_4, ev1_5, ev1_6, .ref ak1])), (ak0, .inr (0, [.int am0, ae0, .int 0])), (ak1, .inr (0, [.int am1, ae1, .int 0])), (sl, .inr (0, [.int sm, se, .int 0]))]) [0, 1, 2, 3, 4, 5, 6, 7] rfl
  have hKc := hK.sub (tys' := [(tE, .object RX3)]) [0] rfl
  have hFc := freeNil hS hA
  refine vx_calli (vx_runV (As := [.int a1, .int a2]) (rest := [.int 0, .ref out]) ⟨hx, hb, hml, hown, ht⟩ (k_X11_standing l hL d0 cO dC dI H.size h0 ea sl tca tmx tsv tE fE sm se fi fna fla fv2 fv3 fv4 fv5 e0 ak0 ei0 am0 ev0_1 ev0_2 ev0_3 ev0_4 ev0_5 ev0_6 ae0 e1 ak1 ei1 am1 ev1_1 ev1_2 ev1_3 ev1_4 ev1_5 ev1_6 ae1 hf0 hf1 a1 a2) (my_V ht M_X11_standing q1677 q1678 q1676 (Nat.le_of_ble_eq_true rfl) (Nat.le_of_ble_eq_true rfl)) ⟨PREp.fb, va_recv hK hP (ci := 12) (q0 := 0) rfl rfl, fun U hU hW => ⟨rfl, PREp.mk' hE hS hFc hPc hKc U hU hW⟩⟩ rfl rfl hl.1 rfl (lv_room (Nat.le_of_ble_eq_true rfl)) dL_standing_5 ⟨(Nat.le_of_ble_eq_true rfl), (Nat.le_of_ble_eq_true rfl)⟩) hS (fun q _ h => hFc q h) hFc (fun q _ h => hFc q h) (fun E ce q9 ux t H1 locs htt hvm hw hB hz1 hk1 hS hcell hv9 hcl9 => ?_) (fun r2 u1 t H1 locs htt hvm hw hB hz1 hk1 hS => ?_)
  · skip
    obtain rfl : E = _ := hB
    generalize H1 = H at hS hcell ⊢
    have hP : va_P (dC, dI) vwCl [] H := va_P0
    refine vx_catch hown [] ⟨0, 10, 13, 20⟩ [] (htab.trans rfl) (fun z h => by simp at h) (by decide) (by decide) (ht _ q1120) (ht _ q1132) hcell hv9 hcl9 ?_
    refine W.eq (g2 := F0 m 13 ls [.ref q9]) rfl ?_
    refine lv_astore (lv' := [(4, .ref q9), (0, .ref h0), (1, .int a1), (2, .int a2), (3, .ref out)]) hx hb dL_standing_13 hl (by decide) rfl (fun ls hl => ?_)
    refine lv_iconst (v := 1) hx hb dL_standing_15 (by decide) ?_
    have hP9 := hP.sub (ws' := []) [] rfl
    have hK9 := hK.sub (tys' := [(tE, .object RX3)]) [0] rfl
    refine W.widen (k := 2) (n := 12) (Nat.le_of_ble_eq_true rfl) (Nat.le_of_ble_eq_true rfl) ?_
    refine vx_ret ?_
    exact W.iret (v := 1) hx hb hr (fun t ht9 hW9 => ⟨⟨1, (), rfl, rfl, ppk ht9 hP9⟩, hS.F ht9⟩) hS.2.2 dL_standing_16
  · skip
    exact hw.elim
set_option maxHeartbeats 4000000 in
set_option maxRecDepth 100000 in
theorem k_L_item (l : Launch) (hL : l.stackTraces = false) (d0 : Nat) (cO : ClassId) (dC : Nat → ClassId) (dI : Nat → Nat → Nat) (sz : Nat) (h0 ea sl : Nat) (tca tmx tsv : Value) (tE : ClassId) (fE : Nat → Option Nat) (sm : Int32) (se : Value) (fi : Nat) (fna fla fv2 fv3 fv4 fv5 : Value) (e0 ak0 : Nat) (ei0 am0 : Int32) (ev0_1 ev0_2 ev0_3 ev0_4 ev0_5 ev0_6 ae0 : Value) (e1 ak1 : Nat) (ei1 am1 : Int32) (ev1_1 ev1_2 ev1_3 ev1_4 ev1_5 ev1_6 ae1 : Value) (hf0 : fE 0 = some e0) (hf1 : fE 1 = some e1) (a1 a2 a3 : Int32) (out : Nat) : vx_Met l yL_item (cnW yL_item cL_item 6 (some FieldType.int) [(0, 12, 15, 20)]) (rmd 8 2 12) (va_Pc [.ref h0, .int a1, .int a2, .int a3, .ref out] (PREp d0 cO (dC, dI) (va_A [] sz) [(h0, .inr (12, [.ref fi, tca, .ref ea, .ref sl, tmx, tsv])), (fi, .inr (5, [fna, fla, fv2, fv3, fv4, fv5, .int 0])), (ea, .inl (tE, 2, .inr (.inr (.inr (.inr fE))))), (e0, .inr (4, [.int ei0, ev0_1, ev0_2, ev0_3, ev0_4, ev0_5, ev0_6, .ref ak0])), (e1, .inr (4, [.int ei1, ev1_1, ev1_2, ev1_3, ev1_4, ev1_5, ev1_6, .ref ak1])), (ak0, .inr (0, [.int am0, ae0, .int 0])), (ak1, .inr (0, [.int am1, ae1, .int 0])), (sl, .inr (0, [.int sm, se, .int 0]))] [(tE, .object RX3)] sz)) (va_Qi (fun (r : Int32) (_ : Unit) => r = 1) (fun (_ : Unit) (t : State) => va_P (dC, dI) vwCl [] t.heap) (va_A [] sz)) (vx_X (fun _ : Unit => True) (fun E _ _ => False) (va_A [] sz)) 2 12 (va_A [] sz) := by
  refine vx_ofWH (cc := cL_item) (maxL := 6) (ret := (some FieldType.int)) (hh := [(0, 12, 15, 20)]) (by decide) rfl ?_
  intro p e s m args below meth c s₁ B hml hv
  obtain ⟨rfl, hsz, hE, hP, hK⟩ := hv
  have hx := B.exec
  have hb := B.bytes
  have hr := B.returns
  have hts := atoms_spec (ws := cnW yL_item cL_item 6 (some FieldType.int) [(0, 12, 15, 20)]) B.pre
  have ht : ∀ w ∈ GT, w.before _ s = true := fun w h => hts w (List.mem_cons_of_mem _ h)
  have htab := vx_table (x := yL_item) B (hts _ List.mem_cons_self)
  have hown : s.vm.findClass RL = some m.cls := findClass_of_methodNamed B.named
  have hlocks := B.notSynchronized
  subst hsz
  generalize hAe : va_A [] s.heap.size = A at hE ⊢
  have hA : ∀ q : Nat, s.heap.size ≤ q → A q := fun q h => by rw [← hAe]; exact Or.inr h
  obtain ⟨H, hH0⟩ : ∃ H, s.heap = H := ⟨_, rfl⟩
  have hS : va_S A s.heap H [] := by rw [← hH0]; exact va_S.rf
  rw [hH0] at hP
  have hl := lv_entry ([.ref h0, .int a1, .int a2, .int a3, .ref out]) (n := 6) (Nat.le_of_ble_eq_true rfl)
  rw [lg_entry_eq]
  generalize (lg_sl ([.ref h0, .int a1, .int a2, .int a3, .ref out]) ++ List.replicate (6 - (lg_sl ([.ref h0, .int a1, .int a2, .int a3, .ref out])).length) Slot.unset).toArray = ls at hl ⊢
  have hl : lv_has ls 6 [(0, .ref h0), (1, .int a1), (2, .int a2), (3, .int a3), (4, .ref out)] := hl
  rw [hH0]
  refine lv_aload hx hb dL_item_0 (lv_at hl 4 rfl) ?_
  refine lv_iconst (v := 0) hx hb dL_item_2 (by decide) ?_
  refine lv_aload_n hx hb dL_item_3 rfl (lv_at hl 0 rfl) ?_
  refine lv_iload_n hx hb dL_item_4 rfl (lv_at hl 1 rfl) ?_
  refine lv_iload_n hx hb dL_item_5 rfl (lv_at hl 2 rfl) ?_
  refine lv_iload_n hx hb dL_item_6 rfl (lv_at hl 3 rfl) ?_
  have hPc := hP.sub (ws' := [(h0, .inr (12, [.ref fi, tca, .ref ea, .ref sl, tmx, tsv])), (fi, .inr (5, [fna, fla, fv2, fv3, fv4, fv5, .int 0])), (ea, .inl (tE, 2, .inr (.inr (.inr (.inr fE))))), (e0, .inr (4, [.int ei0, ev0_1, ev0_2, ev0_3, ev0_4, ev0_5, ev0_6, .ref ak0])), (e1, .inr (4, [.int ei1, ev1_1, ev1_2, ev1_3, ev1_4, ev1_5, ev1_6, .ref ak1])), (ak0, .inr (0, [.int am0, ae0, .int 0])), (ak1, .inr (0, [.int am1, ae1, .int 0])), (sl, .inr (0, [.int sm, se, .int 0]))]) [0, 1, 2, 3, 4, 5, 6, 7] rfl
  have hKc := hK.sub (tys' := [(tE, .object RX3)]) [0] rfl
  have hFc := freeNil hS hA
  refine vx_calli (vx_runV (As := [.int a1, .int a2, .int a3]) (rest := [.int 0, .ref out]) ⟨hx, hb, hml, hown, ht⟩ (k_X11_item l hL d0 cO dC dI H.size h0 ea sl tca tmx tsv tE fE sm se fi fna fla fv2 fv3 fv4 fv5 e0 ak0 ei0 am0 ev0_1 ev0_2 ev0_3 ev0_4 ev0_5 ev0_6 ae0 e1 ak1 ei1 am1 ev1_1 ev1_2 ev1_3 ev1_4 ev1_5 ev1_6 ae1 hf0 hf1 a1 a2 a3) (my_V ht M_X11_item q1684 q1685 q1683 (Nat.le_of_ble_eq_true rfl) (Nat.le_of_ble_eq_true rfl)) ⟨PREp.fb, va_recv hK hP (ci := 12) (q0 := 0) rfl rfl, fun U hU hW => ⟨rfl, PREp.mk' hE hS hFc hPc hKc U hU hW⟩⟩ rfl rfl hl.1 rfl (lv_room (Nat.le_of_ble_eq_true rfl)) dL_item_7 ⟨(Nat.le_of_ble_eq_true rfl), (Nat.le_of_ble_eq_true rfl)⟩) hS (fun q _ h => hFc q h) hFc (fun q _ h => hFc q h) (fun E ce q9 ux t H1 locs htt hvm hw hB hz1 hk1 hS hcell hv9 hcl9 => ?_) (fun r2 u1 t H1 locs htt hvm hw hB hz1 hk1 hS => ?_)
  · skip
    obtain rfl : E = _ := hB
    generalize H1 = H at hS hcell ⊢
    have hP : va_P (dC, dI) vwCl [] H := va_P0
    refine vx_catch hown [] ⟨0, 12, 15, 20⟩ [] (htab.trans rfl) (fun z h => by simp at h) (by decide) (by decide) (ht _ q1120) (ht _ q1132) hcell hv9 hcl9 ?_
    refine W.eq (g2 := F0 m 15 ls [.ref q9]) rfl ?_
    refine lv_astore (lv' := [(5, .ref q9), (0, .ref h0), (1, .int a1), (2, .int a2), (3, .int a3), (4, .ref out)]) hx hb dL_item_15 hl (by decide) rfl (fun ls hl => ?_)
    refine lv_iconst (v := 1) hx hb dL_item_17 (by decide) ?_
    have hP9 := hP.sub (ws' := []) [] rfl
    have hK9 := hK.sub (tys' := [(tE, .object RX3)]) [0] rfl
    refine W.widen (k := 2) (n := 12) (Nat.le_of_ble_eq_true rfl) (Nat.le_of_ble_eq_true rfl) ?_
    refine vx_ret ?_
    exact W.iret (v := 1) hx hb hr (fun t ht9 hW9 => ⟨⟨1, (), rfl, rfl, ppk ht9 hP9⟩, hS.F ht9⟩) hS.2.2 dL_item_18
  · skip
    exact hw.elim
set_option maxHeartbeats 4000000 in
set_option maxRecDepth 100000 in
theorem k_L_value (l : Launch) (hL : l.stackTraces = false) (d0 : Nat) (cO : ClassId) (dC : Nat → ClassId) (dI : Nat → Nat → Nat) (sz : Nat) (h0 ea sl : Nat) (tca tmx tsv : Value) (tE : ClassId) (fE : Nat → Option Nat) (sm : Int32) (se : Value) (fi : Nat) (fna fla fv2 fv3 fv4 fv5 : Value) (e0 ak0 : Nat) (ei0 am0 : Int32) (ev0_1 ev0_2 ev0_3 ev0_4 ev0_5 ev0_6 ae0 : Value) (e1 ak1 : Nat) (ei1 am1 : Int32) (ev1_1 ev1_2 ev1_3 ev1_4 ev1_5 ev1_6 ae1 : Value) (hf0 : fE 0 = some e0) (hf1 : fE 1 = some e1) (a1 a2 a3 : Int32) (out : Nat) : vx_Met l yL_value (cnW yL_value cL_value 6 (some FieldType.int) [(0, 12, 15, 20)]) (rmd 8 2 12) (va_Pc [.ref h0, .int a1, .int a2, .int a3, .ref out] (PREp d0 cO (dC, dI) (va_A [] sz) [(h0, .inr (12, [.ref fi, tca, .ref ea, .ref sl, tmx, tsv])), (fi, .inr (5, [fna, fla, fv2, fv3, fv4, fv5, .int 0])), (ea, .inl (tE, 2, .inr (.inr (.inr (.inr fE))))), (e0, .inr (4, [.int ei0, ev0_1, ev0_2, ev0_3, ev0_4, ev0_5, ev0_6, .ref ak0])), (e1, .inr (4, [.int ei1, ev1_1, ev1_2, ev1_3, ev1_4, ev1_5, ev1_6, .ref ak1])), (ak0, .inr (0, [.int am0, ae0, .int 0])), (ak1, .inr (0, [.int am1, ae1, .int 0])), (sl, .inr (0, [.int sm, se, .int 0]))] [(tE, .object RX3)] sz)) (va_Qi (fun (r : Int32) (_ : Unit) => r = 1) (fun (_ : Unit) (t : State) => va_P (dC, dI) vwCl [] t.heap) (va_A [] sz)) (vx_X (fun _ : Unit => True) (fun E _ _ => False) (va_A [] sz)) 2 12 (va_A [] sz) := by
  refine vx_ofWH (cc := cL_value) (maxL := 6) (ret := (some FieldType.int)) (hh := [(0, 12, 15, 20)]) (by decide) rfl ?_
  intro p e s m args below meth c s₁ B hml hv
  obtain ⟨rfl, hsz, hE, hP, hK⟩ := hv
  have hx := B.exec
  have hb := B.bytes
  have hr := B.returns
  have hts := atoms_spec (ws := cnW yL_value cL_value 6 (some FieldType.int) [(0, 12, 15, 20)]) B.pre
  have ht : ∀ w ∈ GT, w.before _ s = true := fun w h => hts w (List.mem_cons_of_mem _ h)
  have htab := vx_table (x := yL_value) B (hts _ List.mem_cons_self)
  have hown : s.vm.findClass RL = some m.cls := findClass_of_methodNamed B.named
  have hlocks := B.notSynchronized
  subst hsz
  generalize hAe : va_A [] s.heap.size = A at hE ⊢
  have hA : ∀ q : Nat, s.heap.size ≤ q → A q := fun q h => by rw [← hAe]; exact Or.inr h
  obtain ⟨H, hH0⟩ : ∃ H, s.heap = H := ⟨_, rfl⟩
  have hS : va_S A s.heap H [] := by rw [← hH0]; exact va_S.rf
  rw [hH0] at hP
  have hl := lv_entry ([.ref h0, .int a1, .int a2, .int a3, .ref out]) (n := 6) (Nat.le_of_ble_eq_true rfl)
  rw [lg_entry_eq]
  generalize (lg_sl ([.ref h0, .int a1, .int a2, .int a3, .ref out]) ++ List.replicate (6 - (lg_sl ([.ref h0, .int a1, .int a2, .int a3, .ref out])).length) Slot.unset).toArray = ls at hl ⊢
  have hl : lv_has ls 6 [(0, .ref h0), (1, .int a1), (2, .int a2), (3, .int a3), (4, .ref out)] := hl
  rw [hH0]
  refine lv_aload hx hb dL_value_0 (lv_at hl 4 rfl) ?_
  refine lv_iconst (v := 0) hx hb dL_value_2 (by decide) ?_
  refine lv_aload_n hx hb dL_value_3 rfl (lv_at hl 0 rfl) ?_
  refine lv_iload_n hx hb dL_value_4 rfl (lv_at hl 1 rfl) ?_
  refine lv_iload_n hx hb dL_value_5 rfl (lv_at hl 2 rfl) ?_
  refine lv_iload_n hx hb dL_value_6 rfl (lv_at hl 3 rfl) ?_
  have hPc := hP.sub (ws' := [(h0, .inr (12, [.ref fi, tca, .ref ea, .ref sl, tmx, tsv])), (fi, .inr (5, [fna, fla, fv2, fv3, fv4, fv5, .int 0])), (ea, .inl (tE, 2, .inr (.inr (.inr (.inr fE))))), (e0, .inr (4, [.int ei0, ev0_1, ev0_2, ev0_3, ev0_4, ev0_5, ev0_6, .ref ak0])), (e1, .inr (4, [.int ei1, ev1_1, ev1_2, ev1_3, ev1_4, ev1_5, ev1_6, .ref ak1])), (ak0, .inr (0, [.int am0, ae0, .int 0])), (ak1, .inr (0, [.int am1, ae1, .int 0])), (sl, .inr (0, [.int sm, se, .int 0]))]) [0, 1, 2, 3, 4, 5, 6, 7] rfl
  have hKc := hK.sub (tys' := [(tE, .object RX3)]) [0] rfl
  have hFc := freeNil hS hA
  refine vx_calli (vx_runV (As := [.int a1, .int a2, .int a3]) (rest := [.int 0, .ref out]) ⟨hx, hb, hml, hown, ht⟩ (k_X11_value l hL d0 cO dC dI H.size h0 ea sl tca tmx tsv tE fE sm se fi fna fla fv2 fv3 fv4 fv5 e0 ak0 ei0 am0 ev0_1 ev0_2 ev0_3 ev0_4 ev0_5 ev0_6 ae0 e1 ak1 ei1 am1 ev1_1 ev1_2 ev1_3 ev1_4 ev1_5 ev1_6 ae1 hf0 hf1 a1 a2 a3) (my_V ht M_X11_value q1700 q1701 q1699 (Nat.le_of_ble_eq_true rfl) (Nat.le_of_ble_eq_true rfl)) ⟨PREp.fb, va_recv hK hP (ci := 12) (q0 := 0) rfl rfl, fun U hU hW => ⟨rfl, PREp.mk' hE hS hFc hPc hKc U hU hW⟩⟩ rfl rfl hl.1 rfl (lv_room (Nat.le_of_ble_eq_true rfl)) dL_value_7 ⟨(Nat.le_of_ble_eq_true rfl), (Nat.le_of_ble_eq_true rfl)⟩) hS (fun q _ h => hFc q h) hFc (fun q _ h => hFc q h) (fun E ce q9 ux t H1 locs htt hvm hw hB hz1 hk1 hS hcell hv9 hcl9 => ?_) (fun r2 u1 t H1 locs htt hvm hw hB hz1 hk1 hS => ?_)
  · skip
    obtain rfl : E = _ := hB
    generalize H1 = H at hS hcell ⊢
    have hP : va_P (dC, dI) vwCl [] H := va_P0
    refine vx_catch hown [] ⟨0, 12, 15, 20⟩ [] (htab.trans rfl) (fun z h => by simp at h) (by decide) (by decide) (ht _ q1120) (ht _ q1132) hcell hv9 hcl9 ?_
    refine W.eq (g2 := F0 m 15 ls [.ref q9]) rfl ?_
    refine lv_astore (lv' := [(5, .ref q9), (0, .ref h0), (1, .int a1), (2, .int a2), (3, .int a3), (4, .ref out)]) hx hb dL_value_15 hl (by decide) rfl (fun ls hl => ?_)
    refine lv_iconst (v := 1) hx hb dL_value_17 (by decide) ?_
    have hP9 := hP.sub (ws' := []) [] rfl
    have hK9 := hK.sub (tys' := [(tE, .object RX3)]) [0] rfl
    refine W.widen (k := 2) (n := 12) (Nat.le_of_ble_eq_true rfl) (Nat.le_of_ble_eq_true rfl) ?_
    refine vx_ret ?_
    exact W.iret (v := 1) hx hb hr (fun t ht9 hW9 => ⟨⟨1, (), rfl, rfl, ppk ht9 hP9⟩, hS.F ht9⟩) hS.2.2 dL_value_18
  · skip
    exact hw.elim
set_option maxHeartbeats 4000000 in
set_option maxRecDepth 100000 in
theorem k_L_token (l : Launch) (hL : l.stackTraces = false) (d0 : Nat) (cO : ClassId) (dC : Nat → ClassId) (dI : Nat → Nat → Nat) (sz : Nat) (h0 ea sl : Nat) (tca tmx tsv : Value) (tE : ClassId) (fE : Nat → Option Nat) (sm : Int32) (se : Value) (fi : Nat) (fna fla fv2 fv3 fv4 fv5 : Value) (e0 ak0 : Nat) (ei0 am0 : Int32) (ev0_1 ev0_2 ev0_3 ev0_4 ev0_5 ev0_6 ae0 : Value) (e1 ak1 : Nat) (ei1 am1 : Int32) (ev1_1 ev1_2 ev1_3 ev1_4 ev1_5 ev1_6 ae1 : Value) (hf0 : fE 0 = some e0) (hf1 : fE 1 = some e1) (a1 a2 a3 : Int32) (out : Nat) : vx_Met l yL_token (cnW yL_token cL_token 6 (some FieldType.int) [(0, 12, 15, 20)]) (rmd 8 2 12) (va_Pc [.ref h0, .int a1, .int a2, .int a3, .ref out] (PREp d0 cO (dC, dI) (va_A [] sz) [(h0, .inr (12, [.ref fi, tca, .ref ea, .ref sl, tmx, tsv])), (fi, .inr (5, [fna, fla, fv2, fv3, fv4, fv5, .int 0])), (ea, .inl (tE, 2, .inr (.inr (.inr (.inr fE))))), (e0, .inr (4, [.int ei0, ev0_1, ev0_2, ev0_3, ev0_4, ev0_5, ev0_6, .ref ak0])), (e1, .inr (4, [.int ei1, ev1_1, ev1_2, ev1_3, ev1_4, ev1_5, ev1_6, .ref ak1])), (ak0, .inr (0, [.int am0, ae0, .int 0])), (ak1, .inr (0, [.int am1, ae1, .int 0])), (sl, .inr (0, [.int sm, se, .int 0]))] [(tE, .object RX3)] sz)) (va_Qi (fun (r : Int32) (_ : Unit) => r = 1) (fun (_ : Unit) (t : State) => va_P (dC, dI) vwCl [] t.heap) (va_A [] sz)) (vx_X (fun _ : Unit => True) (fun E _ _ => False) (va_A [] sz)) 2 12 (va_A [] sz) := by
  refine vx_ofWH (cc := cL_token) (maxL := 6) (ret := (some FieldType.int)) (hh := [(0, 12, 15, 20)]) (by decide) rfl ?_
  intro p e s m args below meth c s₁ B hml hv
  obtain ⟨rfl, hsz, hE, hP, hK⟩ := hv
  have hx := B.exec
  have hb := B.bytes
  have hr := B.returns
  have hts := atoms_spec (ws := cnW yL_token cL_token 6 (some FieldType.int) [(0, 12, 15, 20)]) B.pre
  have ht : ∀ w ∈ GT, w.before _ s = true := fun w h => hts w (List.mem_cons_of_mem _ h)
  have htab := vx_table (x := yL_token) B (hts _ List.mem_cons_self)
  have hown : s.vm.findClass RL = some m.cls := findClass_of_methodNamed B.named
  have hlocks := B.notSynchronized
  subst hsz
  generalize hAe : va_A [] s.heap.size = A at hE ⊢
  have hA : ∀ q : Nat, s.heap.size ≤ q → A q := fun q h => by rw [← hAe]; exact Or.inr h
  obtain ⟨H, hH0⟩ : ∃ H, s.heap = H := ⟨_, rfl⟩
  have hS : va_S A s.heap H [] := by rw [← hH0]; exact va_S.rf
  rw [hH0] at hP
  have hl := lv_entry ([.ref h0, .int a1, .int a2, .int a3, .ref out]) (n := 6) (Nat.le_of_ble_eq_true rfl)
  rw [lg_entry_eq]
  generalize (lg_sl ([.ref h0, .int a1, .int a2, .int a3, .ref out]) ++ List.replicate (6 - (lg_sl ([.ref h0, .int a1, .int a2, .int a3, .ref out])).length) Slot.unset).toArray = ls at hl ⊢
  have hl : lv_has ls 6 [(0, .ref h0), (1, .int a1), (2, .int a2), (3, .int a3), (4, .ref out)] := hl
  rw [hH0]
  refine lv_aload hx hb dL_token_0 (lv_at hl 4 rfl) ?_
  refine lv_iconst (v := 0) hx hb dL_token_2 (by decide) ?_
  refine lv_aload_n hx hb dL_token_3 rfl (lv_at hl 0 rfl) ?_
  refine lv_iload_n hx hb dL_token_4 rfl (lv_at hl 1 rfl) ?_
  refine lv_iload_n hx hb dL_token_5 rfl (lv_at hl 2 rfl) ?_
  refine lv_iload_n hx hb dL_token_6 rfl (lv_at hl 3 rfl) ?_
  have hPc := hP.sub (ws' := [(h0, .inr (12, [.ref fi, tca, .ref ea, .ref sl, tmx, tsv])), (fi, .inr (5, [fna, fla, fv2, fv3, fv4, fv5, .int 0])), (ea, .inl (tE, 2, .inr (.inr (.inr (.inr fE))))), (e0, .inr (4, [.int ei0, ev0_1, ev0_2, ev0_3, ev0_4, ev0_5, ev0_6, .ref ak0])), (e1, .inr (4, [.int ei1, ev1_1, ev1_2, ev1_3, ev1_4, ev1_5, ev1_6, .ref ak1])), (ak0, .inr (0, [.int am0, ae0, .int 0])), (ak1, .inr (0, [.int am1, ae1, .int 0])), (sl, .inr (0, [.int sm, se, .int 0]))]) [0, 1, 2, 3, 4, 5, 6, 7] rfl
  have hKc := hK.sub (tys' := [(tE, .object RX3)]) [0] rfl
  have hFc := freeNil hS hA
  refine vx_calli (vx_runV (As := [.int a1, .int a2, .int a3]) (rest := [.int 0, .ref out]) ⟨hx, hb, hml, hown, ht⟩ (k_X11_token l hL d0 cO dC dI H.size h0 ea sl tca tmx tsv tE fE sm se fi fna fla fv2 fv3 fv4 fv5 e0 ak0 ei0 am0 ev0_1 ev0_2 ev0_3 ev0_4 ev0_5 ev0_6 ae0 e1 ak1 ei1 am1 ev1_1 ev1_2 ev1_3 ev1_4 ev1_5 ev1_6 ae1 hf0 hf1 a1 a2 a3) (my_V ht M_X11_token q1708 q1709 q1707 (Nat.le_of_ble_eq_true rfl) (Nat.le_of_ble_eq_true rfl)) ⟨PREp.fb, va_recv hK hP (ci := 12) (q0 := 0) rfl rfl, fun U hU hW => ⟨rfl, PREp.mk' hE hS hFc hPc hKc U hU hW⟩⟩ rfl rfl hl.1 rfl (lv_room (Nat.le_of_ble_eq_true rfl)) dL_token_7 ⟨(Nat.le_of_ble_eq_true rfl), (Nat.le_of_ble_eq_true rfl)⟩) hS (fun q _ h => hFc q h) hFc (fun q _ h => hFc q h) (fun E ce q9 ux t H1 locs htt hvm hw hB hz1 hk1 hS hcell hv9 hcl9 => ?_) (fun r2 u1 t H1 locs htt hvm hw hB hz1 hk1 hS => ?_)
  · skip
    obtain rfl : E = _ := hB
    generalize H1 = H at hS hcell ⊢
    have hP : va_P (dC, dI) vwCl [] H := va_P0
    refine vx_catch hown [] ⟨0, 12, 15, 20⟩ [] (htab.trans rfl) (fun z h => by simp at h) (by decide) (by decide) (ht _ q1120) (ht _ q1132) hcell hv9 hcl9 ?_
    refine W.eq (g2 := F0 m 15 ls [.ref q9]) rfl ?_
    refine lv_astore (lv' := [(5, .ref q9), (0, .ref h0), (1, .int a1), (2, .int a2), (3, .int a3), (4, .ref out)]) hx hb dL_token_15 hl (by decide) rfl (fun ls hl => ?_)
    refine lv_iconst (v := 1) hx hb dL_token_17 (by decide) ?_
    have hP9 := hP.sub (ws' := []) [] rfl
    have hK9 := hK.sub (tys' := [(tE, .object RX3)]) [0] rfl
    refine W.widen (k := 2) (n := 12) (Nat.le_of_ble_eq_true rfl) (Nat.le_of_ble_eq_true rfl) ?_
    refine vx_ret ?_
    exact W.iret (v := 1) hx hb hr (fun t ht9 hW9 => ⟨⟨1, (), rfl, rfl, ppk ht9 hP9⟩, hS.F ht9⟩) hS.2.2 dL_token_18
  · skip
    exact hw.elim
set_option maxHeartbeats 4000000 in
set_option maxRecDepth 100000 in
theorem k_L_id (l : Launch) (hL : l.stackTraces = false) (d0 : Nat) (cO : ClassId) (dC : Nat → ClassId) (dI : Nat → Nat → Nat) (sz : Nat) (h0 ea sl : Nat) (tca tmx tsv : Value) (tE : ClassId) (fE : Nat → Option Nat) (sm : Int32) (se : Value) (fi : Nat) (fna fla fv2 fv3 fv4 fv5 : Value) (e0 ak0 : Nat) (ei0 am0 : Int32) (ev0_1 ev0_2 ev0_3 ev0_4 ev0_5 ev0_6 ae0 : Value) (e1 ak1 : Nat) (ei1 am1 : Int32) (ev1_1 ev1_2 ev1_3 ev1_4 ev1_5 ev1_6 ae1 : Value) (hf0 : fE 0 = some e0) (hf1 : fE 1 = some e1) (a1 a2 a3 : Int32) (out : Nat) : vx_Met l yL_id (cnW yL_id cL_id 6 (some FieldType.int) [(0, 12, 15, 20)]) (rmd 8 2 12) (va_Pc [.ref h0, .int a1, .int a2, .int a3, .ref out] (PREp d0 cO (dC, dI) (va_A [] sz) [(h0, .inr (12, [.ref fi, tca, .ref ea, .ref sl, tmx, tsv])), (fi, .inr (5, [fna, fla, fv2, fv3, fv4, fv5, .int 0])), (ea, .inl (tE, 2, .inr (.inr (.inr (.inr fE))))), (e0, .inr (4, [.int ei0, ev0_1, ev0_2, ev0_3, ev0_4, ev0_5, ev0_6, .ref ak0])), (e1, .inr (4, [.int ei1, ev1_1, ev1_2, ev1_3, ev1_4, ev1_5, ev1_6, .ref ak1])), (ak0, .inr (0, [.int am0, ae0, .int 0])), (ak1, .inr (0, [.int am1, ae1, .int 0])), (sl, .inr (0, [.int sm, se, .int 0]))] [(tE, .object RX3)] sz)) (va_Qi (fun (r : Int32) (_ : Unit) => r = 1) (fun (_ : Unit) (t : State) => va_P (dC, dI) vwCl [] t.heap) (va_A [] sz)) (vx_X (fun _ : Unit => True) (fun E _ _ => False) (va_A [] sz)) 2 12 (va_A [] sz) := by
  refine vx_ofWH (cc := cL_id) (maxL := 6) (ret := (some FieldType.int)) (hh := [(0, 12, 15, 20)]) (by decide) rfl ?_
  intro p e s m args below meth c s₁ B hml hv
  obtain ⟨rfl, hsz, hE, hP, hK⟩ := hv
  have hx := B.exec
  have hb := B.bytes
  have hr := B.returns
  have hts := atoms_spec (ws := cnW yL_id cL_id 6 (some FieldType.int) [(0, 12, 15, 20)]) B.pre
  have ht : ∀ w ∈ GT, w.before _ s = true := fun w h => hts w (List.mem_cons_of_mem _ h)
  have htab := vx_table (x := yL_id) B (hts _ List.mem_cons_self)
  have hown : s.vm.findClass RL = some m.cls := findClass_of_methodNamed B.named
  have hlocks := B.notSynchronized
  subst hsz
  generalize hAe : va_A [] s.heap.size = A at hE ⊢
  have hA : ∀ q : Nat, s.heap.size ≤ q → A q := fun q h => by rw [← hAe]; exact Or.inr h
  obtain ⟨H, hH0⟩ : ∃ H, s.heap = H := ⟨_, rfl⟩
  have hS : va_S A s.heap H [] := by rw [← hH0]; exact va_S.rf
  rw [hH0] at hP
  have hl := lv_entry ([.ref h0, .int a1, .int a2, .int a3, .ref out]) (n := 6) (Nat.le_of_ble_eq_true rfl)
  rw [lg_entry_eq]
  generalize (lg_sl ([.ref h0, .int a1, .int a2, .int a3, .ref out]) ++ List.replicate (6 - (lg_sl ([.ref h0, .int a1, .int a2, .int a3, .ref out])).length) Slot.unset).toArray = ls at hl ⊢
  have hl : lv_has ls 6 [(0, .ref h0), (1, .int a1), (2, .int a2), (3, .int a3), (4, .ref out)] := hl
  rw [hH0]
  refine lv_aload hx hb dL_id_0 (lv_at hl 4 rfl) ?_
  refine lv_iconst (v := 0) hx hb dL_id_2 (by decide) ?_
  refine lv_aload_n hx hb dL_id_3 rfl (lv_at hl 0 rfl) ?_
  refine lv_iload_n hx hb dL_id_4 rfl (lv_at hl 1 rfl) ?_
  refine lv_iload_n hx hb dL_id_5 rfl (lv_at hl 2 rfl) ?_
  refine lv_iload_n hx hb dL_id_6 rfl (lv_at hl 3 rfl) ?_
  have hPc := hP.sub (ws' := [(h0, .inr (12, [.ref fi, tca, .ref ea, .ref sl, tmx, tsv])), (fi, .inr (5, [fna, fla, fv2, fv3, fv4, fv5, .int 0])), (ea, .inl (tE, 2, .inr (.inr (.inr (.inr fE))))), (e0, .inr (4, [.int ei0, ev0_1, ev0_2, ev0_3, ev0_4, ev0_5, ev0_6, .ref ak0])), (e1, .inr (4, [.int ei1, ev1_1, ev1_2, ev1_3, ev1_4, ev1_5, ev1_6, .ref ak1])), (ak0, .inr (0, [.int am0, ae0, .int 0])), (ak1, .inr (0, [.int am1, ae1, .int 0])), (sl, .inr (0, [.int sm, se, .int 0]))]) [0, 1, 2, 3, 4, 5, 6, 7] rfl
  have hKc := hK.sub (tys' := [(tE, .object RX3)]) [0] rfl
  have hFc := freeNil hS hA
  refine vx_calli (vx_runV (As := [.int a1, .int a2, .int a3]) (rest := [.int 0, .ref out]) ⟨hx, hb, hml, hown, ht⟩ (k_X11_id l hL d0 cO dC dI H.size h0 ea sl tca tmx tsv tE fE sm se fi fna fla fv2 fv3 fv4 fv5 e0 ak0 ei0 am0 ev0_1 ev0_2 ev0_3 ev0_4 ev0_5 ev0_6 ae0 e1 ak1 ei1 am1 ev1_1 ev1_2 ev1_3 ev1_4 ev1_5 ev1_6 ae1 hf0 hf1 a1 a2 a3) (my_V ht M_X11_id q1721 q1722 q1720 (Nat.le_of_ble_eq_true rfl) (Nat.le_of_ble_eq_true rfl)) ⟨PREp.fb, va_recv hK hP (ci := 12) (q0 := 0) rfl rfl, fun U hU hW => ⟨rfl, PREp.mk' hE hS hFc hPc hKc U hU hW⟩⟩ rfl rfl hl.1 rfl (lv_room (Nat.le_of_ble_eq_true rfl)) dL_id_7 ⟨(Nat.le_of_ble_eq_true rfl), (Nat.le_of_ble_eq_true rfl)⟩) hS (fun q _ h => hFc q h) hFc (fun q _ h => hFc q h) (fun E ce q9 ux t H1 locs htt hvm hw hB hz1 hk1 hS hcell hv9 hcl9 => ?_) (fun r2 u1 t H1 locs htt hvm hw hB hz1 hk1 hS => ?_)
  · skip
    obtain rfl : E = _ := hB
    generalize H1 = H at hS hcell ⊢
    have hP : va_P (dC, dI) vwCl [] H := va_P0
    refine vx_catch hown [] ⟨0, 12, 15, 20⟩ [] (htab.trans rfl) (fun z h => by simp at h) (by decide) (by decide) (ht _ q1120) (ht _ q1132) hcell hv9 hcl9 ?_
    refine W.eq (g2 := F0 m 15 ls [.ref q9]) rfl ?_
    refine lv_astore (lv' := [(5, .ref q9), (0, .ref h0), (1, .int a1), (2, .int a2), (3, .int a3), (4, .ref out)]) hx hb dL_id_15 hl (by decide) rfl (fun ls hl => ?_)
    refine lv_iconst (v := 1) hx hb dL_id_17 (by decide) ?_
    have hP9 := hP.sub (ws' := []) [] rfl
    have hK9 := hK.sub (tys' := [(tE, .object RX3)]) [0] rfl
    refine W.widen (k := 2) (n := 12) (Nat.le_of_ble_eq_true rfl) (Nat.le_of_ble_eq_true rfl) ?_
    refine vx_ret ?_
    exact W.iret (v := 1) hx hb hr (fun t ht9 hW9 => ⟨⟨1, (), rfl, rfl, ppk ht9 hP9⟩, hS.F ht9⟩) hS.2.2 dL_id_18
  · skip
    exact hw.elim
set_option maxHeartbeats 4000000 in
set_option maxRecDepth 100000 in
theorem k_L_faults (l : Launch) (hL : l.stackTraces = false) (d0 : Nat) (cO : ClassId) (dC : Nat → ClassId) (dI : Nat → Nat → Nat) (sz : Nat) (h0 ea sl : Nat) (tca tmx tsv : Value) (tE : ClassId) (fE : Nat → Option Nat) (sm : Int32) (se : Value) (fi : Nat) (fna fla fv2 fv3 fv4 fv5 : Value) (e0 ak0 : Nat) (ei0 am0 : Int32) (ev0_1 ev0_2 ev0_3 ev0_4 ev0_5 ev0_6 ae0 : Value) (e1 ak1 : Nat) (ei1 am1 : Int32) (ev1_1 ev1_2 ev1_3 ev1_4 ev1_5 ev1_6 ae1 : Value) (hf0 : fE 0 = some e0) (hf1 : fE 1 = some e1) (a1 a2 : Int32) (out : Nat) : vx_Met l yL_faults (cnW yL_faults cL_faults 5 (some FieldType.int) [(0, 10, 13, 20)]) (rmd 8 2 12) (va_Pc [.ref h0, .int a1, .int a2, .ref out] (PREp d0 cO (dC, dI) (va_A [] sz) [(h0, .inr (12, [.ref fi, tca, .ref ea, .ref sl, tmx, tsv])), (fi, .inr (5, [fna, fla, fv2, fv3, fv4, fv5, .int 0])), (ea, .inl (tE, 2, .inr (.inr (.inr (.inr fE))))), (e0, .inr (4, [.int ei0, ev0_1, ev0_2, ev0_3, ev0_4, ev0_5, ev0_6, .ref ak0])), (e1, .inr (4, [.int ei1, ev1_1, ev1_2, ev1_3, ev1_4, ev1_5, ev1_6, .ref ak1])), (ak0, .inr (0, [.int am0, ae0, .int 0])), (ak1, .inr (0, [.int am1, ae1, .int 0])), (sl, .inr (0, [.int sm, se, .int 0]))] [(tE, .object RX3)] sz)) (va_Qi (fun (r : Int32) (_ : Unit) => r = 1) (fun (_ : Unit) (t : State) => va_P (dC, dI) vwCl [] t.heap) (va_A [] sz)) (vx_X (fun _ : Unit => True) (fun E _ _ => False) (va_A [] sz)) 2 12 (va_A [] sz) := by
  refine vx_ofWH (cc := cL_faults) (maxL := 5) (ret := (some FieldType.int)) (hh := [(0, 10, 13, 20)]) (by decide) rfl ?_
  intro p e s m args below meth c s₁ B hml hv
  obtain ⟨rfl, hsz, hE, hP, hK⟩ := hv
  have hx := B.exec
  have hb := B.bytes
  have hr := B.returns
  have hts := atoms_spec (ws := cnW yL_faults cL_faults 5 (some FieldType.int) [(0, 10, 13, 20)]) B.pre
  have ht : ∀ w ∈ GT, w.before _ s = true := fun w h => hts w (List.mem_cons_of_mem _ h)
  have htab := vx_table (x := yL_faults) B (hts _ List.mem_cons_self)
  have hown : s.vm.findClass RL = some m.cls := findClass_of_methodNamed B.named
  have hlocks := B.notSynchronized
  subst hsz
  generalize hAe : va_A [] s.heap.size = A at hE ⊢
  have hA : ∀ q : Nat, s.heap.size ≤ q → A q := fun q h => by rw [← hAe]; exact Or.inr h
  obtain ⟨H, hH0⟩ : ∃ H, s.heap = H := ⟨_, rfl⟩
  have hS : va_S A s.heap H [] := by rw [← hH0]; exact va_S.rf
  rw [hH0] at hP
  have hl := lv_entry ([.ref h0, .int a1, .int a2, .ref out]) (n := 5) (Nat.le_of_ble_eq_true rfl)
  rw [lg_entry_eq]
  generalize (lg_sl ([.ref h0, .int a1, .int a2, .ref out]) ++ List.replicate (5 - (lg_sl ([.ref h0, .int a1, .int a2, .ref out])).length) Slot.unset).toArray = ls at hl ⊢
  have hl : lv_has ls 5 [(0, .ref h0), (1, .int a1), (2, .int a2), (3, .ref out)] := hl
  rw [hH0]
  refine lv_aload_n hx hb dL_faults_0 rfl (lv_at hl 3 rfl) ?_
  refine lv_iconst (v := 0) hx hb dL_faults_1 (by decide) ?_
  refine lv_aload_n hx hb dL_faults_2 rfl (lv_at hl 0 rfl) ?_
  refine lv_iload_n hx hb dL_faults_3 rfl (lv_at hl 1 rfl) ?_
  refine lv_iload_n hx hb dL_faults_4 rfl (lv_at hl 2 rfl) ?_
  have hPc := hP.sub (ws' := [(h0, .inr (12, [.ref fi, tca, .ref ea, .ref sl, tmx, tsv])), (fi, .inr (5, [fna, fla, fv2, fv3, fv4, fv5, .int 0])), (ea, .inl (tE, 2, .inr (.inr (.inr (.inr fE))))), (e0, .inr (4, [.int ei0, ev0_1, ev0_2, ev0_3, ev0_4, ev0_5, ev0_6, .ref ak0])), (e1, .inr (4, [.int ei1, ev1_1, ev1_2, ev1_3, ev1_4, ev1_5, ev1_6, .ref ak1])), (ak0, .inr (0, [.int am0, ae0, .int 0])), (ak1, .inr (0, [.int am1, ae1, .int 0])), (sl, .inr (0, [.int sm, se, .int 0]))]) [0, 1, 2, 3, 4, 5, 6, 7] rfl
  have hKc := hK.sub (tys' := [(tE, .object RX3)]) [0] rfl
  have hFc := freeNil hS hA
  refine vx_calli (vx_runV (As := [.int a1, .int a2]) (rest := [.int 0, .ref out]) ⟨hx, hb, hml, hown, ht⟩ (k_X11_faults l hL d0 cO dC dI H.size h0 ea sl tca tmx tsv tE fE sm se fi fna fla fv2 fv3 fv4 fv5 e0 ak0 ei0 am0 ev0_1 ev0_2 ev0_3 ev0_4 ev0_5 ev0_6 ae0 e1 ak1 ei1 am1 ev1_1 ev1_2 ev1_3 ev1_4 ev1_5 ev1_6 ae1 hf0 hf1 a1 a2) (my_V ht M_X11_faults q1729 q1730 q1728 (Nat.le_of_ble_eq_true rfl) (Nat.le_of_ble_eq_true rfl)) ⟨PREp.fb, va_recv hK hP (ci := 12) (q0 := 0) rfl rfl, fun U hU hW => ⟨rfl, PREp.mk' hE hS hFc hPc hKc U hU hW⟩⟩ rfl rfl hl.1 rfl (lv_room (Nat.le_of_ble_eq_true rfl)) dL_faults_5 ⟨(Nat.le_of_ble_eq_true rfl), (Nat.le_of_ble_eq_true rfl)⟩) hS (fun q _ h => hFc q h) hFc (fun q _ h => hFc q h) (fun E ce q9 ux t H1 locs htt hvm hw hB hz1 hk1 hS hcell hv9 hcl9 => ?_) (fun r2 u1 t H1 locs htt hvm hw hB hz1 hk1 hS => ?_)
  · skip
    obtain rfl : E = _ := hB
    generalize H1 = H at hS hcell ⊢
    have hP : va_P (dC, dI) vwCl [] H := va_P0
    refine vx_catch hown [] ⟨0, 10, 13, 20⟩ [] (htab.trans rfl) (fun z h => by simp at h) (by decide) (by decide) (ht _ q1120) (ht _ q1132) hcell hv9 hcl9 ?_
    refine W.eq (g2 := F0 m 13 ls [.ref q9]) rfl ?_
    refine lv_astore (lv' := [(4, .ref q9), (0, .ref h0), (1, .int a1), (2, .int a2), (3, .ref out)]) hx hb dL_faults_13 hl (by decide) rfl (fun ls hl => ?_)
    refine lv_iconst (v := 1) hx hb dL_faults_15 (by decide) ?_
    have hP9 := hP.sub (ws' := []) [] rfl
    have hK9 := hK.sub (tys' := [(tE, .object RX3)]) [0] rfl
    refine W.widen (k := 2) (n := 12) (Nat.le_of_ble_eq_true rfl) (Nat.le_of_ble_eq_true rfl) ?_
    refine vx_ret ?_
    exact W.iret (v := 1) hx hb hr (fun t ht9 hW9 => ⟨⟨1, (), rfl, rfl, ppk ht9 hP9⟩, hS.F ht9⟩) hS.2.2 dL_faults_16
  · skip
    exact hw.elim
set_option maxHeartbeats 4000000 in
set_option maxRecDepth 100000 in
theorem k_L_fault (l : Launch) (hL : l.stackTraces = false) (d0 : Nat) (cO : ClassId) (dC : Nat → ClassId) (dI : Nat → Nat → Nat) (sz : Nat) (h0 ea sl : Nat) (tca tmx tsv : Value) (tE : ClassId) (fE : Nat → Option Nat) (sm : Int32) (se : Value) (fi : Nat) (fna fla fv2 fv3 fv4 fv5 : Value) (e0 ak0 : Nat) (ei0 am0 : Int32) (ev0_1 ev0_2 ev0_3 ev0_4 ev0_5 ev0_6 ae0 : Value) (e1 ak1 : Nat) (ei1 am1 : Int32) (ev1_1 ev1_2 ev1_3 ev1_4 ev1_5 ev1_6 ae1 : Value) (hf0 : fE 0 = some e0) (hf1 : fE 1 = some e1) (a1 a2 a3 : Int32) (out : Nat) : vx_Met l yL_fault (cnW yL_fault cL_fault 6 (some FieldType.int) [(0, 12, 15, 20)]) (rmd 8 2 12) (va_Pc [.ref h0, .int a1, .int a2, .int a3, .ref out] (PREp d0 cO (dC, dI) (va_A [] sz) [(h0, .inr (12, [.ref fi, tca, .ref ea, .ref sl, tmx, tsv])), (fi, .inr (5, [fna, fla, fv2, fv3, fv4, fv5, .int 0])), (ea, .inl (tE, 2, .inr (.inr (.inr (.inr fE))))), (e0, .inr (4, [.int ei0, ev0_1, ev0_2, ev0_3, ev0_4, ev0_5, ev0_6, .ref ak0])), (e1, .inr (4, [.int ei1, ev1_1, ev1_2, ev1_3, ev1_4, ev1_5, ev1_6, .ref ak1])), (ak0, .inr (0, [.int am0, ae0, .int 0])), (ak1, .inr (0, [.int am1, ae1, .int 0])), (sl, .inr (0, [.int sm, se, .int 0]))] [(tE, .object RX3)] sz)) (va_Qi (fun (r : Int32) (_ : Unit) => r = 1) (fun (_ : Unit) (t : State) => va_P (dC, dI) vwCl [] t.heap) (va_A [] sz)) (vx_X (fun _ : Unit => True) (fun E _ _ => False) (va_A [] sz)) 2 12 (va_A [] sz) := by
  refine vx_ofWH (cc := cL_fault) (maxL := 6) (ret := (some FieldType.int)) (hh := [(0, 12, 15, 20)]) (by decide) rfl ?_
  intro p e s m args below meth c s₁ B hml hv
  obtain ⟨rfl, hsz, hE, hP, hK⟩ := hv
  have hx := B.exec
  have hb := B.bytes
  have hr := B.returns
  have hts := atoms_spec (ws := cnW yL_fault cL_fault 6 (some FieldType.int) [(0, 12, 15, 20)]) B.pre
  have ht : ∀ w ∈ GT, w.before _ s = true := fun w h => hts w (List.mem_cons_of_mem _ h)
  have htab := vx_table (x := yL_fault) B (hts _ List.mem_cons_self)
  have hown : s.vm.findClass RL = some m.cls := findClass_of_methodNamed B.named
  have hlocks := B.notSynchronized
  subst hsz
  generalize hAe : va_A [] s.heap.size = A at hE ⊢
  have hA : ∀ q : Nat, s.heap.size ≤ q → A q := fun q h => by rw [← hAe]; exact Or.inr h
  obtain ⟨H, hH0⟩ : ∃ H, s.heap = H := ⟨_, rfl⟩
  have hS : va_S A s.heap H [] := by rw [← hH0]; exact va_S.rf
  rw [hH0] at hP
  have hl := lv_entry ([.ref h0, .int a1, .int a2, .int a3, .ref out]) (n := 6) (Nat.le_of_ble_eq_true rfl)
  rw [lg_entry_eq]
  generalize (lg_sl ([.ref h0, .int a1, .int a2, .int a3, .ref out]) ++ List.replicate (6 - (lg_sl ([.ref h0, .int a1, .int a2, .int a3, .ref out])).length) Slot.unset).toArray = ls at hl ⊢
  have hl : lv_has ls 6 [(0, .ref h0), (1, .int a1), (2, .int a2), (3, .int a3), (4, .ref out)] := hl
  rw [hH0]
  refine lv_aload hx hb dL_fault_0 (lv_at hl 4 rfl) ?_
  refine lv_iconst (v := 0) hx hb dL_fault_2 (by decide) ?_
  refine lv_aload_n hx hb dL_fault_3 rfl (lv_at hl 0 rfl) ?_
  refine lv_iload_n hx hb dL_fault_4 rfl (lv_at hl 1 rfl) ?_
  refine lv_iload_n hx hb dL_fault_5 rfl (lv_at hl 2 rfl) ?_
  refine lv_iload_n hx hb dL_fault_6 rfl (lv_at hl 3 rfl) ?_
  have hPc := hP.sub (ws' := [(h0, .inr (12, [.ref fi, tca, .ref ea, .ref sl, tmx, tsv])), (fi, .inr (5, [fna, fla, fv2, fv3, fv4, fv5, .int 0])), (ea, .inl (tE, 2, .inr (.inr (.inr (.inr fE))))), (e0, .inr (4, [.int ei0, ev0_1, ev0_2, ev0_3, ev0_4, ev0_5, ev0_6, .ref ak0])), (e1, .inr (4, [.int ei1, ev1_1, ev1_2, ev1_3, ev1_4, ev1_5, ev1_6, .ref ak1])), (ak0, .inr (0, [.int am0, ae0, .int 0])), (ak1, .inr (0, [.int am1, ae1, .int 0])), (sl, .inr (0, [.int sm, se, .int 0]))]) [0, 1, 2, 3, 4, 5, 6, 7] rfl
  have hKc := hK.sub (tys' := [(tE, .object RX3)]) [0] rfl
  have hFc := freeNil hS hA
  refine vx_calli (vx_runV (As := [.int a1, .int a2, .int a3]) (rest := [.int 0, .ref out]) ⟨hx, hb, hml, hown, ht⟩ (k_X11_fault l hL d0 cO dC dI H.size h0 ea sl tca tmx tsv tE fE sm se fi fna fla fv2 fv3 fv4 fv5 e0 ak0 ei0 am0 ev0_1 ev0_2 ev0_3 ev0_4 ev0_5 ev0_6 ae0 e1 ak1 ei1 am1 ev1_1 ev1_2 ev1_3 ev1_4 ev1_5 ev1_6 ae1 hf0 hf1 a1 a2 a3) (my_V ht M_X11_fault q1737 q1738 q1736 (Nat.le_of_ble_eq_true rfl) (Nat.le_of_ble_eq_true rfl)) ⟨PREp.fb, va_recv hK hP (ci := 12) (q0 := 0) rfl rfl, fun U hU hW => ⟨rfl, PREp.mk' hE hS hFc hPc hKc U hU hW⟩⟩ rfl rfl hl.1 rfl (lv_room (Nat.le_of_ble_eq_true rfl)) dL_fault_7 ⟨(Nat.le_of_ble_eq_true rfl), (Nat.le_of_ble_eq_true rfl)⟩) hS (fun q _ h => hFc q h) hFc (fun q _ h => hFc q h) (fun E ce q9 ux t H1 locs htt hvm hw hB hz1 hk1 hS hcell hv9 hcl9 => ?_) (fun r2 u1 t H1 locs htt hvm hw hB hz1 hk1 hS => ?_)
  · skip
    obtain rfl : E = _ := hB
    generalize H1 = H at hS hcell ⊢
    have hP : va_P (dC, dI) vwCl [] H := va_P0
    refine vx_catch hown [] ⟨0, 12, 15, 20⟩ [] (htab.trans rfl) (fun z h => by simp at h) (by decide) (by decide) (ht _ q1120) (ht _ q1132) hcell hv9 hcl9 ?_
    refine W.eq (g2 := F0 m 15 ls [.ref q9]) rfl ?_
    refine lv_astore (lv' := [(5, .ref q9), (0, .ref h0), (1, .int a1), (2, .int a2), (3, .int a3), (4, .ref out)]) hx hb dL_fault_15 hl (by decide) rfl (fun ls hl => ?_)
    refine lv_iconst (v := 1) hx hb dL_fault_17 (by decide) ?_
    have hP9 := hP.sub (ws' := []) [] rfl
    have hK9 := hK.sub (tys' := [(tE, .object RX3)]) [0] rfl
    refine W.widen (k := 2) (n := 12) (Nat.le_of_ble_eq_true rfl) (Nat.le_of_ble_eq_true rfl) ?_
    refine vx_ret ?_
    exact W.iret (v := 1) hx hb hr (fun t ht9 hW9 => ⟨⟨1, (), rfl, rfl, ppk ht9 hP9⟩, hS.F ht9⟩) hS.2.2 dL_fault_18
  · skip
    exact hw.elim
set_option maxHeartbeats 4000000 in
set_option maxRecDepth 100000 in
theorem k_L_close (l : Launch) (hL : l.stackTraces = false) (d0 : Nat) (cO : ClassId) (dC : Nat → ClassId) (dI : Nat → Nat → Nat) (sz : Nat) (h0 ea sl : Nat) (tca tmx tsv : Value) (tE : ClassId) (fE : Nat → Option Nat) (sm : Int32) (se : Value) (fi : Nat) (fna fla fv2 fv3 fv4 fv5 : Value) (e0 ak0 : Nat) (ei0 am0 : Int32) (ev0_1 ev0_2 ev0_3 ev0_4 ev0_5 ev0_6 ae0 : Value) (e1 ak1 : Nat) (ei1 am1 : Int32) (ev1_1 ev1_2 ev1_3 ev1_4 ev1_5 ev1_6 ae1 : Value) (hf0 : fE 0 = some e0) (hf1 : fE 1 = some e1) (a1 a2 : Int32) : vx_Met l yL_close (cnW yL_close cL_close 4 (some FieldType.int) [(0, 6, 9, 20), (0, 6, 12, 15)]) (rmd 8 2 12) (va_Pc [.ref h0, .int a1, .int a2] (PREp d0 cO (dC, dI) (va_A [] sz) [(h0, .inr (12, [.ref fi, tca, .ref ea, .ref sl, tmx, tsv])), (fi, .inr (5, [fna, fla, fv2, fv3, fv4, fv5, .int 0])), (ea, .inl (tE, 2, .inr (.inr (.inr (.inr fE))))), (e0, .inr (4, [.int ei0, ev0_1, ev0_2, ev0_3, ev0_4, ev0_5, ev0_6, .ref ak0])), (e1, .inr (4, [.int ei1, ev1_1, ev1_2, ev1_3, ev1_4, ev1_5, ev1_6, .ref ak1])), (ak0, .inr (0, [.int am0, ae0, .int 0])), (ak1, .inr (0, [.int am1, ae1, .int 0])), (sl, .inr (0, [.int sm, se, .int 0]))] [(tE, .object RX3)] sz)) (va_Qi (fun (r : Int32) (_ : Unit) => r = 1) (fun (_ : Unit) (t : State) => va_P (dC, dI) vwCl [] t.heap) (va_A [] sz)) (vx_X (fun _ : Unit => True) (fun E _ _ => False) (va_A [] sz)) 2 12 (va_A [] sz) := by
  refine vx_ofWH (cc := cL_close) (maxL := 4) (ret := (some FieldType.int)) (hh := [(0, 6, 9, 20), (0, 6, 12, 15)]) (by decide) rfl ?_
  intro p e s m args below meth c s₁ B hml hv
  obtain ⟨rfl, hsz, hE, hP, hK⟩ := hv
  have hx := B.exec
  have hb := B.bytes
  have hr := B.returns
  have hts := atoms_spec (ws := cnW yL_close cL_close 4 (some FieldType.int) [(0, 6, 9, 20), (0, 6, 12, 15)]) B.pre
  have ht : ∀ w ∈ GT, w.before _ s = true := fun w h => hts w (List.mem_cons_of_mem _ h)
  have htab := vx_table (x := yL_close) B (hts _ List.mem_cons_self)
  have hown : s.vm.findClass RL = some m.cls := findClass_of_methodNamed B.named
  have hlocks := B.notSynchronized
  subst hsz
  generalize hAe : va_A [] s.heap.size = A at hE ⊢
  have hA : ∀ q : Nat, s.heap.size ≤ q → A q := fun q h => by rw [← hAe]; exact Or.inr h
  obtain ⟨H, hH0⟩ : ∃ H, s.heap = H := ⟨_, rfl⟩
  have hS : va_S A s.heap H [] := by rw [← hH0]; exact va_S.rf
  rw [hH0] at hP
  have hl := lv_entry ([.ref h0, .int a1, .int a2]) (n := 4) (Nat.le_of_ble_eq_true rfl)
  rw [lg_entry_eq]
  generalize (lg_sl ([.ref h0, .int a1, .int a2]) ++ List.replicate (4 - (lg_sl ([.ref h0, .int a1, .int a2])).length) Slot.unset).toArray = ls at hl ⊢
  have hl : lv_has ls 4 [(0, .ref h0), (1, .int a1), (2, .int a2)] := hl
  rw [hH0]
  refine lv_aload_n hx hb dL_close_0 rfl (lv_at hl 0 rfl) ?_
  refine lv_iload_n hx hb dL_close_1 rfl (lv_at hl 1 rfl) ?_
  refine lv_iload_n hx hb dL_close_2 rfl (lv_at hl 2 rfl) ?_
  have hPc := hP.sub (ws' := [(h0, .inr (12, [.ref fi, tca, .ref ea, .ref sl, tmx, tsv])), (fi, .inr (5, [fna, fla, fv2, fv3, fv4, fv5, .int 0])), (ea, .inl (tE, 2, .inr (.inr (.inr (.inr fE))))), (e0, .inr (4, [.int ei0, ev0_1, ev0_2, ev0_3, ev0_4, ev0_5, ev0_6, .ref ak0])), (e1, .inr (4, [.int ei1, ev1_1, ev1_2, ev1_3, ev1_4, ev1_5, ev1_6, .ref ak1])), (ak0, .inr (0, [.int am0, ae0, .int 0])), (ak1, .inr (0, [.int am1, ae1, .int 0])), (sl, .inr (0, [.int sm, se, .int 0]))]) [0, 1, 2, 3, 4, 5, 6, 7] rfl
  have hKc := hK.sub (tys' := [(tE, .object RX3)]) [0] rfl
  have hFc := freeNil hS hA
  refine vx_callv (vx_runV (As := [.int a1, .int a2]) (rest := []) ⟨hx, hb, hml, hown, ht⟩ (k_X11_close l hL d0 cO dC dI H.size h0 ea sl tca tmx tsv tE fE sm se fi fna fla fv2 fv3 fv4 fv5 e0 ak0 ei0 am0 ev0_1 ev0_2 ev0_3 ev0_4 ev0_5 ev0_6 ae0 e1 ak1 ei1 am1 ev1_1 ev1_2 ev1_3 ev1_4 ev1_5 ev1_6 ae1 hf0 hf1 a1 a2) (my_V ht M_X11_close q1295 q1296 q1294 (Nat.le_of_ble_eq_true rfl) (Nat.le_of_ble_eq_true rfl)) ⟨PREp.fb, va_recv hK hP (ci := 12) (q0 := 0) rfl rfl, fun U hU hW => ⟨rfl, PREp.mk' hE hS hFc hPc hKc U hU hW⟩⟩ rfl rfl hl.1 rfl (lv_room (Nat.le_of_ble_eq_true rfl)) dL_close_3 ⟨(Nat.le_of_ble_eq_true rfl), (Nat.le_of_ble_eq_true rfl)⟩) hS (fun q _ h => hFc q h) hFc (fun q _ h => hFc q h) (fun E ce q9 ux t H1 locs htt hvm hw hB hz1 hk1 hS hcell hv9 hcl9 => ?_) (fun u1 t H1 locs htt hvm hw hB hz1 hk1 hS => ?_)
  · skip
    obtain rfl : E = _ := hB
    generalize H1 = H at hS hcell ⊢
    have hP : va_P (dC, dI) vwCl [] H := va_P0
    refine vx_catch hown [] ⟨0, 6, 9, 20⟩ [⟨0, 6, 12, 15⟩] (htab.trans rfl) (fun z h => by simp at h) (by decide) (by decide) (ht _ q1120) (ht _ q1132) hcell hv9 hcl9 ?_
    refine W.eq (g2 := F0 m 9 ls [.ref q9]) rfl ?_
    refine lv_astore_n (lv' := [(3, .ref q9), (0, .ref h0), (1, .int a1), (2, .int a2)]) hx hb dL_close_9 rfl hl (by decide) rfl (fun ls hl => ?_)
    refine lv_iconst (v := 1) hx hb dL_close_10 (by decide) ?_
    have hP9 := hP.sub (ws' := []) [] rfl
    have hK9 := hK.sub (tys' := [(tE, .object RX3)]) [0] rfl
    refine W.widen (k := 2) (n := 12) (Nat.le_of_ble_eq_true rfl) (Nat.le_of_ble_eq_true rfl) ?_
    refine vx_ret ?_
    exact W.iret (v := 1) hx hb hr (fun t ht9 hW9 => ⟨⟨1, (), rfl, rfl, ppk ht9 hP9⟩, hS.F ht9⟩) hS.2.2 dL_close_11
  · skip
    exact hw.elim
set_option maxHeartbeats 4000000 in
set_option maxRecDepth 100000 in
theorem k_L_cancel (l : Launch) (hL : l.stackTraces = false) (d0 : Nat) (cO : ClassId) (dC : Nat → ClassId) (dI : Nat → Nat → Nat) (sz : Nat) (h0 ea sl : Nat) (tca tmx tsv : Value) (tE : ClassId) (fE : Nat → Option Nat) (sm : Int32) (se : Value) (fi : Nat) (fna fla fv2 fv3 fv4 fv5 : Value) (e0 ak0 : Nat) (ei0 am0 : Int32) (ev0_1 ev0_2 ev0_3 ev0_4 ev0_5 ev0_6 ae0 : Value) (e1 ak1 : Nat) (ei1 am1 : Int32) (ev1_1 ev1_2 ev1_3 ev1_4 ev1_5 ev1_6 ae1 : Value) (hf0 : fE 0 = some e0) (hf1 : fE 1 = some e1) (a1 a2 : Int32) : vx_Met l yL_cancel (cnW yL_cancel cL_cancel 4 (some FieldType.int) [(0, 6, 9, 20), (0, 6, 12, 15)]) (rmd 8 2 12) (va_Pc [.ref h0, .int a1, .int a2] (PREp d0 cO (dC, dI) (va_A [] sz) [(h0, .inr (12, [.ref fi, tca, .ref ea, .ref sl, tmx, tsv])), (fi, .inr (5, [fna, fla, fv2, fv3, fv4, fv5, .int 0])), (ea, .inl (tE, 2, .inr (.inr (.inr (.inr fE))))), (e0, .inr (4, [.int ei0, ev0_1, ev0_2, ev0_3, ev0_4, ev0_5, ev0_6, .ref ak0])), (e1, .inr (4, [.int ei1, ev1_1, ev1_2, ev1_3, ev1_4, ev1_5, ev1_6, .ref ak1])), (ak0, .inr (0, [.int am0, ae0, .int 0])), (ak1, .inr (0, [.int am1, ae1, .int 0])), (sl, .inr (0, [.int sm, se, .int 0]))] [(tE, .object RX3)] sz)) (va_Qi (fun (r : Int32) (_ : Unit) => r = 1) (fun (_ : Unit) (t : State) => va_P (dC, dI) vwCl [] t.heap) (va_A [] sz)) (vx_X (fun _ : Unit => True) (fun E _ _ => False) (va_A [] sz)) 2 12 (va_A [] sz) := by
  refine vx_ofWH (cc := cL_cancel) (maxL := 4) (ret := (some FieldType.int)) (hh := [(0, 6, 9, 20), (0, 6, 12, 15)]) (by decide) rfl ?_
  intro p e s m args below meth c s₁ B hml hv
  obtain ⟨rfl, hsz, hE, hP, hK⟩ := hv
  have hx := B.exec
  have hb := B.bytes
  have hr := B.returns
  have hts := atoms_spec (ws := cnW yL_cancel cL_cancel 4 (some FieldType.int) [(0, 6, 9, 20), (0, 6, 12, 15)]) B.pre
  have ht : ∀ w ∈ GT, w.before _ s = true := fun w h => hts w (List.mem_cons_of_mem _ h)
  have htab := vx_table (x := yL_cancel) B (hts _ List.mem_cons_self)
  have hown : s.vm.findClass RL = some m.cls := findClass_of_methodNamed B.named
  have hlocks := B.notSynchronized
  subst hsz
  generalize hAe : va_A [] s.heap.size = A at hE ⊢
  have hA : ∀ q : Nat, s.heap.size ≤ q → A q := fun q h => by rw [← hAe]; exact Or.inr h
  obtain ⟨H, hH0⟩ : ∃ H, s.heap = H := ⟨_, rfl⟩
  have hS : va_S A s.heap H [] := by rw [← hH0]; exact va_S.rf
  rw [hH0] at hP
  have hl := lv_entry ([.ref h0, .int a1, .int a2]) (n := 4) (Nat.le_of_ble_eq_true rfl)
  rw [lg_entry_eq]
  generalize (lg_sl ([.ref h0, .int a1, .int a2]) ++ List.replicate (4 - (lg_sl ([.ref h0, .int a1, .int a2])).length) Slot.unset).toArray = ls at hl ⊢
  have hl : lv_has ls 4 [(0, .ref h0), (1, .int a1), (2, .int a2)] := hl
  rw [hH0]
  refine lv_aload_n hx hb dL_cancel_0 rfl (lv_at hl 0 rfl) ?_
  refine lv_iload_n hx hb dL_cancel_1 rfl (lv_at hl 1 rfl) ?_
  refine lv_iload_n hx hb dL_cancel_2 rfl (lv_at hl 2 rfl) ?_
  have hPc := hP.sub (ws' := [(h0, .inr (12, [.ref fi, tca, .ref ea, .ref sl, tmx, tsv])), (fi, .inr (5, [fna, fla, fv2, fv3, fv4, fv5, .int 0])), (ea, .inl (tE, 2, .inr (.inr (.inr (.inr fE))))), (e0, .inr (4, [.int ei0, ev0_1, ev0_2, ev0_3, ev0_4, ev0_5, ev0_6, .ref ak0])), (e1, .inr (4, [.int ei1, ev1_1, ev1_2, ev1_3, ev1_4, ev1_5, ev1_6, .ref ak1])), (ak0, .inr (0, [.int am0, ae0, .int 0])), (ak1, .inr (0, [.int am1, ae1, .int 0])), (sl, .inr (0, [.int sm, se, .int 0]))]) [0, 1, 2, 3, 4, 5, 6, 7] rfl
  have hKc := hK.sub (tys' := [(tE, .object RX3)]) [0] rfl
  have hFc := freeNil hS hA
  refine vx_callv (vx_runV (As := [.int a1, .int a2]) (rest := []) ⟨hx, hb, hml, hown, ht⟩ (k_X11_cancel l hL d0 cO dC dI H.size h0 ea sl tca tmx tsv tE fE sm se fi fna fla fv2 fv3 fv4 fv5 e0 ak0 ei0 am0 ev0_1 ev0_2 ev0_3 ev0_4 ev0_5 ev0_6 ae0 e1 ak1 ei1 am1 ev1_1 ev1_2 ev1_3 ev1_4 ev1_5 ev1_6 ae1 hf0 hf1 a1 a2) (my_V ht M_X11_cancel q1398 q1399 q1397 (Nat.le_of_ble_eq_true rfl) (Nat.le_of_ble_eq_true rfl)) ⟨PREp.fb, va_recv hK hP (ci := 12) (q0 := 0) rfl rfl, fun U hU hW => ⟨rfl, PREp.mk' hE hS hFc hPc hKc U hU hW⟩⟩ rfl rfl hl.1 rfl (lv_room (Nat.le_of_ble_eq_true rfl)) dL_cancel_3 ⟨(Nat.le_of_ble_eq_true rfl), (Nat.le_of_ble_eq_true rfl)⟩) hS (fun q _ h => hFc q h) hFc (fun q _ h => hFc q h) (fun E ce q9 ux t H1 locs htt hvm hw hB hz1 hk1 hS hcell hv9 hcl9 => ?_) (fun u1 t H1 locs htt hvm hw hB hz1 hk1 hS => ?_)
  · skip
    obtain rfl : E = _ := hB
    generalize H1 = H at hS hcell ⊢
    have hP : va_P (dC, dI) vwCl [] H := va_P0
    refine vx_catch hown [] ⟨0, 6, 9, 20⟩ [⟨0, 6, 12, 15⟩] (htab.trans rfl) (fun z h => by simp at h) (by decide) (by decide) (ht _ q1120) (ht _ q1132) hcell hv9 hcl9 ?_
    refine W.eq (g2 := F0 m 9 ls [.ref q9]) rfl ?_
    refine lv_astore_n (lv' := [(3, .ref q9), (0, .ref h0), (1, .int a1), (2, .int a2)]) hx hb dL_cancel_9 rfl hl (by decide) rfl (fun ls hl => ?_)
    refine lv_iconst (v := 1) hx hb dL_cancel_10 (by decide) ?_
    have hP9 := hP.sub (ws' := []) [] rfl
    have hK9 := hK.sub (tys' := [(tE, .object RX3)]) [0] rfl
    refine W.widen (k := 2) (n := 12) (Nat.le_of_ble_eq_true rfl) (Nat.le_of_ble_eq_true rfl) ?_
    refine vx_ret ?_
    exact W.iret (v := 1) hx hb hr (fun t ht9 hW9 => ⟨⟨1, (), rfl, rfl, ppk ht9 hP9⟩, hS.F ht9⟩) hS.2.2 dL_cancel_11
  · skip
    exact hw.elim
set_option maxHeartbeats 4000000 in
set_option maxRecDepth 100000 in
theorem k_L_file (l : Launch) (hL : l.stackTraces = false) (d0 : Nat) (cO : ClassId) (dC : Nat → ClassId) (dI : Nat → Nat → Nat) (sz : Nat) (h0 : Nat) (t1 t2 t3 t4 t5 : Value) (fi na la : Nat) (fv2 fv3 fv4 fv5 : Value) (tC tI : ClassId) (fn fl : Nat → Int32) (a1 a2 : Int32) (out : Nat) (tO : ClassId) (fo : Nat → Int64) : vx_Met l yL_file (cnW yL_file cL_file 5 (some FieldType.int) [(0, 10, 13, 13), (0, 10, 17, 15)]) (rmd 8 1 6) (va_Pc [.ref h0, .int a1, .int a2, .ref out] (PRE d0 cO (dC, dI) (va_A [(h0, .inr (12, [.ref fi, t1, t2, t3, t4, t5])), (fi, .inr (5, [.ref na, .ref la, fv2, fv3, fv4, fv5, .int 0])), (na, .inl (tC, 6, .inl fn)), (la, .inl (tI, 6, .inl fl)), (out, .inl (tO, 1, .inr (.inl fo)))] sz) [(h0, .inr (12, [.ref fi, t1, t2, t3, t4, t5])), (fi, .inr (5, [.ref na, .ref la, fv2, fv3, fv4, fv5, .int 0])), (na, .inl (tC, 6, .inl fn)), (la, .inl (tI, 6, .inl fl)), (out, .inl (tO, 1, .inr (.inl fo)))] [(tC, .char), (tI, .int), (tO, .long)] sz)) (va_Qi (fun (r : Int32) (u : Nat → Int64) => (((97 ≤ a1 ∧ a1 ≤ 122) ∧ 0 ≤ a2 ∧ a2 ≤ 2) → r = 0 ∧ u 0 = 0) ∧ (¬ ((97 ≤ a1 ∧ a1 ≤ 122) ∧ 0 ≤ a2 ∧ a2 ≤ 2) → r = 1)) (fun (u : Nat → Int64) (t : State) => POW (dC, dI) (va_A [(h0, .inr (12, [.ref fi, t1, t2, t3, t4, t5])), (fi, .inr (5, [.ref na, .ref la, fv2, fv3, fv4, fv5, .int 0])), (na, .inl (tC, 6, .inl fn)), (la, .inl (tI, 6, .inl fl)), (out, .inl (tO, 1, .inr (.inl fo)))] sz) [(out, .inl (tO, 1, .inr (.inl u)))] [(tO, .long)] t) (va_A [(h0, .inr (12, [.ref fi, t1, t2, t3, t4, t5])), (fi, .inr (5, [.ref na, .ref la, fv2, fv3, fv4, fv5, .int 0])), (na, .inl (tC, 6, .inl fn)), (la, .inl (tI, 6, .inl fl)), (out, .inl (tO, 1, .inr (.inl fo)))] sz)) (vx_X (fun _ : Unit => True) (fun E _ _ => False) (va_A [(h0, .inr (12, [.ref fi, t1, t2, t3, t4, t5])), (fi, .inr (5, [.ref na, .ref la, fv2, fv3, fv4, fv5, .int 0])), (na, .inl (tC, 6, .inl fn)), (la, .inl (tI, 6, .inl fl)), (out, .inl (tO, 1, .inr (.inl fo)))] sz)) 1 6 (va_A [(h0, .inr (12, [.ref fi, t1, t2, t3, t4, t5])), (fi, .inr (5, [.ref na, .ref la, fv2, fv3, fv4, fv5, .int 0])), (na, .inl (tC, 6, .inl fn)), (la, .inl (tI, 6, .inl fl)), (out, .inl (tO, 1, .inr (.inl fo)))] sz) := by
  refine vx_ofWH (cc := cL_file) (maxL := 5) (ret := (some FieldType.int)) (hh := [(0, 10, 13, 13), (0, 10, 17, 15)]) (by decide) rfl ?_
  intro p e s m args below meth c s₁ B hml hv
  obtain ⟨rfl, hsz, hE, hP, hK, hD0⟩ := hv
  have hx := B.exec
  have hb := B.bytes
  have hr := B.returns
  have hts := atoms_spec (ws := cnW yL_file cL_file 5 (some FieldType.int) [(0, 10, 13, 13), (0, 10, 17, 15)]) B.pre
  have ht : ∀ w ∈ GT, w.before _ s = true := fun w h => hts w (List.mem_cons_of_mem _ h)
  have htab := vx_table (x := yL_file) B (hts _ List.mem_cons_self)
  have hown : s.vm.findClass RL = some m.cls := findClass_of_methodNamed B.named
  have hlocks := B.notSynchronized
  subst hsz
  have hD := hD0.self (sz := s.heap.size)
  generalize hAe : va_A [(h0, .inr (12, [.ref fi, t1, t2, t3, t4, t5])), (fi, .inr (5, [.ref na, .ref la, fv2, fv3, fv4, fv5, .int 0])), (na, .inl (tC, 6, .inl fn)), (la, .inl (tI, 6, .inl fl)), (out, .inl (tO, 1, .inr (.inl fo)))] s.heap.size = A at hD hE ⊢
  have hA : ∀ q : Nat, s.heap.size ≤ q → A q := fun q h => by rw [← hAe]; exact Or.inr h
  obtain ⟨H, hH0⟩ : ∃ H, s.heap = H := ⟨_, rfl⟩
  have hS : va_S A s.heap H [] := by rw [← hH0]; exact va_S.rf
  rw [hH0] at hP
  have hl := lv_entry ([.ref h0, .int a1, .int a2, .ref out]) (n := 5) (Nat.le_of_ble_eq_true rfl)
  rw [lg_entry_eq]
  generalize (lg_sl ([.ref h0, .int a1, .int a2, .ref out]) ++ List.replicate (5 - (lg_sl ([.ref h0, .int a1, .int a2, .ref out])).length) Slot.unset).toArray = ls at hl ⊢
  have hl : lv_has ls 5 [(0, .ref h0), (1, .int a1), (2, .int a2), (3, .ref out)] := hl
  rw [hH0]
  refine lv_aload_n hx hb dL_file_0 rfl (lv_at hl 3 rfl) ?_
  refine lv_iconst (v := 0) hx hb dL_file_1 (by decide) ?_
  refine lv_aload_n hx hb dL_file_2 rfl (lv_at hl 0 rfl) ?_
  refine lv_iload_n hx hb dL_file_3 rfl (lv_at hl 1 rfl) ?_
  refine lv_iload_n hx hb dL_file_4 rfl (lv_at hl 2 rfl) ?_
  have hPc := hP.sub (ws' := [(h0, .inr (12, [.ref fi, t1, t2, t3, t4, t5])), (fi, .inr (5, [.ref na, .ref la, fv2, fv3, fv4, fv5, .int 0])), (na, .inl (tC, 6, .inl fn)), (la, .inl (tI, 6, .inl fl))]) [0, 1, 2, 3] rfl
  have hDc := hD.sub (ws' := [(h0, .inr (12, [.ref fi, t1, t2, t3, t4, t5])), (fi, .inr (5, [.ref na, .ref la, fv2, fv3, fv4, fv5, .int 0])), (na, .inl (tC, 6, .inl fn)), (la, .inl (tI, 6, .inl fl))]) [0, 1, 2, 3] (by decide) rfl
  have hKc := hK.sub (tys' := [(tC, .char), (tI, .int)]) [0, 1] rfl
  have hFc := va_free (wc := [(h0, .inr (12, [.ref fi, t1, t2, t3, t4, t5])), (fi, .inr (5, [.ref na, .ref la, fv2, fv3, fv4, fv5, .int 0])), (na, .inl (tC, 6, .inl fn)), (la, .inl (tI, 6, .inl fl))]) hD hS hA [0, 1, 2, 3] rfl
  refine vx_calli (vx_runV (As := [.int a1, .int a2]) (rest := [.int 0, .ref out]) ⟨hx, hb, hml, hown, ht⟩ (k_X11_file l hL d0 cO dC dI H.size h0 t1 t2 t3 t4 t5 fi na la fv2 fv3 fv4 fv5 tC tI fn fl a1 a2) (my_V ht M_X11_file q1015 q1016 q1014 (Nat.le_of_ble_eq_true rfl) (Nat.le_of_ble_eq_true rfl)) ⟨PRE.fb, va_recv hK hP (ci := 12) (q0 := 0) rfl rfl, fun U hU hW => ⟨rfl, PRE.mk' hE hS hFc hPc hKc hDc U hU hW⟩⟩ rfl rfl hl.1 rfl (lv_room (Nat.le_of_ble_eq_true rfl)) dL_file_5 ⟨(Nat.le_of_ble_eq_true rfl), (Nat.le_of_ble_eq_true rfl)⟩) hS (fun q _ h => hFc q h) hFc (fun q _ h => hFc q h) (fun E ce q9 ux t H1 locs htt hvm hw hB hz1 hk1 hS hcell hv9 hcl9 => ?_) (fun r2 u1 t H1 locs htt hvm hw hB hz1 hk1 hS => ?_)
  · skip
    obtain ⟨rfl, hnP⟩ := hB
    obtain ⟨hP, hD⟩ := va_join (wr := [(out, .inl (tO, 1, .inr (.inl fo)))]) (w1 := []) hP hD [0, 1, 2, 3] [4] rfl rfl (by decide) (by decide) hk1 hFc va_P0 va_D0
    generalize H1 = H at hP hS hcell ⊢
    have hP : va_P (dC, dI) vwCl [(out, .inl (tO, 1, .inr (.inl fo)))] H := hP
    have hD : va_D A [(out, .inl (tO, 1, .inr (.inl fo)))] := hD
    refine vx_catch hown [] ⟨0, 10, 13, 13⟩ [⟨0, 10, 17, 15⟩] (htab.trans rfl) (fun z h => by simp at h) (by decide) (by decide) (ht _ q1012) (ht _ q1023) hcell hv9 hcl9 ?_
    refine W.eq (g2 := F0 m 13 ls [.ref q9]) rfl ?_
    refine lv_astore (lv' := [(4, .ref q9), (0, .ref h0), (1, .int a1), (2, .int a2), (3, .ref out)]) hx hb dL_file_13 hl (by decide) rfl (fun ls hl => ?_)
    refine lv_iconst (v := 1) hx hb dL_file_15 (by decide) ?_
    have hP9 := hP.sub (ws' := [(out, .inl (tO, 1, .inr (.inl fo)))]) [0] rfl
    have hD9 := hD.sub (ws' := [(out, .inl (tO, 1, .inr (.inl fo)))]) [0] (by decide) rfl
    have hK9 := hK.sub (tys' := [(tO, .long)]) [2] rfl
    refine W.widen (k := 1) (n := 6) (Nat.le_of_ble_eq_true rfl) (Nat.le_of_ble_eq_true rfl) ?_
    refine vx_ret ?_
    exact W.iret (v := 1) hx hb hr (fun t ht9 hW9 => ⟨⟨1, fo, rfl, ⟨fun h => absurd h hnP, fun _ => rfl⟩, POW.mk' ht9 hW9.alike hP9 hK9 hD9⟩, hS.F ht9⟩) hS.2.2 dL_file_16
  · skip
    try dsimp only at hw hB
    obtain ⟨hP1, hK1, hD1⟩ := hB
    rw [htt] at hP1
    have hK1 := va_K.moved hvm.symm hK1
    obtain ⟨hP, hD⟩ := va_join (wr := [(out, .inl (tO, 1, .inr (.inl fo)))]) (w1 := []) hP hD [0, 1, 2, 3] [4] rfl rfl (by decide) (by decide) hk1 hFc hP1 hD1
    have hK := (hK.sub (tys' := [(tC, .char), (tI, .int), (tO, .long)]) [0, 1, 2] rfl).app hK1
    generalize H1 = H at hP hS ⊢
    have hP : va_P (dC, dI) vwCl [(out, .inl (tO, 1, .inr (.inl fo)))] H := hP
    have hD : va_D A [(out, .inl (tO, 1, .inr (.inl fo)))] := hD
    have hK : va_K (dC, dI) vwCl [(tC, .char), (tI, .int), (tO, .long)] s := hK
    refine W.widen (k := 1) (n := 6) (Nat.le_of_ble_eq_true rfl) (Nat.le_of_ble_eq_true rfl) ?_
    obtain ⟨hP0, hw⟩ := hw
    subst hw
    refine lv_i2l (v := (0).toInt64) hx hb dL_file_8 rfl ?_
    refine va_last hx hb hK hP hD hS 0 2 rfl rfl (vp_in_nI (n := 0) (by decide) (by decide)) dL_file_9 (fun H locs hP hD hS => ?_)
    have hP : va_P (dC, dI) vwCl [(out, .inl (tO, 1, .inr (.inl ((vp_updL fo 0 ((0).toInt64))))))] H := hP
    have hD : va_D A [(out, .inl (tO, 1, .inr (.inl ((vp_updL fo 0 ((0).toInt64))))))] := hD
    refine lv_goto (tgt := 21) hx hb dL_file_10 (by decide) ?_
    refine lv_iconst (v := 0) hx hb dL_file_21 (by decide) ?_
    have hP9 := hP.sub (ws' := [(out, .inl (tO, 1, .inr (.inl ((vp_updL fo 0 ((0).toInt64))))))]) [0] rfl
    have hD9 := hD.sub (ws' := [(out, .inl (tO, 1, .inr (.inl ((vp_updL fo 0 ((0).toInt64))))))]) [0] (by decide) rfl
    have hK9 := hK.sub (tys' := [(tO, .long)]) [2] rfl
    refine W.widen (k := 1) (n := 6) (Nat.le_of_ble_eq_true rfl) (Nat.le_of_ble_eq_true rfl) ?_
    refine vx_ret ?_
    exact W.iret (v := 0) hx hb hr (fun t ht9 hW9 => ⟨⟨0, ((vp_updL fo 0 ((0).toInt64))), rfl, ⟨fun _ => ⟨rfl, by first | rfl | decide | simp [vp_updL]⟩, fun h => absurd hP0 h⟩, POW.mk' ht9 hW9.alike hP9 hK9 hD9⟩, hS.F ht9⟩) hS.2.2 dL_file_22
set_option maxHeartbeats 4000000 in
set_option maxRecDepth 100000 in
theorem k_L_server (l : Launch) (hL : l.stackTraces = false) (d0 : Nat) (cO : ClassId) (dC : Nat → ClassId) (dI : Nat → Nat → Nat) (sz : Nat) (h0 sl : Nat) (t1 t2 t5 : Value) (lm : Int32) (fi : Nat) (fna fla fv2 fv3 fv4 fv5 : Value) (mx cp : Nat) (m0 m1 m2 m4 m5 m6 m7 m8 m10 m11 : Value) (m9 : Int32) (tP : ClassId) (p0 p1 p2 p3 p4 p5 : Nat) (x0 y0 z0 x1 y1 z1 x2 y2 z2 x3 y3 z3 x4 y4 z4 x5 y5 z5 : Value) (w0 g0 j0 w1 g1 j1 w2 g2 j2 w3 g3 j3 w4 g4 j4 w5 g5 j5 : Int32) (a1 a2 a3 : Int32) (out : Nat) (tO : ClassId) (fo : Nat → Int64) : vx_Met l yL_server (cnW yL_server cL_server 6 (some FieldType.int) [(0, 12, 15, 13), (0, 12, 19, 15)]) (rmd 8 40 1507) (va_Pc [.ref h0, .int a1, .int a2, .int a3, .ref out] (PRE d0 cO (dC, dI) (va_A [(h0, .inr (12, [.ref fi, t1, t2, .ref sl, .ref mx, t5])), (fi, .inr (5, [fna, fla, fv2, fv3, fv4, fv5, .int 0])), (sl, .inr (0, [.int lm, .ref d0, .int 0])), (mx, .inr (8, [m0, m1, m2, .ref cp, m4, m5, m6, m7, m8, .int m9, m10, m11])), (cp, .inl (tP, 6, .inr (.inr (.inr (.inr ((va_up (va_up (va_up (va_up (va_up (va_up (fun _ => none) 0 (some p0)) 1 (some p1)) 2 (some p2)) 3 (some p3)) 4 (some p4)) 5 (some p5)))))))), (p0, .inr (3, [x0, y0, z0, .int w0, .int ((-1)), .int g0, .int j0])), (p1, .inr (3, [x1, y1, z1, .int w1, .int ((-1)), .int g1, .int j1])), (p2, .inr (3, [x2, y2, z2, .int w2, .int ((-1)), .int g2, .int j2])), (p3, .inr (3, [x3, y3, z3, .int w3, .int ((-1)), .int g3, .int j3])), (p4, .inr (3, [x4, y4, z4, .int w4, .int ((-1)), .int g4, .int j4])), (p5, .inr (3, [x5, y5, z5, .int w5, .int ((-1)), .int g5, .int j5])), (out, .inl (tO, 1, .inr (.inl fo)))] sz) [(h0, .inr (12, [.ref fi, t1, t2, .ref sl, .ref mx, t5])), (fi, .inr (5, [fna, fla, fv2, fv3, fv4, fv5, .int 0])), (sl, .inr (0, [.int lm, .ref d0, .int 0])), (mx, .inr (8, [m0, m1, m2, .ref cp, m4, m5, m6, m7, m8, .int m9, m10, m11])), (cp, .inl (tP, 6, .inr (.inr (.inr (.inr ((va_up (va_up (va_up (va_up (va_up (va_up (fun _ => none) 0 (some p0)) 1 (some p1)) 2 (some p2)) 3 (some p3)) 4 (some p4)) 5 (some p5)))))))), (p0, .inr (3, [x0, y0, z0, .int w0, .int ((-1)), .int g0, .int j0])), (p1, .inr (3, [x1, y1, z1, .int w1, .int ((-1)), .int g1, .int j1])), (p2, .inr (3, [x2, y2, z2, .int w2, .int ((-1)), .int g2, .int j2])), (p3, .inr (3, [x3, y3, z3, .int w3, .int ((-1)), .int g3, .int j3])), (p4, .inr (3, [x4, y4, z4, .int w4, .int ((-1)), .int g4, .int j4])), (p5, .inr (3, [x5, y5, z5, .int w5, .int ((-1)), .int g5, .int j5])), (out, .inl (tO, 1, .inr (.inl fo)))] [(tP, .object RX2), (tO, .long)] sz)) (va_Qi (fun (r : Int32) (u : Nat → Int64) => (((1 ≤ a1 ∧ a1 ≤ 63) ∧ (1 ≤ a2 ∧ a2 ≤ 7) ∧ 0 ≤ a3 ∧ a3 ≤ 2) → r = 0 ∧ u 0 = 0) ∧ (¬ ((1 ≤ a1 ∧ a1 ≤ 63) ∧ (1 ≤ a2 ∧ a2 ≤ 7) ∧ 0 ≤ a3 ∧ a3 ≤ 2) → r = 1)) (fun (u : Nat → Int64) (t : State) => POW (dC, dI) (va_A [(h0, .inr (12, [.ref fi, t1, t2, .ref sl, .ref mx, t5])), (fi, .inr (5, [fna, fla, fv2, fv3, fv4, fv5, .int 0])), (sl, .inr (0, [.int lm, .ref d0, .int 0])), (mx, .inr (8, [m0, m1, m2, .ref cp, m4, m5, m6, m7, m8, .int m9, m10, m11])), (cp, .inl (tP, 6, .inr (.inr (.inr (.inr ((va_up (va_up (va_up (va_up (va_up (va_up (fun _ => none) 0 (some p0)) 1 (some p1)) 2 (some p2)) 3 (some p3)) 4 (some p4)) 5 (some p5)))))))), (p0, .inr (3, [x0, y0, z0, .int w0, .int ((-1)), .int g0, .int j0])), (p1, .inr (3, [x1, y1, z1, .int w1, .int ((-1)), .int g1, .int j1])), (p2, .inr (3, [x2, y2, z2, .int w2, .int ((-1)), .int g2, .int j2])), (p3, .inr (3, [x3, y3, z3, .int w3, .int ((-1)), .int g3, .int j3])), (p4, .inr (3, [x4, y4, z4, .int w4, .int ((-1)), .int g4, .int j4])), (p5, .inr (3, [x5, y5, z5, .int w5, .int ((-1)), .int g5, .int j5])), (out, .inl (tO, 1, .inr (.inl fo)))] sz) [(out, .inl (tO, 1, .inr (.inl u)))] [(tO, .long)] t) (va_A [(h0, .inr (12, [.ref fi, t1, t2, .ref sl, .ref mx, t5])), (fi, .inr (5, [fna, fla, fv2, fv3, fv4, fv5, .int 0])), (sl, .inr (0, [.int lm, .ref d0, .int 0])), (mx, .inr (8, [m0, m1, m2, .ref cp, m4, m5, m6, m7, m8, .int m9, m10, m11])), (cp, .inl (tP, 6, .inr (.inr (.inr (.inr ((va_up (va_up (va_up (va_up (va_up (va_up (fun _ => none) 0 (some p0)) 1 (some p1)) 2 (some p2)) 3 (some p3)) 4 (some p4)) 5 (some p5)))))))), (p0, .inr (3, [x0, y0, z0, .int w0, .int ((-1)), .int g0, .int j0])), (p1, .inr (3, [x1, y1, z1, .int w1, .int ((-1)), .int g1, .int j1])), (p2, .inr (3, [x2, y2, z2, .int w2, .int ((-1)), .int g2, .int j2])), (p3, .inr (3, [x3, y3, z3, .int w3, .int ((-1)), .int g3, .int j3])), (p4, .inr (3, [x4, y4, z4, .int w4, .int ((-1)), .int g4, .int j4])), (p5, .inr (3, [x5, y5, z5, .int w5, .int ((-1)), .int g5, .int j5])), (out, .inl (tO, 1, .inr (.inl fo)))] sz)) (vx_X (fun _ : Unit => True) (fun E _ _ => False) (va_A [(h0, .inr (12, [.ref fi, t1, t2, .ref sl, .ref mx, t5])), (fi, .inr (5, [fna, fla, fv2, fv3, fv4, fv5, .int 0])), (sl, .inr (0, [.int lm, .ref d0, .int 0])), (mx, .inr (8, [m0, m1, m2, .ref cp, m4, m5, m6, m7, m8, .int m9, m10, m11])), (cp, .inl (tP, 6, .inr (.inr (.inr (.inr ((va_up (va_up (va_up (va_up (va_up (va_up (fun _ => none) 0 (some p0)) 1 (some p1)) 2 (some p2)) 3 (some p3)) 4 (some p4)) 5 (some p5)))))))), (p0, .inr (3, [x0, y0, z0, .int w0, .int ((-1)), .int g0, .int j0])), (p1, .inr (3, [x1, y1, z1, .int w1, .int ((-1)), .int g1, .int j1])), (p2, .inr (3, [x2, y2, z2, .int w2, .int ((-1)), .int g2, .int j2])), (p3, .inr (3, [x3, y3, z3, .int w3, .int ((-1)), .int g3, .int j3])), (p4, .inr (3, [x4, y4, z4, .int w4, .int ((-1)), .int g4, .int j4])), (p5, .inr (3, [x5, y5, z5, .int w5, .int ((-1)), .int g5, .int j5])), (out, .inl (tO, 1, .inr (.inl fo)))] sz)) 40 1507 (va_A [(h0, .inr (12, [.ref fi, t1, t2, .ref sl, .ref mx, t5])), (fi, .inr (5, [fna, fla, fv2, fv3, fv4, fv5, .int 0])), (sl, .inr (0, [.int lm, .ref d0, .int 0])), (mx, .inr (8, [m0, m1, m2, .ref cp, m4, m5, m6, m7, m8, .int m9, m10, m11])), (cp, .inl (tP, 6, .inr (.inr (.inr (.inr ((va_up (va_up (va_up (va_up (va_up (va_up (fun _ => none) 0 (some p0)) 1 (some p1)) 2 (some p2)) 3 (some p3)) 4 (some p4)) 5 (some p5)))))))), (p0, .inr (3, [x0, y0, z0, .int w0, .int ((-1)), .int g0, .int j0])), (p1, .inr (3, [x1, y1, z1, .int w1, .int ((-1)), .int g1, .int j1])), (p2, .inr (3, [x2, y2, z2, .int w2, .int ((-1)), .int g2, .int j2])), (p3, .inr (3, [x3, y3, z3, .int w3, .int ((-1)), .int g3, .int j3])), (p4, .inr (3, [x4, y4, z4, .int w4, .int ((-1)), .int g4, .int j4])), (p5, .inr (3, [x5, y5, z5, .int w5, .int ((-1)), .int g5, .int j5])), (out, .inl (tO, 1, .inr (.inl fo)))] sz) := by
  refine vx_ofWH (cc := cL_server) (maxL := 6) (ret := (some FieldType.int)) (hh := [(0, 12, 15, 13), (0, 12, 19, 15)]) (by decide) rfl ?_
  intro p e s m args below meth c s₁ B hml hv
  obtain ⟨rfl, hsz, hE, hP, hK, hD0⟩ := hv
  have hx := B.exec
  have hb := B.bytes
  have hr := B.returns
  have hts := atoms_spec (ws := cnW yL_server cL_server 6 (some FieldType.int) [(0, 12, 15, 13), (0, 12, 19, 15)]) B.pre
  have ht : ∀ w ∈ GT, w.before _ s = true := fun w h => hts w (List.mem_cons_of_mem _ h)
  have htab := vx_table (x := yL_server) B (hts _ List.mem_cons_self)
  have hown : s.vm.findClass RL = some m.cls := findClass_of_methodNamed B.named
  have hlocks := B.notSynchronized
  subst hsz
  have hD := hD0.self (sz := s.heap.size)
  generalize hAe : va_A [(h0, .inr (12, [.ref fi, t1, t2, .ref sl, .ref mx, t5])), (fi, .inr (5, [fna, fla, fv2, fv3, fv4, fv5, .int 0])), (sl, .inr (0, [.int lm, .ref d0, .int 0])), (mx, .inr (8, [m0, m1, m2, .ref cp, m4, m5, m6, m7, m8, .int m9, m10, m11])), (cp, .inl (tP, 6, .inr (.inr (.inr (.inr ((va_up (va_up (va_up (va_up (va_up (va_up (fun _ => none) 0 (some p0)) 1 (some p1)) 2 (some p2)) 3 (some p3)) 4 (some p4)) 5 (some p5)))))))), (p0, .inr (3, [x0, y0, z0, .int w0, .int ((-1)), .int g0, .int j0])), (p1, .inr (3, [x1, y1, z1, .int w1, .int ((-1)), .int g1, .int j1])), (p2, .inr (3, [x2, y2, z2, .int w2, .int ((-1)), .int g2, .int j2])), (p3, .inr (3, [x3, y3, z3, .int w3, .int ((-1)), .int g3, .int j3])), (p4, .inr (3, [x4, y4, z4, .int w4, .int ((-1)), .int g4, .int j4])), (p5, .inr (3, [x5, y5, z5, .int w5, .int ((-1)), .int g5, .int j5])), (out, .inl (tO, 1, .inr (.inl fo)))] s.heap.size = A at hD hE ⊢
  have hA : ∀ q : Nat, s.heap.size ≤ q → A q := fun q h => by rw [← hAe]; exact Or.inr h
  obtain ⟨H, hH0⟩ : ∃ H, s.heap = H := ⟨_, rfl⟩
  have hS : va_S A s.heap H [] := by rw [← hH0]; exact va_S.rf
  rw [hH0] at hP
  have hl := lv_entry ([.ref h0, .int a1, .int a2, .int a3, .ref out]) (n := 6) (Nat.le_of_ble_eq_true rfl)
  rw [lg_entry_eq]
  generalize (lg_sl ([.ref h0, .int a1, .int a2, .int a3, .ref out]) ++ List.replicate (6 - (lg_sl ([.ref h0, .int a1, .int a2, .int a3, .ref out])).length) Slot.unset).toArray = ls at hl ⊢
  have hl : lv_has ls 6 [(0, .ref h0), (1, .int a1), (2, .int a2), (3, .int a3), (4, .ref out)] := hl
  rw [hH0]
  refine lv_aload hx hb dL_server_0 (lv_at hl 4 rfl) ?_
  refine lv_iconst (v := 0) hx hb dL_server_2 (by decide) ?_
  refine lv_aload_n hx hb dL_server_3 rfl (lv_at hl 0 rfl) ?_
  refine lv_iload_n hx hb dL_server_4 rfl (lv_at hl 1 rfl) ?_
  refine lv_iload_n hx hb dL_server_5 rfl (lv_at hl 2 rfl) ?_
  refine lv_iload_n hx hb dL_server_6 rfl (lv_at hl 3 rfl) ?_
  have hPc := hP.sub (ws' := [(h0, .inr (12, [.ref fi, t1, t2, .ref sl, .ref mx, t5])), (fi, .inr (5, [fna, fla, fv2, fv3, fv4, fv5, .int 0])), (sl, .inr (0, [.int lm, .ref d0, .int 0])), (mx, .inr (8, [m0, m1, m2, .ref cp, m4, m5, m6, m7, m8, .int m9, m10, m11])), (cp, .inl (tP, 6, .inr (.inr (.inr (.inr ((va_up (va_up (va_up (va_up (va_up (va_up (fun _ => none) 0 (some p0)) 1 (some p1)) 2 (some p2)) 3 (some p3)) 4 (some p4)) 5 (some p5)))))))), (p0, .inr (3, [x0, y0, z0, .int w0, .int ((-1)), .int g0, .int j0])), (p1, .inr (3, [x1, y1, z1, .int w1, .int ((-1)), .int g1, .int j1])), (p2, .inr (3, [x2, y2, z2, .int w2, .int ((-1)), .int g2, .int j2])), (p3, .inr (3, [x3, y3, z3, .int w3, .int ((-1)), .int g3, .int j3])), (p4, .inr (3, [x4, y4, z4, .int w4, .int ((-1)), .int g4, .int j4])), (p5, .inr (3, [x5, y5, z5, .int w5, .int ((-1)), .int g5, .int j5]))]) [0, 1, 2, 3, 4, 5, 6, 7, 8, 9, 10] rfl
  have hDc := hD.sub (ws' := [(h0, .inr (12, [.ref fi, t1, t2, .ref sl, .ref mx, t5])), (fi, .inr (5, [fna, fla, fv2, fv3, fv4, fv5, .int 0])), (sl, .inr (0, [.int lm, .ref d0, .int 0])), (mx, .inr (8, [m0, m1, m2, .ref cp, m4, m5, m6, m7, m8, .int m9, m10, m11])), (cp, .inl (tP, 6, .inr (.inr (.inr (.inr ((va_up (va_up (va_up (va_up (va_up (va_up (fun _ => none) 0 (some p0)) 1 (some p1)) 2 (some p2)) 3 (some p3)) 4 (some p4)) 5 (some p5)))))))), (p0, .inr (3, [x0, y0, z0, .int w0, .int ((-1)), .int g0, .int j0])), (p1, .inr (3, [x1, y1, z1, .int w1, .int ((-1)), .int g1, .int j1])), (p2, .inr (3, [x2, y2, z2, .int w2, .int ((-1)), .int g2, .int j2])), (p3, .inr (3, [x3, y3, z3, .int w3, .int ((-1)), .int g3, .int j3])), (p4, .inr (3, [x4, y4, z4, .int w4, .int ((-1)), .int g4, .int j4])), (p5, .inr (3, [x5, y5, z5, .int w5, .int ((-1)), .int g5, .int j5]))]) [0, 1, 2, 3, 4, 5, 6, 7, 8, 9, 10] (by decide) rfl
  have hKc := hK.sub (tys' := [(tP, .object RX2)]) [0] rfl
  have hFc := va_free (wc := [(h0, .inr (12, [.ref fi, t1, t2, .ref sl, .ref mx, t5])), (fi, .inr (5, [fna, fla, fv2, fv3, fv4, fv5, .int 0])), (sl, .inr (0, [.int lm, .ref d0, .int 0])), (mx, .inr (8, [m0, m1, m2, .ref cp, m4, m5, m6, m7, m8, .int m9, m10, m11])), (cp, .inl (tP, 6, .inr (.inr (.inr (.inr ((va_up (va_up (va_up (va_up (va_up (va_up (fun _ => none) 0 (some p0)) 1 (some p1)) 2 (some p2)) 3 (some p3)) 4 (some p4)) 5 (some p5)))))))), (p0, .inr (3, [x0, y0, z0, .int w0, .int ((-1)), .int g0, .int j0])), (p1, .inr (3, [x1, y1, z1, .int w1, .int ((-1)), .int g1, .int j1])), (p2, .inr (3, [x2, y2, z2, .int w2, .int ((-1)), .int g2, .int j2])), (p3, .inr (3, [x3, y3, z3, .int w3, .int ((-1)), .int g3, .int j3])), (p4, .inr (3, [x4, y4, z4, .int w4, .int ((-1)), .int g4, .int j4])), (p5, .inr (3, [x5, y5, z5, .int w5, .int ((-1)), .int g5, .int j5]))]) hD hS hA [0, 1, 2, 3, 4, 5, 6, 7, 8, 9, 10] rfl
  refine vx_calli (vx_runV (As := [.int a1, .int a2, .int a3]) (rest := [.int 0, .ref out]) ⟨hx, hb, hml, hown, ht⟩ (k_X11_server l hL d0 cO dC dI H.size h0 sl t1 t2 t5 lm fi fna fla fv2 fv3 fv4 fv5 mx cp m0 m1 m2 m4 m5 m6 m7 m8 m10 m11 m9 tP p0 p1 p2 p3 p4 p5 x0 y0 z0 x1 y1 z1 x2 y2 z2 x3 y3 z3 x4 y4 z4 x5 y5 z5 w0 g0 j0 w1 g1 j1 w2 g2 j2 w3 g3 j3 w4 g4 j4 w5 g5 j5 a1 a2 a3) (my_V ht M_X11_server q1184 q1185 q1183 (Nat.le_of_ble_eq_true rfl) (Nat.le_of_ble_eq_true rfl)) ⟨PRE.fb, va_recv hK hP (ci := 12) (q0 := 0) rfl rfl, fun U hU hW => ⟨rfl, PRE.mk' hE hS hFc hPc hKc hDc U hU hW⟩⟩ rfl rfl hl.1 rfl (lv_room (Nat.le_of_ble_eq_true rfl)) dL_server_7 ⟨(Nat.le_of_ble_eq_true rfl), (Nat.le_of_ble_eq_true rfl)⟩) hS (fun q _ h => hFc q h) hFc (fun q _ h => hFc q h) (fun E ce q9 ux t H1 locs htt hvm hw hB hz1 hk1 hS hcell hv9 hcl9 => ?_) (fun r2 u1 t H1 locs htt hvm hw hB hz1 hk1 hS => ?_)
  · skip
    obtain ⟨rfl, hnP⟩ := hB
    obtain ⟨hP, hD⟩ := va_join (wr := [(out, .inl (tO, 1, .inr (.inl fo)))]) (w1 := []) hP hD [0, 1, 2, 3, 4, 5, 6, 7, 8, 9, 10] [11] rfl rfl (by decide) (by decide) hk1 hFc va_P0 va_D0
    generalize H1 = H at hP hS hcell ⊢
    have hP : va_P (dC, dI) vwCl [(out, .inl (tO, 1, .inr (.inl fo)))] H := hP
    have hD : va_D A [(out, .inl (tO, 1, .inr (.inl fo)))] := hD
    refine vx_catch hown [] ⟨0, 12, 15, 13⟩ [⟨0, 12, 19, 15⟩] (htab.trans rfl) (fun z h => by simp at h) (by decide) (by decide) (ht _ q1012) (ht _ q1023) hcell hv9 hcl9 ?_
    refine W.eq (g2 := F0 m 15 ls [.ref q9]) rfl ?_
    refine lv_astore (lv' := [(5, .ref q9), (0, .ref h0), (1, .int a1), (2, .int a2), (3, .int a3), (4, .ref out)]) hx hb dL_server_15 hl (by decide) rfl (fun ls hl => ?_)
    refine lv_iconst (v := 1) hx hb dL_server_17 (by decide) ?_
    have hP9 := hP.sub (ws' := [(out, .inl (tO, 1, .inr (.inl fo)))]) [0] rfl
    have hD9 := hD.sub (ws' := [(out, .inl (tO, 1, .inr (.inl fo)))]) [0] (by decide) rfl
    have hK9 := hK.sub (tys' := [(tO, .long)]) [1] rfl
    refine W.widen (k := 40) (n := 1507) (Nat.le_of_ble_eq_true rfl) (Nat.le_of_ble_eq_true rfl) ?_
    refine vx_ret ?_
    exact W.iret (v := 1) hx hb hr (fun t ht9 hW9 => ⟨⟨1, fo, rfl, ⟨fun h => absurd h hnP, fun _ => rfl⟩, POW.mk' ht9 hW9.alike hP9 hK9 hD9⟩, hS.F ht9⟩) hS.2.2 dL_server_18
  · skip
    try dsimp only at hw hB
    obtain ⟨hP1, hK1, hD1⟩ := hB
    rw [htt] at hP1
    have hK1 := va_K.moved hvm.symm hK1
    obtain ⟨hP, hD⟩ := va_join (wr := [(out, .inl (tO, 1, .inr (.inl fo)))]) (w1 := []) hP hD [0, 1, 2, 3, 4, 5, 6, 7, 8, 9, 10] [11] rfl rfl (by decide) (by decide) hk1 hFc hP1 hD1
    have hK := (hK.sub (tys' := [(tP, .object RX2), (tO, .long)]) [0, 1] rfl).app hK1
    generalize H1 = H at hP hS ⊢
    have hP : va_P (dC, dI) vwCl [(out, .inl (tO, 1, .inr (.inl fo)))] H := hP
    have hD : va_D A [(out, .inl (tO, 1, .inr (.inl fo)))] := hD
    have hK : va_K (dC, dI) vwCl [(tP, .object RX2), (tO, .long)] s := hK
    refine W.widen (k := 40) (n := 1507) (Nat.le_of_ble_eq_true rfl) (Nat.le_of_ble_eq_true rfl) ?_
    obtain ⟨hP0, hw⟩ := hw
    subst hw
    refine lv_i2l (v := (0).toInt64) hx hb dL_server_10 rfl ?_
    refine va_last hx hb hK hP hD hS 0 1 rfl rfl (vp_in_nI (n := 0) (by decide) (by decide)) dL_server_11 (fun H locs hP hD hS => ?_)
    have hP : va_P (dC, dI) vwCl [(out, .inl (tO, 1, .inr (.inl ((vp_updL fo 0 ((0).toInt64))))))] H := hP
    have hD : va_D A [(out, .inl (tO, 1, .inr (.inl ((vp_updL fo 0 ((0).toInt64))))))] := hD
    refine lv_goto (tgt := 23) hx hb dL_server_12 (by decide) ?_
    refine lv_iconst (v := 0) hx hb dL_server_23 (by decide) ?_
    have hP9 := hP.sub (ws' := [(out, .inl (tO, 1, .inr (.inl ((vp_updL fo 0 ((0).toInt64))))))]) [0] rfl
    have hD9 := hD.sub (ws' := [(out, .inl (tO, 1, .inr (.inl ((vp_updL fo 0 ((0).toInt64))))))]) [0] (by decide) rfl
    have hK9 := hK.sub (tys' := [(tO, .long)]) [1] rfl
    refine W.widen (k := 40) (n := 1507) (Nat.le_of_ble_eq_true rfl) (Nat.le_of_ble_eq_true rfl) ?_
    refine vx_ret ?_
    exact W.iret (v := 0) hx hb hr (fun t ht9 hW9 => ⟨⟨0, ((vp_updL fo 0 ((0).toInt64))), rfl, ⟨fun _ => ⟨rfl, by first | rfl | decide | simp [vp_updL]⟩, fun h => absurd hP0 h⟩, POW.mk' ht9 hW9.alike hP9 hK9 hD9⟩, hS.F ht9⟩) hS.2.2 dL_server_24
set_option maxHeartbeats 4000000 in
set_option maxRecDepth 100000 in
theorem k_L_deliver (l : Launch) (hL : l.stackTraces = false) (d0 : Nat) (cO : ClassId) (dC : Nat → ClassId) (dI : Nat → Nat → Nat) (sz : Nat) (h0 ca : Nat) (t0 t2 t3 t4 t5 : Value) (tH : ClassId) (ch0 ch1 ch2 ch3 ch4 ch5 ch6 ch7 ch8 ch9 : Nat) (lc0 lc1 lc2 lc3 lc4 lc5 lc6 lc7 lc8 lc9 : Nat) (lm0 lm1 lm2 lm3 lm4 lm5 lm6 lm7 lm8 lm9 : Int32) (le0 le1 le2 le3 le4 le5 le6 le7 le8 le9 : Value) (a1 : Int32) (out : Nat) (tO : ClassId) (fo : Nat → Int64) : vx_Met l yL_deliver (cnW yL_deliver cL_deliver 4 (some FieldType.int) [(0, 9, 12, 20)]) (rmd 8 1 6) (va_Pc [.ref h0, .int a1, .ref out] (PRE d0 cO (dC, dI) (va_A [(h0, .inr (12, [t0, .ref ca, t2, t3, t4, t5])), (ca, .inl (tH, 10, .inr (.inr (.inr (.inr ((va_up (va_up (va_up (va_up (va_up (va_up (va_up (va_up (va_up (va_up (fun _ => none) 0 (some ch0)) 1 (some ch1)) 2 (some ch2)) 3 (some ch3)) 4 (some ch4)) 5 (some ch5)) 6 (some ch6)) 7 (some ch7)) 8 (some ch8)) 9 (some ch9)))))))), (ch0, .inr (2, [.ref lc0])), (ch1, .inr (2, [.ref lc1])), (ch2, .inr (2, [.ref lc2])), (ch3, .inr (2, [.ref lc3])), (ch4, .inr (2, [.ref lc4])), (ch5, .inr (2, [.ref lc5])), (ch6, .inr (2, [.ref lc6])), (ch7, .inr (2, [.ref lc7])), (ch8, .inr (2, [.ref lc8])), (ch9, .inr (2, [.ref lc9])), (lc0, .inr (0, [.int lm0, le0, .int 0])), (lc1, .inr (0, [.int lm1, le1, .int 0])), (lc2, .inr (0, [.int lm2, le2, .int 0])), (lc3, .inr (0, [.int lm3, le3, .int 0])), (lc4, .inr (0, [.int lm4, le4, .int 0])), (lc5, .inr (0, [.int lm5, le5, .int 0])), (lc6, .inr (0, [.int lm6, le6, .int 0])), (lc7, .inr (0, [.int lm7, le7, .int 0])), (lc8, .inr (0, [.int lm8, le8, .int 0])), (lc9, .inr (0, [.int lm9, le9, .int 0])), (out, .inl (tO, 1, .inr (.inl fo)))] sz) [(h0, .inr (12, [t0, .ref ca, t2, t3, t4, t5])), (ca, .inl (tH, 10, .inr (.inr (.inr (.inr ((va_up (va_up (va_up (va_up (va_up (va_up (va_up (va_up (va_up (va_up (fun _ => none) 0 (some ch0)) 1 (some ch1)) 2 (some ch2)) 3 (some ch3)) 4 (some ch4)) 5 (some ch5)) 6 (some ch6)) 7 (some ch7)) 8 (some ch8)) 9 (some ch9)))))))), (ch0, .inr (2, [.ref lc0])), (ch1, .inr (2, [.ref lc1])), (ch2, .inr (2, [.ref lc2])), (ch3, .inr (2, [.ref lc3])), (ch4, .inr (2, [.ref lc4])), (ch5, .inr (2, [.ref lc5])), (ch6, .inr (2, [.ref lc6])), (ch7, .inr (2, [.ref lc7])), (ch8, .inr (2, [.ref lc8])), (ch9, .inr (2, [.ref lc9])), (lc0, .inr (0, [.int lm0, le0, .int 0])), (lc1, .inr (0, [.int lm1, le1, .int 0])), (lc2, .inr (0, [.int lm2, le2, .int 0])), (lc3, .inr (0, [.int lm3, le3, .int 0])), (lc4, .inr (0, [.int lm4, le4, .int 0])), (lc5, .inr (0, [.int lm5, le5, .int 0])), (lc6, .inr (0, [.int lm6, le6, .int 0])), (lc7, .inr (0, [.int lm7, le7, .int 0])), (lc8, .inr (0, [.int lm8, le8, .int 0])), (lc9, .inr (0, [.int lm9, le9, .int 0])), (out, .inl (tO, 1, .inr (.inl fo)))] [(tH, .object RX1), (tO, .long)] sz)) (va_Qi (fun (r : Int32) (u : Nat → Int64) => ((0 ≤ a1 ∧ a1 ≤ 9) → r = 0 ∧ u 0 = -1) ∧ (¬ (0 ≤ a1 ∧ a1 ≤ 9) → r = 1)) (fun (u : Nat → Int64) (t : State) => POW (dC, dI) (va_A [(h0, .inr (12, [t0, .ref ca, t2, t3, t4, t5])), (ca, .inl (tH, 10, .inr (.inr (.inr (.inr ((va_up (va_up (va_up (va_up (va_up (va_up (va_up (va_up (va_up (va_up (fun _ => none) 0 (some ch0)) 1 (some ch1)) 2 (some ch2)) 3 (some ch3)) 4 (some ch4)) 5 (some ch5)) 6 (some ch6)) 7 (some ch7)) 8 (some ch8)) 9 (some ch9)))))))), (ch0, .inr (2, [.ref lc0])), (ch1, .inr (2, [.ref lc1])), (ch2, .inr (2, [.ref lc2])), (ch3, .inr (2, [.ref lc3])), (ch4, .inr (2, [.ref lc4])), (ch5, .inr (2, [.ref lc5])), (ch6, .inr (2, [.ref lc6])), (ch7, .inr (2, [.ref lc7])), (ch8, .inr (2, [.ref lc8])), (ch9, .inr (2, [.ref lc9])), (lc0, .inr (0, [.int lm0, le0, .int 0])), (lc1, .inr (0, [.int lm1, le1, .int 0])), (lc2, .inr (0, [.int lm2, le2, .int 0])), (lc3, .inr (0, [.int lm3, le3, .int 0])), (lc4, .inr (0, [.int lm4, le4, .int 0])), (lc5, .inr (0, [.int lm5, le5, .int 0])), (lc6, .inr (0, [.int lm6, le6, .int 0])), (lc7, .inr (0, [.int lm7, le7, .int 0])), (lc8, .inr (0, [.int lm8, le8, .int 0])), (lc9, .inr (0, [.int lm9, le9, .int 0])), (out, .inl (tO, 1, .inr (.inl fo)))] sz) [(out, .inl (tO, 1, .inr (.inl u)))] [(tO, .long)] t) (va_A [(h0, .inr (12, [t0, .ref ca, t2, t3, t4, t5])), (ca, .inl (tH, 10, .inr (.inr (.inr (.inr ((va_up (va_up (va_up (va_up (va_up (va_up (va_up (va_up (va_up (va_up (fun _ => none) 0 (some ch0)) 1 (some ch1)) 2 (some ch2)) 3 (some ch3)) 4 (some ch4)) 5 (some ch5)) 6 (some ch6)) 7 (some ch7)) 8 (some ch8)) 9 (some ch9)))))))), (ch0, .inr (2, [.ref lc0])), (ch1, .inr (2, [.ref lc1])), (ch2, .inr (2, [.ref lc2])), (ch3, .inr (2, [.ref lc3])), (ch4, .inr (2, [.ref lc4])), (ch5, .inr (2, [.ref lc5])), (ch6, .inr (2, [.ref lc6])), (ch7, .inr (2, [.ref lc7])), (ch8, .inr (2, [.ref lc8])), (ch9, .inr (2, [.ref lc9])), (lc0, .inr (0, [.int lm0, le0, .int 0])), (lc1, .inr (0, [.int lm1, le1, .int 0])), (lc2, .inr (0, [.int lm2, le2, .int 0])), (lc3, .inr (0, [.int lm3, le3, .int 0])), (lc4, .inr (0, [.int lm4, le4, .int 0])), (lc5, .inr (0, [.int lm5, le5, .int 0])), (lc6, .inr (0, [.int lm6, le6, .int 0])), (lc7, .inr (0, [.int lm7, le7, .int 0])), (lc8, .inr (0, [.int lm8, le8, .int 0])), (lc9, .inr (0, [.int lm9, le9, .int 0])), (out, .inl (tO, 1, .inr (.inl fo)))] sz)) (vx_X (fun _ : Unit => True) (fun E _ _ => False) (va_A [(h0, .inr (12, [t0, .ref ca, t2, t3, t4, t5])), (ca, .inl (tH, 10, .inr (.inr (.inr (.inr ((va_up (va_up (va_up (va_up (va_up (va_up (va_up (va_up (va_up (va_up (fun _ => none) 0 (some ch0)) 1 (some ch1)) 2 (some ch2)) 3 (some ch3)) 4 (some ch4)) 5 (some ch5)) 6 (some ch6)) 7 (some ch7)) 8 (some ch8)) 9 (some ch9)))))))), (ch0, .inr (2, [.ref lc0])), (ch1, .inr (2, [.ref lc1])), (ch2, .inr (2, [.ref lc2])), (ch3, .inr (2, [.ref lc3])), (ch4, .inr (2, [.ref lc4])), (ch5, .inr (2, [.ref lc5])), (ch6, .inr (2, [.ref lc6])), (ch7, .inr (2, [.ref lc7])), (ch8, .inr (2, [.ref lc8])), (ch9, .inr (2, [.ref lc9])), (lc0, .inr (0, [.int lm0, le0, .int 0])), (lc1, .inr (0, [.int lm1, le1, .int 0])), (lc2, .inr (0, [.int lm2, le2, .int 0])), (lc3, .inr (0, [.int lm3, le3, .int 0])), (lc4, .inr (0, [.int lm4, le4, .int 0])), (lc5, .inr (0, [.int lm5, le5, .int 0])), (lc6, .inr (0, [.int lm6, le6, .int 0])), (lc7, .inr (0, [.int lm7, le7, .int 0])), (lc8, .inr (0, [.int lm8, le8, .int 0])), (lc9, .inr (0, [.int lm9, le9, .int 0])), (out, .inl (tO, 1, .inr (.inl fo)))] sz)) 1 6 (va_A [(h0, .inr (12, [t0, .ref ca, t2, t3, t4, t5])), (ca, .inl (tH, 10, .inr (.inr (.inr (.inr ((va_up (va_up (va_up (va_up (va_up (va_up (va_up (va_up (va_up (va_up (fun _ => none) 0 (some ch0)) 1 (some ch1)) 2 (some ch2)) 3 (some ch3)) 4 (some ch4)) 5 (some ch5)) 6 (some ch6)) 7 (some ch7)) 8 (some ch8)) 9 (some ch9)))))))), (ch0, .inr (2, [.ref lc0])), (ch1, .inr (2, [.ref lc1])), (ch2, .inr (2, [.ref lc2])), (ch3, .inr (2, [.ref lc3])), (ch4, .inr (2, [.ref lc4])), (ch5, .inr (2, [.ref lc5])), (ch6, .inr (2, [.ref lc6])), (ch7, .inr (2, [.ref lc7])), (ch8, .inr (2, [.ref lc8])), (ch9, .inr (2, [.ref lc9])), (lc0, .inr (0, [.int lm0, le0, .int 0])), (lc1, .inr (0, [.int lm1, le1, .int 0])), (lc2, .inr (0, [.int lm2, le2, .int 0])), (lc3, .inr (0, [.int lm3, le3, .int 0])), (lc4, .inr (0, [.int lm4, le4, .int 0])), (lc5, .inr (0, [.int lm5, le5, .int 0])), (lc6, .inr (0, [.int lm6, le6, .int 0])), (lc7, .inr (0, [.int lm7, le7, .int 0])), (lc8, .inr (0, [.int lm8, le8, .int 0])), (lc9, .inr (0, [.int lm9, le9, .int 0])), (out, .inl (tO, 1, .inr (.inl fo)))] sz) := by
  refine vx_ofWH (cc := cL_deliver) (maxL := 4) (ret := (some FieldType.int)) (hh := [(0, 9, 12, 20)]) (by decide) rfl ?_
  intro p e s m args below meth c s₁ B hml hv
  obtain ⟨rfl, hsz, hE, hP, hK, hD0⟩ := hv
  have hx := B.exec
  have hb := B.bytes
  have hr := B.returns
  have hts := atoms_spec (ws := cnW yL_deliver cL_deliver 4 (some FieldType.int) [(0, 9, 12, 20)]) B.pre
  have ht : ∀ w ∈ GT, w.before _ s = true := fun w h => hts w (List.mem_cons_of_mem _ h)
  have htab := vx_table (x := yL_deliver) B (hts _ List.mem_cons_self)
  have hown : s.vm.findClass RL = some m.cls := findClass_of_methodNamed B.named
  have hlocks := B.notSynchronized
  subst hsz
  have hD := hD0.self (sz := s.heap.size)
  generalize hAe : va_A [(h0, .inr (12, [t0, .ref ca, t2, t3, t4, t5])), (ca, .inl (tH, 10, .inr (.inr (.inr (.inr ((va_up (va_up (va_up (va_up (va_up (va_up (va_up (va_up (va_up (va_up (fun _ => none) 0 (some ch0)) 1 (some ch1)) 2 (some ch2)) 3 (some ch3)) 4 (some ch4)) 5 (some ch5)) 6 (some ch6)) 7 (some ch7)) 8 (some ch8)) 9 (some ch9)))))))), (ch0, .inr (2, [.ref lc0])), (ch1, .inr (2, [.ref lc1])), (ch2, .inr (2, [.ref lc2])), (ch3, .inr (2, [.ref lc3])), (ch4, .inr (2, [.ref lc4])), (ch5, .inr (2, [.ref lc5])), (ch6, .inr (2, [.ref lc6])), (ch7, .inr (2, [.ref lc7])), (ch8, .inr (2, [.ref lc8])), (ch9, .inr (2, [.ref lc9])), (lc0, .inr (0, [.int lm0, le0, .int 0])), (lc1, .inr (0, [.int lm1, le1, .int 0])), (lc2, .inr (0, [.int lm2, le2, .int 0])), (lc3, .inr (0, [.int lm3, le3, .int 0])), (lc4, .inr (0, [.int lm4, le4, .int 0])), (lc5, .inr (0, [.int lm5, le5, .int 0])), (lc6, .inr (0, [.int lm6, le6, .int 0])), (lc7, .inr (0, [.int lm7, le7, .int 0])), (lc8, .inr (0, [.int lm8, le8, .int 0])), (lc9, .inr (0, [.int lm9, le9, .int 0])), (out, .inl (tO, 1, .inr (.inl fo)))] s.heap.size = A at hD hE ⊢
  have hA : ∀ q : Nat, s.heap.size ≤ q → A q := fun q h => by rw [← hAe]; exact Or.inr h
  obtain ⟨H, hH0⟩ : ∃ H, s.heap = H := ⟨_, rfl⟩
  have hS : va_S A s.heap H [] := by rw [← hH0]; exact va_S.rf
  rw [hH0] at hP
  have hl := lv_entry ([.ref h0, .int a1, .ref out]) (n := 4) (Nat.le_of_ble_eq_true rfl)
  rw [lg_entry_eq]
  generalize (lg_sl ([.ref h0, .int a1, .ref out]) ++ List.replicate (4 - (lg_sl ([.ref h0, .int a1, .ref out])).length) Slot.unset).toArray = ls at hl ⊢
  have hl : lv_has ls 4 [(0, .ref h0), (1, .int a1), (2, .ref out)] := hl
  rw [hH0]
  refine lv_aload_n hx hb dL_deliver_0 rfl (lv_at hl 2 rfl) ?_
  refine lv_iconst (v := 0) hx hb dL_deliver_1 (by decide) ?_
  refine lv_aload_n hx hb dL_deliver_2 rfl (lv_at hl 0 rfl) ?_
  refine lv_iload_n hx hb dL_deliver_3 rfl (lv_at hl 1 rfl) ?_
  have hPc := hP.sub (ws' := [(h0, .inr (12, [t0, .ref ca, t2, t3, t4, t5])), (ca, .inl (tH, 10, .inr (.inr (.inr (.inr ((va_up (va_up (va_up (va_up (va_up (va_up (va_up (va_up (va_up (va_up (fun _ => none) 0 (some ch0)) 1 (some ch1)) 2 (some ch2)) 3 (some ch3)) 4 (some ch4)) 5 (some ch5)) 6 (some ch6)) 7 (some ch7)) 8 (some ch8)) 9 (some ch9)))))))), (ch0, .inr (2, [.ref lc0])), (ch1, .inr (2, [.ref lc1])), (ch2, .inr (2, [.ref lc2])), (ch3, .inr (2, [.ref lc3])), (ch4, .inr (2, [.ref lc4])), (ch5, .inr (2, [.ref lc5])), (ch6, .inr (2, [.ref lc6])), (ch7, .inr (2, [.ref lc7])), (ch8, .inr (2, [.ref lc8])), (ch9, .inr (2, [.ref lc9])), (lc0, .inr (0, [.int lm0, le0, .int 0])), (lc1, .inr (0, [.int lm1, le1, .int 0])), (lc2, .inr (0, [.int lm2, le2, .int 0])), (lc3, .inr (0, [.int lm3, le3, .int 0])), (lc4, .inr (0, [.int lm4, le4, .int 0])), (lc5, .inr (0, [.int lm5, le5, .int 0])), (lc6, .inr (0, [.int lm6, le6, .int 0])), (lc7, .inr (0, [.int lm7, le7, .int 0])), (lc8, .inr (0, [.int lm8, le8, .int 0])), (lc9, .inr (0, [.int lm9, le9, .int 0]))]) [0, 1, 2, 3, 4, 5, 6, 7, 8, 9, 10, 11, 12, 13, 14, 15, 16, 17, 18, 19, 20, 21] rfl
  have hDc := hD.sub (ws' := [(h0, .inr (12, [t0, .ref ca, t2, t3, t4, t5])), (ca, .inl (tH, 10, .inr (.inr (.inr (.inr ((va_up (va_up (va_up (va_up (va_up (va_up (va_up (va_up (va_up (va_up (fun _ => none) 0 (some ch0)) 1 (some ch1)) 2 (some ch2)) 3 (some ch3)) 4 (some ch4)) 5 (some ch5)) 6 (some ch6)) 7 (some ch7)) 8 (some ch8)) 9 (some ch9)))))))), (ch0, .inr (2, [.ref lc0])), (ch1, .inr (2, [.ref lc1])), (ch2, .inr (2, [.ref lc2])), (ch3, .inr (2, [.ref lc3])), (ch4, .inr (2, [.ref lc4])), (ch5, .inr (2, [.ref lc5])), (ch6, .inr (2, [.ref lc6])), (ch7, .inr (2, [.ref lc7])), (ch8, .inr (2, [.ref lc8])), (ch9, .inr (2, [.ref lc9])), (lc0, .inr (0, [.int lm0, le0, .int 0])), (lc1, .inr (0, [.int lm1, le1, .int 0])), (lc2, .inr (0, [.int lm2, le2, .int 0])), (lc3, .inr (0, [.int lm3, le3, .int 0])), (lc4, .inr (0, [.int lm4, le4, .int 0])), (lc5, .inr (0, [.int lm5, le5, .int 0])), (lc6, .inr (0, [.int lm6, le6, .int 0])), (lc7, .inr (0, [.int lm7, le7, .int 0])), (lc8, .inr (0, [.int lm8, le8, .int 0])), (lc9, .inr (0, [.int lm9, le9, .int 0]))]) [0, 1, 2, 3, 4, 5, 6, 7, 8, 9, 10, 11, 12, 13, 14, 15, 16, 17, 18, 19, 20, 21] (by decide) rfl
  have hKc := hK.sub (tys' := [(tH, .object RX1)]) [0] rfl
  have hFc := freeNil hS hA
  refine vx_calli (vx_runV (As := [.int a1]) (rest := [.int 0, .ref out]) ⟨hx, hb, hml, hown, ht⟩ (k_X11_deliver l hL d0 cO dC dI H.size h0 ca t0 t2 t3 t4 t5 tH ch0 ch1 ch2 ch3 ch4 ch5 ch6 ch7 ch8 ch9 lc0 lc1 lc2 lc3 lc4 lc5 lc6 lc7 lc8 lc9 lm0 lm1 lm2 lm3 lm4 lm5 lm6 lm7 lm8 lm9 le0 le1 le2 le3 le4 le5 le6 le7 le8 le9 a1) (my_V ht M_X11_deliver q1617 q1618 q1616 (Nat.le_of_ble_eq_true rfl) (Nat.le_of_ble_eq_true rfl)) ⟨PREp.fb, va_recv hK hP (ci := 12) (q0 := 0) rfl rfl, fun U hU hW => ⟨rfl, PREp.mk' hE hS hFc hPc hKc U hU hW⟩⟩ rfl rfl hl.1 rfl (lv_room (Nat.le_of_ble_eq_true rfl)) dL_deliver_4 ⟨(Nat.le_of_ble_eq_true rfl), (Nat.le_of_ble_eq_true rfl)⟩) hS (fun q _ h => hFc q h) hFc (fun q _ h => hFc q h) (fun E ce q9 ux t H1 locs htt hvm hw hB hz1 hk1 hS hcell hv9 hcl9 => ?_) (fun r2 u1 t H1 locs htt hvm hw hB hz1 hk1 hS => ?_)
  · skip
    obtain ⟨rfl, hnP⟩ := hB
    have hP := keepAll hP hk1
    generalize H1 = H at hP hS hcell ⊢
    have hP : va_P (dC, dI) vwCl [(h0, .inr (12, [t0, .ref ca, t2, t3, t4, t5])), (ca, .inl (tH, 10, .inr (.inr (.inr (.inr ((va_up (va_up (va_up (va_up (va_up (va_up (va_up (va_up (va_up (va_up (fun _ => none) 0 (some ch0)) 1 (some ch1)) 2 (some ch2)) 3 (some ch3)) 4 (some ch4)) 5 (some ch5)) 6 (some ch6)) 7 (some ch7)) 8 (some ch8)) 9 (some ch9)))))))), (ch0, .inr (2, [.ref lc0])), (ch1, .inr (2, [.ref lc1])), (ch2, .inr (2, [.ref lc2])), (ch3, .inr (2, [.ref lc3])), (ch4, .inr (2, [.ref lc4])), (ch5, .inr (2, [.ref lc5])), (ch6, .inr (2, [.ref lc6])), (ch7, .inr (2, [.ref lc7])), (ch8, .inr (2, [.ref lc8])), (ch9, .inr (2, [.ref lc9])), (lc0, .inr (0, [.int lm0, le0, .int 0])), (lc1, .inr (0, [.int lm1, le1, .int 0])), (lc2, .inr (0, [.int lm2, le2, .int 0])), (lc3, .inr (0, [.int lm3, le3, .int 0])), (lc4, .inr (0, [.int lm4, le4, .int 0])), (lc5, .inr (0, [.int lm5, le5, .int 0])), (lc6, .inr (0, [.int lm6, le6, .int 0])), (lc7, .inr (0, [.int lm7, le7, .int 0])), (lc8, .inr (0, [.int lm8, le8, .int 0])), (lc9, .inr (0, [.int lm9, le9, .int 0])), (out, .inl (tO, 1, .inr (.inl fo)))] H := hP
    have hD : va_D A [(h0, .inr (12, [t0, .ref ca, t2, t3, t4, t5])), (ca, .inl (tH, 10, .inr (.inr (.inr (.inr ((va_up (va_up (va_up (va_up (va_up (va_up (va_up (va_up (va_up (va_up (fun _ => none) 0 (some ch0)) 1 (some ch1)) 2 (some ch2)) 3 (some ch3)) 4 (some ch4)) 5 (some ch5)) 6 (some ch6)) 7 (some ch7)) 8 (some ch8)) 9 (some ch9)))))))), (ch0, .inr (2, [.ref lc0])), (ch1, .inr (2, [.ref lc1])), (ch2, .inr (2, [.ref lc2])), (ch3, .inr (2, [.ref lc3])), (ch4, .inr (2, [.ref lc4])), (ch5, .inr (2, [.ref lc5])), (ch6, .inr (2, [.ref lc6])), (ch7, .inr (2, [.ref lc7])), (ch8, .inr (2, [.ref lc8])), (ch9, .inr (2, [.ref lc9])), (lc0, .inr (0, [.int lm0, le0, .int 0])), (lc1, .inr (0, [.int lm1, le1, .int 0])), (lc2, .inr (0, [.int lm2, le2, .int 0])), (lc3, .inr (0, [.int lm3, le3, .int 0])), (lc4, .inr (0, [.int lm4, le4, .int 0])), (lc5, .inr (0, [.int lm5, le5, .int 0])), (lc6, .inr (0, [.int lm6, le6, .int 0])), (lc7, .inr (0, [.int lm7, le7, .int 0])), (lc8, .inr (0, [.int lm8, le8, .int 0])), (lc9, .inr (0, [.int lm9, le9, .int 0])), (out, .inl (tO, 1, .inr (.inl fo)))] := hD
    refine vx_catch hown [] ⟨0, 9, 12, 20⟩ [] (htab.trans rfl) (fun z h => by simp at h) (by decide) (by decide) (ht _ q1120) (ht _ q1132) hcell hv9 hcl9 ?_
    refine W.eq (g2 := F0 m 12 ls [.ref q9]) rfl ?_
    refine lv_astore_n (lv' := [(3, .ref q9), (0, .ref h0), (1, .int a1), (2, .ref out)]) hx hb dL_deliver_12 rfl hl (by decide) rfl (fun ls hl => ?_)
    refine lv_iconst (v := 1) hx hb dL_deliver_13 (by decide) ?_
    have hP9 := hP.sub (ws' := [(out, .inl (tO, 1, .inr (.inl fo)))]) [22] rfl
    have hD9 := hD.sub (ws' := [(out, .inl (tO, 1, .inr (.inl fo)))]) [22] (by decide) rfl
    have hK9 := hK.sub (tys' := [(tO, .long)]) [1] rfl
    refine W.widen (k := 1) (n := 6) (Nat.le_of_ble_eq_true rfl) (Nat.le_of_ble_eq_true rfl) ?_
    refine vx_ret ?_
    exact W.iret (v := 1) hx hb hr (fun t ht9 hW9 => ⟨⟨1, fo, rfl, ⟨fun h => absurd h hnP, fun _ => rfl⟩, POW.mk' ht9 hW9.alike hP9 hK9 hD9⟩, hS.F ht9⟩) hS.2.2 dL_deliver_14
  · skip
    try dsimp only at hw hB
    have hP1 := hB
    have hP := keepAll hP hk1
    generalize H1 = H at hP hS ⊢
    have hP : va_P (dC, dI) vwCl [(h0, .inr (12, [t0, .ref ca, t2, t3, t4, t5])), (ca, .inl (tH, 10, .inr (.inr (.inr (.inr ((va_up (va_up (va_up (va_up (va_up (va_up (va_up (va_up (va_up (va_up (fun _ => none) 0 (some ch0)) 1 (some ch1)) 2 (some ch2)) 3 (some ch3)) 4 (some ch4)) 5 (some ch5)) 6 (some ch6)) 7 (some ch7)) 8 (some ch8)) 9 (some ch9)))))))), (ch0, .inr (2, [.ref lc0])), (ch1, .inr (2, [.ref lc1])), (ch2, .inr (2, [.ref lc2])), (ch3, .inr (2, [.ref lc3])), (ch4, .inr (2, [.ref lc4])), (ch5, .inr (2, [.ref lc5])), (ch6, .inr (2, [.ref lc6])), (ch7, .inr (2, [.ref lc7])), (ch8, .inr (2, [.ref lc8])), (ch9, .inr (2, [.ref lc9])), (lc0, .inr (0, [.int lm0, le0, .int 0])), (lc1, .inr (0, [.int lm1, le1, .int 0])), (lc2, .inr (0, [.int lm2, le2, .int 0])), (lc3, .inr (0, [.int lm3, le3, .int 0])), (lc4, .inr (0, [.int lm4, le4, .int 0])), (lc5, .inr (0, [.int lm5, le5, .int 0])), (lc6, .inr (0, [.int lm6, le6, .int 0])), (lc7, .inr (0, [.int lm7, le7, .int 0])), (lc8, .inr (0, [.int lm8, le8, .int 0])), (lc9, .inr (0, [.int lm9, le9, .int 0])), (out, .inl (tO, 1, .inr (.inl fo)))] H := hP
    have hD : va_D A [(h0, .inr (12, [t0, .ref ca, t2, t3, t4, t5])), (ca, .inl (tH, 10, .inr (.inr (.inr (.inr ((va_up (va_up (va_up (va_up (va_up (va_up (va_up (va_up (va_up (va_up (fun _ => none) 0 (some ch0)) 1 (some ch1)) 2 (some ch2)) 3 (some ch3)) 4 (some ch4)) 5 (some ch5)) 6 (some ch6)) 7 (some ch7)) 8 (some ch8)) 9 (some ch9)))))))), (ch0, .inr (2, [.ref lc0])), (ch1, .inr (2, [.ref lc1])), (ch2, .inr (2, [.ref lc2])), (ch3, .inr (2, [.ref lc3])), (ch4, .inr (2, [.ref lc4])), (ch5, .inr (2, [.ref lc5])), (ch6, .inr (2, [.ref lc6])), (ch7, .inr (2, [.ref lc7])), (ch8, .inr (2, [.ref lc8])), (ch9, .inr (2, [.ref lc9])), (lc0, .inr (0, [.int lm0, le0, .int 0])), (lc1, .inr (0, [.int lm1, le1, .int 0])), (lc2, .inr (0, [.int lm2, le2, .int 0])), (lc3, .inr (0, [.int lm3, le3, .int 0])), (lc4, .inr (0, [.int lm4, le4, .int 0])), (lc5, .inr (0, [.int lm5, le5, .int 0])), (lc6, .inr (0, [.int lm6, le6, .int 0])), (lc7, .inr (0, [.int lm7, le7, .int 0])), (lc8, .inr (0, [.int lm8, le8, .int 0])), (lc9, .inr (0, [.int lm9, le9, .int 0])), (out, .inl (tO, 1, .inr (.inl fo)))] := hD
    have hK : va_K (dC, dI) vwCl [(tH, .object RX1), (tO, .long)] s := hK
    refine W.widen (k := 1) (n := 6) (Nat.le_of_ble_eq_true rfl) (Nat.le_of_ble_eq_true rfl) ?_
    obtain ⟨hP0, hw⟩ := hw
    subst hw
    refine lv_i2l (v := (-1).toInt64) hx hb dL_deliver_7 rfl ?_
    refine va_last hx hb hK hP hD hS 22 1 rfl rfl (vp_in_nI (n := 0) (by decide) (by decide)) dL_deliver_8 (fun H locs hP hD hS => ?_)
    have hP : va_P (dC, dI) vwCl [(h0, .inr (12, [t0, .ref ca, t2, t3, t4, t5])), (ca, .inl (tH, 10, .inr (.inr (.inr (.inr ((va_up (va_up (va_up (va_up (va_up (va_up (va_up (va_up (va_up (va_up (fun _ => none) 0 (some ch0)) 1 (some ch1)) 2 (some ch2)) 3 (some ch3)) 4 (some ch4)) 5 (some ch5)) 6 (some ch6)) 7 (some ch7)) 8 (some ch8)) 9 (some ch9)))))))), (ch0, .inr (2, [.ref lc0])), (ch1, .inr (2, [.ref lc1])), (ch2, .inr (2, [.ref lc2])), (ch3, .inr (2, [.ref lc3])), (ch4, .inr (2, [.ref lc4])), (ch5, .inr (2, [.ref lc5])), (ch6, .inr (2, [.ref lc6])), (ch7, .inr (2, [.ref lc7])), (ch8, .inr (2, [.ref lc8])), (ch9, .inr (2, [.ref lc9])), (lc0, .inr (0, [.int lm0, le0, .int 0])), (lc1, .inr (0, [.int lm1, le1, .int 0])), (lc2, .inr (0, [.int lm2, le2, .int 0])), (lc3, .inr (0, [.int lm3, le3, .int 0])), (lc4, .inr (0, [.int lm4, le4, .int 0])), (lc5, .inr (0, [.int lm5, le5, .int 0])), (lc6, .inr (0, [.int lm6, le6, .int 0])), (lc7, .inr (0, [.int lm7, le7, .int 0])), (lc8, .inr (0, [.int lm8, le8, .int 0])), (lc9, .inr (0, [.int lm9, le9, .int 0])), (out, .inl (tO, 1, .inr (.inl ((vp_updL fo 0 ((-1).toInt64))))))] H := hP
    have hD : va_D A [(h0, .inr (12, [t0, .ref ca, t2, t3, t4, t5])), (ca, .inl (tH, 10, .inr (.inr (.inr (.inr ((va_up (va_up (va_up (va_up (va_up (va_up (va_up (va_up (va_up (va_up (fun _ => none) 0 (some ch0)) 1 (some ch1)) 2 (some ch2)) 3 (some ch3)) 4 (some ch4)) 5 (some ch5)) 6 (some ch6)) 7 (some ch7)) 8 (some ch8)) 9 (some ch9)))))))), (ch0, .inr (2, [.ref lc0])), (ch1, .inr (2, [.ref lc1])), (ch2, .inr (2, [.ref lc2])), (ch3, .inr (2, [.ref lc3])), (ch4, .inr (2, [.ref lc4])), (ch5, .inr (2, [.ref lc5])), (ch6, .inr (2, [.ref lc6])), (ch7, .inr (2, [.ref lc7])), (ch8, .inr (2, [.ref lc8])), (ch9, .inr (2, [.ref lc9])), (lc0, .inr (0, [.int lm0, le0, .int 0])), (lc1, .inr (0, [.int lm1, le1, .int 0])), (lc2, .inr (0, [.int lm2, le2, .int 0])), (lc3, .inr (0, [.int lm3, le3, .int 0])), (lc4, .inr (0, [.int lm4, le4, .int 0])), (lc5, .inr (0, [.int lm5, le5, .int 0])), (lc6, .inr (0, [.int lm6, le6, .int 0])), (lc7, .inr (0, [.int lm7, le7, .int 0])), (lc8, .inr (0, [.int lm8, le8, .int 0])), (lc9, .inr (0, [.int lm9, le9, .int 0])), (out, .inl (tO, 1, .inr (.inl ((vp_updL fo 0 ((-1).toInt64))))))] := hD
    refine lv_goto (tgt := 15) hx hb dL_deliver_9 (by decide) ?_
    refine lv_iconst (v := 0) hx hb dL_deliver_15 (by decide) ?_
    have hP9 := hP.sub (ws' := [(out, .inl (tO, 1, .inr (.inl ((vp_updL fo 0 ((-1).toInt64))))))]) [22] rfl
    have hD9 := hD.sub (ws' := [(out, .inl (tO, 1, .inr (.inl ((vp_updL fo 0 ((-1).toInt64))))))]) [22] (by decide) rfl
    have hK9 := hK.sub (tys' := [(tO, .long)]) [1] rfl
    refine W.widen (k := 1) (n := 6) (Nat.le_of_ble_eq_true rfl) (Nat.le_of_ble_eq_true rfl) ?_
    refine vx_ret ?_
    exact W.iret (v := 0) hx hb hr (fun t ht9 hW9 => ⟨⟨0, ((vp_updL fo 0 ((-1).toInt64))), rfl, ⟨fun _ => ⟨rfl, by first | rfl | decide | simp [vp_updL]⟩, fun h => absurd hP0 h⟩, POW.mk' ht9 hW9.alike hP9 hK9 hD9⟩, hS.F ht9⟩) hS.2.2 dL_deliver_16
set_option maxHeartbeats 4000000 in
set_option maxRecDepth 100000 in
theorem k_L_waiting (l : Launch) (hL : l.stackTraces = false) (d0 : Nat) (cO : ClassId) (dC : Nat → ClassId) (dI : Nat → Nat → Nat) (sz : Nat) (h0 ca : Nat) (t0 t2 t3 t4 t5 : Value) (tH : ClassId) (ch0 ch1 ch2 ch3 ch4 ch5 ch6 ch7 ch8 ch9 : Nat) (lc0 lc1 lc2 lc3 lc4 lc5 lc6 lc7 lc8 lc9 : Nat) (lm0 lm1 lm2 lm3 lm4 lm5 lm6 lm7 lm8 lm9 : Int32) (le0 le1 le2 le3 le4 le5 le6 le7 le8 le9 : Value) (a1 : Int32) (out : Nat) (tO : ClassId) (fo : Nat → Int64) : vx_Met l yL_waiting (cnW yL_waiting cL_waiting 4 (some FieldType.int) [(0, 9, 12, 20)]) (rmd 8 1 6) (va_Pc [.ref h0, .int a1, .ref out] (PRE d0 cO (dC, dI) (va_A [(h0, .inr (12, [t0, .ref ca, t2, t3, t4, t5])), (ca, .inl (tH, 10, .inr (.inr (.inr (.inr ((va_up (va_up (va_up (va_up (va_up (va_up (va_up (va_up (va_up (va_up (fun _ => none) 0 (some ch0)) 1 (some ch1)) 2 (some ch2)) 3 (some ch3)) 4 (some ch4)) 5 (some ch5)) 6 (some ch6)) 7 (some ch7)) 8 (some ch8)) 9 (some ch9)))))))), (ch0, .inr (2, [.ref lc0])), (ch1, .inr (2, [.ref lc1])), (ch2, .inr (2, [.ref lc2])), (ch3, .inr (2, [.ref lc3])), (ch4, .inr (2, [.ref lc4])), (ch5, .inr (2, [.ref lc5])), (ch6, .inr (2, [.ref lc6])), (ch7, .inr (2, [.ref lc7])), (ch8, .inr (2, [.ref lc8])), (ch9, .inr (2, [.ref lc9])), (lc0, .inr (0, [.int lm0, le0, .int 0])), (lc1, .inr (0, [.int lm1, le1, .int 0])), (lc2, .inr (0, [.int lm2, le2, .int 0])), (lc3, .inr (0, [.int lm3, le3, .int 0])), (lc4, .inr (0, [.int lm4, le4, .int 0])), (lc5, .inr (0, [.int lm5, le5, .int 0])), (lc6, .inr (0, [.int lm6, le6, .int 0])), (lc7, .inr (0, [.int lm7, le7, .int 0])), (lc8, .inr (0, [.int lm8, le8, .int 0])), (lc9, .inr (0, [.int lm9, le9, .int 0])), (out, .inl (tO, 1, .inr (.inl fo)))] sz) [(h0, .inr (12, [t0, .ref ca, t2, t3, t4, t5])), (ca, .inl (tH, 10, .inr (.inr (.inr (.inr ((va_up (va_up (va_up (va_up (va_up (va_up (va_up (va_up (va_up (va_up (fun _ => none) 0 (some ch0)) 1 (some ch1)) 2 (some ch2)) 3 (some ch3)) 4 (some ch4)) 5 (some ch5)) 6 (some ch6)) 7 (some ch7)) 8 (some ch8)) 9 (some ch9)))))))), (ch0, .inr (2, [.ref lc0])), (ch1, .inr (2, [.ref lc1])), (ch2, .inr (2, [.ref lc2])), (ch3, .inr (2, [.ref lc3])), (ch4, .inr (2, [.ref lc4])), (ch5, .inr (2, [.ref lc5])), (ch6, .inr (2, [.ref lc6])), (ch7, .inr (2, [.ref lc7])), (ch8, .inr (2, [.ref lc8])), (ch9, .inr (2, [.ref lc9])), (lc0, .inr (0, [.int lm0, le0, .int 0])), (lc1, .inr (0, [.int lm1, le1, .int 0])), (lc2, .inr (0, [.int lm2, le2, .int 0])), (lc3, .inr (0, [.int lm3, le3, .int 0])), (lc4, .inr (0, [.int lm4, le4, .int 0])), (lc5, .inr (0, [.int lm5, le5, .int 0])), (lc6, .inr (0, [.int lm6, le6, .int 0])), (lc7, .inr (0, [.int lm7, le7, .int 0])), (lc8, .inr (0, [.int lm8, le8, .int 0])), (lc9, .inr (0, [.int lm9, le9, .int 0])), (out, .inl (tO, 1, .inr (.inl fo)))] [(tH, .object RX1), (tO, .long)] sz)) (va_Qi (fun (r : Int32) (u : Nat → Int64) => ((0 ≤ a1 ∧ a1 ≤ 9) → r = 0 ∧ u 0 = 0) ∧ (¬ (0 ≤ a1 ∧ a1 ≤ 9) → r = 1)) (fun (u : Nat → Int64) (t : State) => POW (dC, dI) (va_A [(h0, .inr (12, [t0, .ref ca, t2, t3, t4, t5])), (ca, .inl (tH, 10, .inr (.inr (.inr (.inr ((va_up (va_up (va_up (va_up (va_up (va_up (va_up (va_up (va_up (va_up (fun _ => none) 0 (some ch0)) 1 (some ch1)) 2 (some ch2)) 3 (some ch3)) 4 (some ch4)) 5 (some ch5)) 6 (some ch6)) 7 (some ch7)) 8 (some ch8)) 9 (some ch9)))))))), (ch0, .inr (2, [.ref lc0])), (ch1, .inr (2, [.ref lc1])), (ch2, .inr (2, [.ref lc2])), (ch3, .inr (2, [.ref lc3])), (ch4, .inr (2, [.ref lc4])), (ch5, .inr (2, [.ref lc5])), (ch6, .inr (2, [.ref lc6])), (ch7, .inr (2, [.ref lc7])), (ch8, .inr (2, [.ref lc8])), (ch9, .inr (2, [.ref lc9])), (lc0, .inr (0, [.int lm0, le0, .int 0])), (lc1, .inr (0, [.int lm1, le1, .int 0])), (lc2, .inr (0, [.int lm2, le2, .int 0])), (lc3, .inr (0, [.int lm3, le3, .int 0])), (lc4, .inr (0, [.int lm4, le4, .int 0])), (lc5, .inr (0, [.int lm5, le5, .int 0])), (lc6, .inr (0, [.int lm6, le6, .int 0])), (lc7, .inr (0, [.int lm7, le7, .int 0])), (lc8, .inr (0, [.int lm8, le8, .int 0])), (lc9, .inr (0, [.int lm9, le9, .int 0])), (out, .inl (tO, 1, .inr (.inl fo)))] sz) [(out, .inl (tO, 1, .inr (.inl u)))] [(tO, .long)] t) (va_A [(h0, .inr (12, [t0, .ref ca, t2, t3, t4, t5])), (ca, .inl (tH, 10, .inr (.inr (.inr (.inr ((va_up (va_up (va_up (va_up (va_up (va_up (va_up (va_up (va_up (va_up (fun _ => none) 0 (some ch0)) 1 (some ch1)) 2 (some ch2)) 3 (some ch3)) 4 (some ch4)) 5 (some ch5)) 6 (some ch6)) 7 (some ch7)) 8 (some ch8)) 9 (some ch9)))))))), (ch0, .inr (2, [.ref lc0])), (ch1, .inr (2, [.ref lc1])), (ch2, .inr (2, [.ref lc2])), (ch3, .inr (2, [.ref lc3])), (ch4, .inr (2, [.ref lc4])), (ch5, .inr (2, [.ref lc5])), (ch6, .inr (2, [.ref lc6])), (ch7, .inr (2, [.ref lc7])), (ch8, .inr (2, [.ref lc8])), (ch9, .inr (2, [.ref lc9])), (lc0, .inr (0, [.int lm0, le0, .int 0])), (lc1, .inr (0, [.int lm1, le1, .int 0])), (lc2, .inr (0, [.int lm2, le2, .int 0])), (lc3, .inr (0, [.int lm3, le3, .int 0])), (lc4, .inr (0, [.int lm4, le4, .int 0])), (lc5, .inr (0, [.int lm5, le5, .int 0])), (lc6, .inr (0, [.int lm6, le6, .int 0])), (lc7, .inr (0, [.int lm7, le7, .int 0])), (lc8, .inr (0, [.int lm8, le8, .int 0])), (lc9, .inr (0, [.int lm9, le9, .int 0])), (out, .inl (tO, 1, .inr (.inl fo)))] sz)) (vx_X (fun _ : Unit => True) (fun E _ _ => False) (va_A [(h0, .inr (12, [t0, .ref ca, t2, t3, t4, t5])), (ca, .inl (tH, 10, .inr (.inr (.inr (.inr ((va_up (va_up (va_up (va_up (va_up (va_up (va_up (va_up (va_up (va_up (fun _ => none) 0 (some ch0)) 1 (some ch1)) 2 (some ch2)) 3 (some ch3)) 4 (some ch4)) 5 (some ch5)) 6 (some ch6)) 7 (some ch7)) 8 (some ch8)) 9 (some ch9)))))))), (ch0, .inr (2, [.ref lc0])), (ch1, .inr (2, [.ref lc1])), (ch2, .inr (2, [.ref lc2])), (ch3, .inr (2, [.ref lc3])), (ch4, .inr (2, [.ref lc4])), (ch5, .inr (2, [.ref lc5])), (ch6, .inr (2, [.ref lc6])), (ch7, .inr (2, [.ref lc7])), (ch8, .inr (2, [.ref lc8])), (ch9, .inr (2, [.ref lc9])), (lc0, .inr (0, [.int lm0, le0, .int 0])), (lc1, .inr (0, [.int lm1, le1, .int 0])), (lc2, .inr (0, [.int lm2, le2, .int 0])), (lc3, .inr (0, [.int lm3, le3, .int 0])), (lc4, .inr (0, [.int lm4, le4, .int 0])), (lc5, .inr (0, [.int lm5, le5, .int 0])), (lc6, .inr (0, [.int lm6, le6, .int 0])), (lc7, .inr (0, [.int lm7, le7, .int 0])), (lc8, .inr (0, [.int lm8, le8, .int 0])), (lc9, .inr (0, [.int lm9, le9, .int 0])), (out, .inl (tO, 1, .inr (.inl fo)))] sz)) 1 6 (va_A [(h0, .inr (12, [t0, .ref ca, t2, t3, t4, t5])), (ca, .inl (tH, 10, .inr (.inr (.inr (.inr ((va_up (va_up (va_up (va_up (va_up (va_up (va_up (va_up (va_up (va_up (fun _ => none) 0 (some ch0)) 1 (some ch1)) 2 (some ch2)) 3 (some ch3)) 4 (some ch4)) 5 (some ch5)) 6 (some ch6)) 7 (some ch7)) 8 (some ch8)) 9 (some ch9)))))))), (ch0, .inr (2, [.ref lc0])), (ch1, .inr (2, [.ref lc1])), (ch2, .inr (2, [.ref lc2])), (ch3, .inr (2, [.ref lc3])), (ch4, .inr (2, [.ref lc4])), (ch5, .inr (2, [.ref lc5])), (ch6, .inr (2, [.ref lc6])), (ch7, .inr (2, [.ref lc7])), (ch8, .inr (2, [.ref lc8])), (ch9, .inr (2, [.ref lc9])), (lc0, .inr (0, [.int lm0, le0, .int 0])), (lc1, .inr (0, [.int lm1, le1, .int 0])), (lc2, .inr (0, [.int lm2, le2, .int 0])), (lc3, .inr (0, [.int lm3, le3, .int 0])), (lc4, .inr (0, [.int lm4, le4, .int 0])), (lc5, .inr (0, [.int lm5, le5, .int 0])), (lc6, .inr (0, [.int lm6, le6, .int 0])), (lc7, .inr (0, [.int lm7, le7, .int 0])), (lc8, .inr (0, [.int lm8, le8, .int 0])), (lc9, .inr (0, [.int lm9, le9, .int 0])), (out, .inl (tO, 1, .inr (.inl fo)))] sz) := by
  refine vx_ofWH (cc := cL_waiting) (maxL := 4) (ret := (some FieldType.int)) (hh := [(0, 9, 12, 20)]) (by decide) rfl ?_
  intro p e s m args below meth c s₁ B hml hv
  obtain ⟨rfl, hsz, hE, hP, hK, hD0⟩ := hv
  have hx := B.exec
  have hb := B.bytes
  have hr := B.returns
  have hts := atoms_spec (ws := cnW yL_waiting cL_waiting 4 (some FieldType.int) [(0, 9, 12, 20)]) B.pre
  have ht : ∀ w ∈ GT, w.before _ s = true := fun w h => hts w (List.mem_cons_of_mem _ h)
  have htab := vx_table (x := yL_waiting) B (hts _ List.mem_cons_self)
  have hown : s.vm.findClass RL = some m.cls := findClass_of_methodNamed B.named
  have hlocks := B.notSynchronized
  subst hsz
  have hD := hD0.self (sz := s.heap.size)
  generalize hAe : va_A [(h0, .inr (12, [t0, .ref ca, t2, t3, t4, t5])), (ca, .inl (tH, 10, .inr (.inr (.inr (.inr ((va_up (va_up (va_up (va_up (va_up (va_up (va_up (va_up (va_up (va_up (fun _ => none) 0 (some ch0)) 1 (some ch1)) 2 (some ch2)) 3 (some ch3)) 4 (some ch4)) 5 (some ch5)) 6 (some ch6)) 7 (some ch7)) 8 (some ch8)) 9 (some ch9)))))))), (ch0, .inr (2, [.ref lc0])), (ch1, .inr (2, [.ref lc1])), (ch2, .inr (2, [.ref lc2])), (ch3, .inr (2, [.ref lc3])), (ch4, .inr (2, [.ref lc4])), (ch5, .inr (2, [.ref lc5])), (ch6, .inr (2, [.ref lc6])), (ch7, .inr (2, [.ref lc7])), (ch8, .inr (2, [.ref lc8])), (ch9, .inr (2, [.ref lc9])), (lc0, .inr (0, [.int lm0, le0, .int 0])), (lc1, .inr (0, [.int lm1, le1, .int 0])), (lc2, .inr (0, [.int lm2, le2, .int 0])), (lc3, .inr (0, [.int lm3, le3, .int 0])), (lc4, .inr (0, [.int lm4, le4, .int 0])), (lc5, .inr (0, [.int lm5, le5, .int 0])), (lc6, .inr (0, [.int lm6, le6, .int 0])), (lc7, .inr (0, [.int lm7, le7, .int 0])), (lc8, .inr (0, [.int lm8, le8, .int 0])), (lc9, .inr (0, [.int lm9, le9, .int 0])), (out, .inl (tO, 1, .inr (.inl fo)))] s.heap.size = A at hD hE ⊢
  have hA : ∀ q : Nat, s.heap.size ≤ q → A q := fun q h => by rw [← hAe]; exact Or.inr h
  obtain ⟨H, hH0⟩ : ∃ H, s.heap = H := ⟨_, rfl⟩
  have hS : va_S A s.heap H [] := by rw [← hH0]; exact va_S.rf
  rw [hH0] at hP
  have hl := lv_entry ([.ref h0, .int a1, .ref out]) (n := 4) (Nat.le_of_ble_eq_true rfl)
  rw [lg_entry_eq]
  generalize (lg_sl ([.ref h0, .int a1, .ref out]) ++ List.replicate (4 - (lg_sl ([.ref h0, .int a1, .ref out])).length) Slot.unset).toArray = ls at hl ⊢
  have hl : lv_has ls 4 [(0, .ref h0), (1, .int a1), (2, .ref out)] := hl
  rw [hH0]
  refine lv_aload_n hx hb dL_waiting_0 rfl (lv_at hl 2 rfl) ?_
  refine lv_iconst (v := 0) hx hb dL_waiting_1 (by decide) ?_
  refine lv_aload_n hx hb dL_waiting_2 rfl (lv_at hl 0 rfl) ?_
  refine lv_iload_n hx hb dL_waiting_3 rfl (lv_at hl 1 rfl) ?_
  have hPc := hP.sub (ws' := [(h0, .inr (12, [t0, .ref ca, t2, t3, t4, t5])), (ca, .inl (tH, 10, .inr (.inr (.inr (.inr ((va_up (va_up (va_up (va_up (va_up (va_up (va_up (va_up (va_up (va_up (fun _ => none) 0 (some ch0)) 1 (some ch1)) 2 (some ch2)) 3 (some ch3)) 4 (some ch4)) 5 (some ch5)) 6 (some ch6)) 7 (some ch7)) 8 (some ch8)) 9 (some ch9)))))))), (ch0, .inr (2, [.ref lc0])), (ch1, .inr (2, [.ref lc1])), (ch2, .inr (2, [.ref lc2])), (ch3, .inr (2, [.ref lc3])), (ch4, .inr (2, [.ref lc4])), (ch5, .inr (2, [.ref lc5])), (ch6, .inr (2, [.ref lc6])), (ch7, .inr (2, [.ref lc7])), (ch8, .inr (2, [.ref lc8])), (ch9, .inr (2, [.ref lc9])), (lc0, .inr (0, [.int lm0, le0, .int 0])), (lc1, .inr (0, [.int lm1, le1, .int 0])), (lc2, .inr (0, [.int lm2, le2, .int 0])), (lc3, .inr (0, [.int lm3, le3, .int 0])), (lc4, .inr (0, [.int lm4, le4, .int 0])), (lc5, .inr (0, [.int lm5, le5, .int 0])), (lc6, .inr (0, [.int lm6, le6, .int 0])), (lc7, .inr (0, [.int lm7, le7, .int 0])), (lc8, .inr (0, [.int lm8, le8, .int 0])), (lc9, .inr (0, [.int lm9, le9, .int 0]))]) [0, 1, 2, 3, 4, 5, 6, 7, 8, 9, 10, 11, 12, 13, 14, 15, 16, 17, 18, 19, 20, 21] rfl
  have hDc := hD.sub (ws' := [(h0, .inr (12, [t0, .ref ca, t2, t3, t4, t5])), (ca, .inl (tH, 10, .inr (.inr (.inr (.inr ((va_up (va_up (va_up (va_up (va_up (va_up (va_up (va_up (va_up (va_up (fun _ => none) 0 (some ch0)) 1 (some ch1)) 2 (some ch2)) 3 (some ch3)) 4 (some ch4)) 5 (some ch5)) 6 (some ch6)) 7 (some ch7)) 8 (some ch8)) 9 (some ch9)))))))), (ch0, .inr (2, [.ref lc0])), (ch1, .inr (2, [.ref lc1])), (ch2, .inr (2, [.ref lc2])), (ch3, .inr (2, [.ref lc3])), (ch4, .inr (2, [.ref lc4])), (ch5, .inr (2, [.ref lc5])), (ch6, .inr (2, [.ref lc6])), (ch7, .inr (2, [.ref lc7])), (ch8, .inr (2, [.ref lc8])), (ch9, .inr (2, [.ref lc9])), (lc0, .inr (0, [.int lm0, le0, .int 0])), (lc1, .inr (0, [.int lm1, le1, .int 0])), (lc2, .inr (0, [.int lm2, le2, .int 0])), (lc3, .inr (0, [.int lm3, le3, .int 0])), (lc4, .inr (0, [.int lm4, le4, .int 0])), (lc5, .inr (0, [.int lm5, le5, .int 0])), (lc6, .inr (0, [.int lm6, le6, .int 0])), (lc7, .inr (0, [.int lm7, le7, .int 0])), (lc8, .inr (0, [.int lm8, le8, .int 0])), (lc9, .inr (0, [.int lm9, le9, .int 0]))]) [0, 1, 2, 3, 4, 5, 6, 7, 8, 9, 10, 11, 12, 13, 14, 15, 16, 17, 18, 19, 20, 21] (by decide) rfl
  have hKc := hK.sub (tys' := [(tH, .object RX1)]) [0] rfl
  have hFc := freeNil hS hA
  refine vx_calli (vx_runV (As := [.int a1]) (rest := [.int 0, .ref out]) ⟨hx, hb, hml, hown, ht⟩ (k_X11_waiting l hL d0 cO dC dI H.size h0 ca t0 t2 t3 t4 t5 tH ch0 ch1 ch2 ch3 ch4 ch5 ch6 ch7 ch8 ch9 lc0 lc1 lc2 lc3 lc4 lc5 lc6 lc7 lc8 lc9 lm0 lm1 lm2 lm3 lm4 lm5 lm6 lm7 lm8 lm9 le0 le1 le2 le3 le4 le5 le6 le7 le8 le9 a1) (my_V ht M_X11_waiting q1629 q1630 q1628 (Nat.le_of_ble_eq_true rfl) (Nat.le_of_ble_eq_true rfl)) ⟨PREp.fb, va_recv hK hP (ci := 12) (q0 := 0) rfl rfl, fun U hU hW => ⟨rfl, PREp.mk' hE hS hFc hPc hKc U hU hW⟩⟩ rfl rfl hl.1 rfl (lv_room (Nat.le_of_ble_eq_true rfl)) dL_waiting_4 ⟨(Nat.le_of_ble_eq_true rfl), (Nat.le_of_ble_eq_true rfl)⟩) hS (fun q _ h => hFc q h) hFc (fun q _ h => hFc q h) (fun E ce q9 ux t H1 locs htt hvm hw hB hz1 hk1 hS hcell hv9 hcl9 => ?_) (fun r2 u1 t H1 locs htt hvm hw hB hz1 hk1 hS => ?_)
  · skip
    obtain ⟨rfl, hnP⟩ := hB
    have hP := keepAll hP hk1
    generalize H1 = H at hP hS hcell ⊢
    have hP : va_P (dC, dI) vwCl [(h0, .inr (12, [t0, .ref ca, t2, t3, t4, t5])), (ca, .inl (tH, 10, .inr (.inr (.inr (.inr ((va_up (va_up (va_up (va_up (va_up (va_up (va_up (va_up (va_up (va_up (fun _ => none) 0 (some ch0)) 1 (some ch1)) 2 (some ch2)) 3 (some ch3)) 4 (some ch4)) 5 (some ch5)) 6 (some ch6)) 7 (some ch7)) 8 (some ch8)) 9 (some ch9)))))))), (ch0, .inr (2, [.ref lc0])), (ch1, .inr (2, [.ref lc1])), (ch2, .inr (2, [.ref lc2])), (ch3, .inr (2, [.ref lc3])), (ch4, .inr (2, [.ref lc4])), (ch5, .inr (2, [.ref lc5])), (ch6, .inr (2, [.ref lc6])), (ch7, .inr (2, [.ref lc7])), (ch8, .inr (2, [.ref lc8])), (ch9, .inr (2, [.ref lc9])), (lc0, .inr (0, [.int lm0, le0, .int 0])), (lc1, .inr (0, [.int lm1, le1, .int 0])), (lc2, .inr (0, [.int lm2, le2, .int 0])), (lc3, .inr (0, [.int lm3, le3, .int 0])), (lc4, .inr (0, [.int lm4, le4, .int 0])), (lc5, .inr (0, [.int lm5, le5, .int 0])), (lc6, .inr (0, [.int lm6, le6, .int 0])), (lc7, .inr (0, [.int lm7, le7, .int 0])), (lc8, .inr (0, [.int lm8, le8, .int 0])), (lc9, .inr (0, [.int lm9, le9, .int 0])), (out, .inl (tO, 1, .inr (.inl fo)))] H := hP
    have hD : va_D A [(h0, .inr (12, [t0, .ref ca, t2, t3, t4, t5])), (ca, .inl (tH, 10, .inr (.inr (.inr (.inr ((va_up (va_up (va_up (va_up (va_up (va_up (va_up (va_up (va_up (va_up (fun _ => none) 0 (some ch0)) 1 (some ch1)) 2 (some ch2)) 3 (some ch3)) 4 (some ch4)) 5 (some ch5)) 6 (some ch6)) 7 (some ch7)) 8 (some ch8)) 9 (some ch9)))))))), (ch0, .inr (2, [.ref lc0])), (ch1, .inr (2, [.ref lc1])), (ch2, .inr (2, [.ref lc2])), (ch3, .inr (2, [.ref lc3])), (ch4, .inr (2, [.ref lc4])), (ch5, .inr (2, [.ref lc5])), (ch6, .inr (2, [.ref lc6])), (ch7, .inr (2, [.ref lc7])), (ch8, .inr (2, [.ref lc8])), (ch9, .inr (2, [.ref lc9])), (lc0, .inr (0, [.int lm0, le0, .int 0])), (lc1, .inr (0, [.int lm1, le1, .int 0])), (lc2, .inr (0, [.int lm2, le2, .int 0])), (lc3, .inr (0, [.int lm3, le3, .int 0])), (lc4, .inr (0, [.int lm4, le4, .int 0])), (lc5, .inr (0, [.int lm5, le5, .int 0])), (lc6, .inr (0, [.int lm6, le6, .int 0])), (lc7, .inr (0, [.int lm7, le7, .int 0])), (lc8, .inr (0, [.int lm8, le8, .int 0])), (lc9, .inr (0, [.int lm9, le9, .int 0])), (out, .inl (tO, 1, .inr (.inl fo)))] := hD
    refine vx_catch hown [] ⟨0, 9, 12, 20⟩ [] (htab.trans rfl) (fun z h => by simp at h) (by decide) (by decide) (ht _ q1120) (ht _ q1132) hcell hv9 hcl9 ?_
    refine W.eq (g2 := F0 m 12 ls [.ref q9]) rfl ?_
    refine lv_astore_n (lv' := [(3, .ref q9), (0, .ref h0), (1, .int a1), (2, .ref out)]) hx hb dL_waiting_12 rfl hl (by decide) rfl (fun ls hl => ?_)
    refine lv_iconst (v := 1) hx hb dL_waiting_13 (by decide) ?_
    have hP9 := hP.sub (ws' := [(out, .inl (tO, 1, .inr (.inl fo)))]) [22] rfl
    have hD9 := hD.sub (ws' := [(out, .inl (tO, 1, .inr (.inl fo)))]) [22] (by decide) rfl
    have hK9 := hK.sub (tys' := [(tO, .long)]) [1] rfl
    refine W.widen (k := 1) (n := 6) (Nat.le_of_ble_eq_true rfl) (Nat.le_of_ble_eq_true rfl) ?_
    refine vx_ret ?_
    exact W.iret (v := 1) hx hb hr (fun t ht9 hW9 => ⟨⟨1, fo, rfl, ⟨fun h => absurd h hnP, fun _ => rfl⟩, POW.mk' ht9 hW9.alike hP9 hK9 hD9⟩, hS.F ht9⟩) hS.2.2 dL_waiting_14
  · skip
    try dsimp only at hw hB
    have hP1 := hB
    have hP := keepAll hP hk1
    generalize H1 = H at hP hS ⊢
    have hP : va_P (dC, dI) vwCl [(h0, .inr (12, [t0, .ref ca, t2, t3, t4, t5])), (ca, .inl (tH, 10, .inr (.inr (.inr (.inr ((va_up (va_up (va_up (va_up (va_up (va_up (va_up (va_up (va_up (va_up (fun _ => none) 0 (some ch0)) 1 (some ch1)) 2 (some ch2)) 3 (some ch3)) 4 (some ch4)) 5 (some ch5)) 6 (some ch6)) 7 (some ch7)) 8 (some ch8)) 9 (some ch9)))))))), (ch0, .inr (2, [.ref lc0])), (ch1, .inr (2, [.ref lc1])), (ch2, .inr (2, [.ref lc2])), (ch3, .inr (2, [.ref lc3])), (ch4, .inr (2, [.ref lc4])), (ch5, .inr (2, [.ref lc5])), (ch6, .inr (2, [.ref lc6])), (ch7, .inr (2, [.ref lc7])), (ch8, .inr (2, [.ref lc8])), (ch9, .inr (2, [.ref lc9])), (lc0, .inr (0, [.int lm0, le0, .int 0])), (lc1, .inr (0, [.int lm1, le1, .int 0])), (lc2, .inr (0, [.int lm2, le2, .int 0])), (lc3, .inr (0, [.int lm3, le3, .int 0])), (lc4, .inr (0, [.int lm4, le4, .int 0])), (lc5, .inr (0, [.int lm5, le5, .int 0])), (lc6, .inr (0, [.int lm6, le6, .int 0])), (lc7, .inr (0, [.int lm7, le7, .int 0])), (lc8, .inr (0, [.int lm8, le8, .int 0])), (lc9, .inr (0, [.int lm9, le9, .int 0])), (out, .inl (tO, 1, .inr (.inl fo)))] H := hP
    have hD : va_D A [(h0, .inr (12, [t0, .ref ca, t2, t3, t4, t5])), (ca, .inl (tH, 10, .inr (.inr (.inr (.inr ((va_up (va_up (va_up (va_up (va_up (va_up (va_up (va_up (va_up (va_up (fun _ => none) 0 (some ch0)) 1 (some ch1)) 2 (some ch2)) 3 (some ch3)) 4 (some ch4)) 5 (some ch5)) 6 (some ch6)) 7 (some ch7)) 8 (some ch8)) 9 (some ch9)))))))), (ch0, .inr (2, [.ref lc0])), (ch1, .inr (2, [.ref lc1])), (ch2, .inr (2, [.ref lc2])), (ch3, .inr (2, [.ref lc3])), (ch4, .inr (2, [.ref lc4])), (ch5, .inr (2, [.ref lc5])), (ch6, .inr (2, [.ref lc6])), (ch7, .inr (2, [.ref lc7])), (ch8, .inr (2, [.ref lc8])), (ch9, .inr (2, [.ref lc9])), (lc0, .inr (0, [.int lm0, le0, .int 0])), (lc1, .inr (0, [.int lm1, le1, .int 0])), (lc2, .inr (0, [.int lm2, le2, .int 0])), (lc3, .inr (0, [.int lm3, le3, .int 0])), (lc4, .inr (0, [.int lm4, le4, .int 0])), (lc5, .inr (0, [.int lm5, le5, .int 0])), (lc6, .inr (0, [.int lm6, le6, .int 0])), (lc7, .inr (0, [.int lm7, le7, .int 0])), (lc8, .inr (0, [.int lm8, le8, .int 0])), (lc9, .inr (0, [.int lm9, le9, .int 0])), (out, .inl (tO, 1, .inr (.inl fo)))] := hD
    have hK : va_K (dC, dI) vwCl [(tH, .object RX1), (tO, .long)] s := hK
    refine W.widen (k := 1) (n := 6) (Nat.le_of_ble_eq_true rfl) (Nat.le_of_ble_eq_true rfl) ?_
    obtain ⟨hP0, hw⟩ := hw
    subst hw
    refine lv_i2l (v := (0).toInt64) hx hb dL_waiting_7 rfl ?_
    refine va_last hx hb hK hP hD hS 22 1 rfl rfl (vp_in_nI (n := 0) (by decide) (by decide)) dL_waiting_8 (fun H locs hP hD hS => ?_)
    have hP : va_P (dC, dI) vwCl [(h0, .inr (12, [t0, .ref ca, t2, t3, t4, t5])), (ca, .inl (tH, 10, .inr (.inr (.inr (.inr ((va_up (va_up (va_up (va_up (va_up (va_up (va_up (va_up (va_up (va_up (fun _ => none) 0 (some ch0)) 1 (some ch1)) 2 (some ch2)) 3 (some ch3)) 4 (some ch4)) 5 (some ch5)) 6 (some ch6)) 7 (some ch7)) 8 (some ch8)) 9 (some ch9)))))))), (ch0, .inr (2, [.ref lc0])), (ch1, .inr (2, [.ref lc1])), (ch2, .inr (2, [.ref lc2])), (ch3, .inr (2, [.ref lc3])), (ch4, .inr (2, [.ref lc4])), (ch5, .inr (2, [.ref lc5])), (ch6, .inr (2, [.ref lc6])), (ch7, .inr (2, [.ref lc7])), (ch8, .inr (2, [.ref lc8])), (ch9, .inr (2, [.ref lc9])), (lc0, .inr (0, [.int lm0, le0, .int 0])), (lc1, .inr (0, [.int lm1, le1, .int 0])), (lc2, .inr (0, [.int lm2, le2, .int 0])), (lc3, .inr (0, [.int lm3, le3, .int 0])), (lc4, .inr (0, [.int lm4, le4, .int 0])), (lc5, .inr (0, [.int lm5, le5, .int 0])), (lc6, .inr (0, [.int lm6, le6, .int 0])), (lc7, .inr (0, [.int lm7, le7, .int 0])), (lc8, .inr (0, [.int lm8, le8, .int 0])), (lc9, .inr (0, [.int lm9, le9, .int 0])), (out, .inl (tO, 1, .inr (.inl ((vp_updL fo 0 ((0).toInt64))))))] H := hP
    have hD : va_D A [(h0, .inr (12, [t0, .ref ca, t2, t3, t4, t5])), (ca, .inl (tH, 10, .inr (.inr (.inr (.inr ((va_up (va_up (va_up (va_up (va_up (va_up (va_up (va_up (va_up (va_up (fun _ => none) 0 (some ch0)) 1 (some ch1)) 2 (some ch2)) 3 (some ch3)) 4 (some ch4)) 5 (some ch5)) 6 (some ch6)) 7 (some ch7)) 8 (some ch8)) 9 (some ch9)))))))), (ch0, .inr (2, [.ref lc0])), (ch1, .inr (2, [.ref lc1])), (ch2, .inr (2, [.ref lc2])), (ch3, .inr (2, [.ref lc3])), (ch4, .inr (2, [.ref lc4])), (ch5, .inr (2, [.ref lc5])), (ch6, .inr (2, [.ref lc6])), (ch7, .inr (2, [.ref lc7])), (ch8, .inr (2, [.ref lc8])), (ch9, .inr (2, [.ref lc9])), (lc0, .inr (0, [.int lm0, le0, .int 0])), (lc1, .inr (0, [.int lm1, le1, .int 0])), (lc2, .inr (0, [.int lm2, le2, .int 0])), (lc3, .inr (0, [.int lm3, le3, .int 0])), (lc4, .inr (0, [.int lm4, le4, .int 0])), (lc5, .inr (0, [.int lm5, le5, .int 0])), (lc6, .inr (0, [.int lm6, le6, .int 0])), (lc7, .inr (0, [.int lm7, le7, .int 0])), (lc8, .inr (0, [.int lm8, le8, .int 0])), (lc9, .inr (0, [.int lm9, le9, .int 0])), (out, .inl (tO, 1, .inr (.inl ((vp_updL fo 0 ((0).toInt64))))))] := hD
    refine lv_goto (tgt := 15) hx hb dL_waiting_9 (by decide) ?_
    refine lv_iconst (v := 0) hx hb dL_waiting_15 (by decide) ?_
    have hP9 := hP.sub (ws' := [(out, .inl (tO, 1, .inr (.inl ((vp_updL fo 0 ((0).toInt64))))))]) [22] rfl
    have hD9 := hD.sub (ws' := [(out, .inl (tO, 1, .inr (.inl ((vp_updL fo 0 ((0).toInt64))))))]) [22] (by decide) rfl
    have hK9 := hK.sub (tys' := [(tO, .long)]) [1] rfl
    refine W.widen (k := 1) (n := 6) (Nat.le_of_ble_eq_true rfl) (Nat.le_of_ble_eq_true rfl) ?_
    refine vx_ret ?_
    exact W.iret (v := 0) hx hb hr (fun t ht9 hW9 => ⟨⟨0, ((vp_updL fo 0 ((0).toInt64))), rfl, ⟨fun _ => ⟨rfl, by first | rfl | decide | simp [vp_updL]⟩, fun h => absurd hP0 h⟩, POW.mk' ht9 hW9.alike hP9 hK9 hD9⟩, hS.F ht9⟩) hS.2.2 dL_waiting_16
