theorem dX12_store_0 : decode cX12_store 0 = .ok (.aload_n 0, 1) := by decide +kernel
theorem dX12_store_1 : decode cX12_store 1 = .ok (.iload_n 1, 1) := by decide +kernel
theorem dX12_store_2 : decode cX12_store 2 = .ok (.invokevirtual 273, 3) := by decide +kernel
theorem dX12_store_5 : decode cX12_store 5 = .ok (.istore_n 3, 1) := by decide +kernel
theorem dX12_store_6 : decode cX12_store 6 = .ok (.aload_n 0, 1) := by decide +kernel
theorem dX12_store_7 : decode cX12_store 7 = .ok (.iload_n 3, 1) := by decide +kernel
theorem dX12_store_8 : decode cX12_store 8 = .ok (.ifCond .ne 7, 3) := by decide +kernel
theorem dX12_store_11 : decode cX12_store 11 = .ok (.iconst 1, 1) := by decide +kernel
theorem dX12_store_12 : decode cX12_store 12 = .ok (.goto 47, 3) := by decide +kernel
theorem dX12_store_59 : decode cX12_store 59 = .ok (.invokevirtual 267, 3) := by decide +kernel
set_option maxRecDepth 100000 in
theorem q1993 : Cond.code yX12_fails cX12_fails 2 (some FieldType.boolean) ∈ GT := gt 1993 (rfl) (by decide +kernel)
theorem M_X12_fails : MY yX12_fails cX12_fails 2 (some FieldType.boolean) 1 := ⟨q1993, q135, by decide +kernel, by decide +kernel⟩
theorem q1990 : Cond.methodLink RX12 267 yX12_fails ∈ GT := gt 1990 (by decide +kernel) (by decide +kernel)
theorem q1992 : Cond.instanceMethod yX12_fails ∈ GT := gt 1992 (by decide +kernel) (by decide +kernel)
theorem q53 : Cond.selects RX12 yX12_fails yX12_fails ∈ GT := gt 53 (by decide +kernel) (by decide +kernel)
theorem dX12_store_62 : decode cX12_store 62 = .ok (.ifCond .eq 5, 3) := by decide +kernel
theorem dX12_store_65 : decode cX12_store 65 = .ok (.iconst 0, 1) := by decide +kernel
theorem dX12_store_66 : decode cX12_store 66 = .ok (.ireturn, 1) := by decide +kernel
theorem dX12_name_0 : decode cX12_name 0 = .ok (.aload_n 0, 1) := by decide +kernel
theorem dX12_name_1 : decode cX12_name 1 = .ok (.aload_n 0, 1) := by decide +kernel
theorem dX12_name_2 : decode cX12_name 2 = .ok (.iload_n 1, 1) := by decide +kernel
theorem dX12_name_3 : decode cX12_name 3 = .ok (.invokevirtual 273, 3) := by decide +kernel
theorem dX12_name_6 : decode cX12_name 6 = .ok (.ifCond .eq 7, 3) := by decide +kernel
theorem dX12_name_13 : decode cX12_name 13 = .ok (.iconst 1, 1) := by decide +kernel
theorem dX12_name_14 : decode cX12_name 14 = .ok (.invokevirtual 267, 3) := by decide +kernel
theorem dX12_name_17 : decode cX12_name 17 = .ok (.ifCond .eq 8, 3) := by decide +kernel
theorem dX12_name_20 : decode cX12_name 20 = .ok (.bipush 32, 2) := by decide +kernel
theorem dX12_name_22 : decode cX12_name 22 = .ok (.goto 10, 3) := by decide +kernel
theorem dX12_name_32 : decode cX12_name 32 = .ok (.ireturn, 1) := by decide +kernel
theorem dX12_open_0 : decode cX12_open 0 = .ok (.iload_n 1, 1) := by decide +kernel
theorem dX12_open_1 : decode cX12_open 1 = .ok (.invokestatic 222, 3) := by decide +kernel
theorem dX12_open_4 : decode cX12_open 4 = .ok (.ifCond .eq 15, 3) := by decide +kernel
theorem dX12_open_7 : decode cX12_open 7 = .ok (.aload_n 0, 1) := by decide +kernel
theorem dX12_open_8 : decode cX12_open 8 = .ok (.iload_n 2, 1) := by decide +kernel
theorem dX12_open_9 : decode cX12_open 9 = .ok (.invokevirtual 273, 3) := by decide +kernel
theorem dX12_open_12 : decode cX12_open 12 = .ok (.ifCond .eq 7, 3) := by decide +kernel
theorem dX12_open_19 : decode cX12_open 19 = .ok (.iconst 0, 1) := by decide +kernel
theorem dX12_open_20 : decode cX12_open 20 = .ok (.istore_n 3, 1) := by decide +kernel
theorem dX12_open_21 : decode cX12_open 21 = .ok (.aload_n 0, 1) := by decide +kernel
theorem dX12_open_22 : decode cX12_open 22 = .ok (.iload_n 3, 1) := by decide +kernel
theorem dX12_open_23 : decode cX12_open 23 = .ok (.ifCond .ne 7, 3) := by decide +kernel
theorem dX12_open_26 : decode cX12_open 26 = .ok (.iconst 1, 1) := by decide +kernel
theorem dX12_open_27 : decode cX12_open 27 = .ok (.goto 18, 3) := by decide +kernel
theorem dX12_open_45 : decode cX12_open 45 = .ok (.invokevirtual 267, 3) := by decide +kernel
theorem dX12_open_48 : decode cX12_open 48 = .ok (.ifCond .eq 5, 3) := by decide +kernel
theorem dX12_open_51 : decode cX12_open 51 = .ok (.iconst 0, 1) := by decide +kernel
theorem dX12_open_52 : decode cX12_open 52 = .ok (.ireturn, 1) := by decide +kernel
theorem dX12_close_0 : decode cX12_close 0 = .ok (.iload_n 1, 1) := by decide +kernel
theorem dX12_close_1 : decode cX12_close 1 = .ok (.invokestatic 222, 3) := by decide +kernel
theorem dX12_close_4 : decode cX12_close 4 = .ok (.ifCond .eq 15, 3) := by decide +kernel
theorem dX12_close_7 : decode cX12_close 7 = .ok (.aload_n 0, 1) := by decide +kernel
theorem dX12_close_8 : decode cX12_close 8 = .ok (.iload_n 2, 1) := by decide +kernel
theorem dX12_close_9 : decode cX12_close 9 = .ok (.invokevirtual 273, 3) := by decide +kernel
theorem dX12_close_12 : decode cX12_close 12 = .ok (.ifCond .eq 7, 3) := by decide +kernel
theorem dX12_close_19 : decode cX12_close 19 = .ok (.iconst 0, 1) := by decide +kernel
theorem dX12_close_20 : decode cX12_close 20 = .ok (.istore_n 3, 1) := by decide +kernel
theorem dX12_close_21 : decode cX12_close 21 = .ok (.aload_n 0, 1) := by decide +kernel
theorem dX12_close_22 : decode cX12_close 22 = .ok (.iload_n 3, 1) := by decide +kernel
theorem dX12_close_23 : decode cX12_close 23 = .ok (.ifCond .ne 7, 3) := by decide +kernel
theorem dX12_close_26 : decode cX12_close 26 = .ok (.iconst 1, 1) := by decide +kernel
theorem dX12_close_27 : decode cX12_close 27 = .ok (.goto 18, 3) := by decide +kernel
theorem dX12_close_45 : decode cX12_close 45 = .ok (.invokevirtual 267, 3) := by decide +kernel
theorem dX12_close_48 : decode cX12_close 48 = .ok (.ifCond .eq 4, 3) := by decide +kernel
theorem dX12_close_51 : decode cX12_close 51 = .ok (.return_, 1) := by decide +kernel
theorem dX12_change_0 : decode cX12_change 0 = .ok (.iload_n 1, 1) := by decide +kernel
theorem dX12_change_1 : decode cX12_change 1 = .ok (.invokestatic 222, 3) := by decide +kernel
theorem dX12_change_4 : decode cX12_change 4 = .ok (.ifCond .eq 15, 3) := by decide +kernel
theorem dX12_change_7 : decode cX12_change 7 = .ok (.aload_n 0, 1) := by decide +kernel
theorem dX12_change_8 : decode cX12_change 8 = .ok (.iload_n 2, 1) := by decide +kernel
theorem dX12_change_9 : decode cX12_change 9 = .ok (.invokevirtual 273, 3) := by decide +kernel
theorem dX12_change_12 : decode cX12_change 12 = .ok (.ifCond .eq 7, 3) := by decide +kernel
theorem dX12_change_19 : decode cX12_change 19 = .ok (.iconst 0, 1) := by decide +kernel
theorem dX12_change_20 : decode cX12_change 20 = .ok (.istore 8, 2) := by decide +kernel
theorem dX12_change_22 : decode cX12_change 22 = .ok (.iload_n 3, 1) := by decide +kernel
theorem dX12_change_23 : decode cX12_change 23 = .ok (.invokestatic 322, 3) := by decide +kernel
set_option maxRecDepth 100000 in
theorem q2078 : Cond.code yX12_isNumber cX12_isNumber 1 (some FieldType.boolean) ∈ GT := gt 2078 (rfl) (by decide +kernel)
theorem M_X12_isNumber : MY yX12_isNumber cX12_isNumber 1 (some FieldType.boolean) 1 := ⟨q2078, q135, by decide +kernel, by decide +kernel⟩
theorem q2076 : Cond.methodLink RX12 322 yX12_isNumber ∈ GT := gt 2076 (by decide +kernel) (by decide +kernel)
theorem q2077 : Cond.static yX12_isNumber ∈ GT := gt 2077 (by decide +kernel) (by decide +kernel)
theorem dX12_change_26 : decode cX12_change 26 = .ok (.ifCond .eq 45, 3) := by decide +kernel
theorem dX12_change_71 : decode cX12_change 71 = .ok (.iconst 0, 1) := by decide +kernel
theorem dX12_change_72 : decode cX12_change 72 = .ok (.istore 9, 2) := by decide +kernel
theorem dX12_change_74 : decode cX12_change 74 = .ok (.iload 8, 2) := by decide +kernel
theorem dX12_change_76 : decode cX12_change 76 = .ok (.ifCond .eq 22, 3) := by decide +kernel
theorem dX12_change_98 : decode cX12_change 98 = .ok (.iconst 0, 1) := by decide +kernel
theorem dX12_change_99 : decode cX12_change 99 = .ok (.istore 10, 2) := by decide +kernel
theorem dX12_change_101 : decode cX12_change 101 = .ok (.iload 10, 2) := by decide +kernel
theorem dX12_change_103 : decode cX12_change 103 = .ok (.ifCond .eq 17, 3) := by decide +kernel
theorem dX12_change_120 : decode cX12_change 120 = .ok (.iconst 0, 1) := by decide +kernel
theorem dX12_change_121 : decode cX12_change 121 = .ok (.istore 11, 2) := by decide +kernel
theorem dX12_change_123 : decode cX12_change 123 = .ok (.iload 10, 2) := by decide +kernel
theorem dX12_change_125 : decode cX12_change 125 = .ok (.ifCond .eq 18, 3) := by decide +kernel
theorem dX12_change_143 : decode cX12_change 143 = .ok (.iconst 0, 1) := by decide +kernel
theorem dX12_change_144 : decode cX12_change 144 = .ok (.istore 12, 2) := by decide +kernel
theorem dX12_change_146 : decode cX12_change 146 = .ok (.iload 10, 2) := by decide +kernel
theorem dX12_change_148 : decode cX12_change 148 = .ok (.ifCond .eq 40, 3) := by decide +kernel
theorem dX12_change_188 : decode cX12_change 188 = .ok (.iconst 0, 1) := by decide +kernel
theorem dX12_change_189 : decode cX12_change 189 = .ok (.istore 10, 2) := by decide +kernel
theorem dX12_change_191 : decode cX12_change 191 = .ok (.aload_n 0, 1) := by decide +kernel
theorem dX12_change_192 : decode cX12_change 192 = .ok (.iload 8, 2) := by decide +kernel
theorem dX12_change_194 : decode cX12_change 194 = .ok (.ifCond .ne 7, 3) := by decide +kernel
theorem dX12_change_197 : decode cX12_change 197 = .ok (.iconst 1, 1) := by decide +kernel
theorem dX12_change_198 : decode cX12_change 198 = .ok (.goto 22, 3) := by decide +kernel
theorem dX12_change_220 : decode cX12_change 220 = .ok (.invokevirtual 267, 3) := by decide +kernel
theorem dX12_change_223 : decode cX12_change 223 = .ok (.ifCond .eq 5, 3) := by decide +kernel
theorem dX12_change_226 : decode cX12_change 226 = .ok (.iconst 0, 1) := by decide +kernel
theorem dX12_change_227 : decode cX12_change 227 = .ok (.ireturn, 1) := by decide +kernel
theorem dX12_change_29 : decode cX12_change 29 = .ok (.iload 4, 2) := by decide +kernel
theorem dX12_change_31 : decode cX12_change 31 = .ok (.invokestatic 322, 3) := by decide +kernel
theorem dX12_change_34 : decode cX12_change 34 = .ok (.ifCond .eq 37, 3) := by decide +kernel
theorem dX12_change_37 : decode cX12_change 37 = .ok (.iload 5, 2) := by decide +kernel
theorem dX12_change_39 : decode cX12_change 39 = .ok (.invokestatic 322, 3) := by decide +kernel
theorem dX12_change_42 : decode cX12_change 42 = .ok (.ifCond .eq 29, 3) := by decide +kernel
theorem dX12_change_45 : decode cX12_change 45 = .ok (.iload 6, 2) := by decide +kernel
theorem dX12_change_47 : decode cX12_change 47 = .ok (.invokestatic 322, 3) := by decide +kernel
theorem dX12_change_50 : decode cX12_change 50 = .ok (.ifCond .eq 21, 3) := by decide +kernel
theorem dX12_change_53 : decode cX12_change 53 = .ok (.iload 7, 2) := by decide +kernel
theorem dX12_change_55 : decode cX12_change 55 = .ok (.iconst (-1), 1) := by decide +kernel
theorem dX12_change_56 : decode cX12_change 56 = .ok (.if_icmp .eq 11, 3) := by decide +kernel
theorem dX12_change_67 : decode cX12_change 67 = .ok (.iconst 1, 1) := by decide +kernel
theorem dX12_change_68 : decode cX12_change 68 = .ok (.goto 4, 3) := by decide +kernel
theorem dX12_change_59 : decode cX12_change 59 = .ok (.iload 7, 2) := by decide +kernel
theorem dX12_change_61 : decode cX12_change 61 = .ok (.invokestatic 276, 3) := by decide +kernel
set_option maxRecDepth 100000 in
theorem q2008 : Cond.code yX12_isCode cX12_isCode 1 (some FieldType.boolean) ∈ GT := gt 2008 (rfl) (by decide +kernel)
theorem M_X12_isCode : MY yX12_isCode cX12_isCode 1 (some FieldType.boolean) 1 := ⟨q2008, q135, by decide +kernel, by decide +kernel⟩
theorem q2006 : Cond.methodLink RX12 276 yX12_isCode ∈ GT := gt 2006 (by decide +kernel) (by decide +kernel)
theorem q2007 : Cond.static yX12_isCode ∈ GT := gt 2007 (by decide +kernel) (by decide +kernel)
theorem dX12_change_64 : decode cX12_change 64 = .ok (.ifCond .eq 7, 3) := by decide +kernel
theorem dX12_request_0 : decode cX12_request 0 = .ok (.iload_n 1, 1) := by decide +kernel
theorem dX12_request_1 : decode cX12_request 1 = .ok (.invokestatic 222, 3) := by decide +kernel
theorem dX12_request_4 : decode cX12_request 4 = .ok (.ifCond .eq 15, 3) := by decide +kernel
theorem dX12_request_7 : decode cX12_request 7 = .ok (.aload_n 0, 1) := by decide +kernel
theorem dX12_request_8 : decode cX12_request 8 = .ok (.iload_n 3, 1) := by decide +kernel
theorem dX12_request_9 : decode cX12_request 9 = .ok (.invokevirtual 273, 3) := by decide +kernel
theorem dX12_request_12 : decode cX12_request 12 = .ok (.ifCond .eq 7, 3) := by decide +kernel
theorem dX12_request_19 : decode cX12_request 19 = .ok (.iconst 0, 1) := by decide +kernel
theorem dX12_request_20 : decode cX12_request 20 = .ok (.istore 7, 2) := by decide +kernel
theorem dX12_request_22 : decode cX12_request 22 = .ok (.iload_n 2, 1) := by decide +kernel
theorem dX12_request_23 : decode cX12_request 23 = .ok (.iconst 0, 1) := by decide +kernel
theorem dX12_request_24 : decode cX12_request 24 = .ok (.iconst 5, 1) := by decide +kernel
theorem dX12_request_25 : decode cX12_request 25 = .ok (.invokestatic 215, 3) := by decide +kernel
theorem dX12_request_28 : decode cX12_request 28 = .ok (.ifCond .eq 40, 3) := by decide +kernel
theorem dX12_request_31 : decode cX12_request 31 = .ok (.iload 4, 2) := by decide +kernel
theorem dX12_request_33 : decode cX12_request 33 = .ok (.invokestatic 322, 3) := by decide +kernel
theorem dX12_request_36 : decode cX12_request 36 = .ok (.ifCond .eq 32, 3) := by decide +kernel
theorem dX12_request_68 : decode cX12_request 68 = .ok (.iconst 0, 1) := by decide +kernel
theorem dX12_request_69 : decode cX12_request 69 = .ok (.istore 8, 2) := by decide +kernel
theorem dX12_request_71 : decode cX12_request 71 = .ok (.aload_n 0, 1) := by decide +kernel
theorem dX12_request_72 : decode cX12_request 72 = .ok (.iload 7, 2) := by decide +kernel
theorem dX12_request_74 : decode cX12_request 74 = .ok (.ifCond .ne 7, 3) := by decide +kernel
theorem dX12_request_77 : decode cX12_request 77 = .ok (.iconst 1, 1) := by decide +kernel
theorem dX12_request_78 : decode cX12_request 78 = .ok (.goto 38, 3) := by decide +kernel
theorem dX12_request_116 : decode cX12_request 116 = .ok (.invokevirtual 267, 3) := by decide +kernel
theorem dX12_request_119 : decode cX12_request 119 = .ok (.ifCond .eq 5, 3) := by decide +kernel
theorem dX12_request_122 : decode cX12_request 122 = .ok (.iconst 0, 1) := by decide +kernel
theorem dX12_request_123 : decode cX12_request 123 = .ok (.ireturn, 1) := by decide +kernel
theorem dX12_request_39 : decode cX12_request 39 = .ok (.iload 5, 2) := by decide +kernel
theorem dX12_request_41 : decode cX12_request 41 = .ok (.invokestatic 322, 3) := by decide +kernel
theorem dX12_request_44 : decode cX12_request 44 = .ok (.ifCond .eq 24, 3) := by decide +kernel
theorem dX12_request_47 : decode cX12_request 47 = .ok (.iload_n 2, 1) := by decide +kernel
theorem dX12_request_48 : decode cX12_request 48 = .ok (.iconst 4, 1) := by decide +kernel
theorem dX12_request_49 : decode cX12_request 49 = .ok (.if_icmp .lt 15, 3) := by decide +kernel
theorem dX12_request_64 : decode cX12_request 64 = .ok (.iconst 1, 1) := by decide +kernel
theorem dX12_request_65 : decode cX12_request 65 = .ok (.goto 4, 3) := by decide +kernel
theorem dX12_request_52 : decode cX12_request 52 = .ok (.iload 6, 2) := by decide +kernel
theorem dX12_request_54 : decode cX12_request 54 = .ok (.bipush 97, 2) := by decide +kernel
theorem dX12_request_56 : decode cX12_request 56 = .ok (.bipush 122, 2) := by decide +kernel
theorem dX12_request_58 : decode cX12_request 58 = .ok (.invokestatic 215, 3) := by decide +kernel
theorem dX12_request_61 : decode cX12_request 61 = .ok (.ifCond .eq 7, 3) := by decide +kernel
theorem dX12_agree_0 : decode cX12_agree 0 = .ok (.aload_n 0, 1) := by decide +kernel
theorem dX12_agree_1 : decode cX12_agree 1 = .ok (.aload_n 0, 1) := by decide +kernel
theorem dX12_agree_2 : decode cX12_agree 2 = .ok (.iload_n 1, 1) := by decide +kernel
theorem dX12_agree_3 : decode cX12_agree 3 = .ok (.invokevirtual 273, 3) := by decide +kernel
theorem dX12_agree_6 : decode cX12_agree 6 = .ok (.ifCond .eq 7, 3) := by decide +kernel
theorem dX12_agree_13 : decode cX12_agree 13 = .ok (.iconst 1, 1) := by decide +kernel
theorem dX12_agree_14 : decode cX12_agree 14 = .ok (.invokevirtual 267, 3) := by decide +kernel
theorem dX12_agree_17 : decode cX12_agree 17 = .ok (.ifCond .ne 7, 3) := by decide +kernel
theorem dX12_agree_24 : decode cX12_agree 24 = .ok (.iconst 0, 1) := by decide +kernel
theorem dX12_agree_25 : decode cX12_agree 25 = .ok (.ireturn, 1) := by decide +kernel
theorem dX12_faults_0 : decode cX12_faults 0 = .ok (.iload_n 1, 1) := by decide +kernel
theorem dX12_faults_1 : decode cX12_faults 1 = .ok (.invokestatic 222, 3) := by decide +kernel
theorem dX12_faults_4 : decode cX12_faults 4 = .ok (.ifCond .eq 15, 3) := by decide +kernel
theorem dX12_faults_7 : decode cX12_faults 7 = .ok (.aload_n 0, 1) := by decide +kernel
theorem dX12_faults_8 : decode cX12_faults 8 = .ok (.iload_n 2, 1) := by decide +kernel
theorem dX12_faults_9 : decode cX12_faults 9 = .ok (.invokevirtual 273, 3) := by decide +kernel
theorem dX12_faults_12 : decode cX12_faults 12 = .ok (.ifCond .eq 7, 3) := by decide +kernel
theorem dX12_faults_19 : decode cX12_faults 19 = .ok (.iconst 0, 1) := by decide +kernel
theorem dX12_faults_20 : decode cX12_faults 20 = .ok (.istore_n 3, 1) := by decide +kernel
theorem dX12_faults_21 : decode cX12_faults 21 = .ok (.aload_n 0, 1) := by decide +kernel
theorem dX12_faults_22 : decode cX12_faults 22 = .ok (.iload_n 3, 1) := by decide +kernel
theorem dX12_faults_23 : decode cX12_faults 23 = .ok (.ifCond .eq 7, 3) := by decide +kernel
theorem dX12_faults_30 : decode cX12_faults 30 = .ok (.iconst 1, 1) := by decide +kernel
theorem dX12_faults_31 : decode cX12_faults 31 = .ok (.invokevirtual 267, 3) := by decide +kernel
theorem dX12_faults_34 : decode cX12_faults 34 = .ok (.ifCond .eq 7, 3) := by decide +kernel
theorem dX12_faults_37 : decode cX12_faults 37 = .ok (.iconst 0, 1) := by decide +kernel
theorem dX12_faults_38 : decode cX12_faults 38 = .ok (.goto 18, 3) := by decide +kernel
theorem dX12_faults_56 : decode cX12_faults 56 = .ok (.ireturn, 1) := by decide +kernel
theorem dX12_fault_0 : decode cX12_fault 0 = .ok (.iload_n 1, 1) := by decide +kernel
theorem dX12_fault_1 : decode cX12_fault 1 = .ok (.invokestatic 222, 3) := by decide +kernel
theorem dX12_fault_4 : decode cX12_fault 4 = .ok (.ifCond .eq 15, 3) := by decide +kernel
theorem dX12_fault_7 : decode cX12_fault 7 = .ok (.aload_n 0, 1) := by decide +kernel
theorem dX12_fault_8 : decode cX12_fault 8 = .ok (.iload_n 2, 1) := by decide +kernel
theorem dX12_fault_9 : decode cX12_fault 9 = .ok (.invokevirtual 273, 3) := by decide +kernel
theorem dX12_fault_12 : decode cX12_fault 12 = .ok (.ifCond .eq 7, 3) := by decide +kernel
theorem dX12_fault_19 : decode cX12_fault 19 = .ok (.iconst 0, 1) := by decide +kernel
theorem dX12_fault_20 : decode cX12_fault 20 = .ok (.istore 4, 2) := by decide +kernel
theorem dX12_fault_22 : decode cX12_fault 22 = .ok (.iload 4, 2) := by decide +kernel
theorem dX12_fault_24 : decode cX12_fault 24 = .ok (.ifCond .eq 16, 3) := by decide +kernel
theorem dX12_fault_40 : decode cX12_fault 40 = .ok (.sipush 4434, 3) := by decide +kernel
theorem dX12_fault_43 : decode cX12_fault 43 = .ok (.istore 5, 2) := by decide +kernel
theorem dX12_fault_45 : decode cX12_fault 45 = .ok (.aload_n 0, 1) := by decide +kernel
theorem dX12_fault_46 : decode cX12_fault 46 = .ok (.iload 4, 2) := by decide +kernel
theorem dX12_fault_48 : decode cX12_fault 48 = .ok (.ifCond .eq 24, 3) := by decide +kernel
theorem dX12_fault_72 : decode cX12_fault 72 = .ok (.iconst 1, 1) := by decide +kernel
theorem dX12_fault_73 : decode cX12_fault 73 = .ok (.invokevirtual 267, 3) := by decide +kernel
theorem dX12_fault_76 : decode cX12_fault 76 = .ok (.ifCond .eq 7, 3) := by decide +kernel
theorem dX12_fault_79 : decode cX12_fault 79 = .ok (.iconst 0, 1) := by decide +kernel
theorem dX12_fault_80 : decode cX12_fault 80 = .ok (.goto 14, 3) := by decide +kernel
theorem dX12_fault_94 : decode cX12_fault 94 = .ok (.ireturn, 1) := by decide +kernel
theorem dX12_answer_0 : decode cX12_answer 0 = .ok (.aload_n 0, 1) := by decide +kernel
theorem dX12_answer_1 : decode cX12_answer 1 = .ok (.iload_n 1, 1) := by decide +kernel
theorem dX12_answer_2 : decode cX12_answer 2 = .ok (.invokevirtual 385, 3) := by decide +kernel
set_option maxRecDepth 100000 in
theorem q2158 : Cond.code yX12_isServer cX12_isServer 2 (some FieldType.boolean) ∈ GT := gt 2158 (rfl) (by decide +kernel)
theorem M_X12_isServer : MY yX12_isServer cX12_isServer 2 (some FieldType.boolean) 1 := ⟨q2158, q135, by decide +kernel, by decide +kernel⟩
theorem q2155 : Cond.methodLink RX12 385 yX12_isServer ∈ GT := gt 2155 (by decide +kernel) (by decide +kernel)
theorem q2157 : Cond.instanceMethod yX12_isServer ∈ GT := gt 2157 (by decide +kernel) (by decide +kernel)
theorem q78 : Cond.selects RX12 yX12_isServer yX12_isServer ∈ GT := gt 78 (by decide +kernel) (by decide +kernel)
theorem dX12_answer_5 : decode cX12_answer 5 = .ok (.ifCond .eq 23, 3) := by decide +kernel
theorem dX12_answer_28 : decode cX12_answer 28 = .ok (.iconst 0, 1) := by decide +kernel
theorem dX12_answer_29 : decode cX12_answer 29 = .ok (.istore_n 3, 1) := by decide +kernel
theorem dX12_answer_30 : decode cX12_answer 30 = .ok (.aload_n 0, 1) := by decide +kernel
theorem dX12_answer_31 : decode cX12_answer 31 = .ok (.iload_n 3, 1) := by decide +kernel
theorem dX12_answer_32 : decode cX12_answer 32 = .ok (.ifCond .eq 7, 3) := by decide +kernel
theorem dX12_answer_39 : decode cX12_answer 39 = .ok (.iconst 1, 1) := by decide +kernel
theorem dX12_answer_40 : decode cX12_answer 40 = .ok (.invokevirtual 267, 3) := by decide +kernel
theorem dX12_answer_43 : decode cX12_answer 43 = .ok (.ifCond .eq 5, 3) := by decide +kernel
theorem dX12_answer_46 : decode cX12_answer 46 = .ok (.iconst 0, 1) := by decide +kernel
theorem dX12_answer_47 : decode cX12_answer 47 = .ok (.ireturn, 1) := by decide +kernel
theorem dX12_crash_0 : decode cX12_crash 0 = .ok (.aload_n 0, 1) := by decide +kernel
theorem dX12_crash_1 : decode cX12_crash 1 = .ok (.iload_n 1, 1) := by decide +kernel
theorem dX12_crash_2 : decode cX12_crash 2 = .ok (.invokevirtual 385, 3) := by decide +kernel
theorem dX12_crash_5 : decode cX12_crash 5 = .ok (.istore_n 2, 1) := by decide +kernel
theorem dX12_crash_6 : decode cX12_crash 6 = .ok (.aload_n 0, 1) := by decide +kernel
theorem dX12_crash_7 : decode cX12_crash 7 = .ok (.iload_n 2, 1) := by decide +kernel
theorem dX12_crash_8 : decode cX12_crash 8 = .ok (.ifCond .ne 7, 3) := by decide +kernel
theorem dX12_crash_11 : decode cX12_crash 11 = .ok (.iconst 1, 1) := by decide +kernel
theorem dX12_crash_12 : decode cX12_crash 12 = .ok (.goto 17, 3) := by decide +kernel
theorem dX12_crash_29 : decode cX12_crash 29 = .ok (.invokevirtual 267, 3) := by decide +kernel
theorem dX12_crash_32 : decode cX12_crash 32 = .ok (.ifCond .eq 5, 3) := by decide +kernel
theorem dX12_crash_35 : decode cX12_crash 35 = .ok (.iconst 0, 1) := by decide +kernel
theorem dX12_crash_36 : decode cX12_crash 36 = .ok (.ireturn, 1) := by decide +kernel
theorem dX12_start_0 : decode cX12_start 0 = .ok (.aload_n 0, 1) := by decide +kernel
theorem dX12_start_1 : decode cX12_start 1 = .ok (.iload_n 1, 1) := by decide +kernel
theorem dX12_start_2 : decode cX12_start 2 = .ok (.invokevirtual 385, 3) := by decide +kernel
theorem dX12_start_5 : decode cX12_start 5 = .ok (.istore_n 2, 1) := by decide +kernel
theorem dX12_start_6 : decode cX12_start 6 = .ok (.aload_n 0, 1) := by decide +kernel
theorem dX12_start_7 : decode cX12_start 7 = .ok (.iload_n 2, 1) := by decide +kernel
theorem dX12_start_8 : decode cX12_start 8 = .ok (.ifCond .ne 7, 3) := by decide +kernel
theorem dX12_start_11 : decode cX12_start 11 = .ok (.iconst 1, 1) := by decide +kernel
theorem dX12_start_12 : decode cX12_start 12 = .ok (.goto 17, 3) := by decide +kernel
theorem dX12_start_29 : decode cX12_start 29 = .ok (.invokevirtual 267, 3) := by decide +kernel
theorem dX12_start_32 : decode cX12_start 32 = .ok (.ifCond .eq 5, 3) := by decide +kernel
theorem dX12_start_35 : decode cX12_start 35 = .ok (.iconst 0, 1) := by decide +kernel
theorem dX12_start_36 : decode cX12_start 36 = .ok (.ireturn, 1) := by decide +kernel
theorem dX12_tellFaults_0 : decode cX12_tellFaults 0 = .ok (.aload_n 0, 1) := by decide +kernel
theorem dX12_tellFaults_1 : decode cX12_tellFaults 1 = .ok (.iload_n 1, 1) := by decide +kernel
theorem dX12_tellFaults_2 : decode cX12_tellFaults 2 = .ok (.invokevirtual 385, 3) := by decide +kernel
theorem dX12_tellFaults_5 : decode cX12_tellFaults 5 = .ok (.ifCond .eq 15, 3) := by decide +kernel
theorem dX12_tellFaults_20 : decode cX12_tellFaults 20 = .ok (.iconst 0, 1) := by decide +kernel
theorem dX12_tellFaults_21 : decode cX12_tellFaults 21 = .ok (.istore_n 3, 1) := by decide +kernel
theorem dX12_tellFaults_22 : decode cX12_tellFaults 22 = .ok (.aload_n 0, 1) := by decide +kernel
theorem dX12_tellFaults_23 : decode cX12_tellFaults 23 = .ok (.iload_n 3, 1) := by decide +kernel
theorem dX12_tellFaults_24 : decode cX12_tellFaults 24 = .ok (.ifCond .ne 7, 3) := by decide +kernel
theorem dX12_tellFaults_27 : decode cX12_tellFaults 27 = .ok (.iconst 1, 1) := by decide +kernel
theorem dX12_tellFaults_28 : decode cX12_tellFaults 28 = .ok (.goto 21, 3) := by decide +kernel
theorem dX12_tellFaults_49 : decode cX12_tellFaults 49 = .ok (.invokevirtual 267, 3) := by decide +kernel
theorem dX12_tellFaults_52 : decode cX12_tellFaults 52 = .ok (.ifCond .eq 5, 3) := by decide +kernel
theorem dX12_tellFaults_55 : decode cX12_tellFaults 55 = .ok (.iconst 0, 1) := by decide +kernel
theorem dX12_tellFaults_56 : decode cX12_tellFaults 56 = .ok (.ireturn, 1) := by decide +kernel
theorem dX12_version_0 : decode cX12_version 0 = .ok (.aload_n 0, 1) := by decide +kernel
theorem dX12_version_1 : decode cX12_version 1 = .ok (.aload_n 0, 1) := by decide +kernel
theorem dX12_version_2 : decode cX12_version 2 = .ok (.iload_n 1, 1) := by decide +kernel
theorem dX12_version_3 : decode cX12_version 3 = .ok (.iload_n 2, 1) := by decide +kernel
theorem dX12_version_4 : decode cX12_version 4 = .ok (.invokevirtual 482, 3) := by decide +kernel
set_option maxRecDepth 100000 in
theorem q2349 : Cond.code yX12_isCopy cX12_isCopy 3 (some FieldType.boolean) ∈ GT := gt 2349 (rfl) (by decide +kernel)
theorem M_X12_isCopy : MY yX12_isCopy cX12_isCopy 3 (some FieldType.boolean) 2 := ⟨q2349, q135, by decide +kernel, by decide +kernel⟩
theorem q2346 : Cond.methodLink RX12 482 yX12_isCopy ∈ GT := gt 2346 (by decide +kernel) (by decide +kernel)
theorem q2348 : Cond.instanceMethod yX12_isCopy ∈ GT := gt 2348 (by decide +kernel) (by decide +kernel)
theorem q118 : Cond.selects RX12 yX12_isCopy yX12_isCopy ∈ GT := gt 118 (by decide +kernel) (by decide +kernel)
theorem dX12_version_7 : decode cX12_version 7 = .ok (.ifCond .eq 7, 3) := by decide +kernel
theorem dX12_version_14 : decode cX12_version 14 = .ok (.iconst 1, 1) := by decide +kernel
theorem dX12_version_15 : decode cX12_version 15 = .ok (.invokevirtual 267, 3) := by decide +kernel
theorem dX12_version_18 : decode cX12_version 18 = .ok (.ifCond .eq 5, 3) := by decide +kernel
theorem dX12_version_21 : decode cX12_version 21 = .ok (.iconst 0, 1) := by decide +kernel
theorem dX12_version_22 : decode cX12_version 22 = .ok (.ireturn, 1) := by decide +kernel
theorem dX12_unit_0 : decode cX12_unit 0 = .ok (.aload_n 0, 1) := by decide +kernel
theorem dX12_unit_1 : decode cX12_unit 1 = .ok (.iload_n 1, 1) := by decide +kernel
theorem dX12_unit_2 : decode cX12_unit 2 = .ok (.iload_n 2, 1) := by decide +kernel
theorem dX12_unit_3 : decode cX12_unit 3 = .ok (.invokevirtual 482, 3) := by decide +kernel
theorem dX12_unit_6 : decode cX12_unit 6 = .ok (.ifCond .eq 12, 3) := by decide +kernel
theorem dX12_unit_18 : decode cX12_unit 18 = .ok (.iconst (-1), 1) := by decide +kernel
theorem dX12_unit_19 : decode cX12_unit 19 = .ok (.istore 4, 2) := by decide +kernel
theorem dX12_unit_21 : decode cX12_unit 21 = .ok (.iload 4, 2) := by decide +kernel
theorem dX12_unit_23 : decode cX12_unit 23 = .ok (.iconst (-1), 1) := by decide +kernel
theorem dX12_unit_24 : decode cX12_unit 24 = .ok (.if_icmp .eq 24, 3) := by decide +kernel
theorem dX12_unit_48 : decode cX12_unit 48 = .ok (.iconst 0, 1) := by decide +kernel
theorem dX12_unit_49 : decode cX12_unit 49 = .ok (.istore 5, 2) := by decide +kernel
theorem dX12_unit_51 : decode cX12_unit 51 = .ok (.aload_n 0, 1) := by decide +kernel
theorem dX12_unit_52 : decode cX12_unit 52 = .ok (.iload 5, 2) := by decide +kernel
theorem dX12_unit_54 : decode cX12_unit 54 = .ok (.ifCond .eq 7, 3) := by decide +kernel
theorem dX12_unit_61 : decode cX12_unit 61 = .ok (.iconst 1, 1) := by decide +kernel
theorem dX12_unit_62 : decode cX12_unit 62 = .ok (.invokevirtual 267, 3) := by decide +kernel
theorem dX12_unit_65 : decode cX12_unit 65 = .ok (.ifCond .eq 8, 3) := by decide +kernel
theorem dX12_unit_68 : decode cX12_unit 68 = .ok (.bipush 32, 2) := by decide +kernel
theorem dX12_unit_70 : decode cX12_unit 70 = .ok (.goto 11, 3) := by decide +kernel
theorem dX12_unit_81 : decode cX12_unit 81 = .ok (.ireturn, 1) := by decide +kernel
theorem dX12_cancel_0 : decode cX12_cancel 0 = .ok (.aload_n 0, 1) := by decide +kernel
theorem dX12_cancel_1 : decode cX12_cancel 1 = .ok (.iload_n 1, 1) := by decide +kernel
theorem dX12_cancel_2 : decode cX12_cancel 2 = .ok (.iload_n 2, 1) := by decide +kernel
theorem dX12_cancel_3 : decode cX12_cancel 3 = .ok (.invokevirtual 335, 3) := by decide +kernel
theorem dX12_cancel_6 : decode cX12_cancel 6 = .ok (.istore_n 3, 1) := by decide +kernel
theorem dX12_cancel_7 : decode cX12_cancel 7 = .ok (.aload_n 0, 1) := by decide +kernel
theorem dX12_cancel_8 : decode cX12_cancel 8 = .ok (.iload_n 3, 1) := by decide +kernel
theorem dX12_cancel_9 : decode cX12_cancel 9 = .ok (.ifCond .ne 7, 3) := by decide +kernel
theorem dX12_cancel_12 : decode cX12_cancel 12 = .ok (.iconst 1, 1) := by decide +kernel
theorem dX12_cancel_13 : decode cX12_cancel 13 = .ok (.goto 21, 3) := by decide +kernel
theorem dX12_cancel_34 : decode cX12_cancel 34 = .ok (.invokevirtual 267, 3) := by decide +kernel
theorem dX12_cancel_37 : decode cX12_cancel 37 = .ok (.ifCond .ne 24, 3) := by decide +kernel
theorem dX12_cancel_61 : decode cX12_cancel 61 = .ok (.return_, 1) := by decide +kernel
theorem dX12_apply_0 : decode cX12_apply 0 = .ok (.aload_n 0, 1) := by decide +kernel
theorem dX12_apply_1 : decode cX12_apply 1 = .ok (.iload_n 1, 1) := by decide +kernel
theorem dX12_apply_2 : decode cX12_apply 2 = .ok (.iload_n 2, 1) := by decide +kernel
theorem dX12_apply_3 : decode cX12_apply 3 = .ok (.invokevirtual 335, 3) := by decide +kernel
theorem dX12_apply_6 : decode cX12_apply 6 = .ok (.istore_n 3, 1) := by decide +kernel
theorem dX12_apply_7 : decode cX12_apply 7 = .ok (.iload_n 3, 1) := by decide +kernel
theorem dX12_apply_8 : decode cX12_apply 8 = .ok (.ifCond .eq 11, 3) := by decide +kernel
theorem dX12_apply_19 : decode cX12_apply 19 = .ok (.iconst 0, 1) := by decide +kernel
theorem dX12_apply_20 : decode cX12_apply 20 = .ok (.istore 4, 2) := by decide +kernel
theorem dX12_apply_22 : decode cX12_apply 22 = .ok (.aload_n 0, 1) := by decide +kernel
theorem dX12_apply_23 : decode cX12_apply 23 = .ok (.iload_n 3, 1) := by decide +kernel
theorem dX12_apply_24 : decode cX12_apply 24 = .ok (.ifCond .ne 7, 3) := by decide +kernel
theorem dX12_apply_27 : decode cX12_apply 27 = .ok (.iconst 1, 1) := by decide +kernel
theorem dX12_apply_28 : decode cX12_apply 28 = .ok (.goto 17, 3) := by decide +kernel
theorem dX12_apply_45 : decode cX12_apply 45 = .ok (.invokevirtual 267, 3) := by decide +kernel
theorem dX12_apply_48 : decode cX12_apply 48 = .ok (.ifCond .eq 5, 3) := by decide +kernel
theorem dX12_apply_51 : decode cX12_apply 51 = .ok (.iconst 0, 1) := by decide +kernel
theorem dX12_apply_52 : decode cX12_apply 52 = .ok (.ireturn, 1) := by decide +kernel
theorem dX12_standing_0 : decode cX12_standing 0 = .ok (.aload_n 0, 1) := by decide +kernel
theorem dX12_standing_1 : decode cX12_standing 1 = .ok (.iload_n 1, 1) := by decide +kernel
theorem dX12_standing_2 : decode cX12_standing 2 = .ok (.iload_n 2, 1) := by decide +kernel
theorem dX12_standing_3 : decode cX12_standing 3 = .ok (.invokevirtual 335, 3) := by decide +kernel
theorem dX12_standing_6 : decode cX12_standing 6 = .ok (.istore_n 3, 1) := by decide +kernel
theorem dX12_standing_7 : decode cX12_standing 7 = .ok (.aload_n 0, 1) := by decide +kernel
theorem dX12_standing_8 : decode cX12_standing 8 = .ok (.iload_n 3, 1) := by decide +kernel
theorem dX12_standing_9 : decode cX12_standing 9 = .ok (.ifCond .eq 7, 3) := by decide +kernel
theorem dX12_standing_16 : decode cX12_standing 16 = .ok (.iconst 1, 1) := by decide +kernel
theorem dX12_standing_17 : decode cX12_standing 17 = .ok (.invokevirtual 267, 3) := by decide +kernel
theorem dX12_standing_20 : decode cX12_standing 20 = .ok (.ifCond .eq 5, 3) := by decide +kernel
theorem dX12_standing_23 : decode cX12_standing 23 = .ok (.iconst 0, 1) := by decide +kernel
theorem dX12_standing_24 : decode cX12_standing 24 = .ok (.ireturn, 1) := by decide +kernel
theorem dX12_item_0 : decode cX12_item 0 = .ok (.aload_n 0, 1) := by decide +kernel
theorem dX12_item_1 : decode cX12_item 1 = .ok (.iload_n 1, 1) := by decide +kernel
theorem dX12_item_2 : decode cX12_item 2 = .ok (.iload_n 2, 1) := by decide +kernel
theorem dX12_item_3 : decode cX12_item 3 = .ok (.iload_n 3, 1) := by decide +kernel
theorem dX12_item_4 : decode cX12_item 4 = .ok (.invokevirtual 490, 3) := by decide +kernel
set_option maxRecDepth 100000 in
theorem q2373 : Cond.code yX12_isItem cX12_isItem 5 (some FieldType.boolean) ∈ GT := gt 2373 (rfl) (by decide +kernel)
theorem M_X12_isItem : MY yX12_isItem cX12_isItem 5 (some FieldType.boolean) 3 := ⟨q2373, q135, by decide +kernel, by decide +kernel⟩
theorem q2370 : Cond.methodLink RX12 490 yX12_isItem ∈ GT := gt 2370 (by decide +kernel) (by decide +kernel)
theorem q2372 : Cond.instanceMethod yX12_isItem ∈ GT := gt 2372 (by decide +kernel) (by decide +kernel)
theorem q120 : Cond.selects RX12 yX12_isItem yX12_isItem ∈ GT := gt 120 (by decide +kernel) (by decide +kernel)
theorem dX12_item_7 : decode cX12_item 7 = .ok (.istore 4, 2) := by decide +kernel
theorem dX12_item_9 : decode cX12_item 9 = .ok (.aload_n 0, 1) := by decide +kernel
theorem dX12_item_10 : decode cX12_item 10 = .ok (.iload 4, 2) := by decide +kernel
theorem dX12_item_12 : decode cX12_item 12 = .ok (.ifCond .eq 7, 3) := by decide +kernel
theorem dX12_item_19 : decode cX12_item 19 = .ok (.iconst 1, 1) := by decide +kernel
theorem dX12_item_20 : decode cX12_item 20 = .ok (.invokevirtual 267, 3) := by decide +kernel
theorem dX12_item_23 : decode cX12_item 23 = .ok (.ifCond .eq 7, 3) := by decide +kernel
theorem dX12_item_26 : decode cX12_item 26 = .ok (.iconst 0, 1) := by decide +kernel
theorem dX12_item_27 : decode cX12_item 27 = .ok (.goto 21, 3) := by decide +kernel
theorem dX12_item_48 : decode cX12_item 48 = .ok (.ireturn, 1) := by decide +kernel
theorem dX12_value_0 : decode cX12_value 0 = .ok (.aload_n 0, 1) := by decide +kernel
theorem dX12_value_1 : decode cX12_value 1 = .ok (.iload_n 1, 1) := by decide +kernel
theorem dX12_value_2 : decode cX12_value 2 = .ok (.iload_n 2, 1) := by decide +kernel
theorem dX12_value_3 : decode cX12_value 3 = .ok (.iload_n 3, 1) := by decide +kernel
theorem dX12_value_4 : decode cX12_value 4 = .ok (.invokevirtual 490, 3) := by decide +kernel
theorem dX12_value_7 : decode cX12_value 7 = .ok (.istore 4, 2) := by decide +kernel
theorem dX12_value_9 : decode cX12_value 9 = .ok (.aload_n 0, 1) := by decide +kernel
theorem dX12_value_10 : decode cX12_value 10 = .ok (.iload 4, 2) := by decide +kernel
theorem dX12_value_12 : decode cX12_value 12 = .ok (.ifCond .eq 7, 3) := by decide +kernel
theorem dX12_value_19 : decode cX12_value 19 = .ok (.iconst 1, 1) := by decide +kernel
theorem dX12_value_20 : decode cX12_value 20 = .ok (.invokevirtual 267, 3) := by decide +kernel
theorem dX12_value_23 : decode cX12_value 23 = .ok (.ifCond .eq 7, 3) := by decide +kernel
theorem dX12_value_26 : decode cX12_value 26 = .ok (.iconst 0, 1) := by decide +kernel
theorem dX12_value_27 : decode cX12_value 27 = .ok (.goto 22, 3) := by decide +kernel
theorem dX12_value_49 : decode cX12_value 49 = .ok (.ireturn, 1) := by decide +kernel
theorem dX12_token_0 : decode cX12_token 0 = .ok (.iload_n 3, 1) := by decide +kernel
theorem dX12_token_1 : decode cX12_token 1 = .ok (.ifCond .lt 33, 3) := by decide +kernel
theorem dX12_token_34 : decode cX12_token 34 = .ok (.iconst 0, 1) := by decide +kernel
theorem dX12_token_35 : decode cX12_token 35 = .ok (.istore 4, 2) := by decide +kernel
theorem dX12_token_37 : decode cX12_token 37 = .ok (.aload_n 0, 1) := by decide +kernel
theorem dX12_token_38 : decode cX12_token 38 = .ok (.iload 4, 2) := by decide +kernel
theorem dX12_token_40 : decode cX12_token 40 = .ok (.ifCond .eq 7, 3) := by decide +kernel
theorem dX12_token_47 : decode cX12_token 47 = .ok (.iconst 1, 1) := by decide +kernel
theorem dX12_token_48 : decode cX12_token 48 = .ok (.invokevirtual 267, 3) := by decide +kernel
theorem dX12_token_51 : decode cX12_token 51 = .ok (.ifCond .eq 5, 3) := by decide +kernel
theorem dX12_token_54 : decode cX12_token 54 = .ok (.iconst 0, 1) := by decide +kernel
theorem dX12_token_55 : decode cX12_token 55 = .ok (.ireturn, 1) := by decide +kernel
theorem dX12_token_4 : decode cX12_token 4 = .ok (.aload_n 0, 1) := by decide +kernel
theorem dX12_token_5 : decode cX12_token 5 = .ok (.iload_n 1, 1) := by decide +kernel
theorem dX12_token_6 : decode cX12_token 6 = .ok (.iload_n 2, 1) := by decide +kernel
theorem dX12_token_7 : decode cX12_token 7 = .ok (.iload_n 3, 1) := by decide +kernel
theorem dX12_token_8 : decode cX12_token 8 = .ok (.iconst 4, 1) := by decide +kernel
theorem dX12_token_9 : decode cX12_token 9 = .ok (.idiv, 1) := by decide +kernel
theorem dX12_token_10 : decode cX12_token 10 = .ok (.invokevirtual 490, 3) := by decide +kernel
theorem dX12_token_13 : decode cX12_token 13 = .ok (.ifCond .eq 21, 3) := by decide +kernel
theorem dX12_id_0 : decode cX12_id 0 = .ok (.aload_n 0, 1) := by decide +kernel
theorem dX12_id_1 : decode cX12_id 1 = .ok (.iload_n 1, 1) := by decide +kernel
theorem dX12_id_2 : decode cX12_id 2 = .ok (.iload_n 2, 1) := by decide +kernel
theorem dX12_id_3 : decode cX12_id 3 = .ok (.invokevirtual 335, 3) := by decide +kernel
theorem dX12_id_6 : decode cX12_id 6 = .ok (.ifCond .eq 15, 3) := by decide +kernel
theorem dX12_id_21 : decode cX12_id 21 = .ok (.iconst 0, 1) := by decide +kernel
theorem dX12_id_22 : decode cX12_id 22 = .ok (.istore 4, 2) := by decide +kernel
theorem dX12_id_24 : decode cX12_id 24 = .ok (.aload_n 0, 1) := by decide +kernel
theorem dX12_id_25 : decode cX12_id 25 = .ok (.iload 4, 2) := by decide +kernel
theorem dX12_id_27 : decode cX12_id 27 = .ok (.ifCond .eq 7, 3) := by decide +kernel
theorem dX12_id_34 : decode cX12_id 34 = .ok (.iconst 1, 1) := by decide +kernel
theorem dX12_id_35 : decode cX12_id 35 = .ok (.invokevirtual 267, 3) := by decide +kernel
theorem dX12_id_38 : decode cX12_id 38 = .ok (.ifCond .eq 7, 3) := by decide +kernel
theorem dX12_id_41 : decode cX12_id 41 = .ok (.iconst 0, 1) := by decide +kernel
theorem dX12_id_42 : decode cX12_id 42 = .ok (.goto 17, 3) := by decide +kernel
theorem dX12_id_59 : decode cX12_id 59 = .ok (.ireturn, 1) := by decide +kernel
theorem dX12_isNamed_0 : decode cX12_isNamed 0 = .ok (.iconst 0, 1) := by decide +kernel
theorem dX12_isNamed_1 : decode cX12_isNamed 1 = .ok (.istore_n 3, 1) := by decide +kernel
theorem dX12_isNamed_2 : decode cX12_isNamed 2 = .ok (.iconst 0, 1) := by decide +kernel
theorem dX12_isNamed_3 : decode cX12_isNamed 3 = .ok (.istore 4, 2) := by decide +kernel
theorem dX12_isNamed_5 : decode cX12_isNamed 5 = .ok (.iload 4, 2) := by decide +kernel
theorem dX12_isNamed_7 : decode cX12_isNamed 7 = .ok (.aload_n 0, 1) := by decide +kernel
theorem dX12_isNamed_8 : decode cX12_isNamed 8 = .ok (.getfield 212, 3) := by decide +kernel
theorem dX12_isNamed_11 : decode cX12_isNamed 11 = .ok (.if_icmp .ge 36, 3) := by decide +kernel
theorem dX12_isNamed_47 : decode cX12_isNamed 47 = .ok (.iload_n 3, 1) := by decide +kernel
theorem dX12_isNamed_48 : decode cX12_isNamed 48 = .ok (.ireturn, 1) := by decide +kernel
theorem dX12_isQuiet_0 : decode cX12_isQuiet 0 = .ok (.iconst 1, 1) := by decide +kernel
theorem dX12_isQuiet_1 : decode cX12_isQuiet 1 = .ok (.istore_n 1, 1) := by decide +kernel
theorem dX12_isQuiet_2 : decode cX12_isQuiet 2 = .ok (.iconst 0, 1) := by decide +kernel
theorem dX12_isQuiet_3 : decode cX12_isQuiet 3 = .ok (.istore_n 2, 1) := by decide +kernel
theorem dX12_isQuiet_4 : decode cX12_isQuiet 4 = .ok (.iload_n 2, 1) := by decide +kernel
theorem dX12_isQuiet_5 : decode cX12_isQuiet 5 = .ok (.aload_n 0, 1) := by decide +kernel
theorem dX12_isQuiet_6 : decode cX12_isQuiet 6 = .ok (.getfield 212, 3) := by decide +kernel
theorem dX12_isQuiet_9 : decode cX12_isQuiet 9 = .ok (.if_icmp .ge 38, 3) := by decide +kernel
theorem dX12_isQuiet_47 : decode cX12_isQuiet 47 = .ok (.iload_n 1, 1) := by decide +kernel
theorem dX12_isQuiet_48 : decode cX12_isQuiet 48 = .ok (.ireturn, 1) := by decide +kernel
theorem dX12_makes_0 : decode cX12_makes 0 = .ok (.aload_n 0, 1) := by decide +kernel
theorem q1752 : Cond.fieldLink RX12 16 "ToolPlexModel" "name" "[I" ∈ GT := gt 1752 (by decide +kernel) (by decide +kernel)
theorem dX12_makes_1 : decode cX12_makes 1 = .ok (.getfield 16, 3) := by decide +kernel
theorem dX12_makes_4 : decode cX12_makes 4 = .ok (.aload_n 0, 1) := by decide +kernel
theorem dX12_makes_5 : decode cX12_makes 5 = .ok (.getfield 212, 3) := by decide +kernel
theorem dX12_makes_8 : decode cX12_makes 8 = .ok (.iload_n 1, 1) := by decide +kernel
theorem dX12_makes_9 : decode cX12_makes 9 = .ok (.iastore, 1) := by decide +kernel
theorem dX12_makes_10 : decode cX12_makes 10 = .ok (.aload_n 0, 1) := by decide +kernel
theorem q1753 : Cond.fieldLink RX12 19 "ToolPlexModel" "language" "[I" ∈ GT := gt 1753 (by decide +kernel) (by decide +kernel)
theorem dX12_makes_11 : decode cX12_makes 11 = .ok (.getfield 19, 3) := by decide +kernel
theorem dX12_makes_14 : decode cX12_makes 14 = .ok (.aload_n 0, 1) := by decide +kernel
theorem dX12_makes_15 : decode cX12_makes 15 = .ok (.getfield 212, 3) := by decide +kernel
theorem dX12_makes_18 : decode cX12_makes 18 = .ok (.iload_n 2, 1) := by decide +kernel
theorem dX12_makes_19 : decode cX12_makes 19 = .ok (.iastore, 1) := by decide +kernel
theorem dX12_makes_20 : decode cX12_makes 20 = .ok (.aload_n 0, 1) := by decide +kernel
theorem dX12_makes_21 : decode cX12_makes 21 = .ok (.dup, 1) := by decide +kernel
theorem dX12_makes_22 : decode cX12_makes 22 = .ok (.getfield 212, 3) := by decide +kernel
theorem dX12_makes_25 : decode cX12_makes 25 = .ok (.iconst 1, 1) := by decide +kernel
theorem dX12_makes_26 : decode cX12_makes 26 = .ok (.iadd, 1) := by decide +kernel
theorem dX12_makes_27 : decode cX12_makes 27 = .ok (.putfield 212, 3) := by decide +kernel
theorem dX12_makes_30 : decode cX12_makes 30 = .ok (.aload_n 0, 1) := by decide +kernel
theorem dX12_makes_31 : decode cX12_makes 31 = .ok (.getfield 212, 3) := by decide +kernel
theorem dX12_makes_34 : decode cX12_makes 34 = .ok (.iconst 1, 1) := by decide +kernel
theorem dX12_makes_35 : decode cX12_makes 35 = .ok (.isub, 1) := by decide +kernel
theorem dX12_makes_36 : decode cX12_makes 36 = .ok (.ireturn, 1) := by decide +kernel
theorem dX12_file_0 : decode cX12_file 0 = .ok (.iload_n 1, 1) := by decide +kernel
theorem dX12_file_1 : decode cX12_file 1 = .ok (.bipush 97, 2) := by decide +kernel
theorem dX12_file_3 : decode cX12_file 3 = .ok (.bipush 122, 2) := by decide +kernel
theorem dX12_file_5 : decode cX12_file 5 = .ok (.invokestatic 215, 3) := by decide +kernel
theorem dX12_file_8 : decode cX12_file 8 = .ok (.ifCond .eq 16, 3) := by decide +kernel
theorem dX12_file_11 : decode cX12_file 11 = .ok (.iload_n 2, 1) := by decide +kernel
theorem dX12_file_12 : decode cX12_file 12 = .ok (.iconst 0, 1) := by decide +kernel
theorem dX12_file_13 : decode cX12_file 13 = .ok (.iconst 2, 1) := by decide +kernel
theorem dX12_file_14 : decode cX12_file 14 = .ok (.invokestatic 215, 3) := by decide +kernel
theorem dX12_file_17 : decode cX12_file 17 = .ok (.ifCond .eq 7, 3) := by decide +kernel
theorem dX12_file_20 : decode cX12_file 20 = .ok (.iconst 1, 1) := by decide +kernel
theorem dX12_file_21 : decode cX12_file 21 = .ok (.goto 4, 3) := by decide +kernel
theorem dX12_file_25 : decode cX12_file 25 = .ok (.istore_n 3, 1) := by decide +kernel
theorem dX12_file_26 : decode cX12_file 26 = .ok (.aload_n 0, 1) := by decide +kernel
theorem dX12_file_27 : decode cX12_file 27 = .ok (.iload_n 3, 1) := by decide +kernel
theorem dX12_file_28 : decode cX12_file 28 = .ok (.ifCond .ne 7, 3) := by decide +kernel
theorem dX12_file_35 : decode cX12_file 35 = .ok (.aload_n 0, 1) := by decide +kernel
theorem dX12_file_36 : decode cX12_file 36 = .ok (.getfield 212, 3) := by decide +kernel
theorem dX12_file_39 : decode cX12_file 39 = .ok (.bipush 6, 2) := by decide +kernel
theorem dX12_file_41 : decode cX12_file 41 = .ok (.if_icmp .eq 12, 3) := by decide +kernel
theorem dX12_file_44 : decode cX12_file 44 = .ok (.aload_n 0, 1) := by decide +kernel
theorem dX12_file_45 : decode cX12_file 45 = .ok (.iload_n 1, 1) := by decide +kernel
theorem dX12_file_46 : decode cX12_file 46 = .ok (.iconst (-1), 1) := by decide +kernel
theorem dX12_file_47 : decode cX12_file 47 = .ok (.invokevirtual 263, 3) := by decide +kernel
set_option maxRecDepth 100000 in
theorem q1989 : Cond.code yX12_isNamed cX12_isNamed 5 (some FieldType.boolean) ∈ GT := gt 1989 (rfl) (by decide +kernel)
theorem M_X12_isNamed : MY yX12_isNamed cX12_isNamed 5 (some FieldType.boolean) 2 := ⟨q1989, q135, by decide +kernel, by decide +kernel⟩
theorem q1986 : Cond.methodLink RX12 263 yX12_isNamed ∈ GT := gt 1986 (by decide +kernel) (by decide +kernel)
theorem q1988 : Cond.instanceMethod yX12_isNamed ∈ GT := gt 1988 (by decide +kernel) (by decide +kernel)
theorem q52 : Cond.selects RX12 yX12_isNamed yX12_isNamed ∈ GT := gt 52 (by decide +kernel) (by decide +kernel)
theorem dX12_file_50 : decode cX12_file 50 = .ok (.ifCond .eq 7, 3) := by decide +kernel
theorem dX12_file_57 : decode cX12_file 57 = .ok (.iconst 0, 1) := by decide +kernel
theorem dX12_file_58 : decode cX12_file 58 = .ok (.invokevirtual 267, 3) := by decide +kernel
theorem dX12_file_61 : decode cX12_file 61 = .ok (.ifCond .eq 5, 3) := by decide +kernel
theorem dX12_file_66 : decode cX12_file 66 = .ok (.aload_n 0, 1) := by decide +kernel
theorem dX12_file_67 : decode cX12_file 67 = .ok (.iload_n 1, 1) := by decide +kernel
theorem dX12_file_68 : decode cX12_file 68 = .ok (.iload_n 2, 1) := by decide +kernel
theorem dX12_file_69 : decode cX12_file 69 = .ok (.invokevirtual 270, 3) := by decide +kernel
set_option maxRecDepth 100000 in
theorem q1997 : Cond.code yX12_makes cX12_makes 3 (some FieldType.int) ∈ GT := gt 1997 (rfl) (by decide +kernel)
theorem M_X12_makes : MY yX12_makes cX12_makes 3 (some FieldType.int) 2 := ⟨q1997, q135, by decide +kernel, by decide +kernel⟩
theorem q1994 : Cond.methodLink RX12 270 yX12_makes ∈ GT := gt 1994 (by decide +kernel) (by decide +kernel)
theorem q1996 : Cond.instanceMethod yX12_makes ∈ GT := gt 1996 (by decide +kernel) (by decide +kernel)
theorem q54 : Cond.selects RX12 yX12_makes yX12_makes ∈ GT := gt 54 (by decide +kernel) (by decide +kernel)
theorem dX12_file_72 : decode cX12_file 72 = .ok (.ireturn, 1) := by decide +kernel
theorem dX12_file_24 : decode cX12_file 24 = .ok (.iconst 0, 1) := by decide +kernel
theorem dX12_file_31 : decode cX12_file 31 = .ok (.iconst 1, 1) := by decide +kernel
theorem dX12_file_32 : decode cX12_file 32 = .ok (.goto 26, 3) := by decide +kernel
theorem dX12_file_64 : decode cX12_file 64 = .ok (.iconst 0, 1) := by decide +kernel
theorem dX12_file_65 : decode cX12_file 65 = .ok (.ireturn, 1) := by decide +kernel
theorem dX12_server_0 : decode cX12_server 0 = .ok (.iload_n 1, 1) := by decide +kernel
theorem dX12_server_1 : decode cX12_server 1 = .ok (.iconst 1, 1) := by decide +kernel
theorem dX12_server_2 : decode cX12_server 2 = .ok (.bipush 63, 2) := by decide +kernel
theorem dX12_server_4 : decode cX12_server 4 = .ok (.invokestatic 215, 3) := by decide +kernel
theorem dX12_server_7 : decode cX12_server 7 = .ok (.ifCond .eq 26, 3) := by decide +kernel
theorem dX12_server_10 : decode cX12_server 10 = .ok (.iload_n 2, 1) := by decide +kernel
theorem dX12_server_11 : decode cX12_server 11 = .ok (.iconst 1, 1) := by decide +kernel
theorem dX12_server_12 : decode cX12_server 12 = .ok (.bipush 7, 2) := by decide +kernel
theorem dX12_server_14 : decode cX12_server 14 = .ok (.invokestatic 215, 3) := by decide +kernel
theorem dX12_server_17 : decode cX12_server 17 = .ok (.ifCond .eq 16, 3) := by decide +kernel
theorem dX12_server_20 : decode cX12_server 20 = .ok (.iload_n 3, 1) := by decide +kernel
theorem dX12_server_21 : decode cX12_server 21 = .ok (.iconst 0, 1) := by decide +kernel
theorem dX12_server_22 : decode cX12_server 22 = .ok (.iconst 2, 1) := by decide +kernel
theorem dX12_server_23 : decode cX12_server 23 = .ok (.invokestatic 215, 3) := by decide +kernel
theorem dX12_server_26 : decode cX12_server 26 = .ok (.ifCond .eq 7, 3) := by decide +kernel
theorem dX12_server_29 : decode cX12_server 29 = .ok (.iconst 1, 1) := by decide +kernel
theorem dX12_server_30 : decode cX12_server 30 = .ok (.goto 4, 3) := by decide +kernel
theorem dX12_server_34 : decode cX12_server 34 = .ok (.istore 4, 2) := by decide +kernel
theorem dX12_server_36 : decode cX12_server 36 = .ok (.aload_n 0, 1) := by decide +kernel
theorem dX12_server_37 : decode cX12_server 37 = .ok (.iload 4, 2) := by decide +kernel
theorem dX12_server_39 : decode cX12_server 39 = .ok (.ifCond .ne 7, 3) := by decide +kernel
theorem dX12_server_46 : decode cX12_server 46 = .ok (.aload_n 0, 1) := by decide +kernel
theorem dX12_server_47 : decode cX12_server 47 = .ok (.getfield 219, 3) := by decide +kernel
theorem dX12_server_50 : decode cX12_server 50 = .ok (.iconst 3, 1) := by decide +kernel
theorem dX12_server_51 : decode cX12_server 51 = .ok (.if_icmp .eq 10, 3) := by decide +kernel
theorem dX12_server_54 : decode cX12_server 54 = .ok (.aload_n 0, 1) := by decide +kernel
theorem dX12_server_55 : decode cX12_server 55 = .ok (.invokevirtual 283, 3) := by decide +kernel
set_option maxRecDepth 100000 in
theorem q2029 : Cond.code yX12_isQuiet cX12_isQuiet 3 (some FieldType.boolean) ∈ GT := gt 2029 (rfl) (by decide +kernel)
theorem M_X12_isQuiet : MY yX12_isQuiet cX12_isQuiet 3 (some FieldType.boolean) 0 := ⟨q2029, q135, by decide +kernel, by decide +kernel⟩
theorem q2026 : Cond.methodLink RX12 283 yX12_isQuiet ∈ GT := gt 2026 (by decide +kernel) (by decide +kernel)
theorem q2028 : Cond.instanceMethod yX12_isQuiet ∈ GT := gt 2028 (by decide +kernel) (by decide +kernel)
theorem q57 : Cond.selects RX12 yX12_isQuiet yX12_isQuiet ∈ GT := gt 57 (by decide +kernel) (by decide +kernel)
theorem dX12_server_58 : decode cX12_server 58 = .ok (.ifCond .ne 7, 3) := by decide +kernel
theorem dX12_server_65 : decode cX12_server 65 = .ok (.iconst 0, 1) := by decide +kernel
theorem dX12_server_66 : decode cX12_server 66 = .ok (.invokevirtual 267, 3) := by decide +kernel
theorem dX12_server_69 : decode cX12_server 69 = .ok (.ifCond .eq 5, 3) := by decide +kernel
theorem dX12_server_74 : decode cX12_server 74 = .ok (.aload_n 0, 1) := by decide +kernel
theorem q1765 : Cond.fieldLink RX12 54 "ToolPlexModel" "kinds" "[I" ∈ GT := gt 1765 (by decide +kernel) (by decide +kernel)
theorem dX12_server_75 : decode cX12_server 75 = .ok (.getfield 54, 3) := by decide +kernel
theorem dX12_server_78 : decode cX12_server 78 = .ok (.aload_n 0, 1) := by decide +kernel
theorem dX12_server_79 : decode cX12_server 79 = .ok (.getfield 219, 3) := by decide +kernel
theorem dX12_server_82 : decode cX12_server 82 = .ok (.iload_n 1, 1) := by decide +kernel
theorem dX12_server_83 : decode cX12_server 83 = .ok (.iastore, 1) := by decide +kernel
theorem dX12_server_84 : decode cX12_server 84 = .ok (.aload_n 0, 1) := by decide +kernel
theorem q1766 : Cond.fieldLink RX12 57 "ToolPlexModel" "languages" "[I" ∈ GT := gt 1766 (by decide +kernel) (by decide +kernel)
theorem dX12_server_85 : decode cX12_server 85 = .ok (.getfield 57, 3) := by decide +kernel
theorem dX12_server_88 : decode cX12_server 88 = .ok (.aload_n 0, 1) := by decide +kernel
theorem dX12_server_89 : decode cX12_server 89 = .ok (.getfield 219, 3) := by decide +kernel
theorem dX12_server_92 : decode cX12_server 92 = .ok (.iload_n 2, 1) := by decide +kernel
theorem dX12_server_93 : decode cX12_server 93 = .ok (.iastore, 1) := by decide +kernel
theorem dX12_server_94 : decode cX12_server 94 = .ok (.aload_n 0, 1) := by decide +kernel
theorem q1767 : Cond.fieldLink RX12 60 "ToolPlexModel" "style" "[I" ∈ GT := gt 1767 (by decide +kernel) (by decide +kernel)
theorem dX12_server_95 : decode cX12_server 95 = .ok (.getfield 60, 3) := by decide +kernel
theorem dX12_server_98 : decode cX12_server 98 = .ok (.aload_n 0, 1) := by decide +kernel
theorem dX12_server_99 : decode cX12_server 99 = .ok (.getfield 219, 3) := by decide +kernel
theorem dX12_server_102 : decode cX12_server 102 = .ok (.iload_n 3, 1) := by decide +kernel
theorem dX12_server_103 : decode cX12_server 103 = .ok (.iastore, 1) := by decide +kernel
theorem dX12_server_104 : decode cX12_server 104 = .ok (.aload_n 0, 1) := by decide +kernel
theorem q1768 : Cond.fieldLink RX12 63 "ToolPlexModel" "isUp" "[Z" ∈ GT := gt 1768 (by decide +kernel) (by decide +kernel)
theorem dX12_server_105 : decode cX12_server 105 = .ok (.getfield 63, 3) := by decide +kernel
theorem dX12_server_108 : decode cX12_server 108 = .ok (.aload_n 0, 1) := by decide +kernel
theorem dX12_server_109 : decode cX12_server 109 = .ok (.getfield 219, 3) := by decide +kernel
theorem dX12_server_112 : decode cX12_server 112 = .ok (.iconst 1, 1) := by decide +kernel
theorem dX12_server_113 : decode cX12_server 113 = .ok (.bastore, 1) := by decide +kernel
theorem dX12_server_114 : decode cX12_server 114 = .ok (.aload_n 0, 1) := by decide +kernel
theorem dX12_server_115 : decode cX12_server 115 = .ok (.dup, 1) := by decide +kernel
theorem dX12_server_116 : decode cX12_server 116 = .ok (.getfield 219, 3) := by decide +kernel
theorem dX12_server_119 : decode cX12_server 119 = .ok (.iconst 1, 1) := by decide +kernel
theorem dX12_server_120 : decode cX12_server 120 = .ok (.iadd, 1) := by decide +kernel
theorem dX12_server_121 : decode cX12_server 121 = .ok (.putfield 219, 3) := by decide +kernel
theorem dX12_server_124 : decode cX12_server 124 = .ok (.aload_n 0, 1) := by decide +kernel
theorem dX12_server_125 : decode cX12_server 125 = .ok (.getfield 219, 3) := by decide +kernel
theorem dX12_server_128 : decode cX12_server 128 = .ok (.iconst 1, 1) := by decide +kernel
theorem dX12_server_129 : decode cX12_server 129 = .ok (.isub, 1) := by decide +kernel
theorem dX12_server_130 : decode cX12_server 130 = .ok (.ireturn, 1) := by decide +kernel
theorem dX12_server_33 : decode cX12_server 33 = .ok (.iconst 0, 1) := by decide +kernel
theorem dX12_server_42 : decode cX12_server 42 = .ok (.iconst 1, 1) := by decide +kernel
theorem dX12_server_43 : decode cX12_server 43 = .ok (.goto 23, 3) := by decide +kernel
theorem dX12_server_72 : decode cX12_server 72 = .ok (.iconst 0, 1) := by decide +kernel
theorem dX12_server_73 : decode cX12_server 73 = .ok (.ireturn, 1) := by decide +kernel
theorem dX12_deliver_0 : decode cX12_deliver 0 = .ok (.aload_n 0, 1) := by decide +kernel
theorem dX12_deliver_1 : decode cX12_deliver 1 = .ok (.iload_n 1, 1) := by decide +kernel
theorem dX12_deliver_2 : decode cX12_deliver 2 = .ok (.iconst 0, 1) := by decide +kernel
theorem dX12_deliver_3 : decode cX12_deliver 3 = .ok (.bipush 9, 2) := by decide +kernel
theorem dX12_deliver_5 : decode cX12_deliver 5 = .ok (.invokestatic 215, 3) := by decide +kernel
theorem dX12_deliver_8 : decode cX12_deliver 8 = .ok (.ifCond .eq 7, 3) := by decide +kernel
theorem dX12_deliver_11 : decode cX12_deliver 11 = .ok (.iconst 0, 1) := by decide +kernel
theorem dX12_deliver_12 : decode cX12_deliver 12 = .ok (.goto 4, 3) := by decide +kernel
theorem dX12_deliver_16 : decode cX12_deliver 16 = .ok (.invokevirtual 267, 3) := by decide +kernel
theorem dX12_deliver_19 : decode cX12_deliver 19 = .ok (.ifCond .eq 5, 3) := by decide +kernel
theorem dX12_deliver_24 : decode cX12_deliver 24 = .ok (.aload_n 0, 1) := by decide +kernel
theorem q1805 : Cond.fieldLink RX12 165 "ToolPlexModel" "front" "[I" ∈ GT := gt 1805 (by decide +kernel) (by decide +kernel)
theorem dX12_deliver_25 : decode cX12_deliver 25 = .ok (.getfield 165, 3) := by decide +kernel
theorem dX12_deliver_28 : decode cX12_deliver 28 = .ok (.iload_n 1, 1) := by decide +kernel
theorem dX12_deliver_29 : decode cX12_deliver 29 = .ok (.iaload, 1) := by decide +kernel
theorem dX12_deliver_30 : decode cX12_deliver 30 = .ok (.iconst (-1), 1) := by decide +kernel
theorem dX12_deliver_31 : decode cX12_deliver 31 = .ok (.if_icmp .ne 7, 3) := by decide +kernel
theorem dX12_deliver_34 : decode cX12_deliver 34 = .ok (.iconst (-1), 1) := by decide +kernel
theorem dX12_deliver_35 : decode cX12_deliver 35 = .ok (.goto 8, 3) := by decide +kernel
theorem dX12_deliver_43 : decode cX12_deliver 43 = .ok (.ireturn, 1) := by decide +kernel
theorem dX12_deliver_15 : decode cX12_deliver 15 = .ok (.iconst 1, 1) := by decide +kernel
theorem dX12_deliver_22 : decode cX12_deliver 22 = .ok (.iconst 0, 1) := by decide +kernel
theorem dX12_deliver_23 : decode cX12_deliver 23 = .ok (.ireturn, 1) := by decide +kernel
theorem dX12_deliverAll_0 : decode cX12_deliverAll 0 = .ok (.aload_n 0, 1) := by decide +kernel
theorem dX12_deliverAll_1 : decode cX12_deliverAll 1 = .ok (.iconst 0, 1) := by decide +kernel
theorem dX12_deliverAll_2 : decode cX12_deliverAll 2 = .ok (.putfield 208, 3) := by decide +kernel
theorem dX12_deliverAll_5 : decode cX12_deliverAll 5 = .ok (.iconst 0, 1) := by decide +kernel
theorem dX12_deliverAll_6 : decode cX12_deliverAll 6 = .ok (.istore_n 1, 1) := by decide +kernel
theorem dX12_deliverAll_7 : decode cX12_deliverAll 7 = .ok (.iconst 0, 1) := by decide +kernel
theorem dX12_deliverAll_8 : decode cX12_deliverAll 8 = .ok (.istore_n 2, 1) := by decide +kernel
theorem dX12_deliverAll_9 : decode cX12_deliverAll 9 = .ok (.iload_n 2, 1) := by decide +kernel
theorem dX12_deliverAll_10 : decode cX12_deliverAll 10 = .ok (.bipush 10, 2) := by decide +kernel
theorem dX12_deliverAll_12 : decode cX12_deliverAll 12 = .ok (.if_icmp .ge 33, 3) := by decide +kernel
theorem dX12_deliverAll_15 : decode cX12_deliverAll 15 = .ok (.aload_n 0, 1) := by decide +kernel
theorem dX12_deliverAll_16 : decode cX12_deliverAll 16 = .ok (.getfield 165, 3) := by decide +kernel
theorem dX12_deliverAll_19 : decode cX12_deliverAll 19 = .ok (.iload_n 2, 1) := by decide +kernel
theorem dX12_deliverAll_20 : decode cX12_deliverAll 20 = .ok (.iaload, 1) := by decide +kernel
theorem dX12_deliverAll_21 : decode cX12_deliverAll 21 = .ok (.iconst (-1), 1) := by decide +kernel
theorem dX12_deliverAll_22 : decode cX12_deliverAll 22 = .ok (.if_icmp .ne 9, 3) := by decide +kernel
theorem dX12_deliverAll_25 : decode cX12_deliverAll 25 = .ok (.iinc 2 1, 3) := by decide +kernel
theorem dX12_deliverAll_28 : decode cX12_deliverAll 28 = .ok (.goto (-19), 3) := by decide +kernel
theorem dX12_deliverAll_45 : decode cX12_deliverAll 45 = .ok (.iload_n 1, 1) := by decide +kernel
theorem dX12_deliverAll_46 : decode cX12_deliverAll 46 = .ok (.ireturn, 1) := by decide +kernel
theorem dX12_waiting_0 : decode cX12_waiting 0 = .ok (.aload_n 0, 1) := by decide +kernel
theorem dX12_waiting_1 : decode cX12_waiting 1 = .ok (.iload_n 1, 1) := by decide +kernel
theorem dX12_waiting_2 : decode cX12_waiting 2 = .ok (.iconst 0, 1) := by decide +kernel
theorem dX12_waiting_3 : decode cX12_waiting 3 = .ok (.bipush 9, 2) := by decide +kernel
theorem dX12_waiting_5 : decode cX12_waiting 5 = .ok (.invokestatic 215, 3) := by decide +kernel
theorem dX12_waiting_8 : decode cX12_waiting 8 = .ok (.ifCond .eq 7, 3) := by decide +kernel
theorem dX12_waiting_11 : decode cX12_waiting 11 = .ok (.iconst 0, 1) := by decide +kernel
theorem dX12_waiting_12 : decode cX12_waiting 12 = .ok (.goto 4, 3) := by decide +kernel
theorem dX12_waiting_16 : decode cX12_waiting 16 = .ok (.invokevirtual 267, 3) := by decide +kernel
theorem dX12_waiting_19 : decode cX12_waiting 19 = .ok (.ifCond .eq 7, 3) := by decide +kernel
theorem dX12_waiting_26 : decode cX12_waiting 26 = .ok (.aload_n 0, 1) := by decide +kernel
theorem q1807 : Cond.fieldLink RX12 171 "ToolPlexModel" "waits" "[I" ∈ GT := gt 1807 (by decide +kernel) (by decide +kernel)
theorem dX12_waiting_27 : decode cX12_waiting 27 = .ok (.getfield 171, 3) := by decide +kernel
theorem dX12_waiting_30 : decode cX12_waiting 30 = .ok (.iload_n 1, 1) := by decide +kernel
theorem dX12_waiting_31 : decode cX12_waiting 31 = .ok (.iaload, 1) := by decide +kernel
theorem dX12_waiting_32 : decode cX12_waiting 32 = .ok (.ireturn, 1) := by decide +kernel
theorem dX12_waiting_15 : decode cX12_waiting 15 = .ok (.iconst 1, 1) := by decide +kernel
theorem dX12_waiting_22 : decode cX12_waiting 22 = .ok (.iconst 0, 1) := by decide +kernel
theorem dX12_waiting_23 : decode cX12_waiting 23 = .ok (.goto 9, 3) := by decide +kernel
set_option maxHeartbeats 4000000 in
set_option maxRecDepth 100000 in
theorem k_X12_store (l : Launch) (d0 : Nat) (cO : ClassId) (dC : Nat → ClassId) (dI : Nat → Nat → Nat) (sz : Nat) (h0 : Nat) (a1 a2 : Int32) (fs : List Value) (hlen : fs.length = 75) (hf_files : fs[2]? = some (.int 0)) : Met l yX12_store (cn yX12_store cX12_store 4 (some FieldType.int)) (rmd 5 0 0) (va_Pc [.ref h0, .int a1, .int a2] (PRE d0 cO (dC, dI) (va_A [(h0, .inr (13, fs))] sz) [(h0, .inr (13, fs))] [] sz)) (va_Qi (fun (r : Int32) (u : Int32) => u = 1) (fun (u : Int32) (t : State) => ∃ fs2 : List Value, (fs2[74]? = some (.int u)) ∧ POW (dC, dI) (va_A [(h0, .inr (13, fs))] sz) [(h0, .inr (13, fs2))] [] t) (va_A [(h0, .inr (13, fs))] sz)) 0 0 (va_A [(h0, .inr (13, fs))] sz) := by
  refine Met.ofW (cc := cX12_store) (maxL := 4) (ret := (some FieldType.int)) (by decide) rfl ?_
  intro p e s m args below meth c s₁ B hml hv
  obtain ⟨rfl, hsz, hE, hP, hK, hD0⟩ := hv
  have hx := B.exec
  have hb := B.bytes
  have hr := B.returns
  have hts := atoms_spec (ws := cn yX12_store cX12_store 4 (some FieldType.int)) B.pre
  have ht : ∀ w ∈ GT, w.before _ s = true := fun w h => hts w (List.mem_cons_of_mem _ h)
  have hown : s.vm.findClass RX12 = some m.cls := findClass_of_methodNamed B.named
  have hlocks := B.notSynchronized
  subst hsz
  have hD := hD0.self (sz := s.heap.size)
  generalize hAe : va_A [(h0, .inr (13, fs))] s.heap.size = A at hD hE ⊢
  have hA : ∀ q : Nat, s.heap.size ≤ q → A q := fun q h => by rw [← hAe]; exact Or.inr h
  obtain ⟨H, hH0⟩ : ∃ H, s.heap = H := ⟨_, rfl⟩
  have hS : va_S A s.heap H [] := by rw [← hH0]; exact va_S.rf
  rw [hH0] at hP
  have hl := lv_entry ([.ref h0, .int a1, .int a2]) (n := 4) (Nat.le_of_ble_eq_true rfl)
  rw [lg_entry_eq]
  generalize (lg_sl ([.ref h0, .int a1, .int a2]) ++ List.replicate (4 - (lg_sl ([.ref h0, .int a1, .int a2])).length) Slot.unset).toArray = ls at hl ⊢
  have hl : lv_has ls 4 [(0, .ref h0), (1, .int a1), (2, .int a2)] := hl
  rw [hH0]
  refine lv_aload_n hx hb dX12_store_0 rfl (lv_at hl 0 rfl) ?_
  refine lv_iload_n hx hb dX12_store_1 rfl (lv_at hl 1 rfl) ?_
  have hPc := hP.sub (ws' := [(h0, .inr (13, fs))]) [0] rfl
  have hDc := hD.sub (ws' := [(h0, .inr (13, fs))]) [0] (by decide) rfl
  have hKc := hK.sub (tys' := []) [] rfl
  have hFc := freeNil hS hA
  refine va_calli (va_runV (As := [.int a1]) (rest := []) ⟨hx, hb, hml, hown, ht⟩ (k_X12_isFile l d0 cO dC dI H.size h0 a1 fs hlen hf_files) (my_V ht M_X12_isFile q2004 q55 q2002 (Nat.le_of_ble_eq_true rfl) (Nat.le_of_ble_eq_true rfl)) ⟨PREp.fb, va_recv hK hP (ci := 13) (q0 := 0) rfl rfl, fun U hU hW => ⟨rfl, PREp.mk' hE hS hFc hPc hKc U hU hW⟩⟩ rfl rfl hl.1 rfl (lv_room (Nat.le_of_ble_eq_true rfl)) dX12_store_2 ⟨(Nat.le_of_ble_eq_true rfl), (Nat.le_of_ble_eq_true rfl)⟩) hS (fun q _ h => hFc q h) hFc (fun r2 u1 t H1 locs htt hvm hw hB hz1 hk1 hS => ?_)
  try dsimp only at hw hB
  have hP1 := hB
  have hP := keepAll hP hk1
  generalize H1 = H at hP hS ⊢
  have hP : va_P (dC, dI) vwCl [(h0, .inr (13, fs))] H := hP
  have hD : va_D A [(h0, .inr (13, fs))] := hD
  have hK : va_K (dC, dI) vwCl [] s := hK
  refine W.widen (k := 0) (n := 0) (Nat.le_of_ble_eq_true rfl) (Nat.le_of_ble_eq_true rfl) ?_
  subst hw
  refine lv_istore_n (lv' := [(3, .int 0), (0, .ref h0), (1, .int a1), (2, .int a2)]) hx hb dX12_store_5 rfl hl (by decide) rfl (fun ls hl => ?_)
  refine lv_aload_n hx hb dX12_store_6 rfl (lv_at hl 1 rfl) ?_
  refine lv_iload_n hx hb dX12_store_7 rfl (lv_at hl 0 rfl) ?_
  refine lv_if_ne (tgt := 15) hx hb dX12_store_8 (by decide) (fun c3 => False.elim (by revert c3; decide)) (fun c3 => ?_)
  refine lv_iconst (v := 1) hx hb dX12_store_11 (by decide) ?_
  refine lv_goto (tgt := 59) hx hb dX12_store_12 (by decide) ?_
  have hPc := hP.sub (ws' := [(h0, .inr (13, fs))]) [0] rfl
  have hDc := hD.sub (ws' := [(h0, .inr (13, fs))]) [0] (by decide) rfl
  have hKc := hK.sub (tys' := []) [] rfl
  have hFc := va_free (wc := [(h0, .inr (13, fs))]) hD hS hA [0] rfl
  refine va_calli (va_runV (As := [.int 1]) (rest := []) ⟨hx, hb, hml, hown, ht⟩ (k_X12_fails l d0 cO dC dI H.size h0 1 fs hlen) (my_V ht M_X12_fails q1992 q53 q1990 (Nat.le_of_ble_eq_true rfl) (Nat.le_of_ble_eq_true rfl)) ⟨PRE.fb, va_recv hK hP (ci := 13) (q0 := 0) rfl rfl, fun U hU hW => ⟨rfl, PRE.mk' hE hS hFc hPc hKc hDc U hU hW⟩⟩ rfl rfl hl.1 rfl (lv_room (Nat.le_of_ble_eq_true rfl)) dX12_store_59 ⟨(Nat.le_of_ble_eq_true rfl), (Nat.le_of_ble_eq_true rfl)⟩) hS (fun q _ h => hFc q h) hFc (fun r5 u4 t H1 locs htt hvm hw hB hz1 hk1 hS => ?_)
  try dsimp only at hw hB
  obtain ⟨hP1, hK1, hD1⟩ := hB
  rw [htt] at hP1
  have hK1 := va_K.moved hvm.symm hK1
  obtain ⟨hP, hD⟩ := va_join (wr := []) (w1 := [(h0, .inr (13, (fs.set 74 (.int 1))))]) hP hD [0] [] rfl rfl (by decide) (by decide) hk1 hFc hP1 hD1
  have hK := (hK.sub (tys' := []) [] rfl).app hK1
  generalize H1 = H at hP hS ⊢
  have hP : va_P (dC, dI) vwCl [(h0, .inr (13, (fs.set 74 (.int 1))))] H := hP
  have hD : va_D A [(h0, .inr (13, (fs.set 74 (.int 1))))] := hD
  have hK : va_K (dC, dI) vwCl [] s := hK
  refine W.widen (k := 0) (n := 0) (Nat.le_of_ble_eq_true rfl) (Nat.le_of_ble_eq_true rfl) ?_
  have hw := hw.1 (by decide)
  subst hw
  refine lv_if_eq (tgt := 67) hx hb dX12_store_62 (by decide) (fun c6 => False.elim (by revert c6; decide)) (fun c6 => ?_)
  refine lv_iconst (v := 0) hx hb dX12_store_65 (by decide) ?_
  have hP9 := hP.sub (ws' := [(h0, .inr (13, (fs.set 74 (.int 1))))]) [0] rfl
  have hD9 := hD.sub (ws' := [(h0, .inr (13, (fs.set 74 (.int 1))))]) [0] (by decide) rfl
  have hK9 := hK.sub (tys' := []) [] rfl
  refine W.widen (k := 0) (n := 0) (Nat.le_of_ble_eq_true rfl) (Nat.le_of_ble_eq_true rfl) ?_
  exact W.iret (v := 0) hx hb hr (fun t ht9 hW9 => ⟨⟨0, 1, rfl, rfl, ⟨(fs.set 74 (.int 1)), (by rw [List.getElem?_set_self (by rw [hlen]; decide)]), POW.mk' ht9 hW9.alike hP9 hK9 hD9⟩⟩, hS.F ht9⟩) hS.2.2 dX12_store_66
set_option maxHeartbeats 4000000 in
set_option maxRecDepth 100000 in
theorem k_X12_name (l : Launch) (d0 : Nat) (cO : ClassId) (dC : Nat → ClassId) (dI : Nat → Nat → Nat) (sz : Nat) (h0 : Nat) (a1 : Int32) (fs : List Value) (hlen : fs.length = 75) (hf_files : fs[2]? = some (.int 0)) : Met l yX12_name (cn yX12_name cX12_name 2 (some FieldType.char)) (rmd 5 0 0) (va_Pc [.ref h0, .int a1] (PRE d0 cO (dC, dI) (va_A [(h0, .inr (13, fs))] sz) [(h0, .inr (13, fs))] [] sz)) (va_Qi (fun (r : Int32) (u : Int32) => u = 1) (fun (u : Int32) (t : State) => ∃ fs2 : List Value, (fs2[74]? = some (.int u)) ∧ POW (dC, dI) (va_A [(h0, .inr (13, fs))] sz) [(h0, .inr (13, fs2))] [] t) (va_A [(h0, .inr (13, fs))] sz)) 0 0 (va_A [(h0, .inr (13, fs))] sz) := by
  refine Met.ofW (cc := cX12_name) (maxL := 2) (ret := (some FieldType.char)) (by decide) rfl ?_
  intro p e s m args below meth c s₁ B hml hv
  obtain ⟨rfl, hsz, hE, hP, hK, hD0⟩ := hv
  have hx := B.exec
  have hb := B.bytes
  have hr := B.returns
  have hts := atoms_spec (ws := cn yX12_name cX12_name 2 (some FieldType.char)) B.pre
  have ht : ∀ w ∈ GT, w.before _ s = true := fun w h => hts w (List.mem_cons_of_mem _ h)
  have hown : s.vm.findClass RX12 = some m.cls := findClass_of_methodNamed B.named
  have hlocks := B.notSynchronized
  subst hsz
  have hD := hD0.self (sz := s.heap.size)
  generalize hAe : va_A [(h0, .inr (13, fs))] s.heap.size = A at hD hE ⊢
  have hA : ∀ q : Nat, s.heap.size ≤ q → A q := fun q h => by rw [← hAe]; exact Or.inr h
  obtain ⟨H, hH0⟩ : ∃ H, s.heap = H := ⟨_, rfl⟩
  have hS : va_S A s.heap H [] := by rw [← hH0]; exact va_S.rf
  rw [hH0] at hP
  have hl := lv_entry ([.ref h0, .int a1]) (n := 2) (Nat.le_of_ble_eq_true rfl)
  rw [lg_entry_eq]
  generalize (lg_sl ([.ref h0, .int a1]) ++ List.replicate (2 - (lg_sl ([.ref h0, .int a1])).length) Slot.unset).toArray = ls at hl ⊢
  have hl : lv_has ls 2 [(0, .ref h0), (1, .int a1)] := hl
  rw [hH0]
  refine lv_aload_n hx hb dX12_name_0 rfl (lv_at hl 0 rfl) ?_
  refine lv_aload_n hx hb dX12_name_1 rfl (lv_at hl 0 rfl) ?_
  refine lv_iload_n hx hb dX12_name_2 rfl (lv_at hl 1 rfl) ?_
  have hPc := hP.sub (ws' := [(h0, .inr (13, fs))]) [0] rfl
  have hDc := hD.sub (ws' := [(h0, .inr (13, fs))]) [0] (by decide) rfl
  have hKc := hK.sub (tys' := []) [] rfl
  have hFc := freeNil hS hA
  refine va_calli (va_runV (As := [.int a1]) (rest := [.ref h0]) ⟨hx, hb, hml, hown, ht⟩ (k_X12_isFile l d0 cO dC dI H.size h0 a1 fs hlen hf_files) (my_V ht M_X12_isFile q2004 q55 q2002 (Nat.le_of_ble_eq_true rfl) (Nat.le_of_ble_eq_true rfl)) ⟨PREp.fb, va_recv hK hP (ci := 13) (q0 := 0) rfl rfl, fun U hU hW => ⟨rfl, PREp.mk' hE hS hFc hPc hKc U hU hW⟩⟩ rfl rfl hl.1 rfl (lv_room (Nat.le_of_ble_eq_true rfl)) dX12_name_3 ⟨(Nat.le_of_ble_eq_true rfl), (Nat.le_of_ble_eq_true rfl)⟩) hS (fun q _ h => hFc q h) hFc (fun r2 u1 t H1 locs htt hvm hw hB hz1 hk1 hS => ?_)
  try dsimp only at hw hB
  have hP1 := hB
  have hP := keepAll hP hk1
  generalize H1 = H at hP hS ⊢
  have hP : va_P (dC, dI) vwCl [(h0, .inr (13, fs))] H := hP
  have hD : va_D A [(h0, .inr (13, fs))] := hD
  have hK : va_K (dC, dI) vwCl [] s := hK
  refine W.widen (k := 0) (n := 0) (Nat.le_of_ble_eq_true rfl) (Nat.le_of_ble_eq_true rfl) ?_
  subst hw
  refine lv_if_eq (tgt := 13) hx hb dX12_name_6 (by decide) (fun c3 => ?_) (fun c3 => False.elim (by revert c3; decide))
  refine lv_iconst (v := 1) hx hb dX12_name_13 (by decide) ?_
  have hPc := hP.sub (ws' := [(h0, .inr (13, fs))]) [0] rfl
  have hDc := hD.sub (ws' := [(h0, .inr (13, fs))]) [0] (by decide) rfl
  have hKc := hK.sub (tys' := []) [] rfl
  have hFc := va_free (wc := [(h0, .inr (13, fs))]) hD hS hA [0] rfl
  refine va_calli (va_runV (As := [.int 1]) (rest := []) ⟨hx, hb, hml, hown, ht⟩ (k_X12_fails l d0 cO dC dI H.size h0 1 fs hlen) (my_V ht M_X12_fails q1992 q53 q1990 (Nat.le_of_ble_eq_true rfl) (Nat.le_of_ble_eq_true rfl)) ⟨PRE.fb, va_recv hK hP (ci := 13) (q0 := 0) rfl rfl, fun U hU hW => ⟨rfl, PRE.mk' hE hS hFc hPc hKc hDc U hU hW⟩⟩ rfl rfl hl.1 rfl (lv_room (Nat.le_of_ble_eq_true rfl)) dX12_name_14 ⟨(Nat.le_of_ble_eq_true rfl), (Nat.le_of_ble_eq_true rfl)⟩) hS (fun q _ h => hFc q h) hFc (fun r5 u4 t H1 locs htt hvm hw hB hz1 hk1 hS => ?_)
  try dsimp only at hw hB
  obtain ⟨hP1, hK1, hD1⟩ := hB
  rw [htt] at hP1
  have hK1 := va_K.moved hvm.symm hK1
  obtain ⟨hP, hD⟩ := va_join (wr := []) (w1 := [(h0, .inr (13, (fs.set 74 (.int 1))))]) hP hD [0] [] rfl rfl (by decide) (by decide) hk1 hFc hP1 hD1
  have hK := (hK.sub (tys' := []) [] rfl).app hK1
  generalize H1 = H at hP hS ⊢
  have hP : va_P (dC, dI) vwCl [(h0, .inr (13, (fs.set 74 (.int 1))))] H := hP
  have hD : va_D A [(h0, .inr (13, (fs.set 74 (.int 1))))] := hD
  have hK : va_K (dC, dI) vwCl [] s := hK
  refine W.widen (k := 0) (n := 0) (Nat.le_of_ble_eq_true rfl) (Nat.le_of_ble_eq_true rfl) ?_
  have hw := hw.1 (by decide)
  subst hw
  refine lv_if_eq (tgt := 25) hx hb dX12_name_17 (by decide) (fun c6 => False.elim (by revert c6; decide)) (fun c6 => ?_)
  refine lv_bipush (v := 32) hx hb dX12_name_20 (by decide) ?_
  refine lv_goto (tgt := 32) hx hb dX12_name_22 (by decide) ?_
  have hP9 := hP.sub (ws' := [(h0, .inr (13, (fs.set 74 (.int 1))))]) [0] rfl
  have hD9 := hD.sub (ws' := [(h0, .inr (13, (fs.set 74 (.int 1))))]) [0] (by decide) rfl
  have hK9 := hK.sub (tys' := []) [] rfl
  refine W.widen (k := 0) (n := 0) (Nat.le_of_ble_eq_true rfl) (Nat.le_of_ble_eq_true rfl) ?_
  exact W.zret (v := 32) hx hb hr (by first | decide | rfl) (fun t ht9 hW9 => ⟨⟨32, 1, rfl, rfl, ⟨(fs.set 74 (.int 1)), (by rw [List.getElem?_set_self (by rw [hlen]; decide)]), POW.mk' ht9 hW9.alike hP9 hK9 hD9⟩⟩, hS.F ht9⟩) hS.2.2 dX12_name_32
set_option maxHeartbeats 4000000 in
set_option maxRecDepth 100000 in
theorem k_X12_open (l : Launch) (d0 : Nat) (cO : ClassId) (dC : Nat → ClassId) (dI : Nat → Nat → Nat) (sz : Nat) (h0 : Nat) (a1 a2 : Int32) (fs : List Value) (hlen : fs.length = 75) (hf_files : fs[2]? = some (.int 0)) : Met l yX12_open (cn yX12_open cX12_open 4 (some FieldType.int)) (rmd 5 0 0) (va_Pc [.ref h0, .int a1, .int a2] (PRE d0 cO (dC, dI) (va_A [(h0, .inr (13, fs))] sz) [(h0, .inr (13, fs))] [] sz)) (va_Qi (fun (r : Int32) (u : Int32) => u = 1) (fun (u : Int32) (t : State) => ∃ fs2 : List Value, (fs2[74]? = some (.int u)) ∧ POW (dC, dI) (va_A [(h0, .inr (13, fs))] sz) [(h0, .inr (13, fs2))] [] t) (va_A [(h0, .inr (13, fs))] sz)) 0 0 (va_A [(h0, .inr (13, fs))] sz) := by
  refine Met.ofW (cc := cX12_open) (maxL := 4) (ret := (some FieldType.int)) (by decide) rfl ?_
  intro p e s m args below meth c s₁ B hml hv
  obtain ⟨rfl, hsz, hE, hP, hK, hD0⟩ := hv
  have hx := B.exec
  have hb := B.bytes
  have hr := B.returns
  have hts := atoms_spec (ws := cn yX12_open cX12_open 4 (some FieldType.int)) B.pre
  have ht : ∀ w ∈ GT, w.before _ s = true := fun w h => hts w (List.mem_cons_of_mem _ h)
  have hown : s.vm.findClass RX12 = some m.cls := findClass_of_methodNamed B.named
  have hlocks := B.notSynchronized
  subst hsz
  have hD := hD0.self (sz := s.heap.size)
  generalize hAe : va_A [(h0, .inr (13, fs))] s.heap.size = A at hD hE ⊢
  have hA : ∀ q : Nat, s.heap.size ≤ q → A q := fun q h => by rw [← hAe]; exact Or.inr h
  obtain ⟨H, hH0⟩ : ∃ H, s.heap = H := ⟨_, rfl⟩
  have hS : va_S A s.heap H [] := by rw [← hH0]; exact va_S.rf
  rw [hH0] at hP
  have hl := lv_entry ([.ref h0, .int a1, .int a2]) (n := 4) (Nat.le_of_ble_eq_true rfl)
  rw [lg_entry_eq]
  generalize (lg_sl ([.ref h0, .int a1, .int a2]) ++ List.replicate (4 - (lg_sl ([.ref h0, .int a1, .int a2])).length) Slot.unset).toArray = ls at hl ⊢
  have hl : lv_has ls 4 [(0, .ref h0), (1, .int a1), (2, .int a2)] := hl
  rw [hH0]
  refine lv_iload_n hx hb dX12_open_0 rfl (lv_at hl 1 rfl) ?_
  have hPc := hP.sub (ws' := []) [] rfl
  have hDc := hD.sub (ws' := []) [] (by decide) rfl
  have hKc := hK.sub (tys' := []) [] rfl
  have hFc := freeNil hS hA
  refine va_calli (va_runS (As := [.int a1]) (rest := []) ⟨hx, hb, hml, hown, ht⟩ (k_X12_isEditor l d0 cO dC dI H.size a1) (my_S ht M_X12_isEditor q2039 q2038 (Nat.le_of_ble_eq_true rfl) (Nat.le_of_ble_eq_true rfl)) ⟨PREp.fb, fun U hU hW => ⟨rfl, PREp.mk' hE hS hFc hPc hKc U hU hW⟩⟩ rfl rfl hl.1 rfl (lv_room (Nat.le_of_ble_eq_true rfl)) dX12_open_1 ⟨(Nat.le_of_ble_eq_true rfl), (Nat.le_of_ble_eq_true rfl)⟩) hS (fun q _ h => hFc q h) hFc (fun r2 u1 t H1 locs htt hvm hw hB hz1 hk1 hS => ?_)
  try dsimp only at hw hB
  have hP1 := hB
  have hP := keepAll hP hk1
  generalize H1 = H at hP hS ⊢
  have hP : va_P (dC, dI) vwCl [(h0, .inr (13, fs))] H := hP
  have hD : va_D A [(h0, .inr (13, fs))] := hD
  have hK : va_K (dC, dI) vwCl [] s := hK
  refine W.widen (k := 0) (n := 0) (Nat.le_of_ble_eq_true rfl) (Nat.le_of_ble_eq_true rfl) ?_
  by_cases hI3 : 0 ≤ a1 ∧ a1 ≤ 1
  · have hw := hw.1 hI3
    subst hw
    refine lv_if_eq (tgt := 19) hx hb dX12_open_4 (by decide) (fun c4 => False.elim (by revert c4; decide)) (fun c4 => ?_)
    refine lv_aload_n hx hb dX12_open_7 rfl (lv_at hl 0 rfl) ?_
    refine lv_iload_n hx hb dX12_open_8 rfl (lv_at hl 2 rfl) ?_
    have hPc := hP.sub (ws' := [(h0, .inr (13, fs))]) [0] rfl
    have hDc := hD.sub (ws' := [(h0, .inr (13, fs))]) [0] (by decide) rfl
    have hKc := hK.sub (tys' := []) [] rfl
    have hFc := freeNil hS hA
    refine va_calli (va_runV (As := [.int a2]) (rest := []) ⟨hx, hb, hml, hown, ht⟩ (k_X12_isFile l d0 cO dC dI H.size h0 a2 fs hlen hf_files) (my_V ht M_X12_isFile q2004 q55 q2002 (Nat.le_of_ble_eq_true rfl) (Nat.le_of_ble_eq_true rfl)) ⟨PREp.fb, va_recv hK hP (ci := 13) (q0 := 0) rfl rfl, fun U hU hW => ⟨rfl, PREp.mk' hE hS hFc hPc hKc U hU hW⟩⟩ rfl rfl hl.1 rfl (lv_room (Nat.le_of_ble_eq_true rfl)) dX12_open_9 ⟨(Nat.le_of_ble_eq_true rfl), (Nat.le_of_ble_eq_true rfl)⟩) hS (fun q _ h => hFc q h) hFc (fun r6 u5 t H1 locs htt hvm hw hB hz1 hk1 hS => ?_)
    try dsimp only at hw hB
    have hP1 := hB
    have hP := keepAll hP hk1
    generalize H1 = H at hP hS ⊢
    have hP : va_P (dC, dI) vwCl [(h0, .inr (13, fs))] H := hP
    have hD : va_D A [(h0, .inr (13, fs))] := hD
    have hK : va_K (dC, dI) vwCl [] s := hK
    refine W.widen (k := 0) (n := 0) (Nat.le_of_ble_eq_true rfl) (Nat.le_of_ble_eq_true rfl) ?_
    subst hw
    refine lv_if_eq (tgt := 19) hx hb dX12_open_12 (by decide) (fun c7 => ?_) (fun c7 => False.elim (by revert c7; decide))
    refine lv_iconst (v := 0) hx hb dX12_open_19 (by decide) ?_
    refine lv_istore_n (lv' := [(3, .int 0), (0, .ref h0), (1, .int a1), (2, .int a2)]) hx hb dX12_open_20 rfl hl (by decide) rfl (fun ls hl => ?_)
    refine lv_aload_n hx hb dX12_open_21 rfl (lv_at hl 1 rfl) ?_
    refine lv_iload_n hx hb dX12_open_22 rfl (lv_at hl 0 rfl) ?_
    refine lv_if_ne (tgt := 30) hx hb dX12_open_23 (by decide) (fun c8 => False.elim (by revert c8; decide)) (fun c8 => ?_)
    refine lv_iconst (v := 1) hx hb dX12_open_26 (by decide) ?_
    refine lv_goto (tgt := 45) hx hb dX12_open_27 (by decide) ?_
    have hPc := hP.sub (ws' := [(h0, .inr (13, fs))]) [0] rfl
    have hDc := hD.sub (ws' := [(h0, .inr (13, fs))]) [0] (by decide) rfl
    have hKc := hK.sub (tys' := []) [] rfl
    have hFc := va_free (wc := [(h0, .inr (13, fs))]) hD hS hA [0] rfl
    refine va_calli (va_runV (As := [.int 1]) (rest := []) ⟨hx, hb, hml, hown, ht⟩ (k_X12_fails l d0 cO dC dI H.size h0 1 fs hlen) (my_V ht M_X12_fails q1992 q53 q1990 (Nat.le_of_ble_eq_true rfl) (Nat.le_of_ble_eq_true rfl)) ⟨PRE.fb, va_recv hK hP (ci := 13) (q0 := 0) rfl rfl, fun U hU hW => ⟨rfl, PRE.mk' hE hS hFc hPc hKc hDc U hU hW⟩⟩ rfl rfl hl.1 rfl (lv_room (Nat.le_of_ble_eq_true rfl)) dX12_open_45 ⟨(Nat.le_of_ble_eq_true rfl), (Nat.le_of_ble_eq_true rfl)⟩) hS (fun q _ h => hFc q h) hFc (fun r10 u9 t H1 locs htt hvm hw hB hz1 hk1 hS => ?_)
    try dsimp only at hw hB
    obtain ⟨hP1, hK1, hD1⟩ := hB
    rw [htt] at hP1
    have hK1 := va_K.moved hvm.symm hK1
    obtain ⟨hP, hD⟩ := va_join (wr := []) (w1 := [(h0, .inr (13, (fs.set 74 (.int 1))))]) hP hD [0] [] rfl rfl (by decide) (by decide) hk1 hFc hP1 hD1
    have hK := (hK.sub (tys' := []) [] rfl).app hK1
    generalize H1 = H at hP hS ⊢
    have hP : va_P (dC, dI) vwCl [(h0, .inr (13, (fs.set 74 (.int 1))))] H := hP
    have hD : va_D A [(h0, .inr (13, (fs.set 74 (.int 1))))] := hD
    have hK : va_K (dC, dI) vwCl [] s := hK
    refine W.widen (k := 0) (n := 0) (Nat.le_of_ble_eq_true rfl) (Nat.le_of_ble_eq_true rfl) ?_
    have hw := hw.1 (by decide)
    subst hw
    refine lv_if_eq (tgt := 53) hx hb dX12_open_48 (by decide) (fun c11 => False.elim (by revert c11; decide)) (fun c11 => ?_)
    refine lv_iconst (v := 0) hx hb dX12_open_51 (by decide) ?_
    have hP9 := hP.sub (ws' := [(h0, .inr (13, (fs.set 74 (.int 1))))]) [0] rfl
    have hD9 := hD.sub (ws' := [(h0, .inr (13, (fs.set 74 (.int 1))))]) [0] (by decide) rfl
    have hK9 := hK.sub (tys' := []) [] rfl
    refine W.widen (k := 0) (n := 0) (Nat.le_of_ble_eq_true rfl) (Nat.le_of_ble_eq_true rfl) ?_
    exact W.iret (v := 0) hx hb hr (fun t ht9 hW9 => ⟨⟨0, 1, rfl, rfl, ⟨(fs.set 74 (.int 1)), (by rw [List.getElem?_set_self (by rw [hlen]; decide)]), POW.mk' ht9 hW9.alike hP9 hK9 hD9⟩⟩, hS.F ht9⟩) hS.2.2 dX12_open_52
  · have hw := hw.2 hI3
    subst hw
    refine lv_if_eq (tgt := 19) hx hb dX12_open_4 (by decide) (fun c12 => ?_) (fun c12 => False.elim (by revert c12; decide))
    refine lv_iconst (v := 0) hx hb dX12_open_19 (by decide) ?_
    refine lv_istore_n (lv' := [(3, .int 0), (0, .ref h0), (1, .int a1), (2, .int a2)]) hx hb dX12_open_20 rfl hl (by decide) rfl (fun ls hl => ?_)
    refine lv_aload_n hx hb dX12_open_21 rfl (lv_at hl 1 rfl) ?_
    refine lv_iload_n hx hb dX12_open_22 rfl (lv_at hl 0 rfl) ?_
    refine lv_if_ne (tgt := 30) hx hb dX12_open_23 (by decide) (fun c13 => False.elim (by revert c13; decide)) (fun c13 => ?_)
    refine lv_iconst (v := 1) hx hb dX12_open_26 (by decide) ?_
    refine lv_goto (tgt := 45) hx hb dX12_open_27 (by decide) ?_
    have hPc := hP.sub (ws' := [(h0, .inr (13, fs))]) [0] rfl
    have hDc := hD.sub (ws' := [(h0, .inr (13, fs))]) [0] (by decide) rfl
    have hKc := hK.sub (tys' := []) [] rfl
    have hFc := va_free (wc := [(h0, .inr (13, fs))]) hD hS hA [0] rfl
    refine va_calli (va_runV (As := [.int 1]) (rest := []) ⟨hx, hb, hml, hown, ht⟩ (k_X12_fails l d0 cO dC dI H.size h0 1 fs hlen) (my_V ht M_X12_fails q1992 q53 q1990 (Nat.le_of_ble_eq_true rfl) (Nat.le_of_ble_eq_true rfl)) ⟨PRE.fb, va_recv hK hP (ci := 13) (q0 := 0) rfl rfl, fun U hU hW => ⟨rfl, PRE.mk' hE hS hFc hPc hKc hDc U hU hW⟩⟩ rfl rfl hl.1 rfl (lv_room (Nat.le_of_ble_eq_true rfl)) dX12_open_45 ⟨(Nat.le_of_ble_eq_true rfl), (Nat.le_of_ble_eq_true rfl)⟩) hS (fun q _ h => hFc q h) hFc (fun r15 u14 t H1 locs htt hvm hw hB hz1 hk1 hS => ?_)
    try dsimp only at hw hB
    obtain ⟨hP1, hK1, hD1⟩ := hB
    rw [htt] at hP1
    have hK1 := va_K.moved hvm.symm hK1
    obtain ⟨hP, hD⟩ := va_join (wr := []) (w1 := [(h0, .inr (13, (fs.set 74 (.int 1))))]) hP hD [0] [] rfl rfl (by decide) (by decide) hk1 hFc hP1 hD1
    have hK := (hK.sub (tys' := []) [] rfl).app hK1
    generalize H1 = H at hP hS ⊢
    have hP : va_P (dC, dI) vwCl [(h0, .inr (13, (fs.set 74 (.int 1))))] H := hP
    have hD : va_D A [(h0, .inr (13, (fs.set 74 (.int 1))))] := hD
    have hK : va_K (dC, dI) vwCl [] s := hK
    refine W.widen (k := 0) (n := 0) (Nat.le_of_ble_eq_true rfl) (Nat.le_of_ble_eq_true rfl) ?_
    have hw := hw.1 (by decide)
    subst hw
    refine lv_if_eq (tgt := 53) hx hb dX12_open_48 (by decide) (fun c16 => False.elim (by revert c16; decide)) (fun c16 => ?_)
    refine lv_iconst (v := 0) hx hb dX12_open_51 (by decide) ?_
    have hP9 := hP.sub (ws' := [(h0, .inr (13, (fs.set 74 (.int 1))))]) [0] rfl
    have hD9 := hD.sub (ws' := [(h0, .inr (13, (fs.set 74 (.int 1))))]) [0] (by decide) rfl
    have hK9 := hK.sub (tys' := []) [] rfl
    refine W.widen (k := 0) (n := 0) (Nat.le_of_ble_eq_true rfl) (Nat.le_of_ble_eq_true rfl) ?_
    exact W.iret (v := 0) hx hb hr (fun t ht9 hW9 => ⟨⟨0, 1, rfl, rfl, ⟨(fs.set 74 (.int 1)), (by rw [List.getElem?_set_self (by rw [hlen]; decide)]), POW.mk' ht9 hW9.alike hP9 hK9 hD9⟩⟩, hS.F ht9⟩) hS.2.2 dX12_open_52
set_option maxHeartbeats 4000000 in
set_option maxRecDepth 100000 in
theorem k_X12_close (l : Launch) (d0 : Nat) (cO : ClassId) (dC : Nat → ClassId) (dI : Nat → Nat → Nat) (sz : Nat) (h0 : Nat) (a1 a2 : Int32) (fs : List Value) (hlen : fs.length = 75) (hf_files : fs[2]? = some (.int 0)) : Met l yX12_close (cn yX12_close cX12_close 7 none) (rmd 5 0 0) (va_Pc [.ref h0, .int a1, .int a2] (PRE d0 cO (dC, dI) (va_A [(h0, .inr (13, fs))] sz) [(h0, .inr (13, fs))] [] sz)) (va_Qv (fun (u : Int32) => u = 1) (fun (u : Int32) (t : State) => ∃ fs2 : List Value, (fs2[74]? = some (.int u)) ∧ POW (dC, dI) (va_A [(h0, .inr (13, fs))] sz) [(h0, .inr (13, fs2))] [] t) (va_A [(h0, .inr (13, fs))] sz)) 0 0 (va_A [(h0, .inr (13, fs))] sz) := by
  refine Met.ofW (cc := cX12_close) (maxL := 7) (ret := none) (by decide) rfl ?_
  intro p e s m args below meth c s₁ B hml hv
  obtain ⟨rfl, hsz, hE, hP, hK, hD0⟩ := hv
  have hx := B.exec
  have hb := B.bytes
  have hr := B.returns
  have hts := atoms_spec (ws := cn yX12_close cX12_close 7 none) B.pre
  have ht : ∀ w ∈ GT, w.before _ s = true := fun w h => hts w (List.mem_cons_of_mem _ h)
  have hown : s.vm.findClass RX12 = some m.cls := findClass_of_methodNamed B.named
  have hlocks := B.notSynchronized
  subst hsz
  have hD := hD0.self (sz := s.heap.size)
  generalize hAe : va_A [(h0, .inr (13, fs))] s.heap.size = A at hD hE ⊢
  have hA : ∀ q : Nat, s.heap.size ≤ q → A q := fun q h => by rw [← hAe]; exact Or.inr h
  obtain ⟨H, hH0⟩ : ∃ H, s.heap = H := ⟨_, rfl⟩
  have hS : va_S A s.heap H [] := by rw [← hH0]; exact va_S.rf
  rw [hH0] at hP
  have hl := lv_entry ([.ref h0, .int a1, .int a2]) (n := 7) (Nat.le_of_ble_eq_true rfl)
  rw [lg_entry_eq]
  generalize (lg_sl ([.ref h0, .int a1, .int a2]) ++ List.replicate (7 - (lg_sl ([.ref h0, .int a1, .int a2])).length) Slot.unset).toArray = ls at hl ⊢
  have hl : lv_has ls 7 [(0, .ref h0), (1, .int a1), (2, .int a2)] := hl
  rw [hH0]
  refine lv_iload_n hx hb dX12_close_0 rfl (lv_at hl 1 rfl) ?_
  have hPc := hP.sub (ws' := []) [] rfl
  have hDc := hD.sub (ws' := []) [] (by decide) rfl
  have hKc := hK.sub (tys' := []) [] rfl
  have hFc := freeNil hS hA
  refine va_calli (va_runS (As := [.int a1]) (rest := []) ⟨hx, hb, hml, hown, ht⟩ (k_X12_isEditor l d0 cO dC dI H.size a1) (my_S ht M_X12_isEditor q2039 q2038 (Nat.le_of_ble_eq_true rfl) (Nat.le_of_ble_eq_true rfl)) ⟨PREp.fb, fun U hU hW => ⟨rfl, PREp.mk' hE hS hFc hPc hKc U hU hW⟩⟩ rfl rfl hl.1 rfl (lv_room (Nat.le_of_ble_eq_true rfl)) dX12_close_1 ⟨(Nat.le_of_ble_eq_true rfl), (Nat.le_of_ble_eq_true rfl)⟩) hS (fun q _ h => hFc q h) hFc (fun r2 u1 t H1 locs htt hvm hw hB hz1 hk1 hS => ?_)
  try dsimp only at hw hB
  have hP1 := hB
  have hP := keepAll hP hk1
  generalize H1 = H at hP hS ⊢
  have hP : va_P (dC, dI) vwCl [(h0, .inr (13, fs))] H := hP
  have hD : va_D A [(h0, .inr (13, fs))] := hD
  have hK : va_K (dC, dI) vwCl [] s := hK
  refine W.widen (k := 0) (n := 0) (Nat.le_of_ble_eq_true rfl) (Nat.le_of_ble_eq_true rfl) ?_
  by_cases hI3 : 0 ≤ a1 ∧ a1 ≤ 1
  · have hw := hw.1 hI3
    subst hw
    refine lv_if_eq (tgt := 19) hx hb dX12_close_4 (by decide) (fun c4 => False.elim (by revert c4; decide)) (fun c4 => ?_)
    refine lv_aload_n hx hb dX12_close_7 rfl (lv_at hl 0 rfl) ?_
    refine lv_iload_n hx hb dX12_close_8 rfl (lv_at hl 2 rfl) ?_
    have hPc := hP.sub (ws' := [(h0, .inr (13, fs))]) [0] rfl
    have hDc := hD.sub (ws' := [(h0, .inr (13, fs))]) [0] (by decide) rfl
    have hKc := hK.sub (tys' := []) [] rfl
    have hFc := freeNil hS hA
    refine va_calli (va_runV (As := [.int a2]) (rest := []) ⟨hx, hb, hml, hown, ht⟩ (k_X12_isFile l d0 cO dC dI H.size h0 a2 fs hlen hf_files) (my_V ht M_X12_isFile q2004 q55 q2002 (Nat.le_of_ble_eq_true rfl) (Nat.le_of_ble_eq_true rfl)) ⟨PREp.fb, va_recv hK hP (ci := 13) (q0 := 0) rfl rfl, fun U hU hW => ⟨rfl, PREp.mk' hE hS hFc hPc hKc U hU hW⟩⟩ rfl rfl hl.1 rfl (lv_room (Nat.le_of_ble_eq_true rfl)) dX12_close_9 ⟨(Nat.le_of_ble_eq_true rfl), (Nat.le_of_ble_eq_true rfl)⟩) hS (fun q _ h => hFc q h) hFc (fun r6 u5 t H1 locs htt hvm hw hB hz1 hk1 hS => ?_)
    try dsimp only at hw hB
    have hP1 := hB
    have hP := keepAll hP hk1
    generalize H1 = H at hP hS ⊢
    have hP : va_P (dC, dI) vwCl [(h0, .inr (13, fs))] H := hP
    have hD : va_D A [(h0, .inr (13, fs))] := hD
    have hK : va_K (dC, dI) vwCl [] s := hK
    refine W.widen (k := 0) (n := 0) (Nat.le_of_ble_eq_true rfl) (Nat.le_of_ble_eq_true rfl) ?_
    subst hw
    refine lv_if_eq (tgt := 19) hx hb dX12_close_12 (by decide) (fun c7 => ?_) (fun c7 => False.elim (by revert c7; decide))
    refine lv_iconst (v := 0) hx hb dX12_close_19 (by decide) ?_
    refine lv_istore_n (lv' := [(3, .int 0), (0, .ref h0), (1, .int a1), (2, .int a2)]) hx hb dX12_close_20 rfl hl (by decide) rfl (fun ls hl => ?_)
    refine lv_aload_n hx hb dX12_close_21 rfl (lv_at hl 1 rfl) ?_
    refine lv_iload_n hx hb dX12_close_22 rfl (lv_at hl 0 rfl) ?_
    refine lv_if_ne (tgt := 30) hx hb dX12_close_23 (by decide) (fun c8 => False.elim (by revert c8; decide)) (fun c8 => ?_)
    refine lv_iconst (v := 1) hx hb dX12_close_26 (by decide) ?_
    refine lv_goto (tgt := 45) hx hb dX12_close_27 (by decide) ?_
    have hPc := hP.sub (ws' := [(h0, .inr (13, fs))]) [0] rfl
    have hDc := hD.sub (ws' := [(h0, .inr (13, fs))]) [0] (by decide) rfl
    have hKc := hK.sub (tys' := []) [] rfl
    have hFc := va_free (wc := [(h0, .inr (13, fs))]) hD hS hA [0] rfl
    refine va_calli (va_runV (As := [.int 1]) (rest := []) ⟨hx, hb, hml, hown, ht⟩ (k_X12_fails l d0 cO dC dI H.size h0 1 fs hlen) (my_V ht M_X12_fails q1992 q53 q1990 (Nat.le_of_ble_eq_true rfl) (Nat.le_of_ble_eq_true rfl)) ⟨PRE.fb, va_recv hK hP (ci := 13) (q0 := 0) rfl rfl, fun U hU hW => ⟨rfl, PRE.mk' hE hS hFc hPc hKc hDc U hU hW⟩⟩ rfl rfl hl.1 rfl (lv_room (Nat.le_of_ble_eq_true rfl)) dX12_close_45 ⟨(Nat.le_of_ble_eq_true rfl), (Nat.le_of_ble_eq_true rfl)⟩) hS (fun q _ h => hFc q h) hFc (fun r10 u9 t H1 locs htt hvm hw hB hz1 hk1 hS => ?_)
    try dsimp only at hw hB
    obtain ⟨hP1, hK1, hD1⟩ := hB
    rw [htt] at hP1
    have hK1 := va_K.moved hvm.symm hK1
    obtain ⟨hP, hD⟩ := va_join (wr := []) (w1 := [(h0, .inr (13, (fs.set 74 (.int 1))))]) hP hD [0] [] rfl rfl (by decide) (by decide) hk1 hFc hP1 hD1
    have hK := (hK.sub (tys' := []) [] rfl).app hK1
    generalize H1 = H at hP hS ⊢
    have hP : va_P (dC, dI) vwCl [(h0, .inr (13, (fs.set 74 (.int 1))))] H := hP
    have hD : va_D A [(h0, .inr (13, (fs.set 74 (.int 1))))] := hD
    have hK : va_K (dC, dI) vwCl [] s := hK
    refine W.widen (k := 0) (n := 0) (Nat.le_of_ble_eq_true rfl) (Nat.le_of_ble_eq_true rfl) ?_
    have hw := hw.1 (by decide)
    subst hw
    refine lv_if_eq (tgt := 52) hx hb dX12_close_48 (by decide) (fun c11 => False.elim (by revert c11; decide)) (fun c11 => ?_)
    have hP9 := hP.sub (ws' := [(h0, .inr (13, (fs.set 74 (.int 1))))]) [0] rfl
    have hD9 := hD.sub (ws' := [(h0, .inr (13, (fs.set 74 (.int 1))))]) [0] (by decide) rfl
    have hK9 := hK.sub (tys' := []) [] rfl
    refine W.widen (k := 0) (n := 0) (Nat.le_of_ble_eq_true rfl) (Nat.le_of_ble_eq_true rfl) ?_
    exact W.vret hx hb hr (fun t ht9 hW9 => ⟨⟨1, rfl, rfl, ⟨(fs.set 74 (.int 1)), (by rw [List.getElem?_set_self (by rw [hlen]; decide)]), POW.mk' ht9 hW9.alike hP9 hK9 hD9⟩⟩, hS.F ht9⟩) hS.2.2 dX12_close_51
  · have hw := hw.2 hI3
    subst hw
    refine lv_if_eq (tgt := 19) hx hb dX12_close_4 (by decide) (fun c12 => ?_) (fun c12 => False.elim (by revert c12; decide))
    refine lv_iconst (v := 0) hx hb dX12_close_19 (by decide) ?_
    refine lv_istore_n (lv' := [(3, .int 0), (0, .ref h0), (1, .int a1), (2, .int a2)]) hx hb dX12_close_20 rfl hl (by decide) rfl (fun ls hl => ?_)
    refine lv_aload_n hx hb dX12_close_21 rfl (lv_at hl 1 rfl) ?_
    refine lv_iload_n hx hb dX12_close_22 rfl (lv_at hl 0 rfl) ?_
    refine lv_if_ne (tgt := 30) hx hb dX12_close_23 (by decide) (fun c13 => False.elim (by revert c13; decide)) (fun c13 => ?_)
    refine lv_iconst (v := 1) hx hb dX12_close_26 (by decide) ?_
    refine lv_goto (tgt := 45) hx hb dX12_close_27 (by decide) ?_
    have hPc := hP.sub (ws' := [(h0, .inr (13, fs))]) [0] rfl
    have hDc := hD.sub (ws' := [(h0, .inr (13, fs))]) [0] (by decide) rfl
    have hKc := hK.sub (tys' := []) [] rfl
    have hFc := va_free (wc := [(h0, .inr (13, fs))]) hD hS hA [0] rfl
    refine va_calli (va_runV (As := [.int 1]) (rest := []) ⟨hx, hb, hml, hown, ht⟩ (k_X12_fails l d0 cO dC dI H.size h0 1 fs hlen) (my_V ht M_X12_fails q1992 q53 q1990 (Nat.le_of_ble_eq_true rfl) (Nat.le_of_ble_eq_true rfl)) ⟨PRE.fb, va_recv hK hP (ci := 13) (q0 := 0) rfl rfl, fun U hU hW => ⟨rfl, PRE.mk' hE hS hFc hPc hKc hDc U hU hW⟩⟩ rfl rfl hl.1 rfl (lv_room (Nat.le_of_ble_eq_true rfl)) dX12_close_45 ⟨(Nat.le_of_ble_eq_true rfl), (Nat.le_of_ble_eq_true rfl)⟩) hS (fun q _ h => hFc q h) hFc (fun r15 u14 t H1 locs htt hvm hw hB hz1 hk1 hS => ?_)
    try dsimp only at hw hB
    obtain ⟨hP1, hK1, hD1⟩ := hB
    rw [htt] at hP1
    have hK1 := va_K.moved hvm.symm hK1
    obtain ⟨hP, hD⟩ := va_join (wr := []) (w1 := [(h0, .inr (13, (fs.set 74 (.int 1))))]) hP hD [0] [] rfl rfl (by decide) (by decide) hk1 hFc hP1 hD1
    have hK := (hK.sub (tys' := []) [] rfl).app hK1
    generalize H1 = H at hP hS ⊢
    have hP : va_P (dC, dI) vwCl [(h0, .inr (13, (fs.set 74 (.int 1))))] H := hP
    have hD : va_D A [(h0, .inr (13, (fs.set 74 (.int 1))))] := hD
    have hK : va_K (dC, dI) vwCl [] s := hK
    refine W.widen (k := 0) (n := 0) (Nat.le_of_ble_eq_true rfl) (Nat.le_of_ble_eq_true rfl) ?_
    have hw := hw.1 (by decide)
    subst hw
    refine lv_if_eq (tgt := 52) hx hb dX12_close_48 (by decide) (fun c16 => False.elim (by revert c16; decide)) (fun c16 => ?_)
    have hP9 := hP.sub (ws' := [(h0, .inr (13, (fs.set 74 (.int 1))))]) [0] rfl
    have hD9 := hD.sub (ws' := [(h0, .inr (13, (fs.set 74 (.int 1))))]) [0] (by decide) rfl
    have hK9 := hK.sub (tys' := []) [] rfl
    refine W.widen (k := 0) (n := 0) (Nat.le_of_ble_eq_true rfl) (Nat.le_of_ble_eq_true rfl) ?_
    exact W.vret hx hb hr (fun t ht9 hW9 => ⟨⟨1, rfl, rfl, ⟨(fs.set 74 (.int 1)), (by rw [List.getElem?_set_self (by rw [hlen]; decide)]), POW.mk' ht9 hW9.alike hP9 hK9 hD9⟩⟩, hS.F ht9⟩) hS.2.2 dX12_close_51
set_option maxHeartbeats 4000000 in
set_option maxRecDepth 100000 in
theorem k_X12_change (l : Launch) (d0 : Nat) (cO : ClassId) (dC : Nat → ClassId) (dI : Nat → Nat → Nat) (sz : Nat) (h0 : Nat) (a1 a2 a3 a4 a5 a6 a7 : Int32) (fs : List Value) (hlen : fs.length = 75) (hf_files : fs[2]? = some (.int 0)) : Met l yX12_change (cn yX12_change cX12_change 13 (some FieldType.int)) (rmd 5 0 0) (va_Pc [.ref h0, .int a1, .int a2, .int a3, .int a4, .int a5, .int a6, .int a7] (PRE d0 cO (dC, dI) (va_A [(h0, .inr (13, fs))] sz) [(h0, .inr (13, fs))] [] sz)) (va_Qi (fun (r : Int32) (u : Int32) => u = 1) (fun (u : Int32) (t : State) => ∃ fs2 : List Value, (fs2[74]? = some (.int u)) ∧ POW (dC, dI) (va_A [(h0, .inr (13, fs))] sz) [(h0, .inr (13, fs2))] [] t) (va_A [(h0, .inr (13, fs))] sz)) 0 0 (va_A [(h0, .inr (13, fs))] sz) := by
  refine Met.ofW (cc := cX12_change) (maxL := 13) (ret := (some FieldType.int)) (by decide) rfl ?_
  intro p e s m args below meth c s₁ B hml hv
  obtain ⟨rfl, hsz, hE, hP, hK, hD0⟩ := hv
  have hx := B.exec
  have hb := B.bytes
  have hr := B.returns
  have hts := atoms_spec (ws := cn yX12_change cX12_change 13 (some FieldType.int)) B.pre
  have ht : ∀ w ∈ GT, w.before _ s = true := fun w h => hts w (List.mem_cons_of_mem _ h)
  have hown : s.vm.findClass RX12 = some m.cls := findClass_of_methodNamed B.named
  have hlocks := B.notSynchronized
  subst hsz
  have hD := hD0.self (sz := s.heap.size)
  generalize hAe : va_A [(h0, .inr (13, fs))] s.heap.size = A at hD hE ⊢
  have hA : ∀ q : Nat, s.heap.size ≤ q → A q := fun q h => by rw [← hAe]; exact Or.inr h
  obtain ⟨H, hH0⟩ : ∃ H, s.heap = H := ⟨_, rfl⟩
  have hS : va_S A s.heap H [] := by rw [← hH0]; exact va_S.rf
  rw [hH0] at hP
  have hl := lv_entry ([.ref h0, .int a1, .int a2, .int a3, .int a4, .int a5, .int a6, .int a7]) (n := 13) (Nat.le_of_ble_eq_true rfl)
  rw [lg_entry_eq]
  generalize (lg_sl ([.ref h0, .int a1, .int a2, .int a3, .int a4, .int a5, .int a6, .int a7]) ++ List.replicate (13 - (lg_sl ([.ref h0, .int a1, .int a2, .int a3, .int a4, .int a5, .int a6, .int a7])).length) Slot.unset).toArray = ls at hl ⊢
  have hl : lv_has ls 13 [(0, .ref h0), (1, .int a1), (2, .int a2), (3, .int a3), (4, .int a4), (5, .int a5), (6, .int a6), (7, .int a7)] := hl
  rw [hH0]
  refine lv_iload_n hx hb dX12_change_0 rfl (lv_at hl 1 rfl) ?_
  have hPc := hP.sub (ws' := []) [] rfl
  have hDc := hD.sub (ws' := []) [] (by decide) rfl
  have hKc := hK.sub (tys' := []) [] rfl
  have hFc := freeNil hS hA
  refine va_calli (va_runS (As := [.int a1]) (rest := []) ⟨hx, hb, hml, hown, ht⟩ (k_X12_isEditor l d0 cO dC dI H.size a1) (my_S ht M_X12_isEditor q2039 q2038 (Nat.le_of_ble_eq_true rfl) (Nat.le_of_ble_eq_true rfl)) ⟨PREp.fb, fun U hU hW => ⟨rfl, PREp.mk' hE hS hFc hPc hKc U hU hW⟩⟩ rfl rfl hl.1 rfl (lv_room (Nat.le_of_ble_eq_true rfl)) dX12_change_1 ⟨(Nat.le_of_ble_eq_true rfl), (Nat.le_of_ble_eq_true rfl)⟩) hS (fun q _ h => hFc q h) hFc (fun r2 u1 t H1 locs htt hvm hw hB hz1 hk1 hS => ?_)
  try dsimp only at hw hB
  have hP1 := hB
  have hP := keepAll hP hk1
  generalize H1 = H at hP hS ⊢
  have hP : va_P (dC, dI) vwCl [(h0, .inr (13, fs))] H := hP
  have hD : va_D A [(h0, .inr (13, fs))] := hD
  have hK : va_K (dC, dI) vwCl [] s := hK
  refine W.widen (k := 0) (n := 0) (Nat.le_of_ble_eq_true rfl) (Nat.le_of_ble_eq_true rfl) ?_
  by_cases hI3 : 0 ≤ a1 ∧ a1 ≤ 1
  · have hw := hw.1 hI3
    subst hw
    refine lv_if_eq (tgt := 19) hx hb dX12_change_4 (by decide) (fun c4 => False.elim (by revert c4; decide)) (fun c4 => ?_)
    refine lv_aload_n hx hb dX12_change_7 rfl (lv_at hl 0 rfl) ?_
    refine lv_iload_n hx hb dX12_change_8 rfl (lv_at hl 2 rfl) ?_
    have hPc := hP.sub (ws' := [(h0, .inr (13, fs))]) [0] rfl
    have hDc := hD.sub (ws' := [(h0, .inr (13, fs))]) [0] (by decide) rfl
    have hKc := hK.sub (tys' := []) [] rfl
    have hFc := freeNil hS hA
    refine va_calli (va_runV (As := [.int a2]) (rest := []) ⟨hx, hb, hml, hown, ht⟩ (k_X12_isFile l d0 cO dC dI H.size h0 a2 fs hlen hf_files) (my_V ht M_X12_isFile q2004 q55 q2002 (Nat.le_of_ble_eq_true rfl) (Nat.le_of_ble_eq_true rfl)) ⟨PREp.fb, va_recv hK hP (ci := 13) (q0 := 0) rfl rfl, fun U hU hW => ⟨rfl, PREp.mk' hE hS hFc hPc hKc U hU hW⟩⟩ rfl rfl hl.1 rfl (lv_room (Nat.le_of_ble_eq_true rfl)) dX12_change_9 ⟨(Nat.le_of_ble_eq_true rfl), (Nat.le_of_ble_eq_true rfl)⟩) hS (fun q _ h => hFc q h) hFc (fun r6 u5 t H1 locs htt hvm hw hB hz1 hk1 hS => ?_)
    try dsimp only at hw hB
    have hP1 := hB
    have hP := keepAll hP hk1
    generalize H1 = H at hP hS ⊢
    have hP : va_P (dC, dI) vwCl [(h0, .inr (13, fs))] H := hP
    have hD : va_D A [(h0, .inr (13, fs))] := hD
    have hK : va_K (dC, dI) vwCl [] s := hK
    refine W.widen (k := 0) (n := 0) (Nat.le_of_ble_eq_true rfl) (Nat.le_of_ble_eq_true rfl) ?_
    subst hw
    refine lv_if_eq (tgt := 19) hx hb dX12_change_12 (by decide) (fun c7 => ?_) (fun c7 => False.elim (by revert c7; decide))
    refine lv_iconst (v := 0) hx hb dX12_change_19 (by decide) ?_
    refine lv_istore (lv' := [(8, .int 0), (0, .ref h0), (1, .int a1), (2, .int a2), (3, .int a3), (4, .int a4), (5, .int a5), (6, .int a6), (7, .int a7)]) hx hb dX12_change_20 hl (by decide) rfl (fun ls hl => ?_)
    refine lv_iload_n hx hb dX12_change_22 rfl (lv_at hl 4 rfl) ?_
    have hPc := hP.sub (ws' := []) [] rfl
    have hDc := hD.sub (ws' := []) [] (by decide) rfl
    have hKc := hK.sub (tys' := []) [] rfl
    have hFc := freeNil hS hA
    refine va_calli (va_runS (As := [.int a3]) (rest := []) ⟨hx, hb, hml, hown, ht⟩ (k_X12_isNumber l d0 cO dC dI H.size a3) (my_S ht M_X12_isNumber q2077 q2076 (Nat.le_of_ble_eq_true rfl) (Nat.le_of_ble_eq_true rfl)) ⟨PREp.fb, fun U hU hW => ⟨rfl, PREp.mk' hE hS hFc hPc hKc U hU hW⟩⟩ rfl rfl hl.1 rfl (lv_room (Nat.le_of_ble_eq_true rfl)) dX12_change_23 ⟨(Nat.le_of_ble_eq_true rfl), (Nat.le_of_ble_eq_true rfl)⟩) hS (fun q _ h => hFc q h) hFc (fun r9 u8 t H1 locs htt hvm hw hB hz1 hk1 hS => ?_)
    try dsimp only at hw hB
    have hP1 := hB
    have hP := keepAll hP hk1
    generalize H1 = H at hP hS ⊢
    have hP : va_P (dC, dI) vwCl [(h0, .inr (13, fs))] H := hP
    have hD : va_D A [(h0, .inr (13, fs))] := hD
    have hK : va_K (dC, dI) vwCl [] s := hK
    refine W.widen (k := 0) (n := 0) (Nat.le_of_ble_eq_true rfl) (Nat.le_of_ble_eq_true rfl) ?_
    rcases hw with hw | hw
    · subst hw
      refine lv_if_eq (tgt := 71) hx hb dX12_change_26 (by decide) (fun c10 => ?_) (fun c10 => False.elim (by revert c10; decide))
      refine lv_iconst (v := 0) hx hb dX12_change_71 (by decide) ?_
      refine lv_istore (lv' := [(9, .int 0), (8, .int 0), (0, .ref h0), (1, .int a1), (2, .int a2), (3, .int a3), (4, .int a4), (5, .int a5), (6, .int a6), (7, .int a7)]) hx hb dX12_change_72 hl (by decide) rfl (fun ls hl => ?_)
      refine lv_iload hx hb dX12_change_74 (lv_at hl 1 rfl) ?_
      refine lv_if_eq (tgt := 98) hx hb dX12_change_76 (by decide) (fun c11 => ?_) (fun c11 => False.elim (by revert c11; decide))
      refine lv_iconst (v := 0) hx hb dX12_change_98 (by decide) ?_
      refine lv_istore (lv' := [(10, .int 0), (9, .int 0), (8, .int 0), (0, .ref h0), (1, .int a1), (2, .int a2), (3, .int a3), (4, .int a4), (5, .int a5), (6, .int a6), (7, .int a7)]) hx hb dX12_change_99 hl (by decide) rfl (fun ls hl => ?_)
      refine lv_iload hx hb dX12_change_101 (lv_at hl 0 rfl) ?_
      refine lv_if_eq (tgt := 120) hx hb dX12_change_103 (by decide) (fun c12 => ?_) (fun c12 => False.elim (by revert c12; decide))
      refine lv_iconst (v := 0) hx hb dX12_change_120 (by decide) ?_
      refine lv_istore (lv' := [(11, .int 0), (10, .int 0), (9, .int 0), (8, .int 0), (0, .ref h0), (1, .int a1), (2, .int a2), (3, .int a3), (4, .int a4), (5, .int a5), (6, .int a6), (7, .int a7)]) hx hb dX12_change_121 hl (by decide) rfl (fun ls hl => ?_)
      refine lv_iload hx hb dX12_change_123 (lv_at hl 1 rfl) ?_
      refine lv_if_eq (tgt := 143) hx hb dX12_change_125 (by decide) (fun c13 => ?_) (fun c13 => False.elim (by revert c13; decide))
      refine lv_iconst (v := 0) hx hb dX12_change_143 (by decide) ?_
      refine lv_istore (lv' := [(12, .int 0), (11, .int 0), (10, .int 0), (9, .int 0), (8, .int 0), (0, .ref h0), (1, .int a1), (2, .int a2), (3, .int a3), (4, .int a4), (5, .int a5), (6, .int a6), (7, .int a7)]) hx hb dX12_change_144 hl (by decide) rfl (fun ls hl => ?_)
      refine lv_iload hx hb dX12_change_146 (lv_at hl 2 rfl) ?_
      refine lv_if_eq (tgt := 188) hx hb dX12_change_148 (by decide) (fun c14 => ?_) (fun c14 => False.elim (by revert c14; decide))
      refine lv_iconst (v := 0) hx hb dX12_change_188 (by decide) ?_
      refine lv_istore (lv' := [(10, .int 0), (12, .int 0), (11, .int 0), (9, .int 0), (8, .int 0), (0, .ref h0), (1, .int a1), (2, .int a2), (3, .int a3), (4, .int a4), (5, .int a5), (6, .int a6), (7, .int a7)]) hx hb dX12_change_189 hl (by decide) rfl (fun ls hl => ?_)
      refine lv_aload_n hx hb dX12_change_191 rfl (lv_at hl 5 rfl) ?_
      refine lv_iload hx hb dX12_change_192 (lv_at hl 4 rfl) ?_
      refine lv_if_ne (tgt := 201) hx hb dX12_change_194 (by decide) (fun c15 => False.elim (by revert c15; decide)) (fun c15 => ?_)
      refine lv_iconst (v := 1) hx hb dX12_change_197 (by decide) ?_
      refine lv_goto (tgt := 220) hx hb dX12_change_198 (by decide) ?_
      have hPc := hP.sub (ws' := [(h0, .inr (13, fs))]) [0] rfl
      have hDc := hD.sub (ws' := [(h0, .inr (13, fs))]) [0] (by decide) rfl
      have hKc := hK.sub (tys' := []) [] rfl
      have hFc := va_free (wc := [(h0, .inr (13, fs))]) hD hS hA [0] rfl
      refine va_calli (va_runV (As := [.int 1]) (rest := []) ⟨hx, hb, hml, hown, ht⟩ (k_X12_fails l d0 cO dC dI H.size h0 1 fs hlen) (my_V ht M_X12_fails q1992 q53 q1990 (Nat.le_of_ble_eq_true rfl) (Nat.le_of_ble_eq_true rfl)) ⟨PRE.fb, va_recv hK hP (ci := 13) (q0 := 0) rfl rfl, fun U hU hW => ⟨rfl, PRE.mk' hE hS hFc hPc hKc hDc U hU hW⟩⟩ rfl rfl hl.1 rfl (lv_room (Nat.le_of_ble_eq_true rfl)) dX12_change_220 ⟨(Nat.le_of_ble_eq_true rfl), (Nat.le_of_ble_eq_true rfl)⟩) hS (fun q _ h => hFc q h) hFc (fun r17 u16 t H1 locs htt hvm hw hB hz1 hk1 hS => ?_)
      try dsimp only at hw hB
      obtain ⟨hP1, hK1, hD1⟩ := hB
      rw [htt] at hP1
      have hK1 := va_K.moved hvm.symm hK1
      obtain ⟨hP, hD⟩ := va_join (wr := []) (w1 := [(h0, .inr (13, (fs.set 74 (.int 1))))]) hP hD [0] [] rfl rfl (by decide) (by decide) hk1 hFc hP1 hD1
      have hK := (hK.sub (tys' := []) [] rfl).app hK1
      generalize H1 = H at hP hS ⊢
      have hP : va_P (dC, dI) vwCl [(h0, .inr (13, (fs.set 74 (.int 1))))] H := hP
      have hD : va_D A [(h0, .inr (13, (fs.set 74 (.int 1))))] := hD
      have hK : va_K (dC, dI) vwCl [] s := hK
      refine W.widen (k := 0) (n := 0) (Nat.le_of_ble_eq_true rfl) (Nat.le_of_ble_eq_true rfl) ?_
      have hw := hw.1 (by decide)
      subst hw
      refine lv_if_eq (tgt := 228) hx hb dX12_change_223 (by decide) (fun c18 => False.elim (by revert c18; decide)) (fun c18 => ?_)
      refine lv_iconst (v := 0) hx hb dX12_change_226 (by decide) ?_
      have hP9 := hP.sub (ws' := [(h0, .inr (13, (fs.set 74 (.int 1))))]) [0] rfl
      have hD9 := hD.sub (ws' := [(h0, .inr (13, (fs.set 74 (.int 1))))]) [0] (by decide) rfl
      have hK9 := hK.sub (tys' := []) [] rfl
      refine W.widen (k := 0) (n := 0) (Nat.le_of_ble_eq_true rfl) (Nat.le_of_ble_eq_true rfl) ?_
      exact W.iret (v := 0) hx hb hr (fun t ht9 hW9 => ⟨⟨0, 1, rfl, rfl, ⟨(fs.set 74 (.int 1)), (by rw [List.getElem?_set_self (by rw [hlen]; decide)]), POW.mk' ht9 hW9.alike hP9 hK9 hD9⟩⟩, hS.F ht9⟩) hS.2.2 dX12_change_227
    · subst hw
      refine lv_if_eq (tgt := 71) hx hb dX12_change_26 (by decide) (fun c19 => False.elim (by revert c19; decide)) (fun c19 => ?_)
      refine lv_iload hx hb dX12_change_29 (lv_at hl 5 rfl) ?_
      have hPc := hP.sub (ws' := []) [] rfl
      have hDc := hD.sub (ws' := []) [] (by decide) rfl
      have hKc := hK.sub (tys' := []) [] rfl
      have hFc := freeNil hS hA
      refine va_calli (va_runS (As := [.int a4]) (rest := []) ⟨hx, hb, hml, hown, ht⟩ (k_X12_isNumber l d0 cO dC dI H.size a4) (my_S ht M_X12_isNumber q2077 q2076 (Nat.le_of_ble_eq_true rfl) (Nat.le_of_ble_eq_true rfl)) ⟨PREp.fb, fun U hU hW => ⟨rfl, PREp.mk' hE hS hFc hPc hKc U hU hW⟩⟩ rfl rfl hl.1 rfl (lv_room (Nat.le_of_ble_eq_true rfl)) dX12_change_31 ⟨(Nat.le_of_ble_eq_true rfl), (Nat.le_of_ble_eq_true rfl)⟩) hS (fun q _ h => hFc q h) hFc (fun r21 u20 t H1 locs htt hvm hw hB hz1 hk1 hS => ?_)
      try dsimp only at hw hB
      have hP1 := hB
      have hP := keepAll hP hk1
      generalize H1 = H at hP hS ⊢
      have hP : va_P (dC, dI) vwCl [(h0, .inr (13, fs))] H := hP
      have hD : va_D A [(h0, .inr (13, fs))] := hD
      have hK : va_K (dC, dI) vwCl [] s := hK
      refine W.widen (k := 0) (n := 0) (Nat.le_of_ble_eq_true rfl) (Nat.le_of_ble_eq_true rfl) ?_
      rcases hw with hw | hw
      · subst hw
        refine lv_if_eq (tgt := 71) hx hb dX12_change_34 (by decide) (fun c22 => ?_) (fun c22 => False.elim (by revert c22; decide))
        refine lv_iconst (v := 0) hx hb dX12_change_71 (by decide) ?_
        refine lv_istore (lv' := [(9, .int 0), (8, .int 0), (0, .ref h0), (1, .int a1), (2, .int a2), (3, .int a3), (4, .int a4), (5, .int a5), (6, .int a6), (7, .int a7)]) hx hb dX12_change_72 hl (by decide) rfl (fun ls hl => ?_)
        refine lv_iload hx hb dX12_change_74 (lv_at hl 1 rfl) ?_
        refine lv_if_eq (tgt := 98) hx hb dX12_change_76 (by decide) (fun c23 => ?_) (fun c23 => False.elim (by revert c23; decide))
        refine lv_iconst (v := 0) hx hb dX12_change_98 (by decide) ?_
        refine lv_istore (lv' := [(10, .int 0), (9, .int 0), (8, .int 0), (0, .ref h0), (1, .int a1), (2, .int a2), (3, .int a3), (4, .int a4), (5, .int a5), (6, .int a6), (7, .int a7)]) hx hb dX12_change_99 hl (by decide) rfl (fun ls hl => ?_)
        refine lv_iload hx hb dX12_change_101 (lv_at hl 0 rfl) ?_
        refine lv_if_eq (tgt := 120) hx hb dX12_change_103 (by decide) (fun c24 => ?_) (fun c24 => False.elim (by revert c24; decide))
        refine lv_iconst (v := 0) hx hb dX12_change_120 (by decide) ?_
        refine lv_istore (lv' := [(11, .int 0), (10, .int 0), (9, .int 0), (8, .int 0), (0, .ref h0), (1, .int a1), (2, .int a2), (3, .int a3), (4, .int a4), (5, .int a5), (6, .int a6), (7, .int a7)]) hx hb dX12_change_121 hl (by decide) rfl (fun ls hl => ?_)
        refine lv_iload hx hb dX12_change_123 (lv_at hl 1 rfl) ?_
        refine lv_if_eq (tgt := 143) hx hb dX12_change_125 (by decide) (fun c25 => ?_) (fun c25 => False.elim (by revert c25; decide))
        refine lv_iconst (v := 0) hx hb dX12_change_143 (by decide) ?_
        refine lv_istore (lv' := [(12, .int 0), (11, .int 0), (10, .int 0), (9, .int 0), (8, .int 0), (0, .ref h0), (1, .int a1), (2, .int a2), (3, .int a3), (4, .int a4), (5, .int a5), (6, .int a6), (7, .int a7)]) hx hb dX12_change_144 hl (by decide) rfl (fun ls hl => ?_)
        refine lv_iload hx hb dX12_change_146 (lv_at hl 2 rfl) ?_
        refine lv_if_eq (tgt := 188) hx hb dX12_change_148 (by decide) (fun c26 => ?_) (fun c26 => False.elim (by revert c26; decide))
        refine lv_iconst (v := 0) hx hb dX12_change_188 (by decide) ?_
        refine lv_istore (lv' := [(10, .int 0), (12, .int 0), (11, .int 0), (9, .int 0), (8, .int 0), (0, .ref h0), (1, .int a1), (2, .int a2), (3, .int a3), (4, .int a4), (5, .int a5), (6, .int a6), (7, .int a7)]) hx hb dX12_change_189 hl (by decide) rfl (fun ls hl => ?_)
        refine lv_aload_n hx hb dX12_change_191 rfl (lv_at hl 5 rfl) ?_
        refine lv_iload hx hb dX12_change_192 (lv_at hl 4 rfl) ?_
        refine lv_if_ne (tgt := 201) hx hb dX12_change_194 (by decide) (fun c27 => False.elim (by revert c27; decide)) (fun c27 => ?_)
        refine lv_iconst (v := 1) hx hb dX12_change_197 (by decide) ?_
        refine lv_goto (tgt := 220) hx hb dX12_change_198 (by decide) ?_
        have hPc := hP.sub (ws' := [(h0, .inr (13, fs))]) [0] rfl
        have hDc := hD.sub (ws' := [(h0, .inr (13, fs))]) [0] (by decide) rfl
        have hKc := hK.sub (tys' := []) [] rfl
        have hFc := va_free (wc := [(h0, .inr (13, fs))]) hD hS hA [0] rfl
        refine va_calli (va_runV (As := [.int 1]) (rest := []) ⟨hx, hb, hml, hown, ht⟩ (k_X12_fails l d0 cO dC dI H.size h0 1 fs hlen) (my_V ht M_X12_fails q1992 q53 q1990 (Nat.le_of_ble_eq_true rfl) (Nat.le_of_ble_eq_true rfl)) ⟨PRE.fb, va_recv hK hP (ci := 13) (q0 := 0) rfl rfl, fun U hU hW => ⟨rfl, PRE.mk' hE hS hFc hPc hKc hDc U hU hW⟩⟩ rfl rfl hl.1 rfl (lv_room (Nat.le_of_ble_eq_true rfl)) dX12_change_220 ⟨(Nat.le_of_ble_eq_true rfl), (Nat.le_of_ble_eq_true rfl)⟩) hS (fun q _ h => hFc q h) hFc (fun r29 u28 t H1 locs htt hvm hw hB hz1 hk1 hS => ?_)
        try dsimp only at hw hB
        obtain ⟨hP1, hK1, hD1⟩ := hB
        rw [htt] at hP1
        have hK1 := va_K.moved hvm.symm hK1
        obtain ⟨hP, hD⟩ := va_join (wr := []) (w1 := [(h0, .inr (13, (fs.set 74 (.int 1))))]) hP hD [0] [] rfl rfl (by decide) (by decide) hk1 hFc hP1 hD1
        have hK := (hK.sub (tys' := []) [] rfl).app hK1
        generalize H1 = H at hP hS ⊢
        have hP : va_P (dC, dI) vwCl [(h0, .inr (13, (fs.set 74 (.int 1))))] H := hP
        have hD : va_D A [(h0, .inr (13, (fs.set 74 (.int 1))))] := hD
        have hK : va_K (dC, dI) vwCl [] s := hK
        refine W.widen (k := 0) (n := 0) (Nat.le_of_ble_eq_true rfl) (Nat.le_of_ble_eq_true rfl) ?_
        have hw := hw.1 (by decide)
        subst hw
        refine lv_if_eq (tgt := 228) hx hb dX12_change_223 (by decide) (fun c30 => False.elim (by revert c30; decide)) (fun c30 => ?_)
        refine lv_iconst (v := 0) hx hb dX12_change_226 (by decide) ?_
        have hP9 := hP.sub (ws' := [(h0, .inr (13, (fs.set 74 (.int 1))))]) [0] rfl
        have hD9 := hD.sub (ws' := [(h0, .inr (13, (fs.set 74 (.int 1))))]) [0] (by decide) rfl
        have hK9 := hK.sub (tys' := []) [] rfl
        refine W.widen (k := 0) (n := 0) (Nat.le_of_ble_eq_true rfl) (Nat.le_of_ble_eq_true rfl) ?_
        exact W.iret (v := 0) hx hb hr (fun t ht9 hW9 => ⟨⟨0, 1, rfl, rfl, ⟨(fs.set 74 (.int 1)), (by rw [List.getElem?_set_self (by rw [hlen]; decide)]), POW.mk' ht9 hW9.alike hP9 hK9 hD9⟩⟩, hS.F ht9⟩) hS.2.2 dX12_change_227
      · subst hw
        refine lv_if_eq (tgt := 71) hx hb dX12_change_34 (by decide) (fun c31 => False.elim (by revert c31; decide)) (fun c31 => ?_)
        refine lv_iload hx hb dX12_change_37 (lv_at hl 6 rfl) ?_
        have hPc := hP.sub (ws' := []) [] rfl
        have hDc := hD.sub (ws' := []) [] (by decide) rfl
        have hKc := hK.sub (tys' := []) [] rfl
        have hFc := freeNil hS hA
        refine va_calli (va_runS (As := [.int a5]) (rest := []) ⟨hx, hb, hml, hown, ht⟩ (k_X12_isNumber l d0 cO dC dI H.size a5) (my_S ht M_X12_isNumber q2077 q2076 (Nat.le_of_ble_eq_true rfl) (Nat.le_of_ble_eq_true rfl)) ⟨PREp.fb, fun U hU hW => ⟨rfl, PREp.mk' hE hS hFc hPc hKc U hU hW⟩⟩ rfl rfl hl.1 rfl (lv_room (Nat.le_of_ble_eq_true rfl)) dX12_change_39 ⟨(Nat.le_of_ble_eq_true rfl), (Nat.le_of_ble_eq_true rfl)⟩) hS (fun q _ h => hFc q h) hFc (fun r33 u32 t H1 locs htt hvm hw hB hz1 hk1 hS => ?_)
        try dsimp only at hw hB
        have hP1 := hB
        have hP := keepAll hP hk1
        generalize H1 = H at hP hS ⊢
        have hP : va_P (dC, dI) vwCl [(h0, .inr (13, fs))] H := hP
        have hD : va_D A [(h0, .inr (13, fs))] := hD
        have hK : va_K (dC, dI) vwCl [] s := hK
        refine W.widen (k := 0) (n := 0) (Nat.le_of_ble_eq_true rfl) (Nat.le_of_ble_eq_true rfl) ?_
        rcases hw with hw | hw
        · subst hw
          refine lv_if_eq (tgt := 71) hx hb dX12_change_42 (by decide) (fun c34 => ?_) (fun c34 => False.elim (by revert c34; decide))
          refine lv_iconst (v := 0) hx hb dX12_change_71 (by decide) ?_
          refine lv_istore (lv' := [(9, .int 0), (8, .int 0), (0, .ref h0), (1, .int a1), (2, .int a2), (3, .int a3), (4, .int a4), (5, .int a5), (6, .int a6), (7, .int a7)]) hx hb dX12_change_72 hl (by decide) rfl (fun ls hl => ?_)
          refine lv_iload hx hb dX12_change_74 (lv_at hl 1 rfl) ?_
          refine lv_if_eq (tgt := 98) hx hb dX12_change_76 (by decide) (fun c35 => ?_) (fun c35 => False.elim (by revert c35; decide))
          refine lv_iconst (v := 0) hx hb dX12_change_98 (by decide) ?_
          refine lv_istore (lv' := [(10, .int 0), (9, .int 0), (8, .int 0), (0, .ref h0), (1, .int a1), (2, .int a2), (3, .int a3), (4, .int a4), (5, .int a5), (6, .int a6), (7, .int a7)]) hx hb dX12_change_99 hl (by decide) rfl (fun ls hl => ?_)
          refine lv_iload hx hb dX12_change_101 (lv_at hl 0 rfl) ?_
          refine lv_if_eq (tgt := 120) hx hb dX12_change_103 (by decide) (fun c36 => ?_) (fun c36 => False.elim (by revert c36; decide))
          refine lv_iconst (v := 0) hx hb dX12_change_120 (by decide) ?_
          refine lv_istore (lv' := [(11, .int 0), (10, .int 0), (9, .int 0), (8, .int 0), (0, .ref h0), (1, .int a1), (2, .int a2), (3, .int a3), (4, .int a4), (5, .int a5), (6, .int a6), (7, .int a7)]) hx hb dX12_change_121 hl (by decide) rfl (fun ls hl => ?_)
          refine lv_iload hx hb dX12_change_123 (lv_at hl 1 rfl) ?_
          refine lv_if_eq (tgt := 143) hx hb dX12_change_125 (by decide) (fun c37 => ?_) (fun c37 => False.elim (by revert c37; decide))
          refine lv_iconst (v := 0) hx hb dX12_change_143 (by decide) ?_
          refine lv_istore (lv' := [(12, .int 0), (11, .int 0), (10, .int 0), (9, .int 0), (8, .int 0), (0, .ref h0), (1, .int a1), (2, .int a2), (3, .int a3), (4, .int a4), (5, .int a5), (6, .int a6), (7, .int a7)]) hx hb dX12_change_144 hl (by decide) rfl (fun ls hl => ?_)
          refine lv_iload hx hb dX12_change_146 (lv_at hl 2 rfl) ?_
          refine lv_if_eq (tgt := 188) hx hb dX12_change_148 (by decide) (fun c38 => ?_) (fun c38 => False.elim (by revert c38; decide))
          refine lv_iconst (v := 0) hx hb dX12_change_188 (by decide) ?_
          refine lv_istore (lv' := [(10, .int 0), (12, .int 0), (11, .int 0), (9, .int 0), (8, .int 0), (0, .ref h0), (1, .int a1), (2, .int a2), (3, .int a3), (4, .int a4), (5, .int a5), (6, .int a6), (7, .int a7)]) hx hb dX12_change_189 hl (by decide) rfl (fun ls hl => ?_)
          refine lv_aload_n hx hb dX12_change_191 rfl (lv_at hl 5 rfl) ?_
          refine lv_iload hx hb dX12_change_192 (lv_at hl 4 rfl) ?_
          refine lv_if_ne (tgt := 201) hx hb dX12_change_194 (by decide) (fun c39 => False.elim (by revert c39; decide)) (fun c39 => ?_)
          refine lv_iconst (v := 1) hx hb dX12_change_197 (by decide) ?_
          refine lv_goto (tgt := 220) hx hb dX12_change_198 (by decide) ?_
          have hPc := hP.sub (ws' := [(h0, .inr (13, fs))]) [0] rfl
          have hDc := hD.sub (ws' := [(h0, .inr (13, fs))]) [0] (by decide) rfl
          have hKc := hK.sub (tys' := []) [] rfl
          have hFc := va_free (wc := [(h0, .inr (13, fs))]) hD hS hA [0] rfl
          refine va_calli (va_runV (As := [.int 1]) (rest := []) ⟨hx, hb, hml, hown, ht⟩ (k_X12_fails l d0 cO dC dI H.size h0 1 fs hlen) (my_V ht M_X12_fails q1992 q53 q1990 (Nat.le_of_ble_eq_true rfl) (Nat.le_of_ble_eq_true rfl)) ⟨PRE.fb, va_recv hK hP (ci := 13) (q0 := 0) rfl rfl, fun U hU hW => ⟨rfl, PRE.mk' hE hS hFc hPc hKc hDc U hU hW⟩⟩ rfl rfl hl.1 rfl (lv_room (Nat.le_of_ble_eq_true rfl)) dX12_change_220 ⟨(Nat.le_of_ble_eq_true rfl), (Nat.le_of_ble_eq_true rfl)⟩) hS (fun q _ h => hFc q h) hFc (fun r41 u40 t H1 locs htt hvm hw hB hz1 hk1 hS => ?_)
          try dsimp only at hw hB
          obtain ⟨hP1, hK1, hD1⟩ := hB
          rw [htt] at hP1
          have hK1 := va_K.moved hvm.symm hK1
          obtain ⟨hP, hD⟩ := va_join (wr := []) (w1 := [(h0, .inr (13, (fs.set 74 (.int 1))))]) hP hD [0] [] rfl rfl (by decide) (by decide) hk1 hFc hP1 hD1
          have hK := (hK.sub (tys' := []) [] rfl).app hK1
          generalize H1 = H at hP hS ⊢
          have hP : va_P (dC, dI) vwCl [(h0, .inr (13, (fs.set 74 (.int 1))))] H := hP
          have hD : va_D A [(h0, .inr (13, (fs.set 74 (.int 1))))] := hD
          have hK : va_K (dC, dI) vwCl [] s := hK
          refine W.widen (k := 0) (n := 0) (Nat.le_of_ble_eq_true rfl) (Nat.le_of_ble_eq_true rfl) ?_
          have hw := hw.1 (by decide)
          subst hw
          refine lv_if_eq (tgt := 228) hx hb dX12_change_223 (by decide) (fun c42 => False.elim (by revert c42; decide)) (fun c42 => ?_)
          refine lv_iconst (v := 0) hx hb dX12_change_226 (by decide) ?_
          have hP9 := hP.sub (ws' := [(h0, .inr (13, (fs.set 74 (.int 1))))]) [0] rfl
          have hD9 := hD.sub (ws' := [(h0, .inr (13, (fs.set 74 (.int 1))))]) [0] (by decide) rfl
          have hK9 := hK.sub (tys' := []) [] rfl
          refine W.widen (k := 0) (n := 0) (Nat.le_of_ble_eq_true rfl) (Nat.le_of_ble_eq_true rfl) ?_
          exact W.iret (v := 0) hx hb hr (fun t ht9 hW9 => ⟨⟨0, 1, rfl, rfl, ⟨(fs.set 74 (.int 1)), (by rw [List.getElem?_set_self (by rw [hlen]; decide)]), POW.mk' ht9 hW9.alike hP9 hK9 hD9⟩⟩, hS.F ht9⟩) hS.2.2 dX12_change_227
        · subst hw
          refine lv_if_eq (tgt := 71) hx hb dX12_change_42 (by decide) (fun c43 => False.elim (by revert c43; decide)) (fun c43 => ?_)
          refine lv_iload hx hb dX12_change_45 (lv_at hl 7 rfl) ?_
          have hPc := hP.sub (ws' := []) [] rfl
          have hDc := hD.sub (ws' := []) [] (by decide) rfl
          have hKc := hK.sub (tys' := []) [] rfl
          have hFc := freeNil hS hA
          refine va_calli (va_runS (As := [.int a6]) (rest := []) ⟨hx, hb, hml, hown, ht⟩ (k_X12_isNumber l d0 cO dC dI H.size a6) (my_S ht M_X12_isNumber q2077 q2076 (Nat.le_of_ble_eq_true rfl) (Nat.le_of_ble_eq_true rfl)) ⟨PREp.fb, fun U hU hW => ⟨rfl, PREp.mk' hE hS hFc hPc hKc U hU hW⟩⟩ rfl rfl hl.1 rfl (lv_room (Nat.le_of_ble_eq_true rfl)) dX12_change_47 ⟨(Nat.le_of_ble_eq_true rfl), (Nat.le_of_ble_eq_true rfl)⟩) hS (fun q _ h => hFc q h) hFc (fun r45 u44 t H1 locs htt hvm hw hB hz1 hk1 hS => ?_)
          try dsimp only at hw hB
          have hP1 := hB
          have hP := keepAll hP hk1
          generalize H1 = H at hP hS ⊢
          have hP : va_P (dC, dI) vwCl [(h0, .inr (13, fs))] H := hP
          have hD : va_D A [(h0, .inr (13, fs))] := hD
          have hK : va_K (dC, dI) vwCl [] s := hK
          refine W.widen (k := 0) (n := 0) (Nat.le_of_ble_eq_true rfl) (Nat.le_of_ble_eq_true rfl) ?_
          rcases hw with hw | hw
          · subst hw
            refine lv_if_eq (tgt := 71) hx hb dX12_change_50 (by decide) (fun c46 => ?_) (fun c46 => False.elim (by revert c46; decide))
            refine lv_iconst (v := 0) hx hb dX12_change_71 (by decide) ?_
            refine lv_istore (lv' := [(9, .int 0), (8, .int 0), (0, .ref h0), (1, .int a1), (2, .int a2), (3, .int a3), (4, .int a4), (5, .int a5), (6, .int a6), (7, .int a7)]) hx hb dX12_change_72 hl (by decide) rfl (fun ls hl => ?_)
            refine lv_iload hx hb dX12_change_74 (lv_at hl 1 rfl) ?_
            refine lv_if_eq (tgt := 98) hx hb dX12_change_76 (by decide) (fun c47 => ?_) (fun c47 => False.elim (by revert c47; decide))
            refine lv_iconst (v := 0) hx hb dX12_change_98 (by decide) ?_
            refine lv_istore (lv' := [(10, .int 0), (9, .int 0), (8, .int 0), (0, .ref h0), (1, .int a1), (2, .int a2), (3, .int a3), (4, .int a4), (5, .int a5), (6, .int a6), (7, .int a7)]) hx hb dX12_change_99 hl (by decide) rfl (fun ls hl => ?_)
            refine lv_iload hx hb dX12_change_101 (lv_at hl 0 rfl) ?_
            refine lv_if_eq (tgt := 120) hx hb dX12_change_103 (by decide) (fun c48 => ?_) (fun c48 => False.elim (by revert c48; decide))
            refine lv_iconst (v := 0) hx hb dX12_change_120 (by decide) ?_
            refine lv_istore (lv' := [(11, .int 0), (10, .int 0), (9, .int 0), (8, .int 0), (0, .ref h0), (1, .int a1), (2, .int a2), (3, .int a3), (4, .int a4), (5, .int a5), (6, .int a6), (7, .int a7)]) hx hb dX12_change_121 hl (by decide) rfl (fun ls hl => ?_)
            refine lv_iload hx hb dX12_change_123 (lv_at hl 1 rfl) ?_
            refine lv_if_eq (tgt := 143) hx hb dX12_change_125 (by decide) (fun c49 => ?_) (fun c49 => False.elim (by revert c49; decide))
            refine lv_iconst (v := 0) hx hb dX12_change_143 (by decide) ?_
            refine lv_istore (lv' := [(12, .int 0), (11, .int 0), (10, .int 0), (9, .int 0), (8, .int 0), (0, .ref h0), (1, .int a1), (2, .int a2), (3, .int a3), (4, .int a4), (5, .int a5), (6, .int a6), (7, .int a7)]) hx hb dX12_change_144 hl (by decide) rfl (fun ls hl => ?_)
            refine lv_iload hx hb dX12_change_146 (lv_at hl 2 rfl) ?_
            refine lv_if_eq (tgt := 188) hx hb dX12_change_148 (by decide) (fun c50 => ?_) (fun c50 => False.elim (by revert c50; decide))
            refine lv_iconst (v := 0) hx hb dX12_change_188 (by decide) ?_
            refine lv_istore (lv' := [(10, .int 0), (12, .int 0), (11, .int 0), (9, .int 0), (8, .int 0), (0, .ref h0), (1, .int a1), (2, .int a2), (3, .int a3), (4, .int a4), (5, .int a5), (6, .int a6), (7, .int a7)]) hx hb dX12_change_189 hl (by decide) rfl (fun ls hl => ?_)
            refine lv_aload_n hx hb dX12_change_191 rfl (lv_at hl 5 rfl) ?_
            refine lv_iload hx hb dX12_change_192 (lv_at hl 4 rfl) ?_
            refine lv_if_ne (tgt := 201) hx hb dX12_change_194 (by decide) (fun c51 => False.elim (by revert c51; decide)) (fun c51 => ?_)
            refine lv_iconst (v := 1) hx hb dX12_change_197 (by decide) ?_
            refine lv_goto (tgt := 220) hx hb dX12_change_198 (by decide) ?_
            have hPc := hP.sub (ws' := [(h0, .inr (13, fs))]) [0] rfl
            have hDc := hD.sub (ws' := [(h0, .inr (13, fs))]) [0] (by decide) rfl
            have hKc := hK.sub (tys' := []) [] rfl
            have hFc := va_free (wc := [(h0, .inr (13, fs))]) hD hS hA [0] rfl
            refine va_calli (va_runV (As := [.int 1]) (rest := []) ⟨hx, hb, hml, hown, ht⟩ (k_X12_fails l d0 cO dC dI H.size h0 1 fs hlen) (my_V ht M_X12_fails q1992 q53 q1990 (Nat.le_of_ble_eq_true rfl) (Nat.le_of_ble_eq_true rfl)) ⟨PRE.fb, va_recv hK hP (ci := 13) (q0 := 0) rfl rfl, fun U hU hW => ⟨rfl, PRE.mk' hE hS hFc hPc hKc hDc U hU hW⟩⟩ rfl rfl hl.1 rfl (lv_room (Nat.le_of_ble_eq_true rfl)) dX12_change_220 ⟨(Nat.le_of_ble_eq_true rfl), (Nat.le_of_ble_eq_true rfl)⟩) hS (fun q _ h => hFc q h) hFc (fun r53 u52 t H1 locs htt hvm hw hB hz1 hk1 hS => ?_)
            try dsimp only at hw hB
            obtain ⟨hP1, hK1, hD1⟩ := hB
            rw [htt] at hP1
            have hK1 := va_K.moved hvm.symm hK1
            obtain ⟨hP, hD⟩ := va_join (wr := []) (w1 := [(h0, .inr (13, (fs.set 74 (.int 1))))]) hP hD [0] [] rfl rfl (by decide) (by decide) hk1 hFc hP1 hD1
            have hK := (hK.sub (tys' := []) [] rfl).app hK1
            generalize H1 = H at hP hS ⊢
            have hP : va_P (dC, dI) vwCl [(h0, .inr (13, (fs.set 74 (.int 1))))] H := hP
            have hD : va_D A [(h0, .inr (13, (fs.set 74 (.int 1))))] := hD
            have hK : va_K (dC, dI) vwCl [] s := hK
            refine W.widen (k := 0) (n := 0) (Nat.le_of_ble_eq_true rfl) (Nat.le_of_ble_eq_true rfl) ?_
            have hw := hw.1 (by decide)
            subst hw
            refine lv_if_eq (tgt := 228) hx hb dX12_change_223 (by decide) (fun c54 => False.elim (by revert c54; decide)) (fun c54 => ?_)
            refine lv_iconst (v := 0) hx hb dX12_change_226 (by decide) ?_
            have hP9 := hP.sub (ws' := [(h0, .inr (13, (fs.set 74 (.int 1))))]) [0] rfl
            have hD9 := hD.sub (ws' := [(h0, .inr (13, (fs.set 74 (.int 1))))]) [0] (by decide) rfl
            have hK9 := hK.sub (tys' := []) [] rfl
            refine W.widen (k := 0) (n := 0) (Nat.le_of_ble_eq_true rfl) (Nat.le_of_ble_eq_true rfl) ?_
            exact W.iret (v := 0) hx hb hr (fun t ht9 hW9 => ⟨⟨0, 1, rfl, rfl, ⟨(fs.set 74 (.int 1)), (by rw [List.getElem?_set_self (by rw [hlen]; decide)]), POW.mk' ht9 hW9.alike hP9 hK9 hD9⟩⟩, hS.F ht9⟩) hS.2.2 dX12_change_227
          · subst hw
            refine lv_if_eq (tgt := 71) hx hb dX12_change_50 (by decide) (fun c55 => False.elim (by revert c55; decide)) (fun c55 => ?_)
            refine lv_iload hx hb dX12_change_53 (lv_at hl 8 rfl) ?_
            refine lv_iconst (v := -1) hx hb dX12_change_55 (by decide) ?_
            refine lv_icmp_eq (tgt := 67) hx hb dX12_change_56 (by decide) (fun c56 => ?_) (fun c56 => ?_)
            · skip
              refine lv_iconst (v := 1) hx hb dX12_change_67 (by decide) ?_
              refine lv_goto (tgt := 72) hx hb dX12_change_68 (by decide) ?_
              refine lv_istore (lv' := [(9, .int 1), (8, .int 0), (0, .ref h0), (1, .int a1), (2, .int a2), (3, .int a3), (4, .int a4), (5, .int a5), (6, .int a6), (7, .int a7)]) hx hb dX12_change_72 hl (by decide) rfl (fun ls hl => ?_)
              refine lv_iload hx hb dX12_change_74 (lv_at hl 1 rfl) ?_
              refine lv_if_eq (tgt := 98) hx hb dX12_change_76 (by decide) (fun c57 => ?_) (fun c57 => False.elim (by revert c57; decide))
              refine lv_iconst (v := 0) hx hb dX12_change_98 (by decide) ?_
              refine lv_istore (lv' := [(10, .int 0), (9, .int 1), (8, .int 0), (0, .ref h0), (1, .int a1), (2, .int a2), (3, .int a3), (4, .int a4), (5, .int a5), (6, .int a6), (7, .int a7)]) hx hb dX12_change_99 hl (by decide) rfl (fun ls hl => ?_)
              refine lv_iload hx hb dX12_change_101 (lv_at hl 0 rfl) ?_
              refine lv_if_eq (tgt := 120) hx hb dX12_change_103 (by decide) (fun c58 => ?_) (fun c58 => False.elim (by revert c58; decide))
              refine lv_iconst (v := 0) hx hb dX12_change_120 (by decide) ?_
              refine lv_istore (lv' := [(11, .int 0), (10, .int 0), (9, .int 1), (8, .int 0), (0, .ref h0), (1, .int a1), (2, .int a2), (3, .int a3), (4, .int a4), (5, .int a5), (6, .int a6), (7, .int a7)]) hx hb dX12_change_121 hl (by decide) rfl (fun ls hl => ?_)
              refine lv_iload hx hb dX12_change_123 (lv_at hl 1 rfl) ?_
              refine lv_if_eq (tgt := 143) hx hb dX12_change_125 (by decide) (fun c59 => ?_) (fun c59 => False.elim (by revert c59; decide))
              refine lv_iconst (v := 0) hx hb dX12_change_143 (by decide) ?_
              refine lv_istore (lv' := [(12, .int 0), (11, .int 0), (10, .int 0), (9, .int 1), (8, .int 0), (0, .ref h0), (1, .int a1), (2, .int a2), (3, .int a3), (4, .int a4), (5, .int a5), (6, .int a6), (7, .int a7)]) hx hb dX12_change_144 hl (by decide) rfl (fun ls hl => ?_)
              refine lv_iload hx hb dX12_change_146 (lv_at hl 2 rfl) ?_
              refine lv_if_eq (tgt := 188) hx hb dX12_change_148 (by decide) (fun c60 => ?_) (fun c60 => False.elim (by revert c60; decide))
              refine lv_iconst (v := 0) hx hb dX12_change_188 (by decide) ?_
              refine lv_istore (lv' := [(10, .int 0), (12, .int 0), (11, .int 0), (9, .int 1), (8, .int 0), (0, .ref h0), (1, .int a1), (2, .int a2), (3, .int a3), (4, .int a4), (5, .int a5), (6, .int a6), (7, .int a7)]) hx hb dX12_change_189 hl (by decide) rfl (fun ls hl => ?_)
              refine lv_aload_n hx hb dX12_change_191 rfl (lv_at hl 5 rfl) ?_
              refine lv_iload hx hb dX12_change_192 (lv_at hl 4 rfl) ?_
              refine lv_if_ne (tgt := 201) hx hb dX12_change_194 (by decide) (fun c61 => False.elim (by revert c61; decide)) (fun c61 => ?_)
              refine lv_iconst (v := 1) hx hb dX12_change_197 (by decide) ?_
              refine lv_goto (tgt := 220) hx hb dX12_change_198 (by decide) ?_
              have hPc := hP.sub (ws' := [(h0, .inr (13, fs))]) [0] rfl
              have hDc := hD.sub (ws' := [(h0, .inr (13, fs))]) [0] (by decide) rfl
              have hKc := hK.sub (tys' := []) [] rfl
              have hFc := va_free (wc := [(h0, .inr (13, fs))]) hD hS hA [0] rfl
              refine va_calli (va_runV (As := [.int 1]) (rest := []) ⟨hx, hb, hml, hown, ht⟩ (k_X12_fails l d0 cO dC dI H.size h0 1 fs hlen) (my_V ht M_X12_fails q1992 q53 q1990 (Nat.le_of_ble_eq_true rfl) (Nat.le_of_ble_eq_true rfl)) ⟨PRE.fb, va_recv hK hP (ci := 13) (q0 := 0) rfl rfl, fun U hU hW => ⟨rfl, PRE.mk' hE hS hFc hPc hKc hDc U hU hW⟩⟩ rfl rfl hl.1 rfl (lv_room (Nat.le_of_ble_eq_true rfl)) dX12_change_220 ⟨(Nat.le_of_ble_eq_true rfl), (Nat.le_of_ble_eq_true rfl)⟩) hS (fun q _ h => hFc q h) hFc (fun r63 u62 t H1 locs htt hvm hw hB hz1 hk1 hS => ?_)
              try dsimp only at hw hB
              obtain ⟨hP1, hK1, hD1⟩ := hB
              rw [htt] at hP1
              have hK1 := va_K.moved hvm.symm hK1
              obtain ⟨hP, hD⟩ := va_join (wr := []) (w1 := [(h0, .inr (13, (fs.set 74 (.int 1))))]) hP hD [0] [] rfl rfl (by decide) (by decide) hk1 hFc hP1 hD1
              have hK := (hK.sub (tys' := []) [] rfl).app hK1
              generalize H1 = H at hP hS ⊢
              have hP : va_P (dC, dI) vwCl [(h0, .inr (13, (fs.set 74 (.int 1))))] H := hP
              have hD : va_D A [(h0, .inr (13, (fs.set 74 (.int 1))))] := hD
              have hK : va_K (dC, dI) vwCl [] s := hK
              refine W.widen (k := 0) (n := 0) (Nat.le_of_ble_eq_true rfl) (Nat.le_of_ble_eq_true rfl) ?_
              have hw := hw.1 (by decide)
              subst hw
              refine lv_if_eq (tgt := 228) hx hb dX12_change_223 (by decide) (fun c64 => False.elim (by revert c64; decide)) (fun c64 => ?_)
              refine lv_iconst (v := 0) hx hb dX12_change_226 (by decide) ?_
              have hP9 := hP.sub (ws' := [(h0, .inr (13, (fs.set 74 (.int 1))))]) [0] rfl
              have hD9 := hD.sub (ws' := [(h0, .inr (13, (fs.set 74 (.int 1))))]) [0] (by decide) rfl
              have hK9 := hK.sub (tys' := []) [] rfl
              refine W.widen (k := 0) (n := 0) (Nat.le_of_ble_eq_true rfl) (Nat.le_of_ble_eq_true rfl) ?_
              exact W.iret (v := 0) hx hb hr (fun t ht9 hW9 => ⟨⟨0, 1, rfl, rfl, ⟨(fs.set 74 (.int 1)), (by rw [List.getElem?_set_self (by rw [hlen]; decide)]), POW.mk' ht9 hW9.alike hP9 hK9 hD9⟩⟩, hS.F ht9⟩) hS.2.2 dX12_change_227
            · skip
              refine lv_iload hx hb dX12_change_59 (lv_at hl 8 rfl) ?_
              have hPc := hP.sub (ws' := []) [] rfl
              have hDc := hD.sub (ws' := []) [] (by decide) rfl
              have hKc := hK.sub (tys' := []) [] rfl
              have hFc := freeNil hS hA
              refine va_calli (va_runS (As := [.int a7]) (rest := []) ⟨hx, hb, hml, hown, ht⟩ (k_X12_isCode l d0 cO dC dI H.size a7) (my_S ht M_X12_isCode q2007 q2006 (Nat.le_of_ble_eq_true rfl) (Nat.le_of_ble_eq_true rfl)) ⟨PREp.fb, fun U hU hW => ⟨rfl, PREp.mk' hE hS hFc hPc hKc U hU hW⟩⟩ rfl rfl hl.1 rfl (lv_room (Nat.le_of_ble_eq_true rfl)) dX12_change_61 ⟨(Nat.le_of_ble_eq_true rfl), (Nat.le_of_ble_eq_true rfl)⟩) hS (fun q _ h => hFc q h) hFc (fun r66 u65 t H1 locs htt hvm hw hB hz1 hk1 hS => ?_)
              try dsimp only at hw hB
              have hP1 := hB
              have hP := keepAll hP hk1
              generalize H1 = H at hP hS ⊢
              have hP : va_P (dC, dI) vwCl [(h0, .inr (13, fs))] H := hP
              have hD : va_D A [(h0, .inr (13, fs))] := hD
              have hK : va_K (dC, dI) vwCl [] s := hK
              refine W.widen (k := 0) (n := 0) (Nat.le_of_ble_eq_true rfl) (Nat.le_of_ble_eq_true rfl) ?_
              rcases hw with hw | hw
              · subst hw
                refine lv_if_eq (tgt := 71) hx hb dX12_change_64 (by decide) (fun c67 => ?_) (fun c67 => False.elim (by revert c67; decide))
                refine lv_iconst (v := 0) hx hb dX12_change_71 (by decide) ?_
                refine lv_istore (lv' := [(9, .int 0), (8, .int 0), (0, .ref h0), (1, .int a1), (2, .int a2), (3, .int a3), (4, .int a4), (5, .int a5), (6, .int a6), (7, .int a7)]) hx hb dX12_change_72 hl (by decide) rfl (fun ls hl => ?_)
                refine lv_iload hx hb dX12_change_74 (lv_at hl 1 rfl) ?_
                refine lv_if_eq (tgt := 98) hx hb dX12_change_76 (by decide) (fun c68 => ?_) (fun c68 => False.elim (by revert c68; decide))
                refine lv_iconst (v := 0) hx hb dX12_change_98 (by decide) ?_
                refine lv_istore (lv' := [(10, .int 0), (9, .int 0), (8, .int 0), (0, .ref h0), (1, .int a1), (2, .int a2), (3, .int a3), (4, .int a4), (5, .int a5), (6, .int a6), (7, .int a7)]) hx hb dX12_change_99 hl (by decide) rfl (fun ls hl => ?_)
                refine lv_iload hx hb dX12_change_101 (lv_at hl 0 rfl) ?_
                refine lv_if_eq (tgt := 120) hx hb dX12_change_103 (by decide) (fun c69 => ?_) (fun c69 => False.elim (by revert c69; decide))
                refine lv_iconst (v := 0) hx hb dX12_change_120 (by decide) ?_
                refine lv_istore (lv' := [(11, .int 0), (10, .int 0), (9, .int 0), (8, .int 0), (0, .ref h0), (1, .int a1), (2, .int a2), (3, .int a3), (4, .int a4), (5, .int a5), (6, .int a6), (7, .int a7)]) hx hb dX12_change_121 hl (by decide) rfl (fun ls hl => ?_)
                refine lv_iload hx hb dX12_change_123 (lv_at hl 1 rfl) ?_
                refine lv_if_eq (tgt := 143) hx hb dX12_change_125 (by decide) (fun c70 => ?_) (fun c70 => False.elim (by revert c70; decide))
                refine lv_iconst (v := 0) hx hb dX12_change_143 (by decide) ?_
                refine lv_istore (lv' := [(12, .int 0), (11, .int 0), (10, .int 0), (9, .int 0), (8, .int 0), (0, .ref h0), (1, .int a1), (2, .int a2), (3, .int a3), (4, .int a4), (5, .int a5), (6, .int a6), (7, .int a7)]) hx hb dX12_change_144 hl (by decide) rfl (fun ls hl => ?_)
                refine lv_iload hx hb dX12_change_146 (lv_at hl 2 rfl) ?_
                refine lv_if_eq (tgt := 188) hx hb dX12_change_148 (by decide) (fun c71 => ?_) (fun c71 => False.elim (by revert c71; decide))
                refine lv_iconst (v := 0) hx hb dX12_change_188 (by decide) ?_
                refine lv_istore (lv' := [(10, .int 0), (12, .int 0), (11, .int 0), (9, .int 0), (8, .int 0), (0, .ref h0), (1, .int a1), (2, .int a2), (3, .int a3), (4, .int a4), (5, .int a5), (6, .int a6), (7, .int a7)]) hx hb dX12_change_189 hl (by decide) rfl (fun ls hl => ?_)
                refine lv_aload_n hx hb dX12_change_191 rfl (lv_at hl 5 rfl) ?_
                refine lv_iload hx hb dX12_change_192 (lv_at hl 4 rfl) ?_
                refine lv_if_ne (tgt := 201) hx hb dX12_change_194 (by decide) (fun c72 => False.elim (by revert c72; decide)) (fun c72 => ?_)
                refine lv_iconst (v := 1) hx hb dX12_change_197 (by decide) ?_
                refine lv_goto (tgt := 220) hx hb dX12_change_198 (by decide) ?_
                have hPc := hP.sub (ws' := [(h0, .inr (13, fs))]) [0] rfl
                have hDc := hD.sub (ws' := [(h0, .inr (13, fs))]) [0] (by decide) rfl
                have hKc := hK.sub (tys' := []) [] rfl
                have hFc := va_free (wc := [(h0, .inr (13, fs))]) hD hS hA [0] rfl
                refine va_calli (va_runV (As := [.int 1]) (rest := []) ⟨hx, hb, hml, hown, ht⟩ (k_X12_fails l d0 cO dC dI H.size h0 1 fs hlen) (my_V ht M_X12_fails q1992 q53 q1990 (Nat.le_of_ble_eq_true rfl) (Nat.le_of_ble_eq_true rfl)) ⟨PRE.fb, va_recv hK hP (ci := 13) (q0 := 0) rfl rfl, fun U hU hW => ⟨rfl, PRE.mk' hE hS hFc hPc hKc hDc U hU hW⟩⟩ rfl rfl hl.1 rfl (lv_room (Nat.le_of_ble_eq_true rfl)) dX12_change_220 ⟨(Nat.le_of_ble_eq_true rfl), (Nat.le_of_ble_eq_true rfl)⟩) hS (fun q _ h => hFc q h) hFc (fun r74 u73 t H1 locs htt hvm hw hB hz1 hk1 hS => ?_)
                try dsimp only at hw hB
                obtain ⟨hP1, hK1, hD1⟩ := hB
                rw [htt] at hP1
                have hK1 := va_K.moved hvm.symm hK1
                obtain ⟨hP, hD⟩ := va_join (wr := []) (w1 := [(h0, .inr (13, (fs.set 74 (.int 1))))]) hP hD [0] [] rfl rfl (by decide) (by decide) hk1 hFc hP1 hD1
                have hK := (hK.sub (tys' := []) [] rfl).app hK1
                generalize H1 = H at hP hS ⊢
                have hP : va_P (dC, dI) vwCl [(h0, .inr (13, (fs.set 74 (.int 1))))] H := hP
                have hD : va_D A [(h0, .inr (13, (fs.set 74 (.int 1))))] := hD
                have hK : va_K (dC, dI) vwCl [] s := hK
                refine W.widen (k := 0) (n := 0) (Nat.le_of_ble_eq_true rfl) (Nat.le_of_ble_eq_true rfl) ?_
                have hw := hw.1 (by decide)
                subst hw
                refine lv_if_eq (tgt := 228) hx hb dX12_change_223 (by decide) (fun c75 => False.elim (by revert c75; decide)) (fun c75 => ?_)
                refine lv_iconst (v := 0) hx hb dX12_change_226 (by decide) ?_
                have hP9 := hP.sub (ws' := [(h0, .inr (13, (fs.set 74 (.int 1))))]) [0] rfl
                have hD9 := hD.sub (ws' := [(h0, .inr (13, (fs.set 74 (.int 1))))]) [0] (by decide) rfl
                have hK9 := hK.sub (tys' := []) [] rfl
                refine W.widen (k := 0) (n := 0) (Nat.le_of_ble_eq_true rfl) (Nat.le_of_ble_eq_true rfl) ?_
                exact W.iret (v := 0) hx hb hr (fun t ht9 hW9 => ⟨⟨0, 1, rfl, rfl, ⟨(fs.set 74 (.int 1)), (by rw [List.getElem?_set_self (by rw [hlen]; decide)]), POW.mk' ht9 hW9.alike hP9 hK9 hD9⟩⟩, hS.F ht9⟩) hS.2.2 dX12_change_227
              · subst hw
                refine lv_if_eq (tgt := 71) hx hb dX12_change_64 (by decide) (fun c76 => False.elim (by revert c76; decide)) (fun c76 => ?_)
                refine lv_iconst (v := 1) hx hb dX12_change_67 (by decide) ?_
                refine lv_goto (tgt := 72) hx hb dX12_change_68 (by decide) ?_
                refine lv_istore (lv' := [(9, .int 1), (8, .int 0), (0, .ref h0), (1, .int a1), (2, .int a2), (3, .int a3), (4, .int a4), (5, .int a5), (6, .int a6), (7, .int a7)]) hx hb dX12_change_72 hl (by decide) rfl (fun ls hl => ?_)
                refine lv_iload hx hb dX12_change_74 (lv_at hl 1 rfl) ?_
                refine lv_if_eq (tgt := 98) hx hb dX12_change_76 (by decide) (fun c77 => ?_) (fun c77 => False.elim (by revert c77; decide))
                refine lv_iconst (v := 0) hx hb dX12_change_98 (by decide) ?_
                refine lv_istore (lv' := [(10, .int 0), (9, .int 1), (8, .int 0), (0, .ref h0), (1, .int a1), (2, .int a2), (3, .int a3), (4, .int a4), (5, .int a5), (6, .int a6), (7, .int a7)]) hx hb dX12_change_99 hl (by decide) rfl (fun ls hl => ?_)
                refine lv_iload hx hb dX12_change_101 (lv_at hl 0 rfl) ?_
                refine lv_if_eq (tgt := 120) hx hb dX12_change_103 (by decide) (fun c78 => ?_) (fun c78 => False.elim (by revert c78; decide))
                refine lv_iconst (v := 0) hx hb dX12_change_120 (by decide) ?_
                refine lv_istore (lv' := [(11, .int 0), (10, .int 0), (9, .int 1), (8, .int 0), (0, .ref h0), (1, .int a1), (2, .int a2), (3, .int a3), (4, .int a4), (5, .int a5), (6, .int a6), (7, .int a7)]) hx hb dX12_change_121 hl (by decide) rfl (fun ls hl => ?_)
                refine lv_iload hx hb dX12_change_123 (lv_at hl 1 rfl) ?_
                refine lv_if_eq (tgt := 143) hx hb dX12_change_125 (by decide) (fun c79 => ?_) (fun c79 => False.elim (by revert c79; decide))
                refine lv_iconst (v := 0) hx hb dX12_change_143 (by decide) ?_
                refine lv_istore (lv' := [(12, .int 0), (11, .int 0), (10, .int 0), (9, .int 1), (8, .int 0), (0, .ref h0), (1, .int a1), (2, .int a2), (3, .int a3), (4, .int a4), (5, .int a5), (6, .int a6), (7, .int a7)]) hx hb dX12_change_144 hl (by decide) rfl (fun ls hl => ?_)
                refine lv_iload hx hb dX12_change_146 (lv_at hl 2 rfl) ?_
                refine lv_if_eq (tgt := 188) hx hb dX12_change_148 (by decide) (fun c80 => ?_) (fun c80 => False.elim (by revert c80; decide))
                refine lv_iconst (v := 0) hx hb dX12_change_188 (by decide) ?_
                refine lv_istore (lv' := [(10, .int 0), (12, .int 0), (11, .int 0), (9, .int 1), (8, .int 0), (0, .ref h0), (1, .int a1), (2, .int a2), (3, .int a3), (4, .int a4), (5, .int a5), (6, .int a6), (7, .int a7)]) hx hb dX12_change_189 hl (by decide) rfl (fun ls hl => ?_)
                refine lv_aload_n hx hb dX12_change_191 rfl (lv_at hl 5 rfl) ?_
                refine lv_iload hx hb dX12_change_192 (lv_at hl 4 rfl) ?_
                refine lv_if_ne (tgt := 201) hx hb dX12_change_194 (by decide) (fun c81 => False.elim (by revert c81; decide)) (fun c81 => ?_)
                refine lv_iconst (v := 1) hx hb dX12_change_197 (by decide) ?_
                refine lv_goto (tgt := 220) hx hb dX12_change_198 (by decide) ?_
                have hPc := hP.sub (ws' := [(h0, .inr (13, fs))]) [0] rfl
                have hDc := hD.sub (ws' := [(h0, .inr (13, fs))]) [0] (by decide) rfl
                have hKc := hK.sub (tys' := []) [] rfl
                have hFc := va_free (wc := [(h0, .inr (13, fs))]) hD hS hA [0] rfl
                refine va_calli (va_runV (As := [.int 1]) (rest := []) ⟨hx, hb, hml, hown, ht⟩ (k_X12_fails l d0 cO dC dI H.size h0 1 fs hlen) (my_V ht M_X12_fails q1992 q53 q1990 (Nat.le_of_ble_eq_true rfl) (Nat.le_of_ble_eq_true rfl)) ⟨PRE.fb, va_recv hK hP (ci := 13) (q0 := 0) rfl rfl, fun U hU hW => ⟨rfl, PRE.mk' hE hS hFc hPc hKc hDc U hU hW⟩⟩ rfl rfl hl.1 rfl (lv_room (Nat.le_of_ble_eq_true rfl)) dX12_change_220 ⟨(Nat.le_of_ble_eq_true rfl), (Nat.le_of_ble_eq_true rfl)⟩) hS (fun q _ h => hFc q h) hFc (fun r83 u82 t H1 locs htt hvm hw hB hz1 hk1 hS => ?_)
                try dsimp only at hw hB
                obtain ⟨hP1, hK1, hD1⟩ := hB
                rw [htt] at hP1
                have hK1 := va_K.moved hvm.symm hK1
                obtain ⟨hP, hD⟩ := va_join (wr := []) (w1 := [(h0, .inr (13, (fs.set 74 (.int 1))))]) hP hD [0] [] rfl rfl (by decide) (by decide) hk1 hFc hP1 hD1
                have hK := (hK.sub (tys' := []) [] rfl).app hK1
                generalize H1 = H at hP hS ⊢
                have hP : va_P (dC, dI) vwCl [(h0, .inr (13, (fs.set 74 (.int 1))))] H := hP
                have hD : va_D A [(h0, .inr (13, (fs.set 74 (.int 1))))] := hD
                have hK : va_K (dC, dI) vwCl [] s := hK
                refine W.widen (k := 0) (n := 0) (Nat.le_of_ble_eq_true rfl) (Nat.le_of_ble_eq_true rfl) ?_
                have hw := hw.1 (by decide)
                subst hw
                refine lv_if_eq (tgt := 228) hx hb dX12_change_223 (by decide) (fun c84 => False.elim (by revert c84; decide)) (fun c84 => ?_)
                refine lv_iconst (v := 0) hx hb dX12_change_226 (by decide) ?_
                have hP9 := hP.sub (ws' := [(h0, .inr (13, (fs.set 74 (.int 1))))]) [0] rfl
                have hD9 := hD.sub (ws' := [(h0, .inr (13, (fs.set 74 (.int 1))))]) [0] (by decide) rfl
                have hK9 := hK.sub (tys' := []) [] rfl
                refine W.widen (k := 0) (n := 0) (Nat.le_of_ble_eq_true rfl) (Nat.le_of_ble_eq_true rfl) ?_
                exact W.iret (v := 0) hx hb hr (fun t ht9 hW9 => ⟨⟨0, 1, rfl, rfl, ⟨(fs.set 74 (.int 1)), (by rw [List.getElem?_set_self (by rw [hlen]; decide)]), POW.mk' ht9 hW9.alike hP9 hK9 hD9⟩⟩, hS.F ht9⟩) hS.2.2 dX12_change_227
  · have hw := hw.2 hI3
    subst hw
    refine lv_if_eq (tgt := 19) hx hb dX12_change_4 (by decide) (fun c85 => ?_) (fun c85 => False.elim (by revert c85; decide))
    refine lv_iconst (v := 0) hx hb dX12_change_19 (by decide) ?_
    refine lv_istore (lv' := [(8, .int 0), (0, .ref h0), (1, .int a1), (2, .int a2), (3, .int a3), (4, .int a4), (5, .int a5), (6, .int a6), (7, .int a7)]) hx hb dX12_change_20 hl (by decide) rfl (fun ls hl => ?_)
    refine lv_iload_n hx hb dX12_change_22 rfl (lv_at hl 4 rfl) ?_
    have hPc := hP.sub (ws' := []) [] rfl
    have hDc := hD.sub (ws' := []) [] (by decide) rfl
    have hKc := hK.sub (tys' := []) [] rfl
    have hFc := freeNil hS hA
    refine va_calli (va_runS (As := [.int a3]) (rest := []) ⟨hx, hb, hml, hown, ht⟩ (k_X12_isNumber l d0 cO dC dI H.size a3) (my_S ht M_X12_isNumber q2077 q2076 (Nat.le_of_ble_eq_true rfl) (Nat.le_of_ble_eq_true rfl)) ⟨PREp.fb, fun U hU hW => ⟨rfl, PREp.mk' hE hS hFc hPc hKc U hU hW⟩⟩ rfl rfl hl.1 rfl (lv_room (Nat.le_of_ble_eq_true rfl)) dX12_change_23 ⟨(Nat.le_of_ble_eq_true rfl), (Nat.le_of_ble_eq_true rfl)⟩) hS (fun q _ h => hFc q h) hFc (fun r87 u86 t H1 locs htt hvm hw hB hz1 hk1 hS => ?_)
    try dsimp only at hw hB
    have hP1 := hB
    have hP := keepAll hP hk1
    generalize H1 = H at hP hS ⊢
    have hP : va_P (dC, dI) vwCl [(h0, .inr (13, fs))] H := hP
    have hD : va_D A [(h0, .inr (13, fs))] := hD
    have hK : va_K (dC, dI) vwCl [] s := hK
    refine W.widen (k := 0) (n := 0) (Nat.le_of_ble_eq_true rfl) (Nat.le_of_ble_eq_true rfl) ?_
    rcases hw with hw | hw
    · subst hw
      refine lv_if_eq (tgt := 71) hx hb dX12_change_26 (by decide) (fun c88 => ?_) (fun c88 => False.elim (by revert c88; decide))
      refine lv_iconst (v := 0) hx hb dX12_change_71 (by decide) ?_
      refine lv_istore (lv' := [(9, .int 0), (8, .int 0), (0, .ref h0), (1, .int a1), (2, .int a2), (3, .int a3), (4, .int a4), (5, .int a5), (6, .int a6), (7, .int a7)]) hx hb dX12_change_72 hl (by decide) rfl (fun ls hl => ?_)
      refine lv_iload hx hb dX12_change_74 (lv_at hl 1 rfl) ?_
      refine lv_if_eq (tgt := 98) hx hb dX12_change_76 (by decide) (fun c89 => ?_) (fun c89 => False.elim (by revert c89; decide))
      refine lv_iconst (v := 0) hx hb dX12_change_98 (by decide) ?_
      refine lv_istore (lv' := [(10, .int 0), (9, .int 0), (8, .int 0), (0, .ref h0), (1, .int a1), (2, .int a2), (3, .int a3), (4, .int a4), (5, .int a5), (6, .int a6), (7, .int a7)]) hx hb dX12_change_99 hl (by decide) rfl (fun ls hl => ?_)
      refine lv_iload hx hb dX12_change_101 (lv_at hl 0 rfl) ?_
      refine lv_if_eq (tgt := 120) hx hb dX12_change_103 (by decide) (fun c90 => ?_) (fun c90 => False.elim (by revert c90; decide))
      refine lv_iconst (v := 0) hx hb dX12_change_120 (by decide) ?_
      refine lv_istore (lv' := [(11, .int 0), (10, .int 0), (9, .int 0), (8, .int 0), (0, .ref h0), (1, .int a1), (2, .int a2), (3, .int a3), (4, .int a4), (5, .int a5), (6, .int a6), (7, .int a7)]) hx hb dX12_change_121 hl (by decide) rfl (fun ls hl => ?_)
      refine lv_iload hx hb dX12_change_123 (lv_at hl 1 rfl) ?_
      refine lv_if_eq (tgt := 143) hx hb dX12_change_125 (by decide) (fun c91 => ?_) (fun c91 => False.elim (by revert c91; decide))
      refine lv_iconst (v := 0) hx hb dX12_change_143 (by decide) ?_
      refine lv_istore (lv' := [(12, .int 0), (11, .int 0), (10, .int 0), (9, .int 0), (8, .int 0), (0, .ref h0), (1, .int a1), (2, .int a2), (3, .int a3), (4, .int a4), (5, .int a5), (6, .int a6), (7, .int a7)]) hx hb dX12_change_144 hl (by decide) rfl (fun ls hl => ?_)
      refine lv_iload hx hb dX12_change_146 (lv_at hl 2 rfl) ?_
      refine lv_if_eq (tgt := 188) hx hb dX12_change_148 (by decide) (fun c92 => ?_) (fun c92 => False.elim (by revert c92; decide))
      refine lv_iconst (v := 0) hx hb dX12_change_188 (by decide) ?_
      refine lv_istore (lv' := [(10, .int 0), (12, .int 0), (11, .int 0), (9, .int 0), (8, .int 0), (0, .ref h0), (1, .int a1), (2, .int a2), (3, .int a3), (4, .int a4), (5, .int a5), (6, .int a6), (7, .int a7)]) hx hb dX12_change_189 hl (by decide) rfl (fun ls hl => ?_)
      refine lv_aload_n hx hb dX12_change_191 rfl (lv_at hl 5 rfl) ?_
      refine lv_iload hx hb dX12_change_192 (lv_at hl 4 rfl) ?_
      refine lv_if_ne (tgt := 201) hx hb dX12_change_194 (by decide) (fun c93 => False.elim (by revert c93; decide)) (fun c93 => ?_)
      refine lv_iconst (v := 1) hx hb dX12_change_197 (by decide) ?_
      refine lv_goto (tgt := 220) hx hb dX12_change_198 (by decide) ?_
      have hPc := hP.sub (ws' := [(h0, .inr (13, fs))]) [0] rfl
      have hDc := hD.sub (ws' := [(h0, .inr (13, fs))]) [0] (by decide) rfl
      have hKc := hK.sub (tys' := []) [] rfl
      have hFc := va_free (wc := [(h0, .inr (13, fs))]) hD hS hA [0] rfl
      refine va_calli (va_runV (As := [.int 1]) (rest := []) ⟨hx, hb, hml, hown, ht⟩ (k_X12_fails l d0 cO dC dI H.size h0 1 fs hlen) (my_V ht M_X12_fails q1992 q53 q1990 (Nat.le_of_ble_eq_true rfl) (Nat.le_of_ble_eq_true rfl)) ⟨PRE.fb, va_recv hK hP (ci := 13) (q0 := 0) rfl rfl, fun U hU hW => ⟨rfl, PRE.mk' hE hS hFc hPc hKc hDc U hU hW⟩⟩ rfl rfl hl.1 rfl (lv_room (Nat.le_of_ble_eq_true rfl)) dX12_change_220 ⟨(Nat.le_of_ble_eq_true rfl), (Nat.le_of_ble_eq_true rfl)⟩) hS (fun q _ h => hFc q h) hFc (fun r95 u94 t H1 locs htt hvm hw hB hz1 hk1 hS => ?_)
      try dsimp only at hw hB
      obtain ⟨hP1, hK1, hD1⟩ := hB
      rw [htt] at hP1
      have hK1 := va_K.moved hvm.symm hK1
      obtain ⟨hP, hD⟩ := va_join (wr := []) (w1 := [(h0, .inr (13, (fs.set 74 (.int 1))))]) hP hD [0] [] rfl rfl (by decide) (by decide) hk1 hFc hP1 hD1
      have hK := (hK.sub (tys' := []) [] rfl).app hK1
      generalize H1 = H at hP hS ⊢
      have hP : va_P (dC, dI) vwCl [(h0, .inr (13, (fs.set 74 (.int 1))))] H := hP
      have hD : va_D A [(h0, .inr (13, (fs.set 74 (.int 1))))] := hD
      have hK : va_K (dC, dI) vwCl [] s := hK
      refine W.widen (k := 0) (n := 0) (Nat.le_of_ble_eq_true rfl) (Nat.le_of_ble_eq_true rfl) ?_
      have hw := hw.1 (by decide)
      subst hw
      refine lv_if_eq (tgt := 228) hx hb dX12_change_223 (by decide) (fun c96 => False.elim (by revert c96; decide)) (fun c96 => ?_)
      refine lv_iconst (v := 0) hx hb dX12_change_226 (by decide) ?_
      have hP9 := hP.sub (ws' := [(h0, .inr (13, (fs.set 74 (.int 1))))]) [0] rfl
      have hD9 := hD.sub (ws' := [(h0, .inr (13, (fs.set 74 (.int 1))))]) [0] (by decide) rfl
      have hK9 := hK.sub (tys' := []) [] rfl
      refine W.widen (k := 0) (n := 0) (Nat.le_of_ble_eq_true rfl) (Nat.le_of_ble_eq_true rfl) ?_
      exact W.iret (v := 0) hx hb hr (fun t ht9 hW9 => ⟨⟨0, 1, rfl, rfl, ⟨(fs.set 74 (.int 1)), (by rw [List.getElem?_set_self (by rw [hlen]; decide)]), POW.mk' ht9 hW9.alike hP9 hK9 hD9⟩⟩, hS.F ht9⟩) hS.2.2 dX12_change_227
    · subst hw
      refine lv_if_eq (tgt := 71) hx hb dX12_change_26 (by decide) (fun c97 => False.elim (by revert c97; decide)) (fun c97 => ?_)
      refine lv_iload hx hb dX12_change_29 (lv_at hl 5 rfl) ?_
      have hPc := hP.sub (ws' := []) [] rfl
      have hDc := hD.sub (ws' := []) [] (by decide) rfl
      have hKc := hK.sub (tys' := []) [] rfl
      have hFc := freeNil hS hA
      refine va_calli (va_runS (As := [.int a4]) (rest := []) ⟨hx, hb, hml, hown, ht⟩ (k_X12_isNumber l d0 cO dC dI H.size a4) (my_S ht M_X12_isNumber q2077 q2076 (Nat.le_of_ble_eq_true rfl) (Nat.le_of_ble_eq_true rfl)) ⟨PREp.fb, fun U hU hW => ⟨rfl, PREp.mk' hE hS hFc hPc hKc U hU hW⟩⟩ rfl rfl hl.1 rfl (lv_room (Nat.le_of_ble_eq_true rfl)) dX12_change_31 ⟨(Nat.le_of_ble_eq_true rfl), (Nat.le_of_ble_eq_true rfl)⟩) hS (fun q _ h => hFc q h) hFc (fun r99 u98 t H1 locs htt hvm hw hB hz1 hk1 hS => ?_)
      try dsimp only at hw hB
      have hP1 := hB
      have hP := keepAll hP hk1
      generalize H1 = H at hP hS ⊢
      have hP : va_P (dC, dI) vwCl [(h0, .inr (13, fs))] H := hP
      have hD : va_D A [(h0, .inr (13, fs))] := hD
      have hK : va_K (dC, dI) vwCl [] s := hK
      refine W.widen (k := 0) (n := 0) (Nat.le_of_ble_eq_true rfl) (Nat.le_of_ble_eq_true rfl) ?_
      rcases hw with hw | hw
      · subst hw
        refine lv_if_eq (tgt := 71) hx hb dX12_change_34 (by decide) (fun c100 => ?_) (fun c100 => False.elim (by revert c100; decide))
        refine lv_iconst (v := 0) hx hb dX12_change_71 (by decide) ?_
        refine lv_istore (lv' := [(9, .int 0), (8, .int 0), (0, .ref h0), (1, .int a1), (2, .int a2), (3, .int a3), (4, .int a4), (5, .int a5), (6, .int a6), (7, .int a7)]) hx hb dX12_change_72 hl (by decide) rfl (fun ls hl => ?_)
        refine lv_iload hx hb dX12_change_74 (lv_at hl 1 rfl) ?_
        refine lv_if_eq (tgt := 98) hx hb dX12_change_76 (by decide) (fun c101 => ?_) (fun c101 => False.elim (by revert c101; decide))
        refine lv_iconst (v := 0) hx hb dX12_change_98 (by decide) ?_
        refine lv_istore (lv' := [(10, .int 0), (9, .int 0), (8, .int 0), (0, .ref h0), (1, .int a1), (2, .int a2), (3, .int a3), (4, .int a4), (5, .int a5), (6, .int a6), (7, .int a7)]) hx hb dX12_change_99 hl (by decide) rfl (fun ls hl => ?_)
        refine lv_iload hx hb dX12_change_101 (lv_at hl 0 rfl) ?_
        refine lv_if_eq (tgt := 120) hx hb dX12_change_103 (by decide) (fun c102 => ?_) (fun c102 => False.elim (by revert c102; decide))
        refine lv_iconst (v := 0) hx hb dX12_change_120 (by decide) ?_
        refine lv_istore (lv' := [(11, .int 0), (10, .int 0), (9, .int 0), (8, .int 0), (0, .ref h0), (1, .int a1), (2, .int a2), (3, .int a3), (4, .int a4), (5, .int a5), (6, .int a6), (7, .int a7)]) hx hb dX12_change_121 hl (by decide) rfl (fun ls hl => ?_)
        refine lv_iload hx hb dX12_change_123 (lv_at hl 1 rfl) ?_
        refine lv_if_eq (tgt := 143) hx hb dX12_change_125 (by decide) (fun c103 => ?_) (fun c103 => False.elim (by revert c103; decide))
        refine lv_iconst (v := 0) hx hb dX12_change_143 (by decide) ?_
        refine lv_istore (lv' := [(12, .int 0), (11, .int 0), (10, .int 0), (9, .int 0), (8, .int 0), (0, .ref h0), (1, .int a1), (2, .int a2), (3, .int a3), (4, .int a4), (5, .int a5), (6, .int a6), (7, .int a7)]) hx hb dX12_change_144 hl (by decide) rfl (fun ls hl => ?_)
        refine lv_iload hx hb dX12_change_146 (lv_at hl 2 rfl) ?_
        refine lv_if_eq (tgt := 188) hx hb dX12_change_148 (by decide) (fun c104 => ?_) (fun c104 => False.elim (by revert c104; decide))
        refine lv_iconst (v := 0) hx hb dX12_change_188 (by decide) ?_
        refine lv_istore (lv' := [(10, .int 0), (12, .int 0), (11, .int 0), (9, .int 0), (8, .int 0), (0, .ref h0), (1, .int a1), (2, .int a2), (3, .int a3), (4, .int a4), (5, .int a5), (6, .int a6), (7, .int a7)]) hx hb dX12_change_189 hl (by decide) rfl (fun ls hl => ?_)
        refine lv_aload_n hx hb dX12_change_191 rfl (lv_at hl 5 rfl) ?_
        refine lv_iload hx hb dX12_change_192 (lv_at hl 4 rfl) ?_
        refine lv_if_ne (tgt := 201) hx hb dX12_change_194 (by decide) (fun c105 => False.elim (by revert c105; decide)) (fun c105 => ?_)
        refine lv_iconst (v := 1) hx hb dX12_change_197 (by decide) ?_
        refine lv_goto (tgt := 220) hx hb dX12_change_198 (by decide) ?_
        have hPc := hP.sub (ws' := [(h0, .inr (13, fs))]) [0] rfl
        have hDc := hD.sub (ws' := [(h0, .inr (13, fs))]) [0] (by decide) rfl
        have hKc := hK.sub (tys' := []) [] rfl
        have hFc := va_free (wc := [(h0, .inr (13, fs))]) hD hS hA [0] rfl
        refine va_calli (va_runV (As := [.int 1]) (rest := []) ⟨hx, hb, hml, hown, ht⟩ (k_X12_fails l d0 cO dC dI H.size h0 1 fs hlen) (my_V ht M_X12_fails q1992 q53 q1990 (Nat.le_of_ble_eq_true rfl) (Nat.le_of_ble_eq_true rfl)) ⟨PRE.fb, va_recv hK hP (ci := 13) (q0 := 0) rfl rfl, fun U hU hW => ⟨rfl, PRE.mk' hE hS hFc hPc hKc hDc U hU hW⟩⟩ rfl rfl hl.1 rfl (lv_room (Nat.le_of_ble_eq_true rfl)) dX12_change_220 ⟨(Nat.le_of_ble_eq_true rfl), (Nat.le_of_ble_eq_true rfl)⟩) hS (fun q _ h => hFc q h) hFc (fun r107 u106 t H1 locs htt hvm hw hB hz1 hk1 hS => ?_)
        try dsimp only at hw hB
        obtain ⟨hP1, hK1, hD1⟩ := hB
        rw [htt] at hP1
        have hK1 := va_K.moved hvm.symm hK1
        obtain ⟨hP, hD⟩ := va_join (wr := []) (w1 := [(h0, .inr (13, (fs.set 74 (.int 1))))]) hP hD [0] [] rfl rfl (by decide) (by decide) hk1 hFc hP1 hD1
        have hK := (hK.sub (tys' := []) [] rfl).app hK1
        generalize H1 = H at hP hS ⊢
        have hP : va_P (dC, dI) vwCl [(h0, .inr (13, (fs.set 74 (.int 1))))] H := hP
        have hD : va_D A [(h0, .inr (13, (fs.set 74 (.int 1))))] := hD
        have hK : va_K (dC, dI) vwCl [] s := hK
        refine W.widen (k := 0) (n := 0) (Nat.le_of_ble_eq_true rfl) (Nat.le_of_ble_eq_true rfl) ?_
        have hw := hw.1 (by decide)
        subst hw
        refine lv_if_eq (tgt := 228) hx hb dX12_change_223 (by decide) (fun c108 => False.elim (by revert c108; decide)) (fun c108 => ?_)
        refine lv_iconst (v := 0) hx hb dX12_change_226 (by decide) ?_
        have hP9 := hP.sub (ws' := [(h0, .inr (13, (fs.set 74 (.int 1))))]) [0] rfl
        have hD9 := hD.sub (ws' := [(h0, .inr (13, (fs.set 74 (.int 1))))]) [0] (by decide) rfl
        have hK9 := hK.sub (tys' := []) [] rfl
        refine W.widen (k := 0) (n := 0) (Nat.le_of_ble_eq_true rfl) (Nat.le_of_ble_eq_true rfl) ?_
        exact W.iret (v := 0) hx hb hr (fun t ht9 hW9 => ⟨⟨0, 1, rfl, rfl, ⟨(fs.set 74 (.int 1)), (by rw [List.getElem?_set_self (by rw [hlen]; decide)]), POW.mk' ht9 hW9.alike hP9 hK9 hD9⟩⟩, hS.F ht9⟩) hS.2.2 dX12_change_227
      · subst hw
        refine lv_if_eq (tgt := 71) hx hb dX12_change_34 (by decide) (fun c109 => False.elim (by revert c109; decide)) (fun c109 => ?_)
        refine lv_iload hx hb dX12_change_37 (lv_at hl 6 rfl) ?_
        have hPc := hP.sub (ws' := []) [] rfl
        have hDc := hD.sub (ws' := []) [] (by decide) rfl
        have hKc := hK.sub (tys' := []) [] rfl
        have hFc := freeNil hS hA
        refine va_calli (va_runS (As := [.int a5]) (rest := []) ⟨hx, hb, hml, hown, ht⟩ (k_X12_isNumber l d0 cO dC dI H.size a5) (my_S ht M_X12_isNumber q2077 q2076 (Nat.le_of_ble_eq_true rfl) (Nat.le_of_ble_eq_true rfl)) ⟨PREp.fb, fun U hU hW => ⟨rfl, PREp.mk' hE hS hFc hPc hKc U hU hW⟩⟩ rfl rfl hl.1 rfl (lv_room (Nat.le_of_ble_eq_true rfl)) dX12_change_39 ⟨(Nat.le_of_ble_eq_true rfl), (Nat.le_of_ble_eq_true rfl)⟩) hS (fun q _ h => hFc q h) hFc (fun r111 u110 t H1 locs htt hvm hw hB hz1 hk1 hS => ?_)
        try dsimp only at hw hB
        have hP1 := hB
        have hP := keepAll hP hk1
        generalize H1 = H at hP hS ⊢
        have hP : va_P (dC, dI) vwCl [(h0, .inr (13, fs))] H := hP
        have hD : va_D A [(h0, .inr (13, fs))] := hD
        have hK : va_K (dC, dI) vwCl [] s := hK
        refine W.widen (k := 0) (n := 0) (Nat.le_of_ble_eq_true rfl) (Nat.le_of_ble_eq_true rfl) ?_
        rcases hw with hw | hw
        · subst hw
          refine lv_if_eq (tgt := 71) hx hb dX12_change_42 (by decide) (fun c112 => ?_) (fun c112 => False.elim (by revert c112; decide))
          refine lv_iconst (v := 0) hx hb dX12_change_71 (by decide) ?_
          refine lv_istore (lv' := [(9, .int 0), (8, .int 0), (0, .ref h0), (1, .int a1), (2, .int a2), (3, .int a3), (4, .int a4), (5, .int a5), (6, .int a6), (7, .int a7)]) hx hb dX12_change_72 hl (by decide) rfl (fun ls hl => ?_)
          refine lv_iload hx hb dX12_change_74 (lv_at hl 1 rfl) ?_
          refine lv_if_eq (tgt := 98) hx hb dX12_change_76 (by decide) (fun c113 => ?_) (fun c113 => False.elim (by revert c113; decide))
          refine lv_iconst (v := 0) hx hb dX12_change_98 (by decide) ?_
          refine lv_istore (lv' := [(10, .int 0), (9, .int 0), (8, .int 0), (0, .ref h0), (1, .int a1), (2, .int a2), (3, .int a3), (4, .int a4), (5, .int a5), (6, .int a6), (7, .int a7)]) hx hb dX12_change_99 hl (by decide) rfl (fun ls hl => ?_)
          refine lv_iload hx hb dX12_change_101 (lv_at hl 0 rfl) ?_
          refine lv_if_eq (tgt := 120) hx hb dX12_change_103 (by decide) (fun c114 => ?_) (fun c114 => False.elim (by revert c114; decide))
          refine lv_iconst (v := 0) hx hb dX12_change_120 (by decide) ?_
          refine lv_istore (lv' := [(11, .int 0), (10, .int 0), (9, .int 0), (8, .int 0), (0, .ref h0), (1, .int a1), (2, .int a2), (3, .int a3), (4, .int a4), (5, .int a5), (6, .int a6), (7, .int a7)]) hx hb dX12_change_121 hl (by decide) rfl (fun ls hl => ?_)
          refine lv_iload hx hb dX12_change_123 (lv_at hl 1 rfl) ?_
          refine lv_if_eq (tgt := 143) hx hb dX12_change_125 (by decide) (fun c115 => ?_) (fun c115 => False.elim (by revert c115; decide))
          refine lv_iconst (v := 0) hx hb dX12_change_143 (by decide) ?_
          refine lv_istore (lv' := [(12, .int 0), (11, .int 0), (10, .int 0), (9, .int 0), (8, .int 0), (0, .ref h0), (1, .int a1), (2, .int a2), (3, .int a3), (4, .int a4), (5, .int a5), (6, .int a6), (7, .int a7)]) hx hb dX12_change_144 hl (by decide) rfl (fun ls hl => ?_)
          refine lv_iload hx hb dX12_change_146 (lv_at hl 2 rfl) ?_
          refine lv_if_eq (tgt := 188) hx hb dX12_change_148 (by decide) (fun c116 => ?_) (fun c116 => False.elim (by revert c116; decide))
          refine lv_iconst (v := 0) hx hb dX12_change_188 (by decide) ?_
          refine lv_istore (lv' := [(10, .int 0), (12, .int 0), (11, .int 0), (9, .int 0), (8, .int 0), (0, .ref h0), (1, .int a1), (2, .int a2), (3, .int a3), (4, .int a4), (5, .int a5), (6, .int a6), (7, .int a7)]) hx hb dX12_change_189 hl (by decide) rfl (fun ls hl => ?_)
          refine lv_aload_n hx hb dX12_change_191 rfl (lv_at hl 5 rfl) ?_
          refine lv_iload hx hb dX12_change_192 (lv_at hl 4 rfl) ?_
          refine lv_if_ne (tgt := 201) hx hb dX12_change_194 (by decide) (fun c117 => False.elim (by revert c117; decide)) (fun c117 => ?_)
          refine lv_iconst (v := 1) hx hb dX12_change_197 (by decide) ?_
          refine lv_goto (tgt := 220) hx hb dX12_change_198 (by decide) ?_
          have hPc := hP.sub (ws' := [(h0, .inr (13, fs))]) [0] rfl
          have hDc := hD.sub (ws' := [(h0, .inr (13, fs))]) [0] (by decide) rfl
          have hKc := hK.sub (tys' := []) [] rfl
          have hFc := va_free (wc := [(h0, .inr (13, fs))]) hD hS hA [0] rfl
          refine va_calli (va_runV (As := [.int 1]) (rest := []) ⟨hx, hb, hml, hown, ht⟩ (k_X12_fails l d0 cO dC dI H.size h0 1 fs hlen) (my_V ht M_X12_fails q1992 q53 q1990 (Nat.le_of_ble_eq_true rfl) (Nat.le_of_ble_eq_true rfl)) ⟨PRE.fb, va_recv hK hP (ci := 13) (q0 := 0) rfl rfl, fun U hU hW => ⟨rfl, PRE.mk' hE hS hFc hPc hKc hDc U hU hW⟩⟩ rfl rfl hl.1 rfl (lv_room (Nat.le_of_ble_eq_true rfl)) dX12_change_220 ⟨(Nat.le_of_ble_eq_true rfl), (Nat.le_of_ble_eq_true rfl)⟩) hS (fun q _ h => hFc q h) hFc (fun r119 u118 t H1 locs htt hvm hw hB hz1 hk1 hS => ?_)
          try dsimp only at hw hB
          obtain ⟨hP1, hK1, hD1⟩ := hB
          rw [htt] at hP1
          have hK1 := va_K.moved hvm.symm hK1
          obtain ⟨hP, hD⟩ := va_join (wr := []) (w1 := [(h0, .inr (13, (fs.set 74 (.int 1))))]) hP hD [0] [] rfl rfl (by decide) (by decide) hk1 hFc hP1 hD1
          have hK := (hK.sub (tys' := []) [] rfl).app hK1
          generalize H1 = H at hP hS ⊢
          have hP : va_P (dC, dI) vwCl [(h0, .inr (13, (fs.set 74 (.int 1))))] H := hP
          have hD : va_D A [(h0, .inr (13, (fs.set 74 (.int 1))))] := hD
          have hK : va_K (dC, dI) vwCl [] s := hK
          refine W.widen (k := 0) (n := 0) (Nat.le_of_ble_eq_true rfl) (Nat.le_of_ble_eq_true rfl) ?_
          have hw := hw.1 (by decide)
          subst hw
          refine lv_if_eq (tgt := 228) hx hb dX12_change_223 (by decide) (fun c120 => False.elim (by revert c120; decide)) (fun c120 => ?_)
          refine lv_iconst (v := 0) hx hb dX12_change_226 (by decide) ?_
          have hP9 := hP.sub (ws' := [(h0, .inr (13, (fs.set 74 (.int 1))))]) [0] rfl
          have hD9 := hD.sub (ws' := [(h0, .inr (13, (fs.set 74 (.int 1))))]) [0] (by decide) rfl
          have hK9 := hK.sub (tys' := []) [] rfl
          refine W.widen (k := 0) (n := 0) (Nat.le_of_ble_eq_true rfl) (Nat.le_of_ble_eq_true rfl) ?_
          exact W.iret (v := 0) hx hb hr (fun t ht9 hW9 => ⟨⟨0, 1, rfl, rfl, ⟨(fs.set 74 (.int 1)), (by rw [List.getElem?_set_self (by rw [hlen]; decide)]), POW.mk' ht9 hW9.alike hP9 hK9 hD9⟩⟩, hS.F ht9⟩) hS.2.2 dX12_change_227
        · subst hw
          refine lv_if_eq (tgt := 71) hx hb dX12_change_42 (by decide) (fun c121 => False.elim (by revert c121; decide)) (fun c121 => ?_)
          refine lv_iload hx hb dX12_change_45 (lv_at hl 7 rfl) ?_
          have hPc := hP.sub (ws' := []) [] rfl
          have hDc := hD.sub (ws' := []) [] (by decide) rfl
          have hKc := hK.sub (tys' := []) [] rfl
          have hFc := freeNil hS hA
          refine va_calli (va_runS (As := [.int a6]) (rest := []) ⟨hx, hb, hml, hown, ht⟩ (k_X12_isNumber l d0 cO dC dI H.size a6) (my_S ht M_X12_isNumber q2077 q2076 (Nat.le_of_ble_eq_true rfl) (Nat.le_of_ble_eq_true rfl)) ⟨PREp.fb, fun U hU hW => ⟨rfl, PREp.mk' hE hS hFc hPc hKc U hU hW⟩⟩ rfl rfl hl.1 rfl (lv_room (Nat.le_of_ble_eq_true rfl)) dX12_change_47 ⟨(Nat.le_of_ble_eq_true rfl), (Nat.le_of_ble_eq_true rfl)⟩) hS (fun q _ h => hFc q h) hFc (fun r123 u122 t H1 locs htt hvm hw hB hz1 hk1 hS => ?_)
          try dsimp only at hw hB
          have hP1 := hB
          have hP := keepAll hP hk1
          generalize H1 = H at hP hS ⊢
          have hP : va_P (dC, dI) vwCl [(h0, .inr (13, fs))] H := hP
          have hD : va_D A [(h0, .inr (13, fs))] := hD
          have hK : va_K (dC, dI) vwCl [] s := hK
          refine W.widen (k := 0) (n := 0) (Nat.le_of_ble_eq_true rfl) (Nat.le_of_ble_eq_true rfl) ?_
          rcases hw with hw | hw
          · subst hw
            refine lv_if_eq (tgt := 71) hx hb dX12_change_50 (by decide) (fun c124 => ?_) (fun c124 => False.elim (by revert c124; decide))
            refine lv_iconst (v := 0) hx hb dX12_change_71 (by decide) ?_
            refine lv_istore (lv' := [(9, .int 0), (8, .int 0), (0, .ref h0), (1, .int a1), (2, .int a2), (3, .int a3), (4, .int a4), (5, .int a5), (6, .int a6), (7, .int a7)]) hx hb dX12_change_72 hl (by decide) rfl (fun ls hl => ?_)
            refine lv_iload hx hb dX12_change_74 (lv_at hl 1 rfl) ?_
            refine lv_if_eq (tgt := 98) hx hb dX12_change_76 (by decide) (fun c125 => ?_) (fun c125 => False.elim (by revert c125; decide))
            refine lv_iconst (v := 0) hx hb dX12_change_98 (by decide) ?_
            refine lv_istore (lv' := [(10, .int 0), (9, .int 0), (8, .int 0), (0, .ref h0), (1, .int a1), (2, .int a2), (3, .int a3), (4, .int a4), (5, .int a5), (6, .int a6), (7, .int a7)]) hx hb dX12_change_99 hl (by decide) rfl (fun ls hl => ?_)
            refine lv_iload hx hb dX12_change_101 (lv_at hl 0 rfl) ?_
            refine lv_if_eq (tgt := 120) hx hb dX12_change_103 (by decide) (fun c126 => ?_) (fun c126 => False.elim (by revert c126; decide))
            refine lv_iconst (v := 0) hx hb dX12_change_120 (by decide) ?_
            refine lv_istore (lv' := [(11, .int 0), (10, .int 0), (9, .int 0), (8, .int 0), (0, .ref h0), (1, .int a1), (2, .int a2), (3, .int a3), (4, .int a4), (5, .int a5), (6, .int a6), (7, .int a7)]) hx hb dX12_change_121 hl (by decide) rfl (fun ls hl => ?_)
            refine lv_iload hx hb dX12_change_123 (lv_at hl 1 rfl) ?_
            refine lv_if_eq (tgt := 143) hx hb dX12_change_125 (by decide) (fun c127 => ?_) (fun c127 => False.elim (by revert c127; decide))
            refine lv_iconst (v := 0) hx hb dX12_change_143 (by decide) ?_
            refine lv_istore (lv' := [(12, .int 0), (11, .int 0), (10, .int 0), (9, .int 0), (8, .int 0), (0, .ref h0), (1, .int a1), (2, .int a2), (3, .int a3), (4, .int a4), (5, .int a5), (6, .int a6), (7, .int a7)]) hx hb dX12_change_144 hl (by decide) rfl (fun ls hl => ?_)
            refine lv_iload hx hb dX12_change_146 (lv_at hl 2 rfl) ?_
            refine lv_if_eq (tgt := 188) hx hb dX12_change_148 (by decide) (fun c128 => ?_) (fun c128 => False.elim (by revert c128; decide))
            refine lv_iconst (v := 0) hx hb dX12_change_188 (by decide) ?_
            refine lv_istore (lv' := [(10, .int 0), (12, .int 0), (11, .int 0), (9, .int 0), (8, .int 0), (0, .ref h0), (1, .int a1), (2, .int a2), (3, .int a3), (4, .int a4), (5, .int a5), (6, .int a6), (7, .int a7)]) hx hb dX12_change_189 hl (by decide) rfl (fun ls hl => ?_)
            refine lv_aload_n hx hb dX12_change_191 rfl (lv_at hl 5 rfl) ?_
            refine lv_iload hx hb dX12_change_192 (lv_at hl 4 rfl) ?_
            refine lv_if_ne (tgt := 201) hx hb dX12_change_194 (by decide) (fun c129 => False.elim (by revert c129; decide)) (fun c129 => ?_)
            refine lv_iconst (v := 1) hx hb dX12_change_197 (by decide) ?_
            refine lv_goto (tgt := 220) hx hb dX12_change_198 (by decide) ?_
            have hPc := hP.sub (ws' := [(h0, .inr (13, fs))]) [0] rfl
            have hDc := hD.sub (ws' := [(h0, .inr (13, fs))]) [0] (by decide) rfl
            have hKc := hK.sub (tys' := []) [] rfl
            have hFc := va_free (wc := [(h0, .inr (13, fs))]) hD hS hA [0] rfl
            refine va_calli (va_runV (As := [.int 1]) (rest := []) ⟨hx, hb, hml, hown, ht⟩ (k_X12_fails l d0 cO dC dI H.size h0 1 fs hlen) (my_V ht M_X12_fails q1992 q53 q1990 (Nat.le_of_ble_eq_true rfl) (Nat.le_of_ble_eq_true rfl)) ⟨PRE.fb, va_recv hK hP (ci := 13) (q0 := 0) rfl rfl, fun U hU hW => ⟨rfl, PRE.mk' hE hS hFc hPc hKc hDc U hU hW⟩⟩ rfl rfl hl.1 rfl (lv_room (Nat.le_of_ble_eq_true rfl)) dX12_change_220 ⟨(Nat.le_of_ble_eq_true rfl), (Nat.le_of_ble_eq_true rfl)⟩) hS (fun q _ h => hFc q h) hFc (fun r131 u130 t H1 locs htt hvm hw hB hz1 hk1 hS => ?_)
            try dsimp only at hw hB
            obtain ⟨hP1, hK1, hD1⟩ := hB
            rw [htt] at hP1
            have hK1 := va_K.moved hvm.symm hK1
            obtain ⟨hP, hD⟩ := va_join (wr := []) (w1 := [(h0, .inr (13, (fs.set 74 (.int 1))))]) hP hD [0] [] rfl rfl (by decide) (by decide) hk1 hFc hP1 hD1
            have hK := (hK.sub (tys' := []) [] rfl).app hK1
            generalize H1 = H at hP hS ⊢
            have hP : va_P (dC, dI) vwCl [(h0, .inr (13, (fs.set 74 (.int 1))))] H := hP
            have hD : va_D A [(h0, .inr (13, (fs.set 74 (.int 1))))] := hD
            have hK : va_K (dC, dI) vwCl [] s := hK
            refine W.widen (k := 0) (n := 0) (Nat.le_of_ble_eq_true rfl) (Nat.le_of_ble_eq_true rfl) ?_
            have hw := hw.1 (by decide)
            subst hw
            refine lv_if_eq (tgt := 228) hx hb dX12_change_223 (by decide) (fun c132 => False.elim (by revert c132; decide)) (fun c132 => ?_)
            refine lv_iconst (v := 0) hx hb dX12_change_226 (by decide) ?_
            have hP9 := hP.sub (ws' := [(h0, .inr (13, (fs.set 74 (.int 1))))]) [0] rfl
            have hD9 := hD.sub (ws' := [(h0, .inr (13, (fs.set 74 (.int 1))))]) [0] (by decide) rfl
            have hK9 := hK.sub (tys' := []) [] rfl
            refine W.widen (k := 0) (n := 0) (Nat.le_of_ble_eq_true rfl) (Nat.le_of_ble_eq_true rfl) ?_
            exact W.iret (v := 0) hx hb hr (fun t ht9 hW9 => ⟨⟨0, 1, rfl, rfl, ⟨(fs.set 74 (.int 1)), (by rw [List.getElem?_set_self (by rw [hlen]; decide)]), POW.mk' ht9 hW9.alike hP9 hK9 hD9⟩⟩, hS.F ht9⟩) hS.2.2 dX12_change_227
          · subst hw
            refine lv_if_eq (tgt := 71) hx hb dX12_change_50 (by decide) (fun c133 => False.elim (by revert c133; decide)) (fun c133 => ?_)
            refine lv_iload hx hb dX12_change_53 (lv_at hl 8 rfl) ?_
            refine lv_iconst (v := -1) hx hb dX12_change_55 (by decide) ?_
            refine lv_icmp_eq (tgt := 67) hx hb dX12_change_56 (by decide) (fun c134 => ?_) (fun c134 => ?_)
            · skip
              refine lv_iconst (v := 1) hx hb dX12_change_67 (by decide) ?_
              refine lv_goto (tgt := 72) hx hb dX12_change_68 (by decide) ?_
              refine lv_istore (lv' := [(9, .int 1), (8, .int 0), (0, .ref h0), (1, .int a1), (2, .int a2), (3, .int a3), (4, .int a4), (5, .int a5), (6, .int a6), (7, .int a7)]) hx hb dX12_change_72 hl (by decide) rfl (fun ls hl => ?_)
              refine lv_iload hx hb dX12_change_74 (lv_at hl 1 rfl) ?_
              refine lv_if_eq (tgt := 98) hx hb dX12_change_76 (by decide) (fun c135 => ?_) (fun c135 => False.elim (by revert c135; decide))
              refine lv_iconst (v := 0) hx hb dX12_change_98 (by decide) ?_
              refine lv_istore (lv' := [(10, .int 0), (9, .int 1), (8, .int 0), (0, .ref h0), (1, .int a1), (2, .int a2), (3, .int a3), (4, .int a4), (5, .int a5), (6, .int a6), (7, .int a7)]) hx hb dX12_change_99 hl (by decide) rfl (fun ls hl => ?_)
              refine lv_iload hx hb dX12_change_101 (lv_at hl 0 rfl) ?_
              refine lv_if_eq (tgt := 120) hx hb dX12_change_103 (by decide) (fun c136 => ?_) (fun c136 => False.elim (by revert c136; decide))
              refine lv_iconst (v := 0) hx hb dX12_change_120 (by decide) ?_
              refine lv_istore (lv' := [(11, .int 0), (10, .int 0), (9, .int 1), (8, .int 0), (0, .ref h0), (1, .int a1), (2, .int a2), (3, .int a3), (4, .int a4), (5, .int a5), (6, .int a6), (7, .int a7)]) hx hb dX12_change_121 hl (by decide) rfl (fun ls hl => ?_)
              refine lv_iload hx hb dX12_change_123 (lv_at hl 1 rfl) ?_
              refine lv_if_eq (tgt := 143) hx hb dX12_change_125 (by decide) (fun c137 => ?_) (fun c137 => False.elim (by revert c137; decide))
              refine lv_iconst (v := 0) hx hb dX12_change_143 (by decide) ?_
              refine lv_istore (lv' := [(12, .int 0), (11, .int 0), (10, .int 0), (9, .int 1), (8, .int 0), (0, .ref h0), (1, .int a1), (2, .int a2), (3, .int a3), (4, .int a4), (5, .int a5), (6, .int a6), (7, .int a7)]) hx hb dX12_change_144 hl (by decide) rfl (fun ls hl => ?_)
              refine lv_iload hx hb dX12_change_146 (lv_at hl 2 rfl) ?_
              refine lv_if_eq (tgt := 188) hx hb dX12_change_148 (by decide) (fun c138 => ?_) (fun c138 => False.elim (by revert c138; decide))
              refine lv_iconst (v := 0) hx hb dX12_change_188 (by decide) ?_
              refine lv_istore (lv' := [(10, .int 0), (12, .int 0), (11, .int 0), (9, .int 1), (8, .int 0), (0, .ref h0), (1, .int a1), (2, .int a2), (3, .int a3), (4, .int a4), (5, .int a5), (6, .int a6), (7, .int a7)]) hx hb dX12_change_189 hl (by decide) rfl (fun ls hl => ?_)
              refine lv_aload_n hx hb dX12_change_191 rfl (lv_at hl 5 rfl) ?_
              refine lv_iload hx hb dX12_change_192 (lv_at hl 4 rfl) ?_
              refine lv_if_ne (tgt := 201) hx hb dX12_change_194 (by decide) (fun c139 => False.elim (by revert c139; decide)) (fun c139 => ?_)
              refine lv_iconst (v := 1) hx hb dX12_change_197 (by decide) ?_
              refine lv_goto (tgt := 220) hx hb dX12_change_198 (by decide) ?_
              have hPc := hP.sub (ws' := [(h0, .inr (13, fs))]) [0] rfl
              have hDc := hD.sub (ws' := [(h0, .inr (13, fs))]) [0] (by decide) rfl
              have hKc := hK.sub (tys' := []) [] rfl
              have hFc := va_free (wc := [(h0, .inr (13, fs))]) hD hS hA [0] rfl
              refine va_calli (va_runV (As := [.int 1]) (rest := []) ⟨hx, hb, hml, hown, ht⟩ (k_X12_fails l d0 cO dC dI H.size h0 1 fs hlen) (my_V ht M_X12_fails q1992 q53 q1990 (Nat.le_of_ble_eq_true rfl) (Nat.le_of_ble_eq_true rfl)) ⟨PRE.fb, va_recv hK hP (ci := 13) (q0 := 0) rfl rfl, fun U hU hW => ⟨rfl, PRE.mk' hE hS hFc hPc hKc hDc U hU hW⟩⟩ rfl rfl hl.1 rfl (lv_room (Nat.le_of_ble_eq_true rfl)) dX12_change_220 ⟨(Nat.le_of_ble_eq_true rfl), (Nat.le_of_ble_eq_true rfl)⟩) hS (fun q _ h => hFc q h) hFc (fun r141 u140 t H1 locs htt hvm hw hB hz1 hk1 hS => ?_)
              try dsimp only at hw hB
              obtain ⟨hP1, hK1, hD1⟩ := hB
              rw [htt] at hP1
              have hK1 := va_K.moved hvm.symm hK1
              obtain ⟨hP, hD⟩ := va_join (wr := []) (w1 := [(h0, .inr (13, (fs.set 74 (.int 1))))]) hP hD [0] [] rfl rfl (by decide) (by decide) hk1 hFc hP1 hD1
              have hK := (hK.sub (tys' := []) [] rfl).app hK1
              generalize H1 = H at hP hS ⊢
              have hP : va_P (dC, dI) vwCl [(h0, .inr (13, (fs.set 74 (.int 1))))] H := hP
              have hD : va_D A [(h0, .inr (13, (fs.set 74 (.int 1))))] := hD
              have hK : va_K (dC, dI) vwCl [] s := hK
              refine W.widen (k := 0) (n := 0) (Nat.le_of_ble_eq_true rfl) (Nat.le_of_ble_eq_true rfl) ?_
              have hw := hw.1 (by decide)
              subst hw
              refine lv_if_eq (tgt := 228) hx hb dX12_change_223 (by decide) (fun c142 => False.elim (by revert c142; decide)) (fun c142 => ?_)
              refine lv_iconst (v := 0) hx hb dX12_change_226 (by decide) ?_
              have hP9 := hP.sub (ws' := [(h0, .inr (13, (fs.set 74 (.int 1))))]) [0] rfl
              have hD9 := hD.sub (ws' := [(h0, .inr (13, (fs.set 74 (.int 1))))]) [0] (by decide) rfl
              have hK9 := hK.sub (tys' := []) [] rfl
              refine W.widen (k := 0) (n := 0) (Nat.le_of_ble_eq_true rfl) (Nat.le_of_ble_eq_true rfl) ?_
              exact W.iret (v := 0) hx hb hr (fun t ht9 hW9 => ⟨⟨0, 1, rfl, rfl, ⟨(fs.set 74 (.int 1)), (by rw [List.getElem?_set_self (by rw [hlen]; decide)]), POW.mk' ht9 hW9.alike hP9 hK9 hD9⟩⟩, hS.F ht9⟩) hS.2.2 dX12_change_227
            · skip
              refine lv_iload hx hb dX12_change_59 (lv_at hl 8 rfl) ?_
              have hPc := hP.sub (ws' := []) [] rfl
              have hDc := hD.sub (ws' := []) [] (by decide) rfl
              have hKc := hK.sub (tys' := []) [] rfl
              have hFc := freeNil hS hA
              refine va_calli (va_runS (As := [.int a7]) (rest := []) ⟨hx, hb, hml, hown, ht⟩ (k_X12_isCode l d0 cO dC dI H.size a7) (my_S ht M_X12_isCode q2007 q2006 (Nat.le_of_ble_eq_true rfl) (Nat.le_of_ble_eq_true rfl)) ⟨PREp.fb, fun U hU hW => ⟨rfl, PREp.mk' hE hS hFc hPc hKc U hU hW⟩⟩ rfl rfl hl.1 rfl (lv_room (Nat.le_of_ble_eq_true rfl)) dX12_change_61 ⟨(Nat.le_of_ble_eq_true rfl), (Nat.le_of_ble_eq_true rfl)⟩) hS (fun q _ h => hFc q h) hFc (fun r144 u143 t H1 locs htt hvm hw hB hz1 hk1 hS => ?_)
              try dsimp only at hw hB
              have hP1 := hB
              have hP := keepAll hP hk1
              generalize H1 = H at hP hS ⊢
              have hP : va_P (dC, dI) vwCl [(h0, .inr (13, fs))] H := hP
              have hD : va_D A [(h0, .inr (13, fs))] := hD
              have hK : va_K (dC, dI) vwCl [] s := hK
              refine W.widen (k := 0) (n := 0) (Nat.le_of_ble_eq_true rfl) (Nat.le_of_ble_eq_true rfl) ?_
              rcases hw with hw | hw
              · subst hw
                refine lv_if_eq (tgt := 71) hx hb dX12_change_64 (by decide) (fun c145 => ?_) (fun c145 => False.elim (by revert c145; decide))
                refine lv_iconst (v := 0) hx hb dX12_change_71 (by decide) ?_
                refine lv_istore (lv' := [(9, .int 0), (8, .int 0), (0, .ref h0), (1, .int a1), (2, .int a2), (3, .int a3), (4, .int a4), (5, .int a5), (6, .int a6), (7, .int a7)]) hx hb dX12_change_72 hl (by decide) rfl (fun ls hl => ?_)
                refine lv_iload hx hb dX12_change_74 (lv_at hl 1 rfl) ?_
                refine lv_if_eq (tgt := 98) hx hb dX12_change_76 (by decide) (fun c146 => ?_) (fun c146 => False.elim (by revert c146; decide))
                refine lv_iconst (v := 0) hx hb dX12_change_98 (by decide) ?_
                refine lv_istore (lv' := [(10, .int 0), (9, .int 0), (8, .int 0), (0, .ref h0), (1, .int a1), (2, .int a2), (3, .int a3), (4, .int a4), (5, .int a5), (6, .int a6), (7, .int a7)]) hx hb dX12_change_99 hl (by decide) rfl (fun ls hl => ?_)
                refine lv_iload hx hb dX12_change_101 (lv_at hl 0 rfl) ?_
                refine lv_if_eq (tgt := 120) hx hb dX12_change_103 (by decide) (fun c147 => ?_) (fun c147 => False.elim (by revert c147; decide))
                refine lv_iconst (v := 0) hx hb dX12_change_120 (by decide) ?_
                refine lv_istore (lv' := [(11, .int 0), (10, .int 0), (9, .int 0), (8, .int 0), (0, .ref h0), (1, .int a1), (2, .int a2), (3, .int a3), (4, .int a4), (5, .int a5), (6, .int a6), (7, .int a7)]) hx hb dX12_change_121 hl (by decide) rfl (fun ls hl => ?_)
                refine lv_iload hx hb dX12_change_123 (lv_at hl 1 rfl) ?_
                refine lv_if_eq (tgt := 143) hx hb dX12_change_125 (by decide) (fun c148 => ?_) (fun c148 => False.elim (by revert c148; decide))
                refine lv_iconst (v := 0) hx hb dX12_change_143 (by decide) ?_
                refine lv_istore (lv' := [(12, .int 0), (11, .int 0), (10, .int 0), (9, .int 0), (8, .int 0), (0, .ref h0), (1, .int a1), (2, .int a2), (3, .int a3), (4, .int a4), (5, .int a5), (6, .int a6), (7, .int a7)]) hx hb dX12_change_144 hl (by decide) rfl (fun ls hl => ?_)
                refine lv_iload hx hb dX12_change_146 (lv_at hl 2 rfl) ?_
                refine lv_if_eq (tgt := 188) hx hb dX12_change_148 (by decide) (fun c149 => ?_) (fun c149 => False.elim (by revert c149; decide))
                refine lv_iconst (v := 0) hx hb dX12_change_188 (by decide) ?_
                refine lv_istore (lv' := [(10, .int 0), (12, .int 0), (11, .int 0), (9, .int 0), (8, .int 0), (0, .ref h0), (1, .int a1), (2, .int a2), (3, .int a3), (4, .int a4), (5, .int a5), (6, .int a6), (7, .int a7)]) hx hb dX12_change_189 hl (by decide) rfl (fun ls hl => ?_)
                refine lv_aload_n hx hb dX12_change_191 rfl (lv_at hl 5 rfl) ?_
                refine lv_iload hx hb dX12_change_192 (lv_at hl 4 rfl) ?_
                refine lv_if_ne (tgt := 201) hx hb dX12_change_194 (by decide) (fun c150 => False.elim (by revert c150; decide)) (fun c150 => ?_)
                refine lv_iconst (v := 1) hx hb dX12_change_197 (by decide) ?_
                refine lv_goto (tgt := 220) hx hb dX12_change_198 (by decide) ?_
                have hPc := hP.sub (ws' := [(h0, .inr (13, fs))]) [0] rfl
                have hDc := hD.sub (ws' := [(h0, .inr (13, fs))]) [0] (by decide) rfl
                have hKc := hK.sub (tys' := []) [] rfl
                have hFc := va_free (wc := [(h0, .inr (13, fs))]) hD hS hA [0] rfl
                refine va_calli (va_runV (As := [.int 1]) (rest := []) ⟨hx, hb, hml, hown, ht⟩ (k_X12_fails l d0 cO dC dI H.size h0 1 fs hlen) (my_V ht M_X12_fails q1992 q53 q1990 (Nat.le_of_ble_eq_true rfl) (Nat.le_of_ble_eq_true rfl)) ⟨PRE.fb, va_recv hK hP (ci := 13) (q0 := 0) rfl rfl, fun U hU hW => ⟨rfl, PRE.mk' hE hS hFc hPc hKc hDc U hU hW⟩⟩ rfl rfl hl.1 rfl (lv_room (Nat.le_of_ble_eq_true rfl)) dX12_change_220 ⟨(Nat.le_of_ble_eq_true rfl), (Nat.le_of_ble_eq_true rfl)⟩) hS (fun q _ h => hFc q h) hFc (fun r152 u151 t H1 locs htt hvm hw hB hz1 hk1 hS => ?_)
                try dsimp only at hw hB
                obtain ⟨hP1, hK1, hD1⟩ := hB
                rw [htt] at hP1
                have hK1 := va_K.moved hvm.symm hK1
                obtain ⟨hP, hD⟩ := va_join (wr := []) (w1 := [(h0, .inr (13, (fs.set 74 (.int 1))))]) hP hD [0] [] rfl rfl (by decide) (by decide) hk1 hFc hP1 hD1
                have hK := (hK.sub (tys' := []) [] rfl).app hK1
                generalize H1 = H at hP hS ⊢
                have hP : va_P (dC, dI) vwCl [(h0, .inr (13, (fs.set 74 (.int 1))))] H := hP
                have hD : va_D A [(h0, .inr (13, (fs.set 74 (.int 1))))] := hD
                have hK : va_K (dC, dI) vwCl [] s := hK
                refine W.widen (k := 0) (n := 0) (Nat.le_of_ble_eq_true rfl) (Nat.le_of_ble_eq_true rfl) ?_
                have hw := hw.1 (by decide)
                subst hw
                refine lv_if_eq (tgt := 228) hx hb dX12_change_223 (by decide) (fun c153 => False.elim (by revert c153; decide)) (fun c153 => ?_)
                refine lv_iconst (v := 0) hx hb dX12_change_226 (by decide) ?_
                have hP9 := hP.sub (ws' := [(h0, .inr (13, (fs.set 74 (.int 1))))]) [0] rfl
                have hD9 := hD.sub (ws' := [(h0, .inr (13, (fs.set 74 (.int 1))))]) [0] (by decide) rfl
                have hK9 := hK.sub (tys' := []) [] rfl
                refine W.widen (k := 0) (n := 0) (Nat.le_of_ble_eq_true rfl) (Nat.le_of_ble_eq_true rfl) ?_
                exact W.iret (v := 0) hx hb hr (fun t ht9 hW9 => ⟨⟨0, 1, rfl, rfl, ⟨(fs.set 74 (.int 1)), (by rw [List.getElem?_set_self (by rw [hlen]; decide)]), POW.mk' ht9 hW9.alike hP9 hK9 hD9⟩⟩, hS.F ht9⟩) hS.2.2 dX12_change_227
              · subst hw
                refine lv_if_eq (tgt := 71) hx hb dX12_change_64 (by decide) (fun c154 => False.elim (by revert c154; decide)) (fun c154 => ?_)
                refine lv_iconst (v := 1) hx hb dX12_change_67 (by decide) ?_
                refine lv_goto (tgt := 72) hx hb dX12_change_68 (by decide) ?_
                refine lv_istore (lv' := [(9, .int 1), (8, .int 0), (0, .ref h0), (1, .int a1), (2, .int a2), (3, .int a3), (4, .int a4), (5, .int a5), (6, .int a6), (7, .int a7)]) hx hb dX12_change_72 hl (by decide) rfl (fun ls hl => ?_)
                refine lv_iload hx hb dX12_change_74 (lv_at hl 1 rfl) ?_
                refine lv_if_eq (tgt := 98) hx hb dX12_change_76 (by decide) (fun c155 => ?_) (fun c155 => False.elim (by revert c155; decide))
                refine lv_iconst (v := 0) hx hb dX12_change_98 (by decide) ?_
                refine lv_istore (lv' := [(10, .int 0), (9, .int 1), (8, .int 0), (0, .ref h0), (1, .int a1), (2, .int a2), (3, .int a3), (4, .int a4), (5, .int a5), (6, .int a6), (7, .int a7)]) hx hb dX12_change_99 hl (by decide) rfl (fun ls hl => ?_)
                refine lv_iload hx hb dX12_change_101 (lv_at hl 0 rfl) ?_
                refine lv_if_eq (tgt := 120) hx hb dX12_change_103 (by decide) (fun c156 => ?_) (fun c156 => False.elim (by revert c156; decide))
                refine lv_iconst (v := 0) hx hb dX12_change_120 (by decide) ?_
                refine lv_istore (lv' := [(11, .int 0), (10, .int 0), (9, .int 1), (8, .int 0), (0, .ref h0), (1, .int a1), (2, .int a2), (3, .int a3), (4, .int a4), (5, .int a5), (6, .int a6), (7, .int a7)]) hx hb dX12_change_121 hl (by decide) rfl (fun ls hl => ?_)
                refine lv_iload hx hb dX12_change_123 (lv_at hl 1 rfl) ?_
                refine lv_if_eq (tgt := 143) hx hb dX12_change_125 (by decide) (fun c157 => ?_) (fun c157 => False.elim (by revert c157; decide))
                refine lv_iconst (v := 0) hx hb dX12_change_143 (by decide) ?_
                refine lv_istore (lv' := [(12, .int 0), (11, .int 0), (10, .int 0), (9, .int 1), (8, .int 0), (0, .ref h0), (1, .int a1), (2, .int a2), (3, .int a3), (4, .int a4), (5, .int a5), (6, .int a6), (7, .int a7)]) hx hb dX12_change_144 hl (by decide) rfl (fun ls hl => ?_)
                refine lv_iload hx hb dX12_change_146 (lv_at hl 2 rfl) ?_
                refine lv_if_eq (tgt := 188) hx hb dX12_change_148 (by decide) (fun c158 => ?_) (fun c158 => False.elim (by revert c158; decide))
                refine lv_iconst (v := 0) hx hb dX12_change_188 (by decide) ?_
                refine lv_istore (lv' := [(10, .int 0), (12, .int 0), (11, .int 0), (9, .int 1), (8, .int 0), (0, .ref h0), (1, .int a1), (2, .int a2), (3, .int a3), (4, .int a4), (5, .int a5), (6, .int a6), (7, .int a7)]) hx hb dX12_change_189 hl (by decide) rfl (fun ls hl => ?_)
                refine lv_aload_n hx hb dX12_change_191 rfl (lv_at hl 5 rfl) ?_
                refine lv_iload hx hb dX12_change_192 (lv_at hl 4 rfl) ?_
                refine lv_if_ne (tgt := 201) hx hb dX12_change_194 (by decide) (fun c159 => False.elim (by revert c159; decide)) (fun c159 => ?_)
                refine lv_iconst (v := 1) hx hb dX12_change_197 (by decide) ?_
                refine lv_goto (tgt := 220) hx hb dX12_change_198 (by decide) ?_
                have hPc := hP.sub (ws' := [(h0, .inr (13, fs))]) [0] rfl
                have hDc := hD.sub (ws' := [(h0, .inr (13, fs))]) [0] (by decide) rfl
                have hKc := hK.sub (tys' := []) [] rfl
                have hFc := va_free (wc := [(h0, .inr (13, fs))]) hD hS hA [0] rfl
                refine va_calli (va_runV (As := [.int 1]) (rest := []) ⟨hx, hb, hml, hown, ht⟩ (k_X12_fails l d0 cO dC dI H.size h0 1 fs hlen) (my_V ht M_X12_fails q1992 q53 q1990 (Nat.le_of_ble_eq_true rfl) (Nat.le_of_ble_eq_true rfl)) ⟨PRE.fb, va_recv hK hP (ci := 13) (q0 := 0) rfl rfl, fun U hU hW => ⟨rfl, PRE.mk' hE hS hFc hPc hKc hDc U hU hW⟩⟩ rfl rfl hl.1 rfl (lv_room (Nat.le_of_ble_eq_true rfl)) dX12_change_220 ⟨(Nat.le_of_ble_eq_true rfl), (Nat.le_of_ble_eq_true rfl)⟩) hS (fun q _ h => hFc q h) hFc (fun r161 u160 t H1 locs htt hvm hw hB hz1 hk1 hS => ?_)
                try dsimp only at hw hB
                obtain ⟨hP1, hK1, hD1⟩ := hB
                rw [htt] at hP1
                have hK1 := va_K.moved hvm.symm hK1
                obtain ⟨hP, hD⟩ := va_join (wr := []) (w1 := [(h0, .inr (13, (fs.set 74 (.int 1))))]) hP hD [0] [] rfl rfl (by decide) (by decide) hk1 hFc hP1 hD1
                have hK := (hK.sub (tys' := []) [] rfl).app hK1
                generalize H1 = H at hP hS ⊢
                have hP : va_P (dC, dI) vwCl [(h0, .inr (13, (fs.set 74 (.int 1))))] H := hP
                have hD : va_D A [(h0, .inr (13, (fs.set 74 (.int 1))))] := hD
                have hK : va_K (dC, dI) vwCl [] s := hK
                refine W.widen (k := 0) (n := 0) (Nat.le_of_ble_eq_true rfl) (Nat.le_of_ble_eq_true rfl) ?_
                have hw := hw.1 (by decide)
                subst hw
                refine lv_if_eq (tgt := 228) hx hb dX12_change_223 (by decide) (fun c162 => False.elim (by revert c162; decide)) (fun c162 => ?_)
                refine lv_iconst (v := 0) hx hb dX12_change_226 (by decide) ?_
                have hP9 := hP.sub (ws' := [(h0, .inr (13, (fs.set 74 (.int 1))))]) [0] rfl
                have hD9 := hD.sub (ws' := [(h0, .inr (13, (fs.set 74 (.int 1))))]) [0] (by decide) rfl
                have hK9 := hK.sub (tys' := []) [] rfl
                refine W.widen (k := 0) (n := 0) (Nat.le_of_ble_eq_true rfl) (Nat.le_of_ble_eq_true rfl) ?_
                exact W.iret (v := 0) hx hb hr (fun t ht9 hW9 => ⟨⟨0, 1, rfl, rfl, ⟨(fs.set 74 (.int 1)), (by rw [List.getElem?_set_self (by rw [hlen]; decide)]), POW.mk' ht9 hW9.alike hP9 hK9 hD9⟩⟩, hS.F ht9⟩) hS.2.2 dX12_change_227
set_option maxHeartbeats 4000000 in
set_option maxRecDepth 100000 in
theorem k_X12_request (l : Launch) (d0 : Nat) (cO : ClassId) (dC : Nat → ClassId) (dI : Nat → Nat → Nat) (sz : Nat) (h0 : Nat) (a1 a2 a3 a4 a5 a6 : Int32) (fs : List Value) (hlen : fs.length = 75) (hf_files : fs[2]? = some (.int 0)) : Met l yX12_request (cn yX12_request cX12_request 11 (some FieldType.int)) (rmd 5 0 0) (va_Pc [.ref h0, .int a1, .int a2, .int a3, .int a4, .int a5, .int a6] (PRE d0 cO (dC, dI) (va_A [(h0, .inr (13, fs))] sz) [(h0, .inr (13, fs))] [] sz)) (va_Qi (fun (r : Int32) (u : Int32) => u = 1) (fun (u : Int32) (t : State) => ∃ fs2 : List Value, (fs2[74]? = some (.int u)) ∧ POW (dC, dI) (va_A [(h0, .inr (13, fs))] sz) [(h0, .inr (13, fs2))] [] t) (va_A [(h0, .inr (13, fs))] sz)) 0 0 (va_A [(h0, .inr (13, fs))] sz) := by
  refine Met.ofW (cc := cX12_request) (maxL := 11) (ret := (some FieldType.int)) (by decide) rfl ?_
  intro p e s m args below meth c s₁ B hml hv
  obtain ⟨rfl, hsz, hE, hP, hK, hD0⟩ := hv
  have hx := B.exec
  have hb := B.bytes
  have hr := B.returns
  have hts := atoms_spec (ws := cn yX12_request cX12_request 11 (some FieldType.int)) B.pre
  have ht : ∀ w ∈ GT, w.before _ s = true := fun w h => hts w (List.mem_cons_of_mem _ h)
  have hown : s.vm.findClass RX12 = some m.cls := findClass_of_methodNamed B.named
  have hlocks := B.notSynchronized
  subst hsz
  have hD := hD0.self (sz := s.heap.size)
  generalize hAe : va_A [(h0, .inr (13, fs))] s.heap.size = A at hD hE ⊢
  have hA : ∀ q : Nat, s.heap.size ≤ q → A q := fun q h => by rw [← hAe]; exact Or.inr h
  obtain ⟨H, hH0⟩ : ∃ H, s.heap = H := ⟨_, rfl⟩
  have hS : va_S A s.heap H [] := by rw [← hH0]; exact va_S.rf
  rw [hH0] at hP
  have hl := lv_entry ([.ref h0, .int a1, .int a2, .int a3, .int a4, .int a5, .int a6]) (n := 11) (Nat.le_of_ble_eq_true rfl)
  rw [lg_entry_eq]
  generalize (lg_sl ([.ref h0, .int a1, .int a2, .int a3, .int a4, .int a5, .int a6]) ++ List.replicate (11 - (lg_sl ([.ref h0, .int a1, .int a2, .int a3, .int a4, .int a5, .int a6])).length) Slot.unset).toArray = ls at hl ⊢
  have hl : lv_has ls 11 [(0, .ref h0), (1, .int a1), (2, .int a2), (3, .int a3), (4, .int a4), (5, .int a5), (6, .int a6)] := hl
  rw [hH0]
  refine lv_iload_n hx hb dX12_request_0 rfl (lv_at hl 1 rfl) ?_
  have hPc := hP.sub (ws' := []) [] rfl
  have hDc := hD.sub (ws' := []) [] (by decide) rfl
  have hKc := hK.sub (tys' := []) [] rfl
  have hFc := freeNil hS hA
  refine va_calli (va_runS (As := [.int a1]) (rest := []) ⟨hx, hb, hml, hown, ht⟩ (k_X12_isEditor l d0 cO dC dI H.size a1) (my_S ht M_X12_isEditor q2039 q2038 (Nat.le_of_ble_eq_true rfl) (Nat.le_of_ble_eq_true rfl)) ⟨PREp.fb, fun U hU hW => ⟨rfl, PREp.mk' hE hS hFc hPc hKc U hU hW⟩⟩ rfl rfl hl.1 rfl (lv_room (Nat.le_of_ble_eq_true rfl)) dX12_request_1 ⟨(Nat.le_of_ble_eq_true rfl), (Nat.le_of_ble_eq_true rfl)⟩) hS (fun q _ h => hFc q h) hFc (fun r2 u1 t H1 locs htt hvm hw hB hz1 hk1 hS => ?_)
  try dsimp only at hw hB
  have hP1 := hB
  have hP := keepAll hP hk1
  generalize H1 = H at hP hS ⊢
  have hP : va_P (dC, dI) vwCl [(h0, .inr (13, fs))] H := hP
  have hD : va_D A [(h0, .inr (13, fs))] := hD
  have hK : va_K (dC, dI) vwCl [] s := hK
  refine W.widen (k := 0) (n := 0) (Nat.le_of_ble_eq_true rfl) (Nat.le_of_ble_eq_true rfl) ?_
  by_cases hI3 : 0 ≤ a1 ∧ a1 ≤ 1
  · have hw := hw.1 hI3
    subst hw
    refine lv_if_eq (tgt := 19) hx hb dX12_request_4 (by decide) (fun c4 => False.elim (by revert c4; decide)) (fun c4 => ?_)
    refine lv_aload_n hx hb dX12_request_7 rfl (lv_at hl 0 rfl) ?_
    refine lv_iload_n hx hb dX12_request_8 rfl (lv_at hl 3 rfl) ?_
    have hPc := hP.sub (ws' := [(h0, .inr (13, fs))]) [0] rfl
    have hDc := hD.sub (ws' := [(h0, .inr (13, fs))]) [0] (by decide) rfl
    have hKc := hK.sub (tys' := []) [] rfl
    have hFc := freeNil hS hA
    refine va_calli (va_runV (As := [.int a3]) (rest := []) ⟨hx, hb, hml, hown, ht⟩ (k_X12_isFile l d0 cO dC dI H.size h0 a3 fs hlen hf_files) (my_V ht M_X12_isFile q2004 q55 q2002 (Nat.le_of_ble_eq_true rfl) (Nat.le_of_ble_eq_true rfl)) ⟨PREp.fb, va_recv hK hP (ci := 13) (q0 := 0) rfl rfl, fun U hU hW => ⟨rfl, PREp.mk' hE hS hFc hPc hKc U hU hW⟩⟩ rfl rfl hl.1 rfl (lv_room (Nat.le_of_ble_eq_true rfl)) dX12_request_9 ⟨(Nat.le_of_ble_eq_true rfl), (Nat.le_of_ble_eq_true rfl)⟩) hS (fun q _ h => hFc q h) hFc (fun r6 u5 t H1 locs htt hvm hw hB hz1 hk1 hS => ?_)
    try dsimp only at hw hB
    have hP1 := hB
    have hP := keepAll hP hk1
    generalize H1 = H at hP hS ⊢
    have hP : va_P (dC, dI) vwCl [(h0, .inr (13, fs))] H := hP
    have hD : va_D A [(h0, .inr (13, fs))] := hD
    have hK : va_K (dC, dI) vwCl [] s := hK
    refine W.widen (k := 0) (n := 0) (Nat.le_of_ble_eq_true rfl) (Nat.le_of_ble_eq_true rfl) ?_
    subst hw
    refine lv_if_eq (tgt := 19) hx hb dX12_request_12 (by decide) (fun c7 => ?_) (fun c7 => False.elim (by revert c7; decide))
    refine lv_iconst (v := 0) hx hb dX12_request_19 (by decide) ?_
    refine lv_istore (lv' := [(7, .int 0), (0, .ref h0), (1, .int a1), (2, .int a2), (3, .int a3), (4, .int a4), (5, .int a5), (6, .int a6)]) hx hb dX12_request_20 hl (by decide) rfl (fun ls hl => ?_)
    refine lv_iload_n hx hb dX12_request_22 rfl (lv_at hl 3 rfl) ?_
    refine lv_iconst (v := 0) hx hb dX12_request_23 (by decide) ?_
    refine lv_iconst (v := 5) hx hb dX12_request_24 (by decide) ?_
    have hPc := hP.sub (ws' := []) [] rfl
    have hDc := hD.sub (ws' := []) [] (by decide) rfl
    have hKc := hK.sub (tys' := []) [] rfl
    have hFc := freeNil hS hA
    refine va_calli (va_runS (As := [.int a2, .int 0, .int 5]) (rest := []) ⟨hx, hb, hml, hown, ht⟩ (k_X12_isIn l d0 cO dC dI H.size a2 0 5) (my_S ht M_X12_isIn q1984 q1983 (Nat.le_of_ble_eq_true rfl) (Nat.le_of_ble_eq_true rfl)) ⟨PREp.fb, fun U hU hW => ⟨rfl, PREp.mk' hE hS hFc hPc hKc U hU hW⟩⟩ rfl rfl hl.1 rfl (lv_room (Nat.le_of_ble_eq_true rfl)) dX12_request_25 ⟨(Nat.le_of_ble_eq_true rfl), (Nat.le_of_ble_eq_true rfl)⟩) hS (fun q _ h => hFc q h) hFc (fun r9 u8 t H1 locs htt hvm hw hB hz1 hk1 hS => ?_)
    try dsimp only at hw hB
    have hP1 := hB
    have hP := keepAll hP hk1
    generalize H1 = H at hP hS ⊢
    have hP : va_P (dC, dI) vwCl [(h0, .inr (13, fs))] H := hP
    have hD : va_D A [(h0, .inr (13, fs))] := hD
    have hK : va_K (dC, dI) vwCl [] s := hK
    refine W.widen (k := 0) (n := 0) (Nat.le_of_ble_eq_true rfl) (Nat.le_of_ble_eq_true rfl) ?_
    by_cases hI10 : 0 ≤ a2 ∧ a2 ≤ 5
    · have hw := hw.1 hI10
      subst hw
      refine lv_if_eq (tgt := 68) hx hb dX12_request_28 (by decide) (fun c11 => False.elim (by revert c11; decide)) (fun c11 => ?_)
      refine lv_iload hx hb dX12_request_31 (lv_at hl 5 rfl) ?_
      have hPc := hP.sub (ws' := []) [] rfl
      have hDc := hD.sub (ws' := []) [] (by decide) rfl
      have hKc := hK.sub (tys' := []) [] rfl
      have hFc := freeNil hS hA
      refine va_calli (va_runS (As := [.int a4]) (rest := []) ⟨hx, hb, hml, hown, ht⟩ (k_X12_isNumber l d0 cO dC dI H.size a4) (my_S ht M_X12_isNumber q2077 q2076 (Nat.le_of_ble_eq_true rfl) (Nat.le_of_ble_eq_true rfl)) ⟨PREp.fb, fun U hU hW => ⟨rfl, PREp.mk' hE hS hFc hPc hKc U hU hW⟩⟩ rfl rfl hl.1 rfl (lv_room (Nat.le_of_ble_eq_true rfl)) dX12_request_33 ⟨(Nat.le_of_ble_eq_true rfl), (Nat.le_of_ble_eq_true rfl)⟩) hS (fun q _ h => hFc q h) hFc (fun r13 u12 t H1 locs htt hvm hw hB hz1 hk1 hS => ?_)
      try dsimp only at hw hB
      have hP1 := hB
      have hP := keepAll hP hk1
      generalize H1 = H at hP hS ⊢
      have hP : va_P (dC, dI) vwCl [(h0, .inr (13, fs))] H := hP
      have hD : va_D A [(h0, .inr (13, fs))] := hD
      have hK : va_K (dC, dI) vwCl [] s := hK
      refine W.widen (k := 0) (n := 0) (Nat.le_of_ble_eq_true rfl) (Nat.le_of_ble_eq_true rfl) ?_
      rcases hw with hw | hw
      · subst hw
        refine lv_if_eq (tgt := 68) hx hb dX12_request_36 (by decide) (fun c14 => ?_) (fun c14 => False.elim (by revert c14; decide))
        refine lv_iconst (v := 0) hx hb dX12_request_68 (by decide) ?_
        refine lv_istore (lv' := [(8, .int 0), (7, .int 0), (0, .ref h0), (1, .int a1), (2, .int a2), (3, .int a3), (4, .int a4), (5, .int a5), (6, .int a6)]) hx hb dX12_request_69 hl (by decide) rfl (fun ls hl => ?_)
        refine lv_aload_n hx hb dX12_request_71 rfl (lv_at hl 2 rfl) ?_
        refine lv_iload hx hb dX12_request_72 (lv_at hl 1 rfl) ?_
        refine lv_if_ne (tgt := 81) hx hb dX12_request_74 (by decide) (fun c15 => False.elim (by revert c15; decide)) (fun c15 => ?_)
        refine lv_iconst (v := 1) hx hb dX12_request_77 (by decide) ?_
        refine lv_goto (tgt := 116) hx hb dX12_request_78 (by decide) ?_
        have hPc := hP.sub (ws' := [(h0, .inr (13, fs))]) [0] rfl
        have hDc := hD.sub (ws' := [(h0, .inr (13, fs))]) [0] (by decide) rfl
        have hKc := hK.sub (tys' := []) [] rfl
        have hFc := va_free (wc := [(h0, .inr (13, fs))]) hD hS hA [0] rfl
        refine va_calli (va_runV (As := [.int 1]) (rest := []) ⟨hx, hb, hml, hown, ht⟩ (k_X12_fails l d0 cO dC dI H.size h0 1 fs hlen) (my_V ht M_X12_fails q1992 q53 q1990 (Nat.le_of_ble_eq_true rfl) (Nat.le_of_ble_eq_true rfl)) ⟨PRE.fb, va_recv hK hP (ci := 13) (q0 := 0) rfl rfl, fun U hU hW => ⟨rfl, PRE.mk' hE hS hFc hPc hKc hDc U hU hW⟩⟩ rfl rfl hl.1 rfl (lv_room (Nat.le_of_ble_eq_true rfl)) dX12_request_116 ⟨(Nat.le_of_ble_eq_true rfl), (Nat.le_of_ble_eq_true rfl)⟩) hS (fun q _ h => hFc q h) hFc (fun r17 u16 t H1 locs htt hvm hw hB hz1 hk1 hS => ?_)
        try dsimp only at hw hB
        obtain ⟨hP1, hK1, hD1⟩ := hB
        rw [htt] at hP1
        have hK1 := va_K.moved hvm.symm hK1
        obtain ⟨hP, hD⟩ := va_join (wr := []) (w1 := [(h0, .inr (13, (fs.set 74 (.int 1))))]) hP hD [0] [] rfl rfl (by decide) (by decide) hk1 hFc hP1 hD1
        have hK := (hK.sub (tys' := []) [] rfl).app hK1
        generalize H1 = H at hP hS ⊢
        have hP : va_P (dC, dI) vwCl [(h0, .inr (13, (fs.set 74 (.int 1))))] H := hP
        have hD : va_D A [(h0, .inr (13, (fs.set 74 (.int 1))))] := hD
        have hK : va_K (dC, dI) vwCl [] s := hK
        refine W.widen (k := 0) (n := 0) (Nat.le_of_ble_eq_true rfl) (Nat.le_of_ble_eq_true rfl) ?_
        have hw := hw.1 (by decide)
        subst hw
        refine lv_if_eq (tgt := 124) hx hb dX12_request_119 (by decide) (fun c18 => False.elim (by revert c18; decide)) (fun c18 => ?_)
        refine lv_iconst (v := 0) hx hb dX12_request_122 (by decide) ?_
        have hP9 := hP.sub (ws' := [(h0, .inr (13, (fs.set 74 (.int 1))))]) [0] rfl
        have hD9 := hD.sub (ws' := [(h0, .inr (13, (fs.set 74 (.int 1))))]) [0] (by decide) rfl
        have hK9 := hK.sub (tys' := []) [] rfl
        refine W.widen (k := 0) (n := 0) (Nat.le_of_ble_eq_true rfl) (Nat.le_of_ble_eq_true rfl) ?_
        exact W.iret (v := 0) hx hb hr (fun t ht9 hW9 => ⟨⟨0, 1, rfl, rfl, ⟨(fs.set 74 (.int 1)), (by rw [List.getElem?_set_self (by rw [hlen]; decide)]), POW.mk' ht9 hW9.alike hP9 hK9 hD9⟩⟩, hS.F ht9⟩) hS.2.2 dX12_request_123
      · subst hw
        refine lv_if_eq (tgt := 68) hx hb dX12_request_36 (by decide) (fun c19 => False.elim (by revert c19; decide)) (fun c19 => ?_)
        refine lv_iload hx hb dX12_request_39 (lv_at hl 6 rfl) ?_
        have hPc := hP.sub (ws' := []) [] rfl
        have hDc := hD.sub (ws' := []) [] (by decide) rfl
        have hKc := hK.sub (tys' := []) [] rfl
        have hFc := freeNil hS hA
        refine va_calli (va_runS (As := [.int a5]) (rest := []) ⟨hx, hb, hml, hown, ht⟩ (k_X12_isNumber l d0 cO dC dI H.size a5) (my_S ht M_X12_isNumber q2077 q2076 (Nat.le_of_ble_eq_true rfl) (Nat.le_of_ble_eq_true rfl)) ⟨PREp.fb, fun U hU hW => ⟨rfl, PREp.mk' hE hS hFc hPc hKc U hU hW⟩⟩ rfl rfl hl.1 rfl (lv_room (Nat.le_of_ble_eq_true rfl)) dX12_request_41 ⟨(Nat.le_of_ble_eq_true rfl), (Nat.le_of_ble_eq_true rfl)⟩) hS (fun q _ h => hFc q h) hFc (fun r21 u20 t H1 locs htt hvm hw hB hz1 hk1 hS => ?_)
        try dsimp only at hw hB
        have hP1 := hB
        have hP := keepAll hP hk1
        generalize H1 = H at hP hS ⊢
        have hP : va_P (dC, dI) vwCl [(h0, .inr (13, fs))] H := hP
        have hD : va_D A [(h0, .inr (13, fs))] := hD
        have hK : va_K (dC, dI) vwCl [] s := hK
        refine W.widen (k := 0) (n := 0) (Nat.le_of_ble_eq_true rfl) (Nat.le_of_ble_eq_true rfl) ?_
        rcases hw with hw | hw
        · subst hw
          refine lv_if_eq (tgt := 68) hx hb dX12_request_44 (by decide) (fun c22 => ?_) (fun c22 => False.elim (by revert c22; decide))
          refine lv_iconst (v := 0) hx hb dX12_request_68 (by decide) ?_
          refine lv_istore (lv' := [(8, .int 0), (7, .int 0), (0, .ref h0), (1, .int a1), (2, .int a2), (3, .int a3), (4, .int a4), (5, .int a5), (6, .int a6)]) hx hb dX12_request_69 hl (by decide) rfl (fun ls hl => ?_)
          refine lv_aload_n hx hb dX12_request_71 rfl (lv_at hl 2 rfl) ?_
          refine lv_iload hx hb dX12_request_72 (lv_at hl 1 rfl) ?_
          refine lv_if_ne (tgt := 81) hx hb dX12_request_74 (by decide) (fun c23 => False.elim (by revert c23; decide)) (fun c23 => ?_)
          refine lv_iconst (v := 1) hx hb dX12_request_77 (by decide) ?_
          refine lv_goto (tgt := 116) hx hb dX12_request_78 (by decide) ?_
          have hPc := hP.sub (ws' := [(h0, .inr (13, fs))]) [0] rfl
          have hDc := hD.sub (ws' := [(h0, .inr (13, fs))]) [0] (by decide) rfl
          have hKc := hK.sub (tys' := []) [] rfl
          have hFc := va_free (wc := [(h0, .inr (13, fs))]) hD hS hA [0] rfl
          refine va_calli (va_runV (As := [.int 1]) (rest := []) ⟨hx, hb, hml, hown, ht⟩ (k_X12_fails l d0 cO dC dI H.size h0 1 fs hlen) (my_V ht M_X12_fails q1992 q53 q1990 (Nat.le_of_ble_eq_true rfl) (Nat.le_of_ble_eq_true rfl)) ⟨PRE.fb, va_recv hK hP (ci := 13) (q0 := 0) rfl rfl, fun U hU hW => ⟨rfl, PRE.mk' hE hS hFc hPc hKc hDc U hU hW⟩⟩ rfl rfl hl.1 rfl (lv_room (Nat.le_of_ble_eq_true rfl)) dX12_request_116 ⟨(Nat.le_of_ble_eq_true rfl), (Nat.le_of_ble_eq_true rfl)⟩) hS (fun q _ h => hFc q h) hFc (fun r25 u24 t H1 locs htt hvm hw hB hz1 hk1 hS => ?_)
          try dsimp only at hw hB
          obtain ⟨hP1, hK1, hD1⟩ := hB
          rw [htt] at hP1
          have hK1 := va_K.moved hvm.symm hK1
          obtain ⟨hP, hD⟩ := va_join (wr := []) (w1 := [(h0, .inr (13, (fs.set 74 (.int 1))))]) hP hD [0] [] rfl rfl (by decide) (by decide) hk1 hFc hP1 hD1
          have hK := (hK.sub (tys' := []) [] rfl).app hK1
          generalize H1 = H at hP hS ⊢
          have hP : va_P (dC, dI) vwCl [(h0, .inr (13, (fs.set 74 (.int 1))))] H := hP
          have hD : va_D A [(h0, .inr (13, (fs.set 74 (.int 1))))] := hD
          have hK : va_K (dC, dI) vwCl [] s := hK
          refine W.widen (k := 0) (n := 0) (Nat.le_of_ble_eq_true rfl) (Nat.le_of_ble_eq_true rfl) ?_
          have hw := hw.1 (by decide)
          subst hw
          refine lv_if_eq (tgt := 124) hx hb dX12_request_119 (by decide) (fun c26 => False.elim (by revert c26; decide)) (fun c26 => ?_)
          refine lv_iconst (v := 0) hx hb dX12_request_122 (by decide) ?_
          have hP9 := hP.sub (ws' := [(h0, .inr (13, (fs.set 74 (.int 1))))]) [0] rfl
          have hD9 := hD.sub (ws' := [(h0, .inr (13, (fs.set 74 (.int 1))))]) [0] (by decide) rfl
          have hK9 := hK.sub (tys' := []) [] rfl
          refine W.widen (k := 0) (n := 0) (Nat.le_of_ble_eq_true rfl) (Nat.le_of_ble_eq_true rfl) ?_
          exact W.iret (v := 0) hx hb hr (fun t ht9 hW9 => ⟨⟨0, 1, rfl, rfl, ⟨(fs.set 74 (.int 1)), (by rw [List.getElem?_set_self (by rw [hlen]; decide)]), POW.mk' ht9 hW9.alike hP9 hK9 hD9⟩⟩, hS.F ht9⟩) hS.2.2 dX12_request_123
        · subst hw
          refine lv_if_eq (tgt := 68) hx hb dX12_request_44 (by decide) (fun c27 => False.elim (by revert c27; decide)) (fun c27 => ?_)
          refine lv_iload_n hx hb dX12_request_47 rfl (lv_at hl 3 rfl) ?_
          refine lv_iconst (v := 4) hx hb dX12_request_48 (by decide) ?_
          refine lv_icmp_lt (tgt := 64) hx hb dX12_request_49 (by decide) (fun c28 => ?_) (fun c28 => ?_)
          · skip
            refine lv_iconst (v := 1) hx hb dX12_request_64 (by decide) ?_
            refine lv_goto (tgt := 69) hx hb dX12_request_65 (by decide) ?_
            refine lv_istore (lv' := [(8, .int 1), (7, .int 0), (0, .ref h0), (1, .int a1), (2, .int a2), (3, .int a3), (4, .int a4), (5, .int a5), (6, .int a6)]) hx hb dX12_request_69 hl (by decide) rfl (fun ls hl => ?_)
            refine lv_aload_n hx hb dX12_request_71 rfl (lv_at hl 2 rfl) ?_
            refine lv_iload hx hb dX12_request_72 (lv_at hl 1 rfl) ?_
            refine lv_if_ne (tgt := 81) hx hb dX12_request_74 (by decide) (fun c29 => False.elim (by revert c29; decide)) (fun c29 => ?_)
            refine lv_iconst (v := 1) hx hb dX12_request_77 (by decide) ?_
            refine lv_goto (tgt := 116) hx hb dX12_request_78 (by decide) ?_
            have hPc := hP.sub (ws' := [(h0, .inr (13, fs))]) [0] rfl
            have hDc := hD.sub (ws' := [(h0, .inr (13, fs))]) [0] (by decide) rfl
            have hKc := hK.sub (tys' := []) [] rfl
            have hFc := va_free (wc := [(h0, .inr (13, fs))]) hD hS hA [0] rfl
            refine va_calli (va_runV (As := [.int 1]) (rest := []) ⟨hx, hb, hml, hown, ht⟩ (k_X12_fails l d0 cO dC dI H.size h0 1 fs hlen) (my_V ht M_X12_fails q1992 q53 q1990 (Nat.le_of_ble_eq_true rfl) (Nat.le_of_ble_eq_true rfl)) ⟨PRE.fb, va_recv hK hP (ci := 13) (q0 := 0) rfl rfl, fun U hU hW => ⟨rfl, PRE.mk' hE hS hFc hPc hKc hDc U hU hW⟩⟩ rfl rfl hl.1 rfl (lv_room (Nat.le_of_ble_eq_true rfl)) dX12_request_116 ⟨(Nat.le_of_ble_eq_true rfl), (Nat.le_of_ble_eq_true rfl)⟩) hS (fun q _ h => hFc q h) hFc (fun r31 u30 t H1 locs htt hvm hw hB hz1 hk1 hS => ?_)
            try dsimp only at hw hB
            obtain ⟨hP1, hK1, hD1⟩ := hB
            rw [htt] at hP1
            have hK1 := va_K.moved hvm.symm hK1
            obtain ⟨hP, hD⟩ := va_join (wr := []) (w1 := [(h0, .inr (13, (fs.set 74 (.int 1))))]) hP hD [0] [] rfl rfl (by decide) (by decide) hk1 hFc hP1 hD1
            have hK := (hK.sub (tys' := []) [] rfl).app hK1
            generalize H1 = H at hP hS ⊢
            have hP : va_P (dC, dI) vwCl [(h0, .inr (13, (fs.set 74 (.int 1))))] H := hP
            have hD : va_D A [(h0, .inr (13, (fs.set 74 (.int 1))))] := hD
            have hK : va_K (dC, dI) vwCl [] s := hK
            refine W.widen (k := 0) (n := 0) (Nat.le_of_ble_eq_true rfl) (Nat.le_of_ble_eq_true rfl) ?_
            have hw := hw.1 (by decide)
            subst hw
            refine lv_if_eq (tgt := 124) hx hb dX12_request_119 (by decide) (fun c32 => False.elim (by revert c32; decide)) (fun c32 => ?_)
            refine lv_iconst (v := 0) hx hb dX12_request_122 (by decide) ?_
            have hP9 := hP.sub (ws' := [(h0, .inr (13, (fs.set 74 (.int 1))))]) [0] rfl
            have hD9 := hD.sub (ws' := [(h0, .inr (13, (fs.set 74 (.int 1))))]) [0] (by decide) rfl
            have hK9 := hK.sub (tys' := []) [] rfl
            refine W.widen (k := 0) (n := 0) (Nat.le_of_ble_eq_true rfl) (Nat.le_of_ble_eq_true rfl) ?_
            exact W.iret (v := 0) hx hb hr (fun t ht9 hW9 => ⟨⟨0, 1, rfl, rfl, ⟨(fs.set 74 (.int 1)), (by rw [List.getElem?_set_self (by rw [hlen]; decide)]), POW.mk' ht9 hW9.alike hP9 hK9 hD9⟩⟩, hS.F ht9⟩) hS.2.2 dX12_request_123
          · skip
            refine lv_iload hx hb dX12_request_52 (lv_at hl 7 rfl) ?_
            refine lv_bipush (v := 97) hx hb dX12_request_54 (by decide) ?_
            refine lv_bipush (v := 122) hx hb dX12_request_56 (by decide) ?_
            have hPc := hP.sub (ws' := []) [] rfl
            have hDc := hD.sub (ws' := []) [] (by decide) rfl
            have hKc := hK.sub (tys' := []) [] rfl
            have hFc := freeNil hS hA
            refine va_calli (va_runS (As := [.int a6, .int 97, .int 122]) (rest := []) ⟨hx, hb, hml, hown, ht⟩ (k_X12_isIn l d0 cO dC dI H.size a6 97 122) (my_S ht M_X12_isIn q1984 q1983 (Nat.le_of_ble_eq_true rfl) (Nat.le_of_ble_eq_true rfl)) ⟨PREp.fb, fun U hU hW => ⟨rfl, PREp.mk' hE hS hFc hPc hKc U hU hW⟩⟩ rfl rfl hl.1 rfl (lv_room (Nat.le_of_ble_eq_true rfl)) dX12_request_58 ⟨(Nat.le_of_ble_eq_true rfl), (Nat.le_of_ble_eq_true rfl)⟩) hS (fun q _ h => hFc q h) hFc (fun r34 u33 t H1 locs htt hvm hw hB hz1 hk1 hS => ?_)
            try dsimp only at hw hB
            have hP1 := hB
            have hP := keepAll hP hk1
            generalize H1 = H at hP hS ⊢
            have hP : va_P (dC, dI) vwCl [(h0, .inr (13, fs))] H := hP
            have hD : va_D A [(h0, .inr (13, fs))] := hD
            have hK : va_K (dC, dI) vwCl [] s := hK
            refine W.widen (k := 0) (n := 0) (Nat.le_of_ble_eq_true rfl) (Nat.le_of_ble_eq_true rfl) ?_
            by_cases hI35 : 97 ≤ a6 ∧ a6 ≤ 122
            · have hw := hw.1 hI35
              subst hw
              refine lv_if_eq (tgt := 68) hx hb dX12_request_61 (by decide) (fun c36 => False.elim (by revert c36; decide)) (fun c36 => ?_)
              refine lv_iconst (v := 1) hx hb dX12_request_64 (by decide) ?_
              refine lv_goto (tgt := 69) hx hb dX12_request_65 (by decide) ?_
              refine lv_istore (lv' := [(8, .int 1), (7, .int 0), (0, .ref h0), (1, .int a1), (2, .int a2), (3, .int a3), (4, .int a4), (5, .int a5), (6, .int a6)]) hx hb dX12_request_69 hl (by decide) rfl (fun ls hl => ?_)
              refine lv_aload_n hx hb dX12_request_71 rfl (lv_at hl 2 rfl) ?_
              refine lv_iload hx hb dX12_request_72 (lv_at hl 1 rfl) ?_
              refine lv_if_ne (tgt := 81) hx hb dX12_request_74 (by decide) (fun c37 => False.elim (by revert c37; decide)) (fun c37 => ?_)
              refine lv_iconst (v := 1) hx hb dX12_request_77 (by decide) ?_
              refine lv_goto (tgt := 116) hx hb dX12_request_78 (by decide) ?_
              have hPc := hP.sub (ws' := [(h0, .inr (13, fs))]) [0] rfl
              have hDc := hD.sub (ws' := [(h0, .inr (13, fs))]) [0] (by decide) rfl
              have hKc := hK.sub (tys' := []) [] rfl
              have hFc := va_free (wc := [(h0, .inr (13, fs))]) hD hS hA [0] rfl
              refine va_calli (va_runV (As := [.int 1]) (rest := []) ⟨hx, hb, hml, hown, ht⟩ (k_X12_fails l d0 cO dC dI H.size h0 1 fs hlen) (my_V ht M_X12_fails q1992 q53 q1990 (Nat.le_of_ble_eq_true rfl) (Nat.le_of_ble_eq_true rfl)) ⟨PRE.fb, va_recv hK hP (ci := 13) (q0 := 0) rfl rfl, fun U hU hW => ⟨rfl, PRE.mk' hE hS hFc hPc hKc hDc U hU hW⟩⟩ rfl rfl hl.1 rfl (lv_room (Nat.le_of_ble_eq_true rfl)) dX12_request_116 ⟨(Nat.le_of_ble_eq_true rfl), (Nat.le_of_ble_eq_true rfl)⟩) hS (fun q _ h => hFc q h) hFc (fun r39 u38 t H1 locs htt hvm hw hB hz1 hk1 hS => ?_)
              try dsimp only at hw hB
              obtain ⟨hP1, hK1, hD1⟩ := hB
              rw [htt] at hP1
              have hK1 := va_K.moved hvm.symm hK1
              obtain ⟨hP, hD⟩ := va_join (wr := []) (w1 := [(h0, .inr (13, (fs.set 74 (.int 1))))]) hP hD [0] [] rfl rfl (by decide) (by decide) hk1 hFc hP1 hD1
              have hK := (hK.sub (tys' := []) [] rfl).app hK1
              generalize H1 = H at hP hS ⊢
              have hP : va_P (dC, dI) vwCl [(h0, .inr (13, (fs.set 74 (.int 1))))] H := hP
              have hD : va_D A [(h0, .inr (13, (fs.set 74 (.int 1))))] := hD
              have hK : va_K (dC, dI) vwCl [] s := hK
              refine W.widen (k := 0) (n := 0) (Nat.le_of_ble_eq_true rfl) (Nat.le_of_ble_eq_true rfl) ?_
              have hw := hw.1 (by decide)
              subst hw
              refine lv_if_eq (tgt := 124) hx hb dX12_request_119 (by decide) (fun c40 => False.elim (by revert c40; decide)) (fun c40 => ?_)
              refine lv_iconst (v := 0) hx hb dX12_request_122 (by decide) ?_
              have hP9 := hP.sub (ws' := [(h0, .inr (13, (fs.set 74 (.int 1))))]) [0] rfl
              have hD9 := hD.sub (ws' := [(h0, .inr (13, (fs.set 74 (.int 1))))]) [0] (by decide) rfl
              have hK9 := hK.sub (tys' := []) [] rfl
              refine W.widen (k := 0) (n := 0) (Nat.le_of_ble_eq_true rfl) (Nat.le_of_ble_eq_true rfl) ?_
              exact W.iret (v := 0) hx hb hr (fun t ht9 hW9 => ⟨⟨0, 1, rfl, rfl, ⟨(fs.set 74 (.int 1)), (by rw [List.getElem?_set_self (by rw [hlen]; decide)]), POW.mk' ht9 hW9.alike hP9 hK9 hD9⟩⟩, hS.F ht9⟩) hS.2.2 dX12_request_123
            · have hw := hw.2 hI35
              subst hw
              refine lv_if_eq (tgt := 68) hx hb dX12_request_61 (by decide) (fun c41 => ?_) (fun c41 => False.elim (by revert c41; decide))
              refine lv_iconst (v := 0) hx hb dX12_request_68 (by decide) ?_
              refine lv_istore (lv' := [(8, .int 0), (7, .int 0), (0, .ref h0), (1, .int a1), (2, .int a2), (3, .int a3), (4, .int a4), (5, .int a5), (6, .int a6)]) hx hb dX12_request_69 hl (by decide) rfl (fun ls hl => ?_)
              refine lv_aload_n hx hb dX12_request_71 rfl (lv_at hl 2 rfl) ?_
              refine lv_iload hx hb dX12_request_72 (lv_at hl 1 rfl) ?_
              refine lv_if_ne (tgt := 81) hx hb dX12_request_74 (by decide) (fun c42 => False.elim (by revert c42; decide)) (fun c42 => ?_)
              refine lv_iconst (v := 1) hx hb dX12_request_77 (by decide) ?_
              refine lv_goto (tgt := 116) hx hb dX12_request_78 (by decide) ?_
              have hPc := hP.sub (ws' := [(h0, .inr (13, fs))]) [0] rfl
              have hDc := hD.sub (ws' := [(h0, .inr (13, fs))]) [0] (by decide) rfl
              have hKc := hK.sub (tys' := []) [] rfl
              have hFc := va_free (wc := [(h0, .inr (13, fs))]) hD hS hA [0] rfl
              refine va_calli (va_runV (As := [.int 1]) (rest := []) ⟨hx, hb, hml, hown, ht⟩ (k_X12_fails l d0 cO dC dI H.size h0 1 fs hlen) (my_V ht M_X12_fails q1992 q53 q1990 (Nat.le_of_ble_eq_true rfl) (Nat.le_of_ble_eq_true rfl)) ⟨PRE.fb, va_recv hK hP (ci := 13) (q0 := 0) rfl rfl, fun U hU hW => ⟨rfl, PRE.mk' hE hS hFc hPc hKc hDc U hU hW⟩⟩ rfl rfl hl.1 rfl (lv_room (Nat.le_of_ble_eq_true rfl)) dX12_request_116 ⟨(Nat.le_of_ble_eq_true rfl), (Nat.le_of_ble_eq_true rfl)⟩) hS (fun q _ h => hFc q h) hFc (fun r44 u43 t H1 locs htt hvm hw hB hz1 hk1 hS => ?_)
              try dsimp only at hw hB
              obtain ⟨hP1, hK1, hD1⟩ := hB
              rw [htt] at hP1
              have hK1 := va_K.moved hvm.symm hK1
              obtain ⟨hP, hD⟩ := va_join (wr := []) (w1 := [(h0, .inr (13, (fs.set 74 (.int 1))))]) hP hD [0] [] rfl rfl (by decide) (by decide) hk1 hFc hP1 hD1
              have hK := (hK.sub (tys' := []) [] rfl).app hK1
              generalize H1 = H at hP hS ⊢
              have hP : va_P (dC, dI) vwCl [(h0, .inr (13, (fs.set 74 (.int 1))))] H := hP
              have hD : va_D A [(h0, .inr (13, (fs.set 74 (.int 1))))] := hD
              have hK : va_K (dC, dI) vwCl [] s := hK
              refine W.widen (k := 0) (n := 0) (Nat.le_of_ble_eq_true rfl) (Nat.le_of_ble_eq_true rfl) ?_
              have hw := hw.1 (by decide)
              subst hw
              refine lv_if_eq (tgt := 124) hx hb dX12_request_119 (by decide) (fun c45 => False.elim (by revert c45; decide)) (fun c45 => ?_)
              refine lv_iconst (v := 0) hx hb dX12_request_122 (by decide) ?_
              have hP9 := hP.sub (ws' := [(h0, .inr (13, (fs.set 74 (.int 1))))]) [0] rfl
              have hD9 := hD.sub (ws' := [(h0, .inr (13, (fs.set 74 (.int 1))))]) [0] (by decide) rfl
              have hK9 := hK.sub (tys' := []) [] rfl
              refine W.widen (k := 0) (n := 0) (Nat.le_of_ble_eq_true rfl) (Nat.le_of_ble_eq_true rfl) ?_
              exact W.iret (v := 0) hx hb hr (fun t ht9 hW9 => ⟨⟨0, 1, rfl, rfl, ⟨(fs.set 74 (.int 1)), (by rw [List.getElem?_set_self (by rw [hlen]; decide)]), POW.mk' ht9 hW9.alike hP9 hK9 hD9⟩⟩, hS.F ht9⟩) hS.2.2 dX12_request_123
    · have hw := hw.2 hI10
      subst hw
      refine lv_if_eq (tgt := 68) hx hb dX12_request_28 (by decide) (fun c46 => ?_) (fun c46 => False.elim (by revert c46; decide))
      refine lv_iconst (v := 0) hx hb dX12_request_68 (by decide) ?_
      refine lv_istore (lv' := [(8, .int 0), (7, .int 0), (0, .ref h0), (1, .int a1), (2, .int a2), (3, .int a3), (4, .int a4), (5, .int a5), (6, .int a6)]) hx hb dX12_request_69 hl (by decide) rfl (fun ls hl => ?_)
      refine lv_aload_n hx hb dX12_request_71 rfl (lv_at hl 2 rfl) ?_
      refine lv_iload hx hb dX12_request_72 (lv_at hl 1 rfl) ?_
      refine lv_if_ne (tgt := 81) hx hb dX12_request_74 (by decide) (fun c47 => False.elim (by revert c47; decide)) (fun c47 => ?_)
      refine lv_iconst (v := 1) hx hb dX12_request_77 (by decide) ?_
      refine lv_goto (tgt := 116) hx hb dX12_request_78 (by decide) ?_
      have hPc := hP.sub (ws' := [(h0, .inr (13, fs))]) [0] rfl
      have hDc := hD.sub (ws' := [(h0, .inr (13, fs))]) [0] (by decide) rfl
      have hKc := hK.sub (tys' := []) [] rfl
      have hFc := va_free (wc := [(h0, .inr (13, fs))]) hD hS hA [0] rfl
      refine va_calli (va_runV (As := [.int 1]) (rest := []) ⟨hx, hb, hml, hown, ht⟩ (k_X12_fails l d0 cO dC dI H.size h0 1 fs hlen) (my_V ht M_X12_fails q1992 q53 q1990 (Nat.le_of_ble_eq_true rfl) (Nat.le_of_ble_eq_true rfl)) ⟨PRE.fb, va_recv hK hP (ci := 13) (q0 := 0) rfl rfl, fun U hU hW => ⟨rfl, PRE.mk' hE hS hFc hPc hKc hDc U hU hW⟩⟩ rfl rfl hl.1 rfl (lv_room (Nat.le_of_ble_eq_true rfl)) dX12_request_116 ⟨(Nat.le_of_ble_eq_true rfl), (Nat.le_of_ble_eq_true rfl)⟩) hS (fun q _ h => hFc q h) hFc (fun r49 u48 t H1 locs htt hvm hw hB hz1 hk1 hS => ?_)
      try dsimp only at hw hB
      obtain ⟨hP1, hK1, hD1⟩ := hB
      rw [htt] at hP1
      have hK1 := va_K.moved hvm.symm hK1
      obtain ⟨hP, hD⟩ := va_join (wr := []) (w1 := [(h0, .inr (13, (fs.set 74 (.int 1))))]) hP hD [0] [] rfl rfl (by decide) (by decide) hk1 hFc hP1 hD1
      have hK := (hK.sub (tys' := []) [] rfl).app hK1
      generalize H1 = H at hP hS ⊢
      have hP : va_P (dC, dI) vwCl [(h0, .inr (13, (fs.set 74 (.int 1))))] H := hP
      have hD : va_D A [(h0, .inr (13, (fs.set 74 (.int 1))))] := hD
      have hK : va_K (dC, dI) vwCl [] s := hK
      refine W.widen (k := 0) (n := 0) (Nat.le_of_ble_eq_true rfl) (Nat.le_of_ble_eq_true rfl) ?_
      have hw := hw.1 (by decide)
      subst hw
      refine lv_if_eq (tgt := 124) hx hb dX12_request_119 (by decide) (fun c50 => False.elim (by revert c50; decide)) (fun c50 => ?_)
      refine lv_iconst (v := 0) hx hb dX12_request_122 (by decide) ?_
      have hP9 := hP.sub (ws' := [(h0, .inr (13, (fs.set 74 (.int 1))))]) [0] rfl
      have hD9 := hD.sub (ws' := [(h0, .inr (13, (fs.set 74 (.int 1))))]) [0] (by decide) rfl
      have hK9 := hK.sub (tys' := []) [] rfl
      refine W.widen (k := 0) (n := 0) (Nat.le_of_ble_eq_true rfl) (Nat.le_of_ble_eq_true rfl) ?_
      exact W.iret (v := 0) hx hb hr (fun t ht9 hW9 => ⟨⟨0, 1, rfl, rfl, ⟨(fs.set 74 (.int 1)), (by rw [List.getElem?_set_self (by rw [hlen]; decide)]), POW.mk' ht9 hW9.alike hP9 hK9 hD9⟩⟩, hS.F ht9⟩) hS.2.2 dX12_request_123
  · have hw := hw.2 hI3
    subst hw
    refine lv_if_eq (tgt := 19) hx hb dX12_request_4 (by decide) (fun c51 => ?_) (fun c51 => False.elim (by revert c51; decide))
    refine lv_iconst (v := 0) hx hb dX12_request_19 (by decide) ?_
    refine lv_istore (lv' := [(7, .int 0), (0, .ref h0), (1, .int a1), (2, .int a2), (3, .int a3), (4, .int a4), (5, .int a5), (6, .int a6)]) hx hb dX12_request_20 hl (by decide) rfl (fun ls hl => ?_)
    refine lv_iload_n hx hb dX12_request_22 rfl (lv_at hl 3 rfl) ?_
    refine lv_iconst (v := 0) hx hb dX12_request_23 (by decide) ?_
    refine lv_iconst (v := 5) hx hb dX12_request_24 (by decide) ?_
    have hPc := hP.sub (ws' := []) [] rfl
    have hDc := hD.sub (ws' := []) [] (by decide) rfl
    have hKc := hK.sub (tys' := []) [] rfl
    have hFc := freeNil hS hA
    refine va_calli (va_runS (As := [.int a2, .int 0, .int 5]) (rest := []) ⟨hx, hb, hml, hown, ht⟩ (k_X12_isIn l d0 cO dC dI H.size a2 0 5) (my_S ht M_X12_isIn q1984 q1983 (Nat.le_of_ble_eq_true rfl) (Nat.le_of_ble_eq_true rfl)) ⟨PREp.fb, fun U hU hW => ⟨rfl, PREp.mk' hE hS hFc hPc hKc U hU hW⟩⟩ rfl rfl hl.1 rfl (lv_room (Nat.le_of_ble_eq_true rfl)) dX12_request_25 ⟨(Nat.le_of_ble_eq_true rfl), (Nat.le_of_ble_eq_true rfl)⟩) hS (fun q _ h => hFc q h) hFc (fun r53 u52 t H1 locs htt hvm hw hB hz1 hk1 hS => ?_)
    try dsimp only at hw hB
    have hP1 := hB
    have hP := keepAll hP hk1
    generalize H1 = H at hP hS ⊢
    have hP : va_P (dC, dI) vwCl [(h0, .inr (13, fs))] H := hP
    have hD : va_D A [(h0, .inr (13, fs))] := hD
    have hK : va_K (dC, dI) vwCl [] s := hK
    refine W.widen (k := 0) (n := 0) (Nat.le_of_ble_eq_true rfl) (Nat.le_of_ble_eq_true rfl) ?_
    by_cases hI54 : 0 ≤ a2 ∧ a2 ≤ 5
    · have hw := hw.1 hI54
      subst hw
      refine lv_if_eq (tgt := 68) hx hb dX12_request_28 (by decide) (fun c55 => False.elim (by revert c55; decide)) (fun c55 => ?_)
      refine lv_iload hx hb dX12_request_31 (lv_at hl 5 rfl) ?_
      have hPc := hP.sub (ws' := []) [] rfl
      have hDc := hD.sub (ws' := []) [] (by decide) rfl
      have hKc := hK.sub (tys' := []) [] rfl
      have hFc := freeNil hS hA
      refine va_calli (va_runS (As := [.int a4]) (rest := []) ⟨hx, hb, hml, hown, ht⟩ (k_X12_isNumber l d0 cO dC dI H.size a4) (my_S ht M_X12_isNumber q2077 q2076 (Nat.le_of_ble_eq_true rfl) (Nat.le_of_ble_eq_true rfl)) ⟨PREp.fb, fun U hU hW => ⟨rfl, PREp.mk' hE hS hFc hPc hKc U hU hW⟩⟩ rfl rfl hl.1 rfl (lv_room (Nat.le_of_ble_eq_true rfl)) dX12_request_33 ⟨(Nat.le_of_ble_eq_true rfl), (Nat.le_of_ble_eq_true rfl)⟩) hS (fun q _ h => hFc q h) hFc (fun r57 u56 t H1 locs htt hvm hw hB hz1 hk1 hS => ?_)
      try dsimp only at hw hB
      have hP1 := hB
      have hP := keepAll hP hk1
      generalize H1 = H at hP hS ⊢
      have hP : va_P (dC, dI) vwCl [(h0, .inr (13, fs))] H := hP
      have hD : va_D A [(h0, .inr (13, fs))] := hD
      have hK : va_K (dC, dI) vwCl [] s := hK
      refine W.widen (k := 0) (n := 0) (Nat.le_of_ble_eq_true rfl) (Nat.le_of_ble_eq_true rfl) ?_
      rcases hw with hw | hw
      · subst hw
        refine lv_if_eq (tgt := 68) hx hb dX12_request_36 (by decide) (fun c58 => ?_) (fun c58 => False.elim (by revert c58; decide))
        refine lv_iconst (v := 0) hx hb dX12_request_68 (by decide) ?_
        refine lv_istore (lv' := [(8, .int 0), (7, .int 0), (0, .ref h0), (1, .int a1), (2, .int a2), (3, .int a3), (4, .int a4), (5, .int a5), (6, .int a6)]) hx hb dX12_request_69 hl (by decide) rfl (fun ls hl => ?_)
        refine lv_aload_n hx hb dX12_request_71 rfl (lv_at hl 2 rfl) ?_
        refine lv_iload hx hb dX12_request_72 (lv_at hl 1 rfl) ?_
        refine lv_if_ne (tgt := 81) hx hb dX12_request_74 (by decide) (fun c59 => False.elim (by revert c59; decide)) (fun c59 => ?_)
        refine lv_iconst (v := 1) hx hb dX12_request_77 (by decide) ?_
        refine lv_goto (tgt := 116) hx hb dX12_request_78 (by decide) ?_
        have hPc := hP.sub (ws' := [(h0, .inr (13, fs))]) [0] rfl
        have hDc := hD.sub (ws' := [(h0, .inr (13, fs))]) [0] (by decide) rfl
        have hKc := hK.sub (tys' := []) [] rfl
        have hFc := va_free (wc := [(h0, .inr (13, fs))]) hD hS hA [0] rfl
        refine va_calli (va_runV (As := [.int 1]) (rest := []) ⟨hx, hb, hml, hown, ht⟩ (k_X12_fails l d0 cO dC dI H.size h0 1 fs hlen) (my_V ht M_X12_fails q1992 q53 q1990 (Nat.le_of_ble_eq_true rfl) (Nat.le_of_ble_eq_true rfl)) ⟨PRE.fb, va_recv hK hP (ci := 13) (q0 := 0) rfl rfl, fun U hU hW => ⟨rfl, PRE.mk' hE hS hFc hPc hKc hDc U hU hW⟩⟩ rfl rfl hl.1 rfl (lv_room (Nat.le_of_ble_eq_true rfl)) dX12_request_116 ⟨(Nat.le_of_ble_eq_true rfl), (Nat.le_of_ble_eq_true rfl)⟩) hS (fun q _ h => hFc q h) hFc (fun r61 u60 t H1 locs htt hvm hw hB hz1 hk1 hS => ?_)
        try dsimp only at hw hB
        obtain ⟨hP1, hK1, hD1⟩ := hB
        rw [htt] at hP1
        have hK1 := va_K.moved hvm.symm hK1
        obtain ⟨hP, hD⟩ := va_join (wr := []) (w1 := [(h0, .inr (13, (fs.set 74 (.int 1))))]) hP hD [0] [] rfl rfl (by decide) (by decide) hk1 hFc hP1 hD1
        have hK := (hK.sub (tys' := []) [] rfl).app hK1
        generalize H1 = H at hP hS ⊢
        have hP : va_P (dC, dI) vwCl [(h0, .inr (13, (fs.set 74 (.int 1))))] H := hP
        have hD : va_D A [(h0, .inr (13, (fs.set 74 (.int 1))))] := hD
        have hK : va_K (dC, dI) vwCl [] s := hK
        refine W.widen (k := 0) (n := 0) (Nat.le_of_ble_eq_true rfl) (Nat.le_of_ble_eq_true rfl) ?_
        have hw := hw.1 (by decide)
        subst hw
        refine lv_if_eq (tgt := 124) hx hb dX12_request_119 (by decide) (fun c62 => False.elim (by revert c62; decide)) (fun c62 => ?_)
        refine lv_iconst (v := 0) hx hb dX12_request_122 (by decide) ?_
        have hP9 := hP.sub (ws' := [(h0, .inr (13, (fs.set 74 (.int 1))))]) [0] rfl
        have hD9 := hD.sub (ws' := [(h0, .inr (13, (fs.set 74 (.int 1))))]) [0] (by decide) rfl
        have hK9 := hK.sub (tys' := []) [] rfl
        refine W.widen (k := 0) (n := 0) (Nat.le_of_ble_eq_true rfl) (Nat.le_of_ble_eq_true rfl) ?_
        exact W.iret (v := 0) hx hb hr (fun t ht9 hW9 => ⟨⟨0, 1, rfl, rfl, ⟨(fs.set 74 (.int 1)), (by rw [List.getElem?_set_self (by rw [hlen]; decide)]), POW.mk' ht9 hW9.alike hP9 hK9 hD9⟩⟩, hS.F ht9⟩) hS.2.2 dX12_request_123
      · subst hw
        refine lv_if_eq (tgt := 68) hx hb dX12_request_36 (by decide) (fun c63 => False.elim (by revert c63; decide)) (fun c63 => ?_)
        refine lv_iload hx hb dX12_request_39 (lv_at hl 6 rfl) ?_
        have hPc := hP.sub (ws' := []) [] rfl
        have hDc := hD.sub (ws' := []) [] (by decide) rfl
        have hKc := hK.sub (tys' := []) [] rfl
        have hFc := freeNil hS hA
        refine va_calli (va_runS (As := [.int a5]) (rest := []) ⟨hx, hb, hml, hown, ht⟩ (k_X12_isNumber l d0 cO dC dI H.size a5) (my_S ht M_X12_isNumber q2077 q2076 (Nat.le_of_ble_eq_true rfl) (Nat.le_of_ble_eq_true rfl)) ⟨PREp.fb, fun U hU hW => ⟨rfl, PREp.mk' hE hS hFc hPc hKc U hU hW⟩⟩ rfl rfl hl.1 rfl (lv_room (Nat.le_of_ble_eq_true rfl)) dX12_request_41 ⟨(Nat.le_of_ble_eq_true rfl), (Nat.le_of_ble_eq_true rfl)⟩) hS (fun q _ h => hFc q h) hFc (fun r65 u64 t H1 locs htt hvm hw hB hz1 hk1 hS => ?_)
        try dsimp only at hw hB
        have hP1 := hB
        have hP := keepAll hP hk1
        generalize H1 = H at hP hS ⊢
        have hP : va_P (dC, dI) vwCl [(h0, .inr (13, fs))] H := hP
        have hD : va_D A [(h0, .inr (13, fs))] := hD
        have hK : va_K (dC, dI) vwCl [] s := hK
        refine W.widen (k := 0) (n := 0) (Nat.le_of_ble_eq_true rfl) (Nat.le_of_ble_eq_true rfl) ?_
        rcases hw with hw | hw
        · subst hw
          refine lv_if_eq (tgt := 68) hx hb dX12_request_44 (by decide) (fun c66 => ?_) (fun c66 => False.elim (by revert c66; decide))
          refine lv_iconst (v := 0) hx hb dX12_request_68 (by decide) ?_
          refine lv_istore (lv' := [(8, .int 0), (7, .int 0), (0, .ref h0), (1, .int a1), (2, .int a2), (3, .int a3), (4, .int a4), (5, .int a5), (6, .int a6)]) hx hb dX12_request_69 hl (by decide) rfl (fun ls hl => ?_)
          refine lv_aload_n hx hb dX12_request_71 rfl (lv_at hl 2 rfl) ?_
          refine lv_iload hx hb dX12_request_72 (lv_at hl 1 rfl) ?_
          refine lv_if_ne (tgt := 81) hx hb dX12_request_74 (by decide) (fun c67 => False.elim (by revert c67; decide)) (fun c67 => ?_)
          refine lv_iconst (v := 1) hx hb dX12_request_77 (by decide) ?_
          refine lv_goto (tgt := 116) hx hb dX12_request_78 (by decide) ?_
          have hPc := hP.sub (ws' := [(h0, .inr (13, fs))]) [0] rfl
          have hDc := hD.sub (ws' := [(h0, .inr (13, fs))]) [0] (by decide) rfl
          have hKc := hK.sub (tys' := []) [] rfl
          have hFc := va_free (wc := [(h0, .inr (13, fs))]) hD hS hA [0] rfl
          refine va_calli (va_runV (As := [.int 1]) (rest := []) ⟨hx, hb, hml, hown, ht⟩ (k_X12_fails l d0 cO dC dI H.size h0 1 fs hlen) (my_V ht M_X12_fails q1992 q53 q1990 (Nat.le_of_ble_eq_true rfl) (Nat.le_of_ble_eq_true rfl)) ⟨PRE.fb, va_recv hK hP (ci := 13) (q0 := 0) rfl rfl, fun U hU hW => ⟨rfl, PRE.mk' hE hS hFc hPc hKc hDc U hU hW⟩⟩ rfl rfl hl.1 rfl (lv_room (Nat.le_of_ble_eq_true rfl)) dX12_request_116 ⟨(Nat.le_of_ble_eq_true rfl), (Nat.le_of_ble_eq_true rfl)⟩) hS (fun q _ h => hFc q h) hFc (fun r69 u68 t H1 locs htt hvm hw hB hz1 hk1 hS => ?_)
          try dsimp only at hw hB
          obtain ⟨hP1, hK1, hD1⟩ := hB
          rw [htt] at hP1
          have hK1 := va_K.moved hvm.symm hK1
          obtain ⟨hP, hD⟩ := va_join (wr := []) (w1 := [(h0, .inr (13, (fs.set 74 (.int 1))))]) hP hD [0] [] rfl rfl (by decide) (by decide) hk1 hFc hP1 hD1
          have hK := (hK.sub (tys' := []) [] rfl).app hK1
          generalize H1 = H at hP hS ⊢
          have hP : va_P (dC, dI) vwCl [(h0, .inr (13, (fs.set 74 (.int 1))))] H := hP
          have hD : va_D A [(h0, .inr (13, (fs.set 74 (.int 1))))] := hD
          have hK : va_K (dC, dI) vwCl [] s := hK
          refine W.widen (k := 0) (n := 0) (Nat.le_of_ble_eq_true rfl) (Nat.le_of_ble_eq_true rfl) ?_
          have hw := hw.1 (by decide)
          subst hw
          refine lv_if_eq (tgt := 124) hx hb dX12_request_119 (by decide) (fun c70 => False.elim (by revert c70; decide)) (fun c70 => ?_)
          refine lv_iconst (v := 0) hx hb dX12_request_122 (by decide) ?_
          have hP9 := hP.sub (ws' := [(h0, .inr (13, (fs.set 74 (.int 1))))]) [0] rfl
          have hD9 := hD.sub (ws' := [(h0, .inr (13, (fs.set 74 (.int 1))))]) [0] (by decide) rfl
          have hK9 := hK.sub (tys' := []) [] rfl
          refine W.widen (k := 0) (n := 0) (Nat.le_of_ble_eq_true rfl) (Nat.le_of_ble_eq_true rfl) ?_
          exact W.iret (v := 0) hx hb hr (fun t ht9 hW9 => ⟨⟨0, 1, rfl, rfl, ⟨(fs.set 74 (.int 1)), (by rw [List.getElem?_set_self (by rw [hlen]; decide)]), POW.mk' ht9 hW9.alike hP9 hK9 hD9⟩⟩, hS.F ht9⟩) hS.2.2 dX12_request_123
        · subst hw
          refine lv_if_eq (tgt := 68) hx hb dX12_request_44 (by decide) (fun c71 => False.elim (by revert c71; decide)) (fun c71 => ?_)
          refine lv_iload_n hx hb dX12_request_47 rfl (lv_at hl 3 rfl) ?_
          refine lv_iconst (v := 4) hx hb dX12_request_48 (by decide) ?_
          refine lv_icmp_lt (tgt := 64) hx hb dX12_request_49 (by decide) (fun c72 => ?_) (fun c72 => ?_)
          · skip
            refine lv_iconst (v := 1) hx hb dX12_request_64 (by decide) ?_
            refine lv_goto (tgt := 69) hx hb dX12_request_65 (by decide) ?_
            refine lv_istore (lv' := [(8, .int 1), (7, .int 0), (0, .ref h0), (1, .int a1), (2, .int a2), (3, .int a3), (4, .int a4), (5, .int a5), (6, .int a6)]) hx hb dX12_request_69 hl (by decide) rfl (fun ls hl => ?_)
            refine lv_aload_n hx hb dX12_request_71 rfl (lv_at hl 2 rfl) ?_
            refine lv_iload hx hb dX12_request_72 (lv_at hl 1 rfl) ?_
            refine lv_if_ne (tgt := 81) hx hb dX12_request_74 (by decide) (fun c73 => False.elim (by revert c73; decide)) (fun c73 => ?_)
            refine lv_iconst (v := 1) hx hb dX12_request_77 (by decide) ?_
            refine lv_goto (tgt := 116) hx hb dX12_request_78 (by decide) ?_
            have hPc := hP.sub (ws' := [(h0, .inr (13, fs))]) [0] rfl
            have hDc := hD.sub (ws' := [(h0, .inr (13, fs))]) [0] (by decide) rfl
            have hKc := hK.sub (tys' := []) [] rfl
            have hFc := va_free (wc := [(h0, .inr (13, fs))]) hD hS hA [0] rfl
            refine va_calli (va_runV (As := [.int 1]) (rest := []) ⟨hx, hb, hml, hown, ht⟩ (k_X12_fails l d0 cO dC dI H.size h0 1 fs hlen) (my_V ht M_X12_fails q1992 q53 q1990 (Nat.le_of_ble_eq_true rfl) (Nat.le_of_ble_eq_true rfl)) ⟨PRE.fb, va_recv hK hP (ci := 13) (q0 := 0) rfl rfl, fun U hU hW => ⟨rfl, PRE.mk' hE hS hFc hPc hKc hDc U hU hW⟩⟩ rfl rfl hl.1 rfl (lv_room (Nat.le_of_ble_eq_true rfl)) dX12_request_116 ⟨(Nat.le_of_ble_eq_true rfl), (Nat.le_of_ble_eq_true rfl)⟩) hS (fun q _ h => hFc q h) hFc (fun r75 u74 t H1 locs htt hvm hw hB hz1 hk1 hS => ?_)
            try dsimp only at hw hB
            obtain ⟨hP1, hK1, hD1⟩ := hB
            rw [htt] at hP1
            have hK1 := va_K.moved hvm.symm hK1
            obtain ⟨hP, hD⟩ := va_join (wr := []) (w1 := [(h0, .inr (13, (fs.set 74 (.int 1))))]) hP hD [0] [] rfl rfl (by decide) (by decide) hk1 hFc hP1 hD1
            have hK := (hK.sub (tys' := []) [] rfl).app hK1
            generalize H1 = H at hP hS ⊢
            have hP : va_P (dC, dI) vwCl [(h0, .inr (13, (fs.set 74 (.int 1))))] H := hP
            have hD : va_D A [(h0, .inr (13, (fs.set 74 (.int 1))))] := hD
            have hK : va_K (dC, dI) vwCl [] s := hK
            refine W.widen (k := 0) (n := 0) (Nat.le_of_ble_eq_true rfl) (Nat.le_of_ble_eq_true rfl) ?_
            have hw := hw.1 (by decide)
            subst hw
            refine lv_if_eq (tgt := 124) hx hb dX12_request_119 (by decide) (fun c76 => False.elim (by revert c76; decide)) (fun c76 => ?_)
            refine lv_iconst (v := 0) hx hb dX12_request_122 (by decide) ?_
            have hP9 := hP.sub (ws' := [(h0, .inr (13, (fs.set 74 (.int 1))))]) [0] rfl
            have hD9 := hD.sub (ws' := [(h0, .inr (13, (fs.set 74 (.int 1))))]) [0] (by decide) rfl
            have hK9 := hK.sub (tys' := []) [] rfl
            refine W.widen (k := 0) (n := 0) (Nat.le_of_ble_eq_true rfl) (Nat.le_of_ble_eq_true rfl) ?_
            exact W.iret (v := 0) hx hb hr (fun t ht9 hW9 => ⟨⟨0, 1, rfl, rfl, ⟨(fs.set 74 (.int 1)), (by rw [List.getElem?_set_self (by rw [hlen]; decide)]), POW.mk' ht9 hW9.alike hP9 hK9 hD9⟩⟩, hS.F ht9⟩) hS.2.2 dX12_request_123
          · skip
            refine lv_iload hx hb dX12_request_52 (lv_at hl 7 rfl) ?_
            refine lv_bipush (v := 97) hx hb dX12_request_54 (by decide) ?_
            refine lv_bipush (v := 122) hx hb dX12_request_56 (by decide) ?_
            have hPc := hP.sub (ws' := []) [] rfl
            have hDc := hD.sub (ws' := []) [] (by decide) rfl
            have hKc := hK.sub (tys' := []) [] rfl
            have hFc := freeNil hS hA
            refine va_calli (va_runS (As := [.int a6, .int 97, .int 122]) (rest := []) ⟨hx, hb, hml, hown, ht⟩ (k_X12_isIn l d0 cO dC dI H.size a6 97 122) (my_S ht M_X12_isIn q1984 q1983 (Nat.le_of_ble_eq_true rfl) (Nat.le_of_ble_eq_true rfl)) ⟨PREp.fb, fun U hU hW => ⟨rfl, PREp.mk' hE hS hFc hPc hKc U hU hW⟩⟩ rfl rfl hl.1 rfl (lv_room (Nat.le_of_ble_eq_true rfl)) dX12_request_58 ⟨(Nat.le_of_ble_eq_true rfl), (Nat.le_of_ble_eq_true rfl)⟩) hS (fun q _ h => hFc q h) hFc (fun r78 u77 t H1 locs htt hvm hw hB hz1 hk1 hS => ?_)
            try dsimp only at hw hB
            have hP1 := hB
            have hP := keepAll hP hk1
            generalize H1 = H at hP hS ⊢
            have hP : va_P (dC, dI) vwCl [(h0, .inr (13, fs))] H := hP
            have hD : va_D A [(h0, .inr (13, fs))] := hD
            have hK : va_K (dC, dI) vwCl [] s := hK
            refine W.widen (k := 0) (n := 0) (Nat.le_of_ble_eq_true rfl) (Nat.le_of_ble_eq_true rfl) ?_
            by_cases hI79 : 97 ≤ a6 ∧ a6 ≤ 122
            · have hw := hw.1 hI79
              subst hw
              refine lv_if_eq (tgt := 68) hx hb dX12_request_61 (by decide) (fun c80 => False.elim (by revert c80; decide)) (fun c80 => ?_)
              refine lv_iconst (v := 1) hx hb dX12_request_64 (by decide) ?_
              refine lv_goto (tgt := 69) hx hb dX12_request_65 (by decide) ?_
              refine lv_istore (lv' := [(8, .int 1), (7, .int 0), (0, .ref h0), (1, .int a1), (2, .int a2), (3, .int a3), (4, .int a4), (5, .int a5), (6, .int a6)]) hx hb dX12_request_69 hl (by decide) rfl (fun ls hl => ?_)
              refine lv_aload_n hx hb dX12_request_71 rfl (lv_at hl 2 rfl) ?_
              refine lv_iload hx hb dX12_request_72 (lv_at hl 1 rfl) ?_
              refine lv_if_ne (tgt := 81) hx hb dX12_request_74 (by decide) (fun c81 => False.elim (by revert c81; decide)) (fun c81 => ?_)
              refine lv_iconst (v := 1) hx hb dX12_request_77 (by decide) ?_
              refine lv_goto (tgt := 116) hx hb dX12_request_78 (by decide) ?_
              have hPc := hP.sub (ws' := [(h0, .inr (13, fs))]) [0] rfl
              have hDc := hD.sub (ws' := [(h0, .inr (13, fs))]) [0] (by decide) rfl
              have hKc := hK.sub (tys' := []) [] rfl
              have hFc := va_free (wc := [(h0, .inr (13, fs))]) hD hS hA [0] rfl
              refine va_calli (va_runV (As := [.int 1]) (rest := []) ⟨hx, hb, hml, hown, ht⟩ (k_X12_fails l d0 cO dC dI H.size h0 1 fs hlen) (my_V ht M_X12_fails q1992 q53 q1990 (Nat.le_of_ble_eq_true rfl) (Nat.le_of_ble_eq_true rfl)) ⟨PRE.fb, va_recv hK hP (ci := 13) (q0 := 0) rfl rfl, fun U hU hW => ⟨rfl, PRE.mk' hE hS hFc hPc hKc hDc U hU hW⟩⟩ rfl rfl hl.1 rfl (lv_room (Nat.le_of_ble_eq_true rfl)) dX12_request_116 ⟨(Nat.le_of_ble_eq_true rfl), (Nat.le_of_ble_eq_true rfl)⟩) hS (fun q _ h => hFc q h) hFc (fun r83 u82 t H1 locs htt hvm hw hB hz1 hk1 hS => ?_)
              try dsimp only at hw hB
              obtain ⟨hP1, hK1, hD1⟩ := hB
              rw [htt] at hP1
              have hK1 := va_K.moved hvm.symm hK1
              obtain ⟨hP, hD⟩ := va_join (wr := []) (w1 := [(h0, .inr (13, (fs.set 74 (.int 1))))]) hP hD [0] [] rfl rfl (by decide) (by decide) hk1 hFc hP1 hD1
              have hK := (hK.sub (tys' := []) [] rfl).app hK1
              generalize H1 = H at hP hS ⊢
              have hP : va_P (dC, dI) vwCl [(h0, .inr (13, (fs.set 74 (.int 1))))] H := hP
              have hD : va_D A [(h0, .inr (13, (fs.set 74 (.int 1))))] := hD
              have hK : va_K (dC, dI) vwCl [] s := hK
              refine W.widen (k := 0) (n := 0) (Nat.le_of_ble_eq_true rfl) (Nat.le_of_ble_eq_true rfl) ?_
              have hw := hw.1 (by decide)
              subst hw
              refine lv_if_eq (tgt := 124) hx hb dX12_request_119 (by decide) (fun c84 => False.elim (by revert c84; decide)) (fun c84 => ?_)
              refine lv_iconst (v := 0) hx hb dX12_request_122 (by decide) ?_
              have hP9 := hP.sub (ws' := [(h0, .inr (13, (fs.set 74 (.int 1))))]) [0] rfl
              have hD9 := hD.sub (ws' := [(h0, .inr (13, (fs.set 74 (.int 1))))]) [0] (by decide) rfl
              have hK9 := hK.sub (tys' := []) [] rfl
              refine W.widen (k := 0) (n := 0) (Nat.le_of_ble_eq_true rfl) (Nat.le_of_ble_eq_true rfl) ?_
              exact W.iret (v := 0) hx hb hr (fun t ht9 hW9 => ⟨⟨0, 1, rfl, rfl, ⟨(fs.set 74 (.int 1)), (by rw [List.getElem?_set_self (by rw [hlen]; decide)]), POW.mk' ht9 hW9.alike hP9 hK9 hD9⟩⟩, hS.F ht9⟩) hS.2.2 dX12_request_123
            · have hw := hw.2 hI79
              subst hw
              refine lv_if_eq (tgt := 68) hx hb dX12_request_61 (by decide) (fun c85 => ?_) (fun c85 => False.elim (by revert c85; decide))
              refine lv_iconst (v := 0) hx hb dX12_request_68 (by decide) ?_
              refine lv_istore (lv' := [(8, .int 0), (7, .int 0), (0, .ref h0), (1, .int a1), (2, .int a2), (3, .int a3), (4, .int a4), (5, .int a5), (6, .int a6)]) hx hb dX12_request_69 hl (by decide) rfl (fun ls hl => ?_)
              refine lv_aload_n hx hb dX12_request_71 rfl (lv_at hl 2 rfl) ?_
              refine lv_iload hx hb dX12_request_72 (lv_at hl 1 rfl) ?_
              refine lv_if_ne (tgt := 81) hx hb dX12_request_74 (by decide) (fun c86 => False.elim (by revert c86; decide)) (fun c86 => ?_)
              refine lv_iconst (v := 1) hx hb dX12_request_77 (by decide) ?_
              refine lv_goto (tgt := 116) hx hb dX12_request_78 (by decide) ?_
              have hPc := hP.sub (ws' := [(h0, .inr (13, fs))]) [0] rfl
              have hDc := hD.sub (ws' := [(h0, .inr (13, fs))]) [0] (by decide) rfl
              have hKc := hK.sub (tys' := []) [] rfl
              have hFc := va_free (wc := [(h0, .inr (13, fs))]) hD hS hA [0] rfl
              refine va_calli (va_runV (As := [.int 1]) (rest := []) ⟨hx, hb, hml, hown, ht⟩ (k_X12_fails l d0 cO dC dI H.size h0 1 fs hlen) (my_V ht M_X12_fails q1992 q53 q1990 (Nat.le_of_ble_eq_true rfl) (Nat.le_of_ble_eq_true rfl)) ⟨PRE.fb, va_recv hK hP (ci := 13) (q0 := 0) rfl rfl, fun U hU hW => ⟨rfl, PRE.mk' hE hS hFc hPc hKc hDc U hU hW⟩⟩ rfl rfl hl.1 rfl (lv_room (Nat.le_of_ble_eq_true rfl)) dX12_request_116 ⟨(Nat.le_of_ble_eq_true rfl), (Nat.le_of_ble_eq_true rfl)⟩) hS (fun q _ h => hFc q h) hFc (fun r88 u87 t H1 locs htt hvm hw hB hz1 hk1 hS => ?_)
              try dsimp only at hw hB
              obtain ⟨hP1, hK1, hD1⟩ := hB
              rw [htt] at hP1
              have hK1 := va_K.moved hvm.symm hK1
              obtain ⟨hP, hD⟩ := va_join (wr := []) (w1 := [(h0, .inr (13, (fs.set 74 (.int 1))))]) hP hD [0] [] rfl rfl (by decide) (by decide) hk1 hFc hP1 hD1
              have hK := (hK.sub (tys' := []) [] rfl).app hK1
              generalize H1 = H at hP hS ⊢
              have hP : va_P (dC, dI) vwCl [(h0, .inr (13, (fs.set 74 (.int 1))))] H := hP
              have hD : va_D A [(h0, .inr (13, (fs.set 74 (.int 1))))] := hD
              have hK : va_K (dC, dI) vwCl [] s := hK
              refine W.widen (k := 0) (n := 0) (Nat.le_of_ble_eq_true rfl) (Nat.le_of_ble_eq_true rfl) ?_
              have hw := hw.1 (by decide)
              subst hw
              refine lv_if_eq (tgt := 124) hx hb dX12_request_119 (by decide) (fun c89 => False.elim (by revert c89; decide)) (fun c89 => ?_)
              refine lv_iconst (v := 0) hx hb dX12_request_122 (by decide) ?_
              have hP9 := hP.sub (ws' := [(h0, .inr (13, (fs.set 74 (.int 1))))]) [0] rfl
              have hD9 := hD.sub (ws' := [(h0, .inr (13, (fs.set 74 (.int 1))))]) [0] (by decide) rfl
              have hK9 := hK.sub (tys' := []) [] rfl
              refine W.widen (k := 0) (n := 0) (Nat.le_of_ble_eq_true rfl) (Nat.le_of_ble_eq_true rfl) ?_
              exact W.iret (v := 0) hx hb hr (fun t ht9 hW9 => ⟨⟨0, 1, rfl, rfl, ⟨(fs.set 74 (.int 1)), (by rw [List.getElem?_set_self (by rw [hlen]; decide)]), POW.mk' ht9 hW9.alike hP9 hK9 hD9⟩⟩, hS.F ht9⟩) hS.2.2 dX12_request_123
    · have hw := hw.2 hI54
      subst hw
      refine lv_if_eq (tgt := 68) hx hb dX12_request_28 (by decide) (fun c90 => ?_) (fun c90 => False.elim (by revert c90; decide))
      refine lv_iconst (v := 0) hx hb dX12_request_68 (by decide) ?_
      refine lv_istore (lv' := [(8, .int 0), (7, .int 0), (0, .ref h0), (1, .int a1), (2, .int a2), (3, .int a3), (4, .int a4), (5, .int a5), (6, .int a6)]) hx hb dX12_request_69 hl (by decide) rfl (fun ls hl => ?_)
      refine lv_aload_n hx hb dX12_request_71 rfl (lv_at hl 2 rfl) ?_
      refine lv_iload hx hb dX12_request_72 (lv_at hl 1 rfl) ?_
      refine lv_if_ne (tgt := 81) hx hb dX12_request_74 (by decide) (fun c91 => False.elim (by revert c91; decide)) (fun c91 => ?_)
      refine lv_iconst (v := 1) hx hb dX12_request_77 (by decide) ?_
      refine lv_goto (tgt := 116) hx hb dX12_request_78 (by decide) ?_
      have hPc := hP.sub (ws' := [(h0, .inr (13, fs))]) [0] rfl
      have hDc := hD.sub (ws' := [(h0, .inr (13, fs))]) [0] (by decide) rfl
      have hKc := hK.sub (tys' := []) [] rfl
      have hFc := va_free (wc := [(h0, .inr (13, fs))]) hD hS hA [0] rfl
      refine va_calli (va_runV (As := [.int 1]) (rest := []) ⟨hx, hb, hml, hown, ht⟩ (k_X12_fails l d0 cO dC dI H.size h0 1 fs hlen) (my_V ht M_X12_fails q1992 q53 q1990 (Nat.le_of_ble_eq_true rfl) (Nat.le_of_ble_eq_true rfl)) ⟨PRE.fb, va_recv hK hP (ci := 13) (q0 := 0) rfl rfl, fun U hU hW => ⟨rfl, PRE.mk' hE hS hFc hPc hKc hDc U hU hW⟩⟩ rfl rfl hl.1 rfl (lv_room (Nat.le_of_ble_eq_true rfl)) dX12_request_116 ⟨(Nat.le_of_ble_eq_true rfl), (Nat.le_of_ble_eq_true rfl)⟩) hS (fun q _ h => hFc q h) hFc (fun r93 u92 t H1 locs htt hvm hw hB hz1 hk1 hS => ?_)
      try dsimp only at hw hB
      obtain ⟨hP1, hK1, hD1⟩ := hB
      rw [htt] at hP1
      have hK1 := va_K.moved hvm.symm hK1
      obtain ⟨hP, hD⟩ := va_join (wr := []) (w1 := [(h0, .inr (13, (fs.set 74 (.int 1))))]) hP hD [0] [] rfl rfl (by decide) (by decide) hk1 hFc hP1 hD1
      have hK := (hK.sub (tys' := []) [] rfl).app hK1
      generalize H1 = H at hP hS ⊢
      have hP : va_P (dC, dI) vwCl [(h0, .inr (13, (fs.set 74 (.int 1))))] H := hP
      have hD : va_D A [(h0, .inr (13, (fs.set 74 (.int 1))))] := hD
      have hK : va_K (dC, dI) vwCl [] s := hK
      refine W.widen (k := 0) (n := 0) (Nat.le_of_ble_eq_true rfl) (Nat.le_of_ble_eq_true rfl) ?_
      have hw := hw.1 (by decide)
      subst hw
      refine lv_if_eq (tgt := 124) hx hb dX12_request_119 (by decide) (fun c94 => False.elim (by revert c94; decide)) (fun c94 => ?_)
      refine lv_iconst (v := 0) hx hb dX12_request_122 (by decide) ?_
      have hP9 := hP.sub (ws' := [(h0, .inr (13, (fs.set 74 (.int 1))))]) [0] rfl
      have hD9 := hD.sub (ws' := [(h0, .inr (13, (fs.set 74 (.int 1))))]) [0] (by decide) rfl
      have hK9 := hK.sub (tys' := []) [] rfl
      refine W.widen (k := 0) (n := 0) (Nat.le_of_ble_eq_true rfl) (Nat.le_of_ble_eq_true rfl) ?_
      exact W.iret (v := 0) hx hb hr (fun t ht9 hW9 => ⟨⟨0, 1, rfl, rfl, ⟨(fs.set 74 (.int 1)), (by rw [List.getElem?_set_self (by rw [hlen]; decide)]), POW.mk' ht9 hW9.alike hP9 hK9 hD9⟩⟩, hS.F ht9⟩) hS.2.2 dX12_request_123
set_option maxHeartbeats 4000000 in
set_option maxRecDepth 100000 in
theorem k_X12_agree (l : Launch) (d0 : Nat) (cO : ClassId) (dC : Nat → ClassId) (dI : Nat → Nat → Nat) (sz : Nat) (h0 : Nat) (a1 : Int32) (fs : List Value) (hlen : fs.length = 75) (hf_files : fs[2]? = some (.int 0)) : Met l yX12_agree (cn yX12_agree cX12_agree 2 (some FieldType.boolean)) (rmd 5 0 0) (va_Pc [.ref h0, .int a1] (PRE d0 cO (dC, dI) (va_A [(h0, .inr (13, fs))] sz) [(h0, .inr (13, fs))] [] sz)) (va_Qi (fun (r : Int32) (u : Int32) => u = 1) (fun (u : Int32) (t : State) => ∃ fs2 : List Value, (fs2[74]? = some (.int u)) ∧ POW (dC, dI) (va_A [(h0, .inr (13, fs))] sz) [(h0, .inr (13, fs2))] [] t) (va_A [(h0, .inr (13, fs))] sz)) 0 0 (va_A [(h0, .inr (13, fs))] sz) := by
  refine Met.ofW (cc := cX12_agree) (maxL := 2) (ret := (some FieldType.boolean)) (by decide) rfl ?_
  intro p e s m args below meth c s₁ B hml hv
  obtain ⟨rfl, hsz, hE, hP, hK, hD0⟩ := hv
  have hx := B.exec
  have hb := B.bytes
  have hr := B.returns
  have hts := atoms_spec (ws := cn yX12_agree cX12_agree 2 (some FieldType.boolean)) B.pre
  have ht : ∀ w ∈ GT, w.before _ s = true := fun w h => hts w (List.mem_cons_of_mem _ h)
  have hown : s.vm.findClass RX12 = some m.cls := findClass_of_methodNamed B.named
  have hlocks := B.notSynchronized
  subst hsz
  have hD := hD0.self (sz := s.heap.size)
  generalize hAe : va_A [(h0, .inr (13, fs))] s.heap.size = A at hD hE ⊢
  have hA : ∀ q : Nat, s.heap.size ≤ q → A q := fun q h => by rw [← hAe]; exact Or.inr h
  obtain ⟨H, hH0⟩ : ∃ H, s.heap = H := ⟨_, rfl⟩
  have hS : va_S A s.heap H [] := by rw [← hH0]; exact va_S.rf
  rw [hH0] at hP
  have hl := lv_entry ([.ref h0, .int a1]) (n := 2) (Nat.le_of_ble_eq_true rfl)
  rw [lg_entry_eq]
  generalize (lg_sl ([.ref h0, .int a1]) ++ List.replicate (2 - (lg_sl ([.ref h0, .int a1])).length) Slot.unset).toArray = ls at hl ⊢
  have hl : lv_has ls 2 [(0, .ref h0), (1, .int a1)] := hl
  rw [hH0]
  refine lv_aload_n hx hb dX12_agree_0 rfl (lv_at hl 0 rfl) ?_
  refine lv_aload_n hx hb dX12_agree_1 rfl (lv_at hl 0 rfl) ?_
  refine lv_iload_n hx hb dX12_agree_2 rfl (lv_at hl 1 rfl) ?_
  have hPc := hP.sub (ws' := [(h0, .inr (13, fs))]) [0] rfl
  have hDc := hD.sub (ws' := [(h0, .inr (13, fs))]) [0] (by decide) rfl
  have hKc := hK.sub (tys' := []) [] rfl
  have hFc := freeNil hS hA
  refine va_calli (va_runV (As := [.int a1]) (rest := [.ref h0]) ⟨hx, hb, hml, hown, ht⟩ (k_X12_isFile l d0 cO dC dI H.size h0 a1 fs hlen hf_files) (my_V ht M_X12_isFile q2004 q55 q2002 (Nat.le_of_ble_eq_true rfl) (Nat.le_of_ble_eq_true rfl)) ⟨PREp.fb, va_recv hK hP (ci := 13) (q0 := 0) rfl rfl, fun U hU hW => ⟨rfl, PREp.mk' hE hS hFc hPc hKc U hU hW⟩⟩ rfl rfl hl.1 rfl (lv_room (Nat.le_of_ble_eq_true rfl)) dX12_agree_3 ⟨(Nat.le_of_ble_eq_true rfl), (Nat.le_of_ble_eq_true rfl)⟩) hS (fun q _ h => hFc q h) hFc (fun r2 u1 t H1 locs htt hvm hw hB hz1 hk1 hS => ?_)
  try dsimp only at hw hB
  have hP1 := hB
  have hP := keepAll hP hk1
  generalize H1 = H at hP hS ⊢
  have hP : va_P (dC, dI) vwCl [(h0, .inr (13, fs))] H := hP
  have hD : va_D A [(h0, .inr (13, fs))] := hD
  have hK : va_K (dC, dI) vwCl [] s := hK
  refine W.widen (k := 0) (n := 0) (Nat.le_of_ble_eq_true rfl) (Nat.le_of_ble_eq_true rfl) ?_
  subst hw
  refine lv_if_eq (tgt := 13) hx hb dX12_agree_6 (by decide) (fun c3 => ?_) (fun c3 => False.elim (by revert c3; decide))
  refine lv_iconst (v := 1) hx hb dX12_agree_13 (by decide) ?_
  have hPc := hP.sub (ws' := [(h0, .inr (13, fs))]) [0] rfl
  have hDc := hD.sub (ws' := [(h0, .inr (13, fs))]) [0] (by decide) rfl
  have hKc := hK.sub (tys' := []) [] rfl
  have hFc := va_free (wc := [(h0, .inr (13, fs))]) hD hS hA [0] rfl
  refine va_calli (va_runV (As := [.int 1]) (rest := []) ⟨hx, hb, hml, hown, ht⟩ (k_X12_fails l d0 cO dC dI H.size h0 1 fs hlen) (my_V ht M_X12_fails q1992 q53 q1990 (Nat.le_of_ble_eq_true rfl) (Nat.le_of_ble_eq_true rfl)) ⟨PRE.fb, va_recv hK hP (ci := 13) (q0 := 0) rfl rfl, fun U hU hW => ⟨rfl, PRE.mk' hE hS hFc hPc hKc hDc U hU hW⟩⟩ rfl rfl hl.1 rfl (lv_room (Nat.le_of_ble_eq_true rfl)) dX12_agree_14 ⟨(Nat.le_of_ble_eq_true rfl), (Nat.le_of_ble_eq_true rfl)⟩) hS (fun q _ h => hFc q h) hFc (fun r5 u4 t H1 locs htt hvm hw hB hz1 hk1 hS => ?_)
  try dsimp only at hw hB
  obtain ⟨hP1, hK1, hD1⟩ := hB
  rw [htt] at hP1
  have hK1 := va_K.moved hvm.symm hK1
  obtain ⟨hP, hD⟩ := va_join (wr := []) (w1 := [(h0, .inr (13, (fs.set 74 (.int 1))))]) hP hD [0] [] rfl rfl (by decide) (by decide) hk1 hFc hP1 hD1
  have hK := (hK.sub (tys' := []) [] rfl).app hK1
  generalize H1 = H at hP hS ⊢
  have hP : va_P (dC, dI) vwCl [(h0, .inr (13, (fs.set 74 (.int 1))))] H := hP
  have hD : va_D A [(h0, .inr (13, (fs.set 74 (.int 1))))] := hD
  have hK : va_K (dC, dI) vwCl [] s := hK
  refine W.widen (k := 0) (n := 0) (Nat.le_of_ble_eq_true rfl) (Nat.le_of_ble_eq_true rfl) ?_
  have hw := hw.1 (by decide)
  subst hw
  refine lv_if_ne (tgt := 24) hx hb dX12_agree_17 (by decide) (fun c6 => ?_) (fun c6 => False.elim (by revert c6; decide))
  refine lv_iconst (v := 0) hx hb dX12_agree_24 (by decide) ?_
  have hP9 := hP.sub (ws' := [(h0, .inr (13, (fs.set 74 (.int 1))))]) [0] rfl
  have hD9 := hD.sub (ws' := [(h0, .inr (13, (fs.set 74 (.int 1))))]) [0] (by decide) rfl
  have hK9 := hK.sub (tys' := []) [] rfl
  refine W.widen (k := 0) (n := 0) (Nat.le_of_ble_eq_true rfl) (Nat.le_of_ble_eq_true rfl) ?_
  exact W.zret (v := 0) hx hb hr (by first | decide | rfl) (fun t ht9 hW9 => ⟨⟨0, 1, rfl, rfl, ⟨(fs.set 74 (.int 1)), (by rw [List.getElem?_set_self (by rw [hlen]; decide)]), POW.mk' ht9 hW9.alike hP9 hK9 hD9⟩⟩, hS.F ht9⟩) hS.2.2 dX12_agree_25
set_option maxHeartbeats 4000000 in
set_option maxRecDepth 100000 in
theorem k_X12_faults (l : Launch) (d0 : Nat) (cO : ClassId) (dC : Nat → ClassId) (dI : Nat → Nat → Nat) (sz : Nat) (h0 : Nat) (a1 a2 : Int32) (fs : List Value) (hlen : fs.length = 75) (hf_files : fs[2]? = some (.int 0)) : Met l yX12_faults (cn yX12_faults cX12_faults 4 (some FieldType.int)) (rmd 5 0 0) (va_Pc [.ref h0, .int a1, .int a2] (PRE d0 cO (dC, dI) (va_A [(h0, .inr (13, fs))] sz) [(h0, .inr (13, fs))] [] sz)) (va_Qi (fun (r : Int32) (u : Int32) => u = 1) (fun (u : Int32) (t : State) => ∃ fs2 : List Value, (fs2[74]? = some (.int u)) ∧ POW (dC, dI) (va_A [(h0, .inr (13, fs))] sz) [(h0, .inr (13, fs2))] [] t) (va_A [(h0, .inr (13, fs))] sz)) 0 0 (va_A [(h0, .inr (13, fs))] sz) := by
  refine Met.ofW (cc := cX12_faults) (maxL := 4) (ret := (some FieldType.int)) (by decide) rfl ?_
  intro p e s m args below meth c s₁ B hml hv
  obtain ⟨rfl, hsz, hE, hP, hK, hD0⟩ := hv
  have hx := B.exec
  have hb := B.bytes
  have hr := B.returns
  have hts := atoms_spec (ws := cn yX12_faults cX12_faults 4 (some FieldType.int)) B.pre
  have ht : ∀ w ∈ GT, w.before _ s = true := fun w h => hts w (List.mem_cons_of_mem _ h)
  have hown : s.vm.findClass RX12 = some m.cls := findClass_of_methodNamed B.named
  have hlocks := B.notSynchronized
  subst hsz
  have hD := hD0.self (sz := s.heap.size)
  generalize hAe : va_A [(h0, .inr (13, fs))] s.heap.size = A at hD hE ⊢
  have hA : ∀ q : Nat, s.heap.size ≤ q → A q := fun q h => by rw [← hAe]; exact Or.inr h
  obtain ⟨H, hH0⟩ : ∃ H, s.heap = H := ⟨_, rfl⟩
  have hS : va_S A s.heap H [] := by rw [← hH0]; exact va_S.rf
  rw [hH0] at hP
  have hl := lv_entry ([.ref h0, .int a1, .int a2]) (n := 4) (Nat.le_of_ble_eq_true rfl)
  rw [lg_entry_eq]
  generalize (lg_sl ([.ref h0, .int a1, .int a2]) ++ List.replicate (4 - (lg_sl ([.ref h0, .int a1, .int a2])).length) Slot.unset).toArray = ls at hl ⊢
  have hl : lv_has ls 4 [(0, .ref h0), (1, .int a1), (2, .int a2)] := hl
  rw [hH0]
  refine lv_iload_n hx hb dX12_faults_0 rfl (lv_at hl 1 rfl) ?_
  have hPc := hP.sub (ws' := []) [] rfl
  have hDc := hD.sub (ws' := []) [] (by decide) rfl
  have hKc := hK.sub (tys' := []) [] rfl
  have hFc := freeNil hS hA
  refine va_calli (va_runS (As := [.int a1]) (rest := []) ⟨hx, hb, hml, hown, ht⟩ (k_X12_isEditor l d0 cO dC dI H.size a1) (my_S ht M_X12_isEditor q2039 q2038 (Nat.le_of_ble_eq_true rfl) (Nat.le_of_ble_eq_true rfl)) ⟨PREp.fb, fun U hU hW => ⟨rfl, PREp.mk' hE hS hFc hPc hKc U hU hW⟩⟩ rfl rfl hl.1 rfl (lv_room (Nat.le_of_ble_eq_true rfl)) dX12_faults_1 ⟨(Nat.le_of_ble_eq_true rfl), (Nat.le_of_ble_eq_true rfl)⟩) hS (fun q _ h => hFc q h) hFc (fun r2 u1 t H1 locs htt hvm hw hB hz1 hk1 hS => ?_)
  try dsimp only at hw hB
  have hP1 := hB
  have hP := keepAll hP hk1
  generalize H1 = H at hP hS ⊢
  have hP : va_P (dC, dI) vwCl [(h0, .inr (13, fs))] H := hP
  have hD : va_D A [(h0, .inr (13, fs))] := hD
  have hK : va_K (dC, dI) vwCl [] s := hK
  refine W.widen (k := 0) (n := 0) (Nat.le_of_ble_eq_true rfl) (Nat.le_of_ble_eq_true rfl) ?_
  by_cases hI3 : 0 ≤ a1 ∧ a1 ≤ 1
  · have hw := hw.1 hI3
    subst hw
    refine lv_if_eq (tgt := 19) hx hb dX12_faults_4 (by decide) (fun c4 => False.elim (by revert c4; decide)) (fun c4 => ?_)
    refine lv_aload_n hx hb dX12_faults_7 rfl (lv_at hl 0 rfl) ?_
    refine lv_iload_n hx hb dX12_faults_8 rfl (lv_at hl 2 rfl) ?_
    have hPc := hP.sub (ws' := [(h0, .inr (13, fs))]) [0] rfl
    have hDc := hD.sub (ws' := [(h0, .inr (13, fs))]) [0] (by decide) rfl
    have hKc := hK.sub (tys' := []) [] rfl
    have hFc := freeNil hS hA
    refine va_calli (va_runV (As := [.int a2]) (rest := []) ⟨hx, hb, hml, hown, ht⟩ (k_X12_isFile l d0 cO dC dI H.size h0 a2 fs hlen hf_files) (my_V ht M_X12_isFile q2004 q55 q2002 (Nat.le_of_ble_eq_true rfl) (Nat.le_of_ble_eq_true rfl)) ⟨PREp.fb, va_recv hK hP (ci := 13) (q0 := 0) rfl rfl, fun U hU hW => ⟨rfl, PREp.mk' hE hS hFc hPc hKc U hU hW⟩⟩ rfl rfl hl.1 rfl (lv_room (Nat.le_of_ble_eq_true rfl)) dX12_faults_9 ⟨(Nat.le_of_ble_eq_true rfl), (Nat.le_of_ble_eq_true rfl)⟩) hS (fun q _ h => hFc q h) hFc (fun r6 u5 t H1 locs htt hvm hw hB hz1 hk1 hS => ?_)
    try dsimp only at hw hB
    have hP1 := hB
    have hP := keepAll hP hk1
    generalize H1 = H at hP hS ⊢
    have hP : va_P (dC, dI) vwCl [(h0, .inr (13, fs))] H := hP
    have hD : va_D A [(h0, .inr (13, fs))] := hD
    have hK : va_K (dC, dI) vwCl [] s := hK
    refine W.widen (k := 0) (n := 0) (Nat.le_of_ble_eq_true rfl) (Nat.le_of_ble_eq_true rfl) ?_
    subst hw
    refine lv_if_eq (tgt := 19) hx hb dX12_faults_12 (by decide) (fun c7 => ?_) (fun c7 => False.elim (by revert c7; decide))
    refine lv_iconst (v := 0) hx hb dX12_faults_19 (by decide) ?_
    refine lv_istore_n (lv' := [(3, .int 0), (0, .ref h0), (1, .int a1), (2, .int a2)]) hx hb dX12_faults_20 rfl hl (by decide) rfl (fun ls hl => ?_)
    refine lv_aload_n hx hb dX12_faults_21 rfl (lv_at hl 1 rfl) ?_
    refine lv_iload_n hx hb dX12_faults_22 rfl (lv_at hl 0 rfl) ?_
    refine lv_if_eq (tgt := 30) hx hb dX12_faults_23 (by decide) (fun c8 => ?_) (fun c8 => False.elim (by revert c8; decide))
    refine lv_iconst (v := 1) hx hb dX12_faults_30 (by decide) ?_
    have hPc := hP.sub (ws' := [(h0, .inr (13, fs))]) [0] rfl
    have hDc := hD.sub (ws' := [(h0, .inr (13, fs))]) [0] (by decide) rfl
    have hKc := hK.sub (tys' := []) [] rfl
    have hFc := va_free (wc := [(h0, .inr (13, fs))]) hD hS hA [0] rfl
    refine va_calli (va_runV (As := [.int 1]) (rest := []) ⟨hx, hb, hml, hown, ht⟩ (k_X12_fails l d0 cO dC dI H.size h0 1 fs hlen) (my_V ht M_X12_fails q1992 q53 q1990 (Nat.le_of_ble_eq_true rfl) (Nat.le_of_ble_eq_true rfl)) ⟨PRE.fb, va_recv hK hP (ci := 13) (q0 := 0) rfl rfl, fun U hU hW => ⟨rfl, PRE.mk' hE hS hFc hPc hKc hDc U hU hW⟩⟩ rfl rfl hl.1 rfl (lv_room (Nat.le_of_ble_eq_true rfl)) dX12_faults_31 ⟨(Nat.le_of_ble_eq_true rfl), (Nat.le_of_ble_eq_true rfl)⟩) hS (fun q _ h => hFc q h) hFc (fun r10 u9 t H1 locs htt hvm hw hB hz1 hk1 hS => ?_)
    try dsimp only at hw hB
    obtain ⟨hP1, hK1, hD1⟩ := hB
    rw [htt] at hP1
    have hK1 := va_K.moved hvm.symm hK1
    obtain ⟨hP, hD⟩ := va_join (wr := []) (w1 := [(h0, .inr (13, (fs.set 74 (.int 1))))]) hP hD [0] [] rfl rfl (by decide) (by decide) hk1 hFc hP1 hD1
    have hK := (hK.sub (tys' := []) [] rfl).app hK1
    generalize H1 = H at hP hS ⊢
    have hP : va_P (dC, dI) vwCl [(h0, .inr (13, (fs.set 74 (.int 1))))] H := hP
    have hD : va_D A [(h0, .inr (13, (fs.set 74 (.int 1))))] := hD
    have hK : va_K (dC, dI) vwCl [] s := hK
    refine W.widen (k := 0) (n := 0) (Nat.le_of_ble_eq_true rfl) (Nat.le_of_ble_eq_true rfl) ?_
    have hw := hw.1 (by decide)
    subst hw
    refine lv_if_eq (tgt := 41) hx hb dX12_faults_34 (by decide) (fun c11 => False.elim (by revert c11; decide)) (fun c11 => ?_)
    refine lv_iconst (v := 0) hx hb dX12_faults_37 (by decide) ?_
    refine lv_goto (tgt := 56) hx hb dX12_faults_38 (by decide) ?_
    have hP9 := hP.sub (ws' := [(h0, .inr (13, (fs.set 74 (.int 1))))]) [0] rfl
    have hD9 := hD.sub (ws' := [(h0, .inr (13, (fs.set 74 (.int 1))))]) [0] (by decide) rfl
    have hK9 := hK.sub (tys' := []) [] rfl
    refine W.widen (k := 0) (n := 0) (Nat.le_of_ble_eq_true rfl) (Nat.le_of_ble_eq_true rfl) ?_
    exact W.iret (v := 0) hx hb hr (fun t ht9 hW9 => ⟨⟨0, 1, rfl, rfl, ⟨(fs.set 74 (.int 1)), (by rw [List.getElem?_set_self (by rw [hlen]; decide)]), POW.mk' ht9 hW9.alike hP9 hK9 hD9⟩⟩, hS.F ht9⟩) hS.2.2 dX12_faults_56
  · have hw := hw.2 hI3
    subst hw
    refine lv_if_eq (tgt := 19) hx hb dX12_faults_4 (by decide) (fun c12 => ?_) (fun c12 => False.elim (by revert c12; decide))
    refine lv_iconst (v := 0) hx hb dX12_faults_19 (by decide) ?_
    refine lv_istore_n (lv' := [(3, .int 0), (0, .ref h0), (1, .int a1), (2, .int a2)]) hx hb dX12_faults_20 rfl hl (by decide) rfl (fun ls hl => ?_)
    refine lv_aload_n hx hb dX12_faults_21 rfl (lv_at hl 1 rfl) ?_
    refine lv_iload_n hx hb dX12_faults_22 rfl (lv_at hl 0 rfl) ?_
    refine lv_if_eq (tgt := 30) hx hb dX12_faults_23 (by decide) (fun c13 => ?_) (fun c13 => False.elim (by revert c13; decide))
    refine lv_iconst (v := 1) hx hb dX12_faults_30 (by decide) ?_
    have hPc := hP.sub (ws' := [(h0, .inr (13, fs))]) [0] rfl
    have hDc := hD.sub (ws' := [(h0, .inr (13, fs))]) [0] (by decide) rfl
    have hKc := hK.sub (tys' := []) [] rfl
    have hFc := va_free (wc := [(h0, .inr (13, fs))]) hD hS hA [0] rfl
    refine va_calli (va_runV (As := [.int 1]) (rest := []) ⟨hx, hb, hml, hown, ht⟩ (k_X12_fails l d0 cO dC dI H.size h0 1 fs hlen) (my_V ht M_X12_fails q1992 q53 q1990 (Nat.le_of_ble_eq_true rfl) (Nat.le_of_ble_eq_true rfl)) ⟨PRE.fb, va_recv hK hP (ci := 13) (q0 := 0) rfl rfl, fun U hU hW => ⟨rfl, PRE.mk' hE hS hFc hPc hKc hDc U hU hW⟩⟩ rfl rfl hl.1 rfl (lv_room (Nat.le_of_ble_eq_true rfl)) dX12_faults_31 ⟨(Nat.le_of_ble_eq_true rfl), (Nat.le_of_ble_eq_true rfl)⟩) hS (fun q _ h => hFc q h) hFc (fun r15 u14 t H1 locs htt hvm hw hB hz1 hk1 hS => ?_)
    try dsimp only at hw hB
    obtain ⟨hP1, hK1, hD1⟩ := hB
    rw [htt] at hP1
    have hK1 := va_K.moved hvm.symm hK1
    obtain ⟨hP, hD⟩ := va_join (wr := []) (w1 := [(h0, .inr (13, (fs.set 74 (.int 1))))]) hP hD [0] [] rfl rfl (by decide) (by decide) hk1 hFc hP1 hD1
    have hK := (hK.sub (tys' := []) [] rfl).app hK1
    generalize H1 = H at hP hS ⊢
    have hP : va_P (dC, dI) vwCl [(h0, .inr (13, (fs.set 74 (.int 1))))] H := hP
    have hD : va_D A [(h0, .inr (13, (fs.set 74 (.int 1))))] := hD
    have hK : va_K (dC, dI) vwCl [] s := hK
    refine W.widen (k := 0) (n := 0) (Nat.le_of_ble_eq_true rfl) (Nat.le_of_ble_eq_true rfl) ?_
    have hw := hw.1 (by decide)
    subst hw
    refine lv_if_eq (tgt := 41) hx hb dX12_faults_34 (by decide) (fun c16 => False.elim (by revert c16; decide)) (fun c16 => ?_)
    refine lv_iconst (v := 0) hx hb dX12_faults_37 (by decide) ?_
    refine lv_goto (tgt := 56) hx hb dX12_faults_38 (by decide) ?_
    have hP9 := hP.sub (ws' := [(h0, .inr (13, (fs.set 74 (.int 1))))]) [0] rfl
    have hD9 := hD.sub (ws' := [(h0, .inr (13, (fs.set 74 (.int 1))))]) [0] (by decide) rfl
    have hK9 := hK.sub (tys' := []) [] rfl
    refine W.widen (k := 0) (n := 0) (Nat.le_of_ble_eq_true rfl) (Nat.le_of_ble_eq_true rfl) ?_
    exact W.iret (v := 0) hx hb hr (fun t ht9 hW9 => ⟨⟨0, 1, rfl, rfl, ⟨(fs.set 74 (.int 1)), (by rw [List.getElem?_set_self (by rw [hlen]; decide)]), POW.mk' ht9 hW9.alike hP9 hK9 hD9⟩⟩, hS.F ht9⟩) hS.2.2 dX12_faults_56
set_option maxHeartbeats 4000000 in
set_option maxRecDepth 100000 in
theorem k_X12_fault (l : Launch) (d0 : Nat) (cO : ClassId) (dC : Nat → ClassId) (dI : Nat → Nat → Nat) (sz : Nat) (h0 : Nat) (a1 a2 a3 : Int32) (fs : List Value) (hlen : fs.length = 75) (hf_files : fs[2]? = some (.int 0)) : Met l yX12_fault (cn yX12_fault cX12_fault 6 (some FieldType.int)) (rmd 5 0 0) (va_Pc [.ref h0, .int a1, .int a2, .int a3] (PRE d0 cO (dC, dI) (va_A [(h0, .inr (13, fs))] sz) [(h0, .inr (13, fs))] [] sz)) (va_Qi (fun (r : Int32) (u : Int32) => u = 1) (fun (u : Int32) (t : State) => ∃ fs2 : List Value, (fs2[74]? = some (.int u)) ∧ POW (dC, dI) (va_A [(h0, .inr (13, fs))] sz) [(h0, .inr (13, fs2))] [] t) (va_A [(h0, .inr (13, fs))] sz)) 0 0 (va_A [(h0, .inr (13, fs))] sz) := by
  refine Met.ofW (cc := cX12_fault) (maxL := 6) (ret := (some FieldType.int)) (by decide) rfl ?_
  intro p e s m args below meth c s₁ B hml hv
  obtain ⟨rfl, hsz, hE, hP, hK, hD0⟩ := hv
  have hx := B.exec
  have hb := B.bytes
  have hr := B.returns
  have hts := atoms_spec (ws := cn yX12_fault cX12_fault 6 (some FieldType.int)) B.pre
  have ht : ∀ w ∈ GT, w.before _ s = true := fun w h => hts w (List.mem_cons_of_mem _ h)
  have hown : s.vm.findClass RX12 = some m.cls := findClass_of_methodNamed B.named
  have hlocks := B.notSynchronized
  subst hsz
  have hD := hD0.self (sz := s.heap.size)
  generalize hAe : va_A [(h0, .inr (13, fs))] s.heap.size = A at hD hE ⊢
  have hA : ∀ q : Nat, s.heap.size ≤ q → A q := fun q h => by rw [← hAe]; exact Or.inr h
  obtain ⟨H, hH0⟩ : ∃ H, s.heap = H := ⟨_, rfl⟩
  have hS : va_S A s.heap H [] := by rw [← hH0]; exact va_S.rf
  rw [hH0] at hP
  have hl := lv_entry ([.ref h0, .int a1, .int a2, .int a3]) (n := 6) (Nat.le_of_ble_eq_true rfl)
  rw [lg_entry_eq]
  generalize (lg_sl ([.ref h0, .int a1, .int a2, .int a3]) ++ List.replicate (6 - (lg_sl ([.ref h0, .int a1, .int a2, .int a3])).length) Slot.unset).toArray = ls at hl ⊢
  have hl : lv_has ls 6 [(0, .ref h0), (1, .int a1), (2, .int a2), (3, .int a3)] := hl
  rw [hH0]
  refine lv_iload_n hx hb dX12_fault_0 rfl (lv_at hl 1 rfl) ?_
  have hPc := hP.sub (ws' := []) [] rfl
  have hDc := hD.sub (ws' := []) [] (by decide) rfl
  have hKc := hK.sub (tys' := []) [] rfl
  have hFc := freeNil hS hA
  refine va_calli (va_runS (As := [.int a1]) (rest := []) ⟨hx, hb, hml, hown, ht⟩ (k_X12_isEditor l d0 cO dC dI H.size a1) (my_S ht M_X12_isEditor q2039 q2038 (Nat.le_of_ble_eq_true rfl) (Nat.le_of_ble_eq_true rfl)) ⟨PREp.fb, fun U hU hW => ⟨rfl, PREp.mk' hE hS hFc hPc hKc U hU hW⟩⟩ rfl rfl hl.1 rfl (lv_room (Nat.le_of_ble_eq_true rfl)) dX12_fault_1 ⟨(Nat.le_of_ble_eq_true rfl), (Nat.le_of_ble_eq_true rfl)⟩) hS (fun q _ h => hFc q h) hFc (fun r2 u1 t H1 locs htt hvm hw hB hz1 hk1 hS => ?_)
  try dsimp only at hw hB
  have hP1 := hB
  have hP := keepAll hP hk1
  generalize H1 = H at hP hS ⊢
  have hP : va_P (dC, dI) vwCl [(h0, .inr (13, fs))] H := hP
  have hD : va_D A [(h0, .inr (13, fs))] := hD
  have hK : va_K (dC, dI) vwCl [] s := hK
  refine W.widen (k := 0) (n := 0) (Nat.le_of_ble_eq_true rfl) (Nat.le_of_ble_eq_true rfl) ?_
  by_cases hI3 : 0 ≤ a1 ∧ a1 ≤ 1
  · have hw := hw.1 hI3
    subst hw
    refine lv_if_eq (tgt := 19) hx hb dX12_fault_4 (by decide) (fun c4 => False.elim (by revert c4; decide)) (fun c4 => ?_)
    refine lv_aload_n hx hb dX12_fault_7 rfl (lv_at hl 0 rfl) ?_
    refine lv_iload_n hx hb dX12_fault_8 rfl (lv_at hl 2 rfl) ?_
    have hPc := hP.sub (ws' := [(h0, .inr (13, fs))]) [0] rfl
    have hDc := hD.sub (ws' := [(h0, .inr (13, fs))]) [0] (by decide) rfl
    have hKc := hK.sub (tys' := []) [] rfl
    have hFc := freeNil hS hA
    refine va_calli (va_runV (As := [.int a2]) (rest := []) ⟨hx, hb, hml, hown, ht⟩ (k_X12_isFile l d0 cO dC dI H.size h0 a2 fs hlen hf_files) (my_V ht M_X12_isFile q2004 q55 q2002 (Nat.le_of_ble_eq_true rfl) (Nat.le_of_ble_eq_true rfl)) ⟨PREp.fb, va_recv hK hP (ci := 13) (q0 := 0) rfl rfl, fun U hU hW => ⟨rfl, PREp.mk' hE hS hFc hPc hKc U hU hW⟩⟩ rfl rfl hl.1 rfl (lv_room (Nat.le_of_ble_eq_true rfl)) dX12_fault_9 ⟨(Nat.le_of_ble_eq_true rfl), (Nat.le_of_ble_eq_true rfl)⟩) hS (fun q _ h => hFc q h) hFc (fun r6 u5 t H1 locs htt hvm hw hB hz1 hk1 hS => ?_)
    try dsimp only at hw hB
    have hP1 := hB
    have hP := keepAll hP hk1
    generalize H1 = H at hP hS ⊢
    have hP : va_P (dC, dI) vwCl [(h0, .inr (13, fs))] H := hP
    have hD : va_D A [(h0, .inr (13, fs))] := hD
    have hK : va_K (dC, dI) vwCl [] s := hK
    refine W.widen (k := 0) (n := 0) (Nat.le_of_ble_eq_true rfl) (Nat.le_of_ble_eq_true rfl) ?_
    subst hw
    refine lv_if_eq (tgt := 19) hx hb dX12_fault_12 (by decide) (fun c7 => ?_) (fun c7 => False.elim (by revert c7; decide))
    refine lv_iconst (v := 0) hx hb dX12_fault_19 (by decide) ?_
    refine lv_istore (lv' := [(4, .int 0), (0, .ref h0), (1, .int a1), (2, .int a2), (3, .int a3)]) hx hb dX12_fault_20 hl (by decide) rfl (fun ls hl => ?_)
    refine lv_iload hx hb dX12_fault_22 (lv_at hl 0 rfl) ?_
    refine lv_if_eq (tgt := 40) hx hb dX12_fault_24 (by decide) (fun c8 => ?_) (fun c8 => False.elim (by revert c8; decide))
    refine lv_sipush (v := 4434) hx hb dX12_fault_40 (by decide) ?_
    refine lv_istore (lv' := [(5, .int 4434), (4, .int 0), (0, .ref h0), (1, .int a1), (2, .int a2), (3, .int a3)]) hx hb dX12_fault_43 hl (by decide) rfl (fun ls hl => ?_)
    refine lv_aload_n hx hb dX12_fault_45 rfl (lv_at hl 2 rfl) ?_
    refine lv_iload hx hb dX12_fault_46 (lv_at hl 1 rfl) ?_
    refine lv_if_eq (tgt := 72) hx hb dX12_fault_48 (by decide) (fun c9 => ?_) (fun c9 => False.elim (by revert c9; decide))
    refine lv_iconst (v := 1) hx hb dX12_fault_72 (by decide) ?_
    have hPc := hP.sub (ws' := [(h0, .inr (13, fs))]) [0] rfl
    have hDc := hD.sub (ws' := [(h0, .inr (13, fs))]) [0] (by decide) rfl
    have hKc := hK.sub (tys' := []) [] rfl
    have hFc := va_free (wc := [(h0, .inr (13, fs))]) hD hS hA [0] rfl
    refine va_calli (va_runV (As := [.int 1]) (rest := []) ⟨hx, hb, hml, hown, ht⟩ (k_X12_fails l d0 cO dC dI H.size h0 1 fs hlen) (my_V ht M_X12_fails q1992 q53 q1990 (Nat.le_of_ble_eq_true rfl) (Nat.le_of_ble_eq_true rfl)) ⟨PRE.fb, va_recv hK hP (ci := 13) (q0 := 0) rfl rfl, fun U hU hW => ⟨rfl, PRE.mk' hE hS hFc hPc hKc hDc U hU hW⟩⟩ rfl rfl hl.1 rfl (lv_room (Nat.le_of_ble_eq_true rfl)) dX12_fault_73 ⟨(Nat.le_of_ble_eq_true rfl), (Nat.le_of_ble_eq_true rfl)⟩) hS (fun q _ h => hFc q h) hFc (fun r11 u10 t H1 locs htt hvm hw hB hz1 hk1 hS => ?_)
    try dsimp only at hw hB
    obtain ⟨hP1, hK1, hD1⟩ := hB
    rw [htt] at hP1
    have hK1 := va_K.moved hvm.symm hK1
    obtain ⟨hP, hD⟩ := va_join (wr := []) (w1 := [(h0, .inr (13, (fs.set 74 (.int 1))))]) hP hD [0] [] rfl rfl (by decide) (by decide) hk1 hFc hP1 hD1
    have hK := (hK.sub (tys' := []) [] rfl).app hK1
    generalize H1 = H at hP hS ⊢
    have hP : va_P (dC, dI) vwCl [(h0, .inr (13, (fs.set 74 (.int 1))))] H := hP
    have hD : va_D A [(h0, .inr (13, (fs.set 74 (.int 1))))] := hD
    have hK : va_K (dC, dI) vwCl [] s := hK
    refine W.widen (k := 0) (n := 0) (Nat.le_of_ble_eq_true rfl) (Nat.le_of_ble_eq_true rfl) ?_
    have hw := hw.1 (by decide)
    subst hw
    refine lv_if_eq (tgt := 83) hx hb dX12_fault_76 (by decide) (fun c12 => False.elim (by revert c12; decide)) (fun c12 => ?_)
    refine lv_iconst (v := 0) hx hb dX12_fault_79 (by decide) ?_
    refine lv_goto (tgt := 94) hx hb dX12_fault_80 (by decide) ?_
    have hP9 := hP.sub (ws' := [(h0, .inr (13, (fs.set 74 (.int 1))))]) [0] rfl
    have hD9 := hD.sub (ws' := [(h0, .inr (13, (fs.set 74 (.int 1))))]) [0] (by decide) rfl
    have hK9 := hK.sub (tys' := []) [] rfl
    refine W.widen (k := 0) (n := 0) (Nat.le_of_ble_eq_true rfl) (Nat.le_of_ble_eq_true rfl) ?_
    exact W.iret (v := 0) hx hb hr (fun t ht9 hW9 => ⟨⟨0, 1, rfl, rfl, ⟨(fs.set 74 (.int 1)), (by rw [List.getElem?_set_self (by rw [hlen]; decide)]), POW.mk' ht9 hW9.alike hP9 hK9 hD9⟩⟩, hS.F ht9⟩) hS.2.2 dX12_fault_94
  · have hw := hw.2 hI3
    subst hw
    refine lv_if_eq (tgt := 19) hx hb dX12_fault_4 (by decide) (fun c13 => ?_) (fun c13 => False.elim (by revert c13; decide))
    refine lv_iconst (v := 0) hx hb dX12_fault_19 (by decide) ?_
    refine lv_istore (lv' := [(4, .int 0), (0, .ref h0), (1, .int a1), (2, .int a2), (3, .int a3)]) hx hb dX12_fault_20 hl (by decide) rfl (fun ls hl => ?_)
    refine lv_iload hx hb dX12_fault_22 (lv_at hl 0 rfl) ?_
    refine lv_if_eq (tgt := 40) hx hb dX12_fault_24 (by decide) (fun c14 => ?_) (fun c14 => False.elim (by revert c14; decide))
    refine lv_sipush (v := 4434) hx hb dX12_fault_40 (by decide) ?_
    refine lv_istore (lv' := [(5, .int 4434), (4, .int 0), (0, .ref h0), (1, .int a1), (2, .int a2), (3, .int a3)]) hx hb dX12_fault_43 hl (by decide) rfl (fun ls hl => ?_)
    refine lv_aload_n hx hb dX12_fault_45 rfl (lv_at hl 2 rfl) ?_
    refine lv_iload hx hb dX12_fault_46 (lv_at hl 1 rfl) ?_
    refine lv_if_eq (tgt := 72) hx hb dX12_fault_48 (by decide) (fun c15 => ?_) (fun c15 => False.elim (by revert c15; decide))
    refine lv_iconst (v := 1) hx hb dX12_fault_72 (by decide) ?_
    have hPc := hP.sub (ws' := [(h0, .inr (13, fs))]) [0] rfl
    have hDc := hD.sub (ws' := [(h0, .inr (13, fs))]) [0] (by decide) rfl
    have hKc := hK.sub (tys' := []) [] rfl
    have hFc := va_free (wc := [(h0, .inr (13, fs))]) hD hS hA [0] rfl
    refine va_calli (va_runV (As := [.int 1]) (rest := []) ⟨hx, hb, hml, hown, ht⟩ (k_X12_fails l d0 cO dC dI H.size h0 1 fs hlen) (my_V ht M_X12_fails q1992 q53 q1990 (Nat.le_of_ble_eq_true rfl) (Nat.le_of_ble_eq_true rfl)) ⟨PRE.fb, va_recv hK hP (ci := 13) (q0 := 0) rfl rfl, fun U hU hW => ⟨rfl, PRE.mk' hE hS hFc hPc hKc hDc U hU hW⟩⟩ rfl rfl hl.1 rfl (lv_room (Nat.le_of_ble_eq_true rfl)) dX12_fault_73 ⟨(Nat.le_of_ble_eq_true rfl), (Nat.le_of_ble_eq_true rfl)⟩) hS (fun q _ h => hFc q h) hFc (fun r17 u16 t H1 locs htt hvm hw hB hz1 hk1 hS => ?_)
    try dsimp only at hw hB
    obtain ⟨hP1, hK1, hD1⟩ := hB
    rw [htt] at hP1
    have hK1 := va_K.moved hvm.symm hK1
    obtain ⟨hP, hD⟩ := va_join (wr := []) (w1 := [(h0, .inr (13, (fs.set 74 (.int 1))))]) hP hD [0] [] rfl rfl (by decide) (by decide) hk1 hFc hP1 hD1
    have hK := (hK.sub (tys' := []) [] rfl).app hK1
    generalize H1 = H at hP hS ⊢
    have hP : va_P (dC, dI) vwCl [(h0, .inr (13, (fs.set 74 (.int 1))))] H := hP
    have hD : va_D A [(h0, .inr (13, (fs.set 74 (.int 1))))] := hD
    have hK : va_K (dC, dI) vwCl [] s := hK
    refine W.widen (k := 0) (n := 0) (Nat.le_of_ble_eq_true rfl) (Nat.le_of_ble_eq_true rfl) ?_
    have hw := hw.1 (by decide)
    subst hw
    refine lv_if_eq (tgt := 83) hx hb dX12_fault_76 (by decide) (fun c18 => False.elim (by revert c18; decide)) (fun c18 => ?_)
    refine lv_iconst (v := 0) hx hb dX12_fault_79 (by decide) ?_
    refine lv_goto (tgt := 94) hx hb dX12_fault_80 (by decide) ?_
    have hP9 := hP.sub (ws' := [(h0, .inr (13, (fs.set 74 (.int 1))))]) [0] rfl
    have hD9 := hD.sub (ws' := [(h0, .inr (13, (fs.set 74 (.int 1))))]) [0] (by decide) rfl
    have hK9 := hK.sub (tys' := []) [] rfl
    refine W.widen (k := 0) (n := 0) (Nat.le_of_ble_eq_true rfl) (Nat.le_of_ble_eq_true rfl) ?_
    exact W.iret (v := 0) hx hb hr (fun t ht9 hW9 => ⟨⟨0, 1, rfl, rfl, ⟨(fs.set 74 (.int 1)), (by rw [List.getElem?_set_self (by rw [hlen]; decide)]), POW.mk' ht9 hW9.alike hP9 hK9 hD9⟩⟩, hS.F ht9⟩) hS.2.2 dX12_fault_94
set_option maxHeartbeats 4000000 in
set_option maxRecDepth 100000 in
theorem k_X12_answer (l : Launch) (d0 : Nat) (cO : ClassId) (dC : Nat → ClassId) (dI : Nat → Nat → Nat) (sz : Nat) (h0 : Nat) (a1 a2 : Int32) (fs : List Value) (hlen : fs.length = 75) (hf_servers : fs[15]? = some (.int 0)) : Met l yX12_answer (cn yX12_answer cX12_answer 8 (some FieldType.int)) (rmd 5 0 0) (va_Pc [.ref h0, .int a1, .int a2] (PRE d0 cO (dC, dI) (va_A [(h0, .inr (13, fs))] sz) [(h0, .inr (13, fs))] [] sz)) (va_Qi (fun (r : Int32) (u : Int32) => u = 1) (fun (u : Int32) (t : State) => ∃ fs2 : List Value, (fs2[74]? = some (.int u)) ∧ POW (dC, dI) (va_A [(h0, .inr (13, fs))] sz) [(h0, .inr (13, fs2))] [] t) (va_A [(h0, .inr (13, fs))] sz)) 0 0 (va_A [(h0, .inr (13, fs))] sz) := by
  refine Met.ofW (cc := cX12_answer) (maxL := 8) (ret := (some FieldType.int)) (by decide) rfl ?_
  intro p e s m args below meth c s₁ B hml hv
  obtain ⟨rfl, hsz, hE, hP, hK, hD0⟩ := hv
  have hx := B.exec
  have hb := B.bytes
  have hr := B.returns
  have hts := atoms_spec (ws := cn yX12_answer cX12_answer 8 (some FieldType.int)) B.pre
  have ht : ∀ w ∈ GT, w.before _ s = true := fun w h => hts w (List.mem_cons_of_mem _ h)
  have hown : s.vm.findClass RX12 = some m.cls := findClass_of_methodNamed B.named
  have hlocks := B.notSynchronized
  subst hsz
  have hD := hD0.self (sz := s.heap.size)
  generalize hAe : va_A [(h0, .inr (13, fs))] s.heap.size = A at hD hE ⊢
  have hA : ∀ q : Nat, s.heap.size ≤ q → A q := fun q h => by rw [← hAe]; exact Or.inr h
  obtain ⟨H, hH0⟩ : ∃ H, s.heap = H := ⟨_, rfl⟩
  have hS : va_S A s.heap H [] := by rw [← hH0]; exact va_S.rf
  rw [hH0] at hP
  have hl := lv_entry ([.ref h0, .int a1, .int a2]) (n := 8) (Nat.le_of_ble_eq_true rfl)
  rw [lg_entry_eq]
  generalize (lg_sl ([.ref h0, .int a1, .int a2]) ++ List.replicate (8 - (lg_sl ([.ref h0, .int a1, .int a2])).length) Slot.unset).toArray = ls at hl ⊢
  have hl : lv_has ls 8 [(0, .ref h0), (1, .int a1), (2, .int a2)] := hl
  rw [hH0]
  refine lv_aload_n hx hb dX12_answer_0 rfl (lv_at hl 0 rfl) ?_
  refine lv_iload_n hx hb dX12_answer_1 rfl (lv_at hl 1 rfl) ?_
  have hPc := hP.sub (ws' := [(h0, .inr (13, fs))]) [0] rfl
  have hDc := hD.sub (ws' := [(h0, .inr (13, fs))]) [0] (by decide) rfl
  have hKc := hK.sub (tys' := []) [] rfl
  have hFc := freeNil hS hA
  refine va_calli (va_runV (As := [.int a1]) (rest := []) ⟨hx, hb, hml, hown, ht⟩ (k_X12_isServer l d0 cO dC dI H.size h0 a1 fs hlen hf_servers) (my_V ht M_X12_isServer q2157 q78 q2155 (Nat.le_of_ble_eq_true rfl) (Nat.le_of_ble_eq_true rfl)) ⟨PREp.fb, va_recv hK hP (ci := 13) (q0 := 0) rfl rfl, fun U hU hW => ⟨rfl, PREp.mk' hE hS hFc hPc hKc U hU hW⟩⟩ rfl rfl hl.1 rfl (lv_room (Nat.le_of_ble_eq_true rfl)) dX12_answer_2 ⟨(Nat.le_of_ble_eq_true rfl), (Nat.le_of_ble_eq_true rfl)⟩) hS (fun q _ h => hFc q h) hFc (fun r2 u1 t H1 locs htt hvm hw hB hz1 hk1 hS => ?_)
  try dsimp only at hw hB
  have hP1 := hB
  have hP := keepAll hP hk1
  generalize H1 = H at hP hS ⊢
  have hP : va_P (dC, dI) vwCl [(h0, .inr (13, fs))] H := hP
  have hD : va_D A [(h0, .inr (13, fs))] := hD
  have hK : va_K (dC, dI) vwCl [] s := hK
  refine W.widen (k := 0) (n := 0) (Nat.le_of_ble_eq_true rfl) (Nat.le_of_ble_eq_true rfl) ?_
  subst hw
  refine lv_if_eq (tgt := 28) hx hb dX12_answer_5 (by decide) (fun c3 => ?_) (fun c3 => False.elim (by revert c3; decide))
  refine lv_iconst (v := 0) hx hb dX12_answer_28 (by decide) ?_
  refine lv_istore_n (lv' := [(3, .int 0), (0, .ref h0), (1, .int a1), (2, .int a2)]) hx hb dX12_answer_29 rfl hl (by decide) rfl (fun ls hl => ?_)
  refine lv_aload_n hx hb dX12_answer_30 rfl (lv_at hl 1 rfl) ?_
  refine lv_iload_n hx hb dX12_answer_31 rfl (lv_at hl 0 rfl) ?_
  refine lv_if_eq (tgt := 39) hx hb dX12_answer_32 (by decide) (fun c4 => ?_) (fun c4 => False.elim (by revert c4; decide))
  refine lv_iconst (v := 1) hx hb dX12_answer_39 (by decide) ?_
  have hPc := hP.sub (ws' := [(h0, .inr (13, fs))]) [0] rfl
  have hDc := hD.sub (ws' := [(h0, .inr (13, fs))]) [0] (by decide) rfl
  have hKc := hK.sub (tys' := []) [] rfl
  have hFc := va_free (wc := [(h0, .inr (13, fs))]) hD hS hA [0] rfl
  refine va_calli (va_runV (As := [.int 1]) (rest := []) ⟨hx, hb, hml, hown, ht⟩ (k_X12_fails l d0 cO dC dI H.size h0 1 fs hlen) (my_V ht M_X12_fails q1992 q53 q1990 (Nat.le_of_ble_eq_true rfl) (Nat.le_of_ble_eq_true rfl)) ⟨PRE.fb, va_recv hK hP (ci := 13) (q0 := 0) rfl rfl, fun U hU hW => ⟨rfl, PRE.mk' hE hS hFc hPc hKc hDc U hU hW⟩⟩ rfl rfl hl.1 rfl (lv_room (Nat.le_of_ble_eq_true rfl)) dX12_answer_40 ⟨(Nat.le_of_ble_eq_true rfl), (Nat.le_of_ble_eq_true rfl)⟩) hS (fun q _ h => hFc q h) hFc (fun r6 u5 t H1 locs htt hvm hw hB hz1 hk1 hS => ?_)
  try dsimp only at hw hB
  obtain ⟨hP1, hK1, hD1⟩ := hB
  rw [htt] at hP1
  have hK1 := va_K.moved hvm.symm hK1
  obtain ⟨hP, hD⟩ := va_join (wr := []) (w1 := [(h0, .inr (13, (fs.set 74 (.int 1))))]) hP hD [0] [] rfl rfl (by decide) (by decide) hk1 hFc hP1 hD1
  have hK := (hK.sub (tys' := []) [] rfl).app hK1
  generalize H1 = H at hP hS ⊢
  have hP : va_P (dC, dI) vwCl [(h0, .inr (13, (fs.set 74 (.int 1))))] H := hP
  have hD : va_D A [(h0, .inr (13, (fs.set 74 (.int 1))))] := hD
  have hK : va_K (dC, dI) vwCl [] s := hK
  refine W.widen (k := 0) (n := 0) (Nat.le_of_ble_eq_true rfl) (Nat.le_of_ble_eq_true rfl) ?_
  have hw := hw.1 (by decide)
  subst hw
  refine lv_if_eq (tgt := 48) hx hb dX12_answer_43 (by decide) (fun c7 => False.elim (by revert c7; decide)) (fun c7 => ?_)
  refine lv_iconst (v := 0) hx hb dX12_answer_46 (by decide) ?_
  have hP9 := hP.sub (ws' := [(h0, .inr (13, (fs.set 74 (.int 1))))]) [0] rfl
  have hD9 := hD.sub (ws' := [(h0, .inr (13, (fs.set 74 (.int 1))))]) [0] (by decide) rfl
  have hK9 := hK.sub (tys' := []) [] rfl
  refine W.widen (k := 0) (n := 0) (Nat.le_of_ble_eq_true rfl) (Nat.le_of_ble_eq_true rfl) ?_
  exact W.iret (v := 0) hx hb hr (fun t ht9 hW9 => ⟨⟨0, 1, rfl, rfl, ⟨(fs.set 74 (.int 1)), (by rw [List.getElem?_set_self (by rw [hlen]; decide)]), POW.mk' ht9 hW9.alike hP9 hK9 hD9⟩⟩, hS.F ht9⟩) hS.2.2 dX12_answer_47
set_option maxHeartbeats 4000000 in
set_option maxRecDepth 100000 in
theorem k_X12_crash (l : Launch) (d0 : Nat) (cO : ClassId) (dC : Nat → ClassId) (dI : Nat → Nat → Nat) (sz : Nat) (h0 : Nat) (a1 : Int32) (fs : List Value) (hlen : fs.length = 75) (hf_servers : fs[15]? = some (.int 0)) : Met l yX12_crash (cn yX12_crash cX12_crash 8 (some FieldType.int)) (rmd 5 0 0) (va_Pc [.ref h0, .int a1] (PRE d0 cO (dC, dI) (va_A [(h0, .inr (13, fs))] sz) [(h0, .inr (13, fs))] [] sz)) (va_Qi (fun (r : Int32) (u : Int32) => u = 1) (fun (u : Int32) (t : State) => ∃ fs2 : List Value, (fs2[74]? = some (.int u)) ∧ POW (dC, dI) (va_A [(h0, .inr (13, fs))] sz) [(h0, .inr (13, fs2))] [] t) (va_A [(h0, .inr (13, fs))] sz)) 0 0 (va_A [(h0, .inr (13, fs))] sz) := by
  refine Met.ofW (cc := cX12_crash) (maxL := 8) (ret := (some FieldType.int)) (by decide) rfl ?_
  intro p e s m args below meth c s₁ B hml hv
  obtain ⟨rfl, hsz, hE, hP, hK, hD0⟩ := hv
  have hx := B.exec
  have hb := B.bytes
  have hr := B.returns
  have hts := atoms_spec (ws := cn yX12_crash cX12_crash 8 (some FieldType.int)) B.pre
  have ht : ∀ w ∈ GT, w.before _ s = true := fun w h => hts w (List.mem_cons_of_mem _ h)
  have hown : s.vm.findClass RX12 = some m.cls := findClass_of_methodNamed B.named
  have hlocks := B.notSynchronized
  subst hsz
  have hD := hD0.self (sz := s.heap.size)
  generalize hAe : va_A [(h0, .inr (13, fs))] s.heap.size = A at hD hE ⊢
  have hA : ∀ q : Nat, s.heap.size ≤ q → A q := fun q h => by rw [← hAe]; exact Or.inr h
  obtain ⟨H, hH0⟩ : ∃ H, s.heap = H := ⟨_, rfl⟩
  have hS : va_S A s.heap H [] := by rw [← hH0]; exact va_S.rf
  rw [hH0] at hP
  have hl := lv_entry ([.ref h0, .int a1]) (n := 8) (Nat.le_of_ble_eq_true rfl)
  rw [lg_entry_eq]
  generalize (lg_sl ([.ref h0, .int a1]) ++ List.replicate (8 - (lg_sl ([.ref h0, .int a1])).length) Slot.unset).toArray = ls at hl ⊢
  have hl : lv_has ls 8 [(0, .ref h0), (1, .int a1)] := hl
  rw [hH0]
  refine lv_aload_n hx hb dX12_crash_0 rfl (lv_at hl 0 rfl) ?_
  refine lv_iload_n hx hb dX12_crash_1 rfl (lv_at hl 1 rfl) ?_
  have hPc := hP.sub (ws' := [(h0, .inr (13, fs))]) [0] rfl
  have hDc := hD.sub (ws' := [(h0, .inr (13, fs))]) [0] (by decide) rfl
  have hKc := hK.sub (tys' := []) [] rfl
  have hFc := freeNil hS hA
  refine va_calli (va_runV (As := [.int a1]) (rest := []) ⟨hx, hb, hml, hown, ht⟩ (k_X12_isServer l d0 cO dC dI H.size h0 a1 fs hlen hf_servers) (my_V ht M_X12_isServer q2157 q78 q2155 (Nat.le_of_ble_eq_true rfl) (Nat.le_of_ble_eq_true rfl)) ⟨PREp.fb, va_recv hK hP (ci := 13) (q0 := 0) rfl rfl, fun U hU hW => ⟨rfl, PREp.mk' hE hS hFc hPc hKc U hU hW⟩⟩ rfl rfl hl.1 rfl (lv_room (Nat.le_of_ble_eq_true rfl)) dX12_crash_2 ⟨(Nat.le_of_ble_eq_true rfl), (Nat.le_of_ble_eq_true rfl)⟩) hS (fun q _ h => hFc q h) hFc (fun r2 u1 t H1 locs htt hvm hw hB hz1 hk1 hS => ?_)
  try dsimp only at hw hB
  have hP1 := hB
  have hP := keepAll hP hk1
  generalize H1 = H at hP hS ⊢
  have hP : va_P (dC, dI) vwCl [(h0, .inr (13, fs))] H := hP
  have hD : va_D A [(h0, .inr (13, fs))] := hD
  have hK : va_K (dC, dI) vwCl [] s := hK
  refine W.widen (k := 0) (n := 0) (Nat.le_of_ble_eq_true rfl) (Nat.le_of_ble_eq_true rfl) ?_
  subst hw
  refine lv_istore_n (lv' := [(2, .int 0), (0, .ref h0), (1, .int a1)]) hx hb dX12_crash_5 rfl hl (by decide) rfl (fun ls hl => ?_)
  refine lv_aload_n hx hb dX12_crash_6 rfl (lv_at hl 1 rfl) ?_
  refine lv_iload_n hx hb dX12_crash_7 rfl (lv_at hl 0 rfl) ?_
  refine lv_if_ne (tgt := 15) hx hb dX12_crash_8 (by decide) (fun c3 => False.elim (by revert c3; decide)) (fun c3 => ?_)
  refine lv_iconst (v := 1) hx hb dX12_crash_11 (by decide) ?_
  refine lv_goto (tgt := 29) hx hb dX12_crash_12 (by decide) ?_
  have hPc := hP.sub (ws' := [(h0, .inr (13, fs))]) [0] rfl
  have hDc := hD.sub (ws' := [(h0, .inr (13, fs))]) [0] (by decide) rfl
  have hKc := hK.sub (tys' := []) [] rfl
  have hFc := va_free (wc := [(h0, .inr (13, fs))]) hD hS hA [0] rfl
  refine va_calli (va_runV (As := [.int 1]) (rest := []) ⟨hx, hb, hml, hown, ht⟩ (k_X12_fails l d0 cO dC dI H.size h0 1 fs hlen) (my_V ht M_X12_fails q1992 q53 q1990 (Nat.le_of_ble_eq_true rfl) (Nat.le_of_ble_eq_true rfl)) ⟨PRE.fb, va_recv hK hP (ci := 13) (q0 := 0) rfl rfl, fun U hU hW => ⟨rfl, PRE.mk' hE hS hFc hPc hKc hDc U hU hW⟩⟩ rfl rfl hl.1 rfl (lv_room (Nat.le_of_ble_eq_true rfl)) dX12_crash_29 ⟨(Nat.le_of_ble_eq_true rfl), (Nat.le_of_ble_eq_true rfl)⟩) hS (fun q _ h => hFc q h) hFc (fun r5 u4 t H1 locs htt hvm hw hB hz1 hk1 hS => ?_)
  try dsimp only at hw hB
  obtain ⟨hP1, hK1, hD1⟩ := hB
  rw [htt] at hP1
  have hK1 := va_K.moved hvm.symm hK1
  obtain ⟨hP, hD⟩ := va_join (wr := []) (w1 := [(h0, .inr (13, (fs.set 74 (.int 1))))]) hP hD [0] [] rfl rfl (by decide) (by decide) hk1 hFc hP1 hD1
  have hK := (hK.sub (tys' := []) [] rfl).app hK1
  generalize H1 = H at hP hS ⊢
  have hP : va_P (dC, dI) vwCl [(h0, .inr (13, (fs.set 74 (.int 1))))] H := hP
  have hD : va_D A [(h0, .inr (13, (fs.set 74 (.int 1))))] := hD
  have hK : va_K (dC, dI) vwCl [] s := hK
  refine W.widen (k := 0) (n := 0) (Nat.le_of_ble_eq_true rfl) (Nat.le_of_ble_eq_true rfl) ?_
  have hw := hw.1 (by decide)
  subst hw
  refine lv_if_eq (tgt := 37) hx hb dX12_crash_32 (by decide) (fun c6 => False.elim (by revert c6; decide)) (fun c6 => ?_)
  refine lv_iconst (v := 0) hx hb dX12_crash_35 (by decide) ?_
  have hP9 := hP.sub (ws' := [(h0, .inr (13, (fs.set 74 (.int 1))))]) [0] rfl
  have hD9 := hD.sub (ws' := [(h0, .inr (13, (fs.set 74 (.int 1))))]) [0] (by decide) rfl
  have hK9 := hK.sub (tys' := []) [] rfl
  refine W.widen (k := 0) (n := 0) (Nat.le_of_ble_eq_true rfl) (Nat.le_of_ble_eq_true rfl) ?_
  exact W.iret (v := 0) hx hb hr (fun t ht9 hW9 => ⟨⟨0, 1, rfl, rfl, ⟨(fs.set 74 (.int 1)), (by rw [List.getElem?_set_self (by rw [hlen]; decide)]), POW.mk' ht9 hW9.alike hP9 hK9 hD9⟩⟩, hS.F ht9⟩) hS.2.2 dX12_crash_36
set_option maxHeartbeats 4000000 in
set_option maxRecDepth 100000 in
theorem k_X12_start (l : Launch) (d0 : Nat) (cO : ClassId) (dC : Nat → ClassId) (dI : Nat → Nat → Nat) (sz : Nat) (h0 : Nat) (a1 : Int32) (fs : List Value) (hlen : fs.length = 75) (hf_servers : fs[15]? = some (.int 0)) : Met l yX12_start (cn yX12_start cX12_start 5 (some FieldType.int)) (rmd 5 0 0) (va_Pc [.ref h0, .int a1] (PRE d0 cO (dC, dI) (va_A [(h0, .inr (13, fs))] sz) [(h0, .inr (13, fs))] [] sz)) (va_Qi (fun (r : Int32) (u : Int32) => u = 1) (fun (u : Int32) (t : State) => ∃ fs2 : List Value, (fs2[74]? = some (.int u)) ∧ POW (dC, dI) (va_A [(h0, .inr (13, fs))] sz) [(h0, .inr (13, fs2))] [] t) (va_A [(h0, .inr (13, fs))] sz)) 0 0 (va_A [(h0, .inr (13, fs))] sz) := by
  refine Met.ofW (cc := cX12_start) (maxL := 5) (ret := (some FieldType.int)) (by decide) rfl ?_
  intro p e s m args below meth c s₁ B hml hv
  obtain ⟨rfl, hsz, hE, hP, hK, hD0⟩ := hv
  have hx := B.exec
  have hb := B.bytes
  have hr := B.returns
  have hts := atoms_spec (ws := cn yX12_start cX12_start 5 (some FieldType.int)) B.pre
  have ht : ∀ w ∈ GT, w.before _ s = true := fun w h => hts w (List.mem_cons_of_mem _ h)
  have hown : s.vm.findClass RX12 = some m.cls := findClass_of_methodNamed B.named
  have hlocks := B.notSynchronized
  subst hsz
  have hD := hD0.self (sz := s.heap.size)
  generalize hAe : va_A [(h0, .inr (13, fs))] s.heap.size = A at hD hE ⊢
  have hA : ∀ q : Nat, s.heap.size ≤ q → A q := fun q h => by rw [← hAe]; exact Or.inr h
  obtain ⟨H, hH0⟩ : ∃ H, s.heap = H := ⟨_, rfl⟩
  have hS : va_S A s.heap H [] := by rw [← hH0]; exact va_S.rf
  rw [hH0] at hP
  have hl := lv_entry ([.ref h0, .int a1]) (n := 5) (Nat.le_of_ble_eq_true rfl)
  rw [lg_entry_eq]
  generalize (lg_sl ([.ref h0, .int a1]) ++ List.replicate (5 - (lg_sl ([.ref h0, .int a1])).length) Slot.unset).toArray = ls at hl ⊢
  have hl : lv_has ls 5 [(0, .ref h0), (1, .int a1)] := hl
  rw [hH0]
  refine lv_aload_n hx hb dX12_start_0 rfl (lv_at hl 0 rfl) ?_
  refine lv_iload_n hx hb dX12_start_1 rfl (lv_at hl 1 rfl) ?_
  have hPc := hP.sub (ws' := [(h0, .inr (13, fs))]) [0] rfl
  have hDc := hD.sub (ws' := [(h0, .inr (13, fs))]) [0] (by decide) rfl
  have hKc := hK.sub (tys' := []) [] rfl
  have hFc := freeNil hS hA
  refine va_calli (va_runV (As := [.int a1]) (rest := []) ⟨hx, hb, hml, hown, ht⟩ (k_X12_isServer l d0 cO dC dI H.size h0 a1 fs hlen hf_servers) (my_V ht M_X12_isServer q2157 q78 q2155 (Nat.le_of_ble_eq_true rfl) (Nat.le_of_ble_eq_true rfl)) ⟨PREp.fb, va_recv hK hP (ci := 13) (q0 := 0) rfl rfl, fun U hU hW => ⟨rfl, PREp.mk' hE hS hFc hPc hKc U hU hW⟩⟩ rfl rfl hl.1 rfl (lv_room (Nat.le_of_ble_eq_true rfl)) dX12_start_2 ⟨(Nat.le_of_ble_eq_true rfl), (Nat.le_of_ble_eq_true rfl)⟩) hS (fun q _ h => hFc q h) hFc (fun r2 u1 t H1 locs htt hvm hw hB hz1 hk1 hS => ?_)
  try dsimp only at hw hB
  have hP1 := hB
  have hP := keepAll hP hk1
  generalize H1 = H at hP hS ⊢
  have hP : va_P (dC, dI) vwCl [(h0, .inr (13, fs))] H := hP
  have hD : va_D A [(h0, .inr (13, fs))] := hD
  have hK : va_K (dC, dI) vwCl [] s := hK
  refine W.widen (k := 0) (n := 0) (Nat.le_of_ble_eq_true rfl) (Nat.le_of_ble_eq_true rfl) ?_
  subst hw
  refine lv_istore_n (lv' := [(2, .int 0), (0, .ref h0), (1, .int a1)]) hx hb dX12_start_5 rfl hl (by decide) rfl (fun ls hl => ?_)
  refine lv_aload_n hx hb dX12_start_6 rfl (lv_at hl 1 rfl) ?_
  refine lv_iload_n hx hb dX12_start_7 rfl (lv_at hl 0 rfl) ?_
  refine lv_if_ne (tgt := 15) hx hb dX12_start_8 (by decide) (fun c3 => False.elim (by revert c3; decide)) (fun c3 => ?_)
  refine lv_iconst (v := 1) hx hb dX12_start_11 (by decide) ?_
  refine lv_goto (tgt := 29) hx hb dX12_start_12 (by decide) ?_
  have hPc := hP.sub (ws' := [(h0, .inr (13, fs))]) [0] rfl
  have hDc := hD.sub (ws' := [(h0, .inr (13, fs))]) [0] (by decide) rfl
  have hKc := hK.sub (tys' := []) [] rfl
  have hFc := va_free (wc := [(h0, .inr (13, fs))]) hD hS hA [0] rfl
  refine va_calli (va_runV (As := [.int 1]) (rest := []) ⟨hx, hb, hml, hown, ht⟩ (k_X12_fails l d0 cO dC dI H.size h0 1 fs hlen) (my_V ht M_X12_fails q1992 q53 q1990 (Nat.le_of_ble_eq_true rfl) (Nat.le_of_ble_eq_true rfl)) ⟨PRE.fb, va_recv hK hP (ci := 13) (q0 := 0) rfl rfl, fun U hU hW => ⟨rfl, PRE.mk' hE hS hFc hPc hKc hDc U hU hW⟩⟩ rfl rfl hl.1 rfl (lv_room (Nat.le_of_ble_eq_true rfl)) dX12_start_29 ⟨(Nat.le_of_ble_eq_true rfl), (Nat.le_of_ble_eq_true rfl)⟩) hS (fun q _ h => hFc q h) hFc (fun r5 u4 t H1 locs htt hvm hw hB hz1 hk1 hS => ?_)
  try dsimp only at hw hB
  obtain ⟨hP1, hK1, hD1⟩ := hB
  rw [htt] at hP1
  have hK1 := va_K.moved hvm.symm hK1
  obtain ⟨hP, hD⟩ := va_join (wr := []) (w1 := [(h0, .inr (13, (fs.set 74 (.int 1))))]) hP hD [0] [] rfl rfl (by decide) (by decide) hk1 hFc hP1 hD1
  have hK := (hK.sub (tys' := []) [] rfl).app hK1
  generalize H1 = H at hP hS ⊢
  have hP : va_P (dC, dI) vwCl [(h0, .inr (13, (fs.set 74 (.int 1))))] H := hP
  have hD : va_D A [(h0, .inr (13, (fs.set 74 (.int 1))))] := hD
  have hK : va_K (dC, dI) vwCl [] s := hK
  refine W.widen (k := 0) (n := 0) (Nat.le_of_ble_eq_true rfl) (Nat.le_of_ble_eq_true rfl) ?_
  have hw := hw.1 (by decide)
  subst hw
  refine lv_if_eq (tgt := 37) hx hb dX12_start_32 (by decide) (fun c6 => False.elim (by revert c6; decide)) (fun c6 => ?_)
  refine lv_iconst (v := 0) hx hb dX12_start_35 (by decide) ?_
  have hP9 := hP.sub (ws' := [(h0, .inr (13, (fs.set 74 (.int 1))))]) [0] rfl
  have hD9 := hD.sub (ws' := [(h0, .inr (13, (fs.set 74 (.int 1))))]) [0] (by decide) rfl
  have hK9 := hK.sub (tys' := []) [] rfl
  refine W.widen (k := 0) (n := 0) (Nat.le_of_ble_eq_true rfl) (Nat.le_of_ble_eq_true rfl) ?_
  exact W.iret (v := 0) hx hb hr (fun t ht9 hW9 => ⟨⟨0, 1, rfl, rfl, ⟨(fs.set 74 (.int 1)), (by rw [List.getElem?_set_self (by rw [hlen]; decide)]), POW.mk' ht9 hW9.alike hP9 hK9 hD9⟩⟩, hS.F ht9⟩) hS.2.2 dX12_start_36
set_option maxHeartbeats 4000000 in
set_option maxRecDepth 100000 in
theorem k_X12_tellFaults (l : Launch) (d0 : Nat) (cO : ClassId) (dC : Nat → ClassId) (dI : Nat → Nat → Nat) (sz : Nat) (h0 : Nat) (a1 a2 : Int32) (fs : List Value) (hlen : fs.length = 75) (hf_files : fs[2]? = some (.int 0)) (hf_servers : fs[15]? = some (.int 0)) : Met l yX12_tellFaults (cn yX12_tellFaults cX12_tellFaults 7 (some FieldType.int)) (rmd 5 0 0) (va_Pc [.ref h0, .int a1, .int a2] (PRE d0 cO (dC, dI) (va_A [(h0, .inr (13, fs))] sz) [(h0, .inr (13, fs))] [] sz)) (va_Qi (fun (r : Int32) (u : Int32) => u = 1) (fun (u : Int32) (t : State) => ∃ fs2 : List Value, (fs2[74]? = some (.int u)) ∧ POW (dC, dI) (va_A [(h0, .inr (13, fs))] sz) [(h0, .inr (13, fs2))] [] t) (va_A [(h0, .inr (13, fs))] sz)) 0 0 (va_A [(h0, .inr (13, fs))] sz) := by
  refine Met.ofW (cc := cX12_tellFaults) (maxL := 7) (ret := (some FieldType.int)) (by decide) rfl ?_
  intro p e s m args below meth c s₁ B hml hv
  obtain ⟨rfl, hsz, hE, hP, hK, hD0⟩ := hv
  have hx := B.exec
  have hb := B.bytes
  have hr := B.returns
  have hts := atoms_spec (ws := cn yX12_tellFaults cX12_tellFaults 7 (some FieldType.int)) B.pre
  have ht : ∀ w ∈ GT, w.before _ s = true := fun w h => hts w (List.mem_cons_of_mem _ h)
  have hown : s.vm.findClass RX12 = some m.cls := findClass_of_methodNamed B.named
  have hlocks := B.notSynchronized
  subst hsz
  have hD := hD0.self (sz := s.heap.size)
  generalize hAe : va_A [(h0, .inr (13, fs))] s.heap.size = A at hD hE ⊢
  have hA : ∀ q : Nat, s.heap.size ≤ q → A q := fun q h => by rw [← hAe]; exact Or.inr h
  obtain ⟨H, hH0⟩ : ∃ H, s.heap = H := ⟨_, rfl⟩
  have hS : va_S A s.heap H [] := by rw [← hH0]; exact va_S.rf
  rw [hH0] at hP
  have hl := lv_entry ([.ref h0, .int a1, .int a2]) (n := 7) (Nat.le_of_ble_eq_true rfl)
  rw [lg_entry_eq]
  generalize (lg_sl ([.ref h0, .int a1, .int a2]) ++ List.replicate (7 - (lg_sl ([.ref h0, .int a1, .int a2])).length) Slot.unset).toArray = ls at hl ⊢
  have hl : lv_has ls 7 [(0, .ref h0), (1, .int a1), (2, .int a2)] := hl
  rw [hH0]
  refine lv_aload_n hx hb dX12_tellFaults_0 rfl (lv_at hl 0 rfl) ?_
  refine lv_iload_n hx hb dX12_tellFaults_1 rfl (lv_at hl 1 rfl) ?_
  have hPc := hP.sub (ws' := [(h0, .inr (13, fs))]) [0] rfl
  have hDc := hD.sub (ws' := [(h0, .inr (13, fs))]) [0] (by decide) rfl
  have hKc := hK.sub (tys' := []) [] rfl
  have hFc := freeNil hS hA
  refine va_calli (va_runV (As := [.int a1]) (rest := []) ⟨hx, hb, hml, hown, ht⟩ (k_X12_isServer l d0 cO dC dI H.size h0 a1 fs hlen hf_servers) (my_V ht M_X12_isServer q2157 q78 q2155 (Nat.le_of_ble_eq_true rfl) (Nat.le_of_ble_eq_true rfl)) ⟨PREp.fb, va_recv hK hP (ci := 13) (q0 := 0) rfl rfl, fun U hU hW => ⟨rfl, PREp.mk' hE hS hFc hPc hKc U hU hW⟩⟩ rfl rfl hl.1 rfl (lv_room (Nat.le_of_ble_eq_true rfl)) dX12_tellFaults_2 ⟨(Nat.le_of_ble_eq_true rfl), (Nat.le_of_ble_eq_true rfl)⟩) hS (fun q _ h => hFc q h) hFc (fun r2 u1 t H1 locs htt hvm hw hB hz1 hk1 hS => ?_)
  try dsimp only at hw hB
  have hP1 := hB
  have hP := keepAll hP hk1
  generalize H1 = H at hP hS ⊢
  have hP : va_P (dC, dI) vwCl [(h0, .inr (13, fs))] H := hP
  have hD : va_D A [(h0, .inr (13, fs))] := hD
  have hK : va_K (dC, dI) vwCl [] s := hK
  refine W.widen (k := 0) (n := 0) (Nat.le_of_ble_eq_true rfl) (Nat.le_of_ble_eq_true rfl) ?_
  subst hw
  refine lv_if_eq (tgt := 20) hx hb dX12_tellFaults_5 (by decide) (fun c3 => ?_) (fun c3 => False.elim (by revert c3; decide))
  refine lv_iconst (v := 0) hx hb dX12_tellFaults_20 (by decide) ?_
  refine lv_istore_n (lv' := [(3, .int 0), (0, .ref h0), (1, .int a1), (2, .int a2)]) hx hb dX12_tellFaults_21 rfl hl (by decide) rfl (fun ls hl => ?_)
  refine lv_aload_n hx hb dX12_tellFaults_22 rfl (lv_at hl 1 rfl) ?_
  refine lv_iload_n hx hb dX12_tellFaults_23 rfl (lv_at hl 0 rfl) ?_
  refine lv_if_ne (tgt := 31) hx hb dX12_tellFaults_24 (by decide) (fun c4 => False.elim (by revert c4; decide)) (fun c4 => ?_)
  refine lv_iconst (v := 1) hx hb dX12_tellFaults_27 (by decide) ?_
  refine lv_goto (tgt := 49) hx hb dX12_tellFaults_28 (by decide) ?_
  have hPc := hP.sub (ws' := [(h0, .inr (13, fs))]) [0] rfl
  have hDc := hD.sub (ws' := [(h0, .inr (13, fs))]) [0] (by decide) rfl
  have hKc := hK.sub (tys' := []) [] rfl
  have hFc := va_free (wc := [(h0, .inr (13, fs))]) hD hS hA [0] rfl
  refine va_calli (va_runV (As := [.int 1]) (rest := []) ⟨hx, hb, hml, hown, ht⟩ (k_X12_fails l d0 cO dC dI H.size h0 1 fs hlen) (my_V ht M_X12_fails q1992 q53 q1990 (Nat.le_of_ble_eq_true rfl) (Nat.le_of_ble_eq_true rfl)) ⟨PRE.fb, va_recv hK hP (ci := 13) (q0 := 0) rfl rfl, fun U hU hW => ⟨rfl, PRE.mk' hE hS hFc hPc hKc hDc U hU hW⟩⟩ rfl rfl hl.1 rfl (lv_room (Nat.le_of_ble_eq_true rfl)) dX12_tellFaults_49 ⟨(Nat.le_of_ble_eq_true rfl), (Nat.le_of_ble_eq_true rfl)⟩) hS (fun q _ h => hFc q h) hFc (fun r6 u5 t H1 locs htt hvm hw hB hz1 hk1 hS => ?_)
  try dsimp only at hw hB
  obtain ⟨hP1, hK1, hD1⟩ := hB
  rw [htt] at hP1
  have hK1 := va_K.moved hvm.symm hK1
  obtain ⟨hP, hD⟩ := va_join (wr := []) (w1 := [(h0, .inr (13, (fs.set 74 (.int 1))))]) hP hD [0] [] rfl rfl (by decide) (by decide) hk1 hFc hP1 hD1
  have hK := (hK.sub (tys' := []) [] rfl).app hK1
  generalize H1 = H at hP hS ⊢
  have hP : va_P (dC, dI) vwCl [(h0, .inr (13, (fs.set 74 (.int 1))))] H := hP
  have hD : va_D A [(h0, .inr (13, (fs.set 74 (.int 1))))] := hD
  have hK : va_K (dC, dI) vwCl [] s := hK
  refine W.widen (k := 0) (n := 0) (Nat.le_of_ble_eq_true rfl) (Nat.le_of_ble_eq_true rfl) ?_
  have hw := hw.1 (by decide)
  subst hw
  refine lv_if_eq (tgt := 57) hx hb dX12_tellFaults_52 (by decide) (fun c7 => False.elim (by revert c7; decide)) (fun c7 => ?_)
  refine lv_iconst (v := 0) hx hb dX12_tellFaults_55 (by decide) ?_
  have hP9 := hP.sub (ws' := [(h0, .inr (13, (fs.set 74 (.int 1))))]) [0] rfl
  have hD9 := hD.sub (ws' := [(h0, .inr (13, (fs.set 74 (.int 1))))]) [0] (by decide) rfl
  have hK9 := hK.sub (tys' := []) [] rfl
  refine W.widen (k := 0) (n := 0) (Nat.le_of_ble_eq_true rfl) (Nat.le_of_ble_eq_true rfl) ?_
  exact W.iret (v := 0) hx hb hr (fun t ht9 hW9 => ⟨⟨0, 1, rfl, rfl, ⟨(fs.set 74 (.int 1)), (by rw [List.getElem?_set_self (by rw [hlen]; decide)]), POW.mk' ht9 hW9.alike hP9 hK9 hD9⟩⟩, hS.F ht9⟩) hS.2.2 dX12_tellFaults_56
set_option maxHeartbeats 4000000 in
set_option maxRecDepth 100000 in
theorem k_X12_version (l : Launch) (d0 : Nat) (cO : ClassId) (dC : Nat → ClassId) (dI : Nat → Nat → Nat) (sz : Nat) (h0 : Nat) (a1 a2 : Int32) (fs : List Value) (hlen : fs.length = 75) (hf_files : fs[2]? = some (.int 0)) (hf_servers : fs[15]? = some (.int 0)) : Met l yX12_version (cn yX12_version cX12_version 3 (some FieldType.int)) (rmd 5 0 0) (va_Pc [.ref h0, .int a1, .int a2] (PRE d0 cO (dC, dI) (va_A [(h0, .inr (13, fs))] sz) [(h0, .inr (13, fs))] [] sz)) (va_Qi (fun (r : Int32) (u : Int32) => u = 1) (fun (u : Int32) (t : State) => ∃ fs2 : List Value, (fs2[74]? = some (.int u)) ∧ POW (dC, dI) (va_A [(h0, .inr (13, fs))] sz) [(h0, .inr (13, fs2))] [] t) (va_A [(h0, .inr (13, fs))] sz)) 0 0 (va_A [(h0, .inr (13, fs))] sz) := by
  refine Met.ofW (cc := cX12_version) (maxL := 3) (ret := (some FieldType.int)) (by decide) rfl ?_
  intro p e s m args below meth c s₁ B hml hv
  obtain ⟨rfl, hsz, hE, hP, hK, hD0⟩ := hv
  have hx := B.exec
  have hb := B.bytes
  have hr := B.returns
  have hts := atoms_spec (ws := cn yX12_version cX12_version 3 (some FieldType.int)) B.pre
  have ht : ∀ w ∈ GT, w.before _ s = true := fun w h => hts w (List.mem_cons_of_mem _ h)
  have hown : s.vm.findClass RX12 = some m.cls := findClass_of_methodNamed B.named
  have hlocks := B.notSynchronized
  subst hsz
  have hD := hD0.self (sz := s.heap.size)
  generalize hAe : va_A [(h0, .inr (13, fs))] s.heap.size = A at hD hE ⊢
  have hA : ∀ q : Nat, s.heap.size ≤ q → A q := fun q h => by rw [← hAe]; exact Or.inr h
  obtain ⟨H, hH0⟩ : ∃ H, s.heap = H := ⟨_, rfl⟩
  have hS : va_S A s.heap H [] := by rw [← hH0]; exact va_S.rf
  rw [hH0] at hP
  have hl := lv_entry ([.ref h0, .int a1, .int a2]) (n := 3) (Nat.le_of_ble_eq_true rfl)
  rw [lg_entry_eq]
  generalize (lg_sl ([.ref h0, .int a1, .int a2]) ++ List.replicate (3 - (lg_sl ([.ref h0, .int a1, .int a2])).length) Slot.unset).toArray = ls at hl ⊢
  have hl : lv_has ls 3 [(0, .ref h0), (1, .int a1), (2, .int a2)] := hl
  rw [hH0]
  refine lv_aload_n hx hb dX12_version_0 rfl (lv_at hl 0 rfl) ?_
  refine lv_aload_n hx hb dX12_version_1 rfl (lv_at hl 0 rfl) ?_
  refine lv_iload_n hx hb dX12_version_2 rfl (lv_at hl 1 rfl) ?_
  refine lv_iload_n hx hb dX12_version_3 rfl (lv_at hl 2 rfl) ?_
  have hPc := hP.sub (ws' := [(h0, .inr (13, fs))]) [0] rfl
  have hDc := hD.sub (ws' := [(h0, .inr (13, fs))]) [0] (by decide) rfl
  have hKc := hK.sub (tys' := []) [] rfl
  have hFc := freeNil hS hA
  refine va_calli (va_runV (As := [.int a1, .int a2]) (rest := [.ref h0]) ⟨hx, hb, hml, hown, ht⟩ (k_X12_isCopy l d0 cO dC dI H.size h0 a1 a2 fs hlen hf_files hf_servers) (my_V ht M_X12_isCopy q2348 q118 q2346 (Nat.le_of_ble_eq_true rfl) (Nat.le_of_ble_eq_true rfl)) ⟨PREp.fb, va_recv hK hP (ci := 13) (q0 := 0) rfl rfl, fun U hU hW => ⟨rfl, PREp.mk' hE hS hFc hPc hKc U hU hW⟩⟩ rfl rfl hl.1 rfl (lv_room (Nat.le_of_ble_eq_true rfl)) dX12_version_4 ⟨(Nat.le_of_ble_eq_true rfl), (Nat.le_of_ble_eq_true rfl)⟩) hS (fun q _ h => hFc q h) hFc (fun r2 u1 t H1 locs htt hvm hw hB hz1 hk1 hS => ?_)
  try dsimp only at hw hB
  have hP1 := hB
  have hP := keepAll hP hk1
  generalize H1 = H at hP hS ⊢
  have hP : va_P (dC, dI) vwCl [(h0, .inr (13, fs))] H := hP
  have hD : va_D A [(h0, .inr (13, fs))] := hD
  have hK : va_K (dC, dI) vwCl [] s := hK
  refine W.widen (k := 0) (n := 0) (Nat.le_of_ble_eq_true rfl) (Nat.le_of_ble_eq_true rfl) ?_
  subst hw
  refine lv_if_eq (tgt := 14) hx hb dX12_version_7 (by decide) (fun c3 => ?_) (fun c3 => False.elim (by revert c3; decide))
  refine lv_iconst (v := 1) hx hb dX12_version_14 (by decide) ?_
  have hPc := hP.sub (ws' := [(h0, .inr (13, fs))]) [0] rfl
  have hDc := hD.sub (ws' := [(h0, .inr (13, fs))]) [0] (by decide) rfl
  have hKc := hK.sub (tys' := []) [] rfl
  have hFc := va_free (wc := [(h0, .inr (13, fs))]) hD hS hA [0] rfl
  refine va_calli (va_runV (As := [.int 1]) (rest := []) ⟨hx, hb, hml, hown, ht⟩ (k_X12_fails l d0 cO dC dI H.size h0 1 fs hlen) (my_V ht M_X12_fails q1992 q53 q1990 (Nat.le_of_ble_eq_true rfl) (Nat.le_of_ble_eq_true rfl)) ⟨PRE.fb, va_recv hK hP (ci := 13) (q0 := 0) rfl rfl, fun U hU hW => ⟨rfl, PRE.mk' hE hS hFc hPc hKc hDc U hU hW⟩⟩ rfl rfl hl.1 rfl (lv_room (Nat.le_of_ble_eq_true rfl)) dX12_version_15 ⟨(Nat.le_of_ble_eq_true rfl), (Nat.le_of_ble_eq_true rfl)⟩) hS (fun q _ h => hFc q h) hFc (fun r5 u4 t H1 locs htt hvm hw hB hz1 hk1 hS => ?_)
  try dsimp only at hw hB
  obtain ⟨hP1, hK1, hD1⟩ := hB
  rw [htt] at hP1
  have hK1 := va_K.moved hvm.symm hK1
  obtain ⟨hP, hD⟩ := va_join (wr := []) (w1 := [(h0, .inr (13, (fs.set 74 (.int 1))))]) hP hD [0] [] rfl rfl (by decide) (by decide) hk1 hFc hP1 hD1
  have hK := (hK.sub (tys' := []) [] rfl).app hK1
  generalize H1 = H at hP hS ⊢
  have hP : va_P (dC, dI) vwCl [(h0, .inr (13, (fs.set 74 (.int 1))))] H := hP
  have hD : va_D A [(h0, .inr (13, (fs.set 74 (.int 1))))] := hD
  have hK : va_K (dC, dI) vwCl [] s := hK
  refine W.widen (k := 0) (n := 0) (Nat.le_of_ble_eq_true rfl) (Nat.le_of_ble_eq_true rfl) ?_
  have hw := hw.1 (by decide)
  subst hw
  refine lv_if_eq (tgt := 23) hx hb dX12_version_18 (by decide) (fun c6 => False.elim (by revert c6; decide)) (fun c6 => ?_)
  refine lv_iconst (v := 0) hx hb dX12_version_21 (by decide) ?_
  have hP9 := hP.sub (ws' := [(h0, .inr (13, (fs.set 74 (.int 1))))]) [0] rfl
  have hD9 := hD.sub (ws' := [(h0, .inr (13, (fs.set 74 (.int 1))))]) [0] (by decide) rfl
  have hK9 := hK.sub (tys' := []) [] rfl
  refine W.widen (k := 0) (n := 0) (Nat.le_of_ble_eq_true rfl) (Nat.le_of_ble_eq_true rfl) ?_
  exact W.iret (v := 0) hx hb hr (fun t ht9 hW9 => ⟨⟨0, 1, rfl, rfl, ⟨(fs.set 74 (.int 1)), (by rw [List.getElem?_set_self (by rw [hlen]; decide)]), POW.mk' ht9 hW9.alike hP9 hK9 hD9⟩⟩, hS.F ht9⟩) hS.2.2 dX12_version_22
set_option maxHeartbeats 4000000 in
set_option maxRecDepth 100000 in
theorem k_X12_unit (l : Launch) (d0 : Nat) (cO : ClassId) (dC : Nat → ClassId) (dI : Nat → Nat → Nat) (sz : Nat) (h0 : Nat) (a1 a2 a3 : Int32) (fs : List Value) (hlen : fs.length = 75) (hf_files : fs[2]? = some (.int 0)) (hf_servers : fs[15]? = some (.int 0)) : Met l yX12_unit (cn yX12_unit cX12_unit 6 (some FieldType.char)) (rmd 5 0 0) (va_Pc [.ref h0, .int a1, .int a2, .int a3] (PRE d0 cO (dC, dI) (va_A [(h0, .inr (13, fs))] sz) [(h0, .inr (13, fs))] [] sz)) (va_Qi (fun (r : Int32) (u : Int32) => u = 1) (fun (u : Int32) (t : State) => ∃ fs2 : List Value, (fs2[74]? = some (.int u)) ∧ POW (dC, dI) (va_A [(h0, .inr (13, fs))] sz) [(h0, .inr (13, fs2))] [] t) (va_A [(h0, .inr (13, fs))] sz)) 0 0 (va_A [(h0, .inr (13, fs))] sz) := by
  refine Met.ofW (cc := cX12_unit) (maxL := 6) (ret := (some FieldType.char)) (by decide) rfl ?_
  intro p e s m args below meth c s₁ B hml hv
  obtain ⟨rfl, hsz, hE, hP, hK, hD0⟩ := hv
  have hx := B.exec
  have hb := B.bytes
  have hr := B.returns
  have hts := atoms_spec (ws := cn yX12_unit cX12_unit 6 (some FieldType.char)) B.pre
  have ht : ∀ w ∈ GT, w.before _ s = true := fun w h => hts w (List.mem_cons_of_mem _ h)
  have hown : s.vm.findClass RX12 = some m.cls := findClass_of_methodNamed B.named
  have hlocks := B.notSynchronized
  subst hsz
  have hD := hD0.self (sz := s.heap.size)
  generalize hAe : va_A [(h0, .inr (13, fs))] s.heap.size = A at hD hE ⊢
  have hA : ∀ q : Nat, s.heap.size ≤ q → A q := fun q h => by rw [← hAe]; exact Or.inr h
  obtain ⟨H, hH0⟩ : ∃ H, s.heap = H := ⟨_, rfl⟩
  have hS : va_S A s.heap H [] := by rw [← hH0]; exact va_S.rf
  rw [hH0] at hP
  have hl := lv_entry ([.ref h0, .int a1, .int a2, .int a3]) (n := 6) (Nat.le_of_ble_eq_true rfl)
  rw [lg_entry_eq]
  generalize (lg_sl ([.ref h0, .int a1, .int a2, .int a3]) ++ List.replicate (6 - (lg_sl ([.ref h0, .int a1, .int a2, .int a3])).length) Slot.unset).toArray = ls at hl ⊢
  have hl : lv_has ls 6 [(0, .ref h0), (1, .int a1), (2, .int a2), (3, .int a3)] := hl
  rw [hH0]
  refine lv_aload_n hx hb dX12_unit_0 rfl (lv_at hl 0 rfl) ?_
  refine lv_iload_n hx hb dX12_unit_1 rfl (lv_at hl 1 rfl) ?_
  refine lv_iload_n hx hb dX12_unit_2 rfl (lv_at hl 2 rfl) ?_
  have hPc := hP.sub (ws' := [(h0, .inr (13, fs))]) [0] rfl
  have hDc := hD.sub (ws' := [(h0, .inr (13, fs))]) [0] (by decide) rfl
  have hKc := hK.sub (tys' := []) [] rfl
  have hFc := freeNil hS hA
  refine va_calli (va_runV (As := [.int a1, .int a2]) (rest := []) ⟨hx, hb, hml, hown, ht⟩ (k_X12_isCopy l d0 cO dC dI H.size h0 a1 a2 fs hlen hf_files hf_servers) (my_V ht M_X12_isCopy q2348 q118 q2346 (Nat.le_of_ble_eq_true rfl) (Nat.le_of_ble_eq_true rfl)) ⟨PREp.fb, va_recv hK hP (ci := 13) (q0 := 0) rfl rfl, fun U hU hW => ⟨rfl, PREp.mk' hE hS hFc hPc hKc U hU hW⟩⟩ rfl rfl hl.1 rfl (lv_room (Nat.le_of_ble_eq_true rfl)) dX12_unit_3 ⟨(Nat.le_of_ble_eq_true rfl), (Nat.le_of_ble_eq_true rfl)⟩) hS (fun q _ h => hFc q h) hFc (fun r2 u1 t H1 locs htt hvm hw hB hz1 hk1 hS => ?_)
  try dsimp only at hw hB
  have hP1 := hB
  have hP := keepAll hP hk1
  generalize H1 = H at hP hS ⊢
  have hP : va_P (dC, dI) vwCl [(h0, .inr (13, fs))] H := hP
  have hD : va_D A [(h0, .inr (13, fs))] := hD
  have hK : va_K (dC, dI) vwCl [] s := hK
  refine W.widen (k := 0) (n := 0) (Nat.le_of_ble_eq_true rfl) (Nat.le_of_ble_eq_true rfl) ?_
  subst hw
  refine lv_if_eq (tgt := 18) hx hb dX12_unit_6 (by decide) (fun c3 => ?_) (fun c3 => False.elim (by revert c3; decide))
  refine lv_iconst (v := -1) hx hb dX12_unit_18 (by decide) ?_
  refine lv_istore (lv' := [(4, .int (-1)), (0, .ref h0), (1, .int a1), (2, .int a2), (3, .int a3)]) hx hb dX12_unit_19 hl (by decide) rfl (fun ls hl => ?_)
  refine lv_iload hx hb dX12_unit_21 (lv_at hl 0 rfl) ?_
  refine lv_iconst (v := -1) hx hb dX12_unit_23 (by decide) ?_
  refine lv_icmp_eq (tgt := 48) hx hb dX12_unit_24 (by decide) (fun c4 => ?_) (fun c4 => False.elim (by revert c4; decide))
  refine lv_iconst (v := 0) hx hb dX12_unit_48 (by decide) ?_
  refine lv_istore (lv' := [(5, .int 0), (4, .int (-1)), (0, .ref h0), (1, .int a1), (2, .int a2), (3, .int a3)]) hx hb dX12_unit_49 hl (by decide) rfl (fun ls hl => ?_)
  refine lv_aload_n hx hb dX12_unit_51 rfl (lv_at hl 2 rfl) ?_
  refine lv_iload hx hb dX12_unit_52 (lv_at hl 0 rfl) ?_
  refine lv_if_eq (tgt := 61) hx hb dX12_unit_54 (by decide) (fun c5 => ?_) (fun c5 => False.elim (by revert c5; decide))
  refine lv_iconst (v := 1) hx hb dX12_unit_61 (by decide) ?_
  have hPc := hP.sub (ws' := [(h0, .inr (13, fs))]) [0] rfl
  have hDc := hD.sub (ws' := [(h0, .inr (13, fs))]) [0] (by decide) rfl
  have hKc := hK.sub (tys' := []) [] rfl
  have hFc := va_free (wc := [(h0, .inr (13, fs))]) hD hS hA [0] rfl
  refine va_calli (va_runV (As := [.int 1]) (rest := []) ⟨hx, hb, hml, hown, ht⟩ (k_X12_fails l d0 cO dC dI H.size h0 1 fs hlen) (my_V ht M_X12_fails q1992 q53 q1990 (Nat.le_of_ble_eq_true rfl) (Nat.le_of_ble_eq_true rfl)) ⟨PRE.fb, va_recv hK hP (ci := 13) (q0 := 0) rfl rfl, fun U hU hW => ⟨rfl, PRE.mk' hE hS hFc hPc hKc hDc U hU hW⟩⟩ rfl rfl hl.1 rfl (lv_room (Nat.le_of_ble_eq_true rfl)) dX12_unit_62 ⟨(Nat.le_of_ble_eq_true rfl), (Nat.le_of_ble_eq_true rfl)⟩) hS (fun q _ h => hFc q h) hFc (fun r7 u6 t H1 locs htt hvm hw hB hz1 hk1 hS => ?_)
  try dsimp only at hw hB
  obtain ⟨hP1, hK1, hD1⟩ := hB
  rw [htt] at hP1
  have hK1 := va_K.moved hvm.symm hK1
  obtain ⟨hP, hD⟩ := va_join (wr := []) (w1 := [(h0, .inr (13, (fs.set 74 (.int 1))))]) hP hD [0] [] rfl rfl (by decide) (by decide) hk1 hFc hP1 hD1
  have hK := (hK.sub (tys' := []) [] rfl).app hK1
  generalize H1 = H at hP hS ⊢
  have hP : va_P (dC, dI) vwCl [(h0, .inr (13, (fs.set 74 (.int 1))))] H := hP
  have hD : va_D A [(h0, .inr (13, (fs.set 74 (.int 1))))] := hD
  have hK : va_K (dC, dI) vwCl [] s := hK
  refine W.widen (k := 0) (n := 0) (Nat.le_of_ble_eq_true rfl) (Nat.le_of_ble_eq_true rfl) ?_
  have hw := hw.1 (by decide)
  subst hw
  refine lv_if_eq (tgt := 73) hx hb dX12_unit_65 (by decide) (fun c8 => False.elim (by revert c8; decide)) (fun c8 => ?_)
  refine lv_bipush (v := 32) hx hb dX12_unit_68 (by decide) ?_
  refine lv_goto (tgt := 81) hx hb dX12_unit_70 (by decide) ?_
  have hP9 := hP.sub (ws' := [(h0, .inr (13, (fs.set 74 (.int 1))))]) [0] rfl
  have hD9 := hD.sub (ws' := [(h0, .inr (13, (fs.set 74 (.int 1))))]) [0] (by decide) rfl
  have hK9 := hK.sub (tys' := []) [] rfl
  refine W.widen (k := 0) (n := 0) (Nat.le_of_ble_eq_true rfl) (Nat.le_of_ble_eq_true rfl) ?_
  exact W.zret (v := 32) hx hb hr (by first | decide | rfl) (fun t ht9 hW9 => ⟨⟨32, 1, rfl, rfl, ⟨(fs.set 74 (.int 1)), (by rw [List.getElem?_set_self (by rw [hlen]; decide)]), POW.mk' ht9 hW9.alike hP9 hK9 hD9⟩⟩, hS.F ht9⟩) hS.2.2 dX12_unit_81
set_option maxHeartbeats 4000000 in
set_option maxRecDepth 100000 in
theorem k_X12_cancel (l : Launch) (d0 : Nat) (cO : ClassId) (dC : Nat → ClassId) (dI : Nat → Nat → Nat) (sz : Nat) (h0 : Nat) (ra : Nat) (tA : ClassId) (a1 a2 : Int32) (fs : List Value) (hlen : fs.length = 75) (hf_asked : fs[27]? = some (.ref ra)) : Met l yX12_cancel (cn yX12_cancel cX12_cancel 5 none) (rmd 5 0 0) (va_Pc [.ref h0, .int a1, .int a2] (PRE d0 cO (dC, dI) (va_A [(h0, .inr (13, fs)), (ra, .inl (tA, 2, .inl ((fun _ => 0))))] sz) [(h0, .inr (13, fs)), (ra, .inl (tA, 2, .inl ((fun _ => 0))))] [(tA, .int)] sz)) (va_Qv (fun (u : Int32) => u = 1) (fun (u : Int32) (t : State) => ∃ fs2 : List Value, (fs2[74]? = some (.int u)) ∧ POW (dC, dI) (va_A [(h0, .inr (13, fs)), (ra, .inl (tA, 2, .inl ((fun _ => 0))))] sz) [(h0, .inr (13, fs2))] [] t) (va_A [(h0, .inr (13, fs)), (ra, .inl (tA, 2, .inl ((fun _ => 0))))] sz)) 0 0 (va_A [(h0, .inr (13, fs)), (ra, .inl (tA, 2, .inl ((fun _ => 0))))] sz) := by
  refine Met.ofW (cc := cX12_cancel) (maxL := 5) (ret := none) (by decide) rfl ?_
  intro p e s m args below meth c s₁ B hml hv
  obtain ⟨rfl, hsz, hE, hP, hK, hD0⟩ := hv
  have hx := B.exec
  have hb := B.bytes
  have hr := B.returns
  have hts := atoms_spec (ws := cn yX12_cancel cX12_cancel 5 none) B.pre
  have ht : ∀ w ∈ GT, w.before _ s = true := fun w h => hts w (List.mem_cons_of_mem _ h)
  have hown : s.vm.findClass RX12 = some m.cls := findClass_of_methodNamed B.named
  have hlocks := B.notSynchronized
  subst hsz
  have hD := hD0.self (sz := s.heap.size)
  generalize hAe : va_A [(h0, .inr (13, fs)), (ra, .inl (tA, 2, .inl ((fun _ => 0))))] s.heap.size = A at hD hE ⊢
  have hA : ∀ q : Nat, s.heap.size ≤ q → A q := fun q h => by rw [← hAe]; exact Or.inr h
  obtain ⟨H, hH0⟩ : ∃ H, s.heap = H := ⟨_, rfl⟩
  have hS : va_S A s.heap H [] := by rw [← hH0]; exact va_S.rf
  rw [hH0] at hP
  have hl := lv_entry ([.ref h0, .int a1, .int a2]) (n := 5) (Nat.le_of_ble_eq_true rfl)
  rw [lg_entry_eq]
  generalize (lg_sl ([.ref h0, .int a1, .int a2]) ++ List.replicate (5 - (lg_sl ([.ref h0, .int a1, .int a2])).length) Slot.unset).toArray = ls at hl ⊢
  have hl : lv_has ls 5 [(0, .ref h0), (1, .int a1), (2, .int a2)] := hl
  rw [hH0]
  refine lv_aload_n hx hb dX12_cancel_0 rfl (lv_at hl 0 rfl) ?_
  refine lv_iload_n hx hb dX12_cancel_1 rfl (lv_at hl 1 rfl) ?_
  refine lv_iload_n hx hb dX12_cancel_2 rfl (lv_at hl 2 rfl) ?_
  have hPc := hP.sub (ws' := [(h0, .inr (13, fs)), (ra, .inl (tA, 2, .inl ((fun _ => 0))))]) [0, 1] rfl
  have hDc := hD.sub (ws' := [(h0, .inr (13, fs)), (ra, .inl (tA, 2, .inl ((fun _ => 0))))]) [0, 1] (by decide) rfl
  have hKc := hK.sub (tys' := [(tA, .int)]) [0] rfl
  have hFc := freeNil hS hA
  refine va_calli (va_runV (As := [.int a1, .int a2]) (rest := []) ⟨hx, hb, hml, hown, ht⟩ (k_X12_isRequest l d0 cO dC dI H.size h0 ra tA a1 a2 fs hlen hf_asked) (my_V ht M_X12_isRequest q2117 q70 q2115 (Nat.le_of_ble_eq_true rfl) (Nat.le_of_ble_eq_true rfl)) ⟨PREp.fb, va_recv hK hP (ci := 13) (q0 := 0) rfl rfl, fun U hU hW => ⟨rfl, PREp.mk' hE hS hFc hPc hKc U hU hW⟩⟩ rfl rfl hl.1 rfl (lv_room (Nat.le_of_ble_eq_true rfl)) dX12_cancel_3 ⟨(Nat.le_of_ble_eq_true rfl), (Nat.le_of_ble_eq_true rfl)⟩) hS (fun q _ h => hFc q h) hFc (fun r2 u1 t H1 locs htt hvm hw hB hz1 hk1 hS => ?_)
  try dsimp only at hw hB
  have hP1 := hB
  have hP := keepAll hP hk1
  generalize H1 = H at hP hS ⊢
  have hP : va_P (dC, dI) vwCl [(h0, .inr (13, fs)), (ra, .inl (tA, 2, .inl ((fun _ => 0))))] H := hP
  have hD : va_D A [(h0, .inr (13, fs)), (ra, .inl (tA, 2, .inl ((fun _ => 0))))] := hD
  have hK : va_K (dC, dI) vwCl [(tA, .int)] s := hK
  refine W.widen (k := 0) (n := 0) (Nat.le_of_ble_eq_true rfl) (Nat.le_of_ble_eq_true rfl) ?_
  subst hw
  refine lv_istore_n (lv' := [(3, .int 0), (0, .ref h0), (1, .int a1), (2, .int a2)]) hx hb dX12_cancel_6 rfl hl (by decide) rfl (fun ls hl => ?_)
  refine lv_aload_n hx hb dX12_cancel_7 rfl (lv_at hl 1 rfl) ?_
  refine lv_iload_n hx hb dX12_cancel_8 rfl (lv_at hl 0 rfl) ?_
  refine lv_if_ne (tgt := 16) hx hb dX12_cancel_9 (by decide) (fun c3 => False.elim (by revert c3; decide)) (fun c3 => ?_)
  refine lv_iconst (v := 1) hx hb dX12_cancel_12 (by decide) ?_
  refine lv_goto (tgt := 34) hx hb dX12_cancel_13 (by decide) ?_
  have hPc := hP.sub (ws' := [(h0, .inr (13, fs))]) [0] rfl
  have hDc := hD.sub (ws' := [(h0, .inr (13, fs))]) [0] (by decide) rfl
  have hKc := hK.sub (tys' := []) [] rfl
  have hFc := va_free (wc := [(h0, .inr (13, fs))]) hD hS hA [0] rfl
  refine va_calli (va_runV (As := [.int 1]) (rest := []) ⟨hx, hb, hml, hown, ht⟩ (k_X12_fails l d0 cO dC dI H.size h0 1 fs hlen) (my_V ht M_X12_fails q1992 q53 q1990 (Nat.le_of_ble_eq_true rfl) (Nat.le_of_ble_eq_true rfl)) ⟨PRE.fb, va_recv hK hP (ci := 13) (q0 := 0) rfl rfl, fun U hU hW => ⟨rfl, PRE.mk' hE hS hFc hPc hKc hDc U hU hW⟩⟩ rfl rfl hl.1 rfl (lv_room (Nat.le_of_ble_eq_true rfl)) dX12_cancel_34 ⟨(Nat.le_of_ble_eq_true rfl), (Nat.le_of_ble_eq_true rfl)⟩) hS (fun q _ h => hFc q h) hFc (fun r5 u4 t H1 locs htt hvm hw hB hz1 hk1 hS => ?_)
  try dsimp only at hw hB
  obtain ⟨hP1, hK1, hD1⟩ := hB
  rw [htt] at hP1
  have hK1 := va_K.moved hvm.symm hK1
  obtain ⟨hP, hD⟩ := va_join (wr := [(ra, .inl (tA, 2, .inl ((fun _ => 0))))]) (w1 := [(h0, .inr (13, (fs.set 74 (.int 1))))]) hP hD [0] [1] rfl rfl (by decide) (by decide) hk1 hFc hP1 hD1
  have hK := (hK.sub (tys' := [(tA, .int)]) [0] rfl).app hK1
  generalize H1 = H at hP hS ⊢
  have hP : va_P (dC, dI) vwCl [(ra, .inl (tA, 2, .inl ((fun _ => 0)))), (h0, .inr (13, (fs.set 74 (.int 1))))] H := hP
  have hD : va_D A [(ra, .inl (tA, 2, .inl ((fun _ => 0)))), (h0, .inr (13, (fs.set 74 (.int 1))))] := hD
  have hK : va_K (dC, dI) vwCl [(tA, .int)] s := hK
  refine W.widen (k := 0) (n := 0) (Nat.le_of_ble_eq_true rfl) (Nat.le_of_ble_eq_true rfl) ?_
  have hw := hw.1 (by decide)
  subst hw
  refine lv_if_ne (tgt := 61) hx hb dX12_cancel_37 (by decide) (fun c6 => ?_) (fun c6 => False.elim (by revert c6; decide))
  have hP9 := hP.sub (ws' := [(h0, .inr (13, (fs.set 74 (.int 1))))]) [1] rfl
  have hD9 := hD.sub (ws' := [(h0, .inr (13, (fs.set 74 (.int 1))))]) [1] (by decide) rfl
  have hK9 := hK.sub (tys' := []) [] rfl
  refine W.widen (k := 0) (n := 0) (Nat.le_of_ble_eq_true rfl) (Nat.le_of_ble_eq_true rfl) ?_
  exact W.vret hx hb hr (fun t ht9 hW9 => ⟨⟨1, rfl, rfl, ⟨(fs.set 74 (.int 1)), (by rw [List.getElem?_set_self (by rw [hlen]; decide)]), POW.mk' ht9 hW9.alike hP9 hK9 hD9⟩⟩, hS.F ht9⟩) hS.2.2 dX12_cancel_61
set_option maxHeartbeats 4000000 in
set_option maxRecDepth 100000 in
theorem k_X12_apply (l : Launch) (d0 : Nat) (cO : ClassId) (dC : Nat → ClassId) (dI : Nat → Nat → Nat) (sz : Nat) (h0 : Nat) (ra : Nat) (tA : ClassId) (a1 a2 : Int32) (fs : List Value) (hlen : fs.length = 75) (hf_asked : fs[27]? = some (.ref ra)) : Met l yX12_apply (cn yX12_apply cX12_apply 10 (some FieldType.int)) (rmd 5 0 0) (va_Pc [.ref h0, .int a1, .int a2] (PRE d0 cO (dC, dI) (va_A [(h0, .inr (13, fs)), (ra, .inl (tA, 2, .inl ((fun _ => 0))))] sz) [(h0, .inr (13, fs)), (ra, .inl (tA, 2, .inl ((fun _ => 0))))] [(tA, .int)] sz)) (va_Qi (fun (r : Int32) (u : Int32) => u = 1) (fun (u : Int32) (t : State) => ∃ fs2 : List Value, (fs2[74]? = some (.int u)) ∧ POW (dC, dI) (va_A [(h0, .inr (13, fs)), (ra, .inl (tA, 2, .inl ((fun _ => 0))))] sz) [(h0, .inr (13, fs2))] [] t) (va_A [(h0, .inr (13, fs)), (ra, .inl (tA, 2, .inl ((fun _ => 0))))] sz)) 0 0 (va_A [(h0, .inr (13, fs)), (ra, .inl (tA, 2, .inl ((fun _ => 0))))] sz) := by
  refine Met.ofW (cc := cX12_apply) (maxL := 10) (ret := (some FieldType.int)) (by decide) rfl ?_
  intro p e s m args below meth c s₁ B hml hv
  obtain ⟨rfl, hsz, hE, hP, hK, hD0⟩ := hv
  have hx := B.exec
  have hb := B.bytes
  have hr := B.returns
  have hts := atoms_spec (ws := cn yX12_apply cX12_apply 10 (some FieldType.int)) B.pre
  have ht : ∀ w ∈ GT, w.before _ s = true := fun w h => hts w (List.mem_cons_of_mem _ h)
  have hown : s.vm.findClass RX12 = some m.cls := findClass_of_methodNamed B.named
  have hlocks := B.notSynchronized
  subst hsz
  have hD := hD0.self (sz := s.heap.size)
  generalize hAe : va_A [(h0, .inr (13, fs)), (ra, .inl (tA, 2, .inl ((fun _ => 0))))] s.heap.size = A at hD hE ⊢
  have hA : ∀ q : Nat, s.heap.size ≤ q → A q := fun q h => by rw [← hAe]; exact Or.inr h
  obtain ⟨H, hH0⟩ : ∃ H, s.heap = H := ⟨_, rfl⟩
  have hS : va_S A s.heap H [] := by rw [← hH0]; exact va_S.rf
  rw [hH0] at hP
  have hl := lv_entry ([.ref h0, .int a1, .int a2]) (n := 10) (Nat.le_of_ble_eq_true rfl)
  rw [lg_entry_eq]
  generalize (lg_sl ([.ref h0, .int a1, .int a2]) ++ List.replicate (10 - (lg_sl ([.ref h0, .int a1, .int a2])).length) Slot.unset).toArray = ls at hl ⊢
  have hl : lv_has ls 10 [(0, .ref h0), (1, .int a1), (2, .int a2)] := hl
  rw [hH0]
  refine lv_aload_n hx hb dX12_apply_0 rfl (lv_at hl 0 rfl) ?_
  refine lv_iload_n hx hb dX12_apply_1 rfl (lv_at hl 1 rfl) ?_
  refine lv_iload_n hx hb dX12_apply_2 rfl (lv_at hl 2 rfl) ?_
  have hPc := hP.sub (ws' := [(h0, .inr (13, fs)), (ra, .inl (tA, 2, .inl ((fun _ => 0))))]) [0, 1] rfl
  have hDc := hD.sub (ws' := [(h0, .inr (13, fs)), (ra, .inl (tA, 2, .inl ((fun _ => 0))))]) [0, 1] (by decide) rfl
  have hKc := hK.sub (tys' := [(tA, .int)]) [0] rfl
  have hFc := freeNil hS hA
  refine va_calli (va_runV (As := [.int a1, .int a2]) (rest := []) ⟨hx, hb, hml, hown, ht⟩ (k_X12_isRequest l d0 cO dC dI H.size h0 ra tA a1 a2 fs hlen hf_asked) (my_V ht M_X12_isRequest q2117 q70 q2115 (Nat.le_of_ble_eq_true rfl) (Nat.le_of_ble_eq_true rfl)) ⟨PREp.fb, va_recv hK hP (ci := 13) (q0 := 0) rfl rfl, fun U hU hW => ⟨rfl, PREp.mk' hE hS hFc hPc hKc U hU hW⟩⟩ rfl rfl hl.1 rfl (lv_room (Nat.le_of_ble_eq_true rfl)) dX12_apply_3 ⟨(Nat.le_of_ble_eq_true rfl), (Nat.le_of_ble_eq_true rfl)⟩) hS (fun q _ h => hFc q h) hFc (fun r2 u1 t H1 locs htt hvm hw hB hz1 hk1 hS => ?_)
  try dsimp only at hw hB
  have hP1 := hB
  have hP := keepAll hP hk1
  generalize H1 = H at hP hS ⊢
  have hP : va_P (dC, dI) vwCl [(h0, .inr (13, fs)), (ra, .inl (tA, 2, .inl ((fun _ => 0))))] H := hP
  have hD : va_D A [(h0, .inr (13, fs)), (ra, .inl (tA, 2, .inl ((fun _ => 0))))] := hD
  have hK : va_K (dC, dI) vwCl [(tA, .int)] s := hK
  refine W.widen (k := 0) (n := 0) (Nat.le_of_ble_eq_true rfl) (Nat.le_of_ble_eq_true rfl) ?_
  subst hw
  refine lv_istore_n (lv' := [(3, .int 0), (0, .ref h0), (1, .int a1), (2, .int a2)]) hx hb dX12_apply_6 rfl hl (by decide) rfl (fun ls hl => ?_)
  refine lv_iload_n hx hb dX12_apply_7 rfl (lv_at hl 0 rfl) ?_
  refine lv_if_eq (tgt := 19) hx hb dX12_apply_8 (by decide) (fun c3 => ?_) (fun c3 => False.elim (by revert c3; decide))
  refine lv_iconst (v := 0) hx hb dX12_apply_19 (by decide) ?_
  refine lv_istore (lv' := [(4, .int 0), (3, .int 0), (0, .ref h0), (1, .int a1), (2, .int a2)]) hx hb dX12_apply_20 hl (by decide) rfl (fun ls hl => ?_)
  refine lv_aload_n hx hb dX12_apply_22 rfl (lv_at hl 2 rfl) ?_
  refine lv_iload_n hx hb dX12_apply_23 rfl (lv_at hl 1 rfl) ?_
  refine lv_if_ne (tgt := 31) hx hb dX12_apply_24 (by decide) (fun c4 => False.elim (by revert c4; decide)) (fun c4 => ?_)
  refine lv_iconst (v := 1) hx hb dX12_apply_27 (by decide) ?_
  refine lv_goto (tgt := 45) hx hb dX12_apply_28 (by decide) ?_
  have hPc := hP.sub (ws' := [(h0, .inr (13, fs))]) [0] rfl
  have hDc := hD.sub (ws' := [(h0, .inr (13, fs))]) [0] (by decide) rfl
  have hKc := hK.sub (tys' := []) [] rfl
  have hFc := va_free (wc := [(h0, .inr (13, fs))]) hD hS hA [0] rfl
  refine va_calli (va_runV (As := [.int 1]) (rest := []) ⟨hx, hb, hml, hown, ht⟩ (k_X12_fails l d0 cO dC dI H.size h0 1 fs hlen) (my_V ht M_X12_fails q1992 q53 q1990 (Nat.le_of_ble_eq_true rfl) (Nat.le_of_ble_eq_true rfl)) ⟨PRE.fb, va_recv hK hP (ci := 13) (q0 := 0) rfl rfl, fun U hU hW => ⟨rfl, PRE.mk' hE hS hFc hPc hKc hDc U hU hW⟩⟩ rfl rfl hl.1 rfl (lv_room (Nat.le_of_ble_eq_true rfl)) dX12_apply_45 ⟨(Nat.le_of_ble_eq_true rfl), (Nat.le_of_ble_eq_true rfl)⟩) hS (fun q _ h => hFc q h) hFc (fun r6 u5 t H1 locs htt hvm hw hB hz1 hk1 hS => ?_)
  try dsimp only at hw hB
  obtain ⟨hP1, hK1, hD1⟩ := hB
  rw [htt] at hP1
  have hK1 := va_K.moved hvm.symm hK1
  obtain ⟨hP, hD⟩ := va_join (wr := [(ra, .inl (tA, 2, .inl ((fun _ => 0))))]) (w1 := [(h0, .inr (13, (fs.set 74 (.int 1))))]) hP hD [0] [1] rfl rfl (by decide) (by decide) hk1 hFc hP1 hD1
  have hK := (hK.sub (tys' := [(tA, .int)]) [0] rfl).app hK1
  generalize H1 = H at hP hS ⊢
  have hP : va_P (dC, dI) vwCl [(ra, .inl (tA, 2, .inl ((fun _ => 0)))), (h0, .inr (13, (fs.set 74 (.int 1))))] H := hP
  have hD : va_D A [(ra, .inl (tA, 2, .inl ((fun _ => 0)))), (h0, .inr (13, (fs.set 74 (.int 1))))] := hD
  have hK : va_K (dC, dI) vwCl [(tA, .int)] s := hK
  refine W.widen (k := 0) (n := 0) (Nat.le_of_ble_eq_true rfl) (Nat.le_of_ble_eq_true rfl) ?_
  have hw := hw.1 (by decide)
  subst hw
  refine lv_if_eq (tgt := 53) hx hb dX12_apply_48 (by decide) (fun c7 => False.elim (by revert c7; decide)) (fun c7 => ?_)
  refine lv_iconst (v := 0) hx hb dX12_apply_51 (by decide) ?_
  have hP9 := hP.sub (ws' := [(h0, .inr (13, (fs.set 74 (.int 1))))]) [1] rfl
  have hD9 := hD.sub (ws' := [(h0, .inr (13, (fs.set 74 (.int 1))))]) [1] (by decide) rfl
  have hK9 := hK.sub (tys' := []) [] rfl
  refine W.widen (k := 0) (n := 0) (Nat.le_of_ble_eq_true rfl) (Nat.le_of_ble_eq_true rfl) ?_
  exact W.iret (v := 0) hx hb hr (fun t ht9 hW9 => ⟨⟨0, 1, rfl, rfl, ⟨(fs.set 74 (.int 1)), (by rw [List.getElem?_set_self (by rw [hlen]; decide)]), POW.mk' ht9 hW9.alike hP9 hK9 hD9⟩⟩, hS.F ht9⟩) hS.2.2 dX12_apply_52
set_option maxHeartbeats 4000000 in
set_option maxRecDepth 100000 in
theorem k_X12_standing (l : Launch) (d0 : Nat) (cO : ClassId) (dC : Nat → ClassId) (dI : Nat → Nat → Nat) (sz : Nat) (h0 : Nat) (ra : Nat) (tA : ClassId) (a1 a2 : Int32) (fs : List Value) (hlen : fs.length = 75) (hf_asked : fs[27]? = some (.ref ra)) : Met l yX12_standing (cn yX12_standing cX12_standing 5 (some FieldType.int)) (rmd 5 0 0) (va_Pc [.ref h0, .int a1, .int a2] (PRE d0 cO (dC, dI) (va_A [(h0, .inr (13, fs)), (ra, .inl (tA, 2, .inl ((fun _ => 0))))] sz) [(h0, .inr (13, fs)), (ra, .inl (tA, 2, .inl ((fun _ => 0))))] [(tA, .int)] sz)) (va_Qi (fun (r : Int32) (u : Int32) => u = 1) (fun (u : Int32) (t : State) => ∃ fs2 : List Value, (fs2[74]? = some (.int u)) ∧ POW (dC, dI) (va_A [(h0, .inr (13, fs)), (ra, .inl (tA, 2, .inl ((fun _ => 0))))] sz) [(h0, .inr (13, fs2))] [] t) (va_A [(h0, .inr (13, fs)), (ra, .inl (tA, 2, .inl ((fun _ => 0))))] sz)) 0 0 (va_A [(h0, .inr (13, fs)), (ra, .inl (tA, 2, .inl ((fun _ => 0))))] sz) := by
  refine Met.ofW (cc := cX12_standing) (maxL := 5) (ret := (some FieldType.int)) (by decide) rfl ?_
  intro p e s m args below meth c s₁ B hml hv
  obtain ⟨rfl, hsz, hE, hP, hK, hD0⟩ := hv
  have hx := B.exec
  have hb := B.bytes
  have hr := B.returns
  have hts := atoms_spec (ws := cn yX12_standing cX12_standing 5 (some FieldType.int)) B.pre
  have ht : ∀ w ∈ GT, w.before _ s = true := fun w h => hts w (List.mem_cons_of_mem _ h)
  have hown : s.vm.findClass RX12 = some m.cls := findClass_of_methodNamed B.named
  have hlocks := B.notSynchronized
  subst hsz
  have hD := hD0.self (sz := s.heap.size)
  generalize hAe : va_A [(h0, .inr (13, fs)), (ra, .inl (tA, 2, .inl ((fun _ => 0))))] s.heap.size = A at hD hE ⊢
  have hA : ∀ q : Nat, s.heap.size ≤ q → A q := fun q h => by rw [← hAe]; exact Or.inr h
  obtain ⟨H, hH0⟩ : ∃ H, s.heap = H := ⟨_, rfl⟩
  have hS : va_S A s.heap H [] := by rw [← hH0]; exact va_S.rf
  rw [hH0] at hP
  have hl := lv_entry ([.ref h0, .int a1, .int a2]) (n := 5) (Nat.le_of_ble_eq_true rfl)
  rw [lg_entry_eq]
  generalize (lg_sl ([.ref h0, .int a1, .int a2]) ++ List.replicate (5 - (lg_sl ([.ref h0, .int a1, .int a2])).length) Slot.unset).toArray = ls at hl ⊢
  have hl : lv_has ls 5 [(0, .ref h0), (1, .int a1), (2, .int a2)] := hl
  rw [hH0]
  refine lv_aload_n hx hb dX12_standing_0 rfl (lv_at hl 0 rfl) ?_
  refine lv_iload_n hx hb dX12_standing_1 rfl (lv_at hl 1 rfl) ?_
  refine lv_iload_n hx hb dX12_standing_2 rfl (lv_at hl 2 rfl) ?_
  have hPc := hP.sub (ws' := [(h0, .inr (13, fs)), (ra, .inl (tA, 2, .inl ((fun _ => 0))))]) [0, 1] rfl
  have hDc := hD.sub (ws' := [(h0, .inr (13, fs)), (ra, .inl (tA, 2, .inl ((fun _ => 0))))]) [0, 1] (by decide) rfl
  have hKc := hK.sub (tys' := [(tA, .int)]) [0] rfl
  have hFc := freeNil hS hA
  refine va_calli (va_runV (As := [.int a1, .int a2]) (rest := []) ⟨hx, hb, hml, hown, ht⟩ (k_X12_isRequest l d0 cO dC dI H.size h0 ra tA a1 a2 fs hlen hf_asked) (my_V ht M_X12_isRequest q2117 q70 q2115 (Nat.le_of_ble_eq_true rfl) (Nat.le_of_ble_eq_true rfl)) ⟨PREp.fb, va_recv hK hP (ci := 13) (q0 := 0) rfl rfl, fun U hU hW => ⟨rfl, PREp.mk' hE hS hFc hPc hKc U hU hW⟩⟩ rfl rfl hl.1 rfl (lv_room (Nat.le_of_ble_eq_true rfl)) dX12_standing_3 ⟨(Nat.le_of_ble_eq_true rfl), (Nat.le_of_ble_eq_true rfl)⟩) hS (fun q _ h => hFc q h) hFc (fun r2 u1 t H1 locs htt hvm hw hB hz1 hk1 hS => ?_)
  try dsimp only at hw hB
  have hP1 := hB
  have hP := keepAll hP hk1
  generalize H1 = H at hP hS ⊢
  have hP : va_P (dC, dI) vwCl [(h0, .inr (13, fs)), (ra, .inl (tA, 2, .inl ((fun _ => 0))))] H := hP
  have hD : va_D A [(h0, .inr (13, fs)), (ra, .inl (tA, 2, .inl ((fun _ => 0))))] := hD
  have hK : va_K (dC, dI) vwCl [(tA, .int)] s := hK
  refine W.widen (k := 0) (n := 0) (Nat.le_of_ble_eq_true rfl) (Nat.le_of_ble_eq_true rfl) ?_
  subst hw
  refine lv_istore_n (lv' := [(3, .int 0), (0, .ref h0), (1, .int a1), (2, .int a2)]) hx hb dX12_standing_6 rfl hl (by decide) rfl (fun ls hl => ?_)
  refine lv_aload_n hx hb dX12_standing_7 rfl (lv_at hl 1 rfl) ?_
  refine lv_iload_n hx hb dX12_standing_8 rfl (lv_at hl 0 rfl) ?_
  refine lv_if_eq (tgt := 16) hx hb dX12_standing_9 (by decide) (fun c3 => ?_) (fun c3 => False.elim (by revert c3; decide))
  refine lv_iconst (v := 1) hx hb dX12_standing_16 (by decide) ?_
  have hPc := hP.sub (ws' := [(h0, .inr (13, fs))]) [0] rfl
  have hDc := hD.sub (ws' := [(h0, .inr (13, fs))]) [0] (by decide) rfl
  have hKc := hK.sub (tys' := []) [] rfl
  have hFc := va_free (wc := [(h0, .inr (13, fs))]) hD hS hA [0] rfl
  refine va_calli (va_runV (As := [.int 1]) (rest := []) ⟨hx, hb, hml, hown, ht⟩ (k_X12_fails l d0 cO dC dI H.size h0 1 fs hlen) (my_V ht M_X12_fails q1992 q53 q1990 (Nat.le_of_ble_eq_true rfl) (Nat.le_of_ble_eq_true rfl)) ⟨PRE.fb, va_recv hK hP (ci := 13) (q0 := 0) rfl rfl, fun U hU hW => ⟨rfl, PRE.mk' hE hS hFc hPc hKc hDc U hU hW⟩⟩ rfl rfl hl.1 rfl (lv_room (Nat.le_of_ble_eq_true rfl)) dX12_standing_17 ⟨(Nat.le_of_ble_eq_true rfl), (Nat.le_of_ble_eq_true rfl)⟩) hS (fun q _ h => hFc q h) hFc (fun r5 u4 t H1 locs htt hvm hw hB hz1 hk1 hS => ?_)
  try dsimp only at hw hB
  obtain ⟨hP1, hK1, hD1⟩ := hB
  rw [htt] at hP1
  have hK1 := va_K.moved hvm.symm hK1
  obtain ⟨hP, hD⟩ := va_join (wr := [(ra, .inl (tA, 2, .inl ((fun _ => 0))))]) (w1 := [(h0, .inr (13, (fs.set 74 (.int 1))))]) hP hD [0] [1] rfl rfl (by decide) (by decide) hk1 hFc hP1 hD1
  have hK := (hK.sub (tys' := [(tA, .int)]) [0] rfl).app hK1
  generalize H1 = H at hP hS ⊢
  have hP : va_P (dC, dI) vwCl [(ra, .inl (tA, 2, .inl ((fun _ => 0)))), (h0, .inr (13, (fs.set 74 (.int 1))))] H := hP
  have hD : va_D A [(ra, .inl (tA, 2, .inl ((fun _ => 0)))), (h0, .inr (13, (fs.set 74 (.int 1))))] := hD
  have hK : va_K (dC, dI) vwCl [(tA, .int)] s := hK
  refine W.widen (k := 0) (n := 0) (Nat.le_of_ble_eq_true rfl) (Nat.le_of_ble_eq_true rfl) ?_
  have hw := hw.1 (by decide)
  subst hw
  refine lv_if_eq (tgt := 25) hx hb dX12_standing_20 (by decide) (fun c6 => False.elim (by revert c6; decide)) (fun c6 => ?_)
  refine lv_iconst (v := 0) hx hb dX12_standing_23 (by decide) ?_
  have hP9 := hP.sub (ws' := [(h0, .inr (13, (fs.set 74 (.int 1))))]) [1] rfl
  have hD9 := hD.sub (ws' := [(h0, .inr (13, (fs.set 74 (.int 1))))]) [1] (by decide) rfl
  have hK9 := hK.sub (tys' := []) [] rfl
  refine W.widen (k := 0) (n := 0) (Nat.le_of_ble_eq_true rfl) (Nat.le_of_ble_eq_true rfl) ?_
  exact W.iret (v := 0) hx hb hr (fun t ht9 hW9 => ⟨⟨0, 1, rfl, rfl, ⟨(fs.set 74 (.int 1)), (by rw [List.getElem?_set_self (by rw [hlen]; decide)]), POW.mk' ht9 hW9.alike hP9 hK9 hD9⟩⟩, hS.F ht9⟩) hS.2.2 dX12_standing_24
set_option maxHeartbeats 4000000 in
set_option maxRecDepth 100000 in
theorem k_X12_item (l : Launch) (d0 : Nat) (cO : ClassId) (dC : Nat → ClassId) (dI : Nat → Nat → Nat) (sz : Nat) (h0 : Nat) (ra : Nat) (tA : ClassId) (a1 a2 a3 : Int32) (fs : List Value) (hlen : fs.length = 75) (hf_asked : fs[27]? = some (.ref ra)) : Met l yX12_item (cn yX12_item cX12_item 5 (some FieldType.int)) (rmd 5 0 0) (va_Pc [.ref h0, .int a1, .int a2, .int a3] (PRE d0 cO (dC, dI) (va_A [(h0, .inr (13, fs)), (ra, .inl (tA, 2, .inl ((fun _ => 0))))] sz) [(h0, .inr (13, fs)), (ra, .inl (tA, 2, .inl ((fun _ => 0))))] [(tA, .int)] sz)) (va_Qi (fun (r : Int32) (u : Int32) => u = 1) (fun (u : Int32) (t : State) => ∃ fs2 : List Value, (fs2[74]? = some (.int u)) ∧ POW (dC, dI) (va_A [(h0, .inr (13, fs)), (ra, .inl (tA, 2, .inl ((fun _ => 0))))] sz) [(h0, .inr (13, fs2))] [] t) (va_A [(h0, .inr (13, fs)), (ra, .inl (tA, 2, .inl ((fun _ => 0))))] sz)) 0 0 (va_A [(h0, .inr (13, fs)), (ra, .inl (tA, 2, .inl ((fun _ => 0))))] sz) := by
  refine Met.ofW (cc := cX12_item) (maxL := 5) (ret := (some FieldType.int)) (by decide) rfl ?_
  intro p e s m args below meth c s₁ B hml hv
  obtain ⟨rfl, hsz, hE, hP, hK, hD0⟩ := hv
  have hx := B.exec
  have hb := B.bytes
  have hr := B.returns
  have hts := atoms_spec (ws := cn yX12_item cX12_item 5 (some FieldType.int)) B.pre
  have ht : ∀ w ∈ GT, w.before _ s = true := fun w h => hts w (List.mem_cons_of_mem _ h)
  have hown : s.vm.findClass RX12 = some m.cls := findClass_of_methodNamed B.named
  have hlocks := B.notSynchronized
  subst hsz
  have hD := hD0.self (sz := s.heap.size)
  generalize hAe : va_A [(h0, .inr (13, fs)), (ra, .inl (tA, 2, .inl ((fun _ => 0))))] s.heap.size = A at hD hE ⊢
  have hA : ∀ q : Nat, s.heap.size ≤ q → A q := fun q h => by rw [← hAe]; exact Or.inr h
  obtain ⟨H, hH0⟩ : ∃ H, s.heap = H := ⟨_, rfl⟩
  have hS : va_S A s.heap H [] := by rw [← hH0]; exact va_S.rf
  rw [hH0] at hP
  have hl := lv_entry ([.ref h0, .int a1, .int a2, .int a3]) (n := 5) (Nat.le_of_ble_eq_true rfl)
  rw [lg_entry_eq]
  generalize (lg_sl ([.ref h0, .int a1, .int a2, .int a3]) ++ List.replicate (5 - (lg_sl ([.ref h0, .int a1, .int a2, .int a3])).length) Slot.unset).toArray = ls at hl ⊢
  have hl : lv_has ls 5 [(0, .ref h0), (1, .int a1), (2, .int a2), (3, .int a3)] := hl
  rw [hH0]
  refine lv_aload_n hx hb dX12_item_0 rfl (lv_at hl 0 rfl) ?_
  refine lv_iload_n hx hb dX12_item_1 rfl (lv_at hl 1 rfl) ?_
  refine lv_iload_n hx hb dX12_item_2 rfl (lv_at hl 2 rfl) ?_
  refine lv_iload_n hx hb dX12_item_3 rfl (lv_at hl 3 rfl) ?_
  have hPc := hP.sub (ws' := [(h0, .inr (13, fs)), (ra, .inl (tA, 2, .inl ((fun _ => 0))))]) [0, 1] rfl
  have hDc := hD.sub (ws' := [(h0, .inr (13, fs)), (ra, .inl (tA, 2, .inl ((fun _ => 0))))]) [0, 1] (by decide) rfl
  have hKc := hK.sub (tys' := [(tA, .int)]) [0] rfl
  have hFc := freeNil hS hA
  refine va_calli (va_runV (As := [.int a1, .int a2, .int a3]) (rest := []) ⟨hx, hb, hml, hown, ht⟩ (k_X12_isItem l d0 cO dC dI H.size h0 ra tA a1 a2 a3 fs hlen hf_asked) (my_V ht M_X12_isItem q2372 q120 q2370 (Nat.le_of_ble_eq_true rfl) (Nat.le_of_ble_eq_true rfl)) ⟨PREp.fb, va_recv hK hP (ci := 13) (q0 := 0) rfl rfl, fun U hU hW => ⟨rfl, PREp.mk' hE hS hFc hPc hKc U hU hW⟩⟩ rfl rfl hl.1 rfl (lv_room (Nat.le_of_ble_eq_true rfl)) dX12_item_4 ⟨(Nat.le_of_ble_eq_true rfl), (Nat.le_of_ble_eq_true rfl)⟩) hS (fun q _ h => hFc q h) hFc (fun r2 u1 t H1 locs htt hvm hw hB hz1 hk1 hS => ?_)
  try dsimp only at hw hB
  have hP1 := hB
  have hP := keepAll hP hk1
  generalize H1 = H at hP hS ⊢
  have hP : va_P (dC, dI) vwCl [(h0, .inr (13, fs)), (ra, .inl (tA, 2, .inl ((fun _ => 0))))] H := hP
  have hD : va_D A [(h0, .inr (13, fs)), (ra, .inl (tA, 2, .inl ((fun _ => 0))))] := hD
  have hK : va_K (dC, dI) vwCl [(tA, .int)] s := hK
  refine W.widen (k := 0) (n := 0) (Nat.le_of_ble_eq_true rfl) (Nat.le_of_ble_eq_true rfl) ?_
  subst hw
  refine lv_istore (lv' := [(4, .int 0), (0, .ref h0), (1, .int a1), (2, .int a2), (3, .int a3)]) hx hb dX12_item_7 hl (by decide) rfl (fun ls hl => ?_)
  refine lv_aload_n hx hb dX12_item_9 rfl (lv_at hl 1 rfl) ?_
  refine lv_iload hx hb dX12_item_10 (lv_at hl 0 rfl) ?_
  refine lv_if_eq (tgt := 19) hx hb dX12_item_12 (by decide) (fun c3 => ?_) (fun c3 => False.elim (by revert c3; decide))
  refine lv_iconst (v := 1) hx hb dX12_item_19 (by decide) ?_
  have hPc := hP.sub (ws' := [(h0, .inr (13, fs))]) [0] rfl
  have hDc := hD.sub (ws' := [(h0, .inr (13, fs))]) [0] (by decide) rfl
  have hKc := hK.sub (tys' := []) [] rfl
  have hFc := va_free (wc := [(h0, .inr (13, fs))]) hD hS hA [0] rfl
  refine va_calli (va_runV (As := [.int 1]) (rest := []) ⟨hx, hb, hml, hown, ht⟩ (k_X12_fails l d0 cO dC dI H.size h0 1 fs hlen) (my_V ht M_X12_fails q1992 q53 q1990 (Nat.le_of_ble_eq_true rfl) (Nat.le_of_ble_eq_true rfl)) ⟨PRE.fb, va_recv hK hP (ci := 13) (q0 := 0) rfl rfl, fun U hU hW => ⟨rfl, PRE.mk' hE hS hFc hPc hKc hDc U hU hW⟩⟩ rfl rfl hl.1 rfl (lv_room (Nat.le_of_ble_eq_true rfl)) dX12_item_20 ⟨(Nat.le_of_ble_eq_true rfl), (Nat.le_of_ble_eq_true rfl)⟩) hS (fun q _ h => hFc q h) hFc (fun r5 u4 t H1 locs htt hvm hw hB hz1 hk1 hS => ?_)
  try dsimp only at hw hB
  obtain ⟨hP1, hK1, hD1⟩ := hB
  rw [htt] at hP1
  have hK1 := va_K.moved hvm.symm hK1
  obtain ⟨hP, hD⟩ := va_join (wr := [(ra, .inl (tA, 2, .inl ((fun _ => 0))))]) (w1 := [(h0, .inr (13, (fs.set 74 (.int 1))))]) hP hD [0] [1] rfl rfl (by decide) (by decide) hk1 hFc hP1 hD1
  have hK := (hK.sub (tys' := [(tA, .int)]) [0] rfl).app hK1
  generalize H1 = H at hP hS ⊢
  have hP : va_P (dC, dI) vwCl [(ra, .inl (tA, 2, .inl ((fun _ => 0)))), (h0, .inr (13, (fs.set 74 (.int 1))))] H := hP
  have hD : va_D A [(ra, .inl (tA, 2, .inl ((fun _ => 0)))), (h0, .inr (13, (fs.set 74 (.int 1))))] := hD
  have hK : va_K (dC, dI) vwCl [(tA, .int)] s := hK
  refine W.widen (k := 0) (n := 0) (Nat.le_of_ble_eq_true rfl) (Nat.le_of_ble_eq_true rfl) ?_
  have hw := hw.1 (by decide)
  subst hw
  refine lv_if_eq (tgt := 30) hx hb dX12_item_23 (by decide) (fun c6 => False.elim (by revert c6; decide)) (fun c6 => ?_)
  refine lv_iconst (v := 0) hx hb dX12_item_26 (by decide) ?_
  refine lv_goto (tgt := 48) hx hb dX12_item_27 (by decide) ?_
  have hP9 := hP.sub (ws' := [(h0, .inr (13, (fs.set 74 (.int 1))))]) [1] rfl
  have hD9 := hD.sub (ws' := [(h0, .inr (13, (fs.set 74 (.int 1))))]) [1] (by decide) rfl
  have hK9 := hK.sub (tys' := []) [] rfl
  refine W.widen (k := 0) (n := 0) (Nat.le_of_ble_eq_true rfl) (Nat.le_of_ble_eq_true rfl) ?_
  exact W.iret (v := 0) hx hb hr (fun t ht9 hW9 => ⟨⟨0, 1, rfl, rfl, ⟨(fs.set 74 (.int 1)), (by rw [List.getElem?_set_self (by rw [hlen]; decide)]), POW.mk' ht9 hW9.alike hP9 hK9 hD9⟩⟩, hS.F ht9⟩) hS.2.2 dX12_item_48
set_option maxHeartbeats 4000000 in
set_option maxRecDepth 100000 in
theorem k_X12_value (l : Launch) (d0 : Nat) (cO : ClassId) (dC : Nat → ClassId) (dI : Nat → Nat → Nat) (sz : Nat) (h0 : Nat) (ra : Nat) (tA : ClassId) (a1 a2 a3 : Int32) (fs : List Value) (hlen : fs.length = 75) (hf_asked : fs[27]? = some (.ref ra)) : Met l yX12_value (cn yX12_value cX12_value 5 (some FieldType.int)) (rmd 5 0 0) (va_Pc [.ref h0, .int a1, .int a2, .int a3] (PRE d0 cO (dC, dI) (va_A [(h0, .inr (13, fs)), (ra, .inl (tA, 2, .inl ((fun _ => 0))))] sz) [(h0, .inr (13, fs)), (ra, .inl (tA, 2, .inl ((fun _ => 0))))] [(tA, .int)] sz)) (va_Qi (fun (r : Int32) (u : Int32) => u = 1) (fun (u : Int32) (t : State) => ∃ fs2 : List Value, (fs2[74]? = some (.int u)) ∧ POW (dC, dI) (va_A [(h0, .inr (13, fs)), (ra, .inl (tA, 2, .inl ((fun _ => 0))))] sz) [(h0, .inr (13, fs2))] [] t) (va_A [(h0, .inr (13, fs)), (ra, .inl (tA, 2, .inl ((fun _ => 0))))] sz)) 0 0 (va_A [(h0, .inr (13, fs)), (ra, .inl (tA, 2, .inl ((fun _ => 0))))] sz) := by
  refine Met.ofW (cc := cX12_value) (maxL := 5) (ret := (some FieldType.int)) (by decide) rfl ?_
  intro p e s m args below meth c s₁ B hml hv
  obtain ⟨rfl, hsz, hE, hP, hK, hD0⟩ := hv
  have hx := B.exec
  have hb := B.bytes
  have hr := B.returns
  have hts := atoms_spec (ws := cn yX12_value cX12_value 5 (some FieldType.int)) B.pre
  have ht : ∀ w ∈ GT, w.before _ s = true := fun w h => hts w (List.mem_cons_of_mem _ h)
  have hown : s.vm.findClass RX12 = some m.cls := findClass_of_methodNamed B.named
  have hlocks := B.notSynchronized
  subst hsz
  have hD := hD0.self (sz := s.heap.size)
  generalize hAe : va_A [(h0, .inr (13, fs)), (ra, .inl (tA, 2, .inl ((fun _ => 0))))] s.heap.size = A at hD hE ⊢
  have hA : ∀ q : Nat, s.heap.size ≤ q → A q := fun q h => by rw [← hAe]; exact Or.inr h
  obtain ⟨H, hH0⟩ : ∃ H, s.heap = H := ⟨_, rfl⟩
  have hS : va_S A s.heap H [] := by rw [← hH0]; exact va_S.rf
  rw [hH0] at hP
  have hl := lv_entry ([.ref h0, .int a1, .int a2, .int a3]) (n := 5) (Nat.le_of_ble_eq_true rfl)
  rw [lg_entry_eq]
  generalize (lg_sl ([.ref h0, .int a1, .int a2, .int a3]) ++ List.replicate (5 - (lg_sl ([.ref h0, .int a1, .int a2, .int a3])).length) Slot.unset).toArray = ls at hl ⊢
  have hl : lv_has ls 5 [(0, .ref h0), (1, .int a1), (2, .int a2), (3, .int a3)] := hl
  rw [hH0]
  refine lv_aload_n hx hb dX12_value_0 rfl (lv_at hl 0 rfl) ?_
  refine lv_iload_n hx hb dX12_value_1 rfl (lv_at hl 1 rfl) ?_
  refine lv_iload_n hx hb dX12_value_2 rfl (lv_at hl 2 rfl) ?_
  refine lv_iload_n hx hb dX12_value_3 rfl (lv_at hl 3 rfl) ?_
  have hPc := hP.sub (ws' := [(h0, .inr (13, fs)), (ra, .inl (tA, 2, .inl ((fun _ => 0))))]) [0, 1] rfl
  have hDc := hD.sub (ws' := [(h0, .inr (13, fs)), (ra, .inl (tA, 2, .inl ((fun _ => 0))))]) [0, 1] (by decide) rfl
  have hKc := hK.sub (tys' := [(tA, .int)]) [0] rfl
  have hFc := freeNil hS hA
  refine va_calli (va_runV (As := [.int a1, .int a2, .int a3]) (rest := []) ⟨hx, hb, hml, hown, ht⟩ (k_X12_isItem l d0 cO dC dI H.size h0 ra tA a1 a2 a3 fs hlen hf_asked) (my_V ht M_X12_isItem q2372 q120 q2370 (Nat.le_of_ble_eq_true rfl) (Nat.le_of_ble_eq_true rfl)) ⟨PREp.fb, va_recv hK hP (ci := 13) (q0 := 0) rfl rfl, fun U hU hW => ⟨rfl, PREp.mk' hE hS hFc hPc hKc U hU hW⟩⟩ rfl rfl hl.1 rfl (lv_room (Nat.le_of_ble_eq_true rfl)) dX12_value_4 ⟨(Nat.le_of_ble_eq_true rfl), (Nat.le_of_ble_eq_true rfl)⟩) hS (fun q _ h => hFc q h) hFc (fun r2 u1 t H1 locs htt hvm hw hB hz1 hk1 hS => ?_)
  try dsimp only at hw hB
  have hP1 := hB
  have hP := keepAll hP hk1
  generalize H1 = H at hP hS ⊢
  have hP : va_P (dC, dI) vwCl [(h0, .inr (13, fs)), (ra, .inl (tA, 2, .inl ((fun _ => 0))))] H := hP
  have hD : va_D A [(h0, .inr (13, fs)), (ra, .inl (tA, 2, .inl ((fun _ => 0))))] := hD
  have hK : va_K (dC, dI) vwCl [(tA, .int)] s := hK
  refine W.widen (k := 0) (n := 0) (Nat.le_of_ble_eq_true rfl) (Nat.le_of_ble_eq_true rfl) ?_
  subst hw
  refine lv_istore (lv' := [(4, .int 0), (0, .ref h0), (1, .int a1), (2, .int a2), (3, .int a3)]) hx hb dX12_value_7 hl (by decide) rfl (fun ls hl => ?_)
  refine lv_aload_n hx hb dX12_value_9 rfl (lv_at hl 1 rfl) ?_
  refine lv_iload hx hb dX12_value_10 (lv_at hl 0 rfl) ?_
  refine lv_if_eq (tgt := 19) hx hb dX12_value_12 (by decide) (fun c3 => ?_) (fun c3 => False.elim (by revert c3; decide))
  refine lv_iconst (v := 1) hx hb dX12_value_19 (by decide) ?_
  have hPc := hP.sub (ws' := [(h0, .inr (13, fs))]) [0] rfl
  have hDc := hD.sub (ws' := [(h0, .inr (13, fs))]) [0] (by decide) rfl
  have hKc := hK.sub (tys' := []) [] rfl
  have hFc := va_free (wc := [(h0, .inr (13, fs))]) hD hS hA [0] rfl
  refine va_calli (va_runV (As := [.int 1]) (rest := []) ⟨hx, hb, hml, hown, ht⟩ (k_X12_fails l d0 cO dC dI H.size h0 1 fs hlen) (my_V ht M_X12_fails q1992 q53 q1990 (Nat.le_of_ble_eq_true rfl) (Nat.le_of_ble_eq_true rfl)) ⟨PRE.fb, va_recv hK hP (ci := 13) (q0 := 0) rfl rfl, fun U hU hW => ⟨rfl, PRE.mk' hE hS hFc hPc hKc hDc U hU hW⟩⟩ rfl rfl hl.1 rfl (lv_room (Nat.le_of_ble_eq_true rfl)) dX12_value_20 ⟨(Nat.le_of_ble_eq_true rfl), (Nat.le_of_ble_eq_true rfl)⟩) hS (fun q _ h => hFc q h) hFc (fun r5 u4 t H1 locs htt hvm hw hB hz1 hk1 hS => ?_)
  try dsimp only at hw hB
  obtain ⟨hP1, hK1, hD1⟩ := hB
  rw [htt] at hP1
  have hK1 := va_K.moved hvm.symm hK1
  obtain ⟨hP, hD⟩ := va_join (wr := [(ra, .inl (tA, 2, .inl ((fun _ => 0))))]) (w1 := [(h0, .inr (13, (fs.set 74 (.int 1))))]) hP hD [0] [1] rfl rfl (by decide) (by decide) hk1 hFc hP1 hD1
  have hK := (hK.sub (tys' := [(tA, .int)]) [0] rfl).app hK1
  generalize H1 = H at hP hS ⊢
  have hP : va_P (dC, dI) vwCl [(ra, .inl (tA, 2, .inl ((fun _ => 0)))), (h0, .inr (13, (fs.set 74 (.int 1))))] H := hP
  have hD : va_D A [(ra, .inl (tA, 2, .inl ((fun _ => 0)))), (h0, .inr (13, (fs.set 74 (.int 1))))] := hD
  have hK : va_K (dC, dI) vwCl [(tA, .int)] s := hK
  refine W.widen (k := 0) (n := 0) (Nat.le_of_ble_eq_true rfl) (Nat.le_of_ble_eq_true rfl) ?_
  have hw := hw.1 (by decide)
  subst hw
  refine lv_if_eq (tgt := 30) hx hb dX12_value_23 (by decide) (fun c6 => False.elim (by revert c6; decide)) (fun c6 => ?_)
  refine lv_iconst (v := 0) hx hb dX12_value_26 (by decide) ?_
  refine lv_goto (tgt := 49) hx hb dX12_value_27 (by decide) ?_
  have hP9 := hP.sub (ws' := [(h0, .inr (13, (fs.set 74 (.int 1))))]) [1] rfl
  have hD9 := hD.sub (ws' := [(h0, .inr (13, (fs.set 74 (.int 1))))]) [1] (by decide) rfl
  have hK9 := hK.sub (tys' := []) [] rfl
  refine W.widen (k := 0) (n := 0) (Nat.le_of_ble_eq_true rfl) (Nat.le_of_ble_eq_true rfl) ?_
  exact W.iret (v := 0) hx hb hr (fun t ht9 hW9 => ⟨⟨0, 1, rfl, rfl, ⟨(fs.set 74 (.int 1)), (by rw [List.getElem?_set_self (by rw [hlen]; decide)]), POW.mk' ht9 hW9.alike hP9 hK9 hD9⟩⟩, hS.F ht9⟩) hS.2.2 dX12_value_49
set_option maxHeartbeats 4000000 in
set_option maxRecDepth 100000 in
theorem k_X12_token (l : Launch) (d0 : Nat) (cO : ClassId) (dC : Nat → ClassId) (dI : Nat → Nat → Nat) (sz : Nat) (h0 : Nat) (ra : Nat) (tA : ClassId) (a1 a2 a3 : Int32) (fs : List Value) (hlen : fs.length = 75) (hf_asked : fs[27]? = some (.ref ra)) : Met l yX12_token (cn yX12_token cX12_token 11 (some FieldType.int)) (rmd 5 0 0) (va_Pc [.ref h0, .int a1, .int a2, .int a3] (PRE d0 cO (dC, dI) (va_A [(h0, .inr (13, fs)), (ra, .inl (tA, 2, .inl ((fun _ => 0))))] sz) [(h0, .inr (13, fs)), (ra, .inl (tA, 2, .inl ((fun _ => 0))))] [(tA, .int)] sz)) (va_Qi (fun (r : Int32) (u : Int32) => u = 1) (fun (u : Int32) (t : State) => ∃ fs2 : List Value, (fs2[74]? = some (.int u)) ∧ POW (dC, dI) (va_A [(h0, .inr (13, fs)), (ra, .inl (tA, 2, .inl ((fun _ => 0))))] sz) [(h0, .inr (13, fs2))] [] t) (va_A [(h0, .inr (13, fs)), (ra, .inl (tA, 2, .inl ((fun _ => 0))))] sz)) 0 0 (va_A [(h0, .inr (13, fs)), (ra, .inl (tA, 2, .inl ((fun _ => 0))))] sz) := by
  refine Met.ofW (cc := cX12_token) (maxL := 11) (ret := (some FieldType.int)) (by decide) rfl ?_
  intro p e s m args below meth c s₁ B hml hv
  obtain ⟨rfl, hsz, hE, hP, hK, hD0⟩ := hv
  have hx := B.exec
  have hb := B.bytes
  have hr := B.returns
  have hts := atoms_spec (ws := cn yX12_token cX12_token 11 (some FieldType.int)) B.pre
  have ht : ∀ w ∈ GT, w.before _ s = true := fun w h => hts w (List.mem_cons_of_mem _ h)
  have hown : s.vm.findClass RX12 = some m.cls := findClass_of_methodNamed B.named
  have hlocks := B.notSynchronized
  subst hsz
  have hD := hD0.self (sz := s.heap.size)
  generalize hAe : va_A [(h0, .inr (13, fs)), (ra, .inl (tA, 2, .inl ((fun _ => 0))))] s.heap.size = A at hD hE ⊢
  have hA : ∀ q : Nat, s.heap.size ≤ q → A q := fun q h => by rw [← hAe]; exact Or.inr h
  obtain ⟨H, hH0⟩ : ∃ H, s.heap = H := ⟨_, rfl⟩
  have hS : va_S A s.heap H [] := by rw [← hH0]; exact va_S.rf
  rw [hH0] at hP
  have hl := lv_entry ([.ref h0, .int a1, .int a2, .int a3]) (n := 11) (Nat.le_of_ble_eq_true rfl)
  rw [lg_entry_eq]
  generalize (lg_sl ([.ref h0, .int a1, .int a2, .int a3]) ++ List.replicate (11 - (lg_sl ([.ref h0, .int a1, .int a2, .int a3])).length) Slot.unset).toArray = ls at hl ⊢
  have hl : lv_has ls 11 [(0, .ref h0), (1, .int a1), (2, .int a2), (3, .int a3)] := hl
  rw [hH0]
  refine lv_iload_n hx hb dX12_token_0 rfl (lv_at hl 3 rfl) ?_
  refine lv_if_lt (tgt := 34) hx hb dX12_token_1 (by decide) (fun c1 => ?_) (fun c1 => ?_)
  · skip
    refine lv_iconst (v := 0) hx hb dX12_token_34 (by decide) ?_
    refine lv_istore (lv' := [(4, .int 0), (0, .ref h0), (1, .int a1), (2, .int a2), (3, .int a3)]) hx hb dX12_token_35 hl (by decide) rfl (fun ls hl => ?_)
    refine lv_aload_n hx hb dX12_token_37 rfl (lv_at hl 1 rfl) ?_
    refine lv_iload hx hb dX12_token_38 (lv_at hl 0 rfl) ?_
    refine lv_if_eq (tgt := 47) hx hb dX12_token_40 (by decide) (fun c2 => ?_) (fun c2 => False.elim (by revert c2; decide))
    refine lv_iconst (v := 1) hx hb dX12_token_47 (by decide) ?_
    have hPc := hP.sub (ws' := [(h0, .inr (13, fs))]) [0] rfl
    have hDc := hD.sub (ws' := [(h0, .inr (13, fs))]) [0] (by decide) rfl
    have hKc := hK.sub (tys' := []) [] rfl
    have hFc := va_free (wc := [(h0, .inr (13, fs))]) hD hS hA [0] rfl
    refine va_calli (va_runV (As := [.int 1]) (rest := []) ⟨hx, hb, hml, hown, ht⟩ (k_X12_fails l d0 cO dC dI H.size h0 1 fs hlen) (my_V ht M_X12_fails q1992 q53 q1990 (Nat.le_of_ble_eq_true rfl) (Nat.le_of_ble_eq_true rfl)) ⟨PRE.fb, va_recv hK hP (ci := 13) (q0 := 0) rfl rfl, fun U hU hW => ⟨rfl, PRE.mk' hE hS hFc hPc hKc hDc U hU hW⟩⟩ rfl rfl hl.1 rfl (lv_room (Nat.le_of_ble_eq_true rfl)) dX12_token_48 ⟨(Nat.le_of_ble_eq_true rfl), (Nat.le_of_ble_eq_true rfl)⟩) hS (fun q _ h => hFc q h) hFc (fun r4 u3 t H1 locs htt hvm hw hB hz1 hk1 hS => ?_)
    try dsimp only at hw hB
    obtain ⟨hP1, hK1, hD1⟩ := hB
    rw [htt] at hP1
    have hK1 := va_K.moved hvm.symm hK1
    obtain ⟨hP, hD⟩ := va_join (wr := [(ra, .inl (tA, 2, .inl ((fun _ => 0))))]) (w1 := [(h0, .inr (13, (fs.set 74 (.int 1))))]) hP hD [0] [1] rfl rfl (by decide) (by decide) hk1 hFc hP1 hD1
    have hK := (hK.sub (tys' := [(tA, .int)]) [0] rfl).app hK1
    generalize H1 = H at hP hS ⊢
    have hP : va_P (dC, dI) vwCl [(ra, .inl (tA, 2, .inl ((fun _ => 0)))), (h0, .inr (13, (fs.set 74 (.int 1))))] H := hP
    have hD : va_D A [(ra, .inl (tA, 2, .inl ((fun _ => 0)))), (h0, .inr (13, (fs.set 74 (.int 1))))] := hD
    have hK : va_K (dC, dI) vwCl [(tA, .int)] s := hK
    refine W.widen (k := 0) (n := 0) (Nat.le_of_ble_eq_true rfl) (Nat.le_of_ble_eq_true rfl) ?_
    have hw := hw.1 (by decide)
    subst hw
    refine lv_if_eq (tgt := 56) hx hb dX12_token_51 (by decide) (fun c5 => False.elim (by revert c5; decide)) (fun c5 => ?_)
    refine lv_iconst (v := 0) hx hb dX12_token_54 (by decide) ?_
    have hP9 := hP.sub (ws' := [(h0, .inr (13, (fs.set 74 (.int 1))))]) [1] rfl
    have hD9 := hD.sub (ws' := [(h0, .inr (13, (fs.set 74 (.int 1))))]) [1] (by decide) rfl
    have hK9 := hK.sub (tys' := []) [] rfl
    refine W.widen (k := 0) (n := 0) (Nat.le_of_ble_eq_true rfl) (Nat.le_of_ble_eq_true rfl) ?_
    exact W.iret (v := 0) hx hb hr (fun t ht9 hW9 => ⟨⟨0, 1, rfl, rfl, ⟨(fs.set 74 (.int 1)), (by rw [List.getElem?_set_self (by rw [hlen]; decide)]), POW.mk' ht9 hW9.alike hP9 hK9 hD9⟩⟩, hS.F ht9⟩) hS.2.2 dX12_token_55
  · skip
    refine lv_aload_n hx hb dX12_token_4 rfl (lv_at hl 0 rfl) ?_
    refine lv_iload_n hx hb dX12_token_5 rfl (lv_at hl 1 rfl) ?_
    refine lv_iload_n hx hb dX12_token_6 rfl (lv_at hl 2 rfl) ?_
    refine lv_iload_n hx hb dX12_token_7 rfl (lv_at hl 3 rfl) ?_
    refine lv_iconst (v := 4) hx hb dX12_token_8 (by decide) ?_
    refine lv_idiv hx hb dX12_token_9 (by decide) ?_
    refine lv_topi (fun x6 ex6 => ?_)
    have hPc := hP.sub (ws' := [(h0, .inr (13, fs)), (ra, .inl (tA, 2, .inl ((fun _ => 0))))]) [0, 1] rfl
    have hDc := hD.sub (ws' := [(h0, .inr (13, fs)), (ra, .inl (tA, 2, .inl ((fun _ => 0))))]) [0, 1] (by decide) rfl
    have hKc := hK.sub (tys' := [(tA, .int)]) [0] rfl
    have hFc := freeNil hS hA
    refine va_calli (va_runV (As := [.int a1, .int a2, .int x6]) (rest := []) ⟨hx, hb, hml, hown, ht⟩ (k_X12_isItem l d0 cO dC dI H.size h0 ra tA a1 a2 x6 fs hlen hf_asked) (my_V ht M_X12_isItem q2372 q120 q2370 (Nat.le_of_ble_eq_true rfl) (Nat.le_of_ble_eq_true rfl)) ⟨PREp.fb, va_recv hK hP (ci := 13) (q0 := 0) rfl rfl, fun U hU hW => ⟨rfl, PREp.mk' hE hS hFc hPc hKc U hU hW⟩⟩ rfl rfl hl.1 rfl (lv_room (Nat.le_of_ble_eq_true rfl)) dX12_token_10 ⟨(Nat.le_of_ble_eq_true rfl), (Nat.le_of_ble_eq_true rfl)⟩) hS (fun q _ h => hFc q h) hFc (fun r8 u7 t H1 locs htt hvm hw hB hz1 hk1 hS => ?_)
    try dsimp only at hw hB
    have hP1 := hB
    have hP := keepAll hP hk1
    generalize H1 = H at hP hS ⊢
    have hP : va_P (dC, dI) vwCl [(h0, .inr (13, fs)), (ra, .inl (tA, 2, .inl ((fun _ => 0))))] H := hP
    have hD : va_D A [(h0, .inr (13, fs)), (ra, .inl (tA, 2, .inl ((fun _ => 0))))] := hD
    have hK : va_K (dC, dI) vwCl [(tA, .int)] s := hK
    refine W.widen (k := 0) (n := 0) (Nat.le_of_ble_eq_true rfl) (Nat.le_of_ble_eq_true rfl) ?_
    subst hw
    refine lv_if_eq (tgt := 34) hx hb dX12_token_13 (by decide) (fun c9 => ?_) (fun c9 => False.elim (by revert c9; decide))
    refine lv_iconst (v := 0) hx hb dX12_token_34 (by decide) ?_
    refine lv_istore (lv' := [(4, .int 0), (0, .ref h0), (1, .int a1), (2, .int a2), (3, .int a3)]) hx hb dX12_token_35 hl (by decide) rfl (fun ls hl => ?_)
    refine lv_aload_n hx hb dX12_token_37 rfl (lv_at hl 1 rfl) ?_
    refine lv_iload hx hb dX12_token_38 (lv_at hl 0 rfl) ?_
    refine lv_if_eq (tgt := 47) hx hb dX12_token_40 (by decide) (fun c10 => ?_) (fun c10 => False.elim (by revert c10; decide))
    refine lv_iconst (v := 1) hx hb dX12_token_47 (by decide) ?_
    have hPc := hP.sub (ws' := [(h0, .inr (13, fs))]) [0] rfl
    have hDc := hD.sub (ws' := [(h0, .inr (13, fs))]) [0] (by decide) rfl
    have hKc := hK.sub (tys' := []) [] rfl
    have hFc := va_free (wc := [(h0, .inr (13, fs))]) hD hS hA [0] rfl
    refine va_calli (va_runV (As := [.int 1]) (rest := []) ⟨hx, hb, hml, hown, ht⟩ (k_X12_fails l d0 cO dC dI H.size h0 1 fs hlen) (my_V ht M_X12_fails q1992 q53 q1990 (Nat.le_of_ble_eq_true rfl) (Nat.le_of_ble_eq_true rfl)) ⟨PRE.fb, va_recv hK hP (ci := 13) (q0 := 0) rfl rfl, fun U hU hW => ⟨rfl, PRE.mk' hE hS hFc hPc hKc hDc U hU hW⟩⟩ rfl rfl hl.1 rfl (lv_room (Nat.le_of_ble_eq_true rfl)) dX12_token_48 ⟨(Nat.le_of_ble_eq_true rfl), (Nat.le_of_ble_eq_true rfl)⟩) hS (fun q _ h => hFc q h) hFc (fun r12 u11 t H1 locs htt hvm hw hB hz1 hk1 hS => ?_)
    try dsimp only at hw hB
    obtain ⟨hP1, hK1, hD1⟩ := hB
    rw [htt] at hP1
    have hK1 := va_K.moved hvm.symm hK1
    obtain ⟨hP, hD⟩ := va_join (wr := [(ra, .inl (tA, 2, .inl ((fun _ => 0))))]) (w1 := [(h0, .inr (13, (fs.set 74 (.int 1))))]) hP hD [0] [1] rfl rfl (by decide) (by decide) hk1 hFc hP1 hD1
    have hK := (hK.sub (tys' := [(tA, .int)]) [0] rfl).app hK1
    generalize H1 = H at hP hS ⊢
    have hP : va_P (dC, dI) vwCl [(ra, .inl (tA, 2, .inl ((fun _ => 0)))), (h0, .inr (13, (fs.set 74 (.int 1))))] H := hP
    have hD : va_D A [(ra, .inl (tA, 2, .inl ((fun _ => 0)))), (h0, .inr (13, (fs.set 74 (.int 1))))] := hD
    have hK : va_K (dC, dI) vwCl [(tA, .int)] s := hK
    refine W.widen (k := 0) (n := 0) (Nat.le_of_ble_eq_true rfl) (Nat.le_of_ble_eq_true rfl) ?_
    have hw := hw.1 (by decide)
    subst hw
    refine lv_if_eq (tgt := 56) hx hb dX12_token_51 (by decide) (fun c13 => False.elim (by revert c13; decide)) (fun c13 => ?_)
    refine lv_iconst (v := 0) hx hb dX12_token_54 (by decide) ?_
    have hP9 := hP.sub (ws' := [(h0, .inr (13, (fs.set 74 (.int 1))))]) [1] rfl
    have hD9 := hD.sub (ws' := [(h0, .inr (13, (fs.set 74 (.int 1))))]) [1] (by decide) rfl
    have hK9 := hK.sub (tys' := []) [] rfl
    refine W.widen (k := 0) (n := 0) (Nat.le_of_ble_eq_true rfl) (Nat.le_of_ble_eq_true rfl) ?_
    exact W.iret (v := 0) hx hb hr (fun t ht9 hW9 => ⟨⟨0, 1, rfl, rfl, ⟨(fs.set 74 (.int 1)), (by rw [List.getElem?_set_self (by rw [hlen]; decide)]), POW.mk' ht9 hW9.alike hP9 hK9 hD9⟩⟩, hS.F ht9⟩) hS.2.2 dX12_token_55
set_option maxHeartbeats 4000000 in
set_option maxRecDepth 100000 in
theorem k_X12_id (l : Launch) (d0 : Nat) (cO : ClassId) (dC : Nat → ClassId) (dI : Nat → Nat → Nat) (sz : Nat) (h0 : Nat) (ra : Nat) (tA : ClassId) (a1 a2 a3 : Int32) (fs : List Value) (hlen : fs.length = 75) (hf_asked : fs[27]? = some (.ref ra)) (hf_servers : fs[15]? = some (.int 0)) : Met l yX12_id (cn yX12_id cX12_id 5 (some FieldType.int)) (rmd 5 0 0) (va_Pc [.ref h0, .int a1, .int a2, .int a3] (PRE d0 cO (dC, dI) (va_A [(h0, .inr (13, fs)), (ra, .inl (tA, 2, .inl ((fun _ => 0))))] sz) [(h0, .inr (13, fs)), (ra, .inl (tA, 2, .inl ((fun _ => 0))))] [(tA, .int)] sz)) (va_Qi (fun (r : Int32) (u : Int32) => u = 1) (fun (u : Int32) (t : State) => ∃ fs2 : List Value, (fs2[74]? = some (.int u)) ∧ POW (dC, dI) (va_A [(h0, .inr (13, fs)), (ra, .inl (tA, 2, .inl ((fun _ => 0))))] sz) [(h0, .inr (13, fs2))] [] t) (va_A [(h0, .inr (13, fs)), (ra, .inl (tA, 2, .inl ((fun _ => 0))))] sz)) 0 0 (va_A [(h0, .inr (13, fs)), (ra, .inl (tA, 2, .inl ((fun _ => 0))))] sz) := by
  refine Met.ofW (cc := cX12_id) (maxL := 5) (ret := (some FieldType.int)) (by decide) rfl ?_
  intro p e s m args below meth c s₁ B hml hv
  obtain ⟨rfl, hsz, hE, hP, hK, hD0⟩ := hv
  have hx := B.exec
  have hb := B.bytes
  have hr := B.returns
  have hts := atoms_spec (ws := cn yX12_id cX12_id 5 (some FieldType.int)) B.pre
  have ht : ∀ w ∈ GT, w.before _ s = true := fun w h => hts w (List.mem_cons_of_mem _ h)
  have hown : s.vm.findClass RX12 = some m.cls := findClass_of_methodNamed B.named
  have hlocks := B.notSynchronized
  subst hsz
  have hD := hD0.self (sz := s.heap.size)
  generalize hAe : va_A [(h0, .inr (13, fs)), (ra, .inl (tA, 2, .inl ((fun _ => 0))))] s.heap.size = A at hD hE ⊢
  have hA : ∀ q : Nat, s.heap.size ≤ q → A q := fun q h => by rw [← hAe]; exact Or.inr h
  obtain ⟨H, hH0⟩ : ∃ H, s.heap = H := ⟨_, rfl⟩
  have hS : va_S A s.heap H [] := by rw [← hH0]; exact va_S.rf
  rw [hH0] at hP
  have hl := lv_entry ([.ref h0, .int a1, .int a2, .int a3]) (n := 5) (Nat.le_of_ble_eq_true rfl)
  rw [lg_entry_eq]
  generalize (lg_sl ([.ref h0, .int a1, .int a2, .int a3]) ++ List.replicate (5 - (lg_sl ([.ref h0, .int a1, .int a2, .int a3])).length) Slot.unset).toArray = ls at hl ⊢
  have hl : lv_has ls 5 [(0, .ref h0), (1, .int a1), (2, .int a2), (3, .int a3)] := hl
  rw [hH0]
  refine lv_aload_n hx hb dX12_id_0 rfl (lv_at hl 0 rfl) ?_
  refine lv_iload_n hx hb dX12_id_1 rfl (lv_at hl 1 rfl) ?_
  refine lv_iload_n hx hb dX12_id_2 rfl (lv_at hl 2 rfl) ?_
  have hPc := hP.sub (ws' := [(h0, .inr (13, fs)), (ra, .inl (tA, 2, .inl ((fun _ => 0))))]) [0, 1] rfl
  have hDc := hD.sub (ws' := [(h0, .inr (13, fs)), (ra, .inl (tA, 2, .inl ((fun _ => 0))))]) [0, 1] (by decide) rfl
  have hKc := hK.sub (tys' := [(tA, .int)]) [0] rfl
  have hFc := freeNil hS hA
  refine va_calli (va_runV (As := [.int a1, .int a2]) (rest := []) ⟨hx, hb, hml, hown, ht⟩ (k_X12_isRequest l d0 cO dC dI H.size h0 ra tA a1 a2 fs hlen hf_asked) (my_V ht M_X12_isRequest q2117 q70 q2115 (Nat.le_of_ble_eq_true rfl) (Nat.le_of_ble_eq_true rfl)) ⟨PREp.fb, va_recv hK hP (ci := 13) (q0 := 0) rfl rfl, fun U hU hW => ⟨rfl, PREp.mk' hE hS hFc hPc hKc U hU hW⟩⟩ rfl rfl hl.1 rfl (lv_room (Nat.le_of_ble_eq_true rfl)) dX12_id_3 ⟨(Nat.le_of_ble_eq_true rfl), (Nat.le_of_ble_eq_true rfl)⟩) hS (fun q _ h => hFc q h) hFc (fun r2 u1 t H1 locs htt hvm hw hB hz1 hk1 hS => ?_)
  try dsimp only at hw hB
  have hP1 := hB
  have hP := keepAll hP hk1
  generalize H1 = H at hP hS ⊢
  have hP : va_P (dC, dI) vwCl [(h0, .inr (13, fs)), (ra, .inl (tA, 2, .inl ((fun _ => 0))))] H := hP
  have hD : va_D A [(h0, .inr (13, fs)), (ra, .inl (tA, 2, .inl ((fun _ => 0))))] := hD
  have hK : va_K (dC, dI) vwCl [(tA, .int)] s := hK
  refine W.widen (k := 0) (n := 0) (Nat.le_of_ble_eq_true rfl) (Nat.le_of_ble_eq_true rfl) ?_
  subst hw
  refine lv_if_eq (tgt := 21) hx hb dX12_id_6 (by decide) (fun c3 => ?_) (fun c3 => False.elim (by revert c3; decide))
  refine lv_iconst (v := 0) hx hb dX12_id_21 (by decide) ?_
  refine lv_istore (lv' := [(4, .int 0), (0, .ref h0), (1, .int a1), (2, .int a2), (3, .int a3)]) hx hb dX12_id_22 hl (by decide) rfl (fun ls hl => ?_)
  refine lv_aload_n hx hb dX12_id_24 rfl (lv_at hl 1 rfl) ?_
  refine lv_iload hx hb dX12_id_25 (lv_at hl 0 rfl) ?_
  refine lv_if_eq (tgt := 34) hx hb dX12_id_27 (by decide) (fun c4 => ?_) (fun c4 => False.elim (by revert c4; decide))
  refine lv_iconst (v := 1) hx hb dX12_id_34 (by decide) ?_
  have hPc := hP.sub (ws' := [(h0, .inr (13, fs))]) [0] rfl
  have hDc := hD.sub (ws' := [(h0, .inr (13, fs))]) [0] (by decide) rfl
  have hKc := hK.sub (tys' := []) [] rfl
  have hFc := va_free (wc := [(h0, .inr (13, fs))]) hD hS hA [0] rfl
  refine va_calli (va_runV (As := [.int 1]) (rest := []) ⟨hx, hb, hml, hown, ht⟩ (k_X12_fails l d0 cO dC dI H.size h0 1 fs hlen) (my_V ht M_X12_fails q1992 q53 q1990 (Nat.le_of_ble_eq_true rfl) (Nat.le_of_ble_eq_true rfl)) ⟨PRE.fb, va_recv hK hP (ci := 13) (q0 := 0) rfl rfl, fun U hU hW => ⟨rfl, PRE.mk' hE hS hFc hPc hKc hDc U hU hW⟩⟩ rfl rfl hl.1 rfl (lv_room (Nat.le_of_ble_eq_true rfl)) dX12_id_35 ⟨(Nat.le_of_ble_eq_true rfl), (Nat.le_of_ble_eq_true rfl)⟩) hS (fun q _ h => hFc q h) hFc (fun r6 u5 t H1 locs htt hvm hw hB hz1 hk1 hS => ?_)
  try dsimp only at hw hB
  obtain ⟨hP1, hK1, hD1⟩ := hB
  rw [htt] at hP1
  have hK1 := va_K.moved hvm.symm hK1
  obtain ⟨hP, hD⟩ := va_join (wr := [(ra, .inl (tA, 2, .inl ((fun _ => 0))))]) (w1 := [(h0, .inr (13, (fs.set 74 (.int 1))))]) hP hD [0] [1] rfl rfl (by decide) (by decide) hk1 hFc hP1 hD1
  have hK := (hK.sub (tys' := [(tA, .int)]) [0] rfl).app hK1
  generalize H1 = H at hP hS ⊢
  have hP : va_P (dC, dI) vwCl [(ra, .inl (tA, 2, .inl ((fun _ => 0)))), (h0, .inr (13, (fs.set 74 (.int 1))))] H := hP
  have hD : va_D A [(ra, .inl (tA, 2, .inl ((fun _ => 0)))), (h0, .inr (13, (fs.set 74 (.int 1))))] := hD
  have hK : va_K (dC, dI) vwCl [(tA, .int)] s := hK
  refine W.widen (k := 0) (n := 0) (Nat.le_of_ble_eq_true rfl) (Nat.le_of_ble_eq_true rfl) ?_
  have hw := hw.1 (by decide)
  subst hw
  refine lv_if_eq (tgt := 45) hx hb dX12_id_38 (by decide) (fun c7 => False.elim (by revert c7; decide)) (fun c7 => ?_)
  refine lv_iconst (v := 0) hx hb dX12_id_41 (by decide) ?_
  refine lv_goto (tgt := 59) hx hb dX12_id_42 (by decide) ?_
  have hP9 := hP.sub (ws' := [(h0, .inr (13, (fs.set 74 (.int 1))))]) [1] rfl
  have hD9 := hD.sub (ws' := [(h0, .inr (13, (fs.set 74 (.int 1))))]) [1] (by decide) rfl
  have hK9 := hK.sub (tys' := []) [] rfl
  refine W.widen (k := 0) (n := 0) (Nat.le_of_ble_eq_true rfl) (Nat.le_of_ble_eq_true rfl) ?_
  exact W.iret (v := 0) hx hb hr (fun t ht9 hW9 => ⟨⟨0, 1, rfl, rfl, ⟨(fs.set 74 (.int 1)), (by rw [List.getElem?_set_self (by rw [hlen]; decide)]), POW.mk' ht9 hW9.alike hP9 hK9 hD9⟩⟩, hS.F ht9⟩) hS.2.2 dX12_id_59
set_option maxHeartbeats 4000000 in
set_option maxRecDepth 100000 in
theorem k_X12_isNamed (l : Launch) (d0 : Nat) (cO : ClassId) (dC : Nat → ClassId) (dI : Nat → Nat → Nat) (sz : Nat) (h0 : Nat) (a1 a2 : Int32) (fs : List Value) (hlen : fs.length = 75) (hf_files : fs[2]? = some (.int 0)) : Met l yX12_isNamed (cn yX12_isNamed cX12_isNamed 5 (some FieldType.boolean)) (rmd 0 0 0) (va_Pc [.ref h0, .int a1, .int a2] (PREp d0 cO (dC, dI) (va_A [] sz) [(h0, .inr (13, fs))] [] sz)) (va_Qi (fun (r : Int32) (_ : Unit) => r = 0) (fun (_ : Unit) (t : State) => va_P (dC, dI) vwCl [] t.heap) (va_A [] sz)) 0 0 (va_A [] sz) := by
  refine Met.ofW (cc := cX12_isNamed) (maxL := 5) (ret := (some FieldType.boolean)) (by decide) rfl ?_
  intro p e s m args below meth c s₁ B hml hv
  obtain ⟨rfl, hsz, hE, hP, hK⟩ := hv
  have hx := B.exec
  have hb := B.bytes
  have hr := B.returns
  have hts := atoms_spec (ws := cn yX12_isNamed cX12_isNamed 5 (some FieldType.boolean)) B.pre
  have ht : ∀ w ∈ GT, w.before _ s = true := fun w h => hts w (List.mem_cons_of_mem _ h)
  have hown : s.vm.findClass RX12 = some m.cls := findClass_of_methodNamed B.named
  have hlocks := B.notSynchronized
  subst hsz
  generalize hAe : va_A [] s.heap.size = A at hE ⊢
  have hA : ∀ q : Nat, s.heap.size ≤ q → A q := fun q h => by rw [← hAe]; exact Or.inr h
  obtain ⟨H, hH0⟩ : ∃ H, s.heap = H := ⟨_, rfl⟩
  have hS : va_S A s.heap H [] := by rw [← hH0]; exact va_S.rf
  rw [hH0] at hP
  have hl := lv_entry ([.ref h0, .int a1, .int a2]) (n := 5) (Nat.le_of_ble_eq_true rfl)
  rw [lg_entry_eq]
  generalize (lg_sl ([.ref h0, .int a1, .int a2]) ++ List.replicate (5 - (lg_sl ([.ref h0, .int a1, .int a2])).length) Slot.unset).toArray = ls at hl ⊢
  have hl : lv_has ls 5 [(0, .ref h0), (1, .int a1), (2, .int a2)] := hl
  rw [hH0]
  refine lv_iconst (v := 0) hx hb dX12_isNamed_0 (by decide) ?_
  refine lv_istore_n (lv' := [(3, .int 0), (0, .ref h0), (1, .int a1), (2, .int a2)]) hx hb dX12_isNamed_1 rfl hl (by decide) rfl (fun ls hl => ?_)
  refine lv_iconst (v := 0) hx hb dX12_isNamed_2 (by decide) ?_
  refine lv_istore (lv' := [(4, .int 0), (3, .int 0), (0, .ref h0), (1, .int a1), (2, .int a2)]) hx hb dX12_isNamed_3 hl (by decide) rfl (fun ls hl => ?_)
  refine lv_iload hx hb dX12_isNamed_5 (lv_at hl 0 rfl) ?_
  refine lv_aload_n hx hb dX12_isNamed_7 rfl (lv_at hl 2 rfl) ?_
  refine va_get (D := (dC, dI)) (ci := 13) (v := .int 0) (C := RX12) (T := TX12) (N := 75) hx hb ht inGX12 hown hK hP 0 rfl rfl 2 (by decide) (ht _ q1751) (fun _ h9 => h9) hf_files dX12_isNamed_8 ?_
  refine lv_icmp_ge (tgt := 47) hx hb dX12_isNamed_11 (by decide) (fun c1 => ?_) (fun c1 => False.elim (by revert c1; decide))
  refine lv_iload_n hx hb dX12_isNamed_47 rfl (lv_at hl 1 rfl) ?_
  have hP9 := hP.sub (ws' := []) [] rfl
  have hK9 := hK.sub (tys' := []) [] rfl
  refine W.widen (k := 0) (n := 0) (Nat.le_of_ble_eq_true rfl) (Nat.le_of_ble_eq_true rfl) ?_
  exact W.zret (v := 0) hx hb hr (by first | decide | rfl) (fun t ht9 hW9 => ⟨⟨0, (), rfl, rfl, ppk ht9 hP9⟩, hS.F ht9⟩) hS.2.2 dX12_isNamed_48
set_option maxHeartbeats 4000000 in
set_option maxRecDepth 100000 in
theorem k_X12_isQuiet (l : Launch) (d0 : Nat) (cO : ClassId) (dC : Nat → ClassId) (dI : Nat → Nat → Nat) (sz : Nat) (h0 : Nat) (fs : List Value) (hlen : fs.length = 75) (hf_files : fs[2]? = some (.int 0)) : Met l yX12_isQuiet (cn yX12_isQuiet cX12_isQuiet 3 (some FieldType.boolean)) (rmd 0 0 0) (va_Pc [.ref h0] (PREp d0 cO (dC, dI) (va_A [] sz) [(h0, .inr (13, fs))] [] sz)) (va_Qi (fun (r : Int32) (_ : Unit) => r = 1) (fun (_ : Unit) (t : State) => va_P (dC, dI) vwCl [] t.heap) (va_A [] sz)) 0 0 (va_A [] sz) := by
  refine Met.ofW (cc := cX12_isQuiet) (maxL := 3) (ret := (some FieldType.boolean)) (by decide) rfl ?_
  intro p e s m args below meth c s₁ B hml hv
  obtain ⟨rfl, hsz, hE, hP, hK⟩ := hv
  have hx := B.exec
  have hb := B.bytes
  have hr := B.returns
  have hts := atoms_spec (ws := cn yX12_isQuiet cX12_isQuiet 3 (some FieldType.boolean)) B.pre
  have ht : ∀ w ∈ GT, w.before _ s = true := fun w h => hts w (List.mem_cons_of_mem _ h)
  have hown : s.vm.findClass RX12 = some m.cls := findClass_of_methodNamed B.named
  have hlocks := B.notSynchronized
  subst hsz
  generalize hAe : va_A [] s.heap.size = A at hE ⊢
  have hA : ∀ q : Nat, s.heap.size ≤ q → A q := fun q h => by rw [← hAe]; exact Or.inr h
  obtain ⟨H, hH0⟩ : ∃ H, s.heap = H := ⟨_, rfl⟩
  have hS : va_S A s.heap H [] := by rw [← hH0]; exact va_S.rf
  rw [hH0] at hP
  have hl := lv_entry ([.ref h0]) (n := 3) (Nat.le_of_ble_eq_true rfl)
  rw [lg_entry_eq]
  generalize (lg_sl ([.ref h0]) ++ List.replicate (3 - (lg_sl ([.ref h0])).length) Slot.unset).toArray = ls at hl ⊢
  have hl : lv_has ls 3 [(0, .ref h0)] := hl
  rw [hH0]
  refine lv_iconst (v := 1) hx hb dX12_isQuiet_0 (by decide) ?_
  refine lv_istore_n (lv' := [(1, .int 1), (0, .ref h0)]) hx hb dX12_isQuiet_1 rfl hl (by decide) rfl (fun ls hl => ?_)
  refine lv_iconst (v := 0) hx hb dX12_isQuiet_2 (by decide) ?_
  refine lv_istore_n (lv' := [(2, .int 0), (1, .int 1), (0, .ref h0)]) hx hb dX12_isQuiet_3 rfl hl (by decide) rfl (fun ls hl => ?_)
  refine lv_iload_n hx hb dX12_isQuiet_4 rfl (lv_at hl 0 rfl) ?_
  refine lv_aload_n hx hb dX12_isQuiet_5 rfl (lv_at hl 2 rfl) ?_
  refine va_get (D := (dC, dI)) (ci := 13) (v := .int 0) (C := RX12) (T := TX12) (N := 75) hx hb ht inGX12 hown hK hP 0 rfl rfl 2 (by decide) (ht _ q1751) (fun _ h9 => h9) hf_files dX12_isQuiet_6 ?_
  refine lv_icmp_ge (tgt := 47) hx hb dX12_isQuiet_9 (by decide) (fun c1 => ?_) (fun c1 => False.elim (by revert c1; decide))
  refine lv_iload_n hx hb dX12_isQuiet_47 rfl (lv_at hl 1 rfl) ?_
  have hP9 := hP.sub (ws' := []) [] rfl
  have hK9 := hK.sub (tys' := []) [] rfl
  refine W.widen (k := 0) (n := 0) (Nat.le_of_ble_eq_true rfl) (Nat.le_of_ble_eq_true rfl) ?_
  exact W.zret (v := 1) hx hb hr (by first | decide | rfl) (fun t ht9 hW9 => ⟨⟨1, (), rfl, rfl, ppk ht9 hP9⟩, hS.F ht9⟩) hS.2.2 dX12_isQuiet_48
set_option maxHeartbeats 4000000 in
set_option maxRecDepth 100000 in
theorem k_X12_makes (l : Launch) (d0 : Nat) (cO : ClassId) (dC : Nat → ClassId) (dI : Nat → Nat → Nat) (sz : Nat) (h0 rn rl : Nat) (tN tL : ClassId) (fn fl : Nat → Int32) (a1 a2 : Int32) (fs : List Value) (hlen : fs.length = 75) (hf_files : fs[2]? = some (.int 0)) (hf_name : fs[3]? = some (.ref rn)) (hf_language : fs[4]? = some (.ref rl)) : Met l yX12_makes (cn yX12_makes cX12_makes 3 (some FieldType.int)) (rmd 0 0 0) (va_Pc [.ref h0, .int a1, .int a2] (PRE d0 cO (dC, dI) (va_A [(h0, .inr (13, fs)), (rn, .inl (tN, 6, .inl fn)), (rl, .inl (tL, 6, .inl fl))] sz) [(h0, .inr (13, fs)), (rn, .inl (tN, 6, .inl fn)), (rl, .inl (tL, 6, .inl fl))] [(tN, .int), (tL, .int)] sz)) (va_Qi (fun (r : Int32) (_ : Unit) => r = 0) (fun (_ : Unit) (t : State) => POW (dC, dI) (va_A [(h0, .inr (13, fs)), (rn, .inl (tN, 6, .inl fn)), (rl, .inl (tL, 6, .inl fl))] sz) [(h0, .inr (13, (fs.set 2 (.int 1))))] [] t) (va_A [(h0, .inr (13, fs)), (rn, .inl (tN, 6, .inl fn)), (rl, .inl (tL, 6, .inl fl))] sz)) 0 0 (va_A [(h0, .inr (13, fs)), (rn, .inl (tN, 6, .inl fn)), (rl, .inl (tL, 6, .inl fl))] sz) := by
  refine Met.ofW (cc := cX12_makes) (maxL := 3) (ret := (some FieldType.int)) (by decide) rfl ?_
  intro p e s m args below meth c s₁ B hml hv
  obtain ⟨rfl, hsz, hE, hP, hK, hD0⟩ := hv
  have hx := B.exec
  have hb := B.bytes
  have hr := B.returns
  have hts := atoms_spec (ws := cn yX12_makes cX12_makes 3 (some FieldType.int)) B.pre
  have ht : ∀ w ∈ GT, w.before _ s = true := fun w h => hts w (List.mem_cons_of_mem _ h)
  have hown : s.vm.findClass RX12 = some m.cls := findClass_of_methodNamed B.named
  have hlocks := B.notSynchronized
  subst hsz
  have hD := hD0.self (sz := s.heap.size)
  generalize hAe : va_A [(h0, .inr (13, fs)), (rn, .inl (tN, 6, .inl fn)), (rl, .inl (tL, 6, .inl fl))] s.heap.size = A at hD hE ⊢
  have hA : ∀ q : Nat, s.heap.size ≤ q → A q := fun q h => by rw [← hAe]; exact Or.inr h
  obtain ⟨H, hH0⟩ : ∃ H, s.heap = H := ⟨_, rfl⟩
  have hS : va_S A s.heap H [] := by rw [← hH0]; exact va_S.rf
  rw [hH0] at hP
  have hl := lv_entry ([.ref h0, .int a1, .int a2]) (n := 3) (Nat.le_of_ble_eq_true rfl)
  rw [lg_entry_eq]
  generalize (lg_sl ([.ref h0, .int a1, .int a2]) ++ List.replicate (3 - (lg_sl ([.ref h0, .int a1, .int a2])).length) Slot.unset).toArray = ls at hl ⊢
  have hl : lv_has ls 3 [(0, .ref h0), (1, .int a1), (2, .int a2)] := hl
  rw [hH0]
  refine lv_aload_n hx hb dX12_makes_0 rfl (lv_at hl 0 rfl) ?_
  refine va_get (D := (dC, dI)) (ci := 13) (v := .ref rn) (C := RX12) (T := TX12) (N := 75) hx hb ht inGX12 hown hK hP 0 rfl rfl 3 (by decide) (ht _ q1752) (fun _ h9 => h9) hf_name dX12_makes_1 ?_
  refine lv_aload_n hx hb dX12_makes_4 rfl (lv_at hl 0 rfl) ?_
  refine va_get (D := (dC, dI)) (ci := 13) (v := .int 0) (C := RX12) (T := TX12) (N := 75) hx hb ht inGX12 hown hK hP 0 rfl rfl 2 (by decide) (ht _ q1751) (fun _ h9 => h9) hf_files dX12_makes_5 ?_
  refine lv_iload_n hx hb dX12_makes_8 rfl (lv_at hl 1 rfl) ?_
  refine va_iast hx hb hK hP hD hS 1 0 rfl rfl (vp_in_nI (n := 0) (by decide) (by decide)) dX12_makes_9 (fun H locs hP hD hS => ?_)
  have hP : va_P (dC, dI) vwCl [(h0, .inr (13, fs)), (rn, .inl (tN, 6, .inl ((upd fn 0 a1)))), (rl, .inl (tL, 6, .inl fl))] H := hP
  have hD : va_D A [(h0, .inr (13, fs)), (rn, .inl (tN, 6, .inl ((upd fn 0 a1)))), (rl, .inl (tL, 6, .inl fl))] := hD
  refine lv_aload_n hx hb dX12_makes_10 rfl (lv_at hl 0 rfl) ?_
  refine va_get (D := (dC, dI)) (ci := 13) (v := .ref rl) (C := RX12) (T := TX12) (N := 75) hx hb ht inGX12 hown hK hP 0 rfl rfl 4 (by decide) (ht _ q1753) (fun _ h9 => h9) hf_language dX12_makes_11 ?_
  refine lv_aload_n hx hb dX12_makes_14 rfl (lv_at hl 0 rfl) ?_
  refine va_get (D := (dC, dI)) (ci := 13) (v := .int 0) (C := RX12) (T := TX12) (N := 75) hx hb ht inGX12 hown hK hP 0 rfl rfl 2 (by decide) (ht _ q1751) (fun _ h9 => h9) hf_files dX12_makes_15 ?_
  refine lv_iload_n hx hb dX12_makes_18 rfl (lv_at hl 2 rfl) ?_
  refine va_iast hx hb hK hP hD hS 2 1 rfl rfl (vp_in_nI (n := 0) (by decide) (by decide)) dX12_makes_19 (fun H locs hP hD hS => ?_)
  have hP : va_P (dC, dI) vwCl [(h0, .inr (13, fs)), (rn, .inl (tN, 6, .inl ((upd fn 0 a1)))), (rl, .inl (tL, 6, .inl ((upd fl 0 a2))))] H := hP
  have hD : va_D A [(h0, .inr (13, fs)), (rn, .inl (tN, 6, .inl ((upd fn 0 a1)))), (rl, .inl (tL, 6, .inl ((upd fl 0 a2))))] := hD
  refine lv_aload_n hx hb dX12_makes_20 rfl (lv_at hl 0 rfl) ?_
  refine lv_dup hx hb dX12_makes_21 rfl ?_
  refine va_get (D := (dC, dI)) (ci := 13) (v := .int 0) (C := RX12) (T := TX12) (N := 75) hx hb ht inGX12 hown hK hP 0 rfl rfl 2 (by decide) (ht _ q1751) (fun _ h9 => h9) hf_files dX12_makes_22 ?_
  refine lv_iconst (v := 1) hx hb dX12_makes_25 (by decide) ?_
  refine lv_iadd hx hb dX12_makes_26 ?_
  refine lv_topi (fun x1 ex1 => ?_)
  obtain rfl : x1 = 1 := ex1.trans (by decide)
  refine va_put (D := (dC, dI)) (ci := 13) (v := .int 1) (ty := .int) (C := RX12) (T := TX12) (N := 75) hx hb ht inGX12 tyX12 tyX12_ok nmX12 hown hK hP hD hS 0 rfl rfl 2 (by decide) (ht _ q1751) (fun _ h9 => h9) rfl (by decide +kernel) rfl rfl (by rw [hlen]; decide) dX12_makes_27 (fun H locs hP hD hS => ?_)
  have hP : va_P (dC, dI) vwCl [(h0, .inr (13, (fs.set 2 (.int 1)))), (rn, .inl (tN, 6, .inl ((upd fn 0 a1)))), (rl, .inl (tL, 6, .inl ((upd fl 0 a2))))] H := hP
  have hD : va_D A [(h0, .inr (13, (fs.set 2 (.int 1)))), (rn, .inl (tN, 6, .inl ((upd fn 0 a1)))), (rl, .inl (tL, 6, .inl ((upd fl 0 a2))))] := hD
  refine lv_aload_n hx hb dX12_makes_30 rfl (lv_at hl 0 rfl) ?_
  refine va_get (D := (dC, dI)) (ci := 13) (v := .int 1) (C := RX12) (T := TX12) (N := 75) hx hb ht inGX12 hown hK hP 0 rfl rfl 2 (by decide) (ht _ q1751) (fun _ h9 => h9) (by rw [List.getElem?_set_self (by rw [hlen]; decide)]) dX12_makes_31 ?_
  refine lv_iconst (v := 1) hx hb dX12_makes_34 (by decide) ?_
  refine lv_isub hx hb dX12_makes_35 ?_
  refine lv_topi (fun x2 ex2 => ?_)
  obtain rfl : x2 = 0 := ex2.trans (by decide)
  have hP9 := hP.sub (ws' := [(h0, .inr (13, (fs.set 2 (.int 1))))]) [0] rfl
  have hD9 := hD.sub (ws' := [(h0, .inr (13, (fs.set 2 (.int 1))))]) [0] (by decide) rfl
  have hK9 := hK.sub (tys' := []) [] rfl
  refine W.widen (k := 0) (n := 0) (Nat.le_of_ble_eq_true rfl) (Nat.le_of_ble_eq_true rfl) ?_
  exact W.iret (v := 0) hx hb hr (fun t ht9 hW9 => ⟨⟨0, (), rfl, rfl, POW.mk' ht9 hW9.alike hP9 hK9 hD9⟩, hS.F ht9⟩) hS.2.2 dX12_makes_36
set_option maxHeartbeats 4000000 in
set_option maxRecDepth 100000 in
theorem k_X12_file (l : Launch) (d0 : Nat) (cO : ClassId) (dC : Nat → ClassId) (dI : Nat → Nat → Nat) (sz : Nat) (h0 : Nat) (rn rl : Nat) (tN tL : ClassId) (fn fl : Nat → Int32) (a1 a2 : Int32) (fs : List Value) (hlen : fs.length = 75) (hf_files : fs[2]? = some (.int 0)) (hf_name : fs[3]? = some (.ref rn)) (hf_language : fs[4]? = some (.ref rl)) : Met l yX12_file (cn yX12_file cX12_file 4 (some FieldType.int)) (rmd 5 0 0) (va_Pc [.ref h0, .int a1, .int a2] (PRE d0 cO (dC, dI) (va_A [(h0, .inr (13, fs)), (rn, .inl (tN, 6, .inl fn)), (rl, .inl (tL, 6, .inl fl))] sz) [(h0, .inr (13, fs)), (rn, .inl (tN, 6, .inl fn)), (rl, .inl (tL, 6, .inl fl))] [(tN, .int), (tL, .int)] sz)) (va_Qi (fun (r : Int32) (u : Int32) => (((97 ≤ a1 ∧ a1 ≤ 122) ∧ 0 ≤ a2 ∧ a2 ≤ 2) → u = 0 ∧ r = 0) ∧ (¬ ((97 ≤ a1 ∧ a1 ≤ 122) ∧ 0 ≤ a2 ∧ a2 ≤ 2) → u = 1)) (fun (u : Int32) (t : State) => ∃ fs2 : List Value, (fs2[74]? = some (.int u)) ∧ POW (dC, dI) (va_A [(h0, .inr (13, fs)), (rn, .inl (tN, 6, .inl fn)), (rl, .inl (tL, 6, .inl fl))] sz) [(h0, .inr (13, fs2))] [] t) (va_A [(h0, .inr (13, fs)), (rn, .inl (tN, 6, .inl fn)), (rl, .inl (tL, 6, .inl fl))] sz)) 0 0 (va_A [(h0, .inr (13, fs)), (rn, .inl (tN, 6, .inl fn)), (rl, .inl (tL, 6, .inl fl))] sz) := by
  refine Met.ofW (cc := cX12_file) (maxL := 4) (ret := (some FieldType.int)) (by decide) rfl ?_
  intro p e s m args below meth c s₁ B hml hv
  obtain ⟨rfl, hsz, hE, hP, hK, hD0⟩ := hv
  have hx := B.exec
  have hb := B.bytes
  have hr := B.returns
  have hts := atoms_spec (ws := cn yX12_file cX12_file 4 (some FieldType.int)) B.pre
  have ht : ∀ w ∈ GT, w.before _ s = true := fun w h => hts w (List.mem_cons_of_mem _ h)
  have hown : s.vm.findClass RX12 = some m.cls := findClass_of_methodNamed B.named
  have hlocks := B.notSynchronized
  subst hsz
  have hD := hD0.self (sz := s.heap.size)
  generalize hAe : va_A [(h0, .inr (13, fs)), (rn, .inl (tN, 6, .inl fn)), (rl, .inl (tL, 6, .inl fl))] s.heap.size = A at hD hE ⊢
  have hA : ∀ q : Nat, s.heap.size ≤ q → A q := fun q h => by rw [← hAe]; exact Or.inr h
  obtain ⟨H, hH0⟩ : ∃ H, s.heap = H := ⟨_, rfl⟩
  have hS : va_S A s.heap H [] := by rw [← hH0]; exact va_S.rf
  rw [hH0] at hP
  have hl := lv_entry ([.ref h0, .int a1, .int a2]) (n := 4) (Nat.le_of_ble_eq_true rfl)
  rw [lg_entry_eq]
  generalize (lg_sl ([.ref h0, .int a1, .int a2]) ++ List.replicate (4 - (lg_sl ([.ref h0, .int a1, .int a2])).length) Slot.unset).toArray = ls at hl ⊢
  have hl : lv_has ls 4 [(0, .ref h0), (1, .int a1), (2, .int a2)] := hl
  rw [hH0]
  refine lv_iload_n hx hb dX12_file_0 rfl (lv_at hl 1 rfl) ?_
  refine lv_bipush (v := 97) hx hb dX12_file_1 (by decide) ?_
  refine lv_bipush (v := 122) hx hb dX12_file_3 (by decide) ?_
  have hPc := hP.sub (ws' := []) [] rfl
  have hDc := hD.sub (ws' := []) [] (by decide) rfl
  have hKc := hK.sub (tys' := []) [] rfl
  have hFc := freeNil hS hA
  refine va_calli (va_runS (As := [.int a1, .int 97, .int 122]) (rest := []) ⟨hx, hb, hml, hown, ht⟩ (k_X12_isIn l d0 cO dC dI H.size a1 97 122) (my_S ht M_X12_isIn q1984 q1983 (Nat.le_of_ble_eq_true rfl) (Nat.le_of_ble_eq_true rfl)) ⟨PREp.fb, fun U hU hW => ⟨rfl, PREp.mk' hE hS hFc hPc hKc U hU hW⟩⟩ rfl rfl hl.1 rfl (lv_room (Nat.le_of_ble_eq_true rfl)) dX12_file_5 ⟨(Nat.le_of_ble_eq_true rfl), (Nat.le_of_ble_eq_true rfl)⟩) hS (fun q _ h => hFc q h) hFc (fun r2 u1 t H1 locs htt hvm hw hB hz1 hk1 hS => ?_)
  try dsimp only at hw hB
  have hP1 := hB
  have hP := keepAll hP hk1
  generalize H1 = H at hP hS ⊢
  have hP : va_P (dC, dI) vwCl [(h0, .inr (13, fs)), (rn, .inl (tN, 6, .inl fn)), (rl, .inl (tL, 6, .inl fl))] H := hP
  have hD : va_D A [(h0, .inr (13, fs)), (rn, .inl (tN, 6, .inl fn)), (rl, .inl (tL, 6, .inl fl))] := hD
  have hK : va_K (dC, dI) vwCl [(tN, .int), (tL, .int)] s := hK
  refine W.widen (k := 0) (n := 0) (Nat.le_of_ble_eq_true rfl) (Nat.le_of_ble_eq_true rfl) ?_
  by_cases hI3 : 97 ≤ a1 ∧ a1 ≤ 122
  · have hw := hw.1 hI3
    subst hw
    refine lv_if_eq (tgt := 24) hx hb dX12_file_8 (by decide) (fun c4 => False.elim (by revert c4; decide)) (fun c4 => ?_)
    refine lv_iload_n hx hb dX12_file_11 rfl (lv_at hl 2 rfl) ?_
    refine lv_iconst (v := 0) hx hb dX12_file_12 (by decide) ?_
    refine lv_iconst (v := 2) hx hb dX12_file_13 (by decide) ?_
    have hPc := hP.sub (ws' := []) [] rfl
    have hDc := hD.sub (ws' := []) [] (by decide) rfl
    have hKc := hK.sub (tys' := []) [] rfl
    have hFc := freeNil hS hA
    refine va_calli (va_runS (As := [.int a2, .int 0, .int 2]) (rest := []) ⟨hx, hb, hml, hown, ht⟩ (k_X12_isIn l d0 cO dC dI H.size a2 0 2) (my_S ht M_X12_isIn q1984 q1983 (Nat.le_of_ble_eq_true rfl) (Nat.le_of_ble_eq_true rfl)) ⟨PREp.fb, fun U hU hW => ⟨rfl, PREp.mk' hE hS hFc hPc hKc U hU hW⟩⟩ rfl rfl hl.1 rfl (lv_room (Nat.le_of_ble_eq_true rfl)) dX12_file_14 ⟨(Nat.le_of_ble_eq_true rfl), (Nat.le_of_ble_eq_true rfl)⟩) hS (fun q _ h => hFc q h) hFc (fun r6 u5 t H1 locs htt hvm hw hB hz1 hk1 hS => ?_)
    try dsimp only at hw hB
    have hP1 := hB
    have hP := keepAll hP hk1
    generalize H1 = H at hP hS ⊢
    have hP : va_P (dC, dI) vwCl [(h0, .inr (13, fs)), (rn, .inl (tN, 6, .inl fn)), (rl, .inl (tL, 6, .inl fl))] H := hP
    have hD : va_D A [(h0, .inr (13, fs)), (rn, .inl (tN, 6, .inl fn)), (rl, .inl (tL, 6, .inl fl))] := hD
    have hK : va_K (dC, dI) vwCl [(tN, .int), (tL, .int)] s := hK
    refine W.widen (k := 0) (n := 0) (Nat.le_of_ble_eq_true rfl) (Nat.le_of_ble_eq_true rfl) ?_
    by_cases hI7 : 0 ≤ a2 ∧ a2 ≤ 2
    · have hw := hw.1 hI7
      subst hw
      refine lv_if_eq (tgt := 24) hx hb dX12_file_17 (by decide) (fun c8 => False.elim (by revert c8; decide)) (fun c8 => ?_)
      refine lv_iconst (v := 1) hx hb dX12_file_20 (by decide) ?_
      refine lv_goto (tgt := 25) hx hb dX12_file_21 (by decide) ?_
      refine lv_istore_n (lv' := [(3, .int 1), (0, .ref h0), (1, .int a1), (2, .int a2)]) hx hb dX12_file_25 rfl hl (by decide) rfl (fun ls hl => ?_)
      refine lv_aload_n hx hb dX12_file_26 rfl (lv_at hl 1 rfl) ?_
      refine lv_iload_n hx hb dX12_file_27 rfl (lv_at hl 0 rfl) ?_
      refine lv_if_ne (tgt := 35) hx hb dX12_file_28 (by decide) (fun c9 => ?_) (fun c9 => False.elim (by revert c9; decide))
      refine lv_aload_n hx hb dX12_file_35 rfl (lv_at hl 1 rfl) ?_
      refine va_get (D := (dC, dI)) (ci := 13) (v := .int 0) (C := RX12) (T := TX12) (N := 75) hx hb ht inGX12 hown hK hP 0 rfl rfl 2 (by decide) (ht _ q1751) (fun _ h9 => h9) hf_files dX12_file_36 ?_
      refine lv_bipush (v := 6) hx hb dX12_file_39 (by decide) ?_
      refine lv_icmp_eq (tgt := 53) hx hb dX12_file_41 (by decide) (fun c10 => False.elim (by revert c10; decide)) (fun c10 => ?_)
      refine lv_aload_n hx hb dX12_file_44 rfl (lv_at hl 1 rfl) ?_
      refine lv_iload_n hx hb dX12_file_45 rfl (lv_at hl 2 rfl) ?_
      refine lv_iconst (v := -1) hx hb dX12_file_46 (by decide) ?_
      have hPc := hP.sub (ws' := [(h0, .inr (13, fs))]) [0] rfl
      have hDc := hD.sub (ws' := [(h0, .inr (13, fs))]) [0] (by decide) rfl
      have hKc := hK.sub (tys' := []) [] rfl
      have hFc := freeNil hS hA
      refine va_calli (va_runV (As := [.int a1, .int (-1)]) (rest := [.ref h0]) ⟨hx, hb, hml, hown, ht⟩ (k_X12_isNamed l d0 cO dC dI H.size h0 a1 (-1) fs hlen hf_files) (my_V ht M_X12_isNamed q1988 q52 q1986 (Nat.le_of_ble_eq_true rfl) (Nat.le_of_ble_eq_true rfl)) ⟨PREp.fb, va_recv hK hP (ci := 13) (q0 := 0) rfl rfl, fun U hU hW => ⟨rfl, PREp.mk' hE hS hFc hPc hKc U hU hW⟩⟩ rfl rfl hl.1 rfl (lv_room (Nat.le_of_ble_eq_true rfl)) dX12_file_47 ⟨(Nat.le_of_ble_eq_true rfl), (Nat.le_of_ble_eq_true rfl)⟩) hS (fun q _ h => hFc q h) hFc (fun r12 u11 t H1 locs htt hvm hw hB hz1 hk1 hS => ?_)
      try dsimp only at hw hB
      have hP1 := hB
      have hP := keepAll hP hk1
      generalize H1 = H at hP hS ⊢
      have hP : va_P (dC, dI) vwCl [(h0, .inr (13, fs)), (rn, .inl (tN, 6, .inl fn)), (rl, .inl (tL, 6, .inl fl))] H := hP
      have hD : va_D A [(h0, .inr (13, fs)), (rn, .inl (tN, 6, .inl fn)), (rl, .inl (tL, 6, .inl fl))] := hD
      have hK : va_K (dC, dI) vwCl [(tN, .int), (tL, .int)] s := hK
      refine W.widen (k := 0) (n := 0) (Nat.le_of_ble_eq_true rfl) (Nat.le_of_ble_eq_true rfl) ?_
      subst hw
      refine lv_if_eq (tgt := 57) hx hb dX12_file_50 (by decide) (fun c13 => ?_) (fun c13 => False.elim (by revert c13; decide))
      refine lv_iconst (v := 0) hx hb dX12_file_57 (by decide) ?_
      have hPc := hP.sub (ws' := [(h0, .inr (13, fs))]) [0] rfl
      have hDc := hD.sub (ws' := [(h0, .inr (13, fs))]) [0] (by decide) rfl
      have hKc := hK.sub (tys' := []) [] rfl
      have hFc := va_free (wc := [(h0, .inr (13, fs))]) hD hS hA [0] rfl
      refine va_calli (va_runV (As := [.int 0]) (rest := []) ⟨hx, hb, hml, hown, ht⟩ (k_X12_fails l d0 cO dC dI H.size h0 0 fs hlen) (my_V ht M_X12_fails q1992 q53 q1990 (Nat.le_of_ble_eq_true rfl) (Nat.le_of_ble_eq_true rfl)) ⟨PRE.fb, va_recv hK hP (ci := 13) (q0 := 0) rfl rfl, fun U hU hW => ⟨rfl, PRE.mk' hE hS hFc hPc hKc hDc U hU hW⟩⟩ rfl rfl hl.1 rfl (lv_room (Nat.le_of_ble_eq_true rfl)) dX12_file_58 ⟨(Nat.le_of_ble_eq_true rfl), (Nat.le_of_ble_eq_true rfl)⟩) hS (fun q _ h => hFc q h) hFc (fun r15 u14 t H1 locs htt hvm hw hB hz1 hk1 hS => ?_)
      try dsimp only at hw hB
      obtain ⟨hP1, hK1, hD1⟩ := hB
      rw [htt] at hP1
      have hK1 := va_K.moved hvm.symm hK1
      obtain ⟨hP, hD⟩ := va_join (wr := [(rn, .inl (tN, 6, .inl fn)), (rl, .inl (tL, 6, .inl fl))]) (w1 := [(h0, .inr (13, (fs.set 74 (.int 0))))]) hP hD [0] [1, 2] rfl rfl (by decide) (by decide) hk1 hFc hP1 hD1
      have hK := (hK.sub (tys' := [(tN, .int), (tL, .int)]) [0, 1] rfl).app hK1
      generalize H1 = H at hP hS ⊢
      have hP : va_P (dC, dI) vwCl [(rn, .inl (tN, 6, .inl fn)), (rl, .inl (tL, 6, .inl fl)), (h0, .inr (13, (fs.set 74 (.int 0))))] H := hP
      have hD : va_D A [(rn, .inl (tN, 6, .inl fn)), (rl, .inl (tL, 6, .inl fl)), (h0, .inr (13, (fs.set 74 (.int 0))))] := hD
      have hK : va_K (dC, dI) vwCl [(tN, .int), (tL, .int)] s := hK
      refine W.widen (k := 0) (n := 0) (Nat.le_of_ble_eq_true rfl) (Nat.le_of_ble_eq_true rfl) ?_
      have hw := hw.2 (by decide)
      subst hw
      refine lv_if_eq (tgt := 66) hx hb dX12_file_61 (by decide) (fun c16 => ?_) (fun c16 => False.elim (by revert c16; decide))
      refine lv_aload_n hx hb dX12_file_66 rfl (lv_at hl 1 rfl) ?_
      refine lv_iload_n hx hb dX12_file_67 rfl (lv_at hl 2 rfl) ?_
      refine lv_iload_n hx hb dX12_file_68 rfl (lv_at hl 3 rfl) ?_
      have hPc := hP.sub (ws' := [(h0, .inr (13, (fs.set 74 (.int 0)))), (rn, .inl (tN, 6, .inl fn)), (rl, .inl (tL, 6, .inl fl))]) [2, 0, 1] rfl
      have hDc := hD.sub (ws' := [(h0, .inr (13, (fs.set 74 (.int 0)))), (rn, .inl (tN, 6, .inl fn)), (rl, .inl (tL, 6, .inl fl))]) [2, 0, 1] (by decide) rfl
      have hKc := hK.sub (tys' := [(tN, .int), (tL, .int)]) [0, 1] rfl
      have hFc := va_free (wc := [(h0, .inr (13, (fs.set 74 (.int 0)))), (rn, .inl (tN, 6, .inl fn)), (rl, .inl (tL, 6, .inl fl))]) hD hS hA [2, 0, 1] rfl
      refine va_calli (va_runV (As := [.int a1, .int a2]) (rest := []) ⟨hx, hb, hml, hown, ht⟩ (k_X12_makes l d0 cO dC dI H.size h0 rn rl tN tL fn fl a1 a2 ((fs.set 74 (.int 0))) ((by simp only [List.length_set]; exact hlen)) ((by rw [List.getElem?_set_ne (by decide)]; exact hf_files)) ((by rw [List.getElem?_set_ne (by decide)]; exact hf_name)) ((by rw [List.getElem?_set_ne (by decide)]; exact hf_language))) (my_V ht M_X12_makes q1996 q54 q1994 (Nat.le_of_ble_eq_true rfl) (Nat.le_of_ble_eq_true rfl)) ⟨PRE.fb, va_recv hK hP (ci := 13) (q0 := 2) rfl rfl, fun U hU hW => ⟨rfl, PRE.mk' hE hS hFc hPc hKc hDc U hU hW⟩⟩ rfl rfl hl.1 rfl (lv_room (Nat.le_of_ble_eq_true rfl)) dX12_file_69 ⟨(Nat.le_of_ble_eq_true rfl), (Nat.le_of_ble_eq_true rfl)⟩) hS (fun q _ h => hFc q h) hFc (fun r18 u17 t H1 locs htt hvm hw hB hz1 hk1 hS => ?_)
      try dsimp only at hw hB
      obtain ⟨hP1, hK1, hD1⟩ := hB
      rw [htt] at hP1
      have hK1 := va_K.moved hvm.symm hK1
      obtain ⟨hP, hD⟩ := va_join (wr := []) (w1 := [(h0, .inr (13, ((fs.set 74 (.int 0)).set 2 (.int 1))))]) hP hD [2, 0, 1] [] rfl rfl (by decide) (by decide) hk1 hFc hP1 hD1
      have hK := (hK.sub (tys' := [(tN, .int), (tL, .int)]) [0, 1] rfl).app hK1
      generalize H1 = H at hP hS ⊢
      have hP : va_P (dC, dI) vwCl [(h0, .inr (13, ((fs.set 74 (.int 0)).set 2 (.int 1))))] H := hP
      have hD : va_D A [(h0, .inr (13, ((fs.set 74 (.int 0)).set 2 (.int 1))))] := hD
      have hK : va_K (dC, dI) vwCl [(tN, .int), (tL, .int)] s := hK
      refine W.widen (k := 0) (n := 0) (Nat.le_of_ble_eq_true rfl) (Nat.le_of_ble_eq_true rfl) ?_
      subst hw
      have hP9 := hP.sub (ws' := [(h0, .inr (13, ((fs.set 74 (.int 0)).set 2 (.int 1))))]) [0] rfl
      have hD9 := hD.sub (ws' := [(h0, .inr (13, ((fs.set 74 (.int 0)).set 2 (.int 1))))]) [0] (by decide) rfl
      have hK9 := hK.sub (tys' := []) [] rfl
      refine W.widen (k := 0) (n := 0) (Nat.le_of_ble_eq_true rfl) (Nat.le_of_ble_eq_true rfl) ?_
      exact W.iret (v := 0) hx hb hr (fun t ht9 hW9 => ⟨⟨0, 0, rfl, (by refine ⟨fun h => ?_, fun h => ?_⟩ <;> first | exact ⟨rfl, rfl⟩ | rfl | (exfalso; simp only [Int32.le_iff_toInt_le, Int32.lt_iff_toInt_lt, ← Int32.toInt_inj, li0, li1, li2, li3, li5, li6, li7, li9, li10, li32, li48, li57, li63, li97, li122, lim1] at h hI3 hI7; omega)), ⟨((fs.set 74 (.int 0)).set 2 (.int 1)), (by rw [List.getElem?_set_ne (by decide), List.getElem?_set_self (by rw [hlen]; decide)]), POW.mk' ht9 hW9.alike hP9 hK9 hD9⟩⟩, hS.F ht9⟩) hS.2.2 dX12_file_72
    · have hw := hw.2 hI7
      subst hw
      refine lv_if_eq (tgt := 24) hx hb dX12_file_17 (by decide) (fun c19 => ?_) (fun c19 => False.elim (by revert c19; decide))
      refine lv_iconst (v := 0) hx hb dX12_file_24 (by decide) ?_
      refine lv_istore_n (lv' := [(3, .int 0), (0, .ref h0), (1, .int a1), (2, .int a2)]) hx hb dX12_file_25 rfl hl (by decide) rfl (fun ls hl => ?_)
      refine lv_aload_n hx hb dX12_file_26 rfl (lv_at hl 1 rfl) ?_
      refine lv_iload_n hx hb dX12_file_27 rfl (lv_at hl 0 rfl) ?_
      refine lv_if_ne (tgt := 35) hx hb dX12_file_28 (by decide) (fun c20 => False.elim (by revert c20; decide)) (fun c20 => ?_)
      refine lv_iconst (v := 1) hx hb dX12_file_31 (by decide) ?_
      refine lv_goto (tgt := 58) hx hb dX12_file_32 (by decide) ?_
      have hPc := hP.sub (ws' := [(h0, .inr (13, fs))]) [0] rfl
      have hDc := hD.sub (ws' := [(h0, .inr (13, fs))]) [0] (by decide) rfl
      have hKc := hK.sub (tys' := []) [] rfl
      have hFc := va_free (wc := [(h0, .inr (13, fs))]) hD hS hA [0] rfl
      refine va_calli (va_runV (As := [.int 1]) (rest := []) ⟨hx, hb, hml, hown, ht⟩ (k_X12_fails l d0 cO dC dI H.size h0 1 fs hlen) (my_V ht M_X12_fails q1992 q53 q1990 (Nat.le_of_ble_eq_true rfl) (Nat.le_of_ble_eq_true rfl)) ⟨PRE.fb, va_recv hK hP (ci := 13) (q0 := 0) rfl rfl, fun U hU hW => ⟨rfl, PRE.mk' hE hS hFc hPc hKc hDc U hU hW⟩⟩ rfl rfl hl.1 rfl (lv_room (Nat.le_of_ble_eq_true rfl)) dX12_file_58 ⟨(Nat.le_of_ble_eq_true rfl), (Nat.le_of_ble_eq_true rfl)⟩) hS (fun q _ h => hFc q h) hFc (fun r22 u21 t H1 locs htt hvm hw hB hz1 hk1 hS => ?_)
      try dsimp only at hw hB
      obtain ⟨hP1, hK1, hD1⟩ := hB
      rw [htt] at hP1
      have hK1 := va_K.moved hvm.symm hK1
      obtain ⟨hP, hD⟩ := va_join (wr := [(rn, .inl (tN, 6, .inl fn)), (rl, .inl (tL, 6, .inl fl))]) (w1 := [(h0, .inr (13, (fs.set 74 (.int 1))))]) hP hD [0] [1, 2] rfl rfl (by decide) (by decide) hk1 hFc hP1 hD1
      have hK := (hK.sub (tys' := [(tN, .int), (tL, .int)]) [0, 1] rfl).app hK1
      generalize H1 = H at hP hS ⊢
      have hP : va_P (dC, dI) vwCl [(rn, .inl (tN, 6, .inl fn)), (rl, .inl (tL, 6, .inl fl)), (h0, .inr (13, (fs.set 74 (.int 1))))] H := hP
      have hD : va_D A [(rn, .inl (tN, 6, .inl fn)), (rl, .inl (tL, 6, .inl fl)), (h0, .inr (13, (fs.set 74 (.int 1))))] := hD
      have hK : va_K (dC, dI) vwCl [(tN, .int), (tL, .int)] s := hK
      refine W.widen (k := 0) (n := 0) (Nat.le_of_ble_eq_true rfl) (Nat.le_of_ble_eq_true rfl) ?_
      have hw := hw.1 (by decide)
      subst hw
      refine lv_if_eq (tgt := 66) hx hb dX12_file_61 (by decide) (fun c23 => False.elim (by revert c23; decide)) (fun c23 => ?_)
      refine lv_iconst (v := 0) hx hb dX12_file_64 (by decide) ?_
      have hP9 := hP.sub (ws' := [(h0, .inr (13, (fs.set 74 (.int 1))))]) [2] rfl
      have hD9 := hD.sub (ws' := [(h0, .inr (13, (fs.set 74 (.int 1))))]) [2] (by decide) rfl
      have hK9 := hK.sub (tys' := []) [] rfl
      refine W.widen (k := 0) (n := 0) (Nat.le_of_ble_eq_true rfl) (Nat.le_of_ble_eq_true rfl) ?_
      exact W.iret (v := 0) hx hb hr (fun t ht9 hW9 => ⟨⟨0, 1, rfl, (by refine ⟨fun h => ?_, fun h => ?_⟩ <;> first | exact ⟨rfl, rfl⟩ | rfl | (exfalso; simp only [Int32.le_iff_toInt_le, Int32.lt_iff_toInt_lt, ← Int32.toInt_inj, li0, li1, li2, li3, li5, li6, li7, li9, li10, li32, li48, li57, li63, li97, li122, lim1] at h hI3 hI7; omega)), ⟨(fs.set 74 (.int 1)), (by rw [List.getElem?_set_self (by rw [hlen]; decide)]), POW.mk' ht9 hW9.alike hP9 hK9 hD9⟩⟩, hS.F ht9⟩) hS.2.2 dX12_file_65
  · have hw := hw.2 hI3
    subst hw
    refine lv_if_eq (tgt := 24) hx hb dX12_file_8 (by decide) (fun c24 => ?_) (fun c24 => False.elim (by revert c24; decide))
    refine lv_iconst (v := 0) hx hb dX12_file_24 (by decide) ?_
    refine lv_istore_n (lv' := [(3, .int 0), (0, .ref h0), (1, .int a1), (2, .int a2)]) hx hb dX12_file_25 rfl hl (by decide) rfl (fun ls hl => ?_)
    refine lv_aload_n hx hb dX12_file_26 rfl (lv_at hl 1 rfl) ?_
    refine lv_iload_n hx hb dX12_file_27 rfl (lv_at hl 0 rfl) ?_
    refine lv_if_ne (tgt := 35) hx hb dX12_file_28 (by decide) (fun c25 => False.elim (by revert c25; decide)) (fun c25 => ?_)
    refine lv_iconst (v := 1) hx hb dX12_file_31 (by decide) ?_
    refine lv_goto (tgt := 58) hx hb dX12_file_32 (by decide) ?_
    have hPc := hP.sub (ws' := [(h0, .inr (13, fs))]) [0] rfl
    have hDc := hD.sub (ws' := [(h0, .inr (13, fs))]) [0] (by decide) rfl
    have hKc := hK.sub (tys' := []) [] rfl
    have hFc := va_free (wc := [(h0, .inr (13, fs))]) hD hS hA [0] rfl
    refine va_calli (va_runV (As := [.int 1]) (rest := []) ⟨hx, hb, hml, hown, ht⟩ (k_X12_fails l d0 cO dC dI H.size h0 1 fs hlen) (my_V ht M_X12_fails q1992 q53 q1990 (Nat.le_of_ble_eq_true rfl) (Nat.le_of_ble_eq_true rfl)) ⟨PRE.fb, va_recv hK hP (ci := 13) (q0 := 0) rfl rfl, fun U hU hW => ⟨rfl, PRE.mk' hE hS hFc hPc hKc hDc U hU hW⟩⟩ rfl rfl hl.1 rfl (lv_room (Nat.le_of_ble_eq_true rfl)) dX12_file_58 ⟨(Nat.le_of_ble_eq_true rfl), (Nat.le_of_ble_eq_true rfl)⟩) hS (fun q _ h => hFc q h) hFc (fun r27 u26 t H1 locs htt hvm hw hB hz1 hk1 hS => ?_)
    try dsimp only at hw hB
    obtain ⟨hP1, hK1, hD1⟩ := hB
    rw [htt] at hP1
    have hK1 := va_K.moved hvm.symm hK1
    obtain ⟨hP, hD⟩ := va_join (wr := [(rn, .inl (tN, 6, .inl fn)), (rl, .inl (tL, 6, .inl fl))]) (w1 := [(h0, .inr (13, (fs.set 74 (.int 1))))]) hP hD [0] [1, 2] rfl rfl (by decide) (by decide) hk1 hFc hP1 hD1
    have hK := (hK.sub (tys' := [(tN, .int), (tL, .int)]) [0, 1] rfl).app hK1
    generalize H1 = H at hP hS ⊢
    have hP : va_P (dC, dI) vwCl [(rn, .inl (tN, 6, .inl fn)), (rl, .inl (tL, 6, .inl fl)), (h0, .inr (13, (fs.set 74 (.int 1))))] H := hP
    have hD : va_D A [(rn, .inl (tN, 6, .inl fn)), (rl, .inl (tL, 6, .inl fl)), (h0, .inr (13, (fs.set 74 (.int 1))))] := hD
    have hK : va_K (dC, dI) vwCl [(tN, .int), (tL, .int)] s := hK
    refine W.widen (k := 0) (n := 0) (Nat.le_of_ble_eq_true rfl) (Nat.le_of_ble_eq_true rfl) ?_
    have hw := hw.1 (by decide)
    subst hw
    refine lv_if_eq (tgt := 66) hx hb dX12_file_61 (by decide) (fun c28 => False.elim (by revert c28; decide)) (fun c28 => ?_)
    refine lv_iconst (v := 0) hx hb dX12_file_64 (by decide) ?_
    have hP9 := hP.sub (ws' := [(h0, .inr (13, (fs.set 74 (.int 1))))]) [2] rfl
    have hD9 := hD.sub (ws' := [(h0, .inr (13, (fs.set 74 (.int 1))))]) [2] (by decide) rfl
    have hK9 := hK.sub (tys' := []) [] rfl
    refine W.widen (k := 0) (n := 0) (Nat.le_of_ble_eq_true rfl) (Nat.le_of_ble_eq_true rfl) ?_
    exact W.iret (v := 0) hx hb hr (fun t ht9 hW9 => ⟨⟨0, 1, rfl, (by refine ⟨fun h => ?_, fun h => ?_⟩ <;> first | exact ⟨rfl, rfl⟩ | rfl | (exfalso; simp only [Int32.le_iff_toInt_le, Int32.lt_iff_toInt_lt, ← Int32.toInt_inj, li0, li1, li2, li3, li5, li6, li7, li9, li10, li32, li48, li57, li63, li97, li122, lim1] at h hI3; omega)), ⟨(fs.set 74 (.int 1)), (by rw [List.getElem?_set_self (by rw [hlen]; decide)]), POW.mk' ht9 hW9.alike hP9 hK9 hD9⟩⟩, hS.F ht9⟩) hS.2.2 dX12_file_65
set_option maxHeartbeats 4000000 in
set_option maxRecDepth 100000 in
theorem k_X12_server (l : Launch) (d0 : Nat) (cO : ClassId) (dC : Nat → ClassId) (dI : Nat → Nat → Nat) (sz : Nat) (h0 : Nat) (rk rl rs ru : Nat) (tK tL tS tU : ClassId) (fk fl f3 fu : Nat → Int32) (a1 a2 a3 : Int32) (fs : List Value) (hlen : fs.length = 75) (hf_files : fs[2]? = some (.int 0)) (hf_servers : fs[15]? = some (.int 0)) (hf_kinds : fs[16]? = some (.ref rk)) (hf_languages : fs[17]? = some (.ref rl)) (hf_style : fs[18]? = some (.ref rs)) (hf_isUp : fs[19]? = some (.ref ru)) : Met l yX12_server (cn yX12_server cX12_server 5 (some FieldType.int)) (rmd 5 0 0) (va_Pc [.ref h0, .int a1, .int a2, .int a3] (PRE d0 cO (dC, dI) (va_A [(h0, .inr (13, fs)), (rk, .inl (tK, 3, .inl fk)), (rl, .inl (tL, 3, .inl fl)), (rs, .inl (tS, 3, .inl f3)), (ru, .inl (tU, 3, .inl fu))] sz) [(h0, .inr (13, fs)), (rk, .inl (tK, 3, .inl fk)), (rl, .inl (tL, 3, .inl fl)), (rs, .inl (tS, 3, .inl f3)), (ru, .inl (tU, 3, .inl fu))] [(tK, .int), (tL, .int), (tS, .int), (tU, .boolean)] sz)) (va_Qi (fun (r : Int32) (u : Int32) => (((1 ≤ a1 ∧ a1 ≤ 63) ∧ (1 ≤ a2 ∧ a2 ≤ 7) ∧ 0 ≤ a3 ∧ a3 ≤ 2) → u = 0 ∧ r = 0) ∧ (¬ ((1 ≤ a1 ∧ a1 ≤ 63) ∧ (1 ≤ a2 ∧ a2 ≤ 7) ∧ 0 ≤ a3 ∧ a3 ≤ 2) → u = 1)) (fun (u : Int32) (t : State) => ∃ fs2 : List Value, (fs2[74]? = some (.int u)) ∧ POW (dC, dI) (va_A [(h0, .inr (13, fs)), (rk, .inl (tK, 3, .inl fk)), (rl, .inl (tL, 3, .inl fl)), (rs, .inl (tS, 3, .inl f3)), (ru, .inl (tU, 3, .inl fu))] sz) [(h0, .inr (13, fs2))] [] t) (va_A [(h0, .inr (13, fs)), (rk, .inl (tK, 3, .inl fk)), (rl, .inl (tL, 3, .inl fl)), (rs, .inl (tS, 3, .inl f3)), (ru, .inl (tU, 3, .inl fu))] sz)) 0 0 (va_A [(h0, .inr (13, fs)), (rk, .inl (tK, 3, .inl fk)), (rl, .inl (tL, 3, .inl fl)), (rs, .inl (tS, 3, .inl f3)), (ru, .inl (tU, 3, .inl fu))] sz) := by
  refine Met.ofW (cc := cX12_server) (maxL := 5) (ret := (some FieldType.int)) (by decide) rfl ?_
  intro p e s m args below meth c s₁ B hml hv
  obtain ⟨rfl, hsz, hE, hP, hK, hD0⟩ := hv
  have hx := B.exec
  have hb := B.bytes
  have hr := B.returns
  have hts := atoms_spec (ws := cn yX12_server cX12_server 5 (some FieldType.int)) B.pre
  have ht : ∀ w ∈ GT, w.before _ s = true := fun w h => hts w (List.mem_cons_of_mem _ h)
  have hown : s.vm.findClass RX12 = some m.cls := findClass_of_methodNamed B.named
  have hlocks := B.notSynchronized
  subst hsz
  have hD := hD0.self (sz := s.heap.size)
  generalize hAe : va_A [(h0, .inr (13, fs)), (rk, .inl (tK, 3, .inl fk)), (rl, .inl (tL, 3, .inl fl)), (rs, .inl (tS, 3, .inl f3)), (ru, .inl (tU, 3, .inl fu))] s.heap.size = A at hD hE ⊢
  have hA : ∀ q : Nat, s.heap.size ≤ q → A q := fun q h => by rw [← hAe]; exact Or.inr h
  obtain ⟨H, hH0⟩ : ∃ H, s.heap = H := ⟨_, rfl⟩
  have hS : va_S A s.heap H [] := by rw [← hH0]; exact va_S.rf
  rw [hH0] at hP
  have hl := lv_entry ([.ref h0, .int a1, .int a2, .int a3]) (n := 5) (Nat.le_of_ble_eq_true rfl)
  rw [lg_entry_eq]
  generalize (lg_sl ([.ref h0, .int a1, .int a2, .int a3]) ++ List.replicate (5 - (lg_sl ([.ref h0, .int a1, .int a2, .int a3])).length) Slot.unset).toArray = ls at hl ⊢
  have hl : lv_has ls 5 [(0, .ref h0), (1, .int a1), (2, .int a2), (3, .int a3)] := hl
  rw [hH0]
  refine lv_iload_n hx hb dX12_server_0 rfl (lv_at hl 1 rfl) ?_
  refine lv_iconst (v := 1) hx hb dX12_server_1 (by decide) ?_
  refine lv_bipush (v := 63) hx hb dX12_server_2 (by decide) ?_
  have hPc := hP.sub (ws' := []) [] rfl
  have hDc := hD.sub (ws' := []) [] (by decide) rfl
  have hKc := hK.sub (tys' := []) [] rfl
  have hFc := freeNil hS hA
  refine va_calli (va_runS (As := [.int a1, .int 1, .int 63]) (rest := []) ⟨hx, hb, hml, hown, ht⟩ (k_X12_isIn l d0 cO dC dI H.size a1 1 63) (my_S ht M_X12_isIn q1984 q1983 (Nat.le_of_ble_eq_true rfl) (Nat.le_of_ble_eq_true rfl)) ⟨PREp.fb, fun U hU hW => ⟨rfl, PREp.mk' hE hS hFc hPc hKc U hU hW⟩⟩ rfl rfl hl.1 rfl (lv_room (Nat.le_of_ble_eq_true rfl)) dX12_server_4 ⟨(Nat.le_of_ble_eq_true rfl), (Nat.le_of_ble_eq_true rfl)⟩) hS (fun q _ h => hFc q h) hFc (fun r2 u1 t H1 locs htt hvm hw hB hz1 hk1 hS => ?_)
  try dsimp only at hw hB
  have hP1 := hB
  have hP := keepAll hP hk1
  generalize H1 = H at hP hS ⊢
  have hP : va_P (dC, dI) vwCl [(h0, .inr (13, fs)), (rk, .inl (tK, 3, .inl fk)), (rl, .inl (tL, 3, .inl fl)), (rs, .inl (tS, 3, .inl f3)), (ru, .inl (tU, 3, .inl fu))] H := hP
  have hD : va_D A [(h0, .inr (13, fs)), (rk, .inl (tK, 3, .inl fk)), (rl, .inl (tL, 3, .inl fl)), (rs, .inl (tS, 3, .inl f3)), (ru, .inl (tU, 3, .inl fu))] := hD
  have hK : va_K (dC, dI) vwCl [(tK, .int), (tL, .int), (tS, .int), (tU, .boolean)] s := hK
  refine W.widen (k := 0) (n := 0) (Nat.le_of_ble_eq_true rfl) (Nat.le_of_ble_eq_true rfl) ?_
  by_cases hI3 : 1 ≤ a1 ∧ a1 ≤ 63
  · have hw := hw.1 hI3
    subst hw
    refine lv_if_eq (tgt := 33) hx hb dX12_server_7 (by decide) (fun c4 => False.elim (by revert c4; decide)) (fun c4 => ?_)
    refine lv_iload_n hx hb dX12_server_10 rfl (lv_at hl 2 rfl) ?_
    refine lv_iconst (v := 1) hx hb dX12_server_11 (by decide) ?_
    refine lv_bipush (v := 7) hx hb dX12_server_12 (by decide) ?_
    have hPc := hP.sub (ws' := []) [] rfl
    have hDc := hD.sub (ws' := []) [] (by decide) rfl
    have hKc := hK.sub (tys' := []) [] rfl
    have hFc := freeNil hS hA
    refine va_calli (va_runS (As := [.int a2, .int 1, .int 7]) (rest := []) ⟨hx, hb, hml, hown, ht⟩ (k_X12_isIn l d0 cO dC dI H.size a2 1 7) (my_S ht M_X12_isIn q1984 q1983 (Nat.le_of_ble_eq_true rfl) (Nat.le_of_ble_eq_true rfl)) ⟨PREp.fb, fun U hU hW => ⟨rfl, PREp.mk' hE hS hFc hPc hKc U hU hW⟩⟩ rfl rfl hl.1 rfl (lv_room (Nat.le_of_ble_eq_true rfl)) dX12_server_14 ⟨(Nat.le_of_ble_eq_true rfl), (Nat.le_of_ble_eq_true rfl)⟩) hS (fun q _ h => hFc q h) hFc (fun r6 u5 t H1 locs htt hvm hw hB hz1 hk1 hS => ?_)
    try dsimp only at hw hB
    have hP1 := hB
    have hP := keepAll hP hk1
    generalize H1 = H at hP hS ⊢
    have hP : va_P (dC, dI) vwCl [(h0, .inr (13, fs)), (rk, .inl (tK, 3, .inl fk)), (rl, .inl (tL, 3, .inl fl)), (rs, .inl (tS, 3, .inl f3)), (ru, .inl (tU, 3, .inl fu))] H := hP
    have hD : va_D A [(h0, .inr (13, fs)), (rk, .inl (tK, 3, .inl fk)), (rl, .inl (tL, 3, .inl fl)), (rs, .inl (tS, 3, .inl f3)), (ru, .inl (tU, 3, .inl fu))] := hD
    have hK : va_K (dC, dI) vwCl [(tK, .int), (tL, .int), (tS, .int), (tU, .boolean)] s := hK
    refine W.widen (k := 0) (n := 0) (Nat.le_of_ble_eq_true rfl) (Nat.le_of_ble_eq_true rfl) ?_
    by_cases hI7 : 1 ≤ a2 ∧ a2 ≤ 7
    · have hw := hw.1 hI7
      subst hw
      refine lv_if_eq (tgt := 33) hx hb dX12_server_17 (by decide) (fun c8 => False.elim (by revert c8; decide)) (fun c8 => ?_)
      refine lv_iload_n hx hb dX12_server_20 rfl (lv_at hl 3 rfl) ?_
      refine lv_iconst (v := 0) hx hb dX12_server_21 (by decide) ?_
      refine lv_iconst (v := 2) hx hb dX12_server_22 (by decide) ?_
      have hPc := hP.sub (ws' := []) [] rfl
      have hDc := hD.sub (ws' := []) [] (by decide) rfl
      have hKc := hK.sub (tys' := []) [] rfl
      have hFc := freeNil hS hA
      refine va_calli (va_runS (As := [.int a3, .int 0, .int 2]) (rest := []) ⟨hx, hb, hml, hown, ht⟩ (k_X12_isIn l d0 cO dC dI H.size a3 0 2) (my_S ht M_X12_isIn q1984 q1983 (Nat.le_of_ble_eq_true rfl) (Nat.le_of_ble_eq_true rfl)) ⟨PREp.fb, fun U hU hW => ⟨rfl, PREp.mk' hE hS hFc hPc hKc U hU hW⟩⟩ rfl rfl hl.1 rfl (lv_room (Nat.le_of_ble_eq_true rfl)) dX12_server_23 ⟨(Nat.le_of_ble_eq_true rfl), (Nat.le_of_ble_eq_true rfl)⟩) hS (fun q _ h => hFc q h) hFc (fun r10 u9 t H1 locs htt hvm hw hB hz1 hk1 hS => ?_)
      try dsimp only at hw hB
      have hP1 := hB
      have hP := keepAll hP hk1
      generalize H1 = H at hP hS ⊢
      have hP : va_P (dC, dI) vwCl [(h0, .inr (13, fs)), (rk, .inl (tK, 3, .inl fk)), (rl, .inl (tL, 3, .inl fl)), (rs, .inl (tS, 3, .inl f3)), (ru, .inl (tU, 3, .inl fu))] H := hP
      have hD : va_D A [(h0, .inr (13, fs)), (rk, .inl (tK, 3, .inl fk)), (rl, .inl (tL, 3, .inl fl)), (rs, .inl (tS, 3, .inl f3)), (ru, .inl (tU, 3, .inl fu))] := hD
      have hK : va_K (dC, dI) vwCl [(tK, .int), (tL, .int), (tS, .int), (tU, .boolean)] s := hK
      refine W.widen (k := 0) (n := 0) (Nat.le_of_ble_eq_true rfl) (Nat.le_of_ble_eq_true rfl) ?_
      by_cases hI11 : 0 ≤ a3 ∧ a3 ≤ 2
      · have hw := hw.1 hI11
        subst hw
        refine lv_if_eq (tgt := 33) hx hb dX12_server_26 (by decide) (fun c12 => False.elim (by revert c12; decide)) (fun c12 => ?_)
        refine lv_iconst (v := 1) hx hb dX12_server_29 (by decide) ?_
        refine lv_goto (tgt := 34) hx hb dX12_server_30 (by decide) ?_
        refine lv_istore (lv' := [(4, .int 1), (0, .ref h0), (1, .int a1), (2, .int a2), (3, .int a3)]) hx hb dX12_server_34 hl (by decide) rfl (fun ls hl => ?_)
        refine lv_aload_n hx hb dX12_server_36 rfl (lv_at hl 1 rfl) ?_
        refine lv_iload hx hb dX12_server_37 (lv_at hl 0 rfl) ?_
        refine lv_if_ne (tgt := 46) hx hb dX12_server_39 (by decide) (fun c13 => ?_) (fun c13 => False.elim (by revert c13; decide))
        refine lv_aload_n hx hb dX12_server_46 rfl (lv_at hl 1 rfl) ?_
        refine va_get (D := (dC, dI)) (ci := 13) (v := .int 0) (C := RX12) (T := TX12) (N := 75) hx hb ht inGX12 hown hK hP 0 rfl rfl 15 (by decide) (ht _ q1764) (fun _ h9 => h9) hf_servers dX12_server_47 ?_
        refine lv_iconst (v := 3) hx hb dX12_server_50 (by decide) ?_
        refine lv_icmp_eq (tgt := 61) hx hb dX12_server_51 (by decide) (fun c14 => False.elim (by revert c14; decide)) (fun c14 => ?_)
        refine lv_aload_n hx hb dX12_server_54 rfl (lv_at hl 1 rfl) ?_
        have hPc := hP.sub (ws' := [(h0, .inr (13, fs))]) [0] rfl
        have hDc := hD.sub (ws' := [(h0, .inr (13, fs))]) [0] (by decide) rfl
        have hKc := hK.sub (tys' := []) [] rfl
        have hFc := freeNil hS hA
        refine va_calli (va_runV (As := []) (rest := [.ref h0]) ⟨hx, hb, hml, hown, ht⟩ (k_X12_isQuiet l d0 cO dC dI H.size h0 fs hlen hf_files) (my_V ht M_X12_isQuiet q2028 q57 q2026 (Nat.le_of_ble_eq_true rfl) (Nat.le_of_ble_eq_true rfl)) ⟨PREp.fb, va_recv hK hP (ci := 13) (q0 := 0) rfl rfl, fun U hU hW => ⟨rfl, PREp.mk' hE hS hFc hPc hKc U hU hW⟩⟩ rfl rfl hl.1 rfl (lv_room (Nat.le_of_ble_eq_true rfl)) dX12_server_55 ⟨(Nat.le_of_ble_eq_true rfl), (Nat.le_of_ble_eq_true rfl)⟩) hS (fun q _ h => hFc q h) hFc (fun r16 u15 t H1 locs htt hvm hw hB hz1 hk1 hS => ?_)
        try dsimp only at hw hB
        have hP1 := hB
        have hP := keepAll hP hk1
        generalize H1 = H at hP hS ⊢
        have hP : va_P (dC, dI) vwCl [(h0, .inr (13, fs)), (rk, .inl (tK, 3, .inl fk)), (rl, .inl (tL, 3, .inl fl)), (rs, .inl (tS, 3, .inl f3)), (ru, .inl (tU, 3, .inl fu))] H := hP
        have hD : va_D A [(h0, .inr (13, fs)), (rk, .inl (tK, 3, .inl fk)), (rl, .inl (tL, 3, .inl fl)), (rs, .inl (tS, 3, .inl f3)), (ru, .inl (tU, 3, .inl fu))] := hD
        have hK : va_K (dC, dI) vwCl [(tK, .int), (tL, .int), (tS, .int), (tU, .boolean)] s := hK
        refine W.widen (k := 0) (n := 0) (Nat.le_of_ble_eq_true rfl) (Nat.le_of_ble_eq_true rfl) ?_
        subst hw
        refine lv_if_ne (tgt := 65) hx hb dX12_server_58 (by decide) (fun c17 => ?_) (fun c17 => False.elim (by revert c17; decide))
        refine lv_iconst (v := 0) hx hb dX12_server_65 (by decide) ?_
        have hPc := hP.sub (ws' := [(h0, .inr (13, fs))]) [0] rfl
        have hDc := hD.sub (ws' := [(h0, .inr (13, fs))]) [0] (by decide) rfl
        have hKc := hK.sub (tys' := []) [] rfl
        have hFc := va_free (wc := [(h0, .inr (13, fs))]) hD hS hA [0] rfl
        refine va_calli (va_runV (As := [.int 0]) (rest := []) ⟨hx, hb, hml, hown, ht⟩ (k_X12_fails l d0 cO dC dI H.size h0 0 fs hlen) (my_V ht M_X12_fails q1992 q53 q1990 (Nat.le_of_ble_eq_true rfl) (Nat.le_of_ble_eq_true rfl)) ⟨PRE.fb, va_recv hK hP (ci := 13) (q0 := 0) rfl rfl, fun U hU hW => ⟨rfl, PRE.mk' hE hS hFc hPc hKc hDc U hU hW⟩⟩ rfl rfl hl.1 rfl (lv_room (Nat.le_of_ble_eq_true rfl)) dX12_server_66 ⟨(Nat.le_of_ble_eq_true rfl), (Nat.le_of_ble_eq_true rfl)⟩) hS (fun q _ h => hFc q h) hFc (fun r19 u18 t H1 locs htt hvm hw hB hz1 hk1 hS => ?_)
        try dsimp only at hw hB
        obtain ⟨hP1, hK1, hD1⟩ := hB
        rw [htt] at hP1
        have hK1 := va_K.moved hvm.symm hK1
        obtain ⟨hP, hD⟩ := va_join (wr := [(rk, .inl (tK, 3, .inl fk)), (rl, .inl (tL, 3, .inl fl)), (rs, .inl (tS, 3, .inl f3)), (ru, .inl (tU, 3, .inl fu))]) (w1 := [(h0, .inr (13, (fs.set 74 (.int 0))))]) hP hD [0] [1, 2, 3, 4] rfl rfl (by decide) (by decide) hk1 hFc hP1 hD1
        have hK := (hK.sub (tys' := [(tK, .int), (tL, .int), (tS, .int), (tU, .boolean)]) [0, 1, 2, 3] rfl).app hK1
        generalize H1 = H at hP hS ⊢
        have hP : va_P (dC, dI) vwCl [(rk, .inl (tK, 3, .inl fk)), (rl, .inl (tL, 3, .inl fl)), (rs, .inl (tS, 3, .inl f3)), (ru, .inl (tU, 3, .inl fu)), (h0, .inr (13, (fs.set 74 (.int 0))))] H := hP
        have hD : va_D A [(rk, .inl (tK, 3, .inl fk)), (rl, .inl (tL, 3, .inl fl)), (rs, .inl (tS, 3, .inl f3)), (ru, .inl (tU, 3, .inl fu)), (h0, .inr (13, (fs.set 74 (.int 0))))] := hD
        have hK : va_K (dC, dI) vwCl [(tK, .int), (tL, .int), (tS, .int), (tU, .boolean)] s := hK
        refine W.widen (k := 0) (n := 0) (Nat.le_of_ble_eq_true rfl) (Nat.le_of_ble_eq_true rfl) ?_
        have hw := hw.2 (by decide)
        subst hw
        refine lv_if_eq (tgt := 74) hx hb dX12_server_69 (by decide) (fun c20 => ?_) (fun c20 => False.elim (by revert c20; decide))
        refine lv_aload_n hx hb dX12_server_74 rfl (lv_at hl 1 rfl) ?_
        refine va_get (D := (dC, dI)) (ci := 13) (v := .ref rk) (C := RX12) (T := TX12) (N := 75) hx hb ht inGX12 hown hK hP 4 rfl rfl 16 (by decide) (ht _ q1765) (fun _ h9 => h9) (by rw [List.getElem?_set_ne (by decide)]; exact hf_kinds) dX12_server_75 ?_
        refine lv_aload_n hx hb dX12_server_78 rfl (lv_at hl 1 rfl) ?_
        refine va_get (D := (dC, dI)) (ci := 13) (v := .int 0) (C := RX12) (T := TX12) (N := 75) hx hb ht inGX12 hown hK hP 4 rfl rfl 15 (by decide) (ht _ q1764) (fun _ h9 => h9) (by rw [List.getElem?_set_ne (by decide)]; exact hf_servers) dX12_server_79 ?_
        refine lv_iload_n hx hb dX12_server_82 rfl (lv_at hl 2 rfl) ?_
        refine va_iast hx hb hK hP hD hS 0 0 rfl rfl (vp_in_nI (n := 0) (by decide) (by decide)) dX12_server_83 (fun H locs hP hD hS => ?_)
        have hP : va_P (dC, dI) vwCl [(rk, .inl (tK, 3, .inl ((upd fk 0 a1)))), (rl, .inl (tL, 3, .inl fl)), (rs, .inl (tS, 3, .inl f3)), (ru, .inl (tU, 3, .inl fu)), (h0, .inr (13, (fs.set 74 (.int 0))))] H := hP
        have hD : va_D A [(rk, .inl (tK, 3, .inl ((upd fk 0 a1)))), (rl, .inl (tL, 3, .inl fl)), (rs, .inl (tS, 3, .inl f3)), (ru, .inl (tU, 3, .inl fu)), (h0, .inr (13, (fs.set 74 (.int 0))))] := hD
        refine lv_aload_n hx hb dX12_server_84 rfl (lv_at hl 1 rfl) ?_
        refine va_get (D := (dC, dI)) (ci := 13) (v := .ref rl) (C := RX12) (T := TX12) (N := 75) hx hb ht inGX12 hown hK hP 4 rfl rfl 17 (by decide) (ht _ q1766) (fun _ h9 => h9) (by rw [List.getElem?_set_ne (by decide)]; exact hf_languages) dX12_server_85 ?_
        refine lv_aload_n hx hb dX12_server_88 rfl (lv_at hl 1 rfl) ?_
        refine va_get (D := (dC, dI)) (ci := 13) (v := .int 0) (C := RX12) (T := TX12) (N := 75) hx hb ht inGX12 hown hK hP 4 rfl rfl 15 (by decide) (ht _ q1764) (fun _ h9 => h9) (by rw [List.getElem?_set_ne (by decide)]; exact hf_servers) dX12_server_89 ?_
        refine lv_iload_n hx hb dX12_server_92 rfl (lv_at hl 3 rfl) ?_
        refine va_iast hx hb hK hP hD hS 1 1 rfl rfl (vp_in_nI (n := 0) (by decide) (by decide)) dX12_server_93 (fun H locs hP hD hS => ?_)
        have hP : va_P (dC, dI) vwCl [(rk, .inl (tK, 3, .inl ((upd fk 0 a1)))), (rl, .inl (tL, 3, .inl ((upd fl 0 a2)))), (rs, .inl (tS, 3, .inl f3)), (ru, .inl (tU, 3, .inl fu)), (h0, .inr (13, (fs.set 74 (.int 0))))] H := hP
        have hD : va_D A [(rk, .inl (tK, 3, .inl ((upd fk 0 a1)))), (rl, .inl (tL, 3, .inl ((upd fl 0 a2)))), (rs, .inl (tS, 3, .inl f3)), (ru, .inl (tU, 3, .inl fu)), (h0, .inr (13, (fs.set 74 (.int 0))))] := hD
        refine lv_aload_n hx hb dX12_server_94 rfl (lv_at hl 1 rfl) ?_
        refine va_get (D := (dC, dI)) (ci := 13) (v := .ref rs) (C := RX12) (T := TX12) (N := 75) hx hb ht inGX12 hown hK hP 4 rfl rfl 18 (by decide) (ht _ q1767) (fun _ h9 => h9) (by rw [List.getElem?_set_ne (by decide)]; exact hf_style) dX12_server_95 ?_
        refine lv_aload_n hx hb dX12_server_98 rfl (lv_at hl 1 rfl) ?_
        refine va_get (D := (dC, dI)) (ci := 13) (v := .int 0) (C := RX12) (T := TX12) (N := 75) hx hb ht inGX12 hown hK hP 4 rfl rfl 15 (by decide) (ht _ q1764) (fun _ h9 => h9) (by rw [List.getElem?_set_ne (by decide)]; exact hf_servers) dX12_server_99 ?_
        refine lv_iload_n hx hb dX12_server_102 rfl (lv_at hl 4 rfl) ?_
        refine va_iast hx hb hK hP hD hS 2 2 rfl rfl (vp_in_nI (n := 0) (by decide) (by decide)) dX12_server_103 (fun H locs hP hD hS => ?_)
        have hP : va_P (dC, dI) vwCl [(rk, .inl (tK, 3, .inl ((upd fk 0 a1)))), (rl, .inl (tL, 3, .inl ((upd fl 0 a2)))), (rs, .inl (tS, 3, .inl ((upd f3 0 a3)))), (ru, .inl (tU, 3, .inl fu)), (h0, .inr (13, (fs.set 74 (.int 0))))] H := hP
        have hD : va_D A [(rk, .inl (tK, 3, .inl ((upd fk 0 a1)))), (rl, .inl (tL, 3, .inl ((upd fl 0 a2)))), (rs, .inl (tS, 3, .inl ((upd f3 0 a3)))), (ru, .inl (tU, 3, .inl fu)), (h0, .inr (13, (fs.set 74 (.int 0))))] := hD
        refine lv_aload_n hx hb dX12_server_104 rfl (lv_at hl 1 rfl) ?_
        refine va_get (D := (dC, dI)) (ci := 13) (v := .ref ru) (C := RX12) (T := TX12) (N := 75) hx hb ht inGX12 hown hK hP 4 rfl rfl 19 (by decide) (ht _ q1768) (fun _ h9 => h9) (by rw [List.getElem?_set_ne (by decide)]; exact hf_isUp) dX12_server_105 ?_
        refine lv_aload_n hx hb dX12_server_108 rfl (lv_at hl 1 rfl) ?_
        refine va_get (D := (dC, dI)) (ci := 13) (v := .int 0) (C := RX12) (T := TX12) (N := 75) hx hb ht inGX12 hown hK hP 4 rfl rfl 15 (by decide) (ht _ q1764) (fun _ h9 => h9) (by rw [List.getElem?_set_ne (by decide)]; exact hf_servers) dX12_server_109 ?_
        refine lv_iconst (v := 1) hx hb dX12_server_112 (by decide) ?_
        refine va_zast hx hb hK hP hD hS 3 3 rfl rfl (vp_in_nI (n := 0) (by decide) (by decide)) dX12_server_113 (fun H locs hP hD hS => ?_)
        have hP : va_P (dC, dI) vwCl [(rk, .inl (tK, 3, .inl ((upd fk 0 a1)))), (rl, .inl (tL, 3, .inl ((upd fl 0 a2)))), (rs, .inl (tS, 3, .inl ((upd f3 0 a3)))), (ru, .inl (tU, 3, .inl ((upd fu 0 (vp_nar .boolean 1))))), (h0, .inr (13, (fs.set 74 (.int 0))))] H := hP
        have hD : va_D A [(rk, .inl (tK, 3, .inl ((upd fk 0 a1)))), (rl, .inl (tL, 3, .inl ((upd fl 0 a2)))), (rs, .inl (tS, 3, .inl ((upd f3 0 a3)))), (ru, .inl (tU, 3, .inl ((upd fu 0 (vp_nar .boolean 1))))), (h0, .inr (13, (fs.set 74 (.int 0))))] := hD
        refine lv_aload_n hx hb dX12_server_114 rfl (lv_at hl 1 rfl) ?_
        refine lv_dup hx hb dX12_server_115 rfl ?_
        refine va_get (D := (dC, dI)) (ci := 13) (v := .int 0) (C := RX12) (T := TX12) (N := 75) hx hb ht inGX12 hown hK hP 4 rfl rfl 15 (by decide) (ht _ q1764) (fun _ h9 => h9) (by rw [List.getElem?_set_ne (by decide)]; exact hf_servers) dX12_server_116 ?_
        refine lv_iconst (v := 1) hx hb dX12_server_119 (by decide) ?_
        refine lv_iadd hx hb dX12_server_120 ?_
        refine lv_topi (fun x21 ex21 => ?_)
        obtain rfl : x21 = 1 := ex21.trans (by decide)
        refine va_put (D := (dC, dI)) (ci := 13) (v := .int 1) (ty := .int) (C := RX12) (T := TX12) (N := 75) hx hb ht inGX12 tyX12 tyX12_ok nmX12 hown hK hP hD hS 4 rfl rfl 15 (by decide) (ht _ q1764) (fun _ h9 => h9) rfl (by decide +kernel) rfl rfl (by simp only [List.length_set]; rw [hlen]; decide) dX12_server_121 (fun H locs hP hD hS => ?_)
        have hP : va_P (dC, dI) vwCl [(rk, .inl (tK, 3, .inl ((upd fk 0 a1)))), (rl, .inl (tL, 3, .inl ((upd fl 0 a2)))), (rs, .inl (tS, 3, .inl ((upd f3 0 a3)))), (ru, .inl (tU, 3, .inl ((upd fu 0 (vp_nar .boolean 1))))), (h0, .inr (13, ((fs.set 74 (.int 0)).set 15 (.int 1))))] H := hP
        have hD : va_D A [(rk, .inl (tK, 3, .inl ((upd fk 0 a1)))), (rl, .inl (tL, 3, .inl ((upd fl 0 a2)))), (rs, .inl (tS, 3, .inl ((upd f3 0 a3)))), (ru, .inl (tU, 3, .inl ((upd fu 0 (vp_nar .boolean 1))))), (h0, .inr (13, ((fs.set 74 (.int 0)).set 15 (.int 1))))] := hD
        refine lv_aload_n hx hb dX12_server_124 rfl (lv_at hl 1 rfl) ?_
        refine va_get (D := (dC, dI)) (ci := 13) (v := .int 1) (C := RX12) (T := TX12) (N := 75) hx hb ht inGX12 hown hK hP 4 rfl rfl 15 (by decide) (ht _ q1764) (fun _ h9 => h9) (by rw [List.getElem?_set_self (by simp only [List.length_set]; rw [hlen]; decide)]) dX12_server_125 ?_
        refine lv_iconst (v := 1) hx hb dX12_server_128 (by decide) ?_
        refine lv_isub hx hb dX12_server_129 ?_
        refine lv_topi (fun x22 ex22 => ?_)
        obtain rfl : x22 = 0 := ex22.trans (by decide)
        have hP9 := hP.sub (ws' := [(h0, .inr (13, ((fs.set 74 (.int 0)).set 15 (.int 1))))]) [4] rfl
        have hD9 := hD.sub (ws' := [(h0, .inr (13, ((fs.set 74 (.int 0)).set 15 (.int 1))))]) [4] (by decide) rfl
        have hK9 := hK.sub (tys' := []) [] rfl
        refine W.widen (k := 0) (n := 0) (Nat.le_of_ble_eq_true rfl) (Nat.le_of_ble_eq_true rfl) ?_
        exact W.iret (v := 0) hx hb hr (fun t ht9 hW9 => ⟨⟨0, 0, rfl, (by refine ⟨fun h => ?_, fun h => ?_⟩ <;> first | exact ⟨rfl, rfl⟩ | rfl | (exfalso; simp only [Int32.le_iff_toInt_le, Int32.lt_iff_toInt_lt, ← Int32.toInt_inj, li0, li1, li2, li3, li5, li6, li7, li9, li10, li32, li48, li57, li63, li97, li122, lim1] at h hI3 hI7 hI11; omega)), ⟨((fs.set 74 (.int 0)).set 15 (.int 1)), (by rw [List.getElem?_set_ne (by decide), List.getElem?_set_self (by rw [hlen]; decide)]), POW.mk' ht9 hW9.alike hP9 hK9 hD9⟩⟩, hS.F ht9⟩) hS.2.2 dX12_server_130
      · have hw := hw.2 hI11
        subst hw
        refine lv_if_eq (tgt := 33) hx hb dX12_server_26 (by decide) (fun c23 => ?_) (fun c23 => False.elim (by revert c23; decide))
        refine lv_iconst (v := 0) hx hb dX12_server_33 (by decide) ?_
        refine lv_istore (lv' := [(4, .int 0), (0, .ref h0), (1, .int a1), (2, .int a2), (3, .int a3)]) hx hb dX12_server_34 hl (by decide) rfl (fun ls hl => ?_)
        refine lv_aload_n hx hb dX12_server_36 rfl (lv_at hl 1 rfl) ?_
        refine lv_iload hx hb dX12_server_37 (lv_at hl 0 rfl) ?_
        refine lv_if_ne (tgt := 46) hx hb dX12_server_39 (by decide) (fun c24 => False.elim (by revert c24; decide)) (fun c24 => ?_)
        refine lv_iconst (v := 1) hx hb dX12_server_42 (by decide) ?_
        refine lv_goto (tgt := 66) hx hb dX12_server_43 (by decide) ?_
        have hPc := hP.sub (ws' := [(h0, .inr (13, fs))]) [0] rfl
        have hDc := hD.sub (ws' := [(h0, .inr (13, fs))]) [0] (by decide) rfl
        have hKc := hK.sub (tys' := []) [] rfl
        have hFc := va_free (wc := [(h0, .inr (13, fs))]) hD hS hA [0] rfl
        refine va_calli (va_runV (As := [.int 1]) (rest := []) ⟨hx, hb, hml, hown, ht⟩ (k_X12_fails l d0 cO dC dI H.size h0 1 fs hlen) (my_V ht M_X12_fails q1992 q53 q1990 (Nat.le_of_ble_eq_true rfl) (Nat.le_of_ble_eq_true rfl)) ⟨PRE.fb, va_recv hK hP (ci := 13) (q0 := 0) rfl rfl, fun U hU hW => ⟨rfl, PRE.mk' hE hS hFc hPc hKc hDc U hU hW⟩⟩ rfl rfl hl.1 rfl (lv_room (Nat.le_of_ble_eq_true rfl)) dX12_server_66 ⟨(Nat.le_of_ble_eq_true rfl), (Nat.le_of_ble_eq_true rfl)⟩) hS (fun q _ h => hFc q h) hFc (fun r26 u25 t H1 locs htt hvm hw hB hz1 hk1 hS => ?_)
        try dsimp only at hw hB
        obtain ⟨hP1, hK1, hD1⟩ := hB
        rw [htt] at hP1
        have hK1 := va_K.moved hvm.symm hK1
        obtain ⟨hP, hD⟩ := va_join (wr := [(rk, .inl (tK, 3, .inl fk)), (rl, .inl (tL, 3, .inl fl)), (rs, .inl (tS, 3, .inl f3)), (ru, .inl (tU, 3, .inl fu))]) (w1 := [(h0, .inr (13, (fs.set 74 (.int 1))))]) hP hD [0] [1, 2, 3, 4] rfl rfl (by decide) (by decide) hk1 hFc hP1 hD1
        have hK := (hK.sub (tys' := [(tK, .int), (tL, .int), (tS, .int), (tU, .boolean)]) [0, 1, 2, 3] rfl).app hK1
        generalize H1 = H at hP hS ⊢
        have hP : va_P (dC, dI) vwCl [(rk, .inl (tK, 3, .inl fk)), (rl, .inl (tL, 3, .inl fl)), (rs, .inl (tS, 3, .inl f3)), (ru, .inl (tU, 3, .inl fu)), (h0, .inr (13, (fs.set 74 (.int 1))))] H := hP
        have hD : va_D A [(rk, .inl (tK, 3, .inl fk)), (rl, .inl (tL, 3, .inl fl)), (rs, .inl (tS, 3, .inl f3)), (ru, .inl (tU, 3, .inl fu)), (h0, .inr (13, (fs.set 74 (.int 1))))] := hD
        have hK : va_K (dC, dI) vwCl [(tK, .int), (tL, .int), (tS, .int), (tU, .boolean)] s := hK
        refine W.widen (k := 0) (n := 0) (Nat.le_of_ble_eq_true rfl) (Nat.le_of_ble_eq_true rfl) ?_
        have hw := hw.1 (by decide)
        subst hw
        refine lv_if_eq (tgt := 74) hx hb dX12_server_69 (by decide) (fun c27 => False.elim (by revert c27; decide)) (fun c27 => ?_)
        refine lv_iconst (v := 0) hx hb dX12_server_72 (by decide) ?_
        have hP9 := hP.sub (ws' := [(h0, .inr (13, (fs.set 74 (.int 1))))]) [4] rfl
        have hD9 := hD.sub (ws' := [(h0, .inr (13, (fs.set 74 (.int 1))))]) [4] (by decide) rfl
        have hK9 := hK.sub (tys' := []) [] rfl
        refine W.widen (k := 0) (n := 0) (Nat.le_of_ble_eq_true rfl) (Nat.le_of_ble_eq_true rfl) ?_
        exact W.iret (v := 0) hx hb hr (fun t ht9 hW9 => ⟨⟨0, 1, rfl, (by refine ⟨fun h => ?_, fun h => ?_⟩ <;> first | exact ⟨rfl, rfl⟩ | rfl | (exfalso; simp only [Int32.le_iff_toInt_le, Int32.lt_iff_toInt_lt, ← Int32.toInt_inj, li0, li1, li2, li3, li5, li6, li7, li9, li10, li32, li48, li57, li63, li97, li122, lim1] at h hI3 hI7 hI11; omega)), ⟨(fs.set 74 (.int 1)), (by rw [List.getElem?_set_self (by rw [hlen]; decide)]), POW.mk' ht9 hW9.alike hP9 hK9 hD9⟩⟩, hS.F ht9⟩) hS.2.2 dX12_server_73
    · have hw := hw.2 hI7
      subst hw
      refine lv_if_eq (tgt := 33) hx hb dX12_server_17 (by decide) (fun c28 => ?_) (fun c28 => False.elim (by revert c28; decide))
      refine lv_iconst (v := 0) hx hb dX12_server_33 (by decide) ?_
      refine lv_istore (lv' := [(4, .int 0), (0, .ref h0), (1, .int a1), (2, .int a2), (3, .int a3)]) hx hb dX12_server_34 hl (by decide) rfl (fun ls hl => ?_)
      refine lv_aload_n hx hb dX12_server_36 rfl (lv_at hl 1 rfl) ?_
      refine lv_iload hx hb dX12_server_37 (lv_at hl 0 rfl) ?_
      refine lv_if_ne (tgt := 46) hx hb dX12_server_39 (by decide) (fun c29 => False.elim (by revert c29; decide)) (fun c29 => ?_)
      refine lv_iconst (v := 1) hx hb dX12_server_42 (by decide) ?_
      refine lv_goto (tgt := 66) hx hb dX12_server_43 (by decide) ?_
      have hPc := hP.sub (ws' := [(h0, .inr (13, fs))]) [0] rfl
      have hDc := hD.sub (ws' := [(h0, .inr (13, fs))]) [0] (by decide) rfl
      have hKc := hK.sub (tys' := []) [] rfl
      have hFc := va_free (wc := [(h0, .inr (13, fs))]) hD hS hA [0] rfl
      refine va_calli (va_runV (As := [.int 1]) (rest := []) ⟨hx, hb, hml, hown, ht⟩ (k_X12_fails l d0 cO dC dI H.size h0 1 fs hlen) (my_V ht M_X12_fails q1992 q53 q1990 (Nat.le_of_ble_eq_true rfl) (Nat.le_of_ble_eq_true rfl)) ⟨PRE.fb, va_recv hK hP (ci := 13) (q0 := 0) rfl rfl, fun U hU hW => ⟨rfl, PRE.mk' hE hS hFc hPc hKc hDc U hU hW⟩⟩ rfl rfl hl.1 rfl (lv_room (Nat.le_of_ble_eq_true rfl)) dX12_server_66 ⟨(Nat.le_of_ble_eq_true rfl), (Nat.le_of_ble_eq_true rfl)⟩) hS (fun q _ h => hFc q h) hFc (fun r31 u30 t H1 locs htt hvm hw hB hz1 hk1 hS => ?_)
      try dsimp only at hw hB
      obtain ⟨hP1, hK1, hD1⟩ := hB
      rw [htt] at hP1
      have hK1 := va_K.moved hvm.symm hK1
      obtain ⟨hP, hD⟩ := va_join (wr := [(rk, .inl (tK, 3, .inl fk)), (rl, .inl (tL, 3, .inl fl)), (rs, .inl (tS, 3, .inl f3)), (ru, .inl (tU, 3, .inl fu))]) (w1 := [(h0, .inr (13, (fs.set 74 (.int 1))))]) hP hD [0] [1, 2, 3, 4] rfl rfl (by decide) (by decide) hk1 hFc hP1 hD1
      have hK := (hK.sub (tys' := [(tK, .int), (tL, .int), (tS, .int), (tU, .boolean)]) [0, 1, 2, 3] rfl).app hK1
      generalize H1 = H at hP hS ⊢
      have hP : va_P (dC, dI) vwCl [(rk, .inl (tK, 3, .inl fk)), (rl, .inl (tL, 3, .inl fl)), (rs, .inl (tS, 3, .inl f3)), (ru, .inl (tU, 3, .inl fu)), (h0, .inr (13, (fs.set 74 (.int 1))))] H := hP
      have hD : va_D A [(rk, .inl (tK, 3, .inl fk)), (rl, .inl (tL, 3, .inl fl)), (rs, .inl (tS, 3, .inl f3)), (ru, .inl (tU, 3, .inl fu)), (h0, .inr (13, (fs.set 74 (.int 1))))] := hD
      have hK : va_K (dC, dI) vwCl [(tK, .int), (tL, .int), (tS, .int), (tU, .boolean)] s := hK
      refine W.widen (k := 0) (n := 0) (Nat.le_of_ble_eq_true rfl) (Nat.le_of_ble_eq_true rfl) ?_
      have hw := hw.1 (by decide)
      subst hw
      refine lv_if_eq (tgt := 74) hx hb dX12_server_69 (by decide) (fun c32 => False.elim (by revert c32; decide)) (fun c32 => ?_)
      refine lv_iconst (v := 0) hx hb dX12_server_72 (by decide) ?_
      have hP9 := hP.sub (ws' := [(h0, .inr (13, (fs.set 74 (.int 1))))]) [4] rfl
      have hD9 := hD.sub (ws' := [(h0, .inr (13, (fs.set 74 (.int 1))))]) [4] (by decide) rfl
      have hK9 := hK.sub (tys' := []) [] rfl
      refine W.widen (k := 0) (n := 0) (Nat.le_of_ble_eq_true rfl) (Nat.le_of_ble_eq_true rfl) ?_
      exact W.iret (v := 0) hx hb hr (fun t ht9 hW9 => ⟨⟨0, 1, rfl, (by refine ⟨fun h => ?_, fun h => ?_⟩ <;> first | exact ⟨rfl, rfl⟩ | rfl | (exfalso; simp only [Int32.le_iff_toInt_le, Int32.lt_iff_toInt_lt, ← Int32.toInt_inj, li0, li1, li2, li3, li5, li6, li7, li9, li10, li32, li48, li57, li63, li97, li122, lim1] at h hI3 hI7; omega)), ⟨(fs.set 74 (.int 1)), (by rw [List.getElem?_set_self (by rw [hlen]; decide)]), POW.mk' ht9 hW9.alike hP9 hK9 hD9⟩⟩, hS.F ht9⟩) hS.2.2 dX12_server_73
  · have hw := hw.2 hI3
    subst hw
    refine lv_if_eq (tgt := 33) hx hb dX12_server_7 (by decide) (fun c33 => ?_) (fun c33 => False.elim (by revert c33; decide))
    refine lv_iconst (v := 0) hx hb dX12_server_33 (by decide) ?_
    refine lv_istore (lv' := [(4, .int 0), (0, .ref h0), (1, .int a1), (2, .int a2), (3, .int a3)]) hx hb dX12_server_34 hl (by decide) rfl (fun ls hl => ?_)
    refine lv_aload_n hx hb dX12_server_36 rfl (lv_at hl 1 rfl) ?_
    refine lv_iload hx hb dX12_server_37 (lv_at hl 0 rfl) ?_
    refine lv_if_ne (tgt := 46) hx hb dX12_server_39 (by decide) (fun c34 => False.elim (by revert c34; decide)) (fun c34 => ?_)
    refine lv_iconst (v := 1) hx hb dX12_server_42 (by decide) ?_
    refine lv_goto (tgt := 66) hx hb dX12_server_43 (by decide) ?_
    have hPc := hP.sub (ws' := [(h0, .inr (13, fs))]) [0] rfl
    have hDc := hD.sub (ws' := [(h0, .inr (13, fs))]) [0] (by decide) rfl
    have hKc := hK.sub (tys' := []) [] rfl
    have hFc := va_free (wc := [(h0, .inr (13, fs))]) hD hS hA [0] rfl
    refine va_calli (va_runV (As := [.int 1]) (rest := []) ⟨hx, hb, hml, hown, ht⟩ (k_X12_fails l d0 cO dC dI H.size h0 1 fs hlen) (my_V ht M_X12_fails q1992 q53 q1990 (Nat.le_of_ble_eq_true rfl) (Nat.le_of_ble_eq_true rfl)) ⟨PRE.fb, va_recv hK hP (ci := 13) (q0 := 0) rfl rfl, fun U hU hW => ⟨rfl, PRE.mk' hE hS hFc hPc hKc hDc U hU hW⟩⟩ rfl rfl hl.1 rfl (lv_room (Nat.le_of_ble_eq_true rfl)) dX12_server_66 ⟨(Nat.le_of_ble_eq_true rfl), (Nat.le_of_ble_eq_true rfl)⟩) hS (fun q _ h => hFc q h) hFc (fun r36 u35 t H1 locs htt hvm hw hB hz1 hk1 hS => ?_)
    try dsimp only at hw hB
    obtain ⟨hP1, hK1, hD1⟩ := hB
    rw [htt] at hP1
    have hK1 := va_K.moved hvm.symm hK1
    obtain ⟨hP, hD⟩ := va_join (wr := [(rk, .inl (tK, 3, .inl fk)), (rl, .inl (tL, 3, .inl fl)), (rs, .inl (tS, 3, .inl f3)), (ru, .inl (tU, 3, .inl fu))]) (w1 := [(h0, .inr (13, (fs.set 74 (.int 1))))]) hP hD [0] [1, 2, 3, 4] rfl rfl (by decide) (by decide) hk1 hFc hP1 hD1
    have hK := (hK.sub (tys' := [(tK, .int), (tL, .int), (tS, .int), (tU, .boolean)]) [0, 1, 2, 3] rfl).app hK1
    generalize H1 = H at hP hS ⊢
    have hP : va_P (dC, dI) vwCl [(rk, .inl (tK, 3, .inl fk)), (rl, .inl (tL, 3, .inl fl)), (rs, .inl (tS, 3, .inl f3)), (ru, .inl (tU, 3, .inl fu)), (h0, .inr (13, (fs.set 74 (.int 1))))] H := hP
    have hD : va_D A [(rk, .inl (tK, 3, .inl fk)), (rl, .inl (tL, 3, .inl fl)), (rs, .inl (tS, 3, .inl f3)), (ru, .inl (tU, 3, .inl fu)), (h0, .inr (13, (fs.set 74 (.int 1))))] := hD
    have hK : va_K (dC, dI) vwCl [(tK, .int), (tL, .int), (tS, .int), (tU, .boolean)] s := hK
    refine W.widen (k := 0) (n := 0) (Nat.le_of_ble_eq_true rfl) (Nat.le_of_ble_eq_true rfl) ?_
    have hw := hw.1 (by decide)
    subst hw
    refine lv_if_eq (tgt := 74) hx hb dX12_server_69 (by decide) (fun c37 => False.elim (by revert c37; decide)) (fun c37 => ?_)
    refine lv_iconst (v := 0) hx hb dX12_server_72 (by decide) ?_
    have hP9 := hP.sub (ws' := [(h0, .inr (13, (fs.set 74 (.int 1))))]) [4] rfl
    have hD9 := hD.sub (ws' := [(h0, .inr (13, (fs.set 74 (.int 1))))]) [4] (by decide) rfl
    have hK9 := hK.sub (tys' := []) [] rfl
    refine W.widen (k := 0) (n := 0) (Nat.le_of_ble_eq_true rfl) (Nat.le_of_ble_eq_true rfl) ?_
    exact W.iret (v := 0) hx hb hr (fun t ht9 hW9 => ⟨⟨0, 1, rfl, (by refine ⟨fun h => ?_, fun h => ?_⟩ <;> first | exact ⟨rfl, rfl⟩ | rfl | (exfalso; simp only [Int32.le_iff_toInt_le, Int32.lt_iff_toInt_lt, ← Int32.toInt_inj, li0, li1, li2, li3, li5, li6, li7, li9, li10, li32, li48, li57, li63, li97, li122, lim1] at h hI3; omega)), ⟨(fs.set 74 (.int 1)), (by rw [List.getElem?_set_self (by rw [hlen]; decide)]), POW.mk' ht9 hW9.alike hP9 hK9 hD9⟩⟩, hS.F ht9⟩) hS.2.2 dX12_server_73
set_option maxHeartbeats 4000000 in
set_option maxRecDepth 100000 in
theorem k_X12_deliver (l : Launch) (d0 : Nat) (cO : ClassId) (dC : Nat → ClassId) (dI : Nat → Nat → Nat) (sz : Nat) (h0 : Nat) (rf : Nat) (tF : ClassId) (fr : Nat → Int32) (hfr : ∀ j : Nat, j < 10 → fr j = -1) (a1 : Int32) (fs : List Value) (hlen : fs.length = 75) (hf_front : fs[56]? = some (.ref rf)) : Met l yX12_deliver (cn yX12_deliver cX12_deliver 2 (some FieldType.int)) (rmd 5 0 0) (va_Pc [.ref h0, .int a1] (PRE d0 cO (dC, dI) (va_A [(h0, .inr (13, fs)), (rf, .inl (tF, 10, .inl fr))] sz) [(h0, .inr (13, fs)), (rf, .inl (tF, 10, .inl fr))] [(tF, .int)] sz)) (va_Qi (fun (r : Int32) (u : Int32) => (0 ≤ a1 ∧ a1 ≤ 9 → u = 0 ∧ r = -1) ∧ (¬ (0 ≤ a1 ∧ a1 ≤ 9) → u = 1)) (fun (u : Int32) (t : State) => ∃ fs2 : List Value, (fs2[74]? = some (.int u)) ∧ POW (dC, dI) (va_A [(h0, .inr (13, fs)), (rf, .inl (tF, 10, .inl fr))] sz) [(h0, .inr (13, fs2))] [] t) (va_A [(h0, .inr (13, fs)), (rf, .inl (tF, 10, .inl fr))] sz)) 0 0 (va_A [(h0, .inr (13, fs)), (rf, .inl (tF, 10, .inl fr))] sz) := by
  refine Met.ofW (cc := cX12_deliver) (maxL := 2) (ret := (some FieldType.int)) (by decide) rfl ?_
  intro p e s m args below meth c s₁ B hml hv
  obtain ⟨rfl, hsz, hE, hP, hK, hD0⟩ := hv
  have hx := B.exec
  have hb := B.bytes
  have hr := B.returns
  have hts := atoms_spec (ws := cn yX12_deliver cX12_deliver 2 (some FieldType.int)) B.pre
  have ht : ∀ w ∈ GT, w.before _ s = true := fun w h => hts w (List.mem_cons_of_mem _ h)
  have hown : s.vm.findClass RX12 = some m.cls := findClass_of_methodNamed B.named
  have hlocks := B.notSynchronized
  subst hsz
  have hD := hD0.self (sz := s.heap.size)
  generalize hAe : va_A [(h0, .inr (13, fs)), (rf, .inl (tF, 10, .inl fr))] s.heap.size = A at hD hE ⊢
  have hA : ∀ q : Nat, s.heap.size ≤ q → A q := fun q h => by rw [← hAe]; exact Or.inr h
  obtain ⟨H, hH0⟩ : ∃ H, s.heap = H := ⟨_, rfl⟩
  have hS : va_S A s.heap H [] := by rw [← hH0]; exact va_S.rf
  rw [hH0] at hP
  have hl := lv_entry ([.ref h0, .int a1]) (n := 2) (Nat.le_of_ble_eq_true rfl)
  rw [lg_entry_eq]
  generalize (lg_sl ([.ref h0, .int a1]) ++ List.replicate (2 - (lg_sl ([.ref h0, .int a1])).length) Slot.unset).toArray = ls at hl ⊢
  have hl : lv_has ls 2 [(0, .ref h0), (1, .int a1)] := hl
  rw [hH0]
  refine lv_aload_n hx hb dX12_deliver_0 rfl (lv_at hl 0 rfl) ?_
  refine lv_iload_n hx hb dX12_deliver_1 rfl (lv_at hl 1 rfl) ?_
  refine lv_iconst (v := 0) hx hb dX12_deliver_2 (by decide) ?_
  refine lv_bipush (v := 9) hx hb dX12_deliver_3 (by decide) ?_
  have hPc := hP.sub (ws' := []) [] rfl
  have hDc := hD.sub (ws' := []) [] (by decide) rfl
  have hKc := hK.sub (tys' := []) [] rfl
  have hFc := freeNil hS hA
  refine va_calli (va_runS (As := [.int a1, .int 0, .int 9]) (rest := [.ref h0]) ⟨hx, hb, hml, hown, ht⟩ (k_X12_isIn l d0 cO dC dI H.size a1 0 9) (my_S ht M_X12_isIn q1984 q1983 (Nat.le_of_ble_eq_true rfl) (Nat.le_of_ble_eq_true rfl)) ⟨PREp.fb, fun U hU hW => ⟨rfl, PREp.mk' hE hS hFc hPc hKc U hU hW⟩⟩ rfl rfl hl.1 rfl (lv_room (Nat.le_of_ble_eq_true rfl)) dX12_deliver_5 ⟨(Nat.le_of_ble_eq_true rfl), (Nat.le_of_ble_eq_true rfl)⟩) hS (fun q _ h => hFc q h) hFc (fun r2 u1 t H1 locs htt hvm hw hB hz1 hk1 hS => ?_)
  try dsimp only at hw hB
  have hP1 := hB
  have hP := keepAll hP hk1
  generalize H1 = H at hP hS ⊢
  have hP : va_P (dC, dI) vwCl [(h0, .inr (13, fs)), (rf, .inl (tF, 10, .inl fr))] H := hP
  have hD : va_D A [(h0, .inr (13, fs)), (rf, .inl (tF, 10, .inl fr))] := hD
  have hK : va_K (dC, dI) vwCl [(tF, .int)] s := hK
  refine W.widen (k := 0) (n := 0) (Nat.le_of_ble_eq_true rfl) (Nat.le_of_ble_eq_true rfl) ?_
  by_cases hI3 : 0 ≤ a1 ∧ a1 ≤ 9
  · have hw := hw.1 hI3
    subst hw
    refine lv_if_eq (tgt := 15) hx hb dX12_deliver_8 (by decide) (fun c4 => False.elim (by revert c4; decide)) (fun c4 => ?_)
    refine lv_iconst (v := 0) hx hb dX12_deliver_11 (by decide) ?_
    refine lv_goto (tgt := 16) hx hb dX12_deliver_12 (by decide) ?_
    have hPc := hP.sub (ws' := [(h0, .inr (13, fs))]) [0] rfl
    have hDc := hD.sub (ws' := [(h0, .inr (13, fs))]) [0] (by decide) rfl
    have hKc := hK.sub (tys' := []) [] rfl
    have hFc := va_free (wc := [(h0, .inr (13, fs))]) hD hS hA [0] rfl
    refine va_calli (va_runV (As := [.int 0]) (rest := []) ⟨hx, hb, hml, hown, ht⟩ (k_X12_fails l d0 cO dC dI H.size h0 0 fs hlen) (my_V ht M_X12_fails q1992 q53 q1990 (Nat.le_of_ble_eq_true rfl) (Nat.le_of_ble_eq_true rfl)) ⟨PRE.fb, va_recv hK hP (ci := 13) (q0 := 0) rfl rfl, fun U hU hW => ⟨rfl, PRE.mk' hE hS hFc hPc hKc hDc U hU hW⟩⟩ rfl rfl hl.1 rfl (lv_room (Nat.le_of_ble_eq_true rfl)) dX12_deliver_16 ⟨(Nat.le_of_ble_eq_true rfl), (Nat.le_of_ble_eq_true rfl)⟩) hS (fun q _ h => hFc q h) hFc (fun r6 u5 t H1 locs htt hvm hw hB hz1 hk1 hS => ?_)
    try dsimp only at hw hB
    obtain ⟨hP1, hK1, hD1⟩ := hB
    rw [htt] at hP1
    have hK1 := va_K.moved hvm.symm hK1
    obtain ⟨hP, hD⟩ := va_join (wr := [(rf, .inl (tF, 10, .inl fr))]) (w1 := [(h0, .inr (13, (fs.set 74 (.int 0))))]) hP hD [0] [1] rfl rfl (by decide) (by decide) hk1 hFc hP1 hD1
    have hK := (hK.sub (tys' := [(tF, .int)]) [0] rfl).app hK1
    generalize H1 = H at hP hS ⊢
    have hP : va_P (dC, dI) vwCl [(rf, .inl (tF, 10, .inl fr)), (h0, .inr (13, (fs.set 74 (.int 0))))] H := hP
    have hD : va_D A [(rf, .inl (tF, 10, .inl fr)), (h0, .inr (13, (fs.set 74 (.int 0))))] := hD
    have hK : va_K (dC, dI) vwCl [(tF, .int)] s := hK
    refine W.widen (k := 0) (n := 0) (Nat.le_of_ble_eq_true rfl) (Nat.le_of_ble_eq_true rfl) ?_
    have hw := hw.2 (by decide)
    subst hw
    refine lv_if_eq (tgt := 24) hx hb dX12_deliver_19 (by decide) (fun c7 => ?_) (fun c7 => False.elim (by revert c7; decide))
    refine lv_aload_n hx hb dX12_deliver_24 rfl (lv_at hl 0 rfl) ?_
    refine va_get (D := (dC, dI)) (ci := 13) (v := .ref rf) (C := RX12) (T := TX12) (N := 75) hx hb ht inGX12 hown hK hP 1 rfl rfl 56 (by decide) (ht _ q1805) (fun _ h9 => h9) (by rw [List.getElem?_set_ne (by decide)]; exact hf_front) dX12_deliver_25 ?_
    refine lv_iload_n hx hb dX12_deliver_28 rfl (lv_at hl 1 rfl) ?_
    refine va_iald hx hb hK hP 0 0 rfl rfl (vp_in_iff.mpr (by have := hI3; simp only [Int32.le_iff_toInt_le, Int32.lt_iff_toInt_lt, ← Int32.toInt_inj, li0, li1, li2, li3, li5, li6, li7, li9, li10, li32, li48, li57, li63, li97, li122, lim1] at this; omega)) dX12_deliver_29 ?_
    have hv : fr (a1).toNatClampNeg = -1 := hfr _ (clamp10 hI3)
    refine lv_topi (fun x8 ex8 => ?_)
    obtain rfl : x8 = -1 := ex8.trans hv
    refine lv_iconst (v := -1) hx hb dX12_deliver_30 (by decide) ?_
    refine lv_icmp_ne (tgt := 38) hx hb dX12_deliver_31 (by decide) (fun c9 => False.elim (by revert c9; decide)) (fun c9 => ?_)
    refine lv_iconst (v := -1) hx hb dX12_deliver_34 (by decide) ?_
    refine lv_goto (tgt := 43) hx hb dX12_deliver_35 (by decide) ?_
    have hP9 := hP.sub (ws' := [(h0, .inr (13, (fs.set 74 (.int 0))))]) [1] rfl
    have hD9 := hD.sub (ws' := [(h0, .inr (13, (fs.set 74 (.int 0))))]) [1] (by decide) rfl
    have hK9 := hK.sub (tys' := []) [] rfl
    refine W.widen (k := 0) (n := 0) (Nat.le_of_ble_eq_true rfl) (Nat.le_of_ble_eq_true rfl) ?_
    exact W.iret (v := -1) hx hb hr (fun t ht9 hW9 => ⟨⟨-1, 0, rfl, (by refine ⟨fun h => ?_, fun h => ?_⟩ <;> first | exact ⟨rfl, rfl⟩ | rfl | (exfalso; simp only [Int32.le_iff_toInt_le, Int32.lt_iff_toInt_lt, ← Int32.toInt_inj, li0, li1, li2, li3, li5, li6, li7, li9, li10, li32, li48, li57, li63, li97, li122, lim1] at h hI3; omega)), ⟨(fs.set 74 (.int 0)), (by rw [List.getElem?_set_self (by rw [hlen]; decide)]), POW.mk' ht9 hW9.alike hP9 hK9 hD9⟩⟩, hS.F ht9⟩) hS.2.2 dX12_deliver_43
  · have hw := hw.2 hI3
    subst hw
    refine lv_if_eq (tgt := 15) hx hb dX12_deliver_8 (by decide) (fun c10 => ?_) (fun c10 => False.elim (by revert c10; decide))
    refine lv_iconst (v := 1) hx hb dX12_deliver_15 (by decide) ?_
    have hPc := hP.sub (ws' := [(h0, .inr (13, fs))]) [0] rfl
    have hDc := hD.sub (ws' := [(h0, .inr (13, fs))]) [0] (by decide) rfl
    have hKc := hK.sub (tys' := []) [] rfl
    have hFc := va_free (wc := [(h0, .inr (13, fs))]) hD hS hA [0] rfl
    refine va_calli (va_runV (As := [.int 1]) (rest := []) ⟨hx, hb, hml, hown, ht⟩ (k_X12_fails l d0 cO dC dI H.size h0 1 fs hlen) (my_V ht M_X12_fails q1992 q53 q1990 (Nat.le_of_ble_eq_true rfl) (Nat.le_of_ble_eq_true rfl)) ⟨PRE.fb, va_recv hK hP (ci := 13) (q0 := 0) rfl rfl, fun U hU hW => ⟨rfl, PRE.mk' hE hS hFc hPc hKc hDc U hU hW⟩⟩ rfl rfl hl.1 rfl (lv_room (Nat.le_of_ble_eq_true rfl)) dX12_deliver_16 ⟨(Nat.le_of_ble_eq_true rfl), (Nat.le_of_ble_eq_true rfl)⟩) hS (fun q _ h => hFc q h) hFc (fun r12 u11 t H1 locs htt hvm hw hB hz1 hk1 hS => ?_)
    try dsimp only at hw hB
    obtain ⟨hP1, hK1, hD1⟩ := hB
    rw [htt] at hP1
    have hK1 := va_K.moved hvm.symm hK1
    obtain ⟨hP, hD⟩ := va_join (wr := [(rf, .inl (tF, 10, .inl fr))]) (w1 := [(h0, .inr (13, (fs.set 74 (.int 1))))]) hP hD [0] [1] rfl rfl (by decide) (by decide) hk1 hFc hP1 hD1
    have hK := (hK.sub (tys' := [(tF, .int)]) [0] rfl).app hK1
    generalize H1 = H at hP hS ⊢
    have hP : va_P (dC, dI) vwCl [(rf, .inl (tF, 10, .inl fr)), (h0, .inr (13, (fs.set 74 (.int 1))))] H := hP
    have hD : va_D A [(rf, .inl (tF, 10, .inl fr)), (h0, .inr (13, (fs.set 74 (.int 1))))] := hD
    have hK : va_K (dC, dI) vwCl [(tF, .int)] s := hK
    refine W.widen (k := 0) (n := 0) (Nat.le_of_ble_eq_true rfl) (Nat.le_of_ble_eq_true rfl) ?_
    have hw := hw.1 (by decide)
    subst hw
    refine lv_if_eq (tgt := 24) hx hb dX12_deliver_19 (by decide) (fun c13 => False.elim (by revert c13; decide)) (fun c13 => ?_)
    refine lv_iconst (v := 0) hx hb dX12_deliver_22 (by decide) ?_
    have hP9 := hP.sub (ws' := [(h0, .inr (13, (fs.set 74 (.int 1))))]) [1] rfl
    have hD9 := hD.sub (ws' := [(h0, .inr (13, (fs.set 74 (.int 1))))]) [1] (by decide) rfl
    have hK9 := hK.sub (tys' := []) [] rfl
    refine W.widen (k := 0) (n := 0) (Nat.le_of_ble_eq_true rfl) (Nat.le_of_ble_eq_true rfl) ?_
    exact W.iret (v := 0) hx hb hr (fun t ht9 hW9 => ⟨⟨0, 1, rfl, (by refine ⟨fun h => ?_, fun h => ?_⟩ <;> first | exact ⟨rfl, rfl⟩ | rfl | (exfalso; simp only [Int32.le_iff_toInt_le, Int32.lt_iff_toInt_lt, ← Int32.toInt_inj, li0, li1, li2, li3, li5, li6, li7, li9, li10, li32, li48, li57, li63, li97, li122, lim1] at h hI3; omega)), ⟨(fs.set 74 (.int 1)), (by rw [List.getElem?_set_self (by rw [hlen]; decide)]), POW.mk' ht9 hW9.alike hP9 hK9 hD9⟩⟩, hS.F ht9⟩) hS.2.2 dX12_deliver_23
set_option maxHeartbeats 4000000 in
set_option maxRecDepth 100000 in
theorem k_X12_deliverAll (l : Launch) (d0 : Nat) (cO : ClassId) (dC : Nat → ClassId) (dI : Nat → Nat → Nat) (sz : Nat) (h0 : Nat) (rf : Nat) (tF : ClassId) (fr : Nat → Int32) (hfr : ∀ j : Nat, j < 10 → fr j = -1) (fs : List Value) (hlen : fs.length = 75) (hf_front : fs[56]? = some (.ref rf)) : Met l yX12_deliverAll (cn yX12_deliverAll cX12_deliverAll 3 (some FieldType.int)) (rmd 5 0 0) (va_Pc [.ref h0] (PRE d0 cO (dC, dI) (va_A [(h0, .inr (13, fs)), (rf, .inl (tF, 10, .inl fr))] sz) [(h0, .inr (13, fs)), (rf, .inl (tF, 10, .inl fr))] [(tF, .int)] sz)) (va_Qi (fun (r : Int32) (u : Int32) => r = 0) (fun (u : Int32) (t : State) => ∃ fs2 : List Value, (fs2[74]? = some (.int u)) ∧ POW (dC, dI) (va_A [(h0, .inr (13, fs)), (rf, .inl (tF, 10, .inl fr))] sz) [(h0, .inr (13, fs2))] [] t) (va_A [(h0, .inr (13, fs)), (rf, .inl (tF, 10, .inl fr))] sz)) 0 0 (va_A [(h0, .inr (13, fs)), (rf, .inl (tF, 10, .inl fr))] sz) := by
  refine Met.ofW (cc := cX12_deliverAll) (maxL := 3) (ret := (some FieldType.int)) (by decide) rfl ?_
  intro p e s m args below meth c s₁ B hml hv
  obtain ⟨rfl, hsz, hE, hP, hK, hD0⟩ := hv
  have hx := B.exec
  have hb := B.bytes
  have hr := B.returns
  have hts := atoms_spec (ws := cn yX12_deliverAll cX12_deliverAll 3 (some FieldType.int)) B.pre
  have ht : ∀ w ∈ GT, w.before _ s = true := fun w h => hts w (List.mem_cons_of_mem _ h)
  have hown : s.vm.findClass RX12 = some m.cls := findClass_of_methodNamed B.named
  have hlocks := B.notSynchronized
  subst hsz
  have hD := hD0.self (sz := s.heap.size)
  generalize hAe : va_A [(h0, .inr (13, fs)), (rf, .inl (tF, 10, .inl fr))] s.heap.size = A at hD hE ⊢
  have hA : ∀ q : Nat, s.heap.size ≤ q → A q := fun q h => by rw [← hAe]; exact Or.inr h
  obtain ⟨H, hH0⟩ : ∃ H, s.heap = H := ⟨_, rfl⟩
  have hS : va_S A s.heap H [] := by rw [← hH0]; exact va_S.rf
  rw [hH0] at hP
  have hl := lv_entry ([.ref h0]) (n := 3) (Nat.le_of_ble_eq_true rfl)
  rw [lg_entry_eq]
  generalize (lg_sl ([.ref h0]) ++ List.replicate (3 - (lg_sl ([.ref h0])).length) Slot.unset).toArray = ls at hl ⊢
  have hl : lv_has ls 3 [(0, .ref h0)] := hl
  rw [hH0]
  refine lv_aload_n hx hb dX12_deliverAll_0 rfl (lv_at hl 0 rfl) ?_
  refine lv_iconst (v := 0) hx hb dX12_deliverAll_1 (by decide) ?_
  refine va_put (D := (dC, dI)) (ci := 13) (v := .int 0) (ty := .int) (C := RX12) (T := TX12) (N := 75) hx hb ht inGX12 tyX12 tyX12_ok nmX12 hown hK hP hD hS 0 rfl rfl 74 (by decide) (ht _ q1823) (fun _ h9 => h9) rfl (by decide +kernel) rfl rfl (by rw [hlen]; decide) dX12_deliverAll_2 (fun H locs hP hD hS => ?_)
  have hP : va_P (dC, dI) vwCl [(h0, .inr (13, (fs.set 74 (.int 0)))), (rf, .inl (tF, 10, .inl fr))] H := hP
  have hD : va_D A [(h0, .inr (13, (fs.set 74 (.int 0)))), (rf, .inl (tF, 10, .inl fr))] := hD
  refine lv_iconst (v := 0) hx hb dX12_deliverAll_5 (by decide) ?_
  refine lv_istore_n (lv' := [(1, .int 0), (0, .ref h0)]) hx hb dX12_deliverAll_6 rfl hl (by decide) rfl (fun ls hl => ?_)
  refine lv_iconst (v := 0) hx hb dX12_deliverAll_7 (by decide) ?_
  refine lv_istore_n (lv' := [(2, .int 0), (1, .int 0), (0, .ref h0)]) hx hb dX12_deliverAll_8 rfl hl (by decide) rfl (fun ls hl => ?_)
  refine lv_iload_n hx hb dX12_deliverAll_9 rfl (lv_at hl 0 rfl) ?_
  refine lv_bipush (v := 10) hx hb dX12_deliverAll_10 (by decide) ?_
  refine lv_icmp_ge (tgt := 45) hx hb dX12_deliverAll_12 (by decide) (fun c1 => False.elim (by revert c1; decide)) (fun c1 => ?_)
  refine lv_aload_n hx hb dX12_deliverAll_15 rfl (lv_at hl 2 rfl) ?_
  refine va_get (D := (dC, dI)) (ci := 13) (v := .ref rf) (C := RX12) (T := TX12) (N := 75) hx hb ht inGX12 hown hK hP 0 rfl rfl 56 (by decide) (ht _ q1805) (fun _ h9 => h9) (by rw [List.getElem?_set_ne (by decide)]; exact hf_front) dX12_deliverAll_16 ?_
  refine lv_iload_n hx hb dX12_deliverAll_19 rfl (lv_at hl 0 rfl) ?_
  refine va_iald hx hb hK hP 1 0 rfl rfl (vp_in_nI (n := 0) (by decide) (by decide)) dX12_deliverAll_20 ?_
  have hv : fr 0 = -1 := hfr 0 (by decide)
  refine lv_topi (fun x2 ex2 => ?_)
  obtain rfl : x2 = -1 := ex2.trans hv
  refine lv_iconst (v := -1) hx hb dX12_deliverAll_21 (by decide) ?_
  refine lv_icmp_ne (tgt := 31) hx hb dX12_deliverAll_22 (by decide) (fun c3 => False.elim (by revert c3; decide)) (fun c3 => ?_)
  refine lv_iinc (v := 1) (lv' := [(2, .int 1), (1, .int 0), (0, .ref h0)]) hx hb dX12_deliverAll_25 hl (k := 0) rfl (by decide) (by decide) rfl (fun ls hl => ?_)
  refine lv_goto (tgt := 9) hx hb dX12_deliverAll_28 (by decide) ?_
  refine lv_iload_n hx hb dX12_deliverAll_9 rfl (lv_at hl 0 rfl) ?_
  refine lv_bipush (v := 10) hx hb dX12_deliverAll_10 (by decide) ?_
  refine lv_icmp_ge (tgt := 45) hx hb dX12_deliverAll_12 (by decide) (fun c4 => False.elim (by revert c4; decide)) (fun c4 => ?_)
  refine lv_aload_n hx hb dX12_deliverAll_15 rfl (lv_at hl 2 rfl) ?_
  refine va_get (D := (dC, dI)) (ci := 13) (v := .ref rf) (C := RX12) (T := TX12) (N := 75) hx hb ht inGX12 hown hK hP 0 rfl rfl 56 (by decide) (ht _ q1805) (fun _ h9 => h9) (by rw [List.getElem?_set_ne (by decide)]; exact hf_front) dX12_deliverAll_16 ?_
  refine lv_iload_n hx hb dX12_deliverAll_19 rfl (lv_at hl 0 rfl) ?_
  refine va_iald hx hb hK hP 1 0 rfl rfl (vp_in_nI (n := 1) (by decide) (by decide)) dX12_deliverAll_20 ?_
  have hv : fr 1 = -1 := hfr 1 (by decide)
  refine lv_topi (fun x5 ex5 => ?_)
  obtain rfl : x5 = -1 := ex5.trans hv
  refine lv_iconst (v := -1) hx hb dX12_deliverAll_21 (by decide) ?_
  refine lv_icmp_ne (tgt := 31) hx hb dX12_deliverAll_22 (by decide) (fun c6 => False.elim (by revert c6; decide)) (fun c6 => ?_)
  refine lv_iinc (v := 2) (lv' := [(2, .int 2), (1, .int 0), (0, .ref h0)]) hx hb dX12_deliverAll_25 hl (k := 0) rfl (by decide) (by decide) rfl (fun ls hl => ?_)
  refine lv_goto (tgt := 9) hx hb dX12_deliverAll_28 (by decide) ?_
  refine lv_iload_n hx hb dX12_deliverAll_9 rfl (lv_at hl 0 rfl) ?_
  refine lv_bipush (v := 10) hx hb dX12_deliverAll_10 (by decide) ?_
  refine lv_icmp_ge (tgt := 45) hx hb dX12_deliverAll_12 (by decide) (fun c7 => False.elim (by revert c7; decide)) (fun c7 => ?_)
  refine lv_aload_n hx hb dX12_deliverAll_15 rfl (lv_at hl 2 rfl) ?_
  refine va_get (D := (dC, dI)) (ci := 13) (v := .ref rf) (C := RX12) (T := TX12) (N := 75) hx hb ht inGX12 hown hK hP 0 rfl rfl 56 (by decide) (ht _ q1805) (fun _ h9 => h9) (by rw [List.getElem?_set_ne (by decide)]; exact hf_front) dX12_deliverAll_16 ?_
  refine lv_iload_n hx hb dX12_deliverAll_19 rfl (lv_at hl 0 rfl) ?_
  refine va_iald hx hb hK hP 1 0 rfl rfl (vp_in_nI (n := 2) (by decide) (by decide)) dX12_deliverAll_20 ?_
  have hv : fr 2 = -1 := hfr 2 (by decide)
  refine lv_topi (fun x8 ex8 => ?_)
  obtain rfl : x8 = -1 := ex8.trans hv
  refine lv_iconst (v := -1) hx hb dX12_deliverAll_21 (by decide) ?_
  refine lv_icmp_ne (tgt := 31) hx hb dX12_deliverAll_22 (by decide) (fun c9 => False.elim (by revert c9; decide)) (fun c9 => ?_)
  refine lv_iinc (v := 3) (lv' := [(2, .int 3), (1, .int 0), (0, .ref h0)]) hx hb dX12_deliverAll_25 hl (k := 0) rfl (by decide) (by decide) rfl (fun ls hl => ?_)
  refine lv_goto (tgt := 9) hx hb dX12_deliverAll_28 (by decide) ?_
  refine lv_iload_n hx hb dX12_deliverAll_9 rfl (lv_at hl 0 rfl) ?_
  refine lv_bipush (v := 10) hx hb dX12_deliverAll_10 (by decide) ?_
  refine lv_icmp_ge (tgt := 45) hx hb dX12_deliverAll_12 (by decide) (fun c10 => False.elim (by revert c10; decide)) (fun c10 => ?_)
  refine lv_aload_n hx hb dX12_deliverAll_15 rfl (lv_at hl 2 rfl) ?_
  refine va_get (D := (dC, dI)) (ci := 13) (v := .ref rf) (C := RX12) (T := TX12) (N := 75) hx hb ht inGX12 hown hK hP 0 rfl rfl 56 (by decide) (ht _ q1805) (fun _ h9 => h9) (by rw [List.getElem?_set_ne (by decide)]; exact hf_front) dX12_deliverAll_16 ?_
  refine lv_iload_n hx hb dX12_deliverAll_19 rfl (lv_at hl 0 rfl) ?_
  refine va_iald hx hb hK hP 1 0 rfl rfl (vp_in_nI (n := 3) (by decide) (by decide)) dX12_deliverAll_20 ?_
  have hv : fr 3 = -1 := hfr 3 (by decide)
  refine lv_topi (fun x11 ex11 => ?_)
  obtain rfl : x11 = -1 := ex11.trans hv
  refine lv_iconst (v := -1) hx hb dX12_deliverAll_21 (by decide) ?_
  refine lv_icmp_ne (tgt := 31) hx hb dX12_deliverAll_22 (by decide) (fun c12 => False.elim (by revert c12; decide)) (fun c12 => ?_)
  refine lv_iinc (v := 4) (lv' := [(2, .int 4), (1, .int 0), (0, .ref h0)]) hx hb dX12_deliverAll_25 hl (k := 0) rfl (by decide) (by decide) rfl (fun ls hl => ?_)
  refine lv_goto (tgt := 9) hx hb dX12_deliverAll_28 (by decide) ?_
  refine lv_iload_n hx hb dX12_deliverAll_9 rfl (lv_at hl 0 rfl) ?_
  refine lv_bipush (v := 10) hx hb dX12_deliverAll_10 (by decide) ?_
  refine lv_icmp_ge (tgt := 45) hx hb dX12_deliverAll_12 (by decide) (fun c13 => False.elim (by revert c13; decide)) (fun c13 => ?_)
  refine lv_aload_n hx hb dX12_deliverAll_15 rfl (lv_at hl 2 rfl) ?_
  refine va_get (D := (dC, dI)) (ci := 13) (v := .ref rf) (C := RX12) (T := TX12) (N := 75) hx hb ht inGX12 hown hK hP 0 rfl rfl 56 (by decide) (ht _ q1805) (fun _ h9 => h9) (by rw [List.getElem?_set_ne (by decide)]; exact hf_front) dX12_deliverAll_16 ?_
  refine lv_iload_n hx hb dX12_deliverAll_19 rfl (lv_at hl 0 rfl) ?_
  refine va_iald hx hb hK hP 1 0 rfl rfl (vp_in_nI (n := 4) (by decide) (by decide)) dX12_deliverAll_20 ?_
  have hv : fr 4 = -1 := hfr 4 (by decide)
  refine lv_topi (fun x14 ex14 => ?_)
  obtain rfl : x14 = -1 := ex14.trans hv
  refine lv_iconst (v := -1) hx hb dX12_deliverAll_21 (by decide) ?_
  refine lv_icmp_ne (tgt := 31) hx hb dX12_deliverAll_22 (by decide) (fun c15 => False.elim (by revert c15; decide)) (fun c15 => ?_)
  refine lv_iinc (v := 5) (lv' := [(2, .int 5), (1, .int 0), (0, .ref h0)]) hx hb dX12_deliverAll_25 hl (k := 0) rfl (by decide) (by decide) rfl (fun ls hl => ?_)
  refine lv_goto (tgt := 9) hx hb dX12_deliverAll_28 (by decide) ?_
  refine lv_iload_n hx hb dX12_deliverAll_9 rfl (lv_at hl 0 rfl) ?_
  refine lv_bipush (v := 10) hx hb dX12_deliverAll_10 (by decide) ?_
  refine lv_icmp_ge (tgt := 45) hx hb dX12_deliverAll_12 (by decide) (fun c16 => False.elim (by revert c16; decide)) (fun c16 => ?_)
  refine lv_aload_n hx hb dX12_deliverAll_15 rfl (lv_at hl 2 rfl) ?_
  refine va_get (D := (dC, dI)) (ci := 13) (v := .ref rf) (C := RX12) (T := TX12) (N := 75) hx hb ht inGX12 hown hK hP 0 rfl rfl 56 (by decide) (ht _ q1805) (fun _ h9 => h9) (by rw [List.getElem?_set_ne (by decide)]; exact hf_front) dX12_deliverAll_16 ?_
  refine lv_iload_n hx hb dX12_deliverAll_19 rfl (lv_at hl 0 rfl) ?_
  refine va_iald hx hb hK hP 1 0 rfl rfl (vp_in_nI (n := 5) (by decide) (by decide)) dX12_deliverAll_20 ?_
  have hv : fr 5 = -1 := hfr 5 (by decide)
  refine lv_topi (fun x17 ex17 => ?_)
  obtain rfl : x17 = -1 := ex17.trans hv
  refine lv_iconst (v := -1) hx hb dX12_deliverAll_21 (by decide) ?_
  refine lv_icmp_ne (tgt := 31) hx hb dX12_deliverAll_22 (by decide) (fun c18 => False.elim (by revert c18; decide)) (fun c18 => ?_)
  refine lv_iinc (v := 6) (lv' := [(2, .int 6), (1, .int 0), (0, .ref h0)]) hx hb dX12_deliverAll_25 hl (k := 0) rfl (by decide) (by decide) rfl (fun ls hl => ?_)
  refine lv_goto (tgt := 9) hx hb dX12_deliverAll_28 (by decide) ?_
  refine lv_iload_n hx hb dX12_deliverAll_9 rfl (lv_at hl 0 rfl) ?_
  refine lv_bipush (v := 10) hx hb dX12_deliverAll_10 (by decide) ?_
  refine lv_icmp_ge (tgt := 45) hx hb dX12_deliverAll_12 (by decide) (fun c19 => False.elim (by revert c19; decide)) (fun c19 => ?_)
  refine lv_aload_n hx hb dX12_deliverAll_15 rfl (lv_at hl 2 rfl) ?_
  refine va_get (D := (dC, dI)) (ci := 13) (v := .ref rf) (C := RX12) (T := TX12) (N := 75) hx hb ht inGX12 hown hK hP 0 rfl rfl 56 (by decide) (ht _ q1805) (fun _ h9 => h9) (by rw [List.getElem?_set_ne (by decide)]; exact hf_front) dX12_deliverAll_16 ?_
  refine lv_iload_n hx hb dX12_deliverAll_19 rfl (lv_at hl 0 rfl) ?_
  refine va_iald hx hb hK hP 1 0 rfl rfl (vp_in_nI (n := 6) (by decide) (by decide)) dX12_deliverAll_20 ?_
  have hv : fr 6 = -1 := hfr 6 (by decide)
  refine lv_topi (fun x20 ex20 => ?_)
  obtain rfl : x20 = -1 := ex20.trans hv
  refine lv_iconst (v := -1) hx hb dX12_deliverAll_21 (by decide) ?_
  refine lv_icmp_ne (tgt := 31) hx hb dX12_deliverAll_22 (by decide) (fun c21 => False.elim (by revert c21; decide)) (fun c21 => ?_)
  refine lv_iinc (v := 7) (lv' := [(2, .int 7), (1, .int 0), (0, .ref h0)]) hx hb dX12_deliverAll_25 hl (k := 0) rfl (by decide) (by decide) rfl (fun ls hl => ?_)
  refine lv_goto (tgt := 9) hx hb dX12_deliverAll_28 (by decide) ?_
  refine lv_iload_n hx hb dX12_deliverAll_9 rfl (lv_at hl 0 rfl) ?_
  refine lv_bipush (v := 10) hx hb dX12_deliverAll_10 (by decide) ?_
  refine lv_icmp_ge (tgt := 45) hx hb dX12_deliverAll_12 (by decide) (fun c22 => False.elim (by revert c22; decide)) (fun c22 => ?_)
  refine lv_aload_n hx hb dX12_deliverAll_15 rfl (lv_at hl 2 rfl) ?_
  refine va_get (D := (dC, dI)) (ci := 13) (v := .ref rf) (C := RX12) (T := TX12) (N := 75) hx hb ht inGX12 hown hK hP 0 rfl rfl 56 (by decide) (ht _ q1805) (fun _ h9 => h9) (by rw [List.getElem?_set_ne (by decide)]; exact hf_front) dX12_deliverAll_16 ?_
  refine lv_iload_n hx hb dX12_deliverAll_19 rfl (lv_at hl 0 rfl) ?_
  refine va_iald hx hb hK hP 1 0 rfl rfl (vp_in_nI (n := 7) (by decide) (by decide)) dX12_deliverAll_20 ?_
  have hv : fr 7 = -1 := hfr 7 (by decide)
  refine lv_topi (fun x23 ex23 => ?_)
  obtain rfl : x23 = -1 := ex23.trans hv
  refine lv_iconst (v := -1) hx hb dX12_deliverAll_21 (by decide) ?_
  refine lv_icmp_ne (tgt := 31) hx hb dX12_deliverAll_22 (by decide) (fun c24 => False.elim (by revert c24; decide)) (fun c24 => ?_)
  refine lv_iinc (v := 8) (lv' := [(2, .int 8), (1, .int 0), (0, .ref h0)]) hx hb dX12_deliverAll_25 hl (k := 0) rfl (by decide) (by decide) rfl (fun ls hl => ?_)
  refine lv_goto (tgt := 9) hx hb dX12_deliverAll_28 (by decide) ?_
  refine lv_iload_n hx hb dX12_deliverAll_9 rfl (lv_at hl 0 rfl) ?_
  refine lv_bipush (v := 10) hx hb dX12_deliverAll_10 (by decide) ?_
  refine lv_icmp_ge (tgt := 45) hx hb dX12_deliverAll_12 (by decide) (fun c25 => False.elim (by revert c25; decide)) (fun c25 => ?_)
  refine lv_aload_n hx hb dX12_deliverAll_15 rfl (lv_at hl 2 rfl) ?_
  refine va_get (D := (dC, dI)) (ci := 13) (v := .ref rf) (C := RX12) (T := TX12) (N := 75) hx hb ht inGX12 hown hK hP 0 rfl rfl 56 (by decide) (ht _ q1805) (fun _ h9 => h9) (by rw [List.getElem?_set_ne (by decide)]; exact hf_front) dX12_deliverAll_16 ?_
  refine lv_iload_n hx hb dX12_deliverAll_19 rfl (lv_at hl 0 rfl) ?_
  refine va_iald hx hb hK hP 1 0 rfl rfl (vp_in_nI (n := 8) (by decide) (by decide)) dX12_deliverAll_20 ?_
  have hv : fr 8 = -1 := hfr 8 (by decide)
  refine lv_topi (fun x26 ex26 => ?_)
  obtain rfl : x26 = -1 := ex26.trans hv
  refine lv_iconst (v := -1) hx hb dX12_deliverAll_21 (by decide) ?_
  refine lv_icmp_ne (tgt := 31) hx hb dX12_deliverAll_22 (by decide) (fun c27 => False.elim (by revert c27; decide)) (fun c27 => ?_)
  refine lv_iinc (v := 9) (lv' := [(2, .int 9), (1, .int 0), (0, .ref h0)]) hx hb dX12_deliverAll_25 hl (k := 0) rfl (by decide) (by decide) rfl (fun ls hl => ?_)
  refine lv_goto (tgt := 9) hx hb dX12_deliverAll_28 (by decide) ?_
  refine lv_iload_n hx hb dX12_deliverAll_9 rfl (lv_at hl 0 rfl) ?_
  refine lv_bipush (v := 10) hx hb dX12_deliverAll_10 (by decide) ?_
  refine lv_icmp_ge (tgt := 45) hx hb dX12_deliverAll_12 (by decide) (fun c28 => False.elim (by revert c28; decide)) (fun c28 => ?_)
  refine lv_aload_n hx hb dX12_deliverAll_15 rfl (lv_at hl 2 rfl) ?_
  refine va_get (D := (dC, dI)) (ci := 13) (v := .ref rf) (C := RX12) (T := TX12) (N := 75) hx hb ht inGX12 hown hK hP 0 rfl rfl 56 (by decide) (ht _ q1805) (fun _ h9 => h9) (by rw [List.getElem?_set_ne (by decide)]; exact hf_front) dX12_deliverAll_16 ?_
  refine lv_iload_n hx hb dX12_deliverAll_19 rfl (lv_at hl 0 rfl) ?_
  refine va_iald hx hb hK hP 1 0 rfl rfl (vp_in_nI (n := 9) (by decide) (by decide)) dX12_deliverAll_20 ?_
  have hv : fr 9 = -1 := hfr 9 (by decide)
  refine lv_topi (fun x29 ex29 => ?_)
  obtain rfl : x29 = -1 := ex29.trans hv
  refine lv_iconst (v := -1) hx hb dX12_deliverAll_21 (by decide) ?_
  refine lv_icmp_ne (tgt := 31) hx hb dX12_deliverAll_22 (by decide) (fun c30 => False.elim (by revert c30; decide)) (fun c30 => ?_)
  refine lv_iinc (v := 10) (lv' := [(2, .int 10), (1, .int 0), (0, .ref h0)]) hx hb dX12_deliverAll_25 hl (k := 0) rfl (by decide) (by decide) rfl (fun ls hl => ?_)
  refine lv_goto (tgt := 9) hx hb dX12_deliverAll_28 (by decide) ?_
  refine lv_iload_n hx hb dX12_deliverAll_9 rfl (lv_at hl 0 rfl) ?_
  refine lv_bipush (v := 10) hx hb dX12_deliverAll_10 (by decide) ?_
  refine lv_icmp_ge (tgt := 45) hx hb dX12_deliverAll_12 (by decide) (fun c31 => ?_) (fun c31 => False.elim (by revert c31; decide))
  refine lv_iload_n hx hb dX12_deliverAll_45 rfl (lv_at hl 1 rfl) ?_
  have hP9 := hP.sub (ws' := [(h0, .inr (13, (fs.set 74 (.int 0))))]) [0] rfl
  have hD9 := hD.sub (ws' := [(h0, .inr (13, (fs.set 74 (.int 0))))]) [0] (by decide) rfl
  have hK9 := hK.sub (tys' := []) [] rfl
  refine W.widen (k := 0) (n := 0) (Nat.le_of_ble_eq_true rfl) (Nat.le_of_ble_eq_true rfl) ?_
  exact W.iret (v := 0) hx hb hr (fun t ht9 hW9 => ⟨⟨0, 0, rfl, rfl, ⟨(fs.set 74 (.int 0)), (by rw [List.getElem?_set_self (by rw [hlen]; decide)]), POW.mk' ht9 hW9.alike hP9 hK9 hD9⟩⟩, hS.F ht9⟩) hS.2.2 dX12_deliverAll_46
set_option maxHeartbeats 4000000 in
set_option maxRecDepth 100000 in
theorem k_X12_waiting (l : Launch) (d0 : Nat) (cO : ClassId) (dC : Nat → ClassId) (dI : Nat → Nat → Nat) (sz : Nat) (h0 : Nat) (rw_ : Nat) (tW : ClassId) (a1 : Int32) (fs : List Value) (hlen : fs.length = 75) (hf_waits : fs[58]? = some (.ref rw_)) : Met l yX12_waiting (cn yX12_waiting cX12_waiting 2 (some FieldType.int)) (rmd 5 0 0) (va_Pc [.ref h0, .int a1] (PRE d0 cO (dC, dI) (va_A [(h0, .inr (13, fs)), (rw_, .inl (tW, 10, .inl ((fun _ => 0))))] sz) [(h0, .inr (13, fs)), (rw_, .inl (tW, 10, .inl ((fun _ => 0))))] [(tW, .int)] sz)) (va_Qi (fun (r : Int32) (u : Int32) => (0 ≤ a1 ∧ a1 ≤ 9 → u = 0 ∧ r = 0) ∧ (¬ (0 ≤ a1 ∧ a1 ≤ 9) → u = 1)) (fun (u : Int32) (t : State) => ∃ fs2 : List Value, (fs2[74]? = some (.int u)) ∧ POW (dC, dI) (va_A [(h0, .inr (13, fs)), (rw_, .inl (tW, 10, .inl ((fun _ => 0))))] sz) [(h0, .inr (13, fs2))] [] t) (va_A [(h0, .inr (13, fs)), (rw_, .inl (tW, 10, .inl ((fun _ => 0))))] sz)) 0 0 (va_A [(h0, .inr (13, fs)), (rw_, .inl (tW, 10, .inl ((fun _ => 0))))] sz) := by
  refine Met.ofW (cc := cX12_waiting) (maxL := 2) (ret := (some FieldType.int)) (by decide) rfl ?_
  intro p e s m args below meth c s₁ B hml hv
  obtain ⟨rfl, hsz, hE, hP, hK, hD0⟩ := hv
  have hx := B.exec
  have hb := B.bytes
  have hr := B.returns
  have hts := atoms_spec (ws := cn yX12_waiting cX12_waiting 2 (some FieldType.int)) B.pre
  have ht : ∀ w ∈ GT, w.before _ s = true := fun w h => hts w (List.mem_cons_of_mem _ h)
  have hown : s.vm.findClass RX12 = some m.cls := findClass_of_methodNamed B.named
  have hlocks := B.notSynchronized
  subst hsz
  have hD := hD0.self (sz := s.heap.size)
  generalize hAe : va_A [(h0, .inr (13, fs)), (rw_, .inl (tW, 10, .inl ((fun _ => 0))))] s.heap.size = A at hD hE ⊢
  have hA : ∀ q : Nat, s.heap.size ≤ q → A q := fun q h => by rw [← hAe]; exact Or.inr h
  obtain ⟨H, hH0⟩ : ∃ H, s.heap = H := ⟨_, rfl⟩
  have hS : va_S A s.heap H [] := by rw [← hH0]; exact va_S.rf
  rw [hH0] at hP
  have hl := lv_entry ([.ref h0, .int a1]) (n := 2) (Nat.le_of_ble_eq_true rfl)
  rw [lg_entry_eq]
  generalize (lg_sl ([.ref h0, .int a1]) ++ List.replicate (2 - (lg_sl ([.ref h0, .int a1])).length) Slot.unset).toArray = ls at hl ⊢
  have hl : lv_has ls 2 [(0, .ref h0), (1, .int a1)] := hl
  rw [hH0]
  refine lv_aload_n hx hb dX12_waiting_0 rfl (lv_at hl 0 rfl) ?_
  refine lv_iload_n hx hb dX12_waiting_1 rfl (lv_at hl 1 rfl) ?_
  refine lv_iconst (v := 0) hx hb dX12_waiting_2 (by decide) ?_
  refine lv_bipush (v := 9) hx hb dX12_waiting_3 (by decide) ?_
  have hPc := hP.sub (ws' := []) [] rfl
  have hDc := hD.sub (ws' := []) [] (by decide) rfl
  have hKc := hK.sub (tys' := []) [] rfl
  have hFc := freeNil hS hA
  refine va_calli (va_runS (As := [.int a1, .int 0, .int 9]) (rest := [.ref h0]) ⟨hx, hb, hml, hown, ht⟩ (k_X12_isIn l d0 cO dC dI H.size a1 0 9) (my_S ht M_X12_isIn q1984 q1983 (Nat.le_of_ble_eq_true rfl) (Nat.le_of_ble_eq_true rfl)) ⟨PREp.fb, fun U hU hW => ⟨rfl, PREp.mk' hE hS hFc hPc hKc U hU hW⟩⟩ rfl rfl hl.1 rfl (lv_room (Nat.le_of_ble_eq_true rfl)) dX12_waiting_5 ⟨(Nat.le_of_ble_eq_true rfl), (Nat.le_of_ble_eq_true rfl)⟩) hS (fun q _ h => hFc q h) hFc (fun r2 u1 t H1 locs htt hvm hw hB hz1 hk1 hS => ?_)
  try dsimp only at hw hB
  have hP1 := hB
  have hP := keepAll hP hk1
  generalize H1 = H at hP hS ⊢
  have hP : va_P (dC, dI) vwCl [(h0, .inr (13, fs)), (rw_, .inl (tW, 10, .inl ((fun _ => 0))))] H := hP
  have hD : va_D A [(h0, .inr (13, fs)), (rw_, .inl (tW, 10, .inl ((fun _ => 0))))] := hD
  have hK : va_K (dC, dI) vwCl [(tW, .int)] s := hK
  refine W.widen (k := 0) (n := 0) (Nat.le_of_ble_eq_true rfl) (Nat.le_of_ble_eq_true rfl) ?_
  by_cases hI3 : 0 ≤ a1 ∧ a1 ≤ 9
  · have hw := hw.1 hI3
    subst hw
    refine lv_if_eq (tgt := 15) hx hb dX12_waiting_8 (by decide) (fun c4 => False.elim (by revert c4; decide)) (fun c4 => ?_)
    refine lv_iconst (v := 0) hx hb dX12_waiting_11 (by decide) ?_
    refine lv_goto (tgt := 16) hx hb dX12_waiting_12 (by decide) ?_
    have hPc := hP.sub (ws' := [(h0, .inr (13, fs))]) [0] rfl
    have hDc := hD.sub (ws' := [(h0, .inr (13, fs))]) [0] (by decide) rfl
    have hKc := hK.sub (tys' := []) [] rfl
    have hFc := va_free (wc := [(h0, .inr (13, fs))]) hD hS hA [0] rfl
    refine va_calli (va_runV (As := [.int 0]) (rest := []) ⟨hx, hb, hml, hown, ht⟩ (k_X12_fails l d0 cO dC dI H.size h0 0 fs hlen) (my_V ht M_X12_fails q1992 q53 q1990 (Nat.le_of_ble_eq_true rfl) (Nat.le_of_ble_eq_true rfl)) ⟨PRE.fb, va_recv hK hP (ci := 13) (q0 := 0) rfl rfl, fun U hU hW => ⟨rfl, PRE.mk' hE hS hFc hPc hKc hDc U hU hW⟩⟩ rfl rfl hl.1 rfl (lv_room (Nat.le_of_ble_eq_true rfl)) dX12_waiting_16 ⟨(Nat.le_of_ble_eq_true rfl), (Nat.le_of_ble_eq_true rfl)⟩) hS (fun q _ h => hFc q h) hFc (fun r6 u5 t H1 locs htt hvm hw hB hz1 hk1 hS => ?_)
    try dsimp only at hw hB
    obtain ⟨hP1, hK1, hD1⟩ := hB
    rw [htt] at hP1
    have hK1 := va_K.moved hvm.symm hK1
    obtain ⟨hP, hD⟩ := va_join (wr := [(rw_, .inl (tW, 10, .inl ((fun _ => 0))))]) (w1 := [(h0, .inr (13, (fs.set 74 (.int 0))))]) hP hD [0] [1] rfl rfl (by decide) (by decide) hk1 hFc hP1 hD1
    have hK := (hK.sub (tys' := [(tW, .int)]) [0] rfl).app hK1
    generalize H1 = H at hP hS ⊢
    have hP : va_P (dC, dI) vwCl [(rw_, .inl (tW, 10, .inl ((fun _ => 0)))), (h0, .inr (13, (fs.set 74 (.int 0))))] H := hP
    have hD : va_D A [(rw_, .inl (tW, 10, .inl ((fun _ => 0)))), (h0, .inr (13, (fs.set 74 (.int 0))))] := hD
    have hK : va_K (dC, dI) vwCl [(tW, .int)] s := hK
    refine W.widen (k := 0) (n := 0) (Nat.le_of_ble_eq_true rfl) (Nat.le_of_ble_eq_true rfl) ?_
    have hw := hw.2 (by decide)
    subst hw
    refine lv_if_eq (tgt := 26) hx hb dX12_waiting_19 (by decide) (fun c7 => ?_) (fun c7 => False.elim (by revert c7; decide))
    refine lv_aload_n hx hb dX12_waiting_26 rfl (lv_at hl 0 rfl) ?_
    refine va_get (D := (dC, dI)) (ci := 13) (v := .ref rw_) (C := RX12) (T := TX12) (N := 75) hx hb ht inGX12 hown hK hP 1 rfl rfl 58 (by decide) (ht _ q1807) (fun _ h9 => h9) (by rw [List.getElem?_set_ne (by decide)]; exact hf_waits) dX12_waiting_27 ?_
    refine lv_iload_n hx hb dX12_waiting_30 rfl (lv_at hl 1 rfl) ?_
    refine va_iald hx hb hK hP 0 0 rfl rfl (vp_in_iff.mpr (by have := hI3; simp only [Int32.le_iff_toInt_le, Int32.lt_iff_toInt_lt, ← Int32.toInt_inj, li0, li1, li2, li3, li5, li6, li7, li9, li10, li32, li48, li57, li63, li97, li122, lim1] at this; omega)) dX12_waiting_31 ?_
    refine W.eq (g2 := F0 m 32 ls [.int 0]) rfl ?_
    have hP9 := hP.sub (ws' := [(h0, .inr (13, (fs.set 74 (.int 0))))]) [1] rfl
    have hD9 := hD.sub (ws' := [(h0, .inr (13, (fs.set 74 (.int 0))))]) [1] (by decide) rfl
    have hK9 := hK.sub (tys' := []) [] rfl
    refine W.widen (k := 0) (n := 0) (Nat.le_of_ble_eq_true rfl) (Nat.le_of_ble_eq_true rfl) ?_
    exact W.iret (v := 0) hx hb hr (fun t ht9 hW9 => ⟨⟨0, 0, rfl, (by refine ⟨fun h => ?_, fun h => ?_⟩ <;> first | exact ⟨rfl, rfl⟩ | rfl | (exfalso; simp only [Int32.le_iff_toInt_le, Int32.lt_iff_toInt_lt, ← Int32.toInt_inj, li0, li1, li2, li3, li5, li6, li7, li9, li10, li32, li48, li57, li63, li97, li122, lim1] at h hI3; omega)), ⟨(fs.set 74 (.int 0)), (by rw [List.getElem?_set_self (by rw [hlen]; decide)]), POW.mk' ht9 hW9.alike hP9 hK9 hD9⟩⟩, hS.F ht9⟩) hS.2.2 dX12_waiting_32
  · have hw := hw.2 hI3
    subst hw
    refine lv_if_eq (tgt := 15) hx hb dX12_waiting_8 (by decide) (fun c8 => ?_) (fun c8 => False.elim (by revert c8; decide))
    refine lv_iconst (v := 1) hx hb dX12_waiting_15 (by decide) ?_
    have hPc := hP.sub (ws' := [(h0, .inr (13, fs))]) [0] rfl
    have hDc := hD.sub (ws' := [(h0, .inr (13, fs))]) [0] (by decide) rfl
    have hKc := hK.sub (tys' := []) [] rfl
    have hFc := va_free (wc := [(h0, .inr (13, fs))]) hD hS hA [0] rfl
    refine va_calli (va_runV (As := [.int 1]) (rest := []) ⟨hx, hb, hml, hown, ht⟩ (k_X12_fails l d0 cO dC dI H.size h0 1 fs hlen) (my_V ht M_X12_fails q1992 q53 q1990 (Nat.le_of_ble_eq_true rfl) (Nat.le_of_ble_eq_true rfl)) ⟨PRE.fb, va_recv hK hP (ci := 13) (q0 := 0) rfl rfl, fun U hU hW => ⟨rfl, PRE.mk' hE hS hFc hPc hKc hDc U hU hW⟩⟩ rfl rfl hl.1 rfl (lv_room (Nat.le_of_ble_eq_true rfl)) dX12_waiting_16 ⟨(Nat.le_of_ble_eq_true rfl), (Nat.le_of_ble_eq_true rfl)⟩) hS (fun q _ h => hFc q h) hFc (fun r10 u9 t H1 locs htt hvm hw hB hz1 hk1 hS => ?_)
    try dsimp only at hw hB
    obtain ⟨hP1, hK1, hD1⟩ := hB
    rw [htt] at hP1
    have hK1 := va_K.moved hvm.symm hK1
    obtain ⟨hP, hD⟩ := va_join (wr := [(rw_, .inl (tW, 10, .inl ((fun _ => 0))))]) (w1 := [(h0, .inr (13, (fs.set 74 (.int 1))))]) hP hD [0] [1] rfl rfl (by decide) (by decide) hk1 hFc hP1 hD1
    have hK := (hK.sub (tys' := [(tW, .int)]) [0] rfl).app hK1
    generalize H1 = H at hP hS ⊢
    have hP : va_P (dC, dI) vwCl [(rw_, .inl (tW, 10, .inl ((fun _ => 0)))), (h0, .inr (13, (fs.set 74 (.int 1))))] H := hP
    have hD : va_D A [(rw_, .inl (tW, 10, .inl ((fun _ => 0)))), (h0, .inr (13, (fs.set 74 (.int 1))))] := hD
    have hK : va_K (dC, dI) vwCl [(tW, .int)] s := hK
    refine W.widen (k := 0) (n := 0) (Nat.le_of_ble_eq_true rfl) (Nat.le_of_ble_eq_true rfl) ?_
    have hw := hw.1 (by decide)
    subst hw
    refine lv_if_eq (tgt := 26) hx hb dX12_waiting_19 (by decide) (fun c11 => False.elim (by revert c11; decide)) (fun c11 => ?_)
    refine lv_iconst (v := 0) hx hb dX12_waiting_22 (by decide) ?_
    refine lv_goto (tgt := 32) hx hb dX12_waiting_23 (by decide) ?_
    have hP9 := hP.sub (ws' := [(h0, .inr (13, (fs.set 74 (.int 1))))]) [1] rfl
    have hD9 := hD.sub (ws' := [(h0, .inr (13, (fs.set 74 (.int 1))))]) [1] (by decide) rfl
    have hK9 := hK.sub (tys' := []) [] rfl
    refine W.widen (k := 0) (n := 0) (Nat.le_of_ble_eq_true rfl) (Nat.le_of_ble_eq_true rfl) ?_
    exact W.iret (v := 0) hx hb hr (fun t ht9 hW9 => ⟨⟨0, 1, rfl, (by refine ⟨fun h => ?_, fun h => ?_⟩ <;> first | exact ⟨rfl, rfl⟩ | rfl | (exfalso; simp only [Int32.le_iff_toInt_le, Int32.lt_iff_toInt_lt, ← Int32.toInt_inj, li0, li1, li2, li3, li5, li6, li7, li9, li10, li32, li48, li57, li63, li97, li122, lim1] at h hI3; omega)), ⟨(fs.set 74 (.int 1)), (by rw [List.getElem?_set_self (by rw [hlen]; decide)]), POW.mk' ht9 hW9.alike hP9 hK9 hD9⟩⟩, hS.F ht9⟩) hS.2.2 dX12_waiting_32
