theorem dX12_thrown_0 : decode cX12_thrown 0 = .ok (.aload_n 0, 1) := by decide +kernel
theorem inGX12 : ∀ w ∈ u_ws RX12 TX12 75, w ∈ GT := gts [1824, 1826, 1828, 1830, 1832, 1834, 1836, 1838, 1840, 1842, 1844, 1846, 1848, 1850, 1852, 1854, 1856, 1858, 1860, 1862, 1864, 1866, 1868, 1870, 1872, 1874, 1876, 1878, 1880, 1882, 1884, 1886, 1888, 1890, 1892, 1894, 1896, 1898, 1900, 1902, 1904, 1906, 1908, 1910, 1912, 1914, 1916, 1918, 1920, 1922, 1924, 1926, 1928, 1930, 1932, 1934, 1936, 1938, 1940, 1942, 1944, 1946, 1948, 1950, 1952, 1954, 1956, 1958, 1960, 1962, 1964, 1966, 1968, 1970, 1972] (by decide +kernel) (by decide +kernel)
theorem q1823 : Cond.fieldLink RX12 208 "ToolPlexModel" "thrown" "I" ∈ GT := gt 1823 (by decide +kernel) (by decide +kernel)
theorem dX12_thrown_1 : decode cX12_thrown 1 = .ok (.getfield 208, 3) := by decide +kernel
theorem dX12_thrown_4 : decode cX12_thrown 4 = .ok (.ireturn, 1) := by decide +kernel
theorem dX12_isIn_0 : decode cX12_isIn 0 = .ok (.iload_n 0, 1) := by decide +kernel
theorem dX12_isIn_1 : decode cX12_isIn 1 = .ok (.iload_n 1, 1) := by decide +kernel
theorem dX12_isIn_2 : decode cX12_isIn 2 = .ok (.if_icmp .lt 12, 3) := by decide +kernel
theorem dX12_isIn_14 : decode cX12_isIn 14 = .ok (.iconst 0, 1) := by decide +kernel
theorem dX12_isIn_15 : decode cX12_isIn 15 = .ok (.ireturn, 1) := by decide +kernel
theorem dX12_isIn_5 : decode cX12_isIn 5 = .ok (.iload_n 0, 1) := by decide +kernel
theorem dX12_isIn_6 : decode cX12_isIn 6 = .ok (.iload_n 2, 1) := by decide +kernel
theorem dX12_isIn_7 : decode cX12_isIn 7 = .ok (.if_icmp .gt 7, 3) := by decide +kernel
theorem dX12_isIn_10 : decode cX12_isIn 10 = .ok (.iconst 1, 1) := by decide +kernel
theorem dX12_isIn_11 : decode cX12_isIn 11 = .ok (.goto 4, 3) := by decide +kernel
theorem dX12_fails_0 : decode cX12_fails 0 = .ok (.aload_n 0, 1) := by decide +kernel
theorem dX12_fails_1 : decode cX12_fails 1 = .ok (.iload_n 1, 1) := by decide +kernel
theorem dX12_fails_2 : decode cX12_fails 2 = .ok (.putfield 208, 3) := by decide +kernel
theorem dX12_fails_5 : decode cX12_fails 5 = .ok (.iload_n 1, 1) := by decide +kernel
theorem dX12_fails_6 : decode cX12_fails 6 = .ok (.ifCond .le 7, 3) := by decide +kernel
theorem dX12_fails_13 : decode cX12_fails 13 = .ok (.iconst 0, 1) := by decide +kernel
theorem dX12_fails_14 : decode cX12_fails 14 = .ok (.ireturn, 1) := by decide +kernel
theorem dX12_fails_9 : decode cX12_fails 9 = .ok (.iconst 1, 1) := by decide +kernel
theorem dX12_fails_10 : decode cX12_fails 10 = .ok (.goto 4, 3) := by decide +kernel
theorem dX12_isFile_0 : decode cX12_isFile 0 = .ok (.iload_n 1, 1) := by decide +kernel
theorem dX12_isFile_1 : decode cX12_isFile 1 = .ok (.iconst 0, 1) := by decide +kernel
theorem dX12_isFile_2 : decode cX12_isFile 2 = .ok (.aload_n 0, 1) := by decide +kernel
theorem q1751 : Cond.fieldLink RX12 212 "ToolPlexModel" "files" "I" ∈ GT := gt 1751 (by decide +kernel) (by decide +kernel)
theorem dX12_isFile_3 : decode cX12_isFile 3 = .ok (.getfield 212, 3) := by decide +kernel
theorem dX12_isFile_6 : decode cX12_isFile 6 = .ok (.iconst 1, 1) := by decide +kernel
theorem dX12_isFile_7 : decode cX12_isFile 7 = .ok (.isub, 1) := by decide +kernel
theorem dX12_isFile_8 : decode cX12_isFile 8 = .ok (.invokestatic 215, 3) := by decide +kernel
set_option maxRecDepth 100000 in
theorem q1985 : Cond.code yX12_isIn cX12_isIn 3 (some FieldType.boolean) ∈ GT := gt 1985 (rfl) (by decide +kernel)
theorem q135 : Cond.initialized RX12 ∈ GT := gt 135 (by decide +kernel) (by decide +kernel)
theorem M_X12_isIn : MY yX12_isIn cX12_isIn 3 (some FieldType.boolean) 3 := ⟨q1985, q135, by decide +kernel, by decide +kernel⟩
theorem q1983 : Cond.methodLink RX12 215 yX12_isIn ∈ GT := gt 1983 (by decide +kernel) (by decide +kernel)
theorem q1984 : Cond.static yX12_isIn ∈ GT := gt 1984 (by decide +kernel) (by decide +kernel)
theorem dX12_isFile_11 : decode cX12_isFile 11 = .ok (.ireturn, 1) := by decide +kernel
theorem dX12_isServer_0 : decode cX12_isServer 0 = .ok (.iload_n 1, 1) := by decide +kernel
theorem dX12_isServer_1 : decode cX12_isServer 1 = .ok (.iconst 0, 1) := by decide +kernel
theorem dX12_isServer_2 : decode cX12_isServer 2 = .ok (.aload_n 0, 1) := by decide +kernel
theorem q1764 : Cond.fieldLink RX12 219 "ToolPlexModel" "servers" "I" ∈ GT := gt 1764 (by decide +kernel) (by decide +kernel)
theorem dX12_isServer_3 : decode cX12_isServer 3 = .ok (.getfield 219, 3) := by decide +kernel
theorem dX12_isServer_6 : decode cX12_isServer 6 = .ok (.iconst 1, 1) := by decide +kernel
theorem dX12_isServer_7 : decode cX12_isServer 7 = .ok (.isub, 1) := by decide +kernel
theorem dX12_isServer_8 : decode cX12_isServer 8 = .ok (.invokestatic 215, 3) := by decide +kernel
theorem dX12_isServer_11 : decode cX12_isServer 11 = .ok (.ireturn, 1) := by decide +kernel
theorem dX12_isEditor_0 : decode cX12_isEditor 0 = .ok (.iload_n 0, 1) := by decide +kernel
theorem dX12_isEditor_1 : decode cX12_isEditor 1 = .ok (.iconst 0, 1) := by decide +kernel
theorem dX12_isEditor_2 : decode cX12_isEditor 2 = .ok (.iconst 1, 1) := by decide +kernel
theorem dX12_isEditor_3 : decode cX12_isEditor 3 = .ok (.invokestatic 215, 3) := by decide +kernel
theorem dX12_isEditor_6 : decode cX12_isEditor 6 = .ok (.ireturn, 1) := by decide +kernel
theorem dX12_isNumber_0 : decode cX12_isNumber 0 = .ok (.iload_n 0, 1) := by decide +kernel
theorem dX12_isNumber_1 : decode cX12_isNumber 1 = .ok (.iconst 0, 1) := by decide +kernel
theorem dX12_isNumber_2 : decode cX12_isNumber 2 = .ok (.sipush 1000, 3) := by decide +kernel
theorem dX12_isNumber_5 : decode cX12_isNumber 5 = .ok (.invokestatic 215, 3) := by decide +kernel
theorem dX12_isNumber_8 : decode cX12_isNumber 8 = .ok (.ireturn, 1) := by decide +kernel
theorem dX12_isCode_0 : decode cX12_isCode 0 = .ok (.iload_n 0, 1) := by decide +kernel
theorem dX12_isCode_1 : decode cX12_isCode 1 = .ok (.bipush 97, 2) := by decide +kernel
theorem dX12_isCode_3 : decode cX12_isCode 3 = .ok (.bipush 122, 2) := by decide +kernel
theorem dX12_isCode_5 : decode cX12_isCode 5 = .ok (.invokestatic 215, 3) := by decide +kernel
theorem dX12_isCode_8 : decode cX12_isCode 8 = .ok (.ifCond .ne 37, 3) := by decide +kernel
theorem dX12_isCode_45 : decode cX12_isCode 45 = .ok (.iconst 1, 1) := by decide +kernel
theorem dX12_isCode_46 : decode cX12_isCode 46 = .ok (.goto 4, 3) := by decide +kernel
theorem dX12_isCode_50 : decode cX12_isCode 50 = .ok (.ireturn, 1) := by decide +kernel
theorem dX12_isCode_11 : decode cX12_isCode 11 = .ok (.iload_n 0, 1) := by decide +kernel
theorem dX12_isCode_12 : decode cX12_isCode 12 = .ok (.bipush 48, 2) := by decide +kernel
theorem dX12_isCode_14 : decode cX12_isCode 14 = .ok (.bipush 57, 2) := by decide +kernel
theorem dX12_isCode_16 : decode cX12_isCode 16 = .ok (.invokestatic 215, 3) := by decide +kernel
theorem dX12_isCode_19 : decode cX12_isCode 19 = .ok (.ifCond .ne 26, 3) := by decide +kernel
theorem dX12_isCode_22 : decode cX12_isCode 22 = .ok (.iload_n 0, 1) := by decide +kernel
theorem dX12_isCode_23 : decode cX12_isCode 23 = .ok (.bipush 32, 2) := by decide +kernel
theorem dX12_isCode_25 : decode cX12_isCode 25 = .ok (.if_icmp .eq 20, 3) := by decide +kernel
theorem dX12_isCode_28 : decode cX12_isCode 28 = .ok (.iload_n 0, 1) := by decide +kernel
theorem dX12_isCode_29 : decode cX12_isCode 29 = .ok (.bipush 10, 2) := by decide +kernel
theorem dX12_isCode_31 : decode cX12_isCode 31 = .ok (.if_icmp .eq 14, 3) := by decide +kernel
theorem dX12_isCode_34 : decode cX12_isCode 34 = .ok (.iload_n 0, 1) := by decide +kernel
theorem q2009 : Cond.constant RX12 233 (128512) ∈ GT := gt 2009 (by decide +kernel) (by decide +kernel)
theorem dX12_isCode_35 : decode cX12_isCode 35 = .ok (.ldc 233, 2) := by decide +kernel
theorem q2010 : Cond.constant RX12 234 (128591) ∈ GT := gt 2010 (by decide +kernel) (by decide +kernel)
theorem dX12_isCode_37 : decode cX12_isCode 37 = .ok (.ldc 234, 2) := by decide +kernel
theorem dX12_isCode_39 : decode cX12_isCode 39 = .ok (.invokestatic 215, 3) := by decide +kernel
theorem dX12_isCode_42 : decode cX12_isCode 42 = .ok (.ifCond .eq 7, 3) := by decide +kernel
theorem dX12_isCode_49 : decode cX12_isCode 49 = .ok (.iconst 0, 1) := by decide +kernel
theorem dX12_isRequest_0 : decode cX12_isRequest 0 = .ok (.iload_n 1, 1) := by decide +kernel
theorem dX12_isRequest_1 : decode cX12_isRequest 1 = .ok (.invokestatic 222, 3) := by decide +kernel
set_option maxRecDepth 100000 in
theorem q2040 : Cond.code yX12_isEditor cX12_isEditor 1 (some FieldType.boolean) ∈ GT := gt 2040 (rfl) (by decide +kernel)
theorem M_X12_isEditor : MY yX12_isEditor cX12_isEditor 1 (some FieldType.boolean) 1 := ⟨q2040, q135, by decide +kernel, by decide +kernel⟩
theorem q2038 : Cond.methodLink RX12 222 yX12_isEditor ∈ GT := gt 2038 (by decide +kernel) (by decide +kernel)
theorem q2039 : Cond.static yX12_isEditor ∈ GT := gt 2039 (by decide +kernel) (by decide +kernel)
theorem dX12_isRequest_4 : decode cX12_isRequest 4 = .ok (.ifCond .eq 23, 3) := by decide +kernel
theorem dX12_isRequest_7 : decode cX12_isRequest 7 = .ok (.iload_n 2, 1) := by decide +kernel
theorem dX12_isRequest_8 : decode cX12_isRequest 8 = .ok (.iconst 0, 1) := by decide +kernel
theorem dX12_isRequest_9 : decode cX12_isRequest 9 = .ok (.aload_n 0, 1) := by decide +kernel
theorem q1776 : Cond.fieldLink RX12 87 "ToolPlexModel" "asked" "[I" ∈ GT := gt 1776 (by decide +kernel) (by decide +kernel)
theorem dX12_isRequest_10 : decode cX12_isRequest 10 = .ok (.getfield 87, 3) := by decide +kernel
theorem dX12_isRequest_13 : decode cX12_isRequest 13 = .ok (.iload_n 1, 1) := by decide +kernel
theorem dX12_isRequest_14 : decode cX12_isRequest 14 = .ok (.iaload, 1) := by decide +kernel
theorem dX12_isRequest_15 : decode cX12_isRequest 15 = .ok (.iconst 1, 1) := by decide +kernel
theorem dX12_isRequest_16 : decode cX12_isRequest 16 = .ok (.isub, 1) := by decide +kernel
theorem dX12_isRequest_17 : decode cX12_isRequest 17 = .ok (.invokestatic 215, 3) := by decide +kernel
theorem dX12_isRequest_20 : decode cX12_isRequest 20 = .ok (.ifCond .eq 7, 3) := by decide +kernel
theorem dX12_isRequest_27 : decode cX12_isRequest 27 = .ok (.iconst 0, 1) := by decide +kernel
theorem dX12_isRequest_28 : decode cX12_isRequest 28 = .ok (.ireturn, 1) := by decide +kernel
theorem dX12_isItem_0 : decode cX12_isItem 0 = .ok (.aload_n 0, 1) := by decide +kernel
theorem dX12_isItem_1 : decode cX12_isItem 1 = .ok (.iload_n 1, 1) := by decide +kernel
theorem dX12_isItem_2 : decode cX12_isItem 2 = .ok (.iload_n 2, 1) := by decide +kernel
theorem dX12_isItem_3 : decode cX12_isItem 3 = .ok (.invokevirtual 335, 3) := by decide +kernel
set_option maxRecDepth 100000 in
theorem q2118 : Cond.code yX12_isRequest cX12_isRequest 3 (some FieldType.boolean) ∈ GT := gt 2118 (rfl) (by decide +kernel)
theorem M_X12_isRequest : MY yX12_isRequest cX12_isRequest 3 (some FieldType.boolean) 2 := ⟨q2118, q135, by decide +kernel, by decide +kernel⟩
theorem q2115 : Cond.methodLink RX12 335 yX12_isRequest ∈ GT := gt 2115 (by decide +kernel) (by decide +kernel)
theorem q2117 : Cond.instanceMethod yX12_isRequest ∈ GT := gt 2117 (by decide +kernel) (by decide +kernel)
theorem q70 : Cond.selects RX12 yX12_isRequest yX12_isRequest ∈ GT := gt 70 (by decide +kernel) (by decide +kernel)
theorem dX12_isItem_6 : decode cX12_isItem 6 = .ok (.ifCond .eq 21, 3) := by decide +kernel
theorem dX12_isItem_27 : decode cX12_isItem 27 = .ok (.iconst 0, 1) := by decide +kernel
theorem dX12_isItem_28 : decode cX12_isItem 28 = .ok (.istore 4, 2) := by decide +kernel
theorem dX12_isItem_30 : decode cX12_isItem 30 = .ok (.iload 4, 2) := by decide +kernel
theorem dX12_isItem_32 : decode cX12_isItem 32 = .ok (.ifCond .eq 31, 3) := by decide +kernel
theorem dX12_isItem_63 : decode cX12_isItem 63 = .ok (.iconst 0, 1) := by decide +kernel
theorem dX12_isItem_64 : decode cX12_isItem 64 = .ok (.ireturn, 1) := by decide +kernel
theorem dX12_isCopy_0 : decode cX12_isCopy 0 = .ok (.iload_n 1, 1) := by decide +kernel
theorem dX12_isCopy_1 : decode cX12_isCopy 1 = .ok (.iconst 0, 1) := by decide +kernel
theorem dX12_isCopy_2 : decode cX12_isCopy 2 = .ok (.iconst 2, 1) := by decide +kernel
theorem dX12_isCopy_3 : decode cX12_isCopy 3 = .ok (.aload_n 0, 1) := by decide +kernel
theorem dX12_isCopy_4 : decode cX12_isCopy 4 = .ok (.getfield 219, 3) := by decide +kernel
theorem dX12_isCopy_7 : decode cX12_isCopy 7 = .ok (.iadd, 1) := by decide +kernel
theorem dX12_isCopy_8 : decode cX12_isCopy 8 = .ok (.invokestatic 215, 3) := by decide +kernel
theorem dX12_isCopy_11 : decode cX12_isCopy 11 = .ok (.ifCond .eq 15, 3) := by decide +kernel
theorem dX12_isCopy_14 : decode cX12_isCopy 14 = .ok (.aload_n 0, 1) := by decide +kernel
theorem dX12_isCopy_15 : decode cX12_isCopy 15 = .ok (.iload_n 2, 1) := by decide +kernel
theorem dX12_isCopy_16 : decode cX12_isCopy 16 = .ok (.invokevirtual 273, 3) := by decide +kernel
set_option maxRecDepth 100000 in
theorem q2005 : Cond.code yX12_isFile cX12_isFile 2 (some FieldType.boolean) ∈ GT := gt 2005 (rfl) (by decide +kernel)
theorem M_X12_isFile : MY yX12_isFile cX12_isFile 2 (some FieldType.boolean) 1 := ⟨q2005, q135, by decide +kernel, by decide +kernel⟩
theorem q2002 : Cond.methodLink RX12 273 yX12_isFile ∈ GT := gt 2002 (by decide +kernel) (by decide +kernel)
theorem q2004 : Cond.instanceMethod yX12_isFile ∈ GT := gt 2004 (by decide +kernel) (by decide +kernel)
theorem q55 : Cond.selects RX12 yX12_isFile yX12_isFile ∈ GT := gt 55 (by decide +kernel) (by decide +kernel)
theorem dX12_isCopy_19 : decode cX12_isCopy 19 = .ok (.ifCond .eq 7, 3) := by decide +kernel
theorem dX12_isCopy_26 : decode cX12_isCopy 26 = .ok (.iconst 0, 1) := by decide +kernel
theorem dX12_isCopy_27 : decode cX12_isCopy 27 = .ok (.ireturn, 1) := by decide +kernel
set_option maxHeartbeats 4000000 in
set_option maxRecDepth 100000 in
theorem k_X12_thrown (l : Launch) (d0 : Nat) (cO : ClassId) (dC : Nat → ClassId) (dI : Nat → Nat → Nat) (sz : Nat) (h0 : Nat) (th : Int32) (fs : List Value) (hlen : fs.length = 75) (hf_thrown : fs[74]? = some (.int th)) : Met l yX12_thrown (cn yX12_thrown cX12_thrown 1 (some FieldType.int)) (rmd 0 0 0) (va_Pc [.ref h0] (PREp d0 cO (dC, dI) (va_A [] sz) [(h0, .inr (13, fs))] [] sz)) (va_Qi (fun (r : Int32) (_ : Unit) => r = th) (fun (_ : Unit) (t : State) => va_P (dC, dI) vwCl [] t.heap) (va_A [] sz)) 0 0 (va_A [] sz) := by
  refine Met.ofW (cc := cX12_thrown) (maxL := 1) (ret := (some FieldType.int)) (by decide) rfl ?_
  intro p e s m args below meth c s₁ B hml hv
  obtain ⟨rfl, hsz, hE, hP, hK⟩ := hv
  have hx := B.exec
  have hb := B.bytes
  have hr := B.returns
  have hts := atoms_spec (ws := cn yX12_thrown cX12_thrown 1 (some FieldType.int)) B.pre
  have ht : ∀ w ∈ GT, w.before _ s = true := fun w h => hts w (List.mem_cons_of_mem _ h)
  have hown : s.vm.findClass RX12 = some m.cls := findClass_of_methodNamed B.named
  have hlocks := B.notSynchronized
  subst hsz
  generalize hAe : va_A [] s.heap.size = A at hE ⊢
  have hA : ∀ q : Nat, s.heap.size ≤ q → A q := fun q h => by rw [← hAe]; exact Or.inr h
  obtain ⟨H, hH0⟩ : ∃ H, s.heap = H := ⟨_, rfl⟩
  have hS : va_S A s.heap H [] := by rw [← hH0]; exact va_S.rf
  rw [hH0] at hP
  have hl := lv_entry ([.ref h0]) (n := 1) (Nat.le_of_ble_eq_true rfl)
  rw [lg_entry_eq]
  generalize (lg_sl ([.ref h0]) ++ List.replicate (1 - (lg_sl ([.ref h0])).length) Slot.unset).toArray = ls at hl ⊢
  have hl : lv_has ls 1 [(0, .ref h0)] := hl
  rw [hH0]
  refine lv_aload_n hx hb dX12_thrown_0 rfl (lv_at hl 0 rfl) ?_
  refine va_get (D := (dC, dI)) (ci := 13) (v := .int th) (C := RX12) (T := TX12) (N := 75) hx hb ht inGX12 hown hK hP 0 rfl rfl 74 (by decide) (ht _ q1823) (fun _ h9 => h9) hf_thrown dX12_thrown_1 ?_
  have hP9 := hP.sub (ws' := []) [] rfl
  have hK9 := hK.sub (tys' := []) [] rfl
  refine W.widen (k := 0) (n := 0) (Nat.le_of_ble_eq_true rfl) (Nat.le_of_ble_eq_true rfl) ?_
  exact W.iret (v := th) hx hb hr (fun t ht9 hW9 => ⟨⟨th, (), rfl, rfl, ppk ht9 hP9⟩, hS.F ht9⟩) hS.2.2 dX12_thrown_4
set_option maxHeartbeats 4000000 in
set_option maxRecDepth 100000 in
theorem k_X12_isIn (l : Launch) (d0 : Nat) (cO : ClassId) (dC : Nat → ClassId) (dI : Nat → Nat → Nat) (sz : Nat) (a0 a1 a2 : Int32) : Met l yX12_isIn (cn yX12_isIn cX12_isIn 3 (some FieldType.boolean)) (rmd 0 0 0) (va_Pc [.int a0, .int a1, .int a2] (PREp d0 cO (dC, dI) (va_A [] sz) [] [] sz)) (va_Qi (fun (r : Int32) (_ : Unit) => (a1 ≤ a0 ∧ a0 ≤ a2 → r = 1) ∧ (¬ (a1 ≤ a0 ∧ a0 ≤ a2) → r = 0)) (fun (_ : Unit) (t : State) => va_P (dC, dI) vwCl [] t.heap) (va_A [] sz)) 0 0 (va_A [] sz) := by
  refine Met.ofW (cc := cX12_isIn) (maxL := 3) (ret := (some FieldType.boolean)) (by decide) rfl ?_
  intro p e s m args below meth c s₁ B hml hv
  obtain ⟨rfl, hsz, hE, hP, hK⟩ := hv
  have hx := B.exec
  have hb := B.bytes
  have hr := B.returns
  have hts := atoms_spec (ws := cn yX12_isIn cX12_isIn 3 (some FieldType.boolean)) B.pre
  have ht : ∀ w ∈ GT, w.before _ s = true := fun w h => hts w (List.mem_cons_of_mem _ h)
  have hown : s.vm.findClass RX12 = some m.cls := findClass_of_methodNamed B.named
  have hlocks := B.notSynchronized
  subst hsz
  generalize hAe : va_A [] s.heap.size = A at hE ⊢
  have hA : ∀ q : Nat, s.heap.size ≤ q → A q := fun q h => by rw [← hAe]; exact Or.inr h
  obtain ⟨H, hH0⟩ : ∃ H, s.heap = H := ⟨_, rfl⟩
  have hS : va_S A s.heap H [] := by rw [← hH0]; exact va_S.rf
  rw [hH0] at hP
  have hl := lv_entry ([.int a0, .int a1, .int a2]) (n := 3) (Nat.le_of_ble_eq_true rfl)
  rw [lg_entry_eq]
  generalize (lg_sl ([.int a0, .int a1, .int a2]) ++ List.replicate (3 - (lg_sl ([.int a0, .int a1, .int a2])).length) Slot.unset).toArray = ls at hl ⊢
  have hl : lv_has ls 3 [(0, .int a0), (1, .int a1), (2, .int a2)] := hl
  rw [hH0]
  refine lv_iload_n hx hb dX12_isIn_0 rfl (lv_at hl 0 rfl) ?_
  refine lv_iload_n hx hb dX12_isIn_1 rfl (lv_at hl 1 rfl) ?_
  refine lv_icmp_lt (tgt := 14) hx hb dX12_isIn_2 (by decide) (fun c1 => ?_) (fun c1 => ?_)
  · skip
    refine lv_iconst (v := 0) hx hb dX12_isIn_14 (by decide) ?_
    have hP9 := hP.sub (ws' := []) [] rfl
    have hK9 := hK.sub (tys' := []) [] rfl
    refine W.widen (k := 0) (n := 0) (Nat.le_of_ble_eq_true rfl) (Nat.le_of_ble_eq_true rfl) ?_
    exact W.zret (v := 0) hx hb hr (by first | decide | rfl) (fun t ht9 hW9 => ⟨⟨0, (), rfl, (by refine ⟨fun h => ?_, fun h => ?_⟩ <;> first | rfl | exact ⟨rfl, rfl⟩ | (exfalso; simp only [Int32.le_iff_toInt_le, Int32.lt_iff_toInt_lt, ← Int32.toInt_inj, li0, li1, li2, li3, li5, li6, li7, li9, li10, li32, li48, li57, li63, li97, li122, lim1] at h c1; omega)), ppk ht9 hP9⟩, hS.F ht9⟩) hS.2.2 dX12_isIn_15
  · skip
    refine lv_iload_n hx hb dX12_isIn_5 rfl (lv_at hl 0 rfl) ?_
    refine lv_iload_n hx hb dX12_isIn_6 rfl (lv_at hl 2 rfl) ?_
    refine lv_icmp_gt (tgt := 14) hx hb dX12_isIn_7 (by decide) (fun c2 => ?_) (fun c2 => ?_)
    · skip
      refine lv_iconst (v := 0) hx hb dX12_isIn_14 (by decide) ?_
      have hP9 := hP.sub (ws' := []) [] rfl
      have hK9 := hK.sub (tys' := []) [] rfl
      refine W.widen (k := 0) (n := 0) (Nat.le_of_ble_eq_true rfl) (Nat.le_of_ble_eq_true rfl) ?_
      exact W.zret (v := 0) hx hb hr (by first | decide | rfl) (fun t ht9 hW9 => ⟨⟨0, (), rfl, (by refine ⟨fun h => ?_, fun h => ?_⟩ <;> first | rfl | exact ⟨rfl, rfl⟩ | (exfalso; simp only [Int32.le_iff_toInt_le, Int32.lt_iff_toInt_lt, ← Int32.toInt_inj, li0, li1, li2, li3, li5, li6, li7, li9, li10, li32, li48, li57, li63, li97, li122, lim1] at h c1 c2; omega)), ppk ht9 hP9⟩, hS.F ht9⟩) hS.2.2 dX12_isIn_15
    · skip
      refine lv_iconst (v := 1) hx hb dX12_isIn_10 (by decide) ?_
      refine lv_goto (tgt := 15) hx hb dX12_isIn_11 (by decide) ?_
      have hP9 := hP.sub (ws' := []) [] rfl
      have hK9 := hK.sub (tys' := []) [] rfl
      refine W.widen (k := 0) (n := 0) (Nat.le_of_ble_eq_true rfl) (Nat.le_of_ble_eq_true rfl) ?_
      exact W.zret (v := 1) hx hb hr (by first | decide | rfl) (fun t ht9 hW9 => ⟨⟨1, (), rfl, (by refine ⟨fun h => ?_, fun h => ?_⟩ <;> first | rfl | exact ⟨rfl, rfl⟩ | (exfalso; simp only [Int32.le_iff_toInt_le, Int32.lt_iff_toInt_lt, ← Int32.toInt_inj, li0, li1, li2, li3, li5, li6, li7, li9, li10, li32, li48, li57, li63, li97, li122, lim1] at h c1 c2; omega)), ppk ht9 hP9⟩, hS.F ht9⟩) hS.2.2 dX12_isIn_15
set_option maxHeartbeats 4000000 in
set_option maxRecDepth 100000 in
theorem k_X12_fails (l : Launch) (d0 : Nat) (cO : ClassId) (dC : Nat → ClassId) (dI : Nat → Nat → Nat) (sz : Nat) (h0 : Nat) (a1 : Int32) (fs : List Value) (hlen : fs.length = 75) : Met l yX12_fails (cn yX12_fails cX12_fails 2 (some FieldType.boolean)) (rmd 0 0 0) (va_Pc [.ref h0, .int a1] (PRE d0 cO (dC, dI) (va_A [(h0, .inr (13, fs))] sz) [(h0, .inr (13, fs))] [] sz)) (va_Qi (fun (r : Int32) (_ : Unit) => (0 < a1 → r = 1) ∧ (¬ 0 < a1 → r = 0)) (fun (_ : Unit) (t : State) => POW (dC, dI) (va_A [(h0, .inr (13, fs))] sz) [(h0, .inr (13, (fs.set 74 (.int a1))))] [] t) (va_A [(h0, .inr (13, fs))] sz)) 0 0 (va_A [(h0, .inr (13, fs))] sz) := by
  refine Met.ofW (cc := cX12_fails) (maxL := 2) (ret := (some FieldType.boolean)) (by decide) rfl ?_
  intro p e s m args below meth c s₁ B hml hv
  obtain ⟨rfl, hsz, hE, hP, hK, hD0⟩ := hv
  have hx := B.exec
  have hb := B.bytes
  have hr := B.returns
  have hts := atoms_spec (ws := cn yX12_fails cX12_fails 2 (some FieldType.boolean)) B.pre
  have ht : ∀ w ∈ GT, w.before _ s = true := fun w h => hts w (List.mem_cons_of_mem _ h)
  have hown : s.vm.findClass RX12 = some m.cls := findClass_of_methodNamed B.named
  have hlocks := B.notSynchronized
  subst hsz
  have hD := hD0.self (sz := s.heap.size)
  generalize hAe : va_A [(h0, .inr (13, fs))] s.heap.size = A at hD hE ⊢
  have hA : ∀ q : Nat, s.heap.size ≤ q → A q := fun q h => by rw [← hAe]; exact Or.inr h
  obtain ⟨H, hH0⟩ : ∃ H, s.heap = H := ⟨_, rfl⟩
  have hS : va_S A s.heap H [] := by rw [← hH0]; exact va_S.rf
  rw [hH0] at hP
  have hl := lv_entry ([.ref h0, .int a1]) (n := 2) (Nat.le_of_ble_eq_true rfl)
  rw [lg_entry_eq]
  generalize (lg_sl ([.ref h0, .int a1]) ++ List.replicate (2 - (lg_sl ([.ref h0, .int a1])).length) Slot.unset).toArray = ls at hl ⊢
  have hl : lv_has ls 2 [(0, .ref h0), (1, .int a1)] := hl
  rw [hH0]
  refine lv_aload_n hx hb dX12_fails_0 rfl (lv_at hl 0 rfl) ?_
  refine lv_iload_n hx hb dX12_fails_1 rfl (lv_at hl 1 rfl) ?_
  refine va_put (D := (dC, dI)) (ci := 13) (v := .int a1) (ty := .int) (C := RX12) (T := TX12) (N := 75) hx hb ht inGX12 tyX12 tyX12_ok nmX12 hown hK hP hD hS 0 rfl rfl 74 (by decide) (ht _ q1823) (fun _ h9 => h9) rfl (by decide +kernel) rfl rfl (by rw [hlen]; decide) dX12_fails_2 (fun H locs hP hD hS => ?_)
  have hP : va_P (dC, dI) vwCl [(h0, .inr (13, (fs.set 74 (.int a1))))] H := hP
  have hD : va_D A [(h0, .inr (13, (fs.set 74 (.int a1))))] := hD
  refine lv_iload_n hx hb dX12_fails_5 rfl (lv_at hl 1 rfl) ?_
  refine lv_if_le (tgt := 13) hx hb dX12_fails_6 (by decide) (fun c1 => ?_) (fun c1 => ?_)
  · skip
    refine lv_iconst (v := 0) hx hb dX12_fails_13 (by decide) ?_
    have hP9 := hP.sub (ws' := [(h0, .inr (13, (fs.set 74 (.int a1))))]) [0] rfl
    have hD9 := hD.sub (ws' := [(h0, .inr (13, (fs.set 74 (.int a1))))]) [0] (by decide) rfl
    have hK9 := hK.sub (tys' := []) [] rfl
    refine W.widen (k := 0) (n := 0) (Nat.le_of_ble_eq_true rfl) (Nat.le_of_ble_eq_true rfl) ?_
    exact W.zret (v := 0) hx hb hr (by first | decide | rfl) (fun t ht9 hW9 => ⟨⟨0, (), rfl, (by refine ⟨fun h => ?_, fun h => ?_⟩ <;> first | rfl | exact ⟨rfl, rfl⟩ | (exfalso; simp only [Int32.le_iff_toInt_le, Int32.lt_iff_toInt_lt, ← Int32.toInt_inj, li0, li1, li2, li3, li5, li6, li7, li9, li10, li32, li48, li57, li63, li97, li122, lim1] at h c1; omega)), POW.mk' ht9 hW9.alike hP9 hK9 hD9⟩, hS.F ht9⟩) hS.2.2 dX12_fails_14
  · skip
    refine lv_iconst (v := 1) hx hb dX12_fails_9 (by decide) ?_
    refine lv_goto (tgt := 14) hx hb dX12_fails_10 (by decide) ?_
    have hP9 := hP.sub (ws' := [(h0, .inr (13, (fs.set 74 (.int a1))))]) [0] rfl
    have hD9 := hD.sub (ws' := [(h0, .inr (13, (fs.set 74 (.int a1))))]) [0] (by decide) rfl
    have hK9 := hK.sub (tys' := []) [] rfl
    refine W.widen (k := 0) (n := 0) (Nat.le_of_ble_eq_true rfl) (Nat.le_of_ble_eq_true rfl) ?_
    exact W.zret (v := 1) hx hb hr (by first | decide | rfl) (fun t ht9 hW9 => ⟨⟨1, (), rfl, (by refine ⟨fun h => ?_, fun h => ?_⟩ <;> first | rfl | exact ⟨rfl, rfl⟩ | (exfalso; simp only [Int32.le_iff_toInt_le, Int32.lt_iff_toInt_lt, ← Int32.toInt_inj, li0, li1, li2, li3, li5, li6, li7, li9, li10, li32, li48, li57, li63, li97, li122, lim1] at h c1; omega)), POW.mk' ht9 hW9.alike hP9 hK9 hD9⟩, hS.F ht9⟩) hS.2.2 dX12_fails_14
set_option maxHeartbeats 4000000 in
set_option maxRecDepth 100000 in
theorem k_X12_isFile (l : Launch) (d0 : Nat) (cO : ClassId) (dC : Nat → ClassId) (dI : Nat → Nat → Nat) (sz : Nat) (h0 : Nat) (a1 : Int32) (fs : List Value) (hlen : fs.length = 75) (hf_files : fs[2]? = some (.int 0)) : Met l yX12_isFile (cn yX12_isFile cX12_isFile 2 (some FieldType.boolean)) (rmd 1 0 0) (va_Pc [.ref h0, .int a1] (PREp d0 cO (dC, dI) (va_A [] sz) [(h0, .inr (13, fs))] [] sz)) (va_Qi (fun (r : Int32) (_ : Unit) => r = 0) (fun (_ : Unit) (t : State) => va_P (dC, dI) vwCl [] t.heap) (va_A [] sz)) 0 0 (va_A [] sz) := by
  refine Met.ofW (cc := cX12_isFile) (maxL := 2) (ret := (some FieldType.boolean)) (by decide) rfl ?_
  intro p e s m args below meth c s₁ B hml hv
  obtain ⟨rfl, hsz, hE, hP, hK⟩ := hv
  have hx := B.exec
  have hb := B.bytes
  have hr := B.returns
  have hts := atoms_spec (ws := cn yX12_isFile cX12_isFile 2 (some FieldType.boolean)) B.pre
  have ht : ∀ w ∈ GT, w.before _ s = true := fun w h => hts w (List.mem_cons_of_mem _ h)
  have hown : s.vm.findClass RX12 = some m.cls := findClass_of_methodNamed B.named
  have hlocks := B.notSynchronized
  subst hsz
  generalize hAe : va_A [] s.heap.size = A at hE ⊢
  have hA : ∀ q : Nat, s.heap.size ≤ q → A q := fun q h => by rw [← hAe]; exact Or.inr h
  obtain ⟨H, hH0⟩ : ∃ H, s.heap = H := ⟨_, rfl⟩
  have hS : va_S A s.heap H [] := by rw [← hH0]; exact va_S.rf
  rw [hH0] at hP
  have hl := lv_entry ([.ref h0, .int a1]) (n := 2) (Nat.le_of_ble_eq_true rfl)
  rw [lg_entry_eq]
  generalize (lg_sl ([.ref h0, .int a1]) ++ List.replicate (2 - (lg_sl ([.ref h0, .int a1])).length) Slot.unset).toArray = ls at hl ⊢
  have hl : lv_has ls 2 [(0, .ref h0), (1, .int a1)] := hl
  rw [hH0]
  refine lv_iload_n hx hb dX12_isFile_0 rfl (lv_at hl 1 rfl) ?_
  refine lv_iconst (v := 0) hx hb dX12_isFile_1 (by decide) ?_
  refine lv_aload_n hx hb dX12_isFile_2 rfl (lv_at hl 0 rfl) ?_
  refine va_get (D := (dC, dI)) (ci := 13) (v := .int 0) (C := RX12) (T := TX12) (N := 75) hx hb ht inGX12 hown hK hP 0 rfl rfl 2 (by decide) (ht _ q1751) (fun _ h9 => h9) hf_files dX12_isFile_3 ?_
  refine lv_iconst (v := 1) hx hb dX12_isFile_6 (by decide) ?_
  refine lv_isub hx hb dX12_isFile_7 ?_
  refine lv_topi (fun x1 ex1 => ?_)
  obtain rfl : x1 = (-1) := ex1.trans (by decide)
  have hPc := hP.sub (ws' := []) [] rfl
  have hKc := hK.sub (tys' := []) [] rfl
  have hFc := freeNil hS hA
  refine va_calli (va_runS (As := [.int a1, .int 0, .int (-1)]) (rest := []) ⟨hx, hb, hml, hown, ht⟩ (k_X12_isIn l d0 cO dC dI H.size a1 0 (-1)) (my_S ht M_X12_isIn q1984 q1983 (Nat.le_of_ble_eq_true rfl) (Nat.le_of_ble_eq_true rfl)) ⟨PREp.fb, fun U hU hW => ⟨rfl, PREp.mk' hE hS hFc hPc hKc U hU hW⟩⟩ rfl rfl hl.1 rfl (lv_room (Nat.le_of_ble_eq_true rfl)) dX12_isFile_8 ⟨(Nat.le_of_ble_eq_true rfl), (Nat.le_of_ble_eq_true rfl)⟩) hS (fun q _ h => hFc q h) hFc (fun r3 u2 t H1 locs htt hvm hw hB hz1 hk1 hS => ?_)
  try dsimp only at hw hB
  have hP1 := hB
  rw [htt] at hP1
  have hP := keepAll hP hk1
  generalize H1 = H at hP hS ⊢
  have hP : va_P (dC, dI) vwCl [(h0, .inr (13, fs))] H := hP
  have hK : va_K (dC, dI) vwCl [] s := hK
  refine W.widen (k := 0) (n := 0) (Nat.le_of_ble_eq_true rfl) (Nat.le_of_ble_eq_true rfl) ?_
  have hw := hw.2 (no01 _)
  subst hw
  have hP9 := hP.sub (ws' := []) [] rfl
  have hK9 := hK.sub (tys' := []) [] rfl
  refine W.widen (k := 0) (n := 0) (Nat.le_of_ble_eq_true rfl) (Nat.le_of_ble_eq_true rfl) ?_
  exact W.zret (v := 0) hx hb hr (by first | decide | rfl) (fun t ht9 hW9 => ⟨⟨0, (), rfl, rfl, ppk ht9 hP9⟩, hS.F ht9⟩) hS.2.2 dX12_isFile_11
set_option maxHeartbeats 4000000 in
set_option maxRecDepth 100000 in
theorem k_X12_isServer (l : Launch) (d0 : Nat) (cO : ClassId) (dC : Nat → ClassId) (dI : Nat → Nat → Nat) (sz : Nat) (h0 : Nat) (a1 : Int32) (fs : List Value) (hlen : fs.length = 75) (hf_servers : fs[15]? = some (.int 0)) : Met l yX12_isServer (cn yX12_isServer cX12_isServer 2 (some FieldType.boolean)) (rmd 1 0 0) (va_Pc [.ref h0, .int a1] (PREp d0 cO (dC, dI) (va_A [] sz) [(h0, .inr (13, fs))] [] sz)) (va_Qi (fun (r : Int32) (_ : Unit) => r = 0) (fun (_ : Unit) (t : State) => va_P (dC, dI) vwCl [] t.heap) (va_A [] sz)) 0 0 (va_A [] sz) := by
  refine Met.ofW (cc := cX12_isServer) (maxL := 2) (ret := (some FieldType.boolean)) (by decide) rfl ?_
  intro p e s m args below meth c s₁ B hml hv
  obtain ⟨rfl, hsz, hE, hP, hK⟩ := hv
  have hx := B.exec
  have hb := B.bytes
  have hr := B.returns
  have hts := atoms_spec (ws := cn yX12_isServer cX12_isServer 2 (some FieldType.boolean)) B.pre
  have ht : ∀ w ∈ GT, w.before _ s = true := fun w h => hts w (List.mem_cons_of_mem _ h)
  have hown : s.vm.findClass RX12 = some m.cls := findClass_of_methodNamed B.named
  have hlocks := B.notSynchronized
  subst hsz
  generalize hAe : va_A [] s.heap.size = A at hE ⊢
  have hA : ∀ q : Nat, s.heap.size ≤ q → A q := fun q h => by rw [← hAe]; exact Or.inr h
  obtain ⟨H, hH0⟩ : ∃ H, s.heap = H := ⟨_, rfl⟩
  have hS : va_S A s.heap H [] := by rw [← hH0]; exact va_S.rf
  rw [hH0] at hP
  have hl := lv_entry ([.ref h0, .int a1]) (n := 2) (Nat.le_of_ble_eq_true rfl)
  rw [lg_entry_eq]
  generalize (lg_sl ([.ref h0, .int a1]) ++ List.replicate (2 - (lg_sl ([.ref h0, .int a1])).length) Slot.unset).toArray = ls at hl ⊢
  have hl : lv_has ls 2 [(0, .ref h0), (1, .int a1)] := hl
  rw [hH0]
  refine lv_iload_n hx hb dX12_isServer_0 rfl (lv_at hl 1 rfl) ?_
  refine lv_iconst (v := 0) hx hb dX12_isServer_1 (by decide) ?_
  refine lv_aload_n hx hb dX12_isServer_2 rfl (lv_at hl 0 rfl) ?_
  refine va_get (D := (dC, dI)) (ci := 13) (v := .int 0) (C := RX12) (T := TX12) (N := 75) hx hb ht inGX12 hown hK hP 0 rfl rfl 15 (by decide) (ht _ q1764) (fun _ h9 => h9) hf_servers dX12_isServer_3 ?_
  refine lv_iconst (v := 1) hx hb dX12_isServer_6 (by decide) ?_
  refine lv_isub hx hb dX12_isServer_7 ?_
  refine lv_topi (fun x1 ex1 => ?_)
  obtain rfl : x1 = (-1) := ex1.trans (by decide)
  have hPc := hP.sub (ws' := []) [] rfl
  have hKc := hK.sub (tys' := []) [] rfl
  have hFc := freeNil hS hA
  refine va_calli (va_runS (As := [.int a1, .int 0, .int (-1)]) (rest := []) ⟨hx, hb, hml, hown, ht⟩ (k_X12_isIn l d0 cO dC dI H.size a1 0 (-1)) (my_S ht M_X12_isIn q1984 q1983 (Nat.le_of_ble_eq_true rfl) (Nat.le_of_ble_eq_true rfl)) ⟨PREp.fb, fun U hU hW => ⟨rfl, PREp.mk' hE hS hFc hPc hKc U hU hW⟩⟩ rfl rfl hl.1 rfl (lv_room (Nat.le_of_ble_eq_true rfl)) dX12_isServer_8 ⟨(Nat.le_of_ble_eq_true rfl), (Nat.le_of_ble_eq_true rfl)⟩) hS (fun q _ h => hFc q h) hFc (fun r3 u2 t H1 locs htt hvm hw hB hz1 hk1 hS => ?_)
  try dsimp only at hw hB
  have hP1 := hB
  rw [htt] at hP1
  have hP := keepAll hP hk1
  generalize H1 = H at hP hS ⊢
  have hP : va_P (dC, dI) vwCl [(h0, .inr (13, fs))] H := hP
  have hK : va_K (dC, dI) vwCl [] s := hK
  refine W.widen (k := 0) (n := 0) (Nat.le_of_ble_eq_true rfl) (Nat.le_of_ble_eq_true rfl) ?_
  have hw := hw.2 (no01 _)
  subst hw
  have hP9 := hP.sub (ws' := []) [] rfl
  have hK9 := hK.sub (tys' := []) [] rfl
  refine W.widen (k := 0) (n := 0) (Nat.le_of_ble_eq_true rfl) (Nat.le_of_ble_eq_true rfl) ?_
  exact W.zret (v := 0) hx hb hr (by first | decide | rfl) (fun t ht9 hW9 => ⟨⟨0, (), rfl, rfl, ppk ht9 hP9⟩, hS.F ht9⟩) hS.2.2 dX12_isServer_11
set_option maxHeartbeats 4000000 in
set_option maxRecDepth 100000 in
theorem k_X12_isEditor (l : Launch) (d0 : Nat) (cO : ClassId) (dC : Nat → ClassId) (dI : Nat → Nat → Nat) (sz : Nat) (a1 : Int32) : Met l yX12_isEditor (cn yX12_isEditor cX12_isEditor 1 (some FieldType.boolean)) (rmd 1 0 0) (va_Pc [.int a1] (PREp d0 cO (dC, dI) (va_A [] sz) [] [] sz)) (va_Qi (fun (r : Int32) (_ : Unit) => (0 ≤ a1 ∧ a1 ≤ 1 → r = 1) ∧ (¬ (0 ≤ a1 ∧ a1 ≤ 1) → r = 0)) (fun (_ : Unit) (t : State) => va_P (dC, dI) vwCl [] t.heap) (va_A [] sz)) 0 0 (va_A [] sz) := by
  refine Met.ofW (cc := cX12_isEditor) (maxL := 1) (ret := (some FieldType.boolean)) (by decide) rfl ?_
  intro p e s m args below meth c s₁ B hml hv
  obtain ⟨rfl, hsz, hE, hP, hK⟩ := hv
  have hx := B.exec
  have hb := B.bytes
  have hr := B.returns
  have hts := atoms_spec (ws := cn yX12_isEditor cX12_isEditor 1 (some FieldType.boolean)) B.pre
  have ht : ∀ w ∈ GT, w.before _ s = true := fun w h => hts w (List.mem_cons_of_mem _ h)
  have hown : s.vm.findClass RX12 = some m.cls := findClass_of_methodNamed B.named
  have hlocks := B.notSynchronized
  subst hsz
  generalize hAe : va_A [] s.heap.size = A at hE ⊢
  have hA : ∀ q : Nat, s.heap.size ≤ q → A q := fun q h => by rw [← hAe]; exact Or.inr h
  obtain ⟨H, hH0⟩ : ∃ H, s.heap = H := ⟨_, rfl⟩
  have hS : va_S A s.heap H [] := by rw [← hH0]; exact va_S.rf
  rw [hH0] at hP
  have hl := lv_entry ([.int a1]) (n := 1) (Nat.le_of_ble_eq_true rfl)
  rw [lg_entry_eq]
  generalize (lg_sl ([.int a1]) ++ List.replicate (1 - (lg_sl ([.int a1])).length) Slot.unset).toArray = ls at hl ⊢
  have hl : lv_has ls 1 [(0, .int a1)] := hl
  rw [hH0]
  refine lv_iload_n hx hb dX12_isEditor_0 rfl (lv_at hl 0 rfl) ?_
  refine lv_iconst (v := 0) hx hb dX12_isEditor_1 (by decide) ?_
  refine lv_iconst (v := 1) hx hb dX12_isEditor_2 (by decide) ?_
  have hPc := hP.sub (ws' := []) [] rfl
  have hKc := hK.sub (tys' := []) [] rfl
  have hFc := freeNil hS hA
  refine va_calli (va_runS (As := [.int a1, .int 0, .int 1]) (rest := []) ⟨hx, hb, hml, hown, ht⟩ (k_X12_isIn l d0 cO dC dI H.size a1 0 1) (my_S ht M_X12_isIn q1984 q1983 (Nat.le_of_ble_eq_true rfl) (Nat.le_of_ble_eq_true rfl)) ⟨PREp.fb, fun U hU hW => ⟨rfl, PREp.mk' hE hS hFc hPc hKc U hU hW⟩⟩ rfl rfl hl.1 rfl (lv_room (Nat.le_of_ble_eq_true rfl)) dX12_isEditor_3 ⟨(Nat.le_of_ble_eq_true rfl), (Nat.le_of_ble_eq_true rfl)⟩) hS (fun q _ h => hFc q h) hFc (fun r2 u1 t H1 locs htt hvm hw hB hz1 hk1 hS => ?_)
  try dsimp only at hw hB
  have hP1 := hB
  rw [htt] at hP1
  have hP := keepAll hP hk1
  generalize H1 = H at hP hS ⊢
  have hP : va_P (dC, dI) vwCl [] H := hP
  have hK : va_K (dC, dI) vwCl [] s := hK
  refine W.widen (k := 0) (n := 0) (Nat.le_of_ble_eq_true rfl) (Nat.le_of_ble_eq_true rfl) ?_
  by_cases hI3 : 0 ≤ a1 ∧ a1 ≤ 1
  · have hw := hw.1 hI3
    subst hw
    have hP9 := hP.sub (ws' := []) [] rfl
    have hK9 := hK.sub (tys' := []) [] rfl
    refine W.widen (k := 0) (n := 0) (Nat.le_of_ble_eq_true rfl) (Nat.le_of_ble_eq_true rfl) ?_
    exact W.zret (v := 1) hx hb hr (by first | decide | rfl) (fun t ht9 hW9 => ⟨⟨1, (), rfl, (by refine ⟨fun h => ?_, fun h => ?_⟩ <;> first | rfl | exact ⟨rfl, rfl⟩ | (exfalso; simp only [Int32.le_iff_toInt_le, Int32.lt_iff_toInt_lt, ← Int32.toInt_inj, li0, li1, li2, li3, li5, li6, li7, li9, li10, li32, li48, li57, li63, li97, li122, lim1] at h hI3; omega)), ppk ht9 hP9⟩, hS.F ht9⟩) hS.2.2 dX12_isEditor_6
  · have hw := hw.2 hI3
    subst hw
    have hP9 := hP.sub (ws' := []) [] rfl
    have hK9 := hK.sub (tys' := []) [] rfl
    refine W.widen (k := 0) (n := 0) (Nat.le_of_ble_eq_true rfl) (Nat.le_of_ble_eq_true rfl) ?_
    exact W.zret (v := 0) hx hb hr (by first | decide | rfl) (fun t ht9 hW9 => ⟨⟨0, (), rfl, (by refine ⟨fun h => ?_, fun h => ?_⟩ <;> first | rfl | exact ⟨rfl, rfl⟩ | (exfalso; simp only [Int32.le_iff_toInt_le, Int32.lt_iff_toInt_lt, ← Int32.toInt_inj, li0, li1, li2, li3, li5, li6, li7, li9, li10, li32, li48, li57, li63, li97, li122, lim1] at h hI3; omega)), ppk ht9 hP9⟩, hS.F ht9⟩) hS.2.2 dX12_isEditor_6
set_option maxHeartbeats 4000000 in
set_option maxRecDepth 100000 in
theorem k_X12_isNumber (l : Launch) (d0 : Nat) (cO : ClassId) (dC : Nat → ClassId) (dI : Nat → Nat → Nat) (sz : Nat) (a1 : Int32) : Met l yX12_isNumber (cn yX12_isNumber cX12_isNumber 1 (some FieldType.boolean)) (rmd 1 0 0) (va_Pc [.int a1] (PREp d0 cO (dC, dI) (va_A [] sz) [] [] sz)) (va_Qi (fun (r : Int32) (_ : Unit) => r = 0 ∨ r = 1) (fun (_ : Unit) (t : State) => va_P (dC, dI) vwCl [] t.heap) (va_A [] sz)) 0 0 (va_A [] sz) := by
  refine Met.ofW (cc := cX12_isNumber) (maxL := 1) (ret := (some FieldType.boolean)) (by decide) rfl ?_
  intro p e s m args below meth c s₁ B hml hv
  obtain ⟨rfl, hsz, hE, hP, hK⟩ := hv
  have hx := B.exec
  have hb := B.bytes
  have hr := B.returns
  have hts := atoms_spec (ws := cn yX12_isNumber cX12_isNumber 1 (some FieldType.boolean)) B.pre
  have ht : ∀ w ∈ GT, w.before _ s = true := fun w h => hts w (List.mem_cons_of_mem _ h)
  have hown : s.vm.findClass RX12 = some m.cls := findClass_of_methodNamed B.named
  have hlocks := B.notSynchronized
  subst hsz
  generalize hAe : va_A [] s.heap.size = A at hE ⊢
  have hA : ∀ q : Nat, s.heap.size ≤ q → A q := fun q h => by rw [← hAe]; exact Or.inr h
  obtain ⟨H, hH0⟩ : ∃ H, s.heap = H := ⟨_, rfl⟩
  have hS : va_S A s.heap H [] := by rw [← hH0]; exact va_S.rf
  rw [hH0] at hP
  have hl := lv_entry ([.int a1]) (n := 1) (Nat.le_of_ble_eq_true rfl)
  rw [lg_entry_eq]
  generalize (lg_sl ([.int a1]) ++ List.replicate (1 - (lg_sl ([.int a1])).length) Slot.unset).toArray = ls at hl ⊢
  have hl : lv_has ls 1 [(0, .int a1)] := hl
  rw [hH0]
  refine lv_iload_n hx hb dX12_isNumber_0 rfl (lv_at hl 0 rfl) ?_
  refine lv_iconst (v := 0) hx hb dX12_isNumber_1 (by decide) ?_
  refine lv_sipush (v := 1000) hx hb dX12_isNumber_2 (by decide) ?_
  have hPc := hP.sub (ws' := []) [] rfl
  have hKc := hK.sub (tys' := []) [] rfl
  have hFc := freeNil hS hA
  refine va_calli (va_runS (As := [.int a1, .int 0, .int 1000]) (rest := []) ⟨hx, hb, hml, hown, ht⟩ (k_X12_isIn l d0 cO dC dI H.size a1 0 1000) (my_S ht M_X12_isIn q1984 q1983 (Nat.le_of_ble_eq_true rfl) (Nat.le_of_ble_eq_true rfl)) ⟨PREp.fb, fun U hU hW => ⟨rfl, PREp.mk' hE hS hFc hPc hKc U hU hW⟩⟩ rfl rfl hl.1 rfl (lv_room (Nat.le_of_ble_eq_true rfl)) dX12_isNumber_5 ⟨(Nat.le_of_ble_eq_true rfl), (Nat.le_of_ble_eq_true rfl)⟩) hS (fun q _ h => hFc q h) hFc (fun r2 u1 t H1 locs htt hvm hw hB hz1 hk1 hS => ?_)
  try dsimp only at hw hB
  have hP1 := hB
  rw [htt] at hP1
  have hP := keepAll hP hk1
  generalize H1 = H at hP hS ⊢
  have hP : va_P (dC, dI) vwCl [] H := hP
  have hK : va_K (dC, dI) vwCl [] s := hK
  refine W.widen (k := 0) (n := 0) (Nat.le_of_ble_eq_true rfl) (Nat.le_of_ble_eq_true rfl) ?_
  by_cases hI3 : 0 ≤ a1 ∧ a1 ≤ 1000
  · have hw := hw.1 hI3
    subst hw
    have hP9 := hP.sub (ws' := []) [] rfl
    have hK9 := hK.sub (tys' := []) [] rfl
    refine W.widen (k := 0) (n := 0) (Nat.le_of_ble_eq_true rfl) (Nat.le_of_ble_eq_true rfl) ?_
    exact W.zret (v := 1) hx hb hr (by first | decide | rfl) (fun t ht9 hW9 => ⟨⟨1, (), rfl, (Or.inr rfl), ppk ht9 hP9⟩, hS.F ht9⟩) hS.2.2 dX12_isNumber_8
  · have hw := hw.2 hI3
    subst hw
    have hP9 := hP.sub (ws' := []) [] rfl
    have hK9 := hK.sub (tys' := []) [] rfl
    refine W.widen (k := 0) (n := 0) (Nat.le_of_ble_eq_true rfl) (Nat.le_of_ble_eq_true rfl) ?_
    exact W.zret (v := 0) hx hb hr (by first | decide | rfl) (fun t ht9 hW9 => ⟨⟨0, (), rfl, (Or.inl rfl), ppk ht9 hP9⟩, hS.F ht9⟩) hS.2.2 dX12_isNumber_8
set_option maxHeartbeats 4000000 in
set_option maxRecDepth 100000 in
theorem k_X12_isCode (l : Launch) (d0 : Nat) (cO : ClassId) (dC : Nat → ClassId) (dI : Nat → Nat → Nat) (sz : Nat) (a1 : Int32) : Met l yX12_isCode (cn yX12_isCode cX12_isCode 1 (some FieldType.boolean)) (rmd 1 0 0) (va_Pc [.int a1] (PREp d0 cO (dC, dI) (va_A [] sz) [] [] sz)) (va_Qi (fun (r : Int32) (_ : Unit) => r = 0 ∨ r = 1) (fun (_ : Unit) (t : State) => va_P (dC, dI) vwCl [] t.heap) (va_A [] sz)) 0 0 (va_A [] sz) := by
  refine Met.ofW (cc := cX12_isCode) (maxL := 1) (ret := (some FieldType.boolean)) (by decide) rfl ?_
  intro p e s m args below meth c s₁ B hml hv
  obtain ⟨rfl, hsz, hE, hP, hK⟩ := hv
  have hx := B.exec
  have hb := B.bytes
  have hr := B.returns
  have hts := atoms_spec (ws := cn yX12_isCode cX12_isCode 1 (some FieldType.boolean)) B.pre
  have ht : ∀ w ∈ GT, w.before _ s = true := fun w h => hts w (List.mem_cons_of_mem _ h)
  have hown : s.vm.findClass RX12 = some m.cls := findClass_of_methodNamed B.named
  have hlocks := B.notSynchronized
  subst hsz
  generalize hAe : va_A [] s.heap.size = A at hE ⊢
  have hA : ∀ q : Nat, s.heap.size ≤ q → A q := fun q h => by rw [← hAe]; exact Or.inr h
  obtain ⟨H, hH0⟩ : ∃ H, s.heap = H := ⟨_, rfl⟩
  have hS : va_S A s.heap H [] := by rw [← hH0]; exact va_S.rf
  rw [hH0] at hP
  have hl := lv_entry ([.int a1]) (n := 1) (Nat.le_of_ble_eq_true rfl)
  rw [lg_entry_eq]
  generalize (lg_sl ([.int a1]) ++ List.replicate (1 - (lg_sl ([.int a1])).length) Slot.unset).toArray = ls at hl ⊢
  have hl : lv_has ls 1 [(0, .int a1)] := hl
  rw [hH0]
  refine lv_iload_n hx hb dX12_isCode_0 rfl (lv_at hl 0 rfl) ?_
  refine lv_bipush (v := 97) hx hb dX12_isCode_1 (by decide) ?_
  refine lv_bipush (v := 122) hx hb dX12_isCode_3 (by decide) ?_
  have hPc := hP.sub (ws' := []) [] rfl
  have hKc := hK.sub (tys' := []) [] rfl
  have hFc := freeNil hS hA
  refine va_calli (va_runS (As := [.int a1, .int 97, .int 122]) (rest := []) ⟨hx, hb, hml, hown, ht⟩ (k_X12_isIn l d0 cO dC dI H.size a1 97 122) (my_S ht M_X12_isIn q1984 q1983 (Nat.le_of_ble_eq_true rfl) (Nat.le_of_ble_eq_true rfl)) ⟨PREp.fb, fun U hU hW => ⟨rfl, PREp.mk' hE hS hFc hPc hKc U hU hW⟩⟩ rfl rfl hl.1 rfl (lv_room (Nat.le_of_ble_eq_true rfl)) dX12_isCode_5 ⟨(Nat.le_of_ble_eq_true rfl), (Nat.le_of_ble_eq_true rfl)⟩) hS (fun q _ h => hFc q h) hFc (fun r2 u1 t H1 locs htt hvm hw hB hz1 hk1 hS => ?_)
  try dsimp only at hw hB
  have hP1 := hB
  rw [htt] at hP1
  have hP := keepAll hP hk1
  generalize H1 = H at hP hS ⊢
  have hP : va_P (dC, dI) vwCl [] H := hP
  have hK : va_K (dC, dI) vwCl [] s := hK
  refine W.widen (k := 0) (n := 0) (Nat.le_of_ble_eq_true rfl) (Nat.le_of_ble_eq_true rfl) ?_
  by_cases hI3 : 97 ≤ a1 ∧ a1 ≤ 122
  · have hw := hw.1 hI3
    subst hw
    refine lv_if_ne (tgt := 45) hx hb dX12_isCode_8 (by decide) (fun c4 => ?_) (fun c4 => False.elim (by revert c4; decide))
    refine lv_iconst (v := 1) hx hb dX12_isCode_45 (by decide) ?_
    refine lv_goto (tgt := 50) hx hb dX12_isCode_46 (by decide) ?_
    have hP9 := hP.sub (ws' := []) [] rfl
    have hK9 := hK.sub (tys' := []) [] rfl
    refine W.widen (k := 0) (n := 0) (Nat.le_of_ble_eq_true rfl) (Nat.le_of_ble_eq_true rfl) ?_
    exact W.zret (v := 1) hx hb hr (by first | decide | rfl) (fun t ht9 hW9 => ⟨⟨1, (), rfl, (Or.inr rfl), ppk ht9 hP9⟩, hS.F ht9⟩) hS.2.2 dX12_isCode_50
  · have hw := hw.2 hI3
    subst hw
    refine lv_if_ne (tgt := 45) hx hb dX12_isCode_8 (by decide) (fun c5 => False.elim (by revert c5; decide)) (fun c5 => ?_)
    refine lv_iload_n hx hb dX12_isCode_11 rfl (lv_at hl 0 rfl) ?_
    refine lv_bipush (v := 48) hx hb dX12_isCode_12 (by decide) ?_
    refine lv_bipush (v := 57) hx hb dX12_isCode_14 (by decide) ?_
    have hPc := hP.sub (ws' := []) [] rfl
    have hKc := hK.sub (tys' := []) [] rfl
    have hFc := freeNil hS hA
    refine va_calli (va_runS (As := [.int a1, .int 48, .int 57]) (rest := []) ⟨hx, hb, hml, hown, ht⟩ (k_X12_isIn l d0 cO dC dI H.size a1 48 57) (my_S ht M_X12_isIn q1984 q1983 (Nat.le_of_ble_eq_true rfl) (Nat.le_of_ble_eq_true rfl)) ⟨PREp.fb, fun U hU hW => ⟨rfl, PREp.mk' hE hS hFc hPc hKc U hU hW⟩⟩ rfl rfl hl.1 rfl (lv_room (Nat.le_of_ble_eq_true rfl)) dX12_isCode_16 ⟨(Nat.le_of_ble_eq_true rfl), (Nat.le_of_ble_eq_true rfl)⟩) hS (fun q _ h => hFc q h) hFc (fun r7 u6 t H1 locs htt hvm hw hB hz1 hk1 hS => ?_)
    try dsimp only at hw hB
    have hP1 := hB
    rw [htt] at hP1
    have hP := keepAll hP hk1
    generalize H1 = H at hP hS ⊢
    have hP : va_P (dC, dI) vwCl [] H := hP
    have hK : va_K (dC, dI) vwCl [] s := hK
    refine W.widen (k := 0) (n := 0) (Nat.le_of_ble_eq_true rfl) (Nat.le_of_ble_eq_true rfl) ?_
    by_cases hI8 : 48 ≤ a1 ∧ a1 ≤ 57
    · have hw := hw.1 hI8
      subst hw
      refine lv_if_ne (tgt := 45) hx hb dX12_isCode_19 (by decide) (fun c9 => ?_) (fun c9 => False.elim (by revert c9; decide))
      refine lv_iconst (v := 1) hx hb dX12_isCode_45 (by decide) ?_
      refine lv_goto (tgt := 50) hx hb dX12_isCode_46 (by decide) ?_
      have hP9 := hP.sub (ws' := []) [] rfl
      have hK9 := hK.sub (tys' := []) [] rfl
      refine W.widen (k := 0) (n := 0) (Nat.le_of_ble_eq_true rfl) (Nat.le_of_ble_eq_true rfl) ?_
      exact W.zret (v := 1) hx hb hr (by first | decide | rfl) (fun t ht9 hW9 => ⟨⟨1, (), rfl, (Or.inr rfl), ppk ht9 hP9⟩, hS.F ht9⟩) hS.2.2 dX12_isCode_50
    · have hw := hw.2 hI8
      subst hw
      refine lv_if_ne (tgt := 45) hx hb dX12_isCode_19 (by decide) (fun c10 => False.elim (by revert c10; decide)) (fun c10 => ?_)
      refine lv_iload_n hx hb dX12_isCode_22 rfl (lv_at hl 0 rfl) ?_
      refine lv_bipush (v := 32) hx hb dX12_isCode_23 (by decide) ?_
      refine lv_icmp_eq (tgt := 45) hx hb dX12_isCode_25 (by decide) (fun c11 => ?_) (fun c11 => ?_)
      · skip
        refine lv_iconst (v := 1) hx hb dX12_isCode_45 (by decide) ?_
        refine lv_goto (tgt := 50) hx hb dX12_isCode_46 (by decide) ?_
        have hP9 := hP.sub (ws' := []) [] rfl
        have hK9 := hK.sub (tys' := []) [] rfl
        refine W.widen (k := 0) (n := 0) (Nat.le_of_ble_eq_true rfl) (Nat.le_of_ble_eq_true rfl) ?_
        exact W.zret (v := 1) hx hb hr (by first | decide | rfl) (fun t ht9 hW9 => ⟨⟨1, (), rfl, (Or.inr rfl), ppk ht9 hP9⟩, hS.F ht9⟩) hS.2.2 dX12_isCode_50
      · skip
        refine lv_iload_n hx hb dX12_isCode_28 rfl (lv_at hl 0 rfl) ?_
        refine lv_bipush (v := 10) hx hb dX12_isCode_29 (by decide) ?_
        refine lv_icmp_eq (tgt := 45) hx hb dX12_isCode_31 (by decide) (fun c12 => ?_) (fun c12 => ?_)
        · skip
          refine lv_iconst (v := 1) hx hb dX12_isCode_45 (by decide) ?_
          refine lv_goto (tgt := 50) hx hb dX12_isCode_46 (by decide) ?_
          have hP9 := hP.sub (ws' := []) [] rfl
          have hK9 := hK.sub (tys' := []) [] rfl
          refine W.widen (k := 0) (n := 0) (Nat.le_of_ble_eq_true rfl) (Nat.le_of_ble_eq_true rfl) ?_
          exact W.zret (v := 1) hx hb hr (by first | decide | rfl) (fun t ht9 hW9 => ⟨⟨1, (), rfl, (Or.inr rfl), ppk ht9 hP9⟩, hS.F ht9⟩) hS.2.2 dX12_isCode_50
        · skip
          refine lv_iload_n hx hb dX12_isCode_34 rfl (lv_at hl 0 rfl) ?_
          refine lv_ldc (v := 128512) hx hb hown (ht _ q2009) dX12_isCode_35 ?_
          refine lv_ldc (v := 128591) hx hb hown (ht _ q2010) dX12_isCode_37 ?_
          have hPc := hP.sub (ws' := []) [] rfl
          have hKc := hK.sub (tys' := []) [] rfl
          have hFc := freeNil hS hA
          refine va_calli (va_runS (As := [.int a1, .int 128512, .int 128591]) (rest := []) ⟨hx, hb, hml, hown, ht⟩ (k_X12_isIn l d0 cO dC dI H.size a1 128512 128591) (my_S ht M_X12_isIn q1984 q1983 (Nat.le_of_ble_eq_true rfl) (Nat.le_of_ble_eq_true rfl)) ⟨PREp.fb, fun U hU hW => ⟨rfl, PREp.mk' hE hS hFc hPc hKc U hU hW⟩⟩ rfl rfl hl.1 rfl (lv_room (Nat.le_of_ble_eq_true rfl)) dX12_isCode_39 ⟨(Nat.le_of_ble_eq_true rfl), (Nat.le_of_ble_eq_true rfl)⟩) hS (fun q _ h => hFc q h) hFc (fun r14 u13 t H1 locs htt hvm hw hB hz1 hk1 hS => ?_)
          try dsimp only at hw hB
          have hP1 := hB
          rw [htt] at hP1
          have hP := keepAll hP hk1
          generalize H1 = H at hP hS ⊢
          have hP : va_P (dC, dI) vwCl [] H := hP
          have hK : va_K (dC, dI) vwCl [] s := hK
          refine W.widen (k := 0) (n := 0) (Nat.le_of_ble_eq_true rfl) (Nat.le_of_ble_eq_true rfl) ?_
          by_cases hI15 : 128512 ≤ a1 ∧ a1 ≤ 128591
          · have hw := hw.1 hI15
            subst hw
            refine lv_if_eq (tgt := 49) hx hb dX12_isCode_42 (by decide) (fun c16 => False.elim (by revert c16; decide)) (fun c16 => ?_)
            refine lv_iconst (v := 1) hx hb dX12_isCode_45 (by decide) ?_
            refine lv_goto (tgt := 50) hx hb dX12_isCode_46 (by decide) ?_
            have hP9 := hP.sub (ws' := []) [] rfl
            have hK9 := hK.sub (tys' := []) [] rfl
            refine W.widen (k := 0) (n := 0) (Nat.le_of_ble_eq_true rfl) (Nat.le_of_ble_eq_true rfl) ?_
            exact W.zret (v := 1) hx hb hr (by first | decide | rfl) (fun t ht9 hW9 => ⟨⟨1, (), rfl, (Or.inr rfl), ppk ht9 hP9⟩, hS.F ht9⟩) hS.2.2 dX12_isCode_50
          · have hw := hw.2 hI15
            subst hw
            refine lv_if_eq (tgt := 49) hx hb dX12_isCode_42 (by decide) (fun c17 => ?_) (fun c17 => False.elim (by revert c17; decide))
            refine lv_iconst (v := 0) hx hb dX12_isCode_49 (by decide) ?_
            have hP9 := hP.sub (ws' := []) [] rfl
            have hK9 := hK.sub (tys' := []) [] rfl
            refine W.widen (k := 0) (n := 0) (Nat.le_of_ble_eq_true rfl) (Nat.le_of_ble_eq_true rfl) ?_
            exact W.zret (v := 0) hx hb hr (by first | decide | rfl) (fun t ht9 hW9 => ⟨⟨0, (), rfl, (Or.inl rfl), ppk ht9 hP9⟩, hS.F ht9⟩) hS.2.2 dX12_isCode_50
set_option maxHeartbeats 4000000 in
set_option maxRecDepth 100000 in
theorem k_X12_isRequest (l : Launch) (d0 : Nat) (cO : ClassId) (dC : Nat → ClassId) (dI : Nat → Nat → Nat) (sz : Nat) (h0 ra : Nat) (tA : ClassId) (a1 a2 : Int32) (fs : List Value) (hlen : fs.length = 75) (hf_asked : fs[27]? = some (.ref ra)) : Met l yX12_isRequest (cn yX12_isRequest cX12_isRequest 3 (some FieldType.boolean)) (rmd 2 0 0) (va_Pc [.ref h0, .int a1, .int a2] (PREp d0 cO (dC, dI) (va_A [] sz) [(h0, .inr (13, fs)), (ra, .inl (tA, 2, .inl ((fun _ => 0))))] [(tA, .int)] sz)) (va_Qi (fun (r : Int32) (_ : Unit) => r = 0) (fun (_ : Unit) (t : State) => va_P (dC, dI) vwCl [] t.heap) (va_A [] sz)) 0 0 (va_A [] sz) := by
  refine Met.ofW (cc := cX12_isRequest) (maxL := 3) (ret := (some FieldType.boolean)) (by decide) rfl ?_
  intro p e s m args below meth c s₁ B hml hv
  obtain ⟨rfl, hsz, hE, hP, hK⟩ := hv
  have hx := B.exec
  have hb := B.bytes
  have hr := B.returns
  have hts := atoms_spec (ws := cn yX12_isRequest cX12_isRequest 3 (some FieldType.boolean)) B.pre
  have ht : ∀ w ∈ GT, w.before _ s = true := fun w h => hts w (List.mem_cons_of_mem _ h)
  have hown : s.vm.findClass RX12 = some m.cls := findClass_of_methodNamed B.named
  have hlocks := B.notSynchronized
  subst hsz
  generalize hAe : va_A [] s.heap.size = A at hE ⊢
  have hA : ∀ q : Nat, s.heap.size ≤ q → A q := fun q h => by rw [← hAe]; exact Or.inr h
  obtain ⟨H, hH0⟩ : ∃ H, s.heap = H := ⟨_, rfl⟩
  have hS : va_S A s.heap H [] := by rw [← hH0]; exact va_S.rf
  rw [hH0] at hP
  have hl := lv_entry ([.ref h0, .int a1, .int a2]) (n := 3) (Nat.le_of_ble_eq_true rfl)
  rw [lg_entry_eq]
  generalize (lg_sl ([.ref h0, .int a1, .int a2]) ++ List.replicate (3 - (lg_sl ([.ref h0, .int a1, .int a2])).length) Slot.unset).toArray = ls at hl ⊢
  have hl : lv_has ls 3 [(0, .ref h0), (1, .int a1), (2, .int a2)] := hl
  rw [hH0]
  refine lv_iload_n hx hb dX12_isRequest_0 rfl (lv_at hl 1 rfl) ?_
  have hPc := hP.sub (ws' := []) [] rfl
  have hKc := hK.sub (tys' := []) [] rfl
  have hFc := freeNil hS hA
  refine va_calli (va_runS (As := [.int a1]) (rest := []) ⟨hx, hb, hml, hown, ht⟩ (k_X12_isEditor l d0 cO dC dI H.size a1) (my_S ht M_X12_isEditor q2039 q2038 (Nat.le_of_ble_eq_true rfl) (Nat.le_of_ble_eq_true rfl)) ⟨PREp.fb, fun U hU hW => ⟨rfl, PREp.mk' hE hS hFc hPc hKc U hU hW⟩⟩ rfl rfl hl.1 rfl (lv_room (Nat.le_of_ble_eq_true rfl)) dX12_isRequest_1 ⟨(Nat.le_of_ble_eq_true rfl), (Nat.le_of_ble_eq_true rfl)⟩) hS (fun q _ h => hFc q h) hFc (fun r2 u1 t H1 locs htt hvm hw hB hz1 hk1 hS => ?_)
  try dsimp only at hw hB
  have hP1 := hB
  rw [htt] at hP1
  have hP := keepAll hP hk1
  generalize H1 = H at hP hS ⊢
  have hP : va_P (dC, dI) vwCl [(h0, .inr (13, fs)), (ra, .inl (tA, 2, .inl ((fun _ => 0))))] H := hP
  have hK : va_K (dC, dI) vwCl [(tA, .int)] s := hK
  refine W.widen (k := 0) (n := 0) (Nat.le_of_ble_eq_true rfl) (Nat.le_of_ble_eq_true rfl) ?_
  by_cases hI3 : 0 ≤ a1 ∧ a1 ≤ 1
  · have hw := hw.1 hI3
    subst hw
    refine lv_if_eq (tgt := 27) hx hb dX12_isRequest_4 (by decide) (fun c4 => False.elim (by revert c4; decide)) (fun c4 => ?_)
    refine lv_iload_n hx hb dX12_isRequest_7 rfl (lv_at hl 2 rfl) ?_
    refine lv_iconst (v := 0) hx hb dX12_isRequest_8 (by decide) ?_
    refine lv_aload_n hx hb dX12_isRequest_9 rfl (lv_at hl 0 rfl) ?_
    refine va_get (D := (dC, dI)) (ci := 13) (v := .ref ra) (C := RX12) (T := TX12) (N := 75) hx hb ht inGX12 hown hK hP 0 rfl rfl 27 (by decide) (ht _ q1776) (fun _ h9 => h9) hf_asked dX12_isRequest_10 ?_
    refine lv_iload_n hx hb dX12_isRequest_13 rfl (lv_at hl 1 rfl) ?_
    refine va_iald hx hb hK hP 1 0 rfl rfl (vp_in_iff.mpr (by have := hI3; simp only [Int32.le_iff_toInt_le, Int32.lt_iff_toInt_lt, ← Int32.toInt_inj, li0, li1, li2, li3, li5, li6, li7, li9, li10, li32, li48, li57, li63, li97, li122, lim1] at this; omega)) dX12_isRequest_14 ?_
    refine W.eq (g2 := F0 m 15 ls [.int 0, .int 0, .int a2]) rfl ?_
    refine lv_iconst (v := 1) hx hb dX12_isRequest_15 (by decide) ?_
    refine lv_isub hx hb dX12_isRequest_16 ?_
    refine lv_topi (fun x5 ex5 => ?_)
    obtain rfl : x5 = (-1) := ex5.trans (by decide)
    have hPc := hP.sub (ws' := []) [] rfl
    have hKc := hK.sub (tys' := []) [] rfl
    have hFc := freeNil hS hA
    refine va_calli (va_runS (As := [.int a2, .int 0, .int (-1)]) (rest := []) ⟨hx, hb, hml, hown, ht⟩ (k_X12_isIn l d0 cO dC dI H.size a2 0 (-1)) (my_S ht M_X12_isIn q1984 q1983 (Nat.le_of_ble_eq_true rfl) (Nat.le_of_ble_eq_true rfl)) ⟨PREp.fb, fun U hU hW => ⟨rfl, PREp.mk' hE hS hFc hPc hKc U hU hW⟩⟩ rfl rfl hl.1 rfl (lv_room (Nat.le_of_ble_eq_true rfl)) dX12_isRequest_17 ⟨(Nat.le_of_ble_eq_true rfl), (Nat.le_of_ble_eq_true rfl)⟩) hS (fun q _ h => hFc q h) hFc (fun r7 u6 t H1 locs htt hvm hw hB hz1 hk1 hS => ?_)
    try dsimp only at hw hB
    have hP1 := hB
    rw [htt] at hP1
    have hP := keepAll hP hk1
    generalize H1 = H at hP hS ⊢
    have hP : va_P (dC, dI) vwCl [(h0, .inr (13, fs)), (ra, .inl (tA, 2, .inl ((fun _ => 0))))] H := hP
    have hK : va_K (dC, dI) vwCl [(tA, .int)] s := hK
    refine W.widen (k := 0) (n := 0) (Nat.le_of_ble_eq_true rfl) (Nat.le_of_ble_eq_true rfl) ?_
    have hw := hw.2 (no01 _)
    subst hw
    refine lv_if_eq (tgt := 27) hx hb dX12_isRequest_20 (by decide) (fun c8 => ?_) (fun c8 => False.elim (by revert c8; decide))
    refine lv_iconst (v := 0) hx hb dX12_isRequest_27 (by decide) ?_
    have hP9 := hP.sub (ws' := []) [] rfl
    have hK9 := hK.sub (tys' := [(tA, .int)]) [0] rfl
    refine W.widen (k := 0) (n := 0) (Nat.le_of_ble_eq_true rfl) (Nat.le_of_ble_eq_true rfl) ?_
    exact W.zret (v := 0) hx hb hr (by first | decide | rfl) (fun t ht9 hW9 => ⟨⟨0, (), rfl, rfl, ppk ht9 hP9⟩, hS.F ht9⟩) hS.2.2 dX12_isRequest_28
  · have hw := hw.2 hI3
    subst hw
    refine lv_if_eq (tgt := 27) hx hb dX12_isRequest_4 (by decide) (fun c9 => ?_) (fun c9 => False.elim (by revert c9; decide))
    refine lv_iconst (v := 0) hx hb dX12_isRequest_27 (by decide) ?_
    have hP9 := hP.sub (ws' := []) [] rfl
    have hK9 := hK.sub (tys' := [(tA, .int)]) [0] rfl
    refine W.widen (k := 0) (n := 0) (Nat.le_of_ble_eq_true rfl) (Nat.le_of_ble_eq_true rfl) ?_
    exact W.zret (v := 0) hx hb hr (by first | decide | rfl) (fun t ht9 hW9 => ⟨⟨0, (), rfl, rfl, ppk ht9 hP9⟩, hS.F ht9⟩) hS.2.2 dX12_isRequest_28
set_option maxHeartbeats 4000000 in
set_option maxRecDepth 100000 in
theorem k_X12_isItem (l : Launch) (d0 : Nat) (cO : ClassId) (dC : Nat → ClassId) (dI : Nat → Nat → Nat) (sz : Nat) (h0 ra : Nat) (tA : ClassId) (a1 a2 a3 : Int32) (fs : List Value) (hlen : fs.length = 75) (hf_asked : fs[27]? = some (.ref ra)) : Met l yX12_isItem (cn yX12_isItem cX12_isItem 5 (some FieldType.boolean)) (rmd 3 0 0) (va_Pc [.ref h0, .int a1, .int a2, .int a3] (PREp d0 cO (dC, dI) (va_A [] sz) [(h0, .inr (13, fs)), (ra, .inl (tA, 2, .inl ((fun _ => 0))))] [(tA, .int)] sz)) (va_Qi (fun (r : Int32) (_ : Unit) => r = 0) (fun (_ : Unit) (t : State) => va_P (dC, dI) vwCl [] t.heap) (va_A [] sz)) 0 0 (va_A [] sz) := by
  refine Met.ofW (cc := cX12_isItem) (maxL := 5) (ret := (some FieldType.boolean)) (by decide) rfl ?_
  intro p e s m args below meth c s₁ B hml hv
  obtain ⟨rfl, hsz, hE, hP, hK⟩ := hv
  have hx := B.exec
  have hb := B.bytes
  have hr := B.returns
  have hts := atoms_spec (ws := cn yX12_isItem cX12_isItem 5 (some FieldType.boolean)) B.pre
  have ht : ∀ w ∈ GT, w.before _ s = true := fun w h => hts w (List.mem_cons_of_mem _ h)
  have hown : s.vm.findClass RX12 = some m.cls := findClass_of_methodNamed B.named
  have hlocks := B.notSynchronized
  subst hsz
  generalize hAe : va_A [] s.heap.size = A at hE ⊢
  have hA : ∀ q : Nat, s.heap.size ≤ q → A q := fun q h => by rw [← hAe]; exact Or.inr h
  obtain ⟨H, hH0⟩ : ∃ H, s.heap = H := ⟨_, rfl⟩
  have hS : va_S A s.heap H [] := by rw [← hH0]; exact va_S.rf
  rw [hH0] at hP
  have hl := lv_entry ([.ref h0, .int a1, .int a2, .int a3]) (n := 5) (Nat.le_of_ble_eq_true rfl)
  rw [lg_entry_eq]
  generalize (lg_sl ([.ref h0, .int a1, .int a2, .int a3]) ++ List.replicate (5 - (lg_sl ([.ref h0, .int a1, .int a2, .int a3])).length) Slot.unset).toArray = ls at hl ⊢
  have hl : lv_has ls 5 [(0, .ref h0), (1, .int a1), (2, .int a2), (3, .int a3)] := hl
  rw [hH0]
  refine lv_aload_n hx hb dX12_isItem_0 rfl (lv_at hl 0 rfl) ?_
  refine lv_iload_n hx hb dX12_isItem_1 rfl (lv_at hl 1 rfl) ?_
  refine lv_iload_n hx hb dX12_isItem_2 rfl (lv_at hl 2 rfl) ?_
  have hPc := hP.sub (ws' := [(h0, .inr (13, fs)), (ra, .inl (tA, 2, .inl ((fun _ => 0))))]) [0, 1] rfl
  have hKc := hK.sub (tys' := [(tA, .int)]) [0] rfl
  have hFc := freeNil hS hA
  refine va_calli (va_runV (As := [.int a1, .int a2]) (rest := []) ⟨hx, hb, hml, hown, ht⟩ (k_X12_isRequest l d0 cO dC dI H.size h0 ra tA a1 a2 fs hlen hf_asked) (my_V ht M_X12_isRequest q2117 q70 q2115 (Nat.le_of_ble_eq_true rfl) (Nat.le_of_ble_eq_true rfl)) ⟨PREp.fb, va_recv hK hP (ci := 13) (q0 := 0) rfl rfl, fun U hU hW => ⟨rfl, PREp.mk' hE hS hFc hPc hKc U hU hW⟩⟩ rfl rfl hl.1 rfl (lv_room (Nat.le_of_ble_eq_true rfl)) dX12_isItem_3 ⟨(Nat.le_of_ble_eq_true rfl), (Nat.le_of_ble_eq_true rfl)⟩) hS (fun q _ h => hFc q h) hFc (fun r2 u1 t H1 locs htt hvm hw hB hz1 hk1 hS => ?_)
  try dsimp only at hw hB
  have hP1 := hB
  rw [htt] at hP1
  have hP := keepAll hP hk1
  generalize H1 = H at hP hS ⊢
  have hP : va_P (dC, dI) vwCl [(h0, .inr (13, fs)), (ra, .inl (tA, 2, .inl ((fun _ => 0))))] H := hP
  have hK : va_K (dC, dI) vwCl [(tA, .int)] s := hK
  refine W.widen (k := 0) (n := 0) (Nat.le_of_ble_eq_true rfl) (Nat.le_of_ble_eq_true rfl) ?_
  subst hw
  refine lv_if_eq (tgt := 27) hx hb dX12_isItem_6 (by decide) (fun c3 => ?_) (fun c3 => False.elim (by revert c3; decide))
  refine lv_iconst (v := 0) hx hb dX12_isItem_27 (by decide) ?_
  refine lv_istore (lv' := [(4, .int 0), (0, .ref h0), (1, .int a1), (2, .int a2), (3, .int a3)]) hx hb dX12_isItem_28 hl (by decide) rfl (fun ls hl => ?_)
  refine lv_iload hx hb dX12_isItem_30 (lv_at hl 0 rfl) ?_
  refine lv_if_eq (tgt := 63) hx hb dX12_isItem_32 (by decide) (fun c4 => ?_) (fun c4 => False.elim (by revert c4; decide))
  refine lv_iconst (v := 0) hx hb dX12_isItem_63 (by decide) ?_
  have hP9 := hP.sub (ws' := []) [] rfl
  have hK9 := hK.sub (tys' := [(tA, .int)]) [0] rfl
  refine W.widen (k := 0) (n := 0) (Nat.le_of_ble_eq_true rfl) (Nat.le_of_ble_eq_true rfl) ?_
  exact W.zret (v := 0) hx hb hr (by first | decide | rfl) (fun t ht9 hW9 => ⟨⟨0, (), rfl, rfl, ppk ht9 hP9⟩, hS.F ht9⟩) hS.2.2 dX12_isItem_64
set_option maxHeartbeats 4000000 in
set_option maxRecDepth 100000 in
theorem k_X12_isCopy (l : Launch) (d0 : Nat) (cO : ClassId) (dC : Nat → ClassId) (dI : Nat → Nat → Nat) (sz : Nat) (h0 : Nat) (a1 a2 : Int32) (fs : List Value) (hlen : fs.length = 75) (hf_files : fs[2]? = some (.int 0)) (hf_servers : fs[15]? = some (.int 0)) : Met l yX12_isCopy (cn yX12_isCopy cX12_isCopy 3 (some FieldType.boolean)) (rmd 2 0 0) (va_Pc [.ref h0, .int a1, .int a2] (PREp d0 cO (dC, dI) (va_A [] sz) [(h0, .inr (13, fs))] [] sz)) (va_Qi (fun (r : Int32) (_ : Unit) => r = 0) (fun (_ : Unit) (t : State) => va_P (dC, dI) vwCl [] t.heap) (va_A [] sz)) 0 0 (va_A [] sz) := by
  refine Met.ofW (cc := cX12_isCopy) (maxL := 3) (ret := (some FieldType.boolean)) (by decide) rfl ?_
  intro p e s m args below meth c s₁ B hml hv
  obtain ⟨rfl, hsz, hE, hP, hK⟩ := hv
  have hx := B.exec
  have hb := B.bytes
  have hr := B.returns
  have hts := atoms_spec (ws := cn yX12_isCopy cX12_isCopy 3 (some FieldType.boolean)) B.pre
  have ht : ∀ w ∈ GT, w.before _ s = true := fun w h => hts w (List.mem_cons_of_mem _ h)
  have hown : s.vm.findClass RX12 = some m.cls := findClass_of_methodNamed B.named
  have hlocks := B.notSynchronized
  subst hsz
  generalize hAe : va_A [] s.heap.size = A at hE ⊢
  have hA : ∀ q : Nat, s.heap.size ≤ q → A q := fun q h => by rw [← hAe]; exact Or.inr h
  obtain ⟨H, hH0⟩ : ∃ H, s.heap = H := ⟨_, rfl⟩
  have hS : va_S A s.heap H [] := by rw [← hH0]; exact va_S.rf
  rw [hH0] at hP
  have hl := lv_entry ([.ref h0, .int a1, .int a2]) (n := 3) (Nat.le_of_ble_eq_true rfl)
  rw [lg_entry_eq]
  generalize (lg_sl ([.ref h0, .int a1, .int a2]) ++ List.replicate (3 - (lg_sl ([.ref h0, .int a1, .int a2])).length) Slot.unset).toArray = ls at hl ⊢
  have hl : lv_has ls 3 [(0, .ref h0), (1, .int a1), (2, .int a2)] := hl
  rw [hH0]
  refine lv_iload_n hx hb dX12_isCopy_0 rfl (lv_at hl 1 rfl) ?_
  refine lv_iconst (v := 0) hx hb dX12_isCopy_1 (by decide) ?_
  refine lv_iconst (v := 2) hx hb dX12_isCopy_2 (by decide) ?_
  refine lv_aload_n hx hb dX12_isCopy_3 rfl (lv_at hl 0 rfl) ?_
  refine va_get (D := (dC, dI)) (ci := 13) (v := .int 0) (C := RX12) (T := TX12) (N := 75) hx hb ht inGX12 hown hK hP 0 rfl rfl 15 (by decide) (ht _ q1764) (fun _ h9 => h9) hf_servers dX12_isCopy_4 ?_
  refine lv_iadd hx hb dX12_isCopy_7 ?_
  refine lv_topi (fun x1 ex1 => ?_)
  obtain rfl : x1 = 2 := ex1.trans (by decide)
  have hPc := hP.sub (ws' := []) [] rfl
  have hKc := hK.sub (tys' := []) [] rfl
  have hFc := freeNil hS hA
  refine va_calli (va_runS (As := [.int a1, .int 0, .int 2]) (rest := []) ⟨hx, hb, hml, hown, ht⟩ (k_X12_isIn l d0 cO dC dI H.size a1 0 2) (my_S ht M_X12_isIn q1984 q1983 (Nat.le_of_ble_eq_true rfl) (Nat.le_of_ble_eq_true rfl)) ⟨PREp.fb, fun U hU hW => ⟨rfl, PREp.mk' hE hS hFc hPc hKc U hU hW⟩⟩ rfl rfl hl.1 rfl (lv_room (Nat.le_of_ble_eq_true rfl)) dX12_isCopy_8 ⟨(Nat.le_of_ble_eq_true rfl), (Nat.le_of_ble_eq_true rfl)⟩) hS (fun q _ h => hFc q h) hFc (fun r3 u2 t H1 locs htt hvm hw hB hz1 hk1 hS => ?_)
  try dsimp only at hw hB
  have hP1 := hB
  rw [htt] at hP1
  have hP := keepAll hP hk1
  generalize H1 = H at hP hS ⊢
  have hP : va_P (dC, dI) vwCl [(h0, .inr (13, fs))] H := hP
  have hK : va_K (dC, dI) vwCl [] s := hK
  refine W.widen (k := 0) (n := 0) (Nat.le_of_ble_eq_true rfl) (Nat.le_of_ble_eq_true rfl) ?_
  by_cases hI4 : 0 ≤ a1 ∧ a1 ≤ 2
  · have hw := hw.1 hI4
    subst hw
    refine lv_if_eq (tgt := 26) hx hb dX12_isCopy_11 (by decide) (fun c5 => False.elim (by revert c5; decide)) (fun c5 => ?_)
    refine lv_aload_n hx hb dX12_isCopy_14 rfl (lv_at hl 0 rfl) ?_
    refine lv_iload_n hx hb dX12_isCopy_15 rfl (lv_at hl 2 rfl) ?_
    have hPc := hP.sub (ws' := [(h0, .inr (13, fs))]) [0] rfl
    have hKc := hK.sub (tys' := []) [] rfl
    have hFc := freeNil hS hA
    refine va_calli (va_runV (As := [.int a2]) (rest := []) ⟨hx, hb, hml, hown, ht⟩ (k_X12_isFile l d0 cO dC dI H.size h0 a2 fs hlen hf_files) (my_V ht M_X12_isFile q2004 q55 q2002 (Nat.le_of_ble_eq_true rfl) (Nat.le_of_ble_eq_true rfl)) ⟨PREp.fb, va_recv hK hP (ci := 13) (q0 := 0) rfl rfl, fun U hU hW => ⟨rfl, PREp.mk' hE hS hFc hPc hKc U hU hW⟩⟩ rfl rfl hl.1 rfl (lv_room (Nat.le_of_ble_eq_true rfl)) dX12_isCopy_16 ⟨(Nat.le_of_ble_eq_true rfl), (Nat.le_of_ble_eq_true rfl)⟩) hS (fun q _ h => hFc q h) hFc (fun r7 u6 t H1 locs htt hvm hw hB hz1 hk1 hS => ?_)
    try dsimp only at hw hB
    have hP1 := hB
    rw [htt] at hP1
    have hP := keepAll hP hk1
    generalize H1 = H at hP hS ⊢
    have hP : va_P (dC, dI) vwCl [(h0, .inr (13, fs))] H := hP
    have hK : va_K (dC, dI) vwCl [] s := hK
    refine W.widen (k := 0) (n := 0) (Nat.le_of_ble_eq_true rfl) (Nat.le_of_ble_eq_true rfl) ?_
    subst hw
    refine lv_if_eq (tgt := 26) hx hb dX12_isCopy_19 (by decide) (fun c8 => ?_) (fun c8 => False.elim (by revert c8; decide))
    refine lv_iconst (v := 0) hx hb dX12_isCopy_26 (by decide) ?_
    have hP9 := hP.sub (ws' := []) [] rfl
    have hK9 := hK.sub (tys' := []) [] rfl
    refine W.widen (k := 0) (n := 0) (Nat.le_of_ble_eq_true rfl) (Nat.le_of_ble_eq_true rfl) ?_
    exact W.zret (v := 0) hx hb hr (by first | decide | rfl) (fun t ht9 hW9 => ⟨⟨0, (), rfl, rfl, ppk ht9 hP9⟩, hS.F ht9⟩) hS.2.2 dX12_isCopy_27
  · have hw := hw.2 hI4
    subst hw
    refine lv_if_eq (tgt := 26) hx hb dX12_isCopy_11 (by decide) (fun c9 => ?_) (fun c9 => False.elim (by revert c9; decide))
    refine lv_iconst (v := 0) hx hb dX12_isCopy_26 (by decide) ?_
    have hP9 := hP.sub (ws' := []) [] rfl
    have hK9 := hK.sub (tys' := []) [] rfl
    refine W.widen (k := 0) (n := 0) (Nat.le_of_ble_eq_true rfl) (Nat.le_of_ble_eq_true rfl) ?_
    exact W.zret (v := 0) hx hb hr (by first | decide | rfl) (fun t ht9 hW9 => ⟨⟨0, (), rfl, rfl, ppk ht9 hP9⟩, hS.F ht9⟩) hS.2.2 dX12_isCopy_27
