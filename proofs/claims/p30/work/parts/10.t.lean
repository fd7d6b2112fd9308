theorem dX10_isLetter_0 : decode cX10_isLetter 0 = .ok (.iload_n 0, 1) := by decide +kernel
theorem dX10_isLetter_1 : decode cX10_isLetter 1 = .ok (.bipush 97, 2) := by decide +kernel
theorem dX10_isLetter_3 : decode cX10_isLetter 3 = .ok (.if_icmp .lt 13, 3) := by decide +kernel
theorem dX10_isLetter_16 : decode cX10_isLetter 16 = .ok (.iconst 0, 1) := by decide +kernel
theorem dX10_isLetter_17 : decode cX10_isLetter 17 = .ok (.ireturn, 1) := by decide +kernel
theorem dX10_isLetter_6 : decode cX10_isLetter 6 = .ok (.iload_n 0, 1) := by decide +kernel
theorem dX10_isLetter_7 : decode cX10_isLetter 7 = .ok (.bipush 122, 2) := by decide +kernel
theorem dX10_isLetter_9 : decode cX10_isLetter 9 = .ok (.if_icmp .gt 7, 3) := by decide +kernel
theorem dX10_isLetter_12 : decode cX10_isLetter 12 = .ok (.iconst 1, 1) := by decide +kernel
theorem dX10_isLetter_13 : decode cX10_isLetter 13 = .ok (.goto 4, 3) := by decide +kernel
theorem dX10_isDigit_0 : decode cX10_isDigit 0 = .ok (.iload_n 0, 1) := by decide +kernel
theorem dX10_isDigit_1 : decode cX10_isDigit 1 = .ok (.bipush 48, 2) := by decide +kernel
theorem dX10_isDigit_3 : decode cX10_isDigit 3 = .ok (.if_icmp .lt 13, 3) := by decide +kernel
theorem dX10_isDigit_16 : decode cX10_isDigit 16 = .ok (.iconst 0, 1) := by decide +kernel
theorem dX10_isDigit_17 : decode cX10_isDigit 17 = .ok (.ireturn, 1) := by decide +kernel
theorem dX10_isDigit_6 : decode cX10_isDigit 6 = .ok (.iload_n 0, 1) := by decide +kernel
theorem dX10_isDigit_7 : decode cX10_isDigit 7 = .ok (.bipush 57, 2) := by decide +kernel
theorem dX10_isDigit_9 : decode cX10_isDigit 9 = .ok (.if_icmp .gt 7, 3) := by decide +kernel
theorem dX10_isDigit_12 : decode cX10_isDigit 12 = .ok (.iconst 1, 1) := by decide +kernel
theorem dX10_isDigit_13 : decode cX10_isDigit 13 = .ok (.goto 4, 3) := by decide +kernel
theorem dX10_isFace_0 : decode cX10_isFace 0 = .ok (.iload_n 0, 1) := by decide +kernel
theorem q634 : Cond.constant RX10 15 (128512) ∈ GT := gt 634 (by decide +kernel) (by decide +kernel)
theorem dX10_isFace_1 : decode cX10_isFace 1 = .ok (.ldc 15, 2) := by decide +kernel
theorem dX10_isFace_3 : decode cX10_isFace 3 = .ok (.if_icmp .lt 13, 3) := by decide +kernel
theorem dX10_isFace_16 : decode cX10_isFace 16 = .ok (.iconst 0, 1) := by decide +kernel
theorem dX10_isFace_17 : decode cX10_isFace 17 = .ok (.ireturn, 1) := by decide +kernel
theorem dX10_isFace_6 : decode cX10_isFace 6 = .ok (.iload_n 0, 1) := by decide +kernel
theorem q635 : Cond.constant RX10 16 (128591) ∈ GT := gt 635 (by decide +kernel) (by decide +kernel)
theorem dX10_isFace_7 : decode cX10_isFace 7 = .ok (.ldc 16, 2) := by decide +kernel
theorem dX10_isFace_9 : decode cX10_isFace 9 = .ok (.if_icmp .gt 7, 3) := by decide +kernel
theorem dX10_isFace_12 : decode cX10_isFace 12 = .ok (.iconst 1, 1) := by decide +kernel
theorem dX10_isFace_13 : decode cX10_isFace 13 = .ok (.goto 4, 3) := by decide +kernel
theorem dX10_unitsOf_0 : decode cX10_unitsOf 0 = .ok (.iload_n 0, 1) := by decide +kernel
theorem dX10_unitsOf_1 : decode cX10_unitsOf 1 = .ok (.iconst (-1), 1) := by decide +kernel
theorem dX10_unitsOf_2 : decode cX10_unitsOf 2 = .ok (.if_icmp .ne 5, 3) := by decide +kernel
theorem dX10_unitsOf_7 : decode cX10_unitsOf 7 = .ok (.iload_n 0, 1) := by decide +kernel
theorem dX10_unitsOf_8 : decode cX10_unitsOf 8 = .ok (.ldc 15, 2) := by decide +kernel
theorem dX10_unitsOf_10 : decode cX10_unitsOf 10 = .ok (.if_icmp .lt 7, 3) := by decide +kernel
theorem dX10_unitsOf_17 : decode cX10_unitsOf 17 = .ok (.iconst 1, 1) := by decide +kernel
theorem dX10_unitsOf_18 : decode cX10_unitsOf 18 = .ok (.ireturn, 1) := by decide +kernel
theorem dX10_unitsOf_13 : decode cX10_unitsOf 13 = .ok (.iconst 2, 1) := by decide +kernel
theorem dX10_unitsOf_14 : decode cX10_unitsOf 14 = .ok (.goto 4, 3) := by decide +kernel
theorem dX10_unitsOf_5 : decode cX10_unitsOf 5 = .ok (.iconst 0, 1) := by decide +kernel
theorem dX10_unitsOf_6 : decode cX10_unitsOf 6 = .ok (.ireturn, 1) := by decide +kernel
theorem dX10_size_0 : decode cX10_size 0 = .ok (.aload_n 0, 1) := by decide +kernel
theorem inGX10 : ∀ w ∈ u_ws RX10 TX10 2, w ∈ GT := gts [96, 98] (by decide +kernel) (by decide +kernel)
theorem q95 : Cond.fieldLink RX10 27 "ToolPlex$Text" "length" "I" ∈ GT := gt 95 (by decide +kernel) (by decide +kernel)
theorem dX10_size_1 : decode cX10_size 1 = .ok (.getfield 27, 3) := by decide +kernel
theorem dX10_size_4 : decode cX10_size 4 = .ok (.ireturn, 1) := by decide +kernel
theorem dX10_at_0 : decode cX10_at 0 = .ok (.iload_n 1, 1) := by decide +kernel
theorem dX10_at_1 : decode cX10_at 1 = .ok (.ifCond .lt 29, 3) := by decide +kernel
theorem dX10_at_30 : decode cX10_at 30 = .ok (.iconst (-1), 1) := by decide +kernel
theorem dX10_at_31 : decode cX10_at 31 = .ok (.ireturn, 1) := by decide +kernel
theorem dX10_at_4 : decode cX10_at 4 = .ok (.iload_n 1, 1) := by decide +kernel
theorem dX10_at_5 : decode cX10_at 5 = .ok (.aload_n 0, 1) := by decide +kernel
theorem dX10_at_6 : decode cX10_at 6 = .ok (.getfield 27, 3) := by decide +kernel
theorem dX10_at_9 : decode cX10_at 9 = .ok (.if_icmp .ge 21, 3) := by decide +kernel
theorem dX10_at_12 : decode cX10_at 12 = .ok (.iload_n 1, 1) := by decide +kernel
theorem dX10_at_13 : decode cX10_at 13 = .ok (.aload_n 0, 1) := by decide +kernel
theorem q94 : Cond.fieldLink RX10 9 "ToolPlex$Text" "units" "[C" ∈ GT := gt 94 (by decide +kernel) (by decide +kernel)
theorem dX10_at_14 : decode cX10_at 14 = .ok (.getfield 9, 3) := by decide +kernel
theorem dX10_at_17 : decode cX10_at 17 = .ok (.arraylength, 1) := by decide +kernel
theorem dX10_at_18 : decode cX10_at 18 = .ok (.if_icmp .ge 12, 3) := by decide +kernel
theorem dX10_at_21 : decode cX10_at 21 = .ok (.aload_n 0, 1) := by decide +kernel
theorem dX10_at_22 : decode cX10_at 22 = .ok (.getfield 9, 3) := by decide +kernel
theorem dX10_at_25 : decode cX10_at 25 = .ok (.iload_n 1, 1) := by decide +kernel
theorem dX10_at_26 : decode cX10_at 26 = .ok (.caload, 1) := by decide +kernel
theorem dX10_at_27 : decode cX10_at 27 = .ok (.goto 4, 3) := by decide +kernel
theorem dX10_sortAt_0 : decode cX10_sortAt 0 = .ok (.iload_n 1, 1) := by decide +kernel
theorem dX10_sortAt_1 : decode cX10_sortAt 1 = .ok (.ifCond .lt 29, 3) := by decide +kernel
theorem dX10_sortAt_30 : decode cX10_sortAt 30 = .ok (.iconst (-1), 1) := by decide +kernel
theorem dX10_sortAt_31 : decode cX10_sortAt 31 = .ok (.istore_n 2, 1) := by decide +kernel
theorem dX10_sortAt_32 : decode cX10_sortAt 32 = .ok (.iload_n 2, 1) := by decide +kernel
theorem dX10_sortAt_33 : decode cX10_sortAt 33 = .ok (.bipush 97, 2) := by decide +kernel
theorem dX10_sortAt_35 : decode cX10_sortAt 35 = .ok (.if_icmp .lt 11, 3) := by decide +kernel
theorem dX10_sortAt_46 : decode cX10_sortAt 46 = .ok (.iload_n 2, 1) := by decide +kernel
theorem dX10_sortAt_47 : decode cX10_sortAt 47 = .ok (.bipush 48, 2) := by decide +kernel
theorem dX10_sortAt_49 : decode cX10_sortAt 49 = .ok (.if_icmp .lt 13, 3) := by decide +kernel
theorem dX10_sortAt_62 : decode cX10_sortAt 62 = .ok (.iconst (-1), 1) := by decide +kernel
theorem dX10_sortAt_63 : decode cX10_sortAt 63 = .ok (.ireturn, 1) := by decide +kernel
theorem dX10_sortAt_4 : decode cX10_sortAt 4 = .ok (.iload_n 1, 1) := by decide +kernel
theorem dX10_sortAt_5 : decode cX10_sortAt 5 = .ok (.aload_n 0, 1) := by decide +kernel
theorem dX10_sortAt_6 : decode cX10_sortAt 6 = .ok (.getfield 27, 3) := by decide +kernel
theorem dX10_sortAt_9 : decode cX10_sortAt 9 = .ok (.if_icmp .ge 21, 3) := by decide +kernel
theorem dX10_sortAt_12 : decode cX10_sortAt 12 = .ok (.iload_n 1, 1) := by decide +kernel
theorem dX10_sortAt_13 : decode cX10_sortAt 13 = .ok (.aload_n 0, 1) := by decide +kernel
theorem dX10_sortAt_14 : decode cX10_sortAt 14 = .ok (.getfield 9, 3) := by decide +kernel
theorem dX10_sortAt_17 : decode cX10_sortAt 17 = .ok (.arraylength, 1) := by decide +kernel
theorem dX10_sortAt_18 : decode cX10_sortAt 18 = .ok (.if_icmp .ge 12, 3) := by decide +kernel
theorem dX10_sortAt_21 : decode cX10_sortAt 21 = .ok (.aload_n 0, 1) := by decide +kernel
theorem dX10_sortAt_22 : decode cX10_sortAt 22 = .ok (.getfield 9, 3) := by decide +kernel
theorem dX10_sortAt_25 : decode cX10_sortAt 25 = .ok (.iload_n 1, 1) := by decide +kernel
theorem dX10_sortAt_26 : decode cX10_sortAt 26 = .ok (.caload, 1) := by decide +kernel
theorem dX10_sortAt_27 : decode cX10_sortAt 27 = .ok (.goto 4, 3) := by decide +kernel
theorem dX10_sortAt_52 : decode cX10_sortAt 52 = .ok (.iload_n 2, 1) := by decide +kernel
theorem dX10_sortAt_53 : decode cX10_sortAt 53 = .ok (.bipush 57, 2) := by decide +kernel
theorem dX10_sortAt_55 : decode cX10_sortAt 55 = .ok (.if_icmp .gt 7, 3) := by decide +kernel
theorem dX10_sortAt_58 : decode cX10_sortAt 58 = .ok (.iconst 1, 1) := by decide +kernel
theorem dX10_sortAt_59 : decode cX10_sortAt 59 = .ok (.goto 4, 3) := by decide +kernel
theorem dX10_sortAt_38 : decode cX10_sortAt 38 = .ok (.iload_n 2, 1) := by decide +kernel
theorem dX10_sortAt_39 : decode cX10_sortAt 39 = .ok (.bipush 122, 2) := by decide +kernel
theorem dX10_sortAt_41 : decode cX10_sortAt 41 = .ok (.if_icmp .gt 5, 3) := by decide +kernel
theorem dX10_sortAt_44 : decode cX10_sortAt 44 = .ok (.iconst 0, 1) := by decide +kernel
theorem dX10_sortAt_45 : decode cX10_sortAt 45 = .ok (.ireturn, 1) := by decide +kernel
set_option maxHeartbeats 4000000 in
set_option maxRecDepth 100000 in
theorem k_X10_isLetter (l : Launch) (d0 : Nat) (cO : ClassId) (dC : Nat → ClassId) (dI : Nat → Nat → Nat) (sz : Nat) (a : Int) (ha : -2147483648 ≤ a ∧ a ≤ 2147483647) : Met l yX10_isLetter (cn yX10_isLetter cX10_isLetter 1 (some FieldType.boolean)) (rmd 0 0 0) (va_Pc [.int (iI a)] (PREp d0 cO (dC, dI) (va_A [] sz) [] [] sz)) (va_Qi (fun (r : Int32) (u : Int) => r = iI u ∧ ((97 ≤ a ∧ a ≤ 122 → u = 1) ∧ (¬ (97 ≤ a ∧ a ≤ 122) → u = 0))) (fun (u : Int) (t : State) => va_P (dC, dI) vwCl [] t.heap) (va_A [] sz)) 0 0 (va_A [] sz) := by
  refine Met.ofW (cc := cX10_isLetter) (maxL := 1) (ret := (some FieldType.boolean)) (by decide) rfl ?_
  intro p e s m args below meth c s₁ B hml hv
  obtain ⟨rfl, hsz, hE, hP, hK⟩ := hv
  have hx := B.exec
  have hb := B.bytes
  have hr := B.returns
  have hts := atoms_spec (ws := cn yX10_isLetter cX10_isLetter 1 (some FieldType.boolean)) B.pre
  have ht : ∀ w ∈ GT, w.before _ s = true := fun w h => hts w (List.mem_cons_of_mem _ h)
  have hown : s.vm.findClass RX10 = some m.cls := findClass_of_methodNamed B.named
  have hlocks := B.notSynchronized
  subst hsz
  generalize hAe : va_A [] s.heap.size = A at hE ⊢
  have hA : ∀ q : Nat, s.heap.size ≤ q → A q := fun q h => by rw [← hAe]; exact Or.inr h
  obtain ⟨H, hH0⟩ : ∃ H, s.heap = H := ⟨_, rfl⟩
  have hS : va_S A s.heap H [] := by rw [← hH0]; exact va_S.rf
  rw [hH0] at hP
  have hl := lv_entry ([.int (iI a)]) (n := 1) (Nat.le_of_ble_eq_true rfl)
  rw [lg_entry_eq]
  generalize (lg_sl ([.int (iI a)]) ++ List.replicate (1 - (lg_sl ([.int (iI a)])).length) Slot.unset).toArray = ls at hl ⊢
  have hl : lv_has ls 1 [(0, .int (iI a))] := hl
  rw [hH0]
  refine lv_iload_n hx hb dX10_isLetter_0 rfl (lv_at hl 0 rfl) ?_
  refine lv_bipush (v := iI (97)) hx hb dX10_isLetter_1 (by decide) ?_
  refine lv_icmp_lt (tgt := 16) hx hb dX10_isLetter_3 (by decide) (fun c1 => ?_) (fun c1 => ?_)
  · have c1 := bt_lt c1 ⟨by omega, by omega⟩ ⟨by omega, by omega⟩
    refine lv_iconst (v := iI (0)) hx hb dX10_isLetter_16 (by decide) ?_
    have hP9 := hP.sub (ws' := []) [] rfl
    have hK9 := hK.sub (tys' := []) [] rfl
    refine W.widen (k := 0) (n := 0) (Nat.le_of_ble_eq_true rfl) (Nat.le_of_ble_eq_true rfl) ?_
    exact W.zret (v := iI 0) hx hb hr (by first | decide | rfl) (fun t ht9 hW9 => ⟨⟨iI 0, 0, rfl, ⟨rfl, (by refine ⟨fun h => ?_, fun h => ?_⟩ <;> first | rfl | omega)⟩, ppk ht9 hP9⟩, hS.F ht9⟩) hS.2.2 dX10_isLetter_17
  · have c1 := bf_lt c1 ⟨by omega, by omega⟩ ⟨by omega, by omega⟩
    refine lv_iload_n hx hb dX10_isLetter_6 rfl (lv_at hl 0 rfl) ?_
    refine lv_bipush (v := iI (122)) hx hb dX10_isLetter_7 (by decide) ?_
    refine lv_icmp_gt (tgt := 16) hx hb dX10_isLetter_9 (by decide) (fun c2 => ?_) (fun c2 => ?_)
    · have c2 := bt_lt c2 ⟨by omega, by omega⟩ ⟨by omega, by omega⟩
      refine lv_iconst (v := iI (0)) hx hb dX10_isLetter_16 (by decide) ?_
      have hP9 := hP.sub (ws' := []) [] rfl
      have hK9 := hK.sub (tys' := []) [] rfl
      refine W.widen (k := 0) (n := 0) (Nat.le_of_ble_eq_true rfl) (Nat.le_of_ble_eq_true rfl) ?_
      exact W.zret (v := iI 0) hx hb hr (by first | decide | rfl) (fun t ht9 hW9 => ⟨⟨iI 0, 0, rfl, ⟨rfl, (by refine ⟨fun h => ?_, fun h => ?_⟩ <;> first | rfl | omega)⟩, ppk ht9 hP9⟩, hS.F ht9⟩) hS.2.2 dX10_isLetter_17
    · have c2 := bf_lt c2 ⟨by omega, by omega⟩ ⟨by omega, by omega⟩
      refine lv_iconst (v := iI (1)) hx hb dX10_isLetter_12 (by decide) ?_
      refine lv_goto (tgt := 17) hx hb dX10_isLetter_13 (by decide) ?_
      have hP9 := hP.sub (ws' := []) [] rfl
      have hK9 := hK.sub (tys' := []) [] rfl
      refine W.widen (k := 0) (n := 0) (Nat.le_of_ble_eq_true rfl) (Nat.le_of_ble_eq_true rfl) ?_
      exact W.zret (v := iI 1) hx hb hr (by first | decide | rfl) (fun t ht9 hW9 => ⟨⟨iI 1, 1, rfl, ⟨rfl, (by refine ⟨fun h => ?_, fun h => ?_⟩ <;> first | rfl | omega)⟩, ppk ht9 hP9⟩, hS.F ht9⟩) hS.2.2 dX10_isLetter_17
set_option maxHeartbeats 4000000 in
set_option maxRecDepth 100000 in
theorem k_X10_isDigit (l : Launch) (d0 : Nat) (cO : ClassId) (dC : Nat → ClassId) (dI : Nat → Nat → Nat) (sz : Nat) (a : Int) (ha : -2147483648 ≤ a ∧ a ≤ 2147483647) : Met l yX10_isDigit (cn yX10_isDigit cX10_isDigit 1 (some FieldType.boolean)) (rmd 0 0 0) (va_Pc [.int (iI a)] (PREp d0 cO (dC, dI) (va_A [] sz) [] [] sz)) (va_Qi (fun (r : Int32) (u : Int) => r = iI u ∧ ((48 ≤ a ∧ a ≤ 57 → u = 1) ∧ (¬ (48 ≤ a ∧ a ≤ 57) → u = 0))) (fun (u : Int) (t : State) => va_P (dC, dI) vwCl [] t.heap) (va_A [] sz)) 0 0 (va_A [] sz) := by
  refine Met.ofW (cc := cX10_isDigit) (maxL := 1) (ret := (some FieldType.boolean)) (by decide) rfl ?_
  intro p e s m args below meth c s₁ B hml hv
  obtain ⟨rfl, hsz, hE, hP, hK⟩ := hv
  have hx := B.exec
  have hb := B.bytes
  have hr := B.returns
  have hts := atoms_spec (ws := cn yX10_isDigit cX10_isDigit 1 (some FieldType.boolean)) B.pre
  have ht : ∀ w ∈ GT, w.before _ s = true := fun w h => hts w (List.mem_cons_of_mem _ h)
  have hown : s.vm.findClass RX10 = some m.cls := findClass_of_methodNamed B.named
  have hlocks := B.notSynchronized
  subst hsz
  generalize hAe : va_A [] s.heap.size = A at hE ⊢
  have hA : ∀ q : Nat, s.heap.size ≤ q → A q := fun q h => by rw [← hAe]; exact Or.inr h
  obtain ⟨H, hH0⟩ : ∃ H, s.heap = H := ⟨_, rfl⟩
  have hS : va_S A s.heap H [] := by rw [← hH0]; exact va_S.rf
  rw [hH0] at hP
  have hl := lv_entry ([.int (iI a)]) (n := 1) (Nat.le_of_ble_eq_true rfl)
  rw [lg_entry_eq]
  generalize (lg_sl ([.int (iI a)]) ++ List.replicate (1 - (lg_sl ([.int (iI a)])).length) Slot.unset).toArray = ls at hl ⊢
  have hl : lv_has ls 1 [(0, .int (iI a))] := hl
  rw [hH0]
  refine lv_iload_n hx hb dX10_isDigit_0 rfl (lv_at hl 0 rfl) ?_
  refine lv_bipush (v := iI (48)) hx hb dX10_isDigit_1 (by decide) ?_
  refine lv_icmp_lt (tgt := 16) hx hb dX10_isDigit_3 (by decide) (fun c1 => ?_) (fun c1 => ?_)
  · have c1 := bt_lt c1 ⟨by omega, by omega⟩ ⟨by omega, by omega⟩
    refine lv_iconst (v := iI (0)) hx hb dX10_isDigit_16 (by decide) ?_
    have hP9 := hP.sub (ws' := []) [] rfl
    have hK9 := hK.sub (tys' := []) [] rfl
    refine W.widen (k := 0) (n := 0) (Nat.le_of_ble_eq_true rfl) (Nat.le_of_ble_eq_true rfl) ?_
    exact W.zret (v := iI 0) hx hb hr (by first | decide | rfl) (fun t ht9 hW9 => ⟨⟨iI 0, 0, rfl, ⟨rfl, (by refine ⟨fun h => ?_, fun h => ?_⟩ <;> first | rfl | omega)⟩, ppk ht9 hP9⟩, hS.F ht9⟩) hS.2.2 dX10_isDigit_17
  · have c1 := bf_lt c1 ⟨by omega, by omega⟩ ⟨by omega, by omega⟩
    refine lv_iload_n hx hb dX10_isDigit_6 rfl (lv_at hl 0 rfl) ?_
    refine lv_bipush (v := iI (57)) hx hb dX10_isDigit_7 (by decide) ?_
    refine lv_icmp_gt (tgt := 16) hx hb dX10_isDigit_9 (by decide) (fun c2 => ?_) (fun c2 => ?_)
    · have c2 := bt_lt c2 ⟨by omega, by omega⟩ ⟨by omega, by omega⟩
      refine lv_iconst (v := iI (0)) hx hb dX10_isDigit_16 (by decide) ?_
      have hP9 := hP.sub (ws' := []) [] rfl
      have hK9 := hK.sub (tys' := []) [] rfl
      refine W.widen (k := 0) (n := 0) (Nat.le_of_ble_eq_true rfl) (Nat.le_of_ble_eq_true rfl) ?_
      exact W.zret (v := iI 0) hx hb hr (by first | decide | rfl) (fun t ht9 hW9 => ⟨⟨iI 0, 0, rfl, ⟨rfl, (by refine ⟨fun h => ?_, fun h => ?_⟩ <;> first | rfl | omega)⟩, ppk ht9 hP9⟩, hS.F ht9⟩) hS.2.2 dX10_isDigit_17
    · have c2 := bf_lt c2 ⟨by omega, by omega⟩ ⟨by omega, by omega⟩
      refine lv_iconst (v := iI (1)) hx hb dX10_isDigit_12 (by decide) ?_
      refine lv_goto (tgt := 17) hx hb dX10_isDigit_13 (by decide) ?_
      have hP9 := hP.sub (ws' := []) [] rfl
      have hK9 := hK.sub (tys' := []) [] rfl
      refine W.widen (k := 0) (n := 0) (Nat.le_of_ble_eq_true rfl) (Nat.le_of_ble_eq_true rfl) ?_
      exact W.zret (v := iI 1) hx hb hr (by first | decide | rfl) (fun t ht9 hW9 => ⟨⟨iI 1, 1, rfl, ⟨rfl, (by refine ⟨fun h => ?_, fun h => ?_⟩ <;> first | rfl | omega)⟩, ppk ht9 hP9⟩, hS.F ht9⟩) hS.2.2 dX10_isDigit_17
set_option maxHeartbeats 4000000 in
set_option maxRecDepth 100000 in
theorem k_X10_isFace (l : Launch) (d0 : Nat) (cO : ClassId) (dC : Nat → ClassId) (dI : Nat → Nat → Nat) (sz : Nat) (a : Int) (ha : -2147483648 ≤ a ∧ a ≤ 2147483647) : Met l yX10_isFace (cn yX10_isFace cX10_isFace 1 (some FieldType.boolean)) (rmd 0 0 0) (va_Pc [.int (iI a)] (PREp d0 cO (dC, dI) (va_A [] sz) [] [] sz)) (va_Qi (fun (r : Int32) (u : Int) => r = iI u ∧ ((128512 ≤ a ∧ a ≤ 128591 → u = 1) ∧ (¬ (128512 ≤ a ∧ a ≤ 128591) → u = 0))) (fun (u : Int) (t : State) => va_P (dC, dI) vwCl [] t.heap) (va_A [] sz)) 0 0 (va_A [] sz) := by
  refine Met.ofW (cc := cX10_isFace) (maxL := 1) (ret := (some FieldType.boolean)) (by decide) rfl ?_
  intro p e s m args below meth c s₁ B hml hv
  obtain ⟨rfl, hsz, hE, hP, hK⟩ := hv
  have hx := B.exec
  have hb := B.bytes
  have hr := B.returns
  have hts := atoms_spec (ws := cn yX10_isFace cX10_isFace 1 (some FieldType.boolean)) B.pre
  have ht : ∀ w ∈ GT, w.before _ s = true := fun w h => hts w (List.mem_cons_of_mem _ h)
  have hown : s.vm.findClass RX10 = some m.cls := findClass_of_methodNamed B.named
  have hlocks := B.notSynchronized
  subst hsz
  generalize hAe : va_A [] s.heap.size = A at hE ⊢
  have hA : ∀ q : Nat, s.heap.size ≤ q → A q := fun q h => by rw [← hAe]; exact Or.inr h
  obtain ⟨H, hH0⟩ : ∃ H, s.heap = H := ⟨_, rfl⟩
  have hS : va_S A s.heap H [] := by rw [← hH0]; exact va_S.rf
  rw [hH0] at hP
  have hl := lv_entry ([.int (iI a)]) (n := 1) (Nat.le_of_ble_eq_true rfl)
  rw [lg_entry_eq]
  generalize (lg_sl ([.int (iI a)]) ++ List.replicate (1 - (lg_sl ([.int (iI a)])).length) Slot.unset).toArray = ls at hl ⊢
  have hl : lv_has ls 1 [(0, .int (iI a))] := hl
  rw [hH0]
  refine lv_iload_n hx hb dX10_isFace_0 rfl (lv_at hl 0 rfl) ?_
  refine lv_ldc (v := 128512) hx hb hown (ht _ q634) dX10_isFace_1 ?_
  refine lv_topi (fun x1 ex1 => ?_)
  obtain rfl : x1 = iI 128512 := ex1.trans (by decide)
  refine lv_icmp_lt (tgt := 16) hx hb dX10_isFace_3 (by decide) (fun c2 => ?_) (fun c2 => ?_)
  · have c2 := bt_lt c2 ⟨by omega, by omega⟩ ⟨by omega, by omega⟩
    refine lv_iconst (v := iI (0)) hx hb dX10_isFace_16 (by decide) ?_
    have hP9 := hP.sub (ws' := []) [] rfl
    have hK9 := hK.sub (tys' := []) [] rfl
    refine W.widen (k := 0) (n := 0) (Nat.le_of_ble_eq_true rfl) (Nat.le_of_ble_eq_true rfl) ?_
    exact W.zret (v := iI 0) hx hb hr (by first | decide | rfl) (fun t ht9 hW9 => ⟨⟨iI 0, 0, rfl, ⟨rfl, (by refine ⟨fun h => ?_, fun h => ?_⟩ <;> first | rfl | omega)⟩, ppk ht9 hP9⟩, hS.F ht9⟩) hS.2.2 dX10_isFace_17
  · have c2 := bf_lt c2 ⟨by omega, by omega⟩ ⟨by omega, by omega⟩
    refine lv_iload_n hx hb dX10_isFace_6 rfl (lv_at hl 0 rfl) ?_
    refine lv_ldc (v := 128591) hx hb hown (ht _ q635) dX10_isFace_7 ?_
    refine lv_topi (fun x3 ex3 => ?_)
    obtain rfl : x3 = iI 128591 := ex3.trans (by decide)
    refine lv_icmp_gt (tgt := 16) hx hb dX10_isFace_9 (by decide) (fun c4 => ?_) (fun c4 => ?_)
    · have c4 := bt_lt c4 ⟨by omega, by omega⟩ ⟨by omega, by omega⟩
      refine lv_iconst (v := iI (0)) hx hb dX10_isFace_16 (by decide) ?_
      have hP9 := hP.sub (ws' := []) [] rfl
      have hK9 := hK.sub (tys' := []) [] rfl
      refine W.widen (k := 0) (n := 0) (Nat.le_of_ble_eq_true rfl) (Nat.le_of_ble_eq_true rfl) ?_
      exact W.zret (v := iI 0) hx hb hr (by first | decide | rfl) (fun t ht9 hW9 => ⟨⟨iI 0, 0, rfl, ⟨rfl, (by refine ⟨fun h => ?_, fun h => ?_⟩ <;> first | rfl | omega)⟩, ppk ht9 hP9⟩, hS.F ht9⟩) hS.2.2 dX10_isFace_17
    · have c4 := bf_lt c4 ⟨by omega, by omega⟩ ⟨by omega, by omega⟩
      refine lv_iconst (v := iI (1)) hx hb dX10_isFace_12 (by decide) ?_
      refine lv_goto (tgt := 17) hx hb dX10_isFace_13 (by decide) ?_
      have hP9 := hP.sub (ws' := []) [] rfl
      have hK9 := hK.sub (tys' := []) [] rfl
      refine W.widen (k := 0) (n := 0) (Nat.le_of_ble_eq_true rfl) (Nat.le_of_ble_eq_true rfl) ?_
      exact W.zret (v := iI 1) hx hb hr (by first | decide | rfl) (fun t ht9 hW9 => ⟨⟨iI 1, 1, rfl, ⟨rfl, (by refine ⟨fun h => ?_, fun h => ?_⟩ <;> first | rfl | omega)⟩, ppk ht9 hP9⟩, hS.F ht9⟩) hS.2.2 dX10_isFace_17
set_option maxHeartbeats 4000000 in
set_option maxRecDepth 100000 in
theorem k_X10_unitsOf (l : Launch) (d0 : Nat) (cO : ClassId) (dC : Nat → ClassId) (dI : Nat → Nat → Nat) (sz : Nat) (a : Int) (ha : -2147483648 ≤ a ∧ a ≤ 2147483647) : Met l yX10_unitsOf (cn yX10_unitsOf cX10_unitsOf 1 (some FieldType.int)) (rmd 0 0 0) (va_Pc [.int (iI a)] (PREp d0 cO (dC, dI) (va_A [] sz) [] [] sz)) (va_Qi (fun (r : Int32) (u : Int) => r = iI u ∧ ((a = -1 → u = 0) ∧ (a ≠ -1 → 128512 ≤ a → u = 2) ∧ (a ≠ -1 → a < 128512 → u = 1))) (fun (u : Int) (t : State) => va_P (dC, dI) vwCl [] t.heap) (va_A [] sz)) 0 0 (va_A [] sz) := by
  refine Met.ofW (cc := cX10_unitsOf) (maxL := 1) (ret := (some FieldType.int)) (by decide) rfl ?_
  intro p e s m args below meth c s₁ B hml hv
  obtain ⟨rfl, hsz, hE, hP, hK⟩ := hv
  have hx := B.exec
  have hb := B.bytes
  have hr := B.returns
  have hts := atoms_spec (ws := cn yX10_unitsOf cX10_unitsOf 1 (some FieldType.int)) B.pre
  have ht : ∀ w ∈ GT, w.before _ s = true := fun w h => hts w (List.mem_cons_of_mem _ h)
  have hown : s.vm.findClass RX10 = some m.cls := findClass_of_methodNamed B.named
  have hlocks := B.notSynchronized
  subst hsz
  generalize hAe : va_A [] s.heap.size = A at hE ⊢
  have hA : ∀ q : Nat, s.heap.size ≤ q → A q := fun q h => by rw [← hAe]; exact Or.inr h
  obtain ⟨H, hH0⟩ : ∃ H, s.heap = H := ⟨_, rfl⟩
  have hS : va_S A s.heap H [] := by rw [← hH0]; exact va_S.rf
  rw [hH0] at hP
  have hl := lv_entry ([.int (iI a)]) (n := 1) (Nat.le_of_ble_eq_true rfl)
  rw [lg_entry_eq]
  generalize (lg_sl ([.int (iI a)]) ++ List.replicate (1 - (lg_sl ([.int (iI a)])).length) Slot.unset).toArray = ls at hl ⊢
  have hl : lv_has ls 1 [(0, .int (iI a))] := hl
  rw [hH0]
  refine lv_iload_n hx hb dX10_unitsOf_0 rfl (lv_at hl 0 rfl) ?_
  refine lv_iconst (v := iI (-1)) hx hb dX10_unitsOf_1 (by decide) ?_
  refine lv_icmp_ne (tgt := 7) hx hb dX10_unitsOf_2 (by decide) (fun c1 => ?_) (fun c1 => ?_)
  · have c1 := bf_eq c1 ⟨by omega, by omega⟩ ⟨by omega, by omega⟩
    refine lv_iload_n hx hb dX10_unitsOf_7 rfl (lv_at hl 0 rfl) ?_
    refine lv_ldc (v := 128512) hx hb hown (ht _ q634) dX10_unitsOf_8 ?_
    refine lv_topi (fun x2 ex2 => ?_)
    obtain rfl : x2 = iI 128512 := ex2.trans (by decide)
    refine lv_icmp_lt (tgt := 17) hx hb dX10_unitsOf_10 (by decide) (fun c3 => ?_) (fun c3 => ?_)
    · have c3 := bt_lt c3 ⟨by omega, by omega⟩ ⟨by omega, by omega⟩
      refine lv_iconst (v := iI (1)) hx hb dX10_unitsOf_17 (by decide) ?_
      have hP9 := hP.sub (ws' := []) [] rfl
      have hK9 := hK.sub (tys' := []) [] rfl
      refine W.widen (k := 0) (n := 0) (Nat.le_of_ble_eq_true rfl) (Nat.le_of_ble_eq_true rfl) ?_
      exact W.iret (v := iI 1) hx hb hr (fun t ht9 hW9 => ⟨⟨iI 1, 1, rfl, ⟨rfl, (by refine ⟨fun h => ?_, fun h h2 => ?_, fun h h2 => ?_⟩ <;> first | rfl | omega)⟩, ppk ht9 hP9⟩, hS.F ht9⟩) hS.2.2 dX10_unitsOf_18
    · have c3 := bf_lt c3 ⟨by omega, by omega⟩ ⟨by omega, by omega⟩
      refine lv_iconst (v := iI (2)) hx hb dX10_unitsOf_13 (by decide) ?_
      refine lv_goto (tgt := 18) hx hb dX10_unitsOf_14 (by decide) ?_
      have hP9 := hP.sub (ws' := []) [] rfl
      have hK9 := hK.sub (tys' := []) [] rfl
      refine W.widen (k := 0) (n := 0) (Nat.le_of_ble_eq_true rfl) (Nat.le_of_ble_eq_true rfl) ?_
      exact W.iret (v := iI 2) hx hb hr (fun t ht9 hW9 => ⟨⟨iI 2, 2, rfl, ⟨rfl, (by refine ⟨fun h => ?_, fun h h2 => ?_, fun h h2 => ?_⟩ <;> first | rfl | omega)⟩, ppk ht9 hP9⟩, hS.F ht9⟩) hS.2.2 dX10_unitsOf_18
  · have c1 := bt_eq c1 ⟨by omega, by omega⟩ ⟨by omega, by omega⟩
    refine lv_iconst (v := iI (0)) hx hb dX10_unitsOf_5 (by decide) ?_
    have hP9 := hP.sub (ws' := []) [] rfl
    have hK9 := hK.sub (tys' := []) [] rfl
    refine W.widen (k := 0) (n := 0) (Nat.le_of_ble_eq_true rfl) (Nat.le_of_ble_eq_true rfl) ?_
    exact W.iret (v := iI 0) hx hb hr (fun t ht9 hW9 => ⟨⟨iI 0, 0, rfl, ⟨rfl, (by refine ⟨fun h => ?_, fun h h2 => ?_, fun h h2 => ?_⟩ <;> first | rfl | omega)⟩, ppk ht9 hP9⟩, hS.F ht9⟩) hS.2.2 dX10_unitsOf_6
set_option maxHeartbeats 4000000 in
set_option maxRecDepth 100000 in
theorem k_X10_size (l : Launch) (d0 : Nat) (cO : ClassId) (dC : Nat → ClassId) (dI : Nat → Nat → Nat) (sz : Nat) (t0 u0 : Nat) (tC : ClassId) (n : Int) (f : Int → Int) (hn : 0 ≤ n ∧ n ≤ 100) (hf : ∀ k : Int, 0 ≤ f k ∧ f k < 65536) : Met l yX10_size (cn yX10_size cX10_size 1 (some FieldType.int)) (rmd 0 0 0) (va_Pc [.ref t0] (PREp d0 cO (dC, dI) (va_A [] sz) [(t0, .inr (11, [.ref u0, .int (iI n)])), (u0, .inl (tC, 100, .inl (fun k : Nat => iI (f k))))] [(tC, .char)] sz)) (va_Qi (fun (r : Int32) (u : Int) => r = iI u ∧ (u = n)) (fun (u : Int) (t : State) => va_P (dC, dI) vwCl [] t.heap) (va_A [] sz)) 0 0 (va_A [] sz) := by
  refine Met.ofW (cc := cX10_size) (maxL := 1) (ret := (some FieldType.int)) (by decide) rfl ?_
  intro p e s m args below meth c s₁ B hml hv
  obtain ⟨rfl, hsz, hE, hP, hK⟩ := hv
  have hx := B.exec
  have hb := B.bytes
  have hr := B.returns
  have hts := atoms_spec (ws := cn yX10_size cX10_size 1 (some FieldType.int)) B.pre
  have ht : ∀ w ∈ GT, w.before _ s = true := fun w h => hts w (List.mem_cons_of_mem _ h)
  have hown : s.vm.findClass RX10 = some m.cls := findClass_of_methodNamed B.named
  have hlocks := B.notSynchronized
  subst hsz
  generalize hAe : va_A [] s.heap.size = A at hE ⊢
  have hA : ∀ q : Nat, s.heap.size ≤ q → A q := fun q h => by rw [← hAe]; exact Or.inr h
  obtain ⟨H, hH0⟩ : ∃ H, s.heap = H := ⟨_, rfl⟩
  have hS : va_S A s.heap H [] := by rw [← hH0]; exact va_S.rf
  rw [hH0] at hP
  have hl := lv_entry ([.ref t0]) (n := 1) (Nat.le_of_ble_eq_true rfl)
  rw [lg_entry_eq]
  generalize (lg_sl ([.ref t0]) ++ List.replicate (1 - (lg_sl ([.ref t0])).length) Slot.unset).toArray = ls at hl ⊢
  have hl : lv_has ls 1 [(0, .ref t0)] := hl
  rw [hH0]
  refine lv_aload_n hx hb dX10_size_0 rfl (lv_at hl 0 rfl) ?_
  refine va_get (D := (dC, dI)) (ci := 11) (v := .int (iI n)) (C := RX10) (T := TX10) (N := 2) hx hb ht inGX10 hown hK hP 0 rfl rfl 1 (by decide) (ht _ q95) (fun _ h9 => h9) rfl dX10_size_1 ?_
  have hP9 := hP.sub (ws' := []) [] rfl
  have hK9 := hK.sub (tys' := [(tC, .char)]) [0] rfl
  refine W.widen (k := 0) (n := 0) (Nat.le_of_ble_eq_true rfl) (Nat.le_of_ble_eq_true rfl) ?_
  exact W.iret (v := iI n) hx hb hr (fun t ht9 hW9 => ⟨⟨iI n, n, rfl, ⟨rfl, rfl⟩, ppk ht9 hP9⟩, hS.F ht9⟩) hS.2.2 dX10_size_4
set_option maxHeartbeats 4000000 in
set_option maxRecDepth 100000 in
theorem k_X10_at (l : Launch) (d0 : Nat) (cO : ClassId) (dC : Nat → ClassId) (dI : Nat → Nat → Nat) (sz : Nat) (t0 u0 : Nat) (tC : ClassId) (n : Int) (f : Int → Int) (hn : 0 ≤ n ∧ n ≤ 100) (hf : ∀ k : Int, 0 ≤ f k ∧ f k < 65536) (a : Int) (ha : -2147483648 ≤ a ∧ a ≤ 2147483647) : Met l yX10_at (cn yX10_at cX10_at 2 (some FieldType.int)) (rmd 0 0 0) (va_Pc [.ref t0, .int (iI a)] (PREp d0 cO (dC, dI) (va_A [] sz) [(t0, .inr (11, [.ref u0, .int (iI n)])), (u0, .inl (tC, 100, .inl (fun k : Nat => iI (f k))))] [(tC, .char)] sz)) (va_Qi (fun (r : Int32) (u : Int) => r = iI u ∧ ((0 ≤ a ∧ a < n → u = f a) ∧ (¬ (0 ≤ a ∧ a < n) → u = -1))) (fun (u : Int) (t : State) => va_P (dC, dI) vwCl [] t.heap) (va_A [] sz)) 0 0 (va_A [] sz) := by
  refine Met.ofW (cc := cX10_at) (maxL := 2) (ret := (some FieldType.int)) (by decide) rfl ?_
  intro p e s m args below meth c s₁ B hml hv
  obtain ⟨rfl, hsz, hE, hP, hK⟩ := hv
  have hx := B.exec
  have hb := B.bytes
  have hr := B.returns
  have hts := atoms_spec (ws := cn yX10_at cX10_at 2 (some FieldType.int)) B.pre
  have ht : ∀ w ∈ GT, w.before _ s = true := fun w h => hts w (List.mem_cons_of_mem _ h)
  have hown : s.vm.findClass RX10 = some m.cls := findClass_of_methodNamed B.named
  have hlocks := B.notSynchronized
  subst hsz
  generalize hAe : va_A [] s.heap.size = A at hE ⊢
  have hA : ∀ q : Nat, s.heap.size ≤ q → A q := fun q h => by rw [← hAe]; exact Or.inr h
  obtain ⟨H, hH0⟩ : ∃ H, s.heap = H := ⟨_, rfl⟩
  have hS : va_S A s.heap H [] := by rw [← hH0]; exact va_S.rf
  rw [hH0] at hP
  have hl := lv_entry ([.ref t0, .int (iI a)]) (n := 2) (Nat.le_of_ble_eq_true rfl)
  rw [lg_entry_eq]
  generalize (lg_sl ([.ref t0, .int (iI a)]) ++ List.replicate (2 - (lg_sl ([.ref t0, .int (iI a)])).length) Slot.unset).toArray = ls at hl ⊢
  have hl : lv_has ls 2 [(0, .ref t0), (1, .int (iI a))] := hl
  rw [hH0]
  refine lv_iload_n hx hb dX10_at_0 rfl (lv_at hl 1 rfl) ?_
  refine lv_if_lt (tgt := 30) hx hb dX10_at_1 (by decide) (fun c1 => ?_) (fun c1 => ?_)
  · have c1 := bt_lt0 c1 ⟨by omega, by omega⟩
    refine lv_iconst (v := iI (-1)) hx hb dX10_at_30 (by decide) ?_
    have hP9 := hP.sub (ws' := []) [] rfl
    have hK9 := hK.sub (tys' := [(tC, .char)]) [0] rfl
    refine W.widen (k := 0) (n := 0) (Nat.le_of_ble_eq_true rfl) (Nat.le_of_ble_eq_true rfl) ?_
    exact W.iret (v := iI ((-1))) hx hb hr (fun t ht9 hW9 => ⟨⟨iI ((-1)), (-1), rfl, ⟨rfl, (by refine ⟨fun h => ?_, fun h => ?_⟩ <;> first | rfl | omega)⟩, ppk ht9 hP9⟩, hS.F ht9⟩) hS.2.2 dX10_at_31
  · have c1 := bf_lt0 c1 ⟨by omega, by omega⟩
    refine lv_iload_n hx hb dX10_at_4 rfl (lv_at hl 1 rfl) ?_
    refine lv_aload_n hx hb dX10_at_5 rfl (lv_at hl 0 rfl) ?_
    refine va_get (D := (dC, dI)) (ci := 11) (v := .int (iI n)) (C := RX10) (T := TX10) (N := 2) hx hb ht inGX10 hown hK hP 0 rfl rfl 1 (by decide) (ht _ q95) (fun _ h9 => h9) rfl dX10_at_6 ?_
    refine lv_icmp_ge (tgt := 30) hx hb dX10_at_9 (by decide) (fun c2 => ?_) (fun c2 => ?_)
    · have c2 := bt_le c2 ⟨by omega, by omega⟩ ⟨by omega, by omega⟩
      refine lv_iconst (v := iI (-1)) hx hb dX10_at_30 (by decide) ?_
      have hP9 := hP.sub (ws' := []) [] rfl
      have hK9 := hK.sub (tys' := [(tC, .char)]) [0] rfl
      refine W.widen (k := 0) (n := 0) (Nat.le_of_ble_eq_true rfl) (Nat.le_of_ble_eq_true rfl) ?_
      exact W.iret (v := iI ((-1))) hx hb hr (fun t ht9 hW9 => ⟨⟨iI ((-1)), (-1), rfl, ⟨rfl, (by refine ⟨fun h => ?_, fun h => ?_⟩ <;> first | rfl | omega)⟩, ppk ht9 hP9⟩, hS.F ht9⟩) hS.2.2 dX10_at_31
    · have c2 := bf_le c2 ⟨by omega, by omega⟩ ⟨by omega, by omega⟩
      refine lv_iload_n hx hb dX10_at_12 rfl (lv_at hl 1 rfl) ?_
      refine lv_aload_n hx hb dX10_at_13 rfl (lv_at hl 0 rfl) ?_
      refine va_get (D := (dC, dI)) (ci := 11) (v := .ref u0) (C := RX10) (T := TX10) (N := 2) hx hb ht inGX10 hown hK hP 0 rfl rfl 0 (by decide) (ht _ q94) (fun _ h9 => h9) rfl dX10_at_14 ?_
      refine va_alen (v := iI 100) hx hb hK hP 1 0 rfl rfl (show Int32.ofNat 100 = iI 100 from by decide) dX10_at_17 ?_
      refine lv_icmp_ge (tgt := 30) hx hb dX10_at_18 (by decide) (fun c3 => ?_) (fun c3 => ?_)
      · have c3 := bt_le c3 ⟨by omega, by omega⟩ ⟨by omega, by omega⟩
        refine lv_iconst (v := iI (-1)) hx hb dX10_at_30 (by decide) ?_
        have hP9 := hP.sub (ws' := []) [] rfl
        have hK9 := hK.sub (tys' := [(tC, .char)]) [0] rfl
        refine W.widen (k := 0) (n := 0) (Nat.le_of_ble_eq_true rfl) (Nat.le_of_ble_eq_true rfl) ?_
        exact W.iret (v := iI ((-1))) hx hb hr (fun t ht9 hW9 => ⟨⟨iI ((-1)), (-1), rfl, ⟨rfl, (by refine ⟨fun h => ?_, fun h => ?_⟩ <;> first | rfl | omega)⟩, ppk ht9 hP9⟩, hS.F ht9⟩) hS.2.2 dX10_at_31
      · have c3 := bf_le c3 ⟨by omega, by omega⟩ ⟨by omega, by omega⟩
        refine lv_aload_n hx hb dX10_at_21 rfl (lv_at hl 0 rfl) ?_
        refine va_get (D := (dC, dI)) (ci := 11) (v := .ref u0) (C := RX10) (T := TX10) (N := 2) hx hb ht inGX10 hown hK hP 0 rfl rfl 0 (by decide) (ht _ q94) (fun _ h9 => h9) rfl dX10_at_22 ?_
        refine lv_iload_n hx hb dX10_at_25 rfl (lv_at hl 1 rfl) ?_
        refine va_cald hx hb hK hP 1 0 rfl rfl (iI_in (by omega) (by omega) (by omega)) dX10_at_26 ?_
        refine lv_topi (fun x4 ex4 => ?_)
        obtain rfl : x4 = iI ((f a)) := ex4.trans (congrArg (fun q => iI (f q)) (iI_clamp (by omega) (by omega)))
        have hu5 := hf a
        refine lv_goto (tgt := 31) hx hb dX10_at_27 (by decide) ?_
        have hP9 := hP.sub (ws' := []) [] rfl
        have hK9 := hK.sub (tys' := [(tC, .char)]) [0] rfl
        refine W.widen (k := 0) (n := 0) (Nat.le_of_ble_eq_true rfl) (Nat.le_of_ble_eq_true rfl) ?_
        exact W.iret (v := iI ((f a))) hx hb hr (fun t ht9 hW9 => ⟨⟨iI ((f a)), (f a), rfl, ⟨rfl, (by refine ⟨fun h => ?_, fun h => ?_⟩ <;> first | rfl | omega)⟩, ppk ht9 hP9⟩, hS.F ht9⟩) hS.2.2 dX10_at_31
set_option maxHeartbeats 4000000 in
set_option maxRecDepth 100000 in
theorem k_X10_sortAt (l : Launch) (d0 : Nat) (cO : ClassId) (dC : Nat → ClassId) (dI : Nat → Nat → Nat) (sz : Nat) (t0 u0 : Nat) (tC : ClassId) (n : Int) (f : Int → Int) (hn : 0 ≤ n ∧ n ≤ 100) (hf : ∀ k : Int, 0 ≤ f k ∧ f k < 65536) (a : Int) (ha : -2147483648 ≤ a ∧ a ≤ 2147483647) : Met l yX10_sortAt (cn yX10_sortAt cX10_sortAt 3 (some FieldType.int)) (rmd 0 0 0) (va_Pc [.ref t0, .int (iI a)] (PREp d0 cO (dC, dI) (va_A [] sz) [(t0, .inr (11, [.ref u0, .int (iI n)])), (u0, .inl (tC, 100, .inl (fun k : Nat => iI (f k))))] [(tC, .char)] sz)) (va_Qi (fun (r : Int32) (u : Int) => r = iI u ∧ (u = sortI f n a)) (fun (u : Int) (t : State) => va_P (dC, dI) vwCl [] t.heap) (va_A [] sz)) 0 0 (va_A [] sz) := by
  refine Met.ofW (cc := cX10_sortAt) (maxL := 3) (ret := (some FieldType.int)) (by decide) rfl ?_
  intro p e s m args below meth c s₁ B hml hv
  obtain ⟨rfl, hsz, hE, hP, hK⟩ := hv
  have hx := B.exec
  have hb := B.bytes
  have hr := B.returns
  have hts := atoms_spec (ws := cn yX10_sortAt cX10_sortAt 3 (some FieldType.int)) B.pre
  have ht : ∀ w ∈ GT, w.before _ s = true := fun w h => hts w (List.mem_cons_of_mem _ h)
  have hown : s.vm.findClass RX10 = some m.cls := findClass_of_methodNamed B.named
  have hlocks := B.notSynchronized
  subst hsz
  generalize hAe : va_A [] s.heap.size = A at hE ⊢
  have hA : ∀ q : Nat, s.heap.size ≤ q → A q := fun q h => by rw [← hAe]; exact Or.inr h
  obtain ⟨H, hH0⟩ : ∃ H, s.heap = H := ⟨_, rfl⟩
  have hS : va_S A s.heap H [] := by rw [← hH0]; exact va_S.rf
  rw [hH0] at hP
  have hl := lv_entry ([.ref t0, .int (iI a)]) (n := 3) (Nat.le_of_ble_eq_true rfl)
  rw [lg_entry_eq]
  generalize (lg_sl ([.ref t0, .int (iI a)]) ++ List.replicate (3 - (lg_sl ([.ref t0, .int (iI a)])).length) Slot.unset).toArray = ls at hl ⊢
  have hl : lv_has ls 3 [(0, .ref t0), (1, .int (iI a))] := hl
  rw [hH0]
  refine lv_iload_n hx hb dX10_sortAt_0 rfl (lv_at hl 1 rfl) ?_
  refine lv_if_lt (tgt := 30) hx hb dX10_sortAt_1 (by decide) (fun c1 => ?_) (fun c1 => ?_)
  · have c1 := bt_lt0 c1 ⟨by omega, by omega⟩
    refine lv_iconst (v := iI (-1)) hx hb dX10_sortAt_30 (by decide) ?_
    refine lv_istore_n (lv' := [(2, .int (iI ((-1)))), (0, .ref t0), (1, .int (iI a))]) hx hb dX10_sortAt_31 rfl hl (by decide) rfl (fun ls hl => ?_)
    refine lv_iload_n hx hb dX10_sortAt_32 rfl (lv_at hl 0 rfl) ?_
    refine lv_bipush (v := iI (97)) hx hb dX10_sortAt_33 (by decide) ?_
    refine lv_icmp_lt (tgt := 46) hx hb dX10_sortAt_35 (by decide) (fun c2 => ?_) (fun c2 => False.elim (by revert c2; decide))
    refine lv_iload_n hx hb dX10_sortAt_46 rfl (lv_at hl 0 rfl) ?_
    refine lv_bipush (v := iI (48)) hx hb dX10_sortAt_47 (by decide) ?_
    refine lv_icmp_lt (tgt := 62) hx hb dX10_sortAt_49 (by decide) (fun c3 => ?_) (fun c3 => False.elim (by revert c3; decide))
    refine lv_iconst (v := iI (-1)) hx hb dX10_sortAt_62 (by decide) ?_
    have hP9 := hP.sub (ws' := []) [] rfl
    have hK9 := hK.sub (tys' := [(tC, .char)]) [0] rfl
    refine W.widen (k := 0) (n := 0) (Nat.le_of_ble_eq_true rfl) (Nat.le_of_ble_eq_true rfl) ?_
    exact W.iret (v := iI ((-1))) hx hb hr (fun t ht9 hW9 => ⟨⟨iI ((-1)), (-1), rfl, ⟨rfl, (by unfold sortI; (repeat' split) <;> first | rfl | omega)⟩, ppk ht9 hP9⟩, hS.F ht9⟩) hS.2.2 dX10_sortAt_63
  · have c1 := bf_lt0 c1 ⟨by omega, by omega⟩
    refine lv_iload_n hx hb dX10_sortAt_4 rfl (lv_at hl 1 rfl) ?_
    refine lv_aload_n hx hb dX10_sortAt_5 rfl (lv_at hl 0 rfl) ?_
    refine va_get (D := (dC, dI)) (ci := 11) (v := .int (iI n)) (C := RX10) (T := TX10) (N := 2) hx hb ht inGX10 hown hK hP 0 rfl rfl 1 (by decide) (ht _ q95) (fun _ h9 => h9) rfl dX10_sortAt_6 ?_
    refine lv_icmp_ge (tgt := 30) hx hb dX10_sortAt_9 (by decide) (fun c4 => ?_) (fun c4 => ?_)
    · have c4 := bt_le c4 ⟨by omega, by omega⟩ ⟨by omega, by omega⟩
      refine lv_iconst (v := iI (-1)) hx hb dX10_sortAt_30 (by decide) ?_
      refine lv_istore_n (lv' := [(2, .int (iI ((-1)))), (0, .ref t0), (1, .int (iI a))]) hx hb dX10_sortAt_31 rfl hl (by decide) rfl (fun ls hl => ?_)
      refine lv_iload_n hx hb dX10_sortAt_32 rfl (lv_at hl 0 rfl) ?_
      refine lv_bipush (v := iI (97)) hx hb dX10_sortAt_33 (by decide) ?_
      refine lv_icmp_lt (tgt := 46) hx hb dX10_sortAt_35 (by decide) (fun c5 => ?_) (fun c5 => False.elim (by revert c5; decide))
      refine lv_iload_n hx hb dX10_sortAt_46 rfl (lv_at hl 0 rfl) ?_
      refine lv_bipush (v := iI (48)) hx hb dX10_sortAt_47 (by decide) ?_
      refine lv_icmp_lt (tgt := 62) hx hb dX10_sortAt_49 (by decide) (fun c6 => ?_) (fun c6 => False.elim (by revert c6; decide))
      refine lv_iconst (v := iI (-1)) hx hb dX10_sortAt_62 (by decide) ?_
      have hP9 := hP.sub (ws' := []) [] rfl
      have hK9 := hK.sub (tys' := [(tC, .char)]) [0] rfl
      refine W.widen (k := 0) (n := 0) (Nat.le_of_ble_eq_true rfl) (Nat.le_of_ble_eq_true rfl) ?_
      exact W.iret (v := iI ((-1))) hx hb hr (fun t ht9 hW9 => ⟨⟨iI ((-1)), (-1), rfl, ⟨rfl, (by unfold sortI; (repeat' split) <;> first | rfl | omega)⟩, ppk ht9 hP9⟩, hS.F ht9⟩) hS.2.2 dX10_sortAt_63
    · have c4 := bf_le c4 ⟨by omega, by omega⟩ ⟨by omega, by omega⟩
      refine lv_iload_n hx hb dX10_sortAt_12 rfl (lv_at hl 1 rfl) ?_
      refine lv_aload_n hx hb dX10_sortAt_13 rfl (lv_at hl 0 rfl) ?_
      refine va_get (D := (dC, dI)) (ci := 11) (v := .ref u0) (C := RX10) (T := TX10) (N := 2) hx hb ht inGX10 hown hK hP 0 rfl rfl 0 (by decide) (ht _ q94) (fun _ h9 => h9) rfl dX10_sortAt_14 ?_
      refine va_alen (v := iI 100) hx hb hK hP 1 0 rfl rfl (show Int32.ofNat 100 = iI 100 from by decide) dX10_sortAt_17 ?_
      refine lv_icmp_ge (tgt := 30) hx hb dX10_sortAt_18 (by decide) (fun c7 => ?_) (fun c7 => ?_)
      · have c7 := bt_le c7 ⟨by omega, by omega⟩ ⟨by omega, by omega⟩
        refine lv_iconst (v := iI (-1)) hx hb dX10_sortAt_30 (by decide) ?_
        refine lv_istore_n (lv' := [(2, .int (iI ((-1)))), (0, .ref t0), (1, .int (iI a))]) hx hb dX10_sortAt_31 rfl hl (by decide) rfl (fun ls hl => ?_)
        refine lv_iload_n hx hb dX10_sortAt_32 rfl (lv_at hl 0 rfl) ?_
        refine lv_bipush (v := iI (97)) hx hb dX10_sortAt_33 (by decide) ?_
        refine lv_icmp_lt (tgt := 46) hx hb dX10_sortAt_35 (by decide) (fun c8 => ?_) (fun c8 => False.elim (by revert c8; decide))
        refine lv_iload_n hx hb dX10_sortAt_46 rfl (lv_at hl 0 rfl) ?_
        refine lv_bipush (v := iI (48)) hx hb dX10_sortAt_47 (by decide) ?_
        refine lv_icmp_lt (tgt := 62) hx hb dX10_sortAt_49 (by decide) (fun c9 => ?_) (fun c9 => False.elim (by revert c9; decide))
        refine lv_iconst (v := iI (-1)) hx hb dX10_sortAt_62 (by decide) ?_
        have hP9 := hP.sub (ws' := []) [] rfl
        have hK9 := hK.sub (tys' := [(tC, .char)]) [0] rfl
        refine W.widen (k := 0) (n := 0) (Nat.le_of_ble_eq_true rfl) (Nat.le_of_ble_eq_true rfl) ?_
        exact W.iret (v := iI ((-1))) hx hb hr (fun t ht9 hW9 => ⟨⟨iI ((-1)), (-1), rfl, ⟨rfl, (by unfold sortI; (repeat' split) <;> first | rfl | omega)⟩, ppk ht9 hP9⟩, hS.F ht9⟩) hS.2.2 dX10_sortAt_63
      · have c7 := bf_le c7 ⟨by omega, by omega⟩ ⟨by omega, by omega⟩
        refine lv_aload_n hx hb dX10_sortAt_21 rfl (lv_at hl 0 rfl) ?_
        refine va_get (D := (dC, dI)) (ci := 11) (v := .ref u0) (C := RX10) (T := TX10) (N := 2) hx hb ht inGX10 hown hK hP 0 rfl rfl 0 (by decide) (ht _ q94) (fun _ h9 => h9) rfl dX10_sortAt_22 ?_
        refine lv_iload_n hx hb dX10_sortAt_25 rfl (lv_at hl 1 rfl) ?_
        refine va_cald hx hb hK hP 1 0 rfl rfl (iI_in (by omega) (by omega) (by omega)) dX10_sortAt_26 ?_
        refine lv_topi (fun x10 ex10 => ?_)
        obtain rfl : x10 = iI ((f a)) := ex10.trans (congrArg (fun q => iI (f q)) (iI_clamp (by omega) (by omega)))
        have hu11 := hf a
        refine lv_goto (tgt := 31) hx hb dX10_sortAt_27 (by decide) ?_
        refine lv_istore_n (lv' := [(2, .int (iI ((f a)))), (0, .ref t0), (1, .int (iI a))]) hx hb dX10_sortAt_31 rfl hl (by decide) rfl (fun ls hl => ?_)
        refine lv_iload_n hx hb dX10_sortAt_32 rfl (lv_at hl 0 rfl) ?_
        refine lv_bipush (v := iI (97)) hx hb dX10_sortAt_33 (by decide) ?_
        refine lv_icmp_lt (tgt := 46) hx hb dX10_sortAt_35 (by decide) (fun c12 => ?_) (fun c12 => ?_)
        · have c12 := bt_lt c12 ⟨by omega, by omega⟩ ⟨by omega, by omega⟩
          refine lv_iload_n hx hb dX10_sortAt_46 rfl (lv_at hl 0 rfl) ?_
          refine lv_bipush (v := iI (48)) hx hb dX10_sortAt_47 (by decide) ?_
          refine lv_icmp_lt (tgt := 62) hx hb dX10_sortAt_49 (by decide) (fun c13 => ?_) (fun c13 => ?_)
          · have c13 := bt_lt c13 ⟨by omega, by omega⟩ ⟨by omega, by omega⟩
            refine lv_iconst (v := iI (-1)) hx hb dX10_sortAt_62 (by decide) ?_
            have hP9 := hP.sub (ws' := []) [] rfl
            have hK9 := hK.sub (tys' := [(tC, .char)]) [0] rfl
            refine W.widen (k := 0) (n := 0) (Nat.le_of_ble_eq_true rfl) (Nat.le_of_ble_eq_true rfl) ?_
            exact W.iret (v := iI ((-1))) hx hb hr (fun t ht9 hW9 => ⟨⟨iI ((-1)), (-1), rfl, ⟨rfl, (by unfold sortI; (repeat' split) <;> first | rfl | omega)⟩, ppk ht9 hP9⟩, hS.F ht9⟩) hS.2.2 dX10_sortAt_63
          · have c13 := bf_lt c13 ⟨by omega, by omega⟩ ⟨by omega, by omega⟩
            refine lv_iload_n hx hb dX10_sortAt_52 rfl (lv_at hl 0 rfl) ?_
            refine lv_bipush (v := iI (57)) hx hb dX10_sortAt_53 (by decide) ?_
            refine lv_icmp_gt (tgt := 62) hx hb dX10_sortAt_55 (by decide) (fun c14 => ?_) (fun c14 => ?_)
            · have c14 := bt_lt c14 ⟨by omega, by omega⟩ ⟨by omega, by omega⟩
              refine lv_iconst (v := iI (-1)) hx hb dX10_sortAt_62 (by decide) ?_
              have hP9 := hP.sub (ws' := []) [] rfl
              have hK9 := hK.sub (tys' := [(tC, .char)]) [0] rfl
              refine W.widen (k := 0) (n := 0) (Nat.le_of_ble_eq_true rfl) (Nat.le_of_ble_eq_true rfl) ?_
              exact W.iret (v := iI ((-1))) hx hb hr (fun t ht9 hW9 => ⟨⟨iI ((-1)), (-1), rfl, ⟨rfl, (by unfold sortI; (repeat' split) <;> first | rfl | omega)⟩, ppk ht9 hP9⟩, hS.F ht9⟩) hS.2.2 dX10_sortAt_63
            · have c14 := bf_lt c14 ⟨by omega, by omega⟩ ⟨by omega, by omega⟩
              refine lv_iconst (v := iI (1)) hx hb dX10_sortAt_58 (by decide) ?_
              refine lv_goto (tgt := 63) hx hb dX10_sortAt_59 (by decide) ?_
              have hP9 := hP.sub (ws' := []) [] rfl
              have hK9 := hK.sub (tys' := [(tC, .char)]) [0] rfl
              refine W.widen (k := 0) (n := 0) (Nat.le_of_ble_eq_true rfl) (Nat.le_of_ble_eq_true rfl) ?_
              exact W.iret (v := iI 1) hx hb hr (fun t ht9 hW9 => ⟨⟨iI 1, 1, rfl, ⟨rfl, (by unfold sortI; (repeat' split) <;> first | rfl | omega)⟩, ppk ht9 hP9⟩, hS.F ht9⟩) hS.2.2 dX10_sortAt_63
        · have c12 := bf_lt c12 ⟨by omega, by omega⟩ ⟨by omega, by omega⟩
          refine lv_iload_n hx hb dX10_sortAt_38 rfl (lv_at hl 0 rfl) ?_
          refine lv_bipush (v := iI (122)) hx hb dX10_sortAt_39 (by decide) ?_
          refine lv_icmp_gt (tgt := 46) hx hb dX10_sortAt_41 (by decide) (fun c15 => ?_) (fun c15 => ?_)
          · have c15 := bt_lt c15 ⟨by omega, by omega⟩ ⟨by omega, by omega⟩
            refine lv_iload_n hx hb dX10_sortAt_46 rfl (lv_at hl 0 rfl) ?_
            refine lv_bipush (v := iI (48)) hx hb dX10_sortAt_47 (by decide) ?_
            refine lv_icmp_lt (tgt := 62) hx hb dX10_sortAt_49 (by decide) (fun c16 => ?_) (fun c16 => ?_)
            · have c16 := bt_lt c16 ⟨by omega, by omega⟩ ⟨by omega, by omega⟩
              refine lv_iconst (v := iI (-1)) hx hb dX10_sortAt_62 (by decide) ?_
              have hP9 := hP.sub (ws' := []) [] rfl
              have hK9 := hK.sub (tys' := [(tC, .char)]) [0] rfl
              refine W.widen (k := 0) (n := 0) (Nat.le_of_ble_eq_true rfl) (Nat.le_of_ble_eq_true rfl) ?_
              exact W.iret (v := iI ((-1))) hx hb hr (fun t ht9 hW9 => ⟨⟨iI ((-1)), (-1), rfl, ⟨rfl, (by unfold sortI; (repeat' split) <;> first | rfl | omega)⟩, ppk ht9 hP9⟩, hS.F ht9⟩) hS.2.2 dX10_sortAt_63
            · have c16 := bf_lt c16 ⟨by omega, by omega⟩ ⟨by omega, by omega⟩
              refine lv_iload_n hx hb dX10_sortAt_52 rfl (lv_at hl 0 rfl) ?_
              refine lv_bipush (v := iI (57)) hx hb dX10_sortAt_53 (by decide) ?_
              refine lv_icmp_gt (tgt := 62) hx hb dX10_sortAt_55 (by decide) (fun c17 => ?_) (fun c17 => ?_)
              · have c17 := bt_lt c17 ⟨by omega, by omega⟩ ⟨by omega, by omega⟩
                refine lv_iconst (v := iI (-1)) hx hb dX10_sortAt_62 (by decide) ?_
                have hP9 := hP.sub (ws' := []) [] rfl
                have hK9 := hK.sub (tys' := [(tC, .char)]) [0] rfl
                refine W.widen (k := 0) (n := 0) (Nat.le_of_ble_eq_true rfl) (Nat.le_of_ble_eq_true rfl) ?_
                exact W.iret (v := iI ((-1))) hx hb hr (fun t ht9 hW9 => ⟨⟨iI ((-1)), (-1), rfl, ⟨rfl, (by unfold sortI; (repeat' split) <;> first | rfl | omega)⟩, ppk ht9 hP9⟩, hS.F ht9⟩) hS.2.2 dX10_sortAt_63
              · have c17 := bf_lt c17 ⟨by omega, by omega⟩ ⟨by omega, by omega⟩
                refine lv_iconst (v := iI (1)) hx hb dX10_sortAt_58 (by decide) ?_
                refine lv_goto (tgt := 63) hx hb dX10_sortAt_59 (by decide) ?_
                have hP9 := hP.sub (ws' := []) [] rfl
                have hK9 := hK.sub (tys' := [(tC, .char)]) [0] rfl
                refine W.widen (k := 0) (n := 0) (Nat.le_of_ble_eq_true rfl) (Nat.le_of_ble_eq_true rfl) ?_
                exact W.iret (v := iI 1) hx hb hr (fun t ht9 hW9 => ⟨⟨iI 1, 1, rfl, ⟨rfl, (by unfold sortI; (repeat' split) <;> first | rfl | omega)⟩, ppk ht9 hP9⟩, hS.F ht9⟩) hS.2.2 dX10_sortAt_63
          · have c15 := bf_lt c15 ⟨by omega, by omega⟩ ⟨by omega, by omega⟩
            refine lv_iconst (v := iI (0)) hx hb dX10_sortAt_44 (by decide) ?_
            have hP9 := hP.sub (ws' := []) [] rfl
            have hK9 := hK.sub (tys' := [(tC, .char)]) [0] rfl
            refine W.widen (k := 0) (n := 0) (Nat.le_of_ble_eq_true rfl) (Nat.le_of_ble_eq_true rfl) ?_
            exact W.iret (v := iI 0) hx hb hr (fun t ht9 hW9 => ⟨⟨iI 0, 0, rfl, ⟨rfl, (by unfold sortI; (repeat' split) <;> first | rfl | omega)⟩, ppk ht9 hP9⟩, hS.F ht9⟩) hS.2.2 dX10_sortAt_45
