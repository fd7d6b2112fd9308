theorem dJxa1e45_init_da8c8_0 : decode cJxa1e45_init_da8c8 0 = .ok (.aload_n 0, 1) := by decide +kernel
theorem q216 : Cond.methodLink RJxa1e45 1 objectInit ∈ GT := gt 216 (by decide +kernel) (by decide +kernel)
theorem q157 : Cond.instanceMethod objectInit ∈ GT := gt 157 (by decide +kernel) (by decide +kernel)
set_option maxRecDepth 100000 in
theorem q158 : Cond.code objectInit ⟨#[0xb1]⟩ 1 none ∈ GT := gt 158 (rfl) (by decide +kernel)
theorem dJxa1e45_init_da8c8_1 : decode cJxa1e45_init_da8c8 1 = .ok (.invokespecial 1, 3) := by decide +kernel
theorem dJxa1e45_init_da8c8_4 : decode cJxa1e45_init_da8c8 4 = .ok (.return_, 1) := by decide +kernel
theorem dJxc12de_init_da8c8_0 : decode cJxc12de_init_da8c8 0 = .ok (.aload_n 0, 1) := by decide +kernel
theorem dJxc12de_init_da8c8_1 : decode cJxc12de_init_da8c8 1 = .ok (.invokespecial 1, 3) := by decide +kernel
set_option maxRecDepth 100000 in
theorem q215 : Cond.code yJxa1e45_init_da8c8 cJxa1e45_init_da8c8 1 none ∈ GT := gt 215 (rfl) (by decide +kernel)
theorem q126 : Cond.initialized RJxa1e45 ∈ GT := gt 126 (by decide +kernel) (by decide +kernel)
theorem M_Jxa1e45_init_da8c8 : MY yJxa1e45_init_da8c8 cJxa1e45_init_da8c8 1 none 0 := ⟨q215, q126, by decide +kernel, by decide +kernel⟩
theorem q213 : Cond.methodLink RJxc12de 1 yJxa1e45_init_da8c8 ∈ GT := gt 213 (by decide +kernel) (by decide +kernel)
theorem q214 : Cond.instanceMethod yJxa1e45_init_da8c8 ∈ GT := gt 214 (by decide +kernel) (by decide +kernel)
theorem dJxc12de_init_da8c8_4 : decode cJxc12de_init_da8c8 4 = .ok (.aload_n 0, 1) := by decide +kernel
theorem dJxc12de_init_da8c8_5 : decode cJxc12de_init_da8c8 5 = .ok (.iconst 0, 1) := by decide +kernel
theorem inGJx4a65c : ∀ w ∈ u_ws RJx4a65c TJx4a65c 3, w ∈ GT := gts [228, 224, 226] (by decide +kernel) (by decide +kernel)
theorem q221 : Cond.fieldLink RJxc12de 7 "java/util/AbstractList" "modCount" "I" ∈ GT := gt 221 (by decide +kernel) (by decide +kernel)
theorem dJxc12de_init_da8c8_6 : decode cJxc12de_init_da8c8 6 = .ok (.putfield 7, 3) := by decide +kernel
theorem dJxc12de_init_da8c8_9 : decode cJxc12de_init_da8c8 9 = .ok (.return_, 1) := by decide +kernel
theorem dJx4a65c_init_da8c8_0 : decode cJx4a65c_init_da8c8 0 = .ok (.aload_n 0, 1) := by decide +kernel
theorem dJx4a65c_init_da8c8_1 : decode cJx4a65c_init_da8c8 1 = .ok (.invokespecial 1, 3) := by decide +kernel
set_option maxRecDepth 100000 in
theorem q212 : Cond.code yJxc12de_init_da8c8 cJxc12de_init_da8c8 1 none ∈ GT := gt 212 (rfl) (by decide +kernel)
theorem q127 : Cond.initialized RJxc12de ∈ GT := gt 127 (by decide +kernel) (by decide +kernel)
theorem M_Jxc12de_init_da8c8 : MY yJxc12de_init_da8c8 cJxc12de_init_da8c8 1 none 0 := ⟨q212, q127, by decide +kernel, by decide +kernel⟩
theorem q210 : Cond.methodLink RJx4a65c 1 yJxc12de_init_da8c8 ∈ GT := gt 210 (by decide +kernel) (by decide +kernel)
theorem q211 : Cond.instanceMethod yJxc12de_init_da8c8 ∈ GT := gt 211 (by decide +kernel) (by decide +kernel)
theorem dJx4a65c_init_da8c8_4 : decode cJx4a65c_init_da8c8 4 = .ok (.aload_n 0, 1) := by decide +kernel
theorem q217 : Cond.fieldLink RJx4a65c 39 "java/util/ArrayList" "DEFAULTCAPACITY_EMPTY_ELEMENTDATA" "[Ljava/lang/Object;" ∈ GT := gt 217 (by decide +kernel) (by decide +kernel)
theorem dJx4a65c_init_da8c8_5 : decode cJx4a65c_init_da8c8 5 = .ok (.getstatic 39, 3) := by decide +kernel
theorem q219 : Cond.fieldLink RJx4a65c 9 "java/util/ArrayList" "elementData" "[Ljava/lang/Object;" ∈ GT := gt 219 (by decide +kernel) (by decide +kernel)
theorem dJx4a65c_init_da8c8_8 : decode cJx4a65c_init_da8c8 8 = .ok (.putfield 9, 3) := by decide +kernel
theorem dJx4a65c_init_da8c8_11 : decode cJx4a65c_init_da8c8 11 = .ok (.return_, 1) := by decide +kernel
theorem dX10_init_0 : decode cX10_init 0 = .ok (.aload_n 0, 1) := by decide +kernel
theorem q164 : Cond.methodLink RX10 3 objectInit ∈ GT := gt 164 (by decide +kernel) (by decide +kernel)
theorem dX10_init_1 : decode cX10_init 1 = .ok (.invokespecial 3, 3) := by decide +kernel
theorem dX10_init_4 : decode cX10_init 4 = .ok (.aload_n 0, 1) := by decide +kernel
theorem dX10_init_5 : decode cX10_init 5 = .ok (.bipush 100, 2) := by decide +kernel
theorem q172 : Cond.arrayClass FieldType.char ∈ GT := gt 172 (by decide +kernel) (by decide +kernel)
theorem dX10_init_7 : decode cX10_init 7 = .ok (.newarray .char, 2) := by decide +kernel
theorem inGX10 : ∀ w ∈ u_ws RX10 TX10 2, w ∈ GT := gts [167, 169] (by decide +kernel) (by decide +kernel)
theorem q165 : Cond.fieldLink RX10 9 "ToolPlex$Text" "units" "[C" ∈ GT := gt 165 (by decide +kernel) (by decide +kernel)
theorem dX10_init_9 : decode cX10_init 9 = .ok (.putfield 9, 3) := by decide +kernel
theorem dX10_init_12 : decode cX10_init 12 = .ok (.return_, 1) := by decide +kernel
theorem dX5_init_0 : decode cX5_init 0 = .ok (.aload_n 0, 1) := by decide +kernel
theorem q301 : Cond.methodLink RX5 3 objectInit ∈ GT := gt 301 (by decide +kernel) (by decide +kernel)
theorem dX5_init_1 : decode cX5_init 1 = .ok (.invokespecial 3, 3) := by decide +kernel
theorem dX5_init_4 : decode cX5_init 4 = .ok (.aload_n 0, 1) := by decide +kernel
theorem q302 : Cond.fieldLinkNest RX5 9 "ToolPlex" "NOTHING" "[I" "ToolPlex" ∈ GT := gt 302 (by decide +kernel) (by decide +kernel)
theorem dX5_init_5 : decode cX5_init 5 = .ok (.getstatic 9, 3) := by decide +kernel
theorem inGX5 : ∀ w ∈ u_ws RX5 TX5 2, w ∈ GT := gts [305, 307] (by decide +kernel) (by decide +kernel)
theorem q303 : Cond.fieldLink RX5 13 "ToolPlex$Items" "cells" "[I" ∈ GT := gt 303 (by decide +kernel) (by decide +kernel)
theorem dX5_init_8 : decode cX5_init 8 = .ok (.putfield 13, 3) := by decide +kernel
theorem dX5_init_11 : decode cX5_init 11 = .ok (.return_, 1) := by decide +kernel
theorem dX2_init_0 : decode cX2_init 0 = .ok (.aload_n 0, 1) := by decide +kernel
theorem q257 : Cond.methodLink RX2 3 objectInit ∈ GT := gt 257 (by decide +kernel) (by decide +kernel)
theorem dX2_init_1 : decode cX2_init 1 = .ok (.invokespecial 3, 3) := by decide +kernel
theorem dX2_init_4 : decode cX2_init 4 = .ok (.aload_n 0, 1) := by decide +kernel
theorem q258 : Cond.classLink RX2 9 RX10 ∈ GT := gt 258 (by decide +kernel) (by decide +kernel)
theorem q160 : Cond.instantiable RX10 2 ∈ GT := gt 160 (by decide +kernel) (by decide +kernel)
theorem q124 : Cond.initialized RX10 ∈ GT := gt 124 (by decide +kernel) (by decide +kernel)
theorem dX2_init_5 : decode cX2_init 5 = .ok (.new 9, 3) := by decide +kernel
theorem dX2_init_8 : decode cX2_init 8 = .ok (.dup, 1) := by decide +kernel
theorem dX2_init_9 : decode cX2_init 9 = .ok (.invokespecial 11, 3) := by decide +kernel
set_option maxRecDepth 100000 in
theorem q163 : Cond.code yX10_init cX10_init 1 none ∈ GT := gt 163 (rfl) (by decide +kernel)
theorem M_X10_init : MY yX10_init cX10_init 1 none 0 := ⟨q163, q124, by decide +kernel, by decide +kernel⟩
theorem q259 : Cond.methodLinkNest RX2 11 yX10_init "ToolPlex" ∈ GT := gt 259 (by decide +kernel) (by decide +kernel)
theorem q162 : Cond.instanceMethod yX10_init ∈ GT := gt 162 (by decide +kernel) (by decide +kernel)
theorem inGX2 : ∀ w ∈ u_ws RX2 TX2 7, w ∈ GT := gts [280, 282, 284, 286, 288, 290, 292] (by decide +kernel) (by decide +kernel)
theorem q262 : Cond.fieldLink RX2 12 "ToolPlex$Copy" "text" "LToolPlex$Text;" ∈ GT := gt 262 (by decide +kernel) (by decide +kernel)
theorem dX2_init_12 : decode cX2_init 12 = .ok (.putfield 12, 3) := by decide +kernel
theorem dX2_init_15 : decode cX2_init 15 = .ok (.aload_n 0, 1) := by decide +kernel
theorem dX2_init_16 : decode cX2_init 16 = .ok (.new 9, 3) := by decide +kernel
theorem dX2_init_19 : decode cX2_init 19 = .ok (.dup, 1) := by decide +kernel
theorem dX2_init_20 : decode cX2_init 20 = .ok (.invokespecial 11, 3) := by decide +kernel
theorem q267 : Cond.fieldLink RX2 18 "ToolPlex$Copy" "first" "LToolPlex$Text;" ∈ GT := gt 267 (by decide +kernel) (by decide +kernel)
theorem dX2_init_23 : decode cX2_init 23 = .ok (.putfield 18, 3) := by decide +kernel
theorem dX2_init_26 : decode cX2_init 26 = .ok (.aload_n 0, 1) := by decide +kernel
theorem q260 : Cond.fieldLinkNest RX2 21 "ToolPlex" "NOTHING" "[I" "ToolPlex" ∈ GT := gt 260 (by decide +kernel) (by decide +kernel)
theorem dX2_init_27 : decode cX2_init 27 = .ok (.getstatic 21, 3) := by decide +kernel
theorem q268 : Cond.fieldLink RX2 25 "ToolPlex$Copy" "changes" "[I" ∈ GT := gt 268 (by decide +kernel) (by decide +kernel)
theorem dX2_init_30 : decode cX2_init 30 = .ok (.putfield 25, 3) := by decide +kernel
theorem dX2_init_33 : decode cX2_init 33 = .ok (.aload_n 0, 1) := by decide +kernel
theorem dX2_init_34 : decode cX2_init 34 = .ok (.iconst (-1), 1) := by decide +kernel
theorem q270 : Cond.fieldLink RX2 28 "ToolPlex$Copy" "version" "I" ∈ GT := gt 270 (by decide +kernel) (by decide +kernel)
theorem dX2_init_35 : decode cX2_init 35 = .ok (.putfield 28, 3) := by decide +kernel
theorem dX2_init_38 : decode cX2_init 38 = .ok (.aload_n 0, 1) := by decide +kernel
theorem dX2_init_39 : decode cX2_init 39 = .ok (.iconst (-1), 1) := by decide +kernel
theorem q275 : Cond.fieldLink RX2 32 "ToolPlex$Copy" "opened" "I" ∈ GT := gt 275 (by decide +kernel) (by decide +kernel)
theorem dX2_init_40 : decode cX2_init 40 = .ok (.putfield 32, 3) := by decide +kernel
theorem dX2_init_43 : decode cX2_init 43 = .ok (.aload_n 0, 1) := by decide +kernel
theorem dX2_init_44 : decode cX2_init 44 = .ok (.iconst (-1), 1) := by decide +kernel
theorem q278 : Cond.fieldLink RX2 35 "ToolPlex$Copy" "editor" "I" ∈ GT := gt 278 (by decide +kernel) (by decide +kernel)
theorem dX2_init_45 : decode cX2_init 45 = .ok (.putfield 35, 3) := by decide +kernel
theorem dX2_init_48 : decode cX2_init 48 = .ok (.return_, 1) := by decide +kernel
theorem dX1_init_0 : decode cX1_init 0 = .ok (.aload_n 0, 1) := by decide +kernel
theorem q237 : Cond.methodLink RX1 1 objectInit ∈ GT := gt 237 (by decide +kernel) (by decide +kernel)
theorem dX1_init_1 : decode cX1_init 1 = .ok (.invokespecial 1, 3) := by decide +kernel
theorem dX1_init_4 : decode cX1_init 4 = .ok (.aload_n 0, 1) := by decide +kernel
theorem q238 : Cond.classLink RX1 7 RJx4a65c ∈ GT := gt 238 (by decide +kernel) (by decide +kernel)
theorem q206 : Cond.instantiable RJx4a65c 3 ∈ GT := gt 206 (by decide +kernel) (by decide +kernel)
theorem q128 : Cond.initialized RJx4a65c ∈ GT := gt 128 (by decide +kernel) (by decide +kernel)
theorem dX1_init_5 : decode cX1_init 5 = .ok (.new 7, 3) := by decide +kernel
theorem dX1_init_8 : decode cX1_init 8 = .ok (.dup, 1) := by decide +kernel
theorem dX1_init_9 : decode cX1_init 9 = .ok (.invokespecial 9, 3) := by decide +kernel
set_option maxRecDepth 100000 in
theorem q209 : Cond.code yJx4a65c_init_da8c8 cJx4a65c_init_da8c8 1 none ∈ GT := gt 209 (rfl) (by decide +kernel)
theorem M_Jx4a65c_init_da8c8 : MY yJx4a65c_init_da8c8 cJx4a65c_init_da8c8 1 none 0 := ⟨q209, q128, by decide +kernel, by decide +kernel⟩
theorem q239 : Cond.methodLink RX1 9 yJx4a65c_init_da8c8 ∈ GT := gt 239 (by decide +kernel) (by decide +kernel)
theorem q208 : Cond.instanceMethod yJx4a65c_init_da8c8 ∈ GT := gt 208 (by decide +kernel) (by decide +kernel)
theorem inGX1 : ∀ w ∈ u_ws RX1 TX1 1, w ∈ GT := gts [241] (by decide +kernel) (by decide +kernel)
theorem q240 : Cond.fieldLink RX1 10 "ToolPlex$Channel" "messages" "Ljava/util/ArrayList;" ∈ GT := gt 240 (by decide +kernel) (by decide +kernel)
theorem dX1_init_12 : decode cX1_init 12 = .ok (.putfield 10, 3) := by decide +kernel
theorem dX1_init_15 : decode cX1_init 15 = .ok (.return_, 1) := by decide +kernel
set_option maxHeartbeats 4000000 in
set_option maxRecDepth 100000 in
theorem k_Jxa1e45_init_da8c8 (l : Launch) (d0 : Nat) (cO : ClassId) (dC : Nat → ClassId) (dI : Nat → Nat → Nat) (sz : Nat) (h0 : Nat) (mc : Int32) (ve : Value) (sc : Int32) : Met l yJxa1e45_init_da8c8 (cn yJxa1e45_init_da8c8 cJxa1e45_init_da8c8 1 none) (rmd 1 0 0) (va_Pc [.ref h0] (PRE d0 cO (dC, dI) (va_A [(h0, .inr (0, [.int mc, ve, .int sc]))] sz) [(h0, .inr (0, [.int mc, ve, .int sc]))] [] sz)) (va_Qv (fun (_ : Unit) => True) (fun (_ : Unit) (t : State) => POW (dC, dI) (va_A [(h0, .inr (0, [.int mc, ve, .int sc]))] sz) [(h0, .inr (0, [.int mc, ve, .int sc]))] [] t) (va_A [(h0, .inr (0, [.int mc, ve, .int sc]))] sz)) 0 0 (va_A [(h0, .inr (0, [.int mc, ve, .int sc]))] sz) := by
  refine Met.ofW (cc := cJxa1e45_init_da8c8) (maxL := 1) (ret := none) (by decide) rfl ?_
  intro p e s m args below meth c s₁ B hml hv
  obtain ⟨rfl, hsz, hE, hP, hK, hD0⟩ := hv
  have hx := B.exec
  have hb := B.bytes
  have hr := B.returns
  have hts := atoms_spec (ws := cn yJxa1e45_init_da8c8 cJxa1e45_init_da8c8 1 none) B.pre
  have ht : ∀ w ∈ GT, w.before _ s = true := fun w h => hts w (List.mem_cons_of_mem _ h)
  have hown : s.vm.findClass RJxa1e45 = some m.cls := findClass_of_methodNamed B.named
  have hlocks := B.notSynchronized
  have hin : meth.name = "<init>" := (name_of_methodNamed B.named B.method).1
  subst hsz
  have hD := hD0.self (sz := s.heap.size)
  generalize hAe : va_A [(h0, .inr (0, [.int mc, ve, .int sc]))] s.heap.size = A at hD hE ⊢
  have hA : ∀ q : Nat, s.heap.size ≤ q → A q := fun q h => by rw [← hAe]; exact Or.inr h
  obtain ⟨H, hH0⟩ : ∃ H, s.heap = H := ⟨_, rfl⟩
  have hS : va_S A s.heap H [] := by rw [← hH0]; exact va_S.rf
  rw [hH0] at hP
  have hl := lv_entry ([.ref h0]) (n := 1) (Nat.le_of_ble_eq_true rfl)
  rw [lg_entry_eq]
  generalize (lg_sl ([.ref h0]) ++ List.replicate (1 - (lg_sl ([.ref h0])).length) Slot.unset).toArray = ls at hl ⊢
  have hl : lv_has ls 1 [(0, .ref h0)] := hl
  rw [hH0]
  refine lv_aload_n hx hb dJxa1e45_init_da8c8_0 rfl (lv_at hl 0 rfl) ?_
  refine W.objInit hx hb hown (ht _ q216) (ht _ q157) (ht _ q158) rfl (by rw [hml]; exact hl.1) rfl dJxa1e45_init_da8c8_1 (Nat.le_of_ble_eq_true rfl) (Nat.le_of_ble_eq_true rfl) ?_
  refine W.eq (g2 := F0 m 4 ls []) rfl ?_
  have hP9 := hP.sub (ws' := [(h0, .inr (0, [.int mc, ve, .int sc]))]) [0] rfl
  have hD9 := hD.sub (ws' := [(h0, .inr (0, [.int mc, ve, .int sc]))]) [0] (by decide) rfl
  have hK9 := hK.sub (tys' := []) [] rfl
  refine W.widen (k := 0) (n := 0) (Nat.le_of_ble_eq_true rfl) (Nat.le_of_ble_eq_true rfl) ?_
  exact W.vret hx hb hr (fun t ht9 hW9 => ⟨⟨(), rfl, trivial, POW.mk' ht9 hW9.alike hP9 hK9 hD9⟩, hS.F ht9⟩) hS.2.2 dJxa1e45_init_da8c8_4
set_option maxHeartbeats 4000000 in
set_option maxRecDepth 100000 in
theorem k_Jxc12de_init_da8c8 (l : Launch) (d0 : Nat) (cO : ClassId) (dC : Nat → ClassId) (dI : Nat → Nat → Nat) (sz : Nat) (h0 : Nat) (mc : Int32) (ve : Value) (sc : Int32) : Met l yJxc12de_init_da8c8 (cn yJxc12de_init_da8c8 cJxc12de_init_da8c8 1 none) (rmd 2 0 0) (va_Pc [.ref h0] (PRE d0 cO (dC, dI) (va_A [(h0, .inr (0, [.int mc, ve, .int sc]))] sz) [(h0, .inr (0, [.int mc, ve, .int sc]))] [] sz)) (va_Qv (fun (_ : Unit) => True) (fun (_ : Unit) (t : State) => POW (dC, dI) (va_A [(h0, .inr (0, [.int mc, ve, .int sc]))] sz) [(h0, .inr (0, [.int 0, ve, .int sc]))] [] t) (va_A [(h0, .inr (0, [.int mc, ve, .int sc]))] sz)) 0 0 (va_A [(h0, .inr (0, [.int mc, ve, .int sc]))] sz) := by
  refine Met.ofW (cc := cJxc12de_init_da8c8) (maxL := 1) (ret := none) (by decide) rfl ?_
  intro p e s m args below meth c s₁ B hml hv
  obtain ⟨rfl, hsz, hE, hP, hK, hD0⟩ := hv
  have hx := B.exec
  have hb := B.bytes
  have hr := B.returns
  have hts := atoms_spec (ws := cn yJxc12de_init_da8c8 cJxc12de_init_da8c8 1 none) B.pre
  have ht : ∀ w ∈ GT, w.before _ s = true := fun w h => hts w (List.mem_cons_of_mem _ h)
  have hown : s.vm.findClass RJxc12de = some m.cls := findClass_of_methodNamed B.named
  have hlocks := B.notSynchronized
  have hin : meth.name = "<init>" := (name_of_methodNamed B.named B.method).1
  subst hsz
  have hD := hD0.self (sz := s.heap.size)
  generalize hAe : va_A [(h0, .inr (0, [.int mc, ve, .int sc]))] s.heap.size = A at hD hE ⊢
  have hA : ∀ q : Nat, s.heap.size ≤ q → A q := fun q h => by rw [← hAe]; exact Or.inr h
  obtain ⟨H, hH0⟩ : ∃ H, s.heap = H := ⟨_, rfl⟩
  have hS : va_S A s.heap H [] := by rw [← hH0]; exact va_S.rf
  rw [hH0] at hP
  have hl := lv_entry ([.ref h0]) (n := 1) (Nat.le_of_ble_eq_true rfl)
  rw [lg_entry_eq]
  generalize (lg_sl ([.ref h0]) ++ List.replicate (1 - (lg_sl ([.ref h0])).length) Slot.unset).toArray = ls at hl ⊢
  have hl : lv_has ls 1 [(0, .ref h0)] := hl
  rw [hH0]
  refine lv_aload_n hx hb dJxc12de_init_da8c8_0 rfl (lv_at hl 0 rfl) ?_
  have hPc := hP.sub (ws' := [(h0, .inr (0, [.int mc, ve, .int sc]))]) [0] rfl
  have hDc := hD.sub (ws' := [(h0, .inr (0, [.int mc, ve, .int sc]))]) [0] (by decide) rfl
  have hKc := hK.sub (tys' := []) [] rfl
  have hFc := va_free (wc := [(h0, .inr (0, [.int mc, ve, .int sc]))]) hD hS hA [0] rfl
  refine va_callv (va_runI (As := []) (rest := []) ⟨hx, hb, hml, hown, ht⟩ (k_Jxa1e45_init_da8c8 l d0 cO dC dI H.size h0 mc ve sc) (my_I ht M_Jxa1e45_init_da8c8 q214 rfl q213 (Nat.le_of_ble_eq_true rfl) (Nat.le_of_ble_eq_true rfl)) ⟨PRE.fb, fun U hU hW => ⟨rfl, PRE.mk' hE hS hFc hPc hKc hDc U hU hW⟩⟩ rfl rfl hl.1 rfl (lv_room (Nat.le_of_ble_eq_true rfl)) dJxc12de_init_da8c8_1 ⟨(Nat.le_of_ble_eq_true rfl), (Nat.le_of_ble_eq_true rfl)⟩) hS (fun q _ h => hFc q h) hFc (fun u1 t H1 locs htt hvm hw hB hz1 hk1 hS => ?_)
  try dsimp only at hw hB
  obtain ⟨hP1, hK1, hD1⟩ := hB
  rw [htt] at hP1
  have hK1 := va_K.moved hvm.symm hK1
  obtain ⟨hP, hD⟩ := va_join (wr := []) (w1 := [(h0, .inr (0, [.int mc, ve, .int sc]))]) hP hD [0] [] rfl rfl (by decide) (by decide) hk1 hFc hP1 hD1
  have hK := (hK.sub (tys' := []) [] rfl).app hK1
  generalize H1 = H at hP hS ⊢
  have hP : va_P (dC, dI) vwCl [(h0, .inr (0, [.int mc, ve, .int sc]))] H := hP
  have hD : va_D A [(h0, .inr (0, [.int mc, ve, .int sc]))] := hD
  have hK : va_K (dC, dI) vwCl [] s := hK
  refine W.widen (k := 0) (n := 0) (Nat.le_of_ble_eq_true rfl) (Nat.le_of_ble_eq_true rfl) ?_
  refine lv_aload_n hx hb dJxc12de_init_da8c8_4 rfl (lv_at hl 0 rfl) ?_
  refine lv_iconst (v := 0) hx hb dJxc12de_init_da8c8_5 (by decide) ?_
  refine va_put (D := (dC, dI)) (ci := 0) (v := .int 0) (ty := .int) (C := RJx4a65c) (T := TJx4a65c) (N := 3) hx hb ht inGJx4a65c tyJx4a65c tyJx4a65c_ok nmJx4a65c hown hK hP hD hS 0 rfl rfl 0 (by decide) (ht _ q221) (fun _ h9 => h9) rfl (by decide +kernel) rfl rfl (Nat.le_of_ble_eq_true rfl) dJxc12de_init_da8c8_6 (fun H locs hP hD hS => ?_)
  have hP : va_P (dC, dI) vwCl [(h0, .inr (0, [.int 0, ve, .int sc]))] H := hP
  have hD : va_D A [(h0, .inr (0, [.int 0, ve, .int sc]))] := hD
  have hP9 := hP.sub (ws' := [(h0, .inr (0, [.int 0, ve, .int sc]))]) [0] rfl
  have hD9 := hD.sub (ws' := [(h0, .inr (0, [.int 0, ve, .int sc]))]) [0] (by decide) rfl
  have hK9 := hK.sub (tys' := []) [] rfl
  refine W.widen (k := 0) (n := 0) (Nat.le_of_ble_eq_true rfl) (Nat.le_of_ble_eq_true rfl) ?_
  exact W.vret hx hb hr (fun t ht9 hW9 => ⟨⟨(), rfl, trivial, POW.mk' ht9 hW9.alike hP9 hK9 hD9⟩, hS.F ht9⟩) hS.2.2 dJxc12de_init_da8c8_9
set_option maxHeartbeats 4000000 in
set_option maxRecDepth 100000 in
theorem k_Jx4a65c_init_da8c8 (l : Launch) (d0 : Nat) (cO : ClassId) (dC : Nat → ClassId) (dI : Nat → Nat → Nat) (sz : Nat) (h0 : Nat) (mc : Int32) (ve : Value) (sc : Int32) : Met l yJx4a65c_init_da8c8 (cn yJx4a65c_init_da8c8 cJx4a65c_init_da8c8 1 none) (rmd 3 0 0) (va_Pc [.ref h0] (PRE d0 cO (dC, dI) (va_A [(h0, .inr (0, [.int mc, ve, .int sc]))] sz) [(h0, .inr (0, [.int mc, ve, .int sc]))] [] sz)) (va_Qv (fun (_ : Unit) => True) (fun (_ : Unit) (t : State) => POW (dC, dI) (va_A [(h0, .inr (0, [.int mc, ve, .int sc]))] sz) [(h0, .inr (0, [.int 0, .ref d0, .int sc]))] [] t) (va_A [(h0, .inr (0, [.int mc, ve, .int sc]))] sz)) 0 0 (va_A [(h0, .inr (0, [.int mc, ve, .int sc]))] sz) := by
  refine Met.ofW (cc := cJx4a65c_init_da8c8) (maxL := 1) (ret := none) (by decide) rfl ?_
  intro p e s m args below meth c s₁ B hml hv
  obtain ⟨rfl, hsz, hE, hP, hK, hD0⟩ := hv
  have hx := B.exec
  have hb := B.bytes
  have hr := B.returns
  have hts := atoms_spec (ws := cn yJx4a65c_init_da8c8 cJx4a65c_init_da8c8 1 none) B.pre
  have ht : ∀ w ∈ GT, w.before _ s = true := fun w h => hts w (List.mem_cons_of_mem _ h)
  have hown : s.vm.findClass RJx4a65c = some m.cls := findClass_of_methodNamed B.named
  have hlocks := B.notSynchronized
  have hin : meth.name = "<init>" := (name_of_methodNamed B.named B.method).1
  subst hsz
  have hD := hD0.self (sz := s.heap.size)
  generalize hAe : va_A [(h0, .inr (0, [.int mc, ve, .int sc]))] s.heap.size = A at hD hE ⊢
  have hA : ∀ q : Nat, s.heap.size ≤ q → A q := fun q h => by rw [← hAe]; exact Or.inr h
  obtain ⟨H, hH0⟩ : ∃ H, s.heap = H := ⟨_, rfl⟩
  have hS : va_S A s.heap H [] := by rw [← hH0]; exact va_S.rf
  rw [hH0] at hP
  have hl := lv_entry ([.ref h0]) (n := 1) (Nat.le_of_ble_eq_true rfl)
  rw [lg_entry_eq]
  generalize (lg_sl ([.ref h0]) ++ List.replicate (1 - (lg_sl ([.ref h0])).length) Slot.unset).toArray = ls at hl ⊢
  have hl : lv_has ls 1 [(0, .ref h0)] := hl
  rw [hH0]
  refine lv_aload_n hx hb dJx4a65c_init_da8c8_0 rfl (lv_at hl 0 rfl) ?_
  have hPc := hP.sub (ws' := [(h0, .inr (0, [.int mc, ve, .int sc]))]) [0] rfl
  have hDc := hD.sub (ws' := [(h0, .inr (0, [.int mc, ve, .int sc]))]) [0] (by decide) rfl
  have hKc := hK.sub (tys' := []) [] rfl
  have hFc := va_free (wc := [(h0, .inr (0, [.int mc, ve, .int sc]))]) hD hS hA [0] rfl
  refine va_callv (va_runI (As := []) (rest := []) ⟨hx, hb, hml, hown, ht⟩ (k_Jxc12de_init_da8c8 l d0 cO dC dI H.size h0 mc ve sc) (my_I ht M_Jxc12de_init_da8c8 q211 rfl q210 (Nat.le_of_ble_eq_true rfl) (Nat.le_of_ble_eq_true rfl)) ⟨PRE.fb, fun U hU hW => ⟨rfl, PRE.mk' hE hS hFc hPc hKc hDc U hU hW⟩⟩ rfl rfl hl.1 rfl (lv_room (Nat.le_of_ble_eq_true rfl)) dJx4a65c_init_da8c8_1 ⟨(Nat.le_of_ble_eq_true rfl), (Nat.le_of_ble_eq_true rfl)⟩) hS (fun q _ h => hFc q h) hFc (fun u1 t H1 locs htt hvm hw hB hz1 hk1 hS => ?_)
  try dsimp only at hw hB
  obtain ⟨hP1, hK1, hD1⟩ := hB
  rw [htt] at hP1
  have hK1 := va_K.moved hvm.symm hK1
  obtain ⟨hP, hD⟩ := va_join (wr := []) (w1 := [(h0, .inr (0, [.int 0, ve, .int sc]))]) hP hD [0] [] rfl rfl (by decide) (by decide) hk1 hFc hP1 hD1
  have hK := (hK.sub (tys' := []) [] rfl).app hK1
  generalize H1 = H at hP hS ⊢
  have hP : va_P (dC, dI) vwCl [(h0, .inr (0, [.int 0, ve, .int sc]))] H := hP
  have hD : va_D A [(h0, .inr (0, [.int 0, ve, .int sc]))] := hD
  have hK : va_K (dC, dI) vwCl [] s := hK
  refine W.widen (k := 0) (n := 0) (Nat.le_of_ble_eq_true rfl) (Nat.le_of_ble_eq_true rfl) ?_
  refine lv_aload_n hx hb dJx4a65c_init_da8c8_4 rfl (lv_at hl 0 rfl) ?_
  refine va_gets (v := .ref d0) hx hb hE.2.2.1.1 hS hown (ht _ q217) (fun _ h9 => h9) dJx4a65c_init_da8c8_5 ?_
  refine va_put (D := (dC, dI)) (ci := 0) (v := .ref d0) (ty := .array (.object "java/lang/Object")) (C := RJx4a65c) (T := TJx4a65c) (N := 3) hx hb ht inGJx4a65c tyJx4a65c tyJx4a65c_ok nmJx4a65c hown hK hP hD hS 0 rfl rfl 1 (by decide) (ht _ q219) (fun _ h9 => h9) rfl (by decide +kernel) rfl rfl (Nat.le_of_ble_eq_true rfl) dJx4a65c_init_da8c8_8 (fun H locs hP hD hS => ?_)
  have hP : va_P (dC, dI) vwCl [(h0, .inr (0, [.int 0, .ref d0, .int sc]))] H := hP
  have hD : va_D A [(h0, .inr (0, [.int 0, .ref d0, .int sc]))] := hD
  have hP9 := hP.sub (ws' := [(h0, .inr (0, [.int 0, .ref d0, .int sc]))]) [0] rfl
  have hD9 := hD.sub (ws' := [(h0, .inr (0, [.int 0, .ref d0, .int sc]))]) [0] (by decide) rfl
  have hK9 := hK.sub (tys' := []) [] rfl
  refine W.widen (k := 0) (n := 0) (Nat.le_of_ble_eq_true rfl) (Nat.le_of_ble_eq_true rfl) ?_
  exact W.vret hx hb hr (fun t ht9 hW9 => ⟨⟨(), rfl, trivial, POW.mk' ht9 hW9.alike hP9 hK9 hD9⟩, hS.F ht9⟩) hS.2.2 dJx4a65c_init_da8c8_11
set_option maxHeartbeats 4000000 in
set_option maxRecDepth 100000 in
theorem k_X10_init (l : Launch) (d0 : Nat) (cO : ClassId) (dC : Nat → ClassId) (dI : Nat → Nat → Nat) (sz : Nat) (h0 : Nat) (v0 : Value) (n : Int32) : Met l yX10_init (cn yX10_init cX10_init 1 none) (rmd 1 1 100) (va_Pc [.ref h0] (PRE d0 cO (dC, dI) (va_A [(h0, .inr (11, [v0, .int n]))] sz) [(h0, .inr (11, [v0, .int n]))] [] sz)) (va_Qv (fun (_ : Unit) => True) (fun (_ : Unit) (t : State) => ∃ q : Nat, POW (dC, dI) (va_A [(h0, .inr (11, [v0, .int n]))] sz) [(h0, .inr (11, [.ref q, .int n]))] [] t) (va_A [(h0, .inr (11, [v0, .int n]))] sz)) 1 100 (va_A [(h0, .inr (11, [v0, .int n]))] sz) := by
  refine Met.ofW (cc := cX10_init) (maxL := 1) (ret := none) (by decide) rfl ?_
  intro p e s m args below meth c s₁ B hml hv
  obtain ⟨rfl, hsz, hE, hP, hK, hD0⟩ := hv
  have hx := B.exec
  have hb := B.bytes
  have hr := B.returns
  have hts := atoms_spec (ws := cn yX10_init cX10_init 1 none) B.pre
  have ht : ∀ w ∈ GT, w.before _ s = true := fun w h => hts w (List.mem_cons_of_mem _ h)
  have hown : s.vm.findClass RX10 = some m.cls := findClass_of_methodNamed B.named
  have hlocks := B.notSynchronized
  have hin : meth.name = "<init>" := (name_of_methodNamed B.named B.method).1
  subst hsz
  have hD := hD0.self (sz := s.heap.size)
  generalize hAe : va_A [(h0, .inr (11, [v0, .int n]))] s.heap.size = A at hD hE ⊢
  have hA : ∀ q : Nat, s.heap.size ≤ q → A q := fun q h => by rw [← hAe]; exact Or.inr h
  obtain ⟨H, hH0⟩ : ∃ H, s.heap = H := ⟨_, rfl⟩
  have hS : va_S A s.heap H [] := by rw [← hH0]; exact va_S.rf
  rw [hH0] at hP
  have hl := lv_entry ([.ref h0]) (n := 1) (Nat.le_of_ble_eq_true rfl)
  rw [lg_entry_eq]
  generalize (lg_sl ([.ref h0]) ++ List.replicate (1 - (lg_sl ([.ref h0])).length) Slot.unset).toArray = ls at hl ⊢
  have hl : lv_has ls 1 [(0, .ref h0)] := hl
  rw [hH0]
  refine lv_aload_n hx hb dX10_init_0 rfl (lv_at hl 0 rfl) ?_
  refine W.objInit hx hb hown (ht _ q164) (ht _ q157) (ht _ q158) rfl (by rw [hml]; exact hl.1) rfl dX10_init_1 (Nat.le_of_ble_eq_true rfl) (Nat.le_of_ble_eq_true rfl) ?_
  refine W.eq (g2 := F0 m 4 ls []) rfl ?_
  refine lv_aload_n hx hb dX10_init_4 rfl (lv_at hl 0 rfl) ?_
  refine lv_bipush (v := 100) hx hb dX10_init_5 (by decide) ?_
  refine va_newa (atype := .char) (ty := .char) (a0 := (100, .inl (fun _ => 0))) (N' := 100) hx hb (ht _ q172) rfl hK hP hD hS hA (fun _ => rfl) (by decide) (by decide) (by decide) (Nat.le_of_ble_eq_true rfl) (Nat.le_of_ble_eq_true rfl) dX10_init_7 (fun q1 t2 H hK hP hD hS => ?_)
  have hK : va_K (dC, dI) vwCl [(t2, .char)] s := hK
  have hP : va_P (dC, dI) vwCl [(h0, .inr (11, [v0, .int n])), (q1, .inl (t2, 100, .inl ((fun _ => 0))))] H := hP
  have hD : va_D A [(h0, .inr (11, [v0, .int n])), (q1, .inl (t2, 100, .inl ((fun _ => 0))))] := hD
  refine W.widen (k := 1) (n := 100) (Nat.le_of_ble_eq_true rfl) (Nat.le_of_ble_eq_true rfl) ?_
  refine va_putF (D := (dC, dI)) (ci := 11) (v := .ref q1) (ty := .array .char) (C := RX10) (T := TX10) (N := 2) hx hb ht inGX10 tyX10 tyX10_ok nmX10 hown hK hP hD hS 0 rfl rfl 0 (by decide) (ht _ q165) (fun _ h9 => h9) rfl hin rfl (by decide +kernel) rfl rfl (Nat.le_of_ble_eq_true rfl) dX10_init_9 (fun H locs hP hD hS => ?_)
  have hP : va_P (dC, dI) vwCl [(h0, .inr (11, [.ref q1, .int n])), (q1, .inl (t2, 100, .inl ((fun _ => 0))))] H := hP
  have hD : va_D A [(h0, .inr (11, [.ref q1, .int n])), (q1, .inl (t2, 100, .inl ((fun _ => 0))))] := hD
  have hP9 := hP.sub (ws' := [(h0, .inr (11, [.ref q1, .int n]))]) [0] rfl
  have hD9 := hD.sub (ws' := [(h0, .inr (11, [.ref q1, .int n]))]) [0] (by decide) rfl
  have hK9 := hK.sub (tys' := []) [] rfl
  refine W.widen (k := 1) (n := 100) (Nat.le_of_ble_eq_true rfl) (Nat.le_of_ble_eq_true rfl) ?_
  exact W.vret hx hb hr (fun t ht9 hW9 => ⟨⟨(), rfl, trivial, ⟨q1, POW.mk' ht9 hW9.alike hP9 hK9 hD9⟩⟩, hS.F ht9⟩) hS.2.2 dX10_init_12
set_option maxHeartbeats 4000000 in
set_option maxRecDepth 100000 in
theorem k_X5_init (l : Launch) (d0 : Nat) (cO : ClassId) (dC : Nat → ClassId) (dI : Nat → Nat → Nat) (sz : Nat) (h0 : Nat) (v0 : Value) (n : Int32) : Met l yX5_init (cn yX5_init cX5_init 1 none) (rmd 1 0 0) (va_Pc [.ref h0] (PRE d0 cO (dC, dI) (va_A [(h0, .inr (6, [v0, .int n]))] sz) [(h0, .inr (6, [v0, .int n]))] [] sz)) (va_Qv (fun (_ : Unit) => True) (fun (_ : Unit) (t : State) => ∃ v : Value, POW (dC, dI) (va_A [(h0, .inr (6, [v0, .int n]))] sz) [(h0, .inr (6, [v, .int n]))] [] t) (va_A [(h0, .inr (6, [v0, .int n]))] sz)) 0 0 (va_A [(h0, .inr (6, [v0, .int n]))] sz) := by
  refine Met.ofW (cc := cX5_init) (maxL := 1) (ret := none) (by decide) rfl ?_
  intro p e s m args below meth c s₁ B hml hv
  obtain ⟨rfl, hsz, hE, hP, hK, hD0⟩ := hv
  have hx := B.exec
  have hb := B.bytes
  have hr := B.returns
  have hts := atoms_spec (ws := cn yX5_init cX5_init 1 none) B.pre
  have ht : ∀ w ∈ GT, w.before _ s = true := fun w h => hts w (List.mem_cons_of_mem _ h)
  have hown : s.vm.findClass RX5 = some m.cls := findClass_of_methodNamed B.named
  have hlocks := B.notSynchronized
  have hin : meth.name = "<init>" := (name_of_methodNamed B.named B.method).1
  subst hsz
  have hD := hD0.self (sz := s.heap.size)
  generalize hAe : va_A [(h0, .inr (6, [v0, .int n]))] s.heap.size = A at hD hE ⊢
  have hA : ∀ q : Nat, s.heap.size ≤ q → A q := fun q h => by rw [← hAe]; exact Or.inr h
  obtain ⟨H, hH0⟩ : ∃ H, s.heap = H := ⟨_, rfl⟩
  have hS : va_S A s.heap H [] := by rw [← hH0]; exact va_S.rf
  rw [hH0] at hP
  have hl := lv_entry ([.ref h0]) (n := 1) (Nat.le_of_ble_eq_true rfl)
  rw [lg_entry_eq]
  generalize (lg_sl ([.ref h0]) ++ List.replicate (1 - (lg_sl ([.ref h0])).length) Slot.unset).toArray = ls at hl ⊢
  have hl : lv_has ls 1 [(0, .ref h0)] := hl
  rw [hH0]
  refine lv_aload_n hx hb dX5_init_0 rfl (lv_at hl 0 rfl) ?_
  refine W.objInit hx hb hown (ht _ q301) (ht _ q157) (ht _ q158) rfl (by rw [hml]; exact hl.1) rfl dX5_init_1 (Nat.le_of_ble_eq_true rfl) (Nat.le_of_ble_eq_true rfl) ?_
  refine W.eq (g2 := F0 m 4 ls []) rfl ?_
  refine lv_aload_n hx hb dX5_init_4 rfl (lv_at hl 0 rfl) ?_
  obtain ⟨vN1, hN2, hZ3⟩ := zq_val hE.2.2.2.1
  refine va_getsN (v := vN1) hx hb hZ3 hS hown (ht _ q302) (fun _ h9 => h9) dX5_init_5 ?_
  refine va_put (D := (dC, dI)) (ci := 6) (v := vN1) (ty := .array .int) (C := RX5) (T := TX5) (N := 2) hx hb ht inGX5 tyX5 tyX5_ok nmX5 hown hK hP hD hS 0 rfl rfl 0 (by decide) (ht _ q303) (fun _ h9 => h9) rfl (by decide +kernel) (by rcases hN2 with rfl | ⟨t, rfl⟩ <;> rfl) (by rcases hN2 with rfl | ⟨t, rfl⟩ <;> rfl) (Nat.le_of_ble_eq_true rfl) dX5_init_8 (fun H locs hP hD hS => ?_)
  have hP : va_P (dC, dI) vwCl [(h0, .inr (6, [vN1, .int n]))] H := hP
  have hD : va_D A [(h0, .inr (6, [vN1, .int n]))] := hD
  have hP9 := hP.sub (ws' := [(h0, .inr (6, [vN1, .int n]))]) [0] rfl
  have hD9 := hD.sub (ws' := [(h0, .inr (6, [vN1, .int n]))]) [0] (by decide) rfl
  have hK9 := hK.sub (tys' := []) [] rfl
  refine W.widen (k := 0) (n := 0) (Nat.le_of_ble_eq_true rfl) (Nat.le_of_ble_eq_true rfl) ?_
  exact W.vret hx hb hr (fun t ht9 hW9 => ⟨⟨(), rfl, trivial, ⟨vN1, POW.mk' ht9 hW9.alike hP9 hK9 hD9⟩⟩, hS.F ht9⟩) hS.2.2 dX5_init_11
set_option maxHeartbeats 4000000 in
set_option maxRecDepth 100000 in
theorem k_X2_init (l : Launch) (d0 : Nat) (cO : ClassId) (dC : Nat → ClassId) (dI : Nat → Nat → Nat) (sz : Nat) (h0 : Nat) (v0 v1 v2 : Value) (i3 i4 i5 i6 : Int32) : Met l yX2_init (cn yX2_init cX2_init 1 none) (rmd 2 4 204) (va_Pc [.ref h0] (PRE d0 cO (dC, dI) (va_A [(h0, .inr (3, [v0, v1, v2, .int i3, .int i4, .int i5, .int i6]))] sz) [(h0, .inr (3, [v0, v1, v2, .int i3, .int i4, .int i5, .int i6]))] [] sz)) (va_Qv (fun (_ : Unit) => True) (fun (_ : Unit) (t : State) => ∃ w0 : Value, ∃ w1 : Value, ∃ w2 : Value, POW (dC, dI) (va_A [(h0, .inr (3, [v0, v1, v2, .int i3, .int i4, .int i5, .int i6]))] sz) [(h0, .inr (3, [w0, w1, w2, .int i3, .int ((-1)), .int ((-1)), .int ((-1))]))] [] t) (va_A [(h0, .inr (3, [v0, v1, v2, .int i3, .int i4, .int i5, .int i6]))] sz)) 4 204 (va_A [(h0, .inr (3, [v0, v1, v2, .int i3, .int i4, .int i5, .int i6]))] sz) := by
  refine Met.ofW (cc := cX2_init) (maxL := 1) (ret := none) (by decide) rfl ?_
  intro p e s m args below meth c s₁ B hml hv
  obtain ⟨rfl, hsz, hE, hP, hK, hD0⟩ := hv
  have hx := B.exec
  have hb := B.bytes
  have hr := B.returns
  have hts := atoms_spec (ws := cn yX2_init cX2_init 1 none) B.pre
  have ht : ∀ w ∈ GT, w.before _ s = true := fun w h => hts w (List.mem_cons_of_mem _ h)
  have hown : s.vm.findClass RX2 = some m.cls := findClass_of_methodNamed B.named
  have hlocks := B.notSynchronized
  have hin : meth.name = "<init>" := (name_of_methodNamed B.named B.method).1
  subst hsz
  have hD := hD0.self (sz := s.heap.size)
  generalize hAe : va_A [(h0, .inr (3, [v0, v1, v2, .int i3, .int i4, .int i5, .int i6]))] s.heap.size = A at hD hE ⊢
  have hA : ∀ q : Nat, s.heap.size ≤ q → A q := fun q h => by rw [← hAe]; exact Or.inr h
  obtain ⟨H, hH0⟩ : ∃ H, s.heap = H := ⟨_, rfl⟩
  have hS : va_S A s.heap H [] := by rw [← hH0]; exact va_S.rf
  rw [hH0] at hP
  have hl := lv_entry ([.ref h0]) (n := 1) (Nat.le_of_ble_eq_true rfl)
  rw [lg_entry_eq]
  generalize (lg_sl ([.ref h0]) ++ List.replicate (1 - (lg_sl ([.ref h0])).length) Slot.unset).toArray = ls at hl ⊢
  have hl : lv_has ls 1 [(0, .ref h0)] := hl
  rw [hH0]
  refine lv_aload_n hx hb dX2_init_0 rfl (lv_at hl 0 rfl) ?_
  refine W.objInit hx hb hown (ht _ q257) (ht _ q157) (ht _ q158) rfl (by rw [hml]; exact hl.1) rfl dX2_init_1 (Nat.le_of_ble_eq_true rfl) (Nat.le_of_ble_eq_true rfl) ?_
  refine W.eq (g2 := F0 m 4 ls []) rfl ?_
  refine lv_aload_n hx hb dX2_init_4 rfl (lv_at hl 0 rfl) ?_
  refine va_new (ci := 11) (fs := [.null, .int 0]) (C := RX10) (T := TX10) (N := 2) hx hb ht inGX10 tyX10 tyX10_ok hown (ht _ q258) (ht _ q160) (ht _ q124) hK hP hD hS hA rfl (fun j hj => by rcases (show j = 0 ∨ j = 1 by omega) with rfl | rfl <;> rfl) (Nat.le_of_ble_eq_true rfl) (Nat.le_of_ble_eq_true rfl) dX2_init_5 (fun q1 H hP hD hS => ?_)
  have hP : va_P (dC, dI) vwCl [(h0, .inr (3, [v0, v1, v2, .int i3, .int i4, .int i5, .int i6])), (q1, .inr (11, [.null, .int 0]))] H := hP
  have hD : va_D A [(h0, .inr (3, [v0, v1, v2, .int i3, .int i4, .int i5, .int i6])), (q1, .inr (11, [.null, .int 0]))] := hD
  refine W.widen (k := 1) (n := 2) (Nat.le_of_ble_eq_true rfl) (Nat.le_of_ble_eq_true rfl) ?_
  refine lv_dup hx hb dX2_init_8 rfl ?_
  have hPc := hP.sub (ws' := [(q1, .inr (11, [.null, .int 0]))]) [1] rfl
  have hDc := hD.sub (ws' := [(q1, .inr (11, [.null, .int 0]))]) [1] (by decide) rfl
  have hKc := hK.sub (tys' := []) [] rfl
  have hFc := va_free (wc := [(q1, .inr (11, [.null, .int 0]))]) hD hS hA [1] rfl
  refine va_callv (va_runIN (As := []) (rest := [.ref q1, .ref h0]) ⟨hx, hb, hml, hown, ht⟩ (k_X10_init l d0 cO dC dI H.size q1 .null 0) (my_NI ht M_X10_init q162 rfl q259 (Nat.le_of_ble_eq_true rfl) (Nat.le_of_ble_eq_true rfl)) ⟨PRE.fb, fun U hU hW => ⟨rfl, PRE.mk' hE hS hFc hPc hKc hDc U hU hW⟩⟩ rfl rfl hl.1 rfl (lv_room (Nat.le_of_ble_eq_true rfl)) dX2_init_9 ⟨(Nat.le_of_ble_eq_true rfl), (Nat.le_of_ble_eq_true rfl)⟩) hS (fun q _ h => hFc q h) hFc (fun u2 t H1 locs htt hvm hw hB hz1 hk1 hS => ?_)
  try dsimp only at hw hB
  obtain ⟨q4, hP1, hK1, hD1⟩ := hB
  rw [htt] at hP1
  have hK1 := va_K.moved hvm.symm hK1
  obtain ⟨hP, hD⟩ := va_join (wr := [(h0, .inr (3, [v0, v1, v2, .int i3, .int i4, .int i5, .int i6]))]) (w1 := [(q1, .inr (11, [.ref q4, .int 0]))]) hP hD [1] [0] rfl rfl (by decide) (by decide) hk1 hFc hP1 hD1
  have hK := (hK.sub (tys' := []) [] rfl).app hK1
  generalize H1 = H at hP hS ⊢
  have hP : va_P (dC, dI) vwCl [(h0, .inr (3, [v0, v1, v2, .int i3, .int i4, .int i5, .int i6])), (q1, .inr (11, [.ref q4, .int 0]))] H := hP
  have hD : va_D A [(h0, .inr (3, [v0, v1, v2, .int i3, .int i4, .int i5, .int i6])), (q1, .inr (11, [.ref q4, .int 0]))] := hD
  have hK : va_K (dC, dI) vwCl [] s := hK
  refine W.widen (k := 2) (n := 102) (Nat.le_of_ble_eq_true rfl) (Nat.le_of_ble_eq_true rfl) ?_
  refine va_putF (D := (dC, dI)) (ci := 3) (v := .ref q1) (ty := .object "ToolPlex$Text") (C := RX2) (T := TX2) (N := 7) hx hb ht inGX2 tyX2 tyX2_ok nmX2 hown hK hP hD hS 0 rfl rfl 0 (by decide) (ht _ q262) (fun _ h9 => h9) rfl hin rfl (by decide +kernel) rfl rfl (Nat.le_of_ble_eq_true rfl) dX2_init_12 (fun H locs hP hD hS => ?_)
  have hP : va_P (dC, dI) vwCl [(h0, .inr (3, [.ref q1, v1, v2, .int i3, .int i4, .int i5, .int i6])), (q1, .inr (11, [.ref q4, .int 0]))] H := hP
  have hD : va_D A [(h0, .inr (3, [.ref q1, v1, v2, .int i3, .int i4, .int i5, .int i6])), (q1, .inr (11, [.ref q4, .int 0]))] := hD
  refine lv_aload_n hx hb dX2_init_15 rfl (lv_at hl 0 rfl) ?_
  refine va_new (ci := 11) (fs := [.null, .int 0]) (C := RX10) (T := TX10) (N := 2) hx hb ht inGX10 tyX10 tyX10_ok hown (ht _ q258) (ht _ q160) (ht _ q124) hK hP hD hS hA rfl (fun j hj => by rcases (show j = 0 ∨ j = 1 by omega) with rfl | rfl <;> rfl) (Nat.le_of_ble_eq_true rfl) (Nat.le_of_ble_eq_true rfl) dX2_init_16 (fun q5 H hP hD hS => ?_)
  have hP : va_P (dC, dI) vwCl [(h0, .inr (3, [.ref q1, v1, v2, .int i3, .int i4, .int i5, .int i6])), (q1, .inr (11, [.ref q4, .int 0])), (q5, .inr (11, [.null, .int 0]))] H := hP
  have hD : va_D A [(h0, .inr (3, [.ref q1, v1, v2, .int i3, .int i4, .int i5, .int i6])), (q1, .inr (11, [.ref q4, .int 0])), (q5, .inr (11, [.null, .int 0]))] := hD
  refine W.widen (k := 3) (n := 104) (Nat.le_of_ble_eq_true rfl) (Nat.le_of_ble_eq_true rfl) ?_
  refine lv_dup hx hb dX2_init_19 rfl ?_
  have hPc := hP.sub (ws' := [(q5, .inr (11, [.null, .int 0]))]) [2] rfl
  have hDc := hD.sub (ws' := [(q5, .inr (11, [.null, .int 0]))]) [2] (by decide) rfl
  have hKc := hK.sub (tys' := []) [] rfl
  have hFc := va_free (wc := [(q5, .inr (11, [.null, .int 0]))]) hD hS hA [2] rfl
  refine va_callv (va_runIN (As := []) (rest := [.ref q5, .ref h0]) ⟨hx, hb, hml, hown, ht⟩ (k_X10_init l d0 cO dC dI H.size q5 .null 0) (my_NI ht M_X10_init q162 rfl q259 (Nat.le_of_ble_eq_true rfl) (Nat.le_of_ble_eq_true rfl)) ⟨PRE.fb, fun U hU hW => ⟨rfl, PRE.mk' hE hS hFc hPc hKc hDc U hU hW⟩⟩ rfl rfl hl.1 rfl (lv_room (Nat.le_of_ble_eq_true rfl)) dX2_init_20 ⟨(Nat.le_of_ble_eq_true rfl), (Nat.le_of_ble_eq_true rfl)⟩) hS (fun q _ h => hFc q h) hFc (fun u6 t H1 locs htt hvm hw hB hz1 hk1 hS => ?_)
  try dsimp only at hw hB
  obtain ⟨q8, hP1, hK1, hD1⟩ := hB
  rw [htt] at hP1
  have hK1 := va_K.moved hvm.symm hK1
  obtain ⟨hP, hD⟩ := va_join (wr := [(h0, .inr (3, [.ref q1, v1, v2, .int i3, .int i4, .int i5, .int i6])), (q1, .inr (11, [.ref q4, .int 0]))]) (w1 := [(q5, .inr (11, [.ref q8, .int 0]))]) hP hD [2] [0, 1] rfl rfl (by decide) (by decide) hk1 hFc hP1 hD1
  have hK := (hK.sub (tys' := []) [] rfl).app hK1
  generalize H1 = H at hP hS ⊢
  have hP : va_P (dC, dI) vwCl [(h0, .inr (3, [.ref q1, v1, v2, .int i3, .int i4, .int i5, .int i6])), (q1, .inr (11, [.ref q4, .int 0])), (q5, .inr (11, [.ref q8, .int 0]))] H := hP
  have hD : va_D A [(h0, .inr (3, [.ref q1, v1, v2, .int i3, .int i4, .int i5, .int i6])), (q1, .inr (11, [.ref q4, .int 0])), (q5, .inr (11, [.ref q8, .int 0]))] := hD
  have hK : va_K (dC, dI) vwCl [] s := hK
  refine W.widen (k := 4) (n := 204) (Nat.le_of_ble_eq_true rfl) (Nat.le_of_ble_eq_true rfl) ?_
  refine va_putF (D := (dC, dI)) (ci := 3) (v := .ref q5) (ty := .object "ToolPlex$Text") (C := RX2) (T := TX2) (N := 7) hx hb ht inGX2 tyX2 tyX2_ok nmX2 hown hK hP hD hS 0 rfl rfl 1 (by decide) (ht _ q267) (fun _ h9 => h9) rfl hin rfl (by decide +kernel) rfl rfl (Nat.le_of_ble_eq_true rfl) dX2_init_23 (fun H locs hP hD hS => ?_)
  have hP : va_P (dC, dI) vwCl [(h0, .inr (3, [.ref q1, .ref q5, v2, .int i3, .int i4, .int i5, .int i6])), (q1, .inr (11, [.ref q4, .int 0])), (q5, .inr (11, [.ref q8, .int 0]))] H := hP
  have hD : va_D A [(h0, .inr (3, [.ref q1, .ref q5, v2, .int i3, .int i4, .int i5, .int i6])), (q1, .inr (11, [.ref q4, .int 0])), (q5, .inr (11, [.ref q8, .int 0]))] := hD
  refine lv_aload_n hx hb dX2_init_26 rfl (lv_at hl 0 rfl) ?_
  obtain ⟨vN9, hN10, hZ11⟩ := zq_val hE.2.2.2.1
  refine va_getsN (v := vN9) hx hb hZ11 hS hown (ht _ q260) (fun _ h9 => h9) dX2_init_27 ?_
  refine va_put (D := (dC, dI)) (ci := 3) (v := vN9) (ty := .array .int) (C := RX2) (T := TX2) (N := 7) hx hb ht inGX2 tyX2 tyX2_ok nmX2 hown hK hP hD hS 0 rfl rfl 2 (by decide) (ht _ q268) (fun _ h9 => h9) rfl (by decide +kernel) (by rcases hN10 with rfl | ⟨t, rfl⟩ <;> rfl) (by rcases hN10 with rfl | ⟨t, rfl⟩ <;> rfl) (Nat.le_of_ble_eq_true rfl) dX2_init_30 (fun H locs hP hD hS => ?_)
  have hP : va_P (dC, dI) vwCl [(h0, .inr (3, [.ref q1, .ref q5, vN9, .int i3, .int i4, .int i5, .int i6])), (q1, .inr (11, [.ref q4, .int 0])), (q5, .inr (11, [.ref q8, .int 0]))] H := hP
  have hD : va_D A [(h0, .inr (3, [.ref q1, .ref q5, vN9, .int i3, .int i4, .int i5, .int i6])), (q1, .inr (11, [.ref q4, .int 0])), (q5, .inr (11, [.ref q8, .int 0]))] := hD
  refine lv_aload_n hx hb dX2_init_33 rfl (lv_at hl 0 rfl) ?_
  refine lv_iconst (v := -1) hx hb dX2_init_34 (by decide) ?_
  refine va_put (D := (dC, dI)) (ci := 3) (v := .int (-1)) (ty := .int) (C := RX2) (T := TX2) (N := 7) hx hb ht inGX2 tyX2 tyX2_ok nmX2 hown hK hP hD hS 0 rfl rfl 4 (by decide) (ht _ q270) (fun _ h9 => h9) rfl (by decide +kernel) rfl rfl (Nat.le_of_ble_eq_true rfl) dX2_init_35 (fun H locs hP hD hS => ?_)
  have hP : va_P (dC, dI) vwCl [(h0, .inr (3, [.ref q1, .ref q5, vN9, .int i3, .int (-1), .int i5, .int i6])), (q1, .inr (11, [.ref q4, .int 0])), (q5, .inr (11, [.ref q8, .int 0]))] H := hP
  have hD : va_D A [(h0, .inr (3, [.ref q1, .ref q5, vN9, .int i3, .int (-1), .int i5, .int i6])), (q1, .inr (11, [.ref q4, .int 0])), (q5, .inr (11, [.ref q8, .int 0]))] := hD
  refine lv_aload_n hx hb dX2_init_38 rfl (lv_at hl 0 rfl) ?_
  refine lv_iconst (v := -1) hx hb dX2_init_39 (by decide) ?_
  refine va_put (D := (dC, dI)) (ci := 3) (v := .int (-1)) (ty := .int) (C := RX2) (T := TX2) (N := 7) hx hb ht inGX2 tyX2 tyX2_ok nmX2 hown hK hP hD hS 0 rfl rfl 5 (by decide) (ht _ q275) (fun _ h9 => h9) rfl (by decide +kernel) rfl rfl (Nat.le_of_ble_eq_true rfl) dX2_init_40 (fun H locs hP hD hS => ?_)
  have hP : va_P (dC, dI) vwCl [(h0, .inr (3, [.ref q1, .ref q5, vN9, .int i3, .int (-1), .int (-1), .int i6])), (q1, .inr (11, [.ref q4, .int 0])), (q5, .inr (11, [.ref q8, .int 0]))] H := hP
  have hD : va_D A [(h0, .inr (3, [.ref q1, .ref q5, vN9, .int i3, .int (-1), .int (-1), .int i6])), (q1, .inr (11, [.ref q4, .int 0])), (q5, .inr (11, [.ref q8, .int 0]))] := hD
  refine lv_aload_n hx hb dX2_init_43 rfl (lv_at hl 0 rfl) ?_
  refine lv_iconst (v := -1) hx hb dX2_init_44 (by decide) ?_
  refine va_put (D := (dC, dI)) (ci := 3) (v := .int (-1)) (ty := .int) (C := RX2) (T := TX2) (N := 7) hx hb ht inGX2 tyX2 tyX2_ok nmX2 hown hK hP hD hS 0 rfl rfl 6 (by decide) (ht _ q278) (fun _ h9 => h9) rfl (by decide +kernel) rfl rfl (Nat.le_of_ble_eq_true rfl) dX2_init_45 (fun H locs hP hD hS => ?_)
  have hP : va_P (dC, dI) vwCl [(h0, .inr (3, [.ref q1, .ref q5, vN9, .int i3, .int (-1), .int (-1), .int (-1)])), (q1, .inr (11, [.ref q4, .int 0])), (q5, .inr (11, [.ref q8, .int 0]))] H := hP
  have hD : va_D A [(h0, .inr (3, [.ref q1, .ref q5, vN9, .int i3, .int (-1), .int (-1), .int (-1)])), (q1, .inr (11, [.ref q4, .int 0])), (q5, .inr (11, [.ref q8, .int 0]))] := hD
  have hP9 := hP.sub (ws' := [(h0, .inr (3, [.ref q1, .ref q5, vN9, .int i3, .int (-1), .int (-1), .int (-1)]))]) [0] rfl
  have hD9 := hD.sub (ws' := [(h0, .inr (3, [.ref q1, .ref q5, vN9, .int i3, .int (-1), .int (-1), .int (-1)]))]) [0] (by decide) rfl
  have hK9 := hK.sub (tys' := []) [] rfl
  refine W.widen (k := 4) (n := 204) (Nat.le_of_ble_eq_true rfl) (Nat.le_of_ble_eq_true rfl) ?_
  exact W.vret hx hb hr (fun t ht9 hW9 => ⟨⟨(), rfl, trivial, ⟨.ref q1, .ref q5, vN9, POW.mk' ht9 hW9.alike hP9 hK9 hD9⟩⟩, hS.F ht9⟩) hS.2.2 dX2_init_48
set_option maxHeartbeats 4000000 in
set_option maxRecDepth 100000 in
theorem k_X1_init (l : Launch) (d0 : Nat) (cO : ClassId) (dC : Nat → ClassId) (dI : Nat → Nat → Nat) (sz : Nat) (h0 : Nat) (v0 : Value) : Met l yX1_init (cn yX1_init cX1_init 1 none) (rmd 4 1 3) (va_Pc [.ref h0] (PRE d0 cO (dC, dI) (va_A [(h0, .inr (2, [v0]))] sz) [(h0, .inr (2, [v0]))] [] sz)) (va_Qv (fun (_ : Unit) => True) (fun (_ : Unit) (t : State) => ∃ q : Nat, POW (dC, dI) (va_A [(h0, .inr (2, [v0]))] sz) [(h0, .inr (2, [.ref q])), (q, .inr (0, [.int 0, .ref d0, .int 0]))] [] t) (va_A [(h0, .inr (2, [v0]))] sz)) 1 3 (va_A [(h0, .inr (2, [v0]))] sz) := by
  refine Met.ofW (cc := cX1_init) (maxL := 1) (ret := none) (by decide) rfl ?_
  intro p e s m args below meth c s₁ B hml hv
  obtain ⟨rfl, hsz, hE, hP, hK, hD0⟩ := hv
  have hx := B.exec
  have hb := B.bytes
  have hr := B.returns
  have hts := atoms_spec (ws := cn yX1_init cX1_init 1 none) B.pre
  have ht : ∀ w ∈ GT, w.before _ s = true := fun w h => hts w (List.mem_cons_of_mem _ h)
  have hown : s.vm.findClass RX1 = some m.cls := findClass_of_methodNamed B.named
  have hlocks := B.notSynchronized
  have hin : meth.name = "<init>" := (name_of_methodNamed B.named B.method).1
  subst hsz
  have hD := hD0.self (sz := s.heap.size)
  generalize hAe : va_A [(h0, .inr (2, [v0]))] s.heap.size = A at hD hE ⊢
  have hA : ∀ q : Nat, s.heap.size ≤ q → A q := fun q h => by rw [← hAe]; exact Or.inr h
  obtain ⟨H, hH0⟩ : ∃ H, s.heap = H := ⟨_, rfl⟩
  have hS : va_S A s.heap H [] := by rw [← hH0]; exact va_S.rf
  rw [hH0] at hP
  have hl := lv_entry ([.ref h0]) (n := 1) (Nat.le_of_ble_eq_true rfl)
  rw [lg_entry_eq]
  generalize (lg_sl ([.ref h0]) ++ List.replicate (1 - (lg_sl ([.ref h0])).length) Slot.unset).toArray = ls at hl ⊢
  have hl : lv_has ls 1 [(0, .ref h0)] := hl
  rw [hH0]
  refine lv_aload_n hx hb dX1_init_0 rfl (lv_at hl 0 rfl) ?_
  refine W.objInit hx hb hown (ht _ q237) (ht _ q157) (ht _ q158) rfl (by rw [hml]; exact hl.1) rfl dX1_init_1 (Nat.le_of_ble_eq_true rfl) (Nat.le_of_ble_eq_true rfl) ?_
  refine W.eq (g2 := F0 m 4 ls []) rfl ?_
  refine lv_aload_n hx hb dX1_init_4 rfl (lv_at hl 0 rfl) ?_
  refine va_new (ci := 0) (fs := [.int 0, .null, .int 0]) (C := RJx4a65c) (T := TJx4a65c) (N := 3) hx hb ht inGJx4a65c tyJx4a65c tyJx4a65c_ok hown (ht _ q238) (ht _ q206) (ht _ q128) hK hP hD hS hA rfl (fun j hj => by rcases (show j = 0 ∨ j = 1 ∨ j = 2 by omega) with rfl | rfl | rfl <;> rfl) (Nat.le_of_ble_eq_true rfl) (Nat.le_of_ble_eq_true rfl) dX1_init_5 (fun q1 H hP hD hS => ?_)
  have hP : va_P (dC, dI) vwCl [(h0, .inr (2, [v0])), (q1, .inr (0, [.int 0, .null, .int 0]))] H := hP
  have hD : va_D A [(h0, .inr (2, [v0])), (q1, .inr (0, [.int 0, .null, .int 0]))] := hD
  refine W.widen (k := 1) (n := 3) (Nat.le_of_ble_eq_true rfl) (Nat.le_of_ble_eq_true rfl) ?_
  refine lv_dup hx hb dX1_init_8 rfl ?_
  have hPc := hP.sub (ws' := [(q1, .inr (0, [.int 0, .null, .int 0]))]) [1] rfl
  have hDc := hD.sub (ws' := [(q1, .inr (0, [.int 0, .null, .int 0]))]) [1] (by decide) rfl
  have hKc := hK.sub (tys' := []) [] rfl
  have hFc := va_free (wc := [(q1, .inr (0, [.int 0, .null, .int 0]))]) hD hS hA [1] rfl
  refine va_callv (va_runI (As := []) (rest := [.ref q1, .ref h0]) ⟨hx, hb, hml, hown, ht⟩ (k_Jx4a65c_init_da8c8 l d0 cO dC dI H.size q1 0 .null 0) (my_I ht M_Jx4a65c_init_da8c8 q208 rfl q239 (Nat.le_of_ble_eq_true rfl) (Nat.le_of_ble_eq_true rfl)) ⟨PRE.fb, fun U hU hW => ⟨rfl, PRE.mk' hE hS hFc hPc hKc hDc U hU hW⟩⟩ rfl rfl hl.1 rfl (lv_room (Nat.le_of_ble_eq_true rfl)) dX1_init_9 ⟨(Nat.le_of_ble_eq_true rfl), (Nat.le_of_ble_eq_true rfl)⟩) hS (fun q _ h => hFc q h) hFc (fun u2 t H1 locs htt hvm hw hB hz1 hk1 hS => ?_)
  try dsimp only at hw hB
  obtain ⟨hP1, hK1, hD1⟩ := hB
  rw [htt] at hP1
  have hK1 := va_K.moved hvm.symm hK1
  obtain ⟨hP, hD⟩ := va_join (wr := [(h0, .inr (2, [v0]))]) (w1 := [(q1, .inr (0, [.int 0, .ref d0, .int 0]))]) hP hD [1] [0] rfl rfl (by decide) (by decide) hk1 hFc hP1 hD1
  have hK := (hK.sub (tys' := []) [] rfl).app hK1
  generalize H1 = H at hP hS ⊢
  have hP : va_P (dC, dI) vwCl [(h0, .inr (2, [v0])), (q1, .inr (0, [.int 0, .ref d0, .int 0]))] H := hP
  have hD : va_D A [(h0, .inr (2, [v0])), (q1, .inr (0, [.int 0, .ref d0, .int 0]))] := hD
  have hK : va_K (dC, dI) vwCl [] s := hK
  refine W.widen (k := 1) (n := 3) (Nat.le_of_ble_eq_true rfl) (Nat.le_of_ble_eq_true rfl) ?_
  refine va_putF (D := (dC, dI)) (ci := 2) (v := .ref q1) (ty := .object "java/util/ArrayList") (C := RX1) (T := TX1) (N := 1) hx hb ht inGX1 tyX1 tyX1_ok nmX1 hown hK hP hD hS 0 rfl rfl 0 (by decide) (ht _ q240) (fun _ h9 => h9) rfl hin rfl (by decide +kernel) rfl rfl (Nat.le_of_ble_eq_true rfl) dX1_init_12 (fun H locs hP hD hS => ?_)
  have hP : va_P (dC, dI) vwCl [(h0, .inr (2, [.ref q1])), (q1, .inr (0, [.int 0, .ref d0, .int 0]))] H := hP
  have hD : va_D A [(h0, .inr (2, [.ref q1])), (q1, .inr (0, [.int 0, .ref d0, .int 0]))] := hD
  have hP9 := hP.sub (ws' := [(h0, .inr (2, [.ref q1])), (q1, .inr (0, [.int 0, .ref d0, .int 0]))]) [0, 1] rfl
  have hD9 := hD.sub (ws' := [(h0, .inr (2, [.ref q1])), (q1, .inr (0, [.int 0, .ref d0, .int 0]))]) [0, 1] (by decide) rfl
  have hK9 := hK.sub (tys' := []) [] rfl
  refine W.widen (k := 1) (n := 3) (Nat.le_of_ble_eq_true rfl) (Nat.le_of_ble_eq_true rfl) ?_
  exact W.vret hx hb hr (fun t ht9 hW9 => ⟨⟨(), rfl, trivial, ⟨q1, POW.mk' ht9 hW9.alike hP9 hK9 hD9⟩⟩, hS.F ht9⟩) hS.2.2 dX1_init_15
