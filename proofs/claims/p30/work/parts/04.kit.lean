/-! my own rows: one list of words for all methods, one start and one end for all contracts, calls -/
def myGood (w : Cond) : Bool := goodWord w || (w.onTables && w.keepsH) || (match w with | .castable .. => true | .declares _ => true | _ => false)
def GT : List Cond := lw_tbl.filter myGood
def cn (y : MethodName) (b : ByteArray) (n : Nat) (r : Option FieldType) : List Cond := Cond.code y b n r :: GT
def cnW (y : MethodName) (b : ByteArray) (n : Nat) (r : Option FieldType) (hh : List (Nat × Nat × Nat × Nat)) : List Cond := Cond.codeWith y b n r hh :: GT
theorem gt {w : Cond} (i : Nat) (h : lw_tbl[i]? = some w) (g : myGood w = true) : w ∈ GT := List.mem_filter.mpr ⟨List.mem_of_getElem? h, g⟩
theorem gts {ws : List Cond} (ps : List Nat) (h : ws = ps.filterMap (fun i => lw_tbl[i]?)) (g : ws.all myGood = true) : ∀ w ∈ ws, w ∈ GT := by
  intro w hw
  refine List.mem_filter.mpr ⟨?_, List.all_eq_true.mp g w hw⟩
  rw [h] at hw
  obtain ⟨i, -, hi⟩ := List.mem_filterMap.mp hw
  exact List.mem_of_getElem? hi
theorem gt_good {w : Cond} (h : w ∈ GT) : myGood w = true := (List.mem_filter.mp h).2
theorem gt_tbl {w : Cond} (h : w ∈ GT) : w ∈ lw_tbl := (List.mem_filter.mp h).1
theorem my_warm {args a' : Array Value} {s U : State} (hW : s.WarmedH U.vm) {w : Cond} (g : myGood w = true) (h : w.before args s = true) : w.before a' U = true := by
  unfold myGood at g
  simp only [Bool.or_eq_true] at g
  rcases g with (g | g) | g
  · exact word_at hW (good_of_word g) h
  · simp only [Bool.and_eq_true] at g
    have h1 : w.before args (s.setVm U.vm) = true := Cond.holds_shiftedH (State.Shifted.of_warmed hW) (fun m x hx => by rw [hW.hostNow]; exact hx) w [] g.2 h
    exact va_tabs g.1 (rfl : (s.setVm U.vm).vm = U.vm) h1
  · cases w <;> simp at g
    · exact va_tabs rfl (rfl : (s.setVm U.vm).vm = U.vm) (by rw [Cond.declares_setVm hW.alike]; exact h)
    · exact va_tabs rfl (rfl : (s.setVm U.vm).vm = U.vm) (by rw [Cond.castable_setVm hW.alike]; exact h)
theorem gt_warm {args : Array Value} {s : State} (ht : ∀ w ∈ GT, w.before args s = true) : ∀ w ∈ GT, ∀ (a' : Array Value) (U : State), s.WarmedH U.vm → w.before a' U = true := fun w h a' U hW => my_warm hW (gt_good h) (ht w h)
/-- what a method of the tables is: its code, that it is an instance's or static, its class set up, its name plain, its arguments' number -/
def MY (y : MethodName) (b : ByteArray) (n : Nat) (r : Option FieldType) (k : Nat) : Prop := Cond.code y b n r ∈ GT ∧ Cond.initialized y.cls ∈ GT ∧ (y.cls ≠ "java/lang/invoke/MethodHandle" ∧ y.cls ≠ "java/lang/invoke/VarHandle") ∧ (parseMethodDescriptor y.desc).map (fun d => d.parameters.length) = some k
def MYW (y : MethodName) (b : ByteArray) (n : Nat) (r : Option FieldType) (hh : List (Nat × Nat × Nat × Nat)) (k : Nat) : Prop := Cond.codeWith y b n r hh ∈ GT ∧ Cond.initialized y.cls ∈ GT ∧ (y.cls ≠ "java/lang/invoke/MethodHandle" ∧ y.cls ≠ "java/lang/invoke/VarHandle") ∧ (parseMethodDescriptor y.desc).map (fun d => d.parameters.length) = some k
theorem my_len {y : MethodName} {k : Nat} (h : (parseMethodDescriptor y.desc).map (fun d => d.parameters.length) = some k) : ∀ sig, parseMethodDescriptor y.desc = some sig → k = sig.parameters.length := by
  intro sig e
  rw [e] at h
  simpa using h.symm
/-- room by depth -/
def rmd (d mc ms : Nat) : Room := { frames := d, cells := mc, slots := ms, locals := 40 * d }
theorem my_B {R : Room} {s : State} {args : Array Value} {own : String} {idx : Nat} {y : MethodName} {b : ByteArray} {n k d mc ms : Nat} {r : Option FieldType} (ht : ∀ w ∈ GT, w.before args s = true) (hm : MY y b n r k) (hl : Cond.methodLink own idx y ∈ GT) (hf : d + 1 ≤ R.frames) (hlo : 8 + (n + 11) + 40 * d ≤ R.locals) : CallB R s args own idx y b n r (cn y b n r) (rmd d mc ms) mc ms k := by
  refine ⟨rfl, rfl, hf, hlo, ?_, List.mem_cons_self, ht _ hm.1, ht _ hm.2.1, hm.2.2.1, my_len hm.2.2.2, ht _ hl⟩
  intro w hw a' U hW
  rcases List.mem_cons.mp hw with rfl | h
  · exact gt_warm ht _ hm.1 a' U hW
  · exact gt_warm ht _ h a' U hW
theorem my_V {R : Room} {s : State} {args : Array Value} {own C : String} {idx : Nat} {y : MethodName} {b : ByteArray} {n k d mc ms : Nat} {r : Option FieldType} (ht : ∀ w ∈ GT, w.before args s = true) (hm : MY y b n r k) (hi : Cond.instanceMethod y ∈ GT) (hs : Cond.selects C y y ∈ GT) (hl : Cond.methodLink own idx y ∈ GT) (hf : d + 1 ≤ R.frames) (hlo : 8 + (n + 11) + 40 * d ≤ R.locals) : CallW R s args own C idx y b n r (cn y b n r) (rmd d mc ms) mc ms k := ⟨my_B ht hm hl hf hlo, ht _ hi, ht _ hs⟩
theorem my_S {R : Room} {s : State} {args : Array Value} {own : String} {idx : Nat} {y : MethodName} {b : ByteArray} {n k d mc ms : Nat} {r : Option FieldType} (ht : ∀ w ∈ GT, w.before args s = true) (hm : MY y b n r k) (hs : Cond.static y ∈ GT) (hl : Cond.methodLink own idx y ∈ GT) (hf : d + 1 ≤ R.frames) (hlo : 8 + (n + 11) + 40 * d ≤ R.locals) : CallB R s args own idx y b n r (cn y b n r) (rmd d mc ms) mc ms k ∧ (Cond.static y).before args s = true := ⟨my_B ht hm hl hf hlo, ht _ hs⟩
theorem my_I {R : Room} {s : State} {args : Array Value} {own : String} {idx : Nat} {y : MethodName} {b : ByteArray} {n k d mc ms : Nat} (ht : ∀ w ∈ GT, w.before args s = true) (hm : MY y b n none k) (hi : Cond.instanceMethod y ∈ GT) (hy : y.name = "<init>") (hl : Cond.methodLink own idx y ∈ GT) (hf : d + 1 ≤ R.frames) (hlo : 8 + (n + 11) + 40 * d ≤ R.locals) : CallB R s args own idx y b n none (cn y b n none) (rmd d mc ms) mc ms k ∧ y.name = "<init>" ∧ (Cond.instanceMethod y).before args s = true := ⟨my_B ht hm hl hf hlo, hy, ht _ hi⟩
theorem my_N {R : Room} {s : State} {args : Array Value} {own host : String} {idx : Nat} {y : MethodName} {b : ByteArray} {n k d mc ms : Nat} {r : Option FieldType} (ht : ∀ w ∈ GT, w.before args s = true) (hm : MY y b n r k) (hl : Cond.methodLinkNest own idx y host ∈ GT) (hf : d + 1 ≤ R.frames) (hlo : 8 + (n + 11) + 40 * d ≤ R.locals) : va_CN R s args own idx y host b n r (cn y b n r) (rmd d mc ms) mc ms k := by
  refine ⟨⟨rfl, rfl, hf, hlo, ?_, List.mem_cons_self⟩, ht _ hm.1, ht _ hm.2.1, hm.2.2.1, my_len hm.2.2.2, ht _ hl⟩
  intro w hw a' U hW
  rcases List.mem_cons.mp hw with rfl | h
  · exact gt_warm ht _ hm.1 a' U hW
  · exact gt_warm ht _ h a' U hW
theorem my_NI {R : Room} {s : State} {args : Array Value} {own host : String} {idx : Nat} {y : MethodName} {b : ByteArray} {n k d mc ms : Nat} (ht : ∀ w ∈ GT, w.before args s = true) (hm : MY y b n none k) (hi : Cond.instanceMethod y ∈ GT) (hy : y.name = "<init>") (hl : Cond.methodLinkNest own idx y host ∈ GT) (hf : d + 1 ≤ R.frames) (hlo : 8 + (n + 11) + 40 * d ≤ R.locals) : va_CN R s args own idx y host b n none (cn y b n none) (rmd d mc ms) mc ms k ∧ y.name = "<init>" ∧ (Cond.instanceMethod y).before args s = true := ⟨my_N ht hm hl hf hlo, hy, ht _ hi⟩
theorem my_SW {R : Room} {s : State} {args : Array Value} {own : String} {idx : Nat} {y : MethodName} {b : ByteArray} {n k d mc ms : Nat} {r : Option FieldType} {hh : List (Nat × Nat × Nat × Nat)} (ht : ∀ w ∈ GT, w.before args s = true) (hm : MYW y b n r hh k) (hs : Cond.static y ∈ GT) (hl : Cond.methodLink own idx y ∈ GT) (hf : d + 1 ≤ R.frames) (hlo : 8 + (n + 11) + 40 * d ≤ R.locals) : vx_CSW R s args own idx y b n r hh (cnW y b n r hh) (rmd d mc ms) mc ms k := by
  refine ⟨⟨rfl, rfl, hf, hlo, ?_, List.mem_cons_self⟩, ht _ hm.1, ht _ hm.2.1, hm.2.2.1, my_len hm.2.2.2, ht _ hl, ht _ hs⟩
  intro w hw a' U hW
  rcases List.mem_cons.mp hw with rfl | h
  · exact gt_warm ht _ hm.1 a' U hW
  · exact gt_warm ht _ h a' U hW
/-- the strings, the statics that are read, the classes of which arrays are made: d is the cell of ArrayList's empty row, cO its class -/
def EA (U : State) : Prop := va_AO "ToolPlex$Text" U ∧ va_AO "ToolPlex$Copy" U ∧ va_AO "ToolPlex$Items" U ∧ va_AO "ToolPlex$Channel" U ∧ va_AO "ToolPlex$Editor" U ∧ va_AO "java/lang/Object" U
theorem EA.moved {u U : State} (hvm : u.vm.Alike U.vm) (h : EA u) : EA U := ⟨h.1.moved hvm, h.2.1.moved hvm, h.2.2.1.moved hvm, h.2.2.2.1.moved hvm, h.2.2.2.2.1.moved hvm, h.2.2.2.2.2.moved hvm⟩
def SR1 (k : Nat) (tx : String) (U : State) : Prop := ∃ a, vk_R "ToolPlex" k tx a U
theorem SR1.warm {k : Nat} {tx : String} {s U : State} (hW : s.WarmedH U.vm) (h : SR1 k tx s) : SR1 k tx U := by
  obtain ⟨a, h⟩ := h
  exact ⟨a, vk_R.warm hW h⟩
theorem SR1.same {k : Nat} {tx : String} {u U : State} (hv : U.vm = u.vm) (h : SR1 k tx u) : SR1 k tx U := by
  obtain ⟨a, h⟩ := h
  exact ⟨a, vk_R.same hv h⟩
def strs : List (Nat × String) := [(61, "no such name or language"), (76, "too many files, or the name is taken"), (105, "the file is open, or its text too long"), (111, "no such kinds, languages or style"), (120, "too many servers, or a document is open"), (138, "an editor has the file open"), (166, "the second place is ahead of the first, or the text too long"), (195, "no such kind or letter"), (200, "too many requests"), (216, "the request does not wait"), (232, "there is no edit to apply"), (238, "the name is taken, or there are too many files"), (256, "no such request"), (272, "the server has no copy"), (281, "the server is not up"), (292, "the server is up"), (321, "no such copy or unit"), (343, "no such number of tokens"), (356, "no such fault"), (358, "no such editor"), (360, "no such server"), (368, "no such file"), (370, "no such channel"), (372, "no such item"), (377, "no such character"), (379, "no such position"), (381, "the editor does not have the file open")]
def ES (U : State) : Prop := ∀ q ∈ strs, SR1 q.1 q.2 U
theorem ES.warm {s U : State} (hW : s.WarmedH U.vm) (h : ES s) : ES U := fun q hq => (h q hq).warm hW
theorem ES.same {u U : State} (hv : U.vm = u.vm) (h : ES u) : ES U := fun q hq => (h q hq).same hv
def ED (d : Nat) (_ : ClassId) (A : Nat → Prop) (U : State) (H : Heap) : Prop := va_Z "java/util/ArrayList" "DEFAULTCAPACITY_EMPTY_ELEMENTDATA" "[Ljava/lang/Object;" (.ref d) A U H ∧ va_T (.object "java/lang/Object") d 0 (fun _ => .null) A U H
def EH (d : Nat) (cO : ClassId) (A : Nat → Prop) (U : State) (H : Heap) : Prop := ED d cO A U H ∧ va_Zq "ToolPlex" "NOTHING" "[I" A U H ∧ vx_Zq Bundle.tN "UNASSIGNED_STACK" Bundle.steD A U H ∧ vx_Zq Bundle.tN "SUPPRESSED_SENTINEL" Bundle.listD A U H
theorem EH.moved {d : Nat} {cO : ClassId} {A : Nat → Prop} {u U : State} {H : Heap} (hvm : u.vm.Alike U.vm) (h : EH d cO A u H) : EH d cO A U H := ⟨⟨va_Z.moved hvm h.1.1, va_T.moved hvm h.1.2⟩, va_Zq.moved hvm h.2.1, vx_Zq.moved hvm h.2.2.1, vx_Zq.moved hvm h.2.2.2⟩
theorem EH.kept {d : Nat} {cO : ClassId} {A : Nat → Prop} {U : State} {H H1 : Heap} (h : EH d cO A U H) (hq : ∀ a : Nat, a < H.size → ¬ A a → H1[a]? = H[a]?) : EH d cO A U H1 := ⟨⟨va_Z.kept h.1.1 hq, va_T.kept h.1.2 hq⟩, va_Zq.kept h.2.1 hq, vx_Zq.kept h.2.2.1 hq, vx_Zq.kept h.2.2.2 hq⟩
theorem EH.narrow {d : Nat} {cO : ClassId} {A B : Nat → Prop} {U : State} {H : Heap} (h : EH d cO A U H) (hAB : ∀ q, B q → A q) : EH d cO B U H := ⟨⟨va_Z.narrow h.1.1 hAB, va_T.narrow h.1.2 hAB⟩, va_Zq.narrow h.2.1 hAB, vx_Zq.narrow h.2.2.1 hAB, vx_Zq.narrow h.2.2.2 hAB⟩
def EN (d : Nat) (cO : ClassId) (A : Nat → Prop) (U : State) (H : Heap) : Prop := EA U ∧ ES U ∧ EH d cO A U H
theorem EN.call {d : Nat} {cO : ClassId} {A A' : Nat → Prop} {s : State} {H : Heap} {locs : List Loc} (h : EN d cO A s s.heap) (hS : va_S A s.heap H locs) (hAA : ∀ q, A' q → A q) : ∀ U : State, U.heap = H → s.WarmedH U.vm → EN d cO A' U U.heap := by
  intro U hU hW
  refine ⟨h.1.moved hW.alike, h.2.1.warm hW, ?_⟩
  rw [hU]
  exact ((h.2.2.moved hW.alike).kept hS.2.1).narrow hAA
/-- a contract's start -/
def PRE (d : Nat) (cO : ClassId) (G : va_G) (A : Nat → Prop) (ws : va_W) (tys : List (ClassId × FieldType)) (sz : Nat) (U : State) : Prop := U.heap.size = sz ∧ EN d cO A U U.heap ∧ va_P G vwCl ws U.heap ∧ va_K G vwCl tys U ∧ va_D (fun _ => True) ws
theorem PRE.fb {av : List Value} {d : Nat} {cO : ClassId} {G : va_G} {A : Nat → Prop} {ws : va_W} {tys : List (ClassId × FieldType)} {sz : Nat} : FrameBlind (va_Pc av (PRE d cO G A ws tys sz)) := by
  intro a U g mk h
  obtain ⟨h0, h1, ⟨h2, h3, h4⟩, h5, h6, h7⟩ := h
  exact ⟨h0, h1, ⟨h2.moved (u := U) (U := U.calling g mk a) (Vm.Alike.refl U.vm), h3.same (u := U) (U := U.calling g mk a) rfl, h4.moved (u := U) (U := U.calling g mk a) (Vm.Alike.refl U.vm)⟩, h5, va_K.moved (u := U) (U := U.calling g mk a) (Vm.Alike.refl U.vm) h6, h7⟩
theorem PRE.mk' {d : Nat} {cO : ClassId} {G : va_G} {A A' B : Nat → Prop} {s : State} {H : Heap} {locs : List Loc} {wc : va_W} {tc : List (ClassId × FieldType)} (h : EN d cO A s s.heap) (hS : va_S A s.heap H locs) (hAA : ∀ q, A' q → A q) (hP : va_P G vwCl wc H) (hK : va_K G vwCl tc s) (hD : va_D B wc) : ∀ U : State, U.heap = H → s.WarmedH U.vm → PRE d cO G A' wc tc H.size U := by
  intro U hU hW
  exact ⟨by rw [hU], EN.call h hS hAA U hU hW, by rw [hU]; exact hP, va_K.moved hW.alike hK, hD.weaken (fun _ _ _ _ => trivial)⟩
/-- a contract's end: the world behind it -/
def POW (G : va_G) (A : Nat → Prop) (ws : va_W) (tys : List (ClassId × FieldType)) (t : State) : Prop := va_P G vwCl ws t.heap ∧ va_K G vwCl tys t ∧ va_D A ws
theorem POW.mk' {G : va_G} {A : Nat → Prop} {ws : va_W} {tys : List (ClassId × FieldType)} {s t : State} {H : Heap} (ht : t.heap = H) (hvm : s.vm.Alike t.vm) (hP : va_P G vwCl ws H) (hK : va_K G vwCl tys s) (hD : va_D A ws) : POW G A ws tys t := ⟨by rw [ht]; exact hP, va_K.moved hvm hK, hD⟩
theorem keepAll {G : va_G} {ws : va_W} {H H1 : Heap} (hP : va_P G vwCl ws H) (hk : ∀ q : Nat, q < H.size → ¬ va_A [] H.size q → H1[q]? = H[q]?) : va_P G vwCl ws H1 := hP.kept fun k q hq => hk q.1 (hP k q hq).lt (fun h => by
  rcases h with ⟨k2, e, h⟩ | h
  · simp at h
  · exact absurd (hP k q hq).lt (Nat.not_lt.mpr h))
theorem freeNil {A0 : Nat → Prop} {H0 H : Heap} {locs : List Loc} (hS : va_S A0 H0 H locs) (hA : ∀ q, H0.size ≤ q → A0 q) : ∀ q, va_A [] H.size q → A0 q := by
  intro q h
  rcases h with ⟨k2, e, h⟩ | h
  · simp at h
  · exact hA q (Nat.le_trans hS.1 h)
theorem va_D0 {A : Nat → Prop} : va_D A [] := ⟨fun i j p q h => by simp at h, fun k q h => by simp at h⟩
theorem va_P0 {G : va_G} {H : Heap} : va_P G vwCl [] H := fun k q h => by simp at h
/-- new cells of a callee beside a world that it left as it was -/
theorem joinNew {A0 : Nat → Prop} {G : va_G} {ws w1 : va_W} {H H1 : Heap} (hP : va_P G vwCl ws H) (hD : va_D A0 ws) (hk : ∀ q : Nat, q < H.size → ¬ va_A [] H.size q → H1[q]? = H[q]?) (hF : ∀ q, va_A [] H.size q → A0 q) (hP1 : va_P G vwCl w1 H1) (hD1 : va_D (va_A [] H.size) w1) : va_P G vwCl (ws ++ w1) H1 ∧ va_D A0 (ws ++ w1) := by
  refine ⟨(keepAll hP hk).app hP1, va_D.app hD (hD1.weaken (fun k q _ h => hF q.1 h)) (fun i j x y hx hy hxy => ?_)⟩
  have h1 := (hP i x hx).lt
  rcases hD1.2 j y hy with ⟨k2, e, h⟩ | h
  · simp at h
  · omega
/-- the start of a method that only reads: its cells needn't be apart -/
def PREp (d : Nat) (cO : ClassId) (G : va_G) (A : Nat → Prop) (ws : va_W) (tys : List (ClassId × FieldType)) (sz : Nat) (U : State) : Prop := U.heap.size = sz ∧ EN d cO A U U.heap ∧ va_P G vwCl ws U.heap ∧ va_K G vwCl tys U
theorem PREp.fb {av : List Value} {d : Nat} {cO : ClassId} {G : va_G} {A : Nat → Prop} {ws : va_W} {tys : List (ClassId × FieldType)} {sz : Nat} : FrameBlind (va_Pc av (PREp d cO G A ws tys sz)) := by
  intro a U g mk h
  obtain ⟨h0, h1, ⟨h2, h3, h4⟩, h5, h6⟩ := h
  exact ⟨h0, h1, ⟨h2.moved (u := U) (U := U.calling g mk a) (Vm.Alike.refl U.vm), h3.same (u := U) (U := U.calling g mk a) rfl, h4.moved (u := U) (U := U.calling g mk a) (Vm.Alike.refl U.vm)⟩, h5, va_K.moved (u := U) (U := U.calling g mk a) (Vm.Alike.refl U.vm) h6⟩
theorem PREp.mk' {d : Nat} {cO : ClassId} {G : va_G} {A A' : Nat → Prop} {s : State} {H : Heap} {locs : List Loc} {wc : va_W} {tc : List (ClassId × FieldType)} (h : EN d cO A s s.heap) (hS : va_S A s.heap H locs) (hAA : ∀ q, A' q → A q) (hP : va_P G vwCl wc H) (hK : va_K G vwCl tc s) : ∀ U : State, U.heap = H → s.WarmedH U.vm → PREp d cO G A' wc tc H.size U := by
  intro U hU hW
  exact ⟨by rw [hU], EN.call h hS hAA U hU hW, by rw [hU]; exact hP, va_K.moved hW.alike hK⟩
theorem vxgt {ws : List Cond} (h : ws.all (fun w => decide (w ∈ lw_tbl) && myGood w) = true) : ∀ w ∈ ws, w ∈ GT := by
  intro w hw
  have h1 := List.all_eq_true.mp h w hw
  simp only [Bool.and_eq_true, decide_eq_true_eq] at h1
  exact List.mem_filter.mpr h1
theorem zq_val {C n d : String} {A : Nat → Prop} {U : State} {H : Heap} (h : va_Zq C n d A U H) : ∃ v : Value, (v = .null ∨ ∃ t : Nat, v = .ref t) ∧ va_Z C n d v A U H := by
  rcases h with h | ⟨t, h⟩
  · exact ⟨_, Or.inl rfl, h⟩
  · exact ⟨_, Or.inr ⟨t, rfl⟩, h⟩
