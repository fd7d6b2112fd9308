theorem dL_does_212 : decode cL_does 212 = .ok (.astore 9, 2) := by decide +kernel
theorem dL_does_214 : decode cL_does 214 = .ok (.sipush (-3000), 3) := by decide +kernel
theorem dL_does_217 : decode cL_does 217 = .ok (.ireturn, 1) := by decide +kernel
set_option maxRecDepth 100000 in
theorem q613 : Cond.classLink RL 67 "java/lang/IndexOutOfBoundsException" ∈ GT := gt 613 (by decide +kernel) (by decide +kernel)
set_option maxRecDepth 100000 in
theorem q588 : Cond.castable "java/lang/IndexOutOfBoundsException" "java/lang/IndexOutOfBoundsException" ∈ GT := gt 588 (by decide +kernel) (by decide +kernel)
theorem dL_does_218 : decode cL_does 218 = .ok (.astore 9, 2) := by decide +kernel
theorem dL_does_220 : decode cL_does 220 = .ok (.sipush (-2000), 3) := by decide +kernel
theorem dL_does_223 : decode cL_does 223 = .ok (.ireturn, 1) := by decide +kernel
set_option maxRecDepth 100000 in
theorem q614 : Cond.classLink RL 69 "java/lang/IllegalArgumentException" ∈ GT := gt 614 (by decide +kernel) (by decide +kernel)
set_option maxRecDepth 100000 in
theorem q348 : Cond.castable "java/lang/IllegalArgumentException" "java/lang/IllegalArgumentException" ∈ GT := gt 348 (by decide +kernel) (by decide +kernel)
theorem dL_does_224 : decode cL_does 224 = .ok (.astore 9, 2) := by decide +kernel
theorem dL_does_226 : decode cL_does 226 = .ok (.sipush (-1000), 3) := by decide +kernel
theorem dL_does_229 : decode cL_does 229 = .ok (.ireturn, 1) := by decide +kernel
set_option maxRecDepth 100000 in
theorem q615 : Cond.classLink RL 71 "java/lang/IllegalStateException" ∈ GT := gt 615 (by decide +kernel) (by decide +kernel)
set_option maxRecDepth 100000 in
theorem q424 : Cond.castable "java/lang/IllegalStateException" "java/lang/IllegalStateException" ∈ GT := gt 424 (by decide +kernel) (by decide +kernel)
theorem dL_asks_160 : decode cL_asks 160 = .ok (.astore 5, 2) := by decide +kernel
theorem dL_asks_162 : decode cL_asks 162 = .ok (.sipush (-3000), 3) := by decide +kernel
theorem dL_asks_165 : decode cL_asks 165 = .ok (.ireturn, 1) := by decide +kernel
/-! the law's handlers -/
section JN
variable {p : Program} {l : Launch} {e : Env} {R : Room} {s : State} {m : MethodId} {args : Array Value} {below : List Frame} {meth : Method} {c : Code}
variable {cc : ByteArray} {nL : Nat} {own : String} {G : Gt} {ρ0 : Int → Nat} {M0 : Mo} {d : Nat} {rt : Option FieldType} {rk : Nat} {res : RS}
variable {M : Mo} {pc : Nat} {lv : List (Nat × TV)} {st : List TV}
theorem kxHnd (F : Fx p l R s m args meth c cc nL own G M0 d (some .int)) (pre : List ExceptionTableEntry) (x : ExceptionTableEntry) (suf : List ExceptionTableEntry) (hsplit : c.exceptionTable.toList = pre ++ x :: suf) {E name : String} (hpass : ∀ z ∈ pre, covers z pc = false ∨ (z.catchType ≠ 0 ∧ ∃ nm : String, (Cond.classLink own z.catchType nm).before args s = true ∧ va_Nc E nm s)) (hx : covers x pc = true) (h0 : x.catchType ≠ 0) (hlink : Cond.classLink own x.catchType name ∈ GT) (hcast : Cond.castable E name ∈ GT) {i : Nat} {v : Int} (hi : i < nL) (d1 : decode cc x.handlerPc = .ok (.astore i, 2)) (hv : (Int16.ofInt v).toInt32 = iI v) (d2 : decode cc (x.handlerPc + 2) = .ok (.sipush v, 3)) (d3 : decode cc (x.handlerPc + 2 + 3) = .ok (.ireturn, 1)) {M1 : Mo} (hres : res = (0, v, M1)) {ce : Cell} {q : Addr} {ρ1 : Int → Nat} {H1 : Heap} {locs1 : List Loc} {ls1 : Array Slot} {lw : List (Nat × Value)} (hD : Dn G ρ0 M0 s ρ1 M1 H1 locs1) (hl : lv_has ls1 nL lw) (hce : H1[q]? = some ce) (hcv : ce.vm = .none) (hcl : s.vm.findClass E = some ce.cls) (rest : List Value) : vx_W p l e R s m args below meth c H1 locs1 (nc M1 - nc M0) (ns M1 - ns M0) (vx_MQ below (QK G ρ0 M0 1 res) (XK G ρ0 M0 res) args s (nc res.2.2 - nc M0) (ns res.2.2 - ns M0) (gA G)) (F0 m pc ls1 rest) q := by
  subst hres
  refine vx_catch F.o pre x suf hsplit hpass hx h0 (F.t hlink) (F.t hcast) hce hcv hcl ?_
  refine lv_astore F.1 F.2.1 d1 hl hi rfl (fun ls' hl' => ?_)
  refine lv_sipush (v := iI v) F.1 F.2.1 d2 hv ?_
  exact vx_ret (W.iret F.1 F.2.1 F.rty (fun t ht hW => hD.qk (rk := 1) (fun z => by cases z) ht) hD.1.2.2 d3 F.lk)
theorem hndDoes (F : Fx p l R s m args meth c cL_does 10 RL G M0 d (some .int)) (htb : c.exceptionTable.toList = tableOf [(0, 211, 212, 67), (0, 211, 218, 69), (0, 211, 224, 71)]) (hc1 : covers (⟨0, 211, 212, 67⟩ : ExceptionTableEntry) pc = true) (hc2 : covers (⟨0, 211, 218, 69⟩ : ExceptionTableEntry) pc = true) (hc3 : covers (⟨0, 211, 224, 71⟩ : ExceptionTableEntry) pc = true) {ex : Int} (hex : ex = 1 ∨ ex = 2 ∨ ex = 3) {M1 : Mo} (hres : res = (0, exV ex, M1)) {E : String} (hE : E = exN ex) {ce : Cell} {q : Addr} {ρ1 : Int → Nat} {H1 : Heap} {locs1 : List Loc} {ls1 : Array Slot} {lw : List (Nat × Value)} (hD : Dn G ρ0 M0 s ρ1 M1 H1 locs1) (hl : lv_has ls1 10 lw) (hce : H1[q]? = some ce) (hcv : ce.vm = .none) (hcl : s.vm.findClass E = some ce.cls) (rest : List Value) : vx_W p l e R s m args below meth c H1 locs1 (nc M1 - nc M0) (ns M1 - ns M0) (vx_MQ below (QK G ρ0 M0 1 res) (XK G ρ0 M0 res) args s (nc res.2.2 - nc M0) (ns res.2.2 - ns M0) (gA G)) (F0 m pc ls1 rest) q := by
  rcases hex with rfl | rfl | rfl
  · subst hE
    refine kxHnd F [] (⟨0, 211, 212, 67⟩ : ExceptionTableEntry) [(⟨0, 211, 218, 69⟩ : ExceptionTableEntry), (⟨0, 211, 224, 71⟩ : ExceptionTableEntry)] htb (fun z hz => by cases hz) hc1 (by decide) q613 q588 (by decide) dL_does_212 (by decide) dL_does_214 dL_does_217 hres hD hl hce hcv hcl rest
  · subst hE
    refine kxHnd F [(⟨0, 211, 212, 67⟩ : ExceptionTableEntry)] (⟨0, 211, 218, 69⟩ : ExceptionTableEntry) [(⟨0, 211, 224, 71⟩ : ExceptionTableEntry)] htb (fun z hz => ?_) hc2 (by decide) q614 q348 (by decide) dL_does_218 (by decide) dL_does_220 dL_does_223 hres hD hl hce hcv hcl rest
    cases List.mem_singleton.mp hz
    exact Or.inr ⟨by decide, _, F.t q613, F.2.2.2.2.2.1.2.2.2.2.2.1⟩
  · subst hE
    refine kxHnd F [(⟨0, 211, 212, 67⟩ : ExceptionTableEntry), (⟨0, 211, 218, 69⟩ : ExceptionTableEntry)] (⟨0, 211, 224, 71⟩ : ExceptionTableEntry) [] htb (fun z hz => ?_) hc3 (by decide) q615 q424 (by decide) dL_does_224 (by decide) dL_does_226 dL_does_229 hres hD hl hce hcv hcl rest
    rcases List.mem_cons.mp hz with rfl | hz
    · exact Or.inr ⟨by decide, _, F.t q613, F.2.2.2.2.2.1.2.2.2.2.2.2.1⟩
    · cases List.mem_singleton.mp hz
      exact Or.inr ⟨by decide, _, F.t q614, F.2.2.2.2.2.1.2.2.2.2.2.2.2⟩

theorem hndAsks (F : Fx p l R s m args meth c cL_asks 6 RL G M0 d (some .int)) (htb : c.exceptionTable.toList = tableOf [(0, 159, 160, 67)]) (hc1 : covers (⟨0, 159, 160, 67⟩ : ExceptionTableEntry) pc = true) {ex : Int} (hex : ex = 1) {M1 : Mo} (hres : res = (0, exV ex, M1)) {E : String} (hE : E = exN ex) {ce : Cell} {q : Addr} {ρ1 : Int → Nat} {H1 : Heap} {locs1 : List Loc} {ls1 : Array Slot} {lw : List (Nat × Value)} (hD : Dn G ρ0 M0 s ρ1 M1 H1 locs1) (hl : lv_has ls1 6 lw) (hce : H1[q]? = some ce) (hcv : ce.vm = .none) (hcl : s.vm.findClass E = some ce.cls) (rest : List Value) : vx_W p l e R s m args below meth c H1 locs1 (nc M1 - nc M0) (ns M1 - ns M0) (vx_MQ below (QK G ρ0 M0 1 res) (XK G ρ0 M0 res) args s (nc res.2.2 - nc M0) (ns res.2.2 - ns M0) (gA G)) (F0 m pc ls1 rest) q := by
  subst hex
  subst hE
  refine kxHnd F [] (⟨0, 159, 160, 67⟩ : ExceptionTableEntry) [] htb (fun z hz => by cases hz) hc1 (by decide) q613 q588 (by decide) dL_asks_160 (by decide) dL_asks_162 dL_asks_165 hres hD hl hce hcv hcl rest

end JN
