/-! a method's contract out of its walk -/
section JC
variable {l : Launch} {G : Gt}
theorem sl_len (ρ : Int → Nat) (av : List TV) : (lg_sl (av.map (vl ρ))).length = av.length := by
  induction av with
  | nil => rfl
  | cons a t ih =>
    unfold lg_sl at ih ⊢
    rw [List.map_cons, List.flatMap_cons, List.length_append, ih, if_neg (by rw [vl_cat]; decide)]
    simp only [List.length_cons, List.length_nil]
    omega
def ixs : Nat → List TV → List (Nat × TV)
  | _, [] => []
  | i, v :: vs => (i, v) :: ixs (i + 1) vs
theorem args_ixs (ρ : Int → Nat) (av : List TV) : ∀ i, lv_args i (av.map (vl ρ)) = lvm ρ (ixs i av) := by
  induction av with
  | nil => intro i; rfl
  | cons a t ih =>
    intro i
    show (i, vl ρ a) :: lv_args (if (vl ρ a).category = 2 then i + 2 else i + 1) (t.map (vl ρ)) = _
    rw [if_neg (by rw [vl_cat]; decide), ih]
    rfl
theorem ixs_ok {M : Mo} {av : List TV} (h : ∀ v ∈ av, okv M v) : ∀ i, okl M (ixs i av) := by
  induction av with
  | nil => intro i q hq; cases hq
  | cons a t ih =>
    intro i q hq
    rcases List.mem_cons.mp hq with rfl | hq
    · exact h a List.mem_cons_self
    · exact ih (fun v hv => h v (List.mem_cons_of_mem _ hv)) (i + 1) q hq
theorem Dn.start {s : State} {ρ : Int → Nat} {M : Mo} (h : MH G ρ M s.heap) (h1 : nc M ≤ CAPC) (h2 : ns M ≤ CAPS) : Dn G ρ M s ρ M s.heap [] := ⟨va_S.rf, h, kle.rf, ext.rf, h1, h2⟩
theorem ctOf {y : MethodName} {cc : ByteArray} {maxL : Nat} {ret : Option FieldType} {d rk : Nat} {av : List TV} {M : Mo} {z : RS} (hl : l.stackTraces = false) (hy : plainName y.cls = true) (hn : av.length ≤ maxL)
    (body : ∀ (p : Program) (e : Env) (R : Room) (s : State) (m : MethodId) (args : Array Value) (below : List Frame) (meth : Method) (c : Code) (ρ : Int → Nat), Fx p l R s m args meth c cc maxL y.cls G M d ret → (∀ x ∈ c.exceptionTable.toList, False) → meth.name = y.name →
      J p l e R s m args below meth c maxL G ρ M rk z M 0 (ixs 0 av) []) : CT l G y (cn y cc maxL ret) d av M rk z := by
  intro ρ
  refine vx_ofW (cc := cc) (maxL := maxL) (ret := ret) hy rfl ?_
  intro p e s m args below meth c s₁ B hml hno hv
  obtain ⟨rfl, hE, hK, hM, hA, hB, h1, h2⟩ := hv
  have hts := atoms_spec (ws := cn y cc maxL ret) B.pre
  have ht : ∀ w ∈ GT, w.before _ s = true := fun w h => hts w (List.mem_cons_of_mem _ h)
  have F : Fx p l (rmK d M) s m _ meth c cc maxL y.cls G M d ret := ⟨B.exec, B.bytes, hml, findClass_of_methodNamed B.named, ht, hE, hK, B.notSynchronized, B.returns, hl, rfl, hB⟩
  have hJ := body p e (rmK d M) s m _ below meth c ρ F hno (name_of_methodNamed B.named B.method).1
  have he := lv_entry (av.map (vl ρ)) (n := maxL) (by rw [sl_len]; exact hn)
  rw [args_ixs] at he
  rw [lg_entry_eq]
  have hW := hJ ρ s.heap [] _ (Dn.start hM h1 h2) he (ixs_ok hA 0) oks.nil
  rw [Nat.sub_self, Nat.sub_self] at hW
  exact hW
theorem ctOfH {y : MethodName} {cc : ByteArray} {maxL : Nat} {ret : Option FieldType} {hh : List (Nat × Nat × Nat × Nat)} {d rk : Nat} {av : List TV} {M : Mo} {z : RS} (hl : l.stackTraces = false) (hy : plainName y.cls = true) (hn : av.length ≤ maxL)
    (body : ∀ (p : Program) (e : Env) (R : Room) (s : State) (m : MethodId) (args : Array Value) (below : List Frame) (meth : Method) (c : Code) (ρ : Int → Nat), Fx p l R s m args meth c cc maxL y.cls G M d ret → c.exceptionTable.toList = tableOf hh → meth.name = y.name →
      J p l e R s m args below meth c maxL G ρ M rk z M 0 (ixs 0 av) []) : CT l G y (cnW y cc maxL ret hh) d av M rk z := by
  intro ρ
  refine vx_ofWH (cc := cc) (maxL := maxL) (ret := ret) (hh := hh) hy rfl ?_
  intro p e s m args below meth c s₁ B hml hv
  obtain ⟨rfl, hE, hK, hM, hA, hB, h1, h2⟩ := hv
  have hts := atoms_spec (ws := cnW y cc maxL ret hh) B.pre
  have ht : ∀ w ∈ GT, w.before _ s = true := fun w h => hts w (List.mem_cons_of_mem _ h)
  have F : Fx p l (rmK d M) s m _ meth c cc maxL y.cls G M d ret := ⟨B.exec, B.bytes, hml, findClass_of_methodNamed B.named, ht, hE, hK, B.notSynchronized, B.returns, hl, rfl, hB⟩
  have hJ := body p e (rmK d M) s m _ below meth c ρ F (vx_table (x := y) B (hts _ List.mem_cons_self)) (name_of_methodNamed B.named B.method).1
  have he := lv_entry (av.map (vl ρ)) (n := maxL) (by rw [sl_len]; exact hn)
  rw [args_ixs] at he
  rw [lg_entry_eq]
  have hW := hJ ρ s.heap [] _ (Dn.start hM h1 h2) he (ixs_ok hA 0) oks.nil
  rw [Nat.sub_self, Nat.sub_self] at hW
  exact hW
end JC
