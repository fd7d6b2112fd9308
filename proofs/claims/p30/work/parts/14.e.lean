/-! System.arraycopy and its like -/
section JE
variable {p : Program} {l : Launch} {e : Env} {R : Room} {s : State} {m : MethodId} {args : Array Value} {below : List Frame} {meth : Method} {c : Code}
variable {cc : ByteArray} {nL : Nat} {own : String} {G : Gt} {ρ0 : Int → Nat} {M0 : Mo} {d : Nat} {rt : Option FieldType} {rk : Nat} {res : RS}
variable {M : Mo} {pc : Nat} {lv : List (Nat × TV)} {st : List TV}
def cpW (own : String) (idx : Nat) : Prop := Cond.methodLink own idx arraycopyName ∈ GT ∧ Cond.native arraycopyName ∈ GT ∧ Cond.static arraycopyName ∈ GT ∧ Cond.initialized "java/lang/System" ∈ GT
theorem nfw : nativeFrameWords "java/lang/System" "arraycopy" 5 ≤ 20 := by decide
/-- what a copy asks: from sp of x to dp of y, n places -/
def cpB (M : Mo) (x sp y dp n : Int) : Prop := 0 ≤ wr sp ∧ 0 ≤ wr dp ∧ 0 ≤ wr n ∧ wr sp + wr n ≤ ln M x ∧ wr dp + wr n ≤ ln M y
theorem cpy_el {α : Type} (F : Int → α) {t : Nat} {x sp y dp n : Int} (h1 : 0 ≤ wr sp) (h2 : 0 ≤ wr dp) (h3 : 0 ≤ wr n) : va_cpy (fun k : Nat => F (el M t x k)) (fun k : Nat => F (el M t y k)) (iI sp).toNatClampNeg (iI dp).toNatClampNeg (iI n).toNatClampNeg = fun k : Nat => F (el (cpE M t x (wr sp) y (wr dp) (wr n)) t y k) := by
  funext k
  have c1 := wr_clamp sp h1
  have c2 := wr_clamp dp h2
  have c3 := wr_clamp n h3
  unfold va_cpy
  show _ = F (if t = t ∧ y = y ∧ wr dp ≤ (k : Int) ∧ (k : Int) < wr dp + wr n then el M t x (wr sp + (k - wr dp)) else el M t y k)
  by_cases z : (iI dp).toNatClampNeg ≤ k ∧ k < (iI dp).toNatClampNeg + (iI n).toNatClampNeg
  · rw [if_pos z, if_pos ⟨rfl, rfl, by omega, by omega⟩]
    have e : (((iI sp).toNatClampNeg + (k - (iI dp).toNatClampNeg) : Nat) : Int) = wr sp + ((k : Int) - wr dp) := by omega
    show F (el M t x (((iI sp).toNatClampNeg + (k - (iI dp).toNatClampNeg) : Nat) : Int)) = _
    rw [e]
  · rw [if_neg z, if_neg (fun q => z ⟨by omega, by omega⟩)]
theorem MH_cpE {ρ : Int → Nat} {H H1 : Heap} {t j : Nat} {e0 e' : va_E} {x sp y dp n : Int} (h : MH G ρ M H) (hkx : kd M x = 100 + t) (hk : kd M y = 100 + t) (ht : t < 90) (hx : vcell G ρ M y = some e0) (hj : (wsO G ρ M)[j]? = some (ρ y, e0)) (hP1 : va_P (gD G) vwCl ((wsO G ρ M).set j (ρ y, e')) H1) (he : vcell G ρ (cpE M t x sp y dp n) y = some e') : MH G ρ (cpE M t x sp y dp n) H1 := by
  have hel : ∀ t' z k, el (cpE M t x sp y dp n) t' z k = if t' = t ∧ z = y ∧ dp ≤ k ∧ k < dp + n then el M t x (sp + (k - dp)) else el M t' z k := fun _ _ _ => rfl
  refine MH.set h hx hj hP1 rfl rfl rfl he ?_ ?_ ?_ ?_ ?_
  · intro z hz
    exact vcell_el (t := t) rfl rfl rfl (fun t' y' k' hn => if_neg (fun q => hn ⟨q.1, q.2.1⟩)) hz
  · intro c k2 z hc hl hb
    exact h.2.2.2.2.1 c k2 z hc hl hb
  · intro t2 k2 z hc h1 h2
    rw [hel]
    by_cases q : t2 = t ∧ z = y ∧ dp ≤ k2 ∧ k2 < dp + n
    · rw [if_pos q, q.1]
      exact h.2.2.2.2.2.1 t _ x hkx (by omega) (by omega)
    · rw [if_neg q]
      exact h.2.2.2.2.2.1 t2 k2 z hc h1 h2
  · intro k2
    rw [hel, if_neg (fun z => by omega)]
  · intro z k2 hz
    rw [hel]
    by_cases q : 1 = t ∧ z = y ∧ dp ≤ k2 ∧ k2 < dp + n
    · rw [if_pos q]
      have : t = 1 := q.1.symm
      subst this
      exact (h.2.2.2.1 x).2 hkx _
    · rw [if_neg q]
      exact (h.2.2.2.1 z).2 hz k2
theorem j_copyI (F : Fx p l R s m args meth c cc nL own G M0 d rt) {idx : Nat} {x sp y dp n : Int} (hw : cpW own idx) (hkx : kd M x = 100 + 0) (hky : kd M y = 100 + 0) (hb : cpB M x sp y dp n) (h1d : 1 ≤ d) (hst : st.length ≤ 8) (hd : decode cc pc = .ok (.invokestatic idx, 3)) (kk : J p l e R s m args below meth c nL G ρ0 M0 rk res (cpE M 0 x (wr sp) y (wr dp) (wr n)) (pc + 3) lv st) : J p l e R s m args below meth c nL G ρ0 M0 rk res M pc lv ((true, n) :: (true, dp) :: (false, y) :: (true, sp) :: (false, x) :: st) := by
  intro ρ H locs ls hD hl h1 h2
  obtain ⟨b1, b2, b3, b4, b5⟩ := hb
  have hx := vcell_int (G := G) (ρ := ρ) hkx (by decide)
  have hy := vcell_int (G := G) (ρ := ρ) hky (by decide)
  obtain ⟨jx, hjx⟩ := hD.2.1.ix hx
  obtain ⟨jy, hjy⟩ := hD.2.1.ix hy
  have c1 := wr_clamp sp b1
  have c2 := wr_clamp dp b2
  have c3 := wr_clamp n b3
  have hfw := nfw
  rw [List.map_cons, List.map_cons, List.map_cons, List.map_cons, List.map_cons, vl_pos (x := x) (hD.2.1.pos (by omega)).1, vl_pos (x := y) (hD.2.1.pos (by omega)).1]
  refine va_copyi F.1 F.2.1 (F.ml.trans hl.1.symm) F.o (F.t hw.1) (F.t hw.2.1) (F.t hw.2.2.1) (F.t hw.2.2.2) F.K hD.2.1.hP hD.2.1.hD hD.1 jx jy 0 0 hjx hjy rfl rfl rfl (nlt b1) (nlt b2) (nlt b3) (by omega) (by omega) (fun i hi => rfl) (by rw [F.rm]; exact h1d) (by rw [F.rm, vl_cats]; show _ ≤ 45 * d; omega) hd (fun H1 locs1 q1 q2 q3 => ?_)
  rw [cpy_el iI b1 b2 b3] at q1
  exact kk ρ H1 locs1 ls (hD.new q3 (MH_cpE hD.2.1 hkx hky (by decide) hy hjy q1 (vcell_int (M := cpE M 0 x (wr sp) y (wr dp) (wr n)) hky (by decide))) ext.rf kle_cpE hD.2.2.2.2.1 hD.2.2.2.2.2) hl h1 h2.tl.tl.tl.tl.tl
theorem j_copyC (F : Fx p l R s m args meth c cc nL own G M0 d rt) {idx : Nat} {x sp y dp n : Int} (hw : cpW own idx) (hkx : kd M x = 100 + 1) (hky : kd M y = 100 + 1) (hb : cpB M x sp y dp n) (h1d : 1 ≤ d) (hst : st.length ≤ 8) (hd : decode cc pc = .ok (.invokestatic idx, 3)) (kk : J p l e R s m args below meth c nL G ρ0 M0 rk res (cpE M 1 x (wr sp) y (wr dp) (wr n)) (pc + 3) lv st) : J p l e R s m args below meth c nL G ρ0 M0 rk res M pc lv ((true, n) :: (true, dp) :: (false, y) :: (true, sp) :: (false, x) :: st) := by
  intro ρ H locs ls hD hl h1 h2
  obtain ⟨b1, b2, b3, b4, b5⟩ := hb
  have hx := vcell_int (G := G) (ρ := ρ) hkx (by decide)
  have hy := vcell_int (G := G) (ρ := ρ) hky (by decide)
  obtain ⟨jx, hjx⟩ := hD.2.1.ix hx
  obtain ⟨jy, hjy⟩ := hD.2.1.ix hy
  have c1 := wr_clamp sp b1
  have c2 := wr_clamp dp b2
  have c3 := wr_clamp n b3
  have hfw := nfw
  rw [List.map_cons, List.map_cons, List.map_cons, List.map_cons, List.map_cons, vl_pos (x := x) (hD.2.1.pos (by omega)).1, vl_pos (x := y) (hD.2.1.pos (by omega)).1]
  refine va_copyi F.1 F.2.1 (F.ml.trans hl.1.symm) F.o (F.t hw.1) (F.t hw.2.1) (F.t hw.2.2.1) (F.t hw.2.2.2) F.K hD.2.1.hP hD.2.1.hD hD.1 jx jy 1 1 hjx hjy rfl rfl rfl (nlt b1) (nlt b2) (nlt b3) (by omega) (by omega) (fun i hi => (hD.2.1.2.2.2.1 x).2 hkx _) (by rw [F.rm]; exact h1d) (by rw [F.rm, vl_cats]; show _ ≤ 45 * d; omega) hd (fun H1 locs1 q1 q2 q3 => ?_)
  rw [cpy_el iI b1 b2 b3] at q1
  exact kk ρ H1 locs1 ls (hD.new q3 (MH_cpE hD.2.1 hkx hky (by decide) hy hjy q1 (vcell_int (M := cpE M 1 x (wr sp) y (wr dp) (wr n)) hky (by decide))) ext.rf kle_cpE hD.2.2.2.2.1 hD.2.2.2.2.2) hl h1 h2.tl.tl.tl.tl.tl
theorem j_copyO (F : Fx p l R s m args meth c cc nL own G M0 d rt) {idx : Nat} {x sp y dp n : Int} (hwo : ∀ ci C T N, vwCl[ci]? = some (C, T, N) → okc 10 (ci + 1) = true → Cond.castable C "java/lang/Object" ∈ GT) (hw : cpW own idx) (hkx : kd M x = 100 + 10) (hky : kd M y = 100 + 10) (hb : cpB M x sp y dp n) (h1d : 1 ≤ d) (hst : st.length ≤ 8) (hd : decode cc pc = .ok (.invokestatic idx, 3)) (kk : J p l e R s m args below meth c nL G ρ0 M0 rk res (cpE M 10 x (wr sp) y (wr dp) (wr n)) (pc + 3) lv st) : J p l e R s m args below meth c nL G ρ0 M0 rk res M pc lv ((true, n) :: (true, dp) :: (false, y) :: (true, sp) :: (false, x) :: st) := by
  intro ρ H locs ls hD hl h1 h2
  obtain ⟨b1, b2, b3, b4, b5⟩ := hb
  have hx := vcell_ref (G := G) (ρ := ρ) hkx (by decide) (by decide)
  have hy := vcell_ref (G := G) (ρ := ρ) hky (by decide) (by decide)
  obtain ⟨jx, hjx⟩ := hD.2.1.ix hx
  obtain ⟨jy, hjy⟩ := hD.2.1.ix hy
  have c1 := wr_clamp sp b1
  have c2 := wr_clamp dp b2
  have c3 := wr_clamp n b3
  have hfw := nfw
  rw [List.map_cons, List.map_cons, List.map_cons, List.map_cons, List.map_cons, vl_pos (x := x) (hD.2.1.pos (by omega)).1, vl_pos (x := y) (hD.2.1.pos (by omega)).1]
  refine va_copyM F.1 F.2.1 (F.ml.trans hl.1.symm) F.o (F.t hw.1) (F.t hw.2.1) (F.t hw.2.2.1) (F.t hw.2.2.2) F.K hD.2.1.hP hD.2.1.hD hD.1 jx jy 3 3 hjx hjy rfl rfl (nlt b1) (nlt b2) (nlt b3) (by omega) (by omega) (fun i hi w hww => ?_) (by rw [F.rm]; exact h1d) (by rw [F.rm, vl_cats]; show _ ≤ 45 * d; omega) hd (fun H1 locs1 q1 q2 q3 => ?_)
  · rcases hD.2.1.2.2.2.2.2.1 10 (((iI sp).toNatClampNeg + i : Nat) : Int) x hkx (by decide) (by decide) with z | z
    · rw [z, ro_0] at hww
      cases hww
    · rw [ro_pos (hD.2.1.pos (fun q => by rw [q, okc_0] at z; cases z)).1] at hww
      cases hww
      exact anyO F hwo hD z
  · rw [cpy_el (ro ρ) b1 b2 b3] at q1
    exact kk ρ H1 locs1 ls (hD.new q3 (MH_cpE hD.2.1 hkx hky (by decide) hy hjy q1 (vcell_ref (M := cpE M 10 x (wr sp) y (wr dp) (wr n)) hky (by decide) (by decide))) ext.rf kle_cpE hD.2.2.2.2.1 hD.2.2.2.2.2) hl h1 h2.tl.tl.tl.tl.tl
/-- of the empty row nothing is copied -/
theorem j_copyN (F : Fx p l R s m args meth c cc nL own G M0 d rt) {idx : Nat} {x sp y dp n : Int} (hw : cpW own idx) (hkx : kd M x = 300) (hky : kd M y = 100 + 0) (hb : cpB M x sp y dp n) (h1d : 1 ≤ d) (hst : st.length ≤ 8) (hd : decode cc pc = .ok (.invokestatic idx, 3)) (kk : J p l e R s m args below meth c nL G ρ0 M0 rk res M (pc + 3) lv st) : J p l e R s m args below meth c nL G ρ0 M0 rk res M pc lv ((true, n) :: (true, dp) :: (false, y) :: (true, sp) :: (false, x) :: st) := by
  intro ρ H locs ls hD hl h1 h2
  obtain ⟨b1, b2, b3, b4, b5⟩ := hb
  have h4 := (hD.2.1.1 x (by omega)).2
  have hxp := (hD.2.1.pos (x := x) (by omega)).1
  obtain ⟨⟨s1, s2, s3, s4⟩, ⟨a1, a2, a3, a4⟩, ⟨l1, l2, l3⟩, -⟩ := hD.2.1.2.2.2.2.2.2
  have hx3 : x = 1 := by
    rcases (show x = 1 ∨ x = 2 ∨ x = 3 ∨ x = 4 by have := h4 (by omega); omega) with rfl | rfl | rfl | rfl <;> first | rfl | (exfalso; omega)
  subst hx3
  obtain ⟨scr, hs1, hs2, hs3, hs4, hs5, hs6, hs7⟩ := hD.for F.2.2.2.2.2.1.2.2.1.2.1.2
  have c1 := wr_clamp sp b1
  have c2 := wr_clamp dp b2
  have c3 := wr_clamp n b3
  have hfw := nfw
  have hy := vcell_int (G := G) (ρ := ρ) hky (by decide)
  have hcy : H[ρ y]? = some (vp_cell (gC G 0) ((ln M y).toNat, .inl (fun k : Nat => iI (el M 0 y k)))) := (hD.2.1.2.2.1 y _ hy).1
  have hAy := (hD.2.1.2.2.1 y _ hy).2
  obtain ⟨hs8, k0, hk0, cm0, hkk0⟩ := hs2
  obtain ⟨-, k1, hk1, cm1, hkk1⟩ := (F.K.2 0 _ rfl).1 (ln M y).toNat (fun j => .int (iI (el M 0 y j)))
  rw [List.map_cons, List.map_cons, List.map_cons, List.map_cons, List.map_cons, vl_pos (x := 1) (by decide), vl_pos (x := y) (hD.2.1.pos (by omega)).1, a1]
  intro T0 hT X
  obtain ⟨vm', X', step⟩ := X.arraycopy F.1 F.o (F.t hw.1) (F.t hw.2.1) (F.t hw.2.2.1) (F.t hw.2.2.2) (src := gn G) (dst := ρ y) (cs := scr) (cd := vp_cell (gC G 0) ((ln M y).toNat, .inl (fun k : Nat => iI (el M 0 y k)))) (srcPos := iI sp) (destPos := iI dp) (n := iI n) (by rw [hT]; exact hs1) (by rw [hT]; exact hcy)
    hs8 (fun _ h => by cases h) hs3 (fun h => by cases h) hk0 hk1 hkk0 hkk1 (by simp [refKind]) (nlt b1) (nlt b2) (nlt b3)
    (by show ¬ wr sp + wr n > (scr.slots.size : Int); omega)
    (by show ¬ wr dp + wr n > ((arrV (gC G 0) (ln M y).toNat (fun j => .int (iI (el M 0 y j)))).slots.size : Int); rw [arrV_size]; omega)
    (fun vm₁ _ i hi => absurd hi (by omega))
    (g := F0 m pc ls (.int (iI n) :: .int (iI dp) :: .ref (ρ y) :: .int (iI sp) :: .ref (gn G) :: st.map (vl ρ))) rfl (hl.1.trans F.ml.symm) (rest := st.map (vl ρ)) rfl (by rw [F.2.1]; exact hd) (by rw [F.rm]; exact h1d) (by rw [F.rm, vl_cats]; show 2 * 0 + _ + _ ≤ 45 * d; omega)
  have e1 : copied scr (vp_cell (gC G 0) ((ln M y).toNat, .inl (fun k : Nat => iI (el M 0 y k)))) (iI sp) (iI dp) (iI n) = vp_cell (gC G 0) ((ln M y).toNat, .inl (fun k : Nat => iI (el M 0 y k))) := by
    refine (va_copiedX (fun z => Value.int z) scr (gC G 0) (n0 := 0) (fun _ => 0) (fun k : Nat => iI (el M 0 y k)) (fun j hj => absurd hj (by omega)) (by omega)).trans ?_
    rw [vp_cell_i]
    congr 1
    funext k
    unfold va_cpy
    rw [if_neg (by omega)]
  rw [e1] at X' step
  have hl9 : ρ y < H.size := (Array.getElem?_eq_some_iff.mp hcy).1
  have oq : ∀ q : Nat, (H.setIfInBounds (ρ y) (vp_cell (gC G 0) ((ln M y).toNat, .inl (fun k : Nat => iI (el M 0 y k)))))[q]? = H[q]? := fun q => by
    by_cases hq : q = ρ y
    · rw [hq, hcy]
      simp [Array.getElem?_setIfInBounds, hl9]
    · simp [Array.getElem?_setIfInBounds, Ne.symm hq]
  have hheap : ((T0.setVm vm').setCell (ρ y) (vp_cell (gC G 0) ((ln M y).toNat, .inl (fun k : Nat => iI (el M 0 y k))))).heap = H.setIfInBounds (ρ y) (vp_cell (gC G 0) ((ln M y).toNat, .inl (fun k : Nat => iI (el M 0 y k)))) := by rw [← hT]; rfl
  have hS := hD.1
  obtain ⟨t, r1, r2⟩ := kk ρ _ _ ls (hD.new ⟨by simp; exact hS.1, fun q g1 g2 => by rw [oq q]; exact hS.2.1 q g1 g2, fun q hq => by
      rcases List.mem_append.mp hq with h | h
      · exact hS.2.2 q h
      · obtain ⟨z, -, hz⟩ := List.mem_map.mp h
        rw [← hz]
        exact hAy⟩ (hD.2.1.kept (fun q _ => oq q)) ext.rf kle.rf hD.2.2.2.2.1 hD.2.2.2.2.2) hl h1 h2.tl.tl.tl.tl.tl _ hheap X'
  exact ⟨t, step t r1, r2⟩
end JE
