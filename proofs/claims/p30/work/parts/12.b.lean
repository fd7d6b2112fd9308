/-! lengths, new cells, casts, statics, copies -/
section JB
variable {p : Program} {l : Launch} {e : Env} {R : Room} {s : State} {m : MethodId} {args : Array Value} {below : List Frame} {meth : Method} {c : Code}
variable {cc : ByteArray} {nL : Nat} {own : String} {G : Gt} {ρ0 : Int → Nat} {M0 : Mo} {d : Nat} {rt : Option FieldType} {rk : Nat} {res : RS}
variable {M : Mo} {pc : Nat} {lv : List (Nat × TV)} {st : List TV}
def okA (k : Nat) : Bool := k == 100 || k == 101 || k == 102 || k == 110 || k == 111 || k == 112 || k == 113 || k == 114 || k == 115 || k == 116 || k == 200 || k == 300 || k == 301
theorem iI_nat (n : Nat) : Int32.ofNat n = iI (n : Int) := rfl
theorem Dn.for {s : State} {ρ : Int → Nat} {H : Heap} {locs : List Loc} (h : Dn G ρ0 M0 s ρ M H locs) {ty : FieldType} {t N : Nat} {f : Nat → Value} (hT : va_T ty t N f (gA G) s s.heap) : va_T ty t N f (gA G) s H := va_T.kept hT h.1.2.1
theorem alenO (F : Fx p l R s m args meth c cc nL own G M0 d rt) {ρ : Int → Nat} {H : Heap} {locs : List Loc} {ls : Array Slot} (hD : Dn G ρ0 M0 s ρ M H locs) {x : Int} {t t0 : Nat} {ty : FieldType} (hk : kd M x = 100 + t) (ht9 : t < 99) (ht : (tysG G)[t0]? = some (gC G t, ty)) {rest : List Value} {cells slots : Nat} {Q : State → Prop} (hd : decode cc pc = .ok (.arraylength, 1)) (kk : W p l e R s m args below meth c H locs cells slots Q (F0 m (pc + 1) ls (.int (iI (ln M x)) :: rest))) : W p l e R s m args below meth c H locs cells slots Q (F0 m pc ls (.ref (ρ x) :: rest)) := by
  obtain ⟨e, he⟩ := vcell_is (G := G) (ρ := ρ) (M := M) (x := x) (by omega) (by omega)
  have hn := (hD.2.1.2.2.2.1 x).1.1
  have e1 : Int32.ofNat (ln M x).toNat = iI (ln M x) := by
    rw [iI_nat, show (((ln M x).toNat : Nat) : Int) = ln M x by omega]
  by_cases h10 : t < 10
  · have hc := vcell_int (G := G) (ρ := ρ) hk h10
    exact va_alen (D := gD G) (tys := tysG G) (ws := [(ρ x, .inl (gC G t, (ln M x).toNat, .inl (fun k : Nat => iI (el M t x k))))]) F.1 F.2.1 F.K (hD.2.1.one hc) 0 t0 rfl ht e1 hd kk
  · have hc := vcell_ref (G := G) (ρ := ρ) hk (by omega) (by omega)
    exact va_alen (D := gD G) (tys := tysG G) (ws := [(ρ x, .inl (gC G t, (ln M x).toNat, .inr (.inr (.inr (.inr (fun k : Nat => ro ρ (el M t x k)))))))]) F.1 F.2.1 F.K (hD.2.1.one hc) 0 t0 rfl ht e1 hd kk
theorem alenF (F : Fx p l R s m args meth c cc nL own G M0 d rt) {ρ : Int → Nat} {H : Heap} {locs : List Loc} {ls : Array Slot} (hD : Dn G ρ0 M0 s ρ M H locs) {ty : FieldType} {t N : Nat} {f : Nat → Value} {z : Int} (hT : va_T ty t N f (gA G) s s.heap) (hz : (N : Int) = z) {rest : List Value} {cells slots : Nat} {Q : State → Prop} (hd : decode cc pc = .ok (.arraylength, 1)) (kk : W p l e R s m args below meth c H locs cells slots Q (F0 m (pc + 1) ls (.int (iI z) :: rest))) : W p l e R s m args below meth c H locs cells slots Q (F0 m pc ls (.ref t :: rest)) := by
  subst hz
  obtain ⟨cell, h1, h2, h3, h4, h5, h6, h7⟩ := hD.for hT
  exact W.alen F.1 F.2.1 h1 h2 h5 rfl rfl hd kk
theorem j_alen (F : Fx p l R s m args meth c cc nL own G M0 d rt) {x : Int} (hk : okA (kd M x) = true) (hd : decode cc pc = .ok (.arraylength, 1)) (kk : J p l e R s m args below meth c nL G ρ0 M0 rk res M (pc + 1) lv ((true, ln M x) :: st)) : J p l e R s m args below meth c nL G ρ0 M0 rk res M pc lv ((false, x) :: st) := by
  intro ρ H locs ls hD hl h1 h2
  have h := kk ρ H locs ls hD hl h1 (oks.mk okv.i h2.tl)
  have hne : kd M x ≠ 0 := fun e => by rw [e] at hk; cases hk
  have hx := hD.2.1.pos hne
  have h4 := (hD.2.1.1 x hne).2
  obtain ⟨⟨s1, s2, s3, s4⟩, ⟨a1, a2, a3, a4⟩, ⟨l1, l2, l3⟩, -⟩ := hD.2.1.2.2.2.2.2.2
  rw [List.map_cons] at h ⊢
  rw [vl_pos hx.1]
  unfold okA at hk
  simp only [Bool.or_eq_true, beq_iff_eq] at hk
  rcases hk with (((((((((((k | k) | k) | k) | k) | k) | k) | k) | k) | k) | k) | k) | k
  · exact alenO F hD (t := 0) (t0 := 0) k (by decide) rfl hd h
  · exact alenO F hD (t := 1) (t0 := 1) k (by decide) rfl hd h
  · exact alenO F hD (t := 2) (t0 := 2) k (by decide) rfl hd h
  · exact alenO F hD (t := 10) (t0 := 3) k (by decide) rfl hd h
  · exact alenO F hD (t := 11) (t0 := 4) k (by decide) rfl hd h
  · exact alenO F hD (t := 12) (t0 := 5) k (by decide) rfl hd h
  · exact alenO F hD (t := 13) (t0 := 6) k (by decide) rfl hd h
  · exact alenO F hD (t := 14) (t0 := 7) k (by decide) rfl hd h
  · exact alenO F hD (t := 15) (t0 := 8) k (by decide) rfl hd h
  · exact alenO F hD (t := 16) (t0 := 9) k (by decide) rfl hd h
  · have hx3 : x = 3 := by
      rcases (show x = 1 ∨ x = 2 ∨ x = 3 ∨ x = 4 by have := h4 (by omega); omega) with rfl | rfl | rfl | rfl <;> first | rfl | (exfalso; omega)
    subst hx3
    rw [a3]
    exact alenF F hD F.2.2.2.2.2.1.2.2.1.2.2.2.2 l3.symm hd h
  · have hx3 : x = 1 := by
      rcases (show x = 1 ∨ x = 2 ∨ x = 3 ∨ x = 4 by have := h4 (by omega); omega) with rfl | rfl | rfl | rfl <;> first | rfl | (exfalso; omega)
    subst hx3
    rw [a1]
    exact alenF F hD F.2.2.2.2.2.1.2.2.1.2.1.2 l1.symm hd h
  · have hx3 : x = 2 := by
      rcases (show x = 1 ∨ x = 2 ∨ x = 3 ∨ x = 4 by have := h4 (by omega); omega) with rfl | rfl | rfl | rfl <;> first | rfl | (exfalso; omega)
    subst hx3
    rw [a2]
    exact alenF F hD F.2.2.2.2.2.1.2.2.1.1.2 l2.symm hd h
theorem j_sload (F : Fx p l R s m args meth c cc nL own G M0 d rt) {x z : Int} (hk : kd M x = 200) (hb : 0 ≤ wr z ∧ wr z < ln M x) (hd : decode cc pc = .ok (.iaload, 1)) (kk : J p l e R s m args below meth c nL G ρ0 M0 rk res M (pc + 1) lv ((true, el M 90 x (wr z)) :: st)) : J p l e R s m args below meth c nL G ρ0 M0 rk res M pc lv ((true, z) :: (false, x) :: st) := by
  intro ρ H locs ls hD hl h1 h2
  have h := kk ρ H locs ls hD hl h1 (oks.mk okv.i h2.tl.tl)
  have hx := hD.2.1.pos (x := x) (by rw [hk]; omega)
  have h4 := (hD.2.1.1 x (by omega)).2
  obtain ⟨⟨s1, s2, s3, s4⟩, ⟨a1, a2, a3, a4⟩, ⟨l1, l2, l3⟩, hel, -⟩ := hD.2.1.2.2.2.2.2.2
  have hx3 : x = 3 := by
    rcases (show x = 1 ∨ x = 2 ∨ x = 3 ∨ x = 4 by have := h4 (by omega); omega) with rfl | rfl | rfl | rfl <;> first | rfl | (exfalso; omega)
  subst hx3
  obtain ⟨cell, q1, q2, q3, q4, q5, q6, q7⟩ := hD.for F.2.2.2.2.2.1.2.2.1.2.2.2.2
  rw [List.map_cons] at h
  rw [List.map_cons, List.map_cons, vl_pos hx.1, a3]
  have hc := wr_clamp z hb.1
  have hlt : (iI z).toNatClampNeg < gL G := by omega
  have hin : ¬ (iI z < 0 ∨ cell.slots.size ≤ (iI z).toNatClampNeg) := by
    rintro (q | q)
    · have := (zlt z).mp q
      omega
    · omega
  refine W.iald (v := .int (gx G (iI z).toNatClampNeg)) F.1 F.2.1 q1 q2 q3 hin (q6 _ hlt) rfl rfl hd ?_
  have e2 : iI (el M 90 3 (wr z)) = gx G (iI z).toNatClampNeg := by
    rw [← hc, hel _ hlt]
    exact (iI_of _).symm
  rw [show vl ρ (true, el M 90 3 (wr z)) = .int (iI (el M 90 3 (wr z))) from rfl, e2] at h
  exact h
theorem Fx.rm (F : Fx p l R s m args meth c cc nL own G M0 d rt) : R = rmK d M0 := F.2.2.2.2.2.2.2.2.2.2.1
theorem Fx.ba (F : Fx p l R s m args meth c cc nL own G M0 d rt) : gB G ≤ s.heap.size := F.2.2.2.2.2.2.2.2.2.2.2
theorem flds_new {ρ : Int → Nat} {n ci : Nat} : flds ρ (nO M ci n) ci (nid M) = (lay ci).map (fun b => if b then Value.int 0 else .null) := by
  unfold flds
  apply List.ext_getElem?
  intro j
  rw [List.getElem?_map, List.getElem?_map, List.getElem?_zipIdx]
  cases hb : (lay ci)[j]? with
  | none => rfl
  | some b =>
    have e : fd (nO M ci n) ci (0 + j) (nid M) = 0 := if_pos rfl
    simp only [Option.map_some]
    rw [e]
    match b with
    | true => rfl
    | false => exact congrArg some vl_0
theorem kd_nO {ci n : Nat} : kd (nO M ci n) (nid M) = ci + 1 := if_pos rfl
theorem j_new (F : Fx p l R s m args meth c cc nL own G M0 d rt) {idx ci N : Nat} {C : String} {T : u_T} (hin : ∀ w ∈ u_ws C T N, w ∈ GT) (ty : Nat → FieldType) (hty : ∀ k, k < N → parseFieldDescriptor (T k).2.2.1 = some (ty k)) (hcl : Cond.classLink own idx C ∈ GT) (hinst : Cond.instantiable C N ∈ GT) (hini : Cond.initialized C ∈ GT) (hc : vwCl[ci]? = some (C, T, N)) (hci : ci < 99) (hdef : ∀ j, j < N → defaultValue (ty j) = vp_V ((lay ci).map (fun b => if b then Value.int 0 else .null)) j) (hroom : nc M + 1 ≤ CAPC ∧ ns M + N ≤ CAPS) (hd : decode cc pc = .ok (.new idx, 3)) (kk : kle M (nO M ci N) → J p l e R s m args below meth c nL G ρ0 M0 rk res (nO M ci N) (pc + 3) lv ((false, nid M) :: st)) : J p l e R s m args below meth c nL G ρ0 M0 rk res M pc lv st := by
  intro ρ H locs ls hD hl h1 h2
  have k0 := hD.2.2.1.2
  refine va_new (ci := ci) (fs := (lay ci).map (fun b => if b then Value.int 0 else .null)) F.1 F.2.1 F.2.2.2.2.1 hin ty hty F.o (F.t hcl) (F.t hinst) (F.t hini) F.K hD.2.1.hP hD.2.1.hD hD.1 (fun q hq => Nat.le_trans F.ba hq) hc hdef (by rw [F.rm]; show _ ≤ CAPC - nc M0; omega) (by rw [F.rm]; show _ ≤ CAPS - ns M0; omega) hd (fun q H1 q1 q2 q3 => ?_)
  obtain ⟨m1, m2, m3⟩ := hD.2.1.new (M' := nO M ci N) (K := ci + 1) q1 q2 ⟨by omega, by omega⟩ rfl (fun y hy => rfl) (hD.2.1.2.2.2.1 _).1 rfl (Nat.le_add_right _ _) (fun c k y hy => if_neg hy) (fun t y k hy => rfl) (by rw [vcell_obj kd_nO hci, flds_new]) (fun c k _ _ _ => Or.inl (if_pos rfl)) (fun t k h _ _ => by omega) (fun h => by omega)
  have hle := m3
  have e1 : nc (nO M ci N) - nc M0 = nc M - nc M0 + 1 := by show nc M + 1 - nc M0 = _; omega
  have e2 : ns (nO M ci N) - ns M0 = ns M - ns M0 + N := by show ns M + N - ns M0 = _; omega
  have h := kk m3 _ H1 locs ls (hD.new q3 m1 m2 m3 hroom.1 hroom.2) (by rw [lvm_ext m2 h1]; exact hl) (h1.up m3) (oks.mk (okv.k (by rw [kd_nO]; omega)) (h2.up m3))
  rw [e1, e2, List.map_cons, vl_pos (by unfold nid; omega), rup_self, oks_ext m2 h2] at h
  exact h
end JB
