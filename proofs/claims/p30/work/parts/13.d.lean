/-! new arrays, casts, statics, copies -/
section JD
variable {p : Program} {l : Launch} {e : Env} {R : Room} {s : State} {m : MethodId} {args : Array Value} {below : List Frame} {meth : Method} {c : Code}
variable {cc : ByteArray} {nL : Nat} {own : String} {G : Gt} {ρ0 : Int → Nat} {M0 : Mo} {d : Nat} {rt : Option FieldType} {rk : Nat} {res : RS}
variable {M : Mo} {pc : Nat} {lv : List (Nat × TV)} {st : List TV}
theorem kd_nA {t : Nat} {n : Int} : kd (nA M t n) (nid M) = 100 + t := if_pos rfl
theorem ln_nA {t : Nat} {n : Int} : ln (nA M t n) (nid M) = n := if_pos rfl
theorem el_nA {t t' : Nat} {n k : Int} : el (nA M t n) t' (nid M) k = 0 := if_pos rfl
theorem nlt {n : Int} (h : 0 ≤ wr n) : ¬ iI n < 0 := fun q => by
  have := (zlt n).mp q
  omega
theorem j_newaI (F : Fx p l R s m args meth c cc nL own G M0 d rt) {n : Int} (hw : Cond.arrayClass .int ∈ GT) (hn : 0 ≤ wr n) (hroom : nc M + 1 ≤ CAPC ∧ ns M + (wr n).toNat ≤ CAPS) (hd : decode cc pc = .ok (.newarray .int, 2)) (kk : kle M (nA M 0 (wr n)) → J p l e R s m args below meth c nL G ρ0 M0 rk res (nA M 0 (wr n)) (pc + 2) lv ((false, nid M) :: st)) : J p l e R s m args below meth c nL G ρ0 M0 rk res M pc lv ((true, n) :: st) := by
  intro ρ H locs ls hD hl h1 h2
  have k0 := hD.2.2.1.2
  have hcap : (wr n).toNat ≤ 7301640 := Nat.le_trans (Nat.le_add_left _ _) hroom.2
  rw [List.map_cons]
  refine va_newa (atype := .int) (ty := .int) (a0 := ((wr n).toNat, .inl (fun _ => 0))) (N' := (wr n).toNat) F.1 F.2.1 (F.t hw) rfl F.K hD.2.1.hP hD.2.1.hD hD.1 (fun q hq => Nat.le_trans F.ba hq) (fun _ => rfl) (nlt hn) rfl (by simp only [componentBytes]; omega) (by rw [F.rm]; show _ ≤ CAPC - nc M0; omega) (by rw [F.rm]; show _ ≤ CAPS - ns M0; omega) hd (fun q cA H1 q0 q1 q2 q3 => ?_)
  have ecA : cA = gC G 0 := by
    have g1 := (q0.2 (tysG G).length (cA, .int) (by rw [List.getElem?_append_right (Nat.le_refl _), Nat.sub_self]; rfl)).2
    have g2 := (F.K.2 0 (gC G 0, .int) rfl).2
    exact Option.some.inj (g1.symm.trans g2)
  subst ecA
  have hv : vcell G (rup ρ (nid M) q) (nA M 0 (wr n)) (nid M) = some (.inl (gC G 0, (wr n).toNat, .inl (fun _ => 0))) := by
    rw [vcell_int kd_nA (by decide), ln_nA]
    simp only [el_nA]
    rfl
  obtain ⟨m1, m2, m3⟩ := hD.2.1.new (M' := nA M 0 (wr n)) (K := 100 + 0) q1 q2 ⟨by omega, by omega⟩ rfl (fun y hy => if_neg hy) (by rw [show (nA M 0 (wr n)).2.1 (nid M) = wr n from ln_nA]; exact ⟨hn, wr_hi n⟩) rfl (Nat.le_add_right _ _) (fun c k y hy => rfl) (fun t y k hy => if_neg hy) hv (fun c k h _ _ => by omega) (fun t k h _ _ => by omega) (fun _ k => by rw [show (nA M 0 (wr n)).2.2.2.1 1 (nid M) k = 0 from el_nA]; rfl)
  have hle := m3
  have e1 : nc (nA M 0 (wr n)) - nc M0 = nc M - nc M0 + 1 := by show nc M + 1 - nc M0 = _; omega
  have e2 : ns (nA M 0 (wr n)) - ns M0 = ns M - ns M0 + (wr n).toNat := by show ns M + (wr n).toNat - ns M0 = _; omega
  have h := kk m3 _ H1 locs ls (hD.new q3 m1 m2 m3 hroom.1 hroom.2) (by rw [lvm_ext m2 h1]; exact hl) (h1.up m3) (oks.mk (okv.k (by rw [kd_nA]; omega)) (h2.tl.up m3))
  rw [e1, e2, List.map_cons, vl_pos (by unfold nid; omega), rup_self, oks_ext m2 h2.tl] at h
  exact h
theorem j_newaC (F : Fx p l R s m args meth c cc nL own G M0 d rt) {n : Int} (hw : Cond.arrayClass .char ∈ GT) (hn : 0 ≤ wr n) (hroom : nc M + 1 ≤ CAPC ∧ ns M + (wr n).toNat ≤ CAPS) (hd : decode cc pc = .ok (.newarray .char, 2)) (kk : kle M (nA M 1 (wr n)) → J p l e R s m args below meth c nL G ρ0 M0 rk res (nA M 1 (wr n)) (pc + 2) lv ((false, nid M) :: st)) : J p l e R s m args below meth c nL G ρ0 M0 rk res M pc lv ((true, n) :: st) := by
  intro ρ H locs ls hD hl h1 h2
  have k0 := hD.2.2.1.2
  have hcap : (wr n).toNat ≤ 7301640 := Nat.le_trans (Nat.le_add_left _ _) hroom.2
  rw [List.map_cons]
  refine va_newa (atype := .char) (ty := .char) (a0 := ((wr n).toNat, .inl (fun _ => 0))) (N' := (wr n).toNat) F.1 F.2.1 (F.t hw) rfl F.K hD.2.1.hP hD.2.1.hD hD.1 (fun q hq => Nat.le_trans F.ba hq) (fun _ => rfl) (nlt hn) rfl (by simp only [componentBytes]; omega) (by rw [F.rm]; show _ ≤ CAPC - nc M0; omega) (by rw [F.rm]; show _ ≤ CAPS - ns M0; omega) hd (fun q cA H1 q0 q1 q2 q3 => ?_)
  have ecA : cA = gC G 1 := by
    have g1 := (q0.2 (tysG G).length (cA, .char) (by rw [List.getElem?_append_right (Nat.le_refl _), Nat.sub_self]; rfl)).2
    have g2 := (F.K.2 1 (gC G 1, .char) rfl).2
    exact Option.some.inj (g1.symm.trans g2)
  subst ecA
  have hv : vcell G (rup ρ (nid M) q) (nA M 1 (wr n)) (nid M) = some (.inl (gC G 1, (wr n).toNat, .inl (fun _ => 0))) := by
    rw [vcell_int kd_nA (by decide), ln_nA]
    simp only [el_nA]
    rfl
  obtain ⟨m1, m2, m3⟩ := hD.2.1.new (M' := nA M 1 (wr n)) (K := 100 + 1) q1 q2 ⟨by omega, by omega⟩ rfl (fun y hy => if_neg hy) (by rw [show (nA M 1 (wr n)).2.1 (nid M) = wr n from ln_nA]; exact ⟨hn, wr_hi n⟩) rfl (Nat.le_add_right _ _) (fun c k y hy => rfl) (fun t y k hy => if_neg hy) hv (fun c k h _ _ => by omega) (fun t k h _ _ => by omega) (fun _ k => by rw [show (nA M 1 (wr n)).2.2.2.1 1 (nid M) k = 0 from el_nA]; rfl)
  have hle := m3
  have e1 : nc (nA M 1 (wr n)) - nc M0 = nc M - nc M0 + 1 := by show nc M + 1 - nc M0 = _; omega
  have e2 : ns (nA M 1 (wr n)) - ns M0 = ns M - ns M0 + (wr n).toNat := by show ns M + (wr n).toNat - ns M0 = _; omega
  have h := kk m3 _ H1 locs ls (hD.new q3 m1 m2 m3 hroom.1 hroom.2) (by rw [lvm_ext m2 h1]; exact hl) (h1.up m3) (oks.mk (okv.k (by rw [kd_nA]; omega)) (h2.tl.up m3))
  rw [e1, e2, List.map_cons, vl_pos (by unfold nid; omega), rup_self, oks_ext m2 h2.tl] at h
  exact h
theorem j_newaZ (F : Fx p l R s m args meth c cc nL own G M0 d rt) {n : Int} (hw : Cond.arrayClass .boolean ∈ GT) (hn : 0 ≤ wr n) (hroom : nc M + 1 ≤ CAPC ∧ ns M + (wr n).toNat ≤ CAPS) (hd : decode cc pc = .ok (.newarray .boolean, 2)) (kk : kle M (nA M 2 (wr n)) → J p l e R s m args below meth c nL G ρ0 M0 rk res (nA M 2 (wr n)) (pc + 2) lv ((false, nid M) :: st)) : J p l e R s m args below meth c nL G ρ0 M0 rk res M pc lv ((true, n) :: st) := by
  intro ρ H locs ls hD hl h1 h2
  have k0 := hD.2.2.1.2
  have hcap : (wr n).toNat ≤ 7301640 := Nat.le_trans (Nat.le_add_left _ _) hroom.2
  rw [List.map_cons]
  refine va_newa (atype := .boolean) (ty := .boolean) (a0 := ((wr n).toNat, .inl (fun _ => 0))) (N' := (wr n).toNat) F.1 F.2.1 (F.t hw) rfl F.K hD.2.1.hP hD.2.1.hD hD.1 (fun q hq => Nat.le_trans F.ba hq) (fun _ => rfl) (nlt hn) rfl (by simp only [componentBytes]; omega) (by rw [F.rm]; show _ ≤ CAPC - nc M0; omega) (by rw [F.rm]; show _ ≤ CAPS - ns M0; omega) hd (fun q cA H1 q0 q1 q2 q3 => ?_)
  have ecA : cA = gC G 2 := by
    have g1 := (q0.2 (tysG G).length (cA, .boolean) (by rw [List.getElem?_append_right (Nat.le_refl _), Nat.sub_self]; rfl)).2
    have g2 := (F.K.2 2 (gC G 2, .boolean) rfl).2
    exact Option.some.inj (g1.symm.trans g2)
  subst ecA
  have hv : vcell G (rup ρ (nid M) q) (nA M 2 (wr n)) (nid M) = some (.inl (gC G 2, (wr n).toNat, .inl (fun _ => 0))) := by
    rw [vcell_int kd_nA (by decide), ln_nA]
    simp only [el_nA]
    rfl
  obtain ⟨m1, m2, m3⟩ := hD.2.1.new (M' := nA M 2 (wr n)) (K := 100 + 2) q1 q2 ⟨by omega, by omega⟩ rfl (fun y hy => if_neg hy) (by rw [show (nA M 2 (wr n)).2.1 (nid M) = wr n from ln_nA]; exact ⟨hn, wr_hi n⟩) rfl (Nat.le_add_right _ _) (fun c k y hy => rfl) (fun t y k hy => if_neg hy) hv (fun c k h _ _ => by omega) (fun t k h _ _ => by omega) (fun _ k => by rw [show (nA M 2 (wr n)).2.2.2.1 1 (nid M) k = 0 from el_nA]; rfl)
  have hle := m3
  have e1 : nc (nA M 2 (wr n)) - nc M0 = nc M - nc M0 + 1 := by show nc M + 1 - nc M0 = _; omega
  have e2 : ns (nA M 2 (wr n)) - ns M0 = ns M - ns M0 + (wr n).toNat := by show ns M + (wr n).toNat - ns M0 = _; omega
  have h := kk m3 _ H1 locs ls (hD.new q3 m1 m2 m3 hroom.1 hroom.2) (by rw [lvm_ext m2 h1]; exact hl) (h1.up m3) (oks.mk (okv.k (by rw [kd_nA]; omega)) (h2.tl.up m3))
  rw [e1, e2, List.map_cons, vl_pos (by unfold nid; omega), rup_self, oks_ext m2 h2.tl] at h
  exact h
theorem j_anewa (F : Fx p l R s m args meth c cc nL own G M0 d rt) {idx : Nat} {C : String} {n : Int} (t t0 : Nat) (h10 : 10 ≤ t ∧ t < 90) (ht : (tysG G)[t0]? = some (gC G t, .object C)) (hcl : Cond.classLink own idx C ∈ GT) (hAO : va_AO C s) (hn : 0 ≤ wr n) (hroom : nc M + 1 ≤ CAPC ∧ ns M + (wr n).toNat ≤ CAPS) (hd : decode cc pc = .ok (.anewarray idx, 3)) (kk : kle M (nA M t (wr n)) → J p l e R s m args below meth c nL G ρ0 M0 rk res (nA M t (wr n)) (pc + 3) lv ((false, nid M) :: st)) : J p l e R s m args below meth c nL G ρ0 M0 rk res M pc lv ((true, n) :: st) := by
  intro ρ H locs ls hD hl h1 h2
  have k0 := hD.2.2.1.2
  have hcap : (wr n).toNat ≤ 7301640 := Nat.le_trans (Nat.le_add_left _ _) hroom.2
  rw [List.map_cons]
  refine va_newq (C := C) (N' := (wr n).toNat) F.1 F.2.1 F.o (F.t hcl) hAO F.K hD.2.1.hP hD.2.1.hD hD.1 (fun q hq => Nat.le_trans F.ba hq) (nlt hn) rfl (by omega) (by rw [F.rm]; show _ ≤ CAPC - nc M0; omega) (by rw [F.rm]; show _ ≤ CAPS - ns M0; omega) hd (fun q cA H1 q0 q1 q2 q3 => ?_)
  have ecA : cA = gC G t := by
    obtain ⟨_, _, _, _, _, g1⟩ := (q0.2 (tysG G).length (cA, .object C) (by rw [List.getElem?_append_right (Nat.le_refl _), Nat.sub_self]; rfl)).2
    obtain ⟨_, _, _, _, _, g2⟩ := (F.K.2 t0 (gC G t, .object C) ht).2
    exact Option.some.inj (g1.symm.trans g2)
  subst ecA
  have hv : vcell G (rup ρ (nid M) q) (nA M t (wr n)) (nid M) = some (.inl (gC G t, (wr n).toNat, .inr (.inr (.inr (.inr (fun _ => none)))))) := by
    rw [vcell_ref kd_nA h10.1 (by omega), ln_nA]
    simp only [el_nA, ro_0]
  obtain ⟨m1, m2, m3⟩ := hD.2.1.new (M' := nA M t (wr n)) (K := 100 + t) q1 q2 ⟨by omega, by omega⟩ rfl (fun y hy => if_neg hy) (by rw [show (nA M t (wr n)).2.1 (nid M) = wr n from ln_nA]; exact ⟨hn, wr_hi n⟩) rfl (Nat.le_add_right _ _) (fun c k y hy => rfl) (fun t y k hy => if_neg hy) hv (fun c k h _ _ => by omega) (fun t' k h _ _ => Or.inl el_nA) (fun h k => by omega)
  have hle := m3
  have e1 : nc (nA M t (wr n)) - nc M0 = nc M - nc M0 + 1 := by show nc M + 1 - nc M0 = _; omega
  have e2 : ns (nA M t (wr n)) - ns M0 = ns M - ns M0 + (wr n).toNat := by show ns M + (wr n).toNat - ns M0 = _; omega
  have h := kk m3 _ H1 locs ls (hD.new q3 m1 m2 m3 hroom.1 hroom.2) (by rw [lvm_ext m2 h1]; exact hl) (h1.up m3) (oks.mk (okv.k (by rw [kd_nA]; omega)) (h2.tl.up m3))
  rw [e1, e2, List.map_cons, vl_pos (by unfold nid; omega), rup_self, oks_ext m2 h2.tl] at h
  exact h
theorem rcv (F : Fx p l R s m args meth c cc nL own G M0 d rt) {ρ : Int → Nat} {H : Heap} {locs : List Loc} (hD : Dn G ρ0 M0 s ρ M H locs) {x : Int} {ci N : Nat} {C : String} {T : u_T} (hc : vwCl[ci]? = some (C, T, N)) (hci : ci < 99) (hk : kd M x = ci + 1) : ∃ cell : Cell, H[ρ x]? = some cell ∧ cell.vm.isStatics = false ∧ s.vm.findClass C = some cell.cls :=
  va_recv F.K (hD.2.1.one (vcell_obj hk hci)) (ci := ci) (q0 := 0) hc rfl
theorem j_cast (F : Fx p l R s m args meth c cc nL own G M0 d rt) {idx ci N : Nat} {C : String} {T : u_T} {x : Int} (hcl : Cond.classLink own idx C ∈ GT) (hc : vwCl[ci]? = some (C, T, N)) (hci : ci < 99) (hx : x = 0 ∨ kd M x = ci + 1) (hd : decode cc pc = .ok (.checkcast idx, 3)) (kk : J p l e R s m args below meth c nL G ρ0 M0 rk res M (pc + 3) lv ((false, x) :: st)) : J p l e R s m args below meth c nL G ρ0 M0 rk res M pc lv ((false, x) :: st) := by
  intro ρ H locs ls hD hl h1 h2
  have h := kk ρ H locs ls hD hl h1 h2
  rw [List.map_cons] at h ⊢
  rcases hx with rfl | hx
  · rw [vl_0] at h ⊢
    exact lv_castN F.1 F.2.1 hd h
  · rw [vl_pos (hD.2.1.px hx)] at h ⊢
    exact va_castS F.1 F.2.1 F.o (F.t hcl) (F.K.1 ci (C, T, N) hc).2 (rcv F hD hc hci hx) hd h
theorem j_castI (F : Fx p l R s m args meth c cc nL own G M0 d rt) {idx : Nat} {x : Int} (hcl : Cond.classLink own idx "[I" ∈ GT) (hx : kd M x = 100 + 0) (hd : decode cc pc = .ok (.checkcast idx, 3)) (kk : J p l e R s m args below meth c nL G ρ0 M0 rk res M (pc + 3) lv ((false, x) :: st)) : J p l e R s m args below meth c nL G ρ0 M0 rk res M pc lv ((false, x) :: st) := by
  intro ρ H locs ls hD hl h1 h2
  have h := kk ρ H locs ls hD hl h1 h2
  have hp := hD.2.1.pos (x := x) (by omega)
  rw [List.map_cons] at h ⊢
  rw [vl_pos hp.1] at h ⊢
  exact va_castA F.1 F.2.1 F.o (F.t hcl) (hD.2.1.one (vcell_int hx (by decide))) 0 rfl (F.K.2 0 _ rfl).2 hd h
theorem j_castO (F : Fx p l R s m args meth c cc nL own G M0 d rt) {idx : Nat} {x : Int} (hcl : Cond.classLink own idx "[Ljava/lang/Object;" ∈ GT) (hx : kd M x = 100 + 10) (hd : decode cc pc = .ok (.checkcast idx, 3)) (kk : J p l e R s m args below meth c nL G ρ0 M0 rk res M (pc + 3) lv ((false, x) :: st)) : J p l e R s m args below meth c nL G ρ0 M0 rk res M pc lv ((false, x) :: st) := by
  intro ρ H locs ls hD hl h1 h2
  have h := kk ρ H locs ls hD hl h1 h2
  have hp := hD.2.1.pos (x := x) (by omega)
  rw [List.map_cons] at h ⊢
  rw [vl_pos hp.1] at h ⊢
  exact va_castA F.1 F.2.1 F.o (F.t hcl) (hD.2.1.one (vcell_ref hx (by decide) (by decide))) 0 rfl (va_nmO (F.K.2 3 _ rfl).2 rfl) hd h
theorem j_nothing (F : Fx p l R s m args meth c cc nL own G M0 d rt) {idx : Nat} (hl0 : Cond.fieldLink own idx "ToolPlex" "NOTHING" "[I" ∈ GT) (hd : decode cc pc = .ok (.getstatic idx, 3)) (kk : J p l e R s m args below meth c nL G ρ0 M0 rk res M (pc + 3) lv ((false, 1) :: st)) : J p l e R s m args below meth c nL G ρ0 M0 rk res M pc lv st := by
  intro ρ H locs ls hD hl h1 h2
  obtain ⟨⟨s1, s2, s3, s4⟩, ⟨a1, a2, a3, a4⟩, -⟩ := hD.2.1.2.2.2.2.2.2
  have h := kk ρ H locs ls hD hl h1 (oks.mk (okv.k (by omega)) h2)
  rw [List.map_cons, vl_pos (by decide), a1] at h
  exact va_gets F.1 F.2.1 F.2.2.2.2.2.1.2.2.1.2.1.1 hD.1 F.o (F.t hl0) (fun _ z => z) hd h
theorem j_nothingN (F : Fx p l R s m args meth c cc nL own G M0 d rt) {idx : Nat} {host : String} (hl0 : Cond.fieldLinkNest own idx "ToolPlex" "NOTHING" "[I" host ∈ GT) (hd : decode cc pc = .ok (.getstatic idx, 3)) (kk : J p l e R s m args below meth c nL G ρ0 M0 rk res M (pc + 3) lv ((false, 1) :: st)) : J p l e R s m args below meth c nL G ρ0 M0 rk res M pc lv st := by
  intro ρ H locs ls hD hl h1 h2
  obtain ⟨⟨s1, s2, s3, s4⟩, ⟨a1, a2, a3, a4⟩, -⟩ := hD.2.1.2.2.2.2.2.2
  have h := kk ρ H locs ls hD hl h1 (oks.mk (okv.k (by omega)) h2)
  rw [List.map_cons, vl_pos (by decide), a1] at h
  exact va_getsN F.1 F.2.1 F.2.2.2.2.2.1.2.2.1.2.1.1 hD.1 F.o (F.t hl0) (fun _ z => z) hd h
theorem j_empty (F : Fx p l R s m args meth c cc nL own G M0 d rt) {idx : Nat} (hl0 : Cond.fieldLink own idx "java/util/ArrayList" "DEFAULTCAPACITY_EMPTY_ELEMENTDATA" "[Ljava/lang/Object;" ∈ GT) (hd : decode cc pc = .ok (.getstatic idx, 3)) (kk : J p l e R s m args below meth c nL G ρ0 M0 rk res M (pc + 3) lv ((false, 2) :: st)) : J p l e R s m args below meth c nL G ρ0 M0 rk res M pc lv st := by
  intro ρ H locs ls hD hl h1 h2
  obtain ⟨⟨s1, s2, s3, s4⟩, ⟨a1, a2, a3, a4⟩, -⟩ := hD.2.1.2.2.2.2.2.2
  have h := kk ρ H locs ls hD hl h1 (oks.mk (okv.k (by omega)) h2)
  rw [List.map_cons, vl_pos (by decide), a2] at h
  exact va_gets F.1 F.2.1 F.2.2.2.2.2.1.2.2.1.1.1 hD.1 F.o (F.t hl0) (fun _ z => z) hd h
theorem okn {ρ : Int → Nat} {H : Heap} (h : MH G ρ M H) {x : Int} (hx : okv M (false, x)) : x = 0 ∨ 0 < x := by
  rcases hx rfl with e | e
  · exact Or.inl e
  · exact Or.inr (h.pos e).1
theorem j_ifnull (F : Fx p l R s m args meth c cc nL own G M0 d rt) {x off : Int} (tgt : Nat) (ht : (pc : Int) + off = (tgt : Int)) (hd : decode cc pc = .ok (.ifnull off, 3)) {A B : Option RS} (h : (if x = 0 then A else B) = some res) (kt : A = some res → J p l e R s m args below meth c nL G ρ0 M0 rk res M tgt lv st) (kf : B = some res → J p l e R s m args below meth c nL G ρ0 M0 rk res M (pc + 3) lv st) : J p l e R s m args below meth c nL G ρ0 M0 rk res M pc lv ((false, x) :: st) := by
  intro ρ H locs ls hD hl h1 h2
  rw [List.map_cons]
  rcases okn hD.2.1 h2.hd with rfl | hx
  · rw [vl_0]
    exact lv_ifnullN F.1 F.2.1 hd ht (kt ((if_pos rfl).symm.trans h) ρ H locs ls hD hl h1 h2.tl)
  · rw [vl_pos hx]
    exact lv_ifnull F.1 F.2.1 hd (kf ((if_neg (by omega)).symm.trans h) ρ H locs ls hD hl h1 h2.tl)
theorem j_ifnonnull (F : Fx p l R s m args meth c cc nL own G M0 d rt) {x off : Int} (tgt : Nat) (ht : (pc : Int) + off = (tgt : Int)) (hd : decode cc pc = .ok (.ifnonnull off, 3)) {A B : Option RS} (h : (if x = 0 then A else B) = some res) (kt : B = some res → J p l e R s m args below meth c nL G ρ0 M0 rk res M tgt lv st) (kf : A = some res → J p l e R s m args below meth c nL G ρ0 M0 rk res M (pc + 3) lv st) : J p l e R s m args below meth c nL G ρ0 M0 rk res M pc lv ((false, x) :: st) := by
  intro ρ H locs ls hD hl h1 h2
  rw [List.map_cons]
  rcases okn hD.2.1 h2.hd with rfl | hx
  · rw [vl_0]
    exact lv_ifnonnullN F.1 F.2.1 hd (kf ((if_pos rfl).symm.trans h) ρ H locs ls hD hl h1 h2.tl)
  · rw [vl_pos hx]
    exact lv_ifnonnull F.1 F.2.1 hd ht (kt ((if_neg (by omega)).symm.trans h) ρ H locs ls hD hl h1 h2.tl)
/-- two references are one: of ids that the addresses tell apart -/
def apt (M : Mo) (x y : Int) : Prop := x = y ∨ ((0 < kd M x ∧ kd M x < 200) ∧ kd M y ≠ 0 ∧ kd M y < 302) ∨ ((0 < kd M y ∧ kd M y < 200) ∧ kd M x ≠ 0 ∧ kd M x < 302)
theorem apt_eq {ρ : Int → Nat} {H : Heap} (h : MH G ρ M H) {x y : Int} (ha : apt M x y) : ro ρ x = ro ρ y ↔ x = y := by
  refine ⟨fun e => ?_, fun e => by rw [e]⟩
  rcases ha with ha | ⟨a, b, b'⟩ | ⟨a, b, b'⟩
  · exact ha
  · rw [ro_pos (h.pos (by omega)).1, ro_pos (h.pos b).1] at e
    exact h.2.1 x y (by omega) a.2 b b' (Option.some.inj e)
  · rw [ro_pos (h.pos (by omega)).1, ro_pos (h.pos (x := y) (by omega)).1] at e
    exact (h.2.1 y x (by omega) a.2 b b' (Option.some.inj e).symm).symm
theorem j_acmp_eq (F : Fx p l R s m args meth c cc nL own G M0 d rt) {x y off : Int} (tgt : Nat) (ha : apt M x y) (ht : (pc : Int) + off = (tgt : Int)) (hd : decode cc pc = .ok (.if_acmp .eq off, 3)) {A B : Option RS} (h : (if x = y then A else B) = some res) (kt : A = some res → J p l e R s m args below meth c nL G ρ0 M0 rk res M tgt lv st) (kf : B = some res → J p l e R s m args below meth c nL G ρ0 M0 rk res M (pc + 3) lv st) : J p l e R s m args below meth c nL G ρ0 M0 rk res M pc lv ((false, y) :: (false, x) :: st) := by
  intro ρ H locs ls hD hl h1 h2
  have hi := apt_eq hD.2.1 ha
  exact lv_acmp_eq F.1 F.2.1 hd ht (fun q => kt ((if_pos (hi.mp q)).symm.trans h) ρ H locs ls hD hl h1 h2.tl.tl) (fun q => kf ((if_neg (fun z => q (hi.mpr z))).symm.trans h) ρ H locs ls hD hl h1 h2.tl.tl)
theorem j_acmp_ne (F : Fx p l R s m args meth c cc nL own G M0 d rt) {x y off : Int} (tgt : Nat) (ha : apt M x y) (ht : (pc : Int) + off = (tgt : Int)) (hd : decode cc pc = .ok (.if_acmp .ne off, 3)) {A B : Option RS} (h : (if x = y then A else B) = some res) (kt : B = some res → J p l e R s m args below meth c nL G ρ0 M0 rk res M tgt lv st) (kf : A = some res → J p l e R s m args below meth c nL G ρ0 M0 rk res M (pc + 3) lv st) : J p l e R s m args below meth c nL G ρ0 M0 rk res M pc lv ((false, y) :: (false, x) :: st) := by
  intro ρ H locs ls hD hl h1 h2
  have hi := apt_eq hD.2.1 ha
  exact lv_acmp_ne F.1 F.2.1 hd ht (fun q => kt ((if_neg (fun z => q (hi.mpr z))).symm.trans h) ρ H locs ls hD hl h1 h2.tl.tl) (fun q => kf ((if_pos (hi.mp q)).symm.trans h) ρ H locs ls hD hl h1 h2.tl.tl)
theorem Fx.ml (F : Fx p l R s m args meth c cc nL own G M0 d rt) : c.maxLocals = nL := F.2.2.1
theorem j_max (F : Fx p l R s m args meth c cc nL own G M0 d rt) {idx : Nat} {a b : Int} (hw : Cond.methodLink own idx Lib.Math.max.name ∈ GT ∧ Cond.static Lib.Math.max.name ∈ GT ∧ Cond.initialized "java/lang/Math" ∈ GT ∧ Cond.code Lib.Math.max.name Lib.Math.max.code 2 (some .int) ∈ GT) (h1d : 1 ≤ d) (hst : st.length ≤ 20) (hd : decode cc pc = .ok (.invokestatic idx, 3)) (kk : J p l e R s m args below meth c nL G ρ0 M0 rk res M (pc + 3) lv ((true, mxx a b) :: st)) : J p l e R s m args below meth c nL G ρ0 M0 rk res M pc lv ((true, b) :: (true, a) :: st) := by
  intro ρ H locs ls hD hl h1 h2
  have h := kk ρ H locs ls hD hl h1 (oks.mk okv.i h2.tl.tl)
  have k0 := hD.2.2.1.2
  have k1 := hD.2.2.2.2
  refine va_mmax F.1 F.2.1 (F.ml.trans hl.1.symm) F.o (F.t hw.1) (F.t hw.2.1) (F.t hw.2.2.1) (F.t hw.2.2.2) (by rw [F.rm]; exact h1d) (by rw [F.rm, vl_cats]; show _ ≤ 45 * d; omega) (by rw [F.rm]; show _ ≤ CAPC - nc M0; omega) (by rw [F.rm]; show _ ≤ CAPS - ns M0; omega) hd ?_
  have e : (if iI a < iI b then iI b else iI a) = iI (mxx a b) := by
    unfold mxx
    by_cases z : wr a < wr b
    · rw [if_pos z, if_pos ((wr_lt a b).mpr z)]
    · rw [if_neg z, if_neg (fun q => z ((wr_lt a b).mp q))]
  rw [e]
  exact h
theorem j_min (F : Fx p l R s m args meth c cc nL own G M0 d rt) {idx : Nat} {a b : Int} (hw : Cond.methodLink own idx Lib.Math.min.name ∈ GT ∧ Cond.static Lib.Math.min.name ∈ GT ∧ Cond.initialized "java/lang/Math" ∈ GT ∧ Cond.code Lib.Math.min.name Lib.Math.min.code 2 (some .int) ∈ GT) (h1d : 1 ≤ d) (hst : st.length ≤ 20) (hd : decode cc pc = .ok (.invokestatic idx, 3)) (kk : J p l e R s m args below meth c nL G ρ0 M0 rk res M (pc + 3) lv ((true, mnn a b) :: st)) : J p l e R s m args below meth c nL G ρ0 M0 rk res M pc lv ((true, b) :: (true, a) :: st) := by
  intro ρ H locs ls hD hl h1 h2
  have h := kk ρ H locs ls hD hl h1 (oks.mk okv.i h2.tl.tl)
  have k0 := hD.2.2.1.2
  have k1 := hD.2.2.2.2
  refine va_mmin F.1 F.2.1 (F.ml.trans hl.1.symm) F.o (F.t hw.1) (F.t hw.2.1) (F.t hw.2.2.1) (F.t hw.2.2.2) (by rw [F.rm]; exact h1d) (by rw [F.rm, vl_cats]; show _ ≤ 45 * d; omega) (by rw [F.rm]; show _ ≤ CAPC - nc M0; omega) (by rw [F.rm]; show _ ≤ CAPS - ns M0; omega) hd ?_
  have e : (if iI b < iI a then iI b else iI a) = iI (mnn a b) := by
    unfold mnn
    by_cases z : wr b < wr a
    · rw [if_pos z, if_pos ((wr_lt b a).mpr z)]
    · rw [if_neg z, if_neg (fun q => z ((wr_lt b a).mp q))]
  rw [e]
  exact h
theorem j_objInit (F : Fx p l R s m args meth c cc nL own G M0 d rt) {idx : Nat} {x : Int} (hw : Cond.methodLink own idx Lib.objectInit ∈ GT ∧ Cond.instanceMethod Lib.objectInit ∈ GT ∧ Cond.code Lib.objectInit ⟨#[0xb1]⟩ 1 none ∈ GT) (hk : kd M x ≠ 0) (h1d : 1 ≤ d) (hst : st.length ≤ 20) (hd : decode cc pc = .ok (.invokespecial idx, 3)) (kk : J p l e R s m args below meth c nL G ρ0 M0 rk res M (pc + 3) lv st) : J p l e R s m args below meth c nL G ρ0 M0 rk res M pc lv ((false, x) :: st) := by
  intro ρ H locs ls hD hl h1 h2
  have h := kk ρ H locs ls hD hl h1 h2.tl
  rw [List.map_cons, vl_pos (hD.2.1.pos hk).1]
  exact W.objInit F.1 F.2.1 F.o (F.t hw.1) (F.t hw.2.1) (F.t hw.2.2) rfl (hl.1.trans F.ml.symm) rfl hd (by rw [F.rm]; exact h1d) (by rw [F.rm, vl_cats]; show 2 * 0 + _ + 12 ≤ 45 * d; omega) h
end JD
