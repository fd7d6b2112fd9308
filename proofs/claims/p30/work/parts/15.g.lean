/-! natives, ends, calls -/
section JG
variable {p : Program} {l : Launch} {e : Env} {R : Room} {s : State} {m : MethodId} {args : Array Value} {below : List Frame} {meth : Method} {c : Code}
variable {cc : ByteArray} {nL : Nat} {own : String} {G : Gt} {ρ0 : Int → Nat} {M0 : Mo} {d : Nat} {rt : Option FieldType} {rk : Nat} {res : RS}
variable {M : Mo} {pc : Nat} {lv : List (Nat × TV)} {st : List TV}
theorem kd_nK {t : Nat} {x : Int} : kd (nK M t x) (nid M) = 100 + t := if_pos rfl
theorem ln_nK {t : Nat} {x : Int} : ln (nK M t x) (nid M) = ln M x := if_pos rfl
theorem el_nK {t : Nat} {x k : Int} : el (nK M t x) t (nid M) k = el M t x k := (if_pos rfl).trans (if_pos rfl)
theorem j_clone (F : Fx p l R s m args meth c cc nL own G M0 d rt) {idx : Nat} {x : Int} (hw : Cond.methodLink own idx ⟨"[I", "clone", "()Ljava/lang/Object;"⟩ ∈ GT ∧ Cond.sameMethod "[I" "java/lang/Object" "clone" "()Ljava/lang/Object;" ∈ GT ∧ Cond.native ⟨"java/lang/Object", "clone", "()Ljava/lang/Object;"⟩ ∈ GT ∧ Cond.instanceMethod ⟨"java/lang/Object", "clone", "()Ljava/lang/Object;"⟩ ∈ GT ∧ Cond.selects "[I" ⟨"[I", "clone", "()Ljava/lang/Object;"⟩ ⟨"java/lang/Object", "clone", "()Ljava/lang/Object;"⟩ ∈ GT ∧ Cond.castable "[I" "java/lang/Cloneable" ∈ GT) (hk : kd M x = 100 + 0) (h1d : 1 ≤ d) (hst : st.length ≤ 8) (hroom : nc M + 1 ≤ CAPC ∧ ns M + (ln M x).toNat ≤ CAPS) (hd : decode cc pc = .ok (.invokevirtual idx, 3)) (kk : kle M (nK M 0 x) → J p l e R s m args below meth c nL G ρ0 M0 rk res (nK M 0 x) (pc + 3) lv ((false, nid M) :: st)) : J p l e R s m args below meth c nL G ρ0 M0 rk res M pc lv ((false, x) :: st) := by
  intro ρ H locs ls hD hl h1 h2
  have k0 := hD.2.2.1.2
  have hx := vcell_int (G := G) (ρ := ρ) hk (by decide)
  obtain ⟨jx, hjx⟩ := hD.2.1.ix hx
  rw [List.map_cons, vl_pos (hD.2.1.pos (x := x) (by omega)).1]
  refine va_clone F.1 F.2.1 (F.ml.trans hl.1.symm) F.o (F.t hw.1) (F.t hw.2.1) (F.t hw.2.2.1) (F.t hw.2.2.2.1) (F.t hw.2.2.2.2.1) (va_Nw.of rfl (F.t hw.2.2.2.2.2)) F.K hD.2.1.hP hD.2.1.hD hD.1 (fun q hq => Nat.le_trans F.ba hq) jx 0 hjx rfl (F.K.2 0 _ rfl).2 (fun i v hv => ?_) (by rw [F.rm]; exact h1d) (by rw [F.rm, vl_cats]; show _ ≤ 45 * d; omega) (by rw [F.rm]; show _ ≤ CAPC - nc M0; omega) (by rw [F.rm]; show _ ≤ CAPS - ns M0; omega) hd (fun q H1 q0 q1 q2 q3 => ?_)
  · rw [vp_cell_i] at hv
    have hlt := (Array.getElem?_eq_some_iff.mp hv).1
    rw [arrV_size] at hlt
    rw [arrV_read _ _ hlt] at hv
    cases hv
    rfl
  have hv : vcell G (rup ρ (nid M) q) (nK M 0 x) (nid M) = some (.inl (gC G 0, (ln M x).toNat, .inl (fun k : Nat => iI (el M 0 x k)))) := by
    rw [vcell_int kd_nK (by decide), ln_nK]
    simp only [el_nK]
  obtain ⟨m1, m2, m3⟩ := hD.2.1.new (M' := nK M 0 x) (K := 100 + 0) q1 q2 ⟨by omega, by omega⟩ rfl (fun y hy => if_neg hy) (by rw [show (nK M 0 x).2.1 (nid M) = ln M x from ln_nK]; exact (hD.2.1.2.2.2.1 x).1) rfl (Nat.le_add_right _ _) (fun c k y hy => rfl) (fun t y k hy => if_neg hy) hv (fun c k h _ _ => by omega) (fun t k h _ _ => by omega) (fun h k => by omega)
  have hle := m3
  have e1 : nc (nK M 0 x) - nc M0 = nc M - nc M0 + 1 := by show nc M + 1 - nc M0 = _; omega
  have e2 : ns (nK M 0 x) - ns M0 = ns M - ns M0 + (ln M x).toNat := by show ns M + (ln M x).toNat - ns M0 = _; omega
  have h := kk m3 _ H1 locs ls (hD.new q3 m1 m2 m3 hroom.1 hroom.2) (by rw [lvm_ext m2 h1]; exact hl) (h1.up m3) (oks.mk (okv.k (by rw [kd_nK]; omega)) (h2.tl.up m3))
  rw [e1, e2, List.map_cons, vl_pos (by unfold nid; omega), rup_self, oks_ext m2 h2.tl] at h
  exact h
theorem j_getC (F : Fx p l R s m args meth c cc nL own G M0 d rt) {idx : Nat} {x : Int} (hw : Cond.methodLink own idx ⟨"java/lang/Object", "getClass", "()Ljava/lang/Class;"⟩ ∈ GT ∧ Cond.selects "[Ljava/lang/Object;" ⟨"java/lang/Object", "getClass", "()Ljava/lang/Class;"⟩ ⟨"java/lang/Object", "getClass", "()Ljava/lang/Class;"⟩ ∈ GT ∧ Cond.instanceMethod ⟨"java/lang/Object", "getClass", "()Ljava/lang/Class;"⟩ ∈ GT ∧ Cond.native ⟨"java/lang/Object", "getClass", "()Ljava/lang/Class;"⟩ ∈ GT) (hk : kd M x = 100 + 10) (h1d : 1 ≤ d) (hst : st.length ≤ 8) (hd : decode cc pc = .ok (.invokevirtual idx, 3)) (kk : J p l e R s m args below meth c nL G ρ0 M0 rk res M (pc + 3) lv ((false, 4) :: st)) : J p l e R s m args below meth c nL G ρ0 M0 rk res M pc lv ((false, x) :: st) := by
  intro ρ H locs ls hD hl h1 h2
  obtain ⟨⟨s1, s2, s3, s4⟩, ⟨a1, a2, a3, a4⟩, -⟩ := hD.2.1.2.2.2.2.2.2
  have h := kk ρ H locs ls hD hl h1 (oks.mk (okv.k (by omega)) h2.tl)
  rw [List.map_cons, vl_pos (by decide), a4] at h
  rw [List.map_cons, vl_pos (hD.2.1.pos (x := x) (by omega)).1]
  have hc : H[ρ x]? = some (vp_cell (gC G 10) ((ln M x).toNat, .inr (.inr (.inr (.inr (fun k : Nat => ro ρ (el M 10 x k))))))) := (hD.2.1.2.2.1 x _ (vcell_ref (G := G) (ρ := ρ) hk (by decide) (by decide))).1
  exact va_getC F.1 F.2.1 (F.ml.trans hl.1.symm) F.o (F.t hw.1) (F.2.2.2.2.2.1.2.2.2.2.1.use) (F.t hw.2.1) (F.t hw.2.2.1) (F.t hw.2.2.2) F.2.2.2.2.2.1.2.2.2.1 ⟨_, hc, rfl, va_nmO (F.K.2 3 _ rfl).2 rfl⟩ (by rw [F.rm]; exact h1d) (by rw [F.rm, vl_cats]; show _ ≤ 45 * d; omega) hd h
theorem j_ldcM (F : Fx p l R s m args meth c cc nL own G M0 d rt) {idx : Nat} (hcl : Cond.classLink own idx "[Ljava/lang/Object;" ∈ GT) (hd : decode cc pc = .ok (.ldc idx, 2)) (kk : J p l e R s m args below meth c nL G ρ0 M0 rk res M (pc + 2) lv ((false, 4) :: st)) : J p l e R s m args below meth c nL G ρ0 M0 rk res M pc lv st := by
  intro ρ H locs ls hD hl h1 h2
  obtain ⟨⟨s1, s2, s3, s4⟩, ⟨a1, a2, a3, a4⟩, -⟩ := hD.2.1.2.2.2.2.2.2
  have h := kk ρ H locs ls hD hl h1 (oks.mk (okv.k (by omega)) h2)
  rw [List.map_cons, vl_pos (by decide), a4] at h
  exact va_ldcM F.1 F.2.1 F.o (F.t hcl) F.2.2.2.2.2.1.2.2.2.1 hd h
theorem j_tableIn (F : Fx p l R s m args meth c cc nL own G M0 d rt) {dflt lo hi : Int} {offs : Array Int} {len : Nat} {x off : Int} (tgt : Nat) (hx : lo ≤ wr x ∧ wr x ≤ hi) (ho : offs[(wr x - lo).toNat]? = some off) (ht : (pc : Int) + off = (tgt : Int)) (hd : decode cc pc = .ok (.tableswitch dflt lo hi offs, len)) (kk : J p l e R s m args below meth c nL G ρ0 M0 rk res M tgt lv st) : J p l e R s m args below meth c nL G ρ0 M0 rk res M pc lv ((true, x) :: st) :=
  fun ρ H locs ls hD hl h1 h2 => lv_tableIn F.1 F.2.1 hd (Int.not_lt.mpr hx.1) (Int.not_lt.mpr hx.2) ho ht (kk ρ H locs ls hD hl h1 h2.tl)
theorem j_tableOut (F : Fx p l R s m args meth c cc nL own G M0 d rt) {dflt lo hi : Int} {offs : Array Int} {len : Nat} {x : Int} (tgt : Nat) (hx : wr x < lo ∨ hi < wr x) (ht : (pc : Int) + dflt = (tgt : Int)) (hd : decode cc pc = .ok (.tableswitch dflt lo hi offs, len)) (kk : J p l e R s m args below meth c nL G ρ0 M0 rk res M tgt lv st) : J p l e R s m args below meth c nL G ρ0 M0 rk res M pc lv ((true, x) :: st) :=
  fun ρ H locs ls hD hl h1 h2 => lv_tableOut F.1 F.2.1 hd hx ht (kk ρ H locs ls hD hl h1 h2.tl)
theorem Fx.lk (F : Fx p l R s m args meth c cc nL own G M0 d rt) : meth.locks = false := F.2.2.2.2.2.2.2.1
theorem Fx.rty (F : Fx p l R s m args meth c cc nL own G M0 d rt) : meth.sig.returnType = rt := F.2.2.2.2.2.2.2.2.1
theorem Fx.ht (F : Fx p l R s m args meth c cc nL own G M0 d rt) : l.stackTraces = false := F.2.2.2.2.2.2.2.2.2.1
theorem Dn.qk {s : State} {ρ : Int → Nat} {H : Heap} {locs : List Loc} (h : Dn G ρ0 M0 s ρ M H locs) {a : Array Value} {v : Int} (hv : rk = 2 → okr M v) {t : State} (ht : t.heap = H) : QK G ρ0 M0 rk (0, v, M) a s (.returned (retv ρ rk v)) t :=
  ⟨rfl, ρ, rfl, ⟨by rw [ht]; exact h.2.1, h.2.2.2.1, h.2.2.1, h.2.2.2.2.1, h.2.2.2.2.2⟩, hv, h.1.F ht⟩
theorem j_iret (F : Fx p l R s m args meth c cc nL own G M0 d (some .int)) {v : Int} (h : some (0, v, M) = some res) (hd : decode cc pc = .ok (.ireturn, 1)) : J p l e R s m args below meth c nL G ρ0 M0 1 res M pc lv [(true, v)] := by
  obtain rfl := Option.some.inj h
  exact fun ρ H locs ls hD hl h1 h2 => vx_ret (W.iret F.1 F.2.1 F.rty (fun t ht hW => hD.qk (fun z => by cases z) ht) hD.1.2.2 hd F.lk)
theorem j_zret {ty : FieldType} (F : Fx p l R s m args meth c cc nL own G M0 d (some ty)) {v : Int} (hn : narrow ty (.int (iI v)) = .int (iI v)) (h : some (0, v, M) = some res) (hd : decode cc pc = .ok (.ireturn, 1)) : J p l e R s m args below meth c nL G ρ0 M0 1 res M pc lv [(true, v)] := by
  obtain rfl := Option.some.inj h
  exact fun ρ H locs ls hD hl h1 h2 => vx_ret (W.zret F.1 F.2.1 F.rty hn (fun t ht hW => hD.qk (fun z => by cases z) ht) hD.1.2.2 hd F.lk)
theorem j_vret (F : Fx p l R s m args meth c cc nL own G M0 d none) {v : Int} (h : some (0, v, M) = some res) (hd : decode cc pc = .ok (.return_, 1)) : J p l e R s m args below meth c nL G ρ0 M0 0 res M pc lv [] := by
  obtain rfl := Option.some.inj h
  exact fun ρ H locs ls hD hl h1 h2 => vx_ret (W.vret F.1 F.2.1 F.rty (fun t ht hW => hD.qk (rk := 0) (fun z => by cases z) ht) hD.1.2.2 hd F.lk)
theorem j_aret {ty : FieldType} (F : Fx p l R s m args meth c cc nL own G M0 d (some ty)) (hty : (∃ n, ty = .object n) ∨ ∃ t, ty = .array t) {v : Int} (h : some (0, v, M) = some res) (hd : decode cc pc = .ok (.areturn, 1)) : J p l e R s m args below meth c nL G ρ0 M0 2 res M pc lv [(false, v)] := by
  obtain rfl := Option.some.inj h
  exact fun ρ H locs ls hD hl h1 h2 => vx_ret (W.aret F.1 F.2.1 F.rty hty (va_rf_or _) (fun t ht hW => hD.qk (rk := 2) (fun _ => h2.hd rfl) ht) hD.1.2.2 hd F.lk)
theorem MH_nX {ρ : Int → Nat} {H : Heap} (h : MH G ρ M H) : MH G ρ (nX M) H := by
  obtain ⟨m1, m2, m3, m4⟩ := h
  refine ⟨fun x hx => ⟨⟨(m1 x hx).1.1, ?_⟩, (m1 x hx).2⟩, m2, m3, m4⟩
  have h1 := (m1 x hx).1.2
  have h2 : nid (nX M) = nid M + 1 := by
    show ((nc M + 1 : Nat) : Int) + 10 = (nc M : Int) + 10 + 1
    omega
  omega
theorem kle_nX : kle M (nX M) := ⟨fun _ _ => ⟨rfl, rfl⟩, Nat.le_add_right _ _, Nat.le_add_right _ _⟩
theorem j_throw (F : Fx p l R s m args meth c cc nL own G M0 d rt) (hno : ∀ x ∈ c.exceptionTable.toList, False) {cls text : String} {ik is ic : Nat} {ex : Int} (hown0 : own = "ToolPlex") (hcls : Bundle.fit cls = true) (hk : Cond.classLink own ik cls ∈ GT) (hini : Cond.initialized cls ∈ GT) (hstr : (is, text) ∈ strs) (hat : ∀ w ∈ vx_atS own ic cls ["java/lang/RuntimeException", "java/lang/Exception"], w ∈ GT) (hgood : ∀ w ∈ Cond.classLink own ik cls :: Cond.initialized cls :: vx_atS own ic cls ["java/lang/RuntimeException", "java/lang/Exception"], vx_ot w = true) (h6d : 6 ≤ d) (hst : st.length ≤ 20) (hex : exN ex = cls) (hex0 : ex ≠ 0) (hroom : nc M + 1 ≤ CAPC ∧ ns M + 6 ≤ CAPS) (h : some (ex, 0, nX M) = some res)
    (d0 : decode cc pc = .ok (.new ik, 3)) (d3 : decode cc (pc + 3) = .ok (.dup, 1)) (d4 : decode cc (pc + 4) = .ok (.ldc is, 2)) (d6 : decode cc (pc + 6) = .ok (.invokespecial ic, 3)) (d9 : decode cc (pc + 9) = .ok (.athrow, 1)) : J p l e R s m args below meth c nL G ρ0 M0 rk res M pc lv st := by
  obtain rfl := Option.some.inj h
  subst hown0
  intro ρ H locs ls hD hl h1 h2
  obtain ⟨sa, hsa⟩ := F.2.2.2.2.2.1.2.1 (is, text) hstr
  have k0 := hD.2.2.1.2
  refine vx_throwS (A := gA G) F.1 F.2.1 F.ht F.o hcls (by decide +kernel) (F.t hk) (F.t hini) hsa (fun w hw => F.t (hat w hw)) hgood F.2.2.2.2.2.1.2.2.1.2.2.1 F.2.2.2.2.2.1.2.2.1.2.2.2.1 hD.1 (hl.1.trans F.ml.symm) d0 d3 d4 d6 d9 (fun x hx => (hno x hx).elim) (by rw [F.rm]; show 2 + 3 < d; omega) (by rw [F.rm, vl_cats]; show _ ≤ 45 * d; have : (["java/lang/RuntimeException", "java/lang/Exception"] : List String).length = 2 := rfl; omega) (by rw [F.rm]; show _ ≤ CAPC - nc M0; omega) (by rw [F.rm]; show _ ≤ CAPS - ns M0; omega) F.lk (fun t hvm hz hk2 => ?_) hD.1.2.2 (by show _ ≤ nc M + 1 - nc M0; omega) (by show _ ≤ ns M + 6 - ns M0; omega)
  refine ⟨hex0, hex.symm, ρ, ⟨MH_nX (hD.2.1.kept hk2), hD.2.2.2.1, hD.2.2.1.tr kle_nX, hroom.1, hroom.2⟩, ⟨Nat.le_trans hD.1.1 hz, fun q g1 g2 => ?_⟩⟩
  rw [hk2 q (Nat.lt_of_lt_of_le g1 hD.1.1)]
  exact hD.1.2.1 q g1 g2
theorem j_throwW (F : Fx p l R s m args meth c cc nL own G M0 d rt) (hno : ∀ x ∈ c.exceptionTable.toList, False) {cls text : String} {ik is ic : Nat} {ex : Int} (hown0 : own = "ToolPlex") (hcls : Bundle.fit cls = true) (hk : Cond.classLink own ik cls ∈ GT) (hini : Cond.initialized cls ∈ GT) (hstr : (is, text) ∈ strs) (hat : ∀ w ∈ vx_atS own ic cls ["java/lang/RuntimeException", "java/lang/Exception"], w ∈ GT) (hgood : ∀ w ∈ Cond.classLink own ik cls :: Cond.initialized cls :: vx_atS own ic cls ["java/lang/RuntimeException", "java/lang/Exception"], vx_ot w = true) (h6d : 6 ≤ d) (hst : st.length ≤ 20) (hex : exN ex = cls) (hex0 : ex ≠ 0) (hroom : nc M + 1 ≤ CAPC ∧ ns M + 6 ≤ CAPS) (h : some (ex, 0, nX M) = some res)
    (d0 : decode cc pc = .ok (.new ik, 3)) (d3 : decode cc (pc + 3) = .ok (.dup, 1)) (d4 : decode cc (pc + 4) = .ok (.ldc_w is, 3)) (d6 : decode cc (pc + 7) = .ok (.invokespecial ic, 3)) (d9 : decode cc (pc + 10) = .ok (.athrow, 1)) : J p l e R s m args below meth c nL G ρ0 M0 rk res M pc lv st := by
  obtain rfl := Option.some.inj h
  subst hown0
  intro ρ H locs ls hD hl h1 h2
  obtain ⟨sa, hsa⟩ := F.2.2.2.2.2.1.2.1 (is, text) hstr
  have k0 := hD.2.2.1.2
  refine vx_throwSW (A := gA G) F.1 F.2.1 F.ht F.o hcls (by decide +kernel) (F.t hk) (F.t hini) hsa (fun w hw => F.t (hat w hw)) hgood F.2.2.2.2.2.1.2.2.1.2.2.1 F.2.2.2.2.2.1.2.2.1.2.2.2.1 hD.1 (hl.1.trans F.ml.symm) d0 d3 d4 d6 d9 (fun x hx => (hno x hx).elim) (by rw [F.rm]; show 2 + 3 < d; omega) (by rw [F.rm, vl_cats]; show _ ≤ 45 * d; have : (["java/lang/RuntimeException", "java/lang/Exception"] : List String).length = 2 := rfl; omega) (by rw [F.rm]; show _ ≤ CAPC - nc M0; omega) (by rw [F.rm]; show _ ≤ CAPS - ns M0; omega) F.lk (fun t hvm hz hk2 => ?_) hD.1.2.2 (by show _ ≤ nc M + 1 - nc M0; omega) (by show _ ≤ ns M + 6 - ns M0; omega)
  refine ⟨hex0, hex.symm, ρ, ⟨MH_nX (hD.2.1.kept hk2), hD.2.2.2.1, hD.2.2.1.tr kle_nX, hroom.1, hroom.2⟩, ⟨Nat.le_trans hD.1.1 hz, fun q g1 g2 => ?_⟩⟩
  rw [hk2 q (Nat.lt_of_lt_of_le g1 hD.1.1)]
  exact hD.1.2.1 q g1 g2
end JG
