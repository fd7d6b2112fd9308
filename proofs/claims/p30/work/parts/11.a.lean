/-! rows over arrays -/
section JA
variable {p : Program} {l : Launch} {e : Env} {R : Room} {s : State} {m : MethodId} {args : Array Value} {below : List Frame} {meth : Method} {c : Code}
variable {cc : ByteArray} {nL : Nat} {own : String} {G : Gt} {ρ0 : Int → Nat} {M0 : Mo} {d : Nat} {rt : Option FieldType} {rk : Nat} {res : RS}
variable {M : Mo} {pc : Nat} {lv : List (Nat × TV)} {st : List TV}
theorem wr_nat {z : Int} (h : 0 ≤ wr z) : (iI z).toNatClampNeg = (wr z).toNat := rfl
theorem wr_inl {z : Int} {n : Int} (h : 0 ≤ wr z ∧ wr z < n) : vp_in (iI z) n.toNat := wr_in h.1 (by omega)
theorem el_sE (t t' : Nat) (x k v x' k' : Int) : el (sE M t x k v) t' x' k' = if t' = t ∧ x' = x ∧ k' = k then v else el M t' x' k' := rfl
theorem kd_sE {t : Nat} {x k v y : Int} : kd (sE M t x k v) y = kd M y := rfl
theorem kle_sE {t : Nat} {x k v : Int} : kle M (sE M t x k v) := ⟨fun _ _ => ⟨rfl, rfl⟩, Nat.le_refl _, Nat.le_refl _⟩
theorem kle_cpE {t : Nat} {x sp y dp n : Int} : kle M (cpE M t x sp y dp n) := ⟨fun _ _ => ⟨rfl, rfl⟩, Nat.le_refl _, Nat.le_refl _⟩
/-- the other cells, when a place of an array changes -/
theorem vcell_el {ρ : Int → Nat} {M' : Mo} {t : Nat} {x y : Int} (h1 : M'.1 = M.1) (h2 : M'.2.1 = M.2.1) (h3 : M'.2.2.1 = M.2.2.1) (h4 : ∀ t' y k, ¬ (t' = t ∧ y = x) → M'.2.2.2.1 t' y k = M.2.2.2.1 t' y k) (hy : y ≠ x) : vcell G ρ M' y = vcell G ρ M y := by
  have e1 : kd M' y = kd M y := by unfold kd; rw [h1]
  have e2 : ln M' y = ln M y := by unfold ln; rw [h2]
  have e3 : ∀ t' k, el M' t' y k = el M t' y k := fun t' k => h4 t' y k (fun z => hy z.2)
  have e4 : ∀ c, flds ρ M' c y = flds ρ M c y := fun c => flds_congr (fun k b hb => by unfold fd; rw [h3])
  unfold vcell
  rw [e1, e2, e4]
  simp only [e3]
theorem MH_sE {ρ : Int → Nat} {H H1 : Heap} {t j : Nat} {e0 e' : va_E} {x k v : Int} (h : MH G ρ M H) (hk : kd M x = 100 + t) (ht : t < 90) (hx : vcell G ρ M x = some e0) (hj : (wsO G ρ M)[j]? = some (ρ x, e0)) (hP1 : va_P (gD G) vwCl ((wsO G ρ M).set j (ρ x, e')) H1) (he : vcell G ρ (sE M t x k v) x = some e') (hv : 10 ≤ t → okE M t v) (hch : t = 1 → fits .char (.int (iI v)) = true) : MH G ρ (sE M t x k v) H1 := by
  refine MH.set h hx hj hP1 rfl rfl rfl he ?_ ?_ ?_ ?_ ?_
  · intro y hy
    exact vcell_el (t := t) rfl rfl rfl (fun t' y' k' hn => if_neg (fun z => hn ⟨z.1, z.2.1⟩)) hy
  · intro c k2 y hc hl hb
    exact h.2.2.2.2.1 c k2 y hc hl hb
  · intro t2 k2 y hc h1 h2
    rw [el_sE]
    by_cases z : t2 = t ∧ y = x ∧ k2 = k
    · rw [if_pos z, z.1]
      exact hv (by omega)
    · rw [if_neg z]
      exact h.2.2.2.2.2.1 t2 k2 y hc h1 h2
  · intro k2
    rw [el_sE, if_neg (fun z => by omega)]
  · intro y k2 hy
    rw [el_sE]
    by_cases z : 1 = t ∧ y = x ∧ k2 = k
    · rw [if_pos z]
      exact hch z.1.symm
    · rw [if_neg z]
      exact (h.2.2.2.1 y).2 hy k2
theorem j_iaload (F : Fx p l R s m args meth c cc nL own G M0 d rt) {x z : Int} (hk : kd M x = 100 + 0) (hb : 0 ≤ wr z ∧ wr z < ln M x) (hd : decode cc pc = .ok (.iaload, 1)) (kk : J p l e R s m args below meth c nL G ρ0 M0 rk res M (pc + 1) lv ((true, el M 0 x (wr z)) :: st)) : J p l e R s m args below meth c nL G ρ0 M0 rk res M pc lv ((true, z) :: (false, x) :: st) := by
  intro ρ H locs ls hD hl h1 h2
  have h := kk ρ H locs ls hD hl h1 (oks.mk okv.i h2.tl.tl)
  have hx := hD.2.1.pos (x := x) (by rw [hk]; omega)
  rw [List.map_cons] at h
  rw [List.map_cons, List.map_cons, vl_pos hx.1]
  refine va_iald (D := gD G) (tys := tysG G) (ws := [(ρ x, .inl (gC G 0, (ln M x).toNat, .inl (fun k : Nat => iI (el M 0 x k))))]) F.1 F.2.1 F.K (hD.2.1.one (vcell_int hk (by decide))) 0 0 rfl rfl (wr_inl hb) hd ?_
  rw [wr_clamp z hb.1]
  exact h
theorem j_caload (F : Fx p l R s m args meth c cc nL own G M0 d rt) {x z : Int} (hk : kd M x = 100 + 1) (hb : 0 ≤ wr z ∧ wr z < ln M x) (hd : decode cc pc = .ok (.caload, 1)) (kk : J p l e R s m args below meth c nL G ρ0 M0 rk res M (pc + 1) lv ((true, el M 1 x (wr z)) :: st)) : J p l e R s m args below meth c nL G ρ0 M0 rk res M pc lv ((true, z) :: (false, x) :: st) := by
  intro ρ H locs ls hD hl h1 h2
  have h := kk ρ H locs ls hD hl h1 (oks.mk okv.i h2.tl.tl)
  have hx := hD.2.1.pos (x := x) (by rw [hk]; omega)
  rw [List.map_cons] at h
  rw [List.map_cons, List.map_cons, vl_pos hx.1]
  refine va_cald (D := gD G) (tys := tysG G) (ws := [(ρ x, .inl (gC G 1, (ln M x).toNat, .inl (fun k : Nat => iI (el M 1 x k))))]) F.1 F.2.1 F.K (hD.2.1.one (vcell_int hk (by decide))) 0 1 rfl rfl (wr_inl hb) hd ?_
  rw [wr_clamp z hb.1]
  exact h
theorem j_baload (F : Fx p l R s m args meth c cc nL own G M0 d rt) {x z : Int} (hk : kd M x = 100 + 2) (hb : 0 ≤ wr z ∧ wr z < ln M x) (hd : decode cc pc = .ok (.baload, 1)) (kk : J p l e R s m args below meth c nL G ρ0 M0 rk res M (pc + 1) lv ((true, el M 2 x (wr z)) :: st)) : J p l e R s m args below meth c nL G ρ0 M0 rk res M pc lv ((true, z) :: (false, x) :: st) := by
  intro ρ H locs ls hD hl h1 h2
  have h := kk ρ H locs ls hD hl h1 (oks.mk okv.i h2.tl.tl)
  have hx := hD.2.1.pos (x := x) (by rw [hk]; omega)
  rw [List.map_cons] at h
  rw [List.map_cons, List.map_cons, vl_pos hx.1]
  refine va_zald (D := gD G) (tys := tysG G) (ws := [(ρ x, .inl (gC G 2, (ln M x).toNat, .inl (fun k : Nat => iI (el M 2 x k))))]) F.1 F.2.1 F.K (hD.2.1.one (vcell_int hk (by decide))) 0 2 rfl rfl (wr_inl hb) hd ?_
  rw [wr_clamp z hb.1]
  exact h
theorem j_aaload (F : Fx p l R s m args meth c cc nL own G M0 d rt) {x z : Int} (t t0 : Nat) {C : String} (hk : kd M x = 100 + t) (h10 : 10 ≤ t ∧ t < 90) (ht : (tysG G)[t0]? = some (gC G t, .object C)) (hb : 0 ≤ wr z ∧ wr z < ln M x) (hd : decode cc pc = .ok (.aaload, 1)) (kk : J p l e R s m args below meth c nL G ρ0 M0 rk res M (pc + 1) lv ((false, el M t x (wr z)) :: st)) : J p l e R s m args below meth c nL G ρ0 M0 rk res M pc lv ((true, z) :: (false, x) :: st) := by
  intro ρ H locs ls hD hl h1 h2
  have hv : okv M (false, el M t x (wr z)) := fun _ => (hD.2.1.2.2.2.2.2.1 t (wr z) x hk h10.1 (by omega)).okr
  have h := kk ρ H locs ls hD hl h1 (oks.mk hv h2.tl.tl)
  have hx := hD.2.1.pos (x := x) (by rw [hk]; omega)
  rw [List.map_cons] at h
  rw [List.map_cons, List.map_cons, vl_pos hx.1]
  refine va_aldq (D := gD G) (tys := tysG G) (ws := [(ρ x, .inl (gC G t, (ln M x).toNat, .inr (.inr (.inr (.inr (fun k : Nat => ro ρ (el M t x k)))))))]) F.1 F.2.1 F.K (hD.2.1.one (vcell_ref hk h10.1 (by omega))) 0 t0 rfl ht (wr_inl hb) hd ?_
  rw [wr_clamp z hb.1]
  exact h
theorem upd_el {t : Nat} {x z v : Int} (hz : 0 ≤ wr z) : upd (fun k : Nat => iI (el M t x k)) (iI z).toNatClampNeg (iI v) = fun k : Nat => iI (el (sE M t x (wr z) v) t x k) := by
  funext k
  have hc := wr_clamp z hz
  unfold upd
  rw [el_sE]
  by_cases hk : k = (iI z).toNatClampNeg
  · rw [if_pos hk, if_pos ⟨rfl, rfl, by rw [hk]; exact hc⟩]
  · rw [if_neg hk, if_neg (fun q => hk (by omega))]
theorem nar_c {a : Int} : vp_nar .char (iI a) = iI (n16 a) := iI_of _
theorem nar_b {a : Int} : vp_nar .boolean (iI a) = iI (nB a) := iI_of _
theorem j_iastore (F : Fx p l R s m args meth c cc nL own G M0 d rt) {x z v : Int} (hk : kd M x = 100 + 0) (hb : 0 ≤ wr z ∧ wr z < ln M x) (hd : decode cc pc = .ok (.iastore, 1)) (kk : J p l e R s m args below meth c nL G ρ0 M0 rk res (sE M 0 x (wr z) (v)) (pc + 1) lv st) : J p l e R s m args below meth c nL G ρ0 M0 rk res M pc lv ((true, v) :: (true, z) :: (false, x) :: st) := by
  intro ρ H locs ls hD hl h1 h2
  have hx := hD.2.1.pos (x := x) (by rw [hk]; omega)
  have hv := vcell_int (G := G) (ρ := ρ) hk (by decide)
  obtain ⟨j, hj⟩ := hD.2.1.ix hv
  rw [List.map_cons, List.map_cons, List.map_cons, vl_pos hx.1]
  refine va_iast F.1 F.2.1 F.K hD.2.1.hP hD.2.1.hD hD.1 j 0 hj rfl (wr_inl hb) hd (fun H1 locs1 q1 q2 q3 => ?_)
  rw [upd_el hb.1] at q1
  exact kk ρ H1 locs1 ls (hD.new q3 (MH_sE hD.2.1 hk (by decide) hv hj q1 (vcell_int (M := sE M 0 x (wr z) (v)) hk (by decide)) (fun z => by omega) (fun z => by omega)) ext.rf kle_sE hD.2.2.2.2.1 hD.2.2.2.2.2) hl h1 h2.tl.tl.tl
theorem j_castore (F : Fx p l R s m args meth c cc nL own G M0 d rt) {x z v : Int} (hk : kd M x = 100 + 1) (hb : 0 ≤ wr z ∧ wr z < ln M x) (hch : fits .char (.int (iI (n16 v))) = true) (hd : decode cc pc = .ok (.castore, 1)) (kk : J p l e R s m args below meth c nL G ρ0 M0 rk res (sE M 1 x (wr z) (n16 v)) (pc + 1) lv st) : J p l e R s m args below meth c nL G ρ0 M0 rk res M pc lv ((true, v) :: (true, z) :: (false, x) :: st) := by
  intro ρ H locs ls hD hl h1 h2
  have hx := hD.2.1.pos (x := x) (by rw [hk]; omega)
  have hv := vcell_int (G := G) (ρ := ρ) hk (by decide)
  obtain ⟨j, hj⟩ := hD.2.1.ix hv
  rw [List.map_cons, List.map_cons, List.map_cons, vl_pos hx.1]
  refine va_cast F.1 F.2.1 F.K hD.2.1.hP hD.2.1.hD hD.1 j 1 hj rfl (wr_inl hb) hd (fun H1 locs1 q1 q2 q3 => ?_)
  rw [nar_c, upd_el hb.1] at q1
  exact kk ρ H1 locs1 ls (hD.new q3 (MH_sE hD.2.1 hk (by decide) hv hj q1 (vcell_int (M := sE M 1 x (wr z) (n16 v)) hk (by decide)) (fun z => by omega) (fun _ => hch)) ext.rf kle_sE hD.2.2.2.2.1 hD.2.2.2.2.2) hl h1 h2.tl.tl.tl
theorem j_bastore (F : Fx p l R s m args meth c cc nL own G M0 d rt) {x z v : Int} (hk : kd M x = 100 + 2) (hb : 0 ≤ wr z ∧ wr z < ln M x) (hd : decode cc pc = .ok (.bastore, 1)) (kk : J p l e R s m args below meth c nL G ρ0 M0 rk res (sE M 2 x (wr z) (nB v)) (pc + 1) lv st) : J p l e R s m args below meth c nL G ρ0 M0 rk res M pc lv ((true, v) :: (true, z) :: (false, x) :: st) := by
  intro ρ H locs ls hD hl h1 h2
  have hx := hD.2.1.pos (x := x) (by rw [hk]; omega)
  have hv := vcell_int (G := G) (ρ := ρ) hk (by decide)
  obtain ⟨j, hj⟩ := hD.2.1.ix hv
  rw [List.map_cons, List.map_cons, List.map_cons, vl_pos hx.1]
  refine va_zast F.1 F.2.1 F.K hD.2.1.hP hD.2.1.hD hD.1 j 2 hj rfl (wr_inl hb) hd (fun H1 locs1 q1 q2 q3 => ?_)
  rw [nar_b, upd_el hb.1] at q1
  exact kk ρ H1 locs1 ls (hD.new q3 (MH_sE hD.2.1 hk (by decide) hv hj q1 (vcell_int (M := sE M 2 x (wr z) (nB v)) hk (by decide)) (fun z => by omega) (fun z => by omega)) ext.rf kle_sE hD.2.2.2.2.1 hD.2.2.2.2.2) hl h1 h2.tl.tl.tl
theorem va_up_el {ρ : Int → Nat} {t : Nat} {x z v : Int} (hz : 0 ≤ wr z) : va_up (fun k : Nat => ro ρ (el M t x k)) (iI z).toNatClampNeg (ro ρ v) = fun k : Nat => ro ρ (el (sE M t x (wr z) v) t x k) := by
  funext k
  have hc := wr_clamp z hz
  unfold va_up
  rw [el_sE]
  by_cases hk : k = (iI z).toNatClampNeg
  · rw [if_pos hk, if_pos ⟨rfl, rfl, by rw [hk]; exact hc⟩]
  · rw [if_neg hk, if_neg (fun q => hk (by omega))]
theorem j_aastore (F : Fx p l R s m args meth c cc nL own G M0 d rt) {x z v : Int} (t t0 ci : Nat) {C : String} {T : u_T} {N : Nat} (hk : kd M x = 100 + t) (h10 : 10 ≤ t ∧ t < 90) (ht : (tysG G)[t0]? = some (gC G t, .object C)) (hc : vwCl[ci]? = some (C, T, N)) (hci : ci < 99) (hoc : okc t (ci + 1) = true) (hb : 0 ≤ wr z ∧ wr z < ln M x) (hv : v = 0 ∨ kd M v = ci + 1) (hd : decode cc pc = .ok (.aastore, 1)) (kk : J p l e R s m args below meth c nL G ρ0 M0 rk res (sE M t x (wr z) v) (pc + 1) lv st) : J p l e R s m args below meth c nL G ρ0 M0 rk res M pc lv ((false, v) :: (true, z) :: (false, x) :: st) := by
  intro ρ H locs ls hD hl h1 h2
  have hx := hD.2.1.pos (x := x) (by rw [hk]; omega)
  have hvc := vcell_ref (G := G) (ρ := ρ) hk h10.1 (by omega)
  obtain ⟨j, hj⟩ := hD.2.1.ix hvc
  have hokE : okE M t v := by
    rcases hv with hv | hv
    · exact Or.inl hv
    · exact Or.inr (by rw [hv]; exact hoc)
  rw [List.map_cons, List.map_cons, List.map_cons, vl_pos hx.1]
  have fin : ∀ (H1 : Heap) (locs1 : List Loc), va_P (gD G) vwCl ((wsO G ρ M).set j (ρ x, .inl (gC G t, (ln M x).toNat, .inr (.inr (.inr (.inr (va_up (fun k : Nat => ro ρ (el M t x k)) (iI z).toNatClampNeg (ro ρ v)))))))) H1 → va_S (gA G) s.heap H1 locs1 → W p l e R s m args below meth c H1 locs1 (nc M - nc M0) (ns M - ns M0) (vx_MQ below (QK G ρ0 M0 rk res) (XK G ρ0 M0 res) args s (nc res.2.2 - nc M0) (ns res.2.2 - ns M0) (gA G)) (F0 m (pc + 1) ls (st.map (vl ρ))) := by
    intro H1 locs1 q1 q3
    rw [va_up_el hb.1] at q1
    exact kk ρ H1 locs1 ls (hD.new q3 (MH_sE hD.2.1 hk (by omega) hvc hj q1 (vcell_ref (M := sE M t x (wr z) v) hk h10.1 (by omega)) (fun _ => hokE) (fun z => by omega)) ext.rf kle_sE hD.2.2.2.2.1 hD.2.2.2.2.2) hl h1 h2.tl.tl.tl
  rcases hv with rfl | hv
  · rw [vl_0]
    refine va_astqN F.1 F.2.1 F.K hD.2.1.hP hD.2.1.hD hD.1 j t0 hj ht (wr_inl hb) hd (fun H1 locs1 q1 q2 q3 => fin H1 locs1 ?_ q3)
    rw [ro_0]
    exact q1
  · have hp := hD.2.1.px hv
    obtain ⟨jv, hjv⟩ := hD.2.1.ix (vcell_obj (G := G) (ρ := ρ) hv hci)
    rw [vl_pos hp]
    refine va_astq F.1 F.2.1 F.K hD.2.1.hP hD.2.1.hD hD.1 j t0 jv ci hj ht hjv hc (wr_inl hb) hd (fun H1 locs1 q1 q2 q3 => fin H1 locs1 ?_ q3)
    rw [ro_pos hp]
    exact q1
theorem okO {k : Nat} (h : okc 10 k = true) : k = 2 ∨ k = 8 ∨ k = 10 ∨ k = 11 := by
  unfold okc at h
  simp only [Bool.or_eq_true, beq_iff_eq] at h
  omega
/-- a thing that may lie in an Object row -/
theorem anyO (F : Fx p l R s m args meth c cc nL own G M0 d rt) (hw : ∀ ci C T N, vwCl[ci]? = some (C, T, N) → okc 10 (ci + 1) = true → Cond.castable C "java/lang/Object" ∈ GT) {ρ : Int → Nat} {H : Heap} {locs : List Loc} (hD : Dn G ρ0 M0 s ρ M H locs) {v : Int} (h : okc 10 (kd M v) = true) : va_Any "java/lang/Object" s H (ρ v) := by
  obtain ⟨ci, C, T, N, h1, h2, h3⟩ : ∃ ci C T N, kd M v = ci + 1 ∧ ci < 99 ∧ vwCl[ci]? = some (C, T, N) := by
    rcases okO h with e | e | e | e
    · exact ⟨1, _, _, _, e, by decide, rfl⟩
    · exact ⟨7, _, _, _, e, by decide, rfl⟩
    · exact ⟨9, _, _, _, e, by decide, rfl⟩
    · exact ⟨10, _, _, _, e, by decide, rfl⟩
  have hcw := F.t (hw ci C T N h3 (by rw [← h1]; exact h))
  refine va_rAny (E := "java/lang/Object") F.K (hD.2.1.one (vcell_obj h1 h2)) (q0 := 0) rfl h3 (fun comp c0 g1 g2 => ?_)
  obtain ⟨c1, t1, f1, f2, f3⟩ := Cond.castable_spec hcw
  cases Option.some.inj (f1.symm.trans g2)
  cases Option.some.inj (f2.symm.trans g1)
  exact f3
theorem j_aastoreO (F : Fx p l R s m args meth c cc nL own G M0 d rt) {x z v : Int} (hw : ∀ ci C T N, vwCl[ci]? = some (C, T, N) → okc 10 (ci + 1) = true → Cond.castable C "java/lang/Object" ∈ GT) (hk : kd M x = 100 + 10) (hb : 0 ≤ wr z ∧ wr z < ln M x) (hv : okE M 10 v) (hd : decode cc pc = .ok (.aastore, 1)) (kk : J p l e R s m args below meth c nL G ρ0 M0 rk res (sE M 10 x (wr z) v) (pc + 1) lv st) : J p l e R s m args below meth c nL G ρ0 M0 rk res M pc lv ((false, v) :: (true, z) :: (false, x) :: st) := by
  intro ρ H locs ls hD hl h1 h2
  have hx := hD.2.1.pos (x := x) (by rw [hk]; omega)
  have hvc := vcell_ref (G := G) (ρ := ρ) hk (by decide) (by decide)
  obtain ⟨j, hj⟩ := hD.2.1.ix hvc
  rw [List.map_cons, List.map_cons, List.map_cons, vl_pos hx.1]
  have fin : ∀ (H1 : Heap) (locs1 : List Loc), va_P (gD G) vwCl ((wsO G ρ M).set j (ρ x, .inl (gC G 10, (ln M x).toNat, .inr (.inr (.inr (.inr (va_up (fun k : Nat => ro ρ (el M 10 x k)) (iI z).toNatClampNeg (ro ρ v)))))))) H1 → va_S (gA G) s.heap H1 locs1 → W p l e R s m args below meth c H1 locs1 (nc M - nc M0) (ns M - ns M0) (vx_MQ below (QK G ρ0 M0 rk res) (XK G ρ0 M0 res) args s (nc res.2.2 - nc M0) (ns res.2.2 - ns M0) (gA G)) (F0 m (pc + 1) ls (st.map (vl ρ))) := by
    intro H1 locs1 q1 q3
    rw [va_up_el hb.1] at q1
    exact kk ρ H1 locs1 ls (hD.new q3 (MH_sE hD.2.1 hk (by omega) hvc hj q1 (vcell_ref (M := sE M 10 x (wr z) v) hk (by decide) (by decide)) (fun _ => hv) (fun z => by omega)) ext.rf kle_sE hD.2.2.2.2.1 hD.2.2.2.2.2) hl h1 h2.tl.tl.tl
  rcases hv with rfl | hv2
  · rw [vl_0]
    refine va_astqN F.1 F.2.1 F.K hD.2.1.hP hD.2.1.hD hD.1 j 3 hj rfl (wr_inl hb) hd (fun H1 locs1 q1 q2 q3 => fin H1 locs1 ?_ q3)
    rw [ro_0]
    exact q1
  · have hp : 0 < v := (hD.2.1.pos (x := v) (fun e => by rw [e, okc_0] at hv2; cases hv2)).1
    rw [vl_pos hp]
    refine va_astqM F.1 F.2.1 F.K hD.2.1.hP hD.2.1.hD hD.1 j 3 hj rfl (anyO F hw hD hv2) (wr_inl hb) hd (fun H1 locs1 q1 q2 q3 => fin H1 locs1 ?_ q3)
    rw [ro_pos hp]
    exact q1
end JA
