/-! calls -/
section JK
variable {p : Program} {l : Launch} {e : Env} {R : Room} {s : State} {m : MethodId} {args : Array Value} {below : List Frame} {meth : Method} {c : Code}
variable {cc : ByteArray} {nL : Nat} {own : String} {G : Gt} {ρ0 : Int → Nat} {M0 : Mo} {d : Nat} {rt : Option FieldType} {rk : Nat} {res : RS}
variable {M : Mo} {pc : Nat} {lv : List (Nat × TV)} {st : List TV}
theorem warmCn {y : MethodName} {b : ByteArray} {n : Nat} {r : Option FieldType} (ht : ∀ w ∈ GT, w.before args s = true) (hm : Cond.code y b n r ∈ GT) : ∀ w ∈ cn y b n r, ∀ (a' : Array Value) (U : State), s.WarmedH U.vm → w.before a' U = true := by
  intro w hw a' U hW
  rcases List.mem_cons.mp hw with rfl | h
  · exact gt_warm ht _ hm a' U hW
  · exact gt_warm ht _ h a' U hW
theorem warmCnW {y : MethodName} {b : ByteArray} {n : Nat} {r : Option FieldType} {hh : List (Nat × Nat × Nat × Nat)} (ht : ∀ w ∈ GT, w.before args s = true) (hm : Cond.codeWith y b n r hh ∈ GT) : ∀ w ∈ cnW y b n r hh, ∀ (a' : Array Value) (U : State), s.WarmedH U.vm → w.before a' U = true := by
  intro w hw a' U hW
  rcases List.mem_cons.mp hw with rfl | h
  · exact gt_warm ht _ hm a' U hW
  · exact gt_warm ht _ h a' U hW
theorem warmI {y : MethodName} (hini : (Cond.initialized y.cls).before args s = true) : ∀ (a' : Array Value) (U : State), s.WarmedH U.vm → (Cond.initialized y.cls).before a' U = true := fun a' U hW => word_at hW (Or.inl (by first | rfl | simp [Cond.onTables, Cond.keeps, Cond.steady])) hini
/-- what the callee is given -/
theorem preC (F : Fx p l R s m args meth c cc nL own G M0 d rt) {ρ : Int → Nat} {H : Heap} {locs : List Loc} (hD : Dn G ρ0 M0 s ρ M H locs) {As : List TV} (hA : ∀ v ∈ As, okv M v) : ∀ U : State, U.heap = H → s.WarmedH U.vm → va_Pc (As.map (vl ρ)) (MPre G ρ M As) (As.map (vl ρ)).toArray U := by
  intro U hU hW
  refine ⟨rfl, F.2.2.2.2.2.1.call hD.1 U hU hW, va_K.moved hW.alike F.K, by rw [hU]; exact hD.2.1, hA, ?_, hD.2.2.2.2.1, hD.2.2.2.2.2⟩
  rw [hU]
  exact Nat.le_trans F.ba hD.1.1
theorem roomC (F : Fx p l R s m args meth c cc nL own G M0 d rt) {ρ : Int → Nat} {H : Heap} {locs : List Loc} (hD : Dn G ρ0 M0 s ρ M H locs) {d' : Nat} : nc M - nc M0 + (rmK d' M).cells ≤ R.cells ∧ ns M - ns M0 + (rmK d' M).slots ≤ R.slots := by
  have k0 := hD.2.2.1.2
  have k1 := hD.2.2.2.2
  rw [F.rm]
  refine ⟨?_, ?_⟩
  · show nc M - nc M0 + (CAPC - nc M) ≤ CAPC - nc M0
    omega
  · show ns M - ns M0 + (CAPS - ns M) ≤ CAPS - ns M0
    omega
/-- behind a call -/
theorem postC {ρ ρ' : Int → Nat} {H : Heap} {locs L : List Loc} {M1 : Mo} {t T1 st9 : State} (hD : Dn G ρ0 M0 s ρ M H locs) (h0 : st9.heap = H) (e1 : T1.heap = t.heap) (hpo : MPo G ρ M ρ' M1 t) (hF : va_F (gA G) st9 t) (hL : ∀ q ∈ L, gA G q.base) : Dn G ρ0 M0 s ρ' M1 T1.heap (locs ++ L) := by
  obtain ⟨k1, k2, k3⟩ := vx_keep (A0 := gA G) (A1 := gA G) (free := gA G) (T' := T1) h0 e1 hD.1 (fun _ _ h => h) (fun _ h => h) hL hF
  exact hD.new k3 (by rw [e1]; exact hpo.1) hpo.2.1 hpo.2.2.1 hpo.2.2.2.1 hpo.2.2.2.2
theorem cellsC {M1 : Mo} (h0 : kle M0 M) (h1 : kle M M1) : nc M - nc M0 + (nc M1 - nc M) = nc M1 - nc M0 ∧ ns M - ns M0 + (ns M1 - ns M) = ns M1 - ns M0 := by
  have a := h0.2
  have b := h1.2
  omega
theorem j_callV0 (F : Fx p l R s m args meth c cc nL own G M0 d rt) {y : MethodName} {bytes : ByteArray} {maxL n d' idx rk9 : Nat} {ret : Option FieldType} {argl : List TV} {x : Int} {ci N : Nat} {C : String} {T : u_T} (hm : MY y bytes maxL ret n) (hi : Cond.instanceMethod y ∈ GT) (hs : Cond.selects C y y ∈ GT) (hl0 : Cond.methodLink own idx y ∈ GT) (hd' : d' + 1 ≤ d ∧ maxL ≤ 21) (hst : st.length ≤ 8) (hrk : rk9 < 3) (hc : vwCl[ci]? = some (C, T, N)) (hci : ci < 99) (hk1 : kd M x = ci + 1) (hd : decode cc pc = .ok (.invokevirtual idx, 3)) (hn : argl.length = n) {z : RS} (hC : CT l G y (cn y bytes maxL ret) d' ((false, x) :: argl) M rk9 z) (kx : ∀ (E : String) (ce : Cell) (q : Addr) (ρ' : Int → Nat) (H1 : Heap) (locs1 : List Loc) (ls1 : Array Slot), z.1 ≠ 0 → E = exN z.1 → kle M z.2.2 → Dn G ρ0 M0 s ρ' z.2.2 H1 locs1 → lv_has ls1 nL (lvm ρ' lv) → okl z.2.2 lv → H1[q]? = some ce → ce.vm = .none → s.vm.findClass E = some ce.cls → ∀ rest : List Value, vx_W p l e R s m args below meth c H1 locs1 (nc z.2.2 - nc M0) (ns z.2.2 - ns M0) (vx_MQ below (QK G ρ0 M0 rk res) (XK G ρ0 M0 res) args s (nc res.2.2 - nc M0) (ns res.2.2 - ns M0) (gA G)) (F0 m pc ls1 rest) q) (kk : z.1 = 0 → kle M z.2.2 → J p l e R s m args below meth c nL G ρ0 M0 rk res z.2.2 (pc + 3) lv (rtv rk9 z.2.1 ++ st)) : J p l e R s m args below meth c nL G ρ0 M0 rk res M pc lv (argl.reverse ++ (false, x) :: st) := by
  intro ρ H locs ls hD hl h1 h2
  obtain ⟨ex, v, M1⟩ := z
  have hC1 := hC ρ
  have hfr : (rmK d' M).frames + 1 ≤ R.frames := by rw [F.rm]; exact hd'.1
  have hlo : 8 + (maxL + 11) + (rmK d' M).locals ≤ R.locals := by rw [F.rm]; show 8 + (maxL + 11) + 45 * d' ≤ 45 * d; omega
  have hrm := roomC (d' := d') F hD
  have hk : kd M x ≠ 0 := by omega
  have hxp : 0 < x := (hD.2.1.pos hk).1
  have hA : ∀ v ∈ (false, x) :: argl, okv M v := fun v hv => by
    rcases List.mem_cons.mp hv with rfl | hv
    · exact okv.k hk
    · exact h2 v (List.mem_append.mpr (Or.inl (List.mem_reverse.mpr hv)))
  have h2t : oks M st := fun v hv => h2 v (List.mem_append.mpr (Or.inr (List.mem_cons_of_mem _ hv)))
  have hpc := preC F hD hA
  rw [List.map_cons, vl_pos hxp] at hpc hC1
  rw [List.map_append, List.map_cons, List.map_reverse, vl_pos hxp]
  intro T0 hT X
  have hcat : 2 * (F0 m pc ls (argl.map (vl ρ)).reverse).monitorRoom + ((st.map (vl ρ)).map fun v => v.category).sum ≤ 8 := by rw [vl_cats]; show 2 * 0 + _ ≤ 8; omega
  obtain ⟨cellB, hcB, hoB, hclB⟩ := rcv F hD hc hci hk1
  rcases vx_callV X F.1 (C := C) (bytes := bytes) (maxL := maxL) (ret := ret) F.o (F.t hl0) (F.t hi) (F.t hs) (F.t hm.1) hm.2.2.1 (kvx_back (bytes := bytes) (maxL := maxL) (ret := ret) (W9 := 8) hC1 MPre.fb hfr hlo (warmCn F.2.2.2.2.1 hm.1) List.mem_cons_self (warmI (F.t hm.2.1))) (by rw [hT]; exact hcB) hoB hclB (g := F0 m pc ls ((argl.map (vl ρ)).reverse ++ .ref (ρ x) :: st.map (vl ρ))) rfl (hl.1.trans F.ml.symm) (argsL := argl.map (vl ρ)) (rest := st.map (vl ρ)) (fun sig hsig => (List.length_map (vl ρ)).trans (hn.trans (my_len hm.2.2.2 sig hsig))) rfl hcat (by rw [F.2.1]; exact hd) (fun vm₁ hW₁ => ⟨hrm.1, hrm.2, hpc (T0.setVm vm₁) hT hW₁⟩) with ⟨w, vm₁, ⟨U', l2, c2, s2⟩, hW₁, X', ⟨g', mk, t, L, e1, e2, hq, q1, hL, q2, q3⟩, stp⟩ | ⟨q, vm₁, ⟨U', l2, c2, s2⟩, hW₁, X', ⟨g', mk, t, L, E, ce, e1, e2, hq, hce, hcv, hcl, q1, hL, q2, q3⟩, stp⟩
  · dsimp only [Pt.U, Pt.locs, Pt.cells, Pt.slots] at X' e1 e2 q1 q2 q3 stp
    subst q1; subst q2; subst q3
    obtain ⟨hex, ρ', how, hpo, hok, hF⟩ := hq
    cases how
    have hkl := hpo.2.2.1
    dsimp only at hex hok hpo hkl
    have hcont := hex
    have hD1 := postC (T1 := U') hD (by rw [← hT]; rfl) e1 hpo hF hL
    obtain ⟨z1, z2⟩ := cellsC hD.2.2.1 hkl
    have hst9 : oks M1 (rtv rk9 v ++ st) := fun u hu => by
      rcases List.mem_append.mp hu with g | g
      · match rk9, g, hok with
        | 0, g, _ => cases g
        | 1, g, _ => cases List.mem_singleton.mp g; exact okv.i
        | 2, g, hok => cases List.mem_singleton.mp g; exact fun _ => hok rfl
        | n + 3, g, _ => exact absurd hrk (by omega)
      · exact (h2t u g).up hkl
    have hgo := kk hcont hkl ρ' U'.heap (locs ++ L) ls hD1 (by rw [lvm_ext hpo.2.1 h1]; exact hl) (h1.up hkl) hst9
    rw [List.map_append, rtv_map, oks_ext hpo.2.1 h2t, ← z1, ← z2] at hgo
    obtain ⟨t2, r1, r2⟩ := hgo U' rfl X'
    exact ⟨t2, stp t2 r1, r2⟩
  · dsimp only [Pt.U, Pt.locs, Pt.cells, Pt.slots] at X' e1 e2 q1 q2 q3 stp hcl
    subst q1; subst q2; subst q3
    obtain ⟨hex, hE, ρ', hpo, hF⟩ := hq
    have hkl := hpo.2.2.1
    dsimp only at hex hE hpo hkl
    have hD1 := postC (T1 := U') hD (by rw [← hT]; rfl) e1 hpo hF hL
    obtain ⟨z1, z2⟩ := cellsC hD.2.2.1 hkl
    rw [z1, z2] at X'
    have hce1 : U'.heap[q]? = some ce := by rw [e1]; exact hce
    obtain ⟨t2, r1, r2⟩ := kx E ce q ρ' U'.heap (locs ++ L) ls hex hE hkl hD1 (by rw [lvm_ext hpo.2.1 h1]; exact hl) (h1.up hkl) hce1 hcv (vx_cls hW₁ hcl) (st.map (vl ρ)) U' rfl X'
    exact ⟨t2, stp.trans r1, r2⟩
theorem j_callS0 (F : Fx p l R s m args meth c cc nL own G M0 d rt) {y : MethodName} {bytes : ByteArray} {maxL n d' idx rk9 : Nat} {ret : Option FieldType} {argl : List TV} (hm : MY y bytes maxL ret n) (hs : Cond.static y ∈ GT) (hl0 : Cond.methodLink own idx y ∈ GT) (hd' : d' + 1 ≤ d ∧ maxL ≤ 21) (hst : st.length ≤ 8) (hrk : rk9 < 3) (hd : decode cc pc = .ok (.invokestatic idx, 3)) (hn : argl.length = n) {z : RS} (hC : CT l G y (cn y bytes maxL ret) d' argl M rk9 z) (kx : ∀ (E : String) (ce : Cell) (q : Addr) (ρ' : Int → Nat) (H1 : Heap) (locs1 : List Loc) (ls1 : Array Slot), z.1 ≠ 0 → E = exN z.1 → kle M z.2.2 → Dn G ρ0 M0 s ρ' z.2.2 H1 locs1 → lv_has ls1 nL (lvm ρ' lv) → okl z.2.2 lv → H1[q]? = some ce → ce.vm = .none → s.vm.findClass E = some ce.cls → ∀ rest : List Value, vx_W p l e R s m args below meth c H1 locs1 (nc z.2.2 - nc M0) (ns z.2.2 - ns M0) (vx_MQ below (QK G ρ0 M0 rk res) (XK G ρ0 M0 res) args s (nc res.2.2 - nc M0) (ns res.2.2 - ns M0) (gA G)) (F0 m pc ls1 rest) q) (kk : z.1 = 0 → kle M z.2.2 → J p l e R s m args below meth c nL G ρ0 M0 rk res z.2.2 (pc + 3) lv (rtv rk9 z.2.1 ++ st)) : J p l e R s m args below meth c nL G ρ0 M0 rk res M pc lv (argl.reverse ++ st) := by
  intro ρ H locs ls hD hl h1 h2
  obtain ⟨ex, v, M1⟩ := z
  have hC1 := hC ρ
  have hfr : (rmK d' M).frames + 1 ≤ R.frames := by rw [F.rm]; exact hd'.1
  have hlo : 8 + (maxL + 11) + (rmK d' M).locals ≤ R.locals := by rw [F.rm]; show 8 + (maxL + 11) + 45 * d' ≤ 45 * d; omega
  have hrm := roomC (d' := d') F hD
  have hA : ∀ v ∈ argl, okv M v := fun v hv => h2 v (List.mem_append.mpr (Or.inl (List.mem_reverse.mpr hv)))
  have h2t : oks M st := fun v hv => h2 v (List.mem_append.mpr (Or.inr hv))
  have hpc := preC F hD hA
  rw [List.map_append, List.map_reverse]
  intro T0 hT X
  have hcat : 2 * (F0 m pc ls (argl.map (vl ρ)).reverse).monitorRoom + ((st.map (vl ρ)).map fun v => v.category).sum ≤ 8 := by rw [vl_cats]; show 2 * 0 + _ ≤ 8; omega
  rcases vx_callS X F.1 (bytes := bytes) (maxL := maxL) (ret := ret) F.o (F.t hl0) (F.t hs) (F.t hm.2.1) (F.t hm.1) hm.2.2.1 (kvx_back (bytes := bytes) (maxL := maxL) (ret := ret) (W9 := 8) hC1 MPre.fb hfr hlo (warmCn F.2.2.2.2.1 hm.1) List.mem_cons_self (warmI (F.t hm.2.1))) (g := F0 m pc ls ((argl.map (vl ρ)).reverse ++ st.map (vl ρ))) rfl (hl.1.trans F.ml.symm) (argsL := argl.map (vl ρ)) (rest := st.map (vl ρ)) (fun sig hsig => (List.length_map (vl ρ)).trans (hn.trans (my_len hm.2.2.2 sig hsig))) rfl hcat (by rw [F.2.1]; exact hd) (fun vm₁ hW₁ => ⟨hrm.1, hrm.2, hpc (T0.setVm vm₁) hT hW₁⟩) with ⟨w, vm₁, ⟨U', l2, c2, s2⟩, hW₁, X', ⟨g', mk, t, L, e1, e2, hq, q1, hL, q2, q3⟩, stp⟩ | ⟨q, vm₁, ⟨U', l2, c2, s2⟩, hW₁, X', ⟨g', mk, t, L, E, ce, e1, e2, hq, hce, hcv, hcl, q1, hL, q2, q3⟩, stp⟩
  · dsimp only [Pt.U, Pt.locs, Pt.cells, Pt.slots] at X' e1 e2 q1 q2 q3 stp
    subst q1; subst q2; subst q3
    obtain ⟨hex, ρ', how, hpo, hok, hF⟩ := hq
    cases how
    have hkl := hpo.2.2.1
    dsimp only at hex hok hpo hkl
    have hcont := hex
    have hD1 := postC (T1 := U') hD (by rw [← hT]; rfl) e1 hpo hF hL
    obtain ⟨z1, z2⟩ := cellsC hD.2.2.1 hkl
    have hst9 : oks M1 (rtv rk9 v ++ st) := fun u hu => by
      rcases List.mem_append.mp hu with g | g
      · match rk9, g, hok with
        | 0, g, _ => cases g
        | 1, g, _ => cases List.mem_singleton.mp g; exact okv.i
        | 2, g, hok => cases List.mem_singleton.mp g; exact fun _ => hok rfl
        | n + 3, g, _ => exact absurd hrk (by omega)
      · exact (h2t u g).up hkl
    have hgo := kk hcont hkl ρ' U'.heap (locs ++ L) ls hD1 (by rw [lvm_ext hpo.2.1 h1]; exact hl) (h1.up hkl) hst9
    rw [List.map_append, rtv_map, oks_ext hpo.2.1 h2t, ← z1, ← z2] at hgo
    obtain ⟨t2, r1, r2⟩ := hgo U' rfl X'
    exact ⟨t2, stp t2 r1, r2⟩
  · dsimp only [Pt.U, Pt.locs, Pt.cells, Pt.slots] at X' e1 e2 q1 q2 q3 stp hcl
    subst q1; subst q2; subst q3
    obtain ⟨hex, hE, ρ', hpo, hF⟩ := hq
    have hkl := hpo.2.2.1
    dsimp only at hex hE hpo hkl
    have hD1 := postC (T1 := U') hD (by rw [← hT]; rfl) e1 hpo hF hL
    obtain ⟨z1, z2⟩ := cellsC hD.2.2.1 hkl
    rw [z1, z2] at X'
    have hce1 : U'.heap[q]? = some ce := by rw [e1]; exact hce
    obtain ⟨t2, r1, r2⟩ := kx E ce q ρ' U'.heap (locs ++ L) ls hex hE hkl hD1 (by rw [lvm_ext hpo.2.1 h1]; exact hl) (h1.up hkl) hce1 hcv (vx_cls hW₁ hcl) (st.map (vl ρ)) U' rfl X'
    exact ⟨t2, stp.trans r1, r2⟩
theorem j_callX0 (F : Fx p l R s m args meth c cc nL own G M0 d rt) {y : MethodName} {bytes : ByteArray} {maxL n d' idx rk9 : Nat} {ret : Option FieldType} {argl : List TV} {hh : List (Nat × Nat × Nat × Nat)} (hm : MYW y bytes maxL ret hh n) (hs : Cond.static y ∈ GT) (hl0 : Cond.methodLink own idx y ∈ GT) (hd' : d' + 1 ≤ d ∧ maxL ≤ 21) (hst : st.length ≤ 8) (hrk : rk9 < 3) (hd : decode cc pc = .ok (.invokestatic idx, 3)) (hn : argl.length = n) {z : RS} (hC : CT l G y (cnW y bytes maxL ret hh) d' argl M rk9 z) (kx : ∀ (E : String) (ce : Cell) (q : Addr) (ρ' : Int → Nat) (H1 : Heap) (locs1 : List Loc) (ls1 : Array Slot), z.1 ≠ 0 → E = exN z.1 → kle M z.2.2 → Dn G ρ0 M0 s ρ' z.2.2 H1 locs1 → lv_has ls1 nL (lvm ρ' lv) → okl z.2.2 lv → H1[q]? = some ce → ce.vm = .none → s.vm.findClass E = some ce.cls → ∀ rest : List Value, vx_W p l e R s m args below meth c H1 locs1 (nc z.2.2 - nc M0) (ns z.2.2 - ns M0) (vx_MQ below (QK G ρ0 M0 rk res) (XK G ρ0 M0 res) args s (nc res.2.2 - nc M0) (ns res.2.2 - ns M0) (gA G)) (F0 m pc ls1 rest) q) (kk : z.1 = 0 → kle M z.2.2 → J p l e R s m args below meth c nL G ρ0 M0 rk res z.2.2 (pc + 3) lv (rtv rk9 z.2.1 ++ st)) : J p l e R s m args below meth c nL G ρ0 M0 rk res M pc lv (argl.reverse ++ st) := by
  intro ρ H locs ls hD hl h1 h2
  obtain ⟨ex, v, M1⟩ := z
  have hC1 := hC ρ
  have hfr : (rmK d' M).frames + 1 ≤ R.frames := by rw [F.rm]; exact hd'.1
  have hlo : 8 + (maxL + 11) + (rmK d' M).locals ≤ R.locals := by rw [F.rm]; show 8 + (maxL + 11) + 45 * d' ≤ 45 * d; omega
  have hrm := roomC (d' := d') F hD
  have hA : ∀ v ∈ argl, okv M v := fun v hv => h2 v (List.mem_append.mpr (Or.inl (List.mem_reverse.mpr hv)))
  have h2t : oks M st := fun v hv => h2 v (List.mem_append.mpr (Or.inr hv))
  have hpc := preC F hD hA
  rw [List.map_append, List.map_reverse]
  intro T0 hT X
  have hcat : 2 * (F0 m pc ls (argl.map (vl ρ)).reverse).monitorRoom + ((st.map (vl ρ)).map fun v => v.category).sum ≤ 8 := by rw [vl_cats]; show 2 * 0 + _ ≤ 8; omega
  rcases vx_callSX X F.1 (hh := hh) (bytes := bytes) (maxL := maxL) (ret := ret) F.o (F.t hl0) (F.t hs) (F.t hm.2.1) (F.t hm.1) hm.2.2.1 (kvx_backW (bytes := bytes) (maxL := maxL) (ret := ret) (hh := hh) (W9 := 8) hC1 MPre.fb hfr hlo (warmCnW F.2.2.2.2.1 hm.1) List.mem_cons_self (warmI (F.t hm.2.1))) (g := F0 m pc ls ((argl.map (vl ρ)).reverse ++ st.map (vl ρ))) rfl (hl.1.trans F.ml.symm) (argsL := argl.map (vl ρ)) (rest := st.map (vl ρ)) (fun sig hsig => (List.length_map (vl ρ)).trans (hn.trans (my_len hm.2.2.2 sig hsig))) rfl hcat (by rw [F.2.1]; exact hd) (fun vm₁ hW₁ => ⟨hrm.1, hrm.2, hpc (T0.setVm vm₁) hT hW₁⟩) with ⟨w, vm₁, ⟨U', l2, c2, s2⟩, hW₁, X', ⟨g', mk, t, L, e1, e2, hq, q1, hL, q2, q3⟩, stp⟩ | ⟨q, vm₁, ⟨U', l2, c2, s2⟩, hW₁, X', ⟨g', mk, t, L, E, ce, e1, e2, hq, hce, hcv, hcl, q1, hL, q2, q3⟩, stp⟩
  · dsimp only [Pt.U, Pt.locs, Pt.cells, Pt.slots] at X' e1 e2 q1 q2 q3 stp
    subst q1; subst q2; subst q3
    obtain ⟨hex, ρ', how, hpo, hok, hF⟩ := hq
    cases how
    have hkl := hpo.2.2.1
    dsimp only at hex hok hpo hkl
    have hcont := hex
    have hD1 := postC (T1 := U') hD (by rw [← hT]; rfl) e1 hpo hF hL
    obtain ⟨z1, z2⟩ := cellsC hD.2.2.1 hkl
    have hst9 : oks M1 (rtv rk9 v ++ st) := fun u hu => by
      rcases List.mem_append.mp hu with g | g
      · match rk9, g, hok with
        | 0, g, _ => cases g
        | 1, g, _ => cases List.mem_singleton.mp g; exact okv.i
        | 2, g, hok => cases List.mem_singleton.mp g; exact fun _ => hok rfl
        | n + 3, g, _ => exact absurd hrk (by omega)
      · exact (h2t u g).up hkl
    have hgo := kk hcont hkl ρ' U'.heap (locs ++ L) ls hD1 (by rw [lvm_ext hpo.2.1 h1]; exact hl) (h1.up hkl) hst9
    rw [List.map_append, rtv_map, oks_ext hpo.2.1 h2t, ← z1, ← z2] at hgo
    obtain ⟨t2, r1, r2⟩ := hgo U' rfl X'
    exact ⟨t2, stp t2 r1, r2⟩
  · dsimp only [Pt.U, Pt.locs, Pt.cells, Pt.slots] at X' e1 e2 q1 q2 q3 stp hcl
    subst q1; subst q2; subst q3
    obtain ⟨hex, hE, ρ', hpo, hF⟩ := hq
    have hkl := hpo.2.2.1
    dsimp only at hex hE hpo hkl
    have hD1 := postC (T1 := U') hD (by rw [← hT]; rfl) e1 hpo hF hL
    obtain ⟨z1, z2⟩ := cellsC hD.2.2.1 hkl
    rw [z1, z2] at X'
    have hce1 : U'.heap[q]? = some ce := by rw [e1]; exact hce
    obtain ⟨t2, r1, r2⟩ := kx E ce q ρ' U'.heap (locs ++ L) ls hex hE hkl hD1 (by rw [lvm_ext hpo.2.1 h1]; exact hl) (h1.up hkl) hce1 hcv (vx_cls hW₁ hcl) (st.map (vl ρ)) U' rfl X'
    exact ⟨t2, stp.trans r1, r2⟩
theorem j_callSN (F : Fx p l R s m args meth c cc nL own G M0 d rt) {y : MethodName} {bytes : ByteArray} {maxL n d' idx rk9 : Nat} {ret : Option FieldType} {argl : List TV} {host : String} (hm : MY y bytes maxL ret n) (hs : Cond.static y ∈ GT) (hl0 : Cond.methodLinkNest own idx y host ∈ GT) (hd' : d' + 1 ≤ d ∧ maxL ≤ 21) (hst : st.length ≤ 8) (hrk : rk9 < 3) (hd : decode cc pc = .ok (.invokestatic idx, 3)) (hn : argl.length = n) {r : Option RS} {k : Int → Mo → Option RS} (h : cal0 r k = some res) (hC : ∀ z, r = some z → CT l G y (cn y bytes maxL ret) d' argl M rk9 z) (kk : ∀ v M1, k v M1 = some res → kle M M1 → J p l e R s m args below meth c nL G ρ0 M0 rk res M1 (pc + 3) lv (rtv rk9 v ++ st)) : J p l e R s m args below meth c nL G ρ0 M0 rk res M pc lv (argl.reverse ++ st) := by
  intro ρ H locs ls hD hl h1 h2
  obtain ⟨v, M1, hr, hcase⟩ := cal0_some h
  have hC1 := hC _ hr ρ
  have hfr : (rmK d' M).frames + 1 ≤ R.frames := by rw [F.rm]; exact hd'.1
  have hlo : 8 + (maxL + 11) + (rmK d' M).locals ≤ R.locals := by rw [F.rm]; show 8 + (maxL + 11) + 45 * d' ≤ 45 * d; omega
  have hrm := roomC (d' := d') F hD
  have hA : ∀ v ∈ argl, okv M v := fun v hv => h2 v (List.mem_append.mpr (Or.inl (List.mem_reverse.mpr hv)))
  have h2t : oks M st := fun v hv => h2 v (List.mem_append.mpr (Or.inr hv))
  have hpc := preC F hD hA
  rw [List.map_append, List.map_reverse]
  intro T0 hT X
  have hcat : 2 * (F0 m pc ls (argl.map (vl ρ)).reverse).monitorRoom + ((st.map (vl ρ)).map fun v => v.category).sum ≤ 8 := by rw [vl_cats]; show 2 * 0 + _ ≤ 8; omega
  obtain ⟨w, vm₁, ⟨U', l2, c2, s2⟩, hW₁, X', ⟨g', mk, t, L, e1, e2, hq, q1, hL, q2, q3⟩, stp⟩ := va_callSN X F.1 (bytes := bytes) (maxL := maxL) (ret := ret) F.o (F.t hl0) (F.t hs) (F.t hm.2.1) (F.t hm.1) hm.2.2.1 (kback_of (bytes := bytes) (maxL := maxL) (ret := ret) (W9 := 8) (kmet hC1 (fun E st9 t9 hx9 => hx9.1 rfl)) MPre.fb hfr hlo (warmCn F.2.2.2.2.1 hm.1) List.mem_cons_self (warmI (F.t hm.2.1))) (g := F0 m pc ls ((argl.map (vl ρ)).reverse ++ st.map (vl ρ))) rfl (hl.1.trans F.ml.symm) (argsL := argl.map (vl ρ)) (rest := st.map (vl ρ)) (fun sig hsig => (List.length_map (vl ρ)).trans (hn.trans (my_len hm.2.2.2 sig hsig))) rfl hcat (by rw [F.2.1]; exact hd) (fun vm₁ hW₁ => ⟨hrm.1, hrm.2, hpc (T0.setVm vm₁) hT hW₁⟩)
  dsimp only [Pt.U, Pt.locs, Pt.cells, Pt.slots] at X' e1 e2 q1 q2 q3 stp
  subst q1; subst q2; subst q3
  obtain ⟨hex, ρ', how, hpo, hok, hF⟩ := hq
  cases how
  have hkl := hpo.2.2.1
  dsimp only at hex hok hpo hkl
  have hcont := hcase
  have hD1 := postC (T1 := U') hD (by rw [← hT]; rfl) e1 hpo hF hL
  obtain ⟨z1, z2⟩ := cellsC hD.2.2.1 hkl
  have hst9 : oks M1 (rtv rk9 v ++ st) := fun u hu => by
    rcases List.mem_append.mp hu with g | g
    · match rk9, g, hok with
      | 0, g, _ => cases g
      | 1, g, _ => cases List.mem_singleton.mp g; exact okv.i
      | 2, g, hok => cases List.mem_singleton.mp g; exact fun _ => hok rfl
      | n + 3, g, _ => exact absurd hrk (by omega)
    · exact (h2t u g).up hkl
  have hgo := kk v M1 hcont hkl ρ' U'.heap (locs ++ L) ls hD1 (by rw [lvm_ext hpo.2.1 h1]; exact hl) (h1.up hkl) hst9
  rw [List.map_append, rtv_map, oks_ext hpo.2.1 h2t, ← z1, ← z2] at hgo
  obtain ⟨t2, r1, r2⟩ := hgo U' rfl X'
  exact ⟨t2, stp t2 r1, r2⟩
theorem j_callI (F : Fx p l R s m args meth c cc nL own G M0 d rt) {y : MethodName} {bytes : ByteArray} {maxL n d' idx rk9 : Nat} {argl : List TV} {x : Int} (hm : MY y bytes maxL none n) (hi : Cond.instanceMethod y ∈ GT) (hy : y.name = "<init>") (hl0 : Cond.methodLink own idx y ∈ GT) (hd' : d' + 1 ≤ d ∧ maxL ≤ 21) (hst : st.length ≤ 8) (hrk : rk9 < 3) (hk : kd M x ≠ 0) (hd : decode cc pc = .ok (.invokespecial idx, 3)) (hn : argl.length = n) {r : Option RS} {k : Int → Mo → Option RS} (h : cal0 r k = some res) (hC : ∀ z, r = some z → CT l G y (cn y bytes maxL none) d' ((false, x) :: argl) M rk9 z) (kk : ∀ v M1, k v M1 = some res → kle M M1 → J p l e R s m args below meth c nL G ρ0 M0 rk res M1 (pc + 3) lv (rtv rk9 v ++ st)) : J p l e R s m args below meth c nL G ρ0 M0 rk res M pc lv (argl.reverse ++ (false, x) :: st) := by
  intro ρ H locs ls hD hl h1 h2
  obtain ⟨v, M1, hr, hcase⟩ := cal0_some h
  have hC1 := hC _ hr ρ
  have hfr : (rmK d' M).frames + 1 ≤ R.frames := by rw [F.rm]; exact hd'.1
  have hlo : 8 + (maxL + 11) + (rmK d' M).locals ≤ R.locals := by rw [F.rm]; show 8 + (maxL + 11) + 45 * d' ≤ 45 * d; omega
  have hrm := roomC (d' := d') F hD
  have hxp : 0 < x := (hD.2.1.pos hk).1
  have hA : ∀ v ∈ (false, x) :: argl, okv M v := fun v hv => by
    rcases List.mem_cons.mp hv with rfl | hv
    · exact okv.k hk
    · exact h2 v (List.mem_append.mpr (Or.inl (List.mem_reverse.mpr hv)))
  have h2t : oks M st := fun v hv => h2 v (List.mem_append.mpr (Or.inr (List.mem_cons_of_mem _ hv)))
  have hpc := preC F hD hA
  rw [List.map_cons, vl_pos hxp] at hpc hC1
  rw [List.map_append, List.map_cons, List.map_reverse, vl_pos hxp]
  intro T0 hT X
  have hcat : 2 * (F0 m pc ls (argl.map (vl ρ)).reverse).monitorRoom + ((st.map (vl ρ)).map fun v => v.category).sum ≤ 8 := by rw [vl_cats]; show 2 * 0 + _ ≤ 8; omega
  obtain ⟨w, vm₁, ⟨U', l2, c2, s2⟩, hW₁, X', ⟨g', mk, t, L, e1, e2, hq, q1, hL, q2, q3⟩, stp⟩ := callI X F.1 (bytes := bytes) (maxL := maxL) F.o hy (F.t hl0) (F.t hi) (F.t hm.1) hm.2.2.1 (kback_of (bytes := bytes) (maxL := maxL) (ret := none) (W9 := 8) (kmet hC1 (fun E st9 t9 hx9 => hx9.1 rfl)) MPre.fb hfr hlo (warmCn F.2.2.2.2.1 hm.1) List.mem_cons_self (warmI (F.t hm.2.1))) (g := F0 m pc ls ((argl.map (vl ρ)).reverse ++ .ref (ρ x) :: st.map (vl ρ))) rfl (hl.1.trans F.ml.symm) (a := ρ x) (argsL := argl.map (vl ρ)) (rest := st.map (vl ρ)) (fun sig hsig => (List.length_map (vl ρ)).trans (hn.trans (my_len hm.2.2.2 sig hsig))) rfl hcat (by rw [F.2.1]; exact hd) (fun vm₁ hW₁ => ⟨hrm.1, hrm.2, hpc (T0.setVm vm₁) hT hW₁⟩)
  dsimp only [Pt.U, Pt.locs, Pt.cells, Pt.slots] at X' e1 e2 q1 q2 q3 stp
  subst q1; subst q2; subst q3
  obtain ⟨hex, ρ', how, hpo, hok, hF⟩ := hq
  cases how
  have hkl := hpo.2.2.1
  dsimp only at hex hok hpo hkl
  have hcont := hcase
  have hD1 := postC (T1 := U') hD (by rw [← hT]; rfl) e1 hpo hF hL
  obtain ⟨z1, z2⟩ := cellsC hD.2.2.1 hkl
  have hst9 : oks M1 (rtv rk9 v ++ st) := fun u hu => by
    rcases List.mem_append.mp hu with g | g
    · match rk9, g, hok with
      | 0, g, _ => cases g
      | 1, g, _ => cases List.mem_singleton.mp g; exact okv.i
      | 2, g, hok => cases List.mem_singleton.mp g; exact fun _ => hok rfl
      | n + 3, g, _ => exact absurd hrk (by omega)
    · exact (h2t u g).up hkl
  have hgo := kk v M1 hcont hkl ρ' U'.heap (locs ++ L) ls hD1 (by rw [lvm_ext hpo.2.1 h1]; exact hl) (h1.up hkl) hst9
  rw [List.map_append, rtv_map, oks_ext hpo.2.1 h2t, ← z1, ← z2] at hgo
  obtain ⟨t2, r1, r2⟩ := hgo U' rfl X'
  exact ⟨t2, stp t2 r1, r2⟩
theorem j_callIN (F : Fx p l R s m args meth c cc nL own G M0 d rt) {y : MethodName} {bytes : ByteArray} {maxL n d' idx rk9 : Nat} {argl : List TV} {x : Int} {host : String} (hm : MY y bytes maxL none n) (hi : Cond.instanceMethod y ∈ GT) (hy : y.name = "<init>") (hl0 : Cond.methodLinkNest own idx y host ∈ GT) (hd' : d' + 1 ≤ d ∧ maxL ≤ 21) (hst : st.length ≤ 8) (hrk : rk9 < 3) (hk : kd M x ≠ 0) (hd : decode cc pc = .ok (.invokespecial idx, 3)) (hn : argl.length = n) {r : Option RS} {k : Int → Mo → Option RS} (h : cal0 r k = some res) (hC : ∀ z, r = some z → CT l G y (cn y bytes maxL none) d' ((false, x) :: argl) M rk9 z) (kk : ∀ v M1, k v M1 = some res → kle M M1 → J p l e R s m args below meth c nL G ρ0 M0 rk res M1 (pc + 3) lv (rtv rk9 v ++ st)) : J p l e R s m args below meth c nL G ρ0 M0 rk res M pc lv (argl.reverse ++ (false, x) :: st) := by
  intro ρ H locs ls hD hl h1 h2
  obtain ⟨v, M1, hr, hcase⟩ := cal0_some h
  have hC1 := hC _ hr ρ
  have hfr : (rmK d' M).frames + 1 ≤ R.frames := by rw [F.rm]; exact hd'.1
  have hlo : 8 + (maxL + 11) + (rmK d' M).locals ≤ R.locals := by rw [F.rm]; show 8 + (maxL + 11) + 45 * d' ≤ 45 * d; omega
  have hrm := roomC (d' := d') F hD
  have hxp : 0 < x := (hD.2.1.pos hk).1
  have hA : ∀ v ∈ (false, x) :: argl, okv M v := fun v hv => by
    rcases List.mem_cons.mp hv with rfl | hv
    · exact okv.k hk
    · exact h2 v (List.mem_append.mpr (Or.inl (List.mem_reverse.mpr hv)))
  have h2t : oks M st := fun v hv => h2 v (List.mem_append.mpr (Or.inr (List.mem_cons_of_mem _ hv)))
  have hpc := preC F hD hA
  rw [List.map_cons, vl_pos hxp] at hpc hC1
  rw [List.map_append, List.map_cons, List.map_reverse, vl_pos hxp]
  intro T0 hT X
  have hcat : 2 * (F0 m pc ls (argl.map (vl ρ)).reverse).monitorRoom + ((st.map (vl ρ)).map fun v => v.category).sum ≤ 8 := by rw [vl_cats]; show 2 * 0 + _ ≤ 8; omega
  obtain ⟨w, vm₁, ⟨U', l2, c2, s2⟩, hW₁, X', ⟨g', mk, t, L, e1, e2, hq, q1, hL, q2, q3⟩, stp⟩ := va_callIN X F.1 (bytes := bytes) (maxL := maxL) F.o hy (F.t hl0) (F.t hi) (F.t hm.1) hm.2.2.1 (kback_of (bytes := bytes) (maxL := maxL) (ret := none) (W9 := 8) (kmet hC1 (fun E st9 t9 hx9 => hx9.1 rfl)) MPre.fb hfr hlo (warmCn F.2.2.2.2.1 hm.1) List.mem_cons_self (warmI (F.t hm.2.1))) (g := F0 m pc ls ((argl.map (vl ρ)).reverse ++ .ref (ρ x) :: st.map (vl ρ))) rfl (hl.1.trans F.ml.symm) (a := ρ x) (argsL := argl.map (vl ρ)) (rest := st.map (vl ρ)) (fun sig hsig => (List.length_map (vl ρ)).trans (hn.trans (my_len hm.2.2.2 sig hsig))) rfl hcat (by rw [F.2.1]; exact hd) (fun vm₁ hW₁ => ⟨hrm.1, hrm.2, hpc (T0.setVm vm₁) hT hW₁⟩)
  dsimp only [Pt.U, Pt.locs, Pt.cells, Pt.slots] at X' e1 e2 q1 q2 q3 stp
  subst q1; subst q2; subst q3
  obtain ⟨hex, ρ', how, hpo, hok, hF⟩ := hq
  cases how
  have hkl := hpo.2.2.1
  dsimp only at hex hok hpo hkl
  have hcont := hcase
  have hD1 := postC (T1 := U') hD (by rw [← hT]; rfl) e1 hpo hF hL
  obtain ⟨z1, z2⟩ := cellsC hD.2.2.1 hkl
  have hst9 : oks M1 (rtv rk9 v ++ st) := fun u hu => by
    rcases List.mem_append.mp hu with g | g
    · match rk9, g, hok with
      | 0, g, _ => cases g
      | 1, g, _ => cases List.mem_singleton.mp g; exact okv.i
      | 2, g, hok => cases List.mem_singleton.mp g; exact fun _ => hok rfl
      | n + 3, g, _ => exact absurd hrk (by omega)
    · exact (h2t u g).up hkl
  have hgo := kk v M1 hcont hkl ρ' U'.heap (locs ++ L) ls hD1 (by rw [lvm_ext hpo.2.1 h1]; exact hl) (h1.up hkl) hst9
  rw [List.map_append, rtv_map, oks_ext hpo.2.1 h2t, ← z1, ← z2] at hgo
  obtain ⟨t2, r1, r2⟩ := hgo U' rfl X'
  exact ⟨t2, stp t2 r1, r2⟩
theorem kxOut (F : Fx p l R s m args meth c cc nL own G M0 d rt) (hno : ∀ x ∈ c.exceptionTable.toList, False) {ex : Int} {E : String} {ce : Cell} {q : Addr} {M1 : Mo} {ρ' : Int → Nat} {H1 : Heap} {locs1 : List Loc} {ls1 : Array Slot} (hex : ex ≠ 0) (hres : res = (ex, 0, M1)) (hE : E = exN ex) (hD : Dn G ρ0 M0 s ρ' M1 H1 locs1) (hce : H1[q]? = some ce) (hcv : ce.vm = .none) (hcl : s.vm.findClass E = some ce.cls) (rest : List Value) : vx_W p l e R s m args below meth c H1 locs1 (nc M1 - nc M0) (ns M1 - ns M0) (vx_MQ below (QK G ρ0 M0 rk res) (XK G ρ0 M0 res) args s (nc res.2.2 - nc M0) (ns res.2.2 - ns M0) (gA G)) (F0 m pc ls1 rest) q := by
  subst hres
  exact vx_out (fun x hx => (hno x hx).elim) F.lk hce hcv hcl (fun t ht hW => ⟨hex, hE, ρ', ⟨by rw [ht]; exact hD.2.1, hD.2.2.2.1, hD.2.2.1, hD.2.2.2.2.1, hD.2.2.2.2.2⟩, hD.1.F ht⟩) hD.1.2.2 (Nat.le_refl _) (Nat.le_refl _)
theorem j_callV (F : Fx p l R s m args meth c cc nL own G M0 d rt) (hno : ∀ x ∈ c.exceptionTable.toList, False) {y : MethodName} {bytes : ByteArray} {maxL n d' idx rk9 : Nat} {ret : Option FieldType} {argl : List TV} {x : Int} {ci N : Nat} {C : String} {T : u_T} (hm : MY y bytes maxL ret n) (hi : Cond.instanceMethod y ∈ GT) (hs : Cond.selects C y y ∈ GT) (hl0 : Cond.methodLink own idx y ∈ GT) (hd' : d' + 1 ≤ d ∧ maxL ≤ 21) (hst : st.length ≤ 8) (hrk : rk9 < 3) (hc : vwCl[ci]? = some (C, T, N)) (hci : ci < 99) (hk1 : kd M x = ci + 1) (hd : decode cc pc = .ok (.invokevirtual idx, 3)) (hn : argl.length = n) {r : Option RS} {k : Int → Mo → Option RS} (h : cal r k = some res) (hC : ∀ z, r = some z → CT l G y (cn y bytes maxL ret) d' ((false, x) :: argl) M rk9 z) (kk : ∀ v M1, k v M1 = some res → kle M M1 → J p l e R s m args below meth c nL G ρ0 M0 rk res M1 (pc + 3) lv (rtv rk9 v ++ st)) : J p l e R s m args below meth c nL G ρ0 M0 rk res M pc lv (argl.reverse ++ (false, x) :: st) := by
  obtain ⟨ex, v, M1, hr, hcase⟩ := cal_some h
  refine j_callV0 F hm hi hs hl0 hd' hst hrk hc hci hk1 hd hn (hC _ hr) (fun E ce q ρ1 H1 locs1 ls1 hex hE hkl hD hl hok hce hcv hcl rest => ?_) (fun hex hkl => ?_)
  · rcases hcase with z | z
    · exact absurd z.1 hex
    · exact kxOut F hno hex z.2 hE hD hce hcv hcl rest
  · rcases hcase with z | z
    · exact kk v M1 z.2 hkl
    · exact absurd hex z.1
theorem j_callVH (F : Fx p l R s m args meth c cc nL own G M0 d rt) {nh : Int} {y : MethodName} {bytes : ByteArray} {maxL n d' idx rk9 : Nat} {ret : Option FieldType} {argl : List TV} {x : Int} {ci N : Nat} {C : String} {T : u_T} (hm : MY y bytes maxL ret n) (hi : Cond.instanceMethod y ∈ GT) (hs : Cond.selects C y y ∈ GT) (hl0 : Cond.methodLink own idx y ∈ GT) (hd' : d' + 1 ≤ d ∧ maxL ≤ 21) (hst : st.length ≤ 8) (hrk : rk9 < 3) (hc : vwCl[ci]? = some (C, T, N)) (hci : ci < 99) (hk1 : kd M x = ci + 1) (hd : decode cc pc = .ok (.invokevirtual idx, 3)) (hn : argl.length = n) {r : Option RS} {k : Int → Mo → Option RS} (h : calh nh r k = some res) (hC : ∀ z, r = some z → CT l G y (cn y bytes maxL ret) d' ((false, x) :: argl) M rk9 z) (hh9 : ∀ (ex v : Int) (M1 : Mo), ex ≠ 0 → ex = 1 ∨ (nh ≠ 1 ∧ (ex = 2 ∨ ex = 3)) → res = (0, exV ex, M1) → ∀ (E : String) (ce : Cell) (q : Addr) (ρ' : Int → Nat) (H1 : Heap) (locs1 : List Loc) (ls1 : Array Slot), E = exN ex → Dn G ρ0 M0 s ρ' M1 H1 locs1 → lv_has ls1 nL (lvm ρ' lv) → H1[q]? = some ce → ce.vm = .none → s.vm.findClass E = some ce.cls → ∀ rest : List Value, vx_W p l e R s m args below meth c H1 locs1 (nc M1 - nc M0) (ns M1 - ns M0) (vx_MQ below (QK G ρ0 M0 rk res) (XK G ρ0 M0 res) args s (nc res.2.2 - nc M0) (ns res.2.2 - ns M0) (gA G)) (F0 m pc ls1 rest) q) (kk : ∀ v M1, k v M1 = some res → kle M M1 → J p l e R s m args below meth c nL G ρ0 M0 rk res M1 (pc + 3) lv (rtv rk9 v ++ st)) : J p l e R s m args below meth c nL G ρ0 M0 rk res M pc lv (argl.reverse ++ (false, x) :: st) := by
  obtain ⟨ex, v, M1, hr, hcase⟩ := calh_some h
  refine j_callV0 F hm hi hs hl0 hd' hst hrk hc hci hk1 hd hn (hC _ hr) (fun E ce q ρ1 H1 locs1 ls1 hex hE hkl hD hl hok hce hcv hcl rest => ?_) (fun hex hkl => ?_)
  · rcases hcase with z | ⟨z0, z1, z2⟩
    · exact absurd z.1 hex
    · exact hh9 ex v M1 z0 z1 z2 E ce q ρ1 H1 locs1 ls1 hE hD hl hce hcv hcl rest
  · rcases hcase with z | ⟨z0, z1, z2⟩
    · exact kk v M1 z.2 hkl
    · exact absurd hex z0
theorem j_callS (F : Fx p l R s m args meth c cc nL own G M0 d rt) (hno : ∀ x ∈ c.exceptionTable.toList, False) {y : MethodName} {bytes : ByteArray} {maxL n d' idx rk9 : Nat} {ret : Option FieldType} {argl : List TV} (hm : MY y bytes maxL ret n) (hs : Cond.static y ∈ GT) (hl0 : Cond.methodLink own idx y ∈ GT) (hd' : d' + 1 ≤ d ∧ maxL ≤ 21) (hst : st.length ≤ 8) (hrk : rk9 < 3) (hd : decode cc pc = .ok (.invokestatic idx, 3)) (hn : argl.length = n) {r : Option RS} {k : Int → Mo → Option RS} (h : cal r k = some res) (hC : ∀ z, r = some z → CT l G y (cn y bytes maxL ret) d' argl M rk9 z) (kk : ∀ v M1, k v M1 = some res → kle M M1 → J p l e R s m args below meth c nL G ρ0 M0 rk res M1 (pc + 3) lv (rtv rk9 v ++ st)) : J p l e R s m args below meth c nL G ρ0 M0 rk res M pc lv (argl.reverse ++ st) := by
  obtain ⟨ex, v, M1, hr, hcase⟩ := cal_some h
  refine j_callS0 F hm hs hl0 hd' hst hrk hd hn (hC _ hr) (fun E ce q ρ1 H1 locs1 ls1 hex hE hkl hD hl hok hce hcv hcl rest => ?_) (fun hex hkl => ?_)
  · rcases hcase with z | z
    · exact absurd z.1 hex
    · exact kxOut F hno hex z.2 hE hD hce hcv hcl rest
  · rcases hcase with z | z
    · exact kk v M1 z.2 hkl
    · exact absurd hex z.1
theorem j_callSH (F : Fx p l R s m args meth c cc nL own G M0 d rt) {nh : Int} {y : MethodName} {bytes : ByteArray} {maxL n d' idx rk9 : Nat} {ret : Option FieldType} {argl : List TV} (hm : MY y bytes maxL ret n) (hs : Cond.static y ∈ GT) (hl0 : Cond.methodLink own idx y ∈ GT) (hd' : d' + 1 ≤ d ∧ maxL ≤ 21) (hst : st.length ≤ 8) (hrk : rk9 < 3) (hd : decode cc pc = .ok (.invokestatic idx, 3)) (hn : argl.length = n) {r : Option RS} {k : Int → Mo → Option RS} (h : calh nh r k = some res) (hC : ∀ z, r = some z → CT l G y (cn y bytes maxL ret) d' argl M rk9 z) (hh9 : ∀ (ex v : Int) (M1 : Mo), ex ≠ 0 → ex = 1 ∨ (nh ≠ 1 ∧ (ex = 2 ∨ ex = 3)) → res = (0, exV ex, M1) → ∀ (E : String) (ce : Cell) (q : Addr) (ρ' : Int → Nat) (H1 : Heap) (locs1 : List Loc) (ls1 : Array Slot), E = exN ex → Dn G ρ0 M0 s ρ' M1 H1 locs1 → lv_has ls1 nL (lvm ρ' lv) → H1[q]? = some ce → ce.vm = .none → s.vm.findClass E = some ce.cls → ∀ rest : List Value, vx_W p l e R s m args below meth c H1 locs1 (nc M1 - nc M0) (ns M1 - ns M0) (vx_MQ below (QK G ρ0 M0 rk res) (XK G ρ0 M0 res) args s (nc res.2.2 - nc M0) (ns res.2.2 - ns M0) (gA G)) (F0 m pc ls1 rest) q) (kk : ∀ v M1, k v M1 = some res → kle M M1 → J p l e R s m args below meth c nL G ρ0 M0 rk res M1 (pc + 3) lv (rtv rk9 v ++ st)) : J p l e R s m args below meth c nL G ρ0 M0 rk res M pc lv (argl.reverse ++ st) := by
  obtain ⟨ex, v, M1, hr, hcase⟩ := calh_some h
  refine j_callS0 F hm hs hl0 hd' hst hrk hd hn (hC _ hr) (fun E ce q ρ1 H1 locs1 ls1 hex hE hkl hD hl hok hce hcv hcl rest => ?_) (fun hex hkl => ?_)
  · rcases hcase with z | ⟨z0, z1, z2⟩
    · exact absurd z.1 hex
    · exact hh9 ex v M1 z0 z1 z2 E ce q ρ1 H1 locs1 ls1 hE hD hl hce hcv hcl rest
  · rcases hcase with z | ⟨z0, z1, z2⟩
    · exact kk v M1 z.2 hkl
    · exact absurd hex z0
theorem j_callX (F : Fx p l R s m args meth c cc nL own G M0 d rt) (hno : ∀ x ∈ c.exceptionTable.toList, False) {y : MethodName} {bytes : ByteArray} {maxL n d' idx rk9 : Nat} {ret : Option FieldType} {argl : List TV} {hh : List (Nat × Nat × Nat × Nat)} (hm : MYW y bytes maxL ret hh n) (hs : Cond.static y ∈ GT) (hl0 : Cond.methodLink own idx y ∈ GT) (hd' : d' + 1 ≤ d ∧ maxL ≤ 21) (hst : st.length ≤ 8) (hrk : rk9 < 3) (hd : decode cc pc = .ok (.invokestatic idx, 3)) (hn : argl.length = n) {r : Option RS} {k : Int → Mo → Option RS} (h : cal r k = some res) (hC : ∀ z, r = some z → CT l G y (cnW y bytes maxL ret hh) d' argl M rk9 z) (kk : ∀ v M1, k v M1 = some res → kle M M1 → J p l e R s m args below meth c nL G ρ0 M0 rk res M1 (pc + 3) lv (rtv rk9 v ++ st)) : J p l e R s m args below meth c nL G ρ0 M0 rk res M pc lv (argl.reverse ++ st) := by
  obtain ⟨ex, v, M1, hr, hcase⟩ := cal_some h
  refine j_callX0 F hm hs hl0 hd' hst hrk hd hn (hC _ hr) (fun E ce q ρ1 H1 locs1 ls1 hex hE hkl hD hl hok hce hcv hcl rest => ?_) (fun hex hkl => ?_)
  · rcases hcase with z | z
    · exact absurd z.1 hex
    · exact kxOut F hno hex z.2 hE hD hce hcv hcl rest
  · rcases hcase with z | z
    · exact kk v M1 z.2 hkl
    · exact absurd hex z.1
theorem nf_ref {ty : FieldType} (hty : (∃ n, ty = .object n) ∨ ∃ t, ty = .array t) (v : Int) : ∀ ρ : Int → Nat, narrow ty (vl ρ (false, v)) = vl ρ (false, v) ∧ fits ty (vl ρ (false, v)) = true := by
  intro ρ
  rcases hty with ⟨n, rfl⟩ | ⟨t, rfl⟩ <;> rcases vl_cases ρ v with g | ⟨q, g⟩ <;> rw [g] <;> exact ⟨rfl, rfl⟩
theorem nf_int (v : Int) : ∀ ρ : Int → Nat, narrow .int (vl ρ (true, v)) = vl ρ (true, v) ∧ fits .int (vl ρ (true, v)) = true := fun ρ => ⟨rfl, rfl⟩
theorem nf_z0 : ∀ ρ : Int → Nat, narrow .boolean (vl ρ (true, 0)) = vl ρ (true, 0) ∧ fits .boolean (vl ρ (true, 0)) = true := fun ρ => ⟨by show narrow .boolean (.int (iI 0)) = .int (iI 0); decide, by show fits .boolean (.int (iI 0)) = true; decide⟩
theorem nf_z1 : ∀ ρ : Int → Nat, narrow .boolean (vl ρ (true, 1)) = vl ρ (true, 1) ∧ fits .boolean (vl ρ (true, 1)) = true := fun ρ => ⟨by show narrow .boolean (.int (iI 1)) = .int (iI 1); decide, by show fits .boolean (.int (iI 1)) = true; decide⟩
theorem nz_b {v : Int} (h : nB v = wr v) : narrow .boolean (.int (iI v)) = .int (iI v) := by
  have h1 : vp_nar .boolean (iI v) = iI v := by
    rw [nar_b, h, iI_wr]
  unfold vp_nar at h1
  simp only [narrow] at h1 ⊢
  exact congrArg Value.int h1
theorem nz_c {v : Int} (h : n16 v = wr v) : narrow .char (.int (iI v)) = .int (iI v) := by
  have h1 : vp_nar .char (iI v) = iI v := by
    rw [nar_c, h, iI_wr]
  unfold vp_nar at h1
  simp only [narrow] at h1 ⊢
  exact congrArg Value.int h1
end JK
