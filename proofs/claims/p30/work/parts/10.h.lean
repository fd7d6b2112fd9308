/-! rows over the heap, calls, ends -/
section JH
variable {p : Program} {l : Launch} {e : Env} {R : Room} {s : State} {m : MethodId} {args : Array Value} {below : List Frame} {meth : Method} {c : Code}
variable {cc : ByteArray} {nL : Nat} {own : String} {G : Gt} {ρ0 : Int → Nat} {M0 : Mo} {d : Nat} {rt : Option FieldType} {rk : Nat} {res : RS}
variable {M : Mo} {pc : Nat} {lv : List (Nat × TV)} {st : List TV}
theorem MH.one {ρ : Int → Nat} {H : Heap} (h : MH G ρ M H) {x : Int} {e : va_E} (hx : vcell G ρ M x = some e) : va_P (gD G) vwCl [(ρ x, e)] H := by
  intro k q hk
  match k, hk with
  | 0, hk => cases hk; exact (h.2.2.1 x e hx).1
  | k + 1, hk => simp at hk
theorem MH.px {ρ : Int → Nat} {H : Heap} (h : MH G ρ M H) {x : Int} {n : Nat} (hk : kd M x = n + 1) : 0 < x := (h.pos (by omega)).1
/-- the next row's heap -/
theorem Dn.new {s : State} {ρ ρ' : Int → Nat} {M' : Mo} {H H1 : Heap} {locs locs1 : List Loc} (h : Dn G ρ0 M0 s ρ M H locs) (hS : va_S (gA G) s.heap H1 locs1) (hM : MH G ρ' M' H1) (hx : ext M ρ ρ') (hk : kle M M') (h1 : nc M' ≤ CAPC) (h2 : ns M' ≤ CAPS) : Dn G ρ0 M0 s ρ' M' H1 locs1 :=
  ⟨hS, hM, h.2.2.1.tr hk, h.2.2.2.1.tr hx h.2.2.1, h1, h2⟩
theorem Fx.K (F : Fx p l R s m args meth c cc nL own G M0 d rt) : va_K (gD G) vwCl (tysG G) s := F.2.2.2.2.2.2.1
theorem Fx.t (F : Fx p l R s m args meth c cc nL own G M0 d rt) {w : Cond} (h : w ∈ GT) : w.before args s = true := F.2.2.2.2.1 w h
theorem Fx.o (F : Fx p l R s m args meth c cc nL own G M0 d rt) : s.vm.findClass own = some m.cls := F.2.2.2.1
/-- a field's tables: its class, the place, the link -/
def FT (own : String) (idx : Nat) (ref : String) (ci : Nat) (C : String) (T : u_T) (N k : Nat) : Prop := vwCl[ci]? = some (C, T, N) ∧ k < N ∧ ci < 99 ∧ Cond.fieldLink own idx ref (T k).2.1 (T k).2.2.1 ∈ GT ∧ ((T k).1 = ref ∨ Cond.sameField ref (T k).1 (T k).2.1 (T k).2.2.1 ∈ GT) ∧ (∀ w ∈ u_ws C T N, w ∈ GT)
def FTN (own : String) (idx : Nat) (ref : String) (ci : Nat) (C : String) (T : u_T) (N k : Nat) (host : String) : Prop := vwCl[ci]? = some (C, T, N) ∧ k < N ∧ ci < 99 ∧ Cond.fieldLinkNest own idx ref (T k).2.1 (T k).2.2.1 host ∈ GT ∧ ((T k).1 = ref ∨ Cond.sameField ref (T k).1 (T k).2.1 (T k).2.2.1 ∈ GT) ∧ (∀ w ∈ u_ws C T N, w ∈ GT)
theorem Fx.same (F : Fx p l R s m args meth c cc nL own G M0 d rt) {a ref n ds : String} (h : a = ref ∨ Cond.sameField ref a n ds ∈ GT) : ∀ x, s.fieldFound? a n ds = some x → s.fieldFound? ref n ds = some x := by
  rcases h with h | h
  · rw [h]
    exact fun _ z => z
  · exact u_same (F.t h)
theorem j_get (F : Fx p l R s m args meth c cc nL own G M0 d rt) {idx ci N k : Nat} {C ref : String} {T : u_T} {b : Bool} {x : Int} (hF : FT own idx ref ci C T N k) (hb : (lay ci)[k]? = some b) (hk : kd M x = ci + 1) (hd : decode cc pc = .ok (.getfield idx, 3)) (kk : J p l e R s m args below meth c nL G ρ0 M0 rk res M (pc + 3) lv ((b, fd M ci k x) :: st)) : J p l e R s m args below meth c nL G ρ0 M0 rk res M pc lv ((false, x) :: st) := by
  intro ρ H locs ls hD hl h1 h2
  have hv : okv M (b, fd M ci k x) := fun e => by
    cases e
    exact hD.2.1.2.2.2.2.1 ci k x hk hF.2.2.1 hb
  have h := kk ρ H locs ls hD hl h1 (oks.mk hv h2.tl)
  rw [List.map_cons] at h ⊢
  rw [vl_pos (hD.2.1.px hk)]
  exact va_get (D := gD G) (ws := [(ρ x, .inr (ci, flds ρ M ci x))]) F.1 F.2.1 F.2.2.2.2.1 hF.2.2.2.2.2 F.o F.K (hD.2.1.one (vcell_obj hk hF.2.2.1)) 0 rfl hF.1 k hF.2.1 (F.t hF.2.2.2.1) (F.same hF.2.2.2.2.1) (flds_get hb) hd h
theorem j_getN (F : Fx p l R s m args meth c cc nL own G M0 d rt) {idx ci N k : Nat} {C ref host : String} {T : u_T} {b : Bool} {x : Int} (hF : FTN own idx ref ci C T N k host) (hb : (lay ci)[k]? = some b) (hk : kd M x = ci + 1) (hd : decode cc pc = .ok (.getfield idx, 3)) (kk : J p l e R s m args below meth c nL G ρ0 M0 rk res M (pc + 3) lv ((b, fd M ci k x) :: st)) : J p l e R s m args below meth c nL G ρ0 M0 rk res M pc lv ((false, x) :: st) := by
  intro ρ H locs ls hD hl h1 h2
  have hv : okv M (b, fd M ci k x) := fun e => by
    cases e
    exact hD.2.1.2.2.2.2.1 ci k x hk hF.2.2.1 hb
  have h := kk ρ H locs ls hD hl h1 (oks.mk hv h2.tl)
  rw [List.map_cons] at h ⊢
  rw [vl_pos (hD.2.1.px hk)]
  exact va_getN (D := gD G) (ws := [(ρ x, .inr (ci, flds ρ M ci x))]) F.1 F.2.1 F.2.2.2.2.1 hF.2.2.2.2.2 F.o F.K (hD.2.1.one (vcell_obj hk hF.2.2.1)) 0 rfl hF.1 k hF.2.1 (F.t hF.2.2.2.1) (F.same hF.2.2.2.2.1) (flds_get hb) hd h
theorem sF_eq {ci k : Nat} {x v : Int} : sF M ci k x v = (M.1, M.2.1, fun c' k' x' => if c' = ci ∧ k' = k ∧ x' = x then v else M.2.2.1 c' k' x', M.2.2.2.1, M.2.2.2.2) := rfl
theorem kd_sF {ci k : Nat} {x v y : Int} : kd (sF M ci k x v) y = kd M y := rfl
theorem ln_sF {ci k : Nat} {x v y : Int} : ln (sF M ci k x v) y = ln M y := rfl
theorem el_sF {ci k t : Nat} {x v y z : Int} : el (sF M ci k x v) t y z = el M t y z := rfl
theorem kle_sF {ci k : Nat} {x v : Int} : kle M (sF M ci k x v) := ⟨fun _ _ => ⟨rfl, rfl⟩, Nat.le_refl _, Nat.le_refl _⟩
theorem MH_sF {ρ : Int → Nat} {H H1 : Heap} (h : MH G ρ M H) {ci k j : Nat} {b : Bool} {x v : Int} (hk : kd M x = ci + 1) (hc : ci < 99) (hb : (lay ci)[k]? = some b) (hv : okv M (b, v)) (hj : (wsO G ρ M)[j]? = some (ρ x, .inr (ci, flds ρ M ci x))) (hP1 : va_P (gD G) vwCl ((wsO G ρ M).set j (ρ x, .inr (ci, (flds ρ M ci x).set k (vl ρ (b, v))))) H1) : MH G ρ (sF M ci k x v) H1 := by
  rw [flds_set hb] at hP1
  refine MH.set h (vcell_obj hk hc) hj hP1 rfl rfl rfl (vcell_obj (M := sF M ci k x v) hk hc) ?_ ?_ ?_ ?_ (fun y k2 hy => (h.2.2.2.1 y).2 hy k2)
  · intro y hy
    have e1 : kd (_root_.id (sF M ci k x v)) y = kd M y := rfl
    by_cases z0 : kd M y = 0
    · unfold vcell
      rw [kd_sF, if_pos z0, if_pos z0]
    · by_cases z1 : kd M y < 100
      · obtain ⟨c, hcy⟩ : ∃ c, kd M y = c + 1 := ⟨kd M y - 1, by omega⟩
        rw [vcell_obj (M := sF M ci k x v) hcy (by omega), vcell_obj hcy (by omega)]
        congr 2
        congr 1
        refine flds_congr (fun k2 b2 hb2 => ?_)
        rw [fd_sF, if_neg (fun z => hy z.2.2)]
      · unfold vcell
        rw [kd_sF, if_neg z0, if_neg z1, if_neg z0, if_neg z1]
        rfl
  · intro c2 k2 y hy hl hb2
    rw [fd_sF]
    by_cases z : c2 = ci ∧ k2 = k ∧ y = x
    · rw [if_pos z]
      obtain ⟨rfl, rfl, rfl⟩ := z
      rw [hb] at hb2
      cases hb2
      exact hv rfl
    · rw [if_neg z]
      exact h.2.2.2.2.1 c2 k2 y hy hl hb2
  · intro t k2 y hy hl1 hl2
    exact h.2.2.2.2.2.1 t k2 y hy hl1 hl2
  · intro k2
    rfl
theorem fits_i {z : Int32} : fits .int (.int z) = true := rfl
theorem j_put (F : Fx p l R s m args meth c cc nL own G M0 d rt) {idx ci N k : Nat} {C ref : String} {T : u_T} {b : Bool} {x v : Int} (hF : FT own idx ref ci C T N k) (hb : (lay ci)[k]? = some b) (hfin : (T k).2.2.2 = false) (ty0 : Nat → FieldType) (hty : ∀ k, k < N → parseFieldDescriptor (T k).2.2.1 = some (ty0 k)) (hnm : ∀ a, a < N → ∀ b, b < N → a ≠ b → (T a).2.1 ≠ (T b).2.1) {ty : FieldType} (hdty : parseFieldDescriptor (T k).2.2.1 = some ty) (hn : ∀ ρ : Int → Nat, narrow ty (vl ρ (b, v)) = vl ρ (b, v) ∧ fits ty (vl ρ (b, v)) = true) (hk : kd M x = ci + 1) (hd : decode cc pc = .ok (.putfield idx, 3)) (kk : J p l e R s m args below meth c nL G ρ0 M0 rk res (sF M ci k x v) (pc + 3) lv st) : J p l e R s m args below meth c nL G ρ0 M0 rk res M pc lv ((b, v) :: (false, x) :: st) := by
  intro ρ H locs ls hD hl h1 h2
  rw [List.map_cons, List.map_cons, vl_pos (hD.2.1.px hk)]
  obtain ⟨j, hj⟩ := hD.2.1.ix (vcell_obj hk hF.2.2.1)
  refine va_put F.1 F.2.1 F.2.2.2.2.1 hF.2.2.2.2.2 ty0 hty hnm F.o F.K hD.2.1.hP hD.2.1.hD hD.1 j hj hF.1 k hF.2.1 (F.t hF.2.2.2.1) (F.same hF.2.2.2.2.1) hfin hdty (hn ρ).1 (hn ρ).2 (by rw [flds_len]; exact (List.getElem?_eq_some_iff.mp hb).1) hd (fun H1 locs1 q1 q2 q3 => ?_)
  exact kk ρ H1 locs1 ls (hD.new q3 (MH_sF hD.2.1 hk hF.2.2.1 hb h2.hd hj q1) ext.rf kle_sF hD.2.2.2.2.1 hD.2.2.2.2.2) hl h1 h2.tl.tl
theorem j_putF (F : Fx p l R s m args meth c cc nL own G M0 d rt) {idx ci N k : Nat} {C ref : String} {T : u_T} {b : Bool} {x v : Int} (hF : FT own idx ref ci C T N k) (hb : (lay ci)[k]? = some b) (hfin : (T k).2.2.2 = true) (hin : meth.name = "<init>") (hdecl : (T k).1 = own) (ty0 : Nat → FieldType) (hty : ∀ k, k < N → parseFieldDescriptor (T k).2.2.1 = some (ty0 k)) (hnm : ∀ a, a < N → ∀ b, b < N → a ≠ b → (T a).2.1 ≠ (T b).2.1) {ty : FieldType} (hdty : parseFieldDescriptor (T k).2.2.1 = some ty) (hn : ∀ ρ : Int → Nat, narrow ty (vl ρ (b, v)) = vl ρ (b, v) ∧ fits ty (vl ρ (b, v)) = true) (hk : kd M x = ci + 1) (hd : decode cc pc = .ok (.putfield idx, 3)) (kk : J p l e R s m args below meth c nL G ρ0 M0 rk res (sF M ci k x v) (pc + 3) lv st) : J p l e R s m args below meth c nL G ρ0 M0 rk res M pc lv ((b, v) :: (false, x) :: st) := by
  intro ρ H locs ls hD hl h1 h2
  rw [List.map_cons, List.map_cons, vl_pos (hD.2.1.px hk)]
  obtain ⟨j, hj⟩ := hD.2.1.ix (vcell_obj hk hF.2.2.1)
  refine va_putF F.1 F.2.1 F.2.2.2.2.1 hF.2.2.2.2.2 ty0 hty hnm F.o F.K hD.2.1.hP hD.2.1.hD hD.1 j hj hF.1 k hF.2.1 (F.t hF.2.2.2.1) (F.same hF.2.2.2.2.1) hfin hin hdecl hdty (hn ρ).1 (hn ρ).2 (by rw [flds_len]; exact (List.getElem?_eq_some_iff.mp hb).1) hd (fun H1 locs1 q1 q2 q3 => ?_)
  exact kk ρ H1 locs1 ls (hD.new q3 (MH_sF hD.2.1 hk hF.2.2.1 hb h2.hd hj q1) ext.rf kle_sF hD.2.2.2.2.1 hD.2.2.2.2.2) hl h1 h2.tl.tl
theorem j_putN (F : Fx p l R s m args meth c cc nL own G M0 d rt) {idx ci N k : Nat} {C ref host : String} {T : u_T} {b : Bool} {x v : Int} (hF : FTN own idx ref ci C T N k host) (hb : (lay ci)[k]? = some b) (hfin : (T k).2.2.2 = false) (ty0 : Nat → FieldType) (hty : ∀ k, k < N → parseFieldDescriptor (T k).2.2.1 = some (ty0 k)) (hnm : ∀ a, a < N → ∀ b, b < N → a ≠ b → (T a).2.1 ≠ (T b).2.1) {ty : FieldType} (hdty : parseFieldDescriptor (T k).2.2.1 = some ty) (hn : ∀ ρ : Int → Nat, narrow ty (vl ρ (b, v)) = vl ρ (b, v) ∧ fits ty (vl ρ (b, v)) = true) (hk : kd M x = ci + 1) (hd : decode cc pc = .ok (.putfield idx, 3)) (kk : J p l e R s m args below meth c nL G ρ0 M0 rk res (sF M ci k x v) (pc + 3) lv st) : J p l e R s m args below meth c nL G ρ0 M0 rk res M pc lv ((b, v) :: (false, x) :: st) := by
  intro ρ H locs ls hD hl h1 h2
  rw [List.map_cons, List.map_cons, vl_pos (hD.2.1.px hk)]
  obtain ⟨j, hj⟩ := hD.2.1.ix (vcell_obj hk hF.2.2.1)
  refine va_putN F.1 F.2.1 F.2.2.2.2.1 hF.2.2.2.2.2 ty0 hty hnm F.o F.K hD.2.1.hP hD.2.1.hD hD.1 j hj hF.1 k hF.2.1 (F.t hF.2.2.2.1) (F.same hF.2.2.2.2.1) hfin hdty (hn ρ).1 (hn ρ).2 (by rw [flds_len]; exact (List.getElem?_eq_some_iff.mp hb).1) hd (fun H1 locs1 q1 q2 q3 => ?_)
  exact kk ρ H1 locs1 ls (hD.new q3 (MH_sF hD.2.1 hk hF.2.2.1 hb h2.hd hj q1) ext.rf kle_sF hD.2.2.2.2.1 hD.2.2.2.2.2) hl h1 h2.tl.tl
end JH
