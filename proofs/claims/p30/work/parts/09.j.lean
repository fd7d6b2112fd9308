/-! the static side, the judgement, its rows -/
def EA2 (U : State) : Prop := EA U ∧ va_AO "ToolPlex$Message" U
theorem EA2.moved {u U : State} (hvm : u.vm.Alike U.vm) (h : EA2 u) : EA2 U := ⟨h.1.moved hvm, h.2.moved hvm⟩
def EH4 (G : Gt) (U : State) (H : Heap) : Prop := ED (ge G) (gC G 0) (gA G) U H ∧ (va_Z "ToolPlex" "NOTHING" "[I" (.ref (gn G)) (gA G) U H ∧ va_T .int (gn G) 0 (fun _ => .null) (gA G) U H) ∧ vx_Zq Bundle.tN "UNASSIGNED_STACK" Bundle.steD (gA G) U H ∧ vx_Zq Bundle.tN "SUPPRESSED_SENTINEL" Bundle.listD (gA G) U H ∧ va_T .int (gb G) (gL G) (fun j => .int (gx G j)) (gA G) U H
theorem EH4.moved {G : Gt} {u U : State} {H : Heap} (hvm : u.vm.Alike U.vm) (h : EH4 G u H) : EH4 G U H := ⟨⟨va_Z.moved hvm h.1.1, va_T.moved hvm h.1.2⟩, ⟨va_Z.moved hvm h.2.1.1, va_T.moved hvm h.2.1.2⟩, vx_Zq.moved hvm h.2.2.1, vx_Zq.moved hvm h.2.2.2.1, va_T.moved hvm h.2.2.2.2⟩
theorem EH4.kept {G : Gt} {U : State} {H H1 : Heap} (h : EH4 G U H) (hq : ∀ a : Nat, a < H.size → ¬ gA G a → H1[a]? = H[a]?) : EH4 G U H1 := ⟨⟨va_Z.kept h.1.1 hq, va_T.kept h.1.2 hq⟩, ⟨va_Z.kept h.2.1.1 hq, va_T.kept h.2.1.2 hq⟩, vx_Zq.kept h.2.2.1 hq, vx_Zq.kept h.2.2.2.1 hq, va_T.kept h.2.2.2.2 hq⟩
def ENc (U : State) : Prop := va_Nc "java/lang/IllegalArgumentException" "java/lang/IndexOutOfBoundsException" U ∧ va_Nc "java/lang/IllegalStateException" "java/lang/IndexOutOfBoundsException" U ∧ va_Nc "java/lang/IllegalStateException" "java/lang/IllegalArgumentException" U
theorem ENc.moved {u U : State} (hvm : u.vm.Alike U.vm) (h : ENc u) : ENc U := ⟨h.1.moved hvm, h.2.1.moved hvm, h.2.2.moved hvm⟩
def EN4 (G : Gt) (U : State) (H : Heap) : Prop := EA2 U ∧ ES U ∧ EH4 G U H ∧ va_Mi "[Ljava/lang/Object;" (gm G) U ∧ va_Dc U ∧ ENc U
theorem EN4.call {G : Gt} {s : State} {H : Heap} {locs : List Loc} (h : EN4 G s s.heap) (hS : va_S (gA G) s.heap H locs) : ∀ U : State, U.heap = H → s.WarmedH U.vm → EN4 G U U.heap := by
  intro U hU hW
  refine ⟨h.1.moved hW.alike, h.2.1.warm hW, ?_, h.2.2.2.1.moved hW.alike, h.2.2.2.2.1.moved hW.alike, h.2.2.2.2.2.moved hW.alike⟩
  rw [hU]
  exact (h.2.2.1.moved hW.alike).kept hS.2.1
def tysG (G : Gt) : List (ClassId × FieldType) := [(gC G 0, .int), (gC G 1, .char), (gC G 2, .boolean), (gC G 10, .object "java/lang/Object"), (gC G 11, .object "ToolPlex$Text"), (gC G 12, .object "ToolPlex$Copy"), (gC G 13, .object "ToolPlex$Items"), (gC G 14, .object "ToolPlex$Channel"), (gC G 15, .object "ToolPlex$Editor"), (gC G 16, .object "ToolPlex$Message")]
def MPre (G : Gt) (ρ : Int → Nat) (M : Mo) (args : List TV) (U : State) : Prop := EN4 G U U.heap ∧ va_K (gD G) vwCl (tysG G) U ∧ MH G ρ M U.heap ∧ (∀ v ∈ args, okv M v) ∧ gB G ≤ U.heap.size ∧ nc M ≤ CAPC ∧ ns M ≤ CAPS
theorem MPre.fb {av : List Value} {G : Gt} {ρ : Int → Nat} {M : Mo} {args : List TV} : FrameBlind (va_Pc av (MPre G ρ M args)) := by
  intro a U g mk h
  obtain ⟨h0, ⟨h1, h2, h3, h4, h5, h8⟩, h6, h7⟩ := h
  have hv : (U.calling g mk a).vm = U.vm := rfl
  exact ⟨h0, ⟨h1.moved (u := U) (U := U.calling g mk a) (Vm.Alike.refl U.vm), h2.same (u := U) (U := U.calling g mk a) rfl, h3.moved (u := U) (U := U.calling g mk a) (Vm.Alike.refl U.vm), h4.moved (u := U) (U := U.calling g mk a) (Vm.Alike.refl U.vm), h5.moved (u := U) (U := U.calling g mk a) (Vm.Alike.refl U.vm), h8.moved (u := U) (U := U.calling g mk a) (Vm.Alike.refl U.vm)⟩, va_K.moved (u := U) (U := U.calling g mk a) (Vm.Alike.refl U.vm) h6, h7⟩
def MPo (G : Gt) (ρ : Int → Nat) (M : Mo) (ρ' : Int → Nat) (M' : Mo) (t : State) : Prop := MH G ρ' M' t.heap ∧ ext M ρ ρ' ∧ kle M M' ∧ nc M' ≤ CAPC ∧ ns M' ≤ CAPS
def retv (ρ : Int → Nat) (rk : Nat) (v : Int) : Option Value := match rk with
  | 0 => none
  | 1 => some (.int (iI v))
  | _ => some (va_rf (ro ρ v))
def rtv (rk : Nat) (v : Int) : List TV := match rk with
  | 0 => []
  | 1 => [(true, v)]
  | _ => [(false, v)]
theorem rtv_map (ρ : Int → Nat) (rk : Nat) (v : Int) : (rtv rk v).map (vl ρ) = (retv ρ rk v).toList := by
  unfold rtv retv
  split <;> rfl
def exN (n : Int) : String := if n = 1 then "java/lang/IndexOutOfBoundsException" else if n = 2 then "java/lang/IllegalArgumentException" else "java/lang/IllegalStateException"
def QK (G : Gt) (ρ : Int → Nat) (M : Mo) (rk : Nat) (z : RS) : Array Value → State → Outcome → State → Prop := fun _ st oc t => z.1 = 0 ∧ ∃ ρ', oc = .returned (retv ρ' rk z.2.1) ∧ MPo G ρ M ρ' z.2.2 t ∧ (rk = 2 → okr z.2.2 z.2.1) ∧ va_F (gA G) st t
def XK (G : Gt) (ρ : Int → Nat) (M : Mo) (z : RS) : String → State → State → Prop := fun E st t => z.1 ≠ 0 ∧ E = exN z.1 ∧ ∃ ρ', MPo G ρ M ρ' z.2.2 t ∧ va_F (gA G) st t
def rmK (d : Nat) (M : Mo) : Room := { frames := d, cells := CAPC - nc M, slots := CAPS - ns M, locals := 45 * d }
/-- a method's contract: its model's answer z -/
def CT (l : Launch) (G : Gt) (y : MethodName) (ws : List Cond) (d : Nat) (args : List TV) (M : Mo) (rk : Nat) (z : RS) : Prop :=
  ∀ ρ : Int → Nat, vx_Met l y ws (rmK d M) (va_Pc (args.map (vl ρ)) (MPre G ρ M args)) (QK G ρ M rk z) (XK G ρ M z) (nc z.2.2 - nc M) (ns z.2.2 - ns M) (gA G)
def PreK (R : Room) (rm : Room) (Pc : Array Value → State → Prop) : Pt → Array Value → Prop := fun A a => A.cells + rm.cells ≤ R.cells ∧ A.slots + rm.slots ≤ R.slots ∧ Pc a A.U
section KB
variable {l : Launch} {R : Room} {p : Program} {e : Env} {below : List Frame} {s : State} {sargs : Array Value} {y : MethodName} {len W9 : Nat}
theorem kvx_back {ws : List Cond} {rm : Room} {Pc : Array Value → State → Prop} {Qc : Array Value → State → Outcome → State → Prop} {XC : String → State → State → Prop} {mc ms : Nat} {free : Addr → Prop} {bytes : ByteArray} {maxL : Nat} {ret : Option FieldType}
    (hM : vx_Met l y ws rm Pc Qc XC mc ms free) (hblind : FrameBlind Pc)
    (hframes : rm.frames + 1 ≤ R.frames) (hlocals : W9 + (maxL + 11) + rm.locals ≤ R.locals)
    (hws : ∀ w ∈ ws, ∀ a' U, s.WarmedH U.vm → w.before a' U = true) (hcode : Cond.code y bytes maxL ret ∈ ws) (hinit : ∀ a' U, s.WarmedH U.vm → (Cond.initialized y.cls).before a' U = true) :
    vx_Back l R p e below s sargs y len W9 (PreK R rm Pc) (PostOf Qc mc ms free) (vx_Post XC mc ms free) := by
  intro m meth c A g ig mk a X hg hsize hdg hW hn hp
  have h1 : (headSpec ws rm).pre.before a A.U = true := atoms_intro fun w hw => hws w hw _ _ X.warmed
  have h2 : (Cond.code y bytes maxL ret).before a A.U = true := hws _ hcode _ _ X.warmed
  have h3 : (Cond.initialized y.cls).before a A.U = true := hinit _ _ X.warmed
  have h4 : A.cells + (headSpec ws rm).room.cells ≤ R.cells := hp.1
  have h5 : A.slots + (headSpec ws rm).room.slots ≤ R.slots := hp.2.1
  have hPc : Pc a (A.U.calling g mk a) := hblind _ _ _ _ hp.2.2
  obtain ⟨U, Ls, c0, s0⟩ := A
  dsimp only [Pt.U, Pt.locs, Pt.cells, Pt.slots] at h1 h2 h3 h4 h5 X hn hPc ⊢
  obtain ⟨methY, cY, hmY, hcY, -, hlY, -, -, -, -⟩ := Cond.code_spec hn h2
  obtain ⟨kY, hkY, -⟩ := className_of_methodNamed hn
  have hinitY : kY.init = .initialized := Cond.initialized_spec (findClass_of_methodNamed hn) hkY h3
  have h : At U g.method c below := by rw [hg]; exact X.here
  have hlocals9 : W9 + (maxL + 11) + (headSpec ws rm).room.locals ≤ R.locals := hlocals
  have happ : (headSpec ws rm).appliesLoose y e.platform (U.calling g mk a) = true :=
    Spec.appliesLoose_calling (g := g) h hdg hn hkY hinitY
      (X.room_calling (g := g) (R' := (headSpec ws rm).room) hsize hmY hcY hframes (by rw [hlY]; omega) h4 h5) h1
  obtain ⟨mid, hmid⟩ := h.above
  have hfr : (U.setTop g).frames = (.java g :: mid) ++ below := by rw [State.frames_setTop' g h.top, hmid]; rfl
  obtain ⟨o, s₂, hsteps, -, hend, hq⟩ := Steps.callFree hM p X.admits X.cas X.clock (acts := []) hfr happ hPc trivial
  have hq' : vx_Q Qc XC mc ms free a (U.calling g mk a) o s₂ := hq
  rw [State.frames_setTop' g h.top] at hend
  obtain ⟨g₀, hg0⟩ := Option.isSome_iff_exists.mp h.top
  obtain ⟨r, hr⟩ := State.topJava?_eq_some.mp hg0
  have hr' : (({ U with heap := s₂.heap, slotsUsed := s₂.slotsUsed } : State).setVm s₂.vm).frames = .java g₀ :: r := hr
  rcases hq' with ⟨hqc, L, hfe, hL⟩ | ⟨q, rfl, E, ce, L, hx, hce, hcv, hcl, hW₂, hsm, hL⟩
  · obtain ⟨⟨v, rfl⟩, hW₂, e2, q2, q3, q4, q5, q6⟩ := id hfe
    have e3 : s₂ = ({ (U.calling g mk a).setFrames s₂.frames with heap := s₂.heap, slotsUsed := s₂.slotsUsed } : State).setVm s₂.vm := by
      have : s₂ = ({ s₂ with vm := (U.calling g mk a).vm } : State).setVm s₂.vm := rfl
      rw [e2] at this
      exact this
    obtain ⟨c₂, i₂, len₂, hc₂, hd₂, hf₂⟩ := hend
    have hW' : U.WarmedH s₂.vm := hW₂
    have hcc : c₂ = c := by
      have h1 : s₂.code? g.method = U.code? g.method := by
        rw [State.code?_eq, State.code?_eq, hW'.alike.method?]
      exact Option.some.inj (hc₂.symm.trans (h1.trans h.code))
    subst hcc
    have hlen : len₂ = len := by rw [hdg] at hd₂; cases hd₂; rfl
    subst hlen
    have hs₂ : s₂ = (({ U with heap := s₂.heap, slotsUsed := s₂.slotsUsed } : State).setVm s₂.vm).setTop { g with pc := g.pc + len₂, stack := v.toList ++ g.stack } := by
      refine e3.trans ?_
      rw [hf₂, State.calling_eq h.top, State.setFrames_setFrames, State.setTop_of_frames _ hr', hr]
      rfl
    have hsame : U.sameButNew ({ U with heap := s₂.heap, slotsUsed := s₂.slotsUsed } : State) L mc ms := by
      refine ⟨?_, q2, q3, q4, q5, q6⟩
      obtain ⟨t, ht, -⟩ := State.frames_cons hr
      show ({ U with heap := s₂.heap, slotsUsed := s₂.slotsUsed } : State) = { U.setFrames U.frames with heap := s₂.heap, slotsUsed := s₂.slotsUsed }
      rw [State.setFrames_self ht]
    subst hg
    refine Or.inl ⟨v, ⟨(({ U with heap := s₂.heap, slotsUsed := s₂.slotsUsed } : State).setVm s₂.vm), Ls ++ L, c0 + mc, s0 + ms⟩,
      ⟨X.admits, X.cas, X.clock, X.frames, X.room, X.hears, X.method, X.code, (X.here.setHeapUsed s₂.heap s₂.slotsUsed).setVm hW'.alike, X.tail, State.WarmedH.trans X.warmed hW', X.limits, X.bytes, X.same.trans (hsame.setVm s.vm)⟩,
      ⟨g, mk, s₂, L, rfl, rfl, hqc, rfl, hL, rfl, rfl⟩, ?_⟩
    show Steps p.tables e below _ ((({ U with heap := s₂.heap, slotsUsed := s₂.slotsUsed } : State).setVm s₂.vm).setTop { g with pc := g.pc + len₂, stack := v.toList ++ g.stack })
    rw [← hs₂]
    exact hsteps
  · obtain ⟨e2, q2, q3, q4, q5, q6⟩ := id hsm
    have e3 : s₂ = ({ (U.calling g mk a).setFrames s₂.frames with heap := s₂.heap, slotsUsed := s₂.slotsUsed } : State).setVm s₂.vm := by
      have : s₂ = ({ s₂ with vm := (U.calling g mk a).vm } : State).setVm s₂.vm := rfl
      rw [e2] at this
      exact this
    have hf₂ : s₂.frames = .throwing q :: .java g :: U.frames.tail := hend
    have hW' : U.WarmedH s₂.vm := hW₂
    have hs₂ : s₂ = ((({ U with heap := s₂.heap, slotsUsed := s₂.slotsUsed } : State).setVm s₂.vm).setTop g).pushFrame (.throwing q) := by
      refine e3.trans ?_
      rw [hf₂, State.calling_eq h.top, State.setFrames_setFrames, State.pushFrame, State.frames_setTop _ hr', State.setTop_of_frames _ hr', State.setFrames_setFrames, hr]
      rfl
    have hsame : U.sameButNew ({ U with heap := s₂.heap, slotsUsed := s₂.slotsUsed } : State) L mc ms := by
      refine ⟨?_, q2, q3, q4, q5, q6⟩
      obtain ⟨t, ht, -⟩ := State.frames_cons hr
      show ({ U with heap := s₂.heap, slotsUsed := s₂.slotsUsed } : State) = { U.setFrames U.frames with heap := s₂.heap, slotsUsed := s₂.slotsUsed }
      rw [State.setFrames_self ht]
    subst hg
    refine Or.inr ⟨q, ⟨(({ U with heap := s₂.heap, slotsUsed := s₂.slotsUsed } : State).setVm s₂.vm), Ls ++ L, c0 + mc, s0 + ms⟩,
      ⟨X.admits, X.cas, X.clock, X.frames, X.room, X.hears, X.method, X.code, (X.here.setHeapUsed s₂.heap s₂.slotsUsed).setVm hW'.alike, X.tail, State.WarmedH.trans X.warmed hW', X.limits, X.bytes, X.same.trans (hsame.setVm s.vm)⟩,
      ⟨g, mk, s₂, L, E, ce, rfl, rfl, hx, hce, hcv, hcl, rfl, hL, rfl, rfl⟩, ?_⟩
    show Steps p.tables e below _ (((({ U with heap := s₂.heap, slotsUsed := s₂.slotsUsed } : State).setVm s₂.vm).setTop g).pushFrame (.throwing q))
    rw [← hs₂]
    exact hsteps
theorem kvx_backW {ws : List Cond} {rm : Room} {Pc : Array Value → State → Prop} {Qc : Array Value → State → Outcome → State → Prop} {XC : String → State → State → Prop} {mc ms : Nat} {free : Addr → Prop} {bytes : ByteArray} {maxL : Nat} {ret : Option FieldType} {hh : List (Nat × Nat × Nat × Nat)}
    (hM : vx_Met l y ws rm Pc Qc XC mc ms free) (hblind : FrameBlind Pc)
    (hframes : rm.frames + 1 ≤ R.frames) (hlocals : W9 + (maxL + 11) + rm.locals ≤ R.locals)
    (hws : ∀ w ∈ ws, ∀ a' U, s.WarmedH U.vm → w.before a' U = true) (hcode : Cond.codeWith y bytes maxL ret hh ∈ ws) (hinit : ∀ a' U, s.WarmedH U.vm → (Cond.initialized y.cls).before a' U = true) :
    vx_Back l R p e below s sargs y len W9 (PreK R rm Pc) (PostOf Qc mc ms free) (vx_Post XC mc ms free) := by
  intro m meth c A g ig mk a X hg hsize hdg hW hn hp
  have h1 : (headSpec ws rm).pre.before a A.U = true := atoms_intro fun w hw => hws w hw _ _ X.warmed
  have h2 : (Cond.codeWith y bytes maxL ret hh).before a A.U = true := hws _ hcode _ _ X.warmed
  have h3 : (Cond.initialized y.cls).before a A.U = true := hinit _ _ X.warmed
  have h4 : A.cells + (headSpec ws rm).room.cells ≤ R.cells := hp.1
  have h5 : A.slots + (headSpec ws rm).room.slots ≤ R.slots := hp.2.1
  have hPc : Pc a (A.U.calling g mk a) := hblind _ _ _ _ hp.2.2
  obtain ⟨U, Ls, c0, s0⟩ := A
  dsimp only [Pt.U, Pt.locs, Pt.cells, Pt.slots] at h1 h2 h3 h4 h5 X hn hPc ⊢
  obtain ⟨m9, methY, cY, hn9, hmY, hcY, -, hlY, -⟩ := Cond.codeWith_spec h2
  cases Option.some.inj (hn9.symm.trans hn)
  obtain ⟨kY, hkY, -⟩ := className_of_methodNamed hn
  have hinitY : kY.init = .initialized := Cond.initialized_spec (findClass_of_methodNamed hn) hkY h3
  have h : At U g.method c below := by rw [hg]; exact X.here
  have hlocals9 : W9 + (maxL + 11) + (headSpec ws rm).room.locals ≤ R.locals := hlocals
  have happ : (headSpec ws rm).appliesLoose y e.platform (U.calling g mk a) = true :=
    Spec.appliesLoose_calling (g := g) h hdg hn hkY hinitY
      (X.room_calling (g := g) (R' := (headSpec ws rm).room) hsize hmY hcY hframes (by rw [hlY]; omega) h4 h5) h1
  obtain ⟨mid, hmid⟩ := h.above
  have hfr : (U.setTop g).frames = (.java g :: mid) ++ below := by rw [State.frames_setTop' g h.top, hmid]; rfl
  obtain ⟨o, s₂, hsteps, -, hend, hq⟩ := Steps.callFree hM p X.admits X.cas X.clock (acts := []) hfr happ hPc trivial
  have hq' : vx_Q Qc XC mc ms free a (U.calling g mk a) o s₂ := hq
  rw [State.frames_setTop' g h.top] at hend
  obtain ⟨g₀, hg0⟩ := Option.isSome_iff_exists.mp h.top
  obtain ⟨r, hr⟩ := State.topJava?_eq_some.mp hg0
  have hr' : (({ U with heap := s₂.heap, slotsUsed := s₂.slotsUsed } : State).setVm s₂.vm).frames = .java g₀ :: r := hr
  rcases hq' with ⟨hqc, L, hfe, hL⟩ | ⟨q, rfl, E, ce, L, hx, hce, hcv, hcl, hW₂, hsm, hL⟩
  · obtain ⟨⟨v, rfl⟩, hW₂, e2, q2, q3, q4, q5, q6⟩ := id hfe
    have e3 : s₂ = ({ (U.calling g mk a).setFrames s₂.frames with heap := s₂.heap, slotsUsed := s₂.slotsUsed } : State).setVm s₂.vm := by
      have : s₂ = ({ s₂ with vm := (U.calling g mk a).vm } : State).setVm s₂.vm := rfl
      rw [e2] at this
      exact this
    obtain ⟨c₂, i₂, len₂, hc₂, hd₂, hf₂⟩ := hend
    have hW' : U.WarmedH s₂.vm := hW₂
    have hcc : c₂ = c := by
      have h1 : s₂.code? g.method = U.code? g.method := by
        rw [State.code?_eq, State.code?_eq, hW'.alike.method?]
      exact Option.some.inj (hc₂.symm.trans (h1.trans h.code))
    subst hcc
    have hlen : len₂ = len := by rw [hdg] at hd₂; cases hd₂; rfl
    subst hlen
    have hs₂ : s₂ = (({ U with heap := s₂.heap, slotsUsed := s₂.slotsUsed } : State).setVm s₂.vm).setTop { g with pc := g.pc + len₂, stack := v.toList ++ g.stack } := by
      refine e3.trans ?_
      rw [hf₂, State.calling_eq h.top, State.setFrames_setFrames, State.setTop_of_frames _ hr', hr]
      rfl
    have hsame : U.sameButNew ({ U with heap := s₂.heap, slotsUsed := s₂.slotsUsed } : State) L mc ms := by
      refine ⟨?_, q2, q3, q4, q5, q6⟩
      obtain ⟨t, ht, -⟩ := State.frames_cons hr
      show ({ U with heap := s₂.heap, slotsUsed := s₂.slotsUsed } : State) = { U.setFrames U.frames with heap := s₂.heap, slotsUsed := s₂.slotsUsed }
      rw [State.setFrames_self ht]
    subst hg
    refine Or.inl ⟨v, ⟨(({ U with heap := s₂.heap, slotsUsed := s₂.slotsUsed } : State).setVm s₂.vm), Ls ++ L, c0 + mc, s0 + ms⟩,
      ⟨X.admits, X.cas, X.clock, X.frames, X.room, X.hears, X.method, X.code, (X.here.setHeapUsed s₂.heap s₂.slotsUsed).setVm hW'.alike, X.tail, State.WarmedH.trans X.warmed hW', X.limits, X.bytes, X.same.trans (hsame.setVm s.vm)⟩,
      ⟨g, mk, s₂, L, rfl, rfl, hqc, rfl, hL, rfl, rfl⟩, ?_⟩
    show Steps p.tables e below _ ((({ U with heap := s₂.heap, slotsUsed := s₂.slotsUsed } : State).setVm s₂.vm).setTop { g with pc := g.pc + len₂, stack := v.toList ++ g.stack })
    rw [← hs₂]
    exact hsteps
  · obtain ⟨e2, q2, q3, q4, q5, q6⟩ := id hsm
    have e3 : s₂ = ({ (U.calling g mk a).setFrames s₂.frames with heap := s₂.heap, slotsUsed := s₂.slotsUsed } : State).setVm s₂.vm := by
      have : s₂ = ({ s₂ with vm := (U.calling g mk a).vm } : State).setVm s₂.vm := rfl
      rw [e2] at this
      exact this
    have hf₂ : s₂.frames = .throwing q :: .java g :: U.frames.tail := hend
    have hW' : U.WarmedH s₂.vm := hW₂
    have hs₂ : s₂ = ((({ U with heap := s₂.heap, slotsUsed := s₂.slotsUsed } : State).setVm s₂.vm).setTop g).pushFrame (.throwing q) := by
      refine e3.trans ?_
      rw [hf₂, State.calling_eq h.top, State.setFrames_setFrames, State.pushFrame, State.frames_setTop _ hr', State.setTop_of_frames _ hr', State.setFrames_setFrames, hr]
      rfl
    have hsame : U.sameButNew ({ U with heap := s₂.heap, slotsUsed := s₂.slotsUsed } : State) L mc ms := by
      refine ⟨?_, q2, q3, q4, q5, q6⟩
      obtain ⟨t, ht, -⟩ := State.frames_cons hr
      show ({ U with heap := s₂.heap, slotsUsed := s₂.slotsUsed } : State) = { U.setFrames U.frames with heap := s₂.heap, slotsUsed := s₂.slotsUsed }
      rw [State.setFrames_self ht]
    subst hg
    refine Or.inr ⟨q, ⟨(({ U with heap := s₂.heap, slotsUsed := s₂.slotsUsed } : State).setVm s₂.vm), Ls ++ L, c0 + mc, s0 + ms⟩,
      ⟨X.admits, X.cas, X.clock, X.frames, X.room, X.hears, X.method, X.code, (X.here.setHeapUsed s₂.heap s₂.slotsUsed).setVm hW'.alike, X.tail, State.WarmedH.trans X.warmed hW', X.limits, X.bytes, X.same.trans (hsame.setVm s.vm)⟩,
      ⟨g, mk, s₂, L, E, ce, rfl, rfl, hx, hce, hcv, hcl, rfl, hL, rfl, rfl⟩, ?_⟩
    show Steps p.tables e below _ (((({ U with heap := s₂.heap, slotsUsed := s₂.slotsUsed } : State).setVm s₂.vm).setTop g).pushFrame (.throwing q))
    rw [← hs₂]
    exact hsteps
theorem kback_of {ws : List Cond} {rm : Room} {Pc : Array Value → State → Prop} {Qc : Array Value → State → Outcome → State → Prop} {mc ms : Nat} {free : Addr → Prop} {bytes : ByteArray} {maxL : Nat} {ret : Option FieldType}
    (hM : Met l y ws rm Pc Qc mc ms free) (hblind : FrameBlind Pc)
    (hframes : rm.frames + 1 ≤ R.frames) (hlocals : W9 + (maxL + 11) + rm.locals ≤ R.locals)
    (hws : ∀ w ∈ ws, ∀ a' U, s.WarmedH U.vm → w.before a' U = true) (hcode : Cond.code y bytes maxL ret ∈ ws) (hinit : ∀ a' U, s.WarmedH U.vm → (Cond.initialized y.cls).before a' U = true) :
    Back l R p e below s sargs y len W9 (PreK R rm Pc) (PostOf Qc mc ms free) := by
  refine Back.of_free (S := headSpec ws rm) (P := Pc) (K := fun _ _ _ _ _ => True) (Q := fun a st o t => Qc a st o t ∧ ∃ L, FrameEnd st o t L mc ms ∧ ∀ q ∈ L, free q.base) (bytes := bytes) (maxL := maxL) (ret := ret)
    (E := fun a st o t L k n => k = mc ∧ n = ms ∧ ∀ q ∈ L, free q.base) hM hframes hlocals ?_ ?_ (fun _ _ _ _ _ _ _ _ _ => trivial) ?_ ?_
  · intro m meth c A a X hp
    exact ⟨atoms_intro fun w hw => hws w hw _ _ X.warmed, hws _ hcode _ _ X.warmed, hinit _ _ X.warmed, hp.1, hp.2.1⟩
  · intro m meth c A a g mk X hp
    exact hblind _ _ _ _ hp.2.2
  · intro a st o t ⟨hq, L, hF, hL⟩
    exact ⟨L, mc, ms, hF, rfl, rfl, hL⟩
  · intro m meth c A a g mk v t L k n X hp hq hF ⟨e1, e2, hL⟩
    subst e1; subst e2
    exact ⟨g, mk, t, L, rfl, rfl, hq.1, rfl, hL, rfl, rfl⟩
theorem kmet {ws : List Cond} {rm : Room} {Pc : Array Value → State → Prop} {Qc : Array Value → State → Outcome → State → Prop} {XC : String → State → State → Prop} {mc ms : Nat} {free : Addr → Prop} (hM : vx_Met l y ws rm Pc Qc XC mc ms free) (hX : ∀ E st t, ¬ XC E st t) : Met l y ws rm Pc Qc mc ms free := by
  intro p e h1 h2 h3 s m args below h4 h5 h6 h7
  obtain ⟨n, o, a1, a2, a3, a4⟩ := hM p e h1 h2 h3 s m args below h4 h5 h6 h7
  refine ⟨n, o, a1, a2, a3, ?_⟩
  rcases a4 with a4 | ⟨q, -, E, ce, L, hx, -⟩
  · exact a4
  · exact absurd hx (hX _ _ _)
end KB
def Dn (G : Gt) (ρ0 : Int → Nat) (M0 : Mo) (s : State) (ρ : Int → Nat) (M : Mo) (H : Heap) (locs : List Loc) : Prop :=
  va_S (gA G) s.heap H locs ∧ MH G ρ M H ∧ kle M0 M ∧ ext M0 ρ0 ρ ∧ nc M ≤ CAPC ∧ ns M ≤ CAPS
def okl (M : Mo) (lv : List (Nat × TV)) : Prop := ∀ q ∈ lv, okv M q.2
def oks (M : Mo) (st : List TV) : Prop := ∀ q ∈ st, okv M q
def lvm (ρ : Int → Nat) (lv : List (Nat × TV)) : List (Nat × Value) := lv.map fun q => (q.1, vl ρ q.2)
theorem lvm_ext {M : Mo} {ρ ρ' : Int → Nat} {lv : List (Nat × TV)} (h : ext M ρ ρ') (hv : okl M lv) : lvm ρ' lv = lvm ρ lv := by
  apply List.map_congr_left
  intro q hq
  rw [vl_ext h (hv q hq)]
theorem oks_ext {M : Mo} {ρ ρ' : Int → Nat} {st : List TV} (h : ext M ρ ρ') (hv : oks M st) : st.map (vl ρ') = st.map (vl ρ) := by
  apply List.map_congr_left
  intro q hq
  exact vl_ext h (hv q hq)
theorem okv.up {M M' : Mo} {v : TV} (h : kle M M') (hv : okv M v) : okv M' v := fun e => (hv e).up h
theorem okl.up {M M' : Mo} {lv : List (Nat × TV)} (h : kle M M') (hv : okl M lv) : okl M' lv := fun q hq => (hv q hq).up h
theorem oks.up {M M' : Mo} {st : List TV} (h : kle M M') (hv : oks M st) : oks M' st := fun q hq => (hv q hq).up h
theorem oks.tl {M : Mo} {a : TV} {st : List TV} (h : oks M (a :: st)) : oks M st := fun q hq => h q (List.mem_cons_of_mem _ hq)
theorem oks.hd {M : Mo} {a : TV} {st : List TV} (h : oks M (a :: st)) : okv M a := h a List.mem_cons_self
theorem oks.mk {M : Mo} {a : TV} {st : List TV} (ha : okv M a) (h : oks M st) : oks M (a :: st) := fun q hq => (List.mem_cons.mp hq).elim (fun e => by rw [e]; exact ha) (h q)
theorem okv.i {M : Mo} {z : Int} : okv M (true, z) := fun h => by cases h
theorem okv.n {M : Mo} : okv M (false, 0) := fun _ => Or.inl rfl
theorem okv.k {M : Mo} {x : Int} (h : kd M x ≠ 0) : okv M (false, x) := fun _ => Or.inr h
theorem oks.nil {M : Mo} : oks M [] := fun q hq => by cases hq
section JS
variable {p : Program} {l : Launch} {e : Env} {R : Room} {s : State} {m : MethodId} {args : Array Value} {below : List Frame} {meth : Method} {c : Code}
variable {cc : ByteArray} {nL : Nat} {own : String} {G : Gt} {ρ0 : Int → Nat} {M0 : Mo} {d : Nat} {rt : Option FieldType} {rk : Nat} {res : RS}
/-- what stands still while a method runs -/
def Fx (p : Program) (l : Launch) (R : Room) (s : State) (m : MethodId) (args : Array Value) (meth : Method) (c : Code) (cc : ByteArray) (nL : Nat) (own : String) (G : Gt) (M0 : Mo) (d : Nat) (rt : Option FieldType) : Prop :=
  p.tables.exec = Jvm.exec ∧ c.code = cc ∧ c.maxLocals = nL ∧ s.vm.findClass own = some m.cls ∧ (∀ w ∈ GT, w.before args s = true) ∧ EN4 G s s.heap ∧ va_K (gD G) vwCl (tysG G) s ∧ meth.locks = false ∧ meth.sig.returnType = rt ∧ l.stackTraces = false ∧ R = rmK d M0 ∧ gB G ≤ s.heap.size
def J (p : Program) (l : Launch) (e : Env) (R : Room) (s : State) (m : MethodId) (args : Array Value) (below : List Frame) (meth : Method) (c : Code) (nL : Nat) (G : Gt) (ρ0 : Int → Nat) (M0 : Mo) (rk : Nat) (res : RS) (M : Mo) (pc : Nat) (lv : List (Nat × TV)) (st : List TV) : Prop :=
  ∀ (ρ : Int → Nat) (H : Heap) (locs : List Loc) (ls : Array Slot), Dn G ρ0 M0 s ρ M H locs → lv_has ls nL (lvm ρ lv) → okl M lv → oks M st →
    W p l e R s m args below meth c H locs (nc M - nc M0) (ns M - ns M0) (vx_MQ below (QK G ρ0 M0 rk res) (XK G ρ0 M0 res) args s (nc res.2.2 - nc M0) (ns res.2.2 - ns M0) (gA G)) (F0 m pc ls (st.map (vl ρ)))
variable {M : Mo} {pc : Nat} {lv : List (Nat × TV)} {st : List TV}
theorem okl.at {k i : Nat} {v : TV} (h : okl M lv) (hk : lv[k]? = some (i, v)) : okv M v := h (i, v) (List.mem_of_getElem? hk)
theorem lvm_at {ρ : Int → Nat} {k i : Nat} {v : TV} (hk : lv[k]? = some (i, v)) : (lvm ρ lv)[k]? = some (i, vl ρ v) := by
  unfold lvm
  rw [List.getElem?_map, hk]
  rfl
/-- locals: some of those that are listed, by their places -/
theorem j_sub {lv' : List (Nat × TV)} (ks : List Nat) (h : ks.filterMap (fun i => lv[i]?) = lv') (k : J p l e R s m args below meth c nL G ρ0 M0 rk res M pc lv' st) : J p l e R s m args below meth c nL G ρ0 M0 rk res M pc lv st := by
  subst h
  intro ρ H locs ls hD hl h1 h2
  have hm : ∀ q ∈ ks.filterMap (fun i => lv[i]?), q ∈ lv := fun q hq => by
    obtain ⟨i, -, hi⟩ := List.mem_filterMap.mp hq
    exact List.mem_of_getElem? hi
  refine k ρ H locs ls hD ⟨hl.1, hl.2.1, fun q hq => ?_⟩ (fun q hq => h1 q (hm q hq)) h2
  obtain ⟨a, ha, rfl⟩ := List.mem_map.mp hq
  exact hl.2.2 _ (List.mem_map.mpr ⟨a, hm a ha, rfl⟩)
theorem j_iconst (F : Fx p l R s m args meth c cc nL own G M0 d rt) {n : Int} (hd : decode cc pc = .ok (.iconst n, 1)) (k : J p l e R s m args below meth c nL G ρ0 M0 rk res M (pc + 1) lv ((true, n) :: st)) : J p l e R s m args below meth c nL G ρ0 M0 rk res M pc lv st :=
  fun ρ H locs ls hD hl h1 h2 => lv_iconst (v := iI n) F.1 F.2.1 hd rfl (k ρ H locs ls hD hl h1 (oks.mk okv.i h2))
theorem j_bipush (F : Fx p l R s m args meth c cc nL own G M0 d rt) {n : Int} (hv : (Int8.ofInt n).toInt32 = iI n) (hd : decode cc pc = .ok (.bipush n, 2)) (k : J p l e R s m args below meth c nL G ρ0 M0 rk res M (pc + 2) lv ((true, n) :: st)) : J p l e R s m args below meth c nL G ρ0 M0 rk res M pc lv st :=
  fun ρ H locs ls hD hl h1 h2 => lv_bipush (v := iI n) F.1 F.2.1 hd hv (k ρ H locs ls hD hl h1 (oks.mk okv.i h2))
theorem j_sipush (F : Fx p l R s m args meth c cc nL own G M0 d rt) {n : Int} (hv : (Int16.ofInt n).toInt32 = iI n) (hd : decode cc pc = .ok (.sipush n, 3)) (k : J p l e R s m args below meth c nL G ρ0 M0 rk res M (pc + 3) lv ((true, n) :: st)) : J p l e R s m args below meth c nL G ρ0 M0 rk res M pc lv st :=
  fun ρ H locs ls hD hl h1 h2 => lv_sipush (v := iI n) F.1 F.2.1 hd hv (k ρ H locs ls hD hl h1 (oks.mk okv.i h2))
theorem j_ldc (F : Fx p l R s m args meth c cc nL own G M0 d rt) {i : Nat} {n : Int} (hw : Cond.constant own i (iI n) ∈ GT) (hd : decode cc pc = .ok (.ldc i, 2)) (k : J p l e R s m args below meth c nL G ρ0 M0 rk res M (pc + 2) lv ((true, n) :: st)) : J p l e R s m args below meth c nL G ρ0 M0 rk res M pc lv st :=
  fun ρ H locs ls hD hl h1 h2 => lv_ldc (v := iI n) F.1 F.2.1 F.2.2.2.1 (F.2.2.2.2.1 _ hw) hd (k ρ H locs ls hD hl h1 (oks.mk okv.i h2))
theorem j_ldcw (F : Fx p l R s m args meth c cc nL own G M0 d rt) {i : Nat} {n : Int} (hw : Cond.constant own i (iI n) ∈ GT) (hd : decode cc pc = .ok (.ldc_w i, 3)) (k : J p l e R s m args below meth c nL G ρ0 M0 rk res M (pc + 3) lv ((true, n) :: st)) : J p l e R s m args below meth c nL G ρ0 M0 rk res M pc lv st :=
  fun ρ H locs ls hD hl h1 h2 => lv_ldcw (v := iI n) F.1 F.2.1 F.2.2.2.1 (F.2.2.2.2.1 _ hw) hd (k ρ H locs ls hD hl h1 (oks.mk okv.i h2))
theorem j_null (F : Fx p l R s m args meth c cc nL own G M0 d rt) (hd : decode cc pc = .ok (.aconst_null, 1)) (k : J p l e R s m args below meth c nL G ρ0 M0 rk res M (pc + 1) lv ((false, 0) :: st)) : J p l e R s m args below meth c nL G ρ0 M0 rk res M pc lv st := by
  intro ρ H locs ls hD hl h1 h2
  have h := k ρ H locs ls hD hl h1 (oks.mk okv.n h2)
  rw [List.map_cons, vl_0] at h
  exact lv_null F.1 F.2.1 hd h
theorem j_iload_n (F : Fx p l R s m args meth c cc nL own G M0 d rt) {k : Fin 4} (j : Nat) {i : Nat} {z : Int} (hk : lv[j]? = some (i, (true, z))) (hi : (k : Nat) = i) (hd : decode cc pc = .ok (.iload_n k, 1)) (kk : J p l e R s m args below meth c nL G ρ0 M0 rk res M (pc + 1) lv ((true, z) :: st)) : J p l e R s m args below meth c nL G ρ0 M0 rk res M pc lv st :=
  fun ρ H locs ls hD hl h1 h2 => lv_iload_n F.1 F.2.1 hd hi (lv_at hl j (lvm_at hk)) (kk ρ H locs ls hD hl h1 (oks.mk okv.i h2))
theorem j_iload (F : Fx p l R s m args meth c cc nL own G M0 d rt) (j : Nat) {i : Nat} {z : Int} (hk : lv[j]? = some (i, (true, z))) (hd : decode cc pc = .ok (.iload i, 2)) (kk : J p l e R s m args below meth c nL G ρ0 M0 rk res M (pc + 2) lv ((true, z) :: st)) : J p l e R s m args below meth c nL G ρ0 M0 rk res M pc lv st :=
  fun ρ H locs ls hD hl h1 h2 => lv_iload F.1 F.2.1 hd (lv_at hl j (lvm_at hk)) (kk ρ H locs ls hD hl h1 (oks.mk okv.i h2))
theorem vl_cases (ρ : Int → Nat) (x : Int) : vl ρ (false, x) = .null ∨ ∃ q, vl ρ (false, x) = .ref q := by
  show va_rf (ro ρ x) = _ ∨ ∃ q, va_rf (ro ρ x) = _
  unfold ro
  by_cases h : x ≤ 0
  · rw [if_pos h]; exact Or.inl rfl
  · rw [if_neg h]; exact Or.inr ⟨_, rfl⟩
theorem j_aload_n (F : Fx p l R s m args meth c cc nL own G M0 d rt) {k : Fin 4} (j : Nat) {i : Nat} {z : Int} (hk : lv[j]? = some (i, (false, z))) (hi : (k : Nat) = i) (hd : decode cc pc = .ok (.aload_n k, 1)) (kk : J p l e R s m args below meth c nL G ρ0 M0 rk res M (pc + 1) lv ((false, z) :: st)) : J p l e R s m args below meth c nL G ρ0 M0 rk res M pc lv st := by
  intro ρ H locs ls hD hl h1 h2
  have h := kk ρ H locs ls hD hl h1 (oks.mk (h1.at hk) h2)
  have ha := lv_at hl j (lvm_at hk)
  rw [List.map_cons] at h
  rcases vl_cases ρ z with g | ⟨q, g⟩
  · rw [g] at h ha
    exact lv_aload_nN F.1 F.2.1 hd hi ha h
  · rw [g] at h ha
    exact lv_aload_n F.1 F.2.1 hd hi ha h
theorem j_aload (F : Fx p l R s m args meth c cc nL own G M0 d rt) (j : Nat) {i : Nat} {z : Int} (hk : lv[j]? = some (i, (false, z))) (hd : decode cc pc = .ok (.aload i, 2)) (kk : J p l e R s m args below meth c nL G ρ0 M0 rk res M (pc + 2) lv ((false, z) :: st)) : J p l e R s m args below meth c nL G ρ0 M0 rk res M pc lv st := by
  intro ρ H locs ls hD hl h1 h2
  have h := kk ρ H locs ls hD hl h1 (oks.mk (h1.at hk) h2)
  have ha := lv_at hl j (lvm_at hk)
  rw [List.map_cons] at h
  rcases vl_cases ρ z with g | ⟨q, g⟩
  · rw [g] at h ha
    exact lv_aloadN F.1 F.2.1 hd ha h
  · rw [g] at h ha
    exact lv_aload F.1 F.2.1 hd ha h
def stl (lv : List (Nat × TV)) (i : Nat) (v : TV) : List (Nat × TV) := (i, v) :: lv.filter (fun q => !(q.1 == i))
theorem lvm_st {ρ : Int → Nat} {i : Nat} {v : TV} : (i, vl ρ v) :: (lvm ρ lv).filter (fun q => !(q.1 == i) && !(q.1 + 1 == i && q.2.category == 2)) = lvm ρ (stl lv i v) := by
  unfold stl lvm
  rw [List.map_cons, List.filter_map]
  congr 2
  apply List.filter_congr
  intro q hq
  have : (vl ρ q.2).category = 1 := vl_cat ρ q.2
  simp [Function.comp, this]
theorem okl_st {i : Nat} {v : TV} (h : okl M lv) (hv : okv M v) : okl M (stl lv i v) := by
  intro q hq
  rcases List.mem_cons.mp hq with e | e
  · rw [e]; exact hv
  · exact h q (List.mem_filter.mp e).1
theorem j_istore_n (F : Fx p l R s m args meth c cc nL own G M0 d rt) {k : Fin 4} {i : Nat} {z : Int} {lv' : List (Nat × TV)} (hi : (k : Nat) = i) (hn : i < nL) (hl' : stl lv i (true, z) = lv') (hd : decode cc pc = .ok (.istore_n k, 1)) (kk : J p l e R s m args below meth c nL G ρ0 M0 rk res M (pc + 1) lv' st) : J p l e R s m args below meth c nL G ρ0 M0 rk res M pc lv ((true, z) :: st) := by
  subst hl'
  intro ρ H locs ls hD hl h1 h2
  exact lv_istore_n F.1 F.2.1 hd hi hl hn (lvm_st (ρ := ρ) (lv := lv) (i := i) (v := (true, z))) (fun ls' hl2 => kk ρ H locs ls' hD hl2 (okl_st h1 okv.i) h2.tl)
theorem j_istore (F : Fx p l R s m args meth c cc nL own G M0 d rt) {i : Nat} {z : Int} {lv' : List (Nat × TV)} (hn : i < nL) (hl' : stl lv i (true, z) = lv') (hd : decode cc pc = .ok (.istore i, 2)) (kk : J p l e R s m args below meth c nL G ρ0 M0 rk res M (pc + 2) lv' st) : J p l e R s m args below meth c nL G ρ0 M0 rk res M pc lv ((true, z) :: st) := by
  subst hl'
  intro ρ H locs ls hD hl h1 h2
  exact lv_istore F.1 F.2.1 hd hl hn (lvm_st (ρ := ρ) (lv := lv) (i := i) (v := (true, z))) (fun ls' hl2 => kk ρ H locs ls' hD hl2 (okl_st h1 okv.i) h2.tl)
theorem j_astore_n (F : Fx p l R s m args meth c cc nL own G M0 d rt) {k : Fin 4} {i : Nat} {z : Int} {lv' : List (Nat × TV)} (hi : (k : Nat) = i) (hn : i < nL) (hl' : stl lv i (false, z) = lv') (hd : decode cc pc = .ok (.astore_n k, 1)) (kk : J p l e R s m args below meth c nL G ρ0 M0 rk res M (pc + 1) lv' st) : J p l e R s m args below meth c nL G ρ0 M0 rk res M pc lv ((false, z) :: st) := by
  subst hl'
  intro ρ H locs ls hD hl h1 h2
  have hk := fun ls' hl2 => kk ρ H locs ls' hD hl2 (okl_st h1 h2.hd) h2.tl
  have e := lvm_st (ρ := ρ) (lv := lv) (i := i) (v := (false, z))
  rw [List.map_cons]
  rcases vl_cases ρ z with g | ⟨q, g⟩
  · rw [g] at e ⊢
    exact lv_astore_nN F.1 F.2.1 hd hi hl hn e hk
  · rw [g] at e ⊢
    exact lv_astore_n F.1 F.2.1 hd hi hl hn e hk
theorem j_astore (F : Fx p l R s m args meth c cc nL own G M0 d rt) {i : Nat} {z : Int} {lv' : List (Nat × TV)} (hn : i < nL) (hl' : stl lv i (false, z) = lv') (hd : decode cc pc = .ok (.astore i, 2)) (kk : J p l e R s m args below meth c nL G ρ0 M0 rk res M (pc + 2) lv' st) : J p l e R s m args below meth c nL G ρ0 M0 rk res M pc lv ((false, z) :: st) := by
  subst hl'
  intro ρ H locs ls hD hl h1 h2
  have hk := fun ls' hl2 => kk ρ H locs ls' hD hl2 (okl_st h1 h2.hd) h2.tl
  have e := lvm_st (ρ := ρ) (lv := lv) (i := i) (v := (false, z))
  rw [List.map_cons]
  rcases vl_cases ρ z with g | ⟨q, g⟩
  · rw [g] at e ⊢
    exact lv_astoreN F.1 F.2.1 hd hl hn e hk
  · rw [g] at e ⊢
    exact lv_astore F.1 F.2.1 hd hl hn e hk
theorem j_iinc (F : Fx p l R s m args meth c cc nL own G M0 d rt) (j : Nat) {i : Nat} {n z : Int} {lv' : List (Nat × TV)} (hk : lv[j]? = some (i, (true, z))) (hn : i < nL) (hl' : stl lv i (true, z + n) = lv') (hd : decode cc pc = .ok (.iinc i n, 3)) (kk : J p l e R s m args below meth c nL G ρ0 M0 rk res M (pc + 3) lv' st) : J p l e R s m args below meth c nL G ρ0 M0 rk res M pc lv st := by
  subst hl'
  intro ρ H locs ls hD hl h1 h2
  exact lv_iinc (v := iI (z + n)) F.1 F.2.1 hd hl (lvm_at hk) (iI_add z n) hn (lvm_st (ρ := ρ) (lv := lv) (i := i) (v := (true, z + n))) (fun ls' hl2 => kk ρ H locs ls' hD hl2 (okl_st h1 okv.i) h2)
theorem j_dup (F : Fx p l R s m args meth c cc nL own G M0 d rt) {v : TV} (hd : decode cc pc = .ok (.dup, 1)) (kk : J p l e R s m args below meth c nL G ρ0 M0 rk res M (pc + 1) lv (v :: v :: st)) : J p l e R s m args below meth c nL G ρ0 M0 rk res M pc lv (v :: st) :=
  fun ρ H locs ls hD hl h1 h2 => lv_dup F.1 F.2.1 hd (vl_cat ρ v) (kk ρ H locs ls hD hl h1 (oks.mk h2.hd h2))
theorem j_dup_x1 (F : Fx p l R s m args meth c cc nL own G M0 d rt) {v w : TV} (hd : decode cc pc = .ok (.dup_x1, 1)) (kk : J p l e R s m args below meth c nL G ρ0 M0 rk res M (pc + 1) lv (v :: w :: v :: st)) : J p l e R s m args below meth c nL G ρ0 M0 rk res M pc lv (v :: w :: st) :=
  fun ρ H locs ls hD hl h1 h2 => lv_dup_x1 F.1 F.2.1 hd (vl_cat ρ v) (vl_cat ρ w) (kk ρ H locs ls hD hl h1 (oks.mk h2.hd (oks.mk h2.tl.hd (oks.mk h2.hd h2.tl.tl))))
theorem j_dup2 (F : Fx p l R s m args meth c cc nL own G M0 d rt) {v w : TV} (hd : decode cc pc = .ok (.dup2, 1)) (kk : J p l e R s m args below meth c nL G ρ0 M0 rk res M (pc + 1) lv (v :: w :: v :: w :: st)) : J p l e R s m args below meth c nL G ρ0 M0 rk res M pc lv (v :: w :: st) :=
  fun ρ H locs ls hD hl h1 h2 => lv_dup2_11 F.1 F.2.1 hd (vl_cat ρ v) (vl_cat ρ w) (kk ρ H locs ls hD hl h1 (oks.mk h2.hd (oks.mk h2.tl.hd h2)))
theorem j_pop (F : Fx p l R s m args meth c cc nL own G M0 d rt) {v : TV} (hd : decode cc pc = .ok (.pop, 1)) (kk : J p l e R s m args below meth c nL G ρ0 M0 rk res M (pc + 1) lv st) : J p l e R s m args below meth c nL G ρ0 M0 rk res M pc lv (v :: st) :=
  fun ρ H locs ls hD hl h1 h2 => lv_pop F.1 F.2.1 hd (vl_cat ρ v) (kk ρ H locs ls hD hl h1 h2.tl)
theorem j_iadd (F : Fx p l R s m args meth c cc nL own G M0 d rt) {a b : Int} (hd : decode cc pc = .ok (.iadd, 1)) (kk : J p l e R s m args below meth c nL G ρ0 M0 rk res M (pc + 1) lv ((true, a + b) :: st)) : J p l e R s m args below meth c nL G ρ0 M0 rk res M pc lv ((true, b) :: (true, a) :: st) := by
  intro ρ H locs ls hD hl h1 h2
  have h := kk ρ H locs ls hD hl h1 (oks.mk okv.i h2.tl.tl)
  refine lv_iadd F.1 F.2.1 hd ?_
  rw [iI_add a b]
  exact h
theorem j_isub (F : Fx p l R s m args meth c cc nL own G M0 d rt) {a b : Int} (hd : decode cc pc = .ok (.isub, 1)) (kk : J p l e R s m args below meth c nL G ρ0 M0 rk res M (pc + 1) lv ((true, a - b) :: st)) : J p l e R s m args below meth c nL G ρ0 M0 rk res M pc lv ((true, b) :: (true, a) :: st) := by
  intro ρ H locs ls hD hl h1 h2
  have h := kk ρ H locs ls hD hl h1 (oks.mk okv.i h2.tl.tl)
  refine lv_isub F.1 F.2.1 hd ?_
  rw [iI_sub a b]
  exact h
theorem j_imul (F : Fx p l R s m args meth c cc nL own G M0 d rt) {a b : Int} (hd : decode cc pc = .ok (.imul, 1)) (kk : J p l e R s m args below meth c nL G ρ0 M0 rk res M (pc + 1) lv ((true, a * b) :: st)) : J p l e R s m args below meth c nL G ρ0 M0 rk res M pc lv ((true, b) :: (true, a) :: st) := by
  intro ρ H locs ls hD hl h1 h2
  have h := kk ρ H locs ls hD hl h1 (oks.mk okv.i h2.tl.tl)
  refine lv_imul F.1 F.2.1 hd ?_
  rw [iI_mul a b]
  exact h
theorem j_iand (F : Fx p l R s m args meth c cc nL own G M0 d rt) {a b : Int} (hd : decode cc pc = .ok (.iand, 1)) (kk : J p l e R s m args below meth c nL G ρ0 M0 rk res M (pc + 1) lv ((true, iand a b) :: st)) : J p l e R s m args below meth c nL G ρ0 M0 rk res M pc lv ((true, b) :: (true, a) :: st) := by
  intro ρ H locs ls hD hl h1 h2
  have h := kk ρ H locs ls hD hl h1 (oks.mk okv.i h2.tl.tl)
  have e : iI (iand a b) = _ := (iI_of _).symm
  rw [List.map_cons, show vl ρ (true, iand a b) = .int (iI (iand a b)) from rfl, e] at h
  exact lv_iand F.1 F.2.1 hd h
theorem j_ishr (F : Fx p l R s m args meth c cc nL own G M0 d rt) {a b : Int} (hd : decode cc pc = .ok (.ishr, 1)) (kk : J p l e R s m args below meth c nL G ρ0 M0 rk res M (pc + 1) lv ((true, ishr a b) :: st)) : J p l e R s m args below meth c nL G ρ0 M0 rk res M pc lv ((true, b) :: (true, a) :: st) := by
  intro ρ H locs ls hD hl h1 h2
  have h := kk ρ H locs ls hD hl h1 (oks.mk okv.i h2.tl.tl)
  have e : iI (ishr a b) = _ := (iI_of _).symm
  rw [List.map_cons, show vl ρ (true, ishr a b) = .int (iI (ishr a b)) from rfl, e] at h
  exact lv_ishr F.1 F.2.1 hd h
theorem j_idiv (F : Fx p l R s m args meth c cc nL own G M0 d rt) {a b : Int} (hz : ¬ iI b = 0) (hd : decode cc pc = .ok (.idiv, 1)) (kk : J p l e R s m args below meth c nL G ρ0 M0 rk res M (pc + 1) lv ((true, idv a b) :: st)) : J p l e R s m args below meth c nL G ρ0 M0 rk res M pc lv ((true, b) :: (true, a) :: st) := by
  intro ρ H locs ls hD hl h1 h2
  have h := kk ρ H locs ls hD hl h1 (oks.mk okv.i h2.tl.tl)
  have e : iI (idv a b) = _ := (iI_of _).symm
  rw [List.map_cons, show vl ρ (true, idv a b) = .int (iI (idv a b)) from rfl, e] at h
  exact lv_idiv F.1 F.2.1 hd hz h
theorem j_irem (F : Fx p l R s m args meth c cc nL own G M0 d rt) {a b : Int} (hz : ¬ iI b = 0) (hd : decode cc pc = .ok (.irem, 1)) (kk : J p l e R s m args below meth c nL G ρ0 M0 rk res M (pc + 1) lv ((true, irm a b) :: st)) : J p l e R s m args below meth c nL G ρ0 M0 rk res M pc lv ((true, b) :: (true, a) :: st) := by
  intro ρ H locs ls hD hl h1 h2
  have h := kk ρ H locs ls hD hl h1 (oks.mk okv.i h2.tl.tl)
  have e : iI (irm a b) = _ := (iI_of _).symm
  rw [List.map_cons, show vl ρ (true, irm a b) = .int (iI (irm a b)) from rfl, e] at h
  exact lv_irem F.1 F.2.1 hd hz h
theorem j_i2c (F : Fx p l R s m args meth c cc nL own G M0 d rt) {a : Int} (hd : decode cc pc = .ok (.i2c, 1)) (kk : J p l e R s m args below meth c nL G ρ0 M0 rk res M (pc + 1) lv ((true, c16 a) :: st)) : J p l e R s m args below meth c nL G ρ0 M0 rk res M pc lv ((true, a) :: st) :=
  fun ρ H locs ls hD hl h1 h2 => lv_i2c F.1 F.2.1 hd (iI_of _) (kk ρ H locs ls hD hl h1 (oks.mk okv.i h2.tl))
theorem j_goto (F : Fx p l R s m args meth c cc nL own G M0 d rt) {off : Int} (tgt : Nat) (ht : (pc : Int) + off = (tgt : Int)) (hd : decode cc pc = .ok (.goto off, 3)) (kk : J p l e R s m args below meth c nL G ρ0 M0 rk res M tgt lv st) : J p l e R s m args below meth c nL G ρ0 M0 rk res M pc lv st :=
  fun ρ H locs ls hD hl h1 h2 => lv_goto F.1 F.2.1 hd ht (kk ρ H locs ls hD hl h1 h2)
theorem j_icmp_lt (F : Fx p l R s m args meth c cc nL own G M0 d rt) {a b off : Int} (tgt : Nat) (ht : (pc : Int) + off = (tgt : Int)) (hd : decode cc pc = .ok (.if_icmp .lt off, 3)) {A B : Option RS} (h : (if wr a < wr b then A else B) = some res) (kt : A = some res → J p l e R s m args below meth c nL G ρ0 M0 rk res M tgt lv st) (kf : B = some res → J p l e R s m args below meth c nL G ρ0 M0 rk res M (pc + 3) lv st) : J p l e R s m args below meth c nL G ρ0 M0 rk res M pc lv ((true, b) :: (true, a) :: st) :=
  fun ρ H locs ls hD hl h1 h2 => lv_icmp_lt F.1 F.2.1 hd ht (fun q => kt ((if_pos ((wr_lt a b).mp q)).symm.trans h) ρ H locs ls hD hl h1 h2.tl.tl) (fun q => kf ((if_neg (fun z => q ((wr_lt a b).mpr z))).symm.trans h) ρ H locs ls hD hl h1 h2.tl.tl)
theorem zlt (a : Int) : iI a < 0 ↔ wr a < 0 := by
  have := wr_lt a 0
  rw [wr_0] at this
  exact this
theorem j_if_lt (F : Fx p l R s m args meth c cc nL own G M0 d rt) {a off : Int} (tgt : Nat) (ht : (pc : Int) + off = (tgt : Int)) (hd : decode cc pc = .ok (.ifCond .lt off, 3)) {A B : Option RS} (h : (if wr a < 0 then A else B) = some res) (kt : A = some res → J p l e R s m args below meth c nL G ρ0 M0 rk res M tgt lv st) (kf : B = some res → J p l e R s m args below meth c nL G ρ0 M0 rk res M (pc + 3) lv st) : J p l e R s m args below meth c nL G ρ0 M0 rk res M pc lv ((true, a) :: st) :=
  fun ρ H locs ls hD hl h1 h2 => lv_if_lt F.1 F.2.1 hd ht (fun q => kt ((if_pos ((zlt a).mp q)).symm.trans h) ρ H locs ls hD hl h1 h2.tl) (fun q => kf ((if_neg (fun z => q ((zlt a).mpr z))).symm.trans h) ρ H locs ls hD hl h1 h2.tl)
theorem j_icmp_le (F : Fx p l R s m args meth c cc nL own G M0 d rt) {a b off : Int} (tgt : Nat) (ht : (pc : Int) + off = (tgt : Int)) (hd : decode cc pc = .ok (.if_icmp .le off, 3)) {A B : Option RS} (h : (if wr a ≤ wr b then A else B) = some res) (kt : A = some res → J p l e R s m args below meth c nL G ρ0 M0 rk res M tgt lv st) (kf : B = some res → J p l e R s m args below meth c nL G ρ0 M0 rk res M (pc + 3) lv st) : J p l e R s m args below meth c nL G ρ0 M0 rk res M pc lv ((true, b) :: (true, a) :: st) :=
  fun ρ H locs ls hD hl h1 h2 => lv_icmp_le F.1 F.2.1 hd ht (fun q => kt ((if_pos ((wr_le a b).mp q)).symm.trans h) ρ H locs ls hD hl h1 h2.tl.tl) (fun q => kf ((if_neg (fun z => q ((wr_le a b).mpr z))).symm.trans h) ρ H locs ls hD hl h1 h2.tl.tl)
theorem zle (a : Int) : iI a ≤ 0 ↔ wr a ≤ 0 := by
  have := wr_le a 0
  rw [wr_0] at this
  exact this
theorem j_if_le (F : Fx p l R s m args meth c cc nL own G M0 d rt) {a off : Int} (tgt : Nat) (ht : (pc : Int) + off = (tgt : Int)) (hd : decode cc pc = .ok (.ifCond .le off, 3)) {A B : Option RS} (h : (if wr a ≤ 0 then A else B) = some res) (kt : A = some res → J p l e R s m args below meth c nL G ρ0 M0 rk res M tgt lv st) (kf : B = some res → J p l e R s m args below meth c nL G ρ0 M0 rk res M (pc + 3) lv st) : J p l e R s m args below meth c nL G ρ0 M0 rk res M pc lv ((true, a) :: st) :=
  fun ρ H locs ls hD hl h1 h2 => lv_if_le F.1 F.2.1 hd ht (fun q => kt ((if_pos ((zle a).mp q)).symm.trans h) ρ H locs ls hD hl h1 h2.tl) (fun q => kf ((if_neg (fun z => q ((zle a).mpr z))).symm.trans h) ρ H locs ls hD hl h1 h2.tl)
theorem j_icmp_gt (F : Fx p l R s m args meth c cc nL own G M0 d rt) {a b off : Int} (tgt : Nat) (ht : (pc : Int) + off = (tgt : Int)) (hd : decode cc pc = .ok (.if_icmp .gt off, 3)) {A B : Option RS} (h : (if wr b < wr a then A else B) = some res) (kt : A = some res → J p l e R s m args below meth c nL G ρ0 M0 rk res M tgt lv st) (kf : B = some res → J p l e R s m args below meth c nL G ρ0 M0 rk res M (pc + 3) lv st) : J p l e R s m args below meth c nL G ρ0 M0 rk res M pc lv ((true, b) :: (true, a) :: st) :=
  fun ρ H locs ls hD hl h1 h2 => lv_icmp_gt F.1 F.2.1 hd ht (fun q => kt ((if_pos ((wr_lt b a).mp q)).symm.trans h) ρ H locs ls hD hl h1 h2.tl.tl) (fun q => kf ((if_neg (fun z => q ((wr_lt b a).mpr z))).symm.trans h) ρ H locs ls hD hl h1 h2.tl.tl)
theorem zgt (a : Int) : 0 < iI a ↔ 0 < wr a := by
  have := wr_lt 0 a
  rw [wr_0] at this
  exact this
theorem j_if_gt (F : Fx p l R s m args meth c cc nL own G M0 d rt) {a off : Int} (tgt : Nat) (ht : (pc : Int) + off = (tgt : Int)) (hd : decode cc pc = .ok (.ifCond .gt off, 3)) {A B : Option RS} (h : (if 0 < wr a then A else B) = some res) (kt : A = some res → J p l e R s m args below meth c nL G ρ0 M0 rk res M tgt lv st) (kf : B = some res → J p l e R s m args below meth c nL G ρ0 M0 rk res M (pc + 3) lv st) : J p l e R s m args below meth c nL G ρ0 M0 rk res M pc lv ((true, a) :: st) :=
  fun ρ H locs ls hD hl h1 h2 => lv_if_gt F.1 F.2.1 hd ht (fun q => kt ((if_pos ((zgt a).mp q)).symm.trans h) ρ H locs ls hD hl h1 h2.tl) (fun q => kf ((if_neg (fun z => q ((zgt a).mpr z))).symm.trans h) ρ H locs ls hD hl h1 h2.tl)
theorem j_icmp_ge (F : Fx p l R s m args meth c cc nL own G M0 d rt) {a b off : Int} (tgt : Nat) (ht : (pc : Int) + off = (tgt : Int)) (hd : decode cc pc = .ok (.if_icmp .ge off, 3)) {A B : Option RS} (h : (if wr b ≤ wr a then A else B) = some res) (kt : A = some res → J p l e R s m args below meth c nL G ρ0 M0 rk res M tgt lv st) (kf : B = some res → J p l e R s m args below meth c nL G ρ0 M0 rk res M (pc + 3) lv st) : J p l e R s m args below meth c nL G ρ0 M0 rk res M pc lv ((true, b) :: (true, a) :: st) :=
  fun ρ H locs ls hD hl h1 h2 => lv_icmp_ge F.1 F.2.1 hd ht (fun q => kt ((if_pos ((wr_le b a).mp q)).symm.trans h) ρ H locs ls hD hl h1 h2.tl.tl) (fun q => kf ((if_neg (fun z => q ((wr_le b a).mpr z))).symm.trans h) ρ H locs ls hD hl h1 h2.tl.tl)
theorem zge (a : Int) : 0 ≤ iI a ↔ 0 ≤ wr a := by
  have := wr_le 0 a
  rw [wr_0] at this
  exact this
theorem j_if_ge (F : Fx p l R s m args meth c cc nL own G M0 d rt) {a off : Int} (tgt : Nat) (ht : (pc : Int) + off = (tgt : Int)) (hd : decode cc pc = .ok (.ifCond .ge off, 3)) {A B : Option RS} (h : (if 0 ≤ wr a then A else B) = some res) (kt : A = some res → J p l e R s m args below meth c nL G ρ0 M0 rk res M tgt lv st) (kf : B = some res → J p l e R s m args below meth c nL G ρ0 M0 rk res M (pc + 3) lv st) : J p l e R s m args below meth c nL G ρ0 M0 rk res M pc lv ((true, a) :: st) :=
  fun ρ H locs ls hD hl h1 h2 => lv_if_ge F.1 F.2.1 hd ht (fun q => kt ((if_pos ((zge a).mp q)).symm.trans h) ρ H locs ls hD hl h1 h2.tl) (fun q => kf ((if_neg (fun z => q ((zge a).mpr z))).symm.trans h) ρ H locs ls hD hl h1 h2.tl)
theorem j_icmp_eq (F : Fx p l R s m args meth c cc nL own G M0 d rt) {a b off : Int} (tgt : Nat) (ht : (pc : Int) + off = (tgt : Int)) (hd : decode cc pc = .ok (.if_icmp .eq off, 3)) {A B : Option RS} (h : (if wr a = wr b then A else B) = some res) (kt : A = some res → J p l e R s m args below meth c nL G ρ0 M0 rk res M tgt lv st) (kf : B = some res → J p l e R s m args below meth c nL G ρ0 M0 rk res M (pc + 3) lv st) : J p l e R s m args below meth c nL G ρ0 M0 rk res M pc lv ((true, b) :: (true, a) :: st) :=
  fun ρ H locs ls hD hl h1 h2 => lv_icmp_eq F.1 F.2.1 hd ht (fun q => kt ((if_pos ((wr_eq a b).mp q)).symm.trans h) ρ H locs ls hD hl h1 h2.tl.tl) (fun q => kf ((if_neg (fun z => q ((wr_eq a b).mpr z))).symm.trans h) ρ H locs ls hD hl h1 h2.tl.tl)
theorem zeq (a : Int) : iI a = 0 ↔ wr a = 0 := by
  have := wr_eq a 0
  rw [wr_0] at this
  exact this
theorem j_if_eq (F : Fx p l R s m args meth c cc nL own G M0 d rt) {a off : Int} (tgt : Nat) (ht : (pc : Int) + off = (tgt : Int)) (hd : decode cc pc = .ok (.ifCond .eq off, 3)) {A B : Option RS} (h : (if wr a = 0 then A else B) = some res) (kt : A = some res → J p l e R s m args below meth c nL G ρ0 M0 rk res M tgt lv st) (kf : B = some res → J p l e R s m args below meth c nL G ρ0 M0 rk res M (pc + 3) lv st) : J p l e R s m args below meth c nL G ρ0 M0 rk res M pc lv ((true, a) :: st) :=
  fun ρ H locs ls hD hl h1 h2 => lv_if_eq F.1 F.2.1 hd ht (fun q => kt ((if_pos ((zeq a).mp q)).symm.trans h) ρ H locs ls hD hl h1 h2.tl) (fun q => kf ((if_neg (fun z => q ((zeq a).mpr z))).symm.trans h) ρ H locs ls hD hl h1 h2.tl)
theorem j_icmp_ne (F : Fx p l R s m args meth c cc nL own G M0 d rt) {a b off : Int} (tgt : Nat) (ht : (pc : Int) + off = (tgt : Int)) (hd : decode cc pc = .ok (.if_icmp .ne off, 3)) {A B : Option RS} (h : (if wr a = wr b then A else B) = some res) (kt : B = some res → J p l e R s m args below meth c nL G ρ0 M0 rk res M tgt lv st) (kf : A = some res → J p l e R s m args below meth c nL G ρ0 M0 rk res M (pc + 3) lv st) : J p l e R s m args below meth c nL G ρ0 M0 rk res M pc lv ((true, b) :: (true, a) :: st) :=
  fun ρ H locs ls hD hl h1 h2 => lv_icmp_ne F.1 F.2.1 hd ht (fun q => kt ((if_neg (fun z => q ((wr_eq a b).mpr z))).symm.trans h) ρ H locs ls hD hl h1 h2.tl.tl) (fun q => kf ((if_pos ((wr_eq a b).mp (by first | exact q | exact Classical.not_not.mp q))).symm.trans h) ρ H locs ls hD hl h1 h2.tl.tl)
theorem zne (a : Int) : iI a = 0 ↔ wr a = 0 := by
  have := wr_eq a 0
  rw [wr_0] at this
  exact this
theorem j_if_ne (F : Fx p l R s m args meth c cc nL own G M0 d rt) {a off : Int} (tgt : Nat) (ht : (pc : Int) + off = (tgt : Int)) (hd : decode cc pc = .ok (.ifCond .ne off, 3)) {A B : Option RS} (h : (if wr a = 0 then A else B) = some res) (kt : B = some res → J p l e R s m args below meth c nL G ρ0 M0 rk res M tgt lv st) (kf : A = some res → J p l e R s m args below meth c nL G ρ0 M0 rk res M (pc + 3) lv st) : J p l e R s m args below meth c nL G ρ0 M0 rk res M pc lv ((true, a) :: st) :=
  fun ρ H locs ls hD hl h1 h2 => lv_if_ne F.1 F.2.1 hd ht (fun q => kt ((if_neg (fun z => q ((zne a).mpr z))).symm.trans h) ρ H locs ls hD hl h1 h2.tl) (fun q => kf ((if_pos ((zne a).mp (by first | exact q | exact Classical.not_not.mp q))).symm.trans h) ρ H locs ls hD hl h1 h2.tl)
end JS
