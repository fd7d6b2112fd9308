
theorem kd_M00 {L : Int} {xs : Int → Int} {x : Int} (h : kd (M00 L xs) x ≠ 0) : (x = 1 ∧ kd (M00 L xs) x = 300) ∨ (x = 2 ∧ kd (M00 L xs) x = 301) ∨ (x = 3 ∧ kd (M00 L xs) x = 200) ∨ (x = 4 ∧ kd (M00 L xs) x = 302) := by
  have e : kd (M00 L xs) x = if x = 1 then 300 else if x = 2 then 301 else if x = 3 then 200 else if x = 4 then 302 else 0 := rfl
  rw [e] at h ⊢
  by_cases h1 : x = 1
  · exact Or.inl ⟨h1, if_pos h1⟩
  · rw [if_neg h1] at h ⊢
    by_cases h2 : x = 2
    · exact Or.inr (Or.inl ⟨h2, if_pos h2⟩)
    · rw [if_neg h2] at h ⊢
      by_cases h3 : x = 3
      · exact Or.inr (Or.inr (Or.inl ⟨h3, if_pos h3⟩))
      · rw [if_neg h3] at h ⊢
        by_cases h4 : x = 4
        · exact Or.inr (Or.inr (Or.inr ⟨h4, if_pos h4⟩))
        · rw [if_neg h4] at h
          exact absurd rfl h
theorem MH_00 {G : Gt} {H : Heap} {L : Int} {xs : Int → Int} (hL : 0 ≤ L ∧ L ≤ 2147483647) (h1 : (gL G : Int) = L) (h2 : ∀ k : Nat, k < gL G → xs k = (gx G k).toInt) (h3 : gn G < gB G ∧ ge G < gB G ∧ gb G < gB G) : MH G (fun x => if x = 1 then gn G else if x = 2 then ge G else if x = 3 then gb G else gm G) (M00 L xs) H := by
  have hn : nid (M00 L xs) = 10 := rfl
  refine ⟨?_, ?_, ?_, ?_, ?_, ?_, ⟨rfl, rfl, rfl, rfl⟩, ⟨rfl, rfl, rfl, rfl⟩, ⟨rfl, rfl, h1.symm⟩, ?_, h3⟩
  · intro x hx
    rcases kd_M00 hx with ⟨rfl, -⟩ | ⟨rfl, -⟩ | ⟨rfl, -⟩ | ⟨rfl, -⟩ <;> exact ⟨⟨by decide, by rw [hn]; decide⟩, fun _ => by decide⟩
  · intro x y hx hx2
    rcases kd_M00 hx with ⟨-, e⟩ | ⟨-, e⟩ | ⟨-, e⟩ | ⟨-, e⟩ <;> omega
  · intro x e hx
    obtain ⟨a, b⟩ := vcell_own hx
    rcases kd_M00 a with ⟨-, e⟩ | ⟨-, e⟩ | ⟨-, e⟩ | ⟨-, e⟩ <;> omega
  · intro x
    refine ⟨?_, fun h => ?_⟩
    · show 0 ≤ (if x = 3 then L else 0) ∧ (if x = 3 then L else 0) ≤ 2147483647
      by_cases z : x = 3
      · rw [if_pos z]; exact hL
      · rw [if_neg z]; omega
    · rcases kd_M00 (L := L) (xs := xs) (x := x) (by omega) with ⟨-, e⟩ | ⟨-, e⟩ | ⟨-, e⟩ | ⟨-, e⟩ <;> omega
  · intro c k x hx hc
    rcases kd_M00 (L := L) (xs := xs) (x := x) (by omega) with ⟨-, e⟩ | ⟨-, e⟩ | ⟨-, e⟩ | ⟨-, e⟩ <;> omega
  · intro t k x hx ht ht2
    rcases kd_M00 (L := L) (xs := xs) (x := x) (by omega) with ⟨-, e⟩ | ⟨-, e⟩ | ⟨-, e⟩ | ⟨-, e⟩ <;> omega
  · intro k hk
    exact h2 k hk
theorem W.mono {p : Program} {l : Launch} {e : Env} {R : Room} {s : State} {m : MethodId} {args : Array Value} {below : List Frame} {meth : Method} {c : Code} {H : Heap} {locs : List Loc} {cells slots : Nat} {Q Q' : State → Prop} {g : JFrame} (hq : ∀ t, Q t → Q' t) (h : W p l e R s m args below meth c H locs cells slots Q g) : W p l e R s m args below meth c H locs cells slots Q' g := fun T hT X => by
  obtain ⟨t, a, b⟩ := h T hT X
  exact ⟨t, a, hq t b⟩
set_option maxHeartbeats 4000000 in
set_option maxRecDepth 100000 in
/-- THE LAW, from its entry -/
theorem whole_start {p : Program} {e : Env} {s : State} {m : MethodId} {below : List Frame} {meth : Method} {c : Code} (l : Launch) (hflags : l.flags = flags0) {b L : Nat} {xs : Nat → Int32} (hL : L ≤ 260) (C0 : lw_At p s m meth c b L xs) (hno : ∀ x ∈ c.exceptionTable.toList, False) (hnm : meth.name = yL_law.name) : W p l e room_1 s m #[Value.ref b] below meth c s.heap [] 0 0 (lw_Z below #[Value.ref b] s) (entryFrame m ([Value.ref b] : List Value).toArray 8) := by
  obtain ⟨hx, hb, hr, hml, hown0, hts, hX, hbl, hlocks, hgv⟩ := id C0
  have ht : ∀ w ∈ GT, w.before #[Value.ref b] s = true := fun w h => hts w (gt_tbl h)
  have hLt : l.stackTraces = false := by
    unfold Launch.stackTraces
    rw [hflags]
    decide +kernel
  obtain ⟨G, hE, hK, gB1, gb1, gL1, gx1, g1, g2⟩ := en_start hts hX hbl hgv
  obtain ⟨xi, hxi⟩ : ∃ xi : Int → Int, xi = fun k => (xs k.toNat).toInt := ⟨_, rfl⟩
  obtain ⟨Mf, hlaw⟩ := law_true (L := (L : Int)) (xs := xi) (by omega) (by omega) (fun k => by rw [hxi]; exact ⟨iI_lo _, iI_hi _⟩)
  have hM := MH_00 (G := G) (H := s.heap) (L := (L : Int)) (xs := xi) (by omega) (by rw [gL1]) (fun k hk => by rw [gx1, hxi]; rfl) ⟨g1, g2, by rw [gb1, gB1]; exact hbl⟩
  have F : Fx p l room_1 s m #[Value.ref b] meth c cL_law 8 RL G (M00 L xi) 18 (some FieldType.boolean) := ⟨hx, hb, hml, hown0, ht, hE, hK, hlocks, hr, hLt, rfl, by rw [gB1]; exact Nat.le_refl _⟩
  have hJ := w_L_law_0 (e := e) (below := below) (ρ0 := fun x => if x = 1 then gn G else if x = 2 then ge G else if x = 3 then gb G else gm G) F hno hnm 3 (M00 L xi) hlaw
  have he := lv_entry ([Value.ref b]) (n := 8) (Nat.le_of_ble_eq_true rfl)
  rw [lg_entry_eq]
  have hW := hJ _ s.heap [] _ (Dn.start hM (Nat.zero_le _) (Nat.zero_le _)) (by rw [show lvm _ [(0, ((false, 3) : TV))] = lv_args 0 [Value.ref b] by rw [← gb1]; rfl]; exact he) (fun q hq => by cases List.mem_singleton.mp hq; exact okv.k (fun z => absurd (show (200 : Nat) = 0 from z) (by decide))) oks.nil
  refine W.mono (fun t ht9 => ?_) hW
  obtain ⟨o, a1, a2, a3⟩ := ht9
  refine ⟨o, a1, a2, ?_⟩
  rcases a3 with ⟨⟨-, ρ', ho, hpo, -, hF⟩, L9, hfe, hL9⟩ | ⟨q, -, E, ce, L9, hxk, -⟩
  · refine ⟨ho, hfe.1, hfe.2.1, hfe.2.2.weaken (fun y hy hlt => absurd hlt (Nat.not_lt.mpr ?_)) ?_ ?_⟩
    · have := hL9 y hy
      rw [← gB1]
      exact this
    · have := hpo.2.2.2.1
      show nc Mf - 0 ≤ _
      unfold CAPC at this
      omega
    · have := hpo.2.2.2.2
      show ns Mf - 0 ≤ _
      unfold CAPS at this
      omega
  · exact absurd rfl hxk.1
set_option maxHeartbeats 4000000 in
theorem lw_walk (l : Launch) (hflags : l.flags = flags0) (b : Addr) (xs : List Int32) : MetFree l x (headSpec (Jvm.Cond.code x code maxLocals ret :: tables_1) room_1) (lw_P b xs) (fun _ _ _ _ _ => True) lw_Q := by
  refine MetFree.of_bodyS (code := code) (maxLocals := maxLocals) (ret := ret) (by decide) ?_ ?_
  · intro args s m h hn
    obtain ⟨meth, c, h1, h2, h3, h4, h5, h6, -, -⟩ := Cond.code_spec hn (atoms_spec (ws := Jvm.Cond.code x code maxLocals ret :: tables_1) h _ List.mem_cons_self)
    exact ⟨meth, c, h1, h2, h3, h4, h5, h6⟩
  · intro p e s m args below meth c s₁ B hml0 hP _
    obtain ⟨rfl, hx, hbd, hgv⟩ := hP
    obtain ⟨scr, harrAt, hlist, hof, hsmall⟩ := hx
    obtain ⟨hcb, hkn, -, -⟩ := State.arrayAt?_spec harrAt
    have hown : s.vm.findClass R_law = some m.cls := findClass_of_methodNamed B.named
    have hts0 : ∀ c ∈ (Jvm.Cond.code x code maxLocals ret :: tables_1), c.before #[Value.ref b] s = true := atoms_spec (ws := Jvm.Cond.code x code maxLocals ret :: tables_1) B.pre
    have hts : ∀ w ∈ lw_tbl, w.before #[Value.ref b] s = true := k2_hts_sels lw_privs (fun w hw => hts0 w (List.mem_cons_of_mem _ hw)) lw_privs_ok
    have hml : c.maxLocals = 8 := B.maxLocals_eq (hts0 _ List.mem_cons_self)
    have X₀ : Stand p l e room_1 s m #[Value.ref b] below meth c s₁ [] 0 0 := Stand.of_body B
    have hh0 : s₁.heap = s.heap := by rw [B.state]; rfl
    have hsz : scr.slots.size = xs.length := by rw [← Array.length_toList, hlist, List.length_map]
    have hval : ∀ j : Nat, j < xs.length → scr.slots[j]? = some (.int (xs.getD j 0)) := fun j hj => by
      rw [← Array.getElem?_toList, hlist]
      simp [hj]
    have hbl : b < s.heap.size := (Array.getElem?_eq_some_iff.mp hcb).1
    have hX : va_X b xs.length (fun j => xs.getD j 0) s s.heap := ⟨scr, hcb, hof, hkn, hsz, hval⟩
    have hno9 : ∀ x ∈ c.exceptionTable.toList, False := by
      obtain ⟨meth9, c9, h1, h2, -, -, -, -, h7, -⟩ := Cond.code_spec B.named (hts0 _ List.mem_cons_self)
      cases Option.some.inj (h1.symm.trans B.method)
      cases Option.some.inj (h2.symm.trans X₀.code)
      intro x hx
      rw [Array.isEmpty_iff.mp h7] at hx
      cases hx
    have K : W p l e room_1 s m #[Value.ref b] below meth c s₁.heap [] 0 0 (lw_Z below #[Value.ref b] s) (entryFrame m ([Value.ref b] : List Value).toArray 8) := by
      rw [hh0]
      exact whole_start l hflags hbd ⟨B.exec, B.bytes, B.returns, hml, hown, hts, hX, hbl, B.notSynchronized, hgv⟩ hno9 (name_of_methodNamed B.named B.method).1
    obtain ⟨t, a1, o, b1, b2, b3⟩ := K s₁ rfl X₀
    exact ⟨t, o, a1, b1, b2, b3⟩
theorem lw_pre_spec {args : Array Value} {s : State} (h : (Jvm.Cond.and given_1 narrow_1).before args s = true) (hr : rest_1_c.before args s = true) : ∃ (b : Addr) (xs : List Int32), lw_P b xs args s := by
  have hs := flat_of_before _ h
  have hq := flat_of_before _ hr
  have hc : (Cond.count 1).before args s = true := hs _ (by decide +kernel)
  have harr : (Cond.arrayOf (.arg 0) .int).before args s = true := hs _ (by decide +kernel)
  have hle : (Cond.le (.length (.arg 0)) (.int 260)).before args s = true := hs _ (by decide +kernel)
  have hlen : (Cond.isInt (.length (.arg 0))).before args s = true := hq _ (by decide +kernel)
  have hall : (Cond.all (.arg 0) (.isInt (.elem (.arg 0) (.index 0)))).before args s = true := hq _ (by decide +kernel)
  obtain ⟨b, xs, hb, hx⟩ := State.ints_of_pre rfl harr hlen hall
  have hsm : xs.length < 2 ^ 31 := hx.choose_spec.2.2.2
  have hev : (Term.length (.arg 0)).eval args s none [] s = some (.int xs.length.toInt32) := hx.length_eval hb
  have hv := Cond.le_ints hev (show (Term.int 260).eval args s none [] s = some (.int 260) from rfl)
  have hd : xs.length.toInt32 ≤ 260 := by
    simpa [Cond.before, Cond.holds, hv] using hle
  have hN : xs.length ≤ 260 := (Int32.ofNat_le_ofNat hsm (by decide)).mp (show Int32.ofNat xs.length ≤ Int32.ofNat 260 from hd)
  exact ⟨b, xs, Cond.one_arg hc (show args[0]? = some (.ref b) from hb), hx, hN, h⟩
theorem lw_comes (l : Launch) (hflags : l.flags = flags0) : Comes l x (Jvm.Cond.code x code maxLocals ret :: tables_1) room_1 (fun tb e args s => Calls_1 tb e args s ∧ rest_1 tb e args s ∧ Pre_1 tb e args s)
    (fun _ _ args s o t => lw_Q args s o t) := by
  intro p e ha hc hk s m args below hf hfit hheap happ hpre
  obtain ⟨b, xs, hP⟩ := lw_pre_spec hpre.2.2 hpre.2.1
  obtain ⟨k, o, h1, h2, h3, hQ⟩ := lw_walk l hflags b xs p e ha hc hk s m args below hf ((Spec.applies_iff_loose hf).mp happ).1 hP trivial
  exact ⟨k, o, h1, h2, h3, hQ⟩
theorem lw_frame {s t : State} {o : Outcome} {args : Array Value} (h : Framed s o t [] 600064 7301640) :
    Framed s o t (fieldLocs frame_1_writes args s ++ arrayLocs frame_1_arrays args s ++ staticLocs frame_1_statics s) 600064 7301640 := h
theorem lw_limb (L : Cond) (hL : ∀ (args : Array Value) (s t : State), L.after args s (.returned (some (.int 1))) t = true) :
    ArmFor flags0 classFile x code maxLocals ret World_1 tables_1 room_1 Calls_1 rest_1 Pre_1
      (fun tb e a s o t => Jvm.D.postC L tb e a s o t ∧ Framed s o t (fieldLocs frame_1_writes a s ++ arrayLocs frame_1_arrays a s ++ staticLocs frame_1_statics s) 600064 7301640) := by
  intro l hflags _ _ p e ha hc hk s m args below hf hfit hheap happ hpre
  obtain ⟨k, o, h1, h2, h3, rfl, hF⟩ := lw_comes l hflags p e ha hc hk s m args below hf hfit hheap happ hpre
  exact ⟨k, _, h1, h2, h3, hL args s _, lw_frame hF⟩
theorem i_vc : Claimed_1_1 ∧ Claimed_1_2 := ⟨lw_limb limb_1_1 (fun args s t => by simp [limb_1_1, Cond.after, Cond.holds, Cond.value]), lw_limb limb_1_2 (fun args s t => Cond.after_iff.mpr (by
  first | (rw [show limb_1_2 = Cond.eq .result (.int 1) from rfl, Cond.eq_ints (x := 1) (y := 1) rfl rfl]; simp; done) | (simp [limb_1_2, Cond.value, Term.eval]; done)))⟩
