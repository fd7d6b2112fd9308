
/-! THE CLAIM OUT OF ONE WALK OF THE LAW'S BODY. Your part is whole_start (and what it stands on); all else here is the same for every law, but numbers. -/
def R_law : String := "ToolPlexLaw"
def lw_P (b : Addr) (xs : List Int32) (args : Array Value) (s : State) : Prop := args = #[.ref b] ∧ s.IntsAt b xs ∧ xs.length ≤ 260 ∧ (Jvm.Cond.and given_1 narrow_1).before args s = true
def lw_Q (_ : Array Value) (s : State) (o : Outcome) (t : State) : Prop := o = .returned (some (.int 1)) ∧ Framed s o t [] 600064 7301640
def lw_Z (below : List Frame) (a : Array Value) (s : State) : State → Prop := fun t => ∃ o, t.status = .running ∧ Ended t below o ∧ lw_Q a s o t
/-- what holds at the law's entry: the machine, the code, the tables' words (any of lw_tbl by 'hts w (by decide +kernel)'), the script of L ints xs at the cell b, what the Statement gives of the start (any of its parts by flat_of_before) -/
def lw_At (p : Program) (s : State) (m : MethodId) (meth : Method) (c : Code) (b L : Nat) (xs : Nat → Int32) : Prop :=
  p.tables.exec = Jvm.exec ∧ c.code = code ∧ meth.sig.returnType = ret ∧ c.maxLocals = 8 ∧ s.vm.findClass R_law = some m.cls ∧ (∀ w ∈ lw_tbl, w.before #[Value.ref b] s = true) ∧ va_X b L xs s s.heap ∧ b < s.heap.size ∧ meth.locks = false ∧ (Jvm.Cond.and given_1 narrow_1).before #[Value.ref b] s = true

theorem cls_known {args : Array Value} {s : State} (ht : ∀ w ∈ GT, w.before args s = true) : ∃ (dC : Nat → ClassId) (dI : Nat → Nat → Nat), ∀ (k : Nat) (q : vw_C), vwCl[k]? = some q → u_Kn s q.1 q.2.1 q.2.2 (dC k) (dI k) := by
  obtain ⟨c0, i0, h0⟩ := u_known (C := RJx4a65c) (T := TJx4a65c) (N := 3) (n := 3) ht inGJx4a65c (ht _ q135)
  obtain ⟨c1, i1, h1⟩ := u_known (C := RX0) (T := TX0) (N := 5) (n := 5) ht inGX0 (ht _ q964)
  obtain ⟨c2, i2, h2⟩ := u_known (C := RX1) (T := TX1) (N := 1) (n := 1) ht inGX1 (ht _ q162)
  obtain ⟨c3, i3, h3⟩ := u_known (C := RX2) (T := TX2) (N := 7) (n := 7) ht inGX2 (ht _ q182)
  obtain ⟨c4, i4, h4⟩ := u_known (C := RX3) (T := TX3) (N := 8) (n := 8) ht inGX3 (ht _ q175)
  obtain ⟨c5, i5, h5⟩ := u_known (C := RX4) (T := TX4) (N := 7) (n := 7) ht inGX4 (ht _ q103)
  obtain ⟨c6, i6, h6⟩ := u_known (C := RX5) (T := TX5) (N := 2) (n := 2) ht inGX5 (ht _ q226)
  obtain ⟨c7, i7, h7⟩ := u_known (C := RX6) (T := TX6) (N := 17) (n := 17) ht inGX6 (ht _ q706)
  obtain ⟨c8, i8, h8⟩ := u_known (C := RX7) (T := TX7) (N := 12) (n := 12) ht inGX7 (ht _ q267)
  obtain ⟨c9, i9, h9⟩ := u_known (C := RX8) (T := TX8) (N := 3) (n := 3) ht inGX8 (ht _ q1451)
  obtain ⟨c10, i10, h10⟩ := u_known (C := RX9) (T := TX9) (N := 9) (n := 9) ht inGX9 (ht _ q473)
  obtain ⟨c11, i11, h11⟩ := u_known (C := RX10) (T := TX10) (N := 2) (n := 2) ht inGX10 (ht _ q89)
  obtain ⟨c12, i12, h12⟩ := u_known (C := RX11) (T := TX11) (N := 6) (n := 6) ht inGX11 (ht _ q81)
  refine ⟨fun k => match k with | 0 => c0 | 1 => c1 | 2 => c2 | 3 => c3 | 4 => c4 | 5 => c5 | 6 => c6 | 7 => c7 | 8 => c8 | 9 => c9 | 10 => c10 | 11 => c11 | _ => c12, fun k => match k with | 0 => i0 | 1 => i1 | 2 => i2 | 3 => i3 | 4 => i4 | 5 => i5 | 6 => i6 | 7 => i7 | 8 => i8 | 9 => i9 | 10 => i10 | 11 => i11 | _ => i12, ?_⟩
  intro k q hq
  match k, hq with
  | 0, hq => cases hq; exact h0
  | 1, hq => cases hq; exact h1
  | 2, hq => cases hq; exact h2
  | 3, hq => cases hq; exact h3
  | 4, hq => cases hq; exact h4
  | 5, hq => cases hq; exact h5
  | 6, hq => cases hq; exact h6
  | 7, hq => cases hq; exact h7
  | 8, hq => cases hq; exact h8
  | 9, hq => cases hq; exact h9
  | 10, hq => cases hq; exact h10
  | 11, hq => cases hq; exact h11
  | 12, hq => cases hq; exact h12
  | k + 13, hq => simp [vwCl] at hq
theorem arrP {args : Array Value} {s : State} {ty : FieldType} (h : (Cond.arrayClass ty).before args s = true) (hn : ∀ C, ty ≠ .object C) : ∃ cA : ClassId, ArrOfT s cA ty ∧ va_RA s cA ty := by
  obtain ⟨cA, k, comp, h1, h2, h3⟩ := Cond.arrayClass_spec h
  refine ⟨cA, fun n z => ⟨fun k h => (by cases h), k, h2, comp, h3⟩, ?_⟩
  cases ty with
  | object C => exact absurd rfl (hn C)
  | _ => exact h1
theorem arrR {s : State} {C : String} (h : va_AO C s) : ∃ cA : ClassId, ArrOfT s cA (.object C) ∧ va_RA s cA (.object C) := by
  obtain ⟨comp, cA, k, h1, h2, h3, h4, h5⟩ := Cond.arrayOver_spec h
  exact ⟨cA, fun n z => ⟨fun k h => (by cases h), k, h3, comp, h4⟩, k, comp, h3, h4, h1, h5⟩
set_option maxRecDepth 100000 in
theorem str_at {b : Nat} {s : State} {k : Nat} {tx : String} (h1 : (Cond.stringRef "ToolPlex" k tx).before #[Value.ref b] s = true) (h2 : (Cond.exactly (.string "ToolPlex" k) "java/lang/String").before #[Value.ref b] s = true) : SR1 k tx s := by
  obtain ⟨a, -, -, -, ha, -⟩ := Cond.exactly_spec h2
  exact ⟨a, vk_R.of h1 ha⟩
set_option maxHeartbeats 4000000 in
set_option maxRecDepth 100000 in
/-- the static side at the law's entry -/
theorem en_start {b L : Nat} {xs : Nat → Int32} {s : State} (hts : ∀ w ∈ lw_tbl, w.before #[Value.ref b] s = true) (hX : va_X b L xs s s.heap) (hbl : b < s.heap.size) (hgv : (Jvm.Cond.and given_1 narrow_1).before #[Value.ref b] s = true) : ∃ G : Gt, EN4 G s s.heap ∧ va_K (gD G) vwCl (tysG G) s ∧ gB G = s.heap.size ∧ gb G = b ∧ gL G = L ∧ gx G = xs ∧ gn G < gB G ∧ ge G < gB G := by
  have ht : ∀ w ∈ GT, w.before #[Value.ref b] s = true := fun w h => hts w (gt_tbl h)
  have hn := flat_of_before _ hgv
  have hA : ∀ a : Nat, a < s.heap.size → ¬ (fun q : Nat => s.heap.size ≤ q) a := fun a h => Nat.not_le.mpr h
  obtain ⟨d0, -, -, -, hd, -⟩ := Cond.exactly_spec (hn (.exactly (.static "java/util/ArrayList" "DEFAULTCAPACITY_EMPTY_ELEMENTDATA" "[Ljava/lang/Object;") "[Ljava/lang/Object;") (by decide +kernel))
  obtain ⟨y, hy1, hy2⟩ := Cond.eq_one (hn (.eq (.length (.static "java/util/ArrayList" "DEFAULTCAPACITY_EMPTY_ELEMENTDATA" "[Ljava/lang/Object;")) (.int 0)) (by decide +kernel))
  cases hy2
  obtain ⟨t0, ht0, hT⟩ := va_Tof (s := s) (N := 0) (f := fun _ => Value.null) (A := fun q : Nat => s.heap.size ≤ q) (by decide) (hn (.arrayOf (.static "java/util/ArrayList" "DEFAULTCAPACITY_EMPTY_ELEMENTDATA" "[Ljava/lang/Object;") (.object "java/lang/Object")) (by decide +kernel)) hy1 (fun j h => absurd h (Nat.not_lt_zero j)) hA
  cases Option.some.inj (hd.symm.trans ht0)
  obtain ⟨y2, hz1, hz2⟩ := Cond.eq_one (hn (.eq (.length (.static "ToolPlex" "NOTHING" "[I")) (.int 0)) (by decide +kernel))
  cases hz2
  obtain ⟨t1, ht1, hT1⟩ := va_Tof (s := s) (N := 0) (f := fun _ => Value.null) (A := fun q : Nat => s.heap.size ≤ q) (by decide) (hn (.arrayOf (.static "ToolPlex" "NOTHING" "[I") .int) (by decide +kernel)) hz1 (fun j h => absurd h (Nat.not_lt_zero j)) hA
  obtain ⟨a0, ea0, fa0⟩ := arrP (ht _ q133) (fun C h => by cases h)
  obtain ⟨a1, ea1, fa1⟩ := arrP (ht _ q101) (fun C h => by cases h)
  obtain ⟨a2, ea2, fa2⟩ := arrP (ht _ q1469) (fun C h => by cases h)
  have ho10 : va_AO "java/lang/Object" s := va_AO.of (hts (.arrayOver (.object "java/lang/Object")) (List.mem_of_getElem? (i := 567) (by decide +kernel)))
  obtain ⟨a10, ea10, fa10⟩ := arrR ho10
  have ho11 : va_AO "ToolPlex$Text" s := va_AO.of (hts (.arrayOver (.object RX10)) (List.mem_of_getElem? (i := 109) (by decide +kernel)))
  obtain ⟨a11, ea11, fa11⟩ := arrR ho11
  have ho12 : va_AO "ToolPlex$Copy" s := va_AO.of (hts (.arrayOver (.object RX2)) (List.mem_of_getElem? (i := 181) (by decide +kernel)))
  obtain ⟨a12, ea12, fa12⟩ := arrR ho12
  have ho13 : va_AO "ToolPlex$Items" s := va_AO.of (hts (.arrayOver (.object RX5)) (List.mem_of_getElem? (i := 225) (by decide +kernel)))
  obtain ⟨a13, ea13, fa13⟩ := arrR ho13
  have ho14 : va_AO "ToolPlex$Channel" s := va_AO.of (hts (.arrayOver (.object RX1)) (List.mem_of_getElem? (i := 161) (by decide +kernel)))
  obtain ⟨a14, ea14, fa14⟩ := arrR ho14
  have ho15 : va_AO "ToolPlex$Editor" s := va_AO.of (hts (.arrayOver (.object RX3)) (List.mem_of_getElem? (i := 174) (by decide +kernel)))
  obtain ⟨a15, ea15, fa15⟩ := arrR ho15
  have ho16 : va_AO "ToolPlex$Message" s := va_AO.of (hts (.arrayOver (.object RX6)) (List.mem_of_getElem? (i := 1457) (by decide +kernel)))
  obtain ⟨a16, ea16, fa16⟩ := arrR ho16
  obtain ⟨mi, hmi⟩ := va_Mi.of (C := "[Ljava/lang/Object;") (hn (.isRef (.mirror "[Ljava/lang/Object;")) (by decide +kernel))
  obtain ⟨dC, dI, hKc⟩ := cls_known ht
  have hlt : ∀ {ty : FieldType} {t N : Nat} {f : Nat → Value} {A : Nat → Prop}, va_T ty t N f A s s.heap → t < s.heap.size := fun h => by obtain ⟨cell, h1, -⟩ := h; exact (Array.getElem?_eq_some_iff.mp h1).1
  refine ⟨((dC, dI), (fun k => match k with | 0 => a0 | 1 => a1 | 2 => a2 | 10 => a10 | 11 => a11 | 12 => a12 | 13 => a13 | 14 => a14 | 15 => a15 | _ => a16), s.heap.size, t1, d0, b, mi, L, xs), ⟨⟨⟨ho11, ho12, ho13, ho14, ho15, ho10⟩, ho16⟩, ?_, ⟨⟨va_Zof (hts _ (List.mem_of_getElem? (i := 147) (by decide +kernel))) (hts (.initialized "java/util/ArrayList") (List.mem_of_getElem? (i := 58) (by decide +kernel))) hd hA, hT⟩, ⟨va_Zof (hts _ (List.mem_of_getElem? (i := 190) (by decide +kernel))) (hts (.initialized "ToolPlex") (List.mem_of_getElem? (i := 53) (by decide +kernel))) ht1 hA, hT1⟩, vx_Zqof (hts _ (List.mem_of_getElem? (i := 373) (by decide +kernel))) (hts (.initialized Bundle.tN) (List.mem_of_getElem? (i := 65) (by decide +kernel))) (hn _ (by decide +kernel)) hA, vx_Zqof (hts _ (List.mem_of_getElem? (i := 375) (by decide +kernel))) (hts (.initialized Bundle.tN) (List.mem_of_getElem? (i := 65) (by decide +kernel))) (hn _ (by decide +kernel)) hA, ?_⟩, hmi, va_Dc.of (hts _ (List.mem_of_getElem? (i := 1709) (by decide +kernel))), ⟨va_Nc.of (hn _ (by decide +kernel)), va_Nc.of (hn _ (by decide +kernel)), va_Nc.of (hn _ (by decide +kernel))⟩⟩, ⟨hKc, ?_⟩, rfl, rfl, rfl, rfl, hlt hT1, hlt hT⟩
  · exact List.forall_mem_cons.mpr ⟨str_at (hts (.stringRef "ToolPlex" 61 "no such name or language") (List.mem_of_getElem? (i := 387) (by decide +kernel))) (hn _ (by decide +kernel)), List.forall_mem_cons.mpr ⟨str_at (hts (.stringRef "ToolPlex" 76 "too many files, or the name is taken") (List.mem_of_getElem? (i := 431) (by decide +kernel))) (hn _ (by decide +kernel)), List.forall_mem_cons.mpr ⟨str_at (hts (.stringRef "ToolPlex" 105 "the file is open, or its text too long") (List.mem_of_getElem? (i := 653) (by decide +kernel))) (hn _ (by decide +kernel)), List.forall_mem_cons.mpr ⟨str_at (hts (.stringRef "ToolPlex" 111 "no such kinds, languages or style") (List.mem_of_getElem? (i := 446) (by decide +kernel))) (hn _ (by decide +kernel)), List.forall_mem_cons.mpr ⟨str_at (hts (.stringRef "ToolPlex" 120 "too many servers, or a document is open") (List.mem_of_getElem? (i := 471) (by decide +kernel))) (hn _ (by decide +kernel)), List.forall_mem_cons.mpr ⟨str_at (hts (.stringRef "ToolPlex" 138 "an editor has the file open") (List.mem_of_getElem? (i := 671) (by decide +kernel))) (hn _ (by decide +kernel)), List.forall_mem_cons.mpr ⟨str_at (hts (.stringRef "ToolPlex" 166 "the second place is ahead of the first, or the text too long") (List.mem_of_getElem? (i := 906) (by decide +kernel))) (hn _ (by decide +kernel)), List.forall_mem_cons.mpr ⟨str_at (hts (.stringRef "ToolPlex" 195 "no such kind or letter") (List.mem_of_getElem? (i := 954) (by decide +kernel))) (hn _ (by decide +kernel)), List.forall_mem_cons.mpr ⟨str_at (hts (.stringRef "ToolPlex" 200 "too many requests") (List.mem_of_getElem? (i := 959) (by decide +kernel))) (hn _ (by decide +kernel)), List.forall_mem_cons.mpr ⟨str_at (hts (.stringRef "ToolPlex" 216 "the request does not wait") (List.mem_of_getElem? (i := 1012) (by decide +kernel))) (hn _ (by decide +kernel)), List.forall_mem_cons.mpr ⟨str_at (hts (.stringRef "ToolPlex" 232 "there is no edit to apply") (List.mem_of_getElem? (i := 1025) (by decide +kernel))) (hn _ (by decide +kernel)), List.forall_mem_cons.mpr ⟨str_at (hts (.stringRef "ToolPlex" 238 "the name is taken, or there are too many files") (List.mem_of_getElem? (i := 1038) (by decide +kernel))) (hn _ (by decide +kernel)), List.forall_mem_cons.mpr ⟨str_at (hts (.stringRef "ToolPlex" 256 "no such request") (List.mem_of_getElem? (i := 1011) (by decide +kernel))) (hn _ (by decide +kernel)), List.forall_mem_cons.mpr ⟨str_at (hts (.stringRef "ToolPlex" 272 "the server has no copy") (List.mem_of_getElem? (i := 1213) (by decide +kernel))) (hn _ (by decide +kernel)), List.forall_mem_cons.mpr ⟨str_at (hts (.stringRef "ToolPlex" 281 "the server is not up") (List.mem_of_getElem? (i := 1222) (by decide +kernel))) (hn _ (by decide +kernel)), List.forall_mem_cons.mpr ⟨str_at (hts (.stringRef "ToolPlex" 292 "the server is up") (List.mem_of_getElem? (i := 1335) (by decide +kernel))) (hn _ (by decide +kernel)), List.forall_mem_cons.mpr ⟨str_at (hts (.stringRef "ToolPlex" 321 "no such copy or unit") (List.mem_of_getElem? (i := 1540) (by decide +kernel))) (hn _ (by decide +kernel)), List.forall_mem_cons.mpr ⟨str_at (hts (.stringRef "ToolPlex" 343 "no such number of tokens") (List.mem_of_getElem? (i := 1567) (by decide +kernel))) (hn _ (by decide +kernel)), List.forall_mem_cons.mpr ⟨str_at (hts (.stringRef "ToolPlex" 356 "no such fault") (List.mem_of_getElem? (i := 1587) (by decide +kernel))) (hn _ (by decide +kernel)), List.forall_mem_cons.mpr ⟨str_at (hts (.stringRef "ToolPlex" 358 "no such editor") (List.mem_of_getElem? (i := 670) (by decide +kernel))) (hn _ (by decide +kernel)), List.forall_mem_cons.mpr ⟨str_at (hts (.stringRef "ToolPlex" 360 "no such server") (List.mem_of_getElem? (i := 1086) (by decide +kernel))) (hn _ (by decide +kernel)), List.forall_mem_cons.mpr ⟨str_at (hts (.stringRef "ToolPlex" 368 "no such file") (List.mem_of_getElem? (i := 595) (by decide +kernel))) (hn _ (by decide +kernel)), List.forall_mem_cons.mpr ⟨str_at (hts (.stringRef "ToolPlex" 370 "no such channel") (List.mem_of_getElem? (i := 1357) (by decide +kernel))) (hn _ (by decide +kernel)), List.forall_mem_cons.mpr ⟨str_at (hts (.stringRef "ToolPlex" 372 "no such item") (List.mem_of_getElem? (i := 1553) (by decide +kernel))) (hn _ (by decide +kernel)), List.forall_mem_cons.mpr ⟨str_at (hts (.stringRef "ToolPlex" 377 "no such character") (List.mem_of_getElem? (i := 636) (by decide +kernel))) (hn _ (by decide +kernel)), List.forall_mem_cons.mpr ⟨str_at (hts (.stringRef "ToolPlex" 379 "no such position") (List.mem_of_getElem? (i := 890) (by decide +kernel))) (hn _ (by decide +kernel)), List.forall_mem_cons.mpr ⟨str_at (hts (.stringRef "ToolPlex" 381 "the editor does not have the file open") (List.mem_of_getElem? (i := 837) (by decide +kernel))) (hn _ (by decide +kernel)), fun q h => absurd h List.not_mem_nil⟩⟩⟩⟩⟩⟩⟩⟩⟩⟩⟩⟩⟩⟩⟩⟩⟩⟩⟩⟩⟩⟩⟩⟩⟩⟩⟩
  · obtain ⟨scr, q1, q2, q3, q4, q5⟩ := hX
    refine ⟨scr, q1, q2, q3, by rw [q4]; exact Nat.le_refl _, by rw [q4]; rfl, q5, Nat.not_le.mpr hbl⟩
  · intro k q hk
    match k, hk with
    | 0, hk => cases hk; exact ⟨ea0, fa0⟩
    | 1, hk => cases hk; exact ⟨ea1, fa1⟩
    | 2, hk => cases hk; exact ⟨ea2, fa2⟩
    | 3, hk => cases hk; exact ⟨ea10, fa10⟩
    | 4, hk => cases hk; exact ⟨ea11, fa11⟩
    | 5, hk => cases hk; exact ⟨ea12, fa12⟩
    | 6, hk => cases hk; exact ⟨ea13, fa13⟩
    | 7, hk => cases hk; exact ⟨ea14, fa14⟩
    | 8, hk => cases hk; exact ⟨ea15, fa15⟩
    | 9, hk => cases hk; exact ⟨ea16, fa16⟩
    | k + 10, hk => simp [tysG] at hk
