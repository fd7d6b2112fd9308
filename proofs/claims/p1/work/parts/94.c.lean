theorem inGX0 : ∀ w ∈ u_ws RX0 TX0 5, w ∈ GT := gts [1382, 1384, 1386, 1388, 1390] (by decide +kernel) (by decide +kernel)
theorem q1362 : Cond.instantiable RX0 5 ∈ GT := gt 1362 (by decide +kernel) (by decide +kernel)
theorem inGX6 : ∀ w ∈ u_ws RX6 TX6 17, w ∈ GT := gts [735, 737, 739, 741, 743, 745, 747, 749, 751, 753, 755, 757, 759, 761, 763, 765, 767] (by decide +kernel) (by decide +kernel)
theorem q664 : Cond.instantiable RX6 17 ∈ GT := gt 664 (by decide +kernel) (by decide +kernel)
theorem inGX8 : ∀ w ∈ u_ws RX8 TX8 3, w ∈ GT := gts [949, 951, 953] (by decide +kernel) (by decide +kernel)
theorem q938 : Cond.instantiable RX8 3 ∈ GT := gt 938 (by decide +kernel) (by decide +kernel)
theorem q152 : Cond.instantiable RX11 6 ∈ GT := gt 152 (by decide +kernel) (by decide +kernel)
theorem q1742 : Cond.instantiable RX12 75 ∈ GT := gt 1742 (by decide +kernel) (by decide +kernel)
theorem l8 {L : Nat} (h : L < 8) : Int32.ofNat L - 8 < 0 := by
  rcases (show L = 0 ∨ L = 1 ∨ L = 2 ∨ L = 3 ∨ L = 4 ∨ L = 5 ∨ L = 6 ∨ L = 7 by omega) with rfl | rfl | rfl | rfl | rfl | rfl | rfl | rfl <;> decide
theorem cls_known {args : Array Value} {s : State} (ht : ∀ w ∈ GT, w.before args s = true) : ∃ (dC : Nat → ClassId) (dI : Nat → Nat → Nat), ∀ (k : Nat) (q : vw_C), vwCl[k]? = some q → u_Kn s q.1 q.2.1 q.2.2 (dC k) (dI k) := by
  obtain ⟨c0, i0, h0⟩ := u_known (C := RJx4a65c) (T := TJx4a65c) (N := 3) (n := 3) ht inGJx4a65c (ht _ q206)
  obtain ⟨c1, i1, h1⟩ := u_known (C := RX0) (T := TX0) (N := 5) (n := 5) ht inGX0 (ht _ q1362)
  obtain ⟨c2, i2, h2⟩ := u_known (C := RX1) (T := TX1) (N := 1) (n := 1) ht inGX1 (ht _ q233)
  obtain ⟨c3, i3, h3⟩ := u_known (C := RX2) (T := TX2) (N := 7) (n := 7) ht inGX2 (ht _ q253)
  obtain ⟨c4, i4, h4⟩ := u_known (C := RX3) (T := TX3) (N := 8) (n := 8) ht inGX3 (ht _ q246)
  obtain ⟨c5, i5, h5⟩ := u_known (C := RX4) (T := TX4) (N := 7) (n := 7) ht inGX4 (ht _ q174)
  obtain ⟨c6, i6, h6⟩ := u_known (C := RX5) (T := TX5) (N := 2) (n := 2) ht inGX5 (ht _ q297)
  obtain ⟨c7, i7, h7⟩ := u_known (C := RX6) (T := TX6) (N := 17) (n := 17) ht inGX6 (ht _ q664)
  obtain ⟨c8, i8, h8⟩ := u_known (C := RX7) (T := TX7) (N := 12) (n := 12) ht inGX7 (ht _ q338)
  obtain ⟨c9, i9, h9⟩ := u_known (C := RX8) (T := TX8) (N := 3) (n := 3) ht inGX8 (ht _ q938)
  obtain ⟨c10, i10, h10⟩ := u_known (C := RX9) (T := TX9) (N := 9) (n := 9) ht inGX9 (ht _ q989)
  obtain ⟨c11, i11, h11⟩ := u_known (C := RX10) (T := TX10) (N := 2) (n := 2) ht inGX10 (ht _ q160)
  obtain ⟨c12, i12, h12⟩ := u_known (C := RX11) (T := TX11) (N := 6) (n := 6) ht inGX11 (ht _ q152)
  obtain ⟨c13, i13, h13⟩ := u_known (C := RX12) (T := TX12) (N := 75) (n := 75) ht inGX12 (ht _ q1742)
  refine ⟨fun k => match k with | 0 => c0 | 1 => c1 | 2 => c2 | 3 => c3 | 4 => c4 | 5 => c5 | 6 => c6 | 7 => c7 | 8 => c8 | 9 => c9 | 10 => c10 | 11 => c11 | 12 => c12 | _ => c13, fun k => match k with | 0 => i0 | 1 => i1 | 2 => i2 | 3 => i3 | 4 => i4 | 5 => i5 | 6 => i6 | 7 => i7 | 8 => i8 | 9 => i9 | 10 => i10 | 11 => i11 | 12 => i12 | _ => i13, ?_⟩
  intro k q hq
  match k, hq with
  | 0, hq => cases hq; exact h0
  | 1, hq => cases hq; exact h1
  | 2, hq => cases hq; exact h2
  | 3, hq => cases hq; exact h3
  | 4, hq => cases hq; exact h4
  | 5, hq => cases hq; exact h5
  | 6, hq => cases hq; exact h6
  | 7, hq => cases hq; exact h7
  | 8, hq => cases hq; exact h8
  | 9, hq => cases hq; exact h9
  | 10, hq => cases hq; exact h10
  | 11, hq => cases hq; exact h11
  | 12, hq => cases hq; exact h12
  | 13, hq => cases hq; exact h13
  | k + 14, hq => simp [vwCl] at hq
set_option maxRecDepth 100000 in
theorem str_at {b : Nat} {s : State} {k : Nat} {tx : String} (h1 : (Cond.stringRef "ToolPlex" k tx).before #[Value.ref b] s = true) (h2 : (Cond.exactly (.string "ToolPlex" k) "java/lang/String").before #[Value.ref b] s = true) : SR1 k tx s := by
  obtain ⟨a, -, -, -, ha, -⟩ := Cond.exactly_spec h2
  exact ⟨a, vk_R.of h1 ha⟩
set_option maxHeartbeats 4000000 in
set_option maxRecDepth 100000 in
theorem en_start {b : Nat} {s : State} (cO : ClassId) (hts : ∀ w ∈ lw_tbl, w.before #[Value.ref b] s = true) (hgv : (Jvm.Cond.and given_1 narrow_1).before #[Value.ref b] s = true) : ∃ d0 : Nat, EN d0 cO (fun q : Nat => s.heap.size ≤ q) s s.heap := by
  have hn := flat_of_before _ hgv
  have hA : ∀ a : Nat, a < s.heap.size → ¬ (fun q : Nat => s.heap.size ≤ q) a := fun a h => Nat.not_le.mpr h
  obtain ⟨d0, -, -, -, hd, -⟩ := Cond.exactly_spec (hn (.exactly (.static "java/util/ArrayList" "DEFAULTCAPACITY_EMPTY_ELEMENTDATA" "[Ljava/lang/Object;") "[Ljava/lang/Object;") (by decide +kernel))
  obtain ⟨y, hy1, hy2⟩ := Cond.eq_one (hn (.eq (.length (.static "java/util/ArrayList" "DEFAULTCAPACITY_EMPTY_ELEMENTDATA" "[Ljava/lang/Object;")) (.int 0)) (by decide +kernel))
  cases hy2
  obtain ⟨t0, ht0, hT⟩ := va_Tof (s := s) (N := 0) (f := fun _ => Value.null) (A := fun q : Nat => s.heap.size ≤ q) (by decide) (hn (.arrayOf (.static "java/util/ArrayList" "DEFAULTCAPACITY_EMPTY_ELEMENTDATA" "[Ljava/lang/Object;") (.object "java/lang/Object")) (by decide +kernel)) hy1 (fun j h => absurd h (Nat.not_lt_zero j)) hA
  cases Option.some.inj (hd.symm.trans ht0)
  refine ⟨d0, ⟨va_AO.of (hts (.arrayOver (.object RX10)) (List.mem_of_getElem? (i := 180) (by decide +kernel))), va_AO.of (hts (.arrayOver (.object RX2)) (List.mem_of_getElem? (i := 252) (by decide +kernel))), va_AO.of (hts (.arrayOver (.object RX5)) (List.mem_of_getElem? (i := 296) (by decide +kernel))), va_AO.of (hts (.arrayOver (.object RX1)) (List.mem_of_getElem? (i := 232) (by decide +kernel))), va_AO.of (hts (.arrayOver (.object RX3)) (List.mem_of_getElem? (i := 245) (by decide +kernel))), va_AO.of (hts (.arrayOver (.object "java/lang/Object")) (List.mem_of_getElem? (i := 830) (by decide +kernel)))⟩, ?_, ⟨⟨va_Zof (hts _ (List.mem_of_getElem? (i := 218) (by decide +kernel))) (hts (.initialized "java/util/ArrayList") (List.mem_of_getElem? (i := 128) (by decide +kernel))) hd hA, hT⟩, va_Zqof (hts _ (List.mem_of_getElem? (i := 261) (by decide +kernel))) (hts (.initialized "ToolPlex") (List.mem_of_getElem? (i := 123) (by decide +kernel))) (hn _ (by decide +kernel)) hA, vx_Zqof (hts _ (List.mem_of_getElem? (i := 1048) (by decide +kernel))) (hts (.initialized Bundle.tN) (List.mem_of_getElem? (i := 136) (by decide +kernel))) (hn _ (by decide +kernel)) hA, vx_Zqof (hts _ (List.mem_of_getElem? (i := 1050) (by decide +kernel))) (hts (.initialized Bundle.tN) (List.mem_of_getElem? (i := 136) (by decide +kernel))) (hn _ (by decide +kernel)) hA⟩⟩
  exact List.forall_mem_cons.mpr ⟨str_at (hts (.stringRef "ToolPlex" 61 "no such name or language") (List.mem_of_getElem? (i := 1062) (by decide +kernel))) (hn _ (by decide +kernel)), List.forall_mem_cons.mpr ⟨str_at (hts (.stringRef "ToolPlex" 76 "too many files, or the name is taken") (List.mem_of_getElem? (i := 1106) (by decide +kernel))) (hn _ (by decide +kernel)), List.forall_mem_cons.mpr ⟨str_at (hts (.stringRef "ToolPlex" 105 "the file is open, or its text too long") (List.mem_of_getElem? (i := 1178) (by decide +kernel))) (hn _ (by decide +kernel)), List.forall_mem_cons.mpr ⟨str_at (hts (.stringRef "ToolPlex" 111 "no such kinds, languages or style") (List.mem_of_getElem? (i := 1187) (by decide +kernel))) (hn _ (by decide +kernel)), List.forall_mem_cons.mpr ⟨str_at (hts (.stringRef "ToolPlex" 120 "too many servers, or a document is open") (List.mem_of_getElem? (i := 1197) (by decide +kernel))) (hn _ (by decide +kernel)), List.forall_mem_cons.mpr ⟨str_at (hts (.stringRef "ToolPlex" 138 "an editor has the file open") (List.mem_of_getElem? (i := 1262) (by decide +kernel))) (hn _ (by decide +kernel)), List.forall_mem_cons.mpr ⟨str_at (hts (.stringRef "ToolPlex" 166 "the second place is ahead of the first, or the text too long") (List.mem_of_getElem? (i := 1333) (by decide +kernel))) (hn _ (by decide +kernel)), List.forall_mem_cons.mpr ⟨str_at (hts (.stringRef "ToolPlex" 195 "no such kind or letter") (List.mem_of_getElem? (i := 1352) (by decide +kernel))) (hn _ (by decide +kernel)), List.forall_mem_cons.mpr ⟨str_at (hts (.stringRef "ToolPlex" 200 "too many requests") (List.mem_of_getElem? (i := 1357) (by decide +kernel))) (hn _ (by decide +kernel)), List.forall_mem_cons.mpr ⟨str_at (hts (.stringRef "ToolPlex" 216 "the request does not wait") (List.mem_of_getElem? (i := 1407) (by decide +kernel))) (hn _ (by decide +kernel)), List.forall_mem_cons.mpr ⟨str_at (hts (.stringRef "ToolPlex" 232 "there is no edit to apply") (List.mem_of_getElem? (i := 1420) (by decide +kernel))) (hn _ (by decide +kernel)), List.forall_mem_cons.mpr ⟨str_at (hts (.stringRef "ToolPlex" 238 "the name is taken, or there are too many files") (List.mem_of_getElem? (i := 1428) (by decide +kernel))) (hn _ (by decide +kernel)), List.forall_mem_cons.mpr ⟨str_at (hts (.stringRef "ToolPlex" 256 "no such request") (List.mem_of_getElem? (i := 1406) (by decide +kernel))) (hn _ (by decide +kernel)), List.forall_mem_cons.mpr ⟨str_at (hts (.stringRef "ToolPlex" 272 "the server has no copy") (List.mem_of_getElem? (i := 1562) (by decide +kernel))) (hn _ (by decide +kernel)), List.forall_mem_cons.mpr ⟨str_at (hts (.stringRef "ToolPlex" 281 "the server is not up") (List.mem_of_getElem? (i := 1574) (by decide +kernel))) (hn _ (by decide +kernel)), List.forall_mem_cons.mpr ⟨str_at (hts (.stringRef "ToolPlex" 292 "the server is up") (List.mem_of_getElem? (i := 1604) (by decide +kernel))) (hn _ (by decide +kernel)), List.forall_mem_cons.mpr ⟨str_at (hts (.stringRef "ToolPlex" 321 "no such copy or unit") (List.mem_of_getElem? (i := 1656) (by decide +kernel))) (hn _ (by decide +kernel)), List.forall_mem_cons.mpr ⟨str_at (hts (.stringRef "ToolPlex" 343 "no such number of tokens") (List.mem_of_getElem? (i := 1711) (by decide +kernel))) (hn _ (by decide +kernel)), List.forall_mem_cons.mpr ⟨str_at (hts (.stringRef "ToolPlex" 356 "no such fault") (List.mem_of_getElem? (i := 1740) (by decide +kernel))) (hn _ (by decide +kernel)), List.forall_mem_cons.mpr ⟨str_at (hts (.stringRef "ToolPlex" 358 "no such editor") (List.mem_of_getElem? (i := 1261) (by decide +kernel))) (hn _ (by decide +kernel)), List.forall_mem_cons.mpr ⟨str_at (hts (.stringRef "ToolPlex" 360 "no such server") (List.mem_of_getElem? (i := 1473) (by decide +kernel))) (hn _ (by decide +kernel)), List.forall_mem_cons.mpr ⟨str_at (hts (.stringRef "ToolPlex" 368 "no such file") (List.mem_of_getElem? (i := 1139) (by decide +kernel))) (hn _ (by decide +kernel)), List.forall_mem_cons.mpr ⟨str_at (hts (.stringRef "ToolPlex" 370 "no such channel") (List.mem_of_getElem? (i := 1624) (by decide +kernel))) (hn _ (by decide +kernel)), List.forall_mem_cons.mpr ⟨str_at (hts (.stringRef "ToolPlex" 372 "no such item") (List.mem_of_getElem? (i := 1691) (by decide +kernel))) (hn _ (by decide +kernel)), List.forall_mem_cons.mpr ⟨str_at (hts (.stringRef "ToolPlex" 377 "no such character") (List.mem_of_getElem? (i := 1161) (by decide +kernel))) (hn _ (by decide +kernel)), List.forall_mem_cons.mpr ⟨str_at (hts (.stringRef "ToolPlex" 379 "no such position") (List.mem_of_getElem? (i := 1331) (by decide +kernel))) (hn _ (by decide +kernel)), List.forall_mem_cons.mpr ⟨str_at (hts (.stringRef "ToolPlex" 381 "the editor does not have the file open") (List.mem_of_getElem? (i := 1304) (by decide +kernel))) (hn _ (by decide +kernel)), fun q h => absurd h List.not_mem_nil⟩⟩⟩⟩⟩⟩⟩⟩⟩⟩⟩⟩⟩⟩⟩⟩⟩⟩⟩⟩⟩⟩⟩⟩⟩⟩⟩
