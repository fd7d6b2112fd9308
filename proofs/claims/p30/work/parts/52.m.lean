/-! new objects: messages, asks -/
theorem newO {M : Mo} {c w : Nat} (hW : WF M) (hc : c ≠ 0 ∧ c ≠ 2 ∧ c ≠ 3 ∧ c ≠ 6 ∧ c ≠ 11 ∧ c < 90) : (WF (nO M c w) ∧ Keeps (fun _ _ => False) 1 w M (nO M c w)) ∧ kd (nO M c w) (nid M) = c + 1 := by
  refine ⟨new_step hW ⟨by show nc M ≤ nc M + 1; omega, Nat.le_refl _, by show ns M ≤ ns M + w; omega, Nat.le_refl _⟩ (fun y hy => ⟨by rw [v_kd_nO, if_neg (by omega)], rfl, fun q k => by rw [v_fd_nO, if_neg (by omega)], fun t j => rfl⟩) (fun y hy hk => ?_), by rw [v_kd_nO, if_pos rfl]⟩
  have hy2 : y = nid M := by
    by_cases z1 : y = nid M
    · exact z1
    · rw [v_kd_nO, if_neg z1] at hk
      exact absurd (hW.new hy) hk
  subst hy2
  have e : kd (nO M c w) (nid M) = c + 1 := by rw [v_kd_nO, if_pos rfl]
  rw [e]
  refine ⟨by rw [v_nid_nO]; omega, fun h => by omega, fun q hq h => ?_, fun h => by omega, fun h => by omega⟩
  rcases hq with rfl | rfl | rfl <;> omega
theorem fd_mkI (M : Mo) (c k : Nat) (y : Int) (hy : y ≠ nid M) : fd (mkI M) c k y = fd M c k y := by
  unfold mkI
  rw [fd_sF, if_neg (fun z => hy z.2.2), v_fd_nO, if_neg hy]
def mB (M : Mo) : Mo := sF (sF (sF (sF (sF (sF (sF (sF (nO M 7 17) 7 2 (nid M) (-1)) 7 3 (nid M) (-1)) 7 4 (nid M) (-1)) 7 5 (nid M) (-1)) 7 10 (nid M) (-1)) 7 11 (nid M) (-1)) 7 13 (nid M) 0) 7 14 (nid M) 0
def mkM (M : Mo) (kind file : Int) : Mo := sF (sF (sF (sF (mkI (mB M)) 7 15 (nid M) (nid M + 1)) 7 16 (nid M) 1) 7 0 (nid M) kind) 7 1 (nid M) file
theorem nid_mB (M : Mo) : nid (mB M) = nid M + 1 := by
  unfold mB
  simp only [v_nid_sF, v_nid_nO]
theorem x6_ {M : Mo} {kind file : Int} (hr : nc M + 2 ≤ CAPC ∧ ns M + 19 ≤ CAPS) : X6_init (nid M) kind file (nO M 7 17) = some (0, 0, mkM M kind file) := by
  have h0 : kd (nO M 7 17) (nid M) = 8 := by rw [v_kd_nO, if_pos rfl]
  unfold X6_init
  rw [if_pos (by rw [h0]; decide), if_pos h0]
  have e : (pt (sF (nO M 7 17) 7 2 (nid M) (-1)) fun M3 => pt (sF M3 7 3 (nid M) (-1)) fun M5 => pt (sF M5 7 4 (nid M) (-1)) fun M7 => pt (sF M7 7 5 (nid M) (-1)) fun M9 => pt (sF M9 7 10 (nid M) (-1)) fun M11 => pt (sF M11 7 11 (nid M) (-1)) fun M13 => pt (sF M13 7 13 (nid M) 0) fun M15 => pt (sF M15 7 14 (nid M) 0) fun M17 => if nc M17 + 1 ≤ CAPC ∧ ns M17 + 2 ≤ CAPS then pt (nO M17 6 2) fun M21 => cal0 (X5_init (nid M17) M21) fun _ M24 => pt (sF M24 7 15 (nid M) (nid M17)) fun M26 => pt (sF M26 7 16 (nid M) 1) fun M28 => pt (sF M28 7 0 (nid M) kind) fun M30 => pt (sF M30 7 1 (nid M) file) fun M32 => some ((0 : Int), (0 : Int), M32) else none) = if nc (mB M) + 1 ≤ CAPC ∧ ns (mB M) + 2 ≤ CAPS then pt (nO (mB M) 6 2) fun M21 => cal0 (X5_init (nid (mB M)) M21) fun _ M24 => some (0, 0, sF (sF (sF (sF M24 7 15 (nid M) (nid (mB M))) 7 16 (nid M) 1) 7 0 (nid M) kind) 7 1 (nid M) file) else none := rfl
  rw [e, newI (M := mB M) (show nc M + 1 + 1 ≤ CAPC ∧ ns M + 17 + 2 ≤ CAPS by omega), nid_mB]
  rfl
/-- the fields of a new message -/
def msgF (x : Int) (kind file : Int) (k : Nat) : Int := if k = 0 then kind else if k = 1 then file else if k = 2 ∨ k = 3 ∨ k = 4 ∨ k = 5 ∨ k = 10 ∨ k = 11 then -1 else if k = 15 then x + 1 else if k = 16 then 1 else 0
theorem mkM_ {M : Mo} {kind file : Int} (hW : WF M) : (WF (mkM M kind file) ∧ Keeps (fun _ _ => False) 2 19 M (mkM M kind file)) ∧ kd (mkM M kind file) (nid M) = 8 ∧ (∀ k, fd (mkM M kind file) 7 k (nid M) = msgF (nid M) kind file k) ∧ kd (mkM M kind file) (nid M + 1) = 7 ∧ iv (mkM M kind file) (nid M + 1) = [] := by
  obtain ⟨⟨w0, s0⟩, k0⟩ := newO (c := 7) (w := 17) hW (by omega)
  obtain ⟨w1, s1⟩ := fld_step (c := 7) (k := 2) (x := nid M) (v := -1) w0 rfl (by omega) (by omega)
  obtain ⟨w2, s2⟩ := fld_step (c := 7) (k := 3) (x := nid M) (v := -1) w1 rfl (by omega) (by omega)
  obtain ⟨w3, s3⟩ := fld_step (c := 7) (k := 4) (x := nid M) (v := -1) w2 rfl (by omega) (by omega)
  obtain ⟨w4, s4⟩ := fld_step (c := 7) (k := 5) (x := nid M) (v := -1) w3 rfl (by omega) (by omega)
  obtain ⟨w5, s5⟩ := fld_step (c := 7) (k := 10) (x := nid M) (v := -1) w4 rfl (by omega) (by omega)
  obtain ⟨w6, s6⟩ := fld_step (c := 7) (k := 11) (x := nid M) (v := -1) w5 rfl (by omega) (by omega)
  obtain ⟨w7, s7⟩ := fld_step (c := 7) (k := 13) (x := nid M) (v := 0) w6 rfl (by omega) (by omega)
  obtain ⟨w8, s8⟩ := fld_step (c := 7) (k := 14) (x := nid M) (v := 0) w7 rfl (by omega) (by omega)
  have sB : Keeps (fun _ y => y = nid M) 1 17 (nO M 7 17) (mB M) := ((((((((s1.tr s2 w0).tr s3 w0).tr s4 w0).tr s5 w0).tr s6 w0).tr s7 w0).tr s8 w0).mo w0 (fun l y _ h => by omega) (by omega) (by omega))
  have wB : WF (mB M) := w8
  obtain ⟨⟨w9, s9⟩, k9, v9⟩ := mkI_ wB
  rw [nid_mB] at k9 v9
  obtain ⟨wa, sa⟩ := fld_step (c := 7) (k := 15) (x := nid M) (v := nid M + 1) w9 rfl (by omega) (by omega)
  obtain ⟨wb, sb⟩ := fld_step (c := 7) (k := 16) (x := nid M) (v := 1) wa rfl (by omega) (by omega)
  obtain ⟨wc, sc⟩ := fld_step (c := 7) (k := 0) (x := nid M) (v := kind) wb rfl (by omega) (by omega)
  obtain ⟨wd, sd⟩ := fld_step (c := 7) (k := 1) (x := nid M) (v := file) wc rfl (by omega) (by omega)
  have sE9 := (((sa.tr sb w9).tr sc w9).tr sd w9)
  have b0 : Keeps (fun _ y => y = nid M) 0 0 (nO M 7 17) (mB M) := ((((((((s1.tr s2 w0).tr s3 w0).tr s4 w0).tr s5 w0).tr s6 w0).tr s7 w0).tr s8 w0).mo w0 (fun l y _ h => by omega) (by omega) (by omega))
  refine ⟨⟨wd, (((s0.tr b0 hW).tr s9 hW).tr sE9 hW).mo hW (fun l y hy h => ?_) (by omega) (by omega)⟩, ?_, fun k => ?_, ?_, ?_⟩
  · rcases h with ((h | h) | h) | h
    · exact h
    · omega
    · exact h
    · omega
  · exact sE9.k1 (s9.k1 (b0.k1 k0))
  · have hne : nid M ≠ nid (mB M) := by rw [nid_mB]; omega
    unfold mkM
    rw [fd_sF, fd_sF, fd_sF, fd_sF, fd_mkI _ _ _ _ hne]
    unfold mB
    rw [fd_sF, fd_sF, fd_sF, fd_sF, fd_sF, fd_sF, fd_sF, fd_sF, v_fd_nO, if_pos rfl]
    unfold msgF
    simp only [true_and, and_true]
    match k with
    | 0 => rfl
    | 1 => rfl
    | 2 => rfl
    | 3 => rfl
    | 4 => rfl
    | 5 => rfl
    | 6 => rfl
    | 7 => rfl
    | 8 => rfl
    | 9 => rfl
    | 10 => rfl
    | 11 => rfl
    | 12 => rfl
    | 13 => rfl
    | 14 => rfl
    | 15 => rfl
    | 16 => rfl
    | k + 17 => repeat rw [if_neg (by omega)]
  · exact sE9.k1 k9
  · exact (sE9.i k9 (by omega)).trans v9
/-- a new ask -/
def mkA (M : Mo) (a b c : Int) : Mo := sF (sF (sF (sF (mkI (sF (nO M 1 5) 1 3 (nid M) 0)) 1 4 (nid M) (nid M + 1)) 1 0 (nid M) a) 1 1 (nid M) b) 1 2 (nid M) c
theorem x0_ {M : Mo} {a b c : Int} (hr : nc M + 2 ≤ CAPC ∧ ns M + 7 ≤ CAPS) : X0_init (nid M) a b c (nO M 1 5) = some (0, 0, mkA M a b c) := by
  have h0 : kd (nO M 1 5) (nid M) = 2 := by rw [v_kd_nO, if_pos rfl]
  have hn : nid (sF (nO M 1 5) 1 3 (nid M) 0) = nid M + 1 := by rw [v_nid_sF, v_nid_nO]
  unfold X0_init
  rw [if_pos (by rw [h0]; decide), if_pos h0]
  have e : (pt (sF (nO M 1 5) 1 3 (nid M) 0) fun M3 => if nc M3 + 1 ≤ CAPC ∧ ns M3 + 2 ≤ CAPS then pt (nO M3 6 2) fun M7 => cal0 (X5_init (nid M3) M7) fun _ M10 => pt (sF M10 1 4 (nid M) (nid M3)) fun M12 => pt (sF M12 1 0 (nid M) a) fun M14 => pt (sF M14 1 1 (nid M) b) fun M16 => pt (sF M16 1 2 (nid M) c) fun M18 => some ((0 : Int), (0 : Int), M18) else none) = if nc (sF (nO M 1 5) 1 3 (nid M) 0) + 1 ≤ CAPC ∧ ns (sF (nO M 1 5) 1 3 (nid M) 0) + 2 ≤ CAPS then pt (nO (sF (nO M 1 5) 1 3 (nid M) 0) 6 2) fun M7 => cal0 (X5_init (nid (sF (nO M 1 5) 1 3 (nid M) 0)) M7) fun _ M10 => some (0, 0, sF (sF (sF (sF M10 1 4 (nid M) (nid (sF (nO M 1 5) 1 3 (nid M) 0))) 1 0 (nid M) a) 1 1 (nid M) b) 1 2 (nid M) c) else none := rfl
  rw [e, newI (M := sF (nO M 1 5) 1 3 (nid M) 0) (show nc M + 1 + 1 ≤ CAPC ∧ ns M + 5 + 2 ≤ CAPS by omega), hn]
  rfl
theorem mkA_ {M : Mo} {a b c : Int} (hW : WF M) : (WF (mkA M a b c) ∧ Keeps (fun _ _ => False) 2 7 M (mkA M a b c)) ∧ kd (mkA M a b c) (nid M) = 2 ∧ (fd (mkA M a b c) 1 0 (nid M) = a ∧ fd (mkA M a b c) 1 1 (nid M) = b ∧ fd (mkA M a b c) 1 2 (nid M) = c ∧ fd (mkA M a b c) 1 3 (nid M) = 0 ∧ fd (mkA M a b c) 1 4 (nid M) = nid M + 1) ∧ kd (mkA M a b c) (nid M + 1) = 7 ∧ iv (mkA M a b c) (nid M + 1) = [] := by
  obtain ⟨⟨w0, s0⟩, k0⟩ := newO (c := 1) (w := 5) hW (by omega)
  obtain ⟨w1, s1⟩ := fld_step (c := 1) (k := 3) (x := nid M) (v := 0) w0 rfl (by omega) (by omega)
  have hn : nid (sF (nO M 1 5) 1 3 (nid M) 0) = nid M + 1 := by rw [v_nid_sF, v_nid_nO]
  obtain ⟨⟨w9, s9⟩, k9, v9⟩ := mkI_ w1
  rw [hn] at k9 v9
  obtain ⟨wa, sa⟩ := fld_step (c := 1) (k := 4) (x := nid M) (v := nid M + 1) w9 rfl (by omega) (by omega)
  obtain ⟨wb, sb⟩ := fld_step (c := 1) (k := 0) (x := nid M) (v := a) wa rfl (by omega) (by omega)
  obtain ⟨wc, sc⟩ := fld_step (c := 1) (k := 1) (x := nid M) (v := b) wb rfl (by omega) (by omega)
  obtain ⟨wd, sd⟩ := fld_step (c := 1) (k := 2) (x := nid M) (v := c) wc rfl (by omega) (by omega)
  have sE9 := (((sa.tr sb w9).tr sc w9).tr sd w9)
  have hne : nid M ≠ nid (sF (nO M 1 5) 1 3 (nid M) 0) := by rw [hn]; omega
  refine ⟨⟨wd, (((s0.tr s1 hW).tr s9 hW).tr sE9 hW).mo hW (fun l y hy h => ?_) (by omega) (by omega)⟩, ?_, ⟨?_, ?_, ?_, ?_, ?_⟩, ?_, ?_⟩
  · rcases h with ((h | h) | h) | h
    · exact h
    · omega
    · exact h
    · omega
  · exact sE9.k1 (s9.k1 (s1.k1 k0))
  · unfold mkA
    rw [fd_sF, if_neg (by omega), fd_sF, if_neg (by omega), fd_sF, if_pos ⟨rfl, rfl, rfl⟩]
  · unfold mkA
    rw [fd_sF, if_neg (by omega), fd_sF, if_pos ⟨rfl, rfl, rfl⟩]
  · unfold mkA
    rw [fd_sF, if_pos ⟨rfl, rfl, rfl⟩]
  · unfold mkA
    rw [fd_sF, if_neg (by omega), fd_sF, if_neg (by omega), fd_sF, if_neg (by omega), fd_sF, if_neg (by omega), fd_mkI _ _ _ _ hne, fd_sF, if_pos ⟨rfl, rfl, rfl⟩]
  · unfold mkA
    rw [fd_sF, if_neg (by omega), fd_sF, if_neg (by omega), fd_sF, if_neg (by omega), fd_sF, if_pos ⟨rfl, rfl, rfl⟩]
  · exact sE9.k1 k9
  · exact (sE9.i k9 (by omega)).trans v9
