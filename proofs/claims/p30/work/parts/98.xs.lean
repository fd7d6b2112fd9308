/-! faults: a server tells them -/
def TdP (n : Nat) (M : Mo) (m f V : Int) (its : List It) : Prop := (kd M m = 8 ∧ sv n ≤ m) ∧ (fd M 7 0 m = 6 ∧ fd M 7 1 m = f ∧ fd M 7 5 m = V) ∧ (kd M (fd M 7 15 m) = 7 ∧ sv n ≤ fd M 7 15 m) ∧ iv M (fd M 7 15 m) = its
theorem TdP.mo {n : Nat} {S : Nat → Int → Prop} {a b : Nat} {M M' : Mo} {m f V : Int} {its : List It} (h : TdP n M m f V its) (hK : Keeps S a b M M') (h1 : ∀ l, 140 ≤ l → l ≤ 155 → ¬ S l m) (h2 : ¬ S 301 (fd M 7 15 m)) : TdP n M' m f V its ∧ fd M' 7 15 m = fd M 7 15 m := by
  obtain ⟨⟨a1, a2⟩, ⟨a3, a4, a5⟩, ⟨a6, a7⟩, a8⟩ := h
  have fk : ∀ q, q ≤ 15 → fd M' 7 q m = fd M 7 q m := fun q hq => by
    have hh : hidF 7 q = false := rfl
    exact hK.f 7 q (by omega) hh (h1 _ (by omega) (by omega))
  have e15 := fk 15 (by omega)
  refine ⟨⟨⟨hK.k1 a1, a2⟩, ⟨by rw [fk 0 (by omega)]; exact a3, by rw [fk 1 (by omega)]; exact a4, by rw [fk 5 (by omega)]; exact a5⟩, ?_⟩, e15⟩
  rw [e15]
  exact ⟨⟨hK.k1 a6, a7⟩, by rw [hK.i a6 h2]; exact a8⟩
theorem mkF_ {n : Nat} {M : Mo} {i f V : Int} {L : List It} (hG : Good n M) (hi : kd M i = 7) (hL : iv M i = L) (hl : L.length ≤ 1000) (hr : nc M + 10 ≤ CAPC ∧ ns M + (40 + 4 * L.length) ≤ CAPS) : ∃ M6, X5_copied i (sF (mkM M 6 f) 7 5 (nid M) V) = some (0, nid (mkM M 6 f), M6) ∧ kd M6 (nid M) = 8 ∧ Good n (sF M6 7 15 (nid M) (nid (mkM M 6 f))) ∧ Keeps (fun _ _ => False) 5 (25 + 4 * L.length) M (sF M6 7 15 (nid M) (nid (mkM M 6 f))) ∧ TdP n (sF M6 7 15 (nid M) (nid (mkM M 6 f))) (nid M) f V L ∧ nid M ≤ fd (sF M6 7 15 (nid M) (nid (mkM M 6 f))) 7 15 (nid M) := by
  have hnd := hG.2.1.2
  obtain ⟨x1, x2, x3, x4, x5⟩ := mkM_ (kind := 6) (file := f) hG.1
  obtain ⟨w2, s2⟩ := fld_step (c := 7) (k := 5) (x := nid M) (v := V) x1.1 rfl (by omega) (by omega)
  have K5 := x1.2.add s2 hG.1 (fun l y hy z => by omega)
  obtain ⟨M5, hM5⟩ : ∃ M5, M5 = sF (mkM M 6 f) 7 5 (nid M) V := ⟨_, rfl⟩
  have hn5 : nid (mkM M 6 f) = nid M5 := by rw [hM5]; rfl
  rw [← hM5] at w2 K5 ⊢
  rw [hn5]
  have G5 := hG.mo ⟨w2, K5⟩ (fun l y z => z.elim)
  have l5 := K5.le
  have iv5 : iv M5 i = L := by rw [K5.i hi (fun z => z)]; exact hL
  have k5 : kd M5 i = 7 := K5.k1 hi
  obtain ⟨M6, g1, g2, g3, g4⟩ := copied_ w2 G5.z k5 (by rw [iv5]; omega) (by rw [iv5]; omega)
  rw [iv5] at g2 g4
  have K6 := K5.add0 g2.2 hG.1
  have G6 := G5.mo g2 (fun l y z => z.elim)
  have nd5 : nid M < nid M5 := by
    rw [← hn5]
    exact (x1.1.pos (by omega)).2
  have b7 := fld_step (c := 7) (k := 15) (x := nid M) (v := nid M5) G6.1 rfl (by omega) (by omega)
  have K7 := K6.add b7.2 hG.1 (fun l y hy z => by omega)
  have G7 := G6.mo b7 (fun l y z => by unfold mutL; omega)
  have m8 : kd M5 (nid M) = 8 := by rw [hM5]; exact x2
  have m8' : kd M6 (nid M) = 8 := g2.2.k1 m8
  have ef : ∀ q, q ≤ 17 → q ≠ 5 → q ≠ 15 → fd (sF M6 7 15 (nid M) (nid M5)) 7 q (nid M) = msgF (nid M) 6 f q := fun q h17 h5 h15 => by
    have hh : hidF 7 q = false := rfl
    rw [fd_sF, if_neg (by omega), g2.2.f 7 q (by omega) hh (fun z => z), hM5, fd_sF, if_neg (by omega), x3]
  have ef5 : fd (sF M6 7 15 (nid M) (nid M5)) 7 5 (nid M) = V := by rw [fd_sF, if_neg (by omega), g2.2.f 7 5 (by omega) rfl (fun z => z), hM5, fd_sF, if_pos ⟨rfl, rfl, rfl⟩]
  have ef15 : fd (sF M6 7 15 (nid M) (nid M5)) 7 15 (nid M) = nid M5 := by rw [fd_sF, if_pos ⟨rfl, rfl, rfl⟩]
  refine ⟨M6, g1, m8', G7, K7.ti (by have := K7.le; omega) (by have := K7.le; omega), ⟨⟨b7.2.k1 m8', by omega⟩, ⟨ef 0 (by omega) (by omega) (by omega), ef 1 (by omega) (by omega) (by omega), ef5⟩, ⟨by rw [ef15]; exact b7.2.k1 g3, by rw [ef15]; omega⟩, by rw [ef15, b7.2.i g3 (by omega)]; exact g4⟩, by rw [ef15]; omega⟩
def flt (T : TV2) : Int → List Int → List Int
  | _, [] => []
  | a, s :: L => if alks T.2 s (rE T.2 T.1 s) T.2 a (rE T.2 T.1 a) = true then s :: flt T s L else flt T s L
theorem flt_len {T : TV2} : ∀ (L : List Int) (a : Int), (flt T a L).length ≤ L.length
  | [], _ => Nat.le_refl _
  | s :: L, a => by
    have := flt_len (T := T) L s
    rw [flt]
    split
    · rw [List.length_cons, List.length_cons]; omega
    · rw [List.length_cons]; omega
def fltL (T : TV2) (style : Int) : List Int := match BG T.2 T.1 style 0 with
  | [] => []
  | a :: L => flt T a L
theorem fFlt_ {n : Nat} {j f t c style : Int} {T : TV2} {M0 : Mo} (j0 : 0 ≤ j) (j1 : j < n) : ∀ (L : List Int) (fu : Nat) (k a left : Int) (M : Mo), BG T.2 T.1 style k = L → svs n M j t style T → 0 ≤ k → k ≤ T.1 → (0 ≤ a ∧ a < T.1) → (L.length : Int) ≤ left → left ≤ 100 → L.length < fu → (iv M (sv j + 8)).length + L.length ≤ 100 → Cst (sv j + 8) M0 M (iv M (sv j + 8)).length → nc M + L.length ≤ CAPC → ns M0 + 3000 ≤ CAPS → ∃ M', X9_faultsOf_63 fu (sv j) f c t a (rE T.2 T.1 a) (nR T.2 T.1 style k) left M = X9_faultsOf_137 (sv j) f c M' ∧ svs n M' j t style T ∧ Keeps (foS (sv j + 8)) L.length (1000 * L.length) M M' ∧ iv M' (sv j + 8) = iv M (sv j + 8) ++ (flt T a L).map (tmI f T) ∧ Cst (sv j + 8) M0 M' (iv M' (sv j + 8)).length := by
  intro L
  induction L with
  | nil =>
    intro fu k a left M hL hS k0 k1 ha hl1 hl2 hf hlen hc hnc hns
    obtain ⟨fu1, rfl⟩ : ∃ fu1, fu = fu1 + 1 := ⟨fu - 1, by omega⟩
    refine ⟨M, ?_, hS, Keeps.rf, (List.append_nil _).symm, hc⟩
    rw [X9_faultsOf_63, nR_nil k1 hL]
    split
    · rfl
    · rw [if_pos rfl]
  | cons s L ih =>
    intro fu k a left M hL hS k0 k1 ha hl1 hl2 hf hlen hc hnc hns
    obtain ⟨fu1, rfl⟩ : ∃ fu1, fu = fu1 + 1 := ⟨fu - 1, by omega⟩
    obtain ⟨⟨st0, st1⟩, hX, eN, eG, T0, T1⟩ := hS.st j0 j1
    obtain ⟨e1, ⟨s0, s1⟩, hbg, hL', r1, r2⟩ := nR_cons k1 hL
    obtain ⟨ra1, ra2, -⟩ := rE_spec (T := T.2) ha.2
    have hG := hS.1
    have hks := hG.s j0 j1
    rw [List.length_cons] at hl1 hf hlen hnc
    have hcl := hc.le (by omega)
    have hre := runEnd_ hX (i := s) (by omega) (by rw [eN]; exact s1)
    rw [eN, eG] at hre
    have hal := alike_ (a := s) (b := rE T.2 T.1 s) (c := a) (d := rE T.2 T.1 a) hX hX (by omega) (by omega) (by omega) (by omega) (by omega)
    rw [eG] at hal
    rw [X9_faultsOf_63, e1, wr_id (z := left) (by omega) (by omega), if_neg (by omega), wr_id (z := s) (by omega) (by omega), wr_id (z := -1) (by omega) (by omega), if_neg (by omega), if_pos hX.1, cal_ok hre, cal_ok hal, flt]
    by_cases d : alks T.2 s (rE T.2 T.1 s) T.2 a (rE T.2 T.1 a) = true
    · obtain ⟨M1, a1, a2, a3, a4⟩ := iadd_ (f := f) (s := s) (e := rE T.2 T.1 s) (v := 0) hG.1 hG.z hks.2.2.2.2.1 (by omega) (by omega)
      have K1 : Keeps (foS (sv j + 8)) 1 1000 M M1 := a2.2.mo hG.1 (fun _ _ _ z => z) (by omega) (by omega)
      have S1 := hS.mo j0 j1 a2.1 K1
      have hl3 : (iv M1 (sv j + 8)).length = (iv M (sv j + 8)).length + 1 := by rw [a3, List.length_append]; rfl
      have hle := K1.le
      obtain ⟨M', b1, b2, b3, b4, b5⟩ := ih fu1 (rE T.2 T.1 s) s (left + (-1)) M1 hL' S1 (by omega) r2 ⟨by omega, s1⟩ (by omega) (by omega) (by omega) (by omega) (hc.gr a4 hle.2.2.1 (by omega) (by omega)) (by omega) hns
      obtain ⟨-, hX1, eN1, eG1, -⟩ := S1.st j0 j1
      have hnr := nextRun_ hX1 (style := style) (i := rE T.2 T.1 s) ⟨st0, st1⟩ (by omega) (by rw [eN1]; exact r2)
      rw [eN1, eG1] at hnr
      have hk1 := S1.1.s j0 j1
      refine ⟨M', ?_, b2, (K1.add b3 hG.1 (fun _ _ _ z => z)).mo hG.1 (fun _ _ _ z => z) (by rw [List.length_cons]; omega) (by rw [List.length_cons]; omega), ?_, b5⟩
      · rw [if_pos d, if_neg (by decide), if_pos hks.1.1, hks.1.2.2.2.2.2.2.2.2, if_pos hks.2.2.2.2.1, cal_ok a1]
        unfold X9_faultsOf_111
        rw [if_pos hk1.1.1, if_pos hX1.1, S1.2.2, cal_ok hnr, b1]
      · rw [b4, a3, List.append_assoc, if_pos d]
        rfl
    · obtain ⟨M', b1, b2, b3, b4, b5⟩ := ih fu1 (rE T.2 T.1 s) s (left + (-1)) M hL' hS (by omega) r2 ⟨by omega, s1⟩ (by omega) (by omega) (by omega) (by omega) hc (by omega) hns
      have hnr := nextRun_ hX (style := style) (i := rE T.2 T.1 s) ⟨st0, st1⟩ (by omega) (by rw [eN]; exact r2)
      rw [eN, eG] at hnr
      refine ⟨M', ?_, b2, b3.mo hG.1 (fun _ _ _ z => z) (by rw [List.length_cons]; omega) (by rw [List.length_cons]; omega), ?_, b5⟩
      · rw [if_neg d, if_pos (by decide)]
        unfold X9_faultsOf_111
        rw [if_pos hks.1.1, if_pos hX.1, hS.2.2, cal_ok hnr, b1]
      · rw [b4, if_neg d]
theorem fltsOf_ {n : Nat} {M : Mo} {j f V : Int} {T : TV2} (hG : Good n M) (j0 : 0 ≤ j) (j1 : j < n) (f0 : 0 ≤ f) (f1 : f < 2) (hV : fd M 3 4 (sC j f) = V) (hT : tv M (sC j f + 1) = T) (hr : nc M + 300 ≤ CAPC ∧ ns M + 6000 ≤ CAPS) : ∃ M' m, X9_faultsOf (sv j) f M = some (0, m, M') ∧ Good n M' ∧ Keeps (foS (sv j + 8)) 110 2500 M M' ∧ TdP n M' m f V ((fltL T (fd M 10 2 (sv j))).map (tmI f T)) ∧ nid M ≤ m ∧ nid M ≤ fd M' 7 15 m ∧ (fltL T (fd M 10 2 (sv j))).length ≤ 100 := by
  obtain ⟨⟨a1, a2, a3, a4, a5, a6, a7, a8, a9⟩, ⟨a10, a11⟩, a12, a13, a14, a15⟩ := hG.s j0 j1
  have hsC : sC j f = sv j + 9 + 5 * f := rfl
  have hcp := (a15 f f0 (by omega)).2
  obtain ⟨⟨c1, c2⟩, -⟩ := hG.1.cp hcp
  obtain ⟨style, hst⟩ : ∃ style, style = fd M 10 2 (sv j) := ⟨_, rfl⟩
  obtain ⟨M1, b1, b2, b3⟩ := iclear_ hG.1 a14 hG.z
  have G1 := hG.mo b2 (fun l y z => by unfold mutL; omega)
  have K1 : Keeps (foS (sv j + 8)) 0 0 M M1 := b2.2
  have S1 : svs n M1 j (sC j f + 1) style T := ⟨G1, ⟨K1.k1 c2, by rw [K1.t c2 (by unfold foS; omega)]; exact hT⟩, by rw [K1.f 10 2 (by omega) rfl (by unfold foS; omega), hst]⟩
  obtain ⟨⟨st0, st1⟩, hX, eN, eG, T0, T1⟩ := S1.st j0 j1
  have l1 := K1.le
  have hnr0 := nextRun_ hX (style := style) (i := 0) ⟨st0, st1⟩ (by omega) (by rw [eN]; exact T0)
  rw [eN, eG] at hnr0
  have f8 := (G1.s j0 j1).1
  have hV1 : fd M1 3 4 (sC j f) = V := by rw [K1.f 3 4 (by omega) rfl (by unfold foS; omega)]; exact hV
  have hB : (BG T.2 T.1 style 0).length ≤ 100 := by
    have := BG_len (T := T.2) (n := T.1) (style := style) (k := 0)
    omega
  have hfl : (fltL T style).length ≤ 100 := by
    unfold fltL
    split
    · exact Nat.zero_le _
    · rename_i a L e
      rw [e, List.length_cons] at hB
      have := flt_len (T := T) L a
      omega
  -- up to the message
  have fin : ∀ M2, svs n M2 j (sC j f + 1) style T → Keeps (foS (sv j + 8)) 100 2000 M M2 → iv M2 (sv j + 8) = (fltL T style).map (tmI f T) → X9_faultsOf (sv j) f M = X9_faultsOf_137 (sv j) f (sC j f) M2 → ∃ M' m, X9_faultsOf (sv j) f M = some (0, m, M') ∧ Good n M' ∧ Keeps (foS (sv j + 8)) 110 2500 M M' ∧ TdP n M' m f V ((fltL T style).map (tmI f T)) ∧ nid M ≤ m ∧ nid M ≤ fd M' 7 15 m ∧ (fltL T style).length ≤ 100 := fun M2 S2 K2 hi2 he => by
    have G2 := S2.1
    have k2 := G2.s j0 j1
    have l2 := K2.le
    have hll : ((fltL T style).map (tmI f T)).length ≤ 100 := by rw [List.length_map]; exact hfl
    obtain ⟨M6, g1, g2, g3, g4, g5, g6⟩ := mkF_ (f := f) (V := V) G2 k2.2.2.2.2.1 hi2 (by omega) (by omega)
    have nd2 : nid M ≤ nid M2 := K2.nd
    have hx6 := x6_ (M := M2) (kind := 6) (file := f) (by omega)
    obtain ⟨x1, -⟩ := mkM_ (kind := 6) (file := f) G2.1
    have c4 : kd M2 (sC j f) = 4 := K2.k1 hcp
    have v2 : fd (mkM M2 6 f) 3 4 (sC j f) = V := by
      rw [x1.2.f 3 4 (by omega) rfl (fun z => z), K2.f 3 4 (by omega) rfl (by unfold foS; omega)]
      exact hV
    have ks : kd (sF (mkM M2 6 f) 7 5 (nid M2) V) (sv j) = 11 := x1.2.k1 k2.1.1
    have fs : fd (sF (mkM M2 6 f) 7 5 (nid M2) V) 10 7 (sv j) = sv j + 8 := by
      rw [fd_sF, if_neg (by omega), x1.2.f 10 7 (by rw [k2.1.1]; decide) rfl (fun z => z)]
      exact k2.1.2.2.2.2.2.2.2.2
    have ki : kd (sF (mkM M2 6 f) 7 5 (nid M2) V) (sv j + 8) = 7 := x1.2.k1 k2.2.2.2.2.1
    refine ⟨_, nid M2, ?_, g3, (K2.add0 g4 hG.1).mo hG.1 (fun _ _ _ z => z) (by omega) (by omega), g5, by omega, by omega, hfl⟩
    rw [he]
    unfold X9_faultsOf_137
    rw [if_pos (by omega)]
    dsimp only [pt]
    rw [cal0_ok hx6, if_pos (x1.2.k1 c4), v2, if_pos ks, fs, if_pos ki, cal_ok g1]
  rw [← hst]
  have pre : ∀ v, X10_nextRun (sC j f + 1) 0 style M1 = some (0, v, M1) → X9_faultsOf (sv j) f M = if v = -1 then X9_faultsOf_45 (sv j) f (sC j f) (sC j f + 1) v 0 M1 else cal (X10_runEnd (sC j f + 1) v M1) fun w M15 => X9_faultsOf_45 (sv j) f (sC j f) (sC j f + 1) v w M15 := fun v hv => by
    have hz : okI1 v := by
      have := hv.symm.trans hnr0
      have e : v = nR T.2 T.1 style 0 := by
        have := congrArg (fun o : Option RS => o.map (fun r => r.2.1)) this
        exact Option.some.inj this
      rcases nR_BG (T := T.2) (style := style) (k := 0) T0 with ⟨h1, -⟩ | ⟨h1, h2, -⟩
      · omega
      · omega
    unfold X9_faultsOf
    rw [if_pos a1, cal_ok (sCopy_ hG j0 j1 f0 (by omega)), if_pos hcp, a9, if_pos a14, cal_ok b1, c1, if_pos (K1.k1 c2), S1.2.2, cal_ok hv, wr_id (z := v) (by omega) (by omega), wr_id (z := -1) (by omega) (by omega)]
  rcases hBG : BG T.2 T.1 style 0 with _ | ⟨a, L⟩
  · have hnil := nR_nil T0 hBG
    have hnr1 := hnr0
    rw [hnil] at hnr1
    have hfe : fltL T style = [] := by unfold fltL; rw [hBG]
    refine fin M1 S1 (K1.mo hG.1 (fun _ _ _ z => z) (by omega) (by omega)) (by rw [b3, hfe]; rfl) ?_
    rw [pre (-1) hnr1, if_pos rfl]
    unfold X9_faultsOf_45
    rw [if_pos f8.1, if_pos hX.1, S1.2.2, cal_ok hnr1, show FU = 999999 + 1 from rfl, X9_faultsOf_63, if_neg (by decide), if_pos (by decide)]
  · obtain ⟨e1, ⟨s0, s1⟩, hbg, hL', r1, r2⟩ := nR_cons (T := T.2) T0 hBG
    have hre := runEnd_ hX (i := a) (by omega) (by rw [eN]; exact s1)
    rw [eN, eG] at hre
    have hnr := nextRun_ hX (style := style) (i := rE T.2 T.1 a) ⟨st0, st1⟩ (by omega) (by rw [eN]; exact r2)
    rw [eN, eG] at hnr
    have hfe : fltL T style = flt T a L := by unfold fltL; rw [hBG]
    rw [hBG, List.length_cons] at hB
    obtain ⟨M2, d1, d2, d3, d4, d5⟩ := fFlt_ (f := f) (c := sC j f) (M0 := M1) j0 j1 L FU (rE T.2 T.1 a) a 100 M1 hL' S1 (by omega) r2 ⟨by omega, s1⟩ (by omega) (by omega) (Nat.lt_of_le_of_lt (show L.length ≤ 100 by omega) (by decide)) (by rw [b3]; show 0 + _ ≤ 100; omega) Cst.rf (by omega) (by omega)
    rw [b3, List.nil_append] at d4
    have hle := d5.le (by omega)
    rw [d4, List.length_map] at hle
    rw [hfe] at hfl
    have l3 := d3.le
    refine fin M2 d2 ((K1.add d3 hG.1 (fun _ _ _ z => z)).ti (by omega) (by omega)) (by rw [d4, hfe]) ?_
    rw [e1] at hnr0
    rw [pre a hnr0, if_neg (by omega), cal_ok hre]
    unfold X9_faultsOf_45
    rw [if_pos f8.1, if_pos hX.1, S1.2.2, cal_ok hnr, d1]
def tfS (j : Int) (l : Nat) (y : Int) : Prop := (l = 301 ∧ y = sv j + 8) ∨ (l = 303 ∧ y = 46 + 2 * j)
theorem does10 {a b : Int} {M : Mo} (h : kd M 10 = 13) : L_does 10 10 a b 0 0 0 0 0 M = calh 3 (X11_tellFaults 10 a b M) fun v M => some (0, v, M) := by
  unfold L_does
  rw [if_neg (by decide), if_neg (by decide), if_neg (by decide), if_neg (by decide), if_neg (by decide), if_neg (by decide), if_neg (by decide), if_neg (by decide), if_neg (by decide), if_neg (by decide), if_pos (by decide), if_pos h]
theorem tellF_ {n : Nat} {M : Mo} {j f V : Int} {T : TV2} (hG : Good n M) (j0 : 0 ≤ j) (j1 : j < n) (f0 : 0 ≤ f) (f1 : f < 2) (hV : fd M 3 4 (sC j f) = V) (hV1 : 1 ≤ V ∧ V ≤ 1000) (hT : tv M (sC j f + 1) = T) (hc : lv M (46 + 2 * j) = []) (hr : nc M + 400 ≤ CAPC ∧ ns M + 9000 ≤ CAPS) : ∃ M' m, X11_tellFaults 10 j f M = some (0, ((fltL T (fd M 10 2 (sv j))).length : Int), M') ∧ Good n M' ∧ Keeps (tfS j) 111 2510 M M' ∧ lv M' (46 + 2 * j) = [m] ∧ TdP n M' m f V ((fltL T (fd M 10 2 (sv j))).map (tmI f T)) ∧ nid M ≤ m ∧ nid M ≤ fd M' 7 15 m ∧ (fltL T (fd M 10 2 (sv j))).length ≤ 100 := by
  have hn3 := hG.2.1.1
  have hks := hG.s j0 j1
  have hcp := (hks.2.2.2.2.2 f f0 (by omega)).2
  have hsj : 215 ≤ sv j := by unfold sv; split <;> omega
  have hsn := sv_lo (n := n)
  obtain ⟨M1, m, e1, G1, K1, A1, na, ni, hlen⟩ := fltsOf_ hG j0 j1 f0 f1 hV hT (by omega)
  have l1 := K1.le
  have hch : kd M (46 + 2 * j) = 1 := by
    have := Rel.chl hG (c := 5 + j) (by omega) (by omega)
    rwa [show 36 + 2 * (5 + j) = 46 + 2 * j by omega] at this
  have c1 : lv M1 (46 + 2 * j) = [] := by rw [K1.l hch (by unfold foS; omega)]; exact hc
  obtain ⟨M2, d1, d2, d3⟩ := xsend_ (c := 5 + j) (m := m) G1 (by omega) (by omega) A1.1.1 (by rw [show 36 + 2 * (5 + j) = 46 + 2 * j by omega, c1]; exact Nat.zero_le _) (by omega)
  rw [show 36 + 2 * (5 + j) = 46 + 2 * j by omega, c1] at d2 d3
  have G2 := G1.mo d2 (fun l y z => by unfold mutL; omega)
  obtain ⟨A2, e15⟩ := A1.mo d2.2 (fun l l0 l1 z => by omega) (by omega)
  have hcnt := iv_cnt G2.1 A2.2.2.1.1
  rw [A2.2.2.2, List.length_map] at hcnt
  have hhe : X2_isHere (sC j f) M = some (0, 1, M) := by
    rw [isHere_ hcp (by omega), if_neg (by omega)]
  refine ⟨M2, m, ?_, G2, ((K1.mo (S' := tfS j) hG.1 (fun l y _ z => Or.inl z) (Nat.le_refl _) (Nat.le_refl _)).add d2.2 hG.1 (fun l y _ z => Or.inr z)).mo hG.1 (fun _ _ _ z => z) (by omega) (by show 2500 + (2 * 0 + 10) ≤ 2510; omega), d3, A2, na, by rw [e15]; exact ni, hlen⟩
  unfold X11_tellFaults
  rw [if_pos hG.t.1.1, cal_ok (svAt_ hG j0 j1), cal_ok (ckF_ hG f0 f1), if_pos hks.1.1, cal_ok (sCopy_ hG j0 j1 f0 (by omega)), if_pos hcp, cal_ok hhe, if_neg (by decide), cal_ok e1, cal_ok d1, if_pos A2.1.1, if_pos A2.2.2.1.1, cal_ok (isize_ A2.2.2.1.1), hcnt]
