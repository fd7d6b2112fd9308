/-! a server looks for runs: all, those alike, those longer -/
def svs (n : Nat) (M : Mo) (j t style : Int) (T : TV2) : Prop := Good n M ∧ (kd M t = 12 ∧ tv M t = T) ∧ fd M 10 2 (sv j) = style
theorem svs.mo {n : Nat} {M M' : Mo} {j t style : Int} {T : TV2} {a b : Nat} {fo : Int} (h : svs n M j t style T) (j0 : 0 ≤ j) (j1 : j < n) (hW : WF M') (hK : Keeps (foS fo) a b M M') : svs n M' j t style T := by
  obtain ⟨hG, ⟨h1, h2⟩, h3⟩ := h
  refine ⟨hG.mo ⟨hW, hK⟩ foS_mut, ⟨hK.k1 h1, by rw [hK.t h1 (by unfold foS; omega)]; exact h2⟩, ?_⟩
  rw [hK.f 10 2 (by have := (hG.s j0 j1).1.1; omega) rfl (by unfold foS; omega)]
  exact h3
theorem svs.st {n : Nat} {M : Mo} {j t style : Int} {T : TV2} (h : svs n M j t style T) (j0 : 0 ≤ j) (j1 : j < n) : (0 ≤ style ∧ style ≤ 2) ∧ TX M t ∧ tN M t = T.1 ∧ tG M t = T.2 ∧ (0 ≤ T.1 ∧ T.1 ≤ 100) := by
  obtain ⟨hG, ⟨h1, h2⟩, h3⟩ := h
  have hX := hG.1.tx h1
  have e1 : tN M t = T.1 := congrArg Prod.fst h2
  have e2 : tG M t = T.2 := congrArg Prod.snd h2
  refine ⟨by rw [← h3]; exact (hG.s j0 j1).1.2.2.1, hX, e1, e2, by rw [← e1]; exact ⟨hX.2.2.2.1, hX.2.2.2.2.1⟩⟩
theorem fAll_ {n : Nat} {j f t style : Int} {T : TV2} {M0 : Mo} (j0 : 0 ≤ j) (j1 : j < n) : ∀ (L : List Int) (fu : Nat) (k left : Int) (M : Mo), BG T.2 T.1 style k = L → svs n M j t style T → 0 ≤ k → k ≤ T.1 → (L.length : Int) ≤ left → left ≤ 100 → L.length < fu → (iv M (sv j + 8)).length + L.length ≤ 100 → Cst (sv j + 8) M0 M (iv M (sv j + 8)).length → nc M + L.length ≤ CAPC → ns M0 + 3000 ≤ CAPS → ∃ M', X9_findAll_14 fu (sv j) f t (nR T.2 T.1 style k) left M = some (0, 0, M') ∧ svs n M' j t style T ∧ Keeps (foS (sv j + 8)) L.length (1000 * L.length) M M' ∧ iv M' (sv j + 8) = iv M (sv j + 8) ++ L.map (fun s => (f, s, rE T.2 T.1 s, if srt (T.2 s) = 1 then 1 else 0)) ∧ Cst (sv j + 8) M0 M' (iv M' (sv j + 8)).length := by
  intro L
  induction L with
  | nil =>
    intro fu k left M hL hS k0 k1 hl1 hl2 hf hlen hc hnc hns
    obtain ⟨fu1, rfl⟩ : ∃ fu1, fu = fu1 + 1 := ⟨fu - 1, by omega⟩
    refine ⟨M, ?_, hS, Keeps.rf, (List.append_nil _).symm, hc⟩
    rw [X9_findAll_14, nR_nil k1 hL]
    split
    · rfl
    · rw [if_pos rfl]
  | cons s L ih =>
    intro fu k left M hL hS k0 k1 hl1 hl2 hf hlen hc hnc hns
    obtain ⟨fu1, rfl⟩ : ∃ fu1, fu = fu1 + 1 := ⟨fu - 1, by omega⟩
    obtain ⟨⟨st0, st1⟩, hX, eN, eG, T0, T1⟩ := hS.st j0 j1
    obtain ⟨e1, ⟨s0, s1⟩, hb, hL', r1, r2⟩ := nR_cons k1 hL
    have hG := hS.1
    have hks := hG.s j0 j1
    rw [List.length_cons] at hl1 hf hlen hnc
    have hcl := hc.le (by omega)
    obtain ⟨M1, a1, a2, a3, a4⟩ := iadd_ (f := f) (s := s) (e := rE T.2 T.1 s) (v := if srt (T.2 s) = 1 then 1 else 0) hG.1 hG.z hks.2.2.2.2.1 (by omega) (by omega)
    have K1 : Keeps (foS (sv j + 8)) 1 1000 M M1 := a2.2.mo hG.1 (fun _ _ _ z => z) (by omega) (by omega)
    have S1 := hS.mo j0 j1 a2.1 K1
    have hl3 : (iv M1 (sv j + 8)).length = (iv M (sv j + 8)).length + 1 := by rw [a3, List.length_append]; rfl
    have hle := K1.le
    obtain ⟨M', b1, b2, b3, b4, b5⟩ := ih fu1 (rE T.2 T.1 s) (left + (-1)) M1 hL' S1 (by omega) r2 (by omega) (by omega) (by omega) (by omega) (hc.gr a4 hle.2.2.1 (by omega) (by omega)) (by omega) hns
    obtain ⟨-, hX1, eN1, eG1, -⟩ := S1.st j0 j1
    refine ⟨M', ?_, b2, (K1.add b3 hG.1 (fun _ _ _ z => z)).mo hG.1 (fun _ _ _ z => z) (by rw [List.length_cons]; omega) (by rw [List.length_cons]; omega), ?_, b5⟩
    · have hre := runEnd_ hX (i := s) (by omega) (by rw [eN]; exact s1)
      have htv := tokenValue_ hX (p := s) (by omega)
      have hnr := nextRun_ hX1 (style := style) (i := rE T.2 T.1 s) ⟨st0, st1⟩ (by omega) (by rw [eN1]; exact r2)
      rw [eN, eG] at hre
      rw [eG] at htv
      rw [eN1, eG1] at hnr
      rw [X9_findAll_14, e1, wr_id (z := left) (by omega) (by omega), if_neg (by omega), wr_id (z := s) (by omega) (by omega), wr_id (z := -1) (by omega) (by omega), if_neg (by omega), if_pos hX.1, cal_ok hre, if_pos hks.1.1, cal_ok htv, hks.1.2.2.2.2.2.2.2.2, if_pos hks.2.2.2.2.1, cal_ok a1, S1.2.2, cal_ok hnr, b1]
    · rw [b4, a3, List.append_assoc]
      rfl
theorem fAlk_ {n : Nat} {j f t style a b : Int} {T : TV2} {M0 : Mo} (j0 : 0 ≤ j) (j1 : j < n) (ha : okI0 a) (hb : okI0 b) : ∀ (L : List Int) (fu : Nat) (k left : Int) (M : Mo), BG T.2 T.1 style k = L → svs n M j t style T → 0 ≤ k → k ≤ T.1 → (L.length : Int) ≤ left → left ≤ 100 → L.length < fu → (iv M (sv j + 8)).length + L.length ≤ 100 → Cst (sv j + 8) M0 M (iv M (sv j + 8)).length → nc M + L.length ≤ CAPC → ns M0 + 3000 ≤ CAPS → ∃ M', X9_findAlike_15 fu (sv j) f t t a b (nR T.2 T.1 style k) left M = some (0, 0, M') ∧ svs n M' j t style T ∧ Keeps (foS (sv j + 8)) L.length (1000 * L.length) M M' ∧ iv M' (sv j + 8) = iv M (sv j + 8) ++ (L.filter (fun s => alks T.2 s (rE T.2 T.1 s) T.2 a b)).map (fun s => (f, s, rE T.2 T.1 s, 0)) ∧ Cst (sv j + 8) M0 M' (iv M' (sv j + 8)).length := by
  intro L
  induction L with
  | nil =>
    intro fu k left M hL hS k0 k1 hl1 hl2 hf hlen hc hnc hns
    obtain ⟨fu1, rfl⟩ : ∃ fu1, fu = fu1 + 1 := ⟨fu - 1, by omega⟩
    refine ⟨M, ?_, hS, Keeps.rf, (List.append_nil _).symm, hc⟩
    rw [X9_findAlike_15, nR_nil k1 hL]
    split
    · rfl
    · rw [if_pos rfl]
  | cons s L ih =>
    intro fu k left M hL hS k0 k1 hl1 hl2 hf hlen hc hnc hns
    obtain ⟨fu1, rfl⟩ : ∃ fu1, fu = fu1 + 1 := ⟨fu - 1, by omega⟩
    obtain ⟨⟨st0, st1⟩, hX, eN, eG, T0, T1⟩ := hS.st j0 j1
    obtain ⟨e1, ⟨s0, s1⟩, hbg, hL', r1, r2⟩ := nR_cons k1 hL
    have hG := hS.1
    have hks := hG.s j0 j1
    rw [List.length_cons] at hl1 hf hlen hnc
    have hcl := hc.le (by omega)
    have hre := runEnd_ hX (i := s) (by omega) (by rw [eN]; exact s1)
    rw [eN, eG] at hre
    have hal := alike_ (a := s) (b := rE T.2 T.1 s) (c := a) (d := b) hX hX (by omega) (by omega) ha hb (by omega)
    rw [eG] at hal
    rw [X9_findAlike_15, e1, wr_id (z := left) (by omega) (by omega), if_neg (by omega), wr_id (z := s) (by omega) (by omega), wr_id (z := -1) (by omega) (by omega), if_neg (by omega), if_pos hX.1, cal_ok hre, cal_ok hal]
    by_cases c : alks T.2 s (rE T.2 T.1 s) T.2 a b = true
    · obtain ⟨M1, a1, a2, a3, a4⟩ := iadd_ (f := f) (s := s) (e := rE T.2 T.1 s) (v := 0) hG.1 hG.z hks.2.2.2.2.1 (by omega) (by omega)
      have K1 : Keeps (foS (sv j + 8)) 1 1000 M M1 := a2.2.mo hG.1 (fun _ _ _ z => z) (by omega) (by omega)
      have S1 := hS.mo j0 j1 a2.1 K1
      have hl3 : (iv M1 (sv j + 8)).length = (iv M (sv j + 8)).length + 1 := by rw [a3, List.length_append]; rfl
      have hle := K1.le
      obtain ⟨M', b1, b2, b3, b4, b5⟩ := ih fu1 (rE T.2 T.1 s) (left + (-1)) M1 hL' S1 (by omega) r2 (by omega) (by omega) (by omega) (by omega) (hc.gr a4 hle.2.2.1 (by omega) (by omega)) (by omega) hns
      obtain ⟨-, hX1, eN1, eG1, -⟩ := S1.st j0 j1
      have hnr := nextRun_ hX1 (style := style) (i := rE T.2 T.1 s) ⟨st0, st1⟩ (by omega) (by rw [eN1]; exact r2)
      rw [eN1, eG1] at hnr
      have hk1 := S1.1.s j0 j1
      refine ⟨M', ?_, b2, (K1.add b3 hG.1 (fun _ _ _ z => z)).mo hG.1 (fun _ _ _ z => z) (by rw [List.length_cons]; omega) (by rw [List.length_cons]; omega), ?_, b5⟩
      · rw [if_pos c, if_neg (by decide), if_pos hks.1.1, hks.1.2.2.2.2.2.2.2.2, if_pos hks.2.2.2.2.1, cal_ok a1]
        unfold X9_findAlike_63
        rw [if_pos hk1.1.1, if_pos hX1.1, S1.2.2, cal_ok hnr, b1]
      · rw [b4, a3, List.append_assoc, List.filter_cons, if_pos c]
        rfl
    · obtain ⟨M', b1, b2, b3, b4, b5⟩ := ih fu1 (rE T.2 T.1 s) (left + (-1)) M hL' hS (by omega) r2 (by omega) (by omega) (by omega) (by omega) hc (by omega) hns
      have hnr := nextRun_ hX (style := style) (i := rE T.2 T.1 s) ⟨st0, st1⟩ (by omega) (by rw [eN]; exact r2)
      rw [eN, eG] at hnr
      refine ⟨M', ?_, b2, b3.mo hG.1 (fun _ _ _ z => z) (by rw [List.length_cons]; omega) (by rw [List.length_cons]; omega), ?_, b5⟩
      · rw [if_neg c, if_pos (by decide)]
        unfold X9_findAlike_63
        rw [if_pos hks.1.1, if_pos hX.1, hS.2.2, cal_ok hnr, b1]
      · rw [b4, List.filter_cons, if_neg c]
/-- completions: the runs that are longer than the beginning, in the order of runs -/
def lgO (T : TV2) (a b s : Int) : Bool := decide (b - a < rE T.2 T.1 s - s) && alks T.2 s (s + b - a) T.2 a b
def cmpL (T : TV2) (f a b : Int) : List Int → List It → List It
  | [], acc => acc
  | s :: L, acc => cmpL T f a b L (if lgO T a b s = true then insL (oR T.2 s (rE T.2 T.1 s)) acc (f, s, rE T.2 T.1 s, 0) else acc)
theorem fLgr_ {n : Nat} {j f t style a b : Int} {T : TV2} {M0 : Mo} (j0 : 0 ≤ j) (j1 : j < n) (f0 : 0 ≤ f ∧ f < 2) (ha : -1 ≤ a ∧ a ≤ 100) (hb : a ≤ b ∧ b ≤ 100) : ∀ (L : List Int) (fu : Nat) (k left w : Int) (M : Mo), BG T.2 T.1 style k = L → svs n M j t style T → (∀ q ∈ iv M (sv j + 8), okq q) → 0 ≤ k → k ≤ T.1 → (L.length : Int) ≤ left → left ≤ 100 → L.length < fu → ((iv M (sv j + 8)).length : Int) ≤ w ∧ w + L.length ≤ 100 → Cst (sv j + 8) M0 M w → nc M + L.length ≤ CAPC → ns M0 + 3000 ≤ CAPS → ∃ M', X9_findLonger_15 fu (sv j) f t a b (nR T.2 T.1 style k) left M = some (0, 0, M') ∧ svs n M' j t style T ∧ Keeps (foS (sv j + 8)) L.length (1000 * L.length) M M' ∧ iv M' (sv j + 8) = cmpL T f a b L (iv M (sv j + 8)) ∧ (iv M' (sv j + 8)).length ≤ 100 ∧ Cst (sv j + 8) M0 M' 100 := by
  intro L
  induction L with
  | nil =>
    intro fu k left w M hL hS hok k0 k1 hl1 hl2 hf hlen hc hnc hns
    obtain ⟨fu1, rfl⟩ : ∃ fu1, fu = fu1 + 1 := ⟨fu - 1, by omega⟩
    refine ⟨M, ?_, hS, Keeps.rf, rfl, by omega, hc.mo (by omega)⟩
    rw [X9_findLonger_15, nR_nil k1 hL]
    split
    · rfl
    · rw [if_pos rfl]
  | cons s L ih =>
    intro fu k left w M hL hS hok k0 k1 hl1 hl2 hf hlen hc hnc hns
    obtain ⟨fu1, rfl⟩ : ∃ fu1, fu = fu1 + 1 := ⟨fu - 1, by omega⟩
    obtain ⟨⟨st0, st1⟩, hX, eN, eG, T0, T1⟩ := hS.st j0 j1
    obtain ⟨e1, ⟨s0, s1⟩, hbg, hL', r1, r2⟩ := nR_cons k1 hL
    have hG := hS.1
    have hks := hG.s j0 j1
    rw [List.length_cons] at hl1 hf hlen hnc
    have hcl := hc.le (by omega)
    have hre := runEnd_ hX (i := s) (by omega) (by rw [eN]; exact s1)
    rw [eN, eG] at hre
    have hnr := nextRun_ hX (style := style) (i := rE T.2 T.1 s) ⟨st0, st1⟩ (by omega) (by rw [eN]; exact r2)
    rw [eN, eG] at hnr
    rw [X9_findLonger_15, e1, wr_id (z := left) (by omega) (by omega), if_neg (by omega), wr_id (z := s) (by omega) (by omega), wr_id (z := -1) (by omega) (by omega), if_neg (by omega), if_pos hX.1, cal_ok hre, wr_id (z := rE T.2 T.1 s - s) (by omega) (by omega), wr_id (z := b - a) (by omega) (by omega)]
    have skip : lgO T a b s ≠ true → ∃ M', X9_findLonger_79 (X9_findLonger_15 fu1) (sv j) f t a b left (rE T.2 T.1 s) M = some (0, 0, M') ∧ svs n M' j t style T ∧ Keeps (foS (sv j + 8)) (s :: L).length (1000 * (s :: L).length) M M' ∧ iv M' (sv j + 8) = cmpL T f a b (s :: L) (iv M (sv j + 8)) ∧ (iv M' (sv j + 8)).length ≤ 100 ∧ Cst (sv j + 8) M0 M' 100 := fun hlg => by
      obtain ⟨M', b1, b2, b3, b4, b5⟩ := ih fu1 (rE T.2 T.1 s) (left + (-1)) w M hL' hS hok (by omega) r2 (by omega) (by omega) (by omega) (by omega) hc (by omega) hns
      refine ⟨M', ?_, b2, b3.mo hG.1 (fun _ _ _ z => z) (by rw [List.length_cons]; omega) (by rw [List.length_cons]; omega), ?_, b5⟩
      · unfold X9_findLonger_79
        rw [if_pos hks.1.1, if_pos hX.1, hS.2.2, cal_ok hnr, b1]
      · rw [b4]
        show _ = cmpL T f a b L (if lgO T a b s = true then _ else _)
        rw [if_neg hlg]
    by_cases c1 : rE T.2 T.1 s - s ≤ b - a
    · rw [if_pos c1]
      exact skip (fun z => by
        unfold lgO at z
        rw [Bool.and_eq_true, decide_eq_true_eq] at z
        omega)
    · have hal := alike_ (a := s) (b := s + b - a) (c := a) (d := b) hX hX (by omega) (by omega) (by omega) (by omega) (by omega)
      rw [eG] at hal
      rw [if_neg c1, cal_ok hal]
      by_cases c : alks T.2 s (s + b - a) T.2 a b = true
      · have hlg : lgO T a b s = true := by
          unfold lgO
          rw [Bool.and_eq_true, decide_eq_true_eq]
          exact ⟨by omega, c⟩
        obtain ⟨M1, a1, a2, a3, a4⟩ := insertRun_ (f := f) (s := s) (e := rE T.2 T.1 s) hG.1 hG.z hks.2.2.2.2.1 hX.1 hok (by omega) (by omega) (by omega)
        rw [eG] at a3
        have K1 : Keeps (foS (sv j + 8)) 1 1000 M M1 := a2.2.mo hG.1 (fun _ _ _ z => z) (by omega) (by omega)
        have S1 := hS.mo j0 j1 a2.1 K1
        have hl3 : (iv M1 (sv j + 8)).length ≤ (iv M (sv j + 8)).length + 1 := by rw [a3]; exact insL_len
        have hle := K1.le
        have hok1 : ∀ q ∈ iv M1 (sv j + 8), okq q := fun q hq => by
          rw [a3] at hq
          rcases insL_mem hq with rfl | hq
          · exact ⟨by show okI0 f; omega, ⟨by show 0 ≤ s; omega, by show s ≤ rE T.2 T.1 s; omega, by show rE T.2 T.1 s ≤ 100; omega⟩, by show okI0 0; omega⟩
          · exact hok q hq
        have hc1 : Cst (sv j + 8) M0 M1 (w + 1) := hc.gr a4 hle.2.2.1 (by omega) (by omega)
        obtain ⟨M', b1, b2, b3, b4, b5⟩ := ih fu1 (rE T.2 T.1 s) (left + (-1)) (w + 1) M1 hL' S1 hok1 (by omega) r2 (by omega) (by omega) (by omega) (by omega) hc1 (by omega) hns
        obtain ⟨-, hX1, eN1, eG1, -⟩ := S1.st j0 j1
        have hnr1 := nextRun_ hX1 (style := style) (i := rE T.2 T.1 s) ⟨st0, st1⟩ (by omega) (by rw [eN1]; exact r2)
        rw [eN1, eG1] at hnr1
        have hk1 := S1.1.s j0 j1
        refine ⟨M', ?_, b2, (K1.add b3 hG.1 (fun _ _ _ z => z)).mo hG.1 (fun _ _ _ z => z) (by rw [List.length_cons]; omega) (by rw [List.length_cons]; omega), ?_, b5⟩
        · rw [if_pos c, if_neg (by decide), if_pos hks.1.1, hks.1.2.2.2.2.2.2.2.2, if_pos hks.2.2.2.2.1, cal_ok a1]
          unfold X9_findLonger_79
          rw [if_pos hk1.1.1, if_pos hX1.1, S1.2.2, cal_ok hnr1, b1]
        · rw [b4, a3]
          show _ = cmpL T f a b L (if lgO T a b s = true then _ else _)
          rw [if_pos hlg]
      · rw [if_neg c, if_pos (by decide)]
        exact skip (fun z => by
          unfold lgO at z
          rw [Bool.and_eq_true] at z
          exact c z.2)
