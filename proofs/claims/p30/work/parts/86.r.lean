/-! a start, in the relation -/
theorem gv_2 (w : Int → Int) : gv w 0 2 = (if w 0 = -1 then [] else [(0, 0, w 0)]) ++ (if w 1 = -1 then [] else [(0, 1, w 1)]) := by
  show (if w 0 = -1 then [] else [(0, 0, w 0)]) ++ ((if w (0 + 1) = -1 then [] else [(0, 0 + 1, w (0 + 1))]) ++ []) = _
  rw [List.append_nil]
  rfl
theorem gv_flow {w : Int → Int} {g : Int} (hg : g = 0 ∨ g = 1) : flow g (-1) (gv w 0 2) (w g) := by
  rw [gv_2]
  by_cases h0 : w 0 = -1
  · by_cases h1 : w 1 = -1
    · rw [if_pos h0, if_pos h1]
      show (-1 : Int) = w g
      rcases hg with rfl | rfl
      · exact h0.symm
      · exact h1.symm
    · rw [if_pos h0, if_neg h1]
      show if (1 : Int) = g then ((0 : Int) = 1 → (-1 : Int) ≠ -1 ∧ w 1 = -1 + 1) ∧ nxt (-1) 0 (w 1) = w g else (-1 : Int) = w g
      rcases hg with rfl | rfl
      · rw [if_neg (by decide)]
        exact h0.symm
      · rw [if_pos rfl]
        exact ⟨fun z => by omega, rfl⟩
  · by_cases h1 : w 1 = -1
    · rw [if_neg h0, if_pos h1]
      show if (0 : Int) = g then ((0 : Int) = 1 → (-1 : Int) ≠ -1 ∧ w 0 = -1 + 1) ∧ nxt (-1) 0 (w 0) = w g else (-1 : Int) = w g
      rcases hg with rfl | rfl
      · rw [if_pos rfl]
        exact ⟨fun z => by omega, rfl⟩
      · rw [if_neg (by decide)]
        exact h1.symm
    · rw [if_neg h0, if_neg h1]
      show if (0 : Int) = g then ((0 : Int) = 1 → (-1 : Int) ≠ -1 ∧ w 0 = -1 + 1) ∧ (if (1 : Int) = g then ((0 : Int) = 1 → nxt (-1) 0 (w 0) ≠ -1 ∧ w 1 = nxt (-1) 0 (w 0) + 1) ∧ nxt (nxt (-1) 0 (w 0)) 0 (w 1) = w g else nxt (-1) 0 (w 0) = w g) else (if (1 : Int) = g then ((0 : Int) = 1 → (-1 : Int) ≠ -1 ∧ w 1 = -1 + 1) ∧ nxt (-1) 0 (w 1) = w g else (-1 : Int) = w g)
      rcases hg with rfl | rfl
      · rw [if_pos rfl, if_neg (by decide)]
        exact ⟨fun z => by omega, rfl⟩
      · rw [if_neg (by decide), if_pos rfl]
        exact ⟨fun z => by omega, rfl⟩
theorem gv_mem {w : Int → Int} {q : Ms} (h : q ∈ gv w 0 2) : (q.2.1 = 0 ∨ q.2.1 = 1) ∧ q.2.2 = w q.2.1 := by
  rw [gv_2] at h
  rcases List.mem_append.mp h with h | h
  · by_cases h0 : w 0 = -1
    · rw [if_pos h0] at h
      cases h
    · rw [if_neg h0] at h
      cases List.mem_singleton.mp h
      exact ⟨Or.inl rfl, rfl⟩
  · by_cases h0 : w 1 = -1
    · rw [if_pos h0] at h
      cases h
    · rw [if_neg h0] at h
      cases List.mem_singleton.mp h
      exact ⟨Or.inr rfl, rfl⟩
theorem gv_len {w : Int → Int} : (gv w 0 2).length ≤ 2 := by
  rw [gv_2, List.length_append]
  have h1 : (if w 0 = -1 then ([] : List Ms) else [(0, 0, w 0)]).length ≤ 1 := by split; exact Nat.zero_le _; exact Nat.le_refl _
  have h2 : (if w 1 = -1 then ([] : List Ms) else [(0, 1, w 1)]).length ≤ 1 := by split; exact Nat.zero_le _; exact Nat.le_refl _
  omega
theorem updK_len {P : Int → List Ms} {k : Int} {L : List Ms} (hP : P k = []) : (updQ P k L 0).length + (updQ P k L 1).length + (updQ P k L 2).length ≤ (P 0).length + (P 1).length + (P 2).length + L.length := by
  by_cases c0 : k = 0
  · subst c0
    rw [updQ_s, updQ_o (by decide), updQ_o (by decide)]
    omega
  · by_cases c1 : k = 1
    · subst c1
      rw [updQ_s, updQ_o (by decide), updQ_o (by decide)]
      omega
    · by_cases c2 : k = 2
      · subst c2
        rw [updQ_s, updQ_o (by decide), updQ_o (by decide)]
        omega
      · rw [updQ_o (fun z => c0 z.symm), updQ_o (fun z => c1 z.symm), updQ_o (fun z => c2 z.symm)]
        omega
theorem Rel.sta_ {n : Nat} {M : Mo} {Hh : Int → Int → TV2} {Q P : Int → List Ms} {le v0 : Int → Int} {B k : Int} {bc bs : Nat} (h : Rel n M Hh Q P le v0 B bc bs) (k0 : 0 ≤ k) (k1 : k < n) (hB : B < 200) (hbc : bc ≤ 600000) (hbs : bs ≤ 7290000) (hu : fd M 10 8 (sv k) = 0) : ∃ (M' : Mo) (v : Int) (P' : Int → List Ms), X11_start 10 k M = some (0, v, M') ∧ (0 ≤ v ∧ v ≤ 2) ∧ Rel n M' Hh Q P' le v0 (B + 1) (bc + 30) (bs + 17000) ∧ UK n k M M' ∧ fd M' 10 8 (sv k) = 1 := by
  obtain ⟨hG, hF, hS', hE, hP, hT, hM, ⟨⟨B0, B1⟩, B2, B3, B4, B5⟩⟩ := id h
  have hCC : CAPC = 600064 := rfl
  have hCS : CAPS = 7301640 := rfl
  have hn3 := hG.2.1.1
  have hPk : P k = [] := (hS' k k0 k1).1 hu
  have hsk : 215 ≤ sv k := by unfold sv; split <;> omega
  have hkv := hG.s k0 k1
  have hch : kd M (40 + 2 * k) = 1 := by
    have := Rel.chl hG (c := 2 + k) (by omega) (by omega)
    rwa [show 36 + 2 * (2 + k) = 40 + 2 * k by omega] at this
  have hlq : lv M (40 + 2 * k) = [] := by
    have := (hP k k0 (by omega)).1.1
    rw [hPk] at this
    exact this.nil
  obtain ⟨M1, hM1⟩ : ∃ M1, M1 = sF M 10 8 (sv k) 1 := ⟨_, rfl⟩
  have b1 := fld_step (c := 10) (k := 8) (x := sv k) (v := 1) hG.1 rfl (by omega) (by omega)
  rw [← hM1] at b1
  have G1 := hG.mo b1 (fun l y z => by unfold mutL; omega)
  have K1 : Keeps (skS k) 0 0 M M1 := b1.2.mo hG.1 (fun l y _ z => Or.inl z) (Nat.le_refl _) (Nat.le_refl _)
  have hlq1 : lv M1 (40 + 2 * k) = [] := by rw [b1.2.l hch (by omega)]; exact hlq
  have hmv : ∀ f : Int, 0 ≤ f → f < 2 → fd M1 3 4 (mC f) = fd M 3 4 (mC f) ∧ CpOK M1 (mC f) (fd M 3 4 (mC f)) (Hh f) ∧ fd M1 3 6 (mC f) = fd M 3 6 (mC f) := fun f f0 f1 => by
    obtain ⟨y1, y2⟩ := (hF f f0 f1).2.1.1.mf hG.1 b1.2 (fun l y z => by unfold copS; omega)
    exact ⟨y1.1.2.1, y1, y2⟩
  have l1 := b1.2.le
  obtain ⟨M', v, ms, e1, e2, G', K', e5, e6⟩ := giveLoop_ (Hh := Hh) k0 k1 FU 2 M1 0 0 G1 (by omega) (by omega) (by have : FU = 1000000 := rfl; omega) (by omega) (fun f f0 f1 => by
    obtain ⟨y1, y2, y3⟩ := hmv f f0 f1
    rw [y1, y3]
    exact ⟨y2, fun z => ((hF f f0 f1).2.1.2.2.2 z).1⟩) (by rw [hlq1]; decide) (by omega)
  rw [hlq1, List.nil_append] at e5
  have K2 : Keeps (skS k) (0 + 5 * 2) (0 + 2200 * 2) M M' := K1.add K' hG.1 (fun l y _ z => by unfold gvS at z; exact Or.inr (Or.inl ⟨z.1, Or.inr (Or.inl z.2)⟩))
  have l2 := K2.le
  have u' : fd M' 10 8 (sv k) = 1 := by
    have r : kd M1 (sv k) = 11 := b1.2.k1 hkv.1.1
    rw [K'.f 10 8 (by omega) rfl (by unfold gvS; omega), hM1, fd_sF, if_pos ⟨rfl, rfl, rfl⟩]
  have hsC : ∀ g : Int, sC k g = sv k + 9 + 5 * g := fun _ => rfl
  have hcp : ∀ g : Int, 0 ≤ g → g < 2 → CpOK M' (sC k g) (-1) (Hh g) := fun g g0 g1 => by
    obtain ⟨x1, x2, x3, x4⟩ := ((hS' k k0 k1).2 g g0 g1).1
    rw [x4 hu] at x1
    obtain ⟨y1, -⟩ := x1.mf hG.1 b1.2 (fun l y z => by unfold copS; omega)
    obtain ⟨y2, -⟩ := y1.mf G1.1 K' (fun l y z => by unfold gvS at z; unfold copS; omega)
    exact y2
  have hgv : gv (fun f => fd M1 3 4 (mC f)) 0 2 = gv (fun f => fd M 3 4 (mC f)) 0 2 := by
    rw [gv_2, gv_2, (hmv 0 (by omega) (by omega)).1, (hmv 1 (by omega) (by omega)).1]
  rw [hgv] at e6
  obtain ⟨R, U⟩ := h.sk (Pk := gv (fun f => fd M 3 4 (mC f)) 0 2) k0 k1 hB G' K2 (by rw [K'.l (b1.2.k1 hkv.2.2.2.1) (by unfold gvS; omega), b1.2.l hkv.2.2.2.1 (by omega)]; exact hM.2.1 k k0 k1) (by
    have hc5 := Rel.chl hG (c := 5 + k) (by omega) (by omega)
    rw [show 36 + 2 * (5 + k) = 46 + 2 * k by omega] at hc5
    have hz := hM.2.2.1 (5 + k) (by omega) (by omega)
    rw [show 36 + 2 * (5 + k) = 46 + 2 * k by omega] at hz
    rw [K'.l (b1.2.k1 hc5) (by unfold gvS; omega), b1.2.l hc5 (by omega)]
    exact hz) (fun hv hm => ⟨fun z => by rw [u'] at z; omega, fun g g0 g1 => by
      have x4 : fd M' 3 4 (sC k g) = -1 := (hcp g g0 g1).1.2.1
      refine ⟨⟨by rw [x4]; exact hcp g g0 g1, by rw [x4, hv g g0 g1]; have := (hF g g0 g1).1.1.1; omega, Or.inr u', fun _ => x4⟩, fun _ => ?_⟩
      rw [x4, hm g g0 g1, updQ_s]
      exact gv_flow (w := fun f => fd M 3 4 (mC f)) (by omega)⟩) (fun hv => ⟨by rw [e5]; exact e6, fun q hq => by
      obtain ⟨q1, q2⟩ := gv_mem hq
      dsimp only
      rw [q2, hv]
      exact (hF q.2.1 (by omega) (by omega)).2.1.2.1⟩) (by have := gv_len (w := fun f => fd M 3 4 (mC f)); omega) (bc' := bc + 30) (bs' := bs + 17000) (by
        have q1 := updK_len (L := gv (fun f => fd M 3 4 (mC f)) 0 2) hPk
        have q2 := gv_len (w := fun f => fd M 3 4 (mC f))
        omega) (by
        have q1 := updK_len (L := gv (fun f => fd M 3 4 (mC f)) 0 2) hPk
        have q2 := gv_len (w := fun f => fd M 3 4 (mC f))
        omega)
  have ht := hG.t.1
  have ht5 := G1.t.1
  refine ⟨M', v, _, ?_, ⟨e2.1, by omega⟩, R, U, u'⟩
  unfold X11_start
  rw [if_pos ht.1, cal_ok (svAt_ hG k0 k1), if_pos hkv.1.1, hu, if_pos (by decide)]
  dsimp only [pt]
  rw [← hM1, ht5.2.2.2.2.2.1, if_pos G1.m.1.1]
  unfold X7_giveCopies
  rw [cal_ok e1]
theorem Rel.staX {n : Nat} {M : Mo} {k : Int} (hG : Good n M) (k0 : 0 ≤ k) (k1 : k < n) (hr : rmX M) (hu : fd M 10 8 (sv k) = 1) : X11_start 10 k M = some (3, 0, nX M) := by
  have ht := hG.t.1
  unfold X11_start
  rw [if_pos ht.1, cal_ok (svAt_ hG k0 k1), if_pos (hG.s k0 k1).1.1, hu, if_neg (by decide), if_pos hr]
