/-! the multiplexer takes a CLOSE -/
theorem mClose0_ {n : Nat} {M : Mo} {Hh : Int → Int → TV2} {m f v w : Int} (hG : Good n M) (hm : MsgP n M Hh m 2 f v) (hC : CpOK M (mC f) w (Hh f)) (hv : w = -1 ∨ v ≠ w) : X7_takeClose 148 m M = some (0, 0, M) := by
  obtain ⟨⟨m1, m2, m3, m4, m5⟩, ⟨m6, m7, m8, m9⟩, -⟩ := hm
  obtain ⟨⟨a1, -⟩, -⟩ := hG.m
  obtain ⟨⟨c1, c2, c3, c4⟩, -⟩ := hC
  unfold X7_takeClose
  rw [if_pos m1, if_pos a1, m4, cal_ok (mCopy_ hG m7.1 (by omega)), if_pos c1, cal_ok (isHere_ c1 (by omega)), c2, m5]
  by_cases z : w = -1
  · rw [if_pos z, if_pos (by decide)]
  · rw [if_neg z, if_neg (by decide), wr_id (z := v) (by omega) (by omega), wr_id (z := w) (by omega) (by omega), if_neg (by omega)]
theorem mClose_ {n : Nat} {M : Mo} {Hh : Int → Int → TV2} {m f v : Int} (hG : Good n M) (hm : MsgP n M Hh m 2 f v) (hC : CpOK M (mC f) v (Hh f)) (hk : ∀ j : Int, 0 ≤ j → j < 18 → kd M (el M 13 156 j) = 7) (hl : ∀ j : Int, 0 ≤ j → j < n → (lv M (40 + 2 * j)).length ≤ 1000) (hu : ∀ j : Int, 0 ≤ j → j < n → okI1 (fd M 10 8 (sv j))) (hr : nc M + 3 ≤ CAPC ∧ ns M + 6030 ≤ CAPS) : ∃ M', X7_takeClose 148 m M = some (0, 0, M') ∧ Good n M' ∧ Keeps (opnS n f) 3 6030 M M' ∧ CpOK M' (mC f) (-1) (Hh f) ∧ (∀ g, el M' 0 155 g = el M 0 155 g) ∧ (∀ i, kd M i = 7 → (iv M' i).length ≤ (iv M i).length) ∧ ∀ j : Int, 0 ≤ j → j < n → lv M' (40 + 2 * j) = lv M (40 + 2 * j) ++ (if fd M 10 8 (sv j) = 0 then [] else [m]) := by
  have hmC : mC f = 162 + 5 * f := rfl
  obtain ⟨⟨m1, m2, m3, m4, m5⟩, ⟨m6, m7, m8, m9⟩, -⟩ := hm
  obtain ⟨⟨a1, -⟩, -⟩ := hG.m
  obtain ⟨c1, c2, c3, c4⟩ := id hC.1
  have hsv : (215 : Int) ≤ sv n := by unfold sv; split <;> omega
  obtain ⟨M2, d1, d2, d3⟩ := hC.cl hG.1
  have G2 := hG.mo d2 (fun l y z => by unfold copS at z; unfold mutL; omega)
  have K2 : Keeps (opn0 f) 0 0 M M2 := d2.2.mo hG.1 (fun l y _ z => Or.inr (Or.inl z)) (Nat.le_refl _) (Nat.le_refl _)
  have row2 : ∀ j, el M2 13 156 j = el M 13 156 j := fun j => by
    have h156 := hG.m.2.2.2.1.1
    exact K2.e 13 (by omega) (by omega) (by omega) (by unfold opn0 copS; omega) j
  obtain ⟨M3, g1, G3, g3, g4, -⟩ := dropLoop_ (f := f) m7.1 m7.2 FU M2 0 G2 (Int.le_refl _) (by omega) (by decide) (fun j j0 j1 => by rw [row2]; exact K2.k1 (hk j j0 j1))
  have K3 := K2.add g3 hG.1 (fun l y _ z => Or.inr (Or.inr z.1))
  have C3 : CpOK M3 (mC f) (-1) (Hh f) := by
    obtain ⟨⟨q1, q2, q3, q4⟩, ⟨q5, q6⟩, q7⟩ := d3
    have x4 : fd M3 3 4 (mC f) = fd M2 3 4 (mC f) := g3.f 3 4 (by omega) rfl (fun z => by omega)
    have x5 : fd M3 3 5 (mC f) = fd M2 3 5 (mC f) := g3.f 3 5 (by omega) rfl (fun z => by omega)
    have xc : cv M3 (mC f) = cv M2 (mC f) := g3.c q1 (fun z => by omega)
    exact ⟨⟨g3.k1 q1, by rw [x4]; exact q2, q3, by rw [x5]; exact q4⟩, ⟨by rw [xc]; exact q5, by rw [xc]; exact q6⟩, fun z => absurd rfl z⟩
  have l3 := K3.le
  have hl3 : ∀ j : Int, 0 ≤ j → j < n → lv M3 (40 + 2 * j) = lv M (40 + 2 * j) := fun j j0 j1 => by
    have hn3 := hG.2.1.1
    have hch := ((hG.t.2.2.1).2.2 (2 + j) (by omega) (by omega)).2
    have hch2 := (hG.1.ch hch).2
    rw [show 35 + 2 * (2 + j) + 1 = 40 + 2 * j by omega] at hch2
    exact K3.l hch2 (by unfold opn0 copS; omega)
  have hu3 : ∀ j : Int, 0 ≤ j → j < n → fd M3 10 8 (sv j) = fd M 10 8 (sv j) := fun j j0 j1 => K3.f 10 8 (by have := (hG.s j0 j1).1.1; omega) rfl (by unfold opn0 copS; omega)
  have hm3 : kd M3 m = 8 := K3.k1 m1
  have hf3 : fd M3 7 1 m = f := by rw [K3.f 7 1 (by omega) rfl (by unfold opn0 copS; omega), m4]
  have hf2 : fd M2 7 1 m = f := by rw [K2.f 7 1 (by omega) rfl (by unfold opn0 copS; omega), m4]
  obtain ⟨M4, h1, G4, h3, h4⟩ := passOn_ (m := m) G3 hm3 hf3 m7.1 m7.2 (fun j j0 j1 => by rw [hl3 j j0 j1]; exact hl j j0 j1) (fun j j0 j1 => by rw [hu3 j j0 j1]; exact hu j j0 j1) (by omega)
  have K4 := (K3.mo (S' := opnS n f) hG.1 (fun l y _ z => Or.inl z) (Nat.le_refl _) (Nat.le_refl _)).add h3 hG.1 (fun l y _ z => Or.inr z)
  refine ⟨M4, ?_, G4, K4.mo hG.1 (fun _ _ _ z => z) (by omega) (by omega), C3.mo G3.1 h3 (fun l y z => by omega), fun g => ?_, fun i hi => ?_, fun j j0 j1 => ?_⟩
  · unfold X7_takeClose
    rw [if_pos m1, if_pos a1, m4, cal_ok (mCopy_ hG m7.1 (by omega)), if_pos c1, cal_ok (isHere_ c1 (by omega)), c2, m5, if_neg (show ¬ v = -1 by omega), if_neg (by decide), if_pos rfl, cal_ok d1, hf2]
    unfold X7_dropFaults
    rw [cal_ok g1, cal_ok h1]
  · have a15 := hG.m.2.2.1.1
    have k2 : kd M2 155 ≠ 0 := by have := K2.k1 (n := 99) a15; omega
    have k3 : kd M3 155 ≠ 0 := by have := K3.k1 (n := 99) a15; omega
    rw [h3.e 0 k3 (fun _ => by decide) (by omega) (by omega), g3.e 0 k2 (fun _ => by decide) (by omega) (fun z => by omega), d2.2.e 0 (x := 155) (by omega) (fun _ => by decide) (by omega) (by unfold copS; omega)]
  · rw [h3.i (K3.k1 hi) (by omega)]
    have := g4 i (K2.k1 hi)
    rwa [d2.2.i hi (by unfold copS; omega)] at this
  · rw [h4 j j0 j1, hl3 j j0 j1, hu3 j j0 j1]
