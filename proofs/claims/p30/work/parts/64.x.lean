/-! the multiplexer takes a CHANGE -/
theorem CpOK.is {S : Nat → Int → Prop} {a b : Nat} {M M' : Mo} {c ver : Int} {Hf : Int → TV2} (h : CpOK M c ver Hf) (hW : WF M) (hK : Keeps S a b M M') (hS : ∀ l y, S l y → l = 301 ∨ l = 303) : CpOK M' c ver Hf := by
  obtain ⟨⟨q1, q2, q3, q4⟩, ⟨q5, q6⟩, q7⟩ := h
  have hs : ∀ l y, l ≠ 301 → l ≠ 303 → ¬ S l y := fun l y h1 h2 z => (hS l y z).elim h1 h2
  have x4 : fd M' 3 4 c = fd M 3 4 c := hK.f 3 4 (by omega) rfl (hs _ _ (by omega) (by omega))
  have x5 : fd M' 3 5 c = fd M 3 5 c := hK.f 3 5 (by omega) rfl (hs _ _ (by omega) (by omega))
  have xc : cv M' c = cv M c := hK.c q1 (hs _ _ (by omega) (by omega))
  have xt : tv M' (c + 1) = tv M (c + 1) := hK.t (hW.cp q1).1.2 (hs _ _ (by omega) (by omega))
  exact ⟨⟨hK.k1 q1, by rw [x4]; exact q2, q3, by rw [x5]; exact q4⟩, ⟨by rw [xc]; exact q5, by rw [xc]; exact q6⟩, by rw [xt, x5, xc]; exact q7⟩
def chS (n : Nat) (l : Nat) (y : Int) : Prop := l = 301 ∨ (l = 303 ∧ 40 ≤ y ∧ y ≤ 44 ∧ y < 40 + 2 * (n : Int))
theorem chLoop_ {n : Nat} {m f ver : Int} {Hf : Int → TV2} (f0 : 0 ≤ f) (f1 : f < 2) (hv : ver ≠ -1) : ∀ (fu : Nat) (M : Mo) (k : Int), Good n M → CpOK M (mC f) ver Hf → kd M m = 8 → fd M 7 1 m = f → 0 ≤ k → k ≤ 3 → (3 - k).toNat < fu → (∀ j : Int, 0 ≤ j → j < 18 → kd M (el M 13 156 j) = 7 ∧ (iv M (el M 13 156 j)).length ≤ 1000) → (∀ j : Int, 0 ≤ j → j < n → (lv M (40 + 2 * j)).length ≤ 1000) → (∀ j : Int, 0 ≤ j → j < n → okI1 (fd M 10 8 (sv j))) → (nc M + 3 ≤ CAPC ∧ ns M + 6030 ≤ CAPS) → ∃ M', X7_takeChange_60 fu 148 m f (mC f) k M = some (0, 0, M') ∧ Good n M' ∧ Keeps (chS n) 3 6030 M M' ∧ (∀ i, kd M i = 7 → (iv M' i).length ≤ (iv M i).length) ∧ ∀ j : Int, 0 ≤ j → j < n → lv M' (40 + 2 * j) = lv M (40 + 2 * j) ++ (if fd M 10 8 (sv j) = 0 then [] else [m]) := by
  intro fu
  induction fu with
  | zero => intro M k _ _ _ _ _ _ h; omega
  | succ fu ih =>
    intro M k hG hC hm hf k0 k3 hfu hk hl hu hr
    obtain ⟨⟨m1, m2, m3, m4, m5, m6, m7, m8, -⟩, -, -, ⟨m17, m18⟩, -⟩ := hG.m
    rw [X7_takeChange_60, wr_id (z := 3) (by omega) (by omega), wr_id (z := k) (by omega) (by omega), wr_id (z := f * 3 + k) (by omega) (by omega)]
    by_cases c : 3 ≤ k
    · obtain ⟨M', h1, h2, h3, h4⟩ := passOn_ (m := m) hG hm hf f0 f1 hl hu hr
      rw [if_pos c, if_pos m1, cal_ok h1]
      exact ⟨M', rfl, h2, h3.mo hG.1 (fun l y _ z => Or.inr z) (Nat.le_refl _) (Nat.le_refl _), fun i hi => by rw [h3.i hi (by omega)]; exact Nat.le_refl _, h4⟩
    · obtain ⟨hk1, hk2⟩ := hk (f * 3 + k) (by omega) (by omega)
      obtain ⟨⟨q1, q2, q3, q4⟩, ⟨q5, q6⟩, q7⟩ := id hC
      obtain ⟨M1, e1, h1, h2⟩ := moveOn_ hG.1 hG.z q1 hk1 q6 (by omega) (by omega) (by omega)
      have G1 := hG.mo h1 (fun l y z => by unfold mutL; omega)
      have l1 := h1.2.le
      have hrow : ∀ j, el M1 13 156 j = el M 13 156 j := fun j => h1.2.e 13 (by omega) (by omega) (by omega) (by omega) j
      have hle : ∀ i, kd M i = 7 → (iv M1 i).length ≤ (iv M i).length := fun i hi => by
        by_cases z : i = el M 13 156 (f * 3 + k)
        · rw [z]; exact h2
        · rw [h1.2.i hi (fun w => z w.2)]; exact Nat.le_refl _
      have hch : ∀ j : Int, 0 ≤ j → j < n → lv M1 (40 + 2 * j) = lv M (40 + 2 * j) := fun j j0 j1 => by
        have hn3 := hG.2.1.1
        have hch := ((hG.t.2.2.1).2.2 (2 + j) (by omega) (by omega)).2
        have hch2 := (hG.1.ch hch).2
        rw [show 35 + 2 * (2 + j) + 1 = 40 + 2 * j by omega] at hch2
        exact h1.2.l hch2 (by omega)
      have hup : ∀ j : Int, 0 ≤ j → j < n → fd M1 10 8 (sv j) = fd M 10 8 (sv j) := fun j j0 j1 => h1.2.f 10 8 (by have := (hG.s j0 j1).1.1; omega) rfl (by omega)
      obtain ⟨M', e2, G2, K2, L2, E2⟩ := ih M1 (k + 1) G1 (hC.is hG.1 h1.2 (fun l y z => Or.inl z.1)) (h1.2.k1 hm) (by rw [h1.2.f 7 1 (by omega) rfl (by omega)]; exact hf) (by omega) (by omega) (by omega) (fun j j0 j1 => ⟨by rw [hrow]; exact h1.2.k1 (hk j j0 j1).1, by rw [hrow]; exact Nat.le_trans (hle _ (hk j j0 j1).1) (hk j j0 j1).2⟩) (fun j j0 j1 => by rw [hch j j0 j1]; exact hl j j0 j1) (fun j j0 j1 => by rw [hup j j0 j1]; exact hu j j0 j1) (by omega)
      rw [if_neg c, if_pos m1, m8, if_pos m17, m18, if_pos (by omega), if_pos q1, cal_ok e1]
      refine ⟨M', e2, G2, ((h1.2.mo (S' := chS n) hG.1 (fun l y _ z => Or.inl z.1) (Nat.le_refl _) (Nat.le_refl _)).add K2 hG.1 (fun _ _ _ z => z)).mo hG.1 (fun _ _ _ z => z) (by omega) (by omega), fun i hi => Nat.le_trans (L2 i (h1.2.k1 hi)) (hle i hi), fun j j0 j1 => ?_⟩
      rw [E2 j j0 j1, hch j j0 j1, hup j j0 j1]
theorem mChange0_ {n : Nat} {M : Mo} {Hh : Int → Int → TV2} {m f v w : Int} (hG : Good n M) (hm : MsgP n M Hh m 1 f v) (hC : CpOK M (mC f) w (Hh f)) (hv : w = -1 ∨ v ≠ w + 1) : X7_takeChange 148 m M = some (0, 0, M) := by
  obtain ⟨⟨m1, m2, m3, m4, m5⟩, ⟨m6, m7, m8, m9⟩, -⟩ := hm
  obtain ⟨⟨a1, -⟩, -⟩ := hG.m
  obtain ⟨⟨c1, c2, c3, c4⟩, -⟩ := hC
  unfold X7_takeChange
  rw [if_pos m1, if_pos a1, m4, cal_ok (mCopy_ hG m7.1 (by omega)), wr_id (z := f) (by omega) (by omega), wr_id (z := 6) (by omega) (by omega), if_neg (by omega), if_neg (by omega), if_pos c1, cal_ok (isHere_ c1 (by omega)), c2, m5]
  by_cases z : w = -1
  · rw [if_pos z, if_pos (by decide)]
  · rw [if_neg z, if_neg (by decide), wr_id (z := v) (by omega) (by omega), wr_id (z := w + 1) (by omega) (by omega), if_neg (by omega)]
theorem mChange_ {n : Nat} {M : Mo} {Hh : Int → Int → TV2} {m f v : Int} (hG : Good n M) (hm : MsgP n M Hh m 1 f (v + 1)) (hC : CpOK M (mC f) v (Hh f)) (hv : v ≠ -1) (hn : (cv M (mC f)).length ≤ 1000) (hk : ∀ j : Int, 0 ≤ j → j < 18 → kd M (el M 13 156 j) = 7 ∧ (iv M (el M 13 156 j)).length ≤ 1000) (hl : ∀ j : Int, 0 ≤ j → j < n → (lv M (40 + 2 * j)).length ≤ 1000) (hu : ∀ j : Int, 0 ≤ j → j < n → okI1 (fd M 10 8 (sv j))) (hr : nc M + 4 ≤ CAPC ∧ ns M + 12036 ≤ CAPS) : ∃ M', X7_takeChange 148 m M = some (0, 0, M') ∧ Good n M' ∧ Keeps (opnS n f) 4 12036 M M' ∧ CpOK M' (mC f) (v + 1) (Hh f) ∧ (el M' 0 155 f = v + 1 ∧ ∀ g, g ≠ f → el M' 0 155 g = el M 0 155 g) ∧ fd M' 3 6 (mC f) = fd M 3 6 (mC f) ∧ (∀ i, kd M i = 7 → (iv M' i).length ≤ (iv M i).length) ∧ ∀ j : Int, 0 ≤ j → j < n → lv M' (40 + 2 * j) = lv M (40 + 2 * j) ++ (if fd M 10 8 (sv j) = 0 then [] else [m]) := by
  have hmC : mC f = 162 + 5 * f := rfl
  have hm0 := hm
  obtain ⟨⟨m1, m2, m3, m4, m5⟩, ⟨m6, m7, m8, m9⟩, -⟩ := hm
  obtain ⟨⟨a1, a2, a3, a4, a5, a6, a7, -⟩, ⟨a13, a14⟩, ⟨a15, a16⟩, -, -, -, -, -, -, a25⟩ := hG.m
  obtain ⟨c1, c2, c3, c4⟩ := id hC.1
  have hsv : (215 : Int) ≤ sv n := by unfold sv; split <;> omega
  have b5 := row_step (M := M) (t := 0) (x := 155) (k := f) (v := v + 1) hG.1 (fun _ => by decide) (fun h => by omega)
  have G1 := hG.mo b5 (fun l y z => by unfold mutL; omega)
  have K1 : Keeps (opn0 f) 0 0 M (sE M 0 155 f (v + 1)) := b5.2.mo hG.1 (fun l y _ z => Or.inl z) (Nat.le_refl _) (Nat.le_refl _)
  have C1 : CpOK (sE M 0 155 f (v + 1)) (mC f) v (Hh f) := hC.mo hG.1 b5.2 (fun l y z => by omega)
  have P1 : MsgP n (sE M 0 155 f (v + 1)) Hh m 1 f (v + 1) := hm0.mo b5.2 (fun l y z z2 => by omega)
  have n1 : cv (sE M 0 155 f (v + 1)) (mC f) = cv M (mC f) := b5.2.c c1 (by omega)
  obtain ⟨M2, d1, d2, d3, d4, d5, -, -⟩ := C1.al G1.1 G1.z hv P1 (by rw [n1]; exact hn) (show nc M + 1 ≤ CAPC ∧ ns M + 6006 ≤ CAPS by omega)
  have G2 := G1.mo d2 (fun l y z => by unfold copS at z; unfold mutL; omega)
  have K2 := K1.add d2.2 hG.1 (fun l y _ z => Or.inr (Or.inl z))
  have l2 := K2.le
  have row2 : ∀ j, el M2 13 156 j = el M 13 156 j := fun j => by
    have h156 := hG.m.2.2.2.1.1
    exact K2.e 13 (by omega) (by omega) (by omega) (by unfold opn0 copS; omega) j
  have iv2 : ∀ i, kd M i = 7 → iv M2 i = iv M i := fun i hi => by
    rw [d2.2.i (K1.k1 hi) (by unfold copS; omega), b5.2.i hi (by omega)]
  have hl2 : ∀ j : Int, 0 ≤ j → j < n → lv M2 (40 + 2 * j) = lv M (40 + 2 * j) := fun j j0 j1 => by
    have hn3 := hG.2.1.1
    have hch := ((hG.t.2.2.1).2.2 (2 + j) (by omega) (by omega)).2
    have hch2 := (hG.1.ch hch).2
    rw [show 35 + 2 * (2 + j) + 1 = 40 + 2 * j by omega] at hch2
    exact K2.l hch2 (by unfold opn0 copS; omega)
  have hu2 : ∀ j : Int, 0 ≤ j → j < n → fd M2 10 8 (sv j) = fd M 10 8 (sv j) := fun j j0 j1 => K2.f 10 8 (by have := (hG.s j0 j1).1.1; omega) rfl (by unfold opn0 copS; omega)
  have hm2 : kd M2 m = 8 := K2.k1 m1
  have hf2 : fd M2 7 1 m = f := by rw [K2.f 7 1 (by omega) rfl (by unfold opn0 copS; omega), m4]
  obtain ⟨M4, h1, G4, h3, hL, h4⟩ := chLoop_ (m := m) m7.1 m7.2 (ver := v + 1) (Hf := Hh f) (by omega) FU M2 0 G2 d3 hm2 hf2 (Int.le_refl _) (by omega) (by decide) (fun j j0 j1 => ⟨by rw [row2]; exact K2.k1 (hk j j0 j1).1, by rw [row2, iv2 _ (hk j j0 j1).1]; exact (hk j j0 j1).2⟩) (fun j j0 j1 => by rw [hl2 j j0 j1]; exact hl j j0 j1) (fun j j0 j1 => by rw [hu2 j j0 j1]; exact hu j j0 j1) (by omega)
  have K4 := (K2.mo (S' := opnS n f) hG.1 (fun l y _ z => Or.inl z) (Nat.le_refl _) (Nat.le_refl _)).add h3 hG.1 (fun l y _ z => z.elim (fun z => Or.inl (Or.inr (Or.inr z))) Or.inr)
  have e155 : ∀ g, el M4 0 155 g = el (sE M 0 155 f (v + 1)) 0 155 g := fun g => by
    have k2 : kd M2 155 ≠ 0 := by have := K2.k1 (n := 99) a15; omega
    have k1 : kd (sE M 0 155 f (v + 1)) 155 ≠ 0 := by have := K1.k1 (n := 99) a15; omega
    rw [h3.e 0 k2 (fun _ => by decide) (by omega) (by unfold chS; omega), d2.2.e 0 k1 (fun _ => by decide) (by omega) (by unfold copS; omega)]
  refine ⟨M4, ?_, G4, K4.mo hG.1 (fun _ _ _ z => z) (by omega) (by omega), d3.is G2.1 h3 (fun l y z => z.elim Or.inl (fun z => Or.inr z.1)), ⟨?_, fun g hg => ?_⟩, ?_, fun i hi => ?_, fun j j0 j1 => ?_⟩
  · have hver : fd (sE M 0 155 f (v + 1)) 3 4 (mC f) = v := c2
    unfold X7_takeChange
    rw [if_pos m1, if_pos a1, m4, cal_ok (mCopy_ hG m7.1 (by omega)), wr_id (z := f) (by omega) (by omega), wr_id (z := 6) (by omega) (by omega), if_neg (by omega), if_neg (by omega), if_pos c1, cal_ok (isHere_ c1 (by omega)), c2, m5, if_neg hv, if_neg (by decide), if_pos rfl, a7, if_pos a15, a16, if_pos (by omega)]
    dsimp only [pt]
    rw [cal_ok d1, h1]
  · rw [e155, v_el_sE, if_pos ⟨rfl, rfl, rfl⟩]
  · rw [e155, v_el_sE, if_neg (by omega)]
  · rw [h3.f 3 6 (by have := d2.2.k1 (b5.2.k1 c1); omega) rfl (by unfold chS; omega), d5]
    rfl
  · have := hL i (K2.k1 hi)
    rwa [iv2 i hi] at this
  · rw [h4 j j0 j1, hl2 j j0 j1, hu2 j j0 j1]
