/-! a crash -/
def flS (k : Int) (l : Nat) (y : Int) : Prop := (l = 64 ∨ l = 65 ∨ l = 66) ∧ sC k 0 ≤ y ∧ y ≤ sC k 5
theorem fallLoop_ {n : Nat} {k : Int} (k0 : 0 ≤ k) (k1 : k < n) : ∀ (fu : Nat) (M : Mo) (j : Int), Good n M → 0 ≤ j → j ≤ 6 → (6 - j).toNat < fu → ∃ M', X9_fall_14 fu (sv k) j M = some (0, 0, M') ∧ Good n M' ∧ Keeps (flS k) 0 0 M M' ∧ (∀ f : Int, j ≤ f → f < 6 → fd M' 3 4 (sC k f) = -1 ∧ fd M' 3 5 (sC k f) = -1) ∧ ∀ f : Int, 0 ≤ f → f < j → fd M' 3 4 (sC k f) = fd M 3 4 (sC k f) ∧ fd M' 3 5 (sC k f) = fd M 3 5 (sC k f) := by
  intro fu
  induction fu with
  | zero => intro M j _ _ _ h; omega
  | succ fu ih =>
    intro M j hG j0 j6 hf
    have hsC : ∀ g : Int, sC k g = sv k + 9 + 5 * g := fun _ => rfl
    obtain ⟨⟨a1, a2, a3, a4, a5, a6, a7, a8, a9⟩, ⟨a10, a11⟩, a12, a13, a14, a15⟩ := hG.s k0 k1
    rw [X9_fall_14, wr_id (z := 6) (by omega) (by omega), wr_id (z := j) (by omega) (by omega)]
    by_cases c : 6 ≤ j
    · rw [if_pos c]
      exact ⟨M, rfl, hG, Keeps.rf, fun f h1 h2 => by omega, fun f _ _ => ⟨rfl, rfl⟩⟩
    · obtain ⟨b1, b2⟩ := a15 j j0 (by omega)
      obtain ⟨M1, e1, h1, h2, h3, -⟩ := end_ hG.1 b2
      have G1 := hG.mo h1 (fun l y z => by unfold mutL; omega)
      have K1 : Keeps (flS k) 0 0 M M1 := h1.2.mo hG.1 (fun l y _ z => by have := hsC j; have := hsC 0; have := hsC 5; unfold flS; omega) (Nat.le_refl _) (Nat.le_refl _)
      obtain ⟨M', e2, G2, K2, r1, r2⟩ := ih M1 (j + 1) G1 (by omega) (by omega) (by omega)
      rw [if_neg c, if_pos a1, a6, if_pos a10, a11, if_pos (by omega), b1, if_pos b2, cal_ok e1]
      refine ⟨M', e2, G2, K1.add K2 hG.1 (fun _ _ _ z => z), fun f f0 f1 => ?_, fun f f00 hf => ?_⟩
      · by_cases z : f = j
        · subst z
          rw [(r2 f (by omega) (by omega)).1, (r2 f (by omega) (by omega)).2]
          exact ⟨h2, h3⟩
        · exact r1 f (by omega) f1
      · rw [(r2 f (by omega) (by omega)).1, (r2 f (by omega) (by omega)).2]
        have q1 := hsC j
        have q2 := hsC f
        have z := (a15 f f00 (by omega)).2
        exact ⟨h1.2.f 3 4 (by omega) rfl (by omega), h1.2.f 3 5 (by omega) rfl (by omega)⟩
def crS (k : Int) (l : Nat) (y : Int) : Prop := (l = 208 ∧ y = sv k) ∨ (l = 303 ∧ (y = sv k + 7 ∨ y = 40 + 2 * k ∨ y = 46 + 2 * k)) ∨ flS k l y
theorem lose_ {n : Nat} {M : Mo} {c : Int} (hG : Good n M) (c0 : 0 ≤ c) (c1 : c < 10) (hn : (lv M (36 + 2 * c)).length ≤ 10000) : ∃ M', X11_lose 10 c M = some (0, ((lv M (36 + 2 * c)).length : Int), M') ∧ (WF M' ∧ Keeps (fun t y => t = 303 ∧ y = 36 + 2 * c) 1 0 M M') ∧ lv M' (36 + 2 * c) = [] := by
  obtain ⟨⟨t1, t2, t3, -⟩, -, ⟨t11, t12, t13⟩, -⟩ := hG.t
  have ha : okA (kd M 34) = true := by rw [t11]; rfl
  have hch := t13 c c0 c1
  obtain ⟨M', e1, h1, h2⟩ := close_ hG.1 hG.z hch.2 (by rw [show 35 + 2 * c + 1 = 36 + 2 * c by omega]; exact hn)
  rw [show 35 + 2 * c + 1 = 36 + 2 * c by omega] at e1 h1 h2
  refine ⟨M', ?_, h1, h2⟩
  unfold X11_lose
  rw [wr_id (z := c) (by omega) (by omega), if_neg (by omega), if_pos t1, t3, if_pos ha, t12, wr_id (z := 10) (by omega) (by omega), if_neg (by omega), if_pos t11, if_pos (by omega), hch.1, if_pos hch.2, cal_ok e1]
theorem miss_ {n : Nat} {M : Mo} {k : Int} (hG : Good n M) (hp : lv M 157 = []) : X7_miss 148 k M = some (0, 0, M) := by
  obtain ⟨⟨m1, m2, m3, m4, m5, m6, m7, m8, m9, -⟩, -, -, -, -, -, m22, -⟩ := hG.m
  unfold X7_miss
  rw [if_pos m1, m9, if_pos m22, cal_ok (lsize_ hG.1 m22), hp, show FU = 999999 + 1 from rfl, X7_miss_10, if_pos (by decide)]
theorem crash_ {n : Nat} {M : Mo} {k : Int} (hG : Good n M) (k0 : 0 ≤ k) (k1 : k < n) (hu : fd M 10 8 (sv k) = 1) (hp : lv M 157 = []) (hq : lv M (sv k + 7) = []) (hn : (lv M (40 + 2 * k)).length ≤ 10000) (hn2 : lv M (46 + 2 * k) = []) : ∃ M', X11_crash 10 k M = some (0, ((lv M (40 + 2 * k)).length : Int), M') ∧ Good n M' ∧ Keeps (crS k) 3 0 M M' ∧ fd M' 10 8 (sv k) = 0 ∧ (∀ f : Int, 0 ≤ f → f < 6 → fd M' 3 4 (sC k f) = -1 ∧ fd M' 3 5 (sC k f) = -1) ∧ lv M' (sv k + 7) = [] ∧ lv M' (40 + 2 * k) = [] ∧ lv M' (46 + 2 * k) = [] := by
  have hn3 := hG.2.1.1
  have hsk : 215 ≤ sv k := by unfold sv; split <;> omega
  have hsC : ∀ g : Int, sC k g = sv k + 9 + 5 * g := fun _ => rfl
  have hc0 := hsC 0
  have hc5 := hsC 5
  obtain ⟨⟨a1, a2, a3, a4, a5, a6, a7, a8, a9⟩, ⟨a10, a11⟩, a12, a13, a14, a15⟩ := hG.s k0 k1
  have b1 := fld_step (c := 10) (k := 8) (x := sv k) (v := 0) hG.1 rfl (by omega) (by omega)
  have G1 := hG.mo b1 (fun l y z => by unfold mutL; omega)
  have K1 : Keeps (crS k) 0 0 M (sF M 10 8 (sv k) 0) := b1.2.mo hG.1 (fun l y _ z => Or.inl z) (Nat.le_refl _) (Nat.le_refl _)
  have q1 : lv (sF M 10 8 (sv k) 0) (sv k + 7) = [] := by rw [b1.2.l a13 (by omega)]; exact hq
  obtain ⟨M2, c1, c2, c3⟩ := lclear_ G1.1 G1.z (b1.2.k1 a13) (by rw [q1]; exact Nat.zero_le _)
  have G2 := G1.mo c2 (fun l y z => by unfold mutL; omega)
  have K2 := K1.add c2.2 hG.1 (fun l y _ z => by unfold crS; omega)
  obtain ⟨M3, d1, G3, d3, d4, -⟩ := fallLoop_ k0 k1 FU M2 0 G2 (Int.le_refl _) (by omega) (by decide)
  have K3 := K2.add d3 hG.1 (fun l y _ z => Or.inr (Or.inr z))
  have hch1 : kd M (40 + 2 * k) = 1 := by
    have := Rel.chl hG (c := 2 + k) (by omega) (by omega)
    rwa [show 36 + 2 * (2 + k) = 40 + 2 * k by omega] at this
  have hch2 : kd M (46 + 2 * k) = 1 := by
    have := Rel.chl hG (c := 5 + k) (by omega) (by omega)
    rwa [show 36 + 2 * (5 + k) = 46 + 2 * k by omega] at this
  have l1 : lv M3 (40 + 2 * k) = lv M (40 + 2 * k) := by
    rw [d3.l (K2.k1 hch1) (by unfold flS; omega), c2.2.l (K1.k1 hch1) (by omega), b1.2.l hch1 (by omega)]
  have l2 : lv M3 (46 + 2 * k) = [] := by
    rw [d3.l (K2.k1 hch2) (by unfold flS; omega), c2.2.l (K1.k1 hch2) (by omega), b1.2.l hch2 (by omega), hn2]
  obtain ⟨M4, e1, e2, e3⟩ := lose_ (c := 2 + k) G3 (by omega) (by omega) (by rw [show 36 + 2 * (2 + k) = 40 + 2 * k by omega, l1]; exact hn)
  rw [show 36 + 2 * (2 + k) = 40 + 2 * k by omega] at e1 e2 e3
  rw [l1] at e1
  have G4 := G3.mo e2 (fun l y z => by unfold mutL; omega)
  have K4 := K3.add e2.2 hG.1 (fun l y _ z => by unfold crS; omega)
  have l3 : lv M4 (46 + 2 * k) = [] := by rw [e2.2.l (K3.k1 hch2) (by omega), l2]
  obtain ⟨M5, g1, g2, g3⟩ := lose_ (c := 5 + k) G4 (by omega) (by omega) (by rw [show 36 + 2 * (5 + k) = 46 + 2 * k by omega, l3]; exact Nat.zero_le _)
  rw [show 36 + 2 * (5 + k) = 46 + 2 * k by omega] at g1 g2 g3
  rw [l3] at g1
  have G5 := G4.mo g2 (fun l y z => by unfold mutL; omega)
  have K5 := K4.add g2.2 hG.1 (fun l y _ z => by unfold crS; omega)
  have p5 : lv M5 157 = [] := by rw [K5.l hG.m.2.2.2.2.2.2.1 (by unfold crS flS; omega)]; exact hp
  have ht := hG.t.1
  have ht5 := G5.t.1
  refine ⟨M5, ?_, G5, K5.mo hG.1 (fun _ _ _ z => z) (by omega) (by omega), ?_, fun f f0 f1 => ?_, ?_, ?_, g3⟩
  · have h2 : kd (sF M 10 8 (sv k) 0) (sv k) = 11 := b1.2.k1 a1
    unfold X11_crash
    rw [if_pos ht.1, cal_ok (svAt_ hG k0 k1), if_pos a1, hu, if_neg (by decide)]
    unfold X9_fall
    rw [if_pos a1]
    dsimp only [pt]
    rw [show fd (sF M 10 8 (sv k) 0) 10 6 (sv k) = sv k + 7 by rw [fd_sF, if_neg (by omega)]; exact a8, if_pos (b1.2.k1 a13), cal_ok c1, cal_ok d1, cal_ok e1, cal_ok g1, ht5.2.2.2.2.2.1, if_pos G5.m.1.1, cal_ok (miss_ G5 p5)]
    rfl
  · have r : ∀ M0 : Mo, kd M0 (sv k) = 11 → kd M0 (sv k) ≠ 0 := fun M0 h => by omega
    rw [g2.2.f 10 8 (r _ (K4.k1 a1)) rfl (by omega), e2.2.f 10 8 (r _ (K3.k1 a1)) rfl (by omega), d3.f 10 8 (r _ (K2.k1 a1)) rfl (by unfold flS; omega), c2.2.f 10 8 (r _ (K1.k1 a1)) rfl (by omega), fd_sF, if_pos ⟨rfl, rfl, rfl⟩]
  · have r : ∀ M0 : Mo, kd M0 (sC k f) = 4 → kd M0 (sC k f) ≠ 0 := fun M0 h => by omega
    have z := (a15 f f0 f1).2
    rw [g2.2.f 3 4 (r _ (K4.k1 z)) rfl (by omega), e2.2.f 3 4 (r _ (K3.k1 z)) rfl (by omega), g2.2.f 3 5 (r _ (K4.k1 z)) rfl (by omega), e2.2.f 3 5 (r _ (K3.k1 z)) rfl (by omega)]
    exact d4 f f0 f1
  · rw [g2.2.l (K4.k1 a13) (by omega), e2.2.l (K3.k1 a13) (by omega), d3.l (K2.k1 a13) (by unfold flS; omega), c3]
  · rw [g2.2.l (K4.k1 hch1) (by omega), e3]
