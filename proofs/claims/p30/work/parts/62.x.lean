/-! the multiplexer takes an OPEN -/
def opn0 (f : Int) (l : Nat) (y : Int) : Prop := (l = 310 ∧ y = 155) ∨ copS (mC f) l y ∨ l = 301
def opnS (n : Nat) (f : Int) (l : Nat) (y : Int) : Prop := opn0 f l y ∨ (l = 303 ∧ 40 ≤ y ∧ y ≤ 44 ∧ y < 40 + 2 * (n : Int))
theorem mOpen0_ {n : Nat} {M : Mo} {Hh : Int → Int → TV2} {m f v : Int} (hG : Good n M) (hm : MsgP n M Hh m 0 f v) (ht : okI1 (el M 0 155 f)) (hv : v ≤ el M 0 155 f) : X7_takeOpen 148 m M = some (0, 0, M) := by
  obtain ⟨⟨m1, m2, m3, m4, m5⟩, ⟨m6, m7, m8, m9⟩, -⟩ := hm
  obtain ⟨⟨a1, a2, a3, a4, a5, a6, a7, -⟩, -, ⟨a15, a16⟩, -⟩ := hG.m
  unfold X7_takeOpen
  rw [if_pos m1, m4, m5, a7, a16, wr_id (z := f) (by omega) (by omega), wr_id (z := 6) (by omega) (by omega), wr_id (z := v) (by omega) (by omega), wr_id (z := el M 0 155 f) (by omega) (by omega), if_neg (by omega), if_neg (by omega), if_pos a1, if_pos a15, if_pos (by omega), if_pos hv]
theorem mOpen_ {n : Nat} {M : Mo} {Hh : Int → Int → TV2} {m f v : Int} (hG : Good n M) (hm : MsgP n M Hh m 0 f v) (ht : okI1 (el M 0 155 f)) (hv : el M 0 155 f < v) (hk : ∀ j : Int, 0 ≤ j → j < 18 → kd M (el M 13 156 j) = 7) (hl : ∀ j : Int, 0 ≤ j → j < n → (lv M (40 + 2 * j)).length ≤ 1000) (hu : ∀ j : Int, 0 ≤ j → j < n → okI1 (fd M 10 8 (sv j))) (hr : nc M + 3 ≤ CAPC ∧ ns M + 6030 ≤ CAPS) : ∃ M', X7_takeOpen 148 m M = some (0, 0, M') ∧ Good n M' ∧ Keeps (opnS n f) 3 6030 M M' ∧ CpOK M' (mC f) v (Hh f) ∧ (el M' 0 155 f = v ∧ ∀ g, g ≠ f → el M' 0 155 g = el M 0 155 g) ∧ fd M' 3 6 (mC f) = fd M 7 2 m ∧ (∀ i, kd M i = 7 → (iv M' i).length ≤ (iv M i).length) ∧ ∀ j : Int, 0 ≤ j → j < n → lv M' (40 + 2 * j) = lv M (40 + 2 * j) ++ (if fd M 10 8 (sv j) = 0 then [] else [m]) := by
  have hmC : mC f = 162 + 5 * f := rfl
  obtain ⟨⟨m1, m2, m3, m4, m5⟩, ⟨m6, m7, m8, m9⟩, ⟨m10, m11⟩, -⟩ := hm
  obtain ⟨t1, t2, t3⟩ := m10 rfl
  obtain ⟨⟨a1, a2, a3, a4, a5, a6, a7, -⟩, ⟨a13, a14⟩, ⟨a15, a16⟩, -, -, -, -, -, -, a25⟩ := hG.m
  obtain ⟨c1, c2⟩ := a25 f m7.1 (by omega)
  have hsv : (215 : Int) ≤ sv n := by unfold sv; split <;> omega
  have b5 := row_step (M := M) (t := 0) (x := 155) (k := f) (v := v) hG.1 (fun _ => by decide) (fun h => by omega)
  have G1 := hG.mo b5 (fun l y z => by unfold mutL; omega)
  have K1 : Keeps (opn0 f) 0 0 M (sE M 0 155 f v) := b5.2.mo hG.1 (fun l y _ z => Or.inl z) (Nat.le_refl _) (Nat.le_refl _)
  have tt1 : tv (sE M 0 155 f v) (fd M 7 14 m) = Hh f v := by rw [b5.2.t t1 (by omega), t3]
  obtain ⟨M2, d1, d2, d3, dE⟩ := CpOK.nw (ed := fd M 7 2 m) (Hf := Hh f) G1.1 G1.z (b5.2.k1 c2) (b5.2.k1 t1) (by omega) m9 tt1
  have G2 := G1.mo d2 (fun l y z => by unfold copS at z; unfold mutL; omega)
  have K2 := K1.add d2.2 hG.1 (fun l y _ z => Or.inr (Or.inl z))
  have row2 : ∀ j, el M2 13 156 j = el M 13 156 j := fun j => by
    have h156 := hG.m.2.2.2.1.1
    exact K2.e 13 (by omega) (by omega) (by omega) (by unfold opn0 copS; omega) j
  obtain ⟨M3, g1, G3, g3, g4, -⟩ := dropLoop_ (f := f) m7.1 m7.2 FU M2 0 G2 (Int.le_refl _) (by omega) (by decide) (fun j j0 j1 => by rw [row2]; exact K2.k1 (hk j j0 j1))
  have K3 := K2.add g3 hG.1 (fun l y _ z => Or.inr (Or.inr z.1))
  have C3 : CpOK M3 (mC f) v (Hh f) := by
    obtain ⟨⟨⟨q1, q2, q3, q4⟩, ⟨q5, q6⟩, q7⟩, -⟩ := d3
    have x4 : fd M3 3 4 (mC f) = fd M2 3 4 (mC f) := g3.f 3 4 (by omega) rfl (fun z => by omega)
    have x5 : fd M3 3 5 (mC f) = fd M2 3 5 (mC f) := g3.f 3 5 (by omega) rfl (fun z => by omega)
    have xc : cv M3 (mC f) = cv M2 (mC f) := g3.c q1 (fun z => by omega)
    have xt : tv M3 (mC f + 1) = tv M2 (mC f + 1) := g3.t (G2.1.cp q1).1.2 (fun z => by omega)
    exact ⟨⟨g3.k1 q1, by rw [x4]; exact q2, q3, by rw [x5]; exact q4⟩, ⟨by rw [xc]; exact q5, by rw [xc]; exact q6⟩, by rw [xt, x5, xc]; exact q7⟩
  have l3 := K3.le
  have hl3 : ∀ j : Int, 0 ≤ j → j < n → lv M3 (40 + 2 * j) = lv M (40 + 2 * j) := fun j j0 j1 => by
    have hn3 := hG.2.1.1
    have hch := ((hG.t.2.2.1).2.2 (2 + j) (by omega) (by omega)).2
    have hch2 := (hG.1.ch hch).2
    rw [show 35 + 2 * (2 + j) + 1 = 40 + 2 * j by omega] at hch2
    exact K3.l hch2 (by unfold opn0 copS; omega)
  have hu3 : ∀ j : Int, 0 ≤ j → j < n → fd M3 10 8 (sv j) = fd M 10 8 (sv j) := fun j j0 j1 => K3.f 10 8 (by have := (hG.s j0 j1).1.1; omega) rfl (by unfold opn0 copS; omega)
  have hm3 : kd M3 m = 8 := K3.k1 m1
  have hf3 : fd M3 7 1 m = f := by rw [K3.f 7 1 (by omega) rfl (by unfold opn0 copS; omega), m4]
  obtain ⟨M4, h1, G4, h3, h4⟩ := passOn_ (m := m) G3 hm3 hf3 m7.1 m7.2 (fun j j0 j1 => by rw [hl3 j j0 j1]; exact hl j j0 j1) (fun j j0 j1 => by rw [hu3 j j0 j1]; exact hu j j0 j1) (by omega)
  have K4 := (K3.mo (S' := opnS n f) hG.1 (fun l y _ z => Or.inl z) (Nat.le_refl _) (Nat.le_refl _)).add h3 hG.1 (fun l y _ z => Or.inr z)
  have hp := (hG.1.pos (x := fd M 7 14 m) (by omega)).1
  have e155 : ∀ g, el M4 0 155 g = el (sE M 0 155 f v) 0 155 g := fun g => by
    have k2 : kd M2 155 ≠ 0 := by have := K2.k1 (n := 99) a15; omega
    have k3 : kd M3 155 ≠ 0 := by have := K3.k1 (n := 99) a15; omega
    have k1 : kd (sE M 0 155 f v) 155 ≠ 0 := by have := K1.k1 (n := 99) a15; omega
    rw [h3.e 0 k3 (fun _ => by decide) (by omega) (by omega), g3.e 0 k2 (fun _ => by decide) (by omega) (fun z => by omega), d2.2.e 0 k1 (fun _ => by decide) (by omega) (by unfold copS; omega)]
  refine ⟨M4, ?_, G4, K4.mo hG.1 (fun _ _ _ z => z) (by omega) (by omega), C3.mo G3.1 h3 (fun l y z => by omega), ⟨?_, fun g hg => ?_⟩, ?_, fun i hi => ?_, fun j j0 j1 => ?_⟩
  · unfold X7_takeOpen
    rw [if_pos m1, m4, m5, a7, a16, wr_id (z := f) (by omega) (by omega), wr_id (z := 6) (by omega) (by omega), wr_id (z := v) (by omega) (by omega), wr_id (z := el M 0 155 f) (by omega) (by omega), if_neg (by omega), if_neg (by omega), if_pos a1, if_pos a15, if_pos (by omega), if_neg (by omega), if_neg (by omega), if_pos (by omega)]
    dsimp only [pt]
    simp only [v_fd_sE, v_kd_sE, v_ln_sE, a5, m4, m5]
    rw [if_pos a13, a14, if_pos (by omega), show el (sE M 0 155 f v) 12 149 f = mC f from c1, if_pos c2, cal_ok d1]
    unfold X7_dropFaults
    rw [cal_ok g1, cal_ok h1]
  · rw [e155, v_el_sE, if_pos ⟨rfl, rfl, rfl⟩]
  · rw [e155, v_el_sE, if_neg (by omega)]
  · rw [h3.f 3 6 (by have := C3.1.1; omega) rfl (by omega), g3.f 3 6 (by have := d3.1.1.1; omega) rfl (fun z => by omega), dE]
  · rw [h3.i (K3.k1 hi) (by omega)]
    have := g4 i (K2.k1 hi)
    rwa [d2.2.i (K1.k1 hi) (by unfold copS; omega), b5.2.i hi (by omega)] at this
  · rw [h4 j j0 j1, hl3 j j0 j1, hu3 j j0 j1]
