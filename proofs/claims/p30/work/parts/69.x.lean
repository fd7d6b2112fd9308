/-! a channel of an editor passes a message to the multiplexer -/
def mxS (n : Nat) (e f : Int) (l : Nat) (y : Int) : Prop := opnS n f l y ∨ (l = 303 ∧ y = 36 + 2 * e)
theorem passE_ {n : Nat} {M : Mo} {Hh : Int → Int → TV2} {e m k f v w : Int} {ms : List Int} (hG : Good n M) (e0 : 0 ≤ e) (e1 : e < 2) (hq : lv M (36 + 2 * e) = m :: ms) (hm : MsgP n M Hh m k f v) (hC : CpOK M (mC f) w (Hh f)) (ht : okI1 (el M 0 155 f)) (hn : w ≠ -1 → (cv M (mC f)).length ≤ 1000) (hk : ∀ j : Int, 0 ≤ j → j < 18 → kd M (el M 13 156 j) = 7 ∧ (iv M (el M 13 156 j)).length ≤ 1000) (hl : ∀ j : Int, 0 ≤ j → j < n → (lv M (40 + 2 * j)).length ≤ 1000) (hu : ∀ j : Int, 0 ≤ j → j < n → okI1 (fd M 10 8 (sv j))) (hr : nc M + 5 ≤ CAPC ∧ ns M + 12036 ≤ CAPS) : ∃ M', X11_pass 10 e M = some (0, k, M') ∧ Good n M' ∧ Keeps (mxS n e f) 5 12036 M M' ∧ lv M' (36 + 2 * e) = ms ∧ (∀ i, kd M i = 7 → (iv M' i).length ≤ (iv M i).length) ∧ (∀ g, g ≠ f → el M' 0 155 g = el M 0 155 g) ∧ ((¬ acc (el M 0 155 f) w k v ∧ Keeps (fun l y => l = 303 ∧ y = 36 + 2 * e) 1 0 M M') ∨ (acc (el M 0 155 f) w k v ∧ CpOK M' (mC f) (nxt w k v) (Hh f) ∧ el M' 0 155 f = (if k = 2 then el M 0 155 f else v) ∧ (k ≠ 2 → fd M' 3 6 (mC f) = if k = 0 then fd M 7 2 m else fd M 3 6 (mC f)) ∧ ∀ j : Int, 0 ≤ j → j < n → lv M' (40 + 2 * j) = lv M (40 + 2 * j) ++ (if fd M 10 8 (sv j) = 0 then [] else [m]))) := by
  have hmC : mC f = 162 + 5 * f := rfl
  have hf := hm.2.1.2.1
  have hkk := hm.2.1.1
  obtain ⟨⟨t1, t2, t3, t4, t5, t6, t7, t8⟩, ⟨t9, t10⟩, ⟨t11, t12, t13⟩, -⟩ := hG.t
  have hch := (t13 e e0 (by omega))
  have hsv : (215 : Int) ≤ sv n := by unfold sv; split <;> omega
  have hm8 : kd M m = 8 := hm.1.1
  obtain ⟨M1, b1, b2, b3⟩ := cfirst_ hG.1 hG.z hch.2 hm8 (show lv M (35 + 2 * e + 1) = m :: ms by rw [show 35 + 2 * e + 1 = 36 + 2 * e by omega]; exact hq)
  rw [show 35 + 2 * e + 1 = 36 + 2 * e by omega] at b2 b3
  have G1 := hG.mo b2 (fun l y z => by unfold mutL; omega)
  have P1 : MsgP n M1 Hh m k f v := hm.mo b2.2 (fun l y z z2 => by omega)
  have C1 : CpOK M1 (mC f) w (Hh f) := hC.mo hG.1 b2.2 (fun l y z => by omega)
  have k155 := hG.m.2.2.1.1
  have k156 := hG.m.2.2.2.1.1
  have r155 : ∀ g, el M1 0 155 g = el M 0 155 g := fun g => b2.2.e 0 (x := 155) (by omega) (fun _ => by decide) (by omega) (by omega) g
  have r156 : ∀ g, el M1 13 156 g = el M 13 156 g := fun g => b2.2.e 13 (x := 156) (by omega) (by omega) (by omega) (by omega) g
  have iv1 : ∀ i, kd M i = 7 → iv M1 i = iv M i := fun i hi => b2.2.i hi (by omega)
  have hl1 : ∀ j : Int, 0 ≤ j → j < n → lv M1 (40 + 2 * j) = lv M (40 + 2 * j) := fun j j0 j1 => by
    have hn3 := hG.2.1.1
    have hch := ((hG.t.2.2.1).2.2 (2 + j) (by omega) (by omega)).2
    have hch2 := (hG.1.ch hch).2
    rw [show 35 + 2 * (2 + j) + 1 = 40 + 2 * j by omega] at hch2
    exact b2.2.l hch2 (by omega)
  have hu1 : ∀ j : Int, 0 ≤ j → j < n → fd M1 10 8 (sv j) = fd M 10 8 (sv j) := fun j j0 j1 => b2.2.f 10 8 (by have := (hG.s j0 j1).1.1; omega) rfl (by omega)
  have l1 := b2.2.le
  have hx13 : kd M1 10 = 13 := b2.2.k1 t1
  have hf4 : fd M1 12 4 10 = 148 := by rw [b2.2.f 12 4 (by omega) rfl (by omega)]; exact t6
  have hx9 : kd M1 148 = 9 := G1.m.1.1
  have hpos := (hG.1.pos (x := m) (by omega)).1
  have key : ∀ M2, X7_takeFromEditor 148 m M1 = some (0, 0, M2) → fd M2 7 0 m = k → kd M2 m = 8 → X11_pass 10 e M = some (0, k, M2) := by
    intro M2 h1 h2 h3
    have ha : okA (kd M 34) = true := by rw [t11]; rfl
    unfold X11_pass
    rw [wr_id (z := e) (by omega) (by omega), if_neg (by omega), if_pos t1, t3, if_pos ha, t12, wr_id (z := 10) (by omega) (by omega), if_pos (by omega), if_pos t11, if_pos (by omega), hch.1, if_pos hch.2, cal_ok b1, if_neg (by omega), wr_id (z := 8) (by omega) (by omega), if_pos (by omega), wr_id (z := 5) (by omega) (by omega), if_pos (by omega)]
    unfold X11_pass_83
    rw [wr_id (z := e) (by omega) (by omega), wr_id (z := 5) (by omega) (by omega), if_pos (by omega), wr_id (z := 2) (by omega) (by omega), if_neg (by omega), if_pos hx13, hf4, if_pos hx9, cal_ok h1, if_pos h3, h2]
  have hm1 : fd M1 7 0 m = k := P1.1.2.2.1
  by_cases ha : acc (el M 0 155 f) w k v
  · obtain ⟨M2, h1, G2, h3, h4, h5, h6, h7, h8⟩ := mTake_ G1 P1 C1 (by rw [r155]; exact ht) (by rw [r155]; exact ha) (fun z => by rw [b2.2.c hC.1.1 (by omega)]; exact hn z) (fun j j0 j1 => ⟨by rw [r156]; exact b2.2.k1 (hk j j0 j1).1, by rw [r156, iv1 _ (hk j j0 j1).1]; exact (hk j j0 j1).2⟩) (fun j j0 j1 => by rw [hl1 j j0 j1]; exact hl j j0 j1) (fun j j0 j1 => by rw [hu1 j j0 j1]; exact hu j j0 j1) (by omega)
    have K2 : Keeps (mxS n e f) (1 + 4) (0 + 12036) M M2 := (b2.2.mo (S' := mxS n e f) hG.1 (fun l y _ z => Or.inr z) (Nat.le_refl _) (Nat.le_refl _)).add h3 hG.1 (fun l y _ z => Or.inl z)
    have hch2 := (hG.1.ch hch.2).2
    rw [show 35 + 2 * e + 1 = 36 + 2 * e by omega] at hch2
    refine ⟨M2, key M2 h1 ?_ (h3.k1 (b2.2.k1 hm8)), G2, K2, ?_, fun i hi => ?_, fun g hg => ?_, Or.inr ⟨ha, h4, ?_, fun z => ?_, fun j j0 j1 => ?_⟩⟩
    · have hk1 : kd M1 m = 8 := b2.2.k1 hm8
      rw [h3.f 7 0 (by omega) rfl (by unfold opnS opn0 copS; omega), hm1]
    · rw [h3.l (b2.2.k1 hch2) (by unfold opnS opn0 copS; omega), b3]
    · have := h7 i (b2.2.k1 hi)
      rwa [iv1 i hi] at this
    · rw [h5.2 g hg, r155]
    · rw [h5.1, r155]
    · rw [h6 z, b2.2.f 7 2 (by omega) rfl (by omega), b2.2.f 3 6 (by have := hC.1.1; omega) rfl (by omega)]
    · rw [h8 j j0 j1, hl1 j j0 j1, hu1 j j0 j1]
  · have h1 := mTake0_ G1 P1 C1 (by rw [r155]; exact ht) (by rw [r155]; exact ha)
    refine ⟨M1, key M1 h1 hm1 (b2.2.k1 hm8), G1, b2.2.mo hG.1 (fun l y _ z => Or.inr z) (by omega) (by omega), b3, fun i hi => by rw [iv1 i hi]; exact Nat.le_refl _, fun g _ => r155 g, Or.inl ⟨ha, b2.2⟩⟩
