/-! a channel of a server passes a message to it -/
def srS (k f : Int) (l : Nat) (y : Int) : Prop := copS (sC k f) l y ∨ (l = 303 ∧ y = 40 + 2 * k)
theorem passS_ {n : Nat} {M : Mo} {Hh : Int → Int → TV2} {k m kind f v ver : Int} {ms : List Int} (hG : Good n M) (k0 : 0 ≤ k) (k1 : k < n) (hq : lv M (40 + 2 * k) = m :: ms) (hm : MsgP n M Hh m kind f v) (hC : CpOK M (sC k f) ver (Hh f)) (hqs : lv M (sv k + 7) = []) (hv : kind = 1 → ver ≠ -1 → v = ver + 1) (hn : ver ≠ -1 → (cv M (sC k f)).length ≤ 1000) (hr : nc M + 11 ≤ CAPC ∧ ns M + 9000 ≤ CAPS) : ∃ M', X11_pass 10 (2 + k) M = some (0, kind, M') ∧ Good n M' ∧ Keeps (srS k f) 2 6006 M M' ∧ lv M' (40 + 2 * k) = ms ∧ CpOK M' (sC k f) (nxt ver kind v) (Hh f) := by
  have hn3 := hG.2.1.1
  have hf := hm.2.1.2.1
  have hkk := hm.2.1.1
  obtain ⟨⟨t1, t2, t3, t4, t5, t6, t7, t8⟩, ⟨t9, t10⟩, ⟨t11, t12, t13⟩, -⟩ := hG.t
  have hch := (t13 (2 + k) (by omega) (by omega))
  have hsv : (215 : Int) ≤ sv n := by unfold sv; split <;> omega
  have hsk : (215 : Int) ≤ sv k := by unfold sv; split <;> omega
  have hskn : sC k f + 5 ≤ sv n := by
    unfold sC sv
    split <;> split <;> omega
  have hsC : 215 ≤ sC k f := by unfold sC; omega
  have hm8 : kd M m = 8 := hm.1.1
  obtain ⟨M1, b1, b2, b3⟩ := cfirst_ hG.1 hG.z hch.2 hm8 (show lv M (35 + 2 * (2 + k) + 1) = m :: ms by rw [show 35 + 2 * (2 + k) + 1 = 40 + 2 * k by omega]; exact hq)
  rw [show 35 + 2 * (2 + k) + 1 = 40 + 2 * k by omega] at b2 b3
  have G1 := hG.mo b2 (fun l y z => by unfold mutL; omega)
  have P1 : MsgP n M1 Hh m kind f v := hm.mo b2.2 (fun l y z z2 => by omega)
  have C1 : CpOK M1 (sC k f) ver (Hh f) := hC.mo hG.1 b2.2 (fun l y z => by omega)
  have q1 : lv M1 (sv k + 7) = [] := by
    rw [b2.2.l (hG.s k0 k1).2.2.2.1 (by omega)]
    exact hqs
  have l1 := b2.2.le
  have t9' : kd M1 33 = 1 := G1.t.2.1.1
  have hx13 : kd M1 10 = 13 := b2.2.k1 t1
  have hf3 : fd M1 12 3 10 = 33 := G1.t.1.2.2.2.2.1
  have hsz : ((lv M1 33).length : Int) = n := by
    rw [G1.t.2.1.2, rg_len]
    omega
  have hks := (G1.s k0 k1).1.1
  have hpos := (hG.1.pos (x := m) (by omega)).1
  obtain ⟨M2, h1, G2, h3, h4⟩ := sTake_ G1 k0 k1 C1 P1 q1 hv (fun z => by rw [b2.2.c hC.1.1 (by omega)]; exact hn z) (by omega)
  have hm1 : fd M1 7 0 m = kind := P1.1.2.2.1
  have hm2 : fd M2 7 0 m = kind := by
    have hk1 : kd M1 m = 8 := b2.2.k1 hm8
    rw [h3.f 7 0 (by omega) rfl (by unfold copS; omega), hm1]
  have hch2 := (hG.1.ch hch.2).2
  rw [show 35 + 2 * (2 + k) + 1 = 40 + 2 * k by omega] at hch2
  refine ⟨M2, ?_, G2, ((b2.2.mo (S' := srS k f) hG.1 (fun l y _ z => Or.inr z) (Nat.le_refl _) (Nat.le_refl _)).add h3 hG.1 (fun l y _ z => Or.inl z)).mo hG.1 (fun _ _ _ z => z) (by omega) (by omega), ?_, h4⟩
  · have ha : okA (kd M 34) = true := by rw [t11]; rfl
    unfold X11_pass
    rw [wr_id (z := 2 + k) (by omega) (by omega), if_neg (by omega), if_pos t1, t3, if_pos ha, t12, wr_id (z := 10) (by omega) (by omega), if_pos (by omega), if_pos t11, if_pos (by omega), hch.1, if_pos hch.2, cal_ok b1, if_neg (by omega), wr_id (z := 8) (by omega) (by omega), if_pos (by omega), wr_id (z := 5) (by omega) (by omega), if_pos (by omega)]
    unfold X11_pass_83
    rw [wr_id (z := 2 + k) (by omega) (by omega), wr_id (z := 5) (by omega) (by omega), if_pos (by omega), wr_id (z := 2) (by omega) (by omega), if_pos (by omega), if_pos hx13, hf3, if_pos t9', cal_ok (lsize_ G1.1 t9'), hsz, wr_id (z := (n : Int)) (by omega) (by omega), show 2 + k - 2 = k by omega, wr_id (z := k) (by omega) (by omega), if_neg (by omega), hf3, if_pos t9', cal_ok (lget_ G1.1 t9' k0 (lsv_ G1 k0 k1)), if_pos (Or.inr hks), if_pos hks, cal_ok h1, if_pos (h3.k1 (b2.2.k1 hm8)), hm2]
  · rw [h3.l (b2.2.k1 hch2) (by unfold copS; omega), b3]
