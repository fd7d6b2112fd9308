/-! looking things up in the skeleton -/
theorem Good.f {n : Nat} {M : Mo} (h : Good n M) : SKf M := h.2.2.2.1
theorem Good.m {n : Nat} {M : Mo} (h : Good n M) : SKm M := h.2.2.2.2.1
theorem Good.t {n : Nat} {M : Mo} (h : Good n M) : SKt n M := h.2.2.1
theorem Good.e {n : Nat} {M : Mo} (h : Good n M) {e : Int} (h0 : 0 ≤ e) (h1 : e < 2) : SKe M e := h.2.2.2.2.2.1 e h0 h1
theorem Good.s {n : Nat} {M : Mo} (h : Good n M) {k : Int} (h0 : 0 ≤ k) (h1 : k < n) : SKs M k := h.2.2.2.2.2.2 k h0 h1
theorem has_ {n : Nat} {M : Mo} {f : Int} (hG : Good n M) (hf : okI1 f) : X4_has 13 f M = some (0, if 0 ≤ f ∧ f < 2 then 1 else 0, M) := by
  obtain ⟨⟨f1, f2, f3, f4, f5, f6, f7, f8⟩, -⟩ := hG.f
  unfold X4_has
  rw [wr_id (z := f) (by omega) (by omega), f8, wr_id (z := 2) (by omega) (by omega), wr_id (z := 6) (by omega) (by omega)]
  by_cases c : f < 0
  · rw [if_pos c, if_neg (by omega)]
  · rw [if_neg c, if_pos f1]
    by_cases c2 : 2 ≤ f
    · rw [if_pos c2, if_neg (by omega)]
    · rw [if_neg c2, if_neg (by omega), if_pos (by omega)]
theorem has1_ {n : Nat} {M : Mo} {f : Int} (hG : Good n M) (h0 : 0 ≤ f) (h1 : f < 2) : X4_has 13 f M = some (0, 1, M) := by
  rw [has_ hG (by omega), if_pos (by omega)]
theorem langOf_ {n : Nat} {M : Mo} {f : Int} (hG : Good n M) (h0 : 0 ≤ f) (h1 : f < 2) : X4_languageOf 13 f M = some (0, f, M) := by
  obtain ⟨⟨f1, f2, f3, f4, f5, f6, f7, f8⟩, -, g1, ⟨g2, g3⟩, -⟩ := hG.f
  obtain ⟨k1, k2⟩ := g1 15 (by omega) (by omega)
  have : el M 0 15 f = f := by
    by_cases c : f = 0
    · rw [c]; exact g2
    · rw [show f = 1 by omega]; exact g3
  unfold X4_languageOf
  rw [if_pos f1, cal_ok (has1_ hG h0 h1), f3, if_neg (by decide), if_pos k1, k2, wr_id (z := f) (by omega) (by omega), if_pos (by omega), this]
theorem versOf_ {n : Nat} {M : Mo} {f : Int} (hG : Good n M) (h0 : 0 ≤ f) (h1 : f < 2) : X4_versionOf 13 f M = some (0, el M 0 16 f, M) := by
  obtain ⟨⟨f1, f2, f3, f4, f5, f6, f7, f8⟩, -, g1, -⟩ := hG.f
  obtain ⟨k1, k2⟩ := g1 16 (by omega) (by omega)
  unfold X4_versionOf
  rw [if_pos f1, cal_ok (has1_ hG h0 h1), f4, if_neg (by decide), if_pos k1, k2, wr_id (z := f) (by omega) (by omega), if_pos (by omega)]
theorem holdOf_ {n : Nat} {M : Mo} {f : Int} (hG : Good n M) (h0 : 0 ≤ f) (h1 : f < 2) : X4_holderOf 13 f M = some (0, el M 0 17 f, M) := by
  obtain ⟨⟨f1, f2, f3, f4, f5, f6, f7, f8⟩, -, g1, -⟩ := hG.f
  obtain ⟨k1, k2⟩ := g1 17 (by omega) (by omega)
  unfold X4_holderOf
  rw [if_pos f1, cal_ok (has1_ hG h0 h1), f5, if_neg (by decide), if_pos k1, k2, wr_id (z := f) (by omega) (by omega), if_pos (by omega)]
theorem nameOf_ {n : Nat} {M : Mo} {f : Int} (hG : Good n M) (h0 : 0 ≤ f) (h1 : f < 2) : X4_nameOf 13 f M = some (0, 98 - f, M) := by
  obtain ⟨⟨f1, f2, f3, f4, f5, f6, f7, f8⟩, ⟨g1, g2, g3, g4⟩, -⟩ := hG.f
  have : el M 1 14 f = 98 - f := by
    by_cases c : f = 0
    · rw [c]; exact g3
    · rw [show f = 1 by omega]; exact g4
  have hn : n16 (98 - f) = wr (98 - f) := by
    by_cases c : f = 0
    · rw [c]; decide
    · rw [show f = 1 by omega]; decide
  unfold X4_nameOf
  rw [if_pos f1, cal_ok (has1_ hG h0 h1), f2, if_neg (by decide), if_pos g1, g2, wr_id (z := f) (by omega) (by omega), if_pos (by omega), this, if_pos hn]
theorem textOf_ {n : Nat} {M : Mo} {f : Int} (hG : Good n M) (h0 : 0 ≤ f) (h1 : f < 2) : X4_textOf 13 f M = some (0, 21 + 2 * f, M) := by
  obtain ⟨⟨f1, f2, f3, f4, f5, f6, f7, f8⟩, -, -, -, ⟨k1, k2⟩, -, g⟩ := hG.f
  unfold X4_textOf
  rw [if_pos f1, cal_ok (has1_ hG h0 h1), f6, if_neg (by decide), if_pos k1, k2, wr_id (z := f) (by omega) (by omega), if_pos (by omega), (g f h0 (by omega)).1]
theorem setV_ {n : Nat} {M : Mo} {f v : Int} (hG : Good n M) (h0 : 0 ≤ f) (h1 : f < 2) : X4_setVersion 13 f v M = some (0, 0, sE M 0 16 f v) ∧ (WF (sE M 0 16 f v) ∧ Keeps (fun l y => l = 310 ∧ y = 16) 0 0 M (sE M 0 16 f v)) := by
  obtain ⟨⟨f1, f2, f3, f4, f5, f6, f7, f8⟩, -, g1, -⟩ := hG.f
  obtain ⟨k1, k2⟩ := g1 16 (by omega) (by omega)
  refine ⟨?_, row_step hG.1 (fun _ => by decide) (fun h => by omega)⟩
  unfold X4_setVersion
  rw [if_pos f1, cal_ok (has1_ hG h0 h1), f4, if_neg (by decide), if_pos k1, k2, wr_id (z := f) (by omega) (by omega), if_pos (by omega)]
  rfl
theorem setH_ {n : Nat} {M : Mo} {f v : Int} (hG : Good n M) (h0 : 0 ≤ f) (h1 : f < 2) : X4_setHolder 13 f v M = some (0, 0, sE M 0 17 f v) ∧ (WF (sE M 0 17 f v) ∧ Keeps (fun l y => l = 310 ∧ y = 17) 0 0 M (sE M 0 17 f v)) := by
  obtain ⟨⟨f1, f2, f3, f4, f5, f6, f7, f8⟩, -, g1, -⟩ := hG.f
  obtain ⟨k1, k2⟩ := g1 17 (by omega) (by omega)
  refine ⟨?_, row_step hG.1 (fun _ => by decide) (fun h => by omega)⟩
  unfold X4_setHolder
  rw [if_pos f1, cal_ok (has1_ hG h0 h1), f5, if_neg (by decide), if_pos k1, k2, wr_id (z := f) (by omega) (by omega), if_pos (by omega)]
  rfl
theorem eCopy_ {n : Nat} {M : Mo} {e f : Int} (hG : Good n M) (e0 : 0 ≤ e) (e1 : e < 2) (h0 : 0 ≤ f) (h1 : f < 6) : X3_copyOf (eE e) f M = some (0, eC e f, M) := by
  obtain ⟨⟨a1, a2, a3, a4, a5, a6, a7, a8, a9⟩, ⟨a10, a11⟩, -, -, -, -, a17⟩ := hG.e e0 e1
  unfold X3_copyOf
  rw [wr_id (z := f) (by omega) (by omega), wr_id (z := 6) (by omega) (by omega), if_neg (by omega), if_neg (by omega), if_pos a1, a5, if_pos a10, a11, if_pos (by omega), (a17 f h0 h1).1]
theorem eFaults_ {n : Nat} {M : Mo} {e f : Int} (hG : Good n M) (e0 : 0 ≤ e) (e1 : e < 2) (h0 : 0 ≤ f) (h1 : f < 6) : X3_faultsOf (eE e) f M = some (0, el M 13 (eE e + 7) f, M) := by
  obtain ⟨⟨a1, a2, a3, a4, a5, a6, a7, a8, a9⟩, -, ⟨a10, a11⟩, -⟩ := hG.e e0 e1
  unfold X3_faultsOf
  rw [wr_id (z := f) (by omega) (by omega), wr_id (z := 6) (by omega) (by omega), if_neg (by omega), if_neg (by omega), if_pos a1, a7, if_pos a10, a11, if_pos (by omega)]
theorem mCopy_ {n : Nat} {M : Mo} {f : Int} (hG : Good n M) (h0 : 0 ≤ f) (h1 : f < 6) : X7_copyOf 148 f M = some (0, mC f, M) := by
  obtain ⟨⟨m1, m2, m3, m4, m5, m6, m7, m8, m9, m10, m11, m12⟩, ⟨m13, m14⟩, -, -, -, -, -, -, -, m25⟩ := hG.m
  unfold X7_copyOf
  rw [wr_id (z := f) (by omega) (by omega), wr_id (z := 6) (by omega) (by omega), if_neg (by omega), if_neg (by omega), if_pos m1, m5, if_pos m13, m14, if_pos (by omega), (m25 f h0 h1).1]
theorem sCopy_ {n : Nat} {M : Mo} {k f : Int} (hG : Good n M) (k0 : 0 ≤ k) (k1 : k < n) (h0 : 0 ≤ f) (h1 : f < 6) : X9_copyOf (sv k) f M = some (0, sC k f, M) := by
  obtain ⟨⟨a1, a2, a3, a4, a5, a6, a7, a8, a9⟩, ⟨a10, a11⟩, a12, a13, a14, a15⟩ := hG.s k0 k1
  unfold X9_copyOf
  rw [wr_id (z := f) (by omega) (by omega), wr_id (z := 6) (by omega) (by omega), if_neg (by omega), if_neg (by omega), if_pos a1, a6, if_pos a10, a11, if_pos (by omega), (a15 f h0 h1).1]
theorem chanAt_ {n : Nat} {M : Mo} {c : Int} (hG : Good n M) (h0 : 0 ≤ c) (h1 : c < 10) : X7_channelAt 148 c M = some (0, 35 + 2 * c, M) := by
  obtain ⟨⟨m1, m2, m3, m4, -⟩, -⟩ := hG.m
  obtain ⟨-, -, ⟨c1, c2, c3⟩, -⟩ := hG.t
  have hk : okA (kd M 34) = true := by rw [c1]; rfl
  unfold X7_channelAt
  rw [wr_id (z := c) (by omega) (by omega), if_neg (by omega), if_pos m1, m4, if_pos hk, c2, wr_id (z := 10) (by omega) (by omega), if_neg (by omega), if_pos c1, if_pos (by omega), (c3 c h0 h1).1]
/-! channels -/
theorem csize_ {M : Mo} {c : Int} (hW : WF M) (hc : kd M c = 3) : X1_size c M = some (0, ((lv M (c + 1)).length : Int), M) := by
  obtain ⟨h1, h2⟩ := hW.ch hc
  unfold X1_size
  rw [if_pos hc, h1, if_pos h2, cal_ok (lsize_ hW h2)]
theorem csend_ {M : Mo} {c m : Int} (hW : WF M) (hZ : ZZ ≤ nid M) (hc : kd M c = 3) (hm : kd M m = 8) (hn : (lv M (c + 1)).length ≤ 2000) (hr : nc M + 1 ≤ CAPC ∧ ns M + (2 * (lv M (c + 1)).length + 10) ≤ CAPS) : ∃ M', X1_send c m M = some (0, 0, M') ∧ (WF M' ∧ Keeps (fun t y => t = 303 ∧ y = c + 1) 1 (2 * (lv M (c + 1)).length + 10) M M') ∧ lv M' (c + 1) = lv M (c + 1) ++ [m] := by
  obtain ⟨h1, h2⟩ := hW.ch hc
  obtain ⟨M', e, h⟩ := ladd_ (x := m) hW hZ h2 (by rw [hm]; rfl) hn hr
  refine ⟨M', ?_, h⟩
  unfold X1_send
  rw [if_pos hc, h1, if_pos h2, cal_ok e]
theorem cfirst_ {M : Mo} {c m : Int} {ms : List Int} (hW : WF M) (hZ : ZZ ≤ nid M) (hc : kd M c = 3) (hm : kd M m = 8) (hv : lv M (c + 1) = m :: ms) : ∃ M', X1_takeFirst c M = some (0, m, M') ∧ (WF M' ∧ Keeps (fun t y => t = 303 ∧ y = c + 1) 1 0 M M') ∧ lv M' (c + 1) = ms := by
  obtain ⟨h1, h2⟩ := hW.ch hc
  obtain ⟨M', e, h⟩ := lrem_ hW hZ h2 hv
  refine ⟨M', ?_, h⟩
  unfold X1_takeFirst
  rw [if_pos hc, h1, if_pos h2, cal_ok (lempty_ hW h2), show (if lv M (c + 1) = [] then (1 : Int) else 0) = 0 from if_neg (by rw [hv]; exact List.cons_ne_nil _ _), if_pos (by decide), h1, if_pos h2, cal_ok (lget_ (k := 0) hW h2 (Int.le_refl _) (by rw [hv]; rfl)), if_pos (Or.inr hm), h1, if_pos h2, cal_ok e]
theorem cnone_ {M : Mo} {c : Int} (hW : WF M) (hc : kd M c = 3) (hv : lv M (c + 1) = []) : X1_takeFirst c M = some (0, 0, M) := by
  obtain ⟨h1, h2⟩ := hW.ch hc
  unfold X1_takeFirst
  rw [if_pos hc, h1, if_pos h2, cal_ok (lempty_ hW h2), if_pos hv, if_neg (by decide)]
theorem close_ {M : Mo} {c : Int} (hW : WF M) (hZ : ZZ ≤ nid M) (hc : kd M c = 3) (hn : (lv M (c + 1)).length ≤ 10000) : ∃ M', X1_lose c M = some (0, ((lv M (c + 1)).length : Int), M') ∧ (WF M' ∧ Keeps (fun t y => t = 303 ∧ y = c + 1) 1 0 M M') ∧ lv M' (c + 1) = [] := by
  obtain ⟨h1, h2⟩ := hW.ch hc
  obtain ⟨M', e, h⟩ := lclear_ hW hZ h2 hn
  refine ⟨M', ?_, h⟩
  unfold X1_lose
  rw [if_pos hc, h1, if_pos h2, cal_ok (lsize_ hW h2), h1, if_pos h2, cal_ok e]
