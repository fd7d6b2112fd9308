/-! the law has all delivered -/
def smL (M : Mo) : Int → Nat → Int
  | _, 0 => 0
  | c, r + 1 => ((lv M (36 + 2 * c)).length : Int) + smL M (c + 1) r
theorem dl6_ {n : Nat} {M : Mo} (hG : Good n M) (hl : ∀ d : Int, 0 ≤ d → d < 10 → (lv M (36 + 2 * d)).length ≤ 10000) : ∀ (r fu : Nat) (c acc : Int), 0 ≤ c → c + r = 10 → r < fu → ∃ fu', L_areDelivered_6 fu 10 210 211 212 acc c M = L_areDelivered_6 (fu' + 1) 10 210 211 212 (acc + smL M c r) 10 M
  | 0, fu, c, acc, c0, hc, hf => by
    refine ⟨fu - 1, ?_⟩
    rw [show fu - 1 + 1 = fu by omega, show c = 10 by omega]
    show _ = L_areDelivered_6 fu 10 210 211 212 (acc + 0) 10 M
    rw [Int.add_zero]
  | r + 1, fu, c, acc, c0, hc, hf => by
    obtain ⟨fu1, rfl⟩ : ∃ fu1, fu = fu1 + 1 := ⟨fu - 1, by omega⟩
    obtain ⟨fu', e⟩ := dl6_ hG hl r fu1 (c + 1) (acc + ((lv M (36 + 2 * c)).length : Int)) (by omega) (by omega) (by omega)
    refine ⟨fu', ?_⟩
    rw [L_areDelivered_6, wr_id (z := c) (by omega) (by omega), wr_id (z := 10) (by omega) (by omega), if_neg (by omega), if_pos hG.t.1.1, cal_ok (held_ hG c0 (by omega)), e]
    show _ = L_areDelivered_6 (fu' + 1) 10 210 211 212 (acc + (((lv M (36 + 2 * c)).length : Int) + smL M (c + 1) r)) 10 M
    rw [Int.add_assoc]
theorem pnone_ {n : Nat} {M : Mo} {c : Int} (hG : Good n M) (c0 : 0 ≤ c) (c1 : c < 10) (h : lv M (36 + 2 * c) = []) : X11_pass 10 c M = some (0, -1, M) ∧ X11_deliver 10 c M = some (0, -1, M) := by
  obtain ⟨⟨t1, t2, t3, -⟩, -, ⟨t11, t12, t13⟩, -⟩ := hG.t
  have ha : okA (kd M 34) = true := by rw [t11]; rfl
  have hch := t13 c c0 c1
  have hp : X11_pass 10 c M = some (0, -1, M) := by
    unfold X11_pass
    rw [wr_id (z := c) (by omega) (by omega), if_neg (by omega), if_pos t1, t3, if_pos ha, t12, wr_id (z := 10) (by omega) (by omega), if_pos (by omega), if_pos t11, if_pos (by omega), hch.1, if_pos hch.2, cal_ok (cnone_ hG.1 hch.2 (by rw [show 35 + 2 * c + 1 = 36 + 2 * c by omega]; exact h)), if_pos rfl]
  refine ⟨hp, ?_⟩
  unfold X11_deliver
  rw [if_pos t1, cal_ok (ckN_ hG c0 c1), cal_ok hp]
theorem dl63_ {n : Nat} {M : Mo} (hG : Good n M) (hl : ∀ d : Int, 0 ≤ d → d < 10 → lv M (36 + 2 * d) = []) : ∀ (r fu : Nat) (c : Int), 0 ≤ c → c + r = 10 → r < fu → L_areDelivered_63 fu 10 210 211 212 1 c M = L_areDelivered_107 10 210 211 212 1 M
  | 0, fu, c, c0, hc, hf => by
    obtain ⟨fu1, rfl⟩ : ∃ fu1, fu = fu1 + 1 := ⟨fu - 1, by omega⟩
    rw [L_areDelivered_63, wr_id (z := c) (by omega) (by omega), wr_id (z := 10) (by omega) (by omega), if_pos (by omega)]
  | r + 1, fu, c, c0, hc, hf => by
    obtain ⟨fu1, rfl⟩ : ∃ fu1, fu = fu1 + 1 := ⟨fu - 1, by omega⟩
    have hh := held_ (c := c) hG c0 (by omega)
    rw [hl c c0 (by omega)] at hh
    rw [L_areDelivered_63, wr_id (z := c) (by omega) (by omega), wr_id (z := 10) (by omega) (by omega), if_neg (by omega), if_neg (by decide), if_pos hG.t.1.1, cal_ok hh, if_pos (by decide), cal_ok (pnone_ hG c0 (by omega) (hl c c0 (by omega))).2, if_pos (by decide)]
    unfold L_areDelivered_99
    exact dl63_ hG hl r fu1 (c + 1) (by omega) (by omega) (by omega)
/-- all is delivered: what the multiplexer and the servers have -/
theorem Rel.syn {n : Nat} {M : Mo} {Hh : Int → Int → TV2} {le v0 : Int → Int} {B : Int} {bc bs : Nat} (h : Rel n M Hh (fun _ => []) (fun _ => []) le v0 B bc bs) {f : Int} (f0 : 0 ≤ f) (f1 : f < 2) : fd M 3 4 (mC f) = wN M f ∧ (∀ k : Int, 0 ≤ k → k < n → fd M 3 4 (sC k f) = if fd M 10 8 (sv k) = 1 then wN M f else -1) ∧ (el M 0 17 f ≠ -1 → tv M (mC f + 1) = curT M Hh f ∧ 1 ≤ el M 0 16 f ∧ ∀ k : Int, 0 ≤ k → k < n → fd M 10 8 (sv k) = 1 → tv M (sC k f + 1) = curT M Hh f) := by
  have hm := (h.2.1 f f0 f1).2.2.2.end
  have hsv : ∀ k : Int, 0 ≤ k → k < n → fd M 3 4 (sC k f) = if fd M 10 8 (sv k) = 1 then wN M f else -1 := fun k k0 k1 => by
    obtain ⟨q1, q2⟩ := (h.2.2.1 k k0 k1).2 f f0 f1
    by_cases c : fd M 10 8 (sv k) = 1
    · rw [if_pos c]
      have : fd M 3 4 (sC k f) = fd M 3 4 (mC f) := q2 c
      rw [this, hm]
    · rw [if_neg c]
      exact q1.2.2.2 (by have := q1.2.2.1; omega)
  refine ⟨hm, hsv, fun hH => ?_⟩
  have hw : wN M f = el M 0 16 f := by unfold wN; rw [if_neg hH]
  have hc : curT M Hh f = Hh f (el M 0 16 f) := by unfold curT; rw [if_neg hH]
  have hh := (h.2.1 f f0 f1).1.1.2
  obtain ⟨op, hC, -, hV1, -⟩ := h.pos_ (e := el M 0 17 f) (by omega) (by omega) f0 f1 rfl
  obtain ⟨-, -, m3⟩ := (h.2.1 f f0 f1).2.1.1
  refine ⟨?_, hV1, fun k k0 k1 hu => ?_⟩
  · rw [(m3 (by rw [hm, hw]; omega)).1, hm, hw, hc]
  · obtain ⟨-, -, s3⟩ := ((h.2.2.1 k k0 k1).2 f f0 f1).1.1
    have e := hsv k k0 k1
    rw [if_pos hu] at e
    rw [(s3 (by rw [e, hw]; omega)).1, e, hw, hc]
theorem dl124_ {n : Nat} {Hh : Int → Int → TV2} {le v0 : Int → Int} {B f : Int} {k110 : Int → Int → Int → Int → Int → Int → Mo → Option RS} (f0 : 0 ≤ f) (f1 : f < 2) : ∀ (r fu : Nat) (M : Mo) (w : Int) (bc bs : Nat), Rel n M Hh (fun _ => []) (fun _ => []) le v0 B bc bs → Law n M Hh (fun _ => []) → 2 ≤ w → w + r = 3 + n → r < fu → bc + 2 * r ≤ 600000 → bs + 12 * r ≤ 7290000 → ∃ M', L_areDelivered_124 k110 fu 10 210 211 212 1 f w M = k110 10 210 211 212 1 (f + 1) M' ∧ Rel n M' Hh (fun _ => []) (fun _ => []) le v0 B (bc + 2 * r) (bs + 12 * r) ∧ LD n M M' := by
  intro r
  induction r with
  | zero =>
    intro fu M w bc bs h hl w0 hw hf hbc hbs
    obtain ⟨fu1, rfl⟩ : ∃ fu1, fu = fu1 + 1 := ⟨fu - 1, by omega⟩
    have hn3 := h.1.2.1.1
    obtain ⟨⟨g1, g2⟩, -, -, g5, -⟩ := hl.2
    refine ⟨M, ?_, h, LD.rf⟩
    rw [L_areDelivered_124, if_pos g1, g2, wr_id (z := 8) (by omega) (by omega), if_pos (by omega), g5, wr_id (z := 3 + (n : Int)) (by omega) (by omega), wr_id (z := w) (by omega) (by omega), if_pos (by omega)]
    rfl
  | succ r ih =>
    intro fu M w bc bs h hl w0 hw hf hbc hbs
    obtain ⟨fu1, rfl⟩ : ∃ fu1, fu = fu1 + 1 := ⟨fu - 1, by omega⟩
    have hCC : CAPC = 600064 := rfl
    have hCS : CAPS = 7301640 := rfl
    have hG := h.1
    have hn3 := hG.2.1.1
    have hB := h.2.2.2.2.2.2.2.1
    obtain ⟨hro1, hro2⟩ := h.room
    obtain ⟨⟨g1, g2⟩, g3, g4, g5, g6⟩ := hl.2
    obtain ⟨q1, q2⟩ := g3 f f0 f1
    have hh := (h.2.1 f f0 f1).1.1.2
    have hV := h.2.2.2.2.2.2.2.2.1 f f0 f1
    have hV0 := (h.2.1 f f0 f1).1.1.1
    obtain ⟨y1, y2, y3⟩ := h.syn f0 f1
    obtain ⟨R1, L1⟩ := h.nx
    obtain ⟨R2, L2⟩ := R1.nx
    have hrow := hl.row f0 f1
    -- the copy that is looked at, its version
    obtain ⟨c, hc, hcv, hct⟩ : ∃ c, whC n w f c ∧ fd M 3 4 c = (if el M 0 17 f ≠ -1 ∧ (w = 2 ∨ fd M 10 8 (sv (w - 3)) = 1) then el M 0 16 f else -1) ∧ (el M 0 17 f ≠ -1 ∧ (w = 2 ∨ fd M 10 8 (sv (w - 3)) = 1) → tv M (c + 1) = curT M Hh f ∧ 1 ≤ el M 0 16 f) := by
      by_cases cw : w = 2
      · refine ⟨mC f, Or.inr (Or.inl ⟨cw, rfl⟩), ?_, fun z => ⟨(y3 z.1).1, (y3 z.1).2.1⟩⟩
        rw [y1]
        unfold wN
        by_cases z : el M 0 17 f = -1
        · rw [if_pos z, if_neg (fun q => q.1 z)]
        · rw [if_neg z, if_pos ⟨z, Or.inl cw⟩]
      · refine ⟨sC (w - 3) f, Or.inr (Or.inr ⟨by omega, by omega, rfl⟩), ?_, fun z => ⟨(y3 z.1).2.2 (w - 3) (by omega) (by omega) (by omega), (y3 z.1).2.1⟩⟩
        rw [y2 (w - 3) (by omega) (by omega)]
        unfold wN
        by_cases zu : fd M 10 8 (sv (w - 3)) = 1
        · rw [if_pos zu]
          by_cases z : el M 0 17 f = -1
          · rw [if_pos z, if_neg (fun q => q.1 z)]
          · rw [if_neg z, if_pos ⟨z, Or.inr zu⟩]
        · rw [if_neg zu, if_neg (fun q => by omega)]
    have hvv := vers_ hc hG f0 f1
    by_cases has : el M 0 17 f ≠ -1 ∧ (w = 2 ∨ fd M 10 8 (sv (w - 3)) = 1)
    · rw [if_pos has] at hcv
      obtain ⟨t1, t2⟩ := hct has
      have hit := isText_ hc hG f0 f1 (by omega) (by omega) t1 hrow (by omega) (by omega) (by omega)
      rw [hcv] at hvv
      obtain ⟨M', e1, e2, e3⟩ := ih fu1 (nX (nX M)) (w + 1) (bc + 1 + 1) (bs + 6 + 6) R2 ((hl.ld hG L1).ld R1.1 L2) (by omega) (by omega) (by omega) (by omega) (by omega)
      refine ⟨M', ?_, e2.up (Int.le_refl _) hB.2 (by omega) (by omega), (L1.tr L2).tr e3⟩
      have key : L_areDelivered_168 k110 (L_areDelivered_124 k110 fu1) 10 210 211 212 f w M = k110 10 210 211 212 1 (f + 1) M' := by
        unfold L_areDelivered_168 L_areDelivered_173
        rw [if_pos hG.t.1.1, cal_ok hvv, if_neg (by decide), if_pos g1, g2, wr_id (z := f) (by omega) (by omega), if_pos (by omega), q1]
        unfold L_areDelivered_196
        rw [if_pos rfl, if_neg (by decide), wr_id (z := f) (by omega) (by omega)]
        by_cases cf : f = 0
        · subst cf
          rw [if_pos rfl]
          have hit : L_isText 10 w 0 210 M = some (0, 1, nX (nX M)) := hit
          unfold L_areDelivered_219
          rw [cal_ok hit, if_neg (by decide)]
          exact e1
        · have : f = 1 := by omega
          subst this
          rw [if_neg (by decide)]
          have hit : L_isText 10 w 1 211 M = some (0, 1, nX (nX M)) := hit
          unfold L_areDelivered_219
          rw [cal_ok hit, if_neg (by decide)]
          exact e1
      rw [L_areDelivered_124, if_pos g1, g2, wr_id (z := 8) (by omega) (by omega), if_pos (by omega), g5, wr_id (z := 3 + (n : Int)) (by omega) (by omega), wr_id (z := w) (by omega) (by omega), if_neg (by omega), if_neg (by decide), wr_id (z := 2 + f) (by omega) (by omega), if_pos (by omega), q2, wr_id (z := el M 0 17 f) (by omega) (by omega), if_neg (by omega), wr_id (z := 2) (by omega) (by omega)]
      by_cases cw : w = 2
      · rw [if_pos cw, key]
      · have hu : fd M 10 8 (sv (w - 3)) = 1 := by omega
        have hg := (g6 (w - 3) (by omega) (by omega)).2.2
        rw [show 15 + (w - 3) = 15 + w - 3 by omega, hu] at hg
        rw [if_neg cw, wr_id (z := 15 + w - 3) (by omega) (by omega), if_pos (by omega), hg, if_pos rfl, key]
    · rw [if_neg has] at hcv
      rw [hcv] at hvv
      obtain ⟨M', e1, e2, e3⟩ := ih fu1 M (w + 1) bc bs h hl (by omega) (by omega) (by omega) (by omega) (by omega)
      refine ⟨M', ?_, e2.up (Int.le_refl _) hB.2 (by omega) (by omega), e3⟩
      have key : L_areDelivered_172 k110 (L_areDelivered_124 k110 fu1) 10 210 211 212 f w M = k110 10 210 211 212 1 (f + 1) M' := by
        unfold L_areDelivered_172 L_areDelivered_173
        rw [if_pos hG.t.1.1, cal_ok hvv, if_pos (by decide)]
        unfold L_areDelivered_196
        rw [if_pos rfl, if_pos (by decide)]
        exact e1
      rw [L_areDelivered_124, if_pos g1, g2, wr_id (z := 8) (by omega) (by omega), if_pos (by omega), g5, wr_id (z := 3 + (n : Int)) (by omega) (by omega), wr_id (z := w) (by omega) (by omega), if_neg (by omega), if_neg (by decide), wr_id (z := 2 + f) (by omega) (by omega), if_pos (by omega), q2, wr_id (z := el M 0 17 f) (by omega) (by omega)]
      by_cases cz : el M 0 17 f < 0
      · rw [if_pos cz, key]
      · have hw2 : w ≠ 2 := fun z => has ⟨by omega, Or.inl z⟩
        have hu : fd M 10 8 (sv (w - 3)) ≠ 1 := fun z => has ⟨by omega, Or.inr z⟩
        have hu2 := ((h.2.2.1 (w - 3) (by omega) (by omega)).2 f f0 f1).1.2.2.1
        have hg := (g6 (w - 3) (by omega) (by omega)).2.2
        rw [show 15 + (w - 3) = 15 + w - 3 by omega] at hg
        rw [if_neg cz, wr_id (z := 2) (by omega) (by omega), if_neg hw2, wr_id (z := 15 + w - 3) (by omega) (by omega), if_pos (by omega), hg, wr_id (z := fd M 10 8 (sv (w - 3))) (by omega) (by omega), wr_id (z := 1) (by omega) (by omega), if_neg hu, key]
